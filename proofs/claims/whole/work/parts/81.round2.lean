/-! rounds: the class keeps the best way -/
/-- the best way as the oracle keeps it -/
def BR (ρ : Nat → Int32) (T Hn : Nat) (X : hX) : Option (List Nat) → Prop
  | none => X 15 3 = -1000000 ∧ X 15 4 = -1000000
  | some u => X 15 3 = nI (dyN ρ u) ∧ X 15 4 = nI u.length ∧ (∀ j, j < u.length → X 22 j = nI (u.getD j 0)) ∧ VS ρ T Hn u
def kpW (ρ : Nat → Int32) (w : List Nat) : Option (List Nat) → Option (List Nat)
  | none => some w
  | some u => if dyN ρ w < dyN ρ u ∨ (dyN ρ w = dyN ρ u ∧ w.length < u.length) then some w else some u
section C28
variable {d : Nat} {X : hX} {R : hR} {TH : hT} {N T Hn B D : Nat} {ρ : Nat → Int32} {w : List Nat} {b : Option (List Nat)} {Q : Option Value → px_H → Prop}
theorem dy_b (h : WF ρ T Hn B) : ∀ (w : List Nat), (∀ x ∈ w, x < T) → dyN ρ w ≤ 36 * w.length := by
  intro w
  induction w with
  | nil => intro _; exact Nat.le_refl _
  | cons x w ih =>
    intro hw
    have := ih (fun y hy => hw y (List.mem_cons_of_mem _ hy))
    have hx := (wN_e h (hw x (List.mem_cons_self ..))).2.2
    show wN ρ x + dyN ρ w ≤ 36 * (w.length + 1)
    omega
theorem BR.up {X' : hX} (h : BR ρ T Hn X b) (h15 : X' 15 = X 15) (h22 : X' 22 = X 22) : BR ρ T Hn X' b := by
  cases b with
  | none => unfold BR at h ⊢; rw [h15]; exact h
  | some u => unfold BR at h ⊢; rw [h15, h22]; exact h
/-- keepWay -/
theorem t18 (hwf : WF ρ T Hn B) (hv : VS ρ T Hn w) (hb : BR ρ T Hn X b) (hw : ∀ j, j < w.length → X 21 j = nI (w.getD j 0)) (hQ : ∀ X', (∀ c, c ≠ 15 → c ≠ 22 → X' c = X c) → BR ρ T Hn X' (kpW ρ w b) → Q none (hp X' R TH N)) : wc d 18 [.ref 15, .int (nI w.length), .int (nI (dyN ρ w))] (hp X R TH N) Q := by
  have hl := hv.1.1
  have hdw := dy_b hwf w hv.1.2.2
  have ec : ∀ (X : hX), px_cpy (hp X R TH N) 21 0 22 0 4 = some (hp (upA X 22 (va_cpy (X 21) (X 22) 0 0 4)) R TH N) := fun X => y_cpy (sp := 0) (dp := 0) (n := 4) (p0 := 21) (p := 22) (n0 := 4) (n1 := 4) rfl rfl (by decide) (by decide) (by decide) (by decide)
  have put : Q none (hp (upA (upA X 15 (upd (upd (X 15) 3 (nI (dyN ρ w))) 4 (nI w.length))) 22 (va_cpy (X 21) (X 22) 0 0 4)) R TH N) ∨ kpW ρ w b ≠ some w := by
    by_cases hk : kpW ρ w b = some w
    · left
      refine hQ _ (fun c h1 h2 => by rw [upA_n h2, upA_n h1]) ?_
      rw [hk]
      refine ⟨?_, ?_, fun j hj => ?_, hv⟩
      · rw [upA_n (by decide), upA_s, upd_n (by decide), upd_s]
      · rw [upA_n (by decide), upA_s, upd_s]
      · rw [upA_s, ← hw j hj]
        unfold va_cpy
        rw [if_pos (by omega), Nat.zero_add, Nat.sub_zero]
    · exact Or.inr hk
  cases b with
  | none =>
    have hp0 := put.resolve_right (fun z => z rfl)
    simp only [S18, G15, hb.1, ec, px_op_some, px_op_none, tl_some, tl_none, ap_one, ap_nil, z01, o01, true_and, and_true, true_or, or_true, i10, i01, if_true, if_false, eq_self, upA_s, upA_n, upd_s, upd_n, ne_eq, Nat.reduceEqDiff, not_false_eq_true, upA_upA]
    exact hp0
  | some u =>
    obtain ⟨b3, b4, b5, b6⟩ := hb
    have hdu := dy_b hwf u b6.1.2.2
    have hlu := b6.1.1
    have e1 : (nI (dyN ρ u) = -1000000) = False := i_nn (by omega)
    have e2 : (nI (dyN ρ w) < nI (dyN ρ u)) = (dyN ρ w < dyN ρ u) := propext (nI_ltI (by omega) (by omega))
    have e3 : (nI (dyN ρ w) = nI (dyN ρ u)) = (dyN ρ w = dyN ρ u) := propext (nI_eq (by omega) (by omega))
    have e4 : (nI u.length ≤ nI w.length) = (u.length ≤ w.length) := propext (nI_leI (by omega) (by omega))
    have old : kpW ρ w (some u) = some u → Q none (hp X R TH N) := fun hk => hQ X (fun _ _ _ => rfl) (by rw [hk]; exact ⟨b3, b4, b5, b6⟩)
    simp only [S18, G15, b3, b4, e1, e2, e3, e4, ec, px_op_some, px_op_none, tl_some, tl_none, ap_one, ap_nil, z01, o01, true_and, and_true, true_or, or_true, i10, i01, if_true, if_false, eq_self, upA_s, upA_n, upd_s, upd_n, ne_eq, Nat.reduceEqDiff, not_false_eq_true, upA_upA]
    by_cases c1 : dyN ρ w < dyN ρ u
    · rw [if_pos c1]
      exact put.resolve_right (fun z => z (if_pos (Or.inl c1)))
    · rw [if_neg c1]
      by_cases c2 : dyN ρ w = dyN ρ u
      · rw [if_pos c2]
        by_cases c3 : u.length ≤ w.length
        · rw [if_pos c3]
          exact old (if_neg (by omega))
        · rw [if_neg c3]
          exact put.resolve_right (fun z => z (if_pos (Or.inr ⟨c2, by omega⟩)))
      · rw [if_neg c2]
        exact old (if_neg (by omega))
/-- what a subtree does to the best way -/
def PW (ρ : Nat → Int32) (T Hn : Nat) (w : List Nat) (b b' : Option (List Nat)) : Prop :=
  (b' = b ∨ ∃ s, b' = some (w ++ s)) ∧ (∀ u, b = some u → ∃ v, b' = some v ∧ Gd ρ v u) ∧ ∀ s, VS ρ T Hn (w ++ s) → ∃ u, b' = some u ∧ Gd ρ u (w ++ s)
theorem PW.keep (hwf : WF ρ T Hn B) (hpb : ∀ u, b = some u → pcN u ≤ pcN w) : PW ρ T Hn w b (kpW ρ w b) := by
  have gw : ∀ s, VS ρ T Hn (w ++ s) → Gd ρ w (w ++ s) := by
    intro s hs
    cases s with
    | nil => rw [List.append_nil]; exact Gd.rf w
    | cons x s => exact Or.inl (dy_ext hwf w hs.1)
  cases b with
  | none => exact ⟨Or.inr ⟨[], by rw [List.append_nil]; rfl⟩, fun u hu => (by cases hu), fun s hs => ⟨w, rfl, gw s hs⟩⟩
  | some u =>
    have hpu := hpb u rfl
    by_cases hc : dyN ρ w < dyN ρ u ∨ (dyN ρ w = dyN ρ u ∧ w.length < u.length)
    · have e : kpW ρ w (some u) = some w := if_pos hc
      rw [e]
      refine ⟨Or.inr ⟨[], by rw [List.append_nil]⟩, fun u' hu' => ?_, fun s hs => ⟨w, rfl, gw s hs⟩⟩
      cases hu'
      refine ⟨w, rfl, ?_⟩
      unfold Gd
      omega
    · have e : kpW ρ w (some u) = some u := if_neg hc
      rw [e]
      refine ⟨Or.inl rfl, fun u' hu' => ⟨u', hu', Gd.rf u'⟩, fun s hs => ⟨u, rfl, Gd.tr ?_ (gw s hs)⟩⟩
      unfold Gd
      by_cases hl : u.length = w.length
      · have := pc_cod hl hpu
        omega
      · omega
end C28
