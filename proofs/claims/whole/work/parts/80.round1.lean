/-! rounds: ways, their days, their order -/
def stR (ρ : Nat → Int32) (w : List Nat) : Nat → Int32 := w.foldl askR ρ
def wN (ρ : Nat → Int32) (p : Nat) : Nat := (wayI (rK ρ p) (rF ρ p)).toNatClampNeg
def dyN (ρ : Nat → Int32) : List Nat → Nat
  | [] => 0
  | p :: w => wN ρ p + dyN ρ w
def codN (w : List Nat) : Nat := w.foldl (fun c t => 8 * c + t) 0
theorem stR_a (ρ : Nat → Int32) (w : List Nat) (t : Nat) : stR ρ (w ++ [t]) = askR (stR ρ w) t := by
  unfold stR
  rw [List.foldl_append]
  rfl
theorem codN_a (w : List Nat) (t : Nat) : codN (w ++ [t]) = 8 * codN w + t := by
  unfold codN
  rw [List.foldl_append]
  rfl
theorem dyN_app (ρ : Nat → Int32) (v : List Nat) : ∀ w : List Nat, dyN ρ (w ++ v) = dyN ρ w + dyN ρ v := by
  intro w
  induction w with
  | nil => show dyN ρ v = 0 + dyN ρ v; omega
  | cons p w ih =>
    show wN ρ p + dyN ρ (w ++ v) = wN ρ p + dyN ρ w + dyN ρ v
    rw [ih]; omega
theorem dyN_a (ρ : Nat → Int32) (w : List Nat) (t : Nat) : dyN ρ (w ++ [t]) = dyN ρ w + wN ρ t := by
  rw [dyN_app]
  rfl
/-- induction on a list's end -/
theorem snoc_ind {P : List Nat → Prop} (h0 : P []) (h1 : ∀ w t, P w → P (w ++ [t])) (w : List Nat) : P w := by
  have : ∀ v : List Nat, P v.reverse := by
    intro v
    induction v with
    | nil => exact h0
    | cons x v ih => rw [List.reverse_cons]; exact h1 _ _ ih
  have := this w.reverse
  rwa [List.reverse_reverse] at this
section C27
variable {ρ : Nat → Int32} {T Hn B D : Nat}
theorem stR_K (w : List Nat) : rK (stR ρ w) = rK ρ := by
  induction w using snoc_ind with
  | h0 => rfl
  | h1 w t ih => rw [stR_a, ← ih]; exact funext askR_K
theorem stR_F (w : List Nat) : rF (stR ρ w) = rF ρ := by
  induction w using snoc_ind with
  | h0 => rfl
  | h1 w t ih => rw [stR_a, ← ih]; exact funext askR_F
theorem stR_P (w : List Nat) : rP (stR ρ w) = rP ρ := by
  induction w using snoc_ind with
  | h0 => rfl
  | h1 w t ih => rw [stR_a, ← ih]; exact funext askR_P
theorem stR_H (w : List Nat) (h : ∀ x ∈ w, x < 8) : rH (stR ρ w) = rH ρ := by
  induction w using snoc_ind with
  | h0 => rfl
  | h1 w t ih =>
    rw [stR_a, ← ih (fun x hx => h x (List.mem_append_left _ hx))]
    exact funext fun u => askR_H u (h t (List.mem_append_right _ (List.mem_singleton.mpr rfl)))
theorem stR_0 (w : List Nat) : stR ρ w 0 = ρ 0 := by
  induction w using snoc_ind with
  | h0 => rfl
  | h1 w t ih => rw [stR_a, ← ih]; exact askR_n (by decide) (by omega)
theorem wN_e (h : WF ρ T Hn B) {p : Nat} (hp : p < T) : wayI (rK ρ p) (rF ρ p) = nI (wN ρ p) ∧ 1 ≤ wN ρ p ∧ wN ρ p ≤ 36 := by
  obtain ⟨w, h1, h2, e⟩ := h.way hp
  have : wN ρ p = w := by unfold wN; rw [e]; exact nI_clamp (by omega)
  rw [this]
  exact ⟨e, h1, h2⟩
theorem stR_3 (h : WF ρ T Hn B) (hD : ρ 3 = nI D) (w : List Nat) (hw : ∀ x ∈ w, x < T) : stR ρ w 3 = nI (D + dyN ρ w) := by
  induction w using snoc_ind with
  | h0 => exact hD
  | h1 w t ih =>
    have ih := ih (fun x hx => hw x (List.mem_append_left _ hx))
    have ht := hw t (List.mem_append_right _ (List.mem_singleton.mpr rfl))
    rw [stR_a, askR_3, dyN_a]
    unfold thenI
    rw [ih, stR_K, stR_F, (wN_e h ht).1, nI_add, Nat.add_assoc]
theorem stR_wf (h : WF ρ T Hn B) (h8 : T ≤ 8) (w : List Nat) (hw : ∀ x ∈ w, x < T) : WF (stR ρ w) T Hn (B + 36 * w.length) := by
  induction w using snoc_ind with
  | h0 => exact h
  | h1 w t ih =>
    have ih := ih (fun x hx => hw x (List.mem_append_left _ hx))
    have ht := hw t (List.mem_append_right _ (List.mem_singleton.mpr rfl))
    rw [stR_a]
    have := ih.ask ht h8
    rw [List.length_append]
    refine this.mono ?_
    show B + 36 * w.length + 36 ≤ B + 36 * (w.length + 1)
    omega
/-- a way behind which all is safe -/
def sfI (ρ : Nat → Int32) (T Hn : Nat) (w : List Nat) : Prop := openI ρ (rS (stR ρ w)) (stR ρ w 3) (ρ 0) T Hn = 0
def OKW (T : Nat) (w : List Nat) : Prop := w.length ≤ 4 ∧ w.Nodup ∧ ∀ x ∈ w, x < T
def VS (ρ : Nat → Int32) (T Hn : Nat) (w : List Nat) : Prop := OKW T w ∧ sfI ρ T Hn w
/-- u is as good as v, at least -/
def Gd (ρ : Nat → Int32) (u v : List Nat) : Prop := dyN ρ u < dyN ρ v ∨ (dyN ρ u = dyN ρ v ∧ (u.length < v.length ∨ (u.length = v.length ∧ codN u ≤ codN v)))
theorem Gd.rf (u : List Nat) : Gd ρ u u := Or.inr ⟨rfl, Or.inr ⟨rfl, Nat.le_refl _⟩⟩
theorem Gd.tr {u v w : List Nat} (h1 : Gd ρ u v) (h2 : Gd ρ v w) : Gd ρ u w := by
  unfold Gd at *
  omega
theorem dy_ext (h : WF ρ T Hn B) (w : List Nat) {x : Nat} {s : List Nat} (hw : OKW T (w ++ x :: s)) : dyN ρ w < dyN ρ (w ++ x :: s) := by
  rw [dyN_app]
  have hx := hw.2.2 x (List.mem_append_right _ (List.mem_cons_self ..))
  have := (wN_e h hx).2.1
  show dyN ρ w < dyN ρ w + (wN ρ x + dyN ρ s)
  omega
/-- codes of four figures -/
def pcN (w : List Nat) : Nat := codN w * 8 ^ (4 - w.length)
theorem pcN_a (w : List Nat) (t : Nat) (h : w.length < 4) : pcN (w ++ [t]) = pcN w + t * 8 ^ (3 - w.length) := by
  unfold pcN
  rw [codN_a, List.length_append]
  have e : 8 ^ (4 - w.length) = 8 * 8 ^ (3 - w.length) := by
    rw [show 4 - w.length = (3 - w.length) + 1 by omega, Nat.pow_succ, Nat.mul_comm]
  rw [e, show 4 - (w.length + [t].length) = 3 - w.length by simp, Nat.add_mul, Nat.mul_comm 8 (codN w), Nat.mul_assoc]
theorem pcN_ext : ∀ (s w : List Nat), (w ++ s).length ≤ 4 → (∀ x ∈ s, x < 8) → pcN w ≤ pcN (w ++ s) ∧ pcN (w ++ s) < pcN w + 8 ^ (4 - w.length) := by
  intro s
  induction s with
  | nil =>
    intro w _ _
    rw [List.append_nil]
    exact ⟨Nat.le_refl _, Nat.lt_add_of_pos_right (Nat.pow_pos (by decide))⟩
  | cons x s ih =>
    intro w hl hs
    have hl4 : w.length < 4 := by rw [List.length_append, List.length_cons] at hl; omega
    have e : w ++ x :: s = (w ++ [x]) ++ s := by rw [List.append_assoc]; rfl
    rw [e] at hl ⊢
    obtain ⟨h1, h2⟩ := ih (w ++ [x]) hl (fun y hy => hs y (List.mem_cons_of_mem _ hy))
    rw [pcN_a w x hl4] at h1 h2
    have e2 : 8 ^ (4 - w.length) = 8 * 8 ^ (3 - w.length) := by
      rw [show 4 - w.length = (3 - w.length) + 1 by omega, Nat.pow_succ, Nat.mul_comm]
    rw [show 4 - (w ++ [x]).length = 3 - w.length by rw [List.length_append]; simp] at h2
    have hx : x < 8 := hs x (List.mem_cons_self ..)
    have hm : x * 8 ^ (3 - w.length) + 8 ^ (3 - w.length) ≤ 8 * 8 ^ (3 - w.length) := by
      have : (x + 1) * 8 ^ (3 - w.length) ≤ 8 * 8 ^ (3 - w.length) := Nat.mul_le_mul_right _ hx
      rw [Nat.add_mul, Nat.one_mul] at this
      exact this
    rw [e2]
    exact ⟨by omega, by omega⟩
theorem pc_cod {u v : List Nat} (hl : u.length = v.length) (h : pcN u ≤ pcN v) : codN u ≤ codN v := by
  unfold pcN at h
  rw [hl] at h
  exact Nat.le_of_mul_le_mul_right h (Nat.pow_pos (by decide))
/-- codes tell ways of a length apart -/
theorem cod_inj : ∀ (u v : List Nat), u.length = v.length → (∀ x ∈ u, x < 8) → (∀ x ∈ v, x < 8) → codN u = codN v → u = v := by
  intro u
  induction u using snoc_ind with
  | h0 =>
    intro v hl _ _ _
    exact (List.eq_nil_of_length_eq_zero hl.symm).symm
  | h1 u x ih =>
    intro v
    induction v using snoc_ind with
    | h0 => intro hl; rw [List.length_append] at hl; simp at hl
    | h1 v y _ =>
      intro hl hu hv hc
      rw [codN_a, codN_a] at hc
      have hx := hu x (List.mem_append_right _ (List.mem_singleton.mpr rfl))
      have hy := hv y (List.mem_append_right _ (List.mem_singleton.mpr rfl))
      have e1 : codN u = codN v := by omega
      have e2 : x = y := by omega
      have hl' : u.length = v.length := by
        rw [List.length_append, List.length_append] at hl
        simpa using hl
      rw [ih v hl' (fun z hz => hu z (List.mem_append_left _ hz)) (fun z hz => hv z (List.mem_append_left _ hz)) e1, e2]
/-- the best way, and how it is found -/
def Bst (ρ : Nat → Int32) (T Hn : Nat) (b : Option (List Nat)) : Prop := (∀ u, b = some u → VS ρ T Hn u) ∧ ∀ v, VS ρ T Hn v → ∃ u, b = some u ∧ Gd ρ u v
theorem Bst.uniq (h8 : T ≤ 8) {a b : Option (List Nat)} (ha : Bst ρ T Hn a) (hb : Bst ρ T Hn b) : a = b := by
  cases a with
  | none =>
    cases b with
    | none => rfl
    | some v =>
      obtain ⟨u, hu, -⟩ := ha.2 v (hb.1 v rfl)
      cases hu
  | some u =>
    obtain ⟨v, hv, g1⟩ := hb.2 u (ha.1 u rfl)
    obtain ⟨u', hu', g2⟩ := ha.2 v (hb.1 v hv)
    cases hu'
    rw [hv]
    have hu := ha.1 u rfl
    have hvv := hb.1 v hv
    unfold Gd at g1 g2
    rw [cod_inj u v (by omega) (fun x hx => Nat.lt_of_lt_of_le (hu.1.2.2 x hx) h8) (fun x hx => Nat.lt_of_lt_of_le (hvv.1.2.2 x hx) h8) (by omega)]
end C27
