/-! rounds: the class goes on, all the way -/
section C30
variable {R : hR} {TH : hT} {N T Hn B D : Nat} {ρ : Nat → Int32}
/-- what the things before t did to the best way -/
def LW (ρ : Nat → Int32) (T Hn : Nat) (w : List Nat) (t : Nat) (b b' : Option (List Nat)) : Prop :=
  (b' = b ∨ ∃ x s, x < t ∧ b' = some (w ++ x :: s)) ∧ (∀ u, b = some u → ∃ v, b' = some v ∧ Gd ρ v u) ∧ ∀ x s, x < t → VS ρ T Hn (w ++ x :: s) → ∃ u, b' = some u ∧ Gd ρ u (w ++ x :: s)
theorem BR.vs {X : hX} {b : Option (List Nat)} {u : List Nat} (h : BR ρ T Hn X b) (e : b = some u) : VS ρ T Hn u := by
  subst e
  exact h.2.2.2
theorem app1 (w : List Nat) (t : Nat) (s : List Nat) : (w ++ [t]) ++ s = w ++ t :: s := by rw [List.append_assoc]; rfl
theorem t17 (hwf : WF ρ T Hn B) (hB : B ≤ 1000) (hD : ρ 3 = nI D) (hD9 : D ≤ 1000) : ∀ (m e : Nat) (w : List Nat) (X : hX) (b : Option (List Nat)) (g : Nat) (Q : Option Value → px_H → Prop), m ≤ e → w.length + m = 4 → OKW T w → GS ρ T Hn R TH X w b → (∀ u, b = some u → pcN u ≤ pcN w) → g < 256 → (∀ i, i < 8 → (g.testBit i = true ↔ i ∈ w)) →
    (∀ X' b', GF X X' w.length → GS ρ T Hn R TH X' w b' → PW ρ T Hn w b b' → Q none (hp X' R TH N)) →
    wc (e + 3) 17 [.ref 15, .int (nI w.length), .int (nI g), .int (nI D)] (hp X R TH N) Q := by
  intro m
  induction m with
  | zero =>
    intro e w X b g Q he hm hok hg hpb hg8 hbits hQ
    have hr := hg.1
    have h8 := hr.2.2.2.1
    have hw8 : ∀ x ∈ w, x < 8 := fun x hx => Nat.lt_of_lt_of_le (hok.2.2 x hx) h8
    have hwfw := stR_wf hwf h8 w hok.2.2
    have hdb := dy_b hwf w hok.2.2
    have e3 := stR_3 hwf hD w hok.2.2
    have x8 : X 16 8 = nI (D + dyN ρ w) := hr.2.2.2.2.2.2.2.1.trans e3
    have eD : nI (D + dyN ρ w) - nI D = nI (dyN ρ w) := by rw [nI_sub (by omega)]; congr 1; omega
    have eO : openI (stR ρ w) (rS (stR ρ w)) (nI (D + dyN ρ w)) (stR ρ w 0) T Hn = openI ρ (rS (stR ρ w)) (stR ρ w 3) (ρ 0) T Hn := by
      rw [open_c (stR_K w) (stR_H w hw8), stR_0, e3]
    have k4 : ((4 : Int32) ≤ nI w.length) = True := eq_true (by rw [show w.length = 4 by omega]; decide)
    simp only [S17, G15, GRealm r16, x8, eD, t59 r16 hr (hwfw.ov0 (by omega) _), eO, px_op_some, px_op_none, tl_some, tl_none, ap_one, ap_nil, z01, o01, true_and, and_true, true_or, or_true, i10, i01, if_true, if_false, eq_self]
    by_cases hs : openI ρ (rS (stR ρ w)) (stR ρ w 3) (ρ 0) T Hn = 0
    · rw [if_pos hs]
      refine t18 hwf ⟨hok, hs⟩ hg.2.2.2 hg.2.2.1 (fun X' p1 p2 => ?_)
      simp only [S17, px_op_some, px_op_none, tl_some, tl_none, ap_one, ap_nil, z01, o01, true_and, and_true, true_or, or_true, i10, i01, if_true, if_false, eq_self]
      refine hQ X' _ ⟨fun c hc => p1 c (by omega) (by omega), fun j _ => by rw [p1 20 (by decide) (by decide)], fun j _ => by rw [p1 21 (by decide) (by decide)]⟩ ⟨?_, ?_, ?_, p2⟩ (PW.keep hwf hpb)
      · unfold RR
        rw [p1 16 (by decide) (by decide), p1 (16 + 2) (by decide) (by decide), p1 (16 + 3) (by decide) (by decide)]
        exact hr
      · rw [p1 16 (by decide) (by decide)]; exact hg.2.1
      · rw [p1 21 (by decide) (by decide)]; exact hg.2.2.1
    · rw [if_neg hs]
      simp only [S17, k4, px_op_some, px_op_none, tl_some, tl_none, ap_one, ap_nil, z01, o01, true_and, and_true, true_or, or_true, i10, i01, if_true, if_false, eq_self]
      refine hQ X b (GF.rf X _) hg ⟨Or.inl rfl, fun u hu => ⟨u, hu, Gd.rf u⟩, fun s hv => ?_⟩
      cases s with
      | nil =>
        rw [List.append_nil] at hv
        exact absurd hv.2 hs
      | cons x s =>
        have := hv.1.1
        rw [List.length_append, List.length_cons] at this
        omega
  | succ m ih =>
    intro e0 w X b g Q he hm hok hg hpb hg8 hbits hQ
    obtain ⟨e, rfl⟩ : ∃ e, e0 = e + 1 := ⟨e0 - 1, by omega⟩
    have hr := hg.1
    have h8 := hr.2.2.2.1
    have hl4 : w.length < 4 := by omega
    have hw8 : ∀ x ∈ w, x < 8 := fun x hx => Nat.lt_of_lt_of_le (hok.2.2 x hx) h8
    have hwfw := stR_wf hwf h8 w hok.2.2
    have hdb := dy_b hwf w hok.2.2
    have e3 := stR_3 hwf hD w hok.2.2
    have x8 : X 16 8 = nI (D + dyN ρ w) := hr.2.2.2.2.2.2.2.1.trans e3
    have eD : nI (D + dyN ρ w) - nI D = nI (dyN ρ w) := by rw [nI_sub (by omega)]; congr 1; omega
    have eO : openI (stR ρ w) (rS (stR ρ w)) (nI (D + dyN ρ w)) (stR ρ w 0) T Hn = openI ρ (rS (stR ρ w)) (stR ρ w 3) (ρ 0) T Hn := by
      rw [open_c (stR_K w) (stR_H w hw8), stR_0, e3]
    have k4 : ((4 : Int32) ≤ nI w.length) = False := i_nI_lt (T := 4) hl4 (by decide)
    by_cases hs : openI ρ (rS (stR ρ w)) (stR ρ w 3) (ρ 0) T Hn = 0
    · simp only [S17, G15, GRealm r16, x8, eD, t59 r16 hr (hwfw.ov0 (by omega) _), eO, hs, px_op_some, px_op_none, tl_some, tl_none, ap_one, ap_nil, z01, o01, true_and, and_true, true_or, or_true, i10, i01, if_true, if_false, eq_self]
      refine t18 hwf ⟨hok, hs⟩ hg.2.2.2 hg.2.2.1 (fun X' p1 p2 => ?_)
      simp only [S17, px_op_some, px_op_none, tl_some, tl_none, ap_one, ap_nil, z01, o01, true_and, and_true, true_or, or_true, i10, i01, if_true, if_false, eq_self]
      refine hQ X' _ ⟨fun c hc => p1 c (by omega) (by omega), fun j _ => by rw [p1 20 (by decide) (by decide)], fun j _ => by rw [p1 21 (by decide) (by decide)]⟩ ⟨?_, ?_, ?_, p2⟩ (PW.keep hwf hpb)
      · unfold RR
        rw [p1 16 (by decide) (by decide), p1 (16 + 2) (by decide) (by decide), p1 (16 + 3) (by decide) (by decide)]
        exact hr
      · rw [p1 16 (by decide) (by decide)]; exact hg.2.1
      · rw [p1 21 (by decide) (by decide)]; exact hg.2.2.1
    · -- the loop over things
      have loop : ∀ (n t : Nat) (X1 : hX) (b1 : Option (List Nat)) (l6 : Option Value), t + n = T → GS ρ T Hn R TH X1 w b1 → GF X X1 w.length → LW ρ T Hn w t b b1 → wp (e + 4) 17 63 [some (.ref 15), some (.int (nI w.length)), some (.int (nI g)), some (.int (nI D)), some (.int (nI (dyN ρ w))), some (.int (nI t)), l6] [] (hp X1 R TH N) 0 Q := by
        intro n
        induction n with
        | zero =>
          intro t X1 b1 l6 ht hg1 hf1 hlw
          obtain rfl : t = T := by omega
          rw [H17_63]
          simp only [S17, G15, GRealm r16, hg1.1.2.1, i_nI_le, px_op_some, px_op_none, tl_some, tl_none, ap_one, ap_nil, z01, o01, true_and, and_true, true_or, or_true, i10, i01, if_true, if_false, eq_self]
          refine hQ X1 b1 hf1 hg1 ⟨?_, hlw.2.1, fun s hv => ?_⟩
          · rcases hlw.1 with z | ⟨x, s, -, z⟩
            · exact Or.inl z
            · exact Or.inr ⟨x :: s, z⟩
          · cases s with
            | nil =>
              rw [List.append_nil] at hv
              exact absurd hv.2 hs
            | cons x s =>
              exact hlw.2.2 x s (hv.1.2.2 x (List.mem_append_right _ (List.mem_cons_self ..))) hv
        | succ n ihn =>
          intro t X1 b1 l6 ht hg1 hf1 hlw
          have htT : t < T := by omega
          have hr1 := hg1.1
          obtain ⟨q, κ, hq, hth, hk, -⟩ := hr1.2.2.2.2.2.2.2.2.2.1 t htT
          have er : va_rf (some q) = .ref q := rfl
          have hq16 : R (16 + 1) t = some q := hq
          have hlt := i_nI_lt htT (show T < 2 ^ 31 by omega)
          rw [H17_63]
          by_cases htw : t ∈ w
          · have hbit : nI g >>> (nI t &&& 31) &&& 1 = 1 := (bit_test g hg8 t (by omega)).mpr ((hbits t (by omega)).mpr htw)
            simp only [S17, G15, GRealm r16, hr1.2.1, hlt, t47 r16 hr1 htT, hq16, er, hbit, nI_1, px_op_some, px_op_none, tl_some, tl_none, ap_one, ap_nil, z01, o01, true_and, and_true, true_or, or_true, i10, i01, if_true, if_false, eq_self]
            refine ihn (t + 1) X1 b1 _ (by omega) hg1 hf1 ⟨?_, hlw.2.1, fun x s hx hv => ?_⟩
            · rcases hlw.1 with z | ⟨x, s, hx, z⟩
              · exact Or.inl z
              · exact Or.inr ⟨x, s, by omega, z⟩
            · by_cases hxt : x = t
              · subst hxt
                have hnd := hv.1.2.1
                rw [List.nodup_append] at hnd
                exact absurd rfl (hnd.2.2 x htw x (List.mem_cons_self ..))
              · exact hlw.2.2 x s (by omega) hv
          · have hbit : nI g >>> (nI t &&& 31) &&& 1 = 0 := by
              rcases and1 (nI g >>> (nI t &&& 31)) with z | z
              · exact z
              · exact absurd ((hbits t (by omega)).mp ((bit_test g hg8 t (by omega)).mp z)) htw
            have hr1' : RR (upA X1 21 (upd (X1 21) w.length (nI t))) R TH 16 (stR ρ w) T Hn := hr1.up (by decide) (by decide) (by decide)
            have h7' : (upA X1 21 (upd (X1 21) w.length (nI t))) 16 7 = nI w.length := by rw [upA_n (by decide)]; exact hg1.2.1
            have hwy := hwfw.wayC htT hth.2.1 hk
            have eX : seX (upA X1 21 (upd (X1 21) w.length (nI t))) 16 w.length (stR ρ w) t = chX X1 ρ w t := rfl
            have el : (w ++ [t]).length = w.length + 1 := by rw [List.length_append]; rfl
            simp only [(S17).2, G15, GRealm r16, hr1.2.1, hlt, t47 r16 hr1 htT, hq16, er, hbit, A21_p hl4, t51 (d := e + 1) r16 hr1' htT hth hk hwy h7' (show w.length ≤ 24 by omega), eX, nI_1, (or_pow g hg8 t (by omega)).1, px_op_some, px_op_none, tl_some, tl_none, ap_one, ap_nil, z01, o01, true_and, and_true, true_or, or_true, i10, i01, if_true, if_false, eq_self]
            rw [← el]
            have hokt : OKW T (w ++ [t]) := by
              refine ⟨by rw [el]; omega, ?_, fun x hx => ?_⟩
              · rw [List.nodup_append]
                refine ⟨hok.2.1, by simp, fun a ha b hb => ?_⟩
                rw [List.mem_singleton] at hb
                subst hb
                rintro rfl
                exact htw ha
              · rcases List.mem_append.mp hx with z | z
                · exact hok.2.2 x z
                · rw [List.mem_singleton] at z; omega
            have hpt := pcN_a w t hl4
            refine ih e (w ++ [t]) (chX X1 ρ w t) b1 (g ||| 2 ^ t) _ (by omega) (by rw [el]; omega) hokt (hg1.child hl4 htT).1 ?_ (or_pow g hg8 t (by omega)).2 ?_ ?_
            · intro u hu
              rcases hlw.1 with z | ⟨x, s, hx, z⟩
              · have := hpb u (z ▸ hu)
                rw [hpt]; omega
              · have hu' := hg1.2.2.2.vs hu
                rw [z] at hu
                cases hu
                have hl := hu'.1.1
                have hx8 : ∀ y ∈ s, y < 8 := fun y hy => Nat.lt_of_lt_of_le (hu'.1.2.2 y (List.mem_append_right _ (List.mem_cons_of_mem _ hy))) h8
                rw [← app1] at hl ⊢
                have := (pcN_ext s (w ++ [x]) hl hx8).2
                rw [pcN_a w x hl4, show 4 - (w ++ [x]).length = 3 - w.length by rw [List.length_append]; simp] at this
                have hm' : x * 8 ^ (3 - w.length) + 8 ^ (3 - w.length) ≤ t * 8 ^ (3 - w.length) := by
                  have := Nat.mul_le_mul_right (8 ^ (3 - w.length)) (show x + 1 ≤ t from hx)
                  rw [Nat.add_mul, Nat.one_mul] at this
                  exact this
                rw [hpt]; omega
            · intro i hi
              rw [Nat.testBit_or, Nat.testBit_two_pow, Bool.or_eq_true, hbits i hi, List.mem_append, List.mem_singleton, decide_eq_true_eq]
              exact or_congr Iff.rfl ⟨Eq.symm, Eq.symm⟩
            · intro X3 b3 f3 g3 p3
              obtain ⟨k1, k2, k3, k4'⟩ := hg1.back hl4 htT g3 f3
              have hr3 := g3.1
              simp only [S17, G15, GRealm r16, t54p (d := e + 2) r16 hr3.2.1 h8 htT k3 (show w.length < 24 by omega) k4', nI_1, px_op_some, px_op_none, tl_some, tl_none, ap_one, ap_nil, z01, o01, true_and, and_true, true_or, or_true, i10, i01, if_true, if_false, eq_self]
              refine ihn (t + 1) _ b3 _ (by omega) k1 (hf1.tr k2) ⟨?_, ?_, fun x s hx hv => ?_⟩
              · rcases p3.1 with z | ⟨s, z⟩
                · rw [z]
                  rcases hlw.1 with y | ⟨x, s, hx, y⟩
                  · exact Or.inl y
                  · exact Or.inr ⟨x, s, by omega, y⟩
                · rw [app1] at z
                  exact Or.inr ⟨t, s, by omega, z⟩
              · intro u hu
                obtain ⟨v, hv, g1⟩ := hlw.2.1 u hu
                obtain ⟨v', hv', g2⟩ := p3.2.1 v hv
                exact ⟨v', hv', g2.tr g1⟩
              · by_cases hxt : x = t
                · subst hxt
                  have := p3.2.2 s (by rw [app1]; exact hv)
                  rw [app1] at this
                  exact this
                · obtain ⟨u, hu, g1⟩ := hlw.2.2 x s (by omega) hv
                  obtain ⟨v', hv', g2⟩ := p3.2.1 u hu
                  exact ⟨v', hv', g2.tr g1⟩
      have go := loop T 0 X b none (by omega) hg (GF.rf X _) ⟨Or.inl rfl, fun u hu => ⟨u, hu, Gd.rf u⟩, fun x s hx => absurd hx (Nat.not_lt_zero x)⟩
      have go' : wp (e + 4) 17 63 [some (.ref 15), some (.int (nI w.length)), some (.int (nI g)), some (.int (nI D)), some (.int (nI (dyN ρ w))), some (.int 0), none] [] (hp X R TH N) 0 Q := go
      cases b with
      | none =>
        have b3 := hg.2.2.2.1
        simp only [S17, G15, GRealm r16, x8, eD, t59 r16 hr (hwfw.ov0 (by omega) _), eO, hs, k4, b3, px_op_some, px_op_none, tl_some, tl_none, ap_one, ap_nil, z01, o01, true_and, and_true, true_or, or_true, i10, i01, if_true, if_false, eq_self]
        exact go'
      | some u =>
        obtain ⟨b3, -, -, hvu⟩ := hg.2.2.2
        have hdu := dy_b hwf u hvu.1.2.2
        have hlu := hvu.1.1
        have c1 : (nI (dyN ρ u) = -1000000) = False := i_nn (by omega)
        have c2 : (nI (dyN ρ w) < nI (dyN ρ u)) = (dyN ρ w < dyN ρ u) := propext (nI_ltI (by omega) (by omega))
        simp only [S17, G15, GRealm r16, x8, eD, t59 r16 hr (hwfw.ov0 (by omega) _), eO, hs, k4, b3, c1, c2, px_op_some, px_op_none, tl_some, tl_none, ap_one, ap_nil, z01, o01, true_and, and_true, true_or, or_true, i10, i01, if_true, if_false, eq_self]
        by_cases hc : dyN ρ w < dyN ρ u
        · rw [if_pos hc]
          exact go'
        · rw [if_neg hc]
          refine hQ X (some u) (GF.rf X _) hg ⟨Or.inl rfl, fun u hu => ⟨u, hu, Gd.rf u⟩, fun s hv => ⟨u, rfl, ?_⟩⟩
          cases s with
          | nil =>
            rw [List.append_nil] at hv
            exact absurd hv.2 hs
          | cons x s =>
            have := dy_ext hwf w hv.1
            left
            omega
end C30
