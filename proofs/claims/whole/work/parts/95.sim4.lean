/-! class and reference: what is found -/
section C42
variable {X : hX} {R : hR} {TH : hT} {N T Hn : Nat}
theorem MB.u0 {f : Nat → Int32} (h : MB X T Hn) : MB (upA X 0 f) T Hn := h.up (by decide) (by decide)
theorem PI.fl {v v' w : Int32} (h : Inv X R TH N) (e : v' = v) : PI (some (.int v)) (some (.int v')) (hp (upA (upA X 0 (upd (X 0) 8 w)) 51 (upd (X 51) 3 w)) R TH N) := PI.mk e (h.fl w)
end C42
theorem sim_as {x k : Int32} : Sim 124 205 [.int x, .int k] := by
  intro d X R TH N h
  obtain ⟨T, Hn, a, hP, -⟩ := h.2.2.2.1
  have hm := hP.mb h.1.1
  have hr := hP.1
  have h8 := hr.2.2.2.1
  have bad : ¬ ((0 ≤ x ∧ x ≤ nI T - 1) ∧ (0 ≤ k ∧ k ≤ 5)) → wc (d + 12) 205 [.ref 51, .int x, .int k] (hp X R TH N) (PI (some (.int (-1000001)))) := fun z => by
    rw [t205 hm, if_neg z]
    exact PI.mk rfl h
  by_cases hx : 0 ≤ x ∧ x < nI T
  · obtain ⟨p, hpT, rfl⟩ := (ltT h8).mp hx
    have hx' := (inlt h8).mpr hx
    obtain ⟨q, κ, hq, hth, hk, hs⟩ := hr.2.2.2.2.2.2.2.2.2.1 p hpT
    have hq' : R (9 + 1) p = some q := hq
    by_cases k0 : k < 0
    · simp only [S124, G0, GRealm r9, t47 r9 hr hpT, hq', vrf, k0, px_op_some, px_op_none, tl_some, tl_none, ap_one, ap_nil, z01, o01, true_and, and_true, true_or, or_true, i10, i01, if_true, if_false, eq_self]
      exact bad (fun z => absurd z.2.1 (by rw [Int32.not_le]; exact k0))
    by_cases k5 : k ≤ 5
    · have hk5 : 0 ≤ k ∧ k ≤ 5 := ⟨Int32.not_lt.mp k0, k5⟩
      have e1 : (-1000010 : Int32) - 3 = -1000013 := by decide
      have n51 : (51 : Nat) ≠ 0 := by decide
      have n55 : (55 : Nat) ≠ 0 := by decide
      simp only [S124, G0, GRealm r9, t47 r9 hr hpT, hq', vrf, k0, k5, v_isOf hth, th_fld hth, t129, t130, b2_0, e1, px_op_some, px_op_none, tl_some, tl_none, ap_one, ap_nil, z01, o01, true_and, and_true, true_or, or_true, i10, i01, if_true, if_false, eq_self]
      by_cases hc : k = 0 ∨ k = nI κ ∨ (k = 1 ∧ 2 ≤ nI κ ∧ nI κ ≤ 3) ∨ (k = 4 ∧ nI κ = 5)
      · rw [if_neg (fun z : ¬ _ => z hc), t205 hm.u0, if_pos ⟨hx', hk5⟩, nI_clamp (by omega), upA_n n55, hk, if_pos hc, upA_n n51]
        exact PI.fl h rfl
      · rw [if_pos hc, t205 hm.u0, if_pos ⟨hx', hk5⟩, nI_clamp (by omega), upA_n n55, hk, if_neg hc, upA_n n51]
        exact PI.fl h rfl
    · simp only [S124, G0, GRealm r9, t47 r9 hr hpT, hq', vrf, k0, k5, px_op_some, px_op_none, tl_some, tl_none, ap_one, ap_nil, z01, o01, true_and, and_true, true_or, or_true, i10, i01, if_true, if_false, eq_self]
      exact bad (fun z => k5 z.2.2)
  · simp only [S124, G0, GRealm r9, t47n r9 hr hx, px_op_some, px_op_none, tl_some, tl_none, ap_one, ap_nil, z01, o01, true_and, and_true, true_or, or_true, i10, i01, if_true, if_false, eq_self]
    exact bad (fun z => hx ((inlt h8).mp z.1))
theorem n1_lt {n : Int32} : (1 ≤ n ∧ n ≤ 12) → ∃ m, 1 ≤ m ∧ m ≤ 12 ∧ n = nI m := by
  rintro ⟨h1, h2⟩
  obtain ⟨m, hm, rfl⟩ := i_ofle (n := 12) (Int32.le_trans (by decide) h1) h2 (by decide)
  refine ⟨m, ?_, hm, rfl⟩
  rcases Nat.eq_zero_or_pos m with rfl | z
  · exact absurd h1 (by decide)
  · exact z
theorem szn {sz : Nat} (h : sz ≤ 40) : ¬ nI sz = -1 := fun z => by
  have := nI_pos' (show sz < 2 ^ 31 by omega)
  rw [z] at this
  exact absurd this (by decide)
theorem sim_hitBy {x i n : Int32} : Sim 119 198 [.int x, .int i, .int n] := by
  intro d X R TH N h
  obtain ⟨T, Hn, a, hP, -⟩ := h.2.2.2.1
  have hm := hP.mb h.1.1
  have hr := hP.1
  obtain ⟨D, hD9, hD⟩ := hP.D
  have n51 : (51 : Nat) ≠ 0 := by decide
  have n55 : (55 : Nat) ≠ 0 := by decide
  have n52 : (52 : Nat) ≠ 0 := by decide
  have n53 : (53 : Nat) ≠ 0 := by decide
  have n54 : (54 : Nat) ≠ 0 := by decide
  by_cases h0 : 0 < X 55 0
  · have bad : ¬ ((0 ≤ x ∧ x ≤ 7) ∧ (1 ≤ n ∧ n ≤ 12)) → wc (d + 12) 198 [.ref 51, .int x, .int i, .int n] (hp X R TH N) (PI (some (.int (-1000001)))) := fun z => (t198b (d := d + 6) hm h0 z).mpr (PI.mk rfl h)
    by_cases hx : 0 ≤ x ∧ x ≤ 7
    · obtain ⟨r, hr8, rfl⟩ := in8 hx
      obtain ⟨rr, ri, sz, hsz, h53, hcase⟩ := h.2.1 r hr8
      have hrow := rw25 hr8
      by_cases c1 : n < 1
      · simp only [S119, G0, GRealm r9, t42 r9, hr.1, h0, t131 hr8 rr, c1, b2_0, not_true_eq_false, px_op_some, px_op_none, tl_some, tl_none, ap_one, ap_nil, z01, o01, true_and, and_true, true_or, or_true, i10, i01, if_true, if_false, eq_self]
        exact bad (fun z => absurd z.2.1 (by rw [Int32.not_le]; exact c1))
      by_cases c2 : n ≤ 12
      · have hn : 1 ≤ n ∧ n ≤ 12 := ⟨Int32.not_lt.mp c1, c2⟩
        rcases hcase with ⟨z1, z2⟩ | ⟨ln, hln, z1, z2, z3⟩
        · have e1 : (-1000010 : Int32) - 1 = -1000011 := by decide
          simp only [S119, G0, GRealm r9, GRow hrow, t42 r9, hr.1, h0, t131 hr8 rr, c1, c2, t67 hrow, z2, t129, b2_0, not_true_eq_false, e1, px_op_some, px_op_none, tl_some, tl_none, ap_one, ap_nil, z01, o01, true_and, and_true, true_or, or_true, i10, i01, if_true, if_false, eq_self]
          rw [t198c (d := d + 6) hm.u0 (by rw [upA_n n55]; exact h0) hr8 hn (by rw [upA_n n52]; exact z1), upA_n n51]
          exact PI.fl h rfl
        · obtain ⟨m, hm1, hm2, rfl⟩ := n1_lt hn
          have l0 : ¬ X 52 r = 0 := by rw [z1, nI_0i (by omega)]; omega
          have c2' : (nI m ≤ 12) = True := eq_true c2
          have c1' : (nI m < 1) = False := eq_false c1
          by_cases hsp : 0 ≤ i ∧ 0 ≤ nI m ∧ i ≤ nI sz - nI m
          · have hi2 := hsp.2.2
            have hms : m ≤ sz := by
              rcases Nat.le_total m sz with z | z
              · exact z
              · rcases Nat.eq_or_lt_of_le z with z | z
                · omega
                · exfalso
                  have y : nI sz - nI m < 0 := by
                    have : ∀ a : Nat, a < 41 → ∀ b : Nat, b < 13 → a < b → nI a - nI b < 0 := by decide
                    exact this sz (by omega) m (by omega) z
                  exact absurd (Int32.le_trans hsp.1 hi2) (by rw [Int32.not_le]; exact y)
            rw [nI_sub hms] at hi2
            obtain ⟨j, hj, rfl⟩ := i_ofle hsp.1 hi2 (by omega)
            have hjm : j + m ≤ sz := by omega
            have eyn : yn (fun k => X 54 (40 * r + j + k)) m 0 = yn (fun k => X (25 + 2 * r + 1) (j + k)) m 0 := yn_c (fun k _ hk => by
              have := ri (j + k) (by omega)
              rw [Nat.add_assoc, this, show 26 + 2 * r = 25 + 2 * r + 1 by omega])
            have esu : suI (X 55) T Hn D (fun k => X 54 (40 * r + j + k)) m = suI (X 55) T Hn D (fun k => X (25 + 2 * r + 1) (j + k)) m := suI_c (fun k hk => by
              have := ri (j + k) (by omega)
              rw [Nat.add_assoc, this, show 26 + 2 * r = 25 + 2 * r + 1 by omega])
            simp only [S119, G0, G15, GRealm r9, GRow hrow, t42 r9, hr.1, h0, t131 hr8 rr, c1', c2', t67 hrow, t70 hrow, z3, szn hsz, hsp, t73 hrow z3 hsz hjm, t23 r9 hr (fun day => hP.2.ov0 (by decide) day) hD hrow z3 hsz hjm, t130, b2_0, and_self, not_true_eq_false, not_false_eq_true, px_op_some, px_op_none, tl_some, tl_none, ap_one, ap_nil, z01, o01, true_and, and_true, true_or, or_true, i10, i01, if_true, if_false, eq_self]
            by_cases hy : yn (fun k => X (25 + 2 * r + 1) (j + k)) m 0 = true
            · simp only [hy, not_true_eq_false, if_false]
              refine t198e (d := d + 6) hm.u0 (by rw [upA_n n55]; exact h0) (by rw [upA_n n55]; exact hD) hr8 ⟨hm1, hm2⟩ (by rw [upA_n n52]; exact l0) (by rw [upA_n n53]; exact h53) hsz hjm ?_
              rw [upA_n n54, upA_n n55, eyn, if_pos hy]
              intro g
              rw [upA_n n51, esu]
              refine PI.mk rfl ?_
              rw [upA_comm (show (59 : Nat) ≠ 51 by decide)]
              exact (h.fl 0).sc SCr.s59
            · simp only [hy, not_false_eq_true, if_true]
              refine t198e (d := d + 6) hm h0 hD hr8 ⟨hm1, hm2⟩ l0 h53 hsz hjm ?_
              rw [eyn, if_neg hy]
              exact PI.mk rfl h
          · have e1 : (-1000010 : Int32) - 2 = -1000012 := by decide
            have hi : i < 0 ∨ X 53 r - nI m < i := by
              rcases Int32.lt_or_le i 0 with z | z
              · exact Or.inl z
              · right
                rw [h53, ← Int32.not_le]
                exact fun y => hsp ⟨z, nI_pos' (by omega), y⟩
            simp only [S119, G0, GRealm r9, GRow hrow, t42 r9, hr.1, h0, t131 hr8 rr, c1', c2', t67 hrow, t70 hrow, z3, szn hsz, hsp, t129, b2_0, not_true_eq_false, not_false_eq_true, e1, px_op_some, px_op_none, tl_some, tl_none, ap_one, ap_nil, z01, o01, true_and, and_true, true_or, or_true, i10, i01, if_true, if_false, eq_self]
            rw [t198d (d := d + 6) hm.u0 (by rw [upA_n n55]; exact h0) hr8 hn (by rw [upA_n n52]; exact l0) (by rw [upA_n n53]; exact hi), upA_n n51]
            exact PI.fl h rfl
      · simp only [S119, G0, GRealm r9, t42 r9, hr.1, h0, t131 hr8 rr, c1, c2, b2_0, not_true_eq_false, px_op_some, px_op_none, tl_some, tl_none, ap_one, ap_nil, z01, o01, true_and, and_true, true_or, or_true, i10, i01, if_true, if_false, eq_self]
        exact bad (fun z => c2 z.2.2)
    · simp only [S119, G0, GRealm r9, t42 r9, hr.1, h0, t131n hx, b2_0, not_true_eq_false, px_op_some, px_op_none, tl_some, tl_none, ap_one, ap_nil, z01, o01, true_and, and_true, true_or, or_true, i10, i01, if_true, if_false, eq_self]
      exact bad (fun z => hx z.1)
  · simp only [S119, G0, GRealm r9, t42 r9, hr.1, h0, b2_0, not_false_eq_true, px_op_some, px_op_none, tl_some, tl_none, ap_one, ap_nil, z01, o01, true_and, and_true, true_or, or_true, i10, i01, if_true, if_false, eq_self]
    exact (t198a (d := d + 6) hm h0).mpr (PI.mk rfl h)
