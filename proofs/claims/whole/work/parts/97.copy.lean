/-! class and reference: copy -/
section C44
variable {d : Nat} {X : hX} {R : hR} {TH : hT} {N ra rb : Nat} {Q : Option Value → px_H → Prop} {x y i j n : Int32}
theorem sp_sw {sz : Nat} (h : sz ≤ 40) (hi : 0 ≤ i) (hn : 0 ≤ n) : i ≤ nI sz - n ↔ n ≤ nI sz - i := by
  have e : ∀ x : Int32, 0 ≤ x → (nI sz - x).toInt = (sz : Int) - x.toInt := by
    intro x hx
    have h1 := Int32.toInt_lt x
    have h2 : 0 ≤ x.toInt := Int32.le_iff_toInt_le.mp hx
    have h3 : (nI sz).toInt = (sz : Int) := Int32.toInt_ofNat_of_lt (by omega)
    rw [Int32.toInt_sub, h3, Int.bmod_eq_of_le] <;> omega
  rw [Int32.le_iff_toInt_le, Int32.le_iff_toInt_le, e n hn, e i hi]
  omega
theorem t146b (h : ¬ ((0 ≤ x ∧ x ≤ 7) ∧ (0 ≤ y ∧ y ≤ 7))) : wc (d + 2) 146 [.ref 51, .int x, .int i, .int y, .int j, .int n] (hp X R TH N) Q ↔ Q (some (.int (-1000001))) (hp X R TH N) := by
  by_cases hx : 0 ≤ x ∧ x ≤ 7
  · have hy : ¬ (0 ≤ y ∧ y ≤ 7) := fun z => h ⟨hx, z⟩
    have hx' : (0 ≤ x ∧ x ≤ 7) = True := eq_true hx
    simp only [S146, t143, hx', hy, not_true_eq_false, not_false_eq_true, px_op_some, px_op_none, tl_some, tl_none, ap_one, ap_nil, z01, o01, true_and, and_true, true_or, or_true, i10, i01, if_true, if_false, eq_self, b2_0]
  · simp only [S146, t143, hx, not_false_eq_true, px_op_some, px_op_none, tl_some, tl_none, ap_one, ap_nil, z01, o01, true_and, and_true, true_or, or_true, i10, i01, if_true, if_false, eq_self, b2_0]
theorem t146z (ha : ra < 8) (hb : rb < 8) (h : X 52 ra = 0 ∨ X 52 rb = 0) : wc (d + 2) 146 [.ref 51, .int (nI ra), .int i, .int (nI rb), .int j, .int n] (hp X R TH N) Q ↔ Q (some (.int (-1000011))) (hp (upA X 51 (upd (X 51) 3 1)) R TH N) := by
  have e1 : (-1000010 : Int32) - 1 = -1000011 := by decide
  by_cases h0 : X 52 ra = 0
  · simp only [S146, G51, t143, t141, nI8 ha, nI8 hb, A52_g ha, h0, not_true_eq_false, px_op_some, px_op_none, tl_some, tl_none, ap_one, ap_nil, z01, o01, true_and, and_true, true_or, or_true, i10, i01, if_true, if_false, eq_self, b2_0, e1]
  · have h1 := h.resolve_left h0
    simp only [S146, G51, t143, t141, nI8 ha, nI8 hb, A52_g ha, A52_g hb, h0, h1, not_true_eq_false, px_op_some, px_op_none, tl_some, tl_none, ap_one, ap_nil, z01, o01, true_and, and_true, true_or, or_true, i10, i01, if_true, if_false, eq_self, b2_0, e1]
theorem t146l (ha : ra < 8) (hb : rb < 8) (h0 : ¬ X 52 ra = 0) (h1 : ¬ X 52 rb = 0) (h2 : ¬ X 52 ra = X 52 rb) : wc (d + 2) 146 [.ref 51, .int (nI ra), .int i, .int (nI rb), .int j, .int n] (hp X R TH N) Q ↔ Q (some (.int (-1000015))) (hp (upA X 51 (upd (X 51) 3 5)) R TH N) := by
  have e1 : (-1000010 : Int32) - 5 = -1000015 := by decide
  simp only [S146, G51, t143, t141, nI8 ha, nI8 hb, A52_g ha, A52_g hb, h0, h1, h2, not_true_eq_false, px_op_some, px_op_none, tl_some, tl_none, ap_one, ap_nil, z01, o01, true_and, and_true, true_or, or_true, i10, i01, if_true, if_false, eq_self, b2_0, e1]
theorem t146p {sa sb : Nat} (ha : ra < 8) (hb : rb < 8) (h0 : ¬ X 52 ra = 0) (h2 : X 52 ra = X 52 rb) (hsa : X 53 ra = nI sa) (hsb : X 53 rb = nI sb) (h : ¬ (0 ≤ i ∧ 0 ≤ j ∧ 0 ≤ n ∧ n ≤ nI sa - i ∧ n ≤ nI sb - j)) : wc (d + 2) 146 [.ref 51, .int (nI ra), .int i, .int (nI rb), .int j, .int n] (hp X R TH N) Q ↔ Q (some (.int (-1000012))) (hp (upA X 51 (upd (X 51) 3 2)) R TH N) := by
  have e1 : (-1000010 : Int32) - 2 = -1000012 := by decide
  have h3 : ¬ X 52 rb = 0 := by rw [← h2]; exact h0
  by_cases c1 : i < 0
  · simp only [S146, G51, t143, t141, nI8 ha, nI8 hb, A52_g ha, A52_g hb, h3, h2, c1, not_true_eq_false, px_op_some, px_op_none, tl_some, tl_none, ap_one, ap_nil, z01, o01, true_and, and_true, true_or, or_true, i10, i01, if_true, if_false, eq_self, b2_0, e1]
  by_cases c2 : j < 0
  · simp only [S146, G51, t143, t141, nI8 ha, nI8 hb, A52_g ha, A52_g hb, h3, h2, c1, c2, not_true_eq_false, px_op_some, px_op_none, tl_some, tl_none, ap_one, ap_nil, z01, o01, true_and, and_true, true_or, or_true, i10, i01, if_true, if_false, eq_self, b2_0, e1]
  by_cases c3 : n < 0
  · simp only [S146, G51, t143, t141, nI8 ha, nI8 hb, A52_g ha, A52_g hb, h3, h2, c1, c2, c3, not_true_eq_false, px_op_some, px_op_none, tl_some, tl_none, ap_one, ap_nil, z01, o01, true_and, and_true, true_or, or_true, i10, i01, if_true, if_false, eq_self, b2_0, e1]
  by_cases c4 : nI sa - i < n
  · simp only [S146, G51, t143, t141, nI8 ha, nI8 hb, A52_g ha, A52_g hb, A53_g ha, hsa, h3, h2, c1, c2, c3, c4, not_true_eq_false, px_op_some, px_op_none, tl_some, tl_none, ap_one, ap_nil, z01, o01, true_and, and_true, true_or, or_true, i10, i01, if_true, if_false, eq_self, b2_0, e1]
  have c5 : ¬ n ≤ nI sb - j := fun z => h ⟨Int32.not_lt.mp c1, Int32.not_lt.mp c2, Int32.not_lt.mp c3, Int32.not_lt.mp c4, z⟩
  simp only [S146, G51, t143, t141, nI8 ha, nI8 hb, A52_g ha, A52_g hb, A53_g ha, A53_g hb, hsa, hsb, h3, h2, c1, c2, c3, c4, c5, not_true_eq_false, px_op_some, px_op_none, tl_some, tl_none, ap_one, ap_nil, z01, o01, true_and, and_true, true_or, or_true, i10, i01, if_true, if_false, eq_self, b2_0, e1]
end C44
theorem sim_copy {x i y j n : Int32} : Sim 100 146 [.int x, .int i, .int y, .int j, .int n] := by
  intro d X R TH N h
  by_cases hx : 0 ≤ x ∧ x ≤ 7
  · obtain ⟨a, ha8, rfl⟩ := in8 hx
    obtain ⟨rra, ria, sa, hsa, h53a, ca⟩ := h.2.1 a ha8
    have rwa := rw25 ha8
    by_cases hy : 0 ≤ y ∧ y ≤ 7
    · obtain ⟨b, hb8, rfl⟩ := in8 hy
      obtain ⟨rrb, rib, sb, hsb, h53b, cb⟩ := h.2.1 b hb8
      have rwb := rw25 hb8
      have e1 : (-1000010 : Int32) - 1 = -1000011 := by decide
      have n51 : (51 : Nat) ≠ 0 := by decide
      have n52 : (52 : Nat) ≠ 0 := by decide
      have n53 : (53 : Nat) ≠ 0 := by decide
      rcases ca with ⟨za1, za2⟩ | ⟨la, hla, za1, za2, za3⟩
      · simp only [S100, G0, GRow rwa, GRow rwb, t131 ha8 rra, t131 hb8 rrb, t67 rwa, t67 rwb, za2, t129, b2_0, not_true_eq_false, e1, px_op_some, px_op_none, tl_some, tl_none, ap_one, ap_nil, z01, o01, true_and, and_true, true_or, or_true, i10, i01, if_true, if_false, eq_self]
        rw [t146z (d := d + 10) ha8 hb8 (Or.inl (by rw [upA_n n52]; exact za1)), upA_n n51]
        exact PI.fl h rfl
      rcases cb with ⟨zb1, zb2⟩ | ⟨lb, hlb, zb1, zb2, zb3⟩
      · simp only [S100, G0, GRow rwa, GRow rwb, t131 ha8 rra, t131 hb8 rrb, t67 rwa, t67 rwb, za3, szn hsa, zb2, t129, b2_0, not_false_eq_true, not_true_eq_false, e1, px_op_some, px_op_none, tl_some, tl_none, ap_one, ap_nil, z01, o01, true_and, and_true, true_or, or_true, i10, i01, if_true, if_false, eq_self]
        rw [t146z (d := d + 10) ha8 hb8 (Or.inr (by rw [upA_n n52]; exact zb1)), upA_n n51]
        exact PI.fl h rfl
      have la0 : ¬ X 52 a = 0 := by rw [za1, nI_0i (by omega)]; omega
      have lb0 : ¬ X 52 b = 0 := by rw [zb1, nI_0i (by omega)]; omega
      by_cases hl : la = lb
      · subst hl
        have h2 : X 52 a = X 52 b := za1.trans zb1.symm
        by_cases hsp : (0 ≤ i ∧ 0 ≤ n ∧ i ≤ nI sa - n) ∧ (0 ≤ j ∧ 0 ≤ n ∧ j ≤ nI sb - n)
        · obtain ⟨⟨hi0, hn0, hi⟩, hj0, -, hj⟩ := hsp
          have hn1 := (sp_sw hsa hi0 hn0).mp hi
          have hnn : n ≤ 40 := by
            have := Int32.le_iff_toInt_le.mp hn1
            rw [Int32.le_iff_toInt_le]
            have h1 := Int32.toInt_lt i
            have h2 : 0 ≤ i.toInt := Int32.le_iff_toInt_le.mp hi0
            have h3 : (nI sa).toInt = (sa : Int) := Int32.toInt_ofNat_of_lt (by omega)
            have h4 : (nI sa - i).toInt = (sa : Int) - i.toInt := by rw [Int32.toInt_sub, h3, Int.bmod_eq_of_le] <;> omega
            have h5 : (40 : Int32).toInt = 40 := by decide
            omega
          obtain ⟨m, hm, rfl⟩ := i_ofle (n := 40) hn0 hnn (by decide)
          have up : ∀ {q : Int32} {s : Nat}, s ≤ 40 → 0 ≤ q → q ≤ nI s - nI m → ∃ k, q = nI k ∧ k + m ≤ s := by
            intro q s hs h0 h1
            have h2 : 0 ≤ q.toInt := Int32.le_iff_toInt_le.mp h0
            have h3 : (nI s).toInt = (s : Int) := Int32.toInt_ofNat_of_lt (by omega)
            have h5 : (nI m).toInt = (m : Int) := Int32.toInt_ofNat_of_lt (by omega)
            have h4 : (nI s - nI m).toInt = (s : Int) - m := by rw [Int32.toInt_sub, h3, h5, Int.bmod_eq_of_le] <;> omega
            have h6 := Int32.le_iff_toInt_le.mp h1
            rw [h4] at h6
            obtain ⟨k, hk, rfl⟩ := i_ofle (n := 40) h0 (by rw [Int32.le_iff_toInt_le, show (nI 40).toInt = 40 by decide]; omega) (by decide)
            have h7 : (nI k).toInt = (k : Int) := Int32.toInt_ofNat_of_lt (by omega)
            exact ⟨k, rfl, by omega⟩
          obtain ⟨i, rfl, hia⟩ := up hsa hi0 hi
          obtain ⟨j, rfl, hjb⟩ := up hsb hj0 hj
          have e26 : 25 + 2 * b + 1 = 26 + 2 * b := by omega
          have e26' : 25 + 2 * a + 1 = 26 + 2 * a := by omega
          simp only [S100, G0, GRow rwa, GRow rwb, t131 ha8 rra, t131 hb8 rrb, t67 rwa, t67 rwb, t70 rwa, t70 rwb, za3, zb3, za2, zb2, szn hsa, szn hsb, spn hia hsa, spn hjb hsb, t72 rwb rwa za3 zb3 hsa hsb hia hjb, t130, b2_0, not_false_eq_true, not_true_eq_false, px_op_some, px_op_none, tl_some, tl_none, ap_one, ap_nil, z01, o01, true_and, and_true, true_or, or_true, i10, i01, if_true, if_false, eq_self]
          rw [t146 (d := d + 10) (sa := sa) (sb := sb) ha8 hb8 (by omega) (by omega) (by simp (disch := omega) only [upA_n]; exact la0) (by simp (disch := omega) only [upA_n]; exact h2) (by simp (disch := omega) only [upA_n]; exact h53a) (by simp (disch := omega) only [upA_n]; exact h53b) hsa hsb hia hjb, e26, e26']
          refine PI.mk rfl (h.row hb8 (fun c a0 a1 a2 a3 a4 a5 a6 => ?_) (fun j hj => ?_) ?_ ?_ (fun j hj => ?_) (fun j hj => ?_) (fun k hk => ?_) ⟨rrb, fun k hk => ?_, sb, hsb, ?_, Or.inr ⟨la, hlb, ?_, ?_, ?_⟩⟩)
          all_goals simp (disch := omega) only [upA_n, upA_s, upd_n, upd_s]
          · unfold cpU
            rw [if_neg (by omega)]
          · unfold cpU va_cpy
            by_cases hk' : j ≤ k ∧ k < j + m
            · rw [if_pos (by omega), if_pos hk', show 40 * a + i + (40 * b + k - (40 * b + j)) = 40 * a + (i + (k - j)) by omega]
              exact ria _ (by omega)
            · rw [if_neg (by omega), if_neg hk']
              exact rib k hk
          · exact h53b
          · exact zb1
          · exact zb2
          · exact zb3
        · have e2 : (-1000010 : Int32) - 2 = -1000012 := by decide
          have hp' : ¬ (0 ≤ i ∧ 0 ≤ j ∧ 0 ≤ n ∧ n ≤ nI sa - i ∧ n ≤ nI sb - j) := fun z => hsp ⟨⟨z.1, z.2.2.1, (sp_sw hsa z.1 z.2.2.1).mpr z.2.2.2.1⟩, z.2.1, z.2.2.1, (sp_sw hsb z.2.1 z.2.2.1).mpr z.2.2.2.2⟩
          by_cases h1 : 0 ≤ i ∧ 0 ≤ n ∧ i ≤ nI sa - n
          · have h2' : ¬ (0 ≤ j ∧ 0 ≤ n ∧ j ≤ nI sb - n) := fun z => hsp ⟨h1, z⟩
            have h1' : (0 ≤ i ∧ 0 ≤ n ∧ i ≤ nI sa - n) = True := eq_true h1
            simp only [S100, G0, GRow rwa, GRow rwb, t131 ha8 rra, t131 hb8 rrb, t67 rwa, t67 rwb, t70 rwa, t70 rwb, za3, zb3, za2, zb2, szn hsa, szn hsb, h1', h2', t129, b2_0, not_false_eq_true, not_true_eq_false, e2, px_op_some, px_op_none, tl_some, tl_none, ap_one, ap_nil, z01, o01, true_and, and_true, true_or, or_true, i10, i01, if_true, if_false, eq_self]
            rw [t146p (d := d + 10) (sa := sa) (sb := sb) ha8 hb8 (by rw [upA_n n52]; exact la0) (by rw [upA_n n52]; exact h2) (by rw [upA_n n53]; exact h53a) (by rw [upA_n n53]; exact h53b) hp', upA_n n51]
            exact PI.fl h rfl
          · simp only [S100, G0, GRow rwa, GRow rwb, t131 ha8 rra, t131 hb8 rrb, t67 rwa, t67 rwb, t70 rwa, t70 rwb, za3, zb3, za2, zb2, szn hsa, szn hsb, h1, t129, b2_0, not_false_eq_true, not_true_eq_false, e2, px_op_some, px_op_none, tl_some, tl_none, ap_one, ap_nil, z01, o01, true_and, and_true, true_or, or_true, i10, i01, if_true, if_false, eq_self]
            rw [t146p (d := d + 10) (sa := sa) (sb := sb) ha8 hb8 (by rw [upA_n n52]; exact la0) (by rw [upA_n n52]; exact h2) (by rw [upA_n n53]; exact h53a) (by rw [upA_n n53]; exact h53b) hp', upA_n n51]
            exact PI.fl h rfl
      · have e5 : (-1000010 : Int32) - 5 = -1000015 := by decide
        have hl' : (nI la = nI lb) = False := eq_false (fun z => hl ((nI_eq (by omega) (by omega)).mp z))
        have hl2 : ¬ X 52 a = X 52 b := by
          rw [za1, zb1]
          exact fun z => hl (by have := (nI_eq (by omega) (by omega)).mp z; omega)
        simp only [S100, G0, GRow rwa, GRow rwb, t131 ha8 rra, t131 hb8 rrb, t67 rwa, t67 rwb, za3, zb3, za2, zb2, szn hsa, szn hsb, hl', t129, b2_0, not_false_eq_true, not_true_eq_false, e5, px_op_some, px_op_none, tl_some, tl_none, ap_one, ap_nil, z01, o01, true_and, and_true, true_or, or_true, i10, i01, if_true, if_false, eq_self]
        rw [t146l (d := d + 10) ha8 hb8 (by rw [upA_n n52]; exact la0) (by rw [upA_n n52]; exact lb0) (by rw [upA_n n52]; exact hl2), upA_n n51]
        exact PI.fl h rfl
    · simp only [S100, G0, t131 ha8 rra, t131n hy, px_op_some, px_op_none, tl_some, tl_none, ap_one, ap_nil, z01, o01, true_and, and_true, true_or, or_true, i10, i01, if_true, if_false, eq_self]
      rw [t146b (d := d + 10) (fun z => hy z.2)]
      exact PI.mk rfl h
  · by_cases hy : 0 ≤ y ∧ y ≤ 7
    · obtain ⟨b, hb8, rfl⟩ := in8 hy
      obtain ⟨rrb, rib, sb, hsb, h53b, cb⟩ := h.2.1 b hb8
      simp only [S100, G0, t131n hx, t131 hb8 rrb, px_op_some, px_op_none, tl_some, tl_none, ap_one, ap_nil, z01, o01, true_and, and_true, true_or, or_true, i10, i01, if_true, if_false, eq_self]
      rw [t146b (d := d + 10) (fun z => hx z.1)]
      exact PI.mk rfl h
    · simp only [S100, G0, t131n hx, t131n hy, px_op_some, px_op_none, tl_some, tl_none, ap_one, ap_nil, z01, o01, true_and, and_true, true_or, or_true, i10, i01, if_true, if_false, eq_self]
      rw [t146b (d := d + 10) (fun z => hx z.1)]
      exact PI.mk rfl h
