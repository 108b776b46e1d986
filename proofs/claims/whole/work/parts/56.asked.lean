/-! the class: what is left behind; size and mark of a thing -/
def CV (X : hX) (l : Nat) (b : Int32) : hX := upA (upA X 24 (upd (X 24) l b)) 23 (upd (X 23) 1 (nI (l + 1)))
def CVs (X : hX) (l : Nat) : List Int32 → hX
  | [] => X
  | b :: bs => CVs (CV X l b) (l + 1) bs
section C7
variable {d : Nat} {X : hX} {R : hR} {TH : hT} {N T Hn l p q : Nat} {ρ : Nat → Int32} {f c : Int32} {Q : Option Value → px_H → Prop}
theorem CV_1 {b : Int32} : CV X l b 23 1 = nI (l + 1) := by unfold CV; rw [upA_s, upd_s]
theorem CV_R {b : Int32} (h : RR X R TH 9 ρ T Hn) : RR (CV X l b) R TH 9 ρ T Hn := by
  unfold CV
  exact (h.up (by decide) (by decide) (by decide)).up (by decide) (by decide) (by decide)
theorem t85 {b : Int32} (hl : X 23 1 = nI l) (h16 : l < 16) : wc d 85 [.ref 23, .int b] (hp X R TH N) Q ↔ Q none (hp (CV X l b) R TH N) := by
  have e : ((16 : Int32) ≤ nI l) = False := i_nI_lt (T := 16) h16 (by decide)
  simp only [S85, G23, px_op_some, px_op_none, tl_some, tl_none, ap_one, ap_nil, z01, o01, true_and, and_true, true_or, or_true, i10, i01, if_true, if_false, eq_self, upA_s, upA_n, upd_s, upd_n, ne_eq, Nat.reduceEqDiff, not_false_eq_true, hl, e, A24_p h16, nI_1]
  rfl
theorem t84 : wc d 84 [.ref 23] (hp X R TH N) Q ↔ Q none (hp (upA X 23 (upd (X 23) 1 0)) R TH N) := by
  simp only [S84, G23, px_op_some, px_op_none, tl_some, tl_none, ap_one, ap_nil, z01, o01, true_and, and_true, true_or, or_true, i10, i01, if_true, if_false, eq_self]
theorem t86 {x : Int32} (hl : X 23 1 = nI l) (h16 : l ≤ 16) : wc d 86 [.ref 23, .int x] (hp X R TH N) Q ↔ Q (some (.int (if 0 ≤ x ∧ x ≤ nI l - 1 then X 24 x.toNatClampNeg else -1000000))) (hp X R TH N) := by
  simp only [S86, G23, hl, px_op_some, px_op_none, tl_some, tl_none, ap_one, ap_nil, z01, o01, true_and, and_true, true_or, or_true, i10, i01, if_true, if_false, eq_self]
  by_cases h0 : x < 0
  · rw [if_neg (fun z : 0 ≤ x ∧ _ => absurd z.1 (by rw [Int32.not_le]; exact h0))]
    simp only [h0, if_true]
  · by_cases h1 : nI l ≤ x
    · have hn : ¬ (0 ≤ x ∧ x ≤ nI l - 1) := by
        rintro ⟨z0, z1⟩
        rcases Nat.eq_zero_or_pos l with rfl | hp0
        · exact absurd (Int32.le_trans z0 z1) (by decide)
        · rw [nI_m1 hp0] at z1
          exact absurd (Int32.le_trans h1 z1) (by rw [Int32.not_le]; exact nI_lt (by omega) (by omega))
      rw [if_neg hn]
      simp only [h0, h1, if_true, if_false]
    · obtain ⟨j, hj, rfl⟩ := i_of (Int32.not_lt.mp h0) (show x < nI l by rw [← Int32.not_le]; exact h1) (by omega)
      have e : ((16 : Int32) ≤ nI j) = False := i_nI_lt (T := 16) (by omega) (by decide)
      have hn : 0 ≤ nI j ∧ nI j ≤ nI l - 1 := ⟨nI_pos' (by omega), by rw [nI_m1 (by omega)]; exact nI_le (by omega) (by omega)⟩
      rw [if_pos hn]
      simp only [h0, h1, e, if_false, S86, G23, A24_g (show j < 16 by omega), nI_clamp (show j < 2 ^ 31 by omega), px_op_some, px_op_none, tl_some, tl_none, ap_one, ap_nil, z01, o01, true_and, and_true, true_or, or_true, i10, i01, if_true, if_false, eq_self]
theorem t81 {κ : Nat} (hth : isTh TH q κ (nI p) f c) (hl : X 23 1 = nI l) (h16 : l < 16) : wc (d + 1) 81 [.ref q, .ref 23, .ref 9] (hp X R TH N) Q ↔ Q (some (.int c)) (hp (CVs X l [10]) R TH N) := by
  simp only [S81, G23, t85 hl h16, th_fld hth, px_op_some, px_op_none, tl_some, tl_none, ap_one, ap_nil, z01, o01, true_and, and_true, true_or, or_true, i10, i01, if_true, if_false, eq_self]
  rfl
theorem t82 {κ : Nat} (hth : isTh TH q κ (nI p) f c) (hl : X 23 1 = nI l) (h16 : l < 16) : wc (d + 1) 82 [.ref q, .ref 23, .ref 9] (hp X R TH N) Q ↔ Q (some (.int (nI p))) (hp (CVs X l [20]) R TH N) := by
  simp only [S82, G23, t85 hl h16, th_fld hth, px_op_some, px_op_none, tl_some, tl_none, ap_one, ap_nil, z01, o01, true_and, and_true, true_or, or_true, i10, i01, if_true, if_false, eq_self]
  rfl
theorem r9 : isRealm 9 := Or.inr (Or.inl rfl)
theorem t29 {κ : Nat} (hr : RR X R TH 9 ρ T Hn) (hth : isTh TH q κ (nI p) f c) (hl : X 23 1 = nI l) (h16 : l + 1 < 16) : wc (d + 2) 29 [.ref q, .ref 23, .ref 9] (hp X R TH N) Q ↔ Q (some (.int (m21I ρ p Hn))) (hp (CVs X l [21, 20]) R TH N) := by
  simp only [S29, G23, GRealm r9, th_cls hth, th_fld hth, t85 hl (show l < 16 by omega), t82 (X := CV X l 21) hth CV_1 h16, t65 r9 (CV_R (l := l + 1) (b := 20) (CV_R (l := l) (b := 21) hr)), CVs, px_op_some, px_op_none, tl_some, tl_none, ap_one, ap_nil, z01, o01, true_and, and_true, true_or, or_true, i10, i01, if_true, if_false, eq_self]
  rfl
theorem t4 {κ : Nat} (hth : isTh TH q κ (nI p) f c) (hl : X 23 1 = nI l) (h16 : l + 1 < 16) : wc (d + 2) 4 [.ref q, .ref 23, .ref 9] (hp X R TH N) Q ↔ Q (some (.int (c - 100))) (hp (CVs X l [13, 10]) R TH N) := by
  simp only [S4, G23, th_cls hth, t85 hl (show l < 16 by omega), t81 (X := CV X l 13) hth CV_1 h16, CVs, px_op_some, px_op_none, tl_some, tl_none, ap_one, ap_nil, z01, o01, true_and, and_true, true_or, or_true, i10, i01, if_true, if_false, eq_self]
theorem t91 {κ : Nat} (hth : isTh TH q κ (nI p) f c) (hl : X 23 1 = nI l) (h16 : l + 2 < 16) : wc (d + 3) 91 [.ref q, .ref 23, .ref 9] (hp X R TH N) Q ↔ Q (some (.int (2 * (c - 100)))) (hp (CVs X l [14, 13, 10]) R TH N) := by
  simp only [S91, G23, th_cls hth, t85 hl (show l < 16 by omega), t4 (X := CV X l 14) hth CV_1 (show l + 1 + 1 < 16 by omega), CVs, px_op_some, px_op_none, tl_some, tl_none, ap_one, ap_nil, z01, o01, true_and, and_true, true_or, or_true, i10, i01, if_true, if_false, eq_self]
theorem t96 {κ : Nat} (hr : RR X R TH 9 ρ T Hn) (hth : isTh TH q κ (nI p) f c) (hl : X 23 1 = nI l) (h16 : l + 2 < 16) : wc (d + 3) 96 [.ref q, .ref 23, .ref 9] (hp X R TH N) Q ↔ Q (some (.int (m21I ρ p Hn - 1000))) (hp (CVs X l [22, 21, 20]) R TH N) := by
  simp only [S96, G23, th_cls hth, t85 hl (show l < 16 by omega), t29 (X := CV X l 22) (CV_R hr) hth CV_1 (show l + 1 + 1 < 16 by omega), CVs, px_op_some, px_op_none, tl_some, tl_none, ap_one, ap_nil, z01, o01, true_and, and_true, true_or, or_true, i10, i01, if_true, if_false, eq_self]
theorem t11 {κ : Nat} (hr : RR X R TH 9 ρ T Hn) (hth : isTh TH q κ (nI p) f c) (hl : X 23 1 = nI l) (h16 : l + 2 < 16) : wc (d + 3) 11 [.ref q, .ref 23, .ref 9] (hp X R TH N) Q ↔ Q (some (.int (2 * m21I ρ p Hn))) (hp (CVs X l [24, 21, 20]) R TH N) := by
  simp only [S11, G23, th_cls hth, t85 hl (show l < 16 by omega), t29 (X := CV X l 24) (CV_R hr) hth CV_1 (show l + 1 + 1 < 16 by omega), CVs, px_op_some, px_op_none, tl_some, tl_none, ap_one, ap_nil, z01, o01, true_and, and_true, true_or, or_true, i10, i01, if_true, if_false, eq_self]
theorem t5_4 (hth : isTh TH q 4 (nI p) f c) (hl : X 23 1 = nI l) (h16 : l + 4 < 16) : wc (d + 4) 5 [.ref q, .ref 23, .ref 9] (hp X R TH N) Q ↔ Q (some (.int (nI p - (c - 100)))) (hp (CVs X l [23, 20, 13, 10]) R TH N) := by
  have ht := fun X N => th_tgt (X := X) (R := R) (N := N) (M := 4) (cis := [(0, 4), (8, 91)]) hth.1 hth.2.2 rfl
  simp only [S5, G23, th_cls hth, t85 hl (show l < 16 by omega), t82 (X := CV X l 23) hth CV_1 (show l + 1 < 16 by omega), ht, t4 (X := CV (CV X l 23) (l + 1) 20) hth CV_1 (show l + 1 + 1 + 1 < 16 by omega), CVs, px_op_some, px_op_none, tl_some, tl_none, ap_one, ap_nil, z01, o01, true_and, and_true, true_or, or_true, i10, i01, if_true, if_false, eq_self]
theorem t5_5 (hth : isTh TH q 5 (nI p) f c) (hl : X 23 1 = nI l) (h16 : l + 4 < 16) : wc (d + 4) 5 [.ref q, .ref 23, .ref 9] (hp X R TH N) Q ↔ Q (some (.int (nI p - 2 * (c - 100)))) (hp (CVs X l [23, 20, 14, 13, 10]) R TH N) := by
  have ht := fun X N => th_tgt (X := X) (R := R) (N := N) (M := 91) (cis := [(0, 4), (8, 91)]) hth.1 hth.2.2 rfl
  simp only [S5, G23, th_cls hth, t85 hl (show l < 16 by omega), t82 (X := CV X l 23) hth CV_1 (show l + 1 < 16 by omega), ht, t91 (X := CV (CV X l 23) (l + 1) 20) hth CV_1 (show l + 1 + 1 + 2 < 16 by omega), CVs, px_op_some, px_op_none, tl_some, tl_none, ap_one, ap_nil, z01, o01, true_and, and_true, true_or, or_true, i10, i01, if_true, if_false, eq_self]
/-- Plain's size -/
theorem t28_1 (hr : RR X R TH 9 ρ T Hn) (hth : isTh TH q 1 (nI p) f c) (hl : X 23 1 = nI l) (h16 : l + 6 < 16) : wc (d + 4) 28 [.ref q, .ref 23, .ref 9] (hp X R TH N) Q ↔ Q (some (.int (c + m21I ρ p Hn))) (hp (CVs X l [11, 10, 21, 20]) R TH N) := by
  have ht := fun X N => th_tgt (X := X) (R := R) (N := N) (M := 29) (cis := [(1, 11), (3, 29), (9, 96)]) hth.1 hth.2.2 rfl
  simp only [S28, G23, th_cls hth, t85 hl (show l < 16 by omega), t81 (X := CV X l 11) hth CV_1 (show l + 1 < 16 by omega), ht, t29 (X := CV (CV X l 11) (l + 1) 10) (CV_R (CV_R hr)) hth CV_1 (show l + 1 + 1 + 1 < 16 by omega), CVs, px_op_some, px_op_none, tl_some, tl_none, ap_one, ap_nil, z01, o01, true_and, and_true, true_or, or_true, i10, i01, if_true, if_false, eq_self]
theorem t28_2 (hr : RR X R TH 9 ρ T Hn) (hth : isTh TH q 2 (nI p) f c) (hl : X 23 1 = nI l) (h16 : l + 6 < 16) : wc (d + 4) 28 [.ref q, .ref 23, .ref 9] (hp X R TH N) Q ↔ Q (some (.int (c + 2 * m21I ρ p Hn))) (hp (CVs X l [11, 10, 24, 21, 20]) R TH N) := by
  have ht := fun X N => th_tgt (X := X) (R := R) (N := N) (M := 11) (cis := [(1, 11), (3, 29), (9, 96)]) hth.1 hth.2.2 rfl
  simp only [S28, G23, th_cls hth, t85 hl (show l < 16 by omega), t81 (X := CV X l 11) hth CV_1 (show l + 1 < 16 by omega), ht, t11 (X := CV (CV X l 11) (l + 1) 10) (CV_R (CV_R hr)) hth CV_1 (show l + 1 + 1 + 2 < 16 by omega), CVs, px_op_some, px_op_none, tl_some, tl_none, ap_one, ap_nil, z01, o01, true_and, and_true, true_or, or_true, i10, i01, if_true, if_false, eq_self]
theorem t28_3 (hr : RR X R TH 9 ρ T Hn) (hth : isTh TH q 3 (nI p) f c) (hl : X 23 1 = nI l) (h16 : l + 6 < 16) : wc (d + 4) 28 [.ref q, .ref 23, .ref 9] (hp X R TH N) Q ↔ Q (some (.int (c + (m21I ρ p Hn - 1000)))) (hp (CVs X l [11, 10, 22, 21, 20]) R TH N) := by
  have ht := fun X N => th_tgt (X := X) (R := R) (N := N) (M := 96) (cis := [(1, 11), (3, 29), (9, 96)]) hth.1 hth.2.2 rfl
  simp only [S28, G23, th_cls hth, t85 hl (show l < 16 by omega), t81 (X := CV X l 11) hth CV_1 (show l + 1 < 16 by omega), ht, t96 (X := CV (CV X l 11) (l + 1) 10) (CV_R (CV_R hr)) hth CV_1 (show l + 1 + 1 + 2 < 16 by omega), CVs, px_op_some, px_op_none, tl_some, tl_none, ap_one, ap_nil, z01, o01, true_and, and_true, true_or, or_true, i10, i01, if_true, if_false, eq_self]
theorem t10 (hr : RR X R TH 9 ρ T Hn) (hth : isTh TH q 2 (nI p) f c) (hl : X 23 1 = nI l) (h16 : l + 7 < 16) : wc (d + 5) 10 [.ref q, .ref 23, .ref 9] (hp X R TH N) Q ↔ Q (some (.int (-(c + 2 * m21I ρ p Hn)))) (hp (CVs X l [12, 11, 10, 24, 21, 20]) R TH N) := by
  simp only [S10, G23, th_cls hth, t85 hl (show l < 16 by omega), t28_2 (X := CV X l 12) (CV_R hr) hth CV_1 (show l + 1 + 6 < 16 by omega), CVs, px_op_some, px_op_none, tl_some, tl_none, ap_one, ap_nil, z01, o01, true_and, and_true, true_or, or_true, i10, i01, if_true, if_false, eq_self]
/-- size, mark, as they are called -/
theorem v_size {κ : Nat} {K : Option Value → px_H → Prop} (hr : RR X R TH 9 ρ T Hn) (hth : isTh TH q κ (nI p) f c) (hk : rK ρ p = nI κ) (hc : rP ρ p = c) (hl : X 23 1 = nI l) (h16 : l + 7 < 16) : px_op (px_tgt (hp X R TH N) q [(0, 4), (1, 10), (3, 28), (8, 91), (9, 28)]) (fun v => wc (d + 5) v [.ref q, .ref 23, .ref 9] (hp X R TH N) K) ↔ K (some (.int (szV ρ p Hn))) (hp (CVs X l (szB (rK ρ p))) R TH N) := by
  have hth' := hth
  obtain ⟨hq, hk', ht⟩ := hth
  subst hc
  rcases hk' with rfl | rfl | rfl | rfl | rfl
  · rw [th_tgt (M := 28) hq ht rfl, px_op_some, t28_1 hr hth' hl (by omega)]; unfold szV szB mkV mkB; rw [hk]; exact Iff.rfl
  · rw [th_tgt (M := 10) hq ht rfl, px_op_some, t10 hr hth' hl (by omega)]; unfold szV szB mkV mkB; rw [hk]; exact Iff.rfl
  · rw [th_tgt (M := 28) hq ht rfl, px_op_some, t28_3 hr hth' hl (by omega)]; unfold szV szB mkV mkB; rw [hk]; exact Iff.rfl
  · rw [th_tgt (M := 4) hq ht rfl, px_op_some, t4 hth' hl (by omega)]; unfold szV szB; rw [hk]; exact Iff.rfl
  · rw [th_tgt (M := 91) hq ht rfl, px_op_some, t91 hth' hl (by omega)]; unfold szV szB; rw [hk]; exact Iff.rfl
theorem v_mark {κ : Nat} {K : Option Value → px_H → Prop} (hr : RR X R TH 9 ρ T Hn) (hth : isTh TH q κ (nI p) f c) (hk : rK ρ p = nI κ) (hc : rP ρ p = c) (hl : X 23 1 = nI l) (h16 : l + 7 < 16) : px_op (px_tgt (hp X R TH N) q [(0, 5), (1, 11), (3, 29), (8, 5), (9, 96)]) (fun v => wc (d + 4) v [.ref q, .ref 23, .ref 9] (hp X R TH N) K) ↔ K (some (.int (mkV ρ p Hn))) (hp (CVs X l (mkB (rK ρ p))) R TH N) := by
  have hth' := hth
  obtain ⟨hq, hk', ht⟩ := hth
  subst hc
  rcases hk' with rfl | rfl | rfl | rfl | rfl
  · rw [th_tgt (M := 29) hq ht rfl, px_op_some, t29 hr hth' hl (by omega)]; unfold mkV mkB; rw [hk]; exact Iff.rfl
  · rw [th_tgt (M := 11) hq ht rfl, px_op_some, t11 hr hth' hl (by omega)]; unfold mkV mkB; rw [hk]; exact Iff.rfl
  · rw [th_tgt (M := 96) hq ht rfl, px_op_some, t96 hr hth' hl (by omega)]; unfold mkV mkB; rw [hk]; exact Iff.rfl
  · rw [th_tgt (M := 5) hq ht rfl, px_op_some, t5_4 hth' hl (by omega)]; unfold mkV mkB; rw [hk]; exact Iff.rfl
  · rw [th_tgt (M := 5) hq ht rfl, px_op_some, t5_5 hth' hl (by omega)]; unfold mkV mkB; rw [hk]; exact Iff.rfl
end C7
