/-! the reference: rows -/
section M16
variable {d : Nat} {X : hX} {R : hR} {TH : hT} {N r : Nat} {w : px_H} {Q : Option Value → px_H → Prop}
theorem in8 {x : Int32} (h : 0 ≤ x ∧ x ≤ 7) : ∃ r, r < 8 ∧ x = nI r := by
  obtain ⟨j, hj, rfl⟩ := i_ofle (n := 7) h.1 h.2 (by decide)
  exact ⟨j, by omega, rfl⟩
theorem nI8 (h : r < 8) : ((0 : Int32) ≤ nI r ∧ nI r ≤ 7) = True := eq_true ⟨nI_pos' (by omega), nI_le (b := 7) (by omega) (by decide)⟩
/-- row -/
def rwX (X : hX) (r : Nat) (ln n : Int32) : hX := upA (upA (upA (upA X 52 (upd (X 52) r (ln + 1))) 53 (upd (X 53) r n)) 54 (zr (X 54) (40 * r) 40)) 51 (upd (X 51) 3 0)
theorem t144 {x ln n : Int32} : wc (d + 2) 144 [.ref 51, .int x, .int ln, .int n] (hp X R TH N) Q ↔ (if (0 ≤ x ∧ x ≤ 7) ∧ (0 ≤ ln ∧ ln ≤ 2) ∧ n ≤ 40 then (if n < 0 then Q (some (.int (-1000014))) (hp (upA X 51 (upd (X 51) 3 4)) R TH N) else Q (some (.int n)) (hp (rwX X x.toNatClampNeg ln n) R TH N)) else Q (some (.int (-1000001))) (hp X R TH N)) := by
  simp only [S144, t143, t140, px_op_some, px_op_none, tl_some, tl_none, ap_one, ap_nil, z01, o01, true_and, and_true, true_or, or_true, i10, i01, if_true, if_false, eq_self, b2_0]
  by_cases hx : 0 ≤ x ∧ x ≤ 7
  · obtain ⟨r, hr, rfl⟩ := in8 hx
    by_cases hl : 0 ≤ ln ∧ ln ≤ 2
    · by_cases hn : n ≤ 40
      · by_cases h0 : n < 0
        · have h0' : (0 ≤ n) = False := eq_false (by rw [Int32.not_le]; exact h0)
          have e : (-1000010 : Int32) - 4 = -1000014 := by decide
          simp only [hx, hl, hn, h0, h0', and_self, not_true_eq_false, if_true, if_false, S144, G51, t141, px_op_some, px_op_none, tl_some, tl_none, ap_one, ap_nil, z01, o01, true_and, and_true, true_or, or_true, i10, i01, if_true, if_false, eq_self, e]
        · have h0' : (0 ≤ n) = True := eq_true (Int32.not_lt.mp h0)
          simp only [hx, hl, hn, h0, h0', and_self, not_true_eq_false, if_true, if_false, S144, G51, A52_p hr, A53_p hr, px_op_some, px_op_none, tl_some, tl_none, ap_one, ap_nil, z01, o01, true_and, and_true, true_or, or_true, i10, i01, if_true, if_false, eq_self, upA_s, upA_n, upd_s, upd_n, ne_eq, Nat.reduceEqDiff, not_false_eq_true, nI_clamp (show r < 2 ^ 31 by omega)]
          have := l144 (d := d + 1) (X := upA (upA X 52 (upd (X 52) r (ln + 1))) 53 (upd (X 53) r n)) (R := R) (TH := TH) (N := N) (Q := Q) (ln := ln) (n := n) hr (X 54) 40 0 rfl
          rw [zr_0] at this
          have e54 : upA (upA (upA X 52 (upd (X 52) r (ln + 1))) 53 (upd (X 53) r n)) 54 (X 54) = upA (upA X 52 (upd (X 52) r (ln + 1))) 53 (upd (X 53) r n) := by
            have := upA_id (upA (upA X 52 (upd (X 52) r (ln + 1))) 53 (upd (X 53) r n)) 54
            rw [upA_n (show (54 : Nat) ≠ 53 by decide), upA_n (show (54 : Nat) ≠ 52 by decide)] at this
            exact this
          rw [e54] at this
          refine Iff.trans this ?_
          unfold rwX
          rw [upA_n (show (51 : Nat) ≠ 53 by decide), upA_n (show (51 : Nat) ≠ 52 by decide)]
      · simp only [hx, hl, hn, and_self, and_false, not_true_eq_false, if_true, if_false, S144, px_op_some, px_op_none, tl_some, tl_none, ap_one, ap_nil, z01, o01, true_and, and_true, true_or, or_true, i10, i01, if_true, if_false, eq_self]
    · simp only [hx, hl, and_self, and_false, false_and, not_true_eq_false, not_false_eq_true, if_true, if_false, S144, px_op_some, px_op_none, tl_some, tl_none, ap_one, ap_nil, z01, o01, true_and, and_true, true_or, or_true, i10, i01, if_true, if_false, eq_self]
  · simp only [hx, false_and, not_false_eq_true, if_true, if_false, S144, px_op_some, px_op_none, tl_some, tl_none, ap_one, ap_nil, z01, o01, true_and, and_true, true_or, or_true, i10, i01, if_true, if_false, eq_self]
/-- set -/
def narI (ln v : Int32) : Int32 := if ln = 1 then v.toInt8.toInt32 else if ln = 2 then v.toInt16.toInt32 else v
theorem t145 {x i v : Int32} {sz : Nat} (hr : r < 8) (hx : x = nI r) (hs : X 53 r = nI sz) (hsz : sz ≤ 40) : wc (d + 2) 145 [.ref 51, .int x, .int i, .int v] (hp X R TH N) Q ↔ (if X 52 r = 0 then Q (some (.int (-1000011))) (hp (upA X 51 (upd (X 51) 3 1)) R TH N) else if 0 ≤ i ∧ i ≤ nI sz - 1 then Q (some (.int (narI (X 52 r) v))) (hp (upA (upA X 54 (upd (X 54) (40 * r + i.toNatClampNeg) (narI (X 52 r) v))) 51 (upd (X 51) 3 0)) R TH N) else Q (some (.int (-1000012))) (hp (upA X 51 (upd (X 51) 3 2)) R TH N)) := by
  subst hx
  have e1 : (-1000010 : Int32) - 1 = -1000011 := by decide
  have e2 : (-1000010 : Int32) - 2 = -1000012 := by decide
  simp only [S145, G51, t143, t140, t141, A52_g hr, A53_g hr, nI8 hr, hs, not_true_eq_false, px_op_some, px_op_none, tl_some, tl_none, ap_one, ap_nil, z01, o01, true_and, and_true, true_or, or_true, i10, i01, if_true, if_false, eq_self, b2_0, e1, e2]
  by_cases h0 : X 52 r = 0
  · simp only [h0, if_true]
  · by_cases hi : 0 ≤ i ∧ i ≤ nI sz - 1
    · have hsz0 : 0 < sz := by
        rcases Nat.eq_zero_or_pos sz with rfl | h
        · have : nI 0 - 1 < 0 := by decide
          exact absurd (Int32.le_trans hi.1 hi.2) (by rw [Int32.not_le]; exact this)
        · exact h
      have hi2 := hi.2
      rw [nI_m1 hsz0] at hi2
      obtain ⟨j, hj, rfl⟩ := i_ofle hi.1 hi2 (by omega)
      have e3 : (40 : Int32) * nI r + nI j = nI (40 * r + j) := by rw [show (40 : Int32) = nI 40 from rfl, pk_mul, nI_add]
      have hlt : 40 * r + j < 320 := by omega
      simp only [h0, hi, and_self, not_true_eq_false, if_true, if_false, e3, A54_p hlt, t142, nI_clamp (show j < 2 ^ 31 by omega), narI, S145, G51, px_op_some, px_op_none, tl_some, tl_none, ap_one, ap_nil, z01, o01, true_and, and_true, true_or, or_true, i10, i01, if_true, if_false, eq_self, upA_s, upA_n, upd_s, upd_n, ne_eq, Nat.reduceEqDiff, not_false_eq_true]
      by_cases h1 : X 52 r = 1
      · simp only [h1, if_true, S145, G51, A54_p hlt, t142, px_op_some, px_op_none, tl_some, tl_none, ap_one, ap_nil, z01, o01, true_and, and_true, true_or, or_true, i10, i01, if_true, if_false, eq_self, upA_s, upA_n, upd_s, upd_n, ne_eq, Nat.reduceEqDiff, not_false_eq_true]
      · by_cases h2 : X 52 r = 2
        · have h1' : ¬ (2 : Int32) = 1 := by decide
          simp only [h2, h1', if_true, if_false, S145, G51, A54_p hlt, t142, px_op_some, px_op_none, tl_some, tl_none, ap_one, ap_nil, z01, o01, true_and, and_true, true_or, or_true, i10, i01, if_true, if_false, eq_self, upA_s, upA_n, upd_s, upd_n, ne_eq, Nat.reduceEqDiff, not_false_eq_true]
        · simp only [h1, h2, if_false, S145, G51, A54_p hlt, t142, px_op_some, px_op_none, tl_some, tl_none, ap_one, ap_nil, z01, o01, true_and, and_true, true_or, or_true, i10, i01, if_true, if_false, eq_self, upA_s, upA_n, upd_s, upd_n, ne_eq, Nat.reduceEqDiff, not_false_eq_true]
    · simp only [h0, hi, not_false_eq_true, if_true, if_false]
theorem t145b {x i v : Int32} (hx : ¬ (0 ≤ x ∧ x ≤ 7)) : wc (d + 2) 145 [.ref 51, .int x, .int i, .int v] (hp X R TH N) Q ↔ Q (some (.int (-1000001))) (hp X R TH N) := by
  simp only [S145, t143, hx, not_false_eq_true, px_op_some, px_op_none, tl_some, tl_none, ap_one, ap_nil, z01, o01, true_and, and_true, true_or, or_true, i10, i01, if_true, if_false, eq_self, b2_0]
/-- drop -/
theorem t147 {x : Int32} (hr : r < 8) (hx : x = nI r) : wc (d + 2) 147 [.ref 51, .int x] (hp X R TH N) Q ↔ (if X 52 r = 0 then Q (some (.int (-1000011))) (hp (upA X 51 (upd (X 51) 3 1)) R TH N) else Q (some (.int (X 53 r))) (hp (upA (upA X 52 (upd (X 52) r 0)) 51 (upd (X 51) 3 0)) R TH N)) := by
  subst hx
  have e1 : (-1000010 : Int32) - 1 = -1000011 := by decide
  simp only [S147, G51, t143, t141, t142, A52_g hr, A52_p hr, A53_g hr, nI8 hr, not_true_eq_false, px_op_some, px_op_none, tl_some, tl_none, ap_one, ap_nil, z01, o01, true_and, and_true, true_or, or_true, i10, i01, if_true, if_false, eq_self, upA_s, upA_n, upd_s, upd_n, ne_eq, Nat.reduceEqDiff, not_false_eq_true, b2_0, e1]
theorem t147b {x : Int32} (hx : ¬ (0 ≤ x ∧ x ≤ 7)) : wc (d + 2) 147 [.ref 51, .int x] (hp X R TH N) Q ↔ Q (some (.int (-1000001))) (hp X R TH N) := by
  simp only [S147, t143, hx, not_false_eq_true, px_op_some, px_op_none, tl_some, tl_none, ap_one, ap_nil, z01, o01, true_and, and_true, true_or, or_true, i10, i01, if_true, if_false, eq_self, b2_0]
end M16
