/-! the reference: harm, trace, acts -/
section M10
variable {d : Nat} {X : hX} {R : hR} {TH : hT} {N T Hn l p a : Nat} {w : px_H} {Q : Option Value → px_H → Prop}
/-- harm -/
theorem t182 {x what : Int32} (h : MB X T Hn) (hQ : ∀ f, Q (some (.int (if (0 ≤ x ∧ x ≤ nI Hn - 1) ∧ (0 ≤ what ∧ what ≤ 2) then (if what = 0 then rH (X 55) x.toNatClampNeg else if what = 2 then sumI (X 55) (rH (X 55) x.toNatClampNeg) T else 1 - (openI (X 55) (rS (X 55)) (X 55 3) (X 55 0) T Hn >>> (x &&& 31) &&& 1)) else -1000001))) (hp (upA X 59 f) R TH N)) : wc (d + 5) 182 [.ref 51, .int x, .int what] (hp X R TH N) Q := by
  simp only [S182, G51, t153 h.1, t140, h.2.2.2.1, px_op_some, px_op_none, tl_some, tl_none, ap_one, ap_nil, z01, o01, true_and, and_true, true_or, or_true, i10, i01, if_true, if_false, eq_self, b2_0]
  by_cases hx : 0 ≤ x ∧ x ≤ nI Hn - 1
  · obtain ⟨p, hp1, rfl⟩ := (inT h.2.2.2.2).mp hx
    have h8 : p < 8 := by have := h.2.2.2.2; omega
    by_cases hk : 0 ≤ what ∧ what ≤ 2
    · simp only [hx, hk, and_self, if_true, nI_clamp (show p < 2 ^ 31 by omega)] at hQ
      simp only [hx, hk, and_self, not_true_eq_false, if_false, S182, G51, gtH h.1 h8, gt3 h.1, t180 h, t171' h, px_op_some, px_op_none, tl_some, tl_none, ap_one, ap_nil, z01, o01, true_and, and_true, true_or, or_true, i10, i01, if_true, if_false, eq_self]
      by_cases h0 : what = 0
      · have := hQ (X 59)
        rw [upA_id] at this
        simp only [h0, if_true] at this ⊢
        exact this
      · by_cases h2 : what = 2
        · have := hQ (X 59)
          rw [upA_id] at this
          simp only [h0, h2, if_true, if_false] at this ⊢
          simpa using this
        · simp only [h0, h2, if_false] at hQ ⊢
          exact hQ _
    · have := hQ (X 59)
      rw [upA_id] at this
      simp only [hx, hk, and_self, and_false, not_true_eq_false, not_false_eq_true, if_true, if_false] at this ⊢
      exact this
  · have := hQ (X 59)
    rw [upA_id] at this
    simp only [hx, false_and, not_false_eq_true, if_true, if_false] at this ⊢
    exact this
/-- trace -/
theorem t220 {x : Int32} (hl : X 51 22 = nI l) (h16 : l ≤ 16) : wc (d + 1) 220 [.ref 51, .int x] (hp X R TH N) Q ↔ Q (some (.int (if 0 ≤ x ∧ x ≤ nI l - 1 then X 61 x.toNatClampNeg else -1000000))) (hp X R TH N) := by
  simp only [S220, G51, t140, hl, px_op_some, px_op_none, tl_some, tl_none, ap_one, ap_nil, z01, o01, true_and, and_true, true_or, or_true, i10, i01, if_true, if_false, eq_self, b2_0]
  by_cases hx : 0 ≤ x ∧ x ≤ nI l - 1
  · have h0 : 0 < l := by
      rcases Nat.eq_zero_or_pos l with rfl | h
      · have : nI 0 - 1 < 0 := by decide
        exact absurd (Int32.le_trans hx.1 hx.2) (by rw [Int32.not_le]; exact this)
      · exact h
    have hx2 := hx.2
    rw [nI_m1 h0] at hx2
    obtain ⟨p, hp1, rfl⟩ := i_ofle hx.1 hx2 (by omega)
    simp only [hx, and_self, not_true_eq_false, if_true, if_false, A61_g (show p < 16 by omega), px_op_some, px_op_none, tl_some, tl_none, ap_one, ap_nil, z01, o01, true_and, and_true, true_or, or_true, i10, i01, if_true, if_false, eq_self, nI_clamp (show p < 2 ^ 31 by omega), S220]
  · simp only [hx, not_false_eq_true, if_true, if_false]
/-- the acts, as one more is known: of 24 the first falls out -/
def shF (f : Nat → Int32) (n : Nat) : Nat → Int32 := fun j => if j < n then f (4 + j) else f j
theorem l174 {x : Int32} (f : Nat → Int32) : ∀ (n k : Nat), k + n = 92 → (wp d 174 11 [some (.ref 51), some (.int x), some (.int (nI k))] [] (hp (upA X 57 (shF f k)) R TH N) 0 Q ↔ wp d 174 37 [some (.ref 51), some (.int x), some (.int (nI 92))] [] (hp (upA X 57 (shF f 92)) R TH N) 0 Q) := by
  sorry
end M10
