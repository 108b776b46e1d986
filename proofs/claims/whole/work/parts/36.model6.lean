/-! the reference: what is asked of things, what is left behind -/
theorem nI_m1 {T : Nat} (h : 0 < T) : nI T - 1 = nI (T - 1) := by
  obtain ⟨n, rfl⟩ : ∃ n, T = n + 1 := ⟨T - 1, by omega⟩
  exact nI_pred n
/-- a place among T -/
theorem inT {x : Int32} {T : Nat} (h8 : T ≤ 8) : (0 ≤ x ∧ x ≤ nI T - 1) ↔ ∃ p, p < T ∧ x = nI p := by
  constructor
  · rintro ⟨h0, h1⟩
    rcases Nat.eq_zero_or_pos T with rfl | hT
    · have : nI 0 - 1 < 0 := by decide
      exact absurd (Int32.le_trans h0 h1) (by rw [Int32.not_le]; exact this)
    · rw [nI_m1 hT] at h1
      obtain ⟨j, hj, rfl⟩ := i_ofle h0 h1 (by omega)
      exact ⟨j, by omega, rfl⟩
  · rintro ⟨p, hp, rfl⟩
    refine ⟨nI_pos' (by omega), ?_⟩
    rw [nI_m1 (by omega)]
    exact nI_le (by omega) (by omega)
section M8
variable {d : Nat} {X : hX} {R : hR} {TH : hT} {N T Hn D : Nat} {w : px_H} {Q : Option Value → px_H → Prop}
/-- kind -/
theorem t202 {x : Int32} (h : MB X T Hn) : wc (d + 2) 202 [.ref 51, .int x] (hp X R TH N) Q ↔ Q (some (.int (if 0 ≤ x ∧ x ≤ nI T - 1 then rK (X 55) x.toNatClampNeg else -1000001))) (hp X R TH N) := by
  simp only [S202, G51, t152 h.1, h.2.1, px_op_some, px_op_none, tl_some, tl_none, ap_one, ap_nil, z01, o01, true_and, and_true, true_or, or_true, i10, i01, if_true, if_false, eq_self, b2_0]
  by_cases hx : 0 ≤ x ∧ x ≤ nI T - 1
  · obtain ⟨p, hp, rfl⟩ := (inT h.2.2.1).mp hx
    have h8 : p < 8 := by have := h.2.2.1; omega
    simp only [if_neg (fun z : ¬ _ => z hx), if_pos hx, of0 h.1 h8, S202, px_op_some, px_op_none, tl_some, tl_none, ap_one, ap_nil, z01, o01, true_and, and_true, true_or, or_true, i10, i01, if_true, if_false, eq_self, nI_clamp (show p < 2 ^ 31 by omega), rK]
  · simp only [if_pos hx, if_neg hx]
/-- as -/
theorem t205 {x k : Int32} (h : MB X T Hn) : wc (d + 2) 205 [.ref 51, .int x, .int k] (hp X R TH N) Q ↔ (if (0 ≤ x ∧ x ≤ nI T - 1) ∧ (0 ≤ k ∧ k ≤ 5) then (if k = 0 ∨ k = rK (X 55) x.toNatClampNeg ∨ (k = 1 ∧ 2 ≤ rK (X 55) x.toNatClampNeg ∧ rK (X 55) x.toNatClampNeg ≤ 3) ∨ (k = 4 ∧ rK (X 55) x.toNatClampNeg = 5) then Q (some (.int x)) (hp (upA X 51 (upd (X 51) 3 0)) R TH N) else Q (some (.int (-1000013))) (hp (upA X 51 (upd (X 51) 3 3)) R TH N)) else Q (some (.int (-1000001))) (hp X R TH N)) := by
  simp only [S205, G51, t152 h.1, t140, h.2.1, px_op_some, px_op_none, tl_some, tl_none, ap_one, ap_nil, z01, o01, true_and, and_true, true_or, or_true, i10, i01, if_true, if_false, eq_self, b2_0]
  by_cases hx : 0 ≤ x ∧ x ≤ nI T - 1
  · obtain ⟨p, hp, rfl⟩ := (inT h.2.2.1).mp hx
    have h8 : p < 8 := by have := h.2.2.1; omega
    have e1 : X 55 (5 + 4 * p) = rK (X 55) p := rfl
    by_cases hk : 0 ≤ k ∧ k ≤ 5
    · simp only [hx, hk, not_true_eq_false, and_self, if_false, if_true, of0 h.1 h8, S205, G51, t204, t141, t142, px_op_some, px_op_none, tl_some, tl_none, ap_one, ap_nil, z01, o01, true_and, and_true, true_or, or_true, i10, i01, if_true, if_false, eq_self, b2_0, nI_clamp (show p < 2 ^ 31 by omega), e1]
      by_cases hc : k = 0 ∨ k = rK (X 55) p ∨ (k = 1 ∧ 2 ≤ rK (X 55) p ∧ rK (X 55) p ≤ 3) ∨ (k = 4 ∧ rK (X 55) p = 5)
      · simp only [if_pos hc, if_neg (fun z : ¬ _ => z hc)]
      · simp only [if_neg hc, if_pos hc]
        rfl
    · simp only [hx, hk, and_self, not_true_eq_false, not_false_eq_true, and_false, if_false, if_true]
  · simp only [hx, not_false_eq_true, false_and, if_false, if_true]
/-- thing -/
theorem t181 {x what : Int32} (h : MB X T Hn) (hQ : ∀ f, Q (some (.int (if 0 ≤ x ∧ x ≤ nI T - 1 then (if what = 0 then rF (X 55) x.toNatClampNeg else if what = 1 then rP (X 55) x.toNatClampNeg else if what = 2 then rS (X 55) x.toNatClampNeg else if what = 3 then bndI (X 55) (rS (X 55)) (X 55 3) (X 55 0) T >>> (x &&& 31) &&& 1 else if what = 4 then wayI (rK (X 55) x.toNatClampNeg) (rF (X 55) x.toNatClampNeg) else -1000001) else -1000001))) (hp (upA X 59 f) R TH N)) : wc (d + 3) 181 [.ref 51, .int x, .int what] (hp X R TH N) Q := by
  simp only [S181, G51, t152 h.1, t167 h.1 h.2.1 h.2.2.1, h.2.1, px_op_some, px_op_none, tl_some, tl_none, ap_one, ap_nil, z01, o01, true_and, and_true, true_or, or_true, i10, i01, if_true, if_false, eq_self, b2_0, sw_181_16]
  by_cases hx : 0 ≤ x ∧ x ≤ nI T - 1
  · obtain ⟨p, hp, rfl⟩ := (inT h.2.2.1).mp hx
    have h8 : p < 8 := by have := h.2.2.1; omega
    have h' := h.up (q := 59) (f := cp (rS (X 55)) (X 59) T) (by decide) (by decide)
    have hq := hQ (cp (rS (X 55)) (X 59) T)
    simp only [hx, and_self, if_true, nI_clamp (show p < 2 ^ 31 by omega)] at hq
    simp only [hx, and_self, not_true_eq_false, if_false]
    by_cases h0 : what = 0
    · subst h0
      simp only [if_true, S181, G51, px_op_some, px_op_none, tl_some, tl_none, ap_one, ap_nil, z01, o01, true_and, and_true, true_or, or_true, i10, i01, if_true, if_false, eq_self] at hq ⊢
      exact (t154 (k := 1) (y := 1 + 0) h'.1 rfl (by decide) h8 (by decide)).mpr (by simp only [S181, px_op_some, px_op_none, tl_some, tl_none, ap_one, ap_nil, z01, o01, true_and, and_true, true_or, or_true, i10, i01, if_true, if_false, eq_self, upA_s, upA_n, upd_s, upd_n, ne_eq, Nat.reduceEqDiff, not_false_eq_true]; exact hq)
    by_cases h1 : what = 1
    · subst h1
      simp only [if_neg (show ¬ (1 : Int32) = 0 by decide), if_true, S181, G51, px_op_some, px_op_none, tl_some, tl_none, ap_one, ap_nil, z01, o01, true_and, and_true, true_or, or_true, i10, i01, if_true, if_false, eq_self] at hq ⊢
      exact (t154 (k := 2) (y := 1 + 1) h'.1 rfl (by decide) h8 (by decide)).mpr (by simp only [S181, px_op_some, px_op_none, tl_some, tl_none, ap_one, ap_nil, z01, o01, true_and, and_true, true_or, or_true, i10, i01, if_true, if_false, eq_self, upA_s, upA_n, upd_s, upd_n, ne_eq, Nat.reduceEqDiff, not_false_eq_true]; exact hq)
    by_cases h2 : what = 2
    · subst h2
      simp only [if_neg (show ¬ (2 : Int32) = 0 by decide), if_neg (show ¬ (2 : Int32) = 1 by decide), if_true, S181, G51, px_op_some, px_op_none, tl_some, tl_none, ap_one, ap_nil, z01, o01, true_and, and_true, true_or, or_true, i10, i01, if_true, if_false, eq_self] at hq ⊢
      exact (t154 (k := 3) (y := 1 + 2) h'.1 rfl (by decide) h8 (by decide)).mpr (by simp only [S181, px_op_some, px_op_none, tl_some, tl_none, ap_one, ap_nil, z01, o01, true_and, and_true, true_or, or_true, i10, i01, if_true, if_false, eq_self, upA_s, upA_n, upd_s, upd_n, ne_eq, Nat.reduceEqDiff, not_false_eq_true]; exact hq)
    by_cases h3 : what = 3
    · subst h3
      simp only [if_neg (show ¬ (3 : Int32) = 0 by decide), if_neg (show ¬ (3 : Int32) = 1 by decide), if_neg (show ¬ (3 : Int32) = 2 by decide), if_true, S181, G51, gt3 h'.1, gt0 h'.1, t168 h'.1 h'.2.1 h.2.2.1, px_op_some, px_op_none, tl_some, tl_none, ap_one, ap_nil, z01, o01, true_and, and_true, true_or, or_true, i10, i01, if_true, if_false, eq_self, upA_s, upA_n, upd_s, upd_n, ne_eq, Nat.reduceEqDiff, not_false_eq_true] at hq ⊢
      rw [bndI_c (fun p hp => cp_lt hp)]
      exact hq
    by_cases h4 : what = 4
    · subst h4
      simp only [if_neg (show ¬ (4 : Int32) = 0 by decide), if_neg (show ¬ (4 : Int32) = 1 by decide), if_neg (show ¬ (4 : Int32) = 2 by decide), if_neg (show ¬ (4 : Int32) = 3 by decide), if_true, S181, G51, t172 h'.1 h8, px_op_some, px_op_none, tl_some, tl_none, ap_one, ap_nil, z01, o01, true_and, and_true, true_or, or_true, i10, i01, if_true, if_false, eq_self, upA_s, upA_n, upd_s, upd_n, ne_eq, Nat.reduceEqDiff, not_false_eq_true] at hq ⊢
      exact hq
    · simp only [h0, h1, h2, h3, h4, if_false, S181, px_op_some, px_op_none, tl_some, tl_none, ap_one, ap_nil, z01, o01, true_and, and_true, true_or, or_true, i10, i01, if_true, if_false, eq_self] at hq ⊢
      exact hq
  · have := hQ (X 59)
    rw [upA_id] at this
    simp only [hx, not_false_eq_true, if_false, if_true] at this ⊢
    exact this
end M8
