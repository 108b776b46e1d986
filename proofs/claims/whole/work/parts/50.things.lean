/-! the class: things -/
def thC (κ : Nat) : Nat := if κ = 1 then 3 else if κ = 2 then 1 else if κ = 3 then 9 else if κ = 4 then 0 else 8
/-- a thing of kind κ stands at q -/
def isTh (TH : hT) (q κ : Nat) (n f p : Int32) : Prop := 62 ≤ q ∧ (κ = 1 ∨ κ = 2 ∨ κ = 3 ∨ κ = 4 ∨ κ = 5) ∧ TH q = some (.inr (.inr (thC κ, [.int n, .int f, .int p])))
section C1
variable {d : Nat} {X : hX} {R : hR} {TH : hT} {N q κ : Nat} {n f p : Int32} {Q : Option Value → px_H → Prop}
theorem th_tgt {ci M : Nat} {fs : List Value} {cis : List (Nat × Nat)} (hq : 62 ≤ q) (h : TH q = some (.inr (.inr (ci, fs)))) (hl : cis.lookup ci = some M) : px_tgt (hp X R TH N) q cis = some M := by
  unfold px_tgt px_cls
  rw [hp_th hq, h]
  exact hl
theorem th_cls (h : isTh TH q κ n f p) : px_cls (hp X R TH N) q = some (thC κ) := by
  unfold px_cls
  rw [hp_th h.1, h.2.2]
theorem th_fld (h : isTh TH q κ n f p) : px_fld (hp X R TH N) q [(0, 0), (1, 0), (3, 0), (8, 0), (9, 0)] 0 = some (.int n) ∧ px_fld (hp X R TH N) q [(0, 0), (1, 0), (3, 0), (8, 0), (9, 0)] 1 = some (.int f) ∧ px_fld (hp X R TH N) q [(0, 0), (1, 0), (3, 0), (8, 0), (9, 0)] 2 = some (.int p) := by
  obtain ⟨hq, hk, h⟩ := h
  unfold px_fld
  rw [hp_th hq, h]
  rcases hk with rfl | rfl | rfl | rfl | rfl <;> exact ⟨rfl, rfl, rfl⟩
theorem v_told (h : isTh TH q κ n f p) {K : Option Value → px_H → Prop} : px_op (px_tgt (hp X R TH N) q [(0, 1), (1, 7), (3, 26), (8, 88), (9, 93)]) (fun v => wc d v [.ref q] (hp X R TH N) K) ↔ K (some (.int (nI κ))) (hp X R TH N) := by
  obtain ⟨hq, hk, ht⟩ := h
  rcases hk with rfl | rfl | rfl | rfl | rfl
  · rw [th_tgt (M := 26) hq ht rfl, px_op_some]; simp only [S26]; rfl
  · rw [th_tgt (M := 7) hq ht rfl, px_op_some]; simp only [S7]; rfl
  · rw [th_tgt (M := 93) hq ht rfl, px_op_some]; simp only [S93]; rfl
  · rw [th_tgt (M := 1) hq ht rfl, px_op_some]; simp only [S1]; rfl
  · rw [th_tgt (M := 88) hq ht rfl, px_op_some]; simp only [S88]; rfl
/-- the days of the way: as the class has them -/
def waC (κ : Nat) (f : Int32) : Int32 := if κ = 4 ∨ κ = 5 then (if (1 : Int32) < 4 * f then 4 * f else 1) else (if (1 : Int32) < 2 * f then 2 * f else 1)
theorem v_days (h : isTh TH q κ n f p) {K : Option Value → px_H → Prop} : px_op (px_tgt (hp X R TH N) q [(0, 3), (1, 78), (3, 78), (8, 3), (9, 78)]) (fun v => wc d v [.ref q] (hp X R TH N) K) ↔ K (some (.int (waC κ f))) (hp X R TH N) := by
  have hf := th_fld (X := X) (R := R) (N := N) h
  obtain ⟨hq, hk, ht⟩ := h
  rcases hk with rfl | rfl | rfl | rfl | rfl
  · rw [th_tgt (M := 78) hq ht rfl, px_op_some]; simp only [S78, hf, px_op_some]; rfl
  · rw [th_tgt (M := 78) hq ht rfl, px_op_some]; simp only [S78, hf, px_op_some]; rfl
  · rw [th_tgt (M := 78) hq ht rfl, px_op_some]; simp only [S78, hf, px_op_some]; rfl
  · rw [th_tgt (M := 3) hq ht rfl, px_op_some]; simp only [S3, hf, px_op_some]; rfl
  · rw [th_tgt (M := 3) hq ht rfl, px_op_some]; simp only [S3, hf, px_op_some]; rfl
theorem v_swears (h : isTh TH q κ n f p) {day : Int32} {K : Option Value → px_H → Prop} : px_op (px_tgt (hp X R TH N) q [(0, 79), (1, 79), (3, 79), (8, 79), (9, 95)]) (fun v => wc d v [.ref q, .int day] (hp X R TH N) K) ↔ K (some (.int (b2 (¬ κ = 3 ∨ 10 ≤ day)))) (hp X R TH N) := by
  obtain ⟨hq, hk, ht⟩ := h
  rcases hk with rfl | rfl | rfl | rfl | rfl
  · rw [th_tgt (M := 79) hq ht rfl, px_op_some, b2_t (by simp)]; simp only [S79, px_op_some, px_op_none, tl_some, tl_none, ap_one, ap_nil, z01, o01, true_and, and_true, true_or, or_true, i10, i01, if_true, if_false, eq_self]
  · rw [th_tgt (M := 79) hq ht rfl, px_op_some, b2_t (by simp)]; simp only [S79, px_op_some, px_op_none, tl_some, tl_none, ap_one, ap_nil, z01, o01, true_and, and_true, true_or, or_true, i10, i01, if_true, if_false, eq_self]
  · rw [th_tgt (M := 95) hq ht rfl, px_op_some]
    simp only [S95, px_op_some, px_op_none, tl_some, tl_none, ap_one, ap_nil, z01, o01, true_and, and_true, true_or, or_true, i10, i01, if_true, if_false, eq_self]
    by_cases hd : day < 10
    · rw [if_pos hd, b2_f (by simp [Int32.not_le, hd])]
    · rw [if_neg hd, b2_t (Or.inr (Int32.not_lt.mp hd))]
  · rw [th_tgt (M := 79) hq ht rfl, px_op_some, b2_t (by simp)]; simp only [S79, px_op_some, px_op_none, tl_some, tl_none, ap_one, ap_nil, z01, o01, true_and, and_true, true_or, or_true, i10, i01, if_true, if_false, eq_self]
  · rw [th_tgt (M := 79) hq ht rfl, px_op_some, b2_t (by simp)]; simp only [S79, px_op_some, px_op_none, tl_some, tl_none, ap_one, ap_nil, z01, o01, true_and, and_true, true_or, or_true, i10, i01, if_true, if_false, eq_self]
theorem v_held (h : isTh TH q κ n f p) {b : Int32} {K : Option Value → px_H → Prop} : px_op (px_tgt (hp X R TH N) q [(0, 80), (1, 9), (3, 80), (8, 90), (9, 80)]) (fun v => wc d v [.ref q, .int b] (hp X R TH N) K) ↔ K (some (.int (b2 (¬ κ = 5 ∧ (¬ κ = 2 ∨ n = 0 ∨ b >>> ((n - 1) &&& 31) &&& 1 = 1))))) (hp X R TH N) := by
  have hf := th_fld (X := X) (R := R) (N := N) h
  obtain ⟨hq, hk, ht⟩ := h
  rcases hk with rfl | rfl | rfl | rfl | rfl
  · rw [th_tgt (M := 80) hq ht rfl, px_op_some, b2_t (by simp)]; simp only [S80, px_op_some, px_op_none, tl_some, tl_none, ap_one, ap_nil, z01, o01, true_and, and_true, true_or, or_true, i10, i01, if_true, if_false, eq_self]
  · rw [th_tgt (M := 9) hq ht rfl, px_op_some]
    simp only [S9, hf, px_op_some, px_op_none, tl_some, tl_none, ap_one, ap_nil, z01, o01, true_and, and_true, true_or, or_true, i10, i01, if_true, if_false, eq_self]
    by_cases h0 : n = 0
    · rw [b2_t (by simp [h0])]; simp [h0]
    · by_cases h1 : b >>> (n - 1 &&& 31) &&& 1 = 1
      · rw [b2_t (by simp [h1])]; simp [h0, h1]
      · rw [b2_f (by simp [h0, h1])]; simp [h0, h1]
  · rw [th_tgt (M := 80) hq ht rfl, px_op_some, b2_t (by simp)]; simp only [S80, px_op_some, px_op_none, tl_some, tl_none, ap_one, ap_nil, z01, o01, true_and, and_true, true_or, or_true, i10, i01, if_true, if_false, eq_self]
  · rw [th_tgt (M := 80) hq ht rfl, px_op_some, b2_t (by simp)]; simp only [S80, px_op_some, px_op_none, tl_some, tl_none, ap_one, ap_nil, z01, o01, true_and, and_true, true_or, or_true, i10, i01, if_true, if_false, eq_self]
  · rw [th_tgt (M := 90) hq ht rfl, px_op_some, b2_f (by simp)]; simp only [S90, px_op_some, px_op_none, tl_some, tl_none, ap_one, ap_nil, z01, o01, true_and, and_true, true_or, or_true, i10, i01, if_true, if_false, eq_self]
/-- isOf -/
theorem v_isOf (h : isTh TH q κ n f p) {k : Int32} {K : Option Value → px_H → Prop} : px_op (px_tgt (hp X R TH N) q [(0, 2), (1, 8), (3, 27), (8, 89), (9, 94)]) (fun v => wc (d + 2) v [.ref q, .int k] (hp X R TH N) K) ↔ K (some (.int (b2 (k = 0 ∨ k = nI κ ∨ (k = 1 ∧ 2 ≤ nI κ ∧ nI κ ≤ 3) ∨ (k = 4 ∧ nI κ = 5))))) (hp X R TH N) := by
  have hc := th_cls (X := X) (R := R) (N := N) h
  have t77 : ∀ (d : Nat) (K : Option Value → px_H → Prop), wc d 77 [.ref q, .int k] (hp X R TH N) K ↔ K (some (.int (b2 (k = 0)))) (hp X R TH N) := by
    intro d K
    simp only [S77, px_op_some, px_op_none, tl_some, tl_none, ap_one, ap_nil, z01, o01, true_and, and_true, true_or, or_true, i10, i01, if_true, if_false, eq_self]
    by_cases h0 : k = 0
    · simp [h0, b2]
    · simp [h0, b2]
  have t27 : ∀ (d : Nat) (K : Option Value → px_H → Prop), wc (d + 1) 27 [.ref q, .int k] (hp X R TH N) K ↔ K (some (.int (b2 (k = 0 ∨ k = 1)))) (hp X R TH N) := by
    intro d K
    simp only [S27, hc, t77, px_op_some, px_op_none, tl_some, tl_none, ap_one, ap_nil, z01, o01, true_and, and_true, true_or, or_true, i10, i01, if_true, if_false, eq_self, b2_0]
    by_cases h1 : k = 1
    · simp [h1, b2]
    · by_cases h0 : k = 0
      · simp [h0, b2]
      · simp [h0, h1, b2]
  have t2 : ∀ (d : Nat) (K : Option Value → px_H → Prop), wc (d + 1) 2 [.ref q, .int k] (hp X R TH N) K ↔ K (some (.int (b2 (k = 0 ∨ k = 4)))) (hp X R TH N) := by
    intro d K
    simp only [S2, hc, t77, px_op_some, px_op_none, tl_some, tl_none, ap_one, ap_nil, z01, o01, true_and, and_true, true_or, or_true, i10, i01, if_true, if_false, eq_self, b2_0]
    by_cases h1 : k = 4
    · simp [h1, b2]
    · by_cases h0 : k = 0
      · simp [h0, b2]
      · simp [h0, h1, b2]
  obtain ⟨hq, hk, ht⟩ := h
  rcases hk with rfl | rfl | rfl | rfl | rfl
  · rw [th_tgt (M := 27) hq ht rfl, px_op_some, t27, b2_c (q := k = 0 ∨ k = nI 1 ∨ (k = 1 ∧ 2 ≤ nI 1 ∧ nI 1 ≤ 3) ∨ (k = 4 ∧ nI 1 = 5))]
    have e1 : ¬ (2 ≤ nI 1 ∧ nI 1 ≤ 3) := by decide
    have e2 : ¬ nI 1 = 5 := by decide
    simp only [e1, e2, and_false, or_false]
    rfl
  · rw [th_tgt (M := 8) hq ht rfl, px_op_some]
    have e1 : (2 ≤ nI 2 ∧ nI 2 ≤ 3) := by decide
    have e2 : ¬ nI 2 = 5 := by decide
    have e3 : nI 2 = 2 := rfl
    simp only [S8, hc, t27, px_op_some, px_op_none, tl_some, tl_none, ap_one, ap_nil, z01, o01, true_and, and_true, true_or, or_true, i10, i01, if_true, if_false, eq_self, b2_0, e1, e2, e3, and_true, and_false, or_false]
    by_cases h2 : k = 2
    · simp [h2, b2]
    · by_cases h0 : k = 0 ∨ k = 1
      · simp [h0, h2, b2]
      · simp [h0, h2, b2]
  · rw [th_tgt (M := 94) hq ht rfl, px_op_some]
    have e1 : (2 ≤ nI 3 ∧ nI 3 ≤ 3) := by decide
    have e2 : ¬ nI 3 = 5 := by decide
    have e3 : nI 3 = 3 := rfl
    simp only [S94, hc, t27, px_op_some, px_op_none, tl_some, tl_none, ap_one, ap_nil, z01, o01, true_and, and_true, true_or, or_true, i10, i01, if_true, if_false, eq_self, b2_0, e1, e2, e3, and_true, and_false, or_false]
    by_cases h2 : k = 3
    · simp [h2, b2]
    · by_cases h0 : k = 0 ∨ k = 1
      · simp [h0, h2, b2]
      · simp [h0, h2, b2]
  · rw [th_tgt (M := 2) hq ht rfl, px_op_some, t2, b2_c (q := k = 0 ∨ k = nI 4 ∨ (k = 1 ∧ 2 ≤ nI 4 ∧ nI 4 ≤ 3) ∨ (k = 4 ∧ nI 4 = 5))]
    have e1 : ¬ (2 ≤ nI 4 ∧ nI 4 ≤ 3) := by decide
    have e2 : ¬ nI 4 = 5 := by decide
    simp only [e1, e2, and_false, or_false]
    rfl
  · rw [th_tgt (M := 89) hq ht rfl, px_op_some]
    have e1 : ¬ (2 ≤ nI 5 ∧ nI 5 ≤ 3) := by decide
    have e2 : nI 5 = 5 := rfl
    simp only [S89, hc, t2, px_op_some, px_op_none, tl_some, tl_none, ap_one, ap_nil, z01, o01, true_and, and_true, true_or, or_true, i10, i01, if_true, if_false, eq_self, b2_0, e1, e2, and_true, and_false, false_or]
    by_cases h2 : k = 5
    · simp [h2, b2]
    · by_cases h0 : k = 0 ∨ k = 4
      · simp [h0, h2, b2]
      · simp [h0, h2, b2]
end C1
