/-! the reference: copy, hitBy -/
section M17
variable {d : Nat} {X : hX} {R : hR} {TH : hT} {N ra rb ri rj n : Nat} {w : px_H} {Q : Option Value → px_H → Prop}
/-- a copy half done: upwards k places, downwards k places -/
def cpU (f : Nat → Int32) (sp dp k : Nat) : Nat → Int32 := fun m => if dp ≤ m ∧ m < dp + k then f (sp + (m - dp)) else f m
def cpD (f : Nat → Int32) (sp dp n k : Nat) : Nat → Int32 := fun m => if dp + (n - k) ≤ m ∧ m < dp + n then f (sp + (m - dp)) else f m
theorem cpU_s {f : Nat → Int32} {sp dp k : Nat} (h : dp ≤ sp ∨ sp + k < dp ∨ dp + k ≤ sp) : upd (cpU f sp dp k) (dp + k) (cpU f sp dp k (sp + k)) = cpU f sp dp (k + 1) := by
  have e : cpU f sp dp k (sp + k) = f (sp + k) := if_neg (by omega)
  rw [e]
  funext m
  unfold upd cpU
  by_cases hm : m = dp + k
  · rw [if_pos hm, if_pos (by omega)]
    congr 1
    omega
  · rw [if_neg hm]
    by_cases h1 : dp ≤ m ∧ m < dp + k
    · rw [if_pos h1, if_pos (by omega)]
    · rw [if_neg h1, if_neg (by omega)]
theorem cpD_s {f : Nat → Int32} {sp dp n k : Nat} (hk : k < n) (h : sp ≤ dp ∨ sp + n ≤ dp ∨ dp + n ≤ sp) : upd (cpD f sp dp n k) (dp + (n - 1 - k)) (cpD f sp dp n k (sp + (n - 1 - k))) = cpD f sp dp n (k + 1) := by
  have e : cpD f sp dp n k (sp + (n - 1 - k)) = f (sp + (n - 1 - k)) := if_neg (by omega)
  rw [e]
  funext m
  unfold upd cpD
  by_cases hm : m = dp + (n - 1 - k)
  · rw [if_pos hm, if_pos (by omega)]
    congr 1
    omega
  · rw [if_neg hm]
    by_cases h1 : dp + (n - k) ≤ m ∧ m < dp + n
    · rw [if_pos h1, if_pos (by omega)]
    · rw [if_neg h1, if_neg (by omega)]
/-- apart, or in that order -/
def okU (ra ri rb rj : Nat) : Prop := ra ≠ rb ∨ rj ≤ ri
theorem l146 {rt : Int32} (ha : ra < 8) (hb : rb < 8) (hi : ri + n ≤ 40) (hj : rj + n ≤ 40) (hrt : rt = b2 (ri < rj)) (f : Nat → Int32) : ∀ (m k : Nat) (l8 : Option Value), k + m = n → (wp (d + 1) 146 125 [some (.ref 51), some (.int (nI ra)), some (.int (nI ri)), some (.int (nI rb)), some (.int (nI rj)), some (.int (nI n)), some (.int rt), some (.int (nI k)), l8] [] (hp (upA X 54 (if ri < rj then cpD f (40 * ra + ri) (40 * rb + rj) n k else cpU f (40 * ra + ri) (40 * rb + rj) k)) R TH N) 0 Q ↔ Q (some (.int (nI n))) (hp (upA (upA X 54 (if ri < rj then cpD f (40 * ra + ri) (40 * rb + rj) n n else cpU f (40 * ra + ri) (40 * rb + rj) n)) 51 (upd (X 51) 3 0)) R TH N)) := by
  intro m
  induction m with
  | zero =>
    intro k l8 hk
    obtain rfl : k = n := by omega
    rw [H146_125]
    simp only [S146, G51, px_op_some, px_op_none, tl_some, tl_none, ap_one, ap_nil, z01, o01, true_and, and_true, true_or, or_true, i10, i01, if_true, if_false, eq_self, upA_s, upA_n, upd_s, upd_n, ne_eq, Nat.reduceEqDiff, not_false_eq_true, i_nI_le, t142]
  | succ m ih =>
    intro k l8 hk
    have ih' := fun l8 => ih (k + 1) l8 (by omega)
    have hlt : (nI n ≤ nI k) = False := i_nI_lt (by omega) (by omega)
    rw [H146_125]
    by_cases hd : ri < rj
    · have hr : ¬ rt = 0 := by rw [hrt, b2_t hd]; decide
      have e0 : nI n - 1 - nI k = nI (n - 1 - k) := by rw [nI_m1 (by omega), pk_sub (by omega)]
      have e1 : (40 : Int32) * nI rb + nI rj + nI (n - 1 - k) = nI (40 * rb + rj + (n - 1 - k)) := by rw [show (40 : Int32) = nI 40 from rfl, pk_mul, nI_add, nI_add]
      have e2 : (40 : Int32) * nI ra + nI ri + nI (n - 1 - k) = nI (40 * ra + ri + (n - 1 - k)) := by rw [show (40 : Int32) = nI 40 from rfl, pk_mul, nI_add, nI_add]
      simp only [hd, if_true] at ih' ⊢
      have hap : 40 * ra + ri ≤ 40 * rb + rj ∨ 40 * ra + ri + n ≤ 40 * rb + rj ∨ 40 * rb + rj + n ≤ 40 * ra + ri := by
        rcases Nat.lt_trichotomy ra rb with q | q | q
        · exact Or.inr (Or.inl (by omega))
        · exact Or.inl (by omega)
        · exact Or.inr (Or.inr (by omega))
      simp only [S146, G51, px_op_some, px_op_none, tl_some, tl_none, ap_one, ap_nil, z01, o01, true_and, and_true, true_or, or_true, i10, i01, if_true, if_false, eq_self, hlt, hr, e0, e1, e2, A54_g (show 40 * ra + ri + (n - 1 - k) < 320 by omega), A54_p (show 40 * rb + rj + (n - 1 - k) < 320 by omega), upA_s, upA_n, upd_s, upd_n, ne_eq, Nat.reduceEqDiff, not_false_eq_true, upA_upA, nI_1, cpD_s (f := f) (sp := 40 * ra + ri) (dp := 40 * rb + rj) (show k < n by omega) hap, ih']
    · have hr : rt = 0 := by rw [hrt, b2_f hd]
      have e1 : (40 : Int32) * nI rb + nI rj + nI k = nI (40 * rb + rj + k) := by rw [show (40 : Int32) = nI 40 from rfl, pk_mul, nI_add, nI_add]
      have e2 : (40 : Int32) * nI ra + nI ri + nI k = nI (40 * ra + ri + k) := by rw [show (40 : Int32) = nI 40 from rfl, pk_mul, nI_add, nI_add]
      simp only [hd, if_false] at ih' ⊢
      have hap : 40 * rb + rj ≤ 40 * ra + ri ∨ 40 * ra + ri + k < 40 * rb + rj ∨ 40 * rb + rj + k ≤ 40 * ra + ri := by
        rcases Nat.lt_trichotomy ra rb with q | q | q
        · exact Or.inr (Or.inl (by omega))
        · exact Or.inl (by omega)
        · exact Or.inr (Or.inr (by omega))
      subst hr
      simp only [S146, G51, px_op_some, px_op_none, tl_some, tl_none, ap_one, ap_nil, z01, o01, true_and, and_true, true_or, or_true, i10, i01, if_true, if_false, eq_self, hlt, e1, e2, A54_g (show 40 * ra + ri + k < 320 by omega), A54_p (show 40 * rb + rj + k < 320 by omega), upA_s, upA_n, upd_s, upd_n, ne_eq, Nat.reduceEqDiff, not_false_eq_true, upA_upA, nI_1, cpU_s (f := f) (sp := 40 * ra + ri) (dp := 40 * rb + rj) (k := k) hap, ih']
theorem cp_done {f : Nat → Int32} {sp dp n : Nat} : cpD f sp dp n n = cpU f sp dp n := by
  funext m
  unfold cpD cpU
  by_cases h : dp ≤ m ∧ m < dp + n
  · rw [if_pos (by omega), if_pos h]
  · rw [if_neg (by omega), if_neg h]
/-- copy, where all is well -/
theorem t146 (ha : ra < 8) (hb : rb < 8) (hi : ri + n ≤ 40) (hj : rj + n ≤ 40) {sa sb : Nat} (h1 : ¬ X 52 ra = 0) (h2 : X 52 ra = X 52 rb) (hsa : X 53 ra = nI sa) (hsb : X 53 rb = nI sb) (hs1 : sa ≤ 40) (hs2 : sb ≤ 40) (hi' : ri + n ≤ sa) (hj' : rj + n ≤ sb) : wc (d + 2) 146 [.ref 51, .int (nI ra), .int (nI ri), .int (nI rb), .int (nI rj), .int (nI n)] (hp X R TH N) Q ↔ Q (some (.int (nI n))) (hp (upA (upA X 54 (cpU (X 54) (40 * ra + ri) (40 * rb + rj) n)) 51 (upd (X 51) 3 0)) R TH N) := by
  have h3 : ¬ X 52 rb = 0 := by rw [← h2]; exact h1
  have p1 : (nI ri < 0) = False := eq_false (nI_pos (by omega))
  have p2 : (nI rj < 0) = False := eq_false (nI_pos (by omega))
  have p3 : (nI n < 0) = False := eq_false (nI_pos (by omega))
  have q1 : (nI sa - nI ri < nI n) = False := by rw [pk_sub (by omega)]; exact eq_false (nI_nlt (by omega) (by omega))
  have q2 : (nI n ≤ nI sb - nI rj) = True := by rw [pk_sub (by omega)]; exact eq_true (nI_le (by omega) (by omega))
  have hl := l146 (d := d + 1) (X := X) (R := R) (TH := TH) (N := N) (Q := Q) (rt := b2 (ri < rj)) ha hb hi hj rfl (X 54) n 0 none (by omega)
  have e0 : (if ri < rj then cpD (X 54) (40 * ra + ri) (40 * rb + rj) n 0 else cpU (X 54) (40 * ra + ri) (40 * rb + rj) 0) = X 54 := by
    split
    · funext m; exact if_neg (by omega)
    · funext m; exact if_neg (by omega)
  have e1 : (if ri < rj then cpD (X 54) (40 * ra + ri) (40 * rb + rj) n n else cpU (X 54) (40 * ra + ri) (40 * rb + rj) n) = cpU (X 54) (40 * ra + ri) (40 * rb + rj) n := by
    split
    · exact cp_done
    · rfl
  rw [e0, e1, upA_id] at hl
  rw [← hl]
  by_cases hd : ri < rj
  · have r1 : (nI rj ≤ nI ri) = False := i_nI_lt hd (by omega)
    rw [b2_t hd]
    simp only [S146, G51, t143, t140, nI8 ha, nI8 hb, A52_g ha, A52_g hb, A53_g ha, A53_g hb, h1, h3, h2, hsa, hsb, p1, p2, p3, q1, q2, r1, not_true_eq_false, px_op_some, px_op_none, tl_some, tl_none, ap_one, ap_nil, z01, o01, true_and, and_true, true_or, or_true, i10, i01, if_true, if_false, eq_self, b2_0]
    rfl
  · have r1 : (nI rj ≤ nI ri) = True := eq_true (nI_le (by omega) (by omega))
    rw [b2_f hd]
    simp only [S146, G51, t143, t140, nI8 ha, nI8 hb, A52_g ha, A52_g hb, A53_g ha, A53_g hb, h1, h3, h2, hsa, hsb, p1, p2, p3, q1, q2, r1, not_true_eq_false, px_op_some, px_op_none, tl_some, tl_none, ap_one, ap_nil, z01, o01, true_and, and_true, true_or, or_true, i10, i01, if_true, if_false, eq_self, b2_0]
    rfl
end M17
