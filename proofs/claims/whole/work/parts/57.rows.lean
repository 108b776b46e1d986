/-! the class: rows -/
/-- all are 0 or 1, from place k on -/
def yn (f : Nat → Int32) : Nat → Nat → Bool
  | 0, _ => true
  | n + 1, k => if f k = 0 ∨ f k = 1 then yn f n (k + 1) else false
theorem yn_c {f g : Nat → Int32} : ∀ {n k : Nat}, (∀ j, k ≤ j → j < k + n → f j = g j) → yn f n k = yn g n k := by
  intro n
  induction n with
  | zero => intro k _; rfl
  | succ n ih =>
    intro k h
    unfold yn
    rw [h k (Nat.le_refl k) (by omega), ih (fun j h1 h2 => h j (by omega) (by omega))]
def fi (f : Nat → Int32) (v : Int32) (n : Nat) : Nat → Int32 := fun j => if j < n then v else f j
theorem fi_0 (f : Nat → Int32) (v : Int32) : fi f v 0 = f := funext fun j => if_neg (Nat.not_lt_zero j)
theorem fi_s (f : Nat → Int32) (v : Int32) (n : Nat) : upd (fi f v n) n v = fi f v (n + 1) := by
  funext j
  unfold upd fi
  by_cases h : j = n
  · subst h; simp
  · have : (j < n + 1) = (j < n) := propext (by omega)
    simp [h, this]
section C8
variable {d : Nat} {X : hX} {R : hR} {TH : hT} {N r s n sz i j : Nat} {Q : Option Value → px_H → Prop}
theorem t67 (h : isRow r) : wc d 67 [.ref r] (hp X R TH N) Q ↔ Q (some (.int (b2 (X r 2 = -1)))) (hp X R TH N) := by
  simp only [S67, GRow h, px_op_some, px_op_none, tl_some, tl_none, ap_one, ap_nil, z01, o01, true_and, and_true, true_or, or_true, i10, i01, if_true, if_false, eq_self]
  by_cases h0 : X r 2 = -1
  · rw [b2_t h0]; simp only [h0, if_true]
  · rw [b2_f h0]; simp only [h0, if_false]
theorem t68 (h : isRow r) : wc d 68 [.ref r] (hp X R TH N) Q ↔ Q none (hp (upA X r (upd (X r) 2 (-1))) R TH N) := by
  simp only [S68, GRow h, px_op_some, px_op_none, tl_some, tl_none, ap_one, ap_nil, z01, o01, true_and, and_true, true_or, or_true, i10, i01, if_true, if_false, eq_self]
theorem t70 {x m : Int32} (h : isRow r) : wc d 70 [.ref r, .int x, .int m] (hp X R TH N) Q ↔ Q (some (.int (b2 (0 ≤ x ∧ 0 ≤ m ∧ x ≤ X r 2 - m)))) (hp X R TH N) := by
  simp only [S70, GRow h, px_op_some, px_op_none, tl_some, tl_none, ap_one, ap_nil, z01, o01, true_and, and_true, true_or, or_true, i10, i01, if_true, if_false, eq_self]
  by_cases h0 : x < 0
  · rw [b2_f (fun z => absurd z.1 (by rw [Int32.not_le]; exact h0))]
    simp only [h0, if_true]
  · by_cases h1 : m < 0
    · rw [b2_f (fun z => absurd z.2.1 (by rw [Int32.not_le]; exact h1))]
      simp only [h0, h1, if_true, if_false]
    · by_cases h2 : X r 2 - m < x
      · rw [b2_f (fun z => absurd z.2.2 (by rw [Int32.not_le]; exact h2))]
        simp only [h0, h1, h2, if_true, if_false]
      · rw [b2_t ⟨Int32.not_lt.mp h0, Int32.not_lt.mp h1, Int32.not_lt.mp h2⟩]
        simp only [h0, h1, h2, if_false]
theorem l223 {v : Int32} (h : isRow r) (f : Nat → Int32) : ∀ (m k : Nat), k + m = 40 → (wp d 223 5 [some (.ref (r + 1)), some (.int v), some (.int (nI k)), some (.int (nI 40))] [] (hp (upA X (r + 1) (fi f v k)) R TH N) 0 Q ↔ Q none (hp (upA X (r + 1) (fi f v 40)) R TH N)) := by
  have hp1 : ∀ (X : hX) (j : Nat) (v : Int32), j < 40 → px_ast (hp X R TH N) (r + 1) (nI j) v .int = some (hp (upA X (r + 1) (upd (X (r + 1)) j v)) R TH N) := fun X j v hj => a_put (lay_row h).2 hj (by decide)
  intro m
  induction m with
  | zero =>
    intro k hk
    obtain rfl : k = 40 := by omega
    rw [H223_5]
    simp only [S223, px_op_some, px_op_none, tl_some, tl_none, ap_one, ap_nil, z01, o01, true_and, and_true, true_or, or_true, i10, i01, if_true, if_false, eq_self, i_nI_le]
  | succ m ih =>
    intro k hk
    have ih' := ih (k + 1) (by omega)
    have e8 : (nI 40 ≤ nI k) = False := i_nI_lt (by omega) (by decide)
    rw [H223_5]
    simp only [S223, px_op_some, px_op_none, tl_some, tl_none, ap_one, ap_nil, z01, o01, true_and, and_true, true_or, or_true, i10, i01, if_true, if_false, eq_self, upA_s, upA_n, upd_s, upd_n, ne_eq, Nat.reduceEqDiff, not_false_eq_true, e8, hp1 _ k v (by omega), nI_1, upA_upA, fi_s, ih']
theorem t223 {v : Int32} (h : isRow r) : wc d 223 [.ref (r + 1), .int v] (hp X R TH N) Q ↔ Q none (hp (upA X (r + 1) (fi (X (r + 1)) v 40)) R TH N) := by
  have hl := l223 (d := d) (X := X) (R := R) (TH := TH) (N := N) (Q := Q) (v := v) h (X (r + 1)) 40 0 rfl
  rw [fi_0, upA_id] at hl
  have hl' : wp d 223 5 [some (.ref (r + 1)), some (.int v), some (.int 0), some (.int (Int32.ofNat 40))] [] (hp X R TH N) 0 Q ↔ _ := hl
  have hlen : px_len (hp X R TH N) (r + 1) = some (Int32.ofNat 40) := l_len (lay_row h).2
  simp only [S223, px_op_some, px_op_none, tl_some, tl_none, ap_one, ap_nil, z01, o01, true_and, and_true, true_or, or_true, i10, i01, if_true, if_false, eq_self, hlen]
  exact hl'
/-- lay -/
def lyX (X : hX) (r : Nat) (ln n : Int32) : hX := upA (upA X r (upd (upd (X r) 1 ln) 2 n)) (r + 1) (fi (X (r + 1)) 0 40)
theorem t69 {ln m : Int32} (h : isRow r) : wc (d + 1) 69 [.ref r, .int ln, .int m] (hp X R TH N) Q ↔ Q none (hp (lyX X r ln m) R TH N) := by
  have n1 : (r + 1 = r) = False := eq_false (by omega)
  simp only [S69, GRow h, px_op_some, px_op_none, tl_some, tl_none, ap_one, ap_nil, z01, o01, true_and, and_true, true_or, or_true, i10, i01, if_true, if_false, eq_self, upA_s, upA_n, upd_s, upd_n, ne_eq, Nat.reduceEqDiff, not_false_eq_true, upA_upA, t223 h, n1]
  rfl
theorem t75 {v : Int32} (h : isRow r) : wc d 75 [.ref r, .int v] (hp X R TH N) Q ↔ Q (some (.int (if X r 1 = 0 then v.toInt8.toInt32 else if X r 1 = 1 then v.toInt16.toInt32 else v))) (hp X R TH N) := by
  simp only [S75, GRow h, px_op_some, px_op_none, tl_some, tl_none, ap_one, ap_nil, z01, o01, true_and, and_true, true_or, or_true, i10, i01, if_true, if_false, eq_self, sw_75_4]
  by_cases h0 : X r 1 = 0
  · simp only [h0, if_true, S75, px_op_some, px_op_none, tl_some, tl_none, ap_one, ap_nil, z01, o01, true_and, and_true, true_or, or_true, i10, i01, if_true, if_false, eq_self]
  · by_cases h1 : X r 1 = 1
    · simp only [h1, if_true, if_false, S75, px_op_some, px_op_none, tl_some, tl_none, ap_one, ap_nil, z01, o01, true_and, and_true, true_or, or_true, i10, i01, if_true, if_false, eq_self]
    · simp only [h0, h1, if_false, S75, px_op_some, px_op_none, tl_some, tl_none, ap_one, ap_nil, z01, o01, true_and, and_true, true_or, or_true, i10, i01, if_true, if_false, eq_self]
theorem sp1 (hj : j < sz) (h40 : sz ≤ 40) : (0 ≤ nI j ∧ (0 : Int32) ≤ 1 ∧ nI j ≤ nI sz - 1) = True := eq_true ⟨nI_pos' (by omega), by decide, by rw [nI_m1 (by omega)]; exact nI_le (by omega) (by omega)⟩
/-- put -/
theorem t71 {v : Int32} (h : isRow r) (hs : X r 2 = nI sz) (h40 : sz ≤ 40) (hj : j < sz) : wc (d + 1) 71 [.ref r, .int (nI j), .int v] (hp X R TH N) Q ↔ Q (some (.int (if X r 1 = 0 then v.toInt8.toInt32 else if X r 1 = 1 then v.toInt16.toInt32 else v))) (hp (upA X (r + 1) (upd (X (r + 1)) j (if X r 1 = 0 then v.toInt8.toInt32 else if X r 1 = 1 then v.toInt16.toInt32 else v))) R TH N) := by
  have hp1 : ∀ (X : hX) (v : Int32), px_ast (hp X R TH N) (r + 1) (nI j) v .int = some (hp (upA X (r + 1) (upd (X (r + 1)) j v)) R TH N) := fun X v => a_put (lay_row h).2 (by omega) (by decide)
  have hg1 : ∀ (X : hX), px_ald (hp X R TH N) (r + 1) (nI j) .int = some (X (r + 1) j) := fun X => a_get (lay_row h).2 (by omega) (by decide)
  simp only [S71, GRow h, t70 h, t75 h, hs, sp1 hj h40, px_op_some, px_op_none, tl_some, tl_none, ap_one, ap_nil, z01, o01, true_and, and_true, true_or, or_true, i10, i01, if_true, if_false, eq_self, upA_s, upA_n, upd_s, upd_n, ne_eq, Nat.reduceEqDiff, not_false_eq_true, b2_0, not_true_eq_false, hp1, hg1]
/-- takeFrom -/
theorem nI_sub {a b : Nat} (h : b ≤ a) : nI a - nI b = nI (a - b) := by
  have e : nI a = nI (a - b) + nI b := by rw [nI_add, Nat.sub_add_cancel h]
  rw [e, Int32.add_sub_cancel]
theorem spn {n : Nat} (hj : j + n ≤ sz) (h40 : sz ≤ 40) : (0 ≤ nI j ∧ 0 ≤ nI n ∧ nI j ≤ nI sz - nI n) = True := eq_true ⟨nI_pos' (by omega), nI_pos' (by omega), by rw [nI_sub (by omega)]; exact nI_le (by omega) (by omega)⟩
theorem t72 {n : Nat} {sa sb : Nat} (h : isRow r) (hs : isRow s) (ha : X s 2 = nI sa) (hb : X r 2 = nI sb) (h1 : sa ≤ 40) (h2 : sb ≤ 40) (hi : i + n ≤ sa) (hj : j + n ≤ sb) : wc (d + 1) 72 [.ref r, .ref s, .int (nI i), .int (nI j), .int (nI n)] (hp X R TH N) Q ↔ Q none (hp (upA X (r + 1) (va_cpy (X (s + 1)) (X (r + 1)) i j n)) R TH N) := by
  have ec : px_cpy (hp X R TH N) (s + 1) (nI i) (r + 1) (nI j) (nI n) = some (hp (upA X (r + 1) (va_cpy (X (s + 1)) (X (r + 1)) i j n)) R TH N) := y_cpy (lay_row hs).2 (lay_row h).2 (by omega) (by omega) (by decide) (by decide)
  simp only [S72, GRow h, GRow hs, t70 h, t70 hs, ha, hb, spn hi h1, spn hj h2, px_op_some, px_op_none, tl_some, tl_none, ap_one, ap_nil, z01, o01, true_and, and_true, true_or, or_true, i10, i01, if_true, if_false, eq_self, b2_0, not_true_eq_false, ec]
/-- tellsHit -/
theorem t74 (h : isRow r) (hs : X r 2 = nI sz) (h40 : sz ≤ 40) (hj : j < sz) : wc (d + 1) 74 [.ref r, .int (nI j)] (hp X R TH N) Q ↔ Q (some (.int (b2 (X (r + 1) j = 1)))) (hp X R TH N) := by
  have hg1 : px_ald (hp X R TH N) (r + 1) (nI j) .int = some (X (r + 1) j) := a_get (lay_row h).2 (by omega) (by decide)
  simp only [S74, GRow h, t70 h, hs, sp1 hj h40, px_op_some, px_op_none, tl_some, tl_none, ap_one, ap_nil, z01, o01, true_and, and_true, true_or, or_true, i10, i01, if_true, if_false, eq_self, b2_0, not_true_eq_false, hg1]
  by_cases h1 : X (r + 1) j = 1
  · rw [b2_t h1]; simp only [h1, if_true]
  · rw [b2_f h1]; simp only [h1, if_false]
/-- tellsYesOrNo -/
theorem l73 {n : Nat} (h : isRow r) (hi : i + n ≤ 40) : ∀ (m k : Nat), k + m = n → (wp (d + 1) 73 13 [some (.ref r), some (.int (nI i)), some (.int (nI n)), some (.int (nI k))] [] (hp X R TH N) 0 Q ↔ Q (some (.int (b2 (yn (fun k => X (r + 1) (i + k)) m k = true)))) (hp X R TH N)) := by
  intro m
  induction m with
  | zero =>
    intro k hk
    obtain rfl : k = n := by omega
    rw [H73_13]
    have e : yn (fun k => X (r + 1) (i + k)) 0 k = true := rfl
    simp only [S73, px_op_some, px_op_none, tl_some, tl_none, ap_one, ap_nil, z01, o01, true_and, and_true, true_or, or_true, i10, i01, if_true, if_false, eq_self, i_nI_le]
    rw [b2_t e]
  | succ m ih =>
    intro k hk
    have ih' := ih (k + 1) (by omega)
    have e8 : (nI n ≤ nI k) = False := i_nI_lt (by omega) (by omega)
    have hg1 : px_ald (hp X R TH N) (r + 1) (nI (i + k)) .int = some (X (r + 1) (i + k)) := a_get (lay_row h).2 (by omega) (by decide)
    rw [H73_13]
    simp only [S73, GRow h, px_op_some, px_op_none, tl_some, tl_none, ap_one, ap_nil, z01, o01, true_and, and_true, true_or, or_true, i10, i01, if_true, if_false, eq_self, e8, nI_add, hg1, nI_1, ih']
    have e : yn (fun k => X (r + 1) (i + k)) (m + 1) k = if X (r + 1) (i + k) = 0 ∨ X (r + 1) (i + k) = 1 then yn (fun k => X (r + 1) (i + k)) m (k + 1) else false := rfl
    rw [e]
    by_cases h0 : X (r + 1) (i + k) = 0
    · simp only [h0, if_true, true_or]
    · by_cases h1 : X (r + 1) (i + k) = 1
      · simp only [h1, if_true, or_true, i10, if_false]
      · have hn : ¬ (X (r + 1) (i + k) = 0 ∨ X (r + 1) (i + k) = 1) := fun z => z.elim h0 h1
        rw [if_neg hn, b2_f (show ¬ false = true by decide)]
        simp only [h0, h1, if_false]
theorem t73 {n : Nat} (h : isRow r) (hs : X r 2 = nI sz) (h40 : sz ≤ 40) (hi : i + n ≤ sz) : wc (d + 1) 73 [.ref r, .int (nI i), .int (nI n)] (hp X R TH N) Q ↔ Q (some (.int (b2 (yn (fun k => X (r + 1) (i + k)) n 0 = true)))) (hp X R TH N) := by
  simp only [S73, GRow h, t70 h, hs, spn hi h40, px_op_some, px_op_none, tl_some, tl_none, ap_one, ap_nil, z01, o01, true_and, and_true, true_or, or_true, i10, i01, if_true, if_false, eq_self, b2_0, not_true_eq_false]
  exact l73 h (by omega) n 0 (by omega)
end C8
