/-! the reference: undo, images, count, feed, rows -/
section M11
variable {d : Nat} {X : hX} {R : hR} {TH : hT} {N T Hn l p a : Nat} {w : px_H} {Q : Option Value → px_H → Prop}
/-- undo -/
def unX (X : hX) (a : Nat) : hX := upA X 51 (upd (X 51) 8 (nI a))
theorem t179_0 (ha : X 51 8 = 0) : wc d 179 [.ref 51] (hp X R TH N) Q ↔ Q (some (.int (-1000002))) (hp X R TH N) := by
  simp only [S179, G51, ha, px_op_some, px_op_none, tl_some, tl_none, ap_one, ap_nil, z01, o01, true_and, and_true, true_or, or_true, i10, i01, if_true, if_false, eq_self]
/-- the numbers of the realm behind an undone act -/
def unF (X : hX) (a : Nat) : Nat → Int32 := if X 57 (4 * a + 2) = -1000000 then upd (upd (X 55) 3 (X 57 (4 * a))) 4 (X 57 (4 * a + 1)) else upd (upd (upd (X 55) 3 (X 57 (4 * a))) 4 (X 57 (4 * a + 1))) (5 + 4 * (X 57 (4 * a + 2)).toNatClampNeg + 3) (X 57 (4 * a + 3))
theorem t179 (hb : X 51 5 = 0) (ha : X 51 8 = nI (a + 1)) (h24 : a < 24) (ht : X 57 (4 * a + 2) = -1000000 ∨ ∃ p, p < 8 ∧ X 57 (4 * a + 2) = nI p) : wc (d + 2) 179 [.ref 51] (hp X R TH N) Q ↔ Q (some (.int (nI a))) (hp (upA (unX X a) 55 (unF X a)) R TH N) := by
  have e1 : nI (a + 1) - 1 = nI a := nI_pred a
  have e0 : (4 : Int32) * nI a = nI (4 * a) := by rw [show (4 : Int32) = nI 4 from rfl, pk_mul]
  have e11 : nI (4 * a) + 1 = nI (4 * a + 1) := nI_1 _
  have e2 : nI (4 * a) + 2 = nI (4 * a + 2) := by rw [show (2 : Int32) = nI 2 from rfl, nI_add]
  have e3 : nI (4 * a) + 3 = nI (4 * a + 3) := by rw [show (3 : Int32) = nI 3 from rfl, nI_add]
  have hz : (nI (a + 1) = 0) = False := by rw [nI_0i (by omega)]; exact eq_false (by omega)
  have b0 : (unX X a) 51 5 = 0 := by unfold unX; rw [upA_s, upd_n (by decide)]; exact hb
  have b1 : ∀ f, (upA (unX X a) 55 f) 51 5 = 0 := fun f => by rw [upA_n (by decide)]; exact b0
  have u57 : (unX X a) 57 = X 57 := by unfold unX; rw [upA_n (by decide)]
  have u55 : (unX X a) 55 = X 55 := by unfold unX; rw [upA_n (by decide)]
  have u8 : (unX X a) 51 8 = nI a := by unfold unX; rw [upA_s, upd_s]
  have eu : upA X 51 (upd (X 51) 8 (nI a)) = unX X a := rfl
  simp only [S179, G51, ha, hz, e1, eu, px_op_some, px_op_none, tl_some, tl_none, ap_one, ap_nil, z01, o01, true_and, and_true, true_or, or_true, i10, i01, if_true, if_false, eq_self]
  simp only [S179, G51, u8, e0, e11, e2, e3, A57_g (show 4 * a < 96 by omega), A57_g (show 4 * a + 1 < 96 by omega), A57_g (show 4 * a + 2 < 96 by omega), A57_g (show 4 * a + 3 < 96 by omega), pu3 b0, pu4 (b1 _), u57, u55, px_op_some, px_op_none, tl_some, tl_none, ap_one, ap_nil, z01, o01, true_and, and_true, true_or, or_true, i10, i01, if_true, if_false, eq_self, upA_s, upA_n, upd_s, upd_n, ne_eq, Nat.reduceEqDiff, not_false_eq_true, upA_upA]
  unfold unF
  rcases ht with ht | ⟨p, hp1, ht⟩
  · simp only [ht, if_true]
  · have e5 : (5 : Int32) + 4 * nI p + 3 = nI (5 + 4 * p + 3) := by
      rw [show (5 : Int32) = nI 5 from rfl, show (4 : Int32) = nI 4 from rfl, show (3 : Int32) = nI 3 from rfl, pk_mul, nI_add, nI_add]
    have pq := fun f v Q => t150 (d := d + 1) (X := upA (unX X a) 55 f) (R := R) (TH := TH) (N := N) (Q := Q) (v := v) (k := 5 + 4 * p + 3) (x := 5 + 4 * nI p + 3) (b1 _) e5 (by omega)
    simp only [ht, i_nn (show p < 2 ^ 31 by omega), if_false, S179, G51, pq, u8, u57, px_op_some, px_op_none, tl_some, tl_none, ap_one, ap_nil, z01, o01, true_and, and_true, true_or, or_true, i10, i01, if_true, if_false, eq_self, upA_s, upA_n, upd_s, upd_n, ne_eq, Nat.reduceEqDiff, not_false_eq_true, upA_upA, nI_clamp (show p < 2 ^ 31 by omega)]
/-- a segment of the numbers becomes another -/
def cpR (f : Nat → Int32) (s t k : Nat) : Nat → Int32 := fun j => if 45 * t ≤ j ∧ j < 45 * t + k then f (45 * s + (j - 45 * t)) else f j
theorem cpR_0 (f : Nat → Int32) (s t : Nat) : cpR f s t 0 = f := funext fun j => if_neg (by omega)
theorem cpR_s (f : Nat → Int32) {s t k : Nat} (h : s ≠ t) (hk : k < 45) : upd (cpR f s t k) (45 * t + k) (cpR f s t k (45 * s + k)) = cpR f s t (k + 1) := by
  have e : cpR f s t k (45 * s + k) = f (45 * s + k) := if_neg (by omega)
  rw [e]
  funext j
  unfold upd cpR
  by_cases hj : j = 45 * t + k
  · subst hj
    rw [if_pos rfl, if_pos (by omega)]
    congr 1
    omega
  · rw [if_neg hj]
    by_cases h1 : 45 * t ≤ j ∧ j < 45 * t + k
    · rw [if_pos h1, if_pos (by omega)]
    · rw [if_neg h1, if_neg (by omega)]
theorem l151 {s t : Nat} (hs : s < 4) (ht : t < 4) (hst : s ≠ t) (f : Nat → Int32) : ∀ (n k : Nat), k + n = 45 → (wp d 151 2 [some (.ref 51), some (.int (nI s)), some (.int (nI t)), some (.int (nI k))] [] (hp (upA X 55 (cpR f s t k)) R TH N) 0 Q ↔ Q none (hp (upA X 55 (cpR f s t 45)) R TH N)) := by
  intro n
  induction n with
  | zero =>
    intro k hk
    obtain rfl : k = 45 := by omega
    rw [H151_2]
    simp only [S151, px_op_some, px_op_none, tl_some, tl_none, ap_one, ap_nil, z01, o01, true_and, and_true, true_or, or_true, i10, i01, if_true, if_false, eq_self]
    rw [if_pos (by decide)]
  | succ n ih =>
    intro k hk
    have ih' := ih (k + 1) (by omega)
    have hlt : ((45 : Int32) ≤ nI k) = False := i_nI_lt (T := 45) (by omega) (by omega)
    have e1 : (45 : Int32) * nI t + nI k = nI (45 * t + k) := by rw [show (45 : Int32) = nI 45 from rfl, pk_mul, nI_add]
    have e2 : (45 : Int32) * nI s + nI k = nI (45 * s + k) := by rw [show (45 : Int32) = nI 45 from rfl, pk_mul, nI_add]
    rw [H151_2]
    simp only [S151, G51, px_op_some, px_op_none, tl_some, tl_none, ap_one, ap_nil, z01, o01, true_and, and_true, true_or, or_true, i10, i01, if_true, if_false, eq_self, hlt, e1, e2, A55_g (show 45 * s + k < 180 by omega), A55_p (show 45 * t + k < 180 by omega), upA_s, upA_upA, nI_1, cpR_s f hst (show k < 45 by omega), ih']
theorem t151 {s t : Nat} {x y : Int32} (hx : x = nI s) (hy : y = nI t) (hs : s < 4) (ht : t < 4) (hst : s ≠ t) : wc d 151 [.ref 51, .int x, .int y] (hp X R TH N) Q ↔ Q none (hp (upA X 55 (cpR (X 55) s t 45)) R TH N) := by
  subst hx
  subst hy
  have := l151 (d := d) (X := X) (R := R) (TH := TH) (N := N) (Q := Q) hs ht hst (X 55) 45 0 rfl
  rw [cpR_0, upA_id] at this
  rw [← this]
  simp only [S151, px_op_some, px_op_none, tl_some, tl_none, ap_one, ap_nil, z01, o01, true_and, and_true, true_or, or_true, i10, i01, if_true, if_false, eq_self]
  rfl
/-- image, restore -/
theorem t200 {k : Nat} (hb : X 51 5 = 0) (hk : k < 2) : wc (d + 2) 200 [.ref 51, .int (nI k)] (hp X R TH N) Q ↔ (if 0 < X 55 0 then Q (some (.int 1)) (hp (upA (upA X 55 (cpR (X 55) 0 (1 + k) 45)) 56 (upd (X 56) k 1)) R TH N) else Q (some (.int (-1000002))) (hp X R TH N)) := by
  have e : (1 : Int32) + nI k = nI (1 + k) := by rw [show (1 : Int32) = nI 1 from rfl, nI_add]
  have c1 := fun Q => t151 (d := d + 1) (X := X) (R := R) (TH := TH) (N := N) (Q := Q) (s := 0) (t := 1 + k) (x := 0) (y := 1 + nI k) rfl e (by decide) (by omega) (by omega)
  have h01 : (0 : Int32) ≤ nI k ∧ nI k ≤ 1 := ⟨nI_pos' (by omega), nI_le (b := 1) (by omega) (by decide)⟩
  have en : vp_nar .boolean 1 = 1 := by decide
  simp only [S200, G51, t140, t175 hb, c1, px_op_some, px_op_none, tl_some, tl_none, ap_one, ap_nil, z01, o01, true_and, and_true, true_or, or_true, i10, i01, if_true, if_false, eq_self, b2_0, h01, and_self, not_true_eq_false, A56_p hk, upA_s, upA_n, upd_s, upd_n, ne_eq, Nat.reduceEqDiff, not_false_eq_true, en]
  by_cases h0 : 0 < X 55 0
  · simp only [h0, not_true_eq_false, if_true, if_false]
  · simp only [h0, not_false_eq_true, if_true, if_false]
theorem t200b {k : Int32} (hk : ¬ (0 ≤ k ∧ k ≤ 1)) : wc (d + 2) 200 [.ref 51, .int k] (hp X R TH N) Q ↔ Q (some (.int (-1000001))) (hp X R TH N) := by
  simp only [S200, t140, px_op_some, px_op_none, tl_some, tl_none, ap_one, ap_nil, z01, o01, true_and, and_true, true_or, or_true, i10, i01, if_true, if_false, eq_self, b2_0, hk, not_false_eq_true]
theorem t201 {k : Nat} (hk : k < 2) : wc (d + 2) 201 [.ref 51, .int (nI k)] (hp X R TH N) Q ↔ (if X 56 k = 0 then Q (some (.int (-1000002))) (hp X R TH N) else Q (some (.int 1)) (hp (upA (upA X 55 (cpR (X 55) (1 + k) 0 45)) 51 (upd (X 51) 8 0)) R TH N)) := by
  have e : (1 : Int32) + nI k = nI (1 + k) := by rw [show (1 : Int32) = nI 1 from rfl, nI_add]
  have c1 := fun Q => t151 (d := d + 1) (X := X) (R := R) (TH := TH) (N := N) (Q := Q) (s := 1 + k) (t := 0) (x := 1 + nI k) (y := 0) e rfl (by omega) (by decide) (by omega)
  have h01 : (0 : Int32) ≤ nI k ∧ nI k ≤ 1 := ⟨nI_pos' (by omega), nI_le (b := 1) (by omega) (by decide)⟩
  simp only [S201, G51, t140, c1, px_op_some, px_op_none, tl_some, tl_none, ap_one, ap_nil, z01, o01, true_and, and_true, true_or, or_true, i10, i01, if_true, if_false, eq_self, b2_0, h01, and_self, not_true_eq_false, A56_g hk, upA_s, upA_n, upd_s, upd_n, ne_eq, Nat.reduceEqDiff, not_false_eq_true]
theorem t201b {k : Int32} (hk : ¬ (0 ≤ k ∧ k ≤ 1)) : wc (d + 2) 201 [.ref 51, .int k] (hp X R TH N) Q ↔ Q (some (.int (-1000001))) (hp X R TH N) := by
  simp only [S201, t140, px_op_some, px_op_none, tl_some, tl_none, ap_one, ap_nil, z01, o01, true_and, and_true, true_or, or_true, i10, i01, if_true, if_false, eq_self, b2_0, hk, not_false_eq_true]
/-- feed -/
theorem t155 {c : Int32} {t : Nat} (ht : X 51 10 = nI t) (h120 : t ≤ 120) : wc (d + 1) 155 [.ref 51, .int c] (hp X R TH N) Q ↔ (if 0 ≤ c ∧ c ≤ 255 then (if t = 120 then Q (some (.int (-1000003))) (hp X R TH N) else Q (some (.int (nI (t + 1)))) (hp (upA (upA X 58 (upd (X 58) t c.toInt8.toInt32)) 51 (upd (X 51) 10 (nI (t + 1)))) R TH N)) else Q (some (.int (-1000001))) (hp X R TH N)) := by
  have e : (nI t = 120) = (t = 120) := propext (nI_eq (b := 120) (by omega) (by decide))
  have en : vp_nar .byte c.toInt8.toInt32 = c.toInt8.toInt32 := pk_vb c
  by_cases h : t = 120
  · subst h
    have e' : (nI 120 = 120) = True := eq_true rfl
    simp only [S155, G51, t140, px_op_some, px_op_none, tl_some, tl_none, ap_one, ap_nil, z01, o01, true_and, and_true, true_or, or_true, i10, i01, if_true, if_false, eq_self, b2_0, ht, e']
    by_cases hc : 0 ≤ c ∧ c ≤ 255
    · simp only [hc, and_self, not_true_eq_false, if_true, if_false]
    · simp only [hc, not_false_eq_true, if_true, if_false]
  · simp only [S155, G51, t140, px_op_some, px_op_none, tl_some, tl_none, ap_one, ap_nil, z01, o01, true_and, and_true, true_or, or_true, i10, i01, if_true, if_false, eq_self, b2_0, ht, e, h, A58_p (show t < 120 by omega), upA_s, upA_n, upd_s, upd_n, ne_eq, Nat.reduceEqDiff, not_false_eq_true, nI_1, en]
    by_cases hc : 0 ≤ c ∧ c ≤ 255
    · simp only [hc, and_self, not_true_eq_false, if_true, if_false]
    · simp only [hc, not_false_eq_true, if_true, if_false]
/-- count -/
def rowS (f : Nat → Int32) (k : Nat) (a : Int32) : Int32 := a + (if f k = 0 then 0 else 1)
theorem l221 {what : Int32} {K : Int32 → Prop} (hK : ∀ a, wp (d + 1) 221 33 [some (.ref 51), some (.int what), some (.int a), some (.int 8)] [] (hp X R TH N) 0 Q ↔ K a) : ∀ (n k : Nat) (a : Int32), k + n = 8 → (wp (d + 1) 221 4 [some (.ref 51), some (.int what), some (.int a), some (.int (nI k))] [] (hp X R TH N) 0 Q ↔ K (fld (rowS (X 52)) n k a)) := by
  intro n
  induction n with
  | zero =>
    intro k a hk
    obtain rfl : k = 8 := by omega
    rw [fld_0, ← hK, H221_4]
    have e : ((8 : Int32) ≤ nI 8) = True := eq_true (by decide)
    have e2 : nI 8 = 8 := rfl
    simp only [S221, px_op_some, px_op_none, tl_some, tl_none, ap_one, ap_nil, z01, o01, true_and, and_true, true_or, or_true, i10, i01, if_true, if_false, eq_self, e, e2]
    simp only [Int32.le_refl, if_true]
  | succ n ih =>
    intro k a hk
    have ih' := fun a => ih (k + 1) a (by omega)
    have hlt : ((8 : Int32) ≤ nI k) = False := i_nI_lt (T := 8) (by omega) (by omega)
    rw [H221_4, fld_s]
    simp only [S221, G51, px_op_some, px_op_none, tl_some, tl_none, ap_one, ap_nil, z01, o01, true_and, and_true, true_or, or_true, i10, i01, if_true, if_false, eq_self, hlt, A52_g (show k < 8 by omega), nI_1, ih', rowS]
    by_cases h : X 52 k = 0
    · simp only [h, if_true]
    · simp only [h, if_false]
def cntI (X : hX) (what : Int32) : Int32 := if what = 0 then fld (rowS (X 52)) 8 0 0 else if what = 1 then X 55 1 else if what = 2 then X 55 2 else if what = 3 then X 55 3 else if what = 4 then X 55 4 else if what = 5 then X 55 0 else if what = 6 then X 51 8 else if what = 7 then X 51 10 else -1000001
theorem t221 {what : Int32} (hb : X 51 5 = 0) : wc (d + 1) 221 [.ref 51, .int what] (hp X R TH N) Q ↔ Q (some (.int (cntI X what))) (hp X R TH N) := by
  have hl := l221 (d := d) (X := X) (R := R) (TH := TH) (N := N) (Q := Q) (what := what) (K := fun a => Q (some (.int (if what = 0 then a else if what = 1 then X 55 1 else if what = 2 then X 55 2 else if what = 3 then X 55 3 else if what = 4 then X 55 4 else if what = 5 then X 55 0 else if what = 6 then X 51 8 else if what = 7 then X 51 10 else -1000001))) (hp X R TH N)) (fun a => by
    simp only [S221, sw_221_34, px_op_some, px_op_none, tl_some, tl_none, ap_one, ap_nil, z01, o01, true_and, and_true, true_or, or_true, i10, i01, if_true, if_false, eq_self]
    by_cases h0 : what = 0
    · subst h0; simp only [if_true, S221, px_op_some, px_op_none, tl_some, tl_none, ap_one, ap_nil, z01, o01, true_and, and_true, true_or, or_true, i10, i01, if_true, if_false, eq_self]
    by_cases h1 : what = 1
    · subst h1; simp only [if_true, if_neg (show ¬ (1 : Int32) = 0 by decide), S221, G51, gt1 hb, px_op_some, px_op_none, tl_some, tl_none, ap_one, ap_nil, z01, o01, true_and, and_true, true_or, or_true, i10, i01, if_true, if_false, eq_self]
    by_cases h2 : what = 2
    · subst h2; simp only [if_true, if_neg (show ¬ (2 : Int32) = 0 by decide), if_neg (show ¬ (2 : Int32) = 1 by decide), S221, G51, gt2 hb, px_op_some, px_op_none, tl_some, tl_none, ap_one, ap_nil, z01, o01, true_and, and_true, true_or, or_true, i10, i01, if_true, if_false, eq_self]
    by_cases h3 : what = 3
    · simp only [h0, h1, h2, h3, if_true, if_false, S221, G51, gt3 hb, px_op_some, px_op_none, tl_some, tl_none, ap_one, ap_nil, z01, o01, true_and, and_true, true_or, or_true, i10, i01, if_true, if_false, eq_self]; simp; simp only [S221, G51, gt3 hb, px_op_some, px_op_none, tl_some, tl_none, ap_one, ap_nil, z01, o01, true_and, and_true, true_or, or_true, i10, i01, if_true, if_false, eq_self]
    by_cases h4 : what = 4
    · simp only [h0, h1, h2, h3, h4, if_true, if_false, S221, G51, gt4 hb, px_op_some, px_op_none, tl_some, tl_none, ap_one, ap_nil, z01, o01, true_and, and_true, true_or, or_true, i10, i01, if_true, if_false, eq_self]; simp; simp only [S221, G51, gt4 hb, px_op_some, px_op_none, tl_some, tl_none, ap_one, ap_nil, z01, o01, true_and, and_true, true_or, or_true, i10, i01, if_true, if_false, eq_self]
    by_cases h5 : what = 5
    · simp only [h0, h1, h2, h3, h4, h5, if_true, if_false, S221, G51, gt0 hb, px_op_some, px_op_none, tl_some, tl_none, ap_one, ap_nil, z01, o01, true_and, and_true, true_or, or_true, i10, i01, if_true, if_false, eq_self]; simp; simp only [S221, G51, gt0 hb, px_op_some, px_op_none, tl_some, tl_none, ap_one, ap_nil, z01, o01, true_and, and_true, true_or, or_true, i10, i01, if_true, if_false, eq_self]
    by_cases h6 : what = 6
    · simp only [h0, h1, h2, h3, h4, h5, h6, if_true, if_false, S221, G51, px_op_some, px_op_none, tl_some, tl_none, ap_one, ap_nil, z01, o01, true_and, and_true, true_or, or_true, i10, i01, if_true, if_false, eq_self]; simp; simp only [S221, G51, px_op_some, px_op_none, tl_some, tl_none, ap_one, ap_nil, z01, o01, true_and, and_true, true_or, or_true, i10, i01, if_true, if_false, eq_self]
    by_cases h7 : what = 7
    · simp only [h0, h1, h2, h3, h4, h5, h6, h7, if_true, if_false, S221, G51, px_op_some, px_op_none, tl_some, tl_none, ap_one, ap_nil, z01, o01, true_and, and_true, true_or, or_true, i10, i01, if_true, if_false, eq_self]; simp; simp only [S221, G51, px_op_some, px_op_none, tl_some, tl_none, ap_one, ap_nil, z01, o01, true_and, and_true, true_or, or_true, i10, i01, if_true, if_false, eq_self]
    · simp only [h0, h1, h2, h3, h4, h5, h6, h7, if_false, S221, px_op_some, px_op_none, tl_some, tl_none, ap_one, ap_nil, z01, o01, true_and, and_true, true_or, or_true, i10, i01, if_true, if_false, eq_self]) 8 0 0 rfl
  have hl' : wp (d + 1) 221 4 [some (.ref 51), some (.int what), some (.int 0), some (.int 0)] [] (hp X R TH N) 0 Q ↔ _ := hl
  simp only [S221, px_op_some, px_op_none, tl_some, tl_none, ap_one, ap_nil, z01, o01, true_and, and_true, true_or, or_true, i10, i01, if_true, if_false, eq_self, hl']
  rfl
/-- row: its loop -/
def zr (f : Nat → Int32) (b k : Nat) : Nat → Int32 := fun j => if b ≤ j ∧ j < b + k then 0 else f j
theorem zr_0 (f : Nat → Int32) (b : Nat) : zr f b 0 = f := funext fun j => if_neg (by omega)
theorem zr_s (f : Nat → Int32) (b k : Nat) : upd (zr f b k) (b + k) 0 = zr f b (k + 1) := by
  funext j
  unfold upd zr
  by_cases hj : j = b + k
  · rw [if_pos hj, if_pos (by omega)]
  · rw [if_neg hj]
    by_cases h : b ≤ j ∧ j < b + k
    · rw [if_pos h, if_pos (by omega)]
    · rw [if_neg h, if_neg (by omega)]
theorem l144 {r : Nat} {ln n : Int32} (hr : r < 8) (f : Nat → Int32) : ∀ (m k : Nat), k + m = 40 → (wp (d + 1) 144 54 [some (.ref 51), some (.int (nI r)), some (.int ln), some (.int n), some (.int (nI k))] [] (hp (upA X 54 (zr f (40 * r) k)) R TH N) 0 Q ↔ Q (some (.int n)) (hp (upA (upA X 54 (zr f (40 * r) 40)) 51 (upd (X 51) 3 0)) R TH N)) := by
  intro m
  induction m with
  | zero =>
    intro k hk
    obtain rfl : k = 40 := by omega
    have e : ((40 : Int32) ≤ nI 40) = True := eq_true (by decide)
    rw [H144_54]
    simp only [S144, G51, px_op_some, px_op_none, tl_some, tl_none, ap_one, ap_nil, z01, o01, true_and, and_true, true_or, or_true, i10, i01, if_true, if_false, eq_self, e, t142, upA_s, upA_n, upd_s, upd_n, ne_eq, Nat.reduceEqDiff, not_false_eq_true]
  | succ m ih =>
    intro k hk
    have ih' := ih (k + 1) (by omega)
    have hlt : ((40 : Int32) ≤ nI k) = False := i_nI_lt (T := 40) (by omega) (by omega)
    have e1 : (40 : Int32) * nI r + nI k = nI (40 * r + k) := by rw [show (40 : Int32) = nI 40 from rfl, pk_mul, nI_add]
    rw [H144_54]
    simp only [S144, G51, px_op_some, px_op_none, tl_some, tl_none, ap_one, ap_nil, z01, o01, true_and, and_true, true_or, or_true, i10, i01, if_true, if_false, eq_self, hlt, e1, A54_p (show 40 * r + k < 320 by omega), upA_s, upA_n, upd_s, upd_n, ne_eq, Nat.reduceEqDiff, not_false_eq_true, upA_upA, nI_1, zr_s, ih']
end M11
