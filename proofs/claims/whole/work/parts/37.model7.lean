/-! the reference: bodies left behind; harm, trace -/
def LV (X : hX) (l : Nat) (b : Int32) : hX := upA (upA X 61 (upd (X 61) l b)) 51 (upd (X 51) 22 (nI (l + 1)))
def LVs (X : hX) (l : Nat) : List Int32 → hX
  | [] => X
  | b :: bs => LVs (LV X l b) (l + 1) bs
theorem LV_55 {X : hX} {l : Nat} {b : Int32} : LV X l b 55 = X 55 := by unfold LV; rw [upA_n (by decide), upA_n (by decide)]
theorem LV_22 {X : hX} {l : Nat} {b : Int32} : LV X l b 51 22 = nI (l + 1) := by unfold LV; rw [upA_s, upd_s]
theorem LV_MB {X : hX} {l T Hn : Nat} {b : Int32} (h : MB X T Hn) : MB (LV X l b) T Hn := by
  unfold MB
  rw [LV_55]
  refine ⟨?_, h.2⟩
  unfold LV
  rw [upA_s, upd_n (by decide)]
  exact h.1
theorem LVs_app (X : hX) : ∀ (a : List Int32) (l : Nat) (b : List Int32) (X : hX), LVs X l (a ++ b) = LVs (LVs X l a) (l + a.length) b := by
  intro a
  induction a with
  | nil => intro l b X; rfl
  | cons x a ih =>
    intro l b X
    show LVs (LV X l x) (l + 1) (a ++ b) = LVs (LVs (LV X l x) (l + 1) a) (l + (a.length + 1)) b
    rw [ih, show l + 1 + a.length = l + (a.length + 1) by omega]
section M9
variable {d : Nat} {X : hX} {R : hR} {TH : hT} {N T Hn l p : Nat} {w : px_H} {Q : Option Value → px_H → Prop}
theorem t206 {b : Int32} (hl : X 51 22 = nI l) (h16 : l < 16) : wc d 206 [.ref 51, .int b] (hp X R TH N) Q ↔ Q none (hp (LV X l b) R TH N) := by
  simp only [S206, G51, px_op_some, px_op_none, tl_some, tl_none, ap_one, ap_nil, z01, o01, true_and, and_true, true_or, or_true, i10, i01, if_true, if_false, eq_self, upA_s, upA_n, upd_s, upd_n, ne_eq, Nat.reduceEqDiff, not_false_eq_true, hl, A61_p h16]
  rw [if_neg (by rw [Int32.not_le]; exact nI_lt (b := 16) h16 (by decide)), nI_1]
  rfl
theorem t207 (h : MB X T Hn) (hl : X 51 22 = nI l) (h16 : l < 16) (h8 : p < 8) : wc (d + 2) 207 [.ref 51, .int (nI p)] (hp X R TH N) Q ↔ Q (some (.int (rP (X 55) p))) (hp (LVs X l [10]) R TH N) := by
  simp only [S207, G51, t206 hl h16, of2 (LV_MB h).1 h8, px_op_some, px_op_none, tl_some, tl_none, ap_one, ap_nil, z01, o01, true_and, and_true, true_or, or_true, i10, i01, if_true, if_false, eq_self, LV_55]
  rfl
theorem t208 (h : MB X T Hn) (hl : X 51 22 = nI l) (h16 : l < 16) : wc (d + 1) 208 [.ref 51, .int (nI p)] (hp X R TH N) Q ↔ Q (some (.int (nI p))) (hp (LVs X l [20]) R TH N) := by
  simp only [S208, G51, t206 hl h16, px_op_some, px_op_none, tl_some, tl_none, ap_one, ap_nil, z01, o01, true_and, and_true, true_or, or_true, i10, i01, if_true, if_false, eq_self]
  rfl
def m21I (ρ : Nat → Int32) (p Hn : Nat) : Int32 := nI p + inhI ρ (nI p) Hn
theorem t209 (h : MB X T Hn) (hl : X 51 22 = nI l) (h16 : l + 1 < 16) : wc (d + 2) 209 [.ref 51, .int (nI p)] (hp X R TH N) Q ↔ Q (some (.int (m21I (X 55) p Hn))) (hp (LVs X l [21, 20]) R TH N) := by
  simp only [S209, G51, t206 hl (show l < 16 by omega), t208 (LV_MB (l := l) (b := 21) h) LV_22 h16, t203 (LV_MB (l := l + 1) (b := 20) (LV_MB (l := l) (b := 21) h)), LVs, px_op_some, px_op_none, tl_some, tl_none, ap_one, ap_nil, z01, o01, true_and, and_true, true_or, or_true, i10, i01, if_true, if_false, eq_self, LV_55]
  rfl
theorem t210 (h : MB X T Hn) (hl : X 51 22 = nI l) (h16 : l + 1 < 16) (h8 : p < 8) : wc (d + 3) 210 [.ref 51, .int (nI p)] (hp X R TH N) Q ↔ Q (some (.int (rP (X 55) p - 100))) (hp (LVs X l [13, 10]) R TH N) := by
  simp only [S210, G51, t206 hl (show l < 16 by omega), t207 (LV_MB (l := l) (b := 13) h) LV_22 h16 h8, LVs, px_op_some, px_op_none, tl_some, tl_none, ap_one, ap_nil, z01, o01, true_and, and_true, true_or, or_true, i10, i01, if_true, if_false, eq_self, LV_55]
theorem t211 (h : MB X T Hn) (hl : X 51 22 = nI l) (h16 : l + 2 < 16) (h8 : p < 8) : wc (d + 4) 211 [.ref 51, .int (nI p)] (hp X R TH N) Q ↔ Q (some (.int (2 * (rP (X 55) p - 100)))) (hp (LVs X l [14, 13, 10]) R TH N) := by
  simp only [S211, G51, t206 hl (show l < 16 by omega), t210 (LV_MB (l := l) (b := 14) h) LV_22 (show l + 1 + 1 < 16 by omega) h8, LVs, px_op_some, px_op_none, tl_some, tl_none, ap_one, ap_nil, z01, o01, true_and, and_true, true_or, or_true, i10, i01, if_true, if_false, eq_self, LV_55]
theorem t212 (h : MB X T Hn) (hl : X 51 22 = nI l) (h16 : l + 2 < 16) : wc (d + 3) 212 [.ref 51, .int (nI p)] (hp X R TH N) Q ↔ Q (some (.int (m21I (X 55) p Hn - 1000))) (hp (LVs X l [22, 21, 20]) R TH N) := by
  simp only [S212, G51, t206 hl (show l < 16 by omega), t209 (LV_MB (l := l) (b := 22) h) LV_22 (show l + 1 + 1 < 16 by omega), LVs, px_op_some, px_op_none, tl_some, tl_none, ap_one, ap_nil, z01, o01, true_and, and_true, true_or, or_true, i10, i01, if_true, if_false, eq_self, LV_55]
theorem t213 (h : MB X T Hn) (hl : X 51 22 = nI l) (h16 : l + 2 < 16) : wc (d + 3) 213 [.ref 51, .int (nI p)] (hp X R TH N) Q ↔ Q (some (.int (2 * m21I (X 55) p Hn))) (hp (LVs X l [24, 21, 20]) R TH N) := by
  simp only [S213, G51, t206 hl (show l < 16 by omega), t209 (LV_MB (l := l) (b := 24) h) LV_22 (show l + 1 + 1 < 16 by omega), LVs, px_op_some, px_op_none, tl_some, tl_none, ap_one, ap_nil, z01, o01, true_and, and_true, true_or, or_true, i10, i01, if_true, if_false, eq_self, LV_55]
theorem t214 (h : MB X T Hn) (hl : X 51 22 = nI l) (h16 : l + 4 < 16) (h8 : p < 8) : wc (d + 5) 214 [.ref 51, .int (nI p)] (hp X R TH N) Q ↔ Q (some (.int (nI p - (if rK (X 55) p = 5 then 2 * (rP (X 55) p - 100) else rP (X 55) p - 100)))) (hp (LVs X l (if rK (X 55) p = 5 then [23, 20, 14, 13, 10] else [23, 20, 13, 10])) R TH N) := by
  have h2 := LV_MB (l := l + 1) (b := 20) (LV_MB (l := l) (b := 23) h)
  simp only [S214, G51, t206 hl (show l < 16 by omega), t208 (LV_MB (l := l) (b := 23) h) LV_22 (show l + 1 < 16 by omega), LVs, of0 h2.1 h8, t211 h2 LV_22 (show l + 1 + 1 + 2 < 16 by omega) h8, t210 h2 LV_22 (show l + 1 + 1 + 1 < 16 by omega) h8, px_op_some, px_op_none, tl_some, tl_none, ap_one, ap_nil, z01, o01, true_and, and_true, true_or, or_true, i10, i01, if_true, if_false, eq_self, LV_55]
  by_cases hk : rK (X 55) p = 5
  · have hk' : X 55 (5 + 4 * p) = 5 := hk
    simp only [hk, hk', if_true, LVs]
  · have hk' : ¬ X 55 (5 + 4 * p) = 5 := hk
    simp only [hk, hk', if_false, LVs]
/-- markOf -/
def mkV (ρ : Nat → Int32) (p Hn : Nat) : Int32 := if rK ρ p = 1 then m21I ρ p Hn else if rK ρ p = 2 then 2 * m21I ρ p Hn else if rK ρ p = 3 then m21I ρ p Hn - 1000 else nI p - (if rK ρ p = 5 then 2 * (rP ρ p - 100) else rP ρ p - 100)
def mkB (k : Int32) : List Int32 := if k = 1 then [21, 20] else if k = 2 then [24, 21, 20] else if k = 3 then [22, 21, 20] else if k = 5 then [23, 20, 14, 13, 10] else [23, 20, 13, 10]
theorem t215 (h : MB X T Hn) (hl : X 51 22 = nI l) (h16 : l + 4 < 16) (h8 : p < 8) : wc (d + 6) 215 [.ref 51, .int (nI p)] (hp X R TH N) Q ↔ Q (some (.int (mkV (X 55) p Hn))) (hp (LVs X l (mkB (rK (X 55) p))) R TH N) := by
  simp only [S215, G51, of0 h.1 h8, t209 h hl (show l + 1 < 16 by omega), t213 h hl (show l + 2 < 16 by omega), t212 h hl (show l + 2 < 16 by omega), t214 h hl h16 h8, px_op_some, px_op_none, tl_some, tl_none, ap_one, ap_nil, z01, o01, true_and, and_true, true_or, or_true, i10, i01, if_true, if_false, eq_self]
  have e1 : X 55 (5 + 4 * p) = rK (X 55) p := rfl
  rw [e1]
  unfold mkV mkB
  by_cases h1 : rK (X 55) p = 1
  · simp only [h1, if_true]
  by_cases h2 : rK (X 55) p = 2
  · simp only [h1, h2, if_true, if_false]
    simp
  by_cases h3 : rK (X 55) p = 3
  · simp only [h1, h2, h3, if_true, if_false]
    simp
  · simp only [h1, h2, h3, if_false]
theorem t216 (h : MB X T Hn) (hl : X 51 22 = nI l) (h16 : l + 6 < 16) (h8 : p < 8) : wc (d + 7) 216 [.ref 51, .int (nI p)] (hp X R TH N) Q ↔ Q (some (.int (rP (X 55) p + mkV (X 55) p Hn))) (hp (LVs X l (11 :: 10 :: mkB (rK (X 55) p))) R TH N) := by
  have h2 := LV_MB (l := l + 1) (b := 10) (LV_MB (l := l) (b := 11) h)
  simp only [S216, G51, t206 hl (show l < 16 by omega), t207 (LV_MB (l := l) (b := 11) h) LV_22 (show l + 1 < 16 by omega) h8, LVs, t215 h2 LV_22 (show l + 1 + 1 + 4 < 16 by omega) h8, px_op_some, px_op_none, tl_some, tl_none, ap_one, ap_nil, z01, o01, true_and, and_true, true_or, or_true, i10, i01, if_true, if_false, eq_self, LV_55]
theorem t217 (h : MB X T Hn) (hl : X 51 22 = nI l) (h16 : l + 7 < 16) (h8 : p < 8) : wc (d + 8) 217 [.ref 51, .int (nI p)] (hp X R TH N) Q ↔ Q (some (.int (-(rP (X 55) p + mkV (X 55) p Hn)))) (hp (LVs X l (12 :: 11 :: 10 :: mkB (rK (X 55) p))) R TH N) := by
  simp only [S217, G51, t206 hl (show l < 16 by omega), t216 (LV_MB (l := l) (b := 12) h) LV_22 (show l + 1 + 6 < 16 by omega) h8, LVs, px_op_some, px_op_none, tl_some, tl_none, ap_one, ap_nil, z01, o01, true_and, and_true, true_or, or_true, i10, i01, if_true, if_false, eq_self, LV_55]
/-- sizeOf -/
def szV (ρ : Nat → Int32) (p Hn : Nat) : Int32 := if rK ρ p = 2 then -(rP ρ p + mkV ρ p Hn) else if rK ρ p < 4 then rP ρ p + mkV ρ p Hn else if rK ρ p = 4 then rP ρ p - 100 else 2 * (rP ρ p - 100)
def szB (k : Int32) : List Int32 := if k = 2 then 12 :: 11 :: 10 :: mkB k else if k < 4 then 11 :: 10 :: mkB k else if k = 4 then [13, 10] else [14, 13, 10]
theorem t218 (h : MB X T Hn) (hl : X 51 22 = nI l) (h16 : l + 7 < 16) (h8 : p < 8) : wc (d + 9) 218 [.ref 51, .int (nI p)] (hp X R TH N) Q ↔ Q (some (.int (szV (X 55) p Hn))) (hp (LVs X l (szB (rK (X 55) p))) R TH N) := by
  simp only [S218, G51, of0 h.1 h8, t217 h hl h16 h8, t216 h hl (show l + 6 < 16 by omega) h8, t210 h hl (show l + 1 < 16 by omega) h8, t211 h hl (show l + 2 < 16 by omega) h8, px_op_some, px_op_none, tl_some, tl_none, ap_one, ap_nil, z01, o01, true_and, and_true, true_or, or_true, i10, i01, if_true, if_false, eq_self]
  have e1 : X 55 (5 + 4 * p) = rK (X 55) p := rfl
  rw [e1]
  unfold szV szB
  by_cases h1 : rK (X 55) p = 2
  · simp only [h1, if_true]
  by_cases h2 : rK (X 55) p < 4
  · have h3 : ¬ 4 ≤ rK (X 55) p := by rw [Int32.not_le]; exact h2
    simp only [h1, h2, h3, if_true, if_false]
  · have h3 : 4 ≤ rK (X 55) p := Int32.not_lt.mp h2
    by_cases h4 : rK (X 55) p = 4
    · simp only [h1, h2, h3, h4, if_true, if_false]
      simp
    · simp only [h1, h2, h3, h4, if_true, if_false]
/-- ask -/
def X0tr (X : hX) : hX := upA X 51 (upd (X 51) 22 0)
theorem t219 {x what : Int32} (h : MB X T Hn) : wc (d + 10) 219 [.ref 51, .int x, .int what] (hp X R TH N) Q ↔ (if (0 ≤ x ∧ x ≤ nI T - 1) ∧ (0 ≤ what ∧ what ≤ 1) then (if what = 0 then Q (some (.int (szV (X 55) x.toNatClampNeg Hn))) (hp (LVs (X0tr X) 0 (szB (rK (X 55) x.toNatClampNeg))) R TH N) else Q (some (.int (mkV (X 55) x.toNatClampNeg Hn))) (hp (LVs (X0tr X) 0 (mkB (rK (X 55) x.toNatClampNeg))) R TH N)) else Q (some (.int (-1000001))) (hp X R TH N)) := by
  simp only [S219, G51, t152 h.1, t140, h.2.1, px_op_some, px_op_none, tl_some, tl_none, ap_one, ap_nil, z01, o01, true_and, and_true, true_or, or_true, i10, i01, if_true, if_false, eq_self, b2_0]
  by_cases hx : 0 ≤ x ∧ x ≤ nI T - 1
  · obtain ⟨p, hp1, rfl⟩ := (inT h.2.2.1).mp hx
    have h8 : p < 8 := by have := h.2.2.1; omega
    have h0 : MB (X0tr X) T Hn := by
      unfold MB X0tr
      rw [upA_s, upd_n (by decide), upA_n (show (55 : Nat) ≠ 51 by decide)]
      exact h
    have hl0 : X0tr X 51 22 = nI 0 := by unfold X0tr; rw [upA_s, upd_s]; rfl
    have e55 : X0tr X 55 = X 55 := by unfold X0tr; rw [upA_n (by decide)]
    have s1 := fun Q => t218 (d := d) (R := R) (TH := TH) (N := N) (Q := Q) (p := p) h0 hl0 (by decide) h8
    have s2 := fun Q => t215 (d := d + 3) (R := R) (TH := TH) (N := N) (Q := Q) (p := p) h0 hl0 (by decide) h8
    rw [e55] at s1 s2
    unfold X0tr at s1 s2 ⊢
    by_cases hk : 0 ≤ what ∧ what ≤ 1
    · by_cases hw : what = 0
      · simp only [hx, hk, hw, not_true_eq_false, and_self, if_false, if_true, S219, G51, s1, px_op_some, px_op_none, tl_some, tl_none, ap_one, ap_nil, z01, o01, true_and, and_true, true_or, or_true, i10, i01, if_true, if_false, eq_self, nI_clamp (show p < 2 ^ 31 by omega)]
        simp
      · simp only [hx, hk, hw, not_true_eq_false, and_self, if_false, if_true, S219, G51, s2, px_op_some, px_op_none, tl_some, tl_none, ap_one, ap_nil, z01, o01, true_and, and_true, true_or, or_true, i10, i01, if_true, if_false, eq_self, nI_clamp (show p < 2 ^ 31 by omega)]
    · simp only [hx, hk, and_self, not_true_eq_false, not_false_eq_true, and_false, if_false, if_true]
  · simp only [hx, not_false_eq_true, false_and, if_false, if_true]
end M9
