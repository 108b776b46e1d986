/-! the reference: defended, and what is asked of things -/
section M7
variable {d : Nat} {X : hX} {R : hR} {TH : hT} {N T Hn D : Nat} {w : px_H} {Q : Option Value → px_H → Prop}
/-- dearBy: the oaths when a thing is asked now -/
def thenI (ρ : Nat → Int32) (p : Nat) : Int32 := ρ 3 + wayI (rK ρ p) (rF ρ p)
def askO (ρ : Nat → Int32) (p : Nat) : Nat → Int32 := fun q => if q = p then (if rK ρ p ≠ 3 ∨ 10 ≤ thenI ρ p then thenI ρ p else rS ρ p) else rS ρ q
def dearI (ρ : Nat → Int32) (p : Nat) (day : Int32) (T Hn : Nat) : Int32 := priceI ρ T (chI ρ (openI ρ (askO ρ p) (if day < thenI ρ p then thenI ρ p else day) (ρ 0) T Hn) T Hn) 1000
theorem t193 {p : Nat} {day : Int32} (h : MB X T Hn) (hp8 : p < T) (hQ : ∀ f, Q (some (.int (dearI (X 55) p day T Hn))) (hp (upA X 59 f) R TH N)) : wc (d + 5) 193 [.ref 51, .int (nI p), .int day] (hp X R TH N) Q := by
  have h8 : p < 8 := by have := h.2.2.1; omega
  have h' := h.up (q := 59) (f := cp (rS (X 55)) (X 59) T) (by decide) (by decide)
  have e1 : X 55 (5 + 4 * p) = rK (X 55) p := rfl
  have e3 : X 55 (5 + 4 * p + 1) = rF (X 55) p := rfl
  have e2 : X 55 3 + wayI (rK (X 55) p) (rF (X 55) p) = thenI (X 55) p := rfl
  simp only [S193, G51, t167 h.1 h.2.1 h.2.2.1, gt3 h'.1, t172 h'.1 h8, t173 h'.1 h8, A59_g h8, A59_p h8, px_op_some, px_op_none, tl_some, tl_none, ap_one, ap_nil, z01, o01, true_and, and_true, true_or, or_true, i10, i01, if_true, if_false, eq_self, upA_s, upA_n, upd_s, upd_n, ne_eq, Nat.reduceEqDiff, not_false_eq_true, b2_0, upA_upA, e1, e3, e2]
  have fin : ∀ v, v = askO (X 55) p p → wc (d + 4) 191 [.ref 51, .int (if day < thenI (X 55) p then thenI (X 55) p else day)] (hp (upA X 59 (upd (cp (rS (X 55)) (X 59) T) p v)) R TH N) (fun r w' => wp (d + 4 + 1) 193 55 [some (.ref 51), some (.int (nI p)), some (.int day), some (.int (thenI (X 55) p)), none] (r.toList ++ []) w' 0 Q) := by
    intro v hv
    have h2 := h.up (q := 59) (f := upd (cp (rS (X 55)) (X 59) T) p v) (by decide) (by decide)
    rw [t191 h2]
    simp only [upA_s, upA_n, upd_s, upd_n, ne_eq, Nat.reduceEqDiff, not_false_eq_true]
    have e := openI_c (ρ := X 55) (day := if day < thenI (X 55) p then thenI (X 55) p else day) (term := X 55 0) (T := T) (Hn := Hn) (o := upd (cp (rS (X 55)) (X 59) T) p v) (o' := askO (X 55) p) (fun q hq => by
      by_cases hqp : q = p
      · subst hqp; rw [upd_s, hv]
      · rw [upd_n hqp, cp_lt hq]; unfold askO; rw [if_neg hqp])
    rw [e]
    have hq := hQ (upd (cp (rS (X 55)) (X 59) T) p v)
    unfold dearI at hq
    cases hc : chI (X 55) (openI (X 55) (askO (X 55) p) (if day < thenI (X 55) p then thenI (X 55) p else day) (X 55 0) T Hn) T Hn with
    | none =>
      rw [hc] at hq
      simp only [S193, G51, enc, px_op_some, px_op_none, tl_some, tl_none, ap_one, ap_nil, z01, o01, true_and, and_true, true_or, or_true, i10, i01, if_true, if_false, eq_self]
      exact hq
    | some q =>
      rw [hc] at hq
      have hq8 := chI_lt h.2.2.2.2 q hc
      simp only [S193, G51, enc, i_nn (show q < 2 ^ 31 by omega), gtH h2.1 hq8, t180 h2, px_op_some, px_op_none, tl_some, tl_none, ap_one, ap_nil, z01, o01, true_and, and_true, true_or, or_true, i10, i01, if_true, if_false, eq_self, upA_s, upA_n, upd_s, upd_n, ne_eq, Nat.reduceEqDiff, not_false_eq_true]
      exact hq
  by_cases hw : ¬ rK (X 55) p = 3 ∨ 10 ≤ thenI (X 55) p
  · rw [if_neg (fun z => z hw)]
    have := fin (thenI (X 55) p) (by unfold askO; rw [if_pos rfl, if_pos hw])
    by_cases hd : day < thenI (X 55) p
    · rw [if_pos hd] at this
      rw [if_neg (by rw [Int32.not_le]; exact hd)]
      exact this
    · rw [if_neg hd] at this
      rw [if_pos (Int32.not_lt.mp hd)]
      exact this
  · rw [if_pos hw, cp_lt hp8]
    have := fin (rS (X 55) p) (by unfold askO; rw [if_pos rfl, if_neg hw])
    by_cases hd : day < thenI (X 55) p
    · rw [if_pos hd] at this
      rw [if_neg (by rw [Int32.not_le]; exact hd)]
      exact this
    · rw [if_neg hd] at this
      rw [if_pos (Int32.not_lt.mp hd)]
      exact this
/-- defended -/
def dfS (ρ : Nat → Int32) (day : Int32) (T Hn : Nat) (p : Nat) (a : Int32 × Int32) : Int32 × Int32 := if dearI ρ p day T Hn ≤ a.2 then a else (nI p, dearI ρ p day T Hn)
def dfI (ρ : Nat → Int32) (day : Int32) (T Hn : Nat) : Int32 × Int32 := fld (dfS ρ day T Hn) T 0 (-1000000, -1000000)
def dfA (a : Int32 × Int32) (what : Int32) : Int32 := if what = 0 then a.1 else if a.2 = 1000 then -1000000 else a.2
theorem l194 {day what : Int32} (h : MB X T Hn) : ∀ (n p : Nat) (a : Int32 × Int32) (f : Nat → Int32) (l6 : Option Value), p + n = T → (∀ f, Q (some (.int (dfA (fld (dfS (X 55) day T Hn) n p a) what))) (hp (upA X 59 f) R TH N)) → wp (d + 6) 194 40 [some (.ref 51), some (.int day), some (.int what), some (.int a.1), some (.int a.2), some (.int (nI p)), l6] [] (hp (upA X 59 f) R TH N) 0 Q := by
  intro n
  induction n with
  | zero =>
    intro p a f l6 hp0 hQ
    obtain rfl : p = T := by omega
    have h' := h.up (q := 59) (f := f) (by decide) (by decide)
    rw [H194_40]
    simp only [S194, G51, gt1 h'.1, px_op_some, px_op_none, tl_some, tl_none, ap_one, ap_nil, z01, o01, true_and, and_true, true_or, or_true, i10, i01, if_true, if_false, eq_self, h'.2.1, i_nI_le]
    have := hQ f
    rw [fld_0] at this
    unfold dfA at this
    by_cases h1 : what = 0
    · simp only [h1, if_true] at this ⊢; exact this
    · by_cases h2 : a.2 = 1000
      · simp only [h1, h2, if_true, if_false] at this ⊢; exact this
      · simp only [h1, h2, if_false] at this ⊢; exact this
  | succ n ih =>
    intro p a f l6 hp0 hQ
    have h' := h.up (q := 59) (f := f) (by decide) (by decide)
    rw [fld_s] at hQ
    rw [H194_40]
    simp only [S194, G51, gt1 h'.1, px_op_some, px_op_none, tl_some, tl_none, ap_one, ap_nil, z01, o01, true_and, and_true, true_or, or_true, i10, i01, if_true, if_false, eq_self, h'.2.1, i_nI_lt (show p < T by omega) (show T < 2 ^ 31 by have := h.2.2.1; omega)]
    refine t193 h' (by omega) (fun g => ?_)
    simp only [S194, G51, px_op_some, px_op_none, tl_some, tl_none, ap_one, ap_nil, z01, o01, true_and, and_true, true_or, or_true, i10, i01, if_true, if_false, eq_self, upA_s, upA_n, upd_s, upd_n, ne_eq, Nat.reduceEqDiff, not_false_eq_true, upA_upA, nI_1]
    by_cases h1 : dearI (X 55) p day T Hn ≤ a.2
    · have e : dfS (X 55) day T Hn p a = a := if_pos h1
      rw [e] at hQ
      simp only [h1, if_true]
      exact ih (p + 1) a g _ (by omega) hQ
    · have e : dfS (X 55) day T Hn p a = (nI p, dearI (X 55) p day T Hn) := if_neg h1
      rw [e] at hQ
      simp only [h1, if_false]
      exact ih (p + 1) (nI p, dearI (X 55) p day T Hn) g _ (by omega) hQ
theorem t194 {day what : Int32} (h : MB X T Hn) (hQ : ∀ f, Q (some (.int (if 0 < X 55 0 then (if (X 55 3 ≤ day ∧ day ≤ X 55 3 + 100) ∧ (0 ≤ what ∧ what ≤ 1) then dfA (dfI (X 55) day T Hn) what else -1000001) else -1000002))) (hp (upA X 59 f) R TH N)) : wc (d + 6) 194 [.ref 51, .int day, .int what] (hp X R TH N) Q := by
  simp only [S194, G51, t175 h.1, t183 h.1, t140, px_op_some, px_op_none, tl_some, tl_none, ap_one, ap_nil, z01, o01, true_and, and_true, true_or, or_true, i10, i01, if_true, if_false, eq_self, b2_0]
  by_cases h0 : 0 < X 55 0
  · by_cases h1 : X 55 3 ≤ day ∧ day ≤ X 55 3 + 100
    · by_cases h2 : 0 ≤ what ∧ what ≤ 1
      · simp only [h0, h1, h2, and_self, if_true, not_true_eq_false, if_false] at hQ ⊢
        have := l194 (d := d) (Q := Q) (R := R) (TH := TH) (N := N) (day := day) (what := what) h T 0 (-1000000, -1000000) (X 59) none (by omega) hQ
        rw [upA_id] at this
        exact this
      · have := hQ (X 59)
        rw [upA_id] at this
        simp only [h0, h1, h2, and_false, if_true, not_true_eq_false, not_false_eq_true, if_false] at this ⊢
        exact this
    · have := hQ (X 59)
      rw [upA_id] at this
      simp only [h0, h1, false_and, if_true, not_true_eq_false, not_false_eq_true, if_false] at this ⊢
      exact this
  · have := hQ (X 59)
    rw [upA_id] at this
    simp only [h0, if_true, not_false_eq_true, if_false] at this ⊢
    exact this
end M7
