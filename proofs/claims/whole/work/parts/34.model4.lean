/-! the reference: the rest of what is foretold; what is asked -/
section M6
variable {d : Nat} {X : hX} {R : hR} {TH : hT} {N T Hn D : Nat} {w : px_H} {Q : Option Value → px_H → Prop}
/-- enough -/
def enS (ρ : Nat → Int32) (T Hn : Nat) (s : Nat) (a : Option Nat) : Option Nat := if (a = none ∨ manyI (nI s) < manyI (enc a)) ∧ opnI ρ (ofkI ρ (nI s) T) Hn = 0 then some s else a
def enI (ρ : Nat → Int32) (T Hn : Nat) : Option Nat := fld (enS ρ T Hn) 32 0 none
theorem l196 {what : Int32} (h : MB X T Hn) : ∀ (n s : Nat) (a : Option Nat) (l4 : Option Value), s + n = 32 → (∀ q, a = some q → q < s) → (wp (d + 3) 196 27 [some (.ref 51), some (.int what), some (.int (enc a)), some (.int (nI s)), l4] [] (hp X R TH N) 0 Q ↔ Q (some (.int (setI (fld (enS (X 55) T Hn) n s a) what))) (hp X R TH N)) := by
  intro n
  induction n with
  | zero =>
    intro s a l4 hs ha
    obtain rfl : s = 32 := by omega
    rw [H196_27]
    simp only [S196, G51, t186, px_op_some, px_op_none, tl_some, tl_none, ap_one, ap_nil, z01, o01, true_and, and_true, true_or, or_true, i10, i01, if_true, if_false, eq_self, enc_n (fun p hp => show p < 2 ^ 31 by have := ha p hp; omega)]
    rw [if_pos (by decide), fld_0]
    unfold setI
    by_cases h1 : a = none
    · simp only [h1, true_or, if_true]
    · by_cases h2 : what = 1
      · simp only [h1, h2, or_true, if_true, if_false]
      · simp only [h1, h2, or_false, if_false]
  | succ n ih =>
    intro s a l4 hs ha
    have hlt : ((32 : Int32) ≤ nI s) = False := i_nI_lt (T := 32) (by omega) (by omega)
    rw [H196_27, fld_s]
    cases a with
    | none =>
      have k1 := fun l4 => ih (s + 1) (some s) l4 (by omega) (fun q hq => by cases hq; omega)
      have k0 := fun l4 => ih (s + 1) none l4 (by omega) (fun q hq => by cases hq)
      simp only [enc] at k1 k0
      simp only [S196, G51, t186, t195 h, t169 h.1 h.2.2.2.1 h.2.2.2.2, px_op_some, px_op_none, tl_some, tl_none, ap_one, ap_nil, z01, o01, true_and, and_true, true_or, or_true, i10, i01, if_true, if_false, eq_self, hlt, nI_1, enc, k1, k0, enS]
      by_cases hc : opnI (X 55) (ofkI (X 55) (nI s) T) Hn = 0
      · simp [hc]
      · simp [hc]
    | some q =>
      have hq := ha q rfl
      have hqn : (nI q = -1000000) = False := i_nn (by omega)
      have k1 := fun l4 => ih (s + 1) (some s) l4 (by omega) (fun q hq => by cases hq; omega)
      have k0 := fun l4 => ih (s + 1) (some q) l4 (by omega) (fun r hr => by cases hr; omega)
      simp only [enc] at k1 k0
      simp only [S196, G51, t186, t195 h, t169 h.1 h.2.2.2.1 h.2.2.2.2, px_op_some, px_op_none, tl_some, tl_none, ap_one, ap_nil, z01, o01, true_and, and_true, true_or, or_true, i10, i01, if_true, if_false, eq_self, hlt, nI_1, enc, hqn, k1, k0, enS]
      by_cases h2 : manyI (nI q) ≤ manyI (nI s)
      · have h3 : ¬ manyI (nI s) < manyI (nI q) := by rw [Int32.not_lt]; exact h2
        simp [h2, h3]
      · have h3 : manyI (nI s) < manyI (nI q) := by rw [← Int32.not_le]; exact h2
        by_cases hc : opnI (X 55) (ofkI (X 55) (nI s) T) Hn = 0
        · simp [h2, h3, hc]
        · simp [h2, h3, hc]
theorem t196 {what : Int32} (h : MB X T Hn) : wc (d + 3) 196 [.ref 51, .int what] (hp X R TH N) Q ↔ Q (some (.int (if 0 < X 55 0 then (if 0 ≤ what ∧ what ≤ 1 then setI (enI (X 55) T Hn) what else -1000001) else -1000002))) (hp X R TH N) := by
  have hl := l196 (d := d) (Q := Q) (R := R) (TH := TH) (N := N) (what := what) h 32 0 none none rfl (fun q hq => by cases hq)
  simp only [enc] at hl
  have hl' : wp (d + 3) 196 27 [some (.ref 51), some (.int what), some (.int (-1000000)), some (.int 0), none] [] (hp X R TH N) 0 Q ↔ _ := hl
  simp only [S196, G51, t175 h.1, t140, px_op_some, px_op_none, tl_some, tl_none, ap_one, ap_nil, z01, o01, true_and, and_true, true_or, or_true, i10, i01, if_true, if_false, eq_self, b2_0, hl']
  by_cases h0 : 0 < X 55 0
  · by_cases h1 : 0 ≤ what ∧ what ≤ 1
    · simp only [h0, h1, and_self, if_true, not_true_eq_false, if_false]
      rfl
    · simp only [h0, h1, if_true, not_true_eq_false, not_false_eq_true, if_false]
  · simp only [h0, if_true, not_false_eq_true, if_false]
/-- open -/
theorem t184 {day : Int32} (h : MB X T Hn) (hQ : ∀ f, Q (some (.int (if 0 < X 55 0 then (if X 55 3 ≤ day ∧ day ≤ X 55 3 + 100 then openI (X 55) (rS (X 55)) day (X 55 0) T Hn else -1000001) else -1000002))) (hp (upA X 59 f) R TH N)) : wc (d + 5) 184 [.ref 51, .int day] (hp X R TH N) Q := by
  simp only [S184, G51, t175 h.1, t183 h.1, t171' h, px_op_some, px_op_none, tl_some, tl_none, ap_one, ap_nil, z01, o01, true_and, and_true, true_or, or_true, i10, i01, if_true, if_false, eq_self, b2_0]
  by_cases h0 : 0 < X 55 0
  · by_cases h1 : X 55 3 ≤ day ∧ day ≤ X 55 3 + 100
    · simp only [h0, h1, and_self, if_true, not_true_eq_false, if_false] at hQ ⊢
      exact hQ _
    · have := hQ (X 59)
      rw [upA_id] at this
      simp only [h0, h1, if_true, not_true_eq_false, not_false_eq_true, if_false] at this ⊢
      exact this
  · have := hQ (X 59)
    rw [upA_id] at this
    simp only [h0, if_true, not_false_eq_true, if_false] at this ⊢
    exact this
/-- cheapest -/
def priceI (ρ : Nat → Int32) (T : Nat) (a : Option Nat) (n : Int32) : Int32 := match a with
  | none => n
  | some h => sumI ρ (rH ρ h) T
theorem chI_lt {ρ : Nat → Int32} {op : Int32} {T Hn : Nat} (h : Hn ≤ 8) : ∀ q, chI ρ op T Hn = some q → q < 8 := fun q hq => by
  have := chS_lt Hn 0 none (fun q hq => by cases hq) q hq
  omega
theorem t192 {day what : Int32} (h : MB X T Hn) (hQ : ∀ f, Q (some (.int (if 0 < X 55 0 then (if (X 55 3 ≤ day ∧ day ≤ X 55 3 + 100) ∧ (0 ≤ what ∧ what ≤ 1) then (if what = 0 then enc (chI (X 55) (openI (X 55) (rS (X 55)) day (X 55 0) T Hn) T Hn) else priceI (X 55) T (chI (X 55) (openI (X 55) (rS (X 55)) day (X 55 0) T Hn) T Hn) (-1000000)) else -1000001) else -1000002))) (hp (upA X 59 f) R TH N)) : wc (d + 5) 192 [.ref 51, .int day, .int what] (hp X R TH N) Q := by
  have h' := h.up (q := 59) (f := cp (rS (X 55)) (X 59) T) (by decide) (by decide)
  have e := openI_c (ρ := X 55) (day := day) (term := X 55 0) (T := T) (Hn := Hn) (fun p hp => cp_lt (f := rS (X 55)) (g := X 59) hp)
  simp only [S192, G51, t175 h.1, t183 h.1, t140, t167 h.1 h.2.1 h.2.2.1, t191 h', px_op_some, px_op_none, tl_some, tl_none, ap_one, ap_nil, z01, o01, true_and, and_true, true_or, or_true, i10, i01, if_true, if_false, eq_self, upA_s, upA_n, upd_s, upd_n, ne_eq, Nat.reduceEqDiff, not_false_eq_true, b2_0, e]
  by_cases h0 : 0 < X 55 0
  · by_cases h1 : X 55 3 ≤ day ∧ day ≤ X 55 3 + 100
    · by_cases h2 : 0 ≤ what ∧ what ≤ 1
      · simp only [h0, h1, h2, and_self, if_true, not_true_eq_false, if_false] at hQ ⊢
        have hq := hQ (cp (rS (X 55)) (X 59) T)
        cases hc : chI (X 55) (openI (X 55) (rS (X 55)) day (X 55 0) T Hn) T Hn with
        | none =>
          simp only [hc, enc, priceI, if_true, ite_self] at hq ⊢
          exact hq
        | some q =>
          have hq8 := chI_lt h.2.2.2.2 q hc
          simp only [hc, enc, priceI] at hq ⊢
          simp only [S192, G51, i_nn (show q < 2 ^ 31 by omega), gtH h'.1 hq8, t180 h', px_op_some, px_op_none, tl_some, tl_none, ap_one, ap_nil, z01, o01, true_and, and_true, true_or, or_true, i10, i01, if_true, if_false, eq_self, upA_s, upA_n, upd_s, upd_n, ne_eq, Nat.reduceEqDiff, not_false_eq_true]
          by_cases h3 : what = 0
          · simp only [h3, if_true] at hq ⊢
            exact hq
          · simp only [h3, if_false] at hq ⊢
            exact hq
      · have := hQ (X 59)
        rw [upA_id] at this
        simp only [h0, h1, h2, and_false, if_true, not_true_eq_false, not_false_eq_true, if_false] at this ⊢
        exact this
    · have := hQ (X 59)
      rw [upA_id] at this
      simp only [h0, h1, false_and, if_true, not_true_eq_false, not_false_eq_true, if_false] at this ⊢
      exact this
  · have := hQ (X 59)
    rw [upA_id] at this
    simp only [h0, if_true, not_false_eq_true, if_false] at this ⊢
    exact this
end M6
