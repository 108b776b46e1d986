/-! the reference: what is foretold -/
/-- the first place, of n from p on -/
def frst (P : Nat → Bool) : Nat → Nat → Option Nat
  | 0, _ => none
  | n + 1, p => if P p = true then some p else frst P n (p + 1)
section M5
variable {d : Nat} {X : hX} {R : hR} {TH : hT} {N T Hn D : Nat} {w : px_H} {Q : Option Value → px_H → Prop}
theorem l185 (h : MB X T Hn) (hD : X 55 3 = nI D) (hD9 : D ≤ 999) : ∀ (n k : Nat) (f : Nat → Int32), k + n = D + 101 → D ≤ k → (∀ f, Q (some (.int (enc (frst (fun day => decide (¬ openI (X 55) (rS (X 55)) (nI day) (X 55 0) T Hn = 0)) n k)))) (hp (upA X 59 f) R TH N)) → wp (d + 5) 185 16 [some (.ref 51), some (.int (nI k))] [] (hp (upA X 59 f) R TH N) 0 Q := by
  intro n
  induction n with
  | zero =>
    intro k f hk hDk hQ
    have h' := h.up (q := 59) (f := f) (by decide) (by decide)
    rw [H185_16]
    simp only [S185, G51, gt3 h'.1, px_op_some, px_op_none, tl_some, tl_none, ap_one, ap_nil, z01, o01, true_and, and_true, true_or, or_true, i10, i01, if_true, if_false, eq_self, upA_s, upA_n, upd_s, upd_n, ne_eq, Nat.reduceEqDiff, not_false_eq_true, hD]
    rw [if_pos (by rw [show (100 : Int32) = nI 100 from rfl, nI_add]; exact nI_lt (by omega) (by omega))]
    exact hQ f
  | succ n ih =>
    intro k f hk hDk hQ
    have h' := h.up (q := 59) (f := f) (by decide) (by decide)
    rw [H185_16]
    simp only [S185, G51, gt3 h'.1, t171' h', px_op_some, px_op_none, tl_some, tl_none, ap_one, ap_nil, z01, o01, true_and, and_true, true_or, or_true, i10, i01, if_true, if_false, eq_self, upA_s, upA_n, upd_s, upd_n, ne_eq, Nat.reduceEqDiff, not_false_eq_true, hD, nI_1, upA_upA]
    rw [if_neg (by rw [show (100 : Int32) = nI 100 from rfl, nI_add, Int32.not_lt]; exact nI_le (by omega) (by omega))]
    by_cases h1 : openI (X 55) (rS (X 55)) (nI k) (X 55 0) T Hn = 0
    · rw [if_pos h1]
      refine ih (k + 1) _ (by omega) (by omega) (fun f => ?_)
      have := hQ f
      rw [frst, if_neg (by simp [h1])] at this
      exact this
    · rw [if_neg h1]
      have := hQ (cp (rS (X 55)) f T)
      rw [frst, if_pos (by simp [h1])] at this
      exact this
def gapI (ρ : Nat → Int32) (D T Hn : Nat) : Option Nat := frst (fun day => decide (¬ openI ρ (rS ρ) (nI day) (ρ 0) T Hn = 0)) 101 D
theorem t185 (h : MB X T Hn) (hD : X 55 3 = nI D) (hD9 : D ≤ 999) (hQ : ∀ f, Q (some (.int (if 0 < X 55 0 then enc (gapI (X 55) D T Hn) else -1000002))) (hp (upA X 59 f) R TH N)) : wc (d + 5) 185 [.ref 51] (hp X R TH N) Q := by
  simp only [S185, G51, t175 h.1, gt3 h.1, px_op_some, px_op_none, tl_some, tl_none, ap_one, ap_nil, z01, o01, true_and, and_true, true_or, or_true, i10, i01, if_true, if_false, eq_self, b2_0, hD]
  by_cases h0 : 0 < X 55 0
  · simp only [if_pos h0] at hQ
    rw [if_neg (fun q => q h0)]
    have := l185 (d := d) (Q := Q) (R := R) (TH := TH) (N := N) h hD hD9 101 D (X 59) (by omega) (Nat.le_refl _) hQ
    rw [upA_id] at this
    exact this
  · simp only [if_neg h0] at hQ
    rw [if_pos h0]
    have := hQ (X 59)
    rw [upA_id] at this
    exact this
/-- terms -/
def trmI (ρ : Nat → Int32) (T Hn : Nat) : Option Nat := frst (fun t => decide (openI ρ (rS ρ) (ρ 3) (nI t) T Hn = 0)) 40 1
theorem l199 (h : MB X T Hn) : ∀ (n k : Nat), k + n = 41 → 1 ≤ k → (wp (d + 5) 199 16 [some (.ref 51), some (.int (nI k))] [] (hp X R TH N) 0 Q ↔ Q (some (.int (enc (frst (fun t => decide (openI (X 55) (X 59) (X 55 3) (nI t) T Hn = 0)) n k)))) (hp X R TH N)) := by
  intro n
  induction n with
  | zero =>
    intro k hk h1
    rw [H199_16]
    simp only [S199, G51, px_op_some, px_op_none, tl_some, tl_none, ap_one, ap_nil, z01, o01, true_and, and_true, true_or, or_true, i10, i01, if_true, if_false, eq_self]
    rw [if_pos (by rw [show (40 : Int32) = nI 40 from rfl]; exact nI_lt (by omega) (by omega))]
    rfl
  | succ n ih =>
    intro k hk h1
    have ih' := ih (k + 1) (by omega) (by omega)
    rw [H199_16]
    simp only [S199, G51, gt3 h.1, t168 h.1 h.2.1 h.2.2.1, t169 h.1 h.2.2.2.1 h.2.2.2.2, px_op_some, px_op_none, tl_some, tl_none, ap_one, ap_nil, z01, o01, true_and, and_true, true_or, or_true, i10, i01, if_true, if_false, eq_self, nI_1, ih']
    rw [if_neg (by rw [show (40 : Int32) = nI 40 from rfl, Int32.not_lt]; exact nI_le (by omega) (by omega))]
    by_cases h2 : openI (X 55) (X 59) (X 55 3) (nI k) T Hn = 0
    · rw [if_pos (show opnI _ _ _ = 0 from h2), frst, if_pos (by simp [h2])]
      rfl
    · rw [if_neg (show ¬ opnI _ _ _ = 0 from h2), frst, if_neg (by simp [h2])]
theorem t199 (h : MB X T Hn) (hQ : ∀ f, Q (some (.int (if 0 < X 55 0 then enc (trmI (X 55) T Hn) else -1000002))) (hp (upA X 59 f) R TH N)) : wc (d + 5) 199 [.ref 51] (hp X R TH N) Q := by
  simp only [S199, G51, t175 h.1, t167 h.1 h.2.1 h.2.2.1, px_op_some, px_op_none, tl_some, tl_none, ap_one, ap_nil, z01, o01, true_and, and_true, true_or, or_true, i10, i01, if_true, if_false, eq_self, b2_0]
  by_cases h0 : 0 < X 55 0
  · simp only [if_pos h0] at hQ
    rw [if_neg (fun q => q h0)]
    have h' := h.up (q := 59) (f := cp (rS (X 55)) (X 59) T) (by decide) (by decide)
    refine (l199 h' 40 1 rfl (Nat.le_refl _)).mpr ?_
    have := hQ (cp (rS (X 55)) (X 59) T)
    simp only [upA_s, upA_n, upd_s, upd_n, ne_eq, Nat.reduceEqDiff, not_false_eq_true]
    have e : (fun t => decide (openI (X 55) (cp (rS (X 55)) (X 59) T) (X 55 3) (nI t) T Hn = 0)) = (fun t => decide (openI (X 55) (rS (X 55)) (X 55 3) (nI t) T Hn = 0)) := by
      funext t
      rw [openI_c (fun p hp => cp_lt hp)]
    rw [e]
    exact this
  · simp only [if_neg h0] at hQ
    rw [if_pos h0]
    have := hQ (X 59)
    rw [upA_id] at this
    exact this
/-- cover -/
theorem shl1 : ∀ T : Nat, T < 9 → (1 : Int32) <<< (nI T &&& 31) = nI (2 ^ T) := by decide
theorem pow8 : ∀ T : Nat, T < 9 → 2 ^ T ≤ 256 := by decide
def cvS (ρ : Nat → Int32) (T Hn : Nat) (s : Nat) (a : Option Nat) : Option Nat := if (a = none ∨ manyI (nI s) < manyI (enc a)) ∧ covI ρ (nI s) T Hn then some s else a
def cvI (ρ : Nat → Int32) (T Hn : Nat) : Option Nat := fld (cvS ρ T Hn) (2 ^ T) 0 none
/-- a set's answer: it, or how many -/
def setI (a : Option Nat) (what : Int32) : Int32 := if a = none ∨ what = 1 then enc a else manyI (enc a)
theorem l188 {what : Int32} (h : MB X T Hn) : ∀ (n s : Nat) (a : Option Nat) (f : Nat → Int32) (l4 : Option Value), s + n = 2 ^ T → (∀ q, a = some q → q < s) → (∀ f, Q (some (.int (setI (fld (cvS (X 55) T Hn) n s a) what))) (hp (upA X 59 f) R TH N)) → wp (d + 5) 188 27 [some (.ref 51), some (.int what), some (.int (enc a)), some (.int (nI s)), l4] [] (hp (upA X 59 f) R TH N) 0 Q := by
  have hpw := pow8 T (by have := h.2.2.1; omega)
  intro n
  induction n with
  | zero =>
    intro s a f l4 hs ha hQ
    obtain rfl : s = 2 ^ T := by omega
    have h' := h.up (q := 59) (f := f) (by decide) (by decide)
    rw [H188_27]
    simp only [S188, G51, gt1 h'.1, t186, px_op_some, px_op_none, tl_some, tl_none, ap_one, ap_nil, z01, o01, true_and, and_true, true_or, or_true, i10, i01, if_true, if_false, eq_self, h'.2.1, shl1 T (by have := h.2.2.1; omega), i_nI_le, enc_n (fun p hp => show p < 2 ^ 31 by have := ha p hp; omega)]
    have := hQ f
    rw [fld_0] at this
    unfold setI at this
    by_cases h1 : a = none
    · simp only [h1, true_or, if_true] at this ⊢
      exact this
    · by_cases h2 : what = 1
      · simp only [h1, h2, or_true, if_true, if_false] at this ⊢
        exact this
      · simp only [h1, h2, or_false, if_false] at this ⊢
        exact this
  | succ n ih =>
    intro s a f l4 hs ha hQ
    have h' := h.up (q := 59) (f := f) (by decide) (by decide)
    have hlt : (nI (2 ^ T) ≤ nI s) = False := i_nI_lt (by omega) (by omega)
    have ha' : ∀ q, a = some q → q < s + 1 := fun q hq => by have := ha q hq; omega
    rw [fld_s] at hQ
    rw [H188_27]
    cases a with
    | none =>
      have k1 := fun hQ f l4 => ih (s + 1) (some s) f l4 (by omega) (fun q hq => by cases hq; omega) hQ
      have k0 := fun hQ f l4 => ih (s + 1) none f l4 (by omega) (fun q hq => by cases hq) hQ
      simp only [enc] at k1 k0
      simp only [S188, G51, gt1 h'.1, t186, t187 h', px_op_some, px_op_none, tl_some, tl_none, ap_one, ap_nil, z01, o01, true_and, and_true, true_or, or_true, i10, i01, if_true, if_false, eq_self, upA_s, upA_n, upd_s, upd_n, ne_eq, Nat.reduceEqDiff, not_false_eq_true, h'.2.1, shl1 T (by have := h.2.2.1; omega), hlt, nI_1, upA_upA, b2_0, enc]
      by_cases hc : covI (X 55) (nI s) T Hn
      · rw [if_neg (fun q => q hc)]
        have e : cvS (X 55) T Hn s none = some s := if_pos ⟨Or.inl rfl, hc⟩
        rw [e] at hQ
        exact k1 hQ _ _
      · rw [if_pos hc]
        have e : cvS (X 55) T Hn s none = none := if_neg (fun q => hc q.2)
        rw [e] at hQ
        exact k0 hQ _ _
    | some q =>
      have hq := ha q rfl
      have hqn : (nI q = -1000000) = False := i_nn (by omega)
      have k1 := fun hQ f l4 => ih (s + 1) (some s) f l4 (by omega) (fun q hq => by cases hq; omega) hQ
      have k0 := fun hQ f l4 => ih (s + 1) (some q) f l4 (by omega) ha' hQ
      simp only [enc] at k1 k0
      simp only [S188, G51, gt1 h'.1, t186, t187 h', px_op_some, px_op_none, tl_some, tl_none, ap_one, ap_nil, z01, o01, true_and, and_true, true_or, or_true, i10, i01, if_true, if_false, eq_self, upA_s, upA_n, upd_s, upd_n, ne_eq, Nat.reduceEqDiff, not_false_eq_true, h'.2.1, shl1 T (by have := h.2.2.1; omega), hlt, nI_1, upA_upA, b2_0, enc, hqn]
      by_cases h2 : manyI (nI q) ≤ manyI (nI s)
      · rw [if_pos h2]
        have e : cvS (X 55) T Hn s (some q) = some q := if_neg (fun z => by
          rcases z.1 with z | z
          · cases z
          · exact absurd h2 (by rw [Int32.not_le]; exact z))
        rw [e] at hQ
        exact k0 hQ _ _
      · rw [if_neg h2]
        by_cases hc : covI (X 55) (nI s) T Hn
        · rw [if_neg (fun q => q hc)]
          have e : cvS (X 55) T Hn s (some q) = some s := if_pos ⟨Or.inr (by rw [← Int32.not_le]; exact h2), hc⟩
          rw [e] at hQ
          exact k1 hQ _ _
        · rw [if_pos hc]
          have e : cvS (X 55) T Hn s (some q) = some q := if_neg (fun z => hc z.2)
          rw [e] at hQ
          exact k0 hQ _ _
theorem t188 {what : Int32} (h : MB X T Hn) (hQ : ∀ f, Q (some (.int (if 0 < X 55 0 then (if 0 ≤ what ∧ what ≤ 1 then setI (cvI (X 55) T Hn) what else -1000001) else -1000002))) (hp (upA X 59 f) R TH N)) : wc (d + 5) 188 [.ref 51, .int what] (hp X R TH N) Q := by
  simp only [S188, G51, t175 h.1, t140, px_op_some, px_op_none, tl_some, tl_none, ap_one, ap_nil, z01, o01, true_and, and_true, true_or, or_true, i10, i01, if_true, if_false, eq_self, b2_0]
  by_cases h0 : 0 < X 55 0
  · by_cases h1 : 0 ≤ what ∧ what ≤ 1
    · simp only [h0, h1, and_self, if_true, not_true_eq_false, if_false] at hQ ⊢
      have := l188 (d := d) (Q := Q) (R := R) (TH := TH) (N := N) (what := what) h (2 ^ T) 0 none (X 59) none (by omega) (fun q hq => by cases hq) hQ
      rw [upA_id] at this
      exact this
    · have := hQ (X 59)
      rw [upA_id] at this
      simp only [h0, h1, if_true, not_true_eq_false, not_false_eq_true, if_false] at this ⊢
      exact this
  · have := hQ (X 59)
    rw [upA_id] at this
    simp only [h0, if_true, not_false_eq_true, if_false] at this ⊢
    exact this
end M5
