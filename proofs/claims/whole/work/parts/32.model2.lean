/-! the reference: sums, covers, what is cheapest -/
abbrev bitI (s : Int32) (p : Nat) : Prop := s >>> (nI p &&& 31) &&& 1 = 1
/-- what the reference's methods stand on: base 0, T things, Hn harms -/
def MB (X : hX) (T Hn : Nat) : Prop := X 51 5 = 0 ∧ X 55 1 = nI T ∧ T ≤ 8 ∧ X 55 2 = nI Hn ∧ Hn ≤ 8
theorem MB.up {X : hX} {T Hn q : Nat} {f : Nat → Int32} (h : MB X T Hn) (h1 : q ≠ 51) (h2 : q ≠ 55) : MB (upA X q f) T Hn := by
  unfold MB
  rw [upA_n (fun e => h1 e.symm), upA_n (fun e => h2 e.symm)]
  exact h
theorem bndI_c {ρ o o' : Nat → Int32} {day term : Int32} {T : Nat} (h : ∀ p, p < T → o p = o' p) : bndI ρ o day term T = bndI ρ o' day term T := by
  unfold bndI
  exact fld_c (fun q b _ h2 => by unfold bndS; rw [h q (by omega)])
theorem cp_lt {f g : Nat → Int32} {n j : Nat} (h : j < n) : cp f g n j = f j := if_pos h
/-- what is open on a day, as sworn; by other oaths -/
def openI (ρ o : Nat → Int32) (day term : Int32) (T Hn : Nat) : Int32 := opnI ρ (bndI ρ o day term T) Hn
theorem openI_c {ρ o o' : Nat → Int32} {day term : Int32} {T Hn : Nat} (h : ∀ p, p < T → o p = o' p) : openI ρ o day term T Hn = openI ρ o' day term T Hn := by
  unfold openI
  rw [bndI_c h]
section M4
variable {d : Nat} {X : hX} {R : hR} {TH : hT} {N T Hn : Nat} {w : px_H} {Q : Option Value → px_H → Prop}
theorem t170' {day : Int32} (h : MB X T Hn) : wc (d + 3) 170 [.ref 51, .int day] (hp X R TH N) Q ↔ Q (some (.int (openI (X 55) (X 59) day (X 55 0) T Hn))) (hp X R TH N) := t170 h.1 h.2.1 h.2.2.1 h.2.2.2.1 h.2.2.2.2
theorem t171' {day : Int32} (h : MB X T Hn) : wc (d + 4) 171 [.ref 51, .int day] (hp X R TH N) Q ↔ Q (some (.int (openI (X 55) (rS (X 55)) day (X 55 0) T Hn))) (hp (upA X 59 (cp (rS (X 55)) (X 59) T)) R TH N) := by
  rw [t171 h.1 h.2.1 h.2.2.1 h.2.2.2.1 h.2.2.2.2]
  show Q (some (.int (openI _ _ _ _ _ _))) _ ↔ _
  rw [openI_c (fun p hp => cp_lt hp)]
/-- sumOf -/
def sumS (ρ : Nat → Int32) (s : Int32) (p : Nat) (a : Int32) : Int32 := a + (s >>> (nI p &&& 31) &&& 1) * rP ρ p
def sumI (ρ : Nat → Int32) (s : Int32) (T : Nat) : Int32 := fld (sumS ρ s) T 0 0
theorem l180 {s : Int32} (h : MB X T Hn) : ∀ (n p : Nat) (a : Int32), p + n = T → (wp (d + 2) 180 4 [some (.ref 51), some (.int s), some (.int a), some (.int (nI p))] [] (hp X R TH N) 0 Q ↔ Q (some (.int (fld (sumS (X 55) s) n p a))) (hp X R TH N)) := by
  obtain ⟨hb, hT, h8, -, -⟩ := h
  intro n
  induction n with
  | zero =>
    intro p a hp0
    obtain rfl : p = T := by omega
    rw [H180_4]
    simp only [S180, G51, gt1 hb, px_op_some, px_op_none, tl_some, tl_none, ap_one, ap_nil, z01, o01, true_and, and_true, true_or, or_true, i10, i01, if_true, if_false, eq_self, upA_s, upA_n, upd_s, upd_n, ne_eq, Nat.reduceEqDiff, not_false_eq_true, hT, i_nI_le, fld_0]
  | succ n ih =>
    intro p a hp0
    have hp8 : p < 8 := by omega
    have ih' := fun a => ih (p + 1) a (by omega)
    rw [H180_4]
    simp only [S180, G51, gt1 hb, of2 hb hp8, px_op_some, px_op_none, tl_some, tl_none, ap_one, ap_nil, z01, o01, true_and, and_true, true_or, or_true, i10, i01, if_true, if_false, eq_self, upA_s, upA_n, upd_s, upd_n, ne_eq, Nat.reduceEqDiff, not_false_eq_true, hT, nI_1, i_nI_lt (show p < T by omega) (show T < 2 ^ 31 by omega), ih', fld_s, sumS, rP]
theorem t180 {s : Int32} (h : MB X T Hn) : wc (d + 2) 180 [.ref 51, .int s] (hp X R TH N) Q ↔ Q (some (.int (sumI (X 55) s T))) (hp X R TH N) := by
  simp only [S180, px_op_some, px_op_none, tl_some, tl_none, ap_one, ap_nil, z01, o01, true_and, and_true, true_or, or_true, i10, i01, if_true, if_false, eq_self]
  exact l180 h T 0 0 (by omega)
/-- inHarms -/
def inhS (ρ : Nat → Int32) (p : Int32) (k : Nat) (a : Int32) : Int32 := a + (rH ρ k >>> (p &&& 31) &&& 1)
def inhI (ρ : Nat → Int32) (p : Int32) (Hn : Nat) : Int32 := fld (inhS ρ p) Hn 0 0
theorem gtH {k : Nat} (hb : X 51 5 = 0) (h : k < 8) : wc d 149 [.ref 51, .int (37 + nI k)] (hp X R TH N) Q ↔ Q (some (.int (rH (X 55) k))) (hp X R TH N) :=
  t149 (k := 37 + k) (x := 37 + nI k) hb (by rw [show (37 : Int32) = nI 37 from rfl, nI_add]) (by omega)
theorem l203 {s : Int32} (h : MB X T Hn) : ∀ (n p : Nat) (a : Int32), p + n = Hn → (wp (d + 1) 203 4 [some (.ref 51), some (.int s), some (.int a), some (.int (nI p))] [] (hp X R TH N) 0 Q ↔ Q (some (.int (fld (inhS (X 55) s) n p a))) (hp X R TH N)) := by
  obtain ⟨hb, -, -, hT, h8⟩ := h
  intro n
  induction n with
  | zero =>
    intro p a hp0
    obtain rfl : p = Hn := by omega
    rw [H203_4]
    simp only [S203, G51, gt2 hb, px_op_some, px_op_none, tl_some, tl_none, ap_one, ap_nil, z01, o01, true_and, and_true, true_or, or_true, i10, i01, if_true, if_false, eq_self, upA_s, upA_n, upd_s, upd_n, ne_eq, Nat.reduceEqDiff, not_false_eq_true, hT, i_nI_le, fld_0]
  | succ n ih =>
    intro p a hp0
    have hp8 : p < 8 := by omega
    have ih' := fun a => ih (p + 1) a (by omega)
    rw [H203_4]
    simp only [S203, G51, gt2 hb, gtH hb hp8, px_op_some, px_op_none, tl_some, tl_none, ap_one, ap_nil, z01, o01, true_and, and_true, true_or, or_true, i10, i01, if_true, if_false, eq_self, upA_s, upA_n, upd_s, upd_n, ne_eq, Nat.reduceEqDiff, not_false_eq_true, hT, nI_1, i_nI_lt (show p < Hn by omega) (show Hn < 2 ^ 31 by omega), ih', fld_s, inhS]
theorem t203 {s : Int32} (h : MB X T Hn) : wc (d + 1) 203 [.ref 51, .int s] (hp X R TH N) Q ↔ Q (some (.int (inhI (X 55) s Hn))) (hp X R TH N) := by
  simp only [S203, px_op_some, px_op_none, tl_some, tl_none, ap_one, ap_nil, z01, o01, true_and, and_true, true_or, or_true, i10, i01, if_true, if_false, eq_self]
  exact l203 h Hn 0 0 (by omega)
/-- ofKinds -/
def ofkS (ρ : Nat → Int32) (s : Int32) (p : Nat) (a : Int32) : Int32 := a ||| (s >>> ((rK ρ p - 1) &&& 31) &&& 1) <<< (nI p &&& 31)
def ofkI (ρ : Nat → Int32) (s : Int32) (T : Nat) : Int32 := fld (ofkS ρ s) T 0 0
theorem l195 {s : Int32} (h : MB X T Hn) : ∀ (n p : Nat) (a : Int32), p + n = T → (wp (d + 2) 195 4 [some (.ref 51), some (.int s), some (.int a), some (.int (nI p))] [] (hp X R TH N) 0 Q ↔ Q (some (.int (fld (ofkS (X 55) s) n p a))) (hp X R TH N)) := by
  obtain ⟨hb, hT, h8, -, -⟩ := h
  intro n
  induction n with
  | zero =>
    intro p a hp0
    obtain rfl : p = T := by omega
    rw [H195_4]
    simp only [S195, G51, gt1 hb, px_op_some, px_op_none, tl_some, tl_none, ap_one, ap_nil, z01, o01, true_and, and_true, true_or, or_true, i10, i01, if_true, if_false, eq_self, upA_s, upA_n, upd_s, upd_n, ne_eq, Nat.reduceEqDiff, not_false_eq_true, hT, i_nI_le, fld_0]
  | succ n ih =>
    intro p a hp0
    have hp8 : p < 8 := by omega
    have ih' := fun a => ih (p + 1) a (by omega)
    rw [H195_4]
    simp only [S195, G51, gt1 hb, of0 hb hp8, px_op_some, px_op_none, tl_some, tl_none, ap_one, ap_nil, z01, o01, true_and, and_true, true_or, or_true, i10, i01, if_true, if_false, eq_self, upA_s, upA_n, upd_s, upd_n, ne_eq, Nat.reduceEqDiff, not_false_eq_true, hT, nI_1, i_nI_lt (show p < T by omega) (show T < 2 ^ 31 by omega), ih', fld_s, ofkS, rK]
theorem t195 {s : Int32} (h : MB X T Hn) : wc (d + 2) 195 [.ref 51, .int s] (hp X R TH N) Q ↔ Q (some (.int (ofkI (X 55) s T))) (hp X R TH N) := by
  simp only [S195, px_op_some, px_op_none, tl_some, tl_none, ap_one, ap_nil, z01, o01, true_and, and_true, true_or, or_true, i10, i01, if_true, if_false, eq_self]
  exact l195 h T 0 0 (by omega)
/-- covers -/
def coS (s day : Int32) (p : Nat) (f : Nat → Int32) : Nat → Int32 := if bitI s p then upd f p day else f
def maS (ρ : Nat → Int32) (s day : Int32) (p : Nat) (a : Int32) : Int32 := if bitI s p then (if a = 0 then 0 else b2 (rK ρ p ≠ 3 ∨ 10 ≤ day)) else a
theorem l187 {s : Int32} (h : MB X T Hn) {K : Int32 → (Nat → Int32) → Prop} (hK : ∀ a f, wp (d + 4) 187 66 [some (.ref 51), some (.int s), some (.int a), some (.int (nI T))] [] (hp (upA X 59 f) R TH N) 0 Q ↔ K a f) : ∀ (n p : Nat) (a : Int32) (f : Nat → Int32), p + n = T → (wp (d + 4) 187 8 [some (.ref 51), some (.int s), some (.int a), some (.int (nI p))] [] (hp (upA X 59 f) R TH N) 0 Q ↔ K (fld (maS (X 55) s (X 55 3)) n p a) (fld (coS s (X 55 3)) n p f)) := by
  intro n
  induction n with
  | zero =>
    intro p a f hp0
    obtain rfl : p = T := by omega
    obtain ⟨hb, hT, h8, -, -⟩ := h.up (q := 59) (f := f) (by decide) (by decide)
    rw [H187_8, fld_0, fld_0, ← hK]
    simp only [S187, G51, gt1 hb, px_op_some, px_op_none, tl_some, tl_none, ap_one, ap_nil, z01, o01, true_and, and_true, true_or, or_true, i10, i01, if_true, if_false, eq_self, hT, i_nI_le]
  | succ n ih =>
    intro p a f hp0
    obtain ⟨hb, hT, h8, -, -⟩ := h.up (q := 59) (f := f) (by decide) (by decide)
    have hp8 : p < 8 := by omega
    have ih' := fun a f => ih (p + 1) a f (by omega)
    rw [H187_8]
    simp only [S187, G51, gt1 hb, gt3 hb, t173 hb hp8, A59_p hp8, px_op_some, px_op_none, tl_some, tl_none, ap_one, ap_nil, z01, o01, true_and, and_true, true_or, or_true, i10, i01, if_true, if_false, eq_self, hT, nI_1, i_nI_lt (show p < T by omega) (show T < 2 ^ 31 by omega), upA_s, upA_upA, b2_0, ih']
    simp only [upA_n (show (55 : Nat) ≠ 59 by decide), ih', fld_s, maS, coS, rK, ne_eq]
    by_cases h1 : s >>> (nI p &&& 31) &&& 1 = 1
    · by_cases h2 : a = 0
      · simp [h1, h2, bitI]
      · by_cases h3 : ¬ X 55 (5 + 4 * p) = 3 ∨ 10 ≤ X 55 3
        · simp [h1, h2, h3, b2, bitI]
        · simp [h1, h2, h3, b2, bitI]
    · simp [h1, bitI]
/-- covers: whether all may swear, and all is safe then -/
abbrev covI (ρ : Nat → Int32) (s : Int32) (T Hn : Nat) : Prop := ¬ fld (maS ρ s (ρ 3)) T 0 1 = 0 ∧ openI ρ (fun p => if bitI s p then ρ 3 else rS ρ p) (ρ 3) (ρ 0) T Hn = 0
theorem co_at {s day : Int32} : ∀ (n p : Nat) (f : Nat → Int32) (j : Nat), fld (coS s day) n p f j = if (p ≤ j ∧ j < p + n) ∧ bitI s j then day else f j := by
  intro n
  induction n with
  | zero => intro p f j; rw [fld_0, if_neg (by omega)]
  | succ n ih =>
    intro p f j
    rw [fld_s, ih]
    by_cases h1 : (p + 1 ≤ j ∧ j < p + 1 + n) ∧ bitI s j
    · rw [if_pos h1, if_pos ⟨by omega, h1.2⟩]
    · rw [if_neg h1]
      unfold coS
      by_cases hj : j = p
      · subst hj
        by_cases h2 : bitI s j
        · rw [if_pos h2, if_pos ⟨by omega, h2⟩, upd_s]
        · rw [if_neg h2, if_neg (fun h => h2 h.2)]
      · have : ¬ ((p ≤ j ∧ j < p + (n + 1)) ∧ bitI s j) := fun h => h1 ⟨by omega, h.2⟩
        rw [if_neg this]
        split
        · rw [upd_n hj]
        · rfl
theorem t187 {s : Int32} (h : MB X T Hn) : wc (d + 4) 187 [.ref 51, .int s] (hp X R TH N) Q ↔ Q (some (.int (b2 (covI (X 55) s T Hn)))) (hp (upA X 59 (fld (coS s (X 55 3)) T 0 (cp (rS (X 55)) (X 59) T))) R TH N) := by
  simp only [S187, G51, t167 h.1 h.2.1 h.2.2.1, px_op_some, px_op_none, tl_some, tl_none, ap_one, ap_nil, z01, o01, true_and, and_true, true_or, or_true, i10, i01, if_true, if_false, eq_self]
  have hl := l187 (d := d) (Q := Q) (R := R) (TH := TH) (N := N) (s := s) (K := fun a f => Q (some (.int (b2 (¬ a = 0 ∧ openI (X 55) f (X 55 3) (X 55 0) T Hn = 0)))) (hp (upA X 59 f) R TH N)) h (fun a f => by
    have h' := h.up (q := 59) (f := f) (by decide) (by decide)
    simp only [S187, G51, gt3 h'.1, t170' h', px_op_some, px_op_none, tl_some, tl_none, ap_one, ap_nil, z01, o01, true_and, and_true, true_or, or_true, i10, i01, if_true, if_false, eq_self, upA_s, upA_n, upd_s, upd_n, ne_eq, Nat.reduceEqDiff, not_false_eq_true]
    by_cases h1 : a = 0
    · simp [h1, b2]
    · by_cases h2 : openI (X 55) f (X 55 3) (X 55 0) T Hn = 0
      · simp [h1, h2, b2]
      · simp [h1, h2, b2]) T 0 1 (cp (rS (X 55)) (X 59) T) (by omega)
  refine Iff.trans hl ?_
  rw [openI_c (o' := fun p => if bitI s p then X 55 3 else rS (X 55) p) (fun p hp => ?_)]
  rw [co_at]
  by_cases hb : bitI s p
  · rw [if_pos ⟨⟨by omega, by omega⟩, hb⟩, if_pos hb]
  · rw [if_neg (fun q => hb q.2), if_neg hb, cp_lt hp]
/-- an answer that may be none -/
def enc (a : Option Nat) : Int32 := match a with
  | none => -1000000
  | some p => nI p
theorem i_nn {p : Nat} (h : p < 2 ^ 31) : (nI p = -1000000) = False := by
  refine eq_false (fun e => ?_)
  have := congrArg Int32.toInt e
  rw [nI_toInt h] at this
  have h2 : (-1000000 : Int32).toInt = -1000000 := by decide
  omega
theorem enc_n {a : Option Nat} (h : ∀ p, a = some p → p < 2 ^ 31) : (enc a = -1000000) = (a = none) := by
  cases a with
  | none => simp [enc]
  | some p => simp [enc, i_nn (h p rfl)]
/-- cheapestOf -/
def chS (ρ : Nat → Int32) (T : Nat) (op : Int32) (h : Nat) (a : Option Nat) : Option Nat := if bitI op h ∧ (a = none ∨ sumI ρ (rH ρ h) T < sumI ρ (rH ρ (a.getD 0)) T) then some h else a
def chI (ρ : Nat → Int32) (op : Int32) (T Hn : Nat) : Option Nat := fld (chS ρ T op) Hn 0 none
theorem chS_lt {ρ : Nat → Int32} {T : Nat} {op : Int32} : ∀ (n p : Nat) (a : Option Nat), (∀ q, a = some q → q < p) → ∀ q, fld (chS ρ T op) n p a = some q → q < p + n := by
  intro n
  induction n with
  | zero => intro p a h q hq; exact h q hq
  | succ n ih =>
    intro p a h q hq
    rw [fld_s] at hq
    have := ih (p + 1) _ (fun r hr => ?_) q hq
    · omega
    · unfold chS at hr
      split at hr
      · cases hr; omega
      · have := h r hr; omega
theorem l191 {day op : Int32} (h : MB X T Hn) : ∀ (n p : Nat) (a : Option Nat) (l5 : Option Value), p + n = Hn → (∀ q, a = some q → q < p) → (wp (d + 4) 191 12 [some (.ref 51), some (.int day), some (.int op), some (.int (enc a)), some (.int (nI p)), l5] [] (hp X R TH N) 0 Q ↔ Q (some (.int (enc (fld (chS (X 55) T op) n p a)))) (hp X R TH N)) := by
  have h' := h
  obtain ⟨hb, hT, h8, hH, hH8⟩ := h
  intro n
  induction n with
  | zero =>
    intro p a l5 hp0 ha
    obtain rfl : p = Hn := by omega
    rw [H191_12]
    simp only [S191, G51, gt2 hb, px_op_some, px_op_none, tl_some, tl_none, ap_one, ap_nil, z01, o01, true_and, and_true, true_or, or_true, i10, i01, if_true, if_false, eq_self, hH, i_nI_le, fld_0]
  | succ n ih =>
    intro p a l5 hp0 ha
    have hp8 : p < 8 := by omega
    rw [H191_12, fld_s]
    have hlt : (nI Hn ≤ nI p) = False := i_nI_lt (by omega) (by omega)
    have e1 : enc (some p) = nI p := rfl
    have ih1 := fun l5 => ih (p + 1) (some p) l5 (by omega) (fun q hq => by cases hq; omega)
    rw [e1] at ih1
    cases a with
    | none =>
      have ih0 := fun l5 => ih (p + 1) none l5 (by omega) (fun q hq => by cases hq)
      simp only [S191, G51, gt2 hb, gtH hb hp8, t180 h', px_op_some, px_op_none, tl_some, tl_none, ap_one, ap_nil, z01, o01, true_and, and_true, true_or, or_true, i10, i01, if_true, if_false, eq_self, hH, hlt, nI_1, enc, ih1]
      simp only [enc] at ih0
      simp only [ih0, chS]
      by_cases h1 : op >>> (nI p &&& 31) &&& 1 = 1
      · simp [h1, bitI]
      · simp [h1, bitI]
    | some q =>
      have hq : q < p := ha q rfl
      have ih0 := fun l5 => ih (p + 1) (some q) l5 (by omega) (fun r hr => by cases hr; omega)
      have hqn : (nI q = -1000000) = False := i_nn (by omega)
      simp only [S191, G51, gt2 hb, gtH hb hp8, gtH hb (show q < 8 by omega), t180 h', px_op_some, px_op_none, tl_some, tl_none, ap_one, ap_nil, z01, o01, true_and, and_true, true_or, or_true, i10, i01, if_true, if_false, eq_self, hH, hlt, nI_1, enc, hqn, ih1]
      simp only [enc] at ih0
      simp only [ih0, chS]
      by_cases h1 : op >>> (nI p &&& 31) &&& 1 = 1
      · by_cases h2 : sumI (X 55) (rH (X 55) p) T < sumI (X 55) (rH (X 55) q) T
        · have h3 : ¬ sumI (X 55) (rH (X 55) q) T ≤ sumI (X 55) (rH (X 55) p) T := by rw [Int32.not_le]; exact h2
          simp [h1, h2, h3, bitI]
        · have h3 : sumI (X 55) (rH (X 55) q) T ≤ sumI (X 55) (rH (X 55) p) T := Int32.not_lt.mp h2
          simp [h1, h2, h3, bitI]
      · simp [h1, bitI]
theorem t191 {day : Int32} (h : MB X T Hn) : wc (d + 4) 191 [.ref 51, .int day] (hp X R TH N) Q ↔ Q (some (.int (enc (chI (X 55) (openI (X 55) (X 59) day (X 55 0) T Hn) T Hn)))) (hp X R TH N) := by
  simp only [S191, G51, t170' h, px_op_some, px_op_none, tl_some, tl_none, ap_one, ap_nil, z01, o01, true_and, and_true, true_or, or_true, i10, i01, if_true, if_false, eq_self]
  exact l191 h Hn 0 none _ (by omega) (fun q hq => by cases hq)
end M4
