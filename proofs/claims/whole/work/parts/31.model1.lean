/-! the reference: who is bound, what is open -/
/-- an oath of o holds on a day, by a term (the reference's words) -/
abbrev holdI (o day term : Int32) : Prop := ¬ o = -1000000 ∧ o ≤ day ∧ day ≤ o + term - 1
abbrev isBI (k o day term set : Int32) (p : Nat) : Prop := holdI o day term ∧ ¬ k = 5 ∧ (¬ k = 2 ∨ p = 0 ∨ set >>> ((nI p - 1) &&& 31) &&& 1 = 1)
def bndS (kd : Nat → Int32) (o : Nat → Int32) (day term : Int32) (p : Nat) (a : Int32) : Int32 := if isBI (kd p) (o p) day term a p then a ||| (1 <<< (nI p &&& 31)) else a
def opnS (hm : Nat → Int32) (b : Int32) (h : Nat) (a : Int32) : Int32 := if hm h &&& b = 0 then a ||| (1 <<< (nI h &&& 31)) else a
/-- the parts of a realm, out of its row of numbers -/
def rK (ρ : Nat → Int32) (p : Nat) : Int32 := ρ (5 + 4 * p)
def rF (ρ : Nat → Int32) (p : Nat) : Int32 := ρ (5 + 4 * p + 1)
def rP (ρ : Nat → Int32) (p : Nat) : Int32 := ρ (5 + 4 * p + 2)
def rS (ρ : Nat → Int32) (p : Nat) : Int32 := ρ (5 + 4 * p + 3)
def rH (ρ : Nat → Int32) (h : Nat) : Int32 := ρ (37 + h)
/-- the first n places of an array become those of another -/
def cp (f g : Nat → Int32) (n : Nat) : Nat → Int32 := fun j => if j < n then f j else g j
theorem cp_0 (f g : Nat → Int32) : cp f g 0 = g := funext fun j => if_neg (Nat.not_lt_zero j)
theorem cp_s (f g : Nat → Int32) (n : Nat) : upd (cp f g n) n (f n) = cp f g (n + 1) := by
  funext j
  unfold upd cp
  by_cases h : j = n
  · subst h; simp
  · have : (j < n + 1) = (j < n) := propext (by omega)
    simp [h, this]
theorem upA_upA (X : hX) (p : Nat) (f g : Nat → Int32) : upA (upA X p f) p g = upA X p g := by
  funext q
  unfold upA
  split <;> rfl
theorem upA_id (X : hX) (p : Nat) : upA X p (X p) = X := by
  funext q
  unfold upA
  split
  · subst_vars; rfl
  · rfl
theorem upA_comm {X : hX} {p q : Nat} {f g : Nat → Int32} (h : p ≠ q) : upA (upA X p f) q g = upA (upA X q g) p f := by
  funext r
  unfold upA
  by_cases h1 : r = p <;> by_cases h2 : r = q <;> simp_all
theorem i_or0 (x : Int32) : x ||| 0 = x := by
  apply Int32.toBitVec_inj.mp
  simp
section M3
variable {d : Nat} {X : hX} {R : hR} {TH : hT} {N T Hn : Nat} {w : px_H} {Q : Option Value → px_H → Prop}
theorem l167 (hb : X 51 5 = 0) (hT : X 55 1 = nI T) (h8 : T ≤ 8) (f : Nat → Int32) : ∀ (n p : Nat), p + n = T → (wp (d + 2) 167 2 [some (.ref 51), some (.int (nI p))] [] (hp (upA X 59 (cp (rS (X 55)) f p)) R TH N) 0 Q ↔ Q none (hp (upA X 59 (cp (rS (X 55)) f T)) R TH N)) := by
  intro n
  induction n with
  | zero =>
    intro p hp0
    obtain rfl : p = T := by omega
    have hb' : (upA X 59 (cp (rS (X 55)) f p)) 51 5 = 0 := by rw [upA_n (by decide)]; exact hb
    rw [H167_2]
    simp only [S167, G51, gt1 hb', px_op_some, px_op_none, tl_some, tl_none, ap_one, ap_nil, z01, o01, true_and, and_true, true_or, or_true, i10, i01, if_true, if_false, eq_self, upA_s, upA_n, upd_s, upd_n, ne_eq, Nat.reduceEqDiff, not_false_eq_true, hT]
    rw [if_pos (Int32.le_refl _)]
  | succ n ih =>
    intro p hp0
    have hb' : (upA X 59 (cp (rS (X 55)) f p)) 51 5 = 0 := by rw [upA_n (by decide)]; exact hb
    have hp8 : p < 8 := by omega
    rw [H167_2]
    simp only [S167, G51, gt1 hb', of3 hb' hp8, A59_p hp8, px_op_some, px_op_none, tl_some, tl_none, ap_one, ap_nil, z01, o01, true_and, and_true, true_or, or_true, i10, i01, if_true, if_false, eq_self, upA_s, upA_n, upd_s, upd_n, ne_eq, Nat.reduceEqDiff, not_false_eq_true, hT]
    rw [if_neg (by rw [Int32.not_le]; exact nI_lt (by omega) (by omega)), upA_upA, nI_1, ← ih (p + 1) (by omega), ← cp_s]
    rfl
/-- asSworn -/
theorem t167 (hb : X 51 5 = 0) (hT : X 55 1 = nI T) (h8 : T ≤ 8) : wc (d + 2) 167 [.ref 51] (hp X R TH N) Q ↔ Q none (hp (upA X 59 (cp (rS (X 55)) (X 59) T)) R TH N) := by
  have := l167 (d := d) (R := R) (TH := TH) (N := N) (Q := Q) hb hT h8 (X 59) T 0 (by omega)
  rw [cp_0, upA_id] at this
  rw [← this]
  simp only [S167, px_op_some, px_op_none, tl_some, tl_none, ap_one, ap_nil, z01, o01, true_and, and_true, true_or, or_true, i10, i01, if_true, if_false, eq_self]
  rfl
theorem l168 {day term : Int32} (hb : X 51 5 = 0) (hT : X 55 1 = nI T) (h8 : T ≤ 8) : ∀ (n p : Nat) (a : Int32) (l5 l6 l7 : Option Value), p + n = T → (wp (d + 2) 168 5 [some (.ref 51), some (.int day), some (.int term), some (.int a), some (.int (nI p)), l5, l6, l7] [] (hp X R TH N) 0 Q ↔ Q (some (.int (fld (bndS (rK (X 55)) (X 59) day term) n p a))) (hp X R TH N)) := by
  intro n
  induction n with
  | zero =>
    intro p a l5 l6 l7 hp0
    obtain rfl : p = T := by omega
    rw [H168_5]
    simp only [S168, G51, gt1 hb, px_op_some, px_op_none, tl_some, tl_none, ap_one, ap_nil, z01, o01, true_and, and_true, true_or, or_true, i10, i01, if_true, if_false, eq_self, upA_s, upA_n, upd_s, upd_n, ne_eq, Nat.reduceEqDiff, not_false_eq_true, hT, i_nI_le, fld_0]
  | succ n ih =>
    intro p a l5 l6 l7 hp0
    have hp8 : p < 8 := by omega
    have ih' := fun a l5 l6 l7 => ih (p + 1) a l5 l6 l7 (by omega)
    rw [H168_5]
    simp only [S168, G51, gt1 hb, of0 hb hp8, A59_g hp8, t140, px_op_some, px_op_none, tl_some, tl_none, ap_one, ap_nil, z01, o01, true_and, and_true, true_or, or_true, i10, i01, if_true, if_false, eq_self, upA_s, upA_n, upd_s, upd_n, ne_eq, Nat.reduceEqDiff, not_false_eq_true, hT, b2_0, nI_1, i_nI_lt (show p < T by omega) (show T < 2 ^ 31 by omega), ih', nI_0i (show p < 2 ^ 31 by omega), i_or0, fld_s, bndS, rK, isBI, holdI]
    by_cases h1 : X 59 p = -1000000
    · simp [h1]
    by_cases h2 : X 59 p ≤ day ∧ day ≤ X 59 p + term - 1
    · by_cases h3 : X 55 (5 + 4 * p) = 5
      · simp [h1, h2, h3]
      · by_cases h4 : X 55 (5 + 4 * p) = 2
        · by_cases h5 : p = 0
          · subst h5
            simp only [Nat.mul_zero, Nat.add_zero] at h3 h4 ⊢
            simp [h1, h2, h4]
          · by_cases h6 : a >>> (nI p - 1 &&& 31) &&& 1 = 1
            · simp [h1, h2, h4, h5, h6]
            · simp [h1, h2, h4, h5, h6]
        · simp [h1, h2, h3, h4]
    · simp [h1, h2]
/-- boundOn -/
def bndI (ρ o : Nat → Int32) (day term : Int32) (T : Nat) : Int32 := fld (bndS (rK ρ) o day term) T 0 0
theorem t168 {day term : Int32} (hb : X 51 5 = 0) (hT : X 55 1 = nI T) (h8 : T ≤ 8) : wc (d + 2) 168 [.ref 51, .int day, .int term] (hp X R TH N) Q ↔ Q (some (.int (bndI (X 55) (X 59) day term T))) (hp X R TH N) := by
  simp only [S168, px_op_some, px_op_none, tl_some, tl_none, ap_one, ap_nil, z01, o01, true_and, and_true, true_or, or_true, i10, i01, if_true, if_false, eq_self]
  exact l168 hb hT h8 T 0 0 _ _ _ (by omega)
/-- openBy -/
theorem l169 {b : Int32} (hb : X 51 5 = 0) (hT : X 55 2 = nI Hn) (h8 : Hn ≤ 8) : ∀ (n p : Nat) (a : Int32), p + n = Hn → (wp (d + 1) 169 4 [some (.ref 51), some (.int b), some (.int a), some (.int (nI p))] [] (hp X R TH N) 0 Q ↔ Q (some (.int (fld (opnS (rH (X 55)) b) n p a))) (hp X R TH N)) := by
  intro n
  induction n with
  | zero =>
    intro p a hp0
    obtain rfl : p = Hn := by omega
    rw [H169_4]
    simp only [S169, G51, gt2 hb, px_op_some, px_op_none, tl_some, tl_none, ap_one, ap_nil, z01, o01, true_and, and_true, true_or, or_true, i10, i01, if_true, if_false, eq_self, upA_s, upA_n, upd_s, upd_n, ne_eq, Nat.reduceEqDiff, not_false_eq_true, hT, i_nI_le, fld_0]
  | succ n ih =>
    intro p a hp0
    have hp8 : 37 + p < 180 := by omega
    have ih' := fun a => ih (p + 1) a (by omega)
    have hg := fun Q => t149 (d := d) (R := R) (TH := TH) (N := N) (Q := Q) (k := 37 + p) (x := 37 + nI p) hb (by rw [show (37 : Int32) = nI 37 from rfl, nI_add]) hp8
    rw [H169_4]
    simp only [S169, G51, gt2 hb, hg, px_op_some, px_op_none, tl_some, tl_none, ap_one, ap_nil, z01, o01, true_and, and_true, true_or, or_true, i10, i01, if_true, if_false, eq_self, upA_s, upA_n, upd_s, upd_n, ne_eq, Nat.reduceEqDiff, not_false_eq_true, hT, nI_1, i_nI_lt (show p < Hn by omega) (show Hn < 2 ^ 31 by omega), ih', i_or0, fld_s, opnS, rH]
    by_cases h1 : X 55 (37 + p) &&& b = 0
    · simp [h1]
    · simp [h1]
def opnI (ρ : Nat → Int32) (b : Int32) (Hn : Nat) : Int32 := fld (opnS (rH ρ) b) Hn 0 0
theorem t169 {b : Int32} (hb : X 51 5 = 0) (hT : X 55 2 = nI Hn) (h8 : Hn ≤ 8) : wc (d + 1) 169 [.ref 51, .int b] (hp X R TH N) Q ↔ Q (some (.int (opnI (X 55) b Hn))) (hp X R TH N) := by
  simp only [S169, px_op_some, px_op_none, tl_some, tl_none, ap_one, ap_nil, z01, o01, true_and, and_true, true_or, or_true, i10, i01, if_true, if_false, eq_self]
  exact l169 hb hT h8 Hn 0 0 (by omega)
theorem t170 {day : Int32} (hb : X 51 5 = 0) (hT : X 55 1 = nI T) (h8 : T ≤ 8) (hH : X 55 2 = nI Hn) (h8' : Hn ≤ 8) : wc (d + 3) 170 [.ref 51, .int day] (hp X R TH N) Q ↔ Q (some (.int (opnI (X 55) (bndI (X 55) (X 59) day (X 55 0) T) Hn))) (hp X R TH N) := by
  simp only [S170, G51, gt0 hb, t168 hb hT h8, t169 hb hH h8', px_op_some, px_op_none, tl_some, tl_none, ap_one, ap_nil, z01, o01, true_and, and_true, true_or, or_true, i10, i01, if_true, if_false, eq_self]
theorem t171 {day : Int32} (hb : X 51 5 = 0) (hT : X 55 1 = nI T) (h8 : T ≤ 8) (hH : X 55 2 = nI Hn) (h8' : Hn ≤ 8) : wc (d + 4) 171 [.ref 51, .int day] (hp X R TH N) Q ↔ Q (some (.int (opnI (X 55) (bndI (X 55) (cp (rS (X 55)) (X 59) T) day (X 55 0) T) Hn))) (hp (upA X 59 (cp (rS (X 55)) (X 59) T)) R TH N) := by
  have hb' : (upA X 59 (cp (rS (X 55)) (X 59) T)) 51 5 = 0 := by rw [upA_n (by decide)]; exact hb
  have hT' : (upA X 59 (cp (rS (X 55)) (X 59) T)) 55 1 = nI T := by rw [upA_n (by decide)]; exact hT
  have hH' : (upA X 59 (cp (rS (X 55)) (X 59) T)) 55 2 = nI Hn := by rw [upA_n (by decide)]; exact hH
  simp only [S171, G51, t167 hb hT h8, t170 hb' hT' h8 hH' h8', px_op_some, px_op_none, tl_some, tl_none, ap_one, ap_nil, z01, o01, true_and, and_true, true_or, or_true, i10, i01, if_true, if_false, eq_self, upA_s, upA_n, upd_s, upd_n, ne_eq, Nat.reduceEqDiff, not_false_eq_true]
end M3
