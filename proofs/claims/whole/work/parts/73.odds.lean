/-! the odds: powers, shared divisors; the reference's odds -/
def powI (b : Int32) (e : Nat) : Int32 := fld (fun _ a => a * b) e 0 1
theorem fld_k {α : Type} (g : α → α) : ∀ (n p q : Nat) (a : α), fld (fun _ a => g a) n p a = fld (fun _ a => g a) n q a := by
  intro n
  induction n with
  | zero => intro p q a; rfl
  | succ n ih => intro p q a; rw [fld_s, fld_s]; exact ih _ _ _
def gdC : Nat → Int32 → Int32 → Int32
  | 0, _, hi => hi
  | n + 1, lo, hi => if lo = 0 then hi else gdC n (hi - hi / lo * lo) lo
def gdR : Nat → Int32 → Int32 → Option Int32
  | 0, _, _ => none
  | n + 1, a, b => if b = 0 then some a else gdR n b (a - a / b * b)
def odB (e : Nat) : Int32 := powI 10 e
def odA (e : Nat) (c : Int32) : Int32 := powI 10 e - powI c e
def odG (e : Nat) (c : Int32) : Int32 := if 1 < gdC 64 (odA e c) (odB e) then gdC 64 (odA e c) (odB e) else 1
def odR (e : Nat) (c : Int32) : Bool := match gdR 64 (odA e c) (odB e) with
  | some g => decide (¬ g = 0 ∧ odA e c / g = odA e c / odG e c ∧ odB e / g = odB e / odG e c)
  | none => false
theorem od_all : ∀ e : Nat, e < 9 → ∀ c : Nat, c < 11 → odR e (nI c) = true := by decide +kernel
theorem od_g : ∀ e : Nat, e < 9 → ∀ c : Nat, c < 11 → ¬ odG e (nI c) = 0 := by decide +kernel
theorem many_e : ∀ m : Nat, m < 256 → ∃ e, e < 9 ∧ manyI (nI m) = nI e := by
  have h : ∀ m : Nat, m < 256 → (manyI (nI m)).toNatClampNeg < 9 ∧ manyI (nI m) = nI (manyI (nI m)).toNatClampNeg := by decide +kernel
  exact fun m hm => ⟨_, (h m hm).1, (h m hm).2⟩
theorem and_small {j : Nat} (h : j < 256) (b : Int32) : ∃ m, m < 256 ∧ nI j &&& b = nI m := by
  refine ⟨j &&& b.toBitVec.toNat, Nat.lt_of_le_of_lt Nat.and_le_left h, ?_⟩
  apply Int32.toBitVec_inj.mp
  apply BitVec.eq_of_toNat_eq
  rw [Int32.toBitVec_and, BitVec.toNat_and, nI_bv, nI_bv, BitVec.toNat_ofNat, BitVec.toNat_ofNat, Nat.mod_eq_of_lt (Nat.lt_trans h (by decide)), Nat.mod_eq_of_lt (Nat.lt_of_le_of_lt Nat.and_le_left (Nat.lt_trans h (by decide)))]
section C23
variable {d : Nat} {X : hX} {R : hR} {TH : hT} {N T Hn e : Nat} {w : px_H} {Q : Option Value → px_H → Prop}
theorem l137 {b : Int32} (he : e < 100) : ∀ (n k : Nat) (a : Int32), k + n = e → (wp d 137 4 [some (.int b), some (.int (nI e)), some (.int a), some (.int (nI k))] [] w 0 Q ↔ Q (some (.int (fld (fun _ a => a * b) n k a))) w) := by
  intro n
  induction n with
  | zero =>
    intro k a hk
    obtain rfl : k = e := by omega
    rw [H137_4]
    simp only [S137, i_nI_le, px_op_some, px_op_none, tl_some, tl_none, ap_one, ap_nil, z01, o01, true_and, and_true, true_or, or_true, i10, i01, if_true, if_false, eq_self, fld_0]
  | succ n ih =>
    intro k a hk
    have ih' := fun a => ih (k + 1) a (by omega)
    have hlt : (nI e ≤ nI k) = False := i_nI_lt (by omega) (by omega)
    rw [H137_4, fld_s]
    simp only [S137, hlt, nI_1, ih', px_op_some, px_op_none, tl_some, tl_none, ap_one, ap_nil, z01, o01, true_and, and_true, true_or, or_true, i10, i01, if_true, if_false, eq_self]
theorem t137 {b : Int32} (he : e < 100) : wc d 137 [.int b, .int (nI e)] w Q ↔ Q (some (.int (powI b e))) w := by
  simp only [S137, px_op_some, px_op_none, tl_some, tl_none, ap_one, ap_nil, z01, o01, true_and, and_true, true_or, or_true, i10, i01, if_true, if_false, eq_self]
  exact l137 he e 0 1 (by omega)
theorem l138 {a b : Option Value} : ∀ (n k : Nat) (lo hi : Int32) (l5 : Option Value), k + n = 64 → (wp d 138 7 [a, b, some (.int lo), some (.int hi), some (.int (nI k)), l5] [] w 0 Q ↔ Q (some (.int (gdC n lo hi))) w) := by
  intro n
  induction n with
  | zero =>
    intro k lo hi l5 hk
    obtain rfl : k = 64 := by omega
    have e : ((64 : Int32) ≤ nI 64) = True := by decide
    rw [H138_7]
    simp only [S138, e, px_op_some, px_op_none, tl_some, tl_none, ap_one, ap_nil, z01, o01, true_and, and_true, true_or, or_true, i10, i01, if_true, if_false, eq_self]
    rfl
  | succ n ih =>
    intro k lo hi l5 hk
    have ih' := fun lo hi l5 => ih (k + 1) lo hi l5 (by omega)
    have hlt : ((64 : Int32) ≤ nI k) = False := i_nI_lt (T := 64) (by omega) (by omega)
    rw [H138_7, gdC]
    by_cases h0 : lo = 0
    · simp only [S138, hlt, h0, px_op_some, px_op_none, tl_some, tl_none, ap_one, ap_nil, z01, o01, true_and, and_true, true_or, or_true, i10, i01, if_true, if_false, eq_self]
    · simp only [S138, hlt, h0, nI_1, ih', px_op_some, px_op_none, tl_some, tl_none, ap_one, ap_nil, z01, o01, true_and, and_true, true_or, or_true, i10, i01, if_true, if_false, eq_self]
theorem t138 {a b : Int32} : wc d 138 [.int a, .int b] w Q ↔ Q (some (.int (gdC 64 a b))) w := by
  simp only [S138, px_op_some, px_op_none, tl_some, tl_none, ap_one, ap_nil, z01, o01, true_and, and_true, true_or, or_true, i10, i01, if_true, if_false, eq_self]
  exact l138 64 0 a b _ rfl
/-- odds, of the reference -/
theorem l197p {c what : Int32} {l1 l4 : Option Value} {K : Int32 → Int32 → Prop} (hK : ∀ al wr, wp (d + 3) 197 96 [some (.ref 51), l1, some (.int c), some (.int what), l4, some (.int al), some (.int wr), some (.int 0), none, none] [] w 0 Q ↔ K al wr) : ∀ (n : Nat) (al wr : Int32), n < 100 → (wp (d + 3) 197 72 [some (.ref 51), l1, some (.int c), some (.int what), l4, some (.int al), some (.int wr), some (.int (nI n)), none, none] [] w 0 Q ↔ K (fld (fun _ a => a * 10) n 0 al) (fld (fun _ a => a * c) n 0 wr)) := by
  intro n
  induction n with
  | zero =>
    intro al wr _
    have e : nI 0 = 0 := rfl
    have e2 : ((0 : Int32) ≤ 0) = True := by decide
    rw [fld_0, fld_0, ← hK, H197_72, e]
    simp only [S197, G51, e2, px_op_some, px_op_none, tl_some, tl_none, ap_one, ap_nil, z01, o01, true_and, and_true, true_or, or_true, i10, i01, if_true, if_false, eq_self]
  | succ n ih =>
    intro al wr hn
    have ih' := fun al wr => ih al wr (by omega)
    have e2 : (nI (n + 1) ≤ 0) = False := eq_false (nI_ge (a := 0) (by omega) (by omega))
    have e3 : nI (n + 1) + -1 = nI n := by rw [← nI_1 n, Int32.add_assoc, show (1 : Int32) + -1 = 0 by decide, Int32.add_zero]
    rw [H197_72, fld_s, fld_s, fld_k (fun a => a * 10) n (0 + 1) 0, fld_k (fun a => a * c) n (0 + 1) 0]
    simp only [S197, e2, e3, ih', px_op_some, px_op_none, tl_some, tl_none, ap_one, ap_nil, z01, o01, true_and, and_true, true_or, or_true, i10, i01, if_true, if_false, eq_self]
theorem l197g {what al wr : Int32} {l1 l2 l4 : Option Value} {K : Int32 → Prop} (hK : ∀ g l9, wp (d + 3) 197 130 [some (.ref 51), l1, l2, some (.int what), l4, some (.int al), some (.int wr), some (.int g), some (.int 0), l9] [] w 0 Q ↔ K g) : ∀ (n : Nat) (a b g : Int32) (l9 : Option Value), gdR n a b = some g → (wp (d + 3) 197 107 [some (.ref 51), l1, l2, some (.int what), l4, some (.int al), some (.int wr), some (.int a), some (.int b), l9] [] w 0 Q ↔ K g) := by
  intro n
  induction n with
  | zero => intro a b g l9 h; cases h
  | succ n ih =>
    intro a b g l9 h
    rw [gdR] at h
    by_cases hb : b = 0
    · rw [if_pos hb] at h
      cases h
      subst hb
      rw [← hK a l9, H197_107]
      simp only [S197, px_op_some, px_op_none, tl_some, tl_none, ap_one, ap_nil, z01, o01, true_and, and_true, true_or, or_true, i10, i01, if_true, if_false, eq_self]
    · rw [if_neg hb] at h
      have ih' := fun l9 => ih b (a - a / b * b) g l9 h
      rw [H197_107]
      simp only [S197, hb, ih', px_op_some, px_op_none, tl_some, tl_none, ap_one, ap_nil, z01, o01, true_and, and_true, true_or, or_true, i10, i01, if_true, if_false, eq_self]
def odI (e : Nat) (c what : Int32) : Int32 := if what = 0 then odA e c / odG e c else odB e / odG e c
theorem t197b {x c what : Int32} (h : MB X T Hn) (hx : ¬ ((0 ≤ x ∧ x ≤ nI Hn - 1) ∧ (0 ≤ c ∧ c ≤ 10) ∧ (0 ≤ what ∧ what ≤ 1))) : wc (d + 4) 197 [.ref 51, .int x, .int c, .int what] (hp X R TH N) Q ↔ Q (some (.int (-1000001))) (hp X R TH N) := by
  simp only [S197, G51, t153 h.1, t140, h.2.2.2.1, b2_0, px_op_some, px_op_none, tl_some, tl_none, ap_one, ap_nil, z01, o01, true_and, and_true, true_or, or_true, i10, i01, if_true, if_false, eq_self]
  by_cases h1 : 0 ≤ x ∧ x ≤ nI Hn - 1
  · by_cases h2 : 0 ≤ c ∧ c ≤ 10
    · have h3 : ¬ (0 ≤ what ∧ what ≤ 1) := fun z => hx ⟨h1, h2, z⟩
      simp only [h1, h2, h3, and_self, not_true_eq_false, not_false_eq_true, if_true, if_false]
    · simp only [h1, h2, and_self, not_true_eq_false, not_false_eq_true, if_true, if_false]
  · simp only [h1, not_false_eq_true, if_true]
theorem t197 {p c m : Nat} {what : Int32} (h : MB X T Hn) (hp8 : p < Hn) (hc : c < 11) (hw : 0 ≤ what ∧ what ≤ 1) (he : e < 9) (hb : bndI (X 55) (rS (X 55)) (X 55 3) (X 55 0) T &&& rH (X 55) p = nI m) (hm : manyI (nI m) = nI e) (hQ : ∀ f, Q (some (.int (odI e (nI c) what))) (hp (upA X 59 f) R TH N)) : wc (d + 4) 197 [.ref 51, .int (nI p), .int (nI c), .int what] (hp X R TH N) Q := by
  have h1 : (0 ≤ nI p ∧ nI p ≤ nI Hn - 1) = True := eq_true ⟨nI_pos' (by have := h.2.2.2.2; omega), by rw [nI_m1 (by omega)]; exact nI_le (by omega) (by have := h.2.2.2.2; omega)⟩
  have h2 : (0 ≤ nI c ∧ nI c ≤ 10) = True := eq_true ⟨nI_pos' (by omega), nI_le (b := 10) (by omega) (by decide)⟩
  have h8 : p < 8 := by have := h.2.2.2.2; omega
  have h' := h.up (q := 59) (f := cp (rS (X 55)) (X 59) T) (by decide) (by decide)
  have hbc : bndI (X 55) (cp (rS (X 55)) (X 59) T) (X 55 3) (X 55 0) T = bndI (X 55) (rS (X 55)) (X 55 3) (X 55 0) T := bndI_c (fun q hq => if_pos hq)
  have e37 : (37 : Int32) + nI p = nI (37 + p) := by rw [show (37 : Int32) = nI 37 from rfl, nI_add]
  have g37 := fun Q => t149 (d := d + 3) (X := upA X 59 (cp (rS (X 55)) (X 59) T)) (R := R) (TH := TH) (N := N) (Q := Q) (k := 37 + p) (x := 37 + nI p) h'.1 e37 (by omega)
  have e55 : (upA X 59 (cp (rS (X 55)) (X 59) T)) 55 (37 + p) = rH (X 55) p := by rw [upA_n (by decide)]; rfl
  simp only [S197, G51, t153 h.1, t140, h.2.2.2.1, h1, h2, hw, b2_0, and_self, not_true_eq_false, t167 h.1 h.2.1 h.2.2.1, gt3 h'.1, gt0 h'.1, t168 h'.1 h'.2.1 h'.2.2.1, g37, e55, hbc, hb, hm, t186, px_op_some, px_op_none, tl_some, tl_none, ap_one, ap_nil, z01, o01, true_and, and_true, true_or, or_true, i10, i01, if_true, if_false, eq_self, upA_s, upA_n, upd_s, upd_n, ne_eq, Nat.reduceEqDiff, not_false_eq_true]
  have hod := od_all e he c hc
  unfold odR at hod
  cases hg : gdR 64 (odA e (nI c)) (odB e) with
  | none => rw [hg] at hod; exact absurd (show false = true from hod) (by decide)
  | some g =>
    rw [hg] at hod
    obtain ⟨g0, g1, g2⟩ := of_decide_eq_true hod
    have hl := l197p (d := d + 1) (w := hp (upA X 59 (cp (rS (X 55)) (X 59) T)) R TH N) (Q := Q) (c := nI c) (what := what) (l1 := some (.int (nI p))) (l4 := some (.int (nI m))) (K := fun al wr => wp (d + 4) 197 107 [some (.ref 51), some (.int (nI p)), some (.int (nI c)), some (.int what), some (.int (nI m)), some (.int al), some (.int wr), some (.int (al - wr)), some (.int al), none] [] (hp (upA X 59 (cp (rS (X 55)) (X 59) T)) R TH N) 0 Q) (fun al wr => by
      simp only [S197, px_op_some, px_op_none, tl_some, tl_none, ap_one, ap_nil, z01, o01, true_and, and_true, true_or, or_true, i10, i01, if_true, if_false, eq_self]) e 1 1 (by omega)
    refine hl.mpr ?_
    have hl2 := l197g (d := d + 1) (w := hp (upA X 59 (cp (rS (X 55)) (X 59) T)) R TH N) (Q := Q) (what := what) (al := odB e) (wr := powI (nI c) e) (l1 := some (.int (nI p))) (l2 := some (.int (nI c))) (l4 := some (.int (nI m))) (K := fun g => px_op (if g = 0 then none else some ((if what = 0 then odB e - powI (nI c) e else odB e) / g)) (fun z => Q (some (.int z)) (hp (upA X 59 (cp (rS (X 55)) (X 59) T)) R TH N))) (fun g l9 => by
      by_cases hw0 : what = 0
      · simp only [S197, hw0, px_op_some, px_op_none, tl_some, tl_none, ap_one, ap_nil, z01, o01, true_and, and_true, true_or, or_true, i10, i01, if_true, if_false, eq_self]
      · simp only [S197, hw0, px_op_some, px_op_none, tl_some, tl_none, ap_one, ap_nil, z01, o01, true_and, and_true, true_or, or_true, i10, i01, if_true, if_false, eq_self]) 64 (odA e (nI c)) (odB e) g none hg
    refine hl2.mpr ?_
    rw [if_neg g0, px_op_some]
    have := hQ (cp (rS (X 55)) (X 59) T)
    unfold odI at this
    rw [← g1, ← g2] at this
    by_cases hw0 : what = 0
    · rw [if_pos hw0] at this ⊢
      exact this
    · rw [if_neg hw0] at this ⊢
      exact this
end C23
