/-! the class: a realm's reads -/
theorem and1 (x : Int32) : x &&& 1 = 0 ∨ x &&& 1 = 1 := by
  have h := pk_and x (m := 1) 1 (by decide)
  rw [h]
  have : x.toBitVec.toNat % 2 ^ 1 = 0 ∨ x.toBitVec.toNat % 2 ^ 1 = 1 := by omega
  rcases this with e | e
  · rw [e]; exact Or.inl rfl
  · rw [e]; exact Or.inr rfl
theorem bit0 : ∀ t : Nat, t < 8 → ¬ bitI 0 t := by decide
theorem shl0 : ∀ t : Nat, t < 8 → (0 : Int32) <<< (nI t &&& 31) = 0 := by decide
theorem i_mul1 (x : Int32) : 1 * x = x := Int32.one_mul x
theorem i_mul0 (x : Int32) : 0 * x = 0 := Int32.zero_mul
theorem i_add0 (x : Int32) : x + 0 = x := Int32.add_zero x
/-- a day's end by the class's words and by the reference's -/
def OV (ρ : Nat → Int32) (T : Nat) (day term : Int32) : Prop := ∀ t, t < T → ¬ rS ρ t = -1000000 → (day < rS ρ t + term ↔ day ≤ rS ρ t + term - 1)
section C3
variable {d : Nat} {X : hX} {R : hR} {TH : hT} {N r T Hn : Nat} {ρ : Nat → Int32} {Q : Option Value → px_H → Prop}
theorem t58_0 {day term : Int32} (h : isRealm r) (hr : RR X R TH r ρ T Hn) (hov : OV ρ T day term) : wc (d + 1) 58 [.ref r, .int day, .int term, .int 0] (hp X R TH N) Q ↔ Q (some (.int (bndI ρ (rS ρ) day term T))) (hp X R TH N) :=
  t58 h hr (rS ρ) (fun t ht => by rw [if_neg (bit0 t (by have := hr.2.2.2.1; omega))]) hov
theorem t57 {day : Int32} (h : isRealm r) (hr : RR X R TH r ρ T Hn) (hov : OV ρ T day (ρ 0)) : wc (d + 2) 57 [.ref r, .int day] (hp X R TH N) Q ↔ Q (some (.int (bndI ρ (rS ρ) day (ρ 0) T))) (hp X R TH N) := by
  simp only [S57, GRealm h, hr.1, t58_0 h hr hov, px_op_some, px_op_none, tl_some, tl_none, ap_one, ap_nil, z01, o01, true_and, and_true, true_or, or_true, i10, i01, if_true, if_false, eq_self]
theorem t59 {day : Int32} (h : isRealm r) (hr : RR X R TH r ρ T Hn) (hov : OV ρ T day (ρ 0)) : wc (d + 2) 59 [.ref r, .int day] (hp X R TH N) Q ↔ Q (some (.int (openI ρ (rS ρ) day (ρ 0) T Hn))) (hp X R TH N) := by
  simp only [S59, GRealm h, hr.1, t58_0 h hr hov, t60 h hr, px_op_some, px_op_none, tl_some, tl_none, ap_one, ap_nil, z01, o01, true_and, and_true, true_or, or_true, i10, i01, if_true, if_false, eq_self]
  rfl
/-- priceOf -/
theorem l61 {s : Int32} (h : isRealm r) (hr : RR X R TH r ρ T Hn) : ∀ (n p : Nat) (a : Int32), p + n = T → (wp d 61 4 [some (.ref r), some (.int s), some (.int a), some (.int (nI p))] [] (hp X R TH N) 0 Q ↔ Q (some (.int (fld (sumS ρ s) n p a))) (hp X R TH N)) := by
  obtain ⟨-, hT, -, h8, -, -, -, -, -, ht, -⟩ := hr
  intro n
  induction n with
  | zero =>
    intro p a hp0
    obtain rfl : p = T := by omega
    rw [H61_4]
    simp only [S61, GRealm h, px_op_some, px_op_none, tl_some, tl_none, ap_one, ap_nil, z01, o01, true_and, and_true, true_or, or_true, i10, i01, if_true, if_false, eq_self, hT, i_nI_le, fld_0]
  | succ n ih =>
    intro p a hp0
    have ih' := fun a => ih (p + 1) a (by omega)
    have e8 : ((8 : Int32) ≤ nI p) = False := i_nI_lt (T := 8) (by omega) (by decide)
    obtain ⟨q, κ, hq, hth, hk, hs⟩ := ht p (by omega)
    have er : va_rf (some q) = .ref q := rfl
    rw [H61_4, fld_s]
    simp only [S61, GRealm h, px_op_some, px_op_none, tl_some, tl_none, ap_one, ap_nil, z01, o01, true_and, and_true, true_or, or_true, i10, i01, if_true, if_false, eq_self, hT, i_nI_lt (show p < T by omega) (show T < 2 ^ 31 by omega), e8, rg1 h (show p < 8 by omega), hq, er, th_fld hth, nI_1, ih', sumS]
    rcases and1 (s >>> (nI p &&& 31)) with e | e
    · rw [e, i_mul0, i_add0, if_neg (by decide)]
    · rw [e, i_mul1, if_pos rfl]
theorem t61 {s : Int32} (h : isRealm r) (hr : RR X R TH r ρ T Hn) : wc d 61 [.ref r, .int s] (hp X R TH N) Q ↔ Q (some (.int (sumI ρ s T))) (hp X R TH N) := by
  simp only [S61, px_op_some, px_op_none, tl_some, tl_none, ap_one, ap_nil, z01, o01, true_and, and_true, true_or, or_true, i10, i01, if_true, if_false, eq_self]
  exact l61 h hr T 0 0 (by omega)
/-- harmsWith -/
theorem l65 {s : Int32} (h : isRealm r) (hr : RR X R TH r ρ T Hn) : ∀ (n p : Nat) (a : Int32), p + n = Hn → (wp d 65 4 [some (.ref r), some (.int s), some (.int a), some (.int (nI p))] [] (hp X R TH N) 0 Q ↔ Q (some (.int (fld (inhS ρ s) n p a))) (hp X R TH N)) := by
  obtain ⟨-, -, -, -, hH, -, h8, -, -, -, hh⟩ := hr
  intro n
  induction n with
  | zero =>
    intro p a hp0
    obtain rfl : p = Hn := by omega
    rw [H65_4]
    simp only [S65, GRealm h, px_op_some, px_op_none, tl_some, tl_none, ap_one, ap_nil, z01, o01, true_and, and_true, true_or, or_true, i10, i01, if_true, if_false, eq_self, hH, i_nI_le, fld_0]
  | succ n ih =>
    intro p a hp0
    have ih' := fun a => ih (p + 1) a (by omega)
    have e8 : ((8 : Int32) ≤ nI p) = False := i_nI_lt (T := 8) (by omega) (by decide)
    rw [H65_4, fld_s]
    simp only [S65, GRealm h, px_op_some, px_op_none, tl_some, tl_none, ap_one, ap_nil, z01, o01, true_and, and_true, true_or, or_true, i10, i01, if_true, if_false, eq_self, hH, i_nI_lt (show p < Hn by omega) (show Hn < 2 ^ 31 by omega), e8, rg3 h (show p < 8 by omega), hh p (by omega), nI_1, ih', inhS]
theorem t65 {s : Int32} (h : isRealm r) (hr : RR X R TH r ρ T Hn) : wc d 65 [.ref r, .int s] (hp X R TH N) Q ↔ Q (some (.int (inhI ρ s Hn))) (hp X R TH N) := by
  simp only [S65, px_op_some, px_op_none, tl_some, tl_none, ap_one, ap_nil, z01, o01, true_and, and_true, true_or, or_true, i10, i01, if_true, if_false, eq_self]
  exact l65 h hr Hn 0 0 (by omega)
/-- toldAs -/
theorem l64 {s : Int32} (h : isRealm r) (hr : RR X R TH r ρ T Hn) : ∀ (n p : Nat) (a : Int32), p + n = T → (wp (d + 1) 64 4 [some (.ref r), some (.int s), some (.int a), some (.int (nI p))] [] (hp X R TH N) 0 Q ↔ Q (some (.int (fld (ofkS ρ s) n p a))) (hp X R TH N)) := by
  obtain ⟨-, hT, -, h8, -, -, -, -, -, ht, -⟩ := hr
  intro n
  induction n with
  | zero =>
    intro p a hp0
    obtain rfl : p = T := by omega
    rw [H64_4]
    simp only [S64, GRealm h, px_op_some, px_op_none, tl_some, tl_none, ap_one, ap_nil, z01, o01, true_and, and_true, true_or, or_true, i10, i01, if_true, if_false, eq_self, hT, i_nI_le, fld_0]
  | succ n ih =>
    intro p a hp0
    have ih' := fun a => ih (p + 1) a (by omega)
    have e8 : ((8 : Int32) ≤ nI p) = False := i_nI_lt (T := 8) (by omega) (by decide)
    obtain ⟨q, κ, hq, hth, hk, hs⟩ := ht p (by omega)
    have er : va_rf (some q) = .ref q := rfl
    rw [H64_4, fld_s]
    simp only [S64, GRealm h, px_op_some, px_op_none, tl_some, tl_none, ap_one, ap_nil, z01, o01, true_and, and_true, true_or, or_true, i10, i01, if_true, if_false, eq_self, hT, i_nI_lt (show p < T by omega) (show T < 2 ^ 31 by omega), e8, rg1 h (show p < 8 by omega), hq, er, v_told hth, nI_1, ih', ofkS, hk]
    rcases and1 (s >>> ((nI κ - 1) &&& 31)) with e | e
    · rw [e, shl0 p (by omega), i_or0, if_neg (by decide)]
    · rw [e, if_pos rfl]
theorem t64 {s : Int32} (h : isRealm r) (hr : RR X R TH r ρ T Hn) : wc (d + 1) 64 [.ref r, .int s] (hp X R TH N) Q ↔ Q (some (.int (ofkI ρ s T))) (hp X R TH N) := by
  simp only [S64, px_op_some, px_op_none, tl_some, tl_none, ap_one, ap_nil, z01, o01, true_and, and_true, true_or, or_true, i10, i01, if_true, if_false, eq_self]
  exact l64 h hr T 0 0 (by omega)
/-- places -/
theorem ltT {x : Int32} {T : Nat} (h8 : T ≤ 8) : (0 ≤ x ∧ x < nI T) ↔ ∃ p, p < T ∧ x = nI p := by
  constructor
  · rintro ⟨h0, h1⟩
    obtain ⟨j, hj, rfl⟩ := i_of h0 h1 (by omega)
    exact ⟨j, hj, rfl⟩
  · rintro ⟨p, hp, rfl⟩
    exact ⟨nI_pos' (by omega), nI_lt hp (by omega)⟩
theorem inlt {x : Int32} {T : Nat} (h8 : T ≤ 8) : (0 ≤ x ∧ x ≤ nI T - 1) = (0 ≤ x ∧ x < nI T) := propext ((inT h8).trans (ltT h8).symm)
theorem t47 {p : Nat} (h : isRealm r) (hr : RR X R TH r ρ T Hn) (hp8 : p < T) : wc d 47 [.ref r, .int (nI p)] (hp X R TH N) Q ↔ Q (some (va_rf (R (r + 1) p))) (hp X R TH N) := by
  have h8 := hr.2.2.2.1
  obtain ⟨q, κ, hq, -⟩ := hr.2.2.2.2.2.2.2.2.2.1 p hp8
  have e0 : (nI p < 0) = False := eq_false (nI_pos (by omega))
  have e8 : ((8 : Int32) ≤ nI p) = False := i_nI_lt (T := 8) (by omega) (by decide)
  have er : va_rf (some q) = .ref q := rfl
  simp only [S47, GRealm h, px_op_some, px_op_none, tl_some, tl_none, ap_one, ap_nil, z01, o01, true_and, and_true, true_or, or_true, i10, i01, if_true, if_false, eq_self, hr.2.1, e0, e8, i_nI_lt hp8 (show T < 2 ^ 31 by omega), rg1 h (show p < 8 by omega), hq, er]
theorem t47n {x : Int32} (h : isRealm r) (hr : RR X R TH r ρ T Hn) (hx : ¬ (0 ≤ x ∧ x < nI T)) : wc d 47 [.ref r, .int x] (hp X R TH N) Q ↔ Q (some .null) (hp X R TH N) := by
  simp only [S47, GRealm h, px_op_some, px_op_none, tl_some, tl_none, ap_one, ap_nil, z01, o01, true_and, and_true, true_or, or_true, i10, i01, if_true, if_false, eq_self, hr.2.1]
  by_cases h0 : x < 0
  · simp only [h0, if_true]
  · have h1 : nI T ≤ x := Int32.not_lt.mp (fun z => hx ⟨Int32.not_lt.mp h0, z⟩)
    simp only [h0, h1, if_true, if_false]
theorem t48 {p : Nat} (h : isRealm r) (hr : RR X R TH r ρ T Hn) (hp8 : p < T) : wc d 48 [.ref r, .int (nI p)] (hp X R TH N) Q ↔ Q (some (.int (rS ρ p))) (hp X R TH N) := by
  have h8 := hr.2.2.2.1
  obtain ⟨q, κ, -, -, -, hs⟩ := hr.2.2.2.2.2.2.2.2.2.1 p hp8
  have e0 : (nI p < 0) = False := eq_false (nI_pos (by omega))
  have e8 : ((8 : Int32) ≤ nI p) = False := i_nI_lt (T := 8) (by omega) (by decide)
  simp only [S48, GRealm h, px_op_some, px_op_none, tl_some, tl_none, ap_one, ap_nil, z01, o01, true_and, and_true, true_or, or_true, i10, i01, if_true, if_false, eq_self, hr.2.1, e0, e8, i_nI_lt hp8 (show T < 2 ^ 31 by omega), rg2 h (show p < 8 by omega), hs]
theorem t48n (h : isRealm r) : wc d 48 [.ref r, .int (-1000000)] (hp X R TH N) Q ↔ Q (some (.int (-1000000))) (hp X R TH N) := by
  have e : ((-1000000 : Int32) < 0) = True := by decide
  simp only [S48, px_op_some, px_op_none, tl_some, tl_none, ap_one, ap_nil, z01, o01, true_and, and_true, true_or, or_true, i10, i01, if_true, if_false, eq_self, e]
theorem t49 {x : Int32} (h : isRealm r) (hr : RR X R TH r ρ T Hn) : wc d 49 [.ref r, .int x] (hp X R TH N) Q ↔ Q (some (.int (b2 (0 ≤ x ∧ x < nI Hn)))) (hp X R TH N) := by
  have h8 := hr.2.2.2.2.2.2.1
  simp only [S49, GRealm h, px_op_some, px_op_none, tl_some, tl_none, ap_one, ap_nil, z01, o01, true_and, and_true, true_or, or_true, i10, i01, if_true, if_false, eq_self, hr.2.2.2.2.1]
  by_cases h0 : x < 0
  · rw [b2_f (fun z => absurd z.1 (by rw [Int32.not_le]; exact h0))]
    simp only [h0, if_true]
  · by_cases h1 : nI Hn ≤ x
    · rw [b2_f (fun z => absurd z.2 (by rw [Int32.not_lt]; exact h1))]
      simp only [h0, h1, if_true, if_false]
    · have hlt : x < nI Hn := by rw [← Int32.not_le]; exact h1
      have e8 : ¬ (8 : Int32) ≤ x := by
        rw [Int32.not_le]
        obtain ⟨j, hj, rfl⟩ := i_of (Int32.not_lt.mp h0) hlt (by omega)
        exact nI_lt (b := 8) (by omega) (by decide)
      rw [b2_t ⟨Int32.not_lt.mp h0, hlt⟩]
      simp only [h0, h1, e8, if_false]
theorem t50 {p : Nat} (h : isRealm r) (hr : RR X R TH r ρ T Hn) (hp8 : p < Hn) : wc (d + 1) 50 [.ref r, .int (nI p)] (hp X R TH N) Q ↔ Q (some (.int (rH ρ p))) (hp X R TH N) := by
  have h8 := hr.2.2.2.2.2.2.1
  have e : (0 ≤ nI p ∧ nI p < nI Hn) = True := eq_true ⟨nI_pos' (by omega), nI_lt hp8 (by omega)⟩
  simp only [S50, GRealm h, t49 h hr, px_op_some, px_op_none, tl_some, tl_none, ap_one, ap_nil, z01, o01, true_and, and_true, true_or, or_true, i10, i01, if_true, if_false, eq_self, b2_0, e, not_true_eq_false, rg3 h (show p < 8 by omega), hr.2.2.2.2.2.2.2.2.2.2 p hp8]
end C3
