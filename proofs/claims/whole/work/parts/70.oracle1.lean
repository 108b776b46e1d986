/-! the class: what is foretold -/
def OVA (ρ : Nat → Int32) (T : Nat) : Prop := ∀ day term : Int32, (∃ k, k ≤ 40 ∧ term = nI k) → OV ρ T day term
section C20
variable {d : Nat} {X : hX} {R : hR} {TH : hT} {N r T Hn D : Nat} {ρ : Nat → Int32} {Q : Option Value → px_H → Prop}
/-- firstGap -/
theorem l13 (h : isRealm r) (hr : RR X R TH r ρ T Hn) (hov : ∀ day, OV ρ T day (ρ 0)) (hD : ρ 3 = nI D) (hD9 : D ≤ 2000) : ∀ (n k : Nat), k + n = 101 → (wp (d + 3) 13 2 [some (.ref 15), some (.ref r), some (.int (nI k))] [] (hp X R TH N) 0 Q ↔ Q (some (.int (enc (frst (fun day => decide (¬ openI ρ (rS ρ) (nI day) (ρ 0) T Hn = 0)) n (D + k))))) (hp X R TH N)) := by
  have h8 : X r 8 = nI D := hr.2.2.2.2.2.2.2.1.trans hD
  intro n
  induction n with
  | zero =>
    intro k hk
    obtain rfl : k = 101 := by omega
    have e : ((100 : Int32) < nI 101) = True := by decide
    rw [H13_2]
    simp only [S13, e, px_op_some, px_op_none, tl_some, tl_none, ap_one, ap_nil, z01, o01, true_and, and_true, true_or, or_true, i10, i01, if_true, if_false, eq_self]
    rfl
  | succ n ih =>
    intro k hk
    have ih' := ih (k + 1) (by omega)
    have e : ((100 : Int32) < nI k) = False := eq_false (by rw [Int32.not_lt]; exact nI_le (b := 100) (by omega) (by decide))
    rw [H13_2]
    simp only [S13, GRealm h, e, h8, nI_add, t59 h hr (hov _), nI_1, ih', px_op_some, px_op_none, tl_some, tl_none, ap_one, ap_nil, z01, o01, true_and, and_true, true_or, or_true, i10, i01, if_true, if_false, eq_self]
    by_cases h1 : openI ρ (rS ρ) (nI (D + k)) (ρ 0) T Hn = 0
    · rw [if_pos h1, frst, if_neg (by simp [h1]), Nat.add_assoc]
    · rw [if_neg h1, frst, if_pos (by simp [h1])]
      rfl
theorem t13 (h : isRealm r) (hr : RR X R TH r ρ T Hn) (hov : ∀ day, OV ρ T day (ρ 0)) (hD : ρ 3 = nI D) (hD9 : D ≤ 2000) : wc (d + 3) 13 [.ref 15, .ref r] (hp X R TH N) Q ↔ Q (some (.int (enc (gapI ρ D T Hn)))) (hp X R TH N) := by
  have := l13 (d := d) (N := N) (Q := Q) h hr hov hD hD9 101 0 rfl
  simp only [S13, px_op_some, px_op_none, tl_some, tl_none, ap_one, ap_nil, z01, o01, true_and, and_true, true_or, or_true, i10, i01, if_true, if_false, eq_self]
  exact this
/-- leastTerm -/
theorem l24 (h : isRealm r) (hr : RR X R TH r ρ T Hn) (hov : ∀ k, k ≤ 40 → OV ρ T (ρ 3) (nI k)) : ∀ (n k : Nat), k + n = 41 → (wp (d + 3) 24 2 [some (.ref 15), some (.ref r), some (.int (nI k))] [] (hp X R TH N) 0 Q ↔ Q (some (.int (enc (frst (fun t => decide (openI ρ (rS ρ) (ρ 3) (nI t) T Hn = 0)) n k)))) (hp X R TH N)) := by
  have h8 := hr.2.2.2.2.2.2.2.1
  intro n
  induction n with
  | zero =>
    intro k hk
    obtain rfl : k = 41 := by omega
    have e : ((40 : Int32) < nI 41) = True := by decide
    rw [H24_2]
    simp only [S24, e, px_op_some, px_op_none, tl_some, tl_none, ap_one, ap_nil, z01, o01, true_and, and_true, true_or, or_true, i10, i01, if_true, if_false, eq_self]
    rfl
  | succ n ih =>
    intro k hk
    have ih' := ih (k + 1) (by omega)
    have e : ((40 : Int32) < nI k) = False := eq_false (by rw [Int32.not_lt]; exact nI_le (b := 40) (by omega) (by decide))
    have eo : opnI ρ (bndI ρ (rS ρ) (ρ 3) (nI k) T) Hn = openI ρ (rS ρ) (ρ 3) (nI k) T Hn := rfl
    rw [H24_2]
    simp only [S24, GRealm h, e, h8, t58_0 h hr (hov k (by omega)), t60 h hr, eo, nI_1, ih', px_op_some, px_op_none, tl_some, tl_none, ap_one, ap_nil, z01, o01, true_and, and_true, true_or, or_true, i10, i01, if_true, if_false, eq_self]
    by_cases h1 : openI ρ (rS ρ) (ρ 3) (nI k) T Hn = 0
    · rw [if_pos h1, frst, if_pos (by simp [h1])]
      rfl
    · rw [if_neg h1, frst, if_neg (by simp [h1])]
theorem t24 (h : isRealm r) (hr : RR X R TH r ρ T Hn) (hov : ∀ k, k ≤ 40 → OV ρ T (ρ 3) (nI k)) : wc (d + 3) 24 [.ref 15, .ref r] (hp X R TH N) Q ↔ Q (some (.int (enc (trmI ρ T Hn)))) (hp X R TH N) := by
  have := l24 (d := d) (N := N) (Q := Q) h hr hov 40 1 rfl
  simp only [S24, px_op_some, px_op_none, tl_some, tl_none, ap_one, ap_nil, z01, o01, true_and, and_true, true_or, or_true, i10, i01, if_true, if_false, eq_self]
  exact this
/-- leastKinds -/
theorem l22 (h : isRealm r) (hr : RR X R TH r ρ T Hn) : ∀ (n s : Nat) (a : Option Nat) (l4 : Option Value), s + n = 32 → (∀ q, a = some q → q < s) → (wp (d + 2) 22 5 [some (.ref 15), some (.ref r), some (.int (enc a)), some (.int (nI s)), l4] [] (hp X R TH N) 0 Q ↔ Q (some (.int (enc (fld (enS ρ T Hn) n s a)))) (hp X R TH N)) := by
  intro n
  induction n with
  | zero =>
    intro s a l4 hs ha
    obtain rfl : s = 32 := by omega
    have e : ((32 : Int32) ≤ nI 32) = True := by decide
    rw [H22_5]
    simp only [S22, e, px_op_some, px_op_none, tl_some, tl_none, ap_one, ap_nil, z01, o01, true_and, and_true, true_or, or_true, i10, i01, if_true, if_false, eq_self, fld_0]
  | succ n ih =>
    intro s a l4 hs ha
    have hlt : ((32 : Int32) ≤ nI s) = False := i_nI_lt (T := 32) (by omega) (by omega)
    rw [H22_5, fld_s]
    cases a with
    | none =>
      have k1 := fun l4 => ih (s + 1) (some s) l4 (by omega) (fun q hq => by cases hq; omega)
      have k0 := fun l4 => ih (s + 1) none l4 (by omega) (fun q hq => by cases hq)
      simp only [enc] at k1 k0
      simp only [S22, GRealm h, t64 h hr, t60 h hr, px_op_some, px_op_none, tl_some, tl_none, ap_one, ap_nil, z01, o01, true_and, and_true, true_or, or_true, i10, i01, if_true, if_false, eq_self, hlt, nI_1, enc, k1, k0, enS]
      by_cases hc : opnI ρ (ofkI ρ (nI s) T) Hn = 0
      · simp [hc]
      · simp [hc]
    | some q =>
      have hq := ha q rfl
      have hqn : (nI q = -1000000) = False := i_nn (by omega)
      have k1 := fun l4 => ih (s + 1) (some s) l4 (by omega) (fun q hq => by cases hq; omega)
      have k0 := fun l4 => ih (s + 1) (some q) l4 (by omega) (fun r hr => by cases hr; omega)
      simp only [enc] at k1 k0
      simp only [S22, GRealm h, t222 (show s < 256 by omega), t222 (show q < 256 by omega), t64 h hr, t60 h hr, px_op_some, px_op_none, tl_some, tl_none, ap_one, ap_nil, z01, o01, true_and, and_true, true_or, or_true, i10, i01, if_true, if_false, eq_self, hlt, nI_1, enc, hqn, k1, k0, enS]
      by_cases h2 : manyI (nI q) ≤ manyI (nI s)
      · have h3 : ¬ manyI (nI s) < manyI (nI q) := by rw [Int32.not_lt]; exact h2
        simp [h2, h3]
      · have h3 : manyI (nI s) < manyI (nI q) := by rw [← Int32.not_le]; exact h2
        by_cases hc : opnI ρ (ofkI ρ (nI s) T) Hn = 0
        · simp [h2, h3, hc]
        · simp [h2, h3, hc]
theorem t22 (h : isRealm r) (hr : RR X R TH r ρ T Hn) : wc (d + 2) 22 [.ref 15, .ref r] (hp X R TH N) Q ↔ Q (some (.int (enc (enI ρ T Hn)))) (hp X R TH N) := by
  have := l22 (d := d) (N := N) (Q := Q) h hr 32 0 none none rfl (fun q hq => by cases hq)
  simp only [S22, px_op_some, px_op_none, tl_some, tl_none, ap_one, ap_nil, z01, o01, true_and, and_true, true_or, or_true, i10, i01, if_true, if_false, eq_self]
  exact this
/-- willingOn -/
def wlS (ρ : Nat → Int32) (day : Int32) (p : Nat) (a : Int32) : Int32 := if ¬ rK ρ p = 3 ∨ 10 ≤ day then a ||| (1 <<< (nI p &&& 31)) else a
theorem l15 {day : Int32} (h : isRealm r) (hr : RR X R TH r ρ T Hn) : ∀ (n p : Nat) (a : Int32) (l4 : Option Value), p + n = T → (wp (d + 1) 15 4 [some (.ref r), some (.int day), some (.int a), some (.int (nI p)), l4] [] (hp X R TH N) 0 Q ↔ Q (some (.int (fld (wlS ρ day) n p a))) (hp X R TH N)) := by
  have hT := hr.2.1
  have h8 := hr.2.2.2.1
  intro n
  induction n with
  | zero =>
    intro p a l4 hp0
    obtain rfl : p = T := by omega
    rw [H15_4]
    simp only [S15, GRealm h, hT, i_nI_le, px_op_some, px_op_none, tl_some, tl_none, ap_one, ap_nil, z01, o01, true_and, and_true, true_or, or_true, i10, i01, if_true, if_false, eq_self, fld_0]
  | succ n ih =>
    intro p a l4 hp0
    have ih' := fun a l4 => ih (p + 1) a l4 (by omega)
    obtain ⟨q, κ, hq, hth, hk, hs⟩ := hr.2.2.2.2.2.2.2.2.2.1 p (by omega)
    have er : va_rf (some q) = .ref q := rfl
    have hk3 : (κ = 3) = (rK ρ p = 3) := by rw [hk]; exact (propext (nI_eq (b := 3) (by rcases hth.2.1 with z | z | z | z | z <;> omega) (by decide))).symm
    rw [H15_4, fld_s]
    simp only [S15, GRealm h, hT, i_nI_lt (show p < T by omega) (show T < 2 ^ 31 by omega), t47 h hr (show p < T by omega), hq, er, v_swears hth, hk3, b2_0, nI_1, ih', wlS, px_op_some, px_op_none, tl_some, tl_none, ap_one, ap_nil, z01, o01, true_and, and_true, true_or, or_true, i10, i01, if_true, if_false, eq_self]
    by_cases hw : ¬ rK ρ p = 3 ∨ 10 ≤ day
    · rw [if_neg (fun z : ¬ _ => z hw), if_pos hw]
    · rw [if_pos hw, if_neg hw]
theorem t15 {day : Int32} (h : isRealm r) (hr : RR X R TH r ρ T Hn) : wc (d + 1) 15 [.ref r, .int day] (hp X R TH N) Q ↔ Q (some (.int (fld (wlS ρ day) T 0 0))) (hp X R TH N) := by
  simp only [S15, px_op_some, px_op_none, tl_some, tl_none, ap_one, ap_nil, z01, o01, true_and, and_true, true_or, or_true, i10, i01, if_true, if_false, eq_self]
  exact l15 h hr T 0 0 _ (by omega)
end C20
