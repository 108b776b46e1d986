/-! the class: a realm's acts -/
section C4
variable {d : Nat} {X : hX} {R : hR} {TH : hT} {N r T Hn a : Nat} {ρ : Nat → Int32} {Q : Option Value → px_H → Prop}
/-- cheapestOn -/
theorem l62 {day op : Int32} (h : isRealm r) (hr : RR X R TH r ρ T Hn) : ∀ (n p : Nat) (a : Option Nat) (ls : Int32) (l6 : Option Value), p + n = Hn → (∀ q, a = some q → q < p ∧ ls = sumI ρ (rH ρ q) T) → (wp (d + 1) 62 24 [some (.ref r), some (.int day), some (.int op), some (.int (enc a)), some (.int ls), some (.int (nI p)), l6] [] (hp X R TH N) 0 Q ↔ Q (some (.int (enc (fld (chS ρ T op) n p a)))) (hp X R TH N)) := by
  have hr' := hr
  obtain ⟨-, -, -, -, hH, -, h8, -, -, -, hh⟩ := hr
  intro n
  induction n with
  | zero =>
    intro p a ls l6 hp0 ha
    obtain rfl : p = Hn := by omega
    rw [H62_24]
    simp only [S62, GRealm h, px_op_some, px_op_none, tl_some, tl_none, ap_one, ap_nil, z01, o01, true_and, and_true, true_or, or_true, i10, i01, if_true, if_false, eq_self, hH, i_nI_le, fld_0]
  | succ n ih =>
    intro p a ls l6 hp0 ha
    have e8 : ((8 : Int32) ≤ nI p) = False := i_nI_lt (T := 8) (by omega) (by decide)
    have hlt := i_nI_lt (show p < Hn by omega) (show Hn < 2 ^ 31 by omega)
    rw [H62_24, fld_s]
    have ih1 := fun l6 => ih (p + 1) (some p) (sumI ρ (rH ρ p) T) l6 (by omega) (fun q hq => by cases hq; exact ⟨by omega, rfl⟩)
    have e1 : enc (some p) = nI p := rfl
    rw [e1] at ih1
    cases a with
    | none =>
      have ih0 := fun l6 => ih (p + 1) none ls l6 (by omega) (fun q hq => by cases hq)
      simp only [enc] at ih0
      simp only [S62, GRealm h, px_op_some, px_op_none, tl_some, tl_none, ap_one, ap_nil, z01, o01, true_and, and_true, true_or, or_true, i10, i01, if_true, if_false, eq_self, hH, hlt, e8, rg3 h (show p < 8 by omega), hh p (by omega), t61 h hr', nI_1, enc, ih1, ih0, chS]
      by_cases h1 : op >>> (nI p &&& 31) &&& 1 = 1
      · simp [h1, bitI]
      · simp [h1, bitI]
    | some q =>
      obtain ⟨hq, rfl⟩ := ha q rfl
      have ih0 := fun l6 => ih (p + 1) (some q) (sumI ρ (rH ρ q) T) l6 (by omega) (fun z hz => by cases hz; exact ⟨by omega, rfl⟩)
      have hqn : (nI q = -1000000) = False := i_nn (by omega)
      simp only [enc] at ih0
      simp only [S62, GRealm h, px_op_some, px_op_none, tl_some, tl_none, ap_one, ap_nil, z01, o01, true_and, and_true, true_or, or_true, i10, i01, if_true, if_false, eq_self, hH, hlt, e8, rg3 h (show p < 8 by omega), hh p (by omega), t61 h hr', nI_1, enc, hqn, ih1, ih0, chS]
      by_cases h1 : op >>> (nI p &&& 31) &&& 1 = 1
      · by_cases h2 : sumI ρ (rH ρ p) T < sumI ρ (rH ρ q) T
        · have h3 : ¬ sumI ρ (rH ρ q) T ≤ sumI ρ (rH ρ p) T := by rw [Int32.not_le]; exact h2
          simp [h1, h2, h3, bitI]
        · have h3 : sumI ρ (rH ρ q) T ≤ sumI ρ (rH ρ p) T := Int32.not_lt.mp h2
          simp [h1, h2, h3, bitI]
      · simp [h1, bitI]
theorem t62 {day : Int32} (h : isRealm r) (hr : RR X R TH r ρ T Hn) (hov : OV ρ T day (ρ 0)) : wc (d + 2) 62 [.ref r, .int day] (hp X R TH N) Q ↔ Q (some (.int (enc (chI ρ (openI ρ (rS ρ) day (ρ 0) T Hn) T Hn)))) (hp X R TH N) := by
  simp only [S62, GRealm h, hr.1, t58_0 h hr hov, t60 h hr, px_op_some, px_op_none, tl_some, tl_none, ap_one, ap_nil, z01, o01, true_and, and_true, true_or, or_true, i10, i01, if_true, if_false, eq_self]
  exact l62 h hr Hn 0 none 0 _ (by omega) (fun q hq => by cases hq)
theorem t63 {day : Int32} (h : isRealm r) (hr : RR X R TH r ρ T Hn) (hov : OV ρ T day (ρ 0)) : wc (d + 3) 63 [.ref r, .int day] (hp X R TH N) Q ↔ Q (some (.int (priceI ρ T (chI ρ (openI ρ (rS ρ) day (ρ 0) T Hn) T Hn) (-1000000)))) (hp X R TH N) := by
  simp only [S63, GRealm h, t62 h hr hov, px_op_some, px_op_none, tl_some, tl_none, ap_one, ap_nil, z01, o01, true_and, and_true, true_or, or_true, i10, i01, if_true, if_false, eq_self]
  cases hc : chI ρ (openI ρ (rS ρ) day (ρ 0) T Hn) T Hn with
  | none => simp only [enc, priceI, px_op_some, px_op_none, tl_some, tl_none, ap_one, ap_nil, z01, o01, true_and, and_true, true_or, or_true, i10, i01, if_true, if_false, eq_self]
  | some q =>
    have hq := chS_lt Hn 0 none (fun q hq => by cases hq) q hc
    have hq8 := hr.2.2.2.2.2.2.1
    simp only [enc, priceI, i_nn (show q < 2 ^ 31 by omega), S63, GRealm h, t50 h hr (show q < Hn by omega), t61 h hr, px_op_some, px_op_none, tl_some, tl_none, ap_one, ap_nil, z01, o01, true_and, and_true, true_or, or_true, i10, i01, if_true, if_false, eq_self]
/-- what an update elsewhere leaves of a realm -/
theorem RR.up {c : Nat} {f : Nat → Int32} (hr : RR X R TH r ρ T Hn) (h0 : c ≠ r) (h2 : c ≠ r + 2) (h3 : c ≠ r + 3) : RR (upA X c f) R TH r ρ T Hn := by
  unfold RR
  rw [upA_n (fun e => h0 e.symm), upA_n (fun e => h2 e.symm), upA_n (fun e => h3 e.symm)]
  exact hr
theorem RR.up7 {v : Int32} (hr : RR X R TH r ρ T Hn) : RR (upA X r (upd (X r) 7 v)) R TH r ρ T Hn := by
  unfold RR
  rw [upA_s, upd_n (by decide), upd_n (by decide), upd_n (by decide), upd_n (by decide), upd_n (by decide), upA_n (by omega), upA_n (by omega)]
  exact hr
/-- keepAct -/
def kcF (X : hX) (r a : Nat) (num oath : Int32) : Nat → Int32 := upd (upd (upd (upd (if a = 24 then shF (X (r + 4)) 92 else X (r + 4)) (4 * knN a) num) (4 * knN a + 1) oath) (4 * knN a + 2) (X r 8)) (4 * knN a + 3) (X r 9)
def kcX (X : hX) (r a : Nat) (num oath : Int32) : hX := upA (upA X (r + 4) (kcF X r a num oath)) r (upd (X r) 7 (nI (knN a + 1)))
theorem cmr (X : hX) (r : Nat) (f g f' : Nat → Int32) : upA (upA (upA X (r + 4) f) r g) (r + 4) f' = upA (upA X (r + 4) f') r g := by rw [upA_comm (by omega), upA_upA]
theorem t55 {num oath : Int32} (h : isRealm r) (ha : X r 7 = nI a) (h24 : a ≤ 24) (ho : ∀ (X' : hX) Q, X' (r + 2) = X (r + 2) → X' r 5 = X r 5 → (wc d 48 [.ref r, .int num] (hp X' R TH N) Q ↔ Q (some (.int oath)) (hp X' R TH N))) : wc (d + 1) 55 [.ref r, .int num] (hp X R TH N) Q ↔ Q none (hp (kcX X r a num oath) R TH N) := by
  have n1 : (r = r + 4) = False := eq_false (by omega)
  have n2 : (r + 4 = r) = False := eq_false (by omega)
  have n3 : (r + 2 = r + 4) = False := eq_false (by omega)
  have n4 : (r + 2 = r) = False := eq_false (by omega)
  by_cases h4 : a = 24
  · subst h4
    have hc : ((24 : Int32) ≤ nI 24) = True := eq_true (by decide)
    have hlt : (nI 24 < 24) = False := eq_false (by decide)
    have e23 : (23 : Int32) * 4 = nI 92 := by decide
    have e1 : nI 92 + 1 = nI 93 := by decide
    have e2 : nI 92 + 2 = nI 94 := by decide
    have e3 : nI 92 + 3 = nI 95 := by decide
    have e4 : (23 : Int32) + 1 = nI 24 := by decide
    have ecp : px_cpy (hp X R TH N) (r + 4) 4 (r + 4) 0 92 = some (hp (upA X (r + 4) (va_cpy (X (r + 4)) (X (r + 4)) 4 0 92)) R TH N) := y_cpy (sp := 4) (dp := 0) (n := 92) (lay_realm h).2.2.2.2 (lay_realm h).2.2.2.2 (by decide) (by decide) (by decide) (by decide)
    have esh : va_cpy (X (r + 4)) (X (r + 4)) 4 0 92 = shF (X (r + 4)) 92 := by
      funext j
      unfold va_cpy shF
      by_cases hj : j < 92
      · rw [if_pos (by omega), if_pos hj]; rfl
      · rw [if_neg (by omega), if_neg hj]
    have ho' := fun f Q => ho (upA (upA X (r + 4) f) r (upd (X r) 7 23)) Q (by rw [upA_n (by omega), upA_n (by omega)]) (by rw [upA_s, upd_n (by decide)])
    simp only [S55, GRealm h, px_op_some, px_op_none, tl_some, tl_none, ap_one, ap_nil, z01, o01, true_and, and_true, true_or, or_true, i10, i01, if_true, if_false, eq_self, upA_s, upA_n, upd_s, upd_n, ne_eq, Nat.reduceEqDiff, not_false_eq_true, ha, hlt, ecp, esh, n1, n2, e23, e1, e2, e3, e4, rq4 h (show 92 < 96 by decide), rq4 h (show 93 < 96 by decide), rq4 h (show 94 < 96 by decide), rq4 h (show 95 < 96 by decide), cmr, upA_upA, upd_upd, ho']
    rfl
  · have hlt : (nI a < 24) = True := eq_true (nI_lt (b := 24) (by omega) (by decide))
    have e0 : nI a * 4 = nI (4 * a) := by rw [show (4 : Int32) = nI 4 from rfl, pk_mul, Nat.mul_comm]
    have e2 : nI (4 * a) + 2 = nI (4 * a + 2) := by rw [show (2 : Int32) = nI 2 from rfl, nI_add]
    have e3 : nI (4 * a) + 3 = nI (4 * a + 3) := by rw [show (3 : Int32) = nI 3 from rfl, nI_add]
    have ho' := fun f Q => ho (upA X (r + 4) f) Q (by rw [upA_n (by omega)]) (by rw [upA_n (by omega)])
    simp only [S55, GRealm h, px_op_some, px_op_none, tl_some, tl_none, ap_one, ap_nil, z01, o01, true_and, and_true, true_or, or_true, i10, i01, if_true, if_false, eq_self, upA_s, upA_n, upd_s, upd_n, ne_eq, Nat.reduceEqDiff, not_false_eq_true, ha, hlt, n1, n2, e0, e2, e3, nI_1, rq4 h (show 4 * a < 96 by omega), rq4 h (show 4 * a + 1 < 96 by omega), rq4 h (show 4 * a + 2 < 96 by omega), rq4 h (show 4 * a + 3 < 96 by omega), upA_upA, ho']
    unfold kcX kcF knN
    simp only [if_neg h4]
theorem t55N (h : isRealm r) (ha : X r 7 = nI a) (h24 : a ≤ 24) : wc (d + 1) 55 [.ref r, .int (-1000000)] (hp X R TH N) Q ↔ Q none (hp (kcX X r a (-1000000) (-1000000)) R TH N) := t55 h ha h24 (fun _ _ _ _ => t48n h)
theorem t55p {p : Nat} (h : isRealm r) (hr : RR X R TH r ρ T Hn) (hp8 : p < T) (ha : X r 7 = nI a) (h24 : a ≤ 24) : wc (d + 1) 55 [.ref r, .int (nI p)] (hp X R TH N) Q ↔ Q none (hp (kcX X r a (nI p) (rS ρ p)) R TH N) := by
  refine t55 h ha h24 (fun X' Q' h2 h5 => ?_)
  have h8 := hr.2.2.2.1
  obtain ⟨q, κ, -, -, -, hs⟩ := hr.2.2.2.2.2.2.2.2.2.1 p hp8
  have e0 : (nI p < 0) = False := eq_false (nI_pos (by omega))
  have e8 : ((8 : Int32) ≤ nI p) = False := i_nI_lt (T := 8) (by omega) (by decide)
  simp only [S48, GRealm h, px_op_some, px_op_none, tl_some, tl_none, ap_one, ap_nil, z01, o01, true_and, and_true, true_or, or_true, i10, i01, if_true, if_false, eq_self, h5, hr.2.1, e0, e8, i_nI_lt hp8 (show T < 2 ^ 31 by omega), rg2 h (show p < 8 by omega), h2, hs]
/-- swear -/
theorem t56 {p : Nat} {v : Int32} (h : isRealm r) (hT : X r 5 = nI T) (h8 : T ≤ 8) (hp8 : p < T) : wc d 56 [.ref r, .int (nI p), .int v] (hp X R TH N) Q ↔ Q none (hp (upA X (r + 2) (upd (X (r + 2)) p v)) R TH N) := by
  have e0 : (nI p < 0) = False := eq_false (nI_pos (by omega))
  have e8 : ((8 : Int32) ≤ nI p) = False := i_nI_lt (T := 8) (by omega) (by decide)
  simp only [S56, GRealm h, px_op_some, px_op_none, tl_some, tl_none, ap_one, ap_nil, z01, o01, true_and, and_true, true_or, or_true, i10, i01, if_true, if_false, eq_self, hT, e0, e8, i_nI_lt hp8 (show T < 2 ^ 31 by omega), rq2 h (show p < 8 by omega)]
theorem t56n {v : Int32} : wc d 56 [.ref r, .int (-1000000), .int v] (hp X R TH N) Q ↔ Q none (hp X R TH N) := by
  have e : ((-1000000 : Int32) < 0) = True := by decide
  simp only [S56, px_op_some, px_op_none, tl_some, tl_none, ap_one, ap_nil, z01, o01, true_and, and_true, true_or, or_true, i10, i01, if_true, if_false, eq_self, e]
end C4
