/-! the class: a realm's cell stands for a row of numbers -/
def RR (X : hX) (R : hR) (TH : hT) (r : Nat) (ρ : Nat → Int32) (T Hn : Nat) : Prop :=
  X r 4 = ρ 0 ∧ X r 5 = nI T ∧ ρ 1 = nI T ∧ T ≤ 8 ∧ X r 6 = nI Hn ∧ ρ 2 = nI Hn ∧ Hn ≤ 8 ∧ X r 8 = ρ 3 ∧ X r 9 = ρ 4 ∧
  (∀ p, p < T → ∃ q κ, R (r + 1) p = some q ∧ isTh TH q κ (nI p) (rF ρ p) (rP ρ p) ∧ rK ρ p = nI κ ∧ X (r + 2) p = rS ρ p) ∧ (∀ h, h < Hn → X (r + 3) h = rH ρ h)
section C2
variable {d : Nat} {X : hX} {R : hR} {TH : hT} {N r T Hn : Nat} {ρ : Nat → Int32} {Q : Option Value → px_H → Prop}
theorem rg1 (h : isRealm r) {j : Nat} (hj : j < 8) : px_rld (hp X R TH N) (r + 1) (nI j) = some (va_rf (R (r + 1) j)) := r_get (lay_realm h).2.1 hj (by decide)
theorem rg2 (h : isRealm r) {j : Nat} (hj : j < 8) : px_ald (hp X R TH N) (r + 2) (nI j) .int = some (X (r + 2) j) := a_get (lay_realm h).2.2.1 hj (by decide)
theorem rg3 (h : isRealm r) {j : Nat} (hj : j < 8) : px_ald (hp X R TH N) (r + 3) (nI j) .int = some (X (r + 3) j) := a_get (lay_realm h).2.2.2.1 hj (by decide)
theorem rg4 (h : isRealm r) {j : Nat} (hj : j < 96) : px_ald (hp X R TH N) (r + 4) (nI j) .int = some (X (r + 4) j) := a_get (lay_realm h).2.2.2.2 hj (by decide)
theorem rq2 (h : isRealm r) {j : Nat} {v : Int32} (hj : j < 8) : px_ast (hp X R TH N) (r + 2) (nI j) v .int = some (hp (upA X (r + 2) (upd (X (r + 2)) j v)) R TH N) := a_put (lay_realm h).2.2.1 hj (by decide)
theorem rq3 (h : isRealm r) {j : Nat} {v : Int32} (hj : j < 8) : px_ast (hp X R TH N) (r + 3) (nI j) v .int = some (hp (upA X (r + 3) (upd (X (r + 3)) j v)) R TH N) := a_put (lay_realm h).2.2.2.1 hj (by decide)
theorem rq4 (h : isRealm r) {j : Nat} {v : Int32} (hj : j < 96) : px_ast (hp X R TH N) (r + 4) (nI j) v .int = some (hp (upA X (r + 4) (upd (X (r + 4)) j v)) R TH N) := a_put (lay_realm h).2.2.2.2 hj (by decide)
theorem t42 (h : isRealm r) : wc d 42 [.ref r] (hp X R TH N) Q ↔ Q (some (.int (b2 (0 < X r 4)))) (hp X R TH N) := by
  simp only [S42, GRealm h, px_op_some, px_op_none, tl_some, tl_none, ap_one, ap_nil, z01, o01, true_and, and_true, true_or, or_true, i10, i01, if_true, if_false, eq_self]
  by_cases h0 : 0 < X r 4
  · rw [if_neg (by rw [Int32.not_le]; exact h0), b2_t h0]
  · rw [if_pos (Int32.not_lt.mp h0), b2_f h0]
/-- openTo -/
theorem l60 {b : Int32} (h : isRealm r) (hr : RR X R TH r ρ T Hn) : ∀ (n p : Nat) (a : Int32), p + n = Hn → (wp d 60 4 [some (.ref r), some (.int b), some (.int a), some (.int (nI p))] [] (hp X R TH N) 0 Q ↔ Q (some (.int (fld (opnS (rH ρ) b) n p a))) (hp X R TH N)) := by
  obtain ⟨-, -, -, -, hH, -, h8, -, -, -, hh⟩ := hr
  intro n
  induction n with
  | zero =>
    intro p a hp0
    obtain rfl : p = Hn := by omega
    rw [H60_4]
    simp only [S60, GRealm h, px_op_some, px_op_none, tl_some, tl_none, ap_one, ap_nil, z01, o01, true_and, and_true, true_or, or_true, i10, i01, if_true, if_false, eq_self, hH, i_nI_le, fld_0]
  | succ n ih =>
    intro p a hp0
    have ih' := fun a => ih (p + 1) a (by omega)
    have e8 : ((8 : Int32) ≤ nI p) = False := i_nI_lt (T := 8) (by omega) (by decide)
    rw [H60_4, fld_s]
    simp only [S60, GRealm h, px_op_some, px_op_none, tl_some, tl_none, ap_one, ap_nil, z01, o01, true_and, and_true, true_or, or_true, i10, i01, if_true, if_false, eq_self, hH, i_nI_lt (show p < Hn by omega) (show Hn < 2 ^ 31 by omega), e8, rg3 h (show p < 8 by omega), hh p (by omega), nI_1, ih', opnS]
    by_cases h1 : rH ρ p &&& b = 0
    · simp only [h1, if_true]
    · simp only [h1, if_false]
theorem t60 {b : Int32} (h : isRealm r) (hr : RR X R TH r ρ T Hn) : wc d 60 [.ref r, .int b] (hp X R TH N) Q ↔ Q (some (.int (opnI ρ b Hn))) (hp X R TH N) := by
  simp only [S60, px_op_some, px_op_none, tl_some, tl_none, ap_one, ap_nil, z01, o01, true_and, and_true, true_or, or_true, i10, i01, if_true, if_false, eq_self]
  exact l60 h hr Hn 0 0 (by omega)
/-- boundIf -/
theorem l58 {day term fresh : Int32} (h : isRealm r) (hr : RR X R TH r ρ T Hn) (o : Nat → Int32) (ho : ∀ t, t < T → o t = if bitI fresh t then day else rS ρ t) (hov : ∀ t, t < T → ¬ o t = -1000000 → (day < o t + term ↔ day ≤ o t + term - 1)) : ∀ (n p : Nat) (a : Int32) (l6 l7 l8 : Option Value), p + n = T → (wp (d + 1) 58 6 [some (.ref r), some (.int day), some (.int term), some (.int fresh), some (.int a), some (.int (nI p)), l6, l7, l8] [] (hp X R TH N) 0 Q ↔ Q (some (.int (fld (bndS (rK ρ) o day term) n p a))) (hp X R TH N)) := by
  obtain ⟨-, hT, -, h8, -, -, -, -, -, ht, -⟩ := hr
  intro n
  induction n with
  | zero =>
    intro p a l6 l7 l8 hp0
    obtain rfl : p = T := by omega
    rw [H58_6]
    simp only [S58, GRealm h, px_op_some, px_op_none, tl_some, tl_none, ap_one, ap_nil, z01, o01, true_and, and_true, true_or, or_true, i10, i01, if_true, if_false, eq_self, hT, i_nI_le, fld_0]
  | succ n ih =>
    intro p a l6 l7 l8 hp0
    have ih' := fun a l6 l7 l8 => ih (p + 1) a l6 l7 l8 (by omega)
    have e8 : ((8 : Int32) ≤ nI p) = False := i_nI_lt (T := 8) (by omega) (by decide)
    obtain ⟨q, κ, hq, hth, hk, hs⟩ := ht p (by omega)
    have hop := ho p (by omega)
    have hovp := hov p (by omega)
    have er : va_rf (some q) = .ref q := rfl
    have hkk : (rK ρ p = 5) = (κ = 5) := by rw [hk]; exact propext (nI_eq (b := 5) (by rcases hth.2.1 with z | z | z | z | z <;> omega) (by decide))
    have hk2 : (rK ρ p = 2) = (κ = 2) := by rw [hk]; exact propext (nI_eq (b := 2) (by rcases hth.2.1 with z | z | z | z | z <;> omega) (by decide))
    rw [H58_6, fld_s]
    simp only [S58, GRealm h, px_op_some, px_op_none, tl_some, tl_none, ap_one, ap_nil, z01, o01, true_and, and_true, true_or, or_true, i10, i01, if_true, if_false, eq_self, hT, i_nI_lt (show p < T by omega) (show T < 2 ^ 31 by omega), e8, rg1 h (show p < 8 by omega), rg2 h (show p < 8 by omega), hq, er, hs, nI_1, v_held hth, b2_0, ih', bndS, isBI, holdI, hkk, hk2, nI_0i (show p < 2 ^ 31 by omega)]
    have key : ∀ (op : Int32), (¬ op = -1000000 → (day < op + term ↔ day ≤ op + term - 1)) → ((if op = -1000000 then Q (some (.int (fld (bndS (rK ρ) o day term) n (p + 1) a))) (hp X R TH N) else if day < op then Q (some (.int (fld (bndS (rK ρ) o day term) n (p + 1) a))) (hp X R TH N) else if op + term ≤ day then Q (some (.int (fld (bndS (rK ρ) o day term) n (p + 1) a))) (hp X R TH N) else if ¬ (¬ κ = 5 ∧ (¬ κ = 2 ∨ p = 0 ∨ a >>> (nI p - 1 &&& 31) &&& 1 = 1)) then Q (some (.int (fld (bndS (rK ρ) o day term) n (p + 1) a))) (hp X R TH N) else Q (some (.int (fld (bndS (rK ρ) o day term) n (p + 1) (a ||| 1 <<< (nI p &&& 31))))) (hp X R TH N)) ↔ Q (some (.int (fld (bndS (rK ρ) o day term) n (p + 1) (if (¬ op = -1000000 ∧ op ≤ day ∧ day ≤ op + term - 1) ∧ ¬ κ = 5 ∧ (¬ κ = 2 ∨ p = 0 ∨ a >>> (nI p - 1 &&& 31) &&& 1 = 1) then a ||| 1 <<< (nI p &&& 31) else a)))) (hp X R TH N)) := by
      intro op hv
      by_cases h1 : op = -1000000
      · simp only [h1, not_true_eq_false, false_and, if_true, if_false]
      · have hv := hv h1
        by_cases h2 : op ≤ day
        · have h2' : ¬ day < op := by rw [Int32.not_lt]; exact h2
          by_cases h3 : day ≤ op + term - 1
          · have h3' : ¬ op + term ≤ day := by rw [Int32.not_le]; exact hv.mpr h3
            by_cases h4 : ¬ κ = 5 ∧ (¬ κ = 2 ∨ p = 0 ∨ a >>> (nI p - 1 &&& 31) &&& 1 = 1)
            · simp only [if_neg h1, if_neg h2', if_neg h3', if_neg (fun z : ¬ _ => z h4), if_pos (And.intro (And.intro h1 (And.intro h2 h3)) h4)]
            · simp only [if_neg h1, if_neg h2', if_neg h3', if_pos h4, if_neg (fun z : _ ∧ _ => h4 z.2)]
          · have h3' : op + term ≤ day := Int32.not_lt.mp (fun z => h3 (hv.mp z))
            simp only [if_neg h1, if_neg h2', if_pos h3', if_neg (fun z : (_ ∧ _ ∧ _) ∧ _ => h3 z.1.2.2)]
        · have h2' : day < op := by rw [← Int32.not_le]; exact h2
          simp only [if_neg h1, if_pos h2', if_neg (fun z : (_ ∧ _ ∧ _) ∧ _ => h2 z.1.2.1)]
    have key := key (o p) hovp
    by_cases hb : fresh >>> (nI p &&& 31) &&& 1 = 1
    · rw [if_pos hb] at hop
      rw [hop] at key ⊢
      rw [if_pos hb]
      exact key
    · rw [if_neg hb] at hop
      rw [hop] at key ⊢
      rw [if_neg hb]
      exact key
theorem t58 {day term fresh : Int32} (h : isRealm r) (hr : RR X R TH r ρ T Hn) (o : Nat → Int32) (ho : ∀ t, t < T → o t = if bitI fresh t then day else rS ρ t) (hov : ∀ t, t < T → ¬ o t = -1000000 → (day < o t + term ↔ day ≤ o t + term - 1)) : wc (d + 1) 58 [.ref r, .int day, .int term, .int fresh] (hp X R TH N) Q ↔ Q (some (.int (bndI ρ o day term T))) (hp X R TH N) := by
  simp only [S58, px_op_some, px_op_none, tl_some, tl_none, ap_one, ap_nil, z01, o01, true_and, and_true, true_or, or_true, i10, i01, if_true, if_false, eq_self]
  exact l58 h hr o ho hov T 0 0 _ _ _ (by omega)
end C2
