/-! the class: a realm becomes like another; a realm that is begun anew -/
/-- what may stand in an array of things -/
def OKR (R : hR) (TH : hT) (r : Nat) : Prop := ∀ t, t < 8 → R (r + 1) t = none ∨ ∃ q κ n f p, R (r + 1) t = some q ∧ isTh TH q κ n f p
theorem may_th : px_may 3 (.object "AllSworn$Thing") = true ∧ px_may 1 (.object "AllSworn$Thing") = true ∧ px_may 9 (.object "AllSworn$Thing") = true ∧ px_may 0 (.object "AllSworn$Thing") = true ∧ px_may 8 (.object "AllSworn$Thing") = true := by
  refine ⟨?_, ?_, ?_, ?_, ?_⟩ <;> decide +kernel
theorem rl_dis {r s : Nat} (h : isRealm r) (hs : isRealm s) (hn : r ≠ s) : s + 5 ≤ r ∨ r + 5 ≤ s := by
  unfold isRealm at h hs
  omega
section C6
variable {d : Nat} {X : hX} {R : hR} {TH : hT} {N r s T Hn a p q κ : Nat} {ρ : Nat → Int32} {Q : Option Value → px_H → Prop}
theorem rs1n (h : isRealm r) {j : Nat} (hj : j < 8) : px_rst (hp X R TH N) (r + 1) (nI j) .null = some (hp X (upR R (r + 1) (va_up (R (r + 1)) j none)) TH N) := by
  unfold px_rst
  rw [hp_at (lay_realm h).2.1]
  simp only [h_cell, vin_nI hj (show 8 < 2 ^ 31 by decide), if_true, nI_clamp (show j < 2 ^ 31 by omega)]
  exact congrArg some (hp_setR (lay_realm h).2.1)
theorem rs1 (h : isRealm r) {j : Nat} (hj : j < 8) {n f p : Int32} (ht : isTh TH q κ n f p) : px_rst (hp X R TH N) (r + 1) (nI j) (.ref q) = some (hp X (upR R (r + 1) (va_up (R (r + 1)) j (some q))) TH N) := by
  unfold px_rst
  rw [hp_at (lay_realm h).2.1]
  have hm : px_may (thC κ) (.object "AllSworn$Thing") = true := by
    rcases ht.2.1 with rfl | rfl | rfl | rfl | rfl
    · exact may_th.1
    · exact may_th.2.1
    · exact may_th.2.2.1
    · exact may_th.2.2.2.1
    · exact may_th.2.2.2.2
  simp only [h_cell, vin_nI hj (show 8 < 2 ^ 31 by decide), if_true, nI_clamp (show j < 2 ^ 31 by omega), th_cls ht, hm]
  exact congrArg some (hp_setR (lay_realm h).2.1)
theorem rs1o (h : isRealm r) {j : Nat} (hj : j < 8) {o : Option Nat} (ho : o = none ∨ ∃ q κ n f p, o = some q ∧ isTh TH q κ n f p) : px_rst (hp X R TH N) (r + 1) (nI j) (va_rf o) = some (hp X (upR R (r + 1) (va_up (R (r + 1)) j o)) TH N) := by
  rcases ho with rfl | ⟨q, κ, n, f, p, rfl, ht⟩
  · exact rs1n h hj
  · exact rs1 h hj ht
def cpO (f g : Nat → Option Nat) (n : Nat) : Nat → Option Nat := fun j => if j < n then f j else g j
theorem cpO_0 (f g : Nat → Option Nat) : cpO f g 0 = g := funext fun j => if_neg (Nat.not_lt_zero j)
theorem cpO_s (f g : Nat → Option Nat) (n : Nat) : va_up (cpO f g n) n (f n) = cpO f g (n + 1) := by
  funext j
  unfold va_up cpO
  by_cases h : j = n
  · subst h; simp
  · have : (j < n + 1) = (j < n) := propext (by omega)
    simp [h, this]
theorem upR_s (R : hR) (p : Nat) (f : Nat → Option Nat) : upR R p f p = f := if_pos rfl
theorem upR_n {R : hR} {p q : Nat} {f : Nat → Option Nat} (h : q ≠ p) : upR R p f q = R q := if_neg h
theorem upR_upR (R : hR) (p : Nat) (f g : Nat → Option Nat) : upR (upR R p f) p g = upR R p g := by
  funext q
  unfold upR
  split <;> rfl
theorem upR_id (R : hR) (p : Nat) : upR R p (R p) = R := by
  funext q
  unfold upR
  split
  · subst_vars; rfl
  · rfl
theorem l46 {K : hR → Prop} (h : isRealm r) (hs : isRealm s) (hn : r ≠ s) (hok : OKR R TH s) (hK : ∀ R', wp d 46 71 [some (.ref r), some (.ref s), some (.int 8)] [] (hp X R' TH N) 0 Q ↔ K R') (g : Nat → Option Nat) : ∀ (n k : Nat), k + n = 8 → (wp d 46 47 [some (.ref r), some (.ref s), some (.int (nI k))] [] (hp X (upR R (r + 1) (cpO (R (s + 1)) g k)) TH N) 0 Q ↔ K (upR R (r + 1) (cpO (R (s + 1)) g 8))) := by
  have hd := rl_dis h hs hn
  have hne : s + 1 ≠ r + 1 := by omega
  intro n
  induction n with
  | zero =>
    intro k hk
    obtain rfl : k = 8 := by omega
    have e8 : ((8 : Int32) ≤ 8) = True := by decide
    rw [← hK, H46_47, show nI 8 = 8 from rfl]
    simp only [S46, px_op_some, px_op_none, tl_some, tl_none, ap_one, ap_nil, z01, o01, true_and, and_true, true_or, or_true, i10, i01, if_true, if_false, eq_self, e8]
  | succ n ih =>
    intro k hk
    have ih' := ih (k + 1) (by omega)
    have e8 : ((8 : Int32) ≤ nI k) = False := i_nI_lt (T := 8) (by omega) (by decide)
    have e1 : ∀ R' : hR, px_rld (hp X R' TH N) (s + 1) (nI k) = some (va_rf (R' (s + 1) k)) := fun R' => rg1 hs (by omega)
    have e2 := rs1o (X := X) (R := upR R (r + 1) (cpO (R (s + 1)) g k)) (N := N) h (j := k) (by omega) (hok k (by omega))
    rw [H46_47]
    simp only [S46, GRealm h, GRealm hs, px_op_some, px_op_none, tl_some, tl_none, ap_one, ap_nil, z01, o01, true_and, and_true, true_or, or_true, i10, i01, if_true, if_false, eq_self, e8, e1, upR_n hne, e2, nI_1, upR_s, upR_upR, cpO_s, ih']
/-- becomeLike -/
def blF (X : hX) (r s : Nat) : Nat → Int32 := upd (upd (upd (upd (upd (upd (X r) 4 (X s 4)) 5 (X s 5)) 6 (X s 6)) 7 0) 8 (X s 8)) 9 (X s 9)
def blX (X : hX) (r s : Nat) : hX := upA (upA (upA X r (blF X r s)) (r + 2) (va_cpy (X (s + 2)) (X (r + 2)) 0 0 8)) (r + 3) (va_cpy (X (s + 3)) (X (r + 3)) 0 0 8)
def blR (R : hR) (r s : Nat) : hR := upR R (r + 1) (cpO (R (s + 1)) (R (r + 1)) 8)
theorem t46 (h : isRealm r) (hs : isRealm s) (hn : r ≠ s) (hok : OKR R TH s) : wc d 46 [.ref r, .ref s] (hp X R TH N) Q ↔ Q none (hp (blX X r s) (blR R r s) TH N) := by
  have hd := rl_dis h hs hn
  have n1 : (s = r) = False := eq_false (by omega)
  have n2 : (s + 2 = r) = False := eq_false (by omega)
  have n3 : (s + 3 = r) = False := eq_false (by omega)
  have n4 : (s + 3 = r + 2) = False := eq_false (by omega)
  have n5 : (r + 2 = r) = False := eq_false (by omega)
  have n6 : (r + 3 = r) = False := eq_false (by omega)
  have n7 : (r + 3 = r + 2) = False := eq_false (by omega)
  have ec2 : ∀ (X : hX) (R : hR), px_cpy (hp X R TH N) (s + 2) 0 (r + 2) 0 8 = some (hp (upA X (r + 2) (va_cpy (X (s + 2)) (X (r + 2)) 0 0 8)) R TH N) := fun X R => y_cpy (sp := 0) (dp := 0) (n := 8) (lay_realm hs).2.2.1 (lay_realm h).2.2.1 (by decide) (by decide) (by decide) (by decide)
  have ec3 : ∀ (X : hX) (R : hR), px_cpy (hp X R TH N) (s + 3) 0 (r + 3) 0 8 = some (hp (upA X (r + 3) (va_cpy (X (s + 3)) (X (r + 3)) 0 0 8)) R TH N) := fun X R => y_cpy (sp := 0) (dp := 0) (n := 8) (lay_realm hs).2.2.2.1 (lay_realm h).2.2.2.1 (by decide) (by decide) (by decide) (by decide)
  have hl := l46 (d := d) (X := upA X r (blF X r s)) (N := N) (Q := Q) (K := fun R' => Q none (hp (blX X r s) R' TH N)) h hs hn hok (fun R' => by
    simp only [S46, GRealm h, GRealm hs, px_op_some, px_op_none, tl_some, tl_none, ap_one, ap_nil, z01, o01, true_and, and_true, true_or, or_true, i10, i01, if_true, if_false, eq_self, upA_s, upA_n, upd_s, upd_n, ne_eq, Nat.reduceEqDiff, not_false_eq_true, ec2, ec3, n1, n2, n3, n4, n5, n6, n7]
    rfl) (R (r + 1)) 8 0 rfl
  rw [cpO_0, upR_id] at hl
  have hl' : wp d 46 47 [some (.ref r), some (.ref s), some (.int 0)] [] (hp (upA X r (blF X r s)) R TH N) 0 Q ↔ _ := hl
  simp only [S46, GRealm h, GRealm hs, px_op_some, px_op_none, tl_some, tl_none, ap_one, ap_nil, z01, o01, true_and, and_true, true_or, or_true, i10, i01, if_true, if_false, eq_self, upA_s, upA_n, upd_s, upd_n, ne_eq, Nat.reduceEqDiff, not_false_eq_true, n1, upA_upA]
  exact hl'
theorem cpy8 {f g : Nat → Int32} {j : Nat} (hj : j < 8) : va_cpy f g 0 0 8 j = f j := by
  unfold va_cpy
  rw [if_pos (by omega), Nat.zero_add, Nat.sub_zero]
theorem blX_n {c : Nat} (h0 : c ≠ r) (h2 : c ≠ r + 2) (h3 : c ≠ r + 3) : blX X r s c = X c := by
  unfold blX
  rw [upA_n h3, upA_n h2, upA_n h0]
theorem blX_r {j : Nat} : blX X r s r j = blF X r s j := by
  unfold blX
  rw [upA_n (by omega), upA_n (by omega), upA_s]
theorem blR_n {c : Nat} (h1 : c ≠ r + 1) : blR R r s c = R c := upR_n h1
theorem RR.like (hr : RR X R TH s ρ T Hn) : RR (blX X r s) (blR R r s) TH r ρ T Hn ∧ blX X r s r 7 = 0 := by
  obtain ⟨h0, h5, r1, h8, h6, r2, h8', h3, h4, ht, hh⟩ := hr
  refine ⟨⟨?_, ?_, r1, h8, ?_, r2, h8', ?_, ?_, ?_, ?_⟩, ?_⟩
  · rw [blX_r]; unfold blF; rw [upd_n (by decide), upd_n (by decide), upd_n (by decide), upd_n (by decide), upd_n (by decide), upd_s]; exact h0
  · rw [blX_r]; unfold blF; rw [upd_n (by decide), upd_n (by decide), upd_n (by decide), upd_n (by decide), upd_s]; exact h5
  · rw [blX_r]; unfold blF; rw [upd_n (by decide), upd_n (by decide), upd_n (by decide), upd_s]; exact h6
  · rw [blX_r]; unfold blF; rw [upd_n (by decide), upd_s]; exact h3
  · rw [blX_r]; unfold blF; rw [upd_s]; exact h4
  · intro p hpT
    obtain ⟨q, κ, hq, hth, hk, hs⟩ := ht p hpT
    refine ⟨q, κ, ?_, hth, hk, ?_⟩
    · unfold blR cpO
      rw [upR_s, if_pos (by omega)]
      exact hq
    · unfold blX
      rw [upA_n (by omega), upA_s, cpy8 (by omega)]
      exact hs
  · intro t htH
    unfold blX
    rw [upA_s, cpy8 (by omega)]
    exact hh t htH
  · rw [blX_r]; unfold blF; rw [upd_n (by decide), upd_n (by decide), upd_s]
theorem OKR.like (hs : OKR R TH s) : OKR (blR R r s) TH r := by
  intro t ht
  unfold blR cpO
  rw [upR_s, if_pos ht]
  exact hs t ht
theorem OKR.n {c : Nat} {f : Nat → Option Nat} (h : OKR R TH s) (hc : s + 1 ≠ c) : OKR (upR R c f) TH s := by
  intro t ht
  rw [upR_n hc]
  exact h t ht
/-- beginAnew, addHarm, addThing -/
theorem t43 {v : Int32} (h : isRealm r) : wc d 43 [.ref r, .int v] (hp X R TH N) Q ↔ Q none (hp (upA X r (upd (upd (upd (upd (upd (upd (X r) 4 v) 5 0) 6 0) 7 0) 8 0) 9 0)) R TH N) := by
  simp only [S43, GRealm h, px_op_some, px_op_none, tl_some, tl_none, ap_one, ap_nil, z01, o01, true_and, and_true, true_or, or_true, i10, i01, if_true, if_false, eq_self, upA_s, upA_n, upd_s, upd_n, ne_eq, Nat.reduceEqDiff, not_false_eq_true, upA_upA]
theorem t45 {v : Int32} (h : isRealm r) (hH : X r 6 = nI Hn) (h8 : Hn < 8) : wc d 45 [.ref r, .int v] (hp X R TH N) Q ↔ Q none (hp (upA (upA X (r + 3) (upd (X (r + 3)) Hn v)) r (upd (X r) 6 (nI (Hn + 1)))) R TH N) := by
  have n1 : (r = r + 3) = False := eq_false (by omega)
  have e8 : ((8 : Int32) ≤ nI Hn) = False := i_nI_lt (T := 8) h8 (by decide)
  simp only [S45, GRealm h, px_op_some, px_op_none, tl_some, tl_none, ap_one, ap_nil, z01, o01, true_and, and_true, true_or, or_true, i10, i01, if_true, if_false, eq_self, upA_s, upA_n, upd_s, upd_n, ne_eq, Nat.reduceEqDiff, not_false_eq_true, hH, e8, rq3 h h8, n1, nI_1]
theorem t44 {n f p : Int32} (h : isRealm r) (hT : X r 5 = nI T) (h8 : T < 8) (hth : isTh TH q κ n f p) : wc d 44 [.ref r, .ref q] (hp X R TH N) Q ↔ Q none (hp (upA (upA X (r + 2) (upd (X (r + 2)) T (-1000000))) r (upd (X r) 5 (nI (T + 1)))) (upR R (r + 1) (va_up (R (r + 1)) T (some q))) TH N) := by
  have n1 : (r = r + 2) = False := eq_false (by omega)
  have e8 : ((8 : Int32) ≤ nI T) = False := i_nI_lt (T := 8) h8 (by decide)
  simp only [S44, GRealm h, px_op_some, px_op_none, tl_some, tl_none, ap_one, ap_nil, z01, o01, true_and, and_true, true_or, or_true, i10, i01, if_true, if_false, eq_self, upA_s, upA_n, upd_s, upd_n, ne_eq, Nat.reduceEqDiff, not_false_eq_true, hT, e8, rs1 h h8 hth, rq2 h h8, n1, nI_1]
end C6
