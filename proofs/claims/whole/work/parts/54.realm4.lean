/-! the class: asking, trying, waiting, undoing -/
def askR (ρ : Nat → Int32) (p : Nat) : Nat → Int32 := if rK ρ p ≠ 3 ∨ 10 ≤ thenI ρ p then upd (upd ρ 3 (thenI ρ p)) (5 + 4 * p + 3) (thenI ρ p) else upd ρ 3 (thenI ρ p)
theorem wa_way : ∀ κ : Nat, κ < 6 → ∀ j : Nat, j < 10 → ¬ κ = 0 → waC κ (nI j) = wayI (nI κ) (nI j) := by decide
section C5
variable {d : Nat} {X : hX} {R : hR} {TH : hT} {N r T Hn a p q κ : Nat} {ρ : Nat → Int32} {Q : Option Value → px_H → Prop}
def seX (X : hX) (r a : Nat) (ρ : Nat → Int32) (p : Nat) : hX :=
  if rK ρ p ≠ 3 ∨ 10 ≤ thenI ρ p then upA (upA (upA X (r + 4) (kcF X r a (nI p) (rS ρ p))) r (upd (upd (X r) 7 (nI (knN a + 1))) 8 (thenI ρ p))) (r + 2) (upd (X (r + 2)) p (thenI ρ p))
  else upA (upA X (r + 4) (kcF X r a (nI p) (rS ρ p))) r (upd (upd (X r) 7 (nI (knN a + 1))) 8 (thenI ρ p))
theorem t51 (h : isRealm r) (hr : RR X R TH r ρ T Hn) (hp8 : p < T) (hth : isTh TH q κ (nI p) (rF ρ p) (rP ρ p)) (hk : rK ρ p = nI κ) (hw : waC κ (rF ρ p) = wayI (rK ρ p) (rF ρ p)) (ha : X r 7 = nI a) (h24 : a ≤ 24) : wc (d + 2) 51 [.ref r, .ref q] (hp X R TH N) Q ↔ Q none (hp (seX X r a ρ p) R TH N) := by
  have hT := hr.2.1
  have h8 := hr.2.2.2.1
  have h38 := hr.2.2.2.2.2.2.2.1
  have n1 : (r = r + 4) = False := eq_false (by omega)
  have n2 : (r + 2 = r + 4) = False := eq_false (by omega)
  have n3 : (r + 2 = r) = False := eq_false (by omega)
  have e3 : ρ 3 + waC κ (rF ρ p) = thenI ρ p := by rw [hw]; rfl
  have hk3 : (κ = 3) = (rK ρ p = 3) := by rw [hk]; exact (propext (nI_eq (b := 3) (by rcases hth.2.1 with z | z | z | z | z <;> omega) (by decide))).symm
  have t56' := fun f g Q => t56 (d := d + 1) (X := upA (upA X (r + 4) f) r (upd (upd (X r) 7 (nI (knN a + 1))) 8 g)) (R := R) (TH := TH) (N := N) (Q := Q) (v := thenI ρ p) h (T := T) (p := p) (by rw [upA_s, upd_n (by decide), upd_n (by decide)]; exact hT) h8 hp8
  simp only [S51, GRealm h, th_fld hth, t55p h hr hp8 ha h24, v_days hth, v_swears hth, px_op_some, px_op_none, tl_some, tl_none, ap_one, ap_nil, z01, o01, true_and, and_true, true_or, or_true, i10, i01, if_true, if_false, eq_self, upA_s, upA_n, upd_s, upd_n, ne_eq, Nat.reduceEqDiff, not_false_eq_true, kcX, n1, n2, n3, h38, e3, upA_upA, b2_0, hk3, t56']
  unfold seX
  by_cases hs : ¬ rK ρ p = 3 ∨ 10 ≤ thenI ρ p
  · simp only [if_neg (fun z : ¬ _ => z hs), ne_eq, if_pos hs]
  · simp only [if_pos hs, ne_eq, if_neg hs]
theorem seX_n {c : Nat} (h0 : c ≠ r) (h2 : c ≠ r + 2) (h4 : c ≠ r + 4) : seX X r a ρ p c = X c := by
  unfold seX
  split
  · rw [upA_n h2, upA_n h0, upA_n h4]
  · rw [upA_n h0, upA_n h4]
theorem seX_7 : seX X r a ρ p r 7 = nI (knN a + 1) := by
  unfold seX
  split
  · rw [upA_n (by omega), upA_s, upd_n (by decide), upd_s]
  · rw [upA_s, upd_n (by decide), upd_s]
theorem seX_4 : seX X r a ρ p (r + 4) = kcF X r a (nI p) (rS ρ p) := by
  unfold seX
  split
  · rw [upA_n (by omega), upA_n (by omega), upA_s]
  · rw [upA_n (by omega), upA_s]
theorem askR_n {j : Nat} (h3 : j ≠ 3) (hs : j ≠ 5 + 4 * p + 3) : askR ρ p j = ρ j := by
  unfold askR
  split
  · rw [upd_n hs, upd_n h3]
  · rw [upd_n h3]
theorem askR_3 : askR ρ p 3 = thenI ρ p := by
  unfold askR
  split
  · rw [upd_n (by omega), upd_s]
  · rw [upd_s]
theorem askR_S (t : Nat) : rS (askR ρ p) t = askO ρ p t := by
  unfold askR askO rS
  by_cases ht : t = p
  · subst ht
    rw [if_pos rfl]
    by_cases hs : rK ρ t ≠ 3 ∨ 10 ≤ thenI ρ t
    · rw [if_pos hs, if_pos hs, upd_s]
    · rw [if_neg hs, if_neg hs, upd_n (by omega)]
  · rw [if_neg ht]
    split
    · rw [upd_n (by omega), upd_n (by omega)]
    · rw [upd_n (by omega)]
theorem askR_K (t : Nat) : rK (askR ρ p) t = rK ρ t := askR_n (by omega) (by omega)
theorem askR_F (t : Nat) : rF (askR ρ p) t = rF ρ t := askR_n (by omega) (by omega)
theorem askR_P (t : Nat) : rP (askR ρ p) t = rP ρ t := askR_n (by omega) (by omega)
theorem askR_H (t : Nat) (h : p < 8) : rH (askR ρ p) t = rH ρ t := askR_n (by omega) (by omega)
theorem RR.ask (hr : RR X R TH r ρ T Hn) (hp8 : p < T) : RR (seX X r a ρ p) R TH r (askR ρ p) T Hn := by
  have h8 := hr.2.2.2.1
  obtain ⟨h0, h5, r1, -, h6, r2, h8', h3, h4, ht, hh⟩ := hr
  have es : ∀ j, j ≠ 7 → j ≠ 8 → seX X r a ρ p r j = X r j := by
    intro j h7 h8
    unfold seX
    split
    · rw [upA_n (by omega), upA_s, upd_n h8, upd_n h7]
    · rw [upA_s, upd_n h8, upd_n h7]
  have e8 : seX X r a ρ p r 8 = thenI ρ p := by
    unfold seX
    split
    · rw [upA_n (by omega), upA_s, upd_s]
    · rw [upA_s, upd_s]
  refine ⟨?_, ?_, ?_, h8, ?_, ?_, h8', ?_, ?_, ?_, ?_⟩
  · rw [es 4 (by decide) (by decide), askR_n (by decide) (by omega)]; exact h0
  · rw [es 5 (by decide) (by decide)]; exact h5
  · rw [askR_n (by decide) (by omega)]; exact r1
  · rw [es 6 (by decide) (by decide)]; exact h6
  · rw [askR_n (by decide) (by omega)]; exact r2
  · rw [e8, askR_3]
  · rw [es 9 (by decide) (by decide), askR_n (by decide) (by omega)]; exact h4
  · intro t htT
    obtain ⟨q, κ, hq, hth, hk, hs⟩ := ht t htT
    refine ⟨q, κ, hq, ?_, ?_, ?_⟩
    · rw [askR_F, askR_P]; exact hth
    · rw [askR_K]; exact hk
    · rw [askR_S]
      unfold seX askO
      by_cases e : t = p
      · subst e
        rw [if_pos rfl]
        by_cases hs' : rK ρ t ≠ 3 ∨ 10 ≤ thenI ρ t
        · rw [if_pos hs', if_pos hs', upA_s, upd_s]
        · rw [if_neg hs', if_neg hs', upA_n (by omega), upA_n (by omega)]; exact hs
      · rw [if_neg e]
        split
        · rw [upA_s, upd_n e]; exact hs
        · rw [upA_n (by omega), upA_n (by omega)]; exact hs
  · intro t htH
    rw [askR_H t (by omega), seX_n (by omega) (by omega) (by omega)]
    exact hh t htH
/-- tryHarm -/
def tyX (X : hX) (r a : Nat) (ρ : Nat → Int32) (v : Int32) : hX := upA (upA X (r + 4) (kcF X r a (-1000000) (-1000000))) r (upd (upd (X r) 7 (nI (knN a + 1))) 9 (ρ 4 + v))
theorem t52 {x : Int32} (h : isRealm r) (hr : RR X R TH r ρ T Hn) (hov : OV ρ T (ρ 3) (ρ 0)) (ha : X r 7 = nI a) (h24 : a ≤ 24) : wc (d + 3) 52 [.ref r, .int x] (hp X R TH N) Q ↔ Q (some (.int (openI ρ (rS ρ) (ρ 3) (ρ 0) T Hn >>> (x &&& 31) &&& 1))) (hp (tyX X r a ρ (openI ρ (rS ρ) (ρ 3) (ρ 0) T Hn >>> (x &&& 31) &&& 1)) R TH N) := by
  have h38 := hr.2.2.2.2.2.2.2.1
  have h4 := hr.2.2.2.2.2.2.2.2.1
  have n1 : (r = r + 4) = False := eq_false (by omega)
  simp only [S52, GRealm h, h38, t59 h hr hov, t55N h ha h24, px_op_some, px_op_none, tl_some, tl_none, ap_one, ap_nil, z01, o01, true_and, and_true, true_or, or_true, i10, i01, if_true, if_false, eq_self, upA_s, upA_n, upd_s, upd_n, ne_eq, Nat.reduceEqDiff, not_false_eq_true, kcX, n1, h4, upA_upA]
  unfold tyX
  rcases and1 (openI ρ (rS ρ) (ρ 3) (ρ 0) T Hn >>> (x &&& 31)) with e | e
  · have e9 : upd (upd (X r) 7 (nI (knN a + 1))) 9 (ρ 4 + 0) = upd (X r) 7 (nI (knN a + 1)) := by
      funext j
      rw [i_add0]
      by_cases hj : j = 9
      · subst hj; rw [upd_s, upd_n (by decide)]; exact h4.symm
      · rw [upd_n hj]
    simp only [e, e9, i01, if_false, S52, px_op_some, px_op_none, tl_some, tl_none, ap_one, ap_nil, z01, o01, true_and, and_true, true_or, or_true, i10, i01, if_true, if_false, eq_self]
  · simp only [e, if_true, S52, GRealm h, px_op_some, px_op_none, tl_some, tl_none, ap_one, ap_nil, z01, o01, true_and, and_true, true_or, or_true, i10, i01, if_true, if_false, eq_self, upA_s, upA_n, upd_s, upd_n, ne_eq, Nat.reduceEqDiff, not_false_eq_true, h4, upA_upA, n1]
theorem RR.try9 {v : Int32} (hr : RR X R TH r ρ T Hn) : RR (tyX X r a ρ v) R TH r (upd ρ 4 (ρ 4 + v)) T Hn := by
  obtain ⟨h0, h5, r1, h8, h6, r2, h8', h3, h4, ht, hh⟩ := hr
  unfold tyX
  refine ⟨?_, ?_, ?_, h8, ?_, ?_, h8', ?_, ?_, ?_, ?_⟩
  · rw [upA_s, upd_n (by decide), upd_n (by decide), upd_n (by decide)]; exact h0
  · rw [upA_s, upd_n (by decide), upd_n (by decide)]; exact h5
  · rw [upd_n (by decide)]; exact r1
  · rw [upA_s, upd_n (by decide), upd_n (by decide)]; exact h6
  · rw [upd_n (by decide)]; exact r2
  · rw [upA_s, upd_n (by decide), upd_n (by decide), upd_n (by decide)]; exact h3
  · rw [upA_s, upd_s, upd_s]
  · intro t htT
    obtain ⟨q, κ, hq, hth, hk, hs⟩ := ht t htT
    refine ⟨q, κ, hq, ?_, ?_, ?_⟩
    · unfold rF rP; rw [upd_n (by omega), upd_n (by omega)]; exact hth
    · unfold rK; rw [upd_n (by omega)]; exact hk
    · unfold rS; rw [upA_n (by omega), upA_n (by omega), upd_n (by omega)]; exact hs
  · intro t htH
    unfold rH
    rw [upA_n (by omega), upA_n (by omega), upd_n (by omega)]
    exact hh t htH
/-- letPass -/
def lpX (X : hX) (r a : Nat) (v : Int32) : hX := upA (upA X (r + 4) (kcF X r a (-1000000) (-1000000))) r (upd (upd (X r) 7 (nI (knN a + 1))) 8 v)
theorem t53 {x : Int32} (h : isRealm r) (ha : X r 7 = nI a) (h24 : a ≤ 24) : wc (d + 2) 53 [.ref r, .int x] (hp X R TH N) Q ↔ Q none (hp (lpX X r a (X r 8 + x)) R TH N) := by
  have n1 : (r = r + 4) = False := eq_false (by omega)
  simp only [S53, GRealm h, t55N h ha h24, px_op_some, px_op_none, tl_some, tl_none, ap_one, ap_nil, z01, o01, true_and, and_true, true_or, or_true, i10, i01, if_true, if_false, eq_self, upA_s, upA_n, upd_s, upd_n, ne_eq, Nat.reduceEqDiff, not_false_eq_true, kcX, n1, upA_upA]
  rfl
theorem RR.pass {v : Int32} (hr : RR X R TH r ρ T Hn) : RR (lpX X r a v) R TH r (upd ρ 3 v) T Hn := by
  obtain ⟨h0, h5, r1, h8, h6, r2, h8', h3, h4, ht, hh⟩ := hr
  unfold lpX
  refine ⟨?_, ?_, ?_, h8, ?_, ?_, h8', ?_, ?_, ?_, ?_⟩
  · rw [upA_s, upd_n (by decide), upd_n (by decide), upd_n (by decide)]; exact h0
  · rw [upA_s, upd_n (by decide), upd_n (by decide)]; exact h5
  · rw [upd_n (by decide)]; exact r1
  · rw [upA_s, upd_n (by decide), upd_n (by decide)]; exact h6
  · rw [upd_n (by decide)]; exact r2
  · rw [upA_s, upd_s, upd_s]
  · rw [upA_s, upd_n (by decide), upd_n (by decide), upd_n (by decide)]; exact h4
  · intro t htT
    obtain ⟨q, κ, hq, hth, hk, hs⟩ := ht t htT
    refine ⟨q, κ, hq, ?_, ?_, ?_⟩
    · unfold rF rP; rw [upd_n (by omega), upd_n (by omega)]; exact hth
    · unfold rK; rw [upd_n (by omega)]; exact hk
    · unfold rS; rw [upA_n (by omega), upA_n (by omega), upd_n (by omega)]; exact hs
  · intro t htH
    unfold rH
    rw [upA_n (by omega), upA_n (by omega), upd_n (by omega)]
    exact hh t htH
/-- undoLatest: the latest act is a -/
def udX (X : hX) (r a : Nat) : hX := upA X r (upd (upd (upd (X r) 7 (nI a)) 8 (X (r + 4) (4 * a + 2))) 9 (X (r + 4) (4 * a + 3)))
theorem t54_0 (h : isRealm r) (ha : X r 7 = 0) : wc d 54 [.ref r] (hp X R TH N) Q ↔ Q (some (.int 0)) (hp X R TH N) := by
  have e : ((0 : Int32) < 1) = True := by decide
  simp only [S54, GRealm h, ha, e, px_op_some, px_op_none, tl_some, tl_none, ap_one, ap_nil, z01, o01, true_and, and_true, true_or, or_true, i10, i01, if_true, if_false, eq_self]
theorem e4a (a : Nat) : nI a * 4 = nI (4 * a) ∧ nI (4 * a) + 2 = nI (4 * a + 2) ∧ nI (4 * a) + 3 = nI (4 * a + 3) :=
  ⟨by rw [show (4 : Int32) = nI 4 from rfl, pk_mul, Nat.mul_comm], by rw [show (2 : Int32) = nI 2 from rfl, nI_add], by rw [show (3 : Int32) = nI 3 from rfl, nI_add]⟩
theorem t54N (h : isRealm r) (ha : X r 7 = nI (a + 1)) (h24 : a < 24) (hn : X (r + 4) (4 * a) = -1000000) : wc (d + 1) 54 [.ref r] (hp X R TH N) Q ↔ Q (some (.int 1)) (hp (udX X r a) R TH N) := by
  have n1 : (r = r + 4) = False := eq_false (by omega)
  have n2 : (r + 4 = r) = False := eq_false (by omega)
  have e1 : nI (a + 1) - 1 = nI a := nI_pred a
  have c1 : (nI (a + 1) < 1) = False := eq_false (by rw [Int32.not_lt]; exact nI_le (a := 1) (by omega) (by omega))
  have c2 : (nI (a + 1) ≤ 24) = True := eq_true (nI_le (b := 24) (by omega) (by decide))
  simp only [S54, GRealm h, ha, c1, c2, e1, e4a, nI_1, rg4 h (show 4 * a < 96 by omega), rg4 h (show 4 * a + 1 < 96 by omega), rg4 h (show 4 * a + 2 < 96 by omega), rg4 h (show 4 * a + 3 < 96 by omega), hn, t56n, px_op_some, px_op_none, tl_some, tl_none, ap_one, ap_nil, z01, o01, true_and, and_true, true_or, or_true, i10, i01, if_true, if_false, eq_self, upA_s, upA_n, upd_s, upd_n, ne_eq, Nat.reduceEqDiff, not_false_eq_true, n1, n2, upA_upA]
  rfl
theorem t54p (h : isRealm r) (hT : X r 5 = nI T) (h8 : T ≤ 8) (hp8 : p < T) (ha : X r 7 = nI (a + 1)) (h24 : a < 24) (hn : X (r + 4) (4 * a) = nI p) : wc (d + 1) 54 [.ref r] (hp X R TH N) Q ↔ Q (some (.int 1)) (hp (upA (udX X r a) (r + 2) (upd (X (r + 2)) p (X (r + 4) (4 * a + 1)))) R TH N) := by
  have n1 : (r = r + 4) = False := eq_false (by omega)
  have n2 : (r + 4 = r) = False := eq_false (by omega)
  have n3 : (r = r + 2) = False := eq_false (by omega)
  have n4 : (r + 2 = r) = False := eq_false (by omega)
  have n5 : (r + 4 = r + 2) = False := eq_false (by omega)
  have e1 : nI (a + 1) - 1 = nI a := nI_pred a
  have c1 : (nI (a + 1) < 1) = False := eq_false (by rw [Int32.not_lt]; exact nI_le (a := 1) (by omega) (by omega))
  have c2 : (nI (a + 1) ≤ 24) = True := eq_true (nI_le (b := 24) (by omega) (by decide))
  have t56' := fun v Q => t56 (d := d) (X := upA X r (upd (X r) 7 (nI a))) (R := R) (TH := TH) (N := N) (Q := Q) (v := v) h (T := T) (p := p) (by rw [upA_s, upd_n (by decide)]; exact hT) h8 hp8
  have cm : ∀ (f g f' : Nat → Int32), upA (upA (upA X r f) (r + 2) g) r f' = upA (upA X r f') (r + 2) g := fun f g f' => by rw [upA_comm (by omega), upA_upA]
  simp only [S54, GRealm h, ha, c1, c2, e1, e4a, nI_1, rg4 h (show 4 * a < 96 by omega), rg4 h (show 4 * a + 1 < 96 by omega), rg4 h (show 4 * a + 2 < 96 by omega), rg4 h (show 4 * a + 3 < 96 by omega), hn, t56', px_op_some, px_op_none, tl_some, tl_none, ap_one, ap_nil, z01, o01, true_and, and_true, true_or, or_true, i10, i01, if_true, if_false, eq_self, upA_s, upA_n, upd_s, upd_n, ne_eq, Nat.reduceEqDiff, not_false_eq_true, n1, n2, n3, n4, n5, upA_upA, cm]
  rfl
end C5
