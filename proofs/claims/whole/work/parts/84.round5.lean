/-! rounds: the class seeks, and answers -/
section C31
variable {d : Nat} {X : hX} {R : hR} {TH : hT} {N T Hn B D : Nat} {ρ : Nat → Int32} {b : Option (List Nat)} {Q : Option Value → px_H → Prop}
theorem t16 (hr : RR X R TH 9 ρ T Hn) (ho : OKR R TH 9) (hwf : WF ρ T Hn B) (hB : B ≤ 1000) (hD : ρ 3 = nI D) (hD9 : D ≤ 1000) (hQ : ∀ X' R' b, DF X R X' R' → BR ρ T Hn X' b → Bst ρ T Hn b → Q none (hp X' R' TH N)) : wc (d + 8) 16 [.ref 15, .ref 9] (hp X R TH N) Q := by
  obtain ⟨hl, hl7⟩ := RR.like (r := 16) hr
  have n15 : (15 : Nat) ≠ 9 := by decide
  have e8 : ∀ f : Nat → Int32, (upA (blX X 16 9) 15 f) 9 8 = nI D := fun f => by
    rw [upA_n (by decide), blX_n (by decide) (by decide) (by decide)]
    exact hr.2.2.2.2.2.2.2.1.trans hD
  have f15 : blX X 16 9 15 = X 15 := blX_n (by decide) (by decide) (by decide)
  simp only [S16, G15, GRealm r9, GRealm r16, t46 r16 r9 (show 16 ≠ 9 by decide) ho, f15, e8, upA_upA, px_op_some, px_op_none, tl_some, tl_none, ap_one, ap_nil, z01, o01, true_and, and_true, true_or, or_true, i10, i01, if_true, if_false, eq_self, upA_s, upA_n, upd_s, upd_n, ne_eq, Nat.reduceEqDiff, not_false_eq_true]
  have hgs : GS ρ T Hn (blR R 16 9) TH (upA (blX X 16 9) 15 (upd (upd (X 15) 3 (-1000000)) 4 (-1000000))) [] none := by
    refine ⟨hl.up (by decide) (by decide) (by decide), ?_, fun j hj => absurd hj (Nat.not_lt_zero j), ?_, ?_⟩
    · rw [upA_n (by decide)]; exact hl7
    · rw [upA_s, upd_n (by decide), upd_s]
    · rw [upA_s, upd_s]
  refine t17 hwf hB hD hD9 4 (d + 4) [] _ none 0 _ (by omega) rfl ⟨by decide, List.nodup_nil, fun x hx => absurd hx List.not_mem_nil⟩ hgs (fun u hu => (by cases hu)) (by decide) (fun i _ => by simp) (fun X' b' f1 g1 p1 => ?_)
  simp only [S16, px_op_some, px_op_none, tl_some, tl_none, ap_one, ap_nil, z01, o01, true_and, and_true, true_or, or_true, i10, i01, if_true, if_false, eq_self]
  refine hQ X' _ b' ⟨fun c hc => ?_, fun c hc => blR_n hc⟩ g1.2.2.2 ⟨fun u hu => g1.2.2.2.vs hu, fun v hv => p1.2.2 v hv⟩
  rw [f1.1 c hc, upA_n (by omega), blX_n (by omega) (by omega) (by omega)]
/-- what a round answers -/
def rdI (ρ : Nat → Int32) (what : Int32) : Option (List Nat) → Int32
  | none => -1000000
  | some u => if what = -2 then nI (dyN ρ u) else if what = -1 then nI u.length else if what < nI u.length then nI (u.getD what.toNatClampNeg 0) else -1000000
theorem t19 {k : Nat} (hb : BR ρ T Hn X b) (hk : k < 4) : wc d 19 [.ref 15, .int (nI k)] (hp X R TH N) Q ↔ Q (some (.int (rdI ρ (nI k) b))) (hp X R TH N) := by
  have e0 : (nI k < 0) = False := eq_false (nI_pos (by omega))
  have e4 : ((4 : Int32) ≤ nI k) = False := i_nI_lt (T := 4) hk (by decide)
  have n1 : ¬ nI k = -1 := fun z => by
    have := nI_pos' (show k < 2 ^ 31 by omega)
    rw [z] at this
    exact absurd this (by decide)
  have n2 : ¬ nI k = -2 := fun z => by
    have := nI_pos' (show k < 2 ^ 31 by omega)
    rw [z] at this
    exact absurd this (by decide)
  cases b with
  | none =>
    have h4 := hb.2
    have c : ((-1000000 : Int32) ≤ nI k) = True := eq_true (Int32.le_trans (show (-1000000 : Int32) ≤ 0 by decide) (nI_pos' (by omega)))
    simp only [S19, G15, e0, h4, c, px_op_some, px_op_none, tl_some, tl_none, ap_one, ap_nil, z01, o01, true_and, and_true, true_or, or_true, i10, i01, if_true, if_false, eq_self]
    rfl
  | some u =>
    obtain ⟨-, h4, h5, hv⟩ := hb
    have hl := hv.1.1
    have er : rdI ρ (nI k) (some u) = if nI k < nI u.length then nI (u.getD (nI k).toNatClampNeg 0) else -1000000 := by
      show (if nI k = -2 then _ else _) = _
      rw [if_neg n2, if_neg n1]
    rw [er]
    by_cases hc : k < u.length
    · have c : (nI u.length ≤ nI k) = False := i_nI_lt hc (by omega)
      rw [if_pos (nI_lt hc (by omega)), nI_clamp (by omega)]
      simp only [S19, G15, e0, e4, h4, c, A22_g hk, h5 k hc, px_op_some, px_op_none, tl_some, tl_none, ap_one, ap_nil, z01, o01, true_and, and_true, true_or, or_true, i10, i01, if_true, if_false, eq_self]
    · have c : (nI u.length ≤ nI k) = True := eq_true (nI_le (by omega) (by omega))
      rw [if_neg (by rw [Int32.not_lt]; exact nI_le (by omega) (by omega))]
      simp only [S19, G15, e0, h4, c, px_op_some, px_op_none, tl_some, tl_none, ap_one, ap_nil, z01, o01, true_and, and_true, true_or, or_true, i10, i01, if_true, if_false, eq_self]
end C31
