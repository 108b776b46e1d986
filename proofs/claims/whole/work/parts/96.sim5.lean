/-! class and reference: rows, the tape -/
section C43
variable {X X' : hX} {R : hR} {TH : hT} {N T Hn i : Nat}
theorem Inv.row (h : Inv X R TH N) (hi : i < 8) (c : ∀ c, c ≠ 0 → c ≠ 51 → c ≠ 52 → c ≠ 53 → c ≠ 54 → c ≠ 25 + 2 * i → c ≠ 26 + 2 * i → X' c = X c) (h51 : ∀ j, j ≠ 3 → X' 51 j = X 51 j) (h7 : X' 0 7 = X 0 7) (h8 : X' 0 8 = X' 51 3) (h52 : ∀ j, j ≠ i → X' 52 j = X 52 j) (h53 : ∀ j, j ≠ i → X' 53 j = X 53 j) (h54 : ∀ k, ¬ (40 * i ≤ k ∧ k < 40 * i + 40) → X' 54 k = X 54 k) (hr : RowI X' R i) : Inv X' R TH N := by
  refine h.kp ⟨fun c' a0 a2 a3 a4 a5 a6 a7 a8 a9 => c c' a0 a5 a6 a7 a8 (by omega) (by omega), h51 _ (by decide), h51 _ (by decide), h51 _ (by decide), h7, h51 _ (by decide)⟩ h8 (fun k hk => ?_) ?_
  · rcases Nat.decEq k i with z | z
    · exact (h.2.1 k hk).c rfl (h52 k z) (h53 k z) (fun j hj => h54 _ (by omega)) (c _ (by omega) (by omega) (by omega) (by omega) (by omega) (by omega) (by omega)) (c _ (by omega) (by omega) (by omega) (by omega) (by omega) (by omega) (by omega))
    · rw [z]; exact hr
  · obtain ⟨t, ht⟩ := h.2.2.1
    exact ⟨t, ht.c (by rw [c 2 (by omega) (by omega) (by omega) (by omega) (by omega) (by omega) (by omega)]) (c 3 (by omega) (by omega) (by omega) (by omega) (by omega) (by omega) (by omega)) (c 58 (by omega) (by omega) (by omega) (by omega) (by omega) (by omega) (by omega)) (h51 _ (by decide))⟩
end C43
theorem sim_row {x ln n : Int32} : Sim 98 144 [.int x, .int ln, .int n] := by
  intro d X R TH N h
  have bad : ¬ ((0 ≤ x ∧ x ≤ 7) ∧ (0 ≤ ln ∧ ln ≤ 2) ∧ n ≤ 40) → wc (d + 12) 144 [.ref 51, .int x, .int ln, .int n] (hp X R TH N) (PI (some (.int (-1000001)))) := fun z => by
    rw [t144 (d := d + 10), if_neg z]
    exact PI.mk rfl h
  by_cases hx : 0 ≤ x ∧ x ≤ 7
  · obtain ⟨r, hr8, rfl⟩ := in8 hx
    obtain ⟨rr, ri, sz, hsz, h53, hcase⟩ := h.2.1 r hr8
    have hrow := rw25 hr8
    by_cases l0 : ln < 0
    · simp only [S98, G0, t131 hr8 rr, l0, px_op_some, px_op_none, tl_some, tl_none, ap_one, ap_nil, z01, o01, true_and, and_true, true_or, or_true, i10, i01, if_true, if_false, eq_self]
      exact bad (fun z => absurd z.2.1.1 (by rw [Int32.not_le]; exact l0))
    by_cases l2 : ln ≤ 2
    · have l2' : ¬ 2 < ln := by rw [Int32.not_lt]; exact l2
      by_cases n4 : n ≤ 40
      · have hall : (0 ≤ nI r ∧ nI r ≤ 7) ∧ (0 ≤ ln ∧ ln ≤ 2) ∧ n ≤ 40 := ⟨hx, ⟨Int32.not_lt.mp l0, l2⟩, n4⟩
        by_cases n0 : n < 0
        · have n0' : ¬ 0 ≤ n := by rw [Int32.not_le]; exact n0
          have e1 : (-1000010 : Int32) - 4 = -1000014 := by decide
          simp only [S98, G0, t131 hr8 rr, l0, l2', n4, n0', t129, e1, px_op_some, px_op_none, tl_some, tl_none, ap_one, ap_nil, z01, o01, true_and, and_true, true_or, or_true, i10, i01, if_true, if_false, eq_self]
          rw [t144 (d := d + 10), if_pos hall, if_pos n0, upA_n (show (51 : Nat) ≠ 0 by decide)]
          exact PI.fl h rfl
        · obtain ⟨m, hm, rfl⟩ := i_ofle (n := 40) (Int32.not_lt.mp n0) n4 (by decide)
          obtain ⟨l, hl, rfl⟩ := i_ofle (n := 2) (Int32.not_lt.mp l0) l2 (by decide)
          have n0' := Int32.not_lt.mp n0
          simp only [S98, G0, GRow hrow, t131 hr8 rr, l0, l2', n4, n0', t69 hrow, t130, px_op_some, px_op_none, tl_some, tl_none, ap_one, ap_nil, z01, o01, true_and, and_true, true_or, or_true, i10, i01, if_true, if_false, eq_self]
          rw [t144 (d := d + 10), if_pos hall, if_neg n0, nI_clamp (by omega)]
          refine PI.mk rfl ?_
          unfold rwX lyX
          have e26 : 25 + 2 * r + 1 = 26 + 2 * r := by omega
          rw [e26]
          refine h.row hr8 (fun c a0 a1 a2 a3 a4 a5 a6 => ?_) (fun j hj => ?_) ?_ ?_ (fun j hj => ?_) (fun j hj => ?_) (fun j hj => ?_) ⟨rr, fun k hk => ?_, m, hm, ?_, Or.inr ⟨l, by omega, ?_, ?_, ?_⟩⟩
          · simp (disch := omega) only [upA_n]
          · simp (disch := omega) only [upA_n, upA_s, upd_n]
          · simp (disch := omega) only [upA_n, upA_s, upd_n]
          · simp (disch := omega) only [upA_n, upA_s, upd_n, upd_s]
          · simp (disch := omega) only [upA_n, upA_s, upd_n, upd_s]
          · simp (disch := omega) only [upA_n, upA_s, upd_n, upd_s]
          · simp (disch := omega) only [upA_n, upA_s, upd_n, upd_s]
            exact if_neg hj
          · simp (disch := omega) only [upA_n, upA_s, upd_n, upd_s]
            unfold zr fi
            rw [if_pos (by omega), if_pos hk]
          · simp (disch := omega) only [upA_n, upA_s, upd_n, upd_s]
          · simp (disch := omega) only [upA_n, upA_s, upd_n, upd_s]
            exact nI_1 l
          · simp (disch := omega) only [upA_n, upA_s, upd_n, upd_s]
          · simp (disch := omega) only [upA_n, upA_s, upd_n, upd_s]
      · simp only [S98, G0, t131 hr8 rr, l0, l2', n4, px_op_some, px_op_none, tl_some, tl_none, ap_one, ap_nil, z01, o01, true_and, and_true, true_or, or_true, i10, i01, if_true, if_false, eq_self]
        exact bad (fun z => n4 z.2.2)
    · have l2' : 2 < ln := Int32.not_le.mp l2
      simp only [S98, G0, t131 hr8 rr, l0, l2', px_op_some, px_op_none, tl_some, tl_none, ap_one, ap_nil, z01, o01, true_and, and_true, true_or, or_true, i10, i01, if_true, if_false, eq_self]
      exact bad (fun z => l2 z.2.1.2)
  · simp only [S98, G0, t131n hx, px_op_some, px_op_none, tl_some, tl_none, ap_one, ap_nil, z01, o01, true_and, and_true, true_or, or_true, i10, i01, if_true, if_false, eq_self]
    exact bad (fun z => hx z.1)
theorem sim_drop {x : Int32} : Sim 101 147 [.int x] := by
  intro d X R TH N h
  by_cases hx : 0 ≤ x ∧ x ≤ 7
  · obtain ⟨r, hr8, rfl⟩ := in8 hx
    obtain ⟨rr, ri, sz, hsz, h53, hcase⟩ := h.2.1 r hr8
    have hrow := rw25 hr8
    rcases hcase with ⟨z1, z2⟩ | ⟨ln, hln, z1, z2, z3⟩
    · have e1 : (-1000010 : Int32) - 1 = -1000011 := by decide
      simp only [S101, G0, GRow hrow, t131 hr8 rr, t67 hrow, z2, t129, b2_0, not_true_eq_false, e1, px_op_some, px_op_none, tl_some, tl_none, ap_one, ap_nil, z01, o01, true_and, and_true, true_or, or_true, i10, i01, if_true, if_false, eq_self]
      rw [t147 (d := d + 10) hr8 rfl, upA_n (show (52 : Nat) ≠ 0 by decide), if_pos z1, upA_n (show (51 : Nat) ≠ 0 by decide)]
      exact PI.fl h rfl
    · have l0 : ¬ X 52 r = 0 := by rw [z1, nI_0i (by omega)]; omega
      simp only [S101, G0, GRow hrow, t131 hr8 rr, t67 hrow, z3, szn hsz, t68 hrow, t130, b2_0, not_false_eq_true, not_true_eq_false, px_op_some, px_op_none, tl_some, tl_none, ap_one, ap_nil, z01, o01, true_and, and_true, true_or, or_true, i10, i01, if_true, if_false, eq_self]
      rw [t147 (d := d + 10) hr8 rfl]
      have e52 : upA (upA X (25 + 2 * r) (upd (X (25 + 2 * r)) 2 (-1))) 0 (upd (upA X (25 + 2 * r) (upd (X (25 + 2 * r)) 2 (-1)) 0) 8 0) 52 r = X 52 r := by simp (disch := omega) only [upA_n]
      have e53 : upA (upA X (25 + 2 * r) (upd (X (25 + 2 * r)) 2 (-1))) 0 (upd (upA X (25 + 2 * r) (upd (X (25 + 2 * r)) 2 (-1)) 0) 8 0) 53 r = X 53 r := by simp (disch := omega) only [upA_n]
      rw [e52, e53, if_neg l0, h53]
      refine PI.mk rfl (h.row hr8 (fun c a0 a1 a2 a3 a4 a5 a6 => ?_) (fun j hj => ?_) ?_ ?_ (fun j hj => ?_) (fun j hj => ?_) (fun j hj => ?_) ⟨rr, fun k hk => ?_, sz, hsz, ?_, Or.inl ⟨?_, ?_⟩⟩)
      all_goals simp (disch := omega) only [upA_n, upA_s, upd_n, upd_s]
      · exact ri k hk
      · exact h53
  · simp only [S101, G0, t131n hx, px_op_some, px_op_none, tl_some, tl_none, ap_one, ap_nil, z01, o01, true_and, and_true, true_or, or_true, i10, i01, if_true, if_false, eq_self]
    rw [t147b (d := d + 10) hx]
    exact PI.mk rfl h
theorem nar_l {ln : Nat} {v : Int32} (h : ln < 3) : (if nI ln = 0 then v.toInt8.toInt32 else if nI ln = 1 then v.toInt16.toInt32 else v) = narI (nI (ln + 1)) v := by
  unfold narI
  match ln, h with
  | 0, _ => rfl
  | 1, _ => rfl
  | 2, _ => rfl
theorem sim_set {x i v : Int32} : Sim 99 145 [.int x, .int i, .int v] := by
  intro d X R TH N h
  by_cases hx : 0 ≤ x ∧ x ≤ 7
  · obtain ⟨r, hr8, rfl⟩ := in8 hx
    obtain ⟨rr, ri, sz, hsz, h53, hcase⟩ := h.2.1 r hr8
    have hrow := rw25 hr8
    rcases hcase with ⟨z1, z2⟩ | ⟨ln, hln, z1, z2, z3⟩
    · have e1 : (-1000010 : Int32) - 1 = -1000011 := by decide
      simp only [S99, G0, GRow hrow, t131 hr8 rr, t67 hrow, z2, t129, b2_0, not_true_eq_false, e1, px_op_some, px_op_none, tl_some, tl_none, ap_one, ap_nil, z01, o01, true_and, and_true, true_or, or_true, i10, i01, if_true, if_false, eq_self]
      rw [t145 (d := d + 10) (sz := sz) hr8 rfl (by rw [upA_n (by decide)]; exact h53) hsz, upA_n (show (52 : Nat) ≠ 0 by decide), if_pos z1, upA_n (show (51 : Nat) ≠ 0 by decide)]
      exact PI.fl h rfl
    · have l0 : ¬ X 52 r = 0 := by rw [z1, nI_0i (by omega)]; omega
      by_cases hi : 0 ≤ i ∧ 0 ≤ (1 : Int32) ∧ i ≤ nI sz - 1
      · have hm1 : 0 < sz := by
          rcases Nat.eq_zero_or_pos sz with z | z
          · subst z
            exact absurd (Int32.le_trans hi.1 hi.2.2) (by decide)
          · exact z
        have hi2 := hi.2.2
        rw [nI_m1 hm1] at hi2
        obtain ⟨j, hj, rfl⟩ := i_ofle hi.1 hi2 (by omega)
        have hj' : j < sz := by omega
        have hi' : 0 ≤ nI j ∧ nI j ≤ nI sz - 1 := ⟨hi.1, hi.2.2⟩
        have e26 : 25 + 2 * r + 1 = 26 + 2 * r := by omega
        simp only [S99, G0, GRow hrow, t131 hr8 rr, t67 hrow, t70 hrow, t71 hrow z3 hsz hj', z3, z2, szn hsz, nar_l hln, sp1 hj' hsz, t130, b2_0, not_false_eq_true, not_true_eq_false, px_op_some, px_op_none, tl_some, tl_none, ap_one, ap_nil, z01, o01, true_and, and_true, true_or, or_true, i10, i01, if_true, if_false, eq_self]
        rw [t145 (d := d + 10) (sz := sz) hr8 rfl (by simp (disch := omega) only [upA_n]; exact h53) hsz]
        have e52 : upA (upA X (25 + 2 * r + 1) (upd (X (25 + 2 * r + 1)) j (narI (nI (ln + 1)) v))) 0 (upd (upA X (25 + 2 * r + 1) (upd (X (25 + 2 * r + 1)) j (narI (nI (ln + 1)) v)) 0) 8 0) 52 r = nI (ln + 1) := by simp (disch := omega) only [upA_n]; exact z1
        rw [e52, if_neg (by rw [← z1]; exact l0), if_pos hi', nI_clamp (by omega), e26]
        refine PI.mk rfl (h.row hr8 (fun c a0 a1 a2 a3 a4 a5 a6 => ?_) (fun j hj => ?_) ?_ ?_ (fun j hj => ?_) (fun j hj => ?_) (fun j hj => ?_) ⟨rr, fun k hk => ?_, sz, hsz, ?_, Or.inr ⟨ln, hln, ?_, ?_, ?_⟩⟩)
        all_goals simp (disch := omega) only [upA_n, upA_s, upd_n, upd_s]
        · unfold upd
          by_cases hk' : k = j
          · rw [if_pos (by omega), if_pos hk']
          · rw [if_neg (by omega), if_neg hk']
            exact ri k hk
        · exact h53
        · exact z1
        · exact z2
        · exact z3
      · have e1 : (-1000010 : Int32) - 2 = -1000012 := by decide
        have hi' : ¬ (0 ≤ i ∧ i ≤ nI sz - 1) := fun z => hi ⟨z.1, by decide, z.2⟩
        simp only [S99, G0, GRow hrow, t131 hr8 rr, t67 hrow, t70 hrow, z3, szn hsz, hi, t129, b2_0, not_false_eq_true, not_true_eq_false, e1, px_op_some, px_op_none, tl_some, tl_none, ap_one, ap_nil, z01, o01, true_and, and_true, true_or, or_true, i10, i01, if_true, if_false, eq_self]
        rw [t145 (d := d + 10) (sz := sz) hr8 rfl (by rw [upA_n (by decide)]; exact h53) hsz, upA_n (show (52 : Nat) ≠ 0 by decide), if_neg l0, if_neg hi', upA_n (show (51 : Nat) ≠ 0 by decide)]
        exact PI.fl h rfl
  · simp only [S99, G0, t131n hx, px_op_some, px_op_none, tl_some, tl_none, ap_one, ap_nil, z01, o01, true_and, and_true, true_or, or_true, i10, i01, if_true, if_false, eq_self]
    rw [t145b (d := d + 10) hx]
    exact PI.mk rfl h
theorem byte_and : ∀ n : Nat, n < 256 → (nI n).toInt8.toInt32 &&& 255 = nI n := by decide +kernel
theorem sim_feed {c : Int32} : Sim 102 155 [.int c] := by
  intro d X R TH N h
  obtain ⟨t, ht⟩ := h.2.2.1
  obtain ⟨h2, h10, h120, hby⟩ := ht
  by_cases c0 : c < 0
  · simp only [S102, G0, c0, px_op_some, px_op_none, tl_some, tl_none, ap_one, ap_nil, z01, o01, true_and, and_true, true_or, or_true, i10, i01, if_true, if_false, eq_self]
    rw [t155 (d := d + 11) h10 h120, if_neg (fun z => absurd z.1 (by rw [Int32.not_le]; exact c0))]
    exact PI.mk rfl h
  by_cases c5 : c ≤ 255
  · have hc : 0 ≤ c ∧ c ≤ 255 := ⟨Int32.not_lt.mp c0, c5⟩
    obtain ⟨b, hb, rfl⟩ := i_ofle (n := 255) hc.1 hc.2 (by decide)
    by_cases h1 : t = 120
    · simp only [S102, G0, G2, c0, c5, t31 h2 h120, h1, px_op_some, px_op_none, tl_some, tl_none, ap_one, ap_nil, z01, o01, true_and, and_true, true_or, or_true, i10, i01, if_true, if_false, eq_self]
      rw [t155 (d := d + 11) h10 h120, if_pos hc, if_pos h1]
      exact PI.mk rfl h
    · simp only [S102, G0, G2, c0, c5, t31 h2 h120, h1, px_op_some, px_op_none, tl_some, tl_none, ap_one, ap_nil, z01, o01, true_and, and_true, true_or, or_true, i10, i01, if_true, if_false, eq_self, upA_s, upA_n, upd_s, upd_n, ne_eq, Nat.reduceEqDiff, not_false_eq_true]
      rw [t155 (d := d + 11) (t := t) (by simp (disch := omega) only [upA_n]; exact h10) h120, if_pos hc, if_neg h1]
      refine PI.mk rfl (h.kp ⟨fun c a0 a2 a3 a4 a5 a6 a7 a8 a9 => ?_, ?_, ?_, ?_, ?_, ?_⟩ ?_ (h.2.1.c rfl (fun c hc => ?_) ?_ ?_ ?_) ⟨t + 1, ?_, ?_, by omega, fun k hk => ?_⟩)
      all_goals simp (disch := omega) only [upA_n, upA_s, upd_n, upd_s]
      · exact h.1.2.1
      · unfold upd
        by_cases hk' : k = t
        · rw [if_pos hk', if_pos hk', byte_and b (by omega)]
          exact ⟨rfl, hc.1⟩
        · rw [if_neg hk', if_neg hk']
          exact hby k (by omega)
  · simp only [S102, G0, c0, c5, px_op_some, px_op_none, tl_some, tl_none, ap_one, ap_nil, z01, o01, true_and, and_true, true_or, or_true, i10, i01, if_true, if_false, eq_self]
    rw [t155 (d := d + 11) h10 h120, if_neg (fun z => c5 z.2)]
    exact PI.mk rfl h
