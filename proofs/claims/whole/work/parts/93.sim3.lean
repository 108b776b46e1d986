/-! class and reference: odds, rounds, what is found -/
theorem sim_odds {x c what : Int32} : Sim 118 197 [.int x, .int c, .int what] := by
  intro d X R TH N h
  obtain ⟨T, Hn, a, hP, -⟩ := h.2.2.2.1
  have hm := hP.mb h.1.1
  have hr := hP.1
  have h8 := hr.2.2.2.2.2.2.1
  have hT8 := hr.2.2.2.1
  have bad : ¬ ((0 ≤ x ∧ x ≤ nI Hn - 1) ∧ (0 ≤ c ∧ c ≤ 10) ∧ (0 ≤ what ∧ what ≤ 1)) → wc (d + 12) 197 [.ref 51, .int x, .int c, .int what] (hp X R TH N) (PI (some (.int (-1000001)))) := fun z => by
    rw [t197b hm z]
    exact PI.mk rfl h
  by_cases hx : 0 ≤ x ∧ x < nI Hn
  · by_cases hc0 : c < 0
    · simp only [S118, G0, GRealm r9, t49 r9 hr, hx, hc0, b2_0, and_self, not_true_eq_false, px_op_some, px_op_none, tl_some, tl_none, ap_one, ap_nil, z01, o01, true_and, and_true, true_or, or_true, i10, i01, if_true, if_false, eq_self]
      exact bad (fun z => absurd z.2.1.1 (by rw [Int32.not_le]; exact hc0))
    by_cases hc1 : 10 < c
    · simp only [S118, G0, GRealm r9, t49 r9 hr, hx, hc0, hc1, b2_0, and_self, not_true_eq_false, px_op_some, px_op_none, tl_some, tl_none, ap_one, ap_nil, z01, o01, true_and, and_true, true_or, or_true, i10, i01, if_true, if_false, eq_self]
      exact bad (fun z => absurd z.2.1.2 (by rw [Int32.not_le]; exact hc1))
    by_cases hw : 0 ≤ what ∧ what ≤ 1
    · obtain ⟨p, hpT, rfl⟩ := (ltT h8).mp hx
      obtain ⟨cn, hcn, rfl⟩ := i_ofle (n := 10) (Int32.not_lt.mp hc0) (Int32.not_lt.mp hc1) (by decide)
      obtain ⟨j, hj, ej⟩ := hP.2.2.2.2 p hpT
      have hj256 : j < 256 := Nat.lt_of_lt_of_le hj (Nat.pow_le_pow_right (n := 2) (by decide) hT8)
      obtain ⟨m, hm256, em⟩ := and_small hj256 (bndI (X 55) (rS (X 55)) (X 55 3) (X 55 0) T)
      obtain ⟨e, he, ee⟩ := many_e m hm256
      have eb : rH (X 55) p &&& bndI (X 55) (rS (X 55)) (X 55 3) (X 55 0) T = nI m := by rw [ej]; exact em
      have hg := od_g e he cn (by omega)
      have fin : wc (d + 12) 197 [.ref 51, .int (nI p), .int (nI cn), .int what] (hp X R TH N) (PI (some (.int (odI e (nI cn) what)))) :=
        t197 hm hpT (by omega) hw he (by rw [Int32.and_comm]; exact eb) ee (fun f => PI.mk rfl (h.sc SCr.s59))
      have eA : powI 10 e - powI (nI cn) e = odA e (nI cn) := rfl
      have eB : powI 10 e = odB e := rfl
      have eG : (if 1 < gdC 64 (odA e (nI cn)) (odB e) then gdC 64 (odA e (nI cn)) (odB e) else 1) = odG e (nI cn) := rfl
      unfold odI at fin
      simp only [S118, G0, GRealm r9, t49 r9 hr, hx, hc0, hc1, hw, t135, t50 r9 hr hpT, hr.2.2.2.2.2.2.2.1, t57 r9 hr (hP.2.ov0 (by decide) _), eb, t222 hm256, ee, t137 (show e < 100 by omega), t138, b2_0, and_self, not_true_eq_false, px_op_some, px_op_none, tl_some, tl_none, ap_one, ap_nil, z01, o01, true_and, and_true, true_or, or_true, i10, i01, if_true, if_false, eq_self]
      rw [eA, eB, eG]
      by_cases h0 : what = 0
      · simp only [h0, if_true, S118, hg, px_op_some, px_op_none, tl_some, tl_none, ap_one, ap_nil, z01, o01, true_and, and_true, true_or, or_true, i10, i01, if_true, if_false, eq_self] at fin ⊢
        exact fin
      · simp only [h0, if_false, S118, hg, px_op_some, px_op_none, tl_some, tl_none, ap_one, ap_nil, z01, o01, true_and, and_true, true_or, or_true, i10, i01, if_true, if_false, eq_self] at fin ⊢
        exact fin
    · simp only [S118, G0, GRealm r9, t49 r9 hr, hx, hc0, hc1, hw, t135, b2_0, and_self, not_true_eq_false, not_false_eq_true, px_op_some, px_op_none, tl_some, tl_none, ap_one, ap_nil, z01, o01, true_and, and_true, true_or, or_true, i10, i01, if_true, if_false, eq_self]
      exact bad (fun z => hw z.2.2)
  · simp only [S118, G0, GRealm r9, t49 r9 hr, hx, b2_0, not_false_eq_true, px_op_some, px_op_none, tl_some, tl_none, ap_one, ap_nil, z01, o01, true_and, and_true, true_or, or_true, i10, i01, if_true, if_false, eq_self]
    exact bad (fun z => hx ((inlt h8).mp z.1))
theorem sim_round {what : Int32} : Sim 114 190 [.int what] := by
  intro d X R TH N h
  obtain ⟨T, Hn, a, hP, -⟩ := h.2.2.2.1
  have hm := hP.mb h.1.1
  have hr := hP.1
  have h8 := hr.2.2.2.1
  have ho := h.2.2.2.2.2.2.2.2.2.2.1
  obtain ⟨D, hD9, hD⟩ := hP.D
  by_cases h0 : 0 < X 55 0
  · by_cases hw : -2 ≤ what ∧ what ≤ 3
    · have c1 : (what < -2) = False := eq_false (by rw [Int32.not_lt]; exact hw.1)
      have c2 : (what < 4) = True := eq_true (Int32.lt_of_le_of_lt hw.2 (by decide))
      have hw' : what = -2 ∨ what = -1 ∨ ∃ j, j < 4 ∧ what = nI j := by
        rcases Int32.lt_or_le what 0 with z | z
        · by_cases z2 : what = -2
          · exact Or.inl z2
          · by_cases z1 : what = -1
            · exact Or.inr (Or.inl z1)
            · exfalso
              have a1 := Int32.lt_iff_toInt_lt.mp z
              have a2 := Int32.le_iff_toInt_le.mp hw.1
              have b0 : (0 : Int32).toInt = 0 := by decide
              have b2 : (-2 : Int32).toInt = -2 := by decide
              rw [b0] at a1
              rw [b2] at a2
              rcases (show what.toInt = -2 ∨ what.toInt = -1 by omega) with y | y
              · exact z2 (Int32.toInt_inj.mp (y.trans b2.symm))
              · exact z1 (Int32.toInt_inj.mp (y.trans (show (-1 : Int32).toInt = -1 by decide).symm))
        · obtain ⟨j, hj, rfl⟩ := i_ofle (n := 3) z hw.2 (by decide)
          exact Or.inr (Or.inr ⟨j, by omega, rfl⟩)
      simp only [S114, G0, G15, GRealm r9, t42 r9, hr.1, h0, c1, c2, b2_0, not_true_eq_false, px_op_some, px_op_none, tl_some, tl_none, ap_one, ap_nil, z01, o01, true_and, and_true, true_or, or_true, i10, i01, if_true, if_false, eq_self]
      refine t16 (d := d + 3) hr ho hP.2 (by decide) hD (by omega) (fun X1 R1 b p1 br bb => ?_)
      have h1' := h.sc (SCr.df p1)
      have e55 : X1 55 = X 55 := p1.1 55 (by omega)
      have hm1 : MB X1 T Hn := by
        unfold MB
        rw [p1.1 51 (by omega), e55]
        exact hm
      have fin : ∀ v : Int32, rdI (X 55) what b = v → wc (d + 12) 190 [.ref 51, .int what] (hp X1 R1 TH N) (PI (some (.int v))) := by
        intro v hv
        refine t190 (d := d + 6) hm1 (by rw [e55]; exact h0) hw (by rw [e55]; exact hP.2) (by decide) (by rw [e55]; exact hD) (by omega) hw' (fun X2 r f2 b2 => PI.mk ?_ (h1'.sc (SCr.rF f2)))
        rw [e55] at b2 ⊢
        rw [Bst.uniq h8 b2 bb]
        exact hv
      simp only [S114, G0, G15, sw_114_39, px_op_some, px_op_none, tl_some, tl_none, ap_one, ap_nil, z01, o01, true_and, and_true, true_or, or_true, i10, i01, if_true, if_false, eq_self]
      rcases hw' with rfl | rfl | ⟨j, hj, rfl⟩
      · simp only [if_true, S114, G0, G15, px_op_some, px_op_none, tl_some, tl_none, ap_one, ap_nil, z01, o01, true_and, and_true, true_or, or_true, i10, i01, if_true, if_false, eq_self]
        refine fin _ ?_
        cases b with
        | none => exact br.1.symm
        | some u => exact br.1.symm
      · have n1 : ((-1 : Int32) = -2) = False := by decide
        simp only [n1, if_true, if_false, S114, G0, G15, px_op_some, px_op_none, tl_some, tl_none, ap_one, ap_nil, z01, o01, true_and, and_true, true_or, or_true, i10, i01, if_true, if_false, eq_self]
        refine fin _ ?_
        cases b with
        | none => exact br.2.symm
        | some u => exact br.2.1.symm
      · have hp0 := nI_pos' (show j < 2 ^ 31 by omega)
        have n1 : (nI j = -1) = False := eq_false (fun z => by rw [z] at hp0; exact absurd hp0 (by decide))
        have n2 : (nI j = -2) = False := eq_false (fun z => by rw [z] at hp0; exact absurd hp0 (by decide))
        simp only [n1, n2, if_false, S114, G0, G15, t19 br hj, px_op_some, px_op_none, tl_some, tl_none, ap_one, ap_nil, z01, o01, true_and, and_true, true_or, or_true, i10, i01, if_true, if_false, eq_self]
        exact fin _ rfl
    · have fin : wc (d + 12) 190 [.ref 51, .int what] (hp X R TH N) (PI (some (.int (-1000001)))) := (t190b (d := d + 6) hm h0 hw).mpr (PI.mk rfl h)
      by_cases c1 : what < -2
      · simp only [S114, G0, GRealm r9, t42 r9, hr.1, h0, c1, b2_0, not_true_eq_false, px_op_some, px_op_none, tl_some, tl_none, ap_one, ap_nil, z01, o01, true_and, and_true, true_or, or_true, i10, i01, if_true, if_false, eq_self]
        exact fin
      · have c2 : ¬ what < 4 := fun z => hw ⟨Int32.not_lt.mp c1, by
          have := (lt_pred (x := what) (m := 4) (by decide)).mp z
          exact this⟩
        simp only [S114, G0, GRealm r9, t42 r9, hr.1, h0, c1, c2, b2_0, not_true_eq_false, px_op_some, px_op_none, tl_some, tl_none, ap_one, ap_nil, z01, o01, true_and, and_true, true_or, or_true, i10, i01, if_true, if_false, eq_self]
        exact fin
  · simp only [S114, G0, GRealm r9, t42 r9, hr.1, h0, b2_0, not_false_eq_true, px_op_some, px_op_none, tl_some, tl_none, ap_one, ap_nil, z01, o01, true_and, and_true, true_or, or_true, i10, i01, if_true, if_false, eq_self]
    exact (t190a (d := d + 6) hm h0).mpr (PI.mk rfl h)
