/-! class and reference: what is read -/
theorem NQ : ((2 : Int32) = 0) = False ∧ ((2 : Int32) = 1) = False ∧ ((3 : Int32) = 0) = False ∧ ((3 : Int32) = 1) = False ∧ ((3 : Int32) = 2) = False ∧ ((4 : Int32) = 0) = False ∧ ((4 : Int32) = 1) = False ∧ ((4 : Int32) = 2) = False ∧ ((4 : Int32) = 3) = False ∧ ((5 : Int32) = 0) = False ∧ ((5 : Int32) = 1) = False ∧ ((5 : Int32) = 2) = False ∧ ((5 : Int32) = 3) = False ∧ ((5 : Int32) = 4) = False ∧ ((6 : Int32) = 0) = False ∧ ((6 : Int32) = 1) = False ∧ ((6 : Int32) = 2) = False ∧ ((6 : Int32) = 3) = False ∧ ((6 : Int32) = 4) = False ∧ ((6 : Int32) = 5) = False ∧ ((7 : Int32) = 0) = False ∧ ((7 : Int32) = 1) = False ∧ ((7 : Int32) = 2) = False ∧ ((7 : Int32) = 3) = False ∧ ((7 : Int32) = 4) = False ∧ ((7 : Int32) = 5) = False ∧ ((7 : Int32) = 6) = False := by
  refine ⟨?_, ?_, ?_, ?_, ?_, ?_, ?_, ?_, ?_, ?_, ?_, ?_, ?_, ?_, ?_, ?_, ?_, ?_, ?_, ?_, ?_, ?_, ?_, ?_, ?_, ?_, ?_⟩ <;> decide
theorem sim_fault : Sim 104 166 [] := by
  intro d X R TH N h
  simp only [S104, G0, t166, px_op_some, px_op_none, tl_some, tl_none, ap_one, ap_nil, z01, o01, true_and, and_true, true_or, or_true, i10, i01, if_true, if_false, eq_self]
  exact PI.mk h.1.2.2.symm h
theorem sim_status : Sim 128 148 [] := by
  intro d X R TH N h
  simp only [S128, G0, t148, px_op_some, px_op_none, tl_some, tl_none, ap_one, ap_nil, z01, o01, true_and, and_true, true_or, or_true, i10, i01, if_true, if_false, eq_self]
  exact PI.mk h.1.2.1.symm h
theorem sim_thing {x what : Int32} : Sim 109 181 [.int x, .int what] := by
  intro d X R TH N h
  obtain ⟨T, Hn, a, hP, -⟩ := h.2.2.2.1
  have hm := hP.mb h.1.1
  have hr := hP.1
  have h8 := hr.2.2.2.1
  by_cases hx : 0 ≤ x ∧ x < nI T
  · obtain ⟨p, hpT, rfl⟩ := (ltT h8).mp hx
    obtain ⟨q, κ, hq, hth, hk, hs⟩ := hr.2.2.2.2.2.2.2.2.2.1 p hpT
    have hq' : R (9 + 1) p = some q := hq
    have hw := hP.2.wayC hpT hth.2.1 hk
    have fin : ∀ v : Int32, (if what = 0 then rF (X 55) p else if what = 1 then rP (X 55) p else if what = 2 then rS (X 55) p else if what = 3 then bndI (X 55) (rS (X 55)) (X 55 3) (X 55 0) T >>> (nI p &&& 31) &&& 1 else if what = 4 then wayI (rK (X 55) p) (rF (X 55) p) else -1000001) = v → wc (d + 12) 181 [.ref 51, .int (nI p), .int what] (hp X R TH N) (PI (some (.int v))) := by
      intro v hv
      refine t181 hm (fun f => PI.mk ?_ (h.sc SCr.s59))
      rw [if_pos ((inlt h8).mpr hx), nI_clamp (by omega)]
      exact hv
    simp only [S109, G0, GRealm r9, t47 r9 hr hpT, hq', vrf, sw_109_17, th_fld hth, px_op_some, px_op_none, tl_some, tl_none, ap_one, ap_nil, z01, o01, true_and, and_true, true_or, or_true, i10, i01, if_true, if_false, eq_self]
    by_cases h0 : what = 0
    · simp only [h0, if_true, S109, th_fld hth, px_op_some, px_op_none, tl_some, tl_none, ap_one, ap_nil, z01, o01, true_and, and_true, true_or, or_true, i10, i01, if_true, if_false, eq_self] at fin ⊢
      exact fin _ rfl
    by_cases h1 : what = 1
    · simp only [h0, h1, if_true, if_false, S109, th_fld hth, px_op_some, px_op_none, tl_some, tl_none, ap_one, ap_nil, z01, o01, true_and, and_true, true_or, or_true, i10, i01, if_true, if_false, eq_self] at fin ⊢
      exact fin _ rfl
    by_cases h2 : what = 2
    · subst h2
      simp only [NQ, i10, if_true, if_false, S109, G0, GRealm r9, t48 r9 hr hpT, px_op_some, px_op_none, tl_some, tl_none, ap_one, ap_nil, z01, o01, true_and, and_true, true_or, or_true, i10, i01, if_true, if_false, eq_self] at fin ⊢
      exact fin _ rfl
    by_cases h3 : what = 3
    · subst h3
      simp only [NQ, i10, if_true, if_false, S109, G0, GRealm r9, hr.2.2.2.2.2.2.2.1, t57 r9 hr (hP.2.ov0 (by decide) _), th_fld hth, px_op_some, px_op_none, tl_some, tl_none, ap_one, ap_nil, z01, o01, true_and, and_true, true_or, or_true, i10, i01, if_true, if_false, eq_self] at fin ⊢
      exact fin _ rfl
    by_cases h4 : what = 4
    · subst h4
      simp only [NQ, i10, if_true, if_false, S109, v_days hth, hw, px_op_some, px_op_none, tl_some, tl_none, ap_one, ap_nil, z01, o01, true_and, and_true, true_or, or_true, i10, i01, if_true, if_false, eq_self] at fin ⊢
      exact fin _ rfl
    · simp only [h0, h1, h2, h3, h4, if_false, S109, px_op_some, px_op_none, tl_some, tl_none, ap_one, ap_nil, z01, o01, true_and, and_true, true_or, or_true, i10, i01, if_true, if_false, eq_self] at fin ⊢
      exact fin _ rfl
  · simp only [S109, G0, GRealm r9, t47n r9 hr hx, px_op_some, px_op_none, tl_some, tl_none, ap_one, ap_nil, z01, o01, true_and, and_true, true_or, or_true, i10, i01, if_true, if_false, eq_self]
    refine t181 hm (fun f => PI.mk ?_ (h.sc SCr.s59))
    rw [if_neg (fun z => hx ((inlt h8).mp z))]
theorem sim_open {day : Int32} : Sim 111 184 [.int day] := by
  intro d X R TH N h
  obtain ⟨T, Hn, a, hP, -⟩ := h.2.2.2.1
  have hm := hP.mb h.1.1
  have hr := hP.1
  simp only [S111, G0, GRealm r9, t42 r9, t134, hr.1, hr.2.2.2.2.2.2.2.1, t59 r9 hr (hP.2.ov0 (by decide) _), b2_0, px_op_some, px_op_none, tl_some, tl_none, ap_one, ap_nil, z01, o01, true_and, and_true, true_or, or_true, i10, i01, if_true, if_false, eq_self]
  by_cases h0 : 0 < X 55 0
  · by_cases h1 : X 55 3 ≤ day ∧ day ≤ X 55 3 + 100
    · simp only [h0, h1, and_self, not_true_eq_false, if_false]
      refine t184 hm (fun f => PI.mk ?_ (h.sc SCr.s59))
      rw [if_pos h0, if_pos h1]
    · simp only [h0, h1, not_true_eq_false, not_false_eq_true, if_true, if_false]
      refine t184 hm (fun f => PI.mk ?_ (h.sc SCr.s59))
      rw [if_pos h0, if_neg h1]
  · simp only [h0, not_false_eq_true, if_true]
    refine t184 hm (fun f => PI.mk ?_ (h.sc SCr.s59))
    rw [if_neg h0]
theorem sim_gap : Sim 112 185 [] := by
  intro d X R TH N h
  obtain ⟨T, Hn, a, hP, -⟩ := h.2.2.2.1
  have hm := hP.mb h.1.1
  have hr := hP.1
  obtain ⟨D, hD9, hD⟩ := hP.D
  simp only [S112, G0, G15, GRealm r9, t42 r9, hr.1, t13 r9 hr (fun day => hP.2.ov0 (by decide) day) hD (show D ≤ 2000 by omega), b2_0, px_op_some, px_op_none, tl_some, tl_none, ap_one, ap_nil, z01, o01, true_and, and_true, true_or, or_true, i10, i01, if_true, if_false, eq_self]
  by_cases h0 : 0 < X 55 0
  · simp only [h0, not_true_eq_false, if_false]
    refine t185 hm hD hD9 (fun f => PI.mk ?_ (h.sc SCr.s59))
    rw [if_pos h0]
  · simp only [h0, not_false_eq_true, if_true]
    refine t185 hm hD hD9 (fun f => PI.mk ?_ (h.sc SCr.s59))
    rw [if_neg h0]
theorem sim_terms : Sim 120 199 [] := by
  intro d X R TH N h
  obtain ⟨T, Hn, a, hP, -⟩ := h.2.2.2.1
  have hm := hP.mb h.1.1
  have hr := hP.1
  simp only [S120, G0, G15, GRealm r9, t42 r9, hr.1, t24 r9 hr (fun k hk => hP.2.ov (by decide) hk _), b2_0, px_op_some, px_op_none, tl_some, tl_none, ap_one, ap_nil, z01, o01, true_and, and_true, true_or, or_true, i10, i01, if_true, if_false, eq_self]
  by_cases h0 : 0 < X 55 0
  · simp only [h0, not_true_eq_false, if_false]
    refine t199 hm (fun f => PI.mk ?_ (h.sc SCr.s59))
    rw [if_pos h0]
  · simp only [h0, not_false_eq_true, if_true]
    refine t199 hm (fun f => PI.mk ?_ (h.sc SCr.s59))
    rw [if_neg h0]
theorem sim_trace {x : Int32} : Sim 126 220 [.int x] := by
  intro d X R TH N h
  obtain ⟨l, h1, h2, h3, h4⟩ := h.2.2.2.2.1
  simp only [S126, G0, G23, t86 h1 h3, t220 h2 h3, px_op_some, px_op_none, tl_some, tl_none, ap_one, ap_nil, z01, o01, true_and, and_true, true_or, or_true, i10, i01, if_true, if_false, eq_self]
  refine PI.mk ?_ h
  by_cases hx : 0 ≤ x ∧ x ≤ nI l - 1
  · rw [if_pos hx, if_pos hx]
    have h0 : 0 < l := by
      rcases Nat.eq_zero_or_pos l with rfl | z
      · exact absurd (Int32.le_trans hx.1 hx.2) (by decide)
      · exact z
    have hx2 := hx.2
    rw [nI_m1 h0] at hx2
    obtain ⟨j, hj, rfl⟩ := i_ofle hx.1 hx2 (by omega)
    rw [nI_clamp (by omega)]
    exact (h4 j (by omega)).symm
  · rw [if_neg hx, if_neg hx]
theorem sim_count {what : Int32} : Sim 127 221 [.int what] := by
  intro d X R TH N h
  obtain ⟨T, Hn, a, hP, ha⟩ := h.2.2.2.1
  obtain ⟨t, ht⟩ := h.2.2.1
  have hr := hP.1
  have e1 : X 9 5 = X 55 1 := hr.2.1.trans hr.2.2.1.symm
  have e2 : X 9 6 = X 55 2 := hr.2.2.2.2.1.trans hr.2.2.2.2.2.1.symm
  have e3 := hr.2.2.2.2.2.2.2.1
  have e4 := hr.2.2.2.2.2.2.2.2.1
  have e0 := hr.1
  have e7 : X 9 7 = X 51 8 := ha.1.trans ha.2.1.symm
  have e10 : X 2 1 = X 51 10 := ht.1.trans ht.2.1.symm
  have fin : ∀ v : Int32, cntI X what = v → wc (d + 12) 221 [.ref 51, .int what] (hp X R TH N) (PI (some (.int v))) := fun v hv => by
    rw [t221 h.1.1]
    exact PI.mk hv h
  unfold cntI at fin
  simp only [S127, sw_127_1, px_op_some, px_op_none, tl_some, tl_none, ap_one, ap_nil, z01, o01, true_and, and_true, true_or, or_true, i10, i01, if_true, if_false, eq_self]
  by_cases h0 : what = 0
  · simp only [h0, if_true, S127, G0, t133 h.2.1, px_op_some, px_op_none, tl_some, tl_none, ap_one, ap_nil, z01, o01, true_and, and_true, true_or, or_true, i10, i01, if_true, if_false, eq_self] at fin ⊢
    exact fin _ rfl
  by_cases h1 : what = 1
  · simp only [h0, h1, if_true, if_false, S127, G0, GRealm r9, e1, px_op_some, px_op_none, tl_some, tl_none, ap_one, ap_nil, z01, o01, true_and, and_true, true_or, or_true, i10, i01, if_true, if_false, eq_self] at fin ⊢
    exact fin _ rfl
  by_cases h2 : what = 2
  · subst h2
    simp only [NQ, i10, if_true, if_false, S127, G0, GRealm r9, e2, px_op_some, px_op_none, tl_some, tl_none, ap_one, ap_nil, z01, o01, true_and, and_true, true_or, or_true, i10, i01, if_true, if_false, eq_self] at fin ⊢
    exact fin _ rfl
  by_cases h3 : what = 3
  · subst h3
    simp only [NQ, i10, if_true, if_false, S127, G0, GRealm r9, e3, px_op_some, px_op_none, tl_some, tl_none, ap_one, ap_nil, z01, o01, true_and, and_true, true_or, or_true, i10, i01, if_true, if_false, eq_self] at fin ⊢
    exact fin _ rfl
  by_cases h4 : what = 4
  · subst h4
    simp only [NQ, i10, if_true, if_false, S127, G0, GRealm r9, e4, px_op_some, px_op_none, tl_some, tl_none, ap_one, ap_nil, z01, o01, true_and, and_true, true_or, or_true, i10, i01, if_true, if_false, eq_self] at fin ⊢
    exact fin _ rfl
  by_cases h5 : what = 5
  · subst h5
    simp only [NQ, i10, if_true, if_false, S127, G0, GRealm r9, e0, px_op_some, px_op_none, tl_some, tl_none, ap_one, ap_nil, z01, o01, true_and, and_true, true_or, or_true, i10, i01, if_true, if_false, eq_self] at fin ⊢
    exact fin _ rfl
  by_cases h6 : what = 6
  · subst h6
    simp only [NQ, i10, if_true, if_false, S127, G0, GRealm r9, e7, px_op_some, px_op_none, tl_some, tl_none, ap_one, ap_nil, z01, o01, true_and, and_true, true_or, or_true, i10, i01, if_true, if_false, eq_self] at fin ⊢
    exact fin _ rfl
  by_cases h7 : what = 7
  · subst h7
    simp only [NQ, i10, if_true, if_false, S127, G0, G2, e10, px_op_some, px_op_none, tl_some, tl_none, ap_one, ap_nil, z01, o01, true_and, and_true, true_or, or_true, i10, i01, if_true, if_false, eq_self] at fin ⊢
    exact fin _ rfl
  · simp only [h0, h1, h2, h3, h4, h5, h6, h7, if_false, S127, px_op_some, px_op_none, tl_some, tl_none, ap_one, ap_nil, z01, o01, true_and, and_true, true_or, or_true, i10, i01, if_true, if_false, eq_self] at fin ⊢
    exact fin _ rfl
theorem sim_kind {x : Int32} : Sim 123 202 [.int x] := by
  intro d X R TH N h
  obtain ⟨T, Hn, a, hP, -⟩ := h.2.2.2.1
  have hm := hP.mb h.1.1
  have hr := hP.1
  have h8 := hr.2.2.2.1
  by_cases hx : 0 ≤ x ∧ x < nI T
  · obtain ⟨p, hpT, rfl⟩ := (ltT h8).mp hx
    obtain ⟨q, κ, hq, hth, hk, hs⟩ := hr.2.2.2.2.2.2.2.2.2.1 p hpT
    have hq' : R (9 + 1) p = some q := hq
    simp only [S123, G0, GRealm r9, t47 r9 hr hpT, hq', vrf, v_told hth, t202 hm, px_op_some, px_op_none, tl_some, tl_none, ap_one, ap_nil, z01, o01, true_and, and_true, true_or, or_true, i10, i01, if_true, if_false, eq_self]
    refine PI.mk ?_ h
    rw [if_pos ((inlt h8).mpr hx), nI_clamp (by omega), hk]
  · simp only [S123, G0, GRealm r9, t47n r9 hr hx, t202 hm, px_op_some, px_op_none, tl_some, tl_none, ap_one, ap_nil, z01, o01, true_and, and_true, true_or, or_true, i10, i01, if_true, if_false, eq_self]
    refine PI.mk ?_ h
    rw [if_neg (fun z => hx ((inlt h8).mp z))]
