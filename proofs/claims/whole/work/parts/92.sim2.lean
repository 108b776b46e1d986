/-! class and reference: what is foretold -/
theorem fld_inv {α : Type} {f : Nat → α → α} {P : α → Prop} : ∀ (n p : Nat) (a : α), P a → (∀ q b, p ≤ q → q < p + n → P b → P (f q b)) → P (fld f n p a) := by
  intro n
  induction n with
  | zero => intro p a h _; exact h
  | succ n ih =>
    intro p a h hs
    rw [fld_s]
    exact ih (p + 1) _ (hs p a (Nat.le_refl _) (by omega) h) (fun q b h1 h2 => hs q b (by omega) (by omega))
theorem cv_lt {ρ : Nat → Int32} {T Hn : Nat} (h8 : T ≤ 8) : ∀ s, cvI ρ T Hn = some s → s < 256 := by
  have hpow : (2 : Nat) ^ T ≤ 256 := Nat.pow_le_pow_right (n := 2) (by decide) h8
  unfold cvI
  refine fld_inv (P := fun a => ∀ s, a = some s → s < 256) _ _ _ (fun s hs => by cases hs) (fun q b h1 h2 hb s hs => ?_)
  unfold cvS at hs
  split at hs
  · cases hs; omega
  · exact hb s hs
theorem en_lt {ρ : Nat → Int32} {T Hn : Nat} : ∀ s, enI ρ T Hn = some s → s < 256 := by
  unfold enI
  refine fld_inv (P := fun a => ∀ s, a = some s → s < 256) _ _ _ (fun s hs => by cases hs) (fun q b h1 h2 hb s hs => ?_)
  unfold enS at hs
  split at hs
  · cases hs; omega
  · exact hb s hs
theorem op_fld {hm : Nat → Int32} {b : Int32} : ∀ (n p a : Nat), p + n ≤ 8 → a < 256 → ∃ m, m < 256 ∧ fld (opnS hm b) n p (nI a) = nI m ∧ ∀ i, m.testBit i = true ↔ (a.testBit i = true ∨ (p ≤ i ∧ i < p + n ∧ hm i &&& b = 0)) := by
  intro n
  induction n with
  | zero => intro p a _ ha; exact ⟨a, ha, rfl, fun i => ⟨fun z => Or.inl z, fun z => z.elim id (fun y => by omega)⟩⟩
  | succ n ih =>
    intro p a hp ha
    rw [fld_s]
    unfold opnS
    by_cases hs : hm p &&& b = 0
    · rw [if_pos hs, (or_pow a ha p (by omega)).1]
      obtain ⟨m, h1, h2, h3⟩ := ih (p + 1) (a ||| 2 ^ p) (by omega) (or_pow a ha p (by omega)).2
      refine ⟨m, h1, h2, fun i => (h3 i).trans ?_⟩
      rw [Nat.testBit_or, Nat.testBit_two_pow]
      by_cases e : p = i
      · subst e
        simp only [decide_true, Bool.or_true, true_or, true_iff]
        exact Or.inr ⟨Nat.le_refl _, by omega, hs⟩
      · simp only [e, decide_false, Bool.or_false]
        constructor
        · rintro (z | ⟨z1, z2, z3⟩)
          · exact Or.inl z
          · exact Or.inr ⟨by omega, by omega, z3⟩
        · rintro (z | ⟨z1, z2, z3⟩)
          · exact Or.inl z
          · exact Or.inr ⟨by omega, by omega, z3⟩
    · rw [if_neg hs]
      obtain ⟨m, h1, h2, h3⟩ := ih (p + 1) a (by omega) ha
      refine ⟨m, h1, h2, fun i => (h3 i).trans ?_⟩
      constructor
      · rintro (z | ⟨z1, z2, z3⟩)
        · exact Or.inl z
        · exact Or.inr ⟨by omega, by omega, z3⟩
      · rintro (z | ⟨z1, z2, z3⟩)
        · exact Or.inl z
        · by_cases e : p = i
          · subst e; exact absurd z3 hs
          · exact Or.inr ⟨by omega, by omega, z3⟩
theorem opn_bit {ρ : Nat → Int32} {b : Int32} {Hn h : Nat} (h8 : Hn ≤ 8) (hh : h < Hn) : (opnI ρ b Hn >>> (nI h &&& 31) &&& 1) = if rH ρ h &&& b = 0 then 1 else 0 := by
  obtain ⟨m, h1, h2, h3⟩ := op_fld (hm := rH ρ) (b := b) Hn 0 0 (by omega) (by decide)
  have e : opnI ρ b Hn = nI m := h2
  rw [e]
  have hb := (bit_test m h1 h (by omega)).trans (h3 h)
  by_cases hz : rH ρ h &&& b = 0
  · rw [if_pos hz]
    exact hb.mpr (Or.inr ⟨Nat.zero_le _, by omega, hz⟩)
  · rw [if_neg hz]
    rcases and1 (nI m >>> (nI h &&& 31)) with z | z
    · exact z
    · rcases hb.mp z with y | ⟨-, -, y⟩
      · simp at y
      · exact absurd y hz
theorem sim_harm {x what : Int32} : Sim 110 182 [.int x, .int what] := by
  intro d X R TH N h
  obtain ⟨T, Hn, a, hP, -⟩ := h.2.2.2.1
  have hm := hP.mb h.1.1
  have hr := hP.1
  have h8 := hr.2.2.2.2.2.2.1
  by_cases hx : 0 ≤ x ∧ x < nI Hn
  · obtain ⟨p, hpT, rfl⟩ := (ltT h8).mp hx
    have hx' := (inlt h8).mpr hx
    have fin : ∀ v : Int32, (if 0 ≤ what ∧ what ≤ 2 then (if what = 0 then rH (X 55) p else if what = 2 then sumI (X 55) (rH (X 55) p) T else 1 - (openI (X 55) (rS (X 55)) (X 55 3) (X 55 0) T Hn >>> (nI p &&& 31) &&& 1)) else -1000001) = v → wc (d + 12) 182 [.ref 51, .int (nI p), .int what] (hp X R TH N) (PI (some (.int v))) := by
      intro v hv
      refine t182 hm (fun f => PI.mk ?_ (h.sc SCr.s59))
      rw [← hv]
      by_cases hk : 0 ≤ what ∧ what ≤ 2
      · rw [if_pos ⟨hx', hk⟩, if_pos hk, nI_clamp (by omega)]
      · rw [if_neg (fun z => hk z.2), if_neg hk]
    simp only [S110, G0, GRealm r9, t49 r9 hr, hx, t50 r9 hr hpT, sw_110_24, b2_0, and_self, not_true_eq_false, px_op_some, px_op_none, tl_some, tl_none, ap_one, ap_nil, z01, o01, true_and, and_true, true_or, or_true, i10, i01, if_true, if_false, eq_self]
    by_cases h0 : what = 0
    · subst h0
      rw [if_pos (by decide), if_pos rfl] at fin
      simp only [S110, px_op_some, px_op_none, tl_some, tl_none, ap_one, ap_nil, z01, o01, true_and, and_true, true_or, or_true, i10, i01, if_true, if_false, eq_self]
      exact fin _ rfl
    by_cases h1 : what = 1
    · subst h1
      rw [if_pos (by decide), if_neg (by decide), if_neg (by decide)] at fin
      have eo : openI (X 55) (rS (X 55)) (X 55 3) (X 55 0) T Hn >>> (nI p &&& 31) &&& 1 = if rH (X 55) p &&& bndI (X 55) (rS (X 55)) (X 55 3) (X 55 0) T = 0 then 1 else 0 := opn_bit h8 hpT
      rw [eo] at fin
      simp only [i10, if_false, S110, G0, GRealm r9, hr.2.2.2.2.2.2.2.1, t57 r9 hr (hP.2.ov0 (by decide) _), px_op_some, px_op_none, tl_some, tl_none, ap_one, ap_nil, z01, o01, true_and, and_true, true_or, or_true, i10, i01, if_true, if_false, eq_self]
      by_cases hz : rH (X 55) p &&& bndI (X 55) (rS (X 55)) (X 55 3) (X 55 0) T = 0
      · rw [if_pos hz] at fin ⊢
        exact fin _ (by decide)
      · rw [if_neg hz] at fin ⊢
        exact fin _ (by decide)
    by_cases h2 : what = 2
    · subst h2
      rw [if_pos (by decide), if_neg (by decide), if_pos rfl] at fin
      simp only [NQ, if_false, S110, G0, GRealm r9, t61 r9 hr, px_op_some, px_op_none, tl_some, tl_none, ap_one, ap_nil, z01, o01, true_and, and_true, true_or, or_true, i10, i01, if_true, if_false, eq_self]
      exact fin _ rfl
    · have hk : ¬ (0 ≤ what ∧ what ≤ 2) := by
        rintro ⟨z0, z1⟩
        obtain ⟨j, hj, rfl⟩ := i_ofle (n := 2) z0 z1 (by decide)
        rcases (show j = 0 ∨ j = 1 ∨ j = 2 by omega) with rfl | rfl | rfl
        · exact h0 rfl
        · exact h1 rfl
        · exact h2 rfl
      rw [if_neg hk] at fin
      simp only [h0, h1, h2, if_false, S110, px_op_some, px_op_none, tl_some, tl_none, ap_one, ap_nil, z01, o01, true_and, and_true, true_or, or_true, i10, i01, if_true, if_false, eq_self]
      exact fin _ rfl
  · simp only [S110, G0, GRealm r9, t49 r9 hr, hx, b2_0, not_false_eq_true, px_op_some, px_op_none, tl_some, tl_none, ap_one, ap_nil, z01, o01, true_and, and_true, true_or, or_true, i10, i01, if_true, if_false, eq_self]
    refine t182 hm (fun f => PI.mk ?_ (h.sc SCr.s59))
    rw [if_neg (fun z => hx ((inlt h8).mp z.1))]
theorem sim_cover {what : Int32} : Sim 113 188 [.int what] := by
  intro d X R TH N h
  obtain ⟨T, Hn, a, hP, -⟩ := h.2.2.2.1
  have hm := hP.mb h.1.1
  have hr := hP.1
  simp only [S113, G0, G15, GRealm r9, t42 r9, hr.1, t135, t14 r9 hr (hP.2.ov0 (by decide) _) (hP.2.ovD (by decide)), t136 (cv_lt hr.2.2.2.1), b2_0, px_op_some, px_op_none, tl_some, tl_none, ap_one, ap_nil, z01, o01, true_and, and_true, true_or, or_true, i10, i01, if_true, if_false, eq_self]
  by_cases h0 : 0 < X 55 0
  · by_cases h1 : 0 ≤ what ∧ what ≤ 1
    · simp only [h0, h1, and_self, not_true_eq_false, if_false]
      refine t188 hm (fun f => PI.mk ?_ (h.sc SCr.s59))
      rw [if_pos h0, if_pos h1]
    · simp only [h0, h1, not_true_eq_false, not_false_eq_true, if_true, if_false]
      refine t188 hm (fun f => PI.mk ?_ (h.sc SCr.s59))
      rw [if_pos h0, if_neg h1]
  · simp only [h0, not_false_eq_true, if_true]
    refine t188 hm (fun f => PI.mk ?_ (h.sc SCr.s59))
    rw [if_neg h0]
theorem sim_enough {what : Int32} : Sim 117 196 [.int what] := by
  intro d X R TH N h
  obtain ⟨T, Hn, a, hP, -⟩ := h.2.2.2.1
  have hm := hP.mb h.1.1
  have hr := hP.1
  simp only [S117, G0, G15, GRealm r9, t42 r9, hr.1, t135, t22 r9 hr, t136 en_lt, t196 hm, b2_0, px_op_some, px_op_none, tl_some, tl_none, ap_one, ap_nil, z01, o01, true_and, and_true, true_or, or_true, i10, i01, if_true, if_false, eq_self]
  by_cases h0 : 0 < X 55 0
  · by_cases h1 : 0 ≤ what ∧ what ≤ 1
    · simp only [h0, h1, and_self, not_true_eq_false, if_true, if_false]
      exact PI.mk rfl h
    · simp only [h0, h1, not_true_eq_false, not_false_eq_true, if_true, if_false]
      exact PI.mk rfl h
  · simp only [h0, not_false_eq_true, if_true, if_false]
    exact PI.mk rfl h
theorem sim_cheapest {day what : Int32} : Sim 115 192 [.int day, .int what] := by
  intro d X R TH N h
  obtain ⟨T, Hn, a, hP, -⟩ := h.2.2.2.1
  have hm := hP.mb h.1.1
  have hr := hP.1
  simp only [S115, G0, GRealm r9, t42 r9, hr.1, hr.2.2.2.2.2.2.2.1, t134, t135, t62 r9 hr (hP.2.ov0 (by decide) _), t63 r9 hr (hP.2.ov0 (by decide) _), b2_0, px_op_some, px_op_none, tl_some, tl_none, ap_one, ap_nil, z01, o01, true_and, and_true, true_or, or_true, i10, i01, if_true, if_false, eq_self]
  by_cases h0 : 0 < X 55 0
  · by_cases h1 : X 55 3 ≤ day ∧ day ≤ X 55 3 + 100
    · by_cases h2 : 0 ≤ what ∧ what ≤ 1
      · by_cases h3 : what = 0
        · simp only [h0, h1, h2, h3, and_self, not_true_eq_false, if_true, if_false]
          simp
          refine t192 hm (fun f => PI.mk ?_ (h.sc SCr.s59))
          rw [if_pos h0, if_pos ⟨h1, by decide⟩, if_pos rfl]
        · simp only [h0, h1, h2, h3, and_self, not_true_eq_false, if_true, if_false]
          refine t192 hm (fun f => PI.mk ?_ (h.sc SCr.s59))
          rw [if_pos h0, if_pos ⟨h1, h2⟩, if_neg h3]
      · simp only [h0, h1, h2, and_self, not_true_eq_false, not_false_eq_true, if_true, if_false]
        refine t192 hm (fun f => PI.mk ?_ (h.sc SCr.s59))
        rw [if_pos h0, if_neg (fun z => h2 z.2)]
    · simp only [h0, h1, not_true_eq_false, not_false_eq_true, if_true, if_false]
      refine t192 hm (fun f => PI.mk ?_ (h.sc SCr.s59))
      rw [if_pos h0, if_neg (fun z => h1 z.1)]
  · simp only [h0, not_false_eq_true, if_true]
    refine t192 hm (fun f => PI.mk ?_ (h.sc SCr.s59))
    rw [if_neg h0]
theorem sim_defended {day what : Int32} : Sim 116 194 [.int day, .int what] := by
  intro d X R TH N h
  obtain ⟨T, Hn, a, hP, -⟩ := h.2.2.2.1
  have hm := hP.mb h.1.1
  have hr := hP.1
  have h8 := hr.2.2.2.1
  have ho := h.2.2.2.2.2.2.2.2.2.2.1
  simp only [S116, G0, G15, GRealm r9, t42 r9, hr.1, hr.2.2.2.2.2.2.2.1, t134, t135, b2_0, px_op_some, px_op_none, tl_some, tl_none, ap_one, ap_nil, z01, o01, true_and, and_true, true_or, or_true, i10, i01, if_true, if_false, eq_self]
  by_cases h0 : 0 < X 55 0
  · by_cases h1 : X 55 3 ≤ day ∧ day ≤ X 55 3 + 100
    · by_cases h2 : 0 ≤ what ∧ what ≤ 1
      · simp only [h0, h1, h2, and_self, not_true_eq_false, if_false]
        obtain ⟨e1, e2⟩ := df_dc hP.2 h8 day
        refine t20 hr hP.2 (by decide) ho (fun X1 R1 p1 => ?_)
        rw [e1]
        have hr1 := hr.df p1
        have h1' := h.sc (SCr.df p1)
        have hm1 : MB X1 T Hn := by
          unfold MB
          rw [p1.1 51 (by omega), p1.1 55 (by omega)]
          exact hm
        have e55 : X1 55 = X 55 := p1.1 55 (by omega)
        by_cases h3 : what = 0
        · simp only [S116, h3, px_op_some, px_op_none, tl_some, tl_none, ap_one, ap_nil, z01, o01, true_and, and_true, true_or, or_true, i10, i01, if_true, if_false, eq_self]
          refine t194 hm1 (fun f => PI.mk ?_ (h1'.sc SCr.s59))
          rw [e55, if_pos h0, if_pos ⟨h1, by decide⟩]
          exact if_pos rfl
        · rcases e2 with e2 | ⟨p, hpT, e2⟩
          · have hT0 : ¬ (0 ≤ (-1000000 : Int32) ∧ (-1000000 : Int32) < nI T) := fun z => absurd z.1 (by decide)
            rw [e2]
            simp only [S116, G0, G15, GRealm r9, h3, t47n r9 hr1 hT0, t21n, px_op_some, px_op_none, tl_some, tl_none, ap_one, ap_nil, z01, o01, true_and, and_true, true_or, or_true, i10, i01, if_true, if_false, eq_self]
            refine t194 hm1 (fun f => PI.mk ?_ (h1'.sc SCr.s59))
            rw [e55, if_pos h0, if_pos ⟨h1, h2⟩, e2]
            unfold dfA
            rw [if_neg h3]
            decide
          · rw [e2]
            obtain ⟨q, κ, hq, -⟩ := hr1.2.2.2.2.2.2.2.2.2.1 p hpT
            have hq' : R1 (9 + 1) p = some q := hq
            simp only [S116, G0, G15, GRealm r9, h3, t47 r9 hr1 hpT, hq', vrf, px_op_some, px_op_none, tl_some, tl_none, ap_one, ap_nil, z01, o01, true_and, and_true, true_or, or_true, i10, i01, if_true, if_false, eq_self]
            refine t21 hr1 hP.2 (by decide) (ho.df p1 (by decide)) hpT hq (fun X2 R2 p2 => ?_)
            have h2' := h1'.sc (SCr.df p2)
            have hm2 : MB X2 T Hn := by
              unfold MB
              rw [p2.1 51 (by omega), p2.1 55 (by omega)]
              exact hm1
            have e55' : X2 55 = X 55 := (p2.1 55 (by omega)).trans e55
            simp only [S116, px_op_some, px_op_none, tl_some, tl_none, ap_one, ap_nil, z01, o01, true_and, and_true, true_or, or_true, i10, i01, if_true, if_false, eq_self]
            refine t194 hm2 (fun f => PI.mk ?_ (h2'.sc SCr.s59))
            rw [e55', if_pos h0, if_pos ⟨h1, h2⟩, e2]
            unfold dfA
            rw [if_neg h3]
            rcases dear_v (day := day) hP.2 h8 p with ⟨y1, y2⟩ | ⟨v, hv, y1, y2⟩
            · rw [y1, y2]; exact if_pos rfl
            · rw [y1, y2, if_neg]
              exact fun z => by
                have := (nI_eq (show v < 2 ^ 31 by omega) (show 1000 < 2 ^ 31 by decide)).mp z
                omega
      · simp only [h0, h1, h2, and_self, not_true_eq_false, not_false_eq_true, if_true, if_false]
        refine t194 hm (fun f => PI.mk ?_ (h.sc SCr.s59))
        rw [if_pos h0, if_neg (fun z => h2 z.2)]
    · simp only [h0, h1, not_true_eq_false, not_false_eq_true, if_true, if_false]
      refine t194 hm (fun f => PI.mk ?_ (h.sc SCr.s59))
      rw [if_pos h0, if_neg (fun z => h1 z.1)]
  · simp only [h0, not_false_eq_true, if_true]
    refine t194 hm (fun f => PI.mk ?_ (h.sc SCr.s59))
    rw [if_neg h0]
