/-! the class reads a text: parts -/
section C14
variable {d : Nat} {X : hX} {R : hR} {TH : hT} {N t s T Hn : Nat} {tp ρ : Nat → Int32} {Q : Option Value → px_H → Prop}
/-- what stands behind a number's sign -/
theorem cN_pN {lo hi c : Int32} (hc : ltI c) : pN tp t lo hi c s = (match cN tp t lo hi s with | .inr e => .inr e | .inl r => if byI tp t r.2 = c then .inl (r.1, r.2 + 1) else .inr (1, r.2)) := by
  unfold pN cN
  split
  · rfl
  split
  · rfl
  dsimp only
  by_cases h : byI tp t (tokE tp t s) = c
  · rw [if_pos ((tok_c hc).mpr h), if_pos h, (tokS_lt (s := tokE tp t s) (by rw [h]; exact hc)).2]
  · rw [if_neg (fun z => h ((tok_c hc).mp z)), if_neg h]
/-- the sign behind a number that was read -/
theorem sign_after {lo hi c v : Int32} {X1 : hX} (hx1 : CT tp t X1) (hc : ltI c) (p2 : match cN tp t lo hi s with | .inl r => v = r.1 ∧ CS t X1 r.2 | .inr e => CF X1 e.1 e.2) (hQ : ∀ X2, PC X1 X2 → (match pN tp t lo hi c s with | .inl r => v = r.1 ∧ CS t X2 r.2 | .inr e => CF X2 e.1 e.2) → Q none (hp X2 R TH N)) : wc (d + 1) 35 [.ref 2, .int c] (hp X1 R TH N) Q := by
  have hpn := cN_pN (tp := tp) (t := t) (s := s) (lo := lo) (hi := hi) hc
  cases hcn : cN tp t lo hi s with
  | inr e =>
    rw [hcn] at p2 hpn
    dsimp only at hpn p2
    rw [t35f (n := e.1) (q := e.2) p2]
    refine hQ X1 (PC.rf X1) ?_
    rw [hpn]
    exact p2
  | inl r =>
    rw [hcn] at p2 hpn
    dsimp only at hpn p2
    obtain ⟨rfl, p3⟩ := p2
    refine t35 hx1 p3 (lt_nd hc).2.2.2.2 (fun X2 q1 q2 => hQ X2 q1 ?_)
    rw [hpn]
    by_cases hb : byI tp t r.2 = c
    · rw [if_pos hb] at q2 ⊢
      exact ⟨rfl, q2⟩
    · rw [if_neg hb] at q2 ⊢
      exact q2
theorem CS.at1 (h : CS t X s) (hs : s < t) : CS t (AtX X (s + 1)) (s + 1) := ⟨by unfold AtX; rw [upA_s, upd_n (by decide)]; exact h.1, AtX_2, hs⟩
theorem PC.thing {X X' : hX} (p : PC X X') : X' 4 = X 4 := p.1 4 (by decide)
theorem by_lt {c : Int32} (h : byI tp t s = c) (hc : ¬ c = -1) : s < t := by
  rcases Nat.lt_or_ge s t with z | z
  · exact z
  · rw [show byI tp t s = -1 from if_neg (by omega)] at h
    exact absurd h.symm hc
/-- readThing -/
theorem t33 {κ : Nat} (hx : CT tp t X) (h : CS t X s) (hκ : κ = 1 ∨ κ = 2 ∨ κ = 3 ∨ κ = 4 ∨ κ = 5) (hb : kindI (byI tp t s) = nI κ) (hr : RR X R TH 4 ρ T Hn) (hN : 62 ≤ N) (hn : ∀ q, N ≤ q → TH q = none) (ho : OKR R TH 4)
    (hQ : ∀ X' R' TH' N', FR X R TH N X' R' TH' N' → (match pT tp t ρ T s with | .inl r => RR X' R' TH' 4 r.1 (T + 1) Hn ∧ CS t X' r.2 | .inr e => CF X' e.1 e.2) → Q none (hp X' R' TH' N')) : wc (d + 4) 33 [.ref 2, .ref 4, .int (nI κ)] (hp X R TH N) Q := by
  have hk0 : 0 + 0 ≤ 1 := Nat.zero_le _
  have hk1 : 0 + 1 ≤ 1 := Nat.le_refl _
  have hk2 : 0 + 1 + 0 ≤ 1 := Nat.le_refl _
  have hl : ltI (byI tp t s) := kind_lt (by
    rw [hb]
    rcases hκ with rfl | rfl | rfl | rfl | rfl <;> decide)
  obtain ⟨tS, tE⟩ := tokS_lt hl
  have hst : s < t := by_lt rfl (lt_nd hl).2.2.2.2
  have h5 := hr.2.1
  have h8 := hr.2.2.2.1
  by_cases hT8 : T = 8
  · have e8 : (nI T < 8) = False := eq_false (by rw [hT8]; decide)
    simp only [S33, G2, GRealm r4, h5, e8, h.2.1, hk0, t38e, px_op_some, px_op_none, tl_some, tl_none, ap_one, ap_nil, z01, o01, true_and, and_true, true_or, or_true, i10, i01, if_true, if_false, eq_self]
    refine hQ _ _ _ _ (FR.pc PC.no hn ho) ?_
    unfold pT
    rw [if_pos hT8]
    exact ⟨(show ¬ (3 : Int32) = 0 by decide), by unfold noX; rw [upA_s, upd_n (by decide), upd_s], by unfold noX; rw [upA_s, upd_s]⟩
  · have e8 : (nI T < 8) = True := eq_true (nI_lt (b := 8) (by omega) (by decide))
    simp only [S33, G2, GRealm r4, h5, e8, h.2.1, nI_1, hk0, px_op_some, px_op_none, tl_some, tl_none, ap_one, ap_nil, z01, o01, true_and, and_true, true_or, or_true, i10, i01, if_true, if_false, eq_self]
    have hA := h.at1 hst
    have pA : PC X (AtX X (s + 1)) := PC.at
    have eA : upA X 2 (upd (X 2) 2 (nI (s + 1))) = AtX X (s + 1) := rfl
    rw [eA]
    refine t36 (hx.pc pA) hA (fun X1 v p1 p2 => ?_)
    have q1 := pA.tr p1
    simp only [S33, G2, GRealm r4, hk0, px_op_some, px_op_none, tl_some, tl_none, ap_one, ap_nil, z01, o01, true_and, and_true, true_or, or_true, i10, i01, if_true, if_false, eq_self]
    refine sign_after (hx.pc q1) (by decide) p2 (fun X2 p3 p4 => ?_)
    have q2 := q1.tr p3
    have hx2 := hx.pc q2
    simp only [S33, G2, GRealm r4, hk0, px_op_some, px_op_none, tl_some, tl_none, ap_one, ap_nil, z01, o01, true_and, and_true, true_or, or_true, i10, i01, if_true, if_false, eq_self]
    rw [← tE] at p4
    have hpT : pT tp t ρ T s = (match pN tp t 0 9 44 (tokE tp t s) with
      | .inr e => .inr e
      | .inl r => (match pN tp t 0 20 59 r.2 with
        | .inr e => .inr e
        | .inl q => .inl (thU ρ (kindI (tokS tp t s)) r.1 q.1 T, q.2))) := if_neg hT8
    cases hn1 : pN tp t 0 9 44 (tokE tp t s) with
    | inr e =>
      rw [hn1] at p4 hpT
      dsimp only at p4 hpT
      rw [t36f (n := e.1) (q := e.2) p4]
      simp only [S33, G2, GRealm r4, hk0, t35f (n := e.1) (q := e.2) p4, CF.n0 (n := e.1) (q := e.2) p4, px_op_some, px_op_none, tl_some, tl_none, ap_one, ap_nil, z01, o01, true_and, and_true, true_or, or_true, i10, i01, if_true, if_false, eq_self]
      refine hQ _ _ _ _ (FR.pc q2 hn ho) ?_
      rw [hpT]
      exact p4
    | inl r =>
      rw [hn1] at p4 hpT
      dsimp only at p4 hpT
      obtain ⟨rfl, p5⟩ := p4
      refine t36 hx2 p5 (fun X3 v3 p6 p7 => ?_)
      have q3 := q2.tr p6
      simp only [S33, G2, GRealm r4, hk0, px_op_some, px_op_none, tl_some, tl_none, ap_one, ap_nil, z01, o01, true_and, and_true, true_or, or_true, i10, i01, if_true, if_false, eq_self]
      refine sign_after (hx.pc q3) (by decide) p7 (fun X4 p8 p9 => ?_)
      have q4 := q3.tr p8
      cases hn2 : pN tp t 0 20 59 r.2 with
      | inr e =>
        rw [hn2] at p9 hpT
        dsimp only at p9 hpT
        simp only [S33, G2, GRealm r4, hk0, CF.n0 (n := e.1) (q := e.2) p9, px_op_some, px_op_none, tl_some, tl_none, ap_one, ap_nil, z01, o01, true_and, and_true, true_or, or_true, i10, i01, if_true, if_false, eq_self]
        refine hQ _ _ _ _ (FR.pc q4 hn ho) ?_
        rw [hpT]
        exact p9
      | inl q =>
        rw [hn2] at p9 hpT
        dsimp only at p9 hpT
        obtain ⟨rfl, p10⟩ := p9
        have hr4 := hr.pc q4 (by decide)
        have h54 := hr4.2.1
        have t44' := fun Q => t44 (d := d + 3) (X := X4) (R := R) (TH := upT TH N (.inr (.inr (thC κ, [.int (nI T), .int r.1, .int q.1])))) (N := N + 1) (Q := Q) (q := N) (κ := κ) (n := nI T) (f := r.1) (p := q.1) r4 h54 (by omega) ⟨hN, hκ, upT_s _ _ _⟩
        simp only [S33, G2, GRealm r4, hk0, hk1, hk2, p10.1, h54, t40 hN hκ, t44', px_op_some, px_op_none, tl_some, tl_none, ap_one, ap_nil, z01, o01, true_and, and_true, true_or, or_true, i10, i01, if_true, if_false, eq_self]
        obtain ⟨a1, a2⟩ := hr4.add (κ := κ) (far := r.1) (price := q.1) hN (by omega) hn hκ ho
        refine hQ _ _ _ _ ((FR.pc q4 hn ho).tr a2) ?_
        rw [hpT, tS, hb]
        refine ⟨a1, ?_⟩
        unfold CS
        rw [upA_n (by decide), upA_n (by decide)]
        exact p10
/-- readHarm -/
theorem t34 (hx : CT tp t X) (h : CS t X s) (hb : byI tp t s = 104) (hr : RR X R TH 4 ρ T Hn) (hn : ∀ q, N ≤ q → TH q = none) (ho : OKR R TH 4)
    (hQ : ∀ X', FR X R TH N X' R TH N → (match pH tp t ρ T Hn s with | .inl r => RR X' R TH 4 r.1 T (Hn + 1) ∧ CS t X' r.2 | .inr e => CF X' e.1 e.2) → Q none (hp X' R TH N)) : wc (d + 2) 34 [.ref 2, .ref 4] (hp X R TH N) Q := by
  have hl : ltI (byI tp t s) := by rw [hb]; decide
  obtain ⟨tS, tE⟩ := tokS_lt hl
  have hst : s < t := by_lt rfl (lt_nd hl).2.2.2.2
  have h6 := hr.2.2.2.2.1
  have h8 := hr.2.2.2.2.2.2.1
  have hT8 := hr.2.2.2.1
  have h104 : tokS tp t s = 104 := tS.trans hb
  by_cases hH8 : Hn = 8
  · have e8 : (nI Hn < 8) = False := eq_false (by rw [hH8]; decide)
    simp only [S34, G2, GRealm r4, h6, e8, h.2.1, t38e, px_op_some, px_op_none, tl_some, tl_none, ap_one, ap_nil, z01, o01, true_and, and_true, true_or, or_true, i10, i01, if_true, if_false, eq_self]
    refine hQ _ (FR.pc PC.no hn ho) ?_
    unfold pH
    rw [if_neg (fun z => z h104), if_pos hH8]
    exact ⟨(show ¬ (3 : Int32) = 0 by decide), by unfold noX; rw [upA_s, upd_n (by decide), upd_s], by unfold noX; rw [upA_s, upd_s]⟩
  · have e8 : (nI Hn < 8) = True := eq_true (nI_lt (b := 8) (by omega) (by decide))
    have hA := h.at1 hst
    have pA : PC X (AtX X (s + 1)) := PC.at
    have eA : upA X 2 (upd (X 2) 2 (nI (s + 1))) = AtX X (s + 1) := rfl
    have h5 : AtX X (s + 1) 4 5 = nI T := by rw [pA.thing]; exact hr.2.1
    simp only [S34, G2, GRealm r4, h6, e8, h.2.1, nI_1, eA, h5, pow1 T (by omega), px_op_some, px_op_none, tl_some, tl_none, ap_one, ap_nil, z01, o01, true_and, and_true, true_or, or_true, i10, i01, if_true, if_false, eq_self]
    refine t36 (hx.pc pA) hA (fun X1 v p1 p2 => ?_)
    have q1 := pA.tr p1
    simp only [S34, G2, GRealm r4, px_op_some, px_op_none, tl_some, tl_none, ap_one, ap_nil, z01, o01, true_and, and_true, true_or, or_true, i10, i01, if_true, if_false, eq_self]
    refine sign_after (hx.pc q1) (by decide) p2 (fun X2 p3 p4 => ?_)
    have q2 := q1.tr p3
    rw [← tE] at p4
    have hpH : pH tp t ρ T Hn s = (match pN tp t 1 (nI (2 ^ T - 1)) 59 (tokE tp t s) with
      | .inr e => .inr e
      | .inl r => .inl (upd (upd ρ (37 + Hn) r.1) 2 (nI (Hn + 1)), r.2)) := by
      unfold pH
      rw [if_neg (fun z => z h104), if_neg hH8]
      cases pN tp t 1 (nI (2 ^ T - 1)) 59 (tokE tp t s) <;> rfl
    cases hn1 : pN tp t 1 (nI (2 ^ T - 1)) 59 (tokE tp t s) with
    | inr e =>
      rw [hn1] at p4 hpH
      dsimp only at p4 hpH
      simp only [S34, G2, GRealm r4, CF.n0 (n := e.1) (q := e.2) p4, px_op_some, px_op_none, tl_some, tl_none, ap_one, ap_nil, z01, o01, true_and, and_true, true_or, or_true, i10, i01, if_true, if_false, eq_self]
      refine hQ _ (FR.pc q2 hn ho) ?_
      rw [hpH]
      exact p4
    | inl r =>
      rw [hn1] at p4 hpH
      dsimp only at p4 hpH
      obtain ⟨rfl, p5⟩ := p4
      have hr2 := hr.pc q2 (by decide)
      simp only [S34, G2, GRealm r4, p5.1, t45 r4 hr2.2.2.2.2.1 (show Hn < 8 by omega), px_op_some, px_op_none, tl_some, tl_none, ap_one, ap_nil, z01, o01, true_and, and_true, true_or, or_true, i10, i01, if_true, if_false, eq_self]
      obtain ⟨a1, a2⟩ := hr2.addH (v := r.1) (N := N) (by omega) hn ho
      refine hQ _ ((FR.pc q2 hn ho).tr a2) ?_
      rw [hpH]
      refine ⟨a1, ?_⟩
      unfold CS
      rw [upA_n (by decide), upA_n (by decide)]
      exact p5
end C14
