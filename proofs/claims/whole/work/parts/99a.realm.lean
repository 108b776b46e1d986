/-! class and reference: realm -/
section C48
variable {tp : Nat → Int32} {t : Nat}
theorem pN_in {lo hi c : Int32} {s : Nat} {r : Int32 × Nat} (h : pN tp t lo hi c s = .inl r) : lo ≤ r.1 ∧ r.1 ≤ hi := by
  unfold pN at h
  split at h
  · cases h
  split at h
  · cases h
  rename_i h2
  split at h
  · cases h
    exact Decidable.not_not.mp h2
  · cases h
theorem kind_in {x : Int32} (h : 0 < kindI x) : ∃ κ, (κ = 1 ∨ κ = 2 ∨ κ = 3 ∨ κ = 4 ∨ κ = 5) ∧ kindI x = nI κ := by
  unfold kindI at h ⊢
  split
  · exact ⟨1, by omega, rfl⟩
  split
  · exact ⟨2, by omega, rfl⟩
  split
  · exact ⟨3, by omega, rfl⟩
  split
  · exact ⟨4, by omega, rfl⟩
  split
  · exact ⟨5, by omega, rfl⟩
  · rename_i h1 h2 h3 h4 h5
    rw [if_neg h1, if_neg h2, if_neg h3, if_neg h4, if_neg h5] at h
    exact absurd h (by decide)
theorem WF.th {ρ : Nat → Int32} {T : Nat} {k f c : Int32} (h : WF ρ T 0 999) (h8 : T < 8) (hk : ∃ κ, (κ = 1 ∨ κ = 2 ∨ κ = 3 ∨ κ = 4 ∨ κ = 5) ∧ k = nI κ) (hf : 0 ≤ f ∧ f ≤ 9) (hc : 0 ≤ c ∧ c ≤ 20) : WF (thU ρ k f c T) (T + 1) 0 999 := by
  obtain ⟨h1, h2, h3, -⟩ := h
  have e : ∀ j, j ≠ 1 → j ≠ 5 + 4 * T → j ≠ 5 + 4 * T + 1 → j ≠ 5 + 4 * T + 2 → j ≠ 5 + 4 * T + 3 → thU ρ k f c T j = ρ j := fun j a1 a2 a3 a4 a5 => by
    unfold thU; rw [upd_n a1, upd_n a5, upd_n a4, upd_n a3, upd_n a2]
  refine ⟨by rw [e 0 (by omega) (by omega) (by omega) (by omega) (by omega)]; exact h1, by rw [e 3 (by omega) (by omega) (by omega) (by omega) (by omega)]; exact h2, fun p hp => ?_, fun u hu => absurd hu (Nat.not_lt_zero u)⟩
  by_cases hpT : p = T
  · subst hpT
    have eK : rK (thU ρ k f c p) p = k := by unfold rK thU; rw [upd_n (by omega), upd_n (by omega), upd_n (by omega), upd_n (by omega), upd_s]
    have eF : rF (thU ρ k f c p) p = f := by unfold rF thU; rw [upd_n (by omega), upd_n (by omega), upd_n (by omega), upd_s]
    have eP : rP (thU ρ k f c p) p = c := by unfold rP thU; rw [upd_n (by omega), upd_n (by omega), upd_s]
    have eS : rS (thU ρ k f c p) p = -1000000 := by unfold rS thU; rw [upd_n (by omega), upd_s]
    rw [eK, eF, eP, eS]
    refine ⟨hk, ?_, ?_, Or.inl rfl⟩
    · obtain ⟨j, hj, rfl⟩ := i_ofle (n := 9) hf.1 hf.2 (by decide)
      exact ⟨j, by omega, rfl⟩
    · obtain ⟨j, hj, rfl⟩ := i_ofle (n := 20) hc.1 hc.2 (by decide)
      exact ⟨j, by omega, rfl⟩
  · have eK : rK (thU ρ k f c T) p = rK ρ p := e _ (by omega) (by omega) (by omega) (by omega) (by omega)
    have eF : rF (thU ρ k f c T) p = rF ρ p := e _ (by omega) (by omega) (by omega) (by omega) (by omega)
    have eP : rP (thU ρ k f c T) p = rP ρ p := e _ (by omega) (by omega) (by omega) (by omega) (by omega)
    have eS : rS (thU ρ k f c T) p = rS ρ p := e _ (by omega) (by omega) (by omega) (by omega) (by omega)
    rw [eK, eF, eP, eS]
    exact h3 p (by omega)
theorem pTs_w : ∀ (n : Nat) (ρ : Nat → Int32) (T s : Nat) (r : (Nat → Int32) × Nat × Nat), pTs tp t n ρ T s = .inl r → T ≤ 8 → WF ρ T 0 999 → WF r.1 r.2.1 0 999 ∧ r.2.1 ≤ 8 := by
  intro n
  induction n with
  | zero =>
    intro ρ T s r h h8 hw
    cases h
    exact ⟨hw, h8⟩
  | succ n ih =>
    intro ρ T s r h h8 hw
    unfold pTs at h
    split at h
    · rename_i hk
      split at h
      · cases h
      · rename_i r1 h1
        unfold pT at h1
        split at h1
        · cases h1
        rename_i hT
        split at h1
        · cases h1
        rename_i r2 h2
        split at h1
        · cases h1
        rename_i r3 h3
        cases h1
        exact ih _ _ _ _ h (by omega) (hw.th (by omega) (kind_in hk) (pN_in h2) (pN_in h3))
    · cases h
      exact ⟨hw, h8⟩
theorem pHs_w {T : Nat} (hT : T ≤ 8) : ∀ (n : Nat) (ρ : Nat → Int32) (Hn s : Nat) (r : (Nat → Int32) × Nat), pHs tp t T n ρ Hn s = .inl r → Hn ≤ 8 → WF ρ T Hn 999 → WF r.1 T r.2 999 := by
  intro n
  induction n with
  | zero =>
    intro ρ Hn s r h h8 hw
    cases h
    exact hw
  | succ n ih =>
    intro ρ Hn s r h h8 hw
    unfold pHs at h
    split at h
    · cases h
      exact hw
    split at h
    · cases h
    rename_i r1 h1
    unfold pH at h1
    split at h1
    · cases h1
    split at h1
    · cases h1
    rename_i h8'
    split at h1
    · cases h1
    rename_i r2 h2
    cases h1
    refine ih _ _ _ _ h (by omega) ?_
    dsimp only
    obtain ⟨v1, v2⟩ := pN_in h2
    obtain ⟨w1, w2, w3, w4⟩ := hw
    refine ⟨by rw [upd_n (by omega), upd_n (by omega)]; exact w1, by rw [upd_n (by omega), upd_n (by omega)]; exact w2, fun p hp => ?_, fun u hu => ?_⟩
    · unfold rK rF rP rS
      rw [upd_n (by omega), upd_n (by omega), upd_n (by omega), upd_n (by omega), upd_n (by omega), upd_n (by omega), upd_n (by omega), upd_n (by omega)]
      exact w3 p hp
    · unfold rH
      rw [upd_n (by omega)]
      by_cases e : u = Hn
      · subst e
        rw [upd_s]
        have hp2 : 2 ^ T ≤ 2 ^ 8 := Nat.pow_le_pow_right (by decide) hT
        obtain ⟨j, hj, ej⟩ := i_ofle (Int32.le_trans (by decide) v1) v2 (by omega)
        have : 0 < 2 ^ T := Nat.pos_of_ne_zero (by intro z; have := Nat.one_le_two_pow (n := T); omega)
        exact ⟨j, by omega, ej⟩
      · rw [upd_n (by omega)]
        exact w4 u (by omega)
theorem pR_w {g : Nat → Int32} {r : (Nat → Int32) × Nat × Nat} (h : pR tp t g = .inl r) : WF r.1 r.2.1 r.2.2 999 := by
  unfold pR at h
  split at h
  · cases h
  split at h
  · cases h
  rename_i r1 h1
  unfold pAll at h
  split at h
  · cases h
  rename_i r2 h2
  split at h
  · cases h
  rename_i r3 h3
  cases h
  obtain ⟨v1, v2⟩ := pN_in h1
  obtain ⟨w, h8⟩ := pTs_w _ _ _ _ _ h2 (by decide) (by
    refine ⟨?_, ⟨0, by decide, by rw [upd_n (by decide)]; rfl⟩, fun p hp => absurd hp (Nat.not_lt_zero p), fun p hp => absurd hp (Nat.not_lt_zero p)⟩
    rw [upd_s]
    obtain ⟨j, hj, ej⟩ := i_ofle (n := 40) (Int32.le_trans (by decide) v1) v2 (by decide)
    exact ⟨j, hj, ej⟩)
  exact pHs_w h8 _ _ _ _ _ h3 (by decide) w
end C48
theorem Inv.rl {X X' : hX} {R R' : hR} {TH TH' : hT} {N N' : Nat} (h : Inv X R TH N) (c : ∀ c, (c ≠ 0 ∧ c ≠ 2 ∧ c ≠ 4 ∧ c ≠ 6 ∧ c ≠ 7 ∧ c ≠ 9 ∧ c ≠ 11 ∧ c ≠ 12 ∧ c ≠ 51 ∧ c ≠ 55) → X' c = X c) (h0 : X' 0 8 = X 0 8) (h21 : X' 2 1 = 0) (h51 : ∀ j, (j < 11 ∨ 16 < j) → j ≠ 5 → j ≠ 8 → j ≠ 10 → j ≠ 17 → X' 51 j = X 51 j) (h5 : X' 51 5 = 0) (h10 : X' 51 10 = 0) (h17 : X' 0 7 = X' 51 17) (h55 : ∀ j, 45 ≤ j → j < 135 → X' 55 j = X 55 j) (hR : ∀ c, c ≠ 5 → c ≠ 10 → R' c = R c) (hN : N ≤ N') (hT : ∀ q, q < N → TH' q = TH q) (hn : ∀ q, N' ≤ q → TH' q = none) (o4 : OKR R' TH' 4) (o9 : OKR R' TH' 9) (hP : ∃ T Hn a, PresI X' R' TH' T Hn ∧ ActsI X' T a) : Inv X' R' TH' N' := by
  obtain ⟨h1, h2, -, -, ⟨l, hl⟩, h6, h7, k1, k2, k3, k4, k5, k6⟩ := h
  have im : ∀ k, k < 2 → ImgI X R TH k → ImgI X' R' TH' k := fun k hk z => (z.th k2 hT).c (by rw [hR 14 (by decide) (by decide)]) (by rw [c 56 (by decide)]) (c _ (by omega)) (c _ (by omega)) (c _ (by omega)) (hR _ (by omega) (by omega)) (fun j a1 a2 => h55 j (by omega) (by omega))
  have ok : ∀ r, r ≠ 4 → r ≠ 9 → OKR R TH r → OKR R' TH' r := fun r a1 a2 z => by
    have := z.th k2 hT
    unfold OKR at this ⊢
    rw [hR _ (by omega) (by omega)]
    exact this
  exact ⟨⟨h5, by rw [h0, h51 3 (by decide) (by decide) (by decide) (by decide) (by decide)]; exact h1.2.1, h17⟩, h2.c (hR 1 (by decide) (by decide)) (fun i hi => c _ (by omega)) (c _ (by decide)) (c _ (by decide)) (c _ (by decide)), ⟨0, h21, h10, by decide, fun k hk => absurd hk (Nat.not_lt_zero k)⟩, hP, ⟨l, hl.c (by rw [c 23 (by decide)]) (h51 22 (by decide) (by decide) (by decide) (by decide) (by decide)) (c _ (by decide)) (c _ (by decide))⟩, im 0 (by decide) h6, im 1 (by decide) h7, Nat.le_trans k1 hN, hn, o4, o9, ok _ (by decide) (by decide) k5, ok _ (by decide) (by decide) k6⟩
theorem sim_realm : Sim 103 165 [] := by
  intro d X R TH N h
  obtain ⟨t, h21, h10, h120, hby⟩ := h.2.2.1
  obtain ⟨T0, Hn0, a0, hP0, hA0⟩ := h.2.2.2.1
  obtain ⟨k1, k2, k3, k4, k5, k6⟩ := h.2.2.2.2.2.2.2
  have hb' : ∀ k, k < t → 0 ≤ tpM X k := fun k hk => by
    have := hby k hk
    rw [this.1] at this
    exact this.2
  have hct : CT (tpM X) t X := ⟨h21, h120, fun k hk => (hby k hk).1, hb'⟩
  have hk0 : 0 + 120 ≤ 120 := Nat.le_refl _
  simp only [S103, G0, G2, hk0, px_op_some, px_op_none, tl_some, tl_none, ap_one, ap_nil, z01, o01, true_and, and_true, true_or, or_true, i10, i01, if_true, if_false, eq_self]
  refine t32 (d := d + 6) hct k1 k2 k3 (rD X) (fun X1 R1 TH1 N1 hf hm => ?_)
  obtain ⟨f1, f2, f3, f4, f5, f6, f7⟩ := hf
  cases hp : pR (tpM X) t (rD X) with
  | inr e =>
    rw [hp] at hm
    dsimp only at hm
    obtain ⟨m1, m2, m3⟩ := hm
    simp only [S103, G0, G2, m1, m2, m3, b2_0, not_false_eq_true, px_op_some, px_op_none, tl_some, tl_none, ap_one, ap_nil, z01, o01, true_and, and_true, true_or, or_true, i10, i01, if_true, if_false, eq_self, upA_s, upA_n, upd_s, upd_n, ne_eq, Nat.reduceEqDiff, not_false_eq_true]
    have s51 : upA (upA X1 2 (upd (X1 2) 1 0)) 0 (upd (X1 0) 7 e.1) 51 = X 51 := by rw [upA_n (by decide), upA_n (by decide), f1 51 (by decide) (by decide) (by decide) (by decide)]
    have s55 : upA (upA X1 2 (upd (X1 2) 1 0)) 0 (upd (X1 0) 7 e.1) 55 = X 55 := by rw [upA_n (by decide), upA_n (by decide), f1 55 (by decide) (by decide) (by decide) (by decide)]
    have s58 : upA (upA X1 2 (upd (X1 2) 1 0)) 0 (upd (X1 0) 7 e.1) 58 = X 58 := by rw [upA_n (by decide), upA_n (by decide), f1 58 (by decide) (by decide) (by decide) (by decide)]
    have eD : rD (upA (upA X1 2 (upd (X1 2) 1 0)) 0 (upd (X1 0) 7 e.1)) = rD X := by unfold rD; rw [s55]
    have eM : tpM (upA (upA X1 2 (upd (X1 2) 1 0)) 0 (upd (X1 0) 7 e.1)) = tpM X := by unfold tpM; rw [s58]
    have c2 : ∀ c, c ≠ 0 → c ≠ 2 → c ≠ 4 → c ≠ 6 → c ≠ 7 → upA (upA X1 2 (upd (X1 2) 1 0)) 0 (upd (X1 0) 7 e.1) c = X c := fun c b0 b2 b4 b6 b7 => by rw [upA_n b0, upA_n b2, f1 c b2 b4 b6 b7]
    have e07 : upA (upA X1 2 (upd (X1 2) 1 0)) 0 (upd (X1 0) 7 e.1) 0 7 = e.1 := by rw [upA_s, upd_s]
    have e08 : upA (upA X1 2 (upd (X1 2) 1 0)) 0 (upd (X1 0) 7 e.1) 0 8 = X 0 8 := by rw [upA_s, upd_n (by decide), f1 0 (by decide) (by decide) (by decide) (by decide)]
    have e21 : upA (upA X1 2 (upd (X1 2) 1 0)) 0 (upd (X1 0) 7 e.1) 2 1 = 0 := by rw [upA_n (by decide), upA_s, upd_s]
    generalize upA (upA X1 2 (upd (X1 2) 1 0)) 0 (upd (X1 0) 7 e.1) = X3 at s51 s55 s58 eD eM c2 e07 e08 e21 ⊢
    refine t165 (d := d + 6) (t := t) (by rw [s51]; exact h10) h120 (by rw [eM]; exact hb') (fun X4 hra hm4 => ?_)
    rw [eM, eD, hp] at hm4 ⊢
    dsimp only at hm4 ⊢
    obtain ⟨g1, g2, g3⟩ := hm4
    obtain ⟨r1, r2, r3, r4', r5⟩ := hra
    rw [s51] at g2 r2
    rw [s55] at g3 r5
    refine PI.mk rfl ?_
    refine h.rl (fun c hc => ?_) ?_ ?_ (fun j b1 b2 b3 b4 b5 => r2 j b1 b2 b3 b4 b5) r3 r4' ?_ (fun j b1 b2 => r5 j b1 b2) (fun c b5 _ => f3 c b5) f4 f5 f6 f7 ?_ ⟨T0, Hn0, a0, ?_, ?_⟩
    · rw [r1 c (by omega) (by omega), c2 c (by omega) (by omega) (by omega) (by omega) (by omega)]
    · rw [r1 0 (by decide) (by decide), e08]
    · rw [r1 2 (by decide) (by decide), e21]
    · rw [r1 0 (by decide) (by decide), e07, g1]
    · have := k4.th k2 f5
      unfold OKR at this ⊢
      rw [f3 _ (by decide)]
      exact this
    · have : PresI X R TH1 T0 Hn0 := ⟨hP0.1.th k2 f5, hP0.2⟩
      exact this.c (fun j _ => by rw [r1 9 (by decide) (by decide), c2 9 (by decide) (by decide) (by decide) (by decide) (by decide)]) (by rw [r1 11 (by decide) (by decide), c2 11 (by decide) (by decide) (by decide) (by decide) (by decide)]) (by rw [r1 12 (by decide) (by decide), c2 12 (by decide) (by decide) (by decide) (by decide) (by decide)]) (f3 _ (by decide)) g3
    · exact hA0.c (by rw [r1 9 (by decide) (by decide), c2 9 (by decide) (by decide) (by decide) (by decide) (by decide)]) g2 (by rw [r1 13 (by decide) (by decide), c2 13 (by decide) (by decide) (by decide) (by decide) (by decide)]) (by rw [r1 57 (by decide) (by decide), c2 57 (by decide) (by decide) (by decide) (by decide) (by decide)])
  | inl r =>
    rw [hp] at hm
    dsimp only at hm
    obtain ⟨m1, m2⟩ := hm
    have hw := pR_w hp
    obtain ⟨ρ, T, Hn⟩ := r
    dsimp only at m2 hw
    have m2' : RR (upA X1 2 (upd (X1 2) 1 0)) R1 TH1 4 ρ T Hn := m2.up (by decide) (by decide) (by decide)
    have e95 : ∀ X : hX, blX X 9 4 9 5 = X 4 5 := fun X => by rw [blX_r]; unfold blF; rw [upd_n (by decide), upd_n (by decide), upd_n (by decide), upd_n (by decide), upd_s]
    have c45 : upA X1 2 (upd (X1 2) 1 0) 4 5 = nI T := m2'.2.1
    have e1 : ((0 : Int32) = 0) = True := eq_true rfl
    have hk1 : 0 + 120 + 0 ≤ 120 := Nat.le_refl _
    simp only [S103, G0, G2, GRealm r9, GRealm r4, hk0, hk1, m1, e1, t46 r9 r4 (by decide) f7, e95, c45, b2_0, not_true_eq_false, px_op_some, px_op_none, tl_some, tl_none, ap_one, ap_nil, z01, o01, true_and, and_true, true_or, or_true, i10, i01, if_true, if_false, eq_self]
    obtain ⟨l1, l2⟩ := m2'.like (r := 9)
    have c2 : ∀ c, c ≠ 2 → c ≠ 4 → c ≠ 6 → c ≠ 7 → c ≠ 9 → c ≠ 11 → c ≠ 12 → blX (upA X1 2 (upd (X1 2) 1 0)) 9 4 c = X c := fun c b2 b4 b6 b7 b9 b11 b12 => by rw [blX_n b9 b11 b12, upA_n b2, f1 c b2 b4 b6 b7]
    have e21 : blX (upA X1 2 (upd (X1 2) 1 0)) 9 4 2 1 = 0 := by rw [blX_n (by decide) (by decide) (by decide), upA_s, upd_s]
    generalize blX (upA X1 2 (upd (X1 2) 1 0)) 9 4 = X3 at l1 l2 c2 e21 ⊢
    have s51 : X3 51 = X 51 := c2 51 (by decide) (by decide) (by decide) (by decide) (by decide) (by decide) (by decide)
    have s55 : X3 55 = X 55 := c2 55 (by decide) (by decide) (by decide) (by decide) (by decide) (by decide) (by decide)
    have s58 : X3 58 = X 58 := c2 58 (by decide) (by decide) (by decide) (by decide) (by decide) (by decide) (by decide)
    have s0 : X3 0 = X 0 := c2 0 (by decide) (by decide) (by decide) (by decide) (by decide) (by decide) (by decide)
    have eD : rD X3 = rD X := by unfold rD; rw [s55]
    have eM : tpM X3 = tpM X := by unfold tpM; rw [s58]
    refine t165 (d := d + 6) (t := t) (by rw [s51]; exact h10) h120 (by rw [eM]; exact hb') (fun X4 hra hm4 => ?_)
    rw [eM, eD, hp] at hm4 ⊢
    dsimp only at hm4 ⊢
    obtain ⟨g1, g2, g3⟩ := hm4
    obtain ⟨r1, r2, r3, r4', r5⟩ := hra
    rw [s51] at g1 r2
    rw [s55] at r5
    refine PI.mk l1.2.2.1 ?_
    refine h.rl (fun c hc => ?_) ?_ ?_ (fun j b1 b2 b3 b4 b5 => r2 j b1 b2 b3 b4 b5) r3 r4' ?_ (fun j b1 b2 => r5 j b1 b2) (fun c b5 b10 => ?_) f4 f5 f6 ?_ f7.like ⟨T, Hn, 0, ⟨?_, ?_⟩, ?_, ?_, by decide, fun j hj => absurd hj (Nat.not_lt_zero j)⟩
    · rw [r1 c (by omega) (by omega), c2 c (by omega) (by omega) (by omega) (by omega) (by omega) (by omega) (by omega)]
    · rw [r1 0 (by decide) (by decide), s0]
    · rw [r1 2 (by decide) (by decide), e21]
    · rw [r1 0 (by decide) (by decide), s0, g1]; exact h.1.2.2
    · rw [blR_n b10]; exact f3 c b5
    · exact f7.n (by decide)
    · exact l1.cc (fun j _ => by rw [r1 9 (by decide) (by decide)]) (r1 _ (by decide) (by decide)) (r1 _ (by decide) (by decide)) rfl g3
    · exact hw.c l1.2.2.2.1 l1.2.2.2.2.2.2.1 g3
    · rw [r1 9 (by decide) (by decide)]; exact l2
    · exact g2
