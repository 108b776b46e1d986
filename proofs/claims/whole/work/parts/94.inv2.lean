/-! the parts of what holds, each by the cells that it reads -/
section C41
variable {X X' : hX} {R R' : hR} {TH TH' : hT} {N N' T Hn a t l k i : Nat}
theorem FlagI.c (h : FlagI X) (h5 : X' 51 5 = X 51 5) (h8 : X' 0 8 = X 0 8) (h3 : X' 51 3 = X 51 3) (h7 : X' 0 7 = X 0 7) (h17 : X' 51 17 = X 51 17) : FlagI X' := by
  unfold FlagI
  rw [h5, h8, h3, h7, h17]
  exact h
theorem RowI.c (h : RowI X R i) (hR : R' 1 = R 1) (h52 : X' 52 i = X 52 i) (h53 : X' 53 i = X 53 i) (h54 : ∀ k, k < 40 → X' 54 (40 * i + k) = X 54 (40 * i + k)) (h25 : X' (25 + 2 * i) = X (25 + 2 * i)) (h26 : X' (26 + 2 * i) = X (26 + 2 * i)) : RowI X' R' i := by
  unfold RowI
  rw [hR, h52, h53, h25, h26]
  exact ⟨h.1, fun k hk => by rw [h54 k hk]; exact h.2.1 k hk, h.2.2⟩
theorem RowsI.c (h : RowsI X R) (hR : R' 1 = R 1) (hc : ∀ c, (25 ≤ c ∧ c ≤ 40) → X' c = X c) (h52 : X' 52 = X 52) (h53 : X' 53 = X 53) (h54 : X' 54 = X 54) : RowsI X' R' :=
  fun i hi => (h i hi).c hR (by rw [h52]) (by rw [h53]) (fun k _ => by rw [h54]) (hc _ (by omega)) (hc _ (by omega))
theorem TapeI.c (h : TapeI X t) (h2 : X' 2 1 = X 2 1) (h3 : X' 3 = X 3) (h58 : X' 58 = X 58) (h10 : X' 51 10 = X 51 10) : TapeI X' t := by
  unfold TapeI
  rw [h2, h3, h58, h10]
  exact h
theorem RR.th {r : Nat} {ρ : Nat → Int32} (h : RR X R TH r ρ T Hn) (hn : ∀ q, N ≤ q → TH q = none) (hT : ∀ q, q < N → TH' q = TH q) : RR X R TH' r ρ T Hn := by
  obtain ⟨a1, a2, a3, a4, a5, a6, a7, a8, a9, ht, hh⟩ := h
  refine ⟨a1, a2, a3, a4, a5, a6, a7, a8, a9, fun p hp => ?_, hh⟩
  obtain ⟨q, κ, hq, hth, hk, hs⟩ := ht p hp
  refine ⟨q, κ, hq, ⟨hth.1, hth.2.1, ?_⟩, hk, hs⟩
  rw [hT q]
  · exact hth.2.2
  · rcases Nat.lt_or_ge q N with z | z
    · exact z
    · have := hth.2.2
      rw [hn q z] at this
      cases this
theorem OKR.th {r : Nat} (h : OKR R TH r) (hn : ∀ q, N ≤ q → TH q = none) (hT : ∀ q, q < N → TH' q = TH q) : OKR R TH' r := by
  intro u hu
  rcases h u hu with z | ⟨q, κ, n, f, p, z1, z2⟩
  · exact Or.inl z
  · refine Or.inr ⟨q, κ, n, f, p, z1, z2.1, z2.2.1, ?_⟩
    rw [hT q]
    · exact z2.2.2
    · rcases Nat.lt_or_ge q N with z | z
      · exact z
      · have := z2.2.2
        rw [hn q z] at this
        cases this
theorem RR.cc {r : Nat} {ρ ρ' : Nat → Int32} (h : RR X R TH r ρ T Hn) (hf : ∀ j, j ≠ 7 → X' r j = X r j) (h2 : X' (r + 2) = X (r + 2)) (h3 : X' (r + 3) = X (r + 3)) (hR : R' (r + 1) = R (r + 1)) (hρ : ∀ j, j < 45 → ρ' j = ρ j) : RR X' R' TH r ρ' T Hn := by
  obtain ⟨a1, a2, a3, a4, a5, a6, a7, a8, a9, ht, hh⟩ := h
  refine ⟨?_, ?_, ?_, a4, ?_, ?_, a7, ?_, ?_, fun p hp => ?_, fun h hh' => ?_⟩
  · rw [hf 4 (by decide), hρ 0 (by decide)]; exact a1
  · rw [hf 5 (by decide)]; exact a2
  · rw [hρ 1 (by decide)]; exact a3
  · rw [hf 6 (by decide)]; exact a5
  · rw [hρ 2 (by decide)]; exact a6
  · rw [hf 8 (by decide), hρ 3 (by decide)]; exact a8
  · rw [hf 9 (by decide), hρ 4 (by decide)]; exact a9
  · obtain ⟨q, κ, hq, hth, hk, hs⟩ := ht p hp
    refine ⟨q, κ, by rw [hR]; exact hq, ?_, ?_, ?_⟩
    · unfold rF rP; rw [hρ _ (by omega), hρ _ (by omega)]; exact hth
    · unfold rK; rw [hρ _ (by omega)]; exact hk
    · unfold rS; rw [hρ _ (by omega), h2]; exact hs
  · unfold rH
    rw [hρ _ (by omega), h3]
    exact hh h hh'
theorem WF.c {ρ ρ' : Nat → Int32} {B : Nat} (h : WF ρ T Hn B) (h8 : T ≤ 8) (h8' : Hn ≤ 8) (hρ : ∀ j, j < 45 → ρ' j = ρ j) : WF ρ' T Hn B := by
  obtain ⟨h1, h2, h3, h4⟩ := h
  refine ⟨by rw [hρ 0 (by decide)]; exact h1, by rw [hρ 3 (by decide)]; exact h2, fun p hp => ?_, fun u hu => ?_⟩
  · have e1 : rK ρ' p = rK ρ p := hρ _ (by omega)
    have e2 : rF ρ' p = rF ρ p := hρ _ (by omega)
    have e3 : rP ρ' p = rP ρ p := hρ _ (by omega)
    have e4 : rS ρ' p = rS ρ p := hρ _ (by omega)
    rw [e1, e2, e3, e4]
    exact h3 p hp
  · have e1 : rH ρ' u = rH ρ u := hρ _ (by omega)
    rw [e1]
    exact h4 u hu
theorem PresI.c (h : PresI X R TH T Hn) (h9 : ∀ j, j ≠ 7 → X' 9 j = X 9 j) (h11 : X' 11 = X 11) (h12 : X' 12 = X 12) (hR : R' 10 = R 10) (h55 : ∀ j, j < 45 → X' 55 j = X 55 j) : PresI X' R' TH T Hn :=
  ⟨h.1.cc h9 h11 h12 hR h55, h.2.c h.1.2.2.2.1 h.1.2.2.2.2.2.2.1 h55⟩
theorem ActsI.c (h : ActsI X T a) (h7 : X' 9 7 = X 9 7) (h8 : X' 51 8 = X 51 8) (h13 : X' 13 = X 13) (h57 : X' 57 = X 57) : ActsI X' T a := by
  unfold ActsI ActI
  rw [h7, h8, h13, h57]
  exact h
theorem TraceI.c (h : TraceI X l) (h1 : X' 23 1 = X 23 1) (h22 : X' 51 22 = X 51 22) (h24 : X' 24 = X 24) (h61 : X' 61 = X 61) : TraceI X' l := by
  unfold TraceI
  rw [h1, h22, h24, h61]
  exact h
theorem ImgI.c (h : ImgI X R TH k) (h14 : R' 14 k = R 14 k) (h56 : X' 56 k = X 56 k) (hr : X' (41 + 5 * k) = X (41 + 5 * k)) (h2 : X' (41 + 5 * k + 2) = X (41 + 5 * k + 2)) (h3 : X' (41 + 5 * k + 3) = X (41 + 5 * k + 3)) (hR : R' (41 + 5 * k + 1) = R (41 + 5 * k + 1)) (h55 : ∀ j, 45 * (1 + k) ≤ j → j < 45 * (1 + k) + 45 → X' 55 j = X 55 j) : ImgI X' R' TH k := by
  have hρ : ∀ j, j < 45 → rhK X' k j = rhK X k j := fun j hj => h55 _ (by omega) (by omega)
  refine ⟨by rw [h14]; exact h.1, ?_⟩
  rcases h.2 with ⟨z1, z2⟩ | ⟨z1, T, Hn, z2, z3, z4⟩
  · exact Or.inl ⟨by rw [h56]; exact z1, by rw [hr]; exact z2⟩
  · exact Or.inr ⟨by rw [h56]; exact z1, T, Hn, z2.cc (fun j _ => by rw [hr]) h2 h3 hR hρ, z3.c z2.2.2.2.1 z2.2.2.2.2.2.2.1 hρ, by rw [hρ 0 (by decide)]; exact z4⟩
theorem ImgI.th (h : ImgI X R TH k) (hn : ∀ q, N ≤ q → TH q = none) (hT : ∀ q, q < N → TH' q = TH q) : ImgI X R TH' k := by
  refine ⟨h.1, ?_⟩
  rcases h.2 with z | ⟨z1, T, Hn, z2, z3, z4⟩
  · exact Or.inl z
  · exact Or.inr ⟨z1, T, Hn, z2.th hn hT, z3, z4⟩
theorem ThI.c (h : ThI R TH N) (hR : ∀ c, c ≠ 17 → R' c = R c) : ThI R' TH N := by
  unfold ThI OKR at h ⊢
  rw [hR (4 + 1) (by decide), hR (9 + 1) (by decide), hR (41 + 1) (by decide), hR (46 + 1) (by decide)]
  exact h
/-- only the cells of the flags, of the rows and of the tape are changed -/
def KP (X X' : hX) : Prop := (∀ c, c ≠ 0 → c ≠ 2 → c ≠ 3 → ¬ (25 ≤ c ∧ c ≤ 40) → c ≠ 51 → c ≠ 52 → c ≠ 53 → c ≠ 54 → c ≠ 58 → X' c = X c) ∧ X' 51 5 = X 51 5 ∧ X' 51 8 = X 51 8 ∧ X' 51 22 = X 51 22 ∧ X' 0 7 = X 0 7 ∧ X' 51 17 = X 51 17
theorem Inv.kp (h : Inv X R TH N) (k : KP X X') (h8 : X' 0 8 = X' 51 3) (hr : RowsI X' R) (ht : ∃ t, TapeI X' t) : Inv X' R TH N := by
  obtain ⟨h1, h2, h3, ⟨T, Hn, a, hP, ha⟩, ⟨l, hl⟩, h6, h7, h8'⟩ := h
  obtain ⟨c, k5, k8, k22, k7, k17⟩ := k
  have im : ∀ k, k < 2 → ImgI X R TH k → ImgI X' R TH k := fun k hk z => z.c rfl (by rw [c 56] <;> omega) (c _ (by omega) (by omega) (by omega) (by omega) (by omega) (by omega) (by omega) (by omega) (by omega)) (c _ (by omega) (by omega) (by omega) (by omega) (by omega) (by omega) (by omega) (by omega) (by omega)) (c _ (by omega) (by omega) (by omega) (by omega) (by omega) (by omega) (by omega) (by omega) (by omega)) rfl (fun j _ _ => by rw [c 55] <;> omega)
  refine ⟨⟨by rw [k5]; exact h1.1, h8, by rw [k7, k17]; exact h1.2.2⟩, hr, ht, ⟨T, Hn, a, hP.c (fun j _ => by rw [c 9] <;> omega) (c 11 (by omega) (by omega) (by omega) (by omega) (by omega) (by omega) (by omega) (by omega) (by omega)) (c 12 (by omega) (by omega) (by omega) (by omega) (by omega) (by omega) (by omega) (by omega) (by omega)) rfl (fun j _ => by rw [c 55] <;> omega), ha.c (by rw [c 9] <;> omega) k8 (c 13 (by omega) (by omega) (by omega) (by omega) (by omega) (by omega) (by omega) (by omega) (by omega)) (c 57 (by omega) (by omega) (by omega) (by omega) (by omega) (by omega) (by omega) (by omega) (by omega))⟩, ⟨l, hl.c (by rw [c 23] <;> omega) k22 (c 24 (by omega) (by omega) (by omega) (by omega) (by omega) (by omega) (by omega) (by omega) (by omega)) (c 61 (by omega) (by omega) (by omega) (by omega) (by omega) (by omega) (by omega) (by omega) (by omega))⟩, im 0 (by decide) h6, im 1 (by decide) h7, h8'⟩
/-- the flag of what was found -/
theorem Inv.fl (h : Inv X R TH N) (v : Int32) : Inv (upA (upA X 0 (upd (X 0) 8 v)) 51 (upd (X 51) 3 v)) R TH N := by
  refine h.kp ⟨fun c a _ _ _ b _ _ _ _ => by rw [upA_n b, upA_n a], by rw [upA_s, upd_n (by decide)], by rw [upA_s, upd_n (by decide)], by rw [upA_s, upd_n (by decide)], by rw [upA_n (by decide), upA_s, upd_n (by decide)], by rw [upA_s, upd_n (by decide)]⟩ (by rw [upA_n (by decide), upA_s, upd_s, upA_s, upd_s]) (h.2.1.c rfl (fun c hc => by rw [upA_n (by omega), upA_n (by omega)]) (by rw [upA_n (by decide), upA_n (by decide)]) (by rw [upA_n (by decide), upA_n (by decide)]) (by rw [upA_n (by decide), upA_n (by decide)])) ?_
  obtain ⟨t, ht⟩ := h.2.2.1
  exact ⟨t, ht.c (by rw [upA_n (by decide), upA_n (by decide)]) (by rw [upA_n (by decide), upA_n (by decide)]) (by rw [upA_n (by decide), upA_n (by decide)]) (by rw [upA_s, upd_n (by decide)])⟩
end C41
