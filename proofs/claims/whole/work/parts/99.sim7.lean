/-! class and reference: images, what is asked -/
section C47
variable {X X' : hX} {R R' : hR} {TH : hT} {N T Hn a p B r k : Nat} {ρ ρ' : Nat → Int32}
theorem rl41 {k : Nat} (hk : k < 2) : isRealm (41 + 5 * k) := by
  match k, hk with
  | 0, _ => unfold isRealm; omega
  | 1, _ => unfold isRealm; omega
theorem cpR_no {f : Nat → Int32} {s t j : Nat} (h : ¬ (45 * t ≤ j ∧ j < 45 * t + 45)) : cpR f s t 45 j = f j := if_neg h
theorem cpR_at {f : Nat → Int32} {s t j : Nat} (h : j < 45) : cpR f s t 45 (45 * t + j) = f (45 * s + j) := by
  unfold cpR
  rw [if_pos (by omega), show 45 * t + j - 45 * t = j by omega]
end C47
theorem nk2 {x : Int32} (h : 0 ≤ x ∧ x ≤ 1) : ∃ k, k < 2 ∧ x = nI k := by
  obtain ⟨j, hj, rfl⟩ := i_ofle (n := 1) h.1 h.2 (by decide)
  exact ⟨j, by omega, rfl⟩
theorem Inv.img {X : hX} {R : hR} {TH : hT} {N : Nat} (h : Inv X R TH N) {k : Nat} (hk : k < 2) : ImgI X R TH k := by
  match k, hk with
  | 0, _ => exact h.2.2.2.2.2.1
  | 1, _ => exact h.2.2.2.2.2.2.1
theorem sim_image {x : Int32} : Sim 121 200 [.int x] := by
  intro d X R TH N h
  by_cases hx : 0 ≤ x ∧ x ≤ 1
  · obtain ⟨k, hk, rfl⟩ := nk2 hx
    obtain ⟨T, Hn, a, hP, hA⟩ := h.2.2.2.1
    have hr := hP.1
    have hrl := rl41 hk
    have hi := h.img hk
    have ho9 : OKR R TH 9 := h.2.2.2.2.2.2.2.2.2.2.1
    by_cases h0 : 0 < X 55 0
    · have h0' : (0 < X 55 0) = True := eq_true h0
      have s51 : blX X (41 + 5 * k) 9 51 = X 51 := blX_n (by omega) (by omega) (by omega)
      have s55 : blX X (41 + 5 * k) 9 55 = X 55 := blX_n (by omega) (by omega) (by omega)
      have s56 : blX X (41 + 5 * k) 9 56 = X 56 := blX_n (by omega) (by omega) (by omega)
      simp only [S121, G0, GRealm r9, GRealm hrl, t132 hk hi.1, t42 r9, hr.1, h0', t46 hrl r9 (by omega) ho9, not_true_eq_false, b2_0, px_op_some, px_op_none, tl_some, tl_none, ap_one, ap_nil, z01, o01, true_and, and_true, true_or, or_true, i10, i01, if_true, if_false, eq_self]
      rw [t200 (d := d + 10) (by rw [s51]; exact h.1.1) hk, s55, s56, if_pos h0]
      refine PI.mk rfl ?_
      obtain ⟨h1, h2, ⟨t, ht⟩, -, ⟨l, hl⟩, h6, h7, h8⟩ := h
      have c : ∀ c, c ≠ 41 + 5 * k → c ≠ 41 + 5 * k + 2 → c ≠ 41 + 5 * k + 3 → c ≠ 55 → c ≠ 56 → upA (upA (blX X (41 + 5 * k) 9) 55 (cpR (X 55) 0 (1 + k) 45)) 56 (upd (X 56) k 1) c = X c := fun c a1 a2 a3 a4 a5 => by rw [upA_n a5, upA_n a4, blX_n a1 a2 a3]
      generalize hX' : upA (upA (blX X (41 + 5 * k) 9) 55 (cpR (X 55) 0 (1 + k) 45)) 56 (upd (X 56) k 1) = X' at c ⊢
      have e55 : X' 55 = cpR (X 55) 0 (1 + k) 45 := by rw [← hX', upA_n (by decide), upA_s]
      have e56 : X' 56 = upd (X 56) k 1 := by rw [← hX', upA_s]
      have c' : ∀ c, (c ≠ 41 + 5 * k ∧ c ≠ 41 + 5 * k + 2 ∧ c ≠ 41 + 5 * k + 3 ∧ c ≠ 55 ∧ c ≠ 56) → X' c = X c := fun i ⟨b1, b2, b3, b4, b5⟩ => c i b1 b2 b3 b4 b5
      have cR : ∀ c, c ≠ 41 + 5 * k + 1 → blR R (41 + 5 * k) 9 c = R c := fun c hc => blR_n hc
      have im : ∀ j, j < 2 → ImgI X R TH j → ImgI X' (blR R (41 + 5 * k) 9) TH j := by
        intro j hj hi
        by_cases e : j = k
        · subst e
          refine ⟨by rw [cR 14 (by omega)]; exact hi.1, Or.inr ⟨by rw [e56, upd_s], T, Hn, ?_, ?_, ?_⟩⟩
          · refine (hr.like (r := 41 + 5 * j)).1.cc (fun i _ => ?_) ?_ ?_ rfl (fun i hi' => ?_)
            · rw [← hX', upA_n (by omega), upA_n (by omega)]
            · rw [← hX', upA_n (by omega), upA_n (by omega)]
            · rw [← hX', upA_n (by omega), upA_n (by omega)]
            · unfold rhK
              rw [e55, cpR_at hi', show 45 * 0 + i = i by omega]
          · refine hP.2.c hr.2.2.2.1 hr.2.2.2.2.2.2.1 (fun i hi' => ?_)
            unfold rhK
            rw [e55, cpR_at hi', show 45 * 0 + i = i by omega]
          · unfold rhK
            rw [e55, cpR_at (by decide)]
            exact h0
        · refine hi.c (by rw [cR 14 (by omega)]) (by rw [e56, upd_n e]) (c' _ (by omega)) (c' _ (by omega)) (c' _ (by omega)) (cR _ (by omega)) (fun i a1 a2 => ?_)
          rw [e55, cpR_no (by omega)]
      refine ⟨h1.c (by rw [c' 51 (by omega)]) (by rw [c' 0 (by omega)]) (by rw [c' 51 (by omega)]) (by rw [c' 0 (by omega)]) (by rw [c' 51 (by omega)]), h2.c (cR 1 (by omega)) (fun c hc => c' _ (by omega)) (c' _ (by omega)) (c' _ (by omega)) (c' _ (by omega)), ⟨t, ht.c (by rw [c' 2 (by omega)]) (c' _ (by omega)) (c' _ (by omega)) (by rw [c' 51 (by omega)])⟩, ⟨T, Hn, a, hP.c (fun j _ => by rw [c' 9 (by omega)]) (c' _ (by omega)) (c' _ (by omega)) (cR _ (by omega)) (fun j hj => by rw [e55, cpR_no (by omega)]), hA.c (by rw [c' 9 (by omega)]) (by rw [c' 51 (by omega)]) (c' _ (by omega)) (c' _ (by omega))⟩, ⟨l, hl.c (by rw [c' 23 (by omega)]) (by rw [c' 51 (by omega)]) (c' _ (by omega)) (c' _ (by omega))⟩, im 0 (by decide) h6, im 1 (by decide) h7, ?_⟩
      obtain ⟨k1, k2, k3, k4, k5, k6⟩ := h8
      have ok : ∀ r, OKR R TH r → OKR (blR R (41 + 5 * k) 9) TH r := by
        intro r hr'
        by_cases e : r = 41 + 5 * k
        · subst e; exact ho9.like
        · exact hr'.n (by omega)
      exact ⟨k1, k2, ok _ k3, ok _ k4, ok _ k5, ok _ k6⟩
    · simp only [S121, G0, GRealm r9, GRealm hrl, t132 hk hi.1, t42 r9, hr.1, h0, not_false_eq_true, b2_0, px_op_some, px_op_none, tl_some, tl_none, ap_one, ap_nil, z01, o01, true_and, and_true, true_or, or_true, i10, i01, if_true, if_false, eq_self]
      rw [t200 (d := d + 10) h.1.1 hk, if_neg h0]
      exact PI.mk rfl h
  · simp only [S121, G0, t132n hx, px_op_some, px_op_none, tl_some, tl_none, ap_one, ap_nil, z01, o01, true_and, and_true, true_or, or_true, i10, i01, if_true, if_false, eq_self]
    rw [t200b (d := d + 10) hx]
    exact PI.mk rfl h
theorem sim_restore {x : Int32} : Sim 122 201 [.int x] := by
  intro d X R TH N h
  by_cases hx : 0 ≤ x ∧ x ≤ 1
  · obtain ⟨k, hk, rfl⟩ := nk2 hx
    have hrl := rl41 hk
    have hi := h.img hk
    rcases hi.2 with ⟨z1, z2⟩ | ⟨z1, T, Hn, hr, hw, h0⟩
    · have e0 : ((0 : Int32) < 0) = False := by decide
      simp only [S122, G0, GRealm hrl, t132 hk hi.1, t42 hrl, z2, e0, not_false_eq_true, b2_0, px_op_some, px_op_none, tl_some, tl_none, ap_one, ap_nil, z01, o01, true_and, and_true, true_or, or_true, i10, i01, if_true, if_false, eq_self]
      rw [t201 (d := d + 10) hk, if_pos z1]
      exact PI.mk rfl h
    · have h0' : (0 < rhK X k 0) = True := eq_true h0
      have ok : OKR R TH (41 + 5 * k) := by
        obtain ⟨k1, k2, k3, k4, k5, k6⟩ := h.2.2.2.2.2.2.2
        match k, hk with
        | 0, _ => exact k5
        | 1, _ => exact k6
      have s51 : blX X 9 (41 + 5 * k) 51 = X 51 := blX_n (by omega) (by omega) (by omega)
      have s55 : blX X 9 (41 + 5 * k) 55 = X 55 := blX_n (by omega) (by omega) (by omega)
      have s56 : blX X 9 (41 + 5 * k) 56 = X 56 := blX_n (by omega) (by omega) (by omega)
      have n1 : ¬ (1 : Int32) = 0 := by decide
      simp only [S122, G0, GRealm r9, GRealm hrl, t132 hk hi.1, t42 hrl, hr.1, h0', t46 r9 hrl (by omega) ok, not_true_eq_false, b2_0, px_op_some, px_op_none, tl_some, tl_none, ap_one, ap_nil, z01, o01, true_and, and_true, true_or, or_true, i10, i01, if_true, if_false, eq_self]
      rw [t201 (d := d + 10) hk, s51, s55, s56, z1, if_neg n1]
      refine PI.mk rfl ?_
      refine h.pr (fun c a0 a1 a2 a3 a4 a5 a6 a7 => ?_) (fun j hj => ?_) (fun j hj => ?_) (fun c hc => blR_n hc) ok.like ⟨T, Hn, 0, ⟨?_, ?_⟩, ?_, ?_, by omega, fun j hj => absurd hj (Nat.not_lt_zero j)⟩
      · rw [upA_n a4, upA_n a5, blX_n a0 a1 a2]
      · rw [upA_s, upd_n hj]
      · rw [upA_n (by decide), upA_s, cpR_no (by omega)]
      · refine (hr.like (r := 9)).1.cc (fun i _ => ?_) ?_ ?_ rfl (fun i hi' => ?_)
        · rw [upA_n (by omega), upA_n (by omega)]
        · rw [upA_n (by omega), upA_n (by omega)]
        · rw [upA_n (by omega), upA_n (by omega)]
        · rw [upA_n (by decide), upA_s]
          have := cpR_at (f := X 55) (s := 1 + k) (t := 0) hi'
          rw [show 45 * 0 + i = i by omega] at this
          exact this
      · refine hw.c hr.2.2.2.1 hr.2.2.2.2.2.2.1 (fun i hi' => ?_)
        rw [upA_n (by decide), upA_s]
        have := cpR_at (f := X 55) (s := 1 + k) (t := 0) hi'
        rw [show 45 * 0 + i = i by omega] at this
        exact this
      · rw [upA_n (by decide), upA_n (by decide)]
        exact (hr.like (r := 9)).2
      · rw [upA_s, upd_s]; rfl
  · simp only [S122, G0, t132n hx, px_op_some, px_op_none, tl_some, tl_none, ap_one, ap_nil, z01, o01, true_and, and_true, true_or, or_true, i10, i01, if_true, if_false, eq_self]
    rw [t201b (d := d + 10) hx]
    exact PI.mk rfl h
def pV (f : Nat → Int32) (l : Nat) : List Int32 → Nat → Int32
  | [] => f
  | b :: bs => pV (upd f l b) (l + 1) bs
theorem pV_c : ∀ (bs : List Int32) (f g : Nat → Int32) (l : Nat), (∀ k, k < l → f k = g k) → ∀ k, k < l + bs.length → pV f l bs k = pV g l bs k := by
  intro bs
  induction bs with
  | nil => intro f g l h k hk; exact h k hk
  | cons b bs ih =>
    intro f g l h k hk
    refine ih _ _ (l + 1) (fun j hj => ?_) k (by rw [List.length_cons] at hk; omega)
    unfold upd
    by_cases e : j = l
    · rw [if_pos e, if_pos e]
    · rw [if_neg e, if_neg e]
      exact h j (by omega)
theorem CVs_n : ∀ (bs : List Int32) (X : hX) (l : Nat), (∀ c, c ≠ 23 → c ≠ 24 → CVs X l bs c = X c) ∧ (X 23 1 = nI l → CVs X l bs 23 1 = nI (l + bs.length)) ∧ CVs X l bs 24 = pV (X 24) l bs := by
  intro bs
  induction bs with
  | nil => intro X l; exact ⟨fun _ _ _ => rfl, fun h => h, rfl⟩
  | cons b bs ih =>
    intro X l
    obtain ⟨h1, h2, h3⟩ := ih (CV X l b) (l + 1)
    refine ⟨fun c a1 a2 => ?_, fun _ => ?_, ?_⟩
    · show CVs (CV X l b) (l + 1) bs c = X c
      rw [h1 c a1 a2]; unfold CV; rw [upA_n a1, upA_n a2]
    · show CVs (CV X l b) (l + 1) bs 23 1 = _
      rw [h2 CV_1, List.length_cons]; congr 1; omega
    · show CVs (CV X l b) (l + 1) bs 24 = pV (upd (X 24) l b) (l + 1) bs
      rw [h3]; unfold CV; rw [upA_n (by decide), upA_s]
theorem LVs_n : ∀ (bs : List Int32) (X : hX) (l : Nat), (∀ c, c ≠ 51 → c ≠ 61 → LVs X l bs c = X c) ∧ (∀ j, j ≠ 22 → LVs X l bs 51 j = X 51 j) ∧ (X 51 22 = nI l → LVs X l bs 51 22 = nI (l + bs.length)) ∧ LVs X l bs 61 = pV (X 61) l bs := by
  intro bs
  induction bs with
  | nil => intro X l; exact ⟨fun _ _ _ => rfl, fun _ _ => rfl, fun h => h, rfl⟩
  | cons b bs ih =>
    intro X l
    obtain ⟨h1, h2, h3, h4⟩ := ih (LV X l b) (l + 1)
    refine ⟨fun c a1 a2 => ?_, fun j hj => ?_, fun _ => ?_, ?_⟩
    · show LVs (LV X l b) (l + 1) bs c = X c
      rw [h1 c a1 a2]; unfold LV; rw [upA_n a1, upA_n a2]
    · show LVs (LV X l b) (l + 1) bs 51 j = X 51 j
      rw [h2 j hj]; unfold LV; rw [upA_s, upd_n hj]
    · show LVs (LV X l b) (l + 1) bs 51 22 = _
      rw [h3 LV_22, List.length_cons]; congr 1; omega
    · show LVs (LV X l b) (l + 1) bs 61 = pV (upd (X 61) l b) (l + 1) bs
      rw [h4]; unfold LV; rw [upA_n (by decide), upA_s]
theorem Inv.left {X : hX} {R : hR} {TH : hT} {N : Nat} (h : Inv X R TH N) {bs : List Int32} (hb : bs.length ≤ 16) : Inv (LVs (X0tr (CVs (upA X 23 (upd (X 23) 1 0)) 0 bs)) 0 bs) R TH N := by
  obtain ⟨l1, l2, l3, l4⟩ := LVs_n bs (X0tr (CVs (upA X 23 (upd (X 23) 1 0)) 0 bs)) 0
  obtain ⟨m1, m2, m3⟩ := CVs_n bs (upA X 23 (upd (X 23) 1 0)) 0
  generalize hX' : LVs (X0tr (CVs (upA X 23 (upd (X 23) 1 0)) 0 bs)) 0 bs = X' at l1 l2 l3 l4 ⊢
  have c : ∀ c, (c ≠ 23 ∧ c ≠ 24 ∧ c ≠ 51 ∧ c ≠ 61) → X' c = X c := fun c ⟨a1, a2, a3, a4⟩ => by
    rw [l1 c a3 a4]; unfold X0tr; rw [upA_n a3, m1 c a1 a2, upA_n a1]
  have c51 : ∀ j, j ≠ 22 → X' 51 j = X 51 j := fun j hj => by
    rw [l2 j hj]; unfold X0tr; rw [upA_s, upd_n hj, m1 51 (by decide) (by decide), upA_n (by decide)]
  obtain ⟨h1, h2, ⟨t, ht⟩, ⟨T, Hn, a, hP, hA⟩, -, h6, h7, h8⟩ := h
  have im : ∀ k, k < 2 → ImgI X R TH k → ImgI X' R TH k := fun k hk z => z.c rfl (by rw [c 56 (by decide)]) (c _ (by omega)) (c _ (by omega)) (c _ (by omega)) rfl (fun j _ _ => by rw [c 55 (by decide)])
  refine ⟨h1.c (c51 _ (by decide)) (by rw [c 0 (by decide)]) (c51 _ (by decide)) (by rw [c 0 (by decide)]) (c51 _ (by decide)), h2.c rfl (fun i hi => c _ (by omega)) (c _ (by decide)) (c _ (by decide)) (c _ (by decide)), ⟨t, ht.c (by rw [c 2 (by decide)]) (c _ (by decide)) (c _ (by decide)) (c51 _ (by decide))⟩, ⟨T, Hn, a, hP.c (fun j _ => by rw [c 9 (by decide)]) (c _ (by decide)) (c _ (by decide)) rfl (fun j _ => by rw [c 55 (by decide)]), hA.c (by rw [c 9 (by decide)]) (c51 _ (by decide)) (c _ (by decide)) (c _ (by decide))⟩, ⟨bs.length, ?_, ?_, hb, fun k hk => ?_⟩, im 0 (by decide) h6, im 1 (by decide) h7, h8⟩
  · rw [l1 23 (by decide) (by decide)]; unfold X0tr; rw [upA_n (by decide), m2 (by rw [upA_s, upd_s]; rfl), Nat.zero_add]
  · rw [l3 (by unfold X0tr; rw [upA_s, upd_s]; rfl), Nat.zero_add]
  · rw [l1 24 (by decide) (by decide), l4]
    unfold X0tr
    rw [upA_n (by decide), m3, upA_n (by decide)]
    exact pV_c bs _ _ 0 (fun j hj => absurd hj (Nat.not_lt_zero j)) k (by omega)
theorem szB_l : ∀ κ : Nat, κ < 6 → (szB (nI κ)).length ≤ 16 ∧ (mkB (nI κ)).length ≤ 16 := by decide
theorem sim_ask {x what : Int32} : Sim 125 219 [.int x, .int what] := by
  intro d X R TH N h
  obtain ⟨T, Hn, a, hP, -⟩ := h.2.2.2.1
  have hm := hP.mb h.1.1
  have hr := hP.1
  have h8 := hr.2.2.2.1
  have bad : ¬ ((0 ≤ x ∧ x ≤ nI T - 1) ∧ (0 ≤ what ∧ what ≤ 1)) → wc (d + 12) 219 [.ref 51, .int x, .int what] (hp X R TH N) (PI (some (.int (-1000001)))) := fun z => by
    rw [t219 (d := d + 2) hm, if_neg z]
    exact PI.mk rfl h
  by_cases hx : 0 ≤ x ∧ x < nI T
  · obtain ⟨p, hpT, rfl⟩ := (ltT h8).mp hx
    have hx' := (inlt h8).mpr hx
    obtain ⟨q, κ, hq, hth, hk, hs⟩ := hr.2.2.2.2.2.2.2.2.2.1 p hpT
    have hq' : R (9 + 1) p = some q := hq
    by_cases hw : 0 ≤ what ∧ what ≤ 1
    · have hw' : (0 ≤ what ∧ what ≤ 1) = True := eq_true hw
      have hr1 : RR (upA X 23 (upd (X 23) 1 0)) R TH 9 (X 55) T Hn := hr.up (by decide) (by decide) (by decide)
      have hl1 : upA X 23 (upd (X 23) 1 0) 23 1 = nI 0 := by rw [upA_s, upd_s]; rfl
      have hκ : κ < 6 := by rcases hth.2.1 with z | z | z | z | z <;> omega
      by_cases hw0 : what = 0
      · subst hw0
        simp only [S125, G0, G23, GRealm r9, t47 r9 hr hpT, hq', vrf, t135, hw', t84, v_size (d := d + 6) hr1 hth hk rfl hl1 (by decide), not_true_eq_false, b2_0, px_op_some, px_op_none, tl_some, tl_none, ap_one, ap_nil, z01, o01, true_and, and_true, true_or, or_true, i10, i01, if_true, if_false, eq_self]
        obtain ⟨c1, -, -⟩ := CVs_n (szB (rK (X 55) p)) (upA X 23 (upd (X 23) 1 0)) 0
        have s51 : CVs (upA X 23 (upd (X 23) 1 0)) 0 (szB (rK (X 55) p)) 51 = X 51 := by rw [c1 51 (by decide) (by decide), upA_n (by decide)]
        have s55 : CVs (upA X 23 (upd (X 23) 1 0)) 0 (szB (rK (X 55) p)) 55 = X 55 := by rw [c1 55 (by decide) (by decide), upA_n (by decide)]
        have hm' : MB (CVs (upA X 23 (upd (X 23) 1 0)) 0 (szB (rK (X 55) p))) T Hn := by unfold MB at hm ⊢; rw [s51, s55]; exact hm
        rw [t219 (d := d + 2) hm', if_pos ⟨hx', hw⟩, if_pos rfl, s55, nI_clamp (by omega)]
        exact PI.mk rfl (h.left (by rw [hk]; exact (szB_l κ hκ).1))
      · simp only [S125, G0, G23, GRealm r9, t47 r9 hr hpT, hq', vrf, t135, hw', hw0, t84, v_mark (d := d + 7) hr1 hth hk rfl hl1 (by decide), not_true_eq_false, b2_0, px_op_some, px_op_none, tl_some, tl_none, ap_one, ap_nil, z01, o01, true_and, and_true, true_or, or_true, i10, i01, if_true, if_false, eq_self]
        obtain ⟨c1, -, -⟩ := CVs_n (mkB (rK (X 55) p)) (upA X 23 (upd (X 23) 1 0)) 0
        have s51 : CVs (upA X 23 (upd (X 23) 1 0)) 0 (mkB (rK (X 55) p)) 51 = X 51 := by rw [c1 51 (by decide) (by decide), upA_n (by decide)]
        have s55 : CVs (upA X 23 (upd (X 23) 1 0)) 0 (mkB (rK (X 55) p)) 55 = X 55 := by rw [c1 55 (by decide) (by decide), upA_n (by decide)]
        have hm' : MB (CVs (upA X 23 (upd (X 23) 1 0)) 0 (mkB (rK (X 55) p))) T Hn := by unfold MB at hm ⊢; rw [s51, s55]; exact hm
        rw [t219 (d := d + 2) hm', if_pos ⟨hx', hw⟩, if_neg hw0, s55, nI_clamp (by omega)]
        exact PI.mk rfl (h.left (by rw [hk]; exact (szB_l κ hκ).2))
    · simp only [S125, G0, GRealm r9, t47 r9 hr hpT, hq', vrf, t135, hw, not_false_eq_true, b2_0, px_op_some, px_op_none, tl_some, tl_none, ap_one, ap_nil, z01, o01, true_and, and_true, true_or, or_true, i10, i01, if_true, if_false, eq_self]
      exact bad (fun z => hw z.2)
  · simp only [S125, G0, GRealm r9, t47n r9 hr hx, px_op_some, px_op_none, tl_some, tl_none, ap_one, ap_nil, z01, o01, true_and, and_true, true_or, or_true, i10, i01, if_true, if_false, eq_self]
    exact bad (fun z => hx ((inlt h8).mp z.1))
