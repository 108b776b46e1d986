/-! class and reference: what is done -/
section C45
variable {X X' : hX} {R R' : hR} {TH : hT} {N T Hn a p B : Nat} {ρ : Nat → Int32}
theorem ActsI.push (h : ActsI X T a) {num oath oath' : Int32} {D : Nat} (hD : D ≤ 999) (h8 : X 9 8 = nI D) (h3 : X 55 3 = nI D) (h9 : X 9 9 = X 55 4) (h7 : X' 9 7 = nI (knN a + 1)) (h51 : X' 51 8 = nI (knN a + 1)) (h13 : X' 13 = kcF X 9 a num oath) (h57 : X' 57 = knF X a num oath') (hn : num = -1000000 ∨ ∃ p, p < T ∧ num = nI p ∧ oath' = oath ∧ (oath = -1000000 ∨ ∃ o, o ≤ 999 ∧ oath = nI o)) : ActsI X' T (knN a + 1) := by
  obtain ⟨-, -, h24, hj⟩ := h
  have k23 : knN a ≤ 23 := by unfold knN; split <;> omega
  refine ⟨h7, h51, by omega, fun j hjk => ?_⟩
  rcases Nat.lt_or_ge j (knN a) with z | z
  · obtain ⟨j', hj', e13, e57⟩ : ∃ j', j' < a ∧ (∀ u, u < 4 → (if a = 24 then shF (X (9 + 4)) 92 else X (9 + 4)) (4 * j + u) = X 13 (4 * j' + u)) ∧ (∀ u, u < 4 → knA X a (4 * j + u) = X 57 (4 * j' + u)) := by
      by_cases e : a = 24
      · have ek : knN a = 23 := if_pos e
        refine ⟨j + 1, by omega, fun u hu => ?_, fun u hu => ?_⟩
        · rw [if_pos e]
          unfold shF
          rw [if_pos (by omega), show 4 + (4 * j + u) = 4 * (j + 1) + u by omega]
        · unfold knA
          rw [if_pos e]
          unfold shF
          rw [if_pos (by omega), show 4 + (4 * j + u) = 4 * (j + 1) + u by omega]
      · have ek : knN a = a := if_neg e
        refine ⟨j, by omega, fun u hu => ?_, fun u hu => ?_⟩
        · rw [if_neg e]
        · unfold knA
          rw [if_neg e]
    have q13 : ∀ u, u < 4 → X' 13 (4 * j + u) = X 13 (4 * j' + u) := fun u hu => by
      rw [h13]
      unfold kcF
      rw [upd_n (by omega), upd_n (by omega), upd_n (by omega), upd_n (by omega)]
      exact e13 u hu
    have q57 : ∀ u, u < 4 → X' 57 (4 * j + u) = X 57 (4 * j' + u) := fun u hu => by
      rw [h57]
      unfold knF
      rw [upd_n (by omega), upd_n (by omega), upd_n (by omega), upd_n (by omega)]
      exact e57 u hu
    have q130 : X' 13 (4 * j) = X 13 (4 * j') := q13 0 (by decide)
    have q570 : X' 57 (4 * j) = X 57 (4 * j') := q57 0 (by decide)
    unfold ActI
    rw [q130, q570, q13 1 (by decide), q13 2 (by decide), q13 3 (by decide), q57 1 (by decide), q57 2 (by decide), q57 3 (by decide)]
    exact hj j' hj'
  · obtain rfl : j = knN a := by omega
    have a0 : X' 13 (4 * knN a) = num := by rw [h13]; unfold kcF; rw [upd_n (by omega), upd_n (by omega), upd_n (by omega), upd_s]
    have a1 : X' 13 (4 * knN a + 1) = oath := by rw [h13]; unfold kcF; rw [upd_n (by omega), upd_n (by omega), upd_s]
    have a2 : X' 13 (4 * knN a + 2) = nI D := by rw [h13]; unfold kcF; rw [upd_n (by omega), upd_s]; exact h8
    have a3 : X' 13 (4 * knN a + 3) = X 55 4 := by rw [h13]; unfold kcF; rw [upd_s]; exact h9
    have b0 : X' 57 (4 * knN a) = nI D := by rw [h57]; unfold knF; rw [upd_n (by omega), upd_n (by omega), upd_n (by omega), upd_s]; exact h3
    have b1 : X' 57 (4 * knN a + 1) = X 55 4 := by rw [h57]; unfold knF; rw [upd_n (by omega), upd_n (by omega), upd_s]
    have b2' : X' 57 (4 * knN a + 2) = num := by rw [h57]; unfold knF; rw [upd_n (by omega), upd_s]
    have b3 : X' 57 (4 * knN a + 3) = oath' := by rw [h57]; unfold knF; rw [upd_s]
    unfold ActI
    rw [a0, a1, a2, a3, b0, b1, b2', b3]
    refine ⟨rfl, rfl, rfl, ⟨D, hD, rfl⟩, ?_⟩
    rcases hn with hn | ⟨p, h1, h2, h3, h4⟩
    · exact Or.inl hn
    · exact Or.inr ⟨p, h1, h2, h3, h4⟩
theorem Inv.pr (h : Inv X R TH N) (c : ∀ c, c ≠ 9 → c ≠ 11 → c ≠ 12 → c ≠ 13 → c ≠ 51 → c ≠ 55 → c ≠ 57 → c ≠ 59 → X' c = X c) (h51 : ∀ j, j ≠ 8 → X' 51 j = X 51 j) (h55 : ∀ j, 45 ≤ j → X' 55 j = X 55 j) (hR : ∀ c, c ≠ 10 → R' c = R c) (ho : OKR R' TH 9) (hP : ∃ T Hn a, PresI X' R' TH T Hn ∧ ActsI X' T a) : Inv X' R' TH N := by
  obtain ⟨h1, h2, ⟨t, ht⟩, -, ⟨l, hl⟩, h6, h7, h8⟩ := h
  have c' : ∀ i, i ≠ 9 ∧ i ≠ 11 ∧ i ≠ 12 ∧ i ≠ 13 ∧ i ≠ 51 ∧ i ≠ 55 ∧ i ≠ 57 ∧ i ≠ 59 → X' i = X i := fun i ⟨a1, a2, a3, a4, a5, a6, a7, a8⟩ => c i a1 a2 a3 a4 a5 a6 a7 a8
  have im : ∀ k, k < 2 → ImgI X R TH k → ImgI X' R' TH k := fun k hk z => z.c (by rw [hR 14 (by decide)]) (by rw [c' 56 (by decide)]) (c' _ (by omega)) (c' _ (by omega)) (c' _ (by omega)) (hR _ (by omega)) (fun j h _ => h55 j (by omega))
  refine ⟨h1.c (h51 _ (by decide)) (by rw [c' 0 (by decide)]) (h51 _ (by decide)) (by rw [c' 0 (by decide)]) (h51 _ (by decide)), h2.c (hR 1 (by decide)) (fun c hc => c' _ (by omega)) (c' _ (by decide)) (c' _ (by decide)) (c' _ (by decide)), ⟨t, ht.c (by rw [c' 2 (by decide)]) (c' _ (by decide)) (c' _ (by decide)) (h51 _ (by decide))⟩, hP, ⟨l, hl.c (by rw [c' 23 (by decide)]) (h51 _ (by decide)) (c' _ (by decide)) (c' _ (by decide))⟩, im 0 (by decide) h6, im 1 (by decide) h7, ?_⟩
  obtain ⟨k1, k2, k3, k4, k5, k6⟩ := h8
  refine ⟨k1, k2, ?_, ho, ?_, ?_⟩
  · unfold OKR at k3 ⊢; rw [hR (4 + 1) (by decide)]; exact k3
  · unfold OKR at k5 ⊢; rw [hR (41 + 1) (by decide)]; exact k5
  · unfold OKR at k6 ⊢; rw [hR (46 + 1) (by decide)]; exact k6
theorem WF.ask' (h : WF ρ T Hn B) (hp : p < T) (h8 : T ≤ 8) {E : Nat} (hE : E ≤ B) (eE : thenI ρ p = nI E) : WF (askR ρ p) T Hn B := by
  refine ⟨?_, ⟨E, hE, by rw [askR_3]; exact eE⟩, fun t ht => ?_, fun u hu => ?_⟩
  · rw [askR_n (by decide) (by omega)]; exact h.1
  · obtain ⟨a1, a2, a3, a4⟩ := h.2.2.1 t ht
    rw [askR_K, askR_F, askR_P, askR_S]
    refine ⟨a1, a2, a3, ?_⟩
    unfold askO
    by_cases e : t = p
    · subst e
      rw [if_pos rfl]
      split
      · exact Or.inr ⟨E, hE, eE⟩
      · exact a4
    · rw [if_neg e]; exact a4
  · rw [askR_H u (by omega)]
    exact h.2.2.2 u hu
theorem WF.u3 (h : WF ρ T Hn B) {E : Nat} (hE : E ≤ B) : WF (upd ρ 3 (nI E)) T Hn B := by
  refine ⟨by rw [upd_n (by decide)]; exact h.1, ⟨E, hE, upd_s _ _ _⟩, fun t ht => ?_, fun u hu => ?_⟩
  · unfold rK rF rP rS
    rw [upd_n (by omega), upd_n (by omega), upd_n (by omega), upd_n (by omega)]
    exact h.2.2.1 t ht
  · unfold rH
    rw [upd_n (by omega)]
    exact h.2.2.2 u hu
theorem WF.u4 (h : WF ρ T Hn B) {v : Int32} : WF (upd ρ 4 v) T Hn B := by
  refine ⟨by rw [upd_n (by decide)]; exact h.1, by rw [upd_n (by decide)]; exact h.2.1, fun t ht => ?_, fun u hu => ?_⟩
  · unfold rK rF rP rS
    rw [upd_n (by omega), upd_n (by omega), upd_n (by omega), upd_n (by omega)]
    exact h.2.2.1 t ht
  · unfold rH
    rw [upd_n (by omega)]
    exact h.2.2.2 u hu
theorem WF.uS (h : WF ρ T Hn B) (hp : p < 8) {v : Int32} (hv : v = -1000000 ∨ ∃ o, o ≤ B ∧ v = nI o) : WF (upd ρ (5 + 4 * p + 3) v) T Hn B := by
  refine ⟨by rw [upd_n (by omega)]; exact h.1, by rw [upd_n (by omega)]; exact h.2.1, fun t ht => ?_, fun u hu => ?_⟩
  · unfold rK rF rP rS
    rw [upd_n (by omega), upd_n (by omega), upd_n (by omega)]
    refine ⟨(h.2.2.1 t ht).1, (h.2.2.1 t ht).2.1, (h.2.2.1 t ht).2.2.1, ?_⟩
    by_cases e : t = p
    · subst e; rw [upd_s]; exact hv
    · rw [upd_n (by omega)]; exact (h.2.2.1 t ht).2.2.2
  · unfold rH
    rw [upd_n (by omega)]
    exact h.2.2.2 u hu
theorem seX_8 {r : Nat} : seX X r a ρ p r 8 = thenI ρ p := by
  unfold seX
  split
  · rw [upA_n (by omega), upA_s, upd_s]
  · rw [upA_s, upd_s]
end C45
theorem sim_askFor {x : Int32} : Sim 105 176 [.int x] := by
  intro d X R TH N h
  obtain ⟨T, Hn, a, hP, hA⟩ := h.2.2.2.1
  have hm := hP.mb h.1.1
  have hr := hP.1
  have h8 := hr.2.2.2.1
  obtain ⟨D, hD9, hD⟩ := hP.D
  by_cases hx : 0 ≤ x ∧ x < nI T
  · obtain ⟨p, hpT, rfl⟩ := (ltT h8).mp hx
    have hx' := (inlt h8).mpr hx
    obtain ⟨q, κ, hq, hth, hk, hs⟩ := hr.2.2.2.2.2.2.2.2.2.1 p hpT
    have hq' : R (9 + 1) p = some q := hq
    have hw := hP.2.wayC hpT hth.2.1 hk
    have h38 := hr.2.2.2.2.2.2.2.1
    have e3 : X 55 3 + wayI (rK (X 55) p) (rF (X 55) p) = thenI (X 55) p := rfl
    by_cases hf : thenI (X 55) p ≤ 999
    · have hf' : ¬ 999 < thenI (X 55) p := by rw [Int32.not_lt]; exact hf
      obtain ⟨E, hE, eE⟩ := hP.2.then hpT
      have hE9 : E ≤ 999 := by
        rw [eE] at hf
        rcases Nat.lt_or_ge 999 E with z | z
        · exact absurd (nI_lt (a := 999) z (by omega)) (by rw [Int32.not_lt]; exact hf)
        · exact z
      simp only [S105, G0, GRealm r9, t47 r9 hr hpT, hq', vrf, v_days hth, hw, h38, e3, hf, t51 r9 hr hpT hth hk hw hA.1 hA.2.2.1, seX_8, px_op_some, px_op_none, tl_some, tl_none, ap_one, ap_nil, z01, o01, true_and, and_true, true_or, or_true, i10, i01, if_true, if_false, eq_self]
      have s51 : seX X 9 a (X 55) p 51 = X 51 := seX_n (by decide) (by decide) (by decide)
      have s55 : seX X 9 a (X 55) p 55 = X 55 := seX_n (by decide) (by decide) (by decide)
      have s57 : seX X 9 a (X 55) p 57 = X 57 := seX_n (by decide) (by decide) (by decide)
      have hm' : MB (seX X 9 a (X 55) p) T Hn := by unfold MB at hm ⊢; rw [s51, s55]; exact hm
      rw [t176 (d := d + 9) hm' (by rw [s51]; exact hA.2.1) hA.2.2.1, if_pos hx', nI_clamp (by omega), s55, if_neg hf']
      refine PI.mk rfl ?_
      have ek : knF (seX X 9 a (X 55) p) a (nI p) (rS (X 55) p) = knF X a (nI p) (rS (X 55) p) := by unfold knF knA; rw [s55, s57]
      unfold knX
      rw [ek, s51]
      refine h.pr (R' := R) (fun c a0 a1 a2 a3 a4 a5 a6 a7 => ?_) (fun j hj => ?_) (fun j hj => ?_) (fun c _ => rfl) h.2.2.2.2.2.2.2.2.2.2.1 ⟨T, Hn, knN a + 1, ⟨?_, ?_⟩, ?_⟩
      · rw [upA_n a5, upA_n a4, upA_n a6, seX_n a0 a1 a3]
      · rw [upA_n (by decide), upA_s, upd_n hj]
      · rw [upA_s]
        have e := askR_n (ρ := X 55) (p := p) (j := j) (by omega) (by omega)
        unfold askR at e
        exact e
      · refine (hr.ask (a := a) hpT).cc (fun j hj => ?_) ?_ ?_ rfl (fun j _ => ?_)
        · rw [upA_n (by decide), upA_n (by decide), upA_n (by decide)]
        · rw [upA_n (by decide), upA_n (by decide), upA_n (by decide)]
        · rw [upA_n (by decide), upA_n (by decide), upA_n (by decide)]
        · rw [upA_s]; rfl
      · rw [upA_s]
        exact hP.2.ask' hpT h8 hE9 eE
      · refine hA.push hD9 (h38.trans hD) hD hr.2.2.2.2.2.2.2.2.1 ?_ ?_ ?_ ?_ (Or.inr ⟨p, hpT, rfl, rfl, (hP.2.2.2.1 p hpT).2.2.2⟩)
        · rw [upA_n (by decide), upA_n (by decide), upA_n (by decide), seX_7]
        · rw [upA_n (by decide), upA_s, upd_s]
        · rw [upA_n (by decide), upA_n (by decide), upA_n (by decide)]; exact seX_4
        · rw [upA_n (by decide), upA_n (by decide), upA_s]
    · have hf' : 999 < thenI (X 55) p := Int32.not_le.mp hf
      simp only [S105, G0, GRealm r9, t47 r9 hr hpT, hq', vrf, v_days hth, hw, h38, e3, hf, px_op_some, px_op_none, tl_some, tl_none, ap_one, ap_nil, z01, o01, true_and, and_true, true_or, or_true, i10, i01, if_true, if_false, eq_self]
      rw [t176 (d := d + 9) hm hA.2.1 hA.2.2.1, if_pos hx', nI_clamp (by omega), if_pos hf']
      exact PI.mk rfl h
  · simp only [S105, G0, GRealm r9, t47n r9 hr hx, px_op_some, px_op_none, tl_some, tl_none, ap_one, ap_nil, z01, o01, true_and, and_true, true_or, or_true, i10, i01, if_true, if_false, eq_self]
    rw [t176 (d := d + 9) hm hA.2.1 hA.2.2.1, if_neg (fun z => hx ((inlt h8).mp z))]
    exact PI.mk rfl h
theorem sim_tries {x : Int32} : Sim 106 177 [.int x] := by
  intro d X R TH N h
  obtain ⟨T, Hn, a, hP, hA⟩ := h.2.2.2.1
  have hm := hP.mb h.1.1
  have hr := hP.1
  have h8 := hr.2.2.2.1
  have h8' := hr.2.2.2.2.2.2.1
  obtain ⟨D, hD9, hD⟩ := hP.D
  by_cases hx : 0 ≤ x ∧ x < nI Hn
  · have hx' := (inlt h8').mpr hx
    have hxt : (0 ≤ x ∧ x < nI Hn) = True := eq_true hx
    have s51 : ∀ v, tyX X 9 a (X 55) v 51 = X 51 := fun v => by unfold tyX; rw [upA_n (by decide), upA_n (by decide)]
    have s55 : ∀ v, tyX X 9 a (X 55) v 55 = X 55 := fun v => by unfold tyX; rw [upA_n (by decide), upA_n (by decide)]
    have s57 : ∀ v, tyX X 9 a (X 55) v 57 = X 57 := fun v => by unfold tyX; rw [upA_n (by decide), upA_n (by decide)]
    have hm' : ∀ v, MB (tyX X 9 a (X 55) v) T Hn := fun v => by unfold MB at hm ⊢; rw [s51, s55]; exact hm
    have key : ∀ v f, Inv (upA (knX (upA (tyX X 9 a (X 55) v) 59 f) a (-1000000) 0) 55 (upd (X 55) 4 (X 55 4 + v))) R TH N := by
      intro v f
      have ek : knF (upA (tyX X 9 a (X 55) v) 59 f) a (-1000000) 0 = knF X a (-1000000) 0 := by unfold knF knA; rw [upA_n (by decide), upA_n (by decide), s55, s57]
      unfold knX
      rw [ek, upA_n (show (51 : Nat) ≠ 59 by decide), s51]
      refine h.pr (R' := R) (fun c a0 a1 a2 a3 a4 a5 a6 a7 => ?_) (fun j hj => ?_) (fun j hj => ?_) (fun c _ => rfl) h.2.2.2.2.2.2.2.2.2.2.1 ⟨T, Hn, knN a + 1, ⟨?_, ?_⟩, ?_⟩
      · rw [upA_n a5, upA_n a4, upA_n a6, upA_n a7]; unfold tyX; rw [upA_n a0, upA_n a3]
      · rw [upA_n (by decide), upA_s, upd_n hj]
      · rw [upA_s, upd_n (by omega)]
      · refine (hr.try9 (a := a) (v := v)).cc (fun j hj => ?_) ?_ ?_ rfl (fun j _ => ?_)
        · rw [upA_n (by decide), upA_n (by decide), upA_n (by decide), upA_n (by decide)]
        · rw [upA_n (by decide), upA_n (by decide), upA_n (by decide), upA_n (by decide)]
        · rw [upA_n (by decide), upA_n (by decide), upA_n (by decide), upA_n (by decide)]
        · rw [upA_s]
      · rw [upA_s]
        exact hP.2.u4
      · refine hA.push (oath := -1000000) (oath' := 0) hD9 (hr.2.2.2.2.2.2.2.1.trans hD) hD hr.2.2.2.2.2.2.2.2.1 ?_ ?_ ?_ ?_ (Or.inl rfl)
        · rw [upA_n (by decide), upA_n (by decide), upA_n (by decide), upA_n (by decide)]; unfold tyX; rw [upA_s, upd_n (by decide), upd_s]
        · rw [upA_n (by decide), upA_s, upd_s]
        · rw [upA_n (by decide), upA_n (by decide), upA_n (by decide), upA_n (by decide)]; unfold tyX; rw [upA_n (by decide), upA_s]
        · rw [upA_n (by decide), upA_n (by decide), upA_s]
    simp only [S106, G0, GRealm r9, t49 r9 hr, hxt, t52 r9 hr (hP.2.ov0 (by decide) (X 55 3)) hA.1 hA.2.2.1, not_true_eq_false, b2_0, px_op_some, px_op_none, tl_some, tl_none, ap_one, ap_nil, z01, o01, true_and, and_true, true_or, or_true, i10, i01, if_true, if_false, eq_self]
    rcases and1 (openI (X 55) (rS (X 55)) (X 55 3) (X 55 0) T Hn >>> (x &&& 31)) with e | e
    · simp only [e, i01, i10, if_true, if_false, S106, px_op_some, px_op_none, tl_some, tl_none, ap_one, ap_nil, z01, o01, true_and, and_true, true_or, or_true, i10, i01, if_true, if_false, eq_self]
      rw [← e]
      rw [t177 (d := d + 7) (hm' _) (by rw [s51]; exact hA.2.1) hA.2.2.1, if_pos hx', s55]
      exact PI.mk rfl (key _ _)
    · simp only [e, i01, i10, if_true, if_false, S106, px_op_some, px_op_none, tl_some, tl_none, ap_one, ap_nil, z01, o01, true_and, and_true, true_or, or_true, i10, i01, if_true, if_false, eq_self]
      rw [← e]
      rw [t177 (d := d + 7) (hm' _) (by rw [s51]; exact hA.2.1) hA.2.2.1, if_pos hx', s55]
      exact PI.mk rfl (key _ _)
  · simp only [S106, G0, GRealm r9, t49 r9 hr, hx, not_false_eq_true, b2_0, px_op_some, px_op_none, tl_some, tl_none, ap_one, ap_nil, z01, o01, true_and, and_true, true_or, or_true, i10, i01, if_true, if_false, eq_self]
    rw [t177 (d := d + 7) hm hA.2.1 hA.2.2.1, if_neg (fun z => hx ((inlt h8').mp z))]
    exact PI.mk rfl h
theorem sim_waits {n : Int32} : Sim 107 178 [.int n] := by
  intro d X R TH N h
  obtain ⟨T, Hn, a, hP, hA⟩ := h.2.2.2.1
  have hm := hP.mb h.1.1
  have hr := hP.1
  have h38 := hr.2.2.2.2.2.2.2.1
  obtain ⟨D, hD9, hD⟩ := hP.D
  have t := fun Q => t178 (d := d + 9) (X := X) (R := R) (TH := TH) (N := N) (n := n) (Q := Q) hm hA.2.1 hA.2.2.1
  by_cases h0 : 0 < X 55 0
  · have h0' : (0 < X 55 0) = True := eq_true h0
    by_cases c1 : n < 1
    · simp only [S107, G0, GRealm r9, t42 r9, hr.1, h0', c1, not_true_eq_false, b2_0, px_op_some, px_op_none, tl_some, tl_none, ap_one, ap_nil, z01, o01, true_and, and_true, true_or, or_true, i10, i01, if_true, if_false, eq_self]
      rw [t, if_pos h0, if_neg (fun z => absurd z.1 (by rw [Int32.not_le]; exact c1))]
      exact PI.mk rfl h
    by_cases c2 : n ≤ 60
    · have hn : 1 ≤ n ∧ n ≤ 60 := ⟨Int32.not_lt.mp c1, c2⟩
      by_cases c3 : X 55 3 + n ≤ 999
      · have c3' : ¬ 999 < X 55 3 + n := by rw [Int32.not_lt]; exact c3
        obtain ⟨m, hm60, rfl⟩ := i_ofle (n := 60) (Int32.le_trans (by decide) hn.1) hn.2 (by decide)
        have eE : X 55 3 + nI m = nI (D + m) := by rw [hD, nI_add]
        have hE9 : D + m ≤ 999 := by
          rw [eE] at c3
          rcases Nat.lt_or_ge 999 (D + m) with z | z
          · exact absurd (nI_lt (a := 999) z (by omega)) (by rw [Int32.not_lt]; exact c3)
          · exact z
        have s8 : ∀ v, lpX X 9 a v 9 8 = v := fun v => by unfold lpX; rw [upA_s, upd_s]
        have s51 : ∀ v, lpX X 9 a v 51 = X 51 := fun v => by unfold lpX; rw [upA_n (by decide), upA_n (by decide)]
        have s55 : ∀ v, lpX X 9 a v 55 = X 55 := fun v => by unfold lpX; rw [upA_n (by decide), upA_n (by decide)]
        have s57 : ∀ v, lpX X 9 a v 57 = X 57 := fun v => by unfold lpX; rw [upA_n (by decide), upA_n (by decide)]
        have hm' : ∀ v, MB (lpX X 9 a v) T Hn := fun v => by unfold MB at hm ⊢; rw [s51, s55]; exact hm
        simp only [S107, G0, GRealm r9, t42 r9, hr.1, h0', c1, c2, h38, c3, t53 r9 hA.1 hA.2.2.1, s8, not_true_eq_false, b2_0, px_op_some, px_op_none, tl_some, tl_none, ap_one, ap_nil, z01, o01, true_and, and_true, true_or, or_true, i10, i01, if_true, if_false, eq_self]
        rw [t178 (d := d + 9) (hm' _) (by rw [s51]; exact hA.2.1) hA.2.2.1, s55, if_pos h0, if_pos hn, if_neg c3']
        refine PI.mk rfl ?_
        have ek : knF (lpX X 9 a (X 55 3 + nI m)) a (-1000000) 0 = knF X a (-1000000) 0 := by unfold knF knA; rw [s55, s57]
        unfold knX
        rw [ek, s51]
        refine h.pr (R' := R) (fun c a0 a1 a2 a3 a4 a5 a6 a7 => ?_) (fun j hj => ?_) (fun j hj => ?_) (fun c _ => rfl) h.2.2.2.2.2.2.2.2.2.2.1 ⟨T, Hn, knN a + 1, ⟨?_, ?_⟩, ?_⟩
        · rw [upA_n a5, upA_n a4, upA_n a6]; unfold lpX; rw [upA_n a0, upA_n a3]
        · rw [upA_n (by decide), upA_s, upd_n hj]
        · rw [upA_s, upd_n (by omega)]
        · refine (hr.pass (a := a) (v := X 55 3 + nI m)).cc (fun j hj => ?_) ?_ ?_ rfl (fun j _ => ?_)
          · rw [upA_n (by decide), upA_n (by decide), upA_n (by decide)]
          · rw [upA_n (by decide), upA_n (by decide), upA_n (by decide)]
          · rw [upA_n (by decide), upA_n (by decide), upA_n (by decide)]
          · rw [upA_s]
        · rw [upA_s, eE]
          exact hP.2.u3 hE9
        · refine hA.push (oath := -1000000) (oath' := 0) hD9 (h38.trans hD) hD hr.2.2.2.2.2.2.2.2.1 ?_ ?_ ?_ ?_ (Or.inl rfl)
          · rw [upA_n (by decide), upA_n (by decide), upA_n (by decide)]; unfold lpX; rw [upA_s, upd_n (by decide), upd_s]
          · rw [upA_n (by decide), upA_s, upd_s]
          · rw [upA_n (by decide), upA_n (by decide), upA_n (by decide)]; unfold lpX; rw [upA_n (by decide), upA_s]
          · rw [upA_n (by decide), upA_n (by decide), upA_s]
      · simp only [S107, G0, GRealm r9, t42 r9, hr.1, h0', c1, c2, h38, c3, not_true_eq_false, b2_0, px_op_some, px_op_none, tl_some, tl_none, ap_one, ap_nil, z01, o01, true_and, and_true, true_or, or_true, i10, i01, if_true, if_false, eq_self]
        rw [t, if_pos h0, if_pos hn, if_pos (Int32.not_le.mp c3)]
        exact PI.mk rfl h
    · simp only [S107, G0, GRealm r9, t42 r9, hr.1, h0', c1, c2, not_true_eq_false, b2_0, px_op_some, px_op_none, tl_some, tl_none, ap_one, ap_nil, z01, o01, true_and, and_true, true_or, or_true, i10, i01, if_true, if_false, eq_self]
      rw [t, if_pos h0, if_neg (fun z => c2 z.2)]
      exact PI.mk rfl h
  · simp only [S107, G0, GRealm r9, t42 r9, hr.1, h0, not_false_eq_true, b2_0, px_op_some, px_op_none, tl_some, tl_none, ap_one, ap_nil, z01, o01, true_and, and_true, true_or, or_true, i10, i01, if_true, if_false, eq_self]
    rw [t, if_neg h0]
    exact PI.mk rfl h
section C46
variable {X X' : hX} {R R' : hR} {TH : hT} {N T Hn a p B r : Nat} {ρ ρ' : Nat → Int32}
theorem RR.od (hr : RR X R TH r ρ T Hn) (h4 : X' r 4 = X r 4) (h5 : X' r 5 = X r 5) (h6 : X' r 6 = X r 6) (h3 : X' (r + 3) = X (r + 3)) (h8 : X' r 8 = ρ' 3) (h9 : X' r 9 = ρ' 4) (hs : ∀ p, p < T → X' (r + 2) p = rS ρ' p) (hρ : ∀ j, j ≠ 3 → j ≠ 4 → (∀ p, p < 8 → j ≠ 5 + 4 * p + 3) → ρ' j = ρ j) : RR X' R TH r ρ' T Hn := by
  obtain ⟨a1, a2, a3, a4, a5, a6, a7, a8, a9, ht, hh⟩ := hr
  refine ⟨?_, ?_, ?_, a4, ?_, ?_, a7, h8, h9, fun p hp => ?_, fun h hh' => ?_⟩
  · rw [h4, hρ 0 (by decide) (by decide) (by omega)]; exact a1
  · rw [h5]; exact a2
  · rw [hρ 1 (by decide) (by decide) (by omega)]; exact a3
  · rw [h6]; exact a5
  · rw [hρ 2 (by decide) (by decide) (by omega)]; exact a6
  · obtain ⟨q, κ, hq, hth, hk, -⟩ := ht p hp
    refine ⟨q, κ, hq, ?_, ?_, hs p hp⟩
    · unfold rF rP; rw [hρ _ (by omega) (by omega) (by omega), hρ _ (by omega) (by omega) (by omega)]; exact hth
    · unfold rK; rw [hρ _ (by omega) (by omega) (by omega)]; exact hk
  · unfold rH
    rw [hρ _ (by omega) (by omega) (by omega), h3]
    exact hh h hh'
end C46
theorem sim_undo : Sim 108 179 [] := by
  intro d X R TH N h
  obtain ⟨T, Hn, a, hP, hA⟩ := h.2.2.2.1
  have hr := hP.1
  have h8 := hr.2.2.2.1
  have h5 := hr.2.1
  cases a with
  | zero =>
    have h7 : X 9 7 = 0 := hA.1
    simp only [S108, G0, GRealm r9, t54_0 r9 h7, px_op_some, px_op_none, tl_some, tl_none, ap_one, ap_nil, z01, o01, true_and, and_true, true_or, or_true, i10, i01, if_true, if_false, eq_self]
    rw [t179_0 hA.2.1]
    exact PI.mk rfl h
  | succ a =>
    have h24 : a < 24 := hA.2.2.1
    obtain ⟨b1, b2', b3, ⟨D', hD', b4⟩, b5⟩ := hA.2.2.2 a (Nat.lt_succ_self a)
    have kept : ∀ {X' : hX}, X' 9 7 = nI a → X' 51 8 = nI a → X' 13 = X 13 → X' 57 = X 57 → ActsI X' T a := by
      intro X' e1 e2 e3 e4
      refine ⟨e1, e2, by omega, fun j hj => ?_⟩
      have := hA.2.2.2 j (by omega)
      unfold ActI at this ⊢
      rw [e3, e4]
      exact this
    rcases b5 with z | ⟨p, hpT, hpn, ho, hoo⟩
    · have e7 : udX X 9 a 9 7 = nI a := by unfold udX; rw [upA_s, upd_n (by decide), upd_n (by decide), upd_s]
      have s51 : udX X 9 a 51 = X 51 := by unfold udX; rw [upA_n (by decide)]
      have s55 : udX X 9 a 55 = X 55 := by unfold udX; rw [upA_n (by decide)]
      have s57 : udX X 9 a 57 = X 57 := by unfold udX; rw [upA_n (by decide)]
      simp only [S108, G0, GRealm r9, t54N r9 hA.1 h24 z, e7, px_op_some, px_op_none, tl_some, tl_none, ap_one, ap_nil, z01, o01, true_and, and_true, true_or, or_true, i10, i01, if_true, if_false, eq_self]
      rw [t179 (d := d + 10) (a := a) (by rw [s51]; exact h.1.1) (by rw [s51]; exact hA.2.1) h24 (by rw [s57]; exact Or.inl (b3.trans z))]
      refine PI.mk rfl ?_
      have eu : unF (udX X 9 a) a = upd (upd (X 55) 3 (nI D')) 4 (X 13 (4 * a + 3)) := by
        unfold unF
        rw [s55, s57, if_pos (b3.trans z), b4, b2']
      unfold unX
      rw [eu, s51]
      refine h.pr (R' := R) (fun c a0 a1 a2 a3 a4 a5 a6 a7 => ?_) (fun j hj => ?_) (fun j hj => ?_) (fun c _ => rfl) h.2.2.2.2.2.2.2.2.2.2.1 ⟨T, Hn, a, ⟨?_, ?_⟩, kept ?_ ?_ ?_ ?_⟩
      · rw [upA_n a5, upA_n a4]; unfold udX; rw [upA_n a0]
      · rw [upA_n (by decide), upA_s, upd_n hj]
      · rw [upA_s, upd_n (by omega), upd_n (by omega)]
      · refine hr.od ?_ ?_ ?_ ?_ ?_ ?_ (fun p hp => ?_) (fun j h3 h4 h5 => ?_)
        · rw [upA_n (by decide), upA_n (by decide)]; unfold udX; rw [upA_s, upd_n (by decide), upd_n (by decide), upd_n (by decide)]
        · rw [upA_n (by decide), upA_n (by decide)]; unfold udX; rw [upA_s, upd_n (by decide), upd_n (by decide), upd_n (by decide)]
        · rw [upA_n (by decide), upA_n (by decide)]; unfold udX; rw [upA_s, upd_n (by decide), upd_n (by decide), upd_n (by decide)]
        · rw [upA_n (by decide), upA_n (by decide)]; unfold udX; rw [upA_n (by decide)]
        · rw [upA_n (by decide), upA_n (by decide), upA_s, upd_n (by decide), upd_s]; unfold udX; rw [upA_s, upd_n (by decide), upd_s, ← b4]; exact b1.symm
        · rw [upA_n (by decide), upA_n (by decide), upA_s, upd_s]; unfold udX; rw [upA_s, upd_s]
        · rw [upA_n (by decide), upA_n (by decide), upA_s]; unfold udX rS; rw [upA_n (by decide), upd_n (by omega), upd_n (by omega)]
          obtain ⟨q, κ, hq, hth, hk, hs⟩ := hr.2.2.2.2.2.2.2.2.2.1 p hp
          exact hs
        · rw [upA_s, upd_n h4, upd_n h3]
      · rw [upA_s]
        exact (hP.2.u3 hD').u4
      · rw [upA_n (by decide), upA_n (by decide)]; exact e7
      · rw [upA_n (by decide), upA_s, upd_s]
      · rw [upA_n (by decide), upA_n (by decide)]; unfold udX; rw [upA_n (by decide)]
      · rw [upA_n (by decide), upA_n (by decide)]; exact s57
    · have e7 : ∀ f, upA (udX X 9 a) (9 + 2) f 9 7 = nI a := fun f => by rw [upA_n (by decide)]; unfold udX; rw [upA_s, upd_n (by decide), upd_n (by decide), upd_s]
      have s51 : ∀ f, upA (udX X 9 a) (9 + 2) f 51 = X 51 := fun f => by unfold udX; rw [upA_n (by decide), upA_n (by decide)]
      have s55 : ∀ f, upA (udX X 9 a) (9 + 2) f 55 = X 55 := fun f => by unfold udX; rw [upA_n (by decide), upA_n (by decide)]
      have s57 : ∀ f, upA (udX X 9 a) (9 + 2) f 57 = X 57 := fun f => by unfold udX; rw [upA_n (by decide), upA_n (by decide)]
      have b3p : X 57 (4 * a + 2) = nI p := b3.trans hpn
      have np : ¬ nI p = -1000000 := by rw [i_nn (by omega)]; exact id
      simp only [S108, G0, GRealm r9, t54p r9 h5 h8 hpT hA.1 h24 hpn, e7, px_op_some, px_op_none, tl_some, tl_none, ap_one, ap_nil, z01, o01, true_and, and_true, true_or, or_true, i10, i01, if_true, if_false, eq_self]
      rw [t179 (d := d + 10) (a := a) (by rw [s51]; exact h.1.1) (by rw [s51]; exact hA.2.1) h24 (by rw [s57]; exact Or.inr ⟨p, by omega, b3p⟩)]
      refine PI.mk rfl ?_
      have eu : ∀ f, unF (upA (udX X 9 a) (9 + 2) f) a = upd (upd (upd (X 55) 3 (nI D')) 4 (X 13 (4 * a + 3))) (5 + 4 * p + 3) (X 13 (4 * a + 1)) := by
        intro f
        unfold unF
        rw [s55, s57, b3p, if_neg np, b4, b2', ho, nI_clamp (by omega)]
      unfold unX
      rw [eu, s51]
      refine h.pr (R' := R) (fun c a0 a1 a2 a3 a4 a5 a6 a7 => ?_) (fun j hj => ?_) (fun j hj => ?_) (fun c _ => rfl) h.2.2.2.2.2.2.2.2.2.2.1 ⟨T, Hn, a, ⟨?_, ?_⟩, kept ?_ ?_ ?_ ?_⟩
      · rw [upA_n a5, upA_n a4, upA_n a1]; unfold udX; rw [upA_n a0]
      · rw [upA_n (by decide), upA_s, upd_n hj]
      · rw [upA_s, upd_n (by omega), upd_n (by omega), upd_n (by omega)]
      · refine hr.od ?_ ?_ ?_ ?_ ?_ ?_ (fun t ht => ?_) (fun j h3 h4 h5 => ?_)
        · rw [upA_n (by decide), upA_n (by decide), upA_n (by decide)]; unfold udX; rw [upA_s, upd_n (by decide), upd_n (by decide), upd_n (by decide)]
        · rw [upA_n (by decide), upA_n (by decide), upA_n (by decide)]; unfold udX; rw [upA_s, upd_n (by decide), upd_n (by decide), upd_n (by decide)]
        · rw [upA_n (by decide), upA_n (by decide), upA_n (by decide)]; unfold udX; rw [upA_s, upd_n (by decide), upd_n (by decide), upd_n (by decide)]
        · rw [upA_n (by decide), upA_n (by decide), upA_n (by decide)]; unfold udX; rw [upA_n (by decide)]
        · rw [upA_n (by decide), upA_n (by decide), upA_n (by decide), upA_s, upd_n (by omega), upd_n (by decide), upd_s]; unfold udX; rw [upA_s, upd_n (by decide), upd_s, ← b4]; exact b1.symm
        · rw [upA_n (by decide), upA_n (by decide), upA_n (by decide), upA_s, upd_n (by omega), upd_s]; unfold udX; rw [upA_s, upd_s]
        · rw [upA_n (by decide), upA_n (by decide), upA_s, upA_s]
          unfold rS
          by_cases e : t = p
          · subst e; rw [upd_s, upd_s]
          · rw [upd_n e, upd_n (by omega), upd_n (by omega), upd_n (by omega)]
            obtain ⟨q, κ, hq, hth, hk, hs⟩ := hr.2.2.2.2.2.2.2.2.2.1 t ht
            exact hs
        · rw [upA_s, upd_n (h5 p (by omega)), upd_n h4, upd_n h3]
      · rw [upA_s]
        exact ((hP.2.u3 hD').u4).uS (by omega) hoo
      · rw [upA_n (by decide), upA_n (by decide)]; exact e7 _
      · rw [upA_n (by decide), upA_s, upd_s]
      · rw [upA_n (by decide), upA_n (by decide), upA_n (by decide)]; unfold udX; rw [upA_n (by decide)]
      · rw [upA_n (by decide), upA_n (by decide)]; exact s57 _
