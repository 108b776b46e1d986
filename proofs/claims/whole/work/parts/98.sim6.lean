/-! class and reference: what is done -/
section C45
variable {X X' : hX} {R R' : hR} {TH : hT} {N T Hn a p B : Nat} {ρ : Nat → Int32}
theorem ActsI.push (h : ActsI X T a) {num oath oath' : Int32} {D : Nat} (hD : D ≤ 999) (h8 : X 9 8 = nI D) (h3 : X 55 3 = nI D) (h9 : X 9 9 = X 55 4) (h7 : X' 9 7 = nI (knN a + 1)) (h51 : X' 51 8 = nI (knN a + 1)) (h13 : X' 13 = kcF X 9 a num oath) (h57 : X' 57 = knF X a num oath') (hn : num = -1000000 ∨ ∃ p, p < T ∧ num = nI p ∧ oath' = oath ∧ (oath = -1000000 ∨ ∃ o, o ≤ 999 ∧ oath = nI o)) : ActsI X' T (knN a + 1) := by
  obtain ⟨-, -, h24, hj⟩ := h
  have k23 : knN a ≤ 23 := by unfold knN; split <;> omega
  refine ⟨h7, h51, by omega, fun j hjk => ?_⟩
  rcases Nat.lt_or_ge j (knN a) with z | z
  · obtain ⟨j', hj', e13, e57⟩ : ∃ j', j' < a ∧ (∀ u, u < 4 → (if a = 24 then shF (X (9 + 4)) 92 else X (9 + 4)) (4 * j + u) = X 13 (4 * j' + u)) ∧ (∀ u, u < 4 → knA X a (4 * j + u) = X 57 (4 * j' + u)) := by
      by_cases e : a = 24
      · have ek : knN a = 23 := if_pos e
        refine ⟨j + 1, by omega, fun u hu => ?_, fun u hu => ?_⟩
        · rw [if_pos e]
          unfold shF
          rw [if_pos (by omega), show 4 + (4 * j + u) = 4 * (j + 1) + u by omega]
        · unfold knA
          rw [if_pos e]
          unfold shF
          rw [if_pos (by omega), show 4 + (4 * j + u) = 4 * (j + 1) + u by omega]
      · have ek : knN a = a := if_neg e
        refine ⟨j, by omega, fun u hu => ?_, fun u hu => ?_⟩
        · rw [if_neg e]
        · unfold knA
          rw [if_neg e]
    have q13 : ∀ u, u < 4 → X' 13 (4 * j + u) = X 13 (4 * j' + u) := fun u hu => by
      rw [h13]
      unfold kcF
      rw [upd_n (by omega), upd_n (by omega), upd_n (by omega), upd_n (by omega)]
      exact e13 u hu
    have q57 : ∀ u, u < 4 → X' 57 (4 * j + u) = X 57 (4 * j' + u) := fun u hu => by
      rw [h57]
      unfold knF
      rw [upd_n (by omega), upd_n (by omega), upd_n (by omega), upd_n (by omega)]
      exact e57 u hu
    have q130 : X' 13 (4 * j) = X 13 (4 * j') := q13 0 (by decide)
    have q570 : X' 57 (4 * j) = X 57 (4 * j') := q57 0 (by decide)
    unfold ActI
    rw [q130, q570, q13 1 (by decide), q13 2 (by decide), q13 3 (by decide), q57 1 (by decide), q57 2 (by decide), q57 3 (by decide)]
    exact hj j' hj'
  · obtain rfl : j = knN a := by omega
    have a0 : X' 13 (4 * knN a) = num := by rw [h13]; unfold kcF; rw [upd_n (by omega), upd_n (by omega), upd_n (by omega), upd_s]
    have a1 : X' 13 (4 * knN a + 1) = oath := by rw [h13]; unfold kcF; rw [upd_n (by omega), upd_n (by omega), upd_s]
    have a2 : X' 13 (4 * knN a + 2) = nI D := by rw [h13]; unfold kcF; rw [upd_n (by omega), upd_s]; exact h8
    have a3 : X' 13 (4 * knN a + 3) = X 55 4 := by rw [h13]; unfold kcF; rw [upd_s]; exact h9
    have b0 : X' 57 (4 * knN a) = nI D := by rw [h57]; unfold knF; rw [upd_n (by omega), upd_n (by omega), upd_n (by omega), upd_s]; exact h3
    have b1 : X' 57 (4 * knN a + 1) = X 55 4 := by rw [h57]; unfold knF; rw [upd_n (by omega), upd_n (by omega), upd_s]
    have b2' : X' 57 (4 * knN a + 2) = num := by rw [h57]; unfold knF; rw [upd_n (by omega), upd_s]
    have b3 : X' 57 (4 * knN a + 3) = oath' := by rw [h57]; unfold knF; rw [upd_s]
    unfold ActI
    rw [a0, a1, a2, a3, b0, b1, b2', b3]
    refine ⟨rfl, rfl, rfl, ⟨D, hD, rfl⟩, ?_⟩
    rcases hn with hn | ⟨p, h1, h2, h3, h4⟩
    · exact Or.inl hn
    · exact Or.inr ⟨p, h1, h2, h3, h4⟩
theorem Inv.pr (h : Inv X R TH N) (c : ∀ c, c ≠ 9 → c ≠ 11 → c ≠ 12 → c ≠ 13 → c ≠ 51 → c ≠ 55 → c ≠ 57 → c ≠ 59 → X' c = X c) (h51 : ∀ j, j ≠ 8 → X' 51 j = X 51 j) (h55 : ∀ j, 45 ≤ j → X' 55 j = X 55 j) (hR : ∀ c, c ≠ 10 → R' c = R c) (ho : OKR R' TH 9) (hP : ∃ T Hn a, PresI X' R' TH T Hn ∧ ActsI X' T a) : Inv X' R' TH N := by
  obtain ⟨h1, h2, ⟨t, ht⟩, -, ⟨l, hl⟩, h6, h7, h8⟩ := h
  have c' : ∀ i, i ≠ 9 ∧ i ≠ 11 ∧ i ≠ 12 ∧ i ≠ 13 ∧ i ≠ 51 ∧ i ≠ 55 ∧ i ≠ 57 ∧ i ≠ 59 → X' i = X i := fun i ⟨a1, a2, a3, a4, a5, a6, a7, a8⟩ => c i a1 a2 a3 a4 a5 a6 a7 a8
  have im : ∀ k, k < 2 → ImgI X R TH k → ImgI X' R' TH k := fun k hk z => z.c (by rw [hR 14 (by decide)]) (by rw [c' 56 (by decide)]) (c' _ (by omega)) (c' _ (by omega)) (c' _ (by omega)) (hR _ (by omega)) (fun j h _ => h55 j (by omega))
  refine ⟨h1.c (h51 _ (by decide)) (by rw [c' 0 (by decide)]) (h51 _ (by decide)) (by rw [c' 0 (by decide)]) (h51 _ (by decide)), h2.c (hR 1 (by decide)) (fun c hc => c' _ (by omega)) (c' _ (by decide)) (c' _ (by decide)) (c' _ (by decide)), ⟨t, ht.c (by rw [c' 2 (by decide)]) (c' _ (by decide)) (c' _ (by decide)) (h51 _ (by decide))⟩, hP, ⟨l, hl.c (by rw [c' 23 (by decide)]) (h51 _ (by decide)) (c' _ (by decide)) (c' _ (by decide))⟩, im 0 (by decide) h6, im 1 (by decide) h7, ?_⟩
  obtain ⟨k1, k2, k3, k4, k5, k6⟩ := h8
  refine ⟨k1, k2, ?_, ho, ?_, ?_⟩
  · unfold OKR at k3 ⊢; rw [hR (4 + 1) (by decide)]; exact k3
  · unfold OKR at k5 ⊢; rw [hR (41 + 1) (by decide)]; exact k5
  · unfold OKR at k6 ⊢; rw [hR (46 + 1) (by decide)]; exact k6
theorem WF.ask' (h : WF ρ T Hn B) (hp : p < T) (h8 : T ≤ 8) {E : Nat} (hE : E ≤ B) (eE : thenI ρ p = nI E) : WF (askR ρ p) T Hn B := by
  refine ⟨?_, ⟨E, hE, by rw [askR_3]; exact eE⟩, fun t ht => ?_, fun u hu => ?_⟩
  · rw [askR_n (by decide) (by omega)]; exact h.1
  · obtain ⟨a1, a2, a3, a4⟩ := h.2.2.1 t ht
    rw [askR_K, askR_F, askR_P, askR_S]
    refine ⟨a1, a2, a3, ?_⟩
    unfold askO
    by_cases e : t = p
    · subst e
      rw [if_pos rfl]
      split
      · exact Or.inr ⟨E, hE, eE⟩
      · exact a4
    · rw [if_neg e]; exact a4
  · rw [askR_H u (by omega)]
    exact h.2.2.2 u hu
theorem WF.u3 (h : WF ρ T Hn B) {E : Nat} (hE : E ≤ B) : WF (upd ρ 3 (nI E)) T Hn B := by
  refine ⟨by rw [upd_n (by decide)]; exact h.1, ⟨E, hE, upd_s _ _ _⟩, fun t ht => ?_, fun u hu => ?_⟩
  · unfold rK rF rP rS
    rw [upd_n (by omega), upd_n (by omega), upd_n (by omega), upd_n (by omega)]
    exact h.2.2.1 t ht
  · unfold rH
    rw [upd_n (by omega)]
    exact h.2.2.2 u hu
theorem WF.u4 (h : WF ρ T Hn B) {v : Int32} : WF (upd ρ 4 v) T Hn B := by
  refine ⟨by rw [upd_n (by decide)]; exact h.1, by rw [upd_n (by decide)]; exact h.2.1, fun t ht => ?_, fun u hu => ?_⟩
  · unfold rK rF rP rS
    rw [upd_n (by omega), upd_n (by omega), upd_n (by omega), upd_n (by omega)]
    exact h.2.2.1 t ht
  · unfold rH
    rw [upd_n (by omega)]
    exact h.2.2.2 u hu
theorem WF.uS (h : WF ρ T Hn B) (hp : p < 8) {v : Int32} (hv : v = -1000000 ∨ ∃ o, o ≤ B ∧ v = nI o) : WF (upd ρ (5 + 4 * p + 3) v) T Hn B := by
  refine ⟨by rw [upd_n (by omega)]; exact h.1, by rw [upd_n (by omega)]; exact h.2.1, fun t ht => ?_, fun u hu => ?_⟩
  · unfold rK rF rP rS
    rw [upd_n (by omega), upd_n (by omega), upd_n (by omega)]
    refine ⟨(h.2.2.1 t ht).1, (h.2.2.1 t ht).2.1, (h.2.2.1 t ht).2.2.1, ?_⟩
    by_cases e : t = p
    · subst e; rw [upd_s]; exact hv
    · rw [upd_n (by omega)]; exact (h.2.2.1 t ht).2.2.2
  · unfold rH
    rw [upd_n (by omega)]
    exact h.2.2.2 u hu
theorem seX_8 {r : Nat} : seX X r a ρ p r 8 = thenI ρ p := by
  unfold seX
  split
  · rw [upA_n (by omega), upA_s, upd_s]
  · rw [upA_s, upd_s]
end C45
theorem sim_askFor {x : Int32} : Sim 105 176 [.int x] := by
  intro d X R TH N h
  obtain ⟨T, Hn, a, hP, hA⟩ := h.2.2.2.1
  have hm := hP.mb h.1.1
  have hr := hP.1
  have h8 := hr.2.2.2.1
  obtain ⟨D, hD9, hD⟩ := hP.D
  by_cases hx : 0 ≤ x ∧ x < nI T
  · obtain ⟨p, hpT, rfl⟩ := (ltT h8).mp hx
    have hx' := (inlt h8).mpr hx
    obtain ⟨q, κ, hq, hth, hk, hs⟩ := hr.2.2.2.2.2.2.2.2.2.1 p hpT
    have hq' : R (9 + 1) p = some q := hq
    have hw := hP.2.wayC hpT hth.2.1 hk
    have h38 := hr.2.2.2.2.2.2.2.1
    have e3 : X 55 3 + wayI (rK (X 55) p) (rF (X 55) p) = thenI (X 55) p := rfl
    by_cases hf : thenI (X 55) p ≤ 999
    · have hf' : ¬ 999 < thenI (X 55) p := by rw [Int32.not_lt]; exact hf
      obtain ⟨E, hE, eE⟩ := hP.2.then hpT
      have hE9 : E ≤ 999 := by
        rw [eE] at hf
        rcases Nat.lt_or_ge 999 E with z | z
        · exact absurd (nI_lt (a := 999) z (by omega)) (by rw [Int32.not_lt]; exact hf)
        · exact z
      simp only [S105, G0, GRealm r9, t47 r9 hr hpT, hq', vrf, v_days hth, hw, h38, e3, hf, t51 r9 hr hpT hth hk hw hA.1 hA.2.2.1, seX_8, px_op_some, px_op_none, tl_some, tl_none, ap_one, ap_nil, z01, o01, true_and, and_true, true_or, or_true, i10, i01, if_true, if_false, eq_self]
      have s51 : seX X 9 a (X 55) p 51 = X 51 := seX_n (by decide) (by decide) (by decide)
      have s55 : seX X 9 a (X 55) p 55 = X 55 := seX_n (by decide) (by decide) (by decide)
      have s57 : seX X 9 a (X 55) p 57 = X 57 := seX_n (by decide) (by decide) (by decide)
      have hm' : MB (seX X 9 a (X 55) p) T Hn := by unfold MB at hm ⊢; rw [s51, s55]; exact hm
      rw [t176 (d := d + 9) hm' (by rw [s51]; exact hA.2.1) hA.2.2.1, if_pos hx', nI_clamp (by omega), s55, if_neg hf']
      refine PI.mk rfl ?_
      have ek : knF (seX X 9 a (X 55) p) a (nI p) (rS (X 55) p) = knF X a (nI p) (rS (X 55) p) := by unfold knF knA; rw [s55, s57]
      unfold knX
      rw [ek, s51]
      refine h.pr (R' := R) (fun c a0 a1 a2 a3 a4 a5 a6 a7 => ?_) (fun j hj => ?_) (fun j hj => ?_) (fun c _ => rfl) h.2.2.2.2.2.2.2.2.2.2.1 ⟨T, Hn, knN a + 1, ⟨?_, ?_⟩, ?_⟩
      · rw [upA_n a5, upA_n a4, upA_n a6, seX_n a0 a1 a3]
      · rw [upA_n (by decide), upA_s, upd_n hj]
      · rw [upA_s]
        have e := askR_n (ρ := X 55) (p := p) (j := j) (by omega) (by omega)
        unfold askR at e
        exact e
      · refine (hr.ask (a := a) hpT).cc (fun j hj => ?_) ?_ ?_ rfl (fun j _ => ?_)
        · rw [upA_n (by decide), upA_n (by decide), upA_n (by decide)]
        · rw [upA_n (by decide), upA_n (by decide), upA_n (by decide)]
        · rw [upA_n (by decide), upA_n (by decide), upA_n (by decide)]
        · rw [upA_s]; rfl
      · rw [upA_s]
        exact hP.2.ask' hpT h8 hE9 eE
      · refine hA.push hD9 (h38.trans hD) hD hr.2.2.2.2.2.2.2.2.1 ?_ ?_ ?_ ?_ (Or.inr ⟨p, hpT, rfl, rfl, (hP.2.2.2.1 p hpT).2.2.2⟩)
        · rw [upA_n (by decide), upA_n (by decide), upA_n (by decide), seX_7]
        · rw [upA_n (by decide), upA_s, upd_s]
        · rw [upA_n (by decide), upA_n (by decide), upA_n (by decide)]; exact seX_4
        · rw [upA_n (by decide), upA_n (by decide), upA_s]
    · have hf' : 999 < thenI (X 55) p := Int32.not_le.mp hf
      simp only [S105, G0, GRealm r9, t47 r9 hr hpT, hq', vrf, v_days hth, hw, h38, e3, hf, px_op_some, px_op_none, tl_some, tl_none, ap_one, ap_nil, z01, o01, true_and, and_true, true_or, or_true, i10, i01, if_true, if_false, eq_self]
      rw [t176 (d := d + 9) hm hA.2.1 hA.2.2.1, if_pos hx', nI_clamp (by omega), if_pos hf']
      exact PI.mk rfl h
  · simp only [S105, G0, GRealm r9, t47n r9 hr hx, px_op_some, px_op_none, tl_some, tl_none, ap_one, ap_nil, z01, o01, true_and, and_true, true_or, or_true, i10, i01, if_true, if_false, eq_self]
    rw [t176 (d := d + 9) hm hA.2.1 hA.2.2.1, if_neg (fun z => hx ((inlt h8).mp z))]
    exact PI.mk rfl h
theorem sim_tries {x : Int32} : Sim 106 177 [.int x] := by
  intro d X R TH N h
  obtain ⟨T, Hn, a, hP, hA⟩ := h.2.2.2.1
  have hm := hP.mb h.1.1
  have hr := hP.1
  have h8 := hr.2.2.2.1
  have h8' := hr.2.2.2.2.2.2.1
  obtain ⟨D, hD9, hD⟩ := hP.D
  by_cases hx : 0 ≤ x ∧ x < nI Hn
  · have hx' := (inlt h8').mpr hx
    have hxt : (0 ≤ x ∧ x < nI Hn) = True := eq_true hx
    have s51 : ∀ v, tyX X 9 a (X 55) v 51 = X 51 := fun v => by unfold tyX; rw [upA_n (by decide), upA_n (by decide)]
    have s55 : ∀ v, tyX X 9 a (X 55) v 55 = X 55 := fun v => by unfold tyX; rw [upA_n (by decide), upA_n (by decide)]
    have s57 : ∀ v, tyX X 9 a (X 55) v 57 = X 57 := fun v => by unfold tyX; rw [upA_n (by decide), upA_n (by decide)]
    have hm' : ∀ v, MB (tyX X 9 a (X 55) v) T Hn := fun v => by unfold MB at hm ⊢; rw [s51, s55]; exact hm
    have key : ∀ v f, Inv (upA (knX (upA (tyX X 9 a (X 55) v) 59 f) a (-1000000) 0) 55 (upd (X 55) 4 (X 55 4 + v))) R TH N := by
      intro v f
      have ek : knF (upA (tyX X 9 a (X 55) v) 59 f) a (-1000000) 0 = knF X a (-1000000) 0 := by unfold knF knA; rw [upA_n (by decide), upA_n (by decide), s55, s57]
      unfold knX
      rw [ek, upA_n (show (51 : Nat) ≠ 59 by decide), s51]
      refine h.pr (R' := R) (fun c a0 a1 a2 a3 a4 a5 a6 a7 => ?_) (fun j hj => ?_) (fun j hj => ?_) (fun c _ => rfl) h.2.2.2.2.2.2.2.2.2.2.1 ⟨T, Hn, knN a + 1, ⟨?_, ?_⟩, ?_⟩
      · rw [upA_n a5, upA_n a4, upA_n a6, upA_n a7]; unfold tyX; rw [upA_n a0, upA_n a3]
      · rw [upA_n (by decide), upA_s, upd_n hj]
      · rw [upA_s, upd_n (by omega)]
      · refine (hr.try9 (a := a) (v := v)).cc (fun j hj => ?_) ?_ ?_ rfl (fun j _ => ?_)
        · rw [upA_n (by decide), upA_n (by decide), upA_n (by decide), upA_n (by decide)]
        · rw [upA_n (by decide), upA_n (by decide), upA_n (by decide), upA_n (by decide)]
        · rw [upA_n (by decide), upA_n (by decide), upA_n (by decide), upA_n (by decide)]
        · rw [upA_s]
      · rw [upA_s]
        exact hP.2.u4
      · refine hA.push (oath := -1000000) (oath' := 0) hD9 (hr.2.2.2.2.2.2.2.1.trans hD) hD hr.2.2.2.2.2.2.2.2.1 ?_ ?_ ?_ ?_ (Or.inl rfl)
        · rw [upA_n (by decide), upA_n (by decide), upA_n (by decide), upA_n (by decide)]; unfold tyX; rw [upA_s, upd_n (by decide), upd_s]
        · rw [upA_n (by decide), upA_s, upd_s]
        · rw [upA_n (by decide), upA_n (by decide), upA_n (by decide), upA_n (by decide)]; unfold tyX; rw [upA_n (by decide), upA_s]
        · rw [upA_n (by decide), upA_n (by decide), upA_s]
    simp only [S106, G0, GRealm r9, t49 r9 hr, hxt, t52 r9 hr (hP.2.ov0 (by decide) (X 55 3)) hA.1 hA.2.2.1, not_true_eq_false, b2_0, px_op_some, px_op_none, tl_some, tl_none, ap_one, ap_nil, z01, o01, true_and, and_true, true_or, or_true, i10, i01, if_true, if_false, eq_self]
    rcases and1 (openI (X 55) (rS (X 55)) (X 55 3) (X 55 0) T Hn >>> (x &&& 31)) with e | e
    · have k := key 0
      rw [← e] at k
      simp only [e, i01, i10, if_true, if_false, S106, px_op_some, px_op_none, tl_some, tl_none, ap_one, ap_nil, z01, o01, true_and, and_true, true_or, or_true, i10, i01, if_true, if_false, eq_self]
      rw [← e]
      rw [t177 (d := d + 7) (hm' _) (by rw [s51]; exact hA.2.1) hA.2.2.1, if_pos hx', s55]
      exact PI.mk rfl (k _)
    · have k := key 1
      rw [← e] at k
      simp only [e, i01, i10, if_true, if_false, S106, px_op_some, px_op_none, tl_some, tl_none, ap_one, ap_nil, z01, o01, true_and, and_true, true_or, or_true, i10, i01, if_true, if_false, eq_self]
      rw [← e]
      rw [t177 (d := d + 7) (hm' _) (by rw [s51]; exact hA.2.1) hA.2.2.1, if_pos hx', s55]
      exact PI.mk rfl (k _)
  · simp only [S106, G0, GRealm r9, t49 r9 hr, hx, not_false_eq_true, b2_0, px_op_some, px_op_none, tl_some, tl_none, ap_one, ap_nil, z01, o01, true_and, and_true, true_or, or_true, i10, i01, if_true, if_false, eq_self]
    rw [t177 (d := d + 7) hm hA.2.1 hA.2.2.1, if_neg (fun z => hx ((inlt h8').mp z))]
    exact PI.mk rfl h
