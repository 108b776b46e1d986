/-! rounds: the class goes on -/
def GF (X X' : hX) (k : Nat) : Prop := (∀ c, (c < 15 ∨ 22 < c) → X' c = X c) ∧ (∀ j, j < 4 * k → X' 20 j = X 20 j) ∧ ∀ j, j < k → X' 21 j = X 21 j
theorem GF.rf (X : hX) (k : Nat) : GF X X k := ⟨fun _ _ => rfl, fun _ _ => rfl, fun _ _ => rfl⟩
theorem GF.tr {X Y Z : hX} {k : Nat} (h1 : GF X Y k) (h2 : GF Y Z k) : GF X Z k := ⟨fun c a => (h2.1 c a).trans (h1.1 c a), fun j a => (h2.2.1 j a).trans (h1.2.1 j a), fun j a => (h2.2.2 j a).trans (h1.2.2 j a)⟩
theorem GF.mono {X Y : hX} {k k' : Nat} (h : GF X Y k) (hk : k' ≤ k) : GF X Y k' := ⟨h.1, fun j a => h.2.1 j (by omega), fun j a => h.2.2 j (by omega)⟩
section C29
variable {d : Nat} {X : hX} {R : hR} {TH : hT} {N T Hn B D t : Nat} {ρ : Nat → Int32} {w : List Nat} {b : Option (List Nat)} {Q : Option Value → px_H → Prop}
/-- the dream stands behind way w; b is the best way so far -/
def GS (ρ : Nat → Int32) (T Hn : Nat) (R : hR) (TH : hT) (X : hX) (w : List Nat) (b : Option (List Nat)) : Prop :=
  RR X R TH 16 (stR ρ w) T Hn ∧ X 16 7 = nI w.length ∧ (∀ j, j < w.length → X 21 j = nI (w.getD j 0)) ∧ BR ρ T Hn X b
/-- an act undone: the realm is as before -/
theorem RR.undo {r k : Nat} {X3 : hX} {σ : Nat → Int32} (hr : RR X3 R TH r (askR σ t) T Hn) (ht : t < T) (h1 : X3 (r + 4) (4 * k + 1) = rS σ t) (h2 : X3 (r + 4) (4 * k + 2) = σ 3) (h3 : X3 (r + 4) (4 * k + 3) = σ 4) :
    RR (upA (udX X3 r k) (r + 2) (upd (X3 (r + 2)) t (X3 (r + 4) (4 * k + 1)))) R TH r σ T Hn := by
  obtain ⟨a0, a5, r1, h8, a6, r2, h8', a3, a4, at', ah⟩ := hr
  have eR : ∀ j, j ≠ 3 → j ≠ 5 + 4 * t + 3 → askR σ t j = σ j := fun j x y => askR_n x y
  have eU : ∀ j, j ≠ 7 → j ≠ 8 → j ≠ 9 → (upA (udX X3 r k) (r + 2) (upd (X3 (r + 2)) t (X3 (r + 4) (4 * k + 1)))) r j = X3 r j := by
    intro j x y z
    unfold udX
    rw [upA_n (by omega), upA_s, upd_n z, upd_n y, upd_n x]
  refine ⟨?_, ?_, ?_, h8, ?_, ?_, h8', ?_, ?_, fun p hp => ?_, fun h hh => ?_⟩
  · rw [eU 4 (by decide) (by decide) (by decide), a0, eR 0 (by decide) (by omega)]
  · rw [eU 5 (by decide) (by decide) (by decide)]; exact a5
  · rw [← eR 1 (by decide) (by omega)]; exact r1
  · rw [eU 6 (by decide) (by decide) (by decide)]; exact a6
  · rw [← eR 2 (by decide) (by omega)]; exact r2
  · unfold udX; rw [upA_n (by omega), upA_s, upd_n (by decide), upd_s, h2]
  · unfold udX; rw [upA_n (by omega), upA_s, upd_s, h3]
  · obtain ⟨q, κ, hq, hth, hk, hs⟩ := at' p hp
    rw [askR_F, askR_P] at hth
    rw [askR_K] at hk
    refine ⟨q, κ, hq, hth, hk, ?_⟩
    rw [upA_s, h1]
    by_cases e : p = t
    · subst e; rw [upd_s]
    · rw [upd_n e, hs, askR_S]
      unfold askO
      rw [if_neg e]
  · unfold udX
    rw [upA_n (by omega), upA_n (by omega), ah h hh]
    exact askR_H h (by omega)
theorem getD_a {w : List Nat} {t j : Nat} : (w ++ [t]).getD j 0 = if j < w.length then w.getD j 0 else if j = w.length then t else 0 := by
  rw [List.getD_eq_getElem?_getD, List.getD_eq_getElem?_getD]
  by_cases h : j < w.length
  · rw [if_pos h, List.getElem?_append_left h]
  · rw [if_neg h, List.getElem?_append_right (by omega)]
    by_cases e : j = w.length
    · subst e; rw [if_pos rfl, Nat.sub_self]; rfl
    · rw [if_neg e, List.getElem?_eq_none (by simp; omega)]; rfl
/-- a thing more is asked -/
def chX (X : hX) (ρ : Nat → Int32) (w : List Nat) (t : Nat) : hX := seX (upA X 21 (upd (X 21) w.length (nI t))) 16 w.length (stR ρ w) t
theorem GS.child (h : GS ρ T Hn R TH X w b) (hl : w.length < 4) (ht : t < T) : GS ρ T Hn R TH (chX X ρ w t) (w ++ [t]) b ∧ GF X (chX X ρ w t) w.length ∧ chX X ρ w t 20 (4 * w.length) = nI t ∧ chX X ρ w t 20 (4 * w.length + 1) = rS (stR ρ w) t ∧ chX X ρ w t 20 (4 * w.length + 2) = stR ρ w 3 ∧ chX X ρ w t 20 (4 * w.length + 3) = stR ρ w 4 := by
  obtain ⟨hr, h7, hw, hb⟩ := h
  have hr1 : RR (upA X 21 (upd (X 21) w.length (nI t))) R TH 16 (stR ρ w) T Hn := hr.up (by decide) (by decide) (by decide)
  have hk : knN w.length = w.length := if_neg (by omega)
  have h20 : chX X ρ w t 20 = kcF (upA X 21 (upd (X 21) w.length (nI t))) 16 w.length (nI t) (rS (stR ρ w) t) := seX_4
  have e20 : ∀ j, kcF (upA X 21 (upd (X 21) w.length (nI t))) 16 w.length (nI t) (rS (stR ρ w) t) j = upd (upd (upd (upd (X 20) (4 * w.length) (nI t)) (4 * w.length + 1) (rS (stR ρ w) t)) (4 * w.length + 2) (X 16 8)) (4 * w.length + 3) (X 16 9) j := by
    intro j
    unfold kcF
    rw [hk, if_neg (by omega), upA_n (show (16 : Nat) ≠ 21 by decide), upA_n (show (16 + 4 : Nat) ≠ 21 by decide)]
  have cN : ∀ c, c ≠ 16 → c ≠ 18 → c ≠ 20 → c ≠ 21 → chX X ρ w t c = X c := by
    intro c a1 a2 a3 a4
    unfold chX
    rw [seX_n a1 a2 a3, upA_n a4]
  have c21 : chX X ρ w t 21 = upd (X 21) w.length (nI t) := by
    unfold chX
    rw [seX_n (by decide) (by decide) (by decide), upA_s]
  refine ⟨⟨?_, ?_, fun j hj => ?_, ?_⟩, ⟨fun c hc => cN c (by omega) (by omega) (by omega) (by omega), fun j hj => ?_, fun j hj => ?_⟩, ?_, ?_, ?_, ?_⟩
  · rw [stR_a]
    exact hr1.ask ht
  · unfold chX
    rw [seX_7, hk, List.length_append]
    rfl
  · rw [c21, getD_a]
    rw [List.length_append] at hj
    by_cases e : j < w.length
    · rw [if_pos e, upd_n (by omega)]; exact hw j e
    · have e2 : j = w.length := by have : j < w.length + 1 := hj; omega
      subst e2
      rw [if_neg e, if_pos rfl, upd_s]
  · exact hb.up (cN 15 (by decide) (by decide) (by decide) (by decide)) (cN 22 (by decide) (by decide) (by decide) (by decide))
  · rw [h20, e20, upd_n (by omega), upd_n (by omega), upd_n (by omega), upd_n (by omega)]
  · rw [c21, upd_n (by omega)]
  · rw [h20, e20, upd_n (by omega), upd_n (by omega), upd_n (by omega), upd_s]
  · rw [h20, e20, upd_n (by omega), upd_n (by omega), upd_s]
  · rw [h20, e20, upd_n (by omega), upd_s]
    exact hr.2.2.2.2.2.2.2.1
  · rw [h20, e20, upd_s]
    exact hr.2.2.2.2.2.2.2.2.1
/-- and undone -/
theorem GS.back {X3 : hX} {b' : Option (List Nat)} (h : GS ρ T Hn R TH X w b) (hl : w.length < 4) (ht : t < T) (h3 : GS ρ T Hn R TH X3 (w ++ [t]) b') (hf : GF (chX X ρ w t) X3 (w ++ [t]).length) :
    GS ρ T Hn R TH (upA (udX X3 16 w.length) 18 (upd (X3 18) t (X3 20 (4 * w.length + 1)))) w b' ∧ GF X (upA (udX X3 16 w.length) 18 (upd (X3 18) t (X3 20 (4 * w.length + 1)))) w.length ∧ X3 16 7 = nI (w.length + 1) ∧ X3 20 (4 * w.length) = nI t := by
  obtain ⟨c1, c2, c3, c4, c5, c6⟩ := h.child hl ht
  obtain ⟨hr3, h37, hw3, hb3⟩ := h3
  have el : (w ++ [t]).length = w.length + 1 := by rw [List.length_append]; rfl
  rw [el] at hf h37
  rw [stR_a] at hr3
  have f20 : ∀ j, j < 4 * (w.length + 1) → X3 20 j = chX X ρ w t 20 j := hf.2.1
  have hu := hr3.undo (k := w.length) ht (by rw [f20 _ (by omega)]; exact c4) (by rw [f20 _ (by omega)]; exact c5) (by rw [f20 _ (by omega)]; exact c6)
  have eN : ∀ c, c ≠ 16 → c ≠ 18 → (upA (udX X3 16 w.length) 18 (upd (X3 18) t (X3 20 (4 * w.length + 1)))) c = X3 c := by
    intro c a1 a2
    rw [upA_n a2]
    unfold udX
    rw [upA_n a1]
  refine ⟨⟨hu, ?_, fun j hj => ?_, ?_⟩, ⟨fun c hc => ?_, fun j hj => ?_, fun j hj => ?_⟩, h37, ?_⟩
  · rw [upA_n (by decide)]
    unfold udX
    rw [upA_s, upd_n (by decide), upd_n (by decide), upd_s]
  · rw [eN 21 (by decide) (by decide), hw3 j (by rw [el]; omega), getD_a, if_pos hj]
  · exact hb3.up (eN 15 (by decide) (by decide)) (eN 22 (by decide) (by decide))
  · rw [eN c (by omega) (by omega), hf.1 c hc, c2.1 c hc]
  · rw [eN 20 (by decide) (by decide), f20 j (by omega), c2.2.1 j hj]
  · rw [eN 21 (by decide) (by decide), hf.2.2 j (by omega), c2.2.2 j hj]
  · rw [f20 _ (by omega)]; exact c3
end C29
