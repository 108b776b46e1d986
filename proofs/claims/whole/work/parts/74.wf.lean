/-! a realm's numbers, as they are always -/
def WF (ρ : Nat → Int32) (T Hn B : Nat) : Prop :=
  (∃ k, k ≤ 40 ∧ ρ 0 = nI k) ∧ (∃ D, D ≤ B ∧ ρ 3 = nI D) ∧
  (∀ p, p < T → (∃ κ, (κ = 1 ∨ κ = 2 ∨ κ = 3 ∨ κ = 4 ∨ κ = 5) ∧ rK ρ p = nI κ) ∧ (∃ j, j < 10 ∧ rF ρ p = nI j) ∧ (∃ j, j ≤ 20 ∧ rP ρ p = nI j) ∧ (rS ρ p = -1000000 ∨ ∃ o, o ≤ B ∧ rS ρ p = nI o)) ∧
  (∀ h, h < Hn → ∃ j, j < 2 ^ T ∧ rH ρ h = nI j)
theorem lt_pred {x : Int32} {m : Nat} (hm : m < 2 ^ 31) : x < nI m ↔ x ≤ nI m - 1 := by
  cases m with
  | zero =>
    show x < 0 ↔ x ≤ 0 - 1
    rw [Int32.lt_iff_toInt_lt, Int32.le_iff_toInt_le]
    have e1 : (0 : Int32).toInt = 0 := by decide
    have e2 : ((0 : Int32) - 1).toInt = -1 := by decide
    rw [e1, e2]
    omega
  | succ m =>
    rw [nI_pred]
    constructor
    · intro h
      rcases Int32.lt_or_le x 0 with z | z
      · exact Int32.le_trans (Int32.le_of_lt z) (nI_pos' (by omega))
      · obtain ⟨j, hj, rfl⟩ := i_of z h hm
        exact nI_le (by omega) (by omega)
    · intro h
      rcases Int32.lt_or_le x 0 with z | z
      · exact Int32.lt_of_lt_of_le z (nI_pos' hm)
      · obtain ⟨j, hj, rfl⟩ := i_ofle z h (by omega)
        exact nI_lt (by omega) hm
section C24
variable {ρ : Nat → Int32} {T Hn B p : Nat}
theorem WF.ov (h : WF ρ T Hn B) (hB : B ≤ 1000000) {k : Nat} (hk : k ≤ 40) (day : Int32) : OV ρ T day (nI k) := by
  intro t ht hne
  rcases (h.2.2.1 t ht).2.2.2 with z | ⟨o, ho, e⟩
  · exact absurd z hne
  · rw [e, nI_add]
    exact lt_pred (by omega)
theorem WF.ov0 (h : WF ρ T Hn B) (hB : B ≤ 1000000) (day : Int32) : OV ρ T day (ρ 0) := by
  obtain ⟨k, hk, e⟩ := h.1
  rw [e]
  exact h.ov hB hk day
theorem WF.ovD (h : WF ρ T Hn B) (hB : B ≤ 1000000) : ρ 3 < ρ 3 + ρ 0 ↔ ρ 3 ≤ ρ 3 + ρ 0 - 1 := by
  obtain ⟨k, hk, e⟩ := h.1
  obtain ⟨D, hD, e3⟩ := h.2.1
  rw [e, e3, nI_add]
  exact lt_pred (by omega)
theorem way_b : ∀ κ : Nat, κ < 6 → ∀ j : Nat, j < 10 → ¬ κ = 0 → (wayI (nI κ) (nI j)).toNatClampNeg ≤ 36 ∧ 1 ≤ (wayI (nI κ) (nI j)).toNatClampNeg ∧ wayI (nI κ) (nI j) = nI (wayI (nI κ) (nI j)).toNatClampNeg := by decide
theorem WF.way (h : WF ρ T Hn B) (hp : p < T) : ∃ w, 1 ≤ w ∧ w ≤ 36 ∧ wayI (rK ρ p) (rF ρ p) = nI w := by
  obtain ⟨⟨κ, hκ, e1⟩, ⟨j, hj, e2⟩, -⟩ := h.2.2.1 p hp
  rw [e1, e2]
  have := way_b κ (by omega) j hj (by omega)
  exact ⟨_, this.2.1, this.1, this.2.2⟩
theorem WF.wayC (h : WF ρ T Hn B) (hp : p < T) {κ : Nat} (hκ : κ = 1 ∨ κ = 2 ∨ κ = 3 ∨ κ = 4 ∨ κ = 5) (hk : rK ρ p = nI κ) : waC κ (rF ρ p) = wayI (rK ρ p) (rF ρ p) := by
  obtain ⟨-, ⟨j, hj, e2⟩, -⟩ := h.2.2.1 p hp
  rw [hk, e2]
  exact wa_way κ (by omega) j hj (by omega)
theorem WF.then (h : WF ρ T Hn B) (hp : p < T) : ∃ E, E ≤ B + 36 ∧ thenI ρ p = nI E := by
  obtain ⟨w, -, hw, e⟩ := h.way hp
  obtain ⟨D, hD, e3⟩ := h.2.1
  refine ⟨D + w, by omega, ?_⟩
  unfold thenI
  rw [e, e3, nI_add]
theorem WF.ask (h : WF ρ T Hn B) (hp : p < T) (h8 : T ≤ 8) : WF (askR ρ p) T Hn (B + 36) := by
  obtain ⟨E, hE, eE⟩ := h.then hp
  refine ⟨?_, ⟨E, hE, by rw [askR_3]; exact eE⟩, fun t ht => ?_, fun u hu => ?_⟩
  · rw [askR_n (by decide) (by omega)]; exact h.1
  · obtain ⟨a1, a2, a3, a4⟩ := h.2.2.1 t ht
    rw [askR_K, askR_F, askR_P, askR_S]
    refine ⟨a1, a2, a3, ?_⟩
    have a4' : rS ρ t = -1000000 ∨ ∃ o, o ≤ B + 36 ∧ rS ρ t = nI o := a4.imp id (fun ⟨o, ho, e⟩ => ⟨o, by omega, e⟩)
    unfold askO
    by_cases e : t = p
    · subst e
      rw [if_pos rfl]
      split
      · exact Or.inr ⟨E, hE, eE⟩
      · exact a4'
    · rw [if_neg e]; exact a4'
  · rw [askR_H u (by omega)]
    exact h.2.2.2 u hu
theorem WF.mono (h : WF ρ T Hn B) {B' : Nat} (hB : B ≤ B') : WF ρ T Hn B' := by
  obtain ⟨h1, ⟨D, hD, e⟩, h3, h4⟩ := h
  refine ⟨h1, ⟨D, by omega, e⟩, fun p hp => ?_, h4⟩
  obtain ⟨a1, a2, a3, a4⟩ := h3 p hp
  exact ⟨a1, a2, a3, a4.imp id (fun ⟨o, ho, e⟩ => ⟨o, by omega, e⟩)⟩
/-- sums of prices -/
theorem sum_b (h : WF ρ T Hn B) (s : Int32) : ∀ (n p v : Nat), p + n = T → v ≤ 20 * p → T ≤ 8 → ∃ v', v' ≤ 20 * T ∧ fld (sumS ρ s) n p (nI v) = nI v' := by
  intro n
  induction n with
  | zero => intro p v hp hv _; exact ⟨v, by omega, rfl⟩
  | succ n ih =>
    intro p v hp hv h8
    obtain ⟨-, -, ⟨j, hj, e⟩, -⟩ := h.2.2.1 p (by omega)
    rw [fld_s]
    unfold sumS
    rcases and1 (s >>> (nI p &&& 31)) with z | z
    · rw [z, i_mul0, i_add0]
      exact ih (p + 1) v (by omega) (by omega) h8
    · rw [z, i_mul1, e, nI_add]
      exact ih (p + 1) (v + j) (by omega) (by omega) h8
theorem sum_v (h : WF ρ T Hn B) (h8 : T ≤ 8) (s : Int32) : ∃ v, v ≤ 160 ∧ sumI ρ s T = nI v := by
  obtain ⟨v, hv, e⟩ := sum_b h s T 0 0 (by omega) (by omega) h8
  exact ⟨v, by omega, e⟩
end C24
