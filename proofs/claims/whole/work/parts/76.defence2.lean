/-! the best defence: class and reference -/
section C26
variable {T Hn B p : Nat} {ρ : Nat → Int32} {day : Int32}
theorem dear_v (hw : WF ρ T Hn B) (h8 : T ≤ 8) (p : Nat) : (dearI ρ p day T Hn = 1000 ∧ dearN ρ p day T Hn = -1000000) ∨ ∃ v, v ≤ 160 ∧ dearI ρ p day T Hn = nI v ∧ dearN ρ p day T Hn = nI v := by
  unfold dearI dearN
  cases chI ρ (openI ρ (askO ρ p) (if day < thenI ρ p then thenI ρ p else day) (ρ 0) T Hn) T Hn with
  | none => exact Or.inl ⟨rfl, rfl⟩
  | some q =>
    obtain ⟨v, hv, e⟩ := sum_v hw h8 (rH ρ q)
    exact Or.inr ⟨v, hv, e, e⟩
def dRel (T Hn : Nat) (ρ : Nat → Int32) (day : Int32) (a b : Int32 × Int32) : Prop := a.1 = b.1 ∧ ((a.2 = -1000000 ∧ b.2 = -1) ∨ (a.2 = 1000 ∧ b.2 = 161) ∨ ∃ v, v ≤ 160 ∧ a.2 = nI v ∧ b.2 = nI v) ∧ (a = (-1000000, -1000000) ∨ ∃ p, p < T ∧ a = (nI p, dearI ρ p day T Hn))
theorem dRel_s (hw : WF ρ T Hn B) (h8 : T ≤ 8) {p : Nat} (hp : p < T) {a b : Int32 × Int32} (h : dRel T Hn ρ day a b) : dRel T Hn ρ day (dfS ρ day T Hn p a) (dcS ρ day T Hn p b) := by
  obtain ⟨h1, h2, h3⟩ := h
  have key : (dearI ρ p day T Hn ≤ a.2) ↔ (wrI (dearN ρ p day T Hn) ≤ b.2) := by
    rcases dear_v (day := day) hw h8 p with ⟨e1, e2⟩ | ⟨v, hv, e1, e2⟩
    · have e3 : wrI (dearN ρ p day T Hn) = 161 := by rw [e2]; decide
      rw [e1, e3]
      rcases h2 with ⟨y1, y2⟩ | ⟨y1, y2⟩ | ⟨u, hu, y1, y2⟩
      · rw [y1, y2]; decide
      · rw [y1, y2]; decide
      · rw [y1, y2]
        constructor
        · intro z; exact absurd z (nI_ge (a := u) (b := 1000) (by omega) (by decide))
        · intro z; exact absurd z (nI_ge (a := u) (b := 161) (by omega) (by decide))
    · have e3 : wrI (dearN ρ p day T Hn) = nI v := by
        rw [e2]
        unfold wrI
        simp only [i_nn (show v < 2 ^ 31 by omega), if_false]
      rw [e1, e3]
      rcases h2 with ⟨y1, y2⟩ | ⟨y1, y2⟩ | ⟨u, hu, y1, y2⟩
      · rw [y1, y2]
        constructor
        · intro z; exact absurd (Int32.le_trans (nI_pos' (show v < 2 ^ 31 by omega)) z) (by decide)
        · intro z; exact absurd (Int32.le_trans (nI_pos' (show v < 2 ^ 31 by omega)) z) (by decide)
      · rw [y1, y2]
        exact ⟨fun _ => nI_le (b := 161) (by omega) (by decide), fun _ => nI_le (b := 1000) (by omega) (by decide)⟩
      · rw [y1, y2]
  unfold dfS dcS
  by_cases hc : dearI ρ p day T Hn ≤ a.2
  · rw [if_pos hc, if_pos (key.mp hc)]
    exact ⟨h1, h2, h3⟩
  · rw [if_neg hc, if_neg (fun z => hc (key.mpr z))]
    refine ⟨rfl, ?_, Or.inr ⟨p, hp, rfl⟩⟩
    rcases dear_v (day := day) hw h8 p with ⟨e1, e2⟩ | ⟨v, hv, e1, e2⟩
    · refine Or.inr (Or.inl ⟨e1, ?_⟩)
      show wrI (dearN ρ p day T Hn) = 161
      rw [e2]; decide
    · refine Or.inr (Or.inr ⟨v, hv, e1, ?_⟩)
      show wrI (dearN ρ p day T Hn) = nI v
      rw [e2]
      unfold wrI
      simp only [i_nn (show v < 2 ^ 31 by omega), if_false]
theorem dRel_f (hw : WF ρ T Hn B) (h8 : T ≤ 8) : ∀ (n p : Nat) (a b : Int32 × Int32), p + n = T → dRel T Hn ρ day a b → dRel T Hn ρ day (fld (dfS ρ day T Hn) n p a) (fld (dcS ρ day T Hn) n p b) := by
  intro n
  induction n with
  | zero => intro p a b _ h; exact h
  | succ n ih =>
    intro p a b hp h
    rw [fld_s, fld_s]
    exact ih (p + 1) _ _ (by omega) (dRel_s hw h8 (by omega) h)
theorem df_dc (hw : WF ρ T Hn B) (h8 : T ≤ 8) (day : Int32) : (fld (dcS ρ day T Hn) T 0 (-1000000, -1)).1 = (dfI ρ day T Hn).1 ∧ (dfI ρ day T Hn = (-1000000, -1000000) ∨ ∃ p, p < T ∧ dfI ρ day T Hn = (nI p, dearI ρ p day T Hn)) := by
  have := dRel_f (day := day) hw h8 T 0 (-1000000, -1000000) (-1000000, -1) (by omega) ⟨rfl, Or.inl ⟨rfl, rfl⟩, Or.inl rfl⟩
  exact ⟨this.1.symm, this.2.2⟩
end C26
