/-! a run keeps each object's class -/
def Kp (w w' : px_H) : Prop := w.1 ≤ w'.1 ∧ ∀ a, a < w.1 → ∀ ci, px_cls w a = some ci → px_cls w' a = some ci
theorem Kp.rf {w : px_H} : Kp w w := ⟨Nat.le_refl _, fun _ _ _ h => h⟩
theorem Kp.tr {w w' w'' : px_H} (h1 : Kp w w') (h2 : Kp w' w'') : Kp w w'' := ⟨Nat.le_trans h1.1 h2.1, fun a ha ci h => h2.2 a (Nat.lt_of_lt_of_le ha h1.1) ci (h1.2 a ha ci h)⟩
theorem Kp.add {w : px_H} {c : px_E} : Kp w (px_add w c) := by
  refine ⟨Nat.le_succ _, fun a ha ci h => ?_⟩
  unfold px_cls at h ⊢
  unfold px_add
  dsimp only
  rw [if_neg (by omega)]
  exact h
theorem Kp.set {w : px_H} {a : Nat} {c : px_E} (hc : ∀ ci, px_cls w a = some ci → ∃ fs, c = .inr (.inr (ci, fs))) : Kp w (px_set w a c) := by
  refine ⟨Nat.le_refl _, fun b _ ci h => ?_⟩
  by_cases e : b = a
  · subst e
    obtain ⟨fs, rfl⟩ := hc ci h
    unfold px_cls px_set
    dsimp only
    rw [if_pos rfl]
  · unfold px_cls at h ⊢
    unfold px_set
    dsimp only
    rw [if_neg e]
    exact h
theorem kp_pfd {w w' : px_H} {a j : Nat} {cis : List (Nat × Nat)} {v : Value} (h : px_pfd w a cis j v = some w') : Kp w w' := by
  unfold px_pfd at h
  split at h
  · rename_i ci fs hc
    split at h
    · cases h
      refine Kp.set (fun ci' hci => ?_)
      unfold px_cls at hci
      rw [hc] at hci
      cases hci
      exact ⟨_, rfl⟩
    · cases h
  · cases h
theorem kp_ast {w w' : px_H} {a : Nat} {i x : Int32} {ty : FieldType} (h : px_ast w a i x ty = some w') : Kp w w' := by
  unfold px_ast at h
  split at h
  · rename_i t n f hc
    split at h
    · cases h
      refine Kp.set (fun ci' hci => ?_)
      unfold px_cls at hci
      rw [hc] at hci
      cases hci
    · cases h
  · cases h
theorem kp_bst {w w' : px_H} {a : Nat} {i x : Int32} (h : px_bst w a i x = some w') : Kp w w' := by
  unfold px_bst at h
  split at h
  · rename_i t n f hc
    split at h
    · cases h
      refine Kp.set (fun ci' hci => ?_)
      unfold px_cls at hci
      rw [hc] at hci
      cases hci
    · cases h
  · cases h
theorem kp_cpy {w w' : px_H} {a0 a : Nat} {sp dp n : Int32} (h : px_cpy w a0 sp a dp n = some w') : Kp w w' := by
  obtain ⟨n0, n1, f, g, h0, h1, -, -, -, -, -, rfl⟩ := px_cpy_inv h
  refine Kp.set (fun ci' hci => ?_)
  unfold px_cls at hci
  rw [h1] at hci
  cases hci
theorem kp_rst {w w' : px_H} {a : Nat} {i : Int32} {v : Value} (h : px_rst w a i v = some w') : Kp w w' := by
  unfold px_rst at h
  split at h
  · rename_i t n f hc
    have hk : ∀ c : px_E, Kp w (px_set w a c) := fun c => Kp.set (fun ci' hci => by
      unfold px_cls at hci
      rw [hc] at hci
      cases hci)
    split at h
    · split at h
      · cases h; exact hk _
      · split at h
        · split at h
          · cases h; exact hk _
          · cases h
        · cases h
      · cases h
    · cases h
  · cases h
def px_ho : px_A → px_H
  | .inl S => S.2.2.2.1
  | .inr (.inl r) => r.2
  | .inr (.inr c) => c.2.2.2.2.2.1
theorem kp_act {m : px_M} {i : Jvm.ClassFile.Instr} {X : px_X} {pc : Nat} {L : px_L} {st : List Value} {w : px_H} {k : Nat} {A : px_A} (h : px_act m i X pc L st w k = some A) : Kp w (px_ho A) := by
  unfold px_act at h
  split at h
  all_goals first
    | (cases h; exact Kp.rf)
    | (obtain ⟨t, ht, rfl⟩ := Option.map_eq_some_iff.mp h; first | exact Kp.rf | exact Kp.add)
    | (repeat' (split at h)) <;> first
      | (cases h; done)
      | (cases h; exact Kp.rf)
      | (cases h; exact Kp.add)
      | (obtain ⟨t, ht, rfl⟩ := Option.map_eq_some_iff.mp h; first | exact Kp.rf | exact Kp.add | exact kp_ast ht | exact kp_bst ht | exact kp_rst ht | exact kp_cpy ht | exact kp_pfd ht | cases ht)
theorem kp_ex (T : List px_M) : ∀ (n d M : Nat) (S : px_S) (r : Option Value × px_H), px_ex T n d M S = some r → Kp S.2.2.2.1 r.2 := by
  intro n
  induction n with
  | zero => intro d M S r h; simp [px_ex] at h
  | succ n ih =>
    intro d M S r h
    rw [px_ex] at h
    cases hm : T[M]? with
    | none => simp only [hm] at h; cases h
    | some m =>
      simp only [hm] at h
      cases hi : (px_mi m).lookup S.1 with
      | none => simp only [hi] at h; cases h
      | some q =>
        simp only [hi] at h
        cases ha : px_act m q.1 q.2.2 S.1 S.2.1 S.2.2.1 S.2.2.2.1 S.2.2.2.2 with
        | none => simp only [ha] at h; cases h
        | some A =>
          simp only [ha] at h
          have hk := kp_act ha
          rcases A with S' | r' | c
          · exact hk.tr (ih _ _ _ _ h)
          · cases h
            exact hk
          · cases d with
            | zero => cases h
            | succ d' =>
              dsimp only at h
              cases hm' : T[c.1]? with
              | none => simp only [hm'] at h; cases h
              | some m' =>
                simp only [hm'] at h
                by_cases hc : c.2.1.length ≤ px_ml m' ∧ c.2.2.2.2.2.2 + px_mc m' ≤ px_mc m
                · rw [if_pos hc] at h
                  cases hr : px_ex T n d' c.1 (0, px_en (px_ml m') c.2.1, [], c.2.2.2.2.2.1, 0) with
                  | none => simp only [hr] at h; cases h
                  | some r1 =>
                    simp only [hr] at h
                    exact hk.tr ((ih _ _ _ _ hr).tr (ih _ _ _ _ h))
                · rw [if_neg hc] at h; cases h
theorem wc_kp {d M : Nat} {as : List Value} {w : px_H} {Q : Option Value → px_H → Prop} (h : wc d M as w Q) : wc d M as w (fun r w' => Q r w' ∧ Kp w w') := by
  obtain ⟨m, hm, hl, n, r, w', hr, hq⟩ := h
  exact ⟨m, hm, hl, n, r, w', hr, hq, kp_ex px_tab n d M _ (r, w') hr⟩
theorem wc_any {d M : Nat} {as : List Value} {w : px_H} {Q : Option Value → px_H → Prop} (h : wc d M as w Q) : ∃ r w', Q r w' := by
  obtain ⟨m, hm, hl, n, r, w', hr, hq⟩ := h
  exact ⟨r, w', hq⟩
