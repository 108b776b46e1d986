/-! both made: the first state -/
def c0w : px_H := px_add (0, fun _ => none) (.inr (.inr (10, px_newf (RX11, TX11, 9))))
def c0r : Option (Option Value × px_H) := px_ex px_tab 1500 12 97 (0, px_en 2 [.ref 0], [], c0w, 0)
def c1w : px_H := (c0r.getD (none, c0w)).2
def c2w : px_H := px_add c1w (.inr (.inr (11, px_newf (RX12, TX12, 23))))
def c2r : Option (Option Value × px_H) := px_ex px_tab 300 12 139 (0, px_en 1 [.ref 51], [], c2w, 0)
def c3w : px_H := (c2r.getD (none, c2w)).2
theorem c0_ok : (c0r.map (fun r => (r.1, r.2.1))) = some (none, 51) := by decide +kernel
theorem c2_ok : (c2r.map (fun r => (r.1, r.2.1))) = some (none, 62) := by decide +kernel
def X0 : hX := fun p => match c3w.2 p with
  | some (.inl q) => q.2.2
  | some (.inr (.inr q)) => fun j => (match q.2[j]? with | some (.int x) => x | _ => 0)
  | _ => fun _ => 0
def R0 : hR := fun p => match c3w.2 p with
  | some (.inr (.inl q)) => q.2.2
  | _ => fun _ => none
def TH0 : hT := fun _ => none
def ckf : List (Option Nat) → List Value → Bool
  | [], [] => true
  | none :: s, .int _ :: fs => ckf s fs
  | some q :: s, .ref q' :: fs => q == q' && ckf s fs
  | _, _ => false
theorem ckf_ok : ∀ (s : List (Option Nat)) (fs : List Value) (i : Nat) (x : Nat → Int32), ckf s fs = true → (∀ j v, fs[j]? = some (.int v) → x (i + j) = v) → fs = h_sl i s x := by
  intro s
  induction s with
  | nil => intro fs i x h _; cases fs with | nil => rfl | cons v fs => cases h
  | cons o s ih =>
    intro fs i x h hx
    cases fs with
    | nil => cases o <;> cases h
    | cons v fs =>
      have hx' : ∀ j v, fs[j]? = some (.int v) → x (i + 1 + j) = v := fun j v hj => by
        rw [show i + 1 + j = i + (j + 1) by omega]
        exact hx (j + 1) v (by rw [List.getElem?_cons_succ]; exact hj)
      cases o with
      | none =>
        cases v with
        | int y =>
          have h' : ckf s fs = true := h
          have := hx 0 y rfl
          rw [Nat.add_zero] at this
          rw [h_sl, this, ← ih fs (i + 1) x h' hx']
        | _ => cases h
      | some q =>
        cases v with
        | ref q' =>
          have h' : (q == q' && ckf s fs) = true := h
          rw [Bool.and_eq_true] at h'
          rw [h_sl, ← ih fs (i + 1) x h'.2 hx', eq_of_beq h'.1]
        | _ => cases h
def ckc (l : (FieldType × Nat) ⊕ ((String × Nat) ⊕ (Nat × List (Option Nat)))) (c : Option px_E) : Bool := match l, c with
  | .inl q, some (.inl r) => decide (q.1 = r.1) && decide (q.2 = r.2.1)
  | .inr (.inl q), some (.inr (.inl r)) => decide (FieldType.object q.1 = r.1) && decide (q.2 = r.2.1)
  | .inr (.inr q), some (.inr (.inr r)) => decide (q.1 = r.1) && ckf q.2 r.2
  | _, _ => false
theorem ckc_ok {l : (FieldType × Nat) ⊕ ((String × Nat) ⊕ (Nat × List (Option Nat)))} {p : Nat} (h : ckc l (c3w.2 p) = true) : c3w.2 p = some (h_cell l (X0 p) (R0 p)) := by
  have eX : X0 p = match c3w.2 p with
    | some (.inl q) => q.2.2
    | some (.inr (.inr q)) => fun j => (match q.2[j]? with | some (.int x) => x | _ => 0)
    | _ => fun _ => 0 := rfl
  have eR : R0 p = match c3w.2 p with
    | some (.inr (.inl q)) => q.2.2
    | _ => fun _ => none := rfl
  rw [eX, eR]
  generalize c3w.2 p = c at h
  rcases l with q | q | q
  · rcases c with _ | (⟨t, n, f⟩ | ⟨t, n, f⟩ | ⟨ci, fs⟩)
    · cases h
    · have h' : (decide (q.1 = t) && decide (q.2 = n)) = true := h
      rw [Bool.and_eq_true, decide_eq_true_eq, decide_eq_true_eq] at h'
      obtain ⟨rfl, rfl⟩ := h'
      rfl
    · cases h
    · cases h
  · rcases c with _ | (⟨t, n, f⟩ | ⟨t, n, f⟩ | ⟨ci, fs⟩)
    · cases h
    · cases h
    · have h' : (decide (FieldType.object q.1 = t) && decide (q.2 = n)) = true := h
      rw [Bool.and_eq_true, decide_eq_true_eq, decide_eq_true_eq] at h'
      obtain ⟨rfl, rfl⟩ := h'
      rfl
    · cases h
  · rcases c with _ | (⟨t, n, f⟩ | ⟨t, n, f⟩ | ⟨ci, fs⟩)
    · cases h
    · cases h
    · cases h
    · have h' : (decide (q.1 = ci) && ckf q.2 fs) = true := h
      rw [Bool.and_eq_true, decide_eq_true_eq] at h'
      obtain ⟨rfl, h2⟩ := h'
      show some (Sum.inr (Sum.inr (q.1, fs))) = some (Sum.inr (Sum.inr (q.1, h_sl 0 q.2 _)))
      rw [← ckf_ok q.2 fs 0 _ h2 (fun j v hj => by rw [Nat.zero_add]; dsimp only; rw [hj])]
theorem ck_all : ((List.range 62).all (fun p => match h_lay[p]? with | some l => ckc l (c3w.2 p) | none => false)) = true := by decide +kernel
theorem c3_hp : ∀ i c, (hp X0 R0 TH0 62).2 i = some c → c3w.2 i = some c := by
  intro i c h
  have h' : (match h_lay[i]? with | some l => some (h_cell l (X0 i) (R0 i)) | none => TH0 i) = some c := h
  cases hl : h_lay[i]? with
  | none => rw [hl] at h'; cases h'
  | some l =>
    rw [hl] at h'
    have hi : i < 62 := (List.getElem?_eq_some_iff.mp hl).1
    have := List.all_eq_true.mp ck_all i (List.mem_range.mpr hi)
    rw [hl] at this
    rw [ckc_ok this]
    exact h'
theorem i0_a : (X0 51 5 = 0 ∧ X0 0 8 = X0 51 3 ∧ X0 0 7 = X0 51 17) ∧ (X0 2 1 = 0 ∧ X0 51 10 = 0) ∧ (X0 9 4 = X0 55 0 ∧ X0 9 5 = 0 ∧ X0 55 1 = 0 ∧ X0 9 6 = 0 ∧ X0 55 2 = 0 ∧ X0 9 8 = X0 55 3 ∧ X0 9 9 = X0 55 4) ∧ (X0 55 0 = 0 ∧ X0 55 3 = 0) ∧ (X0 9 7 = 0 ∧ X0 51 8 = 0) ∧ (X0 23 1 = 0 ∧ X0 51 22 = 0) := by decide +kernel
theorem i0_b : ∀ i, i < 8 → R0 1 i = some (25 + 2 * i) ∧ (∀ k, k < 40 → X0 54 (40 * i + k) = X0 (26 + 2 * i) k) ∧ X0 53 i = 0 ∧ X0 52 i = 0 ∧ X0 (25 + 2 * i) 2 = -1 := by decide +kernel
theorem i0_c : ∀ k, k < 2 → R0 14 k = some (41 + 5 * k) ∧ X0 56 k = 0 ∧ X0 (41 + 5 * k) 4 = 0 := by decide +kernel
theorem i0_d : ∀ t, t < 8 → R0 5 t = none ∧ R0 10 t = none ∧ R0 42 t = none ∧ R0 47 t = none := by decide +kernel
theorem inv0 : Inv X0 R0 TH0 62 := by
  obtain ⟨a1, ⟨a2, a3⟩, ⟨b1, b2', b3, b4, b5, b6, b7⟩, ⟨d1, d2⟩, ⟨e1, e2⟩, g1', g2⟩ := i0_a
  refine ⟨a1, fun i hi => ?_, ⟨0, a2, a3, by decide, fun k hk => absurd hk (Nat.not_lt_zero k)⟩, ⟨0, 0, 0, ⟨⟨b1, b2', b3, by decide, b4, b5, by decide, b6, b7, fun p hp => absurd hp (Nat.not_lt_zero p), fun p hp => absurd hp (Nat.not_lt_zero p)⟩, ⟨0, by decide, d1⟩, ⟨0, by decide, d2⟩, fun p hp => absurd hp (Nat.not_lt_zero p), fun p hp => absurd hp (Nat.not_lt_zero p)⟩, e1, e2, by decide, fun k hk => absurd hk (Nat.not_lt_zero k)⟩, ⟨0, g1', g2, by decide, fun k hk => absurd hk (Nat.not_lt_zero k)⟩, ?_, ?_, Nat.le_refl _, fun _ _ => rfl, fun t ht => Or.inl (i0_d t ht).1, fun t ht => Or.inl (i0_d t ht).2.1, fun t ht => Or.inl (i0_d t ht).2.2.1, fun t ht => Or.inl (i0_d t ht).2.2.2⟩
  · obtain ⟨h1, h2, h3, h4, h5⟩ := i0_b i hi
    exact ⟨h1, h2, 0, by decide, h3, Or.inl ⟨h4, h5⟩⟩
  · obtain ⟨h1, h2, h3⟩ := i0_c 0 (by decide)
    exact ⟨h1, Or.inl ⟨h2, h3⟩⟩
  · obtain ⟨h1, h2, h3⟩ := i0_c 1 (by decide)
    exact ⟨h1, Or.inl ⟨h2, h3⟩⟩
theorem w97 : wc 12 97 [.ref 0] c0w (fun r w => r = none ∧ w = c1w) := by
  cases hr : c0r with
  | none => have := c0_ok; rw [hr] at this; cases this
  | some r =>
    have h := c0_ok
    rw [hr] at h
    have h1 : r.1 = none := (Prod.mk.inj (Option.some.inj h)).1
    refine ⟨m_X11_init, rfl, by decide, 1500, r.1, r.2, hr, h1, ?_⟩
    unfold c1w
    rw [hr]
    rfl
theorem w139 : wc 12 139 [.ref 51] c2w (fun r w => r = none ∧ w = c3w) := by
  cases hr : c2r with
  | none => have := c2_ok; rw [hr] at this; cases this
  | some r =>
    have h := c2_ok
    rw [hr] at h
    have h1 : r.1 = none := (Prod.mk.inj (Option.some.inj h)).1
    refine ⟨m_X12_init, rfl, by decide, 300, r.1, r.2, hr, h1, ?_⟩
    unfold c3w
    rw [hr]
    rfl
theorem c1_1 : c1w.1 = 51 := by
  cases hr : c0r with
  | none => have := c0_ok; rw [hr] at this; cases this
  | some r =>
    have h := c0_ok
    rw [hr] at h
    unfold c1w
    rw [hr]
    exact (Prod.mk.inj (Option.some.inj h)).2
theorem c3_1 : c3w.1 = 62 := by
  cases hr : c2r with
  | none => have := c2_ok; rw [hr] at this; cases this
  | some r =>
    have h := c2_ok
    rw [hr] at h
    unfold c3w
    rw [hr]
    exact (Prod.mk.inj (Option.some.inj h)).2
theorem r3_hp {as : List Nat} {ws : va_W} {tys : List (ClassId × FieldType)} (h : px_R as ws tys c3w) : px_R as ws tys (hp X0 R0 TH0 62) := by
  obtain ⟨h1, h2, h3⟩ := h
  rw [c3_1] at h2 h3
  exact ⟨h1, h2, fun i c hc => h3 i c (c3_hp i c hc)⟩
