/-! the reference reads a text: the whole -/
section M14
variable {d : Nat} {X : hX} {R : hR} {TH : hT} {N t s a : Nat} {tp : Nat → Int32} {w : px_H} {Q : Option Value → px_H → Prop}
def pH (tp : Nat → Int32) (t : Nat) (ρ : Nat → Int32) (T Hn : Nat) (s : Nat) : ((Nat → Int32) × Nat) ⊕ (Int32 × Nat) := if ¬ tokS tp t s = 104 then .inr (1, s) else if Hn = 8 then .inr (3, s) else match pN tp t 1 (nI (2 ^ T - 1)) 59 (tokE tp t s) with
  | .inr e => .inr e
  | .inl r => .inl (upd (upd ρ (37 + Hn) r.1) 2 (nI (Hn + 1)), r.2)
theorem pow1 : ∀ T : Nat, T < 9 → (1 : Int32) <<< (nI T &&& 31) - 1 = nI (2 ^ T - 1) := by decide
theorem t164 {T Hn : Nat} (hx : TXT tp t X) (h : TS tp t X s) (hT : rD X 1 = nI T) (h8 : T ≤ 8) (hH : rD X 2 = nI Hn) (hH8 : Hn ≤ 8) (hQ : ∀ X', PA X X' → (match pH tp t (rD X) T Hn s with | .inl r => rD X' = r.1 ∧ TS tp t X' r.2 | .inr e => TF X' e.1 e.2) → Q none (hp X' R TH N)) : wc (d + 5) 164 [.ref 51] (hp X R TH N) Q := by
  have e8 : (nI Hn = 8) = (Hn = 8) := propext (nI_eq (b := 8) (by omega) (by decide))
  by_cases hs : tokS tp t s = 104
  · simp only [S164, G51, h.2.2.2.1, hs, gb (k := 2) (x := 2) hx rfl (by decide), hH, e8, px_op_some, px_op_none, tl_some, tl_none, ap_one, ap_nil, z01, o01, true_and, and_true, true_or, or_true, i10, i01, if_true, if_false, eq_self]
    by_cases hT8 : Hn = 8
    · rw [if_pos hT8]
      refine t158 h.1 h.2.1 (by decide) (fun X' p1 p2 p3 => ?_)
      simp only [S164, px_op_some, px_op_none, tl_some, tl_none, ap_one, ap_nil, z01, o01, true_and, and_true, true_or, or_true, i10, i01, if_true, if_false, eq_self]
      refine hQ X' p1 ?_
      unfold pH
      rw [if_neg (fun z => z hs), if_pos hT8]
      exact p3
    · rw [if_neg hT8]
      refine n157 hx h.1 h.2.2.1 (tokE_le hx.2.2.2.1 h.2.2.2.2.2).2 (fun X1 p1 p2 p3 => ?_)
      have hx1 := hx.pa p1
      have hD1 : rD X1 = rD X := by unfold rD; rw [p2]
      have hT1 : rD X1 1 = nI T := by rw [hD1]; exact hT
      simp only [S164, G51, gb (k := 1) (x := 1) hx1 rfl (by decide), hT1, pow1 T (by omega), px_op_some, px_op_none, tl_some, tl_none, ap_one, ap_nil, z01, o01, true_and, and_true, true_or, or_true, i10, i01, if_true, if_false, eq_self]
      refine t161 (by decide) hx1 p3 (fun X2 v q1 q2 q3 => ?_)
      have hx2 := hx1.pa q1
      have hD2 : rD X2 = rD X := by unfold rD; rw [q2, p2]
      have hH2 : rD X2 2 = nI Hn := by rw [hD2]; exact hH
      cases hn : pN tp t 1 (nI (2 ^ T - 1)) 59 (tokE tp t s) with
      | inr e =>
        rw [hn] at q3
        have h0 : ¬ X2 51 15 = 0 := by rw [q3.2.1]; exact q3.1
        simp only [S164, G51, h0, px_op_some, px_op_none, tl_some, tl_none, ap_one, ap_nil, z01, o01, true_and, and_true, true_or, or_true, i10, i01, if_true, if_false, eq_self]
        refine hQ X2 (p1.tr q1) ?_
        unfold pH
        rw [if_neg (fun z => z hs), if_neg hT8, hn]
        exact q3
      | inl r =>
        rw [hn] at q3
        obtain ⟨rfl, q3⟩ := q3
        have e1 : (37 : Int32) + nI Hn = nI (37 + Hn) := by rw [show (37 : Int32) = nI 37 from rfl, nI_add]
        simp only [S164, G51, q3.1, gb (k := 2) (x := 2) hx2 rfl (by decide), hH2, px_op_some, px_op_none, tl_some, tl_none, ap_one, ap_nil, z01, o01, true_and, and_true, true_or, or_true, i10, i01, if_true, if_false, eq_self]
        rw [pb (k := 37 + Hn) hx2 e1 (by omega)]
        have y1 := hx2.pa (PA.s55 (j := 135 + (37 + Hn)) (v := r.1) (by omega))
        have pa4 := PA.s55 (X := X2) (j := 135 + (37 + Hn)) (v := r.1) (by omega)
        have ts4 := q3.p55 (f := upd (X2 55) (135 + (37 + Hn)) r.1)
        have d4 := rD_p (X := X2) (k := 37 + Hn) (v := r.1)
        simp only [S164, G51, px_op_some, px_op_none, tl_some, tl_none, ap_one, ap_nil, z01, o01, true_and, and_true, true_or, or_true, i10, i01, if_true, if_false, eq_self]
        generalize upA X2 55 (upd (X2 55) (135 + (37 + Hn)) r.1) = X4 at y1 pa4 ts4 d4 ⊢
        have d42 : rD X4 2 = nI Hn := by rw [d4, upd_n (by omega)]; exact hH2
        simp only [gb (k := 2) (x := 2) y1 rfl (by decide), pb (k := 2) (x := 2) y1 rfl (by decide), S164, G51, px_op_some, px_op_none, tl_some, tl_none, ap_one, ap_nil, z01, o01, true_and, and_true, true_or, or_true, i10, i01, if_true, if_false, eq_self, d42, nI_1]
        refine hQ _ (((p1.tr q1).tr pa4).tr (PA.s55 (j := 135 + 2) (v := nI (Hn + 1)) (by omega))) ?_
        unfold pH
        rw [if_neg (fun z => z hs), if_neg hT8, hn]
        refine ⟨?_, ts4.p55⟩
        rw [rD_p, d4, hD2]
  · simp only [S164, G51, h.2.2.2.1, hs, px_op_some, px_op_none, tl_some, tl_none, ap_one, ap_nil, z01, o01, true_and, and_true, true_or, or_true, i10, i01, if_true, if_false, eq_self]
    refine t158 h.1 h.2.1 (by decide) (fun X' p1 p2 p3 => ?_)
    simp only [S164, px_op_some, px_op_none, tl_some, tl_none, ap_one, ap_nil, z01, o01, true_and, and_true, true_or, or_true, i10, i01, if_true, if_false, eq_self]
    refine hQ X' p1 ?_
    unfold pH
    rw [if_pos hs]
    exact p3
/-- all things, all harms -/
def pTs (tp : Nat → Int32) (t : Nat) : Nat → (Nat → Int32) → Nat → Nat → ((Nat → Int32) × Nat × Nat) ⊕ (Int32 × Nat)
  | 0, ρ, T, s => .inl (ρ, T, s)
  | n + 1, ρ, T, s => if 0 < kindI (tokS tp t s) then (match pT tp t ρ T s with
    | .inr e => .inr e
    | .inl r => pTs tp t n r.1 (T + 1) r.2) else .inl (ρ, T, s)
def pHs (tp : Nat → Int32) (t T : Nat) : Nat → (Nat → Int32) → Nat → Nat → ((Nat → Int32) × Nat) ⊕ (Int32 × Nat)
  | 0, ρ, Hn, _ => .inl (ρ, Hn)
  | n + 1, ρ, Hn, s => if tokS tp t s = 0 then .inl (ρ, Hn) else (match pH tp t ρ T Hn s with
    | .inr e => .inr e
    | .inl r => pHs tp t T n r.1 (Hn + 1) r.2)
theorem pT_1 {ρ : Nat → Int32} {T : Nat} {r : (Nat → Int32) × Nat} (h : pT tp t ρ T s = .inl r) : T < 8 ∨ 8 < T := by
  unfold pT at h
  by_cases h8 : T = 8
  · rw [if_pos h8] at h; cases h
  · omega
theorem pT_t {ρ : Nat → Int32} {T : Nat} {r : (Nat → Int32) × Nat} (h : pT tp t ρ T s = .inl r) : r.1 1 = nI (T + 1) ∧ r.1 2 = ρ 2 := by
  unfold pT at h
  by_cases h8 : T = 8
  · rw [if_pos h8] at h; cases h
  · rw [if_neg h8] at h
    split at h
    · cases h
    · split at h
      · cases h
      · cases h
        unfold thU
        dsimp only
        refine ⟨upd_s _ _ _, ?_⟩
        rw [upd_n (by decide), upd_n (by omega), upd_n (by omega), upd_n (by omega), upd_n (by omega)]
theorem pH_h {ρ : Nat → Int32} {T Hn : Nat} {r : (Nat → Int32) × Nat} (h : pH tp t ρ T Hn s = .inl r) : r.1 1 = ρ 1 ∧ r.1 2 = nI (Hn + 1) ∧ ¬ Hn = 8 := by
  unfold pH at h
  split at h
  · cases h
  split at h
  · cases h
  rename_i h8
  split at h
  · cases h
  · cases h
    dsimp only
    exact ⟨by rw [upd_n (by decide), upd_n (by omega)], upd_s _ _ _, h8⟩
/-- the loop over harms -/
theorem x165 {l1 : Option Value} (h : ¬ X 51 15 = 0) (hQ : wp (d + 6) 165 106 [some (.ref 51), l1] [] (hp X R TH N) 0 Q) : wp (d + 6) 165 85 [some (.ref 51), l1] [] (hp X R TH N) 0 Q := by
  rw [H165_85]
  simp only [S165, G51, h, px_op_some, px_op_none, tl_some, tl_none, ap_one, ap_nil, z01, o01, true_and, and_true, true_or, or_true, i10, i01, if_true, if_false, eq_self] at hQ ⊢
  exact hQ
theorem l165h {T : Nat} (h8 : T ≤ 8) : ∀ (n Hn : Nat) (X : hX) (s : Nat) (l1 : Option Value), Hn + n = 9 → Hn ≤ 8 → TXT tp t X → TS tp t X s → rD X 1 = nI T → rD X 2 = nI Hn → (∀ X', PA X X' → (match pHs tp t T n (rD X) Hn s with | .inl r => X' 51 15 = 0 ∧ rD X' = r.1 | .inr e => TF X' e.1 e.2) → wp (d + 6) 165 106 [some (.ref 51), l1] [] (hp X' R TH N) 0 Q) → wp (d + 6) 165 85 [some (.ref 51), l1] [] (hp X R TH N) 0 Q := by
  intro n
  induction n with
  | zero => intro Hn X s l1 hn hH8; omega
  | succ n ih =>
    intro Hn X s l1 hn hH8 hx h hT hH hQ
    rw [pHs] at hQ
    by_cases hs : tokS tp t s = 0
    · rw [if_pos hs] at hQ
      have := hQ X (PA.rf X) ⟨h.1, rfl⟩
      rw [H165_85]
      simp only [S165, G51, h.1, h.2.2.2.1, hs, px_op_some, px_op_none, tl_some, tl_none, ap_one, ap_nil, z01, o01, true_and, and_true, true_or, or_true, i10, i01, if_true, if_false, eq_self] at this ⊢
      exact this
    · rw [if_neg hs] at hQ
      rw [H165_85]
      simp only [S165, G51, h.1, h.2.2.2.1, hs, px_op_some, px_op_none, tl_some, tl_none, ap_one, ap_nil, z01, o01, true_and, and_true, true_or, or_true, i10, i01, if_true, if_false, eq_self]
      refine t164 hx h hT h8 hH hH8 (fun X' p1 p2 => ?_)
      simp only [S165, px_op_some, px_op_none, tl_some, tl_none, ap_one, ap_nil, z01, o01, true_and, and_true, true_or, or_true, i10, i01, if_true, if_false, eq_self]
      cases hp0 : pH tp t (rD X) T Hn s with
      | inr e =>
        rw [hp0] at p2 hQ
        exact x165 (by rw [p2.2.1]; exact p2.1) (hQ X' p1 p2)
      | inl r =>
        rw [hp0] at p2 hQ
        obtain ⟨q1, q2, q3⟩ := pH_h hp0
        refine ih (Hn + 1) X' r.2 l1 (by omega) (by omega) (hx.pa p1) p2.2 (by rw [p2.1, q1]; exact hT) (by rw [p2.1, q2]) (fun X2 r1 r2 => hQ X2 (p1.tr r1) ?_)
        rw [p2.1] at r2
        exact r2
theorem y165 {l1 : Option Value} (h : ¬ X 51 15 = 0) (hQ : wp (d + 6) 165 106 [some (.ref 51), l1] [] (hp X R TH N) 0 Q) : wp (d + 6) 165 61 [some (.ref 51), l1] [] (hp X R TH N) 0 Q := by
  rw [H165_61]
  simp only [S165, G51, h, px_op_some, px_op_none, tl_some, tl_none, ap_one, ap_nil, z01, o01, true_and, and_true, true_or, or_true, i10, i01, if_true, if_false, eq_self]
  exact x165 h hQ
/-- the loop over things, then harms -/
def pAll (tp : Nat → Int32) (t : Nat) (n : Nat) (ρ : Nat → Int32) (T s : Nat) : ((Nat → Int32) × Nat × Nat) ⊕ (Int32 × Nat) := match pTs tp t n ρ T s with
  | .inr e => .inr e
  | .inl r => (match pHs tp t r.2.1 9 r.1 0 r.2.2 with
    | .inr e => .inr e
    | .inl q => .inl (q.1, r.2.1, q.2))
theorem l165t : ∀ (n T : Nat) (X : hX) (s : Nat) (l1 : Option Value), T + n = 9 → T ≤ 8 → TXT tp t X → TS tp t X s → rD X 1 = nI T → rD X 2 = nI 0 → (∀ X', PA X X' → (match pAll tp t n (rD X) T s with | .inl r => X' 51 15 = 0 ∧ rD X' = r.1 | .inr e => TF X' e.1 e.2) → wp (d + 6) 165 106 [some (.ref 51), l1] [] (hp X' R TH N) 0 Q) → wp (d + 6) 165 61 [some (.ref 51), l1] [] (hp X R TH N) 0 Q := by
  intro n
  induction n with
  | zero => intro T X s l1 hn hH8; omega
  | succ n ih =>
    intro T X s l1 hn h8 hx h hT hH hQ
    unfold pAll at hQ
    rw [pTs] at hQ
    by_cases hs : 0 < kindI (tokS tp t s)
    · rw [if_pos hs] at hQ
      have hs' : (kindI (tokS tp t s) ≤ 0) = False := eq_false (by rw [Int32.not_le]; exact hs)
      rw [H165_61]
      simp only [S165, G51, h.1, h.2.2.2.1, t162, hs', px_op_some, px_op_none, tl_some, tl_none, ap_one, ap_nil, z01, o01, true_and, and_true, true_or, or_true, i10, i01, if_true, if_false, eq_self]
      refine t163 hx h hT h8 (fun X' p1 p2 => ?_)
      simp only [S165, px_op_some, px_op_none, tl_some, tl_none, ap_one, ap_nil, z01, o01, true_and, and_true, true_or, or_true, i10, i01, if_true, if_false, eq_self]
      cases hp0 : pT tp t (rD X) T s with
      | inr e =>
        rw [hp0] at p2 hQ
        exact y165 (by rw [p2.2.1]; exact p2.1) (hQ X' p1 p2)
      | inl r =>
        rw [hp0] at p2 hQ
        obtain ⟨q1, q2⟩ := pT_t hp0
        have q3 := pT_1 hp0
        refine ih (T + 1) X' r.2 l1 (by omega) (by omega) (hx.pa p1) p2.2 (by rw [p2.1, q1]) (by rw [p2.1, q2]; exact hH) (fun X2 r1 r2 => hQ X2 (p1.tr r1) ?_)
        rw [p2.1] at r2
        exact r2
    · rw [if_neg hs] at hQ
      have hs' : (kindI (tokS tp t s) ≤ 0) = True := eq_true (Int32.not_lt.mp hs)
      rw [H165_61]
      simp only [S165, G51, h.1, h.2.2.2.1, t162, hs', px_op_some, px_op_none, tl_some, tl_none, ap_one, ap_nil, z01, o01, true_and, and_true, true_or, or_true, i10, i01, if_true, if_false, eq_self]
      refine l165h h8 9 0 X s l1 rfl (by omega) hx h hT hH (fun X' p1 p2 => hQ X' p1 ?_)
      cases hp0 : pHs tp t T 9 (rD X) 0 s with
      | inr e =>
        rw [hp0] at p2
        dsimp only
        rw [hp0]
        exact p2
      | inl r =>
        rw [hp0] at p2
        dsimp only
        rw [hp0]
        exact p2
end M14
