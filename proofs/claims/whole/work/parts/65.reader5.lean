/-! the class reads a text: the whole -/
section C15
variable {d : Nat} {X : hX} {R : hR} {TH : hT} {N t s T Hn : Nat} {tp ρ : Nat → Int32} {Q : Option Value → px_H → Prop}
theorem x32 {pt k : Nat} {l3 : Option Value} (h : ¬ X 2 3 = 0) : wp d 32 35 [some (.ref 2), some (.ref 4), some (.int (nI pt)), l3] [] (hp X R TH N) k Q ↔ Q (some (.int (b2 (X 2 3 = 0)))) (hp (upA X 2 (upd (X 2) 1 0)) R TH N) := by
  rw [b2_f h, H32_35]
  by_cases h1 : (120 : Int32) ≤ nI pt
  · simp only [S32, G2, h1, h, px_op_some, px_op_none, tl_some, tl_none, ap_one, ap_nil, z01, o01, true_and, and_true, true_or, or_true, i10, i01, if_true, if_false, eq_self, upA_s, upA_n, upd_s, upd_n, ne_eq, Nat.reduceEqDiff, not_false_eq_true]
  · simp only [S32, G2, h1, h, px_op_some, px_op_none, tl_some, tl_none, ap_one, ap_nil, z01, o01, true_and, and_true, true_or, or_true, i10, i01, if_true, if_false, eq_self, upA_s, upA_n, upd_s, upd_n, ne_eq, Nat.reduceEqDiff, not_false_eq_true]
theorem e32 {pt k : Nat} {l3 : Option Value} (h : CS t X s) (ht : X 2 1 = nI t) (hst : ¬ s < t) : wp d 32 35 [some (.ref 2), some (.ref 4), some (.int (nI pt)), l3] [] (hp X R TH N) k Q ↔ Q (some (.int (b2 (X 2 3 = 0)))) (hp (upA X 2 (upd (X 2) 1 0)) R TH N) := by
  obtain rfl : s = t := by have := h.2.2; omega
  rw [b2_t h.1, H32_35]
  by_cases h1 : (120 : Int32) ≤ nI pt
  · simp only [S32, G2, h1, h.1, px_op_some, px_op_none, tl_some, tl_none, ap_one, ap_nil, z01, o01, true_and, and_true, true_or, or_true, i10, i01, if_true, if_false, eq_self, upA_s, upA_n, upd_s, upd_n, ne_eq, Nat.reduceEqDiff, not_false_eq_true]
  · simp only [S32, G2, h1, h.1, h.2.1, ht, i_nI_le, px_op_some, px_op_none, tl_some, tl_none, ap_one, ap_nil, z01, o01, true_and, and_true, true_or, or_true, i10, i01, if_true, if_false, eq_self, upA_s, upA_n, upd_s, upd_n, ne_eq, Nat.reduceEqDiff, not_false_eq_true]
theorem tok0 (hby : ∀ k, k < t → 0 ≤ tp k) : tokS tp t s = 0 ↔ ¬ s < t := by
  have hn := byI_neg (a := s) hby
  constructor
  · intro h hs
    have h0 : ¬ byI tp t s < 0 := fun z => (hn.mp z) hs
    unfold tokS at h
    rw [if_neg h0] at h
    split at h
    · split at h <;> exact absurd h (by decide)
    · split at h
      · rename_i hl
        exact (lt_nd hl).2.2.1 h
      · exact absurd h (by decide)
  · intro hs
    unfold tokS
    rw [if_pos (hn.mpr hs)]
theorem pN_ge {lo hi c : Int32} {r : Int32 × Nat} (hby : ∀ k, k < t → 0 ≤ tp k) (hs : s ≤ t) (h : pN tp t lo hi c s = .inl r) : s ≤ r.2 := by
  unfold pN at h
  split at h
  · cases h
  split at h
  · cases h
  split at h
  · cases h
    have a := tokE_le (s := s) hby hs
    have b := tokE_le (s := tokE tp t s) hby a.2
    exact Nat.le_trans a.1 b.1
  · cases h
theorem pN_le {lo hi c : Int32} {r : Int32 × Nat} (hby : ∀ k, k < t → 0 ≤ tp k) (hs : s ≤ t) (h : pN tp t lo hi c s = .inl r) : r.2 ≤ t := by
  unfold pN at h
  split at h
  · cases h
  split at h
  · cases h
  split at h
  · cases h
    have a := tokE_le (s := s) hby hs
    exact (tokE_le (s := tokE tp t s) hby a.2).2
  · cases h
theorem pH_ge {r : (Nat → Int32) × Nat} (hby : ∀ k, k < t → 0 ≤ tp k) (hs : s ≤ t) (h : pH tp t ρ T Hn s = .inl r) : s < r.2 ∧ tokS tp t s = 104 := by
  unfold pH at h
  split at h
  · cases h
  rename_i h104
  have h104 : tokS tp t s = 104 := Classical.not_not.mp h104
  split at h
  · cases h
  split at h
  · cases h
  · rename_i r' hr
    cases h
    have hb : byI tp t s = 104 := (tok_c (by decide)).mp h104
    have hE := (tokS_lt (tp := tp) (t := t) (s := s) (by rw [hb]; decide)).2
    have hst : s < t := by_lt hb (by decide)
    have := pN_ge hby (by rw [hE]; exact hst) hr
    rw [hE] at this
    exact ⟨this, h104⟩
theorem pT_ge {r : (Nat → Int32) × Nat} (hby : ∀ k, k < t → 0 ≤ tp k) (hk : ¬ kindI (byI tp t s) = 0) (h : pT tp t ρ T s = .inl r) : s < r.2 := by
  unfold pT at h
  split at h
  · cases h
  split at h
  · cases h
  · rename_i r1 hr1
    split at h
    · cases h
    · rename_i r2 hr2
      cases h
      have hl := kind_lt hk
      have hE := (tokS_lt hl).2
      have hst : s < t := by_lt rfl (lt_nd hl).2.2.2.2
      have a := pN_ge hby (by rw [hE]; exact hst) hr1
      have b := pN_le hby (by rw [hE]; exact hst) hr1
      have c := pN_ge hby b hr2
      rw [hE] at a
      exact Nat.lt_of_lt_of_le a c
/-- the loop over harms -/
theorem l32h : ∀ (n Hn : Nat) (X : hX) (ρ : Nat → Int32) (s pt k : Nat) (l3 : Option Value), Hn + n = 9 → CT tp t X → CS t X s → RR X R TH 4 ρ T Hn → (∀ q, N ≤ q → TH q = none) → OKR R TH 4 → (Hn = 0 → kindI (byI tp t s) = 0) → pt ≤ s → k ≤ pt →
    (∀ X', FR X R TH N X' R TH N → (match pHs tp t T n ρ Hn s with | .inl r => X' 2 3 = 0 ∧ RR X' R TH 4 r.1 T r.2 | .inr e => CF X' e.1 e.2) → Q (some (.int (b2 (X' 2 3 = 0)))) (hp (upA X' 2 (upd (X' 2) 1 0)) R TH N)) →
    wp (d + 5) 32 35 [some (.ref 2), some (.ref 4), some (.int (nI pt)), l3] [] (hp X R TH N) k Q := by
  intro n
  induction n with
  | zero => intro Hn X ρ s pt k l3 h9 _ _ hr; have := hr.2.2.2.2.2.2.1; omega
  | succ n ih =>
    intro Hn X ρ s pt k l3 h9 hx h hr hn ho hz hpt hkp hQ
    have hby := hx.2.2.2
    have h120 := hx.2.1
    rw [pHs] at hQ
    by_cases hst : s < t
    · rw [if_neg (fun z => ((tok0 hby).mp z) hst)] at hQ
      have e1 : ((120 : Int32) ≤ nI pt) = False := i_nI_lt (T := 120) (by omega) (by decide)
      have e2 : (nI t ≤ nI s) = False := i_nI_lt hst (by omega)
      have hk0 : k + 0 ≤ 120 := by omega
      have h6 := hr.2.2.2.2.1
      have h8 := hr.2.2.2.2.2.2.1
      -- to the question whether it is a harm
      have key : (if byI tp t s = 104 then wc (d + 4) 34 [.ref 2, .ref 4] (hp X R TH N) (fun r w' => wp (d + 5) 32 101 [some (.ref 2), some (.ref 4), some (.int (nI pt)), some (.int (kindI (byI tp t s)))] (r.toList ++ []) w' k Q) else wc (d + 4) 38 [.ref 2, .int 1, .int (nI s)] (hp X R TH N) (fun r w' => wp (d + 5) 32 113 [some (.ref 2), some (.ref 4), some (.int (nI pt)), some (.int (kindI (byI tp t s)))] (r.toList ++ []) w' k Q)) → wp (d + 5) 32 35 [some (.ref 2), some (.ref 4), some (.int (nI pt)), l3] [] (hp X R TH N) k Q := by
        intro hg
        rw [H32_35]
        by_cases hkz : kindI (byI tp t s) = 0
        · simp only [S32, G2, GRealm r4, e1, e2, h.1, h.2.1, hx.1, t37 hx h.2.1 h.2.2, t39, hkz, hk0, px_op_some, px_op_none, tl_some, tl_none, ap_one, ap_nil, z01, o01, true_and, and_true, true_or, or_true, i10, i01, if_true, if_false, eq_self] at hg ⊢
          exact hg
        · have hH0 : ¬ Hn = 0 := fun z => hkz (hz z)
          have h60 : (nI Hn = 0) = False := by rw [nI_0i (by omega)]; exact eq_false hH0
          simp only [S32, G2, GRealm r4, e1, e2, h.1, h.2.1, hx.1, t37 hx h.2.1 h.2.2, t39, hkz, h6, h60, hk0, px_op_some, px_op_none, tl_some, tl_none, ap_one, ap_nil, z01, o01, true_and, and_true, true_or, or_true, i10, i01, if_true, if_false, eq_self] at hg ⊢
          exact hg
      refine key ?_
      by_cases hb : byI tp t s = 104
      · rw [if_pos hb]
        refine t34 hx h hb hr hn ho (fun X' p1 p2 => ?_)
        simp only [S32, nI_1, px_op_some, px_op_none, tl_some, tl_none, ap_one, ap_nil, z01, o01, true_and, and_true, true_or, or_true, i10, i01, if_true, if_false, eq_self]
        cases hp0 : pH tp t ρ T Hn s with
        | inr e =>
          rw [hp0] at p2 hQ
          dsimp only at p2 hQ
          rw [x32 (CF.n0 (n := e.1) (q := e.2) p2)]
          exact hQ X' p1 p2
        | inl r =>
          rw [hp0] at p2 hQ
          dsimp only at p2 hQ
          have hge := (pH_ge hby h.2.2 hp0).1
          exact ih (Hn + 1) X' r.1 r.2 (pt + 1) k _ (by omega) (hx.fr p1) p2.2 p2.1 p1.2.2.2.2.2.1 p1.2.2.2.2.2.2 (fun z => by omega) (by omega) (by omega) (fun X2 q1 q2 => hQ X2 (p1.tr q1) q2)
      · rw [if_neg hb]
        refine t38 (by decide) (fun X' p1 p2 => ?_)
        simp only [S32, nI_1, px_op_some, px_op_none, tl_some, tl_none, ap_one, ap_nil, z01, o01, true_and, and_true, true_or, or_true, i10, i01, if_true, if_false, eq_self]
        rw [x32 (CF.n0 p2)]
        refine hQ X' (FR.pc p1 hn ho) ?_
        have : pH tp t ρ T Hn s = .inr (1, s) := if_pos (fun z => hb ((tok_c (by decide)).mp z))
        rw [this]
        exact p2
    · rw [if_pos ((tok0 hby).mpr hst)] at hQ
      rw [e32 h hx.1 hst]
      exact hQ X (FR.pc (PC.rf X) hn ho) ⟨h.1, hr⟩
/-- the loop over things -/
theorem l32t : ∀ (n T : Nat) (X : hX) (R : hR) (TH : hT) (N : Nat) (ρ : Nat → Int32) (s pt k : Nat) (l3 : Option Value), T + n = 9 → CT tp t X → CS t X s → RR X R TH 4 ρ T 0 → 62 ≤ N → (∀ q, N ≤ q → TH q = none) → OKR R TH 4 → pt ≤ s → k ≤ pt →
    (∀ X' R' TH' N', FR X R TH N X' R' TH' N' → (match pAll tp t n ρ T s with | .inl r => X' 2 3 = 0 ∧ RR X' R' TH' 4 r.1 r.2.1 r.2.2 | .inr e => CF X' e.1 e.2) → Q (some (.int (b2 (X' 2 3 = 0)))) (hp (upA X' 2 (upd (X' 2) 1 0)) R' TH' N')) →
    wp (d + 5) 32 35 [some (.ref 2), some (.ref 4), some (.int (nI pt)), l3] [] (hp X R TH N) k Q := by
  intro n
  induction n with
  | zero => intro T X R TH N ρ s pt k l3 h9 _ _ hr; have := hr.2.2.2.1; omega
  | succ n ih =>
    intro T X R TH N ρ s pt k l3 h9 hx h hr hN hn ho hpt hkp hQ
    have hby := hx.2.2.2
    have h120 := hx.2.1
    unfold pAll at hQ
    rw [pTs] at hQ
    by_cases hkz : kindI (byI tp t s) = 0
    · rw [if_neg (by rw [kind_tok, hkz]; decide)] at hQ
      dsimp only at hQ
      refine l32h 9 0 X ρ s pt k l3 rfl hx h hr hn ho (fun _ => hkz) hpt hkp (fun X' p1 p2 => hQ X' R TH N p1 ?_)
      cases hp0 : pHs tp t T 9 ρ 0 s with
      | inr e =>
        rw [hp0] at p2
        exact p2
      | inl r =>
        rw [hp0] at p2
        exact p2
    · obtain ⟨κ, hκ, hke⟩ := kind_of hkz
      have hpos : 0 < kindI (tokS tp t s) := by
        rw [kind_tok, hke]
        rcases hκ with rfl | rfl | rfl | rfl | rfl <;> decide
      rw [if_pos hpos] at hQ
      have hl := kind_lt hkz
      have hst : s < t := by_lt rfl (lt_nd hl).2.2.2.2
      have e1 : ((120 : Int32) ≤ nI pt) = False := i_nI_lt (T := 120) (by omega) (by decide)
      have e2 : (nI t ≤ nI s) = False := i_nI_lt hst (by omega)
      have hk0 : k + 0 ≤ 120 := by omega
      have hk1 : k + 1 ≤ 120 := by omega
      have h6 : X 4 6 = 0 := hr.2.2.2.2.1
      have hkn : (nI κ = 0) = False := by rw [← hke]; exact eq_false hkz
      rw [H32_35]
      simp only [S32, G2, GRealm r4, e1, e2, h.1, h.2.1, hx.1, t37 hx h.2.1 h.2.2, t39, hke, hkn, h6, hk0, hk1, px_op_some, px_op_none, tl_some, tl_none, ap_one, ap_nil, z01, o01, true_and, and_true, true_or, or_true, i10, i01, if_true, if_false, eq_self]
      refine t33 hx h hκ hke hr hN hn ho (fun X' R' TH' N' p1 p2 => ?_)
      simp only [S32, nI_1, px_op_some, px_op_none, tl_some, tl_none, ap_one, ap_nil, z01, o01, true_and, and_true, true_or, or_true, i10, i01, if_true, if_false, eq_self]
      cases hp0 : pT tp t ρ T s with
      | inr e =>
        rw [hp0] at p2 hQ
        dsimp only at p2 hQ
        rw [x32 (CF.n0 (n := e.1) (q := e.2) p2)]
        exact hQ X' R' TH' N' p1 p2
      | inl r =>
        rw [hp0] at p2 hQ
        dsimp only at p2 hQ
        have hge := pT_ge hby hkz hp0
        refine ih (T + 1) X' R' TH' N' r.1 r.2 (pt + 1) (k + 1) _ (by omega) (hx.fr p1) p2.2 p2.1 (Nat.le_trans hN p1.2.2.2.1) p1.2.2.2.2.2.1 p1.2.2.2.2.2.2 (by omega) (by omega) (fun X2 R2 TH2 N2 q1 q2 => hQ X2 R2 TH2 N2 (p1.tr q1) ?_)
        unfold pAll at q2
        exact q2
end C15
