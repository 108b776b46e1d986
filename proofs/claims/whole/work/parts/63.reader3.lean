/-! the class reads a text: things and harms -/
abbrev ltI (c : Int32) : Prop := (97 ≤ c ∧ c ≤ 122) ∨ c = 44 ∨ c = 59
theorem lt_nd {c : Int32} (h : ltI c) : ¬ c < 0 ∧ ¬ digI c ∧ ¬ c = 0 ∧ ¬ c = 1 ∧ ¬ c = -1 := by
  rcases h with ⟨h1, h2⟩ | rfl | rfl
  · refine ⟨?_, ?_, ?_, ?_, ?_⟩
    · rw [Int32.not_lt]; exact Int32.le_trans (by decide) h1
    · rintro ⟨-, z⟩; exact absurd (Int32.le_trans h1 z) (by decide)
    · rintro rfl; exact absurd h1 (by decide)
    · rintro rfl; exact absurd h1 (by decide)
    · rintro rfl; exact absurd h1 (by decide)
  · decide
  · decide
section C12
variable {tp : Nat → Int32} {t s : Nat} {c : Int32}
theorem tokS_lt (h : ltI (byI tp t s)) : tokS tp t s = byI tp t s ∧ tokE tp t s = s + 1 := by
  obtain ⟨h1, h2, -, -, -⟩ := lt_nd h
  unfold tokS tokE
  rw [if_neg h1, if_neg h2, if_pos h, if_neg h1, if_neg h2]
  exact ⟨rfl, rfl⟩
theorem tokS_or (h : ¬ ltI (byI tp t s)) : tokS tp t s = 0 ∨ tokS tp t s = 1 ∨ tokS tp t s = -1 := by
  unfold tokS
  split
  · exact Or.inl rfl
  · split
    · split
      · exact Or.inr (Or.inr rfl)
      · exact Or.inr (Or.inl rfl)
    · exact Or.inr (Or.inr rfl)
theorem tok_c (hc : ltI c) : tokS tp t s = c ↔ byI tp t s = c := by
  obtain ⟨-, -, c0, c1, cm⟩ := lt_nd hc
  constructor
  · intro h
    by_cases hl : ltI (byI tp t s)
    · rw [← (tokS_lt hl).1]; exact h
    · rcases tokS_or hl with e | e | e
      · exact absurd (h.symm.trans e) c0
      · exact absurd (h.symm.trans e) c1
      · exact absurd (h.symm.trans e) cm
  · intro h
    rw [(tokS_lt (by rw [h]; exact hc)).1]
    exact h
theorem kind_lt {c : Int32} (h : ¬ kindI c = 0) : ltI c := by
  unfold kindI at h
  by_cases h1 : c = 112
  · subst h1; decide
  by_cases h2 : c = 109
  · subst h2; decide
  by_cases h3 : c = 121
  · subst h3; decide
  by_cases h4 : c = 102
  · subst h4; decide
  by_cases h5 : c = 108
  · subst h5; decide
  rw [if_neg h1, if_neg h2, if_neg h3, if_neg h4, if_neg h5] at h
  exact absurd rfl h
theorem kind_tok : kindI (tokS tp t s) = kindI (byI tp t s) := by
  by_cases hl : ltI (byI tp t s)
  · rw [(tokS_lt hl).1]
  · have h0 : kindI (byI tp t s) = 0 := by
      by_cases h : kindI (byI tp t s) = 0
      · exact h
      · exact absurd (kind_lt h) hl
    rw [h0]
    rcases tokS_or hl with e | e | e <;> rw [e] <;> decide
theorem kind_of {c : Int32} (h : ¬ kindI c = 0) : ∃ κ, (κ = 1 ∨ κ = 2 ∨ κ = 3 ∨ κ = 4 ∨ κ = 5) ∧ kindI c = nI κ := by
  unfold kindI at h ⊢
  by_cases h1 : c = 112
  · rw [if_pos h1]; exact ⟨1, by simp, rfl⟩
  rw [if_neg h1] at h ⊢
  by_cases h2 : c = 109
  · rw [if_pos h2]; exact ⟨2, by simp, rfl⟩
  rw [if_neg h2] at h ⊢
  by_cases h3 : c = 121
  · rw [if_pos h3]; exact ⟨3, by simp, rfl⟩
  rw [if_neg h3] at h ⊢
  by_cases h4 : c = 102
  · rw [if_pos h4]; exact ⟨4, by simp, rfl⟩
  rw [if_neg h4] at h ⊢
  by_cases h5 : c = 108
  · rw [if_pos h5]; exact ⟨5, by simp, rfl⟩
  rw [if_neg h5] at h
  exact absurd rfl h
end C12
/-- what reading a part leaves alone -/
def FR (X : hX) (R : hR) (TH : hT) (N : Nat) (X' : hX) (R' : hR) (TH' : hT) (N' : Nat) : Prop :=
  (∀ c, c ≠ 2 → c ≠ 4 → c ≠ 6 → c ≠ 7 → X' c = X c) ∧ X' 2 1 = X 2 1 ∧ (∀ c, c ≠ 5 → R' c = R c) ∧ N ≤ N' ∧ (∀ q, q < N → TH' q = TH q) ∧ (∀ q, N' ≤ q → TH' q = none) ∧ OKR R' TH' 4
theorem FR.tr {X X' X'' : hX} {R R' R'' : hR} {TH TH' TH'' : hT} {N N' N'' : Nat} (h1 : FR X R TH N X' R' TH' N') (h2 : FR X' R' TH' N' X'' R'' TH'' N'') : FR X R TH N X'' R'' TH'' N'' :=
  ⟨fun c a b e g => (h2.1 c a b e g).trans (h1.1 c a b e g), h2.2.1.trans h1.2.1, fun c a => (h2.2.2.1 c a).trans (h1.2.2.1 c a), Nat.le_trans h1.2.2.2.1 h2.2.2.2.1, fun q hq => (h2.2.2.2.2.1 q (Nat.lt_of_lt_of_le hq h1.2.2.2.1)).trans (h1.2.2.2.2.1 q hq), h2.2.2.2.2.2.1, h2.2.2.2.2.2.2⟩
theorem FR.pc {X X' : hX} {R : hR} {TH : hT} {N : Nat} (h : PC X X') (hn : ∀ q, N ≤ q → TH q = none) (ho : OKR R TH 4) : FR X R TH N X' R TH N :=
  ⟨fun c a _ _ _ => h.1 c a, h.2, fun _ _ => rfl, Nat.le_refl _, fun _ _ => rfl, hn, ho⟩
theorem FR.pc' {X X' X'' : hX} {R R' : hR} {TH TH' : hT} {N N' : Nat} (h : FR X R TH N X' R' TH' N') (p : PC X' X'') : FR X R TH N X'' R' TH' N' := h.tr (FR.pc p h.2.2.2.2.2.1 h.2.2.2.2.2.2)
theorem CT.fr {tp : Nat → Int32} {t : Nat} {X X' : hX} {R R' : hR} {TH TH' : hT} {N N' : Nat} (h : CT tp t X) (p : FR X R TH N X' R' TH' N') : CT tp t X' :=
  ⟨p.2.1.trans h.1, h.2.1, fun k hk => by rw [p.1 3 (by decide) (by decide) (by decide) (by decide)]; exact h.2.2.1 k hk, h.2.2.2⟩
theorem RR.pc {X X' : hX} {R : hR} {TH : hT} {r T Hn : Nat} {ρ : Nat → Int32} (h : RR X R TH r ρ T Hn) (p : PC X X') (hr : 2 < r) : RR X' R TH r ρ T Hn := by
  unfold RR
  rw [p.1 r (by omega), p.1 (r + 2) (by omega), p.1 (r + 3) (by omega)]
  exact h
theorem r4 : isRealm 4 := Or.inl rfl
section C13
variable {d : Nat} {X : hX} {R : hR} {TH : hT} {N t s T Hn : Nat} {tp ρ : Nat → Int32} {Q : Option Value → px_H → Prop}
theorem CF.n0 {n : Int32} {q : Nat} (h : CF X n q) : ¬ X 2 3 = 0 := by rw [h.2.1]; exact h.1
/-- the new thing in its realm -/
theorem RR.add {κ : Nat} {far price : Int32} (hr : RR X R TH 4 ρ T Hn) (hN : 62 ≤ N) (h8 : T < 8) (hn : ∀ q, N ≤ q → TH q = none) (hk : κ = 1 ∨ κ = 2 ∨ κ = 3 ∨ κ = 4 ∨ κ = 5) (ho : OKR R TH 4) :
    RR (upA (upA X 6 (upd (X 6) T (-1000000))) 4 (upd (X 4) 5 (nI (T + 1)))) (upR R 5 (va_up (R 5) T (some N))) (upT TH N (.inr (.inr (thC κ, [.int (nI T), .int far, .int price])))) 4 (thU ρ (nI κ) far price T) (T + 1) Hn ∧
    FR X R TH N (upA (upA X 6 (upd (X 6) T (-1000000))) 4 (upd (X 4) 5 (nI (T + 1)))) (upR R 5 (va_up (R 5) T (some N))) (upT TH N (.inr (.inr (thC κ, [.int (nI T), .int far, .int price])))) (N + 1) := by
  obtain ⟨h0, h5, r1, -, h6, r2, h8', h3, h4, ht, hh⟩ := hr
  have old : ∀ q κ' n f p, isTh TH q κ' n f p → isTh (upT TH N (.inr (.inr (thC κ, [.int (nI T), .int far, .int price])))) q κ' n f p := by
    intro q κ' n f p h
    refine ⟨h.1, h.2.1, ?_⟩
    rw [upT_n]
    · exact h.2.2
    · rintro rfl
      have := h.2.2
      rw [hn _ (Nat.le_refl _)] at this
      cases this
  have new : isTh (upT TH N (.inr (.inr (thC κ, [.int (nI T), .int far, .int price])))) N κ (nI T) far price := ⟨hN, hk, upT_s _ _ _⟩
  have nU : ∀ j, j ≠ 1 → j ≠ 5 + 4 * T → j ≠ 5 + 4 * T + 1 → j ≠ 5 + 4 * T + 2 → j ≠ 5 + 4 * T + 3 → thU ρ (nI κ) far price T j = ρ j := by
    intro j a1 a2 a3 a4 a5
    unfold thU
    rw [upd_n a1, upd_n a5, upd_n a4, upd_n a3, upd_n a2]
  refine ⟨⟨?_, ?_, ?_, h8, ?_, ?_, h8', ?_, ?_, ?_, ?_⟩, ?_⟩
  · rw [upA_s, upd_n (by decide), nU 0 (by decide) (by omega) (by omega) (by omega) (by omega)]; exact h0
  · rw [upA_s, upd_s]
  · unfold thU; rw [upd_s]
  · rw [upA_s, upd_n (by decide)]; exact h6
  · rw [nU 2 (by decide) (by omega) (by omega) (by omega) (by omega)]; exact r2
  · rw [upA_s, upd_n (by decide), nU 3 (by decide) (by omega) (by omega) (by omega) (by omega)]; exact h3
  · rw [upA_s, upd_n (by decide), nU 4 (by decide) (by omega) (by omega) (by omega) (by omega)]; exact h4
  · intro p hp
    by_cases e : p = T
    · subst e
      refine ⟨N, κ, ?_, ?_, ?_, ?_⟩
      · rw [upR_s, va_up_self]
      · have f1 : rF (thU ρ (nI κ) far price p) p = far := by unfold rF thU; rw [upd_n (by omega), upd_n (by omega), upd_n (by omega), upd_s]
        have f2 : rP (thU ρ (nI κ) far price p) p = price := by unfold rP thU; rw [upd_n (by omega), upd_n (by omega), upd_s]
        rw [f1, f2]
        exact new
      · unfold rK thU; rw [upd_n (by omega), upd_n (by omega), upd_n (by omega), upd_n (by omega), upd_s]
      · rw [upA_n (by decide), upA_s, upd_s]
        unfold rS thU
        rw [upd_n (by omega), upd_s]
    · obtain ⟨q, κ', hq, hth, hk', hs⟩ := ht p (by omega)
      refine ⟨q, κ', ?_, ?_, ?_, ?_⟩
      · rw [upR_s, va_up_ne _ _ e]; exact hq
      · have f1 : rF (thU ρ (nI κ) far price T) p = rF ρ p := nU _ (by omega) (by omega) (by omega) (by omega) (by omega)
        have f2 : rP (thU ρ (nI κ) far price T) p = rP ρ p := nU _ (by omega) (by omega) (by omega) (by omega) (by omega)
        rw [f1, f2]
        exact old _ _ _ _ _ hth
      · have f1 : rK (thU ρ (nI κ) far price T) p = rK ρ p := nU _ (by omega) (by omega) (by omega) (by omega) (by omega)
        rw [f1]; exact hk'
      · have f1 : rS (thU ρ (nI κ) far price T) p = rS ρ p := nU _ (by omega) (by omega) (by omega) (by omega) (by omega)
        rw [f1, upA_n (by decide), upA_s, upd_n e]; exact hs
  · intro h hh1
    have f1 : rH (thU ρ (nI κ) far price T) h = rH ρ h := nU _ (by omega) (by omega) (by omega) (by omega) (by omega)
    rw [f1, upA_n (by decide), upA_n (by decide)]
    exact hh h hh1
  · refine ⟨fun c a b e g => ?_, ?_, fun c a => upR_n a, Nat.le_succ N, fun q hq => upT_n (by omega), fun q hq => ?_, fun u hu => ?_⟩
    · rw [upA_n b, upA_n e]
    · rw [upA_n (by decide), upA_n (by decide)]
    · rw [upT_n (by omega)]; exact hn q (by omega)
    · rw [upR_s]
      by_cases e : u = T
      · subst e
        exact Or.inr ⟨N, κ, _, _, _, va_up_self _ _ _, new⟩
      · rw [va_up_ne _ _ e]
        rcases ho u hu with z | ⟨q, κ', n, f, p, z1, z2⟩
        · exact Or.inl z
        · exact Or.inr ⟨q, κ', n, f, p, z1, old _ _ _ _ _ z2⟩
theorem RR.addH {v : Int32} (hr : RR X R TH 4 ρ T Hn) (h8 : Hn < 8) (hn : ∀ q, N ≤ q → TH q = none) (ho : OKR R TH 4) :
    RR (upA (upA X 7 (upd (X 7) Hn v)) 4 (upd (X 4) 6 (nI (Hn + 1)))) R TH 4 (upd (upd ρ (37 + Hn) v) 2 (nI (Hn + 1))) T (Hn + 1) ∧
    FR X R TH N (upA (upA X 7 (upd (X 7) Hn v)) 4 (upd (X 4) 6 (nI (Hn + 1)))) R TH N := by
  obtain ⟨h0, h5, r1, h8T, h6, r2, h8', h3, h4, ht, hh⟩ := hr
  have nU : ∀ j, j ≠ 2 → j ≠ 37 + Hn → upd (upd ρ (37 + Hn) v) 2 (nI (Hn + 1)) j = ρ j := fun j a1 a2 => by rw [upd_n a1, upd_n a2]
  refine ⟨⟨?_, ?_, ?_, h8T, ?_, ?_, h8, ?_, ?_, ?_, ?_⟩, ?_⟩
  · rw [upA_s, upd_n (by decide), nU 0 (by decide) (by omega)]; exact h0
  · rw [upA_s, upd_n (by decide)]; exact h5
  · rw [nU 1 (by decide) (by omega)]; exact r1
  · rw [upA_s, upd_s]
  · rw [upd_s]
  · rw [upA_s, upd_n (by decide), nU 3 (by decide) (by omega)]; exact h3
  · rw [upA_s, upd_n (by decide), nU 4 (by decide) (by omega)]; exact h4
  · intro p hp
    obtain ⟨q, κ', hq, hth, hk', hs⟩ := ht p (by omega)
    refine ⟨q, κ', hq, ?_, ?_, ?_⟩
    · unfold rF rP; rw [nU _ (by omega) (by omega), nU _ (by omega) (by omega)]; exact hth
    · unfold rK; rw [nU _ (by omega) (by omega)]; exact hk'
    · unfold rS; rw [nU _ (by omega) (by omega), upA_n (by decide), upA_n (by decide)]; exact hs
  · intro h hh1
    rw [upA_n (by decide), upA_s]
    unfold rH
    by_cases e : h = Hn
    · subst e
      rw [upd_s, upd_n (by omega), upd_s]
    · rw [upd_n e, nU _ (by omega) (by omega)]
      exact hh h (by omega)
  · refine ⟨fun c a b e g => ?_, ?_, fun c a => rfl, Nat.le_refl N, fun q hq => rfl, hn, ho⟩
    · rw [upA_n b, upA_n g]
    · rw [upA_n (by decide), upA_n (by decide)]
end C13
