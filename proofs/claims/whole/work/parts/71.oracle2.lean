/-! the class: the least cover; the suspects -/
theorem or_pow : ∀ a : Nat, a < 256 → ∀ p : Nat, p < 8 → nI a ||| (1 <<< (nI p &&& 31)) = nI (a ||| 2 ^ p) ∧ a ||| 2 ^ p < 256 := by decide +kernel
theorem nI_bv (s : Nat) : (nI s).toBitVec = BitVec.ofNat 32 s := rfl
theorem m1_bv : (-1 : Int32).toBitVec = BitVec.allOnes 32 := by decide
theorem sub_mask {s m : Nat} (hs : s < 256) : nI s &&& (nI m ^^^ -1) = 0 ↔ s &&& m = s := by
  constructor
  · intro h
    apply Nat.eq_of_testBit_eq
    intro i
    have h1 := congrArg (fun x : Int32 => x.toBitVec.getLsbD i) h
    simp only [Int32.toBitVec_and, Int32.toBitVec_xor, nI_bv, m1_bv, BitVec.getLsbD_and, BitVec.getLsbD_xor, BitVec.getLsbD_ofNat, BitVec.getLsbD_allOnes] at h1
    rw [Nat.testBit_and]
    by_cases hi : i < 32
    · have h0 : (0 : Int32).toBitVec.getLsbD i = false := by simp
      rw [h0] at h1
      simp [hi] at h1
      cases hb : s.testBit i
      · rfl
      · simp [h1 hb]
    · have : s.testBit i = false := Nat.testBit_lt_two_pow (Nat.lt_of_lt_of_le hs (Nat.le_trans (show 256 ≤ 2 ^ 32 by decide) (Nat.pow_le_pow_right (by decide) (by omega))))
      rw [this]; rfl
  · intro h
    apply Int32.toBitVec_inj.mp
    apply BitVec.eq_of_getLsbD_eq
    intro i hi
    have h1 := congrArg (fun x : Nat => x.testBit i) h
    simp only [Nat.testBit_and] at h1
    simp only [Int32.toBitVec_and, Int32.toBitVec_xor, nI_bv, m1_bv, BitVec.getLsbD_and, BitVec.getLsbD_xor, BitVec.getLsbD_ofNat, BitVec.getLsbD_allOnes]
    have h0 : (0 : Int32).toBitVec.getLsbD i = false := by simp
    rw [h0]
    simp [hi]
    intro hb
    rw [hb] at h1
    simpa using h1
theorem bit_test : ∀ s : Nat, s < 256 → ∀ p : Nat, p < 8 → (bitI (nI s) p ↔ s.testBit p = true) := by decide +kernel
abbrev swI (ρ : Nat → Int32) (day : Int32) (p : Nat) : Prop := ¬ rK ρ p = 3 ∨ 10 ≤ day
theorem wl_fld {ρ : Nat → Int32} {day : Int32} : ∀ (n p a : Nat), p + n ≤ 8 → a < 256 → ∃ m, m < 256 ∧ fld (wlS ρ day) n p (nI a) = nI m ∧ ∀ i, m.testBit i = true ↔ (a.testBit i = true ∨ (p ≤ i ∧ i < p + n ∧ swI ρ day i)) := by
  intro n
  induction n with
  | zero => intro p a _ ha; exact ⟨a, ha, rfl, fun i => ⟨fun z => Or.inl z, fun z => z.elim id (fun y => by omega)⟩⟩
  | succ n ih =>
    intro p a hp ha
    rw [fld_s]
    unfold wlS
    by_cases hs : ¬ rK ρ p = 3 ∨ 10 ≤ day
    · rw [if_pos hs, (or_pow a ha p (by omega)).1]
      obtain ⟨m, h1, h2, h3⟩ := ih (p + 1) (a ||| 2 ^ p) (by omega) (or_pow a ha p (by omega)).2
      refine ⟨m, h1, h2, fun i => (h3 i).trans ?_⟩
      rw [Nat.testBit_or, Nat.testBit_two_pow]
      by_cases e : p = i
      · subst e
        simp only [decide_true, Bool.or_true, true_or, true_iff]
        exact Or.inr ⟨Nat.le_refl _, by omega, hs⟩
      · simp only [e, decide_false, Bool.or_false]
        constructor
        · rintro (z | ⟨z1, z2, z3⟩)
          · exact Or.inl z
          · exact Or.inr ⟨by omega, by omega, z3⟩
        · rintro (z | ⟨z1, z2, z3⟩)
          · exact Or.inl z
          · exact Or.inr ⟨by omega, by omega, z3⟩
    · rw [if_neg hs]
      obtain ⟨m, h1, h2, h3⟩ := ih (p + 1) a (by omega) ha
      refine ⟨m, h1, h2, fun i => (h3 i).trans ?_⟩
      constructor
      · rintro (z | ⟨z1, z2, z3⟩)
        · exact Or.inl z
        · exact Or.inr ⟨by omega, by omega, z3⟩
      · rintro (z | ⟨z1, z2, z3⟩)
        · exact Or.inl z
        · by_cases e : p = i
          · subst e; exact absurd z3 hs
          · exact Or.inr ⟨by omega, by omega, z3⟩
theorem ma_fld {ρ : Nat → Int32} {s day : Int32} : ∀ (n p : Nat) (a : Int32), ¬ fld (maS ρ s day) n p a = 0 ↔ (¬ a = 0 ∧ ∀ i, p ≤ i → i < p + n → bitI s i → swI ρ day i) := by
  intro n
  induction n with
  | zero => intro p a; exact ⟨fun z => ⟨z, fun i h1 h2 => by omega⟩, fun z => z.1⟩
  | succ n ih =>
    intro p a
    rw [fld_s, ih]
    have split : (∀ i, p ≤ i → i < p + (n + 1) → bitI s i → swI ρ day i) ↔ ((bitI s p → swI ρ day p) ∧ ∀ i, p + 1 ≤ i → i < p + 1 + n → bitI s i → swI ρ day i) := by
      constructor
      · intro h
        exact ⟨h p (Nat.le_refl _) (by omega), fun i h1 h2 => h i (by omega) (by omega)⟩
      · rintro ⟨h0, h⟩ i h1 h2
        by_cases e : i = p
        · subst e; exact h0
        · exact h i (by omega) (by omega)
    rw [split, ← and_assoc]
    refine and_congr_left (fun _ => ?_)
    unfold maS
    by_cases hb : bitI s p
    · rw [if_pos hb]
      by_cases ha : a = 0
      · rw [if_pos ha]
        exact ⟨fun z => absurd rfl z, fun z => absurd ha z.1⟩
      · rw [if_neg ha, b2_0]
        exact ⟨fun z => ⟨ha, fun _ => Classical.not_not.mp z⟩, fun z => fun y => y (z.2 hb)⟩
    · rw [if_neg hb]
      exact ⟨fun z => ⟨z, fun y => absurd y hb⟩, fun z => z.1⟩
theorem wl_ma {ρ : Nat → Int32} {day : Int32} {T s : Nat} (h8 : T ≤ 8) (hs : s < 2 ^ T) : (nI s &&& (fld (wlS ρ day) T 0 0 ^^^ -1) = 0) = ¬ fld (maS ρ (nI s) day) T 0 1 = 0 := by
  have h256 : s < 256 := Nat.lt_of_lt_of_le hs (Nat.pow_le_pow_right (n := 2) (by decide) h8)
  obtain ⟨m, h1, h2, h3⟩ := wl_fld (ρ := ρ) (day := day) T 0 0 (by omega) (by decide)
  have h2' : fld (wlS ρ day) T 0 0 = nI m := h2
  rw [h2', propext (sub_mask h256), propext (ma_fld T 0 1)]
  apply propext
  constructor
  · intro h
    refine ⟨by decide, fun i _ hi hb => ?_⟩
    have ht := (bit_test s h256 i (by omega)).mp hb
    have := congrArg (fun x : Nat => x.testBit i) h
    simp only [Nat.testBit_and, ht, Bool.true_and] at this
    rcases (h3 i).mp this with z | ⟨_, _, z⟩
    · simp at z
    · exact z
  · rintro ⟨-, h⟩
    apply Nat.eq_of_testBit_eq
    intro i
    rw [Nat.testBit_and]
    cases hb : s.testBit i
    · rfl
    · have hi : i < T := by
        rcases Nat.lt_or_ge i T with z | z
        · exact z
        · rw [Nat.testBit_lt_two_pow (Nat.lt_of_lt_of_le hs (Nat.pow_le_pow_right (by decide) z))] at hb
          cases hb
      rw [(h3 i).mpr (Or.inr ⟨Nat.zero_le _, by omega, h i (Nat.zero_le _) (by omega) ((bit_test s h256 i (by omega)).mpr hb)⟩)]
      rfl
section C21
variable {d : Nat} {X : hX} {R : hR} {TH : hT} {N r T Hn D : Nat} {ρ : Nat → Int32} {Q : Option Value → px_H → Prop}
theorem pow0 : ∀ T : Nat, T < 9 → (1 : Int32) <<< (nI T &&& 31) = nI (2 ^ T) := by decide
/-- leastCover -/
theorem l14 (h : isRealm r) (hr : RR X R TH r ρ T Hn) (hov : OV ρ T (ρ 3) (ρ 0)) (hovD : ρ 3 < ρ 3 + ρ 0 ↔ ρ 3 ≤ ρ 3 + ρ 0 - 1) : ∀ (n s : Nat) (a : Option Nat) (l5 : Option Value), s + n = 2 ^ T → (∀ q, a = some q → q < s) → (wp (d + 2) 14 15 [some (.ref 15), some (.ref r), some (.int (fld (wlS ρ (ρ 3)) T 0 0)), some (.int (enc a)), some (.int (nI s)), l5] [] (hp X R TH N) 0 Q ↔ Q (some (.int (enc (fld (cvS ρ T Hn) n s a)))) (hp X R TH N)) := by
  have h8 := hr.2.2.2.1
  have hT := hr.2.1
  have h38 := hr.2.2.2.2.2.2.2.1
  have h4 := hr.1
  have hpow : (2 : Nat) ^ T ≤ 256 := Nat.pow_le_pow_right (n := 2) (by decide) h8
  intro n
  induction n with
  | zero =>
    intro s a l5 hs ha
    obtain rfl : s = 2 ^ T := by omega
    rw [H14_15]
    simp only [S14, GRealm h, hT, pow0 T (by omega), i_nI_le, px_op_some, px_op_none, tl_some, tl_none, ap_one, ap_nil, z01, o01, true_and, and_true, true_or, or_true, i10, i01, if_true, if_false, eq_self, fld_0]
  | succ n ih =>
    intro s a l5 hs ha
    have hlt : (nI (2 ^ T) ≤ nI s) = False := i_nI_lt (by omega) (by omega)
    have hb := fun Q => t58 (d := d) (N := N) (Q := Q) (day := ρ 3) (term := ρ 0) (fresh := nI s) h hr (fun p => if bitI (nI s) p then ρ 3 else rS ρ p) (fun t _ => rfl) (fun t ht => by
      by_cases hf : bitI (nI s) t
      · simp only [if_pos hf]; exact fun _ => hovD
      · simp only [if_neg hf]; exact hov t ht)
    have eo : opnI ρ (bndI ρ (fun p => if bitI (nI s) p then ρ 3 else rS ρ p) (ρ 3) (ρ 0) T) Hn = openI ρ (fun p => if bitI (nI s) p then ρ 3 else rS ρ p) (ρ 3) (ρ 0) T Hn := rfl
    have hwl := wl_ma (ρ := ρ) (day := ρ 3) h8 (show s < 2 ^ T by omega)
    rw [H14_15, fld_s]
    cases a with
    | none =>
      have k1 := fun l4 => ih (s + 1) (some s) l4 (by omega) (fun q hq => by cases hq; omega)
      have k0 := fun l4 => ih (s + 1) none l4 (by omega) (fun q hq => by cases hq)
      simp only [enc] at k1 k0
      simp only [S14, GRealm h, hT, h38, h4, pow0 T (show T < 9 by omega), hlt, hwl, hb, t60 h hr, eo, px_op_some, px_op_none, tl_some, tl_none, ap_one, ap_nil, z01, o01, true_and, and_true, true_or, or_true, i10, i01, if_true, if_false, eq_self, nI_1, enc, k1, k0, cvS, covI]
      by_cases hc : fld (maS ρ (nI s) (ρ 3)) T 0 1 = 0
      · simp [hc]
      · by_cases ho : openI ρ (fun p => if bitI (nI s) p then ρ 3 else rS ρ p) (ρ 3) (ρ 0) T Hn = 0
        · simp [hc, ho]
        · simp [hc, ho]
    | some q =>
      have hq := ha q rfl
      have hqn : (nI q = -1000000) = False := i_nn (by omega)
      have k1 := fun l4 => ih (s + 1) (some s) l4 (by omega) (fun q hq => by cases hq; omega)
      have k0 := fun l4 => ih (s + 1) (some q) l4 (by omega) (fun r hr => by cases hr; omega)
      simp only [enc] at k1 k0
      simp only [S14, GRealm h, hT, h38, h4, pow0 T (show T < 9 by omega), hlt, hwl, hb, t60 h hr, eo, t222 (show s < 256 by omega), t222 (show q < 256 by omega), px_op_some, px_op_none, tl_some, tl_none, ap_one, ap_nil, z01, o01, true_and, and_true, true_or, or_true, i10, i01, if_true, if_false, eq_self, nI_1, enc, hqn, k1, k0, cvS, covI]
      by_cases h2 : manyI (nI q) ≤ manyI (nI s)
      · have h3 : ¬ manyI (nI s) < manyI (nI q) := by rw [Int32.not_lt]; exact h2
        simp [h2, h3]
      · have h3 : manyI (nI s) < manyI (nI q) := by rw [← Int32.not_le]; exact h2
        by_cases hc : fld (maS ρ (nI s) (ρ 3)) T 0 1 = 0
        · simp [h2, h3, hc]
        · by_cases ho : openI ρ (fun p => if bitI (nI s) p then ρ 3 else rS ρ p) (ρ 3) (ρ 0) T Hn = 0
          · simp [h2, h3, hc, ho]
          · simp [h2, h3, hc, ho]
theorem t14 (h : isRealm r) (hr : RR X R TH r ρ T Hn) (hov : OV ρ T (ρ 3) (ρ 0)) (hovD : ρ 3 < ρ 3 + ρ 0 ↔ ρ 3 ≤ ρ 3 + ρ 0 - 1) : wc (d + 2) 14 [.ref 15, .ref r] (hp X R TH N) Q ↔ Q (some (.int (enc (cvI ρ T Hn)))) (hp X R TH N) := by
  have := l14 (d := d) (N := N) (Q := Q) h hr hov hovD (2 ^ T) 0 none none (by omega) (fun q hq => by cases hq)
  simp only [S14, GRealm h, hr.2.2.2.2.2.2.2.1, t15 h hr, px_op_some, px_op_none, tl_some, tl_none, ap_one, ap_nil, z01, o01, true_and, and_true, true_or, or_true, i10, i01, if_true, if_false, eq_self]
  exact this
end C21
