/-! what holds between the class and the reference -/
def FlagI (X : hX) : Prop := X 51 5 = 0 ∧ X 0 8 = X 51 3 ∧ X 0 7 = X 51 17
def RowI (X : hX) (R : hR) (i : Nat) : Prop := R 1 i = some (25 + 2 * i) ∧ (∀ k, k < 40 → X 54 (40 * i + k) = X (26 + 2 * i) k) ∧ ∃ sz, sz ≤ 40 ∧ X 53 i = nI sz ∧ ((X 52 i = 0 ∧ X (25 + 2 * i) 2 = -1) ∨ ∃ ln, ln < 3 ∧ X 52 i = nI (ln + 1) ∧ X (25 + 2 * i) 1 = nI ln ∧ X (25 + 2 * i) 2 = nI sz)
def RowsI (X : hX) (R : hR) : Prop := ∀ i, i < 8 → RowI X R i
def TapeI (X : hX) (t : Nat) : Prop := X 2 1 = nI t ∧ X 51 10 = nI t ∧ t ≤ 120 ∧ ∀ k, k < t → X 3 k = X 58 k &&& 255 ∧ 0 ≤ X 3 k
def PresI (X : hX) (R : hR) (TH : hT) (T Hn : Nat) : Prop := RR X R TH 9 (X 55) T Hn ∧ WF (X 55) T Hn 999
def ActI (X : hX) (T j : Nat) : Prop := X 57 (4 * j) = X 13 (4 * j + 2) ∧ X 57 (4 * j + 1) = X 13 (4 * j + 3) ∧ X 57 (4 * j + 2) = X 13 (4 * j) ∧ (∃ D, D ≤ 999 ∧ X 57 (4 * j) = nI D) ∧ (X 13 (4 * j) = -1000000 ∨ ∃ p, p < T ∧ X 13 (4 * j) = nI p ∧ X 57 (4 * j + 3) = X 13 (4 * j + 1) ∧ (X 13 (4 * j + 1) = -1000000 ∨ ∃ o, o ≤ 999 ∧ X 13 (4 * j + 1) = nI o))
def ActsI (X : hX) (T a : Nat) : Prop := X 9 7 = nI a ∧ X 51 8 = nI a ∧ a ≤ 24 ∧ ∀ j, j < a → ActI X T j
def TraceI (X : hX) (l : Nat) : Prop := X 23 1 = nI l ∧ X 51 22 = nI l ∧ l ≤ 16 ∧ ∀ k, k < l → X 24 k = X 61 k
def rhK (X : hX) (k : Nat) : Nat → Int32 := fun j => X 55 (45 * (1 + k) + j)
def ImgI (X : hX) (R : hR) (TH : hT) (k : Nat) : Prop := R 14 k = some (41 + 5 * k) ∧ ((X 56 k = 0 ∧ X (41 + 5 * k) 4 = 0) ∨ (X 56 k = 1 ∧ ∃ T Hn, RR X R TH (41 + 5 * k) (rhK X k) T Hn ∧ WF (rhK X k) T Hn 999 ∧ 0 < rhK X k 0))
def ThI (R : hR) (TH : hT) (N : Nat) : Prop := 62 ≤ N ∧ (∀ q, N ≤ q → TH q = none) ∧ OKR R TH 4 ∧ OKR R TH 9 ∧ OKR R TH 41 ∧ OKR R TH 46
def Inv (X : hX) (R : hR) (TH : hT) (N : Nat) : Prop := FlagI X ∧ RowsI X R ∧ (∃ t, TapeI X t) ∧ (∃ T Hn a, PresI X R TH T Hn ∧ ActsI X T a) ∧ (∃ l, TraceI X l) ∧ ImgI X R TH 0 ∧ ImgI X R TH 1 ∧ ThI R TH N
/-- scratch cells -/
def SCr (X : hX) (R : hR) (X' : hX) (R' : hR) : Prop := (∀ c, ¬ (15 ≤ c ∧ c ≤ 22) → c ≠ 51 → c ≠ 59 → c ≠ 60 → X' c = X c) ∧ (∀ j, j ≠ 20 → X' 51 j = X 51 j) ∧ ∀ c, c ≠ 17 → R' c = R c
theorem SCr.rf (X : hX) (R : hR) : SCr X R X R := ⟨fun _ _ _ _ _ => rfl, fun _ _ => rfl, fun _ _ => rfl⟩
theorem SCr.tr {X Y Z : hX} {R S U : hR} (h1 : SCr X R Y S) (h2 : SCr Y S Z U) : SCr X R Z U := ⟨fun c a b e f => (h2.1 c a b e f).trans (h1.1 c a b e f), fun j a => (h2.2.1 j a).trans (h1.2.1 j a), fun c a => (h2.2.2 c a).trans (h1.2.2 c a)⟩
theorem SCr.df {X X' : hX} {R R' : hR} (h : DF X R X' R') : SCr X R X' R' := ⟨fun c a _ _ _ => h.1 c (by omega), fun j _ => by rw [h.1 51 (by omega)], h.2⟩
theorem SCr.s59 {X : hX} {R : hR} {f : Nat → Int32} : SCr X R (upA X 59 f) R := ⟨fun c _ _ a _ => upA_n a, fun j _ => by rw [upA_n (by decide)], fun _ _ => rfl⟩
theorem SCr.rF {X X' : hX} {R : hR} (h : RF X X') : SCr X R X' R := ⟨fun c _ a b e => h.1 c a b e, fun j a => h.2 j a, fun _ _ => rfl⟩
theorem Inv.sc {X X' : hX} {R R' : hR} {TH : hT} {N : Nat} (h : Inv X R TH N) (s : SCr X R X' R') : Inv X' R' TH N := by
  obtain ⟨h1, h2, h3, h4, h5, h6, h7, h8⟩ := h
  have c : ∀ c, ¬ (15 ≤ c ∧ c ≤ 22) → c ≠ 51 → c ≠ 59 → c ≠ 60 → X' c = X c := s.1
  have rh : ∀ k, rhK X' k = rhK X k := fun k => by unfold rhK; rw [c 55 (by omega) (by decide) (by decide) (by decide)]
  have im : ∀ k, k < 2 → ImgI X R TH k → ImgI X' R' TH k := by
    intro k hk h
    unfold ImgI RR at h ⊢
    rw [rh, s.2.2 14 (by decide), c 56 (by omega) (by decide) (by decide) (by decide), c (41 + 5 * k) (by omega) (by omega) (by omega) (by omega), c (41 + 5 * k + 2) (by omega) (by omega) (by omega) (by omega), c (41 + 5 * k + 3) (by omega) (by omega) (by omega) (by omega), s.2.2 (41 + 5 * k + 1) (by omega)]
    exact h
  refine ⟨?_, fun i hi => ?_, ?_, ?_, ?_, im 0 (by decide) h6, im 1 (by decide) h7, ?_⟩
  · unfold FlagI at h1 ⊢
    rw [s.2.1 5 (by decide), s.2.1 3 (by decide), s.2.1 17 (by decide), c 0 (by omega) (by decide) (by decide) (by decide)]
    exact h1
  · have := h2 i hi
    unfold RowI at this ⊢
    rw [s.2.2 1 (by decide), c 54 (by omega) (by decide) (by decide) (by decide), c 53 (by omega) (by decide) (by decide) (by decide), c 52 (by omega) (by decide) (by decide) (by decide), c (25 + 2 * i) (by omega) (by omega) (by omega) (by omega), c (26 + 2 * i) (by omega) (by omega) (by omega) (by omega)]
    exact this
  · obtain ⟨t, ht⟩ := h3
    refine ⟨t, ?_⟩
    unfold TapeI at ht ⊢
    rw [c 2 (by omega) (by decide) (by decide) (by decide), c 3 (by omega) (by decide) (by decide) (by decide), c 58 (by omega) (by decide) (by decide) (by decide), s.2.1 10 (by decide)]
    exact ht
  · obtain ⟨T, Hn, a, hp, ha⟩ := h4
    refine ⟨T, Hn, a, ?_, ?_⟩
    · unfold PresI RR at hp ⊢
      rw [c 55 (by omega) (by decide) (by decide) (by decide), c 9 (by omega) (by decide) (by decide) (by decide), c (9 + 2) (by omega) (by decide) (by decide) (by decide), c (9 + 3) (by omega) (by decide) (by decide) (by decide), s.2.2 (9 + 1) (by decide)]
      exact hp
    · unfold ActsI ActI at ha ⊢
      rw [c 9 (by omega) (by decide) (by decide) (by decide), c 13 (by omega) (by decide) (by decide) (by decide), c 57 (by omega) (by decide) (by decide) (by decide), s.2.1 8 (by decide)]
      exact ha
  · obtain ⟨l, hl⟩ := h5
    refine ⟨l, ?_⟩
    unfold TraceI at hl ⊢
    rw [c 23 (by omega) (by decide) (by decide) (by decide), c 24 (by omega) (by decide) (by decide) (by decide), c 61 (by omega) (by decide) (by decide) (by decide), s.2.1 22 (by decide)]
    exact hl
  · unfold ThI OKR at h8 ⊢
    rw [s.2.2 (4 + 1) (by decide), s.2.2 (9 + 1) (by decide), s.2.2 (41 + 1) (by decide), s.2.2 (46 + 1) (by decide)]
    exact h8
/-- class and reference answer alike -/
def PI (r : Option Value) : Option Value → px_H → Prop := fun r' w' => r' = r ∧ (∃ v, r = some (.int v)) ∧ ∃ X R TH N, w' = hp X R TH N ∧ Inv X R TH N
def Sim (M M' : Nat) (as : List Value) : Prop := ∀ d X R TH N, Inv X R TH N → wc (d + 12) M (.ref 0 :: as) (hp X R TH N) (fun r w => wc (d + 12) M' (.ref 51 :: as) w (PI r))
theorem PI.mk {v v' : Int32} {X : hX} {R : hR} {TH : hT} {N : Nat} (e : v' = v) (h : Inv X R TH N) : PI (some (.int v)) (some (.int v')) (hp X R TH N) := by
  subst e
  exact ⟨rfl, ⟨_, rfl⟩, X, R, TH, N, rfl, h⟩
theorem PresI.mb {X : hX} {R : hR} {TH : hT} {T Hn : Nat} (h : PresI X R TH T Hn) (hb : X 51 5 = 0) : MB X T Hn := ⟨hb, h.1.2.2.1, h.1.2.2.2.1, h.1.2.2.2.2.2.1, h.1.2.2.2.2.2.2.1⟩
theorem PresI.D {X : hX} {R : hR} {TH : hT} {T Hn : Nat} (h : PresI X R TH T Hn) : ∃ D, D ≤ 999 ∧ X 55 3 = nI D := h.2.2.1
section C40
variable {d : Nat} {X : hX} {R : hR} {TH : hT} {N T Hn : Nat} {ρ : Nat → Int32} {Q : Option Value → px_H → Prop}
theorem t129 {v : Int32} : wc d 129 [.ref 0, .int v] (hp X R TH N) Q ↔ Q (some (.int (-1000010 - v))) (hp (upA X 0 (upd (X 0) 8 v)) R TH N) := by
  simp only [S129, G0, px_op_some, px_op_none, tl_some, tl_none, ap_one, ap_nil, z01, o01, true_and, and_true, true_or, or_true, i10, i01, if_true, if_false, eq_self]
theorem t130 {v : Int32} : wc d 130 [.ref 0, .int v] (hp X R TH N) Q ↔ Q (some (.int v)) (hp (upA X 0 (upd (X 0) 8 0)) R TH N) := by
  simp only [S130, G0, px_op_some, px_op_none, tl_some, tl_none, ap_one, ap_nil, z01, o01, true_and, and_true, true_or, or_true, i10, i01, if_true, if_false, eq_self]
theorem g1 {j : Nat} (hj : j < 8) : px_rld (hp X R TH N) 1 (nI j) = some (va_rf (R 1 j)) := r_get (E := "AllSworn$Row") (n := 8) rfl hj (by decide)
theorem g14 {j : Nat} (hj : j < 2) : px_rld (hp X R TH N) 14 (nI j) = some (va_rf (R 14 j)) := r_get (E := "AllSworn$Realm") (n := 2) rfl hj (by decide)
theorem vrf (q : Nat) : va_rf (some q) = .ref q := rfl
theorem t131 {i : Nat} (hi : i < 8) (h : R 1 i = some (25 + 2 * i)) : wc d 131 [.ref 0, .int (nI i)] (hp X R TH N) Q ↔ Q (some (.ref (25 + 2 * i))) (hp X R TH N) := by
  have e0 : (nI i < 0) = False := eq_false (nI_pos (by omega))
  have e8 : ((8 : Int32) ≤ nI i) = False := i_nI_lt (T := 8) hi (by decide)
  simp only [S131, G0, e0, e8, g1 hi, h, vrf, px_op_some, px_op_none, tl_some, tl_none, ap_one, ap_nil, z01, o01, true_and, and_true, true_or, or_true, i10, i01, if_true, if_false, eq_self]
theorem not8 {x : Int32} (h : ¬ (0 ≤ x ∧ x ≤ 7)) : x < 0 ∨ (¬ x < 0 ∧ 8 ≤ x) := by
  rcases Int32.lt_or_le x 0 with z | z
  · exact Or.inl z
  · refine Or.inr ⟨by rw [Int32.not_lt]; exact z, ?_⟩
    rcases Int32.lt_or_le x 8 with y | y
    · obtain ⟨j, hj, rfl⟩ := i_of (n := 8) z y (by decide)
      exact absurd ⟨z, nI_le (b := 7) (by omega) (by decide)⟩ h
    · exact y
theorem t131n {x : Int32} (h : ¬ (0 ≤ x ∧ x ≤ 7)) : wc d 131 [.ref 0, .int x] (hp X R TH N) Q ↔ Q (some .null) (hp X R TH N) := by
  rcases not8 h with z | ⟨z, y⟩
  · simp only [S131, G0, z, px_op_some, px_op_none, tl_some, tl_none, ap_one, ap_nil, z01, o01, true_and, and_true, true_or, or_true, i10, i01, if_true, if_false, eq_self]
  · simp only [S131, G0, z, y, px_op_some, px_op_none, tl_some, tl_none, ap_one, ap_nil, z01, o01, true_and, and_true, true_or, or_true, i10, i01, if_true, if_false, eq_self]
theorem t132 {k : Nat} (hk : k < 2) (h : R 14 k = some (41 + 5 * k)) : wc d 132 [.ref 0, .int (nI k)] (hp X R TH N) Q ↔ Q (some (.ref (41 + 5 * k))) (hp X R TH N) := by
  have e0 : (nI k < 0) = False := eq_false (nI_pos (by omega))
  have e8 : ((2 : Int32) ≤ nI k) = False := i_nI_lt (T := 2) hk (by decide)
  simp only [S132, G0, e0, e8, g14 hk, h, vrf, px_op_some, px_op_none, tl_some, tl_none, ap_one, ap_nil, z01, o01, true_and, and_true, true_or, or_true, i10, i01, if_true, if_false, eq_self]
theorem t132n {x : Int32} (h : ¬ (0 ≤ x ∧ x ≤ 1)) : wc d 132 [.ref 0, .int x] (hp X R TH N) Q ↔ Q (some .null) (hp X R TH N) := by
  rcases Int32.lt_or_le x 0 with z | z
  · simp only [S132, G0, z, px_op_some, px_op_none, tl_some, tl_none, ap_one, ap_nil, z01, o01, true_and, and_true, true_or, or_true, i10, i01, if_true, if_false, eq_self]
  · have z' : (x < 0) = False := eq_false (by rw [Int32.not_lt]; exact z)
    have y : ((2 : Int32) ≤ x) = True := eq_true (by
      rcases Int32.lt_or_le x 2 with y | y
      · obtain ⟨j, hj, rfl⟩ := i_of (n := 2) z y (by decide)
        exact absurd ⟨z, nI_le (b := 1) (by omega) (by decide)⟩ h
      · exact y)
    simp only [S132, G0, z', y, px_op_some, px_op_none, tl_some, tl_none, ap_one, ap_nil, z01, o01, true_and, and_true, true_or, or_true, i10, i01, if_true, if_false, eq_self]
theorem rw25 {i : Nat} (hi : i < 8) : isRow (25 + 2 * i) := by
  unfold isRow
  omega
theorem l133 (h : RowsI X R) : ∀ (n i : Nat) (a : Int32), i + n = 8 → (wp (d + 1) 133 4 [some (.ref 0), some (.int a), some (.int (nI i))] [] (hp X R TH N) 0 Q ↔ Q (some (.int (fld (rowS (X 52)) n i a))) (hp X R TH N)) := by
  intro n
  induction n with
  | zero =>
    intro i a hi
    obtain rfl : i = 8 := by omega
    have e : ((8 : Int32) ≤ nI 8) = True := by decide
    rw [H133_4]
    simp only [S133, e, px_op_some, px_op_none, tl_some, tl_none, ap_one, ap_nil, z01, o01, true_and, and_true, true_or, or_true, i10, i01, if_true, if_false, eq_self, fld_0]
  | succ n ih =>
    intro i a hi
    have ih' := fun a => ih (i + 1) a (by omega)
    have e8 : ((8 : Int32) ≤ nI i) = False := i_nI_lt (T := 8) (by omega) (by decide)
    obtain ⟨h1, -, sz, hsz, -, h4⟩ := h i (by omega)
    rw [H133_4, fld_s]
    simp only [S133, G0, GRow (rw25 (show i < 8 by omega)), e8, g1 (show i < 8 by omega), h1, vrf, t67 (rw25 (show i < 8 by omega)), nI_1, ih', b2_0, rowS, px_op_some, px_op_none, tl_some, tl_none, ap_one, ap_nil, z01, o01, true_and, and_true, true_or, or_true, i10, i01, if_true, if_false, eq_self]
    rcases h4 with ⟨z1, z2⟩ | ⟨ln, hln, z1, -, z2⟩
    · simp only [z1, z2, not_true_eq_false, if_true, if_false]
      rw [i_add0]
    · have n1 : ¬ nI sz = -1 := fun z => by
        have := nI_pos' (show sz < 2 ^ 31 by omega)
        rw [z] at this
        exact absurd this (by decide)
      have n2 : ¬ nI (ln + 1) = 0 := by rw [nI_0i (by omega)]; omega
      simp only [z1, z2, n1, n2, not_false_eq_true, if_true, if_false]
theorem t133 (h : RowsI X R) : wc (d + 1) 133 [.ref 0] (hp X R TH N) Q ↔ Q (some (.int (fld (rowS (X 52)) 8 0 0))) (hp X R TH N) := by
  simp only [S133, px_op_some, px_op_none, tl_some, tl_none, ap_one, ap_nil, z01, o01, true_and, and_true, true_or, or_true, i10, i01, if_true, if_false, eq_self]
  exact l133 h 8 0 0 rfl
theorem t134 {day : Int32} : wc d 134 [.ref 0, .int day] (hp X R TH N) Q ↔ Q (some (.int (b2 (X 9 8 ≤ day ∧ day ≤ X 9 8 + 100)))) (hp X R TH N) := by
  simp only [S134, G0, GRealm r9, px_op_some, px_op_none, tl_some, tl_none, ap_one, ap_nil, z01, o01, true_and, and_true, true_or, or_true, i10, i01, if_true, if_false, eq_self]
  by_cases h1 : day < X 9 8
  · rw [b2_f (fun z => absurd z.1 (by rw [Int32.not_le]; exact h1))]
    simp only [h1, if_true]
  · by_cases h2 : X 9 8 + 100 < day
    · rw [b2_f (fun z => absurd z.2 (by rw [Int32.not_le]; exact h2))]
      simp only [h1, h2, if_true, if_false]
    · rw [b2_t ⟨Int32.not_lt.mp h1, Int32.not_lt.mp h2⟩]
      simp only [h1, h2, if_false]
theorem t135 {x : Int32} {w : px_H} : wc d 135 [.int x] w Q ↔ Q (some (.int (b2 (0 ≤ x ∧ x ≤ 1)))) w := by
  have e : (0 ≤ x ∧ x ≤ 1) ↔ (x = 0 ∨ x = 1) := by
    constructor
    · rintro ⟨z0, z1⟩
      obtain ⟨j, hj, rfl⟩ := i_ofle (n := 1) z0 z1 (by decide)
      rcases Nat.le_one_iff_eq_zero_or_eq_one.mp hj with rfl | rfl
      · exact Or.inl rfl
      · exact Or.inr rfl
    · rintro (rfl | rfl) <;> decide
  rw [b2_c e]
  simp only [S135, px_op_some, px_op_none, tl_some, tl_none, ap_one, ap_nil, z01, o01, true_and, and_true, true_or, or_true, i10, i01, if_true, if_false, eq_self]
  by_cases h0 : x = 0
  · rw [b2_t (Or.inl h0)]; simp only [h0, if_true]
  · by_cases h1 : x = 1
    · rw [b2_t (Or.inr h1)]; simp only [h0, h1, if_true, if_false]
      rw [if_neg (by decide)]
    · rw [b2_f (fun z => z.elim h0 h1)]; simp only [h0, h1, if_false]
theorem t136 {what : Int32} {w : px_H} {a : Option Nat} (ha : ∀ s, a = some s → s < 256) : wc (d + 1) 136 [.int (enc a), .int what] w Q ↔ Q (some (.int (setI a what))) w := by
  cases a with
  | none => simp only [S136, enc, setI, true_or, px_op_some, px_op_none, tl_some, tl_none, ap_one, ap_nil, z01, o01, true_and, and_true, true_or, or_true, i10, i01, if_true, if_false, eq_self]
  | some s =>
    have hs := ha s rfl
    have e1 : (nI s = -1000000) = False := i_nn (by omega)
    have e2 : enc (some s) = nI s := rfl
    simp only [S136, e2, e1, t222 hs, setI, px_op_some, px_op_none, tl_some, tl_none, ap_one, ap_nil, z01, o01, true_and, and_true, true_or, or_true, i10, i01, if_true, if_false, eq_self]
    by_cases h1 : what = 1
    · simp [h1]
    · simp [h1]
end C40
