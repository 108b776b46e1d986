/-! small words; the reference's small methods -/
def b2 (p : Prop) [Decidable p] : Int32 := if p then 1 else 0
theorem b2_t {p : Prop} [Decidable p] (h : p) : b2 p = 1 := if_pos h
theorem b2_f {p : Prop} [Decidable p] (h : ¬ p) : b2 p = 0 := if_neg h
theorem b2_0 {p : Prop} [Decidable p] : (b2 p = 0) = ¬ p := by unfold b2; split <;> simp_all
theorem b2_1 {p : Prop} [Decidable p] : (b2 p = 1) = p := by unfold b2; split <;> simp_all
theorem b2_01 {p : Prop} [Decidable p] : (b2 p = 0 ∨ b2 p = 1) = True := by unfold b2; split <;> simp
theorem b2_c {p q : Prop} [Decidable p] [Decidable q] (h : p ↔ q) : b2 p = b2 q := by unfold b2; split <;> split <;> simp_all
theorem z01 : ((0 : Int32) = 0 ∨ (0 : Int32) = 1) = True := by decide
theorem o01 : ((1 : Int32) = 0 ∨ (1 : Int32) = 1) = True := by decide
theorem i10 : ((1 : Int32) = 0) = False := by decide
theorem i01 : ((0 : Int32) = 1) = False := by decide
/-- a loop's number, from place p on, n times -/
def fld {α : Type} (f : Nat → α → α) : Nat → Nat → α → α
  | 0, _, a => a
  | n + 1, p, a => fld f n (p + 1) (f p a)
theorem fld_0 {α : Type} (f : Nat → α → α) (p : Nat) (a : α) : fld f 0 p a = a := rfl
theorem fld_s {α : Type} (f : Nat → α → α) (n p : Nat) (a : α) : fld f (n + 1) p a = fld f n (p + 1) (f p a) := rfl
theorem fld_c {α : Type} {f g : Nat → α → α} : ∀ {n p : Nat} {a : α}, (∀ q b, p ≤ q → q < p + n → f q b = g q b) → fld f n p a = fld g n p a := by
  intro n
  induction n with
  | zero => intro p a _; rfl
  | succ n ih =>
    intro p a h
    rw [fld_s, fld_s, h p a (Nat.le_refl p) (by omega)]
    exact ih (fun q b h1 h2 => h q b (by omega) (by omega))
theorem nI_0i {p : Nat} (h : p < 2 ^ 31) : (nI p = 0) = (p = 0) := propext (nI_eq (b := 0) h (by decide))
theorem i_nI_lt {p T : Nat} (h : p < T) (hT : T < 2 ^ 31) : (nI T ≤ nI p) = False := eq_false (nI_ge h hT)
theorem i_nI_le {T : Nat} : (nI T ≤ nI T) = True := eq_true (Int32.le_refl _)
theorem i_nlt {a b : Int32} : (¬ a < b) = (b ≤ a) := by rw [Int32.not_lt]
theorem i_nle {a b : Int32} : (¬ a ≤ b) = (b < a) := by rw [Int32.not_le]
theorem nI_lit (n : Nat) : nI n = (OfNat.ofNat n : Int32) := rfl
/-- an Int32 between two written numbers -/
theorem i_of {x : Int32} {n : Nat} (h0 : 0 ≤ x) (h : x < nI n) (hn : n < 2 ^ 31) : ∃ j, j < n ∧ x = nI j := by
  obtain ⟨j, hj, rfl⟩ := nI_of (x := x) (by rw [Int32.not_lt]; exact h0)
  exact ⟨j, (nI_ltI hj hn).mp h, rfl⟩
theorem i_ofle {x : Int32} {n : Nat} (h0 : 0 ≤ x) (h : x ≤ nI n) (hn : n < 2 ^ 31) : ∃ j, j ≤ n ∧ x = nI j := by
  obtain ⟨j, hj, rfl⟩ := nI_of (x := x) (by rw [Int32.not_lt]; exact h0)
  exact ⟨j, (nI_leI hj hn).mp h, rfl⟩
section M1
variable {d : Nat} {X : hX} {R : hR} {TH : hT} {N : Nat} {w : px_H} {Q : Option Value → px_H → Prop}
theorem t140 {v lo hi : Int32} : wc d 140 [.int v, .int lo, .int hi] w Q ↔ Q (some (.int (b2 (lo ≤ v ∧ v ≤ hi)))) w := by
  simp only [S140, px_op_some, px_op_none, tl_some, tl_none, ap_one, ap_nil, z01, o01, true_and, and_true, true_or, or_true, i10, i01, if_true, if_false, eq_self]
  by_cases h1 : v < lo
  · rw [if_pos h1, b2_f (fun h => absurd h.1 (by rw [Int32.not_le]; exact h1))]
  · rw [if_neg h1]
    by_cases h2 : hi < v
    · rw [if_pos h2, b2_f (fun h => absurd h.2 (by rw [Int32.not_le]; exact h2))]
    · rw [if_neg h2, b2_t ⟨Int32.not_lt.mp h1, Int32.not_lt.mp h2⟩]
theorem t141 {v : Int32} : wc d 141 [.ref 51, .int v] (hp X R TH N) Q ↔ Q (some (.int (-1000010 - v))) (hp (upA X 51 (upd (X 51) 3 v)) R TH N) := by
  simp only [S141, G51, px_op_some, px_op_none, tl_some, tl_none, ap_one, ap_nil, z01, o01, true_and, and_true, true_or, or_true, i10, i01, if_true, if_false, eq_self]
theorem t142 {v : Int32} : wc d 142 [.ref 51, .int v] (hp X R TH N) Q ↔ Q (some (.int v)) (hp (upA X 51 (upd (X 51) 3 0)) R TH N) := by
  simp only [S142, G51, px_op_some, px_op_none, tl_some, tl_none, ap_one, ap_nil, z01, o01, true_and, and_true, true_or, or_true, i10, i01, if_true, if_false, eq_self]
theorem t143 {r : Int32} : wc (d + 1) 143 [.int r] w Q ↔ Q (some (.int (b2 (0 ≤ r ∧ r ≤ 7)))) w := by
  simp only [S143, t140, b2_01, px_op_some, px_op_none, tl_some, tl_none, ap_one, ap_nil, z01, o01, true_and, and_true, true_or, or_true, i10, i01, if_true, if_false, eq_self]
theorem t148 : wc d 148 [.ref 51] (hp X R TH N) Q ↔ Q (some (.int (X 51 3))) (hp X R TH N) := by
  simp only [S148, G51, px_op_some, px_op_none, tl_some, tl_none, ap_one, ap_nil, z01, o01, true_and, and_true, true_or, or_true, i10, i01, if_true, if_false, eq_self]
theorem t166 : wc d 166 [.ref 51] (hp X R TH N) Q ↔ Q (some (.int (X 51 17))) (hp X R TH N) := by
  simp only [S166, G51, px_op_some, px_op_none, tl_some, tl_none, ap_one, ap_nil, z01, o01, true_and, and_true, true_or, or_true, i10, i01, if_true, if_false, eq_self]
/-- get, with base b -/
theorem t149b {b k : Nat} {x : Int32} (hb : X 51 5 = nI b) (hx : x = nI k) (h : b + k < 180) : wc d 149 [.ref 51, .int x] (hp X R TH N) Q ↔ Q (some (.int (X 55 (b + k)))) (hp X R TH N) := by
  subst hx
  simp only [S149, G51, px_op_some, px_op_none, tl_some, tl_none, ap_one, ap_nil, z01, o01, true_and, and_true, true_or, or_true, i10, i01, if_true, if_false, eq_self, hb, nI_add, A55_g h]
theorem t149 {k : Nat} {x : Int32} (hb : X 51 5 = 0) (hx : x = nI k) (h : k < 180) : wc d 149 [.ref 51, .int x] (hp X R TH N) Q ↔ Q (some (.int (X 55 k))) (hp X R TH N) := by
  have := t149b (d := d) (R := R) (TH := TH) (N := N) (Q := Q) (b := 0) (k := k) (x := x) hb hx (by omega)
  rw [Nat.zero_add] at this
  exact this
theorem gt0 (hb : X 51 5 = 0) : wc d 149 [.ref 51, .int 0] (hp X R TH N) Q ↔ Q (some (.int (X 55 0))) (hp X R TH N) := t149 (x := 0) (k := 0) hb rfl (by decide)
theorem gt1 (hb : X 51 5 = 0) : wc d 149 [.ref 51, .int 1] (hp X R TH N) Q ↔ Q (some (.int (X 55 1))) (hp X R TH N) := t149 (x := 1) (k := 1) hb rfl (by decide)
theorem gt2 (hb : X 51 5 = 0) : wc d 149 [.ref 51, .int 2] (hp X R TH N) Q ↔ Q (some (.int (X 55 2))) (hp X R TH N) := t149 (x := 2) (k := 2) hb rfl (by decide)
theorem gt3 (hb : X 51 5 = 0) : wc d 149 [.ref 51, .int 3] (hp X R TH N) Q ↔ Q (some (.int (X 55 3))) (hp X R TH N) := t149 (x := 3) (k := 3) hb rfl (by decide)
theorem gt4 (hb : X 51 5 = 0) : wc d 149 [.ref 51, .int 4] (hp X R TH N) Q ↔ Q (some (.int (X 55 4))) (hp X R TH N) := t149 (x := 4) (k := 4) hb rfl (by decide)
theorem t150b {b k : Nat} {x v : Int32} (hb : X 51 5 = nI b) (hx : x = nI k) (h : b + k < 180) : wc d 150 [.ref 51, .int x, .int v] (hp X R TH N) Q ↔ Q none (hp (upA X 55 (upd (X 55) (b + k) v)) R TH N) := by
  subst hx
  simp only [S150, G51, px_op_some, px_op_none, tl_some, tl_none, ap_one, ap_nil, z01, o01, true_and, and_true, true_or, or_true, i10, i01, if_true, if_false, eq_self, hb, nI_add, A55_p h]
theorem t150 {k : Nat} {x v : Int32} (hb : X 51 5 = 0) (hx : x = nI k) (h : k < 180) : wc d 150 [.ref 51, .int x, .int v] (hp X R TH N) Q ↔ Q none (hp (upA X 55 (upd (X 55) k v)) R TH N) := by
  have := t150b (d := d) (R := R) (TH := TH) (N := N) (Q := Q) (b := 0) (k := k) (x := x) (v := v) hb hx (by omega)
  rw [Nat.zero_add] at this
  exact this
theorem pu0 {v : Int32} (hb : X 51 5 = 0) : wc d 150 [.ref 51, .int 0, .int v] (hp X R TH N) Q ↔ Q none (hp (upA X 55 (upd (X 55) 0 v)) R TH N) := t150 (x := 0) (k := 0) hb rfl (by decide)
theorem pu1 {v : Int32} (hb : X 51 5 = 0) : wc d 150 [.ref 51, .int 1, .int v] (hp X R TH N) Q ↔ Q none (hp (upA X 55 (upd (X 55) 1 v)) R TH N) := t150 (x := 1) (k := 1) hb rfl (by decide)
theorem pu2 {v : Int32} (hb : X 51 5 = 0) : wc d 150 [.ref 51, .int 2, .int v] (hp X R TH N) Q ↔ Q none (hp (upA X 55 (upd (X 55) 2 v)) R TH N) := t150 (x := 2) (k := 2) hb rfl (by decide)
theorem pu3 {v : Int32} (hb : X 51 5 = 0) : wc d 150 [.ref 51, .int 3, .int v] (hp X R TH N) Q ↔ Q none (hp (upA X 55 (upd (X 55) 3 v)) R TH N) := t150 (x := 3) (k := 3) hb rfl (by decide)
theorem pu4 {v : Int32} (hb : X 51 5 = 0) : wc d 150 [.ref 51, .int 4, .int v] (hp X R TH N) Q ↔ Q none (hp (upA X 55 (upd (X 55) 4 v)) R TH N) := t150 (x := 4) (k := 4) hb rfl (by decide)
theorem t152 {p : Int32} (hb : X 51 5 = 0) : wc (d + 1) 152 [.ref 51, .int p] (hp X R TH N) Q ↔ Q (some (.int (b2 (0 ≤ p ∧ p ≤ X 55 1 - 1)))) (hp X R TH N) := by
  simp only [S152, G51, px_op_some, px_op_none, tl_some, tl_none, ap_one, ap_nil, z01, o01, true_and, and_true, true_or, or_true, i10, i01, if_true, if_false, eq_self, gt1 hb, t140, b2_01]
theorem t153 {p : Int32} (hb : X 51 5 = 0) : wc (d + 1) 153 [.ref 51, .int p] (hp X R TH N) Q ↔ Q (some (.int (b2 (0 ≤ p ∧ p ≤ X 55 2 - 1)))) (hp X R TH N) := by
  simp only [S153, G51, px_op_some, px_op_none, tl_some, tl_none, ap_one, ap_nil, z01, o01, true_and, and_true, true_or, or_true, i10, i01, if_true, if_false, eq_self, gt2 hb, t140, b2_01]
theorem t154 {p k : Nat} {x y : Int32} (hb : X 51 5 = 0) (hx : x = nI p) (hy : y = nI k) (h : p < 8) (hk : k < 4) : wc (d + 1) 154 [.ref 51, .int x, .int y] (hp X R TH N) Q ↔ Q (some (.int (X 55 (5 + 4 * p + k)))) (hp X R TH N) := by
  subst hx
  subst hy
  simp only [S154, G51, px_op_some, px_op_none, tl_some, tl_none, ap_one, ap_nil, z01, o01, true_and, and_true, true_or, or_true, i10, i01, if_true, if_false, eq_self]
  rw [t149 (k := 5 + 4 * p + k) hb ?_ (by omega)]
  · simp only [S154, px_op_some, px_op_none, tl_some, tl_none, ap_one, ap_nil, z01, o01, true_and, and_true, true_or, or_true, i10, i01, if_true, if_false, eq_self]
  · show 5 + 4 * nI p + nI k = _
    rw [show (5 : Int32) = nI 5 from rfl, show (4 : Int32) = nI 4 from rfl, pk_mul, nI_add, nI_add]
theorem of0 {p : Nat} (hb : X 51 5 = 0) (h : p < 8) : wc (d + 1) 154 [.ref 51, .int (nI p), .int 0] (hp X R TH N) Q ↔ Q (some (.int (X 55 (5 + 4 * p)))) (hp X R TH N) := t154 (y := 0) (k := 0) hb rfl rfl h (by decide)
theorem of1 {p : Nat} (hb : X 51 5 = 0) (h : p < 8) : wc (d + 1) 154 [.ref 51, .int (nI p), .int 1] (hp X R TH N) Q ↔ Q (some (.int (X 55 (5 + 4 * p + 1)))) (hp X R TH N) := t154 (y := 1) (k := 1) hb rfl rfl h (by decide)
theorem of2 {p : Nat} (hb : X 51 5 = 0) (h : p < 8) : wc (d + 1) 154 [.ref 51, .int (nI p), .int 2] (hp X R TH N) Q ↔ Q (some (.int (X 55 (5 + 4 * p + 2)))) (hp X R TH N) := t154 (y := 2) (k := 2) hb rfl rfl h (by decide)
theorem of3 {p : Nat} (hb : X 51 5 = 0) (h : p < 8) : wc (d + 1) 154 [.ref 51, .int (nI p), .int 3] (hp X R TH N) Q ↔ Q (some (.int (X 55 (5 + 4 * p + 3)))) (hp X R TH N) := t154 (y := 3) (k := 3) hb rfl rfl h (by decide)
theorem t175 (hb : X 51 5 = 0) : wc (d + 1) 175 [.ref 51] (hp X R TH N) Q ↔ Q (some (.int (b2 (0 < X 55 0)))) (hp X R TH N) := by
  simp only [S175, G51, px_op_some, px_op_none, tl_some, tl_none, ap_one, ap_nil, z01, o01, true_and, and_true, true_or, or_true, i10, i01, if_true, if_false, eq_self, gt0 hb]
  by_cases h : 0 < X 55 0
  · rw [if_neg (by rw [Int32.not_le]; exact h), b2_t h]
  · rw [if_pos (Int32.not_lt.mp h), b2_f h]
end M1
section M2
variable {d : Nat} {X : hX} {R : hR} {TH : hT} {N : Nat} {w : px_H} {Q : Option Value → px_H → Prop}
/-- days of the way, as the reference has them -/
def wayI (k f : Int32) : Int32 := if (if 3 < k then 4 else 2) * f = 0 then 1 else (if 3 < k then 4 else 2) * f
theorem t172 {p : Nat} (hb : X 51 5 = 0) (h : p < 8) : wc (d + 2) 172 [.ref 51, .int (nI p)] (hp X R TH N) Q ↔ Q (some (.int (wayI (X 55 (5 + 4 * p)) (X 55 (5 + 4 * p + 1))))) (hp X R TH N) := by
  simp only [S172, G51, of0 hb h, of1 hb h, px_op_some, px_op_none, tl_some, tl_none, ap_one, ap_nil, z01, o01, true_and, and_true, true_or, or_true, i10, i01, if_true, if_false, eq_self]
  unfold wayI
  by_cases h1 : X 55 (5 + 4 * p) ≤ 3
  · have h2 : ¬ 3 < X 55 (5 + 4 * p) := by rw [Int32.not_lt]; exact h1
    simp only [if_pos h1, if_neg h2]
    split <;> rfl
  · have h2 : 3 < X 55 (5 + 4 * p) := by rw [← Int32.not_le]; exact h1
    simp only [if_neg h1, if_pos h2]
    split <;> rfl
theorem t173 {p : Nat} {day : Int32} (hb : X 51 5 = 0) (h : p < 8) : wc (d + 2) 173 [.ref 51, .int (nI p), .int day] (hp X R TH N) Q ↔ Q (some (.int (b2 (X 55 (5 + 4 * p) ≠ 3 ∨ 10 ≤ day)))) (hp X R TH N) := by
  simp only [S173, G51, of0 hb h, px_op_some, px_op_none, tl_some, tl_none, ap_one, ap_nil, z01, o01, true_and, and_true, true_or, or_true, i10, i01, if_true, if_false, eq_self]
  by_cases h1 : X 55 (5 + 4 * p) = 3
  · by_cases h2 : day < 10
    · rw [b2_f (by simp [h1, Int32.not_le, h2])]
      simp [h1, h2]
    · rw [b2_t (by simp [Int32.not_lt.mp h2])]
      simp [h1, h2]
  · rw [b2_t (Or.inl h1)]
    simp [h1]
theorem t183 {day : Int32} (hb : X 51 5 = 0) : wc (d + 1) 183 [.ref 51, .int day] (hp X R TH N) Q ↔ Q (some (.int (b2 (X 55 3 ≤ day ∧ day ≤ X 55 3 + 100)))) (hp X R TH N) := by
  simp only [S183, G51, gt3 hb, t140, b2_01, px_op_some, px_op_none, tl_some, tl_none, ap_one, ap_nil, z01, o01, true_and, and_true, true_or, or_true, i10, i01, if_true, if_false, eq_self]
theorem t204 {k o : Int32} : wc (d + 1) 204 [.int k, .int o] w Q ↔ Q (some (.int (b2 (o = 0 ∨ o = k ∨ (o = 1 ∧ 2 ≤ k ∧ k ≤ 3) ∨ (o = 4 ∧ k = 5))))) w := by
  simp only [S204, t140, b2_0, px_op_some, px_op_none, tl_some, tl_none, ap_one, ap_nil, z01, o01, true_and, and_true, true_or, or_true, i10, i01, if_true, if_false, eq_self]
  unfold b2
  by_cases h0 : o = 0
  · simp [h0]
  by_cases h1 : o = k
  · simp [h1]
  by_cases h2 : o = 1
  · subst h2
    by_cases h3 : 2 ≤ k ∧ k ≤ 3
    · simp [h1, h3]
    · simp [h1, h3]
  by_cases h3 : o = 4
  · subst h3
    by_cases h4 : k = 5
    · subst h4; simp
    · simp [h1, h4]
  · simp [h0, h1, h2, h3]
/-- kindOf -/
def kindI (c : Int32) : Int32 := if c = 112 then 1 else if c = 109 then 2 else if c = 121 then 3 else if c = 102 then 4 else if c = 108 then 5 else 0
theorem t162 {c : Int32} : wc d 162 [.int c] w Q ↔ Q (some (.int (kindI c))) w := by
  simp only [S162, px_op_some, px_op_none, tl_some, tl_none, ap_one, ap_nil, z01, o01, true_and, and_true, true_or, or_true, i10, i01, if_true, if_false, eq_self]
  unfold kindI
  split
  · rfl
  split
  · rfl
  split
  · rfl
  split
  · rfl
  split <;> rfl
/-- how many of the bits 0 to 7 -/
def manyS (s : Int32) (k : Nat) (a : Int32) : Int32 := a + (s >>> (nI k &&& 31) &&& 1)
def manyI (s : Int32) : Int32 := fld (manyS s) 8 0 0
theorem l186 {s : Int32} : ∀ (n k : Nat) (a : Int32), k + n = 8 → (wp d 186 4 [some (.int s), some (.int a), some (.int (nI k))] [] w 0 Q ↔ Q (some (.int (fld (manyS s) n k a))) w) := by
  intro n
  induction n with
  | zero =>
    intro k a hk
    obtain rfl : k = 8 := by omega
    rw [H186_4]
    simp only [S186, px_op_some, px_op_none, tl_some, tl_none, ap_one, ap_nil, z01, o01, true_and, and_true, true_or, or_true, i10, i01, if_true, if_false, eq_self]
    rw [if_pos (by decide)]
    rfl
  | succ n ih =>
    intro k a hk
    have ih' := fun a => ih (k + 1) a (by omega)
    rw [H186_4]
    simp only [S186, px_op_some, px_op_none, tl_some, tl_none, ap_one, ap_nil, z01, o01, true_and, and_true, true_or, or_true, i10, i01, if_true, if_false, eq_self, nI_1, ih']
    rw [if_neg (by rw [Int32.not_le]; exact nI_lt (a := k) (b := 8) (by omega) (by decide))]
    rfl
theorem t186 {s : Int32} : wc d 186 [.int s] w Q ↔ Q (some (.int (manyI s))) w := by
  simp only [S186, px_op_some, px_op_none, tl_some, tl_none, ap_one, ap_nil, z01, o01, true_and, and_true, true_or, or_true, i10, i01, if_true, if_false, eq_self]
  exact l186 8 0 0 rfl
end M2
