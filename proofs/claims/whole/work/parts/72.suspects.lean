/-! the suspects: the class, the reference's hitBy -/
def suS (ρ : Nat → Int32) (T Hn D : Nat) (f : Nat → Int32) (k : Nat) (a : Int32) : Int32 := a &&& (if f k = 1 then openI ρ (rS ρ) (nI (D + k)) (ρ 0) T Hn else openI ρ (rS ρ) (nI (D + k)) (ρ 0) T Hn ^^^ -1)
def suI (ρ : Nat → Int32) (T Hn D : Nat) (f : Nat → Int32) (n : Nat) : Int32 := fld (suS ρ T Hn D f) n 0 (nI (2 ^ Hn - 1))
theorem suI_c {ρ : Nat → Int32} {T Hn D n : Nat} {f g : Nat → Int32} (h : ∀ k, k < n → f k = g k) : suI ρ T Hn D f n = suI ρ T Hn D g n := by
  unfold suI
  refine fld_c (fun q b _ h2 => ?_)
  unfold suS
  rw [h q (by omega)]
section C22
variable {d : Nat} {X : hX} {R : hR} {TH : hT} {N r s T Hn D i n sz : Nat} {ρ : Nat → Int32} {Q : Option Value → px_H → Prop}
theorem l23 (h : isRealm r) (hr : RR X R TH r ρ T Hn) (hov : ∀ day, OV ρ T day (ρ 0)) (hD : ρ 3 = nI D) (hs : isRow s) (hz : X s 2 = nI sz) (h40 : sz ≤ 40) (hi : i + n ≤ sz) : ∀ (m k : Nat) (a : Int32) (l7 : Option Value), k + m = n → (wp (d + 3) 23 13 [some (.ref 15), some (.ref r), some (.ref s), some (.int (nI i)), some (.int (nI n)), some (.int a), some (.int (nI k)), l7] [] (hp X R TH N) 0 Q ↔ Q (some (.int (fld (suS ρ T Hn D (fun k => X (s + 1) (i + k))) m k a))) (hp X R TH N)) := by
  have h8 : X r 8 = nI D := hr.2.2.2.2.2.2.2.1.trans hD
  intro m
  induction m with
  | zero =>
    intro k a l7 hk
    obtain rfl : k = n := by omega
    rw [H23_13]
    simp only [S23, i_nI_le, px_op_some, px_op_none, tl_some, tl_none, ap_one, ap_nil, z01, o01, true_and, and_true, true_or, or_true, i10, i01, if_true, if_false, eq_self, fld_0]
  | succ m ih =>
    intro k a l7 hk
    have ih' := fun a l7 => ih (k + 1) a l7 (by omega)
    have hlt : (nI n ≤ nI k) = False := i_nI_lt (by omega) (by omega)
    rw [H23_13, fld_s]
    simp only [S23, GRealm h, GRow hs, hlt, h8, nI_add, t59 h hr (hov _), t74 hs hz h40 (show i + k < sz by omega), b2_0, nI_1, ih', suS, px_op_some, px_op_none, tl_some, tl_none, ap_one, ap_nil, z01, o01, true_and, and_true, true_or, or_true, i10, i01, if_true, if_false, eq_self]
    by_cases h1 : X (s + 1) (i + k) = 1
    · simp only [h1, not_true_eq_false, if_true, if_false]
    · simp only [h1, not_false_eq_true, if_true, if_false]
theorem t23 (h : isRealm r) (hr : RR X R TH r ρ T Hn) (hov : ∀ day, OV ρ T day (ρ 0)) (hD : ρ 3 = nI D) (hs : isRow s) (hz : X s 2 = nI sz) (h40 : sz ≤ 40) (hi : i + n ≤ sz) : wc (d + 3) 23 [.ref 15, .ref r, .ref s, .int (nI i), .int (nI n)] (hp X R TH N) Q ↔ Q (some (.int (suI ρ T Hn D (fun k => X (s + 1) (i + k)) n))) (hp X R TH N) := by
  have h6 := hr.2.2.2.2.1
  have h8 := hr.2.2.2.2.2.2.1
  simp only [S23, GRealm h, h6, pow1 Hn (by omega), px_op_some, px_op_none, tl_some, tl_none, ap_one, ap_nil, z01, o01, true_and, and_true, true_or, or_true, i10, i01, if_true, if_false, eq_self]
  exact l23 h hr hov hD hs hz h40 hi n 0 _ _ (by omega)
/-- hitBy -/
theorem t198a {x i n : Int32} (h : MB X T Hn) (h0 : ¬ 0 < X 55 0) : wc (d + 6) 198 [.ref 51, .int x, .int i, .int n] (hp X R TH N) Q ↔ Q (some (.int (-1000002))) (hp X R TH N) := by
  simp only [S198, G51, t175 h.1, h0, b2_0, not_false_eq_true, px_op_some, px_op_none, tl_some, tl_none, ap_one, ap_nil, z01, o01, true_and, and_true, true_or, or_true, i10, i01, if_true, if_false, eq_self]
theorem t198b {x i n : Int32} (h : MB X T Hn) (h0 : 0 < X 55 0) (hx : ¬ ((0 ≤ x ∧ x ≤ 7) ∧ (1 ≤ n ∧ n ≤ 12))) : wc (d + 6) 198 [.ref 51, .int x, .int i, .int n] (hp X R TH N) Q ↔ Q (some (.int (-1000001))) (hp X R TH N) := by
  simp only [S198, G51, t175 h.1, t143, t140, h0, b2_0, not_true_eq_false, px_op_some, px_op_none, tl_some, tl_none, ap_one, ap_nil, z01, o01, true_and, and_true, true_or, or_true, i10, i01, if_true, if_false, eq_self]
  by_cases h1 : 0 ≤ x ∧ x ≤ 7
  · have h2 : ¬ (1 ≤ n ∧ n ≤ 12) := fun z => hx ⟨h1, z⟩
    simp only [h1, h2, and_self, not_true_eq_false, not_false_eq_true, if_true, if_false]
  · simp only [h1, not_false_eq_true, if_true]
theorem t198c {i n : Int32} (h : MB X T Hn) (h0 : 0 < X 55 0) (hr : r < 8) (hn : 1 ≤ n ∧ n ≤ 12) (hl : X 52 r = 0) : wc (d + 6) 198 [.ref 51, .int (nI r), .int i, .int n] (hp X R TH N) Q ↔ Q (some (.int (-1000011))) (hp (upA X 51 (upd (X 51) 3 1)) R TH N) := by
  have e1 : (-1000010 : Int32) - 1 = -1000011 := by decide
  simp only [S198, G51, t175 h.1, t143, t140, t141, h0, nI8 hr, hn, A52_g hr, hl, b2_0, and_self, not_true_eq_false, e1, px_op_some, px_op_none, tl_some, tl_none, ap_one, ap_nil, z01, o01, true_and, and_true, true_or, or_true, i10, i01, if_true, if_false, eq_self]
theorem t198d {i n : Int32} (h : MB X T Hn) (h0 : 0 < X 55 0) (hr : r < 8) (hn : 1 ≤ n ∧ n ≤ 12) (hl : ¬ X 52 r = 0) (hi : i < 0 ∨ X 53 r - n < i) : wc (d + 6) 198 [.ref 51, .int (nI r), .int i, .int n] (hp X R TH N) Q ↔ Q (some (.int (-1000012))) (hp (upA X 51 (upd (X 51) 3 2)) R TH N) := by
  have e1 : (-1000010 : Int32) - 2 = -1000012 := by decide
  simp only [S198, G51, t175 h.1, t143, t140, t141, h0, nI8 hr, hn, A52_g hr, A53_g hr, hl, b2_0, and_self, not_true_eq_false, e1, px_op_some, px_op_none, tl_some, tl_none, ap_one, ap_nil, z01, o01, true_and, and_true, true_or, or_true, i10, i01, if_true, if_false, eq_self]
  by_cases h1 : i < 0
  · simp only [h1, if_true]
  · have h2 : (i ≤ X 53 r - n) = False := eq_false (by rw [Int32.not_le]; exact hi.resolve_left h1)
    simp only [h1, h2, if_false]
theorem l198b {rr : Nat} (h : MB X T Hn) (hD : X 55 3 = nI D) (hr : rr < 8) (hi : i + n ≤ 40) : ∀ (m k : Nat) (a : Int32) (g : Nat → Int32) (l6 : Option Value), k + m = n → (∀ g, Q (some (.int (fld (suS (X 55) T Hn D (fun k => X 54 (40 * rr + i + k))) m k a))) (hp (upA (upA X 59 g) 51 (upd (X 51) 3 0)) R TH N)) → wp (d + 6) 198 121 [some (.ref 51), some (.int (nI rr)), some (.int (nI i)), some (.int (nI n)), some (.int a), some (.int (nI k)), l6] [] (hp (upA X 59 g) R TH N) 0 Q := by
  intro m
  induction m with
  | zero =>
    intro k a g l6 hk hQ
    obtain rfl : k = n := by omega
    rw [H198_121]
    simp only [S198, G51, i_nI_le, t142, px_op_some, px_op_none, tl_some, tl_none, ap_one, ap_nil, z01, o01, true_and, and_true, true_or, or_true, i10, i01, if_true, if_false, eq_self, upA_s, upA_n, upd_s, upd_n, ne_eq, Nat.reduceEqDiff, not_false_eq_true]
    exact hQ g
  | succ m ih =>
    intro k a g l6 hk hQ
    have ih' := ih (k + 1)
    have h' := h.up (q := 59) (f := g) (by decide) (by decide)
    have hlt : (nI n ≤ nI k) = False := i_nI_lt (by omega) (by omega)
    have e3 : (40 : Int32) * nI rr + nI i + nI k = nI (40 * rr + i + k) := by rw [show (40 : Int32) = nI 40 from rfl, pk_mul, nI_add, nI_add]
    have hg : ∀ g : Nat → Int32, px_ald (hp (upA X 59 g) R TH N) 54 (nI (40 * rr + i + k)) .int = some (X 54 (40 * rr + i + k)) := fun g => by
      rw [A54_g (by omega), upA_n (by decide)]
    rw [H198_121]
    simp only [S198, G51, hlt, gt3 h'.1, t171' h', e3, hg, hD, nI_add, nI_1, upA_upA, px_op_some, px_op_none, tl_some, tl_none, ap_one, ap_nil, z01, o01, true_and, and_true, true_or, or_true, i10, i01, if_true, if_false, eq_self, upA_s, upA_n, upd_s, upd_n, ne_eq, Nat.reduceEqDiff, not_false_eq_true]
    rw [fld_s] at hQ
    unfold suS at hQ
    by_cases h1 : X 54 (40 * rr + i + k) = 1
    · simp only [h1, if_true] at hQ ⊢
      exact ih' _ _ _ (by omega) hQ
    · simp only [h1, if_false] at hQ ⊢
      exact ih' _ _ _ (by omega) hQ
theorem l198a {rr : Nat} {K : Option Value → Prop} (hr : rr < 8) (hi : i + n ≤ 40) (hK : ∀ l4, K l4 → wp (d + 6) 198 107 [some (.ref 51), some (.int (nI rr)), some (.int (nI i)), some (.int (nI n)), l4, none, none] [] (hp X R TH N) 0 Q) : ∀ (m k : Nat), k + m = n → (if yn (fun k => X 54 (40 * rr + i + k)) m k = true then (∀ l4, K l4) else Q (some (.int (-1000001))) (hp X R TH N)) → wp (d + 6) 198 70 [some (.ref 51), some (.int (nI rr)), some (.int (nI i)), some (.int (nI n)), some (.int (nI k)), none, none] [] (hp X R TH N) 0 Q := by
  intro m
  induction m with
  | zero =>
    intro k hk hQ
    obtain rfl : k = n := by omega
    rw [show yn (fun k => X 54 (40 * rr + i + k)) 0 k = true from rfl, if_pos rfl] at hQ
    have hq := hK (some (.int (nI k))) (hQ _)
    rw [H198_70]
    simp only [S198, G51, i_nI_le, px_op_some, px_op_none, tl_some, tl_none, ap_one, ap_nil, z01, o01, true_and, and_true, true_or, or_true, i10, i01, if_true, if_false, eq_self] at hq ⊢
    exact hq
  | succ m ih =>
    intro k hk hQ
    have ih' := ih (k + 1) (by omega)
    have hlt : (nI n ≤ nI k) = False := i_nI_lt (by omega) (by omega)
    have e3 : (40 : Int32) * nI rr + nI i + nI k = nI (40 * rr + i + k) := by rw [show (40 : Int32) = nI 40 from rfl, pk_mul, nI_add, nI_add]
    have h01 : (0 ≤ X 54 (40 * rr + i + k) ∧ X 54 (40 * rr + i + k) ≤ 1) ↔ (X 54 (40 * rr + i + k) = 0 ∨ X 54 (40 * rr + i + k) = 1) := by
      constructor
      · rintro ⟨z0, z1⟩
        obtain ⟨j, hj, e⟩ := i_ofle (n := 1) z0 z1 (by decide)
        rw [e]
        rcases Nat.le_one_iff_eq_zero_or_eq_one.mp hj with rfl | rfl
        · exact Or.inl rfl
        · exact Or.inr rfl
      · rintro (e | e) <;> rw [e] <;> decide
    have ey : yn (fun k => X 54 (40 * rr + i + k)) (m + 1) k = if X 54 (40 * rr + i + k) = 0 ∨ X 54 (40 * rr + i + k) = 1 then yn (fun k => X 54 (40 * rr + i + k)) m (k + 1) else false := rfl
    rw [ey] at hQ
    rw [H198_70]
    by_cases hc : X 54 (40 * rr + i + k) = 0 ∨ X 54 (40 * rr + i + k) = 1
    · rw [if_pos hc] at hQ
      have hc' := h01.mpr hc
      simp only [S198, G51, hlt, e3, A54_g (show 40 * rr + i + k < 320 by omega), t140, b2_0, hc', and_self, not_true_eq_false, nI_1, px_op_some, px_op_none, tl_some, tl_none, ap_one, ap_nil, z01, o01, true_and, and_true, true_or, or_true, i10, i01, if_true, if_false, eq_self]
      exact ih' hQ
    · rw [if_neg hc, if_neg (by decide)] at hQ
      have hc' : ¬ (0 ≤ X 54 (40 * rr + i + k) ∧ X 54 (40 * rr + i + k) ≤ 1) := fun z => hc (h01.mp z)
      simp only [S198, G51, hlt, e3, A54_g (show 40 * rr + i + k < 320 by omega), t140, b2_0, hc', not_false_eq_true, px_op_some, px_op_none, tl_some, tl_none, ap_one, ap_nil, z01, o01, true_and, and_true, true_or, or_true, i10, i01, if_true, if_false, eq_self]
      exact hQ
theorem t198e {rr : Nat} (h : MB X T Hn) (h0 : 0 < X 55 0) (hD : X 55 3 = nI D) (hr : rr < 8) (hn : 1 ≤ n ∧ n ≤ 12) (hl : ¬ X 52 rr = 0) (hz : X 53 rr = nI sz) (h40 : sz ≤ 40) (hi : i + n ≤ sz) (hQ : if yn (fun k => X 54 (40 * rr + i + k)) n 0 = true then (∀ g, Q (some (.int (suI (X 55) T Hn D (fun k => X 54 (40 * rr + i + k)) n))) (hp (upA (upA X 59 g) 51 (upd (X 51) 3 0)) R TH N)) else Q (some (.int (-1000001))) (hp X R TH N)) : wc (d + 6) 198 [.ref 51, .int (nI rr), .int (nI i), .int (nI n)] (hp X R TH N) Q := by
  have hn' : (1 ≤ nI n ∧ nI n ≤ 12) = True := eq_true ⟨nI_le (a := 1) (by omega) (by omega), nI_le (b := 12) (by omega) (by decide)⟩
  have e0 : (nI i < 0) = False := eq_false (nI_pos (by omega))
  have e1 : (nI i ≤ nI sz - nI n) = True := eq_true (by rw [nI_sub (by omega)]; exact nI_le (by omega) (by omega))
  have hp1 := pow1 Hn (by have := h.2.2.2.2; omega)
  simp only [S198, G51, t175 h.1, t143, t140, h0, nI8 hr, hn', A52_g hr, A53_g hr, hl, hz, e0, e1, b2_0, and_self, not_true_eq_false, px_op_some, px_op_none, tl_some, tl_none, ap_one, ap_nil, z01, o01, true_and, and_true, true_or, or_true, i10, i01, if_true, if_false, eq_self]
  refine l198a (K := fun _ => ∀ g, Q (some (.int (suI (X 55) T Hn D (fun k => X 54 (40 * rr + i + k)) n))) (hp (upA (upA X 59 g) 51 (upd (X 51) 3 0)) R TH N)) hr (by omega) (fun l4 hk => ?_) n 0 (by omega) ?_
  · simp only [S198, G51, gt2 h.1, h.2.2.2.1, hp1, px_op_some, px_op_none, tl_some, tl_none, ap_one, ap_nil, z01, o01, true_and, and_true, true_or, or_true, i10, i01, if_true, if_false, eq_self]
    have := l198b (d := d) (Q := Q) (R := R) (TH := TH) (N := N) h hD hr (show i + n ≤ 40 by omega) n 0 (nI (2 ^ Hn - 1)) (X 59) none (by omega) hk
    rw [upA_id] at this
    exact this
  · by_cases hy : yn (fun k => X 54 (40 * rr + i + k)) n 0 = true
    · rw [if_pos hy] at hQ ⊢
      exact fun _ => hQ
    · rw [if_neg hy] at hQ ⊢
      exact hQ
end C22
