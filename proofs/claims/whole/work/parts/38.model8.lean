/-! the reference: harm, trace, acts -/
section M10
variable {d : Nat} {X : hX} {R : hR} {TH : hT} {N T Hn l p a : Nat} {w : px_H} {Q : Option Value → px_H → Prop}
/-- harm -/
theorem t182 {x what : Int32} (h : MB X T Hn) (hQ : ∀ f, Q (some (.int (if (0 ≤ x ∧ x ≤ nI Hn - 1) ∧ (0 ≤ what ∧ what ≤ 2) then (if what = 0 then rH (X 55) x.toNatClampNeg else if what = 2 then sumI (X 55) (rH (X 55) x.toNatClampNeg) T else 1 - (openI (X 55) (rS (X 55)) (X 55 3) (X 55 0) T Hn >>> (x &&& 31) &&& 1)) else -1000001))) (hp (upA X 59 f) R TH N)) : wc (d + 5) 182 [.ref 51, .int x, .int what] (hp X R TH N) Q := by
  simp only [S182, G51, t153 h.1, t140, h.2.2.2.1, px_op_some, px_op_none, tl_some, tl_none, ap_one, ap_nil, z01, o01, true_and, and_true, true_or, or_true, i10, i01, if_true, if_false, eq_self, b2_0]
  by_cases hx : 0 ≤ x ∧ x ≤ nI Hn - 1
  · obtain ⟨p, hp1, rfl⟩ := (inT h.2.2.2.2).mp hx
    have h8 : p < 8 := by have := h.2.2.2.2; omega
    by_cases hk : 0 ≤ what ∧ what ≤ 2
    · simp only [hx, hk, and_self, if_true, nI_clamp (show p < 2 ^ 31 by omega)] at hQ
      simp only [hx, hk, and_self, not_true_eq_false, if_false, S182, G51, gtH h.1 h8, gt3 h.1, t180 h, t171' h, px_op_some, px_op_none, tl_some, tl_none, ap_one, ap_nil, z01, o01, true_and, and_true, true_or, or_true, i10, i01, if_true, if_false, eq_self]
      by_cases h0 : what = 0
      · have := hQ (X 59)
        rw [upA_id] at this
        simp only [h0, if_true] at this ⊢
        exact this
      · by_cases h2 : what = 2
        · have := hQ (X 59)
          rw [upA_id] at this
          simp only [h0, h2, if_true, if_false] at this ⊢
          simpa using this
        · simp only [h0, h2, if_false] at hQ ⊢
          exact hQ _
    · have := hQ (X 59)
      rw [upA_id] at this
      simp only [hx, hk, and_self, and_false, not_true_eq_false, not_false_eq_true, if_true, if_false] at this ⊢
      exact this
  · have := hQ (X 59)
    rw [upA_id] at this
    simp only [hx, false_and, not_false_eq_true, if_true, if_false] at this ⊢
    exact this
/-- trace -/
theorem t220 {x : Int32} (hl : X 51 22 = nI l) (h16 : l ≤ 16) : wc (d + 1) 220 [.ref 51, .int x] (hp X R TH N) Q ↔ Q (some (.int (if 0 ≤ x ∧ x ≤ nI l - 1 then X 61 x.toNatClampNeg else -1000000))) (hp X R TH N) := by
  simp only [S220, G51, t140, hl, px_op_some, px_op_none, tl_some, tl_none, ap_one, ap_nil, z01, o01, true_and, and_true, true_or, or_true, i10, i01, if_true, if_false, eq_self, b2_0]
  by_cases hx : 0 ≤ x ∧ x ≤ nI l - 1
  · have h0 : 0 < l := by
      rcases Nat.eq_zero_or_pos l with rfl | h
      · have : nI 0 - 1 < 0 := by decide
        exact absurd (Int32.le_trans hx.1 hx.2) (by rw [Int32.not_le]; exact this)
      · exact h
    have hx2 := hx.2
    rw [nI_m1 h0] at hx2
    obtain ⟨p, hp1, rfl⟩ := i_ofle hx.1 hx2 (by omega)
    simp only [hx, and_self, not_true_eq_false, if_true, if_false, A61_g (show p < 16 by omega), px_op_some, px_op_none, tl_some, tl_none, ap_one, ap_nil, z01, o01, true_and, and_true, true_or, or_true, i10, i01, if_true, if_false, eq_self, nI_clamp (show p < 2 ^ 31 by omega), S220]
  · simp only [hx, not_false_eq_true, if_true, if_false]
/-- the acts, as one more is known: of 24 the first falls out -/
def shF (f : Nat → Int32) (n : Nat) : Nat → Int32 := fun j => if j < n then f (4 + j) else f j
theorem shF_0 (f : Nat → Int32) : shF f 0 = f := funext fun j => if_neg (Nat.not_lt_zero j)
theorem shF_s (f : Nat → Int32) (n : Nat) : upd (shF f n) n (shF f n (4 + n)) = shF f (n + 1) := by
  funext j
  have h4 : shF f n (4 + n) = f (4 + n) := if_neg (by omega)
  rw [h4]
  unfold upd shF
  by_cases h : j = n
  · subst h; simp
  · have : (j < n + 1) = (j < n) := propext (by omega)
    simp [h, this]
theorem l174 {x : Int32} {K : (Nat → Int32) → Prop} (hK : ∀ f, wp (d + 2) 174 37 [some (.ref 51), some (.int x), some (.int 92)] [] (hp (upA X 57 f) R TH N) 0 Q ↔ K f) (f : Nat → Int32) : ∀ (n k : Nat), k + n = 92 → (wp (d + 2) 174 11 [some (.ref 51), some (.int x), some (.int (nI k))] [] (hp (upA X 57 (shF f k)) R TH N) 0 Q ↔ K (shF f 92)) := by
  intro n
  induction n with
  | zero =>
    intro k hk
    obtain rfl : k = 92 := by omega
    rw [H174_11, ← hK]
    rw [show wp (d + 2) 174 12 [some (.ref 51), some (.int x), some (.int (nI 92))] [.int (nI 92)] (hp (upA X 57 (shF f 92)) R TH N) 0 Q ↔ if (92 : Int32) ≤ nI 92 then wp (d + 2) 174 37 [some (.ref 51), some (.int x), some (.int (nI 92))] [] (hp (upA X 57 (shF f 92)) R TH N) 0 Q else wp (d + 2) 174 17 [some (.ref 51), some (.int x), some (.int (nI 92))] [] (hp (upA X 57 (shF f 92)) R TH N) 0 Q by
      rw [(S174).2.2.2.2.2.2.2.1, (S174).2.2.2.2.2.2.2.2.1]]
    rw [if_pos (by decide)]
    rfl
  | succ n ih =>
    intro k hk
    have ih' := ih (k + 1) (by omega)
    have e4 : (4 : Int32) + nI k = nI (4 + k) := by rw [show (4 : Int32) = nI 4 from rfl, nI_add]
    rw [H174_11]
    have hlt : ((92 : Int32) ≤ nI k) = False := i_nI_lt (T := 92) (by omega) (by omega)
    simp only [S174, G51, px_op_some, px_op_none, tl_some, tl_none, ap_one, ap_nil, z01, o01, true_and, and_true, true_or, or_true, i10, i01, if_true, if_false, eq_self, hlt, e4, A57_g (show 4 + k < 96 by omega), A57_p (show k < 96 by omega), upA_s, upA_n, upd_s, upd_n, ne_eq, Nat.reduceEqDiff, not_false_eq_true, upA_upA, nI_1, shF_s, ih']
/-- one more act is known -/
def knA (X : hX) (a : Nat) : Nat → Int32 := if a = 24 then shF (X 57) 92 else X 57
def knN (a : Nat) : Nat := if a = 24 then 23 else a
def knF (X : hX) (a : Nat) (thing oath : Int32) : Nat → Int32 := upd (upd (upd (upd (knA X a) (4 * knN a) (X 55 3)) (4 * knN a + 1) (X 55 4)) (4 * knN a + 2) thing) (4 * knN a + 3) oath
def knX (X : hX) (a : Nat) (thing oath : Int32) : hX := upA (upA X 57 (knF X a thing oath)) 51 (upd (X 51) 8 (nI (knN a + 1)))
theorem upd_upd (f : Nat → Int32) (k : Nat) (x y : Int32) : upd (upd f k x) k y = upd f k y := by
  funext j
  unfold upd
  split <;> rfl
theorem k174 {x oath : Int32} {l2 : Option Value} (hb : X 51 5 = 0) (ha : X 51 8 = nI a) (h24 : a < 24) (ho : ∀ (X' : hX) Q, X' 55 = X 55 → X' 51 5 = 0 → ((x = -1000000 ∧ oath = 0) ∨ (¬ x = -1000000 ∧ (wc (d + 1) 154 [.ref 51, .int x, .int 3] (hp X' R TH N) Q ↔ Q (some (.int oath)) (hp X' R TH N))))) : wp (d + 2) 174 47 [some (.ref 51), some (.int x), l2] [] (hp X R TH N) 0 Q ↔ Q none (hp (upA (upA X 57 (upd (upd (upd (upd (X 57) (4 * a) (X 55 3)) (4 * a + 1) (X 55 4)) (4 * a + 2) x) (4 * a + 3) oath)) 51 (upd (X 51) 8 (nI (a + 1)))) R TH N) := by
  have e0 : (4 : Int32) * nI a = nI (4 * a) := by rw [show (4 : Int32) = nI 4 from rfl, pk_mul]
  have e2 : nI (4 * a) + 2 = nI (4 * a + 2) := by rw [show (2 : Int32) = nI 2 from rfl, nI_add]
  have e3 : nI (4 * a) + 3 = nI (4 * a + 3) := by rw [show (3 : Int32) = nI 3 from rfl, nI_add]
  have b1 : ∀ f, (upA X 57 f) 51 5 = 0 := fun f => by rw [upA_n (by decide)]; exact hb
  rcases ho (upA X 57 (upd (upd (upd (X 57) (4 * a) (X 55 3)) (4 * a + 1) (X 55 4)) (4 * a + 2) x)) (fun r w' => wp (d + 1 + 1) 174 123 [some (.ref 51), some (.int x), l2] (r.toList ++ [.int (nI (4 * a + 3)), .ref 57]) w' 0 Q) (upA_n (by decide)) (b1 _) with ⟨rfl, rfl⟩ | ⟨hx, hw⟩
  · simp only [S174, G51, gt3 hb, gt3 (b1 _), gt4 (b1 _), px_op_some, px_op_none, tl_some, tl_none, ap_one, ap_nil, z01, o01, true_and, and_true, true_or, or_true, i10, i01, if_true, if_false, eq_self, upA_s, upA_n, upd_s, upd_n, ne_eq, Nat.reduceEqDiff, not_false_eq_true, ha, e0, e2, e3, nI_1, A57_p (show 4 * a < 96 by omega), A57_p (show 4 * a + 1 < 96 by omega), A57_p (show 4 * a + 2 < 96 by omega), A57_p (show 4 * a + 3 < 96 by omega), upA_upA]
  · simp only [S174, G51, gt3 hb, gt3 (b1 _), gt4 (b1 _), px_op_some, px_op_none, tl_some, tl_none, ap_one, ap_nil, z01, o01, true_and, and_true, true_or, or_true, i10, i01, if_true, if_false, eq_self, upA_s, upA_n, upd_s, upd_n, ne_eq, Nat.reduceEqDiff, not_false_eq_true, ha, e0, e2, e3, nI_1, A57_p (show 4 * a < 96 by omega), A57_p (show 4 * a + 1 < 96 by omega), A57_p (show 4 * a + 2 < 96 by omega), A57_p (show 4 * a + 3 < 96 by omega), upA_upA, hx, hw]
theorem cm57 (X : hX) (f g f' : Nat → Int32) : upA (upA (upA X 57 f) 51 g) 57 f' = upA (upA X 57 f') 51 g := by rw [upA_comm (by decide), upA_upA]
theorem t174 {x oath : Int32} (hb : X 51 5 = 0) (ha : X 51 8 = nI a) (h24 : a ≤ 24) (ho : ∀ (X' : hX) Q, X' 55 = X 55 → X' 51 5 = 0 → ((x = -1000000 ∧ oath = 0) ∨ (¬ x = -1000000 ∧ (wc (d + 1) 154 [.ref 51, .int x, .int 3] (hp X' R TH N) Q ↔ Q (some (.int oath)) (hp X' R TH N))))) : wc (d + 2) 174 [.ref 51, .int x] (hp X R TH N) Q ↔ Q none (hp (knX X a x oath) R TH N) := by
  by_cases h : a = 24
  · subst h
    have e1 : (24 : Int32) - 1 = nI 23 := by decide
    have e0 : (4 : Int32) * nI 23 = nI 92 := by decide
    have e11 : nI 92 + 1 = nI 93 := by decide
    have e2 : nI 92 + 2 = nI 94 := by decide
    have e3 : nI 92 + 3 = nI 95 := by decide
    have e4 : nI 23 + 1 = nI 24 := by decide
    have b1 : ∀ f v, (upA (upA X 57 f) 51 (upd (X 51) 8 v)) 51 5 = 0 := fun f v => by rw [upA_s, upd_n (by decide)]; exact hb
    have ha' : X 51 8 = 24 := ha
    have hl := l174 (d := d) (X := X) (R := R) (TH := TH) (N := N) (Q := Q) (x := x) (K := fun f => Q none (hp (upA (upA X 57 (upd (upd (upd (upd f 92 (X 55 3)) 93 (X 55 4)) 94 x) 95 oath)) 51 (upd (X 51) 8 (nI 24))) R TH N)) (fun f => by
      rcases ho (upA (upA X 57 (upd (upd (upd f 92 (X 55 3)) 93 (X 55 4)) 94 x)) 51 (upd (X 51) 8 (nI 23))) (fun r w' => wp (d + 1 + 1) 174 123 [some (.ref 51), some (.int x), some (.int 92)] (r.toList ++ [.int (nI 95), .ref 57]) w' 0 Q) (by rw [upA_n (by decide), upA_n (by decide)]) (b1 _ _) with ⟨rfl, rfl⟩ | ⟨hx, hw⟩
      · simp only [S174, G51, gt3 (b1 _ _), gt4 (b1 _ _), px_op_some, px_op_none, tl_some, tl_none, ap_one, ap_nil, z01, o01, true_and, and_true, true_or, or_true, i10, i01, if_true, if_false, eq_self, upA_s, upA_n, upd_s, upd_n, ne_eq, Nat.reduceEqDiff, not_false_eq_true, ha', e1, e0, e11, e2, e3, e4, A57_p (show 92 < 96 by decide), A57_p (show 93 < 96 by decide), A57_p (show 94 < 96 by decide), A57_p (show 95 < 96 by decide), upA_upA, upd_upd, cm57]
      · simp only [S174, G51, gt3 (b1 _ _), gt4 (b1 _ _), px_op_some, px_op_none, tl_some, tl_none, ap_one, ap_nil, z01, o01, true_and, and_true, true_or, or_true, i10, i01, if_true, if_false, eq_self, upA_s, upA_n, upd_s, upd_n, ne_eq, Nat.reduceEqDiff, not_false_eq_true, ha', e1, e0, e11, e2, e3, e4, A57_p (show 92 < 96 by decide), A57_p (show 93 < 96 by decide), A57_p (show 94 < 96 by decide), A57_p (show 95 < 96 by decide), upA_upA, upd_upd, cm57, hx, hw]) (X 57) 92 0 rfl
    rw [shF_0, upA_id] at hl
    have hl' : wp (d + 2) 174 11 [some (.ref 51), some (.int x), some (.int 0)] [] (hp X R TH N) 0 Q ↔ _ := hl
    have hgo : wc (d + 2) 174 [.ref 51, .int x] (hp X R TH N) Q ↔ wp (d + 2) 174 11 [some (.ref 51), some (.int x), some (.int 0)] [] (hp X R TH N) 0 Q := by
      rw [(S174).1, (S174).2.1, (S174).2.2.1]
      simp only [G51, px_op_some, ha']
      rw [(S174).2.2.2.1, (S174).2.2.2.2.1, if_pos rfl, (S174).2.2.2.2.2.1, (S174).2.2.2.2.2.2.1]
    rw [hgo, hl']
    rfl
  · have h24' : a < 24 := by omega
    have hk := k174 (d := d) (R := R) (TH := TH) (N := N) (Q := Q) (l2 := none) (oath := oath) hb ha h24' ho
    have hgo : wc (d + 2) 174 [.ref 51, .int x] (hp X R TH N) Q ↔ wp (d + 2) 174 47 [some (.ref 51), some (.int x), none] [] (hp X R TH N) 0 Q := by
      rw [(S174).1, (S174).2.1, (S174).2.2.1]
      simp only [G51, px_op_some, ha]
      rw [(S174).2.2.2.1, (S174).2.2.2.2.1, if_neg (show ¬ nI a = 24 from fun e => h ((nI_eq (b := 24) (by omega) (by decide)).mp e))]
    rw [hgo, hk]
    unfold knX knF knA knN
    simp only [if_neg h]
theorem t174N (hb : X 51 5 = 0) (ha : X 51 8 = nI a) (h24 : a ≤ 24) : wc (d + 2) 174 [.ref 51, .int (-1000000)] (hp X R TH N) Q ↔ Q none (hp (knX X a (-1000000) 0) R TH N) := t174 hb ha h24 (fun _ _ _ _ => Or.inl ⟨rfl, rfl⟩)
theorem t174p (hb : X 51 5 = 0) (ha : X 51 8 = nI a) (h24 : a ≤ 24) (h8 : p < 8) : wc (d + 2) 174 [.ref 51, .int (nI p)] (hp X R TH N) Q ↔ Q none (hp (knX X a (nI p) (rS (X 55) p)) R TH N) :=
  t174 hb ha h24 (fun X' Q' h1 h2 => Or.inr ⟨by rw [i_nn (show p < 2 ^ 31 by omega)]; exact fun z => z, by rw [of3 h2 h8, h1]; rfl⟩)
theorem knX_55 {x o : Int32} : knX X a x o 55 = X 55 := by unfold knX; rw [upA_n (by decide), upA_n (by decide)]
theorem knX_5 {x o : Int32} (hb : X 51 5 = 0) : knX X a x o 51 5 = 0 := by unfold knX; rw [upA_s, upd_n (by decide)]; exact hb
/-- askFor -/
theorem t176 {x : Int32} (h : MB X T Hn) (ha : X 51 8 = nI a) (h24 : a ≤ 24) : wc (d + 3) 176 [.ref 51, .int x] (hp X R TH N) Q ↔ (if 0 ≤ x ∧ x ≤ nI T - 1 then (if 999 < thenI (X 55) x.toNatClampNeg then Q (some (.int (-1000003))) (hp X R TH N) else Q (some (.int (thenI (X 55) x.toNatClampNeg))) (hp (upA (knX X a x (rS (X 55) x.toNatClampNeg)) 55 (if rK (X 55) x.toNatClampNeg ≠ 3 ∨ 10 ≤ thenI (X 55) x.toNatClampNeg then upd (upd (X 55) 3 (thenI (X 55) x.toNatClampNeg)) (5 + 4 * x.toNatClampNeg + 3) (thenI (X 55) x.toNatClampNeg) else upd (X 55) 3 (thenI (X 55) x.toNatClampNeg))) R TH N)) else Q (some (.int (-1000001))) (hp X R TH N)) := by
  simp only [S176, G51, t152 h.1, h.2.1, px_op_some, px_op_none, tl_some, tl_none, ap_one, ap_nil, z01, o01, true_and, and_true, true_or, or_true, i10, i01, if_true, if_false, eq_self, b2_0]
  by_cases hx : 0 ≤ x ∧ x ≤ nI T - 1
  · obtain ⟨p, hp1, rfl⟩ := (inT h.2.2.1).mp hx
    have h8 : p < 8 := by have := h.2.2.1; omega
    have e1 : X 55 (5 + 4 * p) = rK (X 55) p := rfl
    have e3 : X 55 (5 + 4 * p + 1) = rF (X 55) p := rfl
    have e2 : X 55 3 + wayI (rK (X 55) p) (rF (X 55) p) = thenI (X 55) p := rfl
    have e5 : (5 : Int32) + 4 * nI p + 3 = nI (5 + 4 * p + 3) := by
      rw [show (5 : Int32) = nI 5 from rfl, show (4 : Int32) = nI 4 from rfl, show (3 : Int32) = nI 3 from rfl, pk_mul, nI_add, nI_add]
    have b1 : ∀ f, (upA (knX X a (nI p) (rS (X 55) p)) 55 f) 51 5 = 0 := fun f => by rw [upA_n (by decide)]; exact knX_5 h.1
    have ne3 : 5 + 4 * p ≠ 3 := by omega
    have pq := fun v Q => t150 (d := d + 2) (X := upA (knX X a (nI p) (rS (X 55) p)) 55 (upd (X 55) 3 (thenI (X 55) p))) (R := R) (TH := TH) (N := N) (Q := Q) (v := v) (k := 5 + 4 * p + 3) (x := 5 + 4 * nI p + 3) (b1 _) e5 (by omega)
    simp only [hx, and_self, not_true_eq_false, if_false, if_true, S176, G51, gt3 h.1, t172 h.1 h8, e1, e3, e2, t174p h.1 ha h24 h8, pu3 (knX_5 h.1), t173 (b1 _) h8, knX_55, upA_s, upd_n ne3, pq, upA_upA, px_op_some, px_op_none, tl_some, tl_none, ap_one, ap_nil, z01, o01, true_and, and_true, true_or, or_true, i10, i01, if_true, if_false, eq_self, b2_0, nI_clamp (show p < 2 ^ 31 by omega)]
    by_cases h9 : 999 < thenI (X 55) p
    · rw [if_neg (by rw [Int32.not_le]; exact h9), if_pos h9]
    · rw [if_pos (Int32.not_lt.mp h9), if_neg h9]
      by_cases hw : rK (X 55) p ≠ 3 ∨ 10 ≤ thenI (X 55) p
      · simp only [if_neg (fun z : ¬ _ => z hw), if_pos hw]
      · simp only [if_pos hw, if_neg hw]
  · simp only [hx, not_false_eq_true, if_false, if_true]
/-- waits -/
theorem t178 {n : Int32} (h : MB X T Hn) (ha : X 51 8 = nI a) (h24 : a ≤ 24) : wc (d + 3) 178 [.ref 51, .int n] (hp X R TH N) Q ↔ (if 0 < X 55 0 then (if 1 ≤ n ∧ n ≤ 60 then (if 999 < X 55 3 + n then Q (some (.int (-1000003))) (hp X R TH N) else Q (some (.int (X 55 3 + n))) (hp (upA (knX X a (-1000000) 0) 55 (upd (X 55) 3 (X 55 3 + n))) R TH N)) else Q (some (.int (-1000001))) (hp X R TH N)) else Q (some (.int (-1000002))) (hp X R TH N)) := by
  have b1 : ∀ f, (upA (knX X a (-1000000) 0) 55 f) 51 5 = 0 := fun f => by rw [upA_n (by decide)]; exact knX_5 h.1
  simp only [S178, G51, t175 h.1, t140, gt3 h.1, t174N h.1 ha h24, gt3 (knX_5 h.1), gt3 (b1 _), pu3 (knX_5 h.1), knX_55, px_op_some, px_op_none, tl_some, tl_none, ap_one, ap_nil, z01, o01, true_and, and_true, true_or, or_true, i10, i01, if_true, if_false, eq_self, b2_0, upA_s, upd_s]
  by_cases h0 : 0 < X 55 0
  · by_cases h1 : 1 ≤ n ∧ n ≤ 60
    · by_cases h9 : 999 < X 55 3 + n
      · have h9' : ¬ X 55 3 + n ≤ 999 := by rw [Int32.not_le]; exact h9
        simp only [h0, h1, h9, h9', and_self, not_true_eq_false, if_true, if_false]
      · have h9' : X 55 3 + n ≤ 999 := Int32.not_lt.mp h9
        simp only [h0, h1, h9, h9', and_self, not_true_eq_false, if_true, if_false]
    · simp only [h0, h1, not_true_eq_false, not_false_eq_true, if_true, if_false]
  · simp only [h0, not_false_eq_true, if_true, if_false]
/-- tries -/
theorem t177 {x : Int32} (h : MB X T Hn) (ha : X 51 8 = nI a) (h24 : a ≤ 24) : wc (d + 5) 177 [.ref 51, .int x] (hp X R TH N) Q ↔ (if 0 ≤ x ∧ x ≤ nI Hn - 1 then Q (some (.int (openI (X 55) (rS (X 55)) (X 55 3) (X 55 0) T Hn >>> (x &&& 31) &&& 1))) (hp (upA (knX (upA X 59 (cp (rS (X 55)) (X 59) T)) a (-1000000) 0) 55 (upd (X 55) 4 (X 55 4 + (openI (X 55) (rS (X 55)) (X 55 3) (X 55 0) T Hn >>> (x &&& 31) &&& 1)))) R TH N) else Q (some (.int (-1000001))) (hp X R TH N)) := by
  have h' := h.up (q := 59) (f := cp (rS (X 55)) (X 59) T) (by decide) (by decide)
  have ha' : (upA X 59 (cp (rS (X 55)) (X 59) T)) 51 8 = nI a := by rw [upA_n (by decide)]; exact ha
  simp only [S177, G51, t153 h.1, h.2.2.2.1, gt3 h.1, t171' h, t174N h'.1 ha' h24, gt4 (knX_5 h'.1), pu4 (knX_5 h'.1), knX_55, px_op_some, px_op_none, tl_some, tl_none, ap_one, ap_nil, z01, o01, true_and, and_true, true_or, or_true, i10, i01, if_true, if_false, eq_self, upA_s, upA_n, upd_s, upd_n, ne_eq, Nat.reduceEqDiff, not_false_eq_true, b2_0]
  by_cases hx : 0 ≤ x ∧ x ≤ nI Hn - 1
  · simp only [hx, and_self, not_true_eq_false, if_true, if_false]
  · simp only [hx, not_false_eq_true, if_true, if_false]
end M10
