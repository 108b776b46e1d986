/-! rounds: the reference's rows -/
def dgN : Nat → Nat → List Nat
  | 0, _ => []
  | m + 1, c => dgN m (c / 8) ++ [c % 8]
theorem dgN_l : ∀ m c, (dgN m c).length = m := by
  intro m
  induction m with
  | zero => intro c; rfl
  | succ m ih => intro c; show (dgN m (c / 8) ++ [c % 8]).length = _; rw [List.length_append, ih]; rfl
theorem dgN_8 : ∀ m c, ∀ x ∈ dgN m c, x < 8 := by
  intro m
  induction m with
  | zero => intro c x hx; exact absurd hx List.not_mem_nil
  | succ m ih =>
    intro c x hx
    rcases List.mem_append.mp hx with z | z
    · exact ih _ x z
    · rw [List.mem_singleton] at z; omega
theorem dgN_c : ∀ m c, c < 8 ^ m → codN (dgN m c) = c := by
  intro m
  induction m with
  | zero => intro c hc; have : c = 0 := by simpa using hc
            subst this; rfl
  | succ m ih =>
    intro c hc
    show codN (dgN m (c / 8) ++ [c % 8]) = c
    rw [codN_a, ih _ (by rw [Nat.pow_succ] at hc; omega)]
    omega
theorem codN_lt (w : List Nat) (h : ∀ x ∈ w, x < 8) : codN w < 8 ^ w.length := by
  induction w using snoc_ind with
  | h0 => decide
  | h1 w t ih =>
    have ih := ih (fun x hx => h x (List.mem_append_left _ hx))
    have ht := h t (List.mem_append_right _ (List.mem_singleton.mpr rfl))
    rw [codN_a, List.length_append, show w.length + [t].length = w.length + 1 from rfl, Nat.pow_succ]
    omega
theorem dgN_cod (w : List Nat) (h : ∀ x ∈ w, x < 8) : dgN w.length (codN w) = w := cod_inj _ _ (dgN_l _ _) (dgN_8 _ _) h (dgN_c _ _ (codN_lt w h))
/-- a row that may be gone, from its end -/
def okB (T : Nat) : List Nat → Bool
  | [] => true
  | x :: s => okB T s && (decide (x < T) && !(s.elem x))
theorem okB_e (T : Nat) : ∀ s : List Nat, okB T s = true ↔ (s.Nodup ∧ ∀ x ∈ s, x < T) := by
  intro s
  induction s with
  | nil => exact ⟨fun _ => ⟨List.nodup_nil, fun x hx => absurd hx List.not_mem_nil⟩, fun _ => rfl⟩
  | cons x s ih =>
    show (okB T s && (decide (x < T) && !(s.elem x))) = true ↔ _
    rw [Bool.and_eq_true, Bool.and_eq_true, ih, decide_eq_true_eq, Bool.not_eq_true', List.nodup_cons]
    have he : s.elem x = false ↔ ¬ x ∈ s := by
      rw [← List.elem_iff]
      cases s.elem x <;> simp
    rw [he]
    constructor
    · rintro ⟨⟨h1, h2⟩, h3, h4⟩
      refine ⟨⟨h4, h1⟩, fun y hy => ?_⟩
      rcases List.mem_cons.mp hy with rfl | z
      · exact h3
      · exact h2 y z
    · rintro ⟨⟨h4, h1⟩, h2⟩
      exact ⟨⟨h1, fun y hy => h2 y (List.mem_cons_of_mem _ hy)⟩, h2 x (List.mem_cons_self ..), h4⟩
theorem getD_c {x : Nat} {s : List Nat} {j : Nat} : (x :: s).getD j 0 = if j = 0 then x else s.getD (j - 1) 0 := by
  cases j with
  | zero => rfl
  | succ j => rw [if_neg (by omega)]; rfl
section M20
variable {d : Nat} {X : hX} {R : hR} {TH : hT} {N T Hn D many : Nat} {Q : Option Value → px_H → Prop}
theorem l189a {code : Option Value} (h : MB X T Hn) (h4 : many ≤ 4) : ∀ (kk c : Nat) (s : List Nat) (g : Nat) (f : Nat → Int32), kk + s.length = many → c < 4096 → g < 256 → (∀ x ∈ s, x < 8) → (∀ i, i < 8 → (g.testBit i = true ↔ i ∈ s)) → (∀ j, j < s.length → f (kk + j) = nI (s.getD j 0)) →
    (∀ f' lv lg, (∀ j, j < many → f' j = nI ((dgN kk c ++ s).getD j 0)) → wp (d + 5) 189 95 [some (.ref 51), code, some (.int (nI many)), some (.int lv), some (.int lg), some (.int (b2 (okB T (dgN kk c ++ s) = true))), some (.int (-1))] [] (hp (upA X 60 f') R TH N) 0 Q) →
    wp (d + 5) 189 13 [some (.ref 51), code, some (.int (nI many)), some (.int (nI c)), some (.int (nI g)), some (.int (b2 (okB T s = true))), some (.int (nI kk - 1))] [] (hp (upA X 60 f) R TH N) 0 Q := by
  intro kk
  induction kk with
  | zero =>
    intro c s g f hk hc hg hs8 hb hf hQ
    have e : nI 0 - 1 = -1 := by decide
    have e1 : ((-1 : Int32) < 0) = True := by decide
    have hq := hQ f (nI c) (nI g) (fun j hj => by
      have := hf j (by omega)
      rw [Nat.zero_add] at this
      exact this)
    rw [show dgN 0 c ++ s = s from rfl] at hq
    rw [H189_13, e]
    simp only [S189, G51, e1, px_op_some, px_op_none, tl_some, tl_none, ap_one, ap_nil, z01, o01, true_and, and_true, true_or, or_true, i10, i01, if_true, if_false, eq_self] at hq ⊢
    exact hq
  | succ k ih =>
    intro c s g f hk hc hg hs8 hb hf hQ
    have h' : ∀ f, MB (upA X 60 f) T Hn := fun f => h.up (by decide) (by decide)
    have e : nI (k + 1) - 1 = nI k := nI_pred k
    have e1 : (nI k < 0) = False := eq_false (nI_pos (by omega))
    have e8 : ((8 : Int32) = 0) = False := by decide
    have ed : nI c / 8 = nI (c / 8) := pk_div (d := 8) (by omega) (by decide) (by decide)
    have er : nI c - nI (c / 8) * 8 = nI (c % 8) := by
      rw [← ed]
      exact pk_rem (d := 8) (by omega) (by decide) (by decide)
    have x8 : c % 8 < 8 := Nat.mod_lt _ (by decide)
    have em : nI k + -1 = nI k - 1 := (Int32.sub_eq_add_neg _ _).symm
    have hor := or_pow g hg (c % 8) x8
    have hT : (0 ≤ nI (c % 8) ∧ nI (c % 8) ≤ nI T - 1) ↔ c % 8 < T := by
      rw [inT h.2.2.1]
      constructor
      · rintro ⟨p, hp, ep⟩
        have h8 := h.2.2.1
        have := (nI_eq (show c % 8 < 2 ^ 31 by omega) (show p < 2 ^ 31 by omega)).mp ep
        omega
      · intro z; exact ⟨_, z, rfl⟩
    have hbt : nI g >>> (nI (c % 8) &&& 31) &&& 1 = 1 ↔ c % 8 ∈ s := (bit_test g hg (c % 8) x8).trans (hb (c % 8) x8)
    have next := ih (c / 8) (c % 8 :: s) (g ||| 2 ^ (c % 8)) (upd f k (nI (c % 8))) (by rw [List.length_cons]; omega) (by omega) hor.2 (fun x hx => by
      rcases List.mem_cons.mp hx with rfl | z
      · exact x8
      · exact hs8 x z) (fun i hi => by
      rw [Nat.testBit_or, Nat.testBit_two_pow, Bool.or_eq_true, hb i hi, List.mem_cons, decide_eq_true_eq]
      constructor
      · rintro (z | z)
        · exact Or.inr z
        · exact Or.inl z.symm
      · rintro (z | z)
        · exact Or.inr z.symm
        · exact Or.inl z) (fun j hj => by
      rw [getD_c]
      by_cases hj0 : j = 0
      · subst hj0; rw [if_pos rfl, Nat.add_zero, upd_s]
      · rw [if_neg hj0, upd_n (by omega)]
        have := hf (j - 1) (by rw [List.length_cons] at hj; omega)
        rw [← this]
        congr 1
        omega) (by
      rw [show dgN (k + 1) c ++ s = dgN k (c / 8) ++ (c % 8 :: s) from app1 _ _ _] at hQ
      exact hQ)
    rw [H189_13, e]
    have eok : okB T (c % 8 :: s) = (okB T s && (decide (c % 8 < T) && !(s.elem (c % 8)))) := rfl
    by_cases c1 : okB T s = true
    · by_cases c2 : c % 8 < T
      · by_cases c3 : c % 8 ∈ s
        · have hv : b2 (okB T (c % 8 :: s) = true) = 0 := b2_f (by rw [okB_e]; exact fun z => (List.nodup_cons.mp z.1).1 c3)
          rw [hv] at next
          have hb1 := hbt.mpr c3
          have c2' := hT.mpr c2
          simp only [S189, G51, e1, e8, er, ed, A60_p (show k < 4 by omega), A60_g (show k < 4 by omega), t152 (h' _).1, upA_n (show (55 : Nat) ≠ 60 by decide), h.2.1, c1, c2', hb1, b2_0, b2_t (p := (true = true)) rfl, and_self, not_true_eq_false, upA_upA, hor.1, em, upA_s, upd_s, px_op_some, px_op_none, tl_some, tl_none, ap_one, ap_nil, z01, o01, true_and, and_true, true_or, or_true, i10, i01, if_true, if_false, eq_self]
          exact next
        · have hv : b2 (okB T (c % 8 :: s) = true) = 1 := b2_t (by
            rw [okB_e]
            have := (okB_e T s).mp c1
            refine ⟨List.nodup_cons.mpr ⟨c3, this.1⟩, fun x hx => ?_⟩
            rcases List.mem_cons.mp hx with rfl | z
            · exact c2
            · exact this.2 x z)
          rw [hv] at next
          have hb0 : nI g >>> (nI (c % 8) &&& 31) &&& 1 = 0 := (and1 _).resolve_right (fun z => c3 (hbt.mp z))
          have c2' := hT.mpr c2
          simp only [S189, G51, e1, e8, er, ed, A60_p (show k < 4 by omega), A60_g (show k < 4 by omega), t152 (h' _).1, upA_n (show (55 : Nat) ≠ 60 by decide), h.2.1, c1, c2', hb0, b2_0, b2_t (p := (true = true)) rfl, and_self, not_true_eq_false, upA_upA, hor.1, em, upA_s, upd_s, px_op_some, px_op_none, tl_some, tl_none, ap_one, ap_nil, z01, o01, true_and, and_true, true_or, or_true, i10, i01, if_true, if_false, eq_self]
          exact next
      · have hv : b2 (okB T (c % 8 :: s) = true) = 0 := b2_f (by rw [okB_e]; exact fun z => c2 (z.2 _ (List.mem_cons_self ..)))
        rw [hv] at next
        have c2' : ¬ (0 ≤ nI (c % 8) ∧ nI (c % 8) ≤ nI T - 1) := fun z => c2 (hT.mp z)
        simp only [S189, G51, e1, e8, er, ed, A60_p (show k < 4 by omega), A60_g (show k < 4 by omega), t152 (h' _).1, upA_n (show (55 : Nat) ≠ 60 by decide), h.2.1, c1, c2', b2_0, b2_t (p := (true = true)) rfl, not_false_eq_true, upA_upA, hor.1, em, upA_s, upd_s, px_op_some, px_op_none, tl_some, tl_none, ap_one, ap_nil, z01, o01, true_and, and_true, true_or, or_true, i10, i01, if_true, if_false, eq_self]
        exact next
    · have hv : b2 (okB T (c % 8 :: s) = true) = 0 := b2_f (by rw [eok]; simp [c1])
      rw [hv] at next
      have hz : b2 (okB T s = true) = 0 := b2_f c1
      simp only [S189, G51, e1, e8, er, ed, A60_p (show k < 4 by omega), A60_g (show k < 4 by omega), hz, upA_upA, hor.1, em, upA_s, upd_s, px_op_some, px_op_none, tl_some, tl_none, ap_one, ap_nil, z01, o01, true_and, and_true, true_or, or_true, i10, i01, if_true, if_false, eq_self]
      exact next
end M20
