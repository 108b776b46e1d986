/-! rounds: the reference's answer -/
def rdD (ρ : Nat → Int32) : Option (List Nat) → Int32
  | none => -1000000
  | some u => nI (dyN ρ u)
def rdF : Option (List Nat) → Int32
  | none => -1000000
  | some u => nI (codN u)
def rdM : Option (List Nat) → Int32
  | none => 0
  | some u => nI u.length
/-- the rows before (many, code) are looked at -/
def SBd (ρ : Nat → Int32) (T Hn many code : Nat) (r : Option (List Nat)) : Prop :=
  (∀ u, r = some u → VS ρ T Hn u ∧ (u.length < many ∨ (u.length = many ∧ codN u < code))) ∧
  ∀ v, VS ρ T Hn v → (v.length < many ∨ (v.length = many ∧ codN v < code)) → ∃ u, r = some u ∧ Gd ρ u v
section M22
variable {d : Nat} {X : hX} {R : hR} {TH : hT} {N T Hn B D : Nat} {ρ : Nat → Int32} {Q : Option Value → px_H → Prop}
theorem SBd.keep {many code : Nat} {r : Option (List Nat)} (h8 : T ≤ 8) (h : SBd ρ T Hn many code r) (hc : code < 8 ^ many) (hk : VS ρ T Hn (dgN many code) → ∃ u, r = some u ∧ dyN ρ u ≤ dyN ρ (dgN many code)) : SBd ρ T Hn many (code + 1) r := by
  refine ⟨fun u hu => ⟨(h.1 u hu).1, by have := (h.1 u hu).2; omega⟩, fun v hv hl => ?_⟩
  by_cases hl' : v.length < many ∨ (v.length = many ∧ codN v < code)
  · exact h.2 v hv hl'
  · have e1 : v.length = many := by omega
    have e2 : codN v = code := by omega
    have ev : dgN many code = v := by
      rw [← e1, ← e2]
      exact dgN_cod v (fun x hx => Nat.lt_of_lt_of_le (hv.1.2.2 x hx) h8)
    rw [ev] at hk
    obtain ⟨u, hu, hd⟩ := hk hv
    refine ⟨u, hu, ?_⟩
    have := (h.1 u hu).2
    unfold Gd
    omega
theorem SBd.take {many code : Nat} {r : Option (List Nat)} (h8 : T ≤ 8) (h : SBd ρ T Hn many code r) (hc : code < 8 ^ many) (hv : VS ρ T Hn (dgN many code)) (hk : ∀ u, r = some u → dyN ρ (dgN many code) < dyN ρ u) : SBd ρ T Hn many (code + 1) (some (dgN many code)) := by
  refine ⟨fun u hu => ?_, fun v hv' hl => ⟨_, rfl, ?_⟩⟩
  · cases hu
    refine ⟨hv, Or.inr ⟨dgN_l _ _, ?_⟩⟩
    rw [dgN_c _ _ hc]
    omega
  · by_cases hl' : v.length < many ∨ (v.length = many ∧ codN v < code)
    · obtain ⟨u, hu, g⟩ := h.2 v hv' hl'
      have := hk u hu
      exact Gd.tr (Or.inl this) g
    · have e1 : v.length = many := by omega
      have e2 : codN v = code := by omega
      have ev : dgN many code = v := by
        rw [← e1, ← e2]
        exact dgN_cod v (fun x hx => Nat.lt_of_lt_of_le (hv'.1.2.2 x hx) h8)
      rw [ev]
      exact Gd.rf v
theorem SBd.next {many : Nat} {r : Option (List Nat)} (h8 : T ≤ 8) (h : SBd ρ T Hn many (8 ^ many) r) : SBd ρ T Hn (many + 1) 0 r := by
  refine ⟨fun u hu => ⟨(h.1 u hu).1, by have := (h.1 u hu).2; omega⟩, fun v hv hl => h.2 v hv ?_⟩
  have := codN_lt v (fun x hx => Nat.lt_of_lt_of_le (hv.1.2.2 x hx) h8)
  by_cases e : v.length = many
  · rw [e] at this; exact Or.inr ⟨e, this⟩
  · omega
theorem SBd.all {r : Option (List Nat)} (h : SBd ρ T Hn 5 0 r) : Bst ρ T Hn r := ⟨fun u hu => (h.1 u hu).1, fun v hv => h.2 v hv (by have := hv.1.1; omega)⟩
/-- a figure of a code -/
theorem cod_fig (u : List Nat) (h8 : ∀ x ∈ u, x < 8) : ∀ j, j < u.length → codN u / 8 ^ (u.length - 1 - j) % 8 = u.getD j 0 := by
  induction u using snoc_ind with
  | h0 => intro j hj; exact absurd hj (Nat.not_lt_zero j)
  | h1 u x ih =>
    intro j hj
    have hx := h8 x (List.mem_append_right _ (List.mem_singleton.mpr rfl))
    have el : (u ++ [x]).length = u.length + 1 := by rw [List.length_append]; rfl
    rw [el] at hj ⊢
    rw [codN_a, getD_a]
    by_cases e : j < u.length
    · rw [if_pos e, ← ih (fun y hy => h8 y (List.mem_append_left _ hy)) j e]
      rw [show u.length + 1 - 1 - j = (u.length - 1 - j) + 1 by omega, Nat.pow_succ, Nat.mul_comm _ 8, ← Nat.div_div_eq_div_mul]
      congr 2
      omega
    · have e2 : j = u.length := by omega
      rw [if_neg e, if_pos e2, e2, show u.length + 1 - 1 - u.length = 0 by omega, Nat.pow_zero, Nat.div_one]
      omega
theorem l190d {l2 l3 l5 : Option Value} {j ln : Nat} {l1 : Option Value} (hw : l1 = some (.int (nI j))) (hj : j < ln) (hl : ln ≤ 4) : ∀ (m v : Nat), v < 4096 → j + m < ln → (wp (d + 6) 190 141 [some (.ref 51), l1, l2, l3, some (.int (nI ln)), l5, some (.int (nI v)), some (.int (nI (j + m)))] [] (hp X R TH N) 0 Q ↔ Q (some (.int (nI (v / 8 ^ m % 8)))) (hp X R TH N)) := by
  subst hw
  intro m
  induction m with
  | zero =>
    intro v hv hm
    have e8 : ((8 : Int32) = 0) = False := by decide
    have e1 : (nI ln ≤ nI j) = False := i_nI_lt hj (by omega)
    have er : nI v - nI v / 8 * 8 = nI (v % 8) := pk_rem (d := 8) (by omega) (by decide) (by decide)
    rw [H190_141, Nat.pow_zero, Nat.div_one]
    simp only [S190, Nat.add_zero, i_nI_le, e1, e8, er, px_op_some, px_op_none, tl_some, tl_none, ap_one, ap_nil, z01, o01, true_and, and_true, true_or, or_true, i10, i01, if_true, if_false, eq_self]
  | succ m ih =>
    intro v hv hm
    have e8 : ((8 : Int32) = 0) = False := by decide
    have e1 : (nI (j + (m + 1)) ≤ nI j) = False := i_nI_lt (by omega) (by omega)
    have ed : nI v / 8 = nI (v / 8) := pk_div (d := 8) (by omega) (by decide) (by decide)
    have em : nI (j + (m + 1)) + -1 = nI (j + m) := by
      rw [show j + (m + 1) = (j + m) + 1 by omega, ← nI_1, Int32.add_assoc, show (1 : Int32) + -1 = 0 by decide, Int32.add_zero]
    rw [H190_141]
    simp only [S190, e1, e8, ed, em, ih (v / 8) (by omega) (by omega), px_op_some, px_op_none, tl_some, tl_none, ap_one, ap_nil, z01, o01, true_and, and_true, true_or, or_true, i10, i01, if_true, if_false, eq_self]
    rw [Nat.pow_succ, Nat.mul_comm _ 8, ← Nat.div_div_eq_div_mul]
/-- the rows of a length -/
theorem l190i {what : Int32} {many : Nat} (h : MB X T Hn) (hwf : WF (X 55) T Hn B) (hB : B ≤ 1000) (hD : X 55 3 = nI D) (hD9 : D ≤ 1000) (h4 : many ≤ 4)
    (hQ : ∀ X' r', RF X X' → SBd (X 55) T Hn (many + 1) 0 r' → wp (d + 6) 190 38 [some (.ref 51), some (.int what), some (.int (rdD (X 55) r')), some (.int (rdF r')), some (.int (rdM r')), some (.int (nI (8 ^ (many + 1)))), some (.int (nI (many + 1))), some (.int (nI (8 ^ many)))] [] (hp X' R TH N) 0 Q) :
    ∀ (n code : Nat) (r : Option (List Nat)) (X1 : hX), code + n = 8 ^ many → RF X X1 → SBd (X 55) T Hn many code r → wp (d + 6) 190 47 [some (.ref 51), some (.int what), some (.int (rdD (X 55) r)), some (.int (rdF r)), some (.int (rdM r)), some (.int (nI (8 ^ many))), some (.int (nI many)), some (.int (nI code))] [] (hp X1 R TH N) 0 Q := by
  have h8 := h.2.2.1
  have hp4 : 8 ^ many ≤ 4096 := Nat.pow_le_pow_right (n := 8) (by decide) h4
  intro n
  induction n with
  | zero =>
    intro code r X1 hc hf hs
    obtain rfl : code = 8 ^ many := by omega
    have em : nI (8 ^ many) * 8 = nI (8 ^ (many + 1)) := by rw [show (8 : Int32) = nI 8 from rfl, pk_mul, Nat.pow_succ]
    rw [H190_47]
    simp only [S190, i_nI_le, em, nI_1, px_op_some, px_op_none, tl_some, tl_none, ap_one, ap_nil, z01, o01, true_and, and_true, true_or, or_true, i10, i01, if_true, if_false, eq_self]
    exact hQ X1 r hf (hs.next h8)
  | succ n ih =>
    intro code r X1 hc hf hs
    have hlt : (nI (8 ^ many) ≤ nI code) = False := i_nI_lt (by omega) (by omega)
    have h1 := hf.mb h
    have e55 : X1 55 = X 55 := hf.1 55 (by decide) (by decide) (by decide)
    rw [H190_47]
    simp only [S190, G51, hlt, px_op_some, px_op_none, tl_some, tl_none, ap_one, ap_nil, z01, o01, true_and, and_true, true_or, or_true, i10, i01, if_true, if_false, eq_self]
    refine t189 h1 (by rw [e55]; exact hwf) hB (by rw [e55]; exact hD) hD9 h4 (by omega) (fun X2 f2 d2 => ?_)
    rw [e55] at d2 ⊢
    have hf2 := hf.tr f2
    by_cases hv : okB T (dgN many code) = true ∧ openI (X 55) (rS (stR (X 55) (dgN many code))) (stR (X 55) (dgN many code) 3) (X 55 0) T Hn = 0
    · have hok := (okB_e T _).mp hv.1
      have hvs : VS (X 55) T Hn (dgN many code) := ⟨⟨by rw [dgN_l]; exact h4, hok.1, hok.2⟩, hv.2⟩
      have hd2 := d2 hv.1
      have hdw := dy_b hwf (dgN many code) hok.2
      rw [dgN_l] at hdw
      have take := fun hk => ih (code + 1) (some (dgN many code)) X2 (by omega) hf2 (hs.take h8 (by omega) hvs hk)
      have keep := fun hk => ih (code + 1) r X2 (by omega) hf2 (hs.keep h8 (by omega) hk)
      rw [b2_t hv]
      rw [show rdD (X 55) (some (dgN many code)) = nI (dyN (X 55) (dgN many code)) from rfl, show rdF (some (dgN many code)) = nI (codN (dgN many code)) from rfl, show rdM (some (dgN many code)) = nI (dgN many code).length from rfl, dgN_c _ _ (show code < 8 ^ many by omega), dgN_l] at take
      cases r with
      | none =>
        simp only [S190, G51, rdF, hd2, nI_1, px_op_some, px_op_none, tl_some, tl_none, ap_one, ap_nil, z01, o01, true_and, and_true, true_or, or_true, i10, i01, if_true, if_false, eq_self]
        exact take (fun u hu => by cases hu)
      | some u =>
        obtain ⟨hvu, -⟩ := hs.1 u rfl
        have hdu := dy_b hwf u hvu.1.2.2
        have hlu := hvu.1.1
        have hcu := codN_lt u (fun x hx => Nat.lt_of_lt_of_le (hvu.1.2.2 x hx) h8)
        have hcu' : codN u < 4096 := Nat.lt_of_lt_of_le hcu (Nat.pow_le_pow_right (n := 8) (by decide) hlu)
        have c1 : (nI (codN u) = -1000000) = False := i_nn (by omega)
        have c2 : (nI (dyN (X 55) u) ≤ nI (dyN (X 55) (dgN many code))) = (dyN (X 55) u ≤ dyN (X 55) (dgN many code)) := propext (nI_leI (by omega) (by omega))
        by_cases hc2 : dyN (X 55) u ≤ dyN (X 55) (dgN many code)
        · have k := keep (fun _ => ⟨u, rfl, hc2⟩)
          simp only [rdD, rdF, rdM] at k
          simp only [S190, G51, rdF, rdD, rdM, hd2, c1, c2, hc2, nI_1, px_op_some, px_op_none, tl_some, tl_none, ap_one, ap_nil, z01, o01, true_and, and_true, true_or, or_true, i10, i01, if_true, if_false, eq_self]
          exact k
        · have k := take (fun u' hu' => by cases hu'; omega)
          simp only [S190, G51, rdF, rdD, rdM, hd2, c1, c2, hc2, nI_1, px_op_some, px_op_none, tl_some, tl_none, ap_one, ap_nil, z01, o01, true_and, and_true, true_or, or_true, i10, i01, if_true, if_false, eq_self]
          exact k
    · rw [b2_f hv]
      simp only [S190, nI_1, px_op_some, px_op_none, tl_some, tl_none, ap_one, ap_nil, z01, o01, true_and, and_true, true_or, or_true, i10, i01, if_true, if_false, eq_self]
      exact ih (code + 1) r X2 (by omega) hf2 (hs.keep h8 (by omega) (fun z => absurd ⟨(okB_e T _).mpr ⟨z.1.2.1, z.1.2.2⟩, z.2⟩ hv))
/-- the answer, once all rows are looked at -/
theorem l190o {what : Int32} (h : MB X T Hn) (hwf : WF (X 55) T Hn B) (hB : B ≤ 1000) (hD : X 55 3 = nI D) (hD9 : D ≤ 1000) (hw : what = -2 ∨ what = -1 ∨ ∃ j, j < 4 ∧ what = nI j)
    (hQ : ∀ X' r, RF X X' → Bst (X 55) T Hn r → Q (some (.int (rdI (X 55) what r))) (hp X' R TH N)) :
    ∀ (n many : Nat) (r : Option (List Nat)) (X1 : hX) (l7 : Option Value), many + n = 5 → RF X X1 → SBd (X 55) T Hn many 0 r → wp (d + 6) 190 38 [some (.ref 51), some (.int what), some (.int (rdD (X 55) r)), some (.int (rdF r)), some (.int (rdM r)), some (.int (nI (8 ^ many))), some (.int (nI many)), l7] [] (hp X1 R TH N) 0 Q := by
  have h8 := h.2.2.1
  intro n
  induction n with
  | zero =>
    intro many r X1 l7 hm hf hs
    obtain rfl : many = 5 := by omega
    have e : ((4 : Int32) < nI 5) = True := by decide
    have hq := hQ X1 r hf hs.all
    rw [H190_38]
    cases r with
    | none =>
      simp only [S190, e, rdF, rdD, px_op_some, px_op_none, tl_some, tl_none, ap_one, ap_nil, z01, o01, true_and, and_true, true_or, or_true, i10, i01, if_true, if_false, eq_self]
      exact hq
    | some u =>
      have hvu := (hs.1 u rfl).1
      have hlu := hvu.1.1
      have hu8 : ∀ x ∈ u, x < 8 := fun x hx => Nat.lt_of_lt_of_le (hvu.1.2.2 x hx) h8
      have hcu' : codN u < 4096 := Nat.lt_of_lt_of_le (codN_lt u hu8) (Nat.pow_le_pow_right (n := 8) (by decide) hlu)
      have c1 : (nI (codN u) = -1000000) = False := i_nn (by omega)
      have er : rdI (X 55) what (some u) = if what = -2 then nI (dyN (X 55) u) else if what = -1 then nI u.length else if what < nI u.length then nI (u.getD what.toNatClampNeg 0) else -1000000 := rfl
      rw [er] at hq
      rcases hw with rfl | rfl | ⟨j, hj, rfl⟩
      · simp only [S190, e, rdF, rdD, c1, px_op_some, px_op_none, tl_some, tl_none, ap_one, ap_nil, z01, o01, true_and, and_true, true_or, or_true, i10, i01, if_true, if_false, eq_self]
        exact hq
      · have n1 : ((-1 : Int32) = -2) = False := by decide
        simp only [S190, e, rdF, rdD, rdM, c1, n1, px_op_some, px_op_none, tl_some, tl_none, ap_one, ap_nil, z01, o01, true_and, and_true, true_or, or_true, i10, i01, if_true, if_false, eq_self]
        rw [if_neg (by decide), if_pos rfl] at hq
        exact hq
      · have hp0 := nI_pos' (show j < 2 ^ 31 by omega)
        have n1 : (nI j = -1) = False := eq_false (fun z => by rw [z] at hp0; exact absurd hp0 (by decide))
        have n2 : (nI j = -2) = False := eq_false (fun z => by rw [z] at hp0; exact absurd hp0 (by decide))
        simp only [n1, n2, if_false] at hq
        simp only [S190, e, rdF, rdD, rdM, c1, n1, n2, px_op_some, px_op_none, tl_some, tl_none, ap_one, ap_nil, z01, o01, true_and, and_true, true_or, or_true, i10, i01, if_true, if_false, eq_self]
        by_cases hjl : j < u.length
        · rw [if_pos (nI_lt hjl (by omega)), nI_clamp (by omega)] at hq
          have em : nI u.length - 1 = nI (j + (u.length - 1 - j)) := by rw [nI_m1 (by omega)]; congr 1; omega
          rw [em, l190d rfl hjl hlu (u.length - 1 - j) (codN u) hcu' (by omega), cod_fig u hu8 j hjl]
          exact hq
        · rw [if_neg (by rw [Int32.not_lt]; exact nI_le (by omega) (by omega))] at hq
          have c3 : (nI u.length - 1 ≤ nI j) = True := eq_true (by
            rcases Nat.eq_zero_or_pos u.length with z | z
            · rw [z]; exact Int32.le_trans (show nI 0 - 1 ≤ 0 by decide) hp0
            · rw [nI_m1 z]; exact nI_le (by omega) (by omega))
          have c4 : (nI u.length ≤ nI j) = True := eq_true (nI_le (by omega) (by omega))
          rw [H190_141]
          simp only [S190, c3, c4, px_op_some, px_op_none, tl_some, tl_none, ap_one, ap_nil, z01, o01, true_and, and_true, true_or, or_true, i10, i01, if_true, if_false, eq_self]
          exact hq
  | succ n ih =>
    intro many r X1 l7 hm hf hs
    have e : ((4 : Int32) < nI many) = False := eq_false (by rw [Int32.not_lt]; exact nI_le (b := 4) (by omega) (by decide))
    rw [H190_38]
    simp only [S190, e, px_op_some, px_op_none, tl_some, tl_none, ap_one, ap_nil, z01, o01, true_and, and_true, true_or, or_true, i10, i01, if_true, if_false, eq_self]
    exact l190i h hwf hB hD hD9 (by omega) (fun X' r' f' s' => ih (many + 1) r' X' _ (by omega) f' s') (8 ^ many) 0 r X1 (by omega) hf hs
/-- round -/
theorem t190a {what : Int32} (h : MB X T Hn) (h0 : ¬ 0 < X 55 0) : wc (d + 6) 190 [.ref 51, .int what] (hp X R TH N) Q ↔ Q (some (.int (-1000002))) (hp X R TH N) := by
  simp only [S190, G51, t175 h.1, h0, b2_0, not_false_eq_true, px_op_some, px_op_none, tl_some, tl_none, ap_one, ap_nil, z01, o01, true_and, and_true, true_or, or_true, i10, i01, if_true, if_false, eq_self]
theorem t190b {what : Int32} (h : MB X T Hn) (h0 : 0 < X 55 0) (hw : ¬ (-2 ≤ what ∧ what ≤ 3)) : wc (d + 6) 190 [.ref 51, .int what] (hp X R TH N) Q ↔ Q (some (.int (-1000001))) (hp X R TH N) := by
  simp only [S190, G51, t175 h.1, t140, h0, hw, b2_0, not_true_eq_false, not_false_eq_true, px_op_some, px_op_none, tl_some, tl_none, ap_one, ap_nil, z01, o01, true_and, and_true, true_or, or_true, i10, i01, if_true, if_false, eq_self]
theorem t190 {what : Int32} (h : MB X T Hn) (h0 : 0 < X 55 0) (hw : -2 ≤ what ∧ what ≤ 3) (hwf : WF (X 55) T Hn B) (hB : B ≤ 1000) (hD : X 55 3 = nI D) (hD9 : D ≤ 1000) (hw' : what = -2 ∨ what = -1 ∨ ∃ j, j < 4 ∧ what = nI j)
    (hQ : ∀ X' r, RF X X' → Bst (X 55) T Hn r → Q (some (.int (rdI (X 55) what r))) (hp X' R TH N)) : wc (d + 6) 190 [.ref 51, .int what] (hp X R TH N) Q := by
  have := l190o (d := d) (R := R) (TH := TH) (N := N) (Q := Q) h hwf hB hD hD9 hw' hQ 5 0 none X none rfl (RF.rf X) ⟨fun u hu => (by cases hu), fun v _ hl => by omega⟩
  simp only [S190, G51, t175 h.1, t140, h0, hw, b2_0, and_self, not_true_eq_false, px_op_some, px_op_none, tl_some, tl_none, ap_one, ap_nil, z01, o01, true_and, and_true, true_or, or_true, i10, i01, if_true, if_false, eq_self]
  exact this
end M22
