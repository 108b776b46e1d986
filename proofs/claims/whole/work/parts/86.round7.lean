/-! rounds: the reference goes round -/
def RF (X X' : hX) : Prop := (∀ c, c ≠ 51 → c ≠ 59 → c ≠ 60 → X' c = X c) ∧ ∀ j, j ≠ 20 → X' 51 j = X 51 j
theorem RF.rf (X : hX) : RF X X := ⟨fun _ _ _ _ => rfl, fun _ _ => rfl⟩
theorem RF.tr {X Y Z : hX} (h1 : RF X Y) (h2 : RF Y Z) : RF X Z := ⟨fun c a b e => (h2.1 c a b e).trans (h1.1 c a b e), fun j a => (h2.2 j a).trans (h1.2 j a)⟩
theorem RF.mb {X X' : hX} {T Hn : Nat} (h : RF X X') (m : MB X T Hn) : MB X' T Hn := by
  unfold MB
  rw [h.2 5 (by decide), h.1 55 (by decide) (by decide) (by decide)]
  exact m
theorem getD_m {pre rest : List Nat} {x : Nat} : (pre ++ x :: rest).getD pre.length 0 = x := by
  rw [List.getD_eq_getElem?_getD, List.getElem?_append_right (Nat.le_refl _), Nat.sub_self]
  rfl
section M21
variable {d : Nat} {X : hX} {R : hR} {TH : hT} {N T Hn B D : Nat} {Q : Option Value → px_H → Prop}
theorem l189b {code l3 l4 l5 : Option Value} (h : MB X T Hn) (hwf : WF (X 55) T Hn B) (hB : B ≤ 1000) (hD : X 55 3 = nI D) (hD9 : D ≤ 1000) {w : List Nat} (hw4 : w.length ≤ 4) (hwT : ∀ x ∈ w, x < T) : ∀ (rest pre : List Nat) (X1 : hX), pre ++ rest = w → RF X X1 → (∀ j, j < w.length → X1 60 j = nI (w.getD j 0)) → X1 51 20 = nI (dyN (X 55) pre) → (∀ p, p < T → X1 59 p = rS (stR (X 55) pre) p) →
    (∀ X', RF X X' → X' 51 20 = nI (dyN (X 55) w) → Q (some (.int (b2 (openI (X 55) (rS (stR (X 55) w)) (stR (X 55) w 3) (X 55 0) T Hn = 0)))) (hp X' R TH N)) →
    wp (d + 5) 189 114 [some (.ref 51), code, some (.int (nI w.length)), l3, l4, l5, some (.int (nI pre.length))] [] (hp X1 R TH N) 0 Q := by
  intro rest
  induction rest with
  | nil =>
    intro pre X1 hpre hf hrow hday ho hQ
    rw [List.append_nil] at hpre
    subst hpre
    have h1 := hf.mb h
    have e55 : X1 55 = X 55 := hf.1 55 (by decide) (by decide) (by decide)
    have e3 : X 55 3 + nI (dyN (X 55) pre) = stR (X 55) pre 3 := by rw [hD, nI_add, stR_3 hwf hD pre hwT]
    have eo : opnI (X 55) (bndI (X 55) (X1 59) (stR (X 55) pre 3) (X 55 0) T) Hn = openI (X 55) (rS (stR (X 55) pre)) (stR (X 55) pre 3) (X 55 0) T Hn := openI_c (o := X1 59) ho
    have hq := hQ X1 hf hday
    rw [H189_114]
    simp only [S189, G51, i_nI_le, gt3 h1.1, hday, e55, e3, t170 h1.1 h1.2.1 h1.2.2.1 h1.2.2.2.1 h1.2.2.2.2, eo, px_op_some, px_op_none, tl_some, tl_none, ap_one, ap_nil, z01, o01, true_and, and_true, true_or, or_true, i10, i01, if_true, if_false, eq_self]
    by_cases hz : openI (X 55) (rS (stR (X 55) pre)) (stR (X 55) pre 3) (X 55 0) T Hn = 0
    · rw [b2_t hz] at hq
      simp only [hz, if_true]
      exact hq
    · rw [b2_f hz] at hq
      simp only [hz, if_false]
      exact hq
  | cons x rest ih =>
    intro pre X1 hpre hf hrow hday ho hQ
    have h1 := hf.mb h
    have h8 := h.2.2.1
    have e55 : X1 55 = X 55 := hf.1 55 (by decide) (by decide) (by decide)
    have hk : pre.length < w.length := by rw [← hpre, List.length_append, List.length_cons]; omega
    have hx : x < T := hwT x (by rw [← hpre]; exact List.mem_append_right _ (List.mem_cons_self ..))
    have hpT : ∀ y ∈ pre, y < T := fun y hy => hwT y (by rw [← hpre]; exact List.mem_append_left _ hy)
    have hrx : X1 60 pre.length = nI x := by rw [hrow _ hk, ← hpre, getD_m]
    have hlt : (nI w.length ≤ nI pre.length) = False := i_nI_lt hk (by omega)
    have hpre' : (pre ++ [x]) ++ rest = w := by rw [app1]; exact hpre
    have hdp := dy_b hwf pre hpT
    obtain ⟨ew, -, -⟩ := wN_e hwf hx
    have ew' : nI (dyN (X 55) pre) + wayI (X 55 (5 + 4 * x)) (X 55 (5 + 4 * x + 1)) = nI (dyN (X 55) (pre ++ [x])) := by
      show nI (dyN (X 55) pre) + wayI (rK (X 55) x) (rF (X 55) x) = _
      rw [ew, nI_add, dyN_a]
    have hT1 : ∀ f, MB (upA X1 51 (upd (X1 51) 20 f)) T Hn := by
      intro f
      refine ⟨?_, ?_⟩
      · rw [upA_s, upd_n (by decide)]; exact h1.1
      · rw [upA_n (by decide)]; exact h1.2
    have eth : thenI (stR (X 55) pre) x = X 55 3 + nI (dyN (X 55) (pre ++ [x])) := by
      unfold thenI
      rw [stR_3 hwf hD pre hpT, stR_K, stR_F, ew, hD, nI_add, nI_add, dyN_a, Nat.add_assoc]
    have n51 : (55 : Nat) ≠ 51 := by decide
    have n60 : (60 : Nat) ≠ 51 := by decide
    have n59 : (59 : Nat) ≠ 51 := by decide
    rw [H189_114]
    simp only [S189, G51, hlt, hday, A60_g (show pre.length < 4 by omega), hrx, t172 h1.1 (show x < 8 by omega), e55, ew', gt3 (hT1 _).1, t173 (hT1 _).1 (show x < 8 by omega), upA_n n51, upA_n n60, upA_n n59, upA_s, upd_s, A59_p (show x < 8 by omega), b2_0, nI_1, px_op_some, px_op_none, tl_some, tl_none, ap_one, ap_nil, z01, o01, true_and, and_true, true_or, or_true, i10, i01, if_true, if_false, eq_self]
    have hrF : RF X (upA X1 51 (upd (X1 51) 20 (nI (dyN (X 55) (pre ++ [x]))))) := hf.tr ⟨fun c a _ _ => upA_n a, fun j a => by rw [upA_s, upd_n a]⟩
    have el : nI (pre.length + 1) = nI (pre ++ [x]).length := by rw [List.length_append]; rfl
    rw [el]
    by_cases hs : X 55 (5 + 4 * x) ≠ 3 ∨ 10 ≤ X 55 3 + nI (dyN (X 55) (pre ++ [x]))
    · have hs' : rK (X 55) x ≠ 3 ∨ 10 ≤ X 55 3 + nI (dyN (X 55) (pre ++ [x])) := hs
      rw [if_neg (fun z : ¬ _ => z hs)]
      refine ih (pre ++ [x]) _ hpre' (hrF.tr ⟨fun c a b _ => upA_n b, fun j _ => by rw [upA_n (by decide)]⟩) (fun j hj => ?_) ?_ (fun p hp => ?_) hQ
      · rw [upA_n (by decide), upA_n (by decide)]; exact hrow j hj
      · rw [upA_n (by decide), upA_s, upd_s]
      · rw [upA_s, stR_a, askR_S]
        unfold askO
        by_cases e : p = x
        · subst e
          rw [if_pos rfl, upd_s, stR_K, eth, if_pos hs']
        · rw [if_neg e, upd_n e]; exact ho p hp
    · have hs' : ¬ (rK (X 55) x ≠ 3 ∨ 10 ≤ X 55 3 + nI (dyN (X 55) (pre ++ [x]))) := hs
      rw [if_pos hs]
      refine ih (pre ++ [x]) _ hpre' hrF (fun j hj => ?_) ?_ (fun p hp => ?_) hQ
      · rw [upA_n (by decide)]; exact hrow j hj
      · rw [upA_s, upd_s]
      · rw [upA_n (by decide), stR_a, askR_S]
        unfold askO
        by_cases e : p = x
        · subst e
          rw [if_pos rfl, stR_K, eth, if_neg hs']; exact ho p hp
        · rw [if_neg e]; exact ho p hp
/-- goesRound -/
theorem t189 {many c : Nat} (h : MB X T Hn) (hwf : WF (X 55) T Hn B) (hB : B ≤ 1000) (hD : X 55 3 = nI D) (hD9 : D ≤ 1000) (h4 : many ≤ 4) (hc : c < 4096)
    (hQ : ∀ X', RF X X' → (okB T (dgN many c) = true → X' 51 20 = nI (dyN (X 55) (dgN many c))) → Q (some (.int (b2 (okB T (dgN many c) = true ∧ openI (X 55) (rS (stR (X 55) (dgN many c))) (stR (X 55) (dgN many c) 3) (X 55 0) T Hn = 0)))) (hp X' R TH N)) : wc (d + 5) 189 [.ref 51, .int (nI c), .int (nI many)] (hp X R TH N) Q := by
  have hl := l189a (d := d) (X := X) (R := R) (TH := TH) (N := N) (Q := Q) (code := some (.int (nI c))) h h4 many c [] 0 (X 60) (by simp) hc (by decide) (fun x hx => absurd hx List.not_mem_nil) (fun i _ => by simp) (fun j hj => absurd hj (Nat.not_lt_zero j)) (fun f' lv lg hf' => by
    rw [List.append_nil] at hf' ⊢
    have hb : (upA X 60 f') 51 5 = 0 := by rw [upA_n (by decide)]; exact h.1
    have fr : RF X (upA (upA X 60 f') 51 (upd (X 51) 20 0)) := ⟨fun c a _ e => by rw [upA_n a, upA_n e], fun j a => by rw [upA_s, upd_n a]⟩
    by_cases hok : okB T (dgN many c) = true
    · have hok' := (okB_e T _).mp hok
      have m1 : MB (upA (upA X 60 f') 51 (upd (X 51) 20 0)) T Hn := fr.mb h
      have e55 : (upA (upA X 60 f') 51 (upd (X 51) 20 0)) 55 = X 55 := by rw [upA_n (by decide), upA_n (by decide)]
      have e59 : (upA (upA X 60 f') 51 (upd (X 51) 20 0)) 59 = X 59 := by rw [upA_n (by decide), upA_n (by decide)]
      simp only [S189, G51, hok, b2_t (p := (true = true)) rfl, upA_n (show (51 : Nat) ≠ 60 by decide), t167 m1.1 m1.2.1 m1.2.2.1, e55, e59, px_op_some, px_op_none, tl_some, tl_none, ap_one, ap_nil, z01, o01, true_and, and_true, true_or, or_true, i10, i01, if_true, if_false, eq_self]
      have fr2 : RF X (upA (upA (upA X 60 f') 51 (upd (X 51) 20 0)) 59 (cp (rS (X 55)) (X 59) T)) := fr.tr ⟨fun c a b _ => upA_n b, fun j _ => by rw [upA_n (by decide)]⟩
      have := l189b (d := d) (X := X) (R := R) (TH := TH) (N := N) (Q := Q) (code := some (.int (nI c))) (l3 := some (.int lv)) (l4 := some (.int lg)) (l5 := some (.int 1)) h hwf hB hD hD9 (w := dgN many c) (by rw [dgN_l]; exact h4) hok'.2 (dgN many c) [] _ rfl fr2 (fun j hj => by
        rw [dgN_l] at hj
        rw [upA_n (by decide), upA_n (by decide), upA_s]
        exact hf' j hj) (by rw [upA_n (by decide), upA_s, upd_s]; rfl) (fun p hp => by rw [upA_s]; exact if_pos hp) (fun X' g1 g2 => by
        have z := hQ X' g1 (fun _ => g2)
        rw [b2_c (q := openI (X 55) (rS (stR (X 55) (dgN many c))) (stR (X 55) (dgN many c) 3) (X 55 0) T Hn = 0) ⟨fun y => y.2, fun y => ⟨hok, y⟩⟩] at z
        exact z)
      rw [dgN_l] at this
      exact this
    · have hz : b2 (okB T (dgN many c) = true) = 0 := b2_f hok
      have z := hQ _ fr (fun y => absurd y hok)
      rw [b2_f (fun y => hok y.1)] at z
      simp only [S189, G51, hz, upA_n (show (51 : Nat) ≠ 60 by decide), px_op_some, px_op_none, tl_some, tl_none, ap_one, ap_nil, z01, o01, true_and, and_true, true_or, or_true, i10, i01, if_true, if_false, eq_self]
      exact z)
  rw [upA_id] at hl
  simp only [S189, px_op_some, px_op_none, tl_some, tl_none, ap_one, ap_nil, z01, o01, true_and, and_true, true_or, or_true, i10, i01, if_true, if_false, eq_self]
  exact hl
end M21
