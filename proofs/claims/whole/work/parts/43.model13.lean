/-! the reference: realm -/
section M15
variable {d : Nat} {X : hX} {R : hR} {TH : hT} {N t s a : Nat} {tp : Nat → Int32} {w : px_H} {Q : Option Value → px_H → Prop}
def z0 (g : Nat → Int32) : Nat → Int32 := fun k => if k < 45 then 0 else g k
/-- the whole reading -/
def pR (tp : Nat → Int32) (t : Nat) (g : Nat → Int32) : ((Nat → Int32) × Nat × Nat) ⊕ (Int32 × Nat) := if ¬ tokS tp t 0 = 98 then .inr (1, 0) else match pN tp t 1 40 59 (tokE tp t 0) with
  | .inr e => .inr e
  | .inl r => pAll tp t 9 (upd (z0 g) 0 r.1) 0 r.2
theorem l165z {K : Prop} (hb : X 51 5 = nI 135) (f : Nat → Int32) (hK : wp (d + 6) 165 27 [some (.ref 51), some (.int 45)] [] (hp (upA X 55 (zr f 135 45)) R TH N) 0 Q ↔ K) : ∀ (n k : Nat), k + n = 45 → (wp (d + 6) 165 9 [some (.ref 51), some (.int (nI k))] [] (hp (upA X 55 (zr f 135 k)) R TH N) 0 Q ↔ K) := by
  have hb' : ∀ k, (upA X 55 (zr f 135 k)) 51 5 = nI 135 := fun k => by rw [upA_n (by decide)]; exact hb
  intro n
  induction n with
  | zero =>
    intro k hk
    obtain rfl : k = 45 := by omega
    have e : ((45 : Int32) ≤ nI 45) = True := eq_true (by decide)
    have e2 : nI 45 = 45 := rfl
    rw [← hK, H165_9]
    rw [show wp (d + 6) 165 10 [some (.ref 51), some (.int (nI 45))] [.int (nI 45)] (hp (upA X 55 (zr f 135 45)) R TH N) 0 Q ↔ if (45 : Int32) ≤ nI 45 then wp (d + 6) 165 27 [some (.ref 51), some (.int (nI 45))] [] (hp (upA X 55 (zr f 135 45)) R TH N) 0 Q else wp (d + 6) 165 15 [some (.ref 51), some (.int (nI 45))] [] (hp (upA X 55 (zr f 135 45)) R TH N) 0 Q by
      rw [(S165).2.2.2.2.2.2.1, (S165).2.2.2.2.2.2.2.1]]
    rw [if_pos (by decide)]
    rfl
  | succ n ih =>
    intro k hk
    have ih' := ih (k + 1) (by omega)
    have hlt : ((45 : Int32) ≤ nI k) = False := i_nI_lt (T := 45) (by omega) (by omega)
    rw [H165_9]
    simp only [S165, G51, px_op_some, px_op_none, tl_some, tl_none, ap_one, ap_nil, z01, o01, true_and, and_true, true_or, or_true, i10, i01, if_true, if_false, eq_self, hlt, t150b (b := 135) (k := k) (hb' k) rfl (show 135 + k < 180 by omega), upA_s, upA_upA, nI_1, zr_s, ih']
/-- what realm leaves alone -/
def RA (X X' : hX) : Prop := (∀ c, c ≠ 51 → c ≠ 55 → X' c = X c) ∧ (∀ j, (j < 11 ∨ 16 < j) → j ≠ 5 → j ≠ 8 → j ≠ 10 → j ≠ 17 → X' 51 j = X 51 j) ∧ X' 51 5 = 0 ∧ X' 51 10 = 0 ∧ ∀ j, 45 ≤ j → j < 135 → X' 55 j = X 55 j
theorem fin_err {n : Int32} {q : Nat} {l1 : Option Value} (h : TF X n q) : wp (d + 6) 165 106 [some (.ref 51), l1] [] (hp X R TH N) 0 Q ↔ Q (some (.int (-1000100 - nI q))) (hp (upA X 51 (upd (upd (upd (X 51) 5 0) 10 0) 17 n)) R TH N) := by
  simp only [S165, G51, px_op_some, px_op_none, tl_some, tl_none, ap_one, ap_nil, z01, o01, true_and, and_true, true_or, or_true, i10, i01, if_true, if_false, eq_self, upA_s, upA_n, upd_s, upd_n, ne_eq, Nat.reduceEqDiff, not_false_eq_true, upA_upA, h.2.1, h.2.2, h.1]
theorem fin_ok {l1 : Option Value} (h : X 51 15 = 0) : wp (d + 6) 165 106 [some (.ref 51), l1] [] (hp X R TH N) 0 Q ↔ Q (some (.int (rD X 1))) (hp (upA (upA X 55 (cpR (X 55) 3 0 45)) 51 (upd (upd (upd (X 51) 5 0) 10 0) 8 0)) R TH N) := by
  have c1 := fun X Q => t151 (d := d + 5) (X := X) (R := R) (TH := TH) (N := N) (Q := Q) (s := 3) (t := 0) (x := 3) (y := 0) rfl rfl (by decide) (by decide) (by decide)
  have e1 : cpR (X 55) 3 0 45 1 = rD X 1 := rfl
  have g1 : ∀ Y : hX, px_ald (hp Y R TH N) 55 1 .int = some (Y 55 1) := fun Y => A55_g (j := 1) (by decide)
  simp only [S165, G51, px_op_some, px_op_none, tl_some, tl_none, ap_one, ap_nil, z01, o01, true_and, and_true, true_or, or_true, i10, i01, if_true, if_false, eq_self, upA_s, upA_n, upd_s, upd_n, ne_eq, Nat.reduceEqDiff, not_false_eq_true, upA_upA, h, c1, g1, e1]
  rw [upA_comm (show (51 : Nat) ≠ 55 by decide), upA_upA]
theorem t165 (ht : X 51 10 = nI t) (h120 : t ≤ 120) (hby : ∀ k, k < t → 0 ≤ tpM X k) (hQ : ∀ X', RA X X' → (match pR (tpM X) t (rD X) with
    | .inr e => X' 51 17 = e.1 ∧ X' 51 8 = X 51 8 ∧ (∀ j, j < 45 → X' 55 j = X 55 j)
    | .inl r => X' 51 17 = X 51 17 ∧ X' 51 8 = 0 ∧ (∀ j, j < 45 → X' 55 j = r.1 j)) → Q (some (.int (match pR (tpM X) t (rD X) with | .inr e => -1000100 - nI e.2 | .inl r => r.1 1))) (hp X' R TH N)) : wc (d + 6) 165 [.ref 51] (hp X R TH N) Q := by
  have h135 : (135 : Int32) = nI 135 := rfl
  simp only [S165, G51, px_op_some, px_op_none, tl_some, tl_none, ap_one, ap_nil, z01, o01, true_and, and_true, true_or, or_true, i10, i01, if_true, if_false, eq_self]
  generalize hX1 : upA X 51 (upd (X 51) 5 135) = X1
  have b1 : X1 51 5 = nI 135 := by rw [← hX1, upA_s, upd_s]; rfl
  have c1 : ∀ c, c ≠ 51 → X1 c = X c := fun c hc => by rw [← hX1, upA_n hc]
  have d1 : ∀ j, j ≠ 5 → X1 51 j = X 51 j := fun j hj => by rw [← hX1, upA_s, upd_n hj]
  have hz := l165z (d := d) (X := X1) (R := R) (TH := TH) (N := N) (Q := Q) b1 (X1 55) Iff.rfl 45 0 rfl
  rw [zr_0, upA_id] at hz
  refine hz.mpr ?_
  generalize hX2 : upA X1 55 (zr (X1 55) 135 45) = X2
  have c2 : ∀ c, c ≠ 55 → X2 c = X1 c := fun c hc => by rw [← hX2, upA_n hc]
  have e2 : X2 55 = zr (X 55) 135 45 := by rw [← hX2, upA_s, c1 55 (by decide)]
  simp only [S165, G51, px_op_some, px_op_none, tl_some, tl_none, ap_one, ap_nil, z01, o01, true_and, and_true, true_or, or_true, i10, i01, if_true, if_false, eq_self, upA_s, upA_n, upd_s, upd_n, ne_eq, Nat.reduceEqDiff, not_false_eq_true, upA_upA]
  generalize hX3 : upA X2 51 (upd (upd (X2 51) 11 0) 15 0) = X3
  have c3 : ∀ c, c ≠ 51 → X3 c = X2 c := fun c hc => by rw [← hX3, upA_n hc]
  have d3 : ∀ j, j ≠ 11 → j ≠ 15 → X3 51 j = X2 51 j := fun j h1 h2 => by rw [← hX3, upA_s, upd_n h2, upd_n h1]
  have d31 : X3 51 11 = nI 0 := by rw [← hX3, upA_s, upd_n (by decide), upd_s]; rfl
  have d35 : X3 51 15 = 0 := by rw [← hX3, upA_s, upd_s]
  have k3 : ∀ c, c ≠ 51 → c ≠ 55 → X3 c = X c := fun c h1 h2 => by rw [c3 c h1, c2 c h2, c1 c h1]
  have j3 : ∀ j, (j < 11 ∨ 16 < j) → j ≠ 5 → X3 51 j = X 51 j := fun j h1 h2 => by rw [d3 j (by omega) (by omega), c2 51 (by decide), d1 j h2]
  have z3 : X3 55 = zr (X 55) 135 45 := by rw [c3 55 (by decide), e2]
  have hx3 : TXT (tpM X) t X3 := by
    refine ⟨by rw [j3 10 (by omega) (by decide)]; exact ht, h120, ?_, hby, by rw [d3 5 (by decide) (by decide), c2 51 (by decide)]; exact b1⟩
    funext k
    show X3 58 k &&& 255 = X 58 k &&& 255
    rw [k3 58 (by decide) (by decide)]
  have r3 : rD X3 = z0 (rD X) := by
    funext k
    unfold rD z0
    rw [z3]
    unfold zr
    by_cases hk : k < 45
    · rw [if_pos (by omega), if_pos hk]
    · rw [if_neg (by omega), if_neg hk]
  have o3 : ∀ j, j < 135 → X3 55 j = X 55 j := fun j hj => by rw [z3]; unfold zr; rw [if_neg (by omega)]
  have raE : ∀ (X' : hX) (n : Int32) (q : Nat), PA X3 X' → TF X' n q → RA X (upA X' 51 (upd (upd (upd (X' 51) 5 0) 10 0) 17 n)) ∧ (upA X' 51 (upd (upd (upd (X' 51) 5 0) 10 0) 17 n)) 51 17 = n ∧ (upA X' 51 (upd (upd (upd (X' 51) 5 0) 10 0) 17 n)) 51 8 = X 51 8 ∧ (∀ j, j < 45 → (upA X' 51 (upd (upd (upd (X' 51) 5 0) 10 0) 17 n)) 55 j = X 55 j) := by
    intro X' n q hp hf
    refine ⟨⟨fun c h1 h2 => ?_, fun j h1 h2 h3 h4 h5 => ?_, ?_, ?_, fun j h1 h2 => ?_⟩, ?_, ?_, fun j hj => ?_⟩
    · rw [upA_n h1, hp.1 c h1 h2, k3 c h1 h2]
    · rw [upA_s, upd_n h5, upd_n h4, upd_n h2, hp.2.1 j h1, j3 j h1 h2]
    · rw [upA_s, upd_n (by decide), upd_n (by decide), upd_s]
    · rw [upA_s, upd_n (by decide), upd_s]
    · rw [upA_n (by decide), hp.2.2 j h2, o3 j h2]
    · rw [upA_s, upd_s]
    · rw [upA_s, upd_n (by decide), upd_n (by decide), upd_n (by decide), hp.2.1 8 (by omega), j3 8 (by omega) (by decide)]
    · rw [upA_n (by decide), hp.2.2 j (by omega), o3 j (by omega)]
  have raO : ∀ X' : hX, PA X3 X' → RA X (upA (upA X' 55 (cpR (X' 55) 3 0 45)) 51 (upd (upd (upd (X' 51) 5 0) 10 0) 8 0)) ∧ (upA (upA X' 55 (cpR (X' 55) 3 0 45)) 51 (upd (upd (upd (X' 51) 5 0) 10 0) 8 0)) 51 17 = X 51 17 ∧ (upA (upA X' 55 (cpR (X' 55) 3 0 45)) 51 (upd (upd (upd (X' 51) 5 0) 10 0) 8 0)) 51 8 = 0 ∧ (∀ j, j < 45 → (upA (upA X' 55 (cpR (X' 55) 3 0 45)) 51 (upd (upd (upd (X' 51) 5 0) 10 0) 8 0)) 55 j = rD X' j) := by
    intro X' hp
    refine ⟨⟨fun c h1 h2 => ?_, fun j h1 h2 h3 h4 h5 => ?_, ?_, ?_, fun j h1 h2 => ?_⟩, ?_, ?_, fun j hj => ?_⟩
    · rw [upA_n h1, upA_n h2, hp.1 c h1 h2, k3 c h1 h2]
    · rw [upA_s, upd_n h3, upd_n h4, upd_n h2, hp.2.1 j h1, j3 j h1 h2]
    · rw [upA_s, upd_n (by decide), upd_n (by decide), upd_s]
    · rw [upA_s, upd_n (by decide), upd_s]
    · rw [upA_n (by decide), upA_s]
      unfold cpR
      rw [if_neg (by omega), hp.2.2 j h2, o3 j h2]
    · rw [upA_s, upd_n (by decide), upd_n (by decide), upd_n (by decide), hp.2.1 17 (by omega), j3 17 (by omega) (by decide)]
    · rw [upA_s, upd_s]
    · rw [upA_n (by decide), upA_s]
      unfold cpR rD
      rw [if_pos (by omega)]
      congr 1
  refine n157 hx3 d35 d31 (Nat.zero_le _) (fun X4 p1 p2 p3 => ?_)
  have hx4 := hx3.pa p1
  simp only [S165, G51, px_op_some, px_op_none, tl_some, tl_none, ap_one, ap_nil, z01, o01, true_and, and_true, true_or, or_true, i10, i01, if_true, if_false, eq_self]
  refine t159 hx4 p3 (fun X5 q1 q2 q3 => ?_)
  have hx5 := hx4.pa q1
  simp only [S165, G51, px_op_some, px_op_none, tl_some, tl_none, ap_one, ap_nil, z01, o01, true_and, and_true, true_or, or_true, i10, i01, if_true, if_false, eq_self]
  by_cases hs : tokS (tpM X) t 0 = 98
  · rw [if_pos hs] at q3
    refine t161 (by decide) hx5 q3 (fun X6 v r1 r2 r4 => ?_)
    have hx6 := hx5.pa r1
    rw [show pR (tpM X) t (rD X) = _ from if_neg (fun z => z hs)] at hQ
    simp only [S165, G51, pb (k := 0) (x := 0) hx6 rfl (by decide), px_op_some, px_op_none, tl_some, tl_none, ap_one, ap_nil, z01, o01, true_and, and_true, true_or, or_true, i10, i01, if_true, if_false, eq_self]
    have pa6 := (p1.tr q1).tr r1
    have pa7 := pa6.tr (PA.s55 (X := X6) (j := 135 + 0) (v := v) (by omega))
    cases hn : pN (tpM X) t 1 40 59 (tokE (tpM X) t 0) with
    | inr e =>
      rw [hn] at r4 hQ
      have hf : TF (upA X6 55 (upd (X6 55) (135 + 0) v)) e.1 e.2 := by
        refine ⟨r4.1, ?_, ?_⟩
        · rw [upA_n (by decide)]; exact r4.2.1
        · rw [upA_n (by decide)]; exact r4.2.2
      refine y165 (by rw [hf.2.1]; exact hf.1) ((fin_err hf).mpr ?_)
      obtain ⟨g1, g2⟩ := raE _ _ _ pa7 hf
      exact hQ _ g1 g2
    | inl r =>
      rw [hn] at r4 hQ
      dsimp only at hQ
      obtain ⟨rfl, r5⟩ := r4
      have hD : rD (upA X6 55 (upd (X6 55) (135 + 0) r.1)) = upd (z0 (rD X)) 0 r.1 := by
        rw [rD_p]
        congr 1
        rw [← r3]
        unfold rD
        rw [r2, q2, p2]
      refine l165t 9 0 _ r.2 _ rfl (by decide) (hx6.pa (PA.s55 (by omega))) r5.p55 ?_ ?_ (fun X7 s1 s2 => ?_)
      · rw [hD, upd_n (by decide)]; rfl
      · rw [hD, upd_n (by decide)]; rfl
      · rw [hD] at s2
        cases ha : pAll (tpM X) t 9 (upd (z0 (rD X)) 0 r.1) 0 r.2 with
        | inr e =>
          rw [ha] at s2 hQ
          refine (fin_err s2).mpr ?_
          obtain ⟨g1, g2⟩ := raE _ _ _ (pa7.tr s1) s2
          exact hQ _ g1 g2
        | inl q =>
          rw [ha] at s2 hQ
          refine (fin_ok s2.1).mpr ?_
          obtain ⟨g1, g2, g3, g4⟩ := raO _ (pa7.tr s1)
          rw [s2.2] at g4 ⊢
          exact hQ _ g1 ⟨g2, g3, g4⟩
  · rw [if_neg hs] at q3
    rw [show pR (tpM X) t (rD X) = .inr (1, 0) from if_pos hs] at hQ
    rw [t161f q3]
    simp only [S165, G51, pb (k := 0) (x := 0) hx5 rfl (by decide), px_op_some, px_op_none, tl_some, tl_none, ap_one, ap_nil, z01, o01, true_and, and_true, true_or, or_true, i10, i01, if_true, if_false, eq_self]
    have hf : TF (upA X5 55 (upd (X5 55) (135 + 0) (X5 51 14))) 1 0 := by
      refine ⟨q3.1, ?_, ?_⟩
      · rw [upA_n (by decide)]; exact q3.2.1
      · rw [upA_n (by decide)]; exact q3.2.2
    refine y165 (by rw [hf.2.1]; exact hf.1) ((fin_err hf).mpr ?_)
    obtain ⟨g1, g2⟩ := raE _ _ _ ((p1.tr q1).tr (PA.s55 (j := 135 + 0) (v := X5 51 14) (by omega))) hf
    exact hQ _ g1 g2
end M15
