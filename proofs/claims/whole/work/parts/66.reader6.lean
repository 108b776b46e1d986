/-! the class: readTo -/
section C16
variable {d : Nat} {X : hX} {R : hR} {TH : hT} {N t s T Hn : Nat} {tp ρ : Nat → Int32} {Q : Option Value → px_H → Prop}
theorem RR.begin (g : Nat → Int32) (v : Int32) : RR (upA X 4 (upd (upd (upd (upd (upd (upd (X 4) 4 v) 5 0) 6 0) 7 0) 8 0) 9 0)) R TH 4 (upd (z0 g) 0 v) 0 0 := by
  refine ⟨?_, ?_, ?_, by decide, ?_, ?_, by decide, ?_, ?_, ?_, ?_⟩
  · rw [upA_s, upd_n (by decide), upd_n (by decide), upd_n (by decide), upd_n (by decide), upd_n (by decide), upd_s, upd_s]
  · rw [upA_s, upd_n (by decide), upd_n (by decide), upd_n (by decide), upd_n (by decide), upd_s]; rfl
  · rw [upd_n (by decide)]; rfl
  · rw [upA_s, upd_n (by decide), upd_n (by decide), upd_n (by decide), upd_s]; rfl
  · rw [upd_n (by decide)]; rfl
  · rw [upA_s, upd_n (by decide), upd_s, upd_n (by decide)]; rfl
  · rw [upA_s, upd_s, upd_n (by decide)]; rfl
  · intro p hp; exact absurd hp (Nat.not_lt_zero p)
  · intro p hp; exact absurd hp (Nat.not_lt_zero p)
theorem t32 (hx : CT tp t X) (hN : 62 ≤ N) (hn : ∀ q, N ≤ q → TH q = none) (ho : OKR R TH 4) (g : Nat → Int32)
    (hQ : ∀ X' R' TH' N', FR X R TH N X' R' TH' N' → (match pR tp t g with | .inl r => X' 2 3 = 0 ∧ RR X' R' TH' 4 r.1 r.2.1 r.2.2 | .inr e => CF X' e.1 e.2) → Q (some (.int (b2 (X' 2 3 = 0)))) (hp (upA X' 2 (upd (X' 2) 1 0)) R' TH' N')) : wc (d + 5) 32 [.ref 2, .ref 4] (hp X R TH N) Q := by
  have hk0 : 0 + 0 ≤ 120 := Nat.zero_le _
  have hby := hx.2.2.2
  simp only [S32, G2, GRealm r4, hk0, px_op_some, px_op_none, tl_some, tl_none, ap_one, ap_nil, z01, o01, true_and, and_true, true_or, or_true, i10, i01, if_true, if_false, eq_self, upA_s, upA_n, upd_s, upd_n, ne_eq, Nat.reduceEqDiff, not_false_eq_true, upA_upA]
  have pS : PC X (upA X 2 (upd (upd (X 2) 2 0) 3 0)) := ⟨fun c a => upA_n a, by rw [upA_s, upd_n (by decide), upd_n (by decide)]⟩
  have hS : CS t (upA X 2 (upd (upd (X 2) 2 0) 3 0)) 0 := ⟨by rw [upA_s, upd_s], by rw [upA_s, upd_n (by decide), upd_s]; rfl, Nat.zero_le _⟩
  generalize upA X 2 (upd (upd (X 2) 2 0) 3 0) = X0 at pS hS ⊢
  have hx0 := hx.pc pS
  refine t35 hx0 hS (by decide) (fun X1 p1 p2 => ?_)
  have q1 := pS.tr p1
  have hx1 := hx.pc q1
  simp only [S32, G2, GRealm r4, hk0, px_op_some, px_op_none, tl_some, tl_none, ap_one, ap_nil, z01, o01, true_and, and_true, true_or, or_true, i10, i01, if_true, if_false, eq_self]
  by_cases hb : byI tp t 0 = 98
  · rw [if_pos hb] at p2
    have hs : tokS tp t 0 = 98 := (tok_c (by decide)).mpr hb
    have hE : tokE tp t 0 = 0 + 1 := (tokS_lt (tp := tp) (t := t) (s := 0) (by rw [hb]; decide)).2
    rw [show pR tp t g = _ from if_neg (fun z => z hs), hE] at hQ
    refine t36 hx1 p2 (fun X2 v p3 p4 => ?_)
    have q2 := q1.tr p3
    simp only [S32, G2, GRealm r4, hk0, t43 r4, px_op_some, px_op_none, tl_some, tl_none, ap_one, ap_nil, z01, o01, true_and, and_true, true_or, or_true, i10, i01, if_true, if_false, eq_self]
    have hrr := RR.begin (X := X2) (R := R) (TH := TH) g v
    have f3 : FR X R TH N (upA X2 4 (upd (upd (upd (upd (upd (upd (X2 4) 4 v) 5 0) 6 0) 7 0) 8 0) 9 0)) R TH N := by
      refine ⟨fun c a b _ _ => ?_, ?_, fun _ _ => rfl, Nat.le_refl _, fun _ _ => rfl, hn, ho⟩
      · rw [upA_n b]; exact q2.1 c a
      · rw [upA_n (by decide)]; exact q2.2
    have c3 : (upA X2 4 (upd (upd (upd (upd (upd (upd (X2 4) 4 v) 5 0) 6 0) 7 0) 8 0) 9 0)) 2 = X2 2 := upA_n (by decide)
    generalize upA X2 4 (upd (upd (upd (upd (upd (upd (X2 4) 4 v) 5 0) 6 0) 7 0) 8 0) 9 0) = X3 at hrr f3 c3 ⊢
    have hx3 := hx.fr f3
    have p4' : match cN tp t 1 40 (0 + 1) with | .inl r => v = r.1 ∧ CS t X3 r.2 | .inr e => CF X3 e.1 e.2 := by
      cases hcn : cN tp t 1 40 (0 + 1) with
      | inr e =>
        rw [hcn] at p4
        dsimp only at p4 ⊢
        unfold CF at p4 ⊢
        rw [c3]; exact p4
      | inl r =>
        rw [hcn] at p4
        dsimp only at p4 ⊢
        unfold CS at p4 ⊢
        rw [c3]; exact p4
    refine sign_after hx3 (by decide) p4' (fun X4 p5 p6 => ?_)
    have f4 := f3.pc' p5
    have hr4 := hrr.pc p5 (by decide)
    simp only [S32, px_op_some, px_op_none, tl_some, tl_none, ap_one, ap_nil, z01, o01, true_and, and_true, true_or, or_true, i10, i01, if_true, if_false, eq_self]
    cases hn1 : pN tp t 1 40 59 (0 + 1) with
    | inr e =>
      rw [hn1] at p6 hQ
      dsimp only at p6 hQ
      exact (x32 (pt := 0) (CF.n0 (n := e.1) (q := e.2) p6)).mpr (hQ _ _ _ _ f4 p6)
    | inl r =>
      rw [hn1] at p6 hQ
      dsimp only at p6 hQ
      obtain ⟨rfl, p7⟩ := p6
      exact l32t 9 0 X4 R TH N _ r.2 0 0 _ rfl (hx.fr f4) p7 hr4 hN hn ho (Nat.zero_le _) (Nat.le_refl _) (fun X5 R5 TH5 N5 z1 z2 => hQ X5 R5 TH5 N5 (f4.tr z1) z2)
  · rw [if_neg hb] at p2
    have hs : ¬ tokS tp t 0 = 98 := fun z => hb ((tok_c (by decide)).mp z)
    rw [show pR tp t g = .inr (1, 0) from if_pos hs] at hQ
    dsimp only at hQ
    rw [t36f p2]
    simp only [S32, G2, GRealm r4, hk0, t43 r4, px_op_some, px_op_none, tl_some, tl_none, ap_one, ap_nil, z01, o01, true_and, and_true, true_or, or_true, i10, i01, if_true, if_false, eq_self]
    have f3 : FR X R TH N (upA X1 4 (upd (upd (upd (upd (upd (upd (X1 4) 4 1) 5 0) 6 0) 7 0) 8 0) 9 0)) R TH N := by
      refine ⟨fun c a b _ _ => ?_, ?_, fun _ _ => rfl, Nat.le_refl _, fun _ _ => rfl, hn, ho⟩
      · rw [upA_n b]; exact q1.1 c a
      · rw [upA_n (by decide)]; exact q1.2
    have c3 : (upA X1 4 (upd (upd (upd (upd (upd (upd (X1 4) 4 1) 5 0) 6 0) 7 0) 8 0) 9 0)) 2 = X1 2 := upA_n (by decide)
    generalize upA X1 4 (upd (upd (upd (upd (upd (upd (X1 4) 4 1) 5 0) 6 0) 7 0) 8 0) 9 0) = X3 at f3 c3 ⊢
    have p3 : CF X3 1 0 := by unfold CF at p2 ⊢; rw [c3]; exact p2
    rw [t35f p3]
    simp only [S32, px_op_some, px_op_none, tl_some, tl_none, ap_one, ap_nil, z01, o01, true_and, and_true, true_or, or_true, i10, i01, if_true, if_false, eq_self]
    exact (x32 (pt := 0) (CF.n0 p3)).mpr (hQ _ _ _ _ f3 p3)
end C16
