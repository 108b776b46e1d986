/-! the class: the best defence -/
def DF (X : hX) (R : hR) (X' : hX) (R' : hR) : Prop := (∀ c, (c < 15 ∨ 22 < c) → X' c = X c) ∧ (∀ c, c ≠ 17 → R' c = R c)
theorem DF.rf (X : hX) (R : hR) : DF X R X R := ⟨fun _ _ => rfl, fun _ _ => rfl⟩
theorem DF.tr {X X' X'' : hX} {R R' R'' : hR} (h1 : DF X R X' R') (h2 : DF X' R' X'' R'') : DF X R X'' R'' := ⟨fun c a => (h2.1 c a).trans (h1.1 c a), fun c a => (h2.2 c a).trans (h1.2 c a)⟩
theorem r16 : isRealm 16 := Or.inr (Or.inr (Or.inl rfl))
section C25
variable {d : Nat} {X X' : hX} {R R' : hR} {TH : hT} {N T Hn B p q κ : Nat} {ρ : Nat → Int32} {Q : Option Value → px_H → Prop}
theorem RR.df (h : RR X R TH 9 ρ T Hn) (p : DF X R X' R') : RR X' R' TH 9 ρ T Hn := by
  unfold RR
  rw [p.1 9 (by omega), p.1 (9 + 2) (by omega), p.1 (9 + 3) (by omega), p.2 (9 + 1) (by omega)]
  exact h
theorem OKR.df {r : Nat} (h : OKR R TH r) (p : DF X R X' R') (hr : r ≠ 16) : OKR R' TH r := by
  intro t ht
  rw [p.2 (r + 1) (by omega)]
  exact h t ht
theorem DF.bl : DF X R (blX X 16 9) (blR R 16 9) := ⟨fun c a => blX_n (by omega) (by omega) (by omega), fun c a => blR_n a⟩
theorem DF.se {a : Nat} : DF X R (seX X 16 a ρ p) R := ⟨fun c a => seX_n (by omega) (by omega) (by omega), fun _ _ => rfl⟩
/-- realms of the same things and harms -/
theorem sum_c {ρ' : Nat → Int32} (h : rP ρ' = rP ρ) (s : Int32) : sumI ρ' s T = sumI ρ s T := by
  unfold sumI
  refine fld_c (fun q b _ _ => ?_)
  unfold sumS
  rw [h]
theorem ch_c {ρ' : Nat → Int32} (h : rP ρ' = rP ρ) (hh : rH ρ' = rH ρ) (op : Int32) : chI ρ' op T Hn = chI ρ op T Hn := by
  unfold chI
  refine fld_c (fun q b _ _ => ?_)
  unfold chS
  rw [hh, sum_c h, sum_c h]
theorem price_c {ρ' : Nat → Int32} (h : rP ρ' = rP ρ) (hh : rH ρ' = rH ρ) (a : Option Nat) (n : Int32) : priceI ρ' T a n = priceI ρ T a n := by
  cases a with
  | none => rfl
  | some q =>
    show sumI ρ' (rH ρ' q) T = sumI ρ (rH ρ q) T
    rw [hh, sum_c h]
theorem open_c {ρ' : Nat → Int32} (h : rK ρ' = rK ρ) (hh : rH ρ' = rH ρ) (o : Nat → Int32) (day term : Int32) : openI ρ' o day term T Hn = openI ρ o day term T Hn := by
  unfold openI opnI bndI
  rw [h, hh]
def dearN (ρ : Nat → Int32) (p : Nat) (day : Int32) (T Hn : Nat) : Int32 := priceI ρ T (chI ρ (openI ρ (askO ρ p) (if day < thenI ρ p then thenI ρ p else day) (ρ 0) T Hn) T Hn) (-1000000)
theorem dearN_e (hp : p < 8) (day : Int32) : priceI (askR ρ p) T (chI (askR ρ p) (openI (askR ρ p) (rS (askR ρ p)) day (askR ρ p 0) T Hn) T Hn) (-1000000) = priceI ρ T (chI ρ (openI ρ (askO ρ p) day (ρ 0) T Hn) T Hn) (-1000000) := by
  have hK : rK (askR ρ p) = rK ρ := funext askR_K
  have hP : rP (askR ρ p) = rP ρ := funext askR_P
  have hH : rH (askR ρ p) = rH ρ := funext fun t => askR_H t hp
  have hS : rS (askR ρ p) = askO ρ p := funext askR_S
  rw [price_c hP hH, ch_c hP hH, open_c hK hH, hS, askR_n (show 0 ≠ 3 by decide) (show 0 ≠ 5 + 4 * p + 3 by omega)]
theorem t21n {day : Int32} : wc d 21 [.ref 15, .ref 9, .null, .int day] (hp X R TH N) Q ↔ Q (some (.int (-1000000))) (hp X R TH N) := by
  simp only [S21, px_op_some, px_op_none, tl_some, tl_none, ap_one, ap_nil, z01, o01, true_and, and_true, true_or, or_true, i10, i01, if_true, if_false, eq_self]
theorem t21 {day : Int32} (hr : RR X R TH 9 ρ T Hn) (hw : WF ρ T Hn B) (hB : B ≤ 100000) (ho : OKR R TH 9) (hp8 : p < T) (hq : R 10 p = some q) (hQ : ∀ X' R', DF X R X' R' → Q (some (.int (dearN ρ p day T Hn))) (hp X' R' TH N)) : wc (d + 4) 21 [.ref 15, .ref 9, .ref q, .int day] (hp X R TH N) Q := by
  have h8 := hr.2.2.2.1
  obtain ⟨q', κ, hq', hth, hk, -⟩ := hr.2.2.2.2.2.2.2.2.2.1 p hp8
  have eq : q' = q := by
    have := hq'.symm.trans hq
    exact Option.some.inj this
  subst eq
  obtain ⟨hl, hl7⟩ := RR.like (r := 16) hr
  have hs := hl.ask (a := 0) hp8
  have hws := hw.ask hp8 h8
  have h63 := fun day Q => t63 (d := d) (N := N) (Q := Q) (day := day) r16 hs (hws.ov0 (by omega) day)
  have e8 : seX (blX X 16 9) 16 0 ρ p 16 8 = thenI ρ p := by
    have := hs.2.2.2.2.2.2.2.1
    rw [this, askR_3]
  simp only [S21, G15, GRealm r16, GRealm r9, t46 r16 r9 (show 16 ≠ 9 by decide) ho, t51 (d := d + 1) r16 hl hp8 hth hk (hw.wayC hp8 hth.2.1 hk) hl7 (Nat.zero_le 24), e8, h63, dearN_e (show p < 8 by omega), px_op_some, px_op_none, tl_some, tl_none, ap_one, ap_nil, z01, o01, true_and, and_true, true_or, or_true, i10, i01, if_true, if_false, eq_self]
  exact hQ _ _ (DF.bl.tr DF.se)
/-- bestDefence -/
def wrI (x : Int32) : Int32 := if x = -1000000 then 161 else x
def dcS (ρ : Nat → Int32) (day : Int32) (T Hn : Nat) (p : Nat) (a : Int32 × Int32) : Int32 × Int32 := if wrI (dearN ρ p day T Hn) ≤ a.2 then a else (nI p, wrI (dearN ρ p day T Hn))
theorem l20 {day : Int32} (hw : WF ρ T Hn B) (hB : B ≤ 100000) : ∀ (n p : Nat) (a : Int32 × Int32) (X : hX) (R : hR) (l6 l7 : Option Value), p + n = T → RR X R TH 9 ρ T Hn → OKR R TH 9 → (∀ X' R', DF X R X' R' → Q (some (.int (fld (dcS ρ day T Hn) n p a).1)) (hp X' R' TH N)) → wp (d + 5) 20 9 [some (.ref 15), some (.ref 9), some (.int day), some (.int a.1), some (.int a.2), some (.int (nI p)), l6, l7] [] (hp X R TH N) 0 Q := by
  intro n
  induction n with
  | zero =>
    intro p a X R l6 l7 hp0 hr ho hQ
    obtain rfl : p = T := by omega
    rw [H20_9]
    simp only [S20, GRealm r9, hr.2.1, i_nI_le, px_op_some, px_op_none, tl_some, tl_none, ap_one, ap_nil, z01, o01, true_and, and_true, true_or, or_true, i10, i01, if_true, if_false, eq_self]
    exact hQ X R (DF.rf X R)
  | succ n ih =>
    intro p a X R l6 l7 hp0 hr ho hQ
    have h8 := hr.2.2.2.1
    have hp8 : p < T := by omega
    obtain ⟨q, κ, hq, -⟩ := hr.2.2.2.2.2.2.2.2.2.1 p hp8
    have er : va_rf (some q) = .ref q := rfl
    have hq10 : R (9 + 1) p = some q := hq
    rw [H20_9]
    simp only [S20, G15, GRealm r9, hr.2.1, i_nI_lt hp8 (show T < 2 ^ 31 by omega), t47 r9 hr hp8, hq10, er, px_op_some, px_op_none, tl_some, tl_none, ap_one, ap_nil, z01, o01, true_and, and_true, true_or, or_true, i10, i01, if_true, if_false, eq_self]
    refine t21 hr hw hB ho hp8 hq (fun X' R' p1 => ?_)
    have hr' := hr.df p1
    have ho' := ho.df p1 (by decide)
    rw [fld_s] at hQ
    unfold dcS at hQ
    rw [show (fun p a => if wrI (dearN ρ p day T Hn) ≤ a.2 then a else (nI p, wrI (dearN ρ p day T Hn))) = dcS ρ day T Hn from rfl] at hQ
    have k1 := ih (p + 1) (nI p, wrI (dearN ρ p day T Hn)) X' R' (some (.int (dearN ρ p day T Hn))) (some (.int (wrI (dearN ρ p day T Hn)))) (by omega) hr' ho'
    have k0 := ih (p + 1) a X' R' (some (.int (dearN ρ p day T Hn))) (some (.int (wrI (dearN ρ p day T Hn)))) (by omega) hr' ho'
    have fin : (if wrI (dearN ρ p day T Hn) ≤ a.2 then wp (d + 5) 20 9 [some (.ref 15), some (.ref 9), some (.int day), some (.int a.1), some (.int a.2), some (.int (nI (p + 1))), some (.int (dearN ρ p day T Hn)), some (.int (wrI (dearN ρ p day T Hn)))] [] (hp X' R' TH N) 0 Q else wp (d + 5) 20 9 [some (.ref 15), some (.ref 9), some (.int day), some (.int (nI p)), some (.int (wrI (dearN ρ p day T Hn))), some (.int (nI (p + 1))), some (.int (dearN ρ p day T Hn)), some (.int (wrI (dearN ρ p day T Hn)))] [] (hp X' R' TH N) 0 Q) := by
      by_cases hc : wrI (dearN ρ p day T Hn) ≤ a.2
      · rw [if_pos hc]
        simp only [if_pos hc] at hQ
        exact k0 (fun X2 R2 q1 => hQ X2 R2 (p1.tr q1))
      · rw [if_neg hc]
        simp only [if_neg hc] at hQ
        exact k1 (fun X2 R2 q1 => hQ X2 R2 (p1.tr q1))
    unfold wrI at fin
    by_cases hz : dearN ρ p day T Hn = -1000000
    · simp only [hz, if_true] at fin
      simp only [S20, hz, nI_1, px_op_some, px_op_none, tl_some, tl_none, ap_one, ap_nil, z01, o01, true_and, and_true, true_or, or_true, i10, i01, if_true, if_false, eq_self]
      exact fin
    · simp only [hz, if_false] at fin
      simp only [S20, hz, nI_1, px_op_some, px_op_none, tl_some, tl_none, ap_one, ap_nil, z01, o01, true_and, and_true, true_or, or_true, i10, i01, if_true, if_false, eq_self]
      exact fin
theorem t20 {day : Int32} (hr : RR X R TH 9 ρ T Hn) (hw : WF ρ T Hn B) (hB : B ≤ 100000) (ho : OKR R TH 9) (hQ : ∀ X' R', DF X R X' R' → Q (some (.int (fld (dcS ρ day T Hn) T 0 (-1000000, -1)).1)) (hp X' R' TH N)) : wc (d + 5) 20 [.ref 15, .ref 9, .int day] (hp X R TH N) Q := by
  have := l20 (d := d) (N := N) (Q := Q) (day := day) hw hB T 0 (-1000000, -1) X R none none (by omega) hr ho hQ
  simp only [S20, px_op_some, px_op_none, tl_some, tl_none, ap_one, ap_nil, z01, o01, true_and, and_true, true_or, or_true, i10, i01, if_true, if_false, eq_self]
  exact this
end C25
