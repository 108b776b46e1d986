/-! the class reads a text: signs and numbers -/
/-- what reading a sign leaves alone; the text; no fault, at a; a fault n at q -/
def PC (X X' : hX) : Prop := (∀ c, c ≠ 2 → X' c = X c) ∧ X' 2 1 = X 2 1
theorem PC.rf (X : hX) : PC X X := ⟨fun _ _ => rfl, rfl⟩
theorem PC.tr {X Y Z : hX} (h1 : PC X Y) (h2 : PC Y Z) : PC X Z := ⟨fun c a => (h2.1 c a).trans (h1.1 c a), h2.2.trans h1.2⟩
theorem PC.s2 {X : hX} {j : Nat} {v : Int32} (h : j ≠ 1) : PC X (upA X 2 (upd (X 2) j v)) := ⟨fun c a => upA_n a, by rw [upA_s, upd_n (fun e => h e.symm)]⟩
def CT (tp : Nat → Int32) (t : Nat) (X : hX) : Prop := X 2 1 = nI t ∧ t ≤ 120 ∧ (∀ k, k < t → X 3 k = tp k) ∧ ∀ k, k < t → 0 ≤ tp k
def CS (t : Nat) (X : hX) (a : Nat) : Prop := X 2 3 = 0 ∧ X 2 2 = nI a ∧ a ≤ t
def CF (X : hX) (n : Int32) (q : Nat) : Prop := ¬ n = 0 ∧ X 2 3 = n ∧ X 2 4 = nI q
theorem CT.pc {tp : Nat → Int32} {t : Nat} {X X' : hX} (h : CT tp t X) (p : PC X X') : CT tp t X' :=
  ⟨p.2.trans h.1, h.2.1, fun k hk => by rw [p.1 3 (by decide)]; exact h.2.2.1 k hk, h.2.2.2⟩
section C9
variable {d : Nat} {X : hX} {R : hR} {TH : hT} {N t s a : Nat} {tp : Nat → Int32} {w : px_H} {Q : Option Value → px_H → Prop}
/-- take -/
theorem t31 {c : Int32} (ht : X 2 1 = nI t) (h120 : t ≤ 120) : wc d 31 [.ref 2, .int c] (hp X R TH N) Q ↔ (if t = 120 then Q (some (.int 0)) (hp X R TH N) else Q (some (.int 1)) (hp (upA (upA X 3 (upd (X 3) t c)) 2 (upd (X 2) 1 (nI (t + 1)))) R TH N)) := by
  by_cases h : t = 120
  · subst h
    have e : (nI 120 < 120) = False := by decide
    simp only [S31, G2, ht, e, px_op_some, px_op_none, tl_some, tl_none, ap_one, ap_nil, z01, o01, true_and, and_true, true_or, or_true, i10, i01, if_true, if_false, eq_self]
  · have e : (nI t < 120) = True := eq_true (nI_lt (b := 120) (by omega) (by decide))
    simp only [S31, G2, ht, e, h, A3_p (show t < 120 by omega), px_op_some, px_op_none, tl_some, tl_none, ap_one, ap_nil, z01, o01, true_and, and_true, true_or, or_true, i10, i01, if_true, if_false, eq_self, upA_s, upA_n, upd_s, upd_n, ne_eq, Nat.reduceEqDiff, not_false_eq_true, nI_1]
theorem t37 (hx : CT tp t X) (ha : X 2 2 = nI a) (hat : a ≤ t) : wc d 37 [.ref 2] (hp X R TH N) Q ↔ Q (some (.int (byI tp t a))) (hp X R TH N) := by
  obtain ⟨ht, h120, h3, -⟩ := hx
  have e0 : (nI a < 0) = False := eq_false (nI_pos (by omega))
  by_cases h : a < t
  · have e1 : (nI t ≤ nI a) = False := i_nI_lt h (by omega)
    have e2 : ((120 : Int32) ≤ nI a) = False := i_nI_lt (T := 120) (by omega) (by decide)
    have e3 : byI tp t a = X 3 a := by unfold byI; rw [if_pos h, h3 a h]
    simp only [S37, G2, ht, ha, e0, e1, e2, e3, A3_g (show a < 120 by omega), px_op_some, px_op_none, tl_some, tl_none, ap_one, ap_nil, z01, o01, true_and, and_true, true_or, or_true, i10, i01, if_true, if_false, eq_self]
  · obtain rfl : a = t := by omega
    have e3 : byI tp a a = -1 := if_neg h
    simp only [S37, G2, ht, ha, e0, i_nI_le, e3, px_op_some, px_op_none, tl_some, tl_none, ap_one, ap_nil, z01, o01, true_and, and_true, true_or, or_true, i10, i01, if_true, if_false, eq_self]
theorem t38 {n : Int32} {q : Nat} (hn : ¬ n = 0) (hQ : ∀ X', PC X X' → CF X' n q → Q none (hp X' R TH N)) : wc d 38 [.ref 2, .int n, .int (nI q)] (hp X R TH N) Q := by
  simp only [S38, G2, px_op_some, px_op_none, tl_some, tl_none, ap_one, ap_nil, z01, o01, true_and, and_true, true_or, or_true, i10, i01, if_true, if_false, eq_self, upA_s, upA_n, upd_s, upd_n, ne_eq, Nat.reduceEqDiff, not_false_eq_true]
  refine hQ _ ((PC.s2 (j := 3) (v := n) (by decide)).tr ?_) ⟨hn, ?_, ?_⟩
  · have := PC.s2 (X := upA X 2 (upd (X 2) 3 n)) (j := 4) (v := nI q) (by decide)
    rw [upA_s] at this
    exact this
  · rw [upA_s, upd_n (by decide), upd_s]
  · rw [upA_s, upd_s]
theorem t39 {c : Int32} : wc d 39 [.int c] w Q ↔ Q (some (.int (kindI c))) w := by
  simp only [S39, sw_39_1, px_op_some, px_op_none, tl_some, tl_none, ap_one, ap_nil, z01, o01, true_and, and_true, true_or, or_true, i10, i01, if_true, if_false, eq_self]
  unfold kindI
  by_cases h1 : c = 102
  · subst h1; simp only [if_true, S39, px_op_some, px_op_none, tl_some, tl_none, ap_one, ap_nil, z01, o01, true_and, and_true, true_or, or_true, i10, i01, if_true, if_false, eq_self]; rfl
  by_cases h2 : c = 108
  · subst h2; simp only [h1, if_false, S39, px_op_some, px_op_none, tl_some, tl_none, ap_one, ap_nil, z01, o01, true_and, and_true, true_or, or_true, i10, i01, if_true, if_false, eq_self]; rfl
  by_cases h3 : c = 109
  · subst h3; simp only [h1, h2, if_false, S39, px_op_some, px_op_none, tl_some, tl_none, ap_one, ap_nil, z01, o01, true_and, and_true, true_or, or_true, i10, i01, if_true, if_false, eq_self]; rfl
  by_cases h4 : c = 112
  · subst h4; simp only [h1, h2, h3, if_false, S39, px_op_some, px_op_none, tl_some, tl_none, ap_one, ap_nil, z01, o01, true_and, and_true, true_or, or_true, i10, i01, if_true, if_false, eq_self]
  by_cases h5 : c = 121
  · subst h5; simp only [h1, h2, h3, h4, if_false, S39, px_op_some, px_op_none, tl_some, tl_none, ap_one, ap_nil, z01, o01, true_and, and_true, true_or, or_true, i10, i01, if_true, if_false, eq_self]
  simp only [h1, h2, h3, h4, h5, if_false, S39, px_op_some, px_op_none, tl_some, tl_none, ap_one, ap_nil, z01, o01, true_and, and_true, true_or, or_true, i10, i01, if_true, if_false, eq_self]
/-- expect -/
theorem t35f {c n : Int32} {q : Nat} (hf : CF X n q) : wc d 35 [.ref 2, .int c] (hp X R TH N) Q ↔ Q none (hp X R TH N) := by
  have : ¬ X 2 3 = 0 := by rw [hf.2.1]; exact hf.1
  simp only [S35, G2, this, px_op_some, px_op_none, tl_some, tl_none, ap_one, ap_nil, z01, o01, true_and, and_true, true_or, or_true, i10, i01, if_true, if_false, eq_self]
theorem t35 {c : Int32} (hx : CT tp t X) (h : CS t X a) (hc : ¬ c = -1) (hQ : ∀ X', PC X X' → (if byI tp t a = c then CS t X' (a + 1) else CF X' 1 a) → Q none (hp X' R TH N)) : wc (d + 1) 35 [.ref 2, .int c] (hp X R TH N) Q := by
  simp only [S35, G2, h.1, t37 hx h.2.1 h.2.2, h.2.1, px_op_some, px_op_none, tl_some, tl_none, ap_one, ap_nil, z01, o01, true_and, and_true, true_or, or_true, i10, i01, if_true, if_false, eq_self]
  by_cases hb : byI tp t a = c
  · simp only [if_pos hb] at hQ
    rw [if_pos hb]
    have hat : a < t := by
      rcases Nat.lt_or_ge a t with z | z
      · exact z
      · rw [show byI tp t a = -1 from if_neg (by omega)] at hb
        exact absurd hb.symm hc
    simp only [S35, G2, h.2.1, nI_1, px_op_some, px_op_none, tl_some, tl_none, ap_one, ap_nil, z01, o01, true_and, and_true, true_or, or_true, i10, i01, if_true, if_false, eq_self]
    refine hQ _ (PC.s2 (by decide)) ⟨?_, ?_, hat⟩
    · rw [upA_s, upd_n (by decide)]; exact h.1
    · rw [upA_s, upd_s]
  · simp only [if_neg hb] at hQ
    rw [if_neg hb]
    refine t38 (by decide) (fun X' p1 p2 => ?_)
    simp only [S35, px_op_some, px_op_none, tl_some, tl_none, ap_one, ap_nil, z01, o01, true_and, and_true, true_or, or_true, i10, i01, if_true, if_false, eq_self]
    exact hQ X' p1 p2
/-- the figures, as the class has them -/
def nxC (tp : Nat → Int32) (t : Nat) : Nat → Nat → Int32 → Nat × Int32
  | 0, a, v => (a, v)
  | n + 1, a, v => if digI (byI tp t a) then nxC tp t n (a + 1) (v * 10 + (byI tp t a - 48)) else (a, v)
theorem nx_e (s : Nat) : ∀ (n a : Nat) (v v' : Int32), (nxC tp t n a v).1 = (nxL tp t s n a v').1 := by
  intro n
  induction n with
  | zero => intro a v v'; rfl
  | succ n ih =>
    intro a v v'
    unfold nxC nxL
    by_cases hd : digI (byI tp t a)
    · rw [if_pos hd, if_pos hd]; exact ih _ _ _
    · rw [if_neg hd, if_neg hd]
theorem nxC_ge : ∀ (n a : Nat) (v : Int32), a ≤ (nxC tp t n a v).1 := by
  intro n
  induction n with
  | zero => intro a v; exact Nat.le_refl _
  | succ n ih =>
    intro a v
    unfold nxC
    by_cases hd : digI (byI tp t a)
    · rw [if_pos hd]; exact Nat.le_trans (Nat.le_succ a) (ih _ _)
    · rw [if_neg hd]; exact Nat.le_refl _
theorem i_mul10 (v b : Int32) : v * 10 + (b - 48) = 10 * v + b - 48 := by
  rw [Int32.mul_comm, Int32.sub_eq_add_neg, Int32.sub_eq_add_neg, Int32.add_assoc]
theorem nx_v (s : Nat) : ∀ (n a : Nat) (v : Int32), s ≤ a → (nxC tp t n a v).1 - s ≤ 3 → (nxC tp t n a v).2 = (nxL tp t s n a v).2 := by
  intro n
  induction n with
  | zero => intro a v _ _; rfl
  | succ n ih =>
    intro a v hs h3
    unfold nxC at h3 ⊢
    unfold nxL
    by_cases hd : digI (byI tp t a)
    · rw [if_pos hd] at h3 ⊢
      rw [if_pos hd]
      have hg := nxC_ge (tp := tp) (t := t) n (a + 1) (v * 10 + (byI tp t a - 48))
      rw [ih _ _ (by omega) h3, if_pos (show a - s < 3 by omega), i_mul10]
    · rw [if_neg hd, if_neg hd]
end C9
