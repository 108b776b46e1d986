/-! the class reads a text: a number -/
def AtX (X : hX) (a : Nat) : hX := upA X 2 (upd (X 2) 2 (nI a))
def noX (X : hX) (n : Int32) (q : Nat) : hX := upA X 2 (upd (upd (X 2) 3 n) 4 (nI q))
theorem AtX_AtX (X : hX) (a b : Nat) : upA (AtX X a) 2 (upd ((AtX X a) 2) 2 (nI b)) = AtX X b := by
  unfold AtX
  rw [upA_s, upA_upA, upd_upd]
theorem PC.at {X : hX} {a : Nat} : PC X (AtX X a) := PC.s2 (by decide)
theorem PC.no {X : hX} {n : Int32} {q : Nat} : PC X (noX X n q) := ⟨fun c a => upA_n a, by unfold noX; rw [upA_s, upd_n (by decide), upd_n (by decide)]⟩
def cN (tp : Nat → Int32) (t : Nat) (lo hi : Int32) (s : Nat) : (Int32 × Nat) ⊕ (Int32 × Nat) := if ¬ tokS tp t s = 1 then .inr (1, s) else if ¬ (lo ≤ tokV tp t s ∧ tokV tp t s ≤ hi) then .inr (2, s) else .inl (tokV tp t s, tokE tp t s)
section C10
variable {d : Nat} {X : hX} {R : hR} {TH : hT} {N t s a : Nat} {tp : Nat → Int32} {w : px_H} {Q : Option Value → px_H → Prop}
theorem AtX_2 : AtX X a 2 2 = nI a := by unfold AtX; rw [upA_s, upd_s]
theorem t38e {n : Int32} {q : Nat} : wc d 38 [.ref 2, .int n, .int (nI q)] (hp X R TH N) Q ↔ Q none (hp (noX X n q) R TH N) := by
  simp only [S38, G2, px_op_some, px_op_none, tl_some, tl_none, ap_one, ap_nil, z01, o01, true_and, and_true, true_or, or_true, i10, i01, if_true, if_false, eq_self, upA_s, upA_n, upd_s, upd_n, ne_eq, Nat.reduceEqDiff, not_false_eq_true, upA_upA]
  rfl
theorem l36 {lo hi : Int32} {K : Nat → Int32 → Prop} (hx : CT tp t X) (hK : ∀ e v l5, s ≤ e → e ≤ t → (wp (d + 1) 36 76 [some (.ref 2), some (.int lo), some (.int hi), some (.int (nI s)), some (.int v), l5] [] (hp (AtX X e) R TH N) 0 Q ↔ K e v)) : ∀ (n a : Nat) (v : Int32), a + n = t → s ≤ a → (wp (d + 1) 36 20 [some (.ref 2), some (.int lo), some (.int hi), some (.int (nI s)), some (.int v), some (.int (nI (a - s)))] [] (hp (AtX X a) R TH N) 0 Q ↔ K (nxC tp t n a v).1 (nxC tp t n a v).2) := by
  have hx' : ∀ a, CT tp t (AtX X a) := fun a => hx.pc PC.at
  have h120 := hx.2.1
  intro n
  induction n with
  | zero =>
    intro a v han hsa
    obtain rfl : a = t := by omega
    rw [show nxC tp a 0 a v = (a, v) from rfl, ← hK a v (some (.int (nI (a - s)))) hsa (Nat.le_refl _), H36_20]
    have e2 : byI tp a a = -1 := if_neg (Nat.lt_irrefl a)
    have e3 : ((-1 : Int32) < 48) = True := by decide
    by_cases hk : a - s = 120
    · have e1 : ((120 : Int32) ≤ nI (a - s)) = True := eq_true (by rw [hk]; decide)
      simp only [S36, G2, e1, px_op_some, px_op_none, tl_some, tl_none, ap_one, ap_nil, z01, o01, true_and, and_true, true_or, or_true, i10, i01, if_true, if_false, eq_self]
    · have e1 : ((120 : Int32) ≤ nI (a - s)) = False := i_nI_lt (T := 120) (by omega) (by decide)
      simp only [S36, G2, e1, t37 (hx' a) AtX_2 (Nat.le_refl _), e2, e3, px_op_some, px_op_none, tl_some, tl_none, ap_one, ap_nil, z01, o01, true_and, and_true, true_or, or_true, i10, i01, if_true, if_false, eq_self]
  | succ n ih =>
    intro a v han hsa
    have hat : a ≤ t := by omega
    have ih' := fun v => ih (a + 1) v (by omega) (by omega)
    have e1 : ((120 : Int32) ≤ nI (a - s)) = False := i_nI_lt (T := 120) (by omega) (by decide)
    have es : nI (a - s) + 1 = nI (a + 1 - s) := by rw [nI_1]; congr 1; omega
    rw [H36_20]
    by_cases hd : digI (byI tp t a)
    · rw [nxC, if_pos hd]
      have c1 : (byI tp t a < 48) = False := eq_false (by rw [Int32.not_lt]; exact hd.1)
      have c2 : (57 < byI tp t a) = False := eq_false (by rw [Int32.not_lt]; exact hd.2)
      simp only [S36, G2, e1, t37 (hx' a) AtX_2 hat, c1, c2, AtX_2, nI_1, AtX_AtX, es, ih', px_op_some, px_op_none, tl_some, tl_none, ap_one, ap_nil, z01, o01, true_and, and_true, true_or, or_true, i10, i01, if_true, if_false, eq_self]
    · rw [nxC, if_neg hd, ← hK a v (some (.int (nI (a - s)))) hsa hat]
      by_cases c1 : byI tp t a < 48
      · simp only [S36, G2, e1, t37 (hx' a) AtX_2 hat, c1, px_op_some, px_op_none, tl_some, tl_none, ap_one, ap_nil, z01, o01, true_and, and_true, true_or, or_true, i10, i01, if_true, if_false, eq_self]
      · have c2 : 57 < byI tp t a := by
          rw [← Int32.not_le]
          exact fun z => hd ⟨Int32.not_lt.mp c1, z⟩
        simp only [S36, G2, e1, t37 (hx' a) AtX_2 hat, c1, c2, px_op_some, px_op_none, tl_some, tl_none, ap_one, ap_nil, z01, o01, true_and, and_true, true_or, or_true, i10, i01, if_true, if_false, eq_self]
theorem t36f {lo hi n : Int32} {q : Nat} (hf : CF X n q) : wc (d + 1) 36 [.ref 2, .int lo, .int hi] (hp X R TH N) Q ↔ Q (some (.int lo)) (hp X R TH N) := by
  have : ¬ X 2 3 = 0 := by rw [hf.2.1]; exact hf.1
  simp only [S36, G2, this, px_op_some, px_op_none, tl_some, tl_none, ap_one, ap_nil, z01, o01, true_and, and_true, true_or, or_true, i10, i01, if_true, if_false, eq_self]
theorem t36 {lo hi : Int32} (hx : CT tp t X) (h : CS t X s) (hQ : ∀ X' v, PC X X' → (match cN tp t lo hi s with | .inl r => v = r.1 ∧ CS t X' r.2 | .inr r => CF X' r.1 r.2) → Q (some (.int v)) (hp X' R TH N)) : wc (d + 1) 36 [.ref 2, .int lo, .int hi] (hp X R TH N) Q := by
  have hl := l36 (d := d) (X := X) (R := R) (TH := TH) (N := N) (Q := Q) (lo := lo) (hi := hi) (s := s) (K := fun e v => if e - s = 0 ∨ 3 < e - s then Q (some (.int v)) (hp (noX (AtX X e) 1 s) R TH N) else if v < lo ∨ hi < v then Q (some (.int v)) (hp (noX (AtX X e) 2 s) R TH N) else Q (some (.int v)) (hp (AtX X e) R TH N)) hx (fun e v l5 he1 he2 => by
    have h120 := hx.2.1
    have eS : nI e - nI s = nI (e - s) := pk_sub he1
    simp only [S36, G2, AtX_2, eS, t38e, nI_0i (show e - s < 2 ^ 31 by omega), px_op_some, px_op_none, tl_some, tl_none, ap_one, ap_nil, z01, o01, true_and, and_true, true_or, or_true, i10, i01, if_true, if_false, eq_self]
    by_cases z : e - s = 0
    · simp only [z, true_or, if_true]
    · by_cases z3 : 3 < e - s
      · have c : (nI (e - s) ≤ 3) = False := eq_false (nI_ge (a := 3) z3 (by omega))
        simp only [z, z3, c, or_true, if_true, if_false]
      · have c : (nI (e - s) ≤ 3) = True := eq_true (nI_le (b := 3) (by omega) (by decide))
        by_cases y1 : v < lo
        · simp only [z, z3, c, y1, or_self, true_or, if_true, if_false]
        · by_cases y2 : hi < v
          · have y2' : (v ≤ hi) = False := eq_false (by rw [Int32.not_le]; exact y2)
            simp only [z, z3, c, y1, y2, y2', or_self, or_true, if_true, if_false]
          · have y2' : (v ≤ hi) = True := eq_true (Int32.not_lt.mp y2)
            simp only [z, z3, c, y1, y2, y2', or_self, if_true, if_false]) (t - s) s 0 (by have := h.2.2; omega) (Nat.le_refl _)
  have e0 : AtX X s = X := by
    have := upA_id X 2
    unfold AtX
    rw [← h.2.1]
    have eu : upd (X 2) 2 (X 2 2) = X 2 := by
      funext j
      unfold upd
      split
      · subst_vars; rfl
      · rfl
    rw [eu, upA_id]
  rw [e0, Nat.sub_self] at hl
  have hl' : wp (d + 1) 36 20 [some (.ref 2), some (.int lo), some (.int hi), some (.int (nI s)), some (.int 0), some (.int 0)] [] (hp X R TH N) 0 Q ↔ _ := hl
  have hgo : wc (d + 1) 36 [.ref 2, .int lo, .int hi] (hp X R TH N) Q ↔ wp (d + 1) 36 20 [some (.ref 2), some (.int lo), some (.int hi), some (.int (nI s)), some (.int 0), some (.int 0)] [] (hp X R TH N) 0 Q := by
    simp only [S36, G2, h.1, h.2.1, px_op_some, px_op_none, tl_some, tl_none, ap_one, ap_nil, z01, o01, true_and, and_true, true_or, or_true, i10, i01, if_true, if_false, eq_self]
  rw [hgo, hl']
  have hst := h.2.2
  have fa : ∀ e, CS t (AtX X e) e ↔ e ≤ t := fun e => ⟨fun z => z.2.2, fun z => ⟨by unfold AtX; rw [upA_s, upd_n (by decide)]; exact h.1, AtX_2, z⟩⟩
  have fn : ∀ e n, ¬ n = 0 → CF (noX (AtX X e) n s) n s := fun e n hn => ⟨hn, by unfold noX; rw [upA_s, upd_n (by decide), upd_s], by unfold noX; rw [upA_s, upd_s]⟩
  have hnx := nx_e (tp := tp) (t := t) s (t - s) s 0 0
  have hv := nx_v (tp := tp) (t := t) s (t - s) s 0 (Nat.le_refl _)
  have hle := nxL_le (tp := tp) (s := s) (t - s) s 0 hst
  generalize hC : nxC tp t (t - s) s 0 = C at hnx hv ⊢
  by_cases h1 : tokS tp t s = 1
  · -- figures, at most three
    have hnn : ¬ byI tp t s < 0 := by
      intro z
      unfold tokS at h1
      rw [if_pos z] at h1
      exact absurd h1 (by decide)
    by_cases hd : digI (byI tp t s)
    · have h3 : ¬ 3 < (nxL tp t s (t - s) s 0).1 - s := by
        intro z
        unfold tokS at h1
        rw [if_neg hnn, if_pos hd, if_pos z] at h1
        exact absurd h1 (by decide)
      have h0 : ¬ (nxL tp t s (t - s) s 0).1 - s = 0 := by
        have hlt := dig_lt hd
        obtain ⟨m, hm⟩ : ∃ m, t - s = m + 1 := ⟨t - s - 1, by omega⟩
        rw [hm, nxL, if_pos hd]
        have := (nxL_le (tp := tp) (t := t) (s := s) m (s + 1) (if s - s < 3 then 10 * 0 + byI tp t s - 48 else 0) hlt).1
        omega
      have eE : tokE tp t s = C.1 := by unfold tokE; rw [if_neg hnn, if_pos hd, hnx]
      have eV : tokV tp t s = C.2 := by unfold tokV; rw [if_neg hnn, if_pos hd, hv (by omega)]
      rw [if_neg (by rw [hnx]; exact fun z => z.elim h0 h3)]
      unfold cN at hQ
      rw [if_neg (fun z => z h1), eE, eV] at hQ
      by_cases hr : lo ≤ C.2 ∧ C.2 ≤ hi
      · rw [if_neg (fun z => z.elim (fun y => absurd hr.1 (by rw [Int32.not_le]; exact y)) (fun y => absurd hr.2 (by rw [Int32.not_le]; exact y)))]
        rw [if_neg (fun z => z hr)] at hQ
        exact hQ _ _ PC.at ⟨rfl, (fa _).mpr (by rw [hnx]; exact hle.2)⟩
      · rw [if_pos (by
          rcases Int32.lt_or_le C.2 lo with y | y
          · exact Or.inl y
          · rcases Int32.lt_or_le hi C.2 with u | u
            · exact Or.inr u
            · exact absurd ⟨y, u⟩ hr)]
        rw [if_pos hr] at hQ
        exact hQ _ _ (PC.at.tr PC.no) (fn _ _ (by decide))
    · exfalso
      unfold tokS at h1
      rw [if_neg hnn, if_neg hd] at h1
      split at h1
      · rename_i hz
        rw [h1] at hz
        exact absurd hz (by decide)
      · exact absurd h1 (by decide)
  · unfold cN at hQ
    rw [if_pos h1] at hQ
    rw [if_pos (by
      rw [hnx]
      by_cases hd : digI (byI tp t s)
      · right
        have hnn : ¬ byI tp t s < 0 := by
          rw [Int32.not_lt]
          exact Int32.le_trans (by decide) hd.1
        unfold tokS at h1
        rw [if_neg hnn, if_pos hd] at h1
        by_cases z : 3 < (nxL tp t s (t - s) s 0).1 - s
        · exact z
        · rw [if_neg z] at h1
          exact absurd rfl h1
      · left
        cases t - s with
        | zero => exact Nat.sub_self s
        | succ m => rw [nxL, if_neg hd]; exact Nat.sub_self s)]
    exact hQ _ _ (PC.at.tr PC.no) (fn _ _ (by decide))
end C10
