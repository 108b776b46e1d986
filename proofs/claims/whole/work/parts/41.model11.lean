/-! the reference reads a text: parts -/
/-- what reading leaves alone -/
def PA (X X' : hX) : Prop := (∀ c, c ≠ 51 → c ≠ 55 → X' c = X c) ∧ (∀ j, (j < 11 ∨ 16 < j) → X' 51 j = X 51 j) ∧ ∀ j, j < 135 → X' 55 j = X 55 j
theorem PA.rf (X : hX) : PA X X := ⟨fun _ _ _ => rfl, fun _ _ => rfl, fun _ _ => rfl⟩
theorem PA.tr {X Y Z : hX} (h1 : PA X Y) (h2 : PA Y Z) : PA X Z := ⟨fun c a b => (h2.1 c a b).trans (h1.1 c a b), fun j a => (h2.2.1 j a).trans (h1.2.1 j a), fun j a => (h2.2.2 j a).trans (h1.2.2 j a)⟩
theorem PA.s51 {X : hX} {j : Nat} {v : Int32} (h : 11 ≤ j ∧ j ≤ 16) : PA X (upA X 51 (upd (X 51) j v)) := ⟨fun c a _ => upA_n a, fun i a => by rw [upA_s, upd_n (by omega)], fun i _ => by rw [upA_n (by decide)]⟩
theorem PA.s55 {X : hX} {j : Nat} {v : Int32} (h : 135 ≤ j) : PA X (upA X 55 (upd (X 55) j v)) := ⟨fun c _ b => upA_n b, fun i _ => by rw [upA_n (by decide)], fun i a => by rw [upA_s, upd_n (by omega)]⟩
theorem PA.tk {X : hX} {e s : Nat} {so va : Int32} : PA X (tkX X e s so va) := by
  unfold tkX
  refine ⟨fun c a _ => upA_n a, fun i a => ?_, fun i _ => by rw [upA_n (by decide)]⟩
  rw [upA_s]
  unfold tkF
  rw [if_neg (by omega), if_neg (by omega), if_neg (by omega), if_neg (by omega)]
/-- a token stands at s, no fault; a fault n at q -/
def TS (tp : Nat → Int32) (t : Nat) (X : hX) (s : Nat) : Prop := X 51 15 = 0 ∧ X 51 12 = nI s ∧ X 51 11 = nI (tokE tp t s) ∧ X 51 13 = tokS tp t s ∧ X 51 14 = tokV tp t s ∧ s ≤ t
def TF (X : hX) (n : Int32) (q : Nat) : Prop := ¬ n = 0 ∧ X 51 15 = n ∧ X 51 16 = nI q
/-- the text that is read -/
def TXT (tp : Nat → Int32) (t : Nat) (X : hX) : Prop := X 51 10 = nI t ∧ t ≤ 120 ∧ tpM X = tp ∧ (∀ k, k < t → 0 ≤ tp k) ∧ X 51 5 = nI 135
theorem TXT.pa {tp : Nat → Int32} {t : Nat} {X X' : hX} (h : TXT tp t X) (p : PA X X') : TXT tp t X' := by
  refine ⟨by rw [p.2.1 10 (by omega)]; exact h.1, h.2.1, ?_, h.2.2.2.1, by rw [p.2.1 5 (by omega)]; exact h.2.2.2.2⟩
  rw [← h.2.2.1]
  funext k
  show X' 58 k &&& 255 = X 58 k &&& 255
  rw [p.1 58 (by decide) (by decide)]
theorem tokE_le {tp : Nat → Int32} {t s : Nat} (hby : ∀ k, k < t → 0 ≤ tp k) (h : s ≤ t) : s ≤ tokE tp t s ∧ tokE tp t s ≤ t := by
  unfold tokE
  by_cases h0 : byI tp t s < 0
  · rw [if_pos h0]; exact ⟨Nat.le_refl _, h⟩
  · rw [if_neg h0]
    have hs : s < t := by
      have := (byI_neg (a := s) hby)
      rcases Nat.lt_or_ge s t with q | q
      · exact q
      · exact absurd (this.mpr (by omega)) h0
    by_cases hd : digI (byI tp t s)
    · rw [if_pos hd]; exact nxL_le _ _ _ h
    · rw [if_neg hd]; exact ⟨by omega, hs⟩
section M13
variable {d : Nat} {X : hX} {R : hR} {TH : hT} {N t s a : Nat} {tp : Nat → Int32} {w : px_H} {Q : Option Value → px_H → Prop}
/-- next, behind a token -/
theorem n157 (hx : TXT tp t X) (h15 : X 51 15 = 0) (ha : X 51 11 = nI a) (hat : a ≤ t) (hQ : ∀ X', PA X X' → X' 55 = X 55 → TS tp t X' a → Q none (hp X' R TH N)) : wc (d + 2) 157 [.ref 51] (hp X R TH N) Q := by
  obtain ⟨h1, h2, h3, h4, h5⟩ := hx
  rw [t157 h1 h2 ha hat (by rw [h3]; exact h4), h3]
  refine hQ _ PA.tk tk_r.2.2.2.2.2.2.2.2.2 ⟨?_, tk_r.2.1, tk_r.1, tk_r.2.2.1, tk_r.2.2.2.1, hat⟩
  rw [tk_r.2.2.2.2.2.2.1]
  exact h15
theorem t158 {n : Int32} (h15 : X 51 15 = 0) (hs : X 51 12 = nI s) (hn : ¬ n = 0) (hQ : ∀ X', PA X X' → X' 55 = X 55 → TF X' n s → Q none (hp X' R TH N)) : wc d 158 [.ref 51, .int n] (hp X R TH N) Q := by
  simp only [S158, G51, h15, hs, px_op_some, px_op_none, tl_some, tl_none, ap_one, ap_nil, z01, o01, true_and, and_true, true_or, or_true, i10, i01, if_true, if_false, eq_self, upA_s, upA_n, upd_s, upd_n, ne_eq, Nat.reduceEqDiff, not_false_eq_true]
  refine hQ _ (PA.tr (PA.s51 (j := 15) (v := n) (by omega)) ?_) ?_ ⟨hn, ?_, ?_⟩
  · have := PA.s51 (X := upA X 51 (upd (X 51) 15 n)) (j := 16) (v := nI s) (by omega)
    rw [upA_s] at this
    exact this
  · rw [upA_n (by decide), upA_n (by decide)]
  · rw [upA_s, upd_n (by decide), upd_s]
  · rw [upA_s, upd_s]
theorem t159f {c n : Int32} {q : Nat} (hf : TF X n q) : wc (d + 1) 159 [.ref 51, .int c] (hp X R TH N) Q ↔ Q none (hp X R TH N) := by
  have : ¬ X 51 15 = 0 := by rw [hf.2.1]; exact hf.1
  simp only [S159, G51, this, px_op_some, px_op_none, tl_some, tl_none, ap_one, ap_nil, z01, o01, true_and, and_true, true_or, or_true, i10, i01, if_true, if_false, eq_self]
theorem t159 {c : Int32} (hx : TXT tp t X) (h : TS tp t X s) (hQ : ∀ X', PA X X' → X' 55 = X 55 → (if tokS tp t s = c then TS tp t X' (tokE tp t s) else TF X' 1 s) → Q none (hp X' R TH N)) : wc (d + 3) 159 [.ref 51, .int c] (hp X R TH N) Q := by
  simp only [S159, G51, h.1, h.2.2.2.1, px_op_some, px_op_none, tl_some, tl_none, ap_one, ap_nil, z01, o01, true_and, and_true, true_or, or_true, i10, i01, if_true, if_false, eq_self]
  by_cases hc : tokS tp t s = c
  · rw [if_pos hc]
    refine n157 hx h.1 h.2.2.1 (tokE_le hx.2.2.2.1 h.2.2.2.2.2).2 (fun X' h1 h2 h3 => ?_)
    simp only [S159, px_op_some, px_op_none, tl_some, tl_none, ap_one, ap_nil, z01, o01, true_and, and_true, true_or, or_true, i10, i01, if_true, if_false, eq_self]
    exact hQ X' h1 h2 (by rw [if_pos hc]; exact h3)
  · rw [if_neg hc]
    refine t158 h.1 h.2.1 (by decide) (fun X' h1 h2 h3 => ?_)
    simp only [S159, px_op_some, px_op_none, tl_some, tl_none, ap_one, ap_nil, z01, o01, true_and, and_true, true_or, or_true, i10, i01, if_true, if_false, eq_self]
    exact hQ X' h1 h2 (by rw [if_neg hc]; exact h3)
/-- a number and the sign behind it: the number and the next place, or a fault and its place -/
def pN (tp : Nat → Int32) (t : Nat) (lo hi c : Int32) (s : Nat) : (Int32 × Nat) ⊕ (Int32 × Nat) := if ¬ tokS tp t s = 1 then .inr (1, s) else if ¬ (lo ≤ tokV tp t s ∧ tokV tp t s ≤ hi) then .inr (2, s) else if tokS tp t (tokE tp t s) = c then .inl (tokV tp t s, tokE tp t (tokE tp t s)) else .inr (1, tokE tp t s)
theorem t161f {lo hi c n : Int32} {q : Nat} (hf : TF X n q) : wc (d + 4) 161 [.ref 51, .int lo, .int hi, .int c] (hp X R TH N) Q ↔ Q (some (.int (X 51 14))) (hp X R TH N) := by
  have h0 : ¬ X 51 15 = 0 := by rw [hf.2.1]; exact hf.1
  have h160 : ∀ (d : Nat) (m : Int32) (Q : Option Value → px_H → Prop), wc (d + 3) 160 [.ref 51, .int lo, .int hi, .int m] (hp X R TH N) Q ↔ Q (some (.int (X 51 14))) (hp X R TH N) := by
    intro d m Q
    simp only [S160, G51, h0, px_op_some, px_op_none, tl_some, tl_none, ap_one, ap_nil, z01, o01, true_and, and_true, true_or, or_true, i10, i01, if_true, if_false, eq_self]
  simp only [S161, G51, h160, t159f hf, px_op_some, px_op_none, tl_some, tl_none, ap_one, ap_nil, z01, o01, true_and, and_true, true_or, or_true, i10, i01, if_true, if_false, eq_self]
theorem t161 {lo hi c : Int32} (hlo : 0 ≤ lo) (hx : TXT tp t X) (h : TS tp t X s) (hQ : ∀ X' v, PA X X' → X' 55 = X 55 → (match pN tp t lo hi c s with | .inl r => v = r.1 ∧ TS tp t X' r.2 | .inr r => TF X' r.1 r.2) → Q (some (.int v)) (hp X' R TH N)) : wc (d + 4) 161 [.ref 51, .int lo, .int hi, .int c] (hp X R TH N) Q := by
  simp only [S161, G51, px_op_some, px_op_none, tl_some, tl_none, ap_one, ap_nil, z01, o01, true_and, and_true, true_or, or_true, i10, i01, if_true, if_false, eq_self]
  rw [(S160).1]
  by_cases h1 : tokS tp t s = 1
  · by_cases h2 : lo ≤ tokV tp t s ∧ tokV tp t s ≤ hi
    · have hm1 : (tokV tp t s = -1) = False := eq_false (fun e => by
        have := Int32.le_trans hlo h2.1
        rw [e] at this
        exact absurd this (by decide))
      simp only [S160, G51, h.1, h.2.2.2.1, h.2.2.2.2.1, h1, h2, hm1, t140, b2_0, and_self, not_true_eq_false, px_op_some, px_op_none, tl_some, tl_none, ap_one, ap_nil, z01, o01, true_and, and_true, true_or, or_true, i10, i01, if_true, if_false, eq_self]
      refine n157 hx h.1 h.2.2.1 (tokE_le hx.2.2.2.1 h.2.2.2.2.2).2 (fun X' p1 p2 p3 => ?_)
      simp only [S160, S161, px_op_some, px_op_none, tl_some, tl_none, ap_one, ap_nil, z01, o01, true_and, and_true, true_or, or_true, i10, i01, if_true, if_false, eq_self]
      have hx' := hx.pa p1
      refine t159 hx' p3 (fun X2 q1 q2 q3 => ?_)
      simp only [S161, px_op_some, px_op_none, tl_some, tl_none, ap_one, ap_nil, z01, o01, true_and, and_true, true_or, or_true, i10, i01, if_true, if_false, eq_self]
      refine hQ X2 _ (p1.tr q1) (q2.trans p2) ?_
      unfold pN
      rw [if_neg (fun z => z h1), if_neg (fun z => z h2)]
      by_cases hc : tokS tp t (tokE tp t s) = c
      · rw [if_pos hc] at q3
        rw [if_pos hc]
        exact ⟨rfl, q3⟩
      · rw [if_neg hc] at q3
        rw [if_neg hc]
        exact q3
    · simp only [S160, G51, h.1, h.2.2.2.1, h.2.2.2.2.1, h1, h2, t140, b2_0, not_false_eq_true, px_op_some, px_op_none, tl_some, tl_none, ap_one, ap_nil, z01, o01, true_and, and_true, true_or, or_true, i10, i01, if_true, if_false, eq_self]
      refine t158 h.1 h.2.1 (by decide) (fun X' p1 p2 p3 => ?_)
      simp only [S160, S161, G51, t159f p3, px_op_some, px_op_none, tl_some, tl_none, ap_one, ap_nil, z01, o01, true_and, and_true, true_or, or_true, i10, i01, if_true, if_false, eq_self]
      refine hQ X' _ p1 p2 ?_
      unfold pN
      rw [if_neg (fun z => z h1), if_pos h2]
      exact p3
  · simp only [S160, G51, h.1, h.2.2.2.1, h.2.2.2.2.1, h1, px_op_some, px_op_none, tl_some, tl_none, ap_one, ap_nil, z01, o01, true_and, and_true, true_or, or_true, i10, i01, if_true, if_false, eq_self]
    refine t158 h.1 h.2.1 (by decide) (fun X' p1 p2 p3 => ?_)
    simp only [S160, S161, G51, t159f p3, px_op_some, px_op_none, tl_some, tl_none, ap_one, ap_nil, z01, o01, true_and, and_true, true_or, or_true, i10, i01, if_true, if_false, eq_self]
    refine hQ X' _ p1 p2 ?_
    unfold pN
    rw [if_pos h1]
    exact p3
/-- the draft -/
def rD (X : hX) : Nat → Int32 := fun k => X 55 (135 + k)
theorem gb {k : Nat} {x : Int32} (hx : TXT tp t X) (h : x = nI k) (hk : k < 45) : wc d 149 [.ref 51, .int x] (hp X R TH N) Q ↔ Q (some (.int (rD X k))) (hp X R TH N) := t149b (b := 135) hx.2.2.2.2 h (by omega)
theorem pb {k : Nat} {x v : Int32} (hx : TXT tp t X) (h : x = nI k) (hk : k < 45) : wc d 150 [.ref 51, .int x, .int v] (hp X R TH N) Q ↔ Q none (hp (upA X 55 (upd (X 55) (135 + k) v)) R TH N) := t150b (b := 135) hx.2.2.2.2 h (by omega)
theorem rD_p {k : Nat} {v : Int32} : rD (upA X 55 (upd (X 55) (135 + k) v)) = upd (rD X) k v := by
  funext j
  unfold rD
  rw [upA_s]
  unfold upd
  by_cases h : j = k
  · subst h; simp
  · rw [if_neg (by omega), if_neg h]
theorem TS.p55 {f : Nat → Int32} (h : TS tp t X s) : TS tp t (upA X 55 f) s := by
  unfold TS
  rw [upA_n (by decide)]
  exact h
/-- a thing's part -/
def thU (ρ : Nat → Int32) (k far price : Int32) (T : Nat) : Nat → Int32 := upd (upd (upd (upd (upd ρ (5 + 4 * T) k) (5 + 4 * T + 1) far) (5 + 4 * T + 2) price) (5 + 4 * T + 3) (-1000000)) 1 (nI (T + 1))
def pT (tp : Nat → Int32) (t : Nat) (ρ : Nat → Int32) (T : Nat) (s : Nat) : ((Nat → Int32) × Nat) ⊕ (Int32 × Nat) := if T = 8 then .inr (3, s) else match pN tp t 0 9 44 (tokE tp t s) with
  | .inr e => .inr e
  | .inl r => (match pN tp t 0 20 59 r.2 with
    | .inr e => .inr e
    | .inl q => .inl (thU ρ (kindI (tokS tp t s)) r.1 q.1 T, q.2))
theorem t163 {T : Nat} (hx : TXT tp t X) (h : TS tp t X s) (hT : rD X 1 = nI T) (h8 : T ≤ 8) (hQ : ∀ X', PA X X' → (match pT tp t (rD X) T s with | .inl r => rD X' = r.1 ∧ TS tp t X' r.2 | .inr e => TF X' e.1 e.2) → Q none (hp X' R TH N)) : wc (d + 5) 163 [.ref 51] (hp X R TH N) Q := by
  have e8 : (nI T = 8) = (T = 8) := propext (nI_eq (b := 8) (by omega) (by decide))
  simp only [S163, G51, h.2.2.2.1, t162, gb (k := 1) (x := 1) hx rfl (by decide), hT, e8, px_op_some, px_op_none, tl_some, tl_none, ap_one, ap_nil, z01, o01, true_and, and_true, true_or, or_true, i10, i01, if_true, if_false, eq_self]
  by_cases hT8 : T = 8
  · rw [if_pos hT8]
    refine t158 h.1 h.2.1 (by decide) (fun X' p1 p2 p3 => ?_)
    simp only [S163, px_op_some, px_op_none, tl_some, tl_none, ap_one, ap_nil, z01, o01, true_and, and_true, true_or, or_true, i10, i01, if_true, if_false, eq_self]
    refine hQ X' p1 ?_
    unfold pT
    rw [if_pos hT8]
    exact p3
  · rw [if_neg hT8]
    refine n157 hx h.1 h.2.2.1 (tokE_le hx.2.2.2.1 h.2.2.2.2.2).2 (fun X1 p1 p2 p3 => ?_)
    have hx1 := hx.pa p1
    simp only [S163, G51, px_op_some, px_op_none, tl_some, tl_none, ap_one, ap_nil, z01, o01, true_and, and_true, true_or, or_true, i10, i01, if_true, if_false, eq_self]
    refine t161 (by decide) hx1 p3 (fun X2 v q1 q2 q3 => ?_)
    have hx2 := hx1.pa q1
    simp only [S163, G51, px_op_some, px_op_none, tl_some, tl_none, ap_one, ap_nil, z01, o01, true_and, and_true, true_or, or_true, i10, i01, if_true, if_false, eq_self]
    cases hn : pN tp t 0 9 44 (tokE tp t s) with
    | inr e =>
      rw [hn] at q3
      rw [t161f (n := e.1) (q := e.2) q3]
      have h0 : ¬ X2 51 15 = 0 := by rw [q3.2.1]; exact q3.1
      simp only [S163, G51, h0, px_op_some, px_op_none, tl_some, tl_none, ap_one, ap_nil, z01, o01, true_and, and_true, true_or, or_true, i10, i01, if_true, if_false, eq_self]
      refine hQ X2 (p1.tr q1) ?_
      unfold pT
      rw [if_neg hT8, hn]
      exact q3
    | inl r =>
      rw [hn] at q3
      obtain ⟨rfl, q3⟩ := q3
      refine t161 (by decide) hx2 q3 (fun X3 v3 r1 r2 r3 => ?_)
      have hx3 := hx2.pa r1
      cases hn2 : pN tp t 0 20 59 r.2 with
      | inr e =>
        rw [hn2] at r3
        have h0 : ¬ X3 51 15 = 0 := by rw [r3.2.1]; exact r3.1
        simp only [S163, G51, h0, px_op_some, px_op_none, tl_some, tl_none, ap_one, ap_nil, z01, o01, true_and, and_true, true_or, or_true, i10, i01, if_true, if_false, eq_self]
        refine hQ X3 ((p1.tr q1).tr r1) ?_
        unfold pT
        rw [if_neg hT8, hn]
        dsimp only
        rw [hn2]
        exact r3
      | inl q =>
        rw [hn2] at r3
        obtain ⟨rfl, r3⟩ := r3
        have hD : rD X3 = rD X := by unfold rD; rw [r2, q2, p2]
        have hT3 : rD X3 1 = nI T := by rw [hD]; exact hT
        have e0 : (5 : Int32) + 4 * nI T + 0 = nI (5 + 4 * T) := by rw [show (5 : Int32) = nI 5 from rfl, show (4 : Int32) = nI 4 from rfl, show (0 : Int32) = nI 0 from rfl, pk_mul, nI_add, nI_add]; rfl
        have e1 : (5 : Int32) + 4 * nI T + 1 = nI (5 + 4 * T + 1) := by rw [show (5 : Int32) = nI 5 from rfl, show (4 : Int32) = nI 4 from rfl, show (1 : Int32) = nI 1 from rfl, pk_mul, nI_add, nI_add]
        have e2 : (5 : Int32) + 4 * nI T + 2 = nI (5 + 4 * T + 2) := by rw [show (5 : Int32) = nI 5 from rfl, show (4 : Int32) = nI 4 from rfl, show (2 : Int32) = nI 2 from rfl, pk_mul, nI_add, nI_add]
        have e3 : (5 : Int32) + 4 * nI T + 3 = nI (5 + 4 * T + 3) := by rw [show (5 : Int32) = nI 5 from rfl, show (4 : Int32) = nI 4 from rfl, show (3 : Int32) = nI 3 from rfl, pk_mul, nI_add, nI_add]
        simp only [S163, G51, r3.1, gb (k := 1) (x := 1) hx3 rfl (by decide), hT3, px_op_some, px_op_none, tl_some, tl_none, ap_one, ap_nil, z01, o01, true_and, and_true, true_or, or_true, i10, i01, if_true, if_false, eq_self]
        generalize hk : kindI (tokS tp t s) = kk
        rw [pb (k := 5 + 4 * T) hx3 e0 (by omega)]
        have y1 := hx3.pa (PA.s55 (j := 135 + (5 + 4 * T)) (v := kk) (by omega))
        simp only [S163, G51, px_op_some, px_op_none, tl_some, tl_none, ap_one, ap_nil, z01, o01, true_and, and_true, true_or, or_true, i10, i01, if_true, if_false, eq_self]
        generalize hX4 : upA X3 55 (upd (X3 55) (135 + (5 + 4 * T)) kk) = X4 at y1 ⊢
        rw [pb (k := 5 + 4 * T + 1) y1 e1 (by omega)]
        have y2 := y1.pa (PA.s55 (j := 135 + (5 + 4 * T + 1)) (v := r.1) (by omega))
        simp only [S163, G51, px_op_some, px_op_none, tl_some, tl_none, ap_one, ap_nil, z01, o01, true_and, and_true, true_or, or_true, i10, i01, if_true, if_false, eq_self]
        generalize hX5 : upA X4 55 (upd (X4 55) (135 + (5 + 4 * T + 1)) r.1) = X5 at y2 ⊢
        rw [pb (k := 5 + 4 * T + 2) y2 e2 (by omega)]
        have y3 := y2.pa (PA.s55 (j := 135 + (5 + 4 * T + 2)) (v := q.1) (by omega))
        simp only [S163, G51, px_op_some, px_op_none, tl_some, tl_none, ap_one, ap_nil, z01, o01, true_and, and_true, true_or, or_true, i10, i01, if_true, if_false, eq_self]
        generalize hX6 : upA X5 55 (upd (X5 55) (135 + (5 + 4 * T + 2)) q.1) = X6 at y3 ⊢
        rw [pb (k := 5 + 4 * T + 3) y3 e3 (by omega)]
        have y4 := y3.pa (PA.s55 (j := 135 + (5 + 4 * T + 3)) (v := -1000000) (by omega))
        simp only [S163, G51, px_op_some, px_op_none, tl_some, tl_none, ap_one, ap_nil, z01, o01, true_and, and_true, true_or, or_true, i10, i01, if_true, if_false, eq_self]
        generalize hX7 : upA X6 55 (upd (X6 55) (135 + (5 + 4 * T + 3)) (-1000000)) = X7 at y4 ⊢
        have d7 : rD X7 = upd (upd (upd (upd (rD X) (5 + 4 * T) kk) (5 + 4 * T + 1) r.1) (5 + 4 * T + 2) q.1) (5 + 4 * T + 3) (-1000000) := by
          rw [← hX7, rD_p, ← hX6, rD_p, ← hX5, rD_p, ← hX4, rD_p, hD]
        have d71 : rD X7 1 = nI T := by
          rw [d7, upd_n (by omega), upd_n (by omega), upd_n (by omega), upd_n (by omega)]
          exact hT
        simp only [gb (k := 1) (x := 1) y4 rfl (by decide), pb (k := 1) (x := 1) y4 rfl (by decide), S163, G51, px_op_some, px_op_none, tl_some, tl_none, ap_one, ap_nil, z01, o01, true_and, and_true, true_or, or_true, i10, i01, if_true, if_false, eq_self, d71, nI_1]
        have pa7 : PA X3 X7 := by
          rw [← hX7, ← hX6, ← hX5, ← hX4]
          exact ((((PA.s55 (by omega)).tr (PA.s55 (by omega))).tr (PA.s55 (by omega))).tr (PA.s55 (by omega)))
        have ts7 : TS tp t X7 q.2 := by
          rw [← hX7, ← hX6, ← hX5, ← hX4]
          exact r3.p55.p55.p55.p55
        refine hQ _ ((((p1.tr q1).tr r1).tr pa7).tr (PA.s55 (j := 135 + 1) (v := nI (T + 1)) (by omega))) ?_
        unfold pT
        rw [if_neg hT8, hn]
        dsimp only
        rw [hn2]
        refine ⟨?_, ts7.p55⟩
        rw [rD_p, d7, hk]
        rfl
end M13
