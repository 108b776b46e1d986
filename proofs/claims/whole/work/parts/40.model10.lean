/-! the reference reads a text: tokens -/
/-- the byte at place a of a text of t bytes; -1 behind it -/
def byI (tp : Nat → Int32) (t a : Nat) : Int32 := if a < t then tp a else -1
abbrev digI (c : Int32) : Prop := 48 ≤ c ∧ c ≤ 57
/-- figures from place a on: where they end, and the number of the first three from place s -/
def nxL (tp : Nat → Int32) (t s : Nat) : Nat → Nat → Int32 → Nat × Int32
  | 0, a, v => (a, v)
  | n + 1, a, v => if digI (byI tp t a) then nxL tp t s n (a + 1) (if a - s < 3 then 10 * v + byI tp t a - 48 else v) else (a, v)
/-- the token at place s: its end, sort, value -/
def tokE (tp : Nat → Int32) (t s : Nat) : Nat := if byI tp t s < 0 then s else if digI (byI tp t s) then (nxL tp t s (t - s) s 0).1 else s + 1
def tokV (tp : Nat → Int32) (t s : Nat) : Int32 := if byI tp t s < 0 then 0 else if digI (byI tp t s) then (nxL tp t s (t - s) s 0).2 else 0
def tokS (tp : Nat → Int32) (t s : Nat) : Int32 := if byI tp t s < 0 then 0 else if digI (byI tp t s) then (if 3 < (nxL tp t s (t - s) s 0).1 - s then -1 else 1) else if (97 ≤ byI tp t s ∧ byI tp t s ≤ 122) ∨ byI tp t s = 44 ∨ byI tp t s = 59 then byI tp t s else -1
/-- the reference's cell with a token read: at, start, sort, value -/
def tkF (f : Nat → Int32) (e s : Nat) (so va : Int32) : Nat → Int32 := fun j => if j = 11 then nI e else if j = 12 then nI s else if j = 13 then so else if j = 14 then va else f j
def tkX (X : hX) (e s : Nat) (so va : Int32) : hX := upA X 51 (tkF (X 51) e s so va)
theorem tkX_tkX (X : hX) (e s e' s' : Nat) (so va so' va' : Int32) : tkX (tkX X e s so va) e' s' so' va' = tkX X e' s' so' va' := by
  unfold tkX
  rw [upA_s, upA_upA]
  congr 1
  funext j
  unfold tkF
  split
  · rfl
  split
  · rfl
  split
  · rfl
  split <;> rfl
theorem tk_11 (X : hX) (e s e' : Nat) (so va : Int32) : upA (tkX X e s so va) 51 (upd ((tkX X e s so va) 51) 11 (nI e')) = tkX X e' s so va := by
  unfold tkX
  rw [upA_s, upA_upA]
  congr 1
  funext j
  unfold tkF upd
  by_cases h : j = 11
  · subst h; rfl
  · simp [h]
theorem tk_14 (X : hX) (e s : Nat) (so va v : Int32) : upA (tkX X e s so va) 51 (upd ((tkX X e s so va) 51) 14 v) = tkX X e s so v := by
  unfold tkX
  rw [upA_s, upA_upA]
  congr 1
  funext j
  unfold tkF upd
  by_cases h : j = 14
  · subst h; rfl
  · simp [h]
theorem tk_13 (X : hX) (e s : Nat) (so va v : Int32) : upA (tkX X e s so va) 51 (upd ((tkX X e s so va) 51) 13 v) = tkX X e s v va := by
  unfold tkX
  rw [upA_s, upA_upA]
  congr 1
  funext j
  unfold tkF upd
  by_cases h : j = 13
  · subst h; rfl
  · simp [h]
theorem tk_in {X : hX} {a s : Nat} (ha : X 51 11 = nI a) : upA (upA X 51 (upd (X 51) 12 (nI s))) 51 (upd (upd (X 51) 12 (nI s)) 14 0) = tkX X a s (X 51 13) 0 := by
  unfold tkX
  rw [upA_upA]
  congr 1
  funext j
  unfold tkF upd
  by_cases h1 : j = 14
  · subst h1; rfl
  by_cases h2 : j = 12
  · subst h2; rfl
  by_cases h3 : j = 11
  · subst h3; simp [ha]
  by_cases h4 : j = 13
  · subst h4; simp
  · simp [h1, h2, h3, h4]
theorem tk_r {X : hX} {e s : Nat} {so va : Int32} : (tkX X e s so va) 51 11 = nI e ∧ (tkX X e s so va) 51 12 = nI s ∧ (tkX X e s so va) 51 13 = so ∧ (tkX X e s so va) 51 14 = va ∧ (tkX X e s so va) 51 10 = X 51 10 ∧ (tkX X e s so va) 51 5 = X 51 5 ∧ (tkX X e s so va) 51 15 = X 51 15 ∧ (tkX X e s so va) 51 16 = X 51 16 ∧ (tkX X e s so va) 58 = X 58 ∧ (tkX X e s so va) 55 = X 55 := by
  unfold tkX tkF
  simp only [upA_s]
  refine ⟨rfl, rfl, rfl, rfl, rfl, rfl, rfl, rfl, ?_, ?_⟩
  · rw [upA_n (by decide)]
  · rw [upA_n (by decide)]
theorem byI_neg {tp : Nat → Int32} {t a : Nat} (h : ∀ k, k < t → 0 ≤ tp k) : byI tp t a < 0 ↔ ¬ a < t := by
  unfold byI
  by_cases ha : a < t
  · rw [if_pos ha]
    exact ⟨fun h1 => absurd (h a ha) (by rw [Int32.not_le]; exact h1), fun h1 => absurd ha h1⟩
  · rw [if_neg ha]
    exact ⟨fun _ => ha, fun _ => by decide⟩
section M12
variable {d : Nat} {X : hX} {R : hR} {TH : hT} {N t s a : Nat} {w : px_H} {Q : Option Value → px_H → Prop}
abbrev tpM (X : hX) : Nat → Int32 := fun k => X 58 k &&& 255
theorem t156 (ht : X 51 10 = nI t) (h120 : t ≤ 120) (ha : X 51 11 = nI a) (hat : a ≤ t) : wc d 156 [.ref 51] (hp X R TH N) Q ↔ Q (some (.int (byI (tpM X) t a))) (hp X R TH N) := by
  by_cases h : a < t
  · have e : (nI t ≤ nI a) = False := i_nI_lt h (by omega)
    have e2 : byI (tpM X) t a = X 58 a &&& 255 := if_pos h
    simp only [S156, G51, ht, ha, px_op_some, px_op_none, tl_some, tl_none, ap_one, ap_nil, z01, o01, true_and, and_true, true_or, or_true, i10, i01, if_true, if_false, eq_self, e, A58_g (show a < 120 by omega), e2]
  · obtain rfl : a = t := by omega
    have e2 : byI (tpM X) a a = -1 := if_neg h
    simp only [S156, G51, ht, ha, px_op_some, px_op_none, tl_some, tl_none, ap_one, ap_nil, z01, o01, true_and, and_true, true_or, or_true, i10, i01, if_true, if_false, eq_self, i_nI_le, e2]
theorem dig_lt {tp : Nat → Int32} (h : digI (byI tp t a)) : a < t := by
  rcases Nat.lt_or_ge a t with h1 | h1
  · exact h1
  · have e : byI tp t a = -1 := if_neg (by omega)
    rw [e] at h
    exact absurd h.1 (by decide)
theorem nxL_le {tp : Nat → Int32} : ∀ (n a : Nat) (v : Int32), a ≤ t → a ≤ (nxL tp t s n a v).1 ∧ (nxL tp t s n a v).1 ≤ t := by
  intro n
  induction n with
  | zero => intro a v h; exact ⟨Nat.le_refl _, h⟩
  | succ n ih =>
    intro a v h
    unfold nxL
    by_cases hd : digI (byI tp t a)
    · rw [if_pos hd]
      have := ih (a + 1) (if a - s < 3 then 10 * v + byI tp t a - 48 else v) (dig_lt hd)
      exact ⟨by omega, this.2⟩
    · rw [if_neg hd]
      exact ⟨Nat.le_refl _, h⟩
/-- the loop over figures: K is what stands behind it -/
theorem l157 {c : Int32} {K : Nat → Int32 → Prop} (ht : X 51 10 = nI t) (h120 : t ≤ 120) (hK : ∀ e v, s ≤ e → e ≤ t → (wp (d + 2) 157 107 [some (.ref 51), some (.int c)] [] (hp (tkX X e s (X 51 13) v) R TH N) 0 Q ↔ K e v)) : ∀ (n a : Nat) (v : Int32), a + n = t → s ≤ a → (wp (d + 2) 157 41 [some (.ref 51), some (.int c)] [] (hp (tkX X a s (X 51 13) v) R TH N) 0 Q ↔ K (nxL (tpM X) t s n a v).1 (nxL (tpM X) t s n a v).2) := by
  have f10 : ∀ e v, (tkX X e s (X 51 13) v) 51 10 = nI t := fun e v => by rw [tk_r.2.2.2.2.1]; exact ht
  have f11 : ∀ e v, (tkX X e s (X 51 13) v) 51 11 = nI e := fun e v => tk_r.1
  have f58 : ∀ e v, tpM (tkX X e s (X 51 13) v) = tpM X := fun e v => by unfold tpM; rw [tk_r.2.2.2.2.2.2.2.2.1]
  intro n
  induction n with
  | zero =>
    intro a v han hsa
    obtain rfl : a = t := by omega
    have e2 : byI (tpM X) a a = -1 := if_neg (Nat.lt_irrefl a)
    have e3 : ((48 : Int32) ≤ -1 ∧ (-1 : Int32) ≤ 57) = False := by decide
    rw [show nxL (tpM X) a s 0 a v = (a, v) from rfl]
    rw [← hK a v hsa (Nat.le_refl _), H157_41]
    simp only [S157, G51, t156 (f10 a v) h120 (f11 a v) (Nat.le_refl _), t140, f58, e2, e3, px_op_some, px_op_none, tl_some, tl_none, ap_one, ap_nil, z01, o01, true_and, and_true, true_or, or_true, i10, i01, if_true, if_false, eq_self, b2_0, not_false_eq_true]
  | succ n ih =>
    intro a v han hsa
    have hat : a ≤ t := by omega
    have ih' := fun v => ih (a + 1) v (by omega) (by omega)
    rw [H157_41]
    by_cases hd : digI (byI (tpM X) t a)
    · rw [nxL, if_pos hd]
      have hd' : (¬ (48 ≤ byI (tpM X) t a ∧ byI (tpM X) t a ≤ 57)) = False := eq_false (fun z => z hd)
      by_cases h3 : a - s < 3
      · have e : ((3 : Int32) ≤ nI a - nI s) = False := by
          rw [pk_sub hsa]
          exact i_nI_lt (T := 3) h3 (by decide)
        simp only [S157, G51, t156 (f10 a _) h120 (f11 a _) hat, t140, f58, hd', tk_r, e, tk_14, tk_11, nI_1, ih', px_op_some, px_op_none, tl_some, tl_none, ap_one, ap_nil, z01, o01, true_and, and_true, true_or, or_true, i10, i01, if_true, if_false, eq_self, b2_0, h3]
      · have e : ((3 : Int32) ≤ nI a - nI s) = True := by
          rw [pk_sub hsa]
          exact eq_true (nI_le (a := 3) (by omega) (by omega))
        simp only [S157, G51, t156 (f10 a _) h120 (f11 a _) hat, t140, f58, hd', tk_r, e, tk_14, tk_11, nI_1, ih', px_op_some, px_op_none, tl_some, tl_none, ap_one, ap_nil, z01, o01, true_and, and_true, true_or, or_true, i10, i01, if_true, if_false, eq_self, b2_0, h3]
    · rw [nxL, if_neg hd, ← hK a v hsa hat]
      have hd' : (¬ (48 ≤ byI (tpM X) t a ∧ byI (tpM X) t a ≤ 57)) = True := eq_true hd
      simp only [S157, G51, t156 (f10 a _) h120 (f11 a _) hat, t140, f58, hd', px_op_some, px_op_none, tl_some, tl_none, ap_one, ap_nil, z01, o01, true_and, and_true, true_or, or_true, i10, i01, if_true, if_false, eq_self, b2_0]
/-- next: the token at the place where the last one ended -/
theorem t157 (ht : X 51 10 = nI t) (h120 : t ≤ 120) (ha : X 51 11 = nI a) (hat : a ≤ t) (hby : ∀ k, k < t → 0 ≤ tpM X k) : wc (d + 2) 157 [.ref 51] (hp X R TH N) Q ↔ Q none (hp (tkX X (tokE (tpM X) t a) a (tokS (tpM X) t a) (tokV (tpM X) t a)) R TH N) := by
  have hm : ∀ v, upA X 51 (upd (X 51) 12 v) 51 = upd (X 51) 12 v := fun v => upA_s _ _ _
  have f10 : ∀ v, (tkX X a a (X 51 13) v) 51 10 = nI t := fun v => by rw [tk_r.2.2.2.2.1]; exact ht
  have f58 : ∀ v, tpM (tkX X a a (X 51 13) v) = tpM X := fun v => by unfold tpM; rw [tk_r.2.2.2.2.2.2.2.2.1]
  unfold tokE tokS tokV
  by_cases h0 : byI (tpM X) t a < 0
  · have h0' : (0 ≤ byI (tpM X) t a) = False := eq_false (by rw [Int32.not_le]; exact h0)
    simp only [S157, G51, ha, hm, tk_in ha, t156 (f10 0) h120 tk_r.1 hat, f58, h0', tk_13, px_op_some, px_op_none, tl_some, tl_none, ap_one, ap_nil, z01, o01, true_and, and_true, true_or, or_true, i10, i01, if_true, if_false, eq_self, if_pos h0]
  · have h0' : (0 ≤ byI (tpM X) t a) = True := eq_true (Int32.not_lt.mp h0)
    simp only [if_neg h0]
    by_cases hd : digI (byI (tpM X) t a)
    · have hd' : (¬ (48 ≤ byI (tpM X) t a ∧ byI (tpM X) t a ≤ 57)) = False := eq_false (fun z => z hd)
      have hl := l157 (d := d) (X := X) (R := R) (TH := TH) (N := N) (Q := Q) (s := a) (c := byI (tpM X) t a) (K := fun e v => Q none (hp (tkX X e a (if 3 < e - a then -1 else 1) v) R TH N)) ht h120 (fun e v he1 he2 => by
        by_cases h3 : 3 < e - a
        · have e1 : (nI e - nI a ≤ 3) = False := by rw [pk_sub he1]; exact eq_false (nI_ge (a := 3) h3 (by omega))
          simp only [S157, G51, tk_r, e1, tk_13, h3, px_op_some, px_op_none, tl_some, tl_none, ap_one, ap_nil, z01, o01, true_and, and_true, true_or, or_true, i10, i01, if_true, if_false, eq_self]
        · have e1 : (nI e - nI a ≤ 3) = True := by rw [pk_sub he1]; exact eq_true (nI_le (b := 3) (by omega) (by decide))
          simp only [S157, G51, tk_r, e1, tk_13, h3, px_op_some, px_op_none, tl_some, tl_none, ap_one, ap_nil, z01, o01, true_and, and_true, true_or, or_true, i10, i01, if_true, if_false, eq_self]) (t - a) a 0 (by omega) (Nat.le_refl _)
      simp only [if_pos hd]
      rw [← hl]
      simp only [S157, G51, ha, hm, tk_in ha, t156 (f10 0) h120 tk_r.1 hat, f58, h0', t140, hd', b2_0, px_op_some, px_op_none, tl_some, tl_none, ap_one, ap_nil, z01, o01, true_and, and_true, true_or, or_true, i10, i01, if_true, if_false, eq_self]
    · have hd' : (¬ (48 ≤ byI (tpM X) t a ∧ byI (tpM X) t a ≤ 57)) = True := eq_true hd
      simp only [if_neg hd]
      simp only [S157, G51, ha, hm, tk_in ha, t156 (f10 0) h120 tk_r.1 hat, f58, h0', t140, hd', b2_0, tk_r, tk_11, tk_13, nI_1, px_op_some, px_op_none, tl_some, tl_none, ap_one, ap_nil, z01, o01, true_and, and_true, true_or, or_true, i10, i01, if_true, if_false, eq_self]
      by_cases hl : 97 ≤ byI (tpM X) t a ∧ byI (tpM X) t a ≤ 122
      · simp only [hl, and_self, not_true_eq_false, true_or, if_true, if_false]
      · by_cases h44 : byI (tpM X) t a = 44
        · simp only [hl, h44, not_false_eq_true, or_true, true_or, if_true]
          simp
        · by_cases h59 : byI (tpM X) t a = 59
          · simp only [hl, h44, h59, not_false_eq_true, or_true, if_true, if_false]
            simp
          · simp only [hl, h44, h59, not_false_eq_true, or_false, if_true, if_false]
end M12
