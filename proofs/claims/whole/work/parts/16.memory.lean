/-! the heap of the law's run, as a memory of numbers: X p j is the number in slot (or place) j of cell p; R p j the thing at place j of the array p; TH the things; N how many cells -/
abbrev hX : Type := Nat → Nat → Int32
abbrev hR : Type := Nat → Nat → Option Nat
abbrev hT : Type := Nat → Option px_E
def h_lay : List ((FieldType × Nat) ⊕ ((String × Nat) ⊕ (Nat × List (Option Nat)))) :=
  let iA := fun (n : Nat) => (Sum.inl (FieldType.int, n) : (FieldType × Nat) ⊕ ((String × Nat) ⊕ (Nat × List (Option Nat))))
  let row := fun (p : Nat) => (Sum.inr (Sum.inr (6, [some (p + 1), none, none])) : (FieldType × Nat) ⊕ ((String × Nat) ⊕ (Nat × List (Option Nat))))
  let realm := fun (p : Nat) => (Sum.inr (Sum.inr (5, [some (p + 1), some (p + 2), some (p + 3), some (p + 4), none, none, none, none, none, none])) : (FieldType × Nat) ⊕ ((String × Nat) ⊕ (Nat × List (Option Nat))))
  let tA := (Sum.inr (Sum.inl ("AllSworn$Thing", 8)) : (FieldType × Nat) ⊕ ((String × Nat) ⊕ (Nat × List (Option Nat))))
  [.inr (.inr (10, [some 1, some 2, some 4, some 9, some 14, some 15, some 23, none, none])), .inr (.inl ("AllSworn$Row", 8)), .inr (.inr (4, [some 3, none, none, none, none])), iA 120,
   realm 4, tA, iA 8, iA 8, iA 96, realm 9, tA, iA 8, iA 8, iA 96, .inr (.inl ("AllSworn$Realm", 2)),
   .inr (.inr (2, [some 16, some 21, some 22, none, none])), realm 16, tA, iA 8, iA 8, iA 96, iA 4, iA 4, .inr (.inr (7, [some 24, none])), iA 16,
   row 25, iA 40, row 27, iA 40, row 29, iA 40, row 31, iA 40, row 33, iA 40, row 35, iA 40, row 37, iA 40, row 39, iA 40,
   realm 41, tA, iA 8, iA 8, iA 96, realm 46, tA, iA 8, iA 8, iA 96,
   .inr (.inr (11, [some 52, some 53, some 54, none, some 55, none, some 56, some 57, none, some 58, none, none, none, none, none, none, none, none, some 59, some 60, none, some 61, none])),
   iA 8, iA 8, iA 320, iA 180, .inl (.boolean, 2), iA 96, .inl (.byte, 120), iA 8, iA 4, iA 16]
def h_sl : Nat → List (Option Nat) → (Nat → Int32) → List Value
  | _, [], _ => []
  | j, none :: s, x => .int (x j) :: h_sl (j + 1) s x
  | j, some q :: s, x => .ref q :: h_sl (j + 1) s x
def h_cell (l : (FieldType × Nat) ⊕ ((String × Nat) ⊕ (Nat × List (Option Nat)))) (x : Nat → Int32) (r : Nat → Option Nat) : px_E := match l with
  | .inl q => .inl (q.1, q.2, x)
  | .inr (.inl q) => .inr (.inl (.object q.1, q.2, r))
  | .inr (.inr q) => .inr (.inr (q.1, h_sl 0 q.2 x))
def hp (X : hX) (R : hR) (TH : hT) (N : Nat) : px_H := (N, fun p => match h_lay[p]? with
  | some l => some (h_cell l (X p) (R p))
  | none => TH p)
def upA (X : hX) (p : Nat) (f : Nat → Int32) : hX := fun q => if q = p then f else X q
def upR (R : hR) (p : Nat) (f : Nat → Option Nat) : hR := fun q => if q = p then f else R q
theorem upA_s (X : hX) (p : Nat) (f : Nat → Int32) : upA X p f p = f := if_pos rfl
theorem upA_n {X : hX} {p q : Nat} {f : Nat → Int32} (h : q ≠ p) : upA X p f q = X q := if_neg h
theorem upd_s (f : Nat → Int32) (k : Nat) (x : Int32) : upd f k x k = x := if_pos rfl
theorem upd_n {f : Nat → Int32} {k j : Nat} {x : Int32} (h : j ≠ k) : upd f k x j = f j := if_neg h
theorem h_sl_get : ∀ (s : List (Option Nat)) (i j : Nat) (x : Nat → Int32), (h_sl i s x)[j]? = (s[j]?).map (fun o => match o with | some q => Value.ref q | none => Value.int (x (i + j))) := by
  intro s
  induction s with
  | nil => intro i j x; simp [h_sl]
  | cons o s ih =>
    intro i j x
    cases o with
    | none => cases j with
      | zero => simp [h_sl]
      | succ j => simp only [h_sl, List.getElem?_cons_succ]; rw [ih]; rw [show i + 1 + j = i + (j + 1) by omega]
    | some q => cases j with
      | zero => simp [h_sl]
      | succ j => simp only [h_sl, List.getElem?_cons_succ]; rw [ih]; rw [show i + 1 + j = i + (j + 1) by omega]
theorem h_sl_len : ∀ (s : List (Option Nat)) (i : Nat) (x : Nat → Int32), (h_sl i s x).length = s.length := by
  intro s
  induction s with
  | nil => intro i x; rfl
  | cons o s ih => intro i x; cases o <;> simp [h_sl, ih]
theorem h_sl_congr : ∀ (s : List (Option Nat)) (i : Nat) (x y : Nat → Int32), (∀ j, i ≤ j → x j = y j) → h_sl i s x = h_sl i s y := by
  intro s
  induction s with
  | nil => intro i x y _; rfl
  | cons o s ih =>
    intro i x y h
    have := ih (i + 1) x y (fun j hj => h j (by omega))
    cases o <;> simp [h_sl, this, h i (Nat.le_refl i)]
theorem h_sl_set : ∀ (s : List (Option Nat)) (i j : Nat) (x : Nat → Int32) (v : Int32), s[j]? = some none → (h_sl i s x).set j (.int v) = h_sl i s (upd x (i + j) v) := by
  intro s
  induction s with
  | nil => intro i j x v h; simp at h
  | cons o s ih =>
    intro i j x v h
    cases j with
    | zero =>
      simp at h
      subst h
      simp only [h_sl, List.set_cons_zero, Nat.add_zero, upd_s]
      rw [h_sl_congr s (i + 1) x (upd x i v) (fun j hj => (upd_n (by omega)).symm)]
    | succ j =>
      have h' : s[j]? = some none := by simpa using h
      have := ih (i + 1) j x v h'
      rw [show i + 1 + j = i + (j + 1) by omega] at this
      cases o with
      | none => simp only [h_sl, List.set_cons_succ, this]; rw [upd_n (show i ≠ i + (j + 1) by omega)]
      | some q => simp only [h_sl, List.set_cons_succ, this]
section HM
variable {X : hX} {R : hR} {TH : hT} {N p j : Nat}
theorem hp_at {l} (h : h_lay[p]? = some l) : (hp X R TH N).2 p = some (h_cell l (X p) (R p)) := by
  show (match h_lay[p]? with | some l => some (h_cell l (X p) (R p)) | none => TH p) = _
  rw [h]
theorem hp_th (h : 62 ≤ p) : (hp X R TH N).2 p = TH p := by
  show (match h_lay[p]? with | some l => some (h_cell l (X p) (R p)) | none => TH p) = _
  rw [List.getElem?_eq_none (show h_lay.length ≤ p from h)]
theorem hp_set {l} {f : Nat → Int32} (h : h_lay[p]? = some l) (hl : ∀ q, l ≠ .inr (.inl q)) : px_set (hp X R TH N) p (h_cell l f (R p)) = hp (upA X p f) R TH N := by
  refine Prod.ext rfl (funext fun b => ?_)
  show (if b = p then some _ else (hp X R TH N).2 b) = (hp (upA X p f) R TH N).2 b
  by_cases hb : b = p
  · subst hb
    rw [if_pos rfl, hp_at h, upA_s]
  · rw [if_neg hb]
    show (match h_lay[b]? with | some l => some (h_cell l (X b) (R b)) | none => TH b) = (match h_lay[b]? with | some l => some (h_cell l (upA X p f b) (R b)) | none => TH b)
    rw [upA_n hb]
theorem hp_setR {E : String} {n : Nat} {f : Nat → Option Nat} (h : h_lay[p]? = some (.inr (.inl (E, n)))) : px_set (hp X R TH N) p (.inr (.inl (.object E, n, f))) = hp X (upR R p f) TH N := by
  refine Prod.ext rfl (funext fun b => ?_)
  show (if b = p then some _ else (hp X R TH N).2 b) = (hp X (upR R p f) TH N).2 b
  by_cases hb : b = p
  · subst hb
    rw [if_pos rfl, hp_at h]
    show _ = some (h_cell _ _ (upR R b f b))
    unfold upR
    rw [if_pos rfl]
    rfl
  · rw [if_neg hb]
    show (match h_lay[b]? with | some l => some (h_cell l (X b) (R b)) | none => TH b) = (match h_lay[b]? with | some l => some (h_cell l (X b) (upR R p f b)) | none => TH b)
    unfold upR
    rw [if_neg hb]
/-- reads and writes -/
theorem g_int {ci : Nat} {s : List (Option Nat)} {cis : List (Nat × Nat)} (h : h_lay[p]? = some (.inr (.inr (ci, s)))) (hc : (cis.lookup ci).isSome = true) (hj : s[j]? = some none) : px_fld (hp X R TH N) p cis j = some (.int (X p j)) := by
  unfold px_fld
  rw [hp_at h]
  simp only [h_cell, if_pos hc, h_sl_get, hj, Option.map_some, Nat.zero_add]
theorem g_ref {ci q : Nat} {s : List (Option Nat)} {cis : List (Nat × Nat)} (h : h_lay[p]? = some (.inr (.inr (ci, s)))) (hc : (cis.lookup ci).isSome = true) (hj : s[j]? = some (some q)) : px_fld (hp X R TH N) p cis j = some (.ref q) := by
  unfold px_fld
  rw [hp_at h]
  simp only [h_cell, if_pos hc, h_sl_get, hj, Option.map_some]
theorem p_int {ci : Nat} {s : List (Option Nat)} {cis : List (Nat × Nat)} {v : Int32} (h : h_lay[p]? = some (.inr (.inr (ci, s)))) (hc : (cis.lookup ci).isSome = true) (hj : s[j]? = some none) : px_pfd (hp X R TH N) p cis j (.int v) = some (hp (upA X p (upd (X p) j v)) R TH N) := by
  unfold px_pfd
  rw [hp_at h]
  have hlen : j < (h_sl 0 s (X p)).length := by rw [h_sl_len]; exact (List.getElem?_eq_some_iff.mp hj).1
  simp only [h_cell, if_pos (And.intro hc hlen), h_sl_set s 0 j (X p) v hj, Nat.zero_add]
  exact congrArg some (hp_set (f := upd (X p) j v) h (fun q hq => by cases hq))
theorem c_cls {ci : Nat} {s : List (Option Nat)} (h : h_lay[p]? = some (.inr (.inr (ci, s)))) : px_cls (hp X R TH N) p = some ci := by
  unfold px_cls
  rw [hp_at h]
  rfl
theorem c_tgt {ci M : Nat} {s : List (Option Nat)} {cis : List (Nat × Nat)} (h : h_lay[p]? = some (.inr (.inr (ci, s)))) (hc : cis.lookup ci = some M) : px_tgt (hp X R TH N) p cis = some M := by
  unfold px_tgt
  rw [c_cls h]
  exact hc
theorem vin_nI {n : Nat} (h : j < n) (hn : n < 2 ^ 31) : px_vin (nI j) n = true := by
  have := vp_in_nI h hn
  unfold vp_in at this
  unfold px_vin
  simpa using this
theorem a_get {ty : FieldType} {n : Nat} (h : h_lay[p]? = some (.inl (ty, n))) (hj : j < n) (hn : n < 2 ^ 31) : px_ald (hp X R TH N) p (nI j) ty = some (X p j) := by
  unfold px_ald
  rw [hp_at h]
  simp only [h_cell, vin_nI hj hn, and_self, if_true, nI_clamp (Nat.lt_trans hj hn)]
theorem a_put {ty : FieldType} {n : Nat} {v : Int32} (h : h_lay[p]? = some (.inl (ty, n))) (hj : j < n) (hn : n < 2 ^ 31) : px_ast (hp X R TH N) p (nI j) v ty = some (hp (upA X p (upd (X p) j v)) R TH N) := by
  unfold px_ast
  rw [hp_at h]
  simp only [h_cell, vin_nI hj hn, and_self, if_true, nI_clamp (Nat.lt_trans hj hn)]
  exact congrArg some (hp_set (f := upd (X p) j v) h (fun q hq => by cases hq))
theorem b_get {ty : FieldType} {n : Nat} (h : h_lay[p]? = some (.inl (ty, n))) (ht : ty = .byte ∨ ty = .boolean) (hj : j < n) (hn : n < 2 ^ 31) : px_bld (hp X R TH N) p (nI j) = some (X p j) := by
  unfold px_bld
  rw [hp_at h]
  simp only [h_cell, vin_nI hj hn, and_true, if_pos ht, nI_clamp (Nat.lt_trans hj hn)]
theorem b_put {ty : FieldType} {n : Nat} {v : Int32} (h : h_lay[p]? = some (.inl (ty, n))) (ht : ty = .byte ∨ ty = .boolean) (hj : j < n) (hn : n < 2 ^ 31) : px_bst (hp X R TH N) p (nI j) v = some (hp (upA X p (upd (X p) j (vp_nar ty v))) R TH N) := by
  unfold px_bst
  rw [hp_at h]
  simp only [h_cell, vin_nI hj hn, and_true, if_pos ht, nI_clamp (Nat.lt_trans hj hn)]
  exact congrArg some (hp_set (f := upd (X p) j (vp_nar ty v)) h (fun q hq => by cases hq))
theorem r_get {E : String} {n : Nat} (h : h_lay[p]? = some (.inr (.inl (E, n)))) (hj : j < n) (hn : n < 2 ^ 31) : px_rld (hp X R TH N) p (nI j) = some (va_rf (R p j)) := by
  unfold px_rld
  rw [hp_at h]
  simp only [h_cell, vin_nI hj hn, px_iso, and_self, if_true, nI_clamp (Nat.lt_trans hj hn)]
theorem l_len {ty : FieldType} {n : Nat} (h : h_lay[p]? = some (.inl (ty, n))) : px_len (hp X R TH N) p = some (Int32.ofNat n) := by
  unfold px_len
  rw [hp_at h]
  rfl
theorem y_cpy {p0 n0 n1 sp dp n : Nat} (h0 : h_lay[p0]? = some (.inl (.int, n0))) (h1 : h_lay[p]? = some (.inl (.int, n1))) (hs : sp + n ≤ n0) (hd : dp + n ≤ n1) (hn0 : n0 < 2 ^ 31) (hn1 : n1 < 2 ^ 31) : px_cpy (hp X R TH N) p0 (nI sp) p (nI dp) (nI n) = some (hp (upA X p (va_cpy (X p0) (X p) sp dp n)) R TH N) := by
  unfold px_cpy
  rw [hp_at h0, hp_at h1]
  have e1 : (nI sp).toNatClampNeg = sp := nI_clamp (by omega)
  have e2 : (nI dp).toNatClampNeg = dp := nI_clamp (by omega)
  have e3 : (nI n).toNatClampNeg = n := nI_clamp (by omega)
  have f1 : ¬ nI sp < 0 := nI_pos (by omega)
  have f2 : ¬ nI dp < 0 := nI_pos (by omega)
  have f3 : ¬ nI n < 0 := nI_pos (by omega)
  simp only [h_cell, e1, e2, e3, f1, f2, f3, not_false_eq_true, true_and, if_pos (And.intro hs hd)]
  exact congrArg some (hp_set (f := va_cpy (X p0) (X p) sp dp n) h1 (fun q hq => by cases hq))
end HM
