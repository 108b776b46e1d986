/-! the class: a thing is made -/
def upT (TH : hT) (q : Nat) (c : px_E) : hT := fun b => if b = q then some c else TH b
theorem upT_s (TH : hT) (q : Nat) (c : px_E) : upT TH q c q = some c := if_pos rfl
theorem upT_n {TH : hT} {q b : Nat} {c : px_E} (h : b ≠ q) : upT TH q c b = TH b := if_neg h
theorem upT_upT (TH : hT) (q : Nat) (c c' : px_E) : upT (upT TH q c) q c' = upT TH q c' := by
  funext b
  unfold upT
  split <;> rfl
section C11
variable {d : Nat} {X : hX} {R : hR} {TH : hT} {N q ci : Nat} {Q : Option Value → px_H → Prop}
theorem hp_1 : (hp X R TH N).1 = N := rfl
theorem hp_T {c : px_E} {M : Nat} (hq : 62 ≤ q) : ((M, fun b => if b = q then some c else (hp X R TH N).2 b) : px_H) = hp X R (upT TH q c) M := by
  refine Prod.ext rfl (funext fun b => ?_)
  show (if b = q then some c else (hp X R TH N).2 b) = (hp X R (upT TH q c) M).2 b
  by_cases hb : b = q
  · subst hb
    rw [if_pos rfl, hp_th hq, upT_s]
  · rw [if_neg hb]
    show (match h_lay[b]? with | some l => some (h_cell l (X b) (R b)) | none => TH b) = (match h_lay[b]? with | some l => some (h_cell l (X b) (R b)) | none => upT TH q c b)
    rw [upT_n hb]
theorem add_th {c : px_E} (hN : 62 ≤ N) : px_add (hp X R TH N) c = hp X R (upT TH N c) (N + 1) := hp_T hN
theorem pfd_th {fs : List Value} {cis : List (Nat × Nat)} {j : Nat} {v : Value} (hq : 62 ≤ q) (h : TH q = some (.inr (.inr (ci, fs)))) (hc : (cis.lookup ci).isSome = true) (hj : j < fs.length) : px_pfd (hp X R TH N) q cis j v = some (hp X R (upT TH q (.inr (.inr (ci, fs.set j v)))) N) := by
  unfold px_pfd
  rw [hp_th hq, h]
  simp only [if_pos (And.intro hc hj)]
  exact congrArg some (hp_T hq)
theorem t76 {a0 a1 a2 : Value} {n f p : Int32} (hq : 62 ≤ q) (hci : ci = 0 ∨ ci = 1 ∨ ci = 3 ∨ ci = 8 ∨ ci = 9) : wc d 76 [.ref q, .int n, .int f, .int p] (hp X R (upT TH q (.inr (.inr (ci, [a0, a1, a2])))) N) Q ↔ Q none (hp X R (upT TH q (.inr (.inr (ci, [.int n, .int f, .int p])))) N) := by
  have hc : (List.lookup ci [(0, 0), (1, 0), (3, 0), (8, 0), (9, 0)]).isSome = true := by rcases hci with rfl | rfl | rfl | rfl | rfl <;> rfl
  have e0 : ∀ (a0 a1 a2 v : Value), px_pfd (hp X R (upT TH q (.inr (.inr (ci, [a0, a1, a2])))) N) q [(0, 0), (1, 0), (3, 0), (8, 0), (9, 0)] 0 v = some (hp X R (upT TH q (.inr (.inr (ci, [v, a1, a2])))) N) := fun a0 a1 a2 v => by
    rw [pfd_th (fs := [a0, a1, a2]) hq (upT_s _ _ _) hc (by simp), upT_upT]; rfl
  have e1 : ∀ (a0 a1 a2 v : Value), px_pfd (hp X R (upT TH q (.inr (.inr (ci, [a0, a1, a2])))) N) q [(0, 0), (1, 0), (3, 0), (8, 0), (9, 0)] 1 v = some (hp X R (upT TH q (.inr (.inr (ci, [a0, v, a2])))) N) := fun a0 a1 a2 v => by
    rw [pfd_th (fs := [a0, a1, a2]) hq (upT_s _ _ _) hc (by simp), upT_upT]; rfl
  have e2 : ∀ (a0 a1 a2 v : Value), px_pfd (hp X R (upT TH q (.inr (.inr (ci, [a0, a1, a2])))) N) q [(0, 0), (1, 0), (3, 0), (8, 0), (9, 0)] 2 v = some (hp X R (upT TH q (.inr (.inr (ci, [a0, a1, v])))) N) := fun a0 a1 a2 v => by
    rw [pfd_th (fs := [a0, a1, a2]) hq (upT_s _ _ _) hc (by simp), upT_upT]; rfl
  simp only [S76, e0, e1, e2, px_op_some, px_op_none, tl_some, tl_none, ap_one, ap_nil, z01, o01, true_and, and_true, true_or, or_true, i10, i01, if_true, if_false, eq_self]
theorem t40 {κ : Nat} {n f p : Int32} (hN : 62 ≤ N) (hk : κ = 1 ∨ κ = 2 ∨ κ = 3 ∨ κ = 4 ∨ κ = 5) : wc (d + 3) 40 [.int (nI κ), .int n, .int f, .int p] (hp X R TH N) Q ↔ Q (some (.ref N)) (hp X R (upT TH N (.inr (.inr (thC κ, [.int n, .int f, .int p])))) (N + 1)) := by
  have hk1 : 0 + 1 ≤ 1 := Nat.le_refl _
  have hk2 : 0 + 1 + 0 ≤ 1 := Nat.le_refl _
  have k1 : nI 1 = 1 := rfl
  have k2 : nI 2 = 2 := rfl
  have k3 : nI 3 = 3 := rfl
  have k4 : nI 4 = 4 := rfl
  have k5 : nI 5 = 5 := rfl
  have c0 : ∀ (d : Nat) (a0 a1 a2 : Value) (Q : Option Value → px_H → Prop), wc d 76 [.ref N, .int n, .int f, .int p] (hp X R (upT TH N (.inr (.inr (0, [a0, a1, a2])))) (N + 1)) Q ↔ Q none (hp X R (upT TH N (.inr (.inr (0, [.int n, .int f, .int p])))) (N + 1)) := fun d a0 a1 a2 Q => t76 hN (by simp)
  have c1 : ∀ (d : Nat) (a0 a1 a2 : Value) (Q : Option Value → px_H → Prop), wc d 76 [.ref N, .int n, .int f, .int p] (hp X R (upT TH N (.inr (.inr (1, [a0, a1, a2])))) (N + 1)) Q ↔ Q none (hp X R (upT TH N (.inr (.inr (1, [.int n, .int f, .int p])))) (N + 1)) := fun d a0 a1 a2 Q => t76 hN (by simp)
  have c3 : ∀ (d : Nat) (a0 a1 a2 : Value) (Q : Option Value → px_H → Prop), wc d 76 [.ref N, .int n, .int f, .int p] (hp X R (upT TH N (.inr (.inr (3, [a0, a1, a2])))) (N + 1)) Q ↔ Q none (hp X R (upT TH N (.inr (.inr (3, [.int n, .int f, .int p])))) (N + 1)) := fun d a0 a1 a2 Q => t76 hN (by simp)
  have c8 : ∀ (d : Nat) (a0 a1 a2 : Value) (Q : Option Value → px_H → Prop), wc d 76 [.ref N, .int n, .int f, .int p] (hp X R (upT TH N (.inr (.inr (8, [a0, a1, a2])))) (N + 1)) Q ↔ Q none (hp X R (upT TH N (.inr (.inr (8, [.int n, .int f, .int p])))) (N + 1)) := fun d a0 a1 a2 Q => t76 hN (by simp)
  have c9 : ∀ (d : Nat) (a0 a1 a2 : Value) (Q : Option Value → px_H → Prop), wc d 76 [.ref N, .int n, .int f, .int p] (hp X R (upT TH N (.inr (.inr (9, [a0, a1, a2])))) (N + 1)) Q ↔ Q none (hp X R (upT TH N (.inr (.inr (9, [.int n, .int f, .int p])))) (N + 1)) := fun d a0 a1 a2 Q => t76 hN (by simp)
  rcases hk with rfl | rfl | rfl | rfl | rfl
  · have z2 : ((1 : Int32) = 2) = False := by decide
    have z3 : ((1 : Int32) = 3) = False := by decide
    have z4 : ((1 : Int32) = 4) = False := by decide
    have z5 : ((1 : Int32) = 5) = False := by decide
    simp only [S40, k1, sw_40_1, z2, z3, z4, z5, hk1, hk2, add_th hN, hp_1, S25, c3, px_op_some, px_op_none, tl_some, tl_none, ap_one, ap_nil, z01, o01, true_and, and_true, true_or, or_true, i10, i01, if_true, if_false, eq_self]
    rfl
  · simp only [S40, k2, sw_40_1, hk1, hk2, add_th hN, hp_1, S6, S25, c1, px_op_some, px_op_none, tl_some, tl_none, ap_one, ap_nil, z01, o01, true_and, and_true, true_or, or_true, i10, i01, if_true, if_false, eq_self]
    rfl
  · have z2 : ((3 : Int32) = 2) = False := by decide
    simp only [S40, k3, sw_40_1, z2, hk1, hk2, add_th hN, hp_1, S92, S25, c9, px_op_some, px_op_none, tl_some, tl_none, ap_one, ap_nil, z01, o01, true_and, and_true, true_or, or_true, i10, i01, if_true, if_false, eq_self]
    rfl
  · have z2 : ((4 : Int32) = 2) = False := by decide
    have z3 : ((4 : Int32) = 3) = False := by decide
    simp only [S40, k4, sw_40_1, z2, z3, hk1, hk2, add_th hN, hp_1, S0, c0, px_op_some, px_op_none, tl_some, tl_none, ap_one, ap_nil, z01, o01, true_and, and_true, true_or, or_true, i10, i01, if_true, if_false, eq_self]
    rfl
  · have z2 : ((5 : Int32) = 2) = False := by decide
    have z3 : ((5 : Int32) = 3) = False := by decide
    have z4 : ((5 : Int32) = 4) = False := by decide
    simp only [S40, k5, sw_40_1, z2, z3, z4, hk1, hk2, add_th hN, hp_1, S87, S0, c8, px_op_some, px_op_none, tl_some, tl_none, ap_one, ap_nil, z01, o01, true_and, and_true, true_or, or_true, i10, i01, if_true, if_false, eq_self]
    rfl
end C11
