/-! the class: how many bits -/
def ush (x y : Int32) : Int32 := (x.toUInt32 >>> (y.toUInt32 &&& Int32.toUInt32 31)).toInt32
def bc1 (x : Int32) : Int32 := x - (ush x 1 &&& 1431655765)
def bc2 (x : Int32) : Int32 := (x &&& 858993459) + (ush x 2 &&& 858993459)
def bc3 (x : Int32) : Int32 := (x + ush x 4) &&& 252645135
def bc4 (x : Int32) : Int32 := x + ush x 8
def bc5 (x : Int32) : Int32 := x + ush x 16
def bcI (x : Int32) : Int32 := bc5 (bc4 (bc3 (bc2 (bc1 x)))) &&& 63
theorem t222a {d : Nat} {w : px_H} {Q : Option Value → px_H → Prop} {x : Int32} : wc d 222 [.int x] w Q ↔ Q (some (.int (bcI x))) w := by
  simp only [S222, px_op_some, px_op_none, tl_some, tl_none, ap_one, ap_nil, z01, o01, true_and, and_true, true_or, or_true, i10, i01, if_true, if_false, eq_self]
  rfl
theorem bc_many : ∀ s : Nat, s < 256 → bcI (nI s) = manyI (nI s) := by decide +kernel
theorem t222 {d s : Nat} {w : px_H} {Q : Option Value → px_H → Prop} (h : s < 256) : wc d 222 [.int (nI s)] w Q ↔ Q (some (.int (manyI (nI s)))) w := by
  rw [t222a, bc_many s h]
