/-! one instruction of the real machine for one step of the pure one -/
def px_rm (d : Nat) (m : px_M) : Room := { frames := d + 1, cells := px_mc m, slots := 320 * px_mc m, locals := 40 * (d + 1) }
def px_C (m : px_M) (p : Program) (s : State) (mi : MethodId) (args : Array Value) (meth : Method) (c : Code) (A : Nat → Prop) : Prop :=
  p.tables.exec = Jvm.exec ∧ c.code = px_mb m ∧ c.maxLocals = px_ml m ∧ s.vm.findClass (px_my m).cls = some mi.cls ∧ (∀ w ∈ px_W, w.before args s = true) ∧ px_N s ∧ meth.sig.returnType = px_mr m ∧ meth.locks = false ∧ meth.name = (px_my m).name ∧ (∀ q, s.heap.size ≤ q → A q)
def px_B (s : State) (A : Nat → Prop) (D : va_G) (as0 as : List Nat) (ws : va_W) (tys : List (ClassId × FieldType)) (H : Heap) (locs : List Loc) (ls : Array Slot) (n : Nat) (L : px_L) (st : List Value) (w : px_H) : Prop :=
  va_K D vwCl tys s ∧ va_P D vwCl ws H ∧ va_D A ws ∧ va_S A s.heap H locs ∧ px_R as ws tys w ∧ as0 <+: as ∧ px_lo as L ls n ∧ px_sok as.length st
def px_Qc (D : va_G) (as0 : List Nat) (Q : Option Value → px_H → Prop) (A : Nat → Prop) : Array Value → State → Outcome → State → Prop := fun _ st oc t =>
  (∃ (r : Option Value) (w' : px_H) (as' : List Nat) (ws' : va_W) (tys' : List (ClassId × FieldType)), oc = .returned (r.map (px_v as')) ∧ Q r w' ∧ as0 <+: as' ∧ (∀ v, r = some v → px_vok as'.length v) ∧ px_R as' ws' tys' w' ∧ va_P D vwCl ws' t.heap ∧ va_K D vwCl tys' t ∧ va_D A ws') ∧ va_F A st t
def px_SW (d : Nat) (m : px_M) (pc : Nat) (L : px_L) (st : List Value) (w : px_H) (k : Nat) (Q : Option Value → px_H → Prop) : Prop :=
  ∀ (p : Program) (l : Launch) (e : Env) (s : State) (mi : MethodId) (args : Array Value) (below : List Frame) (meth : Method) (c : Code) (A : Nat → Prop) (D : va_G) (as0 as : List Nat) (ws : va_W) (tys : List (ClassId × FieldType)) (H : Heap) (locs : List Loc) (ls : Array Slot),
    px_C m p s mi args meth c A → px_B s A D as0 as ws tys H locs ls (px_ml m) L st w → k ≤ px_mc m →
    W p l e (px_rm d m) s mi args below meth c H locs k (320 * k) (MQ below (px_Qc D as0 Q A) args s (px_mc m) (320 * px_mc m) A) (F0 mi pc ls (st.map (px_v as)))
section PXQ
variable {s : State} {A : Nat → Prop} {D : va_G} {as0 as : List Nat} {ws : va_W} {tys : List (ClassId × FieldType)} {H : Heap} {locs : List Loc} {ls : Array Slot} {n : Nat} {L : px_L} {st st' : List Value} {w : px_H}
theorem px_sok.nil {n : Nat} : px_sok n [] := fun _ h => by cases h
theorem px_sok.cons {n : Nat} {v : Value} {st : List Value} (hv : px_vok n v) (h : px_sok n st) : px_sok n (v :: st) := fun u hu => by
  rcases List.mem_cons.mp hu with rfl | hu
  · exact hv
  · exact h u hu
theorem px_sok.hd {n : Nat} {v : Value} {st : List Value} (h : px_sok n (v :: st)) : px_vok n v := h v List.mem_cons_self
theorem px_sok.tl {n : Nat} {v : Value} {st : List Value} (h : px_sok n (v :: st)) : px_sok n st := fun u hu => h u (List.mem_cons_of_mem _ hu)
theorem px_sok.i {n : Nat} {x : Int32} {st : List Value} (h : px_sok n st) : px_sok n (.int x :: st) := px_sok.cons trivial h
theorem px_B.sk (B : px_B s A D as0 as ws tys H locs ls n L st w) : px_sok as.length st := B.2.2.2.2.2.2.2
theorem px_B.lo (B : px_B s A D as0 as ws tys H locs ls n L st w) : px_lo as L ls n := B.2.2.2.2.2.2.1
theorem px_B.r (B : px_B s A D as0 as ws tys H locs ls n L st w) : px_R as ws tys w := B.2.2.2.2.1
theorem px_B.toS (B : px_B s A D as0 as ws tys H locs ls n L st w) (h : px_sok as.length st') : px_B s A D as0 as ws tys H locs ls n L st' w := ⟨B.1, B.2.1, B.2.2.1, B.2.2.2.1, B.2.2.2.2.1, B.2.2.2.2.2.1, B.2.2.2.2.2.2.1, h⟩
theorem px_B.toL {ls' : Array Slot} {L' : px_L} (B : px_B s A D as0 as ws tys H locs ls n L st w) (hl : px_lo as L' ls' n) (h : px_sok as.length st') : px_B s A D as0 as ws tys H locs ls' n L' st' w := ⟨B.1, B.2.1, B.2.2.1, B.2.2.2.1, B.2.2.2.2.1, B.2.2.2.2.2.1, hl, h⟩
end PXQ
section PXU
variable {d : Nat} {m : px_M} {pc k : Nat} {L : px_L} {st : List Value} {w : px_H} {Q : Option Value → px_H → Prop}
theorem px_q_iconst {n : Int} (hd : decode (px_mb m) pc = .ok (.iconst n, 1)) (h : px_SW d m (pc + 1) L (.int (Int32.ofInt n) :: st) w k Q) : px_SW d m pc L st w k Q := by
  intro p l e s mi args below meth c A D as0 as ws tys H locs ls C B hk
  exact lv_iconst C.1 C.2.1 hd rfl (h p l e s mi args below meth c A D as0 as ws tys H locs ls C (B.toS B.sk.i) hk)
theorem px_q_bipush {n : Int} (hd : decode (px_mb m) pc = .ok (.bipush n, 2)) (h : px_SW d m (pc + 2) L (.int ((Int8.ofInt n).toInt32) :: st) w k Q) : px_SW d m pc L st w k Q := by
  intro p l e s mi args below meth c A D as0 as ws tys H locs ls C B hk
  exact lv_bipush C.1 C.2.1 hd rfl (h p l e s mi args below meth c A D as0 as ws tys H locs ls C (B.toS B.sk.i) hk)
theorem px_q_sipush {n : Int} (hd : decode (px_mb m) pc = .ok (.sipush n, 3)) (h : px_SW d m (pc + 3) L (.int ((Int16.ofInt n).toInt32) :: st) w k Q) : px_SW d m pc L st w k Q := by
  intro p l e s mi args below meth c A D as0 as ws tys H locs ls C B hk
  exact lv_sipush C.1 C.2.1 hd rfl (h p l e s mi args below meth c A D as0 as ws tys H locs ls C (B.toS B.sk.i) hk)
theorem px_q_null (hd : decode (px_mb m) pc = .ok (.aconst_null, 1)) (h : px_SW d m (pc + 1) L (.null :: st) w k Q) : px_SW d m pc L st w k Q := by
  intro p l e s mi args below meth c A D as0 as ws tys H locs ls C B hk
  exact lv_null C.1 C.2.1 hd (h p l e s mi args below meth c A D as0 as ws tys H locs ls C (B.toS (px_sok.cons trivial B.sk)) hk)
theorem px_q_ldc {idx : Nat} {v : Int32} (hd : decode (px_mb m) pc = .ok (.ldc idx, 2)) (hc : Cond.constant (px_my m).cls idx v ∈ px_W) (h : px_SW d m (pc + 2) L (.int v :: st) w k Q) : px_SW d m pc L st w k Q := by
  intro p l e s mi args below meth c A D as0 as ws tys H locs ls C B hk
  exact lv_ldc C.1 C.2.1 C.2.2.2.1 (C.2.2.2.2.1 _ hc) hd (h p l e s mi args below meth c A D as0 as ws tys H locs ls C (B.toS B.sk.i) hk)
theorem px_q_ldc_w {idx : Nat} {v : Int32} (hd : decode (px_mb m) pc = .ok (.ldc_w idx, 3)) (hc : Cond.constant (px_my m).cls idx v ∈ px_W) (h : px_SW d m (pc + 3) L (.int v :: st) w k Q) : px_SW d m pc L st w k Q := by
  intro p l e s mi args below meth c A D as0 as ws tys H locs ls C B hk
  exact lv_ldcw C.1 C.2.1 C.2.2.2.1 (C.2.2.2.2.1 _ hc) hd (h p l e s mi args below meth c A D as0 as ws tys H locs ls C (B.toS B.sk.i) hk)
theorem px_q_iload {j : Nat} {x : Int32} (hd : decode (px_mb m) pc = .ok (.iload j, 2)) (hL : L[j]? = some (some (.int x))) (h : px_SW d m (pc + 2) L (.int x :: st) w k Q) : px_SW d m pc L st w k Q := by
  intro p l e s mi args below meth c A D as0 as ws tys H locs ls C B hk
  exact lv_iload C.1 C.2.1 hd (B.lo.at hL) (h p l e s mi args below meth c A D as0 as ws tys H locs ls C (B.toS B.sk.i) hk)
theorem px_q_iload_n {j : Fin 4} {x : Int32} (hd : decode (px_mb m) pc = .ok (.iload_n j, 1)) (hL : L[j.val]? = some (some (.int x))) (h : px_SW d m (pc + 1) L (.int x :: st) w k Q) : px_SW d m pc L st w k Q := by
  intro p l e s mi args below meth c A D as0 as ws tys H locs ls C B hk
  exact lv_iload_n C.1 C.2.1 hd rfl (B.lo.at hL) (h p l e s mi args below meth c A D as0 as ws tys H locs ls C (B.toS B.sk.i) hk)
theorem px_q_aload {j : Nat} {v : Value} (hd : decode (px_mb m) pc = .ok (.aload j, 2)) (hL : L[j]? = some (some v)) (hv : px_isr v = true) (h : px_SW d m (pc + 2) L (v :: st) w k Q) : px_SW d m pc L st w k Q := by
  intro p l e s mi args below meth c A D as0 as ws tys H locs ls C B hk
  have hok := B.lo.2.2 _ _ hL
  have hl := B.lo.at hL
  have h := (h p l e s mi args below meth c A D as0 as ws tys H locs ls C (B.toS (px_sok.cons hok B.sk)) hk)
  cases v with
  | ref i => exact lv_aload C.1 C.2.1 hd hl h
  | null => exact lv_aloadN C.1 C.2.1 hd hl h
  | _ => cases hv
theorem px_q_aload_n {j : Fin 4} {v : Value} (hd : decode (px_mb m) pc = .ok (.aload_n j, 1)) (hL : L[j.val]? = some (some v)) (hv : px_isr v = true) (h : px_SW d m (pc + 1) L (v :: st) w k Q) : px_SW d m pc L st w k Q := by
  intro p l e s mi args below meth c A D as0 as ws tys H locs ls C B hk
  have hok := B.lo.2.2 _ _ hL
  have hl := B.lo.at hL
  have h := (h p l e s mi args below meth c A D as0 as ws tys H locs ls C (B.toS (px_sok.cons hok B.sk)) hk)
  cases v with
  | ref i => exact lv_aload_n C.1 C.2.1 hd rfl hl h
  | null => exact lv_aload_nN C.1 C.2.1 hd rfl hl h
  | _ => cases hv
theorem px_q_istore {j : Nat} {x : Int32} (hd : decode (px_mb m) pc = .ok (.istore j, 2)) (hj : j < L.length) (h : px_SW d m (pc + 2) (L.set j (some (.int x))) st w k Q) : px_SW d m pc L (.int x :: st) w k Q := by
  intro p l e s mi args below meth c A D as0 as ws tys H locs ls C B hk
  exact lv_istore C.1 C.2.1 hd B.lo.1 (by rw [← B.lo.2.1]; exact hj) rfl (fun ls' h' => h p l e s mi args below meth c A D as0 as ws tys H locs ls' C (B.toL (B.lo.store (v := .int x) hj trivial h') B.sk.tl) hk)
theorem px_q_istore_n {j : Fin 4} {x : Int32} (hd : decode (px_mb m) pc = .ok (.istore_n j, 1)) (hj : j.val < L.length) (h : px_SW d m (pc + 1) (L.set j.val (some (.int x))) st w k Q) : px_SW d m pc L (.int x :: st) w k Q := by
  intro p l e s mi args below meth c A D as0 as ws tys H locs ls C B hk
  exact lv_istore_n C.1 C.2.1 hd rfl B.lo.1 (by rw [← B.lo.2.1]; exact hj) rfl (fun ls' h' => h p l e s mi args below meth c A D as0 as ws tys H locs ls' C (B.toL (B.lo.store (v := .int x) hj trivial h') B.sk.tl) hk)
theorem px_q_astore {j : Nat} {v : Value} (hd : decode (px_mb m) pc = .ok (.astore j, 2)) (hj : j < L.length) (hv : px_isr v = true) (h : px_SW d m (pc + 2) (L.set j (some v)) st w k Q) : px_SW d m pc L (v :: st) w k Q := by
  intro p l e s mi args below meth c A D as0 as ws tys H locs ls C B hk
  have hok := B.sk.hd
  cases v with
  | ref i => exact lv_astore C.1 C.2.1 hd B.lo.1 (by rw [← B.lo.2.1]; exact hj) rfl (fun ls' h' => h p l e s mi args below meth c A D as0 as ws tys H locs ls' C (B.toL (B.lo.store (v := .ref i) hj hok h') B.sk.tl) hk)
  | null => exact lv_astoreN C.1 C.2.1 hd B.lo.1 (by rw [← B.lo.2.1]; exact hj) rfl (fun ls' h' => h p l e s mi args below meth c A D as0 as ws tys H locs ls' C (B.toL (B.lo.store (v := .null) hj hok h') B.sk.tl) hk)
  | _ => cases hv
theorem px_q_astore_n {j : Fin 4} {v : Value} (hd : decode (px_mb m) pc = .ok (.astore_n j, 1)) (hj : j.val < L.length) (hv : px_isr v = true) (h : px_SW d m (pc + 1) (L.set j.val (some v)) st w k Q) : px_SW d m pc L (v :: st) w k Q := by
  intro p l e s mi args below meth c A D as0 as ws tys H locs ls C B hk
  have hok := B.sk.hd
  cases v with
  | ref i => exact lv_astore_n C.1 C.2.1 hd rfl B.lo.1 (by rw [← B.lo.2.1]; exact hj) rfl (fun ls' h' => h p l e s mi args below meth c A D as0 as ws tys H locs ls' C (B.toL (B.lo.store (v := .ref i) hj hok h') B.sk.tl) hk)
  | null => exact lv_astore_nN C.1 C.2.1 hd rfl B.lo.1 (by rw [← B.lo.2.1]; exact hj) rfl (fun ls' h' => h p l e s mi args below meth c A D as0 as ws tys H locs ls' C (B.toL (B.lo.store (v := .null) hj hok h') B.sk.tl) hk)
  | _ => cases hv
theorem px_q_iinc {j : Nat} {n : Int} {x : Int32} (hd : decode (px_mb m) pc = .ok (.iinc j n, 3)) (hL : L[j]? = some (some (.int x))) (h : px_SW d m (pc + 3) (L.set j (some (.int (x + Int32.ofInt n)))) st w k Q) : px_SW d m pc L st w k Q := by
  intro p l e s mi args below meth c A D as0 as ws tys H locs ls C B hk
  have hj : j < L.length := (List.getElem?_eq_some_iff.mp hL).1
  obtain ⟨i, hi⟩ := List.getElem?_of_mem (px_lv_mem.mpr ⟨_, hL, rfl⟩ : (j, px_v as (.int x)) ∈ px_lv as L)
  exact lv_iinc C.1 C.2.1 hd B.lo.1 hi rfl (by rw [← B.lo.2.1]; exact hj) rfl (fun ls' h' => h p l e s mi args below meth c A D as0 as ws tys H locs ls' C (B.toL (B.lo.store (v := .int (x + Int32.ofInt n)) hj trivial h') B.sk) hk)
theorem px_q_iadd {x y : Int32} (hd : decode (px_mb m) pc = .ok (.iadd, 1)) (h : px_SW d m (pc + 1) L (.int (x + y) :: st) w k Q) : px_SW d m pc L (.int y :: .int x :: st) w k Q := by
  intro p l e s mi args below meth c A D as0 as ws tys H locs ls C B hk
  exact lv_iadd C.1 C.2.1 hd (h p l e s mi args below meth c A D as0 as ws tys H locs ls C (B.toS B.sk.tl.tl.i) hk)
theorem px_q_isub {x y : Int32} (hd : decode (px_mb m) pc = .ok (.isub, 1)) (h : px_SW d m (pc + 1) L (.int (x - y) :: st) w k Q) : px_SW d m pc L (.int y :: .int x :: st) w k Q := by
  intro p l e s mi args below meth c A D as0 as ws tys H locs ls C B hk
  exact lv_isub C.1 C.2.1 hd (h p l e s mi args below meth c A D as0 as ws tys H locs ls C (B.toS B.sk.tl.tl.i) hk)
theorem px_q_imul {x y : Int32} (hd : decode (px_mb m) pc = .ok (.imul, 1)) (h : px_SW d m (pc + 1) L (.int (x * y) :: st) w k Q) : px_SW d m pc L (.int y :: .int x :: st) w k Q := by
  intro p l e s mi args below meth c A D as0 as ws tys H locs ls C B hk
  exact lv_imul C.1 C.2.1 hd (h p l e s mi args below meth c A D as0 as ws tys H locs ls C (B.toS B.sk.tl.tl.i) hk)
theorem px_q_iand {x y : Int32} (hd : decode (px_mb m) pc = .ok (.iand, 1)) (h : px_SW d m (pc + 1) L (.int (x &&& y) :: st) w k Q) : px_SW d m pc L (.int y :: .int x :: st) w k Q := by
  intro p l e s mi args below meth c A D as0 as ws tys H locs ls C B hk
  exact lv_iand C.1 C.2.1 hd (h p l e s mi args below meth c A D as0 as ws tys H locs ls C (B.toS B.sk.tl.tl.i) hk)
theorem px_q_ior {x y : Int32} (hd : decode (px_mb m) pc = .ok (.ior, 1)) (h : px_SW d m (pc + 1) L (.int (x ||| y) :: st) w k Q) : px_SW d m pc L (.int y :: .int x :: st) w k Q := by
  intro p l e s mi args below meth c A D as0 as ws tys H locs ls C B hk
  exact lv_ior C.1 C.2.1 hd (h p l e s mi args below meth c A D as0 as ws tys H locs ls C (B.toS B.sk.tl.tl.i) hk)
theorem px_q_ixor {x y : Int32} (hd : decode (px_mb m) pc = .ok (.ixor, 1)) (h : px_SW d m (pc + 1) L (.int (x ^^^ y) :: st) w k Q) : px_SW d m pc L (.int y :: .int x :: st) w k Q := by
  intro p l e s mi args below meth c A D as0 as ws tys H locs ls C B hk
  exact lv_ixor C.1 C.2.1 hd (h p l e s mi args below meth c A D as0 as ws tys H locs ls C (B.toS B.sk.tl.tl.i) hk)
theorem px_q_ishl {x y : Int32} (hd : decode (px_mb m) pc = .ok (.ishl, 1)) (h : px_SW d m (pc + 1) L (.int (x <<< (y &&& 31)) :: st) w k Q) : px_SW d m pc L (.int y :: .int x :: st) w k Q := by
  intro p l e s mi args below meth c A D as0 as ws tys H locs ls C B hk
  exact lv_ishl C.1 C.2.1 hd (h p l e s mi args below meth c A D as0 as ws tys H locs ls C (B.toS B.sk.tl.tl.i) hk)
theorem px_q_ishr {x y : Int32} (hd : decode (px_mb m) pc = .ok (.ishr, 1)) (h : px_SW d m (pc + 1) L (.int (x >>> (y &&& 31)) :: st) w k Q) : px_SW d m pc L (.int y :: .int x :: st) w k Q := by
  intro p l e s mi args below meth c A D as0 as ws tys H locs ls C B hk
  exact lv_ishr C.1 C.2.1 hd (h p l e s mi args below meth c A D as0 as ws tys H locs ls C (B.toS B.sk.tl.tl.i) hk)
theorem px_q_iushr {x y : Int32} (hd : decode (px_mb m) pc = .ok (.iushr, 1)) (h : px_SW d m (pc + 1) L (.int ((x.toUInt32 >>> (y.toUInt32 &&& Int32.toUInt32 31)).toInt32) :: st) w k Q) : px_SW d m pc L (.int y :: .int x :: st) w k Q := by
  intro p l e s mi args below meth c A D as0 as ws tys H locs ls C B hk
  exact lv_iushr C.1 C.2.1 hd rfl (h p l e s mi args below meth c A D as0 as ws tys H locs ls C (B.toS B.sk.tl.tl.i) hk)
theorem px_q_idiv {x y : Int32} (hd : decode (px_mb m) pc = .ok (.idiv, 1)) (hy : ¬ y = 0) (h : px_SW d m (pc + 1) L (.int (x / y) :: st) w k Q) : px_SW d m pc L (.int y :: .int x :: st) w k Q := by
  intro p l e s mi args below meth c A D as0 as ws tys H locs ls C B hk
  exact lv_idiv C.1 C.2.1 hd hy (h p l e s mi args below meth c A D as0 as ws tys H locs ls C (B.toS B.sk.tl.tl.i) hk)
theorem px_q_irem {x y : Int32} (hd : decode (px_mb m) pc = .ok (.irem, 1)) (hy : ¬ y = 0) (h : px_SW d m (pc + 1) L (.int (x - x / y * y) :: st) w k Q) : px_SW d m pc L (.int y :: .int x :: st) w k Q := by
  intro p l e s mi args below meth c A D as0 as ws tys H locs ls C B hk
  exact lv_irem C.1 C.2.1 hd hy (h p l e s mi args below meth c A D as0 as ws tys H locs ls C (B.toS B.sk.tl.tl.i) hk)
theorem px_q_ineg {x : Int32} (hd : decode (px_mb m) pc = .ok (.ineg, 1)) (h : px_SW d m (pc + 1) L (.int (-x) :: st) w k Q) : px_SW d m pc L (.int x :: st) w k Q := by
  intro p l e s mi args below meth c A D as0 as ws tys H locs ls C B hk
  exact lv_ineg C.1 C.2.1 hd (h p l e s mi args below meth c A D as0 as ws tys H locs ls C (B.toS B.sk.tl.i) hk)
theorem px_q_i2b {x : Int32} (hd : decode (px_mb m) pc = .ok (.i2b, 1)) (h : px_SW d m (pc + 1) L (.int (x.toInt8.toInt32) :: st) w k Q) : px_SW d m pc L (.int x :: st) w k Q := by
  intro p l e s mi args below meth c A D as0 as ws tys H locs ls C B hk
  exact lv_i2b C.1 C.2.1 hd rfl (h p l e s mi args below meth c A D as0 as ws tys H locs ls C (B.toS B.sk.tl.i) hk)
theorem px_q_i2s {x : Int32} (hd : decode (px_mb m) pc = .ok (.i2s, 1)) (h : px_SW d m (pc + 1) L (.int (x.toInt16.toInt32) :: st) w k Q) : px_SW d m pc L (.int x :: st) w k Q := by
  intro p l e s mi args below meth c A D as0 as ws tys H locs ls C B hk
  exact lv_i2s C.1 C.2.1 hd rfl (h p l e s mi args below meth c A D as0 as ws tys H locs ls C (B.toS B.sk.tl.i) hk)
theorem px_q_dup {v : Value} (hd : decode (px_mb m) pc = .ok (.dup, 1)) (h : px_SW d m (pc + 1) L (v :: v :: st) w k Q) : px_SW d m pc L (v :: st) w k Q := by
  intro p l e s mi args below meth c A D as0 as ws tys H locs ls C B hk
  exact lv_dup C.1 C.2.1 hd (by rw [px_v_cat]; exact B.sk.hd.cat) (h p l e s mi args below meth c A D as0 as ws tys H locs ls C (B.toS (px_sok.cons B.sk.hd B.sk)) hk)
theorem px_q_pop {v : Value} (hd : decode (px_mb m) pc = .ok (.pop, 1)) (h : px_SW d m (pc + 1) L st w k Q) : px_SW d m pc L (v :: st) w k Q := by
  intro p l e s mi args below meth c A D as0 as ws tys H locs ls C B hk
  exact lv_pop C.1 C.2.1 hd (by rw [px_v_cat]; exact B.sk.hd.cat) (h p l e s mi args below meth c A D as0 as ws tys H locs ls C (B.toS B.sk.tl) hk)
theorem px_q_goto {off : Int} {t : Nat} (hd : decode (px_mb m) pc = .ok (.goto off, 3)) (ht : (pc : Int) + off = (t : Int)) (h : px_SW d m t L st w k Q) : px_SW d m pc L st w k Q := by
  intro p l e s mi args below meth c A D as0 as ws tys H locs ls C B hk
  exact lv_goto C.1 C.2.1 hd ht (h p l e s mi args below meth c A D as0 as ws tys H locs ls C (B) hk)
theorem px_q_if_eq {x : Int32} {off : Int} {t : Nat} (hd : decode (px_mb m) pc = .ok (.ifCond .eq off, 3)) (ht : (pc : Int) + off = (t : Int)) (ha : x = 0 → px_SW d m t L st w k Q) (hb : ¬ x = 0 → px_SW d m (pc + 3) L st w k Q) : px_SW d m pc L (.int x :: st) w k Q := by
  intro p l e s mi args below meth c A D as0 as ws tys H locs ls C B hk
  exact lv_if_eq C.1 C.2.1 hd ht (fun hc => ha hc p l e s mi args below meth c A D as0 as ws tys H locs ls C (B.toS B.sk.tl) hk) (fun hc => hb hc p l e s mi args below meth c A D as0 as ws tys H locs ls C (B.toS B.sk.tl) hk)
theorem px_q_icmp_eq {x y : Int32} {off : Int} {t : Nat} (hd : decode (px_mb m) pc = .ok (.if_icmp .eq off, 3)) (ht : (pc : Int) + off = (t : Int)) (ha : x = y → px_SW d m t L st w k Q) (hb : ¬ x = y → px_SW d m (pc + 3) L st w k Q) : px_SW d m pc L (.int y :: .int x :: st) w k Q := by
  intro p l e s mi args below meth c A D as0 as ws tys H locs ls C B hk
  exact lv_icmp_eq C.1 C.2.1 hd ht (fun hc => ha hc p l e s mi args below meth c A D as0 as ws tys H locs ls C (B.toS B.sk.tl.tl) hk) (fun hc => hb hc p l e s mi args below meth c A D as0 as ws tys H locs ls C (B.toS B.sk.tl.tl) hk)
theorem px_q_if_ne {x : Int32} {off : Int} {t : Nat} (hd : decode (px_mb m) pc = .ok (.ifCond .ne off, 3)) (ht : (pc : Int) + off = (t : Int)) (ha : ¬ x = 0 → px_SW d m t L st w k Q) (hb : x = 0 → px_SW d m (pc + 3) L st w k Q) : px_SW d m pc L (.int x :: st) w k Q := by
  intro p l e s mi args below meth c A D as0 as ws tys H locs ls C B hk
  exact lv_if_ne C.1 C.2.1 hd ht (fun hc => ha hc p l e s mi args below meth c A D as0 as ws tys H locs ls C (B.toS B.sk.tl) hk) (fun hc => hb hc p l e s mi args below meth c A D as0 as ws tys H locs ls C (B.toS B.sk.tl) hk)
theorem px_q_icmp_ne {x y : Int32} {off : Int} {t : Nat} (hd : decode (px_mb m) pc = .ok (.if_icmp .ne off, 3)) (ht : (pc : Int) + off = (t : Int)) (ha : ¬ x = y → px_SW d m t L st w k Q) (hb : x = y → px_SW d m (pc + 3) L st w k Q) : px_SW d m pc L (.int y :: .int x :: st) w k Q := by
  intro p l e s mi args below meth c A D as0 as ws tys H locs ls C B hk
  exact lv_icmp_ne C.1 C.2.1 hd ht (fun hc => ha hc p l e s mi args below meth c A D as0 as ws tys H locs ls C (B.toS B.sk.tl.tl) hk) (fun hc => hb hc p l e s mi args below meth c A D as0 as ws tys H locs ls C (B.toS B.sk.tl.tl) hk)
theorem px_q_if_lt {x : Int32} {off : Int} {t : Nat} (hd : decode (px_mb m) pc = .ok (.ifCond .lt off, 3)) (ht : (pc : Int) + off = (t : Int)) (ha : x < 0 → px_SW d m t L st w k Q) (hb : ¬ x < 0 → px_SW d m (pc + 3) L st w k Q) : px_SW d m pc L (.int x :: st) w k Q := by
  intro p l e s mi args below meth c A D as0 as ws tys H locs ls C B hk
  exact lv_if_lt C.1 C.2.1 hd ht (fun hc => ha hc p l e s mi args below meth c A D as0 as ws tys H locs ls C (B.toS B.sk.tl) hk) (fun hc => hb hc p l e s mi args below meth c A D as0 as ws tys H locs ls C (B.toS B.sk.tl) hk)
theorem px_q_icmp_lt {x y : Int32} {off : Int} {t : Nat} (hd : decode (px_mb m) pc = .ok (.if_icmp .lt off, 3)) (ht : (pc : Int) + off = (t : Int)) (ha : x < y → px_SW d m t L st w k Q) (hb : ¬ x < y → px_SW d m (pc + 3) L st w k Q) : px_SW d m pc L (.int y :: .int x :: st) w k Q := by
  intro p l e s mi args below meth c A D as0 as ws tys H locs ls C B hk
  exact lv_icmp_lt C.1 C.2.1 hd ht (fun hc => ha hc p l e s mi args below meth c A D as0 as ws tys H locs ls C (B.toS B.sk.tl.tl) hk) (fun hc => hb hc p l e s mi args below meth c A D as0 as ws tys H locs ls C (B.toS B.sk.tl.tl) hk)
theorem px_q_if_ge {x : Int32} {off : Int} {t : Nat} (hd : decode (px_mb m) pc = .ok (.ifCond .ge off, 3)) (ht : (pc : Int) + off = (t : Int)) (ha : 0 ≤ x → px_SW d m t L st w k Q) (hb : ¬ 0 ≤ x → px_SW d m (pc + 3) L st w k Q) : px_SW d m pc L (.int x :: st) w k Q := by
  intro p l e s mi args below meth c A D as0 as ws tys H locs ls C B hk
  exact lv_if_ge C.1 C.2.1 hd ht (fun hc => ha hc p l e s mi args below meth c A D as0 as ws tys H locs ls C (B.toS B.sk.tl) hk) (fun hc => hb hc p l e s mi args below meth c A D as0 as ws tys H locs ls C (B.toS B.sk.tl) hk)
theorem px_q_icmp_ge {x y : Int32} {off : Int} {t : Nat} (hd : decode (px_mb m) pc = .ok (.if_icmp .ge off, 3)) (ht : (pc : Int) + off = (t : Int)) (ha : y ≤ x → px_SW d m t L st w k Q) (hb : ¬ y ≤ x → px_SW d m (pc + 3) L st w k Q) : px_SW d m pc L (.int y :: .int x :: st) w k Q := by
  intro p l e s mi args below meth c A D as0 as ws tys H locs ls C B hk
  exact lv_icmp_ge C.1 C.2.1 hd ht (fun hc => ha hc p l e s mi args below meth c A D as0 as ws tys H locs ls C (B.toS B.sk.tl.tl) hk) (fun hc => hb hc p l e s mi args below meth c A D as0 as ws tys H locs ls C (B.toS B.sk.tl.tl) hk)
theorem px_q_if_gt {x : Int32} {off : Int} {t : Nat} (hd : decode (px_mb m) pc = .ok (.ifCond .gt off, 3)) (ht : (pc : Int) + off = (t : Int)) (ha : 0 < x → px_SW d m t L st w k Q) (hb : ¬ 0 < x → px_SW d m (pc + 3) L st w k Q) : px_SW d m pc L (.int x :: st) w k Q := by
  intro p l e s mi args below meth c A D as0 as ws tys H locs ls C B hk
  exact lv_if_gt C.1 C.2.1 hd ht (fun hc => ha hc p l e s mi args below meth c A D as0 as ws tys H locs ls C (B.toS B.sk.tl) hk) (fun hc => hb hc p l e s mi args below meth c A D as0 as ws tys H locs ls C (B.toS B.sk.tl) hk)
theorem px_q_icmp_gt {x y : Int32} {off : Int} {t : Nat} (hd : decode (px_mb m) pc = .ok (.if_icmp .gt off, 3)) (ht : (pc : Int) + off = (t : Int)) (ha : y < x → px_SW d m t L st w k Q) (hb : ¬ y < x → px_SW d m (pc + 3) L st w k Q) : px_SW d m pc L (.int y :: .int x :: st) w k Q := by
  intro p l e s mi args below meth c A D as0 as ws tys H locs ls C B hk
  exact lv_icmp_gt C.1 C.2.1 hd ht (fun hc => ha hc p l e s mi args below meth c A D as0 as ws tys H locs ls C (B.toS B.sk.tl.tl) hk) (fun hc => hb hc p l e s mi args below meth c A D as0 as ws tys H locs ls C (B.toS B.sk.tl.tl) hk)
theorem px_q_if_le {x : Int32} {off : Int} {t : Nat} (hd : decode (px_mb m) pc = .ok (.ifCond .le off, 3)) (ht : (pc : Int) + off = (t : Int)) (ha : x ≤ 0 → px_SW d m t L st w k Q) (hb : ¬ x ≤ 0 → px_SW d m (pc + 3) L st w k Q) : px_SW d m pc L (.int x :: st) w k Q := by
  intro p l e s mi args below meth c A D as0 as ws tys H locs ls C B hk
  exact lv_if_le C.1 C.2.1 hd ht (fun hc => ha hc p l e s mi args below meth c A D as0 as ws tys H locs ls C (B.toS B.sk.tl) hk) (fun hc => hb hc p l e s mi args below meth c A D as0 as ws tys H locs ls C (B.toS B.sk.tl) hk)
theorem px_q_icmp_le {x y : Int32} {off : Int} {t : Nat} (hd : decode (px_mb m) pc = .ok (.if_icmp .le off, 3)) (ht : (pc : Int) + off = (t : Int)) (ha : x ≤ y → px_SW d m t L st w k Q) (hb : ¬ x ≤ y → px_SW d m (pc + 3) L st w k Q) : px_SW d m pc L (.int y :: .int x :: st) w k Q := by
  intro p l e s mi args below meth c A D as0 as ws tys H locs ls C B hk
  exact lv_icmp_le C.1 C.2.1 hd ht (fun hc => ha hc p l e s mi args below meth c A D as0 as ws tys H locs ls C (B.toS B.sk.tl.tl) hk) (fun hc => hb hc p l e s mi args below meth c A D as0 as ws tys H locs ls C (B.toS B.sk.tl.tl) hk)
theorem px_q_ifnullN {off : Int} {t : Nat} (hd : decode (px_mb m) pc = .ok (.ifnull off, 3)) (ht : (pc : Int) + off = (t : Int)) (h : px_SW d m t L st w k Q) : px_SW d m pc L (.null :: st) w k Q := by
  intro p l e s mi args below meth c A D as0 as ws tys H locs ls C B hk
  exact lv_ifnullN C.1 C.2.1 hd ht (h p l e s mi args below meth c A D as0 as ws tys H locs ls C (B.toS B.sk.tl) hk)
theorem px_q_ifnull {off : Int} {i : Nat} (hd : decode (px_mb m) pc = .ok (.ifnull off, 3)) (h : px_SW d m (pc + 3) L st w k Q) : px_SW d m pc L (.ref i :: st) w k Q := by
  intro p l e s mi args below meth c A D as0 as ws tys H locs ls C B hk
  exact lv_ifnull C.1 C.2.1 hd (h p l e s mi args below meth c A D as0 as ws tys H locs ls C (B.toS B.sk.tl) hk)
theorem px_q_ifnonnull {off : Int} {t i : Nat} (hd : decode (px_mb m) pc = .ok (.ifnonnull off, 3)) (ht : (pc : Int) + off = (t : Int)) (h : px_SW d m t L st w k Q) : px_SW d m pc L (.ref i :: st) w k Q := by
  intro p l e s mi args below meth c A D as0 as ws tys H locs ls C B hk
  exact lv_ifnonnull C.1 C.2.1 hd ht (h p l e s mi args below meth c A D as0 as ws tys H locs ls C (B.toS B.sk.tl) hk)
theorem px_q_ifnonnullN {off : Int} (hd : decode (px_mb m) pc = .ok (.ifnonnull off, 3)) (h : px_SW d m (pc + 3) L st w k Q) : px_SW d m pc L (.null :: st) w k Q := by
  intro p l e s mi args below meth c A D as0 as ws tys H locs ls C B hk
  exact lv_ifnonnullN C.1 C.2.1 hd (h p l e s mi args below meth c A D as0 as ws tys H locs ls C (B.toS B.sk.tl) hk)
theorem px_q_tswO {dflt lo hi : Int} {offs : Array Int} {len : Nat} {x : Int32} {t : Nat} (hd : decode (px_mb m) pc = .ok (.tableswitch dflt lo hi offs, len)) (hx : x.toInt < lo ∨ hi < x.toInt) (ht : (pc : Int) + dflt = (t : Int)) (h : px_SW d m t L st w k Q) : px_SW d m pc L (.int x :: st) w k Q := by
  intro p l e s mi args below meth c A D as0 as ws tys H locs ls C B hk
  exact lv_tableOut C.1 C.2.1 hd hx ht (h p l e s mi args below meth c A D as0 as ws tys H locs ls C (B.toS B.sk.tl) hk)
theorem px_q_tswI {dflt lo hi off : Int} {offs : Array Int} {len : Nat} {x : Int32} {t : Nat} (hd : decode (px_mb m) pc = .ok (.tableswitch dflt lo hi offs, len)) (h1 : ¬ x.toInt < lo) (h2 : ¬ hi < x.toInt) (ho : offs[(x.toInt - lo).toNat]? = some off) (ht : (pc : Int) + off = (t : Int)) (h : px_SW d m t L st w k Q) : px_SW d m pc L (.int x :: st) w k Q := by
  intro p l e s mi args below meth c A D as0 as ws tys H locs ls C B hk
  exact lv_tableIn C.1 C.2.1 hd h1 h2 ho ht (h p l e s mi args below meth c A D as0 as ws tys H locs ls C (B.toS B.sk.tl) hk)
theorem px_q_lsw {dflt : Int} {ps : Array (Int × Int)} {len : Nat} {x : Int32} {t : Nat} (hd : decode (px_mb m) pc = .ok (.lookupswitch dflt ps, len)) (hp : (ps.toList.zip (ps.toList.drop 1)).all (fun (a, next) => a.1 < next.1) = true) (ht : (pc : Int) + Op.lookupswitch.offset ps.toList dflt x.toInt = (t : Int)) (h : px_SW d m t L st w k Q) : px_SW d m pc L (.int x :: st) w k Q := by
  intro p l e s mi args below meth c A D as0 as ws tys H locs ls C B hk
  exact lv_lookup C.1 C.2.1 hd hp rfl ht (h p l e s mi args below meth c A D as0 as ws tys H locs ls C (B.toS B.sk.tl) hk)
end PXU
