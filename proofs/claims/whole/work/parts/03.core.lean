/-! px: a pure machine. Its cells lie at positions 0, 1, 2 ..; a reference is a position. Here: its types, one step, its run. -/
abbrev px_E : Type := (FieldType × Nat × (Nat → Int32)) ⊕ ((FieldType × Nat × (Nat → Option Nat)) ⊕ (Nat × List Value))
abbrev px_H : Type := Nat × (Nat → Option px_E)
/-- what an instruction links: kind, number, targets by class, constant, name -/
abbrev px_X : Type := Nat × Nat × List (Nat × Nat) × Int32 × String
abbrev px_I : Type := Jvm.ClassFile.Instr × Nat × px_X
/-- a method: name, bytes, locals, answer, cells that it may make, its instructions -/
abbrev px_M : Type := MethodName × ByteArray × Nat × Option FieldType × Nat × List (Nat × px_I)
abbrev px_my (m : px_M) : MethodName := m.1
abbrev px_mb (m : px_M) : ByteArray := m.2.1
abbrev px_ml (m : px_M) : Nat := m.2.2.1
abbrev px_mr (m : px_M) : Option FieldType := m.2.2.2.1
abbrev px_mc (m : px_M) : Nat := m.2.2.2.2.1
abbrev px_mi (m : px_M) : List (Nat × px_I) := m.2.2.2.2.2
abbrev px_L : Type := List (Option Value)
/-- place, locals, stack, heap, cells made -/
abbrev px_S : Type := Nat × px_L × List Value × px_H × Nat
abbrev px_A : Type := px_S ⊕ ((Option Value × px_H) ⊕ (Nat × List Value × px_S))
def px_set (w : px_H) (a : Nat) (c : px_E) : px_H := (w.1, fun b => if b = a then some c else w.2 b)
def px_add (w : px_H) (c : px_E) : px_H := (w.1 + 1, fun b => if b = w.1 then some c else w.2 b)
def px_isr : Value → Bool
  | .null => true
  | .ref _ => true
  | _ => false
/-- reads and writes of the heap -/
def px_fld (w : px_H) (a : Nat) (cis : List (Nat × Nat)) (j : Nat) : Option Value := match w.2 a with
  | some (.inr (.inr (ci, fs))) => if (cis.lookup ci).isSome then fs[j]? else none
  | _ => none
/-- what may be stored into a field of a type -/
def px_fit (ty : FieldType) (v : Value) : Bool := match ty, v with
  | .int, .int _ => true
  | .object _, v => px_isr v
  | .array _, v => px_isr v
  | _, _ => false
def px_fty (ci j : Nat) : Option FieldType := match vwCl[ci]? with
  | some q => parseFieldDescriptor (q.2.1 j).2.2.1
  | none => none
def px_pfd (w : px_H) (a : Nat) (cis : List (Nat × Nat)) (j : Nat) (v : Value) : Option px_H := match w.2 a with
  | some (.inr (.inr (ci, fs))) => if (cis.lookup ci).isSome ∧ j < fs.length then some (px_set w a (.inr (.inr (ci, fs.set j v)))) else none
  | _ => none
def px_vin (i : Int32) (n : Nat) : Bool := !(decide (i < 0) || decide (n ≤ i.toNatClampNeg))
def px_ald (w : px_H) (a : Nat) (i : Int32) (ty : FieldType) : Option Int32 := match w.2 a with
  | some (.inl (t, n, f)) => if t = ty ∧ px_vin i n = true then some (f i.toNatClampNeg) else none
  | _ => none
def px_ast (w : px_H) (a : Nat) (i : Int32) (x : Int32) (ty : FieldType) : Option px_H := match w.2 a with
  | some (.inl (t, n, f)) => if t = ty ∧ px_vin i n = true then some (px_set w a (.inl (t, n, upd f i.toNatClampNeg x))) else none
  | _ => none
/-- byte and boolean arrays -/
def px_bld (w : px_H) (a : Nat) (i : Int32) : Option Int32 := match w.2 a with
  | some (.inl (t, n, f)) => if (t = .byte ∨ t = .boolean) ∧ px_vin i n = true then some (f i.toNatClampNeg) else none
  | _ => none
def px_bst (w : px_H) (a : Nat) (i : Int32) (x : Int32) : Option px_H := match w.2 a with
  | some (.inl (t, n, f)) => if (t = .byte ∨ t = .boolean) ∧ px_vin i n = true then some (px_set w a (.inl (t, n, upd f i.toNatClampNeg (vp_nar t x)))) else none
  | _ => none
def px_iso : FieldType → Bool
  | .object _ => true
  | _ => false
def px_rld (w : px_H) (a : Nat) (i : Int32) : Option Value := match w.2 a with
  | some (.inr (.inl (t, n, f))) => if px_vin i n = true ∧ px_iso t = true then some (va_rf (f i.toNatClampNeg)) else none
  | _ => none
def px_cls (w : px_H) (a : Nat) : Option Nat := match w.2 a with
  | some (.inr (.inr (ci, _))) => some ci
  | _ => none
/-- may an object of class ci stand in an array of that type -/
def px_may (ci : Nat) (t : FieldType) : Bool := match t, vwCl[ci]? with
  | .object E, some q => decide (q.1 = E) || decide (Cond.castable q.1 E ∈ lw_tbl.filter (fun c => match c with | .castable .. => true | _ => false))
  | _, _ => false
def px_rst (w : px_H) (a : Nat) (i : Int32) (v : Value) : Option px_H := match w.2 a with
  | some (.inr (.inl (t, n, f))) => if px_vin i n = true then (match t, v with
    | .object _, .null => some (px_set w a (.inr (.inl (t, n, va_up f i.toNatClampNeg none))))
    | .object _, .ref b => (match px_cls w b with
      | some ci => if px_may ci t = true then some (px_set w a (.inr (.inl (t, n, va_up f i.toNatClampNeg (some b))))) else none
      | none => none)
    | _, _ => none) else none
  | _ => none
def px_len (w : px_H) (a : Nat) : Option Int32 := match w.2 a with
  | some (.inl (_, n, _)) => some (Int32.ofNat n)
  | some (.inr (.inl (_, n, _))) => some (Int32.ofNat n)
  | _ => none
def px_cpy (w : px_H) (a0 : Nat) (sp : Int32) (a : Nat) (dp n : Int32) : Option px_H := match w.2 a0, w.2 a with
  | some (.inl (t0, n0, f)), some (.inl (t1, n1, g)) => if t0 = .int ∧ t1 = .int ∧ ¬ sp < 0 ∧ ¬ dp < 0 ∧ ¬ n < 0 ∧ sp.toNatClampNeg + n.toNatClampNeg ≤ n0 ∧ dp.toNatClampNeg + n.toNatClampNeg ≤ n1 then
      some (px_set w a (.inl (t1, n1, va_cpy f g sp.toNatClampNeg dp.toNatClampNeg n.toNatClampNeg))) else none
  | _, _ => none
def px_dfl : FieldType → Value
  | .int => .int 0
  | _ => .null
def px_nf (r : vw_C) (j : Nat) : Value := match parseFieldDescriptor (r.2.1 j).2.2.1 with
  | some t => px_dfl t
  | none => .null
def px_newf (r : vw_C) : List Value := (List.range r.2.2).map (px_nf r)
def px_new (ci : Nat) : Option px_E := match vwCl[ci]? with
  | some q => some (.inr (.inr (ci, px_newf q)))
  | none => none
def px_jmp (pc : Nat) (off : Int) : Option Nat := if 0 ≤ (pc : Int) + off then some ((pc : Int) + off).toNat else none
def px_cmp (c : Jvm.ClassFile.Cond) (x y : Int32) : Bool := match c with
  | .eq => decide (x = y)
  | .ne => decide (¬ x = y)
  | .lt => decide (x < y)
  | .ge => decide (y ≤ x)
  | .gt => decide (y < x)
  | .le => decide (x ≤ y)
def px_tsw (pc : Nat) (dflt lo hi : Int) (offs : Array Int) (x : Int32) : Option Nat :=
  if x.toInt < lo ∨ hi < x.toInt then px_jmp pc dflt else (match offs[(x.toInt - lo).toNat]? with | some o => px_jmp pc o | none => none)
def px_lsw (pc : Nat) (dflt : Int) (ps : Array (Int × Int)) (x : Int32) : Option Nat :=
  if (ps.toList.zip (ps.toList.drop 1)).all (fun (a, next) => a.1 < next.1) = true then px_jmp pc (Op.lookupswitch.offset ps.toList dflt x.toInt) else none
/-- a call: the arguments' number, what stands below them -/
def px_iv (k : Nat) (st : List Value) : Option (List Value × List Value) := if k ≤ st.length ∧ (st.drop k).length ≤ 8 then some ((st.take k).reverse, st.drop k) else none
def px_nat (t : Jvm.ClassFile.ArrayType) : Option FieldType := match t with
  | .int => some .int
  | .byte => some .byte
  | .boolean => some .boolean
  | _ => none
/-- one step -/
def px_act (m : px_M) (i : Jvm.ClassFile.Instr) (X : px_X) (pc : Nat) (L : px_L) (st : List Value) (w : px_H) (k : Nat) : Option px_A := match i with
  | .aconst_null => some (.inl (pc + 1, L, .null :: st, w, k))
  | .iconst n => some (.inl (pc + 1, L, .int (Int32.ofInt n) :: st, w, k))
  | .bipush n => some (.inl (pc + 2, L, .int (Int8.ofInt n).toInt32 :: st, w, k))
  | .sipush n => some (.inl (pc + 3, L, .int (Int16.ofInt n).toInt32 :: st, w, k))
  | .ldc _ => some (.inl (pc + 2, L, .int X.2.2.2.1 :: st, w, k))
  | .ldc_w _ => some (.inl (pc + 3, L, .int X.2.2.2.1 :: st, w, k))
  | .iload j => (match L[j]? with | some (some (.int x)) => some (.inl (pc + 2, L, .int x :: st, w, k)) | _ => none)
  | .iload_n j => (match L[j.val]? with | some (some (.int x)) => some (.inl (pc + 1, L, .int x :: st, w, k)) | _ => none)
  | .aload j => (match L[j]? with | some (some v) => if px_isr v = true then some (.inl (pc + 2, L, v :: st, w, k)) else none | _ => none)
  | .aload_n j => (match L[j.val]? with | some (some v) => if px_isr v = true then some (.inl (pc + 1, L, v :: st, w, k)) else none | _ => none)
  | .istore j => (match st with | .int x :: st => if j < L.length then some (.inl (pc + 2, L.set j (some (.int x)), st, w, k)) else none | _ => none)
  | .istore_n j => (match st with | .int x :: st => if j.val < L.length then some (.inl (pc + 1, L.set j.val (some (.int x)), st, w, k)) else none | _ => none)
  | .astore j => (match st with | v :: st => if px_isr v = true ∧ j < L.length then some (.inl (pc + 2, L.set j (some v), st, w, k)) else none | _ => none)
  | .astore_n j => (match st with | v :: st => if px_isr v = true ∧ j.val < L.length then some (.inl (pc + 1, L.set j.val (some v), st, w, k)) else none | _ => none)
  | .iinc j n => (match L[j]? with | some (some (.int x)) => some (.inl (pc + 3, L.set j (some (.int (x + Int32.ofInt n))), st, w, k)) | _ => none)
  | .iadd => (match st with | .int y :: .int x :: st => some (.inl (pc + 1, L, .int (x + y) :: st, w, k)) | _ => none)
  | .isub => (match st with | .int y :: .int x :: st => some (.inl (pc + 1, L, .int (x - y) :: st, w, k)) | _ => none)
  | .imul => (match st with | .int y :: .int x :: st => some (.inl (pc + 1, L, .int (x * y) :: st, w, k)) | _ => none)
  | .iand => (match st with | .int y :: .int x :: st => some (.inl (pc + 1, L, .int (x &&& y) :: st, w, k)) | _ => none)
  | .ior => (match st with | .int y :: .int x :: st => some (.inl (pc + 1, L, .int (x ||| y) :: st, w, k)) | _ => none)
  | .ixor => (match st with | .int y :: .int x :: st => some (.inl (pc + 1, L, .int (x ^^^ y) :: st, w, k)) | _ => none)
  | .ishl => (match st with | .int y :: .int x :: st => some (.inl (pc + 1, L, .int (x <<< (y &&& 31)) :: st, w, k)) | _ => none)
  | .ishr => (match st with | .int y :: .int x :: st => some (.inl (pc + 1, L, .int (x >>> (y &&& 31)) :: st, w, k)) | _ => none)
  | .iushr => (match st with | .int y :: .int x :: st => some (.inl (pc + 1, L, .int (x.toUInt32 >>> (y.toUInt32 &&& Int32.toUInt32 31)).toInt32 :: st, w, k)) | _ => none)
  | .idiv => (match st with | .int y :: .int x :: st => (if y = 0 then none else some (x / y)).map (fun z => .inl (pc + 1, L, .int z :: st, w, k)) | _ => none)
  | .irem => (match st with | .int y :: .int x :: st => (if y = 0 then none else some (x - x / y * y)).map (fun z => .inl (pc + 1, L, .int z :: st, w, k)) | _ => none)
  | .ineg => (match st with | .int x :: st => some (.inl (pc + 1, L, .int (-x) :: st, w, k)) | _ => none)
  | .i2b => (match st with | .int x :: st => some (.inl (pc + 1, L, .int x.toInt8.toInt32 :: st, w, k)) | _ => none)
  | .i2s => (match st with | .int x :: st => some (.inl (pc + 1, L, .int x.toInt16.toInt32 :: st, w, k)) | _ => none)
  | .dup => (match st with | v :: st => some (.inl (pc + 1, L, v :: v :: st, w, k)) | _ => none)
  | .pop => (match st with | _ :: st => some (.inl (pc + 1, L, st, w, k)) | _ => none)
  | .goto off => (px_jmp pc off).map (fun t => .inl (t, L, st, w, k))
  | .ifCond c off => (match st with | .int x :: st => (if px_cmp c x 0 = true then px_jmp pc off else some (pc + 3)).map (fun t => .inl (t, L, st, w, k)) | _ => none)
  | .if_icmp c off => (match st with | .int y :: .int x :: st => (if px_cmp c x y = true then px_jmp pc off else some (pc + 3)).map (fun t => .inl (t, L, st, w, k)) | _ => none)
  | .ifnull off => (match st with | .null :: st => (px_jmp pc off).map (fun t => .inl (t, L, st, w, k)) | .ref _ :: st => some (.inl (pc + 3, L, st, w, k)) | _ => none)
  | .ifnonnull off => (match st with | .ref _ :: st => (px_jmp pc off).map (fun t => .inl (t, L, st, w, k)) | .null :: st => some (.inl (pc + 3, L, st, w, k)) | _ => none)
  | .tableswitch d lo hi offs => (match st with | .int x :: st => (px_tsw pc d lo hi offs x).map (fun t => .inl (t, L, st, w, k)) | _ => none)
  | .lookupswitch d ps => (match st with | .int x :: st => (px_lsw pc d ps x).map (fun t => .inl (t, L, st, w, k)) | _ => none)
  | .getfield _ => (match st with | .ref a :: st => (px_fld w a X.2.2.1 X.2.1).map (fun v => .inl (pc + 3, L, v :: st, w, k)) | _ => none)
  | .putfield _ => (match st with | v :: .ref a :: st => (if (X.2.2.1.all (fun q => match px_fty q.1 X.2.1 with | some t => px_fit t v | none => false)) = true then px_pfd w a X.2.2.1 X.2.1 v else none).map (fun w => .inl (pc + 3, L, st, w, k)) | _ => none)
  | .iaload => (match st with | .int i :: .ref a :: st => (px_ald w a i .int).map (fun x => .inl (pc + 1, L, .int x :: st, w, k)) | _ => none)
  | .iastore => (match st with | .int x :: .int i :: .ref a :: st => (px_ast w a i x .int).map (fun w => .inl (pc + 1, L, st, w, k)) | _ => none)
  | .baload => (match st with | .int i :: .ref a :: st => (px_bld w a i).map (fun x => .inl (pc + 1, L, .int x :: st, w, k)) | _ => none)
  | .bastore => (match st with | .int x :: .int i :: .ref a :: st => (px_bst w a i x).map (fun w => .inl (pc + 1, L, st, w, k)) | _ => none)
  | .aaload => (match st with | .int i :: .ref a :: st => (px_rld w a i).map (fun v => .inl (pc + 1, L, v :: st, w, k)) | _ => none)
  | .aastore => (match st with | v :: .int i :: .ref a :: st => (px_rst w a i v).map (fun w => .inl (pc + 1, L, st, w, k)) | _ => none)
  | .arraylength => (match st with | .ref a :: st => (px_len w a).map (fun x => .inl (pc + 1, L, .int x :: st, w, k)) | _ => none)
  | .new _ => (if k + 1 ≤ px_mc m then px_new X.2.1 else none).map (fun c => .inl (pc + 3, L, .ref w.1 :: st, px_add w c, k + 1))
  | .newarray t => (match st with | .int n :: st => (if k + 1 ≤ px_mc m ∧ ¬ n < 0 ∧ n.toNatClampNeg ≤ 320 then px_nat t else none).map (fun ty => .inl (pc + 2, L, .ref w.1 :: st, px_add w (.inl (ty, n.toNatClampNeg, fun _ => 0)), k + 1)) | _ => none)
  | .anewarray _ => (match st with | .int n :: st => if k + 1 ≤ px_mc m ∧ ¬ n < 0 ∧ n.toNatClampNeg ≤ 320 then some (.inl (pc + 3, L, .ref w.1 :: st, px_add w (.inr (.inl (.object X.2.2.2.2, n.toNatClampNeg, fun _ => none))), k + 1)) else none | _ => none)
  | .ireturn => (match st with | [.int x] => (match px_mr m with | some .int => some (.inr (.inl (some (.int x), w))) | some .boolean => if x = 0 ∨ x = 1 then some (.inr (.inl (some (.int x), w))) else none | _ => none) | _ => none)
  | .areturn => (match st with | [v] => (match px_mr m with | some (.object _) => if px_isr v = true then some (.inr (.inl (some v, w))) else none | _ => none) | _ => none)
  | .return_ => (match st with | [] => (match px_mr m with | none => some (.inr (.inl (none, w))) | _ => none) | _ => none)
  | .invokestatic _ => if X.1 = 37 then (match st with | .int n :: .int dp :: .ref a :: .int sp :: .ref a0 :: st => if st.length ≤ 8 then (px_cpy w a0 sp a dp n).map (fun w => .inl (pc + 3, L, st, w, k)) else none | _ => none)
      else if X.1 = 38 then (match st with | .int y :: .int x :: st => if st.length ≤ 8 then some (.inl (pc + 3, L, .int (if x < y then y else x) :: st, w, k)) else none | _ => none)
      else (match px_iv X.2.1 st, X.2.2.1 with | some (as, st), [(_, M)] => some (.inr (.inr (M, as, (pc + 3, L, st, w, k)))) | _, _ => none)
  | .invokespecial _ => if X.1 = 36 then (match st with | .ref _ :: st => if st.length ≤ 8 then some (.inl (pc + 3, L, st, w, k)) else none | _ => none)
      else (match px_iv X.2.1 st, X.2.2.1 with | some (as, .ref b :: st), [(_, M)] => (if X.1 = 35 then px_cls w b else some 0).map (fun _ => .inr (.inr (M, .ref b :: as, (pc + 3, L, st, w, k)))) | _, _ => none)
  | .invokevirtual _ => (match px_iv X.2.1 st with | some (as, .ref b :: st) => ((px_cls w b).bind (fun ci => X.2.2.1.lookup ci)).map (fun M => .inr (.inr (M, .ref b :: as, (pc + 3, L, st, w, k)))) | _ => none)
  | _ => none
/-- the locals at a method's entry -/
def px_en (n : Nat) (as : List Value) : px_L := as.map some ++ List.replicate (n - as.length) none
/-- the run: fuel, depth, method -/
def px_ex (T : List px_M) : Nat → Nat → Nat → px_S → Option (Option Value × px_H)
  | 0, _, _, _ => none
  | n + 1, d, M, S => (match T[M]? with
    | none => none
    | some m => (match (px_mi m).lookup S.1 with
      | none => none
      | some q => (match px_act m q.1 q.2.2 S.1 S.2.1 S.2.2.1 S.2.2.2.1 S.2.2.2.2 with
        | none => none
        | some (.inl S') => px_ex T n d M S'
        | some (.inr (.inl r)) => some r
        | some (.inr (.inr c)) => (match d with
          | 0 => none
          | d' + 1 => (match T[c.1]? with
            | none => none
            | some m' => if c.2.1.length ≤ px_ml m' ∧ c.2.2.2.2.2.2 + px_mc m' ≤ px_mc m then
                (match px_ex T n d' c.1 (0, px_en (px_ml m') c.2.1, [], c.2.2.2.2.2.1, 0) with
                | none => none
                | some r => px_ex T n (d' + 1) M (c.2.2.1, c.2.2.2.1, r.1.toList ++ c.2.2.2.2.1, r.2, c.2.2.2.2.2.2 + px_mc m'))
                else none)))))
theorem px_mono (T : List px_M) : ∀ (n d M : Nat) (S : px_S) (r : Option Value × px_H), px_ex T n d M S = some r → px_ex T (n + 1) d M S = some r := by
  intro n
  induction n with
  | zero => intro d M S r h; simp [px_ex] at h
  | succ n ih =>
    intro d M S r h
    rw [px_ex] at h ⊢
    cases hm : T[M]? with
    | none => simp only [hm] at h; cases h
    | some m =>
      simp only [hm] at h ⊢
      cases hi : (px_mi m).lookup S.1 with
      | none => simp only [hi] at h; cases h
      | some q =>
        simp only [hi] at h ⊢
        cases ha : px_act m q.1 q.2.2 S.1 S.2.1 S.2.2.1 S.2.2.2.1 S.2.2.2.2 with
        | none => simp only [ha] at h; cases h
        | some A =>
          simp only [ha] at h ⊢
          rcases A with S' | r' | c
          · exact ih _ _ _ _ h
          · exact h
          · cases d with
            | zero => cases h
            | succ d' =>
              dsimp only at h ⊢
              cases hm' : T[c.1]? with
              | none => simp only [hm'] at h; cases h
              | some m' =>
                simp only [hm'] at h ⊢
                by_cases hc : c.2.1.length ≤ px_ml m' ∧ c.2.2.2.2.2.2 + px_mc m' ≤ px_mc m
                · rw [if_pos hc] at h ⊢
                  cases hr : px_ex T n d' c.1 (0, px_en (px_ml m') c.2.1, [], c.2.2.2.2.2.1, 0) with
                  | none => simp only [hr] at h; cases h
                  | some r1 =>
                    rw [ih _ _ _ _ hr]
                    simp only [hr] at h ⊢
                    exact ih _ _ _ _ h
                · rw [if_neg hc] at h; cases h
theorem px_monoN (T : List px_M) {n n' d M : Nat} {S : px_S} {r : Option Value × px_H} (h : px_ex T n d M S = some r) (hn : n ≤ n') : px_ex T n' d M S = some r := by
  induction hn with
  | refl => exact h
  | step _ ih => exact px_mono T _ _ _ _ _ ih
theorem px_det (T : List px_M) {n n' d M : Nat} {S : px_S} {r r' : Option Value × px_H} (h : px_ex T n d M S = some r) (h' : px_ex T n' d M S = some r') : r = r' := by
  have a := px_monoN T h (Nat.le_max_left n n')
  have b := px_monoN T h' (Nat.le_max_right n n')
  exact Option.some.inj (a.symm.trans b)
/-- it comes to its end, with Q -/
def px_wp (T : List px_M) (d M pc : Nat) (L : px_L) (st : List Value) (w : px_H) (k : Nat) (Q : Option Value → px_H → Prop) : Prop := ∃ (n : Nat) (r : Option Value) (w' : px_H), px_ex T n d M (pc, L, st, w, k) = some (r, w') ∧ Q r w'
def px_wc (T : List px_M) (d M : Nat) (as : List Value) (w : px_H) (Q : Option Value → px_H → Prop) : Prop := ∃ m, T[M]? = some m ∧ as.length ≤ px_ml m ∧ px_wp T d M 0 (px_en (px_ml m) as) [] w 0 Q
def px_op {α : Type} (o : Option α) (K : α → Prop) : Prop := match o with
  | some v => K v
  | none => False
theorem px_op_some {α : Type} (v : α) (K : α → Prop) : px_op (some v) K = K v := rfl
theorem px_op_none {α : Type} (K : α → Prop) : px_op none K = False := rfl
section PXR
variable {T : List px_M} {d M pc k : Nat} {L : px_L} {st : List Value} {w : px_H} {Q : Option Value → px_H → Prop} {m : px_M} {q : px_I}
theorem px_go (hm : T[M]? = some m) (hi : (px_mi m).lookup pc = some q) {S' : px_S} (ha : px_act m q.1 q.2.2 pc L st w k = some (.inl S')) : px_wp T d M pc L st w k Q ↔ px_wp T d M S'.1 S'.2.1 S'.2.2.1 S'.2.2.2.1 S'.2.2.2.2 Q := by
  constructor
  · rintro ⟨n, r, w', h, hq⟩
    cases n with
    | zero => simp [px_ex] at h
    | succ n =>
      rw [px_ex] at h
      simp only [hm, hi, ha] at h
      exact ⟨n, r, w', h, hq⟩
  · rintro ⟨n, r, w', h, hq⟩
    refine ⟨n + 1, r, w', ?_, hq⟩
    rw [px_ex]
    simp only [hm, hi, ha]
    exact h
theorem px_goO (hm : T[M]? = some m) (hi : (px_mi m).lookup pc = some q) {α : Type} {o : Option α} {S' : α → px_S} (ha : px_act m q.1 q.2.2 pc L st w k = o.map (fun v => .inl (S' v))) : px_wp T d M pc L st w k Q ↔ px_op o (fun v => px_wp T d M (S' v).1 (S' v).2.1 (S' v).2.2.1 (S' v).2.2.2.1 (S' v).2.2.2.2 Q) := by
  cases o with
  | some v => exact px_go hm hi ha
  | none =>
    refine ⟨?_, fun h => h.elim⟩
    rintro ⟨n, r, w', h, hq⟩
    cases n with
    | zero => simp [px_ex] at h
    | succ n =>
      rw [px_ex] at h
      simp only [hm, hi, ha, Option.map_none] at h
      cases h
theorem px_ret (hm : T[M]? = some m) (hi : (px_mi m).lookup pc = some q) {r : Option Value} (ha : px_act m q.1 q.2.2 pc L st w k = some (.inr (.inl (r, w)))) : px_wp T d M pc L st w k Q ↔ Q r w := by
  constructor
  · rintro ⟨n, r', w', h, hq⟩
    cases n with
    | zero => simp [px_ex] at h
    | succ n =>
      rw [px_ex] at h
      simp only [hm, hi, ha] at h
      cases h
      exact hq
  · intro hq
    refine ⟨1, r, w, ?_, hq⟩
    rw [px_ex]
    simp only [hm, hi, ha]
theorem px_retI (hm : T[M]? = some m) (hi : (px_mi m).lookup pc = some q) {c : Prop} [Decidable c] {r : Option Value} (ha : px_act m q.1 q.2.2 pc L st w k = if c then some (.inr (.inl (r, w))) else none) : px_wp T d M pc L st w k Q ↔ c ∧ Q r w := by
  by_cases hc : c
  · rw [if_pos hc] at ha
    rw [px_ret hm hi ha]
    exact ⟨fun h => ⟨hc, h⟩, fun h => h.2⟩
  · rw [if_neg hc] at ha
    refine ⟨?_, fun h => absurd h.1 hc⟩
    rintro ⟨n, r, w', h, hq⟩
    cases n with
    | zero => simp [px_ex] at h
    | succ n =>
      rw [px_ex] at h
      simp only [hm, hi, ha] at h
      cases h
theorem px_call (hm : T[M]? = some m) (hi : (px_mi m).lookup pc = some q) {α : Type} {o : Option α} {c : α → Nat × List Value × px_S} (ha : px_act m q.1 q.2.2 pc L st w k = o.map (fun v => .inr (.inr (c v))))
    {m' : α → px_M} (hm' : ∀ v, o = some v → T[(c v).1]? = some (m' v) ∧ (c v).2.1.length ≤ px_ml (m' v) ∧ (c v).2.2.2.2.2.2 + px_mc (m' v) ≤ px_mc m) :
    px_wp T (d + 1) M pc L st w k Q ↔ px_op o (fun v => px_wc T d (c v).1 (c v).2.1 (c v).2.2.2.2.2.1 (fun r w' => px_wp T (d + 1) M (c v).2.2.1 (c v).2.2.2.1 (r.toList ++ (c v).2.2.2.2.1) w' ((c v).2.2.2.2.2.2 + px_mc (m' v)) Q)) := by
  cases o with
  | none =>
    refine ⟨?_, fun h => h.elim⟩
    rintro ⟨n, r, w', h, hq⟩
    cases n with
    | zero => simp [px_ex] at h
    | succ n =>
      rw [px_ex] at h
      simp only [hm, hi, ha, Option.map_none] at h
      cases h
  | some v =>
    obtain ⟨g1, g2, g3⟩ := hm' v rfl
    rw [px_op_some]
    simp only [Option.map_some] at ha
    constructor
    · rintro ⟨n, r, w', h, hq⟩
      cases n with
      | zero => simp [px_ex] at h
      | succ n =>
        rw [px_ex] at h
        simp only [hm, hi, ha, g1] at h
        rw [if_pos ⟨g2, g3⟩] at h
        cases hr : px_ex T n d (c v).1 (0, px_en (px_ml (m' v)) (c v).2.1, [], (c v).2.2.2.2.2.1, 0) with
        | none => simp only [hr] at h; cases h
        | some r1 =>
          simp only [hr] at h
          exact ⟨m' v, g1, g2, n, r1.1, r1.2, hr, n, r, w', h, hq⟩
    · rintro ⟨m2, e1, e2, n1, r1, w1, h1, n2, r, w', h2, hq⟩
      cases g1.symm.trans e1
      refine ⟨Nat.max n1 n2 + 1, r, w', ?_, hq⟩
      rw [px_ex]
      simp only [hm, hi, ha, g1]
      rw [if_pos ⟨g2, g3⟩, px_monoN T h1 (Nat.le_max_left n1 n2)]
      exact px_monoN T h2 (Nat.le_max_right n1 n2)
end PXR
