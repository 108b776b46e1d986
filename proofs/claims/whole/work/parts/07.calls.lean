/-! making, returning, calling -/
theorem px_dflv {as : List Nat} (t : FieldType) : px_v as (px_dfl t) = px_dfl t := by cases t <;> rfl
theorem px_dflok {n : Nat} (t : FieldType) : px_vok n (px_dfl t) := by cases t <;> trivial
theorem px_nf_v {as : List Nat} (r : vw_C) (j : Nat) : px_v as (px_nf r j) = px_nf r j := by
  unfold px_nf
  split
  · exact px_dflv _
  · rfl
theorem px_newf_v {as : List Nat} (r : vw_C) : (px_newf r).map (px_v as) = px_newf r := by
  unfold px_newf
  rw [List.map_map]
  exact List.map_congr_left (fun j _ => px_nf_v r j)
theorem px_newf_ok {n : Nat} (r : vw_C) : ∀ v ∈ px_newf r, px_vok n v := by
  intro v hv
  obtain ⟨j, -, rfl⟩ := List.mem_map.mp hv
  unfold px_nf
  split
  · exact px_dflok _
  · trivial
def px_mok (m : px_M) : Prop := Cond.code (px_my m) (px_mb m) (px_ml m) (px_mr m) ∈ px_W ∧ plainName (px_my m).cls = true ∧ ((px_my m).cls ≠ "java/lang/invoke/MethodHandle" ∧ (px_my m).cls ≠ "java/lang/invoke/VarHandle") ∧ px_ml m ≤ 21
def px_ws (m : px_M) : List Cond := .code (px_my m) (px_mb m) (px_ml m) (px_mr m) :: px_W
theorem px_good {m : px_M} (h : px_mok m) : GoodIn px_W (px_ws m) := by
  intro w hw
  have h1 : w ∈ px_W := by
    rcases List.mem_cons.mp hw with rfl | h1
    · exact h.1
    · exact h1
  exact ⟨h1, good_of_word (List.mem_filter.mp h1).2⟩
def px_Pc (vs : List Value) (D : va_G) (as : List Nat) (ws : va_W) (tys : List (ClassId × FieldType)) (sz : Nat) : Array Value → State → Prop := va_Pc (vs.map (px_v as)) (fun U => U.heap.size = sz ∧ va_P D vwCl ws U.heap ∧ va_K D vwCl tys U ∧ va_D (fun _ => True) ws ∧ px_N U)
theorem px_blind {vs : List Value} {D : va_G} {as : List Nat} {ws : va_W} {tys : List (ClassId × FieldType)} {sz : Nat} : FrameBlind (px_Pc vs D as ws tys sz) := by
  intro a U g mk q
  obtain ⟨q0, q1, qP, qK, qD, qN⟩ := q
  exact ⟨q0, q1, qP, va_K.moved (u := U) (U := U.calling g mk a) (Vm.Alike.refl U.vm) qK, qD, px_N.same (s := U) (U := U.calling g mk a) rfl qN⟩
def px_SC (d : Nat) (m : px_M) (vs : List Value) (w : px_H) (Q : Option Value → px_H → Prop) : Prop := ∀ (l : Launch) (D : va_G) (as : List Nat) (ws : va_W) (tys : List (ClassId × FieldType)) (sz : Nat), px_R as ws tys w → px_sok as.length vs →
  Met l (px_my m) (px_ws m) (px_rm d m) (px_Pc vs D as ws tys sz) (px_Qc D as Q (va_A ws sz)) (px_mc m) (320 * px_mc m) (va_A ws sz)
theorem px_lg {vs : List Value} {n : Nat} (h : px_sok n vs) (as : List Nat) : (lg_sl (vs.map (px_v as))).length = vs.length := by
  induction vs with
  | nil => rfl
  | cons v vs ih =>
    have hc : (px_v as v).category = 1 := by rw [px_v_cat]; exact h.hd.cat
    have := ih h.tl
    simp only [lg_sl] at this
    simp [lg_sl, hc, this]
theorem px_lvargs {n : Nat} (as : List Nat) : ∀ (vs : List Value) (i : Nat), px_sok n vs → ∀ (j : Nat) (v : Value), vs[j]? = some v → (i + j, px_v as v) ∈ lv_args i (vs.map (px_v as)) := by
  intro vs
  induction vs with
  | nil => intro i _ j v hj; simp at hj
  | cons u vs ih =>
    intro i h j v hj
    have hc : ¬ (px_v as u).category = 2 := by rw [px_v_cat, h.hd.cat]; decide
    rw [List.map_cons, lv_args, if_neg hc]
    cases j with
    | zero =>
      simp at hj
      subst hj
      exact List.mem_cons_self
    | succ j =>
      have := ih (i + 1) h.tl j v (by simpa using hj)
      rw [show i + 1 + j = i + (j + 1) by omega] at this
      exact List.mem_cons_of_mem _ this
theorem px_en_at {n : Nat} {vs : List Value} {j : Nat} {v : Value} (h : (px_en n vs)[j]? = some (some v)) : vs[j]? = some v := by
  unfold px_en at h
  rcases Nat.lt_or_ge j vs.length with hj | hj
  · rw [List.getElem?_append_left (by rw [List.length_map]; exact hj), List.getElem?_map] at h
    cases hv : vs[j]? with
    | none => rw [hv] at h; cases h
    | some u => rw [hv] at h; cases h; rfl
  · rw [List.getElem?_append_right (by rw [List.length_map]; exact hj)] at h
    have := List.mem_of_getElem? h
    simp at this
theorem px_met {d : Nat} {m : px_M} {vs : List Value} {w : px_H} {Q : Option Value → px_H → Prop} (hm : px_mok m) (hl : vs.length ≤ px_ml m) (h : px_SW d m 0 (px_en (px_ml m) vs) [] w 0 Q) : px_SC d m vs w Q := by
  intro l D as ws tys sz hR hvs
  refine Met.ofW (cc := px_mb m) (maxL := px_ml m) (ret := px_mr m) hm.2.1 rfl ?_
  intro p e s mi args below meth c s₁ B hml hv
  obtain ⟨rfl, hsz, hP, hK, hD0, hN⟩ := hv
  subst hsz
  have hts := atoms_spec (ws := px_ws m) B.pre
  have hlo := lv_entry (vs.map (px_v as)) (n := px_ml m) (by rw [px_lg hvs]; exact hl)
  rw [lg_entry_eq]
  refine h p l e s mi _ below meth c (va_A ws s.heap.size) D as as ws tys s.heap [] _ ⟨B.exec, B.bytes, hml, findClass_of_methodNamed B.named, fun w hw => hts w (List.mem_cons_of_mem _ hw), hN, B.returns, B.notSynchronized, (name_of_methodNamed B.named B.method).1, fun q hq => Or.inr hq⟩
    ⟨hK, hP, hD0.self, va_S.rf, hR, List.prefix_refl _, ⟨⟨hlo.1, hlo.2.1, fun q hq => ?_⟩, ?_, fun j v hj => ?_⟩, px_sok.nil⟩ (Nat.zero_le _)
  · obtain ⟨j, x⟩ := q
    obtain ⟨v, hv, rfl⟩ := px_lv_mem.mp hq
    have := px_lvargs as vs 0 hvs j v (px_en_at hv)
    rw [Nat.zero_add] at this
    exact hlo.2.2 _ this
  · unfold px_en
    rw [List.length_append, List.length_map, List.length_replicate]
    omega
  · exact hvs v (List.mem_of_getElem? (px_en_at hj))
section PXX
variable {d : Nat} {m : px_M} {pc k : Nat} {L : px_L} {st : List Value} {w : px_H} {Q : Option Value → px_H → Prop}
theorem px_q_new (cf : px_CF) {idx ci : Nat} {r : vw_C} (hd : decode (px_mb m) pc = .ok (.new idx, 3)) (hr : vwCl[ci]? = some r) (hc : Cond.classLink (px_my m).cls idx r.1 ∈ px_W) (hk1 : k + 1 ≤ px_mc m)
    (h : px_SW d m (pc + 3) L (.ref w.1 :: st) (px_add w (.inr (.inr (ci, px_newf r)))) (k + 1) Q) : px_SW d m pc L st w k Q := by
  intro p l e s mi args below meth c A D as0 as ws tys H locs ls C B hk
  obtain ⟨hin, ⟨ty0, hty⟩, hnm, hins, hini, h320⟩ := cf ci r hr
  have hts := C.2.2.2.2.1
  refine va_new (D := D) (C := r.1) (T := r.2.1) (N := r.2.2) (fs := px_newf r) C.1 C.2.1 hts hin ty0 (fun j hj => (hty j hj).1) C.2.2.2.1 (hts _ hc) (hts _ hins) (hts _ hini) B.1 B.2.1 B.2.2.1 B.2.2.2.1 C.2.2.2.2.2.2.2.2.2 hr (fun j hj => ?_) hk1 (by show 320 * k + r.2.2 ≤ 320 * px_mc m; omega) hd (fun q H1 hP hD hS => ?_)
  · unfold vp_V px_newf
    rw [← (hty j hj).2]
    simp [List.getD, hj, px_nf, (hty j hj).1]
  · refine W.widen (k := k + 1) (n := 320 * (k + 1)) (Nat.le_refl _) (by omega) ?_
    have hB := B.toN (q := q) (c := .inr (.inr (ci, px_newf r))) (e := .inr (ci, px_newf r)) (tl := []) (st' := st) (px_newf_ok r) (by show _ = _; rw [px_newf_v]) (by rw [List.append_nil]; exact B.1) hP hD hS B.sk
    have := h p l e s mi args below meth c A D as0 _ _ _ H1 locs ls C hB hk1
    rw [show ((Value.ref w.1) :: st).map (px_v (as ++ [q])) = Value.ref q :: st.map (px_v as) by
      rw [List.map_cons, px_sok.map B.sk]
      show Value.ref ((as ++ [q]).getD w.1 0) :: _ = _
      rw [← B.r.2.1]
      simp [List.getD]] at this
    exact this
theorem px_q_newarr {t : Jvm.ClassFile.ArrayType} {ty : FieldType} {n : Int32} (hd : decode (px_mb m) pc = .ok (.newarray t, 2)) (ht : px_nat t = some ty) (hc : Cond.arrayClass ty ∈ px_W) (hk1 : k + 1 ≤ px_mc m) (hn : ¬ n < 0) (h320 : n.toNatClampNeg ≤ 320)
    (h : px_SW d m (pc + 2) L (.ref w.1 :: st) (px_add w (.inl (ty, n.toNatClampNeg, fun _ => 0))) (k + 1) Q) : px_SW d m pc L (.int n :: st) w k Q := by
  intro p l e s mi args below meth c A D as0 as ws tys H locs ls C B hk
  have hts := C.2.2.2.2.1
  have hty : newarray.typeOf t = ty ∧ componentBytes ty ≤ 8 ∧ defaultValue ty = .int 0 := by
    cases t <;> first | (cases ht; exact ⟨rfl, by decide, rfl⟩) | (cases ht)
  obtain ⟨hty, hcb, hdv⟩ := hty
  refine va_newa (atype := t) (ty := ty) (a0 := (n.toNatClampNeg, .inl (fun _ => 0))) C.1 C.2.1 (by rw [hty]; exact hts _ hc) hty B.1 B.2.1 B.2.2.1 B.2.2.2.1 C.2.2.2.2.2.2.2.2.2 (fun cA => by rw [hdv]; rfl) hn rfl ?_ hk1 (by show 320 * k + _ ≤ 320 * px_mc m; omega) hd (fun q cA H1 hK hP hD hS => ?_)
  · have := Nat.mul_le_mul h320 hcb
    omega
  · refine W.widen (k := k + 1) (n := 320 * (k + 1)) (Nat.le_refl _) (by omega) ?_
    have hB := B.toN (q := q) (c := .inl (ty, n.toNatClampNeg, fun _ => 0)) (tl := [(cA, ty)]) (st' := st) trivial ⟨cA, tys.length, by simp, rfl⟩ hK hP hD hS B.sk.tl
    have := h p l e s mi args below meth c A D as0 _ _ _ H1 locs ls C hB hk1
    rw [show ((Value.ref w.1) :: st).map (px_v (as ++ [q])) = Value.ref q :: st.map (px_v as) by
      rw [List.map_cons, px_sok.map B.sk.tl]
      show Value.ref ((as ++ [q]).getD w.1 0) :: _ = _
      rw [← B.r.2.1]
      simp [List.getD]] at this
    exact this
theorem px_q_anew {idx : Nat} {E : String} {n : Int32} (hd : decode (px_mb m) pc = .ok (.anewarray idx, 3)) (hc : Cond.classLink (px_my m).cls idx E ∈ px_W) (ho : Cond.arrayOver (.object E) ∈ px_Z) (hk1 : k + 1 ≤ px_mc m) (hn : ¬ n < 0) (h320 : n.toNatClampNeg ≤ 320)
    (h : px_SW d m (pc + 3) L (.ref w.1 :: st) (px_add w (.inr (.inl (.object E, n.toNatClampNeg, fun _ => none)))) (k + 1) Q) : px_SW d m pc L (.int n :: st) w k Q := by
  intro p l e s mi args below meth c A D as0 as ws tys H locs ls C B hk
  have hts := C.2.2.2.2.1
  refine va_newq C.1 C.2.1 C.2.2.2.1 (hts _ hc) (C.2.2.2.2.2.1 _ ho) B.1 B.2.1 B.2.2.1 B.2.2.2.1 C.2.2.2.2.2.2.2.2.2 hn rfl (by omega) hk1 (by show 320 * k + _ ≤ 320 * px_mc m; omega) hd (fun q cA H1 hK hP hD hS => ?_)
  refine W.widen (k := k + 1) (n := 320 * (k + 1)) (Nat.le_refl _) (by omega) ?_
  have hB := B.toN (q := q) (c := .inr (.inl (.object E, n.toNatClampNeg, fun _ => none))) (tl := [(cA, .object E)]) (st' := st) (fun j i hj => by cases hj) ⟨cA, tys.length, by simp, rfl⟩ hK hP hD hS B.sk.tl
  have := h p l e s mi args below meth c A D as0 _ _ _ H1 locs ls C hB hk1
  rw [show ((Value.ref w.1) :: st).map (px_v (as ++ [q])) = Value.ref q :: st.map (px_v as) by
    rw [List.map_cons, px_sok.map B.sk.tl]
    show Value.ref ((as ++ [q]).getD w.1 0) :: _ = _
    rw [← B.r.2.1]
    simp [List.getD]] at this
  exact this
theorem px_q_iret {x : Int32} (hd : decode (px_mb m) pc = .ok (.ireturn, 1)) (hr : px_mr m = some .int ∨ (px_mr m = some .boolean ∧ (x = 0 ∨ x = 1))) (hq : Q (some (.int x)) w) : px_SW d m pc L [.int x] w k Q := by
  intro p l e s mi args below meth c A D as0 as ws tys H locs ls C B hk
  refine W.widen (k := px_mc m) (n := 320 * px_mc m) hk (by omega) ?_
  have hE : ∀ t : State, t.heap = H → s.WarmedH t.vm → px_Qc D as0 Q A args s (.returned (some (.int x))) t := fun t ht hW => ⟨⟨some (.int x), w, as, ws, tys, rfl, hq, B.2.2.2.2.2.1, fun v hv => by cases hv; trivial, B.r, by rw [ht]; exact B.2.1, va_K.moved hW.alike B.1, B.2.2.1⟩, B.2.2.2.1.F ht⟩
  rcases hr with hr | ⟨hr, hx⟩
  · exact W.iret (v := x) C.1 C.2.1 (C.2.2.2.2.2.2.1.trans hr) hE B.2.2.2.1.2.2 hd C.2.2.2.2.2.2.2.1
  · exact W.zret (v := x) C.1 C.2.1 (C.2.2.2.2.2.2.1.trans hr) (by rcases hx with rfl | rfl <;> rfl) hE B.2.2.2.1.2.2 hd C.2.2.2.2.2.2.2.1
theorem px_q_aret {v : Value} {E : String} (hd : decode (px_mb m) pc = .ok (.areturn, 1)) (hr : px_mr m = some (.object E)) (hv : px_isr v = true) (hq : Q (some v) w) : px_SW d m pc L [v] w k Q := by
  intro p l e s mi args below meth c A D as0 as ws tys H locs ls C B hk
  refine W.widen (k := px_mc m) (n := 320 * px_mc m) hk (by omega) ?_
  have hE : ∀ t : State, t.heap = H → s.WarmedH t.vm → px_Qc D as0 Q A args s (.returned (some (px_v as v))) t := fun t ht hW => ⟨⟨some v, w, as, ws, tys, rfl, hq, B.2.2.2.2.2.1, fun u hu => by cases hu; exact B.sk.hd, B.r, by rw [ht]; exact B.2.1, va_K.moved hW.alike B.1, B.2.2.1⟩, B.2.2.2.1.F ht⟩
  exact W.aret C.1 C.2.1 (C.2.2.2.2.2.2.1.trans hr) (Or.inl ⟨E, rfl⟩) (by cases v with | null => exact Or.inl rfl | ref i => exact Or.inr ⟨_, rfl⟩ | _ => cases hv) hE B.2.2.2.1.2.2 hd C.2.2.2.2.2.2.2.1
theorem px_q_vret (hd : decode (px_mb m) pc = .ok (.return_, 1)) (hr : px_mr m = none) (hq : Q none w) : px_SW d m pc L [] w k Q := by
  intro p l e s mi args below meth c A D as0 as ws tys H locs ls C B hk
  refine W.widen (k := px_mc m) (n := 320 * px_mc m) hk (by omega) ?_
  have hE : ∀ t : State, t.heap = H → s.WarmedH t.vm → px_Qc D as0 Q A args s (.returned none) t := fun t ht hW => ⟨⟨none, w, as, ws, tys, rfl, hq, B.2.2.2.2.2.1, (fun u hu => by cases hu), B.r, by rw [ht]; exact B.2.1, va_K.moved hW.alike B.1, B.2.2.1⟩, B.2.2.2.1.F ht⟩
  exact W.vret C.1 C.2.1 (C.2.2.2.2.2.2.1.trans hr) hE B.2.2.2.1.2.2 hd C.2.2.2.2.2.2.2.1
def px_lkO (own : String) (idx : Nat) : Prop := Cond.methodLink own idx Lib.objectInit ∈ px_W ∧ Cond.instanceMethod Lib.objectInit ∈ px_W ∧ Cond.code Lib.objectInit ⟨#[0xb1]⟩ 1 none ∈ px_W
theorem px_q_obj {idx a : Nat} (hd : decode (px_mb m) pc = .ok (.invokespecial idx, 3)) (F : px_lkO (px_my m).cls idx) (hs : st.length ≤ 8) (h : px_SW d m (pc + 3) L st w k Q) : px_SW d m pc L (.ref a :: st) w k Q := by
  intro p l e s mi args below meth c A D as0 as ws tys H locs ls C B hk
  have hts := C.2.2.2.2.1
  refine W.objInit C.1 C.2.1 C.2.2.2.1 (hts _ F.1) (hts _ F.2.1) (hts _ F.2.2) rfl (by rw [C.2.2.1]; exact B.lo.1.1) rfl hd (by show 1 ≤ d + 1; omega) ?_ (h p l e s mi args below meth c A D as0 as ws tys H locs ls C (B.toS B.sk.tl) hk)
  have h1 := lv_room (m := mi) (pc := pc) (ls := ls) (rest := (Value.ref a :: st).map (px_v as)) (st := st.map (px_v as)) (by rw [px_sok.cat B.sk.tl]; exact hs)
  show _ ≤ 40 * (d + 1)
  omega
end PXX
