/-! calls -/
theorem px_iv_inv {n : Nat} {st vs rest : List Value} (h : px_iv n st = some (vs, rest)) : st = vs.reverse ++ rest ∧ vs.length = n ∧ rest.length ≤ 8 := by
  unfold px_iv at h
  split at h
  · rename_i hl
    cases h
    refine ⟨by rw [List.reverse_reverse, List.take_append_drop], ?_, hl.2⟩
    rw [List.length_reverse, List.length_take]
    omega
  · cases h
theorem px_sok.app_l {n : Nat} {a b : List Value} (h : px_sok n (a ++ b)) : px_sok n a := fun v hv => h v (List.mem_append_left _ hv)
theorem px_sok.app_r {n : Nat} {a b : List Value} (h : px_sok n (a ++ b)) : px_sok n b := fun v hv => h v (List.mem_append_right _ hv)
theorem px_sok.rev {n : Nat} {a : List Value} (h : px_sok n a.reverse) : px_sok n a := fun v hv => h v (List.mem_reverse.mpr hv)
section PXY
variable {p : Program} {l : Launch} {e : Env} {R : Room} {s : State} {mi : MethodId} {args : Array Value} {below : List Frame} {meth : Method} {c : Code} {H : Heap} {locs : List Loc} {cells slots mc ms : Nat}
variable {pc k d : Nat} {ls : Array Slot} {st0 rest : List Value} {D : va_G} {as0 as : List Nat} {ws : va_W} {tys : List (ClassId × FieldType)} {A : Nat → Prop} {a : Array Value} {Z : State → Prop} {Q' Q : Option Value → px_H → Prop} {m m' : px_M} {L : px_L} {w : px_H}
theorem px_after (hr : va_Run p l e R s mi args below meth c H locs cells slots mc ms (F0 mi pc ls st0) rest (px_Qc D as Q' (va_A ws H.size) a) (va_A ws H.size)) (hA : ∀ q, va_A ws H.size q → A q) (hS : va_S A s.heap H locs)
    (kk : ∀ (r : Option Value) (w' : px_H) (as' : List Nat) (ws' : va_W) (tys' : List (ClassId × FieldType)) (H1 : Heap) (locs1 : List Loc), Q' r w' → as <+: as' → (∀ v, r = some v → px_vok as'.length v) → px_R as' ws' tys' w' → va_P D vwCl ws' H1 → va_K D vwCl tys' s → va_D A ws' → va_S A s.heap H1 locs1 → W p l e R s mi args below meth c H1 locs1 (cells + mc) (slots + ms) Z (F0 mi (pc + 3) ls ((r.map (px_v as')).toList ++ rest))) :
    W p l e R s mi args below meth c H locs cells slots Z (F0 mi pc ls st0) := by
  intro T hT X
  obtain ⟨v, st₀, t, T', L, h0, X', hL, e1, e2, ⟨⟨r, w', as', ws', tys', hv, hq, hpre, hrok, hR, hP, hK, hD⟩, hz, hk⟩, st⟩ := hr T hT X
  cases hv
  rw [h0] at hz hk
  have hal : s.vm.Alike t.vm := by rw [← e2]; exact X'.warmed.alike
  obtain ⟨t2, a1, b1⟩ := kk r w' as' ws' tys' T'.heap (locs ++ L) hq hpre hrok hR (by rw [e1]; exact hP) (va_K.moved hal.symm hK) (hD.weaken (fun _ q _ h => hA q.1 h))
    ⟨Nat.le_trans hS.1 (by rw [e1]; exact hz), fun q h1 h2 => by rw [e1, hk q (Nat.lt_of_lt_of_le h1 hS.1) (fun z => h2 (hA q z))]; exact hS.2.1 q h1 h2, fun q hq => by
      rcases List.mem_append.mp hq with h | h
      · exact hS.2.2 q h
      · exact hA _ (hL q h)⟩ T' rfl X'
  exact ⟨t2, st t2 a1, b1⟩
theorem px_done (C : px_C m p s mi args meth c A) (B : px_B s A D as0 as ws tys H locs ls (px_ml m) L st0 w) (hrest : px_sok as.length rest) (hk1 : k + px_mc m' ≤ px_mc m)
    (hr : va_Run p l e (px_rm d m) s mi args below meth c H locs k (320 * k) (px_mc m') (320 * px_mc m') (F0 mi pc ls (st0.map (px_v as))) (rest.map (px_v as)) (px_Qc D as (fun r w' => px_SW d m (pc + 3) L (r.toList ++ rest) w' (k + px_mc m') Q) (va_A ws H.size) a) (va_A ws H.size)) :
    W p l e (px_rm d m) s mi args below meth c H locs k (320 * k) (MQ below (px_Qc D as0 Q A) args s (px_mc m) (320 * px_mc m) A) (F0 mi pc ls (st0.map (px_v as))) := by
  have hA : ∀ q, va_A ws H.size q → A q := by
    intro q h
    rcases h with ⟨i, e', h⟩ | h
    · exact B.2.2.1.2 i (q, e') h
    · exact C.2.2.2.2.2.2.2.2.2 q (Nat.le_trans B.2.2.2.1.1 h)
  refine px_after hr hA B.2.2.2.1 (fun r w' as' ws' tys' H1 locs1 hq hpre hrok hR hP hK hD hS => ?_)
  have hle : as.length ≤ as'.length := hpre.length_le
  have hs : px_sok as'.length (r.toList ++ rest) := by
    intro v hv
    rcases List.mem_append.mp hv with h | h
    · cases r with
      | none => cases h
      | some u =>
        have : v = u := by simpa using h
        subst this
        exact hrok _ rfl
    · exact (hrest v h).le hle
  have := hq p l e s mi args below meth c A D as0 as' ws' tys' H1 locs1 ls C ⟨hK, hP, hD, hS, hR, B.2.2.2.2.2.1.trans hpre, B.lo.pre hpre, hs⟩ hk1
  rw [show (r.toList ++ rest).map (px_v as') = (r.map (px_v as')).toList ++ rest.map (px_v as) by
    rw [List.map_append]
    congr 1
    · cases r <;> rfl
    · obtain ⟨t, rfl⟩ := hpre
      exact px_sok.map hrest] at this
  rw [show 320 * k + 320 * px_mc m' = 320 * (k + px_mc m') by omega]
  exact this
end PXY
theorem px_hR {d : Nat} {m m' : px_M} (h : px_mok m') : (px_rm d m').frames + 1 ≤ (px_rm (d + 1) m).frames ∧ 8 + (px_ml m' + 11) + (px_rm d m').locals ≤ (px_rm (d + 1) m).locals := by
  have h1 := h.2.2.2
  constructor
  · show d + 1 + 1 ≤ d + 1 + 1
    omega
  · show 8 + (px_ml m' + 11) + 40 * (d + 1) ≤ 40 * (d + 1 + 1)
    omega
def px_len1 (y : MethodName) (n : Nat) : Prop := (parseMethodDescriptor y.desc).map (fun d => d.parameters.length) = some n
def px_lkS (own : String) (idx n : Nat) (m' : px_M) : Prop := Cond.methodLink own idx (px_my m') ∈ px_W ∧ Cond.static (px_my m') ∈ px_W ∧ Cond.initialized (px_my m').cls ∈ px_W ∧ px_len1 (px_my m') n
def px_lkI (own : String) (idx n : Nat) (m' : px_M) : Prop := Cond.methodLink own idx (px_my m') ∈ px_W ∧ Cond.instanceMethod (px_my m') ∈ px_W ∧ Cond.initialized (px_my m').cls ∈ px_W ∧ (px_my m').name = "<init>" ∧ px_mr m' = none ∧ px_len1 (px_my m') n
def px_lkN (own : String) (idx n : Nat) (m' : px_M) : Prop := (∃ host : String, Cond.methodLinkNest own idx (px_my m') host ∈ px_Z) ∧ Cond.instanceMethod (px_my m') ∈ px_W ∧ Cond.initialized (px_my m').cls ∈ px_W ∧ (px_my m').name = "<init>" ∧ px_mr m' = none ∧ px_len1 (px_my m') n
def px_lkV (own : String) (idx n ci : Nat) (m' : px_M) : Prop := ∃ r : vw_C, vwCl[ci]? = some r ∧ Cond.methodLink own idx (px_my m') ∈ px_W ∧ Cond.instanceMethod (px_my m') ∈ px_W ∧ Cond.selects r.1 (px_my m') (px_my m') ∈ px_W ∧ Cond.initialized (px_my m').cls ∈ px_W ∧ px_len1 (px_my m') n
def px_lkU (own : String) (idx n ci : Nat) (m' : px_M) (owner : String) : Prop := ∃ (r : vw_C) (x : MethodName), vwCl[ci]? = some r ∧ Cond.methodLink own idx x ∈ px_W ∧ Cond.sameMethod x.cls owner x.name x.desc ∈ px_W ∧ Cond.selects r.1 x (px_my m') ∈ px_W ∧ Cond.instanceMethod (px_my m') ∈ px_W ∧ Cond.initialized (px_my m').cls ∈ px_W ∧ (owner ≠ "java/lang/invoke/MethodHandle" ∧ owner ≠ "java/lang/invoke/VarHandle") ∧
  (Cond.declares ⟨owner, x.name, x.desc⟩ ∈ px_Z ∨ (Cond.instanceMethod ⟨owner, x.name, x.desc⟩ ∈ px_W ∧ ∃ (b0 : ByteArray) (m0 : Nat) (r0 : Option FieldType), Cond.code ⟨owner, x.name, x.desc⟩ b0 m0 r0 ∈ px_W)) ∧ px_len1 x n
def px_lkX (own : String) (idx n : Nat) (m' : px_M) : Prop := Cond.methodLink own idx (px_my m') ∈ px_W ∧ Cond.sameMethod (px_my m').cls (px_my m').cls (px_my m').name (px_my m').desc ∈ px_W ∧ Cond.superclass own (px_my m').cls ∈ px_W ∧ Cond.instanceMethod (px_my m') ∈ px_W ∧ Cond.initialized (px_my m').cls ∈ px_W ∧ (px_my m').name ≠ "<init>" ∧ px_len1 (px_my m') n
theorem px_len1.sig {y : MethodName} {n : Nat} (h : px_len1 y n) : ∀ sig, parseMethodDescriptor y.desc = some sig → n = sig.parameters.length := by
  intro sig hs
  unfold px_len1 at h
  rw [hs] at h
  exact (Option.some.inj h).symm
section PXZ
variable {d : Nat} {m m' : px_M} {pc k idx n : Nat} {L : px_L} {st vs rest : List Value} {w : px_H} {Q : Option Value → px_H → Prop}
theorem px_q_static (hd : decode (px_mb m) pc = .ok (.invokestatic idx, 3)) (hm' : px_mok m') (F : px_lkS (px_my m).cls idx n m') (hst : px_iv n st = some (vs, rest)) (hk1 : k + px_mc m' ≤ px_mc m)
    (SC : px_SC d m' vs w (fun r w' => px_SW (d + 1) m (pc + 3) L (r.toList ++ rest) w' (k + px_mc m') Q)) : px_SW (d + 1) m pc L st w k Q := by
  intro p l e s mi args below meth c A D as0 as ws tys H locs ls C B hk
  obtain ⟨rfl, hn, h8⟩ := px_iv_inv hst
  have hts := C.2.2.2.2.1
  have hvs : px_sok as.length vs := B.sk.app_l.rev
  have hrest : px_sok as.length rest := B.sk.app_r
  have hM := SC l D as ws tys H.size B.r hvs
  refine px_done C B hrest hk1 (va_runS (As := vs.map (px_v as)) (rest := rest.map (px_v as)) (g := F0 mi pc ls ((vs.reverse ++ rest).map (px_v as))) (Ts := px_W) ⟨C.1, C.2.1, C.2.2.1, C.2.2.2.1, hts⟩ hM
    ⟨callB_of n hts (px_good hm') rfl rfl rfl (hts _ F.2.2.1) (hts _ F.1) ⟨hm'.2.2.1.1, hm'.2.2.1.2, F.2.2.2⟩ (px_hR hm'), hts _ F.2.1⟩
    ⟨px_blind, fun U hU hW => ⟨rfl, by rw [hU], by rw [hU]; exact B.2.1, va_K.moved hW.alike B.1, B.2.2.1.weaken (fun _ _ _ _ => trivial), C.2.2.2.2.2.1.warm hW⟩⟩ rfl (by rw [List.length_map]; exact hn) B.lo.1.1 ?_ (lv_room (by rw [px_sok.cat hrest]; exact h8)) hd ⟨hk1, by show 320 * k + 320 * px_mc m' ≤ 320 * px_mc m; omega⟩)
  show (vs.reverse ++ rest).map (px_v as) = _
  rw [List.map_append, List.map_reverse]
theorem px_q_init {b : Nat} (hd : decode (px_mb m) pc = .ok (.invokespecial idx, 3)) (hm' : px_mok m') (F : px_lkI (px_my m).cls idx n m' ∨ px_lkN (px_my m).cls idx n m') (hst : px_iv n st = some (vs, .ref b :: rest)) (hk1 : k + px_mc m' ≤ px_mc m)
    (SC : px_SC d m' (.ref b :: vs) w (fun r w' => px_SW (d + 1) m (pc + 3) L (r.toList ++ rest) w' (k + px_mc m') Q)) : px_SW (d + 1) m pc L st w k Q := by
  intro p l e s mi args below meth c A D as0 as ws tys H locs ls C B hk
  obtain ⟨rfl, hn, h8⟩ := px_iv_inv hst
  have hts := C.2.2.2.2.1
  have hvs : px_sok as.length vs := B.sk.app_l.rev
  have hbr : px_sok as.length (.ref b :: rest) := B.sk.app_r
  have hrest : px_sok as.length rest := hbr.tl
  have hM := SC l D as ws tys H.size B.r (px_sok.cons hbr.hd hvs)
  have hstk : (vs.reverse ++ .ref b :: rest).map (px_v as) = (vs.map (px_v as)).reverse ++ .ref (as.getD b 0) :: rest.map (px_v as) := by
    rw [List.map_append, List.map_reverse]
    rfl
  have h8' : rest.length ≤ 8 := Nat.le_trans (Nat.le_succ _) h8
  have hpre : PreS s H (px_Pc (.ref b :: vs) D as ws tys H.size) (.ref (as.getD b 0) :: vs.map (px_v as)) := ⟨px_blind, fun U hU hW => ⟨rfl, by rw [hU], by rw [hU]; exact B.2.1, va_K.moved hW.alike B.1, B.2.2.1.weaken (fun _ _ _ _ => trivial), C.2.2.2.2.2.1.warm hW⟩⟩
  have hcap : k + px_mc m' ≤ (px_rm (d + 1) m).cells ∧ 320 * k + 320 * px_mc m' ≤ (px_rm (d + 1) m).slots := ⟨hk1, by show 320 * k + 320 * px_mc m' ≤ 320 * px_mc m; omega⟩
  rcases F with F | F
  · have hw : px_ws m' = Cond.code (px_my m') (px_mb m') (px_ml m') none :: px_W := by unfold px_ws; rw [F.2.2.2.2.1]
    exact px_done C B hrest hk1 (va_runI (As := vs.map (px_v as)) (rest := rest.map (px_v as)) (b := as.getD b 0) (g := F0 mi pc ls _) (Ts := px_W) ⟨C.1, C.2.1, C.2.2.1, C.2.2.2.1, hts⟩ hM
      (cwI n hts (px_good hm') hw rfl rfl (hts _ F.2.2.1) (hts _ F.1) (hts _ F.2.1) F.2.2.2.1 ⟨hm'.2.2.1.1, hm'.2.2.1.2, F.2.2.2.2.2⟩ (px_hR hm'))
      hpre rfl (by rw [List.length_map]; exact hn) B.lo.1.1 hstk (lv_room (by rw [px_sok.cat hrest]; exact h8')) hd hcap)
  · have hw : px_ws m' = Cond.code (px_my m') (px_mb m') (px_ml m') none :: px_W := by unfold px_ws; rw [F.2.2.2.2.1]
    obtain ⟨⟨host, hho⟩, F⟩ := F
    exact px_done C B hrest hk1 (va_runIN (As := vs.map (px_v as)) (rest := rest.map (px_v as)) (b := as.getD b 0) (g := F0 mi pc ls _) (Ts := px_W) ⟨C.1, C.2.1, C.2.2.1, C.2.2.2.1, hts⟩ hM
      ⟨va_cnB (host := host) n hts (px_good hm') hw rfl rfl (C.2.2.2.2.2.1 _ hho) (hts _ F.2.1) ⟨hm'.2.2.1.1, hm'.2.2.1.2, F.2.2.2.2⟩ (px_hR hm'), F.2.2.1, hts _ F.1⟩
      hpre rfl (by rw [List.length_map]; exact hn) B.lo.1.1 hstk (lv_room (by rw [px_sok.cat hrest]; exact h8')) hd hcap)
theorem px_q_virt {b ci : Nat} {owner : String} (hd : decode (px_mb m) pc = .ok (.invokevirtual idx, 3)) (hm' : px_mok m') (F : px_lkV (px_my m).cls idx n ci m' ∨ px_lkU (px_my m).cls idx n ci m' owner) (hst : px_iv n st = some (vs, .ref b :: rest)) (hcl : px_cls w b = some ci) (hk1 : k + px_mc m' ≤ px_mc m)
    (SC : px_SC d m' (.ref b :: vs) w (fun r w' => px_SW (d + 1) m (pc + 3) L (r.toList ++ rest) w' (k + px_mc m') Q)) : px_SW (d + 1) m pc L st w k Q := by
  intro p l e s mi args below meth c A D as0 as ws tys H locs ls C B hk
  obtain ⟨rfl, hn, h8⟩ := px_iv_inv hst
  have hts := C.2.2.2.2.1
  have hvs : px_sok as.length vs := B.sk.app_l.rev
  have hbr : px_sok as.length (.ref b :: rest) := B.sk.app_r
  have hrest : px_sok as.length rest := hbr.tl
  have hM := SC l D as ws tys H.size B.r (px_sok.cons hbr.hd hvs)
  have hstk : (vs.reverse ++ .ref b :: rest).map (px_v as) = (vs.map (px_v as)).reverse ++ .ref (as.getD b 0) :: rest.map (px_v as) := by
    rw [List.map_append, List.map_reverse]
    rfl
  have h8' : rest.length ≤ 8 := Nat.le_trans (Nat.le_succ _) h8
  obtain ⟨fs, hfs⟩ := px_cls_inv hcl
  obtain ⟨-, eb, heb, hceb⟩ := B.r.2.2 b _ hfs
  cases hceb
  have hcap : k + px_mc m' ≤ (px_rm (d + 1) m).cells ∧ 320 * k + 320 * px_mc m' ≤ (px_rm (d + 1) m).slots := ⟨hk1, by show 320 * k + 320 * px_mc m' ≤ 320 * px_mc m; omega⟩
  rcases F with ⟨r, hr, F1, F2, F3, F4, F5⟩ | ⟨r, x, hr, F1, F2, F3, F4, F5, F6, F7, F8⟩
  · have hpre : PreV s H r.1 (as.getD b 0) (px_Pc (.ref b :: vs) D as ws tys H.size) (vs.map (px_v as)) := ⟨px_blind, va_recv B.1 B.2.1 hr heb, fun U hU hW => ⟨rfl, by rw [hU], by rw [hU]; exact B.2.1, va_K.moved hW.alike B.1, B.2.2.1.weaken (fun _ _ _ _ => trivial), C.2.2.2.2.2.1.warm hW⟩⟩
    exact px_done C B hrest hk1 (va_runV (As := vs.map (px_v as)) (rest := rest.map (px_v as)) (b := as.getD b 0) (C := r.1) (g := F0 mi pc ls _) (Ts := px_W) ⟨C.1, C.2.1, C.2.2.1, C.2.2.2.1, hts⟩ hM
      ⟨callB_of n hts (px_good hm') rfl rfl rfl (hts _ F4) (hts _ F1) ⟨hm'.2.2.1.1, hm'.2.2.1.2, F5⟩ (px_hR hm'), hts _ F2, hts _ F3⟩
      hpre rfl (by rw [List.length_map]; exact hn) B.lo.1.1 hstk (lv_room (by rw [px_sok.cat hrest]; exact h8')) hd hcap)
  · have hpre : PreV s H r.1 (as.getD b 0) (px_Pc (.ref b :: vs) D as ws tys H.size) (vs.map (px_v as)) := ⟨px_blind, va_recv B.1 B.2.1 hr heb, fun U hU hW => ⟨rfl, by rw [hU], by rw [hU]; exact B.2.1, va_K.moved hW.alike B.1, B.2.2.1.weaken (fun _ _ _ _ => trivial), C.2.2.2.2.2.1.warm hW⟩⟩
    have hdecl : va_Decl s ⟨owner, x.name, x.desc⟩ := by
      rcases F7 with q | ⟨q1, b0, m0, r0, q2⟩
      · exact va_Decl.abs (C.2.2.2.2.2.1 _ q)
      · exact va_Decl.of (hts _ q1) (hts _ q2)
    have hcc : Cond.code (px_my m') (px_mb m') (px_ml m') (px_mr m') ∈ px_ws m' := List.mem_cons_self
    exact px_done C B hrest hk1 (va_runU (x := x) (owner := owner) (As := vs.map (px_v as)) (rest := rest.map (px_v as)) (b := as.getD b 0) (C := r.1) (g := F0 mi pc ls _) (Ts := px_W) ⟨C.1, C.2.1, C.2.2.1, C.2.2.2.1, hts⟩ hM
      ⟨⟨rfl, rfl, (px_hR hm').1, (px_hR hm').2, pay_in hts (px_good hm'), hcc⟩, hts _ hm'.1, hts _ F5, F6, F8.sig, hts _ F1, hts _ F2, hdecl, hts _ F3, hts _ F4⟩
      hpre rfl (by rw [List.length_map]; exact hn) B.lo.1.1 hstk (lv_room (by rw [px_sok.cat hrest]; exact h8')) hd hcap)
theorem px_q_super {b ci : Nat} (hd : decode (px_mb m) pc = .ok (.invokespecial idx, 3)) (hm' : px_mok m') (F : px_lkX (px_my m).cls idx n m') (hst : px_iv n st = some (vs, .ref b :: rest)) (hcl : px_cls w b = some ci) (hk1 : k + px_mc m' ≤ px_mc m)
    (SC : px_SC d m' (.ref b :: vs) w (fun r w' => px_SW (d + 1) m (pc + 3) L (r.toList ++ rest) w' (k + px_mc m') Q)) : px_SW (d + 1) m pc L st w k Q := by
  intro p l e s mi args below meth c A D as0 as ws tys H locs ls C B hk
  obtain ⟨rfl, hn, h8⟩ := px_iv_inv hst
  have hts := C.2.2.2.2.1
  have hvs : px_sok as.length vs := B.sk.app_l.rev
  have hbr : px_sok as.length (.ref b :: rest) := B.sk.app_r
  have hrest : px_sok as.length rest := hbr.tl
  have hM := SC l D as ws tys H.size B.r (px_sok.cons hbr.hd hvs)
  have hstk : (vs.reverse ++ .ref b :: rest).map (px_v as) = (vs.map (px_v as)).reverse ++ .ref (as.getD b 0) :: rest.map (px_v as) := by
    rw [List.map_append, List.map_reverse]
    rfl
  have h8' : rest.length ≤ 8 := Nat.le_trans (Nat.le_succ _) h8
  obtain ⟨fs, hfs⟩ := px_cls_inv hcl
  obtain ⟨-, eb, heb, hceb⟩ := B.r.2.2 b _ hfs
  cases hceb
  have hcap : k + px_mc m' ≤ (px_rm (d + 1) m).cells ∧ 320 * k + 320 * px_mc m' ≤ (px_rm (d + 1) m).slots := ⟨hk1, by show 320 * k + 320 * px_mc m' ≤ 320 * px_mc m; omega⟩
  obtain ⟨r, hr, -⟩ := B.2.1 b _ heb
  obtain ⟨F1, F2, F3, F4, F5, F6, F7⟩ := F
  have hpre : PreV s H r.1 (as.getD b 0) (px_Pc (.ref b :: vs) D as ws tys H.size) (vs.map (px_v as)) := ⟨px_blind, va_recv B.1 B.2.1 hr heb, fun U hU hW => ⟨rfl, by rw [hU], by rw [hU]; exact B.2.1, va_K.moved hW.alike B.1, B.2.2.1.weaken (fun _ _ _ _ => trivial), C.2.2.2.2.2.1.warm hW⟩⟩
  have hcc : Cond.code (px_my m') (px_mb m') (px_ml m') (px_mr m') ∈ px_ws m' := List.mem_cons_self
  exact px_done C B hrest hk1 (va_runSU (As := vs.map (px_v as)) (rest := rest.map (px_v as)) (b := as.getD b 0) (C := r.1) (g := F0 mi pc ls _) (Ts := px_W) (B.1.1 ci r hr).2 ⟨C.1, C.2.1, C.2.2.1, C.2.2.2.1, hts⟩ hM
    ⟨⟨rfl, rfl, (px_hR hm').1, (px_hR hm').2, pay_in hts (px_good hm'), hcc⟩, hts _ F1, hts _ F2, hts _ F3, hts _ F4, hts _ F5, hts _ hm'.1, F6, F7.sig⟩
    hpre rfl (by rw [List.length_map]; exact hn) B.lo.1.1 hstk (lv_room (by rw [px_sok.cat hrest]; exact h8')) hd hcap)
end PXZ
