/-! the law: its calls -/
abbrev lw_A (s : State) : Nat → Prop := fun q => s.heap.size ≤ q
def lw_S (s : State) (D : va_G) (as : List Nat) (ws : va_W) (tys : List (ClassId × FieldType)) (H : Heap) (locs : List Loc) (w : px_H) : Prop := va_K D vwCl tys s ∧ va_P D vwCl ws H ∧ va_D (lw_A s) ws ∧ va_S (lw_A s) s.heap H locs ∧ px_R as ws tys w
/-- n numbers out of the script, from place i + 1 on -/
def lw_G (pc n : Nat) : Prop := ∀ j, j < n → decode code (pc + 5 * j) = .ok (.aload_n 0, 1) ∧ decode code (pc + 5 * j + 1) = .ok (.iload_n 3, 1) ∧ decode code (pc + 5 * j + 2) = .ok (.iconst ((j : Int) + 1), 1) ∧ decode code (pc + 5 * j + 3) = .ok (.iadd, 1) ∧ decode code (pc + 5 * j + 4) = .ok (.iaload, 1)
/-- a case of the law: n numbers, the class's method, the reference's -/
def lw_C (pc n i1 i2 : Nat) (off : Int) : Prop := decode code pc = .ok (.aload_n 1, 1) ∧ lw_G (pc + 1) n ∧ decode code (pc + 1 + 5 * n) = .ok (.invokevirtual i1, 3) ∧ decode code (pc + 1 + 5 * n + 3) = .ok (.aload_n 2, 1) ∧ lw_G (pc + 1 + 5 * n + 4) n ∧ decode code (pc + 1 + 5 * n + 4 + 5 * n) = .ok (.invokevirtual i2, 3) ∧ decode code (pc + 1 + 5 * n + 4 + 5 * n + 3) = .ok (.if_icmp .eq off, 3) ∧ ((pc + 1 + 5 * n + 4 + 5 * n + 3 : Nat) : Int) + off = ((1005 : Nat) : Int)
def lw_v (xs : Nat → Int32) (t n : Nat) : List Value := (List.range n).map (fun k => Value.int (xs (6 * t + (k + 1))))
theorem lw_v_px (xs : Nat → Int32) (t n : Nat) (as : List Nat) : (lw_v xs t n).map (px_v as) = lw_v xs t n := by
  unfold lw_v
  rw [List.map_map]
  rfl
theorem lw_v_ok (xs : Nat → Int32) (t n k : Nat) : px_sok k (lw_v xs t n) := by
  intro v hv
  obtain ⟨j, -, rfl⟩ := List.mem_map.mp hv
  trivial
theorem lw_v_len (xs : Nat → Int32) (t n : Nat) : (lw_v xs t n).length = n := by
  unfold lw_v
  rw [List.length_map, List.length_range]
theorem ici : ∀ n : Nat, n < 5 → Int32.ofInt ((n : Int) + 1) = nI (n + 1) := by decide
section LAWS
variable {p : Program} {l : Launch} {e : Env} {s : State} {m : MethodId} {below : List Frame} {meth : Method} {c : Code} {b L : Nat} {xs : Nat → Int32}
variable {H : Heap} {locs : List Loc} {cells slots pc idx n ci b0 t : Nat} {ls : Array Slot} {vs rest : List Value} {D : va_G} {as : List Nat} {ws : va_W} {tys : List (ClassId × FieldType)} {w : px_H} {m' : px_M} {Q' : Option Value → px_H → Prop} {Z : State → Prop}
theorem lw_W (C : lw_At p s m meth c b L xs) : ∀ w ∈ px_W, w.before #[Value.ref b] s = true := fun w hw => C.2.2.2.2.2.1 w (List.mem_filter.mp hw).1
theorem lw_N (C : lw_At p s m meth c b L xs) : px_N s := by
  intro k hc
  obtain ⟨h1, hk⟩ := List.mem_filter.mp hc
  have h0 := C.2.2.2.2.2.1 k h1
  cases k with
  | fieldLinkNest a i b n d x => exact va_Nw.of rfl h0
  | methodLinkNest a i x y => exact va_Nw.of rfl h0
  | declares x => exact va_Nw.of rfl h0
  | castable a b => exact va_Nw.of rfl h0
  | arrayOver ty =>
    cases ty with
    | object C => exact va_AO.of h0
    | _ => cases hk
  | _ => cases hk
theorem lw_fr (S : lw_S s D as ws tys H locs w) : ∀ q, va_A ws H.size q → lw_A s q := by
  intro q h
  rcases h with ⟨i, e', h⟩ | h
  · exact S.2.2.1.2 i (q, e') h
  · exact Nat.le_trans S.2.2.2.1.1 h
theorem lw_room (hm' : px_mok m') : (px_rm 12 m').frames + 1 ≤ room_1.frames ∧ 8 + (px_ml m' + 11) + (px_rm 12 m').locals ≤ room_1.locals := by
  have h1 := hm'.2.2.2
  constructor
  · show 12 + 1 + 1 ≤ 2048
    omega
  · show 8 + (px_ml m' + 11) + 40 * (12 + 1) ≤ 84000
    omega
theorem lw_virt (C : lw_At p s m meth c b L xs) (hd : decode code pc = .ok (.invokevirtual idx, 3)) (hm' : px_mok m') (F : px_lkV R_law idx n ci m') (hn : vs.length = n) (hcl : px_cls w b0 = some ci) (hvs : px_sok as.length (.ref b0 :: vs)) (hrest : (rest.map fun v => v.category).sum ≤ 8) (hls : ls.size = 4) (hf : cells + px_mc m' ≤ 600000 ∧ slots + 320 * px_mc m' ≤ 7302250) (SC : px_SC 12 m' (.ref b0 :: vs) w Q') (S : lw_S s D as ws tys H locs w)
    (kk : ∀ (r : Option Value) (w' : px_H) (as' : List Nat) (ws' : va_W) (tys' : List (ClassId × FieldType)) (H1 : Heap) (locs1 : List Loc), Q' r w' → as <+: as' → (∀ v, r = some v → px_vok as'.length v) → lw_S s D as' ws' tys' H1 locs1 w' → W p l e room_1 s m #[Value.ref b] below meth c H1 locs1 (cells + px_mc m') (slots + 320 * px_mc m') Z (F0 m (pc + 3) ls ((r.map (px_v as')).toList ++ rest))) :
    W p l e room_1 s m #[Value.ref b] below meth c H locs cells slots Z (F0 m pc ls ((vs.map (px_v as)).reverse ++ .ref (as.getD b0 0) :: rest)) := by
  have hts := lw_W C
  have hN := lw_N C
  have hA := lw_fr S
  obtain ⟨hx, hb, hr0, hml, hown, -, -, -, -, -⟩ := C
  obtain ⟨sK, sP, sD, sS, sR⟩ := S
  obtain ⟨r, hr, F1, F2, F3, F4, F5⟩ := F
  obtain ⟨fs, hfs⟩ := px_cls_inv hcl
  obtain ⟨-, eb, heb, hceb⟩ := sR.2.2 b0 _ hfs
  cases hceb
  have hM := SC l D as ws tys H.size sR hvs
  have hpre : PreV s H r.1 (as.getD b0 0) (px_Pc (.ref b0 :: vs) D as ws tys H.size) (vs.map (px_v as)) := ⟨px_blind, va_recv sK sP hr heb, fun U hU hW => ⟨rfl, by rw [hU], by rw [hU]; exact sP, va_K.moved hW.alike sK, sD.weaken (fun _ _ _ _ => trivial), hN.warm hW⟩⟩
  refine px_after (va_runV (As := vs.map (px_v as)) (rest := rest) (b := as.getD b0 0) (C := r.1) (g := F0 m pc ls ((vs.map (px_v as)).reverse ++ .ref (as.getD b0 0) :: rest)) (Ts := px_W) (nL := 4) ⟨hx, hb, hml, hown, hts⟩ hM
      ⟨callB_of n hts (px_good hm') rfl rfl rfl (hts _ F4) (hts _ F1) ⟨hm'.2.2.1.1, hm'.2.2.1.2, F5⟩ (lw_room hm'), hts _ F2, hts _ F3⟩
      hpre rfl (by rw [List.length_map]; exact hn) hls rfl (lv_room hrest) hd hf) hA sS (fun r w' as' ws' tys' H1 locs1 hq hp1 hv hR hP hK hD hS => kk r w' as' ws' tys' H1 locs1 hq hp1 hv ⟨hK, hP, hD, hS, hR⟩)
theorem lw_init (C : lw_At p s m meth c b L xs) (hd : decode code pc = .ok (.invokespecial idx, 3)) (hm' : px_mok m') (F : px_lkI R_law idx 0 m') (hvs : px_sok as.length [.ref b0]) (hrest : (rest.map fun v => v.category).sum ≤ 8) (hls : ls.size = 4) (hf : cells + px_mc m' ≤ 600000 ∧ slots + 320 * px_mc m' ≤ 7302250) (SC : px_SC 12 m' [.ref b0] w Q') (S : lw_S s D as ws tys H locs w)
    (kk : ∀ (r : Option Value) (w' : px_H) (as' : List Nat) (ws' : va_W) (tys' : List (ClassId × FieldType)) (H1 : Heap) (locs1 : List Loc), Q' r w' → as <+: as' → (∀ v, r = some v → px_vok as'.length v) → lw_S s D as' ws' tys' H1 locs1 w' → W p l e room_1 s m #[Value.ref b] below meth c H1 locs1 (cells + px_mc m') (slots + 320 * px_mc m') Z (F0 m (pc + 3) ls ((r.map (px_v as')).toList ++ rest))) :
    W p l e room_1 s m #[Value.ref b] below meth c H locs cells slots Z (F0 m pc ls (.ref (as.getD b0 0) :: rest)) := by
  have hts := lw_W C
  have hN := lw_N C
  have hA := lw_fr S
  obtain ⟨hx, hb, hr0, hml, hown, -, -, -, -, -⟩ := C
  obtain ⟨sK, sP, sD, sS, sR⟩ := S
  have hM := SC l D as ws tys H.size sR hvs
  have hpre : PreS s H (px_Pc [.ref b0] D as ws tys H.size) [.ref (as.getD b0 0)] := ⟨px_blind, fun U hU hW => ⟨rfl, by rw [hU], by rw [hU]; exact sP, va_K.moved hW.alike sK, sD.weaken (fun _ _ _ _ => trivial), hN.warm hW⟩⟩
  have hw : px_ws m' = Cond.code (px_my m') (px_mb m') (px_ml m') none :: px_W := by unfold px_ws; rw [F.2.2.2.2.1]
  refine px_after (va_runI (As := []) (rest := rest) (b := as.getD b0 0) (g := F0 m pc ls (.ref (as.getD b0 0) :: rest)) (Ts := px_W) (nL := 4) ⟨hx, hb, hml, hown, hts⟩ hM
      (cwI 0 hts (px_good hm') hw rfl rfl (hts _ F.2.2.1) (hts _ F.1) (hts _ F.2.1) F.2.2.2.1 ⟨hm'.2.2.1.1, hm'.2.2.1.2, F.2.2.2.2.2⟩ (lw_room hm'))
      hpre rfl rfl hls rfl (lv_room hrest) hd hf) hA sS (fun r w' as' ws' tys' H1 locs1 hq hp1 hv hR hP hK hD hS => kk r w' as' ws' tys' H1 locs1 hq hp1 hv ⟨hK, hP, hD, hS, hR⟩)
theorem lw_args (C : lw_At p s m meth c b L xs) {v1 v2 : Value} (hl : lv_has ls 4 [(0, .ref b), (1, v1), (2, v2), (3, .int (nI (6 * t)))]) (ht : 6 * t + 6 ≤ L) (hL : L ≤ 384) (hS : va_S (lw_A s) s.heap H locs) : ∀ (n : Nat), n ≤ 5 → lw_G pc n → W p l e room_1 s m #[Value.ref b] below meth c H locs cells slots Z (F0 m (pc + 5 * n) ls ((lw_v xs t n).reverse ++ rest)) → W p l e room_1 s m #[Value.ref b] below meth c H locs cells slots Z (F0 m pc ls rest) := by
  obtain ⟨hx, hb, hr0, hml, hown, -, hX, hbl, -, -⟩ := C
  have hbA : ¬ lw_A s b := Nat.not_le.mpr hbl
  intro n
  induction n with
  | zero => intro _ _ kk; exact kk
  | succ n ih =>
    intro hn hg kk
    refine ih (by omega) (fun j hj => hg j (by omega)) ?_
    obtain ⟨d1, d2, d3, d4, d5⟩ := hg n (Nat.lt_succ_self n)
    refine lv_aload_n hx hb d1 rfl (lv_at hl 0 rfl) ?_
    refine lv_iload_n hx hb d2 rfl (lv_at hl 3 rfl) ?_
    refine lv_iconst (v := nI (n + 1)) hx hb d3 (ici n (by omega)) ?_
    refine lv_iadd hx hb d4 ?_
    rw [nI_add]
    refine va_sld hx hb hX hbl hbA hS (vp_in_nI (by omega) (by omega)) d5 ?_
    rw [nI_clamp (by omega)]
    have e1 : (lw_v xs t (n + 1)).reverse ++ rest = .int (xs (6 * t + (n + 1))) :: ((lw_v xs t n).reverse ++ rest) := by
      unfold lw_v
      rw [List.range_succ, List.map_append, List.reverse_append]
      rfl
    rw [e1] at kk
    exact kk
theorem as_pre {as as' : List Nat} (h : as <+: as') {i : Nat} (hi : i < as.length) : as'.getD i 0 = as.getD i 0 := by
  obtain ⟨t, rfl⟩ := h
  exact px_getD hi
theorem lw_case {M M' i1 i2 : Nat} {off : Int} {mA mM : px_M} {X : hX} {R : hR} {TH : hT} {N : Nat} (C : lw_At p s m meth c b L xs) (hc : lw_C pc n i1 i2 off) (F1 : px_lkV R_law i1 n 10 mA) (F2 : px_lkV R_law i2 n 11 mM) (h1 : px_tab[M]? = some mA) (h2 : px_tab[M']? = some mM) (hmc : px_mc mA + px_mc mM ≤ 120) (hn : n ≤ 5) (sim : Sim M M' (lw_v xs t n)) (ht : 6 * t + 6 ≤ L) (hL : L ≤ 384) (S : lw_S s D as ws tys H locs (hp X R TH N)) (hI : Inv X R TH N) (hl : lv_has ls 4 [(0, .ref b), (1, .ref (as.getD 0 0)), (2, .ref (as.getD 51 0)), (3, .int (nI (6 * t)))]) (hk : cells + 120 ≤ 600000 ∧ slots + 38400 ≤ 7302250)
    (K : ∀ (as' : List Nat) (ws' : va_W) (tys' : List (ClassId × FieldType)) (H' : Heap) (locs' : List Loc) (X' : hX) (R' : hR) (TH' : hT) (N' : Nat), lv_has ls 4 [(0, .ref b), (1, .ref (as'.getD 0 0)), (2, .ref (as'.getD 51 0)), (3, .int (nI (6 * t)))] → lw_S s D as' ws' tys' H' locs' (hp X' R' TH' N') → Inv X' R' TH' N' → W p l e room_1 s m #[Value.ref b] below meth c H' locs' (cells + 120) (slots + 38400) Z (F0 m 1005 ls [])) :
    W p l e room_1 s m #[Value.ref b] below meth c H locs cells slots Z (F0 m pc ls []) := by
  obtain ⟨hx, hb, hr0, hml, hown, -, hX, hbl, -, -⟩ := id C
  obtain ⟨g1, g2, g3, g4, g5, g6, g7, g8⟩ := hc
  have hN62 : 62 ≤ N := hI.2.2.2.2.2.2.2.1
  have hlen : as.length = N := S.2.2.2.2.2.1
  obtain ⟨mA', hA1, hA2, SC⟩ := px_contract px_cf px_ok (wc_kp (sim 0 X R TH N hI))
  cases h1.symm.trans hA1
  refine lv_aload_n hx hb g1 rfl (lv_at hl 1 rfl) ?_
  refine lw_args C hl ht hL S.2.2.2.1 n hn g2 ?_
  rw [show (lw_v xs t n).reverse = ((lw_v xs t n).map (px_v as)).reverse by rw [lw_v_px]]
  refine lw_virt C g3 hA2 F1 (lw_v_len xs t n) (w := hp X R TH N) (b0 := 0) rfl (px_sok.cons (show 0 < as.length by omega) (lw_v_ok xs t n _)) (Nat.zero_le _) hl.1 ⟨by omega, by omega⟩ SC S (fun r w' as' ws' tys' H1 locs1 hq hpre hv S1 => ?_)
  obtain ⟨hwc, hkp⟩ := hq
  have hl1 : lv_has ls 4 [(0, .ref b), (1, .ref (as'.getD 0 0)), (2, .ref (as'.getD 51 0)), (3, .int (nI (6 * t)))] := by
    rw [as_pre hpre (show 0 < as.length by omega), as_pre hpre (show 51 < as.length by omega)]
    exact hl
  have hlen1 : as.length ≤ as'.length := hpre.length_le
  obtain ⟨r1, w1, -, ⟨v, rfl⟩, -⟩ := wc_any hwc
  obtain ⟨mM', hM1, hM2, SC2⟩ := px_contract px_cf px_ok hwc
  cases h2.symm.trans hM1
  refine lv_aload_n hx hb g4 rfl (lv_at hl1 2 rfl) ?_
  refine lw_args C hl1 ht hL S1.2.2.2.1 n hn g5 ?_
  rw [show (lw_v xs t n).reverse = ((lw_v xs t n).map (px_v as')).reverse by rw [lw_v_px]]
  refine lw_virt C g6 hM2 F2 (lw_v_len xs t n) (w := w') (b0 := 51) (hkp.2 51 (show 51 < N by omega) 11 rfl) (px_sok.cons (show 51 < as'.length by omega) (lw_v_ok xs t n _)) (show 1 + 0 ≤ 8 by decide) hl.1 ⟨by omega, by omega⟩ SC2 S1 (fun r' w2 as2 ws2 tys2 H2 locs2 hq2 hpre2 hv2 S2 => ?_)
  obtain ⟨rfl, -, X', R', TH', N', rfl, hI'⟩ := hq2
  have hl2 : lv_has ls 4 [(0, .ref b), (1, .ref (as2.getD 0 0)), (2, .ref (as2.getD 51 0)), (3, .int (nI (6 * t)))] := by
    rw [as_pre hpre2 (show 0 < as'.length by omega), as_pre hpre2 (show 51 < as'.length by omega)]
    exact hl1
  refine lv_icmp_eq (tgt := 1005) hx hb g7 g8 (fun _ => ?_) (fun h => absurd rfl h)
  refine W.widen (k := cells + 120) (n := slots + 38400) (by omega) (by omega) ?_
  exact K as2 ws2 tys2 H2 locs2 X' R' TH' N' hl2 S2 hI'
end LAWS
