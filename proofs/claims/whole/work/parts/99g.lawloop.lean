/-! the law: its loop -/
theorem a31 (x : Int32) : ∃ r, r < 32 ∧ x &&& 31 = nI r := by
  obtain ⟨m, hm, e⟩ := and_small (j := 31) (by decide) x
  rw [show (31 : Int32) = nI 31 from rfl, Int32.and_comm, e]
  refine ⟨m, ?_, rfl⟩
  have h : (nI m) &&& nI 31 = nI m := by rw [← e, Int32.and_comm, ← Int32.and_assoc, Int32.and_self]
  have : ∀ m : Nat, m < 256 → nI m &&& nI 31 = nI m → m < 32 := by decide +kernel
  exact this m hm h
section LAWL
variable {p : Program} {l : Launch} {e : Env} {s : State} {m : MethodId} {below : List Frame} {meth : Method} {c : Code} {b L : Nat} {xs : Nat → Int32} {D : va_G}
set_option maxHeartbeats 4000000 in
set_option maxRecDepth 100000 in
theorem lw_step (C : lw_At p s m meth c b L xs) (hL : L ≤ 384) {t cells slots r : Nat} {as : List Nat} {ws : va_W} {tys : List (ClassId × FieldType)} {H : Heap} {locs : List Loc} {X : hX} {R : hR} {TH : hT} {N : Nat} {ls : Array Slot} {Z : State → Prop} (ht : 6 * t + 6 ≤ L) (hr : r < 32) (S : lw_S s D as ws tys H locs (hp X R TH N)) (hI : Inv X R TH N) (hl : lv_has ls 4 [(0, .ref b), (1, .ref (as.getD 0 0)), (2, .ref (as.getD 51 0)), (3, .int (nI (6 * t)))]) (hk : cells + 120 ≤ 600000 ∧ slots + 38400 ≤ 7302250)
    (K : ∀ (as' : List Nat) (ws' : va_W) (tys' : List (ClassId × FieldType)) (H' : Heap) (locs' : List Loc) (X' : hX) (R' : hR) (TH' : hT) (N' : Nat), lv_has ls 4 [(0, .ref b), (1, .ref (as'.getD 0 0)), (2, .ref (as'.getD 51 0)), (3, .int (nI (6 * t)))] → lw_S s D as' ws' tys' H' locs' (hp X' R' TH' N') → Inv X' R' TH' N' → W p l e room_1 s m #[Value.ref b] below meth c H' locs' (cells + 120) (slots + 38400) Z (F0 m 1005 ls [])) :
    W p l e room_1 s m #[Value.ref b] below meth c H locs cells slots Z (F0 m 33 ls [.int (nI r)]) := by
  obtain ⟨hx, hb, -, -, -, -, -, -, -, -⟩ := id C
  match r, hr with
  | 0, _ => exact lv_tableIn (tgt := 172) hx hb dl_33 (by decide) (by decide) rfl (by decide) (lw_case (M := 98) (M' := 144) C dc_0 ll_13 ll_17 rfl rfl (by decide) (by decide) sim_row ht hL S hI hl hk K)
  | 1, _ => exact lv_tableIn (tgt := 215) hx hb dl_33 (by decide) (by decide) rfl (by decide) (lw_case (M := 99) (M' := 145) C dc_1 ll_18 ll_21 rfl rfl (by decide) (by decide) sim_set ht hL S hI hl hk K)
  | 2, _ => exact lv_tableIn (tgt := 258) hx hb dl_33 (by decide) (by decide) rfl (by decide) (lw_case (M := 100) (M' := 146) C dc_2 ll_22 ll_26 rfl rfl (by decide) (by decide) sim_copy ht hL S hI hl hk K)
  | 3, _ => exact lv_tableIn (tgt := 321) hx hb dl_33 (by decide) (by decide) rfl (by decide) (lw_case (M := 101) (M' := 147) C dc_3 ll_27 ll_31 rfl rfl (by decide) (by decide) sim_drop ht hL S hI hl hk K)
  | 4, _ => exact lv_tableIn (tgt := 344) hx hb dl_33 (by decide) (by decide) rfl (by decide) (lw_case (M := 102) (M' := 155) C dc_4 ll_32 ll_35 rfl rfl (by decide) (by decide) sim_feed ht hL S hI hl hk K)
  | 5, _ => exact lv_tableIn (tgt := 367) hx hb dl_33 (by decide) (by decide) rfl (by decide) (lw_case (M := 103) (M' := 165) C dc_5 ll_36 ll_40 rfl rfl (by decide) (by decide) sim_realm ht hL S hI hl hk K)
  | 6, _ => exact lv_tableIn (tgt := 380) hx hb dl_33 (by decide) (by decide) rfl (by decide) (lw_case (M := 104) (M' := 166) C dc_6 ll_41 ll_44 rfl rfl (by decide) (by decide) sim_fault ht hL S hI hl hk K)
  | 7, _ => exact lv_tableIn (tgt := 393) hx hb dl_33 (by decide) (by decide) rfl (by decide) (lw_case (M := 105) (M' := 176) C dc_7 ll_45 ll_48 rfl rfl (by decide) (by decide) sim_askFor ht hL S hI hl hk K)
  | 8, _ => exact lv_tableIn (tgt := 416) hx hb dl_33 (by decide) (by decide) rfl (by decide) (lw_case (M := 106) (M' := 177) C dc_8 ll_49 ll_52 rfl rfl (by decide) (by decide) sim_tries ht hL S hI hl hk K)
  | 9, _ => exact lv_tableIn (tgt := 439) hx hb dl_33 (by decide) (by decide) rfl (by decide) (lw_case (M := 107) (M' := 178) C dc_9 ll_53 ll_56 rfl rfl (by decide) (by decide) sim_waits ht hL S hI hl hk K)
  | 10, _ => exact lv_tableIn (tgt := 462) hx hb dl_33 (by decide) (by decide) rfl (by decide) (lw_case (M := 108) (M' := 179) C dc_10 ll_57 ll_60 rfl rfl (by decide) (by decide) sim_undo ht hL S hI hl hk K)
  | 11, _ => exact lv_tableIn (tgt := 475) hx hb dl_33 (by decide) (by decide) rfl (by decide) (lw_case (M := 109) (M' := 181) C dc_11 ll_61 ll_65 rfl rfl (by decide) (by decide) sim_thing ht hL S hI hl hk K)
  | 12, _ => exact lv_tableIn (tgt := 508) hx hb dl_33 (by decide) (by decide) rfl (by decide) (lw_case (M := 110) (M' := 182) C dc_12 ll_66 ll_69 rfl rfl (by decide) (by decide) sim_harm ht hL S hI hl hk K)
  | 13, _ => exact lv_tableIn (tgt := 541) hx hb dl_33 (by decide) (by decide) rfl (by decide) (lw_case (M := 111) (M' := 184) C dc_13 ll_70 ll_73 rfl rfl (by decide) (by decide) sim_open ht hL S hI hl hk K)
  | 14, _ => exact lv_tableIn (tgt := 564) hx hb dl_33 (by decide) (by decide) rfl (by decide) (lw_case (M := 112) (M' := 185) C dc_14 ll_74 ll_77 rfl rfl (by decide) (by decide) sim_gap ht hL S hI hl hk K)
  | 15, _ => exact lv_tableIn (tgt := 577) hx hb dl_33 (by decide) (by decide) rfl (by decide) (lw_case (M := 113) (M' := 188) C dc_15 ll_78 ll_81 rfl rfl (by decide) (by decide) sim_cover ht hL S hI hl hk K)
  | 16, _ => exact lv_tableIn (tgt := 600) hx hb dl_33 (by decide) (by decide) rfl (by decide) (lw_case (M := 114) (M' := 190) C dc_16 ll_82 ll_85 rfl rfl (by decide) (by decide) sim_round ht hL S hI hl hk K)
  | 17, _ => exact lv_tableIn (tgt := 623) hx hb dl_33 (by decide) (by decide) rfl (by decide) (lw_case (M := 115) (M' := 192) C dc_17 ll_86 ll_89 rfl rfl (by decide) (by decide) sim_cheapest ht hL S hI hl hk K)
  | 18, _ => exact lv_tableIn (tgt := 656) hx hb dl_33 (by decide) (by decide) rfl (by decide) (lw_case (M := 116) (M' := 194) C dc_18 ll_90 ll_93 rfl rfl (by decide) (by decide) sim_defended ht hL S hI hl hk K)
  | 19, _ => exact lv_tableIn (tgt := 689) hx hb dl_33 (by decide) (by decide) rfl (by decide) (lw_case (M := 117) (M' := 196) C dc_19 ll_94 ll_97 rfl rfl (by decide) (by decide) sim_enough ht hL S hI hl hk K)
  | 20, _ => exact lv_tableIn (tgt := 712) hx hb dl_33 (by decide) (by decide) rfl (by decide) (lw_case (M := 118) (M' := 197) C dc_20 ll_98 ll_101 rfl rfl (by decide) (by decide) sim_odds ht hL S hI hl hk K)
  | 21, _ => exact lv_tableIn (tgt := 755) hx hb dl_33 (by decide) (by decide) rfl (by decide) (lw_case (M := 119) (M' := 198) C dc_21 ll_102 ll_105 rfl rfl (by decide) (by decide) sim_hitBy ht hL S hI hl hk K)
  | 22, _ => exact lv_tableIn (tgt := 798) hx hb dl_33 (by decide) (by decide) rfl (by decide) (lw_case (M := 120) (M' := 199) C dc_22 ll_106 ll_109 rfl rfl (by decide) (by decide) sim_terms ht hL S hI hl hk K)
  | 23, _ => exact lv_tableIn (tgt := 811) hx hb dl_33 (by decide) (by decide) rfl (by decide) (lw_case (M := 121) (M' := 200) C dc_23 ll_110 ll_113 rfl rfl (by decide) (by decide) sim_image ht hL S hI hl hk K)
  | 24, _ => exact lv_tableIn (tgt := 834) hx hb dl_33 (by decide) (by decide) rfl (by decide) (lw_case (M := 122) (M' := 201) C dc_24 ll_114 ll_117 rfl rfl (by decide) (by decide) sim_restore ht hL S hI hl hk K)
  | 25, _ => exact lv_tableIn (tgt := 857) hx hb dl_33 (by decide) (by decide) rfl (by decide) (lw_case (M := 123) (M' := 202) C dc_25 ll_118 ll_121 rfl rfl (by decide) (by decide) sim_kind ht hL S hI hl hk K)
  | 26, _ => exact lv_tableIn (tgt := 880) hx hb dl_33 (by decide) (by decide) rfl (by decide) (lw_case (M := 124) (M' := 205) C dc_26 ll_122 ll_125 rfl rfl (by decide) (by decide) sim_as ht hL S hI hl hk K)
  | 27, _ => exact lv_tableIn (tgt := 913) hx hb dl_33 (by decide) (by decide) rfl (by decide) (lw_case (M := 125) (M' := 219) C dc_27 ll_126 ll_129 rfl rfl (by decide) (by decide) sim_ask ht hL S hI hl hk K)
  | 28, _ => exact lv_tableIn (tgt := 946) hx hb dl_33 (by decide) (by decide) rfl (by decide) (lw_case (M := 126) (M' := 220) C dc_28 ll_130 ll_133 rfl rfl (by decide) (by decide) sim_trace ht hL S hI hl hk K)
  | 29, _ => exact lv_tableIn (tgt := 969) hx hb dl_33 (by decide) (by decide) rfl (by decide) (lw_case (M := 127) (M' := 221) C dc_29 ll_134 ll_137 rfl rfl (by decide) (by decide) sim_count ht hL S hI hl hk K)
  | 30, _ => exact lv_tableIn (tgt := 992) hx hb dl_33 (by decide) (by decide) rfl (by decide) (lw_case (M := 128) (M' := 148) C dc_30 ll_138 ll_141 rfl rfl (by decide) (by decide) sim_status ht hL S hI hl hk K)
  | 31, _ => exact lv_tableOut (tgt := 1005) hx hb dl_33 (by decide) (by decide) (W.widen (k := cells + 120) (n := slots + 38400) (by omega) (by omega) (K as ws tys H locs X R TH N hl S hI))
  | r + 32, h => exact absurd h (by omega)
theorem lw_cmp {t : Nat} (hL : L ≤ 384) (ht : 6 * t ≤ 384 + 6) : ¬ (Int32.ofNat L - 6 < nI (6 * t)) ↔ 6 * t + 6 ≤ L := by
  have h3 : (Int32.ofNat L).toInt = (L : Int) := Int32.toInt_ofNat_of_lt (by omega)
  have h4 : (nI (6 * t)).toInt = ((6 * t : Nat) : Int) := Int32.toInt_ofNat_of_lt (by omega)
  have h5 : (6 : Int32).toInt = 6 := by decide
  have h6 : (Int32.ofNat L - 6).toInt = (L : Int) - 6 := by rw [Int32.toInt_sub, h3, h5, Int.bmod_eq_of_le] <;> omega
  rw [Int32.lt_iff_toInt_lt, h6, h4]
  omega
set_option maxHeartbeats 4000000 in
set_option maxRecDepth 100000 in
theorem lw_loop (C : lw_At p s m meth c b L xs) (hL : L ≤ 384) : ∀ (f t : Nat), t + f = 65 → ∀ (as : List Nat) (ws : va_W) (tys : List (ClassId × FieldType)) (H : Heap) (locs : List Loc) (X : hX) (R : hR) (TH : hT) (N : Nat) (ls : Array Slot), lv_has ls 4 [(0, .ref b), (1, .ref (as.getD 0 0)), (2, .ref (as.getD 51 0)), (3, .int (nI (6 * t)))] → lw_S s D as ws tys H locs (hp X R TH N) → Inv X R TH N → W p l e room_1 s m #[Value.ref b] below meth c H locs (62 + 120 * t) (19840 + 38400 * t) (lw_Z below #[Value.ref b] s) (F0 m 18 ls []) := by
  obtain ⟨hx, hb, hr, hml, hown, hts, hX, hbl, hlocks, hgv⟩ := id C
  have hbA : ¬ lw_A s b := Nat.not_le.mpr hbl
  intro f
  induction f with
  | zero =>
    intro t htf as ws tys H locs X R TH N ls hl S hI
    refine lv_iload_n hx hb dl_18 rfl (lv_at hl 3 rfl) ?_
    refine lv_aload_n hx hb dl_19 rfl (lv_at hl 0 rfl) ?_
    refine va_slen hx hb hX hbl hbA S.2.2.2.1 dl_20 ?_
    refine lv_bipush (v := 6) hx hb dl_21 (by decide) ?_
    refine lv_isub hx hb dl_23 ?_
    refine lv_icmp_gt (tgt := 1011) hx hb dl_24 (by decide) (fun _ => ?_) (fun h => absurd ((lw_cmp hL (by omega)).mp h) (by omega))
    refine lv_iconst (v := 1) hx hb dl_1011 (by decide) ?_
    refine W.widen (k := 600000) (n := 7302250) (by omega) (by omega) ?_
    refine va_forget (fun q hq => S.2.2.2.1.2.2 q hq) ?_
    exact lw_ret hx hb hr hlocks dl_1012
  | succ f ih =>
    intro t htf as ws tys H locs X R TH N ls hl S hI
    refine lv_iload_n hx hb dl_18 rfl (lv_at hl 3 rfl) ?_
    refine lv_aload_n hx hb dl_19 rfl (lv_at hl 0 rfl) ?_
    refine va_slen hx hb hX hbl hbA S.2.2.2.1 dl_20 ?_
    refine lv_bipush (v := 6) hx hb dl_21 (by decide) ?_
    refine lv_isub hx hb dl_23 ?_
    refine lv_icmp_gt (tgt := 1011) hx hb dl_24 (by decide) (fun _ => ?_) (fun h => ?_)
    · refine lv_iconst (v := 1) hx hb dl_1011 (by decide) ?_
      refine W.widen (k := 600000) (n := 7302250) (by omega) (by omega) ?_
      refine va_forget (fun q hq => S.2.2.2.1.2.2 q hq) ?_
      exact lw_ret hx hb hr hlocks dl_1012
    · have ht6 : 6 * t + 6 ≤ L := (lw_cmp hL (by omega)).mp h
      refine lv_aload_n hx hb dl_27 rfl (lv_at hl 0 rfl) ?_
      refine lv_iload_n hx hb dl_28 rfl (lv_at hl 3 rfl) ?_
      refine va_sld hx hb hX hbl hbA S.2.2.2.1 (vp_in_nI (by omega) (by omega)) dl_29 ?_
      refine lv_bipush (v := 31) hx hb dl_30 (by decide) ?_
      refine lv_iand hx hb dl_32 ?_
      obtain ⟨r, hr32, er⟩ := a31 (xs (nI (6 * t)).toNatClampNeg)
      rw [er]
      refine lw_step C hL ht6 hr32 S hI hl ⟨by omega, by omega⟩ (fun as' ws' tys' H' locs' X' R' TH' N' hl' S' hI' => ?_)
      refine lv_iinc (v := nI (6 * (t + 1))) (lv' := [(3, .int (nI (6 * (t + 1)))), (0, .ref b), (1, .ref (as'.getD 0 0)), (2, .ref (as'.getD 51 0))]) hx hb dl_1005 hl' (k := 3) rfl ?_ (by decide) rfl (fun ls2 hl2 => ?_)
      · rw [show Int32.ofInt 6 = nI 6 from rfl, nI_add]
        congr 1
      · refine lv_goto (tgt := 18) hx hb dl_1008 (by decide) ?_
        rw [show 62 + 120 * t + 120 = 62 + 120 * (t + 1) by omega, show 19840 + 38400 * t + 38400 = 19840 + 38400 * (t + 1) by omega]
        exact ih (t + 1) (by omega) as' ws' tys' H' locs' X' R' TH' N' ls2 (lv_sub hl2 [1, 2, 3, 0] rfl) S' hI'
end LAWL
