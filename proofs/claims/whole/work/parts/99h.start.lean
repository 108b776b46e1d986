/-! the law, from its entry -/
theorem lw_K {p : Program} {s : State} {m : MethodId} {meth : Method} {c : Code} {b L : Nat} {xs : Nat → Int32} (C : lw_At p s m meth c b L xs) : ∃ D : va_G, va_K D vwCl [] s := by
  have hts := lw_W C
  have h : ∀ k : Nat, ∃ cI : ClassId × (Nat → Nat), ∀ q : vw_C, vwCl[k]? = some q → u_Kn s q.1 q.2.1 q.2.2 cI.1 cI.2 := by
    intro k
    cases hq : vwCl[k]? with
    | none => exact ⟨(m.cls, fun _ => 0), fun q h => by cases h⟩
    | some q =>
      obtain ⟨hin, -, -, hins, -, -⟩ := px_cf k q hq
      obtain ⟨cC, iS, hK⟩ := u_known (C := q.1) (T := q.2.1) (N := q.2.2) (n := q.2.2) hts hin (hts _ hins)
      exact ⟨(cC, iS), fun q' h => by cases h; exact hK⟩
  obtain ⟨f, hf⟩ := Classical.axiomOfChoice h
  exact ⟨(fun k => (f k).1, fun k => (f k).2), fun k q hq => hf k q hq, fun k q h => by simp at h⟩
section LAWN
variable {p : Program} {l : Launch} {e : Env} {s : State} {m : MethodId} {below : List Frame} {meth : Method} {c : Code} {b L : Nat} {xs : Nat → Int32} {D : va_G} {cells slots pc idx ci : Nat} {as : List Nat} {ws : va_W} {tys : List (ClassId × FieldType)} {H : Heap} {locs : List Loc} {w : px_H} {ls : Array Slot} {rest : List Value} {Z : State → Prop} {r : vw_C}
theorem lw_new (C : lw_At p s m meth c b L xs) (hd : decode code pc = .ok (.new idx, 3)) (hr : vwCl[ci]? = some r) (hc : Cond.classLink R_law idx r.1 ∈ px_W) (hf : cells + 1 ≤ 600000 ∧ slots + 320 ≤ 7302250) (S : lw_S s D as ws tys H locs w)
    (kk : ∀ (q : Nat) (H1 : Heap), lw_S s D (as ++ [q]) (ws ++ [(q, .inr (ci, px_newf r))]) tys H1 locs (px_add w (.inr (.inr (ci, px_newf r)))) → W p l e room_1 s m #[Value.ref b] below meth c H1 locs (cells + 1) (slots + 320) Z (F0 m (pc + 3) ls (.ref q :: rest))) :
    W p l e room_1 s m #[Value.ref b] below meth c H locs cells slots Z (F0 m pc ls rest) := by
  have hts := lw_W C
  obtain ⟨hx, hb, -, hml, hown, -, -, -, -, -⟩ := C
  obtain ⟨sK, sP, sD, sS, sR⟩ := S
  obtain ⟨hin, ⟨ty0, hty⟩, hnm, hins, hini, h320⟩ := px_cf ci r hr
  refine va_new (D := D) (C := r.1) (T := r.2.1) (N := r.2.2) (fs := px_newf r) hx hb hts hin ty0 (fun j hj => (hty j hj).1) hown (hts _ hc) (hts _ hins) (hts _ hini) sK sP sD sS (fun _ h => h) hr (fun j hj => ?_) hf.1 (by show slots + r.2.2 ≤ 7302250; omega) hd (fun q H1 hP hD hS => ?_)
  · unfold vp_V px_newf
    rw [← (hty j hj).2]
    simp [List.getD, hj, px_nf, (hty j hj).1]
  · refine W.widen (k := cells + 1) (n := slots + 320) (Nat.le_refl _) (by omega) ?_
    refine kk q H1 ⟨sK, hP, hD, hS, ?_⟩
    have := sR.add (q := q) (c := .inr (.inr (ci, px_newf r))) (e := .inr (ci, px_newf r)) (tl := []) (px_newf_ok r) (by show _ = _; rw [px_newf_v])
    rw [List.append_nil] at this
    exact this
end LAWN
set_option maxHeartbeats 4000000 in
set_option maxRecDepth 100000 in
theorem whole_start {p : Program} {e : Env} {s : State} {m : MethodId} {below : List Frame} {meth : Method} {c : Code} (l : Launch) (hflags : l.flags = flags0) {b L : Nat} {xs : Nat → Int32} (hL : L ≤ 384) (C0 : lw_At p s m meth c b L xs) : W p l e room_1 s m #[Value.ref b] below meth c s.heap [] 0 0 (lw_Z below #[Value.ref b] s) (entryFrame m ([Value.ref b] : List Value).toArray 4) := by
  obtain ⟨D, hK⟩ := lw_K C0
  obtain ⟨hx, hb, hr, hml, hown, hts, hX, hbl, hlocks, hgv⟩ := id C0
  have S0 : lw_S s D [] [] [] s.heap [] (0, fun _ => none) := ⟨hK, fun k q h => by simp at h, ⟨fun i j p q h => by simp at h, fun k q h => by simp at h⟩, va_S.rf, rfl, rfl, fun i c h => by cases h⟩
  have hl := lv_entry ([.ref b]) (n := 4) (Nat.le_of_ble_eq_true rfl)
  rw [lg_entry_eq]
  generalize (lg_sl ([.ref b]) ++ List.replicate (4 - (lg_sl ([.ref b])).length) Slot.unset).toArray = ls at hl ⊢
  have hl : lv_has ls 4 [(0, .ref b)] := hl
  refine lw_new (ci := 10) (r := (RX11, TX11, 9)) C0 dl_0 rfl lc_7 ⟨Nat.le_of_ble_eq_true rfl, Nat.le_of_ble_eq_true rfl⟩ S0 (fun q0 H1 S1 => ?_)
  refine lv_dup hx hb dl_3 rfl ?_
  obtain ⟨mA, hA1, hA2, SC⟩ := px_contract px_cf px_ok w97
  cases (show px_tab[97]? = some m_X11_init from rfl).symm.trans hA1
  refine lw_init (as := [] ++ [q0]) (b0 := 0) (w := c0w) (rest := [.ref q0]) C0 dl_4 hA2 ll_9 (px_sok.cons (show 0 < ([] ++ [q0]).length by simp) px_sok.nil) (show 1 + 0 ≤ 8 by decide) hl.1 ⟨Nat.le_of_ble_eq_true rfl, Nat.le_of_ble_eq_true rfl⟩ SC S1 (fun r w1 as1 ws1 tys1 H2 locs1 hq hpre1 hv S2 => ?_)
  obtain ⟨rfl, rfl⟩ := hq
  have q0e : as1.getD 0 0 = q0 := as_pre hpre1 (show 0 < 1 by decide)
  refine lv_astore_n (lv' := [(1, .ref q0), (0, .ref b)]) hx hb dl_7 rfl hl (by decide) rfl (fun ls hl => ?_)
  have hlen1 : as1.length = 51 := S2.2.2.2.2.2.1.trans c1_1
  refine lw_new (ci := 11) (r := (RX12, TX12, 23)) C0 dl_8 rfl lc_10 ⟨Nat.le_of_ble_eq_true rfl, Nat.le_of_ble_eq_true rfl⟩ S2 (fun q1 H3 S3 => ?_)
  refine lv_dup hx hb dl_11 rfl ?_
  obtain ⟨mM, hM1, hM2, SC2⟩ := px_contract px_cf px_ok w139
  cases (show px_tab[139]? = some m_X12_init from rfl).symm.trans hM1
  have q1e : (as1 ++ [q1]).getD 51 0 = q1 := by
    rw [← hlen1]
    simp [List.getD]
  refine W.widen (k := 52) (n := 52 * 320) (Nat.le_of_ble_eq_true rfl) (Nat.le_of_ble_eq_true rfl) ?_
  have key : W p l e room_1 s m #[Value.ref b] below meth c H3 locs1 52 (52 * 320) (lw_Z below #[Value.ref b] s) (F0 m 12 ls (.ref ((as1 ++ [q1]).getD 51 0) :: [.ref q1])) := by
    refine lw_init (as := as1 ++ [q1]) (b0 := 51) (w := c2w) C0 dl_12 hM2 ll_12 (px_sok.cons (show 51 < (as1 ++ [q1]).length by simp [hlen1]) px_sok.nil) (show 1 + 0 ≤ 8 by decide) hl.1 ⟨Nat.le_of_ble_eq_true rfl, Nat.le_of_ble_eq_true rfl⟩ SC2 S3 (fun r w2 as2 ws2 tys2 H4 locs2 hq2 hpre2 hv2 S4 => ?_)
    obtain ⟨rfl, rfl⟩ := hq2
    have hlen2 : (as1 ++ [q1]).length = 52 := by rw [List.length_append, hlen1]; rfl
    have e0 : as2.getD 0 0 = q0 := by
      rw [as_pre hpre2 (show 0 < (as1 ++ [q1]).length by omega), px_getD (show 0 < as1.length by omega)]
      exact q0e
    have e51 : as2.getD 51 0 = q1 := by
      rw [as_pre hpre2 (show 51 < (as1 ++ [q1]).length by omega)]
      exact q1e
    refine lv_astore_n (lv' := [(2, .ref q1), (1, .ref q0), (0, .ref b)]) hx hb dl_15 rfl hl (by decide) rfl (fun ls hl => ?_)
    refine lv_iconst (v := 0) hx hb dl_16 (by decide) ?_
    refine lv_istore_n (lv' := [(3, .int 0), (2, .ref q1), (1, .ref q0), (0, .ref b)]) hx hb dl_17 rfl hl (by decide) rfl (fun ls hl => ?_)
    have S5 : lw_S s D as2 ws2 tys2 H4 locs2 (hp X0 R0 TH0 62) := ⟨S4.1, S4.2.1, S4.2.2.1, S4.2.2.2.1, r3_hp S4.2.2.2.2⟩
    refine W.widen (k := 62 + 120 * 0) (n := 19840 + 38400 * 0) (Nat.le_of_ble_eq_true rfl) (Nat.le_of_ble_eq_true rfl) ?_
    refine lw_loop C0 hL 65 0 rfl as2 ws2 tys2 H4 locs2 X0 R0 TH0 62 ls ?_ S5 inv0
    rw [e0, e51]
    exact lv_sub hl [3, 2, 1, 0] rfl
  rw [q1e] at key
  exact key
