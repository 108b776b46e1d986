/-! the heap's instructions -/
def px_CF : Prop := ∀ (ci : Nat) (r : vw_C), vwCl[ci]? = some r → (∀ w ∈ u_ws r.1 r.2.1 r.2.2, w ∈ px_W) ∧ (∃ ty0 : Nat → FieldType, ∀ k, k < r.2.2 → parseFieldDescriptor (r.2.1 k).2.2.1 = some (ty0 k) ∧ px_dfl (ty0 k) = defaultValue (ty0 k)) ∧ (∀ a, a < r.2.2 → ∀ b, b < r.2.2 → a ≠ b → (r.2.1 a).2.1 ≠ (r.2.1 b).2.1) ∧ Cond.instantiable r.1 r.2.2 ∈ px_W ∧ Cond.initialized r.1 ∈ px_W ∧ r.2.2 ≤ 320
def px_lkF (own : String) (idx : Nat) (X : px_X) : Prop := ∃ nm desc : String,
  ((X.1 = 10 ∧ Cond.fieldLink own idx X.2.2.2.2 nm desc ∈ px_W) ∨ (X.1 = 11 ∧ ∃ host : String, Cond.fieldLinkNest own idx X.2.2.2.2 nm desc host ∈ px_Z)) ∧
  ∀ q ∈ X.2.2.1, ∃ r : vw_C, vwCl[q.1]? = some r ∧ X.2.1 < r.2.2 ∧ (r.2.1 X.2.1).2.1 = nm ∧ (r.2.1 X.2.1).2.2.1 = desc ∧ ((r.2.1 X.2.1).1 = X.2.2.2.2 ∨ Cond.sameField X.2.2.2.2 (r.2.1 X.2.1).1 nm desc ∈ px_W)
def px_lkP (m : px_M) (X : px_X) : Prop := ∀ q ∈ X.2.2.1, ∀ r : vw_C, vwCl[q.1]? = some r → (r.2.1 X.2.1).2.2.2 = false ∨ (X.1 = 10 ∧ (px_my m).name = "<init>" ∧ (r.2.1 X.2.1).2.2.2 = true ∧ (r.2.1 X.2.1).1 = (px_my m).cls)
theorem px_lookup {α : Type} {l : List (Nat × α)} {i : Nat} {b : α} (h : l.lookup i = some b) : (i, b) ∈ l := by
  induction l with
  | nil => cases h
  | cons q l ih =>
    obtain ⟨j, c⟩ := q
    rw [List.lookup_cons] at h
    by_cases hij : i = j
    · subst hij
      simp at h
      subst h
      exact List.mem_cons_self
    · have : (i == j) = false := by simp [hij]
      rw [this] at h
      exact List.mem_cons_of_mem _ (ih h)
theorem px_fld_inv {w : px_H} {a j : Nat} {cis : List (Nat × Nat)} {v : Value} (h : px_fld w a cis j = some v) : ∃ ci fs M, w.2 a = some (.inr (.inr (ci, fs))) ∧ (ci, M) ∈ cis ∧ fs[j]? = some v := by
  unfold px_fld at h
  split at h
  · rename_i ci fs hw
    split at h
    · rename_i hl
      obtain ⟨M, hM⟩ := Option.isSome_iff_exists.mp hl
      exact ⟨ci, fs, M, hw, px_lookup hM, h⟩
    · cases h
  · cases h
theorem px_pfd_inv {w w' : px_H} {a j : Nat} {cis : List (Nat × Nat)} {v : Value} (h : px_pfd w a cis j v = some w') : ∃ ci fs M, w.2 a = some (.inr (.inr (ci, fs))) ∧ (ci, M) ∈ cis ∧ j < fs.length ∧ w' = px_set w a (.inr (.inr (ci, fs.set j v))) := by
  unfold px_pfd at h
  split at h
  · rename_i ci fs hw
    split at h
    · rename_i hl
      obtain ⟨M, hM⟩ := Option.isSome_iff_exists.mp hl.1
      cases h
      exact ⟨ci, fs, M, hw, px_lookup hM, hl.2, rfl⟩
    · cases h
  · cases h
theorem px_vin_in {i : Int32} {n : Nat} (h : px_vin i n = true) : vp_in i n := by
  unfold px_vin at h
  unfold vp_in
  simpa using h
theorem px_ald_inv {w : px_H} {a : Nat} {i x : Int32} {ty : FieldType} (h : px_ald w a i ty = some x) : ∃ n f, w.2 a = some (.inl (ty, n, f)) ∧ vp_in i n ∧ x = f i.toNatClampNeg := by
  unfold px_ald at h
  split at h
  · rename_i t n f hw
    split at h
    · rename_i hl
      obtain ⟨rfl, hv⟩ := hl
      cases h
      exact ⟨n, f, hw, px_vin_in hv, rfl⟩
    · cases h
  · cases h
theorem px_ast_inv {w w' : px_H} {a : Nat} {i x : Int32} {ty : FieldType} (h : px_ast w a i x ty = some w') : ∃ n f, w.2 a = some (.inl (ty, n, f)) ∧ vp_in i n ∧ w' = px_set w a (.inl (ty, n, upd f i.toNatClampNeg x)) := by
  unfold px_ast at h
  split at h
  · rename_i t n f hw
    split at h
    · rename_i hl
      obtain ⟨rfl, hv⟩ := hl
      cases h
      exact ⟨n, f, hw, px_vin_in hv, rfl⟩
    · cases h
  · cases h
theorem px_bld_inv {w : px_H} {a : Nat} {i x : Int32} (h : px_bld w a i = some x) : ∃ ty n f, (ty = .byte ∨ ty = .boolean) ∧ w.2 a = some (.inl (ty, n, f)) ∧ vp_in i n ∧ x = f i.toNatClampNeg := by
  unfold px_bld at h
  split at h
  · rename_i t n f hw
    split at h
    · rename_i hl
      cases h
      exact ⟨t, n, f, hl.1, hw, px_vin_in hl.2, rfl⟩
    · cases h
  · cases h
theorem px_bst_inv {w w' : px_H} {a : Nat} {i x : Int32} (h : px_bst w a i x = some w') : ∃ ty n f, (ty = .byte ∨ ty = .boolean) ∧ w.2 a = some (.inl (ty, n, f)) ∧ vp_in i n ∧ w' = px_set w a (.inl (ty, n, upd f i.toNatClampNeg (vp_nar ty x))) := by
  unfold px_bst at h
  split at h
  · rename_i t n f hw
    split at h
    · rename_i hl
      cases h
      exact ⟨t, n, f, hl.1, hw, px_vin_in hl.2, rfl⟩
    · cases h
  · cases h
theorem px_rld_inv {w : px_H} {a : Nat} {i : Int32} {v : Value} (h : px_rld w a i = some v) : ∃ E n f, w.2 a = some (.inr (.inl (.object E, n, f))) ∧ vp_in i n ∧ v = va_rf (f i.toNatClampNeg) := by
  unfold px_rld at h
  split at h
  · rename_i t n f hw
    split at h
    · rename_i hl
      cases h
      cases t with
      | object E => exact ⟨E, n, f, hw, px_vin_in hl.1, rfl⟩
      | _ => cases hl.2
    · cases h
  · cases h
theorem px_cls_inv {w : px_H} {a ci : Nat} (h : px_cls w a = some ci) : ∃ fs, w.2 a = some (.inr (.inr (ci, fs))) := by
  unfold px_cls at h
  split at h
  · rename_i c fs hw
    cases h
    exact ⟨fs, hw⟩
  · cases h
theorem px_rst_inv {w w' : px_H} {a : Nat} {i : Int32} {v : Value} (h : px_rst w a i v = some w') : ∃ E n f, w.2 a = some (.inr (.inl (.object E, n, f))) ∧ vp_in i n ∧
    ((v = .null ∧ w' = px_set w a (.inr (.inl (.object E, n, va_up f i.toNatClampNeg none)))) ∨ ∃ b ci fs, v = .ref b ∧ w.2 b = some (.inr (.inr (ci, fs))) ∧ px_may ci (.object E) = true ∧ w' = px_set w a (.inr (.inl (.object E, n, va_up f i.toNatClampNeg (some b))))) := by
  unfold px_rst at h
  split at h
  · rename_i t n f hw
    split at h
    · rename_i hl
      split at h
      · rename_i E
        cases h
        exact ⟨E, n, f, hw, px_vin_in hl, Or.inl ⟨rfl, rfl⟩⟩
      · rename_i E b
        split at h
        · rename_i ci hci
          split at h
          · rename_i hmay
            cases h
            obtain ⟨fs, hfs⟩ := px_cls_inv hci
            exact ⟨E, n, f, hw, px_vin_in hl, Or.inr ⟨b, ci, fs, rfl, hfs, hmay, rfl⟩⟩
          · cases h
        · cases h
      · cases h
    · cases h
  · cases h
theorem px_cpy_inv {w w' : px_H} {a0 a : Nat} {sp dp n : Int32} (h : px_cpy w a0 sp a dp n = some w') : ∃ n0 n1 f g, w.2 a0 = some (.inl (.int, n0, f)) ∧ w.2 a = some (.inl (.int, n1, g)) ∧ ¬ sp < 0 ∧ ¬ dp < 0 ∧ ¬ n < 0 ∧ sp.toNatClampNeg + n.toNatClampNeg ≤ n0 ∧ dp.toNatClampNeg + n.toNatClampNeg ≤ n1 ∧ w' = px_set w a (.inl (.int, n1, va_cpy f g sp.toNatClampNeg dp.toNatClampNeg n.toNatClampNeg)) := by
  unfold px_cpy at h
  split at h
  · rename_i t0 n0 f t1 n1 g h0 h1
    split at h
    · rename_i hl
      obtain ⟨rfl, rfl, q1, q2, q3, q4, q5⟩ := hl
      cases h
      exact ⟨n0, n1, f, g, h0, h1, q1, q2, q3, q4, q5, rfl⟩
    · cases h
  · cases h
theorem px_rf {as : List Nat} (o : Option Nat) : va_rf (o.map (fun i => as.getD i 0)) = px_v as (va_rf o) := by cases o <;> rfl
theorem px_upm {as : List Nat} (f : Nat → Option Nat) (k : Nat) (o : Option Nat) : (fun j => (va_up f k o j).map (fun i => as.getD i 0)) = va_up (fun j => (f j).map (fun i => as.getD i 0)) k (o.map (fun i => as.getD i 0)) := by
  funext j
  unfold va_up
  by_cases h : j = k
  · rw [if_pos h, if_pos h]
  · rw [if_neg h, if_neg h]
theorem px_fit_ok {ty : FieldType} {v : Value} {as : List Nat} (h : px_fit ty v = true) : narrow ty (px_v as v) = px_v as v ∧ fits ty (px_v as v) = true := by
  cases ty with
  | int => cases v with
    | int x => exact ⟨rfl, rfl⟩
    | _ => cases h
  | object n => cases v with
    | null => exact ⟨rfl, rfl⟩
    | ref i => exact ⟨rfl, rfl⟩
    | _ => cases h
  | array n => cases v with
    | null => exact ⟨rfl, rfl⟩
    | ref i => exact ⟨rfl, rfl⟩
    | _ => cases h
  | _ => cases v <;> cases h
section PXV
variable {s : State} {A : Nat → Prop} {D : va_G} {as0 as : List Nat} {ws : va_W} {tys : List (ClassId × FieldType)} {H : Heap} {locs : List Loc} {ls : Array Slot} {n : Nat} {L : px_L} {st st' : List Value} {w : px_H}
theorem px_B.toH {H1 : Heap} {locs1 : List Loc} {q : Nat} {c0 c : px_E} {e : va_E} (B : px_B s A D as0 as ws tys H locs ls n L st w) (h0 : w.2 q = some c0) (hok : px_eok w.1 c) (hc : px_ce as tys c e)
    (hP : va_P D vwCl (ws.set q (as.getD q 0, e)) H1) (hD : va_D A (ws.set q (as.getD q 0, e))) (hS : va_S A s.heap H1 locs1) (h : px_sok as.length st') : px_B s A D as0 as (ws.set q (as.getD q 0, e)) tys H1 locs1 ls n L st' (px_set w q c) :=
  ⟨B.1, hP, hD, hS, B.r.set h0 hok hc, B.2.2.2.2.2.1, B.lo, h⟩
theorem px_B.toN {H1 : Heap} {q : Nat} {c : px_E} {e : va_E} {tl : List (ClassId × FieldType)} (B : px_B s A D as0 as ws tys H locs ls n L st w) (hok : px_eok w.1 c) (hc : px_ce (as ++ [q]) (tys ++ tl) c e)
    (hK : va_K D vwCl (tys ++ tl) s) (hP : va_P D vwCl (ws ++ [(q, e)]) H1) (hD : va_D A (ws ++ [(q, e)])) (hS : va_S A s.heap H1 locs) (h : px_sok as.length st') : px_B s A D as0 (as ++ [q]) (ws ++ [(q, e)]) (tys ++ tl) H1 locs ls n L (.ref w.1 :: st') (px_add w c) := by
  refine ⟨hK, hP, hD, hS, B.r.add hok hc, ?_, B.lo.app, px_sok.cons ?_ (fun v hv => (h v hv).le (by simp))⟩
  · exact B.2.2.2.2.2.1.trans (List.prefix_append _ _)
  · show w.1 < (as ++ [q]).length
    rw [List.length_append, B.r.2.1]
    exact Nat.lt_succ_self _
end PXV
section PXW
variable {d : Nat} {m : px_M} {pc k : Nat} {L : px_L} {st : List Value} {w : px_H} {Q : Option Value → px_H → Prop}
theorem px_q_get (cf : px_CF) {idx a : Nat} {X : px_X} {v : Value} (hd : decode (px_mb m) pc = .ok (.getfield idx, 3)) (F : px_lkF (px_my m).cls idx X) (hf : px_fld w a X.2.2.1 X.2.1 = some v) (h : px_SW d m (pc + 3) L (v :: st) w k Q) : px_SW d m pc L (.ref a :: st) w k Q := by
  intro p l e s mi args below meth c A D as0 as ws tys H locs ls C B hk
  obtain ⟨ci, fs, M, hw, hM, hj⟩ := px_fld_inv hf
  obtain ⟨hok, e', he, hce⟩ := B.r.2.2 a _ hw
  cases hce
  have hvok : px_vok as.length v := by rw [B.r.2.1]; exact hok v (List.mem_of_getElem? hj)
  have h := h p l e s mi args below meth c A D as0 as ws tys H locs ls C (B.toS (px_sok.cons hvok B.sk.tl)) hk
  obtain ⟨nm, desc, hlink, hr⟩ := F
  obtain ⟨r, hr0, hr1, rfl, rfl, hsm⟩ := hr _ hM
  have hin := (cf ci r hr0).1
  have hv : (fs.map (px_v as))[X.2.1]? = some (px_v as v) := by rw [List.getElem?_map, hj]; rfl
  have hsame : ∀ x, s.fieldFound? (r.2.1 X.2.1).1 (r.2.1 X.2.1).2.1 (r.2.1 X.2.1).2.2.1 = some x → s.fieldFound? X.2.2.2.2 (r.2.1 X.2.1).2.1 (r.2.1 X.2.1).2.2.1 = some x := by
    intro x hx
    rcases hsm with q | q
    · rw [← q]; exact hx
    · exact u_same (C.2.2.2.2.1 _ q) x hx
  rcases hlink with ⟨-, hl⟩ | ⟨-, host, hl⟩
  · exact va_get (D := D) (C := r.1) (T := r.2.1) (N := r.2.2) C.1 C.2.1 C.2.2.2.2.1 hin C.2.2.2.1 B.1 B.2.1 a he hr0 X.2.1 hr1 (C.2.2.2.2.1 _ hl) hsame hv hd h
  · exact va_getN (D := D) (C := r.1) (T := r.2.1) (N := r.2.2) C.1 C.2.1 C.2.2.2.2.1 hin C.2.2.2.1 B.1 B.2.1 a he hr0 X.2.1 hr1 (va_Nw.use rfl (C.2.2.2.2.2.1 _ hl)) hsame hv hd h
theorem px_q_put (cf : px_CF) {idx a : Nat} {X : px_X} {v : Value} {w' : px_H} (hd : decode (px_mb m) pc = .ok (.putfield idx, 3)) (F : px_lkF (px_my m).cls idx X) (P : px_lkP m X)
    (hfit : (X.2.2.1.all (fun q => match px_fty q.1 X.2.1 with | some t => px_fit t v | none => false)) = true) (hf : px_pfd w a X.2.2.1 X.2.1 v = some w') (h : px_SW d m (pc + 3) L st w' k Q) : px_SW d m pc L (v :: .ref a :: st) w k Q := by
  intro p l e s mi args below meth c A D as0 as ws tys H locs ls C B hk
  obtain ⟨ci, fs, M, hw, hM, hj, rfl⟩ := px_pfd_inv hf
  obtain ⟨hok, e', he, hce⟩ := B.r.2.2 a _ hw
  cases hce
  have hvok : px_vok w.1 v := by rw [← B.r.2.1]; exact B.sk.hd
  obtain ⟨nm, desc, hlink, hr⟩ := F
  obtain ⟨r, hr0, hr1, rfl, rfl, hsm⟩ := hr _ hM
  obtain ⟨hin, ⟨ty0, hty⟩, hnm, -⟩ := cf ci r hr0
  have hfit1 := List.all_eq_true.mp hfit _ hM
  have hpt : px_fty ci X.2.1 = some (ty0 X.2.1) := by
    unfold px_fty
    rw [hr0]
    exact (hty _ hr1).1
  simp only [hpt] at hfit1
  obtain ⟨f1, f2⟩ := px_fit_ok (as := as) hfit1
  have hsame : ∀ x, s.fieldFound? (r.2.1 X.2.1).1 (r.2.1 X.2.1).2.1 (r.2.1 X.2.1).2.2.1 = some x → s.fieldFound? X.2.2.2.2 (r.2.1 X.2.1).2.1 (r.2.1 X.2.1).2.2.1 = some x := by
    intro x hx
    rcases hsm with q | q
    · rw [← q]; exact hx
    · exact u_same (C.2.2.2.2.1 _ q) x hx
  have hok' : px_eok w.1 (.inr (.inr (ci, fs.set X.2.1 v))) := by
    intro u hu
    rcases List.mem_or_eq_of_mem_set hu with hu | rfl
    · exact hok u hu
    · exact hvok
  have hce' : px_ce as tys (.inr (.inr (ci, fs.set X.2.1 v))) (.inr (ci, (fs.map (px_v as)).set X.2.1 (px_v as v))) := by
    show _ = _
    rw [List.map_set]
  have hl' : X.2.1 < (fs.map (px_v as)).length := by rw [List.length_map]; exact hj
  have kk : ∀ (H1 : Heap) (locs1 : List Loc), va_P D vwCl (ws.set a (as.getD a 0, .inr (ci, (fs.map (px_v as)).set X.2.1 (px_v as v)))) H1 → va_D A (ws.set a (as.getD a 0, .inr (ci, (fs.map (px_v as)).set X.2.1 (px_v as v)))) → va_S A s.heap H1 locs1 → W p l e (px_rm d m) s mi args below meth c H1 locs1 k (320 * k) (MQ below (px_Qc D as0 Q A) args s (px_mc m) (320 * px_mc m) A) (F0 mi (pc + 3) ls (st.map (px_v as))) :=
    fun H1 locs1 hP hD hS => h p l e s mi args below meth c A D as0 as _ tys H1 locs1 ls C (B.toH hw hok' hce' hP hD hS B.sk.tl.tl) hk
  rcases hlink with ⟨-, hl⟩ | ⟨h11, host, hl⟩
  · rcases P _ hM r hr0 with hfin | ⟨-, hnm2, hfin, hown⟩
    · exact va_put (D := D) (C := r.1) (T := r.2.1) (N := r.2.2) C.1 C.2.1 C.2.2.2.2.1 hin ty0 (fun k hk => (hty k hk).1) hnm C.2.2.2.1 B.1 B.2.1 B.2.2.1 B.2.2.2.1 a he hr0 X.2.1 hr1 (C.2.2.2.2.1 _ hl) hsame hfin (hty _ hr1).1 f1 f2 hl' hd kk
    · exact va_putF (D := D) (C := r.1) (T := r.2.1) (N := r.2.2) C.1 C.2.1 C.2.2.2.2.1 hin ty0 (fun k hk => (hty k hk).1) hnm C.2.2.2.1 B.1 B.2.1 B.2.2.1 B.2.2.2.1 a he hr0 X.2.1 hr1 (C.2.2.2.2.1 _ hl) hsame hfin (C.2.2.2.2.2.2.2.2.1.trans hnm2) hown (hty _ hr1).1 f1 f2 hl' hd kk
  · rcases P _ hM r hr0 with hfin | ⟨h10, -⟩
    · exact va_putN (D := D) (C := r.1) (T := r.2.1) (N := r.2.2) C.1 C.2.1 C.2.2.2.2.1 hin ty0 (fun k hk => (hty k hk).1) hnm C.2.2.2.1 B.1 B.2.1 B.2.2.1 B.2.2.2.1 a he hr0 X.2.1 hr1 (va_Nw.use rfl (C.2.2.2.2.2.1 _ hl)) hsame hfin (hty _ hr1).1 f1 f2 hl' hd kk
    · rw [h11] at h10; cases h10
theorem px_q_iald {a : Nat} {i x : Int32} (hd : decode (px_mb m) pc = .ok (.iaload, 1)) (hf : px_ald w a i .int = some x) (h : px_SW d m (pc + 1) L (.int x :: st) w k Q) : px_SW d m pc L (.int i :: .ref a :: st) w k Q := by
  intro p l e s mi args below meth c A D as0 as ws tys H locs ls C B hk
  obtain ⟨n, f, hw, hin, rfl⟩ := px_ald_inv hf
  obtain ⟨hok, e', he, cA, t0, ht, rfl⟩ := B.r.2.2 a _ hw
  exact va_iald C.1 C.2.1 B.1 B.2.1 a t0 he ht hin hd (h p l e s mi args below meth c A D as0 as ws tys H locs ls C (B.toS B.sk.tl.tl.i) hk)
theorem px_q_iast {a : Nat} {i x : Int32} {w' : px_H} (hd : decode (px_mb m) pc = .ok (.iastore, 1)) (hf : px_ast w a i x .int = some w') (h : px_SW d m (pc + 1) L st w' k Q) : px_SW d m pc L (.int x :: .int i :: .ref a :: st) w k Q := by
  intro p l e s mi args below meth c A D as0 as ws tys H locs ls C B hk
  obtain ⟨n, f, hw, hin, rfl⟩ := px_ast_inv hf
  obtain ⟨hok, e', he, cA, t0, ht, rfl⟩ := B.r.2.2 a _ hw
  exact va_iast C.1 C.2.1 B.1 B.2.1 B.2.2.1 B.2.2.2.1 a t0 he ht hin hd (fun H1 locs1 hP hD hS => h p l e s mi args below meth c A D as0 as _ tys H1 locs1 ls C (B.toH hw trivial ⟨cA, t0, ht, rfl⟩ hP hD hS B.sk.tl.tl.tl) hk)
theorem px_q_bald {a : Nat} {i x : Int32} (hd : decode (px_mb m) pc = .ok (.baload, 1)) (hf : px_bld w a i = some x) (h : px_SW d m (pc + 1) L (.int x :: st) w k Q) : px_SW d m pc L (.int i :: .ref a :: st) w k Q := by
  intro p l e s mi args below meth c A D as0 as ws tys H locs ls C B hk
  obtain ⟨ty, n, f, hty, hw, hin, rfl⟩ := px_bld_inv hf
  obtain ⟨hok, e', he, cA, t0, ht, rfl⟩ := B.r.2.2 a _ hw
  have h := h p l e s mi args below meth c A D as0 as ws tys H locs ls C (B.toS B.sk.tl.tl.i) hk
  rcases hty with rfl | rfl
  · exact va_bald C.1 C.2.1 B.1 B.2.1 a t0 he ht hin hd h
  · exact va_zald C.1 C.2.1 B.1 B.2.1 a t0 he ht hin hd h
theorem px_q_bast {a : Nat} {i x : Int32} {w' : px_H} (hd : decode (px_mb m) pc = .ok (.bastore, 1)) (hf : px_bst w a i x = some w') (h : px_SW d m (pc + 1) L st w' k Q) : px_SW d m pc L (.int x :: .int i :: .ref a :: st) w k Q := by
  intro p l e s mi args below meth c A D as0 as ws tys H locs ls C B hk
  obtain ⟨ty, n, f, hty, hw, hin, rfl⟩ := px_bst_inv hf
  obtain ⟨hok, e', he, cA, t0, ht, rfl⟩ := B.r.2.2 a _ hw
  rcases hty with rfl | rfl
  · exact va_bast C.1 C.2.1 B.1 B.2.1 B.2.2.1 B.2.2.2.1 a t0 he ht hin hd (fun H1 locs1 hP hD hS => h p l e s mi args below meth c A D as0 as _ tys H1 locs1 ls C (B.toH hw trivial ⟨cA, t0, ht, rfl⟩ hP hD hS B.sk.tl.tl.tl) hk)
  · exact va_zast C.1 C.2.1 B.1 B.2.1 B.2.2.1 B.2.2.2.1 a t0 he ht hin hd (fun H1 locs1 hP hD hS => h p l e s mi args below meth c A D as0 as _ tys H1 locs1 ls C (B.toH hw trivial ⟨cA, t0, ht, rfl⟩ hP hD hS B.sk.tl.tl.tl) hk)
theorem px_q_aald {a : Nat} {i : Int32} {v : Value} (hd : decode (px_mb m) pc = .ok (.aaload, 1)) (hf : px_rld w a i = some v) (h : px_SW d m (pc + 1) L (v :: st) w k Q) : px_SW d m pc L (.int i :: .ref a :: st) w k Q := by
  intro p l e s mi args below meth c A D as0 as ws tys H locs ls C B hk
  obtain ⟨E, n, f, hw, hin, rfl⟩ := px_rld_inv hf
  obtain ⟨hok, e', he, cA, t0, ht, rfl⟩ := B.r.2.2 a _ hw
  have hvok : px_vok as.length (va_rf (f i.toNatClampNeg)) := by
    cases hfi : f i.toNatClampNeg with
    | none => trivial
    | some b => rw [B.r.2.1]; exact hok _ _ hfi
  have h := h p l e s mi args below meth c A D as0 as ws tys H locs ls C (B.toS (px_sok.cons hvok B.sk.tl.tl)) hk
  refine va_aldq C.1 C.2.1 B.1 B.2.1 a t0 he ht hin hd ?_
  rw [px_rf]
  exact h
theorem px_q_aast {a : Nat} {i : Int32} {v : Value} {w' : px_H} (hd : decode (px_mb m) pc = .ok (.aastore, 1)) (hf : px_rst w a i v = some w') (h : px_SW d m (pc + 1) L st w' k Q) : px_SW d m pc L (v :: .int i :: .ref a :: st) w k Q := by
  intro p l e s mi args below meth c A D as0 as ws tys H locs ls C B hk
  obtain ⟨E, n, f, hw, hin, hcase⟩ := px_rst_inv hf
  obtain ⟨hok, e', he, cA, t0, ht, rfl⟩ := B.r.2.2 a _ hw
  rcases hcase with ⟨rfl, rfl⟩ | ⟨b, ci, fs, rfl, hb, hmay, rfl⟩
  · refine va_astqN C.1 C.2.1 B.1 B.2.1 B.2.2.1 B.2.2.2.1 a t0 he ht hin hd (fun H1 locs1 hP hD hS => h p l e s mi args below meth c A D as0 as _ tys H1 locs1 ls C (B.toH hw ?_ ⟨cA, t0, ht, by rw [px_upm]; rfl⟩ hP hD hS B.sk.tl.tl.tl) hk)
    intro j b hj
    unfold va_up at hj
    split at hj
    · cases hj
    · exact hok j b hj
  · obtain ⟨hokb, eb, heb, hceb⟩ := B.r.2.2 b _ hb
    cases hceb
    have hbl := B.r.lt hb
    have hok' : px_eok w.1 (.inr (.inl (.object E, n, va_up f i.toNatClampNeg (some b)))) := by
      intro j b' hj
      unfold va_up at hj
      split at hj
      · cases hj; exact hbl
      · exact hok j b' hj
    unfold px_may at hmay
    cases hr : vwCl[ci]? with
    | none => simp only [hr] at hmay; cases hmay
    | some r =>
      simp only [hr, Bool.or_eq_true, decide_eq_true_eq] at hmay
      rcases hmay with rfl | hmay
      · exact va_astq C.1 C.2.1 B.1 B.2.1 B.2.2.1 B.2.2.2.1 a t0 b ci he ht heb hr hin hd (fun H1 locs1 hP hD hS => h p l e s mi args below meth c A D as0 as _ tys H1 locs1 ls C (B.toH hw hok' ⟨cA, t0, ht, by rw [px_upm]; rfl⟩ hP hD hS B.sk.tl.tl.tl) hk)
      · have hz : Cond.castable r.1 E ∈ px_Z := List.mem_filter.mpr ⟨(List.mem_filter.mp hmay).1, rfl⟩
        exact va_astqO C.1 C.2.1 B.1 B.2.1 B.2.2.1 B.2.2.2.1 a t0 b ci he ht (C.2.2.2.2.2.1 _ hz) heb hr hin hd (fun H1 locs1 hP hD hS => h p l e s mi args below meth c A D as0 as _ tys H1 locs1 ls C (B.toH hw hok' ⟨cA, t0, ht, by rw [px_upm]; rfl⟩ hP hD hS B.sk.tl.tl.tl) hk)
theorem px_q_alen {a : Nat} {x : Int32} (hd : decode (px_mb m) pc = .ok (.arraylength, 1)) (hf : px_len w a = some x) (h : px_SW d m (pc + 1) L (.int x :: st) w k Q) : px_SW d m pc L (.ref a :: st) w k Q := by
  intro p l e s mi args below meth c A D as0 as ws tys H locs ls C B hk
  have h := h p l e s mi args below meth c A D as0 as ws tys H locs ls C (B.toS B.sk.tl.i) hk
  unfold px_len at hf
  split at hf
  · rename_i t n f hw
    cases hf
    obtain ⟨hok, e', he, cA, t0, ht, rfl⟩ := B.r.2.2 a _ hw
    exact va_alen C.1 C.2.1 B.1 B.2.1 a t0 he ht rfl hd h
  · rename_i t n f hw
    cases hf
    obtain ⟨hok, e', he, cA, t0, ht, rfl⟩ := B.r.2.2 a _ hw
    exact va_alen C.1 C.2.1 B.1 B.2.1 a t0 he ht rfl hd h
  · cases hf
def px_lkC (own : String) (idx : Nat) : Prop := Cond.methodLink own idx arraycopyName ∈ px_W ∧ Cond.native arraycopyName ∈ px_W ∧ Cond.static arraycopyName ∈ px_W ∧ Cond.initialized "java/lang/System" ∈ px_W
theorem px_q_copy {idx a0 a : Nat} {sp dp n : Int32} {w' : px_H} (hd : decode (px_mb m) pc = .ok (.invokestatic idx, 3)) (F : px_lkC (px_my m).cls idx) (hs : st.length ≤ 8) (hf : px_cpy w a0 sp a dp n = some w') (h : px_SW d m (pc + 3) L st w' k Q) : px_SW d m pc L (.int n :: .int dp :: .ref a :: .int sp :: .ref a0 :: st) w k Q := by
  intro p l e s mi args below meth c A D as0 as ws tys H locs ls C B hk
  obtain ⟨n0, n1, f, g, h0, h1, q1, q2, q3, q4, q5, rfl⟩ := px_cpy_inv hf
  obtain ⟨-, e0, he0, c0, t0, ht0, rfl⟩ := B.r.2.2 a0 _ h0
  obtain ⟨-, e1, he1, c1, t1, ht1, rfl⟩ := B.r.2.2 a _ h1
  have hts := C.2.2.2.2.1
  have hl : (((st.map (px_v as))).map fun v => v.category).sum + (nativeFrameWords "java/lang/System" "arraycopy" 5 + 11) ≤ (px_rm d m).locals := by
    rw [px_sok.cat B.sk.tl.tl.tl.tl.tl]
    have : nativeFrameWords "java/lang/System" "arraycopy" 5 = 7 := by decide +kernel
    rw [this]
    show st.length + (7 + 11) ≤ 40 * (d + 1)
    omega
  exact va_copyi C.1 C.2.1 (by rw [C.2.2.1]; exact B.lo.1.1.symm) C.2.2.2.1 (hts _ F.1) (hts _ F.2.1) (hts _ F.2.2.1) (hts _ F.2.2.2) B.1 B.2.1 B.2.2.1 B.2.2.2.1 a0 a t0 t1 he0 he1 ht0 ht1 rfl q1 q2 q3 q4 q5 (fun _ _ => rfl) (by show 1 ≤ d + 1; omega) hl hd
    (fun H1 locs1 hP hD hS => h p l e s mi args below meth c A D as0 as _ tys H1 locs1 ls C (B.toH h1 trivial ⟨c1, t1, ht1, rfl⟩ hP hD hS B.sk.tl.tl.tl.tl.tl) hk)
def px_lkM (own : String) (idx : Nat) : Prop := Cond.methodLink own idx Lib.Math.max.name ∈ px_W ∧ Cond.static Lib.Math.max.name ∈ px_W ∧ Cond.initialized "java/lang/Math" ∈ px_W ∧ Cond.code Lib.Math.max.name Lib.Math.max.code 2 (some .int) ∈ px_W
theorem px_q_max {idx : Nat} {x y : Int32} (hd : decode (px_mb m) pc = .ok (.invokestatic idx, 3)) (F : px_lkM (px_my m).cls idx) (hs : st.length ≤ 8) (h : px_SW d m (pc + 3) L (.int (if x < y then y else x) :: st) w k Q) : px_SW d m pc L (.int y :: .int x :: st) w k Q := by
  intro p l e s mi args below meth c A D as0 as ws tys H locs ls C B hk
  have hts := C.2.2.2.2.1
  have hl : (((st.map (px_v as))).map fun v => v.category).sum + 13 ≤ (px_rm d m).locals := by
    rw [px_sok.cat B.sk.tl.tl]
    show st.length + 13 ≤ 40 * (d + 1)
    omega
  exact va_mmax C.1 C.2.1 (by rw [C.2.2.1]; exact B.lo.1.1.symm) C.2.2.2.1 (hts _ F.1) (hts _ F.2.1) (hts _ F.2.2.1) (hts _ F.2.2.2) (by show 1 ≤ d + 1; omega) hl hk (by show 320 * k ≤ 320 * px_mc m; omega) hd (h p l e s mi args below meth c A D as0 as ws tys H locs ls C (B.toS B.sk.tl.tl.i) hk)
end PXW
