/-! how a state of the pure machine stands in the heap of the real one -/
def px_W : List Cond := lw_tbl.filter goodWord
def px_zk : Cond → Bool
  | .fieldLinkNest .. => true
  | .methodLinkNest .. => true
  | .declares _ => true
  | .castable .. => true
  | .arrayOver (.object _) => true
  | _ => false
def px_Z : List Cond := lw_tbl.filter px_zk
def px_N (U : State) : Prop := ∀ c ∈ px_Z, c.before #[] U = true
theorem px_N.warm {s U : State} (hW : s.WarmedH U.vm) (h : px_N s) : px_N U := by
  intro c hc
  have hk : px_zk c = true := (List.mem_filter.mp hc).2
  have h0 := h c hc
  cases c with
  | fieldLinkNest a i b n d x => exact va_Nw.warmF hW h0
  | methodLinkNest a i x y => exact va_Nw.warmM hW h0
  | declares x => exact va_Nw.warmD hW h0
  | castable a b => exact va_Nw.warmC hW h0
  | arrayOver ty =>
    cases ty with
    | object C => exact va_AO.moved hW.alike h0
    | _ => cases hk
  | _ => cases hk
theorem px_N.same {s U : State} (hv : s.vm = U.vm) (h : px_N s) : px_N U := by
  intro c hc
  have hk : px_zk c = true := (List.mem_filter.mp hc).2
  have h0 := h c hc
  cases c with
  | fieldLinkNest a i b n d x => exact va_Nw.same rfl hv h0
  | methodLinkNest a i x y => exact va_Nw.same rfl hv h0
  | declares x => exact va_Nw.same rfl hv h0
  | castable a b => exact va_Nw.same rfl hv h0
  | arrayOver ty =>
    cases ty with
    | object C => exact va_AO.moved (by rw [hv]; exact Vm.Alike.refl _) h0
    | _ => cases hk
  | _ => cases hk
def px_v (as : List Nat) : Value → Value
  | .ref i => .ref (as.getD i 0)
  | v => v
def px_vok (n : Nat) : Value → Prop
  | .int _ => True
  | .null => True
  | .ref i => i < n
  | _ => False
theorem px_vok.le {n n' : Nat} (hn : n ≤ n') {v : Value} (h : px_vok n v) : px_vok n' v := by
  cases v with
  | ref i => exact Nat.lt_of_lt_of_le h hn
  | int x => trivial
  | null => trivial
  | _ => exact h.elim
theorem px_vok.cat {n : Nat} {v : Value} (h : px_vok n v) : v.category = 1 := by
  cases v with
  | ref i => rfl
  | int x => rfl
  | null => rfl
  | _ => exact h.elim
theorem px_v_cat {as : List Nat} {v : Value} : (px_v as v).category = v.category := by
  cases v <;> rfl
theorem px_getD {as l : List Nat} {i : Nat} (h : i < as.length) : (as ++ l).getD i 0 = as.getD i 0 := by
  simp [List.getD, List.getElem?_append_left h]
theorem px_v_app {as l : List Nat} {v : Value} (h : px_vok as.length v) : px_v (as ++ l) v = px_v as v := by
  cases v with
  | ref i => show Value.ref _ = Value.ref _; rw [px_getD h]
  | _ => rfl
def px_ce (as : List Nat) (tys : List (ClassId × FieldType)) : px_E → va_E → Prop
  | .inl (ty, n, f), e => ∃ (cA : ClassId) (t0 : Nat), tys[t0]? = some (cA, ty) ∧ e = .inl (cA, n, .inl f)
  | .inr (.inl (ty, n, f)), e => ∃ (cA : ClassId) (t0 : Nat), tys[t0]? = some (cA, ty) ∧ e = .inl (cA, n, .inr (.inr (.inr (.inr (fun j => (f j).map (fun i => as.getD i 0))))))
  | .inr (.inr (ci, fs)), e => e = .inr (ci, fs.map (px_v as))
def px_eok (n : Nat) : px_E → Prop
  | .inl _ => True
  | .inr (.inl (_, _, f)) => ∀ j i, f j = some i → i < n
  | .inr (.inr (_, fs)) => ∀ v ∈ fs, px_vok n v
def px_R (as : List Nat) (ws : va_W) (tys : List (ClassId × FieldType)) (w : px_H) : Prop :=
  ws.map Prod.fst = as ∧ as.length = w.1 ∧ ∀ i c, w.2 i = some c → px_eok w.1 c ∧ ∃ e, ws[i]? = some (as.getD i 0, e) ∧ px_ce as tys c e
theorem px_eok.le {n n' : Nat} (hn : n ≤ n') {c : px_E} (h : px_eok n c) : px_eok n' c := by
  rcases c with ⟨ty, k, f⟩ | ⟨ty, k, f⟩ | ⟨ci, fs⟩
  · exact h
  · exact fun j i hj => Nat.lt_of_lt_of_le (h j i hj) hn
  · exact fun v hv => (h v hv).le hn
theorem px_ce.app {as l : List Nat} {tys tl : List (ClassId × FieldType)} {c : px_E} {e : va_E} (hok : px_eok as.length c) (h : px_ce as tys c e) : px_ce (as ++ l) (tys ++ tl) c e := by
  rcases c with ⟨ty, k, f⟩ | ⟨ty, k, f⟩ | ⟨ci, fs⟩
  · obtain ⟨cA, t0, h1, h2⟩ := h
    exact ⟨cA, t0, by rw [List.getElem?_append_left (List.getElem?_eq_some_iff.mp h1).1]; exact h1, h2⟩
  · obtain ⟨cA, t0, h1, h2⟩ := h
    refine ⟨cA, t0, by rw [List.getElem?_append_left (List.getElem?_eq_some_iff.mp h1).1]; exact h1, ?_⟩
    rw [h2]
    congr 7
    funext j
    cases hj : f j with
    | none => rfl
    | some i => exact congrArg some (px_getD (hok j i hj)).symm
  · show e = _
    rw [show e = .inr (ci, fs.map (px_v as)) from h]
    congr 2
    exact List.map_congr_left (fun v hv => (px_v_app (hok v hv)).symm)
theorem px_R.lt {as : List Nat} {ws : va_W} {tys : List (ClassId × FieldType)} {w : px_H} (h : px_R as ws tys w) {i : Nat} {c : px_E} (hc : w.2 i = some c) : i < w.1 := by
  obtain ⟨-, e, he, -⟩ := h.2.2 i c hc
  rw [← h.2.1, ← h.1, List.length_map]
  exact (List.getElem?_eq_some_iff.mp he).1
theorem px_R.set {as : List Nat} {ws : va_W} {tys : List (ClassId × FieldType)} {w : px_H} (h : px_R as ws tys w) {q : Nat} {c0 c : px_E} {e : va_E} (h0 : w.2 q = some c0) (hok : px_eok w.1 c) (hc : px_ce as tys c e) : px_R as (ws.set q (as.getD q 0, e)) tys (px_set w q c) := by
  have hq : q < ws.length := by
    have := h.lt h0
    rw [← h.2.1, ← h.1, List.length_map] at this
    exact this
  refine ⟨?_, h.2.1, fun i c' hc' => ?_⟩
  · rw [List.map_set, h.1]
    refine List.ext_getElem? fun n => ?_
    rw [List.getElem?_set]
    by_cases hn : q = n
    · subst hn
      have : q < as.length := by rw [← h.1, List.length_map]; exact hq
      simp [List.getD, this]
    · simp [hn]
  · by_cases hi : i = q
    · subst hi
      have : some c = some c' := by simpa [px_set] using hc'
      cases this
      exact ⟨hok, e, by rw [List.getElem?_set_self hq], hc⟩
    · have : w.2 i = some c' := by simpa [px_set, hi] using hc'
      obtain ⟨g1, e', g2, g3⟩ := h.2.2 i c' this
      exact ⟨g1, e', by rw [List.getElem?_set_ne (fun x => hi x.symm)]; exact g2, g3⟩
theorem px_R.add {as : List Nat} {ws : va_W} {tys tl : List (ClassId × FieldType)} {w : px_H} (h : px_R as ws tys w) {q : Nat} {c : px_E} {e : va_E} (hok : px_eok w.1 c) (hc : px_ce (as ++ [q]) (tys ++ tl) c e) : px_R (as ++ [q]) (ws ++ [(q, e)]) (tys ++ tl) (px_add w c) := by
  have hl : ws.length = w.1 := by rw [← h.2.1, ← h.1, List.length_map]
  refine ⟨by rw [List.map_append, h.1]; rfl, by rw [List.length_append, h.2.1]; rfl, fun i c' hc' => ?_⟩
  by_cases hi : i = w.1
  · subst hi
    have : some c = some c' := by simpa [px_add] using hc'
    cases this
    refine ⟨hok.le (Nat.le_succ _), e, ?_, hc⟩
    rw [List.getElem?_append_right (by omega), hl, Nat.sub_self]
    simp [List.getD, ← h.2.1]
  · have h2 : w.2 i = some c' := by simpa [px_add, hi] using hc'
    obtain ⟨g1, e', g2, g3⟩ := h.2.2 i c' h2
    have hlt := h.lt h2
    refine ⟨g1.le (Nat.le_succ _), e', ?_, px_ce.app (by rw [h.2.1]; exact g1) g3⟩
    rw [List.getElem?_append_left (by omega), g2, px_getD (by rw [h.2.1]; exact hlt)]
/-- the locals, as the kit lists them -/
def px_lv (as : List Nat) (L : px_L) : List (Nat × Value) := (List.range L.length).filterMap (fun j => match L[j]? with | some (some v) => some (j, px_v as v) | _ => none)
theorem px_lv_mem {as : List Nat} {L : px_L} {j : Nat} {x : Value} : (j, x) ∈ px_lv as L ↔ ∃ v, L[j]? = some (some v) ∧ x = px_v as v := by
  constructor
  · intro h
    obtain ⟨i, hi, hx⟩ := List.mem_filterMap.mp h
    cases hL : L[i]? with
    | none => simp [hL] at hx
    | some o =>
      cases o with
      | none => simp [hL] at hx
      | some v =>
        simp only [hL] at hx
        cases hx
        exact ⟨v, hL, rfl⟩
  · rintro ⟨v, hL, rfl⟩
    refine List.mem_filterMap.mpr ⟨j, List.mem_range.mpr (List.getElem?_eq_some_iff.mp hL).1, ?_⟩
    simp [hL]
def px_lo (as : List Nat) (L : px_L) (ls : Array Slot) (n : Nat) : Prop := lv_has ls n (px_lv as L) ∧ L.length = n ∧ ∀ (j : Nat) (v : Value), L[j]? = some (some v) → px_vok as.length v
theorem px_lo.at {as : List Nat} {L : px_L} {ls : Array Slot} {n j : Nat} {v : Value} (h : px_lo as L ls n) (hj : L[j]? = some (some v)) : ls[j]? = some (.val (px_v as v)) := h.1.2.2 (j, px_v as v) (px_lv_mem.mpr ⟨v, hj, rfl⟩)
theorem px_lo.app {as l : List Nat} {L : px_L} {ls : Array Slot} {n : Nat} (h : px_lo as L ls n) : px_lo (as ++ l) L ls n := by
  refine ⟨⟨h.1.1, h.1.2.1, fun q hq => ?_⟩, h.2.1, fun j v hj => (h.2.2 j v hj).le (by simp)⟩
  obtain ⟨j, x⟩ := q
  obtain ⟨v, hv, rfl⟩ := px_lv_mem.mp hq
  rw [px_v_app (h.2.2 j v hv)]
  exact h.at hv
theorem px_lo.pre {as as' : List Nat} {L : px_L} {ls : Array Slot} {n : Nat} (hp : as <+: as') (h : px_lo as L ls n) : px_lo as' L ls n := by
  obtain ⟨t, rfl⟩ := hp
  exact h.app
/-- after a store -/
theorem px_lo.store {as : List Nat} {L : px_L} {ls ls' : Array Slot} {n i : Nat} {v : Value} (h : px_lo as L ls n) (hi : i < L.length) (hv : px_vok as.length v)
    (h' : lv_has ls' n ((i, px_v as v) :: (px_lv as L).filter (fun q => !(q.1 == i) && !(q.1 + 1 == i && q.2.category == 2)))) : px_lo as (L.set i (some v)) ls' n := by
  refine ⟨⟨h'.1, h'.2.1, fun q hq => ?_⟩, by rw [List.length_set]; exact h.2.1, fun j u hj => ?_⟩
  · obtain ⟨j, x⟩ := q
    obtain ⟨u, hu, rfl⟩ := px_lv_mem.mp hq
    by_cases hj : j = i
    · subst hj
      rw [List.getElem?_set_self hi] at hu
      cases hu
      exact h'.2.2 _ List.mem_cons_self
    · rw [List.getElem?_set_ne (fun x => hj x.symm)] at hu
      refine h'.2.2 _ (List.mem_cons_of_mem _ (List.mem_filter.mpr ⟨px_lv_mem.mpr ⟨u, hu, rfl⟩, ?_⟩))
      have hc : (px_v as u).category = 1 := by rw [px_v_cat]; exact (h.2.2 j u hu).cat
      simp [hj, hc]
  · by_cases hj' : j = i
    · subst hj'
      rw [List.getElem?_set_self hi] at hj
      cases hj
      exact hv
    · rw [List.getElem?_set_ne (fun x => hj' x.symm)] at hj
      exact h.2.2 j u hj
def px_sok (n : Nat) (st : List Value) : Prop := ∀ v ∈ st, px_vok n v
theorem px_sok.map {as l : List Nat} {st : List Value} (h : px_sok as.length st) : st.map (px_v (as ++ l)) = st.map (px_v as) := List.map_congr_left (fun v hv => px_v_app (h v hv))
theorem px_sok.cat {n : Nat} {as : List Nat} {st : List Value} (h : px_sok n st) : ((st.map (px_v as)).map fun v => v.category).sum = st.length := by
  induction st with
  | nil => rfl
  | cons v st ih =>
    have h1 := (h v List.mem_cons_self).cat
    have h2 := ih (fun u hu => h u (List.mem_cons_of_mem _ hu))
    simp only [List.map_cons, List.sum_cons, List.length_cons, px_v_cat, h1]
    rw [h2]
    omega
