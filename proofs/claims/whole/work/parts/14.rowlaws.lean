/-! rows of the pure machine, an instruction each, as equivalences -/
abbrev wp (d M pc : Nat) (L : px_L) (st : List Value) (w : px_H) (k : Nat) (Q : Option Value → px_H → Prop) : Prop := px_wp px_tab d M pc L st w k Q
abbrev wc (d M : Nat) (as : List Value) (w : px_H) (Q : Option Value → px_H → Prop) : Prop := px_wc px_tab d M as w Q
section RW
variable {d M pc k : Nat} {L : px_L} {st : List Value} {w : px_H} {Q : Option Value → px_H → Prop} {m : px_M} {X : px_X}
theorem r_entry {as : List Value} {L : px_L} (hm : px_tab[M]? = some m) (hl : as.length ≤ px_ml m) (hL : px_en (px_ml m) as = L) : wc d M as w Q ↔ wp d M 0 L [] w 0 Q := by
  subst hL
  constructor
  · rintro ⟨m', h1, -, h2⟩
    cases hm.symm.trans h1
    exact h2
  · intro h
    exact ⟨m, hm, hl, h⟩
theorem r_iconst {n : Int} {v : Int32} (hm : px_tab[M]? = some m) (hi : (px_mi m).lookup pc = some (.iconst n, 1, X)) (hv : Int32.ofInt n = v) : wp d M pc L st w k Q ↔ wp d M (pc + 1) L (.int v :: st) w k Q := by
  subst hv
  exact px_go hm hi rfl
theorem r_bipush {n : Int} {v : Int32} (hm : px_tab[M]? = some m) (hi : (px_mi m).lookup pc = some (.bipush n, 2, X)) (hv : (Int8.ofInt n).toInt32 = v) : wp d M pc L st w k Q ↔ wp d M (pc + 2) L (.int v :: st) w k Q := by
  subst hv
  exact px_go hm hi rfl
theorem r_sipush {n : Int} {v : Int32} (hm : px_tab[M]? = some m) (hi : (px_mi m).lookup pc = some (.sipush n, 3, X)) (hv : (Int16.ofInt n).toInt32 = v) : wp d M pc L st w k Q ↔ wp d M (pc + 3) L (.int v :: st) w k Q := by
  subst hv
  exact px_go hm hi rfl
theorem r_iinc {j : Nat} {n : Int} {x c : Int32} {L' : px_L} (hm : px_tab[M]? = some m) (hi : (px_mi m).lookup pc = some (.iinc j n, 3, X)) (hL : L[j]? = some (some (.int x))) (hc : Int32.ofInt n = c) (hL' : L.set j (some (.int (x + c))) = L') : wp d M pc L st w k Q ↔ wp d M (pc + 3) L' st w k Q := by
  subst hc
  subst hL'
  refine px_go (S' := (pc + 3, L.set j (some (.int (x + Int32.ofInt n))), st, w, k)) hm hi ?_
  simp only [px_act, hL]
theorem r_goto {off : Int} {t : Nat} (hm : px_tab[M]? = some m) (hi : (px_mi m).lookup pc = some (.goto off, 3, X)) (ht : px_jmp pc off = some t) : wp d M pc L st w k Q ↔ wp d M t L st w k Q := by
  refine px_go (S' := (t, L, st, w, k)) hm hi ?_
  simp only [px_act, ht, Option.map_some]
theorem r_br {b : Bool} {c : Prop} [Decidable c] {off : Int} {t : Nat} {q : px_I} {st' : List Value} (hm : px_tab[M]? = some m) (hi : (px_mi m).lookup pc = some q) (ha : px_act m q.1 q.2.2 pc L st w k = (if b = true then px_jmp pc off else some (pc + 3)).map (fun t => .inl (t, L, st', w, k))) (hb : b = decide c) (ht : px_jmp pc off = some t) :
    wp d M pc L st w k Q ↔ if c then wp d M t L st' w k Q else wp d M (pc + 3) L st' w k Q := by
  subst hb
  by_cases h : c
  · rw [if_pos h]
    refine px_go (S' := (t, L, st', w, k)) hm hi ?_
    rw [ha, if_pos (decide_eq_true h), ht]
    rfl
  · rw [if_neg h]
    refine px_go (S' := (pc + 3, L, st', w, k)) hm hi ?_
    rw [ha, if_neg (by simp [h])]
    rfl
theorem r_if_eq {x : Int32} {off : Int} {t : Nat} (hm : px_tab[M]? = some m) (hi : (px_mi m).lookup pc = some (.ifCond .eq off, 3, X)) (ht : px_jmp pc off = some t) : wp d M pc L (.int x :: st) w k Q ↔ if x = 0 then wp d M t L st w k Q else wp d M (pc + 3) L st w k Q := r_br hm hi rfl rfl ht
theorem r_if_ne {x : Int32} {off : Int} {t : Nat} (hm : px_tab[M]? = some m) (hi : (px_mi m).lookup pc = some (.ifCond .ne off, 3, X)) (ht : px_jmp pc off = some t) : wp d M pc L (.int x :: st) w k Q ↔ if x = 0 then wp d M (pc + 3) L st w k Q else wp d M t L st w k Q := by
  rw [r_br (c := ¬ x = 0) hm hi rfl rfl ht]
  by_cases h : x = 0 <;> simp [h]
theorem r_if_lt {x : Int32} {off : Int} {t : Nat} (hm : px_tab[M]? = some m) (hi : (px_mi m).lookup pc = some (.ifCond .lt off, 3, X)) (ht : px_jmp pc off = some t) : wp d M pc L (.int x :: st) w k Q ↔ if x < 0 then wp d M t L st w k Q else wp d M (pc + 3) L st w k Q := r_br hm hi rfl rfl ht
theorem r_if_ge {x : Int32} {off : Int} {t : Nat} (hm : px_tab[M]? = some m) (hi : (px_mi m).lookup pc = some (.ifCond .ge off, 3, X)) (ht : px_jmp pc off = some t) : wp d M pc L (.int x :: st) w k Q ↔ if 0 ≤ x then wp d M t L st w k Q else wp d M (pc + 3) L st w k Q := r_br hm hi rfl rfl ht
theorem r_if_gt {x : Int32} {off : Int} {t : Nat} (hm : px_tab[M]? = some m) (hi : (px_mi m).lookup pc = some (.ifCond .gt off, 3, X)) (ht : px_jmp pc off = some t) : wp d M pc L (.int x :: st) w k Q ↔ if 0 < x then wp d M t L st w k Q else wp d M (pc + 3) L st w k Q := r_br hm hi rfl rfl ht
theorem r_if_le {x : Int32} {off : Int} {t : Nat} (hm : px_tab[M]? = some m) (hi : (px_mi m).lookup pc = some (.ifCond .le off, 3, X)) (ht : px_jmp pc off = some t) : wp d M pc L (.int x :: st) w k Q ↔ if x ≤ 0 then wp d M t L st w k Q else wp d M (pc + 3) L st w k Q := r_br hm hi rfl rfl ht
theorem r_icmp_eq {x y : Int32} {off : Int} {t : Nat} (hm : px_tab[M]? = some m) (hi : (px_mi m).lookup pc = some (.if_icmp .eq off, 3, X)) (ht : px_jmp pc off = some t) : wp d M pc L (.int y :: .int x :: st) w k Q ↔ if x = y then wp d M t L st w k Q else wp d M (pc + 3) L st w k Q := r_br hm hi rfl rfl ht
theorem r_icmp_ne {x y : Int32} {off : Int} {t : Nat} (hm : px_tab[M]? = some m) (hi : (px_mi m).lookup pc = some (.if_icmp .ne off, 3, X)) (ht : px_jmp pc off = some t) : wp d M pc L (.int y :: .int x :: st) w k Q ↔ if x = y then wp d M (pc + 3) L st w k Q else wp d M t L st w k Q := by
  rw [r_br (c := ¬ x = y) hm hi rfl rfl ht]
  by_cases h : x = y <;> simp [h]
theorem r_icmp_lt {x y : Int32} {off : Int} {t : Nat} (hm : px_tab[M]? = some m) (hi : (px_mi m).lookup pc = some (.if_icmp .lt off, 3, X)) (ht : px_jmp pc off = some t) : wp d M pc L (.int y :: .int x :: st) w k Q ↔ if x < y then wp d M t L st w k Q else wp d M (pc + 3) L st w k Q := r_br hm hi rfl rfl ht
theorem r_icmp_ge {x y : Int32} {off : Int} {t : Nat} (hm : px_tab[M]? = some m) (hi : (px_mi m).lookup pc = some (.if_icmp .ge off, 3, X)) (ht : px_jmp pc off = some t) : wp d M pc L (.int y :: .int x :: st) w k Q ↔ if y ≤ x then wp d M t L st w k Q else wp d M (pc + 3) L st w k Q := r_br hm hi rfl rfl ht
theorem r_icmp_gt {x y : Int32} {off : Int} {t : Nat} (hm : px_tab[M]? = some m) (hi : (px_mi m).lookup pc = some (.if_icmp .gt off, 3, X)) (ht : px_jmp pc off = some t) : wp d M pc L (.int y :: .int x :: st) w k Q ↔ if y < x then wp d M t L st w k Q else wp d M (pc + 3) L st w k Q := r_br hm hi rfl rfl ht
theorem r_icmp_le {x y : Int32} {off : Int} {t : Nat} (hm : px_tab[M]? = some m) (hi : (px_mi m).lookup pc = some (.if_icmp .le off, 3, X)) (ht : px_jmp pc off = some t) : wp d M pc L (.int y :: .int x :: st) w k Q ↔ if x ≤ y then wp d M t L st w k Q else wp d M (pc + 3) L st w k Q := r_br hm hi rfl rfl ht
theorem r_ifnullN {off : Int} {t : Nat} (hm : px_tab[M]? = some m) (hi : (px_mi m).lookup pc = some (.ifnull off, 3, X)) (ht : px_jmp pc off = some t) : wp d M pc L (.null :: st) w k Q ↔ wp d M t L st w k Q := by
  refine px_go (S' := (t, L, st, w, k)) hm hi ?_
  simp only [px_act, ht, Option.map_some]
theorem r_ifnonnull {off : Int} {t a : Nat} (hm : px_tab[M]? = some m) (hi : (px_mi m).lookup pc = some (.ifnonnull off, 3, X)) (ht : px_jmp pc off = some t) : wp d M pc L (.ref a :: st) w k Q ↔ wp d M t L st w k Q := by
  refine px_go (S' := (t, L, st, w, k)) hm hi ?_
  simp only [px_act, ht, Option.map_some]
theorem r_tsw {dflt lo hi : Int} {offs : Array Int} {len : Nat} {x : Int32} (hm : px_tab[M]? = some m) (hl : (px_mi m).lookup pc = some (.tableswitch dflt lo hi offs, len, X)) : wp d M pc L (.int x :: st) w k Q ↔ px_op (px_tsw pc dflt lo hi offs x) (fun t => wp d M t L st w k Q) := px_goO (S' := fun t => (t, L, st, w, k)) hm hl rfl
theorem r_lsw {dflt : Int} {ps : Array (Int × Int)} {len : Nat} {x : Int32} (hm : px_tab[M]? = some m) (hl : (px_mi m).lookup pc = some (.lookupswitch dflt ps, len, X)) : wp d M pc L (.int x :: st) w k Q ↔ px_op (px_lsw pc dflt ps x) (fun t => wp d M t L st w k Q) := px_goO (S' := fun t => (t, L, st, w, k)) hm hl rfl
theorem r_new {ci idx : Nat} {r : vw_C} {fs : List Value} (hm : px_tab[M]? = some m) (hi : (px_mi m).lookup pc = some (.new idx, 3, (20, ci, [], 0, ""))) (hr : vwCl[ci]? = some r) (hf : px_newf r = fs) (hk : k + 1 ≤ px_mc m) : wp d M pc L st w k Q ↔ wp d M (pc + 3) L (.ref w.1 :: st) (px_add w (.inr (.inr (ci, fs)))) (k + 1) Q := by
  subst hf
  refine px_go (S' := (pc + 3, L, .ref w.1 :: st, px_add w (.inr (.inr (ci, px_newf r))), k + 1)) hm hi ?_
  simp only [px_act, if_pos hk, px_new, hr, Option.map_some]
theorem r_newarr {t : Jvm.ClassFile.ArrayType} {ty : FieldType} {n : Int32} {N : Nat} (hm : px_tab[M]? = some m) (hi : (px_mi m).lookup pc = some (.newarray t, 2, X)) (ht : px_nat t = some ty) (hn : ¬ n < 0 ∧ n.toNatClampNeg = N ∧ N ≤ 320) (hk : k + 1 ≤ px_mc m) : wp d M pc L (.int n :: st) w k Q ↔ wp d M (pc + 2) L (.ref w.1 :: st) (px_add w (.inl (ty, N, fun _ => 0))) (k + 1) Q := by
  obtain ⟨h1, rfl, h2⟩ := hn
  refine px_go (S' := (pc + 2, L, .ref w.1 :: st, px_add w (.inl (ty, n.toNatClampNeg, fun _ => 0)), k + 1)) hm hi ?_
  simp only [px_act, if_pos (And.intro hk (And.intro h1 h2)), ht, Option.map_some]
theorem r_anew {idx : Nat} {E : String} {n : Int32} {N : Nat} (hm : px_tab[M]? = some m) (hi : (px_mi m).lookup pc = some (.anewarray idx, 3, (21, 0, [], 0, E))) (hn : ¬ n < 0 ∧ n.toNatClampNeg = N ∧ N ≤ 320) (hk : k + 1 ≤ px_mc m) : wp d M pc L (.int n :: st) w k Q ↔ wp d M (pc + 3) L (.ref w.1 :: st) (px_add w (.inr (.inl (.object E, N, fun _ => none)))) (k + 1) Q := by
  obtain ⟨h1, rfl, h2⟩ := hn
  refine px_go (S' := (pc + 3, L, .ref w.1 :: st, px_add w (.inr (.inl (.object E, n.toNatClampNeg, fun _ => none))), k + 1)) hm hi ?_
  simp only [px_act, if_pos (And.intro hk (And.intro h1 h2))]
/-- a call whose target is known -/
theorem r_call {q : px_I} {M' : Nat} {vs rest : List Value} {m' : px_M} {k' : Nat} (hm : px_tab[M]? = some m) (hi : (px_mi m).lookup pc = some q) (ha : px_act m q.1 q.2.2 pc L st w k = some (.inr (.inr (M', vs, (pc + 3, L, rest, w, k))))) (hm' : px_tab[M']? = some m') (hl : vs.length ≤ px_ml m') (hk : k + px_mc m' ≤ px_mc m) (hk' : k + px_mc m' = k') :
    wp (d + 1) M pc L st w k Q ↔ wc d M' vs w (fun r w' => wp (d + 1) M (pc + 3) L (r.toList ++ rest) w' k' Q) := by
  subst hk'
  exact px_call (o := some ()) (c := fun _ => (M', vs, (pc + 3, L, rest, w, k))) (m' := fun _ => m') hm hi ha (fun _ _ => ⟨hm', hl, hk⟩)
theorem r_callO {α : Type} {o : Option α} {q : px_I} {F : α → Nat} {vs rest : List Value} {G : α → px_M} {k' : Nat} (hm : px_tab[M]? = some m) (hi : (px_mi m).lookup pc = some q) (ha : px_act m q.1 q.2.2 pc L st w k = o.map (fun v => .inr (.inr (F v, vs, (pc + 3, L, rest, w, k))))) (hG : ∀ v, o = some v → px_tab[F v]? = some (G v) ∧ vs.length ≤ px_ml (G v) ∧ k + px_mc (G v) ≤ px_mc m ∧ k + px_mc (G v) = k') :
    wp (d + 1) M pc L st w k Q ↔ px_op o (fun v => wc d (F v) vs w (fun r w' => wp (d + 1) M (pc + 3) L (r.toList ++ rest) w' k' Q)) := by
  rw [wp, px_call (o := o) (c := fun v => (F v, vs, (pc + 3, L, rest, w, k))) (m' := G) hm hi ha (fun v hv => ⟨(hG v hv).1, (hG v hv).2.1, (hG v hv).2.2.1⟩)]
  cases o with
  | none => exact Iff.rfl
  | some v => rw [px_op_some, px_op_some, (hG v rfl).2.2.2]
end RW
theorem tl_none : (none : Option Value).toList = [] := rfl
theorem tl_some (v : Value) : (some v).toList = [v] := rfl
theorem ap_nil (l : List Value) : [] ++ l = l := rfl
theorem ap_one (v : Value) (l : List Value) : [v] ++ l = v :: l := rfl
def px_tgt (w : px_H) (b : Nat) (cis : List (Nat × Nat)) : Option Nat := (px_cls w b).bind (fun ci => cis.lookup ci)
section RW2
variable {d M pc k : Nat} {L : px_L} {st : List Value} {w : px_H} {Q : Option Value → px_H → Prop} {m : px_M} {X : px_X}
theorem r_callV {q : px_I} {b : Nat} {vs rest : List Value} {cis : List (Nat × Nat)} {k' : Nat} (hm : px_tab[M]? = some m) (hi : (px_mi m).lookup pc = some q) (ha : px_act m q.1 q.2.2 pc L st w k = ((px_cls w b).bind (fun ci => cis.lookup ci)).map (fun v => .inr (.inr (v, vs, (pc + 3, L, rest, w, k)))))
    (hG : ∀ q ∈ cis, ∃ m', px_tab[q.2]? = some m' ∧ vs.length ≤ px_ml m' ∧ k + px_mc m' ≤ px_mc m ∧ k + px_mc m' = k') :
    wp (d + 1) M pc L st w k Q ↔ px_op (px_tgt w b cis) (fun v => wc d v vs w (fun r w' => wp (d + 1) M (pc + 3) L (r.toList ++ rest) w' k' Q)) := by
  refine r_callO (o := (px_cls w b).bind (fun ci => cis.lookup ci)) (F := fun v => v) (G := fun v => (px_tab[v]?).getD m) hm hi ha (fun v hv => ?_)
  obtain ⟨ci, -, hl⟩ := Option.bind_eq_some_iff.mp hv
  obtain ⟨m', h1, h2, h3, h4⟩ := hG _ (px_lookup hl)
  rw [h1]
  exact ⟨rfl, h2, h3, h4⟩
theorem r_put {idx a : Nat} {v : Value} {kd j : Nat} {cis : List (Nat × Nat)} {rf : String} (hm : px_tab[M]? = some m) (hi : (px_mi m).lookup pc = some (.putfield idx, 3, (kd, j, cis, 0, rf))) (hf : (cis.all (fun q => match px_fty q.1 j with | some t => px_fit t v | none => false)) = true) :
    wp d M pc L (v :: .ref a :: st) w k Q ↔ px_op (px_pfd w a cis j v) (fun w' => wp d M (pc + 3) L st w' k Q) := by
  refine px_goO (S' := fun w' => (pc + 3, L, st, w', k)) hm hi ?_
  simp only [px_act]
  exact congrArg _ (if_pos hf)
end RW2
