/-! rows of the pure machine: reader -/
/-- AllSworn$Oracle.<init>()V -/
theorem S12 : (∀ (d : Nat) (v0 : Value) (w : px_H) (Q : Option Value → px_H → Prop), wc d 12 [v0] w Q ↔ wp d 12 0 [some v0] [] w 0 Q) ∧
  (∀ (d : Nat) (a : Nat) (w : px_H) (k : Nat) (Q : Option Value → px_H → Prop), wp d 12 0 [some (.ref a)] [] w k Q ↔ wp d 12 1 [some (.ref a)] [.ref a] w k Q) ∧
  (∀ (d : Nat) (l0 : Option Value) (a : Nat) (w : px_H) (k : Nat) (Q : Option Value → px_H → Prop), wp d 12 1 [l0] [.ref a] w k Q ↔ wp d 12 4 [l0] [] w k Q) ∧
  (∀ (d : Nat) (a : Nat) (w : px_H) (k : Nat) (Q : Option Value → px_H → Prop), wp d 12 4 [some (.ref a)] [] w k Q ↔ wp d 12 5 [some (.ref a)] [.ref a] w k Q) ∧
  (∀ (d : Nat) (l0 : Option Value) (s0 : Value)  (w : px_H) (k : Nat) (Q : Option Value → px_H → Prop) (hk : k + 1 ≤ 7), wp d 12 5 [l0] [s0] w k Q ↔ wp d 12 8 [l0] [.ref w.1, s0] (px_add w (.inr (.inr (5, [.null, .null, .null, .null, .int 0, .int 0, .int 0, .int 0, .int 0, .int 0])))) (k + 1) Q) ∧
  (∀ (d : Nat) (l0 : Option Value) (s0 s1 : Value)  (w : px_H) (k : Nat) (Q : Option Value → px_H → Prop), wp d 12 8 [l0] [s0, s1] w k Q ↔ wp d 12 9 [l0] [s0, s0, s1] w k Q) ∧
  (∀ (d : Nat) (l0 : Option Value) (s1 s2 : Value)  (b : Nat) (w : px_H) (k : Nat) (Q : Option Value → px_H → Prop) (hk : k + 4 ≤ 7), wp (d + 1) 12 9 [l0] [.ref b, s1, s2] w k Q ↔ wc d 41 [.ref b] w (fun r w' => wp (d + 1) 12 12 [l0] (r.toList ++ [s1, s2]) w' (k + 4) Q)) ∧
  (∀ (d : Nat) (l0 : Option Value) (a b : Nat) (w : px_H) (k : Nat) (Q : Option Value → px_H → Prop), wp d 12 12 [l0] [.ref b, .ref a] w k Q ↔ px_op (px_pfd w a [(2, 0)] 0 (.ref b)) (fun w' => wp d 12 15 [l0] [] w' k Q)) ∧
  (∀ (d : Nat) (a : Nat) (w : px_H) (k : Nat) (Q : Option Value → px_H → Prop), wp d 12 15 [some (.ref a)] [] w k Q ↔ wp d 12 16 [some (.ref a)] [.ref a] w k Q) ∧
  (∀ (d : Nat) (l0 : Option Value) (s0 : Value)  (w : px_H) (k : Nat) (Q : Option Value → px_H → Prop), wp d 12 16 [l0] [s0] w k Q ↔ wp d 12 17 [l0] [.int 4, s0] w k Q) ∧
  (∀ (d : Nat) (l0 : Option Value) (s1 : Value)  (w : px_H) (k : Nat) (Q : Option Value → px_H → Prop) (hk : k + 1 ≤ 7), wp d 12 17 [l0] [.int 4, s1] w k Q ↔ wp d 12 19 [l0] [.ref w.1, s1] (px_add w (.inl (.int, 4, fun _ => 0))) (k + 1) Q) ∧
  (∀ (d : Nat) (l0 : Option Value) (a b : Nat) (w : px_H) (k : Nat) (Q : Option Value → px_H → Prop), wp d 12 19 [l0] [.ref b, .ref a] w k Q ↔ px_op (px_pfd w a [(2, 0)] 1 (.ref b)) (fun w' => wp d 12 22 [l0] [] w' k Q)) ∧
  (∀ (d : Nat) (a : Nat) (w : px_H) (k : Nat) (Q : Option Value → px_H → Prop), wp d 12 22 [some (.ref a)] [] w k Q ↔ wp d 12 23 [some (.ref a)] [.ref a] w k Q) ∧
  (∀ (d : Nat) (l0 : Option Value) (s0 : Value)  (w : px_H) (k : Nat) (Q : Option Value → px_H → Prop), wp d 12 23 [l0] [s0] w k Q ↔ wp d 12 24 [l0] [.int 4, s0] w k Q) ∧
  (∀ (d : Nat) (l0 : Option Value) (s1 : Value)  (w : px_H) (k : Nat) (Q : Option Value → px_H → Prop) (hk : k + 1 ≤ 7), wp d 12 24 [l0] [.int 4, s1] w k Q ↔ wp d 12 26 [l0] [.ref w.1, s1] (px_add w (.inl (.int, 4, fun _ => 0))) (k + 1) Q) ∧
  (∀ (d : Nat) (l0 : Option Value) (a b : Nat) (w : px_H) (k : Nat) (Q : Option Value → px_H → Prop), wp d 12 26 [l0] [.ref b, .ref a] w k Q ↔ px_op (px_pfd w a [(2, 0)] 2 (.ref b)) (fun w' => wp d 12 29 [l0] [] w' k Q)) ∧
  (∀ (d : Nat) (a : Nat) (w : px_H) (k : Nat) (Q : Option Value → px_H → Prop), wp d 12 29 [some (.ref a)] [] w k Q ↔ wp d 12 30 [some (.ref a)] [.ref a] w k Q) ∧
  (∀ (d : Nat) (l0 : Option Value) (s0 : Value)  (w : px_H) (k : Nat) (Q : Option Value → px_H → Prop), wp d 12 30 [l0] [s0] w k Q ↔ wp d 12 32 [l0] [.int (-1000000), s0] w k Q) ∧
  (∀ (d : Nat) (l0 : Option Value) (x : Int32) (a : Nat) (w : px_H) (k : Nat) (Q : Option Value → px_H → Prop), wp d 12 32 [l0] [.int x, .ref a] w k Q ↔ px_op (px_pfd w a [(2, 0)] 3 (.int x)) (fun w' => wp d 12 35 [l0] [] w' k Q)) ∧
  (∀ (d : Nat) (a : Nat) (w : px_H) (k : Nat) (Q : Option Value → px_H → Prop), wp d 12 35 [some (.ref a)] [] w k Q ↔ wp d 12 36 [some (.ref a)] [.ref a] w k Q) ∧
  (∀ (d : Nat) (l0 : Option Value) (s0 : Value)  (w : px_H) (k : Nat) (Q : Option Value → px_H → Prop), wp d 12 36 [l0] [s0] w k Q ↔ wp d 12 38 [l0] [.int (-1000000), s0] w k Q) ∧
  (∀ (d : Nat) (l0 : Option Value) (x : Int32) (a : Nat) (w : px_H) (k : Nat) (Q : Option Value → px_H → Prop), wp d 12 38 [l0] [.int x, .ref a] w k Q ↔ px_op (px_pfd w a [(2, 0)] 4 (.int x)) (fun w' => wp d 12 41 [l0] [] w' k Q)) ∧
  (∀ (d : Nat) (l0 : Option Value)  (w : px_H) (k : Nat) (Q : Option Value → px_H → Prop), wp d 12 41 [l0] [] w k Q ↔ Q none w) := ⟨fun d v0 w Q => r_entry pt_12 (Nat.le_of_ble_eq_true rfl) rfl,
  fun d a w k Q => px_go (q := (.aload_n 0, 1, px_x0)) (S' := (1, [some (.ref a)], [.ref a], w, k)) pt_12 rfl rfl,
  fun d l0 a w k Q => px_go (q := (.invokespecial 3, 3, (36, 0, [], 0, ""))) (S' := (4, [l0], [], w, k)) pt_12 rfl rfl,
  fun d a w k Q => px_go (q := (.aload_n 0, 1, px_x0)) (S' := (5, [some (.ref a)], [.ref a], w, k)) pt_12 rfl rfl,
  fun d l0 s0 w k Q hk => r_new pt_12 rfl rfl nfl_5 hk,
  fun d l0 s0 s1 w k Q => px_go (q := (.dup, 1, px_x0)) (S' := (9, [l0], [s0, s0, s1], w, k)) pt_12 rfl rfl,
  fun d l0 s1 s2 b w k Q hk => r_call (q := (.invokespecial 11, 3, (31, 0, [(0, 41)], 0, ""))) pt_12 rfl rfl pt_41 (Nat.le_of_ble_eq_true rfl) hk rfl,
  fun d l0 a b w k Q => r_put pt_12 rfl (by simp only [List.all_cons, List.all_nil, ft_2_0, px_fit, px_isr, Bool.and_self]),
  fun d a w k Q => px_go (q := (.aload_n 0, 1, px_x0)) (S' := (16, [some (.ref a)], [.ref a], w, k)) pt_12 rfl rfl,
  fun d l0 s0 w k Q => r_iconst pt_12 rfl (by decide),
  fun d l0 s1 w k Q hk => r_newarr pt_12 rfl rfl ⟨by decide, by decide, by decide⟩ hk,
  fun d l0 a b w k Q => r_put pt_12 rfl (by simp only [List.all_cons, List.all_nil, ft_2_1, px_fit, px_isr, Bool.and_self]),
  fun d a w k Q => px_go (q := (.aload_n 0, 1, px_x0)) (S' := (23, [some (.ref a)], [.ref a], w, k)) pt_12 rfl rfl,
  fun d l0 s0 w k Q => r_iconst pt_12 rfl (by decide),
  fun d l0 s1 w k Q hk => r_newarr pt_12 rfl rfl ⟨by decide, by decide, by decide⟩ hk,
  fun d l0 a b w k Q => r_put pt_12 rfl (by simp only [List.all_cons, List.all_nil, ft_2_2, px_fit, px_isr, Bool.and_self]),
  fun d a w k Q => px_go (q := (.aload_n 0, 1, px_x0)) (S' := (30, [some (.ref a)], [.ref a], w, k)) pt_12 rfl rfl,
  fun d l0 s0 w k Q => px_go (q := (.ldc 25, 2, (0, 0, [], (-1000000), ""))) (S' := (32, [l0], [.int (-1000000), s0], w, k)) pt_12 rfl rfl,
  fun d l0 x a w k Q => r_put pt_12 rfl (by simp only [List.all_cons, List.all_nil, ft_2_3, px_fit, px_isr, Bool.and_self]),
  fun d a w k Q => px_go (q := (.aload_n 0, 1, px_x0)) (S' := (36, [some (.ref a)], [.ref a], w, k)) pt_12 rfl rfl,
  fun d l0 s0 w k Q => px_go (q := (.ldc 25, 2, (0, 0, [], (-1000000), ""))) (S' := (38, [l0], [.int (-1000000), s0], w, k)) pt_12 rfl rfl,
  fun d l0 x a w k Q => r_put pt_12 rfl (by simp only [List.all_cons, List.all_nil, ft_2_4, px_fit, px_isr, Bool.and_self]),
  fun d l0 w k Q => px_ret (q := (.return_, 1, px_x0)) pt_12 rfl rfl⟩
/-- AllSworn$Oracle.firstGap(LAllSworn$Realm;)I heads: [2] -/
theorem S13 : (∀ (d : Nat) (v0 v1 : Value) (w : px_H) (Q : Option Value → px_H → Prop), wc d 13 [v0, v1] w Q ↔ wp d 13 0 [some v0, some v1, none] [] w 0 Q) ∧
  (∀ (d : Nat) (l0 l1 l2 : Option Value)  (w : px_H) (Q : Option Value → px_H → Prop), wp d 13 0 [l0, l1, l2] [] w 0 Q ↔ wp d 13 1 [l0, l1, l2] [.int 0] w 0 Q) ∧
  (∀ (d : Nat) (l0 l1 l2 : Option Value) (x : Int32) (w : px_H) (Q : Option Value → px_H → Prop), wp d 13 1 [l0, l1, l2] [.int x] w 0 Q ↔ wp d 13 2 [l0, l1, some (.int x)] [] w 0 Q) ∧
  (∀ (d : Nat) (l0 l1 l2 : Option Value) (s0 : Value)  (w : px_H) (Q : Option Value → px_H → Prop), wp d 13 3 [l0, l1, l2] [s0] w 0 Q ↔ wp d 13 5 [l0, l1, l2] [.int 100, s0] w 0 Q) ∧
  (∀ (d : Nat) (l0 l1 l2 : Option Value) (x y : Int32) (w : px_H) (Q : Option Value → px_H → Prop), wp d 13 5 [l0, l1, l2] [.int y, .int x] w 0 Q ↔ if y < x then wp d 13 34 [l0, l1, l2] [] w 0 Q else wp d 13 8 [l0, l1, l2] [] w 0 Q) ∧
  (∀ (d : Nat) (l0 l2 : Option Value) (a : Nat) (w : px_H) (Q : Option Value → px_H → Prop), wp d 13 8 [l0, some (.ref a), l2] [] w 0 Q ↔ wp d 13 9 [l0, some (.ref a), l2] [.ref a] w 0 Q) ∧
  (∀ (d : Nat) (l0 l2 : Option Value)  (w : px_H) (Q : Option Value → px_H → Prop), wp d 13 8 [l0, some .null, l2] [] w 0 Q ↔ wp d 13 9 [l0, some .null, l2] [.null] w 0 Q) ∧
  (∀ (d : Nat) (l0 l2 : Option Value) (s0 : Value) (a : Nat) (w : px_H) (Q : Option Value → px_H → Prop), wp d 13 9 [l0, some (.ref a), l2] [s0] w 0 Q ↔ wp d 13 10 [l0, some (.ref a), l2] [.ref a, s0] w 0 Q) ∧
  (∀ (d : Nat) (l0 l2 : Option Value) (s0 : Value)  (w : px_H) (Q : Option Value → px_H → Prop), wp d 13 9 [l0, some .null, l2] [s0] w 0 Q ↔ wp d 13 10 [l0, some .null, l2] [.null, s0] w 0 Q) ∧
  (∀ (d : Nat) (l0 l1 l2 : Option Value) (s1 : Value) (a : Nat) (w : px_H) (Q : Option Value → px_H → Prop), wp d 13 10 [l0, l1, l2] [.ref a, s1] w 0 Q ↔ px_op (px_fld w a [(5, 0)] 8) (fun v => wp d 13 13 [l0, l1, l2] [v, s1] w 0 Q)) ∧
  (∀ (d : Nat) (l0 l1 : Option Value) (s0 s1 : Value) (x : Int32) (w : px_H) (Q : Option Value → px_H → Prop), wp d 13 13 [l0, l1, some (.int x)] [s0, s1] w 0 Q ↔ wp d 13 14 [l0, l1, some (.int x)] [.int x, s0, s1] w 0 Q) ∧
  (∀ (d : Nat) (l0 l1 l2 : Option Value) (s2 : Value) (x y : Int32) (w : px_H) (Q : Option Value → px_H → Prop), wp d 13 14 [l0, l1, l2] [.int y, .int x, s2] w 0 Q ↔ wp d 13 15 [l0, l1, l2] [.int (x + y), s2] w 0 Q) ∧
  (∀ (d : Nat) (l0 l1 l2 : Option Value) (v0 : Value) (b : Nat) (w : px_H) (Q : Option Value → px_H → Prop), wp (d + 1) 13 15 [l0, l1, l2] [v0, .ref b] w 0 Q ↔ px_op (px_tgt w b [(5, 59)]) (fun v => wc d v [.ref b, v0] w (fun r w' => wp (d + 1) 13 18 [l0, l1, l2] (r.toList ++ []) w' 0 Q))) ∧
  (∀ (d : Nat) (l0 l1 l2 : Option Value) (x : Int32) (w : px_H) (Q : Option Value → px_H → Prop), wp d 13 18 [l0, l1, l2] [.int x] w 0 Q ↔ if x = 0 then wp d 13 28 [l0, l1, l2] [] w 0 Q else wp d 13 21 [l0, l1, l2] [] w 0 Q) ∧
  (∀ (d : Nat) (l0 l2 : Option Value) (a : Nat) (w : px_H) (Q : Option Value → px_H → Prop), wp d 13 21 [l0, some (.ref a), l2] [] w 0 Q ↔ wp d 13 22 [l0, some (.ref a), l2] [.ref a] w 0 Q) ∧
  (∀ (d : Nat) (l0 l2 : Option Value)  (w : px_H) (Q : Option Value → px_H → Prop), wp d 13 21 [l0, some .null, l2] [] w 0 Q ↔ wp d 13 22 [l0, some .null, l2] [.null] w 0 Q) ∧
  (∀ (d : Nat) (l0 l1 l2 : Option Value) (a : Nat) (w : px_H) (Q : Option Value → px_H → Prop), wp d 13 22 [l0, l1, l2] [.ref a] w 0 Q ↔ px_op (px_fld w a [(5, 0)] 8) (fun v => wp d 13 25 [l0, l1, l2] [v] w 0 Q)) ∧
  (∀ (d : Nat) (l0 l1 : Option Value) (s0 : Value) (x : Int32) (w : px_H) (Q : Option Value → px_H → Prop), wp d 13 25 [l0, l1, some (.int x)] [s0] w 0 Q ↔ wp d 13 26 [l0, l1, some (.int x)] [.int x, s0] w 0 Q) ∧
  (∀ (d : Nat) (l0 l1 l2 : Option Value) (x y : Int32) (w : px_H) (Q : Option Value → px_H → Prop), wp d 13 26 [l0, l1, l2] [.int y, .int x] w 0 Q ↔ wp d 13 27 [l0, l1, l2] [.int (x + y)] w 0 Q) ∧
  (∀ (d : Nat) (l0 l1 l2 : Option Value) (x : Int32) (w : px_H) (Q : Option Value → px_H → Prop), wp d 13 27 [l0, l1, l2] [.int x] w 0 Q ↔ Q (some (.int x)) w) ∧
  (∀ (d : Nat) (l0 l1 : Option Value) (x : Int32) (w : px_H) (Q : Option Value → px_H → Prop), wp d 13 28 [l0, l1, some (.int x)] [] w 0 Q ↔ wp d 13 31 [l0, l1, some (.int (x + 1))] [] w 0 Q) ∧
  (∀ (d : Nat) (l0 l1 l2 : Option Value)  (w : px_H) (Q : Option Value → px_H → Prop), wp d 13 31 [l0, l1, l2] [] w 0 Q ↔ wp d 13 2 [l0, l1, l2] [] w 0 Q) ∧
  (∀ (d : Nat) (l0 l1 l2 : Option Value)  (w : px_H) (Q : Option Value → px_H → Prop), wp d 13 34 [l0, l1, l2] [] w 0 Q ↔ wp d 13 36 [l0, l1, l2] [.int (-1000000)] w 0 Q) ∧
  (∀ (d : Nat) (l0 l1 l2 : Option Value) (x : Int32) (w : px_H) (Q : Option Value → px_H → Prop), wp d 13 36 [l0, l1, l2] [.int x] w 0 Q ↔ Q (some (.int x)) w) := ⟨fun d v0 v1 w Q => r_entry pt_13 (Nat.le_of_ble_eq_true rfl) rfl,
  fun d l0 l1 l2 w Q => r_iconst pt_13 rfl (by decide),
  fun d l0 l1 l2 x w Q => px_go (q := (.istore_n 2, 1, px_x0)) (S' := (2, [l0, l1, some (.int x)], [], w, 0)) pt_13 rfl rfl,
  fun d l0 l1 l2 s0 w Q => r_bipush pt_13 rfl (by decide),
  fun d l0 l1 l2 x y w Q => r_icmp_gt pt_13 rfl rfl,
  fun d l0 l2 a w Q => px_go (q := (.aload_n 1, 1, px_x0)) (S' := (9, [l0, some (.ref a), l2], [.ref a], w, 0)) pt_13 rfl rfl,
  fun d l0 l2 w Q => px_go (q := (.aload_n 1, 1, px_x0)) (S' := (9, [l0, some .null, l2], [.null], w, 0)) pt_13 rfl rfl,
  fun d l0 l2 s0 a w Q => px_go (q := (.aload_n 1, 1, px_x0)) (S' := (10, [l0, some (.ref a), l2], [.ref a, s0], w, 0)) pt_13 rfl rfl,
  fun d l0 l2 s0 w Q => px_go (q := (.aload_n 1, 1, px_x0)) (S' := (10, [l0, some .null, l2], [.null, s0], w, 0)) pt_13 rfl rfl,
  fun d l0 l1 l2 s1 a w Q => px_goO (q := (.getfield 33, 3, (11, 8, [(5, 0)], 0, "AllSworn$Realm"))) (S' := fun v => (13, [l0, l1, l2], [v, s1], w, 0)) pt_13 rfl rfl,
  fun d l0 l1 s0 s1 x w Q => px_go (q := (.iload_n 2, 1, px_x0)) (S' := (14, [l0, l1, some (.int x)], [.int x, s0, s1], w, 0)) pt_13 rfl rfl,
  fun d l0 l1 l2 s2 x y w Q => px_go (q := (.iadd, 1, px_x0)) (S' := (15, [l0, l1, l2], [.int (x + y), s2], w, 0)) pt_13 rfl rfl,
  fun d l0 l1 l2 v0 b w Q => r_callV (q := (.invokevirtual 36, 3, (33, 1, [(5, 59)], 0, ""))) pt_13 rfl rfl (List.forall_mem_cons.mpr ⟨⟨_, pt_59, Nat.le_of_ble_eq_true rfl, (Nat.le_of_ble_eq_true rfl), rfl⟩, fun _ h => absurd h List.not_mem_nil⟩),
  fun d l0 l1 l2 x w Q => r_if_eq pt_13 rfl rfl,
  fun d l0 l2 a w Q => px_go (q := (.aload_n 1, 1, px_x0)) (S' := (22, [l0, some (.ref a), l2], [.ref a], w, 0)) pt_13 rfl rfl,
  fun d l0 l2 w Q => px_go (q := (.aload_n 1, 1, px_x0)) (S' := (22, [l0, some .null, l2], [.null], w, 0)) pt_13 rfl rfl,
  fun d l0 l1 l2 a w Q => px_goO (q := (.getfield 33, 3, (11, 8, [(5, 0)], 0, "AllSworn$Realm"))) (S' := fun v => (25, [l0, l1, l2], [v], w, 0)) pt_13 rfl rfl,
  fun d l0 l1 s0 x w Q => px_go (q := (.iload_n 2, 1, px_x0)) (S' := (26, [l0, l1, some (.int x)], [.int x, s0], w, 0)) pt_13 rfl rfl,
  fun d l0 l1 l2 x y w Q => px_go (q := (.iadd, 1, px_x0)) (S' := (27, [l0, l1, l2], [.int (x + y)], w, 0)) pt_13 rfl rfl,
  fun d l0 l1 l2 x w Q => px_ret (q := (.ireturn, 1, px_x0)) pt_13 rfl rfl,
  fun d l0 l1 x w Q => r_iinc pt_13 rfl rfl (by decide) rfl,
  fun d l0 l1 l2 w Q => r_goto pt_13 rfl rfl,
  fun d l0 l1 l2 w Q => px_go (q := (.ldc 25, 2, (0, 0, [], (-1000000), ""))) (S' := (36, [l0, l1, l2], [.int (-1000000)], w, 0)) pt_13 rfl rfl,
  fun d l0 l1 l2 x w Q => px_ret (q := (.ireturn, 1, px_x0)) pt_13 rfl rfl⟩
theorem H13_2 : ∀ (d : Nat) (l0 l1 : Option Value) (x : Int32) (w : px_H) (Q : Option Value → px_H → Prop), wp d 13 2 [l0, l1, some (.int x)] [] w 0 Q ↔ wp d 13 3 [l0, l1, some (.int x)] [.int x] w 0 Q := fun d l0 l1 x w Q => px_go (q := (.iload_n 2, 1, px_x0)) (S' := (3, [l0, l1, some (.int x)], [.int x], w, 0)) pt_13 rfl rfl
/-- AllSworn$Oracle.leastCover(LAllSworn$Realm;)I heads: [15] -/
theorem S14 : (∀ (d : Nat) (v0 v1 : Value) (w : px_H) (Q : Option Value → px_H → Prop), wc d 14 [v0, v1] w Q ↔ wp d 14 0 [some v0, some v1, none, none, none, none] [] w 0 Q) ∧
  (∀ (d : Nat) (l0 l2 l3 l4 l5 : Option Value) (a : Nat) (w : px_H) (Q : Option Value → px_H → Prop), wp d 14 0 [l0, some (.ref a), l2, l3, l4, l5] [] w 0 Q ↔ wp d 14 1 [l0, some (.ref a), l2, l3, l4, l5] [.ref a] w 0 Q) ∧
  (∀ (d : Nat) (l0 l2 l3 l4 l5 : Option Value)  (w : px_H) (Q : Option Value → px_H → Prop), wp d 14 0 [l0, some .null, l2, l3, l4, l5] [] w 0 Q ↔ wp d 14 1 [l0, some .null, l2, l3, l4, l5] [.null] w 0 Q) ∧
  (∀ (d : Nat) (l0 l2 l3 l4 l5 : Option Value) (s0 : Value) (a : Nat) (w : px_H) (Q : Option Value → px_H → Prop), wp d 14 1 [l0, some (.ref a), l2, l3, l4, l5] [s0] w 0 Q ↔ wp d 14 2 [l0, some (.ref a), l2, l3, l4, l5] [.ref a, s0] w 0 Q) ∧
  (∀ (d : Nat) (l0 l2 l3 l4 l5 : Option Value) (s0 : Value)  (w : px_H) (Q : Option Value → px_H → Prop), wp d 14 1 [l0, some .null, l2, l3, l4, l5] [s0] w 0 Q ↔ wp d 14 2 [l0, some .null, l2, l3, l4, l5] [.null, s0] w 0 Q) ∧
  (∀ (d : Nat) (l0 l1 l2 l3 l4 l5 : Option Value) (s1 : Value) (a : Nat) (w : px_H) (Q : Option Value → px_H → Prop), wp d 14 2 [l0, l1, l2, l3, l4, l5] [.ref a, s1] w 0 Q ↔ px_op (px_fld w a [(5, 0)] 8) (fun v => wp d 14 5 [l0, l1, l2, l3, l4, l5] [v, s1] w 0 Q)) ∧
  (∀ (d : Nat) (l0 l1 l2 l3 l4 l5 : Option Value) (v0 v1 : Value) (w : px_H) (Q : Option Value → px_H → Prop), wp (d + 1) 14 5 [l0, l1, l2, l3, l4, l5] [v1, v0] w 0 Q ↔ wc d 15 [v0, v1] w (fun r w' => wp (d + 1) 14 8 [l0, l1, l2, l3, l4, l5] (r.toList ++ []) w' 0 Q)) ∧
  (∀ (d : Nat) (l0 l1 l2 l3 l4 l5 : Option Value) (x : Int32) (w : px_H) (Q : Option Value → px_H → Prop), wp d 14 8 [l0, l1, l2, l3, l4, l5] [.int x] w 0 Q ↔ wp d 14 9 [l0, l1, some (.int x), l3, l4, l5] [] w 0 Q) ∧
  (∀ (d : Nat) (l0 l1 l2 l3 l4 l5 : Option Value)  (w : px_H) (Q : Option Value → px_H → Prop), wp d 14 9 [l0, l1, l2, l3, l4, l5] [] w 0 Q ↔ wp d 14 11 [l0, l1, l2, l3, l4, l5] [.int (-1000000)] w 0 Q) ∧
  (∀ (d : Nat) (l0 l1 l2 l3 l4 l5 : Option Value) (x : Int32) (w : px_H) (Q : Option Value → px_H → Prop), wp d 14 11 [l0, l1, l2, l3, l4, l5] [.int x] w 0 Q ↔ wp d 14 12 [l0, l1, l2, some (.int x), l4, l5] [] w 0 Q) ∧
  (∀ (d : Nat) (l0 l1 l2 l3 l4 l5 : Option Value)  (w : px_H) (Q : Option Value → px_H → Prop), wp d 14 12 [l0, l1, l2, l3, l4, l5] [] w 0 Q ↔ wp d 14 13 [l0, l1, l2, l3, l4, l5] [.int 0] w 0 Q) ∧
  (∀ (d : Nat) (l0 l1 l2 l3 l4 l5 : Option Value) (x : Int32) (w : px_H) (Q : Option Value → px_H → Prop), wp d 14 13 [l0, l1, l2, l3, l4, l5] [.int x] w 0 Q ↔ wp d 14 15 [l0, l1, l2, l3, some (.int x), l5] [] w 0 Q) ∧
  (∀ (d : Nat) (l0 l1 l2 l3 l4 l5 : Option Value) (s0 : Value)  (w : px_H) (Q : Option Value → px_H → Prop), wp d 14 17 [l0, l1, l2, l3, l4, l5] [s0] w 0 Q ↔ wp d 14 18 [l0, l1, l2, l3, l4, l5] [.int 1, s0] w 0 Q) ∧
  (∀ (d : Nat) (l0 l2 l3 l4 l5 : Option Value) (s0 s1 : Value) (a : Nat) (w : px_H) (Q : Option Value → px_H → Prop), wp d 14 18 [l0, some (.ref a), l2, l3, l4, l5] [s0, s1] w 0 Q ↔ wp d 14 19 [l0, some (.ref a), l2, l3, l4, l5] [.ref a, s0, s1] w 0 Q) ∧
  (∀ (d : Nat) (l0 l2 l3 l4 l5 : Option Value) (s0 s1 : Value)  (w : px_H) (Q : Option Value → px_H → Prop), wp d 14 18 [l0, some .null, l2, l3, l4, l5] [s0, s1] w 0 Q ↔ wp d 14 19 [l0, some .null, l2, l3, l4, l5] [.null, s0, s1] w 0 Q) ∧
  (∀ (d : Nat) (l0 l1 l2 l3 l4 l5 : Option Value) (s1 s2 : Value) (a : Nat) (w : px_H) (Q : Option Value → px_H → Prop), wp d 14 19 [l0, l1, l2, l3, l4, l5] [.ref a, s1, s2] w 0 Q ↔ px_op (px_fld w a [(5, 0)] 5) (fun v => wp d 14 22 [l0, l1, l2, l3, l4, l5] [v, s1, s2] w 0 Q)) ∧
  (∀ (d : Nat) (l0 l1 l2 l3 l4 l5 : Option Value) (s2 : Value) (x y : Int32) (w : px_H) (Q : Option Value → px_H → Prop), wp d 14 22 [l0, l1, l2, l3, l4, l5] [.int y, .int x, s2] w 0 Q ↔ wp d 14 23 [l0, l1, l2, l3, l4, l5] [.int (x <<< (y &&& 31)), s2] w 0 Q) ∧
  (∀ (d : Nat) (l0 l1 l2 l3 l4 l5 : Option Value) (x y : Int32) (w : px_H) (Q : Option Value → px_H → Prop), wp d 14 23 [l0, l1, l2, l3, l4, l5] [.int y, .int x] w 0 Q ↔ if y ≤ x then wp d 14 95 [l0, l1, l2, l3, l4, l5] [] w 0 Q else wp d 14 26 [l0, l1, l2, l3, l4, l5] [] w 0 Q) ∧
  (∀ (d : Nat) (l0 l1 l2 l4 l5 : Option Value) (x : Int32) (w : px_H) (Q : Option Value → px_H → Prop), wp d 14 26 [l0, l1, l2, some (.int x), l4, l5] [] w 0 Q ↔ wp d 14 27 [l0, l1, l2, some (.int x), l4, l5] [.int x] w 0 Q) ∧
  (∀ (d : Nat) (l0 l1 l2 l3 l4 l5 : Option Value) (s0 : Value)  (w : px_H) (Q : Option Value → px_H → Prop), wp d 14 27 [l0, l1, l2, l3, l4, l5] [s0] w 0 Q ↔ wp d 14 29 [l0, l1, l2, l3, l4, l5] [.int (-1000000), s0] w 0 Q) ∧
  (∀ (d : Nat) (l0 l1 l2 l3 l4 l5 : Option Value) (x y : Int32) (w : px_H) (Q : Option Value → px_H → Prop), wp d 14 29 [l0, l1, l2, l3, l4, l5] [.int y, .int x] w 0 Q ↔ if x = y then wp d 14 44 [l0, l1, l2, l3, l4, l5] [] w 0 Q else wp d 14 32 [l0, l1, l2, l3, l4, l5] [] w 0 Q) ∧
  (∀ (d : Nat) (l0 l1 l2 l3 l5 : Option Value) (x : Int32) (w : px_H) (Q : Option Value → px_H → Prop), wp d 14 32 [l0, l1, l2, l3, some (.int x), l5] [] w 0 Q ↔ wp d 14 34 [l0, l1, l2, l3, some (.int x), l5] [.int x] w 0 Q) ∧
  (∀ (d : Nat) (l0 l1 l2 l3 l4 l5 : Option Value) (v0 : Value) (w : px_H) (Q : Option Value → px_H → Prop), wp (d + 1) 14 34 [l0, l1, l2, l3, l4, l5] [v0] w 0 Q ↔ wc d 222 [v0] w (fun r w' => wp (d + 1) 14 37 [l0, l1, l2, l3, l4, l5] (r.toList ++ []) w' 0 Q)) ∧
  (∀ (d : Nat) (l0 l1 l2 l4 l5 : Option Value) (s0 : Value) (x : Int32) (w : px_H) (Q : Option Value → px_H → Prop), wp d 14 37 [l0, l1, l2, some (.int x), l4, l5] [s0] w 0 Q ↔ wp d 14 38 [l0, l1, l2, some (.int x), l4, l5] [.int x, s0] w 0 Q) ∧
  (∀ (d : Nat) (l0 l1 l2 l3 l4 l5 : Option Value) (s1 : Value) (v0 : Value) (w : px_H) (Q : Option Value → px_H → Prop), wp (d + 1) 14 38 [l0, l1, l2, l3, l4, l5] [v0, s1] w 0 Q ↔ wc d 222 [v0] w (fun r w' => wp (d + 1) 14 41 [l0, l1, l2, l3, l4, l5] (r.toList ++ [s1]) w' 0 Q)) ∧
  (∀ (d : Nat) (l0 l1 l2 l3 l4 l5 : Option Value) (x y : Int32) (w : px_H) (Q : Option Value → px_H → Prop), wp d 14 41 [l0, l1, l2, l3, l4, l5] [.int y, .int x] w 0 Q ↔ if y ≤ x then wp d 14 48 [l0, l1, l2, l3, l4, l5] [] w 0 Q else wp d 14 44 [l0, l1, l2, l3, l4, l5] [] w 0 Q) ∧
  (∀ (d : Nat) (l0 l1 l2 l3 l4 l5 : Option Value)  (w : px_H) (Q : Option Value → px_H → Prop), wp d 14 44 [l0, l1, l2, l3, l4, l5] [] w 0 Q ↔ wp d 14 45 [l0, l1, l2, l3, l4, l5] [.int 1] w 0 Q) ∧
  (∀ (d : Nat) (l0 l1 l2 l3 l4 l5 : Option Value) (s0 : Value)  (w : px_H) (Q : Option Value → px_H → Prop), wp d 14 45 [l0, l1, l2, l3, l4, l5] [s0] w 0 Q ↔ wp d 14 49 [l0, l1, l2, l3, l4, l5] [s0] w 0 Q) ∧
  (∀ (d : Nat) (l0 l1 l2 l3 l4 l5 : Option Value)  (w : px_H) (Q : Option Value → px_H → Prop), wp d 14 48 [l0, l1, l2, l3, l4, l5] [] w 0 Q ↔ wp d 14 49 [l0, l1, l2, l3, l4, l5] [.int 0] w 0 Q) ∧
  (∀ (d : Nat) (l0 l1 l2 l3 l4 l5 : Option Value) (x : Int32) (w : px_H) (Q : Option Value → px_H → Prop), wp d 14 49 [l0, l1, l2, l3, l4, l5] [.int x] w 0 Q ↔ wp d 14 51 [l0, l1, l2, l3, l4, some (.int x)] [] w 0 Q) ∧
  (∀ (d : Nat) (l0 l1 l2 l3 l4 : Option Value) (x : Int32) (w : px_H) (Q : Option Value → px_H → Prop), wp d 14 51 [l0, l1, l2, l3, l4, some (.int x)] [] w 0 Q ↔ wp d 14 53 [l0, l1, l2, l3, l4, some (.int x)] [.int x] w 0 Q) ∧
  (∀ (d : Nat) (l0 l1 l2 l3 l4 l5 : Option Value) (x : Int32) (w : px_H) (Q : Option Value → px_H → Prop), wp d 14 53 [l0, l1, l2, l3, l4, l5] [.int x] w 0 Q ↔ if x = 0 then wp d 14 89 [l0, l1, l2, l3, l4, l5] [] w 0 Q else wp d 14 56 [l0, l1, l2, l3, l4, l5] [] w 0 Q) ∧
  (∀ (d : Nat) (l0 l1 l2 l3 l5 : Option Value) (x : Int32) (w : px_H) (Q : Option Value → px_H → Prop), wp d 14 56 [l0, l1, l2, l3, some (.int x), l5] [] w 0 Q ↔ wp d 14 58 [l0, l1, l2, l3, some (.int x), l5] [.int x] w 0 Q) ∧
  (∀ (d : Nat) (l0 l1 l3 l4 l5 : Option Value) (s0 : Value) (x : Int32) (w : px_H) (Q : Option Value → px_H → Prop), wp d 14 58 [l0, l1, some (.int x), l3, l4, l5] [s0] w 0 Q ↔ wp d 14 59 [l0, l1, some (.int x), l3, l4, l5] [.int x, s0] w 0 Q) ∧
  (∀ (d : Nat) (l0 l1 l2 l3 l4 l5 : Option Value) (s0 s1 : Value)  (w : px_H) (Q : Option Value → px_H → Prop), wp d 14 59 [l0, l1, l2, l3, l4, l5] [s0, s1] w 0 Q ↔ wp d 14 60 [l0, l1, l2, l3, l4, l5] [.int (-1), s0, s1] w 0 Q) ∧
  (∀ (d : Nat) (l0 l1 l2 l3 l4 l5 : Option Value) (s2 : Value) (x y : Int32) (w : px_H) (Q : Option Value → px_H → Prop), wp d 14 60 [l0, l1, l2, l3, l4, l5] [.int y, .int x, s2] w 0 Q ↔ wp d 14 61 [l0, l1, l2, l3, l4, l5] [.int (x ^^^ y), s2] w 0 Q) ∧
  (∀ (d : Nat) (l0 l1 l2 l3 l4 l5 : Option Value) (x y : Int32) (w : px_H) (Q : Option Value → px_H → Prop), wp d 14 61 [l0, l1, l2, l3, l4, l5] [.int y, .int x] w 0 Q ↔ wp d 14 62 [l0, l1, l2, l3, l4, l5] [.int (x &&& y)] w 0 Q) ∧
  (∀ (d : Nat) (l0 l1 l2 l3 l4 l5 : Option Value) (x : Int32) (w : px_H) (Q : Option Value → px_H → Prop), wp d 14 62 [l0, l1, l2, l3, l4, l5] [.int x] w 0 Q ↔ if x = 0 then wp d 14 65 [l0, l1, l2, l3, l4, l5] [] w 0 Q else wp d 14 89 [l0, l1, l2, l3, l4, l5] [] w 0 Q) ∧
  (∀ (d : Nat) (l0 l2 l3 l4 l5 : Option Value) (a : Nat) (w : px_H) (Q : Option Value → px_H → Prop), wp d 14 65 [l0, some (.ref a), l2, l3, l4, l5] [] w 0 Q ↔ wp d 14 66 [l0, some (.ref a), l2, l3, l4, l5] [.ref a] w 0 Q) ∧
  (∀ (d : Nat) (l0 l2 l3 l4 l5 : Option Value)  (w : px_H) (Q : Option Value → px_H → Prop), wp d 14 65 [l0, some .null, l2, l3, l4, l5] [] w 0 Q ↔ wp d 14 66 [l0, some .null, l2, l3, l4, l5] [.null] w 0 Q) ∧
  (∀ (d : Nat) (l0 l2 l3 l4 l5 : Option Value) (s0 : Value) (a : Nat) (w : px_H) (Q : Option Value → px_H → Prop), wp d 14 66 [l0, some (.ref a), l2, l3, l4, l5] [s0] w 0 Q ↔ wp d 14 67 [l0, some (.ref a), l2, l3, l4, l5] [.ref a, s0] w 0 Q) ∧
  (∀ (d : Nat) (l0 l2 l3 l4 l5 : Option Value) (s0 : Value)  (w : px_H) (Q : Option Value → px_H → Prop), wp d 14 66 [l0, some .null, l2, l3, l4, l5] [s0] w 0 Q ↔ wp d 14 67 [l0, some .null, l2, l3, l4, l5] [.null, s0] w 0 Q) ∧
  (∀ (d : Nat) (l0 l2 l3 l4 l5 : Option Value) (s0 s1 : Value) (a : Nat) (w : px_H) (Q : Option Value → px_H → Prop), wp d 14 67 [l0, some (.ref a), l2, l3, l4, l5] [s0, s1] w 0 Q ↔ wp d 14 68 [l0, some (.ref a), l2, l3, l4, l5] [.ref a, s0, s1] w 0 Q) ∧
  (∀ (d : Nat) (l0 l2 l3 l4 l5 : Option Value) (s0 s1 : Value)  (w : px_H) (Q : Option Value → px_H → Prop), wp d 14 67 [l0, some .null, l2, l3, l4, l5] [s0, s1] w 0 Q ↔ wp d 14 68 [l0, some .null, l2, l3, l4, l5] [.null, s0, s1] w 0 Q) ∧
  (∀ (d : Nat) (l0 l1 l2 l3 l4 l5 : Option Value) (s1 s2 : Value) (a : Nat) (w : px_H) (Q : Option Value → px_H → Prop), wp d 14 68 [l0, l1, l2, l3, l4, l5] [.ref a, s1, s2] w 0 Q ↔ px_op (px_fld w a [(5, 0)] 8) (fun v => wp d 14 71 [l0, l1, l2, l3, l4, l5] [v, s1, s2] w 0 Q)) ∧
  (∀ (d : Nat) (l0 l2 l3 l4 l5 : Option Value) (s0 s1 s2 : Value) (a : Nat) (w : px_H) (Q : Option Value → px_H → Prop), wp d 14 71 [l0, some (.ref a), l2, l3, l4, l5] [s0, s1, s2] w 0 Q ↔ wp d 14 72 [l0, some (.ref a), l2, l3, l4, l5] [.ref a, s0, s1, s2] w 0 Q) ∧
  (∀ (d : Nat) (l0 l2 l3 l4 l5 : Option Value) (s0 s1 s2 : Value)  (w : px_H) (Q : Option Value → px_H → Prop), wp d 14 71 [l0, some .null, l2, l3, l4, l5] [s0, s1, s2] w 0 Q ↔ wp d 14 72 [l0, some .null, l2, l3, l4, l5] [.null, s0, s1, s2] w 0 Q) ∧
  (∀ (d : Nat) (l0 l1 l2 l3 l4 l5 : Option Value) (s1 s2 s3 : Value) (a : Nat) (w : px_H) (Q : Option Value → px_H → Prop), wp d 14 72 [l0, l1, l2, l3, l4, l5] [.ref a, s1, s2, s3] w 0 Q ↔ px_op (px_fld w a [(5, 0)] 4) (fun v => wp d 14 75 [l0, l1, l2, l3, l4, l5] [v, s1, s2, s3] w 0 Q)) ∧
  (∀ (d : Nat) (l0 l1 l2 l3 l5 : Option Value) (s0 s1 s2 s3 : Value) (x : Int32) (w : px_H) (Q : Option Value → px_H → Prop), wp d 14 75 [l0, l1, l2, l3, some (.int x), l5] [s0, s1, s2, s3] w 0 Q ↔ wp d 14 77 [l0, l1, l2, l3, some (.int x), l5] [.int x, s0, s1, s2, s3] w 0 Q) ∧
  (∀ (d : Nat) (l0 l1 l2 l3 l4 l5 : Option Value) (s4 : Value) (v0 v1 v2 : Value) (b : Nat) (w : px_H) (Q : Option Value → px_H → Prop), wp (d + 1) 14 77 [l0, l1, l2, l3, l4, l5] [v2, v1, v0, .ref b, s4] w 0 Q ↔ px_op (px_tgt w b [(5, 58)]) (fun v => wc d v [.ref b, v0, v1, v2] w (fun r w' => wp (d + 1) 14 80 [l0, l1, l2, l3, l4, l5] (r.toList ++ [s4]) w' 0 Q))) ∧
  (∀ (d : Nat) (l0 l1 l2 l3 l4 l5 : Option Value) (v0 : Value) (b : Nat) (w : px_H) (Q : Option Value → px_H → Prop), wp (d + 1) 14 80 [l0, l1, l2, l3, l4, l5] [v0, .ref b] w 0 Q ↔ px_op (px_tgt w b [(5, 60)]) (fun v => wc d v [.ref b, v0] w (fun r w' => wp (d + 1) 14 83 [l0, l1, l2, l3, l4, l5] (r.toList ++ []) w' 0 Q))) ∧
  (∀ (d : Nat) (l0 l1 l2 l3 l4 l5 : Option Value) (x : Int32) (w : px_H) (Q : Option Value → px_H → Prop), wp d 14 83 [l0, l1, l2, l3, l4, l5] [.int x] w 0 Q ↔ if x = 0 then wp d 14 86 [l0, l1, l2, l3, l4, l5] [] w 0 Q else wp d 14 89 [l0, l1, l2, l3, l4, l5] [] w 0 Q) ∧
  (∀ (d : Nat) (l0 l1 l2 l3 l5 : Option Value) (x : Int32) (w : px_H) (Q : Option Value → px_H → Prop), wp d 14 86 [l0, l1, l2, l3, some (.int x), l5] [] w 0 Q ↔ wp d 14 88 [l0, l1, l2, l3, some (.int x), l5] [.int x] w 0 Q) ∧
  (∀ (d : Nat) (l0 l1 l2 l3 l4 l5 : Option Value) (x : Int32) (w : px_H) (Q : Option Value → px_H → Prop), wp d 14 88 [l0, l1, l2, l3, l4, l5] [.int x] w 0 Q ↔ wp d 14 89 [l0, l1, l2, some (.int x), l4, l5] [] w 0 Q) ∧
  (∀ (d : Nat) (l0 l1 l2 l3 l5 : Option Value) (x : Int32) (w : px_H) (Q : Option Value → px_H → Prop), wp d 14 89 [l0, l1, l2, l3, some (.int x), l5] [] w 0 Q ↔ wp d 14 92 [l0, l1, l2, l3, some (.int (x + 1)), l5] [] w 0 Q) ∧
  (∀ (d : Nat) (l0 l1 l2 l3 l4 l5 : Option Value)  (w : px_H) (Q : Option Value → px_H → Prop), wp d 14 92 [l0, l1, l2, l3, l4, l5] [] w 0 Q ↔ wp d 14 15 [l0, l1, l2, l3, l4, l5] [] w 0 Q) ∧
  (∀ (d : Nat) (l0 l1 l2 l4 l5 : Option Value) (x : Int32) (w : px_H) (Q : Option Value → px_H → Prop), wp d 14 95 [l0, l1, l2, some (.int x), l4, l5] [] w 0 Q ↔ wp d 14 96 [l0, l1, l2, some (.int x), l4, l5] [.int x] w 0 Q) ∧
  (∀ (d : Nat) (l0 l1 l2 l3 l4 l5 : Option Value) (x : Int32) (w : px_H) (Q : Option Value → px_H → Prop), wp d 14 96 [l0, l1, l2, l3, l4, l5] [.int x] w 0 Q ↔ Q (some (.int x)) w) := ⟨fun d v0 v1 w Q => r_entry pt_14 (Nat.le_of_ble_eq_true rfl) rfl,
  fun d l0 l2 l3 l4 l5 a w Q => px_go (q := (.aload_n 1, 1, px_x0)) (S' := (1, [l0, some (.ref a), l2, l3, l4, l5], [.ref a], w, 0)) pt_14 rfl rfl,
  fun d l0 l2 l3 l4 l5 w Q => px_go (q := (.aload_n 1, 1, px_x0)) (S' := (1, [l0, some .null, l2, l3, l4, l5], [.null], w, 0)) pt_14 rfl rfl,
  fun d l0 l2 l3 l4 l5 s0 a w Q => px_go (q := (.aload_n 1, 1, px_x0)) (S' := (2, [l0, some (.ref a), l2, l3, l4, l5], [.ref a, s0], w, 0)) pt_14 rfl rfl,
  fun d l0 l2 l3 l4 l5 s0 w Q => px_go (q := (.aload_n 1, 1, px_x0)) (S' := (2, [l0, some .null, l2, l3, l4, l5], [.null, s0], w, 0)) pt_14 rfl rfl,
  fun d l0 l1 l2 l3 l4 l5 s1 a w Q => px_goO (q := (.getfield 33, 3, (11, 8, [(5, 0)], 0, "AllSworn$Realm"))) (S' := fun v => (5, [l0, l1, l2, l3, l4, l5], [v, s1], w, 0)) pt_14 rfl rfl,
  fun d l0 l1 l2 l3 l4 l5 v0 v1 w Q => r_call (q := (.invokestatic 40, 3, (30, 2, [(0, 15)], 0, ""))) pt_14 rfl rfl pt_15 (Nat.le_of_ble_eq_true rfl) (Nat.le_of_ble_eq_true rfl) rfl,
  fun d l0 l1 l2 l3 l4 l5 x w Q => px_go (q := (.istore_n 2, 1, px_x0)) (S' := (9, [l0, l1, some (.int x), l3, l4, l5], [], w, 0)) pt_14 rfl rfl,
  fun d l0 l1 l2 l3 l4 l5 w Q => px_go (q := (.ldc 25, 2, (0, 0, [], (-1000000), ""))) (S' := (11, [l0, l1, l2, l3, l4, l5], [.int (-1000000)], w, 0)) pt_14 rfl rfl,
  fun d l0 l1 l2 l3 l4 l5 x w Q => px_go (q := (.istore_n 3, 1, px_x0)) (S' := (12, [l0, l1, l2, some (.int x), l4, l5], [], w, 0)) pt_14 rfl rfl,
  fun d l0 l1 l2 l3 l4 l5 w Q => r_iconst pt_14 rfl (by decide),
  fun d l0 l1 l2 l3 l4 l5 x w Q => px_go (q := (.istore 4, 2, px_x0)) (S' := (15, [l0, l1, l2, l3, some (.int x), l5], [], w, 0)) pt_14 rfl rfl,
  fun d l0 l1 l2 l3 l4 l5 s0 w Q => r_iconst pt_14 rfl (by decide),
  fun d l0 l2 l3 l4 l5 s0 s1 a w Q => px_go (q := (.aload_n 1, 1, px_x0)) (S' := (19, [l0, some (.ref a), l2, l3, l4, l5], [.ref a, s0, s1], w, 0)) pt_14 rfl rfl,
  fun d l0 l2 l3 l4 l5 s0 s1 w Q => px_go (q := (.aload_n 1, 1, px_x0)) (S' := (19, [l0, some .null, l2, l3, l4, l5], [.null, s0, s1], w, 0)) pt_14 rfl rfl,
  fun d l0 l1 l2 l3 l4 l5 s1 s2 a w Q => px_goO (q := (.getfield 44, 3, (11, 5, [(5, 0)], 0, "AllSworn$Realm"))) (S' := fun v => (22, [l0, l1, l2, l3, l4, l5], [v, s1, s2], w, 0)) pt_14 rfl rfl,
  fun d l0 l1 l2 l3 l4 l5 s2 x y w Q => px_go (q := (.ishl, 1, px_x0)) (S' := (23, [l0, l1, l2, l3, l4, l5], [.int (x <<< (y &&& 31)), s2], w, 0)) pt_14 rfl rfl,
  fun d l0 l1 l2 l3 l4 l5 x y w Q => r_icmp_ge pt_14 rfl rfl,
  fun d l0 l1 l2 l4 l5 x w Q => px_go (q := (.iload_n 3, 1, px_x0)) (S' := (27, [l0, l1, l2, some (.int x), l4, l5], [.int x], w, 0)) pt_14 rfl rfl,
  fun d l0 l1 l2 l3 l4 l5 s0 w Q => px_go (q := (.ldc 25, 2, (0, 0, [], (-1000000), ""))) (S' := (29, [l0, l1, l2, l3, l4, l5], [.int (-1000000), s0], w, 0)) pt_14 rfl rfl,
  fun d l0 l1 l2 l3 l4 l5 x y w Q => r_icmp_eq pt_14 rfl rfl,
  fun d l0 l1 l2 l3 l5 x w Q => px_go (q := (.iload 4, 2, px_x0)) (S' := (34, [l0, l1, l2, l3, some (.int x), l5], [.int x], w, 0)) pt_14 rfl rfl,
  fun d l0 l1 l2 l3 l4 l5 v0 w Q => r_call (q := (.invokestatic 47, 3, (30, 1, [(0, 222)], 0, ""))) pt_14 rfl rfl pt_222 (Nat.le_of_ble_eq_true rfl) (Nat.le_of_ble_eq_true rfl) rfl,
  fun d l0 l1 l2 l4 l5 s0 x w Q => px_go (q := (.iload_n 3, 1, px_x0)) (S' := (38, [l0, l1, l2, some (.int x), l4, l5], [.int x, s0], w, 0)) pt_14 rfl rfl,
  fun d l0 l1 l2 l3 l4 l5 s1 v0 w Q => r_call (q := (.invokestatic 47, 3, (30, 1, [(0, 222)], 0, ""))) pt_14 rfl rfl pt_222 (Nat.le_of_ble_eq_true rfl) (Nat.le_of_ble_eq_true rfl) rfl,
  fun d l0 l1 l2 l3 l4 l5 x y w Q => r_icmp_ge pt_14 rfl rfl,
  fun d l0 l1 l2 l3 l4 l5 w Q => r_iconst pt_14 rfl (by decide),
  fun d l0 l1 l2 l3 l4 l5 s0 w Q => r_goto pt_14 rfl rfl,
  fun d l0 l1 l2 l3 l4 l5 w Q => r_iconst pt_14 rfl (by decide),
  fun d l0 l1 l2 l3 l4 l5 x w Q => px_go (q := (.istore 5, 2, px_x0)) (S' := (51, [l0, l1, l2, l3, l4, some (.int x)], [], w, 0)) pt_14 rfl rfl,
  fun d l0 l1 l2 l3 l4 x w Q => px_go (q := (.iload 5, 2, px_x0)) (S' := (53, [l0, l1, l2, l3, l4, some (.int x)], [.int x], w, 0)) pt_14 rfl rfl,
  fun d l0 l1 l2 l3 l4 l5 x w Q => r_if_eq pt_14 rfl rfl,
  fun d l0 l1 l2 l3 l5 x w Q => px_go (q := (.iload 4, 2, px_x0)) (S' := (58, [l0, l1, l2, l3, some (.int x), l5], [.int x], w, 0)) pt_14 rfl rfl,
  fun d l0 l1 l3 l4 l5 s0 x w Q => px_go (q := (.iload_n 2, 1, px_x0)) (S' := (59, [l0, l1, some (.int x), l3, l4, l5], [.int x, s0], w, 0)) pt_14 rfl rfl,
  fun d l0 l1 l2 l3 l4 l5 s0 s1 w Q => r_iconst pt_14 rfl (by decide),
  fun d l0 l1 l2 l3 l4 l5 s2 x y w Q => px_go (q := (.ixor, 1, px_x0)) (S' := (61, [l0, l1, l2, l3, l4, l5], [.int (x ^^^ y), s2], w, 0)) pt_14 rfl rfl,
  fun d l0 l1 l2 l3 l4 l5 x y w Q => px_go (q := (.iand, 1, px_x0)) (S' := (62, [l0, l1, l2, l3, l4, l5], [.int (x &&& y)], w, 0)) pt_14 rfl rfl,
  fun d l0 l1 l2 l3 l4 l5 x w Q => r_if_ne pt_14 rfl rfl,
  fun d l0 l2 l3 l4 l5 a w Q => px_go (q := (.aload_n 1, 1, px_x0)) (S' := (66, [l0, some (.ref a), l2, l3, l4, l5], [.ref a], w, 0)) pt_14 rfl rfl,
  fun d l0 l2 l3 l4 l5 w Q => px_go (q := (.aload_n 1, 1, px_x0)) (S' := (66, [l0, some .null, l2, l3, l4, l5], [.null], w, 0)) pt_14 rfl rfl,
  fun d l0 l2 l3 l4 l5 s0 a w Q => px_go (q := (.aload_n 1, 1, px_x0)) (S' := (67, [l0, some (.ref a), l2, l3, l4, l5], [.ref a, s0], w, 0)) pt_14 rfl rfl,
  fun d l0 l2 l3 l4 l5 s0 w Q => px_go (q := (.aload_n 1, 1, px_x0)) (S' := (67, [l0, some .null, l2, l3, l4, l5], [.null, s0], w, 0)) pt_14 rfl rfl,
  fun d l0 l2 l3 l4 l5 s0 s1 a w Q => px_go (q := (.aload_n 1, 1, px_x0)) (S' := (68, [l0, some (.ref a), l2, l3, l4, l5], [.ref a, s0, s1], w, 0)) pt_14 rfl rfl,
  fun d l0 l2 l3 l4 l5 s0 s1 w Q => px_go (q := (.aload_n 1, 1, px_x0)) (S' := (68, [l0, some .null, l2, l3, l4, l5], [.null, s0, s1], w, 0)) pt_14 rfl rfl,
  fun d l0 l1 l2 l3 l4 l5 s1 s2 a w Q => px_goO (q := (.getfield 33, 3, (11, 8, [(5, 0)], 0, "AllSworn$Realm"))) (S' := fun v => (71, [l0, l1, l2, l3, l4, l5], [v, s1, s2], w, 0)) pt_14 rfl rfl,
  fun d l0 l2 l3 l4 l5 s0 s1 s2 a w Q => px_go (q := (.aload_n 1, 1, px_x0)) (S' := (72, [l0, some (.ref a), l2, l3, l4, l5], [.ref a, s0, s1, s2], w, 0)) pt_14 rfl rfl,
  fun d l0 l2 l3 l4 l5 s0 s1 s2 w Q => px_go (q := (.aload_n 1, 1, px_x0)) (S' := (72, [l0, some .null, l2, l3, l4, l5], [.null, s0, s1, s2], w, 0)) pt_14 rfl rfl,
  fun d l0 l1 l2 l3 l4 l5 s1 s2 s3 a w Q => px_goO (q := (.getfield 52, 3, (11, 4, [(5, 0)], 0, "AllSworn$Realm"))) (S' := fun v => (75, [l0, l1, l2, l3, l4, l5], [v, s1, s2, s3], w, 0)) pt_14 rfl rfl,
  fun d l0 l1 l2 l3 l5 s0 s1 s2 s3 x w Q => px_go (q := (.iload 4, 2, px_x0)) (S' := (77, [l0, l1, l2, l3, some (.int x), l5], [.int x, s0, s1, s2, s3], w, 0)) pt_14 rfl rfl,
  fun d l0 l1 l2 l3 l4 l5 s4 v0 v1 v2 b w Q => r_callV (q := (.invokevirtual 55, 3, (33, 3, [(5, 58)], 0, ""))) pt_14 rfl rfl (List.forall_mem_cons.mpr ⟨⟨_, pt_58, Nat.le_of_ble_eq_true rfl, (Nat.le_of_ble_eq_true rfl), rfl⟩, fun _ h => absurd h List.not_mem_nil⟩),
  fun d l0 l1 l2 l3 l4 l5 v0 b w Q => r_callV (q := (.invokevirtual 59, 3, (33, 1, [(5, 60)], 0, ""))) pt_14 rfl rfl (List.forall_mem_cons.mpr ⟨⟨_, pt_60, Nat.le_of_ble_eq_true rfl, (Nat.le_of_ble_eq_true rfl), rfl⟩, fun _ h => absurd h List.not_mem_nil⟩),
  fun d l0 l1 l2 l3 l4 l5 x w Q => r_if_ne pt_14 rfl rfl,
  fun d l0 l1 l2 l3 l5 x w Q => px_go (q := (.iload 4, 2, px_x0)) (S' := (88, [l0, l1, l2, l3, some (.int x), l5], [.int x], w, 0)) pt_14 rfl rfl,
  fun d l0 l1 l2 l3 l4 l5 x w Q => px_go (q := (.istore_n 3, 1, px_x0)) (S' := (89, [l0, l1, l2, some (.int x), l4, l5], [], w, 0)) pt_14 rfl rfl,
  fun d l0 l1 l2 l3 l5 x w Q => r_iinc pt_14 rfl rfl (by decide) rfl,
  fun d l0 l1 l2 l3 l4 l5 w Q => r_goto pt_14 rfl rfl,
  fun d l0 l1 l2 l4 l5 x w Q => px_go (q := (.iload_n 3, 1, px_x0)) (S' := (96, [l0, l1, l2, some (.int x), l4, l5], [.int x], w, 0)) pt_14 rfl rfl,
  fun d l0 l1 l2 l3 l4 l5 x w Q => px_ret (q := (.ireturn, 1, px_x0)) pt_14 rfl rfl⟩
theorem H14_15 : ∀ (d : Nat) (l0 l1 l2 l3 l5 : Option Value) (x : Int32) (w : px_H) (Q : Option Value → px_H → Prop), wp d 14 15 [l0, l1, l2, l3, some (.int x), l5] [] w 0 Q ↔ wp d 14 17 [l0, l1, l2, l3, some (.int x), l5] [.int x] w 0 Q := fun d l0 l1 l2 l3 l5 x w Q => px_go (q := (.iload 4, 2, px_x0)) (S' := (17, [l0, l1, l2, l3, some (.int x), l5], [.int x], w, 0)) pt_14 rfl rfl
/-- AllSworn$Oracle.willingOn(LAllSworn$Realm;I)I heads: [4] -/
theorem S15 : (∀ (d : Nat) (v0 v1 : Value) (w : px_H) (Q : Option Value → px_H → Prop), wc d 15 [v0, v1] w Q ↔ wp d 15 0 [some v0, some v1, none, none, none] [] w 0 Q) ∧
  (∀ (d : Nat) (l0 l1 l2 l3 l4 : Option Value)  (w : px_H) (Q : Option Value → px_H → Prop), wp d 15 0 [l0, l1, l2, l3, l4] [] w 0 Q ↔ wp d 15 1 [l0, l1, l2, l3, l4] [.int 0] w 0 Q) ∧
  (∀ (d : Nat) (l0 l1 l2 l3 l4 : Option Value) (x : Int32) (w : px_H) (Q : Option Value → px_H → Prop), wp d 15 1 [l0, l1, l2, l3, l4] [.int x] w 0 Q ↔ wp d 15 2 [l0, l1, some (.int x), l3, l4] [] w 0 Q) ∧
  (∀ (d : Nat) (l0 l1 l2 l3 l4 : Option Value)  (w : px_H) (Q : Option Value → px_H → Prop), wp d 15 2 [l0, l1, l2, l3, l4] [] w 0 Q ↔ wp d 15 3 [l0, l1, l2, l3, l4] [.int 0] w 0 Q) ∧
  (∀ (d : Nat) (l0 l1 l2 l3 l4 : Option Value) (x : Int32) (w : px_H) (Q : Option Value → px_H → Prop), wp d 15 3 [l0, l1, l2, l3, l4] [.int x] w 0 Q ↔ wp d 15 4 [l0, l1, l2, some (.int x), l4] [] w 0 Q) ∧
  (∀ (d : Nat) (l1 l2 l3 l4 : Option Value) (s0 : Value) (a : Nat) (w : px_H) (Q : Option Value → px_H → Prop), wp d 15 5 [some (.ref a), l1, l2, l3, l4] [s0] w 0 Q ↔ wp d 15 6 [some (.ref a), l1, l2, l3, l4] [.ref a, s0] w 0 Q) ∧
  (∀ (d : Nat) (l1 l2 l3 l4 : Option Value) (s0 : Value)  (w : px_H) (Q : Option Value → px_H → Prop), wp d 15 5 [some .null, l1, l2, l3, l4] [s0] w 0 Q ↔ wp d 15 6 [some .null, l1, l2, l3, l4] [.null, s0] w 0 Q) ∧
  (∀ (d : Nat) (l0 l1 l2 l3 l4 : Option Value) (s1 : Value) (a : Nat) (w : px_H) (Q : Option Value → px_H → Prop), wp d 15 6 [l0, l1, l2, l3, l4] [.ref a, s1] w 0 Q ↔ px_op (px_fld w a [(5, 0)] 5) (fun v => wp d 15 9 [l0, l1, l2, l3, l4] [v, s1] w 0 Q)) ∧
  (∀ (d : Nat) (l0 l1 l2 l3 l4 : Option Value) (x y : Int32) (w : px_H) (Q : Option Value → px_H → Prop), wp d 15 9 [l0, l1, l2, l3, l4] [.int y, .int x] w 0 Q ↔ if y ≤ x then wp d 15 45 [l0, l1, l2, l3, l4] [] w 0 Q else wp d 15 12 [l0, l1, l2, l3, l4] [] w 0 Q) ∧
  (∀ (d : Nat) (l1 l2 l3 l4 : Option Value) (a : Nat) (w : px_H) (Q : Option Value → px_H → Prop), wp d 15 12 [some (.ref a), l1, l2, l3, l4] [] w 0 Q ↔ wp d 15 13 [some (.ref a), l1, l2, l3, l4] [.ref a] w 0 Q) ∧
  (∀ (d : Nat) (l1 l2 l3 l4 : Option Value)  (w : px_H) (Q : Option Value → px_H → Prop), wp d 15 12 [some .null, l1, l2, l3, l4] [] w 0 Q ↔ wp d 15 13 [some .null, l1, l2, l3, l4] [.null] w 0 Q) ∧
  (∀ (d : Nat) (l0 l1 l2 l4 : Option Value) (s0 : Value) (x : Int32) (w : px_H) (Q : Option Value → px_H → Prop), wp d 15 13 [l0, l1, l2, some (.int x), l4] [s0] w 0 Q ↔ wp d 15 14 [l0, l1, l2, some (.int x), l4] [.int x, s0] w 0 Q) ∧
  (∀ (d : Nat) (l0 l1 l2 l3 l4 : Option Value) (v0 : Value) (b : Nat) (w : px_H) (Q : Option Value → px_H → Prop), wp (d + 1) 15 14 [l0, l1, l2, l3, l4] [v0, .ref b] w 0 Q ↔ px_op (px_tgt w b [(5, 47)]) (fun v => wc d v [.ref b, v0] w (fun r w' => wp (d + 1) 15 17 [l0, l1, l2, l3, l4] (r.toList ++ []) w' 0 Q))) ∧
  (∀ (d : Nat) (l0 l1 l2 l3 l4 : Option Value) (a : Nat) (w : px_H) (Q : Option Value → px_H → Prop), wp d 15 17 [l0, l1, l2, l3, l4] [.ref a] w 0 Q ↔ wp d 15 19 [l0, l1, l2, l3, some (.ref a)] [] w 0 Q) ∧
  (∀ (d : Nat) (l0 l1 l2 l3 l4 : Option Value)  (w : px_H) (Q : Option Value → px_H → Prop), wp d 15 17 [l0, l1, l2, l3, l4] [.null] w 0 Q ↔ wp d 15 19 [l0, l1, l2, l3, some .null] [] w 0 Q) ∧
  (∀ (d : Nat) (l0 l1 l2 l3 : Option Value) (a : Nat) (w : px_H) (Q : Option Value → px_H → Prop), wp d 15 19 [l0, l1, l2, l3, some (.ref a)] [] w 0 Q ↔ wp d 15 21 [l0, l1, l2, l3, some (.ref a)] [.ref a] w 0 Q) ∧
  (∀ (d : Nat) (l0 l1 l2 l3 : Option Value)  (w : px_H) (Q : Option Value → px_H → Prop), wp d 15 19 [l0, l1, l2, l3, some .null] [] w 0 Q ↔ wp d 15 21 [l0, l1, l2, l3, some .null] [.null] w 0 Q) ∧
  (∀ (d : Nat) (l0 l1 l2 l3 l4 : Option Value)  (w : px_H) (Q : Option Value → px_H → Prop), wp d 15 21 [l0, l1, l2, l3, l4] [.null] w 0 Q ↔ wp d 15 39 [l0, l1, l2, l3, l4] [] w 0 Q) ∧
  (∀ (d : Nat) (l0 l1 l2 l3 l4 : Option Value) (a : Nat) (w : px_H) (Q : Option Value → px_H → Prop), wp d 15 21 [l0, l1, l2, l3, l4] [.ref a] w 0 Q ↔ wp d 15 24 [l0, l1, l2, l3, l4] [] w 0 Q) ∧
  (∀ (d : Nat) (l0 l1 l2 l3 : Option Value) (a : Nat) (w : px_H) (Q : Option Value → px_H → Prop), wp d 15 24 [l0, l1, l2, l3, some (.ref a)] [] w 0 Q ↔ wp d 15 26 [l0, l1, l2, l3, some (.ref a)] [.ref a] w 0 Q) ∧
  (∀ (d : Nat) (l0 l1 l2 l3 : Option Value)  (w : px_H) (Q : Option Value → px_H → Prop), wp d 15 24 [l0, l1, l2, l3, some .null] [] w 0 Q ↔ wp d 15 26 [l0, l1, l2, l3, some .null] [.null] w 0 Q) ∧
  (∀ (d : Nat) (l0 l2 l3 l4 : Option Value) (s0 : Value) (x : Int32) (w : px_H) (Q : Option Value → px_H → Prop), wp d 15 26 [l0, some (.int x), l2, l3, l4] [s0] w 0 Q ↔ wp d 15 27 [l0, some (.int x), l2, l3, l4] [.int x, s0] w 0 Q) ∧
  (∀ (d : Nat) (l0 l1 l2 l3 l4 : Option Value) (v0 : Value) (b : Nat) (w : px_H) (Q : Option Value → px_H → Prop), wp (d + 1) 15 27 [l0, l1, l2, l3, l4] [v0, .ref b] w 0 Q ↔ px_op (px_tgt w b [(0, 79), (1, 79), (3, 79), (8, 79), (9, 95)]) (fun v => wc d v [.ref b, v0] w (fun r w' => wp (d + 1) 15 30 [l0, l1, l2, l3, l4] (r.toList ++ []) w' 0 Q))) ∧
  (∀ (d : Nat) (l0 l1 l2 l3 l4 : Option Value) (x : Int32) (w : px_H) (Q : Option Value → px_H → Prop), wp d 15 30 [l0, l1, l2, l3, l4] [.int x] w 0 Q ↔ if x = 0 then wp d 15 39 [l0, l1, l2, l3, l4] [] w 0 Q else wp d 15 33 [l0, l1, l2, l3, l4] [] w 0 Q) ∧
  (∀ (d : Nat) (l0 l1 l3 l4 : Option Value) (x : Int32) (w : px_H) (Q : Option Value → px_H → Prop), wp d 15 33 [l0, l1, some (.int x), l3, l4] [] w 0 Q ↔ wp d 15 34 [l0, l1, some (.int x), l3, l4] [.int x] w 0 Q) ∧
  (∀ (d : Nat) (l0 l1 l2 l3 l4 : Option Value) (s0 : Value)  (w : px_H) (Q : Option Value → px_H → Prop), wp d 15 34 [l0, l1, l2, l3, l4] [s0] w 0 Q ↔ wp d 15 35 [l0, l1, l2, l3, l4] [.int 1, s0] w 0 Q) ∧
  (∀ (d : Nat) (l0 l1 l2 l4 : Option Value) (s0 s1 : Value) (x : Int32) (w : px_H) (Q : Option Value → px_H → Prop), wp d 15 35 [l0, l1, l2, some (.int x), l4] [s0, s1] w 0 Q ↔ wp d 15 36 [l0, l1, l2, some (.int x), l4] [.int x, s0, s1] w 0 Q) ∧
  (∀ (d : Nat) (l0 l1 l2 l3 l4 : Option Value) (s2 : Value) (x y : Int32) (w : px_H) (Q : Option Value → px_H → Prop), wp d 15 36 [l0, l1, l2, l3, l4] [.int y, .int x, s2] w 0 Q ↔ wp d 15 37 [l0, l1, l2, l3, l4] [.int (x <<< (y &&& 31)), s2] w 0 Q) ∧
  (∀ (d : Nat) (l0 l1 l2 l3 l4 : Option Value) (x y : Int32) (w : px_H) (Q : Option Value → px_H → Prop), wp d 15 37 [l0, l1, l2, l3, l4] [.int y, .int x] w 0 Q ↔ wp d 15 38 [l0, l1, l2, l3, l4] [.int (x ||| y)] w 0 Q) ∧
  (∀ (d : Nat) (l0 l1 l2 l3 l4 : Option Value) (x : Int32) (w : px_H) (Q : Option Value → px_H → Prop), wp d 15 38 [l0, l1, l2, l3, l4] [.int x] w 0 Q ↔ wp d 15 39 [l0, l1, some (.int x), l3, l4] [] w 0 Q) ∧
  (∀ (d : Nat) (l0 l1 l2 l4 : Option Value) (x : Int32) (w : px_H) (Q : Option Value → px_H → Prop), wp d 15 39 [l0, l1, l2, some (.int x), l4] [] w 0 Q ↔ wp d 15 42 [l0, l1, l2, some (.int (x + 1)), l4] [] w 0 Q) ∧
  (∀ (d : Nat) (l0 l1 l2 l3 l4 : Option Value)  (w : px_H) (Q : Option Value → px_H → Prop), wp d 15 42 [l0, l1, l2, l3, l4] [] w 0 Q ↔ wp d 15 4 [l0, l1, l2, l3, l4] [] w 0 Q) ∧
  (∀ (d : Nat) (l0 l1 l3 l4 : Option Value) (x : Int32) (w : px_H) (Q : Option Value → px_H → Prop), wp d 15 45 [l0, l1, some (.int x), l3, l4] [] w 0 Q ↔ wp d 15 46 [l0, l1, some (.int x), l3, l4] [.int x] w 0 Q) ∧
  (∀ (d : Nat) (l0 l1 l2 l3 l4 : Option Value) (x : Int32) (w : px_H) (Q : Option Value → px_H → Prop), wp d 15 46 [l0, l1, l2, l3, l4] [.int x] w 0 Q ↔ Q (some (.int x)) w) := ⟨fun d v0 v1 w Q => r_entry pt_15 (Nat.le_of_ble_eq_true rfl) rfl,
  fun d l0 l1 l2 l3 l4 w Q => r_iconst pt_15 rfl (by decide),
  fun d l0 l1 l2 l3 l4 x w Q => px_go (q := (.istore_n 2, 1, px_x0)) (S' := (2, [l0, l1, some (.int x), l3, l4], [], w, 0)) pt_15 rfl rfl,
  fun d l0 l1 l2 l3 l4 w Q => r_iconst pt_15 rfl (by decide),
  fun d l0 l1 l2 l3 l4 x w Q => px_go (q := (.istore_n 3, 1, px_x0)) (S' := (4, [l0, l1, l2, some (.int x), l4], [], w, 0)) pt_15 rfl rfl,
  fun d l1 l2 l3 l4 s0 a w Q => px_go (q := (.aload_n 0, 1, px_x0)) (S' := (6, [some (.ref a), l1, l2, l3, l4], [.ref a, s0], w, 0)) pt_15 rfl rfl,
  fun d l1 l2 l3 l4 s0 w Q => px_go (q := (.aload_n 0, 1, px_x0)) (S' := (6, [some .null, l1, l2, l3, l4], [.null, s0], w, 0)) pt_15 rfl rfl,
  fun d l0 l1 l2 l3 l4 s1 a w Q => px_goO (q := (.getfield 44, 3, (11, 5, [(5, 0)], 0, "AllSworn$Realm"))) (S' := fun v => (9, [l0, l1, l2, l3, l4], [v, s1], w, 0)) pt_15 rfl rfl,
  fun d l0 l1 l2 l3 l4 x y w Q => r_icmp_ge pt_15 rfl rfl,
  fun d l1 l2 l3 l4 a w Q => px_go (q := (.aload_n 0, 1, px_x0)) (S' := (13, [some (.ref a), l1, l2, l3, l4], [.ref a], w, 0)) pt_15 rfl rfl,
  fun d l1 l2 l3 l4 w Q => px_go (q := (.aload_n 0, 1, px_x0)) (S' := (13, [some .null, l1, l2, l3, l4], [.null], w, 0)) pt_15 rfl rfl,
  fun d l0 l1 l2 l4 s0 x w Q => px_go (q := (.iload_n 3, 1, px_x0)) (S' := (14, [l0, l1, l2, some (.int x), l4], [.int x, s0], w, 0)) pt_15 rfl rfl,
  fun d l0 l1 l2 l3 l4 v0 b w Q => r_callV (q := (.invokevirtual 62, 3, (33, 1, [(5, 47)], 0, ""))) pt_15 rfl rfl (List.forall_mem_cons.mpr ⟨⟨_, pt_47, Nat.le_of_ble_eq_true rfl, (Nat.le_of_ble_eq_true rfl), rfl⟩, fun _ h => absurd h List.not_mem_nil⟩),
  fun d l0 l1 l2 l3 l4 a w Q => px_go (q := (.astore 4, 2, px_x0)) (S' := (19, [l0, l1, l2, l3, some (.ref a)], [], w, 0)) pt_15 rfl rfl,
  fun d l0 l1 l2 l3 l4 w Q => px_go (q := (.astore 4, 2, px_x0)) (S' := (19, [l0, l1, l2, l3, some .null], [], w, 0)) pt_15 rfl rfl,
  fun d l0 l1 l2 l3 a w Q => px_go (q := (.aload 4, 2, px_x0)) (S' := (21, [l0, l1, l2, l3, some (.ref a)], [.ref a], w, 0)) pt_15 rfl rfl,
  fun d l0 l1 l2 l3 w Q => px_go (q := (.aload 4, 2, px_x0)) (S' := (21, [l0, l1, l2, l3, some .null], [.null], w, 0)) pt_15 rfl rfl,
  fun d l0 l1 l2 l3 l4 w Q => r_ifnullN pt_15 rfl rfl,
  fun d l0 l1 l2 l3 l4 a w Q => px_go (q := (.ifnull 18, 3, px_x0)) (S' := (24, [l0, l1, l2, l3, l4], [], w, 0)) pt_15 rfl rfl,
  fun d l0 l1 l2 l3 a w Q => px_go (q := (.aload 4, 2, px_x0)) (S' := (26, [l0, l1, l2, l3, some (.ref a)], [.ref a], w, 0)) pt_15 rfl rfl,
  fun d l0 l1 l2 l3 w Q => px_go (q := (.aload 4, 2, px_x0)) (S' := (26, [l0, l1, l2, l3, some .null], [.null], w, 0)) pt_15 rfl rfl,
  fun d l0 l2 l3 l4 s0 x w Q => px_go (q := (.iload_n 1, 1, px_x0)) (S' := (27, [l0, some (.int x), l2, l3, l4], [.int x, s0], w, 0)) pt_15 rfl rfl,
  fun d l0 l1 l2 l3 l4 v0 b w Q => r_callV (q := (.invokevirtual 66, 3, (34, 1, [(0, 79), (1, 79), (3, 79), (8, 79), (9, 95)], 0, "AllSworn$Thing"))) pt_15 rfl rfl (List.forall_mem_cons.mpr ⟨⟨_, pt_79, Nat.le_of_ble_eq_true rfl, (Nat.le_of_ble_eq_true rfl), rfl⟩, List.forall_mem_cons.mpr ⟨⟨_, pt_79, Nat.le_of_ble_eq_true rfl, (Nat.le_of_ble_eq_true rfl), rfl⟩, List.forall_mem_cons.mpr ⟨⟨_, pt_79, Nat.le_of_ble_eq_true rfl, (Nat.le_of_ble_eq_true rfl), rfl⟩, List.forall_mem_cons.mpr ⟨⟨_, pt_79, Nat.le_of_ble_eq_true rfl, (Nat.le_of_ble_eq_true rfl), rfl⟩, List.forall_mem_cons.mpr ⟨⟨_, pt_95, Nat.le_of_ble_eq_true rfl, (Nat.le_of_ble_eq_true rfl), rfl⟩, fun _ h => absurd h List.not_mem_nil⟩⟩⟩⟩⟩),
  fun d l0 l1 l2 l3 l4 x w Q => r_if_eq pt_15 rfl rfl,
  fun d l0 l1 l3 l4 x w Q => px_go (q := (.iload_n 2, 1, px_x0)) (S' := (34, [l0, l1, some (.int x), l3, l4], [.int x], w, 0)) pt_15 rfl rfl,
  fun d l0 l1 l2 l3 l4 s0 w Q => r_iconst pt_15 rfl (by decide),
  fun d l0 l1 l2 l4 s0 s1 x w Q => px_go (q := (.iload_n 3, 1, px_x0)) (S' := (36, [l0, l1, l2, some (.int x), l4], [.int x, s0, s1], w, 0)) pt_15 rfl rfl,
  fun d l0 l1 l2 l3 l4 s2 x y w Q => px_go (q := (.ishl, 1, px_x0)) (S' := (37, [l0, l1, l2, l3, l4], [.int (x <<< (y &&& 31)), s2], w, 0)) pt_15 rfl rfl,
  fun d l0 l1 l2 l3 l4 x y w Q => px_go (q := (.ior, 1, px_x0)) (S' := (38, [l0, l1, l2, l3, l4], [.int (x ||| y)], w, 0)) pt_15 rfl rfl,
  fun d l0 l1 l2 l3 l4 x w Q => px_go (q := (.istore_n 2, 1, px_x0)) (S' := (39, [l0, l1, some (.int x), l3, l4], [], w, 0)) pt_15 rfl rfl,
  fun d l0 l1 l2 l4 x w Q => r_iinc pt_15 rfl rfl (by decide) rfl,
  fun d l0 l1 l2 l3 l4 w Q => r_goto pt_15 rfl rfl,
  fun d l0 l1 l3 l4 x w Q => px_go (q := (.iload_n 2, 1, px_x0)) (S' := (46, [l0, l1, some (.int x), l3, l4], [.int x], w, 0)) pt_15 rfl rfl,
  fun d l0 l1 l2 l3 l4 x w Q => px_ret (q := (.ireturn, 1, px_x0)) pt_15 rfl rfl⟩
theorem H15_4 : ∀ (d : Nat) (l0 l1 l2 l4 : Option Value) (x : Int32) (w : px_H) (Q : Option Value → px_H → Prop), wp d 15 4 [l0, l1, l2, some (.int x), l4] [] w 0 Q ↔ wp d 15 5 [l0, l1, l2, some (.int x), l4] [.int x] w 0 Q := fun d l0 l1 l2 l4 x w Q => px_go (q := (.iload_n 3, 1, px_x0)) (S' := (5, [l0, l1, l2, some (.int x), l4], [.int x], w, 0)) pt_15 rfl rfl
/-- AllSworn$Oracle.seekRound(LAllSworn$Realm;)V -/
theorem S16 : (∀ (d : Nat) (v0 v1 : Value) (w : px_H) (Q : Option Value → px_H → Prop), wc d 16 [v0, v1] w Q ↔ wp d 16 0 [some v0, some v1] [] w 0 Q) ∧
  (∀ (d : Nat) (l1 : Option Value) (a : Nat) (w : px_H) (Q : Option Value → px_H → Prop), wp d 16 0 [some (.ref a), l1] [] w 0 Q ↔ wp d 16 1 [some (.ref a), l1] [.ref a] w 0 Q) ∧
  (∀ (d : Nat) (l0 l1 : Option Value) (a : Nat) (w : px_H) (Q : Option Value → px_H → Prop), wp d 16 1 [l0, l1] [.ref a] w 0 Q ↔ px_op (px_fld w a [(2, 0)] 0) (fun v => wp d 16 4 [l0, l1] [v] w 0 Q)) ∧
  (∀ (d : Nat) (l0 : Option Value) (s0 : Value) (a : Nat) (w : px_H) (Q : Option Value → px_H → Prop), wp d 16 4 [l0, some (.ref a)] [s0] w 0 Q ↔ wp d 16 5 [l0, some (.ref a)] [.ref a, s0] w 0 Q) ∧
  (∀ (d : Nat) (l0 : Option Value) (s0 : Value)  (w : px_H) (Q : Option Value → px_H → Prop), wp d 16 4 [l0, some .null] [s0] w 0 Q ↔ wp d 16 5 [l0, some .null] [.null, s0] w 0 Q) ∧
  (∀ (d : Nat) (l0 l1 : Option Value) (v0 : Value) (b : Nat) (w : px_H) (Q : Option Value → px_H → Prop), wp (d + 1) 16 5 [l0, l1] [v0, .ref b] w 0 Q ↔ px_op (px_tgt w b [(5, 46)]) (fun v => wc d v [.ref b, v0] w (fun r w' => wp (d + 1) 16 8 [l0, l1] (r.toList ++ []) w' 0 Q))) ∧
  (∀ (d : Nat) (l1 : Option Value) (a : Nat) (w : px_H) (Q : Option Value → px_H → Prop), wp d 16 8 [some (.ref a), l1] [] w 0 Q ↔ wp d 16 9 [some (.ref a), l1] [.ref a] w 0 Q) ∧
  (∀ (d : Nat) (l0 l1 : Option Value) (s0 : Value)  (w : px_H) (Q : Option Value → px_H → Prop), wp d 16 9 [l0, l1] [s0] w 0 Q ↔ wp d 16 11 [l0, l1] [.int (-1000000), s0] w 0 Q) ∧
  (∀ (d : Nat) (l0 l1 : Option Value) (x : Int32) (a : Nat) (w : px_H) (Q : Option Value → px_H → Prop), wp d 16 11 [l0, l1] [.int x, .ref a] w 0 Q ↔ px_op (px_pfd w a [(2, 0)] 3 (.int x)) (fun w' => wp d 16 14 [l0, l1] [] w' 0 Q)) ∧
  (∀ (d : Nat) (l1 : Option Value) (a : Nat) (w : px_H) (Q : Option Value → px_H → Prop), wp d 16 14 [some (.ref a), l1] [] w 0 Q ↔ wp d 16 15 [some (.ref a), l1] [.ref a] w 0 Q) ∧
  (∀ (d : Nat) (l0 l1 : Option Value) (s0 : Value)  (w : px_H) (Q : Option Value → px_H → Prop), wp d 16 15 [l0, l1] [s0] w 0 Q ↔ wp d 16 17 [l0, l1] [.int (-1000000), s0] w 0 Q) ∧
  (∀ (d : Nat) (l0 l1 : Option Value) (x : Int32) (a : Nat) (w : px_H) (Q : Option Value → px_H → Prop), wp d 16 17 [l0, l1] [.int x, .ref a] w 0 Q ↔ px_op (px_pfd w a [(2, 0)] 4 (.int x)) (fun w' => wp d 16 20 [l0, l1] [] w' 0 Q)) ∧
  (∀ (d : Nat) (l1 : Option Value) (a : Nat) (w : px_H) (Q : Option Value → px_H → Prop), wp d 16 20 [some (.ref a), l1] [] w 0 Q ↔ wp d 16 21 [some (.ref a), l1] [.ref a] w 0 Q) ∧
  (∀ (d : Nat) (l0 l1 : Option Value) (s0 : Value)  (w : px_H) (Q : Option Value → px_H → Prop), wp d 16 21 [l0, l1] [s0] w 0 Q ↔ wp d 16 22 [l0, l1] [.int 0, s0] w 0 Q) ∧
  (∀ (d : Nat) (l0 l1 : Option Value) (s0 s1 : Value)  (w : px_H) (Q : Option Value → px_H → Prop), wp d 16 22 [l0, l1] [s0, s1] w 0 Q ↔ wp d 16 23 [l0, l1] [.int 0, s0, s1] w 0 Q) ∧
  (∀ (d : Nat) (l0 : Option Value) (s0 s1 s2 : Value) (a : Nat) (w : px_H) (Q : Option Value → px_H → Prop), wp d 16 23 [l0, some (.ref a)] [s0, s1, s2] w 0 Q ↔ wp d 16 24 [l0, some (.ref a)] [.ref a, s0, s1, s2] w 0 Q) ∧
  (∀ (d : Nat) (l0 : Option Value) (s0 s1 s2 : Value)  (w : px_H) (Q : Option Value → px_H → Prop), wp d 16 23 [l0, some .null] [s0, s1, s2] w 0 Q ↔ wp d 16 24 [l0, some .null] [.null, s0, s1, s2] w 0 Q) ∧
  (∀ (d : Nat) (l0 l1 : Option Value) (s1 s2 s3 : Value) (a : Nat) (w : px_H) (Q : Option Value → px_H → Prop), wp d 16 24 [l0, l1] [.ref a, s1, s2, s3] w 0 Q ↔ px_op (px_fld w a [(5, 0)] 8) (fun v => wp d 16 27 [l0, l1] [v, s1, s2, s3] w 0 Q)) ∧
  (∀ (d : Nat) (l0 l1 : Option Value) (v0 v1 v2 : Value) (b : Nat) (w : px_H) (Q : Option Value → px_H → Prop), wp (d + 1) 16 27 [l0, l1] [v2, v1, v0, .ref b] w 0 Q ↔ px_op (px_tgt w b [(2, 17)]) (fun v => wc d v [.ref b, v0, v1, v2] w (fun r w' => wp (d + 1) 16 30 [l0, l1] (r.toList ++ []) w' 0 Q))) ∧
  (∀ (d : Nat) (l0 l1 : Option Value)  (w : px_H) (Q : Option Value → px_H → Prop), wp d 16 30 [l0, l1] [] w 0 Q ↔ Q none w) := ⟨fun d v0 v1 w Q => r_entry pt_16 (Nat.le_of_ble_eq_true rfl) rfl,
  fun d l1 a w Q => px_go (q := (.aload_n 0, 1, px_x0)) (S' := (1, [some (.ref a), l1], [.ref a], w, 0)) pt_16 rfl rfl,
  fun d l0 l1 a w Q => px_goO (q := (.getfield 12, 3, (10, 0, [(2, 0)], 0, "AllSworn$Oracle"))) (S' := fun v => (4, [l0, l1], [v], w, 0)) pt_16 rfl rfl,
  fun d l0 s0 a w Q => px_go (q := (.aload_n 1, 1, px_x0)) (S' := (5, [l0, some (.ref a)], [.ref a, s0], w, 0)) pt_16 rfl rfl,
  fun d l0 s0 w Q => px_go (q := (.aload_n 1, 1, px_x0)) (S' := (5, [l0, some .null], [.null, s0], w, 0)) pt_16 rfl rfl,
  fun d l0 l1 v0 b w Q => r_callV (q := (.invokevirtual 72, 3, (33, 1, [(5, 46)], 0, ""))) pt_16 rfl rfl (List.forall_mem_cons.mpr ⟨⟨_, pt_46, Nat.le_of_ble_eq_true rfl, (Nat.le_of_ble_eq_true rfl), rfl⟩, fun _ h => absurd h List.not_mem_nil⟩),
  fun d l1 a w Q => px_go (q := (.aload_n 0, 1, px_x0)) (S' := (9, [some (.ref a), l1], [.ref a], w, 0)) pt_16 rfl rfl,
  fun d l0 l1 s0 w Q => px_go (q := (.ldc 25, 2, (0, 0, [], (-1000000), ""))) (S' := (11, [l0, l1], [.int (-1000000), s0], w, 0)) pt_16 rfl rfl,
  fun d l0 l1 x a w Q => r_put pt_16 rfl (by simp only [List.all_cons, List.all_nil, ft_2_3, px_fit, px_isr, Bool.and_self]),
  fun d l1 a w Q => px_go (q := (.aload_n 0, 1, px_x0)) (S' := (15, [some (.ref a), l1], [.ref a], w, 0)) pt_16 rfl rfl,
  fun d l0 l1 s0 w Q => px_go (q := (.ldc 25, 2, (0, 0, [], (-1000000), ""))) (S' := (17, [l0, l1], [.int (-1000000), s0], w, 0)) pt_16 rfl rfl,
  fun d l0 l1 x a w Q => r_put pt_16 rfl (by simp only [List.all_cons, List.all_nil, ft_2_4, px_fit, px_isr, Bool.and_self]),
  fun d l1 a w Q => px_go (q := (.aload_n 0, 1, px_x0)) (S' := (21, [some (.ref a), l1], [.ref a], w, 0)) pt_16 rfl rfl,
  fun d l0 l1 s0 w Q => r_iconst pt_16 rfl (by decide),
  fun d l0 l1 s0 s1 w Q => r_iconst pt_16 rfl (by decide),
  fun d l0 s0 s1 s2 a w Q => px_go (q := (.aload_n 1, 1, px_x0)) (S' := (24, [l0, some (.ref a)], [.ref a, s0, s1, s2], w, 0)) pt_16 rfl rfl,
  fun d l0 s0 s1 s2 w Q => px_go (q := (.aload_n 1, 1, px_x0)) (S' := (24, [l0, some .null], [.null, s0, s1, s2], w, 0)) pt_16 rfl rfl,
  fun d l0 l1 s1 s2 s3 a w Q => px_goO (q := (.getfield 33, 3, (11, 8, [(5, 0)], 0, "AllSworn$Realm"))) (S' := fun v => (27, [l0, l1], [v, s1, s2, s3], w, 0)) pt_16 rfl rfl,
  fun d l0 l1 v0 v1 v2 b w Q => r_callV (q := (.invokevirtual 76, 3, (33, 3, [(2, 17)], 0, ""))) pt_16 rfl rfl (List.forall_mem_cons.mpr ⟨⟨_, pt_17, Nat.le_of_ble_eq_true rfl, (Nat.le_of_ble_eq_true rfl), rfl⟩, fun _ h => absurd h List.not_mem_nil⟩),
  fun d l0 l1 w Q => px_ret (q := (.return_, 1, px_x0)) pt_16 rfl rfl⟩
/-- AllSworn$Oracle.goOn(III)V heads: [63] -/
theorem S17 : (∀ (d : Nat) (v0 v1 v2 v3 : Value) (w : px_H) (Q : Option Value → px_H → Prop), wc d 17 [v0, v1, v2, v3] w Q ↔ wp d 17 0 [some v0, some v1, some v2, some v3, none, none, none] [] w 0 Q) ∧
  (∀ (d : Nat) (l1 l2 l3 l4 l5 l6 : Option Value) (a : Nat) (w : px_H) (Q : Option Value → px_H → Prop), wp d 17 0 [some (.ref a), l1, l2, l3, l4, l5, l6] [] w 0 Q ↔ wp d 17 1 [some (.ref a), l1, l2, l3, l4, l5, l6] [.ref a] w 0 Q) ∧
  (∀ (d : Nat) (l0 l1 l2 l3 l4 l5 l6 : Option Value) (a : Nat) (w : px_H) (Q : Option Value → px_H → Prop), wp d 17 1 [l0, l1, l2, l3, l4, l5, l6] [.ref a] w 0 Q ↔ px_op (px_fld w a [(2, 0)] 0) (fun v => wp d 17 4 [l0, l1, l2, l3, l4, l5, l6] [v] w 0 Q)) ∧
  (∀ (d : Nat) (l0 l1 l2 l3 l4 l5 l6 : Option Value) (a : Nat) (w : px_H) (Q : Option Value → px_H → Prop), wp d 17 4 [l0, l1, l2, l3, l4, l5, l6] [.ref a] w 0 Q ↔ px_op (px_fld w a [(5, 0)] 8) (fun v => wp d 17 7 [l0, l1, l2, l3, l4, l5, l6] [v] w 0 Q)) ∧
  (∀ (d : Nat) (l0 l1 l2 l4 l5 l6 : Option Value) (s0 : Value) (x : Int32) (w : px_H) (Q : Option Value → px_H → Prop), wp d 17 7 [l0, l1, l2, some (.int x), l4, l5, l6] [s0] w 0 Q ↔ wp d 17 8 [l0, l1, l2, some (.int x), l4, l5, l6] [.int x, s0] w 0 Q) ∧
  (∀ (d : Nat) (l0 l1 l2 l3 l4 l5 l6 : Option Value) (x y : Int32) (w : px_H) (Q : Option Value → px_H → Prop), wp d 17 8 [l0, l1, l2, l3, l4, l5, l6] [.int y, .int x] w 0 Q ↔ wp d 17 9 [l0, l1, l2, l3, l4, l5, l6] [.int (x - y)] w 0 Q) ∧
  (∀ (d : Nat) (l0 l1 l2 l3 l4 l5 l6 : Option Value) (x : Int32) (w : px_H) (Q : Option Value → px_H → Prop), wp d 17 9 [l0, l1, l2, l3, l4, l5, l6] [.int x] w 0 Q ↔ wp d 17 11 [l0, l1, l2, l3, some (.int x), l5, l6] [] w 0 Q) ∧
  (∀ (d : Nat) (l1 l2 l3 l4 l5 l6 : Option Value) (a : Nat) (w : px_H) (Q : Option Value → px_H → Prop), wp d 17 11 [some (.ref a), l1, l2, l3, l4, l5, l6] [] w 0 Q ↔ wp d 17 12 [some (.ref a), l1, l2, l3, l4, l5, l6] [.ref a] w 0 Q) ∧
  (∀ (d : Nat) (l0 l1 l2 l3 l4 l5 l6 : Option Value) (a : Nat) (w : px_H) (Q : Option Value → px_H → Prop), wp d 17 12 [l0, l1, l2, l3, l4, l5, l6] [.ref a] w 0 Q ↔ px_op (px_fld w a [(2, 0)] 0) (fun v => wp d 17 15 [l0, l1, l2, l3, l4, l5, l6] [v] w 0 Q)) ∧
  (∀ (d : Nat) (l1 l2 l3 l4 l5 l6 : Option Value) (s0 : Value) (a : Nat) (w : px_H) (Q : Option Value → px_H → Prop), wp d 17 15 [some (.ref a), l1, l2, l3, l4, l5, l6] [s0] w 0 Q ↔ wp d 17 16 [some (.ref a), l1, l2, l3, l4, l5, l6] [.ref a, s0] w 0 Q) ∧
  (∀ (d : Nat) (l0 l1 l2 l3 l4 l5 l6 : Option Value) (s1 : Value) (a : Nat) (w : px_H) (Q : Option Value → px_H → Prop), wp d 17 16 [l0, l1, l2, l3, l4, l5, l6] [.ref a, s1] w 0 Q ↔ px_op (px_fld w a [(2, 0)] 0) (fun v => wp d 17 19 [l0, l1, l2, l3, l4, l5, l6] [v, s1] w 0 Q)) ∧
  (∀ (d : Nat) (l0 l1 l2 l3 l4 l5 l6 : Option Value) (s1 : Value) (a : Nat) (w : px_H) (Q : Option Value → px_H → Prop), wp d 17 19 [l0, l1, l2, l3, l4, l5, l6] [.ref a, s1] w 0 Q ↔ px_op (px_fld w a [(5, 0)] 8) (fun v => wp d 17 22 [l0, l1, l2, l3, l4, l5, l6] [v, s1] w 0 Q)) ∧
  (∀ (d : Nat) (l0 l1 l2 l3 l4 l5 l6 : Option Value) (v0 : Value) (b : Nat) (w : px_H) (Q : Option Value → px_H → Prop), wp (d + 1) 17 22 [l0, l1, l2, l3, l4, l5, l6] [v0, .ref b] w 0 Q ↔ px_op (px_tgt w b [(5, 59)]) (fun v => wc d v [.ref b, v0] w (fun r w' => wp (d + 1) 17 25 [l0, l1, l2, l3, l4, l5, l6] (r.toList ++ []) w' 0 Q))) ∧
  (∀ (d : Nat) (l0 l1 l2 l3 l4 l5 l6 : Option Value) (x : Int32) (w : px_H) (Q : Option Value → px_H → Prop), wp d 17 25 [l0, l1, l2, l3, l4, l5, l6] [.int x] w 0 Q ↔ if x = 0 then wp d 17 28 [l0, l1, l2, l3, l4, l5, l6] [] w 0 Q else wp d 17 36 [l0, l1, l2, l3, l4, l5, l6] [] w 0 Q) ∧
  (∀ (d : Nat) (l1 l2 l3 l4 l5 l6 : Option Value) (a : Nat) (w : px_H) (Q : Option Value → px_H → Prop), wp d 17 28 [some (.ref a), l1, l2, l3, l4, l5, l6] [] w 0 Q ↔ wp d 17 29 [some (.ref a), l1, l2, l3, l4, l5, l6] [.ref a] w 0 Q) ∧
  (∀ (d : Nat) (l0 l2 l3 l4 l5 l6 : Option Value) (s0 : Value) (x : Int32) (w : px_H) (Q : Option Value → px_H → Prop), wp d 17 29 [l0, some (.int x), l2, l3, l4, l5, l6] [s0] w 0 Q ↔ wp d 17 30 [l0, some (.int x), l2, l3, l4, l5, l6] [.int x, s0] w 0 Q) ∧
  (∀ (d : Nat) (l0 l1 l2 l3 l5 l6 : Option Value) (s0 s1 : Value) (x : Int32) (w : px_H) (Q : Option Value → px_H → Prop), wp d 17 30 [l0, l1, l2, l3, some (.int x), l5, l6] [s0, s1] w 0 Q ↔ wp d 17 32 [l0, l1, l2, l3, some (.int x), l5, l6] [.int x, s0, s1] w 0 Q) ∧
  (∀ (d : Nat) (l0 l1 l2 l3 l4 l5 l6 : Option Value) (v0 v1 : Value) (b : Nat) (w : px_H) (Q : Option Value → px_H → Prop), wp (d + 1) 17 32 [l0, l1, l2, l3, l4, l5, l6] [v1, v0, .ref b] w 0 Q ↔ px_op (px_tgt w b [(2, 18)]) (fun v => wc d v [.ref b, v0, v1] w (fun r w' => wp (d + 1) 17 35 [l0, l1, l2, l3, l4, l5, l6] (r.toList ++ []) w' 0 Q))) ∧
  (∀ (d : Nat) (l0 l1 l2 l3 l4 l5 l6 : Option Value)  (w : px_H) (Q : Option Value → px_H → Prop), wp d 17 35 [l0, l1, l2, l3, l4, l5, l6] [] w 0 Q ↔ Q none w) ∧
  (∀ (d : Nat) (l0 l2 l3 l4 l5 l6 : Option Value) (x : Int32) (w : px_H) (Q : Option Value → px_H → Prop), wp d 17 36 [l0, some (.int x), l2, l3, l4, l5, l6] [] w 0 Q ↔ wp d 17 37 [l0, some (.int x), l2, l3, l4, l5, l6] [.int x] w 0 Q) ∧
  (∀ (d : Nat) (l0 l1 l2 l3 l4 l5 l6 : Option Value) (s0 : Value)  (w : px_H) (Q : Option Value → px_H → Prop), wp d 17 37 [l0, l1, l2, l3, l4, l5, l6] [s0] w 0 Q ↔ wp d 17 38 [l0, l1, l2, l3, l4, l5, l6] [.int 4, s0] w 0 Q) ∧
  (∀ (d : Nat) (l0 l1 l2 l3 l4 l5 l6 : Option Value) (x y : Int32) (w : px_H) (Q : Option Value → px_H → Prop), wp d 17 38 [l0, l1, l2, l3, l4, l5, l6] [.int y, .int x] w 0 Q ↔ if y ≤ x then wp d 17 59 [l0, l1, l2, l3, l4, l5, l6] [] w 0 Q else wp d 17 41 [l0, l1, l2, l3, l4, l5, l6] [] w 0 Q) ∧
  (∀ (d : Nat) (l1 l2 l3 l4 l5 l6 : Option Value) (a : Nat) (w : px_H) (Q : Option Value → px_H → Prop), wp d 17 41 [some (.ref a), l1, l2, l3, l4, l5, l6] [] w 0 Q ↔ wp d 17 42 [some (.ref a), l1, l2, l3, l4, l5, l6] [.ref a] w 0 Q) ∧
  (∀ (d : Nat) (l0 l1 l2 l3 l4 l5 l6 : Option Value) (a : Nat) (w : px_H) (Q : Option Value → px_H → Prop), wp d 17 42 [l0, l1, l2, l3, l4, l5, l6] [.ref a] w 0 Q ↔ px_op (px_fld w a [(2, 0)] 3) (fun v => wp d 17 45 [l0, l1, l2, l3, l4, l5, l6] [v] w 0 Q)) ∧
  (∀ (d : Nat) (l0 l1 l2 l3 l4 l5 l6 : Option Value) (s0 : Value)  (w : px_H) (Q : Option Value → px_H → Prop), wp d 17 45 [l0, l1, l2, l3, l4, l5, l6] [s0] w 0 Q ↔ wp d 17 47 [l0, l1, l2, l3, l4, l5, l6] [.int (-1000000), s0] w 0 Q) ∧
  (∀ (d : Nat) (l0 l1 l2 l3 l4 l5 l6 : Option Value) (x y : Int32) (w : px_H) (Q : Option Value → px_H → Prop), wp d 17 47 [l0, l1, l2, l3, l4, l5, l6] [.int y, .int x] w 0 Q ↔ if x = y then wp d 17 60 [l0, l1, l2, l3, l4, l5, l6] [] w 0 Q else wp d 17 50 [l0, l1, l2, l3, l4, l5, l6] [] w 0 Q) ∧
  (∀ (d : Nat) (l0 l1 l2 l3 l5 l6 : Option Value) (x : Int32) (w : px_H) (Q : Option Value → px_H → Prop), wp d 17 50 [l0, l1, l2, l3, some (.int x), l5, l6] [] w 0 Q ↔ wp d 17 52 [l0, l1, l2, l3, some (.int x), l5, l6] [.int x] w 0 Q) ∧
  (∀ (d : Nat) (l1 l2 l3 l4 l5 l6 : Option Value) (s0 : Value) (a : Nat) (w : px_H) (Q : Option Value → px_H → Prop), wp d 17 52 [some (.ref a), l1, l2, l3, l4, l5, l6] [s0] w 0 Q ↔ wp d 17 53 [some (.ref a), l1, l2, l3, l4, l5, l6] [.ref a, s0] w 0 Q) ∧
  (∀ (d : Nat) (l0 l1 l2 l3 l4 l5 l6 : Option Value) (s1 : Value) (a : Nat) (w : px_H) (Q : Option Value → px_H → Prop), wp d 17 53 [l0, l1, l2, l3, l4, l5, l6] [.ref a, s1] w 0 Q ↔ px_op (px_fld w a [(2, 0)] 3) (fun v => wp d 17 56 [l0, l1, l2, l3, l4, l5, l6] [v, s1] w 0 Q)) ∧
  (∀ (d : Nat) (l0 l1 l2 l3 l4 l5 l6 : Option Value) (x y : Int32) (w : px_H) (Q : Option Value → px_H → Prop), wp d 17 56 [l0, l1, l2, l3, l4, l5, l6] [.int y, .int x] w 0 Q ↔ if x < y then wp d 17 60 [l0, l1, l2, l3, l4, l5, l6] [] w 0 Q else wp d 17 59 [l0, l1, l2, l3, l4, l5, l6] [] w 0 Q) ∧
  (∀ (d : Nat) (l0 l1 l2 l3 l4 l5 l6 : Option Value)  (w : px_H) (Q : Option Value → px_H → Prop), wp d 17 59 [l0, l1, l2, l3, l4, l5, l6] [] w 0 Q ↔ Q none w) ∧
  (∀ (d : Nat) (l0 l1 l2 l3 l4 l5 l6 : Option Value)  (w : px_H) (Q : Option Value → px_H → Prop), wp d 17 60 [l0, l1, l2, l3, l4, l5, l6] [] w 0 Q ↔ wp d 17 61 [l0, l1, l2, l3, l4, l5, l6] [.int 0] w 0 Q) ∧
  (∀ (d : Nat) (l0 l1 l2 l3 l4 l5 l6 : Option Value) (x : Int32) (w : px_H) (Q : Option Value → px_H → Prop), wp d 17 61 [l0, l1, l2, l3, l4, l5, l6] [.int x] w 0 Q ↔ wp d 17 63 [l0, l1, l2, l3, l4, some (.int x), l6] [] w 0 Q) ∧
  (∀ (d : Nat) (l1 l2 l3 l4 l5 l6 : Option Value) (s0 : Value) (a : Nat) (w : px_H) (Q : Option Value → px_H → Prop), wp d 17 65 [some (.ref a), l1, l2, l3, l4, l5, l6] [s0] w 0 Q ↔ wp d 17 66 [some (.ref a), l1, l2, l3, l4, l5, l6] [.ref a, s0] w 0 Q) ∧
  (∀ (d : Nat) (l0 l1 l2 l3 l4 l5 l6 : Option Value) (s1 : Value) (a : Nat) (w : px_H) (Q : Option Value → px_H → Prop), wp d 17 66 [l0, l1, l2, l3, l4, l5, l6] [.ref a, s1] w 0 Q ↔ px_op (px_fld w a [(2, 0)] 0) (fun v => wp d 17 69 [l0, l1, l2, l3, l4, l5, l6] [v, s1] w 0 Q)) ∧
  (∀ (d : Nat) (l0 l1 l2 l3 l4 l5 l6 : Option Value) (s1 : Value) (a : Nat) (w : px_H) (Q : Option Value → px_H → Prop), wp d 17 69 [l0, l1, l2, l3, l4, l5, l6] [.ref a, s1] w 0 Q ↔ px_op (px_fld w a [(5, 0)] 5) (fun v => wp d 17 72 [l0, l1, l2, l3, l4, l5, l6] [v, s1] w 0 Q)) ∧
  (∀ (d : Nat) (l0 l1 l2 l3 l4 l5 l6 : Option Value) (x y : Int32) (w : px_H) (Q : Option Value → px_H → Prop), wp d 17 72 [l0, l1, l2, l3, l4, l5, l6] [.int y, .int x] w 0 Q ↔ if y ≤ x then wp d 17 145 [l0, l1, l2, l3, l4, l5, l6] [] w 0 Q else wp d 17 75 [l0, l1, l2, l3, l4, l5, l6] [] w 0 Q) ∧
  (∀ (d : Nat) (l1 l2 l3 l4 l5 l6 : Option Value) (a : Nat) (w : px_H) (Q : Option Value → px_H → Prop), wp d 17 75 [some (.ref a), l1, l2, l3, l4, l5, l6] [] w 0 Q ↔ wp d 17 76 [some (.ref a), l1, l2, l3, l4, l5, l6] [.ref a] w 0 Q) ∧
  (∀ (d : Nat) (l0 l1 l2 l3 l4 l5 l6 : Option Value) (a : Nat) (w : px_H) (Q : Option Value → px_H → Prop), wp d 17 76 [l0, l1, l2, l3, l4, l5, l6] [.ref a] w 0 Q ↔ px_op (px_fld w a [(2, 0)] 0) (fun v => wp d 17 79 [l0, l1, l2, l3, l4, l5, l6] [v] w 0 Q)) ∧
  (∀ (d : Nat) (l0 l1 l2 l3 l4 l6 : Option Value) (s0 : Value) (x : Int32) (w : px_H) (Q : Option Value → px_H → Prop), wp d 17 79 [l0, l1, l2, l3, l4, some (.int x), l6] [s0] w 0 Q ↔ wp d 17 81 [l0, l1, l2, l3, l4, some (.int x), l6] [.int x, s0] w 0 Q) ∧
  (∀ (d : Nat) (l0 l1 l2 l3 l4 l5 l6 : Option Value) (v0 : Value) (b : Nat) (w : px_H) (Q : Option Value → px_H → Prop), wp (d + 1) 17 81 [l0, l1, l2, l3, l4, l5, l6] [v0, .ref b] w 0 Q ↔ px_op (px_tgt w b [(5, 47)]) (fun v => wc d v [.ref b, v0] w (fun r w' => wp (d + 1) 17 84 [l0, l1, l2, l3, l4, l5, l6] (r.toList ++ []) w' 0 Q))) ∧
  (∀ (d : Nat) (l0 l1 l2 l3 l4 l5 l6 : Option Value) (a : Nat) (w : px_H) (Q : Option Value → px_H → Prop), wp d 17 84 [l0, l1, l2, l3, l4, l5, l6] [.ref a] w 0 Q ↔ wp d 17 86 [l0, l1, l2, l3, l4, l5, some (.ref a)] [] w 0 Q) ∧
  (∀ (d : Nat) (l0 l1 l2 l3 l4 l5 l6 : Option Value)  (w : px_H) (Q : Option Value → px_H → Prop), wp d 17 84 [l0, l1, l2, l3, l4, l5, l6] [.null] w 0 Q ↔ wp d 17 86 [l0, l1, l2, l3, l4, l5, some .null] [] w 0 Q) ∧
  (∀ (d : Nat) (l0 l1 l2 l3 l4 l5 : Option Value) (a : Nat) (w : px_H) (Q : Option Value → px_H → Prop), wp d 17 86 [l0, l1, l2, l3, l4, l5, some (.ref a)] [] w 0 Q ↔ wp d 17 88 [l0, l1, l2, l3, l4, l5, some (.ref a)] [.ref a] w 0 Q) ∧
  (∀ (d : Nat) (l0 l1 l2 l3 l4 l5 : Option Value)  (w : px_H) (Q : Option Value → px_H → Prop), wp d 17 86 [l0, l1, l2, l3, l4, l5, some .null] [] w 0 Q ↔ wp d 17 88 [l0, l1, l2, l3, l4, l5, some .null] [.null] w 0 Q) ∧
  (∀ (d : Nat) (l0 l1 l2 l3 l4 l5 l6 : Option Value)  (w : px_H) (Q : Option Value → px_H → Prop), wp d 17 88 [l0, l1, l2, l3, l4, l5, l6] [.null] w 0 Q ↔ wp d 17 139 [l0, l1, l2, l3, l4, l5, l6] [] w 0 Q) ∧
  (∀ (d : Nat) (l0 l1 l2 l3 l4 l5 l6 : Option Value) (a : Nat) (w : px_H) (Q : Option Value → px_H → Prop), wp d 17 88 [l0, l1, l2, l3, l4, l5, l6] [.ref a] w 0 Q ↔ wp d 17 91 [l0, l1, l2, l3, l4, l5, l6] [] w 0 Q) ∧
  (∀ (d : Nat) (l0 l1 l3 l4 l5 l6 : Option Value) (x : Int32) (w : px_H) (Q : Option Value → px_H → Prop), wp d 17 91 [l0, l1, some (.int x), l3, l4, l5, l6] [] w 0 Q ↔ wp d 17 92 [l0, l1, some (.int x), l3, l4, l5, l6] [.int x] w 0 Q) ∧
  (∀ (d : Nat) (l0 l1 l2 l3 l4 l6 : Option Value) (s0 : Value) (x : Int32) (w : px_H) (Q : Option Value → px_H → Prop), wp d 17 92 [l0, l1, l2, l3, l4, some (.int x), l6] [s0] w 0 Q ↔ wp d 17 94 [l0, l1, l2, l3, l4, some (.int x), l6] [.int x, s0] w 0 Q) ∧
  (∀ (d : Nat) (l0 l1 l2 l3 l4 l5 l6 : Option Value) (x y : Int32) (w : px_H) (Q : Option Value → px_H → Prop), wp d 17 94 [l0, l1, l2, l3, l4, l5, l6] [.int y, .int x] w 0 Q ↔ wp d 17 95 [l0, l1, l2, l3, l4, l5, l6] [.int (x >>> (y &&& 31))] w 0 Q) ∧
  (∀ (d : Nat) (l0 l1 l2 l3 l4 l5 l6 : Option Value) (s0 : Value)  (w : px_H) (Q : Option Value → px_H → Prop), wp d 17 95 [l0, l1, l2, l3, l4, l5, l6] [s0] w 0 Q ↔ wp d 17 96 [l0, l1, l2, l3, l4, l5, l6] [.int 1, s0] w 0 Q) ∧
  (∀ (d : Nat) (l0 l1 l2 l3 l4 l5 l6 : Option Value) (x y : Int32) (w : px_H) (Q : Option Value → px_H → Prop), wp d 17 96 [l0, l1, l2, l3, l4, l5, l6] [.int y, .int x] w 0 Q ↔ wp d 17 97 [l0, l1, l2, l3, l4, l5, l6] [.int (x &&& y)] w 0 Q) ∧
  (∀ (d : Nat) (l0 l1 l2 l3 l4 l5 l6 : Option Value) (x : Int32) (w : px_H) (Q : Option Value → px_H → Prop), wp d 17 97 [l0, l1, l2, l3, l4, l5, l6] [.int x] w 0 Q ↔ if x = 0 then wp d 17 100 [l0, l1, l2, l3, l4, l5, l6] [] w 0 Q else wp d 17 139 [l0, l1, l2, l3, l4, l5, l6] [] w 0 Q) ∧
  (∀ (d : Nat) (l1 l2 l3 l4 l5 l6 : Option Value) (a : Nat) (w : px_H) (Q : Option Value → px_H → Prop), wp d 17 100 [some (.ref a), l1, l2, l3, l4, l5, l6] [] w 0 Q ↔ wp d 17 101 [some (.ref a), l1, l2, l3, l4, l5, l6] [.ref a] w 0 Q) ∧
  (∀ (d : Nat) (l0 l1 l2 l3 l4 l5 l6 : Option Value) (a : Nat) (w : px_H) (Q : Option Value → px_H → Prop), wp d 17 101 [l0, l1, l2, l3, l4, l5, l6] [.ref a] w 0 Q ↔ px_op (px_fld w a [(2, 0)] 1) (fun v => wp d 17 104 [l0, l1, l2, l3, l4, l5, l6] [v] w 0 Q)) ∧
  (∀ (d : Nat) (l0 l2 l3 l4 l5 l6 : Option Value) (s0 : Value) (x : Int32) (w : px_H) (Q : Option Value → px_H → Prop), wp d 17 104 [l0, some (.int x), l2, l3, l4, l5, l6] [s0] w 0 Q ↔ wp d 17 105 [l0, some (.int x), l2, l3, l4, l5, l6] [.int x, s0] w 0 Q) ∧
  (∀ (d : Nat) (l0 l1 l2 l3 l4 l6 : Option Value) (s0 s1 : Value) (x : Int32) (w : px_H) (Q : Option Value → px_H → Prop), wp d 17 105 [l0, l1, l2, l3, l4, some (.int x), l6] [s0, s1] w 0 Q ↔ wp d 17 107 [l0, l1, l2, l3, l4, some (.int x), l6] [.int x, s0, s1] w 0 Q) ∧
  (∀ (d : Nat) (l0 l1 l2 l3 l4 l5 l6 : Option Value) (x i : Int32) (a : Nat) (w : px_H) (Q : Option Value → px_H → Prop), wp d 17 107 [l0, l1, l2, l3, l4, l5, l6] [.int x, .int i, .ref a] w 0 Q ↔ px_op (px_ast w a i x .int) (fun w' => wp d 17 108 [l0, l1, l2, l3, l4, l5, l6] [] w' 0 Q)) ∧
  (∀ (d : Nat) (l1 l2 l3 l4 l5 l6 : Option Value) (a : Nat) (w : px_H) (Q : Option Value → px_H → Prop), wp d 17 108 [some (.ref a), l1, l2, l3, l4, l5, l6] [] w 0 Q ↔ wp d 17 109 [some (.ref a), l1, l2, l3, l4, l5, l6] [.ref a] w 0 Q) ∧
  (∀ (d : Nat) (l0 l1 l2 l3 l4 l5 l6 : Option Value) (a : Nat) (w : px_H) (Q : Option Value → px_H → Prop), wp d 17 109 [l0, l1, l2, l3, l4, l5, l6] [.ref a] w 0 Q ↔ px_op (px_fld w a [(2, 0)] 0) (fun v => wp d 17 112 [l0, l1, l2, l3, l4, l5, l6] [v] w 0 Q)) ∧
  (∀ (d : Nat) (l0 l1 l2 l3 l4 l5 : Option Value) (s0 : Value) (a : Nat) (w : px_H) (Q : Option Value → px_H → Prop), wp d 17 112 [l0, l1, l2, l3, l4, l5, some (.ref a)] [s0] w 0 Q ↔ wp d 17 114 [l0, l1, l2, l3, l4, l5, some (.ref a)] [.ref a, s0] w 0 Q) ∧
  (∀ (d : Nat) (l0 l1 l2 l3 l4 l5 : Option Value) (s0 : Value)  (w : px_H) (Q : Option Value → px_H → Prop), wp d 17 112 [l0, l1, l2, l3, l4, l5, some .null] [s0] w 0 Q ↔ wp d 17 114 [l0, l1, l2, l3, l4, l5, some .null] [.null, s0] w 0 Q) ∧
  (∀ (d : Nat) (l0 l1 l2 l3 l4 l5 l6 : Option Value) (v0 : Value) (b : Nat) (w : px_H) (Q : Option Value → px_H → Prop), wp (d + 1) 17 114 [l0, l1, l2, l3, l4, l5, l6] [v0, .ref b] w 0 Q ↔ px_op (px_tgt w b [(5, 51)]) (fun v => wc d v [.ref b, v0] w (fun r w' => wp (d + 1) 17 117 [l0, l1, l2, l3, l4, l5, l6] (r.toList ++ []) w' 0 Q))) ∧
  (∀ (d : Nat) (l1 l2 l3 l4 l5 l6 : Option Value) (a : Nat) (w : px_H) (Q : Option Value → px_H → Prop), wp d 17 117 [some (.ref a), l1, l2, l3, l4, l5, l6] [] w 0 Q ↔ wp d 17 118 [some (.ref a), l1, l2, l3, l4, l5, l6] [.ref a] w 0 Q) ∧
  (∀ (d : Nat) (l0 l2 l3 l4 l5 l6 : Option Value) (s0 : Value) (x : Int32) (w : px_H) (Q : Option Value → px_H → Prop), wp d 17 118 [l0, some (.int x), l2, l3, l4, l5, l6] [s0] w 0 Q ↔ wp d 17 119 [l0, some (.int x), l2, l3, l4, l5, l6] [.int x, s0] w 0 Q) ∧
  (∀ (d : Nat) (l0 l1 l2 l3 l4 l5 l6 : Option Value) (s0 s1 : Value)  (w : px_H) (Q : Option Value → px_H → Prop), wp d 17 119 [l0, l1, l2, l3, l4, l5, l6] [s0, s1] w 0 Q ↔ wp d 17 120 [l0, l1, l2, l3, l4, l5, l6] [.int 1, s0, s1] w 0 Q) ∧
  (∀ (d : Nat) (l0 l1 l2 l3 l4 l5 l6 : Option Value) (s2 : Value) (x y : Int32) (w : px_H) (Q : Option Value → px_H → Prop), wp d 17 120 [l0, l1, l2, l3, l4, l5, l6] [.int y, .int x, s2] w 0 Q ↔ wp d 17 121 [l0, l1, l2, l3, l4, l5, l6] [.int (x + y), s2] w 0 Q) ∧
  (∀ (d : Nat) (l0 l1 l3 l4 l5 l6 : Option Value) (s0 s1 : Value) (x : Int32) (w : px_H) (Q : Option Value → px_H → Prop), wp d 17 121 [l0, l1, some (.int x), l3, l4, l5, l6] [s0, s1] w 0 Q ↔ wp d 17 122 [l0, l1, some (.int x), l3, l4, l5, l6] [.int x, s0, s1] w 0 Q) ∧
  (∀ (d : Nat) (l0 l1 l2 l3 l4 l5 l6 : Option Value) (s0 s1 s2 : Value)  (w : px_H) (Q : Option Value → px_H → Prop), wp d 17 122 [l0, l1, l2, l3, l4, l5, l6] [s0, s1, s2] w 0 Q ↔ wp d 17 123 [l0, l1, l2, l3, l4, l5, l6] [.int 1, s0, s1, s2] w 0 Q) ∧
  (∀ (d : Nat) (l0 l1 l2 l3 l4 l6 : Option Value) (s0 s1 s2 s3 : Value) (x : Int32) (w : px_H) (Q : Option Value → px_H → Prop), wp d 17 123 [l0, l1, l2, l3, l4, some (.int x), l6] [s0, s1, s2, s3] w 0 Q ↔ wp d 17 125 [l0, l1, l2, l3, l4, some (.int x), l6] [.int x, s0, s1, s2, s3] w 0 Q) ∧
  (∀ (d : Nat) (l0 l1 l2 l3 l4 l5 l6 : Option Value) (s2 s3 s4 : Value) (x y : Int32) (w : px_H) (Q : Option Value → px_H → Prop), wp d 17 125 [l0, l1, l2, l3, l4, l5, l6] [.int y, .int x, s2, s3, s4] w 0 Q ↔ wp d 17 126 [l0, l1, l2, l3, l4, l5, l6] [.int (x <<< (y &&& 31)), s2, s3, s4] w 0 Q) ∧
  (∀ (d : Nat) (l0 l1 l2 l3 l4 l5 l6 : Option Value) (s2 s3 : Value) (x y : Int32) (w : px_H) (Q : Option Value → px_H → Prop), wp d 17 126 [l0, l1, l2, l3, l4, l5, l6] [.int y, .int x, s2, s3] w 0 Q ↔ wp d 17 127 [l0, l1, l2, l3, l4, l5, l6] [.int (x ||| y), s2, s3] w 0 Q) ∧
  (∀ (d : Nat) (l0 l1 l2 l4 l5 l6 : Option Value) (s0 s1 s2 : Value) (x : Int32) (w : px_H) (Q : Option Value → px_H → Prop), wp d 17 127 [l0, l1, l2, some (.int x), l4, l5, l6] [s0, s1, s2] w 0 Q ↔ wp d 17 128 [l0, l1, l2, some (.int x), l4, l5, l6] [.int x, s0, s1, s2] w 0 Q) ∧
  (∀ (d : Nat) (l0 l1 l2 l3 l4 l5 l6 : Option Value) (v0 v1 v2 : Value) (b : Nat) (w : px_H) (Q : Option Value → px_H → Prop), wp (d + 1) 17 128 [l0, l1, l2, l3, l4, l5, l6] [v2, v1, v0, .ref b] w 0 Q ↔ px_op (px_tgt w b [(2, 17)]) (fun v => wc d v [.ref b, v0, v1, v2] w (fun r w' => wp (d + 1) 17 131 [l0, l1, l2, l3, l4, l5, l6] (r.toList ++ []) w' 0 Q))) ∧
  (∀ (d : Nat) (l1 l2 l3 l4 l5 l6 : Option Value) (a : Nat) (w : px_H) (Q : Option Value → px_H → Prop), wp d 17 131 [some (.ref a), l1, l2, l3, l4, l5, l6] [] w 0 Q ↔ wp d 17 132 [some (.ref a), l1, l2, l3, l4, l5, l6] [.ref a] w 0 Q) ∧
  (∀ (d : Nat) (l0 l1 l2 l3 l4 l5 l6 : Option Value) (a : Nat) (w : px_H) (Q : Option Value → px_H → Prop), wp d 17 132 [l0, l1, l2, l3, l4, l5, l6] [.ref a] w 0 Q ↔ px_op (px_fld w a [(2, 0)] 0) (fun v => wp d 17 135 [l0, l1, l2, l3, l4, l5, l6] [v] w 0 Q)) ∧
  (∀ (d : Nat) (l0 l1 l2 l3 l4 l5 l6 : Option Value)  (b : Nat) (w : px_H) (Q : Option Value → px_H → Prop), wp (d + 1) 17 135 [l0, l1, l2, l3, l4, l5, l6] [.ref b] w 0 Q ↔ px_op (px_tgt w b [(5, 54)]) (fun v => wc d v [.ref b] w (fun r w' => wp (d + 1) 17 138 [l0, l1, l2, l3, l4, l5, l6] (r.toList ++ []) w' 0 Q))) ∧
  (∀ (d : Nat) (l0 l1 l2 l3 l4 l5 l6 : Option Value) (s0 : Value)  (w : px_H) (Q : Option Value → px_H → Prop), wp d 17 138 [l0, l1, l2, l3, l4, l5, l6] [s0] w 0 Q ↔ wp d 17 139 [l0, l1, l2, l3, l4, l5, l6] [] w 0 Q) ∧
  (∀ (d : Nat) (l0 l1 l2 l3 l4 l6 : Option Value) (x : Int32) (w : px_H) (Q : Option Value → px_H → Prop), wp d 17 139 [l0, l1, l2, l3, l4, some (.int x), l6] [] w 0 Q ↔ wp d 17 142 [l0, l1, l2, l3, l4, some (.int (x + 1)), l6] [] w 0 Q) ∧
  (∀ (d : Nat) (l0 l1 l2 l3 l4 l5 l6 : Option Value)  (w : px_H) (Q : Option Value → px_H → Prop), wp d 17 142 [l0, l1, l2, l3, l4, l5, l6] [] w 0 Q ↔ wp d 17 63 [l0, l1, l2, l3, l4, l5, l6] [] w 0 Q) ∧
  (∀ (d : Nat) (l0 l1 l2 l3 l4 l5 l6 : Option Value)  (w : px_H) (Q : Option Value → px_H → Prop), wp d 17 145 [l0, l1, l2, l3, l4, l5, l6] [] w 0 Q ↔ Q none w) := ⟨fun d v0 v1 v2 v3 w Q => r_entry pt_17 (Nat.le_of_ble_eq_true rfl) rfl,
  fun d l1 l2 l3 l4 l5 l6 a w Q => px_go (q := (.aload_n 0, 1, px_x0)) (S' := (1, [some (.ref a), l1, l2, l3, l4, l5, l6], [.ref a], w, 0)) pt_17 rfl rfl,
  fun d l0 l1 l2 l3 l4 l5 l6 a w Q => px_goO (q := (.getfield 12, 3, (10, 0, [(2, 0)], 0, "AllSworn$Oracle"))) (S' := fun v => (4, [l0, l1, l2, l3, l4, l5, l6], [v], w, 0)) pt_17 rfl rfl,
  fun d l0 l1 l2 l3 l4 l5 l6 a w Q => px_goO (q := (.getfield 33, 3, (11, 8, [(5, 0)], 0, "AllSworn$Realm"))) (S' := fun v => (7, [l0, l1, l2, l3, l4, l5, l6], [v], w, 0)) pt_17 rfl rfl,
  fun d l0 l1 l2 l4 l5 l6 s0 x w Q => px_go (q := (.iload_n 3, 1, px_x0)) (S' := (8, [l0, l1, l2, some (.int x), l4, l5, l6], [.int x, s0], w, 0)) pt_17 rfl rfl,
  fun d l0 l1 l2 l3 l4 l5 l6 x y w Q => px_go (q := (.isub, 1, px_x0)) (S' := (9, [l0, l1, l2, l3, l4, l5, l6], [.int (x - y)], w, 0)) pt_17 rfl rfl,
  fun d l0 l1 l2 l3 l4 l5 l6 x w Q => px_go (q := (.istore 4, 2, px_x0)) (S' := (11, [l0, l1, l2, l3, some (.int x), l5, l6], [], w, 0)) pt_17 rfl rfl,
  fun d l1 l2 l3 l4 l5 l6 a w Q => px_go (q := (.aload_n 0, 1, px_x0)) (S' := (12, [some (.ref a), l1, l2, l3, l4, l5, l6], [.ref a], w, 0)) pt_17 rfl rfl,
  fun d l0 l1 l2 l3 l4 l5 l6 a w Q => px_goO (q := (.getfield 12, 3, (10, 0, [(2, 0)], 0, "AllSworn$Oracle"))) (S' := fun v => (15, [l0, l1, l2, l3, l4, l5, l6], [v], w, 0)) pt_17 rfl rfl,
  fun d l1 l2 l3 l4 l5 l6 s0 a w Q => px_go (q := (.aload_n 0, 1, px_x0)) (S' := (16, [some (.ref a), l1, l2, l3, l4, l5, l6], [.ref a, s0], w, 0)) pt_17 rfl rfl,
  fun d l0 l1 l2 l3 l4 l5 l6 s1 a w Q => px_goO (q := (.getfield 12, 3, (10, 0, [(2, 0)], 0, "AllSworn$Oracle"))) (S' := fun v => (19, [l0, l1, l2, l3, l4, l5, l6], [v, s1], w, 0)) pt_17 rfl rfl,
  fun d l0 l1 l2 l3 l4 l5 l6 s1 a w Q => px_goO (q := (.getfield 33, 3, (11, 8, [(5, 0)], 0, "AllSworn$Realm"))) (S' := fun v => (22, [l0, l1, l2, l3, l4, l5, l6], [v, s1], w, 0)) pt_17 rfl rfl,
  fun d l0 l1 l2 l3 l4 l5 l6 v0 b w Q => r_callV (q := (.invokevirtual 36, 3, (33, 1, [(5, 59)], 0, ""))) pt_17 rfl rfl (List.forall_mem_cons.mpr ⟨⟨_, pt_59, Nat.le_of_ble_eq_true rfl, (Nat.le_of_ble_eq_true rfl), rfl⟩, fun _ h => absurd h List.not_mem_nil⟩),
  fun d l0 l1 l2 l3 l4 l5 l6 x w Q => r_if_ne pt_17 rfl rfl,
  fun d l1 l2 l3 l4 l5 l6 a w Q => px_go (q := (.aload_n 0, 1, px_x0)) (S' := (29, [some (.ref a), l1, l2, l3, l4, l5, l6], [.ref a], w, 0)) pt_17 rfl rfl,
  fun d l0 l2 l3 l4 l5 l6 s0 x w Q => px_go (q := (.iload_n 1, 1, px_x0)) (S' := (30, [l0, some (.int x), l2, l3, l4, l5, l6], [.int x, s0], w, 0)) pt_17 rfl rfl,
  fun d l0 l1 l2 l3 l5 l6 s0 s1 x w Q => px_go (q := (.iload 4, 2, px_x0)) (S' := (32, [l0, l1, l2, l3, some (.int x), l5, l6], [.int x, s0, s1], w, 0)) pt_17 rfl rfl,
  fun d l0 l1 l2 l3 l4 l5 l6 v0 v1 b w Q => r_callV (q := (.invokevirtual 80, 3, (33, 2, [(2, 18)], 0, ""))) pt_17 rfl rfl (List.forall_mem_cons.mpr ⟨⟨_, pt_18, Nat.le_of_ble_eq_true rfl, (Nat.le_of_ble_eq_true rfl), rfl⟩, fun _ h => absurd h List.not_mem_nil⟩),
  fun d l0 l1 l2 l3 l4 l5 l6 w Q => px_ret (q := (.return_, 1, px_x0)) pt_17 rfl rfl,
  fun d l0 l2 l3 l4 l5 l6 x w Q => px_go (q := (.iload_n 1, 1, px_x0)) (S' := (37, [l0, some (.int x), l2, l3, l4, l5, l6], [.int x], w, 0)) pt_17 rfl rfl,
  fun d l0 l1 l2 l3 l4 l5 l6 s0 w Q => r_iconst pt_17 rfl (by decide),
  fun d l0 l1 l2 l3 l4 l5 l6 x y w Q => r_icmp_ge pt_17 rfl rfl,
  fun d l1 l2 l3 l4 l5 l6 a w Q => px_go (q := (.aload_n 0, 1, px_x0)) (S' := (42, [some (.ref a), l1, l2, l3, l4, l5, l6], [.ref a], w, 0)) pt_17 rfl rfl,
  fun d l0 l1 l2 l3 l4 l5 l6 a w Q => px_goO (q := (.getfield 26, 3, (10, 3, [(2, 0)], 0, "AllSworn$Oracle"))) (S' := fun v => (45, [l0, l1, l2, l3, l4, l5, l6], [v], w, 0)) pt_17 rfl rfl,
  fun d l0 l1 l2 l3 l4 l5 l6 s0 w Q => px_go (q := (.ldc 25, 2, (0, 0, [], (-1000000), ""))) (S' := (47, [l0, l1, l2, l3, l4, l5, l6], [.int (-1000000), s0], w, 0)) pt_17 rfl rfl,
  fun d l0 l1 l2 l3 l4 l5 l6 x y w Q => r_icmp_eq pt_17 rfl rfl,
  fun d l0 l1 l2 l3 l5 l6 x w Q => px_go (q := (.iload 4, 2, px_x0)) (S' := (52, [l0, l1, l2, l3, some (.int x), l5, l6], [.int x], w, 0)) pt_17 rfl rfl,
  fun d l1 l2 l3 l4 l5 l6 s0 a w Q => px_go (q := (.aload_n 0, 1, px_x0)) (S' := (53, [some (.ref a), l1, l2, l3, l4, l5, l6], [.ref a, s0], w, 0)) pt_17 rfl rfl,
  fun d l0 l1 l2 l3 l4 l5 l6 s1 a w Q => px_goO (q := (.getfield 26, 3, (10, 3, [(2, 0)], 0, "AllSworn$Oracle"))) (S' := fun v => (56, [l0, l1, l2, l3, l4, l5, l6], [v, s1], w, 0)) pt_17 rfl rfl,
  fun d l0 l1 l2 l3 l4 l5 l6 x y w Q => r_icmp_lt pt_17 rfl rfl,
  fun d l0 l1 l2 l3 l4 l5 l6 w Q => px_ret (q := (.return_, 1, px_x0)) pt_17 rfl rfl,
  fun d l0 l1 l2 l3 l4 l5 l6 w Q => r_iconst pt_17 rfl (by decide),
  fun d l0 l1 l2 l3 l4 l5 l6 x w Q => px_go (q := (.istore 5, 2, px_x0)) (S' := (63, [l0, l1, l2, l3, l4, some (.int x), l6], [], w, 0)) pt_17 rfl rfl,
  fun d l1 l2 l3 l4 l5 l6 s0 a w Q => px_go (q := (.aload_n 0, 1, px_x0)) (S' := (66, [some (.ref a), l1, l2, l3, l4, l5, l6], [.ref a, s0], w, 0)) pt_17 rfl rfl,
  fun d l0 l1 l2 l3 l4 l5 l6 s1 a w Q => px_goO (q := (.getfield 12, 3, (10, 0, [(2, 0)], 0, "AllSworn$Oracle"))) (S' := fun v => (69, [l0, l1, l2, l3, l4, l5, l6], [v, s1], w, 0)) pt_17 rfl rfl,
  fun d l0 l1 l2 l3 l4 l5 l6 s1 a w Q => px_goO (q := (.getfield 44, 3, (11, 5, [(5, 0)], 0, "AllSworn$Realm"))) (S' := fun v => (72, [l0, l1, l2, l3, l4, l5, l6], [v, s1], w, 0)) pt_17 rfl rfl,
  fun d l0 l1 l2 l3 l4 l5 l6 x y w Q => r_icmp_ge pt_17 rfl rfl,
  fun d l1 l2 l3 l4 l5 l6 a w Q => px_go (q := (.aload_n 0, 1, px_x0)) (S' := (76, [some (.ref a), l1, l2, l3, l4, l5, l6], [.ref a], w, 0)) pt_17 rfl rfl,
  fun d l0 l1 l2 l3 l4 l5 l6 a w Q => px_goO (q := (.getfield 12, 3, (10, 0, [(2, 0)], 0, "AllSworn$Oracle"))) (S' := fun v => (79, [l0, l1, l2, l3, l4, l5, l6], [v], w, 0)) pt_17 rfl rfl,
  fun d l0 l1 l2 l3 l4 l6 s0 x w Q => px_go (q := (.iload 5, 2, px_x0)) (S' := (81, [l0, l1, l2, l3, l4, some (.int x), l6], [.int x, s0], w, 0)) pt_17 rfl rfl,
  fun d l0 l1 l2 l3 l4 l5 l6 v0 b w Q => r_callV (q := (.invokevirtual 62, 3, (33, 1, [(5, 47)], 0, ""))) pt_17 rfl rfl (List.forall_mem_cons.mpr ⟨⟨_, pt_47, Nat.le_of_ble_eq_true rfl, (Nat.le_of_ble_eq_true rfl), rfl⟩, fun _ h => absurd h List.not_mem_nil⟩),
  fun d l0 l1 l2 l3 l4 l5 l6 a w Q => px_go (q := (.astore 6, 2, px_x0)) (S' := (86, [l0, l1, l2, l3, l4, l5, some (.ref a)], [], w, 0)) pt_17 rfl rfl,
  fun d l0 l1 l2 l3 l4 l5 l6 w Q => px_go (q := (.astore 6, 2, px_x0)) (S' := (86, [l0, l1, l2, l3, l4, l5, some .null], [], w, 0)) pt_17 rfl rfl,
  fun d l0 l1 l2 l3 l4 l5 a w Q => px_go (q := (.aload 6, 2, px_x0)) (S' := (88, [l0, l1, l2, l3, l4, l5, some (.ref a)], [.ref a], w, 0)) pt_17 rfl rfl,
  fun d l0 l1 l2 l3 l4 l5 w Q => px_go (q := (.aload 6, 2, px_x0)) (S' := (88, [l0, l1, l2, l3, l4, l5, some .null], [.null], w, 0)) pt_17 rfl rfl,
  fun d l0 l1 l2 l3 l4 l5 l6 w Q => r_ifnullN pt_17 rfl rfl,
  fun d l0 l1 l2 l3 l4 l5 l6 a w Q => px_go (q := (.ifnull 51, 3, px_x0)) (S' := (91, [l0, l1, l2, l3, l4, l5, l6], [], w, 0)) pt_17 rfl rfl,
  fun d l0 l1 l3 l4 l5 l6 x w Q => px_go (q := (.iload_n 2, 1, px_x0)) (S' := (92, [l0, l1, some (.int x), l3, l4, l5, l6], [.int x], w, 0)) pt_17 rfl rfl,
  fun d l0 l1 l2 l3 l4 l6 s0 x w Q => px_go (q := (.iload 5, 2, px_x0)) (S' := (94, [l0, l1, l2, l3, l4, some (.int x), l6], [.int x, s0], w, 0)) pt_17 rfl rfl,
  fun d l0 l1 l2 l3 l4 l5 l6 x y w Q => px_go (q := (.ishr, 1, px_x0)) (S' := (95, [l0, l1, l2, l3, l4, l5, l6], [.int (x >>> (y &&& 31))], w, 0)) pt_17 rfl rfl,
  fun d l0 l1 l2 l3 l4 l5 l6 s0 w Q => r_iconst pt_17 rfl (by decide),
  fun d l0 l1 l2 l3 l4 l5 l6 x y w Q => px_go (q := (.iand, 1, px_x0)) (S' := (97, [l0, l1, l2, l3, l4, l5, l6], [.int (x &&& y)], w, 0)) pt_17 rfl rfl,
  fun d l0 l1 l2 l3 l4 l5 l6 x w Q => r_if_ne pt_17 rfl rfl,
  fun d l1 l2 l3 l4 l5 l6 a w Q => px_go (q := (.aload_n 0, 1, px_x0)) (S' := (101, [some (.ref a), l1, l2, l3, l4, l5, l6], [.ref a], w, 0)) pt_17 rfl rfl,
  fun d l0 l1 l2 l3 l4 l5 l6 a w Q => px_goO (q := (.getfield 18, 3, (10, 1, [(2, 0)], 0, "AllSworn$Oracle"))) (S' := fun v => (104, [l0, l1, l2, l3, l4, l5, l6], [v], w, 0)) pt_17 rfl rfl,
  fun d l0 l2 l3 l4 l5 l6 s0 x w Q => px_go (q := (.iload_n 1, 1, px_x0)) (S' := (105, [l0, some (.int x), l2, l3, l4, l5, l6], [.int x, s0], w, 0)) pt_17 rfl rfl,
  fun d l0 l1 l2 l3 l4 l6 s0 s1 x w Q => px_go (q := (.iload 5, 2, px_x0)) (S' := (107, [l0, l1, l2, l3, l4, some (.int x), l6], [.int x, s0, s1], w, 0)) pt_17 rfl rfl,
  fun d l0 l1 l2 l3 l4 l5 l6 x i a w Q => px_goO (q := (.iastore, 1, px_x0)) (S' := fun w' => (108, [l0, l1, l2, l3, l4, l5, l6], [], w', 0)) pt_17 rfl rfl,
  fun d l1 l2 l3 l4 l5 l6 a w Q => px_go (q := (.aload_n 0, 1, px_x0)) (S' := (109, [some (.ref a), l1, l2, l3, l4, l5, l6], [.ref a], w, 0)) pt_17 rfl rfl,
  fun d l0 l1 l2 l3 l4 l5 l6 a w Q => px_goO (q := (.getfield 12, 3, (10, 0, [(2, 0)], 0, "AllSworn$Oracle"))) (S' := fun v => (112, [l0, l1, l2, l3, l4, l5, l6], [v], w, 0)) pt_17 rfl rfl,
  fun d l0 l1 l2 l3 l4 l5 s0 a w Q => px_go (q := (.aload 6, 2, px_x0)) (S' := (114, [l0, l1, l2, l3, l4, l5, some (.ref a)], [.ref a, s0], w, 0)) pt_17 rfl rfl,
  fun d l0 l1 l2 l3 l4 l5 s0 w Q => px_go (q := (.aload 6, 2, px_x0)) (S' := (114, [l0, l1, l2, l3, l4, l5, some .null], [.null, s0], w, 0)) pt_17 rfl rfl,
  fun d l0 l1 l2 l3 l4 l5 l6 v0 b w Q => r_callV (q := (.invokevirtual 84, 3, (33, 1, [(5, 51)], 0, ""))) pt_17 rfl rfl (List.forall_mem_cons.mpr ⟨⟨_, pt_51, Nat.le_of_ble_eq_true rfl, (Nat.le_of_ble_eq_true rfl), rfl⟩, fun _ h => absurd h List.not_mem_nil⟩),
  fun d l1 l2 l3 l4 l5 l6 a w Q => px_go (q := (.aload_n 0, 1, px_x0)) (S' := (118, [some (.ref a), l1, l2, l3, l4, l5, l6], [.ref a], w, 0)) pt_17 rfl rfl,
  fun d l0 l2 l3 l4 l5 l6 s0 x w Q => px_go (q := (.iload_n 1, 1, px_x0)) (S' := (119, [l0, some (.int x), l2, l3, l4, l5, l6], [.int x, s0], w, 0)) pt_17 rfl rfl,
  fun d l0 l1 l2 l3 l4 l5 l6 s0 s1 w Q => r_iconst pt_17 rfl (by decide),
  fun d l0 l1 l2 l3 l4 l5 l6 s2 x y w Q => px_go (q := (.iadd, 1, px_x0)) (S' := (121, [l0, l1, l2, l3, l4, l5, l6], [.int (x + y), s2], w, 0)) pt_17 rfl rfl,
  fun d l0 l1 l3 l4 l5 l6 s0 s1 x w Q => px_go (q := (.iload_n 2, 1, px_x0)) (S' := (122, [l0, l1, some (.int x), l3, l4, l5, l6], [.int x, s0, s1], w, 0)) pt_17 rfl rfl,
  fun d l0 l1 l2 l3 l4 l5 l6 s0 s1 s2 w Q => r_iconst pt_17 rfl (by decide),
  fun d l0 l1 l2 l3 l4 l6 s0 s1 s2 s3 x w Q => px_go (q := (.iload 5, 2, px_x0)) (S' := (125, [l0, l1, l2, l3, l4, some (.int x), l6], [.int x, s0, s1, s2, s3], w, 0)) pt_17 rfl rfl,
  fun d l0 l1 l2 l3 l4 l5 l6 s2 s3 s4 x y w Q => px_go (q := (.ishl, 1, px_x0)) (S' := (126, [l0, l1, l2, l3, l4, l5, l6], [.int (x <<< (y &&& 31)), s2, s3, s4], w, 0)) pt_17 rfl rfl,
  fun d l0 l1 l2 l3 l4 l5 l6 s2 s3 x y w Q => px_go (q := (.ior, 1, px_x0)) (S' := (127, [l0, l1, l2, l3, l4, l5, l6], [.int (x ||| y), s2, s3], w, 0)) pt_17 rfl rfl,
  fun d l0 l1 l2 l4 l5 l6 s0 s1 s2 x w Q => px_go (q := (.iload_n 3, 1, px_x0)) (S' := (128, [l0, l1, l2, some (.int x), l4, l5, l6], [.int x, s0, s1, s2], w, 0)) pt_17 rfl rfl,
  fun d l0 l1 l2 l3 l4 l5 l6 v0 v1 v2 b w Q => r_callV (q := (.invokevirtual 76, 3, (33, 3, [(2, 17)], 0, ""))) pt_17 rfl rfl (List.forall_mem_cons.mpr ⟨⟨_, pt_17, Nat.le_of_ble_eq_true rfl, (Nat.le_of_ble_eq_true rfl), rfl⟩, fun _ h => absurd h List.not_mem_nil⟩),
  fun d l1 l2 l3 l4 l5 l6 a w Q => px_go (q := (.aload_n 0, 1, px_x0)) (S' := (132, [some (.ref a), l1, l2, l3, l4, l5, l6], [.ref a], w, 0)) pt_17 rfl rfl,
  fun d l0 l1 l2 l3 l4 l5 l6 a w Q => px_goO (q := (.getfield 12, 3, (10, 0, [(2, 0)], 0, "AllSworn$Oracle"))) (S' := fun v => (135, [l0, l1, l2, l3, l4, l5, l6], [v], w, 0)) pt_17 rfl rfl,
  fun d l0 l1 l2 l3 l4 l5 l6 b w Q => r_callV (q := (.invokevirtual 88, 3, (33, 0, [(5, 54)], 0, ""))) pt_17 rfl rfl (List.forall_mem_cons.mpr ⟨⟨_, pt_54, Nat.le_of_ble_eq_true rfl, (Nat.le_of_ble_eq_true rfl), rfl⟩, fun _ h => absurd h List.not_mem_nil⟩),
  fun d l0 l1 l2 l3 l4 l5 l6 s0 w Q => px_go (q := (.pop, 1, px_x0)) (S' := (139, [l0, l1, l2, l3, l4, l5, l6], [], w, 0)) pt_17 rfl rfl,
  fun d l0 l1 l2 l3 l4 l6 x w Q => r_iinc pt_17 rfl rfl (by decide) rfl,
  fun d l0 l1 l2 l3 l4 l5 l6 w Q => r_goto pt_17 rfl rfl,
  fun d l0 l1 l2 l3 l4 l5 l6 w Q => px_ret (q := (.return_, 1, px_x0)) pt_17 rfl rfl⟩
theorem H17_63 : ∀ (d : Nat) (l0 l1 l2 l3 l4 l6 : Option Value) (x : Int32) (w : px_H) (Q : Option Value → px_H → Prop), wp d 17 63 [l0, l1, l2, l3, l4, some (.int x), l6] [] w 0 Q ↔ wp d 17 65 [l0, l1, l2, l3, l4, some (.int x), l6] [.int x] w 0 Q := fun d l0 l1 l2 l3 l4 l6 x w Q => px_go (q := (.iload 5, 2, px_x0)) (S' := (65, [l0, l1, l2, l3, l4, some (.int x), l6], [.int x], w, 0)) pt_17 rfl rfl
/-- AllSworn$Oracle.keepWay(II)V -/
theorem S18 : (∀ (d : Nat) (v0 v1 v2 : Value) (w : px_H) (Q : Option Value → px_H → Prop), wc d 18 [v0, v1, v2] w Q ↔ wp d 18 0 [some v0, some v1, some v2] [] w 0 Q) ∧
  (∀ (d : Nat) (l1 l2 : Option Value) (a : Nat) (w : px_H) (Q : Option Value → px_H → Prop), wp d 18 0 [some (.ref a), l1, l2] [] w 0 Q ↔ wp d 18 1 [some (.ref a), l1, l2] [.ref a] w 0 Q) ∧
  (∀ (d : Nat) (l0 l1 l2 : Option Value) (a : Nat) (w : px_H) (Q : Option Value → px_H → Prop), wp d 18 1 [l0, l1, l2] [.ref a] w 0 Q ↔ px_op (px_fld w a [(2, 0)] 3) (fun v => wp d 18 4 [l0, l1, l2] [v] w 0 Q)) ∧
  (∀ (d : Nat) (l0 l1 l2 : Option Value) (s0 : Value)  (w : px_H) (Q : Option Value → px_H → Prop), wp d 18 4 [l0, l1, l2] [s0] w 0 Q ↔ wp d 18 6 [l0, l1, l2] [.int (-1000000), s0] w 0 Q) ∧
  (∀ (d : Nat) (l0 l1 l2 : Option Value) (x y : Int32) (w : px_H) (Q : Option Value → px_H → Prop), wp d 18 6 [l0, l1, l2] [.int y, .int x] w 0 Q ↔ if x = y then wp d 18 33 [l0, l1, l2] [] w 0 Q else wp d 18 9 [l0, l1, l2] [] w 0 Q) ∧
  (∀ (d : Nat) (l0 l1 : Option Value) (x : Int32) (w : px_H) (Q : Option Value → px_H → Prop), wp d 18 9 [l0, l1, some (.int x)] [] w 0 Q ↔ wp d 18 10 [l0, l1, some (.int x)] [.int x] w 0 Q) ∧
  (∀ (d : Nat) (l1 l2 : Option Value) (s0 : Value) (a : Nat) (w : px_H) (Q : Option Value → px_H → Prop), wp d 18 10 [some (.ref a), l1, l2] [s0] w 0 Q ↔ wp d 18 11 [some (.ref a), l1, l2] [.ref a, s0] w 0 Q) ∧
  (∀ (d : Nat) (l0 l1 l2 : Option Value) (s1 : Value) (a : Nat) (w : px_H) (Q : Option Value → px_H → Prop), wp d 18 11 [l0, l1, l2] [.ref a, s1] w 0 Q ↔ px_op (px_fld w a [(2, 0)] 3) (fun v => wp d 18 14 [l0, l1, l2] [v, s1] w 0 Q)) ∧
  (∀ (d : Nat) (l0 l1 l2 : Option Value) (x y : Int32) (w : px_H) (Q : Option Value → px_H → Prop), wp d 18 14 [l0, l1, l2] [.int y, .int x] w 0 Q ↔ if x < y then wp d 18 33 [l0, l1, l2] [] w 0 Q else wp d 18 17 [l0, l1, l2] [] w 0 Q) ∧
  (∀ (d : Nat) (l0 l1 : Option Value) (x : Int32) (w : px_H) (Q : Option Value → px_H → Prop), wp d 18 17 [l0, l1, some (.int x)] [] w 0 Q ↔ wp d 18 18 [l0, l1, some (.int x)] [.int x] w 0 Q) ∧
  (∀ (d : Nat) (l1 l2 : Option Value) (s0 : Value) (a : Nat) (w : px_H) (Q : Option Value → px_H → Prop), wp d 18 18 [some (.ref a), l1, l2] [s0] w 0 Q ↔ wp d 18 19 [some (.ref a), l1, l2] [.ref a, s0] w 0 Q) ∧
  (∀ (d : Nat) (l0 l1 l2 : Option Value) (s1 : Value) (a : Nat) (w : px_H) (Q : Option Value → px_H → Prop), wp d 18 19 [l0, l1, l2] [.ref a, s1] w 0 Q ↔ px_op (px_fld w a [(2, 0)] 3) (fun v => wp d 18 22 [l0, l1, l2] [v, s1] w 0 Q)) ∧
  (∀ (d : Nat) (l0 l1 l2 : Option Value) (x y : Int32) (w : px_H) (Q : Option Value → px_H → Prop), wp d 18 22 [l0, l1, l2] [.int y, .int x] w 0 Q ↔ if x = y then wp d 18 25 [l0, l1, l2] [] w 0 Q else wp d 18 57 [l0, l1, l2] [] w 0 Q) ∧
  (∀ (d : Nat) (l0 l2 : Option Value) (x : Int32) (w : px_H) (Q : Option Value → px_H → Prop), wp d 18 25 [l0, some (.int x), l2] [] w 0 Q ↔ wp d 18 26 [l0, some (.int x), l2] [.int x] w 0 Q) ∧
  (∀ (d : Nat) (l1 l2 : Option Value) (s0 : Value) (a : Nat) (w : px_H) (Q : Option Value → px_H → Prop), wp d 18 26 [some (.ref a), l1, l2] [s0] w 0 Q ↔ wp d 18 27 [some (.ref a), l1, l2] [.ref a, s0] w 0 Q) ∧
  (∀ (d : Nat) (l0 l1 l2 : Option Value) (s1 : Value) (a : Nat) (w : px_H) (Q : Option Value → px_H → Prop), wp d 18 27 [l0, l1, l2] [.ref a, s1] w 0 Q ↔ px_op (px_fld w a [(2, 0)] 4) (fun v => wp d 18 30 [l0, l1, l2] [v, s1] w 0 Q)) ∧
  (∀ (d : Nat) (l0 l1 l2 : Option Value) (x y : Int32) (w : px_H) (Q : Option Value → px_H → Prop), wp d 18 30 [l0, l1, l2] [.int y, .int x] w 0 Q ↔ if y ≤ x then wp d 18 57 [l0, l1, l2] [] w 0 Q else wp d 18 33 [l0, l1, l2] [] w 0 Q) ∧
  (∀ (d : Nat) (l1 l2 : Option Value) (a : Nat) (w : px_H) (Q : Option Value → px_H → Prop), wp d 18 33 [some (.ref a), l1, l2] [] w 0 Q ↔ wp d 18 34 [some (.ref a), l1, l2] [.ref a] w 0 Q) ∧
  (∀ (d : Nat) (l0 l1 : Option Value) (s0 : Value) (x : Int32) (w : px_H) (Q : Option Value → px_H → Prop), wp d 18 34 [l0, l1, some (.int x)] [s0] w 0 Q ↔ wp d 18 35 [l0, l1, some (.int x)] [.int x, s0] w 0 Q) ∧
  (∀ (d : Nat) (l0 l1 l2 : Option Value) (x : Int32) (a : Nat) (w : px_H) (Q : Option Value → px_H → Prop), wp d 18 35 [l0, l1, l2] [.int x, .ref a] w 0 Q ↔ px_op (px_pfd w a [(2, 0)] 3 (.int x)) (fun w' => wp d 18 38 [l0, l1, l2] [] w' 0 Q)) ∧
  (∀ (d : Nat) (l1 l2 : Option Value) (a : Nat) (w : px_H) (Q : Option Value → px_H → Prop), wp d 18 38 [some (.ref a), l1, l2] [] w 0 Q ↔ wp d 18 39 [some (.ref a), l1, l2] [.ref a] w 0 Q) ∧
  (∀ (d : Nat) (l0 l2 : Option Value) (s0 : Value) (x : Int32) (w : px_H) (Q : Option Value → px_H → Prop), wp d 18 39 [l0, some (.int x), l2] [s0] w 0 Q ↔ wp d 18 40 [l0, some (.int x), l2] [.int x, s0] w 0 Q) ∧
  (∀ (d : Nat) (l0 l1 l2 : Option Value) (x : Int32) (a : Nat) (w : px_H) (Q : Option Value → px_H → Prop), wp d 18 40 [l0, l1, l2] [.int x, .ref a] w 0 Q ↔ px_op (px_pfd w a [(2, 0)] 4 (.int x)) (fun w' => wp d 18 43 [l0, l1, l2] [] w' 0 Q)) ∧
  (∀ (d : Nat) (l1 l2 : Option Value) (a : Nat) (w : px_H) (Q : Option Value → px_H → Prop), wp d 18 43 [some (.ref a), l1, l2] [] w 0 Q ↔ wp d 18 44 [some (.ref a), l1, l2] [.ref a] w 0 Q) ∧
  (∀ (d : Nat) (l0 l1 l2 : Option Value) (a : Nat) (w : px_H) (Q : Option Value → px_H → Prop), wp d 18 44 [l0, l1, l2] [.ref a] w 0 Q ↔ px_op (px_fld w a [(2, 0)] 1) (fun v => wp d 18 47 [l0, l1, l2] [v] w 0 Q)) ∧
  (∀ (d : Nat) (l0 l1 l2 : Option Value) (s0 : Value)  (w : px_H) (Q : Option Value → px_H → Prop), wp d 18 47 [l0, l1, l2] [s0] w 0 Q ↔ wp d 18 48 [l0, l1, l2] [.int 0, s0] w 0 Q) ∧
  (∀ (d : Nat) (l1 l2 : Option Value) (s0 s1 : Value) (a : Nat) (w : px_H) (Q : Option Value → px_H → Prop), wp d 18 48 [some (.ref a), l1, l2] [s0, s1] w 0 Q ↔ wp d 18 49 [some (.ref a), l1, l2] [.ref a, s0, s1] w 0 Q) ∧
  (∀ (d : Nat) (l0 l1 l2 : Option Value) (s1 s2 : Value) (a : Nat) (w : px_H) (Q : Option Value → px_H → Prop), wp d 18 49 [l0, l1, l2] [.ref a, s1, s2] w 0 Q ↔ px_op (px_fld w a [(2, 0)] 2) (fun v => wp d 18 52 [l0, l1, l2] [v, s1, s2] w 0 Q)) ∧
  (∀ (d : Nat) (l0 l1 l2 : Option Value) (s0 s1 s2 : Value)  (w : px_H) (Q : Option Value → px_H → Prop), wp d 18 52 [l0, l1, l2] [s0, s1, s2] w 0 Q ↔ wp d 18 53 [l0, l1, l2] [.int 0, s0, s1, s2] w 0 Q) ∧
  (∀ (d : Nat) (l0 l1 l2 : Option Value) (s0 s1 s2 s3 : Value)  (w : px_H) (Q : Option Value → px_H → Prop), wp d 18 53 [l0, l1, l2] [s0, s1, s2, s3] w 0 Q ↔ wp d 18 54 [l0, l1, l2] [.int 4, s0, s1, s2, s3] w 0 Q) ∧
  (∀ (d : Nat) (l0 l1 l2 : Option Value) (n dp sp : Int32) (a b : Nat) (w : px_H) (Q : Option Value → px_H → Prop), wp d 18 54 [l0, l1, l2] [.int n, .int dp, .ref a, .int sp, .ref b] w 0 Q ↔ px_op (px_cpy w b sp a dp n) (fun w' => wp d 18 57 [l0, l1, l2] [] w' 0 Q)) ∧
  (∀ (d : Nat) (l0 l1 l2 : Option Value)  (w : px_H) (Q : Option Value → px_H → Prop), wp d 18 57 [l0, l1, l2] [] w 0 Q ↔ Q none w) := ⟨fun d v0 v1 v2 w Q => r_entry pt_18 (Nat.le_of_ble_eq_true rfl) rfl,
  fun d l1 l2 a w Q => px_go (q := (.aload_n 0, 1, px_x0)) (S' := (1, [some (.ref a), l1, l2], [.ref a], w, 0)) pt_18 rfl rfl,
  fun d l0 l1 l2 a w Q => px_goO (q := (.getfield 26, 3, (10, 3, [(2, 0)], 0, "AllSworn$Oracle"))) (S' := fun v => (4, [l0, l1, l2], [v], w, 0)) pt_18 rfl rfl,
  fun d l0 l1 l2 s0 w Q => px_go (q := (.ldc 25, 2, (0, 0, [], (-1000000), ""))) (S' := (6, [l0, l1, l2], [.int (-1000000), s0], w, 0)) pt_18 rfl rfl,
  fun d l0 l1 l2 x y w Q => r_icmp_eq pt_18 rfl rfl,
  fun d l0 l1 x w Q => px_go (q := (.iload_n 2, 1, px_x0)) (S' := (10, [l0, l1, some (.int x)], [.int x], w, 0)) pt_18 rfl rfl,
  fun d l1 l2 s0 a w Q => px_go (q := (.aload_n 0, 1, px_x0)) (S' := (11, [some (.ref a), l1, l2], [.ref a, s0], w, 0)) pt_18 rfl rfl,
  fun d l0 l1 l2 s1 a w Q => px_goO (q := (.getfield 26, 3, (10, 3, [(2, 0)], 0, "AllSworn$Oracle"))) (S' := fun v => (14, [l0, l1, l2], [v, s1], w, 0)) pt_18 rfl rfl,
  fun d l0 l1 l2 x y w Q => r_icmp_lt pt_18 rfl rfl,
  fun d l0 l1 x w Q => px_go (q := (.iload_n 2, 1, px_x0)) (S' := (18, [l0, l1, some (.int x)], [.int x], w, 0)) pt_18 rfl rfl,
  fun d l1 l2 s0 a w Q => px_go (q := (.aload_n 0, 1, px_x0)) (S' := (19, [some (.ref a), l1, l2], [.ref a, s0], w, 0)) pt_18 rfl rfl,
  fun d l0 l1 l2 s1 a w Q => px_goO (q := (.getfield 26, 3, (10, 3, [(2, 0)], 0, "AllSworn$Oracle"))) (S' := fun v => (22, [l0, l1, l2], [v, s1], w, 0)) pt_18 rfl rfl,
  fun d l0 l1 l2 x y w Q => r_icmp_ne pt_18 rfl rfl,
  fun d l0 l2 x w Q => px_go (q := (.iload_n 1, 1, px_x0)) (S' := (26, [l0, some (.int x), l2], [.int x], w, 0)) pt_18 rfl rfl,
  fun d l1 l2 s0 a w Q => px_go (q := (.aload_n 0, 1, px_x0)) (S' := (27, [some (.ref a), l1, l2], [.ref a, s0], w, 0)) pt_18 rfl rfl,
  fun d l0 l1 l2 s1 a w Q => px_goO (q := (.getfield 30, 3, (10, 4, [(2, 0)], 0, "AllSworn$Oracle"))) (S' := fun v => (30, [l0, l1, l2], [v, s1], w, 0)) pt_18 rfl rfl,
  fun d l0 l1 l2 x y w Q => r_icmp_ge pt_18 rfl rfl,
  fun d l1 l2 a w Q => px_go (q := (.aload_n 0, 1, px_x0)) (S' := (34, [some (.ref a), l1, l2], [.ref a], w, 0)) pt_18 rfl rfl,
  fun d l0 l1 s0 x w Q => px_go (q := (.iload_n 2, 1, px_x0)) (S' := (35, [l0, l1, some (.int x)], [.int x, s0], w, 0)) pt_18 rfl rfl,
  fun d l0 l1 l2 x a w Q => r_put pt_18 rfl (by simp only [List.all_cons, List.all_nil, ft_2_3, px_fit, px_isr, Bool.and_self]),
  fun d l1 l2 a w Q => px_go (q := (.aload_n 0, 1, px_x0)) (S' := (39, [some (.ref a), l1, l2], [.ref a], w, 0)) pt_18 rfl rfl,
  fun d l0 l2 s0 x w Q => px_go (q := (.iload_n 1, 1, px_x0)) (S' := (40, [l0, some (.int x), l2], [.int x, s0], w, 0)) pt_18 rfl rfl,
  fun d l0 l1 l2 x a w Q => r_put pt_18 rfl (by simp only [List.all_cons, List.all_nil, ft_2_4, px_fit, px_isr, Bool.and_self]),
  fun d l1 l2 a w Q => px_go (q := (.aload_n 0, 1, px_x0)) (S' := (44, [some (.ref a), l1, l2], [.ref a], w, 0)) pt_18 rfl rfl,
  fun d l0 l1 l2 a w Q => px_goO (q := (.getfield 18, 3, (10, 1, [(2, 0)], 0, "AllSworn$Oracle"))) (S' := fun v => (47, [l0, l1, l2], [v], w, 0)) pt_18 rfl rfl,
  fun d l0 l1 l2 s0 w Q => r_iconst pt_18 rfl (by decide),
  fun d l1 l2 s0 s1 a w Q => px_go (q := (.aload_n 0, 1, px_x0)) (S' := (49, [some (.ref a), l1, l2], [.ref a, s0, s1], w, 0)) pt_18 rfl rfl,
  fun d l0 l1 l2 s1 s2 a w Q => px_goO (q := (.getfield 22, 3, (10, 2, [(2, 0)], 0, "AllSworn$Oracle"))) (S' := fun v => (52, [l0, l1, l2], [v, s1, s2], w, 0)) pt_18 rfl rfl,
  fun d l0 l1 l2 s0 s1 s2 w Q => r_iconst pt_18 rfl (by decide),
  fun d l0 l1 l2 s0 s1 s2 s3 w Q => r_iconst pt_18 rfl (by decide),
  fun d l0 l1 l2 n dp sp a b w Q => px_goO (q := (.invokestatic 92, 3, (37, 0, [], 0, ""))) (S' := fun w' => (57, [l0, l1, l2], [], w', 0)) pt_18 rfl rfl,
  fun d l0 l1 l2 w Q => px_ret (q := (.return_, 1, px_x0)) pt_18 rfl rfl⟩
/-- AllSworn$Oracle.bestStop(I)I -/
theorem S19 : (∀ (d : Nat) (v0 v1 : Value) (w : px_H) (Q : Option Value → px_H → Prop), wc d 19 [v0, v1] w Q ↔ wp d 19 0 [some v0, some v1] [] w 0 Q) ∧
  (∀ (d : Nat) (l0 : Option Value) (x : Int32) (w : px_H) (Q : Option Value → px_H → Prop), wp d 19 0 [l0, some (.int x)] [] w 0 Q ↔ wp d 19 1 [l0, some (.int x)] [.int x] w 0 Q) ∧
  (∀ (d : Nat) (l0 l1 : Option Value) (x : Int32) (w : px_H) (Q : Option Value → px_H → Prop), wp d 19 1 [l0, l1] [.int x] w 0 Q ↔ if x < 0 then wp d 19 26 [l0, l1] [] w 0 Q else wp d 19 4 [l0, l1] [] w 0 Q) ∧
  (∀ (d : Nat) (l0 : Option Value) (x : Int32) (w : px_H) (Q : Option Value → px_H → Prop), wp d 19 4 [l0, some (.int x)] [] w 0 Q ↔ wp d 19 5 [l0, some (.int x)] [.int x] w 0 Q) ∧
  (∀ (d : Nat) (l1 : Option Value) (s0 : Value) (a : Nat) (w : px_H) (Q : Option Value → px_H → Prop), wp d 19 5 [some (.ref a), l1] [s0] w 0 Q ↔ wp d 19 6 [some (.ref a), l1] [.ref a, s0] w 0 Q) ∧
  (∀ (d : Nat) (l0 l1 : Option Value) (s1 : Value) (a : Nat) (w : px_H) (Q : Option Value → px_H → Prop), wp d 19 6 [l0, l1] [.ref a, s1] w 0 Q ↔ px_op (px_fld w a [(2, 0)] 4) (fun v => wp d 19 9 [l0, l1] [v, s1] w 0 Q)) ∧
  (∀ (d : Nat) (l0 l1 : Option Value) (x y : Int32) (w : px_H) (Q : Option Value → px_H → Prop), wp d 19 9 [l0, l1] [.int y, .int x] w 0 Q ↔ if y ≤ x then wp d 19 26 [l0, l1] [] w 0 Q else wp d 19 12 [l0, l1] [] w 0 Q) ∧
  (∀ (d : Nat) (l0 : Option Value) (x : Int32) (w : px_H) (Q : Option Value → px_H → Prop), wp d 19 12 [l0, some (.int x)] [] w 0 Q ↔ wp d 19 13 [l0, some (.int x)] [.int x] w 0 Q) ∧
  (∀ (d : Nat) (l0 l1 : Option Value) (s0 : Value)  (w : px_H) (Q : Option Value → px_H → Prop), wp d 19 13 [l0, l1] [s0] w 0 Q ↔ wp d 19 14 [l0, l1] [.int 4, s0] w 0 Q) ∧
  (∀ (d : Nat) (l0 l1 : Option Value) (x y : Int32) (w : px_H) (Q : Option Value → px_H → Prop), wp d 19 14 [l0, l1] [.int y, .int x] w 0 Q ↔ if y ≤ x then wp d 19 26 [l0, l1] [] w 0 Q else wp d 19 17 [l0, l1] [] w 0 Q) ∧
  (∀ (d : Nat) (l1 : Option Value) (a : Nat) (w : px_H) (Q : Option Value → px_H → Prop), wp d 19 17 [some (.ref a), l1] [] w 0 Q ↔ wp d 19 18 [some (.ref a), l1] [.ref a] w 0 Q) ∧
  (∀ (d : Nat) (l0 l1 : Option Value) (a : Nat) (w : px_H) (Q : Option Value → px_H → Prop), wp d 19 18 [l0, l1] [.ref a] w 0 Q ↔ px_op (px_fld w a [(2, 0)] 2) (fun v => wp d 19 21 [l0, l1] [v] w 0 Q)) ∧
  (∀ (d : Nat) (l0 : Option Value) (s0 : Value) (x : Int32) (w : px_H) (Q : Option Value → px_H → Prop), wp d 19 21 [l0, some (.int x)] [s0] w 0 Q ↔ wp d 19 22 [l0, some (.int x)] [.int x, s0] w 0 Q) ∧
  (∀ (d : Nat) (l0 l1 : Option Value) (i : Int32) (a : Nat) (w : px_H) (Q : Option Value → px_H → Prop), wp d 19 22 [l0, l1] [.int i, .ref a] w 0 Q ↔ px_op (px_ald w a i .int) (fun x => wp d 19 23 [l0, l1] [.int x] w 0 Q)) ∧
  (∀ (d : Nat) (l0 l1 : Option Value) (s0 : Value)  (w : px_H) (Q : Option Value → px_H → Prop), wp d 19 23 [l0, l1] [s0] w 0 Q ↔ wp d 19 28 [l0, l1] [s0] w 0 Q) ∧
  (∀ (d : Nat) (l0 l1 : Option Value)  (w : px_H) (Q : Option Value → px_H → Prop), wp d 19 26 [l0, l1] [] w 0 Q ↔ wp d 19 28 [l0, l1] [.int (-1000000)] w 0 Q) ∧
  (∀ (d : Nat) (l0 l1 : Option Value) (x : Int32) (w : px_H) (Q : Option Value → px_H → Prop), wp d 19 28 [l0, l1] [.int x] w 0 Q ↔ Q (some (.int x)) w) := ⟨fun d v0 v1 w Q => r_entry pt_19 (Nat.le_of_ble_eq_true rfl) rfl,
  fun d l0 x w Q => px_go (q := (.iload_n 1, 1, px_x0)) (S' := (1, [l0, some (.int x)], [.int x], w, 0)) pt_19 rfl rfl,
  fun d l0 l1 x w Q => r_if_lt pt_19 rfl rfl,
  fun d l0 x w Q => px_go (q := (.iload_n 1, 1, px_x0)) (S' := (5, [l0, some (.int x)], [.int x], w, 0)) pt_19 rfl rfl,
  fun d l1 s0 a w Q => px_go (q := (.aload_n 0, 1, px_x0)) (S' := (6, [some (.ref a), l1], [.ref a, s0], w, 0)) pt_19 rfl rfl,
  fun d l0 l1 s1 a w Q => px_goO (q := (.getfield 30, 3, (10, 4, [(2, 0)], 0, "AllSworn$Oracle"))) (S' := fun v => (9, [l0, l1], [v, s1], w, 0)) pt_19 rfl rfl,
  fun d l0 l1 x y w Q => r_icmp_ge pt_19 rfl rfl,
  fun d l0 x w Q => px_go (q := (.iload_n 1, 1, px_x0)) (S' := (13, [l0, some (.int x)], [.int x], w, 0)) pt_19 rfl rfl,
  fun d l0 l1 s0 w Q => r_iconst pt_19 rfl (by decide),
  fun d l0 l1 x y w Q => r_icmp_ge pt_19 rfl rfl,
  fun d l1 a w Q => px_go (q := (.aload_n 0, 1, px_x0)) (S' := (18, [some (.ref a), l1], [.ref a], w, 0)) pt_19 rfl rfl,
  fun d l0 l1 a w Q => px_goO (q := (.getfield 22, 3, (10, 2, [(2, 0)], 0, "AllSworn$Oracle"))) (S' := fun v => (21, [l0, l1], [v], w, 0)) pt_19 rfl rfl,
  fun d l0 s0 x w Q => px_go (q := (.iload_n 1, 1, px_x0)) (S' := (22, [l0, some (.int x)], [.int x, s0], w, 0)) pt_19 rfl rfl,
  fun d l0 l1 i a w Q => px_goO (q := (.iaload, 1, px_x0)) (S' := fun x => (23, [l0, l1], [.int x], w, 0)) pt_19 rfl rfl,
  fun d l0 l1 s0 w Q => r_goto pt_19 rfl rfl,
  fun d l0 l1 w Q => px_go (q := (.ldc 25, 2, (0, 0, [], (-1000000), ""))) (S' := (28, [l0, l1], [.int (-1000000)], w, 0)) pt_19 rfl rfl,
  fun d l0 l1 x w Q => px_ret (q := (.ireturn, 1, px_x0)) pt_19 rfl rfl⟩
/-- AllSworn$Oracle.bestDefence(LAllSworn$Realm;I)I heads: [9] -/
theorem S20 : (∀ (d : Nat) (v0 v1 v2 : Value) (w : px_H) (Q : Option Value → px_H → Prop), wc d 20 [v0, v1, v2] w Q ↔ wp d 20 0 [some v0, some v1, some v2, none, none, none, none, none] [] w 0 Q) ∧
  (∀ (d : Nat) (l0 l1 l2 l3 l4 l5 l6 l7 : Option Value)  (w : px_H) (Q : Option Value → px_H → Prop), wp d 20 0 [l0, l1, l2, l3, l4, l5, l6, l7] [] w 0 Q ↔ wp d 20 2 [l0, l1, l2, l3, l4, l5, l6, l7] [.int (-1000000)] w 0 Q) ∧
  (∀ (d : Nat) (l0 l1 l2 l3 l4 l5 l6 l7 : Option Value) (x : Int32) (w : px_H) (Q : Option Value → px_H → Prop), wp d 20 2 [l0, l1, l2, l3, l4, l5, l6, l7] [.int x] w 0 Q ↔ wp d 20 3 [l0, l1, l2, some (.int x), l4, l5, l6, l7] [] w 0 Q) ∧
  (∀ (d : Nat) (l0 l1 l2 l3 l4 l5 l6 l7 : Option Value)  (w : px_H) (Q : Option Value → px_H → Prop), wp d 20 3 [l0, l1, l2, l3, l4, l5, l6, l7] [] w 0 Q ↔ wp d 20 4 [l0, l1, l2, l3, l4, l5, l6, l7] [.int (-1)] w 0 Q) ∧
  (∀ (d : Nat) (l0 l1 l2 l3 l4 l5 l6 l7 : Option Value) (x : Int32) (w : px_H) (Q : Option Value → px_H → Prop), wp d 20 4 [l0, l1, l2, l3, l4, l5, l6, l7] [.int x] w 0 Q ↔ wp d 20 6 [l0, l1, l2, l3, some (.int x), l5, l6, l7] [] w 0 Q) ∧
  (∀ (d : Nat) (l0 l1 l2 l3 l4 l5 l6 l7 : Option Value)  (w : px_H) (Q : Option Value → px_H → Prop), wp d 20 6 [l0, l1, l2, l3, l4, l5, l6, l7] [] w 0 Q ↔ wp d 20 7 [l0, l1, l2, l3, l4, l5, l6, l7] [.int 0] w 0 Q) ∧
  (∀ (d : Nat) (l0 l1 l2 l3 l4 l5 l6 l7 : Option Value) (x : Int32) (w : px_H) (Q : Option Value → px_H → Prop), wp d 20 7 [l0, l1, l2, l3, l4, l5, l6, l7] [.int x] w 0 Q ↔ wp d 20 9 [l0, l1, l2, l3, l4, some (.int x), l6, l7] [] w 0 Q) ∧
  (∀ (d : Nat) (l0 l2 l3 l4 l5 l6 l7 : Option Value) (s0 : Value) (a : Nat) (w : px_H) (Q : Option Value → px_H → Prop), wp d 20 11 [l0, some (.ref a), l2, l3, l4, l5, l6, l7] [s0] w 0 Q ↔ wp d 20 12 [l0, some (.ref a), l2, l3, l4, l5, l6, l7] [.ref a, s0] w 0 Q) ∧
  (∀ (d : Nat) (l0 l2 l3 l4 l5 l6 l7 : Option Value) (s0 : Value)  (w : px_H) (Q : Option Value → px_H → Prop), wp d 20 11 [l0, some .null, l2, l3, l4, l5, l6, l7] [s0] w 0 Q ↔ wp d 20 12 [l0, some .null, l2, l3, l4, l5, l6, l7] [.null, s0] w 0 Q) ∧
  (∀ (d : Nat) (l0 l1 l2 l3 l4 l5 l6 l7 : Option Value) (s1 : Value) (a : Nat) (w : px_H) (Q : Option Value → px_H → Prop), wp d 20 12 [l0, l1, l2, l3, l4, l5, l6, l7] [.ref a, s1] w 0 Q ↔ px_op (px_fld w a [(5, 0)] 5) (fun v => wp d 20 15 [l0, l1, l2, l3, l4, l5, l6, l7] [v, s1] w 0 Q)) ∧
  (∀ (d : Nat) (l0 l1 l2 l3 l4 l5 l6 l7 : Option Value) (x y : Int32) (w : px_H) (Q : Option Value → px_H → Prop), wp d 20 15 [l0, l1, l2, l3, l4, l5, l6, l7] [.int y, .int x] w 0 Q ↔ if y ≤ x then wp d 20 69 [l0, l1, l2, l3, l4, l5, l6, l7] [] w 0 Q else wp d 20 18 [l0, l1, l2, l3, l4, l5, l6, l7] [] w 0 Q) ∧
  (∀ (d : Nat) (l1 l2 l3 l4 l5 l6 l7 : Option Value) (a : Nat) (w : px_H) (Q : Option Value → px_H → Prop), wp d 20 18 [some (.ref a), l1, l2, l3, l4, l5, l6, l7] [] w 0 Q ↔ wp d 20 19 [some (.ref a), l1, l2, l3, l4, l5, l6, l7] [.ref a] w 0 Q) ∧
  (∀ (d : Nat) (l0 l2 l3 l4 l5 l6 l7 : Option Value) (s0 : Value) (a : Nat) (w : px_H) (Q : Option Value → px_H → Prop), wp d 20 19 [l0, some (.ref a), l2, l3, l4, l5, l6, l7] [s0] w 0 Q ↔ wp d 20 20 [l0, some (.ref a), l2, l3, l4, l5, l6, l7] [.ref a, s0] w 0 Q) ∧
  (∀ (d : Nat) (l0 l2 l3 l4 l5 l6 l7 : Option Value) (s0 : Value)  (w : px_H) (Q : Option Value → px_H → Prop), wp d 20 19 [l0, some .null, l2, l3, l4, l5, l6, l7] [s0] w 0 Q ↔ wp d 20 20 [l0, some .null, l2, l3, l4, l5, l6, l7] [.null, s0] w 0 Q) ∧
  (∀ (d : Nat) (l0 l2 l3 l4 l5 l6 l7 : Option Value) (s0 s1 : Value) (a : Nat) (w : px_H) (Q : Option Value → px_H → Prop), wp d 20 20 [l0, some (.ref a), l2, l3, l4, l5, l6, l7] [s0, s1] w 0 Q ↔ wp d 20 21 [l0, some (.ref a), l2, l3, l4, l5, l6, l7] [.ref a, s0, s1] w 0 Q) ∧
  (∀ (d : Nat) (l0 l2 l3 l4 l5 l6 l7 : Option Value) (s0 s1 : Value)  (w : px_H) (Q : Option Value → px_H → Prop), wp d 20 20 [l0, some .null, l2, l3, l4, l5, l6, l7] [s0, s1] w 0 Q ↔ wp d 20 21 [l0, some .null, l2, l3, l4, l5, l6, l7] [.null, s0, s1] w 0 Q) ∧
  (∀ (d : Nat) (l0 l1 l2 l3 l4 l6 l7 : Option Value) (s0 s1 s2 : Value) (x : Int32) (w : px_H) (Q : Option Value → px_H → Prop), wp d 20 21 [l0, l1, l2, l3, l4, some (.int x), l6, l7] [s0, s1, s2] w 0 Q ↔ wp d 20 23 [l0, l1, l2, l3, l4, some (.int x), l6, l7] [.int x, s0, s1, s2] w 0 Q) ∧
  (∀ (d : Nat) (l0 l1 l2 l3 l4 l5 l6 l7 : Option Value) (s2 s3 : Value) (v0 : Value) (b : Nat) (w : px_H) (Q : Option Value → px_H → Prop), wp (d + 1) 20 23 [l0, l1, l2, l3, l4, l5, l6, l7] [v0, .ref b, s2, s3] w 0 Q ↔ px_op (px_tgt w b [(5, 47)]) (fun v => wc d v [.ref b, v0] w (fun r w' => wp (d + 1) 20 26 [l0, l1, l2, l3, l4, l5, l6, l7] (r.toList ++ [s2, s3]) w' 0 Q))) ∧
  (∀ (d : Nat) (l0 l1 l3 l4 l5 l6 l7 : Option Value) (s0 s1 s2 : Value) (x : Int32) (w : px_H) (Q : Option Value → px_H → Prop), wp d 20 26 [l0, l1, some (.int x), l3, l4, l5, l6, l7] [s0, s1, s2] w 0 Q ↔ wp d 20 27 [l0, l1, some (.int x), l3, l4, l5, l6, l7] [.int x, s0, s1, s2] w 0 Q) ∧
  (∀ (d : Nat) (l0 l1 l2 l3 l4 l5 l6 l7 : Option Value) (v0 v1 v2 : Value) (b : Nat) (w : px_H) (Q : Option Value → px_H → Prop), wp (d + 1) 20 27 [l0, l1, l2, l3, l4, l5, l6, l7] [v2, v1, v0, .ref b] w 0 Q ↔ px_op (px_tgt w b [(2, 21)]) (fun v => wc d v [.ref b, v0, v1, v2] w (fun r w' => wp (d + 1) 20 30 [l0, l1, l2, l3, l4, l5, l6, l7] (r.toList ++ []) w' 0 Q))) ∧
  (∀ (d : Nat) (l0 l1 l2 l3 l4 l5 l6 l7 : Option Value) (x : Int32) (w : px_H) (Q : Option Value → px_H → Prop), wp d 20 30 [l0, l1, l2, l3, l4, l5, l6, l7] [.int x] w 0 Q ↔ wp d 20 32 [l0, l1, l2, l3, l4, l5, some (.int x), l7] [] w 0 Q) ∧
  (∀ (d : Nat) (l0 l1 l2 l3 l4 l5 l7 : Option Value) (x : Int32) (w : px_H) (Q : Option Value → px_H → Prop), wp d 20 32 [l0, l1, l2, l3, l4, l5, some (.int x), l7] [] w 0 Q ↔ wp d 20 34 [l0, l1, l2, l3, l4, l5, some (.int x), l7] [.int x] w 0 Q) ∧
  (∀ (d : Nat) (l0 l1 l2 l3 l4 l5 l6 l7 : Option Value) (s0 : Value)  (w : px_H) (Q : Option Value → px_H → Prop), wp d 20 34 [l0, l1, l2, l3, l4, l5, l6, l7] [s0] w 0 Q ↔ wp d 20 36 [l0, l1, l2, l3, l4, l5, l6, l7] [.int (-1000000), s0] w 0 Q) ∧
  (∀ (d : Nat) (l0 l1 l2 l3 l4 l5 l6 l7 : Option Value) (x y : Int32) (w : px_H) (Q : Option Value → px_H → Prop), wp d 20 36 [l0, l1, l2, l3, l4, l5, l6, l7] [.int y, .int x] w 0 Q ↔ if x = y then wp d 20 39 [l0, l1, l2, l3, l4, l5, l6, l7] [] w 0 Q else wp d 20 45 [l0, l1, l2, l3, l4, l5, l6, l7] [] w 0 Q) ∧
  (∀ (d : Nat) (l0 l1 l2 l3 l4 l5 l6 l7 : Option Value)  (w : px_H) (Q : Option Value → px_H → Prop), wp d 20 39 [l0, l1, l2, l3, l4, l5, l6, l7] [] w 0 Q ↔ wp d 20 42 [l0, l1, l2, l3, l4, l5, l6, l7] [.int 161] w 0 Q) ∧
  (∀ (d : Nat) (l0 l1 l2 l3 l4 l5 l6 l7 : Option Value) (s0 : Value)  (w : px_H) (Q : Option Value → px_H → Prop), wp d 20 42 [l0, l1, l2, l3, l4, l5, l6, l7] [s0] w 0 Q ↔ wp d 20 47 [l0, l1, l2, l3, l4, l5, l6, l7] [s0] w 0 Q) ∧
  (∀ (d : Nat) (l0 l1 l2 l3 l4 l5 l7 : Option Value) (x : Int32) (w : px_H) (Q : Option Value → px_H → Prop), wp d 20 45 [l0, l1, l2, l3, l4, l5, some (.int x), l7] [] w 0 Q ↔ wp d 20 47 [l0, l1, l2, l3, l4, l5, some (.int x), l7] [.int x] w 0 Q) ∧
  (∀ (d : Nat) (l0 l1 l2 l3 l4 l5 l6 l7 : Option Value) (x : Int32) (w : px_H) (Q : Option Value → px_H → Prop), wp d 20 47 [l0, l1, l2, l3, l4, l5, l6, l7] [.int x] w 0 Q ↔ wp d 20 49 [l0, l1, l2, l3, l4, l5, l6, some (.int x)] [] w 0 Q) ∧
  (∀ (d : Nat) (l0 l1 l2 l3 l4 l5 l6 : Option Value) (x : Int32) (w : px_H) (Q : Option Value → px_H → Prop), wp d 20 49 [l0, l1, l2, l3, l4, l5, l6, some (.int x)] [] w 0 Q ↔ wp d 20 51 [l0, l1, l2, l3, l4, l5, l6, some (.int x)] [.int x] w 0 Q) ∧
  (∀ (d : Nat) (l0 l1 l2 l3 l5 l6 l7 : Option Value) (s0 : Value) (x : Int32) (w : px_H) (Q : Option Value → px_H → Prop), wp d 20 51 [l0, l1, l2, l3, some (.int x), l5, l6, l7] [s0] w 0 Q ↔ wp d 20 53 [l0, l1, l2, l3, some (.int x), l5, l6, l7] [.int x, s0] w 0 Q) ∧
  (∀ (d : Nat) (l0 l1 l2 l3 l4 l5 l6 l7 : Option Value) (x y : Int32) (w : px_H) (Q : Option Value → px_H → Prop), wp d 20 53 [l0, l1, l2, l3, l4, l5, l6, l7] [.int y, .int x] w 0 Q ↔ if x ≤ y then wp d 20 63 [l0, l1, l2, l3, l4, l5, l6, l7] [] w 0 Q else wp d 20 56 [l0, l1, l2, l3, l4, l5, l6, l7] [] w 0 Q) ∧
  (∀ (d : Nat) (l0 l1 l2 l3 l4 l6 l7 : Option Value) (x : Int32) (w : px_H) (Q : Option Value → px_H → Prop), wp d 20 56 [l0, l1, l2, l3, l4, some (.int x), l6, l7] [] w 0 Q ↔ wp d 20 58 [l0, l1, l2, l3, l4, some (.int x), l6, l7] [.int x] w 0 Q) ∧
  (∀ (d : Nat) (l0 l1 l2 l3 l4 l5 l6 l7 : Option Value) (x : Int32) (w : px_H) (Q : Option Value → px_H → Prop), wp d 20 58 [l0, l1, l2, l3, l4, l5, l6, l7] [.int x] w 0 Q ↔ wp d 20 59 [l0, l1, l2, some (.int x), l4, l5, l6, l7] [] w 0 Q) ∧
  (∀ (d : Nat) (l0 l1 l2 l3 l4 l5 l6 : Option Value) (x : Int32) (w : px_H) (Q : Option Value → px_H → Prop), wp d 20 59 [l0, l1, l2, l3, l4, l5, l6, some (.int x)] [] w 0 Q ↔ wp d 20 61 [l0, l1, l2, l3, l4, l5, l6, some (.int x)] [.int x] w 0 Q) ∧
  (∀ (d : Nat) (l0 l1 l2 l3 l4 l5 l6 l7 : Option Value) (x : Int32) (w : px_H) (Q : Option Value → px_H → Prop), wp d 20 61 [l0, l1, l2, l3, l4, l5, l6, l7] [.int x] w 0 Q ↔ wp d 20 63 [l0, l1, l2, l3, some (.int x), l5, l6, l7] [] w 0 Q) ∧
  (∀ (d : Nat) (l0 l1 l2 l3 l4 l6 l7 : Option Value) (x : Int32) (w : px_H) (Q : Option Value → px_H → Prop), wp d 20 63 [l0, l1, l2, l3, l4, some (.int x), l6, l7] [] w 0 Q ↔ wp d 20 66 [l0, l1, l2, l3, l4, some (.int (x + 1)), l6, l7] [] w 0 Q) ∧
  (∀ (d : Nat) (l0 l1 l2 l3 l4 l5 l6 l7 : Option Value)  (w : px_H) (Q : Option Value → px_H → Prop), wp d 20 66 [l0, l1, l2, l3, l4, l5, l6, l7] [] w 0 Q ↔ wp d 20 9 [l0, l1, l2, l3, l4, l5, l6, l7] [] w 0 Q) ∧
  (∀ (d : Nat) (l0 l1 l2 l4 l5 l6 l7 : Option Value) (x : Int32) (w : px_H) (Q : Option Value → px_H → Prop), wp d 20 69 [l0, l1, l2, some (.int x), l4, l5, l6, l7] [] w 0 Q ↔ wp d 20 70 [l0, l1, l2, some (.int x), l4, l5, l6, l7] [.int x] w 0 Q) ∧
  (∀ (d : Nat) (l0 l1 l2 l3 l4 l5 l6 l7 : Option Value) (x : Int32) (w : px_H) (Q : Option Value → px_H → Prop), wp d 20 70 [l0, l1, l2, l3, l4, l5, l6, l7] [.int x] w 0 Q ↔ Q (some (.int x)) w) := ⟨fun d v0 v1 v2 w Q => r_entry pt_20 (Nat.le_of_ble_eq_true rfl) rfl,
  fun d l0 l1 l2 l3 l4 l5 l6 l7 w Q => px_go (q := (.ldc 25, 2, (0, 0, [], (-1000000), ""))) (S' := (2, [l0, l1, l2, l3, l4, l5, l6, l7], [.int (-1000000)], w, 0)) pt_20 rfl rfl,
  fun d l0 l1 l2 l3 l4 l5 l6 l7 x w Q => px_go (q := (.istore_n 3, 1, px_x0)) (S' := (3, [l0, l1, l2, some (.int x), l4, l5, l6, l7], [], w, 0)) pt_20 rfl rfl,
  fun d l0 l1 l2 l3 l4 l5 l6 l7 w Q => r_iconst pt_20 rfl (by decide),
  fun d l0 l1 l2 l3 l4 l5 l6 l7 x w Q => px_go (q := (.istore 4, 2, px_x0)) (S' := (6, [l0, l1, l2, l3, some (.int x), l5, l6, l7], [], w, 0)) pt_20 rfl rfl,
  fun d l0 l1 l2 l3 l4 l5 l6 l7 w Q => r_iconst pt_20 rfl (by decide),
  fun d l0 l1 l2 l3 l4 l5 l6 l7 x w Q => px_go (q := (.istore 5, 2, px_x0)) (S' := (9, [l0, l1, l2, l3, l4, some (.int x), l6, l7], [], w, 0)) pt_20 rfl rfl,
  fun d l0 l2 l3 l4 l5 l6 l7 s0 a w Q => px_go (q := (.aload_n 1, 1, px_x0)) (S' := (12, [l0, some (.ref a), l2, l3, l4, l5, l6, l7], [.ref a, s0], w, 0)) pt_20 rfl rfl,
  fun d l0 l2 l3 l4 l5 l6 l7 s0 w Q => px_go (q := (.aload_n 1, 1, px_x0)) (S' := (12, [l0, some .null, l2, l3, l4, l5, l6, l7], [.null, s0], w, 0)) pt_20 rfl rfl,
  fun d l0 l1 l2 l3 l4 l5 l6 l7 s1 a w Q => px_goO (q := (.getfield 44, 3, (11, 5, [(5, 0)], 0, "AllSworn$Realm"))) (S' := fun v => (15, [l0, l1, l2, l3, l4, l5, l6, l7], [v, s1], w, 0)) pt_20 rfl rfl,
  fun d l0 l1 l2 l3 l4 l5 l6 l7 x y w Q => r_icmp_ge pt_20 rfl rfl,
  fun d l1 l2 l3 l4 l5 l6 l7 a w Q => px_go (q := (.aload_n 0, 1, px_x0)) (S' := (19, [some (.ref a), l1, l2, l3, l4, l5, l6, l7], [.ref a], w, 0)) pt_20 rfl rfl,
  fun d l0 l2 l3 l4 l5 l6 l7 s0 a w Q => px_go (q := (.aload_n 1, 1, px_x0)) (S' := (20, [l0, some (.ref a), l2, l3, l4, l5, l6, l7], [.ref a, s0], w, 0)) pt_20 rfl rfl,
  fun d l0 l2 l3 l4 l5 l6 l7 s0 w Q => px_go (q := (.aload_n 1, 1, px_x0)) (S' := (20, [l0, some .null, l2, l3, l4, l5, l6, l7], [.null, s0], w, 0)) pt_20 rfl rfl,
  fun d l0 l2 l3 l4 l5 l6 l7 s0 s1 a w Q => px_go (q := (.aload_n 1, 1, px_x0)) (S' := (21, [l0, some (.ref a), l2, l3, l4, l5, l6, l7], [.ref a, s0, s1], w, 0)) pt_20 rfl rfl,
  fun d l0 l2 l3 l4 l5 l6 l7 s0 s1 w Q => px_go (q := (.aload_n 1, 1, px_x0)) (S' := (21, [l0, some .null, l2, l3, l4, l5, l6, l7], [.null, s0, s1], w, 0)) pt_20 rfl rfl,
  fun d l0 l1 l2 l3 l4 l6 l7 s0 s1 s2 x w Q => px_go (q := (.iload 5, 2, px_x0)) (S' := (23, [l0, l1, l2, l3, l4, some (.int x), l6, l7], [.int x, s0, s1, s2], w, 0)) pt_20 rfl rfl,
  fun d l0 l1 l2 l3 l4 l5 l6 l7 s2 s3 v0 b w Q => r_callV (q := (.invokevirtual 62, 3, (33, 1, [(5, 47)], 0, ""))) pt_20 rfl rfl (List.forall_mem_cons.mpr ⟨⟨_, pt_47, Nat.le_of_ble_eq_true rfl, (Nat.le_of_ble_eq_true rfl), rfl⟩, fun _ h => absurd h List.not_mem_nil⟩),
  fun d l0 l1 l3 l4 l5 l6 l7 s0 s1 s2 x w Q => px_go (q := (.iload_n 2, 1, px_x0)) (S' := (27, [l0, l1, some (.int x), l3, l4, l5, l6, l7], [.int x, s0, s1, s2], w, 0)) pt_20 rfl rfl,
  fun d l0 l1 l2 l3 l4 l5 l6 l7 v0 v1 v2 b w Q => r_callV (q := (.invokevirtual 98, 3, (33, 3, [(2, 21)], 0, ""))) pt_20 rfl rfl (List.forall_mem_cons.mpr ⟨⟨_, pt_21, Nat.le_of_ble_eq_true rfl, (Nat.le_of_ble_eq_true rfl), rfl⟩, fun _ h => absurd h List.not_mem_nil⟩),
  fun d l0 l1 l2 l3 l4 l5 l6 l7 x w Q => px_go (q := (.istore 6, 2, px_x0)) (S' := (32, [l0, l1, l2, l3, l4, l5, some (.int x), l7], [], w, 0)) pt_20 rfl rfl,
  fun d l0 l1 l2 l3 l4 l5 l7 x w Q => px_go (q := (.iload 6, 2, px_x0)) (S' := (34, [l0, l1, l2, l3, l4, l5, some (.int x), l7], [.int x], w, 0)) pt_20 rfl rfl,
  fun d l0 l1 l2 l3 l4 l5 l6 l7 s0 w Q => px_go (q := (.ldc 25, 2, (0, 0, [], (-1000000), ""))) (S' := (36, [l0, l1, l2, l3, l4, l5, l6, l7], [.int (-1000000), s0], w, 0)) pt_20 rfl rfl,
  fun d l0 l1 l2 l3 l4 l5 l6 l7 x y w Q => r_icmp_ne pt_20 rfl rfl,
  fun d l0 l1 l2 l3 l4 l5 l6 l7 w Q => r_sipush pt_20 rfl (by decide),
  fun d l0 l1 l2 l3 l4 l5 l6 l7 s0 w Q => r_goto pt_20 rfl rfl,
  fun d l0 l1 l2 l3 l4 l5 l7 x w Q => px_go (q := (.iload 6, 2, px_x0)) (S' := (47, [l0, l1, l2, l3, l4, l5, some (.int x), l7], [.int x], w, 0)) pt_20 rfl rfl,
  fun d l0 l1 l2 l3 l4 l5 l6 l7 x w Q => px_go (q := (.istore 7, 2, px_x0)) (S' := (49, [l0, l1, l2, l3, l4, l5, l6, some (.int x)], [], w, 0)) pt_20 rfl rfl,
  fun d l0 l1 l2 l3 l4 l5 l6 x w Q => px_go (q := (.iload 7, 2, px_x0)) (S' := (51, [l0, l1, l2, l3, l4, l5, l6, some (.int x)], [.int x], w, 0)) pt_20 rfl rfl,
  fun d l0 l1 l2 l3 l5 l6 l7 s0 x w Q => px_go (q := (.iload 4, 2, px_x0)) (S' := (53, [l0, l1, l2, l3, some (.int x), l5, l6, l7], [.int x, s0], w, 0)) pt_20 rfl rfl,
  fun d l0 l1 l2 l3 l4 l5 l6 l7 x y w Q => r_icmp_le pt_20 rfl rfl,
  fun d l0 l1 l2 l3 l4 l6 l7 x w Q => px_go (q := (.iload 5, 2, px_x0)) (S' := (58, [l0, l1, l2, l3, l4, some (.int x), l6, l7], [.int x], w, 0)) pt_20 rfl rfl,
  fun d l0 l1 l2 l3 l4 l5 l6 l7 x w Q => px_go (q := (.istore_n 3, 1, px_x0)) (S' := (59, [l0, l1, l2, some (.int x), l4, l5, l6, l7], [], w, 0)) pt_20 rfl rfl,
  fun d l0 l1 l2 l3 l4 l5 l6 x w Q => px_go (q := (.iload 7, 2, px_x0)) (S' := (61, [l0, l1, l2, l3, l4, l5, l6, some (.int x)], [.int x], w, 0)) pt_20 rfl rfl,
  fun d l0 l1 l2 l3 l4 l5 l6 l7 x w Q => px_go (q := (.istore 4, 2, px_x0)) (S' := (63, [l0, l1, l2, l3, some (.int x), l5, l6, l7], [], w, 0)) pt_20 rfl rfl,
  fun d l0 l1 l2 l3 l4 l6 l7 x w Q => r_iinc pt_20 rfl rfl (by decide) rfl,
  fun d l0 l1 l2 l3 l4 l5 l6 l7 w Q => r_goto pt_20 rfl rfl,
  fun d l0 l1 l2 l4 l5 l6 l7 x w Q => px_go (q := (.iload_n 3, 1, px_x0)) (S' := (70, [l0, l1, l2, some (.int x), l4, l5, l6, l7], [.int x], w, 0)) pt_20 rfl rfl,
  fun d l0 l1 l2 l3 l4 l5 l6 l7 x w Q => px_ret (q := (.ireturn, 1, px_x0)) pt_20 rfl rfl⟩
theorem H20_9 : ∀ (d : Nat) (l0 l1 l2 l3 l4 l6 l7 : Option Value) (x : Int32) (w : px_H) (Q : Option Value → px_H → Prop), wp d 20 9 [l0, l1, l2, l3, l4, some (.int x), l6, l7] [] w 0 Q ↔ wp d 20 11 [l0, l1, l2, l3, l4, some (.int x), l6, l7] [.int x] w 0 Q := fun d l0 l1 l2 l3 l4 l6 l7 x w Q => px_go (q := (.iload 5, 2, px_x0)) (S' := (11, [l0, l1, l2, l3, l4, some (.int x), l6, l7], [.int x], w, 0)) pt_20 rfl rfl
/-- AllSworn$Oracle.priceBehind(LAllSworn$Realm;LAllSworn$Thing;I)I -/
theorem S21 : (∀ (d : Nat) (v0 v1 v2 v3 : Value) (w : px_H) (Q : Option Value → px_H → Prop), wc d 21 [v0, v1, v2, v3] w Q ↔ wp d 21 0 [some v0, some v1, some v2, some v3] [] w 0 Q) ∧
  (∀ (d : Nat) (l0 l1 l3 : Option Value) (a : Nat) (w : px_H) (Q : Option Value → px_H → Prop), wp d 21 0 [l0, l1, some (.ref a), l3] [] w 0 Q ↔ wp d 21 1 [l0, l1, some (.ref a), l3] [.ref a] w 0 Q) ∧
  (∀ (d : Nat) (l0 l1 l3 : Option Value)  (w : px_H) (Q : Option Value → px_H → Prop), wp d 21 0 [l0, l1, some .null, l3] [] w 0 Q ↔ wp d 21 1 [l0, l1, some .null, l3] [.null] w 0 Q) ∧
  (∀ (d : Nat) (l0 l1 l2 l3 : Option Value) (a : Nat) (w : px_H) (Q : Option Value → px_H → Prop), wp d 21 1 [l0, l1, l2, l3] [.ref a] w 0 Q ↔ wp d 21 7 [l0, l1, l2, l3] [] w 0 Q) ∧
  (∀ (d : Nat) (l0 l1 l2 l3 : Option Value)  (w : px_H) (Q : Option Value → px_H → Prop), wp d 21 1 [l0, l1, l2, l3] [.null] w 0 Q ↔ wp d 21 4 [l0, l1, l2, l3] [] w 0 Q) ∧
  (∀ (d : Nat) (l0 l1 l2 l3 : Option Value)  (w : px_H) (Q : Option Value → px_H → Prop), wp d 21 4 [l0, l1, l2, l3] [] w 0 Q ↔ wp d 21 6 [l0, l1, l2, l3] [.int (-1000000)] w 0 Q) ∧
  (∀ (d : Nat) (l0 l1 l2 l3 : Option Value) (x : Int32) (w : px_H) (Q : Option Value → px_H → Prop), wp d 21 6 [l0, l1, l2, l3] [.int x] w 0 Q ↔ Q (some (.int x)) w) ∧
  (∀ (d : Nat) (l1 l2 l3 : Option Value) (a : Nat) (w : px_H) (Q : Option Value → px_H → Prop), wp d 21 7 [some (.ref a), l1, l2, l3] [] w 0 Q ↔ wp d 21 8 [some (.ref a), l1, l2, l3] [.ref a] w 0 Q) ∧
  (∀ (d : Nat) (l0 l1 l2 l3 : Option Value) (a : Nat) (w : px_H) (Q : Option Value → px_H → Prop), wp d 21 8 [l0, l1, l2, l3] [.ref a] w 0 Q ↔ px_op (px_fld w a [(2, 0)] 0) (fun v => wp d 21 11 [l0, l1, l2, l3] [v] w 0 Q)) ∧
  (∀ (d : Nat) (l0 l2 l3 : Option Value) (s0 : Value) (a : Nat) (w : px_H) (Q : Option Value → px_H → Prop), wp d 21 11 [l0, some (.ref a), l2, l3] [s0] w 0 Q ↔ wp d 21 12 [l0, some (.ref a), l2, l3] [.ref a, s0] w 0 Q) ∧
  (∀ (d : Nat) (l0 l2 l3 : Option Value) (s0 : Value)  (w : px_H) (Q : Option Value → px_H → Prop), wp d 21 11 [l0, some .null, l2, l3] [s0] w 0 Q ↔ wp d 21 12 [l0, some .null, l2, l3] [.null, s0] w 0 Q) ∧
  (∀ (d : Nat) (l0 l1 l2 l3 : Option Value) (v0 : Value) (b : Nat) (w : px_H) (Q : Option Value → px_H → Prop), wp (d + 1) 21 12 [l0, l1, l2, l3] [v0, .ref b] w 0 Q ↔ px_op (px_tgt w b [(5, 46)]) (fun v => wc d v [.ref b, v0] w (fun r w' => wp (d + 1) 21 15 [l0, l1, l2, l3] (r.toList ++ []) w' 0 Q))) ∧
  (∀ (d : Nat) (l1 l2 l3 : Option Value) (a : Nat) (w : px_H) (Q : Option Value → px_H → Prop), wp d 21 15 [some (.ref a), l1, l2, l3] [] w 0 Q ↔ wp d 21 16 [some (.ref a), l1, l2, l3] [.ref a] w 0 Q) ∧
  (∀ (d : Nat) (l0 l1 l2 l3 : Option Value) (a : Nat) (w : px_H) (Q : Option Value → px_H → Prop), wp d 21 16 [l0, l1, l2, l3] [.ref a] w 0 Q ↔ px_op (px_fld w a [(2, 0)] 0) (fun v => wp d 21 19 [l0, l1, l2, l3] [v] w 0 Q)) ∧
  (∀ (d : Nat) (l0 l1 l3 : Option Value) (s0 : Value) (a : Nat) (w : px_H) (Q : Option Value → px_H → Prop), wp d 21 19 [l0, l1, some (.ref a), l3] [s0] w 0 Q ↔ wp d 21 20 [l0, l1, some (.ref a), l3] [.ref a, s0] w 0 Q) ∧
  (∀ (d : Nat) (l0 l1 l3 : Option Value) (s0 : Value)  (w : px_H) (Q : Option Value → px_H → Prop), wp d 21 19 [l0, l1, some .null, l3] [s0] w 0 Q ↔ wp d 21 20 [l0, l1, some .null, l3] [.null, s0] w 0 Q) ∧
  (∀ (d : Nat) (l0 l1 l2 l3 : Option Value) (v0 : Value) (b : Nat) (w : px_H) (Q : Option Value → px_H → Prop), wp (d + 1) 21 20 [l0, l1, l2, l3] [v0, .ref b] w 0 Q ↔ px_op (px_tgt w b [(5, 51)]) (fun v => wc d v [.ref b, v0] w (fun r w' => wp (d + 1) 21 23 [l0, l1, l2, l3] (r.toList ++ []) w' 0 Q))) ∧
  (∀ (d : Nat) (l1 l2 l3 : Option Value) (a : Nat) (w : px_H) (Q : Option Value → px_H → Prop), wp d 21 23 [some (.ref a), l1, l2, l3] [] w 0 Q ↔ wp d 21 24 [some (.ref a), l1, l2, l3] [.ref a] w 0 Q) ∧
  (∀ (d : Nat) (l0 l1 l2 l3 : Option Value) (a : Nat) (w : px_H) (Q : Option Value → px_H → Prop), wp d 21 24 [l0, l1, l2, l3] [.ref a] w 0 Q ↔ px_op (px_fld w a [(2, 0)] 0) (fun v => wp d 21 27 [l0, l1, l2, l3] [v] w 0 Q)) ∧
  (∀ (d : Nat) (l0 l1 l2 : Option Value) (s0 : Value) (x : Int32) (w : px_H) (Q : Option Value → px_H → Prop), wp d 21 27 [l0, l1, l2, some (.int x)] [s0] w 0 Q ↔ wp d 21 28 [l0, l1, l2, some (.int x)] [.int x, s0] w 0 Q) ∧
  (∀ (d : Nat) (l1 l2 l3 : Option Value) (s0 s1 : Value) (a : Nat) (w : px_H) (Q : Option Value → px_H → Prop), wp d 21 28 [some (.ref a), l1, l2, l3] [s0, s1] w 0 Q ↔ wp d 21 29 [some (.ref a), l1, l2, l3] [.ref a, s0, s1] w 0 Q) ∧
  (∀ (d : Nat) (l0 l1 l2 l3 : Option Value) (s1 s2 : Value) (a : Nat) (w : px_H) (Q : Option Value → px_H → Prop), wp d 21 29 [l0, l1, l2, l3] [.ref a, s1, s2] w 0 Q ↔ px_op (px_fld w a [(2, 0)] 0) (fun v => wp d 21 32 [l0, l1, l2, l3] [v, s1, s2] w 0 Q)) ∧
  (∀ (d : Nat) (l0 l1 l2 l3 : Option Value) (s1 s2 : Value) (a : Nat) (w : px_H) (Q : Option Value → px_H → Prop), wp d 21 32 [l0, l1, l2, l3] [.ref a, s1, s2] w 0 Q ↔ px_op (px_fld w a [(5, 0)] 8) (fun v => wp d 21 35 [l0, l1, l2, l3] [v, s1, s2] w 0 Q)) ∧
  (∀ (d : Nat) (l0 l1 l2 l3 : Option Value) (s2 : Value) (x y : Int32) (w : px_H) (Q : Option Value → px_H → Prop), wp d 21 35 [l0, l1, l2, l3] [.int y, .int x, s2] w 0 Q ↔ wp d 21 38 [l0, l1, l2, l3] [.int (if x < y then y else x), s2] w 0 Q) ∧
  (∀ (d : Nat) (l0 l1 l2 l3 : Option Value) (v0 : Value) (b : Nat) (w : px_H) (Q : Option Value → px_H → Prop), wp (d + 1) 21 38 [l0, l1, l2, l3] [v0, .ref b] w 0 Q ↔ px_op (px_tgt w b [(5, 63)]) (fun v => wc d v [.ref b, v0] w (fun r w' => wp (d + 1) 21 41 [l0, l1, l2, l3] (r.toList ++ []) w' 0 Q))) ∧
  (∀ (d : Nat) (l0 l1 l2 l3 : Option Value) (x : Int32) (w : px_H) (Q : Option Value → px_H → Prop), wp d 21 41 [l0, l1, l2, l3] [.int x] w 0 Q ↔ Q (some (.int x)) w) := ⟨fun d v0 v1 v2 v3 w Q => r_entry pt_21 (Nat.le_of_ble_eq_true rfl) rfl,
  fun d l0 l1 l3 a w Q => px_go (q := (.aload_n 2, 1, px_x0)) (S' := (1, [l0, l1, some (.ref a), l3], [.ref a], w, 0)) pt_21 rfl rfl,
  fun d l0 l1 l3 w Q => px_go (q := (.aload_n 2, 1, px_x0)) (S' := (1, [l0, l1, some .null, l3], [.null], w, 0)) pt_21 rfl rfl,
  fun d l0 l1 l2 l3 a w Q => r_ifnonnull pt_21 rfl rfl,
  fun d l0 l1 l2 l3 w Q => px_go (q := (.ifnonnull 6, 3, px_x0)) (S' := (4, [l0, l1, l2, l3], [], w, 0)) pt_21 rfl rfl,
  fun d l0 l1 l2 l3 w Q => px_go (q := (.ldc 25, 2, (0, 0, [], (-1000000), ""))) (S' := (6, [l0, l1, l2, l3], [.int (-1000000)], w, 0)) pt_21 rfl rfl,
  fun d l0 l1 l2 l3 x w Q => px_ret (q := (.ireturn, 1, px_x0)) pt_21 rfl rfl,
  fun d l1 l2 l3 a w Q => px_go (q := (.aload_n 0, 1, px_x0)) (S' := (8, [some (.ref a), l1, l2, l3], [.ref a], w, 0)) pt_21 rfl rfl,
  fun d l0 l1 l2 l3 a w Q => px_goO (q := (.getfield 12, 3, (10, 0, [(2, 0)], 0, "AllSworn$Oracle"))) (S' := fun v => (11, [l0, l1, l2, l3], [v], w, 0)) pt_21 rfl rfl,
  fun d l0 l2 l3 s0 a w Q => px_go (q := (.aload_n 1, 1, px_x0)) (S' := (12, [l0, some (.ref a), l2, l3], [.ref a, s0], w, 0)) pt_21 rfl rfl,
  fun d l0 l2 l3 s0 w Q => px_go (q := (.aload_n 1, 1, px_x0)) (S' := (12, [l0, some .null, l2, l3], [.null, s0], w, 0)) pt_21 rfl rfl,
  fun d l0 l1 l2 l3 v0 b w Q => r_callV (q := (.invokevirtual 72, 3, (33, 1, [(5, 46)], 0, ""))) pt_21 rfl rfl (List.forall_mem_cons.mpr ⟨⟨_, pt_46, Nat.le_of_ble_eq_true rfl, (Nat.le_of_ble_eq_true rfl), rfl⟩, fun _ h => absurd h List.not_mem_nil⟩),
  fun d l1 l2 l3 a w Q => px_go (q := (.aload_n 0, 1, px_x0)) (S' := (16, [some (.ref a), l1, l2, l3], [.ref a], w, 0)) pt_21 rfl rfl,
  fun d l0 l1 l2 l3 a w Q => px_goO (q := (.getfield 12, 3, (10, 0, [(2, 0)], 0, "AllSworn$Oracle"))) (S' := fun v => (19, [l0, l1, l2, l3], [v], w, 0)) pt_21 rfl rfl,
  fun d l0 l1 l3 s0 a w Q => px_go (q := (.aload_n 2, 1, px_x0)) (S' := (20, [l0, l1, some (.ref a), l3], [.ref a, s0], w, 0)) pt_21 rfl rfl,
  fun d l0 l1 l3 s0 w Q => px_go (q := (.aload_n 2, 1, px_x0)) (S' := (20, [l0, l1, some .null, l3], [.null, s0], w, 0)) pt_21 rfl rfl,
  fun d l0 l1 l2 l3 v0 b w Q => r_callV (q := (.invokevirtual 84, 3, (33, 1, [(5, 51)], 0, ""))) pt_21 rfl rfl (List.forall_mem_cons.mpr ⟨⟨_, pt_51, Nat.le_of_ble_eq_true rfl, (Nat.le_of_ble_eq_true rfl), rfl⟩, fun _ h => absurd h List.not_mem_nil⟩),
  fun d l1 l2 l3 a w Q => px_go (q := (.aload_n 0, 1, px_x0)) (S' := (24, [some (.ref a), l1, l2, l3], [.ref a], w, 0)) pt_21 rfl rfl,
  fun d l0 l1 l2 l3 a w Q => px_goO (q := (.getfield 12, 3, (10, 0, [(2, 0)], 0, "AllSworn$Oracle"))) (S' := fun v => (27, [l0, l1, l2, l3], [v], w, 0)) pt_21 rfl rfl,
  fun d l0 l1 l2 s0 x w Q => px_go (q := (.iload_n 3, 1, px_x0)) (S' := (28, [l0, l1, l2, some (.int x)], [.int x, s0], w, 0)) pt_21 rfl rfl,
  fun d l1 l2 l3 s0 s1 a w Q => px_go (q := (.aload_n 0, 1, px_x0)) (S' := (29, [some (.ref a), l1, l2, l3], [.ref a, s0, s1], w, 0)) pt_21 rfl rfl,
  fun d l0 l1 l2 l3 s1 s2 a w Q => px_goO (q := (.getfield 12, 3, (10, 0, [(2, 0)], 0, "AllSworn$Oracle"))) (S' := fun v => (32, [l0, l1, l2, l3], [v, s1, s2], w, 0)) pt_21 rfl rfl,
  fun d l0 l1 l2 l3 s1 s2 a w Q => px_goO (q := (.getfield 33, 3, (11, 8, [(5, 0)], 0, "AllSworn$Realm"))) (S' := fun v => (35, [l0, l1, l2, l3], [v, s1, s2], w, 0)) pt_21 rfl rfl,
  fun d l0 l1 l2 l3 s2 x y w Q => px_go (q := (.invokestatic 102, 3, (38, 0, [], 0, ""))) (S' := (38, [l0, l1, l2, l3], [.int (if x < y then y else x), s2], w, 0)) pt_21 rfl rfl,
  fun d l0 l1 l2 l3 v0 b w Q => r_callV (q := (.invokevirtual 108, 3, (33, 1, [(5, 63)], 0, ""))) pt_21 rfl rfl (List.forall_mem_cons.mpr ⟨⟨_, pt_63, Nat.le_of_ble_eq_true rfl, (Nat.le_of_ble_eq_true rfl), rfl⟩, fun _ h => absurd h List.not_mem_nil⟩),
  fun d l0 l1 l2 l3 x w Q => px_ret (q := (.ireturn, 1, px_x0)) pt_21 rfl rfl⟩
/-- AllSworn$Oracle.leastKinds(LAllSworn$Realm;)I heads: [5] -/
theorem S22 : (∀ (d : Nat) (v0 v1 : Value) (w : px_H) (Q : Option Value → px_H → Prop), wc d 22 [v0, v1] w Q ↔ wp d 22 0 [some v0, some v1, none, none, none] [] w 0 Q) ∧
  (∀ (d : Nat) (l0 l1 l2 l3 l4 : Option Value)  (w : px_H) (Q : Option Value → px_H → Prop), wp d 22 0 [l0, l1, l2, l3, l4] [] w 0 Q ↔ wp d 22 2 [l0, l1, l2, l3, l4] [.int (-1000000)] w 0 Q) ∧
  (∀ (d : Nat) (l0 l1 l2 l3 l4 : Option Value) (x : Int32) (w : px_H) (Q : Option Value → px_H → Prop), wp d 22 2 [l0, l1, l2, l3, l4] [.int x] w 0 Q ↔ wp d 22 3 [l0, l1, some (.int x), l3, l4] [] w 0 Q) ∧
  (∀ (d : Nat) (l0 l1 l2 l3 l4 : Option Value)  (w : px_H) (Q : Option Value → px_H → Prop), wp d 22 3 [l0, l1, l2, l3, l4] [] w 0 Q ↔ wp d 22 4 [l0, l1, l2, l3, l4] [.int 0] w 0 Q) ∧
  (∀ (d : Nat) (l0 l1 l2 l3 l4 : Option Value) (x : Int32) (w : px_H) (Q : Option Value → px_H → Prop), wp d 22 4 [l0, l1, l2, l3, l4] [.int x] w 0 Q ↔ wp d 22 5 [l0, l1, l2, some (.int x), l4] [] w 0 Q) ∧
  (∀ (d : Nat) (l0 l1 l2 l3 l4 : Option Value) (s0 : Value)  (w : px_H) (Q : Option Value → px_H → Prop), wp d 22 6 [l0, l1, l2, l3, l4] [s0] w 0 Q ↔ wp d 22 8 [l0, l1, l2, l3, l4] [.int 32, s0] w 0 Q) ∧
  (∀ (d : Nat) (l0 l1 l2 l3 l4 : Option Value) (x y : Int32) (w : px_H) (Q : Option Value → px_H → Prop), wp d 22 8 [l0, l1, l2, l3, l4] [.int y, .int x] w 0 Q ↔ if y ≤ x then wp d 22 60 [l0, l1, l2, l3, l4] [] w 0 Q else wp d 22 11 [l0, l1, l2, l3, l4] [] w 0 Q) ∧
  (∀ (d : Nat) (l0 l1 l3 l4 : Option Value) (x : Int32) (w : px_H) (Q : Option Value → px_H → Prop), wp d 22 11 [l0, l1, some (.int x), l3, l4] [] w 0 Q ↔ wp d 22 12 [l0, l1, some (.int x), l3, l4] [.int x] w 0 Q) ∧
  (∀ (d : Nat) (l0 l1 l2 l3 l4 : Option Value) (s0 : Value)  (w : px_H) (Q : Option Value → px_H → Prop), wp d 22 12 [l0, l1, l2, l3, l4] [s0] w 0 Q ↔ wp d 22 14 [l0, l1, l2, l3, l4] [.int (-1000000), s0] w 0 Q) ∧
  (∀ (d : Nat) (l0 l1 l2 l3 l4 : Option Value) (x y : Int32) (w : px_H) (Q : Option Value → px_H → Prop), wp d 22 14 [l0, l1, l2, l3, l4] [.int y, .int x] w 0 Q ↔ if x = y then wp d 22 28 [l0, l1, l2, l3, l4] [] w 0 Q else wp d 22 17 [l0, l1, l2, l3, l4] [] w 0 Q) ∧
  (∀ (d : Nat) (l0 l1 l2 l4 : Option Value) (x : Int32) (w : px_H) (Q : Option Value → px_H → Prop), wp d 22 17 [l0, l1, l2, some (.int x), l4] [] w 0 Q ↔ wp d 22 18 [l0, l1, l2, some (.int x), l4] [.int x] w 0 Q) ∧
  (∀ (d : Nat) (l0 l1 l2 l3 l4 : Option Value) (v0 : Value) (w : px_H) (Q : Option Value → px_H → Prop), wp (d + 1) 22 18 [l0, l1, l2, l3, l4] [v0] w 0 Q ↔ wc d 222 [v0] w (fun r w' => wp (d + 1) 22 21 [l0, l1, l2, l3, l4] (r.toList ++ []) w' 0 Q)) ∧
  (∀ (d : Nat) (l0 l1 l3 l4 : Option Value) (s0 : Value) (x : Int32) (w : px_H) (Q : Option Value → px_H → Prop), wp d 22 21 [l0, l1, some (.int x), l3, l4] [s0] w 0 Q ↔ wp d 22 22 [l0, l1, some (.int x), l3, l4] [.int x, s0] w 0 Q) ∧
  (∀ (d : Nat) (l0 l1 l2 l3 l4 : Option Value) (s1 : Value) (v0 : Value) (w : px_H) (Q : Option Value → px_H → Prop), wp (d + 1) 22 22 [l0, l1, l2, l3, l4] [v0, s1] w 0 Q ↔ wc d 222 [v0] w (fun r w' => wp (d + 1) 22 25 [l0, l1, l2, l3, l4] (r.toList ++ [s1]) w' 0 Q)) ∧
  (∀ (d : Nat) (l0 l1 l2 l3 l4 : Option Value) (x y : Int32) (w : px_H) (Q : Option Value → px_H → Prop), wp d 22 25 [l0, l1, l2, l3, l4] [.int y, .int x] w 0 Q ↔ if y ≤ x then wp d 22 32 [l0, l1, l2, l3, l4] [] w 0 Q else wp d 22 28 [l0, l1, l2, l3, l4] [] w 0 Q) ∧
  (∀ (d : Nat) (l0 l1 l2 l3 l4 : Option Value)  (w : px_H) (Q : Option Value → px_H → Prop), wp d 22 28 [l0, l1, l2, l3, l4] [] w 0 Q ↔ wp d 22 29 [l0, l1, l2, l3, l4] [.int 1] w 0 Q) ∧
  (∀ (d : Nat) (l0 l1 l2 l3 l4 : Option Value) (s0 : Value)  (w : px_H) (Q : Option Value → px_H → Prop), wp d 22 29 [l0, l1, l2, l3, l4] [s0] w 0 Q ↔ wp d 22 33 [l0, l1, l2, l3, l4] [s0] w 0 Q) ∧
  (∀ (d : Nat) (l0 l1 l2 l3 l4 : Option Value)  (w : px_H) (Q : Option Value → px_H → Prop), wp d 22 32 [l0, l1, l2, l3, l4] [] w 0 Q ↔ wp d 22 33 [l0, l1, l2, l3, l4] [.int 0] w 0 Q) ∧
  (∀ (d : Nat) (l0 l1 l2 l3 l4 : Option Value) (x : Int32) (w : px_H) (Q : Option Value → px_H → Prop), wp d 22 33 [l0, l1, l2, l3, l4] [.int x] w 0 Q ↔ wp d 22 35 [l0, l1, l2, l3, some (.int x)] [] w 0 Q) ∧
  (∀ (d : Nat) (l0 l1 l2 l3 : Option Value) (x : Int32) (w : px_H) (Q : Option Value → px_H → Prop), wp d 22 35 [l0, l1, l2, l3, some (.int x)] [] w 0 Q ↔ wp d 22 37 [l0, l1, l2, l3, some (.int x)] [.int x] w 0 Q) ∧
  (∀ (d : Nat) (l0 l1 l2 l3 l4 : Option Value) (x : Int32) (w : px_H) (Q : Option Value → px_H → Prop), wp d 22 37 [l0, l1, l2, l3, l4] [.int x] w 0 Q ↔ if x = 0 then wp d 22 54 [l0, l1, l2, l3, l4] [] w 0 Q else wp d 22 40 [l0, l1, l2, l3, l4] [] w 0 Q) ∧
  (∀ (d : Nat) (l0 l2 l3 l4 : Option Value) (a : Nat) (w : px_H) (Q : Option Value → px_H → Prop), wp d 22 40 [l0, some (.ref a), l2, l3, l4] [] w 0 Q ↔ wp d 22 41 [l0, some (.ref a), l2, l3, l4] [.ref a] w 0 Q) ∧
  (∀ (d : Nat) (l0 l2 l3 l4 : Option Value)  (w : px_H) (Q : Option Value → px_H → Prop), wp d 22 40 [l0, some .null, l2, l3, l4] [] w 0 Q ↔ wp d 22 41 [l0, some .null, l2, l3, l4] [.null] w 0 Q) ∧
  (∀ (d : Nat) (l0 l2 l3 l4 : Option Value) (s0 : Value) (a : Nat) (w : px_H) (Q : Option Value → px_H → Prop), wp d 22 41 [l0, some (.ref a), l2, l3, l4] [s0] w 0 Q ↔ wp d 22 42 [l0, some (.ref a), l2, l3, l4] [.ref a, s0] w 0 Q) ∧
  (∀ (d : Nat) (l0 l2 l3 l4 : Option Value) (s0 : Value)  (w : px_H) (Q : Option Value → px_H → Prop), wp d 22 41 [l0, some .null, l2, l3, l4] [s0] w 0 Q ↔ wp d 22 42 [l0, some .null, l2, l3, l4] [.null, s0] w 0 Q) ∧
  (∀ (d : Nat) (l0 l1 l2 l4 : Option Value) (s0 s1 : Value) (x : Int32) (w : px_H) (Q : Option Value → px_H → Prop), wp d 22 42 [l0, l1, l2, some (.int x), l4] [s0, s1] w 0 Q ↔ wp d 22 43 [l0, l1, l2, some (.int x), l4] [.int x, s0, s1] w 0 Q) ∧
  (∀ (d : Nat) (l0 l1 l2 l3 l4 : Option Value) (s2 : Value) (v0 : Value) (b : Nat) (w : px_H) (Q : Option Value → px_H → Prop), wp (d + 1) 22 43 [l0, l1, l2, l3, l4] [v0, .ref b, s2] w 0 Q ↔ px_op (px_tgt w b [(5, 64)]) (fun v => wc d v [.ref b, v0] w (fun r w' => wp (d + 1) 22 46 [l0, l1, l2, l3, l4] (r.toList ++ [s2]) w' 0 Q))) ∧
  (∀ (d : Nat) (l0 l1 l2 l3 l4 : Option Value) (v0 : Value) (b : Nat) (w : px_H) (Q : Option Value → px_H → Prop), wp (d + 1) 22 46 [l0, l1, l2, l3, l4] [v0, .ref b] w 0 Q ↔ px_op (px_tgt w b [(5, 60)]) (fun v => wc d v [.ref b, v0] w (fun r w' => wp (d + 1) 22 49 [l0, l1, l2, l3, l4] (r.toList ++ []) w' 0 Q))) ∧
  (∀ (d : Nat) (l0 l1 l2 l3 l4 : Option Value) (x : Int32) (w : px_H) (Q : Option Value → px_H → Prop), wp d 22 49 [l0, l1, l2, l3, l4] [.int x] w 0 Q ↔ if x = 0 then wp d 22 52 [l0, l1, l2, l3, l4] [] w 0 Q else wp d 22 54 [l0, l1, l2, l3, l4] [] w 0 Q) ∧
  (∀ (d : Nat) (l0 l1 l2 l4 : Option Value) (x : Int32) (w : px_H) (Q : Option Value → px_H → Prop), wp d 22 52 [l0, l1, l2, some (.int x), l4] [] w 0 Q ↔ wp d 22 53 [l0, l1, l2, some (.int x), l4] [.int x] w 0 Q) ∧
  (∀ (d : Nat) (l0 l1 l2 l3 l4 : Option Value) (x : Int32) (w : px_H) (Q : Option Value → px_H → Prop), wp d 22 53 [l0, l1, l2, l3, l4] [.int x] w 0 Q ↔ wp d 22 54 [l0, l1, some (.int x), l3, l4] [] w 0 Q) ∧
  (∀ (d : Nat) (l0 l1 l2 l4 : Option Value) (x : Int32) (w : px_H) (Q : Option Value → px_H → Prop), wp d 22 54 [l0, l1, l2, some (.int x), l4] [] w 0 Q ↔ wp d 22 57 [l0, l1, l2, some (.int (x + 1)), l4] [] w 0 Q) ∧
  (∀ (d : Nat) (l0 l1 l2 l3 l4 : Option Value)  (w : px_H) (Q : Option Value → px_H → Prop), wp d 22 57 [l0, l1, l2, l3, l4] [] w 0 Q ↔ wp d 22 5 [l0, l1, l2, l3, l4] [] w 0 Q) ∧
  (∀ (d : Nat) (l0 l1 l3 l4 : Option Value) (x : Int32) (w : px_H) (Q : Option Value → px_H → Prop), wp d 22 60 [l0, l1, some (.int x), l3, l4] [] w 0 Q ↔ wp d 22 61 [l0, l1, some (.int x), l3, l4] [.int x] w 0 Q) ∧
  (∀ (d : Nat) (l0 l1 l2 l3 l4 : Option Value) (x : Int32) (w : px_H) (Q : Option Value → px_H → Prop), wp d 22 61 [l0, l1, l2, l3, l4] [.int x] w 0 Q ↔ Q (some (.int x)) w) := ⟨fun d v0 v1 w Q => r_entry pt_22 (Nat.le_of_ble_eq_true rfl) rfl,
  fun d l0 l1 l2 l3 l4 w Q => px_go (q := (.ldc 25, 2, (0, 0, [], (-1000000), ""))) (S' := (2, [l0, l1, l2, l3, l4], [.int (-1000000)], w, 0)) pt_22 rfl rfl,
  fun d l0 l1 l2 l3 l4 x w Q => px_go (q := (.istore_n 2, 1, px_x0)) (S' := (3, [l0, l1, some (.int x), l3, l4], [], w, 0)) pt_22 rfl rfl,
  fun d l0 l1 l2 l3 l4 w Q => r_iconst pt_22 rfl (by decide),
  fun d l0 l1 l2 l3 l4 x w Q => px_go (q := (.istore_n 3, 1, px_x0)) (S' := (5, [l0, l1, l2, some (.int x), l4], [], w, 0)) pt_22 rfl rfl,
  fun d l0 l1 l2 l3 l4 s0 w Q => r_bipush pt_22 rfl (by decide),
  fun d l0 l1 l2 l3 l4 x y w Q => r_icmp_ge pt_22 rfl rfl,
  fun d l0 l1 l3 l4 x w Q => px_go (q := (.iload_n 2, 1, px_x0)) (S' := (12, [l0, l1, some (.int x), l3, l4], [.int x], w, 0)) pt_22 rfl rfl,
  fun d l0 l1 l2 l3 l4 s0 w Q => px_go (q := (.ldc 25, 2, (0, 0, [], (-1000000), ""))) (S' := (14, [l0, l1, l2, l3, l4], [.int (-1000000), s0], w, 0)) pt_22 rfl rfl,
  fun d l0 l1 l2 l3 l4 x y w Q => r_icmp_eq pt_22 rfl rfl,
  fun d l0 l1 l2 l4 x w Q => px_go (q := (.iload_n 3, 1, px_x0)) (S' := (18, [l0, l1, l2, some (.int x), l4], [.int x], w, 0)) pt_22 rfl rfl,
  fun d l0 l1 l2 l3 l4 v0 w Q => r_call (q := (.invokestatic 47, 3, (30, 1, [(0, 222)], 0, ""))) pt_22 rfl rfl pt_222 (Nat.le_of_ble_eq_true rfl) (Nat.le_of_ble_eq_true rfl) rfl,
  fun d l0 l1 l3 l4 s0 x w Q => px_go (q := (.iload_n 2, 1, px_x0)) (S' := (22, [l0, l1, some (.int x), l3, l4], [.int x, s0], w, 0)) pt_22 rfl rfl,
  fun d l0 l1 l2 l3 l4 s1 v0 w Q => r_call (q := (.invokestatic 47, 3, (30, 1, [(0, 222)], 0, ""))) pt_22 rfl rfl pt_222 (Nat.le_of_ble_eq_true rfl) (Nat.le_of_ble_eq_true rfl) rfl,
  fun d l0 l1 l2 l3 l4 x y w Q => r_icmp_ge pt_22 rfl rfl,
  fun d l0 l1 l2 l3 l4 w Q => r_iconst pt_22 rfl (by decide),
  fun d l0 l1 l2 l3 l4 s0 w Q => r_goto pt_22 rfl rfl,
  fun d l0 l1 l2 l3 l4 w Q => r_iconst pt_22 rfl (by decide),
  fun d l0 l1 l2 l3 l4 x w Q => px_go (q := (.istore 4, 2, px_x0)) (S' := (35, [l0, l1, l2, l3, some (.int x)], [], w, 0)) pt_22 rfl rfl,
  fun d l0 l1 l2 l3 x w Q => px_go (q := (.iload 4, 2, px_x0)) (S' := (37, [l0, l1, l2, l3, some (.int x)], [.int x], w, 0)) pt_22 rfl rfl,
  fun d l0 l1 l2 l3 l4 x w Q => r_if_eq pt_22 rfl rfl,
  fun d l0 l2 l3 l4 a w Q => px_go (q := (.aload_n 1, 1, px_x0)) (S' := (41, [l0, some (.ref a), l2, l3, l4], [.ref a], w, 0)) pt_22 rfl rfl,
  fun d l0 l2 l3 l4 w Q => px_go (q := (.aload_n 1, 1, px_x0)) (S' := (41, [l0, some .null, l2, l3, l4], [.null], w, 0)) pt_22 rfl rfl,
  fun d l0 l2 l3 l4 s0 a w Q => px_go (q := (.aload_n 1, 1, px_x0)) (S' := (42, [l0, some (.ref a), l2, l3, l4], [.ref a, s0], w, 0)) pt_22 rfl rfl,
  fun d l0 l2 l3 l4 s0 w Q => px_go (q := (.aload_n 1, 1, px_x0)) (S' := (42, [l0, some .null, l2, l3, l4], [.null, s0], w, 0)) pt_22 rfl rfl,
  fun d l0 l1 l2 l4 s0 s1 x w Q => px_go (q := (.iload_n 3, 1, px_x0)) (S' := (43, [l0, l1, l2, some (.int x), l4], [.int x, s0, s1], w, 0)) pt_22 rfl rfl,
  fun d l0 l1 l2 l3 l4 s2 v0 b w Q => r_callV (q := (.invokevirtual 111, 3, (33, 1, [(5, 64)], 0, ""))) pt_22 rfl rfl (List.forall_mem_cons.mpr ⟨⟨_, pt_64, Nat.le_of_ble_eq_true rfl, (Nat.le_of_ble_eq_true rfl), rfl⟩, fun _ h => absurd h List.not_mem_nil⟩),
  fun d l0 l1 l2 l3 l4 v0 b w Q => r_callV (q := (.invokevirtual 59, 3, (33, 1, [(5, 60)], 0, ""))) pt_22 rfl rfl (List.forall_mem_cons.mpr ⟨⟨_, pt_60, Nat.le_of_ble_eq_true rfl, (Nat.le_of_ble_eq_true rfl), rfl⟩, fun _ h => absurd h List.not_mem_nil⟩),
  fun d l0 l1 l2 l3 l4 x w Q => r_if_ne pt_22 rfl rfl,
  fun d l0 l1 l2 l4 x w Q => px_go (q := (.iload_n 3, 1, px_x0)) (S' := (53, [l0, l1, l2, some (.int x), l4], [.int x], w, 0)) pt_22 rfl rfl,
  fun d l0 l1 l2 l3 l4 x w Q => px_go (q := (.istore_n 2, 1, px_x0)) (S' := (54, [l0, l1, some (.int x), l3, l4], [], w, 0)) pt_22 rfl rfl,
  fun d l0 l1 l2 l4 x w Q => r_iinc pt_22 rfl rfl (by decide) rfl,
  fun d l0 l1 l2 l3 l4 w Q => r_goto pt_22 rfl rfl,
  fun d l0 l1 l3 l4 x w Q => px_go (q := (.iload_n 2, 1, px_x0)) (S' := (61, [l0, l1, some (.int x), l3, l4], [.int x], w, 0)) pt_22 rfl rfl,
  fun d l0 l1 l2 l3 l4 x w Q => px_ret (q := (.ireturn, 1, px_x0)) pt_22 rfl rfl⟩
theorem H22_5 : ∀ (d : Nat) (l0 l1 l2 l4 : Option Value) (x : Int32) (w : px_H) (Q : Option Value → px_H → Prop), wp d 22 5 [l0, l1, l2, some (.int x), l4] [] w 0 Q ↔ wp d 22 6 [l0, l1, l2, some (.int x), l4] [.int x] w 0 Q := fun d l0 l1 l2 l4 x w Q => px_go (q := (.iload_n 3, 1, px_x0)) (S' := (6, [l0, l1, l2, some (.int x), l4], [.int x], w, 0)) pt_22 rfl rfl
/-- AllSworn$Oracle.suspects(LAllSworn$Realm;LAllSworn$Row;II)I heads: [13] -/
theorem S23 : (∀ (d : Nat) (v0 v1 v2 v3 v4 : Value) (w : px_H) (Q : Option Value → px_H → Prop), wc d 23 [v0, v1, v2, v3, v4] w Q ↔ wp d 23 0 [some v0, some v1, some v2, some v3, some v4, none, none, none] [] w 0 Q) ∧
  (∀ (d : Nat) (l0 l1 l2 l3 l4 l5 l6 l7 : Option Value)  (w : px_H) (Q : Option Value → px_H → Prop), wp d 23 0 [l0, l1, l2, l3, l4, l5, l6, l7] [] w 0 Q ↔ wp d 23 1 [l0, l1, l2, l3, l4, l5, l6, l7] [.int 1] w 0 Q) ∧
  (∀ (d : Nat) (l0 l2 l3 l4 l5 l6 l7 : Option Value) (s0 : Value) (a : Nat) (w : px_H) (Q : Option Value → px_H → Prop), wp d 23 1 [l0, some (.ref a), l2, l3, l4, l5, l6, l7] [s0] w 0 Q ↔ wp d 23 2 [l0, some (.ref a), l2, l3, l4, l5, l6, l7] [.ref a, s0] w 0 Q) ∧
  (∀ (d : Nat) (l0 l2 l3 l4 l5 l6 l7 : Option Value) (s0 : Value)  (w : px_H) (Q : Option Value → px_H → Prop), wp d 23 1 [l0, some .null, l2, l3, l4, l5, l6, l7] [s0] w 0 Q ↔ wp d 23 2 [l0, some .null, l2, l3, l4, l5, l6, l7] [.null, s0] w 0 Q) ∧
  (∀ (d : Nat) (l0 l1 l2 l3 l4 l5 l6 l7 : Option Value) (s1 : Value) (a : Nat) (w : px_H) (Q : Option Value → px_H → Prop), wp d 23 2 [l0, l1, l2, l3, l4, l5, l6, l7] [.ref a, s1] w 0 Q ↔ px_op (px_fld w a [(5, 0)] 6) (fun v => wp d 23 5 [l0, l1, l2, l3, l4, l5, l6, l7] [v, s1] w 0 Q)) ∧
  (∀ (d : Nat) (l0 l1 l2 l3 l4 l5 l6 l7 : Option Value) (x y : Int32) (w : px_H) (Q : Option Value → px_H → Prop), wp d 23 5 [l0, l1, l2, l3, l4, l5, l6, l7] [.int y, .int x] w 0 Q ↔ wp d 23 6 [l0, l1, l2, l3, l4, l5, l6, l7] [.int (x <<< (y &&& 31))] w 0 Q) ∧
  (∀ (d : Nat) (l0 l1 l2 l3 l4 l5 l6 l7 : Option Value) (s0 : Value)  (w : px_H) (Q : Option Value → px_H → Prop), wp d 23 6 [l0, l1, l2, l3, l4, l5, l6, l7] [s0] w 0 Q ↔ wp d 23 7 [l0, l1, l2, l3, l4, l5, l6, l7] [.int 1, s0] w 0 Q) ∧
  (∀ (d : Nat) (l0 l1 l2 l3 l4 l5 l6 l7 : Option Value) (x y : Int32) (w : px_H) (Q : Option Value → px_H → Prop), wp d 23 7 [l0, l1, l2, l3, l4, l5, l6, l7] [.int y, .int x] w 0 Q ↔ wp d 23 8 [l0, l1, l2, l3, l4, l5, l6, l7] [.int (x - y)] w 0 Q) ∧
  (∀ (d : Nat) (l0 l1 l2 l3 l4 l5 l6 l7 : Option Value) (x : Int32) (w : px_H) (Q : Option Value → px_H → Prop), wp d 23 8 [l0, l1, l2, l3, l4, l5, l6, l7] [.int x] w 0 Q ↔ wp d 23 10 [l0, l1, l2, l3, l4, some (.int x), l6, l7] [] w 0 Q) ∧
  (∀ (d : Nat) (l0 l1 l2 l3 l4 l5 l6 l7 : Option Value)  (w : px_H) (Q : Option Value → px_H → Prop), wp d 23 10 [l0, l1, l2, l3, l4, l5, l6, l7] [] w 0 Q ↔ wp d 23 11 [l0, l1, l2, l3, l4, l5, l6, l7] [.int 0] w 0 Q) ∧
  (∀ (d : Nat) (l0 l1 l2 l3 l4 l5 l6 l7 : Option Value) (x : Int32) (w : px_H) (Q : Option Value → px_H → Prop), wp d 23 11 [l0, l1, l2, l3, l4, l5, l6, l7] [.int x] w 0 Q ↔ wp d 23 13 [l0, l1, l2, l3, l4, l5, some (.int x), l7] [] w 0 Q) ∧
  (∀ (d : Nat) (l0 l1 l2 l3 l5 l6 l7 : Option Value) (s0 : Value) (x : Int32) (w : px_H) (Q : Option Value → px_H → Prop), wp d 23 15 [l0, l1, l2, l3, some (.int x), l5, l6, l7] [s0] w 0 Q ↔ wp d 23 17 [l0, l1, l2, l3, some (.int x), l5, l6, l7] [.int x, s0] w 0 Q) ∧
  (∀ (d : Nat) (l0 l1 l2 l3 l4 l5 l6 l7 : Option Value) (x y : Int32) (w : px_H) (Q : Option Value → px_H → Prop), wp d 23 17 [l0, l1, l2, l3, l4, l5, l6, l7] [.int y, .int x] w 0 Q ↔ if y ≤ x then wp d 23 64 [l0, l1, l2, l3, l4, l5, l6, l7] [] w 0 Q else wp d 23 20 [l0, l1, l2, l3, l4, l5, l6, l7] [] w 0 Q) ∧
  (∀ (d : Nat) (l0 l2 l3 l4 l5 l6 l7 : Option Value) (a : Nat) (w : px_H) (Q : Option Value → px_H → Prop), wp d 23 20 [l0, some (.ref a), l2, l3, l4, l5, l6, l7] [] w 0 Q ↔ wp d 23 21 [l0, some (.ref a), l2, l3, l4, l5, l6, l7] [.ref a] w 0 Q) ∧
  (∀ (d : Nat) (l0 l2 l3 l4 l5 l6 l7 : Option Value)  (w : px_H) (Q : Option Value → px_H → Prop), wp d 23 20 [l0, some .null, l2, l3, l4, l5, l6, l7] [] w 0 Q ↔ wp d 23 21 [l0, some .null, l2, l3, l4, l5, l6, l7] [.null] w 0 Q) ∧
  (∀ (d : Nat) (l0 l2 l3 l4 l5 l6 l7 : Option Value) (s0 : Value) (a : Nat) (w : px_H) (Q : Option Value → px_H → Prop), wp d 23 21 [l0, some (.ref a), l2, l3, l4, l5, l6, l7] [s0] w 0 Q ↔ wp d 23 22 [l0, some (.ref a), l2, l3, l4, l5, l6, l7] [.ref a, s0] w 0 Q) ∧
  (∀ (d : Nat) (l0 l2 l3 l4 l5 l6 l7 : Option Value) (s0 : Value)  (w : px_H) (Q : Option Value → px_H → Prop), wp d 23 21 [l0, some .null, l2, l3, l4, l5, l6, l7] [s0] w 0 Q ↔ wp d 23 22 [l0, some .null, l2, l3, l4, l5, l6, l7] [.null, s0] w 0 Q) ∧
  (∀ (d : Nat) (l0 l1 l2 l3 l4 l5 l6 l7 : Option Value) (s1 : Value) (a : Nat) (w : px_H) (Q : Option Value → px_H → Prop), wp d 23 22 [l0, l1, l2, l3, l4, l5, l6, l7] [.ref a, s1] w 0 Q ↔ px_op (px_fld w a [(5, 0)] 8) (fun v => wp d 23 25 [l0, l1, l2, l3, l4, l5, l6, l7] [v, s1] w 0 Q)) ∧
  (∀ (d : Nat) (l0 l1 l2 l3 l4 l5 l7 : Option Value) (s0 s1 : Value) (x : Int32) (w : px_H) (Q : Option Value → px_H → Prop), wp d 23 25 [l0, l1, l2, l3, l4, l5, some (.int x), l7] [s0, s1] w 0 Q ↔ wp d 23 27 [l0, l1, l2, l3, l4, l5, some (.int x), l7] [.int x, s0, s1] w 0 Q) ∧
  (∀ (d : Nat) (l0 l1 l2 l3 l4 l5 l6 l7 : Option Value) (s2 : Value) (x y : Int32) (w : px_H) (Q : Option Value → px_H → Prop), wp d 23 27 [l0, l1, l2, l3, l4, l5, l6, l7] [.int y, .int x, s2] w 0 Q ↔ wp d 23 28 [l0, l1, l2, l3, l4, l5, l6, l7] [.int (x + y), s2] w 0 Q) ∧
  (∀ (d : Nat) (l0 l1 l2 l3 l4 l5 l6 l7 : Option Value) (v0 : Value) (b : Nat) (w : px_H) (Q : Option Value → px_H → Prop), wp (d + 1) 23 28 [l0, l1, l2, l3, l4, l5, l6, l7] [v0, .ref b] w 0 Q ↔ px_op (px_tgt w b [(5, 59)]) (fun v => wc d v [.ref b, v0] w (fun r w' => wp (d + 1) 23 31 [l0, l1, l2, l3, l4, l5, l6, l7] (r.toList ++ []) w' 0 Q))) ∧
  (∀ (d : Nat) (l0 l1 l2 l3 l4 l5 l6 l7 : Option Value) (x : Int32) (w : px_H) (Q : Option Value → px_H → Prop), wp d 23 31 [l0, l1, l2, l3, l4, l5, l6, l7] [.int x] w 0 Q ↔ wp d 23 33 [l0, l1, l2, l3, l4, l5, l6, some (.int x)] [] w 0 Q) ∧
  (∀ (d : Nat) (l0 l1 l2 l3 l4 l6 l7 : Option Value) (x : Int32) (w : px_H) (Q : Option Value → px_H → Prop), wp d 23 33 [l0, l1, l2, l3, l4, some (.int x), l6, l7] [] w 0 Q ↔ wp d 23 35 [l0, l1, l2, l3, l4, some (.int x), l6, l7] [.int x] w 0 Q) ∧
  (∀ (d : Nat) (l0 l1 l3 l4 l5 l6 l7 : Option Value) (s0 : Value) (a : Nat) (w : px_H) (Q : Option Value → px_H → Prop), wp d 23 35 [l0, l1, some (.ref a), l3, l4, l5, l6, l7] [s0] w 0 Q ↔ wp d 23 36 [l0, l1, some (.ref a), l3, l4, l5, l6, l7] [.ref a, s0] w 0 Q) ∧
  (∀ (d : Nat) (l0 l1 l3 l4 l5 l6 l7 : Option Value) (s0 : Value)  (w : px_H) (Q : Option Value → px_H → Prop), wp d 23 35 [l0, l1, some .null, l3, l4, l5, l6, l7] [s0] w 0 Q ↔ wp d 23 36 [l0, l1, some .null, l3, l4, l5, l6, l7] [.null, s0] w 0 Q) ∧
  (∀ (d : Nat) (l0 l1 l2 l4 l5 l6 l7 : Option Value) (s0 s1 : Value) (x : Int32) (w : px_H) (Q : Option Value → px_H → Prop), wp d 23 36 [l0, l1, l2, some (.int x), l4, l5, l6, l7] [s0, s1] w 0 Q ↔ wp d 23 37 [l0, l1, l2, some (.int x), l4, l5, l6, l7] [.int x, s0, s1] w 0 Q) ∧
  (∀ (d : Nat) (l0 l1 l2 l3 l4 l5 l7 : Option Value) (s0 s1 s2 : Value) (x : Int32) (w : px_H) (Q : Option Value → px_H → Prop), wp d 23 37 [l0, l1, l2, l3, l4, l5, some (.int x), l7] [s0, s1, s2] w 0 Q ↔ wp d 23 39 [l0, l1, l2, l3, l4, l5, some (.int x), l7] [.int x, s0, s1, s2] w 0 Q) ∧
  (∀ (d : Nat) (l0 l1 l2 l3 l4 l5 l6 l7 : Option Value) (s2 s3 : Value) (x y : Int32) (w : px_H) (Q : Option Value → px_H → Prop), wp d 23 39 [l0, l1, l2, l3, l4, l5, l6, l7] [.int y, .int x, s2, s3] w 0 Q ↔ wp d 23 40 [l0, l1, l2, l3, l4, l5, l6, l7] [.int (x + y), s2, s3] w 0 Q) ∧
  (∀ (d : Nat) (l0 l1 l2 l3 l4 l5 l6 l7 : Option Value) (s2 : Value) (v0 : Value) (b : Nat) (w : px_H) (Q : Option Value → px_H → Prop), wp (d + 1) 23 40 [l0, l1, l2, l3, l4, l5, l6, l7] [v0, .ref b, s2] w 0 Q ↔ px_op (px_tgt w b [(6, 74)]) (fun v => wc d v [.ref b, v0] w (fun r w' => wp (d + 1) 23 43 [l0, l1, l2, l3, l4, l5, l6, l7] (r.toList ++ [s2]) w' 0 Q))) ∧
  (∀ (d : Nat) (l0 l1 l2 l3 l4 l5 l6 l7 : Option Value) (s1 : Value) (x : Int32) (w : px_H) (Q : Option Value → px_H → Prop), wp d 23 43 [l0, l1, l2, l3, l4, l5, l6, l7] [.int x, s1] w 0 Q ↔ if x = 0 then wp d 23 51 [l0, l1, l2, l3, l4, l5, l6, l7] [s1] w 0 Q else wp d 23 46 [l0, l1, l2, l3, l4, l5, l6, l7] [s1] w 0 Q) ∧
  (∀ (d : Nat) (l0 l1 l2 l3 l4 l5 l6 : Option Value) (s0 : Value) (x : Int32) (w : px_H) (Q : Option Value → px_H → Prop), wp d 23 46 [l0, l1, l2, l3, l4, l5, l6, some (.int x)] [s0] w 0 Q ↔ wp d 23 48 [l0, l1, l2, l3, l4, l5, l6, some (.int x)] [.int x, s0] w 0 Q) ∧
  (∀ (d : Nat) (l0 l1 l2 l3 l4 l5 l6 l7 : Option Value) (s0 s1 : Value)  (w : px_H) (Q : Option Value → px_H → Prop), wp d 23 48 [l0, l1, l2, l3, l4, l5, l6, l7] [s0, s1] w 0 Q ↔ wp d 23 55 [l0, l1, l2, l3, l4, l5, l6, l7] [s0, s1] w 0 Q) ∧
  (∀ (d : Nat) (l0 l1 l2 l3 l4 l5 l6 : Option Value) (s0 : Value) (x : Int32) (w : px_H) (Q : Option Value → px_H → Prop), wp d 23 51 [l0, l1, l2, l3, l4, l5, l6, some (.int x)] [s0] w 0 Q ↔ wp d 23 53 [l0, l1, l2, l3, l4, l5, l6, some (.int x)] [.int x, s0] w 0 Q) ∧
  (∀ (d : Nat) (l0 l1 l2 l3 l4 l5 l6 l7 : Option Value) (s0 s1 : Value)  (w : px_H) (Q : Option Value → px_H → Prop), wp d 23 53 [l0, l1, l2, l3, l4, l5, l6, l7] [s0, s1] w 0 Q ↔ wp d 23 54 [l0, l1, l2, l3, l4, l5, l6, l7] [.int (-1), s0, s1] w 0 Q) ∧
  (∀ (d : Nat) (l0 l1 l2 l3 l4 l5 l6 l7 : Option Value) (s2 : Value) (x y : Int32) (w : px_H) (Q : Option Value → px_H → Prop), wp d 23 54 [l0, l1, l2, l3, l4, l5, l6, l7] [.int y, .int x, s2] w 0 Q ↔ wp d 23 55 [l0, l1, l2, l3, l4, l5, l6, l7] [.int (x ^^^ y), s2] w 0 Q) ∧
  (∀ (d : Nat) (l0 l1 l2 l3 l4 l5 l6 l7 : Option Value) (x y : Int32) (w : px_H) (Q : Option Value → px_H → Prop), wp d 23 55 [l0, l1, l2, l3, l4, l5, l6, l7] [.int y, .int x] w 0 Q ↔ wp d 23 56 [l0, l1, l2, l3, l4, l5, l6, l7] [.int (x &&& y)] w 0 Q) ∧
  (∀ (d : Nat) (l0 l1 l2 l3 l4 l5 l6 l7 : Option Value) (x : Int32) (w : px_H) (Q : Option Value → px_H → Prop), wp d 23 56 [l0, l1, l2, l3, l4, l5, l6, l7] [.int x] w 0 Q ↔ wp d 23 58 [l0, l1, l2, l3, l4, some (.int x), l6, l7] [] w 0 Q) ∧
  (∀ (d : Nat) (l0 l1 l2 l3 l4 l5 l7 : Option Value) (x : Int32) (w : px_H) (Q : Option Value → px_H → Prop), wp d 23 58 [l0, l1, l2, l3, l4, l5, some (.int x), l7] [] w 0 Q ↔ wp d 23 61 [l0, l1, l2, l3, l4, l5, some (.int (x + 1)), l7] [] w 0 Q) ∧
  (∀ (d : Nat) (l0 l1 l2 l3 l4 l5 l6 l7 : Option Value)  (w : px_H) (Q : Option Value → px_H → Prop), wp d 23 61 [l0, l1, l2, l3, l4, l5, l6, l7] [] w 0 Q ↔ wp d 23 13 [l0, l1, l2, l3, l4, l5, l6, l7] [] w 0 Q) ∧
  (∀ (d : Nat) (l0 l1 l2 l3 l4 l6 l7 : Option Value) (x : Int32) (w : px_H) (Q : Option Value → px_H → Prop), wp d 23 64 [l0, l1, l2, l3, l4, some (.int x), l6, l7] [] w 0 Q ↔ wp d 23 66 [l0, l1, l2, l3, l4, some (.int x), l6, l7] [.int x] w 0 Q) ∧
  (∀ (d : Nat) (l0 l1 l2 l3 l4 l5 l6 l7 : Option Value) (x : Int32) (w : px_H) (Q : Option Value → px_H → Prop), wp d 23 66 [l0, l1, l2, l3, l4, l5, l6, l7] [.int x] w 0 Q ↔ Q (some (.int x)) w) := ⟨fun d v0 v1 v2 v3 v4 w Q => r_entry pt_23 (Nat.le_of_ble_eq_true rfl) rfl,
  fun d l0 l1 l2 l3 l4 l5 l6 l7 w Q => r_iconst pt_23 rfl (by decide),
  fun d l0 l2 l3 l4 l5 l6 l7 s0 a w Q => px_go (q := (.aload_n 1, 1, px_x0)) (S' := (2, [l0, some (.ref a), l2, l3, l4, l5, l6, l7], [.ref a, s0], w, 0)) pt_23 rfl rfl,
  fun d l0 l2 l3 l4 l5 l6 l7 s0 w Q => px_go (q := (.aload_n 1, 1, px_x0)) (S' := (2, [l0, some .null, l2, l3, l4, l5, l6, l7], [.null, s0], w, 0)) pt_23 rfl rfl,
  fun d l0 l1 l2 l3 l4 l5 l6 l7 s1 a w Q => px_goO (q := (.getfield 114, 3, (11, 6, [(5, 0)], 0, "AllSworn$Realm"))) (S' := fun v => (5, [l0, l1, l2, l3, l4, l5, l6, l7], [v, s1], w, 0)) pt_23 rfl rfl,
  fun d l0 l1 l2 l3 l4 l5 l6 l7 x y w Q => px_go (q := (.ishl, 1, px_x0)) (S' := (6, [l0, l1, l2, l3, l4, l5, l6, l7], [.int (x <<< (y &&& 31))], w, 0)) pt_23 rfl rfl,
  fun d l0 l1 l2 l3 l4 l5 l6 l7 s0 w Q => r_iconst pt_23 rfl (by decide),
  fun d l0 l1 l2 l3 l4 l5 l6 l7 x y w Q => px_go (q := (.isub, 1, px_x0)) (S' := (8, [l0, l1, l2, l3, l4, l5, l6, l7], [.int (x - y)], w, 0)) pt_23 rfl rfl,
  fun d l0 l1 l2 l3 l4 l5 l6 l7 x w Q => px_go (q := (.istore 5, 2, px_x0)) (S' := (10, [l0, l1, l2, l3, l4, some (.int x), l6, l7], [], w, 0)) pt_23 rfl rfl,
  fun d l0 l1 l2 l3 l4 l5 l6 l7 w Q => r_iconst pt_23 rfl (by decide),
  fun d l0 l1 l2 l3 l4 l5 l6 l7 x w Q => px_go (q := (.istore 6, 2, px_x0)) (S' := (13, [l0, l1, l2, l3, l4, l5, some (.int x), l7], [], w, 0)) pt_23 rfl rfl,
  fun d l0 l1 l2 l3 l5 l6 l7 s0 x w Q => px_go (q := (.iload 4, 2, px_x0)) (S' := (17, [l0, l1, l2, l3, some (.int x), l5, l6, l7], [.int x, s0], w, 0)) pt_23 rfl rfl,
  fun d l0 l1 l2 l3 l4 l5 l6 l7 x y w Q => r_icmp_ge pt_23 rfl rfl,
  fun d l0 l2 l3 l4 l5 l6 l7 a w Q => px_go (q := (.aload_n 1, 1, px_x0)) (S' := (21, [l0, some (.ref a), l2, l3, l4, l5, l6, l7], [.ref a], w, 0)) pt_23 rfl rfl,
  fun d l0 l2 l3 l4 l5 l6 l7 w Q => px_go (q := (.aload_n 1, 1, px_x0)) (S' := (21, [l0, some .null, l2, l3, l4, l5, l6, l7], [.null], w, 0)) pt_23 rfl rfl,
  fun d l0 l2 l3 l4 l5 l6 l7 s0 a w Q => px_go (q := (.aload_n 1, 1, px_x0)) (S' := (22, [l0, some (.ref a), l2, l3, l4, l5, l6, l7], [.ref a, s0], w, 0)) pt_23 rfl rfl,
  fun d l0 l2 l3 l4 l5 l6 l7 s0 w Q => px_go (q := (.aload_n 1, 1, px_x0)) (S' := (22, [l0, some .null, l2, l3, l4, l5, l6, l7], [.null, s0], w, 0)) pt_23 rfl rfl,
  fun d l0 l1 l2 l3 l4 l5 l6 l7 s1 a w Q => px_goO (q := (.getfield 33, 3, (11, 8, [(5, 0)], 0, "AllSworn$Realm"))) (S' := fun v => (25, [l0, l1, l2, l3, l4, l5, l6, l7], [v, s1], w, 0)) pt_23 rfl rfl,
  fun d l0 l1 l2 l3 l4 l5 l7 s0 s1 x w Q => px_go (q := (.iload 6, 2, px_x0)) (S' := (27, [l0, l1, l2, l3, l4, l5, some (.int x), l7], [.int x, s0, s1], w, 0)) pt_23 rfl rfl,
  fun d l0 l1 l2 l3 l4 l5 l6 l7 s2 x y w Q => px_go (q := (.iadd, 1, px_x0)) (S' := (28, [l0, l1, l2, l3, l4, l5, l6, l7], [.int (x + y), s2], w, 0)) pt_23 rfl rfl,
  fun d l0 l1 l2 l3 l4 l5 l6 l7 v0 b w Q => r_callV (q := (.invokevirtual 36, 3, (33, 1, [(5, 59)], 0, ""))) pt_23 rfl rfl (List.forall_mem_cons.mpr ⟨⟨_, pt_59, Nat.le_of_ble_eq_true rfl, (Nat.le_of_ble_eq_true rfl), rfl⟩, fun _ h => absurd h List.not_mem_nil⟩),
  fun d l0 l1 l2 l3 l4 l5 l6 l7 x w Q => px_go (q := (.istore 7, 2, px_x0)) (S' := (33, [l0, l1, l2, l3, l4, l5, l6, some (.int x)], [], w, 0)) pt_23 rfl rfl,
  fun d l0 l1 l2 l3 l4 l6 l7 x w Q => px_go (q := (.iload 5, 2, px_x0)) (S' := (35, [l0, l1, l2, l3, l4, some (.int x), l6, l7], [.int x], w, 0)) pt_23 rfl rfl,
  fun d l0 l1 l3 l4 l5 l6 l7 s0 a w Q => px_go (q := (.aload_n 2, 1, px_x0)) (S' := (36, [l0, l1, some (.ref a), l3, l4, l5, l6, l7], [.ref a, s0], w, 0)) pt_23 rfl rfl,
  fun d l0 l1 l3 l4 l5 l6 l7 s0 w Q => px_go (q := (.aload_n 2, 1, px_x0)) (S' := (36, [l0, l1, some .null, l3, l4, l5, l6, l7], [.null, s0], w, 0)) pt_23 rfl rfl,
  fun d l0 l1 l2 l4 l5 l6 l7 s0 s1 x w Q => px_go (q := (.iload_n 3, 1, px_x0)) (S' := (37, [l0, l1, l2, some (.int x), l4, l5, l6, l7], [.int x, s0, s1], w, 0)) pt_23 rfl rfl,
  fun d l0 l1 l2 l3 l4 l5 l7 s0 s1 s2 x w Q => px_go (q := (.iload 6, 2, px_x0)) (S' := (39, [l0, l1, l2, l3, l4, l5, some (.int x), l7], [.int x, s0, s1, s2], w, 0)) pt_23 rfl rfl,
  fun d l0 l1 l2 l3 l4 l5 l6 l7 s2 s3 x y w Q => px_go (q := (.iadd, 1, px_x0)) (S' := (40, [l0, l1, l2, l3, l4, l5, l6, l7], [.int (x + y), s2, s3], w, 0)) pt_23 rfl rfl,
  fun d l0 l1 l2 l3 l4 l5 l6 l7 s2 v0 b w Q => r_callV (q := (.invokevirtual 117, 3, (33, 1, [(6, 74)], 0, ""))) pt_23 rfl rfl (List.forall_mem_cons.mpr ⟨⟨_, pt_74, Nat.le_of_ble_eq_true rfl, (Nat.le_of_ble_eq_true rfl), rfl⟩, fun _ h => absurd h List.not_mem_nil⟩),
  fun d l0 l1 l2 l3 l4 l5 l6 l7 s1 x w Q => r_if_eq pt_23 rfl rfl,
  fun d l0 l1 l2 l3 l4 l5 l6 s0 x w Q => px_go (q := (.iload 7, 2, px_x0)) (S' := (48, [l0, l1, l2, l3, l4, l5, l6, some (.int x)], [.int x, s0], w, 0)) pt_23 rfl rfl,
  fun d l0 l1 l2 l3 l4 l5 l6 l7 s0 s1 w Q => r_goto pt_23 rfl rfl,
  fun d l0 l1 l2 l3 l4 l5 l6 s0 x w Q => px_go (q := (.iload 7, 2, px_x0)) (S' := (53, [l0, l1, l2, l3, l4, l5, l6, some (.int x)], [.int x, s0], w, 0)) pt_23 rfl rfl,
  fun d l0 l1 l2 l3 l4 l5 l6 l7 s0 s1 w Q => r_iconst pt_23 rfl (by decide),
  fun d l0 l1 l2 l3 l4 l5 l6 l7 s2 x y w Q => px_go (q := (.ixor, 1, px_x0)) (S' := (55, [l0, l1, l2, l3, l4, l5, l6, l7], [.int (x ^^^ y), s2], w, 0)) pt_23 rfl rfl,
  fun d l0 l1 l2 l3 l4 l5 l6 l7 x y w Q => px_go (q := (.iand, 1, px_x0)) (S' := (56, [l0, l1, l2, l3, l4, l5, l6, l7], [.int (x &&& y)], w, 0)) pt_23 rfl rfl,
  fun d l0 l1 l2 l3 l4 l5 l6 l7 x w Q => px_go (q := (.istore 5, 2, px_x0)) (S' := (58, [l0, l1, l2, l3, l4, some (.int x), l6, l7], [], w, 0)) pt_23 rfl rfl,
  fun d l0 l1 l2 l3 l4 l5 l7 x w Q => r_iinc pt_23 rfl rfl (by decide) rfl,
  fun d l0 l1 l2 l3 l4 l5 l6 l7 w Q => r_goto pt_23 rfl rfl,
  fun d l0 l1 l2 l3 l4 l6 l7 x w Q => px_go (q := (.iload 5, 2, px_x0)) (S' := (66, [l0, l1, l2, l3, l4, some (.int x), l6, l7], [.int x], w, 0)) pt_23 rfl rfl,
  fun d l0 l1 l2 l3 l4 l5 l6 l7 x w Q => px_ret (q := (.ireturn, 1, px_x0)) pt_23 rfl rfl⟩
theorem H23_13 : ∀ (d : Nat) (l0 l1 l2 l3 l4 l5 l7 : Option Value) (x : Int32) (w : px_H) (Q : Option Value → px_H → Prop), wp d 23 13 [l0, l1, l2, l3, l4, l5, some (.int x), l7] [] w 0 Q ↔ wp d 23 15 [l0, l1, l2, l3, l4, l5, some (.int x), l7] [.int x] w 0 Q := fun d l0 l1 l2 l3 l4 l5 l7 x w Q => px_go (q := (.iload 6, 2, px_x0)) (S' := (15, [l0, l1, l2, l3, l4, l5, some (.int x), l7], [.int x], w, 0)) pt_23 rfl rfl
/-- AllSworn$Oracle.leastTerm(LAllSworn$Realm;)I heads: [2] -/
theorem S24 : (∀ (d : Nat) (v0 v1 : Value) (w : px_H) (Q : Option Value → px_H → Prop), wc d 24 [v0, v1] w Q ↔ wp d 24 0 [some v0, some v1, none] [] w 0 Q) ∧
  (∀ (d : Nat) (l0 l1 l2 : Option Value)  (w : px_H) (Q : Option Value → px_H → Prop), wp d 24 0 [l0, l1, l2] [] w 0 Q ↔ wp d 24 1 [l0, l1, l2] [.int 1] w 0 Q) ∧
  (∀ (d : Nat) (l0 l1 l2 : Option Value) (x : Int32) (w : px_H) (Q : Option Value → px_H → Prop), wp d 24 1 [l0, l1, l2] [.int x] w 0 Q ↔ wp d 24 2 [l0, l1, some (.int x)] [] w 0 Q) ∧
  (∀ (d : Nat) (l0 l1 l2 : Option Value) (s0 : Value)  (w : px_H) (Q : Option Value → px_H → Prop), wp d 24 3 [l0, l1, l2] [s0] w 0 Q ↔ wp d 24 5 [l0, l1, l2] [.int 40, s0] w 0 Q) ∧
  (∀ (d : Nat) (l0 l1 l2 : Option Value) (x y : Int32) (w : px_H) (Q : Option Value → px_H → Prop), wp d 24 5 [l0, l1, l2] [.int y, .int x] w 0 Q ↔ if y < x then wp d 24 33 [l0, l1, l2] [] w 0 Q else wp d 24 8 [l0, l1, l2] [] w 0 Q) ∧
  (∀ (d : Nat) (l0 l2 : Option Value) (a : Nat) (w : px_H) (Q : Option Value → px_H → Prop), wp d 24 8 [l0, some (.ref a), l2] [] w 0 Q ↔ wp d 24 9 [l0, some (.ref a), l2] [.ref a] w 0 Q) ∧
  (∀ (d : Nat) (l0 l2 : Option Value)  (w : px_H) (Q : Option Value → px_H → Prop), wp d 24 8 [l0, some .null, l2] [] w 0 Q ↔ wp d 24 9 [l0, some .null, l2] [.null] w 0 Q) ∧
  (∀ (d : Nat) (l0 l2 : Option Value) (s0 : Value) (a : Nat) (w : px_H) (Q : Option Value → px_H → Prop), wp d 24 9 [l0, some (.ref a), l2] [s0] w 0 Q ↔ wp d 24 10 [l0, some (.ref a), l2] [.ref a, s0] w 0 Q) ∧
  (∀ (d : Nat) (l0 l2 : Option Value) (s0 : Value)  (w : px_H) (Q : Option Value → px_H → Prop), wp d 24 9 [l0, some .null, l2] [s0] w 0 Q ↔ wp d 24 10 [l0, some .null, l2] [.null, s0] w 0 Q) ∧
  (∀ (d : Nat) (l0 l2 : Option Value) (s0 s1 : Value) (a : Nat) (w : px_H) (Q : Option Value → px_H → Prop), wp d 24 10 [l0, some (.ref a), l2] [s0, s1] w 0 Q ↔ wp d 24 11 [l0, some (.ref a), l2] [.ref a, s0, s1] w 0 Q) ∧
  (∀ (d : Nat) (l0 l2 : Option Value) (s0 s1 : Value)  (w : px_H) (Q : Option Value → px_H → Prop), wp d 24 10 [l0, some .null, l2] [s0, s1] w 0 Q ↔ wp d 24 11 [l0, some .null, l2] [.null, s0, s1] w 0 Q) ∧
  (∀ (d : Nat) (l0 l1 l2 : Option Value) (s1 s2 : Value) (a : Nat) (w : px_H) (Q : Option Value → px_H → Prop), wp d 24 11 [l0, l1, l2] [.ref a, s1, s2] w 0 Q ↔ px_op (px_fld w a [(5, 0)] 8) (fun v => wp d 24 14 [l0, l1, l2] [v, s1, s2] w 0 Q)) ∧
  (∀ (d : Nat) (l0 l1 : Option Value) (s0 s1 s2 : Value) (x : Int32) (w : px_H) (Q : Option Value → px_H → Prop), wp d 24 14 [l0, l1, some (.int x)] [s0, s1, s2] w 0 Q ↔ wp d 24 15 [l0, l1, some (.int x)] [.int x, s0, s1, s2] w 0 Q) ∧
  (∀ (d : Nat) (l0 l1 l2 : Option Value) (s0 s1 s2 s3 : Value)  (w : px_H) (Q : Option Value → px_H → Prop), wp d 24 15 [l0, l1, l2] [s0, s1, s2, s3] w 0 Q ↔ wp d 24 16 [l0, l1, l2] [.int 0, s0, s1, s2, s3] w 0 Q) ∧
  (∀ (d : Nat) (l0 l1 l2 : Option Value) (s4 : Value) (v0 v1 v2 : Value) (b : Nat) (w : px_H) (Q : Option Value → px_H → Prop), wp (d + 1) 24 16 [l0, l1, l2] [v2, v1, v0, .ref b, s4] w 0 Q ↔ px_op (px_tgt w b [(5, 58)]) (fun v => wc d v [.ref b, v0, v1, v2] w (fun r w' => wp (d + 1) 24 19 [l0, l1, l2] (r.toList ++ [s4]) w' 0 Q))) ∧
  (∀ (d : Nat) (l0 l1 l2 : Option Value) (v0 : Value) (b : Nat) (w : px_H) (Q : Option Value → px_H → Prop), wp (d + 1) 24 19 [l0, l1, l2] [v0, .ref b] w 0 Q ↔ px_op (px_tgt w b [(5, 60)]) (fun v => wc d v [.ref b, v0] w (fun r w' => wp (d + 1) 24 22 [l0, l1, l2] (r.toList ++ []) w' 0 Q))) ∧
  (∀ (d : Nat) (l0 l1 l2 : Option Value) (x : Int32) (w : px_H) (Q : Option Value → px_H → Prop), wp d 24 22 [l0, l1, l2] [.int x] w 0 Q ↔ if x = 0 then wp d 24 25 [l0, l1, l2] [] w 0 Q else wp d 24 27 [l0, l1, l2] [] w 0 Q) ∧
  (∀ (d : Nat) (l0 l1 : Option Value) (x : Int32) (w : px_H) (Q : Option Value → px_H → Prop), wp d 24 25 [l0, l1, some (.int x)] [] w 0 Q ↔ wp d 24 26 [l0, l1, some (.int x)] [.int x] w 0 Q) ∧
  (∀ (d : Nat) (l0 l1 l2 : Option Value) (x : Int32) (w : px_H) (Q : Option Value → px_H → Prop), wp d 24 26 [l0, l1, l2] [.int x] w 0 Q ↔ Q (some (.int x)) w) ∧
  (∀ (d : Nat) (l0 l1 : Option Value) (x : Int32) (w : px_H) (Q : Option Value → px_H → Prop), wp d 24 27 [l0, l1, some (.int x)] [] w 0 Q ↔ wp d 24 30 [l0, l1, some (.int (x + 1))] [] w 0 Q) ∧
  (∀ (d : Nat) (l0 l1 l2 : Option Value)  (w : px_H) (Q : Option Value → px_H → Prop), wp d 24 30 [l0, l1, l2] [] w 0 Q ↔ wp d 24 2 [l0, l1, l2] [] w 0 Q) ∧
  (∀ (d : Nat) (l0 l1 l2 : Option Value)  (w : px_H) (Q : Option Value → px_H → Prop), wp d 24 33 [l0, l1, l2] [] w 0 Q ↔ wp d 24 35 [l0, l1, l2] [.int (-1000000)] w 0 Q) ∧
  (∀ (d : Nat) (l0 l1 l2 : Option Value) (x : Int32) (w : px_H) (Q : Option Value → px_H → Prop), wp d 24 35 [l0, l1, l2] [.int x] w 0 Q ↔ Q (some (.int x)) w) := ⟨fun d v0 v1 w Q => r_entry pt_24 (Nat.le_of_ble_eq_true rfl) rfl,
  fun d l0 l1 l2 w Q => r_iconst pt_24 rfl (by decide),
  fun d l0 l1 l2 x w Q => px_go (q := (.istore_n 2, 1, px_x0)) (S' := (2, [l0, l1, some (.int x)], [], w, 0)) pt_24 rfl rfl,
  fun d l0 l1 l2 s0 w Q => r_bipush pt_24 rfl (by decide),
  fun d l0 l1 l2 x y w Q => r_icmp_gt pt_24 rfl rfl,
  fun d l0 l2 a w Q => px_go (q := (.aload_n 1, 1, px_x0)) (S' := (9, [l0, some (.ref a), l2], [.ref a], w, 0)) pt_24 rfl rfl,
  fun d l0 l2 w Q => px_go (q := (.aload_n 1, 1, px_x0)) (S' := (9, [l0, some .null, l2], [.null], w, 0)) pt_24 rfl rfl,
  fun d l0 l2 s0 a w Q => px_go (q := (.aload_n 1, 1, px_x0)) (S' := (10, [l0, some (.ref a), l2], [.ref a, s0], w, 0)) pt_24 rfl rfl,
  fun d l0 l2 s0 w Q => px_go (q := (.aload_n 1, 1, px_x0)) (S' := (10, [l0, some .null, l2], [.null, s0], w, 0)) pt_24 rfl rfl,
  fun d l0 l2 s0 s1 a w Q => px_go (q := (.aload_n 1, 1, px_x0)) (S' := (11, [l0, some (.ref a), l2], [.ref a, s0, s1], w, 0)) pt_24 rfl rfl,
  fun d l0 l2 s0 s1 w Q => px_go (q := (.aload_n 1, 1, px_x0)) (S' := (11, [l0, some .null, l2], [.null, s0, s1], w, 0)) pt_24 rfl rfl,
  fun d l0 l1 l2 s1 s2 a w Q => px_goO (q := (.getfield 33, 3, (11, 8, [(5, 0)], 0, "AllSworn$Realm"))) (S' := fun v => (14, [l0, l1, l2], [v, s1, s2], w, 0)) pt_24 rfl rfl,
  fun d l0 l1 s0 s1 s2 x w Q => px_go (q := (.iload_n 2, 1, px_x0)) (S' := (15, [l0, l1, some (.int x)], [.int x, s0, s1, s2], w, 0)) pt_24 rfl rfl,
  fun d l0 l1 l2 s0 s1 s2 s3 w Q => r_iconst pt_24 rfl (by decide),
  fun d l0 l1 l2 s4 v0 v1 v2 b w Q => r_callV (q := (.invokevirtual 55, 3, (33, 3, [(5, 58)], 0, ""))) pt_24 rfl rfl (List.forall_mem_cons.mpr ⟨⟨_, pt_58, Nat.le_of_ble_eq_true rfl, (Nat.le_of_ble_eq_true rfl), rfl⟩, fun _ h => absurd h List.not_mem_nil⟩),
  fun d l0 l1 l2 v0 b w Q => r_callV (q := (.invokevirtual 59, 3, (33, 1, [(5, 60)], 0, ""))) pt_24 rfl rfl (List.forall_mem_cons.mpr ⟨⟨_, pt_60, Nat.le_of_ble_eq_true rfl, (Nat.le_of_ble_eq_true rfl), rfl⟩, fun _ h => absurd h List.not_mem_nil⟩),
  fun d l0 l1 l2 x w Q => r_if_ne pt_24 rfl rfl,
  fun d l0 l1 x w Q => px_go (q := (.iload_n 2, 1, px_x0)) (S' := (26, [l0, l1, some (.int x)], [.int x], w, 0)) pt_24 rfl rfl,
  fun d l0 l1 l2 x w Q => px_ret (q := (.ireturn, 1, px_x0)) pt_24 rfl rfl,
  fun d l0 l1 x w Q => r_iinc pt_24 rfl rfl (by decide) rfl,
  fun d l0 l1 l2 w Q => r_goto pt_24 rfl rfl,
  fun d l0 l1 l2 w Q => px_go (q := (.ldc 25, 2, (0, 0, [], (-1000000), ""))) (S' := (35, [l0, l1, l2], [.int (-1000000)], w, 0)) pt_24 rfl rfl,
  fun d l0 l1 l2 x w Q => px_ret (q := (.ireturn, 1, px_x0)) pt_24 rfl rfl⟩
theorem H24_2 : ∀ (d : Nat) (l0 l1 : Option Value) (x : Int32) (w : px_H) (Q : Option Value → px_H → Prop), wp d 24 2 [l0, l1, some (.int x)] [] w 0 Q ↔ wp d 24 3 [l0, l1, some (.int x)] [.int x] w 0 Q := fun d l0 l1 x w Q => px_go (q := (.iload_n 2, 1, px_x0)) (S' := (3, [l0, l1, some (.int x)], [.int x], w, 0)) pt_24 rfl rfl
/-- AllSworn$Reader.<init>()V -/
theorem S30 : (∀ (d : Nat) (v0 : Value) (w : px_H) (Q : Option Value → px_H → Prop), wc d 30 [v0] w Q ↔ wp d 30 0 [some v0] [] w 0 Q) ∧
  (∀ (d : Nat) (a : Nat) (w : px_H) (k : Nat) (Q : Option Value → px_H → Prop), wp d 30 0 [some (.ref a)] [] w k Q ↔ wp d 30 1 [some (.ref a)] [.ref a] w k Q) ∧
  (∀ (d : Nat) (l0 : Option Value) (a : Nat) (w : px_H) (k : Nat) (Q : Option Value → px_H → Prop), wp d 30 1 [l0] [.ref a] w k Q ↔ wp d 30 4 [l0] [] w k Q) ∧
  (∀ (d : Nat) (a : Nat) (w : px_H) (k : Nat) (Q : Option Value → px_H → Prop), wp d 30 4 [some (.ref a)] [] w k Q ↔ wp d 30 5 [some (.ref a)] [.ref a] w k Q) ∧
  (∀ (d : Nat) (l0 : Option Value) (s0 : Value)  (w : px_H) (k : Nat) (Q : Option Value → px_H → Prop), wp d 30 5 [l0] [s0] w k Q ↔ wp d 30 7 [l0] [.int 120, s0] w k Q) ∧
  (∀ (d : Nat) (l0 : Option Value) (s1 : Value)  (w : px_H) (k : Nat) (Q : Option Value → px_H → Prop) (hk : k + 1 ≤ 1), wp d 30 7 [l0] [.int 120, s1] w k Q ↔ wp d 30 9 [l0] [.ref w.1, s1] (px_add w (.inl (.int, 120, fun _ => 0))) (k + 1) Q) ∧
  (∀ (d : Nat) (l0 : Option Value) (a b : Nat) (w : px_H) (k : Nat) (Q : Option Value → px_H → Prop), wp d 30 9 [l0] [.ref b, .ref a] w k Q ↔ px_op (px_pfd w a [(4, 0)] 0 (.ref b)) (fun w' => wp d 30 12 [l0] [] w' k Q)) ∧
  (∀ (d : Nat) (a : Nat) (w : px_H) (k : Nat) (Q : Option Value → px_H → Prop), wp d 30 12 [some (.ref a)] [] w k Q ↔ wp d 30 13 [some (.ref a)] [.ref a] w k Q) ∧
  (∀ (d : Nat) (l0 : Option Value) (s0 : Value)  (w : px_H) (k : Nat) (Q : Option Value → px_H → Prop), wp d 30 13 [l0] [s0] w k Q ↔ wp d 30 14 [l0] [.int 0, s0] w k Q) ∧
  (∀ (d : Nat) (l0 : Option Value) (x : Int32) (a : Nat) (w : px_H) (k : Nat) (Q : Option Value → px_H → Prop), wp d 30 14 [l0] [.int x, .ref a] w k Q ↔ px_op (px_pfd w a [(4, 0)] 1 (.int x)) (fun w' => wp d 30 17 [l0] [] w' k Q)) ∧
  (∀ (d : Nat) (a : Nat) (w : px_H) (k : Nat) (Q : Option Value → px_H → Prop), wp d 30 17 [some (.ref a)] [] w k Q ↔ wp d 30 18 [some (.ref a)] [.ref a] w k Q) ∧
  (∀ (d : Nat) (l0 : Option Value) (s0 : Value)  (w : px_H) (k : Nat) (Q : Option Value → px_H → Prop), wp d 30 18 [l0] [s0] w k Q ↔ wp d 30 19 [l0] [.int 0, s0] w k Q) ∧
  (∀ (d : Nat) (l0 : Option Value) (x : Int32) (a : Nat) (w : px_H) (k : Nat) (Q : Option Value → px_H → Prop), wp d 30 19 [l0] [.int x, .ref a] w k Q ↔ px_op (px_pfd w a [(4, 0)] 2 (.int x)) (fun w' => wp d 30 22 [l0] [] w' k Q)) ∧
  (∀ (d : Nat) (a : Nat) (w : px_H) (k : Nat) (Q : Option Value → px_H → Prop), wp d 30 22 [some (.ref a)] [] w k Q ↔ wp d 30 23 [some (.ref a)] [.ref a] w k Q) ∧
  (∀ (d : Nat) (l0 : Option Value) (s0 : Value)  (w : px_H) (k : Nat) (Q : Option Value → px_H → Prop), wp d 30 23 [l0] [s0] w k Q ↔ wp d 30 24 [l0] [.int 0, s0] w k Q) ∧
  (∀ (d : Nat) (l0 : Option Value) (x : Int32) (a : Nat) (w : px_H) (k : Nat) (Q : Option Value → px_H → Prop), wp d 30 24 [l0] [.int x, .ref a] w k Q ↔ px_op (px_pfd w a [(4, 0)] 3 (.int x)) (fun w' => wp d 30 27 [l0] [] w' k Q)) ∧
  (∀ (d : Nat) (a : Nat) (w : px_H) (k : Nat) (Q : Option Value → px_H → Prop), wp d 30 27 [some (.ref a)] [] w k Q ↔ wp d 30 28 [some (.ref a)] [.ref a] w k Q) ∧
  (∀ (d : Nat) (l0 : Option Value) (s0 : Value)  (w : px_H) (k : Nat) (Q : Option Value → px_H → Prop), wp d 30 28 [l0] [s0] w k Q ↔ wp d 30 29 [l0] [.int 0, s0] w k Q) ∧
  (∀ (d : Nat) (l0 : Option Value) (x : Int32) (a : Nat) (w : px_H) (k : Nat) (Q : Option Value → px_H → Prop), wp d 30 29 [l0] [.int x, .ref a] w k Q ↔ px_op (px_pfd w a [(4, 0)] 4 (.int x)) (fun w' => wp d 30 32 [l0] [] w' k Q)) ∧
  (∀ (d : Nat) (l0 : Option Value)  (w : px_H) (k : Nat) (Q : Option Value → px_H → Prop), wp d 30 32 [l0] [] w k Q ↔ Q none w) := ⟨fun d v0 w Q => r_entry pt_30 (Nat.le_of_ble_eq_true rfl) rfl,
  fun d a w k Q => px_go (q := (.aload_n 0, 1, px_x0)) (S' := (1, [some (.ref a)], [.ref a], w, k)) pt_30 rfl rfl,
  fun d l0 a w k Q => px_go (q := (.invokespecial 3, 3, (36, 0, [], 0, ""))) (S' := (4, [l0], [], w, k)) pt_30 rfl rfl,
  fun d a w k Q => px_go (q := (.aload_n 0, 1, px_x0)) (S' := (5, [some (.ref a)], [.ref a], w, k)) pt_30 rfl rfl,
  fun d l0 s0 w k Q => r_bipush pt_30 rfl (by decide),
  fun d l0 s1 w k Q hk => r_newarr pt_30 rfl rfl ⟨by decide, by decide, by decide⟩ hk,
  fun d l0 a b w k Q => r_put pt_30 rfl (by simp only [List.all_cons, List.all_nil, ft_4_0, px_fit, px_isr, Bool.and_self]),
  fun d a w k Q => px_go (q := (.aload_n 0, 1, px_x0)) (S' := (13, [some (.ref a)], [.ref a], w, k)) pt_30 rfl rfl,
  fun d l0 s0 w k Q => r_iconst pt_30 rfl (by decide),
  fun d l0 x a w k Q => r_put pt_30 rfl (by simp only [List.all_cons, List.all_nil, ft_4_1, px_fit, px_isr, Bool.and_self]),
  fun d a w k Q => px_go (q := (.aload_n 0, 1, px_x0)) (S' := (18, [some (.ref a)], [.ref a], w, k)) pt_30 rfl rfl,
  fun d l0 s0 w k Q => r_iconst pt_30 rfl (by decide),
  fun d l0 x a w k Q => r_put pt_30 rfl (by simp only [List.all_cons, List.all_nil, ft_4_2, px_fit, px_isr, Bool.and_self]),
  fun d a w k Q => px_go (q := (.aload_n 0, 1, px_x0)) (S' := (23, [some (.ref a)], [.ref a], w, k)) pt_30 rfl rfl,
  fun d l0 s0 w k Q => r_iconst pt_30 rfl (by decide),
  fun d l0 x a w k Q => r_put pt_30 rfl (by simp only [List.all_cons, List.all_nil, ft_4_3, px_fit, px_isr, Bool.and_self]),
  fun d a w k Q => px_go (q := (.aload_n 0, 1, px_x0)) (S' := (28, [some (.ref a)], [.ref a], w, k)) pt_30 rfl rfl,
  fun d l0 s0 w k Q => r_iconst pt_30 rfl (by decide),
  fun d l0 x a w k Q => r_put pt_30 rfl (by simp only [List.all_cons, List.all_nil, ft_4_4, px_fit, px_isr, Bool.and_self]),
  fun d l0 w k Q => px_ret (q := (.return_, 1, px_x0)) pt_30 rfl rfl⟩
/-- AllSworn$Reader.take(I)Z -/
theorem S31 : (∀ (d : Nat) (v0 v1 : Value) (w : px_H) (Q : Option Value → px_H → Prop), wc d 31 [v0, v1] w Q ↔ wp d 31 0 [some v0, some v1] [] w 0 Q) ∧
  (∀ (d : Nat) (l1 : Option Value) (a : Nat) (w : px_H) (Q : Option Value → px_H → Prop), wp d 31 0 [some (.ref a), l1] [] w 0 Q ↔ wp d 31 1 [some (.ref a), l1] [.ref a] w 0 Q) ∧
  (∀ (d : Nat) (l0 l1 : Option Value) (a : Nat) (w : px_H) (Q : Option Value → px_H → Prop), wp d 31 1 [l0, l1] [.ref a] w 0 Q ↔ px_op (px_fld w a [(4, 0)] 1) (fun v => wp d 31 4 [l0, l1] [v] w 0 Q)) ∧
  (∀ (d : Nat) (l0 l1 : Option Value) (s0 : Value)  (w : px_H) (Q : Option Value → px_H → Prop), wp d 31 4 [l0, l1] [s0] w 0 Q ↔ wp d 31 6 [l0, l1] [.int 120, s0] w 0 Q) ∧
  (∀ (d : Nat) (l0 l1 : Option Value) (x y : Int32) (w : px_H) (Q : Option Value → px_H → Prop), wp d 31 6 [l0, l1] [.int y, .int x] w 0 Q ↔ if x < y then wp d 31 11 [l0, l1] [] w 0 Q else wp d 31 9 [l0, l1] [] w 0 Q) ∧
  (∀ (d : Nat) (l0 l1 : Option Value)  (w : px_H) (Q : Option Value → px_H → Prop), wp d 31 9 [l0, l1] [] w 0 Q ↔ wp d 31 10 [l0, l1] [.int 0] w 0 Q) ∧
  (∀ (d : Nat) (l0 l1 : Option Value) (x : Int32) (w : px_H) (Q : Option Value → px_H → Prop), wp d 31 10 [l0, l1] [.int x] w 0 Q ↔ (x = 0 ∨ x = 1) ∧ Q (some (.int x)) w) ∧
  (∀ (d : Nat) (l1 : Option Value) (a : Nat) (w : px_H) (Q : Option Value → px_H → Prop), wp d 31 11 [some (.ref a), l1] [] w 0 Q ↔ wp d 31 12 [some (.ref a), l1] [.ref a] w 0 Q) ∧
  (∀ (d : Nat) (l0 l1 : Option Value) (a : Nat) (w : px_H) (Q : Option Value → px_H → Prop), wp d 31 12 [l0, l1] [.ref a] w 0 Q ↔ px_op (px_fld w a [(4, 0)] 0) (fun v => wp d 31 15 [l0, l1] [v] w 0 Q)) ∧
  (∀ (d : Nat) (l1 : Option Value) (s0 : Value) (a : Nat) (w : px_H) (Q : Option Value → px_H → Prop), wp d 31 15 [some (.ref a), l1] [s0] w 0 Q ↔ wp d 31 16 [some (.ref a), l1] [.ref a, s0] w 0 Q) ∧
  (∀ (d : Nat) (l0 l1 : Option Value) (s1 : Value) (a : Nat) (w : px_H) (Q : Option Value → px_H → Prop), wp d 31 16 [l0, l1] [.ref a, s1] w 0 Q ↔ px_op (px_fld w a [(4, 0)] 1) (fun v => wp d 31 19 [l0, l1] [v, s1] w 0 Q)) ∧
  (∀ (d : Nat) (l0 : Option Value) (s0 s1 : Value) (x : Int32) (w : px_H) (Q : Option Value → px_H → Prop), wp d 31 19 [l0, some (.int x)] [s0, s1] w 0 Q ↔ wp d 31 20 [l0, some (.int x)] [.int x, s0, s1] w 0 Q) ∧
  (∀ (d : Nat) (l0 l1 : Option Value) (x i : Int32) (a : Nat) (w : px_H) (Q : Option Value → px_H → Prop), wp d 31 20 [l0, l1] [.int x, .int i, .ref a] w 0 Q ↔ px_op (px_ast w a i x .int) (fun w' => wp d 31 21 [l0, l1] [] w' 0 Q)) ∧
  (∀ (d : Nat) (l1 : Option Value) (a : Nat) (w : px_H) (Q : Option Value → px_H → Prop), wp d 31 21 [some (.ref a), l1] [] w 0 Q ↔ wp d 31 22 [some (.ref a), l1] [.ref a] w 0 Q) ∧
  (∀ (d : Nat) (l0 l1 : Option Value) (s0 : Value)  (w : px_H) (Q : Option Value → px_H → Prop), wp d 31 22 [l0, l1] [s0] w 0 Q ↔ wp d 31 23 [l0, l1] [s0, s0] w 0 Q) ∧
  (∀ (d : Nat) (l0 l1 : Option Value) (s1 : Value) (a : Nat) (w : px_H) (Q : Option Value → px_H → Prop), wp d 31 23 [l0, l1] [.ref a, s1] w 0 Q ↔ px_op (px_fld w a [(4, 0)] 1) (fun v => wp d 31 26 [l0, l1] [v, s1] w 0 Q)) ∧
  (∀ (d : Nat) (l0 l1 : Option Value) (s0 s1 : Value)  (w : px_H) (Q : Option Value → px_H → Prop), wp d 31 26 [l0, l1] [s0, s1] w 0 Q ↔ wp d 31 27 [l0, l1] [.int 1, s0, s1] w 0 Q) ∧
  (∀ (d : Nat) (l0 l1 : Option Value) (s2 : Value) (x y : Int32) (w : px_H) (Q : Option Value → px_H → Prop), wp d 31 27 [l0, l1] [.int y, .int x, s2] w 0 Q ↔ wp d 31 28 [l0, l1] [.int (x + y), s2] w 0 Q) ∧
  (∀ (d : Nat) (l0 l1 : Option Value) (x : Int32) (a : Nat) (w : px_H) (Q : Option Value → px_H → Prop), wp d 31 28 [l0, l1] [.int x, .ref a] w 0 Q ↔ px_op (px_pfd w a [(4, 0)] 1 (.int x)) (fun w' => wp d 31 31 [l0, l1] [] w' 0 Q)) ∧
  (∀ (d : Nat) (l0 l1 : Option Value)  (w : px_H) (Q : Option Value → px_H → Prop), wp d 31 31 [l0, l1] [] w 0 Q ↔ wp d 31 32 [l0, l1] [.int 1] w 0 Q) ∧
  (∀ (d : Nat) (l0 l1 : Option Value) (x : Int32) (w : px_H) (Q : Option Value → px_H → Prop), wp d 31 32 [l0, l1] [.int x] w 0 Q ↔ (x = 0 ∨ x = 1) ∧ Q (some (.int x)) w) := ⟨fun d v0 v1 w Q => r_entry pt_31 (Nat.le_of_ble_eq_true rfl) rfl,
  fun d l1 a w Q => px_go (q := (.aload_n 0, 1, px_x0)) (S' := (1, [some (.ref a), l1], [.ref a], w, 0)) pt_31 rfl rfl,
  fun d l0 l1 a w Q => px_goO (q := (.getfield 15, 3, (10, 1, [(4, 0)], 0, "AllSworn$Reader"))) (S' := fun v => (4, [l0, l1], [v], w, 0)) pt_31 rfl rfl,
  fun d l0 l1 s0 w Q => r_bipush pt_31 rfl (by decide),
  fun d l0 l1 x y w Q => r_icmp_lt pt_31 rfl rfl,
  fun d l0 l1 w Q => r_iconst pt_31 rfl (by decide),
  fun d l0 l1 x w Q => px_retI (q := (.ireturn, 1, px_x0)) pt_31 rfl rfl,
  fun d l1 a w Q => px_go (q := (.aload_n 0, 1, px_x0)) (S' := (12, [some (.ref a), l1], [.ref a], w, 0)) pt_31 rfl rfl,
  fun d l0 l1 a w Q => px_goO (q := (.getfield 11, 3, (10, 0, [(4, 0)], 0, "AllSworn$Reader"))) (S' := fun v => (15, [l0, l1], [v], w, 0)) pt_31 rfl rfl,
  fun d l1 s0 a w Q => px_go (q := (.aload_n 0, 1, px_x0)) (S' := (16, [some (.ref a), l1], [.ref a, s0], w, 0)) pt_31 rfl rfl,
  fun d l0 l1 s1 a w Q => px_goO (q := (.getfield 15, 3, (10, 1, [(4, 0)], 0, "AllSworn$Reader"))) (S' := fun v => (19, [l0, l1], [v, s1], w, 0)) pt_31 rfl rfl,
  fun d l0 s0 s1 x w Q => px_go (q := (.iload_n 1, 1, px_x0)) (S' := (20, [l0, some (.int x)], [.int x, s0, s1], w, 0)) pt_31 rfl rfl,
  fun d l0 l1 x i a w Q => px_goO (q := (.iastore, 1, px_x0)) (S' := fun w' => (21, [l0, l1], [], w', 0)) pt_31 rfl rfl,
  fun d l1 a w Q => px_go (q := (.aload_n 0, 1, px_x0)) (S' := (22, [some (.ref a), l1], [.ref a], w, 0)) pt_31 rfl rfl,
  fun d l0 l1 s0 w Q => px_go (q := (.dup, 1, px_x0)) (S' := (23, [l0, l1], [s0, s0], w, 0)) pt_31 rfl rfl,
  fun d l0 l1 s1 a w Q => px_goO (q := (.getfield 15, 3, (10, 1, [(4, 0)], 0, "AllSworn$Reader"))) (S' := fun v => (26, [l0, l1], [v, s1], w, 0)) pt_31 rfl rfl,
  fun d l0 l1 s0 s1 w Q => r_iconst pt_31 rfl (by decide),
  fun d l0 l1 s2 x y w Q => px_go (q := (.iadd, 1, px_x0)) (S' := (28, [l0, l1], [.int (x + y), s2], w, 0)) pt_31 rfl rfl,
  fun d l0 l1 x a w Q => r_put pt_31 rfl (by simp only [List.all_cons, List.all_nil, ft_4_1, px_fit, px_isr, Bool.and_self]),
  fun d l0 l1 w Q => r_iconst pt_31 rfl (by decide),
  fun d l0 l1 x w Q => px_retI (q := (.ireturn, 1, px_x0)) pt_31 rfl rfl⟩
/-- AllSworn$Reader.readTo(LAllSworn$Realm;)Z heads: [35] -/
theorem S32 : (∀ (d : Nat) (v0 v1 : Value) (w : px_H) (Q : Option Value → px_H → Prop), wc d 32 [v0, v1] w Q ↔ wp d 32 0 [some v0, some v1, none, none] [] w 0 Q) ∧
  (∀ (d : Nat) (l1 l2 l3 : Option Value) (a : Nat) (w : px_H) (k : Nat) (Q : Option Value → px_H → Prop), wp d 32 0 [some (.ref a), l1, l2, l3] [] w k Q ↔ wp d 32 1 [some (.ref a), l1, l2, l3] [.ref a] w k Q) ∧
  (∀ (d : Nat) (l0 l1 l2 l3 : Option Value) (s0 : Value)  (w : px_H) (k : Nat) (Q : Option Value → px_H → Prop), wp d 32 1 [l0, l1, l2, l3] [s0] w k Q ↔ wp d 32 2 [l0, l1, l2, l3] [.int 0, s0] w k Q) ∧
  (∀ (d : Nat) (l0 l1 l2 l3 : Option Value) (x : Int32) (a : Nat) (w : px_H) (k : Nat) (Q : Option Value → px_H → Prop), wp d 32 2 [l0, l1, l2, l3] [.int x, .ref a] w k Q ↔ px_op (px_pfd w a [(4, 0)] 2 (.int x)) (fun w' => wp d 32 5 [l0, l1, l2, l3] [] w' k Q)) ∧
  (∀ (d : Nat) (l1 l2 l3 : Option Value) (a : Nat) (w : px_H) (k : Nat) (Q : Option Value → px_H → Prop), wp d 32 5 [some (.ref a), l1, l2, l3] [] w k Q ↔ wp d 32 6 [some (.ref a), l1, l2, l3] [.ref a] w k Q) ∧
  (∀ (d : Nat) (l0 l1 l2 l3 : Option Value) (s0 : Value)  (w : px_H) (k : Nat) (Q : Option Value → px_H → Prop), wp d 32 6 [l0, l1, l2, l3] [s0] w k Q ↔ wp d 32 7 [l0, l1, l2, l3] [.int 0, s0] w k Q) ∧
  (∀ (d : Nat) (l0 l1 l2 l3 : Option Value) (x : Int32) (a : Nat) (w : px_H) (k : Nat) (Q : Option Value → px_H → Prop), wp d 32 7 [l0, l1, l2, l3] [.int x, .ref a] w k Q ↔ px_op (px_pfd w a [(4, 0)] 3 (.int x)) (fun w' => wp d 32 10 [l0, l1, l2, l3] [] w' k Q)) ∧
  (∀ (d : Nat) (l1 l2 l3 : Option Value) (a : Nat) (w : px_H) (k : Nat) (Q : Option Value → px_H → Prop), wp d 32 10 [some (.ref a), l1, l2, l3] [] w k Q ↔ wp d 32 11 [some (.ref a), l1, l2, l3] [.ref a] w k Q) ∧
  (∀ (d : Nat) (l0 l1 l2 l3 : Option Value) (s0 : Value)  (w : px_H) (k : Nat) (Q : Option Value → px_H → Prop), wp d 32 11 [l0, l1, l2, l3] [s0] w k Q ↔ wp d 32 13 [l0, l1, l2, l3] [.int 98, s0] w k Q) ∧
  (∀ (d : Nat) (l0 l1 l2 l3 : Option Value) (v0 : Value) (b : Nat) (w : px_H) (k : Nat) (Q : Option Value → px_H → Prop) (hk : k + 0 ≤ 120), wp (d + 1) 32 13 [l0, l1, l2, l3] [v0, .ref b] w k Q ↔ px_op (px_tgt w b [(4, 35)]) (fun v => wc d v [.ref b, v0] w (fun r w' => wp (d + 1) 32 16 [l0, l1, l2, l3] (r.toList ++ []) w' k Q))) ∧
  (∀ (d : Nat) (l0 l2 l3 : Option Value) (a : Nat) (w : px_H) (k : Nat) (Q : Option Value → px_H → Prop), wp d 32 16 [l0, some (.ref a), l2, l3] [] w k Q ↔ wp d 32 17 [l0, some (.ref a), l2, l3] [.ref a] w k Q) ∧
  (∀ (d : Nat) (l0 l2 l3 : Option Value)  (w : px_H) (k : Nat) (Q : Option Value → px_H → Prop), wp d 32 16 [l0, some .null, l2, l3] [] w k Q ↔ wp d 32 17 [l0, some .null, l2, l3] [.null] w k Q) ∧
  (∀ (d : Nat) (l1 l2 l3 : Option Value) (s0 : Value) (a : Nat) (w : px_H) (k : Nat) (Q : Option Value → px_H → Prop), wp d 32 17 [some (.ref a), l1, l2, l3] [s0] w k Q ↔ wp d 32 18 [some (.ref a), l1, l2, l3] [.ref a, s0] w k Q) ∧
  (∀ (d : Nat) (l0 l1 l2 l3 : Option Value) (s0 s1 : Value)  (w : px_H) (k : Nat) (Q : Option Value → px_H → Prop), wp d 32 18 [l0, l1, l2, l3] [s0, s1] w k Q ↔ wp d 32 19 [l0, l1, l2, l3] [.int 1, s0, s1] w k Q) ∧
  (∀ (d : Nat) (l0 l1 l2 l3 : Option Value) (s0 s1 s2 : Value)  (w : px_H) (k : Nat) (Q : Option Value → px_H → Prop), wp d 32 19 [l0, l1, l2, l3] [s0, s1, s2] w k Q ↔ wp d 32 21 [l0, l1, l2, l3] [.int 40, s0, s1, s2] w k Q) ∧
  (∀ (d : Nat) (l0 l1 l2 l3 : Option Value) (s3 : Value) (v0 v1 : Value) (b : Nat) (w : px_H) (k : Nat) (Q : Option Value → px_H → Prop) (hk : k + 0 ≤ 120), wp (d + 1) 32 21 [l0, l1, l2, l3] [v1, v0, .ref b, s3] w k Q ↔ px_op (px_tgt w b [(4, 36)]) (fun v => wc d v [.ref b, v0, v1] w (fun r w' => wp (d + 1) 32 24 [l0, l1, l2, l3] (r.toList ++ [s3]) w' k Q))) ∧
  (∀ (d : Nat) (l0 l1 l2 l3 : Option Value) (v0 : Value) (b : Nat) (w : px_H) (k : Nat) (Q : Option Value → px_H → Prop) (hk : k + 0 ≤ 120), wp (d + 1) 32 24 [l0, l1, l2, l3] [v0, .ref b] w k Q ↔ px_op (px_tgt w b [(5, 43)]) (fun v => wc d v [.ref b, v0] w (fun r w' => wp (d + 1) 32 27 [l0, l1, l2, l3] (r.toList ++ []) w' k Q))) ∧
  (∀ (d : Nat) (l1 l2 l3 : Option Value) (a : Nat) (w : px_H) (k : Nat) (Q : Option Value → px_H → Prop), wp d 32 27 [some (.ref a), l1, l2, l3] [] w k Q ↔ wp d 32 28 [some (.ref a), l1, l2, l3] [.ref a] w k Q) ∧
  (∀ (d : Nat) (l0 l1 l2 l3 : Option Value) (s0 : Value)  (w : px_H) (k : Nat) (Q : Option Value → px_H → Prop), wp d 32 28 [l0, l1, l2, l3] [s0] w k Q ↔ wp d 32 30 [l0, l1, l2, l3] [.int 59, s0] w k Q) ∧
  (∀ (d : Nat) (l0 l1 l2 l3 : Option Value) (v0 : Value) (b : Nat) (w : px_H) (k : Nat) (Q : Option Value → px_H → Prop) (hk : k + 0 ≤ 120), wp (d + 1) 32 30 [l0, l1, l2, l3] [v0, .ref b] w k Q ↔ px_op (px_tgt w b [(4, 35)]) (fun v => wc d v [.ref b, v0] w (fun r w' => wp (d + 1) 32 33 [l0, l1, l2, l3] (r.toList ++ []) w' k Q))) ∧
  (∀ (d : Nat) (l0 l1 l2 l3 : Option Value)  (w : px_H) (k : Nat) (Q : Option Value → px_H → Prop), wp d 32 33 [l0, l1, l2, l3] [] w k Q ↔ wp d 32 34 [l0, l1, l2, l3] [.int 0] w k Q) ∧
  (∀ (d : Nat) (l0 l1 l2 l3 : Option Value) (x : Int32) (w : px_H) (k : Nat) (Q : Option Value → px_H → Prop), wp d 32 34 [l0, l1, l2, l3] [.int x] w k Q ↔ wp d 32 35 [l0, l1, some (.int x), l3] [] w k Q) ∧
  (∀ (d : Nat) (l0 l1 l2 l3 : Option Value) (s0 : Value)  (w : px_H) (k : Nat) (Q : Option Value → px_H → Prop), wp d 32 36 [l0, l1, l2, l3] [s0] w k Q ↔ wp d 32 38 [l0, l1, l2, l3] [.int 120, s0] w k Q) ∧
  (∀ (d : Nat) (l0 l1 l2 l3 : Option Value) (x y : Int32) (w : px_H) (k : Nat) (Q : Option Value → px_H → Prop), wp d 32 38 [l0, l1, l2, l3] [.int y, .int x] w k Q ↔ if y ≤ x then wp d 32 119 [l0, l1, l2, l3] [] w k Q else wp d 32 41 [l0, l1, l2, l3] [] w k Q) ∧
  (∀ (d : Nat) (l1 l2 l3 : Option Value) (a : Nat) (w : px_H) (k : Nat) (Q : Option Value → px_H → Prop), wp d 32 41 [some (.ref a), l1, l2, l3] [] w k Q ↔ wp d 32 42 [some (.ref a), l1, l2, l3] [.ref a] w k Q) ∧
  (∀ (d : Nat) (l0 l1 l2 l3 : Option Value) (a : Nat) (w : px_H) (k : Nat) (Q : Option Value → px_H → Prop), wp d 32 42 [l0, l1, l2, l3] [.ref a] w k Q ↔ px_op (px_fld w a [(4, 0)] 3) (fun v => wp d 32 45 [l0, l1, l2, l3] [v] w k Q)) ∧
  (∀ (d : Nat) (l0 l1 l2 l3 : Option Value) (x : Int32) (w : px_H) (k : Nat) (Q : Option Value → px_H → Prop), wp d 32 45 [l0, l1, l2, l3] [.int x] w k Q ↔ if x = 0 then wp d 32 48 [l0, l1, l2, l3] [] w k Q else wp d 32 119 [l0, l1, l2, l3] [] w k Q) ∧
  (∀ (d : Nat) (l1 l2 l3 : Option Value) (a : Nat) (w : px_H) (k : Nat) (Q : Option Value → px_H → Prop), wp d 32 48 [some (.ref a), l1, l2, l3] [] w k Q ↔ wp d 32 49 [some (.ref a), l1, l2, l3] [.ref a] w k Q) ∧
  (∀ (d : Nat) (l0 l1 l2 l3 : Option Value) (a : Nat) (w : px_H) (k : Nat) (Q : Option Value → px_H → Prop), wp d 32 49 [l0, l1, l2, l3] [.ref a] w k Q ↔ px_op (px_fld w a [(4, 0)] 2) (fun v => wp d 32 52 [l0, l1, l2, l3] [v] w k Q)) ∧
  (∀ (d : Nat) (l1 l2 l3 : Option Value) (s0 : Value) (a : Nat) (w : px_H) (k : Nat) (Q : Option Value → px_H → Prop), wp d 32 52 [some (.ref a), l1, l2, l3] [s0] w k Q ↔ wp d 32 53 [some (.ref a), l1, l2, l3] [.ref a, s0] w k Q) ∧
  (∀ (d : Nat) (l0 l1 l2 l3 : Option Value) (s1 : Value) (a : Nat) (w : px_H) (k : Nat) (Q : Option Value → px_H → Prop), wp d 32 53 [l0, l1, l2, l3] [.ref a, s1] w k Q ↔ px_op (px_fld w a [(4, 0)] 1) (fun v => wp d 32 56 [l0, l1, l2, l3] [v, s1] w k Q)) ∧
  (∀ (d : Nat) (l0 l1 l2 l3 : Option Value) (x y : Int32) (w : px_H) (k : Nat) (Q : Option Value → px_H → Prop), wp d 32 56 [l0, l1, l2, l3] [.int y, .int x] w k Q ↔ if y ≤ x then wp d 32 119 [l0, l1, l2, l3] [] w k Q else wp d 32 59 [l0, l1, l2, l3] [] w k Q) ∧
  (∀ (d : Nat) (l1 l2 l3 : Option Value) (a : Nat) (w : px_H) (k : Nat) (Q : Option Value → px_H → Prop), wp d 32 59 [some (.ref a), l1, l2, l3] [] w k Q ↔ wp d 32 60 [some (.ref a), l1, l2, l3] [.ref a] w k Q) ∧
  (∀ (d : Nat) (l0 l1 l2 l3 : Option Value)  (b : Nat) (w : px_H) (k : Nat) (Q : Option Value → px_H → Prop) (hk : k + 0 ≤ 120), wp (d + 1) 32 60 [l0, l1, l2, l3] [.ref b] w k Q ↔ px_op (px_tgt w b [(4, 37)]) (fun v => wc d v [.ref b] w (fun r w' => wp (d + 1) 32 63 [l0, l1, l2, l3] (r.toList ++ []) w' k Q))) ∧
  (∀ (d : Nat) (l0 l1 l2 l3 : Option Value) (v0 : Value) (w : px_H) (k : Nat) (Q : Option Value → px_H → Prop) (hk : k + 0 ≤ 120), wp (d + 1) 32 63 [l0, l1, l2, l3] [v0] w k Q ↔ wc d 39 [v0] w (fun r w' => wp (d + 1) 32 66 [l0, l1, l2, l3] (r.toList ++ []) w' k Q)) ∧
  (∀ (d : Nat) (l0 l1 l2 l3 : Option Value) (x : Int32) (w : px_H) (k : Nat) (Q : Option Value → px_H → Prop), wp d 32 66 [l0, l1, l2, l3] [.int x] w k Q ↔ wp d 32 67 [l0, l1, l2, some (.int x)] [] w k Q) ∧
  (∀ (d : Nat) (l0 l1 l2 : Option Value) (x : Int32) (w : px_H) (k : Nat) (Q : Option Value → px_H → Prop), wp d 32 67 [l0, l1, l2, some (.int x)] [] w k Q ↔ wp d 32 68 [l0, l1, l2, some (.int x)] [.int x] w k Q) ∧
  (∀ (d : Nat) (l0 l1 l2 l3 : Option Value) (x : Int32) (w : px_H) (k : Nat) (Q : Option Value → px_H → Prop), wp d 32 68 [l0, l1, l2, l3] [.int x] w k Q ↔ if x = 0 then wp d 32 87 [l0, l1, l2, l3] [] w k Q else wp d 32 71 [l0, l1, l2, l3] [] w k Q) ∧
  (∀ (d : Nat) (l0 l2 l3 : Option Value) (a : Nat) (w : px_H) (k : Nat) (Q : Option Value → px_H → Prop), wp d 32 71 [l0, some (.ref a), l2, l3] [] w k Q ↔ wp d 32 72 [l0, some (.ref a), l2, l3] [.ref a] w k Q) ∧
  (∀ (d : Nat) (l0 l2 l3 : Option Value)  (w : px_H) (k : Nat) (Q : Option Value → px_H → Prop), wp d 32 71 [l0, some .null, l2, l3] [] w k Q ↔ wp d 32 72 [l0, some .null, l2, l3] [.null] w k Q) ∧
  (∀ (d : Nat) (l0 l1 l2 l3 : Option Value) (a : Nat) (w : px_H) (k : Nat) (Q : Option Value → px_H → Prop), wp d 32 72 [l0, l1, l2, l3] [.ref a] w k Q ↔ px_op (px_fld w a [(5, 0)] 6) (fun v => wp d 32 75 [l0, l1, l2, l3] [v] w k Q)) ∧
  (∀ (d : Nat) (l0 l1 l2 l3 : Option Value) (x : Int32) (w : px_H) (k : Nat) (Q : Option Value → px_H → Prop), wp d 32 75 [l0, l1, l2, l3] [.int x] w k Q ↔ if x = 0 then wp d 32 78 [l0, l1, l2, l3] [] w k Q else wp d 32 87 [l0, l1, l2, l3] [] w k Q) ∧
  (∀ (d : Nat) (l1 l2 l3 : Option Value) (a : Nat) (w : px_H) (k : Nat) (Q : Option Value → px_H → Prop), wp d 32 78 [some (.ref a), l1, l2, l3] [] w k Q ↔ wp d 32 79 [some (.ref a), l1, l2, l3] [.ref a] w k Q) ∧
  (∀ (d : Nat) (l0 l2 l3 : Option Value) (s0 : Value) (a : Nat) (w : px_H) (k : Nat) (Q : Option Value → px_H → Prop), wp d 32 79 [l0, some (.ref a), l2, l3] [s0] w k Q ↔ wp d 32 80 [l0, some (.ref a), l2, l3] [.ref a, s0] w k Q) ∧
  (∀ (d : Nat) (l0 l2 l3 : Option Value) (s0 : Value)  (w : px_H) (k : Nat) (Q : Option Value → px_H → Prop), wp d 32 79 [l0, some .null, l2, l3] [s0] w k Q ↔ wp d 32 80 [l0, some .null, l2, l3] [.null, s0] w k Q) ∧
  (∀ (d : Nat) (l0 l1 l2 : Option Value) (s0 s1 : Value) (x : Int32) (w : px_H) (k : Nat) (Q : Option Value → px_H → Prop), wp d 32 80 [l0, l1, l2, some (.int x)] [s0, s1] w k Q ↔ wp d 32 81 [l0, l1, l2, some (.int x)] [.int x, s0, s1] w k Q) ∧
  (∀ (d : Nat) (l0 l1 l2 l3 : Option Value) (v0 v1 : Value) (b : Nat) (w : px_H) (k : Nat) (Q : Option Value → px_H → Prop) (hk : k + 1 ≤ 120), wp (d + 1) 32 81 [l0, l1, l2, l3] [v1, v0, .ref b] w k Q ↔ px_op (px_tgt w b [(4, 33)]) (fun v => wc d v [.ref b, v0, v1] w (fun r w' => wp (d + 1) 32 84 [l0, l1, l2, l3] (r.toList ++ []) w' (k + 1) Q))) ∧
  (∀ (d : Nat) (l0 l1 l2 l3 : Option Value)  (w : px_H) (k : Nat) (Q : Option Value → px_H → Prop), wp d 32 84 [l0, l1, l2, l3] [] w k Q ↔ wp d 32 113 [l0, l1, l2, l3] [] w k Q) ∧
  (∀ (d : Nat) (l1 l2 l3 : Option Value) (a : Nat) (w : px_H) (k : Nat) (Q : Option Value → px_H → Prop), wp d 32 87 [some (.ref a), l1, l2, l3] [] w k Q ↔ wp d 32 88 [some (.ref a), l1, l2, l3] [.ref a] w k Q) ∧
  (∀ (d : Nat) (l0 l1 l2 l3 : Option Value)  (b : Nat) (w : px_H) (k : Nat) (Q : Option Value → px_H → Prop) (hk : k + 0 ≤ 120), wp (d + 1) 32 88 [l0, l1, l2, l3] [.ref b] w k Q ↔ px_op (px_tgt w b [(4, 37)]) (fun v => wc d v [.ref b] w (fun r w' => wp (d + 1) 32 91 [l0, l1, l2, l3] (r.toList ++ []) w' k Q))) ∧
  (∀ (d : Nat) (l0 l1 l2 l3 : Option Value) (s0 : Value)  (w : px_H) (k : Nat) (Q : Option Value → px_H → Prop), wp d 32 91 [l0, l1, l2, l3] [s0] w k Q ↔ wp d 32 93 [l0, l1, l2, l3] [.int 104, s0] w k Q) ∧
  (∀ (d : Nat) (l0 l1 l2 l3 : Option Value) (x y : Int32) (w : px_H) (k : Nat) (Q : Option Value → px_H → Prop), wp d 32 93 [l0, l1, l2, l3] [.int y, .int x] w k Q ↔ if x = y then wp d 32 96 [l0, l1, l2, l3] [] w k Q else wp d 32 104 [l0, l1, l2, l3] [] w k Q) ∧
  (∀ (d : Nat) (l1 l2 l3 : Option Value) (a : Nat) (w : px_H) (k : Nat) (Q : Option Value → px_H → Prop), wp d 32 96 [some (.ref a), l1, l2, l3] [] w k Q ↔ wp d 32 97 [some (.ref a), l1, l2, l3] [.ref a] w k Q) ∧
  (∀ (d : Nat) (l0 l2 l3 : Option Value) (s0 : Value) (a : Nat) (w : px_H) (k : Nat) (Q : Option Value → px_H → Prop), wp d 32 97 [l0, some (.ref a), l2, l3] [s0] w k Q ↔ wp d 32 98 [l0, some (.ref a), l2, l3] [.ref a, s0] w k Q) ∧
  (∀ (d : Nat) (l0 l2 l3 : Option Value) (s0 : Value)  (w : px_H) (k : Nat) (Q : Option Value → px_H → Prop), wp d 32 97 [l0, some .null, l2, l3] [s0] w k Q ↔ wp d 32 98 [l0, some .null, l2, l3] [.null, s0] w k Q) ∧
  (∀ (d : Nat) (l0 l1 l2 l3 : Option Value) (v0 : Value) (b : Nat) (w : px_H) (k : Nat) (Q : Option Value → px_H → Prop) (hk : k + 0 ≤ 120), wp (d + 1) 32 98 [l0, l1, l2, l3] [v0, .ref b] w k Q ↔ px_op (px_tgt w b [(4, 34)]) (fun v => wc d v [.ref b, v0] w (fun r w' => wp (d + 1) 32 101 [l0, l1, l2, l3] (r.toList ++ []) w' k Q))) ∧
  (∀ (d : Nat) (l0 l1 l2 l3 : Option Value)  (w : px_H) (k : Nat) (Q : Option Value → px_H → Prop), wp d 32 101 [l0, l1, l2, l3] [] w k Q ↔ wp d 32 113 [l0, l1, l2, l3] [] w k Q) ∧
  (∀ (d : Nat) (l1 l2 l3 : Option Value) (a : Nat) (w : px_H) (k : Nat) (Q : Option Value → px_H → Prop), wp d 32 104 [some (.ref a), l1, l2, l3] [] w k Q ↔ wp d 32 105 [some (.ref a), l1, l2, l3] [.ref a] w k Q) ∧
  (∀ (d : Nat) (l0 l1 l2 l3 : Option Value) (s0 : Value)  (w : px_H) (k : Nat) (Q : Option Value → px_H → Prop), wp d 32 105 [l0, l1, l2, l3] [s0] w k Q ↔ wp d 32 106 [l0, l1, l2, l3] [.int 1, s0] w k Q) ∧
  (∀ (d : Nat) (l1 l2 l3 : Option Value) (s0 s1 : Value) (a : Nat) (w : px_H) (k : Nat) (Q : Option Value → px_H → Prop), wp d 32 106 [some (.ref a), l1, l2, l3] [s0, s1] w k Q ↔ wp d 32 107 [some (.ref a), l1, l2, l3] [.ref a, s0, s1] w k Q) ∧
  (∀ (d : Nat) (l0 l1 l2 l3 : Option Value) (s1 s2 : Value) (a : Nat) (w : px_H) (k : Nat) (Q : Option Value → px_H → Prop), wp d 32 107 [l0, l1, l2, l3] [.ref a, s1, s2] w k Q ↔ px_op (px_fld w a [(4, 0)] 2) (fun v => wp d 32 110 [l0, l1, l2, l3] [v, s1, s2] w k Q)) ∧
  (∀ (d : Nat) (l0 l1 l2 l3 : Option Value) (v0 v1 : Value) (b : Nat) (w : px_H) (k : Nat) (Q : Option Value → px_H → Prop) (hk : k + 0 ≤ 120), wp (d + 1) 32 110 [l0, l1, l2, l3] [v1, v0, .ref b] w k Q ↔ px_op (px_tgt w b [(4, 38)]) (fun v => wc d v [.ref b, v0, v1] w (fun r w' => wp (d + 1) 32 113 [l0, l1, l2, l3] (r.toList ++ []) w' k Q))) ∧
  (∀ (d : Nat) (l0 l1 l3 : Option Value) (x : Int32) (w : px_H) (k : Nat) (Q : Option Value → px_H → Prop), wp d 32 113 [l0, l1, some (.int x), l3] [] w k Q ↔ wp d 32 116 [l0, l1, some (.int (x + 1)), l3] [] w k Q) ∧
  (∀ (d : Nat) (l0 l1 l2 l3 : Option Value)  (w : px_H) (k : Nat) (Q : Option Value → px_H → Prop), wp d 32 116 [l0, l1, l2, l3] [] w k Q ↔ wp d 32 35 [l0, l1, l2, l3] [] w k Q) ∧
  (∀ (d : Nat) (l1 l2 l3 : Option Value) (a : Nat) (w : px_H) (k : Nat) (Q : Option Value → px_H → Prop), wp d 32 119 [some (.ref a), l1, l2, l3] [] w k Q ↔ wp d 32 120 [some (.ref a), l1, l2, l3] [.ref a] w k Q) ∧
  (∀ (d : Nat) (l0 l1 l2 l3 : Option Value) (s0 : Value)  (w : px_H) (k : Nat) (Q : Option Value → px_H → Prop), wp d 32 120 [l0, l1, l2, l3] [s0] w k Q ↔ wp d 32 121 [l0, l1, l2, l3] [.int 0, s0] w k Q) ∧
  (∀ (d : Nat) (l0 l1 l2 l3 : Option Value) (x : Int32) (a : Nat) (w : px_H) (k : Nat) (Q : Option Value → px_H → Prop), wp d 32 121 [l0, l1, l2, l3] [.int x, .ref a] w k Q ↔ px_op (px_pfd w a [(4, 0)] 1 (.int x)) (fun w' => wp d 32 124 [l0, l1, l2, l3] [] w' k Q)) ∧
  (∀ (d : Nat) (l1 l2 l3 : Option Value) (a : Nat) (w : px_H) (k : Nat) (Q : Option Value → px_H → Prop), wp d 32 124 [some (.ref a), l1, l2, l3] [] w k Q ↔ wp d 32 125 [some (.ref a), l1, l2, l3] [.ref a] w k Q) ∧
  (∀ (d : Nat) (l0 l1 l2 l3 : Option Value) (a : Nat) (w : px_H) (k : Nat) (Q : Option Value → px_H → Prop), wp d 32 125 [l0, l1, l2, l3] [.ref a] w k Q ↔ px_op (px_fld w a [(4, 0)] 3) (fun v => wp d 32 128 [l0, l1, l2, l3] [v] w k Q)) ∧
  (∀ (d : Nat) (l0 l1 l2 l3 : Option Value) (x : Int32) (w : px_H) (k : Nat) (Q : Option Value → px_H → Prop), wp d 32 128 [l0, l1, l2, l3] [.int x] w k Q ↔ if x = 0 then wp d 32 131 [l0, l1, l2, l3] [] w k Q else wp d 32 135 [l0, l1, l2, l3] [] w k Q) ∧
  (∀ (d : Nat) (l0 l1 l2 l3 : Option Value)  (w : px_H) (k : Nat) (Q : Option Value → px_H → Prop), wp d 32 131 [l0, l1, l2, l3] [] w k Q ↔ wp d 32 132 [l0, l1, l2, l3] [.int 1] w k Q) ∧
  (∀ (d : Nat) (l0 l1 l2 l3 : Option Value) (s0 : Value)  (w : px_H) (k : Nat) (Q : Option Value → px_H → Prop), wp d 32 132 [l0, l1, l2, l3] [s0] w k Q ↔ wp d 32 136 [l0, l1, l2, l3] [s0] w k Q) ∧
  (∀ (d : Nat) (l0 l1 l2 l3 : Option Value)  (w : px_H) (k : Nat) (Q : Option Value → px_H → Prop), wp d 32 135 [l0, l1, l2, l3] [] w k Q ↔ wp d 32 136 [l0, l1, l2, l3] [.int 0] w k Q) ∧
  (∀ (d : Nat) (l0 l1 l2 l3 : Option Value) (x : Int32) (w : px_H) (k : Nat) (Q : Option Value → px_H → Prop), wp d 32 136 [l0, l1, l2, l3] [.int x] w k Q ↔ (x = 0 ∨ x = 1) ∧ Q (some (.int x)) w) := ⟨fun d v0 v1 w Q => r_entry pt_32 (Nat.le_of_ble_eq_true rfl) rfl,
  fun d l1 l2 l3 a w k Q => px_go (q := (.aload_n 0, 1, px_x0)) (S' := (1, [some (.ref a), l1, l2, l3], [.ref a], w, k)) pt_32 rfl rfl,
  fun d l0 l1 l2 l3 s0 w k Q => r_iconst pt_32 rfl (by decide),
  fun d l0 l1 l2 l3 x a w k Q => r_put pt_32 rfl (by simp only [List.all_cons, List.all_nil, ft_4_2, px_fit, px_isr, Bool.and_self]),
  fun d l1 l2 l3 a w k Q => px_go (q := (.aload_n 0, 1, px_x0)) (S' := (6, [some (.ref a), l1, l2, l3], [.ref a], w, k)) pt_32 rfl rfl,
  fun d l0 l1 l2 l3 s0 w k Q => r_iconst pt_32 rfl (by decide),
  fun d l0 l1 l2 l3 x a w k Q => r_put pt_32 rfl (by simp only [List.all_cons, List.all_nil, ft_4_3, px_fit, px_isr, Bool.and_self]),
  fun d l1 l2 l3 a w k Q => px_go (q := (.aload_n 0, 1, px_x0)) (S' := (11, [some (.ref a), l1, l2, l3], [.ref a], w, k)) pt_32 rfl rfl,
  fun d l0 l1 l2 l3 s0 w k Q => r_bipush pt_32 rfl (by decide),
  fun d l0 l1 l2 l3 v0 b w k Q hk => r_callV (q := (.invokevirtual 28, 3, (33, 1, [(4, 35)], 0, ""))) pt_32 rfl rfl (List.forall_mem_cons.mpr ⟨⟨_, pt_35, Nat.le_of_ble_eq_true rfl, hk, rfl⟩, fun _ h => absurd h List.not_mem_nil⟩),
  fun d l0 l2 l3 a w k Q => px_go (q := (.aload_n 1, 1, px_x0)) (S' := (17, [l0, some (.ref a), l2, l3], [.ref a], w, k)) pt_32 rfl rfl,
  fun d l0 l2 l3 w k Q => px_go (q := (.aload_n 1, 1, px_x0)) (S' := (17, [l0, some .null, l2, l3], [.null], w, k)) pt_32 rfl rfl,
  fun d l1 l2 l3 s0 a w k Q => px_go (q := (.aload_n 0, 1, px_x0)) (S' := (18, [some (.ref a), l1, l2, l3], [.ref a, s0], w, k)) pt_32 rfl rfl,
  fun d l0 l1 l2 l3 s0 s1 w k Q => r_iconst pt_32 rfl (by decide),
  fun d l0 l1 l2 l3 s0 s1 s2 w k Q => r_bipush pt_32 rfl (by decide),
  fun d l0 l1 l2 l3 s3 v0 v1 b w k Q hk => r_callV (q := (.invokevirtual 32, 3, (33, 2, [(4, 36)], 0, ""))) pt_32 rfl rfl (List.forall_mem_cons.mpr ⟨⟨_, pt_36, Nat.le_of_ble_eq_true rfl, hk, rfl⟩, fun _ h => absurd h List.not_mem_nil⟩),
  fun d l0 l1 l2 l3 v0 b w k Q hk => r_callV (q := (.invokevirtual 36, 3, (33, 1, [(5, 43)], 0, ""))) pt_32 rfl rfl (List.forall_mem_cons.mpr ⟨⟨_, pt_43, Nat.le_of_ble_eq_true rfl, hk, rfl⟩, fun _ h => absurd h List.not_mem_nil⟩),
  fun d l1 l2 l3 a w k Q => px_go (q := (.aload_n 0, 1, px_x0)) (S' := (28, [some (.ref a), l1, l2, l3], [.ref a], w, k)) pt_32 rfl rfl,
  fun d l0 l1 l2 l3 s0 w k Q => r_bipush pt_32 rfl (by decide),
  fun d l0 l1 l2 l3 v0 b w k Q hk => r_callV (q := (.invokevirtual 28, 3, (33, 1, [(4, 35)], 0, ""))) pt_32 rfl rfl (List.forall_mem_cons.mpr ⟨⟨_, pt_35, Nat.le_of_ble_eq_true rfl, hk, rfl⟩, fun _ h => absurd h List.not_mem_nil⟩),
  fun d l0 l1 l2 l3 w k Q => r_iconst pt_32 rfl (by decide),
  fun d l0 l1 l2 l3 x w k Q => px_go (q := (.istore_n 2, 1, px_x0)) (S' := (35, [l0, l1, some (.int x), l3], [], w, k)) pt_32 rfl rfl,
  fun d l0 l1 l2 l3 s0 w k Q => r_bipush pt_32 rfl (by decide),
  fun d l0 l1 l2 l3 x y w k Q => r_icmp_ge pt_32 rfl rfl,
  fun d l1 l2 l3 a w k Q => px_go (q := (.aload_n 0, 1, px_x0)) (S' := (42, [some (.ref a), l1, l2, l3], [.ref a], w, k)) pt_32 rfl rfl,
  fun d l0 l1 l2 l3 a w k Q => px_goO (q := (.getfield 22, 3, (10, 3, [(4, 0)], 0, "AllSworn$Reader"))) (S' := fun v => (45, [l0, l1, l2, l3], [v], w, k)) pt_32 rfl rfl,
  fun d l0 l1 l2 l3 x w k Q => r_if_ne pt_32 rfl rfl,
  fun d l1 l2 l3 a w k Q => px_go (q := (.aload_n 0, 1, px_x0)) (S' := (49, [some (.ref a), l1, l2, l3], [.ref a], w, k)) pt_32 rfl rfl,
  fun d l0 l1 l2 l3 a w k Q => px_goO (q := (.getfield 19, 3, (10, 2, [(4, 0)], 0, "AllSworn$Reader"))) (S' := fun v => (52, [l0, l1, l2, l3], [v], w, k)) pt_32 rfl rfl,
  fun d l1 l2 l3 s0 a w k Q => px_go (q := (.aload_n 0, 1, px_x0)) (S' := (53, [some (.ref a), l1, l2, l3], [.ref a, s0], w, k)) pt_32 rfl rfl,
  fun d l0 l1 l2 l3 s1 a w k Q => px_goO (q := (.getfield 15, 3, (10, 1, [(4, 0)], 0, "AllSworn$Reader"))) (S' := fun v => (56, [l0, l1, l2, l3], [v, s1], w, k)) pt_32 rfl rfl,
  fun d l0 l1 l2 l3 x y w k Q => r_icmp_ge pt_32 rfl rfl,
  fun d l1 l2 l3 a w k Q => px_go (q := (.aload_n 0, 1, px_x0)) (S' := (60, [some (.ref a), l1, l2, l3], [.ref a], w, k)) pt_32 rfl rfl,
  fun d l0 l1 l2 l3 b w k Q hk => r_callV (q := (.invokevirtual 42, 3, (33, 0, [(4, 37)], 0, ""))) pt_32 rfl rfl (List.forall_mem_cons.mpr ⟨⟨_, pt_37, Nat.le_of_ble_eq_true rfl, hk, rfl⟩, fun _ h => absurd h List.not_mem_nil⟩),
  fun d l0 l1 l2 l3 v0 w k Q hk => r_call (q := (.invokestatic 46, 3, (30, 1, [(0, 39)], 0, ""))) pt_32 rfl rfl pt_39 (Nat.le_of_ble_eq_true rfl) hk rfl,
  fun d l0 l1 l2 l3 x w k Q => px_go (q := (.istore_n 3, 1, px_x0)) (S' := (67, [l0, l1, l2, some (.int x)], [], w, k)) pt_32 rfl rfl,
  fun d l0 l1 l2 x w k Q => px_go (q := (.iload_n 3, 1, px_x0)) (S' := (68, [l0, l1, l2, some (.int x)], [.int x], w, k)) pt_32 rfl rfl,
  fun d l0 l1 l2 l3 x w k Q => r_if_eq pt_32 rfl rfl,
  fun d l0 l2 l3 a w k Q => px_go (q := (.aload_n 1, 1, px_x0)) (S' := (72, [l0, some (.ref a), l2, l3], [.ref a], w, k)) pt_32 rfl rfl,
  fun d l0 l2 l3 w k Q => px_go (q := (.aload_n 1, 1, px_x0)) (S' := (72, [l0, some .null, l2, l3], [.null], w, k)) pt_32 rfl rfl,
  fun d l0 l1 l2 l3 a w k Q => px_goO (q := (.getfield 50, 3, (11, 6, [(5, 0)], 0, "AllSworn$Realm"))) (S' := fun v => (75, [l0, l1, l2, l3], [v], w, k)) pt_32 rfl rfl,
  fun d l0 l1 l2 l3 x w k Q => r_if_ne pt_32 rfl rfl,
  fun d l1 l2 l3 a w k Q => px_go (q := (.aload_n 0, 1, px_x0)) (S' := (79, [some (.ref a), l1, l2, l3], [.ref a], w, k)) pt_32 rfl rfl,
  fun d l0 l2 l3 s0 a w k Q => px_go (q := (.aload_n 1, 1, px_x0)) (S' := (80, [l0, some (.ref a), l2, l3], [.ref a, s0], w, k)) pt_32 rfl rfl,
  fun d l0 l2 l3 s0 w k Q => px_go (q := (.aload_n 1, 1, px_x0)) (S' := (80, [l0, some .null, l2, l3], [.null, s0], w, k)) pt_32 rfl rfl,
  fun d l0 l1 l2 s0 s1 x w k Q => px_go (q := (.iload_n 3, 1, px_x0)) (S' := (81, [l0, l1, l2, some (.int x)], [.int x, s0, s1], w, k)) pt_32 rfl rfl,
  fun d l0 l1 l2 l3 v0 v1 b w k Q hk => r_callV (q := (.invokevirtual 53, 3, (33, 2, [(4, 33)], 0, ""))) pt_32 rfl rfl (List.forall_mem_cons.mpr ⟨⟨_, pt_33, Nat.le_of_ble_eq_true rfl, hk, rfl⟩, fun _ h => absurd h List.not_mem_nil⟩),
  fun d l0 l1 l2 l3 w k Q => r_goto pt_32 rfl rfl,
  fun d l1 l2 l3 a w k Q => px_go (q := (.aload_n 0, 1, px_x0)) (S' := (88, [some (.ref a), l1, l2, l3], [.ref a], w, k)) pt_32 rfl rfl,
  fun d l0 l1 l2 l3 b w k Q hk => r_callV (q := (.invokevirtual 42, 3, (33, 0, [(4, 37)], 0, ""))) pt_32 rfl rfl (List.forall_mem_cons.mpr ⟨⟨_, pt_37, Nat.le_of_ble_eq_true rfl, hk, rfl⟩, fun _ h => absurd h List.not_mem_nil⟩),
  fun d l0 l1 l2 l3 s0 w k Q => r_bipush pt_32 rfl (by decide),
  fun d l0 l1 l2 l3 x y w k Q => r_icmp_ne pt_32 rfl rfl,
  fun d l1 l2 l3 a w k Q => px_go (q := (.aload_n 0, 1, px_x0)) (S' := (97, [some (.ref a), l1, l2, l3], [.ref a], w, k)) pt_32 rfl rfl,
  fun d l0 l2 l3 s0 a w k Q => px_go (q := (.aload_n 1, 1, px_x0)) (S' := (98, [l0, some (.ref a), l2, l3], [.ref a, s0], w, k)) pt_32 rfl rfl,
  fun d l0 l2 l3 s0 w k Q => px_go (q := (.aload_n 1, 1, px_x0)) (S' := (98, [l0, some .null, l2, l3], [.null, s0], w, k)) pt_32 rfl rfl,
  fun d l0 l1 l2 l3 v0 b w k Q hk => r_callV (q := (.invokevirtual 57, 3, (33, 1, [(4, 34)], 0, ""))) pt_32 rfl rfl (List.forall_mem_cons.mpr ⟨⟨_, pt_34, Nat.le_of_ble_eq_true rfl, hk, rfl⟩, fun _ h => absurd h List.not_mem_nil⟩),
  fun d l0 l1 l2 l3 w k Q => r_goto pt_32 rfl rfl,
  fun d l1 l2 l3 a w k Q => px_go (q := (.aload_n 0, 1, px_x0)) (S' := (105, [some (.ref a), l1, l2, l3], [.ref a], w, k)) pt_32 rfl rfl,
  fun d l0 l1 l2 l3 s0 w k Q => r_iconst pt_32 rfl (by decide),
  fun d l1 l2 l3 s0 s1 a w k Q => px_go (q := (.aload_n 0, 1, px_x0)) (S' := (107, [some (.ref a), l1, l2, l3], [.ref a, s0, s1], w, k)) pt_32 rfl rfl,
  fun d l0 l1 l2 l3 s1 s2 a w k Q => px_goO (q := (.getfield 19, 3, (10, 2, [(4, 0)], 0, "AllSworn$Reader"))) (S' := fun v => (110, [l0, l1, l2, l3], [v, s1, s2], w, k)) pt_32 rfl rfl,
  fun d l0 l1 l2 l3 v0 v1 b w k Q hk => r_callV (q := (.invokevirtual 61, 3, (33, 2, [(4, 38)], 0, ""))) pt_32 rfl rfl (List.forall_mem_cons.mpr ⟨⟨_, pt_38, Nat.le_of_ble_eq_true rfl, hk, rfl⟩, fun _ h => absurd h List.not_mem_nil⟩),
  fun d l0 l1 l3 x w k Q => r_iinc pt_32 rfl rfl (by decide) rfl,
  fun d l0 l1 l2 l3 w k Q => r_goto pt_32 rfl rfl,
  fun d l1 l2 l3 a w k Q => px_go (q := (.aload_n 0, 1, px_x0)) (S' := (120, [some (.ref a), l1, l2, l3], [.ref a], w, k)) pt_32 rfl rfl,
  fun d l0 l1 l2 l3 s0 w k Q => r_iconst pt_32 rfl (by decide),
  fun d l0 l1 l2 l3 x a w k Q => r_put pt_32 rfl (by simp only [List.all_cons, List.all_nil, ft_4_1, px_fit, px_isr, Bool.and_self]),
  fun d l1 l2 l3 a w k Q => px_go (q := (.aload_n 0, 1, px_x0)) (S' := (125, [some (.ref a), l1, l2, l3], [.ref a], w, k)) pt_32 rfl rfl,
  fun d l0 l1 l2 l3 a w k Q => px_goO (q := (.getfield 22, 3, (10, 3, [(4, 0)], 0, "AllSworn$Reader"))) (S' := fun v => (128, [l0, l1, l2, l3], [v], w, k)) pt_32 rfl rfl,
  fun d l0 l1 l2 l3 x w k Q => r_if_ne pt_32 rfl rfl,
  fun d l0 l1 l2 l3 w k Q => r_iconst pt_32 rfl (by decide),
  fun d l0 l1 l2 l3 s0 w k Q => r_goto pt_32 rfl rfl,
  fun d l0 l1 l2 l3 w k Q => r_iconst pt_32 rfl (by decide),
  fun d l0 l1 l2 l3 x w k Q => px_retI (q := (.ireturn, 1, px_x0)) pt_32 rfl rfl⟩
theorem H32_35 : ∀ (d : Nat) (l0 l1 l3 : Option Value) (x : Int32) (w : px_H) (k : Nat) (Q : Option Value → px_H → Prop), wp d 32 35 [l0, l1, some (.int x), l3] [] w k Q ↔ wp d 32 36 [l0, l1, some (.int x), l3] [.int x] w k Q := fun d l0 l1 l3 x w k Q => px_go (q := (.iload_n 2, 1, px_x0)) (S' := (36, [l0, l1, some (.int x), l3], [.int x], w, k)) pt_32 rfl rfl
/-- AllSworn$Reader.readThing(LAllSworn$Realm;I)V -/
theorem S33 : (∀ (d : Nat) (v0 v1 v2 : Value) (w : px_H) (Q : Option Value → px_H → Prop), wc d 33 [v0, v1, v2] w Q ↔ wp d 33 0 [some v0, some v1, some v2, none, none] [] w 0 Q) ∧
  (∀ (d : Nat) (l0 l2 l3 l4 : Option Value) (a : Nat) (w : px_H) (k : Nat) (Q : Option Value → px_H → Prop), wp d 33 0 [l0, some (.ref a), l2, l3, l4] [] w k Q ↔ wp d 33 1 [l0, some (.ref a), l2, l3, l4] [.ref a] w k Q) ∧
  (∀ (d : Nat) (l0 l2 l3 l4 : Option Value)  (w : px_H) (k : Nat) (Q : Option Value → px_H → Prop), wp d 33 0 [l0, some .null, l2, l3, l4] [] w k Q ↔ wp d 33 1 [l0, some .null, l2, l3, l4] [.null] w k Q) ∧
  (∀ (d : Nat) (l0 l1 l2 l3 l4 : Option Value) (a : Nat) (w : px_H) (k : Nat) (Q : Option Value → px_H → Prop), wp d 33 1 [l0, l1, l2, l3, l4] [.ref a] w k Q ↔ px_op (px_fld w a [(5, 0)] 5) (fun v => wp d 33 4 [l0, l1, l2, l3, l4] [v] w k Q)) ∧
  (∀ (d : Nat) (l0 l1 l2 l3 l4 : Option Value) (s0 : Value)  (w : px_H) (k : Nat) (Q : Option Value → px_H → Prop), wp d 33 4 [l0, l1, l2, l3, l4] [s0] w k Q ↔ wp d 33 6 [l0, l1, l2, l3, l4] [.int 8, s0] w k Q) ∧
  (∀ (d : Nat) (l0 l1 l2 l3 l4 : Option Value) (x y : Int32) (w : px_H) (k : Nat) (Q : Option Value → px_H → Prop), wp d 33 6 [l0, l1, l2, l3, l4] [.int y, .int x] w k Q ↔ if x < y then wp d 33 19 [l0, l1, l2, l3, l4] [] w k Q else wp d 33 9 [l0, l1, l2, l3, l4] [] w k Q) ∧
  (∀ (d : Nat) (l1 l2 l3 l4 : Option Value) (a : Nat) (w : px_H) (k : Nat) (Q : Option Value → px_H → Prop), wp d 33 9 [some (.ref a), l1, l2, l3, l4] [] w k Q ↔ wp d 33 10 [some (.ref a), l1, l2, l3, l4] [.ref a] w k Q) ∧
  (∀ (d : Nat) (l0 l1 l2 l3 l4 : Option Value) (s0 : Value)  (w : px_H) (k : Nat) (Q : Option Value → px_H → Prop), wp d 33 10 [l0, l1, l2, l3, l4] [s0] w k Q ↔ wp d 33 11 [l0, l1, l2, l3, l4] [.int 3, s0] w k Q) ∧
  (∀ (d : Nat) (l1 l2 l3 l4 : Option Value) (s0 s1 : Value) (a : Nat) (w : px_H) (k : Nat) (Q : Option Value → px_H → Prop), wp d 33 11 [some (.ref a), l1, l2, l3, l4] [s0, s1] w k Q ↔ wp d 33 12 [some (.ref a), l1, l2, l3, l4] [.ref a, s0, s1] w k Q) ∧
  (∀ (d : Nat) (l0 l1 l2 l3 l4 : Option Value) (s1 s2 : Value) (a : Nat) (w : px_H) (k : Nat) (Q : Option Value → px_H → Prop), wp d 33 12 [l0, l1, l2, l3, l4] [.ref a, s1, s2] w k Q ↔ px_op (px_fld w a [(4, 0)] 2) (fun v => wp d 33 15 [l0, l1, l2, l3, l4] [v, s1, s2] w k Q)) ∧
  (∀ (d : Nat) (l0 l1 l2 l3 l4 : Option Value) (v0 v1 : Value) (b : Nat) (w : px_H) (k : Nat) (Q : Option Value → px_H → Prop) (hk : k + 0 ≤ 1), wp (d + 1) 33 15 [l0, l1, l2, l3, l4] [v1, v0, .ref b] w k Q ↔ px_op (px_tgt w b [(4, 38)]) (fun v => wc d v [.ref b, v0, v1] w (fun r w' => wp (d + 1) 33 18 [l0, l1, l2, l3, l4] (r.toList ++ []) w' k Q))) ∧
  (∀ (d : Nat) (l0 l1 l2 l3 l4 : Option Value)  (w : px_H) (k : Nat) (Q : Option Value → px_H → Prop), wp d 33 18 [l0, l1, l2, l3, l4] [] w k Q ↔ Q none w) ∧
  (∀ (d : Nat) (l1 l2 l3 l4 : Option Value) (a : Nat) (w : px_H) (k : Nat) (Q : Option Value → px_H → Prop), wp d 33 19 [some (.ref a), l1, l2, l3, l4] [] w k Q ↔ wp d 33 20 [some (.ref a), l1, l2, l3, l4] [.ref a] w k Q) ∧
  (∀ (d : Nat) (l0 l1 l2 l3 l4 : Option Value) (s0 : Value)  (w : px_H) (k : Nat) (Q : Option Value → px_H → Prop), wp d 33 20 [l0, l1, l2, l3, l4] [s0] w k Q ↔ wp d 33 21 [l0, l1, l2, l3, l4] [s0, s0] w k Q) ∧
  (∀ (d : Nat) (l0 l1 l2 l3 l4 : Option Value) (s1 : Value) (a : Nat) (w : px_H) (k : Nat) (Q : Option Value → px_H → Prop), wp d 33 21 [l0, l1, l2, l3, l4] [.ref a, s1] w k Q ↔ px_op (px_fld w a [(4, 0)] 2) (fun v => wp d 33 24 [l0, l1, l2, l3, l4] [v, s1] w k Q)) ∧
  (∀ (d : Nat) (l0 l1 l2 l3 l4 : Option Value) (s0 s1 : Value)  (w : px_H) (k : Nat) (Q : Option Value → px_H → Prop), wp d 33 24 [l0, l1, l2, l3, l4] [s0, s1] w k Q ↔ wp d 33 25 [l0, l1, l2, l3, l4] [.int 1, s0, s1] w k Q) ∧
  (∀ (d : Nat) (l0 l1 l2 l3 l4 : Option Value) (s2 : Value) (x y : Int32) (w : px_H) (k : Nat) (Q : Option Value → px_H → Prop), wp d 33 25 [l0, l1, l2, l3, l4] [.int y, .int x, s2] w k Q ↔ wp d 33 26 [l0, l1, l2, l3, l4] [.int (x + y), s2] w k Q) ∧
  (∀ (d : Nat) (l0 l1 l2 l3 l4 : Option Value) (x : Int32) (a : Nat) (w : px_H) (k : Nat) (Q : Option Value → px_H → Prop), wp d 33 26 [l0, l1, l2, l3, l4] [.int x, .ref a] w k Q ↔ px_op (px_pfd w a [(4, 0)] 2 (.int x)) (fun w' => wp d 33 29 [l0, l1, l2, l3, l4] [] w' k Q)) ∧
  (∀ (d : Nat) (l1 l2 l3 l4 : Option Value) (a : Nat) (w : px_H) (k : Nat) (Q : Option Value → px_H → Prop), wp d 33 29 [some (.ref a), l1, l2, l3, l4] [] w k Q ↔ wp d 33 30 [some (.ref a), l1, l2, l3, l4] [.ref a] w k Q) ∧
  (∀ (d : Nat) (l0 l1 l2 l3 l4 : Option Value) (s0 : Value)  (w : px_H) (k : Nat) (Q : Option Value → px_H → Prop), wp d 33 30 [l0, l1, l2, l3, l4] [s0] w k Q ↔ wp d 33 31 [l0, l1, l2, l3, l4] [.int 0, s0] w k Q) ∧
  (∀ (d : Nat) (l0 l1 l2 l3 l4 : Option Value) (s0 s1 : Value)  (w : px_H) (k : Nat) (Q : Option Value → px_H → Prop), wp d 33 31 [l0, l1, l2, l3, l4] [s0, s1] w k Q ↔ wp d 33 33 [l0, l1, l2, l3, l4] [.int 9, s0, s1] w k Q) ∧
  (∀ (d : Nat) (l0 l1 l2 l3 l4 : Option Value) (v0 v1 : Value) (b : Nat) (w : px_H) (k : Nat) (Q : Option Value → px_H → Prop) (hk : k + 0 ≤ 1), wp (d + 1) 33 33 [l0, l1, l2, l3, l4] [v1, v0, .ref b] w k Q ↔ px_op (px_tgt w b [(4, 36)]) (fun v => wc d v [.ref b, v0, v1] w (fun r w' => wp (d + 1) 33 36 [l0, l1, l2, l3, l4] (r.toList ++ []) w' k Q))) ∧
  (∀ (d : Nat) (l0 l1 l2 l3 l4 : Option Value) (x : Int32) (w : px_H) (k : Nat) (Q : Option Value → px_H → Prop), wp d 33 36 [l0, l1, l2, l3, l4] [.int x] w k Q ↔ wp d 33 37 [l0, l1, l2, some (.int x), l4] [] w k Q) ∧
  (∀ (d : Nat) (l1 l2 l3 l4 : Option Value) (a : Nat) (w : px_H) (k : Nat) (Q : Option Value → px_H → Prop), wp d 33 37 [some (.ref a), l1, l2, l3, l4] [] w k Q ↔ wp d 33 38 [some (.ref a), l1, l2, l3, l4] [.ref a] w k Q) ∧
  (∀ (d : Nat) (l0 l1 l2 l3 l4 : Option Value) (s0 : Value)  (w : px_H) (k : Nat) (Q : Option Value → px_H → Prop), wp d 33 38 [l0, l1, l2, l3, l4] [s0] w k Q ↔ wp d 33 40 [l0, l1, l2, l3, l4] [.int 44, s0] w k Q) ∧
  (∀ (d : Nat) (l0 l1 l2 l3 l4 : Option Value) (v0 : Value) (b : Nat) (w : px_H) (k : Nat) (Q : Option Value → px_H → Prop) (hk : k + 0 ≤ 1), wp (d + 1) 33 40 [l0, l1, l2, l3, l4] [v0, .ref b] w k Q ↔ px_op (px_tgt w b [(4, 35)]) (fun v => wc d v [.ref b, v0] w (fun r w' => wp (d + 1) 33 43 [l0, l1, l2, l3, l4] (r.toList ++ []) w' k Q))) ∧
  (∀ (d : Nat) (l1 l2 l3 l4 : Option Value) (a : Nat) (w : px_H) (k : Nat) (Q : Option Value → px_H → Prop), wp d 33 43 [some (.ref a), l1, l2, l3, l4] [] w k Q ↔ wp d 33 44 [some (.ref a), l1, l2, l3, l4] [.ref a] w k Q) ∧
  (∀ (d : Nat) (l0 l1 l2 l3 l4 : Option Value) (s0 : Value)  (w : px_H) (k : Nat) (Q : Option Value → px_H → Prop), wp d 33 44 [l0, l1, l2, l3, l4] [s0] w k Q ↔ wp d 33 45 [l0, l1, l2, l3, l4] [.int 0, s0] w k Q) ∧
  (∀ (d : Nat) (l0 l1 l2 l3 l4 : Option Value) (s0 s1 : Value)  (w : px_H) (k : Nat) (Q : Option Value → px_H → Prop), wp d 33 45 [l0, l1, l2, l3, l4] [s0, s1] w k Q ↔ wp d 33 47 [l0, l1, l2, l3, l4] [.int 20, s0, s1] w k Q) ∧
  (∀ (d : Nat) (l0 l1 l2 l3 l4 : Option Value) (v0 v1 : Value) (b : Nat) (w : px_H) (k : Nat) (Q : Option Value → px_H → Prop) (hk : k + 0 ≤ 1), wp (d + 1) 33 47 [l0, l1, l2, l3, l4] [v1, v0, .ref b] w k Q ↔ px_op (px_tgt w b [(4, 36)]) (fun v => wc d v [.ref b, v0, v1] w (fun r w' => wp (d + 1) 33 50 [l0, l1, l2, l3, l4] (r.toList ++ []) w' k Q))) ∧
  (∀ (d : Nat) (l0 l1 l2 l3 l4 : Option Value) (x : Int32) (w : px_H) (k : Nat) (Q : Option Value → px_H → Prop), wp d 33 50 [l0, l1, l2, l3, l4] [.int x] w k Q ↔ wp d 33 52 [l0, l1, l2, l3, some (.int x)] [] w k Q) ∧
  (∀ (d : Nat) (l1 l2 l3 l4 : Option Value) (a : Nat) (w : px_H) (k : Nat) (Q : Option Value → px_H → Prop), wp d 33 52 [some (.ref a), l1, l2, l3, l4] [] w k Q ↔ wp d 33 53 [some (.ref a), l1, l2, l3, l4] [.ref a] w k Q) ∧
  (∀ (d : Nat) (l0 l1 l2 l3 l4 : Option Value) (s0 : Value)  (w : px_H) (k : Nat) (Q : Option Value → px_H → Prop), wp d 33 53 [l0, l1, l2, l3, l4] [s0] w k Q ↔ wp d 33 55 [l0, l1, l2, l3, l4] [.int 59, s0] w k Q) ∧
  (∀ (d : Nat) (l0 l1 l2 l3 l4 : Option Value) (v0 : Value) (b : Nat) (w : px_H) (k : Nat) (Q : Option Value → px_H → Prop) (hk : k + 0 ≤ 1), wp (d + 1) 33 55 [l0, l1, l2, l3, l4] [v0, .ref b] w k Q ↔ px_op (px_tgt w b [(4, 35)]) (fun v => wc d v [.ref b, v0] w (fun r w' => wp (d + 1) 33 58 [l0, l1, l2, l3, l4] (r.toList ++ []) w' k Q))) ∧
  (∀ (d : Nat) (l1 l2 l3 l4 : Option Value) (a : Nat) (w : px_H) (k : Nat) (Q : Option Value → px_H → Prop), wp d 33 58 [some (.ref a), l1, l2, l3, l4] [] w k Q ↔ wp d 33 59 [some (.ref a), l1, l2, l3, l4] [.ref a] w k Q) ∧
  (∀ (d : Nat) (l0 l1 l2 l3 l4 : Option Value) (a : Nat) (w : px_H) (k : Nat) (Q : Option Value → px_H → Prop), wp d 33 59 [l0, l1, l2, l3, l4] [.ref a] w k Q ↔ px_op (px_fld w a [(4, 0)] 3) (fun v => wp d 33 62 [l0, l1, l2, l3, l4] [v] w k Q)) ∧
  (∀ (d : Nat) (l0 l1 l2 l3 l4 : Option Value) (x : Int32) (w : px_H) (k : Nat) (Q : Option Value → px_H → Prop), wp d 33 62 [l0, l1, l2, l3, l4] [.int x] w k Q ↔ if x = 0 then wp d 33 65 [l0, l1, l2, l3, l4] [] w k Q else wp d 33 80 [l0, l1, l2, l3, l4] [] w k Q) ∧
  (∀ (d : Nat) (l0 l2 l3 l4 : Option Value) (a : Nat) (w : px_H) (k : Nat) (Q : Option Value → px_H → Prop), wp d 33 65 [l0, some (.ref a), l2, l3, l4] [] w k Q ↔ wp d 33 66 [l0, some (.ref a), l2, l3, l4] [.ref a] w k Q) ∧
  (∀ (d : Nat) (l0 l2 l3 l4 : Option Value)  (w : px_H) (k : Nat) (Q : Option Value → px_H → Prop), wp d 33 65 [l0, some .null, l2, l3, l4] [] w k Q ↔ wp d 33 66 [l0, some .null, l2, l3, l4] [.null] w k Q) ∧
  (∀ (d : Nat) (l0 l1 l3 l4 : Option Value) (s0 : Value) (x : Int32) (w : px_H) (k : Nat) (Q : Option Value → px_H → Prop), wp d 33 66 [l0, l1, some (.int x), l3, l4] [s0] w k Q ↔ wp d 33 67 [l0, l1, some (.int x), l3, l4] [.int x, s0] w k Q) ∧
  (∀ (d : Nat) (l0 l2 l3 l4 : Option Value) (s0 s1 : Value) (a : Nat) (w : px_H) (k : Nat) (Q : Option Value → px_H → Prop), wp d 33 67 [l0, some (.ref a), l2, l3, l4] [s0, s1] w k Q ↔ wp d 33 68 [l0, some (.ref a), l2, l3, l4] [.ref a, s0, s1] w k Q) ∧
  (∀ (d : Nat) (l0 l2 l3 l4 : Option Value) (s0 s1 : Value)  (w : px_H) (k : Nat) (Q : Option Value → px_H → Prop), wp d 33 67 [l0, some .null, l2, l3, l4] [s0, s1] w k Q ↔ wp d 33 68 [l0, some .null, l2, l3, l4] [.null, s0, s1] w k Q) ∧
  (∀ (d : Nat) (l0 l1 l2 l3 l4 : Option Value) (s1 s2 : Value) (a : Nat) (w : px_H) (k : Nat) (Q : Option Value → px_H → Prop), wp d 33 68 [l0, l1, l2, l3, l4] [.ref a, s1, s2] w k Q ↔ px_op (px_fld w a [(5, 0)] 5) (fun v => wp d 33 71 [l0, l1, l2, l3, l4] [v, s1, s2] w k Q)) ∧
  (∀ (d : Nat) (l0 l1 l2 l4 : Option Value) (s0 s1 s2 : Value) (x : Int32) (w : px_H) (k : Nat) (Q : Option Value → px_H → Prop), wp d 33 71 [l0, l1, l2, some (.int x), l4] [s0, s1, s2] w k Q ↔ wp d 33 72 [l0, l1, l2, some (.int x), l4] [.int x, s0, s1, s2] w k Q) ∧
  (∀ (d : Nat) (l0 l1 l2 l3 : Option Value) (s0 s1 s2 s3 : Value) (x : Int32) (w : px_H) (k : Nat) (Q : Option Value → px_H → Prop), wp d 33 72 [l0, l1, l2, l3, some (.int x)] [s0, s1, s2, s3] w k Q ↔ wp d 33 74 [l0, l1, l2, l3, some (.int x)] [.int x, s0, s1, s2, s3] w k Q) ∧
  (∀ (d : Nat) (l0 l1 l2 l3 l4 : Option Value) (s4 : Value) (v0 v1 v2 v3 : Value) (w : px_H) (k : Nat) (Q : Option Value → px_H → Prop) (hk : k + 1 ≤ 1), wp (d + 1) 33 74 [l0, l1, l2, l3, l4] [v3, v2, v1, v0, s4] w k Q ↔ wc d 40 [v0, v1, v2, v3] w (fun r w' => wp (d + 1) 33 77 [l0, l1, l2, l3, l4] (r.toList ++ [s4]) w' (k + 1) Q)) ∧
  (∀ (d : Nat) (l0 l1 l2 l3 l4 : Option Value) (v0 : Value) (b : Nat) (w : px_H) (k : Nat) (Q : Option Value → px_H → Prop) (hk : k + 0 ≤ 1), wp (d + 1) 33 77 [l0, l1, l2, l3, l4] [v0, .ref b] w k Q ↔ px_op (px_tgt w b [(5, 44)]) (fun v => wc d v [.ref b, v0] w (fun r w' => wp (d + 1) 33 80 [l0, l1, l2, l3, l4] (r.toList ++ []) w' k Q))) ∧
  (∀ (d : Nat) (l0 l1 l2 l3 l4 : Option Value)  (w : px_H) (k : Nat) (Q : Option Value → px_H → Prop), wp d 33 80 [l0, l1, l2, l3, l4] [] w k Q ↔ Q none w) := ⟨fun d v0 v1 v2 w Q => r_entry pt_33 (Nat.le_of_ble_eq_true rfl) rfl,
  fun d l0 l2 l3 l4 a w k Q => px_go (q := (.aload_n 1, 1, px_x0)) (S' := (1, [l0, some (.ref a), l2, l3, l4], [.ref a], w, k)) pt_33 rfl rfl,
  fun d l0 l2 l3 l4 w k Q => px_go (q := (.aload_n 1, 1, px_x0)) (S' := (1, [l0, some .null, l2, l3, l4], [.null], w, k)) pt_33 rfl rfl,
  fun d l0 l1 l2 l3 l4 a w k Q => px_goO (q := (.getfield 65, 3, (11, 5, [(5, 0)], 0, "AllSworn$Realm"))) (S' := fun v => (4, [l0, l1, l2, l3, l4], [v], w, k)) pt_33 rfl rfl,
  fun d l0 l1 l2 l3 l4 s0 w k Q => r_bipush pt_33 rfl (by decide),
  fun d l0 l1 l2 l3 l4 x y w k Q => r_icmp_lt pt_33 rfl rfl,
  fun d l1 l2 l3 l4 a w k Q => px_go (q := (.aload_n 0, 1, px_x0)) (S' := (10, [some (.ref a), l1, l2, l3, l4], [.ref a], w, k)) pt_33 rfl rfl,
  fun d l0 l1 l2 l3 l4 s0 w k Q => r_iconst pt_33 rfl (by decide),
  fun d l1 l2 l3 l4 s0 s1 a w k Q => px_go (q := (.aload_n 0, 1, px_x0)) (S' := (12, [some (.ref a), l1, l2, l3, l4], [.ref a, s0, s1], w, k)) pt_33 rfl rfl,
  fun d l0 l1 l2 l3 l4 s1 s2 a w k Q => px_goO (q := (.getfield 19, 3, (10, 2, [(4, 0)], 0, "AllSworn$Reader"))) (S' := fun v => (15, [l0, l1, l2, l3, l4], [v, s1, s2], w, k)) pt_33 rfl rfl,
  fun d l0 l1 l2 l3 l4 v0 v1 b w k Q hk => r_callV (q := (.invokevirtual 61, 3, (33, 2, [(4, 38)], 0, ""))) pt_33 rfl rfl (List.forall_mem_cons.mpr ⟨⟨_, pt_38, Nat.le_of_ble_eq_true rfl, hk, rfl⟩, fun _ h => absurd h List.not_mem_nil⟩),
  fun d l0 l1 l2 l3 l4 w k Q => px_ret (q := (.return_, 1, px_x0)) pt_33 rfl rfl,
  fun d l1 l2 l3 l4 a w k Q => px_go (q := (.aload_n 0, 1, px_x0)) (S' := (20, [some (.ref a), l1, l2, l3, l4], [.ref a], w, k)) pt_33 rfl rfl,
  fun d l0 l1 l2 l3 l4 s0 w k Q => px_go (q := (.dup, 1, px_x0)) (S' := (21, [l0, l1, l2, l3, l4], [s0, s0], w, k)) pt_33 rfl rfl,
  fun d l0 l1 l2 l3 l4 s1 a w k Q => px_goO (q := (.getfield 19, 3, (10, 2, [(4, 0)], 0, "AllSworn$Reader"))) (S' := fun v => (24, [l0, l1, l2, l3, l4], [v, s1], w, k)) pt_33 rfl rfl,
  fun d l0 l1 l2 l3 l4 s0 s1 w k Q => r_iconst pt_33 rfl (by decide),
  fun d l0 l1 l2 l3 l4 s2 x y w k Q => px_go (q := (.iadd, 1, px_x0)) (S' := (26, [l0, l1, l2, l3, l4], [.int (x + y), s2], w, k)) pt_33 rfl rfl,
  fun d l0 l1 l2 l3 l4 x a w k Q => r_put pt_33 rfl (by simp only [List.all_cons, List.all_nil, ft_4_2, px_fit, px_isr, Bool.and_self]),
  fun d l1 l2 l3 l4 a w k Q => px_go (q := (.aload_n 0, 1, px_x0)) (S' := (30, [some (.ref a), l1, l2, l3, l4], [.ref a], w, k)) pt_33 rfl rfl,
  fun d l0 l1 l2 l3 l4 s0 w k Q => r_iconst pt_33 rfl (by decide),
  fun d l0 l1 l2 l3 l4 s0 s1 w k Q => r_bipush pt_33 rfl (by decide),
  fun d l0 l1 l2 l3 l4 v0 v1 b w k Q hk => r_callV (q := (.invokevirtual 32, 3, (33, 2, [(4, 36)], 0, ""))) pt_33 rfl rfl (List.forall_mem_cons.mpr ⟨⟨_, pt_36, Nat.le_of_ble_eq_true rfl, hk, rfl⟩, fun _ h => absurd h List.not_mem_nil⟩),
  fun d l0 l1 l2 l3 l4 x w k Q => px_go (q := (.istore_n 3, 1, px_x0)) (S' := (37, [l0, l1, l2, some (.int x), l4], [], w, k)) pt_33 rfl rfl,
  fun d l1 l2 l3 l4 a w k Q => px_go (q := (.aload_n 0, 1, px_x0)) (S' := (38, [some (.ref a), l1, l2, l3, l4], [.ref a], w, k)) pt_33 rfl rfl,
  fun d l0 l1 l2 l3 l4 s0 w k Q => r_bipush pt_33 rfl (by decide),
  fun d l0 l1 l2 l3 l4 v0 b w k Q hk => r_callV (q := (.invokevirtual 28, 3, (33, 1, [(4, 35)], 0, ""))) pt_33 rfl rfl (List.forall_mem_cons.mpr ⟨⟨_, pt_35, Nat.le_of_ble_eq_true rfl, hk, rfl⟩, fun _ h => absurd h List.not_mem_nil⟩),
  fun d l1 l2 l3 l4 a w k Q => px_go (q := (.aload_n 0, 1, px_x0)) (S' := (44, [some (.ref a), l1, l2, l3, l4], [.ref a], w, k)) pt_33 rfl rfl,
  fun d l0 l1 l2 l3 l4 s0 w k Q => r_iconst pt_33 rfl (by decide),
  fun d l0 l1 l2 l3 l4 s0 s1 w k Q => r_bipush pt_33 rfl (by decide),
  fun d l0 l1 l2 l3 l4 v0 v1 b w k Q hk => r_callV (q := (.invokevirtual 32, 3, (33, 2, [(4, 36)], 0, ""))) pt_33 rfl rfl (List.forall_mem_cons.mpr ⟨⟨_, pt_36, Nat.le_of_ble_eq_true rfl, hk, rfl⟩, fun _ h => absurd h List.not_mem_nil⟩),
  fun d l0 l1 l2 l3 l4 x w k Q => px_go (q := (.istore 4, 2, px_x0)) (S' := (52, [l0, l1, l2, l3, some (.int x)], [], w, k)) pt_33 rfl rfl,
  fun d l1 l2 l3 l4 a w k Q => px_go (q := (.aload_n 0, 1, px_x0)) (S' := (53, [some (.ref a), l1, l2, l3, l4], [.ref a], w, k)) pt_33 rfl rfl,
  fun d l0 l1 l2 l3 l4 s0 w k Q => r_bipush pt_33 rfl (by decide),
  fun d l0 l1 l2 l3 l4 v0 b w k Q hk => r_callV (q := (.invokevirtual 28, 3, (33, 1, [(4, 35)], 0, ""))) pt_33 rfl rfl (List.forall_mem_cons.mpr ⟨⟨_, pt_35, Nat.le_of_ble_eq_true rfl, hk, rfl⟩, fun _ h => absurd h List.not_mem_nil⟩),
  fun d l1 l2 l3 l4 a w k Q => px_go (q := (.aload_n 0, 1, px_x0)) (S' := (59, [some (.ref a), l1, l2, l3, l4], [.ref a], w, k)) pt_33 rfl rfl,
  fun d l0 l1 l2 l3 l4 a w k Q => px_goO (q := (.getfield 22, 3, (10, 3, [(4, 0)], 0, "AllSworn$Reader"))) (S' := fun v => (62, [l0, l1, l2, l3, l4], [v], w, k)) pt_33 rfl rfl,
  fun d l0 l1 l2 l3 l4 x w k Q => r_if_ne pt_33 rfl rfl,
  fun d l0 l2 l3 l4 a w k Q => px_go (q := (.aload_n 1, 1, px_x0)) (S' := (66, [l0, some (.ref a), l2, l3, l4], [.ref a], w, k)) pt_33 rfl rfl,
  fun d l0 l2 l3 l4 w k Q => px_go (q := (.aload_n 1, 1, px_x0)) (S' := (66, [l0, some .null, l2, l3, l4], [.null], w, k)) pt_33 rfl rfl,
  fun d l0 l1 l3 l4 s0 x w k Q => px_go (q := (.iload_n 2, 1, px_x0)) (S' := (67, [l0, l1, some (.int x), l3, l4], [.int x, s0], w, k)) pt_33 rfl rfl,
  fun d l0 l2 l3 l4 s0 s1 a w k Q => px_go (q := (.aload_n 1, 1, px_x0)) (S' := (68, [l0, some (.ref a), l2, l3, l4], [.ref a, s0, s1], w, k)) pt_33 rfl rfl,
  fun d l0 l2 l3 l4 s0 s1 w k Q => px_go (q := (.aload_n 1, 1, px_x0)) (S' := (68, [l0, some .null, l2, l3, l4], [.null, s0, s1], w, k)) pt_33 rfl rfl,
  fun d l0 l1 l2 l3 l4 s1 s2 a w k Q => px_goO (q := (.getfield 65, 3, (11, 5, [(5, 0)], 0, "AllSworn$Realm"))) (S' := fun v => (71, [l0, l1, l2, l3, l4], [v, s1, s2], w, k)) pt_33 rfl rfl,
  fun d l0 l1 l2 l4 s0 s1 s2 x w k Q => px_go (q := (.iload_n 3, 1, px_x0)) (S' := (72, [l0, l1, l2, some (.int x), l4], [.int x, s0, s1, s2], w, k)) pt_33 rfl rfl,
  fun d l0 l1 l2 l3 s0 s1 s2 s3 x w k Q => px_go (q := (.iload 4, 2, px_x0)) (S' := (74, [l0, l1, l2, l3, some (.int x)], [.int x, s0, s1, s2, s3], w, k)) pt_33 rfl rfl,
  fun d l0 l1 l2 l3 l4 s4 v0 v1 v2 v3 w k Q hk => r_call (q := (.invokestatic 68, 3, (30, 4, [(0, 40)], 0, ""))) pt_33 rfl rfl pt_40 (Nat.le_of_ble_eq_true rfl) hk rfl,
  fun d l0 l1 l2 l3 l4 v0 b w k Q hk => r_callV (q := (.invokevirtual 72, 3, (33, 1, [(5, 44)], 0, ""))) pt_33 rfl rfl (List.forall_mem_cons.mpr ⟨⟨_, pt_44, Nat.le_of_ble_eq_true rfl, hk, rfl⟩, fun _ h => absurd h List.not_mem_nil⟩),
  fun d l0 l1 l2 l3 l4 w k Q => px_ret (q := (.return_, 1, px_x0)) pt_33 rfl rfl⟩
/-- AllSworn$Reader.readHarm(LAllSworn$Realm;)V -/
theorem S34 : (∀ (d : Nat) (v0 v1 : Value) (w : px_H) (Q : Option Value → px_H → Prop), wc d 34 [v0, v1] w Q ↔ wp d 34 0 [some v0, some v1, none] [] w 0 Q) ∧
  (∀ (d : Nat) (l0 l2 : Option Value) (a : Nat) (w : px_H) (Q : Option Value → px_H → Prop), wp d 34 0 [l0, some (.ref a), l2] [] w 0 Q ↔ wp d 34 1 [l0, some (.ref a), l2] [.ref a] w 0 Q) ∧
  (∀ (d : Nat) (l0 l2 : Option Value)  (w : px_H) (Q : Option Value → px_H → Prop), wp d 34 0 [l0, some .null, l2] [] w 0 Q ↔ wp d 34 1 [l0, some .null, l2] [.null] w 0 Q) ∧
  (∀ (d : Nat) (l0 l1 l2 : Option Value) (a : Nat) (w : px_H) (Q : Option Value → px_H → Prop), wp d 34 1 [l0, l1, l2] [.ref a] w 0 Q ↔ px_op (px_fld w a [(5, 0)] 6) (fun v => wp d 34 4 [l0, l1, l2] [v] w 0 Q)) ∧
  (∀ (d : Nat) (l0 l1 l2 : Option Value) (s0 : Value)  (w : px_H) (Q : Option Value → px_H → Prop), wp d 34 4 [l0, l1, l2] [s0] w 0 Q ↔ wp d 34 6 [l0, l1, l2] [.int 8, s0] w 0 Q) ∧
  (∀ (d : Nat) (l0 l1 l2 : Option Value) (x y : Int32) (w : px_H) (Q : Option Value → px_H → Prop), wp d 34 6 [l0, l1, l2] [.int y, .int x] w 0 Q ↔ if x < y then wp d 34 19 [l0, l1, l2] [] w 0 Q else wp d 34 9 [l0, l1, l2] [] w 0 Q) ∧
  (∀ (d : Nat) (l1 l2 : Option Value) (a : Nat) (w : px_H) (Q : Option Value → px_H → Prop), wp d 34 9 [some (.ref a), l1, l2] [] w 0 Q ↔ wp d 34 10 [some (.ref a), l1, l2] [.ref a] w 0 Q) ∧
  (∀ (d : Nat) (l0 l1 l2 : Option Value) (s0 : Value)  (w : px_H) (Q : Option Value → px_H → Prop), wp d 34 10 [l0, l1, l2] [s0] w 0 Q ↔ wp d 34 11 [l0, l1, l2] [.int 3, s0] w 0 Q) ∧
  (∀ (d : Nat) (l1 l2 : Option Value) (s0 s1 : Value) (a : Nat) (w : px_H) (Q : Option Value → px_H → Prop), wp d 34 11 [some (.ref a), l1, l2] [s0, s1] w 0 Q ↔ wp d 34 12 [some (.ref a), l1, l2] [.ref a, s0, s1] w 0 Q) ∧
  (∀ (d : Nat) (l0 l1 l2 : Option Value) (s1 s2 : Value) (a : Nat) (w : px_H) (Q : Option Value → px_H → Prop), wp d 34 12 [l0, l1, l2] [.ref a, s1, s2] w 0 Q ↔ px_op (px_fld w a [(4, 0)] 2) (fun v => wp d 34 15 [l0, l1, l2] [v, s1, s2] w 0 Q)) ∧
  (∀ (d : Nat) (l0 l1 l2 : Option Value) (v0 v1 : Value) (b : Nat) (w : px_H) (Q : Option Value → px_H → Prop), wp (d + 1) 34 15 [l0, l1, l2] [v1, v0, .ref b] w 0 Q ↔ px_op (px_tgt w b [(4, 38)]) (fun v => wc d v [.ref b, v0, v1] w (fun r w' => wp (d + 1) 34 18 [l0, l1, l2] (r.toList ++ []) w' 0 Q))) ∧
  (∀ (d : Nat) (l0 l1 l2 : Option Value)  (w : px_H) (Q : Option Value → px_H → Prop), wp d 34 18 [l0, l1, l2] [] w 0 Q ↔ Q none w) ∧
  (∀ (d : Nat) (l1 l2 : Option Value) (a : Nat) (w : px_H) (Q : Option Value → px_H → Prop), wp d 34 19 [some (.ref a), l1, l2] [] w 0 Q ↔ wp d 34 20 [some (.ref a), l1, l2] [.ref a] w 0 Q) ∧
  (∀ (d : Nat) (l0 l1 l2 : Option Value) (s0 : Value)  (w : px_H) (Q : Option Value → px_H → Prop), wp d 34 20 [l0, l1, l2] [s0] w 0 Q ↔ wp d 34 21 [l0, l1, l2] [s0, s0] w 0 Q) ∧
  (∀ (d : Nat) (l0 l1 l2 : Option Value) (s1 : Value) (a : Nat) (w : px_H) (Q : Option Value → px_H → Prop), wp d 34 21 [l0, l1, l2] [.ref a, s1] w 0 Q ↔ px_op (px_fld w a [(4, 0)] 2) (fun v => wp d 34 24 [l0, l1, l2] [v, s1] w 0 Q)) ∧
  (∀ (d : Nat) (l0 l1 l2 : Option Value) (s0 s1 : Value)  (w : px_H) (Q : Option Value → px_H → Prop), wp d 34 24 [l0, l1, l2] [s0, s1] w 0 Q ↔ wp d 34 25 [l0, l1, l2] [.int 1, s0, s1] w 0 Q) ∧
  (∀ (d : Nat) (l0 l1 l2 : Option Value) (s2 : Value) (x y : Int32) (w : px_H) (Q : Option Value → px_H → Prop), wp d 34 25 [l0, l1, l2] [.int y, .int x, s2] w 0 Q ↔ wp d 34 26 [l0, l1, l2] [.int (x + y), s2] w 0 Q) ∧
  (∀ (d : Nat) (l0 l1 l2 : Option Value) (x : Int32) (a : Nat) (w : px_H) (Q : Option Value → px_H → Prop), wp d 34 26 [l0, l1, l2] [.int x, .ref a] w 0 Q ↔ px_op (px_pfd w a [(4, 0)] 2 (.int x)) (fun w' => wp d 34 29 [l0, l1, l2] [] w' 0 Q)) ∧
  (∀ (d : Nat) (l1 l2 : Option Value) (a : Nat) (w : px_H) (Q : Option Value → px_H → Prop), wp d 34 29 [some (.ref a), l1, l2] [] w 0 Q ↔ wp d 34 30 [some (.ref a), l1, l2] [.ref a] w 0 Q) ∧
  (∀ (d : Nat) (l0 l1 l2 : Option Value) (s0 : Value)  (w : px_H) (Q : Option Value → px_H → Prop), wp d 34 30 [l0, l1, l2] [s0] w 0 Q ↔ wp d 34 31 [l0, l1, l2] [.int 1, s0] w 0 Q) ∧
  (∀ (d : Nat) (l0 l1 l2 : Option Value) (s0 s1 : Value)  (w : px_H) (Q : Option Value → px_H → Prop), wp d 34 31 [l0, l1, l2] [s0, s1] w 0 Q ↔ wp d 34 32 [l0, l1, l2] [.int 1, s0, s1] w 0 Q) ∧
  (∀ (d : Nat) (l0 l2 : Option Value) (s0 s1 s2 : Value) (a : Nat) (w : px_H) (Q : Option Value → px_H → Prop), wp d 34 32 [l0, some (.ref a), l2] [s0, s1, s2] w 0 Q ↔ wp d 34 33 [l0, some (.ref a), l2] [.ref a, s0, s1, s2] w 0 Q) ∧
  (∀ (d : Nat) (l0 l2 : Option Value) (s0 s1 s2 : Value)  (w : px_H) (Q : Option Value → px_H → Prop), wp d 34 32 [l0, some .null, l2] [s0, s1, s2] w 0 Q ↔ wp d 34 33 [l0, some .null, l2] [.null, s0, s1, s2] w 0 Q) ∧
  (∀ (d : Nat) (l0 l1 l2 : Option Value) (s1 s2 s3 : Value) (a : Nat) (w : px_H) (Q : Option Value → px_H → Prop), wp d 34 33 [l0, l1, l2] [.ref a, s1, s2, s3] w 0 Q ↔ px_op (px_fld w a [(5, 0)] 5) (fun v => wp d 34 36 [l0, l1, l2] [v, s1, s2, s3] w 0 Q)) ∧
  (∀ (d : Nat) (l0 l1 l2 : Option Value) (s2 s3 : Value) (x y : Int32) (w : px_H) (Q : Option Value → px_H → Prop), wp d 34 36 [l0, l1, l2] [.int y, .int x, s2, s3] w 0 Q ↔ wp d 34 37 [l0, l1, l2] [.int (x <<< (y &&& 31)), s2, s3] w 0 Q) ∧
  (∀ (d : Nat) (l0 l1 l2 : Option Value) (s0 s1 s2 : Value)  (w : px_H) (Q : Option Value → px_H → Prop), wp d 34 37 [l0, l1, l2] [s0, s1, s2] w 0 Q ↔ wp d 34 38 [l0, l1, l2] [.int 1, s0, s1, s2] w 0 Q) ∧
  (∀ (d : Nat) (l0 l1 l2 : Option Value) (s2 s3 : Value) (x y : Int32) (w : px_H) (Q : Option Value → px_H → Prop), wp d 34 38 [l0, l1, l2] [.int y, .int x, s2, s3] w 0 Q ↔ wp d 34 39 [l0, l1, l2] [.int (x - y), s2, s3] w 0 Q) ∧
  (∀ (d : Nat) (l0 l1 l2 : Option Value) (v0 v1 : Value) (b : Nat) (w : px_H) (Q : Option Value → px_H → Prop), wp (d + 1) 34 39 [l0, l1, l2] [v1, v0, .ref b] w 0 Q ↔ px_op (px_tgt w b [(4, 36)]) (fun v => wc d v [.ref b, v0, v1] w (fun r w' => wp (d + 1) 34 42 [l0, l1, l2] (r.toList ++ []) w' 0 Q))) ∧
  (∀ (d : Nat) (l0 l1 l2 : Option Value) (x : Int32) (w : px_H) (Q : Option Value → px_H → Prop), wp d 34 42 [l0, l1, l2] [.int x] w 0 Q ↔ wp d 34 43 [l0, l1, some (.int x)] [] w 0 Q) ∧
  (∀ (d : Nat) (l1 l2 : Option Value) (a : Nat) (w : px_H) (Q : Option Value → px_H → Prop), wp d 34 43 [some (.ref a), l1, l2] [] w 0 Q ↔ wp d 34 44 [some (.ref a), l1, l2] [.ref a] w 0 Q) ∧
  (∀ (d : Nat) (l0 l1 l2 : Option Value) (s0 : Value)  (w : px_H) (Q : Option Value → px_H → Prop), wp d 34 44 [l0, l1, l2] [s0] w 0 Q ↔ wp d 34 46 [l0, l1, l2] [.int 59, s0] w 0 Q) ∧
  (∀ (d : Nat) (l0 l1 l2 : Option Value) (v0 : Value) (b : Nat) (w : px_H) (Q : Option Value → px_H → Prop), wp (d + 1) 34 46 [l0, l1, l2] [v0, .ref b] w 0 Q ↔ px_op (px_tgt w b [(4, 35)]) (fun v => wc d v [.ref b, v0] w (fun r w' => wp (d + 1) 34 49 [l0, l1, l2] (r.toList ++ []) w' 0 Q))) ∧
  (∀ (d : Nat) (l1 l2 : Option Value) (a : Nat) (w : px_H) (Q : Option Value → px_H → Prop), wp d 34 49 [some (.ref a), l1, l2] [] w 0 Q ↔ wp d 34 50 [some (.ref a), l1, l2] [.ref a] w 0 Q) ∧
  (∀ (d : Nat) (l0 l1 l2 : Option Value) (a : Nat) (w : px_H) (Q : Option Value → px_H → Prop), wp d 34 50 [l0, l1, l2] [.ref a] w 0 Q ↔ px_op (px_fld w a [(4, 0)] 3) (fun v => wp d 34 53 [l0, l1, l2] [v] w 0 Q)) ∧
  (∀ (d : Nat) (l0 l1 l2 : Option Value) (x : Int32) (w : px_H) (Q : Option Value → px_H → Prop), wp d 34 53 [l0, l1, l2] [.int x] w 0 Q ↔ if x = 0 then wp d 34 56 [l0, l1, l2] [] w 0 Q else wp d 34 61 [l0, l1, l2] [] w 0 Q) ∧
  (∀ (d : Nat) (l0 l2 : Option Value) (a : Nat) (w : px_H) (Q : Option Value → px_H → Prop), wp d 34 56 [l0, some (.ref a), l2] [] w 0 Q ↔ wp d 34 57 [l0, some (.ref a), l2] [.ref a] w 0 Q) ∧
  (∀ (d : Nat) (l0 l2 : Option Value)  (w : px_H) (Q : Option Value → px_H → Prop), wp d 34 56 [l0, some .null, l2] [] w 0 Q ↔ wp d 34 57 [l0, some .null, l2] [.null] w 0 Q) ∧
  (∀ (d : Nat) (l0 l1 : Option Value) (s0 : Value) (x : Int32) (w : px_H) (Q : Option Value → px_H → Prop), wp d 34 57 [l0, l1, some (.int x)] [s0] w 0 Q ↔ wp d 34 58 [l0, l1, some (.int x)] [.int x, s0] w 0 Q) ∧
  (∀ (d : Nat) (l0 l1 l2 : Option Value) (v0 : Value) (b : Nat) (w : px_H) (Q : Option Value → px_H → Prop), wp (d + 1) 34 58 [l0, l1, l2] [v0, .ref b] w 0 Q ↔ px_op (px_tgt w b [(5, 45)]) (fun v => wc d v [.ref b, v0] w (fun r w' => wp (d + 1) 34 61 [l0, l1, l2] (r.toList ++ []) w' 0 Q))) ∧
  (∀ (d : Nat) (l0 l1 l2 : Option Value)  (w : px_H) (Q : Option Value → px_H → Prop), wp d 34 61 [l0, l1, l2] [] w 0 Q ↔ Q none w) := ⟨fun d v0 v1 w Q => r_entry pt_34 (Nat.le_of_ble_eq_true rfl) rfl,
  fun d l0 l2 a w Q => px_go (q := (.aload_n 1, 1, px_x0)) (S' := (1, [l0, some (.ref a), l2], [.ref a], w, 0)) pt_34 rfl rfl,
  fun d l0 l2 w Q => px_go (q := (.aload_n 1, 1, px_x0)) (S' := (1, [l0, some .null, l2], [.null], w, 0)) pt_34 rfl rfl,
  fun d l0 l1 l2 a w Q => px_goO (q := (.getfield 50, 3, (11, 6, [(5, 0)], 0, "AllSworn$Realm"))) (S' := fun v => (4, [l0, l1, l2], [v], w, 0)) pt_34 rfl rfl,
  fun d l0 l1 l2 s0 w Q => r_bipush pt_34 rfl (by decide),
  fun d l0 l1 l2 x y w Q => r_icmp_lt pt_34 rfl rfl,
  fun d l1 l2 a w Q => px_go (q := (.aload_n 0, 1, px_x0)) (S' := (10, [some (.ref a), l1, l2], [.ref a], w, 0)) pt_34 rfl rfl,
  fun d l0 l1 l2 s0 w Q => r_iconst pt_34 rfl (by decide),
  fun d l1 l2 s0 s1 a w Q => px_go (q := (.aload_n 0, 1, px_x0)) (S' := (12, [some (.ref a), l1, l2], [.ref a, s0, s1], w, 0)) pt_34 rfl rfl,
  fun d l0 l1 l2 s1 s2 a w Q => px_goO (q := (.getfield 19, 3, (10, 2, [(4, 0)], 0, "AllSworn$Reader"))) (S' := fun v => (15, [l0, l1, l2], [v, s1, s2], w, 0)) pt_34 rfl rfl,
  fun d l0 l1 l2 v0 v1 b w Q => r_callV (q := (.invokevirtual 61, 3, (33, 2, [(4, 38)], 0, ""))) pt_34 rfl rfl (List.forall_mem_cons.mpr ⟨⟨_, pt_38, Nat.le_of_ble_eq_true rfl, (Nat.le_of_ble_eq_true rfl), rfl⟩, fun _ h => absurd h List.not_mem_nil⟩),
  fun d l0 l1 l2 w Q => px_ret (q := (.return_, 1, px_x0)) pt_34 rfl rfl,
  fun d l1 l2 a w Q => px_go (q := (.aload_n 0, 1, px_x0)) (S' := (20, [some (.ref a), l1, l2], [.ref a], w, 0)) pt_34 rfl rfl,
  fun d l0 l1 l2 s0 w Q => px_go (q := (.dup, 1, px_x0)) (S' := (21, [l0, l1, l2], [s0, s0], w, 0)) pt_34 rfl rfl,
  fun d l0 l1 l2 s1 a w Q => px_goO (q := (.getfield 19, 3, (10, 2, [(4, 0)], 0, "AllSworn$Reader"))) (S' := fun v => (24, [l0, l1, l2], [v, s1], w, 0)) pt_34 rfl rfl,
  fun d l0 l1 l2 s0 s1 w Q => r_iconst pt_34 rfl (by decide),
  fun d l0 l1 l2 s2 x y w Q => px_go (q := (.iadd, 1, px_x0)) (S' := (26, [l0, l1, l2], [.int (x + y), s2], w, 0)) pt_34 rfl rfl,
  fun d l0 l1 l2 x a w Q => r_put pt_34 rfl (by simp only [List.all_cons, List.all_nil, ft_4_2, px_fit, px_isr, Bool.and_self]),
  fun d l1 l2 a w Q => px_go (q := (.aload_n 0, 1, px_x0)) (S' := (30, [some (.ref a), l1, l2], [.ref a], w, 0)) pt_34 rfl rfl,
  fun d l0 l1 l2 s0 w Q => r_iconst pt_34 rfl (by decide),
  fun d l0 l1 l2 s0 s1 w Q => r_iconst pt_34 rfl (by decide),
  fun d l0 l2 s0 s1 s2 a w Q => px_go (q := (.aload_n 1, 1, px_x0)) (S' := (33, [l0, some (.ref a), l2], [.ref a, s0, s1, s2], w, 0)) pt_34 rfl rfl,
  fun d l0 l2 s0 s1 s2 w Q => px_go (q := (.aload_n 1, 1, px_x0)) (S' := (33, [l0, some .null, l2], [.null, s0, s1, s2], w, 0)) pt_34 rfl rfl,
  fun d l0 l1 l2 s1 s2 s3 a w Q => px_goO (q := (.getfield 65, 3, (11, 5, [(5, 0)], 0, "AllSworn$Realm"))) (S' := fun v => (36, [l0, l1, l2], [v, s1, s2, s3], w, 0)) pt_34 rfl rfl,
  fun d l0 l1 l2 s2 s3 x y w Q => px_go (q := (.ishl, 1, px_x0)) (S' := (37, [l0, l1, l2], [.int (x <<< (y &&& 31)), s2, s3], w, 0)) pt_34 rfl rfl,
  fun d l0 l1 l2 s0 s1 s2 w Q => r_iconst pt_34 rfl (by decide),
  fun d l0 l1 l2 s2 s3 x y w Q => px_go (q := (.isub, 1, px_x0)) (S' := (39, [l0, l1, l2], [.int (x - y), s2, s3], w, 0)) pt_34 rfl rfl,
  fun d l0 l1 l2 v0 v1 b w Q => r_callV (q := (.invokevirtual 32, 3, (33, 2, [(4, 36)], 0, ""))) pt_34 rfl rfl (List.forall_mem_cons.mpr ⟨⟨_, pt_36, Nat.le_of_ble_eq_true rfl, (Nat.le_of_ble_eq_true rfl), rfl⟩, fun _ h => absurd h List.not_mem_nil⟩),
  fun d l0 l1 l2 x w Q => px_go (q := (.istore_n 2, 1, px_x0)) (S' := (43, [l0, l1, some (.int x)], [], w, 0)) pt_34 rfl rfl,
  fun d l1 l2 a w Q => px_go (q := (.aload_n 0, 1, px_x0)) (S' := (44, [some (.ref a), l1, l2], [.ref a], w, 0)) pt_34 rfl rfl,
  fun d l0 l1 l2 s0 w Q => r_bipush pt_34 rfl (by decide),
  fun d l0 l1 l2 v0 b w Q => r_callV (q := (.invokevirtual 28, 3, (33, 1, [(4, 35)], 0, ""))) pt_34 rfl rfl (List.forall_mem_cons.mpr ⟨⟨_, pt_35, Nat.le_of_ble_eq_true rfl, (Nat.le_of_ble_eq_true rfl), rfl⟩, fun _ h => absurd h List.not_mem_nil⟩),
  fun d l1 l2 a w Q => px_go (q := (.aload_n 0, 1, px_x0)) (S' := (50, [some (.ref a), l1, l2], [.ref a], w, 0)) pt_34 rfl rfl,
  fun d l0 l1 l2 a w Q => px_goO (q := (.getfield 22, 3, (10, 3, [(4, 0)], 0, "AllSworn$Reader"))) (S' := fun v => (53, [l0, l1, l2], [v], w, 0)) pt_34 rfl rfl,
  fun d l0 l1 l2 x w Q => r_if_ne pt_34 rfl rfl,
  fun d l0 l2 a w Q => px_go (q := (.aload_n 1, 1, px_x0)) (S' := (57, [l0, some (.ref a), l2], [.ref a], w, 0)) pt_34 rfl rfl,
  fun d l0 l2 w Q => px_go (q := (.aload_n 1, 1, px_x0)) (S' := (57, [l0, some .null, l2], [.null], w, 0)) pt_34 rfl rfl,
  fun d l0 l1 s0 x w Q => px_go (q := (.iload_n 2, 1, px_x0)) (S' := (58, [l0, l1, some (.int x)], [.int x, s0], w, 0)) pt_34 rfl rfl,
  fun d l0 l1 l2 v0 b w Q => r_callV (q := (.invokevirtual 76, 3, (33, 1, [(5, 45)], 0, ""))) pt_34 rfl rfl (List.forall_mem_cons.mpr ⟨⟨_, pt_45, Nat.le_of_ble_eq_true rfl, (Nat.le_of_ble_eq_true rfl), rfl⟩, fun _ h => absurd h List.not_mem_nil⟩),
  fun d l0 l1 l2 w Q => px_ret (q := (.return_, 1, px_x0)) pt_34 rfl rfl⟩
/-- AllSworn$Reader.expect(C)V -/
theorem S35 : (∀ (d : Nat) (v0 v1 : Value) (w : px_H) (Q : Option Value → px_H → Prop), wc d 35 [v0, v1] w Q ↔ wp d 35 0 [some v0, some v1] [] w 0 Q) ∧
  (∀ (d : Nat) (l1 : Option Value) (a : Nat) (w : px_H) (Q : Option Value → px_H → Prop), wp d 35 0 [some (.ref a), l1] [] w 0 Q ↔ wp d 35 1 [some (.ref a), l1] [.ref a] w 0 Q) ∧
  (∀ (d : Nat) (l0 l1 : Option Value) (a : Nat) (w : px_H) (Q : Option Value → px_H → Prop), wp d 35 1 [l0, l1] [.ref a] w 0 Q ↔ px_op (px_fld w a [(4, 0)] 3) (fun v => wp d 35 4 [l0, l1] [v] w 0 Q)) ∧
  (∀ (d : Nat) (l0 l1 : Option Value) (x : Int32) (w : px_H) (Q : Option Value → px_H → Prop), wp d 35 4 [l0, l1] [.int x] w 0 Q ↔ if x = 0 then wp d 35 8 [l0, l1] [] w 0 Q else wp d 35 7 [l0, l1] [] w 0 Q) ∧
  (∀ (d : Nat) (l0 l1 : Option Value)  (w : px_H) (Q : Option Value → px_H → Prop), wp d 35 7 [l0, l1] [] w 0 Q ↔ Q none w) ∧
  (∀ (d : Nat) (l1 : Option Value) (a : Nat) (w : px_H) (Q : Option Value → px_H → Prop), wp d 35 8 [some (.ref a), l1] [] w 0 Q ↔ wp d 35 9 [some (.ref a), l1] [.ref a] w 0 Q) ∧
  (∀ (d : Nat) (l0 l1 : Option Value)  (b : Nat) (w : px_H) (Q : Option Value → px_H → Prop), wp (d + 1) 35 9 [l0, l1] [.ref b] w 0 Q ↔ px_op (px_tgt w b [(4, 37)]) (fun v => wc d v [.ref b] w (fun r w' => wp (d + 1) 35 12 [l0, l1] (r.toList ++ []) w' 0 Q))) ∧
  (∀ (d : Nat) (l0 : Option Value) (s0 : Value) (x : Int32) (w : px_H) (Q : Option Value → px_H → Prop), wp d 35 12 [l0, some (.int x)] [s0] w 0 Q ↔ wp d 35 13 [l0, some (.int x)] [.int x, s0] w 0 Q) ∧
  (∀ (d : Nat) (l0 l1 : Option Value) (x y : Int32) (w : px_H) (Q : Option Value → px_H → Prop), wp d 35 13 [l0, l1] [.int y, .int x] w 0 Q ↔ if x = y then wp d 35 16 [l0, l1] [] w 0 Q else wp d 35 29 [l0, l1] [] w 0 Q) ∧
  (∀ (d : Nat) (l1 : Option Value) (a : Nat) (w : px_H) (Q : Option Value → px_H → Prop), wp d 35 16 [some (.ref a), l1] [] w 0 Q ↔ wp d 35 17 [some (.ref a), l1] [.ref a] w 0 Q) ∧
  (∀ (d : Nat) (l0 l1 : Option Value) (s0 : Value)  (w : px_H) (Q : Option Value → px_H → Prop), wp d 35 17 [l0, l1] [s0] w 0 Q ↔ wp d 35 18 [l0, l1] [s0, s0] w 0 Q) ∧
  (∀ (d : Nat) (l0 l1 : Option Value) (s1 : Value) (a : Nat) (w : px_H) (Q : Option Value → px_H → Prop), wp d 35 18 [l0, l1] [.ref a, s1] w 0 Q ↔ px_op (px_fld w a [(4, 0)] 2) (fun v => wp d 35 21 [l0, l1] [v, s1] w 0 Q)) ∧
  (∀ (d : Nat) (l0 l1 : Option Value) (s0 s1 : Value)  (w : px_H) (Q : Option Value → px_H → Prop), wp d 35 21 [l0, l1] [s0, s1] w 0 Q ↔ wp d 35 22 [l0, l1] [.int 1, s0, s1] w 0 Q) ∧
  (∀ (d : Nat) (l0 l1 : Option Value) (s2 : Value) (x y : Int32) (w : px_H) (Q : Option Value → px_H → Prop), wp d 35 22 [l0, l1] [.int y, .int x, s2] w 0 Q ↔ wp d 35 23 [l0, l1] [.int (x + y), s2] w 0 Q) ∧
  (∀ (d : Nat) (l0 l1 : Option Value) (x : Int32) (a : Nat) (w : px_H) (Q : Option Value → px_H → Prop), wp d 35 23 [l0, l1] [.int x, .ref a] w 0 Q ↔ px_op (px_pfd w a [(4, 0)] 2 (.int x)) (fun w' => wp d 35 26 [l0, l1] [] w' 0 Q)) ∧
  (∀ (d : Nat) (l0 l1 : Option Value)  (w : px_H) (Q : Option Value → px_H → Prop), wp d 35 26 [l0, l1] [] w 0 Q ↔ wp d 35 38 [l0, l1] [] w 0 Q) ∧
  (∀ (d : Nat) (l1 : Option Value) (a : Nat) (w : px_H) (Q : Option Value → px_H → Prop), wp d 35 29 [some (.ref a), l1] [] w 0 Q ↔ wp d 35 30 [some (.ref a), l1] [.ref a] w 0 Q) ∧
  (∀ (d : Nat) (l0 l1 : Option Value) (s0 : Value)  (w : px_H) (Q : Option Value → px_H → Prop), wp d 35 30 [l0, l1] [s0] w 0 Q ↔ wp d 35 31 [l0, l1] [.int 1, s0] w 0 Q) ∧
  (∀ (d : Nat) (l1 : Option Value) (s0 s1 : Value) (a : Nat) (w : px_H) (Q : Option Value → px_H → Prop), wp d 35 31 [some (.ref a), l1] [s0, s1] w 0 Q ↔ wp d 35 32 [some (.ref a), l1] [.ref a, s0, s1] w 0 Q) ∧
  (∀ (d : Nat) (l0 l1 : Option Value) (s1 s2 : Value) (a : Nat) (w : px_H) (Q : Option Value → px_H → Prop), wp d 35 32 [l0, l1] [.ref a, s1, s2] w 0 Q ↔ px_op (px_fld w a [(4, 0)] 2) (fun v => wp d 35 35 [l0, l1] [v, s1, s2] w 0 Q)) ∧
  (∀ (d : Nat) (l0 l1 : Option Value) (v0 v1 : Value) (b : Nat) (w : px_H) (Q : Option Value → px_H → Prop), wp (d + 1) 35 35 [l0, l1] [v1, v0, .ref b] w 0 Q ↔ px_op (px_tgt w b [(4, 38)]) (fun v => wc d v [.ref b, v0, v1] w (fun r w' => wp (d + 1) 35 38 [l0, l1] (r.toList ++ []) w' 0 Q))) ∧
  (∀ (d : Nat) (l0 l1 : Option Value)  (w : px_H) (Q : Option Value → px_H → Prop), wp d 35 38 [l0, l1] [] w 0 Q ↔ Q none w) := ⟨fun d v0 v1 w Q => r_entry pt_35 (Nat.le_of_ble_eq_true rfl) rfl,
  fun d l1 a w Q => px_go (q := (.aload_n 0, 1, px_x0)) (S' := (1, [some (.ref a), l1], [.ref a], w, 0)) pt_35 rfl rfl,
  fun d l0 l1 a w Q => px_goO (q := (.getfield 22, 3, (10, 3, [(4, 0)], 0, "AllSworn$Reader"))) (S' := fun v => (4, [l0, l1], [v], w, 0)) pt_35 rfl rfl,
  fun d l0 l1 x w Q => r_if_eq pt_35 rfl rfl,
  fun d l0 l1 w Q => px_ret (q := (.return_, 1, px_x0)) pt_35 rfl rfl,
  fun d l1 a w Q => px_go (q := (.aload_n 0, 1, px_x0)) (S' := (9, [some (.ref a), l1], [.ref a], w, 0)) pt_35 rfl rfl,
  fun d l0 l1 b w Q => r_callV (q := (.invokevirtual 42, 3, (33, 0, [(4, 37)], 0, ""))) pt_35 rfl rfl (List.forall_mem_cons.mpr ⟨⟨_, pt_37, Nat.le_of_ble_eq_true rfl, (Nat.le_of_ble_eq_true rfl), rfl⟩, fun _ h => absurd h List.not_mem_nil⟩),
  fun d l0 s0 x w Q => px_go (q := (.iload_n 1, 1, px_x0)) (S' := (13, [l0, some (.int x)], [.int x, s0], w, 0)) pt_35 rfl rfl,
  fun d l0 l1 x y w Q => r_icmp_ne pt_35 rfl rfl,
  fun d l1 a w Q => px_go (q := (.aload_n 0, 1, px_x0)) (S' := (17, [some (.ref a), l1], [.ref a], w, 0)) pt_35 rfl rfl,
  fun d l0 l1 s0 w Q => px_go (q := (.dup, 1, px_x0)) (S' := (18, [l0, l1], [s0, s0], w, 0)) pt_35 rfl rfl,
  fun d l0 l1 s1 a w Q => px_goO (q := (.getfield 19, 3, (10, 2, [(4, 0)], 0, "AllSworn$Reader"))) (S' := fun v => (21, [l0, l1], [v, s1], w, 0)) pt_35 rfl rfl,
  fun d l0 l1 s0 s1 w Q => r_iconst pt_35 rfl (by decide),
  fun d l0 l1 s2 x y w Q => px_go (q := (.iadd, 1, px_x0)) (S' := (23, [l0, l1], [.int (x + y), s2], w, 0)) pt_35 rfl rfl,
  fun d l0 l1 x a w Q => r_put pt_35 rfl (by simp only [List.all_cons, List.all_nil, ft_4_2, px_fit, px_isr, Bool.and_self]),
  fun d l0 l1 w Q => r_goto pt_35 rfl rfl,
  fun d l1 a w Q => px_go (q := (.aload_n 0, 1, px_x0)) (S' := (30, [some (.ref a), l1], [.ref a], w, 0)) pt_35 rfl rfl,
  fun d l0 l1 s0 w Q => r_iconst pt_35 rfl (by decide),
  fun d l1 s0 s1 a w Q => px_go (q := (.aload_n 0, 1, px_x0)) (S' := (32, [some (.ref a), l1], [.ref a, s0, s1], w, 0)) pt_35 rfl rfl,
  fun d l0 l1 s1 s2 a w Q => px_goO (q := (.getfield 19, 3, (10, 2, [(4, 0)], 0, "AllSworn$Reader"))) (S' := fun v => (35, [l0, l1], [v, s1, s2], w, 0)) pt_35 rfl rfl,
  fun d l0 l1 v0 v1 b w Q => r_callV (q := (.invokevirtual 61, 3, (33, 2, [(4, 38)], 0, ""))) pt_35 rfl rfl (List.forall_mem_cons.mpr ⟨⟨_, pt_38, Nat.le_of_ble_eq_true rfl, (Nat.le_of_ble_eq_true rfl), rfl⟩, fun _ h => absurd h List.not_mem_nil⟩),
  fun d l0 l1 w Q => px_ret (q := (.return_, 1, px_x0)) pt_35 rfl rfl⟩
/-- AllSworn$Reader.readNumber(II)I heads: [20] -/
theorem S36 : (∀ (d : Nat) (v0 v1 v2 : Value) (w : px_H) (Q : Option Value → px_H → Prop), wc d 36 [v0, v1, v2] w Q ↔ wp d 36 0 [some v0, some v1, some v2, none, none, none] [] w 0 Q) ∧
  (∀ (d : Nat) (l1 l2 l3 l4 l5 : Option Value) (a : Nat) (w : px_H) (Q : Option Value → px_H → Prop), wp d 36 0 [some (.ref a), l1, l2, l3, l4, l5] [] w 0 Q ↔ wp d 36 1 [some (.ref a), l1, l2, l3, l4, l5] [.ref a] w 0 Q) ∧
  (∀ (d : Nat) (l0 l1 l2 l3 l4 l5 : Option Value) (a : Nat) (w : px_H) (Q : Option Value → px_H → Prop), wp d 36 1 [l0, l1, l2, l3, l4, l5] [.ref a] w 0 Q ↔ px_op (px_fld w a [(4, 0)] 3) (fun v => wp d 36 4 [l0, l1, l2, l3, l4, l5] [v] w 0 Q)) ∧
  (∀ (d : Nat) (l0 l1 l2 l3 l4 l5 : Option Value) (x : Int32) (w : px_H) (Q : Option Value → px_H → Prop), wp d 36 4 [l0, l1, l2, l3, l4, l5] [.int x] w 0 Q ↔ if x = 0 then wp d 36 9 [l0, l1, l2, l3, l4, l5] [] w 0 Q else wp d 36 7 [l0, l1, l2, l3, l4, l5] [] w 0 Q) ∧
  (∀ (d : Nat) (l0 l2 l3 l4 l5 : Option Value) (x : Int32) (w : px_H) (Q : Option Value → px_H → Prop), wp d 36 7 [l0, some (.int x), l2, l3, l4, l5] [] w 0 Q ↔ wp d 36 8 [l0, some (.int x), l2, l3, l4, l5] [.int x] w 0 Q) ∧
  (∀ (d : Nat) (l0 l1 l2 l3 l4 l5 : Option Value) (x : Int32) (w : px_H) (Q : Option Value → px_H → Prop), wp d 36 8 [l0, l1, l2, l3, l4, l5] [.int x] w 0 Q ↔ Q (some (.int x)) w) ∧
  (∀ (d : Nat) (l1 l2 l3 l4 l5 : Option Value) (a : Nat) (w : px_H) (Q : Option Value → px_H → Prop), wp d 36 9 [some (.ref a), l1, l2, l3, l4, l5] [] w 0 Q ↔ wp d 36 10 [some (.ref a), l1, l2, l3, l4, l5] [.ref a] w 0 Q) ∧
  (∀ (d : Nat) (l0 l1 l2 l3 l4 l5 : Option Value) (a : Nat) (w : px_H) (Q : Option Value → px_H → Prop), wp d 36 10 [l0, l1, l2, l3, l4, l5] [.ref a] w 0 Q ↔ px_op (px_fld w a [(4, 0)] 2) (fun v => wp d 36 13 [l0, l1, l2, l3, l4, l5] [v] w 0 Q)) ∧
  (∀ (d : Nat) (l0 l1 l2 l3 l4 l5 : Option Value) (x : Int32) (w : px_H) (Q : Option Value → px_H → Prop), wp d 36 13 [l0, l1, l2, l3, l4, l5] [.int x] w 0 Q ↔ wp d 36 14 [l0, l1, l2, some (.int x), l4, l5] [] w 0 Q) ∧
  (∀ (d : Nat) (l0 l1 l2 l3 l4 l5 : Option Value)  (w : px_H) (Q : Option Value → px_H → Prop), wp d 36 14 [l0, l1, l2, l3, l4, l5] [] w 0 Q ↔ wp d 36 15 [l0, l1, l2, l3, l4, l5] [.int 0] w 0 Q) ∧
  (∀ (d : Nat) (l0 l1 l2 l3 l4 l5 : Option Value) (x : Int32) (w : px_H) (Q : Option Value → px_H → Prop), wp d 36 15 [l0, l1, l2, l3, l4, l5] [.int x] w 0 Q ↔ wp d 36 17 [l0, l1, l2, l3, some (.int x), l5] [] w 0 Q) ∧
  (∀ (d : Nat) (l0 l1 l2 l3 l4 l5 : Option Value)  (w : px_H) (Q : Option Value → px_H → Prop), wp d 36 17 [l0, l1, l2, l3, l4, l5] [] w 0 Q ↔ wp d 36 18 [l0, l1, l2, l3, l4, l5] [.int 0] w 0 Q) ∧
  (∀ (d : Nat) (l0 l1 l2 l3 l4 l5 : Option Value) (x : Int32) (w : px_H) (Q : Option Value → px_H → Prop), wp d 36 18 [l0, l1, l2, l3, l4, l5] [.int x] w 0 Q ↔ wp d 36 20 [l0, l1, l2, l3, l4, some (.int x)] [] w 0 Q) ∧
  (∀ (d : Nat) (l0 l1 l2 l3 l4 l5 : Option Value) (s0 : Value)  (w : px_H) (Q : Option Value → px_H → Prop), wp d 36 22 [l0, l1, l2, l3, l4, l5] [s0] w 0 Q ↔ wp d 36 24 [l0, l1, l2, l3, l4, l5] [.int 120, s0] w 0 Q) ∧
  (∀ (d : Nat) (l0 l1 l2 l3 l4 l5 : Option Value) (x y : Int32) (w : px_H) (Q : Option Value → px_H → Prop), wp d 36 24 [l0, l1, l2, l3, l4, l5] [.int y, .int x] w 0 Q ↔ if y ≤ x then wp d 36 76 [l0, l1, l2, l3, l4, l5] [] w 0 Q else wp d 36 27 [l0, l1, l2, l3, l4, l5] [] w 0 Q) ∧
  (∀ (d : Nat) (l1 l2 l3 l4 l5 : Option Value) (a : Nat) (w : px_H) (Q : Option Value → px_H → Prop), wp d 36 27 [some (.ref a), l1, l2, l3, l4, l5] [] w 0 Q ↔ wp d 36 28 [some (.ref a), l1, l2, l3, l4, l5] [.ref a] w 0 Q) ∧
  (∀ (d : Nat) (l0 l1 l2 l3 l4 l5 : Option Value)  (b : Nat) (w : px_H) (Q : Option Value → px_H → Prop), wp (d + 1) 36 28 [l0, l1, l2, l3, l4, l5] [.ref b] w 0 Q ↔ px_op (px_tgt w b [(4, 37)]) (fun v => wc d v [.ref b] w (fun r w' => wp (d + 1) 36 31 [l0, l1, l2, l3, l4, l5] (r.toList ++ []) w' 0 Q))) ∧
  (∀ (d : Nat) (l0 l1 l2 l3 l4 l5 : Option Value) (s0 : Value)  (w : px_H) (Q : Option Value → px_H → Prop), wp d 36 31 [l0, l1, l2, l3, l4, l5] [s0] w 0 Q ↔ wp d 36 33 [l0, l1, l2, l3, l4, l5] [.int 48, s0] w 0 Q) ∧
  (∀ (d : Nat) (l0 l1 l2 l3 l4 l5 : Option Value) (x y : Int32) (w : px_H) (Q : Option Value → px_H → Prop), wp d 36 33 [l0, l1, l2, l3, l4, l5] [.int y, .int x] w 0 Q ↔ if x < y then wp d 36 76 [l0, l1, l2, l3, l4, l5] [] w 0 Q else wp d 36 36 [l0, l1, l2, l3, l4, l5] [] w 0 Q) ∧
  (∀ (d : Nat) (l1 l2 l3 l4 l5 : Option Value) (a : Nat) (w : px_H) (Q : Option Value → px_H → Prop), wp d 36 36 [some (.ref a), l1, l2, l3, l4, l5] [] w 0 Q ↔ wp d 36 37 [some (.ref a), l1, l2, l3, l4, l5] [.ref a] w 0 Q) ∧
  (∀ (d : Nat) (l0 l1 l2 l3 l4 l5 : Option Value)  (b : Nat) (w : px_H) (Q : Option Value → px_H → Prop), wp (d + 1) 36 37 [l0, l1, l2, l3, l4, l5] [.ref b] w 0 Q ↔ px_op (px_tgt w b [(4, 37)]) (fun v => wc d v [.ref b] w (fun r w' => wp (d + 1) 36 40 [l0, l1, l2, l3, l4, l5] (r.toList ++ []) w' 0 Q))) ∧
  (∀ (d : Nat) (l0 l1 l2 l3 l4 l5 : Option Value) (s0 : Value)  (w : px_H) (Q : Option Value → px_H → Prop), wp d 36 40 [l0, l1, l2, l3, l4, l5] [s0] w 0 Q ↔ wp d 36 42 [l0, l1, l2, l3, l4, l5] [.int 57, s0] w 0 Q) ∧
  (∀ (d : Nat) (l0 l1 l2 l3 l4 l5 : Option Value) (x y : Int32) (w : px_H) (Q : Option Value → px_H → Prop), wp d 36 42 [l0, l1, l2, l3, l4, l5] [.int y, .int x] w 0 Q ↔ if y < x then wp d 36 76 [l0, l1, l2, l3, l4, l5] [] w 0 Q else wp d 36 45 [l0, l1, l2, l3, l4, l5] [] w 0 Q) ∧
  (∀ (d : Nat) (l0 l1 l2 l3 l5 : Option Value) (x : Int32) (w : px_H) (Q : Option Value → px_H → Prop), wp d 36 45 [l0, l1, l2, l3, some (.int x), l5] [] w 0 Q ↔ wp d 36 47 [l0, l1, l2, l3, some (.int x), l5] [.int x] w 0 Q) ∧
  (∀ (d : Nat) (l0 l1 l2 l3 l4 l5 : Option Value) (s0 : Value)  (w : px_H) (Q : Option Value → px_H → Prop), wp d 36 47 [l0, l1, l2, l3, l4, l5] [s0] w 0 Q ↔ wp d 36 49 [l0, l1, l2, l3, l4, l5] [.int 10, s0] w 0 Q) ∧
  (∀ (d : Nat) (l0 l1 l2 l3 l4 l5 : Option Value) (x y : Int32) (w : px_H) (Q : Option Value → px_H → Prop), wp d 36 49 [l0, l1, l2, l3, l4, l5] [.int y, .int x] w 0 Q ↔ wp d 36 50 [l0, l1, l2, l3, l4, l5] [.int (x * y)] w 0 Q) ∧
  (∀ (d : Nat) (l1 l2 l3 l4 l5 : Option Value) (s0 : Value) (a : Nat) (w : px_H) (Q : Option Value → px_H → Prop), wp d 36 50 [some (.ref a), l1, l2, l3, l4, l5] [s0] w 0 Q ↔ wp d 36 51 [some (.ref a), l1, l2, l3, l4, l5] [.ref a, s0] w 0 Q) ∧
  (∀ (d : Nat) (l0 l1 l2 l3 l4 l5 : Option Value) (s1 : Value)  (b : Nat) (w : px_H) (Q : Option Value → px_H → Prop), wp (d + 1) 36 51 [l0, l1, l2, l3, l4, l5] [.ref b, s1] w 0 Q ↔ px_op (px_tgt w b [(4, 37)]) (fun v => wc d v [.ref b] w (fun r w' => wp (d + 1) 36 54 [l0, l1, l2, l3, l4, l5] (r.toList ++ [s1]) w' 0 Q))) ∧
  (∀ (d : Nat) (l0 l1 l2 l3 l4 l5 : Option Value) (s0 s1 : Value)  (w : px_H) (Q : Option Value → px_H → Prop), wp d 36 54 [l0, l1, l2, l3, l4, l5] [s0, s1] w 0 Q ↔ wp d 36 56 [l0, l1, l2, l3, l4, l5] [.int 48, s0, s1] w 0 Q) ∧
  (∀ (d : Nat) (l0 l1 l2 l3 l4 l5 : Option Value) (s2 : Value) (x y : Int32) (w : px_H) (Q : Option Value → px_H → Prop), wp d 36 56 [l0, l1, l2, l3, l4, l5] [.int y, .int x, s2] w 0 Q ↔ wp d 36 57 [l0, l1, l2, l3, l4, l5] [.int (x - y), s2] w 0 Q) ∧
  (∀ (d : Nat) (l0 l1 l2 l3 l4 l5 : Option Value) (x y : Int32) (w : px_H) (Q : Option Value → px_H → Prop), wp d 36 57 [l0, l1, l2, l3, l4, l5] [.int y, .int x] w 0 Q ↔ wp d 36 58 [l0, l1, l2, l3, l4, l5] [.int (x + y)] w 0 Q) ∧
  (∀ (d : Nat) (l0 l1 l2 l3 l4 l5 : Option Value) (x : Int32) (w : px_H) (Q : Option Value → px_H → Prop), wp d 36 58 [l0, l1, l2, l3, l4, l5] [.int x] w 0 Q ↔ wp d 36 60 [l0, l1, l2, l3, some (.int x), l5] [] w 0 Q) ∧
  (∀ (d : Nat) (l1 l2 l3 l4 l5 : Option Value) (a : Nat) (w : px_H) (Q : Option Value → px_H → Prop), wp d 36 60 [some (.ref a), l1, l2, l3, l4, l5] [] w 0 Q ↔ wp d 36 61 [some (.ref a), l1, l2, l3, l4, l5] [.ref a] w 0 Q) ∧
  (∀ (d : Nat) (l0 l1 l2 l3 l4 l5 : Option Value) (s0 : Value)  (w : px_H) (Q : Option Value → px_H → Prop), wp d 36 61 [l0, l1, l2, l3, l4, l5] [s0] w 0 Q ↔ wp d 36 62 [l0, l1, l2, l3, l4, l5] [s0, s0] w 0 Q) ∧
  (∀ (d : Nat) (l0 l1 l2 l3 l4 l5 : Option Value) (s1 : Value) (a : Nat) (w : px_H) (Q : Option Value → px_H → Prop), wp d 36 62 [l0, l1, l2, l3, l4, l5] [.ref a, s1] w 0 Q ↔ px_op (px_fld w a [(4, 0)] 2) (fun v => wp d 36 65 [l0, l1, l2, l3, l4, l5] [v, s1] w 0 Q)) ∧
  (∀ (d : Nat) (l0 l1 l2 l3 l4 l5 : Option Value) (s0 s1 : Value)  (w : px_H) (Q : Option Value → px_H → Prop), wp d 36 65 [l0, l1, l2, l3, l4, l5] [s0, s1] w 0 Q ↔ wp d 36 66 [l0, l1, l2, l3, l4, l5] [.int 1, s0, s1] w 0 Q) ∧
  (∀ (d : Nat) (l0 l1 l2 l3 l4 l5 : Option Value) (s2 : Value) (x y : Int32) (w : px_H) (Q : Option Value → px_H → Prop), wp d 36 66 [l0, l1, l2, l3, l4, l5] [.int y, .int x, s2] w 0 Q ↔ wp d 36 67 [l0, l1, l2, l3, l4, l5] [.int (x + y), s2] w 0 Q) ∧
  (∀ (d : Nat) (l0 l1 l2 l3 l4 l5 : Option Value) (x : Int32) (a : Nat) (w : px_H) (Q : Option Value → px_H → Prop), wp d 36 67 [l0, l1, l2, l3, l4, l5] [.int x, .ref a] w 0 Q ↔ px_op (px_pfd w a [(4, 0)] 2 (.int x)) (fun w' => wp d 36 70 [l0, l1, l2, l3, l4, l5] [] w' 0 Q)) ∧
  (∀ (d : Nat) (l0 l1 l2 l3 l4 : Option Value) (x : Int32) (w : px_H) (Q : Option Value → px_H → Prop), wp d 36 70 [l0, l1, l2, l3, l4, some (.int x)] [] w 0 Q ↔ wp d 36 73 [l0, l1, l2, l3, l4, some (.int (x + 1))] [] w 0 Q) ∧
  (∀ (d : Nat) (l0 l1 l2 l3 l4 l5 : Option Value)  (w : px_H) (Q : Option Value → px_H → Prop), wp d 36 73 [l0, l1, l2, l3, l4, l5] [] w 0 Q ↔ wp d 36 20 [l0, l1, l2, l3, l4, l5] [] w 0 Q) ∧
  (∀ (d : Nat) (l1 l2 l3 l4 l5 : Option Value) (a : Nat) (w : px_H) (Q : Option Value → px_H → Prop), wp d 36 76 [some (.ref a), l1, l2, l3, l4, l5] [] w 0 Q ↔ wp d 36 77 [some (.ref a), l1, l2, l3, l4, l5] [.ref a] w 0 Q) ∧
  (∀ (d : Nat) (l0 l1 l2 l3 l4 l5 : Option Value) (a : Nat) (w : px_H) (Q : Option Value → px_H → Prop), wp d 36 77 [l0, l1, l2, l3, l4, l5] [.ref a] w 0 Q ↔ px_op (px_fld w a [(4, 0)] 2) (fun v => wp d 36 80 [l0, l1, l2, l3, l4, l5] [v] w 0 Q)) ∧
  (∀ (d : Nat) (l0 l1 l2 l4 l5 : Option Value) (s0 : Value) (x : Int32) (w : px_H) (Q : Option Value → px_H → Prop), wp d 36 80 [l0, l1, l2, some (.int x), l4, l5] [s0] w 0 Q ↔ wp d 36 81 [l0, l1, l2, some (.int x), l4, l5] [.int x, s0] w 0 Q) ∧
  (∀ (d : Nat) (l0 l1 l2 l3 l4 l5 : Option Value) (x y : Int32) (w : px_H) (Q : Option Value → px_H → Prop), wp d 36 81 [l0, l1, l2, l3, l4, l5] [.int y, .int x] w 0 Q ↔ wp d 36 82 [l0, l1, l2, l3, l4, l5] [.int (x - y)] w 0 Q) ∧
  (∀ (d : Nat) (l0 l1 l2 l3 l4 l5 : Option Value) (x : Int32) (w : px_H) (Q : Option Value → px_H → Prop), wp d 36 82 [l0, l1, l2, l3, l4, l5] [.int x] w 0 Q ↔ wp d 36 84 [l0, l1, l2, l3, l4, some (.int x)] [] w 0 Q) ∧
  (∀ (d : Nat) (l0 l1 l2 l3 l4 : Option Value) (x : Int32) (w : px_H) (Q : Option Value → px_H → Prop), wp d 36 84 [l0, l1, l2, l3, l4, some (.int x)] [] w 0 Q ↔ wp d 36 86 [l0, l1, l2, l3, l4, some (.int x)] [.int x] w 0 Q) ∧
  (∀ (d : Nat) (l0 l1 l2 l3 l4 l5 : Option Value) (x : Int32) (w : px_H) (Q : Option Value → px_H → Prop), wp d 36 86 [l0, l1, l2, l3, l4, l5] [.int x] w 0 Q ↔ if x = 0 then wp d 36 95 [l0, l1, l2, l3, l4, l5] [] w 0 Q else wp d 36 89 [l0, l1, l2, l3, l4, l5] [] w 0 Q) ∧
  (∀ (d : Nat) (l0 l1 l2 l3 l4 : Option Value) (x : Int32) (w : px_H) (Q : Option Value → px_H → Prop), wp d 36 89 [l0, l1, l2, l3, l4, some (.int x)] [] w 0 Q ↔ wp d 36 91 [l0, l1, l2, l3, l4, some (.int x)] [.int x] w 0 Q) ∧
  (∀ (d : Nat) (l0 l1 l2 l3 l4 l5 : Option Value) (s0 : Value)  (w : px_H) (Q : Option Value → px_H → Prop), wp d 36 91 [l0, l1, l2, l3, l4, l5] [s0] w 0 Q ↔ wp d 36 92 [l0, l1, l2, l3, l4, l5] [.int 3, s0] w 0 Q) ∧
  (∀ (d : Nat) (l0 l1 l2 l3 l4 l5 : Option Value) (x y : Int32) (w : px_H) (Q : Option Value → px_H → Prop), wp d 36 92 [l0, l1, l2, l3, l4, l5] [.int y, .int x] w 0 Q ↔ if x ≤ y then wp d 36 104 [l0, l1, l2, l3, l4, l5] [] w 0 Q else wp d 36 95 [l0, l1, l2, l3, l4, l5] [] w 0 Q) ∧
  (∀ (d : Nat) (l1 l2 l3 l4 l5 : Option Value) (a : Nat) (w : px_H) (Q : Option Value → px_H → Prop), wp d 36 95 [some (.ref a), l1, l2, l3, l4, l5] [] w 0 Q ↔ wp d 36 96 [some (.ref a), l1, l2, l3, l4, l5] [.ref a] w 0 Q) ∧
  (∀ (d : Nat) (l0 l1 l2 l3 l4 l5 : Option Value) (s0 : Value)  (w : px_H) (Q : Option Value → px_H → Prop), wp d 36 96 [l0, l1, l2, l3, l4, l5] [s0] w 0 Q ↔ wp d 36 97 [l0, l1, l2, l3, l4, l5] [.int 1, s0] w 0 Q) ∧
  (∀ (d : Nat) (l0 l1 l2 l4 l5 : Option Value) (s0 s1 : Value) (x : Int32) (w : px_H) (Q : Option Value → px_H → Prop), wp d 36 97 [l0, l1, l2, some (.int x), l4, l5] [s0, s1] w 0 Q ↔ wp d 36 98 [l0, l1, l2, some (.int x), l4, l5] [.int x, s0, s1] w 0 Q) ∧
  (∀ (d : Nat) (l0 l1 l2 l3 l4 l5 : Option Value) (v0 v1 : Value) (b : Nat) (w : px_H) (Q : Option Value → px_H → Prop), wp (d + 1) 36 98 [l0, l1, l2, l3, l4, l5] [v1, v0, .ref b] w 0 Q ↔ px_op (px_tgt w b [(4, 38)]) (fun v => wc d v [.ref b, v0, v1] w (fun r w' => wp (d + 1) 36 101 [l0, l1, l2, l3, l4, l5] (r.toList ++ []) w' 0 Q))) ∧
  (∀ (d : Nat) (l0 l1 l2 l3 l4 l5 : Option Value)  (w : px_H) (Q : Option Value → px_H → Prop), wp d 36 101 [l0, l1, l2, l3, l4, l5] [] w 0 Q ↔ wp d 36 122 [l0, l1, l2, l3, l4, l5] [] w 0 Q) ∧
  (∀ (d : Nat) (l0 l1 l2 l3 l5 : Option Value) (x : Int32) (w : px_H) (Q : Option Value → px_H → Prop), wp d 36 104 [l0, l1, l2, l3, some (.int x), l5] [] w 0 Q ↔ wp d 36 106 [l0, l1, l2, l3, some (.int x), l5] [.int x] w 0 Q) ∧
  (∀ (d : Nat) (l0 l2 l3 l4 l5 : Option Value) (s0 : Value) (x : Int32) (w : px_H) (Q : Option Value → px_H → Prop), wp d 36 106 [l0, some (.int x), l2, l3, l4, l5] [s0] w 0 Q ↔ wp d 36 107 [l0, some (.int x), l2, l3, l4, l5] [.int x, s0] w 0 Q) ∧
  (∀ (d : Nat) (l0 l1 l2 l3 l4 l5 : Option Value) (x y : Int32) (w : px_H) (Q : Option Value → px_H → Prop), wp d 36 107 [l0, l1, l2, l3, l4, l5] [.int y, .int x] w 0 Q ↔ if x < y then wp d 36 116 [l0, l1, l2, l3, l4, l5] [] w 0 Q else wp d 36 110 [l0, l1, l2, l3, l4, l5] [] w 0 Q) ∧
  (∀ (d : Nat) (l0 l1 l2 l3 l5 : Option Value) (x : Int32) (w : px_H) (Q : Option Value → px_H → Prop), wp d 36 110 [l0, l1, l2, l3, some (.int x), l5] [] w 0 Q ↔ wp d 36 112 [l0, l1, l2, l3, some (.int x), l5] [.int x] w 0 Q) ∧
  (∀ (d : Nat) (l0 l1 l3 l4 l5 : Option Value) (s0 : Value) (x : Int32) (w : px_H) (Q : Option Value → px_H → Prop), wp d 36 112 [l0, l1, some (.int x), l3, l4, l5] [s0] w 0 Q ↔ wp d 36 113 [l0, l1, some (.int x), l3, l4, l5] [.int x, s0] w 0 Q) ∧
  (∀ (d : Nat) (l0 l1 l2 l3 l4 l5 : Option Value) (x y : Int32) (w : px_H) (Q : Option Value → px_H → Prop), wp d 36 113 [l0, l1, l2, l3, l4, l5] [.int y, .int x] w 0 Q ↔ if x ≤ y then wp d 36 122 [l0, l1, l2, l3, l4, l5] [] w 0 Q else wp d 36 116 [l0, l1, l2, l3, l4, l5] [] w 0 Q) ∧
  (∀ (d : Nat) (l1 l2 l3 l4 l5 : Option Value) (a : Nat) (w : px_H) (Q : Option Value → px_H → Prop), wp d 36 116 [some (.ref a), l1, l2, l3, l4, l5] [] w 0 Q ↔ wp d 36 117 [some (.ref a), l1, l2, l3, l4, l5] [.ref a] w 0 Q) ∧
  (∀ (d : Nat) (l0 l1 l2 l3 l4 l5 : Option Value) (s0 : Value)  (w : px_H) (Q : Option Value → px_H → Prop), wp d 36 117 [l0, l1, l2, l3, l4, l5] [s0] w 0 Q ↔ wp d 36 118 [l0, l1, l2, l3, l4, l5] [.int 2, s0] w 0 Q) ∧
  (∀ (d : Nat) (l0 l1 l2 l4 l5 : Option Value) (s0 s1 : Value) (x : Int32) (w : px_H) (Q : Option Value → px_H → Prop), wp d 36 118 [l0, l1, l2, some (.int x), l4, l5] [s0, s1] w 0 Q ↔ wp d 36 119 [l0, l1, l2, some (.int x), l4, l5] [.int x, s0, s1] w 0 Q) ∧
  (∀ (d : Nat) (l0 l1 l2 l3 l4 l5 : Option Value) (v0 v1 : Value) (b : Nat) (w : px_H) (Q : Option Value → px_H → Prop), wp (d + 1) 36 119 [l0, l1, l2, l3, l4, l5] [v1, v0, .ref b] w 0 Q ↔ px_op (px_tgt w b [(4, 38)]) (fun v => wc d v [.ref b, v0, v1] w (fun r w' => wp (d + 1) 36 122 [l0, l1, l2, l3, l4, l5] (r.toList ++ []) w' 0 Q))) ∧
  (∀ (d : Nat) (l0 l1 l2 l3 l5 : Option Value) (x : Int32) (w : px_H) (Q : Option Value → px_H → Prop), wp d 36 122 [l0, l1, l2, l3, some (.int x), l5] [] w 0 Q ↔ wp d 36 124 [l0, l1, l2, l3, some (.int x), l5] [.int x] w 0 Q) ∧
  (∀ (d : Nat) (l0 l1 l2 l3 l4 l5 : Option Value) (x : Int32) (w : px_H) (Q : Option Value → px_H → Prop), wp d 36 124 [l0, l1, l2, l3, l4, l5] [.int x] w 0 Q ↔ Q (some (.int x)) w) := ⟨fun d v0 v1 v2 w Q => r_entry pt_36 (Nat.le_of_ble_eq_true rfl) rfl,
  fun d l1 l2 l3 l4 l5 a w Q => px_go (q := (.aload_n 0, 1, px_x0)) (S' := (1, [some (.ref a), l1, l2, l3, l4, l5], [.ref a], w, 0)) pt_36 rfl rfl,
  fun d l0 l1 l2 l3 l4 l5 a w Q => px_goO (q := (.getfield 22, 3, (10, 3, [(4, 0)], 0, "AllSworn$Reader"))) (S' := fun v => (4, [l0, l1, l2, l3, l4, l5], [v], w, 0)) pt_36 rfl rfl,
  fun d l0 l1 l2 l3 l4 l5 x w Q => r_if_eq pt_36 rfl rfl,
  fun d l0 l2 l3 l4 l5 x w Q => px_go (q := (.iload_n 1, 1, px_x0)) (S' := (8, [l0, some (.int x), l2, l3, l4, l5], [.int x], w, 0)) pt_36 rfl rfl,
  fun d l0 l1 l2 l3 l4 l5 x w Q => px_ret (q := (.ireturn, 1, px_x0)) pt_36 rfl rfl,
  fun d l1 l2 l3 l4 l5 a w Q => px_go (q := (.aload_n 0, 1, px_x0)) (S' := (10, [some (.ref a), l1, l2, l3, l4, l5], [.ref a], w, 0)) pt_36 rfl rfl,
  fun d l0 l1 l2 l3 l4 l5 a w Q => px_goO (q := (.getfield 19, 3, (10, 2, [(4, 0)], 0, "AllSworn$Reader"))) (S' := fun v => (13, [l0, l1, l2, l3, l4, l5], [v], w, 0)) pt_36 rfl rfl,
  fun d l0 l1 l2 l3 l4 l5 x w Q => px_go (q := (.istore_n 3, 1, px_x0)) (S' := (14, [l0, l1, l2, some (.int x), l4, l5], [], w, 0)) pt_36 rfl rfl,
  fun d l0 l1 l2 l3 l4 l5 w Q => r_iconst pt_36 rfl (by decide),
  fun d l0 l1 l2 l3 l4 l5 x w Q => px_go (q := (.istore 4, 2, px_x0)) (S' := (17, [l0, l1, l2, l3, some (.int x), l5], [], w, 0)) pt_36 rfl rfl,
  fun d l0 l1 l2 l3 l4 l5 w Q => r_iconst pt_36 rfl (by decide),
  fun d l0 l1 l2 l3 l4 l5 x w Q => px_go (q := (.istore 5, 2, px_x0)) (S' := (20, [l0, l1, l2, l3, l4, some (.int x)], [], w, 0)) pt_36 rfl rfl,
  fun d l0 l1 l2 l3 l4 l5 s0 w Q => r_bipush pt_36 rfl (by decide),
  fun d l0 l1 l2 l3 l4 l5 x y w Q => r_icmp_ge pt_36 rfl rfl,
  fun d l1 l2 l3 l4 l5 a w Q => px_go (q := (.aload_n 0, 1, px_x0)) (S' := (28, [some (.ref a), l1, l2, l3, l4, l5], [.ref a], w, 0)) pt_36 rfl rfl,
  fun d l0 l1 l2 l3 l4 l5 b w Q => r_callV (q := (.invokevirtual 42, 3, (33, 0, [(4, 37)], 0, ""))) pt_36 rfl rfl (List.forall_mem_cons.mpr ⟨⟨_, pt_37, Nat.le_of_ble_eq_true rfl, (Nat.le_of_ble_eq_true rfl), rfl⟩, fun _ h => absurd h List.not_mem_nil⟩),
  fun d l0 l1 l2 l3 l4 l5 s0 w Q => r_bipush pt_36 rfl (by decide),
  fun d l0 l1 l2 l3 l4 l5 x y w Q => r_icmp_lt pt_36 rfl rfl,
  fun d l1 l2 l3 l4 l5 a w Q => px_go (q := (.aload_n 0, 1, px_x0)) (S' := (37, [some (.ref a), l1, l2, l3, l4, l5], [.ref a], w, 0)) pt_36 rfl rfl,
  fun d l0 l1 l2 l3 l4 l5 b w Q => r_callV (q := (.invokevirtual 42, 3, (33, 0, [(4, 37)], 0, ""))) pt_36 rfl rfl (List.forall_mem_cons.mpr ⟨⟨_, pt_37, Nat.le_of_ble_eq_true rfl, (Nat.le_of_ble_eq_true rfl), rfl⟩, fun _ h => absurd h List.not_mem_nil⟩),
  fun d l0 l1 l2 l3 l4 l5 s0 w Q => r_bipush pt_36 rfl (by decide),
  fun d l0 l1 l2 l3 l4 l5 x y w Q => r_icmp_gt pt_36 rfl rfl,
  fun d l0 l1 l2 l3 l5 x w Q => px_go (q := (.iload 4, 2, px_x0)) (S' := (47, [l0, l1, l2, l3, some (.int x), l5], [.int x], w, 0)) pt_36 rfl rfl,
  fun d l0 l1 l2 l3 l4 l5 s0 w Q => r_bipush pt_36 rfl (by decide),
  fun d l0 l1 l2 l3 l4 l5 x y w Q => px_go (q := (.imul, 1, px_x0)) (S' := (50, [l0, l1, l2, l3, l4, l5], [.int (x * y)], w, 0)) pt_36 rfl rfl,
  fun d l1 l2 l3 l4 l5 s0 a w Q => px_go (q := (.aload_n 0, 1, px_x0)) (S' := (51, [some (.ref a), l1, l2, l3, l4, l5], [.ref a, s0], w, 0)) pt_36 rfl rfl,
  fun d l0 l1 l2 l3 l4 l5 s1 b w Q => r_callV (q := (.invokevirtual 42, 3, (33, 0, [(4, 37)], 0, ""))) pt_36 rfl rfl (List.forall_mem_cons.mpr ⟨⟨_, pt_37, Nat.le_of_ble_eq_true rfl, (Nat.le_of_ble_eq_true rfl), rfl⟩, fun _ h => absurd h List.not_mem_nil⟩),
  fun d l0 l1 l2 l3 l4 l5 s0 s1 w Q => r_bipush pt_36 rfl (by decide),
  fun d l0 l1 l2 l3 l4 l5 s2 x y w Q => px_go (q := (.isub, 1, px_x0)) (S' := (57, [l0, l1, l2, l3, l4, l5], [.int (x - y), s2], w, 0)) pt_36 rfl rfl,
  fun d l0 l1 l2 l3 l4 l5 x y w Q => px_go (q := (.iadd, 1, px_x0)) (S' := (58, [l0, l1, l2, l3, l4, l5], [.int (x + y)], w, 0)) pt_36 rfl rfl,
  fun d l0 l1 l2 l3 l4 l5 x w Q => px_go (q := (.istore 4, 2, px_x0)) (S' := (60, [l0, l1, l2, l3, some (.int x), l5], [], w, 0)) pt_36 rfl rfl,
  fun d l1 l2 l3 l4 l5 a w Q => px_go (q := (.aload_n 0, 1, px_x0)) (S' := (61, [some (.ref a), l1, l2, l3, l4, l5], [.ref a], w, 0)) pt_36 rfl rfl,
  fun d l0 l1 l2 l3 l4 l5 s0 w Q => px_go (q := (.dup, 1, px_x0)) (S' := (62, [l0, l1, l2, l3, l4, l5], [s0, s0], w, 0)) pt_36 rfl rfl,
  fun d l0 l1 l2 l3 l4 l5 s1 a w Q => px_goO (q := (.getfield 19, 3, (10, 2, [(4, 0)], 0, "AllSworn$Reader"))) (S' := fun v => (65, [l0, l1, l2, l3, l4, l5], [v, s1], w, 0)) pt_36 rfl rfl,
  fun d l0 l1 l2 l3 l4 l5 s0 s1 w Q => r_iconst pt_36 rfl (by decide),
  fun d l0 l1 l2 l3 l4 l5 s2 x y w Q => px_go (q := (.iadd, 1, px_x0)) (S' := (67, [l0, l1, l2, l3, l4, l5], [.int (x + y), s2], w, 0)) pt_36 rfl rfl,
  fun d l0 l1 l2 l3 l4 l5 x a w Q => r_put pt_36 rfl (by simp only [List.all_cons, List.all_nil, ft_4_2, px_fit, px_isr, Bool.and_self]),
  fun d l0 l1 l2 l3 l4 x w Q => r_iinc pt_36 rfl rfl (by decide) rfl,
  fun d l0 l1 l2 l3 l4 l5 w Q => r_goto pt_36 rfl rfl,
  fun d l1 l2 l3 l4 l5 a w Q => px_go (q := (.aload_n 0, 1, px_x0)) (S' := (77, [some (.ref a), l1, l2, l3, l4, l5], [.ref a], w, 0)) pt_36 rfl rfl,
  fun d l0 l1 l2 l3 l4 l5 a w Q => px_goO (q := (.getfield 19, 3, (10, 2, [(4, 0)], 0, "AllSworn$Reader"))) (S' := fun v => (80, [l0, l1, l2, l3, l4, l5], [v], w, 0)) pt_36 rfl rfl,
  fun d l0 l1 l2 l4 l5 s0 x w Q => px_go (q := (.iload_n 3, 1, px_x0)) (S' := (81, [l0, l1, l2, some (.int x), l4, l5], [.int x, s0], w, 0)) pt_36 rfl rfl,
  fun d l0 l1 l2 l3 l4 l5 x y w Q => px_go (q := (.isub, 1, px_x0)) (S' := (82, [l0, l1, l2, l3, l4, l5], [.int (x - y)], w, 0)) pt_36 rfl rfl,
  fun d l0 l1 l2 l3 l4 l5 x w Q => px_go (q := (.istore 5, 2, px_x0)) (S' := (84, [l0, l1, l2, l3, l4, some (.int x)], [], w, 0)) pt_36 rfl rfl,
  fun d l0 l1 l2 l3 l4 x w Q => px_go (q := (.iload 5, 2, px_x0)) (S' := (86, [l0, l1, l2, l3, l4, some (.int x)], [.int x], w, 0)) pt_36 rfl rfl,
  fun d l0 l1 l2 l3 l4 l5 x w Q => r_if_eq pt_36 rfl rfl,
  fun d l0 l1 l2 l3 l4 x w Q => px_go (q := (.iload 5, 2, px_x0)) (S' := (91, [l0, l1, l2, l3, l4, some (.int x)], [.int x], w, 0)) pt_36 rfl rfl,
  fun d l0 l1 l2 l3 l4 l5 s0 w Q => r_iconst pt_36 rfl (by decide),
  fun d l0 l1 l2 l3 l4 l5 x y w Q => r_icmp_le pt_36 rfl rfl,
  fun d l1 l2 l3 l4 l5 a w Q => px_go (q := (.aload_n 0, 1, px_x0)) (S' := (96, [some (.ref a), l1, l2, l3, l4, l5], [.ref a], w, 0)) pt_36 rfl rfl,
  fun d l0 l1 l2 l3 l4 l5 s0 w Q => r_iconst pt_36 rfl (by decide),
  fun d l0 l1 l2 l4 l5 s0 s1 x w Q => px_go (q := (.iload_n 3, 1, px_x0)) (S' := (98, [l0, l1, l2, some (.int x), l4, l5], [.int x, s0, s1], w, 0)) pt_36 rfl rfl,
  fun d l0 l1 l2 l3 l4 l5 v0 v1 b w Q => r_callV (q := (.invokevirtual 61, 3, (33, 2, [(4, 38)], 0, ""))) pt_36 rfl rfl (List.forall_mem_cons.mpr ⟨⟨_, pt_38, Nat.le_of_ble_eq_true rfl, (Nat.le_of_ble_eq_true rfl), rfl⟩, fun _ h => absurd h List.not_mem_nil⟩),
  fun d l0 l1 l2 l3 l4 l5 w Q => r_goto pt_36 rfl rfl,
  fun d l0 l1 l2 l3 l5 x w Q => px_go (q := (.iload 4, 2, px_x0)) (S' := (106, [l0, l1, l2, l3, some (.int x), l5], [.int x], w, 0)) pt_36 rfl rfl,
  fun d l0 l2 l3 l4 l5 s0 x w Q => px_go (q := (.iload_n 1, 1, px_x0)) (S' := (107, [l0, some (.int x), l2, l3, l4, l5], [.int x, s0], w, 0)) pt_36 rfl rfl,
  fun d l0 l1 l2 l3 l4 l5 x y w Q => r_icmp_lt pt_36 rfl rfl,
  fun d l0 l1 l2 l3 l5 x w Q => px_go (q := (.iload 4, 2, px_x0)) (S' := (112, [l0, l1, l2, l3, some (.int x), l5], [.int x], w, 0)) pt_36 rfl rfl,
  fun d l0 l1 l3 l4 l5 s0 x w Q => px_go (q := (.iload_n 2, 1, px_x0)) (S' := (113, [l0, l1, some (.int x), l3, l4, l5], [.int x, s0], w, 0)) pt_36 rfl rfl,
  fun d l0 l1 l2 l3 l4 l5 x y w Q => r_icmp_le pt_36 rfl rfl,
  fun d l1 l2 l3 l4 l5 a w Q => px_go (q := (.aload_n 0, 1, px_x0)) (S' := (117, [some (.ref a), l1, l2, l3, l4, l5], [.ref a], w, 0)) pt_36 rfl rfl,
  fun d l0 l1 l2 l3 l4 l5 s0 w Q => r_iconst pt_36 rfl (by decide),
  fun d l0 l1 l2 l4 l5 s0 s1 x w Q => px_go (q := (.iload_n 3, 1, px_x0)) (S' := (119, [l0, l1, l2, some (.int x), l4, l5], [.int x, s0, s1], w, 0)) pt_36 rfl rfl,
  fun d l0 l1 l2 l3 l4 l5 v0 v1 b w Q => r_callV (q := (.invokevirtual 61, 3, (33, 2, [(4, 38)], 0, ""))) pt_36 rfl rfl (List.forall_mem_cons.mpr ⟨⟨_, pt_38, Nat.le_of_ble_eq_true rfl, (Nat.le_of_ble_eq_true rfl), rfl⟩, fun _ h => absurd h List.not_mem_nil⟩),
  fun d l0 l1 l2 l3 l5 x w Q => px_go (q := (.iload 4, 2, px_x0)) (S' := (124, [l0, l1, l2, l3, some (.int x), l5], [.int x], w, 0)) pt_36 rfl rfl,
  fun d l0 l1 l2 l3 l4 l5 x w Q => px_ret (q := (.ireturn, 1, px_x0)) pt_36 rfl rfl⟩
theorem H36_20 : ∀ (d : Nat) (l0 l1 l2 l3 l4 : Option Value) (x : Int32) (w : px_H) (Q : Option Value → px_H → Prop), wp d 36 20 [l0, l1, l2, l3, l4, some (.int x)] [] w 0 Q ↔ wp d 36 22 [l0, l1, l2, l3, l4, some (.int x)] [.int x] w 0 Q := fun d l0 l1 l2 l3 l4 x w Q => px_go (q := (.iload 5, 2, px_x0)) (S' := (22, [l0, l1, l2, l3, l4, some (.int x)], [.int x], w, 0)) pt_36 rfl rfl
/-- AllSworn$Reader.next()I -/
theorem S37 : (∀ (d : Nat) (v0 : Value) (w : px_H) (Q : Option Value → px_H → Prop), wc d 37 [v0] w Q ↔ wp d 37 0 [some v0] [] w 0 Q) ∧
  (∀ (d : Nat) (a : Nat) (w : px_H) (Q : Option Value → px_H → Prop), wp d 37 0 [some (.ref a)] [] w 0 Q ↔ wp d 37 1 [some (.ref a)] [.ref a] w 0 Q) ∧
  (∀ (d : Nat) (l0 : Option Value) (a : Nat) (w : px_H) (Q : Option Value → px_H → Prop), wp d 37 1 [l0] [.ref a] w 0 Q ↔ px_op (px_fld w a [(4, 0)] 2) (fun v => wp d 37 4 [l0] [v] w 0 Q)) ∧
  (∀ (d : Nat) (l0 : Option Value) (x : Int32) (w : px_H) (Q : Option Value → px_H → Prop), wp d 37 4 [l0] [.int x] w 0 Q ↔ if x < 0 then wp d 37 39 [l0] [] w 0 Q else wp d 37 7 [l0] [] w 0 Q) ∧
  (∀ (d : Nat) (a : Nat) (w : px_H) (Q : Option Value → px_H → Prop), wp d 37 7 [some (.ref a)] [] w 0 Q ↔ wp d 37 8 [some (.ref a)] [.ref a] w 0 Q) ∧
  (∀ (d : Nat) (l0 : Option Value) (a : Nat) (w : px_H) (Q : Option Value → px_H → Prop), wp d 37 8 [l0] [.ref a] w 0 Q ↔ px_op (px_fld w a [(4, 0)] 2) (fun v => wp d 37 11 [l0] [v] w 0 Q)) ∧
  (∀ (d : Nat) (s0 : Value) (a : Nat) (w : px_H) (Q : Option Value → px_H → Prop), wp d 37 11 [some (.ref a)] [s0] w 0 Q ↔ wp d 37 12 [some (.ref a)] [.ref a, s0] w 0 Q) ∧
  (∀ (d : Nat) (l0 : Option Value) (s1 : Value) (a : Nat) (w : px_H) (Q : Option Value → px_H → Prop), wp d 37 12 [l0] [.ref a, s1] w 0 Q ↔ px_op (px_fld w a [(4, 0)] 1) (fun v => wp d 37 15 [l0] [v, s1] w 0 Q)) ∧
  (∀ (d : Nat) (l0 : Option Value) (x y : Int32) (w : px_H) (Q : Option Value → px_H → Prop), wp d 37 15 [l0] [.int y, .int x] w 0 Q ↔ if y ≤ x then wp d 37 39 [l0] [] w 0 Q else wp d 37 18 [l0] [] w 0 Q) ∧
  (∀ (d : Nat) (a : Nat) (w : px_H) (Q : Option Value → px_H → Prop), wp d 37 18 [some (.ref a)] [] w 0 Q ↔ wp d 37 19 [some (.ref a)] [.ref a] w 0 Q) ∧
  (∀ (d : Nat) (l0 : Option Value) (a : Nat) (w : px_H) (Q : Option Value → px_H → Prop), wp d 37 19 [l0] [.ref a] w 0 Q ↔ px_op (px_fld w a [(4, 0)] 2) (fun v => wp d 37 22 [l0] [v] w 0 Q)) ∧
  (∀ (d : Nat) (l0 : Option Value) (s0 : Value)  (w : px_H) (Q : Option Value → px_H → Prop), wp d 37 22 [l0] [s0] w 0 Q ↔ wp d 37 24 [l0] [.int 120, s0] w 0 Q) ∧
  (∀ (d : Nat) (l0 : Option Value) (x y : Int32) (w : px_H) (Q : Option Value → px_H → Prop), wp d 37 24 [l0] [.int y, .int x] w 0 Q ↔ if y ≤ x then wp d 37 39 [l0] [] w 0 Q else wp d 37 27 [l0] [] w 0 Q) ∧
  (∀ (d : Nat) (a : Nat) (w : px_H) (Q : Option Value → px_H → Prop), wp d 37 27 [some (.ref a)] [] w 0 Q ↔ wp d 37 28 [some (.ref a)] [.ref a] w 0 Q) ∧
  (∀ (d : Nat) (l0 : Option Value) (a : Nat) (w : px_H) (Q : Option Value → px_H → Prop), wp d 37 28 [l0] [.ref a] w 0 Q ↔ px_op (px_fld w a [(4, 0)] 0) (fun v => wp d 37 31 [l0] [v] w 0 Q)) ∧
  (∀ (d : Nat) (s0 : Value) (a : Nat) (w : px_H) (Q : Option Value → px_H → Prop), wp d 37 31 [some (.ref a)] [s0] w 0 Q ↔ wp d 37 32 [some (.ref a)] [.ref a, s0] w 0 Q) ∧
  (∀ (d : Nat) (l0 : Option Value) (s1 : Value) (a : Nat) (w : px_H) (Q : Option Value → px_H → Prop), wp d 37 32 [l0] [.ref a, s1] w 0 Q ↔ px_op (px_fld w a [(4, 0)] 2) (fun v => wp d 37 35 [l0] [v, s1] w 0 Q)) ∧
  (∀ (d : Nat) (l0 : Option Value) (i : Int32) (a : Nat) (w : px_H) (Q : Option Value → px_H → Prop), wp d 37 35 [l0] [.int i, .ref a] w 0 Q ↔ px_op (px_ald w a i .int) (fun x => wp d 37 36 [l0] [.int x] w 0 Q)) ∧
  (∀ (d : Nat) (l0 : Option Value) (s0 : Value)  (w : px_H) (Q : Option Value → px_H → Prop), wp d 37 36 [l0] [s0] w 0 Q ↔ wp d 37 40 [l0] [s0] w 0 Q) ∧
  (∀ (d : Nat) (l0 : Option Value)  (w : px_H) (Q : Option Value → px_H → Prop), wp d 37 39 [l0] [] w 0 Q ↔ wp d 37 40 [l0] [.int (-1)] w 0 Q) ∧
  (∀ (d : Nat) (l0 : Option Value) (x : Int32) (w : px_H) (Q : Option Value → px_H → Prop), wp d 37 40 [l0] [.int x] w 0 Q ↔ Q (some (.int x)) w) := ⟨fun d v0 w Q => r_entry pt_37 (Nat.le_of_ble_eq_true rfl) rfl,
  fun d a w Q => px_go (q := (.aload_n 0, 1, px_x0)) (S' := (1, [some (.ref a)], [.ref a], w, 0)) pt_37 rfl rfl,
  fun d l0 a w Q => px_goO (q := (.getfield 19, 3, (10, 2, [(4, 0)], 0, "AllSworn$Reader"))) (S' := fun v => (4, [l0], [v], w, 0)) pt_37 rfl rfl,
  fun d l0 x w Q => r_if_lt pt_37 rfl rfl,
  fun d a w Q => px_go (q := (.aload_n 0, 1, px_x0)) (S' := (8, [some (.ref a)], [.ref a], w, 0)) pt_37 rfl rfl,
  fun d l0 a w Q => px_goO (q := (.getfield 19, 3, (10, 2, [(4, 0)], 0, "AllSworn$Reader"))) (S' := fun v => (11, [l0], [v], w, 0)) pt_37 rfl rfl,
  fun d s0 a w Q => px_go (q := (.aload_n 0, 1, px_x0)) (S' := (12, [some (.ref a)], [.ref a, s0], w, 0)) pt_37 rfl rfl,
  fun d l0 s1 a w Q => px_goO (q := (.getfield 15, 3, (10, 1, [(4, 0)], 0, "AllSworn$Reader"))) (S' := fun v => (15, [l0], [v, s1], w, 0)) pt_37 rfl rfl,
  fun d l0 x y w Q => r_icmp_ge pt_37 rfl rfl,
  fun d a w Q => px_go (q := (.aload_n 0, 1, px_x0)) (S' := (19, [some (.ref a)], [.ref a], w, 0)) pt_37 rfl rfl,
  fun d l0 a w Q => px_goO (q := (.getfield 19, 3, (10, 2, [(4, 0)], 0, "AllSworn$Reader"))) (S' := fun v => (22, [l0], [v], w, 0)) pt_37 rfl rfl,
  fun d l0 s0 w Q => r_bipush pt_37 rfl (by decide),
  fun d l0 x y w Q => r_icmp_ge pt_37 rfl rfl,
  fun d a w Q => px_go (q := (.aload_n 0, 1, px_x0)) (S' := (28, [some (.ref a)], [.ref a], w, 0)) pt_37 rfl rfl,
  fun d l0 a w Q => px_goO (q := (.getfield 11, 3, (10, 0, [(4, 0)], 0, "AllSworn$Reader"))) (S' := fun v => (31, [l0], [v], w, 0)) pt_37 rfl rfl,
  fun d s0 a w Q => px_go (q := (.aload_n 0, 1, px_x0)) (S' := (32, [some (.ref a)], [.ref a, s0], w, 0)) pt_37 rfl rfl,
  fun d l0 s1 a w Q => px_goO (q := (.getfield 19, 3, (10, 2, [(4, 0)], 0, "AllSworn$Reader"))) (S' := fun v => (35, [l0], [v, s1], w, 0)) pt_37 rfl rfl,
  fun d l0 i a w Q => px_goO (q := (.iaload, 1, px_x0)) (S' := fun x => (36, [l0], [.int x], w, 0)) pt_37 rfl rfl,
  fun d l0 s0 w Q => r_goto pt_37 rfl rfl,
  fun d l0 w Q => r_iconst pt_37 rfl (by decide),
  fun d l0 x w Q => px_ret (q := (.ireturn, 1, px_x0)) pt_37 rfl rfl⟩
/-- AllSworn$Reader.note(II)V -/
theorem S38 : (∀ (d : Nat) (v0 v1 v2 : Value) (w : px_H) (Q : Option Value → px_H → Prop), wc d 38 [v0, v1, v2] w Q ↔ wp d 38 0 [some v0, some v1, some v2] [] w 0 Q) ∧
  (∀ (d : Nat) (l1 l2 : Option Value) (a : Nat) (w : px_H) (Q : Option Value → px_H → Prop), wp d 38 0 [some (.ref a), l1, l2] [] w 0 Q ↔ wp d 38 1 [some (.ref a), l1, l2] [.ref a] w 0 Q) ∧
  (∀ (d : Nat) (l0 l2 : Option Value) (s0 : Value) (x : Int32) (w : px_H) (Q : Option Value → px_H → Prop), wp d 38 1 [l0, some (.int x), l2] [s0] w 0 Q ↔ wp d 38 2 [l0, some (.int x), l2] [.int x, s0] w 0 Q) ∧
  (∀ (d : Nat) (l0 l1 l2 : Option Value) (x : Int32) (a : Nat) (w : px_H) (Q : Option Value → px_H → Prop), wp d 38 2 [l0, l1, l2] [.int x, .ref a] w 0 Q ↔ px_op (px_pfd w a [(4, 0)] 3 (.int x)) (fun w' => wp d 38 5 [l0, l1, l2] [] w' 0 Q)) ∧
  (∀ (d : Nat) (l1 l2 : Option Value) (a : Nat) (w : px_H) (Q : Option Value → px_H → Prop), wp d 38 5 [some (.ref a), l1, l2] [] w 0 Q ↔ wp d 38 6 [some (.ref a), l1, l2] [.ref a] w 0 Q) ∧
  (∀ (d : Nat) (l0 l1 : Option Value) (s0 : Value) (x : Int32) (w : px_H) (Q : Option Value → px_H → Prop), wp d 38 6 [l0, l1, some (.int x)] [s0] w 0 Q ↔ wp d 38 7 [l0, l1, some (.int x)] [.int x, s0] w 0 Q) ∧
  (∀ (d : Nat) (l0 l1 l2 : Option Value) (x : Int32) (a : Nat) (w : px_H) (Q : Option Value → px_H → Prop), wp d 38 7 [l0, l1, l2] [.int x, .ref a] w 0 Q ↔ px_op (px_pfd w a [(4, 0)] 4 (.int x)) (fun w' => wp d 38 10 [l0, l1, l2] [] w' 0 Q)) ∧
  (∀ (d : Nat) (l0 l1 l2 : Option Value)  (w : px_H) (Q : Option Value → px_H → Prop), wp d 38 10 [l0, l1, l2] [] w 0 Q ↔ Q none w) := ⟨fun d v0 v1 v2 w Q => r_entry pt_38 (Nat.le_of_ble_eq_true rfl) rfl,
  fun d l1 l2 a w Q => px_go (q := (.aload_n 0, 1, px_x0)) (S' := (1, [some (.ref a), l1, l2], [.ref a], w, 0)) pt_38 rfl rfl,
  fun d l0 l2 s0 x w Q => px_go (q := (.iload_n 1, 1, px_x0)) (S' := (2, [l0, some (.int x), l2], [.int x, s0], w, 0)) pt_38 rfl rfl,
  fun d l0 l1 l2 x a w Q => r_put pt_38 rfl (by simp only [List.all_cons, List.all_nil, ft_4_3, px_fit, px_isr, Bool.and_self]),
  fun d l1 l2 a w Q => px_go (q := (.aload_n 0, 1, px_x0)) (S' := (6, [some (.ref a), l1, l2], [.ref a], w, 0)) pt_38 rfl rfl,
  fun d l0 l1 s0 x w Q => px_go (q := (.iload_n 2, 1, px_x0)) (S' := (7, [l0, l1, some (.int x)], [.int x, s0], w, 0)) pt_38 rfl rfl,
  fun d l0 l1 l2 x a w Q => r_put pt_38 rfl (by simp only [List.all_cons, List.all_nil, ft_4_4, px_fit, px_isr, Bool.and_self]),
  fun d l0 l1 l2 w Q => px_ret (q := (.return_, 1, px_x0)) pt_38 rfl rfl⟩
/-- AllSworn$Reader.kindOf(I)I -/
theorem S39 : (∀ (d : Nat) (v0 : Value) (w : px_H) (Q : Option Value → px_H → Prop), wc d 39 [v0] w Q ↔ wp d 39 0 [some v0] [] w 0 Q) ∧
  (∀ (d : Nat) (x : Int32) (w : px_H) (Q : Option Value → px_H → Prop), wp d 39 0 [some (.int x)] [] w 0 Q ↔ wp d 39 1 [some (.int x)] [.int x] w 0 Q) ∧
  (∀ (d : Nat) (l0 : Option Value) (x : Int32) (w : px_H) (Q : Option Value → px_H → Prop), wp d 39 1 [l0] [.int x] w 0 Q ↔ px_op (px_lsw 1 61 #[(102, 57), (108, 59), (109, 53), (112, 51), (121, 55)] x) (fun t => wp d 39 t [l0] [] w 0 Q)) ∧
  (∀ (d : Nat) (l0 : Option Value)  (w : px_H) (Q : Option Value → px_H → Prop), wp d 39 52 [l0] [] w 0 Q ↔ wp d 39 53 [l0] [.int 1] w 0 Q) ∧
  (∀ (d : Nat) (l0 : Option Value) (x : Int32) (w : px_H) (Q : Option Value → px_H → Prop), wp d 39 53 [l0] [.int x] w 0 Q ↔ Q (some (.int x)) w) ∧
  (∀ (d : Nat) (l0 : Option Value)  (w : px_H) (Q : Option Value → px_H → Prop), wp d 39 54 [l0] [] w 0 Q ↔ wp d 39 55 [l0] [.int 2] w 0 Q) ∧
  (∀ (d : Nat) (l0 : Option Value) (x : Int32) (w : px_H) (Q : Option Value → px_H → Prop), wp d 39 55 [l0] [.int x] w 0 Q ↔ Q (some (.int x)) w) ∧
  (∀ (d : Nat) (l0 : Option Value)  (w : px_H) (Q : Option Value → px_H → Prop), wp d 39 56 [l0] [] w 0 Q ↔ wp d 39 57 [l0] [.int 3] w 0 Q) ∧
  (∀ (d : Nat) (l0 : Option Value) (x : Int32) (w : px_H) (Q : Option Value → px_H → Prop), wp d 39 57 [l0] [.int x] w 0 Q ↔ Q (some (.int x)) w) ∧
  (∀ (d : Nat) (l0 : Option Value)  (w : px_H) (Q : Option Value → px_H → Prop), wp d 39 58 [l0] [] w 0 Q ↔ wp d 39 59 [l0] [.int 4] w 0 Q) ∧
  (∀ (d : Nat) (l0 : Option Value) (x : Int32) (w : px_H) (Q : Option Value → px_H → Prop), wp d 39 59 [l0] [.int x] w 0 Q ↔ Q (some (.int x)) w) ∧
  (∀ (d : Nat) (l0 : Option Value)  (w : px_H) (Q : Option Value → px_H → Prop), wp d 39 60 [l0] [] w 0 Q ↔ wp d 39 61 [l0] [.int 5] w 0 Q) ∧
  (∀ (d : Nat) (l0 : Option Value) (x : Int32) (w : px_H) (Q : Option Value → px_H → Prop), wp d 39 61 [l0] [.int x] w 0 Q ↔ Q (some (.int x)) w) ∧
  (∀ (d : Nat) (l0 : Option Value)  (w : px_H) (Q : Option Value → px_H → Prop), wp d 39 62 [l0] [] w 0 Q ↔ wp d 39 63 [l0] [.int 0] w 0 Q) ∧
  (∀ (d : Nat) (l0 : Option Value) (x : Int32) (w : px_H) (Q : Option Value → px_H → Prop), wp d 39 63 [l0] [.int x] w 0 Q ↔ Q (some (.int x)) w) := ⟨fun d v0 w Q => r_entry pt_39 (Nat.le_of_ble_eq_true rfl) rfl,
  fun d x w Q => px_go (q := (.iload_n 0, 1, px_x0)) (S' := (1, [some (.int x)], [.int x], w, 0)) pt_39 rfl rfl,
  fun d l0 x w Q => r_lsw pt_39 rfl,
  fun d l0 w Q => r_iconst pt_39 rfl (by decide),
  fun d l0 x w Q => px_ret (q := (.ireturn, 1, px_x0)) pt_39 rfl rfl,
  fun d l0 w Q => r_iconst pt_39 rfl (by decide),
  fun d l0 x w Q => px_ret (q := (.ireturn, 1, px_x0)) pt_39 rfl rfl,
  fun d l0 w Q => r_iconst pt_39 rfl (by decide),
  fun d l0 x w Q => px_ret (q := (.ireturn, 1, px_x0)) pt_39 rfl rfl,
  fun d l0 w Q => r_iconst pt_39 rfl (by decide),
  fun d l0 x w Q => px_ret (q := (.ireturn, 1, px_x0)) pt_39 rfl rfl,
  fun d l0 w Q => r_iconst pt_39 rfl (by decide),
  fun d l0 x w Q => px_ret (q := (.ireturn, 1, px_x0)) pt_39 rfl rfl,
  fun d l0 w Q => r_iconst pt_39 rfl (by decide),
  fun d l0 x w Q => px_ret (q := (.ireturn, 1, px_x0)) pt_39 rfl rfl⟩
/-- AllSworn$Reader.made(IIII)LAllSworn$Thing; -/
theorem S40 : (∀ (d : Nat) (v0 v1 v2 v3 : Value) (w : px_H) (Q : Option Value → px_H → Prop), wc d 40 [v0, v1, v2, v3] w Q ↔ wp d 40 0 [some v0, some v1, some v2, some v3] [] w 0 Q) ∧
  (∀ (d : Nat) (l1 l2 l3 : Option Value) (x : Int32) (w : px_H) (k : Nat) (Q : Option Value → px_H → Prop), wp d 40 0 [some (.int x), l1, l2, l3] [] w k Q ↔ wp d 40 1 [some (.int x), l1, l2, l3] [.int x] w k Q) ∧
  (∀ (d : Nat) (l0 l1 l2 l3 : Option Value) (x : Int32) (w : px_H) (k : Nat) (Q : Option Value → px_H → Prop), wp d 40 1 [l0, l1, l2, l3] [.int x] w k Q ↔ px_op (px_tsw 1 75 2 5 #[31, 42, 53, 64] x) (fun t => wp d 40 t [l0, l1, l2, l3] [] w k Q)) ∧
  (∀ (d : Nat) (l0 l1 l2 l3 : Option Value)  (w : px_H) (k : Nat) (Q : Option Value → px_H → Prop) (hk : k + 1 ≤ 1), wp d 40 32 [l0, l1, l2, l3] [] w k Q ↔ wp d 40 35 [l0, l1, l2, l3] [.ref w.1] (px_add w (.inr (.inr (1, [.int 0, .int 0, .int 0])))) (k + 1) Q) ∧
  (∀ (d : Nat) (l0 l1 l2 l3 : Option Value) (s0 : Value)  (w : px_H) (k : Nat) (Q : Option Value → px_H → Prop), wp d 40 35 [l0, l1, l2, l3] [s0] w k Q ↔ wp d 40 36 [l0, l1, l2, l3] [s0, s0] w k Q) ∧
  (∀ (d : Nat) (l0 l2 l3 : Option Value) (s0 s1 : Value) (x : Int32) (w : px_H) (k : Nat) (Q : Option Value → px_H → Prop), wp d 40 36 [l0, some (.int x), l2, l3] [s0, s1] w k Q ↔ wp d 40 37 [l0, some (.int x), l2, l3] [.int x, s0, s1] w k Q) ∧
  (∀ (d : Nat) (l0 l1 l3 : Option Value) (s0 s1 s2 : Value) (x : Int32) (w : px_H) (k : Nat) (Q : Option Value → px_H → Prop), wp d 40 37 [l0, l1, some (.int x), l3] [s0, s1, s2] w k Q ↔ wp d 40 38 [l0, l1, some (.int x), l3] [.int x, s0, s1, s2] w k Q) ∧
  (∀ (d : Nat) (l0 l1 l2 : Option Value) (s0 s1 s2 s3 : Value) (x : Int32) (w : px_H) (k : Nat) (Q : Option Value → px_H → Prop), wp d 40 38 [l0, l1, l2, some (.int x)] [s0, s1, s2, s3] w k Q ↔ wp d 40 39 [l0, l1, l2, some (.int x)] [.int x, s0, s1, s2, s3] w k Q) ∧
  (∀ (d : Nat) (l0 l1 l2 l3 : Option Value) (s4 : Value) (v0 v1 v2 : Value) (b : Nat) (w : px_H) (k : Nat) (Q : Option Value → px_H → Prop) (hk : k + 0 ≤ 1), wp (d + 1) 40 39 [l0, l1, l2, l3] [v2, v1, v0, .ref b, s4] w k Q ↔ wc d 6 [.ref b, v0, v1, v2] w (fun r w' => wp (d + 1) 40 42 [l0, l1, l2, l3] (r.toList ++ [s4]) w' k Q)) ∧
  (∀ (d : Nat) (l0 l1 l2 l3 : Option Value) (a : Nat) (w : px_H) (k : Nat) (Q : Option Value → px_H → Prop), wp d 40 42 [l0, l1, l2, l3] [.ref a] w k Q ↔ Q (some (.ref a)) w) ∧
  (∀ (d : Nat) (l0 l1 l2 l3 : Option Value)  (w : px_H) (k : Nat) (Q : Option Value → px_H → Prop), wp d 40 42 [l0, l1, l2, l3] [.null] w k Q ↔ Q (some .null) w) ∧
  (∀ (d : Nat) (l0 l1 l2 l3 : Option Value)  (w : px_H) (k : Nat) (Q : Option Value → px_H → Prop) (hk : k + 1 ≤ 1), wp d 40 43 [l0, l1, l2, l3] [] w k Q ↔ wp d 40 46 [l0, l1, l2, l3] [.ref w.1] (px_add w (.inr (.inr (9, [.int 0, .int 0, .int 0])))) (k + 1) Q) ∧
  (∀ (d : Nat) (l0 l1 l2 l3 : Option Value) (s0 : Value)  (w : px_H) (k : Nat) (Q : Option Value → px_H → Prop), wp d 40 46 [l0, l1, l2, l3] [s0] w k Q ↔ wp d 40 47 [l0, l1, l2, l3] [s0, s0] w k Q) ∧
  (∀ (d : Nat) (l0 l2 l3 : Option Value) (s0 s1 : Value) (x : Int32) (w : px_H) (k : Nat) (Q : Option Value → px_H → Prop), wp d 40 47 [l0, some (.int x), l2, l3] [s0, s1] w k Q ↔ wp d 40 48 [l0, some (.int x), l2, l3] [.int x, s0, s1] w k Q) ∧
  (∀ (d : Nat) (l0 l1 l3 : Option Value) (s0 s1 s2 : Value) (x : Int32) (w : px_H) (k : Nat) (Q : Option Value → px_H → Prop), wp d 40 48 [l0, l1, some (.int x), l3] [s0, s1, s2] w k Q ↔ wp d 40 49 [l0, l1, some (.int x), l3] [.int x, s0, s1, s2] w k Q) ∧
  (∀ (d : Nat) (l0 l1 l2 : Option Value) (s0 s1 s2 s3 : Value) (x : Int32) (w : px_H) (k : Nat) (Q : Option Value → px_H → Prop), wp d 40 49 [l0, l1, l2, some (.int x)] [s0, s1, s2, s3] w k Q ↔ wp d 40 50 [l0, l1, l2, some (.int x)] [.int x, s0, s1, s2, s3] w k Q) ∧
  (∀ (d : Nat) (l0 l1 l2 l3 : Option Value) (s4 : Value) (v0 v1 v2 : Value) (b : Nat) (w : px_H) (k : Nat) (Q : Option Value → px_H → Prop) (hk : k + 0 ≤ 1), wp (d + 1) 40 50 [l0, l1, l2, l3] [v2, v1, v0, .ref b, s4] w k Q ↔ wc d 92 [.ref b, v0, v1, v2] w (fun r w' => wp (d + 1) 40 53 [l0, l1, l2, l3] (r.toList ++ [s4]) w' k Q)) ∧
  (∀ (d : Nat) (l0 l1 l2 l3 : Option Value) (a : Nat) (w : px_H) (k : Nat) (Q : Option Value → px_H → Prop), wp d 40 53 [l0, l1, l2, l3] [.ref a] w k Q ↔ Q (some (.ref a)) w) ∧
  (∀ (d : Nat) (l0 l1 l2 l3 : Option Value)  (w : px_H) (k : Nat) (Q : Option Value → px_H → Prop), wp d 40 53 [l0, l1, l2, l3] [.null] w k Q ↔ Q (some .null) w) ∧
  (∀ (d : Nat) (l0 l1 l2 l3 : Option Value)  (w : px_H) (k : Nat) (Q : Option Value → px_H → Prop) (hk : k + 1 ≤ 1), wp d 40 54 [l0, l1, l2, l3] [] w k Q ↔ wp d 40 57 [l0, l1, l2, l3] [.ref w.1] (px_add w (.inr (.inr (0, [.int 0, .int 0, .int 0])))) (k + 1) Q) ∧
  (∀ (d : Nat) (l0 l1 l2 l3 : Option Value) (s0 : Value)  (w : px_H) (k : Nat) (Q : Option Value → px_H → Prop), wp d 40 57 [l0, l1, l2, l3] [s0] w k Q ↔ wp d 40 58 [l0, l1, l2, l3] [s0, s0] w k Q) ∧
  (∀ (d : Nat) (l0 l2 l3 : Option Value) (s0 s1 : Value) (x : Int32) (w : px_H) (k : Nat) (Q : Option Value → px_H → Prop), wp d 40 58 [l0, some (.int x), l2, l3] [s0, s1] w k Q ↔ wp d 40 59 [l0, some (.int x), l2, l3] [.int x, s0, s1] w k Q) ∧
  (∀ (d : Nat) (l0 l1 l3 : Option Value) (s0 s1 s2 : Value) (x : Int32) (w : px_H) (k : Nat) (Q : Option Value → px_H → Prop), wp d 40 59 [l0, l1, some (.int x), l3] [s0, s1, s2] w k Q ↔ wp d 40 60 [l0, l1, some (.int x), l3] [.int x, s0, s1, s2] w k Q) ∧
  (∀ (d : Nat) (l0 l1 l2 : Option Value) (s0 s1 s2 s3 : Value) (x : Int32) (w : px_H) (k : Nat) (Q : Option Value → px_H → Prop), wp d 40 60 [l0, l1, l2, some (.int x)] [s0, s1, s2, s3] w k Q ↔ wp d 40 61 [l0, l1, l2, some (.int x)] [.int x, s0, s1, s2, s3] w k Q) ∧
  (∀ (d : Nat) (l0 l1 l2 l3 : Option Value) (s4 : Value) (v0 v1 v2 : Value) (b : Nat) (w : px_H) (k : Nat) (Q : Option Value → px_H → Prop) (hk : k + 0 ≤ 1), wp (d + 1) 40 61 [l0, l1, l2, l3] [v2, v1, v0, .ref b, s4] w k Q ↔ wc d 0 [.ref b, v0, v1, v2] w (fun r w' => wp (d + 1) 40 64 [l0, l1, l2, l3] (r.toList ++ [s4]) w' k Q)) ∧
  (∀ (d : Nat) (l0 l1 l2 l3 : Option Value) (a : Nat) (w : px_H) (k : Nat) (Q : Option Value → px_H → Prop), wp d 40 64 [l0, l1, l2, l3] [.ref a] w k Q ↔ Q (some (.ref a)) w) ∧
  (∀ (d : Nat) (l0 l1 l2 l3 : Option Value)  (w : px_H) (k : Nat) (Q : Option Value → px_H → Prop), wp d 40 64 [l0, l1, l2, l3] [.null] w k Q ↔ Q (some .null) w) ∧
  (∀ (d : Nat) (l0 l1 l2 l3 : Option Value)  (w : px_H) (k : Nat) (Q : Option Value → px_H → Prop) (hk : k + 1 ≤ 1), wp d 40 65 [l0, l1, l2, l3] [] w k Q ↔ wp d 40 68 [l0, l1, l2, l3] [.ref w.1] (px_add w (.inr (.inr (8, [.int 0, .int 0, .int 0])))) (k + 1) Q) ∧
  (∀ (d : Nat) (l0 l1 l2 l3 : Option Value) (s0 : Value)  (w : px_H) (k : Nat) (Q : Option Value → px_H → Prop), wp d 40 68 [l0, l1, l2, l3] [s0] w k Q ↔ wp d 40 69 [l0, l1, l2, l3] [s0, s0] w k Q) ∧
  (∀ (d : Nat) (l0 l2 l3 : Option Value) (s0 s1 : Value) (x : Int32) (w : px_H) (k : Nat) (Q : Option Value → px_H → Prop), wp d 40 69 [l0, some (.int x), l2, l3] [s0, s1] w k Q ↔ wp d 40 70 [l0, some (.int x), l2, l3] [.int x, s0, s1] w k Q) ∧
  (∀ (d : Nat) (l0 l1 l3 : Option Value) (s0 s1 s2 : Value) (x : Int32) (w : px_H) (k : Nat) (Q : Option Value → px_H → Prop), wp d 40 70 [l0, l1, some (.int x), l3] [s0, s1, s2] w k Q ↔ wp d 40 71 [l0, l1, some (.int x), l3] [.int x, s0, s1, s2] w k Q) ∧
  (∀ (d : Nat) (l0 l1 l2 : Option Value) (s0 s1 s2 s3 : Value) (x : Int32) (w : px_H) (k : Nat) (Q : Option Value → px_H → Prop), wp d 40 71 [l0, l1, l2, some (.int x)] [s0, s1, s2, s3] w k Q ↔ wp d 40 72 [l0, l1, l2, some (.int x)] [.int x, s0, s1, s2, s3] w k Q) ∧
  (∀ (d : Nat) (l0 l1 l2 l3 : Option Value) (s4 : Value) (v0 v1 v2 : Value) (b : Nat) (w : px_H) (k : Nat) (Q : Option Value → px_H → Prop) (hk : k + 0 ≤ 1), wp (d + 1) 40 72 [l0, l1, l2, l3] [v2, v1, v0, .ref b, s4] w k Q ↔ wc d 87 [.ref b, v0, v1, v2] w (fun r w' => wp (d + 1) 40 75 [l0, l1, l2, l3] (r.toList ++ [s4]) w' k Q)) ∧
  (∀ (d : Nat) (l0 l1 l2 l3 : Option Value) (a : Nat) (w : px_H) (k : Nat) (Q : Option Value → px_H → Prop), wp d 40 75 [l0, l1, l2, l3] [.ref a] w k Q ↔ Q (some (.ref a)) w) ∧
  (∀ (d : Nat) (l0 l1 l2 l3 : Option Value)  (w : px_H) (k : Nat) (Q : Option Value → px_H → Prop), wp d 40 75 [l0, l1, l2, l3] [.null] w k Q ↔ Q (some .null) w) ∧
  (∀ (d : Nat) (l0 l1 l2 l3 : Option Value)  (w : px_H) (k : Nat) (Q : Option Value → px_H → Prop) (hk : k + 1 ≤ 1), wp d 40 76 [l0, l1, l2, l3] [] w k Q ↔ wp d 40 79 [l0, l1, l2, l3] [.ref w.1] (px_add w (.inr (.inr (3, [.int 0, .int 0, .int 0])))) (k + 1) Q) ∧
  (∀ (d : Nat) (l0 l1 l2 l3 : Option Value) (s0 : Value)  (w : px_H) (k : Nat) (Q : Option Value → px_H → Prop), wp d 40 79 [l0, l1, l2, l3] [s0] w k Q ↔ wp d 40 80 [l0, l1, l2, l3] [s0, s0] w k Q) ∧
  (∀ (d : Nat) (l0 l2 l3 : Option Value) (s0 s1 : Value) (x : Int32) (w : px_H) (k : Nat) (Q : Option Value → px_H → Prop), wp d 40 80 [l0, some (.int x), l2, l3] [s0, s1] w k Q ↔ wp d 40 81 [l0, some (.int x), l2, l3] [.int x, s0, s1] w k Q) ∧
  (∀ (d : Nat) (l0 l1 l3 : Option Value) (s0 s1 s2 : Value) (x : Int32) (w : px_H) (k : Nat) (Q : Option Value → px_H → Prop), wp d 40 81 [l0, l1, some (.int x), l3] [s0, s1, s2] w k Q ↔ wp d 40 82 [l0, l1, some (.int x), l3] [.int x, s0, s1, s2] w k Q) ∧
  (∀ (d : Nat) (l0 l1 l2 : Option Value) (s0 s1 s2 s3 : Value) (x : Int32) (w : px_H) (k : Nat) (Q : Option Value → px_H → Prop), wp d 40 82 [l0, l1, l2, some (.int x)] [s0, s1, s2, s3] w k Q ↔ wp d 40 83 [l0, l1, l2, some (.int x)] [.int x, s0, s1, s2, s3] w k Q) ∧
  (∀ (d : Nat) (l0 l1 l2 l3 : Option Value) (s4 : Value) (v0 v1 v2 : Value) (b : Nat) (w : px_H) (k : Nat) (Q : Option Value → px_H → Prop) (hk : k + 0 ≤ 1), wp (d + 1) 40 83 [l0, l1, l2, l3] [v2, v1, v0, .ref b, s4] w k Q ↔ wc d 25 [.ref b, v0, v1, v2] w (fun r w' => wp (d + 1) 40 86 [l0, l1, l2, l3] (r.toList ++ [s4]) w' k Q)) ∧
  (∀ (d : Nat) (l0 l1 l2 l3 : Option Value) (a : Nat) (w : px_H) (k : Nat) (Q : Option Value → px_H → Prop), wp d 40 86 [l0, l1, l2, l3] [.ref a] w k Q ↔ Q (some (.ref a)) w) ∧
  (∀ (d : Nat) (l0 l1 l2 l3 : Option Value)  (w : px_H) (k : Nat) (Q : Option Value → px_H → Prop), wp d 40 86 [l0, l1, l2, l3] [.null] w k Q ↔ Q (some .null) w) := ⟨fun d v0 v1 v2 v3 w Q => r_entry pt_40 (Nat.le_of_ble_eq_true rfl) rfl,
  fun d l1 l2 l3 x w k Q => px_go (q := (.iload_n 0, 1, px_x0)) (S' := (1, [some (.int x), l1, l2, l3], [.int x], w, k)) pt_40 rfl rfl,
  fun d l0 l1 l2 l3 x w k Q => r_tsw pt_40 rfl,
  fun d l0 l1 l2 l3 w k Q hk => r_new pt_40 rfl rfl nfl_1 hk,
  fun d l0 l1 l2 l3 s0 w k Q => px_go (q := (.dup, 1, px_x0)) (S' := (36, [l0, l1, l2, l3], [s0, s0], w, k)) pt_40 rfl rfl,
  fun d l0 l2 l3 s0 s1 x w k Q => px_go (q := (.iload_n 1, 1, px_x0)) (S' := (37, [l0, some (.int x), l2, l3], [.int x, s0, s1], w, k)) pt_40 rfl rfl,
  fun d l0 l1 l3 s0 s1 s2 x w k Q => px_go (q := (.iload_n 2, 1, px_x0)) (S' := (38, [l0, l1, some (.int x), l3], [.int x, s0, s1, s2], w, k)) pt_40 rfl rfl,
  fun d l0 l1 l2 s0 s1 s2 s3 x w k Q => px_go (q := (.iload_n 3, 1, px_x0)) (S' := (39, [l0, l1, l2, some (.int x)], [.int x, s0, s1, s2, s3], w, k)) pt_40 rfl rfl,
  fun d l0 l1 l2 l3 s4 v0 v1 v2 b w k Q hk => r_call (q := (.invokespecial 81, 3, (31, 3, [(0, 6)], 0, ""))) pt_40 rfl rfl pt_6 (Nat.le_of_ble_eq_true rfl) hk rfl,
  fun d l0 l1 l2 l3 a w k Q => px_ret (q := (.areturn, 1, px_x0)) pt_40 rfl rfl,
  fun d l0 l1 l2 l3 w k Q => px_ret (q := (.areturn, 1, px_x0)) pt_40 rfl rfl,
  fun d l0 l1 l2 l3 w k Q hk => r_new pt_40 rfl rfl nfl_9 hk,
  fun d l0 l1 l2 l3 s0 w k Q => px_go (q := (.dup, 1, px_x0)) (S' := (47, [l0, l1, l2, l3], [s0, s0], w, k)) pt_40 rfl rfl,
  fun d l0 l2 l3 s0 s1 x w k Q => px_go (q := (.iload_n 1, 1, px_x0)) (S' := (48, [l0, some (.int x), l2, l3], [.int x, s0, s1], w, k)) pt_40 rfl rfl,
  fun d l0 l1 l3 s0 s1 s2 x w k Q => px_go (q := (.iload_n 2, 1, px_x0)) (S' := (49, [l0, l1, some (.int x), l3], [.int x, s0, s1, s2], w, k)) pt_40 rfl rfl,
  fun d l0 l1 l2 s0 s1 s2 s3 x w k Q => px_go (q := (.iload_n 3, 1, px_x0)) (S' := (50, [l0, l1, l2, some (.int x)], [.int x, s0, s1, s2, s3], w, k)) pt_40 rfl rfl,
  fun d l0 l1 l2 l3 s4 v0 v1 v2 b w k Q hk => r_call (q := (.invokespecial 86, 3, (31, 3, [(0, 92)], 0, ""))) pt_40 rfl rfl pt_92 (Nat.le_of_ble_eq_true rfl) hk rfl,
  fun d l0 l1 l2 l3 a w k Q => px_ret (q := (.areturn, 1, px_x0)) pt_40 rfl rfl,
  fun d l0 l1 l2 l3 w k Q => px_ret (q := (.areturn, 1, px_x0)) pt_40 rfl rfl,
  fun d l0 l1 l2 l3 w k Q hk => r_new pt_40 rfl rfl nfl_0 hk,
  fun d l0 l1 l2 l3 s0 w k Q => px_go (q := (.dup, 1, px_x0)) (S' := (58, [l0, l1, l2, l3], [s0, s0], w, k)) pt_40 rfl rfl,
  fun d l0 l2 l3 s0 s1 x w k Q => px_go (q := (.iload_n 1, 1, px_x0)) (S' := (59, [l0, some (.int x), l2, l3], [.int x, s0, s1], w, k)) pt_40 rfl rfl,
  fun d l0 l1 l3 s0 s1 s2 x w k Q => px_go (q := (.iload_n 2, 1, px_x0)) (S' := (60, [l0, l1, some (.int x), l3], [.int x, s0, s1, s2], w, k)) pt_40 rfl rfl,
  fun d l0 l1 l2 s0 s1 s2 s3 x w k Q => px_go (q := (.iload_n 3, 1, px_x0)) (S' := (61, [l0, l1, l2, some (.int x)], [.int x, s0, s1, s2, s3], w, k)) pt_40 rfl rfl,
  fun d l0 l1 l2 l3 s4 v0 v1 v2 b w k Q hk => r_call (q := (.invokespecial 89, 3, (31, 3, [(0, 0)], 0, ""))) pt_40 rfl rfl pt_0 (Nat.le_of_ble_eq_true rfl) hk rfl,
  fun d l0 l1 l2 l3 a w k Q => px_ret (q := (.areturn, 1, px_x0)) pt_40 rfl rfl,
  fun d l0 l1 l2 l3 w k Q => px_ret (q := (.areturn, 1, px_x0)) pt_40 rfl rfl,
  fun d l0 l1 l2 l3 w k Q hk => r_new pt_40 rfl rfl nfl_8 hk,
  fun d l0 l1 l2 l3 s0 w k Q => px_go (q := (.dup, 1, px_x0)) (S' := (69, [l0, l1, l2, l3], [s0, s0], w, k)) pt_40 rfl rfl,
  fun d l0 l2 l3 s0 s1 x w k Q => px_go (q := (.iload_n 1, 1, px_x0)) (S' := (70, [l0, some (.int x), l2, l3], [.int x, s0, s1], w, k)) pt_40 rfl rfl,
  fun d l0 l1 l3 s0 s1 s2 x w k Q => px_go (q := (.iload_n 2, 1, px_x0)) (S' := (71, [l0, l1, some (.int x), l3], [.int x, s0, s1, s2], w, k)) pt_40 rfl rfl,
  fun d l0 l1 l2 s0 s1 s2 s3 x w k Q => px_go (q := (.iload_n 3, 1, px_x0)) (S' := (72, [l0, l1, l2, some (.int x)], [.int x, s0, s1, s2, s3], w, k)) pt_40 rfl rfl,
  fun d l0 l1 l2 l3 s4 v0 v1 v2 b w k Q hk => r_call (q := (.invokespecial 92, 3, (31, 3, [(0, 87)], 0, ""))) pt_40 rfl rfl pt_87 (Nat.le_of_ble_eq_true rfl) hk rfl,
  fun d l0 l1 l2 l3 a w k Q => px_ret (q := (.areturn, 1, px_x0)) pt_40 rfl rfl,
  fun d l0 l1 l2 l3 w k Q => px_ret (q := (.areturn, 1, px_x0)) pt_40 rfl rfl,
  fun d l0 l1 l2 l3 w k Q hk => r_new pt_40 rfl rfl nfl_3 hk,
  fun d l0 l1 l2 l3 s0 w k Q => px_go (q := (.dup, 1, px_x0)) (S' := (80, [l0, l1, l2, l3], [s0, s0], w, k)) pt_40 rfl rfl,
  fun d l0 l2 l3 s0 s1 x w k Q => px_go (q := (.iload_n 1, 1, px_x0)) (S' := (81, [l0, some (.int x), l2, l3], [.int x, s0, s1], w, k)) pt_40 rfl rfl,
  fun d l0 l1 l3 s0 s1 s2 x w k Q => px_go (q := (.iload_n 2, 1, px_x0)) (S' := (82, [l0, l1, some (.int x), l3], [.int x, s0, s1, s2], w, k)) pt_40 rfl rfl,
  fun d l0 l1 l2 s0 s1 s2 s3 x w k Q => px_go (q := (.iload_n 3, 1, px_x0)) (S' := (83, [l0, l1, l2, some (.int x)], [.int x, s0, s1, s2, s3], w, k)) pt_40 rfl rfl,
  fun d l0 l1 l2 l3 s4 v0 v1 v2 b w k Q hk => r_call (q := (.invokespecial 95, 3, (31, 3, [(0, 25)], 0, ""))) pt_40 rfl rfl pt_25 (Nat.le_of_ble_eq_true rfl) hk rfl,
  fun d l0 l1 l2 l3 a w k Q => px_ret (q := (.areturn, 1, px_x0)) pt_40 rfl rfl,
  fun d l0 l1 l2 l3 w k Q => px_ret (q := (.areturn, 1, px_x0)) pt_40 rfl rfl⟩
