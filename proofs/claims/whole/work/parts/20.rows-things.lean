/-! rows of the pure machine: things -/
/-- AllSworn$Foreign.<init>(III)V -/
theorem S0 : (∀ (d : Nat) (v0 v1 v2 v3 : Value) (w : px_H) (Q : Option Value → px_H → Prop), wc d 0 [v0, v1, v2, v3] w Q ↔ wp d 0 0 [some v0, some v1, some v2, some v3] [] w 0 Q) ∧
  (∀ (d : Nat) (l1 l2 l3 : Option Value) (a : Nat) (w : px_H) (Q : Option Value → px_H → Prop), wp d 0 0 [some (.ref a), l1, l2, l3] [] w 0 Q ↔ wp d 0 1 [some (.ref a), l1, l2, l3] [.ref a] w 0 Q) ∧
  (∀ (d : Nat) (l0 l2 l3 : Option Value) (s0 : Value) (x : Int32) (w : px_H) (Q : Option Value → px_H → Prop), wp d 0 1 [l0, some (.int x), l2, l3] [s0] w 0 Q ↔ wp d 0 2 [l0, some (.int x), l2, l3] [.int x, s0] w 0 Q) ∧
  (∀ (d : Nat) (l0 l1 l3 : Option Value) (s0 s1 : Value) (x : Int32) (w : px_H) (Q : Option Value → px_H → Prop), wp d 0 2 [l0, l1, some (.int x), l3] [s0, s1] w 0 Q ↔ wp d 0 3 [l0, l1, some (.int x), l3] [.int x, s0, s1] w 0 Q) ∧
  (∀ (d : Nat) (l0 l1 l2 : Option Value) (s0 s1 s2 : Value) (x : Int32) (w : px_H) (Q : Option Value → px_H → Prop), wp d 0 3 [l0, l1, l2, some (.int x)] [s0, s1, s2] w 0 Q ↔ wp d 0 4 [l0, l1, l2, some (.int x)] [.int x, s0, s1, s2] w 0 Q) ∧
  (∀ (d : Nat) (l0 l1 l2 l3 : Option Value) (v0 v1 v2 : Value) (b : Nat) (w : px_H) (Q : Option Value → px_H → Prop), wp (d + 1) 0 4 [l0, l1, l2, l3] [v2, v1, v0, .ref b] w 0 Q ↔ wc d 76 [.ref b, v0, v1, v2] w (fun r w' => wp (d + 1) 0 7 [l0, l1, l2, l3] (r.toList ++ []) w' 0 Q)) ∧
  (∀ (d : Nat) (l0 l1 l2 l3 : Option Value)  (w : px_H) (Q : Option Value → px_H → Prop), wp d 0 7 [l0, l1, l2, l3] [] w 0 Q ↔ Q none w) := ⟨fun d v0 v1 v2 v3 w Q => r_entry pt_0 (Nat.le_of_ble_eq_true rfl) rfl,
  fun d l1 l2 l3 a w Q => px_go (q := (.aload_n 0, 1, px_x0)) (S' := (1, [some (.ref a), l1, l2, l3], [.ref a], w, 0)) pt_0 rfl rfl,
  fun d l0 l2 l3 s0 x w Q => px_go (q := (.iload_n 1, 1, px_x0)) (S' := (2, [l0, some (.int x), l2, l3], [.int x, s0], w, 0)) pt_0 rfl rfl,
  fun d l0 l1 l3 s0 s1 x w Q => px_go (q := (.iload_n 2, 1, px_x0)) (S' := (3, [l0, l1, some (.int x), l3], [.int x, s0, s1], w, 0)) pt_0 rfl rfl,
  fun d l0 l1 l2 s0 s1 s2 x w Q => px_go (q := (.iload_n 3, 1, px_x0)) (S' := (4, [l0, l1, l2, some (.int x)], [.int x, s0, s1, s2], w, 0)) pt_0 rfl rfl,
  fun d l0 l1 l2 l3 v0 v1 v2 b w Q => r_call (q := (.invokespecial 3, 3, (31, 3, [(0, 76)], 0, ""))) pt_0 rfl rfl pt_76 (Nat.le_of_ble_eq_true rfl) (Nat.le_of_ble_eq_true rfl) rfl,
  fun d l0 l1 l2 l3 w Q => px_ret (q := (.return_, 1, px_x0)) pt_0 rfl rfl⟩
/-- AllSworn$Foreign.toldKind()I -/
theorem S1 : (∀ (d : Nat) (v0 : Value) (w : px_H) (Q : Option Value → px_H → Prop), wc d 1 [v0] w Q ↔ wp d 1 0 [some v0] [] w 0 Q) ∧
  (∀ (d : Nat) (l0 : Option Value)  (w : px_H) (Q : Option Value → px_H → Prop), wp d 1 0 [l0] [] w 0 Q ↔ wp d 1 1 [l0] [.int 4] w 0 Q) ∧
  (∀ (d : Nat) (l0 : Option Value) (x : Int32) (w : px_H) (Q : Option Value → px_H → Prop), wp d 1 1 [l0] [.int x] w 0 Q ↔ Q (some (.int x)) w) := ⟨fun d v0 w Q => r_entry pt_1 (Nat.le_of_ble_eq_true rfl) rfl,
  fun d l0 w Q => r_iconst pt_1 rfl (by decide),
  fun d l0 x w Q => px_ret (q := (.ireturn, 1, px_x0)) pt_1 rfl rfl⟩
/-- AllSworn$Foreign.isOf(I)Z -/
theorem S2 : (∀ (d : Nat) (v0 v1 : Value) (w : px_H) (Q : Option Value → px_H → Prop), wc d 2 [v0, v1] w Q ↔ wp d 2 0 [some v0, some v1] [] w 0 Q) ∧
  (∀ (d : Nat) (l0 : Option Value) (x : Int32) (w : px_H) (Q : Option Value → px_H → Prop), wp d 2 0 [l0, some (.int x)] [] w 0 Q ↔ wp d 2 1 [l0, some (.int x)] [.int x] w 0 Q) ∧
  (∀ (d : Nat) (l0 l1 : Option Value) (s0 : Value)  (w : px_H) (Q : Option Value → px_H → Prop), wp d 2 1 [l0, l1] [s0] w 0 Q ↔ wp d 2 2 [l0, l1] [.int 4, s0] w 0 Q) ∧
  (∀ (d : Nat) (l0 l1 : Option Value) (x y : Int32) (w : px_H) (Q : Option Value → px_H → Prop), wp d 2 2 [l0, l1] [.int y, .int x] w 0 Q ↔ if x = y then wp d 2 13 [l0, l1] [] w 0 Q else wp d 2 5 [l0, l1] [] w 0 Q) ∧
  (∀ (d : Nat) (l1 : Option Value) (a : Nat) (w : px_H) (Q : Option Value → px_H → Prop), wp d 2 5 [some (.ref a), l1] [] w 0 Q ↔ wp d 2 6 [some (.ref a), l1] [.ref a] w 0 Q) ∧
  (∀ (d : Nat) (l0 : Option Value) (s0 : Value) (x : Int32) (w : px_H) (Q : Option Value → px_H → Prop), wp d 2 6 [l0, some (.int x)] [s0] w 0 Q ↔ wp d 2 7 [l0, some (.int x)] [.int x, s0] w 0 Q) ∧
  (∀ (d : Nat) (l0 l1 : Option Value) (v0 : Value) (b : Nat) (w : px_H) (Q : Option Value → px_H → Prop), wp (d + 1) 2 7 [l0, l1] [v0, .ref b] w 0 Q ↔ px_op (px_cls w b) (fun _ => wc d 77 [.ref b, v0] w (fun r w' => wp (d + 1) 2 10 [l0, l1] (r.toList ++ []) w' 0 Q))) ∧
  (∀ (d : Nat) (l0 l1 : Option Value) (x : Int32) (w : px_H) (Q : Option Value → px_H → Prop), wp d 2 10 [l0, l1] [.int x] w 0 Q ↔ if x = 0 then wp d 2 17 [l0, l1] [] w 0 Q else wp d 2 13 [l0, l1] [] w 0 Q) ∧
  (∀ (d : Nat) (l0 l1 : Option Value)  (w : px_H) (Q : Option Value → px_H → Prop), wp d 2 13 [l0, l1] [] w 0 Q ↔ wp d 2 14 [l0, l1] [.int 1] w 0 Q) ∧
  (∀ (d : Nat) (l0 l1 : Option Value) (s0 : Value)  (w : px_H) (Q : Option Value → px_H → Prop), wp d 2 14 [l0, l1] [s0] w 0 Q ↔ wp d 2 18 [l0, l1] [s0] w 0 Q) ∧
  (∀ (d : Nat) (l0 l1 : Option Value)  (w : px_H) (Q : Option Value → px_H → Prop), wp d 2 17 [l0, l1] [] w 0 Q ↔ wp d 2 18 [l0, l1] [.int 0] w 0 Q) ∧
  (∀ (d : Nat) (l0 l1 : Option Value) (x : Int32) (w : px_H) (Q : Option Value → px_H → Prop), wp d 2 18 [l0, l1] [.int x] w 0 Q ↔ (x = 0 ∨ x = 1) ∧ Q (some (.int x)) w) := ⟨fun d v0 v1 w Q => r_entry pt_2 (Nat.le_of_ble_eq_true rfl) rfl,
  fun d l0 x w Q => px_go (q := (.iload_n 1, 1, px_x0)) (S' := (1, [l0, some (.int x)], [.int x], w, 0)) pt_2 rfl rfl,
  fun d l0 l1 s0 w Q => r_iconst pt_2 rfl (by decide),
  fun d l0 l1 x y w Q => r_icmp_eq pt_2 rfl rfl,
  fun d l1 a w Q => px_go (q := (.aload_n 0, 1, px_x0)) (S' := (6, [some (.ref a), l1], [.ref a], w, 0)) pt_2 rfl rfl,
  fun d l0 s0 x w Q => px_go (q := (.iload_n 1, 1, px_x0)) (S' := (7, [l0, some (.int x)], [.int x, s0], w, 0)) pt_2 rfl rfl,
  fun d l0 l1 v0 b w Q => r_callO (q := (.invokespecial 9, 3, (35, 1, [(0, 77)], 0, ""))) (G := fun _ => m_X7_isOf) pt_2 rfl rfl (fun _ _ => ⟨pt_77, Nat.le_of_ble_eq_true rfl, (Nat.le_of_ble_eq_true rfl), rfl⟩),
  fun d l0 l1 x w Q => r_if_eq pt_2 rfl rfl,
  fun d l0 l1 w Q => r_iconst pt_2 rfl (by decide),
  fun d l0 l1 s0 w Q => r_goto pt_2 rfl rfl,
  fun d l0 l1 w Q => r_iconst pt_2 rfl (by decide),
  fun d l0 l1 x w Q => px_retI (q := (.ireturn, 1, px_x0)) pt_2 rfl rfl⟩
/-- AllSworn$Foreign.daysToAsk()I -/
theorem S3 : (∀ (d : Nat) (v0 : Value) (w : px_H) (Q : Option Value → px_H → Prop), wc d 3 [v0] w Q ↔ wp d 3 0 [some v0] [] w 0 Q) ∧
  (∀ (d : Nat) (l0 : Option Value)  (w : px_H) (Q : Option Value → px_H → Prop), wp d 3 0 [l0] [] w 0 Q ↔ wp d 3 1 [l0] [.int 1] w 0 Q) ∧
  (∀ (d : Nat) (l0 : Option Value) (s0 : Value)  (w : px_H) (Q : Option Value → px_H → Prop), wp d 3 1 [l0] [s0] w 0 Q ↔ wp d 3 2 [l0] [.int 4, s0] w 0 Q) ∧
  (∀ (d : Nat) (s0 s1 : Value) (a : Nat) (w : px_H) (Q : Option Value → px_H → Prop), wp d 3 2 [some (.ref a)] [s0, s1] w 0 Q ↔ wp d 3 3 [some (.ref a)] [.ref a, s0, s1] w 0 Q) ∧
  (∀ (d : Nat) (l0 : Option Value) (s1 s2 : Value) (a : Nat) (w : px_H) (Q : Option Value → px_H → Prop), wp d 3 3 [l0] [.ref a, s1, s2] w 0 Q ↔ px_op (px_fld w a [(0, 0), (1, 0), (3, 0), (8, 0), (9, 0)] 1) (fun v => wp d 3 6 [l0] [v, s1, s2] w 0 Q)) ∧
  (∀ (d : Nat) (l0 : Option Value) (s2 : Value) (x y : Int32) (w : px_H) (Q : Option Value → px_H → Prop), wp d 3 6 [l0] [.int y, .int x, s2] w 0 Q ↔ wp d 3 7 [l0] [.int (x * y), s2] w 0 Q) ∧
  (∀ (d : Nat) (l0 : Option Value) (x y : Int32) (w : px_H) (Q : Option Value → px_H → Prop), wp d 3 7 [l0] [.int y, .int x] w 0 Q ↔ wp d 3 10 [l0] [.int (if x < y then y else x)] w 0 Q) ∧
  (∀ (d : Nat) (l0 : Option Value) (x : Int32) (w : px_H) (Q : Option Value → px_H → Prop), wp d 3 10 [l0] [.int x] w 0 Q ↔ Q (some (.int x)) w) := ⟨fun d v0 w Q => r_entry pt_3 (Nat.le_of_ble_eq_true rfl) rfl,
  fun d l0 w Q => r_iconst pt_3 rfl (by decide),
  fun d l0 s0 w Q => r_iconst pt_3 rfl (by decide),
  fun d s0 s1 a w Q => px_go (q := (.aload_n 0, 1, px_x0)) (S' := (3, [some (.ref a)], [.ref a, s0, s1], w, 0)) pt_3 rfl rfl,
  fun d l0 s1 s2 a w Q => px_goO (q := (.getfield 13, 3, (10, 1, [(0, 0), (1, 0), (3, 0), (8, 0), (9, 0)], 0, "AllSworn$Foreign"))) (S' := fun v => (6, [l0], [v, s1, s2], w, 0)) pt_3 rfl rfl,
  fun d l0 s2 x y w Q => px_go (q := (.imul, 1, px_x0)) (S' := (7, [l0], [.int (x * y), s2], w, 0)) pt_3 rfl rfl,
  fun d l0 x y w Q => px_go (q := (.invokestatic 19, 3, (38, 0, [], 0, ""))) (S' := (10, [l0], [.int (if x < y then y else x)], w, 0)) pt_3 rfl rfl,
  fun d l0 x w Q => px_ret (q := (.ireturn, 1, px_x0)) pt_3 rfl rfl⟩
/-- AllSworn$Foreign.size(LAllSworn$Trace;LAllSworn$Realm;)I -/
theorem S4 : (∀ (d : Nat) (v0 v1 v2 : Value) (w : px_H) (Q : Option Value → px_H → Prop), wc d 4 [v0, v1, v2] w Q ↔ wp d 4 0 [some v0, some v1, some v2] [] w 0 Q) ∧
  (∀ (d : Nat) (l0 l2 : Option Value) (a : Nat) (w : px_H) (Q : Option Value → px_H → Prop), wp d 4 0 [l0, some (.ref a), l2] [] w 0 Q ↔ wp d 4 1 [l0, some (.ref a), l2] [.ref a] w 0 Q) ∧
  (∀ (d : Nat) (l0 l2 : Option Value)  (w : px_H) (Q : Option Value → px_H → Prop), wp d 4 0 [l0, some .null, l2] [] w 0 Q ↔ wp d 4 1 [l0, some .null, l2] [.null] w 0 Q) ∧
  (∀ (d : Nat) (l0 l1 l2 : Option Value) (s0 : Value)  (w : px_H) (Q : Option Value → px_H → Prop), wp d 4 1 [l0, l1, l2] [s0] w 0 Q ↔ wp d 4 3 [l0, l1, l2] [.int 13, s0] w 0 Q) ∧
  (∀ (d : Nat) (l0 l1 l2 : Option Value) (v0 : Value) (b : Nat) (w : px_H) (Q : Option Value → px_H → Prop), wp (d + 1) 4 3 [l0, l1, l2] [v0, .ref b] w 0 Q ↔ px_op (px_tgt w b [(7, 85)]) (fun v => wc d v [.ref b, v0] w (fun r w' => wp (d + 1) 4 6 [l0, l1, l2] (r.toList ++ []) w' 0 Q))) ∧
  (∀ (d : Nat) (l1 l2 : Option Value) (a : Nat) (w : px_H) (Q : Option Value → px_H → Prop), wp d 4 6 [some (.ref a), l1, l2] [] w 0 Q ↔ wp d 4 7 [some (.ref a), l1, l2] [.ref a] w 0 Q) ∧
  (∀ (d : Nat) (l0 l2 : Option Value) (s0 : Value) (a : Nat) (w : px_H) (Q : Option Value → px_H → Prop), wp d 4 7 [l0, some (.ref a), l2] [s0] w 0 Q ↔ wp d 4 8 [l0, some (.ref a), l2] [.ref a, s0] w 0 Q) ∧
  (∀ (d : Nat) (l0 l2 : Option Value) (s0 : Value)  (w : px_H) (Q : Option Value → px_H → Prop), wp d 4 7 [l0, some .null, l2] [s0] w 0 Q ↔ wp d 4 8 [l0, some .null, l2] [.null, s0] w 0 Q) ∧
  (∀ (d : Nat) (l0 l1 : Option Value) (s0 s1 : Value) (a : Nat) (w : px_H) (Q : Option Value → px_H → Prop), wp d 4 8 [l0, l1, some (.ref a)] [s0, s1] w 0 Q ↔ wp d 4 9 [l0, l1, some (.ref a)] [.ref a, s0, s1] w 0 Q) ∧
  (∀ (d : Nat) (l0 l1 : Option Value) (s0 s1 : Value)  (w : px_H) (Q : Option Value → px_H → Prop), wp d 4 8 [l0, l1, some .null] [s0, s1] w 0 Q ↔ wp d 4 9 [l0, l1, some .null] [.null, s0, s1] w 0 Q) ∧
  (∀ (d : Nat) (l0 l1 l2 : Option Value) (v0 v1 : Value) (b : Nat) (w : px_H) (Q : Option Value → px_H → Prop), wp (d + 1) 4 9 [l0, l1, l2] [v1, v0, .ref b] w 0 Q ↔ px_op (px_cls w b) (fun _ => wc d 81 [.ref b, v0, v1] w (fun r w' => wp (d + 1) 4 12 [l0, l1, l2] (r.toList ++ []) w' 0 Q))) ∧
  (∀ (d : Nat) (l0 l1 l2 : Option Value) (s0 : Value)  (w : px_H) (Q : Option Value → px_H → Prop), wp d 4 12 [l0, l1, l2] [s0] w 0 Q ↔ wp d 4 14 [l0, l1, l2] [.int 100, s0] w 0 Q) ∧
  (∀ (d : Nat) (l0 l1 l2 : Option Value) (x y : Int32) (w : px_H) (Q : Option Value → px_H → Prop), wp d 4 14 [l0, l1, l2] [.int y, .int x] w 0 Q ↔ wp d 4 15 [l0, l1, l2] [.int (x - y)] w 0 Q) ∧
  (∀ (d : Nat) (l0 l1 l2 : Option Value) (x : Int32) (w : px_H) (Q : Option Value → px_H → Prop), wp d 4 15 [l0, l1, l2] [.int x] w 0 Q ↔ Q (some (.int x)) w) := ⟨fun d v0 v1 v2 w Q => r_entry pt_4 (Nat.le_of_ble_eq_true rfl) rfl,
  fun d l0 l2 a w Q => px_go (q := (.aload_n 1, 1, px_x0)) (S' := (1, [l0, some (.ref a), l2], [.ref a], w, 0)) pt_4 rfl rfl,
  fun d l0 l2 w Q => px_go (q := (.aload_n 1, 1, px_x0)) (S' := (1, [l0, some .null, l2], [.null], w, 0)) pt_4 rfl rfl,
  fun d l0 l1 l2 s0 w Q => r_bipush pt_4 rfl (by decide),
  fun d l0 l1 l2 v0 b w Q => r_callV (q := (.invokevirtual 25, 3, (33, 1, [(7, 85)], 0, ""))) pt_4 rfl rfl (List.forall_mem_cons.mpr ⟨⟨_, pt_85, Nat.le_of_ble_eq_true rfl, (Nat.le_of_ble_eq_true rfl), rfl⟩, fun _ h => absurd h List.not_mem_nil⟩),
  fun d l1 l2 a w Q => px_go (q := (.aload_n 0, 1, px_x0)) (S' := (7, [some (.ref a), l1, l2], [.ref a], w, 0)) pt_4 rfl rfl,
  fun d l0 l2 s0 a w Q => px_go (q := (.aload_n 1, 1, px_x0)) (S' := (8, [l0, some (.ref a), l2], [.ref a, s0], w, 0)) pt_4 rfl rfl,
  fun d l0 l2 s0 w Q => px_go (q := (.aload_n 1, 1, px_x0)) (S' := (8, [l0, some .null, l2], [.null, s0], w, 0)) pt_4 rfl rfl,
  fun d l0 l1 s0 s1 a w Q => px_go (q := (.aload_n 2, 1, px_x0)) (S' := (9, [l0, l1, some (.ref a)], [.ref a, s0, s1], w, 0)) pt_4 rfl rfl,
  fun d l0 l1 s0 s1 w Q => px_go (q := (.aload_n 2, 1, px_x0)) (S' := (9, [l0, l1, some .null], [.null, s0, s1], w, 0)) pt_4 rfl rfl,
  fun d l0 l1 l2 v0 v1 b w Q => r_callO (q := (.invokespecial 31, 3, (35, 2, [(0, 81)], 0, ""))) (G := fun _ => m_X7_size) pt_4 rfl rfl (fun _ _ => ⟨pt_81, Nat.le_of_ble_eq_true rfl, (Nat.le_of_ble_eq_true rfl), rfl⟩),
  fun d l0 l1 l2 s0 w Q => r_bipush pt_4 rfl (by decide),
  fun d l0 l1 l2 x y w Q => px_go (q := (.isub, 1, px_x0)) (S' := (15, [l0, l1, l2], [.int (x - y)], w, 0)) pt_4 rfl rfl,
  fun d l0 l1 l2 x w Q => px_ret (q := (.ireturn, 1, px_x0)) pt_4 rfl rfl⟩
/-- AllSworn$Foreign.mark(LAllSworn$Trace;LAllSworn$Realm;)I -/
theorem S5 : (∀ (d : Nat) (v0 v1 v2 : Value) (w : px_H) (Q : Option Value → px_H → Prop), wc d 5 [v0, v1, v2] w Q ↔ wp d 5 0 [some v0, some v1, some v2] [] w 0 Q) ∧
  (∀ (d : Nat) (l0 l2 : Option Value) (a : Nat) (w : px_H) (Q : Option Value → px_H → Prop), wp d 5 0 [l0, some (.ref a), l2] [] w 0 Q ↔ wp d 5 1 [l0, some (.ref a), l2] [.ref a] w 0 Q) ∧
  (∀ (d : Nat) (l0 l2 : Option Value)  (w : px_H) (Q : Option Value → px_H → Prop), wp d 5 0 [l0, some .null, l2] [] w 0 Q ↔ wp d 5 1 [l0, some .null, l2] [.null] w 0 Q) ∧
  (∀ (d : Nat) (l0 l1 l2 : Option Value) (s0 : Value)  (w : px_H) (Q : Option Value → px_H → Prop), wp d 5 1 [l0, l1, l2] [s0] w 0 Q ↔ wp d 5 3 [l0, l1, l2] [.int 23, s0] w 0 Q) ∧
  (∀ (d : Nat) (l0 l1 l2 : Option Value) (v0 : Value) (b : Nat) (w : px_H) (Q : Option Value → px_H → Prop), wp (d + 1) 5 3 [l0, l1, l2] [v0, .ref b] w 0 Q ↔ px_op (px_tgt w b [(7, 85)]) (fun v => wc d v [.ref b, v0] w (fun r w' => wp (d + 1) 5 6 [l0, l1, l2] (r.toList ++ []) w' 0 Q))) ∧
  (∀ (d : Nat) (l1 l2 : Option Value) (a : Nat) (w : px_H) (Q : Option Value → px_H → Prop), wp d 5 6 [some (.ref a), l1, l2] [] w 0 Q ↔ wp d 5 7 [some (.ref a), l1, l2] [.ref a] w 0 Q) ∧
  (∀ (d : Nat) (l0 l2 : Option Value) (s0 : Value) (a : Nat) (w : px_H) (Q : Option Value → px_H → Prop), wp d 5 7 [l0, some (.ref a), l2] [s0] w 0 Q ↔ wp d 5 8 [l0, some (.ref a), l2] [.ref a, s0] w 0 Q) ∧
  (∀ (d : Nat) (l0 l2 : Option Value) (s0 : Value)  (w : px_H) (Q : Option Value → px_H → Prop), wp d 5 7 [l0, some .null, l2] [s0] w 0 Q ↔ wp d 5 8 [l0, some .null, l2] [.null, s0] w 0 Q) ∧
  (∀ (d : Nat) (l0 l1 : Option Value) (s0 s1 : Value) (a : Nat) (w : px_H) (Q : Option Value → px_H → Prop), wp d 5 8 [l0, l1, some (.ref a)] [s0, s1] w 0 Q ↔ wp d 5 9 [l0, l1, some (.ref a)] [.ref a, s0, s1] w 0 Q) ∧
  (∀ (d : Nat) (l0 l1 : Option Value) (s0 s1 : Value)  (w : px_H) (Q : Option Value → px_H → Prop), wp d 5 8 [l0, l1, some .null] [s0, s1] w 0 Q ↔ wp d 5 9 [l0, l1, some .null] [.null, s0, s1] w 0 Q) ∧
  (∀ (d : Nat) (l0 l1 l2 : Option Value) (v0 v1 : Value) (b : Nat) (w : px_H) (Q : Option Value → px_H → Prop), wp (d + 1) 5 9 [l0, l1, l2] [v1, v0, .ref b] w 0 Q ↔ px_op (px_cls w b) (fun _ => wc d 82 [.ref b, v0, v1] w (fun r w' => wp (d + 1) 5 12 [l0, l1, l2] (r.toList ++ []) w' 0 Q))) ∧
  (∀ (d : Nat) (l1 l2 : Option Value) (s0 : Value) (a : Nat) (w : px_H) (Q : Option Value → px_H → Prop), wp d 5 12 [some (.ref a), l1, l2] [s0] w 0 Q ↔ wp d 5 13 [some (.ref a), l1, l2] [.ref a, s0] w 0 Q) ∧
  (∀ (d : Nat) (l0 l2 : Option Value) (s0 s1 : Value) (a : Nat) (w : px_H) (Q : Option Value → px_H → Prop), wp d 5 13 [l0, some (.ref a), l2] [s0, s1] w 0 Q ↔ wp d 5 14 [l0, some (.ref a), l2] [.ref a, s0, s1] w 0 Q) ∧
  (∀ (d : Nat) (l0 l2 : Option Value) (s0 s1 : Value)  (w : px_H) (Q : Option Value → px_H → Prop), wp d 5 13 [l0, some .null, l2] [s0, s1] w 0 Q ↔ wp d 5 14 [l0, some .null, l2] [.null, s0, s1] w 0 Q) ∧
  (∀ (d : Nat) (l0 l1 : Option Value) (s0 s1 s2 : Value) (a : Nat) (w : px_H) (Q : Option Value → px_H → Prop), wp d 5 14 [l0, l1, some (.ref a)] [s0, s1, s2] w 0 Q ↔ wp d 5 15 [l0, l1, some (.ref a)] [.ref a, s0, s1, s2] w 0 Q) ∧
  (∀ (d : Nat) (l0 l1 : Option Value) (s0 s1 s2 : Value)  (w : px_H) (Q : Option Value → px_H → Prop), wp d 5 14 [l0, l1, some .null] [s0, s1, s2] w 0 Q ↔ wp d 5 15 [l0, l1, some .null] [.null, s0, s1, s2] w 0 Q) ∧
  (∀ (d : Nat) (l0 l1 l2 : Option Value) (s3 : Value) (v0 v1 : Value) (b : Nat) (w : px_H) (Q : Option Value → px_H → Prop), wp (d + 1) 5 15 [l0, l1, l2] [v1, v0, .ref b, s3] w 0 Q ↔ px_op (px_tgt w b [(0, 4), (8, 91)]) (fun v => wc d v [.ref b, v0, v1] w (fun r w' => wp (d + 1) 5 18 [l0, l1, l2] (r.toList ++ [s3]) w' 0 Q))) ∧
  (∀ (d : Nat) (l0 l1 l2 : Option Value) (x y : Int32) (w : px_H) (Q : Option Value → px_H → Prop), wp d 5 18 [l0, l1, l2] [.int y, .int x] w 0 Q ↔ wp d 5 19 [l0, l1, l2] [.int (x - y)] w 0 Q) ∧
  (∀ (d : Nat) (l0 l1 l2 : Option Value) (x : Int32) (w : px_H) (Q : Option Value → px_H → Prop), wp d 5 19 [l0, l1, l2] [.int x] w 0 Q ↔ Q (some (.int x)) w) := ⟨fun d v0 v1 v2 w Q => r_entry pt_5 (Nat.le_of_ble_eq_true rfl) rfl,
  fun d l0 l2 a w Q => px_go (q := (.aload_n 1, 1, px_x0)) (S' := (1, [l0, some (.ref a), l2], [.ref a], w, 0)) pt_5 rfl rfl,
  fun d l0 l2 w Q => px_go (q := (.aload_n 1, 1, px_x0)) (S' := (1, [l0, some .null, l2], [.null], w, 0)) pt_5 rfl rfl,
  fun d l0 l1 l2 s0 w Q => r_bipush pt_5 rfl (by decide),
  fun d l0 l1 l2 v0 b w Q => r_callV (q := (.invokevirtual 25, 3, (33, 1, [(7, 85)], 0, ""))) pt_5 rfl rfl (List.forall_mem_cons.mpr ⟨⟨_, pt_85, Nat.le_of_ble_eq_true rfl, (Nat.le_of_ble_eq_true rfl), rfl⟩, fun _ h => absurd h List.not_mem_nil⟩),
  fun d l1 l2 a w Q => px_go (q := (.aload_n 0, 1, px_x0)) (S' := (7, [some (.ref a), l1, l2], [.ref a], w, 0)) pt_5 rfl rfl,
  fun d l0 l2 s0 a w Q => px_go (q := (.aload_n 1, 1, px_x0)) (S' := (8, [l0, some (.ref a), l2], [.ref a, s0], w, 0)) pt_5 rfl rfl,
  fun d l0 l2 s0 w Q => px_go (q := (.aload_n 1, 1, px_x0)) (S' := (8, [l0, some .null, l2], [.null, s0], w, 0)) pt_5 rfl rfl,
  fun d l0 l1 s0 s1 a w Q => px_go (q := (.aload_n 2, 1, px_x0)) (S' := (9, [l0, l1, some (.ref a)], [.ref a, s0, s1], w, 0)) pt_5 rfl rfl,
  fun d l0 l1 s0 s1 w Q => px_go (q := (.aload_n 2, 1, px_x0)) (S' := (9, [l0, l1, some .null], [.null, s0, s1], w, 0)) pt_5 rfl rfl,
  fun d l0 l1 l2 v0 v1 b w Q => r_callO (q := (.invokespecial 35, 3, (35, 2, [(0, 82)], 0, ""))) (G := fun _ => m_X7_mark) pt_5 rfl rfl (fun _ _ => ⟨pt_82, Nat.le_of_ble_eq_true rfl, (Nat.le_of_ble_eq_true rfl), rfl⟩),
  fun d l1 l2 s0 a w Q => px_go (q := (.aload_n 0, 1, px_x0)) (S' := (13, [some (.ref a), l1, l2], [.ref a, s0], w, 0)) pt_5 rfl rfl,
  fun d l0 l2 s0 s1 a w Q => px_go (q := (.aload_n 1, 1, px_x0)) (S' := (14, [l0, some (.ref a), l2], [.ref a, s0, s1], w, 0)) pt_5 rfl rfl,
  fun d l0 l2 s0 s1 w Q => px_go (q := (.aload_n 1, 1, px_x0)) (S' := (14, [l0, some .null, l2], [.null, s0, s1], w, 0)) pt_5 rfl rfl,
  fun d l0 l1 s0 s1 s2 a w Q => px_go (q := (.aload_n 2, 1, px_x0)) (S' := (15, [l0, l1, some (.ref a)], [.ref a, s0, s1, s2], w, 0)) pt_5 rfl rfl,
  fun d l0 l1 s0 s1 s2 w Q => px_go (q := (.aload_n 2, 1, px_x0)) (S' := (15, [l0, l1, some .null], [.null, s0, s1, s2], w, 0)) pt_5 rfl rfl,
  fun d l0 l1 l2 s3 v0 v1 b w Q => r_callV (q := (.invokevirtual 38, 3, (34, 2, [(0, 4), (8, 91)], 0, "AllSworn$Foreign"))) pt_5 rfl rfl (List.forall_mem_cons.mpr ⟨⟨_, pt_4, Nat.le_of_ble_eq_true rfl, (Nat.le_of_ble_eq_true rfl), rfl⟩, List.forall_mem_cons.mpr ⟨⟨_, pt_91, Nat.le_of_ble_eq_true rfl, (Nat.le_of_ble_eq_true rfl), rfl⟩, fun _ h => absurd h List.not_mem_nil⟩⟩),
  fun d l0 l1 l2 x y w Q => px_go (q := (.isub, 1, px_x0)) (S' := (19, [l0, l1, l2], [.int (x - y)], w, 0)) pt_5 rfl rfl,
  fun d l0 l1 l2 x w Q => px_ret (q := (.ireturn, 1, px_x0)) pt_5 rfl rfl⟩
/-- AllSworn$Mixed.<init>(III)V -/
theorem S6 : (∀ (d : Nat) (v0 v1 v2 v3 : Value) (w : px_H) (Q : Option Value → px_H → Prop), wc d 6 [v0, v1, v2, v3] w Q ↔ wp d 6 0 [some v0, some v1, some v2, some v3] [] w 0 Q) ∧
  (∀ (d : Nat) (l1 l2 l3 : Option Value) (a : Nat) (w : px_H) (Q : Option Value → px_H → Prop), wp d 6 0 [some (.ref a), l1, l2, l3] [] w 0 Q ↔ wp d 6 1 [some (.ref a), l1, l2, l3] [.ref a] w 0 Q) ∧
  (∀ (d : Nat) (l0 l2 l3 : Option Value) (s0 : Value) (x : Int32) (w : px_H) (Q : Option Value → px_H → Prop), wp d 6 1 [l0, some (.int x), l2, l3] [s0] w 0 Q ↔ wp d 6 2 [l0, some (.int x), l2, l3] [.int x, s0] w 0 Q) ∧
  (∀ (d : Nat) (l0 l1 l3 : Option Value) (s0 s1 : Value) (x : Int32) (w : px_H) (Q : Option Value → px_H → Prop), wp d 6 2 [l0, l1, some (.int x), l3] [s0, s1] w 0 Q ↔ wp d 6 3 [l0, l1, some (.int x), l3] [.int x, s0, s1] w 0 Q) ∧
  (∀ (d : Nat) (l0 l1 l2 : Option Value) (s0 s1 s2 : Value) (x : Int32) (w : px_H) (Q : Option Value → px_H → Prop), wp d 6 3 [l0, l1, l2, some (.int x)] [s0, s1, s2] w 0 Q ↔ wp d 6 4 [l0, l1, l2, some (.int x)] [.int x, s0, s1, s2] w 0 Q) ∧
  (∀ (d : Nat) (l0 l1 l2 l3 : Option Value) (v0 v1 v2 : Value) (b : Nat) (w : px_H) (Q : Option Value → px_H → Prop), wp (d + 1) 6 4 [l0, l1, l2, l3] [v2, v1, v0, .ref b] w 0 Q ↔ wc d 25 [.ref b, v0, v1, v2] w (fun r w' => wp (d + 1) 6 7 [l0, l1, l2, l3] (r.toList ++ []) w' 0 Q)) ∧
  (∀ (d : Nat) (l0 l1 l2 l3 : Option Value)  (w : px_H) (Q : Option Value → px_H → Prop), wp d 6 7 [l0, l1, l2, l3] [] w 0 Q ↔ Q none w) := ⟨fun d v0 v1 v2 v3 w Q => r_entry pt_6 (Nat.le_of_ble_eq_true rfl) rfl,
  fun d l1 l2 l3 a w Q => px_go (q := (.aload_n 0, 1, px_x0)) (S' := (1, [some (.ref a), l1, l2, l3], [.ref a], w, 0)) pt_6 rfl rfl,
  fun d l0 l2 l3 s0 x w Q => px_go (q := (.iload_n 1, 1, px_x0)) (S' := (2, [l0, some (.int x), l2, l3], [.int x, s0], w, 0)) pt_6 rfl rfl,
  fun d l0 l1 l3 s0 s1 x w Q => px_go (q := (.iload_n 2, 1, px_x0)) (S' := (3, [l0, l1, some (.int x), l3], [.int x, s0, s1], w, 0)) pt_6 rfl rfl,
  fun d l0 l1 l2 s0 s1 s2 x w Q => px_go (q := (.iload_n 3, 1, px_x0)) (S' := (4, [l0, l1, l2, some (.int x)], [.int x, s0, s1, s2], w, 0)) pt_6 rfl rfl,
  fun d l0 l1 l2 l3 v0 v1 v2 b w Q => r_call (q := (.invokespecial 3, 3, (31, 3, [(0, 25)], 0, ""))) pt_6 rfl rfl pt_25 (Nat.le_of_ble_eq_true rfl) (Nat.le_of_ble_eq_true rfl) rfl,
  fun d l0 l1 l2 l3 w Q => px_ret (q := (.return_, 1, px_x0)) pt_6 rfl rfl⟩
/-- AllSworn$Mixed.toldKind()I -/
theorem S7 : (∀ (d : Nat) (v0 : Value) (w : px_H) (Q : Option Value → px_H → Prop), wc d 7 [v0] w Q ↔ wp d 7 0 [some v0] [] w 0 Q) ∧
  (∀ (d : Nat) (l0 : Option Value)  (w : px_H) (Q : Option Value → px_H → Prop), wp d 7 0 [l0] [] w 0 Q ↔ wp d 7 1 [l0] [.int 2] w 0 Q) ∧
  (∀ (d : Nat) (l0 : Option Value) (x : Int32) (w : px_H) (Q : Option Value → px_H → Prop), wp d 7 1 [l0] [.int x] w 0 Q ↔ Q (some (.int x)) w) := ⟨fun d v0 w Q => r_entry pt_7 (Nat.le_of_ble_eq_true rfl) rfl,
  fun d l0 w Q => r_iconst pt_7 rfl (by decide),
  fun d l0 x w Q => px_ret (q := (.ireturn, 1, px_x0)) pt_7 rfl rfl⟩
/-- AllSworn$Mixed.isOf(I)Z -/
theorem S8 : (∀ (d : Nat) (v0 v1 : Value) (w : px_H) (Q : Option Value → px_H → Prop), wc d 8 [v0, v1] w Q ↔ wp d 8 0 [some v0, some v1] [] w 0 Q) ∧
  (∀ (d : Nat) (l0 : Option Value) (x : Int32) (w : px_H) (Q : Option Value → px_H → Prop), wp d 8 0 [l0, some (.int x)] [] w 0 Q ↔ wp d 8 1 [l0, some (.int x)] [.int x] w 0 Q) ∧
  (∀ (d : Nat) (l0 l1 : Option Value) (s0 : Value)  (w : px_H) (Q : Option Value → px_H → Prop), wp d 8 1 [l0, l1] [s0] w 0 Q ↔ wp d 8 2 [l0, l1] [.int 2, s0] w 0 Q) ∧
  (∀ (d : Nat) (l0 l1 : Option Value) (x y : Int32) (w : px_H) (Q : Option Value → px_H → Prop), wp d 8 2 [l0, l1] [.int y, .int x] w 0 Q ↔ if x = y then wp d 8 13 [l0, l1] [] w 0 Q else wp d 8 5 [l0, l1] [] w 0 Q) ∧
  (∀ (d : Nat) (l1 : Option Value) (a : Nat) (w : px_H) (Q : Option Value → px_H → Prop), wp d 8 5 [some (.ref a), l1] [] w 0 Q ↔ wp d 8 6 [some (.ref a), l1] [.ref a] w 0 Q) ∧
  (∀ (d : Nat) (l0 : Option Value) (s0 : Value) (x : Int32) (w : px_H) (Q : Option Value → px_H → Prop), wp d 8 6 [l0, some (.int x)] [s0] w 0 Q ↔ wp d 8 7 [l0, some (.int x)] [.int x, s0] w 0 Q) ∧
  (∀ (d : Nat) (l0 l1 : Option Value) (v0 : Value) (b : Nat) (w : px_H) (Q : Option Value → px_H → Prop), wp (d + 1) 8 7 [l0, l1] [v0, .ref b] w 0 Q ↔ px_op (px_cls w b) (fun _ => wc d 27 [.ref b, v0] w (fun r w' => wp (d + 1) 8 10 [l0, l1] (r.toList ++ []) w' 0 Q))) ∧
  (∀ (d : Nat) (l0 l1 : Option Value) (x : Int32) (w : px_H) (Q : Option Value → px_H → Prop), wp d 8 10 [l0, l1] [.int x] w 0 Q ↔ if x = 0 then wp d 8 17 [l0, l1] [] w 0 Q else wp d 8 13 [l0, l1] [] w 0 Q) ∧
  (∀ (d : Nat) (l0 l1 : Option Value)  (w : px_H) (Q : Option Value → px_H → Prop), wp d 8 13 [l0, l1] [] w 0 Q ↔ wp d 8 14 [l0, l1] [.int 1] w 0 Q) ∧
  (∀ (d : Nat) (l0 l1 : Option Value) (s0 : Value)  (w : px_H) (Q : Option Value → px_H → Prop), wp d 8 14 [l0, l1] [s0] w 0 Q ↔ wp d 8 18 [l0, l1] [s0] w 0 Q) ∧
  (∀ (d : Nat) (l0 l1 : Option Value)  (w : px_H) (Q : Option Value → px_H → Prop), wp d 8 17 [l0, l1] [] w 0 Q ↔ wp d 8 18 [l0, l1] [.int 0] w 0 Q) ∧
  (∀ (d : Nat) (l0 l1 : Option Value) (x : Int32) (w : px_H) (Q : Option Value → px_H → Prop), wp d 8 18 [l0, l1] [.int x] w 0 Q ↔ (x = 0 ∨ x = 1) ∧ Q (some (.int x)) w) := ⟨fun d v0 v1 w Q => r_entry pt_8 (Nat.le_of_ble_eq_true rfl) rfl,
  fun d l0 x w Q => px_go (q := (.iload_n 1, 1, px_x0)) (S' := (1, [l0, some (.int x)], [.int x], w, 0)) pt_8 rfl rfl,
  fun d l0 l1 s0 w Q => r_iconst pt_8 rfl (by decide),
  fun d l0 l1 x y w Q => r_icmp_eq pt_8 rfl rfl,
  fun d l1 a w Q => px_go (q := (.aload_n 0, 1, px_x0)) (S' := (6, [some (.ref a), l1], [.ref a], w, 0)) pt_8 rfl rfl,
  fun d l0 s0 x w Q => px_go (q := (.iload_n 1, 1, px_x0)) (S' := (7, [l0, some (.int x)], [.int x, s0], w, 0)) pt_8 rfl rfl,
  fun d l0 l1 v0 b w Q => r_callO (q := (.invokespecial 9, 3, (35, 1, [(0, 27)], 0, ""))) (G := fun _ => m_X3_isOf) pt_8 rfl rfl (fun _ _ => ⟨pt_27, Nat.le_of_ble_eq_true rfl, (Nat.le_of_ble_eq_true rfl), rfl⟩),
  fun d l0 l1 x w Q => r_if_eq pt_8 rfl rfl,
  fun d l0 l1 w Q => r_iconst pt_8 rfl (by decide),
  fun d l0 l1 s0 w Q => r_goto pt_8 rfl rfl,
  fun d l0 l1 w Q => r_iconst pt_8 rfl (by decide),
  fun d l0 l1 x w Q => px_retI (q := (.ireturn, 1, px_x0)) pt_8 rfl rfl⟩
/-- AllSworn$Mixed.isHeldBy(I)Z -/
theorem S9 : (∀ (d : Nat) (v0 v1 : Value) (w : px_H) (Q : Option Value → px_H → Prop), wc d 9 [v0, v1] w Q ↔ wp d 9 0 [some v0, some v1] [] w 0 Q) ∧
  (∀ (d : Nat) (l1 : Option Value) (a : Nat) (w : px_H) (Q : Option Value → px_H → Prop), wp d 9 0 [some (.ref a), l1] [] w 0 Q ↔ wp d 9 1 [some (.ref a), l1] [.ref a] w 0 Q) ∧
  (∀ (d : Nat) (l0 l1 : Option Value) (a : Nat) (w : px_H) (Q : Option Value → px_H → Prop), wp d 9 1 [l0, l1] [.ref a] w 0 Q ↔ px_op (px_fld w a [(0, 0), (1, 0), (3, 0), (8, 0), (9, 0)] 0) (fun v => wp d 9 4 [l0, l1] [v] w 0 Q)) ∧
  (∀ (d : Nat) (l0 l1 : Option Value) (x : Int32) (w : px_H) (Q : Option Value → px_H → Prop), wp d 9 4 [l0, l1] [.int x] w 0 Q ↔ if x = 0 then wp d 9 21 [l0, l1] [] w 0 Q else wp d 9 7 [l0, l1] [] w 0 Q) ∧
  (∀ (d : Nat) (l0 : Option Value) (x : Int32) (w : px_H) (Q : Option Value → px_H → Prop), wp d 9 7 [l0, some (.int x)] [] w 0 Q ↔ wp d 9 8 [l0, some (.int x)] [.int x] w 0 Q) ∧
  (∀ (d : Nat) (l1 : Option Value) (s0 : Value) (a : Nat) (w : px_H) (Q : Option Value → px_H → Prop), wp d 9 8 [some (.ref a), l1] [s0] w 0 Q ↔ wp d 9 9 [some (.ref a), l1] [.ref a, s0] w 0 Q) ∧
  (∀ (d : Nat) (l0 l1 : Option Value) (s1 : Value) (a : Nat) (w : px_H) (Q : Option Value → px_H → Prop), wp d 9 9 [l0, l1] [.ref a, s1] w 0 Q ↔ px_op (px_fld w a [(0, 0), (1, 0), (3, 0), (8, 0), (9, 0)] 0) (fun v => wp d 9 12 [l0, l1] [v, s1] w 0 Q)) ∧
  (∀ (d : Nat) (l0 l1 : Option Value) (s0 s1 : Value)  (w : px_H) (Q : Option Value → px_H → Prop), wp d 9 12 [l0, l1] [s0, s1] w 0 Q ↔ wp d 9 13 [l0, l1] [.int 1, s0, s1] w 0 Q) ∧
  (∀ (d : Nat) (l0 l1 : Option Value) (s2 : Value) (x y : Int32) (w : px_H) (Q : Option Value → px_H → Prop), wp d 9 13 [l0, l1] [.int y, .int x, s2] w 0 Q ↔ wp d 9 14 [l0, l1] [.int (x - y), s2] w 0 Q) ∧
  (∀ (d : Nat) (l0 l1 : Option Value) (x y : Int32) (w : px_H) (Q : Option Value → px_H → Prop), wp d 9 14 [l0, l1] [.int y, .int x] w 0 Q ↔ wp d 9 15 [l0, l1] [.int (x >>> (y &&& 31))] w 0 Q) ∧
  (∀ (d : Nat) (l0 l1 : Option Value) (s0 : Value)  (w : px_H) (Q : Option Value → px_H → Prop), wp d 9 15 [l0, l1] [s0] w 0 Q ↔ wp d 9 16 [l0, l1] [.int 1, s0] w 0 Q) ∧
  (∀ (d : Nat) (l0 l1 : Option Value) (x y : Int32) (w : px_H) (Q : Option Value → px_H → Prop), wp d 9 16 [l0, l1] [.int y, .int x] w 0 Q ↔ wp d 9 17 [l0, l1] [.int (x &&& y)] w 0 Q) ∧
  (∀ (d : Nat) (l0 l1 : Option Value) (s0 : Value)  (w : px_H) (Q : Option Value → px_H → Prop), wp d 9 17 [l0, l1] [s0] w 0 Q ↔ wp d 9 18 [l0, l1] [.int 1, s0] w 0 Q) ∧
  (∀ (d : Nat) (l0 l1 : Option Value) (x y : Int32) (w : px_H) (Q : Option Value → px_H → Prop), wp d 9 18 [l0, l1] [.int y, .int x] w 0 Q ↔ if x = y then wp d 9 21 [l0, l1] [] w 0 Q else wp d 9 25 [l0, l1] [] w 0 Q) ∧
  (∀ (d : Nat) (l0 l1 : Option Value)  (w : px_H) (Q : Option Value → px_H → Prop), wp d 9 21 [l0, l1] [] w 0 Q ↔ wp d 9 22 [l0, l1] [.int 1] w 0 Q) ∧
  (∀ (d : Nat) (l0 l1 : Option Value) (s0 : Value)  (w : px_H) (Q : Option Value → px_H → Prop), wp d 9 22 [l0, l1] [s0] w 0 Q ↔ wp d 9 26 [l0, l1] [s0] w 0 Q) ∧
  (∀ (d : Nat) (l0 l1 : Option Value)  (w : px_H) (Q : Option Value → px_H → Prop), wp d 9 25 [l0, l1] [] w 0 Q ↔ wp d 9 26 [l0, l1] [.int 0] w 0 Q) ∧
  (∀ (d : Nat) (l0 l1 : Option Value) (x : Int32) (w : px_H) (Q : Option Value → px_H → Prop), wp d 9 26 [l0, l1] [.int x] w 0 Q ↔ (x = 0 ∨ x = 1) ∧ Q (some (.int x)) w) := ⟨fun d v0 v1 w Q => r_entry pt_9 (Nat.le_of_ble_eq_true rfl) rfl,
  fun d l1 a w Q => px_go (q := (.aload_n 0, 1, px_x0)) (S' := (1, [some (.ref a), l1], [.ref a], w, 0)) pt_9 rfl rfl,
  fun d l0 l1 a w Q => px_goO (q := (.getfield 13, 3, (10, 0, [(0, 0), (1, 0), (3, 0), (8, 0), (9, 0)], 0, "AllSworn$Mixed"))) (S' := fun v => (4, [l0, l1], [v], w, 0)) pt_9 rfl rfl,
  fun d l0 l1 x w Q => r_if_eq pt_9 rfl rfl,
  fun d l0 x w Q => px_go (q := (.iload_n 1, 1, px_x0)) (S' := (8, [l0, some (.int x)], [.int x], w, 0)) pt_9 rfl rfl,
  fun d l1 s0 a w Q => px_go (q := (.aload_n 0, 1, px_x0)) (S' := (9, [some (.ref a), l1], [.ref a, s0], w, 0)) pt_9 rfl rfl,
  fun d l0 l1 s1 a w Q => px_goO (q := (.getfield 13, 3, (10, 0, [(0, 0), (1, 0), (3, 0), (8, 0), (9, 0)], 0, "AllSworn$Mixed"))) (S' := fun v => (12, [l0, l1], [v, s1], w, 0)) pt_9 rfl rfl,
  fun d l0 l1 s0 s1 w Q => r_iconst pt_9 rfl (by decide),
  fun d l0 l1 s2 x y w Q => px_go (q := (.isub, 1, px_x0)) (S' := (14, [l0, l1], [.int (x - y), s2], w, 0)) pt_9 rfl rfl,
  fun d l0 l1 x y w Q => px_go (q := (.ishr, 1, px_x0)) (S' := (15, [l0, l1], [.int (x >>> (y &&& 31))], w, 0)) pt_9 rfl rfl,
  fun d l0 l1 s0 w Q => r_iconst pt_9 rfl (by decide),
  fun d l0 l1 x y w Q => px_go (q := (.iand, 1, px_x0)) (S' := (17, [l0, l1], [.int (x &&& y)], w, 0)) pt_9 rfl rfl,
  fun d l0 l1 s0 w Q => r_iconst pt_9 rfl (by decide),
  fun d l0 l1 x y w Q => r_icmp_ne pt_9 rfl rfl,
  fun d l0 l1 w Q => r_iconst pt_9 rfl (by decide),
  fun d l0 l1 s0 w Q => r_goto pt_9 rfl rfl,
  fun d l0 l1 w Q => r_iconst pt_9 rfl (by decide),
  fun d l0 l1 x w Q => px_retI (q := (.ireturn, 1, px_x0)) pt_9 rfl rfl⟩
/-- AllSworn$Mixed.size(LAllSworn$Trace;LAllSworn$Realm;)I -/
theorem S10 : (∀ (d : Nat) (v0 v1 v2 : Value) (w : px_H) (Q : Option Value → px_H → Prop), wc d 10 [v0, v1, v2] w Q ↔ wp d 10 0 [some v0, some v1, some v2] [] w 0 Q) ∧
  (∀ (d : Nat) (l0 l2 : Option Value) (a : Nat) (w : px_H) (Q : Option Value → px_H → Prop), wp d 10 0 [l0, some (.ref a), l2] [] w 0 Q ↔ wp d 10 1 [l0, some (.ref a), l2] [.ref a] w 0 Q) ∧
  (∀ (d : Nat) (l0 l2 : Option Value)  (w : px_H) (Q : Option Value → px_H → Prop), wp d 10 0 [l0, some .null, l2] [] w 0 Q ↔ wp d 10 1 [l0, some .null, l2] [.null] w 0 Q) ∧
  (∀ (d : Nat) (l0 l1 l2 : Option Value) (s0 : Value)  (w : px_H) (Q : Option Value → px_H → Prop), wp d 10 1 [l0, l1, l2] [s0] w 0 Q ↔ wp d 10 3 [l0, l1, l2] [.int 12, s0] w 0 Q) ∧
  (∀ (d : Nat) (l0 l1 l2 : Option Value) (v0 : Value) (b : Nat) (w : px_H) (Q : Option Value → px_H → Prop), wp (d + 1) 10 3 [l0, l1, l2] [v0, .ref b] w 0 Q ↔ px_op (px_tgt w b [(7, 85)]) (fun v => wc d v [.ref b, v0] w (fun r w' => wp (d + 1) 10 6 [l0, l1, l2] (r.toList ++ []) w' 0 Q))) ∧
  (∀ (d : Nat) (l1 l2 : Option Value) (a : Nat) (w : px_H) (Q : Option Value → px_H → Prop), wp d 10 6 [some (.ref a), l1, l2] [] w 0 Q ↔ wp d 10 7 [some (.ref a), l1, l2] [.ref a] w 0 Q) ∧
  (∀ (d : Nat) (l0 l2 : Option Value) (s0 : Value) (a : Nat) (w : px_H) (Q : Option Value → px_H → Prop), wp d 10 7 [l0, some (.ref a), l2] [s0] w 0 Q ↔ wp d 10 8 [l0, some (.ref a), l2] [.ref a, s0] w 0 Q) ∧
  (∀ (d : Nat) (l0 l2 : Option Value) (s0 : Value)  (w : px_H) (Q : Option Value → px_H → Prop), wp d 10 7 [l0, some .null, l2] [s0] w 0 Q ↔ wp d 10 8 [l0, some .null, l2] [.null, s0] w 0 Q) ∧
  (∀ (d : Nat) (l0 l1 : Option Value) (s0 s1 : Value) (a : Nat) (w : px_H) (Q : Option Value → px_H → Prop), wp d 10 8 [l0, l1, some (.ref a)] [s0, s1] w 0 Q ↔ wp d 10 9 [l0, l1, some (.ref a)] [.ref a, s0, s1] w 0 Q) ∧
  (∀ (d : Nat) (l0 l1 : Option Value) (s0 s1 : Value)  (w : px_H) (Q : Option Value → px_H → Prop), wp d 10 8 [l0, l1, some .null] [s0, s1] w 0 Q ↔ wp d 10 9 [l0, l1, some .null] [.null, s0, s1] w 0 Q) ∧
  (∀ (d : Nat) (l0 l1 l2 : Option Value) (v0 v1 : Value) (b : Nat) (w : px_H) (Q : Option Value → px_H → Prop), wp (d + 1) 10 9 [l0, l1, l2] [v1, v0, .ref b] w 0 Q ↔ px_op (px_cls w b) (fun _ => wc d 28 [.ref b, v0, v1] w (fun r w' => wp (d + 1) 10 12 [l0, l1, l2] (r.toList ++ []) w' 0 Q))) ∧
  (∀ (d : Nat) (l0 l1 l2 : Option Value) (x : Int32) (w : px_H) (Q : Option Value → px_H → Prop), wp d 10 12 [l0, l1, l2] [.int x] w 0 Q ↔ wp d 10 13 [l0, l1, l2] [.int (-x)] w 0 Q) ∧
  (∀ (d : Nat) (l0 l1 l2 : Option Value) (x : Int32) (w : px_H) (Q : Option Value → px_H → Prop), wp d 10 13 [l0, l1, l2] [.int x] w 0 Q ↔ Q (some (.int x)) w) := ⟨fun d v0 v1 v2 w Q => r_entry pt_10 (Nat.le_of_ble_eq_true rfl) rfl,
  fun d l0 l2 a w Q => px_go (q := (.aload_n 1, 1, px_x0)) (S' := (1, [l0, some (.ref a), l2], [.ref a], w, 0)) pt_10 rfl rfl,
  fun d l0 l2 w Q => px_go (q := (.aload_n 1, 1, px_x0)) (S' := (1, [l0, some .null, l2], [.null], w, 0)) pt_10 rfl rfl,
  fun d l0 l1 l2 s0 w Q => r_bipush pt_10 rfl (by decide),
  fun d l0 l1 l2 v0 b w Q => r_callV (q := (.invokevirtual 19, 3, (33, 1, [(7, 85)], 0, ""))) pt_10 rfl rfl (List.forall_mem_cons.mpr ⟨⟨_, pt_85, Nat.le_of_ble_eq_true rfl, (Nat.le_of_ble_eq_true rfl), rfl⟩, fun _ h => absurd h List.not_mem_nil⟩),
  fun d l1 l2 a w Q => px_go (q := (.aload_n 0, 1, px_x0)) (S' := (7, [some (.ref a), l1, l2], [.ref a], w, 0)) pt_10 rfl rfl,
  fun d l0 l2 s0 a w Q => px_go (q := (.aload_n 1, 1, px_x0)) (S' := (8, [l0, some (.ref a), l2], [.ref a, s0], w, 0)) pt_10 rfl rfl,
  fun d l0 l2 s0 w Q => px_go (q := (.aload_n 1, 1, px_x0)) (S' := (8, [l0, some .null, l2], [.null, s0], w, 0)) pt_10 rfl rfl,
  fun d l0 l1 s0 s1 a w Q => px_go (q := (.aload_n 2, 1, px_x0)) (S' := (9, [l0, l1, some (.ref a)], [.ref a, s0, s1], w, 0)) pt_10 rfl rfl,
  fun d l0 l1 s0 s1 w Q => px_go (q := (.aload_n 2, 1, px_x0)) (S' := (9, [l0, l1, some .null], [.null, s0, s1], w, 0)) pt_10 rfl rfl,
  fun d l0 l1 l2 v0 v1 b w Q => r_callO (q := (.invokespecial 25, 3, (35, 2, [(0, 28)], 0, ""))) (G := fun _ => m_X3_size) pt_10 rfl rfl (fun _ _ => ⟨pt_28, Nat.le_of_ble_eq_true rfl, (Nat.le_of_ble_eq_true rfl), rfl⟩),
  fun d l0 l1 l2 x w Q => px_go (q := (.ineg, 1, px_x0)) (S' := (13, [l0, l1, l2], [.int (-x)], w, 0)) pt_10 rfl rfl,
  fun d l0 l1 l2 x w Q => px_ret (q := (.ireturn, 1, px_x0)) pt_10 rfl rfl⟩
/-- AllSworn$Mixed.mark(LAllSworn$Trace;LAllSworn$Realm;)I -/
theorem S11 : (∀ (d : Nat) (v0 v1 v2 : Value) (w : px_H) (Q : Option Value → px_H → Prop), wc d 11 [v0, v1, v2] w Q ↔ wp d 11 0 [some v0, some v1, some v2] [] w 0 Q) ∧
  (∀ (d : Nat) (l0 l2 : Option Value) (a : Nat) (w : px_H) (Q : Option Value → px_H → Prop), wp d 11 0 [l0, some (.ref a), l2] [] w 0 Q ↔ wp d 11 1 [l0, some (.ref a), l2] [.ref a] w 0 Q) ∧
  (∀ (d : Nat) (l0 l2 : Option Value)  (w : px_H) (Q : Option Value → px_H → Prop), wp d 11 0 [l0, some .null, l2] [] w 0 Q ↔ wp d 11 1 [l0, some .null, l2] [.null] w 0 Q) ∧
  (∀ (d : Nat) (l0 l1 l2 : Option Value) (s0 : Value)  (w : px_H) (Q : Option Value → px_H → Prop), wp d 11 1 [l0, l1, l2] [s0] w 0 Q ↔ wp d 11 3 [l0, l1, l2] [.int 24, s0] w 0 Q) ∧
  (∀ (d : Nat) (l0 l1 l2 : Option Value) (v0 : Value) (b : Nat) (w : px_H) (Q : Option Value → px_H → Prop), wp (d + 1) 11 3 [l0, l1, l2] [v0, .ref b] w 0 Q ↔ px_op (px_tgt w b [(7, 85)]) (fun v => wc d v [.ref b, v0] w (fun r w' => wp (d + 1) 11 6 [l0, l1, l2] (r.toList ++ []) w' 0 Q))) ∧
  (∀ (d : Nat) (l0 l1 l2 : Option Value)  (w : px_H) (Q : Option Value → px_H → Prop), wp d 11 6 [l0, l1, l2] [] w 0 Q ↔ wp d 11 7 [l0, l1, l2] [.int 2] w 0 Q) ∧
  (∀ (d : Nat) (l1 l2 : Option Value) (s0 : Value) (a : Nat) (w : px_H) (Q : Option Value → px_H → Prop), wp d 11 7 [some (.ref a), l1, l2] [s0] w 0 Q ↔ wp d 11 8 [some (.ref a), l1, l2] [.ref a, s0] w 0 Q) ∧
  (∀ (d : Nat) (l0 l2 : Option Value) (s0 s1 : Value) (a : Nat) (w : px_H) (Q : Option Value → px_H → Prop), wp d 11 8 [l0, some (.ref a), l2] [s0, s1] w 0 Q ↔ wp d 11 9 [l0, some (.ref a), l2] [.ref a, s0, s1] w 0 Q) ∧
  (∀ (d : Nat) (l0 l2 : Option Value) (s0 s1 : Value)  (w : px_H) (Q : Option Value → px_H → Prop), wp d 11 8 [l0, some .null, l2] [s0, s1] w 0 Q ↔ wp d 11 9 [l0, some .null, l2] [.null, s0, s1] w 0 Q) ∧
  (∀ (d : Nat) (l0 l1 : Option Value) (s0 s1 s2 : Value) (a : Nat) (w : px_H) (Q : Option Value → px_H → Prop), wp d 11 9 [l0, l1, some (.ref a)] [s0, s1, s2] w 0 Q ↔ wp d 11 10 [l0, l1, some (.ref a)] [.ref a, s0, s1, s2] w 0 Q) ∧
  (∀ (d : Nat) (l0 l1 : Option Value) (s0 s1 s2 : Value)  (w : px_H) (Q : Option Value → px_H → Prop), wp d 11 9 [l0, l1, some .null] [s0, s1, s2] w 0 Q ↔ wp d 11 10 [l0, l1, some .null] [.null, s0, s1, s2] w 0 Q) ∧
  (∀ (d : Nat) (l0 l1 l2 : Option Value) (s3 : Value) (v0 v1 : Value) (b : Nat) (w : px_H) (Q : Option Value → px_H → Prop), wp (d + 1) 11 10 [l0, l1, l2] [v1, v0, .ref b, s3] w 0 Q ↔ px_op (px_cls w b) (fun _ => wc d 29 [.ref b, v0, v1] w (fun r w' => wp (d + 1) 11 13 [l0, l1, l2] (r.toList ++ [s3]) w' 0 Q))) ∧
  (∀ (d : Nat) (l0 l1 l2 : Option Value) (x y : Int32) (w : px_H) (Q : Option Value → px_H → Prop), wp d 11 13 [l0, l1, l2] [.int y, .int x] w 0 Q ↔ wp d 11 14 [l0, l1, l2] [.int (x * y)] w 0 Q) ∧
  (∀ (d : Nat) (l0 l1 l2 : Option Value) (x : Int32) (w : px_H) (Q : Option Value → px_H → Prop), wp d 11 14 [l0, l1, l2] [.int x] w 0 Q ↔ Q (some (.int x)) w) := ⟨fun d v0 v1 v2 w Q => r_entry pt_11 (Nat.le_of_ble_eq_true rfl) rfl,
  fun d l0 l2 a w Q => px_go (q := (.aload_n 1, 1, px_x0)) (S' := (1, [l0, some (.ref a), l2], [.ref a], w, 0)) pt_11 rfl rfl,
  fun d l0 l2 w Q => px_go (q := (.aload_n 1, 1, px_x0)) (S' := (1, [l0, some .null, l2], [.null], w, 0)) pt_11 rfl rfl,
  fun d l0 l1 l2 s0 w Q => r_bipush pt_11 rfl (by decide),
  fun d l0 l1 l2 v0 b w Q => r_callV (q := (.invokevirtual 19, 3, (33, 1, [(7, 85)], 0, ""))) pt_11 rfl rfl (List.forall_mem_cons.mpr ⟨⟨_, pt_85, Nat.le_of_ble_eq_true rfl, (Nat.le_of_ble_eq_true rfl), rfl⟩, fun _ h => absurd h List.not_mem_nil⟩),
  fun d l0 l1 l2 w Q => r_iconst pt_11 rfl (by decide),
  fun d l1 l2 s0 a w Q => px_go (q := (.aload_n 0, 1, px_x0)) (S' := (8, [some (.ref a), l1, l2], [.ref a, s0], w, 0)) pt_11 rfl rfl,
  fun d l0 l2 s0 s1 a w Q => px_go (q := (.aload_n 1, 1, px_x0)) (S' := (9, [l0, some (.ref a), l2], [.ref a, s0, s1], w, 0)) pt_11 rfl rfl,
  fun d l0 l2 s0 s1 w Q => px_go (q := (.aload_n 1, 1, px_x0)) (S' := (9, [l0, some .null, l2], [.null, s0, s1], w, 0)) pt_11 rfl rfl,
  fun d l0 l1 s0 s1 s2 a w Q => px_go (q := (.aload_n 2, 1, px_x0)) (S' := (10, [l0, l1, some (.ref a)], [.ref a, s0, s1, s2], w, 0)) pt_11 rfl rfl,
  fun d l0 l1 s0 s1 s2 w Q => px_go (q := (.aload_n 2, 1, px_x0)) (S' := (10, [l0, l1, some .null], [.null, s0, s1, s2], w, 0)) pt_11 rfl rfl,
  fun d l0 l1 l2 s3 v0 v1 b w Q => r_callO (q := (.invokespecial 29, 3, (35, 2, [(0, 29)], 0, ""))) (G := fun _ => m_X3_mark) pt_11 rfl rfl (fun _ _ => ⟨pt_29, Nat.le_of_ble_eq_true rfl, (Nat.le_of_ble_eq_true rfl), rfl⟩),
  fun d l0 l1 l2 x y w Q => px_go (q := (.imul, 1, px_x0)) (S' := (14, [l0, l1, l2], [.int (x * y)], w, 0)) pt_11 rfl rfl,
  fun d l0 l1 l2 x w Q => px_ret (q := (.ireturn, 1, px_x0)) pt_11 rfl rfl⟩
/-- AllSworn$Plain.<init>(III)V -/
theorem S25 : (∀ (d : Nat) (v0 v1 v2 v3 : Value) (w : px_H) (Q : Option Value → px_H → Prop), wc d 25 [v0, v1, v2, v3] w Q ↔ wp d 25 0 [some v0, some v1, some v2, some v3] [] w 0 Q) ∧
  (∀ (d : Nat) (l1 l2 l3 : Option Value) (a : Nat) (w : px_H) (Q : Option Value → px_H → Prop), wp d 25 0 [some (.ref a), l1, l2, l3] [] w 0 Q ↔ wp d 25 1 [some (.ref a), l1, l2, l3] [.ref a] w 0 Q) ∧
  (∀ (d : Nat) (l0 l2 l3 : Option Value) (s0 : Value) (x : Int32) (w : px_H) (Q : Option Value → px_H → Prop), wp d 25 1 [l0, some (.int x), l2, l3] [s0] w 0 Q ↔ wp d 25 2 [l0, some (.int x), l2, l3] [.int x, s0] w 0 Q) ∧
  (∀ (d : Nat) (l0 l1 l3 : Option Value) (s0 s1 : Value) (x : Int32) (w : px_H) (Q : Option Value → px_H → Prop), wp d 25 2 [l0, l1, some (.int x), l3] [s0, s1] w 0 Q ↔ wp d 25 3 [l0, l1, some (.int x), l3] [.int x, s0, s1] w 0 Q) ∧
  (∀ (d : Nat) (l0 l1 l2 : Option Value) (s0 s1 s2 : Value) (x : Int32) (w : px_H) (Q : Option Value → px_H → Prop), wp d 25 3 [l0, l1, l2, some (.int x)] [s0, s1, s2] w 0 Q ↔ wp d 25 4 [l0, l1, l2, some (.int x)] [.int x, s0, s1, s2] w 0 Q) ∧
  (∀ (d : Nat) (l0 l1 l2 l3 : Option Value) (v0 v1 v2 : Value) (b : Nat) (w : px_H) (Q : Option Value → px_H → Prop), wp (d + 1) 25 4 [l0, l1, l2, l3] [v2, v1, v0, .ref b] w 0 Q ↔ wc d 76 [.ref b, v0, v1, v2] w (fun r w' => wp (d + 1) 25 7 [l0, l1, l2, l3] (r.toList ++ []) w' 0 Q)) ∧
  (∀ (d : Nat) (l0 l1 l2 l3 : Option Value)  (w : px_H) (Q : Option Value → px_H → Prop), wp d 25 7 [l0, l1, l2, l3] [] w 0 Q ↔ Q none w) := ⟨fun d v0 v1 v2 v3 w Q => r_entry pt_25 (Nat.le_of_ble_eq_true rfl) rfl,
  fun d l1 l2 l3 a w Q => px_go (q := (.aload_n 0, 1, px_x0)) (S' := (1, [some (.ref a), l1, l2, l3], [.ref a], w, 0)) pt_25 rfl rfl,
  fun d l0 l2 l3 s0 x w Q => px_go (q := (.iload_n 1, 1, px_x0)) (S' := (2, [l0, some (.int x), l2, l3], [.int x, s0], w, 0)) pt_25 rfl rfl,
  fun d l0 l1 l3 s0 s1 x w Q => px_go (q := (.iload_n 2, 1, px_x0)) (S' := (3, [l0, l1, some (.int x), l3], [.int x, s0, s1], w, 0)) pt_25 rfl rfl,
  fun d l0 l1 l2 s0 s1 s2 x w Q => px_go (q := (.iload_n 3, 1, px_x0)) (S' := (4, [l0, l1, l2, some (.int x)], [.int x, s0, s1, s2], w, 0)) pt_25 rfl rfl,
  fun d l0 l1 l2 l3 v0 v1 v2 b w Q => r_call (q := (.invokespecial 3, 3, (31, 3, [(0, 76)], 0, ""))) pt_25 rfl rfl pt_76 (Nat.le_of_ble_eq_true rfl) (Nat.le_of_ble_eq_true rfl) rfl,
  fun d l0 l1 l2 l3 w Q => px_ret (q := (.return_, 1, px_x0)) pt_25 rfl rfl⟩
/-- AllSworn$Plain.toldKind()I -/
theorem S26 : (∀ (d : Nat) (v0 : Value) (w : px_H) (Q : Option Value → px_H → Prop), wc d 26 [v0] w Q ↔ wp d 26 0 [some v0] [] w 0 Q) ∧
  (∀ (d : Nat) (l0 : Option Value)  (w : px_H) (Q : Option Value → px_H → Prop), wp d 26 0 [l0] [] w 0 Q ↔ wp d 26 1 [l0] [.int 1] w 0 Q) ∧
  (∀ (d : Nat) (l0 : Option Value) (x : Int32) (w : px_H) (Q : Option Value → px_H → Prop), wp d 26 1 [l0] [.int x] w 0 Q ↔ Q (some (.int x)) w) := ⟨fun d v0 w Q => r_entry pt_26 (Nat.le_of_ble_eq_true rfl) rfl,
  fun d l0 w Q => r_iconst pt_26 rfl (by decide),
  fun d l0 x w Q => px_ret (q := (.ireturn, 1, px_x0)) pt_26 rfl rfl⟩
/-- AllSworn$Plain.isOf(I)Z -/
theorem S27 : (∀ (d : Nat) (v0 v1 : Value) (w : px_H) (Q : Option Value → px_H → Prop), wc d 27 [v0, v1] w Q ↔ wp d 27 0 [some v0, some v1] [] w 0 Q) ∧
  (∀ (d : Nat) (l0 : Option Value) (x : Int32) (w : px_H) (Q : Option Value → px_H → Prop), wp d 27 0 [l0, some (.int x)] [] w 0 Q ↔ wp d 27 1 [l0, some (.int x)] [.int x] w 0 Q) ∧
  (∀ (d : Nat) (l0 l1 : Option Value) (s0 : Value)  (w : px_H) (Q : Option Value → px_H → Prop), wp d 27 1 [l0, l1] [s0] w 0 Q ↔ wp d 27 2 [l0, l1] [.int 1, s0] w 0 Q) ∧
  (∀ (d : Nat) (l0 l1 : Option Value) (x y : Int32) (w : px_H) (Q : Option Value → px_H → Prop), wp d 27 2 [l0, l1] [.int y, .int x] w 0 Q ↔ if x = y then wp d 27 13 [l0, l1] [] w 0 Q else wp d 27 5 [l0, l1] [] w 0 Q) ∧
  (∀ (d : Nat) (l1 : Option Value) (a : Nat) (w : px_H) (Q : Option Value → px_H → Prop), wp d 27 5 [some (.ref a), l1] [] w 0 Q ↔ wp d 27 6 [some (.ref a), l1] [.ref a] w 0 Q) ∧
  (∀ (d : Nat) (l0 : Option Value) (s0 : Value) (x : Int32) (w : px_H) (Q : Option Value → px_H → Prop), wp d 27 6 [l0, some (.int x)] [s0] w 0 Q ↔ wp d 27 7 [l0, some (.int x)] [.int x, s0] w 0 Q) ∧
  (∀ (d : Nat) (l0 l1 : Option Value) (v0 : Value) (b : Nat) (w : px_H) (Q : Option Value → px_H → Prop), wp (d + 1) 27 7 [l0, l1] [v0, .ref b] w 0 Q ↔ px_op (px_cls w b) (fun _ => wc d 77 [.ref b, v0] w (fun r w' => wp (d + 1) 27 10 [l0, l1] (r.toList ++ []) w' 0 Q))) ∧
  (∀ (d : Nat) (l0 l1 : Option Value) (x : Int32) (w : px_H) (Q : Option Value → px_H → Prop), wp d 27 10 [l0, l1] [.int x] w 0 Q ↔ if x = 0 then wp d 27 17 [l0, l1] [] w 0 Q else wp d 27 13 [l0, l1] [] w 0 Q) ∧
  (∀ (d : Nat) (l0 l1 : Option Value)  (w : px_H) (Q : Option Value → px_H → Prop), wp d 27 13 [l0, l1] [] w 0 Q ↔ wp d 27 14 [l0, l1] [.int 1] w 0 Q) ∧
  (∀ (d : Nat) (l0 l1 : Option Value) (s0 : Value)  (w : px_H) (Q : Option Value → px_H → Prop), wp d 27 14 [l0, l1] [s0] w 0 Q ↔ wp d 27 18 [l0, l1] [s0] w 0 Q) ∧
  (∀ (d : Nat) (l0 l1 : Option Value)  (w : px_H) (Q : Option Value → px_H → Prop), wp d 27 17 [l0, l1] [] w 0 Q ↔ wp d 27 18 [l0, l1] [.int 0] w 0 Q) ∧
  (∀ (d : Nat) (l0 l1 : Option Value) (x : Int32) (w : px_H) (Q : Option Value → px_H → Prop), wp d 27 18 [l0, l1] [.int x] w 0 Q ↔ (x = 0 ∨ x = 1) ∧ Q (some (.int x)) w) := ⟨fun d v0 v1 w Q => r_entry pt_27 (Nat.le_of_ble_eq_true rfl) rfl,
  fun d l0 x w Q => px_go (q := (.iload_n 1, 1, px_x0)) (S' := (1, [l0, some (.int x)], [.int x], w, 0)) pt_27 rfl rfl,
  fun d l0 l1 s0 w Q => r_iconst pt_27 rfl (by decide),
  fun d l0 l1 x y w Q => r_icmp_eq pt_27 rfl rfl,
  fun d l1 a w Q => px_go (q := (.aload_n 0, 1, px_x0)) (S' := (6, [some (.ref a), l1], [.ref a], w, 0)) pt_27 rfl rfl,
  fun d l0 s0 x w Q => px_go (q := (.iload_n 1, 1, px_x0)) (S' := (7, [l0, some (.int x)], [.int x, s0], w, 0)) pt_27 rfl rfl,
  fun d l0 l1 v0 b w Q => r_callO (q := (.invokespecial 9, 3, (35, 1, [(0, 77)], 0, ""))) (G := fun _ => m_X7_isOf) pt_27 rfl rfl (fun _ _ => ⟨pt_77, Nat.le_of_ble_eq_true rfl, (Nat.le_of_ble_eq_true rfl), rfl⟩),
  fun d l0 l1 x w Q => r_if_eq pt_27 rfl rfl,
  fun d l0 l1 w Q => r_iconst pt_27 rfl (by decide),
  fun d l0 l1 s0 w Q => r_goto pt_27 rfl rfl,
  fun d l0 l1 w Q => r_iconst pt_27 rfl (by decide),
  fun d l0 l1 x w Q => px_retI (q := (.ireturn, 1, px_x0)) pt_27 rfl rfl⟩
/-- AllSworn$Plain.size(LAllSworn$Trace;LAllSworn$Realm;)I -/
theorem S28 : (∀ (d : Nat) (v0 v1 v2 : Value) (w : px_H) (Q : Option Value → px_H → Prop), wc d 28 [v0, v1, v2] w Q ↔ wp d 28 0 [some v0, some v1, some v2] [] w 0 Q) ∧
  (∀ (d : Nat) (l0 l2 : Option Value) (a : Nat) (w : px_H) (Q : Option Value → px_H → Prop), wp d 28 0 [l0, some (.ref a), l2] [] w 0 Q ↔ wp d 28 1 [l0, some (.ref a), l2] [.ref a] w 0 Q) ∧
  (∀ (d : Nat) (l0 l2 : Option Value)  (w : px_H) (Q : Option Value → px_H → Prop), wp d 28 0 [l0, some .null, l2] [] w 0 Q ↔ wp d 28 1 [l0, some .null, l2] [.null] w 0 Q) ∧
  (∀ (d : Nat) (l0 l1 l2 : Option Value) (s0 : Value)  (w : px_H) (Q : Option Value → px_H → Prop), wp d 28 1 [l0, l1, l2] [s0] w 0 Q ↔ wp d 28 3 [l0, l1, l2] [.int 11, s0] w 0 Q) ∧
  (∀ (d : Nat) (l0 l1 l2 : Option Value) (v0 : Value) (b : Nat) (w : px_H) (Q : Option Value → px_H → Prop), wp (d + 1) 28 3 [l0, l1, l2] [v0, .ref b] w 0 Q ↔ px_op (px_tgt w b [(7, 85)]) (fun v => wc d v [.ref b, v0] w (fun r w' => wp (d + 1) 28 6 [l0, l1, l2] (r.toList ++ []) w' 0 Q))) ∧
  (∀ (d : Nat) (l1 l2 : Option Value) (a : Nat) (w : px_H) (Q : Option Value → px_H → Prop), wp d 28 6 [some (.ref a), l1, l2] [] w 0 Q ↔ wp d 28 7 [some (.ref a), l1, l2] [.ref a] w 0 Q) ∧
  (∀ (d : Nat) (l0 l2 : Option Value) (s0 : Value) (a : Nat) (w : px_H) (Q : Option Value → px_H → Prop), wp d 28 7 [l0, some (.ref a), l2] [s0] w 0 Q ↔ wp d 28 8 [l0, some (.ref a), l2] [.ref a, s0] w 0 Q) ∧
  (∀ (d : Nat) (l0 l2 : Option Value) (s0 : Value)  (w : px_H) (Q : Option Value → px_H → Prop), wp d 28 7 [l0, some .null, l2] [s0] w 0 Q ↔ wp d 28 8 [l0, some .null, l2] [.null, s0] w 0 Q) ∧
  (∀ (d : Nat) (l0 l1 : Option Value) (s0 s1 : Value) (a : Nat) (w : px_H) (Q : Option Value → px_H → Prop), wp d 28 8 [l0, l1, some (.ref a)] [s0, s1] w 0 Q ↔ wp d 28 9 [l0, l1, some (.ref a)] [.ref a, s0, s1] w 0 Q) ∧
  (∀ (d : Nat) (l0 l1 : Option Value) (s0 s1 : Value)  (w : px_H) (Q : Option Value → px_H → Prop), wp d 28 8 [l0, l1, some .null] [s0, s1] w 0 Q ↔ wp d 28 9 [l0, l1, some .null] [.null, s0, s1] w 0 Q) ∧
  (∀ (d : Nat) (l0 l1 l2 : Option Value) (v0 v1 : Value) (b : Nat) (w : px_H) (Q : Option Value → px_H → Prop), wp (d + 1) 28 9 [l0, l1, l2] [v1, v0, .ref b] w 0 Q ↔ px_op (px_cls w b) (fun _ => wc d 81 [.ref b, v0, v1] w (fun r w' => wp (d + 1) 28 12 [l0, l1, l2] (r.toList ++ []) w' 0 Q))) ∧
  (∀ (d : Nat) (l1 l2 : Option Value) (s0 : Value) (a : Nat) (w : px_H) (Q : Option Value → px_H → Prop), wp d 28 12 [some (.ref a), l1, l2] [s0] w 0 Q ↔ wp d 28 13 [some (.ref a), l1, l2] [.ref a, s0] w 0 Q) ∧
  (∀ (d : Nat) (l0 l2 : Option Value) (s0 s1 : Value) (a : Nat) (w : px_H) (Q : Option Value → px_H → Prop), wp d 28 13 [l0, some (.ref a), l2] [s0, s1] w 0 Q ↔ wp d 28 14 [l0, some (.ref a), l2] [.ref a, s0, s1] w 0 Q) ∧
  (∀ (d : Nat) (l0 l2 : Option Value) (s0 s1 : Value)  (w : px_H) (Q : Option Value → px_H → Prop), wp d 28 13 [l0, some .null, l2] [s0, s1] w 0 Q ↔ wp d 28 14 [l0, some .null, l2] [.null, s0, s1] w 0 Q) ∧
  (∀ (d : Nat) (l0 l1 : Option Value) (s0 s1 s2 : Value) (a : Nat) (w : px_H) (Q : Option Value → px_H → Prop), wp d 28 14 [l0, l1, some (.ref a)] [s0, s1, s2] w 0 Q ↔ wp d 28 15 [l0, l1, some (.ref a)] [.ref a, s0, s1, s2] w 0 Q) ∧
  (∀ (d : Nat) (l0 l1 : Option Value) (s0 s1 s2 : Value)  (w : px_H) (Q : Option Value → px_H → Prop), wp d 28 14 [l0, l1, some .null] [s0, s1, s2] w 0 Q ↔ wp d 28 15 [l0, l1, some .null] [.null, s0, s1, s2] w 0 Q) ∧
  (∀ (d : Nat) (l0 l1 l2 : Option Value) (s3 : Value) (v0 v1 : Value) (b : Nat) (w : px_H) (Q : Option Value → px_H → Prop), wp (d + 1) 28 15 [l0, l1, l2] [v1, v0, .ref b, s3] w 0 Q ↔ px_op (px_tgt w b [(1, 11), (3, 29), (9, 96)]) (fun v => wc d v [.ref b, v0, v1] w (fun r w' => wp (d + 1) 28 18 [l0, l1, l2] (r.toList ++ [s3]) w' 0 Q))) ∧
  (∀ (d : Nat) (l0 l1 l2 : Option Value) (x y : Int32) (w : px_H) (Q : Option Value → px_H → Prop), wp d 28 18 [l0, l1, l2] [.int y, .int x] w 0 Q ↔ wp d 28 19 [l0, l1, l2] [.int (x + y)] w 0 Q) ∧
  (∀ (d : Nat) (l0 l1 l2 : Option Value) (x : Int32) (w : px_H) (Q : Option Value → px_H → Prop), wp d 28 19 [l0, l1, l2] [.int x] w 0 Q ↔ Q (some (.int x)) w) := ⟨fun d v0 v1 v2 w Q => r_entry pt_28 (Nat.le_of_ble_eq_true rfl) rfl,
  fun d l0 l2 a w Q => px_go (q := (.aload_n 1, 1, px_x0)) (S' := (1, [l0, some (.ref a), l2], [.ref a], w, 0)) pt_28 rfl rfl,
  fun d l0 l2 w Q => px_go (q := (.aload_n 1, 1, px_x0)) (S' := (1, [l0, some .null, l2], [.null], w, 0)) pt_28 rfl rfl,
  fun d l0 l1 l2 s0 w Q => r_bipush pt_28 rfl (by decide),
  fun d l0 l1 l2 v0 b w Q => r_callV (q := (.invokevirtual 13, 3, (33, 1, [(7, 85)], 0, ""))) pt_28 rfl rfl (List.forall_mem_cons.mpr ⟨⟨_, pt_85, Nat.le_of_ble_eq_true rfl, (Nat.le_of_ble_eq_true rfl), rfl⟩, fun _ h => absurd h List.not_mem_nil⟩),
  fun d l1 l2 a w Q => px_go (q := (.aload_n 0, 1, px_x0)) (S' := (7, [some (.ref a), l1, l2], [.ref a], w, 0)) pt_28 rfl rfl,
  fun d l0 l2 s0 a w Q => px_go (q := (.aload_n 1, 1, px_x0)) (S' := (8, [l0, some (.ref a), l2], [.ref a, s0], w, 0)) pt_28 rfl rfl,
  fun d l0 l2 s0 w Q => px_go (q := (.aload_n 1, 1, px_x0)) (S' := (8, [l0, some .null, l2], [.null, s0], w, 0)) pt_28 rfl rfl,
  fun d l0 l1 s0 s1 a w Q => px_go (q := (.aload_n 2, 1, px_x0)) (S' := (9, [l0, l1, some (.ref a)], [.ref a, s0, s1], w, 0)) pt_28 rfl rfl,
  fun d l0 l1 s0 s1 w Q => px_go (q := (.aload_n 2, 1, px_x0)) (S' := (9, [l0, l1, some .null], [.null, s0, s1], w, 0)) pt_28 rfl rfl,
  fun d l0 l1 l2 v0 v1 b w Q => r_callO (q := (.invokespecial 19, 3, (35, 2, [(0, 81)], 0, ""))) (G := fun _ => m_X7_size) pt_28 rfl rfl (fun _ _ => ⟨pt_81, Nat.le_of_ble_eq_true rfl, (Nat.le_of_ble_eq_true rfl), rfl⟩),
  fun d l1 l2 s0 a w Q => px_go (q := (.aload_n 0, 1, px_x0)) (S' := (13, [some (.ref a), l1, l2], [.ref a, s0], w, 0)) pt_28 rfl rfl,
  fun d l0 l2 s0 s1 a w Q => px_go (q := (.aload_n 1, 1, px_x0)) (S' := (14, [l0, some (.ref a), l2], [.ref a, s0, s1], w, 0)) pt_28 rfl rfl,
  fun d l0 l2 s0 s1 w Q => px_go (q := (.aload_n 1, 1, px_x0)) (S' := (14, [l0, some .null, l2], [.null, s0, s1], w, 0)) pt_28 rfl rfl,
  fun d l0 l1 s0 s1 s2 a w Q => px_go (q := (.aload_n 2, 1, px_x0)) (S' := (15, [l0, l1, some (.ref a)], [.ref a, s0, s1, s2], w, 0)) pt_28 rfl rfl,
  fun d l0 l1 s0 s1 s2 w Q => px_go (q := (.aload_n 2, 1, px_x0)) (S' := (15, [l0, l1, some .null], [.null, s0, s1, s2], w, 0)) pt_28 rfl rfl,
  fun d l0 l1 l2 s3 v0 v1 b w Q => r_callV (q := (.invokevirtual 23, 3, (34, 2, [(1, 11), (3, 29), (9, 96)], 0, "AllSworn$Plain"))) pt_28 rfl rfl (List.forall_mem_cons.mpr ⟨⟨_, pt_11, Nat.le_of_ble_eq_true rfl, (Nat.le_of_ble_eq_true rfl), rfl⟩, List.forall_mem_cons.mpr ⟨⟨_, pt_29, Nat.le_of_ble_eq_true rfl, (Nat.le_of_ble_eq_true rfl), rfl⟩, List.forall_mem_cons.mpr ⟨⟨_, pt_96, Nat.le_of_ble_eq_true rfl, (Nat.le_of_ble_eq_true rfl), rfl⟩, fun _ h => absurd h List.not_mem_nil⟩⟩⟩),
  fun d l0 l1 l2 x y w Q => px_go (q := (.iadd, 1, px_x0)) (S' := (19, [l0, l1, l2], [.int (x + y)], w, 0)) pt_28 rfl rfl,
  fun d l0 l1 l2 x w Q => px_ret (q := (.ireturn, 1, px_x0)) pt_28 rfl rfl⟩
/-- AllSworn$Plain.mark(LAllSworn$Trace;LAllSworn$Realm;)I -/
theorem S29 : (∀ (d : Nat) (v0 v1 v2 : Value) (w : px_H) (Q : Option Value → px_H → Prop), wc d 29 [v0, v1, v2] w Q ↔ wp d 29 0 [some v0, some v1, some v2] [] w 0 Q) ∧
  (∀ (d : Nat) (l0 l2 : Option Value) (a : Nat) (w : px_H) (Q : Option Value → px_H → Prop), wp d 29 0 [l0, some (.ref a), l2] [] w 0 Q ↔ wp d 29 1 [l0, some (.ref a), l2] [.ref a] w 0 Q) ∧
  (∀ (d : Nat) (l0 l2 : Option Value)  (w : px_H) (Q : Option Value → px_H → Prop), wp d 29 0 [l0, some .null, l2] [] w 0 Q ↔ wp d 29 1 [l0, some .null, l2] [.null] w 0 Q) ∧
  (∀ (d : Nat) (l0 l1 l2 : Option Value) (s0 : Value)  (w : px_H) (Q : Option Value → px_H → Prop), wp d 29 1 [l0, l1, l2] [s0] w 0 Q ↔ wp d 29 3 [l0, l1, l2] [.int 21, s0] w 0 Q) ∧
  (∀ (d : Nat) (l0 l1 l2 : Option Value) (v0 : Value) (b : Nat) (w : px_H) (Q : Option Value → px_H → Prop), wp (d + 1) 29 3 [l0, l1, l2] [v0, .ref b] w 0 Q ↔ px_op (px_tgt w b [(7, 85)]) (fun v => wc d v [.ref b, v0] w (fun r w' => wp (d + 1) 29 6 [l0, l1, l2] (r.toList ++ []) w' 0 Q))) ∧
  (∀ (d : Nat) (l1 l2 : Option Value) (a : Nat) (w : px_H) (Q : Option Value → px_H → Prop), wp d 29 6 [some (.ref a), l1, l2] [] w 0 Q ↔ wp d 29 7 [some (.ref a), l1, l2] [.ref a] w 0 Q) ∧
  (∀ (d : Nat) (l0 l2 : Option Value) (s0 : Value) (a : Nat) (w : px_H) (Q : Option Value → px_H → Prop), wp d 29 7 [l0, some (.ref a), l2] [s0] w 0 Q ↔ wp d 29 8 [l0, some (.ref a), l2] [.ref a, s0] w 0 Q) ∧
  (∀ (d : Nat) (l0 l2 : Option Value) (s0 : Value)  (w : px_H) (Q : Option Value → px_H → Prop), wp d 29 7 [l0, some .null, l2] [s0] w 0 Q ↔ wp d 29 8 [l0, some .null, l2] [.null, s0] w 0 Q) ∧
  (∀ (d : Nat) (l0 l1 : Option Value) (s0 s1 : Value) (a : Nat) (w : px_H) (Q : Option Value → px_H → Prop), wp d 29 8 [l0, l1, some (.ref a)] [s0, s1] w 0 Q ↔ wp d 29 9 [l0, l1, some (.ref a)] [.ref a, s0, s1] w 0 Q) ∧
  (∀ (d : Nat) (l0 l1 : Option Value) (s0 s1 : Value)  (w : px_H) (Q : Option Value → px_H → Prop), wp d 29 8 [l0, l1, some .null] [s0, s1] w 0 Q ↔ wp d 29 9 [l0, l1, some .null] [.null, s0, s1] w 0 Q) ∧
  (∀ (d : Nat) (l0 l1 l2 : Option Value) (v0 v1 : Value) (b : Nat) (w : px_H) (Q : Option Value → px_H → Prop), wp (d + 1) 29 9 [l0, l1, l2] [v1, v0, .ref b] w 0 Q ↔ px_op (px_cls w b) (fun _ => wc d 82 [.ref b, v0, v1] w (fun r w' => wp (d + 1) 29 12 [l0, l1, l2] (r.toList ++ []) w' 0 Q))) ∧
  (∀ (d : Nat) (l0 l1 : Option Value) (s0 : Value) (a : Nat) (w : px_H) (Q : Option Value → px_H → Prop), wp d 29 12 [l0, l1, some (.ref a)] [s0] w 0 Q ↔ wp d 29 13 [l0, l1, some (.ref a)] [.ref a, s0] w 0 Q) ∧
  (∀ (d : Nat) (l0 l1 : Option Value) (s0 : Value)  (w : px_H) (Q : Option Value → px_H → Prop), wp d 29 12 [l0, l1, some .null] [s0] w 0 Q ↔ wp d 29 13 [l0, l1, some .null] [.null, s0] w 0 Q) ∧
  (∀ (d : Nat) (l1 l2 : Option Value) (s0 s1 : Value) (a : Nat) (w : px_H) (Q : Option Value → px_H → Prop), wp d 29 13 [some (.ref a), l1, l2] [s0, s1] w 0 Q ↔ wp d 29 14 [some (.ref a), l1, l2] [.ref a, s0, s1] w 0 Q) ∧
  (∀ (d : Nat) (l0 l1 l2 : Option Value) (s1 s2 : Value) (a : Nat) (w : px_H) (Q : Option Value → px_H → Prop), wp d 29 14 [l0, l1, l2] [.ref a, s1, s2] w 0 Q ↔ px_op (px_fld w a [(0, 0), (1, 0), (3, 0), (8, 0), (9, 0)] 0) (fun v => wp d 29 17 [l0, l1, l2] [v, s1, s2] w 0 Q)) ∧
  (∀ (d : Nat) (l0 l1 l2 : Option Value) (s2 : Value) (v0 : Value) (b : Nat) (w : px_H) (Q : Option Value → px_H → Prop), wp (d + 1) 29 17 [l0, l1, l2] [v0, .ref b, s2] w 0 Q ↔ px_op (px_tgt w b [(5, 65)]) (fun v => wc d v [.ref b, v0] w (fun r w' => wp (d + 1) 29 20 [l0, l1, l2] (r.toList ++ [s2]) w' 0 Q))) ∧
  (∀ (d : Nat) (l0 l1 l2 : Option Value) (x y : Int32) (w : px_H) (Q : Option Value → px_H → Prop), wp d 29 20 [l0, l1, l2] [.int y, .int x] w 0 Q ↔ wp d 29 21 [l0, l1, l2] [.int (x + y)] w 0 Q) ∧
  (∀ (d : Nat) (l0 l1 l2 : Option Value) (x : Int32) (w : px_H) (Q : Option Value → px_H → Prop), wp d 29 21 [l0, l1, l2] [.int x] w 0 Q ↔ Q (some (.int x)) w) := ⟨fun d v0 v1 v2 w Q => r_entry pt_29 (Nat.le_of_ble_eq_true rfl) rfl,
  fun d l0 l2 a w Q => px_go (q := (.aload_n 1, 1, px_x0)) (S' := (1, [l0, some (.ref a), l2], [.ref a], w, 0)) pt_29 rfl rfl,
  fun d l0 l2 w Q => px_go (q := (.aload_n 1, 1, px_x0)) (S' := (1, [l0, some .null, l2], [.null], w, 0)) pt_29 rfl rfl,
  fun d l0 l1 l2 s0 w Q => r_bipush pt_29 rfl (by decide),
  fun d l0 l1 l2 v0 b w Q => r_callV (q := (.invokevirtual 13, 3, (33, 1, [(7, 85)], 0, ""))) pt_29 rfl rfl (List.forall_mem_cons.mpr ⟨⟨_, pt_85, Nat.le_of_ble_eq_true rfl, (Nat.le_of_ble_eq_true rfl), rfl⟩, fun _ h => absurd h List.not_mem_nil⟩),
  fun d l1 l2 a w Q => px_go (q := (.aload_n 0, 1, px_x0)) (S' := (7, [some (.ref a), l1, l2], [.ref a], w, 0)) pt_29 rfl rfl,
  fun d l0 l2 s0 a w Q => px_go (q := (.aload_n 1, 1, px_x0)) (S' := (8, [l0, some (.ref a), l2], [.ref a, s0], w, 0)) pt_29 rfl rfl,
  fun d l0 l2 s0 w Q => px_go (q := (.aload_n 1, 1, px_x0)) (S' := (8, [l0, some .null, l2], [.null, s0], w, 0)) pt_29 rfl rfl,
  fun d l0 l1 s0 s1 a w Q => px_go (q := (.aload_n 2, 1, px_x0)) (S' := (9, [l0, l1, some (.ref a)], [.ref a, s0, s1], w, 0)) pt_29 rfl rfl,
  fun d l0 l1 s0 s1 w Q => px_go (q := (.aload_n 2, 1, px_x0)) (S' := (9, [l0, l1, some .null], [.null, s0, s1], w, 0)) pt_29 rfl rfl,
  fun d l0 l1 l2 v0 v1 b w Q => r_callO (q := (.invokespecial 28, 3, (35, 2, [(0, 82)], 0, ""))) (G := fun _ => m_X7_mark) pt_29 rfl rfl (fun _ _ => ⟨pt_82, Nat.le_of_ble_eq_true rfl, (Nat.le_of_ble_eq_true rfl), rfl⟩),
  fun d l0 l1 s0 a w Q => px_go (q := (.aload_n 2, 1, px_x0)) (S' := (13, [l0, l1, some (.ref a)], [.ref a, s0], w, 0)) pt_29 rfl rfl,
  fun d l0 l1 s0 w Q => px_go (q := (.aload_n 2, 1, px_x0)) (S' := (13, [l0, l1, some .null], [.null, s0], w, 0)) pt_29 rfl rfl,
  fun d l1 l2 s0 s1 a w Q => px_go (q := (.aload_n 0, 1, px_x0)) (S' := (14, [some (.ref a), l1, l2], [.ref a, s0, s1], w, 0)) pt_29 rfl rfl,
  fun d l0 l1 l2 s1 s2 a w Q => px_goO (q := (.getfield 29, 3, (10, 0, [(0, 0), (1, 0), (3, 0), (8, 0), (9, 0)], 0, "AllSworn$Plain"))) (S' := fun v => (17, [l0, l1, l2], [v, s1, s2], w, 0)) pt_29 rfl rfl,
  fun d l0 l1 l2 s2 v0 b w Q => r_callV (q := (.invokevirtual 33, 3, (33, 1, [(5, 65)], 0, ""))) pt_29 rfl rfl (List.forall_mem_cons.mpr ⟨⟨_, pt_65, Nat.le_of_ble_eq_true rfl, (Nat.le_of_ble_eq_true rfl), rfl⟩, fun _ h => absurd h List.not_mem_nil⟩),
  fun d l0 l1 l2 x y w Q => px_go (q := (.iadd, 1, px_x0)) (S' := (21, [l0, l1, l2], [.int (x + y)], w, 0)) pt_29 rfl rfl,
  fun d l0 l1 l2 x w Q => px_ret (q := (.ireturn, 1, px_x0)) pt_29 rfl rfl⟩
/-- AllSworn$Thing.<init>(III)V -/
theorem S76 : (∀ (d : Nat) (v0 v1 v2 v3 : Value) (w : px_H) (Q : Option Value → px_H → Prop), wc d 76 [v0, v1, v2, v3] w Q ↔ wp d 76 0 [some v0, some v1, some v2, some v3] [] w 0 Q) ∧
  (∀ (d : Nat) (l1 l2 l3 : Option Value) (a : Nat) (w : px_H) (Q : Option Value → px_H → Prop), wp d 76 0 [some (.ref a), l1, l2, l3] [] w 0 Q ↔ wp d 76 1 [some (.ref a), l1, l2, l3] [.ref a] w 0 Q) ∧
  (∀ (d : Nat) (l0 l1 l2 l3 : Option Value) (a : Nat) (w : px_H) (Q : Option Value → px_H → Prop), wp d 76 1 [l0, l1, l2, l3] [.ref a] w 0 Q ↔ wp d 76 4 [l0, l1, l2, l3] [] w 0 Q) ∧
  (∀ (d : Nat) (l1 l2 l3 : Option Value) (a : Nat) (w : px_H) (Q : Option Value → px_H → Prop), wp d 76 4 [some (.ref a), l1, l2, l3] [] w 0 Q ↔ wp d 76 5 [some (.ref a), l1, l2, l3] [.ref a] w 0 Q) ∧
  (∀ (d : Nat) (l0 l2 l3 : Option Value) (s0 : Value) (x : Int32) (w : px_H) (Q : Option Value → px_H → Prop), wp d 76 5 [l0, some (.int x), l2, l3] [s0] w 0 Q ↔ wp d 76 6 [l0, some (.int x), l2, l3] [.int x, s0] w 0 Q) ∧
  (∀ (d : Nat) (l0 l1 l2 l3 : Option Value) (x : Int32) (a : Nat) (w : px_H) (Q : Option Value → px_H → Prop), wp d 76 6 [l0, l1, l2, l3] [.int x, .ref a] w 0 Q ↔ px_op (px_pfd w a [(0, 0), (1, 0), (3, 0), (8, 0), (9, 0)] 0 (.int x)) (fun w' => wp d 76 9 [l0, l1, l2, l3] [] w' 0 Q)) ∧
  (∀ (d : Nat) (l1 l2 l3 : Option Value) (a : Nat) (w : px_H) (Q : Option Value → px_H → Prop), wp d 76 9 [some (.ref a), l1, l2, l3] [] w 0 Q ↔ wp d 76 10 [some (.ref a), l1, l2, l3] [.ref a] w 0 Q) ∧
  (∀ (d : Nat) (l0 l1 l3 : Option Value) (s0 : Value) (x : Int32) (w : px_H) (Q : Option Value → px_H → Prop), wp d 76 10 [l0, l1, some (.int x), l3] [s0] w 0 Q ↔ wp d 76 11 [l0, l1, some (.int x), l3] [.int x, s0] w 0 Q) ∧
  (∀ (d : Nat) (l0 l1 l2 l3 : Option Value) (x : Int32) (a : Nat) (w : px_H) (Q : Option Value → px_H → Prop), wp d 76 11 [l0, l1, l2, l3] [.int x, .ref a] w 0 Q ↔ px_op (px_pfd w a [(0, 0), (1, 0), (3, 0), (8, 0), (9, 0)] 1 (.int x)) (fun w' => wp d 76 14 [l0, l1, l2, l3] [] w' 0 Q)) ∧
  (∀ (d : Nat) (l1 l2 l3 : Option Value) (a : Nat) (w : px_H) (Q : Option Value → px_H → Prop), wp d 76 14 [some (.ref a), l1, l2, l3] [] w 0 Q ↔ wp d 76 15 [some (.ref a), l1, l2, l3] [.ref a] w 0 Q) ∧
  (∀ (d : Nat) (l0 l1 l2 : Option Value) (s0 : Value) (x : Int32) (w : px_H) (Q : Option Value → px_H → Prop), wp d 76 15 [l0, l1, l2, some (.int x)] [s0] w 0 Q ↔ wp d 76 16 [l0, l1, l2, some (.int x)] [.int x, s0] w 0 Q) ∧
  (∀ (d : Nat) (l0 l1 l2 l3 : Option Value) (x : Int32) (a : Nat) (w : px_H) (Q : Option Value → px_H → Prop), wp d 76 16 [l0, l1, l2, l3] [.int x, .ref a] w 0 Q ↔ px_op (px_pfd w a [(0, 0), (1, 0), (3, 0), (8, 0), (9, 0)] 2 (.int x)) (fun w' => wp d 76 19 [l0, l1, l2, l3] [] w' 0 Q)) ∧
  (∀ (d : Nat) (l0 l1 l2 l3 : Option Value)  (w : px_H) (Q : Option Value → px_H → Prop), wp d 76 19 [l0, l1, l2, l3] [] w 0 Q ↔ Q none w) := ⟨fun d v0 v1 v2 v3 w Q => r_entry pt_76 (Nat.le_of_ble_eq_true rfl) rfl,
  fun d l1 l2 l3 a w Q => px_go (q := (.aload_n 0, 1, px_x0)) (S' := (1, [some (.ref a), l1, l2, l3], [.ref a], w, 0)) pt_76 rfl rfl,
  fun d l0 l1 l2 l3 a w Q => px_go (q := (.invokespecial 3, 3, (36, 0, [], 0, ""))) (S' := (4, [l0, l1, l2, l3], [], w, 0)) pt_76 rfl rfl,
  fun d l1 l2 l3 a w Q => px_go (q := (.aload_n 0, 1, px_x0)) (S' := (5, [some (.ref a), l1, l2, l3], [.ref a], w, 0)) pt_76 rfl rfl,
  fun d l0 l2 l3 s0 x w Q => px_go (q := (.iload_n 1, 1, px_x0)) (S' := (6, [l0, some (.int x), l2, l3], [.int x, s0], w, 0)) pt_76 rfl rfl,
  fun d l0 l1 l2 l3 x a w Q => r_put pt_76 rfl (by simp only [List.all_cons, List.all_nil, ft_0_0, ft_1_0, ft_3_0, ft_8_0, ft_9_0, px_fit, px_isr, Bool.and_self]),
  fun d l1 l2 l3 a w Q => px_go (q := (.aload_n 0, 1, px_x0)) (S' := (10, [some (.ref a), l1, l2, l3], [.ref a], w, 0)) pt_76 rfl rfl,
  fun d l0 l1 l3 s0 x w Q => px_go (q := (.iload_n 2, 1, px_x0)) (S' := (11, [l0, l1, some (.int x), l3], [.int x, s0], w, 0)) pt_76 rfl rfl,
  fun d l0 l1 l2 l3 x a w Q => r_put pt_76 rfl (by simp only [List.all_cons, List.all_nil, ft_0_1, ft_1_1, ft_3_1, ft_8_1, ft_9_1, px_fit, px_isr, Bool.and_self]),
  fun d l1 l2 l3 a w Q => px_go (q := (.aload_n 0, 1, px_x0)) (S' := (15, [some (.ref a), l1, l2, l3], [.ref a], w, 0)) pt_76 rfl rfl,
  fun d l0 l1 l2 s0 x w Q => px_go (q := (.iload_n 3, 1, px_x0)) (S' := (16, [l0, l1, l2, some (.int x)], [.int x, s0], w, 0)) pt_76 rfl rfl,
  fun d l0 l1 l2 l3 x a w Q => r_put pt_76 rfl (by simp only [List.all_cons, List.all_nil, ft_0_2, ft_1_2, ft_3_2, ft_8_2, ft_9_2, px_fit, px_isr, Bool.and_self]),
  fun d l0 l1 l2 l3 w Q => px_ret (q := (.return_, 1, px_x0)) pt_76 rfl rfl⟩
/-- AllSworn$Thing.isOf(I)Z -/
theorem S77 : (∀ (d : Nat) (v0 v1 : Value) (w : px_H) (Q : Option Value → px_H → Prop), wc d 77 [v0, v1] w Q ↔ wp d 77 0 [some v0, some v1] [] w 0 Q) ∧
  (∀ (d : Nat) (l0 : Option Value) (x : Int32) (w : px_H) (Q : Option Value → px_H → Prop), wp d 77 0 [l0, some (.int x)] [] w 0 Q ↔ wp d 77 1 [l0, some (.int x)] [.int x] w 0 Q) ∧
  (∀ (d : Nat) (l0 l1 : Option Value) (x : Int32) (w : px_H) (Q : Option Value → px_H → Prop), wp d 77 1 [l0, l1] [.int x] w 0 Q ↔ if x = 0 then wp d 77 4 [l0, l1] [] w 0 Q else wp d 77 8 [l0, l1] [] w 0 Q) ∧
  (∀ (d : Nat) (l0 l1 : Option Value)  (w : px_H) (Q : Option Value → px_H → Prop), wp d 77 4 [l0, l1] [] w 0 Q ↔ wp d 77 5 [l0, l1] [.int 1] w 0 Q) ∧
  (∀ (d : Nat) (l0 l1 : Option Value) (s0 : Value)  (w : px_H) (Q : Option Value → px_H → Prop), wp d 77 5 [l0, l1] [s0] w 0 Q ↔ wp d 77 9 [l0, l1] [s0] w 0 Q) ∧
  (∀ (d : Nat) (l0 l1 : Option Value)  (w : px_H) (Q : Option Value → px_H → Prop), wp d 77 8 [l0, l1] [] w 0 Q ↔ wp d 77 9 [l0, l1] [.int 0] w 0 Q) ∧
  (∀ (d : Nat) (l0 l1 : Option Value) (x : Int32) (w : px_H) (Q : Option Value → px_H → Prop), wp d 77 9 [l0, l1] [.int x] w 0 Q ↔ (x = 0 ∨ x = 1) ∧ Q (some (.int x)) w) := ⟨fun d v0 v1 w Q => r_entry pt_77 (Nat.le_of_ble_eq_true rfl) rfl,
  fun d l0 x w Q => px_go (q := (.iload_n 1, 1, px_x0)) (S' := (1, [l0, some (.int x)], [.int x], w, 0)) pt_77 rfl rfl,
  fun d l0 l1 x w Q => r_if_ne pt_77 rfl rfl,
  fun d l0 l1 w Q => r_iconst pt_77 rfl (by decide),
  fun d l0 l1 s0 w Q => r_goto pt_77 rfl rfl,
  fun d l0 l1 w Q => r_iconst pt_77 rfl (by decide),
  fun d l0 l1 x w Q => px_retI (q := (.ireturn, 1, px_x0)) pt_77 rfl rfl⟩
/-- AllSworn$Thing.daysToAsk()I -/
theorem S78 : (∀ (d : Nat) (v0 : Value) (w : px_H) (Q : Option Value → px_H → Prop), wc d 78 [v0] w Q ↔ wp d 78 0 [some v0] [] w 0 Q) ∧
  (∀ (d : Nat) (l0 : Option Value)  (w : px_H) (Q : Option Value → px_H → Prop), wp d 78 0 [l0] [] w 0 Q ↔ wp d 78 1 [l0] [.int 1] w 0 Q) ∧
  (∀ (d : Nat) (l0 : Option Value) (s0 : Value)  (w : px_H) (Q : Option Value → px_H → Prop), wp d 78 1 [l0] [s0] w 0 Q ↔ wp d 78 2 [l0] [.int 2, s0] w 0 Q) ∧
  (∀ (d : Nat) (s0 s1 : Value) (a : Nat) (w : px_H) (Q : Option Value → px_H → Prop), wp d 78 2 [some (.ref a)] [s0, s1] w 0 Q ↔ wp d 78 3 [some (.ref a)] [.ref a, s0, s1] w 0 Q) ∧
  (∀ (d : Nat) (l0 : Option Value) (s1 s2 : Value) (a : Nat) (w : px_H) (Q : Option Value → px_H → Prop), wp d 78 3 [l0] [.ref a, s1, s2] w 0 Q ↔ px_op (px_fld w a [(0, 0), (1, 0), (3, 0), (8, 0), (9, 0)] 1) (fun v => wp d 78 6 [l0] [v, s1, s2] w 0 Q)) ∧
  (∀ (d : Nat) (l0 : Option Value) (s2 : Value) (x y : Int32) (w : px_H) (Q : Option Value → px_H → Prop), wp d 78 6 [l0] [.int y, .int x, s2] w 0 Q ↔ wp d 78 7 [l0] [.int (x * y), s2] w 0 Q) ∧
  (∀ (d : Nat) (l0 : Option Value) (x y : Int32) (w : px_H) (Q : Option Value → px_H → Prop), wp d 78 7 [l0] [.int y, .int x] w 0 Q ↔ wp d 78 10 [l0] [.int (if x < y then y else x)] w 0 Q) ∧
  (∀ (d : Nat) (l0 : Option Value) (x : Int32) (w : px_H) (Q : Option Value → px_H → Prop), wp d 78 10 [l0] [.int x] w 0 Q ↔ Q (some (.int x)) w) := ⟨fun d v0 w Q => r_entry pt_78 (Nat.le_of_ble_eq_true rfl) rfl,
  fun d l0 w Q => r_iconst pt_78 rfl (by decide),
  fun d l0 s0 w Q => r_iconst pt_78 rfl (by decide),
  fun d s0 s1 a w Q => px_go (q := (.aload_n 0, 1, px_x0)) (S' := (3, [some (.ref a)], [.ref a, s0, s1], w, 0)) pt_78 rfl rfl,
  fun d l0 s1 s2 a w Q => px_goO (q := (.getfield 15, 3, (10, 1, [(0, 0), (1, 0), (3, 0), (8, 0), (9, 0)], 0, "AllSworn$Thing"))) (S' := fun v => (6, [l0], [v, s1, s2], w, 0)) pt_78 rfl rfl,
  fun d l0 s2 x y w Q => px_go (q := (.imul, 1, px_x0)) (S' := (7, [l0], [.int (x * y), s2], w, 0)) pt_78 rfl rfl,
  fun d l0 x y w Q => px_go (q := (.invokestatic 21, 3, (38, 0, [], 0, ""))) (S' := (10, [l0], [.int (if x < y then y else x)], w, 0)) pt_78 rfl rfl,
  fun d l0 x w Q => px_ret (q := (.ireturn, 1, px_x0)) pt_78 rfl rfl⟩
/-- AllSworn$Thing.swearsOn(I)Z -/
theorem S79 : (∀ (d : Nat) (v0 v1 : Value) (w : px_H) (Q : Option Value → px_H → Prop), wc d 79 [v0, v1] w Q ↔ wp d 79 0 [some v0, some v1] [] w 0 Q) ∧
  (∀ (d : Nat) (l0 l1 : Option Value)  (w : px_H) (Q : Option Value → px_H → Prop), wp d 79 0 [l0, l1] [] w 0 Q ↔ wp d 79 1 [l0, l1] [.int 1] w 0 Q) ∧
  (∀ (d : Nat) (l0 l1 : Option Value) (x : Int32) (w : px_H) (Q : Option Value → px_H → Prop), wp d 79 1 [l0, l1] [.int x] w 0 Q ↔ (x = 0 ∨ x = 1) ∧ Q (some (.int x)) w) := ⟨fun d v0 v1 w Q => r_entry pt_79 (Nat.le_of_ble_eq_true rfl) rfl,
  fun d l0 l1 w Q => r_iconst pt_79 rfl (by decide),
  fun d l0 l1 x w Q => px_retI (q := (.ireturn, 1, px_x0)) pt_79 rfl rfl⟩
/-- AllSworn$Thing.isHeldBy(I)Z -/
theorem S80 : (∀ (d : Nat) (v0 v1 : Value) (w : px_H) (Q : Option Value → px_H → Prop), wc d 80 [v0, v1] w Q ↔ wp d 80 0 [some v0, some v1] [] w 0 Q) ∧
  (∀ (d : Nat) (l0 l1 : Option Value)  (w : px_H) (Q : Option Value → px_H → Prop), wp d 80 0 [l0, l1] [] w 0 Q ↔ wp d 80 1 [l0, l1] [.int 1] w 0 Q) ∧
  (∀ (d : Nat) (l0 l1 : Option Value) (x : Int32) (w : px_H) (Q : Option Value → px_H → Prop), wp d 80 1 [l0, l1] [.int x] w 0 Q ↔ (x = 0 ∨ x = 1) ∧ Q (some (.int x)) w) := ⟨fun d v0 v1 w Q => r_entry pt_80 (Nat.le_of_ble_eq_true rfl) rfl,
  fun d l0 l1 w Q => r_iconst pt_80 rfl (by decide),
  fun d l0 l1 x w Q => px_retI (q := (.ireturn, 1, px_x0)) pt_80 rfl rfl⟩
/-- AllSworn$Thing.size(LAllSworn$Trace;LAllSworn$Realm;)I -/
theorem S81 : (∀ (d : Nat) (v0 v1 v2 : Value) (w : px_H) (Q : Option Value → px_H → Prop), wc d 81 [v0, v1, v2] w Q ↔ wp d 81 0 [some v0, some v1, some v2] [] w 0 Q) ∧
  (∀ (d : Nat) (l0 l2 : Option Value) (a : Nat) (w : px_H) (Q : Option Value → px_H → Prop), wp d 81 0 [l0, some (.ref a), l2] [] w 0 Q ↔ wp d 81 1 [l0, some (.ref a), l2] [.ref a] w 0 Q) ∧
  (∀ (d : Nat) (l0 l2 : Option Value)  (w : px_H) (Q : Option Value → px_H → Prop), wp d 81 0 [l0, some .null, l2] [] w 0 Q ↔ wp d 81 1 [l0, some .null, l2] [.null] w 0 Q) ∧
  (∀ (d : Nat) (l0 l1 l2 : Option Value) (s0 : Value)  (w : px_H) (Q : Option Value → px_H → Prop), wp d 81 1 [l0, l1, l2] [s0] w 0 Q ↔ wp d 81 3 [l0, l1, l2] [.int 10, s0] w 0 Q) ∧
  (∀ (d : Nat) (l0 l1 l2 : Option Value) (v0 : Value) (b : Nat) (w : px_H) (Q : Option Value → px_H → Prop), wp (d + 1) 81 3 [l0, l1, l2] [v0, .ref b] w 0 Q ↔ px_op (px_tgt w b [(7, 85)]) (fun v => wc d v [.ref b, v0] w (fun r w' => wp (d + 1) 81 6 [l0, l1, l2] (r.toList ++ []) w' 0 Q))) ∧
  (∀ (d : Nat) (l1 l2 : Option Value) (a : Nat) (w : px_H) (Q : Option Value → px_H → Prop), wp d 81 6 [some (.ref a), l1, l2] [] w 0 Q ↔ wp d 81 7 [some (.ref a), l1, l2] [.ref a] w 0 Q) ∧
  (∀ (d : Nat) (l0 l1 l2 : Option Value) (a : Nat) (w : px_H) (Q : Option Value → px_H → Prop), wp d 81 7 [l0, l1, l2] [.ref a] w 0 Q ↔ px_op (px_fld w a [(0, 0), (1, 0), (3, 0), (8, 0), (9, 0)] 2) (fun v => wp d 81 10 [l0, l1, l2] [v] w 0 Q)) ∧
  (∀ (d : Nat) (l0 l1 l2 : Option Value) (x : Int32) (w : px_H) (Q : Option Value → px_H → Prop), wp d 81 10 [l0, l1, l2] [.int x] w 0 Q ↔ Q (some (.int x)) w) := ⟨fun d v0 v1 v2 w Q => r_entry pt_81 (Nat.le_of_ble_eq_true rfl) rfl,
  fun d l0 l2 a w Q => px_go (q := (.aload_n 1, 1, px_x0)) (S' := (1, [l0, some (.ref a), l2], [.ref a], w, 0)) pt_81 rfl rfl,
  fun d l0 l2 w Q => px_go (q := (.aload_n 1, 1, px_x0)) (S' := (1, [l0, some .null, l2], [.null], w, 0)) pt_81 rfl rfl,
  fun d l0 l1 l2 s0 w Q => r_bipush pt_81 rfl (by decide),
  fun d l0 l1 l2 v0 b w Q => r_callV (q := (.invokevirtual 27, 3, (33, 1, [(7, 85)], 0, ""))) pt_81 rfl rfl (List.forall_mem_cons.mpr ⟨⟨_, pt_85, Nat.le_of_ble_eq_true rfl, (Nat.le_of_ble_eq_true rfl), rfl⟩, fun _ h => absurd h List.not_mem_nil⟩),
  fun d l1 l2 a w Q => px_go (q := (.aload_n 0, 1, px_x0)) (S' := (7, [some (.ref a), l1, l2], [.ref a], w, 0)) pt_81 rfl rfl,
  fun d l0 l1 l2 a w Q => px_goO (q := (.getfield 18, 3, (10, 2, [(0, 0), (1, 0), (3, 0), (8, 0), (9, 0)], 0, "AllSworn$Thing"))) (S' := fun v => (10, [l0, l1, l2], [v], w, 0)) pt_81 rfl rfl,
  fun d l0 l1 l2 x w Q => px_ret (q := (.ireturn, 1, px_x0)) pt_81 rfl rfl⟩
/-- AllSworn$Thing.mark(LAllSworn$Trace;LAllSworn$Realm;)I -/
theorem S82 : (∀ (d : Nat) (v0 v1 v2 : Value) (w : px_H) (Q : Option Value → px_H → Prop), wc d 82 [v0, v1, v2] w Q ↔ wp d 82 0 [some v0, some v1, some v2] [] w 0 Q) ∧
  (∀ (d : Nat) (l0 l2 : Option Value) (a : Nat) (w : px_H) (Q : Option Value → px_H → Prop), wp d 82 0 [l0, some (.ref a), l2] [] w 0 Q ↔ wp d 82 1 [l0, some (.ref a), l2] [.ref a] w 0 Q) ∧
  (∀ (d : Nat) (l0 l2 : Option Value)  (w : px_H) (Q : Option Value → px_H → Prop), wp d 82 0 [l0, some .null, l2] [] w 0 Q ↔ wp d 82 1 [l0, some .null, l2] [.null] w 0 Q) ∧
  (∀ (d : Nat) (l0 l1 l2 : Option Value) (s0 : Value)  (w : px_H) (Q : Option Value → px_H → Prop), wp d 82 1 [l0, l1, l2] [s0] w 0 Q ↔ wp d 82 3 [l0, l1, l2] [.int 20, s0] w 0 Q) ∧
  (∀ (d : Nat) (l0 l1 l2 : Option Value) (v0 : Value) (b : Nat) (w : px_H) (Q : Option Value → px_H → Prop), wp (d + 1) 82 3 [l0, l1, l2] [v0, .ref b] w 0 Q ↔ px_op (px_tgt w b [(7, 85)]) (fun v => wc d v [.ref b, v0] w (fun r w' => wp (d + 1) 82 6 [l0, l1, l2] (r.toList ++ []) w' 0 Q))) ∧
  (∀ (d : Nat) (l1 l2 : Option Value) (a : Nat) (w : px_H) (Q : Option Value → px_H → Prop), wp d 82 6 [some (.ref a), l1, l2] [] w 0 Q ↔ wp d 82 7 [some (.ref a), l1, l2] [.ref a] w 0 Q) ∧
  (∀ (d : Nat) (l0 l1 l2 : Option Value) (a : Nat) (w : px_H) (Q : Option Value → px_H → Prop), wp d 82 7 [l0, l1, l2] [.ref a] w 0 Q ↔ px_op (px_fld w a [(0, 0), (1, 0), (3, 0), (8, 0), (9, 0)] 0) (fun v => wp d 82 10 [l0, l1, l2] [v] w 0 Q)) ∧
  (∀ (d : Nat) (l0 l1 l2 : Option Value) (x : Int32) (w : px_H) (Q : Option Value → px_H → Prop), wp d 82 10 [l0, l1, l2] [.int x] w 0 Q ↔ Q (some (.int x)) w) := ⟨fun d v0 v1 v2 w Q => r_entry pt_82 (Nat.le_of_ble_eq_true rfl) rfl,
  fun d l0 l2 a w Q => px_go (q := (.aload_n 1, 1, px_x0)) (S' := (1, [l0, some (.ref a), l2], [.ref a], w, 0)) pt_82 rfl rfl,
  fun d l0 l2 w Q => px_go (q := (.aload_n 1, 1, px_x0)) (S' := (1, [l0, some .null, l2], [.null], w, 0)) pt_82 rfl rfl,
  fun d l0 l1 l2 s0 w Q => r_bipush pt_82 rfl (by decide),
  fun d l0 l1 l2 v0 b w Q => r_callV (q := (.invokevirtual 27, 3, (33, 1, [(7, 85)], 0, ""))) pt_82 rfl rfl (List.forall_mem_cons.mpr ⟨⟨_, pt_85, Nat.le_of_ble_eq_true rfl, (Nat.le_of_ble_eq_true rfl), rfl⟩, fun _ h => absurd h List.not_mem_nil⟩),
  fun d l1 l2 a w Q => px_go (q := (.aload_n 0, 1, px_x0)) (S' := (7, [some (.ref a), l1, l2], [.ref a], w, 0)) pt_82 rfl rfl,
  fun d l0 l1 l2 a w Q => px_goO (q := (.getfield 9, 3, (10, 0, [(0, 0), (1, 0), (3, 0), (8, 0), (9, 0)], 0, "AllSworn$Thing"))) (S' := fun v => (10, [l0, l1, l2], [v], w, 0)) pt_82 rfl rfl,
  fun d l0 l1 l2 x w Q => px_ret (q := (.ireturn, 1, px_x0)) pt_82 rfl rfl⟩
/-- AllSworn$Trace.<init>()V -/
theorem S83 : (∀ (d : Nat) (v0 : Value) (w : px_H) (Q : Option Value → px_H → Prop), wc d 83 [v0] w Q ↔ wp d 83 0 [some v0] [] w 0 Q) ∧
  (∀ (d : Nat) (a : Nat) (w : px_H) (k : Nat) (Q : Option Value → px_H → Prop), wp d 83 0 [some (.ref a)] [] w k Q ↔ wp d 83 1 [some (.ref a)] [.ref a] w k Q) ∧
  (∀ (d : Nat) (l0 : Option Value) (a : Nat) (w : px_H) (k : Nat) (Q : Option Value → px_H → Prop), wp d 83 1 [l0] [.ref a] w k Q ↔ wp d 83 4 [l0] [] w k Q) ∧
  (∀ (d : Nat) (a : Nat) (w : px_H) (k : Nat) (Q : Option Value → px_H → Prop), wp d 83 4 [some (.ref a)] [] w k Q ↔ wp d 83 5 [some (.ref a)] [.ref a] w k Q) ∧
  (∀ (d : Nat) (l0 : Option Value) (s0 : Value)  (w : px_H) (k : Nat) (Q : Option Value → px_H → Prop), wp d 83 5 [l0] [s0] w k Q ↔ wp d 83 7 [l0] [.int 16, s0] w k Q) ∧
  (∀ (d : Nat) (l0 : Option Value) (s1 : Value)  (w : px_H) (k : Nat) (Q : Option Value → px_H → Prop) (hk : k + 1 ≤ 1), wp d 83 7 [l0] [.int 16, s1] w k Q ↔ wp d 83 9 [l0] [.ref w.1, s1] (px_add w (.inl (.int, 16, fun _ => 0))) (k + 1) Q) ∧
  (∀ (d : Nat) (l0 : Option Value) (a b : Nat) (w : px_H) (k : Nat) (Q : Option Value → px_H → Prop), wp d 83 9 [l0] [.ref b, .ref a] w k Q ↔ px_op (px_pfd w a [(7, 0)] 0 (.ref b)) (fun w' => wp d 83 12 [l0] [] w' k Q)) ∧
  (∀ (d : Nat) (a : Nat) (w : px_H) (k : Nat) (Q : Option Value → px_H → Prop), wp d 83 12 [some (.ref a)] [] w k Q ↔ wp d 83 13 [some (.ref a)] [.ref a] w k Q) ∧
  (∀ (d : Nat) (l0 : Option Value) (s0 : Value)  (w : px_H) (k : Nat) (Q : Option Value → px_H → Prop), wp d 83 13 [l0] [s0] w k Q ↔ wp d 83 14 [l0] [.int 0, s0] w k Q) ∧
  (∀ (d : Nat) (l0 : Option Value) (x : Int32) (a : Nat) (w : px_H) (k : Nat) (Q : Option Value → px_H → Prop), wp d 83 14 [l0] [.int x, .ref a] w k Q ↔ px_op (px_pfd w a [(7, 0)] 1 (.int x)) (fun w' => wp d 83 17 [l0] [] w' k Q)) ∧
  (∀ (d : Nat) (l0 : Option Value)  (w : px_H) (k : Nat) (Q : Option Value → px_H → Prop), wp d 83 17 [l0] [] w k Q ↔ Q none w) := ⟨fun d v0 w Q => r_entry pt_83 (Nat.le_of_ble_eq_true rfl) rfl,
  fun d a w k Q => px_go (q := (.aload_n 0, 1, px_x0)) (S' := (1, [some (.ref a)], [.ref a], w, k)) pt_83 rfl rfl,
  fun d l0 a w k Q => px_go (q := (.invokespecial 3, 3, (36, 0, [], 0, ""))) (S' := (4, [l0], [], w, k)) pt_83 rfl rfl,
  fun d a w k Q => px_go (q := (.aload_n 0, 1, px_x0)) (S' := (5, [some (.ref a)], [.ref a], w, k)) pt_83 rfl rfl,
  fun d l0 s0 w k Q => r_bipush pt_83 rfl (by decide),
  fun d l0 s1 w k Q hk => r_newarr pt_83 rfl rfl ⟨by decide, by decide, by decide⟩ hk,
  fun d l0 a b w k Q => r_put pt_83 rfl (by simp only [List.all_cons, List.all_nil, ft_7_0, px_fit, px_isr, Bool.and_self]),
  fun d a w k Q => px_go (q := (.aload_n 0, 1, px_x0)) (S' := (13, [some (.ref a)], [.ref a], w, k)) pt_83 rfl rfl,
  fun d l0 s0 w k Q => r_iconst pt_83 rfl (by decide),
  fun d l0 x a w k Q => r_put pt_83 rfl (by simp only [List.all_cons, List.all_nil, ft_7_1, px_fit, px_isr, Bool.and_self]),
  fun d l0 w k Q => px_ret (q := (.return_, 1, px_x0)) pt_83 rfl rfl⟩
/-- AllSworn$Trace.clear()V -/
theorem S84 : (∀ (d : Nat) (v0 : Value) (w : px_H) (Q : Option Value → px_H → Prop), wc d 84 [v0] w Q ↔ wp d 84 0 [some v0] [] w 0 Q) ∧
  (∀ (d : Nat) (a : Nat) (w : px_H) (Q : Option Value → px_H → Prop), wp d 84 0 [some (.ref a)] [] w 0 Q ↔ wp d 84 1 [some (.ref a)] [.ref a] w 0 Q) ∧
  (∀ (d : Nat) (l0 : Option Value) (s0 : Value)  (w : px_H) (Q : Option Value → px_H → Prop), wp d 84 1 [l0] [s0] w 0 Q ↔ wp d 84 2 [l0] [.int 0, s0] w 0 Q) ∧
  (∀ (d : Nat) (l0 : Option Value) (x : Int32) (a : Nat) (w : px_H) (Q : Option Value → px_H → Prop), wp d 84 2 [l0] [.int x, .ref a] w 0 Q ↔ px_op (px_pfd w a [(7, 0)] 1 (.int x)) (fun w' => wp d 84 5 [l0] [] w' 0 Q)) ∧
  (∀ (d : Nat) (l0 : Option Value)  (w : px_H) (Q : Option Value → px_H → Prop), wp d 84 5 [l0] [] w 0 Q ↔ Q none w) := ⟨fun d v0 w Q => r_entry pt_84 (Nat.le_of_ble_eq_true rfl) rfl,
  fun d a w Q => px_go (q := (.aload_n 0, 1, px_x0)) (S' := (1, [some (.ref a)], [.ref a], w, 0)) pt_84 rfl rfl,
  fun d l0 s0 w Q => r_iconst pt_84 rfl (by decide),
  fun d l0 x a w Q => r_put pt_84 rfl (by simp only [List.all_cons, List.all_nil, ft_7_1, px_fit, px_isr, Bool.and_self]),
  fun d l0 w Q => px_ret (q := (.return_, 1, px_x0)) pt_84 rfl rfl⟩
/-- AllSworn$Trace.leave(I)V -/
theorem S85 : (∀ (d : Nat) (v0 v1 : Value) (w : px_H) (Q : Option Value → px_H → Prop), wc d 85 [v0, v1] w Q ↔ wp d 85 0 [some v0, some v1] [] w 0 Q) ∧
  (∀ (d : Nat) (l1 : Option Value) (a : Nat) (w : px_H) (Q : Option Value → px_H → Prop), wp d 85 0 [some (.ref a), l1] [] w 0 Q ↔ wp d 85 1 [some (.ref a), l1] [.ref a] w 0 Q) ∧
  (∀ (d : Nat) (l0 l1 : Option Value) (a : Nat) (w : px_H) (Q : Option Value → px_H → Prop), wp d 85 1 [l0, l1] [.ref a] w 0 Q ↔ px_op (px_fld w a [(7, 0)] 1) (fun v => wp d 85 4 [l0, l1] [v] w 0 Q)) ∧
  (∀ (d : Nat) (l0 l1 : Option Value) (s0 : Value)  (w : px_H) (Q : Option Value → px_H → Prop), wp d 85 4 [l0, l1] [s0] w 0 Q ↔ wp d 85 6 [l0, l1] [.int 16, s0] w 0 Q) ∧
  (∀ (d : Nat) (l0 l1 : Option Value) (x y : Int32) (w : px_H) (Q : Option Value → px_H → Prop), wp d 85 6 [l0, l1] [.int y, .int x] w 0 Q ↔ if y ≤ x then wp d 85 29 [l0, l1] [] w 0 Q else wp d 85 9 [l0, l1] [] w 0 Q) ∧
  (∀ (d : Nat) (l1 : Option Value) (a : Nat) (w : px_H) (Q : Option Value → px_H → Prop), wp d 85 9 [some (.ref a), l1] [] w 0 Q ↔ wp d 85 10 [some (.ref a), l1] [.ref a] w 0 Q) ∧
  (∀ (d : Nat) (l0 l1 : Option Value) (a : Nat) (w : px_H) (Q : Option Value → px_H → Prop), wp d 85 10 [l0, l1] [.ref a] w 0 Q ↔ px_op (px_fld w a [(7, 0)] 0) (fun v => wp d 85 13 [l0, l1] [v] w 0 Q)) ∧
  (∀ (d : Nat) (l1 : Option Value) (s0 : Value) (a : Nat) (w : px_H) (Q : Option Value → px_H → Prop), wp d 85 13 [some (.ref a), l1] [s0] w 0 Q ↔ wp d 85 14 [some (.ref a), l1] [.ref a, s0] w 0 Q) ∧
  (∀ (d : Nat) (l0 l1 : Option Value) (s1 : Value) (a : Nat) (w : px_H) (Q : Option Value → px_H → Prop), wp d 85 14 [l0, l1] [.ref a, s1] w 0 Q ↔ px_op (px_fld w a [(7, 0)] 1) (fun v => wp d 85 17 [l0, l1] [v, s1] w 0 Q)) ∧
  (∀ (d : Nat) (l0 : Option Value) (s0 s1 : Value) (x : Int32) (w : px_H) (Q : Option Value → px_H → Prop), wp d 85 17 [l0, some (.int x)] [s0, s1] w 0 Q ↔ wp d 85 18 [l0, some (.int x)] [.int x, s0, s1] w 0 Q) ∧
  (∀ (d : Nat) (l0 l1 : Option Value) (x i : Int32) (a : Nat) (w : px_H) (Q : Option Value → px_H → Prop), wp d 85 18 [l0, l1] [.int x, .int i, .ref a] w 0 Q ↔ px_op (px_ast w a i x .int) (fun w' => wp d 85 19 [l0, l1] [] w' 0 Q)) ∧
  (∀ (d : Nat) (l1 : Option Value) (a : Nat) (w : px_H) (Q : Option Value → px_H → Prop), wp d 85 19 [some (.ref a), l1] [] w 0 Q ↔ wp d 85 20 [some (.ref a), l1] [.ref a] w 0 Q) ∧
  (∀ (d : Nat) (l0 l1 : Option Value) (s0 : Value)  (w : px_H) (Q : Option Value → px_H → Prop), wp d 85 20 [l0, l1] [s0] w 0 Q ↔ wp d 85 21 [l0, l1] [s0, s0] w 0 Q) ∧
  (∀ (d : Nat) (l0 l1 : Option Value) (s1 : Value) (a : Nat) (w : px_H) (Q : Option Value → px_H → Prop), wp d 85 21 [l0, l1] [.ref a, s1] w 0 Q ↔ px_op (px_fld w a [(7, 0)] 1) (fun v => wp d 85 24 [l0, l1] [v, s1] w 0 Q)) ∧
  (∀ (d : Nat) (l0 l1 : Option Value) (s0 s1 : Value)  (w : px_H) (Q : Option Value → px_H → Prop), wp d 85 24 [l0, l1] [s0, s1] w 0 Q ↔ wp d 85 25 [l0, l1] [.int 1, s0, s1] w 0 Q) ∧
  (∀ (d : Nat) (l0 l1 : Option Value) (s2 : Value) (x y : Int32) (w : px_H) (Q : Option Value → px_H → Prop), wp d 85 25 [l0, l1] [.int y, .int x, s2] w 0 Q ↔ wp d 85 26 [l0, l1] [.int (x + y), s2] w 0 Q) ∧
  (∀ (d : Nat) (l0 l1 : Option Value) (x : Int32) (a : Nat) (w : px_H) (Q : Option Value → px_H → Prop), wp d 85 26 [l0, l1] [.int x, .ref a] w 0 Q ↔ px_op (px_pfd w a [(7, 0)] 1 (.int x)) (fun w' => wp d 85 29 [l0, l1] [] w' 0 Q)) ∧
  (∀ (d : Nat) (l0 l1 : Option Value)  (w : px_H) (Q : Option Value → px_H → Prop), wp d 85 29 [l0, l1] [] w 0 Q ↔ Q none w) := ⟨fun d v0 v1 w Q => r_entry pt_85 (Nat.le_of_ble_eq_true rfl) rfl,
  fun d l1 a w Q => px_go (q := (.aload_n 0, 1, px_x0)) (S' := (1, [some (.ref a), l1], [.ref a], w, 0)) pt_85 rfl rfl,
  fun d l0 l1 a w Q => px_goO (q := (.getfield 15, 3, (10, 1, [(7, 0)], 0, "AllSworn$Trace"))) (S' := fun v => (4, [l0, l1], [v], w, 0)) pt_85 rfl rfl,
  fun d l0 l1 s0 w Q => r_bipush pt_85 rfl (by decide),
  fun d l0 l1 x y w Q => r_icmp_ge pt_85 rfl rfl,
  fun d l1 a w Q => px_go (q := (.aload_n 0, 1, px_x0)) (S' := (10, [some (.ref a), l1], [.ref a], w, 0)) pt_85 rfl rfl,
  fun d l0 l1 a w Q => px_goO (q := (.getfield 11, 3, (10, 0, [(7, 0)], 0, "AllSworn$Trace"))) (S' := fun v => (13, [l0, l1], [v], w, 0)) pt_85 rfl rfl,
  fun d l1 s0 a w Q => px_go (q := (.aload_n 0, 1, px_x0)) (S' := (14, [some (.ref a), l1], [.ref a, s0], w, 0)) pt_85 rfl rfl,
  fun d l0 l1 s1 a w Q => px_goO (q := (.getfield 15, 3, (10, 1, [(7, 0)], 0, "AllSworn$Trace"))) (S' := fun v => (17, [l0, l1], [v, s1], w, 0)) pt_85 rfl rfl,
  fun d l0 s0 s1 x w Q => px_go (q := (.iload_n 1, 1, px_x0)) (S' := (18, [l0, some (.int x)], [.int x, s0, s1], w, 0)) pt_85 rfl rfl,
  fun d l0 l1 x i a w Q => px_goO (q := (.iastore, 1, px_x0)) (S' := fun w' => (19, [l0, l1], [], w', 0)) pt_85 rfl rfl,
  fun d l1 a w Q => px_go (q := (.aload_n 0, 1, px_x0)) (S' := (20, [some (.ref a), l1], [.ref a], w, 0)) pt_85 rfl rfl,
  fun d l0 l1 s0 w Q => px_go (q := (.dup, 1, px_x0)) (S' := (21, [l0, l1], [s0, s0], w, 0)) pt_85 rfl rfl,
  fun d l0 l1 s1 a w Q => px_goO (q := (.getfield 15, 3, (10, 1, [(7, 0)], 0, "AllSworn$Trace"))) (S' := fun v => (24, [l0, l1], [v, s1], w, 0)) pt_85 rfl rfl,
  fun d l0 l1 s0 s1 w Q => r_iconst pt_85 rfl (by decide),
  fun d l0 l1 s2 x y w Q => px_go (q := (.iadd, 1, px_x0)) (S' := (26, [l0, l1], [.int (x + y), s2], w, 0)) pt_85 rfl rfl,
  fun d l0 l1 x a w Q => r_put pt_85 rfl (by simp only [List.all_cons, List.all_nil, ft_7_1, px_fit, px_isr, Bool.and_self]),
  fun d l0 l1 w Q => px_ret (q := (.return_, 1, px_x0)) pt_85 rfl rfl⟩
/-- AllSworn$Trace.numberAt(I)I -/
theorem S86 : (∀ (d : Nat) (v0 v1 : Value) (w : px_H) (Q : Option Value → px_H → Prop), wc d 86 [v0, v1] w Q ↔ wp d 86 0 [some v0, some v1] [] w 0 Q) ∧
  (∀ (d : Nat) (l0 : Option Value) (x : Int32) (w : px_H) (Q : Option Value → px_H → Prop), wp d 86 0 [l0, some (.int x)] [] w 0 Q ↔ wp d 86 1 [l0, some (.int x)] [.int x] w 0 Q) ∧
  (∀ (d : Nat) (l0 l1 : Option Value) (x : Int32) (w : px_H) (Q : Option Value → px_H → Prop), wp d 86 1 [l0, l1] [.int x] w 0 Q ↔ if x < 0 then wp d 86 27 [l0, l1] [] w 0 Q else wp d 86 4 [l0, l1] [] w 0 Q) ∧
  (∀ (d : Nat) (l0 : Option Value) (x : Int32) (w : px_H) (Q : Option Value → px_H → Prop), wp d 86 4 [l0, some (.int x)] [] w 0 Q ↔ wp d 86 5 [l0, some (.int x)] [.int x] w 0 Q) ∧
  (∀ (d : Nat) (l1 : Option Value) (s0 : Value) (a : Nat) (w : px_H) (Q : Option Value → px_H → Prop), wp d 86 5 [some (.ref a), l1] [s0] w 0 Q ↔ wp d 86 6 [some (.ref a), l1] [.ref a, s0] w 0 Q) ∧
  (∀ (d : Nat) (l0 l1 : Option Value) (s1 : Value) (a : Nat) (w : px_H) (Q : Option Value → px_H → Prop), wp d 86 6 [l0, l1] [.ref a, s1] w 0 Q ↔ px_op (px_fld w a [(7, 0)] 1) (fun v => wp d 86 9 [l0, l1] [v, s1] w 0 Q)) ∧
  (∀ (d : Nat) (l0 l1 : Option Value) (x y : Int32) (w : px_H) (Q : Option Value → px_H → Prop), wp d 86 9 [l0, l1] [.int y, .int x] w 0 Q ↔ if y ≤ x then wp d 86 27 [l0, l1] [] w 0 Q else wp d 86 12 [l0, l1] [] w 0 Q) ∧
  (∀ (d : Nat) (l0 : Option Value) (x : Int32) (w : px_H) (Q : Option Value → px_H → Prop), wp d 86 12 [l0, some (.int x)] [] w 0 Q ↔ wp d 86 13 [l0, some (.int x)] [.int x] w 0 Q) ∧
  (∀ (d : Nat) (l0 l1 : Option Value) (s0 : Value)  (w : px_H) (Q : Option Value → px_H → Prop), wp d 86 13 [l0, l1] [s0] w 0 Q ↔ wp d 86 15 [l0, l1] [.int 16, s0] w 0 Q) ∧
  (∀ (d : Nat) (l0 l1 : Option Value) (x y : Int32) (w : px_H) (Q : Option Value → px_H → Prop), wp d 86 15 [l0, l1] [.int y, .int x] w 0 Q ↔ if y ≤ x then wp d 86 27 [l0, l1] [] w 0 Q else wp d 86 18 [l0, l1] [] w 0 Q) ∧
  (∀ (d : Nat) (l1 : Option Value) (a : Nat) (w : px_H) (Q : Option Value → px_H → Prop), wp d 86 18 [some (.ref a), l1] [] w 0 Q ↔ wp d 86 19 [some (.ref a), l1] [.ref a] w 0 Q) ∧
  (∀ (d : Nat) (l0 l1 : Option Value) (a : Nat) (w : px_H) (Q : Option Value → px_H → Prop), wp d 86 19 [l0, l1] [.ref a] w 0 Q ↔ px_op (px_fld w a [(7, 0)] 0) (fun v => wp d 86 22 [l0, l1] [v] w 0 Q)) ∧
  (∀ (d : Nat) (l0 : Option Value) (s0 : Value) (x : Int32) (w : px_H) (Q : Option Value → px_H → Prop), wp d 86 22 [l0, some (.int x)] [s0] w 0 Q ↔ wp d 86 23 [l0, some (.int x)] [.int x, s0] w 0 Q) ∧
  (∀ (d : Nat) (l0 l1 : Option Value) (i : Int32) (a : Nat) (w : px_H) (Q : Option Value → px_H → Prop), wp d 86 23 [l0, l1] [.int i, .ref a] w 0 Q ↔ px_op (px_ald w a i .int) (fun x => wp d 86 24 [l0, l1] [.int x] w 0 Q)) ∧
  (∀ (d : Nat) (l0 l1 : Option Value) (s0 : Value)  (w : px_H) (Q : Option Value → px_H → Prop), wp d 86 24 [l0, l1] [s0] w 0 Q ↔ wp d 86 29 [l0, l1] [s0] w 0 Q) ∧
  (∀ (d : Nat) (l0 l1 : Option Value)  (w : px_H) (Q : Option Value → px_H → Prop), wp d 86 27 [l0, l1] [] w 0 Q ↔ wp d 86 29 [l0, l1] [.int (-1000000)] w 0 Q) ∧
  (∀ (d : Nat) (l0 l1 : Option Value) (x : Int32) (w : px_H) (Q : Option Value → px_H → Prop), wp d 86 29 [l0, l1] [.int x] w 0 Q ↔ Q (some (.int x)) w) := ⟨fun d v0 v1 w Q => r_entry pt_86 (Nat.le_of_ble_eq_true rfl) rfl,
  fun d l0 x w Q => px_go (q := (.iload_n 1, 1, px_x0)) (S' := (1, [l0, some (.int x)], [.int x], w, 0)) pt_86 rfl rfl,
  fun d l0 l1 x w Q => r_if_lt pt_86 rfl rfl,
  fun d l0 x w Q => px_go (q := (.iload_n 1, 1, px_x0)) (S' := (5, [l0, some (.int x)], [.int x], w, 0)) pt_86 rfl rfl,
  fun d l1 s0 a w Q => px_go (q := (.aload_n 0, 1, px_x0)) (S' := (6, [some (.ref a), l1], [.ref a, s0], w, 0)) pt_86 rfl rfl,
  fun d l0 l1 s1 a w Q => px_goO (q := (.getfield 15, 3, (10, 1, [(7, 0)], 0, "AllSworn$Trace"))) (S' := fun v => (9, [l0, l1], [v, s1], w, 0)) pt_86 rfl rfl,
  fun d l0 l1 x y w Q => r_icmp_ge pt_86 rfl rfl,
  fun d l0 x w Q => px_go (q := (.iload_n 1, 1, px_x0)) (S' := (13, [l0, some (.int x)], [.int x], w, 0)) pt_86 rfl rfl,
  fun d l0 l1 s0 w Q => r_bipush pt_86 rfl (by decide),
  fun d l0 l1 x y w Q => r_icmp_ge pt_86 rfl rfl,
  fun d l1 a w Q => px_go (q := (.aload_n 0, 1, px_x0)) (S' := (19, [some (.ref a), l1], [.ref a], w, 0)) pt_86 rfl rfl,
  fun d l0 l1 a w Q => px_goO (q := (.getfield 11, 3, (10, 0, [(7, 0)], 0, "AllSworn$Trace"))) (S' := fun v => (22, [l0, l1], [v], w, 0)) pt_86 rfl rfl,
  fun d l0 s0 x w Q => px_go (q := (.iload_n 1, 1, px_x0)) (S' := (23, [l0, some (.int x)], [.int x, s0], w, 0)) pt_86 rfl rfl,
  fun d l0 l1 i a w Q => px_goO (q := (.iaload, 1, px_x0)) (S' := fun x => (24, [l0, l1], [.int x], w, 0)) pt_86 rfl rfl,
  fun d l0 l1 s0 w Q => r_goto pt_86 rfl rfl,
  fun d l0 l1 w Q => px_go (q := (.ldc 19, 2, (0, 0, [], (-1000000), ""))) (S' := (29, [l0, l1], [.int (-1000000)], w, 0)) pt_86 rfl rfl,
  fun d l0 l1 x w Q => px_ret (q := (.ireturn, 1, px_x0)) pt_86 rfl rfl⟩
/-- AllSworn$Untrue.<init>(III)V -/
theorem S87 : (∀ (d : Nat) (v0 v1 v2 v3 : Value) (w : px_H) (Q : Option Value → px_H → Prop), wc d 87 [v0, v1, v2, v3] w Q ↔ wp d 87 0 [some v0, some v1, some v2, some v3] [] w 0 Q) ∧
  (∀ (d : Nat) (l1 l2 l3 : Option Value) (a : Nat) (w : px_H) (Q : Option Value → px_H → Prop), wp d 87 0 [some (.ref a), l1, l2, l3] [] w 0 Q ↔ wp d 87 1 [some (.ref a), l1, l2, l3] [.ref a] w 0 Q) ∧
  (∀ (d : Nat) (l0 l2 l3 : Option Value) (s0 : Value) (x : Int32) (w : px_H) (Q : Option Value → px_H → Prop), wp d 87 1 [l0, some (.int x), l2, l3] [s0] w 0 Q ↔ wp d 87 2 [l0, some (.int x), l2, l3] [.int x, s0] w 0 Q) ∧
  (∀ (d : Nat) (l0 l1 l3 : Option Value) (s0 s1 : Value) (x : Int32) (w : px_H) (Q : Option Value → px_H → Prop), wp d 87 2 [l0, l1, some (.int x), l3] [s0, s1] w 0 Q ↔ wp d 87 3 [l0, l1, some (.int x), l3] [.int x, s0, s1] w 0 Q) ∧
  (∀ (d : Nat) (l0 l1 l2 : Option Value) (s0 s1 s2 : Value) (x : Int32) (w : px_H) (Q : Option Value → px_H → Prop), wp d 87 3 [l0, l1, l2, some (.int x)] [s0, s1, s2] w 0 Q ↔ wp d 87 4 [l0, l1, l2, some (.int x)] [.int x, s0, s1, s2] w 0 Q) ∧
  (∀ (d : Nat) (l0 l1 l2 l3 : Option Value) (v0 v1 v2 : Value) (b : Nat) (w : px_H) (Q : Option Value → px_H → Prop), wp (d + 1) 87 4 [l0, l1, l2, l3] [v2, v1, v0, .ref b] w 0 Q ↔ wc d 0 [.ref b, v0, v1, v2] w (fun r w' => wp (d + 1) 87 7 [l0, l1, l2, l3] (r.toList ++ []) w' 0 Q)) ∧
  (∀ (d : Nat) (l0 l1 l2 l3 : Option Value)  (w : px_H) (Q : Option Value → px_H → Prop), wp d 87 7 [l0, l1, l2, l3] [] w 0 Q ↔ Q none w) := ⟨fun d v0 v1 v2 v3 w Q => r_entry pt_87 (Nat.le_of_ble_eq_true rfl) rfl,
  fun d l1 l2 l3 a w Q => px_go (q := (.aload_n 0, 1, px_x0)) (S' := (1, [some (.ref a), l1, l2, l3], [.ref a], w, 0)) pt_87 rfl rfl,
  fun d l0 l2 l3 s0 x w Q => px_go (q := (.iload_n 1, 1, px_x0)) (S' := (2, [l0, some (.int x), l2, l3], [.int x, s0], w, 0)) pt_87 rfl rfl,
  fun d l0 l1 l3 s0 s1 x w Q => px_go (q := (.iload_n 2, 1, px_x0)) (S' := (3, [l0, l1, some (.int x), l3], [.int x, s0, s1], w, 0)) pt_87 rfl rfl,
  fun d l0 l1 l2 s0 s1 s2 x w Q => px_go (q := (.iload_n 3, 1, px_x0)) (S' := (4, [l0, l1, l2, some (.int x)], [.int x, s0, s1, s2], w, 0)) pt_87 rfl rfl,
  fun d l0 l1 l2 l3 v0 v1 v2 b w Q => r_call (q := (.invokespecial 3, 3, (31, 3, [(0, 0)], 0, ""))) pt_87 rfl rfl pt_0 (Nat.le_of_ble_eq_true rfl) (Nat.le_of_ble_eq_true rfl) rfl,
  fun d l0 l1 l2 l3 w Q => px_ret (q := (.return_, 1, px_x0)) pt_87 rfl rfl⟩
/-- AllSworn$Untrue.toldKind()I -/
theorem S88 : (∀ (d : Nat) (v0 : Value) (w : px_H) (Q : Option Value → px_H → Prop), wc d 88 [v0] w Q ↔ wp d 88 0 [some v0] [] w 0 Q) ∧
  (∀ (d : Nat) (l0 : Option Value)  (w : px_H) (Q : Option Value → px_H → Prop), wp d 88 0 [l0] [] w 0 Q ↔ wp d 88 1 [l0] [.int 5] w 0 Q) ∧
  (∀ (d : Nat) (l0 : Option Value) (x : Int32) (w : px_H) (Q : Option Value → px_H → Prop), wp d 88 1 [l0] [.int x] w 0 Q ↔ Q (some (.int x)) w) := ⟨fun d v0 w Q => r_entry pt_88 (Nat.le_of_ble_eq_true rfl) rfl,
  fun d l0 w Q => r_iconst pt_88 rfl (by decide),
  fun d l0 x w Q => px_ret (q := (.ireturn, 1, px_x0)) pt_88 rfl rfl⟩
/-- AllSworn$Untrue.isOf(I)Z -/
theorem S89 : (∀ (d : Nat) (v0 v1 : Value) (w : px_H) (Q : Option Value → px_H → Prop), wc d 89 [v0, v1] w Q ↔ wp d 89 0 [some v0, some v1] [] w 0 Q) ∧
  (∀ (d : Nat) (l0 : Option Value) (x : Int32) (w : px_H) (Q : Option Value → px_H → Prop), wp d 89 0 [l0, some (.int x)] [] w 0 Q ↔ wp d 89 1 [l0, some (.int x)] [.int x] w 0 Q) ∧
  (∀ (d : Nat) (l0 l1 : Option Value) (s0 : Value)  (w : px_H) (Q : Option Value → px_H → Prop), wp d 89 1 [l0, l1] [s0] w 0 Q ↔ wp d 89 2 [l0, l1] [.int 5, s0] w 0 Q) ∧
  (∀ (d : Nat) (l0 l1 : Option Value) (x y : Int32) (w : px_H) (Q : Option Value → px_H → Prop), wp d 89 2 [l0, l1] [.int y, .int x] w 0 Q ↔ if x = y then wp d 89 13 [l0, l1] [] w 0 Q else wp d 89 5 [l0, l1] [] w 0 Q) ∧
  (∀ (d : Nat) (l1 : Option Value) (a : Nat) (w : px_H) (Q : Option Value → px_H → Prop), wp d 89 5 [some (.ref a), l1] [] w 0 Q ↔ wp d 89 6 [some (.ref a), l1] [.ref a] w 0 Q) ∧
  (∀ (d : Nat) (l0 : Option Value) (s0 : Value) (x : Int32) (w : px_H) (Q : Option Value → px_H → Prop), wp d 89 6 [l0, some (.int x)] [s0] w 0 Q ↔ wp d 89 7 [l0, some (.int x)] [.int x, s0] w 0 Q) ∧
  (∀ (d : Nat) (l0 l1 : Option Value) (v0 : Value) (b : Nat) (w : px_H) (Q : Option Value → px_H → Prop), wp (d + 1) 89 7 [l0, l1] [v0, .ref b] w 0 Q ↔ px_op (px_cls w b) (fun _ => wc d 2 [.ref b, v0] w (fun r w' => wp (d + 1) 89 10 [l0, l1] (r.toList ++ []) w' 0 Q))) ∧
  (∀ (d : Nat) (l0 l1 : Option Value) (x : Int32) (w : px_H) (Q : Option Value → px_H → Prop), wp d 89 10 [l0, l1] [.int x] w 0 Q ↔ if x = 0 then wp d 89 17 [l0, l1] [] w 0 Q else wp d 89 13 [l0, l1] [] w 0 Q) ∧
  (∀ (d : Nat) (l0 l1 : Option Value)  (w : px_H) (Q : Option Value → px_H → Prop), wp d 89 13 [l0, l1] [] w 0 Q ↔ wp d 89 14 [l0, l1] [.int 1] w 0 Q) ∧
  (∀ (d : Nat) (l0 l1 : Option Value) (s0 : Value)  (w : px_H) (Q : Option Value → px_H → Prop), wp d 89 14 [l0, l1] [s0] w 0 Q ↔ wp d 89 18 [l0, l1] [s0] w 0 Q) ∧
  (∀ (d : Nat) (l0 l1 : Option Value)  (w : px_H) (Q : Option Value → px_H → Prop), wp d 89 17 [l0, l1] [] w 0 Q ↔ wp d 89 18 [l0, l1] [.int 0] w 0 Q) ∧
  (∀ (d : Nat) (l0 l1 : Option Value) (x : Int32) (w : px_H) (Q : Option Value → px_H → Prop), wp d 89 18 [l0, l1] [.int x] w 0 Q ↔ (x = 0 ∨ x = 1) ∧ Q (some (.int x)) w) := ⟨fun d v0 v1 w Q => r_entry pt_89 (Nat.le_of_ble_eq_true rfl) rfl,
  fun d l0 x w Q => px_go (q := (.iload_n 1, 1, px_x0)) (S' := (1, [l0, some (.int x)], [.int x], w, 0)) pt_89 rfl rfl,
  fun d l0 l1 s0 w Q => r_iconst pt_89 rfl (by decide),
  fun d l0 l1 x y w Q => r_icmp_eq pt_89 rfl rfl,
  fun d l1 a w Q => px_go (q := (.aload_n 0, 1, px_x0)) (S' := (6, [some (.ref a), l1], [.ref a], w, 0)) pt_89 rfl rfl,
  fun d l0 s0 x w Q => px_go (q := (.iload_n 1, 1, px_x0)) (S' := (7, [l0, some (.int x)], [.int x, s0], w, 0)) pt_89 rfl rfl,
  fun d l0 l1 v0 b w Q => r_callO (q := (.invokespecial 9, 3, (35, 1, [(0, 2)], 0, ""))) (G := fun _ => m_X0_isOf) pt_89 rfl rfl (fun _ _ => ⟨pt_2, Nat.le_of_ble_eq_true rfl, (Nat.le_of_ble_eq_true rfl), rfl⟩),
  fun d l0 l1 x w Q => r_if_eq pt_89 rfl rfl,
  fun d l0 l1 w Q => r_iconst pt_89 rfl (by decide),
  fun d l0 l1 s0 w Q => r_goto pt_89 rfl rfl,
  fun d l0 l1 w Q => r_iconst pt_89 rfl (by decide),
  fun d l0 l1 x w Q => px_retI (q := (.ireturn, 1, px_x0)) pt_89 rfl rfl⟩
/-- AllSworn$Untrue.isHeldBy(I)Z -/
theorem S90 : (∀ (d : Nat) (v0 v1 : Value) (w : px_H) (Q : Option Value → px_H → Prop), wc d 90 [v0, v1] w Q ↔ wp d 90 0 [some v0, some v1] [] w 0 Q) ∧
  (∀ (d : Nat) (l0 l1 : Option Value)  (w : px_H) (Q : Option Value → px_H → Prop), wp d 90 0 [l0, l1] [] w 0 Q ↔ wp d 90 1 [l0, l1] [.int 0] w 0 Q) ∧
  (∀ (d : Nat) (l0 l1 : Option Value) (x : Int32) (w : px_H) (Q : Option Value → px_H → Prop), wp d 90 1 [l0, l1] [.int x] w 0 Q ↔ (x = 0 ∨ x = 1) ∧ Q (some (.int x)) w) := ⟨fun d v0 v1 w Q => r_entry pt_90 (Nat.le_of_ble_eq_true rfl) rfl,
  fun d l0 l1 w Q => r_iconst pt_90 rfl (by decide),
  fun d l0 l1 x w Q => px_retI (q := (.ireturn, 1, px_x0)) pt_90 rfl rfl⟩
/-- AllSworn$Untrue.size(LAllSworn$Trace;LAllSworn$Realm;)I -/
theorem S91 : (∀ (d : Nat) (v0 v1 v2 : Value) (w : px_H) (Q : Option Value → px_H → Prop), wc d 91 [v0, v1, v2] w Q ↔ wp d 91 0 [some v0, some v1, some v2] [] w 0 Q) ∧
  (∀ (d : Nat) (l0 l2 : Option Value) (a : Nat) (w : px_H) (Q : Option Value → px_H → Prop), wp d 91 0 [l0, some (.ref a), l2] [] w 0 Q ↔ wp d 91 1 [l0, some (.ref a), l2] [.ref a] w 0 Q) ∧
  (∀ (d : Nat) (l0 l2 : Option Value)  (w : px_H) (Q : Option Value → px_H → Prop), wp d 91 0 [l0, some .null, l2] [] w 0 Q ↔ wp d 91 1 [l0, some .null, l2] [.null] w 0 Q) ∧
  (∀ (d : Nat) (l0 l1 l2 : Option Value) (s0 : Value)  (w : px_H) (Q : Option Value → px_H → Prop), wp d 91 1 [l0, l1, l2] [s0] w 0 Q ↔ wp d 91 3 [l0, l1, l2] [.int 14, s0] w 0 Q) ∧
  (∀ (d : Nat) (l0 l1 l2 : Option Value) (v0 : Value) (b : Nat) (w : px_H) (Q : Option Value → px_H → Prop), wp (d + 1) 91 3 [l0, l1, l2] [v0, .ref b] w 0 Q ↔ px_op (px_tgt w b [(7, 85)]) (fun v => wc d v [.ref b, v0] w (fun r w' => wp (d + 1) 91 6 [l0, l1, l2] (r.toList ++ []) w' 0 Q))) ∧
  (∀ (d : Nat) (l0 l1 l2 : Option Value)  (w : px_H) (Q : Option Value → px_H → Prop), wp d 91 6 [l0, l1, l2] [] w 0 Q ↔ wp d 91 7 [l0, l1, l2] [.int 2] w 0 Q) ∧
  (∀ (d : Nat) (l1 l2 : Option Value) (s0 : Value) (a : Nat) (w : px_H) (Q : Option Value → px_H → Prop), wp d 91 7 [some (.ref a), l1, l2] [s0] w 0 Q ↔ wp d 91 8 [some (.ref a), l1, l2] [.ref a, s0] w 0 Q) ∧
  (∀ (d : Nat) (l0 l2 : Option Value) (s0 s1 : Value) (a : Nat) (w : px_H) (Q : Option Value → px_H → Prop), wp d 91 8 [l0, some (.ref a), l2] [s0, s1] w 0 Q ↔ wp d 91 9 [l0, some (.ref a), l2] [.ref a, s0, s1] w 0 Q) ∧
  (∀ (d : Nat) (l0 l2 : Option Value) (s0 s1 : Value)  (w : px_H) (Q : Option Value → px_H → Prop), wp d 91 8 [l0, some .null, l2] [s0, s1] w 0 Q ↔ wp d 91 9 [l0, some .null, l2] [.null, s0, s1] w 0 Q) ∧
  (∀ (d : Nat) (l0 l1 : Option Value) (s0 s1 s2 : Value) (a : Nat) (w : px_H) (Q : Option Value → px_H → Prop), wp d 91 9 [l0, l1, some (.ref a)] [s0, s1, s2] w 0 Q ↔ wp d 91 10 [l0, l1, some (.ref a)] [.ref a, s0, s1, s2] w 0 Q) ∧
  (∀ (d : Nat) (l0 l1 : Option Value) (s0 s1 s2 : Value)  (w : px_H) (Q : Option Value → px_H → Prop), wp d 91 9 [l0, l1, some .null] [s0, s1, s2] w 0 Q ↔ wp d 91 10 [l0, l1, some .null] [.null, s0, s1, s2] w 0 Q) ∧
  (∀ (d : Nat) (l0 l1 l2 : Option Value) (s3 : Value) (v0 v1 : Value) (b : Nat) (w : px_H) (Q : Option Value → px_H → Prop), wp (d + 1) 91 10 [l0, l1, l2] [v1, v0, .ref b, s3] w 0 Q ↔ px_op (px_cls w b) (fun _ => wc d 4 [.ref b, v0, v1] w (fun r w' => wp (d + 1) 91 13 [l0, l1, l2] (r.toList ++ [s3]) w' 0 Q))) ∧
  (∀ (d : Nat) (l0 l1 l2 : Option Value) (x y : Int32) (w : px_H) (Q : Option Value → px_H → Prop), wp d 91 13 [l0, l1, l2] [.int y, .int x] w 0 Q ↔ wp d 91 14 [l0, l1, l2] [.int (x * y)] w 0 Q) ∧
  (∀ (d : Nat) (l0 l1 l2 : Option Value) (x : Int32) (w : px_H) (Q : Option Value → px_H → Prop), wp d 91 14 [l0, l1, l2] [.int x] w 0 Q ↔ Q (some (.int x)) w) := ⟨fun d v0 v1 v2 w Q => r_entry pt_91 (Nat.le_of_ble_eq_true rfl) rfl,
  fun d l0 l2 a w Q => px_go (q := (.aload_n 1, 1, px_x0)) (S' := (1, [l0, some (.ref a), l2], [.ref a], w, 0)) pt_91 rfl rfl,
  fun d l0 l2 w Q => px_go (q := (.aload_n 1, 1, px_x0)) (S' := (1, [l0, some .null, l2], [.null], w, 0)) pt_91 rfl rfl,
  fun d l0 l1 l2 s0 w Q => r_bipush pt_91 rfl (by decide),
  fun d l0 l1 l2 v0 b w Q => r_callV (q := (.invokevirtual 13, 3, (33, 1, [(7, 85)], 0, ""))) pt_91 rfl rfl (List.forall_mem_cons.mpr ⟨⟨_, pt_85, Nat.le_of_ble_eq_true rfl, (Nat.le_of_ble_eq_true rfl), rfl⟩, fun _ h => absurd h List.not_mem_nil⟩),
  fun d l0 l1 l2 w Q => r_iconst pt_91 rfl (by decide),
  fun d l1 l2 s0 a w Q => px_go (q := (.aload_n 0, 1, px_x0)) (S' := (8, [some (.ref a), l1, l2], [.ref a, s0], w, 0)) pt_91 rfl rfl,
  fun d l0 l2 s0 s1 a w Q => px_go (q := (.aload_n 1, 1, px_x0)) (S' := (9, [l0, some (.ref a), l2], [.ref a, s0, s1], w, 0)) pt_91 rfl rfl,
  fun d l0 l2 s0 s1 w Q => px_go (q := (.aload_n 1, 1, px_x0)) (S' := (9, [l0, some .null, l2], [.null, s0, s1], w, 0)) pt_91 rfl rfl,
  fun d l0 l1 s0 s1 s2 a w Q => px_go (q := (.aload_n 2, 1, px_x0)) (S' := (10, [l0, l1, some (.ref a)], [.ref a, s0, s1, s2], w, 0)) pt_91 rfl rfl,
  fun d l0 l1 s0 s1 s2 w Q => px_go (q := (.aload_n 2, 1, px_x0)) (S' := (10, [l0, l1, some .null], [.null, s0, s1, s2], w, 0)) pt_91 rfl rfl,
  fun d l0 l1 l2 s3 v0 v1 b w Q => r_callO (q := (.invokespecial 19, 3, (35, 2, [(0, 4)], 0, ""))) (G := fun _ => m_X0_size) pt_91 rfl rfl (fun _ _ => ⟨pt_4, Nat.le_of_ble_eq_true rfl, (Nat.le_of_ble_eq_true rfl), rfl⟩),
  fun d l0 l1 l2 x y w Q => px_go (q := (.imul, 1, px_x0)) (S' := (14, [l0, l1, l2], [.int (x * y)], w, 0)) pt_91 rfl rfl,
  fun d l0 l1 l2 x w Q => px_ret (q := (.ireturn, 1, px_x0)) pt_91 rfl rfl⟩
/-- AllSworn$Young.<init>(III)V -/
theorem S92 : (∀ (d : Nat) (v0 v1 v2 v3 : Value) (w : px_H) (Q : Option Value → px_H → Prop), wc d 92 [v0, v1, v2, v3] w Q ↔ wp d 92 0 [some v0, some v1, some v2, some v3] [] w 0 Q) ∧
  (∀ (d : Nat) (l1 l2 l3 : Option Value) (a : Nat) (w : px_H) (Q : Option Value → px_H → Prop), wp d 92 0 [some (.ref a), l1, l2, l3] [] w 0 Q ↔ wp d 92 1 [some (.ref a), l1, l2, l3] [.ref a] w 0 Q) ∧
  (∀ (d : Nat) (l0 l2 l3 : Option Value) (s0 : Value) (x : Int32) (w : px_H) (Q : Option Value → px_H → Prop), wp d 92 1 [l0, some (.int x), l2, l3] [s0] w 0 Q ↔ wp d 92 2 [l0, some (.int x), l2, l3] [.int x, s0] w 0 Q) ∧
  (∀ (d : Nat) (l0 l1 l3 : Option Value) (s0 s1 : Value) (x : Int32) (w : px_H) (Q : Option Value → px_H → Prop), wp d 92 2 [l0, l1, some (.int x), l3] [s0, s1] w 0 Q ↔ wp d 92 3 [l0, l1, some (.int x), l3] [.int x, s0, s1] w 0 Q) ∧
  (∀ (d : Nat) (l0 l1 l2 : Option Value) (s0 s1 s2 : Value) (x : Int32) (w : px_H) (Q : Option Value → px_H → Prop), wp d 92 3 [l0, l1, l2, some (.int x)] [s0, s1, s2] w 0 Q ↔ wp d 92 4 [l0, l1, l2, some (.int x)] [.int x, s0, s1, s2] w 0 Q) ∧
  (∀ (d : Nat) (l0 l1 l2 l3 : Option Value) (v0 v1 v2 : Value) (b : Nat) (w : px_H) (Q : Option Value → px_H → Prop), wp (d + 1) 92 4 [l0, l1, l2, l3] [v2, v1, v0, .ref b] w 0 Q ↔ wc d 25 [.ref b, v0, v1, v2] w (fun r w' => wp (d + 1) 92 7 [l0, l1, l2, l3] (r.toList ++ []) w' 0 Q)) ∧
  (∀ (d : Nat) (l0 l1 l2 l3 : Option Value)  (w : px_H) (Q : Option Value → px_H → Prop), wp d 92 7 [l0, l1, l2, l3] [] w 0 Q ↔ Q none w) := ⟨fun d v0 v1 v2 v3 w Q => r_entry pt_92 (Nat.le_of_ble_eq_true rfl) rfl,
  fun d l1 l2 l3 a w Q => px_go (q := (.aload_n 0, 1, px_x0)) (S' := (1, [some (.ref a), l1, l2, l3], [.ref a], w, 0)) pt_92 rfl rfl,
  fun d l0 l2 l3 s0 x w Q => px_go (q := (.iload_n 1, 1, px_x0)) (S' := (2, [l0, some (.int x), l2, l3], [.int x, s0], w, 0)) pt_92 rfl rfl,
  fun d l0 l1 l3 s0 s1 x w Q => px_go (q := (.iload_n 2, 1, px_x0)) (S' := (3, [l0, l1, some (.int x), l3], [.int x, s0, s1], w, 0)) pt_92 rfl rfl,
  fun d l0 l1 l2 s0 s1 s2 x w Q => px_go (q := (.iload_n 3, 1, px_x0)) (S' := (4, [l0, l1, l2, some (.int x)], [.int x, s0, s1, s2], w, 0)) pt_92 rfl rfl,
  fun d l0 l1 l2 l3 v0 v1 v2 b w Q => r_call (q := (.invokespecial 3, 3, (31, 3, [(0, 25)], 0, ""))) pt_92 rfl rfl pt_25 (Nat.le_of_ble_eq_true rfl) (Nat.le_of_ble_eq_true rfl) rfl,
  fun d l0 l1 l2 l3 w Q => px_ret (q := (.return_, 1, px_x0)) pt_92 rfl rfl⟩
/-- AllSworn$Young.toldKind()I -/
theorem S93 : (∀ (d : Nat) (v0 : Value) (w : px_H) (Q : Option Value → px_H → Prop), wc d 93 [v0] w Q ↔ wp d 93 0 [some v0] [] w 0 Q) ∧
  (∀ (d : Nat) (l0 : Option Value)  (w : px_H) (Q : Option Value → px_H → Prop), wp d 93 0 [l0] [] w 0 Q ↔ wp d 93 1 [l0] [.int 3] w 0 Q) ∧
  (∀ (d : Nat) (l0 : Option Value) (x : Int32) (w : px_H) (Q : Option Value → px_H → Prop), wp d 93 1 [l0] [.int x] w 0 Q ↔ Q (some (.int x)) w) := ⟨fun d v0 w Q => r_entry pt_93 (Nat.le_of_ble_eq_true rfl) rfl,
  fun d l0 w Q => r_iconst pt_93 rfl (by decide),
  fun d l0 x w Q => px_ret (q := (.ireturn, 1, px_x0)) pt_93 rfl rfl⟩
/-- AllSworn$Young.isOf(I)Z -/
theorem S94 : (∀ (d : Nat) (v0 v1 : Value) (w : px_H) (Q : Option Value → px_H → Prop), wc d 94 [v0, v1] w Q ↔ wp d 94 0 [some v0, some v1] [] w 0 Q) ∧
  (∀ (d : Nat) (l0 : Option Value) (x : Int32) (w : px_H) (Q : Option Value → px_H → Prop), wp d 94 0 [l0, some (.int x)] [] w 0 Q ↔ wp d 94 1 [l0, some (.int x)] [.int x] w 0 Q) ∧
  (∀ (d : Nat) (l0 l1 : Option Value) (s0 : Value)  (w : px_H) (Q : Option Value → px_H → Prop), wp d 94 1 [l0, l1] [s0] w 0 Q ↔ wp d 94 2 [l0, l1] [.int 3, s0] w 0 Q) ∧
  (∀ (d : Nat) (l0 l1 : Option Value) (x y : Int32) (w : px_H) (Q : Option Value → px_H → Prop), wp d 94 2 [l0, l1] [.int y, .int x] w 0 Q ↔ if x = y then wp d 94 13 [l0, l1] [] w 0 Q else wp d 94 5 [l0, l1] [] w 0 Q) ∧
  (∀ (d : Nat) (l1 : Option Value) (a : Nat) (w : px_H) (Q : Option Value → px_H → Prop), wp d 94 5 [some (.ref a), l1] [] w 0 Q ↔ wp d 94 6 [some (.ref a), l1] [.ref a] w 0 Q) ∧
  (∀ (d : Nat) (l0 : Option Value) (s0 : Value) (x : Int32) (w : px_H) (Q : Option Value → px_H → Prop), wp d 94 6 [l0, some (.int x)] [s0] w 0 Q ↔ wp d 94 7 [l0, some (.int x)] [.int x, s0] w 0 Q) ∧
  (∀ (d : Nat) (l0 l1 : Option Value) (v0 : Value) (b : Nat) (w : px_H) (Q : Option Value → px_H → Prop), wp (d + 1) 94 7 [l0, l1] [v0, .ref b] w 0 Q ↔ px_op (px_cls w b) (fun _ => wc d 27 [.ref b, v0] w (fun r w' => wp (d + 1) 94 10 [l0, l1] (r.toList ++ []) w' 0 Q))) ∧
  (∀ (d : Nat) (l0 l1 : Option Value) (x : Int32) (w : px_H) (Q : Option Value → px_H → Prop), wp d 94 10 [l0, l1] [.int x] w 0 Q ↔ if x = 0 then wp d 94 17 [l0, l1] [] w 0 Q else wp d 94 13 [l0, l1] [] w 0 Q) ∧
  (∀ (d : Nat) (l0 l1 : Option Value)  (w : px_H) (Q : Option Value → px_H → Prop), wp d 94 13 [l0, l1] [] w 0 Q ↔ wp d 94 14 [l0, l1] [.int 1] w 0 Q) ∧
  (∀ (d : Nat) (l0 l1 : Option Value) (s0 : Value)  (w : px_H) (Q : Option Value → px_H → Prop), wp d 94 14 [l0, l1] [s0] w 0 Q ↔ wp d 94 18 [l0, l1] [s0] w 0 Q) ∧
  (∀ (d : Nat) (l0 l1 : Option Value)  (w : px_H) (Q : Option Value → px_H → Prop), wp d 94 17 [l0, l1] [] w 0 Q ↔ wp d 94 18 [l0, l1] [.int 0] w 0 Q) ∧
  (∀ (d : Nat) (l0 l1 : Option Value) (x : Int32) (w : px_H) (Q : Option Value → px_H → Prop), wp d 94 18 [l0, l1] [.int x] w 0 Q ↔ (x = 0 ∨ x = 1) ∧ Q (some (.int x)) w) := ⟨fun d v0 v1 w Q => r_entry pt_94 (Nat.le_of_ble_eq_true rfl) rfl,
  fun d l0 x w Q => px_go (q := (.iload_n 1, 1, px_x0)) (S' := (1, [l0, some (.int x)], [.int x], w, 0)) pt_94 rfl rfl,
  fun d l0 l1 s0 w Q => r_iconst pt_94 rfl (by decide),
  fun d l0 l1 x y w Q => r_icmp_eq pt_94 rfl rfl,
  fun d l1 a w Q => px_go (q := (.aload_n 0, 1, px_x0)) (S' := (6, [some (.ref a), l1], [.ref a], w, 0)) pt_94 rfl rfl,
  fun d l0 s0 x w Q => px_go (q := (.iload_n 1, 1, px_x0)) (S' := (7, [l0, some (.int x)], [.int x, s0], w, 0)) pt_94 rfl rfl,
  fun d l0 l1 v0 b w Q => r_callO (q := (.invokespecial 9, 3, (35, 1, [(0, 27)], 0, ""))) (G := fun _ => m_X3_isOf) pt_94 rfl rfl (fun _ _ => ⟨pt_27, Nat.le_of_ble_eq_true rfl, (Nat.le_of_ble_eq_true rfl), rfl⟩),
  fun d l0 l1 x w Q => r_if_eq pt_94 rfl rfl,
  fun d l0 l1 w Q => r_iconst pt_94 rfl (by decide),
  fun d l0 l1 s0 w Q => r_goto pt_94 rfl rfl,
  fun d l0 l1 w Q => r_iconst pt_94 rfl (by decide),
  fun d l0 l1 x w Q => px_retI (q := (.ireturn, 1, px_x0)) pt_94 rfl rfl⟩
/-- AllSworn$Young.swearsOn(I)Z -/
theorem S95 : (∀ (d : Nat) (v0 v1 : Value) (w : px_H) (Q : Option Value → px_H → Prop), wc d 95 [v0, v1] w Q ↔ wp d 95 0 [some v0, some v1] [] w 0 Q) ∧
  (∀ (d : Nat) (l0 : Option Value) (x : Int32) (w : px_H) (Q : Option Value → px_H → Prop), wp d 95 0 [l0, some (.int x)] [] w 0 Q ↔ wp d 95 1 [l0, some (.int x)] [.int x] w 0 Q) ∧
  (∀ (d : Nat) (l0 l1 : Option Value) (s0 : Value)  (w : px_H) (Q : Option Value → px_H → Prop), wp d 95 1 [l0, l1] [s0] w 0 Q ↔ wp d 95 3 [l0, l1] [.int 10, s0] w 0 Q) ∧
  (∀ (d : Nat) (l0 l1 : Option Value) (x y : Int32) (w : px_H) (Q : Option Value → px_H → Prop), wp d 95 3 [l0, l1] [.int y, .int x] w 0 Q ↔ if x < y then wp d 95 10 [l0, l1] [] w 0 Q else wp d 95 6 [l0, l1] [] w 0 Q) ∧
  (∀ (d : Nat) (l0 l1 : Option Value)  (w : px_H) (Q : Option Value → px_H → Prop), wp d 95 6 [l0, l1] [] w 0 Q ↔ wp d 95 7 [l0, l1] [.int 1] w 0 Q) ∧
  (∀ (d : Nat) (l0 l1 : Option Value) (s0 : Value)  (w : px_H) (Q : Option Value → px_H → Prop), wp d 95 7 [l0, l1] [s0] w 0 Q ↔ wp d 95 11 [l0, l1] [s0] w 0 Q) ∧
  (∀ (d : Nat) (l0 l1 : Option Value)  (w : px_H) (Q : Option Value → px_H → Prop), wp d 95 10 [l0, l1] [] w 0 Q ↔ wp d 95 11 [l0, l1] [.int 0] w 0 Q) ∧
  (∀ (d : Nat) (l0 l1 : Option Value) (x : Int32) (w : px_H) (Q : Option Value → px_H → Prop), wp d 95 11 [l0, l1] [.int x] w 0 Q ↔ (x = 0 ∨ x = 1) ∧ Q (some (.int x)) w) := ⟨fun d v0 v1 w Q => r_entry pt_95 (Nat.le_of_ble_eq_true rfl) rfl,
  fun d l0 x w Q => px_go (q := (.iload_n 1, 1, px_x0)) (S' := (1, [l0, some (.int x)], [.int x], w, 0)) pt_95 rfl rfl,
  fun d l0 l1 s0 w Q => r_bipush pt_95 rfl (by decide),
  fun d l0 l1 x y w Q => r_icmp_lt pt_95 rfl rfl,
  fun d l0 l1 w Q => r_iconst pt_95 rfl (by decide),
  fun d l0 l1 s0 w Q => r_goto pt_95 rfl rfl,
  fun d l0 l1 w Q => r_iconst pt_95 rfl (by decide),
  fun d l0 l1 x w Q => px_retI (q := (.ireturn, 1, px_x0)) pt_95 rfl rfl⟩
/-- AllSworn$Young.mark(LAllSworn$Trace;LAllSworn$Realm;)I -/
theorem S96 : (∀ (d : Nat) (v0 v1 v2 : Value) (w : px_H) (Q : Option Value → px_H → Prop), wc d 96 [v0, v1, v2] w Q ↔ wp d 96 0 [some v0, some v1, some v2] [] w 0 Q) ∧
  (∀ (d : Nat) (l0 l2 : Option Value) (a : Nat) (w : px_H) (Q : Option Value → px_H → Prop), wp d 96 0 [l0, some (.ref a), l2] [] w 0 Q ↔ wp d 96 1 [l0, some (.ref a), l2] [.ref a] w 0 Q) ∧
  (∀ (d : Nat) (l0 l2 : Option Value)  (w : px_H) (Q : Option Value → px_H → Prop), wp d 96 0 [l0, some .null, l2] [] w 0 Q ↔ wp d 96 1 [l0, some .null, l2] [.null] w 0 Q) ∧
  (∀ (d : Nat) (l0 l1 l2 : Option Value) (s0 : Value)  (w : px_H) (Q : Option Value → px_H → Prop), wp d 96 1 [l0, l1, l2] [s0] w 0 Q ↔ wp d 96 3 [l0, l1, l2] [.int 22, s0] w 0 Q) ∧
  (∀ (d : Nat) (l0 l1 l2 : Option Value) (v0 : Value) (b : Nat) (w : px_H) (Q : Option Value → px_H → Prop), wp (d + 1) 96 3 [l0, l1, l2] [v0, .ref b] w 0 Q ↔ px_op (px_tgt w b [(7, 85)]) (fun v => wc d v [.ref b, v0] w (fun r w' => wp (d + 1) 96 6 [l0, l1, l2] (r.toList ++ []) w' 0 Q))) ∧
  (∀ (d : Nat) (l1 l2 : Option Value) (a : Nat) (w : px_H) (Q : Option Value → px_H → Prop), wp d 96 6 [some (.ref a), l1, l2] [] w 0 Q ↔ wp d 96 7 [some (.ref a), l1, l2] [.ref a] w 0 Q) ∧
  (∀ (d : Nat) (l0 l2 : Option Value) (s0 : Value) (a : Nat) (w : px_H) (Q : Option Value → px_H → Prop), wp d 96 7 [l0, some (.ref a), l2] [s0] w 0 Q ↔ wp d 96 8 [l0, some (.ref a), l2] [.ref a, s0] w 0 Q) ∧
  (∀ (d : Nat) (l0 l2 : Option Value) (s0 : Value)  (w : px_H) (Q : Option Value → px_H → Prop), wp d 96 7 [l0, some .null, l2] [s0] w 0 Q ↔ wp d 96 8 [l0, some .null, l2] [.null, s0] w 0 Q) ∧
  (∀ (d : Nat) (l0 l1 : Option Value) (s0 s1 : Value) (a : Nat) (w : px_H) (Q : Option Value → px_H → Prop), wp d 96 8 [l0, l1, some (.ref a)] [s0, s1] w 0 Q ↔ wp d 96 9 [l0, l1, some (.ref a)] [.ref a, s0, s1] w 0 Q) ∧
  (∀ (d : Nat) (l0 l1 : Option Value) (s0 s1 : Value)  (w : px_H) (Q : Option Value → px_H → Prop), wp d 96 8 [l0, l1, some .null] [s0, s1] w 0 Q ↔ wp d 96 9 [l0, l1, some .null] [.null, s0, s1] w 0 Q) ∧
  (∀ (d : Nat) (l0 l1 l2 : Option Value) (v0 v1 : Value) (b : Nat) (w : px_H) (Q : Option Value → px_H → Prop), wp (d + 1) 96 9 [l0, l1, l2] [v1, v0, .ref b] w 0 Q ↔ px_op (px_cls w b) (fun _ => wc d 29 [.ref b, v0, v1] w (fun r w' => wp (d + 1) 96 12 [l0, l1, l2] (r.toList ++ []) w' 0 Q))) ∧
  (∀ (d : Nat) (l0 l1 l2 : Option Value) (s0 : Value)  (w : px_H) (Q : Option Value → px_H → Prop), wp d 96 12 [l0, l1, l2] [s0] w 0 Q ↔ wp d 96 15 [l0, l1, l2] [.int 1000, s0] w 0 Q) ∧
  (∀ (d : Nat) (l0 l1 l2 : Option Value) (x y : Int32) (w : px_H) (Q : Option Value → px_H → Prop), wp d 96 15 [l0, l1, l2] [.int y, .int x] w 0 Q ↔ wp d 96 16 [l0, l1, l2] [.int (x - y)] w 0 Q) ∧
  (∀ (d : Nat) (l0 l1 l2 : Option Value) (x : Int32) (w : px_H) (Q : Option Value → px_H → Prop), wp d 96 16 [l0, l1, l2] [.int x] w 0 Q ↔ Q (some (.int x)) w) := ⟨fun d v0 v1 v2 w Q => r_entry pt_96 (Nat.le_of_ble_eq_true rfl) rfl,
  fun d l0 l2 a w Q => px_go (q := (.aload_n 1, 1, px_x0)) (S' := (1, [l0, some (.ref a), l2], [.ref a], w, 0)) pt_96 rfl rfl,
  fun d l0 l2 w Q => px_go (q := (.aload_n 1, 1, px_x0)) (S' := (1, [l0, some .null, l2], [.null], w, 0)) pt_96 rfl rfl,
  fun d l0 l1 l2 s0 w Q => r_bipush pt_96 rfl (by decide),
  fun d l0 l1 l2 v0 b w Q => r_callV (q := (.invokevirtual 13, 3, (33, 1, [(7, 85)], 0, ""))) pt_96 rfl rfl (List.forall_mem_cons.mpr ⟨⟨_, pt_85, Nat.le_of_ble_eq_true rfl, (Nat.le_of_ble_eq_true rfl), rfl⟩, fun _ h => absurd h List.not_mem_nil⟩),
  fun d l1 l2 a w Q => px_go (q := (.aload_n 0, 1, px_x0)) (S' := (7, [some (.ref a), l1, l2], [.ref a], w, 0)) pt_96 rfl rfl,
  fun d l0 l2 s0 a w Q => px_go (q := (.aload_n 1, 1, px_x0)) (S' := (8, [l0, some (.ref a), l2], [.ref a, s0], w, 0)) pt_96 rfl rfl,
  fun d l0 l2 s0 w Q => px_go (q := (.aload_n 1, 1, px_x0)) (S' := (8, [l0, some .null, l2], [.null, s0], w, 0)) pt_96 rfl rfl,
  fun d l0 l1 s0 s1 a w Q => px_go (q := (.aload_n 2, 1, px_x0)) (S' := (9, [l0, l1, some (.ref a)], [.ref a, s0, s1], w, 0)) pt_96 rfl rfl,
  fun d l0 l1 s0 s1 w Q => px_go (q := (.aload_n 2, 1, px_x0)) (S' := (9, [l0, l1, some .null], [.null, s0, s1], w, 0)) pt_96 rfl rfl,
  fun d l0 l1 l2 v0 v1 b w Q => r_callO (q := (.invokespecial 19, 3, (35, 2, [(0, 29)], 0, ""))) (G := fun _ => m_X3_mark) pt_96 rfl rfl (fun _ _ => ⟨pt_29, Nat.le_of_ble_eq_true rfl, (Nat.le_of_ble_eq_true rfl), rfl⟩),
  fun d l0 l1 l2 s0 w Q => r_sipush pt_96 rfl (by decide),
  fun d l0 l1 l2 x y w Q => px_go (q := (.isub, 1, px_x0)) (S' := (16, [l0, l1, l2], [.int (x - y)], w, 0)) pt_96 rfl rfl,
  fun d l0 l1 l2 x w Q => px_ret (q := (.ireturn, 1, px_x0)) pt_96 rfl rfl⟩
/-- java/lang/Integer.bitCount(I)I -/
theorem S222 : (∀ (d : Nat) (v0 : Value) (w : px_H) (Q : Option Value → px_H → Prop), wc d 222 [v0] w Q ↔ wp d 222 0 [some v0] [] w 0 Q) ∧
  (∀ (d : Nat) (x : Int32) (w : px_H) (Q : Option Value → px_H → Prop), wp d 222 0 [some (.int x)] [] w 0 Q ↔ wp d 222 1 [some (.int x)] [.int x] w 0 Q) ∧
  (∀ (d : Nat) (s0 : Value) (x : Int32) (w : px_H) (Q : Option Value → px_H → Prop), wp d 222 1 [some (.int x)] [s0] w 0 Q ↔ wp d 222 2 [some (.int x)] [.int x, s0] w 0 Q) ∧
  (∀ (d : Nat) (l0 : Option Value) (s0 s1 : Value)  (w : px_H) (Q : Option Value → px_H → Prop), wp d 222 2 [l0] [s0, s1] w 0 Q ↔ wp d 222 3 [l0] [.int 1, s0, s1] w 0 Q) ∧
  (∀ (d : Nat) (l0 : Option Value) (s2 : Value) (x y : Int32) (w : px_H) (Q : Option Value → px_H → Prop), wp d 222 3 [l0] [.int y, .int x, s2] w 0 Q ↔ wp d 222 4 [l0] [.int ((x.toUInt32 >>> (y.toUInt32 &&& Int32.toUInt32 31)).toInt32), s2] w 0 Q) ∧
  (∀ (d : Nat) (l0 : Option Value) (s0 s1 : Value)  (w : px_H) (Q : Option Value → px_H → Prop), wp d 222 4 [l0] [s0, s1] w 0 Q ↔ wp d 222 7 [l0] [.int 1431655765, s0, s1] w 0 Q) ∧
  (∀ (d : Nat) (l0 : Option Value) (s2 : Value) (x y : Int32) (w : px_H) (Q : Option Value → px_H → Prop), wp d 222 7 [l0] [.int y, .int x, s2] w 0 Q ↔ wp d 222 8 [l0] [.int (x &&& y), s2] w 0 Q) ∧
  (∀ (d : Nat) (l0 : Option Value) (x y : Int32) (w : px_H) (Q : Option Value → px_H → Prop), wp d 222 8 [l0] [.int y, .int x] w 0 Q ↔ wp d 222 9 [l0] [.int (x - y)] w 0 Q) ∧
  (∀ (d : Nat) (l0 : Option Value) (x : Int32) (w : px_H) (Q : Option Value → px_H → Prop), wp d 222 9 [l0] [.int x] w 0 Q ↔ wp d 222 10 [some (.int x)] [] w 0 Q) ∧
  (∀ (d : Nat) (x : Int32) (w : px_H) (Q : Option Value → px_H → Prop), wp d 222 10 [some (.int x)] [] w 0 Q ↔ wp d 222 11 [some (.int x)] [.int x] w 0 Q) ∧
  (∀ (d : Nat) (l0 : Option Value) (s0 : Value)  (w : px_H) (Q : Option Value → px_H → Prop), wp d 222 11 [l0] [s0] w 0 Q ↔ wp d 222 14 [l0] [.int 858993459, s0] w 0 Q) ∧
  (∀ (d : Nat) (l0 : Option Value) (x y : Int32) (w : px_H) (Q : Option Value → px_H → Prop), wp d 222 14 [l0] [.int y, .int x] w 0 Q ↔ wp d 222 15 [l0] [.int (x &&& y)] w 0 Q) ∧
  (∀ (d : Nat) (s0 : Value) (x : Int32) (w : px_H) (Q : Option Value → px_H → Prop), wp d 222 15 [some (.int x)] [s0] w 0 Q ↔ wp d 222 16 [some (.int x)] [.int x, s0] w 0 Q) ∧
  (∀ (d : Nat) (l0 : Option Value) (s0 s1 : Value)  (w : px_H) (Q : Option Value → px_H → Prop), wp d 222 16 [l0] [s0, s1] w 0 Q ↔ wp d 222 17 [l0] [.int 2, s0, s1] w 0 Q) ∧
  (∀ (d : Nat) (l0 : Option Value) (s2 : Value) (x y : Int32) (w : px_H) (Q : Option Value → px_H → Prop), wp d 222 17 [l0] [.int y, .int x, s2] w 0 Q ↔ wp d 222 18 [l0] [.int ((x.toUInt32 >>> (y.toUInt32 &&& Int32.toUInt32 31)).toInt32), s2] w 0 Q) ∧
  (∀ (d : Nat) (l0 : Option Value) (s0 s1 : Value)  (w : px_H) (Q : Option Value → px_H → Prop), wp d 222 18 [l0] [s0, s1] w 0 Q ↔ wp d 222 21 [l0] [.int 858993459, s0, s1] w 0 Q) ∧
  (∀ (d : Nat) (l0 : Option Value) (s2 : Value) (x y : Int32) (w : px_H) (Q : Option Value → px_H → Prop), wp d 222 21 [l0] [.int y, .int x, s2] w 0 Q ↔ wp d 222 22 [l0] [.int (x &&& y), s2] w 0 Q) ∧
  (∀ (d : Nat) (l0 : Option Value) (x y : Int32) (w : px_H) (Q : Option Value → px_H → Prop), wp d 222 22 [l0] [.int y, .int x] w 0 Q ↔ wp d 222 23 [l0] [.int (x + y)] w 0 Q) ∧
  (∀ (d : Nat) (l0 : Option Value) (x : Int32) (w : px_H) (Q : Option Value → px_H → Prop), wp d 222 23 [l0] [.int x] w 0 Q ↔ wp d 222 24 [some (.int x)] [] w 0 Q) ∧
  (∀ (d : Nat) (x : Int32) (w : px_H) (Q : Option Value → px_H → Prop), wp d 222 24 [some (.int x)] [] w 0 Q ↔ wp d 222 25 [some (.int x)] [.int x] w 0 Q) ∧
  (∀ (d : Nat) (s0 : Value) (x : Int32) (w : px_H) (Q : Option Value → px_H → Prop), wp d 222 25 [some (.int x)] [s0] w 0 Q ↔ wp d 222 26 [some (.int x)] [.int x, s0] w 0 Q) ∧
  (∀ (d : Nat) (l0 : Option Value) (s0 s1 : Value)  (w : px_H) (Q : Option Value → px_H → Prop), wp d 222 26 [l0] [s0, s1] w 0 Q ↔ wp d 222 27 [l0] [.int 4, s0, s1] w 0 Q) ∧
  (∀ (d : Nat) (l0 : Option Value) (s2 : Value) (x y : Int32) (w : px_H) (Q : Option Value → px_H → Prop), wp d 222 27 [l0] [.int y, .int x, s2] w 0 Q ↔ wp d 222 28 [l0] [.int ((x.toUInt32 >>> (y.toUInt32 &&& Int32.toUInt32 31)).toInt32), s2] w 0 Q) ∧
  (∀ (d : Nat) (l0 : Option Value) (x y : Int32) (w : px_H) (Q : Option Value → px_H → Prop), wp d 222 28 [l0] [.int y, .int x] w 0 Q ↔ wp d 222 29 [l0] [.int (x + y)] w 0 Q) ∧
  (∀ (d : Nat) (l0 : Option Value) (s0 : Value)  (w : px_H) (Q : Option Value → px_H → Prop), wp d 222 29 [l0] [s0] w 0 Q ↔ wp d 222 32 [l0] [.int 252645135, s0] w 0 Q) ∧
  (∀ (d : Nat) (l0 : Option Value) (x y : Int32) (w : px_H) (Q : Option Value → px_H → Prop), wp d 222 32 [l0] [.int y, .int x] w 0 Q ↔ wp d 222 33 [l0] [.int (x &&& y)] w 0 Q) ∧
  (∀ (d : Nat) (l0 : Option Value) (x : Int32) (w : px_H) (Q : Option Value → px_H → Prop), wp d 222 33 [l0] [.int x] w 0 Q ↔ wp d 222 34 [some (.int x)] [] w 0 Q) ∧
  (∀ (d : Nat) (x : Int32) (w : px_H) (Q : Option Value → px_H → Prop), wp d 222 34 [some (.int x)] [] w 0 Q ↔ wp d 222 35 [some (.int x)] [.int x] w 0 Q) ∧
  (∀ (d : Nat) (s0 : Value) (x : Int32) (w : px_H) (Q : Option Value → px_H → Prop), wp d 222 35 [some (.int x)] [s0] w 0 Q ↔ wp d 222 36 [some (.int x)] [.int x, s0] w 0 Q) ∧
  (∀ (d : Nat) (l0 : Option Value) (s0 s1 : Value)  (w : px_H) (Q : Option Value → px_H → Prop), wp d 222 36 [l0] [s0, s1] w 0 Q ↔ wp d 222 38 [l0] [.int 8, s0, s1] w 0 Q) ∧
  (∀ (d : Nat) (l0 : Option Value) (s2 : Value) (x y : Int32) (w : px_H) (Q : Option Value → px_H → Prop), wp d 222 38 [l0] [.int y, .int x, s2] w 0 Q ↔ wp d 222 39 [l0] [.int ((x.toUInt32 >>> (y.toUInt32 &&& Int32.toUInt32 31)).toInt32), s2] w 0 Q) ∧
  (∀ (d : Nat) (l0 : Option Value) (x y : Int32) (w : px_H) (Q : Option Value → px_H → Prop), wp d 222 39 [l0] [.int y, .int x] w 0 Q ↔ wp d 222 40 [l0] [.int (x + y)] w 0 Q) ∧
  (∀ (d : Nat) (l0 : Option Value) (x : Int32) (w : px_H) (Q : Option Value → px_H → Prop), wp d 222 40 [l0] [.int x] w 0 Q ↔ wp d 222 41 [some (.int x)] [] w 0 Q) ∧
  (∀ (d : Nat) (x : Int32) (w : px_H) (Q : Option Value → px_H → Prop), wp d 222 41 [some (.int x)] [] w 0 Q ↔ wp d 222 42 [some (.int x)] [.int x] w 0 Q) ∧
  (∀ (d : Nat) (s0 : Value) (x : Int32) (w : px_H) (Q : Option Value → px_H → Prop), wp d 222 42 [some (.int x)] [s0] w 0 Q ↔ wp d 222 43 [some (.int x)] [.int x, s0] w 0 Q) ∧
  (∀ (d : Nat) (l0 : Option Value) (s0 s1 : Value)  (w : px_H) (Q : Option Value → px_H → Prop), wp d 222 43 [l0] [s0, s1] w 0 Q ↔ wp d 222 45 [l0] [.int 16, s0, s1] w 0 Q) ∧
  (∀ (d : Nat) (l0 : Option Value) (s2 : Value) (x y : Int32) (w : px_H) (Q : Option Value → px_H → Prop), wp d 222 45 [l0] [.int y, .int x, s2] w 0 Q ↔ wp d 222 46 [l0] [.int ((x.toUInt32 >>> (y.toUInt32 &&& Int32.toUInt32 31)).toInt32), s2] w 0 Q) ∧
  (∀ (d : Nat) (l0 : Option Value) (x y : Int32) (w : px_H) (Q : Option Value → px_H → Prop), wp d 222 46 [l0] [.int y, .int x] w 0 Q ↔ wp d 222 47 [l0] [.int (x + y)] w 0 Q) ∧
  (∀ (d : Nat) (l0 : Option Value) (x : Int32) (w : px_H) (Q : Option Value → px_H → Prop), wp d 222 47 [l0] [.int x] w 0 Q ↔ wp d 222 48 [some (.int x)] [] w 0 Q) ∧
  (∀ (d : Nat) (x : Int32) (w : px_H) (Q : Option Value → px_H → Prop), wp d 222 48 [some (.int x)] [] w 0 Q ↔ wp d 222 49 [some (.int x)] [.int x] w 0 Q) ∧
  (∀ (d : Nat) (l0 : Option Value) (s0 : Value)  (w : px_H) (Q : Option Value → px_H → Prop), wp d 222 49 [l0] [s0] w 0 Q ↔ wp d 222 51 [l0] [.int 63, s0] w 0 Q) ∧
  (∀ (d : Nat) (l0 : Option Value) (x y : Int32) (w : px_H) (Q : Option Value → px_H → Prop), wp d 222 51 [l0] [.int y, .int x] w 0 Q ↔ wp d 222 52 [l0] [.int (x &&& y)] w 0 Q) ∧
  (∀ (d : Nat) (l0 : Option Value) (x : Int32) (w : px_H) (Q : Option Value → px_H → Prop), wp d 222 52 [l0] [.int x] w 0 Q ↔ Q (some (.int x)) w) := ⟨fun d v0 w Q => r_entry pt_222 (Nat.le_of_ble_eq_true rfl) rfl,
  fun d x w Q => px_go (q := (.iload_n 0, 1, px_x0)) (S' := (1, [some (.int x)], [.int x], w, 0)) pt_222 rfl rfl,
  fun d s0 x w Q => px_go (q := (.iload_n 0, 1, px_x0)) (S' := (2, [some (.int x)], [.int x, s0], w, 0)) pt_222 rfl rfl,
  fun d l0 s0 s1 w Q => r_iconst pt_222 rfl (by decide),
  fun d l0 s2 x y w Q => px_go (q := (.iushr, 1, px_x0)) (S' := (4, [l0], [.int ((x.toUInt32 >>> (y.toUInt32 &&& Int32.toUInt32 31)).toInt32), s2], w, 0)) pt_222 rfl rfl,
  fun d l0 s0 s1 w Q => px_go (q := (.ldc_w 265, 3, (0, 0, [], 1431655765, ""))) (S' := (7, [l0], [.int 1431655765, s0, s1], w, 0)) pt_222 rfl rfl,
  fun d l0 s2 x y w Q => px_go (q := (.iand, 1, px_x0)) (S' := (8, [l0], [.int (x &&& y), s2], w, 0)) pt_222 rfl rfl,
  fun d l0 x y w Q => px_go (q := (.isub, 1, px_x0)) (S' := (9, [l0], [.int (x - y)], w, 0)) pt_222 rfl rfl,
  fun d l0 x w Q => px_go (q := (.istore_n 0, 1, px_x0)) (S' := (10, [some (.int x)], [], w, 0)) pt_222 rfl rfl,
  fun d x w Q => px_go (q := (.iload_n 0, 1, px_x0)) (S' := (11, [some (.int x)], [.int x], w, 0)) pt_222 rfl rfl,
  fun d l0 s0 w Q => px_go (q := (.ldc_w 266, 3, (0, 0, [], 858993459, ""))) (S' := (14, [l0], [.int 858993459, s0], w, 0)) pt_222 rfl rfl,
  fun d l0 x y w Q => px_go (q := (.iand, 1, px_x0)) (S' := (15, [l0], [.int (x &&& y)], w, 0)) pt_222 rfl rfl,
  fun d s0 x w Q => px_go (q := (.iload_n 0, 1, px_x0)) (S' := (16, [some (.int x)], [.int x, s0], w, 0)) pt_222 rfl rfl,
  fun d l0 s0 s1 w Q => r_iconst pt_222 rfl (by decide),
  fun d l0 s2 x y w Q => px_go (q := (.iushr, 1, px_x0)) (S' := (18, [l0], [.int ((x.toUInt32 >>> (y.toUInt32 &&& Int32.toUInt32 31)).toInt32), s2], w, 0)) pt_222 rfl rfl,
  fun d l0 s0 s1 w Q => px_go (q := (.ldc_w 266, 3, (0, 0, [], 858993459, ""))) (S' := (21, [l0], [.int 858993459, s0, s1], w, 0)) pt_222 rfl rfl,
  fun d l0 s2 x y w Q => px_go (q := (.iand, 1, px_x0)) (S' := (22, [l0], [.int (x &&& y), s2], w, 0)) pt_222 rfl rfl,
  fun d l0 x y w Q => px_go (q := (.iadd, 1, px_x0)) (S' := (23, [l0], [.int (x + y)], w, 0)) pt_222 rfl rfl,
  fun d l0 x w Q => px_go (q := (.istore_n 0, 1, px_x0)) (S' := (24, [some (.int x)], [], w, 0)) pt_222 rfl rfl,
  fun d x w Q => px_go (q := (.iload_n 0, 1, px_x0)) (S' := (25, [some (.int x)], [.int x], w, 0)) pt_222 rfl rfl,
  fun d s0 x w Q => px_go (q := (.iload_n 0, 1, px_x0)) (S' := (26, [some (.int x)], [.int x, s0], w, 0)) pt_222 rfl rfl,
  fun d l0 s0 s1 w Q => r_iconst pt_222 rfl (by decide),
  fun d l0 s2 x y w Q => px_go (q := (.iushr, 1, px_x0)) (S' := (28, [l0], [.int ((x.toUInt32 >>> (y.toUInt32 &&& Int32.toUInt32 31)).toInt32), s2], w, 0)) pt_222 rfl rfl,
  fun d l0 x y w Q => px_go (q := (.iadd, 1, px_x0)) (S' := (29, [l0], [.int (x + y)], w, 0)) pt_222 rfl rfl,
  fun d l0 s0 w Q => px_go (q := (.ldc_w 267, 3, (0, 0, [], 252645135, ""))) (S' := (32, [l0], [.int 252645135, s0], w, 0)) pt_222 rfl rfl,
  fun d l0 x y w Q => px_go (q := (.iand, 1, px_x0)) (S' := (33, [l0], [.int (x &&& y)], w, 0)) pt_222 rfl rfl,
  fun d l0 x w Q => px_go (q := (.istore_n 0, 1, px_x0)) (S' := (34, [some (.int x)], [], w, 0)) pt_222 rfl rfl,
  fun d x w Q => px_go (q := (.iload_n 0, 1, px_x0)) (S' := (35, [some (.int x)], [.int x], w, 0)) pt_222 rfl rfl,
  fun d s0 x w Q => px_go (q := (.iload_n 0, 1, px_x0)) (S' := (36, [some (.int x)], [.int x, s0], w, 0)) pt_222 rfl rfl,
  fun d l0 s0 s1 w Q => r_bipush pt_222 rfl (by decide),
  fun d l0 s2 x y w Q => px_go (q := (.iushr, 1, px_x0)) (S' := (39, [l0], [.int ((x.toUInt32 >>> (y.toUInt32 &&& Int32.toUInt32 31)).toInt32), s2], w, 0)) pt_222 rfl rfl,
  fun d l0 x y w Q => px_go (q := (.iadd, 1, px_x0)) (S' := (40, [l0], [.int (x + y)], w, 0)) pt_222 rfl rfl,
  fun d l0 x w Q => px_go (q := (.istore_n 0, 1, px_x0)) (S' := (41, [some (.int x)], [], w, 0)) pt_222 rfl rfl,
  fun d x w Q => px_go (q := (.iload_n 0, 1, px_x0)) (S' := (42, [some (.int x)], [.int x], w, 0)) pt_222 rfl rfl,
  fun d s0 x w Q => px_go (q := (.iload_n 0, 1, px_x0)) (S' := (43, [some (.int x)], [.int x, s0], w, 0)) pt_222 rfl rfl,
  fun d l0 s0 s1 w Q => r_bipush pt_222 rfl (by decide),
  fun d l0 s2 x y w Q => px_go (q := (.iushr, 1, px_x0)) (S' := (46, [l0], [.int ((x.toUInt32 >>> (y.toUInt32 &&& Int32.toUInt32 31)).toInt32), s2], w, 0)) pt_222 rfl rfl,
  fun d l0 x y w Q => px_go (q := (.iadd, 1, px_x0)) (S' := (47, [l0], [.int (x + y)], w, 0)) pt_222 rfl rfl,
  fun d l0 x w Q => px_go (q := (.istore_n 0, 1, px_x0)) (S' := (48, [some (.int x)], [], w, 0)) pt_222 rfl rfl,
  fun d x w Q => px_go (q := (.iload_n 0, 1, px_x0)) (S' := (49, [some (.int x)], [.int x], w, 0)) pt_222 rfl rfl,
  fun d l0 s0 w Q => r_bipush pt_222 rfl (by decide),
  fun d l0 x y w Q => px_go (q := (.iand, 1, px_x0)) (S' := (52, [l0], [.int (x &&& y)], w, 0)) pt_222 rfl rfl,
  fun d l0 x w Q => px_ret (q := (.ireturn, 1, px_x0)) pt_222 rfl rfl⟩
/-- java/util/Arrays.fill([II)V heads: [5] -/
theorem S223 : (∀ (d : Nat) (v0 v1 : Value) (w : px_H) (Q : Option Value → px_H → Prop), wc d 223 [v0, v1] w Q ↔ wp d 223 0 [some v0, some v1, none, none] [] w 0 Q) ∧
  (∀ (d : Nat) (l0 l1 l2 l3 : Option Value)  (w : px_H) (Q : Option Value → px_H → Prop), wp d 223 0 [l0, l1, l2, l3] [] w 0 Q ↔ wp d 223 1 [l0, l1, l2, l3] [.int 0] w 0 Q) ∧
  (∀ (d : Nat) (l0 l1 l2 l3 : Option Value) (x : Int32) (w : px_H) (Q : Option Value → px_H → Prop), wp d 223 1 [l0, l1, l2, l3] [.int x] w 0 Q ↔ wp d 223 2 [l0, l1, some (.int x), l3] [] w 0 Q) ∧
  (∀ (d : Nat) (l1 l2 l3 : Option Value) (a : Nat) (w : px_H) (Q : Option Value → px_H → Prop), wp d 223 2 [some (.ref a), l1, l2, l3] [] w 0 Q ↔ wp d 223 3 [some (.ref a), l1, l2, l3] [.ref a] w 0 Q) ∧
  (∀ (d : Nat) (l1 l2 l3 : Option Value)  (w : px_H) (Q : Option Value → px_H → Prop), wp d 223 2 [some .null, l1, l2, l3] [] w 0 Q ↔ wp d 223 3 [some .null, l1, l2, l3] [.null] w 0 Q) ∧
  (∀ (d : Nat) (l0 l1 l2 l3 : Option Value) (a : Nat) (w : px_H) (Q : Option Value → px_H → Prop), wp d 223 3 [l0, l1, l2, l3] [.ref a] w 0 Q ↔ px_op (px_len w a) (fun x => wp d 223 4 [l0, l1, l2, l3] [.int x] w 0 Q)) ∧
  (∀ (d : Nat) (l0 l1 l2 l3 : Option Value) (x : Int32) (w : px_H) (Q : Option Value → px_H → Prop), wp d 223 4 [l0, l1, l2, l3] [.int x] w 0 Q ↔ wp d 223 5 [l0, l1, l2, some (.int x)] [] w 0 Q) ∧
  (∀ (d : Nat) (l0 l1 l2 : Option Value) (s0 : Value) (x : Int32) (w : px_H) (Q : Option Value → px_H → Prop), wp d 223 6 [l0, l1, l2, some (.int x)] [s0] w 0 Q ↔ wp d 223 7 [l0, l1, l2, some (.int x)] [.int x, s0] w 0 Q) ∧
  (∀ (d : Nat) (l0 l1 l2 l3 : Option Value) (x y : Int32) (w : px_H) (Q : Option Value → px_H → Prop), wp d 223 7 [l0, l1, l2, l3] [.int y, .int x] w 0 Q ↔ if y ≤ x then wp d 223 20 [l0, l1, l2, l3] [] w 0 Q else wp d 223 10 [l0, l1, l2, l3] [] w 0 Q) ∧
  (∀ (d : Nat) (l1 l2 l3 : Option Value) (a : Nat) (w : px_H) (Q : Option Value → px_H → Prop), wp d 223 10 [some (.ref a), l1, l2, l3] [] w 0 Q ↔ wp d 223 11 [some (.ref a), l1, l2, l3] [.ref a] w 0 Q) ∧
  (∀ (d : Nat) (l1 l2 l3 : Option Value)  (w : px_H) (Q : Option Value → px_H → Prop), wp d 223 10 [some .null, l1, l2, l3] [] w 0 Q ↔ wp d 223 11 [some .null, l1, l2, l3] [.null] w 0 Q) ∧
  (∀ (d : Nat) (l0 l1 l3 : Option Value) (s0 : Value) (x : Int32) (w : px_H) (Q : Option Value → px_H → Prop), wp d 223 11 [l0, l1, some (.int x), l3] [s0] w 0 Q ↔ wp d 223 12 [l0, l1, some (.int x), l3] [.int x, s0] w 0 Q) ∧
  (∀ (d : Nat) (l0 l2 l3 : Option Value) (s0 s1 : Value) (x : Int32) (w : px_H) (Q : Option Value → px_H → Prop), wp d 223 12 [l0, some (.int x), l2, l3] [s0, s1] w 0 Q ↔ wp d 223 13 [l0, some (.int x), l2, l3] [.int x, s0, s1] w 0 Q) ∧
  (∀ (d : Nat) (l0 l1 l2 l3 : Option Value) (x i : Int32) (a : Nat) (w : px_H) (Q : Option Value → px_H → Prop), wp d 223 13 [l0, l1, l2, l3] [.int x, .int i, .ref a] w 0 Q ↔ px_op (px_ast w a i x .int) (fun w' => wp d 223 14 [l0, l1, l2, l3] [] w' 0 Q)) ∧
  (∀ (d : Nat) (l0 l1 l3 : Option Value) (x : Int32) (w : px_H) (Q : Option Value → px_H → Prop), wp d 223 14 [l0, l1, some (.int x), l3] [] w 0 Q ↔ wp d 223 17 [l0, l1, some (.int (x + 1)), l3] [] w 0 Q) ∧
  (∀ (d : Nat) (l0 l1 l2 l3 : Option Value)  (w : px_H) (Q : Option Value → px_H → Prop), wp d 223 17 [l0, l1, l2, l3] [] w 0 Q ↔ wp d 223 5 [l0, l1, l2, l3] [] w 0 Q) ∧
  (∀ (d : Nat) (l0 l1 l2 l3 : Option Value)  (w : px_H) (Q : Option Value → px_H → Prop), wp d 223 20 [l0, l1, l2, l3] [] w 0 Q ↔ Q none w) := ⟨fun d v0 v1 w Q => r_entry pt_223 (Nat.le_of_ble_eq_true rfl) rfl,
  fun d l0 l1 l2 l3 w Q => r_iconst pt_223 rfl (by decide),
  fun d l0 l1 l2 l3 x w Q => px_go (q := (.istore_n 2, 1, px_x0)) (S' := (2, [l0, l1, some (.int x), l3], [], w, 0)) pt_223 rfl rfl,
  fun d l1 l2 l3 a w Q => px_go (q := (.aload_n 0, 1, px_x0)) (S' := (3, [some (.ref a), l1, l2, l3], [.ref a], w, 0)) pt_223 rfl rfl,
  fun d l1 l2 l3 w Q => px_go (q := (.aload_n 0, 1, px_x0)) (S' := (3, [some .null, l1, l2, l3], [.null], w, 0)) pt_223 rfl rfl,
  fun d l0 l1 l2 l3 a w Q => px_goO (q := (.arraylength, 1, px_x0)) (S' := fun x => (4, [l0, l1, l2, l3], [.int x], w, 0)) pt_223 rfl rfl,
  fun d l0 l1 l2 l3 x w Q => px_go (q := (.istore_n 3, 1, px_x0)) (S' := (5, [l0, l1, l2, some (.int x)], [], w, 0)) pt_223 rfl rfl,
  fun d l0 l1 l2 s0 x w Q => px_go (q := (.iload_n 3, 1, px_x0)) (S' := (7, [l0, l1, l2, some (.int x)], [.int x, s0], w, 0)) pt_223 rfl rfl,
  fun d l0 l1 l2 l3 x y w Q => r_icmp_ge pt_223 rfl rfl,
  fun d l1 l2 l3 a w Q => px_go (q := (.aload_n 0, 1, px_x0)) (S' := (11, [some (.ref a), l1, l2, l3], [.ref a], w, 0)) pt_223 rfl rfl,
  fun d l1 l2 l3 w Q => px_go (q := (.aload_n 0, 1, px_x0)) (S' := (11, [some .null, l1, l2, l3], [.null], w, 0)) pt_223 rfl rfl,
  fun d l0 l1 l3 s0 x w Q => px_go (q := (.iload_n 2, 1, px_x0)) (S' := (12, [l0, l1, some (.int x), l3], [.int x, s0], w, 0)) pt_223 rfl rfl,
  fun d l0 l2 l3 s0 s1 x w Q => px_go (q := (.iload_n 1, 1, px_x0)) (S' := (13, [l0, some (.int x), l2, l3], [.int x, s0, s1], w, 0)) pt_223 rfl rfl,
  fun d l0 l1 l2 l3 x i a w Q => px_goO (q := (.iastore, 1, px_x0)) (S' := fun w' => (14, [l0, l1, l2, l3], [], w', 0)) pt_223 rfl rfl,
  fun d l0 l1 l3 x w Q => r_iinc pt_223 rfl rfl (by decide) rfl,
  fun d l0 l1 l2 l3 w Q => r_goto pt_223 rfl rfl,
  fun d l0 l1 l2 l3 w Q => px_ret (q := (.return_, 1, px_x0)) pt_223 rfl rfl⟩
theorem H223_5 : ∀ (d : Nat) (l0 l1 l3 : Option Value) (x : Int32) (w : px_H) (Q : Option Value → px_H → Prop), wp d 223 5 [l0, l1, some (.int x), l3] [] w 0 Q ↔ wp d 223 6 [l0, l1, some (.int x), l3] [.int x] w 0 Q := fun d l0 l1 l3 x w Q => px_go (q := (.iload_n 2, 1, px_x0)) (S' := (6, [l0, l1, some (.int x), l3], [.int x], w, 0)) pt_223 rfl rfl
