/-! rows of the pure machine: realm -/
/-- AllSworn$Realm.<init>()V -/
theorem S41 : (∀ (d : Nat) (v0 : Value) (w : px_H) (Q : Option Value → px_H → Prop), wc d 41 [v0] w Q ↔ wp d 41 0 [some v0] [] w 0 Q) ∧
  (∀ (d : Nat) (a : Nat) (w : px_H) (k : Nat) (Q : Option Value → px_H → Prop), wp d 41 0 [some (.ref a)] [] w k Q ↔ wp d 41 1 [some (.ref a)] [.ref a] w k Q) ∧
  (∀ (d : Nat) (l0 : Option Value) (a : Nat) (w : px_H) (k : Nat) (Q : Option Value → px_H → Prop), wp d 41 1 [l0] [.ref a] w k Q ↔ wp d 41 4 [l0] [] w k Q) ∧
  (∀ (d : Nat) (a : Nat) (w : px_H) (k : Nat) (Q : Option Value → px_H → Prop), wp d 41 4 [some (.ref a)] [] w k Q ↔ wp d 41 5 [some (.ref a)] [.ref a] w k Q) ∧
  (∀ (d : Nat) (l0 : Option Value) (s0 : Value)  (w : px_H) (k : Nat) (Q : Option Value → px_H → Prop), wp d 41 5 [l0] [s0] w k Q ↔ wp d 41 7 [l0] [.int 8, s0] w k Q) ∧
  (∀ (d : Nat) (l0 : Option Value) (s1 : Value)  (w : px_H) (k : Nat) (Q : Option Value → px_H → Prop) (hk : k + 1 ≤ 4), wp d 41 7 [l0] [.int 8, s1] w k Q ↔ wp d 41 10 [l0] [.ref w.1, s1] (px_add w (.inr (.inl (.object "AllSworn$Thing", 8, fun _ => none)))) (k + 1) Q) ∧
  (∀ (d : Nat) (l0 : Option Value) (a b : Nat) (w : px_H) (k : Nat) (Q : Option Value → px_H → Prop), wp d 41 10 [l0] [.ref b, .ref a] w k Q ↔ px_op (px_pfd w a [(5, 0)] 0 (.ref b)) (fun w' => wp d 41 13 [l0] [] w' k Q)) ∧
  (∀ (d : Nat) (a : Nat) (w : px_H) (k : Nat) (Q : Option Value → px_H → Prop), wp d 41 13 [some (.ref a)] [] w k Q ↔ wp d 41 14 [some (.ref a)] [.ref a] w k Q) ∧
  (∀ (d : Nat) (l0 : Option Value) (s0 : Value)  (w : px_H) (k : Nat) (Q : Option Value → px_H → Prop), wp d 41 14 [l0] [s0] w k Q ↔ wp d 41 16 [l0] [.int 8, s0] w k Q) ∧
  (∀ (d : Nat) (l0 : Option Value) (s1 : Value)  (w : px_H) (k : Nat) (Q : Option Value → px_H → Prop) (hk : k + 1 ≤ 4), wp d 41 16 [l0] [.int 8, s1] w k Q ↔ wp d 41 18 [l0] [.ref w.1, s1] (px_add w (.inl (.int, 8, fun _ => 0))) (k + 1) Q) ∧
  (∀ (d : Nat) (l0 : Option Value) (a b : Nat) (w : px_H) (k : Nat) (Q : Option Value → px_H → Prop), wp d 41 18 [l0] [.ref b, .ref a] w k Q ↔ px_op (px_pfd w a [(5, 0)] 1 (.ref b)) (fun w' => wp d 41 21 [l0] [] w' k Q)) ∧
  (∀ (d : Nat) (a : Nat) (w : px_H) (k : Nat) (Q : Option Value → px_H → Prop), wp d 41 21 [some (.ref a)] [] w k Q ↔ wp d 41 22 [some (.ref a)] [.ref a] w k Q) ∧
  (∀ (d : Nat) (l0 : Option Value) (s0 : Value)  (w : px_H) (k : Nat) (Q : Option Value → px_H → Prop), wp d 41 22 [l0] [s0] w k Q ↔ wp d 41 24 [l0] [.int 8, s0] w k Q) ∧
  (∀ (d : Nat) (l0 : Option Value) (s1 : Value)  (w : px_H) (k : Nat) (Q : Option Value → px_H → Prop) (hk : k + 1 ≤ 4), wp d 41 24 [l0] [.int 8, s1] w k Q ↔ wp d 41 26 [l0] [.ref w.1, s1] (px_add w (.inl (.int, 8, fun _ => 0))) (k + 1) Q) ∧
  (∀ (d : Nat) (l0 : Option Value) (a b : Nat) (w : px_H) (k : Nat) (Q : Option Value → px_H → Prop), wp d 41 26 [l0] [.ref b, .ref a] w k Q ↔ px_op (px_pfd w a [(5, 0)] 2 (.ref b)) (fun w' => wp d 41 29 [l0] [] w' k Q)) ∧
  (∀ (d : Nat) (a : Nat) (w : px_H) (k : Nat) (Q : Option Value → px_H → Prop), wp d 41 29 [some (.ref a)] [] w k Q ↔ wp d 41 30 [some (.ref a)] [.ref a] w k Q) ∧
  (∀ (d : Nat) (l0 : Option Value) (s0 : Value)  (w : px_H) (k : Nat) (Q : Option Value → px_H → Prop), wp d 41 30 [l0] [s0] w k Q ↔ wp d 41 32 [l0] [.int 96, s0] w k Q) ∧
  (∀ (d : Nat) (l0 : Option Value) (s1 : Value)  (w : px_H) (k : Nat) (Q : Option Value → px_H → Prop) (hk : k + 1 ≤ 4), wp d 41 32 [l0] [.int 96, s1] w k Q ↔ wp d 41 34 [l0] [.ref w.1, s1] (px_add w (.inl (.int, 96, fun _ => 0))) (k + 1) Q) ∧
  (∀ (d : Nat) (l0 : Option Value) (a b : Nat) (w : px_H) (k : Nat) (Q : Option Value → px_H → Prop), wp d 41 34 [l0] [.ref b, .ref a] w k Q ↔ px_op (px_pfd w a [(5, 0)] 3 (.ref b)) (fun w' => wp d 41 37 [l0] [] w' k Q)) ∧
  (∀ (d : Nat) (a : Nat) (w : px_H) (k : Nat) (Q : Option Value → px_H → Prop), wp d 41 37 [some (.ref a)] [] w k Q ↔ wp d 41 38 [some (.ref a)] [.ref a] w k Q) ∧
  (∀ (d : Nat) (l0 : Option Value) (s0 : Value)  (w : px_H) (k : Nat) (Q : Option Value → px_H → Prop), wp d 41 38 [l0] [s0] w k Q ↔ wp d 41 39 [l0] [.int 0, s0] w k Q) ∧
  (∀ (d : Nat) (l0 : Option Value) (x : Int32) (a : Nat) (w : px_H) (k : Nat) (Q : Option Value → px_H → Prop), wp d 41 39 [l0] [.int x, .ref a] w k Q ↔ px_op (px_pfd w a [(5, 0)] 4 (.int x)) (fun w' => wp d 41 42 [l0] [] w' k Q)) ∧
  (∀ (d : Nat) (a : Nat) (w : px_H) (k : Nat) (Q : Option Value → px_H → Prop), wp d 41 42 [some (.ref a)] [] w k Q ↔ wp d 41 43 [some (.ref a)] [.ref a] w k Q) ∧
  (∀ (d : Nat) (l0 : Option Value) (s0 : Value)  (w : px_H) (k : Nat) (Q : Option Value → px_H → Prop), wp d 41 43 [l0] [s0] w k Q ↔ wp d 41 44 [l0] [.int 0, s0] w k Q) ∧
  (∀ (d : Nat) (l0 : Option Value) (x : Int32) (a : Nat) (w : px_H) (k : Nat) (Q : Option Value → px_H → Prop), wp d 41 44 [l0] [.int x, .ref a] w k Q ↔ px_op (px_pfd w a [(5, 0)] 5 (.int x)) (fun w' => wp d 41 47 [l0] [] w' k Q)) ∧
  (∀ (d : Nat) (a : Nat) (w : px_H) (k : Nat) (Q : Option Value → px_H → Prop), wp d 41 47 [some (.ref a)] [] w k Q ↔ wp d 41 48 [some (.ref a)] [.ref a] w k Q) ∧
  (∀ (d : Nat) (l0 : Option Value) (s0 : Value)  (w : px_H) (k : Nat) (Q : Option Value → px_H → Prop), wp d 41 48 [l0] [s0] w k Q ↔ wp d 41 49 [l0] [.int 0, s0] w k Q) ∧
  (∀ (d : Nat) (l0 : Option Value) (x : Int32) (a : Nat) (w : px_H) (k : Nat) (Q : Option Value → px_H → Prop), wp d 41 49 [l0] [.int x, .ref a] w k Q ↔ px_op (px_pfd w a [(5, 0)] 6 (.int x)) (fun w' => wp d 41 52 [l0] [] w' k Q)) ∧
  (∀ (d : Nat) (a : Nat) (w : px_H) (k : Nat) (Q : Option Value → px_H → Prop), wp d 41 52 [some (.ref a)] [] w k Q ↔ wp d 41 53 [some (.ref a)] [.ref a] w k Q) ∧
  (∀ (d : Nat) (l0 : Option Value) (s0 : Value)  (w : px_H) (k : Nat) (Q : Option Value → px_H → Prop), wp d 41 53 [l0] [s0] w k Q ↔ wp d 41 54 [l0] [.int 0, s0] w k Q) ∧
  (∀ (d : Nat) (l0 : Option Value) (x : Int32) (a : Nat) (w : px_H) (k : Nat) (Q : Option Value → px_H → Prop), wp d 41 54 [l0] [.int x, .ref a] w k Q ↔ px_op (px_pfd w a [(5, 0)] 7 (.int x)) (fun w' => wp d 41 57 [l0] [] w' k Q)) ∧
  (∀ (d : Nat) (a : Nat) (w : px_H) (k : Nat) (Q : Option Value → px_H → Prop), wp d 41 57 [some (.ref a)] [] w k Q ↔ wp d 41 58 [some (.ref a)] [.ref a] w k Q) ∧
  (∀ (d : Nat) (l0 : Option Value) (s0 : Value)  (w : px_H) (k : Nat) (Q : Option Value → px_H → Prop), wp d 41 58 [l0] [s0] w k Q ↔ wp d 41 59 [l0] [.int 0, s0] w k Q) ∧
  (∀ (d : Nat) (l0 : Option Value) (x : Int32) (a : Nat) (w : px_H) (k : Nat) (Q : Option Value → px_H → Prop), wp d 41 59 [l0] [.int x, .ref a] w k Q ↔ px_op (px_pfd w a [(5, 0)] 8 (.int x)) (fun w' => wp d 41 62 [l0] [] w' k Q)) ∧
  (∀ (d : Nat) (a : Nat) (w : px_H) (k : Nat) (Q : Option Value → px_H → Prop), wp d 41 62 [some (.ref a)] [] w k Q ↔ wp d 41 63 [some (.ref a)] [.ref a] w k Q) ∧
  (∀ (d : Nat) (l0 : Option Value) (s0 : Value)  (w : px_H) (k : Nat) (Q : Option Value → px_H → Prop), wp d 41 63 [l0] [s0] w k Q ↔ wp d 41 64 [l0] [.int 0, s0] w k Q) ∧
  (∀ (d : Nat) (l0 : Option Value) (x : Int32) (a : Nat) (w : px_H) (k : Nat) (Q : Option Value → px_H → Prop), wp d 41 64 [l0] [.int x, .ref a] w k Q ↔ px_op (px_pfd w a [(5, 0)] 9 (.int x)) (fun w' => wp d 41 67 [l0] [] w' k Q)) ∧
  (∀ (d : Nat) (l0 : Option Value)  (w : px_H) (k : Nat) (Q : Option Value → px_H → Prop), wp d 41 67 [l0] [] w k Q ↔ Q none w) := ⟨fun d v0 w Q => r_entry pt_41 (Nat.le_of_ble_eq_true rfl) rfl,
  fun d a w k Q => px_go (q := (.aload_n 0, 1, px_x0)) (S' := (1, [some (.ref a)], [.ref a], w, k)) pt_41 rfl rfl,
  fun d l0 a w k Q => px_go (q := (.invokespecial 3, 3, (36, 0, [], 0, ""))) (S' := (4, [l0], [], w, k)) pt_41 rfl rfl,
  fun d a w k Q => px_go (q := (.aload_n 0, 1, px_x0)) (S' := (5, [some (.ref a)], [.ref a], w, k)) pt_41 rfl rfl,
  fun d l0 s0 w k Q => r_bipush pt_41 rfl (by decide),
  fun d l0 s1 w k Q hk => r_anew pt_41 rfl ⟨by decide, by decide, by decide⟩ hk,
  fun d l0 a b w k Q => r_put pt_41 rfl (by simp only [List.all_cons, List.all_nil, ft_5_0, px_fit, px_isr, Bool.and_self]),
  fun d a w k Q => px_go (q := (.aload_n 0, 1, px_x0)) (S' := (14, [some (.ref a)], [.ref a], w, k)) pt_41 rfl rfl,
  fun d l0 s0 w k Q => r_bipush pt_41 rfl (by decide),
  fun d l0 s1 w k Q hk => r_newarr pt_41 rfl rfl ⟨by decide, by decide, by decide⟩ hk,
  fun d l0 a b w k Q => r_put pt_41 rfl (by simp only [List.all_cons, List.all_nil, ft_5_1, px_fit, px_isr, Bool.and_self]),
  fun d a w k Q => px_go (q := (.aload_n 0, 1, px_x0)) (S' := (22, [some (.ref a)], [.ref a], w, k)) pt_41 rfl rfl,
  fun d l0 s0 w k Q => r_bipush pt_41 rfl (by decide),
  fun d l0 s1 w k Q hk => r_newarr pt_41 rfl rfl ⟨by decide, by decide, by decide⟩ hk,
  fun d l0 a b w k Q => r_put pt_41 rfl (by simp only [List.all_cons, List.all_nil, ft_5_2, px_fit, px_isr, Bool.and_self]),
  fun d a w k Q => px_go (q := (.aload_n 0, 1, px_x0)) (S' := (30, [some (.ref a)], [.ref a], w, k)) pt_41 rfl rfl,
  fun d l0 s0 w k Q => r_bipush pt_41 rfl (by decide),
  fun d l0 s1 w k Q hk => r_newarr pt_41 rfl rfl ⟨by decide, by decide, by decide⟩ hk,
  fun d l0 a b w k Q => r_put pt_41 rfl (by simp only [List.all_cons, List.all_nil, ft_5_3, px_fit, px_isr, Bool.and_self]),
  fun d a w k Q => px_go (q := (.aload_n 0, 1, px_x0)) (S' := (38, [some (.ref a)], [.ref a], w, k)) pt_41 rfl rfl,
  fun d l0 s0 w k Q => r_iconst pt_41 rfl (by decide),
  fun d l0 x a w k Q => r_put pt_41 rfl (by simp only [List.all_cons, List.all_nil, ft_5_4, px_fit, px_isr, Bool.and_self]),
  fun d a w k Q => px_go (q := (.aload_n 0, 1, px_x0)) (S' := (43, [some (.ref a)], [.ref a], w, k)) pt_41 rfl rfl,
  fun d l0 s0 w k Q => r_iconst pt_41 rfl (by decide),
  fun d l0 x a w k Q => r_put pt_41 rfl (by simp only [List.all_cons, List.all_nil, ft_5_5, px_fit, px_isr, Bool.and_self]),
  fun d a w k Q => px_go (q := (.aload_n 0, 1, px_x0)) (S' := (48, [some (.ref a)], [.ref a], w, k)) pt_41 rfl rfl,
  fun d l0 s0 w k Q => r_iconst pt_41 rfl (by decide),
  fun d l0 x a w k Q => r_put pt_41 rfl (by simp only [List.all_cons, List.all_nil, ft_5_6, px_fit, px_isr, Bool.and_self]),
  fun d a w k Q => px_go (q := (.aload_n 0, 1, px_x0)) (S' := (53, [some (.ref a)], [.ref a], w, k)) pt_41 rfl rfl,
  fun d l0 s0 w k Q => r_iconst pt_41 rfl (by decide),
  fun d l0 x a w k Q => r_put pt_41 rfl (by simp only [List.all_cons, List.all_nil, ft_5_7, px_fit, px_isr, Bool.and_self]),
  fun d a w k Q => px_go (q := (.aload_n 0, 1, px_x0)) (S' := (58, [some (.ref a)], [.ref a], w, k)) pt_41 rfl rfl,
  fun d l0 s0 w k Q => r_iconst pt_41 rfl (by decide),
  fun d l0 x a w k Q => r_put pt_41 rfl (by simp only [List.all_cons, List.all_nil, ft_5_8, px_fit, px_isr, Bool.and_self]),
  fun d a w k Q => px_go (q := (.aload_n 0, 1, px_x0)) (S' := (63, [some (.ref a)], [.ref a], w, k)) pt_41 rfl rfl,
  fun d l0 s0 w k Q => r_iconst pt_41 rfl (by decide),
  fun d l0 x a w k Q => r_put pt_41 rfl (by simp only [List.all_cons, List.all_nil, ft_5_9, px_fit, px_isr, Bool.and_self]),
  fun d l0 w k Q => px_ret (q := (.return_, 1, px_x0)) pt_41 rfl rfl⟩
/-- AllSworn$Realm.isTold()Z -/
theorem S42 : (∀ (d : Nat) (v0 : Value) (w : px_H) (Q : Option Value → px_H → Prop), wc d 42 [v0] w Q ↔ wp d 42 0 [some v0] [] w 0 Q) ∧
  (∀ (d : Nat) (a : Nat) (w : px_H) (Q : Option Value → px_H → Prop), wp d 42 0 [some (.ref a)] [] w 0 Q ↔ wp d 42 1 [some (.ref a)] [.ref a] w 0 Q) ∧
  (∀ (d : Nat) (l0 : Option Value) (a : Nat) (w : px_H) (Q : Option Value → px_H → Prop), wp d 42 1 [l0] [.ref a] w 0 Q ↔ px_op (px_fld w a [(5, 0)] 4) (fun v => wp d 42 4 [l0] [v] w 0 Q)) ∧
  (∀ (d : Nat) (l0 : Option Value) (x : Int32) (w : px_H) (Q : Option Value → px_H → Prop), wp d 42 4 [l0] [.int x] w 0 Q ↔ if x ≤ 0 then wp d 42 11 [l0] [] w 0 Q else wp d 42 7 [l0] [] w 0 Q) ∧
  (∀ (d : Nat) (l0 : Option Value)  (w : px_H) (Q : Option Value → px_H → Prop), wp d 42 7 [l0] [] w 0 Q ↔ wp d 42 8 [l0] [.int 1] w 0 Q) ∧
  (∀ (d : Nat) (l0 : Option Value) (s0 : Value)  (w : px_H) (Q : Option Value → px_H → Prop), wp d 42 8 [l0] [s0] w 0 Q ↔ wp d 42 12 [l0] [s0] w 0 Q) ∧
  (∀ (d : Nat) (l0 : Option Value)  (w : px_H) (Q : Option Value → px_H → Prop), wp d 42 11 [l0] [] w 0 Q ↔ wp d 42 12 [l0] [.int 0] w 0 Q) ∧
  (∀ (d : Nat) (l0 : Option Value) (x : Int32) (w : px_H) (Q : Option Value → px_H → Prop), wp d 42 12 [l0] [.int x] w 0 Q ↔ (x = 0 ∨ x = 1) ∧ Q (some (.int x)) w) := ⟨fun d v0 w Q => r_entry pt_42 (Nat.le_of_ble_eq_true rfl) rfl,
  fun d a w Q => px_go (q := (.aload_n 0, 1, px_x0)) (S' := (1, [some (.ref a)], [.ref a], w, 0)) pt_42 rfl rfl,
  fun d l0 a w Q => px_goO (q := (.getfield 27, 3, (10, 4, [(5, 0)], 0, "AllSworn$Realm"))) (S' := fun v => (4, [l0], [v], w, 0)) pt_42 rfl rfl,
  fun d l0 x w Q => r_if_le pt_42 rfl rfl,
  fun d l0 w Q => r_iconst pt_42 rfl (by decide),
  fun d l0 s0 w Q => r_goto pt_42 rfl rfl,
  fun d l0 w Q => r_iconst pt_42 rfl (by decide),
  fun d l0 x w Q => px_retI (q := (.ireturn, 1, px_x0)) pt_42 rfl rfl⟩
/-- AllSworn$Realm.beginAnew(I)V -/
theorem S43 : (∀ (d : Nat) (v0 v1 : Value) (w : px_H) (Q : Option Value → px_H → Prop), wc d 43 [v0, v1] w Q ↔ wp d 43 0 [some v0, some v1] [] w 0 Q) ∧
  (∀ (d : Nat) (l1 : Option Value) (a : Nat) (w : px_H) (Q : Option Value → px_H → Prop), wp d 43 0 [some (.ref a), l1] [] w 0 Q ↔ wp d 43 1 [some (.ref a), l1] [.ref a] w 0 Q) ∧
  (∀ (d : Nat) (l0 : Option Value) (s0 : Value) (x : Int32) (w : px_H) (Q : Option Value → px_H → Prop), wp d 43 1 [l0, some (.int x)] [s0] w 0 Q ↔ wp d 43 2 [l0, some (.int x)] [.int x, s0] w 0 Q) ∧
  (∀ (d : Nat) (l0 l1 : Option Value) (x : Int32) (a : Nat) (w : px_H) (Q : Option Value → px_H → Prop), wp d 43 2 [l0, l1] [.int x, .ref a] w 0 Q ↔ px_op (px_pfd w a [(5, 0)] 4 (.int x)) (fun w' => wp d 43 5 [l0, l1] [] w' 0 Q)) ∧
  (∀ (d : Nat) (l1 : Option Value) (a : Nat) (w : px_H) (Q : Option Value → px_H → Prop), wp d 43 5 [some (.ref a), l1] [] w 0 Q ↔ wp d 43 6 [some (.ref a), l1] [.ref a] w 0 Q) ∧
  (∀ (d : Nat) (l0 l1 : Option Value) (s0 : Value)  (w : px_H) (Q : Option Value → px_H → Prop), wp d 43 6 [l0, l1] [s0] w 0 Q ↔ wp d 43 7 [l0, l1] [.int 0, s0] w 0 Q) ∧
  (∀ (d : Nat) (l0 l1 : Option Value) (x : Int32) (a : Nat) (w : px_H) (Q : Option Value → px_H → Prop), wp d 43 7 [l0, l1] [.int x, .ref a] w 0 Q ↔ px_op (px_pfd w a [(5, 0)] 5 (.int x)) (fun w' => wp d 43 10 [l0, l1] [] w' 0 Q)) ∧
  (∀ (d : Nat) (l1 : Option Value) (a : Nat) (w : px_H) (Q : Option Value → px_H → Prop), wp d 43 10 [some (.ref a), l1] [] w 0 Q ↔ wp d 43 11 [some (.ref a), l1] [.ref a] w 0 Q) ∧
  (∀ (d : Nat) (l0 l1 : Option Value) (s0 : Value)  (w : px_H) (Q : Option Value → px_H → Prop), wp d 43 11 [l0, l1] [s0] w 0 Q ↔ wp d 43 12 [l0, l1] [.int 0, s0] w 0 Q) ∧
  (∀ (d : Nat) (l0 l1 : Option Value) (x : Int32) (a : Nat) (w : px_H) (Q : Option Value → px_H → Prop), wp d 43 12 [l0, l1] [.int x, .ref a] w 0 Q ↔ px_op (px_pfd w a [(5, 0)] 6 (.int x)) (fun w' => wp d 43 15 [l0, l1] [] w' 0 Q)) ∧
  (∀ (d : Nat) (l1 : Option Value) (a : Nat) (w : px_H) (Q : Option Value → px_H → Prop), wp d 43 15 [some (.ref a), l1] [] w 0 Q ↔ wp d 43 16 [some (.ref a), l1] [.ref a] w 0 Q) ∧
  (∀ (d : Nat) (l0 l1 : Option Value) (s0 : Value)  (w : px_H) (Q : Option Value → px_H → Prop), wp d 43 16 [l0, l1] [s0] w 0 Q ↔ wp d 43 17 [l0, l1] [.int 0, s0] w 0 Q) ∧
  (∀ (d : Nat) (l0 l1 : Option Value) (x : Int32) (a : Nat) (w : px_H) (Q : Option Value → px_H → Prop), wp d 43 17 [l0, l1] [.int x, .ref a] w 0 Q ↔ px_op (px_pfd w a [(5, 0)] 7 (.int x)) (fun w' => wp d 43 20 [l0, l1] [] w' 0 Q)) ∧
  (∀ (d : Nat) (l1 : Option Value) (a : Nat) (w : px_H) (Q : Option Value → px_H → Prop), wp d 43 20 [some (.ref a), l1] [] w 0 Q ↔ wp d 43 21 [some (.ref a), l1] [.ref a] w 0 Q) ∧
  (∀ (d : Nat) (l0 l1 : Option Value) (s0 : Value)  (w : px_H) (Q : Option Value → px_H → Prop), wp d 43 21 [l0, l1] [s0] w 0 Q ↔ wp d 43 22 [l0, l1] [.int 0, s0] w 0 Q) ∧
  (∀ (d : Nat) (l0 l1 : Option Value) (x : Int32) (a : Nat) (w : px_H) (Q : Option Value → px_H → Prop), wp d 43 22 [l0, l1] [.int x, .ref a] w 0 Q ↔ px_op (px_pfd w a [(5, 0)] 8 (.int x)) (fun w' => wp d 43 25 [l0, l1] [] w' 0 Q)) ∧
  (∀ (d : Nat) (l1 : Option Value) (a : Nat) (w : px_H) (Q : Option Value → px_H → Prop), wp d 43 25 [some (.ref a), l1] [] w 0 Q ↔ wp d 43 26 [some (.ref a), l1] [.ref a] w 0 Q) ∧
  (∀ (d : Nat) (l0 l1 : Option Value) (s0 : Value)  (w : px_H) (Q : Option Value → px_H → Prop), wp d 43 26 [l0, l1] [s0] w 0 Q ↔ wp d 43 27 [l0, l1] [.int 0, s0] w 0 Q) ∧
  (∀ (d : Nat) (l0 l1 : Option Value) (x : Int32) (a : Nat) (w : px_H) (Q : Option Value → px_H → Prop), wp d 43 27 [l0, l1] [.int x, .ref a] w 0 Q ↔ px_op (px_pfd w a [(5, 0)] 9 (.int x)) (fun w' => wp d 43 30 [l0, l1] [] w' 0 Q)) ∧
  (∀ (d : Nat) (l0 l1 : Option Value)  (w : px_H) (Q : Option Value → px_H → Prop), wp d 43 30 [l0, l1] [] w 0 Q ↔ Q none w) := ⟨fun d v0 v1 w Q => r_entry pt_43 (Nat.le_of_ble_eq_true rfl) rfl,
  fun d l1 a w Q => px_go (q := (.aload_n 0, 1, px_x0)) (S' := (1, [some (.ref a), l1], [.ref a], w, 0)) pt_43 rfl rfl,
  fun d l0 s0 x w Q => px_go (q := (.iload_n 1, 1, px_x0)) (S' := (2, [l0, some (.int x)], [.int x, s0], w, 0)) pt_43 rfl rfl,
  fun d l0 l1 x a w Q => r_put pt_43 rfl (by simp only [List.all_cons, List.all_nil, ft_5_4, px_fit, px_isr, Bool.and_self]),
  fun d l1 a w Q => px_go (q := (.aload_n 0, 1, px_x0)) (S' := (6, [some (.ref a), l1], [.ref a], w, 0)) pt_43 rfl rfl,
  fun d l0 l1 s0 w Q => r_iconst pt_43 rfl (by decide),
  fun d l0 l1 x a w Q => r_put pt_43 rfl (by simp only [List.all_cons, List.all_nil, ft_5_5, px_fit, px_isr, Bool.and_self]),
  fun d l1 a w Q => px_go (q := (.aload_n 0, 1, px_x0)) (S' := (11, [some (.ref a), l1], [.ref a], w, 0)) pt_43 rfl rfl,
  fun d l0 l1 s0 w Q => r_iconst pt_43 rfl (by decide),
  fun d l0 l1 x a w Q => r_put pt_43 rfl (by simp only [List.all_cons, List.all_nil, ft_5_6, px_fit, px_isr, Bool.and_self]),
  fun d l1 a w Q => px_go (q := (.aload_n 0, 1, px_x0)) (S' := (16, [some (.ref a), l1], [.ref a], w, 0)) pt_43 rfl rfl,
  fun d l0 l1 s0 w Q => r_iconst pt_43 rfl (by decide),
  fun d l0 l1 x a w Q => r_put pt_43 rfl (by simp only [List.all_cons, List.all_nil, ft_5_7, px_fit, px_isr, Bool.and_self]),
  fun d l1 a w Q => px_go (q := (.aload_n 0, 1, px_x0)) (S' := (21, [some (.ref a), l1], [.ref a], w, 0)) pt_43 rfl rfl,
  fun d l0 l1 s0 w Q => r_iconst pt_43 rfl (by decide),
  fun d l0 l1 x a w Q => r_put pt_43 rfl (by simp only [List.all_cons, List.all_nil, ft_5_8, px_fit, px_isr, Bool.and_self]),
  fun d l1 a w Q => px_go (q := (.aload_n 0, 1, px_x0)) (S' := (26, [some (.ref a), l1], [.ref a], w, 0)) pt_43 rfl rfl,
  fun d l0 l1 s0 w Q => r_iconst pt_43 rfl (by decide),
  fun d l0 l1 x a w Q => r_put pt_43 rfl (by simp only [List.all_cons, List.all_nil, ft_5_9, px_fit, px_isr, Bool.and_self]),
  fun d l0 l1 w Q => px_ret (q := (.return_, 1, px_x0)) pt_43 rfl rfl⟩
/-- AllSworn$Realm.addThing(LAllSworn$Thing;)V -/
theorem S44 : (∀ (d : Nat) (v0 v1 : Value) (w : px_H) (Q : Option Value → px_H → Prop), wc d 44 [v0, v1] w Q ↔ wp d 44 0 [some v0, some v1] [] w 0 Q) ∧
  (∀ (d : Nat) (l1 : Option Value) (a : Nat) (w : px_H) (Q : Option Value → px_H → Prop), wp d 44 0 [some (.ref a), l1] [] w 0 Q ↔ wp d 44 1 [some (.ref a), l1] [.ref a] w 0 Q) ∧
  (∀ (d : Nat) (l0 l1 : Option Value) (a : Nat) (w : px_H) (Q : Option Value → px_H → Prop), wp d 44 1 [l0, l1] [.ref a] w 0 Q ↔ px_op (px_fld w a [(5, 0)] 5) (fun v => wp d 44 4 [l0, l1] [v] w 0 Q)) ∧
  (∀ (d : Nat) (l0 l1 : Option Value) (s0 : Value)  (w : px_H) (Q : Option Value → px_H → Prop), wp d 44 4 [l0, l1] [s0] w 0 Q ↔ wp d 44 6 [l0, l1] [.int 8, s0] w 0 Q) ∧
  (∀ (d : Nat) (l0 l1 : Option Value) (x y : Int32) (w : px_H) (Q : Option Value → px_H → Prop), wp d 44 6 [l0, l1] [.int y, .int x] w 0 Q ↔ if y ≤ x then wp d 44 40 [l0, l1] [] w 0 Q else wp d 44 9 [l0, l1] [] w 0 Q) ∧
  (∀ (d : Nat) (l1 : Option Value) (a : Nat) (w : px_H) (Q : Option Value → px_H → Prop), wp d 44 9 [some (.ref a), l1] [] w 0 Q ↔ wp d 44 10 [some (.ref a), l1] [.ref a] w 0 Q) ∧
  (∀ (d : Nat) (l0 l1 : Option Value) (a : Nat) (w : px_H) (Q : Option Value → px_H → Prop), wp d 44 10 [l0, l1] [.ref a] w 0 Q ↔ px_op (px_fld w a [(5, 0)] 0) (fun v => wp d 44 13 [l0, l1] [v] w 0 Q)) ∧
  (∀ (d : Nat) (l1 : Option Value) (s0 : Value) (a : Nat) (w : px_H) (Q : Option Value → px_H → Prop), wp d 44 13 [some (.ref a), l1] [s0] w 0 Q ↔ wp d 44 14 [some (.ref a), l1] [.ref a, s0] w 0 Q) ∧
  (∀ (d : Nat) (l0 l1 : Option Value) (s1 : Value) (a : Nat) (w : px_H) (Q : Option Value → px_H → Prop), wp d 44 14 [l0, l1] [.ref a, s1] w 0 Q ↔ px_op (px_fld w a [(5, 0)] 5) (fun v => wp d 44 17 [l0, l1] [v, s1] w 0 Q)) ∧
  (∀ (d : Nat) (l0 : Option Value) (s0 s1 : Value) (a : Nat) (w : px_H) (Q : Option Value → px_H → Prop), wp d 44 17 [l0, some (.ref a)] [s0, s1] w 0 Q ↔ wp d 44 18 [l0, some (.ref a)] [.ref a, s0, s1] w 0 Q) ∧
  (∀ (d : Nat) (l0 : Option Value) (s0 s1 : Value)  (w : px_H) (Q : Option Value → px_H → Prop), wp d 44 17 [l0, some .null] [s0, s1] w 0 Q ↔ wp d 44 18 [l0, some .null] [.null, s0, s1] w 0 Q) ∧
  (∀ (d : Nat) (l0 l1 : Option Value) (s0 : Value) (i : Int32) (a : Nat) (w : px_H) (Q : Option Value → px_H → Prop), wp d 44 18 [l0, l1] [s0, .int i, .ref a] w 0 Q ↔ px_op (px_rst w a i s0) (fun w' => wp d 44 19 [l0, l1] [] w' 0 Q)) ∧
  (∀ (d : Nat) (l1 : Option Value) (a : Nat) (w : px_H) (Q : Option Value → px_H → Prop), wp d 44 19 [some (.ref a), l1] [] w 0 Q ↔ wp d 44 20 [some (.ref a), l1] [.ref a] w 0 Q) ∧
  (∀ (d : Nat) (l0 l1 : Option Value) (a : Nat) (w : px_H) (Q : Option Value → px_H → Prop), wp d 44 20 [l0, l1] [.ref a] w 0 Q ↔ px_op (px_fld w a [(5, 0)] 1) (fun v => wp d 44 23 [l0, l1] [v] w 0 Q)) ∧
  (∀ (d : Nat) (l1 : Option Value) (s0 : Value) (a : Nat) (w : px_H) (Q : Option Value → px_H → Prop), wp d 44 23 [some (.ref a), l1] [s0] w 0 Q ↔ wp d 44 24 [some (.ref a), l1] [.ref a, s0] w 0 Q) ∧
  (∀ (d : Nat) (l0 l1 : Option Value) (s1 : Value) (a : Nat) (w : px_H) (Q : Option Value → px_H → Prop), wp d 44 24 [l0, l1] [.ref a, s1] w 0 Q ↔ px_op (px_fld w a [(5, 0)] 5) (fun v => wp d 44 27 [l0, l1] [v, s1] w 0 Q)) ∧
  (∀ (d : Nat) (l0 l1 : Option Value) (s0 s1 : Value)  (w : px_H) (Q : Option Value → px_H → Prop), wp d 44 27 [l0, l1] [s0, s1] w 0 Q ↔ wp d 44 29 [l0, l1] [.int (-1000000), s0, s1] w 0 Q) ∧
  (∀ (d : Nat) (l0 l1 : Option Value) (x i : Int32) (a : Nat) (w : px_H) (Q : Option Value → px_H → Prop), wp d 44 29 [l0, l1] [.int x, .int i, .ref a] w 0 Q ↔ px_op (px_ast w a i x .int) (fun w' => wp d 44 30 [l0, l1] [] w' 0 Q)) ∧
  (∀ (d : Nat) (l1 : Option Value) (a : Nat) (w : px_H) (Q : Option Value → px_H → Prop), wp d 44 30 [some (.ref a), l1] [] w 0 Q ↔ wp d 44 31 [some (.ref a), l1] [.ref a] w 0 Q) ∧
  (∀ (d : Nat) (l0 l1 : Option Value) (s0 : Value)  (w : px_H) (Q : Option Value → px_H → Prop), wp d 44 31 [l0, l1] [s0] w 0 Q ↔ wp d 44 32 [l0, l1] [s0, s0] w 0 Q) ∧
  (∀ (d : Nat) (l0 l1 : Option Value) (s1 : Value) (a : Nat) (w : px_H) (Q : Option Value → px_H → Prop), wp d 44 32 [l0, l1] [.ref a, s1] w 0 Q ↔ px_op (px_fld w a [(5, 0)] 5) (fun v => wp d 44 35 [l0, l1] [v, s1] w 0 Q)) ∧
  (∀ (d : Nat) (l0 l1 : Option Value) (s0 s1 : Value)  (w : px_H) (Q : Option Value → px_H → Prop), wp d 44 35 [l0, l1] [s0, s1] w 0 Q ↔ wp d 44 36 [l0, l1] [.int 1, s0, s1] w 0 Q) ∧
  (∀ (d : Nat) (l0 l1 : Option Value) (s2 : Value) (x y : Int32) (w : px_H) (Q : Option Value → px_H → Prop), wp d 44 36 [l0, l1] [.int y, .int x, s2] w 0 Q ↔ wp d 44 37 [l0, l1] [.int (x + y), s2] w 0 Q) ∧
  (∀ (d : Nat) (l0 l1 : Option Value) (x : Int32) (a : Nat) (w : px_H) (Q : Option Value → px_H → Prop), wp d 44 37 [l0, l1] [.int x, .ref a] w 0 Q ↔ px_op (px_pfd w a [(5, 0)] 5 (.int x)) (fun w' => wp d 44 40 [l0, l1] [] w' 0 Q)) ∧
  (∀ (d : Nat) (l0 l1 : Option Value)  (w : px_H) (Q : Option Value → px_H → Prop), wp d 44 40 [l0, l1] [] w 0 Q ↔ Q none w) := ⟨fun d v0 v1 w Q => r_entry pt_44 (Nat.le_of_ble_eq_true rfl) rfl,
  fun d l1 a w Q => px_go (q := (.aload_n 0, 1, px_x0)) (S' := (1, [some (.ref a), l1], [.ref a], w, 0)) pt_44 rfl rfl,
  fun d l0 l1 a w Q => px_goO (q := (.getfield 31, 3, (10, 5, [(5, 0)], 0, "AllSworn$Realm"))) (S' := fun v => (4, [l0, l1], [v], w, 0)) pt_44 rfl rfl,
  fun d l0 l1 s0 w Q => r_bipush pt_44 rfl (by decide),
  fun d l0 l1 x y w Q => r_icmp_ge pt_44 rfl rfl,
  fun d l1 a w Q => px_go (q := (.aload_n 0, 1, px_x0)) (S' := (10, [some (.ref a), l1], [.ref a], w, 0)) pt_44 rfl rfl,
  fun d l0 l1 a w Q => px_goO (q := (.getfield 11, 3, (10, 0, [(5, 0)], 0, "AllSworn$Realm"))) (S' := fun v => (13, [l0, l1], [v], w, 0)) pt_44 rfl rfl,
  fun d l1 s0 a w Q => px_go (q := (.aload_n 0, 1, px_x0)) (S' := (14, [some (.ref a), l1], [.ref a, s0], w, 0)) pt_44 rfl rfl,
  fun d l0 l1 s1 a w Q => px_goO (q := (.getfield 31, 3, (10, 5, [(5, 0)], 0, "AllSworn$Realm"))) (S' := fun v => (17, [l0, l1], [v, s1], w, 0)) pt_44 rfl rfl,
  fun d l0 s0 s1 a w Q => px_go (q := (.aload_n 1, 1, px_x0)) (S' := (18, [l0, some (.ref a)], [.ref a, s0, s1], w, 0)) pt_44 rfl rfl,
  fun d l0 s0 s1 w Q => px_go (q := (.aload_n 1, 1, px_x0)) (S' := (18, [l0, some .null], [.null, s0, s1], w, 0)) pt_44 rfl rfl,
  fun d l0 l1 s0 i a w Q => px_goO (q := (.aastore, 1, px_x0)) (S' := fun w' => (19, [l0, l1], [], w', 0)) pt_44 rfl rfl,
  fun d l1 a w Q => px_go (q := (.aload_n 0, 1, px_x0)) (S' := (20, [some (.ref a), l1], [.ref a], w, 0)) pt_44 rfl rfl,
  fun d l0 l1 a w Q => px_goO (q := (.getfield 17, 3, (10, 1, [(5, 0)], 0, "AllSworn$Realm"))) (S' := fun v => (23, [l0, l1], [v], w, 0)) pt_44 rfl rfl,
  fun d l1 s0 a w Q => px_go (q := (.aload_n 0, 1, px_x0)) (S' := (24, [some (.ref a), l1], [.ref a, s0], w, 0)) pt_44 rfl rfl,
  fun d l0 l1 s1 a w Q => px_goO (q := (.getfield 31, 3, (10, 5, [(5, 0)], 0, "AllSworn$Realm"))) (S' := fun v => (27, [l0, l1], [v, s1], w, 0)) pt_44 rfl rfl,
  fun d l0 l1 s0 s1 w Q => px_go (q := (.ldc 46, 2, (0, 0, [], (-1000000), ""))) (S' := (29, [l0, l1], [.int (-1000000), s0, s1], w, 0)) pt_44 rfl rfl,
  fun d l0 l1 x i a w Q => px_goO (q := (.iastore, 1, px_x0)) (S' := fun w' => (30, [l0, l1], [], w', 0)) pt_44 rfl rfl,
  fun d l1 a w Q => px_go (q := (.aload_n 0, 1, px_x0)) (S' := (31, [some (.ref a), l1], [.ref a], w, 0)) pt_44 rfl rfl,
  fun d l0 l1 s0 w Q => px_go (q := (.dup, 1, px_x0)) (S' := (32, [l0, l1], [s0, s0], w, 0)) pt_44 rfl rfl,
  fun d l0 l1 s1 a w Q => px_goO (q := (.getfield 31, 3, (10, 5, [(5, 0)], 0, "AllSworn$Realm"))) (S' := fun v => (35, [l0, l1], [v, s1], w, 0)) pt_44 rfl rfl,
  fun d l0 l1 s0 s1 w Q => r_iconst pt_44 rfl (by decide),
  fun d l0 l1 s2 x y w Q => px_go (q := (.iadd, 1, px_x0)) (S' := (37, [l0, l1], [.int (x + y), s2], w, 0)) pt_44 rfl rfl,
  fun d l0 l1 x a w Q => r_put pt_44 rfl (by simp only [List.all_cons, List.all_nil, ft_5_5, px_fit, px_isr, Bool.and_self]),
  fun d l0 l1 w Q => px_ret (q := (.return_, 1, px_x0)) pt_44 rfl rfl⟩
/-- AllSworn$Realm.addHarm(I)V -/
theorem S45 : (∀ (d : Nat) (v0 v1 : Value) (w : px_H) (Q : Option Value → px_H → Prop), wc d 45 [v0, v1] w Q ↔ wp d 45 0 [some v0, some v1] [] w 0 Q) ∧
  (∀ (d : Nat) (l1 : Option Value) (a : Nat) (w : px_H) (Q : Option Value → px_H → Prop), wp d 45 0 [some (.ref a), l1] [] w 0 Q ↔ wp d 45 1 [some (.ref a), l1] [.ref a] w 0 Q) ∧
  (∀ (d : Nat) (l0 l1 : Option Value) (a : Nat) (w : px_H) (Q : Option Value → px_H → Prop), wp d 45 1 [l0, l1] [.ref a] w 0 Q ↔ px_op (px_fld w a [(5, 0)] 6) (fun v => wp d 45 4 [l0, l1] [v] w 0 Q)) ∧
  (∀ (d : Nat) (l0 l1 : Option Value) (s0 : Value)  (w : px_H) (Q : Option Value → px_H → Prop), wp d 45 4 [l0, l1] [s0] w 0 Q ↔ wp d 45 6 [l0, l1] [.int 8, s0] w 0 Q) ∧
  (∀ (d : Nat) (l0 l1 : Option Value) (x y : Int32) (w : px_H) (Q : Option Value → px_H → Prop), wp d 45 6 [l0, l1] [.int y, .int x] w 0 Q ↔ if y ≤ x then wp d 45 29 [l0, l1] [] w 0 Q else wp d 45 9 [l0, l1] [] w 0 Q) ∧
  (∀ (d : Nat) (l1 : Option Value) (a : Nat) (w : px_H) (Q : Option Value → px_H → Prop), wp d 45 9 [some (.ref a), l1] [] w 0 Q ↔ wp d 45 10 [some (.ref a), l1] [.ref a] w 0 Q) ∧
  (∀ (d : Nat) (l0 l1 : Option Value) (a : Nat) (w : px_H) (Q : Option Value → px_H → Prop), wp d 45 10 [l0, l1] [.ref a] w 0 Q ↔ px_op (px_fld w a [(5, 0)] 2) (fun v => wp d 45 13 [l0, l1] [v] w 0 Q)) ∧
  (∀ (d : Nat) (l1 : Option Value) (s0 : Value) (a : Nat) (w : px_H) (Q : Option Value → px_H → Prop), wp d 45 13 [some (.ref a), l1] [s0] w 0 Q ↔ wp d 45 14 [some (.ref a), l1] [.ref a, s0] w 0 Q) ∧
  (∀ (d : Nat) (l0 l1 : Option Value) (s1 : Value) (a : Nat) (w : px_H) (Q : Option Value → px_H → Prop), wp d 45 14 [l0, l1] [.ref a, s1] w 0 Q ↔ px_op (px_fld w a [(5, 0)] 6) (fun v => wp d 45 17 [l0, l1] [v, s1] w 0 Q)) ∧
  (∀ (d : Nat) (l0 : Option Value) (s0 s1 : Value) (x : Int32) (w : px_H) (Q : Option Value → px_H → Prop), wp d 45 17 [l0, some (.int x)] [s0, s1] w 0 Q ↔ wp d 45 18 [l0, some (.int x)] [.int x, s0, s1] w 0 Q) ∧
  (∀ (d : Nat) (l0 l1 : Option Value) (x i : Int32) (a : Nat) (w : px_H) (Q : Option Value → px_H → Prop), wp d 45 18 [l0, l1] [.int x, .int i, .ref a] w 0 Q ↔ px_op (px_ast w a i x .int) (fun w' => wp d 45 19 [l0, l1] [] w' 0 Q)) ∧
  (∀ (d : Nat) (l1 : Option Value) (a : Nat) (w : px_H) (Q : Option Value → px_H → Prop), wp d 45 19 [some (.ref a), l1] [] w 0 Q ↔ wp d 45 20 [some (.ref a), l1] [.ref a] w 0 Q) ∧
  (∀ (d : Nat) (l0 l1 : Option Value) (s0 : Value)  (w : px_H) (Q : Option Value → px_H → Prop), wp d 45 20 [l0, l1] [s0] w 0 Q ↔ wp d 45 21 [l0, l1] [s0, s0] w 0 Q) ∧
  (∀ (d : Nat) (l0 l1 : Option Value) (s1 : Value) (a : Nat) (w : px_H) (Q : Option Value → px_H → Prop), wp d 45 21 [l0, l1] [.ref a, s1] w 0 Q ↔ px_op (px_fld w a [(5, 0)] 6) (fun v => wp d 45 24 [l0, l1] [v, s1] w 0 Q)) ∧
  (∀ (d : Nat) (l0 l1 : Option Value) (s0 s1 : Value)  (w : px_H) (Q : Option Value → px_H → Prop), wp d 45 24 [l0, l1] [s0, s1] w 0 Q ↔ wp d 45 25 [l0, l1] [.int 1, s0, s1] w 0 Q) ∧
  (∀ (d : Nat) (l0 l1 : Option Value) (s2 : Value) (x y : Int32) (w : px_H) (Q : Option Value → px_H → Prop), wp d 45 25 [l0, l1] [.int y, .int x, s2] w 0 Q ↔ wp d 45 26 [l0, l1] [.int (x + y), s2] w 0 Q) ∧
  (∀ (d : Nat) (l0 l1 : Option Value) (x : Int32) (a : Nat) (w : px_H) (Q : Option Value → px_H → Prop), wp d 45 26 [l0, l1] [.int x, .ref a] w 0 Q ↔ px_op (px_pfd w a [(5, 0)] 6 (.int x)) (fun w' => wp d 45 29 [l0, l1] [] w' 0 Q)) ∧
  (∀ (d : Nat) (l0 l1 : Option Value)  (w : px_H) (Q : Option Value → px_H → Prop), wp d 45 29 [l0, l1] [] w 0 Q ↔ Q none w) := ⟨fun d v0 v1 w Q => r_entry pt_45 (Nat.le_of_ble_eq_true rfl) rfl,
  fun d l1 a w Q => px_go (q := (.aload_n 0, 1, px_x0)) (S' := (1, [some (.ref a), l1], [.ref a], w, 0)) pt_45 rfl rfl,
  fun d l0 l1 a w Q => px_goO (q := (.getfield 34, 3, (10, 6, [(5, 0)], 0, "AllSworn$Realm"))) (S' := fun v => (4, [l0, l1], [v], w, 0)) pt_45 rfl rfl,
  fun d l0 l1 s0 w Q => r_bipush pt_45 rfl (by decide),
  fun d l0 l1 x y w Q => r_icmp_ge pt_45 rfl rfl,
  fun d l1 a w Q => px_go (q := (.aload_n 0, 1, px_x0)) (S' := (10, [some (.ref a), l1], [.ref a], w, 0)) pt_45 rfl rfl,
  fun d l0 l1 a w Q => px_goO (q := (.getfield 21, 3, (10, 2, [(5, 0)], 0, "AllSworn$Realm"))) (S' := fun v => (13, [l0, l1], [v], w, 0)) pt_45 rfl rfl,
  fun d l1 s0 a w Q => px_go (q := (.aload_n 0, 1, px_x0)) (S' := (14, [some (.ref a), l1], [.ref a, s0], w, 0)) pt_45 rfl rfl,
  fun d l0 l1 s1 a w Q => px_goO (q := (.getfield 34, 3, (10, 6, [(5, 0)], 0, "AllSworn$Realm"))) (S' := fun v => (17, [l0, l1], [v, s1], w, 0)) pt_45 rfl rfl,
  fun d l0 s0 s1 x w Q => px_go (q := (.iload_n 1, 1, px_x0)) (S' := (18, [l0, some (.int x)], [.int x, s0, s1], w, 0)) pt_45 rfl rfl,
  fun d l0 l1 x i a w Q => px_goO (q := (.iastore, 1, px_x0)) (S' := fun w' => (19, [l0, l1], [], w', 0)) pt_45 rfl rfl,
  fun d l1 a w Q => px_go (q := (.aload_n 0, 1, px_x0)) (S' := (20, [some (.ref a), l1], [.ref a], w, 0)) pt_45 rfl rfl,
  fun d l0 l1 s0 w Q => px_go (q := (.dup, 1, px_x0)) (S' := (21, [l0, l1], [s0, s0], w, 0)) pt_45 rfl rfl,
  fun d l0 l1 s1 a w Q => px_goO (q := (.getfield 34, 3, (10, 6, [(5, 0)], 0, "AllSworn$Realm"))) (S' := fun v => (24, [l0, l1], [v, s1], w, 0)) pt_45 rfl rfl,
  fun d l0 l1 s0 s1 w Q => r_iconst pt_45 rfl (by decide),
  fun d l0 l1 s2 x y w Q => px_go (q := (.iadd, 1, px_x0)) (S' := (26, [l0, l1], [.int (x + y), s2], w, 0)) pt_45 rfl rfl,
  fun d l0 l1 x a w Q => r_put pt_45 rfl (by simp only [List.all_cons, List.all_nil, ft_5_6, px_fit, px_isr, Bool.and_self]),
  fun d l0 l1 w Q => px_ret (q := (.return_, 1, px_x0)) pt_45 rfl rfl⟩
/-- AllSworn$Realm.becomeLike(LAllSworn$Realm;)V heads: [47] -/
theorem S46 : (∀ (d : Nat) (v0 v1 : Value) (w : px_H) (Q : Option Value → px_H → Prop), wc d 46 [v0, v1] w Q ↔ wp d 46 0 [some v0, some v1, none] [] w 0 Q) ∧
  (∀ (d : Nat) (l1 l2 : Option Value) (a : Nat) (w : px_H) (Q : Option Value → px_H → Prop), wp d 46 0 [some (.ref a), l1, l2] [] w 0 Q ↔ wp d 46 1 [some (.ref a), l1, l2] [.ref a] w 0 Q) ∧
  (∀ (d : Nat) (l0 l2 : Option Value) (s0 : Value) (a : Nat) (w : px_H) (Q : Option Value → px_H → Prop), wp d 46 1 [l0, some (.ref a), l2] [s0] w 0 Q ↔ wp d 46 2 [l0, some (.ref a), l2] [.ref a, s0] w 0 Q) ∧
  (∀ (d : Nat) (l0 l2 : Option Value) (s0 : Value)  (w : px_H) (Q : Option Value → px_H → Prop), wp d 46 1 [l0, some .null, l2] [s0] w 0 Q ↔ wp d 46 2 [l0, some .null, l2] [.null, s0] w 0 Q) ∧
  (∀ (d : Nat) (l0 l1 l2 : Option Value) (s1 : Value) (a : Nat) (w : px_H) (Q : Option Value → px_H → Prop), wp d 46 2 [l0, l1, l2] [.ref a, s1] w 0 Q ↔ px_op (px_fld w a [(5, 0)] 4) (fun v => wp d 46 5 [l0, l1, l2] [v, s1] w 0 Q)) ∧
  (∀ (d : Nat) (l0 l1 l2 : Option Value) (x : Int32) (a : Nat) (w : px_H) (Q : Option Value → px_H → Prop), wp d 46 5 [l0, l1, l2] [.int x, .ref a] w 0 Q ↔ px_op (px_pfd w a [(5, 0)] 4 (.int x)) (fun w' => wp d 46 8 [l0, l1, l2] [] w' 0 Q)) ∧
  (∀ (d : Nat) (l1 l2 : Option Value) (a : Nat) (w : px_H) (Q : Option Value → px_H → Prop), wp d 46 8 [some (.ref a), l1, l2] [] w 0 Q ↔ wp d 46 9 [some (.ref a), l1, l2] [.ref a] w 0 Q) ∧
  (∀ (d : Nat) (l0 l2 : Option Value) (s0 : Value) (a : Nat) (w : px_H) (Q : Option Value → px_H → Prop), wp d 46 9 [l0, some (.ref a), l2] [s0] w 0 Q ↔ wp d 46 10 [l0, some (.ref a), l2] [.ref a, s0] w 0 Q) ∧
  (∀ (d : Nat) (l0 l2 : Option Value) (s0 : Value)  (w : px_H) (Q : Option Value → px_H → Prop), wp d 46 9 [l0, some .null, l2] [s0] w 0 Q ↔ wp d 46 10 [l0, some .null, l2] [.null, s0] w 0 Q) ∧
  (∀ (d : Nat) (l0 l1 l2 : Option Value) (s1 : Value) (a : Nat) (w : px_H) (Q : Option Value → px_H → Prop), wp d 46 10 [l0, l1, l2] [.ref a, s1] w 0 Q ↔ px_op (px_fld w a [(5, 0)] 5) (fun v => wp d 46 13 [l0, l1, l2] [v, s1] w 0 Q)) ∧
  (∀ (d : Nat) (l0 l1 l2 : Option Value) (x : Int32) (a : Nat) (w : px_H) (Q : Option Value → px_H → Prop), wp d 46 13 [l0, l1, l2] [.int x, .ref a] w 0 Q ↔ px_op (px_pfd w a [(5, 0)] 5 (.int x)) (fun w' => wp d 46 16 [l0, l1, l2] [] w' 0 Q)) ∧
  (∀ (d : Nat) (l1 l2 : Option Value) (a : Nat) (w : px_H) (Q : Option Value → px_H → Prop), wp d 46 16 [some (.ref a), l1, l2] [] w 0 Q ↔ wp d 46 17 [some (.ref a), l1, l2] [.ref a] w 0 Q) ∧
  (∀ (d : Nat) (l0 l2 : Option Value) (s0 : Value) (a : Nat) (w : px_H) (Q : Option Value → px_H → Prop), wp d 46 17 [l0, some (.ref a), l2] [s0] w 0 Q ↔ wp d 46 18 [l0, some (.ref a), l2] [.ref a, s0] w 0 Q) ∧
  (∀ (d : Nat) (l0 l2 : Option Value) (s0 : Value)  (w : px_H) (Q : Option Value → px_H → Prop), wp d 46 17 [l0, some .null, l2] [s0] w 0 Q ↔ wp d 46 18 [l0, some .null, l2] [.null, s0] w 0 Q) ∧
  (∀ (d : Nat) (l0 l1 l2 : Option Value) (s1 : Value) (a : Nat) (w : px_H) (Q : Option Value → px_H → Prop), wp d 46 18 [l0, l1, l2] [.ref a, s1] w 0 Q ↔ px_op (px_fld w a [(5, 0)] 6) (fun v => wp d 46 21 [l0, l1, l2] [v, s1] w 0 Q)) ∧
  (∀ (d : Nat) (l0 l1 l2 : Option Value) (x : Int32) (a : Nat) (w : px_H) (Q : Option Value → px_H → Prop), wp d 46 21 [l0, l1, l2] [.int x, .ref a] w 0 Q ↔ px_op (px_pfd w a [(5, 0)] 6 (.int x)) (fun w' => wp d 46 24 [l0, l1, l2] [] w' 0 Q)) ∧
  (∀ (d : Nat) (l1 l2 : Option Value) (a : Nat) (w : px_H) (Q : Option Value → px_H → Prop), wp d 46 24 [some (.ref a), l1, l2] [] w 0 Q ↔ wp d 46 25 [some (.ref a), l1, l2] [.ref a] w 0 Q) ∧
  (∀ (d : Nat) (l0 l1 l2 : Option Value) (s0 : Value)  (w : px_H) (Q : Option Value → px_H → Prop), wp d 46 25 [l0, l1, l2] [s0] w 0 Q ↔ wp d 46 26 [l0, l1, l2] [.int 0, s0] w 0 Q) ∧
  (∀ (d : Nat) (l0 l1 l2 : Option Value) (x : Int32) (a : Nat) (w : px_H) (Q : Option Value → px_H → Prop), wp d 46 26 [l0, l1, l2] [.int x, .ref a] w 0 Q ↔ px_op (px_pfd w a [(5, 0)] 7 (.int x)) (fun w' => wp d 46 29 [l0, l1, l2] [] w' 0 Q)) ∧
  (∀ (d : Nat) (l1 l2 : Option Value) (a : Nat) (w : px_H) (Q : Option Value → px_H → Prop), wp d 46 29 [some (.ref a), l1, l2] [] w 0 Q ↔ wp d 46 30 [some (.ref a), l1, l2] [.ref a] w 0 Q) ∧
  (∀ (d : Nat) (l0 l2 : Option Value) (s0 : Value) (a : Nat) (w : px_H) (Q : Option Value → px_H → Prop), wp d 46 30 [l0, some (.ref a), l2] [s0] w 0 Q ↔ wp d 46 31 [l0, some (.ref a), l2] [.ref a, s0] w 0 Q) ∧
  (∀ (d : Nat) (l0 l2 : Option Value) (s0 : Value)  (w : px_H) (Q : Option Value → px_H → Prop), wp d 46 30 [l0, some .null, l2] [s0] w 0 Q ↔ wp d 46 31 [l0, some .null, l2] [.null, s0] w 0 Q) ∧
  (∀ (d : Nat) (l0 l1 l2 : Option Value) (s1 : Value) (a : Nat) (w : px_H) (Q : Option Value → px_H → Prop), wp d 46 31 [l0, l1, l2] [.ref a, s1] w 0 Q ↔ px_op (px_fld w a [(5, 0)] 8) (fun v => wp d 46 34 [l0, l1, l2] [v, s1] w 0 Q)) ∧
  (∀ (d : Nat) (l0 l1 l2 : Option Value) (x : Int32) (a : Nat) (w : px_H) (Q : Option Value → px_H → Prop), wp d 46 34 [l0, l1, l2] [.int x, .ref a] w 0 Q ↔ px_op (px_pfd w a [(5, 0)] 8 (.int x)) (fun w' => wp d 46 37 [l0, l1, l2] [] w' 0 Q)) ∧
  (∀ (d : Nat) (l1 l2 : Option Value) (a : Nat) (w : px_H) (Q : Option Value → px_H → Prop), wp d 46 37 [some (.ref a), l1, l2] [] w 0 Q ↔ wp d 46 38 [some (.ref a), l1, l2] [.ref a] w 0 Q) ∧
  (∀ (d : Nat) (l0 l2 : Option Value) (s0 : Value) (a : Nat) (w : px_H) (Q : Option Value → px_H → Prop), wp d 46 38 [l0, some (.ref a), l2] [s0] w 0 Q ↔ wp d 46 39 [l0, some (.ref a), l2] [.ref a, s0] w 0 Q) ∧
  (∀ (d : Nat) (l0 l2 : Option Value) (s0 : Value)  (w : px_H) (Q : Option Value → px_H → Prop), wp d 46 38 [l0, some .null, l2] [s0] w 0 Q ↔ wp d 46 39 [l0, some .null, l2] [.null, s0] w 0 Q) ∧
  (∀ (d : Nat) (l0 l1 l2 : Option Value) (s1 : Value) (a : Nat) (w : px_H) (Q : Option Value → px_H → Prop), wp d 46 39 [l0, l1, l2] [.ref a, s1] w 0 Q ↔ px_op (px_fld w a [(5, 0)] 9) (fun v => wp d 46 42 [l0, l1, l2] [v, s1] w 0 Q)) ∧
  (∀ (d : Nat) (l0 l1 l2 : Option Value) (x : Int32) (a : Nat) (w : px_H) (Q : Option Value → px_H → Prop), wp d 46 42 [l0, l1, l2] [.int x, .ref a] w 0 Q ↔ px_op (px_pfd w a [(5, 0)] 9 (.int x)) (fun w' => wp d 46 45 [l0, l1, l2] [] w' 0 Q)) ∧
  (∀ (d : Nat) (l0 l1 l2 : Option Value)  (w : px_H) (Q : Option Value → px_H → Prop), wp d 46 45 [l0, l1, l2] [] w 0 Q ↔ wp d 46 46 [l0, l1, l2] [.int 0] w 0 Q) ∧
  (∀ (d : Nat) (l0 l1 l2 : Option Value) (x : Int32) (w : px_H) (Q : Option Value → px_H → Prop), wp d 46 46 [l0, l1, l2] [.int x] w 0 Q ↔ wp d 46 47 [l0, l1, some (.int x)] [] w 0 Q) ∧
  (∀ (d : Nat) (l0 l1 l2 : Option Value) (s0 : Value)  (w : px_H) (Q : Option Value → px_H → Prop), wp d 46 48 [l0, l1, l2] [s0] w 0 Q ↔ wp d 46 50 [l0, l1, l2] [.int 8, s0] w 0 Q) ∧
  (∀ (d : Nat) (l0 l1 l2 : Option Value) (x y : Int32) (w : px_H) (Q : Option Value → px_H → Prop), wp d 46 50 [l0, l1, l2] [.int y, .int x] w 0 Q ↔ if y ≤ x then wp d 46 71 [l0, l1, l2] [] w 0 Q else wp d 46 53 [l0, l1, l2] [] w 0 Q) ∧
  (∀ (d : Nat) (l1 l2 : Option Value) (a : Nat) (w : px_H) (Q : Option Value → px_H → Prop), wp d 46 53 [some (.ref a), l1, l2] [] w 0 Q ↔ wp d 46 54 [some (.ref a), l1, l2] [.ref a] w 0 Q) ∧
  (∀ (d : Nat) (l0 l1 l2 : Option Value) (a : Nat) (w : px_H) (Q : Option Value → px_H → Prop), wp d 46 54 [l0, l1, l2] [.ref a] w 0 Q ↔ px_op (px_fld w a [(5, 0)] 0) (fun v => wp d 46 57 [l0, l1, l2] [v] w 0 Q)) ∧
  (∀ (d : Nat) (l0 l1 : Option Value) (s0 : Value) (x : Int32) (w : px_H) (Q : Option Value → px_H → Prop), wp d 46 57 [l0, l1, some (.int x)] [s0] w 0 Q ↔ wp d 46 58 [l0, l1, some (.int x)] [.int x, s0] w 0 Q) ∧
  (∀ (d : Nat) (l0 l2 : Option Value) (s0 s1 : Value) (a : Nat) (w : px_H) (Q : Option Value → px_H → Prop), wp d 46 58 [l0, some (.ref a), l2] [s0, s1] w 0 Q ↔ wp d 46 59 [l0, some (.ref a), l2] [.ref a, s0, s1] w 0 Q) ∧
  (∀ (d : Nat) (l0 l2 : Option Value) (s0 s1 : Value)  (w : px_H) (Q : Option Value → px_H → Prop), wp d 46 58 [l0, some .null, l2] [s0, s1] w 0 Q ↔ wp d 46 59 [l0, some .null, l2] [.null, s0, s1] w 0 Q) ∧
  (∀ (d : Nat) (l0 l1 l2 : Option Value) (s1 s2 : Value) (a : Nat) (w : px_H) (Q : Option Value → px_H → Prop), wp d 46 59 [l0, l1, l2] [.ref a, s1, s2] w 0 Q ↔ px_op (px_fld w a [(5, 0)] 0) (fun v => wp d 46 62 [l0, l1, l2] [v, s1, s2] w 0 Q)) ∧
  (∀ (d : Nat) (l0 l1 : Option Value) (s0 s1 s2 : Value) (x : Int32) (w : px_H) (Q : Option Value → px_H → Prop), wp d 46 62 [l0, l1, some (.int x)] [s0, s1, s2] w 0 Q ↔ wp d 46 63 [l0, l1, some (.int x)] [.int x, s0, s1, s2] w 0 Q) ∧
  (∀ (d : Nat) (l0 l1 l2 : Option Value) (s2 s3 : Value) (i : Int32) (a : Nat) (w : px_H) (Q : Option Value → px_H → Prop), wp d 46 63 [l0, l1, l2] [.int i, .ref a, s2, s3] w 0 Q ↔ px_op (px_rld w a i) (fun v => wp d 46 64 [l0, l1, l2] [v, s2, s3] w 0 Q)) ∧
  (∀ (d : Nat) (l0 l1 l2 : Option Value) (s0 : Value) (i : Int32) (a : Nat) (w : px_H) (Q : Option Value → px_H → Prop), wp d 46 64 [l0, l1, l2] [s0, .int i, .ref a] w 0 Q ↔ px_op (px_rst w a i s0) (fun w' => wp d 46 65 [l0, l1, l2] [] w' 0 Q)) ∧
  (∀ (d : Nat) (l0 l1 : Option Value) (x : Int32) (w : px_H) (Q : Option Value → px_H → Prop), wp d 46 65 [l0, l1, some (.int x)] [] w 0 Q ↔ wp d 46 68 [l0, l1, some (.int (x + 1))] [] w 0 Q) ∧
  (∀ (d : Nat) (l0 l1 l2 : Option Value)  (w : px_H) (Q : Option Value → px_H → Prop), wp d 46 68 [l0, l1, l2] [] w 0 Q ↔ wp d 46 47 [l0, l1, l2] [] w 0 Q) ∧
  (∀ (d : Nat) (l0 l2 : Option Value) (a : Nat) (w : px_H) (Q : Option Value → px_H → Prop), wp d 46 71 [l0, some (.ref a), l2] [] w 0 Q ↔ wp d 46 72 [l0, some (.ref a), l2] [.ref a] w 0 Q) ∧
  (∀ (d : Nat) (l0 l2 : Option Value)  (w : px_H) (Q : Option Value → px_H → Prop), wp d 46 71 [l0, some .null, l2] [] w 0 Q ↔ wp d 46 72 [l0, some .null, l2] [.null] w 0 Q) ∧
  (∀ (d : Nat) (l0 l1 l2 : Option Value) (a : Nat) (w : px_H) (Q : Option Value → px_H → Prop), wp d 46 72 [l0, l1, l2] [.ref a] w 0 Q ↔ px_op (px_fld w a [(5, 0)] 1) (fun v => wp d 46 75 [l0, l1, l2] [v] w 0 Q)) ∧
  (∀ (d : Nat) (l0 l1 l2 : Option Value) (s0 : Value)  (w : px_H) (Q : Option Value → px_H → Prop), wp d 46 75 [l0, l1, l2] [s0] w 0 Q ↔ wp d 46 76 [l0, l1, l2] [.int 0, s0] w 0 Q) ∧
  (∀ (d : Nat) (l1 l2 : Option Value) (s0 s1 : Value) (a : Nat) (w : px_H) (Q : Option Value → px_H → Prop), wp d 46 76 [some (.ref a), l1, l2] [s0, s1] w 0 Q ↔ wp d 46 77 [some (.ref a), l1, l2] [.ref a, s0, s1] w 0 Q) ∧
  (∀ (d : Nat) (l0 l1 l2 : Option Value) (s1 s2 : Value) (a : Nat) (w : px_H) (Q : Option Value → px_H → Prop), wp d 46 77 [l0, l1, l2] [.ref a, s1, s2] w 0 Q ↔ px_op (px_fld w a [(5, 0)] 1) (fun v => wp d 46 80 [l0, l1, l2] [v, s1, s2] w 0 Q)) ∧
  (∀ (d : Nat) (l0 l1 l2 : Option Value) (s0 s1 s2 : Value)  (w : px_H) (Q : Option Value → px_H → Prop), wp d 46 80 [l0, l1, l2] [s0, s1, s2] w 0 Q ↔ wp d 46 81 [l0, l1, l2] [.int 0, s0, s1, s2] w 0 Q) ∧
  (∀ (d : Nat) (l0 l1 l2 : Option Value) (s0 s1 s2 s3 : Value)  (w : px_H) (Q : Option Value → px_H → Prop), wp d 46 81 [l0, l1, l2] [s0, s1, s2, s3] w 0 Q ↔ wp d 46 83 [l0, l1, l2] [.int 8, s0, s1, s2, s3] w 0 Q) ∧
  (∀ (d : Nat) (l0 l1 l2 : Option Value) (n dp sp : Int32) (a b : Nat) (w : px_H) (Q : Option Value → px_H → Prop), wp d 46 83 [l0, l1, l2] [.int n, .int dp, .ref a, .int sp, .ref b] w 0 Q ↔ px_op (px_cpy w b sp a dp n) (fun w' => wp d 46 86 [l0, l1, l2] [] w' 0 Q)) ∧
  (∀ (d : Nat) (l0 l2 : Option Value) (a : Nat) (w : px_H) (Q : Option Value → px_H → Prop), wp d 46 86 [l0, some (.ref a), l2] [] w 0 Q ↔ wp d 46 87 [l0, some (.ref a), l2] [.ref a] w 0 Q) ∧
  (∀ (d : Nat) (l0 l2 : Option Value)  (w : px_H) (Q : Option Value → px_H → Prop), wp d 46 86 [l0, some .null, l2] [] w 0 Q ↔ wp d 46 87 [l0, some .null, l2] [.null] w 0 Q) ∧
  (∀ (d : Nat) (l0 l1 l2 : Option Value) (a : Nat) (w : px_H) (Q : Option Value → px_H → Prop), wp d 46 87 [l0, l1, l2] [.ref a] w 0 Q ↔ px_op (px_fld w a [(5, 0)] 2) (fun v => wp d 46 90 [l0, l1, l2] [v] w 0 Q)) ∧
  (∀ (d : Nat) (l0 l1 l2 : Option Value) (s0 : Value)  (w : px_H) (Q : Option Value → px_H → Prop), wp d 46 90 [l0, l1, l2] [s0] w 0 Q ↔ wp d 46 91 [l0, l1, l2] [.int 0, s0] w 0 Q) ∧
  (∀ (d : Nat) (l1 l2 : Option Value) (s0 s1 : Value) (a : Nat) (w : px_H) (Q : Option Value → px_H → Prop), wp d 46 91 [some (.ref a), l1, l2] [s0, s1] w 0 Q ↔ wp d 46 92 [some (.ref a), l1, l2] [.ref a, s0, s1] w 0 Q) ∧
  (∀ (d : Nat) (l0 l1 l2 : Option Value) (s1 s2 : Value) (a : Nat) (w : px_H) (Q : Option Value → px_H → Prop), wp d 46 92 [l0, l1, l2] [.ref a, s1, s2] w 0 Q ↔ px_op (px_fld w a [(5, 0)] 2) (fun v => wp d 46 95 [l0, l1, l2] [v, s1, s2] w 0 Q)) ∧
  (∀ (d : Nat) (l0 l1 l2 : Option Value) (s0 s1 s2 : Value)  (w : px_H) (Q : Option Value → px_H → Prop), wp d 46 95 [l0, l1, l2] [s0, s1, s2] w 0 Q ↔ wp d 46 96 [l0, l1, l2] [.int 0, s0, s1, s2] w 0 Q) ∧
  (∀ (d : Nat) (l0 l1 l2 : Option Value) (s0 s1 s2 s3 : Value)  (w : px_H) (Q : Option Value → px_H → Prop), wp d 46 96 [l0, l1, l2] [s0, s1, s2, s3] w 0 Q ↔ wp d 46 98 [l0, l1, l2] [.int 8, s0, s1, s2, s3] w 0 Q) ∧
  (∀ (d : Nat) (l0 l1 l2 : Option Value) (n dp sp : Int32) (a b : Nat) (w : px_H) (Q : Option Value → px_H → Prop), wp d 46 98 [l0, l1, l2] [.int n, .int dp, .ref a, .int sp, .ref b] w 0 Q ↔ px_op (px_cpy w b sp a dp n) (fun w' => wp d 46 101 [l0, l1, l2] [] w' 0 Q)) ∧
  (∀ (d : Nat) (l0 l1 l2 : Option Value)  (w : px_H) (Q : Option Value → px_H → Prop), wp d 46 101 [l0, l1, l2] [] w 0 Q ↔ Q none w) := ⟨fun d v0 v1 w Q => r_entry pt_46 (Nat.le_of_ble_eq_true rfl) rfl,
  fun d l1 l2 a w Q => px_go (q := (.aload_n 0, 1, px_x0)) (S' := (1, [some (.ref a), l1, l2], [.ref a], w, 0)) pt_46 rfl rfl,
  fun d l0 l2 s0 a w Q => px_go (q := (.aload_n 1, 1, px_x0)) (S' := (2, [l0, some (.ref a), l2], [.ref a, s0], w, 0)) pt_46 rfl rfl,
  fun d l0 l2 s0 w Q => px_go (q := (.aload_n 1, 1, px_x0)) (S' := (2, [l0, some .null, l2], [.null, s0], w, 0)) pt_46 rfl rfl,
  fun d l0 l1 l2 s1 a w Q => px_goO (q := (.getfield 27, 3, (10, 4, [(5, 0)], 0, "AllSworn$Realm"))) (S' := fun v => (5, [l0, l1, l2], [v, s1], w, 0)) pt_46 rfl rfl,
  fun d l0 l1 l2 x a w Q => r_put pt_46 rfl (by simp only [List.all_cons, List.all_nil, ft_5_4, px_fit, px_isr, Bool.and_self]),
  fun d l1 l2 a w Q => px_go (q := (.aload_n 0, 1, px_x0)) (S' := (9, [some (.ref a), l1, l2], [.ref a], w, 0)) pt_46 rfl rfl,
  fun d l0 l2 s0 a w Q => px_go (q := (.aload_n 1, 1, px_x0)) (S' := (10, [l0, some (.ref a), l2], [.ref a, s0], w, 0)) pt_46 rfl rfl,
  fun d l0 l2 s0 w Q => px_go (q := (.aload_n 1, 1, px_x0)) (S' := (10, [l0, some .null, l2], [.null, s0], w, 0)) pt_46 rfl rfl,
  fun d l0 l1 l2 s1 a w Q => px_goO (q := (.getfield 31, 3, (10, 5, [(5, 0)], 0, "AllSworn$Realm"))) (S' := fun v => (13, [l0, l1, l2], [v, s1], w, 0)) pt_46 rfl rfl,
  fun d l0 l1 l2 x a w Q => r_put pt_46 rfl (by simp only [List.all_cons, List.all_nil, ft_5_5, px_fit, px_isr, Bool.and_self]),
  fun d l1 l2 a w Q => px_go (q := (.aload_n 0, 1, px_x0)) (S' := (17, [some (.ref a), l1, l2], [.ref a], w, 0)) pt_46 rfl rfl,
  fun d l0 l2 s0 a w Q => px_go (q := (.aload_n 1, 1, px_x0)) (S' := (18, [l0, some (.ref a), l2], [.ref a, s0], w, 0)) pt_46 rfl rfl,
  fun d l0 l2 s0 w Q => px_go (q := (.aload_n 1, 1, px_x0)) (S' := (18, [l0, some .null, l2], [.null, s0], w, 0)) pt_46 rfl rfl,
  fun d l0 l1 l2 s1 a w Q => px_goO (q := (.getfield 34, 3, (10, 6, [(5, 0)], 0, "AllSworn$Realm"))) (S' := fun v => (21, [l0, l1, l2], [v, s1], w, 0)) pt_46 rfl rfl,
  fun d l0 l1 l2 x a w Q => r_put pt_46 rfl (by simp only [List.all_cons, List.all_nil, ft_5_6, px_fit, px_isr, Bool.and_self]),
  fun d l1 l2 a w Q => px_go (q := (.aload_n 0, 1, px_x0)) (S' := (25, [some (.ref a), l1, l2], [.ref a], w, 0)) pt_46 rfl rfl,
  fun d l0 l1 l2 s0 w Q => r_iconst pt_46 rfl (by decide),
  fun d l0 l1 l2 x a w Q => r_put pt_46 rfl (by simp only [List.all_cons, List.all_nil, ft_5_7, px_fit, px_isr, Bool.and_self]),
  fun d l1 l2 a w Q => px_go (q := (.aload_n 0, 1, px_x0)) (S' := (30, [some (.ref a), l1, l2], [.ref a], w, 0)) pt_46 rfl rfl,
  fun d l0 l2 s0 a w Q => px_go (q := (.aload_n 1, 1, px_x0)) (S' := (31, [l0, some (.ref a), l2], [.ref a, s0], w, 0)) pt_46 rfl rfl,
  fun d l0 l2 s0 w Q => px_go (q := (.aload_n 1, 1, px_x0)) (S' := (31, [l0, some .null, l2], [.null, s0], w, 0)) pt_46 rfl rfl,
  fun d l0 l1 l2 s1 a w Q => px_goO (q := (.getfield 40, 3, (10, 8, [(5, 0)], 0, "AllSworn$Realm"))) (S' := fun v => (34, [l0, l1, l2], [v, s1], w, 0)) pt_46 rfl rfl,
  fun d l0 l1 l2 x a w Q => r_put pt_46 rfl (by simp only [List.all_cons, List.all_nil, ft_5_8, px_fit, px_isr, Bool.and_self]),
  fun d l1 l2 a w Q => px_go (q := (.aload_n 0, 1, px_x0)) (S' := (38, [some (.ref a), l1, l2], [.ref a], w, 0)) pt_46 rfl rfl,
  fun d l0 l2 s0 a w Q => px_go (q := (.aload_n 1, 1, px_x0)) (S' := (39, [l0, some (.ref a), l2], [.ref a, s0], w, 0)) pt_46 rfl rfl,
  fun d l0 l2 s0 w Q => px_go (q := (.aload_n 1, 1, px_x0)) (S' := (39, [l0, some .null, l2], [.null, s0], w, 0)) pt_46 rfl rfl,
  fun d l0 l1 l2 s1 a w Q => px_goO (q := (.getfield 43, 3, (10, 9, [(5, 0)], 0, "AllSworn$Realm"))) (S' := fun v => (42, [l0, l1, l2], [v, s1], w, 0)) pt_46 rfl rfl,
  fun d l0 l1 l2 x a w Q => r_put pt_46 rfl (by simp only [List.all_cons, List.all_nil, ft_5_9, px_fit, px_isr, Bool.and_self]),
  fun d l0 l1 l2 w Q => r_iconst pt_46 rfl (by decide),
  fun d l0 l1 l2 x w Q => px_go (q := (.istore_n 2, 1, px_x0)) (S' := (47, [l0, l1, some (.int x)], [], w, 0)) pt_46 rfl rfl,
  fun d l0 l1 l2 s0 w Q => r_bipush pt_46 rfl (by decide),
  fun d l0 l1 l2 x y w Q => r_icmp_ge pt_46 rfl rfl,
  fun d l1 l2 a w Q => px_go (q := (.aload_n 0, 1, px_x0)) (S' := (54, [some (.ref a), l1, l2], [.ref a], w, 0)) pt_46 rfl rfl,
  fun d l0 l1 l2 a w Q => px_goO (q := (.getfield 11, 3, (10, 0, [(5, 0)], 0, "AllSworn$Realm"))) (S' := fun v => (57, [l0, l1, l2], [v], w, 0)) pt_46 rfl rfl,
  fun d l0 l1 s0 x w Q => px_go (q := (.iload_n 2, 1, px_x0)) (S' := (58, [l0, l1, some (.int x)], [.int x, s0], w, 0)) pt_46 rfl rfl,
  fun d l0 l2 s0 s1 a w Q => px_go (q := (.aload_n 1, 1, px_x0)) (S' := (59, [l0, some (.ref a), l2], [.ref a, s0, s1], w, 0)) pt_46 rfl rfl,
  fun d l0 l2 s0 s1 w Q => px_go (q := (.aload_n 1, 1, px_x0)) (S' := (59, [l0, some .null, l2], [.null, s0, s1], w, 0)) pt_46 rfl rfl,
  fun d l0 l1 l2 s1 s2 a w Q => px_goO (q := (.getfield 11, 3, (10, 0, [(5, 0)], 0, "AllSworn$Realm"))) (S' := fun v => (62, [l0, l1, l2], [v, s1, s2], w, 0)) pt_46 rfl rfl,
  fun d l0 l1 s0 s1 s2 x w Q => px_go (q := (.iload_n 2, 1, px_x0)) (S' := (63, [l0, l1, some (.int x)], [.int x, s0, s1, s2], w, 0)) pt_46 rfl rfl,
  fun d l0 l1 l2 s2 s3 i a w Q => px_goO (q := (.aaload, 1, px_x0)) (S' := fun v => (64, [l0, l1, l2], [v, s2, s3], w, 0)) pt_46 rfl rfl,
  fun d l0 l1 l2 s0 i a w Q => px_goO (q := (.aastore, 1, px_x0)) (S' := fun w' => (65, [l0, l1, l2], [], w', 0)) pt_46 rfl rfl,
  fun d l0 l1 x w Q => r_iinc pt_46 rfl rfl (by decide) rfl,
  fun d l0 l1 l2 w Q => r_goto pt_46 rfl rfl,
  fun d l0 l2 a w Q => px_go (q := (.aload_n 1, 1, px_x0)) (S' := (72, [l0, some (.ref a), l2], [.ref a], w, 0)) pt_46 rfl rfl,
  fun d l0 l2 w Q => px_go (q := (.aload_n 1, 1, px_x0)) (S' := (72, [l0, some .null, l2], [.null], w, 0)) pt_46 rfl rfl,
  fun d l0 l1 l2 a w Q => px_goO (q := (.getfield 17, 3, (10, 1, [(5, 0)], 0, "AllSworn$Realm"))) (S' := fun v => (75, [l0, l1, l2], [v], w, 0)) pt_46 rfl rfl,
  fun d l0 l1 l2 s0 w Q => r_iconst pt_46 rfl (by decide),
  fun d l1 l2 s0 s1 a w Q => px_go (q := (.aload_n 0, 1, px_x0)) (S' := (77, [some (.ref a), l1, l2], [.ref a, s0, s1], w, 0)) pt_46 rfl rfl,
  fun d l0 l1 l2 s1 s2 a w Q => px_goO (q := (.getfield 17, 3, (10, 1, [(5, 0)], 0, "AllSworn$Realm"))) (S' := fun v => (80, [l0, l1, l2], [v, s1, s2], w, 0)) pt_46 rfl rfl,
  fun d l0 l1 l2 s0 s1 s2 w Q => r_iconst pt_46 rfl (by decide),
  fun d l0 l1 l2 s0 s1 s2 s3 w Q => r_bipush pt_46 rfl (by decide),
  fun d l0 l1 l2 n dp sp a b w Q => px_goO (q := (.invokestatic 47, 3, (37, 0, [], 0, ""))) (S' := fun w' => (86, [l0, l1, l2], [], w', 0)) pt_46 rfl rfl,
  fun d l0 l2 a w Q => px_go (q := (.aload_n 1, 1, px_x0)) (S' := (87, [l0, some (.ref a), l2], [.ref a], w, 0)) pt_46 rfl rfl,
  fun d l0 l2 w Q => px_go (q := (.aload_n 1, 1, px_x0)) (S' := (87, [l0, some .null, l2], [.null], w, 0)) pt_46 rfl rfl,
  fun d l0 l1 l2 a w Q => px_goO (q := (.getfield 21, 3, (10, 2, [(5, 0)], 0, "AllSworn$Realm"))) (S' := fun v => (90, [l0, l1, l2], [v], w, 0)) pt_46 rfl rfl,
  fun d l0 l1 l2 s0 w Q => r_iconst pt_46 rfl (by decide),
  fun d l1 l2 s0 s1 a w Q => px_go (q := (.aload_n 0, 1, px_x0)) (S' := (92, [some (.ref a), l1, l2], [.ref a, s0, s1], w, 0)) pt_46 rfl rfl,
  fun d l0 l1 l2 s1 s2 a w Q => px_goO (q := (.getfield 21, 3, (10, 2, [(5, 0)], 0, "AllSworn$Realm"))) (S' := fun v => (95, [l0, l1, l2], [v, s1, s2], w, 0)) pt_46 rfl rfl,
  fun d l0 l1 l2 s0 s1 s2 w Q => r_iconst pt_46 rfl (by decide),
  fun d l0 l1 l2 s0 s1 s2 s3 w Q => r_bipush pt_46 rfl (by decide),
  fun d l0 l1 l2 n dp sp a b w Q => px_goO (q := (.invokestatic 47, 3, (37, 0, [], 0, ""))) (S' := fun w' => (101, [l0, l1, l2], [], w', 0)) pt_46 rfl rfl,
  fun d l0 l1 l2 w Q => px_ret (q := (.return_, 1, px_x0)) pt_46 rfl rfl⟩
theorem H46_47 : ∀ (d : Nat) (l0 l1 : Option Value) (x : Int32) (w : px_H) (Q : Option Value → px_H → Prop), wp d 46 47 [l0, l1, some (.int x)] [] w 0 Q ↔ wp d 46 48 [l0, l1, some (.int x)] [.int x] w 0 Q := fun d l0 l1 x w Q => px_go (q := (.iload_n 2, 1, px_x0)) (S' := (48, [l0, l1, some (.int x)], [.int x], w, 0)) pt_46 rfl rfl
/-- AllSworn$Realm.thingAt(I)LAllSworn$Thing; -/
theorem S47 : (∀ (d : Nat) (v0 v1 : Value) (w : px_H) (Q : Option Value → px_H → Prop), wc d 47 [v0, v1] w Q ↔ wp d 47 0 [some v0, some v1] [] w 0 Q) ∧
  (∀ (d : Nat) (l0 : Option Value) (x : Int32) (w : px_H) (Q : Option Value → px_H → Prop), wp d 47 0 [l0, some (.int x)] [] w 0 Q ↔ wp d 47 1 [l0, some (.int x)] [.int x] w 0 Q) ∧
  (∀ (d : Nat) (l0 l1 : Option Value) (x : Int32) (w : px_H) (Q : Option Value → px_H → Prop), wp d 47 1 [l0, l1] [.int x] w 0 Q ↔ if x < 0 then wp d 47 27 [l0, l1] [] w 0 Q else wp d 47 4 [l0, l1] [] w 0 Q) ∧
  (∀ (d : Nat) (l0 : Option Value) (x : Int32) (w : px_H) (Q : Option Value → px_H → Prop), wp d 47 4 [l0, some (.int x)] [] w 0 Q ↔ wp d 47 5 [l0, some (.int x)] [.int x] w 0 Q) ∧
  (∀ (d : Nat) (l1 : Option Value) (s0 : Value) (a : Nat) (w : px_H) (Q : Option Value → px_H → Prop), wp d 47 5 [some (.ref a), l1] [s0] w 0 Q ↔ wp d 47 6 [some (.ref a), l1] [.ref a, s0] w 0 Q) ∧
  (∀ (d : Nat) (l0 l1 : Option Value) (s1 : Value) (a : Nat) (w : px_H) (Q : Option Value → px_H → Prop), wp d 47 6 [l0, l1] [.ref a, s1] w 0 Q ↔ px_op (px_fld w a [(5, 0)] 5) (fun v => wp d 47 9 [l0, l1] [v, s1] w 0 Q)) ∧
  (∀ (d : Nat) (l0 l1 : Option Value) (x y : Int32) (w : px_H) (Q : Option Value → px_H → Prop), wp d 47 9 [l0, l1] [.int y, .int x] w 0 Q ↔ if y ≤ x then wp d 47 27 [l0, l1] [] w 0 Q else wp d 47 12 [l0, l1] [] w 0 Q) ∧
  (∀ (d : Nat) (l0 : Option Value) (x : Int32) (w : px_H) (Q : Option Value → px_H → Prop), wp d 47 12 [l0, some (.int x)] [] w 0 Q ↔ wp d 47 13 [l0, some (.int x)] [.int x] w 0 Q) ∧
  (∀ (d : Nat) (l0 l1 : Option Value) (s0 : Value)  (w : px_H) (Q : Option Value → px_H → Prop), wp d 47 13 [l0, l1] [s0] w 0 Q ↔ wp d 47 15 [l0, l1] [.int 8, s0] w 0 Q) ∧
  (∀ (d : Nat) (l0 l1 : Option Value) (x y : Int32) (w : px_H) (Q : Option Value → px_H → Prop), wp d 47 15 [l0, l1] [.int y, .int x] w 0 Q ↔ if y ≤ x then wp d 47 27 [l0, l1] [] w 0 Q else wp d 47 18 [l0, l1] [] w 0 Q) ∧
  (∀ (d : Nat) (l1 : Option Value) (a : Nat) (w : px_H) (Q : Option Value → px_H → Prop), wp d 47 18 [some (.ref a), l1] [] w 0 Q ↔ wp d 47 19 [some (.ref a), l1] [.ref a] w 0 Q) ∧
  (∀ (d : Nat) (l0 l1 : Option Value) (a : Nat) (w : px_H) (Q : Option Value → px_H → Prop), wp d 47 19 [l0, l1] [.ref a] w 0 Q ↔ px_op (px_fld w a [(5, 0)] 0) (fun v => wp d 47 22 [l0, l1] [v] w 0 Q)) ∧
  (∀ (d : Nat) (l0 : Option Value) (s0 : Value) (x : Int32) (w : px_H) (Q : Option Value → px_H → Prop), wp d 47 22 [l0, some (.int x)] [s0] w 0 Q ↔ wp d 47 23 [l0, some (.int x)] [.int x, s0] w 0 Q) ∧
  (∀ (d : Nat) (l0 l1 : Option Value) (i : Int32) (a : Nat) (w : px_H) (Q : Option Value → px_H → Prop), wp d 47 23 [l0, l1] [.int i, .ref a] w 0 Q ↔ px_op (px_rld w a i) (fun v => wp d 47 24 [l0, l1] [v] w 0 Q)) ∧
  (∀ (d : Nat) (l0 l1 : Option Value) (s0 : Value)  (w : px_H) (Q : Option Value → px_H → Prop), wp d 47 24 [l0, l1] [s0] w 0 Q ↔ wp d 47 28 [l0, l1] [s0] w 0 Q) ∧
  (∀ (d : Nat) (l0 l1 : Option Value)  (w : px_H) (Q : Option Value → px_H → Prop), wp d 47 27 [l0, l1] [] w 0 Q ↔ wp d 47 28 [l0, l1] [.null] w 0 Q) ∧
  (∀ (d : Nat) (l0 l1 : Option Value) (a : Nat) (w : px_H) (Q : Option Value → px_H → Prop), wp d 47 28 [l0, l1] [.ref a] w 0 Q ↔ Q (some (.ref a)) w) ∧
  (∀ (d : Nat) (l0 l1 : Option Value)  (w : px_H) (Q : Option Value → px_H → Prop), wp d 47 28 [l0, l1] [.null] w 0 Q ↔ Q (some .null) w) := ⟨fun d v0 v1 w Q => r_entry pt_47 (Nat.le_of_ble_eq_true rfl) rfl,
  fun d l0 x w Q => px_go (q := (.iload_n 1, 1, px_x0)) (S' := (1, [l0, some (.int x)], [.int x], w, 0)) pt_47 rfl rfl,
  fun d l0 l1 x w Q => r_if_lt pt_47 rfl rfl,
  fun d l0 x w Q => px_go (q := (.iload_n 1, 1, px_x0)) (S' := (5, [l0, some (.int x)], [.int x], w, 0)) pt_47 rfl rfl,
  fun d l1 s0 a w Q => px_go (q := (.aload_n 0, 1, px_x0)) (S' := (6, [some (.ref a), l1], [.ref a, s0], w, 0)) pt_47 rfl rfl,
  fun d l0 l1 s1 a w Q => px_goO (q := (.getfield 31, 3, (10, 5, [(5, 0)], 0, "AllSworn$Realm"))) (S' := fun v => (9, [l0, l1], [v, s1], w, 0)) pt_47 rfl rfl,
  fun d l0 l1 x y w Q => r_icmp_ge pt_47 rfl rfl,
  fun d l0 x w Q => px_go (q := (.iload_n 1, 1, px_x0)) (S' := (13, [l0, some (.int x)], [.int x], w, 0)) pt_47 rfl rfl,
  fun d l0 l1 s0 w Q => r_bipush pt_47 rfl (by decide),
  fun d l0 l1 x y w Q => r_icmp_ge pt_47 rfl rfl,
  fun d l1 a w Q => px_go (q := (.aload_n 0, 1, px_x0)) (S' := (19, [some (.ref a), l1], [.ref a], w, 0)) pt_47 rfl rfl,
  fun d l0 l1 a w Q => px_goO (q := (.getfield 11, 3, (10, 0, [(5, 0)], 0, "AllSworn$Realm"))) (S' := fun v => (22, [l0, l1], [v], w, 0)) pt_47 rfl rfl,
  fun d l0 s0 x w Q => px_go (q := (.iload_n 1, 1, px_x0)) (S' := (23, [l0, some (.int x)], [.int x, s0], w, 0)) pt_47 rfl rfl,
  fun d l0 l1 i a w Q => px_goO (q := (.aaload, 1, px_x0)) (S' := fun v => (24, [l0, l1], [v], w, 0)) pt_47 rfl rfl,
  fun d l0 l1 s0 w Q => r_goto pt_47 rfl rfl,
  fun d l0 l1 w Q => px_go (q := (.aconst_null, 1, px_x0)) (S' := (28, [l0, l1], [.null], w, 0)) pt_47 rfl rfl,
  fun d l0 l1 a w Q => px_ret (q := (.areturn, 1, px_x0)) pt_47 rfl rfl,
  fun d l0 l1 w Q => px_ret (q := (.areturn, 1, px_x0)) pt_47 rfl rfl⟩
/-- AllSworn$Realm.oathOf(I)I -/
theorem S48 : (∀ (d : Nat) (v0 v1 : Value) (w : px_H) (Q : Option Value → px_H → Prop), wc d 48 [v0, v1] w Q ↔ wp d 48 0 [some v0, some v1] [] w 0 Q) ∧
  (∀ (d : Nat) (l0 : Option Value) (x : Int32) (w : px_H) (Q : Option Value → px_H → Prop), wp d 48 0 [l0, some (.int x)] [] w 0 Q ↔ wp d 48 1 [l0, some (.int x)] [.int x] w 0 Q) ∧
  (∀ (d : Nat) (l0 l1 : Option Value) (x : Int32) (w : px_H) (Q : Option Value → px_H → Prop), wp d 48 1 [l0, l1] [.int x] w 0 Q ↔ if x < 0 then wp d 48 27 [l0, l1] [] w 0 Q else wp d 48 4 [l0, l1] [] w 0 Q) ∧
  (∀ (d : Nat) (l0 : Option Value) (x : Int32) (w : px_H) (Q : Option Value → px_H → Prop), wp d 48 4 [l0, some (.int x)] [] w 0 Q ↔ wp d 48 5 [l0, some (.int x)] [.int x] w 0 Q) ∧
  (∀ (d : Nat) (l1 : Option Value) (s0 : Value) (a : Nat) (w : px_H) (Q : Option Value → px_H → Prop), wp d 48 5 [some (.ref a), l1] [s0] w 0 Q ↔ wp d 48 6 [some (.ref a), l1] [.ref a, s0] w 0 Q) ∧
  (∀ (d : Nat) (l0 l1 : Option Value) (s1 : Value) (a : Nat) (w : px_H) (Q : Option Value → px_H → Prop), wp d 48 6 [l0, l1] [.ref a, s1] w 0 Q ↔ px_op (px_fld w a [(5, 0)] 5) (fun v => wp d 48 9 [l0, l1] [v, s1] w 0 Q)) ∧
  (∀ (d : Nat) (l0 l1 : Option Value) (x y : Int32) (w : px_H) (Q : Option Value → px_H → Prop), wp d 48 9 [l0, l1] [.int y, .int x] w 0 Q ↔ if y ≤ x then wp d 48 27 [l0, l1] [] w 0 Q else wp d 48 12 [l0, l1] [] w 0 Q) ∧
  (∀ (d : Nat) (l0 : Option Value) (x : Int32) (w : px_H) (Q : Option Value → px_H → Prop), wp d 48 12 [l0, some (.int x)] [] w 0 Q ↔ wp d 48 13 [l0, some (.int x)] [.int x] w 0 Q) ∧
  (∀ (d : Nat) (l0 l1 : Option Value) (s0 : Value)  (w : px_H) (Q : Option Value → px_H → Prop), wp d 48 13 [l0, l1] [s0] w 0 Q ↔ wp d 48 15 [l0, l1] [.int 8, s0] w 0 Q) ∧
  (∀ (d : Nat) (l0 l1 : Option Value) (x y : Int32) (w : px_H) (Q : Option Value → px_H → Prop), wp d 48 15 [l0, l1] [.int y, .int x] w 0 Q ↔ if y ≤ x then wp d 48 27 [l0, l1] [] w 0 Q else wp d 48 18 [l0, l1] [] w 0 Q) ∧
  (∀ (d : Nat) (l1 : Option Value) (a : Nat) (w : px_H) (Q : Option Value → px_H → Prop), wp d 48 18 [some (.ref a), l1] [] w 0 Q ↔ wp d 48 19 [some (.ref a), l1] [.ref a] w 0 Q) ∧
  (∀ (d : Nat) (l0 l1 : Option Value) (a : Nat) (w : px_H) (Q : Option Value → px_H → Prop), wp d 48 19 [l0, l1] [.ref a] w 0 Q ↔ px_op (px_fld w a [(5, 0)] 1) (fun v => wp d 48 22 [l0, l1] [v] w 0 Q)) ∧
  (∀ (d : Nat) (l0 : Option Value) (s0 : Value) (x : Int32) (w : px_H) (Q : Option Value → px_H → Prop), wp d 48 22 [l0, some (.int x)] [s0] w 0 Q ↔ wp d 48 23 [l0, some (.int x)] [.int x, s0] w 0 Q) ∧
  (∀ (d : Nat) (l0 l1 : Option Value) (i : Int32) (a : Nat) (w : px_H) (Q : Option Value → px_H → Prop), wp d 48 23 [l0, l1] [.int i, .ref a] w 0 Q ↔ px_op (px_ald w a i .int) (fun x => wp d 48 24 [l0, l1] [.int x] w 0 Q)) ∧
  (∀ (d : Nat) (l0 l1 : Option Value) (s0 : Value)  (w : px_H) (Q : Option Value → px_H → Prop), wp d 48 24 [l0, l1] [s0] w 0 Q ↔ wp d 48 29 [l0, l1] [s0] w 0 Q) ∧
  (∀ (d : Nat) (l0 l1 : Option Value)  (w : px_H) (Q : Option Value → px_H → Prop), wp d 48 27 [l0, l1] [] w 0 Q ↔ wp d 48 29 [l0, l1] [.int (-1000000)] w 0 Q) ∧
  (∀ (d : Nat) (l0 l1 : Option Value) (x : Int32) (w : px_H) (Q : Option Value → px_H → Prop), wp d 48 29 [l0, l1] [.int x] w 0 Q ↔ Q (some (.int x)) w) := ⟨fun d v0 v1 w Q => r_entry pt_48 (Nat.le_of_ble_eq_true rfl) rfl,
  fun d l0 x w Q => px_go (q := (.iload_n 1, 1, px_x0)) (S' := (1, [l0, some (.int x)], [.int x], w, 0)) pt_48 rfl rfl,
  fun d l0 l1 x w Q => r_if_lt pt_48 rfl rfl,
  fun d l0 x w Q => px_go (q := (.iload_n 1, 1, px_x0)) (S' := (5, [l0, some (.int x)], [.int x], w, 0)) pt_48 rfl rfl,
  fun d l1 s0 a w Q => px_go (q := (.aload_n 0, 1, px_x0)) (S' := (6, [some (.ref a), l1], [.ref a, s0], w, 0)) pt_48 rfl rfl,
  fun d l0 l1 s1 a w Q => px_goO (q := (.getfield 31, 3, (10, 5, [(5, 0)], 0, "AllSworn$Realm"))) (S' := fun v => (9, [l0, l1], [v, s1], w, 0)) pt_48 rfl rfl,
  fun d l0 l1 x y w Q => r_icmp_ge pt_48 rfl rfl,
  fun d l0 x w Q => px_go (q := (.iload_n 1, 1, px_x0)) (S' := (13, [l0, some (.int x)], [.int x], w, 0)) pt_48 rfl rfl,
  fun d l0 l1 s0 w Q => r_bipush pt_48 rfl (by decide),
  fun d l0 l1 x y w Q => r_icmp_ge pt_48 rfl rfl,
  fun d l1 a w Q => px_go (q := (.aload_n 0, 1, px_x0)) (S' := (19, [some (.ref a), l1], [.ref a], w, 0)) pt_48 rfl rfl,
  fun d l0 l1 a w Q => px_goO (q := (.getfield 17, 3, (10, 1, [(5, 0)], 0, "AllSworn$Realm"))) (S' := fun v => (22, [l0, l1], [v], w, 0)) pt_48 rfl rfl,
  fun d l0 s0 x w Q => px_go (q := (.iload_n 1, 1, px_x0)) (S' := (23, [l0, some (.int x)], [.int x, s0], w, 0)) pt_48 rfl rfl,
  fun d l0 l1 i a w Q => px_goO (q := (.iaload, 1, px_x0)) (S' := fun x => (24, [l0, l1], [.int x], w, 0)) pt_48 rfl rfl,
  fun d l0 l1 s0 w Q => r_goto pt_48 rfl rfl,
  fun d l0 l1 w Q => px_go (q := (.ldc 46, 2, (0, 0, [], (-1000000), ""))) (S' := (29, [l0, l1], [.int (-1000000)], w, 0)) pt_48 rfl rfl,
  fun d l0 l1 x w Q => px_ret (q := (.ireturn, 1, px_x0)) pt_48 rfl rfl⟩
/-- AllSworn$Realm.hasHarm(I)Z -/
theorem S49 : (∀ (d : Nat) (v0 v1 : Value) (w : px_H) (Q : Option Value → px_H → Prop), wc d 49 [v0, v1] w Q ↔ wp d 49 0 [some v0, some v1] [] w 0 Q) ∧
  (∀ (d : Nat) (l0 : Option Value) (x : Int32) (w : px_H) (Q : Option Value → px_H → Prop), wp d 49 0 [l0, some (.int x)] [] w 0 Q ↔ wp d 49 1 [l0, some (.int x)] [.int x] w 0 Q) ∧
  (∀ (d : Nat) (l0 l1 : Option Value) (x : Int32) (w : px_H) (Q : Option Value → px_H → Prop), wp d 49 1 [l0, l1] [.int x] w 0 Q ↔ if x < 0 then wp d 49 22 [l0, l1] [] w 0 Q else wp d 49 4 [l0, l1] [] w 0 Q) ∧
  (∀ (d : Nat) (l0 : Option Value) (x : Int32) (w : px_H) (Q : Option Value → px_H → Prop), wp d 49 4 [l0, some (.int x)] [] w 0 Q ↔ wp d 49 5 [l0, some (.int x)] [.int x] w 0 Q) ∧
  (∀ (d : Nat) (l1 : Option Value) (s0 : Value) (a : Nat) (w : px_H) (Q : Option Value → px_H → Prop), wp d 49 5 [some (.ref a), l1] [s0] w 0 Q ↔ wp d 49 6 [some (.ref a), l1] [.ref a, s0] w 0 Q) ∧
  (∀ (d : Nat) (l0 l1 : Option Value) (s1 : Value) (a : Nat) (w : px_H) (Q : Option Value → px_H → Prop), wp d 49 6 [l0, l1] [.ref a, s1] w 0 Q ↔ px_op (px_fld w a [(5, 0)] 6) (fun v => wp d 49 9 [l0, l1] [v, s1] w 0 Q)) ∧
  (∀ (d : Nat) (l0 l1 : Option Value) (x y : Int32) (w : px_H) (Q : Option Value → px_H → Prop), wp d 49 9 [l0, l1] [.int y, .int x] w 0 Q ↔ if y ≤ x then wp d 49 22 [l0, l1] [] w 0 Q else wp d 49 12 [l0, l1] [] w 0 Q) ∧
  (∀ (d : Nat) (l0 : Option Value) (x : Int32) (w : px_H) (Q : Option Value → px_H → Prop), wp d 49 12 [l0, some (.int x)] [] w 0 Q ↔ wp d 49 13 [l0, some (.int x)] [.int x] w 0 Q) ∧
  (∀ (d : Nat) (l0 l1 : Option Value) (s0 : Value)  (w : px_H) (Q : Option Value → px_H → Prop), wp d 49 13 [l0, l1] [s0] w 0 Q ↔ wp d 49 15 [l0, l1] [.int 8, s0] w 0 Q) ∧
  (∀ (d : Nat) (l0 l1 : Option Value) (x y : Int32) (w : px_H) (Q : Option Value → px_H → Prop), wp d 49 15 [l0, l1] [.int y, .int x] w 0 Q ↔ if y ≤ x then wp d 49 22 [l0, l1] [] w 0 Q else wp d 49 18 [l0, l1] [] w 0 Q) ∧
  (∀ (d : Nat) (l0 l1 : Option Value)  (w : px_H) (Q : Option Value → px_H → Prop), wp d 49 18 [l0, l1] [] w 0 Q ↔ wp d 49 19 [l0, l1] [.int 1] w 0 Q) ∧
  (∀ (d : Nat) (l0 l1 : Option Value) (s0 : Value)  (w : px_H) (Q : Option Value → px_H → Prop), wp d 49 19 [l0, l1] [s0] w 0 Q ↔ wp d 49 23 [l0, l1] [s0] w 0 Q) ∧
  (∀ (d : Nat) (l0 l1 : Option Value)  (w : px_H) (Q : Option Value → px_H → Prop), wp d 49 22 [l0, l1] [] w 0 Q ↔ wp d 49 23 [l0, l1] [.int 0] w 0 Q) ∧
  (∀ (d : Nat) (l0 l1 : Option Value) (x : Int32) (w : px_H) (Q : Option Value → px_H → Prop), wp d 49 23 [l0, l1] [.int x] w 0 Q ↔ (x = 0 ∨ x = 1) ∧ Q (some (.int x)) w) := ⟨fun d v0 v1 w Q => r_entry pt_49 (Nat.le_of_ble_eq_true rfl) rfl,
  fun d l0 x w Q => px_go (q := (.iload_n 1, 1, px_x0)) (S' := (1, [l0, some (.int x)], [.int x], w, 0)) pt_49 rfl rfl,
  fun d l0 l1 x w Q => r_if_lt pt_49 rfl rfl,
  fun d l0 x w Q => px_go (q := (.iload_n 1, 1, px_x0)) (S' := (5, [l0, some (.int x)], [.int x], w, 0)) pt_49 rfl rfl,
  fun d l1 s0 a w Q => px_go (q := (.aload_n 0, 1, px_x0)) (S' := (6, [some (.ref a), l1], [.ref a, s0], w, 0)) pt_49 rfl rfl,
  fun d l0 l1 s1 a w Q => px_goO (q := (.getfield 34, 3, (10, 6, [(5, 0)], 0, "AllSworn$Realm"))) (S' := fun v => (9, [l0, l1], [v, s1], w, 0)) pt_49 rfl rfl,
  fun d l0 l1 x y w Q => r_icmp_ge pt_49 rfl rfl,
  fun d l0 x w Q => px_go (q := (.iload_n 1, 1, px_x0)) (S' := (13, [l0, some (.int x)], [.int x], w, 0)) pt_49 rfl rfl,
  fun d l0 l1 s0 w Q => r_bipush pt_49 rfl (by decide),
  fun d l0 l1 x y w Q => r_icmp_ge pt_49 rfl rfl,
  fun d l0 l1 w Q => r_iconst pt_49 rfl (by decide),
  fun d l0 l1 s0 w Q => r_goto pt_49 rfl rfl,
  fun d l0 l1 w Q => r_iconst pt_49 rfl (by decide),
  fun d l0 l1 x w Q => px_retI (q := (.ireturn, 1, px_x0)) pt_49 rfl rfl⟩
/-- AllSworn$Realm.harmAt(I)I -/
theorem S50 : (∀ (d : Nat) (v0 v1 : Value) (w : px_H) (Q : Option Value → px_H → Prop), wc d 50 [v0, v1] w Q ↔ wp d 50 0 [some v0, some v1] [] w 0 Q) ∧
  (∀ (d : Nat) (l1 : Option Value) (a : Nat) (w : px_H) (Q : Option Value → px_H → Prop), wp d 50 0 [some (.ref a), l1] [] w 0 Q ↔ wp d 50 1 [some (.ref a), l1] [.ref a] w 0 Q) ∧
  (∀ (d : Nat) (l0 : Option Value) (s0 : Value) (x : Int32) (w : px_H) (Q : Option Value → px_H → Prop), wp d 50 1 [l0, some (.int x)] [s0] w 0 Q ↔ wp d 50 2 [l0, some (.int x)] [.int x, s0] w 0 Q) ∧
  (∀ (d : Nat) (l0 l1 : Option Value) (v0 : Value) (b : Nat) (w : px_H) (Q : Option Value → px_H → Prop), wp (d + 1) 50 2 [l0, l1] [v0, .ref b] w 0 Q ↔ px_op (px_tgt w b [(5, 49)]) (fun v => wc d v [.ref b, v0] w (fun r w' => wp (d + 1) 50 5 [l0, l1] (r.toList ++ []) w' 0 Q))) ∧
  (∀ (d : Nat) (l0 l1 : Option Value) (x : Int32) (w : px_H) (Q : Option Value → px_H → Prop), wp d 50 5 [l0, l1] [.int x] w 0 Q ↔ if x = 0 then wp d 50 17 [l0, l1] [] w 0 Q else wp d 50 8 [l0, l1] [] w 0 Q) ∧
  (∀ (d : Nat) (l1 : Option Value) (a : Nat) (w : px_H) (Q : Option Value → px_H → Prop), wp d 50 8 [some (.ref a), l1] [] w 0 Q ↔ wp d 50 9 [some (.ref a), l1] [.ref a] w 0 Q) ∧
  (∀ (d : Nat) (l0 l1 : Option Value) (a : Nat) (w : px_H) (Q : Option Value → px_H → Prop), wp d 50 9 [l0, l1] [.ref a] w 0 Q ↔ px_op (px_fld w a [(5, 0)] 2) (fun v => wp d 50 12 [l0, l1] [v] w 0 Q)) ∧
  (∀ (d : Nat) (l0 : Option Value) (s0 : Value) (x : Int32) (w : px_H) (Q : Option Value → px_H → Prop), wp d 50 12 [l0, some (.int x)] [s0] w 0 Q ↔ wp d 50 13 [l0, some (.int x)] [.int x, s0] w 0 Q) ∧
  (∀ (d : Nat) (l0 l1 : Option Value) (i : Int32) (a : Nat) (w : px_H) (Q : Option Value → px_H → Prop), wp d 50 13 [l0, l1] [.int i, .ref a] w 0 Q ↔ px_op (px_ald w a i .int) (fun x => wp d 50 14 [l0, l1] [.int x] w 0 Q)) ∧
  (∀ (d : Nat) (l0 l1 : Option Value) (s0 : Value)  (w : px_H) (Q : Option Value → px_H → Prop), wp d 50 14 [l0, l1] [s0] w 0 Q ↔ wp d 50 18 [l0, l1] [s0] w 0 Q) ∧
  (∀ (d : Nat) (l0 l1 : Option Value)  (w : px_H) (Q : Option Value → px_H → Prop), wp d 50 17 [l0, l1] [] w 0 Q ↔ wp d 50 18 [l0, l1] [.int 0] w 0 Q) ∧
  (∀ (d : Nat) (l0 l1 : Option Value) (x : Int32) (w : px_H) (Q : Option Value → px_H → Prop), wp d 50 18 [l0, l1] [.int x] w 0 Q ↔ Q (some (.int x)) w) := ⟨fun d v0 v1 w Q => r_entry pt_50 (Nat.le_of_ble_eq_true rfl) rfl,
  fun d l1 a w Q => px_go (q := (.aload_n 0, 1, px_x0)) (S' := (1, [some (.ref a), l1], [.ref a], w, 0)) pt_50 rfl rfl,
  fun d l0 s0 x w Q => px_go (q := (.iload_n 1, 1, px_x0)) (S' := (2, [l0, some (.int x)], [.int x, s0], w, 0)) pt_50 rfl rfl,
  fun d l0 l1 v0 b w Q => r_callV (q := (.invokevirtual 53, 3, (33, 1, [(5, 49)], 0, ""))) pt_50 rfl rfl (List.forall_mem_cons.mpr ⟨⟨_, pt_49, Nat.le_of_ble_eq_true rfl, (Nat.le_of_ble_eq_true rfl), rfl⟩, fun _ h => absurd h List.not_mem_nil⟩),
  fun d l0 l1 x w Q => r_if_eq pt_50 rfl rfl,
  fun d l1 a w Q => px_go (q := (.aload_n 0, 1, px_x0)) (S' := (9, [some (.ref a), l1], [.ref a], w, 0)) pt_50 rfl rfl,
  fun d l0 l1 a w Q => px_goO (q := (.getfield 21, 3, (10, 2, [(5, 0)], 0, "AllSworn$Realm"))) (S' := fun v => (12, [l0, l1], [v], w, 0)) pt_50 rfl rfl,
  fun d l0 s0 x w Q => px_go (q := (.iload_n 1, 1, px_x0)) (S' := (13, [l0, some (.int x)], [.int x, s0], w, 0)) pt_50 rfl rfl,
  fun d l0 l1 i a w Q => px_goO (q := (.iaload, 1, px_x0)) (S' := fun x => (14, [l0, l1], [.int x], w, 0)) pt_50 rfl rfl,
  fun d l0 l1 s0 w Q => r_goto pt_50 rfl rfl,
  fun d l0 l1 w Q => r_iconst pt_50 rfl (by decide),
  fun d l0 l1 x w Q => px_ret (q := (.ireturn, 1, px_x0)) pt_50 rfl rfl⟩
/-- AllSworn$Realm.sendTo(LAllSworn$Thing;)V -/
theorem S51 : (∀ (d : Nat) (v0 v1 : Value) (w : px_H) (Q : Option Value → px_H → Prop), wc d 51 [v0, v1] w Q ↔ wp d 51 0 [some v0, some v1] [] w 0 Q) ∧
  (∀ (d : Nat) (l1 : Option Value) (a : Nat) (w : px_H) (Q : Option Value → px_H → Prop), wp d 51 0 [some (.ref a), l1] [] w 0 Q ↔ wp d 51 1 [some (.ref a), l1] [.ref a] w 0 Q) ∧
  (∀ (d : Nat) (l0 : Option Value) (s0 : Value) (a : Nat) (w : px_H) (Q : Option Value → px_H → Prop), wp d 51 1 [l0, some (.ref a)] [s0] w 0 Q ↔ wp d 51 2 [l0, some (.ref a)] [.ref a, s0] w 0 Q) ∧
  (∀ (d : Nat) (l0 : Option Value) (s0 : Value)  (w : px_H) (Q : Option Value → px_H → Prop), wp d 51 1 [l0, some .null] [s0] w 0 Q ↔ wp d 51 2 [l0, some .null] [.null, s0] w 0 Q) ∧
  (∀ (d : Nat) (l0 l1 : Option Value) (s1 : Value) (a : Nat) (w : px_H) (Q : Option Value → px_H → Prop), wp d 51 2 [l0, l1] [.ref a, s1] w 0 Q ↔ px_op (px_fld w a [(0, 0), (1, 0), (3, 0), (8, 0), (9, 0)] 0) (fun v => wp d 51 5 [l0, l1] [v, s1] w 0 Q)) ∧
  (∀ (d : Nat) (l0 l1 : Option Value) (v0 : Value) (b : Nat) (w : px_H) (Q : Option Value → px_H → Prop), wp (d + 1) 51 5 [l0, l1] [v0, .ref b] w 0 Q ↔ px_op (px_tgt w b [(5, 55)]) (fun v => wc d v [.ref b, v0] w (fun r w' => wp (d + 1) 51 8 [l0, l1] (r.toList ++ []) w' 0 Q))) ∧
  (∀ (d : Nat) (l1 : Option Value) (a : Nat) (w : px_H) (Q : Option Value → px_H → Prop), wp d 51 8 [some (.ref a), l1] [] w 0 Q ↔ wp d 51 9 [some (.ref a), l1] [.ref a] w 0 Q) ∧
  (∀ (d : Nat) (l0 l1 : Option Value) (s0 : Value)  (w : px_H) (Q : Option Value → px_H → Prop), wp d 51 9 [l0, l1] [s0] w 0 Q ↔ wp d 51 10 [l0, l1] [s0, s0] w 0 Q) ∧
  (∀ (d : Nat) (l0 l1 : Option Value) (s1 : Value) (a : Nat) (w : px_H) (Q : Option Value → px_H → Prop), wp d 51 10 [l0, l1] [.ref a, s1] w 0 Q ↔ px_op (px_fld w a [(5, 0)] 8) (fun v => wp d 51 13 [l0, l1] [v, s1] w 0 Q)) ∧
  (∀ (d : Nat) (l0 : Option Value) (s0 s1 : Value) (a : Nat) (w : px_H) (Q : Option Value → px_H → Prop), wp d 51 13 [l0, some (.ref a)] [s0, s1] w 0 Q ↔ wp d 51 14 [l0, some (.ref a)] [.ref a, s0, s1] w 0 Q) ∧
  (∀ (d : Nat) (l0 : Option Value) (s0 s1 : Value)  (w : px_H) (Q : Option Value → px_H → Prop), wp d 51 13 [l0, some .null] [s0, s1] w 0 Q ↔ wp d 51 14 [l0, some .null] [.null, s0, s1] w 0 Q) ∧
  (∀ (d : Nat) (l0 l1 : Option Value) (s1 s2 : Value)  (b : Nat) (w : px_H) (Q : Option Value → px_H → Prop), wp (d + 1) 51 14 [l0, l1] [.ref b, s1, s2] w 0 Q ↔ px_op (px_tgt w b [(0, 3), (1, 78), (3, 78), (8, 3), (9, 78)]) (fun v => wc d v [.ref b] w (fun r w' => wp (d + 1) 51 17 [l0, l1] (r.toList ++ [s1, s2]) w' 0 Q))) ∧
  (∀ (d : Nat) (l0 l1 : Option Value) (s2 : Value) (x y : Int32) (w : px_H) (Q : Option Value → px_H → Prop), wp d 51 17 [l0, l1] [.int y, .int x, s2] w 0 Q ↔ wp d 51 18 [l0, l1] [.int (x + y), s2] w 0 Q) ∧
  (∀ (d : Nat) (l0 l1 : Option Value) (x : Int32) (a : Nat) (w : px_H) (Q : Option Value → px_H → Prop), wp d 51 18 [l0, l1] [.int x, .ref a] w 0 Q ↔ px_op (px_pfd w a [(5, 0)] 8 (.int x)) (fun w' => wp d 51 21 [l0, l1] [] w' 0 Q)) ∧
  (∀ (d : Nat) (l0 : Option Value) (a : Nat) (w : px_H) (Q : Option Value → px_H → Prop), wp d 51 21 [l0, some (.ref a)] [] w 0 Q ↔ wp d 51 22 [l0, some (.ref a)] [.ref a] w 0 Q) ∧
  (∀ (d : Nat) (l0 : Option Value)  (w : px_H) (Q : Option Value → px_H → Prop), wp d 51 21 [l0, some .null] [] w 0 Q ↔ wp d 51 22 [l0, some .null] [.null] w 0 Q) ∧
  (∀ (d : Nat) (l1 : Option Value) (s0 : Value) (a : Nat) (w : px_H) (Q : Option Value → px_H → Prop), wp d 51 22 [some (.ref a), l1] [s0] w 0 Q ↔ wp d 51 23 [some (.ref a), l1] [.ref a, s0] w 0 Q) ∧
  (∀ (d : Nat) (l0 l1 : Option Value) (s1 : Value) (a : Nat) (w : px_H) (Q : Option Value → px_H → Prop), wp d 51 23 [l0, l1] [.ref a, s1] w 0 Q ↔ px_op (px_fld w a [(5, 0)] 8) (fun v => wp d 51 26 [l0, l1] [v, s1] w 0 Q)) ∧
  (∀ (d : Nat) (l0 l1 : Option Value) (v0 : Value) (b : Nat) (w : px_H) (Q : Option Value → px_H → Prop), wp (d + 1) 51 26 [l0, l1] [v0, .ref b] w 0 Q ↔ px_op (px_tgt w b [(0, 79), (1, 79), (3, 79), (8, 79), (9, 95)]) (fun v => wc d v [.ref b, v0] w (fun r w' => wp (d + 1) 51 29 [l0, l1] (r.toList ++ []) w' 0 Q))) ∧
  (∀ (d : Nat) (l0 l1 : Option Value) (x : Int32) (w : px_H) (Q : Option Value → px_H → Prop), wp d 51 29 [l0, l1] [.int x] w 0 Q ↔ if x = 0 then wp d 51 44 [l0, l1] [] w 0 Q else wp d 51 32 [l0, l1] [] w 0 Q) ∧
  (∀ (d : Nat) (l1 : Option Value) (a : Nat) (w : px_H) (Q : Option Value → px_H → Prop), wp d 51 32 [some (.ref a), l1] [] w 0 Q ↔ wp d 51 33 [some (.ref a), l1] [.ref a] w 0 Q) ∧
  (∀ (d : Nat) (l0 : Option Value) (s0 : Value) (a : Nat) (w : px_H) (Q : Option Value → px_H → Prop), wp d 51 33 [l0, some (.ref a)] [s0] w 0 Q ↔ wp d 51 34 [l0, some (.ref a)] [.ref a, s0] w 0 Q) ∧
  (∀ (d : Nat) (l0 : Option Value) (s0 : Value)  (w : px_H) (Q : Option Value → px_H → Prop), wp d 51 33 [l0, some .null] [s0] w 0 Q ↔ wp d 51 34 [l0, some .null] [.null, s0] w 0 Q) ∧
  (∀ (d : Nat) (l0 l1 : Option Value) (s1 : Value) (a : Nat) (w : px_H) (Q : Option Value → px_H → Prop), wp d 51 34 [l0, l1] [.ref a, s1] w 0 Q ↔ px_op (px_fld w a [(0, 0), (1, 0), (3, 0), (8, 0), (9, 0)] 0) (fun v => wp d 51 37 [l0, l1] [v, s1] w 0 Q)) ∧
  (∀ (d : Nat) (l1 : Option Value) (s0 s1 : Value) (a : Nat) (w : px_H) (Q : Option Value → px_H → Prop), wp d 51 37 [some (.ref a), l1] [s0, s1] w 0 Q ↔ wp d 51 38 [some (.ref a), l1] [.ref a, s0, s1] w 0 Q) ∧
  (∀ (d : Nat) (l0 l1 : Option Value) (s1 s2 : Value) (a : Nat) (w : px_H) (Q : Option Value → px_H → Prop), wp d 51 38 [l0, l1] [.ref a, s1, s2] w 0 Q ↔ px_op (px_fld w a [(5, 0)] 8) (fun v => wp d 51 41 [l0, l1] [v, s1, s2] w 0 Q)) ∧
  (∀ (d : Nat) (l0 l1 : Option Value) (v0 v1 : Value) (b : Nat) (w : px_H) (Q : Option Value → px_H → Prop), wp (d + 1) 51 41 [l0, l1] [v1, v0, .ref b] w 0 Q ↔ px_op (px_tgt w b [(5, 56)]) (fun v => wc d v [.ref b, v0, v1] w (fun r w' => wp (d + 1) 51 44 [l0, l1] (r.toList ++ []) w' 0 Q))) ∧
  (∀ (d : Nat) (l0 l1 : Option Value)  (w : px_H) (Q : Option Value → px_H → Prop), wp d 51 44 [l0, l1] [] w 0 Q ↔ Q none w) := ⟨fun d v0 v1 w Q => r_entry pt_51 (Nat.le_of_ble_eq_true rfl) rfl,
  fun d l1 a w Q => px_go (q := (.aload_n 0, 1, px_x0)) (S' := (1, [some (.ref a), l1], [.ref a], w, 0)) pt_51 rfl rfl,
  fun d l0 s0 a w Q => px_go (q := (.aload_n 1, 1, px_x0)) (S' := (2, [l0, some (.ref a)], [.ref a, s0], w, 0)) pt_51 rfl rfl,
  fun d l0 s0 w Q => px_go (q := (.aload_n 1, 1, px_x0)) (S' := (2, [l0, some .null], [.null, s0], w, 0)) pt_51 rfl rfl,
  fun d l0 l1 s1 a w Q => px_goO (q := (.getfield 57, 3, (10, 0, [(0, 0), (1, 0), (3, 0), (8, 0), (9, 0)], 0, "AllSworn$Thing"))) (S' := fun v => (5, [l0, l1], [v, s1], w, 0)) pt_51 rfl rfl,
  fun d l0 l1 v0 b w Q => r_callV (q := (.invokevirtual 60, 3, (33, 1, [(5, 55)], 0, ""))) pt_51 rfl rfl (List.forall_mem_cons.mpr ⟨⟨_, pt_55, Nat.le_of_ble_eq_true rfl, (Nat.le_of_ble_eq_true rfl), rfl⟩, fun _ h => absurd h List.not_mem_nil⟩),
  fun d l1 a w Q => px_go (q := (.aload_n 0, 1, px_x0)) (S' := (9, [some (.ref a), l1], [.ref a], w, 0)) pt_51 rfl rfl,
  fun d l0 l1 s0 w Q => px_go (q := (.dup, 1, px_x0)) (S' := (10, [l0, l1], [s0, s0], w, 0)) pt_51 rfl rfl,
  fun d l0 l1 s1 a w Q => px_goO (q := (.getfield 40, 3, (10, 8, [(5, 0)], 0, "AllSworn$Realm"))) (S' := fun v => (13, [l0, l1], [v, s1], w, 0)) pt_51 rfl rfl,
  fun d l0 s0 s1 a w Q => px_go (q := (.aload_n 1, 1, px_x0)) (S' := (14, [l0, some (.ref a)], [.ref a, s0, s1], w, 0)) pt_51 rfl rfl,
  fun d l0 s0 s1 w Q => px_go (q := (.aload_n 1, 1, px_x0)) (S' := (14, [l0, some .null], [.null, s0, s1], w, 0)) pt_51 rfl rfl,
  fun d l0 l1 s1 s2 b w Q => r_callV (q := (.invokevirtual 64, 3, (34, 0, [(0, 3), (1, 78), (3, 78), (8, 3), (9, 78)], 0, "AllSworn$Thing"))) pt_51 rfl rfl (List.forall_mem_cons.mpr ⟨⟨_, pt_3, Nat.le_of_ble_eq_true rfl, (Nat.le_of_ble_eq_true rfl), rfl⟩, List.forall_mem_cons.mpr ⟨⟨_, pt_78, Nat.le_of_ble_eq_true rfl, (Nat.le_of_ble_eq_true rfl), rfl⟩, List.forall_mem_cons.mpr ⟨⟨_, pt_78, Nat.le_of_ble_eq_true rfl, (Nat.le_of_ble_eq_true rfl), rfl⟩, List.forall_mem_cons.mpr ⟨⟨_, pt_3, Nat.le_of_ble_eq_true rfl, (Nat.le_of_ble_eq_true rfl), rfl⟩, List.forall_mem_cons.mpr ⟨⟨_, pt_78, Nat.le_of_ble_eq_true rfl, (Nat.le_of_ble_eq_true rfl), rfl⟩, fun _ h => absurd h List.not_mem_nil⟩⟩⟩⟩⟩),
  fun d l0 l1 s2 x y w Q => px_go (q := (.iadd, 1, px_x0)) (S' := (18, [l0, l1], [.int (x + y), s2], w, 0)) pt_51 rfl rfl,
  fun d l0 l1 x a w Q => r_put pt_51 rfl (by simp only [List.all_cons, List.all_nil, ft_5_8, px_fit, px_isr, Bool.and_self]),
  fun d l0 a w Q => px_go (q := (.aload_n 1, 1, px_x0)) (S' := (22, [l0, some (.ref a)], [.ref a], w, 0)) pt_51 rfl rfl,
  fun d l0 w Q => px_go (q := (.aload_n 1, 1, px_x0)) (S' := (22, [l0, some .null], [.null], w, 0)) pt_51 rfl rfl,
  fun d l1 s0 a w Q => px_go (q := (.aload_n 0, 1, px_x0)) (S' := (23, [some (.ref a), l1], [.ref a, s0], w, 0)) pt_51 rfl rfl,
  fun d l0 l1 s1 a w Q => px_goO (q := (.getfield 40, 3, (10, 8, [(5, 0)], 0, "AllSworn$Realm"))) (S' := fun v => (26, [l0, l1], [v, s1], w, 0)) pt_51 rfl rfl,
  fun d l0 l1 v0 b w Q => r_callV (q := (.invokevirtual 68, 3, (34, 1, [(0, 79), (1, 79), (3, 79), (8, 79), (9, 95)], 0, "AllSworn$Thing"))) pt_51 rfl rfl (List.forall_mem_cons.mpr ⟨⟨_, pt_79, Nat.le_of_ble_eq_true rfl, (Nat.le_of_ble_eq_true rfl), rfl⟩, List.forall_mem_cons.mpr ⟨⟨_, pt_79, Nat.le_of_ble_eq_true rfl, (Nat.le_of_ble_eq_true rfl), rfl⟩, List.forall_mem_cons.mpr ⟨⟨_, pt_79, Nat.le_of_ble_eq_true rfl, (Nat.le_of_ble_eq_true rfl), rfl⟩, List.forall_mem_cons.mpr ⟨⟨_, pt_79, Nat.le_of_ble_eq_true rfl, (Nat.le_of_ble_eq_true rfl), rfl⟩, List.forall_mem_cons.mpr ⟨⟨_, pt_95, Nat.le_of_ble_eq_true rfl, (Nat.le_of_ble_eq_true rfl), rfl⟩, fun _ h => absurd h List.not_mem_nil⟩⟩⟩⟩⟩),
  fun d l0 l1 x w Q => r_if_eq pt_51 rfl rfl,
  fun d l1 a w Q => px_go (q := (.aload_n 0, 1, px_x0)) (S' := (33, [some (.ref a), l1], [.ref a], w, 0)) pt_51 rfl rfl,
  fun d l0 s0 a w Q => px_go (q := (.aload_n 1, 1, px_x0)) (S' := (34, [l0, some (.ref a)], [.ref a, s0], w, 0)) pt_51 rfl rfl,
  fun d l0 s0 w Q => px_go (q := (.aload_n 1, 1, px_x0)) (S' := (34, [l0, some .null], [.null, s0], w, 0)) pt_51 rfl rfl,
  fun d l0 l1 s1 a w Q => px_goO (q := (.getfield 57, 3, (10, 0, [(0, 0), (1, 0), (3, 0), (8, 0), (9, 0)], 0, "AllSworn$Thing"))) (S' := fun v => (37, [l0, l1], [v, s1], w, 0)) pt_51 rfl rfl,
  fun d l1 s0 s1 a w Q => px_go (q := (.aload_n 0, 1, px_x0)) (S' := (38, [some (.ref a), l1], [.ref a, s0, s1], w, 0)) pt_51 rfl rfl,
  fun d l0 l1 s1 s2 a w Q => px_goO (q := (.getfield 40, 3, (10, 8, [(5, 0)], 0, "AllSworn$Realm"))) (S' := fun v => (41, [l0, l1], [v, s1, s2], w, 0)) pt_51 rfl rfl,
  fun d l0 l1 v0 v1 b w Q => r_callV (q := (.invokevirtual 71, 3, (33, 2, [(5, 56)], 0, ""))) pt_51 rfl rfl (List.forall_mem_cons.mpr ⟨⟨_, pt_56, Nat.le_of_ble_eq_true rfl, (Nat.le_of_ble_eq_true rfl), rfl⟩, fun _ h => absurd h List.not_mem_nil⟩),
  fun d l0 l1 w Q => px_ret (q := (.return_, 1, px_x0)) pt_51 rfl rfl⟩
/-- AllSworn$Realm.tryHarm(I)Z -/
theorem S52 : (∀ (d : Nat) (v0 v1 : Value) (w : px_H) (Q : Option Value → px_H → Prop), wc d 52 [v0, v1] w Q ↔ wp d 52 0 [some v0, some v1, none] [] w 0 Q) ∧
  (∀ (d : Nat) (l1 l2 : Option Value) (a : Nat) (w : px_H) (Q : Option Value → px_H → Prop), wp d 52 0 [some (.ref a), l1, l2] [] w 0 Q ↔ wp d 52 1 [some (.ref a), l1, l2] [.ref a] w 0 Q) ∧
  (∀ (d : Nat) (l1 l2 : Option Value) (s0 : Value) (a : Nat) (w : px_H) (Q : Option Value → px_H → Prop), wp d 52 1 [some (.ref a), l1, l2] [s0] w 0 Q ↔ wp d 52 2 [some (.ref a), l1, l2] [.ref a, s0] w 0 Q) ∧
  (∀ (d : Nat) (l0 l1 l2 : Option Value) (s1 : Value) (a : Nat) (w : px_H) (Q : Option Value → px_H → Prop), wp d 52 2 [l0, l1, l2] [.ref a, s1] w 0 Q ↔ px_op (px_fld w a [(5, 0)] 8) (fun v => wp d 52 5 [l0, l1, l2] [v, s1] w 0 Q)) ∧
  (∀ (d : Nat) (l0 l1 l2 : Option Value) (v0 : Value) (b : Nat) (w : px_H) (Q : Option Value → px_H → Prop), wp (d + 1) 52 5 [l0, l1, l2] [v0, .ref b] w 0 Q ↔ px_op (px_tgt w b [(5, 59)]) (fun v => wc d v [.ref b, v0] w (fun r w' => wp (d + 1) 52 8 [l0, l1, l2] (r.toList ++ []) w' 0 Q))) ∧
  (∀ (d : Nat) (l0 l2 : Option Value) (s0 : Value) (x : Int32) (w : px_H) (Q : Option Value → px_H → Prop), wp d 52 8 [l0, some (.int x), l2] [s0] w 0 Q ↔ wp d 52 9 [l0, some (.int x), l2] [.int x, s0] w 0 Q) ∧
  (∀ (d : Nat) (l0 l1 l2 : Option Value) (x y : Int32) (w : px_H) (Q : Option Value → px_H → Prop), wp d 52 9 [l0, l1, l2] [.int y, .int x] w 0 Q ↔ wp d 52 10 [l0, l1, l2] [.int (x >>> (y &&& 31))] w 0 Q) ∧
  (∀ (d : Nat) (l0 l1 l2 : Option Value) (s0 : Value)  (w : px_H) (Q : Option Value → px_H → Prop), wp d 52 10 [l0, l1, l2] [s0] w 0 Q ↔ wp d 52 11 [l0, l1, l2] [.int 1, s0] w 0 Q) ∧
  (∀ (d : Nat) (l0 l1 l2 : Option Value) (x y : Int32) (w : px_H) (Q : Option Value → px_H → Prop), wp d 52 11 [l0, l1, l2] [.int y, .int x] w 0 Q ↔ wp d 52 12 [l0, l1, l2] [.int (x &&& y)] w 0 Q) ∧
  (∀ (d : Nat) (l0 l1 l2 : Option Value) (s0 : Value)  (w : px_H) (Q : Option Value → px_H → Prop), wp d 52 12 [l0, l1, l2] [s0] w 0 Q ↔ wp d 52 13 [l0, l1, l2] [.int 1, s0] w 0 Q) ∧
  (∀ (d : Nat) (l0 l1 l2 : Option Value) (x y : Int32) (w : px_H) (Q : Option Value → px_H → Prop), wp d 52 13 [l0, l1, l2] [.int y, .int x] w 0 Q ↔ if x = y then wp d 52 16 [l0, l1, l2] [] w 0 Q else wp d 52 20 [l0, l1, l2] [] w 0 Q) ∧
  (∀ (d : Nat) (l0 l1 l2 : Option Value)  (w : px_H) (Q : Option Value → px_H → Prop), wp d 52 16 [l0, l1, l2] [] w 0 Q ↔ wp d 52 17 [l0, l1, l2] [.int 1] w 0 Q) ∧
  (∀ (d : Nat) (l0 l1 l2 : Option Value) (s0 : Value)  (w : px_H) (Q : Option Value → px_H → Prop), wp d 52 17 [l0, l1, l2] [s0] w 0 Q ↔ wp d 52 21 [l0, l1, l2] [s0] w 0 Q) ∧
  (∀ (d : Nat) (l0 l1 l2 : Option Value)  (w : px_H) (Q : Option Value → px_H → Prop), wp d 52 20 [l0, l1, l2] [] w 0 Q ↔ wp d 52 21 [l0, l1, l2] [.int 0] w 0 Q) ∧
  (∀ (d : Nat) (l0 l1 l2 : Option Value) (x : Int32) (w : px_H) (Q : Option Value → px_H → Prop), wp d 52 21 [l0, l1, l2] [.int x] w 0 Q ↔ wp d 52 22 [l0, l1, some (.int x)] [] w 0 Q) ∧
  (∀ (d : Nat) (l1 l2 : Option Value) (a : Nat) (w : px_H) (Q : Option Value → px_H → Prop), wp d 52 22 [some (.ref a), l1, l2] [] w 0 Q ↔ wp d 52 23 [some (.ref a), l1, l2] [.ref a] w 0 Q) ∧
  (∀ (d : Nat) (l0 l1 l2 : Option Value) (s0 : Value)  (w : px_H) (Q : Option Value → px_H → Prop), wp d 52 23 [l0, l1, l2] [s0] w 0 Q ↔ wp d 52 25 [l0, l1, l2] [.int (-1000000), s0] w 0 Q) ∧
  (∀ (d : Nat) (l0 l1 l2 : Option Value) (v0 : Value) (b : Nat) (w : px_H) (Q : Option Value → px_H → Prop), wp (d + 1) 52 25 [l0, l1, l2] [v0, .ref b] w 0 Q ↔ px_op (px_tgt w b [(5, 55)]) (fun v => wc d v [.ref b, v0] w (fun r w' => wp (d + 1) 52 28 [l0, l1, l2] (r.toList ++ []) w' 0 Q))) ∧
  (∀ (d : Nat) (l0 l1 : Option Value) (x : Int32) (w : px_H) (Q : Option Value → px_H → Prop), wp d 52 28 [l0, l1, some (.int x)] [] w 0 Q ↔ wp d 52 29 [l0, l1, some (.int x)] [.int x] w 0 Q) ∧
  (∀ (d : Nat) (l0 l1 l2 : Option Value) (x : Int32) (w : px_H) (Q : Option Value → px_H → Prop), wp d 52 29 [l0, l1, l2] [.int x] w 0 Q ↔ if x = 0 then wp d 52 42 [l0, l1, l2] [] w 0 Q else wp d 52 32 [l0, l1, l2] [] w 0 Q) ∧
  (∀ (d : Nat) (l1 l2 : Option Value) (a : Nat) (w : px_H) (Q : Option Value → px_H → Prop), wp d 52 32 [some (.ref a), l1, l2] [] w 0 Q ↔ wp d 52 33 [some (.ref a), l1, l2] [.ref a] w 0 Q) ∧
  (∀ (d : Nat) (l0 l1 l2 : Option Value) (s0 : Value)  (w : px_H) (Q : Option Value → px_H → Prop), wp d 52 33 [l0, l1, l2] [s0] w 0 Q ↔ wp d 52 34 [l0, l1, l2] [s0, s0] w 0 Q) ∧
  (∀ (d : Nat) (l0 l1 l2 : Option Value) (s1 : Value) (a : Nat) (w : px_H) (Q : Option Value → px_H → Prop), wp d 52 34 [l0, l1, l2] [.ref a, s1] w 0 Q ↔ px_op (px_fld w a [(5, 0)] 9) (fun v => wp d 52 37 [l0, l1, l2] [v, s1] w 0 Q)) ∧
  (∀ (d : Nat) (l0 l1 l2 : Option Value) (s0 s1 : Value)  (w : px_H) (Q : Option Value → px_H → Prop), wp d 52 37 [l0, l1, l2] [s0, s1] w 0 Q ↔ wp d 52 38 [l0, l1, l2] [.int 1, s0, s1] w 0 Q) ∧
  (∀ (d : Nat) (l0 l1 l2 : Option Value) (s2 : Value) (x y : Int32) (w : px_H) (Q : Option Value → px_H → Prop), wp d 52 38 [l0, l1, l2] [.int y, .int x, s2] w 0 Q ↔ wp d 52 39 [l0, l1, l2] [.int (x + y), s2] w 0 Q) ∧
  (∀ (d : Nat) (l0 l1 l2 : Option Value) (x : Int32) (a : Nat) (w : px_H) (Q : Option Value → px_H → Prop), wp d 52 39 [l0, l1, l2] [.int x, .ref a] w 0 Q ↔ px_op (px_pfd w a [(5, 0)] 9 (.int x)) (fun w' => wp d 52 42 [l0, l1, l2] [] w' 0 Q)) ∧
  (∀ (d : Nat) (l0 l1 : Option Value) (x : Int32) (w : px_H) (Q : Option Value → px_H → Prop), wp d 52 42 [l0, l1, some (.int x)] [] w 0 Q ↔ wp d 52 43 [l0, l1, some (.int x)] [.int x] w 0 Q) ∧
  (∀ (d : Nat) (l0 l1 l2 : Option Value) (x : Int32) (w : px_H) (Q : Option Value → px_H → Prop), wp d 52 43 [l0, l1, l2] [.int x] w 0 Q ↔ (x = 0 ∨ x = 1) ∧ Q (some (.int x)) w) := ⟨fun d v0 v1 w Q => r_entry pt_52 (Nat.le_of_ble_eq_true rfl) rfl,
  fun d l1 l2 a w Q => px_go (q := (.aload_n 0, 1, px_x0)) (S' := (1, [some (.ref a), l1, l2], [.ref a], w, 0)) pt_52 rfl rfl,
  fun d l1 l2 s0 a w Q => px_go (q := (.aload_n 0, 1, px_x0)) (S' := (2, [some (.ref a), l1, l2], [.ref a, s0], w, 0)) pt_52 rfl rfl,
  fun d l0 l1 l2 s1 a w Q => px_goO (q := (.getfield 40, 3, (10, 8, [(5, 0)], 0, "AllSworn$Realm"))) (S' := fun v => (5, [l0, l1, l2], [v, s1], w, 0)) pt_52 rfl rfl,
  fun d l0 l1 l2 v0 b w Q => r_callV (q := (.invokevirtual 75, 3, (33, 1, [(5, 59)], 0, ""))) pt_52 rfl rfl (List.forall_mem_cons.mpr ⟨⟨_, pt_59, Nat.le_of_ble_eq_true rfl, (Nat.le_of_ble_eq_true rfl), rfl⟩, fun _ h => absurd h List.not_mem_nil⟩),
  fun d l0 l2 s0 x w Q => px_go (q := (.iload_n 1, 1, px_x0)) (S' := (9, [l0, some (.int x), l2], [.int x, s0], w, 0)) pt_52 rfl rfl,
  fun d l0 l1 l2 x y w Q => px_go (q := (.ishr, 1, px_x0)) (S' := (10, [l0, l1, l2], [.int (x >>> (y &&& 31))], w, 0)) pt_52 rfl rfl,
  fun d l0 l1 l2 s0 w Q => r_iconst pt_52 rfl (by decide),
  fun d l0 l1 l2 x y w Q => px_go (q := (.iand, 1, px_x0)) (S' := (12, [l0, l1, l2], [.int (x &&& y)], w, 0)) pt_52 rfl rfl,
  fun d l0 l1 l2 s0 w Q => r_iconst pt_52 rfl (by decide),
  fun d l0 l1 l2 x y w Q => r_icmp_ne pt_52 rfl rfl,
  fun d l0 l1 l2 w Q => r_iconst pt_52 rfl (by decide),
  fun d l0 l1 l2 s0 w Q => r_goto pt_52 rfl rfl,
  fun d l0 l1 l2 w Q => r_iconst pt_52 rfl (by decide),
  fun d l0 l1 l2 x w Q => px_go (q := (.istore_n 2, 1, px_x0)) (S' := (22, [l0, l1, some (.int x)], [], w, 0)) pt_52 rfl rfl,
  fun d l1 l2 a w Q => px_go (q := (.aload_n 0, 1, px_x0)) (S' := (23, [some (.ref a), l1, l2], [.ref a], w, 0)) pt_52 rfl rfl,
  fun d l0 l1 l2 s0 w Q => px_go (q := (.ldc 46, 2, (0, 0, [], (-1000000), ""))) (S' := (25, [l0, l1, l2], [.int (-1000000), s0], w, 0)) pt_52 rfl rfl,
  fun d l0 l1 l2 v0 b w Q => r_callV (q := (.invokevirtual 60, 3, (33, 1, [(5, 55)], 0, ""))) pt_52 rfl rfl (List.forall_mem_cons.mpr ⟨⟨_, pt_55, Nat.le_of_ble_eq_true rfl, (Nat.le_of_ble_eq_true rfl), rfl⟩, fun _ h => absurd h List.not_mem_nil⟩),
  fun d l0 l1 x w Q => px_go (q := (.iload_n 2, 1, px_x0)) (S' := (29, [l0, l1, some (.int x)], [.int x], w, 0)) pt_52 rfl rfl,
  fun d l0 l1 l2 x w Q => r_if_eq pt_52 rfl rfl,
  fun d l1 l2 a w Q => px_go (q := (.aload_n 0, 1, px_x0)) (S' := (33, [some (.ref a), l1, l2], [.ref a], w, 0)) pt_52 rfl rfl,
  fun d l0 l1 l2 s0 w Q => px_go (q := (.dup, 1, px_x0)) (S' := (34, [l0, l1, l2], [s0, s0], w, 0)) pt_52 rfl rfl,
  fun d l0 l1 l2 s1 a w Q => px_goO (q := (.getfield 43, 3, (10, 9, [(5, 0)], 0, "AllSworn$Realm"))) (S' := fun v => (37, [l0, l1, l2], [v, s1], w, 0)) pt_52 rfl rfl,
  fun d l0 l1 l2 s0 s1 w Q => r_iconst pt_52 rfl (by decide),
  fun d l0 l1 l2 s2 x y w Q => px_go (q := (.iadd, 1, px_x0)) (S' := (39, [l0, l1, l2], [.int (x + y), s2], w, 0)) pt_52 rfl rfl,
  fun d l0 l1 l2 x a w Q => r_put pt_52 rfl (by simp only [List.all_cons, List.all_nil, ft_5_9, px_fit, px_isr, Bool.and_self]),
  fun d l0 l1 x w Q => px_go (q := (.iload_n 2, 1, px_x0)) (S' := (43, [l0, l1, some (.int x)], [.int x], w, 0)) pt_52 rfl rfl,
  fun d l0 l1 l2 x w Q => px_retI (q := (.ireturn, 1, px_x0)) pt_52 rfl rfl⟩
/-- AllSworn$Realm.letPass(I)V -/
theorem S53 : (∀ (d : Nat) (v0 v1 : Value) (w : px_H) (Q : Option Value → px_H → Prop), wc d 53 [v0, v1] w Q ↔ wp d 53 0 [some v0, some v1] [] w 0 Q) ∧
  (∀ (d : Nat) (l1 : Option Value) (a : Nat) (w : px_H) (Q : Option Value → px_H → Prop), wp d 53 0 [some (.ref a), l1] [] w 0 Q ↔ wp d 53 1 [some (.ref a), l1] [.ref a] w 0 Q) ∧
  (∀ (d : Nat) (l0 l1 : Option Value) (s0 : Value)  (w : px_H) (Q : Option Value → px_H → Prop), wp d 53 1 [l0, l1] [s0] w 0 Q ↔ wp d 53 3 [l0, l1] [.int (-1000000), s0] w 0 Q) ∧
  (∀ (d : Nat) (l0 l1 : Option Value) (v0 : Value) (b : Nat) (w : px_H) (Q : Option Value → px_H → Prop), wp (d + 1) 53 3 [l0, l1] [v0, .ref b] w 0 Q ↔ px_op (px_tgt w b [(5, 55)]) (fun v => wc d v [.ref b, v0] w (fun r w' => wp (d + 1) 53 6 [l0, l1] (r.toList ++ []) w' 0 Q))) ∧
  (∀ (d : Nat) (l1 : Option Value) (a : Nat) (w : px_H) (Q : Option Value → px_H → Prop), wp d 53 6 [some (.ref a), l1] [] w 0 Q ↔ wp d 53 7 [some (.ref a), l1] [.ref a] w 0 Q) ∧
  (∀ (d : Nat) (l0 l1 : Option Value) (s0 : Value)  (w : px_H) (Q : Option Value → px_H → Prop), wp d 53 7 [l0, l1] [s0] w 0 Q ↔ wp d 53 8 [l0, l1] [s0, s0] w 0 Q) ∧
  (∀ (d : Nat) (l0 l1 : Option Value) (s1 : Value) (a : Nat) (w : px_H) (Q : Option Value → px_H → Prop), wp d 53 8 [l0, l1] [.ref a, s1] w 0 Q ↔ px_op (px_fld w a [(5, 0)] 8) (fun v => wp d 53 11 [l0, l1] [v, s1] w 0 Q)) ∧
  (∀ (d : Nat) (l0 : Option Value) (s0 s1 : Value) (x : Int32) (w : px_H) (Q : Option Value → px_H → Prop), wp d 53 11 [l0, some (.int x)] [s0, s1] w 0 Q ↔ wp d 53 12 [l0, some (.int x)] [.int x, s0, s1] w 0 Q) ∧
  (∀ (d : Nat) (l0 l1 : Option Value) (s2 : Value) (x y : Int32) (w : px_H) (Q : Option Value → px_H → Prop), wp d 53 12 [l0, l1] [.int y, .int x, s2] w 0 Q ↔ wp d 53 13 [l0, l1] [.int (x + y), s2] w 0 Q) ∧
  (∀ (d : Nat) (l0 l1 : Option Value) (x : Int32) (a : Nat) (w : px_H) (Q : Option Value → px_H → Prop), wp d 53 13 [l0, l1] [.int x, .ref a] w 0 Q ↔ px_op (px_pfd w a [(5, 0)] 8 (.int x)) (fun w' => wp d 53 16 [l0, l1] [] w' 0 Q)) ∧
  (∀ (d : Nat) (l0 l1 : Option Value)  (w : px_H) (Q : Option Value → px_H → Prop), wp d 53 16 [l0, l1] [] w 0 Q ↔ Q none w) := ⟨fun d v0 v1 w Q => r_entry pt_53 (Nat.le_of_ble_eq_true rfl) rfl,
  fun d l1 a w Q => px_go (q := (.aload_n 0, 1, px_x0)) (S' := (1, [some (.ref a), l1], [.ref a], w, 0)) pt_53 rfl rfl,
  fun d l0 l1 s0 w Q => px_go (q := (.ldc 46, 2, (0, 0, [], (-1000000), ""))) (S' := (3, [l0, l1], [.int (-1000000), s0], w, 0)) pt_53 rfl rfl,
  fun d l0 l1 v0 b w Q => r_callV (q := (.invokevirtual 60, 3, (33, 1, [(5, 55)], 0, ""))) pt_53 rfl rfl (List.forall_mem_cons.mpr ⟨⟨_, pt_55, Nat.le_of_ble_eq_true rfl, (Nat.le_of_ble_eq_true rfl), rfl⟩, fun _ h => absurd h List.not_mem_nil⟩),
  fun d l1 a w Q => px_go (q := (.aload_n 0, 1, px_x0)) (S' := (7, [some (.ref a), l1], [.ref a], w, 0)) pt_53 rfl rfl,
  fun d l0 l1 s0 w Q => px_go (q := (.dup, 1, px_x0)) (S' := (8, [l0, l1], [s0, s0], w, 0)) pt_53 rfl rfl,
  fun d l0 l1 s1 a w Q => px_goO (q := (.getfield 40, 3, (10, 8, [(5, 0)], 0, "AllSworn$Realm"))) (S' := fun v => (11, [l0, l1], [v, s1], w, 0)) pt_53 rfl rfl,
  fun d l0 s0 s1 x w Q => px_go (q := (.iload_n 1, 1, px_x0)) (S' := (12, [l0, some (.int x)], [.int x, s0, s1], w, 0)) pt_53 rfl rfl,
  fun d l0 l1 s2 x y w Q => px_go (q := (.iadd, 1, px_x0)) (S' := (13, [l0, l1], [.int (x + y), s2], w, 0)) pt_53 rfl rfl,
  fun d l0 l1 x a w Q => r_put pt_53 rfl (by simp only [List.all_cons, List.all_nil, ft_5_8, px_fit, px_isr, Bool.and_self]),
  fun d l0 l1 w Q => px_ret (q := (.return_, 1, px_x0)) pt_53 rfl rfl⟩
/-- AllSworn$Realm.undoLatest()Z -/
theorem S54 : (∀ (d : Nat) (v0 : Value) (w : px_H) (Q : Option Value → px_H → Prop), wc d 54 [v0] w Q ↔ wp d 54 0 [some v0, none] [] w 0 Q) ∧
  (∀ (d : Nat) (l1 : Option Value) (a : Nat) (w : px_H) (Q : Option Value → px_H → Prop), wp d 54 0 [some (.ref a), l1] [] w 0 Q ↔ wp d 54 1 [some (.ref a), l1] [.ref a] w 0 Q) ∧
  (∀ (d : Nat) (l0 l1 : Option Value) (a : Nat) (w : px_H) (Q : Option Value → px_H → Prop), wp d 54 1 [l0, l1] [.ref a] w 0 Q ↔ px_op (px_fld w a [(5, 0)] 7) (fun v => wp d 54 4 [l0, l1] [v] w 0 Q)) ∧
  (∀ (d : Nat) (l0 l1 : Option Value) (s0 : Value)  (w : px_H) (Q : Option Value → px_H → Prop), wp d 54 4 [l0, l1] [s0] w 0 Q ↔ wp d 54 5 [l0, l1] [.int 1, s0] w 0 Q) ∧
  (∀ (d : Nat) (l0 l1 : Option Value) (x y : Int32) (w : px_H) (Q : Option Value → px_H → Prop), wp d 54 5 [l0, l1] [.int y, .int x] w 0 Q ↔ if x < y then wp d 54 17 [l0, l1] [] w 0 Q else wp d 54 8 [l0, l1] [] w 0 Q) ∧
  (∀ (d : Nat) (l1 : Option Value) (a : Nat) (w : px_H) (Q : Option Value → px_H → Prop), wp d 54 8 [some (.ref a), l1] [] w 0 Q ↔ wp d 54 9 [some (.ref a), l1] [.ref a] w 0 Q) ∧
  (∀ (d : Nat) (l0 l1 : Option Value) (a : Nat) (w : px_H) (Q : Option Value → px_H → Prop), wp d 54 9 [l0, l1] [.ref a] w 0 Q ↔ px_op (px_fld w a [(5, 0)] 7) (fun v => wp d 54 12 [l0, l1] [v] w 0 Q)) ∧
  (∀ (d : Nat) (l0 l1 : Option Value) (s0 : Value)  (w : px_H) (Q : Option Value → px_H → Prop), wp d 54 12 [l0, l1] [s0] w 0 Q ↔ wp d 54 14 [l0, l1] [.int 24, s0] w 0 Q) ∧
  (∀ (d : Nat) (l0 l1 : Option Value) (x y : Int32) (w : px_H) (Q : Option Value → px_H → Prop), wp d 54 14 [l0, l1] [.int y, .int x] w 0 Q ↔ if x ≤ y then wp d 54 19 [l0, l1] [] w 0 Q else wp d 54 17 [l0, l1] [] w 0 Q) ∧
  (∀ (d : Nat) (l0 l1 : Option Value)  (w : px_H) (Q : Option Value → px_H → Prop), wp d 54 17 [l0, l1] [] w 0 Q ↔ wp d 54 18 [l0, l1] [.int 0] w 0 Q) ∧
  (∀ (d : Nat) (l0 l1 : Option Value) (x : Int32) (w : px_H) (Q : Option Value → px_H → Prop), wp d 54 18 [l0, l1] [.int x] w 0 Q ↔ (x = 0 ∨ x = 1) ∧ Q (some (.int x)) w) ∧
  (∀ (d : Nat) (l1 : Option Value) (a : Nat) (w : px_H) (Q : Option Value → px_H → Prop), wp d 54 19 [some (.ref a), l1] [] w 0 Q ↔ wp d 54 20 [some (.ref a), l1] [.ref a] w 0 Q) ∧
  (∀ (d : Nat) (l0 l1 : Option Value) (s0 : Value)  (w : px_H) (Q : Option Value → px_H → Prop), wp d 54 20 [l0, l1] [s0] w 0 Q ↔ wp d 54 21 [l0, l1] [s0, s0] w 0 Q) ∧
  (∀ (d : Nat) (l0 l1 : Option Value) (s1 : Value) (a : Nat) (w : px_H) (Q : Option Value → px_H → Prop), wp d 54 21 [l0, l1] [.ref a, s1] w 0 Q ↔ px_op (px_fld w a [(5, 0)] 7) (fun v => wp d 54 24 [l0, l1] [v, s1] w 0 Q)) ∧
  (∀ (d : Nat) (l0 l1 : Option Value) (s0 s1 : Value)  (w : px_H) (Q : Option Value → px_H → Prop), wp d 54 24 [l0, l1] [s0, s1] w 0 Q ↔ wp d 54 25 [l0, l1] [.int 1, s0, s1] w 0 Q) ∧
  (∀ (d : Nat) (l0 l1 : Option Value) (s2 : Value) (x y : Int32) (w : px_H) (Q : Option Value → px_H → Prop), wp d 54 25 [l0, l1] [.int y, .int x, s2] w 0 Q ↔ wp d 54 26 [l0, l1] [.int (x - y), s2] w 0 Q) ∧
  (∀ (d : Nat) (l0 l1 : Option Value) (x : Int32) (a : Nat) (w : px_H) (Q : Option Value → px_H → Prop), wp d 54 26 [l0, l1] [.int x, .ref a] w 0 Q ↔ px_op (px_pfd w a [(5, 0)] 7 (.int x)) (fun w' => wp d 54 29 [l0, l1] [] w' 0 Q)) ∧
  (∀ (d : Nat) (l1 : Option Value) (a : Nat) (w : px_H) (Q : Option Value → px_H → Prop), wp d 54 29 [some (.ref a), l1] [] w 0 Q ↔ wp d 54 30 [some (.ref a), l1] [.ref a] w 0 Q) ∧
  (∀ (d : Nat) (l0 l1 : Option Value) (a : Nat) (w : px_H) (Q : Option Value → px_H → Prop), wp d 54 30 [l0, l1] [.ref a] w 0 Q ↔ px_op (px_fld w a [(5, 0)] 7) (fun v => wp d 54 33 [l0, l1] [v] w 0 Q)) ∧
  (∀ (d : Nat) (l0 l1 : Option Value) (s0 : Value)  (w : px_H) (Q : Option Value → px_H → Prop), wp d 54 33 [l0, l1] [s0] w 0 Q ↔ wp d 54 34 [l0, l1] [.int 4, s0] w 0 Q) ∧
  (∀ (d : Nat) (l0 l1 : Option Value) (x y : Int32) (w : px_H) (Q : Option Value → px_H → Prop), wp d 54 34 [l0, l1] [.int y, .int x] w 0 Q ↔ wp d 54 35 [l0, l1] [.int (x * y)] w 0 Q) ∧
  (∀ (d : Nat) (l0 l1 : Option Value) (x : Int32) (w : px_H) (Q : Option Value → px_H → Prop), wp d 54 35 [l0, l1] [.int x] w 0 Q ↔ wp d 54 36 [l0, some (.int x)] [] w 0 Q) ∧
  (∀ (d : Nat) (l1 : Option Value) (a : Nat) (w : px_H) (Q : Option Value → px_H → Prop), wp d 54 36 [some (.ref a), l1] [] w 0 Q ↔ wp d 54 37 [some (.ref a), l1] [.ref a] w 0 Q) ∧
  (∀ (d : Nat) (l1 : Option Value) (s0 : Value) (a : Nat) (w : px_H) (Q : Option Value → px_H → Prop), wp d 54 37 [some (.ref a), l1] [s0] w 0 Q ↔ wp d 54 38 [some (.ref a), l1] [.ref a, s0] w 0 Q) ∧
  (∀ (d : Nat) (l0 l1 : Option Value) (s1 : Value) (a : Nat) (w : px_H) (Q : Option Value → px_H → Prop), wp d 54 38 [l0, l1] [.ref a, s1] w 0 Q ↔ px_op (px_fld w a [(5, 0)] 3) (fun v => wp d 54 41 [l0, l1] [v, s1] w 0 Q)) ∧
  (∀ (d : Nat) (l0 : Option Value) (s0 s1 : Value) (x : Int32) (w : px_H) (Q : Option Value → px_H → Prop), wp d 54 41 [l0, some (.int x)] [s0, s1] w 0 Q ↔ wp d 54 42 [l0, some (.int x)] [.int x, s0, s1] w 0 Q) ∧
  (∀ (d : Nat) (l0 l1 : Option Value) (s2 : Value) (i : Int32) (a : Nat) (w : px_H) (Q : Option Value → px_H → Prop), wp d 54 42 [l0, l1] [.int i, .ref a, s2] w 0 Q ↔ px_op (px_ald w a i .int) (fun x => wp d 54 43 [l0, l1] [.int x, s2] w 0 Q)) ∧
  (∀ (d : Nat) (l1 : Option Value) (s0 s1 : Value) (a : Nat) (w : px_H) (Q : Option Value → px_H → Prop), wp d 54 43 [some (.ref a), l1] [s0, s1] w 0 Q ↔ wp d 54 44 [some (.ref a), l1] [.ref a, s0, s1] w 0 Q) ∧
  (∀ (d : Nat) (l0 l1 : Option Value) (s1 s2 : Value) (a : Nat) (w : px_H) (Q : Option Value → px_H → Prop), wp d 54 44 [l0, l1] [.ref a, s1, s2] w 0 Q ↔ px_op (px_fld w a [(5, 0)] 3) (fun v => wp d 54 47 [l0, l1] [v, s1, s2] w 0 Q)) ∧
  (∀ (d : Nat) (l0 : Option Value) (s0 s1 s2 : Value) (x : Int32) (w : px_H) (Q : Option Value → px_H → Prop), wp d 54 47 [l0, some (.int x)] [s0, s1, s2] w 0 Q ↔ wp d 54 48 [l0, some (.int x)] [.int x, s0, s1, s2] w 0 Q) ∧
  (∀ (d : Nat) (l0 l1 : Option Value) (s0 s1 s2 s3 : Value)  (w : px_H) (Q : Option Value → px_H → Prop), wp d 54 48 [l0, l1] [s0, s1, s2, s3] w 0 Q ↔ wp d 54 49 [l0, l1] [.int 1, s0, s1, s2, s3] w 0 Q) ∧
  (∀ (d : Nat) (l0 l1 : Option Value) (s2 s3 s4 : Value) (x y : Int32) (w : px_H) (Q : Option Value → px_H → Prop), wp d 54 49 [l0, l1] [.int y, .int x, s2, s3, s4] w 0 Q ↔ wp d 54 50 [l0, l1] [.int (x + y), s2, s3, s4] w 0 Q) ∧
  (∀ (d : Nat) (l0 l1 : Option Value) (s2 s3 : Value) (i : Int32) (a : Nat) (w : px_H) (Q : Option Value → px_H → Prop), wp d 54 50 [l0, l1] [.int i, .ref a, s2, s3] w 0 Q ↔ px_op (px_ald w a i .int) (fun x => wp d 54 51 [l0, l1] [.int x, s2, s3] w 0 Q)) ∧
  (∀ (d : Nat) (l0 l1 : Option Value) (v0 v1 : Value) (b : Nat) (w : px_H) (Q : Option Value → px_H → Prop), wp (d + 1) 54 51 [l0, l1] [v1, v0, .ref b] w 0 Q ↔ px_op (px_tgt w b [(5, 56)]) (fun v => wc d v [.ref b, v0, v1] w (fun r w' => wp (d + 1) 54 54 [l0, l1] (r.toList ++ []) w' 0 Q))) ∧
  (∀ (d : Nat) (l1 : Option Value) (a : Nat) (w : px_H) (Q : Option Value → px_H → Prop), wp d 54 54 [some (.ref a), l1] [] w 0 Q ↔ wp d 54 55 [some (.ref a), l1] [.ref a] w 0 Q) ∧
  (∀ (d : Nat) (l1 : Option Value) (s0 : Value) (a : Nat) (w : px_H) (Q : Option Value → px_H → Prop), wp d 54 55 [some (.ref a), l1] [s0] w 0 Q ↔ wp d 54 56 [some (.ref a), l1] [.ref a, s0] w 0 Q) ∧
  (∀ (d : Nat) (l0 l1 : Option Value) (s1 : Value) (a : Nat) (w : px_H) (Q : Option Value → px_H → Prop), wp d 54 56 [l0, l1] [.ref a, s1] w 0 Q ↔ px_op (px_fld w a [(5, 0)] 3) (fun v => wp d 54 59 [l0, l1] [v, s1] w 0 Q)) ∧
  (∀ (d : Nat) (l0 : Option Value) (s0 s1 : Value) (x : Int32) (w : px_H) (Q : Option Value → px_H → Prop), wp d 54 59 [l0, some (.int x)] [s0, s1] w 0 Q ↔ wp d 54 60 [l0, some (.int x)] [.int x, s0, s1] w 0 Q) ∧
  (∀ (d : Nat) (l0 l1 : Option Value) (s0 s1 s2 : Value)  (w : px_H) (Q : Option Value → px_H → Prop), wp d 54 60 [l0, l1] [s0, s1, s2] w 0 Q ↔ wp d 54 61 [l0, l1] [.int 2, s0, s1, s2] w 0 Q) ∧
  (∀ (d : Nat) (l0 l1 : Option Value) (s2 s3 : Value) (x y : Int32) (w : px_H) (Q : Option Value → px_H → Prop), wp d 54 61 [l0, l1] [.int y, .int x, s2, s3] w 0 Q ↔ wp d 54 62 [l0, l1] [.int (x + y), s2, s3] w 0 Q) ∧
  (∀ (d : Nat) (l0 l1 : Option Value) (s2 : Value) (i : Int32) (a : Nat) (w : px_H) (Q : Option Value → px_H → Prop), wp d 54 62 [l0, l1] [.int i, .ref a, s2] w 0 Q ↔ px_op (px_ald w a i .int) (fun x => wp d 54 63 [l0, l1] [.int x, s2] w 0 Q)) ∧
  (∀ (d : Nat) (l0 l1 : Option Value) (x : Int32) (a : Nat) (w : px_H) (Q : Option Value → px_H → Prop), wp d 54 63 [l0, l1] [.int x, .ref a] w 0 Q ↔ px_op (px_pfd w a [(5, 0)] 8 (.int x)) (fun w' => wp d 54 66 [l0, l1] [] w' 0 Q)) ∧
  (∀ (d : Nat) (l1 : Option Value) (a : Nat) (w : px_H) (Q : Option Value → px_H → Prop), wp d 54 66 [some (.ref a), l1] [] w 0 Q ↔ wp d 54 67 [some (.ref a), l1] [.ref a] w 0 Q) ∧
  (∀ (d : Nat) (l1 : Option Value) (s0 : Value) (a : Nat) (w : px_H) (Q : Option Value → px_H → Prop), wp d 54 67 [some (.ref a), l1] [s0] w 0 Q ↔ wp d 54 68 [some (.ref a), l1] [.ref a, s0] w 0 Q) ∧
  (∀ (d : Nat) (l0 l1 : Option Value) (s1 : Value) (a : Nat) (w : px_H) (Q : Option Value → px_H → Prop), wp d 54 68 [l0, l1] [.ref a, s1] w 0 Q ↔ px_op (px_fld w a [(5, 0)] 3) (fun v => wp d 54 71 [l0, l1] [v, s1] w 0 Q)) ∧
  (∀ (d : Nat) (l0 : Option Value) (s0 s1 : Value) (x : Int32) (w : px_H) (Q : Option Value → px_H → Prop), wp d 54 71 [l0, some (.int x)] [s0, s1] w 0 Q ↔ wp d 54 72 [l0, some (.int x)] [.int x, s0, s1] w 0 Q) ∧
  (∀ (d : Nat) (l0 l1 : Option Value) (s0 s1 s2 : Value)  (w : px_H) (Q : Option Value → px_H → Prop), wp d 54 72 [l0, l1] [s0, s1, s2] w 0 Q ↔ wp d 54 73 [l0, l1] [.int 3, s0, s1, s2] w 0 Q) ∧
  (∀ (d : Nat) (l0 l1 : Option Value) (s2 s3 : Value) (x y : Int32) (w : px_H) (Q : Option Value → px_H → Prop), wp d 54 73 [l0, l1] [.int y, .int x, s2, s3] w 0 Q ↔ wp d 54 74 [l0, l1] [.int (x + y), s2, s3] w 0 Q) ∧
  (∀ (d : Nat) (l0 l1 : Option Value) (s2 : Value) (i : Int32) (a : Nat) (w : px_H) (Q : Option Value → px_H → Prop), wp d 54 74 [l0, l1] [.int i, .ref a, s2] w 0 Q ↔ px_op (px_ald w a i .int) (fun x => wp d 54 75 [l0, l1] [.int x, s2] w 0 Q)) ∧
  (∀ (d : Nat) (l0 l1 : Option Value) (x : Int32) (a : Nat) (w : px_H) (Q : Option Value → px_H → Prop), wp d 54 75 [l0, l1] [.int x, .ref a] w 0 Q ↔ px_op (px_pfd w a [(5, 0)] 9 (.int x)) (fun w' => wp d 54 78 [l0, l1] [] w' 0 Q)) ∧
  (∀ (d : Nat) (l0 l1 : Option Value)  (w : px_H) (Q : Option Value → px_H → Prop), wp d 54 78 [l0, l1] [] w 0 Q ↔ wp d 54 79 [l0, l1] [.int 1] w 0 Q) ∧
  (∀ (d : Nat) (l0 l1 : Option Value) (x : Int32) (w : px_H) (Q : Option Value → px_H → Prop), wp d 54 79 [l0, l1] [.int x] w 0 Q ↔ (x = 0 ∨ x = 1) ∧ Q (some (.int x)) w) := ⟨fun d v0 w Q => r_entry pt_54 (Nat.le_of_ble_eq_true rfl) rfl,
  fun d l1 a w Q => px_go (q := (.aload_n 0, 1, px_x0)) (S' := (1, [some (.ref a), l1], [.ref a], w, 0)) pt_54 rfl rfl,
  fun d l0 l1 a w Q => px_goO (q := (.getfield 37, 3, (10, 7, [(5, 0)], 0, "AllSworn$Realm"))) (S' := fun v => (4, [l0, l1], [v], w, 0)) pt_54 rfl rfl,
  fun d l0 l1 s0 w Q => r_iconst pt_54 rfl (by decide),
  fun d l0 l1 x y w Q => r_icmp_lt pt_54 rfl rfl,
  fun d l1 a w Q => px_go (q := (.aload_n 0, 1, px_x0)) (S' := (9, [some (.ref a), l1], [.ref a], w, 0)) pt_54 rfl rfl,
  fun d l0 l1 a w Q => px_goO (q := (.getfield 37, 3, (10, 7, [(5, 0)], 0, "AllSworn$Realm"))) (S' := fun v => (12, [l0, l1], [v], w, 0)) pt_54 rfl rfl,
  fun d l0 l1 s0 w Q => r_bipush pt_54 rfl (by decide),
  fun d l0 l1 x y w Q => r_icmp_le pt_54 rfl rfl,
  fun d l0 l1 w Q => r_iconst pt_54 rfl (by decide),
  fun d l0 l1 x w Q => px_retI (q := (.ireturn, 1, px_x0)) pt_54 rfl rfl,
  fun d l1 a w Q => px_go (q := (.aload_n 0, 1, px_x0)) (S' := (20, [some (.ref a), l1], [.ref a], w, 0)) pt_54 rfl rfl,
  fun d l0 l1 s0 w Q => px_go (q := (.dup, 1, px_x0)) (S' := (21, [l0, l1], [s0, s0], w, 0)) pt_54 rfl rfl,
  fun d l0 l1 s1 a w Q => px_goO (q := (.getfield 37, 3, (10, 7, [(5, 0)], 0, "AllSworn$Realm"))) (S' := fun v => (24, [l0, l1], [v, s1], w, 0)) pt_54 rfl rfl,
  fun d l0 l1 s0 s1 w Q => r_iconst pt_54 rfl (by decide),
  fun d l0 l1 s2 x y w Q => px_go (q := (.isub, 1, px_x0)) (S' := (26, [l0, l1], [.int (x - y), s2], w, 0)) pt_54 rfl rfl,
  fun d l0 l1 x a w Q => r_put pt_54 rfl (by simp only [List.all_cons, List.all_nil, ft_5_7, px_fit, px_isr, Bool.and_self]),
  fun d l1 a w Q => px_go (q := (.aload_n 0, 1, px_x0)) (S' := (30, [some (.ref a), l1], [.ref a], w, 0)) pt_54 rfl rfl,
  fun d l0 l1 a w Q => px_goO (q := (.getfield 37, 3, (10, 7, [(5, 0)], 0, "AllSworn$Realm"))) (S' := fun v => (33, [l0, l1], [v], w, 0)) pt_54 rfl rfl,
  fun d l0 l1 s0 w Q => r_iconst pt_54 rfl (by decide),
  fun d l0 l1 x y w Q => px_go (q := (.imul, 1, px_x0)) (S' := (35, [l0, l1], [.int (x * y)], w, 0)) pt_54 rfl rfl,
  fun d l0 l1 x w Q => px_go (q := (.istore_n 1, 1, px_x0)) (S' := (36, [l0, some (.int x)], [], w, 0)) pt_54 rfl rfl,
  fun d l1 a w Q => px_go (q := (.aload_n 0, 1, px_x0)) (S' := (37, [some (.ref a), l1], [.ref a], w, 0)) pt_54 rfl rfl,
  fun d l1 s0 a w Q => px_go (q := (.aload_n 0, 1, px_x0)) (S' := (38, [some (.ref a), l1], [.ref a, s0], w, 0)) pt_54 rfl rfl,
  fun d l0 l1 s1 a w Q => px_goO (q := (.getfield 24, 3, (10, 3, [(5, 0)], 0, "AllSworn$Realm"))) (S' := fun v => (41, [l0, l1], [v, s1], w, 0)) pt_54 rfl rfl,
  fun d l0 s0 s1 x w Q => px_go (q := (.iload_n 1, 1, px_x0)) (S' := (42, [l0, some (.int x)], [.int x, s0, s1], w, 0)) pt_54 rfl rfl,
  fun d l0 l1 s2 i a w Q => px_goO (q := (.iaload, 1, px_x0)) (S' := fun x => (43, [l0, l1], [.int x, s2], w, 0)) pt_54 rfl rfl,
  fun d l1 s0 s1 a w Q => px_go (q := (.aload_n 0, 1, px_x0)) (S' := (44, [some (.ref a), l1], [.ref a, s0, s1], w, 0)) pt_54 rfl rfl,
  fun d l0 l1 s1 s2 a w Q => px_goO (q := (.getfield 24, 3, (10, 3, [(5, 0)], 0, "AllSworn$Realm"))) (S' := fun v => (47, [l0, l1], [v, s1, s2], w, 0)) pt_54 rfl rfl,
  fun d l0 s0 s1 s2 x w Q => px_go (q := (.iload_n 1, 1, px_x0)) (S' := (48, [l0, some (.int x)], [.int x, s0, s1, s2], w, 0)) pt_54 rfl rfl,
  fun d l0 l1 s0 s1 s2 s3 w Q => r_iconst pt_54 rfl (by decide),
  fun d l0 l1 s2 s3 s4 x y w Q => px_go (q := (.iadd, 1, px_x0)) (S' := (50, [l0, l1], [.int (x + y), s2, s3, s4], w, 0)) pt_54 rfl rfl,
  fun d l0 l1 s2 s3 i a w Q => px_goO (q := (.iaload, 1, px_x0)) (S' := fun x => (51, [l0, l1], [.int x, s2, s3], w, 0)) pt_54 rfl rfl,
  fun d l0 l1 v0 v1 b w Q => r_callV (q := (.invokevirtual 71, 3, (33, 2, [(5, 56)], 0, ""))) pt_54 rfl rfl (List.forall_mem_cons.mpr ⟨⟨_, pt_56, Nat.le_of_ble_eq_true rfl, (Nat.le_of_ble_eq_true rfl), rfl⟩, fun _ h => absurd h List.not_mem_nil⟩),
  fun d l1 a w Q => px_go (q := (.aload_n 0, 1, px_x0)) (S' := (55, [some (.ref a), l1], [.ref a], w, 0)) pt_54 rfl rfl,
  fun d l1 s0 a w Q => px_go (q := (.aload_n 0, 1, px_x0)) (S' := (56, [some (.ref a), l1], [.ref a, s0], w, 0)) pt_54 rfl rfl,
  fun d l0 l1 s1 a w Q => px_goO (q := (.getfield 24, 3, (10, 3, [(5, 0)], 0, "AllSworn$Realm"))) (S' := fun v => (59, [l0, l1], [v, s1], w, 0)) pt_54 rfl rfl,
  fun d l0 s0 s1 x w Q => px_go (q := (.iload_n 1, 1, px_x0)) (S' := (60, [l0, some (.int x)], [.int x, s0, s1], w, 0)) pt_54 rfl rfl,
  fun d l0 l1 s0 s1 s2 w Q => r_iconst pt_54 rfl (by decide),
  fun d l0 l1 s2 s3 x y w Q => px_go (q := (.iadd, 1, px_x0)) (S' := (62, [l0, l1], [.int (x + y), s2, s3], w, 0)) pt_54 rfl rfl,
  fun d l0 l1 s2 i a w Q => px_goO (q := (.iaload, 1, px_x0)) (S' := fun x => (63, [l0, l1], [.int x, s2], w, 0)) pt_54 rfl rfl,
  fun d l0 l1 x a w Q => r_put pt_54 rfl (by simp only [List.all_cons, List.all_nil, ft_5_8, px_fit, px_isr, Bool.and_self]),
  fun d l1 a w Q => px_go (q := (.aload_n 0, 1, px_x0)) (S' := (67, [some (.ref a), l1], [.ref a], w, 0)) pt_54 rfl rfl,
  fun d l1 s0 a w Q => px_go (q := (.aload_n 0, 1, px_x0)) (S' := (68, [some (.ref a), l1], [.ref a, s0], w, 0)) pt_54 rfl rfl,
  fun d l0 l1 s1 a w Q => px_goO (q := (.getfield 24, 3, (10, 3, [(5, 0)], 0, "AllSworn$Realm"))) (S' := fun v => (71, [l0, l1], [v, s1], w, 0)) pt_54 rfl rfl,
  fun d l0 s0 s1 x w Q => px_go (q := (.iload_n 1, 1, px_x0)) (S' := (72, [l0, some (.int x)], [.int x, s0, s1], w, 0)) pt_54 rfl rfl,
  fun d l0 l1 s0 s1 s2 w Q => r_iconst pt_54 rfl (by decide),
  fun d l0 l1 s2 s3 x y w Q => px_go (q := (.iadd, 1, px_x0)) (S' := (74, [l0, l1], [.int (x + y), s2, s3], w, 0)) pt_54 rfl rfl,
  fun d l0 l1 s2 i a w Q => px_goO (q := (.iaload, 1, px_x0)) (S' := fun x => (75, [l0, l1], [.int x, s2], w, 0)) pt_54 rfl rfl,
  fun d l0 l1 x a w Q => r_put pt_54 rfl (by simp only [List.all_cons, List.all_nil, ft_5_9, px_fit, px_isr, Bool.and_self]),
  fun d l0 l1 w Q => r_iconst pt_54 rfl (by decide),
  fun d l0 l1 x w Q => px_retI (q := (.ireturn, 1, px_x0)) pt_54 rfl rfl⟩
/-- AllSworn$Realm.keepAct(I)V -/
theorem S55 : (∀ (d : Nat) (v0 v1 : Value) (w : px_H) (Q : Option Value → px_H → Prop), wc d 55 [v0, v1] w Q ↔ wp d 55 0 [some v0, some v1, none] [] w 0 Q) ∧
  (∀ (d : Nat) (l1 l2 : Option Value) (a : Nat) (w : px_H) (Q : Option Value → px_H → Prop), wp d 55 0 [some (.ref a), l1, l2] [] w 0 Q ↔ wp d 55 1 [some (.ref a), l1, l2] [.ref a] w 0 Q) ∧
  (∀ (d : Nat) (l0 l1 l2 : Option Value) (a : Nat) (w : px_H) (Q : Option Value → px_H → Prop), wp d 55 1 [l0, l1, l2] [.ref a] w 0 Q ↔ px_op (px_fld w a [(5, 0)] 7) (fun v => wp d 55 4 [l0, l1, l2] [v] w 0 Q)) ∧
  (∀ (d : Nat) (l0 l1 l2 : Option Value) (s0 : Value)  (w : px_H) (Q : Option Value → px_H → Prop), wp d 55 4 [l0, l1, l2] [s0] w 0 Q ↔ wp d 55 6 [l0, l1, l2] [.int 24, s0] w 0 Q) ∧
  (∀ (d : Nat) (l0 l1 l2 : Option Value) (x y : Int32) (w : px_H) (Q : Option Value → px_H → Prop), wp d 55 6 [l0, l1, l2] [.int y, .int x] w 0 Q ↔ if x < y then wp d 55 30 [l0, l1, l2] [] w 0 Q else wp d 55 9 [l0, l1, l2] [] w 0 Q) ∧
  (∀ (d : Nat) (l1 l2 : Option Value) (a : Nat) (w : px_H) (Q : Option Value → px_H → Prop), wp d 55 9 [some (.ref a), l1, l2] [] w 0 Q ↔ wp d 55 10 [some (.ref a), l1, l2] [.ref a] w 0 Q) ∧
  (∀ (d : Nat) (l0 l1 l2 : Option Value) (a : Nat) (w : px_H) (Q : Option Value → px_H → Prop), wp d 55 10 [l0, l1, l2] [.ref a] w 0 Q ↔ px_op (px_fld w a [(5, 0)] 3) (fun v => wp d 55 13 [l0, l1, l2] [v] w 0 Q)) ∧
  (∀ (d : Nat) (l0 l1 l2 : Option Value) (s0 : Value)  (w : px_H) (Q : Option Value → px_H → Prop), wp d 55 13 [l0, l1, l2] [s0] w 0 Q ↔ wp d 55 14 [l0, l1, l2] [.int 4, s0] w 0 Q) ∧
  (∀ (d : Nat) (l1 l2 : Option Value) (s0 s1 : Value) (a : Nat) (w : px_H) (Q : Option Value → px_H → Prop), wp d 55 14 [some (.ref a), l1, l2] [s0, s1] w 0 Q ↔ wp d 55 15 [some (.ref a), l1, l2] [.ref a, s0, s1] w 0 Q) ∧
  (∀ (d : Nat) (l0 l1 l2 : Option Value) (s1 s2 : Value) (a : Nat) (w : px_H) (Q : Option Value → px_H → Prop), wp d 55 15 [l0, l1, l2] [.ref a, s1, s2] w 0 Q ↔ px_op (px_fld w a [(5, 0)] 3) (fun v => wp d 55 18 [l0, l1, l2] [v, s1, s2] w 0 Q)) ∧
  (∀ (d : Nat) (l0 l1 l2 : Option Value) (s0 s1 s2 : Value)  (w : px_H) (Q : Option Value → px_H → Prop), wp d 55 18 [l0, l1, l2] [s0, s1, s2] w 0 Q ↔ wp d 55 19 [l0, l1, l2] [.int 0, s0, s1, s2] w 0 Q) ∧
  (∀ (d : Nat) (l0 l1 l2 : Option Value) (s0 s1 s2 s3 : Value)  (w : px_H) (Q : Option Value → px_H → Prop), wp d 55 19 [l0, l1, l2] [s0, s1, s2, s3] w 0 Q ↔ wp d 55 21 [l0, l1, l2] [.int 92, s0, s1, s2, s3] w 0 Q) ∧
  (∀ (d : Nat) (l0 l1 l2 : Option Value) (n dp sp : Int32) (a b : Nat) (w : px_H) (Q : Option Value → px_H → Prop), wp d 55 21 [l0, l1, l2] [.int n, .int dp, .ref a, .int sp, .ref b] w 0 Q ↔ px_op (px_cpy w b sp a dp n) (fun w' => wp d 55 24 [l0, l1, l2] [] w' 0 Q)) ∧
  (∀ (d : Nat) (l1 l2 : Option Value) (a : Nat) (w : px_H) (Q : Option Value → px_H → Prop), wp d 55 24 [some (.ref a), l1, l2] [] w 0 Q ↔ wp d 55 25 [some (.ref a), l1, l2] [.ref a] w 0 Q) ∧
  (∀ (d : Nat) (l0 l1 l2 : Option Value) (s0 : Value)  (w : px_H) (Q : Option Value → px_H → Prop), wp d 55 25 [l0, l1, l2] [s0] w 0 Q ↔ wp d 55 27 [l0, l1, l2] [.int 23, s0] w 0 Q) ∧
  (∀ (d : Nat) (l0 l1 l2 : Option Value) (x : Int32) (a : Nat) (w : px_H) (Q : Option Value → px_H → Prop), wp d 55 27 [l0, l1, l2] [.int x, .ref a] w 0 Q ↔ px_op (px_pfd w a [(5, 0)] 7 (.int x)) (fun w' => wp d 55 30 [l0, l1, l2] [] w' 0 Q)) ∧
  (∀ (d : Nat) (l1 l2 : Option Value) (a : Nat) (w : px_H) (Q : Option Value → px_H → Prop), wp d 55 30 [some (.ref a), l1, l2] [] w 0 Q ↔ wp d 55 31 [some (.ref a), l1, l2] [.ref a] w 0 Q) ∧
  (∀ (d : Nat) (l0 l1 l2 : Option Value) (a : Nat) (w : px_H) (Q : Option Value → px_H → Prop), wp d 55 31 [l0, l1, l2] [.ref a] w 0 Q ↔ px_op (px_fld w a [(5, 0)] 7) (fun v => wp d 55 34 [l0, l1, l2] [v] w 0 Q)) ∧
  (∀ (d : Nat) (l0 l1 l2 : Option Value) (s0 : Value)  (w : px_H) (Q : Option Value → px_H → Prop), wp d 55 34 [l0, l1, l2] [s0] w 0 Q ↔ wp d 55 35 [l0, l1, l2] [.int 4, s0] w 0 Q) ∧
  (∀ (d : Nat) (l0 l1 l2 : Option Value) (x y : Int32) (w : px_H) (Q : Option Value → px_H → Prop), wp d 55 35 [l0, l1, l2] [.int y, .int x] w 0 Q ↔ wp d 55 36 [l0, l1, l2] [.int (x * y)] w 0 Q) ∧
  (∀ (d : Nat) (l0 l1 l2 : Option Value) (x : Int32) (w : px_H) (Q : Option Value → px_H → Prop), wp d 55 36 [l0, l1, l2] [.int x] w 0 Q ↔ wp d 55 37 [l0, l1, some (.int x)] [] w 0 Q) ∧
  (∀ (d : Nat) (l1 l2 : Option Value) (a : Nat) (w : px_H) (Q : Option Value → px_H → Prop), wp d 55 37 [some (.ref a), l1, l2] [] w 0 Q ↔ wp d 55 38 [some (.ref a), l1, l2] [.ref a] w 0 Q) ∧
  (∀ (d : Nat) (l0 l1 l2 : Option Value) (a : Nat) (w : px_H) (Q : Option Value → px_H → Prop), wp d 55 38 [l0, l1, l2] [.ref a] w 0 Q ↔ px_op (px_fld w a [(5, 0)] 3) (fun v => wp d 55 41 [l0, l1, l2] [v] w 0 Q)) ∧
  (∀ (d : Nat) (l0 l1 : Option Value) (s0 : Value) (x : Int32) (w : px_H) (Q : Option Value → px_H → Prop), wp d 55 41 [l0, l1, some (.int x)] [s0] w 0 Q ↔ wp d 55 42 [l0, l1, some (.int x)] [.int x, s0] w 0 Q) ∧
  (∀ (d : Nat) (l0 l2 : Option Value) (s0 s1 : Value) (x : Int32) (w : px_H) (Q : Option Value → px_H → Prop), wp d 55 42 [l0, some (.int x), l2] [s0, s1] w 0 Q ↔ wp d 55 43 [l0, some (.int x), l2] [.int x, s0, s1] w 0 Q) ∧
  (∀ (d : Nat) (l0 l1 l2 : Option Value) (x i : Int32) (a : Nat) (w : px_H) (Q : Option Value → px_H → Prop), wp d 55 43 [l0, l1, l2] [.int x, .int i, .ref a] w 0 Q ↔ px_op (px_ast w a i x .int) (fun w' => wp d 55 44 [l0, l1, l2] [] w' 0 Q)) ∧
  (∀ (d : Nat) (l1 l2 : Option Value) (a : Nat) (w : px_H) (Q : Option Value → px_H → Prop), wp d 55 44 [some (.ref a), l1, l2] [] w 0 Q ↔ wp d 55 45 [some (.ref a), l1, l2] [.ref a] w 0 Q) ∧
  (∀ (d : Nat) (l0 l1 l2 : Option Value) (a : Nat) (w : px_H) (Q : Option Value → px_H → Prop), wp d 55 45 [l0, l1, l2] [.ref a] w 0 Q ↔ px_op (px_fld w a [(5, 0)] 3) (fun v => wp d 55 48 [l0, l1, l2] [v] w 0 Q)) ∧
  (∀ (d : Nat) (l0 l1 : Option Value) (s0 : Value) (x : Int32) (w : px_H) (Q : Option Value → px_H → Prop), wp d 55 48 [l0, l1, some (.int x)] [s0] w 0 Q ↔ wp d 55 49 [l0, l1, some (.int x)] [.int x, s0] w 0 Q) ∧
  (∀ (d : Nat) (l0 l1 l2 : Option Value) (s0 s1 : Value)  (w : px_H) (Q : Option Value → px_H → Prop), wp d 55 49 [l0, l1, l2] [s0, s1] w 0 Q ↔ wp d 55 50 [l0, l1, l2] [.int 1, s0, s1] w 0 Q) ∧
  (∀ (d : Nat) (l0 l1 l2 : Option Value) (s2 : Value) (x y : Int32) (w : px_H) (Q : Option Value → px_H → Prop), wp d 55 50 [l0, l1, l2] [.int y, .int x, s2] w 0 Q ↔ wp d 55 51 [l0, l1, l2] [.int (x + y), s2] w 0 Q) ∧
  (∀ (d : Nat) (l1 l2 : Option Value) (s0 s1 : Value) (a : Nat) (w : px_H) (Q : Option Value → px_H → Prop), wp d 55 51 [some (.ref a), l1, l2] [s0, s1] w 0 Q ↔ wp d 55 52 [some (.ref a), l1, l2] [.ref a, s0, s1] w 0 Q) ∧
  (∀ (d : Nat) (l0 l2 : Option Value) (s0 s1 s2 : Value) (x : Int32) (w : px_H) (Q : Option Value → px_H → Prop), wp d 55 52 [l0, some (.int x), l2] [s0, s1, s2] w 0 Q ↔ wp d 55 53 [l0, some (.int x), l2] [.int x, s0, s1, s2] w 0 Q) ∧
  (∀ (d : Nat) (l0 l1 l2 : Option Value) (s2 s3 : Value) (v0 : Value) (b : Nat) (w : px_H) (Q : Option Value → px_H → Prop), wp (d + 1) 55 53 [l0, l1, l2] [v0, .ref b, s2, s3] w 0 Q ↔ px_op (px_tgt w b [(5, 48)]) (fun v => wc d v [.ref b, v0] w (fun r w' => wp (d + 1) 55 56 [l0, l1, l2] (r.toList ++ [s2, s3]) w' 0 Q))) ∧
  (∀ (d : Nat) (l0 l1 l2 : Option Value) (x i : Int32) (a : Nat) (w : px_H) (Q : Option Value → px_H → Prop), wp d 55 56 [l0, l1, l2] [.int x, .int i, .ref a] w 0 Q ↔ px_op (px_ast w a i x .int) (fun w' => wp d 55 57 [l0, l1, l2] [] w' 0 Q)) ∧
  (∀ (d : Nat) (l1 l2 : Option Value) (a : Nat) (w : px_H) (Q : Option Value → px_H → Prop), wp d 55 57 [some (.ref a), l1, l2] [] w 0 Q ↔ wp d 55 58 [some (.ref a), l1, l2] [.ref a] w 0 Q) ∧
  (∀ (d : Nat) (l0 l1 l2 : Option Value) (a : Nat) (w : px_H) (Q : Option Value → px_H → Prop), wp d 55 58 [l0, l1, l2] [.ref a] w 0 Q ↔ px_op (px_fld w a [(5, 0)] 3) (fun v => wp d 55 61 [l0, l1, l2] [v] w 0 Q)) ∧
  (∀ (d : Nat) (l0 l1 : Option Value) (s0 : Value) (x : Int32) (w : px_H) (Q : Option Value → px_H → Prop), wp d 55 61 [l0, l1, some (.int x)] [s0] w 0 Q ↔ wp d 55 62 [l0, l1, some (.int x)] [.int x, s0] w 0 Q) ∧
  (∀ (d : Nat) (l0 l1 l2 : Option Value) (s0 s1 : Value)  (w : px_H) (Q : Option Value → px_H → Prop), wp d 55 62 [l0, l1, l2] [s0, s1] w 0 Q ↔ wp d 55 63 [l0, l1, l2] [.int 2, s0, s1] w 0 Q) ∧
  (∀ (d : Nat) (l0 l1 l2 : Option Value) (s2 : Value) (x y : Int32) (w : px_H) (Q : Option Value → px_H → Prop), wp d 55 63 [l0, l1, l2] [.int y, .int x, s2] w 0 Q ↔ wp d 55 64 [l0, l1, l2] [.int (x + y), s2] w 0 Q) ∧
  (∀ (d : Nat) (l1 l2 : Option Value) (s0 s1 : Value) (a : Nat) (w : px_H) (Q : Option Value → px_H → Prop), wp d 55 64 [some (.ref a), l1, l2] [s0, s1] w 0 Q ↔ wp d 55 65 [some (.ref a), l1, l2] [.ref a, s0, s1] w 0 Q) ∧
  (∀ (d : Nat) (l0 l1 l2 : Option Value) (s1 s2 : Value) (a : Nat) (w : px_H) (Q : Option Value → px_H → Prop), wp d 55 65 [l0, l1, l2] [.ref a, s1, s2] w 0 Q ↔ px_op (px_fld w a [(5, 0)] 8) (fun v => wp d 55 68 [l0, l1, l2] [v, s1, s2] w 0 Q)) ∧
  (∀ (d : Nat) (l0 l1 l2 : Option Value) (x i : Int32) (a : Nat) (w : px_H) (Q : Option Value → px_H → Prop), wp d 55 68 [l0, l1, l2] [.int x, .int i, .ref a] w 0 Q ↔ px_op (px_ast w a i x .int) (fun w' => wp d 55 69 [l0, l1, l2] [] w' 0 Q)) ∧
  (∀ (d : Nat) (l1 l2 : Option Value) (a : Nat) (w : px_H) (Q : Option Value → px_H → Prop), wp d 55 69 [some (.ref a), l1, l2] [] w 0 Q ↔ wp d 55 70 [some (.ref a), l1, l2] [.ref a] w 0 Q) ∧
  (∀ (d : Nat) (l0 l1 l2 : Option Value) (a : Nat) (w : px_H) (Q : Option Value → px_H → Prop), wp d 55 70 [l0, l1, l2] [.ref a] w 0 Q ↔ px_op (px_fld w a [(5, 0)] 3) (fun v => wp d 55 73 [l0, l1, l2] [v] w 0 Q)) ∧
  (∀ (d : Nat) (l0 l1 : Option Value) (s0 : Value) (x : Int32) (w : px_H) (Q : Option Value → px_H → Prop), wp d 55 73 [l0, l1, some (.int x)] [s0] w 0 Q ↔ wp d 55 74 [l0, l1, some (.int x)] [.int x, s0] w 0 Q) ∧
  (∀ (d : Nat) (l0 l1 l2 : Option Value) (s0 s1 : Value)  (w : px_H) (Q : Option Value → px_H → Prop), wp d 55 74 [l0, l1, l2] [s0, s1] w 0 Q ↔ wp d 55 75 [l0, l1, l2] [.int 3, s0, s1] w 0 Q) ∧
  (∀ (d : Nat) (l0 l1 l2 : Option Value) (s2 : Value) (x y : Int32) (w : px_H) (Q : Option Value → px_H → Prop), wp d 55 75 [l0, l1, l2] [.int y, .int x, s2] w 0 Q ↔ wp d 55 76 [l0, l1, l2] [.int (x + y), s2] w 0 Q) ∧
  (∀ (d : Nat) (l1 l2 : Option Value) (s0 s1 : Value) (a : Nat) (w : px_H) (Q : Option Value → px_H → Prop), wp d 55 76 [some (.ref a), l1, l2] [s0, s1] w 0 Q ↔ wp d 55 77 [some (.ref a), l1, l2] [.ref a, s0, s1] w 0 Q) ∧
  (∀ (d : Nat) (l0 l1 l2 : Option Value) (s1 s2 : Value) (a : Nat) (w : px_H) (Q : Option Value → px_H → Prop), wp d 55 77 [l0, l1, l2] [.ref a, s1, s2] w 0 Q ↔ px_op (px_fld w a [(5, 0)] 9) (fun v => wp d 55 80 [l0, l1, l2] [v, s1, s2] w 0 Q)) ∧
  (∀ (d : Nat) (l0 l1 l2 : Option Value) (x i : Int32) (a : Nat) (w : px_H) (Q : Option Value → px_H → Prop), wp d 55 80 [l0, l1, l2] [.int x, .int i, .ref a] w 0 Q ↔ px_op (px_ast w a i x .int) (fun w' => wp d 55 81 [l0, l1, l2] [] w' 0 Q)) ∧
  (∀ (d : Nat) (l1 l2 : Option Value) (a : Nat) (w : px_H) (Q : Option Value → px_H → Prop), wp d 55 81 [some (.ref a), l1, l2] [] w 0 Q ↔ wp d 55 82 [some (.ref a), l1, l2] [.ref a] w 0 Q) ∧
  (∀ (d : Nat) (l0 l1 l2 : Option Value) (s0 : Value)  (w : px_H) (Q : Option Value → px_H → Prop), wp d 55 82 [l0, l1, l2] [s0] w 0 Q ↔ wp d 55 83 [l0, l1, l2] [s0, s0] w 0 Q) ∧
  (∀ (d : Nat) (l0 l1 l2 : Option Value) (s1 : Value) (a : Nat) (w : px_H) (Q : Option Value → px_H → Prop), wp d 55 83 [l0, l1, l2] [.ref a, s1] w 0 Q ↔ px_op (px_fld w a [(5, 0)] 7) (fun v => wp d 55 86 [l0, l1, l2] [v, s1] w 0 Q)) ∧
  (∀ (d : Nat) (l0 l1 l2 : Option Value) (s0 s1 : Value)  (w : px_H) (Q : Option Value → px_H → Prop), wp d 55 86 [l0, l1, l2] [s0, s1] w 0 Q ↔ wp d 55 87 [l0, l1, l2] [.int 1, s0, s1] w 0 Q) ∧
  (∀ (d : Nat) (l0 l1 l2 : Option Value) (s2 : Value) (x y : Int32) (w : px_H) (Q : Option Value → px_H → Prop), wp d 55 87 [l0, l1, l2] [.int y, .int x, s2] w 0 Q ↔ wp d 55 88 [l0, l1, l2] [.int (x + y), s2] w 0 Q) ∧
  (∀ (d : Nat) (l0 l1 l2 : Option Value) (x : Int32) (a : Nat) (w : px_H) (Q : Option Value → px_H → Prop), wp d 55 88 [l0, l1, l2] [.int x, .ref a] w 0 Q ↔ px_op (px_pfd w a [(5, 0)] 7 (.int x)) (fun w' => wp d 55 91 [l0, l1, l2] [] w' 0 Q)) ∧
  (∀ (d : Nat) (l0 l1 l2 : Option Value)  (w : px_H) (Q : Option Value → px_H → Prop), wp d 55 91 [l0, l1, l2] [] w 0 Q ↔ Q none w) := ⟨fun d v0 v1 w Q => r_entry pt_55 (Nat.le_of_ble_eq_true rfl) rfl,
  fun d l1 l2 a w Q => px_go (q := (.aload_n 0, 1, px_x0)) (S' := (1, [some (.ref a), l1, l2], [.ref a], w, 0)) pt_55 rfl rfl,
  fun d l0 l1 l2 a w Q => px_goO (q := (.getfield 37, 3, (10, 7, [(5, 0)], 0, "AllSworn$Realm"))) (S' := fun v => (4, [l0, l1, l2], [v], w, 0)) pt_55 rfl rfl,
  fun d l0 l1 l2 s0 w Q => r_bipush pt_55 rfl (by decide),
  fun d l0 l1 l2 x y w Q => r_icmp_lt pt_55 rfl rfl,
  fun d l1 l2 a w Q => px_go (q := (.aload_n 0, 1, px_x0)) (S' := (10, [some (.ref a), l1, l2], [.ref a], w, 0)) pt_55 rfl rfl,
  fun d l0 l1 l2 a w Q => px_goO (q := (.getfield 24, 3, (10, 3, [(5, 0)], 0, "AllSworn$Realm"))) (S' := fun v => (13, [l0, l1, l2], [v], w, 0)) pt_55 rfl rfl,
  fun d l0 l1 l2 s0 w Q => r_iconst pt_55 rfl (by decide),
  fun d l1 l2 s0 s1 a w Q => px_go (q := (.aload_n 0, 1, px_x0)) (S' := (15, [some (.ref a), l1, l2], [.ref a, s0, s1], w, 0)) pt_55 rfl rfl,
  fun d l0 l1 l2 s1 s2 a w Q => px_goO (q := (.getfield 24, 3, (10, 3, [(5, 0)], 0, "AllSworn$Realm"))) (S' := fun v => (18, [l0, l1, l2], [v, s1, s2], w, 0)) pt_55 rfl rfl,
  fun d l0 l1 l2 s0 s1 s2 w Q => r_iconst pt_55 rfl (by decide),
  fun d l0 l1 l2 s0 s1 s2 s3 w Q => r_bipush pt_55 rfl (by decide),
  fun d l0 l1 l2 n dp sp a b w Q => px_goO (q := (.invokestatic 47, 3, (37, 0, [], 0, ""))) (S' := fun w' => (24, [l0, l1, l2], [], w', 0)) pt_55 rfl rfl,
  fun d l1 l2 a w Q => px_go (q := (.aload_n 0, 1, px_x0)) (S' := (25, [some (.ref a), l1, l2], [.ref a], w, 0)) pt_55 rfl rfl,
  fun d l0 l1 l2 s0 w Q => r_bipush pt_55 rfl (by decide),
  fun d l0 l1 l2 x a w Q => r_put pt_55 rfl (by simp only [List.all_cons, List.all_nil, ft_5_7, px_fit, px_isr, Bool.and_self]),
  fun d l1 l2 a w Q => px_go (q := (.aload_n 0, 1, px_x0)) (S' := (31, [some (.ref a), l1, l2], [.ref a], w, 0)) pt_55 rfl rfl,
  fun d l0 l1 l2 a w Q => px_goO (q := (.getfield 37, 3, (10, 7, [(5, 0)], 0, "AllSworn$Realm"))) (S' := fun v => (34, [l0, l1, l2], [v], w, 0)) pt_55 rfl rfl,
  fun d l0 l1 l2 s0 w Q => r_iconst pt_55 rfl (by decide),
  fun d l0 l1 l2 x y w Q => px_go (q := (.imul, 1, px_x0)) (S' := (36, [l0, l1, l2], [.int (x * y)], w, 0)) pt_55 rfl rfl,
  fun d l0 l1 l2 x w Q => px_go (q := (.istore_n 2, 1, px_x0)) (S' := (37, [l0, l1, some (.int x)], [], w, 0)) pt_55 rfl rfl,
  fun d l1 l2 a w Q => px_go (q := (.aload_n 0, 1, px_x0)) (S' := (38, [some (.ref a), l1, l2], [.ref a], w, 0)) pt_55 rfl rfl,
  fun d l0 l1 l2 a w Q => px_goO (q := (.getfield 24, 3, (10, 3, [(5, 0)], 0, "AllSworn$Realm"))) (S' := fun v => (41, [l0, l1, l2], [v], w, 0)) pt_55 rfl rfl,
  fun d l0 l1 s0 x w Q => px_go (q := (.iload_n 2, 1, px_x0)) (S' := (42, [l0, l1, some (.int x)], [.int x, s0], w, 0)) pt_55 rfl rfl,
  fun d l0 l2 s0 s1 x w Q => px_go (q := (.iload_n 1, 1, px_x0)) (S' := (43, [l0, some (.int x), l2], [.int x, s0, s1], w, 0)) pt_55 rfl rfl,
  fun d l0 l1 l2 x i a w Q => px_goO (q := (.iastore, 1, px_x0)) (S' := fun w' => (44, [l0, l1, l2], [], w', 0)) pt_55 rfl rfl,
  fun d l1 l2 a w Q => px_go (q := (.aload_n 0, 1, px_x0)) (S' := (45, [some (.ref a), l1, l2], [.ref a], w, 0)) pt_55 rfl rfl,
  fun d l0 l1 l2 a w Q => px_goO (q := (.getfield 24, 3, (10, 3, [(5, 0)], 0, "AllSworn$Realm"))) (S' := fun v => (48, [l0, l1, l2], [v], w, 0)) pt_55 rfl rfl,
  fun d l0 l1 s0 x w Q => px_go (q := (.iload_n 2, 1, px_x0)) (S' := (49, [l0, l1, some (.int x)], [.int x, s0], w, 0)) pt_55 rfl rfl,
  fun d l0 l1 l2 s0 s1 w Q => r_iconst pt_55 rfl (by decide),
  fun d l0 l1 l2 s2 x y w Q => px_go (q := (.iadd, 1, px_x0)) (S' := (51, [l0, l1, l2], [.int (x + y), s2], w, 0)) pt_55 rfl rfl,
  fun d l1 l2 s0 s1 a w Q => px_go (q := (.aload_n 0, 1, px_x0)) (S' := (52, [some (.ref a), l1, l2], [.ref a, s0, s1], w, 0)) pt_55 rfl rfl,
  fun d l0 l2 s0 s1 s2 x w Q => px_go (q := (.iload_n 1, 1, px_x0)) (S' := (53, [l0, some (.int x), l2], [.int x, s0, s1, s2], w, 0)) pt_55 rfl rfl,
  fun d l0 l1 l2 s2 s3 v0 b w Q => r_callV (q := (.invokevirtual 79, 3, (33, 1, [(5, 48)], 0, ""))) pt_55 rfl rfl (List.forall_mem_cons.mpr ⟨⟨_, pt_48, Nat.le_of_ble_eq_true rfl, (Nat.le_of_ble_eq_true rfl), rfl⟩, fun _ h => absurd h List.not_mem_nil⟩),
  fun d l0 l1 l2 x i a w Q => px_goO (q := (.iastore, 1, px_x0)) (S' := fun w' => (57, [l0, l1, l2], [], w', 0)) pt_55 rfl rfl,
  fun d l1 l2 a w Q => px_go (q := (.aload_n 0, 1, px_x0)) (S' := (58, [some (.ref a), l1, l2], [.ref a], w, 0)) pt_55 rfl rfl,
  fun d l0 l1 l2 a w Q => px_goO (q := (.getfield 24, 3, (10, 3, [(5, 0)], 0, "AllSworn$Realm"))) (S' := fun v => (61, [l0, l1, l2], [v], w, 0)) pt_55 rfl rfl,
  fun d l0 l1 s0 x w Q => px_go (q := (.iload_n 2, 1, px_x0)) (S' := (62, [l0, l1, some (.int x)], [.int x, s0], w, 0)) pt_55 rfl rfl,
  fun d l0 l1 l2 s0 s1 w Q => r_iconst pt_55 rfl (by decide),
  fun d l0 l1 l2 s2 x y w Q => px_go (q := (.iadd, 1, px_x0)) (S' := (64, [l0, l1, l2], [.int (x + y), s2], w, 0)) pt_55 rfl rfl,
  fun d l1 l2 s0 s1 a w Q => px_go (q := (.aload_n 0, 1, px_x0)) (S' := (65, [some (.ref a), l1, l2], [.ref a, s0, s1], w, 0)) pt_55 rfl rfl,
  fun d l0 l1 l2 s1 s2 a w Q => px_goO (q := (.getfield 40, 3, (10, 8, [(5, 0)], 0, "AllSworn$Realm"))) (S' := fun v => (68, [l0, l1, l2], [v, s1, s2], w, 0)) pt_55 rfl rfl,
  fun d l0 l1 l2 x i a w Q => px_goO (q := (.iastore, 1, px_x0)) (S' := fun w' => (69, [l0, l1, l2], [], w', 0)) pt_55 rfl rfl,
  fun d l1 l2 a w Q => px_go (q := (.aload_n 0, 1, px_x0)) (S' := (70, [some (.ref a), l1, l2], [.ref a], w, 0)) pt_55 rfl rfl,
  fun d l0 l1 l2 a w Q => px_goO (q := (.getfield 24, 3, (10, 3, [(5, 0)], 0, "AllSworn$Realm"))) (S' := fun v => (73, [l0, l1, l2], [v], w, 0)) pt_55 rfl rfl,
  fun d l0 l1 s0 x w Q => px_go (q := (.iload_n 2, 1, px_x0)) (S' := (74, [l0, l1, some (.int x)], [.int x, s0], w, 0)) pt_55 rfl rfl,
  fun d l0 l1 l2 s0 s1 w Q => r_iconst pt_55 rfl (by decide),
  fun d l0 l1 l2 s2 x y w Q => px_go (q := (.iadd, 1, px_x0)) (S' := (76, [l0, l1, l2], [.int (x + y), s2], w, 0)) pt_55 rfl rfl,
  fun d l1 l2 s0 s1 a w Q => px_go (q := (.aload_n 0, 1, px_x0)) (S' := (77, [some (.ref a), l1, l2], [.ref a, s0, s1], w, 0)) pt_55 rfl rfl,
  fun d l0 l1 l2 s1 s2 a w Q => px_goO (q := (.getfield 43, 3, (10, 9, [(5, 0)], 0, "AllSworn$Realm"))) (S' := fun v => (80, [l0, l1, l2], [v, s1, s2], w, 0)) pt_55 rfl rfl,
  fun d l0 l1 l2 x i a w Q => px_goO (q := (.iastore, 1, px_x0)) (S' := fun w' => (81, [l0, l1, l2], [], w', 0)) pt_55 rfl rfl,
  fun d l1 l2 a w Q => px_go (q := (.aload_n 0, 1, px_x0)) (S' := (82, [some (.ref a), l1, l2], [.ref a], w, 0)) pt_55 rfl rfl,
  fun d l0 l1 l2 s0 w Q => px_go (q := (.dup, 1, px_x0)) (S' := (83, [l0, l1, l2], [s0, s0], w, 0)) pt_55 rfl rfl,
  fun d l0 l1 l2 s1 a w Q => px_goO (q := (.getfield 37, 3, (10, 7, [(5, 0)], 0, "AllSworn$Realm"))) (S' := fun v => (86, [l0, l1, l2], [v, s1], w, 0)) pt_55 rfl rfl,
  fun d l0 l1 l2 s0 s1 w Q => r_iconst pt_55 rfl (by decide),
  fun d l0 l1 l2 s2 x y w Q => px_go (q := (.iadd, 1, px_x0)) (S' := (88, [l0, l1, l2], [.int (x + y), s2], w, 0)) pt_55 rfl rfl,
  fun d l0 l1 l2 x a w Q => r_put pt_55 rfl (by simp only [List.all_cons, List.all_nil, ft_5_7, px_fit, px_isr, Bool.and_self]),
  fun d l0 l1 l2 w Q => px_ret (q := (.return_, 1, px_x0)) pt_55 rfl rfl⟩
/-- AllSworn$Realm.swear(II)V -/
theorem S56 : (∀ (d : Nat) (v0 v1 v2 : Value) (w : px_H) (Q : Option Value → px_H → Prop), wc d 56 [v0, v1, v2] w Q ↔ wp d 56 0 [some v0, some v1, some v2] [] w 0 Q) ∧
  (∀ (d : Nat) (l0 l2 : Option Value) (x : Int32) (w : px_H) (Q : Option Value → px_H → Prop), wp d 56 0 [l0, some (.int x), l2] [] w 0 Q ↔ wp d 56 1 [l0, some (.int x), l2] [.int x] w 0 Q) ∧
  (∀ (d : Nat) (l0 l1 l2 : Option Value) (x : Int32) (w : px_H) (Q : Option Value → px_H → Prop), wp d 56 1 [l0, l1, l2] [.int x] w 0 Q ↔ if x < 0 then wp d 56 25 [l0, l1, l2] [] w 0 Q else wp d 56 4 [l0, l1, l2] [] w 0 Q) ∧
  (∀ (d : Nat) (l0 l2 : Option Value) (x : Int32) (w : px_H) (Q : Option Value → px_H → Prop), wp d 56 4 [l0, some (.int x), l2] [] w 0 Q ↔ wp d 56 5 [l0, some (.int x), l2] [.int x] w 0 Q) ∧
  (∀ (d : Nat) (l1 l2 : Option Value) (s0 : Value) (a : Nat) (w : px_H) (Q : Option Value → px_H → Prop), wp d 56 5 [some (.ref a), l1, l2] [s0] w 0 Q ↔ wp d 56 6 [some (.ref a), l1, l2] [.ref a, s0] w 0 Q) ∧
  (∀ (d : Nat) (l0 l1 l2 : Option Value) (s1 : Value) (a : Nat) (w : px_H) (Q : Option Value → px_H → Prop), wp d 56 6 [l0, l1, l2] [.ref a, s1] w 0 Q ↔ px_op (px_fld w a [(5, 0)] 5) (fun v => wp d 56 9 [l0, l1, l2] [v, s1] w 0 Q)) ∧
  (∀ (d : Nat) (l0 l1 l2 : Option Value) (x y : Int32) (w : px_H) (Q : Option Value → px_H → Prop), wp d 56 9 [l0, l1, l2] [.int y, .int x] w 0 Q ↔ if y ≤ x then wp d 56 25 [l0, l1, l2] [] w 0 Q else wp d 56 12 [l0, l1, l2] [] w 0 Q) ∧
  (∀ (d : Nat) (l0 l2 : Option Value) (x : Int32) (w : px_H) (Q : Option Value → px_H → Prop), wp d 56 12 [l0, some (.int x), l2] [] w 0 Q ↔ wp d 56 13 [l0, some (.int x), l2] [.int x] w 0 Q) ∧
  (∀ (d : Nat) (l0 l1 l2 : Option Value) (s0 : Value)  (w : px_H) (Q : Option Value → px_H → Prop), wp d 56 13 [l0, l1, l2] [s0] w 0 Q ↔ wp d 56 15 [l0, l1, l2] [.int 8, s0] w 0 Q) ∧
  (∀ (d : Nat) (l0 l1 l2 : Option Value) (x y : Int32) (w : px_H) (Q : Option Value → px_H → Prop), wp d 56 15 [l0, l1, l2] [.int y, .int x] w 0 Q ↔ if y ≤ x then wp d 56 25 [l0, l1, l2] [] w 0 Q else wp d 56 18 [l0, l1, l2] [] w 0 Q) ∧
  (∀ (d : Nat) (l1 l2 : Option Value) (a : Nat) (w : px_H) (Q : Option Value → px_H → Prop), wp d 56 18 [some (.ref a), l1, l2] [] w 0 Q ↔ wp d 56 19 [some (.ref a), l1, l2] [.ref a] w 0 Q) ∧
  (∀ (d : Nat) (l0 l1 l2 : Option Value) (a : Nat) (w : px_H) (Q : Option Value → px_H → Prop), wp d 56 19 [l0, l1, l2] [.ref a] w 0 Q ↔ px_op (px_fld w a [(5, 0)] 1) (fun v => wp d 56 22 [l0, l1, l2] [v] w 0 Q)) ∧
  (∀ (d : Nat) (l0 l2 : Option Value) (s0 : Value) (x : Int32) (w : px_H) (Q : Option Value → px_H → Prop), wp d 56 22 [l0, some (.int x), l2] [s0] w 0 Q ↔ wp d 56 23 [l0, some (.int x), l2] [.int x, s0] w 0 Q) ∧
  (∀ (d : Nat) (l0 l1 : Option Value) (s0 s1 : Value) (x : Int32) (w : px_H) (Q : Option Value → px_H → Prop), wp d 56 23 [l0, l1, some (.int x)] [s0, s1] w 0 Q ↔ wp d 56 24 [l0, l1, some (.int x)] [.int x, s0, s1] w 0 Q) ∧
  (∀ (d : Nat) (l0 l1 l2 : Option Value) (x i : Int32) (a : Nat) (w : px_H) (Q : Option Value → px_H → Prop), wp d 56 24 [l0, l1, l2] [.int x, .int i, .ref a] w 0 Q ↔ px_op (px_ast w a i x .int) (fun w' => wp d 56 25 [l0, l1, l2] [] w' 0 Q)) ∧
  (∀ (d : Nat) (l0 l1 l2 : Option Value)  (w : px_H) (Q : Option Value → px_H → Prop), wp d 56 25 [l0, l1, l2] [] w 0 Q ↔ Q none w) := ⟨fun d v0 v1 v2 w Q => r_entry pt_56 (Nat.le_of_ble_eq_true rfl) rfl,
  fun d l0 l2 x w Q => px_go (q := (.iload_n 1, 1, px_x0)) (S' := (1, [l0, some (.int x), l2], [.int x], w, 0)) pt_56 rfl rfl,
  fun d l0 l1 l2 x w Q => r_if_lt pt_56 rfl rfl,
  fun d l0 l2 x w Q => px_go (q := (.iload_n 1, 1, px_x0)) (S' := (5, [l0, some (.int x), l2], [.int x], w, 0)) pt_56 rfl rfl,
  fun d l1 l2 s0 a w Q => px_go (q := (.aload_n 0, 1, px_x0)) (S' := (6, [some (.ref a), l1, l2], [.ref a, s0], w, 0)) pt_56 rfl rfl,
  fun d l0 l1 l2 s1 a w Q => px_goO (q := (.getfield 31, 3, (10, 5, [(5, 0)], 0, "AllSworn$Realm"))) (S' := fun v => (9, [l0, l1, l2], [v, s1], w, 0)) pt_56 rfl rfl,
  fun d l0 l1 l2 x y w Q => r_icmp_ge pt_56 rfl rfl,
  fun d l0 l2 x w Q => px_go (q := (.iload_n 1, 1, px_x0)) (S' := (13, [l0, some (.int x), l2], [.int x], w, 0)) pt_56 rfl rfl,
  fun d l0 l1 l2 s0 w Q => r_bipush pt_56 rfl (by decide),
  fun d l0 l1 l2 x y w Q => r_icmp_ge pt_56 rfl rfl,
  fun d l1 l2 a w Q => px_go (q := (.aload_n 0, 1, px_x0)) (S' := (19, [some (.ref a), l1, l2], [.ref a], w, 0)) pt_56 rfl rfl,
  fun d l0 l1 l2 a w Q => px_goO (q := (.getfield 17, 3, (10, 1, [(5, 0)], 0, "AllSworn$Realm"))) (S' := fun v => (22, [l0, l1, l2], [v], w, 0)) pt_56 rfl rfl,
  fun d l0 l2 s0 x w Q => px_go (q := (.iload_n 1, 1, px_x0)) (S' := (23, [l0, some (.int x), l2], [.int x, s0], w, 0)) pt_56 rfl rfl,
  fun d l0 l1 s0 s1 x w Q => px_go (q := (.iload_n 2, 1, px_x0)) (S' := (24, [l0, l1, some (.int x)], [.int x, s0, s1], w, 0)) pt_56 rfl rfl,
  fun d l0 l1 l2 x i a w Q => px_goO (q := (.iastore, 1, px_x0)) (S' := fun w' => (25, [l0, l1, l2], [], w', 0)) pt_56 rfl rfl,
  fun d l0 l1 l2 w Q => px_ret (q := (.return_, 1, px_x0)) pt_56 rfl rfl⟩
/-- AllSworn$Realm.boundOn(I)I -/
theorem S57 : (∀ (d : Nat) (v0 v1 : Value) (w : px_H) (Q : Option Value → px_H → Prop), wc d 57 [v0, v1] w Q ↔ wp d 57 0 [some v0, some v1] [] w 0 Q) ∧
  (∀ (d : Nat) (l1 : Option Value) (a : Nat) (w : px_H) (Q : Option Value → px_H → Prop), wp d 57 0 [some (.ref a), l1] [] w 0 Q ↔ wp d 57 1 [some (.ref a), l1] [.ref a] w 0 Q) ∧
  (∀ (d : Nat) (l0 : Option Value) (s0 : Value) (x : Int32) (w : px_H) (Q : Option Value → px_H → Prop), wp d 57 1 [l0, some (.int x)] [s0] w 0 Q ↔ wp d 57 2 [l0, some (.int x)] [.int x, s0] w 0 Q) ∧
  (∀ (d : Nat) (l1 : Option Value) (s0 s1 : Value) (a : Nat) (w : px_H) (Q : Option Value → px_H → Prop), wp d 57 2 [some (.ref a), l1] [s0, s1] w 0 Q ↔ wp d 57 3 [some (.ref a), l1] [.ref a, s0, s1] w 0 Q) ∧
  (∀ (d : Nat) (l0 l1 : Option Value) (s1 s2 : Value) (a : Nat) (w : px_H) (Q : Option Value → px_H → Prop), wp d 57 3 [l0, l1] [.ref a, s1, s2] w 0 Q ↔ px_op (px_fld w a [(5, 0)] 4) (fun v => wp d 57 6 [l0, l1] [v, s1, s2] w 0 Q)) ∧
  (∀ (d : Nat) (l0 l1 : Option Value) (s0 s1 s2 : Value)  (w : px_H) (Q : Option Value → px_H → Prop), wp d 57 6 [l0, l1] [s0, s1, s2] w 0 Q ↔ wp d 57 7 [l0, l1] [.int 0, s0, s1, s2] w 0 Q) ∧
  (∀ (d : Nat) (l0 l1 : Option Value) (v0 v1 v2 : Value) (b : Nat) (w : px_H) (Q : Option Value → px_H → Prop), wp (d + 1) 57 7 [l0, l1] [v2, v1, v0, .ref b] w 0 Q ↔ px_op (px_tgt w b [(5, 58)]) (fun v => wc d v [.ref b, v0, v1, v2] w (fun r w' => wp (d + 1) 57 10 [l0, l1] (r.toList ++ []) w' 0 Q))) ∧
  (∀ (d : Nat) (l0 l1 : Option Value) (x : Int32) (w : px_H) (Q : Option Value → px_H → Prop), wp d 57 10 [l0, l1] [.int x] w 0 Q ↔ Q (some (.int x)) w) := ⟨fun d v0 v1 w Q => r_entry pt_57 (Nat.le_of_ble_eq_true rfl) rfl,
  fun d l1 a w Q => px_go (q := (.aload_n 0, 1, px_x0)) (S' := (1, [some (.ref a), l1], [.ref a], w, 0)) pt_57 rfl rfl,
  fun d l0 s0 x w Q => px_go (q := (.iload_n 1, 1, px_x0)) (S' := (2, [l0, some (.int x)], [.int x, s0], w, 0)) pt_57 rfl rfl,
  fun d l1 s0 s1 a w Q => px_go (q := (.aload_n 0, 1, px_x0)) (S' := (3, [some (.ref a), l1], [.ref a, s0, s1], w, 0)) pt_57 rfl rfl,
  fun d l0 l1 s1 s2 a w Q => px_goO (q := (.getfield 27, 3, (10, 4, [(5, 0)], 0, "AllSworn$Realm"))) (S' := fun v => (6, [l0, l1], [v, s1, s2], w, 0)) pt_57 rfl rfl,
  fun d l0 l1 s0 s1 s2 w Q => r_iconst pt_57 rfl (by decide),
  fun d l0 l1 v0 v1 v2 b w Q => r_callV (q := (.invokevirtual 82, 3, (33, 3, [(5, 58)], 0, ""))) pt_57 rfl rfl (List.forall_mem_cons.mpr ⟨⟨_, pt_58, Nat.le_of_ble_eq_true rfl, (Nat.le_of_ble_eq_true rfl), rfl⟩, fun _ h => absurd h List.not_mem_nil⟩),
  fun d l0 l1 x w Q => px_ret (q := (.ireturn, 1, px_x0)) pt_57 rfl rfl⟩
/-- AllSworn$Realm.boundIf(III)I heads: [6] -/
theorem S58 : (∀ (d : Nat) (v0 v1 v2 v3 : Value) (w : px_H) (Q : Option Value → px_H → Prop), wc d 58 [v0, v1, v2, v3] w Q ↔ wp d 58 0 [some v0, some v1, some v2, some v3, none, none, none, none, none] [] w 0 Q) ∧
  (∀ (d : Nat) (l0 l1 l2 l3 l4 l5 l6 l7 l8 : Option Value)  (w : px_H) (Q : Option Value → px_H → Prop), wp d 58 0 [l0, l1, l2, l3, l4, l5, l6, l7, l8] [] w 0 Q ↔ wp d 58 1 [l0, l1, l2, l3, l4, l5, l6, l7, l8] [.int 0] w 0 Q) ∧
  (∀ (d : Nat) (l0 l1 l2 l3 l4 l5 l6 l7 l8 : Option Value) (x : Int32) (w : px_H) (Q : Option Value → px_H → Prop), wp d 58 1 [l0, l1, l2, l3, l4, l5, l6, l7, l8] [.int x] w 0 Q ↔ wp d 58 3 [l0, l1, l2, l3, some (.int x), l5, l6, l7, l8] [] w 0 Q) ∧
  (∀ (d : Nat) (l0 l1 l2 l3 l4 l5 l6 l7 l8 : Option Value)  (w : px_H) (Q : Option Value → px_H → Prop), wp d 58 3 [l0, l1, l2, l3, l4, l5, l6, l7, l8] [] w 0 Q ↔ wp d 58 4 [l0, l1, l2, l3, l4, l5, l6, l7, l8] [.int 0] w 0 Q) ∧
  (∀ (d : Nat) (l0 l1 l2 l3 l4 l5 l6 l7 l8 : Option Value) (x : Int32) (w : px_H) (Q : Option Value → px_H → Prop), wp d 58 4 [l0, l1, l2, l3, l4, l5, l6, l7, l8] [.int x] w 0 Q ↔ wp d 58 6 [l0, l1, l2, l3, l4, some (.int x), l6, l7, l8] [] w 0 Q) ∧
  (∀ (d : Nat) (l1 l2 l3 l4 l5 l6 l7 l8 : Option Value) (s0 : Value) (a : Nat) (w : px_H) (Q : Option Value → px_H → Prop), wp d 58 8 [some (.ref a), l1, l2, l3, l4, l5, l6, l7, l8] [s0] w 0 Q ↔ wp d 58 9 [some (.ref a), l1, l2, l3, l4, l5, l6, l7, l8] [.ref a, s0] w 0 Q) ∧
  (∀ (d : Nat) (l0 l1 l2 l3 l4 l5 l6 l7 l8 : Option Value) (s1 : Value) (a : Nat) (w : px_H) (Q : Option Value → px_H → Prop), wp d 58 9 [l0, l1, l2, l3, l4, l5, l6, l7, l8] [.ref a, s1] w 0 Q ↔ px_op (px_fld w a [(5, 0)] 5) (fun v => wp d 58 12 [l0, l1, l2, l3, l4, l5, l6, l7, l8] [v, s1] w 0 Q)) ∧
  (∀ (d : Nat) (l0 l1 l2 l3 l4 l5 l6 l7 l8 : Option Value) (x y : Int32) (w : px_H) (Q : Option Value → px_H → Prop), wp d 58 12 [l0, l1, l2, l3, l4, l5, l6, l7, l8] [.int y, .int x] w 0 Q ↔ if y ≤ x then wp d 58 117 [l0, l1, l2, l3, l4, l5, l6, l7, l8] [] w 0 Q else wp d 58 15 [l0, l1, l2, l3, l4, l5, l6, l7, l8] [] w 0 Q) ∧
  (∀ (d : Nat) (l0 l1 l2 l3 l4 l6 l7 l8 : Option Value) (x : Int32) (w : px_H) (Q : Option Value → px_H → Prop), wp d 58 15 [l0, l1, l2, l3, l4, some (.int x), l6, l7, l8] [] w 0 Q ↔ wp d 58 17 [l0, l1, l2, l3, l4, some (.int x), l6, l7, l8] [.int x] w 0 Q) ∧
  (∀ (d : Nat) (l0 l1 l2 l3 l4 l5 l6 l7 l8 : Option Value) (s0 : Value)  (w : px_H) (Q : Option Value → px_H → Prop), wp d 58 17 [l0, l1, l2, l3, l4, l5, l6, l7, l8] [s0] w 0 Q ↔ wp d 58 19 [l0, l1, l2, l3, l4, l5, l6, l7, l8] [.int 8, s0] w 0 Q) ∧
  (∀ (d : Nat) (l0 l1 l2 l3 l4 l5 l6 l7 l8 : Option Value) (x y : Int32) (w : px_H) (Q : Option Value → px_H → Prop), wp d 58 19 [l0, l1, l2, l3, l4, l5, l6, l7, l8] [.int y, .int x] w 0 Q ↔ if y ≤ x then wp d 58 117 [l0, l1, l2, l3, l4, l5, l6, l7, l8] [] w 0 Q else wp d 58 22 [l0, l1, l2, l3, l4, l5, l6, l7, l8] [] w 0 Q) ∧
  (∀ (d : Nat) (l1 l2 l3 l4 l5 l6 l7 l8 : Option Value) (a : Nat) (w : px_H) (Q : Option Value → px_H → Prop), wp d 58 22 [some (.ref a), l1, l2, l3, l4, l5, l6, l7, l8] [] w 0 Q ↔ wp d 58 23 [some (.ref a), l1, l2, l3, l4, l5, l6, l7, l8] [.ref a] w 0 Q) ∧
  (∀ (d : Nat) (l0 l1 l2 l3 l4 l5 l6 l7 l8 : Option Value) (a : Nat) (w : px_H) (Q : Option Value → px_H → Prop), wp d 58 23 [l0, l1, l2, l3, l4, l5, l6, l7, l8] [.ref a] w 0 Q ↔ px_op (px_fld w a [(5, 0)] 0) (fun v => wp d 58 26 [l0, l1, l2, l3, l4, l5, l6, l7, l8] [v] w 0 Q)) ∧
  (∀ (d : Nat) (l0 l1 l2 l3 l4 l6 l7 l8 : Option Value) (s0 : Value) (x : Int32) (w : px_H) (Q : Option Value → px_H → Prop), wp d 58 26 [l0, l1, l2, l3, l4, some (.int x), l6, l7, l8] [s0] w 0 Q ↔ wp d 58 28 [l0, l1, l2, l3, l4, some (.int x), l6, l7, l8] [.int x, s0] w 0 Q) ∧
  (∀ (d : Nat) (l0 l1 l2 l3 l4 l5 l6 l7 l8 : Option Value) (i : Int32) (a : Nat) (w : px_H) (Q : Option Value → px_H → Prop), wp d 58 28 [l0, l1, l2, l3, l4, l5, l6, l7, l8] [.int i, .ref a] w 0 Q ↔ px_op (px_rld w a i) (fun v => wp d 58 29 [l0, l1, l2, l3, l4, l5, l6, l7, l8] [v] w 0 Q)) ∧
  (∀ (d : Nat) (l0 l1 l2 l3 l4 l5 l6 l7 l8 : Option Value) (a : Nat) (w : px_H) (Q : Option Value → px_H → Prop), wp d 58 29 [l0, l1, l2, l3, l4, l5, l6, l7, l8] [.ref a] w 0 Q ↔ wp d 58 31 [l0, l1, l2, l3, l4, l5, some (.ref a), l7, l8] [] w 0 Q) ∧
  (∀ (d : Nat) (l0 l1 l2 l3 l4 l5 l6 l7 l8 : Option Value)  (w : px_H) (Q : Option Value → px_H → Prop), wp d 58 29 [l0, l1, l2, l3, l4, l5, l6, l7, l8] [.null] w 0 Q ↔ wp d 58 31 [l0, l1, l2, l3, l4, l5, some .null, l7, l8] [] w 0 Q) ∧
  (∀ (d : Nat) (l0 l1 l2 l4 l5 l6 l7 l8 : Option Value) (x : Int32) (w : px_H) (Q : Option Value → px_H → Prop), wp d 58 31 [l0, l1, l2, some (.int x), l4, l5, l6, l7, l8] [] w 0 Q ↔ wp d 58 32 [l0, l1, l2, some (.int x), l4, l5, l6, l7, l8] [.int x] w 0 Q) ∧
  (∀ (d : Nat) (l0 l1 l2 l3 l4 l6 l7 l8 : Option Value) (s0 : Value) (x : Int32) (w : px_H) (Q : Option Value → px_H → Prop), wp d 58 32 [l0, l1, l2, l3, l4, some (.int x), l6, l7, l8] [s0] w 0 Q ↔ wp d 58 34 [l0, l1, l2, l3, l4, some (.int x), l6, l7, l8] [.int x, s0] w 0 Q) ∧
  (∀ (d : Nat) (l0 l1 l2 l3 l4 l5 l6 l7 l8 : Option Value) (x y : Int32) (w : px_H) (Q : Option Value → px_H → Prop), wp d 58 34 [l0, l1, l2, l3, l4, l5, l6, l7, l8] [.int y, .int x] w 0 Q ↔ wp d 58 35 [l0, l1, l2, l3, l4, l5, l6, l7, l8] [.int (x >>> (y &&& 31))] w 0 Q) ∧
  (∀ (d : Nat) (l0 l1 l2 l3 l4 l5 l6 l7 l8 : Option Value) (s0 : Value)  (w : px_H) (Q : Option Value → px_H → Prop), wp d 58 35 [l0, l1, l2, l3, l4, l5, l6, l7, l8] [s0] w 0 Q ↔ wp d 58 36 [l0, l1, l2, l3, l4, l5, l6, l7, l8] [.int 1, s0] w 0 Q) ∧
  (∀ (d : Nat) (l0 l1 l2 l3 l4 l5 l6 l7 l8 : Option Value) (x y : Int32) (w : px_H) (Q : Option Value → px_H → Prop), wp d 58 36 [l0, l1, l2, l3, l4, l5, l6, l7, l8] [.int y, .int x] w 0 Q ↔ wp d 58 37 [l0, l1, l2, l3, l4, l5, l6, l7, l8] [.int (x &&& y)] w 0 Q) ∧
  (∀ (d : Nat) (l0 l1 l2 l3 l4 l5 l6 l7 l8 : Option Value) (s0 : Value)  (w : px_H) (Q : Option Value → px_H → Prop), wp d 58 37 [l0, l1, l2, l3, l4, l5, l6, l7, l8] [s0] w 0 Q ↔ wp d 58 38 [l0, l1, l2, l3, l4, l5, l6, l7, l8] [.int 1, s0] w 0 Q) ∧
  (∀ (d : Nat) (l0 l1 l2 l3 l4 l5 l6 l7 l8 : Option Value) (x y : Int32) (w : px_H) (Q : Option Value → px_H → Prop), wp d 58 38 [l0, l1, l2, l3, l4, l5, l6, l7, l8] [.int y, .int x] w 0 Q ↔ if x = y then wp d 58 41 [l0, l1, l2, l3, l4, l5, l6, l7, l8] [] w 0 Q else wp d 58 45 [l0, l1, l2, l3, l4, l5, l6, l7, l8] [] w 0 Q) ∧
  (∀ (d : Nat) (l0 l2 l3 l4 l5 l6 l7 l8 : Option Value) (x : Int32) (w : px_H) (Q : Option Value → px_H → Prop), wp d 58 41 [l0, some (.int x), l2, l3, l4, l5, l6, l7, l8] [] w 0 Q ↔ wp d 58 42 [l0, some (.int x), l2, l3, l4, l5, l6, l7, l8] [.int x] w 0 Q) ∧
  (∀ (d : Nat) (l0 l1 l2 l3 l4 l5 l6 l7 l8 : Option Value) (s0 : Value)  (w : px_H) (Q : Option Value → px_H → Prop), wp d 58 42 [l0, l1, l2, l3, l4, l5, l6, l7, l8] [s0] w 0 Q ↔ wp d 58 52 [l0, l1, l2, l3, l4, l5, l6, l7, l8] [s0] w 0 Q) ∧
  (∀ (d : Nat) (l1 l2 l3 l4 l5 l6 l7 l8 : Option Value) (a : Nat) (w : px_H) (Q : Option Value → px_H → Prop), wp d 58 45 [some (.ref a), l1, l2, l3, l4, l5, l6, l7, l8] [] w 0 Q ↔ wp d 58 46 [some (.ref a), l1, l2, l3, l4, l5, l6, l7, l8] [.ref a] w 0 Q) ∧
  (∀ (d : Nat) (l0 l1 l2 l3 l4 l5 l6 l7 l8 : Option Value) (a : Nat) (w : px_H) (Q : Option Value → px_H → Prop), wp d 58 46 [l0, l1, l2, l3, l4, l5, l6, l7, l8] [.ref a] w 0 Q ↔ px_op (px_fld w a [(5, 0)] 1) (fun v => wp d 58 49 [l0, l1, l2, l3, l4, l5, l6, l7, l8] [v] w 0 Q)) ∧
  (∀ (d : Nat) (l0 l1 l2 l3 l4 l6 l7 l8 : Option Value) (s0 : Value) (x : Int32) (w : px_H) (Q : Option Value → px_H → Prop), wp d 58 49 [l0, l1, l2, l3, l4, some (.int x), l6, l7, l8] [s0] w 0 Q ↔ wp d 58 51 [l0, l1, l2, l3, l4, some (.int x), l6, l7, l8] [.int x, s0] w 0 Q) ∧
  (∀ (d : Nat) (l0 l1 l2 l3 l4 l5 l6 l7 l8 : Option Value) (i : Int32) (a : Nat) (w : px_H) (Q : Option Value → px_H → Prop), wp d 58 51 [l0, l1, l2, l3, l4, l5, l6, l7, l8] [.int i, .ref a] w 0 Q ↔ px_op (px_ald w a i .int) (fun x => wp d 58 52 [l0, l1, l2, l3, l4, l5, l6, l7, l8] [.int x] w 0 Q)) ∧
  (∀ (d : Nat) (l0 l1 l2 l3 l4 l5 l6 l7 l8 : Option Value) (x : Int32) (w : px_H) (Q : Option Value → px_H → Prop), wp d 58 52 [l0, l1, l2, l3, l4, l5, l6, l7, l8] [.int x] w 0 Q ↔ wp d 58 54 [l0, l1, l2, l3, l4, l5, l6, some (.int x), l8] [] w 0 Q) ∧
  (∀ (d : Nat) (l0 l1 l2 l3 l4 l5 l6 l8 : Option Value) (x : Int32) (w : px_H) (Q : Option Value → px_H → Prop), wp d 58 54 [l0, l1, l2, l3, l4, l5, l6, some (.int x), l8] [] w 0 Q ↔ wp d 58 56 [l0, l1, l2, l3, l4, l5, l6, some (.int x), l8] [.int x] w 0 Q) ∧
  (∀ (d : Nat) (l0 l1 l2 l3 l4 l5 l6 l7 l8 : Option Value) (s0 : Value)  (w : px_H) (Q : Option Value → px_H → Prop), wp d 58 56 [l0, l1, l2, l3, l4, l5, l6, l7, l8] [s0] w 0 Q ↔ wp d 58 58 [l0, l1, l2, l3, l4, l5, l6, l7, l8] [.int (-1000000), s0] w 0 Q) ∧
  (∀ (d : Nat) (l0 l1 l2 l3 l4 l5 l6 l7 l8 : Option Value) (x y : Int32) (w : px_H) (Q : Option Value → px_H → Prop), wp d 58 58 [l0, l1, l2, l3, l4, l5, l6, l7, l8] [.int y, .int x] w 0 Q ↔ if x = y then wp d 58 79 [l0, l1, l2, l3, l4, l5, l6, l7, l8] [] w 0 Q else wp d 58 61 [l0, l1, l2, l3, l4, l5, l6, l7, l8] [] w 0 Q) ∧
  (∀ (d : Nat) (l0 l1 l2 l3 l4 l5 l6 l8 : Option Value) (x : Int32) (w : px_H) (Q : Option Value → px_H → Prop), wp d 58 61 [l0, l1, l2, l3, l4, l5, l6, some (.int x), l8] [] w 0 Q ↔ wp d 58 63 [l0, l1, l2, l3, l4, l5, l6, some (.int x), l8] [.int x] w 0 Q) ∧
  (∀ (d : Nat) (l0 l2 l3 l4 l5 l6 l7 l8 : Option Value) (s0 : Value) (x : Int32) (w : px_H) (Q : Option Value → px_H → Prop), wp d 58 63 [l0, some (.int x), l2, l3, l4, l5, l6, l7, l8] [s0] w 0 Q ↔ wp d 58 64 [l0, some (.int x), l2, l3, l4, l5, l6, l7, l8] [.int x, s0] w 0 Q) ∧
  (∀ (d : Nat) (l0 l1 l2 l3 l4 l5 l6 l7 l8 : Option Value) (x y : Int32) (w : px_H) (Q : Option Value → px_H → Prop), wp d 58 64 [l0, l1, l2, l3, l4, l5, l6, l7, l8] [.int y, .int x] w 0 Q ↔ if y < x then wp d 58 79 [l0, l1, l2, l3, l4, l5, l6, l7, l8] [] w 0 Q else wp d 58 67 [l0, l1, l2, l3, l4, l5, l6, l7, l8] [] w 0 Q) ∧
  (∀ (d : Nat) (l0 l2 l3 l4 l5 l6 l7 l8 : Option Value) (x : Int32) (w : px_H) (Q : Option Value → px_H → Prop), wp d 58 67 [l0, some (.int x), l2, l3, l4, l5, l6, l7, l8] [] w 0 Q ↔ wp d 58 68 [l0, some (.int x), l2, l3, l4, l5, l6, l7, l8] [.int x] w 0 Q) ∧
  (∀ (d : Nat) (l0 l1 l2 l3 l4 l5 l6 l8 : Option Value) (s0 : Value) (x : Int32) (w : px_H) (Q : Option Value → px_H → Prop), wp d 58 68 [l0, l1, l2, l3, l4, l5, l6, some (.int x), l8] [s0] w 0 Q ↔ wp d 58 70 [l0, l1, l2, l3, l4, l5, l6, some (.int x), l8] [.int x, s0] w 0 Q) ∧
  (∀ (d : Nat) (l0 l1 l3 l4 l5 l6 l7 l8 : Option Value) (s0 s1 : Value) (x : Int32) (w : px_H) (Q : Option Value → px_H → Prop), wp d 58 70 [l0, l1, some (.int x), l3, l4, l5, l6, l7, l8] [s0, s1] w 0 Q ↔ wp d 58 71 [l0, l1, some (.int x), l3, l4, l5, l6, l7, l8] [.int x, s0, s1] w 0 Q) ∧
  (∀ (d : Nat) (l0 l1 l2 l3 l4 l5 l6 l7 l8 : Option Value) (s2 : Value) (x y : Int32) (w : px_H) (Q : Option Value → px_H → Prop), wp d 58 71 [l0, l1, l2, l3, l4, l5, l6, l7, l8] [.int y, .int x, s2] w 0 Q ↔ wp d 58 72 [l0, l1, l2, l3, l4, l5, l6, l7, l8] [.int (x + y), s2] w 0 Q) ∧
  (∀ (d : Nat) (l0 l1 l2 l3 l4 l5 l6 l7 l8 : Option Value) (x y : Int32) (w : px_H) (Q : Option Value → px_H → Prop), wp d 58 72 [l0, l1, l2, l3, l4, l5, l6, l7, l8] [.int y, .int x] w 0 Q ↔ if y ≤ x then wp d 58 79 [l0, l1, l2, l3, l4, l5, l6, l7, l8] [] w 0 Q else wp d 58 75 [l0, l1, l2, l3, l4, l5, l6, l7, l8] [] w 0 Q) ∧
  (∀ (d : Nat) (l0 l1 l2 l3 l4 l5 l6 l7 l8 : Option Value)  (w : px_H) (Q : Option Value → px_H → Prop), wp d 58 75 [l0, l1, l2, l3, l4, l5, l6, l7, l8] [] w 0 Q ↔ wp d 58 76 [l0, l1, l2, l3, l4, l5, l6, l7, l8] [.int 1] w 0 Q) ∧
  (∀ (d : Nat) (l0 l1 l2 l3 l4 l5 l6 l7 l8 : Option Value) (s0 : Value)  (w : px_H) (Q : Option Value → px_H → Prop), wp d 58 76 [l0, l1, l2, l3, l4, l5, l6, l7, l8] [s0] w 0 Q ↔ wp d 58 80 [l0, l1, l2, l3, l4, l5, l6, l7, l8] [s0] w 0 Q) ∧
  (∀ (d : Nat) (l0 l1 l2 l3 l4 l5 l6 l7 l8 : Option Value)  (w : px_H) (Q : Option Value → px_H → Prop), wp d 58 79 [l0, l1, l2, l3, l4, l5, l6, l7, l8] [] w 0 Q ↔ wp d 58 80 [l0, l1, l2, l3, l4, l5, l6, l7, l8] [.int 0] w 0 Q) ∧
  (∀ (d : Nat) (l0 l1 l2 l3 l4 l5 l6 l7 l8 : Option Value) (x : Int32) (w : px_H) (Q : Option Value → px_H → Prop), wp d 58 80 [l0, l1, l2, l3, l4, l5, l6, l7, l8] [.int x] w 0 Q ↔ wp d 58 82 [l0, l1, l2, l3, l4, l5, l6, l7, some (.int x)] [] w 0 Q) ∧
  (∀ (d : Nat) (l0 l1 l2 l3 l4 l5 l6 l7 : Option Value) (x : Int32) (w : px_H) (Q : Option Value → px_H → Prop), wp d 58 82 [l0, l1, l2, l3, l4, l5, l6, l7, some (.int x)] [] w 0 Q ↔ wp d 58 84 [l0, l1, l2, l3, l4, l5, l6, l7, some (.int x)] [.int x] w 0 Q) ∧
  (∀ (d : Nat) (l0 l1 l2 l3 l4 l5 l6 l7 l8 : Option Value) (x : Int32) (w : px_H) (Q : Option Value → px_H → Prop), wp d 58 84 [l0, l1, l2, l3, l4, l5, l6, l7, l8] [.int x] w 0 Q ↔ if x = 0 then wp d 58 111 [l0, l1, l2, l3, l4, l5, l6, l7, l8] [] w 0 Q else wp d 58 87 [l0, l1, l2, l3, l4, l5, l6, l7, l8] [] w 0 Q) ∧
  (∀ (d : Nat) (l0 l1 l2 l3 l4 l5 l7 l8 : Option Value) (a : Nat) (w : px_H) (Q : Option Value → px_H → Prop), wp d 58 87 [l0, l1, l2, l3, l4, l5, some (.ref a), l7, l8] [] w 0 Q ↔ wp d 58 89 [l0, l1, l2, l3, l4, l5, some (.ref a), l7, l8] [.ref a] w 0 Q) ∧
  (∀ (d : Nat) (l0 l1 l2 l3 l4 l5 l7 l8 : Option Value)  (w : px_H) (Q : Option Value → px_H → Prop), wp d 58 87 [l0, l1, l2, l3, l4, l5, some .null, l7, l8] [] w 0 Q ↔ wp d 58 89 [l0, l1, l2, l3, l4, l5, some .null, l7, l8] [.null] w 0 Q) ∧
  (∀ (d : Nat) (l0 l1 l2 l3 l4 l5 l6 l7 l8 : Option Value)  (w : px_H) (Q : Option Value → px_H → Prop), wp d 58 89 [l0, l1, l2, l3, l4, l5, l6, l7, l8] [.null] w 0 Q ↔ wp d 58 111 [l0, l1, l2, l3, l4, l5, l6, l7, l8] [] w 0 Q) ∧
  (∀ (d : Nat) (l0 l1 l2 l3 l4 l5 l6 l7 l8 : Option Value) (a : Nat) (w : px_H) (Q : Option Value → px_H → Prop), wp d 58 89 [l0, l1, l2, l3, l4, l5, l6, l7, l8] [.ref a] w 0 Q ↔ wp d 58 92 [l0, l1, l2, l3, l4, l5, l6, l7, l8] [] w 0 Q) ∧
  (∀ (d : Nat) (l0 l1 l2 l3 l4 l5 l7 l8 : Option Value) (a : Nat) (w : px_H) (Q : Option Value → px_H → Prop), wp d 58 92 [l0, l1, l2, l3, l4, l5, some (.ref a), l7, l8] [] w 0 Q ↔ wp d 58 94 [l0, l1, l2, l3, l4, l5, some (.ref a), l7, l8] [.ref a] w 0 Q) ∧
  (∀ (d : Nat) (l0 l1 l2 l3 l4 l5 l7 l8 : Option Value)  (w : px_H) (Q : Option Value → px_H → Prop), wp d 58 92 [l0, l1, l2, l3, l4, l5, some .null, l7, l8] [] w 0 Q ↔ wp d 58 94 [l0, l1, l2, l3, l4, l5, some .null, l7, l8] [.null] w 0 Q) ∧
  (∀ (d : Nat) (l0 l1 l2 l3 l5 l6 l7 l8 : Option Value) (s0 : Value) (x : Int32) (w : px_H) (Q : Option Value → px_H → Prop), wp d 58 94 [l0, l1, l2, l3, some (.int x), l5, l6, l7, l8] [s0] w 0 Q ↔ wp d 58 96 [l0, l1, l2, l3, some (.int x), l5, l6, l7, l8] [.int x, s0] w 0 Q) ∧
  (∀ (d : Nat) (l0 l1 l2 l3 l4 l5 l6 l7 l8 : Option Value) (v0 : Value) (b : Nat) (w : px_H) (Q : Option Value → px_H → Prop), wp (d + 1) 58 96 [l0, l1, l2, l3, l4, l5, l6, l7, l8] [v0, .ref b] w 0 Q ↔ px_op (px_tgt w b [(0, 80), (1, 9), (3, 80), (8, 90), (9, 80)]) (fun v => wc d v [.ref b, v0] w (fun r w' => wp (d + 1) 58 99 [l0, l1, l2, l3, l4, l5, l6, l7, l8] (r.toList ++ []) w' 0 Q))) ∧
  (∀ (d : Nat) (l0 l1 l2 l3 l4 l5 l6 l7 l8 : Option Value) (x : Int32) (w : px_H) (Q : Option Value → px_H → Prop), wp d 58 99 [l0, l1, l2, l3, l4, l5, l6, l7, l8] [.int x] w 0 Q ↔ if x = 0 then wp d 58 111 [l0, l1, l2, l3, l4, l5, l6, l7, l8] [] w 0 Q else wp d 58 102 [l0, l1, l2, l3, l4, l5, l6, l7, l8] [] w 0 Q) ∧
  (∀ (d : Nat) (l0 l1 l2 l3 l5 l6 l7 l8 : Option Value) (x : Int32) (w : px_H) (Q : Option Value → px_H → Prop), wp d 58 102 [l0, l1, l2, l3, some (.int x), l5, l6, l7, l8] [] w 0 Q ↔ wp d 58 104 [l0, l1, l2, l3, some (.int x), l5, l6, l7, l8] [.int x] w 0 Q) ∧
  (∀ (d : Nat) (l0 l1 l2 l3 l4 l5 l6 l7 l8 : Option Value) (s0 : Value)  (w : px_H) (Q : Option Value → px_H → Prop), wp d 58 104 [l0, l1, l2, l3, l4, l5, l6, l7, l8] [s0] w 0 Q ↔ wp d 58 105 [l0, l1, l2, l3, l4, l5, l6, l7, l8] [.int 1, s0] w 0 Q) ∧
  (∀ (d : Nat) (l0 l1 l2 l3 l4 l6 l7 l8 : Option Value) (s0 s1 : Value) (x : Int32) (w : px_H) (Q : Option Value → px_H → Prop), wp d 58 105 [l0, l1, l2, l3, l4, some (.int x), l6, l7, l8] [s0, s1] w 0 Q ↔ wp d 58 107 [l0, l1, l2, l3, l4, some (.int x), l6, l7, l8] [.int x, s0, s1] w 0 Q) ∧
  (∀ (d : Nat) (l0 l1 l2 l3 l4 l5 l6 l7 l8 : Option Value) (s2 : Value) (x y : Int32) (w : px_H) (Q : Option Value → px_H → Prop), wp d 58 107 [l0, l1, l2, l3, l4, l5, l6, l7, l8] [.int y, .int x, s2] w 0 Q ↔ wp d 58 108 [l0, l1, l2, l3, l4, l5, l6, l7, l8] [.int (x <<< (y &&& 31)), s2] w 0 Q) ∧
  (∀ (d : Nat) (l0 l1 l2 l3 l4 l5 l6 l7 l8 : Option Value) (x y : Int32) (w : px_H) (Q : Option Value → px_H → Prop), wp d 58 108 [l0, l1, l2, l3, l4, l5, l6, l7, l8] [.int y, .int x] w 0 Q ↔ wp d 58 109 [l0, l1, l2, l3, l4, l5, l6, l7, l8] [.int (x ||| y)] w 0 Q) ∧
  (∀ (d : Nat) (l0 l1 l2 l3 l4 l5 l6 l7 l8 : Option Value) (x : Int32) (w : px_H) (Q : Option Value → px_H → Prop), wp d 58 109 [l0, l1, l2, l3, l4, l5, l6, l7, l8] [.int x] w 0 Q ↔ wp d 58 111 [l0, l1, l2, l3, some (.int x), l5, l6, l7, l8] [] w 0 Q) ∧
  (∀ (d : Nat) (l0 l1 l2 l3 l4 l6 l7 l8 : Option Value) (x : Int32) (w : px_H) (Q : Option Value → px_H → Prop), wp d 58 111 [l0, l1, l2, l3, l4, some (.int x), l6, l7, l8] [] w 0 Q ↔ wp d 58 114 [l0, l1, l2, l3, l4, some (.int (x + 1)), l6, l7, l8] [] w 0 Q) ∧
  (∀ (d : Nat) (l0 l1 l2 l3 l4 l5 l6 l7 l8 : Option Value)  (w : px_H) (Q : Option Value → px_H → Prop), wp d 58 114 [l0, l1, l2, l3, l4, l5, l6, l7, l8] [] w 0 Q ↔ wp d 58 6 [l0, l1, l2, l3, l4, l5, l6, l7, l8] [] w 0 Q) ∧
  (∀ (d : Nat) (l0 l1 l2 l3 l5 l6 l7 l8 : Option Value) (x : Int32) (w : px_H) (Q : Option Value → px_H → Prop), wp d 58 117 [l0, l1, l2, l3, some (.int x), l5, l6, l7, l8] [] w 0 Q ↔ wp d 58 119 [l0, l1, l2, l3, some (.int x), l5, l6, l7, l8] [.int x] w 0 Q) ∧
  (∀ (d : Nat) (l0 l1 l2 l3 l4 l5 l6 l7 l8 : Option Value) (x : Int32) (w : px_H) (Q : Option Value → px_H → Prop), wp d 58 119 [l0, l1, l2, l3, l4, l5, l6, l7, l8] [.int x] w 0 Q ↔ Q (some (.int x)) w) := ⟨fun d v0 v1 v2 v3 w Q => r_entry pt_58 (Nat.le_of_ble_eq_true rfl) rfl,
  fun d l0 l1 l2 l3 l4 l5 l6 l7 l8 w Q => r_iconst pt_58 rfl (by decide),
  fun d l0 l1 l2 l3 l4 l5 l6 l7 l8 x w Q => px_go (q := (.istore 4, 2, px_x0)) (S' := (3, [l0, l1, l2, l3, some (.int x), l5, l6, l7, l8], [], w, 0)) pt_58 rfl rfl,
  fun d l0 l1 l2 l3 l4 l5 l6 l7 l8 w Q => r_iconst pt_58 rfl (by decide),
  fun d l0 l1 l2 l3 l4 l5 l6 l7 l8 x w Q => px_go (q := (.istore 5, 2, px_x0)) (S' := (6, [l0, l1, l2, l3, l4, some (.int x), l6, l7, l8], [], w, 0)) pt_58 rfl rfl,
  fun d l1 l2 l3 l4 l5 l6 l7 l8 s0 a w Q => px_go (q := (.aload_n 0, 1, px_x0)) (S' := (9, [some (.ref a), l1, l2, l3, l4, l5, l6, l7, l8], [.ref a, s0], w, 0)) pt_58 rfl rfl,
  fun d l0 l1 l2 l3 l4 l5 l6 l7 l8 s1 a w Q => px_goO (q := (.getfield 31, 3, (10, 5, [(5, 0)], 0, "AllSworn$Realm"))) (S' := fun v => (12, [l0, l1, l2, l3, l4, l5, l6, l7, l8], [v, s1], w, 0)) pt_58 rfl rfl,
  fun d l0 l1 l2 l3 l4 l5 l6 l7 l8 x y w Q => r_icmp_ge pt_58 rfl rfl,
  fun d l0 l1 l2 l3 l4 l6 l7 l8 x w Q => px_go (q := (.iload 5, 2, px_x0)) (S' := (17, [l0, l1, l2, l3, l4, some (.int x), l6, l7, l8], [.int x], w, 0)) pt_58 rfl rfl,
  fun d l0 l1 l2 l3 l4 l5 l6 l7 l8 s0 w Q => r_bipush pt_58 rfl (by decide),
  fun d l0 l1 l2 l3 l4 l5 l6 l7 l8 x y w Q => r_icmp_ge pt_58 rfl rfl,
  fun d l1 l2 l3 l4 l5 l6 l7 l8 a w Q => px_go (q := (.aload_n 0, 1, px_x0)) (S' := (23, [some (.ref a), l1, l2, l3, l4, l5, l6, l7, l8], [.ref a], w, 0)) pt_58 rfl rfl,
  fun d l0 l1 l2 l3 l4 l5 l6 l7 l8 a w Q => px_goO (q := (.getfield 11, 3, (10, 0, [(5, 0)], 0, "AllSworn$Realm"))) (S' := fun v => (26, [l0, l1, l2, l3, l4, l5, l6, l7, l8], [v], w, 0)) pt_58 rfl rfl,
  fun d l0 l1 l2 l3 l4 l6 l7 l8 s0 x w Q => px_go (q := (.iload 5, 2, px_x0)) (S' := (28, [l0, l1, l2, l3, l4, some (.int x), l6, l7, l8], [.int x, s0], w, 0)) pt_58 rfl rfl,
  fun d l0 l1 l2 l3 l4 l5 l6 l7 l8 i a w Q => px_goO (q := (.aaload, 1, px_x0)) (S' := fun v => (29, [l0, l1, l2, l3, l4, l5, l6, l7, l8], [v], w, 0)) pt_58 rfl rfl,
  fun d l0 l1 l2 l3 l4 l5 l6 l7 l8 a w Q => px_go (q := (.astore 6, 2, px_x0)) (S' := (31, [l0, l1, l2, l3, l4, l5, some (.ref a), l7, l8], [], w, 0)) pt_58 rfl rfl,
  fun d l0 l1 l2 l3 l4 l5 l6 l7 l8 w Q => px_go (q := (.astore 6, 2, px_x0)) (S' := (31, [l0, l1, l2, l3, l4, l5, some .null, l7, l8], [], w, 0)) pt_58 rfl rfl,
  fun d l0 l1 l2 l4 l5 l6 l7 l8 x w Q => px_go (q := (.iload_n 3, 1, px_x0)) (S' := (32, [l0, l1, l2, some (.int x), l4, l5, l6, l7, l8], [.int x], w, 0)) pt_58 rfl rfl,
  fun d l0 l1 l2 l3 l4 l6 l7 l8 s0 x w Q => px_go (q := (.iload 5, 2, px_x0)) (S' := (34, [l0, l1, l2, l3, l4, some (.int x), l6, l7, l8], [.int x, s0], w, 0)) pt_58 rfl rfl,
  fun d l0 l1 l2 l3 l4 l5 l6 l7 l8 x y w Q => px_go (q := (.ishr, 1, px_x0)) (S' := (35, [l0, l1, l2, l3, l4, l5, l6, l7, l8], [.int (x >>> (y &&& 31))], w, 0)) pt_58 rfl rfl,
  fun d l0 l1 l2 l3 l4 l5 l6 l7 l8 s0 w Q => r_iconst pt_58 rfl (by decide),
  fun d l0 l1 l2 l3 l4 l5 l6 l7 l8 x y w Q => px_go (q := (.iand, 1, px_x0)) (S' := (37, [l0, l1, l2, l3, l4, l5, l6, l7, l8], [.int (x &&& y)], w, 0)) pt_58 rfl rfl,
  fun d l0 l1 l2 l3 l4 l5 l6 l7 l8 s0 w Q => r_iconst pt_58 rfl (by decide),
  fun d l0 l1 l2 l3 l4 l5 l6 l7 l8 x y w Q => r_icmp_ne pt_58 rfl rfl,
  fun d l0 l2 l3 l4 l5 l6 l7 l8 x w Q => px_go (q := (.iload_n 1, 1, px_x0)) (S' := (42, [l0, some (.int x), l2, l3, l4, l5, l6, l7, l8], [.int x], w, 0)) pt_58 rfl rfl,
  fun d l0 l1 l2 l3 l4 l5 l6 l7 l8 s0 w Q => r_goto pt_58 rfl rfl,
  fun d l1 l2 l3 l4 l5 l6 l7 l8 a w Q => px_go (q := (.aload_n 0, 1, px_x0)) (S' := (46, [some (.ref a), l1, l2, l3, l4, l5, l6, l7, l8], [.ref a], w, 0)) pt_58 rfl rfl,
  fun d l0 l1 l2 l3 l4 l5 l6 l7 l8 a w Q => px_goO (q := (.getfield 17, 3, (10, 1, [(5, 0)], 0, "AllSworn$Realm"))) (S' := fun v => (49, [l0, l1, l2, l3, l4, l5, l6, l7, l8], [v], w, 0)) pt_58 rfl rfl,
  fun d l0 l1 l2 l3 l4 l6 l7 l8 s0 x w Q => px_go (q := (.iload 5, 2, px_x0)) (S' := (51, [l0, l1, l2, l3, l4, some (.int x), l6, l7, l8], [.int x, s0], w, 0)) pt_58 rfl rfl,
  fun d l0 l1 l2 l3 l4 l5 l6 l7 l8 i a w Q => px_goO (q := (.iaload, 1, px_x0)) (S' := fun x => (52, [l0, l1, l2, l3, l4, l5, l6, l7, l8], [.int x], w, 0)) pt_58 rfl rfl,
  fun d l0 l1 l2 l3 l4 l5 l6 l7 l8 x w Q => px_go (q := (.istore 7, 2, px_x0)) (S' := (54, [l0, l1, l2, l3, l4, l5, l6, some (.int x), l8], [], w, 0)) pt_58 rfl rfl,
  fun d l0 l1 l2 l3 l4 l5 l6 l8 x w Q => px_go (q := (.iload 7, 2, px_x0)) (S' := (56, [l0, l1, l2, l3, l4, l5, l6, some (.int x), l8], [.int x], w, 0)) pt_58 rfl rfl,
  fun d l0 l1 l2 l3 l4 l5 l6 l7 l8 s0 w Q => px_go (q := (.ldc 46, 2, (0, 0, [], (-1000000), ""))) (S' := (58, [l0, l1, l2, l3, l4, l5, l6, l7, l8], [.int (-1000000), s0], w, 0)) pt_58 rfl rfl,
  fun d l0 l1 l2 l3 l4 l5 l6 l7 l8 x y w Q => r_icmp_eq pt_58 rfl rfl,
  fun d l0 l1 l2 l3 l4 l5 l6 l8 x w Q => px_go (q := (.iload 7, 2, px_x0)) (S' := (63, [l0, l1, l2, l3, l4, l5, l6, some (.int x), l8], [.int x], w, 0)) pt_58 rfl rfl,
  fun d l0 l2 l3 l4 l5 l6 l7 l8 s0 x w Q => px_go (q := (.iload_n 1, 1, px_x0)) (S' := (64, [l0, some (.int x), l2, l3, l4, l5, l6, l7, l8], [.int x, s0], w, 0)) pt_58 rfl rfl,
  fun d l0 l1 l2 l3 l4 l5 l6 l7 l8 x y w Q => r_icmp_gt pt_58 rfl rfl,
  fun d l0 l2 l3 l4 l5 l6 l7 l8 x w Q => px_go (q := (.iload_n 1, 1, px_x0)) (S' := (68, [l0, some (.int x), l2, l3, l4, l5, l6, l7, l8], [.int x], w, 0)) pt_58 rfl rfl,
  fun d l0 l1 l2 l3 l4 l5 l6 l8 s0 x w Q => px_go (q := (.iload 7, 2, px_x0)) (S' := (70, [l0, l1, l2, l3, l4, l5, l6, some (.int x), l8], [.int x, s0], w, 0)) pt_58 rfl rfl,
  fun d l0 l1 l3 l4 l5 l6 l7 l8 s0 s1 x w Q => px_go (q := (.iload_n 2, 1, px_x0)) (S' := (71, [l0, l1, some (.int x), l3, l4, l5, l6, l7, l8], [.int x, s0, s1], w, 0)) pt_58 rfl rfl,
  fun d l0 l1 l2 l3 l4 l5 l6 l7 l8 s2 x y w Q => px_go (q := (.iadd, 1, px_x0)) (S' := (72, [l0, l1, l2, l3, l4, l5, l6, l7, l8], [.int (x + y), s2], w, 0)) pt_58 rfl rfl,
  fun d l0 l1 l2 l3 l4 l5 l6 l7 l8 x y w Q => r_icmp_ge pt_58 rfl rfl,
  fun d l0 l1 l2 l3 l4 l5 l6 l7 l8 w Q => r_iconst pt_58 rfl (by decide),
  fun d l0 l1 l2 l3 l4 l5 l6 l7 l8 s0 w Q => r_goto pt_58 rfl rfl,
  fun d l0 l1 l2 l3 l4 l5 l6 l7 l8 w Q => r_iconst pt_58 rfl (by decide),
  fun d l0 l1 l2 l3 l4 l5 l6 l7 l8 x w Q => px_go (q := (.istore 8, 2, px_x0)) (S' := (82, [l0, l1, l2, l3, l4, l5, l6, l7, some (.int x)], [], w, 0)) pt_58 rfl rfl,
  fun d l0 l1 l2 l3 l4 l5 l6 l7 x w Q => px_go (q := (.iload 8, 2, px_x0)) (S' := (84, [l0, l1, l2, l3, l4, l5, l6, l7, some (.int x)], [.int x], w, 0)) pt_58 rfl rfl,
  fun d l0 l1 l2 l3 l4 l5 l6 l7 l8 x w Q => r_if_eq pt_58 rfl rfl,
  fun d l0 l1 l2 l3 l4 l5 l7 l8 a w Q => px_go (q := (.aload 6, 2, px_x0)) (S' := (89, [l0, l1, l2, l3, l4, l5, some (.ref a), l7, l8], [.ref a], w, 0)) pt_58 rfl rfl,
  fun d l0 l1 l2 l3 l4 l5 l7 l8 w Q => px_go (q := (.aload 6, 2, px_x0)) (S' := (89, [l0, l1, l2, l3, l4, l5, some .null, l7, l8], [.null], w, 0)) pt_58 rfl rfl,
  fun d l0 l1 l2 l3 l4 l5 l6 l7 l8 w Q => r_ifnullN pt_58 rfl rfl,
  fun d l0 l1 l2 l3 l4 l5 l6 l7 l8 a w Q => px_go (q := (.ifnull 22, 3, px_x0)) (S' := (92, [l0, l1, l2, l3, l4, l5, l6, l7, l8], [], w, 0)) pt_58 rfl rfl,
  fun d l0 l1 l2 l3 l4 l5 l7 l8 a w Q => px_go (q := (.aload 6, 2, px_x0)) (S' := (94, [l0, l1, l2, l3, l4, l5, some (.ref a), l7, l8], [.ref a], w, 0)) pt_58 rfl rfl,
  fun d l0 l1 l2 l3 l4 l5 l7 l8 w Q => px_go (q := (.aload 6, 2, px_x0)) (S' := (94, [l0, l1, l2, l3, l4, l5, some .null, l7, l8], [.null], w, 0)) pt_58 rfl rfl,
  fun d l0 l1 l2 l3 l5 l6 l7 l8 s0 x w Q => px_go (q := (.iload 4, 2, px_x0)) (S' := (96, [l0, l1, l2, l3, some (.int x), l5, l6, l7, l8], [.int x, s0], w, 0)) pt_58 rfl rfl,
  fun d l0 l1 l2 l3 l4 l5 l6 l7 l8 v0 b w Q => r_callV (q := (.invokevirtual 86, 3, (34, 1, [(0, 80), (1, 9), (3, 80), (8, 90), (9, 80)], 0, "AllSworn$Thing"))) pt_58 rfl rfl (List.forall_mem_cons.mpr ⟨⟨_, pt_80, Nat.le_of_ble_eq_true rfl, (Nat.le_of_ble_eq_true rfl), rfl⟩, List.forall_mem_cons.mpr ⟨⟨_, pt_9, Nat.le_of_ble_eq_true rfl, (Nat.le_of_ble_eq_true rfl), rfl⟩, List.forall_mem_cons.mpr ⟨⟨_, pt_80, Nat.le_of_ble_eq_true rfl, (Nat.le_of_ble_eq_true rfl), rfl⟩, List.forall_mem_cons.mpr ⟨⟨_, pt_90, Nat.le_of_ble_eq_true rfl, (Nat.le_of_ble_eq_true rfl), rfl⟩, List.forall_mem_cons.mpr ⟨⟨_, pt_80, Nat.le_of_ble_eq_true rfl, (Nat.le_of_ble_eq_true rfl), rfl⟩, fun _ h => absurd h List.not_mem_nil⟩⟩⟩⟩⟩),
  fun d l0 l1 l2 l3 l4 l5 l6 l7 l8 x w Q => r_if_eq pt_58 rfl rfl,
  fun d l0 l1 l2 l3 l5 l6 l7 l8 x w Q => px_go (q := (.iload 4, 2, px_x0)) (S' := (104, [l0, l1, l2, l3, some (.int x), l5, l6, l7, l8], [.int x], w, 0)) pt_58 rfl rfl,
  fun d l0 l1 l2 l3 l4 l5 l6 l7 l8 s0 w Q => r_iconst pt_58 rfl (by decide),
  fun d l0 l1 l2 l3 l4 l6 l7 l8 s0 s1 x w Q => px_go (q := (.iload 5, 2, px_x0)) (S' := (107, [l0, l1, l2, l3, l4, some (.int x), l6, l7, l8], [.int x, s0, s1], w, 0)) pt_58 rfl rfl,
  fun d l0 l1 l2 l3 l4 l5 l6 l7 l8 s2 x y w Q => px_go (q := (.ishl, 1, px_x0)) (S' := (108, [l0, l1, l2, l3, l4, l5, l6, l7, l8], [.int (x <<< (y &&& 31)), s2], w, 0)) pt_58 rfl rfl,
  fun d l0 l1 l2 l3 l4 l5 l6 l7 l8 x y w Q => px_go (q := (.ior, 1, px_x0)) (S' := (109, [l0, l1, l2, l3, l4, l5, l6, l7, l8], [.int (x ||| y)], w, 0)) pt_58 rfl rfl,
  fun d l0 l1 l2 l3 l4 l5 l6 l7 l8 x w Q => px_go (q := (.istore 4, 2, px_x0)) (S' := (111, [l0, l1, l2, l3, some (.int x), l5, l6, l7, l8], [], w, 0)) pt_58 rfl rfl,
  fun d l0 l1 l2 l3 l4 l6 l7 l8 x w Q => r_iinc pt_58 rfl rfl (by decide) rfl,
  fun d l0 l1 l2 l3 l4 l5 l6 l7 l8 w Q => r_goto pt_58 rfl rfl,
  fun d l0 l1 l2 l3 l5 l6 l7 l8 x w Q => px_go (q := (.iload 4, 2, px_x0)) (S' := (119, [l0, l1, l2, l3, some (.int x), l5, l6, l7, l8], [.int x], w, 0)) pt_58 rfl rfl,
  fun d l0 l1 l2 l3 l4 l5 l6 l7 l8 x w Q => px_ret (q := (.ireturn, 1, px_x0)) pt_58 rfl rfl⟩
theorem H58_6 : ∀ (d : Nat) (l0 l1 l2 l3 l4 l6 l7 l8 : Option Value) (x : Int32) (w : px_H) (Q : Option Value → px_H → Prop), wp d 58 6 [l0, l1, l2, l3, l4, some (.int x), l6, l7, l8] [] w 0 Q ↔ wp d 58 8 [l0, l1, l2, l3, l4, some (.int x), l6, l7, l8] [.int x] w 0 Q := fun d l0 l1 l2 l3 l4 l6 l7 l8 x w Q => px_go (q := (.iload 5, 2, px_x0)) (S' := (8, [l0, l1, l2, l3, l4, some (.int x), l6, l7, l8], [.int x], w, 0)) pt_58 rfl rfl
/-- AllSworn$Realm.openOn(I)I -/
theorem S59 : (∀ (d : Nat) (v0 v1 : Value) (w : px_H) (Q : Option Value → px_H → Prop), wc d 59 [v0, v1] w Q ↔ wp d 59 0 [some v0, some v1] [] w 0 Q) ∧
  (∀ (d : Nat) (l1 : Option Value) (a : Nat) (w : px_H) (Q : Option Value → px_H → Prop), wp d 59 0 [some (.ref a), l1] [] w 0 Q ↔ wp d 59 1 [some (.ref a), l1] [.ref a] w 0 Q) ∧
  (∀ (d : Nat) (l1 : Option Value) (s0 : Value) (a : Nat) (w : px_H) (Q : Option Value → px_H → Prop), wp d 59 1 [some (.ref a), l1] [s0] w 0 Q ↔ wp d 59 2 [some (.ref a), l1] [.ref a, s0] w 0 Q) ∧
  (∀ (d : Nat) (l0 : Option Value) (s0 s1 : Value) (x : Int32) (w : px_H) (Q : Option Value → px_H → Prop), wp d 59 2 [l0, some (.int x)] [s0, s1] w 0 Q ↔ wp d 59 3 [l0, some (.int x)] [.int x, s0, s1] w 0 Q) ∧
  (∀ (d : Nat) (l1 : Option Value) (s0 s1 s2 : Value) (a : Nat) (w : px_H) (Q : Option Value → px_H → Prop), wp d 59 3 [some (.ref a), l1] [s0, s1, s2] w 0 Q ↔ wp d 59 4 [some (.ref a), l1] [.ref a, s0, s1, s2] w 0 Q) ∧
  (∀ (d : Nat) (l0 l1 : Option Value) (s1 s2 s3 : Value) (a : Nat) (w : px_H) (Q : Option Value → px_H → Prop), wp d 59 4 [l0, l1] [.ref a, s1, s2, s3] w 0 Q ↔ px_op (px_fld w a [(5, 0)] 4) (fun v => wp d 59 7 [l0, l1] [v, s1, s2, s3] w 0 Q)) ∧
  (∀ (d : Nat) (l0 l1 : Option Value) (s0 s1 s2 s3 : Value)  (w : px_H) (Q : Option Value → px_H → Prop), wp d 59 7 [l0, l1] [s0, s1, s2, s3] w 0 Q ↔ wp d 59 8 [l0, l1] [.int 0, s0, s1, s2, s3] w 0 Q) ∧
  (∀ (d : Nat) (l0 l1 : Option Value) (s4 : Value) (v0 v1 v2 : Value) (b : Nat) (w : px_H) (Q : Option Value → px_H → Prop), wp (d + 1) 59 8 [l0, l1] [v2, v1, v0, .ref b, s4] w 0 Q ↔ px_op (px_tgt w b [(5, 58)]) (fun v => wc d v [.ref b, v0, v1, v2] w (fun r w' => wp (d + 1) 59 11 [l0, l1] (r.toList ++ [s4]) w' 0 Q))) ∧
  (∀ (d : Nat) (l0 l1 : Option Value) (v0 : Value) (b : Nat) (w : px_H) (Q : Option Value → px_H → Prop), wp (d + 1) 59 11 [l0, l1] [v0, .ref b] w 0 Q ↔ px_op (px_tgt w b [(5, 60)]) (fun v => wc d v [.ref b, v0] w (fun r w' => wp (d + 1) 59 14 [l0, l1] (r.toList ++ []) w' 0 Q))) ∧
  (∀ (d : Nat) (l0 l1 : Option Value) (x : Int32) (w : px_H) (Q : Option Value → px_H → Prop), wp d 59 14 [l0, l1] [.int x] w 0 Q ↔ Q (some (.int x)) w) := ⟨fun d v0 v1 w Q => r_entry pt_59 (Nat.le_of_ble_eq_true rfl) rfl,
  fun d l1 a w Q => px_go (q := (.aload_n 0, 1, px_x0)) (S' := (1, [some (.ref a), l1], [.ref a], w, 0)) pt_59 rfl rfl,
  fun d l1 s0 a w Q => px_go (q := (.aload_n 0, 1, px_x0)) (S' := (2, [some (.ref a), l1], [.ref a, s0], w, 0)) pt_59 rfl rfl,
  fun d l0 s0 s1 x w Q => px_go (q := (.iload_n 1, 1, px_x0)) (S' := (3, [l0, some (.int x)], [.int x, s0, s1], w, 0)) pt_59 rfl rfl,
  fun d l1 s0 s1 s2 a w Q => px_go (q := (.aload_n 0, 1, px_x0)) (S' := (4, [some (.ref a), l1], [.ref a, s0, s1, s2], w, 0)) pt_59 rfl rfl,
  fun d l0 l1 s1 s2 s3 a w Q => px_goO (q := (.getfield 27, 3, (10, 4, [(5, 0)], 0, "AllSworn$Realm"))) (S' := fun v => (7, [l0, l1], [v, s1, s2, s3], w, 0)) pt_59 rfl rfl,
  fun d l0 l1 s0 s1 s2 s3 w Q => r_iconst pt_59 rfl (by decide),
  fun d l0 l1 s4 v0 v1 v2 b w Q => r_callV (q := (.invokevirtual 82, 3, (33, 3, [(5, 58)], 0, ""))) pt_59 rfl rfl (List.forall_mem_cons.mpr ⟨⟨_, pt_58, Nat.le_of_ble_eq_true rfl, (Nat.le_of_ble_eq_true rfl), rfl⟩, fun _ h => absurd h List.not_mem_nil⟩),
  fun d l0 l1 v0 b w Q => r_callV (q := (.invokevirtual 89, 3, (33, 1, [(5, 60)], 0, ""))) pt_59 rfl rfl (List.forall_mem_cons.mpr ⟨⟨_, pt_60, Nat.le_of_ble_eq_true rfl, (Nat.le_of_ble_eq_true rfl), rfl⟩, fun _ h => absurd h List.not_mem_nil⟩),
  fun d l0 l1 x w Q => px_ret (q := (.ireturn, 1, px_x0)) pt_59 rfl rfl⟩
/-- AllSworn$Realm.openTo(I)I heads: [4] -/
theorem S60 : (∀ (d : Nat) (v0 v1 : Value) (w : px_H) (Q : Option Value → px_H → Prop), wc d 60 [v0, v1] w Q ↔ wp d 60 0 [some v0, some v1, none, none] [] w 0 Q) ∧
  (∀ (d : Nat) (l0 l1 l2 l3 : Option Value)  (w : px_H) (Q : Option Value → px_H → Prop), wp d 60 0 [l0, l1, l2, l3] [] w 0 Q ↔ wp d 60 1 [l0, l1, l2, l3] [.int 0] w 0 Q) ∧
  (∀ (d : Nat) (l0 l1 l2 l3 : Option Value) (x : Int32) (w : px_H) (Q : Option Value → px_H → Prop), wp d 60 1 [l0, l1, l2, l3] [.int x] w 0 Q ↔ wp d 60 2 [l0, l1, some (.int x), l3] [] w 0 Q) ∧
  (∀ (d : Nat) (l0 l1 l2 l3 : Option Value)  (w : px_H) (Q : Option Value → px_H → Prop), wp d 60 2 [l0, l1, l2, l3] [] w 0 Q ↔ wp d 60 3 [l0, l1, l2, l3] [.int 0] w 0 Q) ∧
  (∀ (d : Nat) (l0 l1 l2 l3 : Option Value) (x : Int32) (w : px_H) (Q : Option Value → px_H → Prop), wp d 60 3 [l0, l1, l2, l3] [.int x] w 0 Q ↔ wp d 60 4 [l0, l1, l2, some (.int x)] [] w 0 Q) ∧
  (∀ (d : Nat) (l1 l2 l3 : Option Value) (s0 : Value) (a : Nat) (w : px_H) (Q : Option Value → px_H → Prop), wp d 60 5 [some (.ref a), l1, l2, l3] [s0] w 0 Q ↔ wp d 60 6 [some (.ref a), l1, l2, l3] [.ref a, s0] w 0 Q) ∧
  (∀ (d : Nat) (l0 l1 l2 l3 : Option Value) (s1 : Value) (a : Nat) (w : px_H) (Q : Option Value → px_H → Prop), wp d 60 6 [l0, l1, l2, l3] [.ref a, s1] w 0 Q ↔ px_op (px_fld w a [(5, 0)] 6) (fun v => wp d 60 9 [l0, l1, l2, l3] [v, s1] w 0 Q)) ∧
  (∀ (d : Nat) (l0 l1 l2 l3 : Option Value) (x y : Int32) (w : px_H) (Q : Option Value → px_H → Prop), wp d 60 9 [l0, l1, l2, l3] [.int y, .int x] w 0 Q ↔ if y ≤ x then wp d 60 41 [l0, l1, l2, l3] [] w 0 Q else wp d 60 12 [l0, l1, l2, l3] [] w 0 Q) ∧
  (∀ (d : Nat) (l0 l1 l2 : Option Value) (x : Int32) (w : px_H) (Q : Option Value → px_H → Prop), wp d 60 12 [l0, l1, l2, some (.int x)] [] w 0 Q ↔ wp d 60 13 [l0, l1, l2, some (.int x)] [.int x] w 0 Q) ∧
  (∀ (d : Nat) (l0 l1 l2 l3 : Option Value) (s0 : Value)  (w : px_H) (Q : Option Value → px_H → Prop), wp d 60 13 [l0, l1, l2, l3] [s0] w 0 Q ↔ wp d 60 15 [l0, l1, l2, l3] [.int 8, s0] w 0 Q) ∧
  (∀ (d : Nat) (l0 l1 l2 l3 : Option Value) (x y : Int32) (w : px_H) (Q : Option Value → px_H → Prop), wp d 60 15 [l0, l1, l2, l3] [.int y, .int x] w 0 Q ↔ if y ≤ x then wp d 60 41 [l0, l1, l2, l3] [] w 0 Q else wp d 60 18 [l0, l1, l2, l3] [] w 0 Q) ∧
  (∀ (d : Nat) (l1 l2 l3 : Option Value) (a : Nat) (w : px_H) (Q : Option Value → px_H → Prop), wp d 60 18 [some (.ref a), l1, l2, l3] [] w 0 Q ↔ wp d 60 19 [some (.ref a), l1, l2, l3] [.ref a] w 0 Q) ∧
  (∀ (d : Nat) (l0 l1 l2 l3 : Option Value) (a : Nat) (w : px_H) (Q : Option Value → px_H → Prop), wp d 60 19 [l0, l1, l2, l3] [.ref a] w 0 Q ↔ px_op (px_fld w a [(5, 0)] 2) (fun v => wp d 60 22 [l0, l1, l2, l3] [v] w 0 Q)) ∧
  (∀ (d : Nat) (l0 l1 l2 : Option Value) (s0 : Value) (x : Int32) (w : px_H) (Q : Option Value → px_H → Prop), wp d 60 22 [l0, l1, l2, some (.int x)] [s0] w 0 Q ↔ wp d 60 23 [l0, l1, l2, some (.int x)] [.int x, s0] w 0 Q) ∧
  (∀ (d : Nat) (l0 l1 l2 l3 : Option Value) (i : Int32) (a : Nat) (w : px_H) (Q : Option Value → px_H → Prop), wp d 60 23 [l0, l1, l2, l3] [.int i, .ref a] w 0 Q ↔ px_op (px_ald w a i .int) (fun x => wp d 60 24 [l0, l1, l2, l3] [.int x] w 0 Q)) ∧
  (∀ (d : Nat) (l0 l2 l3 : Option Value) (s0 : Value) (x : Int32) (w : px_H) (Q : Option Value → px_H → Prop), wp d 60 24 [l0, some (.int x), l2, l3] [s0] w 0 Q ↔ wp d 60 25 [l0, some (.int x), l2, l3] [.int x, s0] w 0 Q) ∧
  (∀ (d : Nat) (l0 l1 l2 l3 : Option Value) (x y : Int32) (w : px_H) (Q : Option Value → px_H → Prop), wp d 60 25 [l0, l1, l2, l3] [.int y, .int x] w 0 Q ↔ wp d 60 26 [l0, l1, l2, l3] [.int (x &&& y)] w 0 Q) ∧
  (∀ (d : Nat) (l0 l1 l2 l3 : Option Value) (x : Int32) (w : px_H) (Q : Option Value → px_H → Prop), wp d 60 26 [l0, l1, l2, l3] [.int x] w 0 Q ↔ if x = 0 then wp d 60 29 [l0, l1, l2, l3] [] w 0 Q else wp d 60 35 [l0, l1, l2, l3] [] w 0 Q) ∧
  (∀ (d : Nat) (l0 l1 l3 : Option Value) (x : Int32) (w : px_H) (Q : Option Value → px_H → Prop), wp d 60 29 [l0, l1, some (.int x), l3] [] w 0 Q ↔ wp d 60 30 [l0, l1, some (.int x), l3] [.int x] w 0 Q) ∧
  (∀ (d : Nat) (l0 l1 l2 l3 : Option Value) (s0 : Value)  (w : px_H) (Q : Option Value → px_H → Prop), wp d 60 30 [l0, l1, l2, l3] [s0] w 0 Q ↔ wp d 60 31 [l0, l1, l2, l3] [.int 1, s0] w 0 Q) ∧
  (∀ (d : Nat) (l0 l1 l2 : Option Value) (s0 s1 : Value) (x : Int32) (w : px_H) (Q : Option Value → px_H → Prop), wp d 60 31 [l0, l1, l2, some (.int x)] [s0, s1] w 0 Q ↔ wp d 60 32 [l0, l1, l2, some (.int x)] [.int x, s0, s1] w 0 Q) ∧
  (∀ (d : Nat) (l0 l1 l2 l3 : Option Value) (s2 : Value) (x y : Int32) (w : px_H) (Q : Option Value → px_H → Prop), wp d 60 32 [l0, l1, l2, l3] [.int y, .int x, s2] w 0 Q ↔ wp d 60 33 [l0, l1, l2, l3] [.int (x <<< (y &&& 31)), s2] w 0 Q) ∧
  (∀ (d : Nat) (l0 l1 l2 l3 : Option Value) (x y : Int32) (w : px_H) (Q : Option Value → px_H → Prop), wp d 60 33 [l0, l1, l2, l3] [.int y, .int x] w 0 Q ↔ wp d 60 34 [l0, l1, l2, l3] [.int (x ||| y)] w 0 Q) ∧
  (∀ (d : Nat) (l0 l1 l2 l3 : Option Value) (x : Int32) (w : px_H) (Q : Option Value → px_H → Prop), wp d 60 34 [l0, l1, l2, l3] [.int x] w 0 Q ↔ wp d 60 35 [l0, l1, some (.int x), l3] [] w 0 Q) ∧
  (∀ (d : Nat) (l0 l1 l2 : Option Value) (x : Int32) (w : px_H) (Q : Option Value → px_H → Prop), wp d 60 35 [l0, l1, l2, some (.int x)] [] w 0 Q ↔ wp d 60 38 [l0, l1, l2, some (.int (x + 1))] [] w 0 Q) ∧
  (∀ (d : Nat) (l0 l1 l2 l3 : Option Value)  (w : px_H) (Q : Option Value → px_H → Prop), wp d 60 38 [l0, l1, l2, l3] [] w 0 Q ↔ wp d 60 4 [l0, l1, l2, l3] [] w 0 Q) ∧
  (∀ (d : Nat) (l0 l1 l3 : Option Value) (x : Int32) (w : px_H) (Q : Option Value → px_H → Prop), wp d 60 41 [l0, l1, some (.int x), l3] [] w 0 Q ↔ wp d 60 42 [l0, l1, some (.int x), l3] [.int x] w 0 Q) ∧
  (∀ (d : Nat) (l0 l1 l2 l3 : Option Value) (x : Int32) (w : px_H) (Q : Option Value → px_H → Prop), wp d 60 42 [l0, l1, l2, l3] [.int x] w 0 Q ↔ Q (some (.int x)) w) := ⟨fun d v0 v1 w Q => r_entry pt_60 (Nat.le_of_ble_eq_true rfl) rfl,
  fun d l0 l1 l2 l3 w Q => r_iconst pt_60 rfl (by decide),
  fun d l0 l1 l2 l3 x w Q => px_go (q := (.istore_n 2, 1, px_x0)) (S' := (2, [l0, l1, some (.int x), l3], [], w, 0)) pt_60 rfl rfl,
  fun d l0 l1 l2 l3 w Q => r_iconst pt_60 rfl (by decide),
  fun d l0 l1 l2 l3 x w Q => px_go (q := (.istore_n 3, 1, px_x0)) (S' := (4, [l0, l1, l2, some (.int x)], [], w, 0)) pt_60 rfl rfl,
  fun d l1 l2 l3 s0 a w Q => px_go (q := (.aload_n 0, 1, px_x0)) (S' := (6, [some (.ref a), l1, l2, l3], [.ref a, s0], w, 0)) pt_60 rfl rfl,
  fun d l0 l1 l2 l3 s1 a w Q => px_goO (q := (.getfield 34, 3, (10, 6, [(5, 0)], 0, "AllSworn$Realm"))) (S' := fun v => (9, [l0, l1, l2, l3], [v, s1], w, 0)) pt_60 rfl rfl,
  fun d l0 l1 l2 l3 x y w Q => r_icmp_ge pt_60 rfl rfl,
  fun d l0 l1 l2 x w Q => px_go (q := (.iload_n 3, 1, px_x0)) (S' := (13, [l0, l1, l2, some (.int x)], [.int x], w, 0)) pt_60 rfl rfl,
  fun d l0 l1 l2 l3 s0 w Q => r_bipush pt_60 rfl (by decide),
  fun d l0 l1 l2 l3 x y w Q => r_icmp_ge pt_60 rfl rfl,
  fun d l1 l2 l3 a w Q => px_go (q := (.aload_n 0, 1, px_x0)) (S' := (19, [some (.ref a), l1, l2, l3], [.ref a], w, 0)) pt_60 rfl rfl,
  fun d l0 l1 l2 l3 a w Q => px_goO (q := (.getfield 21, 3, (10, 2, [(5, 0)], 0, "AllSworn$Realm"))) (S' := fun v => (22, [l0, l1, l2, l3], [v], w, 0)) pt_60 rfl rfl,
  fun d l0 l1 l2 s0 x w Q => px_go (q := (.iload_n 3, 1, px_x0)) (S' := (23, [l0, l1, l2, some (.int x)], [.int x, s0], w, 0)) pt_60 rfl rfl,
  fun d l0 l1 l2 l3 i a w Q => px_goO (q := (.iaload, 1, px_x0)) (S' := fun x => (24, [l0, l1, l2, l3], [.int x], w, 0)) pt_60 rfl rfl,
  fun d l0 l2 l3 s0 x w Q => px_go (q := (.iload_n 1, 1, px_x0)) (S' := (25, [l0, some (.int x), l2, l3], [.int x, s0], w, 0)) pt_60 rfl rfl,
  fun d l0 l1 l2 l3 x y w Q => px_go (q := (.iand, 1, px_x0)) (S' := (26, [l0, l1, l2, l3], [.int (x &&& y)], w, 0)) pt_60 rfl rfl,
  fun d l0 l1 l2 l3 x w Q => r_if_ne pt_60 rfl rfl,
  fun d l0 l1 l3 x w Q => px_go (q := (.iload_n 2, 1, px_x0)) (S' := (30, [l0, l1, some (.int x), l3], [.int x], w, 0)) pt_60 rfl rfl,
  fun d l0 l1 l2 l3 s0 w Q => r_iconst pt_60 rfl (by decide),
  fun d l0 l1 l2 s0 s1 x w Q => px_go (q := (.iload_n 3, 1, px_x0)) (S' := (32, [l0, l1, l2, some (.int x)], [.int x, s0, s1], w, 0)) pt_60 rfl rfl,
  fun d l0 l1 l2 l3 s2 x y w Q => px_go (q := (.ishl, 1, px_x0)) (S' := (33, [l0, l1, l2, l3], [.int (x <<< (y &&& 31)), s2], w, 0)) pt_60 rfl rfl,
  fun d l0 l1 l2 l3 x y w Q => px_go (q := (.ior, 1, px_x0)) (S' := (34, [l0, l1, l2, l3], [.int (x ||| y)], w, 0)) pt_60 rfl rfl,
  fun d l0 l1 l2 l3 x w Q => px_go (q := (.istore_n 2, 1, px_x0)) (S' := (35, [l0, l1, some (.int x), l3], [], w, 0)) pt_60 rfl rfl,
  fun d l0 l1 l2 x w Q => r_iinc pt_60 rfl rfl (by decide) rfl,
  fun d l0 l1 l2 l3 w Q => r_goto pt_60 rfl rfl,
  fun d l0 l1 l3 x w Q => px_go (q := (.iload_n 2, 1, px_x0)) (S' := (42, [l0, l1, some (.int x), l3], [.int x], w, 0)) pt_60 rfl rfl,
  fun d l0 l1 l2 l3 x w Q => px_ret (q := (.ireturn, 1, px_x0)) pt_60 rfl rfl⟩
theorem H60_4 : ∀ (d : Nat) (l0 l1 l2 : Option Value) (x : Int32) (w : px_H) (Q : Option Value → px_H → Prop), wp d 60 4 [l0, l1, l2, some (.int x)] [] w 0 Q ↔ wp d 60 5 [l0, l1, l2, some (.int x)] [.int x] w 0 Q := fun d l0 l1 l2 x w Q => px_go (q := (.iload_n 3, 1, px_x0)) (S' := (5, [l0, l1, l2, some (.int x)], [.int x], w, 0)) pt_60 rfl rfl
/-- AllSworn$Realm.priceOf(I)I heads: [4] -/
theorem S61 : (∀ (d : Nat) (v0 v1 : Value) (w : px_H) (Q : Option Value → px_H → Prop), wc d 61 [v0, v1] w Q ↔ wp d 61 0 [some v0, some v1, none, none] [] w 0 Q) ∧
  (∀ (d : Nat) (l0 l1 l2 l3 : Option Value)  (w : px_H) (Q : Option Value → px_H → Prop), wp d 61 0 [l0, l1, l2, l3] [] w 0 Q ↔ wp d 61 1 [l0, l1, l2, l3] [.int 0] w 0 Q) ∧
  (∀ (d : Nat) (l0 l1 l2 l3 : Option Value) (x : Int32) (w : px_H) (Q : Option Value → px_H → Prop), wp d 61 1 [l0, l1, l2, l3] [.int x] w 0 Q ↔ wp d 61 2 [l0, l1, some (.int x), l3] [] w 0 Q) ∧
  (∀ (d : Nat) (l0 l1 l2 l3 : Option Value)  (w : px_H) (Q : Option Value → px_H → Prop), wp d 61 2 [l0, l1, l2, l3] [] w 0 Q ↔ wp d 61 3 [l0, l1, l2, l3] [.int 0] w 0 Q) ∧
  (∀ (d : Nat) (l0 l1 l2 l3 : Option Value) (x : Int32) (w : px_H) (Q : Option Value → px_H → Prop), wp d 61 3 [l0, l1, l2, l3] [.int x] w 0 Q ↔ wp d 61 4 [l0, l1, l2, some (.int x)] [] w 0 Q) ∧
  (∀ (d : Nat) (l1 l2 l3 : Option Value) (s0 : Value) (a : Nat) (w : px_H) (Q : Option Value → px_H → Prop), wp d 61 5 [some (.ref a), l1, l2, l3] [s0] w 0 Q ↔ wp d 61 6 [some (.ref a), l1, l2, l3] [.ref a, s0] w 0 Q) ∧
  (∀ (d : Nat) (l0 l1 l2 l3 : Option Value) (s1 : Value) (a : Nat) (w : px_H) (Q : Option Value → px_H → Prop), wp d 61 6 [l0, l1, l2, l3] [.ref a, s1] w 0 Q ↔ px_op (px_fld w a [(5, 0)] 5) (fun v => wp d 61 9 [l0, l1, l2, l3] [v, s1] w 0 Q)) ∧
  (∀ (d : Nat) (l0 l1 l2 l3 : Option Value) (x y : Int32) (w : px_H) (Q : Option Value → px_H → Prop), wp d 61 9 [l0, l1, l2, l3] [.int y, .int x] w 0 Q ↔ if y ≤ x then wp d 61 54 [l0, l1, l2, l3] [] w 0 Q else wp d 61 12 [l0, l1, l2, l3] [] w 0 Q) ∧
  (∀ (d : Nat) (l0 l1 l2 : Option Value) (x : Int32) (w : px_H) (Q : Option Value → px_H → Prop), wp d 61 12 [l0, l1, l2, some (.int x)] [] w 0 Q ↔ wp d 61 13 [l0, l1, l2, some (.int x)] [.int x] w 0 Q) ∧
  (∀ (d : Nat) (l0 l1 l2 l3 : Option Value) (s0 : Value)  (w : px_H) (Q : Option Value → px_H → Prop), wp d 61 13 [l0, l1, l2, l3] [s0] w 0 Q ↔ wp d 61 15 [l0, l1, l2, l3] [.int 8, s0] w 0 Q) ∧
  (∀ (d : Nat) (l0 l1 l2 l3 : Option Value) (x y : Int32) (w : px_H) (Q : Option Value → px_H → Prop), wp d 61 15 [l0, l1, l2, l3] [.int y, .int x] w 0 Q ↔ if y ≤ x then wp d 61 54 [l0, l1, l2, l3] [] w 0 Q else wp d 61 18 [l0, l1, l2, l3] [] w 0 Q) ∧
  (∀ (d : Nat) (l0 l2 l3 : Option Value) (x : Int32) (w : px_H) (Q : Option Value → px_H → Prop), wp d 61 18 [l0, some (.int x), l2, l3] [] w 0 Q ↔ wp d 61 19 [l0, some (.int x), l2, l3] [.int x] w 0 Q) ∧
  (∀ (d : Nat) (l0 l1 l2 : Option Value) (s0 : Value) (x : Int32) (w : px_H) (Q : Option Value → px_H → Prop), wp d 61 19 [l0, l1, l2, some (.int x)] [s0] w 0 Q ↔ wp d 61 20 [l0, l1, l2, some (.int x)] [.int x, s0] w 0 Q) ∧
  (∀ (d : Nat) (l0 l1 l2 l3 : Option Value) (x y : Int32) (w : px_H) (Q : Option Value → px_H → Prop), wp d 61 20 [l0, l1, l2, l3] [.int y, .int x] w 0 Q ↔ wp d 61 21 [l0, l1, l2, l3] [.int (x >>> (y &&& 31))] w 0 Q) ∧
  (∀ (d : Nat) (l0 l1 l2 l3 : Option Value) (s0 : Value)  (w : px_H) (Q : Option Value → px_H → Prop), wp d 61 21 [l0, l1, l2, l3] [s0] w 0 Q ↔ wp d 61 22 [l0, l1, l2, l3] [.int 1, s0] w 0 Q) ∧
  (∀ (d : Nat) (l0 l1 l2 l3 : Option Value) (x y : Int32) (w : px_H) (Q : Option Value → px_H → Prop), wp d 61 22 [l0, l1, l2, l3] [.int y, .int x] w 0 Q ↔ wp d 61 23 [l0, l1, l2, l3] [.int (x &&& y)] w 0 Q) ∧
  (∀ (d : Nat) (l0 l1 l2 l3 : Option Value) (s0 : Value)  (w : px_H) (Q : Option Value → px_H → Prop), wp d 61 23 [l0, l1, l2, l3] [s0] w 0 Q ↔ wp d 61 24 [l0, l1, l2, l3] [.int 1, s0] w 0 Q) ∧
  (∀ (d : Nat) (l0 l1 l2 l3 : Option Value) (x y : Int32) (w : px_H) (Q : Option Value → px_H → Prop), wp d 61 24 [l0, l1, l2, l3] [.int y, .int x] w 0 Q ↔ if x = y then wp d 61 27 [l0, l1, l2, l3] [] w 0 Q else wp d 61 48 [l0, l1, l2, l3] [] w 0 Q) ∧
  (∀ (d : Nat) (l1 l2 l3 : Option Value) (a : Nat) (w : px_H) (Q : Option Value → px_H → Prop), wp d 61 27 [some (.ref a), l1, l2, l3] [] w 0 Q ↔ wp d 61 28 [some (.ref a), l1, l2, l3] [.ref a] w 0 Q) ∧
  (∀ (d : Nat) (l0 l1 l2 l3 : Option Value) (a : Nat) (w : px_H) (Q : Option Value → px_H → Prop), wp d 61 28 [l0, l1, l2, l3] [.ref a] w 0 Q ↔ px_op (px_fld w a [(5, 0)] 0) (fun v => wp d 61 31 [l0, l1, l2, l3] [v] w 0 Q)) ∧
  (∀ (d : Nat) (l0 l1 l2 : Option Value) (s0 : Value) (x : Int32) (w : px_H) (Q : Option Value → px_H → Prop), wp d 61 31 [l0, l1, l2, some (.int x)] [s0] w 0 Q ↔ wp d 61 32 [l0, l1, l2, some (.int x)] [.int x, s0] w 0 Q) ∧
  (∀ (d : Nat) (l0 l1 l2 l3 : Option Value) (i : Int32) (a : Nat) (w : px_H) (Q : Option Value → px_H → Prop), wp d 61 32 [l0, l1, l2, l3] [.int i, .ref a] w 0 Q ↔ px_op (px_rld w a i) (fun v => wp d 61 33 [l0, l1, l2, l3] [v] w 0 Q)) ∧
  (∀ (d : Nat) (l0 l1 l2 l3 : Option Value)  (w : px_H) (Q : Option Value → px_H → Prop), wp d 61 33 [l0, l1, l2, l3] [.null] w 0 Q ↔ wp d 61 48 [l0, l1, l2, l3] [] w 0 Q) ∧
  (∀ (d : Nat) (l0 l1 l2 l3 : Option Value) (a : Nat) (w : px_H) (Q : Option Value → px_H → Prop), wp d 61 33 [l0, l1, l2, l3] [.ref a] w 0 Q ↔ wp d 61 36 [l0, l1, l2, l3] [] w 0 Q) ∧
  (∀ (d : Nat) (l0 l1 l3 : Option Value) (x : Int32) (w : px_H) (Q : Option Value → px_H → Prop), wp d 61 36 [l0, l1, some (.int x), l3] [] w 0 Q ↔ wp d 61 37 [l0, l1, some (.int x), l3] [.int x] w 0 Q) ∧
  (∀ (d : Nat) (l1 l2 l3 : Option Value) (s0 : Value) (a : Nat) (w : px_H) (Q : Option Value → px_H → Prop), wp d 61 37 [some (.ref a), l1, l2, l3] [s0] w 0 Q ↔ wp d 61 38 [some (.ref a), l1, l2, l3] [.ref a, s0] w 0 Q) ∧
  (∀ (d : Nat) (l0 l1 l2 l3 : Option Value) (s1 : Value) (a : Nat) (w : px_H) (Q : Option Value → px_H → Prop), wp d 61 38 [l0, l1, l2, l3] [.ref a, s1] w 0 Q ↔ px_op (px_fld w a [(5, 0)] 0) (fun v => wp d 61 41 [l0, l1, l2, l3] [v, s1] w 0 Q)) ∧
  (∀ (d : Nat) (l0 l1 l2 : Option Value) (s0 s1 : Value) (x : Int32) (w : px_H) (Q : Option Value → px_H → Prop), wp d 61 41 [l0, l1, l2, some (.int x)] [s0, s1] w 0 Q ↔ wp d 61 42 [l0, l1, l2, some (.int x)] [.int x, s0, s1] w 0 Q) ∧
  (∀ (d : Nat) (l0 l1 l2 l3 : Option Value) (s2 : Value) (i : Int32) (a : Nat) (w : px_H) (Q : Option Value → px_H → Prop), wp d 61 42 [l0, l1, l2, l3] [.int i, .ref a, s2] w 0 Q ↔ px_op (px_rld w a i) (fun v => wp d 61 43 [l0, l1, l2, l3] [v, s2] w 0 Q)) ∧
  (∀ (d : Nat) (l0 l1 l2 l3 : Option Value) (s1 : Value) (a : Nat) (w : px_H) (Q : Option Value → px_H → Prop), wp d 61 43 [l0, l1, l2, l3] [.ref a, s1] w 0 Q ↔ px_op (px_fld w a [(0, 0), (1, 0), (3, 0), (8, 0), (9, 0)] 2) (fun v => wp d 61 46 [l0, l1, l2, l3] [v, s1] w 0 Q)) ∧
  (∀ (d : Nat) (l0 l1 l2 l3 : Option Value) (x y : Int32) (w : px_H) (Q : Option Value → px_H → Prop), wp d 61 46 [l0, l1, l2, l3] [.int y, .int x] w 0 Q ↔ wp d 61 47 [l0, l1, l2, l3] [.int (x + y)] w 0 Q) ∧
  (∀ (d : Nat) (l0 l1 l2 l3 : Option Value) (x : Int32) (w : px_H) (Q : Option Value → px_H → Prop), wp d 61 47 [l0, l1, l2, l3] [.int x] w 0 Q ↔ wp d 61 48 [l0, l1, some (.int x), l3] [] w 0 Q) ∧
  (∀ (d : Nat) (l0 l1 l2 : Option Value) (x : Int32) (w : px_H) (Q : Option Value → px_H → Prop), wp d 61 48 [l0, l1, l2, some (.int x)] [] w 0 Q ↔ wp d 61 51 [l0, l1, l2, some (.int (x + 1))] [] w 0 Q) ∧
  (∀ (d : Nat) (l0 l1 l2 l3 : Option Value)  (w : px_H) (Q : Option Value → px_H → Prop), wp d 61 51 [l0, l1, l2, l3] [] w 0 Q ↔ wp d 61 4 [l0, l1, l2, l3] [] w 0 Q) ∧
  (∀ (d : Nat) (l0 l1 l3 : Option Value) (x : Int32) (w : px_H) (Q : Option Value → px_H → Prop), wp d 61 54 [l0, l1, some (.int x), l3] [] w 0 Q ↔ wp d 61 55 [l0, l1, some (.int x), l3] [.int x] w 0 Q) ∧
  (∀ (d : Nat) (l0 l1 l2 l3 : Option Value) (x : Int32) (w : px_H) (Q : Option Value → px_H → Prop), wp d 61 55 [l0, l1, l2, l3] [.int x] w 0 Q ↔ Q (some (.int x)) w) := ⟨fun d v0 v1 w Q => r_entry pt_61 (Nat.le_of_ble_eq_true rfl) rfl,
  fun d l0 l1 l2 l3 w Q => r_iconst pt_61 rfl (by decide),
  fun d l0 l1 l2 l3 x w Q => px_go (q := (.istore_n 2, 1, px_x0)) (S' := (2, [l0, l1, some (.int x), l3], [], w, 0)) pt_61 rfl rfl,
  fun d l0 l1 l2 l3 w Q => r_iconst pt_61 rfl (by decide),
  fun d l0 l1 l2 l3 x w Q => px_go (q := (.istore_n 3, 1, px_x0)) (S' := (4, [l0, l1, l2, some (.int x)], [], w, 0)) pt_61 rfl rfl,
  fun d l1 l2 l3 s0 a w Q => px_go (q := (.aload_n 0, 1, px_x0)) (S' := (6, [some (.ref a), l1, l2, l3], [.ref a, s0], w, 0)) pt_61 rfl rfl,
  fun d l0 l1 l2 l3 s1 a w Q => px_goO (q := (.getfield 31, 3, (10, 5, [(5, 0)], 0, "AllSworn$Realm"))) (S' := fun v => (9, [l0, l1, l2, l3], [v, s1], w, 0)) pt_61 rfl rfl,
  fun d l0 l1 l2 l3 x y w Q => r_icmp_ge pt_61 rfl rfl,
  fun d l0 l1 l2 x w Q => px_go (q := (.iload_n 3, 1, px_x0)) (S' := (13, [l0, l1, l2, some (.int x)], [.int x], w, 0)) pt_61 rfl rfl,
  fun d l0 l1 l2 l3 s0 w Q => r_bipush pt_61 rfl (by decide),
  fun d l0 l1 l2 l3 x y w Q => r_icmp_ge pt_61 rfl rfl,
  fun d l0 l2 l3 x w Q => px_go (q := (.iload_n 1, 1, px_x0)) (S' := (19, [l0, some (.int x), l2, l3], [.int x], w, 0)) pt_61 rfl rfl,
  fun d l0 l1 l2 s0 x w Q => px_go (q := (.iload_n 3, 1, px_x0)) (S' := (20, [l0, l1, l2, some (.int x)], [.int x, s0], w, 0)) pt_61 rfl rfl,
  fun d l0 l1 l2 l3 x y w Q => px_go (q := (.ishr, 1, px_x0)) (S' := (21, [l0, l1, l2, l3], [.int (x >>> (y &&& 31))], w, 0)) pt_61 rfl rfl,
  fun d l0 l1 l2 l3 s0 w Q => r_iconst pt_61 rfl (by decide),
  fun d l0 l1 l2 l3 x y w Q => px_go (q := (.iand, 1, px_x0)) (S' := (23, [l0, l1, l2, l3], [.int (x &&& y)], w, 0)) pt_61 rfl rfl,
  fun d l0 l1 l2 l3 s0 w Q => r_iconst pt_61 rfl (by decide),
  fun d l0 l1 l2 l3 x y w Q => r_icmp_ne pt_61 rfl rfl,
  fun d l1 l2 l3 a w Q => px_go (q := (.aload_n 0, 1, px_x0)) (S' := (28, [some (.ref a), l1, l2, l3], [.ref a], w, 0)) pt_61 rfl rfl,
  fun d l0 l1 l2 l3 a w Q => px_goO (q := (.getfield 11, 3, (10, 0, [(5, 0)], 0, "AllSworn$Realm"))) (S' := fun v => (31, [l0, l1, l2, l3], [v], w, 0)) pt_61 rfl rfl,
  fun d l0 l1 l2 s0 x w Q => px_go (q := (.iload_n 3, 1, px_x0)) (S' := (32, [l0, l1, l2, some (.int x)], [.int x, s0], w, 0)) pt_61 rfl rfl,
  fun d l0 l1 l2 l3 i a w Q => px_goO (q := (.aaload, 1, px_x0)) (S' := fun v => (33, [l0, l1, l2, l3], [v], w, 0)) pt_61 rfl rfl,
  fun d l0 l1 l2 l3 w Q => r_ifnullN pt_61 rfl rfl,
  fun d l0 l1 l2 l3 a w Q => px_go (q := (.ifnull 15, 3, px_x0)) (S' := (36, [l0, l1, l2, l3], [], w, 0)) pt_61 rfl rfl,
  fun d l0 l1 l3 x w Q => px_go (q := (.iload_n 2, 1, px_x0)) (S' := (37, [l0, l1, some (.int x), l3], [.int x], w, 0)) pt_61 rfl rfl,
  fun d l1 l2 l3 s0 a w Q => px_go (q := (.aload_n 0, 1, px_x0)) (S' := (38, [some (.ref a), l1, l2, l3], [.ref a, s0], w, 0)) pt_61 rfl rfl,
  fun d l0 l1 l2 l3 s1 a w Q => px_goO (q := (.getfield 11, 3, (10, 0, [(5, 0)], 0, "AllSworn$Realm"))) (S' := fun v => (41, [l0, l1, l2, l3], [v, s1], w, 0)) pt_61 rfl rfl,
  fun d l0 l1 l2 s0 s1 x w Q => px_go (q := (.iload_n 3, 1, px_x0)) (S' := (42, [l0, l1, l2, some (.int x)], [.int x, s0, s1], w, 0)) pt_61 rfl rfl,
  fun d l0 l1 l2 l3 s2 i a w Q => px_goO (q := (.aaload, 1, px_x0)) (S' := fun v => (43, [l0, l1, l2, l3], [v, s2], w, 0)) pt_61 rfl rfl,
  fun d l0 l1 l2 l3 s1 a w Q => px_goO (q := (.getfield 92, 3, (10, 2, [(0, 0), (1, 0), (3, 0), (8, 0), (9, 0)], 0, "AllSworn$Thing"))) (S' := fun v => (46, [l0, l1, l2, l3], [v, s1], w, 0)) pt_61 rfl rfl,
  fun d l0 l1 l2 l3 x y w Q => px_go (q := (.iadd, 1, px_x0)) (S' := (47, [l0, l1, l2, l3], [.int (x + y)], w, 0)) pt_61 rfl rfl,
  fun d l0 l1 l2 l3 x w Q => px_go (q := (.istore_n 2, 1, px_x0)) (S' := (48, [l0, l1, some (.int x), l3], [], w, 0)) pt_61 rfl rfl,
  fun d l0 l1 l2 x w Q => r_iinc pt_61 rfl rfl (by decide) rfl,
  fun d l0 l1 l2 l3 w Q => r_goto pt_61 rfl rfl,
  fun d l0 l1 l3 x w Q => px_go (q := (.iload_n 2, 1, px_x0)) (S' := (55, [l0, l1, some (.int x), l3], [.int x], w, 0)) pt_61 rfl rfl,
  fun d l0 l1 l2 l3 x w Q => px_ret (q := (.ireturn, 1, px_x0)) pt_61 rfl rfl⟩
theorem H61_4 : ∀ (d : Nat) (l0 l1 l2 : Option Value) (x : Int32) (w : px_H) (Q : Option Value → px_H → Prop), wp d 61 4 [l0, l1, l2, some (.int x)] [] w 0 Q ↔ wp d 61 5 [l0, l1, l2, some (.int x)] [.int x] w 0 Q := fun d l0 l1 l2 x w Q => px_go (q := (.iload_n 3, 1, px_x0)) (S' := (5, [l0, l1, l2, some (.int x)], [.int x], w, 0)) pt_61 rfl rfl
/-- AllSworn$Realm.cheapestOn(I)I heads: [24] -/
theorem S62 : (∀ (d : Nat) (v0 v1 : Value) (w : px_H) (Q : Option Value → px_H → Prop), wc d 62 [v0, v1] w Q ↔ wp d 62 0 [some v0, some v1, none, none, none, none, none] [] w 0 Q) ∧
  (∀ (d : Nat) (l1 l2 l3 l4 l5 l6 : Option Value) (a : Nat) (w : px_H) (Q : Option Value → px_H → Prop), wp d 62 0 [some (.ref a), l1, l2, l3, l4, l5, l6] [] w 0 Q ↔ wp d 62 1 [some (.ref a), l1, l2, l3, l4, l5, l6] [.ref a] w 0 Q) ∧
  (∀ (d : Nat) (l1 l2 l3 l4 l5 l6 : Option Value) (s0 : Value) (a : Nat) (w : px_H) (Q : Option Value → px_H → Prop), wp d 62 1 [some (.ref a), l1, l2, l3, l4, l5, l6] [s0] w 0 Q ↔ wp d 62 2 [some (.ref a), l1, l2, l3, l4, l5, l6] [.ref a, s0] w 0 Q) ∧
  (∀ (d : Nat) (l0 l2 l3 l4 l5 l6 : Option Value) (s0 s1 : Value) (x : Int32) (w : px_H) (Q : Option Value → px_H → Prop), wp d 62 2 [l0, some (.int x), l2, l3, l4, l5, l6] [s0, s1] w 0 Q ↔ wp d 62 3 [l0, some (.int x), l2, l3, l4, l5, l6] [.int x, s0, s1] w 0 Q) ∧
  (∀ (d : Nat) (l1 l2 l3 l4 l5 l6 : Option Value) (s0 s1 s2 : Value) (a : Nat) (w : px_H) (Q : Option Value → px_H → Prop), wp d 62 3 [some (.ref a), l1, l2, l3, l4, l5, l6] [s0, s1, s2] w 0 Q ↔ wp d 62 4 [some (.ref a), l1, l2, l3, l4, l5, l6] [.ref a, s0, s1, s2] w 0 Q) ∧
  (∀ (d : Nat) (l0 l1 l2 l3 l4 l5 l6 : Option Value) (s1 s2 s3 : Value) (a : Nat) (w : px_H) (Q : Option Value → px_H → Prop), wp d 62 4 [l0, l1, l2, l3, l4, l5, l6] [.ref a, s1, s2, s3] w 0 Q ↔ px_op (px_fld w a [(5, 0)] 4) (fun v => wp d 62 7 [l0, l1, l2, l3, l4, l5, l6] [v, s1, s2, s3] w 0 Q)) ∧
  (∀ (d : Nat) (l0 l1 l2 l3 l4 l5 l6 : Option Value) (s0 s1 s2 s3 : Value)  (w : px_H) (Q : Option Value → px_H → Prop), wp d 62 7 [l0, l1, l2, l3, l4, l5, l6] [s0, s1, s2, s3] w 0 Q ↔ wp d 62 8 [l0, l1, l2, l3, l4, l5, l6] [.int 0, s0, s1, s2, s3] w 0 Q) ∧
  (∀ (d : Nat) (l0 l1 l2 l3 l4 l5 l6 : Option Value) (s4 : Value) (v0 v1 v2 : Value) (b : Nat) (w : px_H) (Q : Option Value → px_H → Prop), wp (d + 1) 62 8 [l0, l1, l2, l3, l4, l5, l6] [v2, v1, v0, .ref b, s4] w 0 Q ↔ px_op (px_tgt w b [(5, 58)]) (fun v => wc d v [.ref b, v0, v1, v2] w (fun r w' => wp (d + 1) 62 11 [l0, l1, l2, l3, l4, l5, l6] (r.toList ++ [s4]) w' 0 Q))) ∧
  (∀ (d : Nat) (l0 l1 l2 l3 l4 l5 l6 : Option Value) (v0 : Value) (b : Nat) (w : px_H) (Q : Option Value → px_H → Prop), wp (d + 1) 62 11 [l0, l1, l2, l3, l4, l5, l6] [v0, .ref b] w 0 Q ↔ px_op (px_tgt w b [(5, 60)]) (fun v => wc d v [.ref b, v0] w (fun r w' => wp (d + 1) 62 14 [l0, l1, l2, l3, l4, l5, l6] (r.toList ++ []) w' 0 Q))) ∧
  (∀ (d : Nat) (l0 l1 l2 l3 l4 l5 l6 : Option Value) (x : Int32) (w : px_H) (Q : Option Value → px_H → Prop), wp d 62 14 [l0, l1, l2, l3, l4, l5, l6] [.int x] w 0 Q ↔ wp d 62 15 [l0, l1, some (.int x), l3, l4, l5, l6] [] w 0 Q) ∧
  (∀ (d : Nat) (l0 l1 l2 l3 l4 l5 l6 : Option Value)  (w : px_H) (Q : Option Value → px_H → Prop), wp d 62 15 [l0, l1, l2, l3, l4, l5, l6] [] w 0 Q ↔ wp d 62 17 [l0, l1, l2, l3, l4, l5, l6] [.int (-1000000)] w 0 Q) ∧
  (∀ (d : Nat) (l0 l1 l2 l3 l4 l5 l6 : Option Value) (x : Int32) (w : px_H) (Q : Option Value → px_H → Prop), wp d 62 17 [l0, l1, l2, l3, l4, l5, l6] [.int x] w 0 Q ↔ wp d 62 18 [l0, l1, l2, some (.int x), l4, l5, l6] [] w 0 Q) ∧
  (∀ (d : Nat) (l0 l1 l2 l3 l4 l5 l6 : Option Value)  (w : px_H) (Q : Option Value → px_H → Prop), wp d 62 18 [l0, l1, l2, l3, l4, l5, l6] [] w 0 Q ↔ wp d 62 19 [l0, l1, l2, l3, l4, l5, l6] [.int 0] w 0 Q) ∧
  (∀ (d : Nat) (l0 l1 l2 l3 l4 l5 l6 : Option Value) (x : Int32) (w : px_H) (Q : Option Value → px_H → Prop), wp d 62 19 [l0, l1, l2, l3, l4, l5, l6] [.int x] w 0 Q ↔ wp d 62 21 [l0, l1, l2, l3, some (.int x), l5, l6] [] w 0 Q) ∧
  (∀ (d : Nat) (l0 l1 l2 l3 l4 l5 l6 : Option Value)  (w : px_H) (Q : Option Value → px_H → Prop), wp d 62 21 [l0, l1, l2, l3, l4, l5, l6] [] w 0 Q ↔ wp d 62 22 [l0, l1, l2, l3, l4, l5, l6] [.int 0] w 0 Q) ∧
  (∀ (d : Nat) (l0 l1 l2 l3 l4 l5 l6 : Option Value) (x : Int32) (w : px_H) (Q : Option Value → px_H → Prop), wp d 62 22 [l0, l1, l2, l3, l4, l5, l6] [.int x] w 0 Q ↔ wp d 62 24 [l0, l1, l2, l3, l4, some (.int x), l6] [] w 0 Q) ∧
  (∀ (d : Nat) (l1 l2 l3 l4 l5 l6 : Option Value) (s0 : Value) (a : Nat) (w : px_H) (Q : Option Value → px_H → Prop), wp d 62 26 [some (.ref a), l1, l2, l3, l4, l5, l6] [s0] w 0 Q ↔ wp d 62 27 [some (.ref a), l1, l2, l3, l4, l5, l6] [.ref a, s0] w 0 Q) ∧
  (∀ (d : Nat) (l0 l1 l2 l3 l4 l5 l6 : Option Value) (s1 : Value) (a : Nat) (w : px_H) (Q : Option Value → px_H → Prop), wp d 62 27 [l0, l1, l2, l3, l4, l5, l6] [.ref a, s1] w 0 Q ↔ px_op (px_fld w a [(5, 0)] 6) (fun v => wp d 62 30 [l0, l1, l2, l3, l4, l5, l6] [v, s1] w 0 Q)) ∧
  (∀ (d : Nat) (l0 l1 l2 l3 l4 l5 l6 : Option Value) (x y : Int32) (w : px_H) (Q : Option Value → px_H → Prop), wp d 62 30 [l0, l1, l2, l3, l4, l5, l6] [.int y, .int x] w 0 Q ↔ if y ≤ x then wp d 62 89 [l0, l1, l2, l3, l4, l5, l6] [] w 0 Q else wp d 62 33 [l0, l1, l2, l3, l4, l5, l6] [] w 0 Q) ∧
  (∀ (d : Nat) (l0 l1 l2 l3 l4 l6 : Option Value) (x : Int32) (w : px_H) (Q : Option Value → px_H → Prop), wp d 62 33 [l0, l1, l2, l3, l4, some (.int x), l6] [] w 0 Q ↔ wp d 62 35 [l0, l1, l2, l3, l4, some (.int x), l6] [.int x] w 0 Q) ∧
  (∀ (d : Nat) (l0 l1 l2 l3 l4 l5 l6 : Option Value) (s0 : Value)  (w : px_H) (Q : Option Value → px_H → Prop), wp d 62 35 [l0, l1, l2, l3, l4, l5, l6] [s0] w 0 Q ↔ wp d 62 37 [l0, l1, l2, l3, l4, l5, l6] [.int 8, s0] w 0 Q) ∧
  (∀ (d : Nat) (l0 l1 l2 l3 l4 l5 l6 : Option Value) (x y : Int32) (w : px_H) (Q : Option Value → px_H → Prop), wp d 62 37 [l0, l1, l2, l3, l4, l5, l6] [.int y, .int x] w 0 Q ↔ if y ≤ x then wp d 62 89 [l0, l1, l2, l3, l4, l5, l6] [] w 0 Q else wp d 62 40 [l0, l1, l2, l3, l4, l5, l6] [] w 0 Q) ∧
  (∀ (d : Nat) (l1 l2 l3 l4 l5 l6 : Option Value) (a : Nat) (w : px_H) (Q : Option Value → px_H → Prop), wp d 62 40 [some (.ref a), l1, l2, l3, l4, l5, l6] [] w 0 Q ↔ wp d 62 41 [some (.ref a), l1, l2, l3, l4, l5, l6] [.ref a] w 0 Q) ∧
  (∀ (d : Nat) (l1 l2 l3 l4 l5 l6 : Option Value) (s0 : Value) (a : Nat) (w : px_H) (Q : Option Value → px_H → Prop), wp d 62 41 [some (.ref a), l1, l2, l3, l4, l5, l6] [s0] w 0 Q ↔ wp d 62 42 [some (.ref a), l1, l2, l3, l4, l5, l6] [.ref a, s0] w 0 Q) ∧
  (∀ (d : Nat) (l0 l1 l2 l3 l4 l5 l6 : Option Value) (s1 : Value) (a : Nat) (w : px_H) (Q : Option Value → px_H → Prop), wp d 62 42 [l0, l1, l2, l3, l4, l5, l6] [.ref a, s1] w 0 Q ↔ px_op (px_fld w a [(5, 0)] 2) (fun v => wp d 62 45 [l0, l1, l2, l3, l4, l5, l6] [v, s1] w 0 Q)) ∧
  (∀ (d : Nat) (l0 l1 l2 l3 l4 l6 : Option Value) (s0 s1 : Value) (x : Int32) (w : px_H) (Q : Option Value → px_H → Prop), wp d 62 45 [l0, l1, l2, l3, l4, some (.int x), l6] [s0, s1] w 0 Q ↔ wp d 62 47 [l0, l1, l2, l3, l4, some (.int x), l6] [.int x, s0, s1] w 0 Q) ∧
  (∀ (d : Nat) (l0 l1 l2 l3 l4 l5 l6 : Option Value) (s2 : Value) (i : Int32) (a : Nat) (w : px_H) (Q : Option Value → px_H → Prop), wp d 62 47 [l0, l1, l2, l3, l4, l5, l6] [.int i, .ref a, s2] w 0 Q ↔ px_op (px_ald w a i .int) (fun x => wp d 62 48 [l0, l1, l2, l3, l4, l5, l6] [.int x, s2] w 0 Q)) ∧
  (∀ (d : Nat) (l0 l1 l2 l3 l4 l5 l6 : Option Value) (v0 : Value) (b : Nat) (w : px_H) (Q : Option Value → px_H → Prop), wp (d + 1) 62 48 [l0, l1, l2, l3, l4, l5, l6] [v0, .ref b] w 0 Q ↔ px_op (px_tgt w b [(5, 61)]) (fun v => wc d v [.ref b, v0] w (fun r w' => wp (d + 1) 62 51 [l0, l1, l2, l3, l4, l5, l6] (r.toList ++ []) w' 0 Q))) ∧
  (∀ (d : Nat) (l0 l1 l2 l3 l4 l5 l6 : Option Value) (x : Int32) (w : px_H) (Q : Option Value → px_H → Prop), wp d 62 51 [l0, l1, l2, l3, l4, l5, l6] [.int x] w 0 Q ↔ wp d 62 53 [l0, l1, l2, l3, l4, l5, some (.int x)] [] w 0 Q) ∧
  (∀ (d : Nat) (l0 l1 l3 l4 l5 l6 : Option Value) (x : Int32) (w : px_H) (Q : Option Value → px_H → Prop), wp d 62 53 [l0, l1, some (.int x), l3, l4, l5, l6] [] w 0 Q ↔ wp d 62 54 [l0, l1, some (.int x), l3, l4, l5, l6] [.int x] w 0 Q) ∧
  (∀ (d : Nat) (l0 l1 l2 l3 l4 l6 : Option Value) (s0 : Value) (x : Int32) (w : px_H) (Q : Option Value → px_H → Prop), wp d 62 54 [l0, l1, l2, l3, l4, some (.int x), l6] [s0] w 0 Q ↔ wp d 62 56 [l0, l1, l2, l3, l4, some (.int x), l6] [.int x, s0] w 0 Q) ∧
  (∀ (d : Nat) (l0 l1 l2 l3 l4 l5 l6 : Option Value) (x y : Int32) (w : px_H) (Q : Option Value → px_H → Prop), wp d 62 56 [l0, l1, l2, l3, l4, l5, l6] [.int y, .int x] w 0 Q ↔ wp d 62 57 [l0, l1, l2, l3, l4, l5, l6] [.int (x >>> (y &&& 31))] w 0 Q) ∧
  (∀ (d : Nat) (l0 l1 l2 l3 l4 l5 l6 : Option Value) (s0 : Value)  (w : px_H) (Q : Option Value → px_H → Prop), wp d 62 57 [l0, l1, l2, l3, l4, l5, l6] [s0] w 0 Q ↔ wp d 62 58 [l0, l1, l2, l3, l4, l5, l6] [.int 1, s0] w 0 Q) ∧
  (∀ (d : Nat) (l0 l1 l2 l3 l4 l5 l6 : Option Value) (x y : Int32) (w : px_H) (Q : Option Value → px_H → Prop), wp d 62 58 [l0, l1, l2, l3, l4, l5, l6] [.int y, .int x] w 0 Q ↔ wp d 62 59 [l0, l1, l2, l3, l4, l5, l6] [.int (x &&& y)] w 0 Q) ∧
  (∀ (d : Nat) (l0 l1 l2 l3 l4 l5 l6 : Option Value) (s0 : Value)  (w : px_H) (Q : Option Value → px_H → Prop), wp d 62 59 [l0, l1, l2, l3, l4, l5, l6] [s0] w 0 Q ↔ wp d 62 60 [l0, l1, l2, l3, l4, l5, l6] [.int 1, s0] w 0 Q) ∧
  (∀ (d : Nat) (l0 l1 l2 l3 l4 l5 l6 : Option Value) (x y : Int32) (w : px_H) (Q : Option Value → px_H → Prop), wp d 62 60 [l0, l1, l2, l3, l4, l5, l6] [.int y, .int x] w 0 Q ↔ if x = y then wp d 62 63 [l0, l1, l2, l3, l4, l5, l6] [] w 0 Q else wp d 62 83 [l0, l1, l2, l3, l4, l5, l6] [] w 0 Q) ∧
  (∀ (d : Nat) (l0 l1 l2 l4 l5 l6 : Option Value) (x : Int32) (w : px_H) (Q : Option Value → px_H → Prop), wp d 62 63 [l0, l1, l2, some (.int x), l4, l5, l6] [] w 0 Q ↔ wp d 62 64 [l0, l1, l2, some (.int x), l4, l5, l6] [.int x] w 0 Q) ∧
  (∀ (d : Nat) (l0 l1 l2 l3 l4 l5 l6 : Option Value) (s0 : Value)  (w : px_H) (Q : Option Value → px_H → Prop), wp d 62 64 [l0, l1, l2, l3, l4, l5, l6] [s0] w 0 Q ↔ wp d 62 66 [l0, l1, l2, l3, l4, l5, l6] [.int (-1000000), s0] w 0 Q) ∧
  (∀ (d : Nat) (l0 l1 l2 l3 l4 l5 l6 : Option Value) (x y : Int32) (w : px_H) (Q : Option Value → px_H → Prop), wp d 62 66 [l0, l1, l2, l3, l4, l5, l6] [.int y, .int x] w 0 Q ↔ if x = y then wp d 62 76 [l0, l1, l2, l3, l4, l5, l6] [] w 0 Q else wp d 62 69 [l0, l1, l2, l3, l4, l5, l6] [] w 0 Q) ∧
  (∀ (d : Nat) (l0 l1 l2 l3 l4 l5 : Option Value) (x : Int32) (w : px_H) (Q : Option Value → px_H → Prop), wp d 62 69 [l0, l1, l2, l3, l4, l5, some (.int x)] [] w 0 Q ↔ wp d 62 71 [l0, l1, l2, l3, l4, l5, some (.int x)] [.int x] w 0 Q) ∧
  (∀ (d : Nat) (l0 l1 l2 l3 l5 l6 : Option Value) (s0 : Value) (x : Int32) (w : px_H) (Q : Option Value → px_H → Prop), wp d 62 71 [l0, l1, l2, l3, some (.int x), l5, l6] [s0] w 0 Q ↔ wp d 62 73 [l0, l1, l2, l3, some (.int x), l5, l6] [.int x, s0] w 0 Q) ∧
  (∀ (d : Nat) (l0 l1 l2 l3 l4 l5 l6 : Option Value) (x y : Int32) (w : px_H) (Q : Option Value → px_H → Prop), wp d 62 73 [l0, l1, l2, l3, l4, l5, l6] [.int y, .int x] w 0 Q ↔ if y ≤ x then wp d 62 83 [l0, l1, l2, l3, l4, l5, l6] [] w 0 Q else wp d 62 76 [l0, l1, l2, l3, l4, l5, l6] [] w 0 Q) ∧
  (∀ (d : Nat) (l0 l1 l2 l3 l4 l6 : Option Value) (x : Int32) (w : px_H) (Q : Option Value → px_H → Prop), wp d 62 76 [l0, l1, l2, l3, l4, some (.int x), l6] [] w 0 Q ↔ wp d 62 78 [l0, l1, l2, l3, l4, some (.int x), l6] [.int x] w 0 Q) ∧
  (∀ (d : Nat) (l0 l1 l2 l3 l4 l5 l6 : Option Value) (x : Int32) (w : px_H) (Q : Option Value → px_H → Prop), wp d 62 78 [l0, l1, l2, l3, l4, l5, l6] [.int x] w 0 Q ↔ wp d 62 79 [l0, l1, l2, some (.int x), l4, l5, l6] [] w 0 Q) ∧
  (∀ (d : Nat) (l0 l1 l2 l3 l4 l5 : Option Value) (x : Int32) (w : px_H) (Q : Option Value → px_H → Prop), wp d 62 79 [l0, l1, l2, l3, l4, l5, some (.int x)] [] w 0 Q ↔ wp d 62 81 [l0, l1, l2, l3, l4, l5, some (.int x)] [.int x] w 0 Q) ∧
  (∀ (d : Nat) (l0 l1 l2 l3 l4 l5 l6 : Option Value) (x : Int32) (w : px_H) (Q : Option Value → px_H → Prop), wp d 62 81 [l0, l1, l2, l3, l4, l5, l6] [.int x] w 0 Q ↔ wp d 62 83 [l0, l1, l2, l3, some (.int x), l5, l6] [] w 0 Q) ∧
  (∀ (d : Nat) (l0 l1 l2 l3 l4 l6 : Option Value) (x : Int32) (w : px_H) (Q : Option Value → px_H → Prop), wp d 62 83 [l0, l1, l2, l3, l4, some (.int x), l6] [] w 0 Q ↔ wp d 62 86 [l0, l1, l2, l3, l4, some (.int (x + 1)), l6] [] w 0 Q) ∧
  (∀ (d : Nat) (l0 l1 l2 l3 l4 l5 l6 : Option Value)  (w : px_H) (Q : Option Value → px_H → Prop), wp d 62 86 [l0, l1, l2, l3, l4, l5, l6] [] w 0 Q ↔ wp d 62 24 [l0, l1, l2, l3, l4, l5, l6] [] w 0 Q) ∧
  (∀ (d : Nat) (l0 l1 l2 l4 l5 l6 : Option Value) (x : Int32) (w : px_H) (Q : Option Value → px_H → Prop), wp d 62 89 [l0, l1, l2, some (.int x), l4, l5, l6] [] w 0 Q ↔ wp d 62 90 [l0, l1, l2, some (.int x), l4, l5, l6] [.int x] w 0 Q) ∧
  (∀ (d : Nat) (l0 l1 l2 l3 l4 l5 l6 : Option Value) (x : Int32) (w : px_H) (Q : Option Value → px_H → Prop), wp d 62 90 [l0, l1, l2, l3, l4, l5, l6] [.int x] w 0 Q ↔ Q (some (.int x)) w) := ⟨fun d v0 v1 w Q => r_entry pt_62 (Nat.le_of_ble_eq_true rfl) rfl,
  fun d l1 l2 l3 l4 l5 l6 a w Q => px_go (q := (.aload_n 0, 1, px_x0)) (S' := (1, [some (.ref a), l1, l2, l3, l4, l5, l6], [.ref a], w, 0)) pt_62 rfl rfl,
  fun d l1 l2 l3 l4 l5 l6 s0 a w Q => px_go (q := (.aload_n 0, 1, px_x0)) (S' := (2, [some (.ref a), l1, l2, l3, l4, l5, l6], [.ref a, s0], w, 0)) pt_62 rfl rfl,
  fun d l0 l2 l3 l4 l5 l6 s0 s1 x w Q => px_go (q := (.iload_n 1, 1, px_x0)) (S' := (3, [l0, some (.int x), l2, l3, l4, l5, l6], [.int x, s0, s1], w, 0)) pt_62 rfl rfl,
  fun d l1 l2 l3 l4 l5 l6 s0 s1 s2 a w Q => px_go (q := (.aload_n 0, 1, px_x0)) (S' := (4, [some (.ref a), l1, l2, l3, l4, l5, l6], [.ref a, s0, s1, s2], w, 0)) pt_62 rfl rfl,
  fun d l0 l1 l2 l3 l4 l5 l6 s1 s2 s3 a w Q => px_goO (q := (.getfield 27, 3, (10, 4, [(5, 0)], 0, "AllSworn$Realm"))) (S' := fun v => (7, [l0, l1, l2, l3, l4, l5, l6], [v, s1, s2, s3], w, 0)) pt_62 rfl rfl,
  fun d l0 l1 l2 l3 l4 l5 l6 s0 s1 s2 s3 w Q => r_iconst pt_62 rfl (by decide),
  fun d l0 l1 l2 l3 l4 l5 l6 s4 v0 v1 v2 b w Q => r_callV (q := (.invokevirtual 82, 3, (33, 3, [(5, 58)], 0, ""))) pt_62 rfl rfl (List.forall_mem_cons.mpr ⟨⟨_, pt_58, Nat.le_of_ble_eq_true rfl, (Nat.le_of_ble_eq_true rfl), rfl⟩, fun _ h => absurd h List.not_mem_nil⟩),
  fun d l0 l1 l2 l3 l4 l5 l6 v0 b w Q => r_callV (q := (.invokevirtual 89, 3, (33, 1, [(5, 60)], 0, ""))) pt_62 rfl rfl (List.forall_mem_cons.mpr ⟨⟨_, pt_60, Nat.le_of_ble_eq_true rfl, (Nat.le_of_ble_eq_true rfl), rfl⟩, fun _ h => absurd h List.not_mem_nil⟩),
  fun d l0 l1 l2 l3 l4 l5 l6 x w Q => px_go (q := (.istore_n 2, 1, px_x0)) (S' := (15, [l0, l1, some (.int x), l3, l4, l5, l6], [], w, 0)) pt_62 rfl rfl,
  fun d l0 l1 l2 l3 l4 l5 l6 w Q => px_go (q := (.ldc 46, 2, (0, 0, [], (-1000000), ""))) (S' := (17, [l0, l1, l2, l3, l4, l5, l6], [.int (-1000000)], w, 0)) pt_62 rfl rfl,
  fun d l0 l1 l2 l3 l4 l5 l6 x w Q => px_go (q := (.istore_n 3, 1, px_x0)) (S' := (18, [l0, l1, l2, some (.int x), l4, l5, l6], [], w, 0)) pt_62 rfl rfl,
  fun d l0 l1 l2 l3 l4 l5 l6 w Q => r_iconst pt_62 rfl (by decide),
  fun d l0 l1 l2 l3 l4 l5 l6 x w Q => px_go (q := (.istore 4, 2, px_x0)) (S' := (21, [l0, l1, l2, l3, some (.int x), l5, l6], [], w, 0)) pt_62 rfl rfl,
  fun d l0 l1 l2 l3 l4 l5 l6 w Q => r_iconst pt_62 rfl (by decide),
  fun d l0 l1 l2 l3 l4 l5 l6 x w Q => px_go (q := (.istore 5, 2, px_x0)) (S' := (24, [l0, l1, l2, l3, l4, some (.int x), l6], [], w, 0)) pt_62 rfl rfl,
  fun d l1 l2 l3 l4 l5 l6 s0 a w Q => px_go (q := (.aload_n 0, 1, px_x0)) (S' := (27, [some (.ref a), l1, l2, l3, l4, l5, l6], [.ref a, s0], w, 0)) pt_62 rfl rfl,
  fun d l0 l1 l2 l3 l4 l5 l6 s1 a w Q => px_goO (q := (.getfield 34, 3, (10, 6, [(5, 0)], 0, "AllSworn$Realm"))) (S' := fun v => (30, [l0, l1, l2, l3, l4, l5, l6], [v, s1], w, 0)) pt_62 rfl rfl,
  fun d l0 l1 l2 l3 l4 l5 l6 x y w Q => r_icmp_ge pt_62 rfl rfl,
  fun d l0 l1 l2 l3 l4 l6 x w Q => px_go (q := (.iload 5, 2, px_x0)) (S' := (35, [l0, l1, l2, l3, l4, some (.int x), l6], [.int x], w, 0)) pt_62 rfl rfl,
  fun d l0 l1 l2 l3 l4 l5 l6 s0 w Q => r_bipush pt_62 rfl (by decide),
  fun d l0 l1 l2 l3 l4 l5 l6 x y w Q => r_icmp_ge pt_62 rfl rfl,
  fun d l1 l2 l3 l4 l5 l6 a w Q => px_go (q := (.aload_n 0, 1, px_x0)) (S' := (41, [some (.ref a), l1, l2, l3, l4, l5, l6], [.ref a], w, 0)) pt_62 rfl rfl,
  fun d l1 l2 l3 l4 l5 l6 s0 a w Q => px_go (q := (.aload_n 0, 1, px_x0)) (S' := (42, [some (.ref a), l1, l2, l3, l4, l5, l6], [.ref a, s0], w, 0)) pt_62 rfl rfl,
  fun d l0 l1 l2 l3 l4 l5 l6 s1 a w Q => px_goO (q := (.getfield 21, 3, (10, 2, [(5, 0)], 0, "AllSworn$Realm"))) (S' := fun v => (45, [l0, l1, l2, l3, l4, l5, l6], [v, s1], w, 0)) pt_62 rfl rfl,
  fun d l0 l1 l2 l3 l4 l6 s0 s1 x w Q => px_go (q := (.iload 5, 2, px_x0)) (S' := (47, [l0, l1, l2, l3, l4, some (.int x), l6], [.int x, s0, s1], w, 0)) pt_62 rfl rfl,
  fun d l0 l1 l2 l3 l4 l5 l6 s2 i a w Q => px_goO (q := (.iaload, 1, px_x0)) (S' := fun x => (48, [l0, l1, l2, l3, l4, l5, l6], [.int x, s2], w, 0)) pt_62 rfl rfl,
  fun d l0 l1 l2 l3 l4 l5 l6 v0 b w Q => r_callV (q := (.invokevirtual 95, 3, (33, 1, [(5, 61)], 0, ""))) pt_62 rfl rfl (List.forall_mem_cons.mpr ⟨⟨_, pt_61, Nat.le_of_ble_eq_true rfl, (Nat.le_of_ble_eq_true rfl), rfl⟩, fun _ h => absurd h List.not_mem_nil⟩),
  fun d l0 l1 l2 l3 l4 l5 l6 x w Q => px_go (q := (.istore 6, 2, px_x0)) (S' := (53, [l0, l1, l2, l3, l4, l5, some (.int x)], [], w, 0)) pt_62 rfl rfl,
  fun d l0 l1 l3 l4 l5 l6 x w Q => px_go (q := (.iload_n 2, 1, px_x0)) (S' := (54, [l0, l1, some (.int x), l3, l4, l5, l6], [.int x], w, 0)) pt_62 rfl rfl,
  fun d l0 l1 l2 l3 l4 l6 s0 x w Q => px_go (q := (.iload 5, 2, px_x0)) (S' := (56, [l0, l1, l2, l3, l4, some (.int x), l6], [.int x, s0], w, 0)) pt_62 rfl rfl,
  fun d l0 l1 l2 l3 l4 l5 l6 x y w Q => px_go (q := (.ishr, 1, px_x0)) (S' := (57, [l0, l1, l2, l3, l4, l5, l6], [.int (x >>> (y &&& 31))], w, 0)) pt_62 rfl rfl,
  fun d l0 l1 l2 l3 l4 l5 l6 s0 w Q => r_iconst pt_62 rfl (by decide),
  fun d l0 l1 l2 l3 l4 l5 l6 x y w Q => px_go (q := (.iand, 1, px_x0)) (S' := (59, [l0, l1, l2, l3, l4, l5, l6], [.int (x &&& y)], w, 0)) pt_62 rfl rfl,
  fun d l0 l1 l2 l3 l4 l5 l6 s0 w Q => r_iconst pt_62 rfl (by decide),
  fun d l0 l1 l2 l3 l4 l5 l6 x y w Q => r_icmp_ne pt_62 rfl rfl,
  fun d l0 l1 l2 l4 l5 l6 x w Q => px_go (q := (.iload_n 3, 1, px_x0)) (S' := (64, [l0, l1, l2, some (.int x), l4, l5, l6], [.int x], w, 0)) pt_62 rfl rfl,
  fun d l0 l1 l2 l3 l4 l5 l6 s0 w Q => px_go (q := (.ldc 46, 2, (0, 0, [], (-1000000), ""))) (S' := (66, [l0, l1, l2, l3, l4, l5, l6], [.int (-1000000), s0], w, 0)) pt_62 rfl rfl,
  fun d l0 l1 l2 l3 l4 l5 l6 x y w Q => r_icmp_eq pt_62 rfl rfl,
  fun d l0 l1 l2 l3 l4 l5 x w Q => px_go (q := (.iload 6, 2, px_x0)) (S' := (71, [l0, l1, l2, l3, l4, l5, some (.int x)], [.int x], w, 0)) pt_62 rfl rfl,
  fun d l0 l1 l2 l3 l5 l6 s0 x w Q => px_go (q := (.iload 4, 2, px_x0)) (S' := (73, [l0, l1, l2, l3, some (.int x), l5, l6], [.int x, s0], w, 0)) pt_62 rfl rfl,
  fun d l0 l1 l2 l3 l4 l5 l6 x y w Q => r_icmp_ge pt_62 rfl rfl,
  fun d l0 l1 l2 l3 l4 l6 x w Q => px_go (q := (.iload 5, 2, px_x0)) (S' := (78, [l0, l1, l2, l3, l4, some (.int x), l6], [.int x], w, 0)) pt_62 rfl rfl,
  fun d l0 l1 l2 l3 l4 l5 l6 x w Q => px_go (q := (.istore_n 3, 1, px_x0)) (S' := (79, [l0, l1, l2, some (.int x), l4, l5, l6], [], w, 0)) pt_62 rfl rfl,
  fun d l0 l1 l2 l3 l4 l5 x w Q => px_go (q := (.iload 6, 2, px_x0)) (S' := (81, [l0, l1, l2, l3, l4, l5, some (.int x)], [.int x], w, 0)) pt_62 rfl rfl,
  fun d l0 l1 l2 l3 l4 l5 l6 x w Q => px_go (q := (.istore 4, 2, px_x0)) (S' := (83, [l0, l1, l2, l3, some (.int x), l5, l6], [], w, 0)) pt_62 rfl rfl,
  fun d l0 l1 l2 l3 l4 l6 x w Q => r_iinc pt_62 rfl rfl (by decide) rfl,
  fun d l0 l1 l2 l3 l4 l5 l6 w Q => r_goto pt_62 rfl rfl,
  fun d l0 l1 l2 l4 l5 l6 x w Q => px_go (q := (.iload_n 3, 1, px_x0)) (S' := (90, [l0, l1, l2, some (.int x), l4, l5, l6], [.int x], w, 0)) pt_62 rfl rfl,
  fun d l0 l1 l2 l3 l4 l5 l6 x w Q => px_ret (q := (.ireturn, 1, px_x0)) pt_62 rfl rfl⟩
theorem H62_24 : ∀ (d : Nat) (l0 l1 l2 l3 l4 l6 : Option Value) (x : Int32) (w : px_H) (Q : Option Value → px_H → Prop), wp d 62 24 [l0, l1, l2, l3, l4, some (.int x), l6] [] w 0 Q ↔ wp d 62 26 [l0, l1, l2, l3, l4, some (.int x), l6] [.int x] w 0 Q := fun d l0 l1 l2 l3 l4 l6 x w Q => px_go (q := (.iload 5, 2, px_x0)) (S' := (26, [l0, l1, l2, l3, l4, some (.int x), l6], [.int x], w, 0)) pt_62 rfl rfl
/-- AllSworn$Realm.cheapestPriceOn(I)I -/
theorem S63 : (∀ (d : Nat) (v0 v1 : Value) (w : px_H) (Q : Option Value → px_H → Prop), wc d 63 [v0, v1] w Q ↔ wp d 63 0 [some v0, some v1, none] [] w 0 Q) ∧
  (∀ (d : Nat) (l1 l2 : Option Value) (a : Nat) (w : px_H) (Q : Option Value → px_H → Prop), wp d 63 0 [some (.ref a), l1, l2] [] w 0 Q ↔ wp d 63 1 [some (.ref a), l1, l2] [.ref a] w 0 Q) ∧
  (∀ (d : Nat) (l0 l2 : Option Value) (s0 : Value) (x : Int32) (w : px_H) (Q : Option Value → px_H → Prop), wp d 63 1 [l0, some (.int x), l2] [s0] w 0 Q ↔ wp d 63 2 [l0, some (.int x), l2] [.int x, s0] w 0 Q) ∧
  (∀ (d : Nat) (l0 l1 l2 : Option Value) (v0 : Value) (b : Nat) (w : px_H) (Q : Option Value → px_H → Prop), wp (d + 1) 63 2 [l0, l1, l2] [v0, .ref b] w 0 Q ↔ px_op (px_tgt w b [(5, 62)]) (fun v => wc d v [.ref b, v0] w (fun r w' => wp (d + 1) 63 5 [l0, l1, l2] (r.toList ++ []) w' 0 Q))) ∧
  (∀ (d : Nat) (l0 l1 l2 : Option Value) (x : Int32) (w : px_H) (Q : Option Value → px_H → Prop), wp d 63 5 [l0, l1, l2] [.int x] w 0 Q ↔ wp d 63 6 [l0, l1, some (.int x)] [] w 0 Q) ∧
  (∀ (d : Nat) (l0 l1 : Option Value) (x : Int32) (w : px_H) (Q : Option Value → px_H → Prop), wp d 63 6 [l0, l1, some (.int x)] [] w 0 Q ↔ wp d 63 7 [l0, l1, some (.int x)] [.int x] w 0 Q) ∧
  (∀ (d : Nat) (l0 l1 l2 : Option Value) (s0 : Value)  (w : px_H) (Q : Option Value → px_H → Prop), wp d 63 7 [l0, l1, l2] [s0] w 0 Q ↔ wp d 63 9 [l0, l1, l2] [.int (-1000000), s0] w 0 Q) ∧
  (∀ (d : Nat) (l0 l1 l2 : Option Value) (x y : Int32) (w : px_H) (Q : Option Value → px_H → Prop), wp d 63 9 [l0, l1, l2] [.int y, .int x] w 0 Q ↔ if x = y then wp d 63 12 [l0, l1, l2] [] w 0 Q else wp d 63 17 [l0, l1, l2] [] w 0 Q) ∧
  (∀ (d : Nat) (l0 l1 l2 : Option Value)  (w : px_H) (Q : Option Value → px_H → Prop), wp d 63 12 [l0, l1, l2] [] w 0 Q ↔ wp d 63 14 [l0, l1, l2] [.int (-1000000)] w 0 Q) ∧
  (∀ (d : Nat) (l0 l1 l2 : Option Value) (s0 : Value)  (w : px_H) (Q : Option Value → px_H → Prop), wp d 63 14 [l0, l1, l2] [s0] w 0 Q ↔ wp d 63 26 [l0, l1, l2] [s0] w 0 Q) ∧
  (∀ (d : Nat) (l1 l2 : Option Value) (a : Nat) (w : px_H) (Q : Option Value → px_H → Prop), wp d 63 17 [some (.ref a), l1, l2] [] w 0 Q ↔ wp d 63 18 [some (.ref a), l1, l2] [.ref a] w 0 Q) ∧
  (∀ (d : Nat) (l1 l2 : Option Value) (s0 : Value) (a : Nat) (w : px_H) (Q : Option Value → px_H → Prop), wp d 63 18 [some (.ref a), l1, l2] [s0] w 0 Q ↔ wp d 63 19 [some (.ref a), l1, l2] [.ref a, s0] w 0 Q) ∧
  (∀ (d : Nat) (l0 l1 : Option Value) (s0 s1 : Value) (x : Int32) (w : px_H) (Q : Option Value → px_H → Prop), wp d 63 19 [l0, l1, some (.int x)] [s0, s1] w 0 Q ↔ wp d 63 20 [l0, l1, some (.int x)] [.int x, s0, s1] w 0 Q) ∧
  (∀ (d : Nat) (l0 l1 l2 : Option Value) (s2 : Value) (v0 : Value) (b : Nat) (w : px_H) (Q : Option Value → px_H → Prop), wp (d + 1) 63 20 [l0, l1, l2] [v0, .ref b, s2] w 0 Q ↔ px_op (px_tgt w b [(5, 50)]) (fun v => wc d v [.ref b, v0] w (fun r w' => wp (d + 1) 63 23 [l0, l1, l2] (r.toList ++ [s2]) w' 0 Q))) ∧
  (∀ (d : Nat) (l0 l1 l2 : Option Value) (v0 : Value) (b : Nat) (w : px_H) (Q : Option Value → px_H → Prop), wp (d + 1) 63 23 [l0, l1, l2] [v0, .ref b] w 0 Q ↔ px_op (px_tgt w b [(5, 61)]) (fun v => wc d v [.ref b, v0] w (fun r w' => wp (d + 1) 63 26 [l0, l1, l2] (r.toList ++ []) w' 0 Q))) ∧
  (∀ (d : Nat) (l0 l1 l2 : Option Value) (x : Int32) (w : px_H) (Q : Option Value → px_H → Prop), wp d 63 26 [l0, l1, l2] [.int x] w 0 Q ↔ Q (some (.int x)) w) := ⟨fun d v0 v1 w Q => r_entry pt_63 (Nat.le_of_ble_eq_true rfl) rfl,
  fun d l1 l2 a w Q => px_go (q := (.aload_n 0, 1, px_x0)) (S' := (1, [some (.ref a), l1, l2], [.ref a], w, 0)) pt_63 rfl rfl,
  fun d l0 l2 s0 x w Q => px_go (q := (.iload_n 1, 1, px_x0)) (S' := (2, [l0, some (.int x), l2], [.int x, s0], w, 0)) pt_63 rfl rfl,
  fun d l0 l1 l2 v0 b w Q => r_callV (q := (.invokevirtual 98, 3, (33, 1, [(5, 62)], 0, ""))) pt_63 rfl rfl (List.forall_mem_cons.mpr ⟨⟨_, pt_62, Nat.le_of_ble_eq_true rfl, (Nat.le_of_ble_eq_true rfl), rfl⟩, fun _ h => absurd h List.not_mem_nil⟩),
  fun d l0 l1 l2 x w Q => px_go (q := (.istore_n 2, 1, px_x0)) (S' := (6, [l0, l1, some (.int x)], [], w, 0)) pt_63 rfl rfl,
  fun d l0 l1 x w Q => px_go (q := (.iload_n 2, 1, px_x0)) (S' := (7, [l0, l1, some (.int x)], [.int x], w, 0)) pt_63 rfl rfl,
  fun d l0 l1 l2 s0 w Q => px_go (q := (.ldc 46, 2, (0, 0, [], (-1000000), ""))) (S' := (9, [l0, l1, l2], [.int (-1000000), s0], w, 0)) pt_63 rfl rfl,
  fun d l0 l1 l2 x y w Q => r_icmp_ne pt_63 rfl rfl,
  fun d l0 l1 l2 w Q => px_go (q := (.ldc 46, 2, (0, 0, [], (-1000000), ""))) (S' := (14, [l0, l1, l2], [.int (-1000000)], w, 0)) pt_63 rfl rfl,
  fun d l0 l1 l2 s0 w Q => r_goto pt_63 rfl rfl,
  fun d l1 l2 a w Q => px_go (q := (.aload_n 0, 1, px_x0)) (S' := (18, [some (.ref a), l1, l2], [.ref a], w, 0)) pt_63 rfl rfl,
  fun d l1 l2 s0 a w Q => px_go (q := (.aload_n 0, 1, px_x0)) (S' := (19, [some (.ref a), l1, l2], [.ref a, s0], w, 0)) pt_63 rfl rfl,
  fun d l0 l1 s0 s1 x w Q => px_go (q := (.iload_n 2, 1, px_x0)) (S' := (20, [l0, l1, some (.int x)], [.int x, s0, s1], w, 0)) pt_63 rfl rfl,
  fun d l0 l1 l2 s2 v0 b w Q => r_callV (q := (.invokevirtual 101, 3, (33, 1, [(5, 50)], 0, ""))) pt_63 rfl rfl (List.forall_mem_cons.mpr ⟨⟨_, pt_50, Nat.le_of_ble_eq_true rfl, (Nat.le_of_ble_eq_true rfl), rfl⟩, fun _ h => absurd h List.not_mem_nil⟩),
  fun d l0 l1 l2 v0 b w Q => r_callV (q := (.invokevirtual 95, 3, (33, 1, [(5, 61)], 0, ""))) pt_63 rfl rfl (List.forall_mem_cons.mpr ⟨⟨_, pt_61, Nat.le_of_ble_eq_true rfl, (Nat.le_of_ble_eq_true rfl), rfl⟩, fun _ h => absurd h List.not_mem_nil⟩),
  fun d l0 l1 l2 x w Q => px_ret (q := (.ireturn, 1, px_x0)) pt_63 rfl rfl⟩
/-- AllSworn$Realm.toldAs(I)I heads: [4] -/
theorem S64 : (∀ (d : Nat) (v0 v1 : Value) (w : px_H) (Q : Option Value → px_H → Prop), wc d 64 [v0, v1] w Q ↔ wp d 64 0 [some v0, some v1, none, none] [] w 0 Q) ∧
  (∀ (d : Nat) (l0 l1 l2 l3 : Option Value)  (w : px_H) (Q : Option Value → px_H → Prop), wp d 64 0 [l0, l1, l2, l3] [] w 0 Q ↔ wp d 64 1 [l0, l1, l2, l3] [.int 0] w 0 Q) ∧
  (∀ (d : Nat) (l0 l1 l2 l3 : Option Value) (x : Int32) (w : px_H) (Q : Option Value → px_H → Prop), wp d 64 1 [l0, l1, l2, l3] [.int x] w 0 Q ↔ wp d 64 2 [l0, l1, some (.int x), l3] [] w 0 Q) ∧
  (∀ (d : Nat) (l0 l1 l2 l3 : Option Value)  (w : px_H) (Q : Option Value → px_H → Prop), wp d 64 2 [l0, l1, l2, l3] [] w 0 Q ↔ wp d 64 3 [l0, l1, l2, l3] [.int 0] w 0 Q) ∧
  (∀ (d : Nat) (l0 l1 l2 l3 : Option Value) (x : Int32) (w : px_H) (Q : Option Value → px_H → Prop), wp d 64 3 [l0, l1, l2, l3] [.int x] w 0 Q ↔ wp d 64 4 [l0, l1, l2, some (.int x)] [] w 0 Q) ∧
  (∀ (d : Nat) (l1 l2 l3 : Option Value) (s0 : Value) (a : Nat) (w : px_H) (Q : Option Value → px_H → Prop), wp d 64 5 [some (.ref a), l1, l2, l3] [s0] w 0 Q ↔ wp d 64 6 [some (.ref a), l1, l2, l3] [.ref a, s0] w 0 Q) ∧
  (∀ (d : Nat) (l0 l1 l2 l3 : Option Value) (s1 : Value) (a : Nat) (w : px_H) (Q : Option Value → px_H → Prop), wp d 64 6 [l0, l1, l2, l3] [.ref a, s1] w 0 Q ↔ px_op (px_fld w a [(5, 0)] 5) (fun v => wp d 64 9 [l0, l1, l2, l3] [v, s1] w 0 Q)) ∧
  (∀ (d : Nat) (l0 l1 l2 l3 : Option Value) (x y : Int32) (w : px_H) (Q : Option Value → px_H → Prop), wp d 64 9 [l0, l1, l2, l3] [.int y, .int x] w 0 Q ↔ if y ≤ x then wp d 64 58 [l0, l1, l2, l3] [] w 0 Q else wp d 64 12 [l0, l1, l2, l3] [] w 0 Q) ∧
  (∀ (d : Nat) (l0 l1 l2 : Option Value) (x : Int32) (w : px_H) (Q : Option Value → px_H → Prop), wp d 64 12 [l0, l1, l2, some (.int x)] [] w 0 Q ↔ wp d 64 13 [l0, l1, l2, some (.int x)] [.int x] w 0 Q) ∧
  (∀ (d : Nat) (l0 l1 l2 l3 : Option Value) (s0 : Value)  (w : px_H) (Q : Option Value → px_H → Prop), wp d 64 13 [l0, l1, l2, l3] [s0] w 0 Q ↔ wp d 64 15 [l0, l1, l2, l3] [.int 8, s0] w 0 Q) ∧
  (∀ (d : Nat) (l0 l1 l2 l3 : Option Value) (x y : Int32) (w : px_H) (Q : Option Value → px_H → Prop), wp d 64 15 [l0, l1, l2, l3] [.int y, .int x] w 0 Q ↔ if y ≤ x then wp d 64 58 [l0, l1, l2, l3] [] w 0 Q else wp d 64 18 [l0, l1, l2, l3] [] w 0 Q) ∧
  (∀ (d : Nat) (l1 l2 l3 : Option Value) (a : Nat) (w : px_H) (Q : Option Value → px_H → Prop), wp d 64 18 [some (.ref a), l1, l2, l3] [] w 0 Q ↔ wp d 64 19 [some (.ref a), l1, l2, l3] [.ref a] w 0 Q) ∧
  (∀ (d : Nat) (l0 l1 l2 l3 : Option Value) (a : Nat) (w : px_H) (Q : Option Value → px_H → Prop), wp d 64 19 [l0, l1, l2, l3] [.ref a] w 0 Q ↔ px_op (px_fld w a [(5, 0)] 0) (fun v => wp d 64 22 [l0, l1, l2, l3] [v] w 0 Q)) ∧
  (∀ (d : Nat) (l0 l1 l2 : Option Value) (s0 : Value) (x : Int32) (w : px_H) (Q : Option Value → px_H → Prop), wp d 64 22 [l0, l1, l2, some (.int x)] [s0] w 0 Q ↔ wp d 64 23 [l0, l1, l2, some (.int x)] [.int x, s0] w 0 Q) ∧
  (∀ (d : Nat) (l0 l1 l2 l3 : Option Value) (i : Int32) (a : Nat) (w : px_H) (Q : Option Value → px_H → Prop), wp d 64 23 [l0, l1, l2, l3] [.int i, .ref a] w 0 Q ↔ px_op (px_rld w a i) (fun v => wp d 64 24 [l0, l1, l2, l3] [v] w 0 Q)) ∧
  (∀ (d : Nat) (l0 l1 l2 l3 : Option Value)  (w : px_H) (Q : Option Value → px_H → Prop), wp d 64 24 [l0, l1, l2, l3] [.null] w 0 Q ↔ wp d 64 52 [l0, l1, l2, l3] [] w 0 Q) ∧
  (∀ (d : Nat) (l0 l1 l2 l3 : Option Value) (a : Nat) (w : px_H) (Q : Option Value → px_H → Prop), wp d 64 24 [l0, l1, l2, l3] [.ref a] w 0 Q ↔ wp d 64 27 [l0, l1, l2, l3] [] w 0 Q) ∧
  (∀ (d : Nat) (l0 l2 l3 : Option Value) (x : Int32) (w : px_H) (Q : Option Value → px_H → Prop), wp d 64 27 [l0, some (.int x), l2, l3] [] w 0 Q ↔ wp d 64 28 [l0, some (.int x), l2, l3] [.int x] w 0 Q) ∧
  (∀ (d : Nat) (l1 l2 l3 : Option Value) (s0 : Value) (a : Nat) (w : px_H) (Q : Option Value → px_H → Prop), wp d 64 28 [some (.ref a), l1, l2, l3] [s0] w 0 Q ↔ wp d 64 29 [some (.ref a), l1, l2, l3] [.ref a, s0] w 0 Q) ∧
  (∀ (d : Nat) (l0 l1 l2 l3 : Option Value) (s1 : Value) (a : Nat) (w : px_H) (Q : Option Value → px_H → Prop), wp d 64 29 [l0, l1, l2, l3] [.ref a, s1] w 0 Q ↔ px_op (px_fld w a [(5, 0)] 0) (fun v => wp d 64 32 [l0, l1, l2, l3] [v, s1] w 0 Q)) ∧
  (∀ (d : Nat) (l0 l1 l2 : Option Value) (s0 s1 : Value) (x : Int32) (w : px_H) (Q : Option Value → px_H → Prop), wp d 64 32 [l0, l1, l2, some (.int x)] [s0, s1] w 0 Q ↔ wp d 64 33 [l0, l1, l2, some (.int x)] [.int x, s0, s1] w 0 Q) ∧
  (∀ (d : Nat) (l0 l1 l2 l3 : Option Value) (s2 : Value) (i : Int32) (a : Nat) (w : px_H) (Q : Option Value → px_H → Prop), wp d 64 33 [l0, l1, l2, l3] [.int i, .ref a, s2] w 0 Q ↔ px_op (px_rld w a i) (fun v => wp d 64 34 [l0, l1, l2, l3] [v, s2] w 0 Q)) ∧
  (∀ (d : Nat) (l0 l1 l2 l3 : Option Value) (s1 : Value)  (b : Nat) (w : px_H) (Q : Option Value → px_H → Prop), wp (d + 1) 64 34 [l0, l1, l2, l3] [.ref b, s1] w 0 Q ↔ px_op (px_tgt w b [(0, 1), (1, 7), (3, 26), (8, 88), (9, 93)]) (fun v => wc d v [.ref b] w (fun r w' => wp (d + 1) 64 37 [l0, l1, l2, l3] (r.toList ++ [s1]) w' 0 Q))) ∧
  (∀ (d : Nat) (l0 l1 l2 l3 : Option Value) (s0 s1 : Value)  (w : px_H) (Q : Option Value → px_H → Prop), wp d 64 37 [l0, l1, l2, l3] [s0, s1] w 0 Q ↔ wp d 64 38 [l0, l1, l2, l3] [.int 1, s0, s1] w 0 Q) ∧
  (∀ (d : Nat) (l0 l1 l2 l3 : Option Value) (s2 : Value) (x y : Int32) (w : px_H) (Q : Option Value → px_H → Prop), wp d 64 38 [l0, l1, l2, l3] [.int y, .int x, s2] w 0 Q ↔ wp d 64 39 [l0, l1, l2, l3] [.int (x - y), s2] w 0 Q) ∧
  (∀ (d : Nat) (l0 l1 l2 l3 : Option Value) (x y : Int32) (w : px_H) (Q : Option Value → px_H → Prop), wp d 64 39 [l0, l1, l2, l3] [.int y, .int x] w 0 Q ↔ wp d 64 40 [l0, l1, l2, l3] [.int (x >>> (y &&& 31))] w 0 Q) ∧
  (∀ (d : Nat) (l0 l1 l2 l3 : Option Value) (s0 : Value)  (w : px_H) (Q : Option Value → px_H → Prop), wp d 64 40 [l0, l1, l2, l3] [s0] w 0 Q ↔ wp d 64 41 [l0, l1, l2, l3] [.int 1, s0] w 0 Q) ∧
  (∀ (d : Nat) (l0 l1 l2 l3 : Option Value) (x y : Int32) (w : px_H) (Q : Option Value → px_H → Prop), wp d 64 41 [l0, l1, l2, l3] [.int y, .int x] w 0 Q ↔ wp d 64 42 [l0, l1, l2, l3] [.int (x &&& y)] w 0 Q) ∧
  (∀ (d : Nat) (l0 l1 l2 l3 : Option Value) (s0 : Value)  (w : px_H) (Q : Option Value → px_H → Prop), wp d 64 42 [l0, l1, l2, l3] [s0] w 0 Q ↔ wp d 64 43 [l0, l1, l2, l3] [.int 1, s0] w 0 Q) ∧
  (∀ (d : Nat) (l0 l1 l2 l3 : Option Value) (x y : Int32) (w : px_H) (Q : Option Value → px_H → Prop), wp d 64 43 [l0, l1, l2, l3] [.int y, .int x] w 0 Q ↔ if x = y then wp d 64 46 [l0, l1, l2, l3] [] w 0 Q else wp d 64 52 [l0, l1, l2, l3] [] w 0 Q) ∧
  (∀ (d : Nat) (l0 l1 l3 : Option Value) (x : Int32) (w : px_H) (Q : Option Value → px_H → Prop), wp d 64 46 [l0, l1, some (.int x), l3] [] w 0 Q ↔ wp d 64 47 [l0, l1, some (.int x), l3] [.int x] w 0 Q) ∧
  (∀ (d : Nat) (l0 l1 l2 l3 : Option Value) (s0 : Value)  (w : px_H) (Q : Option Value → px_H → Prop), wp d 64 47 [l0, l1, l2, l3] [s0] w 0 Q ↔ wp d 64 48 [l0, l1, l2, l3] [.int 1, s0] w 0 Q) ∧
  (∀ (d : Nat) (l0 l1 l2 : Option Value) (s0 s1 : Value) (x : Int32) (w : px_H) (Q : Option Value → px_H → Prop), wp d 64 48 [l0, l1, l2, some (.int x)] [s0, s1] w 0 Q ↔ wp d 64 49 [l0, l1, l2, some (.int x)] [.int x, s0, s1] w 0 Q) ∧
  (∀ (d : Nat) (l0 l1 l2 l3 : Option Value) (s2 : Value) (x y : Int32) (w : px_H) (Q : Option Value → px_H → Prop), wp d 64 49 [l0, l1, l2, l3] [.int y, .int x, s2] w 0 Q ↔ wp d 64 50 [l0, l1, l2, l3] [.int (x <<< (y &&& 31)), s2] w 0 Q) ∧
  (∀ (d : Nat) (l0 l1 l2 l3 : Option Value) (x y : Int32) (w : px_H) (Q : Option Value → px_H → Prop), wp d 64 50 [l0, l1, l2, l3] [.int y, .int x] w 0 Q ↔ wp d 64 51 [l0, l1, l2, l3] [.int (x ||| y)] w 0 Q) ∧
  (∀ (d : Nat) (l0 l1 l2 l3 : Option Value) (x : Int32) (w : px_H) (Q : Option Value → px_H → Prop), wp d 64 51 [l0, l1, l2, l3] [.int x] w 0 Q ↔ wp d 64 52 [l0, l1, some (.int x), l3] [] w 0 Q) ∧
  (∀ (d : Nat) (l0 l1 l2 : Option Value) (x : Int32) (w : px_H) (Q : Option Value → px_H → Prop), wp d 64 52 [l0, l1, l2, some (.int x)] [] w 0 Q ↔ wp d 64 55 [l0, l1, l2, some (.int (x + 1))] [] w 0 Q) ∧
  (∀ (d : Nat) (l0 l1 l2 l3 : Option Value)  (w : px_H) (Q : Option Value → px_H → Prop), wp d 64 55 [l0, l1, l2, l3] [] w 0 Q ↔ wp d 64 4 [l0, l1, l2, l3] [] w 0 Q) ∧
  (∀ (d : Nat) (l0 l1 l3 : Option Value) (x : Int32) (w : px_H) (Q : Option Value → px_H → Prop), wp d 64 58 [l0, l1, some (.int x), l3] [] w 0 Q ↔ wp d 64 59 [l0, l1, some (.int x), l3] [.int x] w 0 Q) ∧
  (∀ (d : Nat) (l0 l1 l2 l3 : Option Value) (x : Int32) (w : px_H) (Q : Option Value → px_H → Prop), wp d 64 59 [l0, l1, l2, l3] [.int x] w 0 Q ↔ Q (some (.int x)) w) := ⟨fun d v0 v1 w Q => r_entry pt_64 (Nat.le_of_ble_eq_true rfl) rfl,
  fun d l0 l1 l2 l3 w Q => r_iconst pt_64 rfl (by decide),
  fun d l0 l1 l2 l3 x w Q => px_go (q := (.istore_n 2, 1, px_x0)) (S' := (2, [l0, l1, some (.int x), l3], [], w, 0)) pt_64 rfl rfl,
  fun d l0 l1 l2 l3 w Q => r_iconst pt_64 rfl (by decide),
  fun d l0 l1 l2 l3 x w Q => px_go (q := (.istore_n 3, 1, px_x0)) (S' := (4, [l0, l1, l2, some (.int x)], [], w, 0)) pt_64 rfl rfl,
  fun d l1 l2 l3 s0 a w Q => px_go (q := (.aload_n 0, 1, px_x0)) (S' := (6, [some (.ref a), l1, l2, l3], [.ref a, s0], w, 0)) pt_64 rfl rfl,
  fun d l0 l1 l2 l3 s1 a w Q => px_goO (q := (.getfield 31, 3, (10, 5, [(5, 0)], 0, "AllSworn$Realm"))) (S' := fun v => (9, [l0, l1, l2, l3], [v, s1], w, 0)) pt_64 rfl rfl,
  fun d l0 l1 l2 l3 x y w Q => r_icmp_ge pt_64 rfl rfl,
  fun d l0 l1 l2 x w Q => px_go (q := (.iload_n 3, 1, px_x0)) (S' := (13, [l0, l1, l2, some (.int x)], [.int x], w, 0)) pt_64 rfl rfl,
  fun d l0 l1 l2 l3 s0 w Q => r_bipush pt_64 rfl (by decide),
  fun d l0 l1 l2 l3 x y w Q => r_icmp_ge pt_64 rfl rfl,
  fun d l1 l2 l3 a w Q => px_go (q := (.aload_n 0, 1, px_x0)) (S' := (19, [some (.ref a), l1, l2, l3], [.ref a], w, 0)) pt_64 rfl rfl,
  fun d l0 l1 l2 l3 a w Q => px_goO (q := (.getfield 11, 3, (10, 0, [(5, 0)], 0, "AllSworn$Realm"))) (S' := fun v => (22, [l0, l1, l2, l3], [v], w, 0)) pt_64 rfl rfl,
  fun d l0 l1 l2 s0 x w Q => px_go (q := (.iload_n 3, 1, px_x0)) (S' := (23, [l0, l1, l2, some (.int x)], [.int x, s0], w, 0)) pt_64 rfl rfl,
  fun d l0 l1 l2 l3 i a w Q => px_goO (q := (.aaload, 1, px_x0)) (S' := fun v => (24, [l0, l1, l2, l3], [v], w, 0)) pt_64 rfl rfl,
  fun d l0 l1 l2 l3 w Q => r_ifnullN pt_64 rfl rfl,
  fun d l0 l1 l2 l3 a w Q => px_go (q := (.ifnull 28, 3, px_x0)) (S' := (27, [l0, l1, l2, l3], [], w, 0)) pt_64 rfl rfl,
  fun d l0 l2 l3 x w Q => px_go (q := (.iload_n 1, 1, px_x0)) (S' := (28, [l0, some (.int x), l2, l3], [.int x], w, 0)) pt_64 rfl rfl,
  fun d l1 l2 l3 s0 a w Q => px_go (q := (.aload_n 0, 1, px_x0)) (S' := (29, [some (.ref a), l1, l2, l3], [.ref a, s0], w, 0)) pt_64 rfl rfl,
  fun d l0 l1 l2 l3 s1 a w Q => px_goO (q := (.getfield 11, 3, (10, 0, [(5, 0)], 0, "AllSworn$Realm"))) (S' := fun v => (32, [l0, l1, l2, l3], [v, s1], w, 0)) pt_64 rfl rfl,
  fun d l0 l1 l2 s0 s1 x w Q => px_go (q := (.iload_n 3, 1, px_x0)) (S' := (33, [l0, l1, l2, some (.int x)], [.int x, s0, s1], w, 0)) pt_64 rfl rfl,
  fun d l0 l1 l2 l3 s2 i a w Q => px_goO (q := (.aaload, 1, px_x0)) (S' := fun v => (34, [l0, l1, l2, l3], [v, s2], w, 0)) pt_64 rfl rfl,
  fun d l0 l1 l2 l3 s1 b w Q => r_callV (q := (.invokevirtual 104, 3, (34, 0, [(0, 1), (1, 7), (3, 26), (8, 88), (9, 93)], 0, "AllSworn$Thing"))) pt_64 rfl rfl (List.forall_mem_cons.mpr ⟨⟨_, pt_1, Nat.le_of_ble_eq_true rfl, (Nat.le_of_ble_eq_true rfl), rfl⟩, List.forall_mem_cons.mpr ⟨⟨_, pt_7, Nat.le_of_ble_eq_true rfl, (Nat.le_of_ble_eq_true rfl), rfl⟩, List.forall_mem_cons.mpr ⟨⟨_, pt_26, Nat.le_of_ble_eq_true rfl, (Nat.le_of_ble_eq_true rfl), rfl⟩, List.forall_mem_cons.mpr ⟨⟨_, pt_88, Nat.le_of_ble_eq_true rfl, (Nat.le_of_ble_eq_true rfl), rfl⟩, List.forall_mem_cons.mpr ⟨⟨_, pt_93, Nat.le_of_ble_eq_true rfl, (Nat.le_of_ble_eq_true rfl), rfl⟩, fun _ h => absurd h List.not_mem_nil⟩⟩⟩⟩⟩),
  fun d l0 l1 l2 l3 s0 s1 w Q => r_iconst pt_64 rfl (by decide),
  fun d l0 l1 l2 l3 s2 x y w Q => px_go (q := (.isub, 1, px_x0)) (S' := (39, [l0, l1, l2, l3], [.int (x - y), s2], w, 0)) pt_64 rfl rfl,
  fun d l0 l1 l2 l3 x y w Q => px_go (q := (.ishr, 1, px_x0)) (S' := (40, [l0, l1, l2, l3], [.int (x >>> (y &&& 31))], w, 0)) pt_64 rfl rfl,
  fun d l0 l1 l2 l3 s0 w Q => r_iconst pt_64 rfl (by decide),
  fun d l0 l1 l2 l3 x y w Q => px_go (q := (.iand, 1, px_x0)) (S' := (42, [l0, l1, l2, l3], [.int (x &&& y)], w, 0)) pt_64 rfl rfl,
  fun d l0 l1 l2 l3 s0 w Q => r_iconst pt_64 rfl (by decide),
  fun d l0 l1 l2 l3 x y w Q => r_icmp_ne pt_64 rfl rfl,
  fun d l0 l1 l3 x w Q => px_go (q := (.iload_n 2, 1, px_x0)) (S' := (47, [l0, l1, some (.int x), l3], [.int x], w, 0)) pt_64 rfl rfl,
  fun d l0 l1 l2 l3 s0 w Q => r_iconst pt_64 rfl (by decide),
  fun d l0 l1 l2 s0 s1 x w Q => px_go (q := (.iload_n 3, 1, px_x0)) (S' := (49, [l0, l1, l2, some (.int x)], [.int x, s0, s1], w, 0)) pt_64 rfl rfl,
  fun d l0 l1 l2 l3 s2 x y w Q => px_go (q := (.ishl, 1, px_x0)) (S' := (50, [l0, l1, l2, l3], [.int (x <<< (y &&& 31)), s2], w, 0)) pt_64 rfl rfl,
  fun d l0 l1 l2 l3 x y w Q => px_go (q := (.ior, 1, px_x0)) (S' := (51, [l0, l1, l2, l3], [.int (x ||| y)], w, 0)) pt_64 rfl rfl,
  fun d l0 l1 l2 l3 x w Q => px_go (q := (.istore_n 2, 1, px_x0)) (S' := (52, [l0, l1, some (.int x), l3], [], w, 0)) pt_64 rfl rfl,
  fun d l0 l1 l2 x w Q => r_iinc pt_64 rfl rfl (by decide) rfl,
  fun d l0 l1 l2 l3 w Q => r_goto pt_64 rfl rfl,
  fun d l0 l1 l3 x w Q => px_go (q := (.iload_n 2, 1, px_x0)) (S' := (59, [l0, l1, some (.int x), l3], [.int x], w, 0)) pt_64 rfl rfl,
  fun d l0 l1 l2 l3 x w Q => px_ret (q := (.ireturn, 1, px_x0)) pt_64 rfl rfl⟩
theorem H64_4 : ∀ (d : Nat) (l0 l1 l2 : Option Value) (x : Int32) (w : px_H) (Q : Option Value → px_H → Prop), wp d 64 4 [l0, l1, l2, some (.int x)] [] w 0 Q ↔ wp d 64 5 [l0, l1, l2, some (.int x)] [.int x] w 0 Q := fun d l0 l1 l2 x w Q => px_go (q := (.iload_n 3, 1, px_x0)) (S' := (5, [l0, l1, l2, some (.int x)], [.int x], w, 0)) pt_64 rfl rfl
/-- AllSworn$Realm.harmsWith(I)I heads: [4] -/
theorem S65 : (∀ (d : Nat) (v0 v1 : Value) (w : px_H) (Q : Option Value → px_H → Prop), wc d 65 [v0, v1] w Q ↔ wp d 65 0 [some v0, some v1, none, none] [] w 0 Q) ∧
  (∀ (d : Nat) (l0 l1 l2 l3 : Option Value)  (w : px_H) (Q : Option Value → px_H → Prop), wp d 65 0 [l0, l1, l2, l3] [] w 0 Q ↔ wp d 65 1 [l0, l1, l2, l3] [.int 0] w 0 Q) ∧
  (∀ (d : Nat) (l0 l1 l2 l3 : Option Value) (x : Int32) (w : px_H) (Q : Option Value → px_H → Prop), wp d 65 1 [l0, l1, l2, l3] [.int x] w 0 Q ↔ wp d 65 2 [l0, l1, some (.int x), l3] [] w 0 Q) ∧
  (∀ (d : Nat) (l0 l1 l2 l3 : Option Value)  (w : px_H) (Q : Option Value → px_H → Prop), wp d 65 2 [l0, l1, l2, l3] [] w 0 Q ↔ wp d 65 3 [l0, l1, l2, l3] [.int 0] w 0 Q) ∧
  (∀ (d : Nat) (l0 l1 l2 l3 : Option Value) (x : Int32) (w : px_H) (Q : Option Value → px_H → Prop), wp d 65 3 [l0, l1, l2, l3] [.int x] w 0 Q ↔ wp d 65 4 [l0, l1, l2, some (.int x)] [] w 0 Q) ∧
  (∀ (d : Nat) (l1 l2 l3 : Option Value) (s0 : Value) (a : Nat) (w : px_H) (Q : Option Value → px_H → Prop), wp d 65 5 [some (.ref a), l1, l2, l3] [s0] w 0 Q ↔ wp d 65 6 [some (.ref a), l1, l2, l3] [.ref a, s0] w 0 Q) ∧
  (∀ (d : Nat) (l0 l1 l2 l3 : Option Value) (s1 : Value) (a : Nat) (w : px_H) (Q : Option Value → px_H → Prop), wp d 65 6 [l0, l1, l2, l3] [.ref a, s1] w 0 Q ↔ px_op (px_fld w a [(5, 0)] 6) (fun v => wp d 65 9 [l0, l1, l2, l3] [v, s1] w 0 Q)) ∧
  (∀ (d : Nat) (l0 l1 l2 l3 : Option Value) (x y : Int32) (w : px_H) (Q : Option Value → px_H → Prop), wp d 65 9 [l0, l1, l2, l3] [.int y, .int x] w 0 Q ↔ if y ≤ x then wp d 65 37 [l0, l1, l2, l3] [] w 0 Q else wp d 65 12 [l0, l1, l2, l3] [] w 0 Q) ∧
  (∀ (d : Nat) (l0 l1 l2 : Option Value) (x : Int32) (w : px_H) (Q : Option Value → px_H → Prop), wp d 65 12 [l0, l1, l2, some (.int x)] [] w 0 Q ↔ wp d 65 13 [l0, l1, l2, some (.int x)] [.int x] w 0 Q) ∧
  (∀ (d : Nat) (l0 l1 l2 l3 : Option Value) (s0 : Value)  (w : px_H) (Q : Option Value → px_H → Prop), wp d 65 13 [l0, l1, l2, l3] [s0] w 0 Q ↔ wp d 65 15 [l0, l1, l2, l3] [.int 8, s0] w 0 Q) ∧
  (∀ (d : Nat) (l0 l1 l2 l3 : Option Value) (x y : Int32) (w : px_H) (Q : Option Value → px_H → Prop), wp d 65 15 [l0, l1, l2, l3] [.int y, .int x] w 0 Q ↔ if y ≤ x then wp d 65 37 [l0, l1, l2, l3] [] w 0 Q else wp d 65 18 [l0, l1, l2, l3] [] w 0 Q) ∧
  (∀ (d : Nat) (l0 l1 l3 : Option Value) (x : Int32) (w : px_H) (Q : Option Value → px_H → Prop), wp d 65 18 [l0, l1, some (.int x), l3] [] w 0 Q ↔ wp d 65 19 [l0, l1, some (.int x), l3] [.int x] w 0 Q) ∧
  (∀ (d : Nat) (l1 l2 l3 : Option Value) (s0 : Value) (a : Nat) (w : px_H) (Q : Option Value → px_H → Prop), wp d 65 19 [some (.ref a), l1, l2, l3] [s0] w 0 Q ↔ wp d 65 20 [some (.ref a), l1, l2, l3] [.ref a, s0] w 0 Q) ∧
  (∀ (d : Nat) (l0 l1 l2 l3 : Option Value) (s1 : Value) (a : Nat) (w : px_H) (Q : Option Value → px_H → Prop), wp d 65 20 [l0, l1, l2, l3] [.ref a, s1] w 0 Q ↔ px_op (px_fld w a [(5, 0)] 2) (fun v => wp d 65 23 [l0, l1, l2, l3] [v, s1] w 0 Q)) ∧
  (∀ (d : Nat) (l0 l1 l2 : Option Value) (s0 s1 : Value) (x : Int32) (w : px_H) (Q : Option Value → px_H → Prop), wp d 65 23 [l0, l1, l2, some (.int x)] [s0, s1] w 0 Q ↔ wp d 65 24 [l0, l1, l2, some (.int x)] [.int x, s0, s1] w 0 Q) ∧
  (∀ (d : Nat) (l0 l1 l2 l3 : Option Value) (s2 : Value) (i : Int32) (a : Nat) (w : px_H) (Q : Option Value → px_H → Prop), wp d 65 24 [l0, l1, l2, l3] [.int i, .ref a, s2] w 0 Q ↔ px_op (px_ald w a i .int) (fun x => wp d 65 25 [l0, l1, l2, l3] [.int x, s2] w 0 Q)) ∧
  (∀ (d : Nat) (l0 l2 l3 : Option Value) (s0 s1 : Value) (x : Int32) (w : px_H) (Q : Option Value → px_H → Prop), wp d 65 25 [l0, some (.int x), l2, l3] [s0, s1] w 0 Q ↔ wp d 65 26 [l0, some (.int x), l2, l3] [.int x, s0, s1] w 0 Q) ∧
  (∀ (d : Nat) (l0 l1 l2 l3 : Option Value) (s2 : Value) (x y : Int32) (w : px_H) (Q : Option Value → px_H → Prop), wp d 65 26 [l0, l1, l2, l3] [.int y, .int x, s2] w 0 Q ↔ wp d 65 27 [l0, l1, l2, l3] [.int (x >>> (y &&& 31)), s2] w 0 Q) ∧
  (∀ (d : Nat) (l0 l1 l2 l3 : Option Value) (s0 s1 : Value)  (w : px_H) (Q : Option Value → px_H → Prop), wp d 65 27 [l0, l1, l2, l3] [s0, s1] w 0 Q ↔ wp d 65 28 [l0, l1, l2, l3] [.int 1, s0, s1] w 0 Q) ∧
  (∀ (d : Nat) (l0 l1 l2 l3 : Option Value) (s2 : Value) (x y : Int32) (w : px_H) (Q : Option Value → px_H → Prop), wp d 65 28 [l0, l1, l2, l3] [.int y, .int x, s2] w 0 Q ↔ wp d 65 29 [l0, l1, l2, l3] [.int (x &&& y), s2] w 0 Q) ∧
  (∀ (d : Nat) (l0 l1 l2 l3 : Option Value) (x y : Int32) (w : px_H) (Q : Option Value → px_H → Prop), wp d 65 29 [l0, l1, l2, l3] [.int y, .int x] w 0 Q ↔ wp d 65 30 [l0, l1, l2, l3] [.int (x + y)] w 0 Q) ∧
  (∀ (d : Nat) (l0 l1 l2 l3 : Option Value) (x : Int32) (w : px_H) (Q : Option Value → px_H → Prop), wp d 65 30 [l0, l1, l2, l3] [.int x] w 0 Q ↔ wp d 65 31 [l0, l1, some (.int x), l3] [] w 0 Q) ∧
  (∀ (d : Nat) (l0 l1 l2 : Option Value) (x : Int32) (w : px_H) (Q : Option Value → px_H → Prop), wp d 65 31 [l0, l1, l2, some (.int x)] [] w 0 Q ↔ wp d 65 34 [l0, l1, l2, some (.int (x + 1))] [] w 0 Q) ∧
  (∀ (d : Nat) (l0 l1 l2 l3 : Option Value)  (w : px_H) (Q : Option Value → px_H → Prop), wp d 65 34 [l0, l1, l2, l3] [] w 0 Q ↔ wp d 65 4 [l0, l1, l2, l3] [] w 0 Q) ∧
  (∀ (d : Nat) (l0 l1 l3 : Option Value) (x : Int32) (w : px_H) (Q : Option Value → px_H → Prop), wp d 65 37 [l0, l1, some (.int x), l3] [] w 0 Q ↔ wp d 65 38 [l0, l1, some (.int x), l3] [.int x] w 0 Q) ∧
  (∀ (d : Nat) (l0 l1 l2 l3 : Option Value) (x : Int32) (w : px_H) (Q : Option Value → px_H → Prop), wp d 65 38 [l0, l1, l2, l3] [.int x] w 0 Q ↔ Q (some (.int x)) w) := ⟨fun d v0 v1 w Q => r_entry pt_65 (Nat.le_of_ble_eq_true rfl) rfl,
  fun d l0 l1 l2 l3 w Q => r_iconst pt_65 rfl (by decide),
  fun d l0 l1 l2 l3 x w Q => px_go (q := (.istore_n 2, 1, px_x0)) (S' := (2, [l0, l1, some (.int x), l3], [], w, 0)) pt_65 rfl rfl,
  fun d l0 l1 l2 l3 w Q => r_iconst pt_65 rfl (by decide),
  fun d l0 l1 l2 l3 x w Q => px_go (q := (.istore_n 3, 1, px_x0)) (S' := (4, [l0, l1, l2, some (.int x)], [], w, 0)) pt_65 rfl rfl,
  fun d l1 l2 l3 s0 a w Q => px_go (q := (.aload_n 0, 1, px_x0)) (S' := (6, [some (.ref a), l1, l2, l3], [.ref a, s0], w, 0)) pt_65 rfl rfl,
  fun d l0 l1 l2 l3 s1 a w Q => px_goO (q := (.getfield 34, 3, (10, 6, [(5, 0)], 0, "AllSworn$Realm"))) (S' := fun v => (9, [l0, l1, l2, l3], [v, s1], w, 0)) pt_65 rfl rfl,
  fun d l0 l1 l2 l3 x y w Q => r_icmp_ge pt_65 rfl rfl,
  fun d l0 l1 l2 x w Q => px_go (q := (.iload_n 3, 1, px_x0)) (S' := (13, [l0, l1, l2, some (.int x)], [.int x], w, 0)) pt_65 rfl rfl,
  fun d l0 l1 l2 l3 s0 w Q => r_bipush pt_65 rfl (by decide),
  fun d l0 l1 l2 l3 x y w Q => r_icmp_ge pt_65 rfl rfl,
  fun d l0 l1 l3 x w Q => px_go (q := (.iload_n 2, 1, px_x0)) (S' := (19, [l0, l1, some (.int x), l3], [.int x], w, 0)) pt_65 rfl rfl,
  fun d l1 l2 l3 s0 a w Q => px_go (q := (.aload_n 0, 1, px_x0)) (S' := (20, [some (.ref a), l1, l2, l3], [.ref a, s0], w, 0)) pt_65 rfl rfl,
  fun d l0 l1 l2 l3 s1 a w Q => px_goO (q := (.getfield 21, 3, (10, 2, [(5, 0)], 0, "AllSworn$Realm"))) (S' := fun v => (23, [l0, l1, l2, l3], [v, s1], w, 0)) pt_65 rfl rfl,
  fun d l0 l1 l2 s0 s1 x w Q => px_go (q := (.iload_n 3, 1, px_x0)) (S' := (24, [l0, l1, l2, some (.int x)], [.int x, s0, s1], w, 0)) pt_65 rfl rfl,
  fun d l0 l1 l2 l3 s2 i a w Q => px_goO (q := (.iaload, 1, px_x0)) (S' := fun x => (25, [l0, l1, l2, l3], [.int x, s2], w, 0)) pt_65 rfl rfl,
  fun d l0 l2 l3 s0 s1 x w Q => px_go (q := (.iload_n 1, 1, px_x0)) (S' := (26, [l0, some (.int x), l2, l3], [.int x, s0, s1], w, 0)) pt_65 rfl rfl,
  fun d l0 l1 l2 l3 s2 x y w Q => px_go (q := (.ishr, 1, px_x0)) (S' := (27, [l0, l1, l2, l3], [.int (x >>> (y &&& 31)), s2], w, 0)) pt_65 rfl rfl,
  fun d l0 l1 l2 l3 s0 s1 w Q => r_iconst pt_65 rfl (by decide),
  fun d l0 l1 l2 l3 s2 x y w Q => px_go (q := (.iand, 1, px_x0)) (S' := (29, [l0, l1, l2, l3], [.int (x &&& y), s2], w, 0)) pt_65 rfl rfl,
  fun d l0 l1 l2 l3 x y w Q => px_go (q := (.iadd, 1, px_x0)) (S' := (30, [l0, l1, l2, l3], [.int (x + y)], w, 0)) pt_65 rfl rfl,
  fun d l0 l1 l2 l3 x w Q => px_go (q := (.istore_n 2, 1, px_x0)) (S' := (31, [l0, l1, some (.int x), l3], [], w, 0)) pt_65 rfl rfl,
  fun d l0 l1 l2 x w Q => r_iinc pt_65 rfl rfl (by decide) rfl,
  fun d l0 l1 l2 l3 w Q => r_goto pt_65 rfl rfl,
  fun d l0 l1 l3 x w Q => px_go (q := (.iload_n 2, 1, px_x0)) (S' := (38, [l0, l1, some (.int x), l3], [.int x], w, 0)) pt_65 rfl rfl,
  fun d l0 l1 l2 l3 x w Q => px_ret (q := (.ireturn, 1, px_x0)) pt_65 rfl rfl⟩
theorem H65_4 : ∀ (d : Nat) (l0 l1 l2 : Option Value) (x : Int32) (w : px_H) (Q : Option Value → px_H → Prop), wp d 65 4 [l0, l1, l2, some (.int x)] [] w 0 Q ↔ wp d 65 5 [l0, l1, l2, some (.int x)] [.int x] w 0 Q := fun d l0 l1 l2 x w Q => px_go (q := (.iload_n 3, 1, px_x0)) (S' := (5, [l0, l1, l2, some (.int x)], [.int x], w, 0)) pt_65 rfl rfl
/-- AllSworn$Row.<init>()V -/
theorem S66 : (∀ (d : Nat) (v0 : Value) (w : px_H) (Q : Option Value → px_H → Prop), wc d 66 [v0] w Q ↔ wp d 66 0 [some v0] [] w 0 Q) ∧
  (∀ (d : Nat) (a : Nat) (w : px_H) (k : Nat) (Q : Option Value → px_H → Prop), wp d 66 0 [some (.ref a)] [] w k Q ↔ wp d 66 1 [some (.ref a)] [.ref a] w k Q) ∧
  (∀ (d : Nat) (l0 : Option Value) (a : Nat) (w : px_H) (k : Nat) (Q : Option Value → px_H → Prop), wp d 66 1 [l0] [.ref a] w k Q ↔ wp d 66 4 [l0] [] w k Q) ∧
  (∀ (d : Nat) (a : Nat) (w : px_H) (k : Nat) (Q : Option Value → px_H → Prop), wp d 66 4 [some (.ref a)] [] w k Q ↔ wp d 66 5 [some (.ref a)] [.ref a] w k Q) ∧
  (∀ (d : Nat) (l0 : Option Value) (s0 : Value)  (w : px_H) (k : Nat) (Q : Option Value → px_H → Prop), wp d 66 5 [l0] [s0] w k Q ↔ wp d 66 7 [l0] [.int 40, s0] w k Q) ∧
  (∀ (d : Nat) (l0 : Option Value) (s1 : Value)  (w : px_H) (k : Nat) (Q : Option Value → px_H → Prop) (hk : k + 1 ≤ 1), wp d 66 7 [l0] [.int 40, s1] w k Q ↔ wp d 66 9 [l0] [.ref w.1, s1] (px_add w (.inl (.int, 40, fun _ => 0))) (k + 1) Q) ∧
  (∀ (d : Nat) (l0 : Option Value) (a b : Nat) (w : px_H) (k : Nat) (Q : Option Value → px_H → Prop), wp d 66 9 [l0] [.ref b, .ref a] w k Q ↔ px_op (px_pfd w a [(6, 0)] 0 (.ref b)) (fun w' => wp d 66 12 [l0] [] w' k Q)) ∧
  (∀ (d : Nat) (a : Nat) (w : px_H) (k : Nat) (Q : Option Value → px_H → Prop), wp d 66 12 [some (.ref a)] [] w k Q ↔ wp d 66 13 [some (.ref a)] [.ref a] w k Q) ∧
  (∀ (d : Nat) (l0 : Option Value) (s0 : Value)  (w : px_H) (k : Nat) (Q : Option Value → px_H → Prop), wp d 66 13 [l0] [s0] w k Q ↔ wp d 66 14 [l0] [.int 0, s0] w k Q) ∧
  (∀ (d : Nat) (l0 : Option Value) (x : Int32) (a : Nat) (w : px_H) (k : Nat) (Q : Option Value → px_H → Prop), wp d 66 14 [l0] [.int x, .ref a] w k Q ↔ px_op (px_pfd w a [(6, 0)] 1 (.int x)) (fun w' => wp d 66 17 [l0] [] w' k Q)) ∧
  (∀ (d : Nat) (a : Nat) (w : px_H) (k : Nat) (Q : Option Value → px_H → Prop), wp d 66 17 [some (.ref a)] [] w k Q ↔ wp d 66 18 [some (.ref a)] [.ref a] w k Q) ∧
  (∀ (d : Nat) (l0 : Option Value) (s0 : Value)  (w : px_H) (k : Nat) (Q : Option Value → px_H → Prop), wp d 66 18 [l0] [s0] w k Q ↔ wp d 66 19 [l0] [.int (-1), s0] w k Q) ∧
  (∀ (d : Nat) (l0 : Option Value) (x : Int32) (a : Nat) (w : px_H) (k : Nat) (Q : Option Value → px_H → Prop), wp d 66 19 [l0] [.int x, .ref a] w k Q ↔ px_op (px_pfd w a [(6, 0)] 2 (.int x)) (fun w' => wp d 66 22 [l0] [] w' k Q)) ∧
  (∀ (d : Nat) (l0 : Option Value)  (w : px_H) (k : Nat) (Q : Option Value → px_H → Prop), wp d 66 22 [l0] [] w k Q ↔ Q none w) := ⟨fun d v0 w Q => r_entry pt_66 (Nat.le_of_ble_eq_true rfl) rfl,
  fun d a w k Q => px_go (q := (.aload_n 0, 1, px_x0)) (S' := (1, [some (.ref a)], [.ref a], w, k)) pt_66 rfl rfl,
  fun d l0 a w k Q => px_go (q := (.invokespecial 3, 3, (36, 0, [], 0, ""))) (S' := (4, [l0], [], w, k)) pt_66 rfl rfl,
  fun d a w k Q => px_go (q := (.aload_n 0, 1, px_x0)) (S' := (5, [some (.ref a)], [.ref a], w, k)) pt_66 rfl rfl,
  fun d l0 s0 w k Q => r_bipush pt_66 rfl (by decide),
  fun d l0 s1 w k Q hk => r_newarr pt_66 rfl rfl ⟨by decide, by decide, by decide⟩ hk,
  fun d l0 a b w k Q => r_put pt_66 rfl (by simp only [List.all_cons, List.all_nil, ft_6_0, px_fit, px_isr, Bool.and_self]),
  fun d a w k Q => px_go (q := (.aload_n 0, 1, px_x0)) (S' := (13, [some (.ref a)], [.ref a], w, k)) pt_66 rfl rfl,
  fun d l0 s0 w k Q => r_iconst pt_66 rfl (by decide),
  fun d l0 x a w k Q => r_put pt_66 rfl (by simp only [List.all_cons, List.all_nil, ft_6_1, px_fit, px_isr, Bool.and_self]),
  fun d a w k Q => px_go (q := (.aload_n 0, 1, px_x0)) (S' := (18, [some (.ref a)], [.ref a], w, k)) pt_66 rfl rfl,
  fun d l0 s0 w k Q => r_iconst pt_66 rfl (by decide),
  fun d l0 x a w k Q => r_put pt_66 rfl (by simp only [List.all_cons, List.all_nil, ft_6_2, px_fit, px_isr, Bool.and_self]),
  fun d l0 w k Q => px_ret (q := (.return_, 1, px_x0)) pt_66 rfl rfl⟩
/-- AllSworn$Row.isMissing()Z -/
theorem S67 : (∀ (d : Nat) (v0 : Value) (w : px_H) (Q : Option Value → px_H → Prop), wc d 67 [v0] w Q ↔ wp d 67 0 [some v0] [] w 0 Q) ∧
  (∀ (d : Nat) (a : Nat) (w : px_H) (Q : Option Value → px_H → Prop), wp d 67 0 [some (.ref a)] [] w 0 Q ↔ wp d 67 1 [some (.ref a)] [.ref a] w 0 Q) ∧
  (∀ (d : Nat) (l0 : Option Value) (a : Nat) (w : px_H) (Q : Option Value → px_H → Prop), wp d 67 1 [l0] [.ref a] w 0 Q ↔ px_op (px_fld w a [(6, 0)] 2) (fun v => wp d 67 4 [l0] [v] w 0 Q)) ∧
  (∀ (d : Nat) (l0 : Option Value) (s0 : Value)  (w : px_H) (Q : Option Value → px_H → Prop), wp d 67 4 [l0] [s0] w 0 Q ↔ wp d 67 5 [l0] [.int (-1), s0] w 0 Q) ∧
  (∀ (d : Nat) (l0 : Option Value) (x y : Int32) (w : px_H) (Q : Option Value → px_H → Prop), wp d 67 5 [l0] [.int y, .int x] w 0 Q ↔ if x = y then wp d 67 8 [l0] [] w 0 Q else wp d 67 12 [l0] [] w 0 Q) ∧
  (∀ (d : Nat) (l0 : Option Value)  (w : px_H) (Q : Option Value → px_H → Prop), wp d 67 8 [l0] [] w 0 Q ↔ wp d 67 9 [l0] [.int 1] w 0 Q) ∧
  (∀ (d : Nat) (l0 : Option Value) (s0 : Value)  (w : px_H) (Q : Option Value → px_H → Prop), wp d 67 9 [l0] [s0] w 0 Q ↔ wp d 67 13 [l0] [s0] w 0 Q) ∧
  (∀ (d : Nat) (l0 : Option Value)  (w : px_H) (Q : Option Value → px_H → Prop), wp d 67 12 [l0] [] w 0 Q ↔ wp d 67 13 [l0] [.int 0] w 0 Q) ∧
  (∀ (d : Nat) (l0 : Option Value) (x : Int32) (w : px_H) (Q : Option Value → px_H → Prop), wp d 67 13 [l0] [.int x] w 0 Q ↔ (x = 0 ∨ x = 1) ∧ Q (some (.int x)) w) := ⟨fun d v0 w Q => r_entry pt_67 (Nat.le_of_ble_eq_true rfl) rfl,
  fun d a w Q => px_go (q := (.aload_n 0, 1, px_x0)) (S' := (1, [some (.ref a)], [.ref a], w, 0)) pt_67 rfl rfl,
  fun d l0 a w Q => px_goO (q := (.getfield 19, 3, (10, 2, [(6, 0)], 0, "AllSworn$Row"))) (S' := fun v => (4, [l0], [v], w, 0)) pt_67 rfl rfl,
  fun d l0 s0 w Q => r_iconst pt_67 rfl (by decide),
  fun d l0 x y w Q => r_icmp_ne pt_67 rfl rfl,
  fun d l0 w Q => r_iconst pt_67 rfl (by decide),
  fun d l0 s0 w Q => r_goto pt_67 rfl rfl,
  fun d l0 w Q => r_iconst pt_67 rfl (by decide),
  fun d l0 x w Q => px_retI (q := (.ireturn, 1, px_x0)) pt_67 rfl rfl⟩
/-- AllSworn$Row.vanish()V -/
theorem S68 : (∀ (d : Nat) (v0 : Value) (w : px_H) (Q : Option Value → px_H → Prop), wc d 68 [v0] w Q ↔ wp d 68 0 [some v0] [] w 0 Q) ∧
  (∀ (d : Nat) (a : Nat) (w : px_H) (Q : Option Value → px_H → Prop), wp d 68 0 [some (.ref a)] [] w 0 Q ↔ wp d 68 1 [some (.ref a)] [.ref a] w 0 Q) ∧
  (∀ (d : Nat) (l0 : Option Value) (s0 : Value)  (w : px_H) (Q : Option Value → px_H → Prop), wp d 68 1 [l0] [s0] w 0 Q ↔ wp d 68 2 [l0] [.int (-1), s0] w 0 Q) ∧
  (∀ (d : Nat) (l0 : Option Value) (x : Int32) (a : Nat) (w : px_H) (Q : Option Value → px_H → Prop), wp d 68 2 [l0] [.int x, .ref a] w 0 Q ↔ px_op (px_pfd w a [(6, 0)] 2 (.int x)) (fun w' => wp d 68 5 [l0] [] w' 0 Q)) ∧
  (∀ (d : Nat) (l0 : Option Value)  (w : px_H) (Q : Option Value → px_H → Prop), wp d 68 5 [l0] [] w 0 Q ↔ Q none w) := ⟨fun d v0 w Q => r_entry pt_68 (Nat.le_of_ble_eq_true rfl) rfl,
  fun d a w Q => px_go (q := (.aload_n 0, 1, px_x0)) (S' := (1, [some (.ref a)], [.ref a], w, 0)) pt_68 rfl rfl,
  fun d l0 s0 w Q => r_iconst pt_68 rfl (by decide),
  fun d l0 x a w Q => r_put pt_68 rfl (by simp only [List.all_cons, List.all_nil, ft_6_2, px_fit, px_isr, Bool.and_self]),
  fun d l0 w Q => px_ret (q := (.return_, 1, px_x0)) pt_68 rfl rfl⟩
/-- AllSworn$Row.lay(II)V -/
theorem S69 : (∀ (d : Nat) (v0 v1 v2 : Value) (w : px_H) (Q : Option Value → px_H → Prop), wc d 69 [v0, v1, v2] w Q ↔ wp d 69 0 [some v0, some v1, some v2] [] w 0 Q) ∧
  (∀ (d : Nat) (l1 l2 : Option Value) (a : Nat) (w : px_H) (Q : Option Value → px_H → Prop), wp d 69 0 [some (.ref a), l1, l2] [] w 0 Q ↔ wp d 69 1 [some (.ref a), l1, l2] [.ref a] w 0 Q) ∧
  (∀ (d : Nat) (l0 l2 : Option Value) (s0 : Value) (x : Int32) (w : px_H) (Q : Option Value → px_H → Prop), wp d 69 1 [l0, some (.int x), l2] [s0] w 0 Q ↔ wp d 69 2 [l0, some (.int x), l2] [.int x, s0] w 0 Q) ∧
  (∀ (d : Nat) (l0 l1 l2 : Option Value) (x : Int32) (a : Nat) (w : px_H) (Q : Option Value → px_H → Prop), wp d 69 2 [l0, l1, l2] [.int x, .ref a] w 0 Q ↔ px_op (px_pfd w a [(6, 0)] 1 (.int x)) (fun w' => wp d 69 5 [l0, l1, l2] [] w' 0 Q)) ∧
  (∀ (d : Nat) (l1 l2 : Option Value) (a : Nat) (w : px_H) (Q : Option Value → px_H → Prop), wp d 69 5 [some (.ref a), l1, l2] [] w 0 Q ↔ wp d 69 6 [some (.ref a), l1, l2] [.ref a] w 0 Q) ∧
  (∀ (d : Nat) (l0 l1 : Option Value) (s0 : Value) (x : Int32) (w : px_H) (Q : Option Value → px_H → Prop), wp d 69 6 [l0, l1, some (.int x)] [s0] w 0 Q ↔ wp d 69 7 [l0, l1, some (.int x)] [.int x, s0] w 0 Q) ∧
  (∀ (d : Nat) (l0 l1 l2 : Option Value) (x : Int32) (a : Nat) (w : px_H) (Q : Option Value → px_H → Prop), wp d 69 7 [l0, l1, l2] [.int x, .ref a] w 0 Q ↔ px_op (px_pfd w a [(6, 0)] 2 (.int x)) (fun w' => wp d 69 10 [l0, l1, l2] [] w' 0 Q)) ∧
  (∀ (d : Nat) (l1 l2 : Option Value) (a : Nat) (w : px_H) (Q : Option Value → px_H → Prop), wp d 69 10 [some (.ref a), l1, l2] [] w 0 Q ↔ wp d 69 11 [some (.ref a), l1, l2] [.ref a] w 0 Q) ∧
  (∀ (d : Nat) (l0 l1 l2 : Option Value) (a : Nat) (w : px_H) (Q : Option Value → px_H → Prop), wp d 69 11 [l0, l1, l2] [.ref a] w 0 Q ↔ px_op (px_fld w a [(6, 0)] 0) (fun v => wp d 69 14 [l0, l1, l2] [v] w 0 Q)) ∧
  (∀ (d : Nat) (l0 l1 l2 : Option Value) (s0 : Value)  (w : px_H) (Q : Option Value → px_H → Prop), wp d 69 14 [l0, l1, l2] [s0] w 0 Q ↔ wp d 69 15 [l0, l1, l2] [.int 0, s0] w 0 Q) ∧
  (∀ (d : Nat) (l0 l1 l2 : Option Value) (v0 v1 : Value) (w : px_H) (Q : Option Value → px_H → Prop), wp (d + 1) 69 15 [l0, l1, l2] [v1, v0] w 0 Q ↔ wc d 223 [v0, v1] w (fun r w' => wp (d + 1) 69 18 [l0, l1, l2] (r.toList ++ []) w' 0 Q)) ∧
  (∀ (d : Nat) (l0 l1 l2 : Option Value)  (w : px_H) (Q : Option Value → px_H → Prop), wp d 69 18 [l0, l1, l2] [] w 0 Q ↔ Q none w) := ⟨fun d v0 v1 v2 w Q => r_entry pt_69 (Nat.le_of_ble_eq_true rfl) rfl,
  fun d l1 l2 a w Q => px_go (q := (.aload_n 0, 1, px_x0)) (S' := (1, [some (.ref a), l1, l2], [.ref a], w, 0)) pt_69 rfl rfl,
  fun d l0 l2 s0 x w Q => px_go (q := (.iload_n 1, 1, px_x0)) (S' := (2, [l0, some (.int x), l2], [.int x, s0], w, 0)) pt_69 rfl rfl,
  fun d l0 l1 l2 x a w Q => r_put pt_69 rfl (by simp only [List.all_cons, List.all_nil, ft_6_1, px_fit, px_isr, Bool.and_self]),
  fun d l1 l2 a w Q => px_go (q := (.aload_n 0, 1, px_x0)) (S' := (6, [some (.ref a), l1, l2], [.ref a], w, 0)) pt_69 rfl rfl,
  fun d l0 l1 s0 x w Q => px_go (q := (.iload_n 2, 1, px_x0)) (S' := (7, [l0, l1, some (.int x)], [.int x, s0], w, 0)) pt_69 rfl rfl,
  fun d l0 l1 l2 x a w Q => r_put pt_69 rfl (by simp only [List.all_cons, List.all_nil, ft_6_2, px_fit, px_isr, Bool.and_self]),
  fun d l1 l2 a w Q => px_go (q := (.aload_n 0, 1, px_x0)) (S' := (11, [some (.ref a), l1, l2], [.ref a], w, 0)) pt_69 rfl rfl,
  fun d l0 l1 l2 a w Q => px_goO (q := (.getfield 9, 3, (10, 0, [(6, 0)], 0, "AllSworn$Row"))) (S' := fun v => (14, [l0, l1, l2], [v], w, 0)) pt_69 rfl rfl,
  fun d l0 l1 l2 s0 w Q => r_iconst pt_69 rfl (by decide),
  fun d l0 l1 l2 v0 v1 w Q => r_call (q := (.invokestatic 22, 3, (30, 2, [(0, 223)], 0, ""))) pt_69 rfl rfl pt_223 (Nat.le_of_ble_eq_true rfl) (Nat.le_of_ble_eq_true rfl) rfl,
  fun d l0 l1 l2 w Q => px_ret (q := (.return_, 1, px_x0)) pt_69 rfl rfl⟩
/-- AllSworn$Row.spans(II)Z -/
theorem S70 : (∀ (d : Nat) (v0 v1 v2 : Value) (w : px_H) (Q : Option Value → px_H → Prop), wc d 70 [v0, v1, v2] w Q ↔ wp d 70 0 [some v0, some v1, some v2] [] w 0 Q) ∧
  (∀ (d : Nat) (l0 l2 : Option Value) (x : Int32) (w : px_H) (Q : Option Value → px_H → Prop), wp d 70 0 [l0, some (.int x), l2] [] w 0 Q ↔ wp d 70 1 [l0, some (.int x), l2] [.int x] w 0 Q) ∧
  (∀ (d : Nat) (l0 l1 l2 : Option Value) (x : Int32) (w : px_H) (Q : Option Value → px_H → Prop), wp d 70 1 [l0, l1, l2] [.int x] w 0 Q ↔ if x < 0 then wp d 70 22 [l0, l1, l2] [] w 0 Q else wp d 70 4 [l0, l1, l2] [] w 0 Q) ∧
  (∀ (d : Nat) (l0 l1 : Option Value) (x : Int32) (w : px_H) (Q : Option Value → px_H → Prop), wp d 70 4 [l0, l1, some (.int x)] [] w 0 Q ↔ wp d 70 5 [l0, l1, some (.int x)] [.int x] w 0 Q) ∧
  (∀ (d : Nat) (l0 l1 l2 : Option Value) (x : Int32) (w : px_H) (Q : Option Value → px_H → Prop), wp d 70 5 [l0, l1, l2] [.int x] w 0 Q ↔ if x < 0 then wp d 70 22 [l0, l1, l2] [] w 0 Q else wp d 70 8 [l0, l1, l2] [] w 0 Q) ∧
  (∀ (d : Nat) (l0 l2 : Option Value) (x : Int32) (w : px_H) (Q : Option Value → px_H → Prop), wp d 70 8 [l0, some (.int x), l2] [] w 0 Q ↔ wp d 70 9 [l0, some (.int x), l2] [.int x] w 0 Q) ∧
  (∀ (d : Nat) (l1 l2 : Option Value) (s0 : Value) (a : Nat) (w : px_H) (Q : Option Value → px_H → Prop), wp d 70 9 [some (.ref a), l1, l2] [s0] w 0 Q ↔ wp d 70 10 [some (.ref a), l1, l2] [.ref a, s0] w 0 Q) ∧
  (∀ (d : Nat) (l0 l1 l2 : Option Value) (s1 : Value) (a : Nat) (w : px_H) (Q : Option Value → px_H → Prop), wp d 70 10 [l0, l1, l2] [.ref a, s1] w 0 Q ↔ px_op (px_fld w a [(6, 0)] 2) (fun v => wp d 70 13 [l0, l1, l2] [v, s1] w 0 Q)) ∧
  (∀ (d : Nat) (l0 l1 : Option Value) (s0 s1 : Value) (x : Int32) (w : px_H) (Q : Option Value → px_H → Prop), wp d 70 13 [l0, l1, some (.int x)] [s0, s1] w 0 Q ↔ wp d 70 14 [l0, l1, some (.int x)] [.int x, s0, s1] w 0 Q) ∧
  (∀ (d : Nat) (l0 l1 l2 : Option Value) (s2 : Value) (x y : Int32) (w : px_H) (Q : Option Value → px_H → Prop), wp d 70 14 [l0, l1, l2] [.int y, .int x, s2] w 0 Q ↔ wp d 70 15 [l0, l1, l2] [.int (x - y), s2] w 0 Q) ∧
  (∀ (d : Nat) (l0 l1 l2 : Option Value) (x y : Int32) (w : px_H) (Q : Option Value → px_H → Prop), wp d 70 15 [l0, l1, l2] [.int y, .int x] w 0 Q ↔ if y < x then wp d 70 22 [l0, l1, l2] [] w 0 Q else wp d 70 18 [l0, l1, l2] [] w 0 Q) ∧
  (∀ (d : Nat) (l0 l1 l2 : Option Value)  (w : px_H) (Q : Option Value → px_H → Prop), wp d 70 18 [l0, l1, l2] [] w 0 Q ↔ wp d 70 19 [l0, l1, l2] [.int 1] w 0 Q) ∧
  (∀ (d : Nat) (l0 l1 l2 : Option Value) (s0 : Value)  (w : px_H) (Q : Option Value → px_H → Prop), wp d 70 19 [l0, l1, l2] [s0] w 0 Q ↔ wp d 70 23 [l0, l1, l2] [s0] w 0 Q) ∧
  (∀ (d : Nat) (l0 l1 l2 : Option Value)  (w : px_H) (Q : Option Value → px_H → Prop), wp d 70 22 [l0, l1, l2] [] w 0 Q ↔ wp d 70 23 [l0, l1, l2] [.int 0] w 0 Q) ∧
  (∀ (d : Nat) (l0 l1 l2 : Option Value) (x : Int32) (w : px_H) (Q : Option Value → px_H → Prop), wp d 70 23 [l0, l1, l2] [.int x] w 0 Q ↔ (x = 0 ∨ x = 1) ∧ Q (some (.int x)) w) := ⟨fun d v0 v1 v2 w Q => r_entry pt_70 (Nat.le_of_ble_eq_true rfl) rfl,
  fun d l0 l2 x w Q => px_go (q := (.iload_n 1, 1, px_x0)) (S' := (1, [l0, some (.int x), l2], [.int x], w, 0)) pt_70 rfl rfl,
  fun d l0 l1 l2 x w Q => r_if_lt pt_70 rfl rfl,
  fun d l0 l1 x w Q => px_go (q := (.iload_n 2, 1, px_x0)) (S' := (5, [l0, l1, some (.int x)], [.int x], w, 0)) pt_70 rfl rfl,
  fun d l0 l1 l2 x w Q => r_if_lt pt_70 rfl rfl,
  fun d l0 l2 x w Q => px_go (q := (.iload_n 1, 1, px_x0)) (S' := (9, [l0, some (.int x), l2], [.int x], w, 0)) pt_70 rfl rfl,
  fun d l1 l2 s0 a w Q => px_go (q := (.aload_n 0, 1, px_x0)) (S' := (10, [some (.ref a), l1, l2], [.ref a, s0], w, 0)) pt_70 rfl rfl,
  fun d l0 l1 l2 s1 a w Q => px_goO (q := (.getfield 19, 3, (10, 2, [(6, 0)], 0, "AllSworn$Row"))) (S' := fun v => (13, [l0, l1, l2], [v, s1], w, 0)) pt_70 rfl rfl,
  fun d l0 l1 s0 s1 x w Q => px_go (q := (.iload_n 2, 1, px_x0)) (S' := (14, [l0, l1, some (.int x)], [.int x, s0, s1], w, 0)) pt_70 rfl rfl,
  fun d l0 l1 l2 s2 x y w Q => px_go (q := (.isub, 1, px_x0)) (S' := (15, [l0, l1, l2], [.int (x - y), s2], w, 0)) pt_70 rfl rfl,
  fun d l0 l1 l2 x y w Q => r_icmp_gt pt_70 rfl rfl,
  fun d l0 l1 l2 w Q => r_iconst pt_70 rfl (by decide),
  fun d l0 l1 l2 s0 w Q => r_goto pt_70 rfl rfl,
  fun d l0 l1 l2 w Q => r_iconst pt_70 rfl (by decide),
  fun d l0 l1 l2 x w Q => px_retI (q := (.ireturn, 1, px_x0)) pt_70 rfl rfl⟩
/-- AllSworn$Row.put(II)I -/
theorem S71 : (∀ (d : Nat) (v0 v1 v2 : Value) (w : px_H) (Q : Option Value → px_H → Prop), wc d 71 [v0, v1, v2] w Q ↔ wp d 71 0 [some v0, some v1, some v2] [] w 0 Q) ∧
  (∀ (d : Nat) (l1 l2 : Option Value) (a : Nat) (w : px_H) (Q : Option Value → px_H → Prop), wp d 71 0 [some (.ref a), l1, l2] [] w 0 Q ↔ wp d 71 1 [some (.ref a), l1, l2] [.ref a] w 0 Q) ∧
  (∀ (d : Nat) (l0 l2 : Option Value) (s0 : Value) (x : Int32) (w : px_H) (Q : Option Value → px_H → Prop), wp d 71 1 [l0, some (.int x), l2] [s0] w 0 Q ↔ wp d 71 2 [l0, some (.int x), l2] [.int x, s0] w 0 Q) ∧
  (∀ (d : Nat) (l0 l1 l2 : Option Value) (s0 s1 : Value)  (w : px_H) (Q : Option Value → px_H → Prop), wp d 71 2 [l0, l1, l2] [s0, s1] w 0 Q ↔ wp d 71 3 [l0, l1, l2] [.int 1, s0, s1] w 0 Q) ∧
  (∀ (d : Nat) (l0 l1 l2 : Option Value) (v0 v1 : Value) (b : Nat) (w : px_H) (Q : Option Value → px_H → Prop), wp (d + 1) 71 3 [l0, l1, l2] [v1, v0, .ref b] w 0 Q ↔ px_op (px_tgt w b [(6, 70)]) (fun v => wc d v [.ref b, v0, v1] w (fun r w' => wp (d + 1) 71 6 [l0, l1, l2] (r.toList ++ []) w' 0 Q))) ∧
  (∀ (d : Nat) (l0 l1 l2 : Option Value) (x : Int32) (w : px_H) (Q : Option Value → px_H → Prop), wp d 71 6 [l0, l1, l2] [.int x] w 0 Q ↔ if x = 0 then wp d 71 9 [l0, l1, l2] [] w 0 Q else wp d 71 11 [l0, l1, l2] [] w 0 Q) ∧
  (∀ (d : Nat) (l0 l1 l2 : Option Value)  (w : px_H) (Q : Option Value → px_H → Prop), wp d 71 9 [l0, l1, l2] [] w 0 Q ↔ wp d 71 10 [l0, l1, l2] [.int 0] w 0 Q) ∧
  (∀ (d : Nat) (l0 l1 l2 : Option Value) (x : Int32) (w : px_H) (Q : Option Value → px_H → Prop), wp d 71 10 [l0, l1, l2] [.int x] w 0 Q ↔ Q (some (.int x)) w) ∧
  (∀ (d : Nat) (l1 l2 : Option Value) (a : Nat) (w : px_H) (Q : Option Value → px_H → Prop), wp d 71 11 [some (.ref a), l1, l2] [] w 0 Q ↔ wp d 71 12 [some (.ref a), l1, l2] [.ref a] w 0 Q) ∧
  (∀ (d : Nat) (l0 l1 l2 : Option Value) (a : Nat) (w : px_H) (Q : Option Value → px_H → Prop), wp d 71 12 [l0, l1, l2] [.ref a] w 0 Q ↔ px_op (px_fld w a [(6, 0)] 0) (fun v => wp d 71 15 [l0, l1, l2] [v] w 0 Q)) ∧
  (∀ (d : Nat) (l0 l2 : Option Value) (s0 : Value) (x : Int32) (w : px_H) (Q : Option Value → px_H → Prop), wp d 71 15 [l0, some (.int x), l2] [s0] w 0 Q ↔ wp d 71 16 [l0, some (.int x), l2] [.int x, s0] w 0 Q) ∧
  (∀ (d : Nat) (l1 l2 : Option Value) (s0 s1 : Value) (a : Nat) (w : px_H) (Q : Option Value → px_H → Prop), wp d 71 16 [some (.ref a), l1, l2] [s0, s1] w 0 Q ↔ wp d 71 17 [some (.ref a), l1, l2] [.ref a, s0, s1] w 0 Q) ∧
  (∀ (d : Nat) (l0 l1 : Option Value) (s0 s1 s2 : Value) (x : Int32) (w : px_H) (Q : Option Value → px_H → Prop), wp d 71 17 [l0, l1, some (.int x)] [s0, s1, s2] w 0 Q ↔ wp d 71 18 [l0, l1, some (.int x)] [.int x, s0, s1, s2] w 0 Q) ∧
  (∀ (d : Nat) (l0 l1 l2 : Option Value) (s2 s3 : Value) (v0 : Value) (b : Nat) (w : px_H) (Q : Option Value → px_H → Prop), wp (d + 1) 71 18 [l0, l1, l2] [v0, .ref b, s2, s3] w 0 Q ↔ px_op (px_tgt w b [(6, 75)]) (fun v => wc d v [.ref b, v0] w (fun r w' => wp (d + 1) 71 21 [l0, l1, l2] (r.toList ++ [s2, s3]) w' 0 Q))) ∧
  (∀ (d : Nat) (l0 l1 l2 : Option Value) (x i : Int32) (a : Nat) (w : px_H) (Q : Option Value → px_H → Prop), wp d 71 21 [l0, l1, l2] [.int x, .int i, .ref a] w 0 Q ↔ px_op (px_ast w a i x .int) (fun w' => wp d 71 22 [l0, l1, l2] [] w' 0 Q)) ∧
  (∀ (d : Nat) (l1 l2 : Option Value) (a : Nat) (w : px_H) (Q : Option Value → px_H → Prop), wp d 71 22 [some (.ref a), l1, l2] [] w 0 Q ↔ wp d 71 23 [some (.ref a), l1, l2] [.ref a] w 0 Q) ∧
  (∀ (d : Nat) (l0 l1 l2 : Option Value) (a : Nat) (w : px_H) (Q : Option Value → px_H → Prop), wp d 71 23 [l0, l1, l2] [.ref a] w 0 Q ↔ px_op (px_fld w a [(6, 0)] 0) (fun v => wp d 71 26 [l0, l1, l2] [v] w 0 Q)) ∧
  (∀ (d : Nat) (l0 l2 : Option Value) (s0 : Value) (x : Int32) (w : px_H) (Q : Option Value → px_H → Prop), wp d 71 26 [l0, some (.int x), l2] [s0] w 0 Q ↔ wp d 71 27 [l0, some (.int x), l2] [.int x, s0] w 0 Q) ∧
  (∀ (d : Nat) (l0 l1 l2 : Option Value) (i : Int32) (a : Nat) (w : px_H) (Q : Option Value → px_H → Prop), wp d 71 27 [l0, l1, l2] [.int i, .ref a] w 0 Q ↔ px_op (px_ald w a i .int) (fun x => wp d 71 28 [l0, l1, l2] [.int x] w 0 Q)) ∧
  (∀ (d : Nat) (l0 l1 l2 : Option Value) (x : Int32) (w : px_H) (Q : Option Value → px_H → Prop), wp d 71 28 [l0, l1, l2] [.int x] w 0 Q ↔ Q (some (.int x)) w) := ⟨fun d v0 v1 v2 w Q => r_entry pt_71 (Nat.le_of_ble_eq_true rfl) rfl,
  fun d l1 l2 a w Q => px_go (q := (.aload_n 0, 1, px_x0)) (S' := (1, [some (.ref a), l1, l2], [.ref a], w, 0)) pt_71 rfl rfl,
  fun d l0 l2 s0 x w Q => px_go (q := (.iload_n 1, 1, px_x0)) (S' := (2, [l0, some (.int x), l2], [.int x, s0], w, 0)) pt_71 rfl rfl,
  fun d l0 l1 l2 s0 s1 w Q => r_iconst pt_71 rfl (by decide),
  fun d l0 l1 l2 v0 v1 b w Q => r_callV (q := (.invokevirtual 28, 3, (33, 2, [(6, 70)], 0, ""))) pt_71 rfl rfl (List.forall_mem_cons.mpr ⟨⟨_, pt_70, Nat.le_of_ble_eq_true rfl, (Nat.le_of_ble_eq_true rfl), rfl⟩, fun _ h => absurd h List.not_mem_nil⟩),
  fun d l0 l1 l2 x w Q => r_if_ne pt_71 rfl rfl,
  fun d l0 l1 l2 w Q => r_iconst pt_71 rfl (by decide),
  fun d l0 l1 l2 x w Q => px_ret (q := (.ireturn, 1, px_x0)) pt_71 rfl rfl,
  fun d l1 l2 a w Q => px_go (q := (.aload_n 0, 1, px_x0)) (S' := (12, [some (.ref a), l1, l2], [.ref a], w, 0)) pt_71 rfl rfl,
  fun d l0 l1 l2 a w Q => px_goO (q := (.getfield 9, 3, (10, 0, [(6, 0)], 0, "AllSworn$Row"))) (S' := fun v => (15, [l0, l1, l2], [v], w, 0)) pt_71 rfl rfl,
  fun d l0 l2 s0 x w Q => px_go (q := (.iload_n 1, 1, px_x0)) (S' := (16, [l0, some (.int x), l2], [.int x, s0], w, 0)) pt_71 rfl rfl,
  fun d l1 l2 s0 s1 a w Q => px_go (q := (.aload_n 0, 1, px_x0)) (S' := (17, [some (.ref a), l1, l2], [.ref a, s0, s1], w, 0)) pt_71 rfl rfl,
  fun d l0 l1 s0 s1 s2 x w Q => px_go (q := (.iload_n 2, 1, px_x0)) (S' := (18, [l0, l1, some (.int x)], [.int x, s0, s1, s2], w, 0)) pt_71 rfl rfl,
  fun d l0 l1 l2 s2 s3 v0 b w Q => r_callV (q := (.invokevirtual 32, 3, (33, 1, [(6, 75)], 0, ""))) pt_71 rfl rfl (List.forall_mem_cons.mpr ⟨⟨_, pt_75, Nat.le_of_ble_eq_true rfl, (Nat.le_of_ble_eq_true rfl), rfl⟩, fun _ h => absurd h List.not_mem_nil⟩),
  fun d l0 l1 l2 x i a w Q => px_goO (q := (.iastore, 1, px_x0)) (S' := fun w' => (22, [l0, l1, l2], [], w', 0)) pt_71 rfl rfl,
  fun d l1 l2 a w Q => px_go (q := (.aload_n 0, 1, px_x0)) (S' := (23, [some (.ref a), l1, l2], [.ref a], w, 0)) pt_71 rfl rfl,
  fun d l0 l1 l2 a w Q => px_goO (q := (.getfield 9, 3, (10, 0, [(6, 0)], 0, "AllSworn$Row"))) (S' := fun v => (26, [l0, l1, l2], [v], w, 0)) pt_71 rfl rfl,
  fun d l0 l2 s0 x w Q => px_go (q := (.iload_n 1, 1, px_x0)) (S' := (27, [l0, some (.int x), l2], [.int x, s0], w, 0)) pt_71 rfl rfl,
  fun d l0 l1 l2 i a w Q => px_goO (q := (.iaload, 1, px_x0)) (S' := fun x => (28, [l0, l1, l2], [.int x], w, 0)) pt_71 rfl rfl,
  fun d l0 l1 l2 x w Q => px_ret (q := (.ireturn, 1, px_x0)) pt_71 rfl rfl⟩
/-- AllSworn$Row.takeFrom(LAllSworn$Row;III)V -/
theorem S72 : (∀ (d : Nat) (v0 v1 v2 v3 v4 : Value) (w : px_H) (Q : Option Value → px_H → Prop), wc d 72 [v0, v1, v2, v3, v4] w Q ↔ wp d 72 0 [some v0, some v1, some v2, some v3, some v4] [] w 0 Q) ∧
  (∀ (d : Nat) (l0 l2 l3 l4 : Option Value) (a : Nat) (w : px_H) (Q : Option Value → px_H → Prop), wp d 72 0 [l0, some (.ref a), l2, l3, l4] [] w 0 Q ↔ wp d 72 1 [l0, some (.ref a), l2, l3, l4] [.ref a] w 0 Q) ∧
  (∀ (d : Nat) (l0 l2 l3 l4 : Option Value)  (w : px_H) (Q : Option Value → px_H → Prop), wp d 72 0 [l0, some .null, l2, l3, l4] [] w 0 Q ↔ wp d 72 1 [l0, some .null, l2, l3, l4] [.null] w 0 Q) ∧
  (∀ (d : Nat) (l0 l1 l3 l4 : Option Value) (s0 : Value) (x : Int32) (w : px_H) (Q : Option Value → px_H → Prop), wp d 72 1 [l0, l1, some (.int x), l3, l4] [s0] w 0 Q ↔ wp d 72 2 [l0, l1, some (.int x), l3, l4] [.int x, s0] w 0 Q) ∧
  (∀ (d : Nat) (l0 l1 l2 l3 : Option Value) (s0 s1 : Value) (x : Int32) (w : px_H) (Q : Option Value → px_H → Prop), wp d 72 2 [l0, l1, l2, l3, some (.int x)] [s0, s1] w 0 Q ↔ wp d 72 4 [l0, l1, l2, l3, some (.int x)] [.int x, s0, s1] w 0 Q) ∧
  (∀ (d : Nat) (l0 l1 l2 l3 l4 : Option Value) (v0 v1 : Value) (b : Nat) (w : px_H) (Q : Option Value → px_H → Prop), wp (d + 1) 72 4 [l0, l1, l2, l3, l4] [v1, v0, .ref b] w 0 Q ↔ px_op (px_tgt w b [(6, 70)]) (fun v => wc d v [.ref b, v0, v1] w (fun r w' => wp (d + 1) 72 7 [l0, l1, l2, l3, l4] (r.toList ++ []) w' 0 Q))) ∧
  (∀ (d : Nat) (l0 l1 l2 l3 l4 : Option Value) (x : Int32) (w : px_H) (Q : Option Value → px_H → Prop), wp d 72 7 [l0, l1, l2, l3, l4] [.int x] w 0 Q ↔ if x = 0 then wp d 72 35 [l0, l1, l2, l3, l4] [] w 0 Q else wp d 72 10 [l0, l1, l2, l3, l4] [] w 0 Q) ∧
  (∀ (d : Nat) (l1 l2 l3 l4 : Option Value) (a : Nat) (w : px_H) (Q : Option Value → px_H → Prop), wp d 72 10 [some (.ref a), l1, l2, l3, l4] [] w 0 Q ↔ wp d 72 11 [some (.ref a), l1, l2, l3, l4] [.ref a] w 0 Q) ∧
  (∀ (d : Nat) (l0 l1 l2 l4 : Option Value) (s0 : Value) (x : Int32) (w : px_H) (Q : Option Value → px_H → Prop), wp d 72 11 [l0, l1, l2, some (.int x), l4] [s0] w 0 Q ↔ wp d 72 12 [l0, l1, l2, some (.int x), l4] [.int x, s0] w 0 Q) ∧
  (∀ (d : Nat) (l0 l1 l2 l3 : Option Value) (s0 s1 : Value) (x : Int32) (w : px_H) (Q : Option Value → px_H → Prop), wp d 72 12 [l0, l1, l2, l3, some (.int x)] [s0, s1] w 0 Q ↔ wp d 72 14 [l0, l1, l2, l3, some (.int x)] [.int x, s0, s1] w 0 Q) ∧
  (∀ (d : Nat) (l0 l1 l2 l3 l4 : Option Value) (v0 v1 : Value) (b : Nat) (w : px_H) (Q : Option Value → px_H → Prop), wp (d + 1) 72 14 [l0, l1, l2, l3, l4] [v1, v0, .ref b] w 0 Q ↔ px_op (px_tgt w b [(6, 70)]) (fun v => wc d v [.ref b, v0, v1] w (fun r w' => wp (d + 1) 72 17 [l0, l1, l2, l3, l4] (r.toList ++ []) w' 0 Q))) ∧
  (∀ (d : Nat) (l0 l1 l2 l3 l4 : Option Value) (x : Int32) (w : px_H) (Q : Option Value → px_H → Prop), wp d 72 17 [l0, l1, l2, l3, l4] [.int x] w 0 Q ↔ if x = 0 then wp d 72 35 [l0, l1, l2, l3, l4] [] w 0 Q else wp d 72 20 [l0, l1, l2, l3, l4] [] w 0 Q) ∧
  (∀ (d : Nat) (l0 l2 l3 l4 : Option Value) (a : Nat) (w : px_H) (Q : Option Value → px_H → Prop), wp d 72 20 [l0, some (.ref a), l2, l3, l4] [] w 0 Q ↔ wp d 72 21 [l0, some (.ref a), l2, l3, l4] [.ref a] w 0 Q) ∧
  (∀ (d : Nat) (l0 l2 l3 l4 : Option Value)  (w : px_H) (Q : Option Value → px_H → Prop), wp d 72 20 [l0, some .null, l2, l3, l4] [] w 0 Q ↔ wp d 72 21 [l0, some .null, l2, l3, l4] [.null] w 0 Q) ∧
  (∀ (d : Nat) (l0 l1 l2 l3 l4 : Option Value) (a : Nat) (w : px_H) (Q : Option Value → px_H → Prop), wp d 72 21 [l0, l1, l2, l3, l4] [.ref a] w 0 Q ↔ px_op (px_fld w a [(6, 0)] 0) (fun v => wp d 72 24 [l0, l1, l2, l3, l4] [v] w 0 Q)) ∧
  (∀ (d : Nat) (l0 l1 l3 l4 : Option Value) (s0 : Value) (x : Int32) (w : px_H) (Q : Option Value → px_H → Prop), wp d 72 24 [l0, l1, some (.int x), l3, l4] [s0] w 0 Q ↔ wp d 72 25 [l0, l1, some (.int x), l3, l4] [.int x, s0] w 0 Q) ∧
  (∀ (d : Nat) (l1 l2 l3 l4 : Option Value) (s0 s1 : Value) (a : Nat) (w : px_H) (Q : Option Value → px_H → Prop), wp d 72 25 [some (.ref a), l1, l2, l3, l4] [s0, s1] w 0 Q ↔ wp d 72 26 [some (.ref a), l1, l2, l3, l4] [.ref a, s0, s1] w 0 Q) ∧
  (∀ (d : Nat) (l0 l1 l2 l3 l4 : Option Value) (s1 s2 : Value) (a : Nat) (w : px_H) (Q : Option Value → px_H → Prop), wp d 72 26 [l0, l1, l2, l3, l4] [.ref a, s1, s2] w 0 Q ↔ px_op (px_fld w a [(6, 0)] 0) (fun v => wp d 72 29 [l0, l1, l2, l3, l4] [v, s1, s2] w 0 Q)) ∧
  (∀ (d : Nat) (l0 l1 l2 l4 : Option Value) (s0 s1 s2 : Value) (x : Int32) (w : px_H) (Q : Option Value → px_H → Prop), wp d 72 29 [l0, l1, l2, some (.int x), l4] [s0, s1, s2] w 0 Q ↔ wp d 72 30 [l0, l1, l2, some (.int x), l4] [.int x, s0, s1, s2] w 0 Q) ∧
  (∀ (d : Nat) (l0 l1 l2 l3 : Option Value) (s0 s1 s2 s3 : Value) (x : Int32) (w : px_H) (Q : Option Value → px_H → Prop), wp d 72 30 [l0, l1, l2, l3, some (.int x)] [s0, s1, s2, s3] w 0 Q ↔ wp d 72 32 [l0, l1, l2, l3, some (.int x)] [.int x, s0, s1, s2, s3] w 0 Q) ∧
  (∀ (d : Nat) (l0 l1 l2 l3 l4 : Option Value) (n dp sp : Int32) (a b : Nat) (w : px_H) (Q : Option Value → px_H → Prop), wp d 72 32 [l0, l1, l2, l3, l4] [.int n, .int dp, .ref a, .int sp, .ref b] w 0 Q ↔ px_op (px_cpy w b sp a dp n) (fun w' => wp d 72 35 [l0, l1, l2, l3, l4] [] w' 0 Q)) ∧
  (∀ (d : Nat) (l0 l1 l2 l3 l4 : Option Value)  (w : px_H) (Q : Option Value → px_H → Prop), wp d 72 35 [l0, l1, l2, l3, l4] [] w 0 Q ↔ Q none w) := ⟨fun d v0 v1 v2 v3 v4 w Q => r_entry pt_72 (Nat.le_of_ble_eq_true rfl) rfl,
  fun d l0 l2 l3 l4 a w Q => px_go (q := (.aload_n 1, 1, px_x0)) (S' := (1, [l0, some (.ref a), l2, l3, l4], [.ref a], w, 0)) pt_72 rfl rfl,
  fun d l0 l2 l3 l4 w Q => px_go (q := (.aload_n 1, 1, px_x0)) (S' := (1, [l0, some .null, l2, l3, l4], [.null], w, 0)) pt_72 rfl rfl,
  fun d l0 l1 l3 l4 s0 x w Q => px_go (q := (.iload_n 2, 1, px_x0)) (S' := (2, [l0, l1, some (.int x), l3, l4], [.int x, s0], w, 0)) pt_72 rfl rfl,
  fun d l0 l1 l2 l3 s0 s1 x w Q => px_go (q := (.iload 4, 2, px_x0)) (S' := (4, [l0, l1, l2, l3, some (.int x)], [.int x, s0, s1], w, 0)) pt_72 rfl rfl,
  fun d l0 l1 l2 l3 l4 v0 v1 b w Q => r_callV (q := (.invokevirtual 28, 3, (33, 2, [(6, 70)], 0, ""))) pt_72 rfl rfl (List.forall_mem_cons.mpr ⟨⟨_, pt_70, Nat.le_of_ble_eq_true rfl, (Nat.le_of_ble_eq_true rfl), rfl⟩, fun _ h => absurd h List.not_mem_nil⟩),
  fun d l0 l1 l2 l3 l4 x w Q => r_if_eq pt_72 rfl rfl,
  fun d l1 l2 l3 l4 a w Q => px_go (q := (.aload_n 0, 1, px_x0)) (S' := (11, [some (.ref a), l1, l2, l3, l4], [.ref a], w, 0)) pt_72 rfl rfl,
  fun d l0 l1 l2 l4 s0 x w Q => px_go (q := (.iload_n 3, 1, px_x0)) (S' := (12, [l0, l1, l2, some (.int x), l4], [.int x, s0], w, 0)) pt_72 rfl rfl,
  fun d l0 l1 l2 l3 s0 s1 x w Q => px_go (q := (.iload 4, 2, px_x0)) (S' := (14, [l0, l1, l2, l3, some (.int x)], [.int x, s0, s1], w, 0)) pt_72 rfl rfl,
  fun d l0 l1 l2 l3 l4 v0 v1 b w Q => r_callV (q := (.invokevirtual 28, 3, (33, 2, [(6, 70)], 0, ""))) pt_72 rfl rfl (List.forall_mem_cons.mpr ⟨⟨_, pt_70, Nat.le_of_ble_eq_true rfl, (Nat.le_of_ble_eq_true rfl), rfl⟩, fun _ h => absurd h List.not_mem_nil⟩),
  fun d l0 l1 l2 l3 l4 x w Q => r_if_eq pt_72 rfl rfl,
  fun d l0 l2 l3 l4 a w Q => px_go (q := (.aload_n 1, 1, px_x0)) (S' := (21, [l0, some (.ref a), l2, l3, l4], [.ref a], w, 0)) pt_72 rfl rfl,
  fun d l0 l2 l3 l4 w Q => px_go (q := (.aload_n 1, 1, px_x0)) (S' := (21, [l0, some .null, l2, l3, l4], [.null], w, 0)) pt_72 rfl rfl,
  fun d l0 l1 l2 l3 l4 a w Q => px_goO (q := (.getfield 9, 3, (10, 0, [(6, 0)], 0, "AllSworn$Row"))) (S' := fun v => (24, [l0, l1, l2, l3, l4], [v], w, 0)) pt_72 rfl rfl,
  fun d l0 l1 l3 l4 s0 x w Q => px_go (q := (.iload_n 2, 1, px_x0)) (S' := (25, [l0, l1, some (.int x), l3, l4], [.int x, s0], w, 0)) pt_72 rfl rfl,
  fun d l1 l2 l3 l4 s0 s1 a w Q => px_go (q := (.aload_n 0, 1, px_x0)) (S' := (26, [some (.ref a), l1, l2, l3, l4], [.ref a, s0, s1], w, 0)) pt_72 rfl rfl,
  fun d l0 l1 l2 l3 l4 s1 s2 a w Q => px_goO (q := (.getfield 9, 3, (10, 0, [(6, 0)], 0, "AllSworn$Row"))) (S' := fun v => (29, [l0, l1, l2, l3, l4], [v, s1, s2], w, 0)) pt_72 rfl rfl,
  fun d l0 l1 l2 l4 s0 s1 s2 x w Q => px_go (q := (.iload_n 3, 1, px_x0)) (S' := (30, [l0, l1, l2, some (.int x), l4], [.int x, s0, s1, s2], w, 0)) pt_72 rfl rfl,
  fun d l0 l1 l2 l3 s0 s1 s2 s3 x w Q => px_go (q := (.iload 4, 2, px_x0)) (S' := (32, [l0, l1, l2, l3, some (.int x)], [.int x, s0, s1, s2, s3], w, 0)) pt_72 rfl rfl,
  fun d l0 l1 l2 l3 l4 n dp sp a b w Q => px_goO (q := (.invokestatic 36, 3, (37, 0, [], 0, ""))) (S' := fun w' => (35, [l0, l1, l2, l3, l4], [], w', 0)) pt_72 rfl rfl,
  fun d l0 l1 l2 l3 l4 w Q => px_ret (q := (.return_, 1, px_x0)) pt_72 rfl rfl⟩
/-- AllSworn$Row.tellsYesOrNo(II)Z heads: [13] -/
theorem S73 : (∀ (d : Nat) (v0 v1 v2 : Value) (w : px_H) (Q : Option Value → px_H → Prop), wc d 73 [v0, v1, v2] w Q ↔ wp d 73 0 [some v0, some v1, some v2, none] [] w 0 Q) ∧
  (∀ (d : Nat) (l1 l2 l3 : Option Value) (a : Nat) (w : px_H) (Q : Option Value → px_H → Prop), wp d 73 0 [some (.ref a), l1, l2, l3] [] w 0 Q ↔ wp d 73 1 [some (.ref a), l1, l2, l3] [.ref a] w 0 Q) ∧
  (∀ (d : Nat) (l0 l2 l3 : Option Value) (s0 : Value) (x : Int32) (w : px_H) (Q : Option Value → px_H → Prop), wp d 73 1 [l0, some (.int x), l2, l3] [s0] w 0 Q ↔ wp d 73 2 [l0, some (.int x), l2, l3] [.int x, s0] w 0 Q) ∧
  (∀ (d : Nat) (l0 l1 l3 : Option Value) (s0 s1 : Value) (x : Int32) (w : px_H) (Q : Option Value → px_H → Prop), wp d 73 2 [l0, l1, some (.int x), l3] [s0, s1] w 0 Q ↔ wp d 73 3 [l0, l1, some (.int x), l3] [.int x, s0, s1] w 0 Q) ∧
  (∀ (d : Nat) (l0 l1 l2 l3 : Option Value) (v0 v1 : Value) (b : Nat) (w : px_H) (Q : Option Value → px_H → Prop), wp (d + 1) 73 3 [l0, l1, l2, l3] [v1, v0, .ref b] w 0 Q ↔ px_op (px_tgt w b [(6, 70)]) (fun v => wc d v [.ref b, v0, v1] w (fun r w' => wp (d + 1) 73 6 [l0, l1, l2, l3] (r.toList ++ []) w' 0 Q))) ∧
  (∀ (d : Nat) (l0 l1 l2 l3 : Option Value) (x : Int32) (w : px_H) (Q : Option Value → px_H → Prop), wp d 73 6 [l0, l1, l2, l3] [.int x] w 0 Q ↔ if x = 0 then wp d 73 9 [l0, l1, l2, l3] [] w 0 Q else wp d 73 11 [l0, l1, l2, l3] [] w 0 Q) ∧
  (∀ (d : Nat) (l0 l1 l2 l3 : Option Value)  (w : px_H) (Q : Option Value → px_H → Prop), wp d 73 9 [l0, l1, l2, l3] [] w 0 Q ↔ wp d 73 10 [l0, l1, l2, l3] [.int 0] w 0 Q) ∧
  (∀ (d : Nat) (l0 l1 l2 l3 : Option Value) (x : Int32) (w : px_H) (Q : Option Value → px_H → Prop), wp d 73 10 [l0, l1, l2, l3] [.int x] w 0 Q ↔ (x = 0 ∨ x = 1) ∧ Q (some (.int x)) w) ∧
  (∀ (d : Nat) (l0 l1 l2 l3 : Option Value)  (w : px_H) (Q : Option Value → px_H → Prop), wp d 73 11 [l0, l1, l2, l3] [] w 0 Q ↔ wp d 73 12 [l0, l1, l2, l3] [.int 0] w 0 Q) ∧
  (∀ (d : Nat) (l0 l1 l2 l3 : Option Value) (x : Int32) (w : px_H) (Q : Option Value → px_H → Prop), wp d 73 12 [l0, l1, l2, l3] [.int x] w 0 Q ↔ wp d 73 13 [l0, l1, l2, some (.int x)] [] w 0 Q) ∧
  (∀ (d : Nat) (l0 l1 l3 : Option Value) (s0 : Value) (x : Int32) (w : px_H) (Q : Option Value → px_H → Prop), wp d 73 14 [l0, l1, some (.int x), l3] [s0] w 0 Q ↔ wp d 73 15 [l0, l1, some (.int x), l3] [.int x, s0] w 0 Q) ∧
  (∀ (d : Nat) (l0 l1 l2 l3 : Option Value) (x y : Int32) (w : px_H) (Q : Option Value → px_H → Prop), wp d 73 15 [l0, l1, l2, l3] [.int y, .int x] w 0 Q ↔ if y ≤ x then wp d 73 49 [l0, l1, l2, l3] [] w 0 Q else wp d 73 18 [l0, l1, l2, l3] [] w 0 Q) ∧
  (∀ (d : Nat) (l1 l2 l3 : Option Value) (a : Nat) (w : px_H) (Q : Option Value → px_H → Prop), wp d 73 18 [some (.ref a), l1, l2, l3] [] w 0 Q ↔ wp d 73 19 [some (.ref a), l1, l2, l3] [.ref a] w 0 Q) ∧
  (∀ (d : Nat) (l0 l1 l2 l3 : Option Value) (a : Nat) (w : px_H) (Q : Option Value → px_H → Prop), wp d 73 19 [l0, l1, l2, l3] [.ref a] w 0 Q ↔ px_op (px_fld w a [(6, 0)] 0) (fun v => wp d 73 22 [l0, l1, l2, l3] [v] w 0 Q)) ∧
  (∀ (d : Nat) (l0 l2 l3 : Option Value) (s0 : Value) (x : Int32) (w : px_H) (Q : Option Value → px_H → Prop), wp d 73 22 [l0, some (.int x), l2, l3] [s0] w 0 Q ↔ wp d 73 23 [l0, some (.int x), l2, l3] [.int x, s0] w 0 Q) ∧
  (∀ (d : Nat) (l0 l1 l2 : Option Value) (s0 s1 : Value) (x : Int32) (w : px_H) (Q : Option Value → px_H → Prop), wp d 73 23 [l0, l1, l2, some (.int x)] [s0, s1] w 0 Q ↔ wp d 73 24 [l0, l1, l2, some (.int x)] [.int x, s0, s1] w 0 Q) ∧
  (∀ (d : Nat) (l0 l1 l2 l3 : Option Value) (s2 : Value) (x y : Int32) (w : px_H) (Q : Option Value → px_H → Prop), wp d 73 24 [l0, l1, l2, l3] [.int y, .int x, s2] w 0 Q ↔ wp d 73 25 [l0, l1, l2, l3] [.int (x + y), s2] w 0 Q) ∧
  (∀ (d : Nat) (l0 l1 l2 l3 : Option Value) (i : Int32) (a : Nat) (w : px_H) (Q : Option Value → px_H → Prop), wp d 73 25 [l0, l1, l2, l3] [.int i, .ref a] w 0 Q ↔ px_op (px_ald w a i .int) (fun x => wp d 73 26 [l0, l1, l2, l3] [.int x] w 0 Q)) ∧
  (∀ (d : Nat) (l0 l1 l2 l3 : Option Value) (x : Int32) (w : px_H) (Q : Option Value → px_H → Prop), wp d 73 26 [l0, l1, l2, l3] [.int x] w 0 Q ↔ if x = 0 then wp d 73 43 [l0, l1, l2, l3] [] w 0 Q else wp d 73 29 [l0, l1, l2, l3] [] w 0 Q) ∧
  (∀ (d : Nat) (l1 l2 l3 : Option Value) (a : Nat) (w : px_H) (Q : Option Value → px_H → Prop), wp d 73 29 [some (.ref a), l1, l2, l3] [] w 0 Q ↔ wp d 73 30 [some (.ref a), l1, l2, l3] [.ref a] w 0 Q) ∧
  (∀ (d : Nat) (l0 l1 l2 l3 : Option Value) (a : Nat) (w : px_H) (Q : Option Value → px_H → Prop), wp d 73 30 [l0, l1, l2, l3] [.ref a] w 0 Q ↔ px_op (px_fld w a [(6, 0)] 0) (fun v => wp d 73 33 [l0, l1, l2, l3] [v] w 0 Q)) ∧
  (∀ (d : Nat) (l0 l2 l3 : Option Value) (s0 : Value) (x : Int32) (w : px_H) (Q : Option Value → px_H → Prop), wp d 73 33 [l0, some (.int x), l2, l3] [s0] w 0 Q ↔ wp d 73 34 [l0, some (.int x), l2, l3] [.int x, s0] w 0 Q) ∧
  (∀ (d : Nat) (l0 l1 l2 : Option Value) (s0 s1 : Value) (x : Int32) (w : px_H) (Q : Option Value → px_H → Prop), wp d 73 34 [l0, l1, l2, some (.int x)] [s0, s1] w 0 Q ↔ wp d 73 35 [l0, l1, l2, some (.int x)] [.int x, s0, s1] w 0 Q) ∧
  (∀ (d : Nat) (l0 l1 l2 l3 : Option Value) (s2 : Value) (x y : Int32) (w : px_H) (Q : Option Value → px_H → Prop), wp d 73 35 [l0, l1, l2, l3] [.int y, .int x, s2] w 0 Q ↔ wp d 73 36 [l0, l1, l2, l3] [.int (x + y), s2] w 0 Q) ∧
  (∀ (d : Nat) (l0 l1 l2 l3 : Option Value) (i : Int32) (a : Nat) (w : px_H) (Q : Option Value → px_H → Prop), wp d 73 36 [l0, l1, l2, l3] [.int i, .ref a] w 0 Q ↔ px_op (px_ald w a i .int) (fun x => wp d 73 37 [l0, l1, l2, l3] [.int x] w 0 Q)) ∧
  (∀ (d : Nat) (l0 l1 l2 l3 : Option Value) (s0 : Value)  (w : px_H) (Q : Option Value → px_H → Prop), wp d 73 37 [l0, l1, l2, l3] [s0] w 0 Q ↔ wp d 73 38 [l0, l1, l2, l3] [.int 1, s0] w 0 Q) ∧
  (∀ (d : Nat) (l0 l1 l2 l3 : Option Value) (x y : Int32) (w : px_H) (Q : Option Value → px_H → Prop), wp d 73 38 [l0, l1, l2, l3] [.int y, .int x] w 0 Q ↔ if x = y then wp d 73 43 [l0, l1, l2, l3] [] w 0 Q else wp d 73 41 [l0, l1, l2, l3] [] w 0 Q) ∧
  (∀ (d : Nat) (l0 l1 l2 l3 : Option Value)  (w : px_H) (Q : Option Value → px_H → Prop), wp d 73 41 [l0, l1, l2, l3] [] w 0 Q ↔ wp d 73 42 [l0, l1, l2, l3] [.int 0] w 0 Q) ∧
  (∀ (d : Nat) (l0 l1 l2 l3 : Option Value) (x : Int32) (w : px_H) (Q : Option Value → px_H → Prop), wp d 73 42 [l0, l1, l2, l3] [.int x] w 0 Q ↔ (x = 0 ∨ x = 1) ∧ Q (some (.int x)) w) ∧
  (∀ (d : Nat) (l0 l1 l2 : Option Value) (x : Int32) (w : px_H) (Q : Option Value → px_H → Prop), wp d 73 43 [l0, l1, l2, some (.int x)] [] w 0 Q ↔ wp d 73 46 [l0, l1, l2, some (.int (x + 1))] [] w 0 Q) ∧
  (∀ (d : Nat) (l0 l1 l2 l3 : Option Value)  (w : px_H) (Q : Option Value → px_H → Prop), wp d 73 46 [l0, l1, l2, l3] [] w 0 Q ↔ wp d 73 13 [l0, l1, l2, l3] [] w 0 Q) ∧
  (∀ (d : Nat) (l0 l1 l2 l3 : Option Value)  (w : px_H) (Q : Option Value → px_H → Prop), wp d 73 49 [l0, l1, l2, l3] [] w 0 Q ↔ wp d 73 50 [l0, l1, l2, l3] [.int 1] w 0 Q) ∧
  (∀ (d : Nat) (l0 l1 l2 l3 : Option Value) (x : Int32) (w : px_H) (Q : Option Value → px_H → Prop), wp d 73 50 [l0, l1, l2, l3] [.int x] w 0 Q ↔ (x = 0 ∨ x = 1) ∧ Q (some (.int x)) w) := ⟨fun d v0 v1 v2 w Q => r_entry pt_73 (Nat.le_of_ble_eq_true rfl) rfl,
  fun d l1 l2 l3 a w Q => px_go (q := (.aload_n 0, 1, px_x0)) (S' := (1, [some (.ref a), l1, l2, l3], [.ref a], w, 0)) pt_73 rfl rfl,
  fun d l0 l2 l3 s0 x w Q => px_go (q := (.iload_n 1, 1, px_x0)) (S' := (2, [l0, some (.int x), l2, l3], [.int x, s0], w, 0)) pt_73 rfl rfl,
  fun d l0 l1 l3 s0 s1 x w Q => px_go (q := (.iload_n 2, 1, px_x0)) (S' := (3, [l0, l1, some (.int x), l3], [.int x, s0, s1], w, 0)) pt_73 rfl rfl,
  fun d l0 l1 l2 l3 v0 v1 b w Q => r_callV (q := (.invokevirtual 28, 3, (33, 2, [(6, 70)], 0, ""))) pt_73 rfl rfl (List.forall_mem_cons.mpr ⟨⟨_, pt_70, Nat.le_of_ble_eq_true rfl, (Nat.le_of_ble_eq_true rfl), rfl⟩, fun _ h => absurd h List.not_mem_nil⟩),
  fun d l0 l1 l2 l3 x w Q => r_if_ne pt_73 rfl rfl,
  fun d l0 l1 l2 l3 w Q => r_iconst pt_73 rfl (by decide),
  fun d l0 l1 l2 l3 x w Q => px_retI (q := (.ireturn, 1, px_x0)) pt_73 rfl rfl,
  fun d l0 l1 l2 l3 w Q => r_iconst pt_73 rfl (by decide),
  fun d l0 l1 l2 l3 x w Q => px_go (q := (.istore_n 3, 1, px_x0)) (S' := (13, [l0, l1, l2, some (.int x)], [], w, 0)) pt_73 rfl rfl,
  fun d l0 l1 l3 s0 x w Q => px_go (q := (.iload_n 2, 1, px_x0)) (S' := (15, [l0, l1, some (.int x), l3], [.int x, s0], w, 0)) pt_73 rfl rfl,
  fun d l0 l1 l2 l3 x y w Q => r_icmp_ge pt_73 rfl rfl,
  fun d l1 l2 l3 a w Q => px_go (q := (.aload_n 0, 1, px_x0)) (S' := (19, [some (.ref a), l1, l2, l3], [.ref a], w, 0)) pt_73 rfl rfl,
  fun d l0 l1 l2 l3 a w Q => px_goO (q := (.getfield 9, 3, (10, 0, [(6, 0)], 0, "AllSworn$Row"))) (S' := fun v => (22, [l0, l1, l2, l3], [v], w, 0)) pt_73 rfl rfl,
  fun d l0 l2 l3 s0 x w Q => px_go (q := (.iload_n 1, 1, px_x0)) (S' := (23, [l0, some (.int x), l2, l3], [.int x, s0], w, 0)) pt_73 rfl rfl,
  fun d l0 l1 l2 s0 s1 x w Q => px_go (q := (.iload_n 3, 1, px_x0)) (S' := (24, [l0, l1, l2, some (.int x)], [.int x, s0, s1], w, 0)) pt_73 rfl rfl,
  fun d l0 l1 l2 l3 s2 x y w Q => px_go (q := (.iadd, 1, px_x0)) (S' := (25, [l0, l1, l2, l3], [.int (x + y), s2], w, 0)) pt_73 rfl rfl,
  fun d l0 l1 l2 l3 i a w Q => px_goO (q := (.iaload, 1, px_x0)) (S' := fun x => (26, [l0, l1, l2, l3], [.int x], w, 0)) pt_73 rfl rfl,
  fun d l0 l1 l2 l3 x w Q => r_if_eq pt_73 rfl rfl,
  fun d l1 l2 l3 a w Q => px_go (q := (.aload_n 0, 1, px_x0)) (S' := (30, [some (.ref a), l1, l2, l3], [.ref a], w, 0)) pt_73 rfl rfl,
  fun d l0 l1 l2 l3 a w Q => px_goO (q := (.getfield 9, 3, (10, 0, [(6, 0)], 0, "AllSworn$Row"))) (S' := fun v => (33, [l0, l1, l2, l3], [v], w, 0)) pt_73 rfl rfl,
  fun d l0 l2 l3 s0 x w Q => px_go (q := (.iload_n 1, 1, px_x0)) (S' := (34, [l0, some (.int x), l2, l3], [.int x, s0], w, 0)) pt_73 rfl rfl,
  fun d l0 l1 l2 s0 s1 x w Q => px_go (q := (.iload_n 3, 1, px_x0)) (S' := (35, [l0, l1, l2, some (.int x)], [.int x, s0, s1], w, 0)) pt_73 rfl rfl,
  fun d l0 l1 l2 l3 s2 x y w Q => px_go (q := (.iadd, 1, px_x0)) (S' := (36, [l0, l1, l2, l3], [.int (x + y), s2], w, 0)) pt_73 rfl rfl,
  fun d l0 l1 l2 l3 i a w Q => px_goO (q := (.iaload, 1, px_x0)) (S' := fun x => (37, [l0, l1, l2, l3], [.int x], w, 0)) pt_73 rfl rfl,
  fun d l0 l1 l2 l3 s0 w Q => r_iconst pt_73 rfl (by decide),
  fun d l0 l1 l2 l3 x y w Q => r_icmp_eq pt_73 rfl rfl,
  fun d l0 l1 l2 l3 w Q => r_iconst pt_73 rfl (by decide),
  fun d l0 l1 l2 l3 x w Q => px_retI (q := (.ireturn, 1, px_x0)) pt_73 rfl rfl,
  fun d l0 l1 l2 x w Q => r_iinc pt_73 rfl rfl (by decide) rfl,
  fun d l0 l1 l2 l3 w Q => r_goto pt_73 rfl rfl,
  fun d l0 l1 l2 l3 w Q => r_iconst pt_73 rfl (by decide),
  fun d l0 l1 l2 l3 x w Q => px_retI (q := (.ireturn, 1, px_x0)) pt_73 rfl rfl⟩
theorem H73_13 : ∀ (d : Nat) (l0 l1 l2 : Option Value) (x : Int32) (w : px_H) (Q : Option Value → px_H → Prop), wp d 73 13 [l0, l1, l2, some (.int x)] [] w 0 Q ↔ wp d 73 14 [l0, l1, l2, some (.int x)] [.int x] w 0 Q := fun d l0 l1 l2 x w Q => px_go (q := (.iload_n 3, 1, px_x0)) (S' := (14, [l0, l1, l2, some (.int x)], [.int x], w, 0)) pt_73 rfl rfl
/-- AllSworn$Row.tellsHit(I)Z -/
theorem S74 : (∀ (d : Nat) (v0 v1 : Value) (w : px_H) (Q : Option Value → px_H → Prop), wc d 74 [v0, v1] w Q ↔ wp d 74 0 [some v0, some v1] [] w 0 Q) ∧
  (∀ (d : Nat) (l1 : Option Value) (a : Nat) (w : px_H) (Q : Option Value → px_H → Prop), wp d 74 0 [some (.ref a), l1] [] w 0 Q ↔ wp d 74 1 [some (.ref a), l1] [.ref a] w 0 Q) ∧
  (∀ (d : Nat) (l0 : Option Value) (s0 : Value) (x : Int32) (w : px_H) (Q : Option Value → px_H → Prop), wp d 74 1 [l0, some (.int x)] [s0] w 0 Q ↔ wp d 74 2 [l0, some (.int x)] [.int x, s0] w 0 Q) ∧
  (∀ (d : Nat) (l0 l1 : Option Value) (s0 s1 : Value)  (w : px_H) (Q : Option Value → px_H → Prop), wp d 74 2 [l0, l1] [s0, s1] w 0 Q ↔ wp d 74 3 [l0, l1] [.int 1, s0, s1] w 0 Q) ∧
  (∀ (d : Nat) (l0 l1 : Option Value) (v0 v1 : Value) (b : Nat) (w : px_H) (Q : Option Value → px_H → Prop), wp (d + 1) 74 3 [l0, l1] [v1, v0, .ref b] w 0 Q ↔ px_op (px_tgt w b [(6, 70)]) (fun v => wc d v [.ref b, v0, v1] w (fun r w' => wp (d + 1) 74 6 [l0, l1] (r.toList ++ []) w' 0 Q))) ∧
  (∀ (d : Nat) (l0 l1 : Option Value) (x : Int32) (w : px_H) (Q : Option Value → px_H → Prop), wp d 74 6 [l0, l1] [.int x] w 0 Q ↔ if x = 0 then wp d 74 23 [l0, l1] [] w 0 Q else wp d 74 9 [l0, l1] [] w 0 Q) ∧
  (∀ (d : Nat) (l1 : Option Value) (a : Nat) (w : px_H) (Q : Option Value → px_H → Prop), wp d 74 9 [some (.ref a), l1] [] w 0 Q ↔ wp d 74 10 [some (.ref a), l1] [.ref a] w 0 Q) ∧
  (∀ (d : Nat) (l0 l1 : Option Value) (a : Nat) (w : px_H) (Q : Option Value → px_H → Prop), wp d 74 10 [l0, l1] [.ref a] w 0 Q ↔ px_op (px_fld w a [(6, 0)] 0) (fun v => wp d 74 13 [l0, l1] [v] w 0 Q)) ∧
  (∀ (d : Nat) (l0 : Option Value) (s0 : Value) (x : Int32) (w : px_H) (Q : Option Value → px_H → Prop), wp d 74 13 [l0, some (.int x)] [s0] w 0 Q ↔ wp d 74 14 [l0, some (.int x)] [.int x, s0] w 0 Q) ∧
  (∀ (d : Nat) (l0 l1 : Option Value) (i : Int32) (a : Nat) (w : px_H) (Q : Option Value → px_H → Prop), wp d 74 14 [l0, l1] [.int i, .ref a] w 0 Q ↔ px_op (px_ald w a i .int) (fun x => wp d 74 15 [l0, l1] [.int x] w 0 Q)) ∧
  (∀ (d : Nat) (l0 l1 : Option Value) (s0 : Value)  (w : px_H) (Q : Option Value → px_H → Prop), wp d 74 15 [l0, l1] [s0] w 0 Q ↔ wp d 74 16 [l0, l1] [.int 1, s0] w 0 Q) ∧
  (∀ (d : Nat) (l0 l1 : Option Value) (x y : Int32) (w : px_H) (Q : Option Value → px_H → Prop), wp d 74 16 [l0, l1] [.int y, .int x] w 0 Q ↔ if x = y then wp d 74 19 [l0, l1] [] w 0 Q else wp d 74 23 [l0, l1] [] w 0 Q) ∧
  (∀ (d : Nat) (l0 l1 : Option Value)  (w : px_H) (Q : Option Value → px_H → Prop), wp d 74 19 [l0, l1] [] w 0 Q ↔ wp d 74 20 [l0, l1] [.int 1] w 0 Q) ∧
  (∀ (d : Nat) (l0 l1 : Option Value) (s0 : Value)  (w : px_H) (Q : Option Value → px_H → Prop), wp d 74 20 [l0, l1] [s0] w 0 Q ↔ wp d 74 24 [l0, l1] [s0] w 0 Q) ∧
  (∀ (d : Nat) (l0 l1 : Option Value)  (w : px_H) (Q : Option Value → px_H → Prop), wp d 74 23 [l0, l1] [] w 0 Q ↔ wp d 74 24 [l0, l1] [.int 0] w 0 Q) ∧
  (∀ (d : Nat) (l0 l1 : Option Value) (x : Int32) (w : px_H) (Q : Option Value → px_H → Prop), wp d 74 24 [l0, l1] [.int x] w 0 Q ↔ (x = 0 ∨ x = 1) ∧ Q (some (.int x)) w) := ⟨fun d v0 v1 w Q => r_entry pt_74 (Nat.le_of_ble_eq_true rfl) rfl,
  fun d l1 a w Q => px_go (q := (.aload_n 0, 1, px_x0)) (S' := (1, [some (.ref a), l1], [.ref a], w, 0)) pt_74 rfl rfl,
  fun d l0 s0 x w Q => px_go (q := (.iload_n 1, 1, px_x0)) (S' := (2, [l0, some (.int x)], [.int x, s0], w, 0)) pt_74 rfl rfl,
  fun d l0 l1 s0 s1 w Q => r_iconst pt_74 rfl (by decide),
  fun d l0 l1 v0 v1 b w Q => r_callV (q := (.invokevirtual 28, 3, (33, 2, [(6, 70)], 0, ""))) pt_74 rfl rfl (List.forall_mem_cons.mpr ⟨⟨_, pt_70, Nat.le_of_ble_eq_true rfl, (Nat.le_of_ble_eq_true rfl), rfl⟩, fun _ h => absurd h List.not_mem_nil⟩),
  fun d l0 l1 x w Q => r_if_eq pt_74 rfl rfl,
  fun d l1 a w Q => px_go (q := (.aload_n 0, 1, px_x0)) (S' := (10, [some (.ref a), l1], [.ref a], w, 0)) pt_74 rfl rfl,
  fun d l0 l1 a w Q => px_goO (q := (.getfield 9, 3, (10, 0, [(6, 0)], 0, "AllSworn$Row"))) (S' := fun v => (13, [l0, l1], [v], w, 0)) pt_74 rfl rfl,
  fun d l0 s0 x w Q => px_go (q := (.iload_n 1, 1, px_x0)) (S' := (14, [l0, some (.int x)], [.int x, s0], w, 0)) pt_74 rfl rfl,
  fun d l0 l1 i a w Q => px_goO (q := (.iaload, 1, px_x0)) (S' := fun x => (15, [l0, l1], [.int x], w, 0)) pt_74 rfl rfl,
  fun d l0 l1 s0 w Q => r_iconst pt_74 rfl (by decide),
  fun d l0 l1 x y w Q => r_icmp_ne pt_74 rfl rfl,
  fun d l0 l1 w Q => r_iconst pt_74 rfl (by decide),
  fun d l0 l1 s0 w Q => r_goto pt_74 rfl rfl,
  fun d l0 l1 w Q => r_iconst pt_74 rfl (by decide),
  fun d l0 l1 x w Q => px_retI (q := (.ireturn, 1, px_x0)) pt_74 rfl rfl⟩
/-- AllSworn$Row.narrowed(I)I -/
theorem S75 : (∀ (d : Nat) (v0 v1 : Value) (w : px_H) (Q : Option Value → px_H → Prop), wc d 75 [v0, v1] w Q ↔ wp d 75 0 [some v0, some v1] [] w 0 Q) ∧
  (∀ (d : Nat) (l1 : Option Value) (a : Nat) (w : px_H) (Q : Option Value → px_H → Prop), wp d 75 0 [some (.ref a), l1] [] w 0 Q ↔ wp d 75 1 [some (.ref a), l1] [.ref a] w 0 Q) ∧
  (∀ (d : Nat) (l0 l1 : Option Value) (a : Nat) (w : px_H) (Q : Option Value → px_H → Prop), wp d 75 1 [l0, l1] [.ref a] w 0 Q ↔ px_op (px_fld w a [(6, 0)] 1) (fun v => wp d 75 4 [l0, l1] [v] w 0 Q)) ∧
  (∀ (d : Nat) (l0 l1 : Option Value) (x : Int32) (w : px_H) (Q : Option Value → px_H → Prop), wp d 75 4 [l0, l1] [.int x] w 0 Q ↔ px_op (px_lsw 4 34 #[(0, 28), (1, 31)] x) (fun t => wp d 75 t [l0, l1] [] w 0 Q)) ∧
  (∀ (d : Nat) (l0 : Option Value) (x : Int32) (w : px_H) (Q : Option Value → px_H → Prop), wp d 75 32 [l0, some (.int x)] [] w 0 Q ↔ wp d 75 33 [l0, some (.int x)] [.int x] w 0 Q) ∧
  (∀ (d : Nat) (l0 l1 : Option Value) (x : Int32) (w : px_H) (Q : Option Value → px_H → Prop), wp d 75 33 [l0, l1] [.int x] w 0 Q ↔ wp d 75 34 [l0, l1] [.int (x.toInt8.toInt32)] w 0 Q) ∧
  (∀ (d : Nat) (l0 l1 : Option Value) (x : Int32) (w : px_H) (Q : Option Value → px_H → Prop), wp d 75 34 [l0, l1] [.int x] w 0 Q ↔ Q (some (.int x)) w) ∧
  (∀ (d : Nat) (l0 : Option Value) (x : Int32) (w : px_H) (Q : Option Value → px_H → Prop), wp d 75 35 [l0, some (.int x)] [] w 0 Q ↔ wp d 75 36 [l0, some (.int x)] [.int x] w 0 Q) ∧
  (∀ (d : Nat) (l0 l1 : Option Value) (x : Int32) (w : px_H) (Q : Option Value → px_H → Prop), wp d 75 36 [l0, l1] [.int x] w 0 Q ↔ wp d 75 37 [l0, l1] [.int (x.toInt16.toInt32)] w 0 Q) ∧
  (∀ (d : Nat) (l0 l1 : Option Value) (x : Int32) (w : px_H) (Q : Option Value → px_H → Prop), wp d 75 37 [l0, l1] [.int x] w 0 Q ↔ Q (some (.int x)) w) ∧
  (∀ (d : Nat) (l0 : Option Value) (x : Int32) (w : px_H) (Q : Option Value → px_H → Prop), wp d 75 38 [l0, some (.int x)] [] w 0 Q ↔ wp d 75 39 [l0, some (.int x)] [.int x] w 0 Q) ∧
  (∀ (d : Nat) (l0 l1 : Option Value) (x : Int32) (w : px_H) (Q : Option Value → px_H → Prop), wp d 75 39 [l0, l1] [.int x] w 0 Q ↔ Q (some (.int x)) w) := ⟨fun d v0 v1 w Q => r_entry pt_75 (Nat.le_of_ble_eq_true rfl) rfl,
  fun d l1 a w Q => px_go (q := (.aload_n 0, 1, px_x0)) (S' := (1, [some (.ref a), l1], [.ref a], w, 0)) pt_75 rfl rfl,
  fun d l0 l1 a w Q => px_goO (q := (.getfield 15, 3, (10, 1, [(6, 0)], 0, "AllSworn$Row"))) (S' := fun v => (4, [l0, l1], [v], w, 0)) pt_75 rfl rfl,
  fun d l0 l1 x w Q => r_lsw pt_75 rfl,
  fun d l0 x w Q => px_go (q := (.iload_n 1, 1, px_x0)) (S' := (33, [l0, some (.int x)], [.int x], w, 0)) pt_75 rfl rfl,
  fun d l0 l1 x w Q => px_go (q := (.i2b, 1, px_x0)) (S' := (34, [l0, l1], [.int (x.toInt8.toInt32)], w, 0)) pt_75 rfl rfl,
  fun d l0 l1 x w Q => px_ret (q := (.ireturn, 1, px_x0)) pt_75 rfl rfl,
  fun d l0 x w Q => px_go (q := (.iload_n 1, 1, px_x0)) (S' := (36, [l0, some (.int x)], [.int x], w, 0)) pt_75 rfl rfl,
  fun d l0 l1 x w Q => px_go (q := (.i2s, 1, px_x0)) (S' := (37, [l0, l1], [.int (x.toInt16.toInt32)], w, 0)) pt_75 rfl rfl,
  fun d l0 l1 x w Q => px_ret (q := (.ireturn, 1, px_x0)) pt_75 rfl rfl,
  fun d l0 x w Q => px_go (q := (.iload_n 1, 1, px_x0)) (S' := (39, [l0, some (.int x)], [.int x], w, 0)) pt_75 rfl rfl,
  fun d l0 l1 x w Q => px_ret (q := (.ireturn, 1, px_x0)) pt_75 rfl rfl⟩
