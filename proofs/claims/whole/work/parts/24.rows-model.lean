/-! rows of the pure machine: model -/
/-- AllSwornModel.<init>()V -/
theorem S139 : (∀ (d : Nat) (v0 : Value) (w : px_H) (Q : Option Value → px_H → Prop), wc d 139 [v0] w Q ↔ wp d 139 0 [some v0] [] w 0 Q) ∧
  (∀ (d : Nat) (a : Nat) (w : px_H) (k : Nat) (Q : Option Value → px_H → Prop), wp d 139 0 [some (.ref a)] [] w k Q ↔ wp d 139 1 [some (.ref a)] [.ref a] w k Q) ∧
  (∀ (d : Nat) (l0 : Option Value) (a : Nat) (w : px_H) (k : Nat) (Q : Option Value → px_H → Prop), wp d 139 1 [l0] [.ref a] w k Q ↔ wp d 139 4 [l0] [] w k Q) ∧
  (∀ (d : Nat) (a : Nat) (w : px_H) (k : Nat) (Q : Option Value → px_H → Prop), wp d 139 4 [some (.ref a)] [] w k Q ↔ wp d 139 5 [some (.ref a)] [.ref a] w k Q) ∧
  (∀ (d : Nat) (l0 : Option Value) (s0 : Value)  (w : px_H) (k : Nat) (Q : Option Value → px_H → Prop), wp d 139 5 [l0] [s0] w k Q ↔ wp d 139 7 [l0] [.int 8, s0] w k Q) ∧
  (∀ (d : Nat) (l0 : Option Value) (s1 : Value)  (w : px_H) (k : Nat) (Q : Option Value → px_H → Prop) (hk : k + 1 ≤ 10), wp d 139 7 [l0] [.int 8, s1] w k Q ↔ wp d 139 9 [l0] [.ref w.1, s1] (px_add w (.inl (.int, 8, fun _ => 0))) (k + 1) Q) ∧
  (∀ (d : Nat) (l0 : Option Value) (a b : Nat) (w : px_H) (k : Nat) (Q : Option Value → px_H → Prop), wp d 139 9 [l0] [.ref b, .ref a] w k Q ↔ px_op (px_pfd w a [(11, 0)] 0 (.ref b)) (fun w' => wp d 139 12 [l0] [] w' k Q)) ∧
  (∀ (d : Nat) (a : Nat) (w : px_H) (k : Nat) (Q : Option Value → px_H → Prop), wp d 139 12 [some (.ref a)] [] w k Q ↔ wp d 139 13 [some (.ref a)] [.ref a] w k Q) ∧
  (∀ (d : Nat) (l0 : Option Value) (s0 : Value)  (w : px_H) (k : Nat) (Q : Option Value → px_H → Prop), wp d 139 13 [l0] [s0] w k Q ↔ wp d 139 15 [l0] [.int 8, s0] w k Q) ∧
  (∀ (d : Nat) (l0 : Option Value) (s1 : Value)  (w : px_H) (k : Nat) (Q : Option Value → px_H → Prop) (hk : k + 1 ≤ 10), wp d 139 15 [l0] [.int 8, s1] w k Q ↔ wp d 139 17 [l0] [.ref w.1, s1] (px_add w (.inl (.int, 8, fun _ => 0))) (k + 1) Q) ∧
  (∀ (d : Nat) (l0 : Option Value) (a b : Nat) (w : px_H) (k : Nat) (Q : Option Value → px_H → Prop), wp d 139 17 [l0] [.ref b, .ref a] w k Q ↔ px_op (px_pfd w a [(11, 0)] 1 (.ref b)) (fun w' => wp d 139 20 [l0] [] w' k Q)) ∧
  (∀ (d : Nat) (a : Nat) (w : px_H) (k : Nat) (Q : Option Value → px_H → Prop), wp d 139 20 [some (.ref a)] [] w k Q ↔ wp d 139 21 [some (.ref a)] [.ref a] w k Q) ∧
  (∀ (d : Nat) (l0 : Option Value) (s0 : Value)  (w : px_H) (k : Nat) (Q : Option Value → px_H → Prop), wp d 139 21 [l0] [s0] w k Q ↔ wp d 139 24 [l0] [.int 320, s0] w k Q) ∧
  (∀ (d : Nat) (l0 : Option Value) (s1 : Value)  (w : px_H) (k : Nat) (Q : Option Value → px_H → Prop) (hk : k + 1 ≤ 10), wp d 139 24 [l0] [.int 320, s1] w k Q ↔ wp d 139 26 [l0] [.ref w.1, s1] (px_add w (.inl (.int, 320, fun _ => 0))) (k + 1) Q) ∧
  (∀ (d : Nat) (l0 : Option Value) (a b : Nat) (w : px_H) (k : Nat) (Q : Option Value → px_H → Prop), wp d 139 26 [l0] [.ref b, .ref a] w k Q ↔ px_op (px_pfd w a [(11, 0)] 2 (.ref b)) (fun w' => wp d 139 29 [l0] [] w' k Q)) ∧
  (∀ (d : Nat) (a : Nat) (w : px_H) (k : Nat) (Q : Option Value → px_H → Prop), wp d 139 29 [some (.ref a)] [] w k Q ↔ wp d 139 30 [some (.ref a)] [.ref a] w k Q) ∧
  (∀ (d : Nat) (l0 : Option Value) (s0 : Value)  (w : px_H) (k : Nat) (Q : Option Value → px_H → Prop), wp d 139 30 [l0] [s0] w k Q ↔ wp d 139 33 [l0] [.int 180, s0] w k Q) ∧
  (∀ (d : Nat) (l0 : Option Value) (s1 : Value)  (w : px_H) (k : Nat) (Q : Option Value → px_H → Prop) (hk : k + 1 ≤ 10), wp d 139 33 [l0] [.int 180, s1] w k Q ↔ wp d 139 35 [l0] [.ref w.1, s1] (px_add w (.inl (.int, 180, fun _ => 0))) (k + 1) Q) ∧
  (∀ (d : Nat) (l0 : Option Value) (a b : Nat) (w : px_H) (k : Nat) (Q : Option Value → px_H → Prop), wp d 139 35 [l0] [.ref b, .ref a] w k Q ↔ px_op (px_pfd w a [(11, 0)] 4 (.ref b)) (fun w' => wp d 139 38 [l0] [] w' k Q)) ∧
  (∀ (d : Nat) (a : Nat) (w : px_H) (k : Nat) (Q : Option Value → px_H → Prop), wp d 139 38 [some (.ref a)] [] w k Q ↔ wp d 139 39 [some (.ref a)] [.ref a] w k Q) ∧
  (∀ (d : Nat) (l0 : Option Value) (s0 : Value)  (w : px_H) (k : Nat) (Q : Option Value → px_H → Prop), wp d 139 39 [l0] [s0] w k Q ↔ wp d 139 40 [l0] [.int 2, s0] w k Q) ∧
  (∀ (d : Nat) (l0 : Option Value) (s1 : Value)  (w : px_H) (k : Nat) (Q : Option Value → px_H → Prop) (hk : k + 1 ≤ 10), wp d 139 40 [l0] [.int 2, s1] w k Q ↔ wp d 139 42 [l0] [.ref w.1, s1] (px_add w (.inl (.boolean, 2, fun _ => 0))) (k + 1) Q) ∧
  (∀ (d : Nat) (l0 : Option Value) (a b : Nat) (w : px_H) (k : Nat) (Q : Option Value → px_H → Prop), wp d 139 42 [l0] [.ref b, .ref a] w k Q ↔ px_op (px_pfd w a [(11, 0)] 6 (.ref b)) (fun w' => wp d 139 45 [l0] [] w' k Q)) ∧
  (∀ (d : Nat) (a : Nat) (w : px_H) (k : Nat) (Q : Option Value → px_H → Prop), wp d 139 45 [some (.ref a)] [] w k Q ↔ wp d 139 46 [some (.ref a)] [.ref a] w k Q) ∧
  (∀ (d : Nat) (l0 : Option Value) (s0 : Value)  (w : px_H) (k : Nat) (Q : Option Value → px_H → Prop), wp d 139 46 [l0] [s0] w k Q ↔ wp d 139 48 [l0] [.int 96, s0] w k Q) ∧
  (∀ (d : Nat) (l0 : Option Value) (s1 : Value)  (w : px_H) (k : Nat) (Q : Option Value → px_H → Prop) (hk : k + 1 ≤ 10), wp d 139 48 [l0] [.int 96, s1] w k Q ↔ wp d 139 50 [l0] [.ref w.1, s1] (px_add w (.inl (.int, 96, fun _ => 0))) (k + 1) Q) ∧
  (∀ (d : Nat) (l0 : Option Value) (a b : Nat) (w : px_H) (k : Nat) (Q : Option Value → px_H → Prop), wp d 139 50 [l0] [.ref b, .ref a] w k Q ↔ px_op (px_pfd w a [(11, 0)] 7 (.ref b)) (fun w' => wp d 139 53 [l0] [] w' k Q)) ∧
  (∀ (d : Nat) (a : Nat) (w : px_H) (k : Nat) (Q : Option Value → px_H → Prop), wp d 139 53 [some (.ref a)] [] w k Q ↔ wp d 139 54 [some (.ref a)] [.ref a] w k Q) ∧
  (∀ (d : Nat) (l0 : Option Value) (s0 : Value)  (w : px_H) (k : Nat) (Q : Option Value → px_H → Prop), wp d 139 54 [l0] [s0] w k Q ↔ wp d 139 56 [l0] [.int 120, s0] w k Q) ∧
  (∀ (d : Nat) (l0 : Option Value) (s1 : Value)  (w : px_H) (k : Nat) (Q : Option Value → px_H → Prop) (hk : k + 1 ≤ 10), wp d 139 56 [l0] [.int 120, s1] w k Q ↔ wp d 139 58 [l0] [.ref w.1, s1] (px_add w (.inl (.byte, 120, fun _ => 0))) (k + 1) Q) ∧
  (∀ (d : Nat) (l0 : Option Value) (a b : Nat) (w : px_H) (k : Nat) (Q : Option Value → px_H → Prop), wp d 139 58 [l0] [.ref b, .ref a] w k Q ↔ px_op (px_pfd w a [(11, 0)] 9 (.ref b)) (fun w' => wp d 139 61 [l0] [] w' k Q)) ∧
  (∀ (d : Nat) (a : Nat) (w : px_H) (k : Nat) (Q : Option Value → px_H → Prop), wp d 139 61 [some (.ref a)] [] w k Q ↔ wp d 139 62 [some (.ref a)] [.ref a] w k Q) ∧
  (∀ (d : Nat) (l0 : Option Value) (s0 : Value)  (w : px_H) (k : Nat) (Q : Option Value → px_H → Prop), wp d 139 62 [l0] [s0] w k Q ↔ wp d 139 64 [l0] [.int 8, s0] w k Q) ∧
  (∀ (d : Nat) (l0 : Option Value) (s1 : Value)  (w : px_H) (k : Nat) (Q : Option Value → px_H → Prop) (hk : k + 1 ≤ 10), wp d 139 64 [l0] [.int 8, s1] w k Q ↔ wp d 139 66 [l0] [.ref w.1, s1] (px_add w (.inl (.int, 8, fun _ => 0))) (k + 1) Q) ∧
  (∀ (d : Nat) (l0 : Option Value) (a b : Nat) (w : px_H) (k : Nat) (Q : Option Value → px_H → Prop), wp d 139 66 [l0] [.ref b, .ref a] w k Q ↔ px_op (px_pfd w a [(11, 0)] 18 (.ref b)) (fun w' => wp d 139 69 [l0] [] w' k Q)) ∧
  (∀ (d : Nat) (a : Nat) (w : px_H) (k : Nat) (Q : Option Value → px_H → Prop), wp d 139 69 [some (.ref a)] [] w k Q ↔ wp d 139 70 [some (.ref a)] [.ref a] w k Q) ∧
  (∀ (d : Nat) (l0 : Option Value) (s0 : Value)  (w : px_H) (k : Nat) (Q : Option Value → px_H → Prop), wp d 139 70 [l0] [s0] w k Q ↔ wp d 139 71 [l0] [.int 4, s0] w k Q) ∧
  (∀ (d : Nat) (l0 : Option Value) (s1 : Value)  (w : px_H) (k : Nat) (Q : Option Value → px_H → Prop) (hk : k + 1 ≤ 10), wp d 139 71 [l0] [.int 4, s1] w k Q ↔ wp d 139 73 [l0] [.ref w.1, s1] (px_add w (.inl (.int, 4, fun _ => 0))) (k + 1) Q) ∧
  (∀ (d : Nat) (l0 : Option Value) (a b : Nat) (w : px_H) (k : Nat) (Q : Option Value → px_H → Prop), wp d 139 73 [l0] [.ref b, .ref a] w k Q ↔ px_op (px_pfd w a [(11, 0)] 19 (.ref b)) (fun w' => wp d 139 76 [l0] [] w' k Q)) ∧
  (∀ (d : Nat) (a : Nat) (w : px_H) (k : Nat) (Q : Option Value → px_H → Prop), wp d 139 76 [some (.ref a)] [] w k Q ↔ wp d 139 77 [some (.ref a)] [.ref a] w k Q) ∧
  (∀ (d : Nat) (l0 : Option Value) (s0 : Value)  (w : px_H) (k : Nat) (Q : Option Value → px_H → Prop), wp d 139 77 [l0] [s0] w k Q ↔ wp d 139 79 [l0] [.int 16, s0] w k Q) ∧
  (∀ (d : Nat) (l0 : Option Value) (s1 : Value)  (w : px_H) (k : Nat) (Q : Option Value → px_H → Prop) (hk : k + 1 ≤ 10), wp d 139 79 [l0] [.int 16, s1] w k Q ↔ wp d 139 81 [l0] [.ref w.1, s1] (px_add w (.inl (.int, 16, fun _ => 0))) (k + 1) Q) ∧
  (∀ (d : Nat) (l0 : Option Value) (a b : Nat) (w : px_H) (k : Nat) (Q : Option Value → px_H → Prop), wp d 139 81 [l0] [.ref b, .ref a] w k Q ↔ px_op (px_pfd w a [(11, 0)] 21 (.ref b)) (fun w' => wp d 139 84 [l0] [] w' k Q)) ∧
  (∀ (d : Nat) (a : Nat) (w : px_H) (k : Nat) (Q : Option Value → px_H → Prop), wp d 139 84 [some (.ref a)] [] w k Q ↔ wp d 139 85 [some (.ref a)] [.ref a] w k Q) ∧
  (∀ (d : Nat) (l0 : Option Value) (s0 : Value)  (w : px_H) (k : Nat) (Q : Option Value → px_H → Prop), wp d 139 85 [l0] [s0] w k Q ↔ wp d 139 86 [l0] [.int 0, s0] w k Q) ∧
  (∀ (d : Nat) (l0 : Option Value) (x : Int32) (a : Nat) (w : px_H) (k : Nat) (Q : Option Value → px_H → Prop), wp d 139 86 [l0] [.int x, .ref a] w k Q ↔ px_op (px_pfd w a [(11, 0)] 10 (.int x)) (fun w' => wp d 139 89 [l0] [] w' k Q)) ∧
  (∀ (d : Nat) (l0 : Option Value)  (w : px_H) (k : Nat) (Q : Option Value → px_H → Prop), wp d 139 89 [l0] [] w k Q ↔ Q none w) := ⟨fun d v0 w Q => r_entry pt_139 (Nat.le_of_ble_eq_true rfl) rfl,
  fun d a w k Q => px_go (q := (.aload_n 0, 1, px_x0)) (S' := (1, [some (.ref a)], [.ref a], w, k)) pt_139 rfl rfl,
  fun d l0 a w k Q => px_go (q := (.invokespecial 1, 3, (36, 0, [], 0, ""))) (S' := (4, [l0], [], w, k)) pt_139 rfl rfl,
  fun d a w k Q => px_go (q := (.aload_n 0, 1, px_x0)) (S' := (5, [some (.ref a)], [.ref a], w, k)) pt_139 rfl rfl,
  fun d l0 s0 w k Q => r_bipush pt_139 rfl (by decide),
  fun d l0 s1 w k Q hk => r_newarr pt_139 rfl rfl ⟨by decide, by decide, by decide⟩ hk,
  fun d l0 a b w k Q => r_put pt_139 rfl (by simp only [List.all_cons, List.all_nil, ft_11_0, px_fit, px_isr, Bool.and_self]),
  fun d a w k Q => px_go (q := (.aload_n 0, 1, px_x0)) (S' := (13, [some (.ref a)], [.ref a], w, k)) pt_139 rfl rfl,
  fun d l0 s0 w k Q => r_bipush pt_139 rfl (by decide),
  fun d l0 s1 w k Q hk => r_newarr pt_139 rfl rfl ⟨by decide, by decide, by decide⟩ hk,
  fun d l0 a b w k Q => r_put pt_139 rfl (by simp only [List.all_cons, List.all_nil, ft_11_1, px_fit, px_isr, Bool.and_self]),
  fun d a w k Q => px_go (q := (.aload_n 0, 1, px_x0)) (S' := (21, [some (.ref a)], [.ref a], w, k)) pt_139 rfl rfl,
  fun d l0 s0 w k Q => r_sipush pt_139 rfl (by decide),
  fun d l0 s1 w k Q hk => r_newarr pt_139 rfl rfl ⟨by decide, by decide, by decide⟩ hk,
  fun d l0 a b w k Q => r_put pt_139 rfl (by simp only [List.all_cons, List.all_nil, ft_11_2, px_fit, px_isr, Bool.and_self]),
  fun d a w k Q => px_go (q := (.aload_n 0, 1, px_x0)) (S' := (30, [some (.ref a)], [.ref a], w, k)) pt_139 rfl rfl,
  fun d l0 s0 w k Q => r_sipush pt_139 rfl (by decide),
  fun d l0 s1 w k Q hk => r_newarr pt_139 rfl rfl ⟨by decide, by decide, by decide⟩ hk,
  fun d l0 a b w k Q => r_put pt_139 rfl (by simp only [List.all_cons, List.all_nil, ft_11_4, px_fit, px_isr, Bool.and_self]),
  fun d a w k Q => px_go (q := (.aload_n 0, 1, px_x0)) (S' := (39, [some (.ref a)], [.ref a], w, k)) pt_139 rfl rfl,
  fun d l0 s0 w k Q => r_iconst pt_139 rfl (by decide),
  fun d l0 s1 w k Q hk => r_newarr pt_139 rfl rfl ⟨by decide, by decide, by decide⟩ hk,
  fun d l0 a b w k Q => r_put pt_139 rfl (by simp only [List.all_cons, List.all_nil, ft_11_6, px_fit, px_isr, Bool.and_self]),
  fun d a w k Q => px_go (q := (.aload_n 0, 1, px_x0)) (S' := (46, [some (.ref a)], [.ref a], w, k)) pt_139 rfl rfl,
  fun d l0 s0 w k Q => r_bipush pt_139 rfl (by decide),
  fun d l0 s1 w k Q hk => r_newarr pt_139 rfl rfl ⟨by decide, by decide, by decide⟩ hk,
  fun d l0 a b w k Q => r_put pt_139 rfl (by simp only [List.all_cons, List.all_nil, ft_11_7, px_fit, px_isr, Bool.and_self]),
  fun d a w k Q => px_go (q := (.aload_n 0, 1, px_x0)) (S' := (54, [some (.ref a)], [.ref a], w, k)) pt_139 rfl rfl,
  fun d l0 s0 w k Q => r_bipush pt_139 rfl (by decide),
  fun d l0 s1 w k Q hk => r_newarr pt_139 rfl rfl ⟨by decide, by decide, by decide⟩ hk,
  fun d l0 a b w k Q => r_put pt_139 rfl (by simp only [List.all_cons, List.all_nil, ft_11_9, px_fit, px_isr, Bool.and_self]),
  fun d a w k Q => px_go (q := (.aload_n 0, 1, px_x0)) (S' := (62, [some (.ref a)], [.ref a], w, k)) pt_139 rfl rfl,
  fun d l0 s0 w k Q => r_bipush pt_139 rfl (by decide),
  fun d l0 s1 w k Q hk => r_newarr pt_139 rfl rfl ⟨by decide, by decide, by decide⟩ hk,
  fun d l0 a b w k Q => r_put pt_139 rfl (by simp only [List.all_cons, List.all_nil, ft_11_18, px_fit, px_isr, Bool.and_self]),
  fun d a w k Q => px_go (q := (.aload_n 0, 1, px_x0)) (S' := (70, [some (.ref a)], [.ref a], w, k)) pt_139 rfl rfl,
  fun d l0 s0 w k Q => r_iconst pt_139 rfl (by decide),
  fun d l0 s1 w k Q hk => r_newarr pt_139 rfl rfl ⟨by decide, by decide, by decide⟩ hk,
  fun d l0 a b w k Q => r_put pt_139 rfl (by simp only [List.all_cons, List.all_nil, ft_11_19, px_fit, px_isr, Bool.and_self]),
  fun d a w k Q => px_go (q := (.aload_n 0, 1, px_x0)) (S' := (77, [some (.ref a)], [.ref a], w, k)) pt_139 rfl rfl,
  fun d l0 s0 w k Q => r_bipush pt_139 rfl (by decide),
  fun d l0 s1 w k Q hk => r_newarr pt_139 rfl rfl ⟨by decide, by decide, by decide⟩ hk,
  fun d l0 a b w k Q => r_put pt_139 rfl (by simp only [List.all_cons, List.all_nil, ft_11_21, px_fit, px_isr, Bool.and_self]),
  fun d a w k Q => px_go (q := (.aload_n 0, 1, px_x0)) (S' := (85, [some (.ref a)], [.ref a], w, k)) pt_139 rfl rfl,
  fun d l0 s0 w k Q => r_iconst pt_139 rfl (by decide),
  fun d l0 x a w k Q => r_put pt_139 rfl (by simp only [List.all_cons, List.all_nil, ft_11_10, px_fit, px_isr, Bool.and_self]),
  fun d l0 w k Q => px_ret (q := (.return_, 1, px_x0)) pt_139 rfl rfl⟩
/-- AllSwornModel.in(III)Z -/
theorem S140 : (∀ (d : Nat) (v0 v1 v2 : Value) (w : px_H) (Q : Option Value → px_H → Prop), wc d 140 [v0, v1, v2] w Q ↔ wp d 140 0 [some v0, some v1, some v2] [] w 0 Q) ∧
  (∀ (d : Nat) (l1 l2 : Option Value) (x : Int32) (w : px_H) (Q : Option Value → px_H → Prop), wp d 140 0 [some (.int x), l1, l2] [] w 0 Q ↔ wp d 140 1 [some (.int x), l1, l2] [.int x] w 0 Q) ∧
  (∀ (d : Nat) (l0 l2 : Option Value) (s0 : Value) (x : Int32) (w : px_H) (Q : Option Value → px_H → Prop), wp d 140 1 [l0, some (.int x), l2] [s0] w 0 Q ↔ wp d 140 2 [l0, some (.int x), l2] [.int x, s0] w 0 Q) ∧
  (∀ (d : Nat) (l0 l1 l2 : Option Value) (x y : Int32) (w : px_H) (Q : Option Value → px_H → Prop), wp d 140 2 [l0, l1, l2] [.int y, .int x] w 0 Q ↔ if x < y then wp d 140 14 [l0, l1, l2] [] w 0 Q else wp d 140 5 [l0, l1, l2] [] w 0 Q) ∧
  (∀ (d : Nat) (l1 l2 : Option Value) (x : Int32) (w : px_H) (Q : Option Value → px_H → Prop), wp d 140 5 [some (.int x), l1, l2] [] w 0 Q ↔ wp d 140 6 [some (.int x), l1, l2] [.int x] w 0 Q) ∧
  (∀ (d : Nat) (l0 l1 : Option Value) (s0 : Value) (x : Int32) (w : px_H) (Q : Option Value → px_H → Prop), wp d 140 6 [l0, l1, some (.int x)] [s0] w 0 Q ↔ wp d 140 7 [l0, l1, some (.int x)] [.int x, s0] w 0 Q) ∧
  (∀ (d : Nat) (l0 l1 l2 : Option Value) (x y : Int32) (w : px_H) (Q : Option Value → px_H → Prop), wp d 140 7 [l0, l1, l2] [.int y, .int x] w 0 Q ↔ if y < x then wp d 140 14 [l0, l1, l2] [] w 0 Q else wp d 140 10 [l0, l1, l2] [] w 0 Q) ∧
  (∀ (d : Nat) (l0 l1 l2 : Option Value)  (w : px_H) (Q : Option Value → px_H → Prop), wp d 140 10 [l0, l1, l2] [] w 0 Q ↔ wp d 140 11 [l0, l1, l2] [.int 1] w 0 Q) ∧
  (∀ (d : Nat) (l0 l1 l2 : Option Value) (s0 : Value)  (w : px_H) (Q : Option Value → px_H → Prop), wp d 140 11 [l0, l1, l2] [s0] w 0 Q ↔ wp d 140 15 [l0, l1, l2] [s0] w 0 Q) ∧
  (∀ (d : Nat) (l0 l1 l2 : Option Value)  (w : px_H) (Q : Option Value → px_H → Prop), wp d 140 14 [l0, l1, l2] [] w 0 Q ↔ wp d 140 15 [l0, l1, l2] [.int 0] w 0 Q) ∧
  (∀ (d : Nat) (l0 l1 l2 : Option Value) (x : Int32) (w : px_H) (Q : Option Value → px_H → Prop), wp d 140 15 [l0, l1, l2] [.int x] w 0 Q ↔ (x = 0 ∨ x = 1) ∧ Q (some (.int x)) w) := ⟨fun d v0 v1 v2 w Q => r_entry pt_140 (Nat.le_of_ble_eq_true rfl) rfl,
  fun d l1 l2 x w Q => px_go (q := (.iload_n 0, 1, px_x0)) (S' := (1, [some (.int x), l1, l2], [.int x], w, 0)) pt_140 rfl rfl,
  fun d l0 l2 s0 x w Q => px_go (q := (.iload_n 1, 1, px_x0)) (S' := (2, [l0, some (.int x), l2], [.int x, s0], w, 0)) pt_140 rfl rfl,
  fun d l0 l1 l2 x y w Q => r_icmp_lt pt_140 rfl rfl,
  fun d l1 l2 x w Q => px_go (q := (.iload_n 0, 1, px_x0)) (S' := (6, [some (.int x), l1, l2], [.int x], w, 0)) pt_140 rfl rfl,
  fun d l0 l1 s0 x w Q => px_go (q := (.iload_n 2, 1, px_x0)) (S' := (7, [l0, l1, some (.int x)], [.int x, s0], w, 0)) pt_140 rfl rfl,
  fun d l0 l1 l2 x y w Q => r_icmp_gt pt_140 rfl rfl,
  fun d l0 l1 l2 w Q => r_iconst pt_140 rfl (by decide),
  fun d l0 l1 l2 s0 w Q => r_goto pt_140 rfl rfl,
  fun d l0 l1 l2 w Q => r_iconst pt_140 rfl (by decide),
  fun d l0 l1 l2 x w Q => px_retI (q := (.ireturn, 1, px_x0)) pt_140 rfl rfl⟩
/-- AllSwornModel.finds(I)I -/
theorem S141 : (∀ (d : Nat) (v0 v1 : Value) (w : px_H) (Q : Option Value → px_H → Prop), wc d 141 [v0, v1] w Q ↔ wp d 141 0 [some v0, some v1] [] w 0 Q) ∧
  (∀ (d : Nat) (l1 : Option Value) (a : Nat) (w : px_H) (Q : Option Value → px_H → Prop), wp d 141 0 [some (.ref a), l1] [] w 0 Q ↔ wp d 141 1 [some (.ref a), l1] [.ref a] w 0 Q) ∧
  (∀ (d : Nat) (l0 : Option Value) (s0 : Value) (x : Int32) (w : px_H) (Q : Option Value → px_H → Prop), wp d 141 1 [l0, some (.int x)] [s0] w 0 Q ↔ wp d 141 2 [l0, some (.int x)] [.int x, s0] w 0 Q) ∧
  (∀ (d : Nat) (l0 l1 : Option Value) (x : Int32) (a : Nat) (w : px_H) (Q : Option Value → px_H → Prop), wp d 141 2 [l0, l1] [.int x, .ref a] w 0 Q ↔ px_op (px_pfd w a [(11, 0)] 3 (.int x)) (fun w' => wp d 141 5 [l0, l1] [] w' 0 Q)) ∧
  (∀ (d : Nat) (l0 l1 : Option Value)  (w : px_H) (Q : Option Value → px_H → Prop), wp d 141 5 [l0, l1] [] w 0 Q ↔ wp d 141 7 [l0, l1] [.int (-1000010)] w 0 Q) ∧
  (∀ (d : Nat) (l0 : Option Value) (s0 : Value) (x : Int32) (w : px_H) (Q : Option Value → px_H → Prop), wp d 141 7 [l0, some (.int x)] [s0] w 0 Q ↔ wp d 141 8 [l0, some (.int x)] [.int x, s0] w 0 Q) ∧
  (∀ (d : Nat) (l0 l1 : Option Value) (x y : Int32) (w : px_H) (Q : Option Value → px_H → Prop), wp d 141 8 [l0, l1] [.int y, .int x] w 0 Q ↔ wp d 141 9 [l0, l1] [.int (x - y)] w 0 Q) ∧
  (∀ (d : Nat) (l0 l1 : Option Value) (x : Int32) (w : px_H) (Q : Option Value → px_H → Prop), wp d 141 9 [l0, l1] [.int x] w 0 Q ↔ Q (some (.int x)) w) := ⟨fun d v0 v1 w Q => r_entry pt_141 (Nat.le_of_ble_eq_true rfl) rfl,
  fun d l1 a w Q => px_go (q := (.aload_n 0, 1, px_x0)) (S' := (1, [some (.ref a), l1], [.ref a], w, 0)) pt_141 rfl rfl,
  fun d l0 s0 x w Q => px_go (q := (.iload_n 1, 1, px_x0)) (S' := (2, [l0, some (.int x)], [.int x, s0], w, 0)) pt_141 rfl rfl,
  fun d l0 l1 x a w Q => r_put pt_141 rfl (by simp only [List.all_cons, List.all_nil, ft_11_3, px_fit, px_isr, Bool.and_self]),
  fun d l0 l1 w Q => px_go (q := (.ldc 49, 2, (0, 0, [], (-1000010), ""))) (S' := (7, [l0, l1], [.int (-1000010)], w, 0)) pt_141 rfl rfl,
  fun d l0 s0 x w Q => px_go (q := (.iload_n 1, 1, px_x0)) (S' := (8, [l0, some (.int x)], [.int x, s0], w, 0)) pt_141 rfl rfl,
  fun d l0 l1 x y w Q => px_go (q := (.isub, 1, px_x0)) (S' := (9, [l0, l1], [.int (x - y)], w, 0)) pt_141 rfl rfl,
  fun d l0 l1 x w Q => px_ret (q := (.ireturn, 1, px_x0)) pt_141 rfl rfl⟩
/-- AllSwornModel.well(I)I -/
theorem S142 : (∀ (d : Nat) (v0 v1 : Value) (w : px_H) (Q : Option Value → px_H → Prop), wc d 142 [v0, v1] w Q ↔ wp d 142 0 [some v0, some v1] [] w 0 Q) ∧
  (∀ (d : Nat) (l1 : Option Value) (a : Nat) (w : px_H) (Q : Option Value → px_H → Prop), wp d 142 0 [some (.ref a), l1] [] w 0 Q ↔ wp d 142 1 [some (.ref a), l1] [.ref a] w 0 Q) ∧
  (∀ (d : Nat) (l0 l1 : Option Value) (s0 : Value)  (w : px_H) (Q : Option Value → px_H → Prop), wp d 142 1 [l0, l1] [s0] w 0 Q ↔ wp d 142 2 [l0, l1] [.int 0, s0] w 0 Q) ∧
  (∀ (d : Nat) (l0 l1 : Option Value) (x : Int32) (a : Nat) (w : px_H) (Q : Option Value → px_H → Prop), wp d 142 2 [l0, l1] [.int x, .ref a] w 0 Q ↔ px_op (px_pfd w a [(11, 0)] 3 (.int x)) (fun w' => wp d 142 5 [l0, l1] [] w' 0 Q)) ∧
  (∀ (d : Nat) (l0 : Option Value) (x : Int32) (w : px_H) (Q : Option Value → px_H → Prop), wp d 142 5 [l0, some (.int x)] [] w 0 Q ↔ wp d 142 6 [l0, some (.int x)] [.int x] w 0 Q) ∧
  (∀ (d : Nat) (l0 l1 : Option Value) (x : Int32) (w : px_H) (Q : Option Value → px_H → Prop), wp d 142 6 [l0, l1] [.int x] w 0 Q ↔ Q (some (.int x)) w) := ⟨fun d v0 v1 w Q => r_entry pt_142 (Nat.le_of_ble_eq_true rfl) rfl,
  fun d l1 a w Q => px_go (q := (.aload_n 0, 1, px_x0)) (S' := (1, [some (.ref a), l1], [.ref a], w, 0)) pt_142 rfl rfl,
  fun d l0 l1 s0 w Q => r_iconst pt_142 rfl (by decide),
  fun d l0 l1 x a w Q => r_put pt_142 rfl (by simp only [List.all_cons, List.all_nil, ft_11_3, px_fit, px_isr, Bool.and_self]),
  fun d l0 x w Q => px_go (q := (.iload_n 1, 1, px_x0)) (S' := (6, [l0, some (.int x)], [.int x], w, 0)) pt_142 rfl rfl,
  fun d l0 l1 x w Q => px_ret (q := (.ireturn, 1, px_x0)) pt_142 rfl rfl⟩
/-- AllSwornModel.isRow(I)Z -/
theorem S143 : (∀ (d : Nat) (v0 : Value) (w : px_H) (Q : Option Value → px_H → Prop), wc d 143 [v0] w Q ↔ wp d 143 0 [some v0] [] w 0 Q) ∧
  (∀ (d : Nat) (x : Int32) (w : px_H) (Q : Option Value → px_H → Prop), wp d 143 0 [some (.int x)] [] w 0 Q ↔ wp d 143 1 [some (.int x)] [.int x] w 0 Q) ∧
  (∀ (d : Nat) (l0 : Option Value) (s0 : Value)  (w : px_H) (Q : Option Value → px_H → Prop), wp d 143 1 [l0] [s0] w 0 Q ↔ wp d 143 2 [l0] [.int 0, s0] w 0 Q) ∧
  (∀ (d : Nat) (l0 : Option Value) (s0 s1 : Value)  (w : px_H) (Q : Option Value → px_H → Prop), wp d 143 2 [l0] [s0, s1] w 0 Q ↔ wp d 143 4 [l0] [.int 7, s0, s1] w 0 Q) ∧
  (∀ (d : Nat) (l0 : Option Value) (v0 v1 v2 : Value) (w : px_H) (Q : Option Value → px_H → Prop), wp (d + 1) 143 4 [l0] [v2, v1, v0] w 0 Q ↔ wc d 140 [v0, v1, v2] w (fun r w' => wp (d + 1) 143 7 [l0] (r.toList ++ []) w' 0 Q)) ∧
  (∀ (d : Nat) (l0 : Option Value) (x : Int32) (w : px_H) (Q : Option Value → px_H → Prop), wp d 143 7 [l0] [.int x] w 0 Q ↔ (x = 0 ∨ x = 1) ∧ Q (some (.int x)) w) := ⟨fun d v0 w Q => r_entry pt_143 (Nat.le_of_ble_eq_true rfl) rfl,
  fun d x w Q => px_go (q := (.iload_n 0, 1, px_x0)) (S' := (1, [some (.int x)], [.int x], w, 0)) pt_143 rfl rfl,
  fun d l0 s0 w Q => r_iconst pt_143 rfl (by decide),
  fun d l0 s0 s1 w Q => r_bipush pt_143 rfl (by decide),
  fun d l0 v0 v1 v2 w Q => r_call (q := (.invokestatic 50, 3, (30, 3, [(0, 140)], 0, ""))) pt_143 rfl rfl pt_140 (Nat.le_of_ble_eq_true rfl) (Nat.le_of_ble_eq_true rfl) rfl,
  fun d l0 x w Q => px_retI (q := (.ireturn, 1, px_x0)) pt_143 rfl rfl⟩
/-- AllSwornModel.row(III)I heads: [54] -/
theorem S144 : (∀ (d : Nat) (v0 v1 v2 v3 : Value) (w : px_H) (Q : Option Value → px_H → Prop), wc d 144 [v0, v1, v2, v3] w Q ↔ wp d 144 0 [some v0, some v1, some v2, some v3, none] [] w 0 Q) ∧
  (∀ (d : Nat) (l0 l2 l3 l4 : Option Value) (x : Int32) (w : px_H) (Q : Option Value → px_H → Prop), wp d 144 0 [l0, some (.int x), l2, l3, l4] [] w 0 Q ↔ wp d 144 1 [l0, some (.int x), l2, l3, l4] [.int x] w 0 Q) ∧
  (∀ (d : Nat) (l0 l1 l2 l3 l4 : Option Value) (v0 : Value) (w : px_H) (Q : Option Value → px_H → Prop), wp (d + 1) 144 1 [l0, l1, l2, l3, l4] [v0] w 0 Q ↔ wc d 143 [v0] w (fun r w' => wp (d + 1) 144 4 [l0, l1, l2, l3, l4] (r.toList ++ []) w' 0 Q)) ∧
  (∀ (d : Nat) (l0 l1 l2 l3 l4 : Option Value) (x : Int32) (w : px_H) (Q : Option Value → px_H → Prop), wp d 144 4 [l0, l1, l2, l3, l4] [.int x] w 0 Q ↔ if x = 0 then wp d 144 22 [l0, l1, l2, l3, l4] [] w 0 Q else wp d 144 7 [l0, l1, l2, l3, l4] [] w 0 Q) ∧
  (∀ (d : Nat) (l0 l1 l3 l4 : Option Value) (x : Int32) (w : px_H) (Q : Option Value → px_H → Prop), wp d 144 7 [l0, l1, some (.int x), l3, l4] [] w 0 Q ↔ wp d 144 8 [l0, l1, some (.int x), l3, l4] [.int x] w 0 Q) ∧
  (∀ (d : Nat) (l0 l1 l2 l3 l4 : Option Value) (s0 : Value)  (w : px_H) (Q : Option Value → px_H → Prop), wp d 144 8 [l0, l1, l2, l3, l4] [s0] w 0 Q ↔ wp d 144 9 [l0, l1, l2, l3, l4] [.int 0, s0] w 0 Q) ∧
  (∀ (d : Nat) (l0 l1 l2 l3 l4 : Option Value) (s0 s1 : Value)  (w : px_H) (Q : Option Value → px_H → Prop), wp d 144 9 [l0, l1, l2, l3, l4] [s0, s1] w 0 Q ↔ wp d 144 10 [l0, l1, l2, l3, l4] [.int 2, s0, s1] w 0 Q) ∧
  (∀ (d : Nat) (l0 l1 l2 l3 l4 : Option Value) (v0 v1 v2 : Value) (w : px_H) (Q : Option Value → px_H → Prop), wp (d + 1) 144 10 [l0, l1, l2, l3, l4] [v2, v1, v0] w 0 Q ↔ wc d 140 [v0, v1, v2] w (fun r w' => wp (d + 1) 144 13 [l0, l1, l2, l3, l4] (r.toList ++ []) w' 0 Q)) ∧
  (∀ (d : Nat) (l0 l1 l2 l3 l4 : Option Value) (x : Int32) (w : px_H) (Q : Option Value → px_H → Prop), wp d 144 13 [l0, l1, l2, l3, l4] [.int x] w 0 Q ↔ if x = 0 then wp d 144 22 [l0, l1, l2, l3, l4] [] w 0 Q else wp d 144 16 [l0, l1, l2, l3, l4] [] w 0 Q) ∧
  (∀ (d : Nat) (l0 l1 l2 l4 : Option Value) (x : Int32) (w : px_H) (Q : Option Value → px_H → Prop), wp d 144 16 [l0, l1, l2, some (.int x), l4] [] w 0 Q ↔ wp d 144 17 [l0, l1, l2, some (.int x), l4] [.int x] w 0 Q) ∧
  (∀ (d : Nat) (l0 l1 l2 l3 l4 : Option Value) (s0 : Value)  (w : px_H) (Q : Option Value → px_H → Prop), wp d 144 17 [l0, l1, l2, l3, l4] [s0] w 0 Q ↔ wp d 144 19 [l0, l1, l2, l3, l4] [.int 40, s0] w 0 Q) ∧
  (∀ (d : Nat) (l0 l1 l2 l3 l4 : Option Value) (x y : Int32) (w : px_H) (Q : Option Value → px_H → Prop), wp d 144 19 [l0, l1, l2, l3, l4] [.int y, .int x] w 0 Q ↔ if x ≤ y then wp d 144 25 [l0, l1, l2, l3, l4] [] w 0 Q else wp d 144 22 [l0, l1, l2, l3, l4] [] w 0 Q) ∧
  (∀ (d : Nat) (l0 l1 l2 l3 l4 : Option Value)  (w : px_H) (Q : Option Value → px_H → Prop), wp d 144 22 [l0, l1, l2, l3, l4] [] w 0 Q ↔ wp d 144 24 [l0, l1, l2, l3, l4] [.int (-1000001)] w 0 Q) ∧
  (∀ (d : Nat) (l0 l1 l2 l3 l4 : Option Value) (x : Int32) (w : px_H) (Q : Option Value → px_H → Prop), wp d 144 24 [l0, l1, l2, l3, l4] [.int x] w 0 Q ↔ Q (some (.int x)) w) ∧
  (∀ (d : Nat) (l0 l1 l2 l4 : Option Value) (x : Int32) (w : px_H) (Q : Option Value → px_H → Prop), wp d 144 25 [l0, l1, l2, some (.int x), l4] [] w 0 Q ↔ wp d 144 26 [l0, l1, l2, some (.int x), l4] [.int x] w 0 Q) ∧
  (∀ (d : Nat) (l0 l1 l2 l3 l4 : Option Value) (x : Int32) (w : px_H) (Q : Option Value → px_H → Prop), wp d 144 26 [l0, l1, l2, l3, l4] [.int x] w 0 Q ↔ if 0 ≤ x then wp d 144 35 [l0, l1, l2, l3, l4] [] w 0 Q else wp d 144 29 [l0, l1, l2, l3, l4] [] w 0 Q) ∧
  (∀ (d : Nat) (l1 l2 l3 l4 : Option Value) (a : Nat) (w : px_H) (Q : Option Value → px_H → Prop), wp d 144 29 [some (.ref a), l1, l2, l3, l4] [] w 0 Q ↔ wp d 144 30 [some (.ref a), l1, l2, l3, l4] [.ref a] w 0 Q) ∧
  (∀ (d : Nat) (l0 l1 l2 l3 l4 : Option Value) (s0 : Value)  (w : px_H) (Q : Option Value → px_H → Prop), wp d 144 30 [l0, l1, l2, l3, l4] [s0] w 0 Q ↔ wp d 144 31 [l0, l1, l2, l3, l4] [.int 4, s0] w 0 Q) ∧
  (∀ (d : Nat) (l0 l1 l2 l3 l4 : Option Value) (v0 : Value) (b : Nat) (w : px_H) (Q : Option Value → px_H → Prop), wp (d + 1) 144 31 [l0, l1, l2, l3, l4] [v0, .ref b] w 0 Q ↔ px_op (px_tgt w b [(11, 141)]) (fun v => wc d v [.ref b, v0] w (fun r w' => wp (d + 1) 144 34 [l0, l1, l2, l3, l4] (r.toList ++ []) w' 0 Q))) ∧
  (∀ (d : Nat) (l0 l1 l2 l3 l4 : Option Value) (x : Int32) (w : px_H) (Q : Option Value → px_H → Prop), wp d 144 34 [l0, l1, l2, l3, l4] [.int x] w 0 Q ↔ Q (some (.int x)) w) ∧
  (∀ (d : Nat) (l1 l2 l3 l4 : Option Value) (a : Nat) (w : px_H) (Q : Option Value → px_H → Prop), wp d 144 35 [some (.ref a), l1, l2, l3, l4] [] w 0 Q ↔ wp d 144 36 [some (.ref a), l1, l2, l3, l4] [.ref a] w 0 Q) ∧
  (∀ (d : Nat) (l0 l1 l2 l3 l4 : Option Value) (a : Nat) (w : px_H) (Q : Option Value → px_H → Prop), wp d 144 36 [l0, l1, l2, l3, l4] [.ref a] w 0 Q ↔ px_op (px_fld w a [(11, 0)] 0) (fun v => wp d 144 39 [l0, l1, l2, l3, l4] [v] w 0 Q)) ∧
  (∀ (d : Nat) (l0 l2 l3 l4 : Option Value) (s0 : Value) (x : Int32) (w : px_H) (Q : Option Value → px_H → Prop), wp d 144 39 [l0, some (.int x), l2, l3, l4] [s0] w 0 Q ↔ wp d 144 40 [l0, some (.int x), l2, l3, l4] [.int x, s0] w 0 Q) ∧
  (∀ (d : Nat) (l0 l1 l3 l4 : Option Value) (s0 s1 : Value) (x : Int32) (w : px_H) (Q : Option Value → px_H → Prop), wp d 144 40 [l0, l1, some (.int x), l3, l4] [s0, s1] w 0 Q ↔ wp d 144 41 [l0, l1, some (.int x), l3, l4] [.int x, s0, s1] w 0 Q) ∧
  (∀ (d : Nat) (l0 l1 l2 l3 l4 : Option Value) (s0 s1 s2 : Value)  (w : px_H) (Q : Option Value → px_H → Prop), wp d 144 41 [l0, l1, l2, l3, l4] [s0, s1, s2] w 0 Q ↔ wp d 144 42 [l0, l1, l2, l3, l4] [.int 1, s0, s1, s2] w 0 Q) ∧
  (∀ (d : Nat) (l0 l1 l2 l3 l4 : Option Value) (s2 s3 : Value) (x y : Int32) (w : px_H) (Q : Option Value → px_H → Prop), wp d 144 42 [l0, l1, l2, l3, l4] [.int y, .int x, s2, s3] w 0 Q ↔ wp d 144 43 [l0, l1, l2, l3, l4] [.int (x + y), s2, s3] w 0 Q) ∧
  (∀ (d : Nat) (l0 l1 l2 l3 l4 : Option Value) (x i : Int32) (a : Nat) (w : px_H) (Q : Option Value → px_H → Prop), wp d 144 43 [l0, l1, l2, l3, l4] [.int x, .int i, .ref a] w 0 Q ↔ px_op (px_ast w a i x .int) (fun w' => wp d 144 44 [l0, l1, l2, l3, l4] [] w' 0 Q)) ∧
  (∀ (d : Nat) (l1 l2 l3 l4 : Option Value) (a : Nat) (w : px_H) (Q : Option Value → px_H → Prop), wp d 144 44 [some (.ref a), l1, l2, l3, l4] [] w 0 Q ↔ wp d 144 45 [some (.ref a), l1, l2, l3, l4] [.ref a] w 0 Q) ∧
  (∀ (d : Nat) (l0 l1 l2 l3 l4 : Option Value) (a : Nat) (w : px_H) (Q : Option Value → px_H → Prop), wp d 144 45 [l0, l1, l2, l3, l4] [.ref a] w 0 Q ↔ px_op (px_fld w a [(11, 0)] 1) (fun v => wp d 144 48 [l0, l1, l2, l3, l4] [v] w 0 Q)) ∧
  (∀ (d : Nat) (l0 l2 l3 l4 : Option Value) (s0 : Value) (x : Int32) (w : px_H) (Q : Option Value → px_H → Prop), wp d 144 48 [l0, some (.int x), l2, l3, l4] [s0] w 0 Q ↔ wp d 144 49 [l0, some (.int x), l2, l3, l4] [.int x, s0] w 0 Q) ∧
  (∀ (d : Nat) (l0 l1 l2 l4 : Option Value) (s0 s1 : Value) (x : Int32) (w : px_H) (Q : Option Value → px_H → Prop), wp d 144 49 [l0, l1, l2, some (.int x), l4] [s0, s1] w 0 Q ↔ wp d 144 50 [l0, l1, l2, some (.int x), l4] [.int x, s0, s1] w 0 Q) ∧
  (∀ (d : Nat) (l0 l1 l2 l3 l4 : Option Value) (x i : Int32) (a : Nat) (w : px_H) (Q : Option Value → px_H → Prop), wp d 144 50 [l0, l1, l2, l3, l4] [.int x, .int i, .ref a] w 0 Q ↔ px_op (px_ast w a i x .int) (fun w' => wp d 144 51 [l0, l1, l2, l3, l4] [] w' 0 Q)) ∧
  (∀ (d : Nat) (l0 l1 l2 l3 l4 : Option Value)  (w : px_H) (Q : Option Value → px_H → Prop), wp d 144 51 [l0, l1, l2, l3, l4] [] w 0 Q ↔ wp d 144 52 [l0, l1, l2, l3, l4] [.int 0] w 0 Q) ∧
  (∀ (d : Nat) (l0 l1 l2 l3 l4 : Option Value) (x : Int32) (w : px_H) (Q : Option Value → px_H → Prop), wp d 144 52 [l0, l1, l2, l3, l4] [.int x] w 0 Q ↔ wp d 144 54 [l0, l1, l2, l3, some (.int x)] [] w 0 Q) ∧
  (∀ (d : Nat) (l0 l1 l2 l3 l4 : Option Value) (s0 : Value)  (w : px_H) (Q : Option Value → px_H → Prop), wp d 144 56 [l0, l1, l2, l3, l4] [s0] w 0 Q ↔ wp d 144 58 [l0, l1, l2, l3, l4] [.int 40, s0] w 0 Q) ∧
  (∀ (d : Nat) (l0 l1 l2 l3 l4 : Option Value) (x y : Int32) (w : px_H) (Q : Option Value → px_H → Prop), wp d 144 58 [l0, l1, l2, l3, l4] [.int y, .int x] w 0 Q ↔ if y ≤ x then wp d 144 80 [l0, l1, l2, l3, l4] [] w 0 Q else wp d 144 61 [l0, l1, l2, l3, l4] [] w 0 Q) ∧
  (∀ (d : Nat) (l1 l2 l3 l4 : Option Value) (a : Nat) (w : px_H) (Q : Option Value → px_H → Prop), wp d 144 61 [some (.ref a), l1, l2, l3, l4] [] w 0 Q ↔ wp d 144 62 [some (.ref a), l1, l2, l3, l4] [.ref a] w 0 Q) ∧
  (∀ (d : Nat) (l0 l1 l2 l3 l4 : Option Value) (a : Nat) (w : px_H) (Q : Option Value → px_H → Prop), wp d 144 62 [l0, l1, l2, l3, l4] [.ref a] w 0 Q ↔ px_op (px_fld w a [(11, 0)] 2) (fun v => wp d 144 65 [l0, l1, l2, l3, l4] [v] w 0 Q)) ∧
  (∀ (d : Nat) (l0 l1 l2 l3 l4 : Option Value) (s0 : Value)  (w : px_H) (Q : Option Value → px_H → Prop), wp d 144 65 [l0, l1, l2, l3, l4] [s0] w 0 Q ↔ wp d 144 67 [l0, l1, l2, l3, l4] [.int 40, s0] w 0 Q) ∧
  (∀ (d : Nat) (l0 l2 l3 l4 : Option Value) (s0 s1 : Value) (x : Int32) (w : px_H) (Q : Option Value → px_H → Prop), wp d 144 67 [l0, some (.int x), l2, l3, l4] [s0, s1] w 0 Q ↔ wp d 144 68 [l0, some (.int x), l2, l3, l4] [.int x, s0, s1] w 0 Q) ∧
  (∀ (d : Nat) (l0 l1 l2 l3 l4 : Option Value) (s2 : Value) (x y : Int32) (w : px_H) (Q : Option Value → px_H → Prop), wp d 144 68 [l0, l1, l2, l3, l4] [.int y, .int x, s2] w 0 Q ↔ wp d 144 69 [l0, l1, l2, l3, l4] [.int (x * y), s2] w 0 Q) ∧
  (∀ (d : Nat) (l0 l1 l2 l3 : Option Value) (s0 s1 : Value) (x : Int32) (w : px_H) (Q : Option Value → px_H → Prop), wp d 144 69 [l0, l1, l2, l3, some (.int x)] [s0, s1] w 0 Q ↔ wp d 144 71 [l0, l1, l2, l3, some (.int x)] [.int x, s0, s1] w 0 Q) ∧
  (∀ (d : Nat) (l0 l1 l2 l3 l4 : Option Value) (s2 : Value) (x y : Int32) (w : px_H) (Q : Option Value → px_H → Prop), wp d 144 71 [l0, l1, l2, l3, l4] [.int y, .int x, s2] w 0 Q ↔ wp d 144 72 [l0, l1, l2, l3, l4] [.int (x + y), s2] w 0 Q) ∧
  (∀ (d : Nat) (l0 l1 l2 l3 l4 : Option Value) (s0 s1 : Value)  (w : px_H) (Q : Option Value → px_H → Prop), wp d 144 72 [l0, l1, l2, l3, l4] [s0, s1] w 0 Q ↔ wp d 144 73 [l0, l1, l2, l3, l4] [.int 0, s0, s1] w 0 Q) ∧
  (∀ (d : Nat) (l0 l1 l2 l3 l4 : Option Value) (x i : Int32) (a : Nat) (w : px_H) (Q : Option Value → px_H → Prop), wp d 144 73 [l0, l1, l2, l3, l4] [.int x, .int i, .ref a] w 0 Q ↔ px_op (px_ast w a i x .int) (fun w' => wp d 144 74 [l0, l1, l2, l3, l4] [] w' 0 Q)) ∧
  (∀ (d : Nat) (l0 l1 l2 l3 : Option Value) (x : Int32) (w : px_H) (Q : Option Value → px_H → Prop), wp d 144 74 [l0, l1, l2, l3, some (.int x)] [] w 0 Q ↔ wp d 144 77 [l0, l1, l2, l3, some (.int (x + 1))] [] w 0 Q) ∧
  (∀ (d : Nat) (l0 l1 l2 l3 l4 : Option Value)  (w : px_H) (Q : Option Value → px_H → Prop), wp d 144 77 [l0, l1, l2, l3, l4] [] w 0 Q ↔ wp d 144 54 [l0, l1, l2, l3, l4] [] w 0 Q) ∧
  (∀ (d : Nat) (l1 l2 l3 l4 : Option Value) (a : Nat) (w : px_H) (Q : Option Value → px_H → Prop), wp d 144 80 [some (.ref a), l1, l2, l3, l4] [] w 0 Q ↔ wp d 144 81 [some (.ref a), l1, l2, l3, l4] [.ref a] w 0 Q) ∧
  (∀ (d : Nat) (l0 l1 l2 l4 : Option Value) (s0 : Value) (x : Int32) (w : px_H) (Q : Option Value → px_H → Prop), wp d 144 81 [l0, l1, l2, some (.int x), l4] [s0] w 0 Q ↔ wp d 144 82 [l0, l1, l2, some (.int x), l4] [.int x, s0] w 0 Q) ∧
  (∀ (d : Nat) (l0 l1 l2 l3 l4 : Option Value) (v0 : Value) (b : Nat) (w : px_H) (Q : Option Value → px_H → Prop), wp (d + 1) 144 82 [l0, l1, l2, l3, l4] [v0, .ref b] w 0 Q ↔ px_op (px_tgt w b [(11, 142)]) (fun v => wc d v [.ref b, v0] w (fun r w' => wp (d + 1) 144 85 [l0, l1, l2, l3, l4] (r.toList ++ []) w' 0 Q))) ∧
  (∀ (d : Nat) (l0 l1 l2 l3 l4 : Option Value) (x : Int32) (w : px_H) (Q : Option Value → px_H → Prop), wp d 144 85 [l0, l1, l2, l3, l4] [.int x] w 0 Q ↔ Q (some (.int x)) w) := ⟨fun d v0 v1 v2 v3 w Q => r_entry pt_144 (Nat.le_of_ble_eq_true rfl) rfl,
  fun d l0 l2 l3 l4 x w Q => px_go (q := (.iload_n 1, 1, px_x0)) (S' := (1, [l0, some (.int x), l2, l3, l4], [.int x], w, 0)) pt_144 rfl rfl,
  fun d l0 l1 l2 l3 l4 v0 w Q => r_call (q := (.invokestatic 54, 3, (30, 1, [(0, 143)], 0, ""))) pt_144 rfl rfl pt_143 (Nat.le_of_ble_eq_true rfl) (Nat.le_of_ble_eq_true rfl) rfl,
  fun d l0 l1 l2 l3 l4 x w Q => r_if_eq pt_144 rfl rfl,
  fun d l0 l1 l3 l4 x w Q => px_go (q := (.iload_n 2, 1, px_x0)) (S' := (8, [l0, l1, some (.int x), l3, l4], [.int x], w, 0)) pt_144 rfl rfl,
  fun d l0 l1 l2 l3 l4 s0 w Q => r_iconst pt_144 rfl (by decide),
  fun d l0 l1 l2 l3 l4 s0 s1 w Q => r_iconst pt_144 rfl (by decide),
  fun d l0 l1 l2 l3 l4 v0 v1 v2 w Q => r_call (q := (.invokestatic 50, 3, (30, 3, [(0, 140)], 0, ""))) pt_144 rfl rfl pt_140 (Nat.le_of_ble_eq_true rfl) (Nat.le_of_ble_eq_true rfl) rfl,
  fun d l0 l1 l2 l3 l4 x w Q => r_if_eq pt_144 rfl rfl,
  fun d l0 l1 l2 l4 x w Q => px_go (q := (.iload_n 3, 1, px_x0)) (S' := (17, [l0, l1, l2, some (.int x), l4], [.int x], w, 0)) pt_144 rfl rfl,
  fun d l0 l1 l2 l3 l4 s0 w Q => r_bipush pt_144 rfl (by decide),
  fun d l0 l1 l2 l3 l4 x y w Q => r_icmp_le pt_144 rfl rfl,
  fun d l0 l1 l2 l3 l4 w Q => px_go (q := (.ldc 58, 2, (0, 0, [], (-1000001), ""))) (S' := (24, [l0, l1, l2, l3, l4], [.int (-1000001)], w, 0)) pt_144 rfl rfl,
  fun d l0 l1 l2 l3 l4 x w Q => px_ret (q := (.ireturn, 1, px_x0)) pt_144 rfl rfl,
  fun d l0 l1 l2 l4 x w Q => px_go (q := (.iload_n 3, 1, px_x0)) (S' := (26, [l0, l1, l2, some (.int x), l4], [.int x], w, 0)) pt_144 rfl rfl,
  fun d l0 l1 l2 l3 l4 x w Q => r_if_ge pt_144 rfl rfl,
  fun d l1 l2 l3 l4 a w Q => px_go (q := (.aload_n 0, 1, px_x0)) (S' := (30, [some (.ref a), l1, l2, l3, l4], [.ref a], w, 0)) pt_144 rfl rfl,
  fun d l0 l1 l2 l3 l4 s0 w Q => r_iconst pt_144 rfl (by decide),
  fun d l0 l1 l2 l3 l4 v0 b w Q => r_callV (q := (.invokevirtual 59, 3, (33, 1, [(11, 141)], 0, ""))) pt_144 rfl rfl (List.forall_mem_cons.mpr ⟨⟨_, pt_141, Nat.le_of_ble_eq_true rfl, (Nat.le_of_ble_eq_true rfl), rfl⟩, fun _ h => absurd h List.not_mem_nil⟩),
  fun d l0 l1 l2 l3 l4 x w Q => px_ret (q := (.ireturn, 1, px_x0)) pt_144 rfl rfl,
  fun d l1 l2 l3 l4 a w Q => px_go (q := (.aload_n 0, 1, px_x0)) (S' := (36, [some (.ref a), l1, l2, l3, l4], [.ref a], w, 0)) pt_144 rfl rfl,
  fun d l0 l1 l2 l3 l4 a w Q => px_goO (q := (.getfield 7, 3, (10, 0, [(11, 0)], 0, "AllSwornModel"))) (S' := fun v => (39, [l0, l1, l2, l3, l4], [v], w, 0)) pt_144 rfl rfl,
  fun d l0 l2 l3 l4 s0 x w Q => px_go (q := (.iload_n 1, 1, px_x0)) (S' := (40, [l0, some (.int x), l2, l3, l4], [.int x, s0], w, 0)) pt_144 rfl rfl,
  fun d l0 l1 l3 l4 s0 s1 x w Q => px_go (q := (.iload_n 2, 1, px_x0)) (S' := (41, [l0, l1, some (.int x), l3, l4], [.int x, s0, s1], w, 0)) pt_144 rfl rfl,
  fun d l0 l1 l2 l3 l4 s0 s1 s2 w Q => r_iconst pt_144 rfl (by decide),
  fun d l0 l1 l2 l3 l4 s2 s3 x y w Q => px_go (q := (.iadd, 1, px_x0)) (S' := (43, [l0, l1, l2, l3, l4], [.int (x + y), s2, s3], w, 0)) pt_144 rfl rfl,
  fun d l0 l1 l2 l3 l4 x i a w Q => px_goO (q := (.iastore, 1, px_x0)) (S' := fun w' => (44, [l0, l1, l2, l3, l4], [], w', 0)) pt_144 rfl rfl,
  fun d l1 l2 l3 l4 a w Q => px_go (q := (.aload_n 0, 1, px_x0)) (S' := (45, [some (.ref a), l1, l2, l3, l4], [.ref a], w, 0)) pt_144 rfl rfl,
  fun d l0 l1 l2 l3 l4 a w Q => px_goO (q := (.getfield 13, 3, (10, 1, [(11, 0)], 0, "AllSwornModel"))) (S' := fun v => (48, [l0, l1, l2, l3, l4], [v], w, 0)) pt_144 rfl rfl,
  fun d l0 l2 l3 l4 s0 x w Q => px_go (q := (.iload_n 1, 1, px_x0)) (S' := (49, [l0, some (.int x), l2, l3, l4], [.int x, s0], w, 0)) pt_144 rfl rfl,
  fun d l0 l1 l2 l4 s0 s1 x w Q => px_go (q := (.iload_n 3, 1, px_x0)) (S' := (50, [l0, l1, l2, some (.int x), l4], [.int x, s0, s1], w, 0)) pt_144 rfl rfl,
  fun d l0 l1 l2 l3 l4 x i a w Q => px_goO (q := (.iastore, 1, px_x0)) (S' := fun w' => (51, [l0, l1, l2, l3, l4], [], w', 0)) pt_144 rfl rfl,
  fun d l0 l1 l2 l3 l4 w Q => r_iconst pt_144 rfl (by decide),
  fun d l0 l1 l2 l3 l4 x w Q => px_go (q := (.istore 4, 2, px_x0)) (S' := (54, [l0, l1, l2, l3, some (.int x)], [], w, 0)) pt_144 rfl rfl,
  fun d l0 l1 l2 l3 l4 s0 w Q => r_bipush pt_144 rfl (by decide),
  fun d l0 l1 l2 l3 l4 x y w Q => r_icmp_ge pt_144 rfl rfl,
  fun d l1 l2 l3 l4 a w Q => px_go (q := (.aload_n 0, 1, px_x0)) (S' := (62, [some (.ref a), l1, l2, l3, l4], [.ref a], w, 0)) pt_144 rfl rfl,
  fun d l0 l1 l2 l3 l4 a w Q => px_goO (q := (.getfield 16, 3, (10, 2, [(11, 0)], 0, "AllSwornModel"))) (S' := fun v => (65, [l0, l1, l2, l3, l4], [v], w, 0)) pt_144 rfl rfl,
  fun d l0 l1 l2 l3 l4 s0 w Q => r_bipush pt_144 rfl (by decide),
  fun d l0 l2 l3 l4 s0 s1 x w Q => px_go (q := (.iload_n 1, 1, px_x0)) (S' := (68, [l0, some (.int x), l2, l3, l4], [.int x, s0, s1], w, 0)) pt_144 rfl rfl,
  fun d l0 l1 l2 l3 l4 s2 x y w Q => px_go (q := (.imul, 1, px_x0)) (S' := (69, [l0, l1, l2, l3, l4], [.int (x * y), s2], w, 0)) pt_144 rfl rfl,
  fun d l0 l1 l2 l3 s0 s1 x w Q => px_go (q := (.iload 4, 2, px_x0)) (S' := (71, [l0, l1, l2, l3, some (.int x)], [.int x, s0, s1], w, 0)) pt_144 rfl rfl,
  fun d l0 l1 l2 l3 l4 s2 x y w Q => px_go (q := (.iadd, 1, px_x0)) (S' := (72, [l0, l1, l2, l3, l4], [.int (x + y), s2], w, 0)) pt_144 rfl rfl,
  fun d l0 l1 l2 l3 l4 s0 s1 w Q => r_iconst pt_144 rfl (by decide),
  fun d l0 l1 l2 l3 l4 x i a w Q => px_goO (q := (.iastore, 1, px_x0)) (S' := fun w' => (74, [l0, l1, l2, l3, l4], [], w', 0)) pt_144 rfl rfl,
  fun d l0 l1 l2 l3 x w Q => r_iinc pt_144 rfl rfl (by decide) rfl,
  fun d l0 l1 l2 l3 l4 w Q => r_goto pt_144 rfl rfl,
  fun d l1 l2 l3 l4 a w Q => px_go (q := (.aload_n 0, 1, px_x0)) (S' := (81, [some (.ref a), l1, l2, l3, l4], [.ref a], w, 0)) pt_144 rfl rfl,
  fun d l0 l1 l2 l4 s0 x w Q => px_go (q := (.iload_n 3, 1, px_x0)) (S' := (82, [l0, l1, l2, some (.int x), l4], [.int x, s0], w, 0)) pt_144 rfl rfl,
  fun d l0 l1 l2 l3 l4 v0 b w Q => r_callV (q := (.invokevirtual 63, 3, (33, 1, [(11, 142)], 0, ""))) pt_144 rfl rfl (List.forall_mem_cons.mpr ⟨⟨_, pt_142, Nat.le_of_ble_eq_true rfl, (Nat.le_of_ble_eq_true rfl), rfl⟩, fun _ h => absurd h List.not_mem_nil⟩),
  fun d l0 l1 l2 l3 l4 x w Q => px_ret (q := (.ireturn, 1, px_x0)) pt_144 rfl rfl⟩
theorem H144_54 : ∀ (d : Nat) (l0 l1 l2 l3 : Option Value) (x : Int32) (w : px_H) (Q : Option Value → px_H → Prop), wp d 144 54 [l0, l1, l2, l3, some (.int x)] [] w 0 Q ↔ wp d 144 56 [l0, l1, l2, l3, some (.int x)] [.int x] w 0 Q := fun d l0 l1 l2 l3 x w Q => px_go (q := (.iload 4, 2, px_x0)) (S' := (56, [l0, l1, l2, l3, some (.int x)], [.int x], w, 0)) pt_144 rfl rfl
/-- AllSwornModel.set(III)I -/
theorem S145 : (∀ (d : Nat) (v0 v1 v2 v3 : Value) (w : px_H) (Q : Option Value → px_H → Prop), wc d 145 [v0, v1, v2, v3] w Q ↔ wp d 145 0 [some v0, some v1, some v2, some v3, none] [] w 0 Q) ∧
  (∀ (d : Nat) (l0 l2 l3 l4 : Option Value) (x : Int32) (w : px_H) (Q : Option Value → px_H → Prop), wp d 145 0 [l0, some (.int x), l2, l3, l4] [] w 0 Q ↔ wp d 145 1 [l0, some (.int x), l2, l3, l4] [.int x] w 0 Q) ∧
  (∀ (d : Nat) (l0 l1 l2 l3 l4 : Option Value) (v0 : Value) (w : px_H) (Q : Option Value → px_H → Prop), wp (d + 1) 145 1 [l0, l1, l2, l3, l4] [v0] w 0 Q ↔ wc d 143 [v0] w (fun r w' => wp (d + 1) 145 4 [l0, l1, l2, l3, l4] (r.toList ++ []) w' 0 Q)) ∧
  (∀ (d : Nat) (l0 l1 l2 l3 l4 : Option Value) (x : Int32) (w : px_H) (Q : Option Value → px_H → Prop), wp d 145 4 [l0, l1, l2, l3, l4] [.int x] w 0 Q ↔ if x = 0 then wp d 145 7 [l0, l1, l2, l3, l4] [] w 0 Q else wp d 145 10 [l0, l1, l2, l3, l4] [] w 0 Q) ∧
  (∀ (d : Nat) (l0 l1 l2 l3 l4 : Option Value)  (w : px_H) (Q : Option Value → px_H → Prop), wp d 145 7 [l0, l1, l2, l3, l4] [] w 0 Q ↔ wp d 145 9 [l0, l1, l2, l3, l4] [.int (-1000001)] w 0 Q) ∧
  (∀ (d : Nat) (l0 l1 l2 l3 l4 : Option Value) (x : Int32) (w : px_H) (Q : Option Value → px_H → Prop), wp d 145 9 [l0, l1, l2, l3, l4] [.int x] w 0 Q ↔ Q (some (.int x)) w) ∧
  (∀ (d : Nat) (l1 l2 l3 l4 : Option Value) (a : Nat) (w : px_H) (Q : Option Value → px_H → Prop), wp d 145 10 [some (.ref a), l1, l2, l3, l4] [] w 0 Q ↔ wp d 145 11 [some (.ref a), l1, l2, l3, l4] [.ref a] w 0 Q) ∧
  (∀ (d : Nat) (l0 l1 l2 l3 l4 : Option Value) (a : Nat) (w : px_H) (Q : Option Value → px_H → Prop), wp d 145 11 [l0, l1, l2, l3, l4] [.ref a] w 0 Q ↔ px_op (px_fld w a [(11, 0)] 0) (fun v => wp d 145 14 [l0, l1, l2, l3, l4] [v] w 0 Q)) ∧
  (∀ (d : Nat) (l0 l2 l3 l4 : Option Value) (s0 : Value) (x : Int32) (w : px_H) (Q : Option Value → px_H → Prop), wp d 145 14 [l0, some (.int x), l2, l3, l4] [s0] w 0 Q ↔ wp d 145 15 [l0, some (.int x), l2, l3, l4] [.int x, s0] w 0 Q) ∧
  (∀ (d : Nat) (l0 l1 l2 l3 l4 : Option Value) (i : Int32) (a : Nat) (w : px_H) (Q : Option Value → px_H → Prop), wp d 145 15 [l0, l1, l2, l3, l4] [.int i, .ref a] w 0 Q ↔ px_op (px_ald w a i .int) (fun x => wp d 145 16 [l0, l1, l2, l3, l4] [.int x] w 0 Q)) ∧
  (∀ (d : Nat) (l0 l1 l2 l3 l4 : Option Value) (x : Int32) (w : px_H) (Q : Option Value → px_H → Prop), wp d 145 16 [l0, l1, l2, l3, l4] [.int x] w 0 Q ↔ if x = 0 then wp d 145 19 [l0, l1, l2, l3, l4] [] w 0 Q else wp d 145 25 [l0, l1, l2, l3, l4] [] w 0 Q) ∧
  (∀ (d : Nat) (l1 l2 l3 l4 : Option Value) (a : Nat) (w : px_H) (Q : Option Value → px_H → Prop), wp d 145 19 [some (.ref a), l1, l2, l3, l4] [] w 0 Q ↔ wp d 145 20 [some (.ref a), l1, l2, l3, l4] [.ref a] w 0 Q) ∧
  (∀ (d : Nat) (l0 l1 l2 l3 l4 : Option Value) (s0 : Value)  (w : px_H) (Q : Option Value → px_H → Prop), wp d 145 20 [l0, l1, l2, l3, l4] [s0] w 0 Q ↔ wp d 145 21 [l0, l1, l2, l3, l4] [.int 1, s0] w 0 Q) ∧
  (∀ (d : Nat) (l0 l1 l2 l3 l4 : Option Value) (v0 : Value) (b : Nat) (w : px_H) (Q : Option Value → px_H → Prop), wp (d + 1) 145 21 [l0, l1, l2, l3, l4] [v0, .ref b] w 0 Q ↔ px_op (px_tgt w b [(11, 141)]) (fun v => wc d v [.ref b, v0] w (fun r w' => wp (d + 1) 145 24 [l0, l1, l2, l3, l4] (r.toList ++ []) w' 0 Q))) ∧
  (∀ (d : Nat) (l0 l1 l2 l3 l4 : Option Value) (x : Int32) (w : px_H) (Q : Option Value → px_H → Prop), wp d 145 24 [l0, l1, l2, l3, l4] [.int x] w 0 Q ↔ Q (some (.int x)) w) ∧
  (∀ (d : Nat) (l0 l1 l3 l4 : Option Value) (x : Int32) (w : px_H) (Q : Option Value → px_H → Prop), wp d 145 25 [l0, l1, some (.int x), l3, l4] [] w 0 Q ↔ wp d 145 26 [l0, l1, some (.int x), l3, l4] [.int x] w 0 Q) ∧
  (∀ (d : Nat) (l0 l1 l2 l3 l4 : Option Value) (s0 : Value)  (w : px_H) (Q : Option Value → px_H → Prop), wp d 145 26 [l0, l1, l2, l3, l4] [s0] w 0 Q ↔ wp d 145 27 [l0, l1, l2, l3, l4] [.int 0, s0] w 0 Q) ∧
  (∀ (d : Nat) (l1 l2 l3 l4 : Option Value) (s0 s1 : Value) (a : Nat) (w : px_H) (Q : Option Value → px_H → Prop), wp d 145 27 [some (.ref a), l1, l2, l3, l4] [s0, s1] w 0 Q ↔ wp d 145 28 [some (.ref a), l1, l2, l3, l4] [.ref a, s0, s1] w 0 Q) ∧
  (∀ (d : Nat) (l0 l1 l2 l3 l4 : Option Value) (s1 s2 : Value) (a : Nat) (w : px_H) (Q : Option Value → px_H → Prop), wp d 145 28 [l0, l1, l2, l3, l4] [.ref a, s1, s2] w 0 Q ↔ px_op (px_fld w a [(11, 0)] 1) (fun v => wp d 145 31 [l0, l1, l2, l3, l4] [v, s1, s2] w 0 Q)) ∧
  (∀ (d : Nat) (l0 l2 l3 l4 : Option Value) (s0 s1 s2 : Value) (x : Int32) (w : px_H) (Q : Option Value → px_H → Prop), wp d 145 31 [l0, some (.int x), l2, l3, l4] [s0, s1, s2] w 0 Q ↔ wp d 145 32 [l0, some (.int x), l2, l3, l4] [.int x, s0, s1, s2] w 0 Q) ∧
  (∀ (d : Nat) (l0 l1 l2 l3 l4 : Option Value) (s2 s3 : Value) (i : Int32) (a : Nat) (w : px_H) (Q : Option Value → px_H → Prop), wp d 145 32 [l0, l1, l2, l3, l4] [.int i, .ref a, s2, s3] w 0 Q ↔ px_op (px_ald w a i .int) (fun x => wp d 145 33 [l0, l1, l2, l3, l4] [.int x, s2, s3] w 0 Q)) ∧
  (∀ (d : Nat) (l0 l1 l2 l3 l4 : Option Value) (s0 s1 s2 : Value)  (w : px_H) (Q : Option Value → px_H → Prop), wp d 145 33 [l0, l1, l2, l3, l4] [s0, s1, s2] w 0 Q ↔ wp d 145 34 [l0, l1, l2, l3, l4] [.int 1, s0, s1, s2] w 0 Q) ∧
  (∀ (d : Nat) (l0 l1 l2 l3 l4 : Option Value) (s2 s3 : Value) (x y : Int32) (w : px_H) (Q : Option Value → px_H → Prop), wp d 145 34 [l0, l1, l2, l3, l4] [.int y, .int x, s2, s3] w 0 Q ↔ wp d 145 35 [l0, l1, l2, l3, l4] [.int (x - y), s2, s3] w 0 Q) ∧
  (∀ (d : Nat) (l0 l1 l2 l3 l4 : Option Value) (v0 v1 v2 : Value) (w : px_H) (Q : Option Value → px_H → Prop), wp (d + 1) 145 35 [l0, l1, l2, l3, l4] [v2, v1, v0] w 0 Q ↔ wc d 140 [v0, v1, v2] w (fun r w' => wp (d + 1) 145 38 [l0, l1, l2, l3, l4] (r.toList ++ []) w' 0 Q)) ∧
  (∀ (d : Nat) (l0 l1 l2 l3 l4 : Option Value) (x : Int32) (w : px_H) (Q : Option Value → px_H → Prop), wp d 145 38 [l0, l1, l2, l3, l4] [.int x] w 0 Q ↔ if x = 0 then wp d 145 41 [l0, l1, l2, l3, l4] [] w 0 Q else wp d 145 47 [l0, l1, l2, l3, l4] [] w 0 Q) ∧
  (∀ (d : Nat) (l1 l2 l3 l4 : Option Value) (a : Nat) (w : px_H) (Q : Option Value → px_H → Prop), wp d 145 41 [some (.ref a), l1, l2, l3, l4] [] w 0 Q ↔ wp d 145 42 [some (.ref a), l1, l2, l3, l4] [.ref a] w 0 Q) ∧
  (∀ (d : Nat) (l0 l1 l2 l3 l4 : Option Value) (s0 : Value)  (w : px_H) (Q : Option Value → px_H → Prop), wp d 145 42 [l0, l1, l2, l3, l4] [s0] w 0 Q ↔ wp d 145 43 [l0, l1, l2, l3, l4] [.int 2, s0] w 0 Q) ∧
  (∀ (d : Nat) (l0 l1 l2 l3 l4 : Option Value) (v0 : Value) (b : Nat) (w : px_H) (Q : Option Value → px_H → Prop), wp (d + 1) 145 43 [l0, l1, l2, l3, l4] [v0, .ref b] w 0 Q ↔ px_op (px_tgt w b [(11, 141)]) (fun v => wc d v [.ref b, v0] w (fun r w' => wp (d + 1) 145 46 [l0, l1, l2, l3, l4] (r.toList ++ []) w' 0 Q))) ∧
  (∀ (d : Nat) (l0 l1 l2 l3 l4 : Option Value) (x : Int32) (w : px_H) (Q : Option Value → px_H → Prop), wp d 145 46 [l0, l1, l2, l3, l4] [.int x] w 0 Q ↔ Q (some (.int x)) w) ∧
  (∀ (d : Nat) (l1 l2 l3 l4 : Option Value) (a : Nat) (w : px_H) (Q : Option Value → px_H → Prop), wp d 145 47 [some (.ref a), l1, l2, l3, l4] [] w 0 Q ↔ wp d 145 48 [some (.ref a), l1, l2, l3, l4] [.ref a] w 0 Q) ∧
  (∀ (d : Nat) (l0 l1 l2 l3 l4 : Option Value) (a : Nat) (w : px_H) (Q : Option Value → px_H → Prop), wp d 145 48 [l0, l1, l2, l3, l4] [.ref a] w 0 Q ↔ px_op (px_fld w a [(11, 0)] 0) (fun v => wp d 145 51 [l0, l1, l2, l3, l4] [v] w 0 Q)) ∧
  (∀ (d : Nat) (l0 l2 l3 l4 : Option Value) (s0 : Value) (x : Int32) (w : px_H) (Q : Option Value → px_H → Prop), wp d 145 51 [l0, some (.int x), l2, l3, l4] [s0] w 0 Q ↔ wp d 145 52 [l0, some (.int x), l2, l3, l4] [.int x, s0] w 0 Q) ∧
  (∀ (d : Nat) (l0 l1 l2 l3 l4 : Option Value) (i : Int32) (a : Nat) (w : px_H) (Q : Option Value → px_H → Prop), wp d 145 52 [l0, l1, l2, l3, l4] [.int i, .ref a] w 0 Q ↔ px_op (px_ald w a i .int) (fun x => wp d 145 53 [l0, l1, l2, l3, l4] [.int x] w 0 Q)) ∧
  (∀ (d : Nat) (l0 l1 l2 l3 l4 : Option Value) (s0 : Value)  (w : px_H) (Q : Option Value → px_H → Prop), wp d 145 53 [l0, l1, l2, l3, l4] [s0] w 0 Q ↔ wp d 145 54 [l0, l1, l2, l3, l4] [.int 1, s0] w 0 Q) ∧
  (∀ (d : Nat) (l0 l1 l2 l3 l4 : Option Value) (x y : Int32) (w : px_H) (Q : Option Value → px_H → Prop), wp d 145 54 [l0, l1, l2, l3, l4] [.int y, .int x] w 0 Q ↔ if x = y then wp d 145 57 [l0, l1, l2, l3, l4] [] w 0 Q else wp d 145 62 [l0, l1, l2, l3, l4] [] w 0 Q) ∧
  (∀ (d : Nat) (l0 l1 l2 l4 : Option Value) (x : Int32) (w : px_H) (Q : Option Value → px_H → Prop), wp d 145 57 [l0, l1, l2, some (.int x), l4] [] w 0 Q ↔ wp d 145 58 [l0, l1, l2, some (.int x), l4] [.int x] w 0 Q) ∧
  (∀ (d : Nat) (l0 l1 l2 l3 l4 : Option Value) (x : Int32) (w : px_H) (Q : Option Value → px_H → Prop), wp d 145 58 [l0, l1, l2, l3, l4] [.int x] w 0 Q ↔ wp d 145 59 [l0, l1, l2, l3, l4] [.int (x.toInt8.toInt32)] w 0 Q) ∧
  (∀ (d : Nat) (l0 l1 l2 l3 l4 : Option Value) (s0 : Value)  (w : px_H) (Q : Option Value → px_H → Prop), wp d 145 59 [l0, l1, l2, l3, l4] [s0] w 0 Q ↔ wp d 145 78 [l0, l1, l2, l3, l4] [s0] w 0 Q) ∧
  (∀ (d : Nat) (l1 l2 l3 l4 : Option Value) (a : Nat) (w : px_H) (Q : Option Value → px_H → Prop), wp d 145 62 [some (.ref a), l1, l2, l3, l4] [] w 0 Q ↔ wp d 145 63 [some (.ref a), l1, l2, l3, l4] [.ref a] w 0 Q) ∧
  (∀ (d : Nat) (l0 l1 l2 l3 l4 : Option Value) (a : Nat) (w : px_H) (Q : Option Value → px_H → Prop), wp d 145 63 [l0, l1, l2, l3, l4] [.ref a] w 0 Q ↔ px_op (px_fld w a [(11, 0)] 0) (fun v => wp d 145 66 [l0, l1, l2, l3, l4] [v] w 0 Q)) ∧
  (∀ (d : Nat) (l0 l2 l3 l4 : Option Value) (s0 : Value) (x : Int32) (w : px_H) (Q : Option Value → px_H → Prop), wp d 145 66 [l0, some (.int x), l2, l3, l4] [s0] w 0 Q ↔ wp d 145 67 [l0, some (.int x), l2, l3, l4] [.int x, s0] w 0 Q) ∧
  (∀ (d : Nat) (l0 l1 l2 l3 l4 : Option Value) (i : Int32) (a : Nat) (w : px_H) (Q : Option Value → px_H → Prop), wp d 145 67 [l0, l1, l2, l3, l4] [.int i, .ref a] w 0 Q ↔ px_op (px_ald w a i .int) (fun x => wp d 145 68 [l0, l1, l2, l3, l4] [.int x] w 0 Q)) ∧
  (∀ (d : Nat) (l0 l1 l2 l3 l4 : Option Value) (s0 : Value)  (w : px_H) (Q : Option Value → px_H → Prop), wp d 145 68 [l0, l1, l2, l3, l4] [s0] w 0 Q ↔ wp d 145 69 [l0, l1, l2, l3, l4] [.int 2, s0] w 0 Q) ∧
  (∀ (d : Nat) (l0 l1 l2 l3 l4 : Option Value) (x y : Int32) (w : px_H) (Q : Option Value → px_H → Prop), wp d 145 69 [l0, l1, l2, l3, l4] [.int y, .int x] w 0 Q ↔ if x = y then wp d 145 72 [l0, l1, l2, l3, l4] [] w 0 Q else wp d 145 77 [l0, l1, l2, l3, l4] [] w 0 Q) ∧
  (∀ (d : Nat) (l0 l1 l2 l4 : Option Value) (x : Int32) (w : px_H) (Q : Option Value → px_H → Prop), wp d 145 72 [l0, l1, l2, some (.int x), l4] [] w 0 Q ↔ wp d 145 73 [l0, l1, l2, some (.int x), l4] [.int x] w 0 Q) ∧
  (∀ (d : Nat) (l0 l1 l2 l3 l4 : Option Value) (x : Int32) (w : px_H) (Q : Option Value → px_H → Prop), wp d 145 73 [l0, l1, l2, l3, l4] [.int x] w 0 Q ↔ wp d 145 74 [l0, l1, l2, l3, l4] [.int (x.toInt16.toInt32)] w 0 Q) ∧
  (∀ (d : Nat) (l0 l1 l2 l3 l4 : Option Value) (s0 : Value)  (w : px_H) (Q : Option Value → px_H → Prop), wp d 145 74 [l0, l1, l2, l3, l4] [s0] w 0 Q ↔ wp d 145 78 [l0, l1, l2, l3, l4] [s0] w 0 Q) ∧
  (∀ (d : Nat) (l0 l1 l2 l4 : Option Value) (x : Int32) (w : px_H) (Q : Option Value → px_H → Prop), wp d 145 77 [l0, l1, l2, some (.int x), l4] [] w 0 Q ↔ wp d 145 78 [l0, l1, l2, some (.int x), l4] [.int x] w 0 Q) ∧
  (∀ (d : Nat) (l0 l1 l2 l3 l4 : Option Value) (x : Int32) (w : px_H) (Q : Option Value → px_H → Prop), wp d 145 78 [l0, l1, l2, l3, l4] [.int x] w 0 Q ↔ wp d 145 80 [l0, l1, l2, l3, some (.int x)] [] w 0 Q) ∧
  (∀ (d : Nat) (l1 l2 l3 l4 : Option Value) (a : Nat) (w : px_H) (Q : Option Value → px_H → Prop), wp d 145 80 [some (.ref a), l1, l2, l3, l4] [] w 0 Q ↔ wp d 145 81 [some (.ref a), l1, l2, l3, l4] [.ref a] w 0 Q) ∧
  (∀ (d : Nat) (l0 l1 l2 l3 l4 : Option Value) (a : Nat) (w : px_H) (Q : Option Value → px_H → Prop), wp d 145 81 [l0, l1, l2, l3, l4] [.ref a] w 0 Q ↔ px_op (px_fld w a [(11, 0)] 2) (fun v => wp d 145 84 [l0, l1, l2, l3, l4] [v] w 0 Q)) ∧
  (∀ (d : Nat) (l0 l1 l2 l3 l4 : Option Value) (s0 : Value)  (w : px_H) (Q : Option Value → px_H → Prop), wp d 145 84 [l0, l1, l2, l3, l4] [s0] w 0 Q ↔ wp d 145 86 [l0, l1, l2, l3, l4] [.int 40, s0] w 0 Q) ∧
  (∀ (d : Nat) (l0 l2 l3 l4 : Option Value) (s0 s1 : Value) (x : Int32) (w : px_H) (Q : Option Value → px_H → Prop), wp d 145 86 [l0, some (.int x), l2, l3, l4] [s0, s1] w 0 Q ↔ wp d 145 87 [l0, some (.int x), l2, l3, l4] [.int x, s0, s1] w 0 Q) ∧
  (∀ (d : Nat) (l0 l1 l2 l3 l4 : Option Value) (s2 : Value) (x y : Int32) (w : px_H) (Q : Option Value → px_H → Prop), wp d 145 87 [l0, l1, l2, l3, l4] [.int y, .int x, s2] w 0 Q ↔ wp d 145 88 [l0, l1, l2, l3, l4] [.int (x * y), s2] w 0 Q) ∧
  (∀ (d : Nat) (l0 l1 l3 l4 : Option Value) (s0 s1 : Value) (x : Int32) (w : px_H) (Q : Option Value → px_H → Prop), wp d 145 88 [l0, l1, some (.int x), l3, l4] [s0, s1] w 0 Q ↔ wp d 145 89 [l0, l1, some (.int x), l3, l4] [.int x, s0, s1] w 0 Q) ∧
  (∀ (d : Nat) (l0 l1 l2 l3 l4 : Option Value) (s2 : Value) (x y : Int32) (w : px_H) (Q : Option Value → px_H → Prop), wp d 145 89 [l0, l1, l2, l3, l4] [.int y, .int x, s2] w 0 Q ↔ wp d 145 90 [l0, l1, l2, l3, l4] [.int (x + y), s2] w 0 Q) ∧
  (∀ (d : Nat) (l0 l1 l2 l3 : Option Value) (s0 s1 : Value) (x : Int32) (w : px_H) (Q : Option Value → px_H → Prop), wp d 145 90 [l0, l1, l2, l3, some (.int x)] [s0, s1] w 0 Q ↔ wp d 145 92 [l0, l1, l2, l3, some (.int x)] [.int x, s0, s1] w 0 Q) ∧
  (∀ (d : Nat) (l0 l1 l2 l3 l4 : Option Value) (x i : Int32) (a : Nat) (w : px_H) (Q : Option Value → px_H → Prop), wp d 145 92 [l0, l1, l2, l3, l4] [.int x, .int i, .ref a] w 0 Q ↔ px_op (px_ast w a i x .int) (fun w' => wp d 145 93 [l0, l1, l2, l3, l4] [] w' 0 Q)) ∧
  (∀ (d : Nat) (l1 l2 l3 l4 : Option Value) (a : Nat) (w : px_H) (Q : Option Value → px_H → Prop), wp d 145 93 [some (.ref a), l1, l2, l3, l4] [] w 0 Q ↔ wp d 145 94 [some (.ref a), l1, l2, l3, l4] [.ref a] w 0 Q) ∧
  (∀ (d : Nat) (l0 l1 l2 l3 : Option Value) (s0 : Value) (x : Int32) (w : px_H) (Q : Option Value → px_H → Prop), wp d 145 94 [l0, l1, l2, l3, some (.int x)] [s0] w 0 Q ↔ wp d 145 96 [l0, l1, l2, l3, some (.int x)] [.int x, s0] w 0 Q) ∧
  (∀ (d : Nat) (l0 l1 l2 l3 l4 : Option Value) (v0 : Value) (b : Nat) (w : px_H) (Q : Option Value → px_H → Prop), wp (d + 1) 145 96 [l0, l1, l2, l3, l4] [v0, .ref b] w 0 Q ↔ px_op (px_tgt w b [(11, 142)]) (fun v => wc d v [.ref b, v0] w (fun r w' => wp (d + 1) 145 99 [l0, l1, l2, l3, l4] (r.toList ++ []) w' 0 Q))) ∧
  (∀ (d : Nat) (l0 l1 l2 l3 l4 : Option Value) (x : Int32) (w : px_H) (Q : Option Value → px_H → Prop), wp d 145 99 [l0, l1, l2, l3, l4] [.int x] w 0 Q ↔ Q (some (.int x)) w) := ⟨fun d v0 v1 v2 v3 w Q => r_entry pt_145 (Nat.le_of_ble_eq_true rfl) rfl,
  fun d l0 l2 l3 l4 x w Q => px_go (q := (.iload_n 1, 1, px_x0)) (S' := (1, [l0, some (.int x), l2, l3, l4], [.int x], w, 0)) pt_145 rfl rfl,
  fun d l0 l1 l2 l3 l4 v0 w Q => r_call (q := (.invokestatic 54, 3, (30, 1, [(0, 143)], 0, ""))) pt_145 rfl rfl pt_143 (Nat.le_of_ble_eq_true rfl) (Nat.le_of_ble_eq_true rfl) rfl,
  fun d l0 l1 l2 l3 l4 x w Q => r_if_ne pt_145 rfl rfl,
  fun d l0 l1 l2 l3 l4 w Q => px_go (q := (.ldc 58, 2, (0, 0, [], (-1000001), ""))) (S' := (9, [l0, l1, l2, l3, l4], [.int (-1000001)], w, 0)) pt_145 rfl rfl,
  fun d l0 l1 l2 l3 l4 x w Q => px_ret (q := (.ireturn, 1, px_x0)) pt_145 rfl rfl,
  fun d l1 l2 l3 l4 a w Q => px_go (q := (.aload_n 0, 1, px_x0)) (S' := (11, [some (.ref a), l1, l2, l3, l4], [.ref a], w, 0)) pt_145 rfl rfl,
  fun d l0 l1 l2 l3 l4 a w Q => px_goO (q := (.getfield 7, 3, (10, 0, [(11, 0)], 0, "AllSwornModel"))) (S' := fun v => (14, [l0, l1, l2, l3, l4], [v], w, 0)) pt_145 rfl rfl,
  fun d l0 l2 l3 l4 s0 x w Q => px_go (q := (.iload_n 1, 1, px_x0)) (S' := (15, [l0, some (.int x), l2, l3, l4], [.int x, s0], w, 0)) pt_145 rfl rfl,
  fun d l0 l1 l2 l3 l4 i a w Q => px_goO (q := (.iaload, 1, px_x0)) (S' := fun x => (16, [l0, l1, l2, l3, l4], [.int x], w, 0)) pt_145 rfl rfl,
  fun d l0 l1 l2 l3 l4 x w Q => r_if_ne pt_145 rfl rfl,
  fun d l1 l2 l3 l4 a w Q => px_go (q := (.aload_n 0, 1, px_x0)) (S' := (20, [some (.ref a), l1, l2, l3, l4], [.ref a], w, 0)) pt_145 rfl rfl,
  fun d l0 l1 l2 l3 l4 s0 w Q => r_iconst pt_145 rfl (by decide),
  fun d l0 l1 l2 l3 l4 v0 b w Q => r_callV (q := (.invokevirtual 59, 3, (33, 1, [(11, 141)], 0, ""))) pt_145 rfl rfl (List.forall_mem_cons.mpr ⟨⟨_, pt_141, Nat.le_of_ble_eq_true rfl, (Nat.le_of_ble_eq_true rfl), rfl⟩, fun _ h => absurd h List.not_mem_nil⟩),
  fun d l0 l1 l2 l3 l4 x w Q => px_ret (q := (.ireturn, 1, px_x0)) pt_145 rfl rfl,
  fun d l0 l1 l3 l4 x w Q => px_go (q := (.iload_n 2, 1, px_x0)) (S' := (26, [l0, l1, some (.int x), l3, l4], [.int x], w, 0)) pt_145 rfl rfl,
  fun d l0 l1 l2 l3 l4 s0 w Q => r_iconst pt_145 rfl (by decide),
  fun d l1 l2 l3 l4 s0 s1 a w Q => px_go (q := (.aload_n 0, 1, px_x0)) (S' := (28, [some (.ref a), l1, l2, l3, l4], [.ref a, s0, s1], w, 0)) pt_145 rfl rfl,
  fun d l0 l1 l2 l3 l4 s1 s2 a w Q => px_goO (q := (.getfield 13, 3, (10, 1, [(11, 0)], 0, "AllSwornModel"))) (S' := fun v => (31, [l0, l1, l2, l3, l4], [v, s1, s2], w, 0)) pt_145 rfl rfl,
  fun d l0 l2 l3 l4 s0 s1 s2 x w Q => px_go (q := (.iload_n 1, 1, px_x0)) (S' := (32, [l0, some (.int x), l2, l3, l4], [.int x, s0, s1, s2], w, 0)) pt_145 rfl rfl,
  fun d l0 l1 l2 l3 l4 s2 s3 i a w Q => px_goO (q := (.iaload, 1, px_x0)) (S' := fun x => (33, [l0, l1, l2, l3, l4], [.int x, s2, s3], w, 0)) pt_145 rfl rfl,
  fun d l0 l1 l2 l3 l4 s0 s1 s2 w Q => r_iconst pt_145 rfl (by decide),
  fun d l0 l1 l2 l3 l4 s2 s3 x y w Q => px_go (q := (.isub, 1, px_x0)) (S' := (35, [l0, l1, l2, l3, l4], [.int (x - y), s2, s3], w, 0)) pt_145 rfl rfl,
  fun d l0 l1 l2 l3 l4 v0 v1 v2 w Q => r_call (q := (.invokestatic 50, 3, (30, 3, [(0, 140)], 0, ""))) pt_145 rfl rfl pt_140 (Nat.le_of_ble_eq_true rfl) (Nat.le_of_ble_eq_true rfl) rfl,
  fun d l0 l1 l2 l3 l4 x w Q => r_if_ne pt_145 rfl rfl,
  fun d l1 l2 l3 l4 a w Q => px_go (q := (.aload_n 0, 1, px_x0)) (S' := (42, [some (.ref a), l1, l2, l3, l4], [.ref a], w, 0)) pt_145 rfl rfl,
  fun d l0 l1 l2 l3 l4 s0 w Q => r_iconst pt_145 rfl (by decide),
  fun d l0 l1 l2 l3 l4 v0 b w Q => r_callV (q := (.invokevirtual 59, 3, (33, 1, [(11, 141)], 0, ""))) pt_145 rfl rfl (List.forall_mem_cons.mpr ⟨⟨_, pt_141, Nat.le_of_ble_eq_true rfl, (Nat.le_of_ble_eq_true rfl), rfl⟩, fun _ h => absurd h List.not_mem_nil⟩),
  fun d l0 l1 l2 l3 l4 x w Q => px_ret (q := (.ireturn, 1, px_x0)) pt_145 rfl rfl,
  fun d l1 l2 l3 l4 a w Q => px_go (q := (.aload_n 0, 1, px_x0)) (S' := (48, [some (.ref a), l1, l2, l3, l4], [.ref a], w, 0)) pt_145 rfl rfl,
  fun d l0 l1 l2 l3 l4 a w Q => px_goO (q := (.getfield 7, 3, (10, 0, [(11, 0)], 0, "AllSwornModel"))) (S' := fun v => (51, [l0, l1, l2, l3, l4], [v], w, 0)) pt_145 rfl rfl,
  fun d l0 l2 l3 l4 s0 x w Q => px_go (q := (.iload_n 1, 1, px_x0)) (S' := (52, [l0, some (.int x), l2, l3, l4], [.int x, s0], w, 0)) pt_145 rfl rfl,
  fun d l0 l1 l2 l3 l4 i a w Q => px_goO (q := (.iaload, 1, px_x0)) (S' := fun x => (53, [l0, l1, l2, l3, l4], [.int x], w, 0)) pt_145 rfl rfl,
  fun d l0 l1 l2 l3 l4 s0 w Q => r_iconst pt_145 rfl (by decide),
  fun d l0 l1 l2 l3 l4 x y w Q => r_icmp_ne pt_145 rfl rfl,
  fun d l0 l1 l2 l4 x w Q => px_go (q := (.iload_n 3, 1, px_x0)) (S' := (58, [l0, l1, l2, some (.int x), l4], [.int x], w, 0)) pt_145 rfl rfl,
  fun d l0 l1 l2 l3 l4 x w Q => px_go (q := (.i2b, 1, px_x0)) (S' := (59, [l0, l1, l2, l3, l4], [.int (x.toInt8.toInt32)], w, 0)) pt_145 rfl rfl,
  fun d l0 l1 l2 l3 l4 s0 w Q => r_goto pt_145 rfl rfl,
  fun d l1 l2 l3 l4 a w Q => px_go (q := (.aload_n 0, 1, px_x0)) (S' := (63, [some (.ref a), l1, l2, l3, l4], [.ref a], w, 0)) pt_145 rfl rfl,
  fun d l0 l1 l2 l3 l4 a w Q => px_goO (q := (.getfield 7, 3, (10, 0, [(11, 0)], 0, "AllSwornModel"))) (S' := fun v => (66, [l0, l1, l2, l3, l4], [v], w, 0)) pt_145 rfl rfl,
  fun d l0 l2 l3 l4 s0 x w Q => px_go (q := (.iload_n 1, 1, px_x0)) (S' := (67, [l0, some (.int x), l2, l3, l4], [.int x, s0], w, 0)) pt_145 rfl rfl,
  fun d l0 l1 l2 l3 l4 i a w Q => px_goO (q := (.iaload, 1, px_x0)) (S' := fun x => (68, [l0, l1, l2, l3, l4], [.int x], w, 0)) pt_145 rfl rfl,
  fun d l0 l1 l2 l3 l4 s0 w Q => r_iconst pt_145 rfl (by decide),
  fun d l0 l1 l2 l3 l4 x y w Q => r_icmp_ne pt_145 rfl rfl,
  fun d l0 l1 l2 l4 x w Q => px_go (q := (.iload_n 3, 1, px_x0)) (S' := (73, [l0, l1, l2, some (.int x), l4], [.int x], w, 0)) pt_145 rfl rfl,
  fun d l0 l1 l2 l3 l4 x w Q => px_go (q := (.i2s, 1, px_x0)) (S' := (74, [l0, l1, l2, l3, l4], [.int (x.toInt16.toInt32)], w, 0)) pt_145 rfl rfl,
  fun d l0 l1 l2 l3 l4 s0 w Q => r_goto pt_145 rfl rfl,
  fun d l0 l1 l2 l4 x w Q => px_go (q := (.iload_n 3, 1, px_x0)) (S' := (78, [l0, l1, l2, some (.int x), l4], [.int x], w, 0)) pt_145 rfl rfl,
  fun d l0 l1 l2 l3 l4 x w Q => px_go (q := (.istore 4, 2, px_x0)) (S' := (80, [l0, l1, l2, l3, some (.int x)], [], w, 0)) pt_145 rfl rfl,
  fun d l1 l2 l3 l4 a w Q => px_go (q := (.aload_n 0, 1, px_x0)) (S' := (81, [some (.ref a), l1, l2, l3, l4], [.ref a], w, 0)) pt_145 rfl rfl,
  fun d l0 l1 l2 l3 l4 a w Q => px_goO (q := (.getfield 16, 3, (10, 2, [(11, 0)], 0, "AllSwornModel"))) (S' := fun v => (84, [l0, l1, l2, l3, l4], [v], w, 0)) pt_145 rfl rfl,
  fun d l0 l1 l2 l3 l4 s0 w Q => r_bipush pt_145 rfl (by decide),
  fun d l0 l2 l3 l4 s0 s1 x w Q => px_go (q := (.iload_n 1, 1, px_x0)) (S' := (87, [l0, some (.int x), l2, l3, l4], [.int x, s0, s1], w, 0)) pt_145 rfl rfl,
  fun d l0 l1 l2 l3 l4 s2 x y w Q => px_go (q := (.imul, 1, px_x0)) (S' := (88, [l0, l1, l2, l3, l4], [.int (x * y), s2], w, 0)) pt_145 rfl rfl,
  fun d l0 l1 l3 l4 s0 s1 x w Q => px_go (q := (.iload_n 2, 1, px_x0)) (S' := (89, [l0, l1, some (.int x), l3, l4], [.int x, s0, s1], w, 0)) pt_145 rfl rfl,
  fun d l0 l1 l2 l3 l4 s2 x y w Q => px_go (q := (.iadd, 1, px_x0)) (S' := (90, [l0, l1, l2, l3, l4], [.int (x + y), s2], w, 0)) pt_145 rfl rfl,
  fun d l0 l1 l2 l3 s0 s1 x w Q => px_go (q := (.iload 4, 2, px_x0)) (S' := (92, [l0, l1, l2, l3, some (.int x)], [.int x, s0, s1], w, 0)) pt_145 rfl rfl,
  fun d l0 l1 l2 l3 l4 x i a w Q => px_goO (q := (.iastore, 1, px_x0)) (S' := fun w' => (93, [l0, l1, l2, l3, l4], [], w', 0)) pt_145 rfl rfl,
  fun d l1 l2 l3 l4 a w Q => px_go (q := (.aload_n 0, 1, px_x0)) (S' := (94, [some (.ref a), l1, l2, l3, l4], [.ref a], w, 0)) pt_145 rfl rfl,
  fun d l0 l1 l2 l3 s0 x w Q => px_go (q := (.iload 4, 2, px_x0)) (S' := (96, [l0, l1, l2, l3, some (.int x)], [.int x, s0], w, 0)) pt_145 rfl rfl,
  fun d l0 l1 l2 l3 l4 v0 b w Q => r_callV (q := (.invokevirtual 63, 3, (33, 1, [(11, 142)], 0, ""))) pt_145 rfl rfl (List.forall_mem_cons.mpr ⟨⟨_, pt_142, Nat.le_of_ble_eq_true rfl, (Nat.le_of_ble_eq_true rfl), rfl⟩, fun _ h => absurd h List.not_mem_nil⟩),
  fun d l0 l1 l2 l3 l4 x w Q => px_ret (q := (.ireturn, 1, px_x0)) pt_145 rfl rfl⟩
/-- AllSwornModel.copy(IIIII)I heads: [125] -/
theorem S146 : (∀ (d : Nat) (v0 v1 v2 v3 v4 v5 : Value) (w : px_H) (Q : Option Value → px_H → Prop), wc d 146 [v0, v1, v2, v3, v4, v5] w Q ↔ wp d 146 0 [some v0, some v1, some v2, some v3, some v4, some v5, none, none, none] [] w 0 Q) ∧
  (∀ (d : Nat) (l0 l2 l3 l4 l5 l6 l7 l8 : Option Value) (x : Int32) (w : px_H) (Q : Option Value → px_H → Prop), wp d 146 0 [l0, some (.int x), l2, l3, l4, l5, l6, l7, l8] [] w 0 Q ↔ wp d 146 1 [l0, some (.int x), l2, l3, l4, l5, l6, l7, l8] [.int x] w 0 Q) ∧
  (∀ (d : Nat) (l0 l1 l2 l3 l4 l5 l6 l7 l8 : Option Value) (v0 : Value) (w : px_H) (Q : Option Value → px_H → Prop), wp (d + 1) 146 1 [l0, l1, l2, l3, l4, l5, l6, l7, l8] [v0] w 0 Q ↔ wc d 143 [v0] w (fun r w' => wp (d + 1) 146 4 [l0, l1, l2, l3, l4, l5, l6, l7, l8] (r.toList ++ []) w' 0 Q)) ∧
  (∀ (d : Nat) (l0 l1 l2 l3 l4 l5 l6 l7 l8 : Option Value) (x : Int32) (w : px_H) (Q : Option Value → px_H → Prop), wp d 146 4 [l0, l1, l2, l3, l4, l5, l6, l7, l8] [.int x] w 0 Q ↔ if x = 0 then wp d 146 14 [l0, l1, l2, l3, l4, l5, l6, l7, l8] [] w 0 Q else wp d 146 7 [l0, l1, l2, l3, l4, l5, l6, l7, l8] [] w 0 Q) ∧
  (∀ (d : Nat) (l0 l1 l2 l4 l5 l6 l7 l8 : Option Value) (x : Int32) (w : px_H) (Q : Option Value → px_H → Prop), wp d 146 7 [l0, l1, l2, some (.int x), l4, l5, l6, l7, l8] [] w 0 Q ↔ wp d 146 8 [l0, l1, l2, some (.int x), l4, l5, l6, l7, l8] [.int x] w 0 Q) ∧
  (∀ (d : Nat) (l0 l1 l2 l3 l4 l5 l6 l7 l8 : Option Value) (v0 : Value) (w : px_H) (Q : Option Value → px_H → Prop), wp (d + 1) 146 8 [l0, l1, l2, l3, l4, l5, l6, l7, l8] [v0] w 0 Q ↔ wc d 143 [v0] w (fun r w' => wp (d + 1) 146 11 [l0, l1, l2, l3, l4, l5, l6, l7, l8] (r.toList ++ []) w' 0 Q)) ∧
  (∀ (d : Nat) (l0 l1 l2 l3 l4 l5 l6 l7 l8 : Option Value) (x : Int32) (w : px_H) (Q : Option Value → px_H → Prop), wp d 146 11 [l0, l1, l2, l3, l4, l5, l6, l7, l8] [.int x] w 0 Q ↔ if x = 0 then wp d 146 14 [l0, l1, l2, l3, l4, l5, l6, l7, l8] [] w 0 Q else wp d 146 17 [l0, l1, l2, l3, l4, l5, l6, l7, l8] [] w 0 Q) ∧
  (∀ (d : Nat) (l0 l1 l2 l3 l4 l5 l6 l7 l8 : Option Value)  (w : px_H) (Q : Option Value → px_H → Prop), wp d 146 14 [l0, l1, l2, l3, l4, l5, l6, l7, l8] [] w 0 Q ↔ wp d 146 16 [l0, l1, l2, l3, l4, l5, l6, l7, l8] [.int (-1000001)] w 0 Q) ∧
  (∀ (d : Nat) (l0 l1 l2 l3 l4 l5 l6 l7 l8 : Option Value) (x : Int32) (w : px_H) (Q : Option Value → px_H → Prop), wp d 146 16 [l0, l1, l2, l3, l4, l5, l6, l7, l8] [.int x] w 0 Q ↔ Q (some (.int x)) w) ∧
  (∀ (d : Nat) (l1 l2 l3 l4 l5 l6 l7 l8 : Option Value) (a : Nat) (w : px_H) (Q : Option Value → px_H → Prop), wp d 146 17 [some (.ref a), l1, l2, l3, l4, l5, l6, l7, l8] [] w 0 Q ↔ wp d 146 18 [some (.ref a), l1, l2, l3, l4, l5, l6, l7, l8] [.ref a] w 0 Q) ∧
  (∀ (d : Nat) (l0 l1 l2 l3 l4 l5 l6 l7 l8 : Option Value) (a : Nat) (w : px_H) (Q : Option Value → px_H → Prop), wp d 146 18 [l0, l1, l2, l3, l4, l5, l6, l7, l8] [.ref a] w 0 Q ↔ px_op (px_fld w a [(11, 0)] 0) (fun v => wp d 146 21 [l0, l1, l2, l3, l4, l5, l6, l7, l8] [v] w 0 Q)) ∧
  (∀ (d : Nat) (l0 l2 l3 l4 l5 l6 l7 l8 : Option Value) (s0 : Value) (x : Int32) (w : px_H) (Q : Option Value → px_H → Prop), wp d 146 21 [l0, some (.int x), l2, l3, l4, l5, l6, l7, l8] [s0] w 0 Q ↔ wp d 146 22 [l0, some (.int x), l2, l3, l4, l5, l6, l7, l8] [.int x, s0] w 0 Q) ∧
  (∀ (d : Nat) (l0 l1 l2 l3 l4 l5 l6 l7 l8 : Option Value) (i : Int32) (a : Nat) (w : px_H) (Q : Option Value → px_H → Prop), wp d 146 22 [l0, l1, l2, l3, l4, l5, l6, l7, l8] [.int i, .ref a] w 0 Q ↔ px_op (px_ald w a i .int) (fun x => wp d 146 23 [l0, l1, l2, l3, l4, l5, l6, l7, l8] [.int x] w 0 Q)) ∧
  (∀ (d : Nat) (l0 l1 l2 l3 l4 l5 l6 l7 l8 : Option Value) (x : Int32) (w : px_H) (Q : Option Value → px_H → Prop), wp d 146 23 [l0, l1, l2, l3, l4, l5, l6, l7, l8] [.int x] w 0 Q ↔ if x = 0 then wp d 146 35 [l0, l1, l2, l3, l4, l5, l6, l7, l8] [] w 0 Q else wp d 146 26 [l0, l1, l2, l3, l4, l5, l6, l7, l8] [] w 0 Q) ∧
  (∀ (d : Nat) (l1 l2 l3 l4 l5 l6 l7 l8 : Option Value) (a : Nat) (w : px_H) (Q : Option Value → px_H → Prop), wp d 146 26 [some (.ref a), l1, l2, l3, l4, l5, l6, l7, l8] [] w 0 Q ↔ wp d 146 27 [some (.ref a), l1, l2, l3, l4, l5, l6, l7, l8] [.ref a] w 0 Q) ∧
  (∀ (d : Nat) (l0 l1 l2 l3 l4 l5 l6 l7 l8 : Option Value) (a : Nat) (w : px_H) (Q : Option Value → px_H → Prop), wp d 146 27 [l0, l1, l2, l3, l4, l5, l6, l7, l8] [.ref a] w 0 Q ↔ px_op (px_fld w a [(11, 0)] 0) (fun v => wp d 146 30 [l0, l1, l2, l3, l4, l5, l6, l7, l8] [v] w 0 Q)) ∧
  (∀ (d : Nat) (l0 l1 l2 l4 l5 l6 l7 l8 : Option Value) (s0 : Value) (x : Int32) (w : px_H) (Q : Option Value → px_H → Prop), wp d 146 30 [l0, l1, l2, some (.int x), l4, l5, l6, l7, l8] [s0] w 0 Q ↔ wp d 146 31 [l0, l1, l2, some (.int x), l4, l5, l6, l7, l8] [.int x, s0] w 0 Q) ∧
  (∀ (d : Nat) (l0 l1 l2 l3 l4 l5 l6 l7 l8 : Option Value) (i : Int32) (a : Nat) (w : px_H) (Q : Option Value → px_H → Prop), wp d 146 31 [l0, l1, l2, l3, l4, l5, l6, l7, l8] [.int i, .ref a] w 0 Q ↔ px_op (px_ald w a i .int) (fun x => wp d 146 32 [l0, l1, l2, l3, l4, l5, l6, l7, l8] [.int x] w 0 Q)) ∧
  (∀ (d : Nat) (l0 l1 l2 l3 l4 l5 l6 l7 l8 : Option Value) (x : Int32) (w : px_H) (Q : Option Value → px_H → Prop), wp d 146 32 [l0, l1, l2, l3, l4, l5, l6, l7, l8] [.int x] w 0 Q ↔ if x = 0 then wp d 146 35 [l0, l1, l2, l3, l4, l5, l6, l7, l8] [] w 0 Q else wp d 146 41 [l0, l1, l2, l3, l4, l5, l6, l7, l8] [] w 0 Q) ∧
  (∀ (d : Nat) (l1 l2 l3 l4 l5 l6 l7 l8 : Option Value) (a : Nat) (w : px_H) (Q : Option Value → px_H → Prop), wp d 146 35 [some (.ref a), l1, l2, l3, l4, l5, l6, l7, l8] [] w 0 Q ↔ wp d 146 36 [some (.ref a), l1, l2, l3, l4, l5, l6, l7, l8] [.ref a] w 0 Q) ∧
  (∀ (d : Nat) (l0 l1 l2 l3 l4 l5 l6 l7 l8 : Option Value) (s0 : Value)  (w : px_H) (Q : Option Value → px_H → Prop), wp d 146 36 [l0, l1, l2, l3, l4, l5, l6, l7, l8] [s0] w 0 Q ↔ wp d 146 37 [l0, l1, l2, l3, l4, l5, l6, l7, l8] [.int 1, s0] w 0 Q) ∧
  (∀ (d : Nat) (l0 l1 l2 l3 l4 l5 l6 l7 l8 : Option Value) (v0 : Value) (b : Nat) (w : px_H) (Q : Option Value → px_H → Prop), wp (d + 1) 146 37 [l0, l1, l2, l3, l4, l5, l6, l7, l8] [v0, .ref b] w 0 Q ↔ px_op (px_tgt w b [(11, 141)]) (fun v => wc d v [.ref b, v0] w (fun r w' => wp (d + 1) 146 40 [l0, l1, l2, l3, l4, l5, l6, l7, l8] (r.toList ++ []) w' 0 Q))) ∧
  (∀ (d : Nat) (l0 l1 l2 l3 l4 l5 l6 l7 l8 : Option Value) (x : Int32) (w : px_H) (Q : Option Value → px_H → Prop), wp d 146 40 [l0, l1, l2, l3, l4, l5, l6, l7, l8] [.int x] w 0 Q ↔ Q (some (.int x)) w) ∧
  (∀ (d : Nat) (l1 l2 l3 l4 l5 l6 l7 l8 : Option Value) (a : Nat) (w : px_H) (Q : Option Value → px_H → Prop), wp d 146 41 [some (.ref a), l1, l2, l3, l4, l5, l6, l7, l8] [] w 0 Q ↔ wp d 146 42 [some (.ref a), l1, l2, l3, l4, l5, l6, l7, l8] [.ref a] w 0 Q) ∧
  (∀ (d : Nat) (l0 l1 l2 l3 l4 l5 l6 l7 l8 : Option Value) (a : Nat) (w : px_H) (Q : Option Value → px_H → Prop), wp d 146 42 [l0, l1, l2, l3, l4, l5, l6, l7, l8] [.ref a] w 0 Q ↔ px_op (px_fld w a [(11, 0)] 0) (fun v => wp d 146 45 [l0, l1, l2, l3, l4, l5, l6, l7, l8] [v] w 0 Q)) ∧
  (∀ (d : Nat) (l0 l2 l3 l4 l5 l6 l7 l8 : Option Value) (s0 : Value) (x : Int32) (w : px_H) (Q : Option Value → px_H → Prop), wp d 146 45 [l0, some (.int x), l2, l3, l4, l5, l6, l7, l8] [s0] w 0 Q ↔ wp d 146 46 [l0, some (.int x), l2, l3, l4, l5, l6, l7, l8] [.int x, s0] w 0 Q) ∧
  (∀ (d : Nat) (l0 l1 l2 l3 l4 l5 l6 l7 l8 : Option Value) (i : Int32) (a : Nat) (w : px_H) (Q : Option Value → px_H → Prop), wp d 146 46 [l0, l1, l2, l3, l4, l5, l6, l7, l8] [.int i, .ref a] w 0 Q ↔ px_op (px_ald w a i .int) (fun x => wp d 146 47 [l0, l1, l2, l3, l4, l5, l6, l7, l8] [.int x] w 0 Q)) ∧
  (∀ (d : Nat) (l1 l2 l3 l4 l5 l6 l7 l8 : Option Value) (s0 : Value) (a : Nat) (w : px_H) (Q : Option Value → px_H → Prop), wp d 146 47 [some (.ref a), l1, l2, l3, l4, l5, l6, l7, l8] [s0] w 0 Q ↔ wp d 146 48 [some (.ref a), l1, l2, l3, l4, l5, l6, l7, l8] [.ref a, s0] w 0 Q) ∧
  (∀ (d : Nat) (l0 l1 l2 l3 l4 l5 l6 l7 l8 : Option Value) (s1 : Value) (a : Nat) (w : px_H) (Q : Option Value → px_H → Prop), wp d 146 48 [l0, l1, l2, l3, l4, l5, l6, l7, l8] [.ref a, s1] w 0 Q ↔ px_op (px_fld w a [(11, 0)] 0) (fun v => wp d 146 51 [l0, l1, l2, l3, l4, l5, l6, l7, l8] [v, s1] w 0 Q)) ∧
  (∀ (d : Nat) (l0 l1 l2 l4 l5 l6 l7 l8 : Option Value) (s0 s1 : Value) (x : Int32) (w : px_H) (Q : Option Value → px_H → Prop), wp d 146 51 [l0, l1, l2, some (.int x), l4, l5, l6, l7, l8] [s0, s1] w 0 Q ↔ wp d 146 52 [l0, l1, l2, some (.int x), l4, l5, l6, l7, l8] [.int x, s0, s1] w 0 Q) ∧
  (∀ (d : Nat) (l0 l1 l2 l3 l4 l5 l6 l7 l8 : Option Value) (s2 : Value) (i : Int32) (a : Nat) (w : px_H) (Q : Option Value → px_H → Prop), wp d 146 52 [l0, l1, l2, l3, l4, l5, l6, l7, l8] [.int i, .ref a, s2] w 0 Q ↔ px_op (px_ald w a i .int) (fun x => wp d 146 53 [l0, l1, l2, l3, l4, l5, l6, l7, l8] [.int x, s2] w 0 Q)) ∧
  (∀ (d : Nat) (l0 l1 l2 l3 l4 l5 l6 l7 l8 : Option Value) (x y : Int32) (w : px_H) (Q : Option Value → px_H → Prop), wp d 146 53 [l0, l1, l2, l3, l4, l5, l6, l7, l8] [.int y, .int x] w 0 Q ↔ if x = y then wp d 146 62 [l0, l1, l2, l3, l4, l5, l6, l7, l8] [] w 0 Q else wp d 146 56 [l0, l1, l2, l3, l4, l5, l6, l7, l8] [] w 0 Q) ∧
  (∀ (d : Nat) (l1 l2 l3 l4 l5 l6 l7 l8 : Option Value) (a : Nat) (w : px_H) (Q : Option Value → px_H → Prop), wp d 146 56 [some (.ref a), l1, l2, l3, l4, l5, l6, l7, l8] [] w 0 Q ↔ wp d 146 57 [some (.ref a), l1, l2, l3, l4, l5, l6, l7, l8] [.ref a] w 0 Q) ∧
  (∀ (d : Nat) (l0 l1 l2 l3 l4 l5 l6 l7 l8 : Option Value) (s0 : Value)  (w : px_H) (Q : Option Value → px_H → Prop), wp d 146 57 [l0, l1, l2, l3, l4, l5, l6, l7, l8] [s0] w 0 Q ↔ wp d 146 58 [l0, l1, l2, l3, l4, l5, l6, l7, l8] [.int 5, s0] w 0 Q) ∧
  (∀ (d : Nat) (l0 l1 l2 l3 l4 l5 l6 l7 l8 : Option Value) (v0 : Value) (b : Nat) (w : px_H) (Q : Option Value → px_H → Prop), wp (d + 1) 146 58 [l0, l1, l2, l3, l4, l5, l6, l7, l8] [v0, .ref b] w 0 Q ↔ px_op (px_tgt w b [(11, 141)]) (fun v => wc d v [.ref b, v0] w (fun r w' => wp (d + 1) 146 61 [l0, l1, l2, l3, l4, l5, l6, l7, l8] (r.toList ++ []) w' 0 Q))) ∧
  (∀ (d : Nat) (l0 l1 l2 l3 l4 l5 l6 l7 l8 : Option Value) (x : Int32) (w : px_H) (Q : Option Value → px_H → Prop), wp d 146 61 [l0, l1, l2, l3, l4, l5, l6, l7, l8] [.int x] w 0 Q ↔ Q (some (.int x)) w) ∧
  (∀ (d : Nat) (l0 l1 l3 l4 l5 l6 l7 l8 : Option Value) (x : Int32) (w : px_H) (Q : Option Value → px_H → Prop), wp d 146 62 [l0, l1, some (.int x), l3, l4, l5, l6, l7, l8] [] w 0 Q ↔ wp d 146 63 [l0, l1, some (.int x), l3, l4, l5, l6, l7, l8] [.int x] w 0 Q) ∧
  (∀ (d : Nat) (l0 l1 l2 l3 l4 l5 l6 l7 l8 : Option Value) (x : Int32) (w : px_H) (Q : Option Value → px_H → Prop), wp d 146 63 [l0, l1, l2, l3, l4, l5, l6, l7, l8] [.int x] w 0 Q ↔ if x < 0 then wp d 146 103 [l0, l1, l2, l3, l4, l5, l6, l7, l8] [] w 0 Q else wp d 146 66 [l0, l1, l2, l3, l4, l5, l6, l7, l8] [] w 0 Q) ∧
  (∀ (d : Nat) (l0 l1 l2 l3 l5 l6 l7 l8 : Option Value) (x : Int32) (w : px_H) (Q : Option Value → px_H → Prop), wp d 146 66 [l0, l1, l2, l3, some (.int x), l5, l6, l7, l8] [] w 0 Q ↔ wp d 146 68 [l0, l1, l2, l3, some (.int x), l5, l6, l7, l8] [.int x] w 0 Q) ∧
  (∀ (d : Nat) (l0 l1 l2 l3 l4 l5 l6 l7 l8 : Option Value) (x : Int32) (w : px_H) (Q : Option Value → px_H → Prop), wp d 146 68 [l0, l1, l2, l3, l4, l5, l6, l7, l8] [.int x] w 0 Q ↔ if x < 0 then wp d 146 103 [l0, l1, l2, l3, l4, l5, l6, l7, l8] [] w 0 Q else wp d 146 71 [l0, l1, l2, l3, l4, l5, l6, l7, l8] [] w 0 Q) ∧
  (∀ (d : Nat) (l0 l1 l2 l3 l4 l6 l7 l8 : Option Value) (x : Int32) (w : px_H) (Q : Option Value → px_H → Prop), wp d 146 71 [l0, l1, l2, l3, l4, some (.int x), l6, l7, l8] [] w 0 Q ↔ wp d 146 73 [l0, l1, l2, l3, l4, some (.int x), l6, l7, l8] [.int x] w 0 Q) ∧
  (∀ (d : Nat) (l0 l1 l2 l3 l4 l5 l6 l7 l8 : Option Value) (x : Int32) (w : px_H) (Q : Option Value → px_H → Prop), wp d 146 73 [l0, l1, l2, l3, l4, l5, l6, l7, l8] [.int x] w 0 Q ↔ if x < 0 then wp d 146 103 [l0, l1, l2, l3, l4, l5, l6, l7, l8] [] w 0 Q else wp d 146 76 [l0, l1, l2, l3, l4, l5, l6, l7, l8] [] w 0 Q) ∧
  (∀ (d : Nat) (l0 l1 l2 l3 l4 l6 l7 l8 : Option Value) (x : Int32) (w : px_H) (Q : Option Value → px_H → Prop), wp d 146 76 [l0, l1, l2, l3, l4, some (.int x), l6, l7, l8] [] w 0 Q ↔ wp d 146 78 [l0, l1, l2, l3, l4, some (.int x), l6, l7, l8] [.int x] w 0 Q) ∧
  (∀ (d : Nat) (l1 l2 l3 l4 l5 l6 l7 l8 : Option Value) (s0 : Value) (a : Nat) (w : px_H) (Q : Option Value → px_H → Prop), wp d 146 78 [some (.ref a), l1, l2, l3, l4, l5, l6, l7, l8] [s0] w 0 Q ↔ wp d 146 79 [some (.ref a), l1, l2, l3, l4, l5, l6, l7, l8] [.ref a, s0] w 0 Q) ∧
  (∀ (d : Nat) (l0 l1 l2 l3 l4 l5 l6 l7 l8 : Option Value) (s1 : Value) (a : Nat) (w : px_H) (Q : Option Value → px_H → Prop), wp d 146 79 [l0, l1, l2, l3, l4, l5, l6, l7, l8] [.ref a, s1] w 0 Q ↔ px_op (px_fld w a [(11, 0)] 1) (fun v => wp d 146 82 [l0, l1, l2, l3, l4, l5, l6, l7, l8] [v, s1] w 0 Q)) ∧
  (∀ (d : Nat) (l0 l2 l3 l4 l5 l6 l7 l8 : Option Value) (s0 s1 : Value) (x : Int32) (w : px_H) (Q : Option Value → px_H → Prop), wp d 146 82 [l0, some (.int x), l2, l3, l4, l5, l6, l7, l8] [s0, s1] w 0 Q ↔ wp d 146 83 [l0, some (.int x), l2, l3, l4, l5, l6, l7, l8] [.int x, s0, s1] w 0 Q) ∧
  (∀ (d : Nat) (l0 l1 l2 l3 l4 l5 l6 l7 l8 : Option Value) (s2 : Value) (i : Int32) (a : Nat) (w : px_H) (Q : Option Value → px_H → Prop), wp d 146 83 [l0, l1, l2, l3, l4, l5, l6, l7, l8] [.int i, .ref a, s2] w 0 Q ↔ px_op (px_ald w a i .int) (fun x => wp d 146 84 [l0, l1, l2, l3, l4, l5, l6, l7, l8] [.int x, s2] w 0 Q)) ∧
  (∀ (d : Nat) (l0 l1 l3 l4 l5 l6 l7 l8 : Option Value) (s0 s1 : Value) (x : Int32) (w : px_H) (Q : Option Value → px_H → Prop), wp d 146 84 [l0, l1, some (.int x), l3, l4, l5, l6, l7, l8] [s0, s1] w 0 Q ↔ wp d 146 85 [l0, l1, some (.int x), l3, l4, l5, l6, l7, l8] [.int x, s0, s1] w 0 Q) ∧
  (∀ (d : Nat) (l0 l1 l2 l3 l4 l5 l6 l7 l8 : Option Value) (s2 : Value) (x y : Int32) (w : px_H) (Q : Option Value → px_H → Prop), wp d 146 85 [l0, l1, l2, l3, l4, l5, l6, l7, l8] [.int y, .int x, s2] w 0 Q ↔ wp d 146 86 [l0, l1, l2, l3, l4, l5, l6, l7, l8] [.int (x - y), s2] w 0 Q) ∧
  (∀ (d : Nat) (l0 l1 l2 l3 l4 l5 l6 l7 l8 : Option Value) (x y : Int32) (w : px_H) (Q : Option Value → px_H → Prop), wp d 146 86 [l0, l1, l2, l3, l4, l5, l6, l7, l8] [.int y, .int x] w 0 Q ↔ if y < x then wp d 146 103 [l0, l1, l2, l3, l4, l5, l6, l7, l8] [] w 0 Q else wp d 146 89 [l0, l1, l2, l3, l4, l5, l6, l7, l8] [] w 0 Q) ∧
  (∀ (d : Nat) (l0 l1 l2 l3 l4 l6 l7 l8 : Option Value) (x : Int32) (w : px_H) (Q : Option Value → px_H → Prop), wp d 146 89 [l0, l1, l2, l3, l4, some (.int x), l6, l7, l8] [] w 0 Q ↔ wp d 146 91 [l0, l1, l2, l3, l4, some (.int x), l6, l7, l8] [.int x] w 0 Q) ∧
  (∀ (d : Nat) (l1 l2 l3 l4 l5 l6 l7 l8 : Option Value) (s0 : Value) (a : Nat) (w : px_H) (Q : Option Value → px_H → Prop), wp d 146 91 [some (.ref a), l1, l2, l3, l4, l5, l6, l7, l8] [s0] w 0 Q ↔ wp d 146 92 [some (.ref a), l1, l2, l3, l4, l5, l6, l7, l8] [.ref a, s0] w 0 Q) ∧
  (∀ (d : Nat) (l0 l1 l2 l3 l4 l5 l6 l7 l8 : Option Value) (s1 : Value) (a : Nat) (w : px_H) (Q : Option Value → px_H → Prop), wp d 146 92 [l0, l1, l2, l3, l4, l5, l6, l7, l8] [.ref a, s1] w 0 Q ↔ px_op (px_fld w a [(11, 0)] 1) (fun v => wp d 146 95 [l0, l1, l2, l3, l4, l5, l6, l7, l8] [v, s1] w 0 Q)) ∧
  (∀ (d : Nat) (l0 l1 l2 l4 l5 l6 l7 l8 : Option Value) (s0 s1 : Value) (x : Int32) (w : px_H) (Q : Option Value → px_H → Prop), wp d 146 95 [l0, l1, l2, some (.int x), l4, l5, l6, l7, l8] [s0, s1] w 0 Q ↔ wp d 146 96 [l0, l1, l2, some (.int x), l4, l5, l6, l7, l8] [.int x, s0, s1] w 0 Q) ∧
  (∀ (d : Nat) (l0 l1 l2 l3 l4 l5 l6 l7 l8 : Option Value) (s2 : Value) (i : Int32) (a : Nat) (w : px_H) (Q : Option Value → px_H → Prop), wp d 146 96 [l0, l1, l2, l3, l4, l5, l6, l7, l8] [.int i, .ref a, s2] w 0 Q ↔ px_op (px_ald w a i .int) (fun x => wp d 146 97 [l0, l1, l2, l3, l4, l5, l6, l7, l8] [.int x, s2] w 0 Q)) ∧
  (∀ (d : Nat) (l0 l1 l2 l3 l5 l6 l7 l8 : Option Value) (s0 s1 : Value) (x : Int32) (w : px_H) (Q : Option Value → px_H → Prop), wp d 146 97 [l0, l1, l2, l3, some (.int x), l5, l6, l7, l8] [s0, s1] w 0 Q ↔ wp d 146 99 [l0, l1, l2, l3, some (.int x), l5, l6, l7, l8] [.int x, s0, s1] w 0 Q) ∧
  (∀ (d : Nat) (l0 l1 l2 l3 l4 l5 l6 l7 l8 : Option Value) (s2 : Value) (x y : Int32) (w : px_H) (Q : Option Value → px_H → Prop), wp d 146 99 [l0, l1, l2, l3, l4, l5, l6, l7, l8] [.int y, .int x, s2] w 0 Q ↔ wp d 146 100 [l0, l1, l2, l3, l4, l5, l6, l7, l8] [.int (x - y), s2] w 0 Q) ∧
  (∀ (d : Nat) (l0 l1 l2 l3 l4 l5 l6 l7 l8 : Option Value) (x y : Int32) (w : px_H) (Q : Option Value → px_H → Prop), wp d 146 100 [l0, l1, l2, l3, l4, l5, l6, l7, l8] [.int y, .int x] w 0 Q ↔ if x ≤ y then wp d 146 109 [l0, l1, l2, l3, l4, l5, l6, l7, l8] [] w 0 Q else wp d 146 103 [l0, l1, l2, l3, l4, l5, l6, l7, l8] [] w 0 Q) ∧
  (∀ (d : Nat) (l1 l2 l3 l4 l5 l6 l7 l8 : Option Value) (a : Nat) (w : px_H) (Q : Option Value → px_H → Prop), wp d 146 103 [some (.ref a), l1, l2, l3, l4, l5, l6, l7, l8] [] w 0 Q ↔ wp d 146 104 [some (.ref a), l1, l2, l3, l4, l5, l6, l7, l8] [.ref a] w 0 Q) ∧
  (∀ (d : Nat) (l0 l1 l2 l3 l4 l5 l6 l7 l8 : Option Value) (s0 : Value)  (w : px_H) (Q : Option Value → px_H → Prop), wp d 146 104 [l0, l1, l2, l3, l4, l5, l6, l7, l8] [s0] w 0 Q ↔ wp d 146 105 [l0, l1, l2, l3, l4, l5, l6, l7, l8] [.int 2, s0] w 0 Q) ∧
  (∀ (d : Nat) (l0 l1 l2 l3 l4 l5 l6 l7 l8 : Option Value) (v0 : Value) (b : Nat) (w : px_H) (Q : Option Value → px_H → Prop), wp (d + 1) 146 105 [l0, l1, l2, l3, l4, l5, l6, l7, l8] [v0, .ref b] w 0 Q ↔ px_op (px_tgt w b [(11, 141)]) (fun v => wc d v [.ref b, v0] w (fun r w' => wp (d + 1) 146 108 [l0, l1, l2, l3, l4, l5, l6, l7, l8] (r.toList ++ []) w' 0 Q))) ∧
  (∀ (d : Nat) (l0 l1 l2 l3 l4 l5 l6 l7 l8 : Option Value) (x : Int32) (w : px_H) (Q : Option Value → px_H → Prop), wp d 146 108 [l0, l1, l2, l3, l4, l5, l6, l7, l8] [.int x] w 0 Q ↔ Q (some (.int x)) w) ∧
  (∀ (d : Nat) (l0 l1 l2 l3 l5 l6 l7 l8 : Option Value) (x : Int32) (w : px_H) (Q : Option Value → px_H → Prop), wp d 146 109 [l0, l1, l2, l3, some (.int x), l5, l6, l7, l8] [] w 0 Q ↔ wp d 146 111 [l0, l1, l2, l3, some (.int x), l5, l6, l7, l8] [.int x] w 0 Q) ∧
  (∀ (d : Nat) (l0 l1 l3 l4 l5 l6 l7 l8 : Option Value) (s0 : Value) (x : Int32) (w : px_H) (Q : Option Value → px_H → Prop), wp d 146 111 [l0, l1, some (.int x), l3, l4, l5, l6, l7, l8] [s0] w 0 Q ↔ wp d 146 112 [l0, l1, some (.int x), l3, l4, l5, l6, l7, l8] [.int x, s0] w 0 Q) ∧
  (∀ (d : Nat) (l0 l1 l2 l3 l4 l5 l6 l7 l8 : Option Value) (x y : Int32) (w : px_H) (Q : Option Value → px_H → Prop), wp d 146 112 [l0, l1, l2, l3, l4, l5, l6, l7, l8] [.int y, .int x] w 0 Q ↔ if x ≤ y then wp d 146 119 [l0, l1, l2, l3, l4, l5, l6, l7, l8] [] w 0 Q else wp d 146 115 [l0, l1, l2, l3, l4, l5, l6, l7, l8] [] w 0 Q) ∧
  (∀ (d : Nat) (l0 l1 l2 l3 l4 l5 l6 l7 l8 : Option Value)  (w : px_H) (Q : Option Value → px_H → Prop), wp d 146 115 [l0, l1, l2, l3, l4, l5, l6, l7, l8] [] w 0 Q ↔ wp d 146 116 [l0, l1, l2, l3, l4, l5, l6, l7, l8] [.int 1] w 0 Q) ∧
  (∀ (d : Nat) (l0 l1 l2 l3 l4 l5 l6 l7 l8 : Option Value) (s0 : Value)  (w : px_H) (Q : Option Value → px_H → Prop), wp d 146 116 [l0, l1, l2, l3, l4, l5, l6, l7, l8] [s0] w 0 Q ↔ wp d 146 120 [l0, l1, l2, l3, l4, l5, l6, l7, l8] [s0] w 0 Q) ∧
  (∀ (d : Nat) (l0 l1 l2 l3 l4 l5 l6 l7 l8 : Option Value)  (w : px_H) (Q : Option Value → px_H → Prop), wp d 146 119 [l0, l1, l2, l3, l4, l5, l6, l7, l8] [] w 0 Q ↔ wp d 146 120 [l0, l1, l2, l3, l4, l5, l6, l7, l8] [.int 0] w 0 Q) ∧
  (∀ (d : Nat) (l0 l1 l2 l3 l4 l5 l6 l7 l8 : Option Value) (x : Int32) (w : px_H) (Q : Option Value → px_H → Prop), wp d 146 120 [l0, l1, l2, l3, l4, l5, l6, l7, l8] [.int x] w 0 Q ↔ wp d 146 122 [l0, l1, l2, l3, l4, l5, some (.int x), l7, l8] [] w 0 Q) ∧
  (∀ (d : Nat) (l0 l1 l2 l3 l4 l5 l6 l7 l8 : Option Value)  (w : px_H) (Q : Option Value → px_H → Prop), wp d 146 122 [l0, l1, l2, l3, l4, l5, l6, l7, l8] [] w 0 Q ↔ wp d 146 123 [l0, l1, l2, l3, l4, l5, l6, l7, l8] [.int 0] w 0 Q) ∧
  (∀ (d : Nat) (l0 l1 l2 l3 l4 l5 l6 l7 l8 : Option Value) (x : Int32) (w : px_H) (Q : Option Value → px_H → Prop), wp d 146 123 [l0, l1, l2, l3, l4, l5, l6, l7, l8] [.int x] w 0 Q ↔ wp d 146 125 [l0, l1, l2, l3, l4, l5, l6, some (.int x), l8] [] w 0 Q) ∧
  (∀ (d : Nat) (l0 l1 l2 l3 l4 l6 l7 l8 : Option Value) (s0 : Value) (x : Int32) (w : px_H) (Q : Option Value → px_H → Prop), wp d 146 127 [l0, l1, l2, l3, l4, some (.int x), l6, l7, l8] [s0] w 0 Q ↔ wp d 146 129 [l0, l1, l2, l3, l4, some (.int x), l6, l7, l8] [.int x, s0] w 0 Q) ∧
  (∀ (d : Nat) (l0 l1 l2 l3 l4 l5 l6 l7 l8 : Option Value) (x y : Int32) (w : px_H) (Q : Option Value → px_H → Prop), wp d 146 129 [l0, l1, l2, l3, l4, l5, l6, l7, l8] [.int y, .int x] w 0 Q ↔ if y ≤ x then wp d 146 186 [l0, l1, l2, l3, l4, l5, l6, l7, l8] [] w 0 Q else wp d 146 132 [l0, l1, l2, l3, l4, l5, l6, l7, l8] [] w 0 Q) ∧
  (∀ (d : Nat) (l0 l1 l2 l3 l4 l5 l7 l8 : Option Value) (x : Int32) (w : px_H) (Q : Option Value → px_H → Prop), wp d 146 132 [l0, l1, l2, l3, l4, l5, some (.int x), l7, l8] [] w 0 Q ↔ wp d 146 134 [l0, l1, l2, l3, l4, l5, some (.int x), l7, l8] [.int x] w 0 Q) ∧
  (∀ (d : Nat) (l0 l1 l2 l3 l4 l5 l6 l7 l8 : Option Value) (x : Int32) (w : px_H) (Q : Option Value → px_H → Prop), wp d 146 134 [l0, l1, l2, l3, l4, l5, l6, l7, l8] [.int x] w 0 Q ↔ if x = 0 then wp d 146 147 [l0, l1, l2, l3, l4, l5, l6, l7, l8] [] w 0 Q else wp d 146 137 [l0, l1, l2, l3, l4, l5, l6, l7, l8] [] w 0 Q) ∧
  (∀ (d : Nat) (l0 l1 l2 l3 l4 l6 l7 l8 : Option Value) (x : Int32) (w : px_H) (Q : Option Value → px_H → Prop), wp d 146 137 [l0, l1, l2, l3, l4, some (.int x), l6, l7, l8] [] w 0 Q ↔ wp d 146 139 [l0, l1, l2, l3, l4, some (.int x), l6, l7, l8] [.int x] w 0 Q) ∧
  (∀ (d : Nat) (l0 l1 l2 l3 l4 l5 l6 l7 l8 : Option Value) (s0 : Value)  (w : px_H) (Q : Option Value → px_H → Prop), wp d 146 139 [l0, l1, l2, l3, l4, l5, l6, l7, l8] [s0] w 0 Q ↔ wp d 146 140 [l0, l1, l2, l3, l4, l5, l6, l7, l8] [.int 1, s0] w 0 Q) ∧
  (∀ (d : Nat) (l0 l1 l2 l3 l4 l5 l6 l7 l8 : Option Value) (x y : Int32) (w : px_H) (Q : Option Value → px_H → Prop), wp d 146 140 [l0, l1, l2, l3, l4, l5, l6, l7, l8] [.int y, .int x] w 0 Q ↔ wp d 146 141 [l0, l1, l2, l3, l4, l5, l6, l7, l8] [.int (x - y)] w 0 Q) ∧
  (∀ (d : Nat) (l0 l1 l2 l3 l4 l5 l6 l8 : Option Value) (s0 : Value) (x : Int32) (w : px_H) (Q : Option Value → px_H → Prop), wp d 146 141 [l0, l1, l2, l3, l4, l5, l6, some (.int x), l8] [s0] w 0 Q ↔ wp d 146 143 [l0, l1, l2, l3, l4, l5, l6, some (.int x), l8] [.int x, s0] w 0 Q) ∧
  (∀ (d : Nat) (l0 l1 l2 l3 l4 l5 l6 l7 l8 : Option Value) (x y : Int32) (w : px_H) (Q : Option Value → px_H → Prop), wp d 146 143 [l0, l1, l2, l3, l4, l5, l6, l7, l8] [.int y, .int x] w 0 Q ↔ wp d 146 144 [l0, l1, l2, l3, l4, l5, l6, l7, l8] [.int (x - y)] w 0 Q) ∧
  (∀ (d : Nat) (l0 l1 l2 l3 l4 l5 l6 l7 l8 : Option Value) (s0 : Value)  (w : px_H) (Q : Option Value → px_H → Prop), wp d 146 144 [l0, l1, l2, l3, l4, l5, l6, l7, l8] [s0] w 0 Q ↔ wp d 146 149 [l0, l1, l2, l3, l4, l5, l6, l7, l8] [s0] w 0 Q) ∧
  (∀ (d : Nat) (l0 l1 l2 l3 l4 l5 l6 l8 : Option Value) (x : Int32) (w : px_H) (Q : Option Value → px_H → Prop), wp d 146 147 [l0, l1, l2, l3, l4, l5, l6, some (.int x), l8] [] w 0 Q ↔ wp d 146 149 [l0, l1, l2, l3, l4, l5, l6, some (.int x), l8] [.int x] w 0 Q) ∧
  (∀ (d : Nat) (l0 l1 l2 l3 l4 l5 l6 l7 l8 : Option Value) (x : Int32) (w : px_H) (Q : Option Value → px_H → Prop), wp d 146 149 [l0, l1, l2, l3, l4, l5, l6, l7, l8] [.int x] w 0 Q ↔ wp d 146 151 [l0, l1, l2, l3, l4, l5, l6, l7, some (.int x)] [] w 0 Q) ∧
  (∀ (d : Nat) (l1 l2 l3 l4 l5 l6 l7 l8 : Option Value) (a : Nat) (w : px_H) (Q : Option Value → px_H → Prop), wp d 146 151 [some (.ref a), l1, l2, l3, l4, l5, l6, l7, l8] [] w 0 Q ↔ wp d 146 152 [some (.ref a), l1, l2, l3, l4, l5, l6, l7, l8] [.ref a] w 0 Q) ∧
  (∀ (d : Nat) (l0 l1 l2 l3 l4 l5 l6 l7 l8 : Option Value) (a : Nat) (w : px_H) (Q : Option Value → px_H → Prop), wp d 146 152 [l0, l1, l2, l3, l4, l5, l6, l7, l8] [.ref a] w 0 Q ↔ px_op (px_fld w a [(11, 0)] 2) (fun v => wp d 146 155 [l0, l1, l2, l3, l4, l5, l6, l7, l8] [v] w 0 Q)) ∧
  (∀ (d : Nat) (l0 l1 l2 l3 l4 l5 l6 l7 l8 : Option Value) (s0 : Value)  (w : px_H) (Q : Option Value → px_H → Prop), wp d 146 155 [l0, l1, l2, l3, l4, l5, l6, l7, l8] [s0] w 0 Q ↔ wp d 146 157 [l0, l1, l2, l3, l4, l5, l6, l7, l8] [.int 40, s0] w 0 Q) ∧
  (∀ (d : Nat) (l0 l1 l2 l4 l5 l6 l7 l8 : Option Value) (s0 s1 : Value) (x : Int32) (w : px_H) (Q : Option Value → px_H → Prop), wp d 146 157 [l0, l1, l2, some (.int x), l4, l5, l6, l7, l8] [s0, s1] w 0 Q ↔ wp d 146 158 [l0, l1, l2, some (.int x), l4, l5, l6, l7, l8] [.int x, s0, s1] w 0 Q) ∧
  (∀ (d : Nat) (l0 l1 l2 l3 l4 l5 l6 l7 l8 : Option Value) (s2 : Value) (x y : Int32) (w : px_H) (Q : Option Value → px_H → Prop), wp d 146 158 [l0, l1, l2, l3, l4, l5, l6, l7, l8] [.int y, .int x, s2] w 0 Q ↔ wp d 146 159 [l0, l1, l2, l3, l4, l5, l6, l7, l8] [.int (x * y), s2] w 0 Q) ∧
  (∀ (d : Nat) (l0 l1 l2 l3 l5 l6 l7 l8 : Option Value) (s0 s1 : Value) (x : Int32) (w : px_H) (Q : Option Value → px_H → Prop), wp d 146 159 [l0, l1, l2, l3, some (.int x), l5, l6, l7, l8] [s0, s1] w 0 Q ↔ wp d 146 161 [l0, l1, l2, l3, some (.int x), l5, l6, l7, l8] [.int x, s0, s1] w 0 Q) ∧
  (∀ (d : Nat) (l0 l1 l2 l3 l4 l5 l6 l7 l8 : Option Value) (s2 : Value) (x y : Int32) (w : px_H) (Q : Option Value → px_H → Prop), wp d 146 161 [l0, l1, l2, l3, l4, l5, l6, l7, l8] [.int y, .int x, s2] w 0 Q ↔ wp d 146 162 [l0, l1, l2, l3, l4, l5, l6, l7, l8] [.int (x + y), s2] w 0 Q) ∧
  (∀ (d : Nat) (l0 l1 l2 l3 l4 l5 l6 l7 : Option Value) (s0 s1 : Value) (x : Int32) (w : px_H) (Q : Option Value → px_H → Prop), wp d 146 162 [l0, l1, l2, l3, l4, l5, l6, l7, some (.int x)] [s0, s1] w 0 Q ↔ wp d 146 164 [l0, l1, l2, l3, l4, l5, l6, l7, some (.int x)] [.int x, s0, s1] w 0 Q) ∧
  (∀ (d : Nat) (l0 l1 l2 l3 l4 l5 l6 l7 l8 : Option Value) (s2 : Value) (x y : Int32) (w : px_H) (Q : Option Value → px_H → Prop), wp d 146 164 [l0, l1, l2, l3, l4, l5, l6, l7, l8] [.int y, .int x, s2] w 0 Q ↔ wp d 146 165 [l0, l1, l2, l3, l4, l5, l6, l7, l8] [.int (x + y), s2] w 0 Q) ∧
  (∀ (d : Nat) (l1 l2 l3 l4 l5 l6 l7 l8 : Option Value) (s0 s1 : Value) (a : Nat) (w : px_H) (Q : Option Value → px_H → Prop), wp d 146 165 [some (.ref a), l1, l2, l3, l4, l5, l6, l7, l8] [s0, s1] w 0 Q ↔ wp d 146 166 [some (.ref a), l1, l2, l3, l4, l5, l6, l7, l8] [.ref a, s0, s1] w 0 Q) ∧
  (∀ (d : Nat) (l0 l1 l2 l3 l4 l5 l6 l7 l8 : Option Value) (s1 s2 : Value) (a : Nat) (w : px_H) (Q : Option Value → px_H → Prop), wp d 146 166 [l0, l1, l2, l3, l4, l5, l6, l7, l8] [.ref a, s1, s2] w 0 Q ↔ px_op (px_fld w a [(11, 0)] 2) (fun v => wp d 146 169 [l0, l1, l2, l3, l4, l5, l6, l7, l8] [v, s1, s2] w 0 Q)) ∧
  (∀ (d : Nat) (l0 l1 l2 l3 l4 l5 l6 l7 l8 : Option Value) (s0 s1 s2 : Value)  (w : px_H) (Q : Option Value → px_H → Prop), wp d 146 169 [l0, l1, l2, l3, l4, l5, l6, l7, l8] [s0, s1, s2] w 0 Q ↔ wp d 146 171 [l0, l1, l2, l3, l4, l5, l6, l7, l8] [.int 40, s0, s1, s2] w 0 Q) ∧
  (∀ (d : Nat) (l0 l2 l3 l4 l5 l6 l7 l8 : Option Value) (s0 s1 s2 s3 : Value) (x : Int32) (w : px_H) (Q : Option Value → px_H → Prop), wp d 146 171 [l0, some (.int x), l2, l3, l4, l5, l6, l7, l8] [s0, s1, s2, s3] w 0 Q ↔ wp d 146 172 [l0, some (.int x), l2, l3, l4, l5, l6, l7, l8] [.int x, s0, s1, s2, s3] w 0 Q) ∧
  (∀ (d : Nat) (l0 l1 l2 l3 l4 l5 l6 l7 l8 : Option Value) (s2 s3 s4 : Value) (x y : Int32) (w : px_H) (Q : Option Value → px_H → Prop), wp d 146 172 [l0, l1, l2, l3, l4, l5, l6, l7, l8] [.int y, .int x, s2, s3, s4] w 0 Q ↔ wp d 146 173 [l0, l1, l2, l3, l4, l5, l6, l7, l8] [.int (x * y), s2, s3, s4] w 0 Q) ∧
  (∀ (d : Nat) (l0 l1 l3 l4 l5 l6 l7 l8 : Option Value) (s0 s1 s2 s3 : Value) (x : Int32) (w : px_H) (Q : Option Value → px_H → Prop), wp d 146 173 [l0, l1, some (.int x), l3, l4, l5, l6, l7, l8] [s0, s1, s2, s3] w 0 Q ↔ wp d 146 174 [l0, l1, some (.int x), l3, l4, l5, l6, l7, l8] [.int x, s0, s1, s2, s3] w 0 Q) ∧
  (∀ (d : Nat) (l0 l1 l2 l3 l4 l5 l6 l7 l8 : Option Value) (s2 s3 s4 : Value) (x y : Int32) (w : px_H) (Q : Option Value → px_H → Prop), wp d 146 174 [l0, l1, l2, l3, l4, l5, l6, l7, l8] [.int y, .int x, s2, s3, s4] w 0 Q ↔ wp d 146 175 [l0, l1, l2, l3, l4, l5, l6, l7, l8] [.int (x + y), s2, s3, s4] w 0 Q) ∧
  (∀ (d : Nat) (l0 l1 l2 l3 l4 l5 l6 l7 : Option Value) (s0 s1 s2 s3 : Value) (x : Int32) (w : px_H) (Q : Option Value → px_H → Prop), wp d 146 175 [l0, l1, l2, l3, l4, l5, l6, l7, some (.int x)] [s0, s1, s2, s3] w 0 Q ↔ wp d 146 177 [l0, l1, l2, l3, l4, l5, l6, l7, some (.int x)] [.int x, s0, s1, s2, s3] w 0 Q) ∧
  (∀ (d : Nat) (l0 l1 l2 l3 l4 l5 l6 l7 l8 : Option Value) (s2 s3 s4 : Value) (x y : Int32) (w : px_H) (Q : Option Value → px_H → Prop), wp d 146 177 [l0, l1, l2, l3, l4, l5, l6, l7, l8] [.int y, .int x, s2, s3, s4] w 0 Q ↔ wp d 146 178 [l0, l1, l2, l3, l4, l5, l6, l7, l8] [.int (x + y), s2, s3, s4] w 0 Q) ∧
  (∀ (d : Nat) (l0 l1 l2 l3 l4 l5 l6 l7 l8 : Option Value) (s2 s3 : Value) (i : Int32) (a : Nat) (w : px_H) (Q : Option Value → px_H → Prop), wp d 146 178 [l0, l1, l2, l3, l4, l5, l6, l7, l8] [.int i, .ref a, s2, s3] w 0 Q ↔ px_op (px_ald w a i .int) (fun x => wp d 146 179 [l0, l1, l2, l3, l4, l5, l6, l7, l8] [.int x, s2, s3] w 0 Q)) ∧
  (∀ (d : Nat) (l0 l1 l2 l3 l4 l5 l6 l7 l8 : Option Value) (x i : Int32) (a : Nat) (w : px_H) (Q : Option Value → px_H → Prop), wp d 146 179 [l0, l1, l2, l3, l4, l5, l6, l7, l8] [.int x, .int i, .ref a] w 0 Q ↔ px_op (px_ast w a i x .int) (fun w' => wp d 146 180 [l0, l1, l2, l3, l4, l5, l6, l7, l8] [] w' 0 Q)) ∧
  (∀ (d : Nat) (l0 l1 l2 l3 l4 l5 l6 l8 : Option Value) (x : Int32) (w : px_H) (Q : Option Value → px_H → Prop), wp d 146 180 [l0, l1, l2, l3, l4, l5, l6, some (.int x), l8] [] w 0 Q ↔ wp d 146 183 [l0, l1, l2, l3, l4, l5, l6, some (.int (x + 1)), l8] [] w 0 Q) ∧
  (∀ (d : Nat) (l0 l1 l2 l3 l4 l5 l6 l7 l8 : Option Value)  (w : px_H) (Q : Option Value → px_H → Prop), wp d 146 183 [l0, l1, l2, l3, l4, l5, l6, l7, l8] [] w 0 Q ↔ wp d 146 125 [l0, l1, l2, l3, l4, l5, l6, l7, l8] [] w 0 Q) ∧
  (∀ (d : Nat) (l1 l2 l3 l4 l5 l6 l7 l8 : Option Value) (a : Nat) (w : px_H) (Q : Option Value → px_H → Prop), wp d 146 186 [some (.ref a), l1, l2, l3, l4, l5, l6, l7, l8] [] w 0 Q ↔ wp d 146 187 [some (.ref a), l1, l2, l3, l4, l5, l6, l7, l8] [.ref a] w 0 Q) ∧
  (∀ (d : Nat) (l0 l1 l2 l3 l4 l6 l7 l8 : Option Value) (s0 : Value) (x : Int32) (w : px_H) (Q : Option Value → px_H → Prop), wp d 146 187 [l0, l1, l2, l3, l4, some (.int x), l6, l7, l8] [s0] w 0 Q ↔ wp d 146 189 [l0, l1, l2, l3, l4, some (.int x), l6, l7, l8] [.int x, s0] w 0 Q) ∧
  (∀ (d : Nat) (l0 l1 l2 l3 l4 l5 l6 l7 l8 : Option Value) (v0 : Value) (b : Nat) (w : px_H) (Q : Option Value → px_H → Prop), wp (d + 1) 146 189 [l0, l1, l2, l3, l4, l5, l6, l7, l8] [v0, .ref b] w 0 Q ↔ px_op (px_tgt w b [(11, 142)]) (fun v => wc d v [.ref b, v0] w (fun r w' => wp (d + 1) 146 192 [l0, l1, l2, l3, l4, l5, l6, l7, l8] (r.toList ++ []) w' 0 Q))) ∧
  (∀ (d : Nat) (l0 l1 l2 l3 l4 l5 l6 l7 l8 : Option Value) (x : Int32) (w : px_H) (Q : Option Value → px_H → Prop), wp d 146 192 [l0, l1, l2, l3, l4, l5, l6, l7, l8] [.int x] w 0 Q ↔ Q (some (.int x)) w) := ⟨fun d v0 v1 v2 v3 v4 v5 w Q => r_entry pt_146 (Nat.le_of_ble_eq_true rfl) rfl,
  fun d l0 l2 l3 l4 l5 l6 l7 l8 x w Q => px_go (q := (.iload_n 1, 1, px_x0)) (S' := (1, [l0, some (.int x), l2, l3, l4, l5, l6, l7, l8], [.int x], w, 0)) pt_146 rfl rfl,
  fun d l0 l1 l2 l3 l4 l5 l6 l7 l8 v0 w Q => r_call (q := (.invokestatic 54, 3, (30, 1, [(0, 143)], 0, ""))) pt_146 rfl rfl pt_143 (Nat.le_of_ble_eq_true rfl) (Nat.le_of_ble_eq_true rfl) rfl,
  fun d l0 l1 l2 l3 l4 l5 l6 l7 l8 x w Q => r_if_eq pt_146 rfl rfl,
  fun d l0 l1 l2 l4 l5 l6 l7 l8 x w Q => px_go (q := (.iload_n 3, 1, px_x0)) (S' := (8, [l0, l1, l2, some (.int x), l4, l5, l6, l7, l8], [.int x], w, 0)) pt_146 rfl rfl,
  fun d l0 l1 l2 l3 l4 l5 l6 l7 l8 v0 w Q => r_call (q := (.invokestatic 54, 3, (30, 1, [(0, 143)], 0, ""))) pt_146 rfl rfl pt_143 (Nat.le_of_ble_eq_true rfl) (Nat.le_of_ble_eq_true rfl) rfl,
  fun d l0 l1 l2 l3 l4 l5 l6 l7 l8 x w Q => r_if_ne pt_146 rfl rfl,
  fun d l0 l1 l2 l3 l4 l5 l6 l7 l8 w Q => px_go (q := (.ldc 58, 2, (0, 0, [], (-1000001), ""))) (S' := (16, [l0, l1, l2, l3, l4, l5, l6, l7, l8], [.int (-1000001)], w, 0)) pt_146 rfl rfl,
  fun d l0 l1 l2 l3 l4 l5 l6 l7 l8 x w Q => px_ret (q := (.ireturn, 1, px_x0)) pt_146 rfl rfl,
  fun d l1 l2 l3 l4 l5 l6 l7 l8 a w Q => px_go (q := (.aload_n 0, 1, px_x0)) (S' := (18, [some (.ref a), l1, l2, l3, l4, l5, l6, l7, l8], [.ref a], w, 0)) pt_146 rfl rfl,
  fun d l0 l1 l2 l3 l4 l5 l6 l7 l8 a w Q => px_goO (q := (.getfield 7, 3, (10, 0, [(11, 0)], 0, "AllSwornModel"))) (S' := fun v => (21, [l0, l1, l2, l3, l4, l5, l6, l7, l8], [v], w, 0)) pt_146 rfl rfl,
  fun d l0 l2 l3 l4 l5 l6 l7 l8 s0 x w Q => px_go (q := (.iload_n 1, 1, px_x0)) (S' := (22, [l0, some (.int x), l2, l3, l4, l5, l6, l7, l8], [.int x, s0], w, 0)) pt_146 rfl rfl,
  fun d l0 l1 l2 l3 l4 l5 l6 l7 l8 i a w Q => px_goO (q := (.iaload, 1, px_x0)) (S' := fun x => (23, [l0, l1, l2, l3, l4, l5, l6, l7, l8], [.int x], w, 0)) pt_146 rfl rfl,
  fun d l0 l1 l2 l3 l4 l5 l6 l7 l8 x w Q => r_if_eq pt_146 rfl rfl,
  fun d l1 l2 l3 l4 l5 l6 l7 l8 a w Q => px_go (q := (.aload_n 0, 1, px_x0)) (S' := (27, [some (.ref a), l1, l2, l3, l4, l5, l6, l7, l8], [.ref a], w, 0)) pt_146 rfl rfl,
  fun d l0 l1 l2 l3 l4 l5 l6 l7 l8 a w Q => px_goO (q := (.getfield 7, 3, (10, 0, [(11, 0)], 0, "AllSwornModel"))) (S' := fun v => (30, [l0, l1, l2, l3, l4, l5, l6, l7, l8], [v], w, 0)) pt_146 rfl rfl,
  fun d l0 l1 l2 l4 l5 l6 l7 l8 s0 x w Q => px_go (q := (.iload_n 3, 1, px_x0)) (S' := (31, [l0, l1, l2, some (.int x), l4, l5, l6, l7, l8], [.int x, s0], w, 0)) pt_146 rfl rfl,
  fun d l0 l1 l2 l3 l4 l5 l6 l7 l8 i a w Q => px_goO (q := (.iaload, 1, px_x0)) (S' := fun x => (32, [l0, l1, l2, l3, l4, l5, l6, l7, l8], [.int x], w, 0)) pt_146 rfl rfl,
  fun d l0 l1 l2 l3 l4 l5 l6 l7 l8 x w Q => r_if_ne pt_146 rfl rfl,
  fun d l1 l2 l3 l4 l5 l6 l7 l8 a w Q => px_go (q := (.aload_n 0, 1, px_x0)) (S' := (36, [some (.ref a), l1, l2, l3, l4, l5, l6, l7, l8], [.ref a], w, 0)) pt_146 rfl rfl,
  fun d l0 l1 l2 l3 l4 l5 l6 l7 l8 s0 w Q => r_iconst pt_146 rfl (by decide),
  fun d l0 l1 l2 l3 l4 l5 l6 l7 l8 v0 b w Q => r_callV (q := (.invokevirtual 59, 3, (33, 1, [(11, 141)], 0, ""))) pt_146 rfl rfl (List.forall_mem_cons.mpr ⟨⟨_, pt_141, Nat.le_of_ble_eq_true rfl, (Nat.le_of_ble_eq_true rfl), rfl⟩, fun _ h => absurd h List.not_mem_nil⟩),
  fun d l0 l1 l2 l3 l4 l5 l6 l7 l8 x w Q => px_ret (q := (.ireturn, 1, px_x0)) pt_146 rfl rfl,
  fun d l1 l2 l3 l4 l5 l6 l7 l8 a w Q => px_go (q := (.aload_n 0, 1, px_x0)) (S' := (42, [some (.ref a), l1, l2, l3, l4, l5, l6, l7, l8], [.ref a], w, 0)) pt_146 rfl rfl,
  fun d l0 l1 l2 l3 l4 l5 l6 l7 l8 a w Q => px_goO (q := (.getfield 7, 3, (10, 0, [(11, 0)], 0, "AllSwornModel"))) (S' := fun v => (45, [l0, l1, l2, l3, l4, l5, l6, l7, l8], [v], w, 0)) pt_146 rfl rfl,
  fun d l0 l2 l3 l4 l5 l6 l7 l8 s0 x w Q => px_go (q := (.iload_n 1, 1, px_x0)) (S' := (46, [l0, some (.int x), l2, l3, l4, l5, l6, l7, l8], [.int x, s0], w, 0)) pt_146 rfl rfl,
  fun d l0 l1 l2 l3 l4 l5 l6 l7 l8 i a w Q => px_goO (q := (.iaload, 1, px_x0)) (S' := fun x => (47, [l0, l1, l2, l3, l4, l5, l6, l7, l8], [.int x], w, 0)) pt_146 rfl rfl,
  fun d l1 l2 l3 l4 l5 l6 l7 l8 s0 a w Q => px_go (q := (.aload_n 0, 1, px_x0)) (S' := (48, [some (.ref a), l1, l2, l3, l4, l5, l6, l7, l8], [.ref a, s0], w, 0)) pt_146 rfl rfl,
  fun d l0 l1 l2 l3 l4 l5 l6 l7 l8 s1 a w Q => px_goO (q := (.getfield 7, 3, (10, 0, [(11, 0)], 0, "AllSwornModel"))) (S' := fun v => (51, [l0, l1, l2, l3, l4, l5, l6, l7, l8], [v, s1], w, 0)) pt_146 rfl rfl,
  fun d l0 l1 l2 l4 l5 l6 l7 l8 s0 s1 x w Q => px_go (q := (.iload_n 3, 1, px_x0)) (S' := (52, [l0, l1, l2, some (.int x), l4, l5, l6, l7, l8], [.int x, s0, s1], w, 0)) pt_146 rfl rfl,
  fun d l0 l1 l2 l3 l4 l5 l6 l7 l8 s2 i a w Q => px_goO (q := (.iaload, 1, px_x0)) (S' := fun x => (53, [l0, l1, l2, l3, l4, l5, l6, l7, l8], [.int x, s2], w, 0)) pt_146 rfl rfl,
  fun d l0 l1 l2 l3 l4 l5 l6 l7 l8 x y w Q => r_icmp_eq pt_146 rfl rfl,
  fun d l1 l2 l3 l4 l5 l6 l7 l8 a w Q => px_go (q := (.aload_n 0, 1, px_x0)) (S' := (57, [some (.ref a), l1, l2, l3, l4, l5, l6, l7, l8], [.ref a], w, 0)) pt_146 rfl rfl,
  fun d l0 l1 l2 l3 l4 l5 l6 l7 l8 s0 w Q => r_iconst pt_146 rfl (by decide),
  fun d l0 l1 l2 l3 l4 l5 l6 l7 l8 v0 b w Q => r_callV (q := (.invokevirtual 59, 3, (33, 1, [(11, 141)], 0, ""))) pt_146 rfl rfl (List.forall_mem_cons.mpr ⟨⟨_, pt_141, Nat.le_of_ble_eq_true rfl, (Nat.le_of_ble_eq_true rfl), rfl⟩, fun _ h => absurd h List.not_mem_nil⟩),
  fun d l0 l1 l2 l3 l4 l5 l6 l7 l8 x w Q => px_ret (q := (.ireturn, 1, px_x0)) pt_146 rfl rfl,
  fun d l0 l1 l3 l4 l5 l6 l7 l8 x w Q => px_go (q := (.iload_n 2, 1, px_x0)) (S' := (63, [l0, l1, some (.int x), l3, l4, l5, l6, l7, l8], [.int x], w, 0)) pt_146 rfl rfl,
  fun d l0 l1 l2 l3 l4 l5 l6 l7 l8 x w Q => r_if_lt pt_146 rfl rfl,
  fun d l0 l1 l2 l3 l5 l6 l7 l8 x w Q => px_go (q := (.iload 4, 2, px_x0)) (S' := (68, [l0, l1, l2, l3, some (.int x), l5, l6, l7, l8], [.int x], w, 0)) pt_146 rfl rfl,
  fun d l0 l1 l2 l3 l4 l5 l6 l7 l8 x w Q => r_if_lt pt_146 rfl rfl,
  fun d l0 l1 l2 l3 l4 l6 l7 l8 x w Q => px_go (q := (.iload 5, 2, px_x0)) (S' := (73, [l0, l1, l2, l3, l4, some (.int x), l6, l7, l8], [.int x], w, 0)) pt_146 rfl rfl,
  fun d l0 l1 l2 l3 l4 l5 l6 l7 l8 x w Q => r_if_lt pt_146 rfl rfl,
  fun d l0 l1 l2 l3 l4 l6 l7 l8 x w Q => px_go (q := (.iload 5, 2, px_x0)) (S' := (78, [l0, l1, l2, l3, l4, some (.int x), l6, l7, l8], [.int x], w, 0)) pt_146 rfl rfl,
  fun d l1 l2 l3 l4 l5 l6 l7 l8 s0 a w Q => px_go (q := (.aload_n 0, 1, px_x0)) (S' := (79, [some (.ref a), l1, l2, l3, l4, l5, l6, l7, l8], [.ref a, s0], w, 0)) pt_146 rfl rfl,
  fun d l0 l1 l2 l3 l4 l5 l6 l7 l8 s1 a w Q => px_goO (q := (.getfield 13, 3, (10, 1, [(11, 0)], 0, "AllSwornModel"))) (S' := fun v => (82, [l0, l1, l2, l3, l4, l5, l6, l7, l8], [v, s1], w, 0)) pt_146 rfl rfl,
  fun d l0 l2 l3 l4 l5 l6 l7 l8 s0 s1 x w Q => px_go (q := (.iload_n 1, 1, px_x0)) (S' := (83, [l0, some (.int x), l2, l3, l4, l5, l6, l7, l8], [.int x, s0, s1], w, 0)) pt_146 rfl rfl,
  fun d l0 l1 l2 l3 l4 l5 l6 l7 l8 s2 i a w Q => px_goO (q := (.iaload, 1, px_x0)) (S' := fun x => (84, [l0, l1, l2, l3, l4, l5, l6, l7, l8], [.int x, s2], w, 0)) pt_146 rfl rfl,
  fun d l0 l1 l3 l4 l5 l6 l7 l8 s0 s1 x w Q => px_go (q := (.iload_n 2, 1, px_x0)) (S' := (85, [l0, l1, some (.int x), l3, l4, l5, l6, l7, l8], [.int x, s0, s1], w, 0)) pt_146 rfl rfl,
  fun d l0 l1 l2 l3 l4 l5 l6 l7 l8 s2 x y w Q => px_go (q := (.isub, 1, px_x0)) (S' := (86, [l0, l1, l2, l3, l4, l5, l6, l7, l8], [.int (x - y), s2], w, 0)) pt_146 rfl rfl,
  fun d l0 l1 l2 l3 l4 l5 l6 l7 l8 x y w Q => r_icmp_gt pt_146 rfl rfl,
  fun d l0 l1 l2 l3 l4 l6 l7 l8 x w Q => px_go (q := (.iload 5, 2, px_x0)) (S' := (91, [l0, l1, l2, l3, l4, some (.int x), l6, l7, l8], [.int x], w, 0)) pt_146 rfl rfl,
  fun d l1 l2 l3 l4 l5 l6 l7 l8 s0 a w Q => px_go (q := (.aload_n 0, 1, px_x0)) (S' := (92, [some (.ref a), l1, l2, l3, l4, l5, l6, l7, l8], [.ref a, s0], w, 0)) pt_146 rfl rfl,
  fun d l0 l1 l2 l3 l4 l5 l6 l7 l8 s1 a w Q => px_goO (q := (.getfield 13, 3, (10, 1, [(11, 0)], 0, "AllSwornModel"))) (S' := fun v => (95, [l0, l1, l2, l3, l4, l5, l6, l7, l8], [v, s1], w, 0)) pt_146 rfl rfl,
  fun d l0 l1 l2 l4 l5 l6 l7 l8 s0 s1 x w Q => px_go (q := (.iload_n 3, 1, px_x0)) (S' := (96, [l0, l1, l2, some (.int x), l4, l5, l6, l7, l8], [.int x, s0, s1], w, 0)) pt_146 rfl rfl,
  fun d l0 l1 l2 l3 l4 l5 l6 l7 l8 s2 i a w Q => px_goO (q := (.iaload, 1, px_x0)) (S' := fun x => (97, [l0, l1, l2, l3, l4, l5, l6, l7, l8], [.int x, s2], w, 0)) pt_146 rfl rfl,
  fun d l0 l1 l2 l3 l5 l6 l7 l8 s0 s1 x w Q => px_go (q := (.iload 4, 2, px_x0)) (S' := (99, [l0, l1, l2, l3, some (.int x), l5, l6, l7, l8], [.int x, s0, s1], w, 0)) pt_146 rfl rfl,
  fun d l0 l1 l2 l3 l4 l5 l6 l7 l8 s2 x y w Q => px_go (q := (.isub, 1, px_x0)) (S' := (100, [l0, l1, l2, l3, l4, l5, l6, l7, l8], [.int (x - y), s2], w, 0)) pt_146 rfl rfl,
  fun d l0 l1 l2 l3 l4 l5 l6 l7 l8 x y w Q => r_icmp_le pt_146 rfl rfl,
  fun d l1 l2 l3 l4 l5 l6 l7 l8 a w Q => px_go (q := (.aload_n 0, 1, px_x0)) (S' := (104, [some (.ref a), l1, l2, l3, l4, l5, l6, l7, l8], [.ref a], w, 0)) pt_146 rfl rfl,
  fun d l0 l1 l2 l3 l4 l5 l6 l7 l8 s0 w Q => r_iconst pt_146 rfl (by decide),
  fun d l0 l1 l2 l3 l4 l5 l6 l7 l8 v0 b w Q => r_callV (q := (.invokevirtual 59, 3, (33, 1, [(11, 141)], 0, ""))) pt_146 rfl rfl (List.forall_mem_cons.mpr ⟨⟨_, pt_141, Nat.le_of_ble_eq_true rfl, (Nat.le_of_ble_eq_true rfl), rfl⟩, fun _ h => absurd h List.not_mem_nil⟩),
  fun d l0 l1 l2 l3 l4 l5 l6 l7 l8 x w Q => px_ret (q := (.ireturn, 1, px_x0)) pt_146 rfl rfl,
  fun d l0 l1 l2 l3 l5 l6 l7 l8 x w Q => px_go (q := (.iload 4, 2, px_x0)) (S' := (111, [l0, l1, l2, l3, some (.int x), l5, l6, l7, l8], [.int x], w, 0)) pt_146 rfl rfl,
  fun d l0 l1 l3 l4 l5 l6 l7 l8 s0 x w Q => px_go (q := (.iload_n 2, 1, px_x0)) (S' := (112, [l0, l1, some (.int x), l3, l4, l5, l6, l7, l8], [.int x, s0], w, 0)) pt_146 rfl rfl,
  fun d l0 l1 l2 l3 l4 l5 l6 l7 l8 x y w Q => r_icmp_le pt_146 rfl rfl,
  fun d l0 l1 l2 l3 l4 l5 l6 l7 l8 w Q => r_iconst pt_146 rfl (by decide),
  fun d l0 l1 l2 l3 l4 l5 l6 l7 l8 s0 w Q => r_goto pt_146 rfl rfl,
  fun d l0 l1 l2 l3 l4 l5 l6 l7 l8 w Q => r_iconst pt_146 rfl (by decide),
  fun d l0 l1 l2 l3 l4 l5 l6 l7 l8 x w Q => px_go (q := (.istore 6, 2, px_x0)) (S' := (122, [l0, l1, l2, l3, l4, l5, some (.int x), l7, l8], [], w, 0)) pt_146 rfl rfl,
  fun d l0 l1 l2 l3 l4 l5 l6 l7 l8 w Q => r_iconst pt_146 rfl (by decide),
  fun d l0 l1 l2 l3 l4 l5 l6 l7 l8 x w Q => px_go (q := (.istore 7, 2, px_x0)) (S' := (125, [l0, l1, l2, l3, l4, l5, l6, some (.int x), l8], [], w, 0)) pt_146 rfl rfl,
  fun d l0 l1 l2 l3 l4 l6 l7 l8 s0 x w Q => px_go (q := (.iload 5, 2, px_x0)) (S' := (129, [l0, l1, l2, l3, l4, some (.int x), l6, l7, l8], [.int x, s0], w, 0)) pt_146 rfl rfl,
  fun d l0 l1 l2 l3 l4 l5 l6 l7 l8 x y w Q => r_icmp_ge pt_146 rfl rfl,
  fun d l0 l1 l2 l3 l4 l5 l7 l8 x w Q => px_go (q := (.iload 6, 2, px_x0)) (S' := (134, [l0, l1, l2, l3, l4, l5, some (.int x), l7, l8], [.int x], w, 0)) pt_146 rfl rfl,
  fun d l0 l1 l2 l3 l4 l5 l6 l7 l8 x w Q => r_if_eq pt_146 rfl rfl,
  fun d l0 l1 l2 l3 l4 l6 l7 l8 x w Q => px_go (q := (.iload 5, 2, px_x0)) (S' := (139, [l0, l1, l2, l3, l4, some (.int x), l6, l7, l8], [.int x], w, 0)) pt_146 rfl rfl,
  fun d l0 l1 l2 l3 l4 l5 l6 l7 l8 s0 w Q => r_iconst pt_146 rfl (by decide),
  fun d l0 l1 l2 l3 l4 l5 l6 l7 l8 x y w Q => px_go (q := (.isub, 1, px_x0)) (S' := (141, [l0, l1, l2, l3, l4, l5, l6, l7, l8], [.int (x - y)], w, 0)) pt_146 rfl rfl,
  fun d l0 l1 l2 l3 l4 l5 l6 l8 s0 x w Q => px_go (q := (.iload 7, 2, px_x0)) (S' := (143, [l0, l1, l2, l3, l4, l5, l6, some (.int x), l8], [.int x, s0], w, 0)) pt_146 rfl rfl,
  fun d l0 l1 l2 l3 l4 l5 l6 l7 l8 x y w Q => px_go (q := (.isub, 1, px_x0)) (S' := (144, [l0, l1, l2, l3, l4, l5, l6, l7, l8], [.int (x - y)], w, 0)) pt_146 rfl rfl,
  fun d l0 l1 l2 l3 l4 l5 l6 l7 l8 s0 w Q => r_goto pt_146 rfl rfl,
  fun d l0 l1 l2 l3 l4 l5 l6 l8 x w Q => px_go (q := (.iload 7, 2, px_x0)) (S' := (149, [l0, l1, l2, l3, l4, l5, l6, some (.int x), l8], [.int x], w, 0)) pt_146 rfl rfl,
  fun d l0 l1 l2 l3 l4 l5 l6 l7 l8 x w Q => px_go (q := (.istore 8, 2, px_x0)) (S' := (151, [l0, l1, l2, l3, l4, l5, l6, l7, some (.int x)], [], w, 0)) pt_146 rfl rfl,
  fun d l1 l2 l3 l4 l5 l6 l7 l8 a w Q => px_go (q := (.aload_n 0, 1, px_x0)) (S' := (152, [some (.ref a), l1, l2, l3, l4, l5, l6, l7, l8], [.ref a], w, 0)) pt_146 rfl rfl,
  fun d l0 l1 l2 l3 l4 l5 l6 l7 l8 a w Q => px_goO (q := (.getfield 16, 3, (10, 2, [(11, 0)], 0, "AllSwornModel"))) (S' := fun v => (155, [l0, l1, l2, l3, l4, l5, l6, l7, l8], [v], w, 0)) pt_146 rfl rfl,
  fun d l0 l1 l2 l3 l4 l5 l6 l7 l8 s0 w Q => r_bipush pt_146 rfl (by decide),
  fun d l0 l1 l2 l4 l5 l6 l7 l8 s0 s1 x w Q => px_go (q := (.iload_n 3, 1, px_x0)) (S' := (158, [l0, l1, l2, some (.int x), l4, l5, l6, l7, l8], [.int x, s0, s1], w, 0)) pt_146 rfl rfl,
  fun d l0 l1 l2 l3 l4 l5 l6 l7 l8 s2 x y w Q => px_go (q := (.imul, 1, px_x0)) (S' := (159, [l0, l1, l2, l3, l4, l5, l6, l7, l8], [.int (x * y), s2], w, 0)) pt_146 rfl rfl,
  fun d l0 l1 l2 l3 l5 l6 l7 l8 s0 s1 x w Q => px_go (q := (.iload 4, 2, px_x0)) (S' := (161, [l0, l1, l2, l3, some (.int x), l5, l6, l7, l8], [.int x, s0, s1], w, 0)) pt_146 rfl rfl,
  fun d l0 l1 l2 l3 l4 l5 l6 l7 l8 s2 x y w Q => px_go (q := (.iadd, 1, px_x0)) (S' := (162, [l0, l1, l2, l3, l4, l5, l6, l7, l8], [.int (x + y), s2], w, 0)) pt_146 rfl rfl,
  fun d l0 l1 l2 l3 l4 l5 l6 l7 s0 s1 x w Q => px_go (q := (.iload 8, 2, px_x0)) (S' := (164, [l0, l1, l2, l3, l4, l5, l6, l7, some (.int x)], [.int x, s0, s1], w, 0)) pt_146 rfl rfl,
  fun d l0 l1 l2 l3 l4 l5 l6 l7 l8 s2 x y w Q => px_go (q := (.iadd, 1, px_x0)) (S' := (165, [l0, l1, l2, l3, l4, l5, l6, l7, l8], [.int (x + y), s2], w, 0)) pt_146 rfl rfl,
  fun d l1 l2 l3 l4 l5 l6 l7 l8 s0 s1 a w Q => px_go (q := (.aload_n 0, 1, px_x0)) (S' := (166, [some (.ref a), l1, l2, l3, l4, l5, l6, l7, l8], [.ref a, s0, s1], w, 0)) pt_146 rfl rfl,
  fun d l0 l1 l2 l3 l4 l5 l6 l7 l8 s1 s2 a w Q => px_goO (q := (.getfield 16, 3, (10, 2, [(11, 0)], 0, "AllSwornModel"))) (S' := fun v => (169, [l0, l1, l2, l3, l4, l5, l6, l7, l8], [v, s1, s2], w, 0)) pt_146 rfl rfl,
  fun d l0 l1 l2 l3 l4 l5 l6 l7 l8 s0 s1 s2 w Q => r_bipush pt_146 rfl (by decide),
  fun d l0 l2 l3 l4 l5 l6 l7 l8 s0 s1 s2 s3 x w Q => px_go (q := (.iload_n 1, 1, px_x0)) (S' := (172, [l0, some (.int x), l2, l3, l4, l5, l6, l7, l8], [.int x, s0, s1, s2, s3], w, 0)) pt_146 rfl rfl,
  fun d l0 l1 l2 l3 l4 l5 l6 l7 l8 s2 s3 s4 x y w Q => px_go (q := (.imul, 1, px_x0)) (S' := (173, [l0, l1, l2, l3, l4, l5, l6, l7, l8], [.int (x * y), s2, s3, s4], w, 0)) pt_146 rfl rfl,
  fun d l0 l1 l3 l4 l5 l6 l7 l8 s0 s1 s2 s3 x w Q => px_go (q := (.iload_n 2, 1, px_x0)) (S' := (174, [l0, l1, some (.int x), l3, l4, l5, l6, l7, l8], [.int x, s0, s1, s2, s3], w, 0)) pt_146 rfl rfl,
  fun d l0 l1 l2 l3 l4 l5 l6 l7 l8 s2 s3 s4 x y w Q => px_go (q := (.iadd, 1, px_x0)) (S' := (175, [l0, l1, l2, l3, l4, l5, l6, l7, l8], [.int (x + y), s2, s3, s4], w, 0)) pt_146 rfl rfl,
  fun d l0 l1 l2 l3 l4 l5 l6 l7 s0 s1 s2 s3 x w Q => px_go (q := (.iload 8, 2, px_x0)) (S' := (177, [l0, l1, l2, l3, l4, l5, l6, l7, some (.int x)], [.int x, s0, s1, s2, s3], w, 0)) pt_146 rfl rfl,
  fun d l0 l1 l2 l3 l4 l5 l6 l7 l8 s2 s3 s4 x y w Q => px_go (q := (.iadd, 1, px_x0)) (S' := (178, [l0, l1, l2, l3, l4, l5, l6, l7, l8], [.int (x + y), s2, s3, s4], w, 0)) pt_146 rfl rfl,
  fun d l0 l1 l2 l3 l4 l5 l6 l7 l8 s2 s3 i a w Q => px_goO (q := (.iaload, 1, px_x0)) (S' := fun x => (179, [l0, l1, l2, l3, l4, l5, l6, l7, l8], [.int x, s2, s3], w, 0)) pt_146 rfl rfl,
  fun d l0 l1 l2 l3 l4 l5 l6 l7 l8 x i a w Q => px_goO (q := (.iastore, 1, px_x0)) (S' := fun w' => (180, [l0, l1, l2, l3, l4, l5, l6, l7, l8], [], w', 0)) pt_146 rfl rfl,
  fun d l0 l1 l2 l3 l4 l5 l6 l8 x w Q => r_iinc pt_146 rfl rfl (by decide) rfl,
  fun d l0 l1 l2 l3 l4 l5 l6 l7 l8 w Q => r_goto pt_146 rfl rfl,
  fun d l1 l2 l3 l4 l5 l6 l7 l8 a w Q => px_go (q := (.aload_n 0, 1, px_x0)) (S' := (187, [some (.ref a), l1, l2, l3, l4, l5, l6, l7, l8], [.ref a], w, 0)) pt_146 rfl rfl,
  fun d l0 l1 l2 l3 l4 l6 l7 l8 s0 x w Q => px_go (q := (.iload 5, 2, px_x0)) (S' := (189, [l0, l1, l2, l3, l4, some (.int x), l6, l7, l8], [.int x, s0], w, 0)) pt_146 rfl rfl,
  fun d l0 l1 l2 l3 l4 l5 l6 l7 l8 v0 b w Q => r_callV (q := (.invokevirtual 63, 3, (33, 1, [(11, 142)], 0, ""))) pt_146 rfl rfl (List.forall_mem_cons.mpr ⟨⟨_, pt_142, Nat.le_of_ble_eq_true rfl, (Nat.le_of_ble_eq_true rfl), rfl⟩, fun _ h => absurd h List.not_mem_nil⟩),
  fun d l0 l1 l2 l3 l4 l5 l6 l7 l8 x w Q => px_ret (q := (.ireturn, 1, px_x0)) pt_146 rfl rfl⟩
theorem H146_125 : ∀ (d : Nat) (l0 l1 l2 l3 l4 l5 l6 l8 : Option Value) (x : Int32) (w : px_H) (Q : Option Value → px_H → Prop), wp d 146 125 [l0, l1, l2, l3, l4, l5, l6, some (.int x), l8] [] w 0 Q ↔ wp d 146 127 [l0, l1, l2, l3, l4, l5, l6, some (.int x), l8] [.int x] w 0 Q := fun d l0 l1 l2 l3 l4 l5 l6 l8 x w Q => px_go (q := (.iload 7, 2, px_x0)) (S' := (127, [l0, l1, l2, l3, l4, l5, l6, some (.int x), l8], [.int x], w, 0)) pt_146 rfl rfl
/-- AllSwornModel.drop(I)I -/
theorem S147 : (∀ (d : Nat) (v0 v1 : Value) (w : px_H) (Q : Option Value → px_H → Prop), wc d 147 [v0, v1] w Q ↔ wp d 147 0 [some v0, some v1] [] w 0 Q) ∧
  (∀ (d : Nat) (l0 : Option Value) (x : Int32) (w : px_H) (Q : Option Value → px_H → Prop), wp d 147 0 [l0, some (.int x)] [] w 0 Q ↔ wp d 147 1 [l0, some (.int x)] [.int x] w 0 Q) ∧
  (∀ (d : Nat) (l0 l1 : Option Value) (v0 : Value) (w : px_H) (Q : Option Value → px_H → Prop), wp (d + 1) 147 1 [l0, l1] [v0] w 0 Q ↔ wc d 143 [v0] w (fun r w' => wp (d + 1) 147 4 [l0, l1] (r.toList ++ []) w' 0 Q)) ∧
  (∀ (d : Nat) (l0 l1 : Option Value) (x : Int32) (w : px_H) (Q : Option Value → px_H → Prop), wp d 147 4 [l0, l1] [.int x] w 0 Q ↔ if x = 0 then wp d 147 7 [l0, l1] [] w 0 Q else wp d 147 10 [l0, l1] [] w 0 Q) ∧
  (∀ (d : Nat) (l0 l1 : Option Value)  (w : px_H) (Q : Option Value → px_H → Prop), wp d 147 7 [l0, l1] [] w 0 Q ↔ wp d 147 9 [l0, l1] [.int (-1000001)] w 0 Q) ∧
  (∀ (d : Nat) (l0 l1 : Option Value) (x : Int32) (w : px_H) (Q : Option Value → px_H → Prop), wp d 147 9 [l0, l1] [.int x] w 0 Q ↔ Q (some (.int x)) w) ∧
  (∀ (d : Nat) (l1 : Option Value) (a : Nat) (w : px_H) (Q : Option Value → px_H → Prop), wp d 147 10 [some (.ref a), l1] [] w 0 Q ↔ wp d 147 11 [some (.ref a), l1] [.ref a] w 0 Q) ∧
  (∀ (d : Nat) (l0 l1 : Option Value) (a : Nat) (w : px_H) (Q : Option Value → px_H → Prop), wp d 147 11 [l0, l1] [.ref a] w 0 Q ↔ px_op (px_fld w a [(11, 0)] 0) (fun v => wp d 147 14 [l0, l1] [v] w 0 Q)) ∧
  (∀ (d : Nat) (l0 : Option Value) (s0 : Value) (x : Int32) (w : px_H) (Q : Option Value → px_H → Prop), wp d 147 14 [l0, some (.int x)] [s0] w 0 Q ↔ wp d 147 15 [l0, some (.int x)] [.int x, s0] w 0 Q) ∧
  (∀ (d : Nat) (l0 l1 : Option Value) (i : Int32) (a : Nat) (w : px_H) (Q : Option Value → px_H → Prop), wp d 147 15 [l0, l1] [.int i, .ref a] w 0 Q ↔ px_op (px_ald w a i .int) (fun x => wp d 147 16 [l0, l1] [.int x] w 0 Q)) ∧
  (∀ (d : Nat) (l0 l1 : Option Value) (x : Int32) (w : px_H) (Q : Option Value → px_H → Prop), wp d 147 16 [l0, l1] [.int x] w 0 Q ↔ if x = 0 then wp d 147 19 [l0, l1] [] w 0 Q else wp d 147 25 [l0, l1] [] w 0 Q) ∧
  (∀ (d : Nat) (l1 : Option Value) (a : Nat) (w : px_H) (Q : Option Value → px_H → Prop), wp d 147 19 [some (.ref a), l1] [] w 0 Q ↔ wp d 147 20 [some (.ref a), l1] [.ref a] w 0 Q) ∧
  (∀ (d : Nat) (l0 l1 : Option Value) (s0 : Value)  (w : px_H) (Q : Option Value → px_H → Prop), wp d 147 20 [l0, l1] [s0] w 0 Q ↔ wp d 147 21 [l0, l1] [.int 1, s0] w 0 Q) ∧
  (∀ (d : Nat) (l0 l1 : Option Value) (v0 : Value) (b : Nat) (w : px_H) (Q : Option Value → px_H → Prop), wp (d + 1) 147 21 [l0, l1] [v0, .ref b] w 0 Q ↔ px_op (px_tgt w b [(11, 141)]) (fun v => wc d v [.ref b, v0] w (fun r w' => wp (d + 1) 147 24 [l0, l1] (r.toList ++ []) w' 0 Q))) ∧
  (∀ (d : Nat) (l0 l1 : Option Value) (x : Int32) (w : px_H) (Q : Option Value → px_H → Prop), wp d 147 24 [l0, l1] [.int x] w 0 Q ↔ Q (some (.int x)) w) ∧
  (∀ (d : Nat) (l1 : Option Value) (a : Nat) (w : px_H) (Q : Option Value → px_H → Prop), wp d 147 25 [some (.ref a), l1] [] w 0 Q ↔ wp d 147 26 [some (.ref a), l1] [.ref a] w 0 Q) ∧
  (∀ (d : Nat) (l0 l1 : Option Value) (a : Nat) (w : px_H) (Q : Option Value → px_H → Prop), wp d 147 26 [l0, l1] [.ref a] w 0 Q ↔ px_op (px_fld w a [(11, 0)] 0) (fun v => wp d 147 29 [l0, l1] [v] w 0 Q)) ∧
  (∀ (d : Nat) (l0 : Option Value) (s0 : Value) (x : Int32) (w : px_H) (Q : Option Value → px_H → Prop), wp d 147 29 [l0, some (.int x)] [s0] w 0 Q ↔ wp d 147 30 [l0, some (.int x)] [.int x, s0] w 0 Q) ∧
  (∀ (d : Nat) (l0 l1 : Option Value) (s0 s1 : Value)  (w : px_H) (Q : Option Value → px_H → Prop), wp d 147 30 [l0, l1] [s0, s1] w 0 Q ↔ wp d 147 31 [l0, l1] [.int 0, s0, s1] w 0 Q) ∧
  (∀ (d : Nat) (l0 l1 : Option Value) (x i : Int32) (a : Nat) (w : px_H) (Q : Option Value → px_H → Prop), wp d 147 31 [l0, l1] [.int x, .int i, .ref a] w 0 Q ↔ px_op (px_ast w a i x .int) (fun w' => wp d 147 32 [l0, l1] [] w' 0 Q)) ∧
  (∀ (d : Nat) (l1 : Option Value) (a : Nat) (w : px_H) (Q : Option Value → px_H → Prop), wp d 147 32 [some (.ref a), l1] [] w 0 Q ↔ wp d 147 33 [some (.ref a), l1] [.ref a] w 0 Q) ∧
  (∀ (d : Nat) (l1 : Option Value) (s0 : Value) (a : Nat) (w : px_H) (Q : Option Value → px_H → Prop), wp d 147 33 [some (.ref a), l1] [s0] w 0 Q ↔ wp d 147 34 [some (.ref a), l1] [.ref a, s0] w 0 Q) ∧
  (∀ (d : Nat) (l0 l1 : Option Value) (s1 : Value) (a : Nat) (w : px_H) (Q : Option Value → px_H → Prop), wp d 147 34 [l0, l1] [.ref a, s1] w 0 Q ↔ px_op (px_fld w a [(11, 0)] 1) (fun v => wp d 147 37 [l0, l1] [v, s1] w 0 Q)) ∧
  (∀ (d : Nat) (l0 : Option Value) (s0 s1 : Value) (x : Int32) (w : px_H) (Q : Option Value → px_H → Prop), wp d 147 37 [l0, some (.int x)] [s0, s1] w 0 Q ↔ wp d 147 38 [l0, some (.int x)] [.int x, s0, s1] w 0 Q) ∧
  (∀ (d : Nat) (l0 l1 : Option Value) (s2 : Value) (i : Int32) (a : Nat) (w : px_H) (Q : Option Value → px_H → Prop), wp d 147 38 [l0, l1] [.int i, .ref a, s2] w 0 Q ↔ px_op (px_ald w a i .int) (fun x => wp d 147 39 [l0, l1] [.int x, s2] w 0 Q)) ∧
  (∀ (d : Nat) (l0 l1 : Option Value) (v0 : Value) (b : Nat) (w : px_H) (Q : Option Value → px_H → Prop), wp (d + 1) 147 39 [l0, l1] [v0, .ref b] w 0 Q ↔ px_op (px_tgt w b [(11, 142)]) (fun v => wc d v [.ref b, v0] w (fun r w' => wp (d + 1) 147 42 [l0, l1] (r.toList ++ []) w' 0 Q))) ∧
  (∀ (d : Nat) (l0 l1 : Option Value) (x : Int32) (w : px_H) (Q : Option Value → px_H → Prop), wp d 147 42 [l0, l1] [.int x] w 0 Q ↔ Q (some (.int x)) w) := ⟨fun d v0 v1 w Q => r_entry pt_147 (Nat.le_of_ble_eq_true rfl) rfl,
  fun d l0 x w Q => px_go (q := (.iload_n 1, 1, px_x0)) (S' := (1, [l0, some (.int x)], [.int x], w, 0)) pt_147 rfl rfl,
  fun d l0 l1 v0 w Q => r_call (q := (.invokestatic 54, 3, (30, 1, [(0, 143)], 0, ""))) pt_147 rfl rfl pt_143 (Nat.le_of_ble_eq_true rfl) (Nat.le_of_ble_eq_true rfl) rfl,
  fun d l0 l1 x w Q => r_if_ne pt_147 rfl rfl,
  fun d l0 l1 w Q => px_go (q := (.ldc 58, 2, (0, 0, [], (-1000001), ""))) (S' := (9, [l0, l1], [.int (-1000001)], w, 0)) pt_147 rfl rfl,
  fun d l0 l1 x w Q => px_ret (q := (.ireturn, 1, px_x0)) pt_147 rfl rfl,
  fun d l1 a w Q => px_go (q := (.aload_n 0, 1, px_x0)) (S' := (11, [some (.ref a), l1], [.ref a], w, 0)) pt_147 rfl rfl,
  fun d l0 l1 a w Q => px_goO (q := (.getfield 7, 3, (10, 0, [(11, 0)], 0, "AllSwornModel"))) (S' := fun v => (14, [l0, l1], [v], w, 0)) pt_147 rfl rfl,
  fun d l0 s0 x w Q => px_go (q := (.iload_n 1, 1, px_x0)) (S' := (15, [l0, some (.int x)], [.int x, s0], w, 0)) pt_147 rfl rfl,
  fun d l0 l1 i a w Q => px_goO (q := (.iaload, 1, px_x0)) (S' := fun x => (16, [l0, l1], [.int x], w, 0)) pt_147 rfl rfl,
  fun d l0 l1 x w Q => r_if_ne pt_147 rfl rfl,
  fun d l1 a w Q => px_go (q := (.aload_n 0, 1, px_x0)) (S' := (20, [some (.ref a), l1], [.ref a], w, 0)) pt_147 rfl rfl,
  fun d l0 l1 s0 w Q => r_iconst pt_147 rfl (by decide),
  fun d l0 l1 v0 b w Q => r_callV (q := (.invokevirtual 59, 3, (33, 1, [(11, 141)], 0, ""))) pt_147 rfl rfl (List.forall_mem_cons.mpr ⟨⟨_, pt_141, Nat.le_of_ble_eq_true rfl, (Nat.le_of_ble_eq_true rfl), rfl⟩, fun _ h => absurd h List.not_mem_nil⟩),
  fun d l0 l1 x w Q => px_ret (q := (.ireturn, 1, px_x0)) pt_147 rfl rfl,
  fun d l1 a w Q => px_go (q := (.aload_n 0, 1, px_x0)) (S' := (26, [some (.ref a), l1], [.ref a], w, 0)) pt_147 rfl rfl,
  fun d l0 l1 a w Q => px_goO (q := (.getfield 7, 3, (10, 0, [(11, 0)], 0, "AllSwornModel"))) (S' := fun v => (29, [l0, l1], [v], w, 0)) pt_147 rfl rfl,
  fun d l0 s0 x w Q => px_go (q := (.iload_n 1, 1, px_x0)) (S' := (30, [l0, some (.int x)], [.int x, s0], w, 0)) pt_147 rfl rfl,
  fun d l0 l1 s0 s1 w Q => r_iconst pt_147 rfl (by decide),
  fun d l0 l1 x i a w Q => px_goO (q := (.iastore, 1, px_x0)) (S' := fun w' => (32, [l0, l1], [], w', 0)) pt_147 rfl rfl,
  fun d l1 a w Q => px_go (q := (.aload_n 0, 1, px_x0)) (S' := (33, [some (.ref a), l1], [.ref a], w, 0)) pt_147 rfl rfl,
  fun d l1 s0 a w Q => px_go (q := (.aload_n 0, 1, px_x0)) (S' := (34, [some (.ref a), l1], [.ref a, s0], w, 0)) pt_147 rfl rfl,
  fun d l0 l1 s1 a w Q => px_goO (q := (.getfield 13, 3, (10, 1, [(11, 0)], 0, "AllSwornModel"))) (S' := fun v => (37, [l0, l1], [v, s1], w, 0)) pt_147 rfl rfl,
  fun d l0 s0 s1 x w Q => px_go (q := (.iload_n 1, 1, px_x0)) (S' := (38, [l0, some (.int x)], [.int x, s0, s1], w, 0)) pt_147 rfl rfl,
  fun d l0 l1 s2 i a w Q => px_goO (q := (.iaload, 1, px_x0)) (S' := fun x => (39, [l0, l1], [.int x, s2], w, 0)) pt_147 rfl rfl,
  fun d l0 l1 v0 b w Q => r_callV (q := (.invokevirtual 63, 3, (33, 1, [(11, 142)], 0, ""))) pt_147 rfl rfl (List.forall_mem_cons.mpr ⟨⟨_, pt_142, Nat.le_of_ble_eq_true rfl, (Nat.le_of_ble_eq_true rfl), rfl⟩, fun _ h => absurd h List.not_mem_nil⟩),
  fun d l0 l1 x w Q => px_ret (q := (.ireturn, 1, px_x0)) pt_147 rfl rfl⟩
/-- AllSwornModel.status()I -/
theorem S148 : (∀ (d : Nat) (v0 : Value) (w : px_H) (Q : Option Value → px_H → Prop), wc d 148 [v0] w Q ↔ wp d 148 0 [some v0] [] w 0 Q) ∧
  (∀ (d : Nat) (a : Nat) (w : px_H) (Q : Option Value → px_H → Prop), wp d 148 0 [some (.ref a)] [] w 0 Q ↔ wp d 148 1 [some (.ref a)] [.ref a] w 0 Q) ∧
  (∀ (d : Nat) (l0 : Option Value) (a : Nat) (w : px_H) (Q : Option Value → px_H → Prop), wp d 148 1 [l0] [.ref a] w 0 Q ↔ px_op (px_fld w a [(11, 0)] 3) (fun v => wp d 148 4 [l0] [v] w 0 Q)) ∧
  (∀ (d : Nat) (l0 : Option Value) (x : Int32) (w : px_H) (Q : Option Value → px_H → Prop), wp d 148 4 [l0] [.int x] w 0 Q ↔ Q (some (.int x)) w) := ⟨fun d v0 w Q => r_entry pt_148 (Nat.le_of_ble_eq_true rfl) rfl,
  fun d a w Q => px_go (q := (.aload_n 0, 1, px_x0)) (S' := (1, [some (.ref a)], [.ref a], w, 0)) pt_148 rfl rfl,
  fun d l0 a w Q => px_goO (q := (.getfield 46, 3, (10, 3, [(11, 0)], 0, "AllSwornModel"))) (S' := fun v => (4, [l0], [v], w, 0)) pt_148 rfl rfl,
  fun d l0 x w Q => px_ret (q := (.ireturn, 1, px_x0)) pt_148 rfl rfl⟩
/-- AllSwornModel.get(I)I -/
theorem S149 : (∀ (d : Nat) (v0 v1 : Value) (w : px_H) (Q : Option Value → px_H → Prop), wc d 149 [v0, v1] w Q ↔ wp d 149 0 [some v0, some v1] [] w 0 Q) ∧
  (∀ (d : Nat) (l1 : Option Value) (a : Nat) (w : px_H) (Q : Option Value → px_H → Prop), wp d 149 0 [some (.ref a), l1] [] w 0 Q ↔ wp d 149 1 [some (.ref a), l1] [.ref a] w 0 Q) ∧
  (∀ (d : Nat) (l0 l1 : Option Value) (a : Nat) (w : px_H) (Q : Option Value → px_H → Prop), wp d 149 1 [l0, l1] [.ref a] w 0 Q ↔ px_op (px_fld w a [(11, 0)] 4) (fun v => wp d 149 4 [l0, l1] [v] w 0 Q)) ∧
  (∀ (d : Nat) (l1 : Option Value) (s0 : Value) (a : Nat) (w : px_H) (Q : Option Value → px_H → Prop), wp d 149 4 [some (.ref a), l1] [s0] w 0 Q ↔ wp d 149 5 [some (.ref a), l1] [.ref a, s0] w 0 Q) ∧
  (∀ (d : Nat) (l0 l1 : Option Value) (s1 : Value) (a : Nat) (w : px_H) (Q : Option Value → px_H → Prop), wp d 149 5 [l0, l1] [.ref a, s1] w 0 Q ↔ px_op (px_fld w a [(11, 0)] 5) (fun v => wp d 149 8 [l0, l1] [v, s1] w 0 Q)) ∧
  (∀ (d : Nat) (l0 : Option Value) (s0 s1 : Value) (x : Int32) (w : px_H) (Q : Option Value → px_H → Prop), wp d 149 8 [l0, some (.int x)] [s0, s1] w 0 Q ↔ wp d 149 9 [l0, some (.int x)] [.int x, s0, s1] w 0 Q) ∧
  (∀ (d : Nat) (l0 l1 : Option Value) (s2 : Value) (x y : Int32) (w : px_H) (Q : Option Value → px_H → Prop), wp d 149 9 [l0, l1] [.int y, .int x, s2] w 0 Q ↔ wp d 149 10 [l0, l1] [.int (x + y), s2] w 0 Q) ∧
  (∀ (d : Nat) (l0 l1 : Option Value) (i : Int32) (a : Nat) (w : px_H) (Q : Option Value → px_H → Prop), wp d 149 10 [l0, l1] [.int i, .ref a] w 0 Q ↔ px_op (px_ald w a i .int) (fun x => wp d 149 11 [l0, l1] [.int x] w 0 Q)) ∧
  (∀ (d : Nat) (l0 l1 : Option Value) (x : Int32) (w : px_H) (Q : Option Value → px_H → Prop), wp d 149 11 [l0, l1] [.int x] w 0 Q ↔ Q (some (.int x)) w) := ⟨fun d v0 v1 w Q => r_entry pt_149 (Nat.le_of_ble_eq_true rfl) rfl,
  fun d l1 a w Q => px_go (q := (.aload_n 0, 1, px_x0)) (S' := (1, [some (.ref a), l1], [.ref a], w, 0)) pt_149 rfl rfl,
  fun d l0 l1 a w Q => px_goO (q := (.getfield 19, 3, (10, 4, [(11, 0)], 0, "AllSwornModel"))) (S' := fun v => (4, [l0, l1], [v], w, 0)) pt_149 rfl rfl,
  fun d l1 s0 a w Q => px_go (q := (.aload_n 0, 1, px_x0)) (S' := (5, [some (.ref a), l1], [.ref a, s0], w, 0)) pt_149 rfl rfl,
  fun d l0 l1 s1 a w Q => px_goO (q := (.getfield 66, 3, (10, 5, [(11, 0)], 0, "AllSwornModel"))) (S' := fun v => (8, [l0, l1], [v, s1], w, 0)) pt_149 rfl rfl,
  fun d l0 s0 s1 x w Q => px_go (q := (.iload_n 1, 1, px_x0)) (S' := (9, [l0, some (.int x)], [.int x, s0, s1], w, 0)) pt_149 rfl rfl,
  fun d l0 l1 s2 x y w Q => px_go (q := (.iadd, 1, px_x0)) (S' := (10, [l0, l1], [.int (x + y), s2], w, 0)) pt_149 rfl rfl,
  fun d l0 l1 i a w Q => px_goO (q := (.iaload, 1, px_x0)) (S' := fun x => (11, [l0, l1], [.int x], w, 0)) pt_149 rfl rfl,
  fun d l0 l1 x w Q => px_ret (q := (.ireturn, 1, px_x0)) pt_149 rfl rfl⟩
/-- AllSwornModel.put(II)V -/
theorem S150 : (∀ (d : Nat) (v0 v1 v2 : Value) (w : px_H) (Q : Option Value → px_H → Prop), wc d 150 [v0, v1, v2] w Q ↔ wp d 150 0 [some v0, some v1, some v2] [] w 0 Q) ∧
  (∀ (d : Nat) (l1 l2 : Option Value) (a : Nat) (w : px_H) (Q : Option Value → px_H → Prop), wp d 150 0 [some (.ref a), l1, l2] [] w 0 Q ↔ wp d 150 1 [some (.ref a), l1, l2] [.ref a] w 0 Q) ∧
  (∀ (d : Nat) (l0 l1 l2 : Option Value) (a : Nat) (w : px_H) (Q : Option Value → px_H → Prop), wp d 150 1 [l0, l1, l2] [.ref a] w 0 Q ↔ px_op (px_fld w a [(11, 0)] 4) (fun v => wp d 150 4 [l0, l1, l2] [v] w 0 Q)) ∧
  (∀ (d : Nat) (l1 l2 : Option Value) (s0 : Value) (a : Nat) (w : px_H) (Q : Option Value → px_H → Prop), wp d 150 4 [some (.ref a), l1, l2] [s0] w 0 Q ↔ wp d 150 5 [some (.ref a), l1, l2] [.ref a, s0] w 0 Q) ∧
  (∀ (d : Nat) (l0 l1 l2 : Option Value) (s1 : Value) (a : Nat) (w : px_H) (Q : Option Value → px_H → Prop), wp d 150 5 [l0, l1, l2] [.ref a, s1] w 0 Q ↔ px_op (px_fld w a [(11, 0)] 5) (fun v => wp d 150 8 [l0, l1, l2] [v, s1] w 0 Q)) ∧
  (∀ (d : Nat) (l0 l2 : Option Value) (s0 s1 : Value) (x : Int32) (w : px_H) (Q : Option Value → px_H → Prop), wp d 150 8 [l0, some (.int x), l2] [s0, s1] w 0 Q ↔ wp d 150 9 [l0, some (.int x), l2] [.int x, s0, s1] w 0 Q) ∧
  (∀ (d : Nat) (l0 l1 l2 : Option Value) (s2 : Value) (x y : Int32) (w : px_H) (Q : Option Value → px_H → Prop), wp d 150 9 [l0, l1, l2] [.int y, .int x, s2] w 0 Q ↔ wp d 150 10 [l0, l1, l2] [.int (x + y), s2] w 0 Q) ∧
  (∀ (d : Nat) (l0 l1 : Option Value) (s0 s1 : Value) (x : Int32) (w : px_H) (Q : Option Value → px_H → Prop), wp d 150 10 [l0, l1, some (.int x)] [s0, s1] w 0 Q ↔ wp d 150 11 [l0, l1, some (.int x)] [.int x, s0, s1] w 0 Q) ∧
  (∀ (d : Nat) (l0 l1 l2 : Option Value) (x i : Int32) (a : Nat) (w : px_H) (Q : Option Value → px_H → Prop), wp d 150 11 [l0, l1, l2] [.int x, .int i, .ref a] w 0 Q ↔ px_op (px_ast w a i x .int) (fun w' => wp d 150 12 [l0, l1, l2] [] w' 0 Q)) ∧
  (∀ (d : Nat) (l0 l1 l2 : Option Value)  (w : px_H) (Q : Option Value → px_H → Prop), wp d 150 12 [l0, l1, l2] [] w 0 Q ↔ Q none w) := ⟨fun d v0 v1 v2 w Q => r_entry pt_150 (Nat.le_of_ble_eq_true rfl) rfl,
  fun d l1 l2 a w Q => px_go (q := (.aload_n 0, 1, px_x0)) (S' := (1, [some (.ref a), l1, l2], [.ref a], w, 0)) pt_150 rfl rfl,
  fun d l0 l1 l2 a w Q => px_goO (q := (.getfield 19, 3, (10, 4, [(11, 0)], 0, "AllSwornModel"))) (S' := fun v => (4, [l0, l1, l2], [v], w, 0)) pt_150 rfl rfl,
  fun d l1 l2 s0 a w Q => px_go (q := (.aload_n 0, 1, px_x0)) (S' := (5, [some (.ref a), l1, l2], [.ref a, s0], w, 0)) pt_150 rfl rfl,
  fun d l0 l1 l2 s1 a w Q => px_goO (q := (.getfield 66, 3, (10, 5, [(11, 0)], 0, "AllSwornModel"))) (S' := fun v => (8, [l0, l1, l2], [v, s1], w, 0)) pt_150 rfl rfl,
  fun d l0 l2 s0 s1 x w Q => px_go (q := (.iload_n 1, 1, px_x0)) (S' := (9, [l0, some (.int x), l2], [.int x, s0, s1], w, 0)) pt_150 rfl rfl,
  fun d l0 l1 l2 s2 x y w Q => px_go (q := (.iadd, 1, px_x0)) (S' := (10, [l0, l1, l2], [.int (x + y), s2], w, 0)) pt_150 rfl rfl,
  fun d l0 l1 s0 s1 x w Q => px_go (q := (.iload_n 2, 1, px_x0)) (S' := (11, [l0, l1, some (.int x)], [.int x, s0, s1], w, 0)) pt_150 rfl rfl,
  fun d l0 l1 l2 x i a w Q => px_goO (q := (.iastore, 1, px_x0)) (S' := fun w' => (12, [l0, l1, l2], [], w', 0)) pt_150 rfl rfl,
  fun d l0 l1 l2 w Q => px_ret (q := (.return_, 1, px_x0)) pt_150 rfl rfl⟩
/-- AllSwornModel.copyRealm(II)V heads: [2] -/
theorem S151 : (∀ (d : Nat) (v0 v1 v2 : Value) (w : px_H) (Q : Option Value → px_H → Prop), wc d 151 [v0, v1, v2] w Q ↔ wp d 151 0 [some v0, some v1, some v2, none] [] w 0 Q) ∧
  (∀ (d : Nat) (l0 l1 l2 l3 : Option Value)  (w : px_H) (Q : Option Value → px_H → Prop), wp d 151 0 [l0, l1, l2, l3] [] w 0 Q ↔ wp d 151 1 [l0, l1, l2, l3] [.int 0] w 0 Q) ∧
  (∀ (d : Nat) (l0 l1 l2 l3 : Option Value) (x : Int32) (w : px_H) (Q : Option Value → px_H → Prop), wp d 151 1 [l0, l1, l2, l3] [.int x] w 0 Q ↔ wp d 151 2 [l0, l1, l2, some (.int x)] [] w 0 Q) ∧
  (∀ (d : Nat) (l0 l1 l2 l3 : Option Value) (s0 : Value)  (w : px_H) (Q : Option Value → px_H → Prop), wp d 151 3 [l0, l1, l2, l3] [s0] w 0 Q ↔ wp d 151 5 [l0, l1, l2, l3] [.int 45, s0] w 0 Q) ∧
  (∀ (d : Nat) (l0 l1 l2 l3 : Option Value) (x y : Int32) (w : px_H) (Q : Option Value → px_H → Prop), wp d 151 5 [l0, l1, l2, l3] [.int y, .int x] w 0 Q ↔ if y ≤ x then wp d 151 36 [l0, l1, l2, l3] [] w 0 Q else wp d 151 8 [l0, l1, l2, l3] [] w 0 Q) ∧
  (∀ (d : Nat) (l1 l2 l3 : Option Value) (a : Nat) (w : px_H) (Q : Option Value → px_H → Prop), wp d 151 8 [some (.ref a), l1, l2, l3] [] w 0 Q ↔ wp d 151 9 [some (.ref a), l1, l2, l3] [.ref a] w 0 Q) ∧
  (∀ (d : Nat) (l0 l1 l2 l3 : Option Value) (a : Nat) (w : px_H) (Q : Option Value → px_H → Prop), wp d 151 9 [l0, l1, l2, l3] [.ref a] w 0 Q ↔ px_op (px_fld w a [(11, 0)] 4) (fun v => wp d 151 12 [l0, l1, l2, l3] [v] w 0 Q)) ∧
  (∀ (d : Nat) (l0 l1 l2 l3 : Option Value) (s0 : Value)  (w : px_H) (Q : Option Value → px_H → Prop), wp d 151 12 [l0, l1, l2, l3] [s0] w 0 Q ↔ wp d 151 14 [l0, l1, l2, l3] [.int 45, s0] w 0 Q) ∧
  (∀ (d : Nat) (l0 l1 l3 : Option Value) (s0 s1 : Value) (x : Int32) (w : px_H) (Q : Option Value → px_H → Prop), wp d 151 14 [l0, l1, some (.int x), l3] [s0, s1] w 0 Q ↔ wp d 151 15 [l0, l1, some (.int x), l3] [.int x, s0, s1] w 0 Q) ∧
  (∀ (d : Nat) (l0 l1 l2 l3 : Option Value) (s2 : Value) (x y : Int32) (w : px_H) (Q : Option Value → px_H → Prop), wp d 151 15 [l0, l1, l2, l3] [.int y, .int x, s2] w 0 Q ↔ wp d 151 16 [l0, l1, l2, l3] [.int (x * y), s2] w 0 Q) ∧
  (∀ (d : Nat) (l0 l1 l2 : Option Value) (s0 s1 : Value) (x : Int32) (w : px_H) (Q : Option Value → px_H → Prop), wp d 151 16 [l0, l1, l2, some (.int x)] [s0, s1] w 0 Q ↔ wp d 151 17 [l0, l1, l2, some (.int x)] [.int x, s0, s1] w 0 Q) ∧
  (∀ (d : Nat) (l0 l1 l2 l3 : Option Value) (s2 : Value) (x y : Int32) (w : px_H) (Q : Option Value → px_H → Prop), wp d 151 17 [l0, l1, l2, l3] [.int y, .int x, s2] w 0 Q ↔ wp d 151 18 [l0, l1, l2, l3] [.int (x + y), s2] w 0 Q) ∧
  (∀ (d : Nat) (l1 l2 l3 : Option Value) (s0 s1 : Value) (a : Nat) (w : px_H) (Q : Option Value → px_H → Prop), wp d 151 18 [some (.ref a), l1, l2, l3] [s0, s1] w 0 Q ↔ wp d 151 19 [some (.ref a), l1, l2, l3] [.ref a, s0, s1] w 0 Q) ∧
  (∀ (d : Nat) (l0 l1 l2 l3 : Option Value) (s1 s2 : Value) (a : Nat) (w : px_H) (Q : Option Value → px_H → Prop), wp d 151 19 [l0, l1, l2, l3] [.ref a, s1, s2] w 0 Q ↔ px_op (px_fld w a [(11, 0)] 4) (fun v => wp d 151 22 [l0, l1, l2, l3] [v, s1, s2] w 0 Q)) ∧
  (∀ (d : Nat) (l0 l1 l2 l3 : Option Value) (s0 s1 s2 : Value)  (w : px_H) (Q : Option Value → px_H → Prop), wp d 151 22 [l0, l1, l2, l3] [s0, s1, s2] w 0 Q ↔ wp d 151 24 [l0, l1, l2, l3] [.int 45, s0, s1, s2] w 0 Q) ∧
  (∀ (d : Nat) (l0 l2 l3 : Option Value) (s0 s1 s2 s3 : Value) (x : Int32) (w : px_H) (Q : Option Value → px_H → Prop), wp d 151 24 [l0, some (.int x), l2, l3] [s0, s1, s2, s3] w 0 Q ↔ wp d 151 25 [l0, some (.int x), l2, l3] [.int x, s0, s1, s2, s3] w 0 Q) ∧
  (∀ (d : Nat) (l0 l1 l2 l3 : Option Value) (s2 s3 s4 : Value) (x y : Int32) (w : px_H) (Q : Option Value → px_H → Prop), wp d 151 25 [l0, l1, l2, l3] [.int y, .int x, s2, s3, s4] w 0 Q ↔ wp d 151 26 [l0, l1, l2, l3] [.int (x * y), s2, s3, s4] w 0 Q) ∧
  (∀ (d : Nat) (l0 l1 l2 : Option Value) (s0 s1 s2 s3 : Value) (x : Int32) (w : px_H) (Q : Option Value → px_H → Prop), wp d 151 26 [l0, l1, l2, some (.int x)] [s0, s1, s2, s3] w 0 Q ↔ wp d 151 27 [l0, l1, l2, some (.int x)] [.int x, s0, s1, s2, s3] w 0 Q) ∧
  (∀ (d : Nat) (l0 l1 l2 l3 : Option Value) (s2 s3 s4 : Value) (x y : Int32) (w : px_H) (Q : Option Value → px_H → Prop), wp d 151 27 [l0, l1, l2, l3] [.int y, .int x, s2, s3, s4] w 0 Q ↔ wp d 151 28 [l0, l1, l2, l3] [.int (x + y), s2, s3, s4] w 0 Q) ∧
  (∀ (d : Nat) (l0 l1 l2 l3 : Option Value) (s2 s3 : Value) (i : Int32) (a : Nat) (w : px_H) (Q : Option Value → px_H → Prop), wp d 151 28 [l0, l1, l2, l3] [.int i, .ref a, s2, s3] w 0 Q ↔ px_op (px_ald w a i .int) (fun x => wp d 151 29 [l0, l1, l2, l3] [.int x, s2, s3] w 0 Q)) ∧
  (∀ (d : Nat) (l0 l1 l2 l3 : Option Value) (x i : Int32) (a : Nat) (w : px_H) (Q : Option Value → px_H → Prop), wp d 151 29 [l0, l1, l2, l3] [.int x, .int i, .ref a] w 0 Q ↔ px_op (px_ast w a i x .int) (fun w' => wp d 151 30 [l0, l1, l2, l3] [] w' 0 Q)) ∧
  (∀ (d : Nat) (l0 l1 l2 : Option Value) (x : Int32) (w : px_H) (Q : Option Value → px_H → Prop), wp d 151 30 [l0, l1, l2, some (.int x)] [] w 0 Q ↔ wp d 151 33 [l0, l1, l2, some (.int (x + 1))] [] w 0 Q) ∧
  (∀ (d : Nat) (l0 l1 l2 l3 : Option Value)  (w : px_H) (Q : Option Value → px_H → Prop), wp d 151 33 [l0, l1, l2, l3] [] w 0 Q ↔ wp d 151 2 [l0, l1, l2, l3] [] w 0 Q) ∧
  (∀ (d : Nat) (l0 l1 l2 l3 : Option Value)  (w : px_H) (Q : Option Value → px_H → Prop), wp d 151 36 [l0, l1, l2, l3] [] w 0 Q ↔ Q none w) := ⟨fun d v0 v1 v2 w Q => r_entry pt_151 (Nat.le_of_ble_eq_true rfl) rfl,
  fun d l0 l1 l2 l3 w Q => r_iconst pt_151 rfl (by decide),
  fun d l0 l1 l2 l3 x w Q => px_go (q := (.istore_n 3, 1, px_x0)) (S' := (2, [l0, l1, l2, some (.int x)], [], w, 0)) pt_151 rfl rfl,
  fun d l0 l1 l2 l3 s0 w Q => r_bipush pt_151 rfl (by decide),
  fun d l0 l1 l2 l3 x y w Q => r_icmp_ge pt_151 rfl rfl,
  fun d l1 l2 l3 a w Q => px_go (q := (.aload_n 0, 1, px_x0)) (S' := (9, [some (.ref a), l1, l2, l3], [.ref a], w, 0)) pt_151 rfl rfl,
  fun d l0 l1 l2 l3 a w Q => px_goO (q := (.getfield 19, 3, (10, 4, [(11, 0)], 0, "AllSwornModel"))) (S' := fun v => (12, [l0, l1, l2, l3], [v], w, 0)) pt_151 rfl rfl,
  fun d l0 l1 l2 l3 s0 w Q => r_bipush pt_151 rfl (by decide),
  fun d l0 l1 l3 s0 s1 x w Q => px_go (q := (.iload_n 2, 1, px_x0)) (S' := (15, [l0, l1, some (.int x), l3], [.int x, s0, s1], w, 0)) pt_151 rfl rfl,
  fun d l0 l1 l2 l3 s2 x y w Q => px_go (q := (.imul, 1, px_x0)) (S' := (16, [l0, l1, l2, l3], [.int (x * y), s2], w, 0)) pt_151 rfl rfl,
  fun d l0 l1 l2 s0 s1 x w Q => px_go (q := (.iload_n 3, 1, px_x0)) (S' := (17, [l0, l1, l2, some (.int x)], [.int x, s0, s1], w, 0)) pt_151 rfl rfl,
  fun d l0 l1 l2 l3 s2 x y w Q => px_go (q := (.iadd, 1, px_x0)) (S' := (18, [l0, l1, l2, l3], [.int (x + y), s2], w, 0)) pt_151 rfl rfl,
  fun d l1 l2 l3 s0 s1 a w Q => px_go (q := (.aload_n 0, 1, px_x0)) (S' := (19, [some (.ref a), l1, l2, l3], [.ref a, s0, s1], w, 0)) pt_151 rfl rfl,
  fun d l0 l1 l2 l3 s1 s2 a w Q => px_goO (q := (.getfield 19, 3, (10, 4, [(11, 0)], 0, "AllSwornModel"))) (S' := fun v => (22, [l0, l1, l2, l3], [v, s1, s2], w, 0)) pt_151 rfl rfl,
  fun d l0 l1 l2 l3 s0 s1 s2 w Q => r_bipush pt_151 rfl (by decide),
  fun d l0 l2 l3 s0 s1 s2 s3 x w Q => px_go (q := (.iload_n 1, 1, px_x0)) (S' := (25, [l0, some (.int x), l2, l3], [.int x, s0, s1, s2, s3], w, 0)) pt_151 rfl rfl,
  fun d l0 l1 l2 l3 s2 s3 s4 x y w Q => px_go (q := (.imul, 1, px_x0)) (S' := (26, [l0, l1, l2, l3], [.int (x * y), s2, s3, s4], w, 0)) pt_151 rfl rfl,
  fun d l0 l1 l2 s0 s1 s2 s3 x w Q => px_go (q := (.iload_n 3, 1, px_x0)) (S' := (27, [l0, l1, l2, some (.int x)], [.int x, s0, s1, s2, s3], w, 0)) pt_151 rfl rfl,
  fun d l0 l1 l2 l3 s2 s3 s4 x y w Q => px_go (q := (.iadd, 1, px_x0)) (S' := (28, [l0, l1, l2, l3], [.int (x + y), s2, s3, s4], w, 0)) pt_151 rfl rfl,
  fun d l0 l1 l2 l3 s2 s3 i a w Q => px_goO (q := (.iaload, 1, px_x0)) (S' := fun x => (29, [l0, l1, l2, l3], [.int x, s2, s3], w, 0)) pt_151 rfl rfl,
  fun d l0 l1 l2 l3 x i a w Q => px_goO (q := (.iastore, 1, px_x0)) (S' := fun w' => (30, [l0, l1, l2, l3], [], w', 0)) pt_151 rfl rfl,
  fun d l0 l1 l2 x w Q => r_iinc pt_151 rfl rfl (by decide) rfl,
  fun d l0 l1 l2 l3 w Q => r_goto pt_151 rfl rfl,
  fun d l0 l1 l2 l3 w Q => px_ret (q := (.return_, 1, px_x0)) pt_151 rfl rfl⟩
theorem H151_2 : ∀ (d : Nat) (l0 l1 l2 : Option Value) (x : Int32) (w : px_H) (Q : Option Value → px_H → Prop), wp d 151 2 [l0, l1, l2, some (.int x)] [] w 0 Q ↔ wp d 151 3 [l0, l1, l2, some (.int x)] [.int x] w 0 Q := fun d l0 l1 l2 x w Q => px_go (q := (.iload_n 3, 1, px_x0)) (S' := (3, [l0, l1, l2, some (.int x)], [.int x], w, 0)) pt_151 rfl rfl
/-- AllSwornModel.isThing(I)Z -/
theorem S152 : (∀ (d : Nat) (v0 v1 : Value) (w : px_H) (Q : Option Value → px_H → Prop), wc d 152 [v0, v1] w Q ↔ wp d 152 0 [some v0, some v1] [] w 0 Q) ∧
  (∀ (d : Nat) (l0 : Option Value) (x : Int32) (w : px_H) (Q : Option Value → px_H → Prop), wp d 152 0 [l0, some (.int x)] [] w 0 Q ↔ wp d 152 1 [l0, some (.int x)] [.int x] w 0 Q) ∧
  (∀ (d : Nat) (l0 l1 : Option Value) (s0 : Value)  (w : px_H) (Q : Option Value → px_H → Prop), wp d 152 1 [l0, l1] [s0] w 0 Q ↔ wp d 152 2 [l0, l1] [.int 0, s0] w 0 Q) ∧
  (∀ (d : Nat) (l1 : Option Value) (s0 s1 : Value) (a : Nat) (w : px_H) (Q : Option Value → px_H → Prop), wp d 152 2 [some (.ref a), l1] [s0, s1] w 0 Q ↔ wp d 152 3 [some (.ref a), l1] [.ref a, s0, s1] w 0 Q) ∧
  (∀ (d : Nat) (l0 l1 : Option Value) (s0 s1 s2 : Value)  (w : px_H) (Q : Option Value → px_H → Prop), wp d 152 3 [l0, l1] [s0, s1, s2] w 0 Q ↔ wp d 152 4 [l0, l1] [.int 1, s0, s1, s2] w 0 Q) ∧
  (∀ (d : Nat) (l0 l1 : Option Value) (s2 s3 : Value) (v0 : Value) (b : Nat) (w : px_H) (Q : Option Value → px_H → Prop), wp (d + 1) 152 4 [l0, l1] [v0, .ref b, s2, s3] w 0 Q ↔ px_op (px_tgt w b [(11, 149)]) (fun v => wc d v [.ref b, v0] w (fun r w' => wp (d + 1) 152 7 [l0, l1] (r.toList ++ [s2, s3]) w' 0 Q))) ∧
  (∀ (d : Nat) (l0 l1 : Option Value) (s0 s1 s2 : Value)  (w : px_H) (Q : Option Value → px_H → Prop), wp d 152 7 [l0, l1] [s0, s1, s2] w 0 Q ↔ wp d 152 8 [l0, l1] [.int 1, s0, s1, s2] w 0 Q) ∧
  (∀ (d : Nat) (l0 l1 : Option Value) (s2 s3 : Value) (x y : Int32) (w : px_H) (Q : Option Value → px_H → Prop), wp d 152 8 [l0, l1] [.int y, .int x, s2, s3] w 0 Q ↔ wp d 152 9 [l0, l1] [.int (x - y), s2, s3] w 0 Q) ∧
  (∀ (d : Nat) (l0 l1 : Option Value) (v0 v1 v2 : Value) (w : px_H) (Q : Option Value → px_H → Prop), wp (d + 1) 152 9 [l0, l1] [v2, v1, v0] w 0 Q ↔ wc d 140 [v0, v1, v2] w (fun r w' => wp (d + 1) 152 12 [l0, l1] (r.toList ++ []) w' 0 Q)) ∧
  (∀ (d : Nat) (l0 l1 : Option Value) (x : Int32) (w : px_H) (Q : Option Value → px_H → Prop), wp d 152 12 [l0, l1] [.int x] w 0 Q ↔ (x = 0 ∨ x = 1) ∧ Q (some (.int x)) w) := ⟨fun d v0 v1 w Q => r_entry pt_152 (Nat.le_of_ble_eq_true rfl) rfl,
  fun d l0 x w Q => px_go (q := (.iload_n 1, 1, px_x0)) (S' := (1, [l0, some (.int x)], [.int x], w, 0)) pt_152 rfl rfl,
  fun d l0 l1 s0 w Q => r_iconst pt_152 rfl (by decide),
  fun d l1 s0 s1 a w Q => px_go (q := (.aload_n 0, 1, px_x0)) (S' := (3, [some (.ref a), l1], [.ref a, s0, s1], w, 0)) pt_152 rfl rfl,
  fun d l0 l1 s0 s1 s2 w Q => r_iconst pt_152 rfl (by decide),
  fun d l0 l1 s2 s3 v0 b w Q => r_callV (q := (.invokevirtual 69, 3, (33, 1, [(11, 149)], 0, ""))) pt_152 rfl rfl (List.forall_mem_cons.mpr ⟨⟨_, pt_149, Nat.le_of_ble_eq_true rfl, (Nat.le_of_ble_eq_true rfl), rfl⟩, fun _ h => absurd h List.not_mem_nil⟩),
  fun d l0 l1 s0 s1 s2 w Q => r_iconst pt_152 rfl (by decide),
  fun d l0 l1 s2 s3 x y w Q => px_go (q := (.isub, 1, px_x0)) (S' := (9, [l0, l1], [.int (x - y), s2, s3], w, 0)) pt_152 rfl rfl,
  fun d l0 l1 v0 v1 v2 w Q => r_call (q := (.invokestatic 50, 3, (30, 3, [(0, 140)], 0, ""))) pt_152 rfl rfl pt_140 (Nat.le_of_ble_eq_true rfl) (Nat.le_of_ble_eq_true rfl) rfl,
  fun d l0 l1 x w Q => px_retI (q := (.ireturn, 1, px_x0)) pt_152 rfl rfl⟩
/-- AllSwornModel.isHarm(I)Z -/
theorem S153 : (∀ (d : Nat) (v0 v1 : Value) (w : px_H) (Q : Option Value → px_H → Prop), wc d 153 [v0, v1] w Q ↔ wp d 153 0 [some v0, some v1] [] w 0 Q) ∧
  (∀ (d : Nat) (l0 : Option Value) (x : Int32) (w : px_H) (Q : Option Value → px_H → Prop), wp d 153 0 [l0, some (.int x)] [] w 0 Q ↔ wp d 153 1 [l0, some (.int x)] [.int x] w 0 Q) ∧
  (∀ (d : Nat) (l0 l1 : Option Value) (s0 : Value)  (w : px_H) (Q : Option Value → px_H → Prop), wp d 153 1 [l0, l1] [s0] w 0 Q ↔ wp d 153 2 [l0, l1] [.int 0, s0] w 0 Q) ∧
  (∀ (d : Nat) (l1 : Option Value) (s0 s1 : Value) (a : Nat) (w : px_H) (Q : Option Value → px_H → Prop), wp d 153 2 [some (.ref a), l1] [s0, s1] w 0 Q ↔ wp d 153 3 [some (.ref a), l1] [.ref a, s0, s1] w 0 Q) ∧
  (∀ (d : Nat) (l0 l1 : Option Value) (s0 s1 s2 : Value)  (w : px_H) (Q : Option Value → px_H → Prop), wp d 153 3 [l0, l1] [s0, s1, s2] w 0 Q ↔ wp d 153 4 [l0, l1] [.int 2, s0, s1, s2] w 0 Q) ∧
  (∀ (d : Nat) (l0 l1 : Option Value) (s2 s3 : Value) (v0 : Value) (b : Nat) (w : px_H) (Q : Option Value → px_H → Prop), wp (d + 1) 153 4 [l0, l1] [v0, .ref b, s2, s3] w 0 Q ↔ px_op (px_tgt w b [(11, 149)]) (fun v => wc d v [.ref b, v0] w (fun r w' => wp (d + 1) 153 7 [l0, l1] (r.toList ++ [s2, s3]) w' 0 Q))) ∧
  (∀ (d : Nat) (l0 l1 : Option Value) (s0 s1 s2 : Value)  (w : px_H) (Q : Option Value → px_H → Prop), wp d 153 7 [l0, l1] [s0, s1, s2] w 0 Q ↔ wp d 153 8 [l0, l1] [.int 1, s0, s1, s2] w 0 Q) ∧
  (∀ (d : Nat) (l0 l1 : Option Value) (s2 s3 : Value) (x y : Int32) (w : px_H) (Q : Option Value → px_H → Prop), wp d 153 8 [l0, l1] [.int y, .int x, s2, s3] w 0 Q ↔ wp d 153 9 [l0, l1] [.int (x - y), s2, s3] w 0 Q) ∧
  (∀ (d : Nat) (l0 l1 : Option Value) (v0 v1 v2 : Value) (w : px_H) (Q : Option Value → px_H → Prop), wp (d + 1) 153 9 [l0, l1] [v2, v1, v0] w 0 Q ↔ wc d 140 [v0, v1, v2] w (fun r w' => wp (d + 1) 153 12 [l0, l1] (r.toList ++ []) w' 0 Q)) ∧
  (∀ (d : Nat) (l0 l1 : Option Value) (x : Int32) (w : px_H) (Q : Option Value → px_H → Prop), wp d 153 12 [l0, l1] [.int x] w 0 Q ↔ (x = 0 ∨ x = 1) ∧ Q (some (.int x)) w) := ⟨fun d v0 v1 w Q => r_entry pt_153 (Nat.le_of_ble_eq_true rfl) rfl,
  fun d l0 x w Q => px_go (q := (.iload_n 1, 1, px_x0)) (S' := (1, [l0, some (.int x)], [.int x], w, 0)) pt_153 rfl rfl,
  fun d l0 l1 s0 w Q => r_iconst pt_153 rfl (by decide),
  fun d l1 s0 s1 a w Q => px_go (q := (.aload_n 0, 1, px_x0)) (S' := (3, [some (.ref a), l1], [.ref a, s0, s1], w, 0)) pt_153 rfl rfl,
  fun d l0 l1 s0 s1 s2 w Q => r_iconst pt_153 rfl (by decide),
  fun d l0 l1 s2 s3 v0 b w Q => r_callV (q := (.invokevirtual 69, 3, (33, 1, [(11, 149)], 0, ""))) pt_153 rfl rfl (List.forall_mem_cons.mpr ⟨⟨_, pt_149, Nat.le_of_ble_eq_true rfl, (Nat.le_of_ble_eq_true rfl), rfl⟩, fun _ h => absurd h List.not_mem_nil⟩),
  fun d l0 l1 s0 s1 s2 w Q => r_iconst pt_153 rfl (by decide),
  fun d l0 l1 s2 s3 x y w Q => px_go (q := (.isub, 1, px_x0)) (S' := (9, [l0, l1], [.int (x - y), s2, s3], w, 0)) pt_153 rfl rfl,
  fun d l0 l1 v0 v1 v2 w Q => r_call (q := (.invokestatic 50, 3, (30, 3, [(0, 140)], 0, ""))) pt_153 rfl rfl pt_140 (Nat.le_of_ble_eq_true rfl) (Nat.le_of_ble_eq_true rfl) rfl,
  fun d l0 l1 x w Q => px_retI (q := (.ireturn, 1, px_x0)) pt_153 rfl rfl⟩
/-- AllSwornModel.ofThing(II)I -/
theorem S154 : (∀ (d : Nat) (v0 v1 v2 : Value) (w : px_H) (Q : Option Value → px_H → Prop), wc d 154 [v0, v1, v2] w Q ↔ wp d 154 0 [some v0, some v1, some v2] [] w 0 Q) ∧
  (∀ (d : Nat) (l1 l2 : Option Value) (a : Nat) (w : px_H) (Q : Option Value → px_H → Prop), wp d 154 0 [some (.ref a), l1, l2] [] w 0 Q ↔ wp d 154 1 [some (.ref a), l1, l2] [.ref a] w 0 Q) ∧
  (∀ (d : Nat) (l0 l1 l2 : Option Value) (s0 : Value)  (w : px_H) (Q : Option Value → px_H → Prop), wp d 154 1 [l0, l1, l2] [s0] w 0 Q ↔ wp d 154 2 [l0, l1, l2] [.int 5, s0] w 0 Q) ∧
  (∀ (d : Nat) (l0 l1 l2 : Option Value) (s0 s1 : Value)  (w : px_H) (Q : Option Value → px_H → Prop), wp d 154 2 [l0, l1, l2] [s0, s1] w 0 Q ↔ wp d 154 3 [l0, l1, l2] [.int 4, s0, s1] w 0 Q) ∧
  (∀ (d : Nat) (l0 l2 : Option Value) (s0 s1 s2 : Value) (x : Int32) (w : px_H) (Q : Option Value → px_H → Prop), wp d 154 3 [l0, some (.int x), l2] [s0, s1, s2] w 0 Q ↔ wp d 154 4 [l0, some (.int x), l2] [.int x, s0, s1, s2] w 0 Q) ∧
  (∀ (d : Nat) (l0 l1 l2 : Option Value) (s2 s3 : Value) (x y : Int32) (w : px_H) (Q : Option Value → px_H → Prop), wp d 154 4 [l0, l1, l2] [.int y, .int x, s2, s3] w 0 Q ↔ wp d 154 5 [l0, l1, l2] [.int (x * y), s2, s3] w 0 Q) ∧
  (∀ (d : Nat) (l0 l1 l2 : Option Value) (s2 : Value) (x y : Int32) (w : px_H) (Q : Option Value → px_H → Prop), wp d 154 5 [l0, l1, l2] [.int y, .int x, s2] w 0 Q ↔ wp d 154 6 [l0, l1, l2] [.int (x + y), s2] w 0 Q) ∧
  (∀ (d : Nat) (l0 l1 : Option Value) (s0 s1 : Value) (x : Int32) (w : px_H) (Q : Option Value → px_H → Prop), wp d 154 6 [l0, l1, some (.int x)] [s0, s1] w 0 Q ↔ wp d 154 7 [l0, l1, some (.int x)] [.int x, s0, s1] w 0 Q) ∧
  (∀ (d : Nat) (l0 l1 l2 : Option Value) (s2 : Value) (x y : Int32) (w : px_H) (Q : Option Value → px_H → Prop), wp d 154 7 [l0, l1, l2] [.int y, .int x, s2] w 0 Q ↔ wp d 154 8 [l0, l1, l2] [.int (x + y), s2] w 0 Q) ∧
  (∀ (d : Nat) (l0 l1 l2 : Option Value) (v0 : Value) (b : Nat) (w : px_H) (Q : Option Value → px_H → Prop), wp (d + 1) 154 8 [l0, l1, l2] [v0, .ref b] w 0 Q ↔ px_op (px_tgt w b [(11, 149)]) (fun v => wc d v [.ref b, v0] w (fun r w' => wp (d + 1) 154 11 [l0, l1, l2] (r.toList ++ []) w' 0 Q))) ∧
  (∀ (d : Nat) (l0 l1 l2 : Option Value) (x : Int32) (w : px_H) (Q : Option Value → px_H → Prop), wp d 154 11 [l0, l1, l2] [.int x] w 0 Q ↔ Q (some (.int x)) w) := ⟨fun d v0 v1 v2 w Q => r_entry pt_154 (Nat.le_of_ble_eq_true rfl) rfl,
  fun d l1 l2 a w Q => px_go (q := (.aload_n 0, 1, px_x0)) (S' := (1, [some (.ref a), l1, l2], [.ref a], w, 0)) pt_154 rfl rfl,
  fun d l0 l1 l2 s0 w Q => r_iconst pt_154 rfl (by decide),
  fun d l0 l1 l2 s0 s1 w Q => r_iconst pt_154 rfl (by decide),
  fun d l0 l2 s0 s1 s2 x w Q => px_go (q := (.iload_n 1, 1, px_x0)) (S' := (4, [l0, some (.int x), l2], [.int x, s0, s1, s2], w, 0)) pt_154 rfl rfl,
  fun d l0 l1 l2 s2 s3 x y w Q => px_go (q := (.imul, 1, px_x0)) (S' := (5, [l0, l1, l2], [.int (x * y), s2, s3], w, 0)) pt_154 rfl rfl,
  fun d l0 l1 l2 s2 x y w Q => px_go (q := (.iadd, 1, px_x0)) (S' := (6, [l0, l1, l2], [.int (x + y), s2], w, 0)) pt_154 rfl rfl,
  fun d l0 l1 s0 s1 x w Q => px_go (q := (.iload_n 2, 1, px_x0)) (S' := (7, [l0, l1, some (.int x)], [.int x, s0, s1], w, 0)) pt_154 rfl rfl,
  fun d l0 l1 l2 s2 x y w Q => px_go (q := (.iadd, 1, px_x0)) (S' := (8, [l0, l1, l2], [.int (x + y), s2], w, 0)) pt_154 rfl rfl,
  fun d l0 l1 l2 v0 b w Q => r_callV (q := (.invokevirtual 69, 3, (33, 1, [(11, 149)], 0, ""))) pt_154 rfl rfl (List.forall_mem_cons.mpr ⟨⟨_, pt_149, Nat.le_of_ble_eq_true rfl, (Nat.le_of_ble_eq_true rfl), rfl⟩, fun _ h => absurd h List.not_mem_nil⟩),
  fun d l0 l1 l2 x w Q => px_ret (q := (.ireturn, 1, px_x0)) pt_154 rfl rfl⟩
/-- AllSwornModel.feed(I)I -/
theorem S155 : (∀ (d : Nat) (v0 v1 : Value) (w : px_H) (Q : Option Value → px_H → Prop), wc d 155 [v0, v1] w Q ↔ wp d 155 0 [some v0, some v1] [] w 0 Q) ∧
  (∀ (d : Nat) (l0 : Option Value) (x : Int32) (w : px_H) (Q : Option Value → px_H → Prop), wp d 155 0 [l0, some (.int x)] [] w 0 Q ↔ wp d 155 1 [l0, some (.int x)] [.int x] w 0 Q) ∧
  (∀ (d : Nat) (l0 l1 : Option Value) (s0 : Value)  (w : px_H) (Q : Option Value → px_H → Prop), wp d 155 1 [l0, l1] [s0] w 0 Q ↔ wp d 155 2 [l0, l1] [.int 0, s0] w 0 Q) ∧
  (∀ (d : Nat) (l0 l1 : Option Value) (s0 s1 : Value)  (w : px_H) (Q : Option Value → px_H → Prop), wp d 155 2 [l0, l1] [s0, s1] w 0 Q ↔ wp d 155 5 [l0, l1] [.int 255, s0, s1] w 0 Q) ∧
  (∀ (d : Nat) (l0 l1 : Option Value) (v0 v1 v2 : Value) (w : px_H) (Q : Option Value → px_H → Prop), wp (d + 1) 155 5 [l0, l1] [v2, v1, v0] w 0 Q ↔ wc d 140 [v0, v1, v2] w (fun r w' => wp (d + 1) 155 8 [l0, l1] (r.toList ++ []) w' 0 Q)) ∧
  (∀ (d : Nat) (l0 l1 : Option Value) (x : Int32) (w : px_H) (Q : Option Value → px_H → Prop), wp d 155 8 [l0, l1] [.int x] w 0 Q ↔ if x = 0 then wp d 155 11 [l0, l1] [] w 0 Q else wp d 155 14 [l0, l1] [] w 0 Q) ∧
  (∀ (d : Nat) (l0 l1 : Option Value)  (w : px_H) (Q : Option Value → px_H → Prop), wp d 155 11 [l0, l1] [] w 0 Q ↔ wp d 155 13 [l0, l1] [.int (-1000001)] w 0 Q) ∧
  (∀ (d : Nat) (l0 l1 : Option Value) (x : Int32) (w : px_H) (Q : Option Value → px_H → Prop), wp d 155 13 [l0, l1] [.int x] w 0 Q ↔ Q (some (.int x)) w) ∧
  (∀ (d : Nat) (l1 : Option Value) (a : Nat) (w : px_H) (Q : Option Value → px_H → Prop), wp d 155 14 [some (.ref a), l1] [] w 0 Q ↔ wp d 155 15 [some (.ref a), l1] [.ref a] w 0 Q) ∧
  (∀ (d : Nat) (l0 l1 : Option Value) (a : Nat) (w : px_H) (Q : Option Value → px_H → Prop), wp d 155 15 [l0, l1] [.ref a] w 0 Q ↔ px_op (px_fld w a [(11, 0)] 10) (fun v => wp d 155 18 [l0, l1] [v] w 0 Q)) ∧
  (∀ (d : Nat) (l0 l1 : Option Value) (s0 : Value)  (w : px_H) (Q : Option Value → px_H → Prop), wp d 155 18 [l0, l1] [s0] w 0 Q ↔ wp d 155 20 [l0, l1] [.int 120, s0] w 0 Q) ∧
  (∀ (d : Nat) (l0 l1 : Option Value) (x y : Int32) (w : px_H) (Q : Option Value → px_H → Prop), wp d 155 20 [l0, l1] [.int y, .int x] w 0 Q ↔ if x = y then wp d 155 23 [l0, l1] [] w 0 Q else wp d 155 26 [l0, l1] [] w 0 Q) ∧
  (∀ (d : Nat) (l0 l1 : Option Value)  (w : px_H) (Q : Option Value → px_H → Prop), wp d 155 23 [l0, l1] [] w 0 Q ↔ wp d 155 25 [l0, l1] [.int (-1000003)] w 0 Q) ∧
  (∀ (d : Nat) (l0 l1 : Option Value) (x : Int32) (w : px_H) (Q : Option Value → px_H → Prop), wp d 155 25 [l0, l1] [.int x] w 0 Q ↔ Q (some (.int x)) w) ∧
  (∀ (d : Nat) (l1 : Option Value) (a : Nat) (w : px_H) (Q : Option Value → px_H → Prop), wp d 155 26 [some (.ref a), l1] [] w 0 Q ↔ wp d 155 27 [some (.ref a), l1] [.ref a] w 0 Q) ∧
  (∀ (d : Nat) (l0 l1 : Option Value) (a : Nat) (w : px_H) (Q : Option Value → px_H → Prop), wp d 155 27 [l0, l1] [.ref a] w 0 Q ↔ px_op (px_fld w a [(11, 0)] 9) (fun v => wp d 155 30 [l0, l1] [v] w 0 Q)) ∧
  (∀ (d : Nat) (l1 : Option Value) (s0 : Value) (a : Nat) (w : px_H) (Q : Option Value → px_H → Prop), wp d 155 30 [some (.ref a), l1] [s0] w 0 Q ↔ wp d 155 31 [some (.ref a), l1] [.ref a, s0] w 0 Q) ∧
  (∀ (d : Nat) (l0 l1 : Option Value) (s1 : Value) (a : Nat) (w : px_H) (Q : Option Value → px_H → Prop), wp d 155 31 [l0, l1] [.ref a, s1] w 0 Q ↔ px_op (px_fld w a [(11, 0)] 10) (fun v => wp d 155 34 [l0, l1] [v, s1] w 0 Q)) ∧
  (∀ (d : Nat) (l0 : Option Value) (s0 s1 : Value) (x : Int32) (w : px_H) (Q : Option Value → px_H → Prop), wp d 155 34 [l0, some (.int x)] [s0, s1] w 0 Q ↔ wp d 155 35 [l0, some (.int x)] [.int x, s0, s1] w 0 Q) ∧
  (∀ (d : Nat) (l0 l1 : Option Value) (s1 s2 : Value) (x : Int32) (w : px_H) (Q : Option Value → px_H → Prop), wp d 155 35 [l0, l1] [.int x, s1, s2] w 0 Q ↔ wp d 155 36 [l0, l1] [.int (x.toInt8.toInt32), s1, s2] w 0 Q) ∧
  (∀ (d : Nat) (l0 l1 : Option Value) (x i : Int32) (a : Nat) (w : px_H) (Q : Option Value → px_H → Prop), wp d 155 36 [l0, l1] [.int x, .int i, .ref a] w 0 Q ↔ px_op (px_bst w a i x) (fun w' => wp d 155 37 [l0, l1] [] w' 0 Q)) ∧
  (∀ (d : Nat) (l1 : Option Value) (a : Nat) (w : px_H) (Q : Option Value → px_H → Prop), wp d 155 37 [some (.ref a), l1] [] w 0 Q ↔ wp d 155 38 [some (.ref a), l1] [.ref a] w 0 Q) ∧
  (∀ (d : Nat) (l0 l1 : Option Value) (s0 : Value)  (w : px_H) (Q : Option Value → px_H → Prop), wp d 155 38 [l0, l1] [s0] w 0 Q ↔ wp d 155 39 [l0, l1] [s0, s0] w 0 Q) ∧
  (∀ (d : Nat) (l0 l1 : Option Value) (s1 : Value) (a : Nat) (w : px_H) (Q : Option Value → px_H → Prop), wp d 155 39 [l0, l1] [.ref a, s1] w 0 Q ↔ px_op (px_fld w a [(11, 0)] 10) (fun v => wp d 155 42 [l0, l1] [v, s1] w 0 Q)) ∧
  (∀ (d : Nat) (l0 l1 : Option Value) (s0 s1 : Value)  (w : px_H) (Q : Option Value → px_H → Prop), wp d 155 42 [l0, l1] [s0, s1] w 0 Q ↔ wp d 155 43 [l0, l1] [.int 1, s0, s1] w 0 Q) ∧
  (∀ (d : Nat) (l0 l1 : Option Value) (s2 : Value) (x y : Int32) (w : px_H) (Q : Option Value → px_H → Prop), wp d 155 43 [l0, l1] [.int y, .int x, s2] w 0 Q ↔ wp d 155 44 [l0, l1] [.int (x + y), s2] w 0 Q) ∧
  (∀ (d : Nat) (l0 l1 : Option Value) (x : Int32) (a : Nat) (w : px_H) (Q : Option Value → px_H → Prop), wp d 155 44 [l0, l1] [.int x, .ref a] w 0 Q ↔ px_op (px_pfd w a [(11, 0)] 10 (.int x)) (fun w' => wp d 155 47 [l0, l1] [] w' 0 Q)) ∧
  (∀ (d : Nat) (l1 : Option Value) (a : Nat) (w : px_H) (Q : Option Value → px_H → Prop), wp d 155 47 [some (.ref a), l1] [] w 0 Q ↔ wp d 155 48 [some (.ref a), l1] [.ref a] w 0 Q) ∧
  (∀ (d : Nat) (l0 l1 : Option Value) (a : Nat) (w : px_H) (Q : Option Value → px_H → Prop), wp d 155 48 [l0, l1] [.ref a] w 0 Q ↔ px_op (px_fld w a [(11, 0)] 10) (fun v => wp d 155 51 [l0, l1] [v] w 0 Q)) ∧
  (∀ (d : Nat) (l0 l1 : Option Value) (x : Int32) (w : px_H) (Q : Option Value → px_H → Prop), wp d 155 51 [l0, l1] [.int x] w 0 Q ↔ Q (some (.int x)) w) := ⟨fun d v0 v1 w Q => r_entry pt_155 (Nat.le_of_ble_eq_true rfl) rfl,
  fun d l0 x w Q => px_go (q := (.iload_n 1, 1, px_x0)) (S' := (1, [l0, some (.int x)], [.int x], w, 0)) pt_155 rfl rfl,
  fun d l0 l1 s0 w Q => r_iconst pt_155 rfl (by decide),
  fun d l0 l1 s0 s1 w Q => r_sipush pt_155 rfl (by decide),
  fun d l0 l1 v0 v1 v2 w Q => r_call (q := (.invokestatic 50, 3, (30, 3, [(0, 140)], 0, ""))) pt_155 rfl rfl pt_140 (Nat.le_of_ble_eq_true rfl) (Nat.le_of_ble_eq_true rfl) rfl,
  fun d l0 l1 x w Q => r_if_ne pt_155 rfl rfl,
  fun d l0 l1 w Q => px_go (q := (.ldc 58, 2, (0, 0, [], (-1000001), ""))) (S' := (13, [l0, l1], [.int (-1000001)], w, 0)) pt_155 rfl rfl,
  fun d l0 l1 x w Q => px_ret (q := (.ireturn, 1, px_x0)) pt_155 rfl rfl,
  fun d l1 a w Q => px_go (q := (.aload_n 0, 1, px_x0)) (S' := (15, [some (.ref a), l1], [.ref a], w, 0)) pt_155 rfl rfl,
  fun d l0 l1 a w Q => px_goO (q := (.getfield 42, 3, (10, 10, [(11, 0)], 0, "AllSwornModel"))) (S' := fun v => (18, [l0, l1], [v], w, 0)) pt_155 rfl rfl,
  fun d l0 l1 s0 w Q => r_bipush pt_155 rfl (by decide),
  fun d l0 l1 x y w Q => r_icmp_ne pt_155 rfl rfl,
  fun d l0 l1 w Q => px_go (q := (.ldc 72, 2, (0, 0, [], (-1000003), ""))) (S' := (25, [l0, l1], [.int (-1000003)], w, 0)) pt_155 rfl rfl,
  fun d l0 l1 x w Q => px_ret (q := (.ireturn, 1, px_x0)) pt_155 rfl rfl,
  fun d l1 a w Q => px_go (q := (.aload_n 0, 1, px_x0)) (S' := (27, [some (.ref a), l1], [.ref a], w, 0)) pt_155 rfl rfl,
  fun d l0 l1 a w Q => px_goO (q := (.getfield 29, 3, (10, 9, [(11, 0)], 0, "AllSwornModel"))) (S' := fun v => (30, [l0, l1], [v], w, 0)) pt_155 rfl rfl,
  fun d l1 s0 a w Q => px_go (q := (.aload_n 0, 1, px_x0)) (S' := (31, [some (.ref a), l1], [.ref a, s0], w, 0)) pt_155 rfl rfl,
  fun d l0 l1 s1 a w Q => px_goO (q := (.getfield 42, 3, (10, 10, [(11, 0)], 0, "AllSwornModel"))) (S' := fun v => (34, [l0, l1], [v, s1], w, 0)) pt_155 rfl rfl,
  fun d l0 s0 s1 x w Q => px_go (q := (.iload_n 1, 1, px_x0)) (S' := (35, [l0, some (.int x)], [.int x, s0, s1], w, 0)) pt_155 rfl rfl,
  fun d l0 l1 s1 s2 x w Q => px_go (q := (.i2b, 1, px_x0)) (S' := (36, [l0, l1], [.int (x.toInt8.toInt32), s1, s2], w, 0)) pt_155 rfl rfl,
  fun d l0 l1 x i a w Q => px_goO (q := (.bastore, 1, px_x0)) (S' := fun w' => (37, [l0, l1], [], w', 0)) pt_155 rfl rfl,
  fun d l1 a w Q => px_go (q := (.aload_n 0, 1, px_x0)) (S' := (38, [some (.ref a), l1], [.ref a], w, 0)) pt_155 rfl rfl,
  fun d l0 l1 s0 w Q => px_go (q := (.dup, 1, px_x0)) (S' := (39, [l0, l1], [s0, s0], w, 0)) pt_155 rfl rfl,
  fun d l0 l1 s1 a w Q => px_goO (q := (.getfield 42, 3, (10, 10, [(11, 0)], 0, "AllSwornModel"))) (S' := fun v => (42, [l0, l1], [v, s1], w, 0)) pt_155 rfl rfl,
  fun d l0 l1 s0 s1 w Q => r_iconst pt_155 rfl (by decide),
  fun d l0 l1 s2 x y w Q => px_go (q := (.iadd, 1, px_x0)) (S' := (44, [l0, l1], [.int (x + y), s2], w, 0)) pt_155 rfl rfl,
  fun d l0 l1 x a w Q => r_put pt_155 rfl (by simp only [List.all_cons, List.all_nil, ft_11_10, px_fit, px_isr, Bool.and_self]),
  fun d l1 a w Q => px_go (q := (.aload_n 0, 1, px_x0)) (S' := (48, [some (.ref a), l1], [.ref a], w, 0)) pt_155 rfl rfl,
  fun d l0 l1 a w Q => px_goO (q := (.getfield 42, 3, (10, 10, [(11, 0)], 0, "AllSwornModel"))) (S' := fun v => (51, [l0, l1], [v], w, 0)) pt_155 rfl rfl,
  fun d l0 l1 x w Q => px_ret (q := (.ireturn, 1, px_x0)) pt_155 rfl rfl⟩
/-- AllSwornModel.here()I -/
theorem S156 : (∀ (d : Nat) (v0 : Value) (w : px_H) (Q : Option Value → px_H → Prop), wc d 156 [v0] w Q ↔ wp d 156 0 [some v0] [] w 0 Q) ∧
  (∀ (d : Nat) (a : Nat) (w : px_H) (Q : Option Value → px_H → Prop), wp d 156 0 [some (.ref a)] [] w 0 Q ↔ wp d 156 1 [some (.ref a)] [.ref a] w 0 Q) ∧
  (∀ (d : Nat) (l0 : Option Value) (a : Nat) (w : px_H) (Q : Option Value → px_H → Prop), wp d 156 1 [l0] [.ref a] w 0 Q ↔ px_op (px_fld w a [(11, 0)] 11) (fun v => wp d 156 4 [l0] [v] w 0 Q)) ∧
  (∀ (d : Nat) (s0 : Value) (a : Nat) (w : px_H) (Q : Option Value → px_H → Prop), wp d 156 4 [some (.ref a)] [s0] w 0 Q ↔ wp d 156 5 [some (.ref a)] [.ref a, s0] w 0 Q) ∧
  (∀ (d : Nat) (l0 : Option Value) (s1 : Value) (a : Nat) (w : px_H) (Q : Option Value → px_H → Prop), wp d 156 5 [l0] [.ref a, s1] w 0 Q ↔ px_op (px_fld w a [(11, 0)] 10) (fun v => wp d 156 8 [l0] [v, s1] w 0 Q)) ∧
  (∀ (d : Nat) (l0 : Option Value) (x y : Int32) (w : px_H) (Q : Option Value → px_H → Prop), wp d 156 8 [l0] [.int y, .int x] w 0 Q ↔ if y ≤ x then wp d 156 27 [l0] [] w 0 Q else wp d 156 11 [l0] [] w 0 Q) ∧
  (∀ (d : Nat) (a : Nat) (w : px_H) (Q : Option Value → px_H → Prop), wp d 156 11 [some (.ref a)] [] w 0 Q ↔ wp d 156 12 [some (.ref a)] [.ref a] w 0 Q) ∧
  (∀ (d : Nat) (l0 : Option Value) (a : Nat) (w : px_H) (Q : Option Value → px_H → Prop), wp d 156 12 [l0] [.ref a] w 0 Q ↔ px_op (px_fld w a [(11, 0)] 9) (fun v => wp d 156 15 [l0] [v] w 0 Q)) ∧
  (∀ (d : Nat) (s0 : Value) (a : Nat) (w : px_H) (Q : Option Value → px_H → Prop), wp d 156 15 [some (.ref a)] [s0] w 0 Q ↔ wp d 156 16 [some (.ref a)] [.ref a, s0] w 0 Q) ∧
  (∀ (d : Nat) (l0 : Option Value) (s1 : Value) (a : Nat) (w : px_H) (Q : Option Value → px_H → Prop), wp d 156 16 [l0] [.ref a, s1] w 0 Q ↔ px_op (px_fld w a [(11, 0)] 11) (fun v => wp d 156 19 [l0] [v, s1] w 0 Q)) ∧
  (∀ (d : Nat) (l0 : Option Value) (i : Int32) (a : Nat) (w : px_H) (Q : Option Value → px_H → Prop), wp d 156 19 [l0] [.int i, .ref a] w 0 Q ↔ px_op (px_bld w a i) (fun x => wp d 156 20 [l0] [.int x] w 0 Q)) ∧
  (∀ (d : Nat) (l0 : Option Value) (s0 : Value)  (w : px_H) (Q : Option Value → px_H → Prop), wp d 156 20 [l0] [s0] w 0 Q ↔ wp d 156 23 [l0] [.int 255, s0] w 0 Q) ∧
  (∀ (d : Nat) (l0 : Option Value) (x y : Int32) (w : px_H) (Q : Option Value → px_H → Prop), wp d 156 23 [l0] [.int y, .int x] w 0 Q ↔ wp d 156 24 [l0] [.int (x &&& y)] w 0 Q) ∧
  (∀ (d : Nat) (l0 : Option Value) (s0 : Value)  (w : px_H) (Q : Option Value → px_H → Prop), wp d 156 24 [l0] [s0] w 0 Q ↔ wp d 156 28 [l0] [s0] w 0 Q) ∧
  (∀ (d : Nat) (l0 : Option Value)  (w : px_H) (Q : Option Value → px_H → Prop), wp d 156 27 [l0] [] w 0 Q ↔ wp d 156 28 [l0] [.int (-1)] w 0 Q) ∧
  (∀ (d : Nat) (l0 : Option Value) (x : Int32) (w : px_H) (Q : Option Value → px_H → Prop), wp d 156 28 [l0] [.int x] w 0 Q ↔ Q (some (.int x)) w) := ⟨fun d v0 w Q => r_entry pt_156 (Nat.le_of_ble_eq_true rfl) rfl,
  fun d a w Q => px_go (q := (.aload_n 0, 1, px_x0)) (S' := (1, [some (.ref a)], [.ref a], w, 0)) pt_156 rfl rfl,
  fun d l0 a w Q => px_goO (q := (.getfield 73, 3, (10, 11, [(11, 0)], 0, "AllSwornModel"))) (S' := fun v => (4, [l0], [v], w, 0)) pt_156 rfl rfl,
  fun d s0 a w Q => px_go (q := (.aload_n 0, 1, px_x0)) (S' := (5, [some (.ref a)], [.ref a, s0], w, 0)) pt_156 rfl rfl,
  fun d l0 s1 a w Q => px_goO (q := (.getfield 42, 3, (10, 10, [(11, 0)], 0, "AllSwornModel"))) (S' := fun v => (8, [l0], [v, s1], w, 0)) pt_156 rfl rfl,
  fun d l0 x y w Q => r_icmp_ge pt_156 rfl rfl,
  fun d a w Q => px_go (q := (.aload_n 0, 1, px_x0)) (S' := (12, [some (.ref a)], [.ref a], w, 0)) pt_156 rfl rfl,
  fun d l0 a w Q => px_goO (q := (.getfield 29, 3, (10, 9, [(11, 0)], 0, "AllSwornModel"))) (S' := fun v => (15, [l0], [v], w, 0)) pt_156 rfl rfl,
  fun d s0 a w Q => px_go (q := (.aload_n 0, 1, px_x0)) (S' := (16, [some (.ref a)], [.ref a, s0], w, 0)) pt_156 rfl rfl,
  fun d l0 s1 a w Q => px_goO (q := (.getfield 73, 3, (10, 11, [(11, 0)], 0, "AllSwornModel"))) (S' := fun v => (19, [l0], [v, s1], w, 0)) pt_156 rfl rfl,
  fun d l0 i a w Q => px_goO (q := (.baload, 1, px_x0)) (S' := fun x => (20, [l0], [.int x], w, 0)) pt_156 rfl rfl,
  fun d l0 s0 w Q => r_sipush pt_156 rfl (by decide),
  fun d l0 x y w Q => px_go (q := (.iand, 1, px_x0)) (S' := (24, [l0], [.int (x &&& y)], w, 0)) pt_156 rfl rfl,
  fun d l0 s0 w Q => r_goto pt_156 rfl rfl,
  fun d l0 w Q => r_iconst pt_156 rfl (by decide),
  fun d l0 x w Q => px_ret (q := (.ireturn, 1, px_x0)) pt_156 rfl rfl⟩
/-- AllSwornModel.next()V heads: [41] -/
theorem S157 : (∀ (d : Nat) (v0 : Value) (w : px_H) (Q : Option Value → px_H → Prop), wc d 157 [v0] w Q ↔ wp d 157 0 [some v0, none] [] w 0 Q) ∧
  (∀ (d : Nat) (l1 : Option Value) (a : Nat) (w : px_H) (Q : Option Value → px_H → Prop), wp d 157 0 [some (.ref a), l1] [] w 0 Q ↔ wp d 157 1 [some (.ref a), l1] [.ref a] w 0 Q) ∧
  (∀ (d : Nat) (l1 : Option Value) (s0 : Value) (a : Nat) (w : px_H) (Q : Option Value → px_H → Prop), wp d 157 1 [some (.ref a), l1] [s0] w 0 Q ↔ wp d 157 2 [some (.ref a), l1] [.ref a, s0] w 0 Q) ∧
  (∀ (d : Nat) (l0 l1 : Option Value) (s1 : Value) (a : Nat) (w : px_H) (Q : Option Value → px_H → Prop), wp d 157 2 [l0, l1] [.ref a, s1] w 0 Q ↔ px_op (px_fld w a [(11, 0)] 11) (fun v => wp d 157 5 [l0, l1] [v, s1] w 0 Q)) ∧
  (∀ (d : Nat) (l0 l1 : Option Value) (x : Int32) (a : Nat) (w : px_H) (Q : Option Value → px_H → Prop), wp d 157 5 [l0, l1] [.int x, .ref a] w 0 Q ↔ px_op (px_pfd w a [(11, 0)] 12 (.int x)) (fun w' => wp d 157 8 [l0, l1] [] w' 0 Q)) ∧
  (∀ (d : Nat) (l1 : Option Value) (a : Nat) (w : px_H) (Q : Option Value → px_H → Prop), wp d 157 8 [some (.ref a), l1] [] w 0 Q ↔ wp d 157 9 [some (.ref a), l1] [.ref a] w 0 Q) ∧
  (∀ (d : Nat) (l0 l1 : Option Value) (s0 : Value)  (w : px_H) (Q : Option Value → px_H → Prop), wp d 157 9 [l0, l1] [s0] w 0 Q ↔ wp d 157 10 [l0, l1] [.int 0, s0] w 0 Q) ∧
  (∀ (d : Nat) (l0 l1 : Option Value) (x : Int32) (a : Nat) (w : px_H) (Q : Option Value → px_H → Prop), wp d 157 10 [l0, l1] [.int x, .ref a] w 0 Q ↔ px_op (px_pfd w a [(11, 0)] 14 (.int x)) (fun w' => wp d 157 13 [l0, l1] [] w' 0 Q)) ∧
  (∀ (d : Nat) (l1 : Option Value) (a : Nat) (w : px_H) (Q : Option Value → px_H → Prop), wp d 157 13 [some (.ref a), l1] [] w 0 Q ↔ wp d 157 14 [some (.ref a), l1] [.ref a] w 0 Q) ∧
  (∀ (d : Nat) (l0 l1 : Option Value)  (b : Nat) (w : px_H) (Q : Option Value → px_H → Prop), wp (d + 1) 157 14 [l0, l1] [.ref b] w 0 Q ↔ px_op (px_tgt w b [(11, 156)]) (fun v => wc d v [.ref b] w (fun r w' => wp (d + 1) 157 17 [l0, l1] (r.toList ++ []) w' 0 Q))) ∧
  (∀ (d : Nat) (l0 l1 : Option Value) (x : Int32) (w : px_H) (Q : Option Value → px_H → Prop), wp d 157 17 [l0, l1] [.int x] w 0 Q ↔ wp d 157 18 [l0, some (.int x)] [] w 0 Q) ∧
  (∀ (d : Nat) (l0 : Option Value) (x : Int32) (w : px_H) (Q : Option Value → px_H → Prop), wp d 157 18 [l0, some (.int x)] [] w 0 Q ↔ wp d 157 19 [l0, some (.int x)] [.int x] w 0 Q) ∧
  (∀ (d : Nat) (l0 l1 : Option Value) (x : Int32) (w : px_H) (Q : Option Value → px_H → Prop), wp d 157 19 [l0, l1] [.int x] w 0 Q ↔ if 0 ≤ x then wp d 157 30 [l0, l1] [] w 0 Q else wp d 157 22 [l0, l1] [] w 0 Q) ∧
  (∀ (d : Nat) (l1 : Option Value) (a : Nat) (w : px_H) (Q : Option Value → px_H → Prop), wp d 157 22 [some (.ref a), l1] [] w 0 Q ↔ wp d 157 23 [some (.ref a), l1] [.ref a] w 0 Q) ∧
  (∀ (d : Nat) (l0 l1 : Option Value) (s0 : Value)  (w : px_H) (Q : Option Value → px_H → Prop), wp d 157 23 [l0, l1] [s0] w 0 Q ↔ wp d 157 24 [l0, l1] [.int 0, s0] w 0 Q) ∧
  (∀ (d : Nat) (l0 l1 : Option Value) (x : Int32) (a : Nat) (w : px_H) (Q : Option Value → px_H → Prop), wp d 157 24 [l0, l1] [.int x, .ref a] w 0 Q ↔ px_op (px_pfd w a [(11, 0)] 13 (.int x)) (fun w' => wp d 157 27 [l0, l1] [] w' 0 Q)) ∧
  (∀ (d : Nat) (l0 l1 : Option Value)  (w : px_H) (Q : Option Value → px_H → Prop), wp d 157 27 [l0, l1] [] w 0 Q ↔ wp d 157 174 [l0, l1] [] w 0 Q) ∧
  (∀ (d : Nat) (l0 : Option Value) (x : Int32) (w : px_H) (Q : Option Value → px_H → Prop), wp d 157 30 [l0, some (.int x)] [] w 0 Q ↔ wp d 157 31 [l0, some (.int x)] [.int x] w 0 Q) ∧
  (∀ (d : Nat) (l0 l1 : Option Value) (s0 : Value)  (w : px_H) (Q : Option Value → px_H → Prop), wp d 157 31 [l0, l1] [s0] w 0 Q ↔ wp d 157 33 [l0, l1] [.int 48, s0] w 0 Q) ∧
  (∀ (d : Nat) (l0 l1 : Option Value) (s0 s1 : Value)  (w : px_H) (Q : Option Value → px_H → Prop), wp d 157 33 [l0, l1] [s0, s1] w 0 Q ↔ wp d 157 35 [l0, l1] [.int 57, s0, s1] w 0 Q) ∧
  (∀ (d : Nat) (l0 l1 : Option Value) (v0 v1 v2 : Value) (w : px_H) (Q : Option Value → px_H → Prop), wp (d + 1) 157 35 [l0, l1] [v2, v1, v0] w 0 Q ↔ wc d 140 [v0, v1, v2] w (fun r w' => wp (d + 1) 157 38 [l0, l1] (r.toList ++ []) w' 0 Q)) ∧
  (∀ (d : Nat) (l0 l1 : Option Value) (x : Int32) (w : px_H) (Q : Option Value → px_H → Prop), wp d 157 38 [l0, l1] [.int x] w 0 Q ↔ if x = 0 then wp d 157 132 [l0, l1] [] w 0 Q else wp d 157 41 [l0, l1] [] w 0 Q) ∧
  (∀ (d : Nat) (l0 l1 : Option Value)  (b : Nat) (w : px_H) (Q : Option Value → px_H → Prop), wp (d + 1) 157 42 [l0, l1] [.ref b] w 0 Q ↔ px_op (px_tgt w b [(11, 156)]) (fun v => wc d v [.ref b] w (fun r w' => wp (d + 1) 157 45 [l0, l1] (r.toList ++ []) w' 0 Q))) ∧
  (∀ (d : Nat) (l0 l1 : Option Value) (s0 : Value)  (w : px_H) (Q : Option Value → px_H → Prop), wp d 157 45 [l0, l1] [s0] w 0 Q ↔ wp d 157 47 [l0, l1] [.int 48, s0] w 0 Q) ∧
  (∀ (d : Nat) (l0 l1 : Option Value) (s0 s1 : Value)  (w : px_H) (Q : Option Value → px_H → Prop), wp d 157 47 [l0, l1] [s0, s1] w 0 Q ↔ wp d 157 49 [l0, l1] [.int 57, s0, s1] w 0 Q) ∧
  (∀ (d : Nat) (l0 l1 : Option Value) (v0 v1 v2 : Value) (w : px_H) (Q : Option Value → px_H → Prop), wp (d + 1) 157 49 [l0, l1] [v2, v1, v0] w 0 Q ↔ wc d 140 [v0, v1, v2] w (fun r w' => wp (d + 1) 157 52 [l0, l1] (r.toList ++ []) w' 0 Q)) ∧
  (∀ (d : Nat) (l0 l1 : Option Value) (x : Int32) (w : px_H) (Q : Option Value → px_H → Prop), wp d 157 52 [l0, l1] [.int x] w 0 Q ↔ if x = 0 then wp d 157 107 [l0, l1] [] w 0 Q else wp d 157 55 [l0, l1] [] w 0 Q) ∧
  (∀ (d : Nat) (l1 : Option Value) (a : Nat) (w : px_H) (Q : Option Value → px_H → Prop), wp d 157 55 [some (.ref a), l1] [] w 0 Q ↔ wp d 157 56 [some (.ref a), l1] [.ref a] w 0 Q) ∧
  (∀ (d : Nat) (l1 : Option Value) (s0 : Value) (a : Nat) (w : px_H) (Q : Option Value → px_H → Prop), wp d 157 56 [some (.ref a), l1] [s0] w 0 Q ↔ wp d 157 57 [some (.ref a), l1] [.ref a, s0] w 0 Q) ∧
  (∀ (d : Nat) (l0 l1 : Option Value) (s1 : Value) (a : Nat) (w : px_H) (Q : Option Value → px_H → Prop), wp d 157 57 [l0, l1] [.ref a, s1] w 0 Q ↔ px_op (px_fld w a [(11, 0)] 11) (fun v => wp d 157 60 [l0, l1] [v, s1] w 0 Q)) ∧
  (∀ (d : Nat) (l1 : Option Value) (s0 s1 : Value) (a : Nat) (w : px_H) (Q : Option Value → px_H → Prop), wp d 157 60 [some (.ref a), l1] [s0, s1] w 0 Q ↔ wp d 157 61 [some (.ref a), l1] [.ref a, s0, s1] w 0 Q) ∧
  (∀ (d : Nat) (l0 l1 : Option Value) (s1 s2 : Value) (a : Nat) (w : px_H) (Q : Option Value → px_H → Prop), wp d 157 61 [l0, l1] [.ref a, s1, s2] w 0 Q ↔ px_op (px_fld w a [(11, 0)] 12) (fun v => wp d 157 64 [l0, l1] [v, s1, s2] w 0 Q)) ∧
  (∀ (d : Nat) (l0 l1 : Option Value) (s2 : Value) (x y : Int32) (w : px_H) (Q : Option Value → px_H → Prop), wp d 157 64 [l0, l1] [.int y, .int x, s2] w 0 Q ↔ wp d 157 65 [l0, l1] [.int (x - y), s2] w 0 Q) ∧
  (∀ (d : Nat) (l0 l1 : Option Value) (s0 s1 : Value)  (w : px_H) (Q : Option Value → px_H → Prop), wp d 157 65 [l0, l1] [s0, s1] w 0 Q ↔ wp d 157 66 [l0, l1] [.int 3, s0, s1] w 0 Q) ∧
  (∀ (d : Nat) (l0 l1 : Option Value) (s2 : Value) (x y : Int32) (w : px_H) (Q : Option Value → px_H → Prop), wp d 157 66 [l0, l1] [.int y, .int x, s2] w 0 Q ↔ if y ≤ x then wp d 157 87 [l0, l1] [s2] w 0 Q else wp d 157 69 [l0, l1] [s2] w 0 Q) ∧
  (∀ (d : Nat) (l0 l1 : Option Value) (s0 : Value)  (w : px_H) (Q : Option Value → px_H → Prop), wp d 157 69 [l0, l1] [s0] w 0 Q ↔ wp d 157 71 [l0, l1] [.int 10, s0] w 0 Q) ∧
  (∀ (d : Nat) (l1 : Option Value) (s0 s1 : Value) (a : Nat) (w : px_H) (Q : Option Value → px_H → Prop), wp d 157 71 [some (.ref a), l1] [s0, s1] w 0 Q ↔ wp d 157 72 [some (.ref a), l1] [.ref a, s0, s1] w 0 Q) ∧
  (∀ (d : Nat) (l0 l1 : Option Value) (s1 s2 : Value) (a : Nat) (w : px_H) (Q : Option Value → px_H → Prop), wp d 157 72 [l0, l1] [.ref a, s1, s2] w 0 Q ↔ px_op (px_fld w a [(11, 0)] 14) (fun v => wp d 157 75 [l0, l1] [v, s1, s2] w 0 Q)) ∧
  (∀ (d : Nat) (l0 l1 : Option Value) (s2 : Value) (x y : Int32) (w : px_H) (Q : Option Value → px_H → Prop), wp d 157 75 [l0, l1] [.int y, .int x, s2] w 0 Q ↔ wp d 157 76 [l0, l1] [.int (x * y), s2] w 0 Q) ∧
  (∀ (d : Nat) (l1 : Option Value) (s0 s1 : Value) (a : Nat) (w : px_H) (Q : Option Value → px_H → Prop), wp d 157 76 [some (.ref a), l1] [s0, s1] w 0 Q ↔ wp d 157 77 [some (.ref a), l1] [.ref a, s0, s1] w 0 Q) ∧
  (∀ (d : Nat) (l0 l1 : Option Value) (s1 s2 : Value)  (b : Nat) (w : px_H) (Q : Option Value → px_H → Prop), wp (d + 1) 157 77 [l0, l1] [.ref b, s1, s2] w 0 Q ↔ px_op (px_tgt w b [(11, 156)]) (fun v => wc d v [.ref b] w (fun r w' => wp (d + 1) 157 80 [l0, l1] (r.toList ++ [s1, s2]) w' 0 Q))) ∧
  (∀ (d : Nat) (l0 l1 : Option Value) (s2 : Value) (x y : Int32) (w : px_H) (Q : Option Value → px_H → Prop), wp d 157 80 [l0, l1] [.int y, .int x, s2] w 0 Q ↔ wp d 157 81 [l0, l1] [.int (x + y), s2] w 0 Q) ∧
  (∀ (d : Nat) (l0 l1 : Option Value) (s0 s1 : Value)  (w : px_H) (Q : Option Value → px_H → Prop), wp d 157 81 [l0, l1] [s0, s1] w 0 Q ↔ wp d 157 83 [l0, l1] [.int 48, s0, s1] w 0 Q) ∧
  (∀ (d : Nat) (l0 l1 : Option Value) (s2 : Value) (x y : Int32) (w : px_H) (Q : Option Value → px_H → Prop), wp d 157 83 [l0, l1] [.int y, .int x, s2] w 0 Q ↔ wp d 157 84 [l0, l1] [.int (x - y), s2] w 0 Q) ∧
  (∀ (d : Nat) (l0 l1 : Option Value) (s0 s1 : Value)  (w : px_H) (Q : Option Value → px_H → Prop), wp d 157 84 [l0, l1] [s0, s1] w 0 Q ↔ wp d 157 91 [l0, l1] [s0, s1] w 0 Q) ∧
  (∀ (d : Nat) (l1 : Option Value) (s0 : Value) (a : Nat) (w : px_H) (Q : Option Value → px_H → Prop), wp d 157 87 [some (.ref a), l1] [s0] w 0 Q ↔ wp d 157 88 [some (.ref a), l1] [.ref a, s0] w 0 Q) ∧
  (∀ (d : Nat) (l0 l1 : Option Value) (s1 : Value) (a : Nat) (w : px_H) (Q : Option Value → px_H → Prop), wp d 157 88 [l0, l1] [.ref a, s1] w 0 Q ↔ px_op (px_fld w a [(11, 0)] 14) (fun v => wp d 157 91 [l0, l1] [v, s1] w 0 Q)) ∧
  (∀ (d : Nat) (l0 l1 : Option Value) (x : Int32) (a : Nat) (w : px_H) (Q : Option Value → px_H → Prop), wp d 157 91 [l0, l1] [.int x, .ref a] w 0 Q ↔ px_op (px_pfd w a [(11, 0)] 14 (.int x)) (fun w' => wp d 157 94 [l0, l1] [] w' 0 Q)) ∧
  (∀ (d : Nat) (l1 : Option Value) (a : Nat) (w : px_H) (Q : Option Value → px_H → Prop), wp d 157 94 [some (.ref a), l1] [] w 0 Q ↔ wp d 157 95 [some (.ref a), l1] [.ref a] w 0 Q) ∧
  (∀ (d : Nat) (l0 l1 : Option Value) (s0 : Value)  (w : px_H) (Q : Option Value → px_H → Prop), wp d 157 95 [l0, l1] [s0] w 0 Q ↔ wp d 157 96 [l0, l1] [s0, s0] w 0 Q) ∧
  (∀ (d : Nat) (l0 l1 : Option Value) (s1 : Value) (a : Nat) (w : px_H) (Q : Option Value → px_H → Prop), wp d 157 96 [l0, l1] [.ref a, s1] w 0 Q ↔ px_op (px_fld w a [(11, 0)] 11) (fun v => wp d 157 99 [l0, l1] [v, s1] w 0 Q)) ∧
  (∀ (d : Nat) (l0 l1 : Option Value) (s0 s1 : Value)  (w : px_H) (Q : Option Value → px_H → Prop), wp d 157 99 [l0, l1] [s0, s1] w 0 Q ↔ wp d 157 100 [l0, l1] [.int 1, s0, s1] w 0 Q) ∧
  (∀ (d : Nat) (l0 l1 : Option Value) (s2 : Value) (x y : Int32) (w : px_H) (Q : Option Value → px_H → Prop), wp d 157 100 [l0, l1] [.int y, .int x, s2] w 0 Q ↔ wp d 157 101 [l0, l1] [.int (x + y), s2] w 0 Q) ∧
  (∀ (d : Nat) (l0 l1 : Option Value) (x : Int32) (a : Nat) (w : px_H) (Q : Option Value → px_H → Prop), wp d 157 101 [l0, l1] [.int x, .ref a] w 0 Q ↔ px_op (px_pfd w a [(11, 0)] 11 (.int x)) (fun w' => wp d 157 104 [l0, l1] [] w' 0 Q)) ∧
  (∀ (d : Nat) (l0 l1 : Option Value)  (w : px_H) (Q : Option Value → px_H → Prop), wp d 157 104 [l0, l1] [] w 0 Q ↔ wp d 157 41 [l0, l1] [] w 0 Q) ∧
  (∀ (d : Nat) (l1 : Option Value) (a : Nat) (w : px_H) (Q : Option Value → px_H → Prop), wp d 157 107 [some (.ref a), l1] [] w 0 Q ↔ wp d 157 108 [some (.ref a), l1] [.ref a] w 0 Q) ∧
  (∀ (d : Nat) (l1 : Option Value) (s0 : Value) (a : Nat) (w : px_H) (Q : Option Value → px_H → Prop), wp d 157 108 [some (.ref a), l1] [s0] w 0 Q ↔ wp d 157 109 [some (.ref a), l1] [.ref a, s0] w 0 Q) ∧
  (∀ (d : Nat) (l0 l1 : Option Value) (s1 : Value) (a : Nat) (w : px_H) (Q : Option Value → px_H → Prop), wp d 157 109 [l0, l1] [.ref a, s1] w 0 Q ↔ px_op (px_fld w a [(11, 0)] 11) (fun v => wp d 157 112 [l0, l1] [v, s1] w 0 Q)) ∧
  (∀ (d : Nat) (l1 : Option Value) (s0 s1 : Value) (a : Nat) (w : px_H) (Q : Option Value → px_H → Prop), wp d 157 112 [some (.ref a), l1] [s0, s1] w 0 Q ↔ wp d 157 113 [some (.ref a), l1] [.ref a, s0, s1] w 0 Q) ∧
  (∀ (d : Nat) (l0 l1 : Option Value) (s1 s2 : Value) (a : Nat) (w : px_H) (Q : Option Value → px_H → Prop), wp d 157 113 [l0, l1] [.ref a, s1, s2] w 0 Q ↔ px_op (px_fld w a [(11, 0)] 12) (fun v => wp d 157 116 [l0, l1] [v, s1, s2] w 0 Q)) ∧
  (∀ (d : Nat) (l0 l1 : Option Value) (s2 : Value) (x y : Int32) (w : px_H) (Q : Option Value → px_H → Prop), wp d 157 116 [l0, l1] [.int y, .int x, s2] w 0 Q ↔ wp d 157 117 [l0, l1] [.int (x - y), s2] w 0 Q) ∧
  (∀ (d : Nat) (l0 l1 : Option Value) (s0 s1 : Value)  (w : px_H) (Q : Option Value → px_H → Prop), wp d 157 117 [l0, l1] [s0, s1] w 0 Q ↔ wp d 157 118 [l0, l1] [.int 3, s0, s1] w 0 Q) ∧
  (∀ (d : Nat) (l0 l1 : Option Value) (s2 : Value) (x y : Int32) (w : px_H) (Q : Option Value → px_H → Prop), wp d 157 118 [l0, l1] [.int y, .int x, s2] w 0 Q ↔ if x ≤ y then wp d 157 125 [l0, l1] [s2] w 0 Q else wp d 157 121 [l0, l1] [s2] w 0 Q) ∧
  (∀ (d : Nat) (l0 l1 : Option Value) (s0 : Value)  (w : px_H) (Q : Option Value → px_H → Prop), wp d 157 121 [l0, l1] [s0] w 0 Q ↔ wp d 157 122 [l0, l1] [.int (-1), s0] w 0 Q) ∧
  (∀ (d : Nat) (l0 l1 : Option Value) (s0 s1 : Value)  (w : px_H) (Q : Option Value → px_H → Prop), wp d 157 122 [l0, l1] [s0, s1] w 0 Q ↔ wp d 157 126 [l0, l1] [s0, s1] w 0 Q) ∧
  (∀ (d : Nat) (l0 l1 : Option Value) (s0 : Value)  (w : px_H) (Q : Option Value → px_H → Prop), wp d 157 125 [l0, l1] [s0] w 0 Q ↔ wp d 157 126 [l0, l1] [.int 1, s0] w 0 Q) ∧
  (∀ (d : Nat) (l0 l1 : Option Value) (x : Int32) (a : Nat) (w : px_H) (Q : Option Value → px_H → Prop), wp d 157 126 [l0, l1] [.int x, .ref a] w 0 Q ↔ px_op (px_pfd w a [(11, 0)] 13 (.int x)) (fun w' => wp d 157 129 [l0, l1] [] w' 0 Q)) ∧
  (∀ (d : Nat) (l0 l1 : Option Value)  (w : px_H) (Q : Option Value → px_H → Prop), wp d 157 129 [l0, l1] [] w 0 Q ↔ wp d 157 174 [l0, l1] [] w 0 Q) ∧
  (∀ (d : Nat) (l1 : Option Value) (a : Nat) (w : px_H) (Q : Option Value → px_H → Prop), wp d 157 132 [some (.ref a), l1] [] w 0 Q ↔ wp d 157 133 [some (.ref a), l1] [.ref a] w 0 Q) ∧
  (∀ (d : Nat) (l0 l1 : Option Value) (s0 : Value)  (w : px_H) (Q : Option Value → px_H → Prop), wp d 157 133 [l0, l1] [s0] w 0 Q ↔ wp d 157 134 [l0, l1] [s0, s0] w 0 Q) ∧
  (∀ (d : Nat) (l0 l1 : Option Value) (s1 : Value) (a : Nat) (w : px_H) (Q : Option Value → px_H → Prop), wp d 157 134 [l0, l1] [.ref a, s1] w 0 Q ↔ px_op (px_fld w a [(11, 0)] 11) (fun v => wp d 157 137 [l0, l1] [v, s1] w 0 Q)) ∧
  (∀ (d : Nat) (l0 l1 : Option Value) (s0 s1 : Value)  (w : px_H) (Q : Option Value → px_H → Prop), wp d 157 137 [l0, l1] [s0, s1] w 0 Q ↔ wp d 157 138 [l0, l1] [.int 1, s0, s1] w 0 Q) ∧
  (∀ (d : Nat) (l0 l1 : Option Value) (s2 : Value) (x y : Int32) (w : px_H) (Q : Option Value → px_H → Prop), wp d 157 138 [l0, l1] [.int y, .int x, s2] w 0 Q ↔ wp d 157 139 [l0, l1] [.int (x + y), s2] w 0 Q) ∧
  (∀ (d : Nat) (l0 l1 : Option Value) (x : Int32) (a : Nat) (w : px_H) (Q : Option Value → px_H → Prop), wp d 157 139 [l0, l1] [.int x, .ref a] w 0 Q ↔ px_op (px_pfd w a [(11, 0)] 11 (.int x)) (fun w' => wp d 157 142 [l0, l1] [] w' 0 Q)) ∧
  (∀ (d : Nat) (l1 : Option Value) (a : Nat) (w : px_H) (Q : Option Value → px_H → Prop), wp d 157 142 [some (.ref a), l1] [] w 0 Q ↔ wp d 157 143 [some (.ref a), l1] [.ref a] w 0 Q) ∧
  (∀ (d : Nat) (l0 : Option Value) (s0 : Value) (x : Int32) (w : px_H) (Q : Option Value → px_H → Prop), wp d 157 143 [l0, some (.int x)] [s0] w 0 Q ↔ wp d 157 144 [l0, some (.int x)] [.int x, s0] w 0 Q) ∧
  (∀ (d : Nat) (l0 l1 : Option Value) (s0 s1 : Value)  (w : px_H) (Q : Option Value → px_H → Prop), wp d 157 144 [l0, l1] [s0, s1] w 0 Q ↔ wp d 157 146 [l0, l1] [.int 97, s0, s1] w 0 Q) ∧
  (∀ (d : Nat) (l0 l1 : Option Value) (s0 s1 s2 : Value)  (w : px_H) (Q : Option Value → px_H → Prop), wp d 157 146 [l0, l1] [s0, s1, s2] w 0 Q ↔ wp d 157 148 [l0, l1] [.int 122, s0, s1, s2] w 0 Q) ∧
  (∀ (d : Nat) (l0 l1 : Option Value) (s3 : Value) (v0 v1 v2 : Value) (w : px_H) (Q : Option Value → px_H → Prop), wp (d + 1) 157 148 [l0, l1] [v2, v1, v0, s3] w 0 Q ↔ wc d 140 [v0, v1, v2] w (fun r w' => wp (d + 1) 157 151 [l0, l1] (r.toList ++ [s3]) w' 0 Q)) ∧
  (∀ (d : Nat) (l0 l1 : Option Value) (s1 : Value) (x : Int32) (w : px_H) (Q : Option Value → px_H → Prop), wp d 157 151 [l0, l1] [.int x, s1] w 0 Q ↔ if x = 0 then wp d 157 154 [l0, l1] [s1] w 0 Q else wp d 157 166 [l0, l1] [s1] w 0 Q) ∧
  (∀ (d : Nat) (l0 : Option Value) (s0 : Value) (x : Int32) (w : px_H) (Q : Option Value → px_H → Prop), wp d 157 154 [l0, some (.int x)] [s0] w 0 Q ↔ wp d 157 155 [l0, some (.int x)] [.int x, s0] w 0 Q) ∧
  (∀ (d : Nat) (l0 l1 : Option Value) (s0 s1 : Value)  (w : px_H) (Q : Option Value → px_H → Prop), wp d 157 155 [l0, l1] [s0, s1] w 0 Q ↔ wp d 157 157 [l0, l1] [.int 44, s0, s1] w 0 Q) ∧
  (∀ (d : Nat) (l0 l1 : Option Value) (s2 : Value) (x y : Int32) (w : px_H) (Q : Option Value → px_H → Prop), wp d 157 157 [l0, l1] [.int y, .int x, s2] w 0 Q ↔ if x = y then wp d 157 166 [l0, l1] [s2] w 0 Q else wp d 157 160 [l0, l1] [s2] w 0 Q) ∧
  (∀ (d : Nat) (l0 : Option Value) (s0 : Value) (x : Int32) (w : px_H) (Q : Option Value → px_H → Prop), wp d 157 160 [l0, some (.int x)] [s0] w 0 Q ↔ wp d 157 161 [l0, some (.int x)] [.int x, s0] w 0 Q) ∧
  (∀ (d : Nat) (l0 l1 : Option Value) (s0 s1 : Value)  (w : px_H) (Q : Option Value → px_H → Prop), wp d 157 161 [l0, l1] [s0, s1] w 0 Q ↔ wp d 157 163 [l0, l1] [.int 59, s0, s1] w 0 Q) ∧
  (∀ (d : Nat) (l0 l1 : Option Value) (s2 : Value) (x y : Int32) (w : px_H) (Q : Option Value → px_H → Prop), wp d 157 163 [l0, l1] [.int y, .int x, s2] w 0 Q ↔ if x = y then wp d 157 166 [l0, l1] [s2] w 0 Q else wp d 157 170 [l0, l1] [s2] w 0 Q) ∧
  (∀ (d : Nat) (l0 : Option Value) (s0 : Value) (x : Int32) (w : px_H) (Q : Option Value → px_H → Prop), wp d 157 166 [l0, some (.int x)] [s0] w 0 Q ↔ wp d 157 167 [l0, some (.int x)] [.int x, s0] w 0 Q) ∧
  (∀ (d : Nat) (l0 l1 : Option Value) (s0 s1 : Value)  (w : px_H) (Q : Option Value → px_H → Prop), wp d 157 167 [l0, l1] [s0, s1] w 0 Q ↔ wp d 157 171 [l0, l1] [s0, s1] w 0 Q) ∧
  (∀ (d : Nat) (l0 l1 : Option Value) (s0 : Value)  (w : px_H) (Q : Option Value → px_H → Prop), wp d 157 170 [l0, l1] [s0] w 0 Q ↔ wp d 157 171 [l0, l1] [.int (-1), s0] w 0 Q) ∧
  (∀ (d : Nat) (l0 l1 : Option Value) (x : Int32) (a : Nat) (w : px_H) (Q : Option Value → px_H → Prop), wp d 157 171 [l0, l1] [.int x, .ref a] w 0 Q ↔ px_op (px_pfd w a [(11, 0)] 13 (.int x)) (fun w' => wp d 157 174 [l0, l1] [] w' 0 Q)) ∧
  (∀ (d : Nat) (l0 l1 : Option Value)  (w : px_H) (Q : Option Value → px_H → Prop), wp d 157 174 [l0, l1] [] w 0 Q ↔ Q none w) := ⟨fun d v0 w Q => r_entry pt_157 (Nat.le_of_ble_eq_true rfl) rfl,
  fun d l1 a w Q => px_go (q := (.aload_n 0, 1, px_x0)) (S' := (1, [some (.ref a), l1], [.ref a], w, 0)) pt_157 rfl rfl,
  fun d l1 s0 a w Q => px_go (q := (.aload_n 0, 1, px_x0)) (S' := (2, [some (.ref a), l1], [.ref a, s0], w, 0)) pt_157 rfl rfl,
  fun d l0 l1 s1 a w Q => px_goO (q := (.getfield 73, 3, (10, 11, [(11, 0)], 0, "AllSwornModel"))) (S' := fun v => (5, [l0, l1], [v, s1], w, 0)) pt_157 rfl rfl,
  fun d l0 l1 x a w Q => r_put pt_157 rfl (by simp only [List.all_cons, List.all_nil, ft_11_12, px_fit, px_isr, Bool.and_self]),
  fun d l1 a w Q => px_go (q := (.aload_n 0, 1, px_x0)) (S' := (9, [some (.ref a), l1], [.ref a], w, 0)) pt_157 rfl rfl,
  fun d l0 l1 s0 w Q => r_iconst pt_157 rfl (by decide),
  fun d l0 l1 x a w Q => r_put pt_157 rfl (by simp only [List.all_cons, List.all_nil, ft_11_14, px_fit, px_isr, Bool.and_self]),
  fun d l1 a w Q => px_go (q := (.aload_n 0, 1, px_x0)) (S' := (14, [some (.ref a), l1], [.ref a], w, 0)) pt_157 rfl rfl,
  fun d l0 l1 b w Q => r_callV (q := (.invokevirtual 82, 3, (33, 0, [(11, 156)], 0, ""))) pt_157 rfl rfl (List.forall_mem_cons.mpr ⟨⟨_, pt_156, Nat.le_of_ble_eq_true rfl, (Nat.le_of_ble_eq_true rfl), rfl⟩, fun _ h => absurd h List.not_mem_nil⟩),
  fun d l0 l1 x w Q => px_go (q := (.istore_n 1, 1, px_x0)) (S' := (18, [l0, some (.int x)], [], w, 0)) pt_157 rfl rfl,
  fun d l0 x w Q => px_go (q := (.iload_n 1, 1, px_x0)) (S' := (19, [l0, some (.int x)], [.int x], w, 0)) pt_157 rfl rfl,
  fun d l0 l1 x w Q => r_if_ge pt_157 rfl rfl,
  fun d l1 a w Q => px_go (q := (.aload_n 0, 1, px_x0)) (S' := (23, [some (.ref a), l1], [.ref a], w, 0)) pt_157 rfl rfl,
  fun d l0 l1 s0 w Q => r_iconst pt_157 rfl (by decide),
  fun d l0 l1 x a w Q => r_put pt_157 rfl (by simp only [List.all_cons, List.all_nil, ft_11_13, px_fit, px_isr, Bool.and_self]),
  fun d l0 l1 w Q => r_goto pt_157 rfl rfl,
  fun d l0 x w Q => px_go (q := (.iload_n 1, 1, px_x0)) (S' := (31, [l0, some (.int x)], [.int x], w, 0)) pt_157 rfl rfl,
  fun d l0 l1 s0 w Q => r_bipush pt_157 rfl (by decide),
  fun d l0 l1 s0 s1 w Q => r_bipush pt_157 rfl (by decide),
  fun d l0 l1 v0 v1 v2 w Q => r_call (q := (.invokestatic 50, 3, (30, 3, [(0, 140)], 0, ""))) pt_157 rfl rfl pt_140 (Nat.le_of_ble_eq_true rfl) (Nat.le_of_ble_eq_true rfl) rfl,
  fun d l0 l1 x w Q => r_if_eq pt_157 rfl rfl,
  fun d l0 l1 b w Q => r_callV (q := (.invokevirtual 82, 3, (33, 0, [(11, 156)], 0, ""))) pt_157 rfl rfl (List.forall_mem_cons.mpr ⟨⟨_, pt_156, Nat.le_of_ble_eq_true rfl, (Nat.le_of_ble_eq_true rfl), rfl⟩, fun _ h => absurd h List.not_mem_nil⟩),
  fun d l0 l1 s0 w Q => r_bipush pt_157 rfl (by decide),
  fun d l0 l1 s0 s1 w Q => r_bipush pt_157 rfl (by decide),
  fun d l0 l1 v0 v1 v2 w Q => r_call (q := (.invokestatic 50, 3, (30, 3, [(0, 140)], 0, ""))) pt_157 rfl rfl pt_140 (Nat.le_of_ble_eq_true rfl) (Nat.le_of_ble_eq_true rfl) rfl,
  fun d l0 l1 x w Q => r_if_eq pt_157 rfl rfl,
  fun d l1 a w Q => px_go (q := (.aload_n 0, 1, px_x0)) (S' := (56, [some (.ref a), l1], [.ref a], w, 0)) pt_157 rfl rfl,
  fun d l1 s0 a w Q => px_go (q := (.aload_n 0, 1, px_x0)) (S' := (57, [some (.ref a), l1], [.ref a, s0], w, 0)) pt_157 rfl rfl,
  fun d l0 l1 s1 a w Q => px_goO (q := (.getfield 73, 3, (10, 11, [(11, 0)], 0, "AllSwornModel"))) (S' := fun v => (60, [l0, l1], [v, s1], w, 0)) pt_157 rfl rfl,
  fun d l1 s0 s1 a w Q => px_go (q := (.aload_n 0, 1, px_x0)) (S' := (61, [some (.ref a), l1], [.ref a, s0, s1], w, 0)) pt_157 rfl rfl,
  fun d l0 l1 s1 s2 a w Q => px_goO (q := (.getfield 76, 3, (10, 12, [(11, 0)], 0, "AllSwornModel"))) (S' := fun v => (64, [l0, l1], [v, s1, s2], w, 0)) pt_157 rfl rfl,
  fun d l0 l1 s2 x y w Q => px_go (q := (.isub, 1, px_x0)) (S' := (65, [l0, l1], [.int (x - y), s2], w, 0)) pt_157 rfl rfl,
  fun d l0 l1 s0 s1 w Q => r_iconst pt_157 rfl (by decide),
  fun d l0 l1 s2 x y w Q => r_icmp_ge pt_157 rfl rfl,
  fun d l0 l1 s0 w Q => r_bipush pt_157 rfl (by decide),
  fun d l1 s0 s1 a w Q => px_go (q := (.aload_n 0, 1, px_x0)) (S' := (72, [some (.ref a), l1], [.ref a, s0, s1], w, 0)) pt_157 rfl rfl,
  fun d l0 l1 s1 s2 a w Q => px_goO (q := (.getfield 79, 3, (10, 14, [(11, 0)], 0, "AllSwornModel"))) (S' := fun v => (75, [l0, l1], [v, s1, s2], w, 0)) pt_157 rfl rfl,
  fun d l0 l1 s2 x y w Q => px_go (q := (.imul, 1, px_x0)) (S' := (76, [l0, l1], [.int (x * y), s2], w, 0)) pt_157 rfl rfl,
  fun d l1 s0 s1 a w Q => px_go (q := (.aload_n 0, 1, px_x0)) (S' := (77, [some (.ref a), l1], [.ref a, s0, s1], w, 0)) pt_157 rfl rfl,
  fun d l0 l1 s1 s2 b w Q => r_callV (q := (.invokevirtual 82, 3, (33, 0, [(11, 156)], 0, ""))) pt_157 rfl rfl (List.forall_mem_cons.mpr ⟨⟨_, pt_156, Nat.le_of_ble_eq_true rfl, (Nat.le_of_ble_eq_true rfl), rfl⟩, fun _ h => absurd h List.not_mem_nil⟩),
  fun d l0 l1 s2 x y w Q => px_go (q := (.iadd, 1, px_x0)) (S' := (81, [l0, l1], [.int (x + y), s2], w, 0)) pt_157 rfl rfl,
  fun d l0 l1 s0 s1 w Q => r_bipush pt_157 rfl (by decide),
  fun d l0 l1 s2 x y w Q => px_go (q := (.isub, 1, px_x0)) (S' := (84, [l0, l1], [.int (x - y), s2], w, 0)) pt_157 rfl rfl,
  fun d l0 l1 s0 s1 w Q => r_goto pt_157 rfl rfl,
  fun d l1 s0 a w Q => px_go (q := (.aload_n 0, 1, px_x0)) (S' := (88, [some (.ref a), l1], [.ref a, s0], w, 0)) pt_157 rfl rfl,
  fun d l0 l1 s1 a w Q => px_goO (q := (.getfield 79, 3, (10, 14, [(11, 0)], 0, "AllSwornModel"))) (S' := fun v => (91, [l0, l1], [v, s1], w, 0)) pt_157 rfl rfl,
  fun d l0 l1 x a w Q => r_put pt_157 rfl (by simp only [List.all_cons, List.all_nil, ft_11_14, px_fit, px_isr, Bool.and_self]),
  fun d l1 a w Q => px_go (q := (.aload_n 0, 1, px_x0)) (S' := (95, [some (.ref a), l1], [.ref a], w, 0)) pt_157 rfl rfl,
  fun d l0 l1 s0 w Q => px_go (q := (.dup, 1, px_x0)) (S' := (96, [l0, l1], [s0, s0], w, 0)) pt_157 rfl rfl,
  fun d l0 l1 s1 a w Q => px_goO (q := (.getfield 73, 3, (10, 11, [(11, 0)], 0, "AllSwornModel"))) (S' := fun v => (99, [l0, l1], [v, s1], w, 0)) pt_157 rfl rfl,
  fun d l0 l1 s0 s1 w Q => r_iconst pt_157 rfl (by decide),
  fun d l0 l1 s2 x y w Q => px_go (q := (.iadd, 1, px_x0)) (S' := (101, [l0, l1], [.int (x + y), s2], w, 0)) pt_157 rfl rfl,
  fun d l0 l1 x a w Q => r_put pt_157 rfl (by simp only [List.all_cons, List.all_nil, ft_11_11, px_fit, px_isr, Bool.and_self]),
  fun d l0 l1 w Q => r_goto pt_157 rfl rfl,
  fun d l1 a w Q => px_go (q := (.aload_n 0, 1, px_x0)) (S' := (108, [some (.ref a), l1], [.ref a], w, 0)) pt_157 rfl rfl,
  fun d l1 s0 a w Q => px_go (q := (.aload_n 0, 1, px_x0)) (S' := (109, [some (.ref a), l1], [.ref a, s0], w, 0)) pt_157 rfl rfl,
  fun d l0 l1 s1 a w Q => px_goO (q := (.getfield 73, 3, (10, 11, [(11, 0)], 0, "AllSwornModel"))) (S' := fun v => (112, [l0, l1], [v, s1], w, 0)) pt_157 rfl rfl,
  fun d l1 s0 s1 a w Q => px_go (q := (.aload_n 0, 1, px_x0)) (S' := (113, [some (.ref a), l1], [.ref a, s0, s1], w, 0)) pt_157 rfl rfl,
  fun d l0 l1 s1 s2 a w Q => px_goO (q := (.getfield 76, 3, (10, 12, [(11, 0)], 0, "AllSwornModel"))) (S' := fun v => (116, [l0, l1], [v, s1, s2], w, 0)) pt_157 rfl rfl,
  fun d l0 l1 s2 x y w Q => px_go (q := (.isub, 1, px_x0)) (S' := (117, [l0, l1], [.int (x - y), s2], w, 0)) pt_157 rfl rfl,
  fun d l0 l1 s0 s1 w Q => r_iconst pt_157 rfl (by decide),
  fun d l0 l1 s2 x y w Q => r_icmp_le pt_157 rfl rfl,
  fun d l0 l1 s0 w Q => r_iconst pt_157 rfl (by decide),
  fun d l0 l1 s0 s1 w Q => r_goto pt_157 rfl rfl,
  fun d l0 l1 s0 w Q => r_iconst pt_157 rfl (by decide),
  fun d l0 l1 x a w Q => r_put pt_157 rfl (by simp only [List.all_cons, List.all_nil, ft_11_13, px_fit, px_isr, Bool.and_self]),
  fun d l0 l1 w Q => r_goto pt_157 rfl rfl,
  fun d l1 a w Q => px_go (q := (.aload_n 0, 1, px_x0)) (S' := (133, [some (.ref a), l1], [.ref a], w, 0)) pt_157 rfl rfl,
  fun d l0 l1 s0 w Q => px_go (q := (.dup, 1, px_x0)) (S' := (134, [l0, l1], [s0, s0], w, 0)) pt_157 rfl rfl,
  fun d l0 l1 s1 a w Q => px_goO (q := (.getfield 73, 3, (10, 11, [(11, 0)], 0, "AllSwornModel"))) (S' := fun v => (137, [l0, l1], [v, s1], w, 0)) pt_157 rfl rfl,
  fun d l0 l1 s0 s1 w Q => r_iconst pt_157 rfl (by decide),
  fun d l0 l1 s2 x y w Q => px_go (q := (.iadd, 1, px_x0)) (S' := (139, [l0, l1], [.int (x + y), s2], w, 0)) pt_157 rfl rfl,
  fun d l0 l1 x a w Q => r_put pt_157 rfl (by simp only [List.all_cons, List.all_nil, ft_11_11, px_fit, px_isr, Bool.and_self]),
  fun d l1 a w Q => px_go (q := (.aload_n 0, 1, px_x0)) (S' := (143, [some (.ref a), l1], [.ref a], w, 0)) pt_157 rfl rfl,
  fun d l0 s0 x w Q => px_go (q := (.iload_n 1, 1, px_x0)) (S' := (144, [l0, some (.int x)], [.int x, s0], w, 0)) pt_157 rfl rfl,
  fun d l0 l1 s0 s1 w Q => r_bipush pt_157 rfl (by decide),
  fun d l0 l1 s0 s1 s2 w Q => r_bipush pt_157 rfl (by decide),
  fun d l0 l1 s3 v0 v1 v2 w Q => r_call (q := (.invokestatic 50, 3, (30, 3, [(0, 140)], 0, ""))) pt_157 rfl rfl pt_140 (Nat.le_of_ble_eq_true rfl) (Nat.le_of_ble_eq_true rfl) rfl,
  fun d l0 l1 s1 x w Q => r_if_ne pt_157 rfl rfl,
  fun d l0 s0 x w Q => px_go (q := (.iload_n 1, 1, px_x0)) (S' := (155, [l0, some (.int x)], [.int x, s0], w, 0)) pt_157 rfl rfl,
  fun d l0 l1 s0 s1 w Q => r_bipush pt_157 rfl (by decide),
  fun d l0 l1 s2 x y w Q => r_icmp_eq pt_157 rfl rfl,
  fun d l0 s0 x w Q => px_go (q := (.iload_n 1, 1, px_x0)) (S' := (161, [l0, some (.int x)], [.int x, s0], w, 0)) pt_157 rfl rfl,
  fun d l0 l1 s0 s1 w Q => r_bipush pt_157 rfl (by decide),
  fun d l0 l1 s2 x y w Q => r_icmp_ne pt_157 rfl rfl,
  fun d l0 s0 x w Q => px_go (q := (.iload_n 1, 1, px_x0)) (S' := (167, [l0, some (.int x)], [.int x, s0], w, 0)) pt_157 rfl rfl,
  fun d l0 l1 s0 s1 w Q => r_goto pt_157 rfl rfl,
  fun d l0 l1 s0 w Q => r_iconst pt_157 rfl (by decide),
  fun d l0 l1 x a w Q => r_put pt_157 rfl (by simp only [List.all_cons, List.all_nil, ft_11_13, px_fit, px_isr, Bool.and_self]),
  fun d l0 l1 w Q => px_ret (q := (.return_, 1, px_x0)) pt_157 rfl rfl⟩
theorem H157_41 : ∀ (d : Nat) (l1 : Option Value) (a : Nat) (w : px_H) (Q : Option Value → px_H → Prop), wp d 157 41 [some (.ref a), l1] [] w 0 Q ↔ wp d 157 42 [some (.ref a), l1] [.ref a] w 0 Q := fun d l1 a w Q => px_go (q := (.aload_n 0, 1, px_x0)) (S' := (42, [some (.ref a), l1], [.ref a], w, 0)) pt_157 rfl rfl
/-- AllSwornModel.fails(I)V -/
theorem S158 : (∀ (d : Nat) (v0 v1 : Value) (w : px_H) (Q : Option Value → px_H → Prop), wc d 158 [v0, v1] w Q ↔ wp d 158 0 [some v0, some v1] [] w 0 Q) ∧
  (∀ (d : Nat) (l1 : Option Value) (a : Nat) (w : px_H) (Q : Option Value → px_H → Prop), wp d 158 0 [some (.ref a), l1] [] w 0 Q ↔ wp d 158 1 [some (.ref a), l1] [.ref a] w 0 Q) ∧
  (∀ (d : Nat) (l0 l1 : Option Value) (a : Nat) (w : px_H) (Q : Option Value → px_H → Prop), wp d 158 1 [l0, l1] [.ref a] w 0 Q ↔ px_op (px_fld w a [(11, 0)] 15) (fun v => wp d 158 4 [l0, l1] [v] w 0 Q)) ∧
  (∀ (d : Nat) (l0 l1 : Option Value) (x : Int32) (w : px_H) (Q : Option Value → px_H → Prop), wp d 158 4 [l0, l1] [.int x] w 0 Q ↔ if x = 0 then wp d 158 7 [l0, l1] [] w 0 Q else wp d 158 20 [l0, l1] [] w 0 Q) ∧
  (∀ (d : Nat) (l1 : Option Value) (a : Nat) (w : px_H) (Q : Option Value → px_H → Prop), wp d 158 7 [some (.ref a), l1] [] w 0 Q ↔ wp d 158 8 [some (.ref a), l1] [.ref a] w 0 Q) ∧
  (∀ (d : Nat) (l0 : Option Value) (s0 : Value) (x : Int32) (w : px_H) (Q : Option Value → px_H → Prop), wp d 158 8 [l0, some (.int x)] [s0] w 0 Q ↔ wp d 158 9 [l0, some (.int x)] [.int x, s0] w 0 Q) ∧
  (∀ (d : Nat) (l0 l1 : Option Value) (x : Int32) (a : Nat) (w : px_H) (Q : Option Value → px_H → Prop), wp d 158 9 [l0, l1] [.int x, .ref a] w 0 Q ↔ px_op (px_pfd w a [(11, 0)] 15 (.int x)) (fun w' => wp d 158 12 [l0, l1] [] w' 0 Q)) ∧
  (∀ (d : Nat) (l1 : Option Value) (a : Nat) (w : px_H) (Q : Option Value → px_H → Prop), wp d 158 12 [some (.ref a), l1] [] w 0 Q ↔ wp d 158 13 [some (.ref a), l1] [.ref a] w 0 Q) ∧
  (∀ (d : Nat) (l1 : Option Value) (s0 : Value) (a : Nat) (w : px_H) (Q : Option Value → px_H → Prop), wp d 158 13 [some (.ref a), l1] [s0] w 0 Q ↔ wp d 158 14 [some (.ref a), l1] [.ref a, s0] w 0 Q) ∧
  (∀ (d : Nat) (l0 l1 : Option Value) (s1 : Value) (a : Nat) (w : px_H) (Q : Option Value → px_H → Prop), wp d 158 14 [l0, l1] [.ref a, s1] w 0 Q ↔ px_op (px_fld w a [(11, 0)] 12) (fun v => wp d 158 17 [l0, l1] [v, s1] w 0 Q)) ∧
  (∀ (d : Nat) (l0 l1 : Option Value) (x : Int32) (a : Nat) (w : px_H) (Q : Option Value → px_H → Prop), wp d 158 17 [l0, l1] [.int x, .ref a] w 0 Q ↔ px_op (px_pfd w a [(11, 0)] 16 (.int x)) (fun w' => wp d 158 20 [l0, l1] [] w' 0 Q)) ∧
  (∀ (d : Nat) (l0 l1 : Option Value)  (w : px_H) (Q : Option Value → px_H → Prop), wp d 158 20 [l0, l1] [] w 0 Q ↔ Q none w) := ⟨fun d v0 v1 w Q => r_entry pt_158 (Nat.le_of_ble_eq_true rfl) rfl,
  fun d l1 a w Q => px_go (q := (.aload_n 0, 1, px_x0)) (S' := (1, [some (.ref a), l1], [.ref a], w, 0)) pt_158 rfl rfl,
  fun d l0 l1 a w Q => px_goO (q := (.getfield 89, 3, (10, 15, [(11, 0)], 0, "AllSwornModel"))) (S' := fun v => (4, [l0, l1], [v], w, 0)) pt_158 rfl rfl,
  fun d l0 l1 x w Q => r_if_ne pt_158 rfl rfl,
  fun d l1 a w Q => px_go (q := (.aload_n 0, 1, px_x0)) (S' := (8, [some (.ref a), l1], [.ref a], w, 0)) pt_158 rfl rfl,
  fun d l0 s0 x w Q => px_go (q := (.iload_n 1, 1, px_x0)) (S' := (9, [l0, some (.int x)], [.int x, s0], w, 0)) pt_158 rfl rfl,
  fun d l0 l1 x a w Q => r_put pt_158 rfl (by simp only [List.all_cons, List.all_nil, ft_11_15, px_fit, px_isr, Bool.and_self]),
  fun d l1 a w Q => px_go (q := (.aload_n 0, 1, px_x0)) (S' := (13, [some (.ref a), l1], [.ref a], w, 0)) pt_158 rfl rfl,
  fun d l1 s0 a w Q => px_go (q := (.aload_n 0, 1, px_x0)) (S' := (14, [some (.ref a), l1], [.ref a, s0], w, 0)) pt_158 rfl rfl,
  fun d l0 l1 s1 a w Q => px_goO (q := (.getfield 76, 3, (10, 12, [(11, 0)], 0, "AllSwornModel"))) (S' := fun v => (17, [l0, l1], [v, s1], w, 0)) pt_158 rfl rfl,
  fun d l0 l1 x a w Q => r_put pt_158 rfl (by simp only [List.all_cons, List.all_nil, ft_11_16, px_fit, px_isr, Bool.and_self]),
  fun d l0 l1 w Q => px_ret (q := (.return_, 1, px_x0)) pt_158 rfl rfl⟩
/-- AllSwornModel.sign(I)V -/
theorem S159 : (∀ (d : Nat) (v0 v1 : Value) (w : px_H) (Q : Option Value → px_H → Prop), wc d 159 [v0, v1] w Q ↔ wp d 159 0 [some v0, some v1] [] w 0 Q) ∧
  (∀ (d : Nat) (l1 : Option Value) (a : Nat) (w : px_H) (Q : Option Value → px_H → Prop), wp d 159 0 [some (.ref a), l1] [] w 0 Q ↔ wp d 159 1 [some (.ref a), l1] [.ref a] w 0 Q) ∧
  (∀ (d : Nat) (l0 l1 : Option Value) (a : Nat) (w : px_H) (Q : Option Value → px_H → Prop), wp d 159 1 [l0, l1] [.ref a] w 0 Q ↔ px_op (px_fld w a [(11, 0)] 15) (fun v => wp d 159 4 [l0, l1] [v] w 0 Q)) ∧
  (∀ (d : Nat) (l0 l1 : Option Value) (x : Int32) (w : px_H) (Q : Option Value → px_H → Prop), wp d 159 4 [l0, l1] [.int x] w 0 Q ↔ if x = 0 then wp d 159 7 [l0, l1] [] w 0 Q else wp d 159 27 [l0, l1] [] w 0 Q) ∧
  (∀ (d : Nat) (l1 : Option Value) (a : Nat) (w : px_H) (Q : Option Value → px_H → Prop), wp d 159 7 [some (.ref a), l1] [] w 0 Q ↔ wp d 159 8 [some (.ref a), l1] [.ref a] w 0 Q) ∧
  (∀ (d : Nat) (l0 l1 : Option Value) (a : Nat) (w : px_H) (Q : Option Value → px_H → Prop), wp d 159 8 [l0, l1] [.ref a] w 0 Q ↔ px_op (px_fld w a [(11, 0)] 13) (fun v => wp d 159 11 [l0, l1] [v] w 0 Q)) ∧
  (∀ (d : Nat) (l0 : Option Value) (s0 : Value) (x : Int32) (w : px_H) (Q : Option Value → px_H → Prop), wp d 159 11 [l0, some (.int x)] [s0] w 0 Q ↔ wp d 159 12 [l0, some (.int x)] [.int x, s0] w 0 Q) ∧
  (∀ (d : Nat) (l0 l1 : Option Value) (x y : Int32) (w : px_H) (Q : Option Value → px_H → Prop), wp d 159 12 [l0, l1] [.int y, .int x] w 0 Q ↔ if x = y then wp d 159 15 [l0, l1] [] w 0 Q else wp d 159 22 [l0, l1] [] w 0 Q) ∧
  (∀ (d : Nat) (l1 : Option Value) (a : Nat) (w : px_H) (Q : Option Value → px_H → Prop), wp d 159 15 [some (.ref a), l1] [] w 0 Q ↔ wp d 159 16 [some (.ref a), l1] [.ref a] w 0 Q) ∧
  (∀ (d : Nat) (l0 l1 : Option Value)  (b : Nat) (w : px_H) (Q : Option Value → px_H → Prop), wp (d + 1) 159 16 [l0, l1] [.ref b] w 0 Q ↔ px_op (px_tgt w b [(11, 157)]) (fun v => wc d v [.ref b] w (fun r w' => wp (d + 1) 159 19 [l0, l1] (r.toList ++ []) w' 0 Q))) ∧
  (∀ (d : Nat) (l0 l1 : Option Value)  (w : px_H) (Q : Option Value → px_H → Prop), wp d 159 19 [l0, l1] [] w 0 Q ↔ wp d 159 27 [l0, l1] [] w 0 Q) ∧
  (∀ (d : Nat) (l1 : Option Value) (a : Nat) (w : px_H) (Q : Option Value → px_H → Prop), wp d 159 22 [some (.ref a), l1] [] w 0 Q ↔ wp d 159 23 [some (.ref a), l1] [.ref a] w 0 Q) ∧
  (∀ (d : Nat) (l0 l1 : Option Value) (s0 : Value)  (w : px_H) (Q : Option Value → px_H → Prop), wp d 159 23 [l0, l1] [s0] w 0 Q ↔ wp d 159 24 [l0, l1] [.int 1, s0] w 0 Q) ∧
  (∀ (d : Nat) (l0 l1 : Option Value) (v0 : Value) (b : Nat) (w : px_H) (Q : Option Value → px_H → Prop), wp (d + 1) 159 24 [l0, l1] [v0, .ref b] w 0 Q ↔ px_op (px_tgt w b [(11, 158)]) (fun v => wc d v [.ref b, v0] w (fun r w' => wp (d + 1) 159 27 [l0, l1] (r.toList ++ []) w' 0 Q))) ∧
  (∀ (d : Nat) (l0 l1 : Option Value)  (w : px_H) (Q : Option Value → px_H → Prop), wp d 159 27 [l0, l1] [] w 0 Q ↔ Q none w) := ⟨fun d v0 v1 w Q => r_entry pt_159 (Nat.le_of_ble_eq_true rfl) rfl,
  fun d l1 a w Q => px_go (q := (.aload_n 0, 1, px_x0)) (S' := (1, [some (.ref a), l1], [.ref a], w, 0)) pt_159 rfl rfl,
  fun d l0 l1 a w Q => px_goO (q := (.getfield 89, 3, (10, 15, [(11, 0)], 0, "AllSwornModel"))) (S' := fun v => (4, [l0, l1], [v], w, 0)) pt_159 rfl rfl,
  fun d l0 l1 x w Q => r_if_ne pt_159 rfl rfl,
  fun d l1 a w Q => px_go (q := (.aload_n 0, 1, px_x0)) (S' := (8, [some (.ref a), l1], [.ref a], w, 0)) pt_159 rfl rfl,
  fun d l0 l1 a w Q => px_goO (q := (.getfield 86, 3, (10, 13, [(11, 0)], 0, "AllSwornModel"))) (S' := fun v => (11, [l0, l1], [v], w, 0)) pt_159 rfl rfl,
  fun d l0 s0 x w Q => px_go (q := (.iload_n 1, 1, px_x0)) (S' := (12, [l0, some (.int x)], [.int x, s0], w, 0)) pt_159 rfl rfl,
  fun d l0 l1 x y w Q => r_icmp_ne pt_159 rfl rfl,
  fun d l1 a w Q => px_go (q := (.aload_n 0, 1, px_x0)) (S' := (16, [some (.ref a), l1], [.ref a], w, 0)) pt_159 rfl rfl,
  fun d l0 l1 b w Q => r_callV (q := (.invokevirtual 95, 3, (33, 0, [(11, 157)], 0, ""))) pt_159 rfl rfl (List.forall_mem_cons.mpr ⟨⟨_, pt_157, Nat.le_of_ble_eq_true rfl, (Nat.le_of_ble_eq_true rfl), rfl⟩, fun _ h => absurd h List.not_mem_nil⟩),
  fun d l0 l1 w Q => r_goto pt_159 rfl rfl,
  fun d l1 a w Q => px_go (q := (.aload_n 0, 1, px_x0)) (S' := (23, [some (.ref a), l1], [.ref a], w, 0)) pt_159 rfl rfl,
  fun d l0 l1 s0 w Q => r_iconst pt_159 rfl (by decide),
  fun d l0 l1 v0 b w Q => r_callV (q := (.invokevirtual 98, 3, (33, 1, [(11, 158)], 0, ""))) pt_159 rfl rfl (List.forall_mem_cons.mpr ⟨⟨_, pt_158, Nat.le_of_ble_eq_true rfl, (Nat.le_of_ble_eq_true rfl), rfl⟩, fun _ h => absurd h List.not_mem_nil⟩),
  fun d l0 l1 w Q => px_ret (q := (.return_, 1, px_x0)) pt_159 rfl rfl⟩
/-- AllSwornModel.numberBut(III)I -/
theorem S160 : (∀ (d : Nat) (v0 v1 v2 v3 : Value) (w : px_H) (Q : Option Value → px_H → Prop), wc d 160 [v0, v1, v2, v3] w Q ↔ wp d 160 0 [some v0, some v1, some v2, some v3, none] [] w 0 Q) ∧
  (∀ (d : Nat) (l1 l2 l3 l4 : Option Value) (a : Nat) (w : px_H) (Q : Option Value → px_H → Prop), wp d 160 0 [some (.ref a), l1, l2, l3, l4] [] w 0 Q ↔ wp d 160 1 [some (.ref a), l1, l2, l3, l4] [.ref a] w 0 Q) ∧
  (∀ (d : Nat) (l0 l1 l2 l3 l4 : Option Value) (a : Nat) (w : px_H) (Q : Option Value → px_H → Prop), wp d 160 1 [l0, l1, l2, l3, l4] [.ref a] w 0 Q ↔ px_op (px_fld w a [(11, 0)] 14) (fun v => wp d 160 4 [l0, l1, l2, l3, l4] [v] w 0 Q)) ∧
  (∀ (d : Nat) (l0 l1 l2 l3 l4 : Option Value) (x : Int32) (w : px_H) (Q : Option Value → px_H → Prop), wp d 160 4 [l0, l1, l2, l3, l4] [.int x] w 0 Q ↔ wp d 160 6 [l0, l1, l2, l3, some (.int x)] [] w 0 Q) ∧
  (∀ (d : Nat) (l1 l2 l3 l4 : Option Value) (a : Nat) (w : px_H) (Q : Option Value → px_H → Prop), wp d 160 6 [some (.ref a), l1, l2, l3, l4] [] w 0 Q ↔ wp d 160 7 [some (.ref a), l1, l2, l3, l4] [.ref a] w 0 Q) ∧
  (∀ (d : Nat) (l0 l1 l2 l3 l4 : Option Value) (a : Nat) (w : px_H) (Q : Option Value → px_H → Prop), wp d 160 7 [l0, l1, l2, l3, l4] [.ref a] w 0 Q ↔ px_op (px_fld w a [(11, 0)] 15) (fun v => wp d 160 10 [l0, l1, l2, l3, l4] [v] w 0 Q)) ∧
  (∀ (d : Nat) (l0 l1 l2 l3 l4 : Option Value) (x : Int32) (w : px_H) (Q : Option Value → px_H → Prop), wp d 160 10 [l0, l1, l2, l3, l4] [.int x] w 0 Q ↔ if x = 0 then wp d 160 13 [l0, l1, l2, l3, l4] [] w 0 Q else wp d 160 61 [l0, l1, l2, l3, l4] [] w 0 Q) ∧
  (∀ (d : Nat) (l1 l2 l3 l4 : Option Value) (a : Nat) (w : px_H) (Q : Option Value → px_H → Prop), wp d 160 13 [some (.ref a), l1, l2, l3, l4] [] w 0 Q ↔ wp d 160 14 [some (.ref a), l1, l2, l3, l4] [.ref a] w 0 Q) ∧
  (∀ (d : Nat) (l0 l1 l2 l3 l4 : Option Value) (a : Nat) (w : px_H) (Q : Option Value → px_H → Prop), wp d 160 14 [l0, l1, l2, l3, l4] [.ref a] w 0 Q ↔ px_op (px_fld w a [(11, 0)] 13) (fun v => wp d 160 17 [l0, l1, l2, l3, l4] [v] w 0 Q)) ∧
  (∀ (d : Nat) (l0 l1 l2 l3 l4 : Option Value) (s0 : Value)  (w : px_H) (Q : Option Value → px_H → Prop), wp d 160 17 [l0, l1, l2, l3, l4] [s0] w 0 Q ↔ wp d 160 18 [l0, l1, l2, l3, l4] [.int 1, s0] w 0 Q) ∧
  (∀ (d : Nat) (l0 l1 l2 l3 l4 : Option Value) (x y : Int32) (w : px_H) (Q : Option Value → px_H → Prop), wp d 160 18 [l0, l1, l2, l3, l4] [.int y, .int x] w 0 Q ↔ if x = y then wp d 160 29 [l0, l1, l2, l3, l4] [] w 0 Q else wp d 160 21 [l0, l1, l2, l3, l4] [] w 0 Q) ∧
  (∀ (d : Nat) (l1 l2 l3 l4 : Option Value) (a : Nat) (w : px_H) (Q : Option Value → px_H → Prop), wp d 160 21 [some (.ref a), l1, l2, l3, l4] [] w 0 Q ↔ wp d 160 22 [some (.ref a), l1, l2, l3, l4] [.ref a] w 0 Q) ∧
  (∀ (d : Nat) (l0 l1 l2 l3 l4 : Option Value) (s0 : Value)  (w : px_H) (Q : Option Value → px_H → Prop), wp d 160 22 [l0, l1, l2, l3, l4] [s0] w 0 Q ↔ wp d 160 23 [l0, l1, l2, l3, l4] [.int 1, s0] w 0 Q) ∧
  (∀ (d : Nat) (l0 l1 l2 l3 l4 : Option Value) (v0 : Value) (b : Nat) (w : px_H) (Q : Option Value → px_H → Prop), wp (d + 1) 160 23 [l0, l1, l2, l3, l4] [v0, .ref b] w 0 Q ↔ px_op (px_tgt w b [(11, 158)]) (fun v => wc d v [.ref b, v0] w (fun r w' => wp (d + 1) 160 26 [l0, l1, l2, l3, l4] (r.toList ++ []) w' 0 Q))) ∧
  (∀ (d : Nat) (l0 l1 l2 l3 l4 : Option Value)  (w : px_H) (Q : Option Value → px_H → Prop), wp d 160 26 [l0, l1, l2, l3, l4] [] w 0 Q ↔ wp d 160 61 [l0, l1, l2, l3, l4] [] w 0 Q) ∧
  (∀ (d : Nat) (l1 l2 l3 l4 : Option Value) (a : Nat) (w : px_H) (Q : Option Value → px_H → Prop), wp d 160 29 [some (.ref a), l1, l2, l3, l4] [] w 0 Q ↔ wp d 160 30 [some (.ref a), l1, l2, l3, l4] [.ref a] w 0 Q) ∧
  (∀ (d : Nat) (l0 l1 l2 l3 l4 : Option Value) (a : Nat) (w : px_H) (Q : Option Value → px_H → Prop), wp d 160 30 [l0, l1, l2, l3, l4] [.ref a] w 0 Q ↔ px_op (px_fld w a [(11, 0)] 14) (fun v => wp d 160 33 [l0, l1, l2, l3, l4] [v] w 0 Q)) ∧
  (∀ (d : Nat) (l0 l2 l3 l4 : Option Value) (s0 : Value) (x : Int32) (w : px_H) (Q : Option Value → px_H → Prop), wp d 160 33 [l0, some (.int x), l2, l3, l4] [s0] w 0 Q ↔ wp d 160 34 [l0, some (.int x), l2, l3, l4] [.int x, s0] w 0 Q) ∧
  (∀ (d : Nat) (l0 l1 l3 l4 : Option Value) (s0 s1 : Value) (x : Int32) (w : px_H) (Q : Option Value → px_H → Prop), wp d 160 34 [l0, l1, some (.int x), l3, l4] [s0, s1] w 0 Q ↔ wp d 160 35 [l0, l1, some (.int x), l3, l4] [.int x, s0, s1] w 0 Q) ∧
  (∀ (d : Nat) (l0 l1 l2 l3 l4 : Option Value) (v0 v1 v2 : Value) (w : px_H) (Q : Option Value → px_H → Prop), wp (d + 1) 160 35 [l0, l1, l2, l3, l4] [v2, v1, v0] w 0 Q ↔ wc d 140 [v0, v1, v2] w (fun r w' => wp (d + 1) 160 38 [l0, l1, l2, l3, l4] (r.toList ++ []) w' 0 Q)) ∧
  (∀ (d : Nat) (l0 l1 l2 l3 l4 : Option Value) (x : Int32) (w : px_H) (Q : Option Value → px_H → Prop), wp d 160 38 [l0, l1, l2, l3, l4] [.int x] w 0 Q ↔ if x = 0 then wp d 160 49 [l0, l1, l2, l3, l4] [] w 0 Q else wp d 160 41 [l0, l1, l2, l3, l4] [] w 0 Q) ∧
  (∀ (d : Nat) (l1 l2 l3 l4 : Option Value) (a : Nat) (w : px_H) (Q : Option Value → px_H → Prop), wp d 160 41 [some (.ref a), l1, l2, l3, l4] [] w 0 Q ↔ wp d 160 42 [some (.ref a), l1, l2, l3, l4] [.ref a] w 0 Q) ∧
  (∀ (d : Nat) (l0 l1 l2 l3 l4 : Option Value) (a : Nat) (w : px_H) (Q : Option Value → px_H → Prop), wp d 160 42 [l0, l1, l2, l3, l4] [.ref a] w 0 Q ↔ px_op (px_fld w a [(11, 0)] 14) (fun v => wp d 160 45 [l0, l1, l2, l3, l4] [v] w 0 Q)) ∧
  (∀ (d : Nat) (l0 l1 l2 l4 : Option Value) (s0 : Value) (x : Int32) (w : px_H) (Q : Option Value → px_H → Prop), wp d 160 45 [l0, l1, l2, some (.int x), l4] [s0] w 0 Q ↔ wp d 160 46 [l0, l1, l2, some (.int x), l4] [.int x, s0] w 0 Q) ∧
  (∀ (d : Nat) (l0 l1 l2 l3 l4 : Option Value) (x y : Int32) (w : px_H) (Q : Option Value → px_H → Prop), wp d 160 46 [l0, l1, l2, l3, l4] [.int y, .int x] w 0 Q ↔ if x = y then wp d 160 49 [l0, l1, l2, l3, l4] [] w 0 Q else wp d 160 57 [l0, l1, l2, l3, l4] [] w 0 Q) ∧
  (∀ (d : Nat) (l1 l2 l3 l4 : Option Value) (a : Nat) (w : px_H) (Q : Option Value → px_H → Prop), wp d 160 49 [some (.ref a), l1, l2, l3, l4] [] w 0 Q ↔ wp d 160 50 [some (.ref a), l1, l2, l3, l4] [.ref a] w 0 Q) ∧
  (∀ (d : Nat) (l0 l1 l2 l3 l4 : Option Value) (s0 : Value)  (w : px_H) (Q : Option Value → px_H → Prop), wp d 160 50 [l0, l1, l2, l3, l4] [s0] w 0 Q ↔ wp d 160 51 [l0, l1, l2, l3, l4] [.int 2, s0] w 0 Q) ∧
  (∀ (d : Nat) (l0 l1 l2 l3 l4 : Option Value) (v0 : Value) (b : Nat) (w : px_H) (Q : Option Value → px_H → Prop), wp (d + 1) 160 51 [l0, l1, l2, l3, l4] [v0, .ref b] w 0 Q ↔ px_op (px_tgt w b [(11, 158)]) (fun v => wc d v [.ref b, v0] w (fun r w' => wp (d + 1) 160 54 [l0, l1, l2, l3, l4] (r.toList ++ []) w' 0 Q))) ∧
  (∀ (d : Nat) (l0 l1 l2 l3 l4 : Option Value)  (w : px_H) (Q : Option Value → px_H → Prop), wp d 160 54 [l0, l1, l2, l3, l4] [] w 0 Q ↔ wp d 160 61 [l0, l1, l2, l3, l4] [] w 0 Q) ∧
  (∀ (d : Nat) (l1 l2 l3 l4 : Option Value) (a : Nat) (w : px_H) (Q : Option Value → px_H → Prop), wp d 160 57 [some (.ref a), l1, l2, l3, l4] [] w 0 Q ↔ wp d 160 58 [some (.ref a), l1, l2, l3, l4] [.ref a] w 0 Q) ∧
  (∀ (d : Nat) (l0 l1 l2 l3 l4 : Option Value)  (b : Nat) (w : px_H) (Q : Option Value → px_H → Prop), wp (d + 1) 160 58 [l0, l1, l2, l3, l4] [.ref b] w 0 Q ↔ px_op (px_tgt w b [(11, 157)]) (fun v => wc d v [.ref b] w (fun r w' => wp (d + 1) 160 61 [l0, l1, l2, l3, l4] (r.toList ++ []) w' 0 Q))) ∧
  (∀ (d : Nat) (l0 l1 l2 l3 : Option Value) (x : Int32) (w : px_H) (Q : Option Value → px_H → Prop), wp d 160 61 [l0, l1, l2, l3, some (.int x)] [] w 0 Q ↔ wp d 160 63 [l0, l1, l2, l3, some (.int x)] [.int x] w 0 Q) ∧
  (∀ (d : Nat) (l0 l1 l2 l3 l4 : Option Value) (x : Int32) (w : px_H) (Q : Option Value → px_H → Prop), wp d 160 63 [l0, l1, l2, l3, l4] [.int x] w 0 Q ↔ Q (some (.int x)) w) := ⟨fun d v0 v1 v2 v3 w Q => r_entry pt_160 (Nat.le_of_ble_eq_true rfl) rfl,
  fun d l1 l2 l3 l4 a w Q => px_go (q := (.aload_n 0, 1, px_x0)) (S' := (1, [some (.ref a), l1, l2, l3, l4], [.ref a], w, 0)) pt_160 rfl rfl,
  fun d l0 l1 l2 l3 l4 a w Q => px_goO (q := (.getfield 79, 3, (10, 14, [(11, 0)], 0, "AllSwornModel"))) (S' := fun v => (4, [l0, l1, l2, l3, l4], [v], w, 0)) pt_160 rfl rfl,
  fun d l0 l1 l2 l3 l4 x w Q => px_go (q := (.istore 4, 2, px_x0)) (S' := (6, [l0, l1, l2, l3, some (.int x)], [], w, 0)) pt_160 rfl rfl,
  fun d l1 l2 l3 l4 a w Q => px_go (q := (.aload_n 0, 1, px_x0)) (S' := (7, [some (.ref a), l1, l2, l3, l4], [.ref a], w, 0)) pt_160 rfl rfl,
  fun d l0 l1 l2 l3 l4 a w Q => px_goO (q := (.getfield 89, 3, (10, 15, [(11, 0)], 0, "AllSwornModel"))) (S' := fun v => (10, [l0, l1, l2, l3, l4], [v], w, 0)) pt_160 rfl rfl,
  fun d l0 l1 l2 l3 l4 x w Q => r_if_ne pt_160 rfl rfl,
  fun d l1 l2 l3 l4 a w Q => px_go (q := (.aload_n 0, 1, px_x0)) (S' := (14, [some (.ref a), l1, l2, l3, l4], [.ref a], w, 0)) pt_160 rfl rfl,
  fun d l0 l1 l2 l3 l4 a w Q => px_goO (q := (.getfield 86, 3, (10, 13, [(11, 0)], 0, "AllSwornModel"))) (S' := fun v => (17, [l0, l1, l2, l3, l4], [v], w, 0)) pt_160 rfl rfl,
  fun d l0 l1 l2 l3 l4 s0 w Q => r_iconst pt_160 rfl (by decide),
  fun d l0 l1 l2 l3 l4 x y w Q => r_icmp_eq pt_160 rfl rfl,
  fun d l1 l2 l3 l4 a w Q => px_go (q := (.aload_n 0, 1, px_x0)) (S' := (22, [some (.ref a), l1, l2, l3, l4], [.ref a], w, 0)) pt_160 rfl rfl,
  fun d l0 l1 l2 l3 l4 s0 w Q => r_iconst pt_160 rfl (by decide),
  fun d l0 l1 l2 l3 l4 v0 b w Q => r_callV (q := (.invokevirtual 98, 3, (33, 1, [(11, 158)], 0, ""))) pt_160 rfl rfl (List.forall_mem_cons.mpr ⟨⟨_, pt_158, Nat.le_of_ble_eq_true rfl, (Nat.le_of_ble_eq_true rfl), rfl⟩, fun _ h => absurd h List.not_mem_nil⟩),
  fun d l0 l1 l2 l3 l4 w Q => r_goto pt_160 rfl rfl,
  fun d l1 l2 l3 l4 a w Q => px_go (q := (.aload_n 0, 1, px_x0)) (S' := (30, [some (.ref a), l1, l2, l3, l4], [.ref a], w, 0)) pt_160 rfl rfl,
  fun d l0 l1 l2 l3 l4 a w Q => px_goO (q := (.getfield 79, 3, (10, 14, [(11, 0)], 0, "AllSwornModel"))) (S' := fun v => (33, [l0, l1, l2, l3, l4], [v], w, 0)) pt_160 rfl rfl,
  fun d l0 l2 l3 l4 s0 x w Q => px_go (q := (.iload_n 1, 1, px_x0)) (S' := (34, [l0, some (.int x), l2, l3, l4], [.int x, s0], w, 0)) pt_160 rfl rfl,
  fun d l0 l1 l3 l4 s0 s1 x w Q => px_go (q := (.iload_n 2, 1, px_x0)) (S' := (35, [l0, l1, some (.int x), l3, l4], [.int x, s0, s1], w, 0)) pt_160 rfl rfl,
  fun d l0 l1 l2 l3 l4 v0 v1 v2 w Q => r_call (q := (.invokestatic 50, 3, (30, 3, [(0, 140)], 0, ""))) pt_160 rfl rfl pt_140 (Nat.le_of_ble_eq_true rfl) (Nat.le_of_ble_eq_true rfl) rfl,
  fun d l0 l1 l2 l3 l4 x w Q => r_if_eq pt_160 rfl rfl,
  fun d l1 l2 l3 l4 a w Q => px_go (q := (.aload_n 0, 1, px_x0)) (S' := (42, [some (.ref a), l1, l2, l3, l4], [.ref a], w, 0)) pt_160 rfl rfl,
  fun d l0 l1 l2 l3 l4 a w Q => px_goO (q := (.getfield 79, 3, (10, 14, [(11, 0)], 0, "AllSwornModel"))) (S' := fun v => (45, [l0, l1, l2, l3, l4], [v], w, 0)) pt_160 rfl rfl,
  fun d l0 l1 l2 l4 s0 x w Q => px_go (q := (.iload_n 3, 1, px_x0)) (S' := (46, [l0, l1, l2, some (.int x), l4], [.int x, s0], w, 0)) pt_160 rfl rfl,
  fun d l0 l1 l2 l3 l4 x y w Q => r_icmp_ne pt_160 rfl rfl,
  fun d l1 l2 l3 l4 a w Q => px_go (q := (.aload_n 0, 1, px_x0)) (S' := (50, [some (.ref a), l1, l2, l3, l4], [.ref a], w, 0)) pt_160 rfl rfl,
  fun d l0 l1 l2 l3 l4 s0 w Q => r_iconst pt_160 rfl (by decide),
  fun d l0 l1 l2 l3 l4 v0 b w Q => r_callV (q := (.invokevirtual 98, 3, (33, 1, [(11, 158)], 0, ""))) pt_160 rfl rfl (List.forall_mem_cons.mpr ⟨⟨_, pt_158, Nat.le_of_ble_eq_true rfl, (Nat.le_of_ble_eq_true rfl), rfl⟩, fun _ h => absurd h List.not_mem_nil⟩),
  fun d l0 l1 l2 l3 l4 w Q => r_goto pt_160 rfl rfl,
  fun d l1 l2 l3 l4 a w Q => px_go (q := (.aload_n 0, 1, px_x0)) (S' := (58, [some (.ref a), l1, l2, l3, l4], [.ref a], w, 0)) pt_160 rfl rfl,
  fun d l0 l1 l2 l3 l4 b w Q => r_callV (q := (.invokevirtual 95, 3, (33, 0, [(11, 157)], 0, ""))) pt_160 rfl rfl (List.forall_mem_cons.mpr ⟨⟨_, pt_157, Nat.le_of_ble_eq_true rfl, (Nat.le_of_ble_eq_true rfl), rfl⟩, fun _ h => absurd h List.not_mem_nil⟩),
  fun d l0 l1 l2 l3 x w Q => px_go (q := (.iload 4, 2, px_x0)) (S' := (63, [l0, l1, l2, l3, some (.int x)], [.int x], w, 0)) pt_160 rfl rfl,
  fun d l0 l1 l2 l3 l4 x w Q => px_ret (q := (.ireturn, 1, px_x0)) pt_160 rfl rfl⟩
/-- AllSwornModel.number(III)I -/
theorem S161 : (∀ (d : Nat) (v0 v1 v2 v3 : Value) (w : px_H) (Q : Option Value → px_H → Prop), wc d 161 [v0, v1, v2, v3] w Q ↔ wp d 161 0 [some v0, some v1, some v2, some v3, none] [] w 0 Q) ∧
  (∀ (d : Nat) (l1 l2 l3 l4 : Option Value) (a : Nat) (w : px_H) (Q : Option Value → px_H → Prop), wp d 161 0 [some (.ref a), l1, l2, l3, l4] [] w 0 Q ↔ wp d 161 1 [some (.ref a), l1, l2, l3, l4] [.ref a] w 0 Q) ∧
  (∀ (d : Nat) (l0 l2 l3 l4 : Option Value) (s0 : Value) (x : Int32) (w : px_H) (Q : Option Value → px_H → Prop), wp d 161 1 [l0, some (.int x), l2, l3, l4] [s0] w 0 Q ↔ wp d 161 2 [l0, some (.int x), l2, l3, l4] [.int x, s0] w 0 Q) ∧
  (∀ (d : Nat) (l0 l1 l3 l4 : Option Value) (s0 s1 : Value) (x : Int32) (w : px_H) (Q : Option Value → px_H → Prop), wp d 161 2 [l0, l1, some (.int x), l3, l4] [s0, s1] w 0 Q ↔ wp d 161 3 [l0, l1, some (.int x), l3, l4] [.int x, s0, s1] w 0 Q) ∧
  (∀ (d : Nat) (l0 l1 l2 l3 l4 : Option Value) (s0 s1 s2 : Value)  (w : px_H) (Q : Option Value → px_H → Prop), wp d 161 3 [l0, l1, l2, l3, l4] [s0, s1, s2] w 0 Q ↔ wp d 161 4 [l0, l1, l2, l3, l4] [.int (-1), s0, s1, s2] w 0 Q) ∧
  (∀ (d : Nat) (l0 l1 l2 l3 l4 : Option Value) (v0 v1 v2 : Value) (b : Nat) (w : px_H) (Q : Option Value → px_H → Prop), wp (d + 1) 161 4 [l0, l1, l2, l3, l4] [v2, v1, v0, .ref b] w 0 Q ↔ px_op (px_tgt w b [(11, 160)]) (fun v => wc d v [.ref b, v0, v1, v2] w (fun r w' => wp (d + 1) 161 7 [l0, l1, l2, l3, l4] (r.toList ++ []) w' 0 Q))) ∧
  (∀ (d : Nat) (l0 l1 l2 l3 l4 : Option Value) (x : Int32) (w : px_H) (Q : Option Value → px_H → Prop), wp d 161 7 [l0, l1, l2, l3, l4] [.int x] w 0 Q ↔ wp d 161 9 [l0, l1, l2, l3, some (.int x)] [] w 0 Q) ∧
  (∀ (d : Nat) (l1 l2 l3 l4 : Option Value) (a : Nat) (w : px_H) (Q : Option Value → px_H → Prop), wp d 161 9 [some (.ref a), l1, l2, l3, l4] [] w 0 Q ↔ wp d 161 10 [some (.ref a), l1, l2, l3, l4] [.ref a] w 0 Q) ∧
  (∀ (d : Nat) (l0 l1 l2 l4 : Option Value) (s0 : Value) (x : Int32) (w : px_H) (Q : Option Value → px_H → Prop), wp d 161 10 [l0, l1, l2, some (.int x), l4] [s0] w 0 Q ↔ wp d 161 11 [l0, l1, l2, some (.int x), l4] [.int x, s0] w 0 Q) ∧
  (∀ (d : Nat) (l0 l1 l2 l3 l4 : Option Value) (v0 : Value) (b : Nat) (w : px_H) (Q : Option Value → px_H → Prop), wp (d + 1) 161 11 [l0, l1, l2, l3, l4] [v0, .ref b] w 0 Q ↔ px_op (px_tgt w b [(11, 159)]) (fun v => wc d v [.ref b, v0] w (fun r w' => wp (d + 1) 161 14 [l0, l1, l2, l3, l4] (r.toList ++ []) w' 0 Q))) ∧
  (∀ (d : Nat) (l0 l1 l2 l3 : Option Value) (x : Int32) (w : px_H) (Q : Option Value → px_H → Prop), wp d 161 14 [l0, l1, l2, l3, some (.int x)] [] w 0 Q ↔ wp d 161 16 [l0, l1, l2, l3, some (.int x)] [.int x] w 0 Q) ∧
  (∀ (d : Nat) (l0 l1 l2 l3 l4 : Option Value) (x : Int32) (w : px_H) (Q : Option Value → px_H → Prop), wp d 161 16 [l0, l1, l2, l3, l4] [.int x] w 0 Q ↔ Q (some (.int x)) w) := ⟨fun d v0 v1 v2 v3 w Q => r_entry pt_161 (Nat.le_of_ble_eq_true rfl) rfl,
  fun d l1 l2 l3 l4 a w Q => px_go (q := (.aload_n 0, 1, px_x0)) (S' := (1, [some (.ref a), l1, l2, l3, l4], [.ref a], w, 0)) pt_161 rfl rfl,
  fun d l0 l2 l3 l4 s0 x w Q => px_go (q := (.iload_n 1, 1, px_x0)) (S' := (2, [l0, some (.int x), l2, l3, l4], [.int x, s0], w, 0)) pt_161 rfl rfl,
  fun d l0 l1 l3 l4 s0 s1 x w Q => px_go (q := (.iload_n 2, 1, px_x0)) (S' := (3, [l0, l1, some (.int x), l3, l4], [.int x, s0, s1], w, 0)) pt_161 rfl rfl,
  fun d l0 l1 l2 l3 l4 s0 s1 s2 w Q => r_iconst pt_161 rfl (by decide),
  fun d l0 l1 l2 l3 l4 v0 v1 v2 b w Q => r_callV (q := (.invokevirtual 102, 3, (33, 3, [(11, 160)], 0, ""))) pt_161 rfl rfl (List.forall_mem_cons.mpr ⟨⟨_, pt_160, Nat.le_of_ble_eq_true rfl, (Nat.le_of_ble_eq_true rfl), rfl⟩, fun _ h => absurd h List.not_mem_nil⟩),
  fun d l0 l1 l2 l3 l4 x w Q => px_go (q := (.istore 4, 2, px_x0)) (S' := (9, [l0, l1, l2, l3, some (.int x)], [], w, 0)) pt_161 rfl rfl,
  fun d l1 l2 l3 l4 a w Q => px_go (q := (.aload_n 0, 1, px_x0)) (S' := (10, [some (.ref a), l1, l2, l3, l4], [.ref a], w, 0)) pt_161 rfl rfl,
  fun d l0 l1 l2 l4 s0 x w Q => px_go (q := (.iload_n 3, 1, px_x0)) (S' := (11, [l0, l1, l2, some (.int x), l4], [.int x, s0], w, 0)) pt_161 rfl rfl,
  fun d l0 l1 l2 l3 l4 v0 b w Q => r_callV (q := (.invokevirtual 106, 3, (33, 1, [(11, 159)], 0, ""))) pt_161 rfl rfl (List.forall_mem_cons.mpr ⟨⟨_, pt_159, Nat.le_of_ble_eq_true rfl, (Nat.le_of_ble_eq_true rfl), rfl⟩, fun _ h => absurd h List.not_mem_nil⟩),
  fun d l0 l1 l2 l3 x w Q => px_go (q := (.iload 4, 2, px_x0)) (S' := (16, [l0, l1, l2, l3, some (.int x)], [.int x], w, 0)) pt_161 rfl rfl,
  fun d l0 l1 l2 l3 l4 x w Q => px_ret (q := (.ireturn, 1, px_x0)) pt_161 rfl rfl⟩
/-- AllSwornModel.kindOf(I)I -/
theorem S162 : (∀ (d : Nat) (v0 : Value) (w : px_H) (Q : Option Value → px_H → Prop), wc d 162 [v0] w Q ↔ wp d 162 0 [some v0] [] w 0 Q) ∧
  (∀ (d : Nat) (x : Int32) (w : px_H) (Q : Option Value → px_H → Prop), wp d 162 0 [some (.int x)] [] w 0 Q ↔ wp d 162 1 [some (.int x)] [.int x] w 0 Q) ∧
  (∀ (d : Nat) (l0 : Option Value) (s0 : Value)  (w : px_H) (Q : Option Value → px_H → Prop), wp d 162 1 [l0] [s0] w 0 Q ↔ wp d 162 3 [l0] [.int 112, s0] w 0 Q) ∧
  (∀ (d : Nat) (l0 : Option Value) (x y : Int32) (w : px_H) (Q : Option Value → px_H → Prop), wp d 162 3 [l0] [.int y, .int x] w 0 Q ↔ if x = y then wp d 162 6 [l0] [] w 0 Q else wp d 162 10 [l0] [] w 0 Q) ∧
  (∀ (d : Nat) (l0 : Option Value)  (w : px_H) (Q : Option Value → px_H → Prop), wp d 162 6 [l0] [] w 0 Q ↔ wp d 162 7 [l0] [.int 1] w 0 Q) ∧
  (∀ (d : Nat) (l0 : Option Value) (s0 : Value)  (w : px_H) (Q : Option Value → px_H → Prop), wp d 162 7 [l0] [s0] w 0 Q ↔ wp d 162 51 [l0] [s0] w 0 Q) ∧
  (∀ (d : Nat) (x : Int32) (w : px_H) (Q : Option Value → px_H → Prop), wp d 162 10 [some (.int x)] [] w 0 Q ↔ wp d 162 11 [some (.int x)] [.int x] w 0 Q) ∧
  (∀ (d : Nat) (l0 : Option Value) (s0 : Value)  (w : px_H) (Q : Option Value → px_H → Prop), wp d 162 11 [l0] [s0] w 0 Q ↔ wp d 162 13 [l0] [.int 109, s0] w 0 Q) ∧
  (∀ (d : Nat) (l0 : Option Value) (x y : Int32) (w : px_H) (Q : Option Value → px_H → Prop), wp d 162 13 [l0] [.int y, .int x] w 0 Q ↔ if x = y then wp d 162 16 [l0] [] w 0 Q else wp d 162 20 [l0] [] w 0 Q) ∧
  (∀ (d : Nat) (l0 : Option Value)  (w : px_H) (Q : Option Value → px_H → Prop), wp d 162 16 [l0] [] w 0 Q ↔ wp d 162 17 [l0] [.int 2] w 0 Q) ∧
  (∀ (d : Nat) (l0 : Option Value) (s0 : Value)  (w : px_H) (Q : Option Value → px_H → Prop), wp d 162 17 [l0] [s0] w 0 Q ↔ wp d 162 51 [l0] [s0] w 0 Q) ∧
  (∀ (d : Nat) (x : Int32) (w : px_H) (Q : Option Value → px_H → Prop), wp d 162 20 [some (.int x)] [] w 0 Q ↔ wp d 162 21 [some (.int x)] [.int x] w 0 Q) ∧
  (∀ (d : Nat) (l0 : Option Value) (s0 : Value)  (w : px_H) (Q : Option Value → px_H → Prop), wp d 162 21 [l0] [s0] w 0 Q ↔ wp d 162 23 [l0] [.int 121, s0] w 0 Q) ∧
  (∀ (d : Nat) (l0 : Option Value) (x y : Int32) (w : px_H) (Q : Option Value → px_H → Prop), wp d 162 23 [l0] [.int y, .int x] w 0 Q ↔ if x = y then wp d 162 26 [l0] [] w 0 Q else wp d 162 30 [l0] [] w 0 Q) ∧
  (∀ (d : Nat) (l0 : Option Value)  (w : px_H) (Q : Option Value → px_H → Prop), wp d 162 26 [l0] [] w 0 Q ↔ wp d 162 27 [l0] [.int 3] w 0 Q) ∧
  (∀ (d : Nat) (l0 : Option Value) (s0 : Value)  (w : px_H) (Q : Option Value → px_H → Prop), wp d 162 27 [l0] [s0] w 0 Q ↔ wp d 162 51 [l0] [s0] w 0 Q) ∧
  (∀ (d : Nat) (x : Int32) (w : px_H) (Q : Option Value → px_H → Prop), wp d 162 30 [some (.int x)] [] w 0 Q ↔ wp d 162 31 [some (.int x)] [.int x] w 0 Q) ∧
  (∀ (d : Nat) (l0 : Option Value) (s0 : Value)  (w : px_H) (Q : Option Value → px_H → Prop), wp d 162 31 [l0] [s0] w 0 Q ↔ wp d 162 33 [l0] [.int 102, s0] w 0 Q) ∧
  (∀ (d : Nat) (l0 : Option Value) (x y : Int32) (w : px_H) (Q : Option Value → px_H → Prop), wp d 162 33 [l0] [.int y, .int x] w 0 Q ↔ if x = y then wp d 162 36 [l0] [] w 0 Q else wp d 162 40 [l0] [] w 0 Q) ∧
  (∀ (d : Nat) (l0 : Option Value)  (w : px_H) (Q : Option Value → px_H → Prop), wp d 162 36 [l0] [] w 0 Q ↔ wp d 162 37 [l0] [.int 4] w 0 Q) ∧
  (∀ (d : Nat) (l0 : Option Value) (s0 : Value)  (w : px_H) (Q : Option Value → px_H → Prop), wp d 162 37 [l0] [s0] w 0 Q ↔ wp d 162 51 [l0] [s0] w 0 Q) ∧
  (∀ (d : Nat) (x : Int32) (w : px_H) (Q : Option Value → px_H → Prop), wp d 162 40 [some (.int x)] [] w 0 Q ↔ wp d 162 41 [some (.int x)] [.int x] w 0 Q) ∧
  (∀ (d : Nat) (l0 : Option Value) (s0 : Value)  (w : px_H) (Q : Option Value → px_H → Prop), wp d 162 41 [l0] [s0] w 0 Q ↔ wp d 162 43 [l0] [.int 108, s0] w 0 Q) ∧
  (∀ (d : Nat) (l0 : Option Value) (x y : Int32) (w : px_H) (Q : Option Value → px_H → Prop), wp d 162 43 [l0] [.int y, .int x] w 0 Q ↔ if x = y then wp d 162 46 [l0] [] w 0 Q else wp d 162 50 [l0] [] w 0 Q) ∧
  (∀ (d : Nat) (l0 : Option Value)  (w : px_H) (Q : Option Value → px_H → Prop), wp d 162 46 [l0] [] w 0 Q ↔ wp d 162 47 [l0] [.int 5] w 0 Q) ∧
  (∀ (d : Nat) (l0 : Option Value) (s0 : Value)  (w : px_H) (Q : Option Value → px_H → Prop), wp d 162 47 [l0] [s0] w 0 Q ↔ wp d 162 51 [l0] [s0] w 0 Q) ∧
  (∀ (d : Nat) (l0 : Option Value)  (w : px_H) (Q : Option Value → px_H → Prop), wp d 162 50 [l0] [] w 0 Q ↔ wp d 162 51 [l0] [.int 0] w 0 Q) ∧
  (∀ (d : Nat) (l0 : Option Value) (x : Int32) (w : px_H) (Q : Option Value → px_H → Prop), wp d 162 51 [l0] [.int x] w 0 Q ↔ Q (some (.int x)) w) := ⟨fun d v0 w Q => r_entry pt_162 (Nat.le_of_ble_eq_true rfl) rfl,
  fun d x w Q => px_go (q := (.iload_n 0, 1, px_x0)) (S' := (1, [some (.int x)], [.int x], w, 0)) pt_162 rfl rfl,
  fun d l0 s0 w Q => r_bipush pt_162 rfl (by decide),
  fun d l0 x y w Q => r_icmp_ne pt_162 rfl rfl,
  fun d l0 w Q => r_iconst pt_162 rfl (by decide),
  fun d l0 s0 w Q => r_goto pt_162 rfl rfl,
  fun d x w Q => px_go (q := (.iload_n 0, 1, px_x0)) (S' := (11, [some (.int x)], [.int x], w, 0)) pt_162 rfl rfl,
  fun d l0 s0 w Q => r_bipush pt_162 rfl (by decide),
  fun d l0 x y w Q => r_icmp_ne pt_162 rfl rfl,
  fun d l0 w Q => r_iconst pt_162 rfl (by decide),
  fun d l0 s0 w Q => r_goto pt_162 rfl rfl,
  fun d x w Q => px_go (q := (.iload_n 0, 1, px_x0)) (S' := (21, [some (.int x)], [.int x], w, 0)) pt_162 rfl rfl,
  fun d l0 s0 w Q => r_bipush pt_162 rfl (by decide),
  fun d l0 x y w Q => r_icmp_ne pt_162 rfl rfl,
  fun d l0 w Q => r_iconst pt_162 rfl (by decide),
  fun d l0 s0 w Q => r_goto pt_162 rfl rfl,
  fun d x w Q => px_go (q := (.iload_n 0, 1, px_x0)) (S' := (31, [some (.int x)], [.int x], w, 0)) pt_162 rfl rfl,
  fun d l0 s0 w Q => r_bipush pt_162 rfl (by decide),
  fun d l0 x y w Q => r_icmp_ne pt_162 rfl rfl,
  fun d l0 w Q => r_iconst pt_162 rfl (by decide),
  fun d l0 s0 w Q => r_goto pt_162 rfl rfl,
  fun d x w Q => px_go (q := (.iload_n 0, 1, px_x0)) (S' := (41, [some (.int x)], [.int x], w, 0)) pt_162 rfl rfl,
  fun d l0 s0 w Q => r_bipush pt_162 rfl (by decide),
  fun d l0 x y w Q => r_icmp_ne pt_162 rfl rfl,
  fun d l0 w Q => r_iconst pt_162 rfl (by decide),
  fun d l0 s0 w Q => r_goto pt_162 rfl rfl,
  fun d l0 w Q => r_iconst pt_162 rfl (by decide),
  fun d l0 x w Q => px_ret (q := (.ireturn, 1, px_x0)) pt_162 rfl rfl⟩
/-- AllSwornModel.readThing()V -/
theorem S163 : (∀ (d : Nat) (v0 : Value) (w : px_H) (Q : Option Value → px_H → Prop), wc d 163 [v0] w Q ↔ wp d 163 0 [some v0, none, none, none, none] [] w 0 Q) ∧
  (∀ (d : Nat) (l1 l2 l3 l4 : Option Value) (a : Nat) (w : px_H) (Q : Option Value → px_H → Prop), wp d 163 0 [some (.ref a), l1, l2, l3, l4] [] w 0 Q ↔ wp d 163 1 [some (.ref a), l1, l2, l3, l4] [.ref a] w 0 Q) ∧
  (∀ (d : Nat) (l0 l1 l2 l3 l4 : Option Value) (a : Nat) (w : px_H) (Q : Option Value → px_H → Prop), wp d 163 1 [l0, l1, l2, l3, l4] [.ref a] w 0 Q ↔ px_op (px_fld w a [(11, 0)] 13) (fun v => wp d 163 4 [l0, l1, l2, l3, l4] [v] w 0 Q)) ∧
  (∀ (d : Nat) (l0 l1 l2 l3 l4 : Option Value) (v0 : Value) (w : px_H) (Q : Option Value → px_H → Prop), wp (d + 1) 163 4 [l0, l1, l2, l3, l4] [v0] w 0 Q ↔ wc d 162 [v0] w (fun r w' => wp (d + 1) 163 7 [l0, l1, l2, l3, l4] (r.toList ++ []) w' 0 Q)) ∧
  (∀ (d : Nat) (l0 l1 l2 l3 l4 : Option Value) (x : Int32) (w : px_H) (Q : Option Value → px_H → Prop), wp d 163 7 [l0, l1, l2, l3, l4] [.int x] w 0 Q ↔ wp d 163 8 [l0, some (.int x), l2, l3, l4] [] w 0 Q) ∧
  (∀ (d : Nat) (l1 l2 l3 l4 : Option Value) (a : Nat) (w : px_H) (Q : Option Value → px_H → Prop), wp d 163 8 [some (.ref a), l1, l2, l3, l4] [] w 0 Q ↔ wp d 163 9 [some (.ref a), l1, l2, l3, l4] [.ref a] w 0 Q) ∧
  (∀ (d : Nat) (l0 l1 l2 l3 l4 : Option Value) (s0 : Value)  (w : px_H) (Q : Option Value → px_H → Prop), wp d 163 9 [l0, l1, l2, l3, l4] [s0] w 0 Q ↔ wp d 163 10 [l0, l1, l2, l3, l4] [.int 1, s0] w 0 Q) ∧
  (∀ (d : Nat) (l0 l1 l2 l3 l4 : Option Value) (v0 : Value) (b : Nat) (w : px_H) (Q : Option Value → px_H → Prop), wp (d + 1) 163 10 [l0, l1, l2, l3, l4] [v0, .ref b] w 0 Q ↔ px_op (px_tgt w b [(11, 149)]) (fun v => wc d v [.ref b, v0] w (fun r w' => wp (d + 1) 163 13 [l0, l1, l2, l3, l4] (r.toList ++ []) w' 0 Q))) ∧
  (∀ (d : Nat) (l0 l1 l2 l3 l4 : Option Value) (s0 : Value)  (w : px_H) (Q : Option Value → px_H → Prop), wp d 163 13 [l0, l1, l2, l3, l4] [s0] w 0 Q ↔ wp d 163 15 [l0, l1, l2, l3, l4] [.int 8, s0] w 0 Q) ∧
  (∀ (d : Nat) (l0 l1 l2 l3 l4 : Option Value) (x y : Int32) (w : px_H) (Q : Option Value → px_H → Prop), wp d 163 15 [l0, l1, l2, l3, l4] [.int y, .int x] w 0 Q ↔ if x = y then wp d 163 18 [l0, l1, l2, l3, l4] [] w 0 Q else wp d 163 24 [l0, l1, l2, l3, l4] [] w 0 Q) ∧
  (∀ (d : Nat) (l1 l2 l3 l4 : Option Value) (a : Nat) (w : px_H) (Q : Option Value → px_H → Prop), wp d 163 18 [some (.ref a), l1, l2, l3, l4] [] w 0 Q ↔ wp d 163 19 [some (.ref a), l1, l2, l3, l4] [.ref a] w 0 Q) ∧
  (∀ (d : Nat) (l0 l1 l2 l3 l4 : Option Value) (s0 : Value)  (w : px_H) (Q : Option Value → px_H → Prop), wp d 163 19 [l0, l1, l2, l3, l4] [s0] w 0 Q ↔ wp d 163 20 [l0, l1, l2, l3, l4] [.int 3, s0] w 0 Q) ∧
  (∀ (d : Nat) (l0 l1 l2 l3 l4 : Option Value) (v0 : Value) (b : Nat) (w : px_H) (Q : Option Value → px_H → Prop), wp (d + 1) 163 20 [l0, l1, l2, l3, l4] [v0, .ref b] w 0 Q ↔ px_op (px_tgt w b [(11, 158)]) (fun v => wc d v [.ref b, v0] w (fun r w' => wp (d + 1) 163 23 [l0, l1, l2, l3, l4] (r.toList ++ []) w' 0 Q))) ∧
  (∀ (d : Nat) (l0 l1 l2 l3 l4 : Option Value)  (w : px_H) (Q : Option Value → px_H → Prop), wp d 163 23 [l0, l1, l2, l3, l4] [] w 0 Q ↔ Q none w) ∧
  (∀ (d : Nat) (l1 l2 l3 l4 : Option Value) (a : Nat) (w : px_H) (Q : Option Value → px_H → Prop), wp d 163 24 [some (.ref a), l1, l2, l3, l4] [] w 0 Q ↔ wp d 163 25 [some (.ref a), l1, l2, l3, l4] [.ref a] w 0 Q) ∧
  (∀ (d : Nat) (l0 l1 l2 l3 l4 : Option Value)  (b : Nat) (w : px_H) (Q : Option Value → px_H → Prop), wp (d + 1) 163 25 [l0, l1, l2, l3, l4] [.ref b] w 0 Q ↔ px_op (px_tgt w b [(11, 157)]) (fun v => wc d v [.ref b] w (fun r w' => wp (d + 1) 163 28 [l0, l1, l2, l3, l4] (r.toList ++ []) w' 0 Q))) ∧
  (∀ (d : Nat) (l1 l2 l3 l4 : Option Value) (a : Nat) (w : px_H) (Q : Option Value → px_H → Prop), wp d 163 28 [some (.ref a), l1, l2, l3, l4] [] w 0 Q ↔ wp d 163 29 [some (.ref a), l1, l2, l3, l4] [.ref a] w 0 Q) ∧
  (∀ (d : Nat) (l0 l1 l2 l3 l4 : Option Value) (s0 : Value)  (w : px_H) (Q : Option Value → px_H → Prop), wp d 163 29 [l0, l1, l2, l3, l4] [s0] w 0 Q ↔ wp d 163 30 [l0, l1, l2, l3, l4] [.int 0, s0] w 0 Q) ∧
  (∀ (d : Nat) (l0 l1 l2 l3 l4 : Option Value) (s0 s1 : Value)  (w : px_H) (Q : Option Value → px_H → Prop), wp d 163 30 [l0, l1, l2, l3, l4] [s0, s1] w 0 Q ↔ wp d 163 32 [l0, l1, l2, l3, l4] [.int 9, s0, s1] w 0 Q) ∧
  (∀ (d : Nat) (l0 l1 l2 l3 l4 : Option Value) (s0 s1 s2 : Value)  (w : px_H) (Q : Option Value → px_H → Prop), wp d 163 32 [l0, l1, l2, l3, l4] [s0, s1, s2] w 0 Q ↔ wp d 163 34 [l0, l1, l2, l3, l4] [.int 44, s0, s1, s2] w 0 Q) ∧
  (∀ (d : Nat) (l0 l1 l2 l3 l4 : Option Value) (v0 v1 v2 : Value) (b : Nat) (w : px_H) (Q : Option Value → px_H → Prop), wp (d + 1) 163 34 [l0, l1, l2, l3, l4] [v2, v1, v0, .ref b] w 0 Q ↔ px_op (px_tgt w b [(11, 161)]) (fun v => wc d v [.ref b, v0, v1, v2] w (fun r w' => wp (d + 1) 163 37 [l0, l1, l2, l3, l4] (r.toList ++ []) w' 0 Q))) ∧
  (∀ (d : Nat) (l0 l1 l2 l3 l4 : Option Value) (x : Int32) (w : px_H) (Q : Option Value → px_H → Prop), wp d 163 37 [l0, l1, l2, l3, l4] [.int x] w 0 Q ↔ wp d 163 38 [l0, l1, some (.int x), l3, l4] [] w 0 Q) ∧
  (∀ (d : Nat) (l1 l2 l3 l4 : Option Value) (a : Nat) (w : px_H) (Q : Option Value → px_H → Prop), wp d 163 38 [some (.ref a), l1, l2, l3, l4] [] w 0 Q ↔ wp d 163 39 [some (.ref a), l1, l2, l3, l4] [.ref a] w 0 Q) ∧
  (∀ (d : Nat) (l0 l1 l2 l3 l4 : Option Value) (s0 : Value)  (w : px_H) (Q : Option Value → px_H → Prop), wp d 163 39 [l0, l1, l2, l3, l4] [s0] w 0 Q ↔ wp d 163 40 [l0, l1, l2, l3, l4] [.int 0, s0] w 0 Q) ∧
  (∀ (d : Nat) (l0 l1 l2 l3 l4 : Option Value) (s0 s1 : Value)  (w : px_H) (Q : Option Value → px_H → Prop), wp d 163 40 [l0, l1, l2, l3, l4] [s0, s1] w 0 Q ↔ wp d 163 42 [l0, l1, l2, l3, l4] [.int 20, s0, s1] w 0 Q) ∧
  (∀ (d : Nat) (l0 l1 l2 l3 l4 : Option Value) (s0 s1 s2 : Value)  (w : px_H) (Q : Option Value → px_H → Prop), wp d 163 42 [l0, l1, l2, l3, l4] [s0, s1, s2] w 0 Q ↔ wp d 163 44 [l0, l1, l2, l3, l4] [.int 59, s0, s1, s2] w 0 Q) ∧
  (∀ (d : Nat) (l0 l1 l2 l3 l4 : Option Value) (v0 v1 v2 : Value) (b : Nat) (w : px_H) (Q : Option Value → px_H → Prop), wp (d + 1) 163 44 [l0, l1, l2, l3, l4] [v2, v1, v0, .ref b] w 0 Q ↔ px_op (px_tgt w b [(11, 161)]) (fun v => wc d v [.ref b, v0, v1, v2] w (fun r w' => wp (d + 1) 163 47 [l0, l1, l2, l3, l4] (r.toList ++ []) w' 0 Q))) ∧
  (∀ (d : Nat) (l0 l1 l2 l3 l4 : Option Value) (x : Int32) (w : px_H) (Q : Option Value → px_H → Prop), wp d 163 47 [l0, l1, l2, l3, l4] [.int x] w 0 Q ↔ wp d 163 48 [l0, l1, l2, some (.int x), l4] [] w 0 Q) ∧
  (∀ (d : Nat) (l1 l2 l3 l4 : Option Value) (a : Nat) (w : px_H) (Q : Option Value → px_H → Prop), wp d 163 48 [some (.ref a), l1, l2, l3, l4] [] w 0 Q ↔ wp d 163 49 [some (.ref a), l1, l2, l3, l4] [.ref a] w 0 Q) ∧
  (∀ (d : Nat) (l0 l1 l2 l3 l4 : Option Value) (a : Nat) (w : px_H) (Q : Option Value → px_H → Prop), wp d 163 49 [l0, l1, l2, l3, l4] [.ref a] w 0 Q ↔ px_op (px_fld w a [(11, 0)] 15) (fun v => wp d 163 52 [l0, l1, l2, l3, l4] [v] w 0 Q)) ∧
  (∀ (d : Nat) (l0 l1 l2 l3 l4 : Option Value) (x : Int32) (w : px_H) (Q : Option Value → px_H → Prop), wp d 163 52 [l0, l1, l2, l3, l4] [.int x] w 0 Q ↔ if x = 0 then wp d 163 55 [l0, l1, l2, l3, l4] [] w 0 Q else wp d 163 115 [l0, l1, l2, l3, l4] [] w 0 Q) ∧
  (∀ (d : Nat) (l0 l1 l2 l3 l4 : Option Value)  (w : px_H) (Q : Option Value → px_H → Prop), wp d 163 55 [l0, l1, l2, l3, l4] [] w 0 Q ↔ wp d 163 56 [l0, l1, l2, l3, l4] [.int 5] w 0 Q) ∧
  (∀ (d : Nat) (l0 l1 l2 l3 l4 : Option Value) (s0 : Value)  (w : px_H) (Q : Option Value → px_H → Prop), wp d 163 56 [l0, l1, l2, l3, l4] [s0] w 0 Q ↔ wp d 163 57 [l0, l1, l2, l3, l4] [.int 4, s0] w 0 Q) ∧
  (∀ (d : Nat) (l1 l2 l3 l4 : Option Value) (s0 s1 : Value) (a : Nat) (w : px_H) (Q : Option Value → px_H → Prop), wp d 163 57 [some (.ref a), l1, l2, l3, l4] [s0, s1] w 0 Q ↔ wp d 163 58 [some (.ref a), l1, l2, l3, l4] [.ref a, s0, s1] w 0 Q) ∧
  (∀ (d : Nat) (l0 l1 l2 l3 l4 : Option Value) (s0 s1 s2 : Value)  (w : px_H) (Q : Option Value → px_H → Prop), wp d 163 58 [l0, l1, l2, l3, l4] [s0, s1, s2] w 0 Q ↔ wp d 163 59 [l0, l1, l2, l3, l4] [.int 1, s0, s1, s2] w 0 Q) ∧
  (∀ (d : Nat) (l0 l1 l2 l3 l4 : Option Value) (s2 s3 : Value) (v0 : Value) (b : Nat) (w : px_H) (Q : Option Value → px_H → Prop), wp (d + 1) 163 59 [l0, l1, l2, l3, l4] [v0, .ref b, s2, s3] w 0 Q ↔ px_op (px_tgt w b [(11, 149)]) (fun v => wc d v [.ref b, v0] w (fun r w' => wp (d + 1) 163 62 [l0, l1, l2, l3, l4] (r.toList ++ [s2, s3]) w' 0 Q))) ∧
  (∀ (d : Nat) (l0 l1 l2 l3 l4 : Option Value) (s2 : Value) (x y : Int32) (w : px_H) (Q : Option Value → px_H → Prop), wp d 163 62 [l0, l1, l2, l3, l4] [.int y, .int x, s2] w 0 Q ↔ wp d 163 63 [l0, l1, l2, l3, l4] [.int (x * y), s2] w 0 Q) ∧
  (∀ (d : Nat) (l0 l1 l2 l3 l4 : Option Value) (x y : Int32) (w : px_H) (Q : Option Value → px_H → Prop), wp d 163 63 [l0, l1, l2, l3, l4] [.int y, .int x] w 0 Q ↔ wp d 163 64 [l0, l1, l2, l3, l4] [.int (x + y)] w 0 Q) ∧
  (∀ (d : Nat) (l0 l1 l2 l3 l4 : Option Value) (x : Int32) (w : px_H) (Q : Option Value → px_H → Prop), wp d 163 64 [l0, l1, l2, l3, l4] [.int x] w 0 Q ↔ wp d 163 66 [l0, l1, l2, l3, some (.int x)] [] w 0 Q) ∧
  (∀ (d : Nat) (l1 l2 l3 l4 : Option Value) (a : Nat) (w : px_H) (Q : Option Value → px_H → Prop), wp d 163 66 [some (.ref a), l1, l2, l3, l4] [] w 0 Q ↔ wp d 163 67 [some (.ref a), l1, l2, l3, l4] [.ref a] w 0 Q) ∧
  (∀ (d : Nat) (l0 l1 l2 l3 : Option Value) (s0 : Value) (x : Int32) (w : px_H) (Q : Option Value → px_H → Prop), wp d 163 67 [l0, l1, l2, l3, some (.int x)] [s0] w 0 Q ↔ wp d 163 69 [l0, l1, l2, l3, some (.int x)] [.int x, s0] w 0 Q) ∧
  (∀ (d : Nat) (l0 l1 l2 l3 l4 : Option Value) (s0 s1 : Value)  (w : px_H) (Q : Option Value → px_H → Prop), wp d 163 69 [l0, l1, l2, l3, l4] [s0, s1] w 0 Q ↔ wp d 163 70 [l0, l1, l2, l3, l4] [.int 0, s0, s1] w 0 Q) ∧
  (∀ (d : Nat) (l0 l1 l2 l3 l4 : Option Value) (s2 : Value) (x y : Int32) (w : px_H) (Q : Option Value → px_H → Prop), wp d 163 70 [l0, l1, l2, l3, l4] [.int y, .int x, s2] w 0 Q ↔ wp d 163 71 [l0, l1, l2, l3, l4] [.int (x + y), s2] w 0 Q) ∧
  (∀ (d : Nat) (l0 l2 l3 l4 : Option Value) (s0 s1 : Value) (x : Int32) (w : px_H) (Q : Option Value → px_H → Prop), wp d 163 71 [l0, some (.int x), l2, l3, l4] [s0, s1] w 0 Q ↔ wp d 163 72 [l0, some (.int x), l2, l3, l4] [.int x, s0, s1] w 0 Q) ∧
  (∀ (d : Nat) (l0 l1 l2 l3 l4 : Option Value) (v0 v1 : Value) (b : Nat) (w : px_H) (Q : Option Value → px_H → Prop), wp (d + 1) 163 72 [l0, l1, l2, l3, l4] [v1, v0, .ref b] w 0 Q ↔ px_op (px_tgt w b [(11, 150)]) (fun v => wc d v [.ref b, v0, v1] w (fun r w' => wp (d + 1) 163 75 [l0, l1, l2, l3, l4] (r.toList ++ []) w' 0 Q))) ∧
  (∀ (d : Nat) (l1 l2 l3 l4 : Option Value) (a : Nat) (w : px_H) (Q : Option Value → px_H → Prop), wp d 163 75 [some (.ref a), l1, l2, l3, l4] [] w 0 Q ↔ wp d 163 76 [some (.ref a), l1, l2, l3, l4] [.ref a] w 0 Q) ∧
  (∀ (d : Nat) (l0 l1 l2 l3 : Option Value) (s0 : Value) (x : Int32) (w : px_H) (Q : Option Value → px_H → Prop), wp d 163 76 [l0, l1, l2, l3, some (.int x)] [s0] w 0 Q ↔ wp d 163 78 [l0, l1, l2, l3, some (.int x)] [.int x, s0] w 0 Q) ∧
  (∀ (d : Nat) (l0 l1 l2 l3 l4 : Option Value) (s0 s1 : Value)  (w : px_H) (Q : Option Value → px_H → Prop), wp d 163 78 [l0, l1, l2, l3, l4] [s0, s1] w 0 Q ↔ wp d 163 79 [l0, l1, l2, l3, l4] [.int 1, s0, s1] w 0 Q) ∧
  (∀ (d : Nat) (l0 l1 l2 l3 l4 : Option Value) (s2 : Value) (x y : Int32) (w : px_H) (Q : Option Value → px_H → Prop), wp d 163 79 [l0, l1, l2, l3, l4] [.int y, .int x, s2] w 0 Q ↔ wp d 163 80 [l0, l1, l2, l3, l4] [.int (x + y), s2] w 0 Q) ∧
  (∀ (d : Nat) (l0 l1 l3 l4 : Option Value) (s0 s1 : Value) (x : Int32) (w : px_H) (Q : Option Value → px_H → Prop), wp d 163 80 [l0, l1, some (.int x), l3, l4] [s0, s1] w 0 Q ↔ wp d 163 81 [l0, l1, some (.int x), l3, l4] [.int x, s0, s1] w 0 Q) ∧
  (∀ (d : Nat) (l0 l1 l2 l3 l4 : Option Value) (v0 v1 : Value) (b : Nat) (w : px_H) (Q : Option Value → px_H → Prop), wp (d + 1) 163 81 [l0, l1, l2, l3, l4] [v1, v0, .ref b] w 0 Q ↔ px_op (px_tgt w b [(11, 150)]) (fun v => wc d v [.ref b, v0, v1] w (fun r w' => wp (d + 1) 163 84 [l0, l1, l2, l3, l4] (r.toList ++ []) w' 0 Q))) ∧
  (∀ (d : Nat) (l1 l2 l3 l4 : Option Value) (a : Nat) (w : px_H) (Q : Option Value → px_H → Prop), wp d 163 84 [some (.ref a), l1, l2, l3, l4] [] w 0 Q ↔ wp d 163 85 [some (.ref a), l1, l2, l3, l4] [.ref a] w 0 Q) ∧
  (∀ (d : Nat) (l0 l1 l2 l3 : Option Value) (s0 : Value) (x : Int32) (w : px_H) (Q : Option Value → px_H → Prop), wp d 163 85 [l0, l1, l2, l3, some (.int x)] [s0] w 0 Q ↔ wp d 163 87 [l0, l1, l2, l3, some (.int x)] [.int x, s0] w 0 Q) ∧
  (∀ (d : Nat) (l0 l1 l2 l3 l4 : Option Value) (s0 s1 : Value)  (w : px_H) (Q : Option Value → px_H → Prop), wp d 163 87 [l0, l1, l2, l3, l4] [s0, s1] w 0 Q ↔ wp d 163 88 [l0, l1, l2, l3, l4] [.int 2, s0, s1] w 0 Q) ∧
  (∀ (d : Nat) (l0 l1 l2 l3 l4 : Option Value) (s2 : Value) (x y : Int32) (w : px_H) (Q : Option Value → px_H → Prop), wp d 163 88 [l0, l1, l2, l3, l4] [.int y, .int x, s2] w 0 Q ↔ wp d 163 89 [l0, l1, l2, l3, l4] [.int (x + y), s2] w 0 Q) ∧
  (∀ (d : Nat) (l0 l1 l2 l4 : Option Value) (s0 s1 : Value) (x : Int32) (w : px_H) (Q : Option Value → px_H → Prop), wp d 163 89 [l0, l1, l2, some (.int x), l4] [s0, s1] w 0 Q ↔ wp d 163 90 [l0, l1, l2, some (.int x), l4] [.int x, s0, s1] w 0 Q) ∧
  (∀ (d : Nat) (l0 l1 l2 l3 l4 : Option Value) (v0 v1 : Value) (b : Nat) (w : px_H) (Q : Option Value → px_H → Prop), wp (d + 1) 163 90 [l0, l1, l2, l3, l4] [v1, v0, .ref b] w 0 Q ↔ px_op (px_tgt w b [(11, 150)]) (fun v => wc d v [.ref b, v0, v1] w (fun r w' => wp (d + 1) 163 93 [l0, l1, l2, l3, l4] (r.toList ++ []) w' 0 Q))) ∧
  (∀ (d : Nat) (l1 l2 l3 l4 : Option Value) (a : Nat) (w : px_H) (Q : Option Value → px_H → Prop), wp d 163 93 [some (.ref a), l1, l2, l3, l4] [] w 0 Q ↔ wp d 163 94 [some (.ref a), l1, l2, l3, l4] [.ref a] w 0 Q) ∧
  (∀ (d : Nat) (l0 l1 l2 l3 : Option Value) (s0 : Value) (x : Int32) (w : px_H) (Q : Option Value → px_H → Prop), wp d 163 94 [l0, l1, l2, l3, some (.int x)] [s0] w 0 Q ↔ wp d 163 96 [l0, l1, l2, l3, some (.int x)] [.int x, s0] w 0 Q) ∧
  (∀ (d : Nat) (l0 l1 l2 l3 l4 : Option Value) (s0 s1 : Value)  (w : px_H) (Q : Option Value → px_H → Prop), wp d 163 96 [l0, l1, l2, l3, l4] [s0, s1] w 0 Q ↔ wp d 163 97 [l0, l1, l2, l3, l4] [.int 3, s0, s1] w 0 Q) ∧
  (∀ (d : Nat) (l0 l1 l2 l3 l4 : Option Value) (s2 : Value) (x y : Int32) (w : px_H) (Q : Option Value → px_H → Prop), wp d 163 97 [l0, l1, l2, l3, l4] [.int y, .int x, s2] w 0 Q ↔ wp d 163 98 [l0, l1, l2, l3, l4] [.int (x + y), s2] w 0 Q) ∧
  (∀ (d : Nat) (l0 l1 l2 l3 l4 : Option Value) (s0 s1 : Value)  (w : px_H) (Q : Option Value → px_H → Prop), wp d 163 98 [l0, l1, l2, l3, l4] [s0, s1] w 0 Q ↔ wp d 163 100 [l0, l1, l2, l3, l4] [.int (-1000000), s0, s1] w 0 Q) ∧
  (∀ (d : Nat) (l0 l1 l2 l3 l4 : Option Value) (v0 v1 : Value) (b : Nat) (w : px_H) (Q : Option Value → px_H → Prop), wp (d + 1) 163 100 [l0, l1, l2, l3, l4] [v1, v0, .ref b] w 0 Q ↔ px_op (px_tgt w b [(11, 150)]) (fun v => wc d v [.ref b, v0, v1] w (fun r w' => wp (d + 1) 163 103 [l0, l1, l2, l3, l4] (r.toList ++ []) w' 0 Q))) ∧
  (∀ (d : Nat) (l1 l2 l3 l4 : Option Value) (a : Nat) (w : px_H) (Q : Option Value → px_H → Prop), wp d 163 103 [some (.ref a), l1, l2, l3, l4] [] w 0 Q ↔ wp d 163 104 [some (.ref a), l1, l2, l3, l4] [.ref a] w 0 Q) ∧
  (∀ (d : Nat) (l0 l1 l2 l3 l4 : Option Value) (s0 : Value)  (w : px_H) (Q : Option Value → px_H → Prop), wp d 163 104 [l0, l1, l2, l3, l4] [s0] w 0 Q ↔ wp d 163 105 [l0, l1, l2, l3, l4] [.int 1, s0] w 0 Q) ∧
  (∀ (d : Nat) (l1 l2 l3 l4 : Option Value) (s0 s1 : Value) (a : Nat) (w : px_H) (Q : Option Value → px_H → Prop), wp d 163 105 [some (.ref a), l1, l2, l3, l4] [s0, s1] w 0 Q ↔ wp d 163 106 [some (.ref a), l1, l2, l3, l4] [.ref a, s0, s1] w 0 Q) ∧
  (∀ (d : Nat) (l0 l1 l2 l3 l4 : Option Value) (s0 s1 s2 : Value)  (w : px_H) (Q : Option Value → px_H → Prop), wp d 163 106 [l0, l1, l2, l3, l4] [s0, s1, s2] w 0 Q ↔ wp d 163 107 [l0, l1, l2, l3, l4] [.int 1, s0, s1, s2] w 0 Q) ∧
  (∀ (d : Nat) (l0 l1 l2 l3 l4 : Option Value) (s2 s3 : Value) (v0 : Value) (b : Nat) (w : px_H) (Q : Option Value → px_H → Prop), wp (d + 1) 163 107 [l0, l1, l2, l3, l4] [v0, .ref b, s2, s3] w 0 Q ↔ px_op (px_tgt w b [(11, 149)]) (fun v => wc d v [.ref b, v0] w (fun r w' => wp (d + 1) 163 110 [l0, l1, l2, l3, l4] (r.toList ++ [s2, s3]) w' 0 Q))) ∧
  (∀ (d : Nat) (l0 l1 l2 l3 l4 : Option Value) (s0 s1 s2 : Value)  (w : px_H) (Q : Option Value → px_H → Prop), wp d 163 110 [l0, l1, l2, l3, l4] [s0, s1, s2] w 0 Q ↔ wp d 163 111 [l0, l1, l2, l3, l4] [.int 1, s0, s1, s2] w 0 Q) ∧
  (∀ (d : Nat) (l0 l1 l2 l3 l4 : Option Value) (s2 s3 : Value) (x y : Int32) (w : px_H) (Q : Option Value → px_H → Prop), wp d 163 111 [l0, l1, l2, l3, l4] [.int y, .int x, s2, s3] w 0 Q ↔ wp d 163 112 [l0, l1, l2, l3, l4] [.int (x + y), s2, s3] w 0 Q) ∧
  (∀ (d : Nat) (l0 l1 l2 l3 l4 : Option Value) (v0 v1 : Value) (b : Nat) (w : px_H) (Q : Option Value → px_H → Prop), wp (d + 1) 163 112 [l0, l1, l2, l3, l4] [v1, v0, .ref b] w 0 Q ↔ px_op (px_tgt w b [(11, 150)]) (fun v => wc d v [.ref b, v0, v1] w (fun r w' => wp (d + 1) 163 115 [l0, l1, l2, l3, l4] (r.toList ++ []) w' 0 Q))) ∧
  (∀ (d : Nat) (l0 l1 l2 l3 l4 : Option Value)  (w : px_H) (Q : Option Value → px_H → Prop), wp d 163 115 [l0, l1, l2, l3, l4] [] w 0 Q ↔ Q none w) := ⟨fun d v0 w Q => r_entry pt_163 (Nat.le_of_ble_eq_true rfl) rfl,
  fun d l1 l2 l3 l4 a w Q => px_go (q := (.aload_n 0, 1, px_x0)) (S' := (1, [some (.ref a), l1, l2, l3, l4], [.ref a], w, 0)) pt_163 rfl rfl,
  fun d l0 l1 l2 l3 l4 a w Q => px_goO (q := (.getfield 86, 3, (10, 13, [(11, 0)], 0, "AllSwornModel"))) (S' := fun v => (4, [l0, l1, l2, l3, l4], [v], w, 0)) pt_163 rfl rfl,
  fun d l0 l1 l2 l3 l4 v0 w Q => r_call (q := (.invokestatic 109, 3, (30, 1, [(0, 162)], 0, ""))) pt_163 rfl rfl pt_162 (Nat.le_of_ble_eq_true rfl) (Nat.le_of_ble_eq_true rfl) rfl,
  fun d l0 l1 l2 l3 l4 x w Q => px_go (q := (.istore_n 1, 1, px_x0)) (S' := (8, [l0, some (.int x), l2, l3, l4], [], w, 0)) pt_163 rfl rfl,
  fun d l1 l2 l3 l4 a w Q => px_go (q := (.aload_n 0, 1, px_x0)) (S' := (9, [some (.ref a), l1, l2, l3, l4], [.ref a], w, 0)) pt_163 rfl rfl,
  fun d l0 l1 l2 l3 l4 s0 w Q => r_iconst pt_163 rfl (by decide),
  fun d l0 l1 l2 l3 l4 v0 b w Q => r_callV (q := (.invokevirtual 69, 3, (33, 1, [(11, 149)], 0, ""))) pt_163 rfl rfl (List.forall_mem_cons.mpr ⟨⟨_, pt_149, Nat.le_of_ble_eq_true rfl, (Nat.le_of_ble_eq_true rfl), rfl⟩, fun _ h => absurd h List.not_mem_nil⟩),
  fun d l0 l1 l2 l3 l4 s0 w Q => r_bipush pt_163 rfl (by decide),
  fun d l0 l1 l2 l3 l4 x y w Q => r_icmp_ne pt_163 rfl rfl,
  fun d l1 l2 l3 l4 a w Q => px_go (q := (.aload_n 0, 1, px_x0)) (S' := (19, [some (.ref a), l1, l2, l3, l4], [.ref a], w, 0)) pt_163 rfl rfl,
  fun d l0 l1 l2 l3 l4 s0 w Q => r_iconst pt_163 rfl (by decide),
  fun d l0 l1 l2 l3 l4 v0 b w Q => r_callV (q := (.invokevirtual 98, 3, (33, 1, [(11, 158)], 0, ""))) pt_163 rfl rfl (List.forall_mem_cons.mpr ⟨⟨_, pt_158, Nat.le_of_ble_eq_true rfl, (Nat.le_of_ble_eq_true rfl), rfl⟩, fun _ h => absurd h List.not_mem_nil⟩),
  fun d l0 l1 l2 l3 l4 w Q => px_ret (q := (.return_, 1, px_x0)) pt_163 rfl rfl,
  fun d l1 l2 l3 l4 a w Q => px_go (q := (.aload_n 0, 1, px_x0)) (S' := (25, [some (.ref a), l1, l2, l3, l4], [.ref a], w, 0)) pt_163 rfl rfl,
  fun d l0 l1 l2 l3 l4 b w Q => r_callV (q := (.invokevirtual 95, 3, (33, 0, [(11, 157)], 0, ""))) pt_163 rfl rfl (List.forall_mem_cons.mpr ⟨⟨_, pt_157, Nat.le_of_ble_eq_true rfl, (Nat.le_of_ble_eq_true rfl), rfl⟩, fun _ h => absurd h List.not_mem_nil⟩),
  fun d l1 l2 l3 l4 a w Q => px_go (q := (.aload_n 0, 1, px_x0)) (S' := (29, [some (.ref a), l1, l2, l3, l4], [.ref a], w, 0)) pt_163 rfl rfl,
  fun d l0 l1 l2 l3 l4 s0 w Q => r_iconst pt_163 rfl (by decide),
  fun d l0 l1 l2 l3 l4 s0 s1 w Q => r_bipush pt_163 rfl (by decide),
  fun d l0 l1 l2 l3 l4 s0 s1 s2 w Q => r_bipush pt_163 rfl (by decide),
  fun d l0 l1 l2 l3 l4 v0 v1 v2 b w Q => r_callV (q := (.invokevirtual 112, 3, (33, 3, [(11, 161)], 0, ""))) pt_163 rfl rfl (List.forall_mem_cons.mpr ⟨⟨_, pt_161, Nat.le_of_ble_eq_true rfl, (Nat.le_of_ble_eq_true rfl), rfl⟩, fun _ h => absurd h List.not_mem_nil⟩),
  fun d l0 l1 l2 l3 l4 x w Q => px_go (q := (.istore_n 2, 1, px_x0)) (S' := (38, [l0, l1, some (.int x), l3, l4], [], w, 0)) pt_163 rfl rfl,
  fun d l1 l2 l3 l4 a w Q => px_go (q := (.aload_n 0, 1, px_x0)) (S' := (39, [some (.ref a), l1, l2, l3, l4], [.ref a], w, 0)) pt_163 rfl rfl,
  fun d l0 l1 l2 l3 l4 s0 w Q => r_iconst pt_163 rfl (by decide),
  fun d l0 l1 l2 l3 l4 s0 s1 w Q => r_bipush pt_163 rfl (by decide),
  fun d l0 l1 l2 l3 l4 s0 s1 s2 w Q => r_bipush pt_163 rfl (by decide),
  fun d l0 l1 l2 l3 l4 v0 v1 v2 b w Q => r_callV (q := (.invokevirtual 112, 3, (33, 3, [(11, 161)], 0, ""))) pt_163 rfl rfl (List.forall_mem_cons.mpr ⟨⟨_, pt_161, Nat.le_of_ble_eq_true rfl, (Nat.le_of_ble_eq_true rfl), rfl⟩, fun _ h => absurd h List.not_mem_nil⟩),
  fun d l0 l1 l2 l3 l4 x w Q => px_go (q := (.istore_n 3, 1, px_x0)) (S' := (48, [l0, l1, l2, some (.int x), l4], [], w, 0)) pt_163 rfl rfl,
  fun d l1 l2 l3 l4 a w Q => px_go (q := (.aload_n 0, 1, px_x0)) (S' := (49, [some (.ref a), l1, l2, l3, l4], [.ref a], w, 0)) pt_163 rfl rfl,
  fun d l0 l1 l2 l3 l4 a w Q => px_goO (q := (.getfield 89, 3, (10, 15, [(11, 0)], 0, "AllSwornModel"))) (S' := fun v => (52, [l0, l1, l2, l3, l4], [v], w, 0)) pt_163 rfl rfl,
  fun d l0 l1 l2 l3 l4 x w Q => r_if_ne pt_163 rfl rfl,
  fun d l0 l1 l2 l3 l4 w Q => r_iconst pt_163 rfl (by decide),
  fun d l0 l1 l2 l3 l4 s0 w Q => r_iconst pt_163 rfl (by decide),
  fun d l1 l2 l3 l4 s0 s1 a w Q => px_go (q := (.aload_n 0, 1, px_x0)) (S' := (58, [some (.ref a), l1, l2, l3, l4], [.ref a, s0, s1], w, 0)) pt_163 rfl rfl,
  fun d l0 l1 l2 l3 l4 s0 s1 s2 w Q => r_iconst pt_163 rfl (by decide),
  fun d l0 l1 l2 l3 l4 s2 s3 v0 b w Q => r_callV (q := (.invokevirtual 69, 3, (33, 1, [(11, 149)], 0, ""))) pt_163 rfl rfl (List.forall_mem_cons.mpr ⟨⟨_, pt_149, Nat.le_of_ble_eq_true rfl, (Nat.le_of_ble_eq_true rfl), rfl⟩, fun _ h => absurd h List.not_mem_nil⟩),
  fun d l0 l1 l2 l3 l4 s2 x y w Q => px_go (q := (.imul, 1, px_x0)) (S' := (63, [l0, l1, l2, l3, l4], [.int (x * y), s2], w, 0)) pt_163 rfl rfl,
  fun d l0 l1 l2 l3 l4 x y w Q => px_go (q := (.iadd, 1, px_x0)) (S' := (64, [l0, l1, l2, l3, l4], [.int (x + y)], w, 0)) pt_163 rfl rfl,
  fun d l0 l1 l2 l3 l4 x w Q => px_go (q := (.istore 4, 2, px_x0)) (S' := (66, [l0, l1, l2, l3, some (.int x)], [], w, 0)) pt_163 rfl rfl,
  fun d l1 l2 l3 l4 a w Q => px_go (q := (.aload_n 0, 1, px_x0)) (S' := (67, [some (.ref a), l1, l2, l3, l4], [.ref a], w, 0)) pt_163 rfl rfl,
  fun d l0 l1 l2 l3 s0 x w Q => px_go (q := (.iload 4, 2, px_x0)) (S' := (69, [l0, l1, l2, l3, some (.int x)], [.int x, s0], w, 0)) pt_163 rfl rfl,
  fun d l0 l1 l2 l3 l4 s0 s1 w Q => r_iconst pt_163 rfl (by decide),
  fun d l0 l1 l2 l3 l4 s2 x y w Q => px_go (q := (.iadd, 1, px_x0)) (S' := (71, [l0, l1, l2, l3, l4], [.int (x + y), s2], w, 0)) pt_163 rfl rfl,
  fun d l0 l2 l3 l4 s0 s1 x w Q => px_go (q := (.iload_n 1, 1, px_x0)) (S' := (72, [l0, some (.int x), l2, l3, l4], [.int x, s0, s1], w, 0)) pt_163 rfl rfl,
  fun d l0 l1 l2 l3 l4 v0 v1 b w Q => r_callV (q := (.invokevirtual 115, 3, (33, 2, [(11, 150)], 0, ""))) pt_163 rfl rfl (List.forall_mem_cons.mpr ⟨⟨_, pt_150, Nat.le_of_ble_eq_true rfl, (Nat.le_of_ble_eq_true rfl), rfl⟩, fun _ h => absurd h List.not_mem_nil⟩),
  fun d l1 l2 l3 l4 a w Q => px_go (q := (.aload_n 0, 1, px_x0)) (S' := (76, [some (.ref a), l1, l2, l3, l4], [.ref a], w, 0)) pt_163 rfl rfl,
  fun d l0 l1 l2 l3 s0 x w Q => px_go (q := (.iload 4, 2, px_x0)) (S' := (78, [l0, l1, l2, l3, some (.int x)], [.int x, s0], w, 0)) pt_163 rfl rfl,
  fun d l0 l1 l2 l3 l4 s0 s1 w Q => r_iconst pt_163 rfl (by decide),
  fun d l0 l1 l2 l3 l4 s2 x y w Q => px_go (q := (.iadd, 1, px_x0)) (S' := (80, [l0, l1, l2, l3, l4], [.int (x + y), s2], w, 0)) pt_163 rfl rfl,
  fun d l0 l1 l3 l4 s0 s1 x w Q => px_go (q := (.iload_n 2, 1, px_x0)) (S' := (81, [l0, l1, some (.int x), l3, l4], [.int x, s0, s1], w, 0)) pt_163 rfl rfl,
  fun d l0 l1 l2 l3 l4 v0 v1 b w Q => r_callV (q := (.invokevirtual 115, 3, (33, 2, [(11, 150)], 0, ""))) pt_163 rfl rfl (List.forall_mem_cons.mpr ⟨⟨_, pt_150, Nat.le_of_ble_eq_true rfl, (Nat.le_of_ble_eq_true rfl), rfl⟩, fun _ h => absurd h List.not_mem_nil⟩),
  fun d l1 l2 l3 l4 a w Q => px_go (q := (.aload_n 0, 1, px_x0)) (S' := (85, [some (.ref a), l1, l2, l3, l4], [.ref a], w, 0)) pt_163 rfl rfl,
  fun d l0 l1 l2 l3 s0 x w Q => px_go (q := (.iload 4, 2, px_x0)) (S' := (87, [l0, l1, l2, l3, some (.int x)], [.int x, s0], w, 0)) pt_163 rfl rfl,
  fun d l0 l1 l2 l3 l4 s0 s1 w Q => r_iconst pt_163 rfl (by decide),
  fun d l0 l1 l2 l3 l4 s2 x y w Q => px_go (q := (.iadd, 1, px_x0)) (S' := (89, [l0, l1, l2, l3, l4], [.int (x + y), s2], w, 0)) pt_163 rfl rfl,
  fun d l0 l1 l2 l4 s0 s1 x w Q => px_go (q := (.iload_n 3, 1, px_x0)) (S' := (90, [l0, l1, l2, some (.int x), l4], [.int x, s0, s1], w, 0)) pt_163 rfl rfl,
  fun d l0 l1 l2 l3 l4 v0 v1 b w Q => r_callV (q := (.invokevirtual 115, 3, (33, 2, [(11, 150)], 0, ""))) pt_163 rfl rfl (List.forall_mem_cons.mpr ⟨⟨_, pt_150, Nat.le_of_ble_eq_true rfl, (Nat.le_of_ble_eq_true rfl), rfl⟩, fun _ h => absurd h List.not_mem_nil⟩),
  fun d l1 l2 l3 l4 a w Q => px_go (q := (.aload_n 0, 1, px_x0)) (S' := (94, [some (.ref a), l1, l2, l3, l4], [.ref a], w, 0)) pt_163 rfl rfl,
  fun d l0 l1 l2 l3 s0 x w Q => px_go (q := (.iload 4, 2, px_x0)) (S' := (96, [l0, l1, l2, l3, some (.int x)], [.int x, s0], w, 0)) pt_163 rfl rfl,
  fun d l0 l1 l2 l3 l4 s0 s1 w Q => r_iconst pt_163 rfl (by decide),
  fun d l0 l1 l2 l3 l4 s2 x y w Q => px_go (q := (.iadd, 1, px_x0)) (S' := (98, [l0, l1, l2, l3, l4], [.int (x + y), s2], w, 0)) pt_163 rfl rfl,
  fun d l0 l1 l2 l3 l4 s0 s1 w Q => px_go (q := (.ldc 119, 2, (0, 0, [], (-1000000), ""))) (S' := (100, [l0, l1, l2, l3, l4], [.int (-1000000), s0, s1], w, 0)) pt_163 rfl rfl,
  fun d l0 l1 l2 l3 l4 v0 v1 b w Q => r_callV (q := (.invokevirtual 115, 3, (33, 2, [(11, 150)], 0, ""))) pt_163 rfl rfl (List.forall_mem_cons.mpr ⟨⟨_, pt_150, Nat.le_of_ble_eq_true rfl, (Nat.le_of_ble_eq_true rfl), rfl⟩, fun _ h => absurd h List.not_mem_nil⟩),
  fun d l1 l2 l3 l4 a w Q => px_go (q := (.aload_n 0, 1, px_x0)) (S' := (104, [some (.ref a), l1, l2, l3, l4], [.ref a], w, 0)) pt_163 rfl rfl,
  fun d l0 l1 l2 l3 l4 s0 w Q => r_iconst pt_163 rfl (by decide),
  fun d l1 l2 l3 l4 s0 s1 a w Q => px_go (q := (.aload_n 0, 1, px_x0)) (S' := (106, [some (.ref a), l1, l2, l3, l4], [.ref a, s0, s1], w, 0)) pt_163 rfl rfl,
  fun d l0 l1 l2 l3 l4 s0 s1 s2 w Q => r_iconst pt_163 rfl (by decide),
  fun d l0 l1 l2 l3 l4 s2 s3 v0 b w Q => r_callV (q := (.invokevirtual 69, 3, (33, 1, [(11, 149)], 0, ""))) pt_163 rfl rfl (List.forall_mem_cons.mpr ⟨⟨_, pt_149, Nat.le_of_ble_eq_true rfl, (Nat.le_of_ble_eq_true rfl), rfl⟩, fun _ h => absurd h List.not_mem_nil⟩),
  fun d l0 l1 l2 l3 l4 s0 s1 s2 w Q => r_iconst pt_163 rfl (by decide),
  fun d l0 l1 l2 l3 l4 s2 s3 x y w Q => px_go (q := (.iadd, 1, px_x0)) (S' := (112, [l0, l1, l2, l3, l4], [.int (x + y), s2, s3], w, 0)) pt_163 rfl rfl,
  fun d l0 l1 l2 l3 l4 v0 v1 b w Q => r_callV (q := (.invokevirtual 115, 3, (33, 2, [(11, 150)], 0, ""))) pt_163 rfl rfl (List.forall_mem_cons.mpr ⟨⟨_, pt_150, Nat.le_of_ble_eq_true rfl, (Nat.le_of_ble_eq_true rfl), rfl⟩, fun _ h => absurd h List.not_mem_nil⟩),
  fun d l0 l1 l2 l3 l4 w Q => px_ret (q := (.return_, 1, px_x0)) pt_163 rfl rfl⟩
/-- AllSwornModel.readHarm()V -/
theorem S164 : (∀ (d : Nat) (v0 : Value) (w : px_H) (Q : Option Value → px_H → Prop), wc d 164 [v0] w Q ↔ wp d 164 0 [some v0, none] [] w 0 Q) ∧
  (∀ (d : Nat) (l1 : Option Value) (a : Nat) (w : px_H) (Q : Option Value → px_H → Prop), wp d 164 0 [some (.ref a), l1] [] w 0 Q ↔ wp d 164 1 [some (.ref a), l1] [.ref a] w 0 Q) ∧
  (∀ (d : Nat) (l0 l1 : Option Value) (a : Nat) (w : px_H) (Q : Option Value → px_H → Prop), wp d 164 1 [l0, l1] [.ref a] w 0 Q ↔ px_op (px_fld w a [(11, 0)] 13) (fun v => wp d 164 4 [l0, l1] [v] w 0 Q)) ∧
  (∀ (d : Nat) (l0 l1 : Option Value) (s0 : Value)  (w : px_H) (Q : Option Value → px_H → Prop), wp d 164 4 [l0, l1] [s0] w 0 Q ↔ wp d 164 6 [l0, l1] [.int 104, s0] w 0 Q) ∧
  (∀ (d : Nat) (l0 l1 : Option Value) (x y : Int32) (w : px_H) (Q : Option Value → px_H → Prop), wp d 164 6 [l0, l1] [.int y, .int x] w 0 Q ↔ if x = y then wp d 164 15 [l0, l1] [] w 0 Q else wp d 164 9 [l0, l1] [] w 0 Q) ∧
  (∀ (d : Nat) (l1 : Option Value) (a : Nat) (w : px_H) (Q : Option Value → px_H → Prop), wp d 164 9 [some (.ref a), l1] [] w 0 Q ↔ wp d 164 10 [some (.ref a), l1] [.ref a] w 0 Q) ∧
  (∀ (d : Nat) (l0 l1 : Option Value) (s0 : Value)  (w : px_H) (Q : Option Value → px_H → Prop), wp d 164 10 [l0, l1] [s0] w 0 Q ↔ wp d 164 11 [l0, l1] [.int 1, s0] w 0 Q) ∧
  (∀ (d : Nat) (l0 l1 : Option Value) (v0 : Value) (b : Nat) (w : px_H) (Q : Option Value → px_H → Prop), wp (d + 1) 164 11 [l0, l1] [v0, .ref b] w 0 Q ↔ px_op (px_tgt w b [(11, 158)]) (fun v => wc d v [.ref b, v0] w (fun r w' => wp (d + 1) 164 14 [l0, l1] (r.toList ++ []) w' 0 Q))) ∧
  (∀ (d : Nat) (l0 l1 : Option Value)  (w : px_H) (Q : Option Value → px_H → Prop), wp d 164 14 [l0, l1] [] w 0 Q ↔ Q none w) ∧
  (∀ (d : Nat) (l1 : Option Value) (a : Nat) (w : px_H) (Q : Option Value → px_H → Prop), wp d 164 15 [some (.ref a), l1] [] w 0 Q ↔ wp d 164 16 [some (.ref a), l1] [.ref a] w 0 Q) ∧
  (∀ (d : Nat) (l0 l1 : Option Value) (s0 : Value)  (w : px_H) (Q : Option Value → px_H → Prop), wp d 164 16 [l0, l1] [s0] w 0 Q ↔ wp d 164 17 [l0, l1] [.int 2, s0] w 0 Q) ∧
  (∀ (d : Nat) (l0 l1 : Option Value) (v0 : Value) (b : Nat) (w : px_H) (Q : Option Value → px_H → Prop), wp (d + 1) 164 17 [l0, l1] [v0, .ref b] w 0 Q ↔ px_op (px_tgt w b [(11, 149)]) (fun v => wc d v [.ref b, v0] w (fun r w' => wp (d + 1) 164 20 [l0, l1] (r.toList ++ []) w' 0 Q))) ∧
  (∀ (d : Nat) (l0 l1 : Option Value) (s0 : Value)  (w : px_H) (Q : Option Value → px_H → Prop), wp d 164 20 [l0, l1] [s0] w 0 Q ↔ wp d 164 22 [l0, l1] [.int 8, s0] w 0 Q) ∧
  (∀ (d : Nat) (l0 l1 : Option Value) (x y : Int32) (w : px_H) (Q : Option Value → px_H → Prop), wp d 164 22 [l0, l1] [.int y, .int x] w 0 Q ↔ if x = y then wp d 164 25 [l0, l1] [] w 0 Q else wp d 164 31 [l0, l1] [] w 0 Q) ∧
  (∀ (d : Nat) (l1 : Option Value) (a : Nat) (w : px_H) (Q : Option Value → px_H → Prop), wp d 164 25 [some (.ref a), l1] [] w 0 Q ↔ wp d 164 26 [some (.ref a), l1] [.ref a] w 0 Q) ∧
  (∀ (d : Nat) (l0 l1 : Option Value) (s0 : Value)  (w : px_H) (Q : Option Value → px_H → Prop), wp d 164 26 [l0, l1] [s0] w 0 Q ↔ wp d 164 27 [l0, l1] [.int 3, s0] w 0 Q) ∧
  (∀ (d : Nat) (l0 l1 : Option Value) (v0 : Value) (b : Nat) (w : px_H) (Q : Option Value → px_H → Prop), wp (d + 1) 164 27 [l0, l1] [v0, .ref b] w 0 Q ↔ px_op (px_tgt w b [(11, 158)]) (fun v => wc d v [.ref b, v0] w (fun r w' => wp (d + 1) 164 30 [l0, l1] (r.toList ++ []) w' 0 Q))) ∧
  (∀ (d : Nat) (l0 l1 : Option Value)  (w : px_H) (Q : Option Value → px_H → Prop), wp d 164 30 [l0, l1] [] w 0 Q ↔ Q none w) ∧
  (∀ (d : Nat) (l1 : Option Value) (a : Nat) (w : px_H) (Q : Option Value → px_H → Prop), wp d 164 31 [some (.ref a), l1] [] w 0 Q ↔ wp d 164 32 [some (.ref a), l1] [.ref a] w 0 Q) ∧
  (∀ (d : Nat) (l0 l1 : Option Value)  (b : Nat) (w : px_H) (Q : Option Value → px_H → Prop), wp (d + 1) 164 32 [l0, l1] [.ref b] w 0 Q ↔ px_op (px_tgt w b [(11, 157)]) (fun v => wc d v [.ref b] w (fun r w' => wp (d + 1) 164 35 [l0, l1] (r.toList ++ []) w' 0 Q))) ∧
  (∀ (d : Nat) (l1 : Option Value) (a : Nat) (w : px_H) (Q : Option Value → px_H → Prop), wp d 164 35 [some (.ref a), l1] [] w 0 Q ↔ wp d 164 36 [some (.ref a), l1] [.ref a] w 0 Q) ∧
  (∀ (d : Nat) (l0 l1 : Option Value) (s0 : Value)  (w : px_H) (Q : Option Value → px_H → Prop), wp d 164 36 [l0, l1] [s0] w 0 Q ↔ wp d 164 37 [l0, l1] [.int 1, s0] w 0 Q) ∧
  (∀ (d : Nat) (l0 l1 : Option Value) (s0 s1 : Value)  (w : px_H) (Q : Option Value → px_H → Prop), wp d 164 37 [l0, l1] [s0, s1] w 0 Q ↔ wp d 164 38 [l0, l1] [.int 1, s0, s1] w 0 Q) ∧
  (∀ (d : Nat) (l1 : Option Value) (s0 s1 s2 : Value) (a : Nat) (w : px_H) (Q : Option Value → px_H → Prop), wp d 164 38 [some (.ref a), l1] [s0, s1, s2] w 0 Q ↔ wp d 164 39 [some (.ref a), l1] [.ref a, s0, s1, s2] w 0 Q) ∧
  (∀ (d : Nat) (l0 l1 : Option Value) (s0 s1 s2 s3 : Value)  (w : px_H) (Q : Option Value → px_H → Prop), wp d 164 39 [l0, l1] [s0, s1, s2, s3] w 0 Q ↔ wp d 164 40 [l0, l1] [.int 1, s0, s1, s2, s3] w 0 Q) ∧
  (∀ (d : Nat) (l0 l1 : Option Value) (s2 s3 s4 : Value) (v0 : Value) (b : Nat) (w : px_H) (Q : Option Value → px_H → Prop), wp (d + 1) 164 40 [l0, l1] [v0, .ref b, s2, s3, s4] w 0 Q ↔ px_op (px_tgt w b [(11, 149)]) (fun v => wc d v [.ref b, v0] w (fun r w' => wp (d + 1) 164 43 [l0, l1] (r.toList ++ [s2, s3, s4]) w' 0 Q))) ∧
  (∀ (d : Nat) (l0 l1 : Option Value) (s2 s3 : Value) (x y : Int32) (w : px_H) (Q : Option Value → px_H → Prop), wp d 164 43 [l0, l1] [.int y, .int x, s2, s3] w 0 Q ↔ wp d 164 44 [l0, l1] [.int (x <<< (y &&& 31)), s2, s3] w 0 Q) ∧
  (∀ (d : Nat) (l0 l1 : Option Value) (s0 s1 s2 : Value)  (w : px_H) (Q : Option Value → px_H → Prop), wp d 164 44 [l0, l1] [s0, s1, s2] w 0 Q ↔ wp d 164 45 [l0, l1] [.int 1, s0, s1, s2] w 0 Q) ∧
  (∀ (d : Nat) (l0 l1 : Option Value) (s2 s3 : Value) (x y : Int32) (w : px_H) (Q : Option Value → px_H → Prop), wp d 164 45 [l0, l1] [.int y, .int x, s2, s3] w 0 Q ↔ wp d 164 46 [l0, l1] [.int (x - y), s2, s3] w 0 Q) ∧
  (∀ (d : Nat) (l0 l1 : Option Value) (s0 s1 s2 : Value)  (w : px_H) (Q : Option Value → px_H → Prop), wp d 164 46 [l0, l1] [s0, s1, s2] w 0 Q ↔ wp d 164 48 [l0, l1] [.int 59, s0, s1, s2] w 0 Q) ∧
  (∀ (d : Nat) (l0 l1 : Option Value) (v0 v1 v2 : Value) (b : Nat) (w : px_H) (Q : Option Value → px_H → Prop), wp (d + 1) 164 48 [l0, l1] [v2, v1, v0, .ref b] w 0 Q ↔ px_op (px_tgt w b [(11, 161)]) (fun v => wc d v [.ref b, v0, v1, v2] w (fun r w' => wp (d + 1) 164 51 [l0, l1] (r.toList ++ []) w' 0 Q))) ∧
  (∀ (d : Nat) (l0 l1 : Option Value) (x : Int32) (w : px_H) (Q : Option Value → px_H → Prop), wp d 164 51 [l0, l1] [.int x] w 0 Q ↔ wp d 164 52 [l0, some (.int x)] [] w 0 Q) ∧
  (∀ (d : Nat) (l1 : Option Value) (a : Nat) (w : px_H) (Q : Option Value → px_H → Prop), wp d 164 52 [some (.ref a), l1] [] w 0 Q ↔ wp d 164 53 [some (.ref a), l1] [.ref a] w 0 Q) ∧
  (∀ (d : Nat) (l0 l1 : Option Value) (a : Nat) (w : px_H) (Q : Option Value → px_H → Prop), wp d 164 53 [l0, l1] [.ref a] w 0 Q ↔ px_op (px_fld w a [(11, 0)] 15) (fun v => wp d 164 56 [l0, l1] [v] w 0 Q)) ∧
  (∀ (d : Nat) (l0 l1 : Option Value) (x : Int32) (w : px_H) (Q : Option Value → px_H → Prop), wp d 164 56 [l0, l1] [.int x] w 0 Q ↔ if x = 0 then wp d 164 59 [l0, l1] [] w 0 Q else wp d 164 84 [l0, l1] [] w 0 Q) ∧
  (∀ (d : Nat) (l1 : Option Value) (a : Nat) (w : px_H) (Q : Option Value → px_H → Prop), wp d 164 59 [some (.ref a), l1] [] w 0 Q ↔ wp d 164 60 [some (.ref a), l1] [.ref a] w 0 Q) ∧
  (∀ (d : Nat) (l0 l1 : Option Value) (s0 : Value)  (w : px_H) (Q : Option Value → px_H → Prop), wp d 164 60 [l0, l1] [s0] w 0 Q ↔ wp d 164 62 [l0, l1] [.int 37, s0] w 0 Q) ∧
  (∀ (d : Nat) (l1 : Option Value) (s0 s1 : Value) (a : Nat) (w : px_H) (Q : Option Value → px_H → Prop), wp d 164 62 [some (.ref a), l1] [s0, s1] w 0 Q ↔ wp d 164 63 [some (.ref a), l1] [.ref a, s0, s1] w 0 Q) ∧
  (∀ (d : Nat) (l0 l1 : Option Value) (s0 s1 s2 : Value)  (w : px_H) (Q : Option Value → px_H → Prop), wp d 164 63 [l0, l1] [s0, s1, s2] w 0 Q ↔ wp d 164 64 [l0, l1] [.int 2, s0, s1, s2] w 0 Q) ∧
  (∀ (d : Nat) (l0 l1 : Option Value) (s2 s3 : Value) (v0 : Value) (b : Nat) (w : px_H) (Q : Option Value → px_H → Prop), wp (d + 1) 164 64 [l0, l1] [v0, .ref b, s2, s3] w 0 Q ↔ px_op (px_tgt w b [(11, 149)]) (fun v => wc d v [.ref b, v0] w (fun r w' => wp (d + 1) 164 67 [l0, l1] (r.toList ++ [s2, s3]) w' 0 Q))) ∧
  (∀ (d : Nat) (l0 l1 : Option Value) (s2 : Value) (x y : Int32) (w : px_H) (Q : Option Value → px_H → Prop), wp d 164 67 [l0, l1] [.int y, .int x, s2] w 0 Q ↔ wp d 164 68 [l0, l1] [.int (x + y), s2] w 0 Q) ∧
  (∀ (d : Nat) (l0 : Option Value) (s0 s1 : Value) (x : Int32) (w : px_H) (Q : Option Value → px_H → Prop), wp d 164 68 [l0, some (.int x)] [s0, s1] w 0 Q ↔ wp d 164 69 [l0, some (.int x)] [.int x, s0, s1] w 0 Q) ∧
  (∀ (d : Nat) (l0 l1 : Option Value) (v0 v1 : Value) (b : Nat) (w : px_H) (Q : Option Value → px_H → Prop), wp (d + 1) 164 69 [l0, l1] [v1, v0, .ref b] w 0 Q ↔ px_op (px_tgt w b [(11, 150)]) (fun v => wc d v [.ref b, v0, v1] w (fun r w' => wp (d + 1) 164 72 [l0, l1] (r.toList ++ []) w' 0 Q))) ∧
  (∀ (d : Nat) (l1 : Option Value) (a : Nat) (w : px_H) (Q : Option Value → px_H → Prop), wp d 164 72 [some (.ref a), l1] [] w 0 Q ↔ wp d 164 73 [some (.ref a), l1] [.ref a] w 0 Q) ∧
  (∀ (d : Nat) (l0 l1 : Option Value) (s0 : Value)  (w : px_H) (Q : Option Value → px_H → Prop), wp d 164 73 [l0, l1] [s0] w 0 Q ↔ wp d 164 74 [l0, l1] [.int 2, s0] w 0 Q) ∧
  (∀ (d : Nat) (l1 : Option Value) (s0 s1 : Value) (a : Nat) (w : px_H) (Q : Option Value → px_H → Prop), wp d 164 74 [some (.ref a), l1] [s0, s1] w 0 Q ↔ wp d 164 75 [some (.ref a), l1] [.ref a, s0, s1] w 0 Q) ∧
  (∀ (d : Nat) (l0 l1 : Option Value) (s0 s1 s2 : Value)  (w : px_H) (Q : Option Value → px_H → Prop), wp d 164 75 [l0, l1] [s0, s1, s2] w 0 Q ↔ wp d 164 76 [l0, l1] [.int 2, s0, s1, s2] w 0 Q) ∧
  (∀ (d : Nat) (l0 l1 : Option Value) (s2 s3 : Value) (v0 : Value) (b : Nat) (w : px_H) (Q : Option Value → px_H → Prop), wp (d + 1) 164 76 [l0, l1] [v0, .ref b, s2, s3] w 0 Q ↔ px_op (px_tgt w b [(11, 149)]) (fun v => wc d v [.ref b, v0] w (fun r w' => wp (d + 1) 164 79 [l0, l1] (r.toList ++ [s2, s3]) w' 0 Q))) ∧
  (∀ (d : Nat) (l0 l1 : Option Value) (s0 s1 s2 : Value)  (w : px_H) (Q : Option Value → px_H → Prop), wp d 164 79 [l0, l1] [s0, s1, s2] w 0 Q ↔ wp d 164 80 [l0, l1] [.int 1, s0, s1, s2] w 0 Q) ∧
  (∀ (d : Nat) (l0 l1 : Option Value) (s2 s3 : Value) (x y : Int32) (w : px_H) (Q : Option Value → px_H → Prop), wp d 164 80 [l0, l1] [.int y, .int x, s2, s3] w 0 Q ↔ wp d 164 81 [l0, l1] [.int (x + y), s2, s3] w 0 Q) ∧
  (∀ (d : Nat) (l0 l1 : Option Value) (v0 v1 : Value) (b : Nat) (w : px_H) (Q : Option Value → px_H → Prop), wp (d + 1) 164 81 [l0, l1] [v1, v0, .ref b] w 0 Q ↔ px_op (px_tgt w b [(11, 150)]) (fun v => wc d v [.ref b, v0, v1] w (fun r w' => wp (d + 1) 164 84 [l0, l1] (r.toList ++ []) w' 0 Q))) ∧
  (∀ (d : Nat) (l0 l1 : Option Value)  (w : px_H) (Q : Option Value → px_H → Prop), wp d 164 84 [l0, l1] [] w 0 Q ↔ Q none w) := ⟨fun d v0 w Q => r_entry pt_164 (Nat.le_of_ble_eq_true rfl) rfl,
  fun d l1 a w Q => px_go (q := (.aload_n 0, 1, px_x0)) (S' := (1, [some (.ref a), l1], [.ref a], w, 0)) pt_164 rfl rfl,
  fun d l0 l1 a w Q => px_goO (q := (.getfield 86, 3, (10, 13, [(11, 0)], 0, "AllSwornModel"))) (S' := fun v => (4, [l0, l1], [v], w, 0)) pt_164 rfl rfl,
  fun d l0 l1 s0 w Q => r_bipush pt_164 rfl (by decide),
  fun d l0 l1 x y w Q => r_icmp_eq pt_164 rfl rfl,
  fun d l1 a w Q => px_go (q := (.aload_n 0, 1, px_x0)) (S' := (10, [some (.ref a), l1], [.ref a], w, 0)) pt_164 rfl rfl,
  fun d l0 l1 s0 w Q => r_iconst pt_164 rfl (by decide),
  fun d l0 l1 v0 b w Q => r_callV (q := (.invokevirtual 98, 3, (33, 1, [(11, 158)], 0, ""))) pt_164 rfl rfl (List.forall_mem_cons.mpr ⟨⟨_, pt_158, Nat.le_of_ble_eq_true rfl, (Nat.le_of_ble_eq_true rfl), rfl⟩, fun _ h => absurd h List.not_mem_nil⟩),
  fun d l0 l1 w Q => px_ret (q := (.return_, 1, px_x0)) pt_164 rfl rfl,
  fun d l1 a w Q => px_go (q := (.aload_n 0, 1, px_x0)) (S' := (16, [some (.ref a), l1], [.ref a], w, 0)) pt_164 rfl rfl,
  fun d l0 l1 s0 w Q => r_iconst pt_164 rfl (by decide),
  fun d l0 l1 v0 b w Q => r_callV (q := (.invokevirtual 69, 3, (33, 1, [(11, 149)], 0, ""))) pt_164 rfl rfl (List.forall_mem_cons.mpr ⟨⟨_, pt_149, Nat.le_of_ble_eq_true rfl, (Nat.le_of_ble_eq_true rfl), rfl⟩, fun _ h => absurd h List.not_mem_nil⟩),
  fun d l0 l1 s0 w Q => r_bipush pt_164 rfl (by decide),
  fun d l0 l1 x y w Q => r_icmp_ne pt_164 rfl rfl,
  fun d l1 a w Q => px_go (q := (.aload_n 0, 1, px_x0)) (S' := (26, [some (.ref a), l1], [.ref a], w, 0)) pt_164 rfl rfl,
  fun d l0 l1 s0 w Q => r_iconst pt_164 rfl (by decide),
  fun d l0 l1 v0 b w Q => r_callV (q := (.invokevirtual 98, 3, (33, 1, [(11, 158)], 0, ""))) pt_164 rfl rfl (List.forall_mem_cons.mpr ⟨⟨_, pt_158, Nat.le_of_ble_eq_true rfl, (Nat.le_of_ble_eq_true rfl), rfl⟩, fun _ h => absurd h List.not_mem_nil⟩),
  fun d l0 l1 w Q => px_ret (q := (.return_, 1, px_x0)) pt_164 rfl rfl,
  fun d l1 a w Q => px_go (q := (.aload_n 0, 1, px_x0)) (S' := (32, [some (.ref a), l1], [.ref a], w, 0)) pt_164 rfl rfl,
  fun d l0 l1 b w Q => r_callV (q := (.invokevirtual 95, 3, (33, 0, [(11, 157)], 0, ""))) pt_164 rfl rfl (List.forall_mem_cons.mpr ⟨⟨_, pt_157, Nat.le_of_ble_eq_true rfl, (Nat.le_of_ble_eq_true rfl), rfl⟩, fun _ h => absurd h List.not_mem_nil⟩),
  fun d l1 a w Q => px_go (q := (.aload_n 0, 1, px_x0)) (S' := (36, [some (.ref a), l1], [.ref a], w, 0)) pt_164 rfl rfl,
  fun d l0 l1 s0 w Q => r_iconst pt_164 rfl (by decide),
  fun d l0 l1 s0 s1 w Q => r_iconst pt_164 rfl (by decide),
  fun d l1 s0 s1 s2 a w Q => px_go (q := (.aload_n 0, 1, px_x0)) (S' := (39, [some (.ref a), l1], [.ref a, s0, s1, s2], w, 0)) pt_164 rfl rfl,
  fun d l0 l1 s0 s1 s2 s3 w Q => r_iconst pt_164 rfl (by decide),
  fun d l0 l1 s2 s3 s4 v0 b w Q => r_callV (q := (.invokevirtual 69, 3, (33, 1, [(11, 149)], 0, ""))) pt_164 rfl rfl (List.forall_mem_cons.mpr ⟨⟨_, pt_149, Nat.le_of_ble_eq_true rfl, (Nat.le_of_ble_eq_true rfl), rfl⟩, fun _ h => absurd h List.not_mem_nil⟩),
  fun d l0 l1 s2 s3 x y w Q => px_go (q := (.ishl, 1, px_x0)) (S' := (44, [l0, l1], [.int (x <<< (y &&& 31)), s2, s3], w, 0)) pt_164 rfl rfl,
  fun d l0 l1 s0 s1 s2 w Q => r_iconst pt_164 rfl (by decide),
  fun d l0 l1 s2 s3 x y w Q => px_go (q := (.isub, 1, px_x0)) (S' := (46, [l0, l1], [.int (x - y), s2, s3], w, 0)) pt_164 rfl rfl,
  fun d l0 l1 s0 s1 s2 w Q => r_bipush pt_164 rfl (by decide),
  fun d l0 l1 v0 v1 v2 b w Q => r_callV (q := (.invokevirtual 112, 3, (33, 3, [(11, 161)], 0, ""))) pt_164 rfl rfl (List.forall_mem_cons.mpr ⟨⟨_, pt_161, Nat.le_of_ble_eq_true rfl, (Nat.le_of_ble_eq_true rfl), rfl⟩, fun _ h => absurd h List.not_mem_nil⟩),
  fun d l0 l1 x w Q => px_go (q := (.istore_n 1, 1, px_x0)) (S' := (52, [l0, some (.int x)], [], w, 0)) pt_164 rfl rfl,
  fun d l1 a w Q => px_go (q := (.aload_n 0, 1, px_x0)) (S' := (53, [some (.ref a), l1], [.ref a], w, 0)) pt_164 rfl rfl,
  fun d l0 l1 a w Q => px_goO (q := (.getfield 89, 3, (10, 15, [(11, 0)], 0, "AllSwornModel"))) (S' := fun v => (56, [l0, l1], [v], w, 0)) pt_164 rfl rfl,
  fun d l0 l1 x w Q => r_if_ne pt_164 rfl rfl,
  fun d l1 a w Q => px_go (q := (.aload_n 0, 1, px_x0)) (S' := (60, [some (.ref a), l1], [.ref a], w, 0)) pt_164 rfl rfl,
  fun d l0 l1 s0 w Q => r_bipush pt_164 rfl (by decide),
  fun d l1 s0 s1 a w Q => px_go (q := (.aload_n 0, 1, px_x0)) (S' := (63, [some (.ref a), l1], [.ref a, s0, s1], w, 0)) pt_164 rfl rfl,
  fun d l0 l1 s0 s1 s2 w Q => r_iconst pt_164 rfl (by decide),
  fun d l0 l1 s2 s3 v0 b w Q => r_callV (q := (.invokevirtual 69, 3, (33, 1, [(11, 149)], 0, ""))) pt_164 rfl rfl (List.forall_mem_cons.mpr ⟨⟨_, pt_149, Nat.le_of_ble_eq_true rfl, (Nat.le_of_ble_eq_true rfl), rfl⟩, fun _ h => absurd h List.not_mem_nil⟩),
  fun d l0 l1 s2 x y w Q => px_go (q := (.iadd, 1, px_x0)) (S' := (68, [l0, l1], [.int (x + y), s2], w, 0)) pt_164 rfl rfl,
  fun d l0 s0 s1 x w Q => px_go (q := (.iload_n 1, 1, px_x0)) (S' := (69, [l0, some (.int x)], [.int x, s0, s1], w, 0)) pt_164 rfl rfl,
  fun d l0 l1 v0 v1 b w Q => r_callV (q := (.invokevirtual 115, 3, (33, 2, [(11, 150)], 0, ""))) pt_164 rfl rfl (List.forall_mem_cons.mpr ⟨⟨_, pt_150, Nat.le_of_ble_eq_true rfl, (Nat.le_of_ble_eq_true rfl), rfl⟩, fun _ h => absurd h List.not_mem_nil⟩),
  fun d l1 a w Q => px_go (q := (.aload_n 0, 1, px_x0)) (S' := (73, [some (.ref a), l1], [.ref a], w, 0)) pt_164 rfl rfl,
  fun d l0 l1 s0 w Q => r_iconst pt_164 rfl (by decide),
  fun d l1 s0 s1 a w Q => px_go (q := (.aload_n 0, 1, px_x0)) (S' := (75, [some (.ref a), l1], [.ref a, s0, s1], w, 0)) pt_164 rfl rfl,
  fun d l0 l1 s0 s1 s2 w Q => r_iconst pt_164 rfl (by decide),
  fun d l0 l1 s2 s3 v0 b w Q => r_callV (q := (.invokevirtual 69, 3, (33, 1, [(11, 149)], 0, ""))) pt_164 rfl rfl (List.forall_mem_cons.mpr ⟨⟨_, pt_149, Nat.le_of_ble_eq_true rfl, (Nat.le_of_ble_eq_true rfl), rfl⟩, fun _ h => absurd h List.not_mem_nil⟩),
  fun d l0 l1 s0 s1 s2 w Q => r_iconst pt_164 rfl (by decide),
  fun d l0 l1 s2 s3 x y w Q => px_go (q := (.iadd, 1, px_x0)) (S' := (81, [l0, l1], [.int (x + y), s2, s3], w, 0)) pt_164 rfl rfl,
  fun d l0 l1 v0 v1 b w Q => r_callV (q := (.invokevirtual 115, 3, (33, 2, [(11, 150)], 0, ""))) pt_164 rfl rfl (List.forall_mem_cons.mpr ⟨⟨_, pt_150, Nat.le_of_ble_eq_true rfl, (Nat.le_of_ble_eq_true rfl), rfl⟩, fun _ h => absurd h List.not_mem_nil⟩),
  fun d l0 l1 w Q => px_ret (q := (.return_, 1, px_x0)) pt_164 rfl rfl⟩
/-- AllSwornModel.realm()I heads: [9, 61, 85] -/
theorem S165 : (∀ (d : Nat) (v0 : Value) (w : px_H) (Q : Option Value → px_H → Prop), wc d 165 [v0] w Q ↔ wp d 165 0 [some v0, none] [] w 0 Q) ∧
  (∀ (d : Nat) (l1 : Option Value) (a : Nat) (w : px_H) (Q : Option Value → px_H → Prop), wp d 165 0 [some (.ref a), l1] [] w 0 Q ↔ wp d 165 1 [some (.ref a), l1] [.ref a] w 0 Q) ∧
  (∀ (d : Nat) (l0 l1 : Option Value) (s0 : Value)  (w : px_H) (Q : Option Value → px_H → Prop), wp d 165 1 [l0, l1] [s0] w 0 Q ↔ wp d 165 4 [l0, l1] [.int 135, s0] w 0 Q) ∧
  (∀ (d : Nat) (l0 l1 : Option Value) (x : Int32) (a : Nat) (w : px_H) (Q : Option Value → px_H → Prop), wp d 165 4 [l0, l1] [.int x, .ref a] w 0 Q ↔ px_op (px_pfd w a [(11, 0)] 5 (.int x)) (fun w' => wp d 165 7 [l0, l1] [] w' 0 Q)) ∧
  (∀ (d : Nat) (l0 l1 : Option Value)  (w : px_H) (Q : Option Value → px_H → Prop), wp d 165 7 [l0, l1] [] w 0 Q ↔ wp d 165 8 [l0, l1] [.int 0] w 0 Q) ∧
  (∀ (d : Nat) (l0 l1 : Option Value) (x : Int32) (w : px_H) (Q : Option Value → px_H → Prop), wp d 165 8 [l0, l1] [.int x] w 0 Q ↔ wp d 165 9 [l0, some (.int x)] [] w 0 Q) ∧
  (∀ (d : Nat) (l0 l1 : Option Value) (s0 : Value)  (w : px_H) (Q : Option Value → px_H → Prop), wp d 165 10 [l0, l1] [s0] w 0 Q ↔ wp d 165 12 [l0, l1] [.int 45, s0] w 0 Q) ∧
  (∀ (d : Nat) (l0 l1 : Option Value) (x y : Int32) (w : px_H) (Q : Option Value → px_H → Prop), wp d 165 12 [l0, l1] [.int y, .int x] w 0 Q ↔ if y ≤ x then wp d 165 27 [l0, l1] [] w 0 Q else wp d 165 15 [l0, l1] [] w 0 Q) ∧
  (∀ (d : Nat) (l1 : Option Value) (a : Nat) (w : px_H) (Q : Option Value → px_H → Prop), wp d 165 15 [some (.ref a), l1] [] w 0 Q ↔ wp d 165 16 [some (.ref a), l1] [.ref a] w 0 Q) ∧
  (∀ (d : Nat) (l0 : Option Value) (s0 : Value) (x : Int32) (w : px_H) (Q : Option Value → px_H → Prop), wp d 165 16 [l0, some (.int x)] [s0] w 0 Q ↔ wp d 165 17 [l0, some (.int x)] [.int x, s0] w 0 Q) ∧
  (∀ (d : Nat) (l0 l1 : Option Value) (s0 s1 : Value)  (w : px_H) (Q : Option Value → px_H → Prop), wp d 165 17 [l0, l1] [s0, s1] w 0 Q ↔ wp d 165 18 [l0, l1] [.int 0, s0, s1] w 0 Q) ∧
  (∀ (d : Nat) (l0 l1 : Option Value) (v0 v1 : Value) (b : Nat) (w : px_H) (Q : Option Value → px_H → Prop), wp (d + 1) 165 18 [l0, l1] [v1, v0, .ref b] w 0 Q ↔ px_op (px_tgt w b [(11, 150)]) (fun v => wc d v [.ref b, v0, v1] w (fun r w' => wp (d + 1) 165 21 [l0, l1] (r.toList ++ []) w' 0 Q))) ∧
  (∀ (d : Nat) (l0 : Option Value) (x : Int32) (w : px_H) (Q : Option Value → px_H → Prop), wp d 165 21 [l0, some (.int x)] [] w 0 Q ↔ wp d 165 24 [l0, some (.int (x + 1))] [] w 0 Q) ∧
  (∀ (d : Nat) (l0 l1 : Option Value)  (w : px_H) (Q : Option Value → px_H → Prop), wp d 165 24 [l0, l1] [] w 0 Q ↔ wp d 165 9 [l0, l1] [] w 0 Q) ∧
  (∀ (d : Nat) (l1 : Option Value) (a : Nat) (w : px_H) (Q : Option Value → px_H → Prop), wp d 165 27 [some (.ref a), l1] [] w 0 Q ↔ wp d 165 28 [some (.ref a), l1] [.ref a] w 0 Q) ∧
  (∀ (d : Nat) (l0 l1 : Option Value) (s0 : Value)  (w : px_H) (Q : Option Value → px_H → Prop), wp d 165 28 [l0, l1] [s0] w 0 Q ↔ wp d 165 29 [l0, l1] [.int 0, s0] w 0 Q) ∧
  (∀ (d : Nat) (l0 l1 : Option Value) (x : Int32) (a : Nat) (w : px_H) (Q : Option Value → px_H → Prop), wp d 165 29 [l0, l1] [.int x, .ref a] w 0 Q ↔ px_op (px_pfd w a [(11, 0)] 11 (.int x)) (fun w' => wp d 165 32 [l0, l1] [] w' 0 Q)) ∧
  (∀ (d : Nat) (l1 : Option Value) (a : Nat) (w : px_H) (Q : Option Value → px_H → Prop), wp d 165 32 [some (.ref a), l1] [] w 0 Q ↔ wp d 165 33 [some (.ref a), l1] [.ref a] w 0 Q) ∧
  (∀ (d : Nat) (l0 l1 : Option Value) (s0 : Value)  (w : px_H) (Q : Option Value → px_H → Prop), wp d 165 33 [l0, l1] [s0] w 0 Q ↔ wp d 165 34 [l0, l1] [.int 0, s0] w 0 Q) ∧
  (∀ (d : Nat) (l0 l1 : Option Value) (x : Int32) (a : Nat) (w : px_H) (Q : Option Value → px_H → Prop), wp d 165 34 [l0, l1] [.int x, .ref a] w 0 Q ↔ px_op (px_pfd w a [(11, 0)] 15 (.int x)) (fun w' => wp d 165 37 [l0, l1] [] w' 0 Q)) ∧
  (∀ (d : Nat) (l1 : Option Value) (a : Nat) (w : px_H) (Q : Option Value → px_H → Prop), wp d 165 37 [some (.ref a), l1] [] w 0 Q ↔ wp d 165 38 [some (.ref a), l1] [.ref a] w 0 Q) ∧
  (∀ (d : Nat) (l0 l1 : Option Value)  (b : Nat) (w : px_H) (Q : Option Value → px_H → Prop), wp (d + 1) 165 38 [l0, l1] [.ref b] w 0 Q ↔ px_op (px_tgt w b [(11, 157)]) (fun v => wc d v [.ref b] w (fun r w' => wp (d + 1) 165 41 [l0, l1] (r.toList ++ []) w' 0 Q))) ∧
  (∀ (d : Nat) (l1 : Option Value) (a : Nat) (w : px_H) (Q : Option Value → px_H → Prop), wp d 165 41 [some (.ref a), l1] [] w 0 Q ↔ wp d 165 42 [some (.ref a), l1] [.ref a] w 0 Q) ∧
  (∀ (d : Nat) (l0 l1 : Option Value) (s0 : Value)  (w : px_H) (Q : Option Value → px_H → Prop), wp d 165 42 [l0, l1] [s0] w 0 Q ↔ wp d 165 44 [l0, l1] [.int 98, s0] w 0 Q) ∧
  (∀ (d : Nat) (l0 l1 : Option Value) (v0 : Value) (b : Nat) (w : px_H) (Q : Option Value → px_H → Prop), wp (d + 1) 165 44 [l0, l1] [v0, .ref b] w 0 Q ↔ px_op (px_tgt w b [(11, 159)]) (fun v => wc d v [.ref b, v0] w (fun r w' => wp (d + 1) 165 47 [l0, l1] (r.toList ++ []) w' 0 Q))) ∧
  (∀ (d : Nat) (l1 : Option Value) (a : Nat) (w : px_H) (Q : Option Value → px_H → Prop), wp d 165 47 [some (.ref a), l1] [] w 0 Q ↔ wp d 165 48 [some (.ref a), l1] [.ref a] w 0 Q) ∧
  (∀ (d : Nat) (l0 l1 : Option Value) (s0 : Value)  (w : px_H) (Q : Option Value → px_H → Prop), wp d 165 48 [l0, l1] [s0] w 0 Q ↔ wp d 165 49 [l0, l1] [.int 0, s0] w 0 Q) ∧
  (∀ (d : Nat) (l1 : Option Value) (s0 s1 : Value) (a : Nat) (w : px_H) (Q : Option Value → px_H → Prop), wp d 165 49 [some (.ref a), l1] [s0, s1] w 0 Q ↔ wp d 165 50 [some (.ref a), l1] [.ref a, s0, s1] w 0 Q) ∧
  (∀ (d : Nat) (l0 l1 : Option Value) (s0 s1 s2 : Value)  (w : px_H) (Q : Option Value → px_H → Prop), wp d 165 50 [l0, l1] [s0, s1, s2] w 0 Q ↔ wp d 165 51 [l0, l1] [.int 1, s0, s1, s2] w 0 Q) ∧
  (∀ (d : Nat) (l0 l1 : Option Value) (s0 s1 s2 s3 : Value)  (w : px_H) (Q : Option Value → px_H → Prop), wp d 165 51 [l0, l1] [s0, s1, s2, s3] w 0 Q ↔ wp d 165 53 [l0, l1] [.int 40, s0, s1, s2, s3] w 0 Q) ∧
  (∀ (d : Nat) (l0 l1 : Option Value) (s0 s1 s2 s3 s4 : Value)  (w : px_H) (Q : Option Value → px_H → Prop), wp d 165 53 [l0, l1] [s0, s1, s2, s3, s4] w 0 Q ↔ wp d 165 55 [l0, l1] [.int 59, s0, s1, s2, s3, s4] w 0 Q) ∧
  (∀ (d : Nat) (l0 l1 : Option Value) (s4 s5 : Value) (v0 v1 v2 : Value) (b : Nat) (w : px_H) (Q : Option Value → px_H → Prop), wp (d + 1) 165 55 [l0, l1] [v2, v1, v0, .ref b, s4, s5] w 0 Q ↔ px_op (px_tgt w b [(11, 161)]) (fun v => wc d v [.ref b, v0, v1, v2] w (fun r w' => wp (d + 1) 165 58 [l0, l1] (r.toList ++ [s4, s5]) w' 0 Q))) ∧
  (∀ (d : Nat) (l0 l1 : Option Value) (v0 v1 : Value) (b : Nat) (w : px_H) (Q : Option Value → px_H → Prop), wp (d + 1) 165 58 [l0, l1] [v1, v0, .ref b] w 0 Q ↔ px_op (px_tgt w b [(11, 150)]) (fun v => wc d v [.ref b, v0, v1] w (fun r w' => wp (d + 1) 165 61 [l0, l1] (r.toList ++ []) w' 0 Q))) ∧
  (∀ (d : Nat) (l0 l1 : Option Value) (a : Nat) (w : px_H) (Q : Option Value → px_H → Prop), wp d 165 62 [l0, l1] [.ref a] w 0 Q ↔ px_op (px_fld w a [(11, 0)] 15) (fun v => wp d 165 65 [l0, l1] [v] w 0 Q)) ∧
  (∀ (d : Nat) (l0 l1 : Option Value) (x : Int32) (w : px_H) (Q : Option Value → px_H → Prop), wp d 165 65 [l0, l1] [.int x] w 0 Q ↔ if x = 0 then wp d 165 68 [l0, l1] [] w 0 Q else wp d 165 85 [l0, l1] [] w 0 Q) ∧
  (∀ (d : Nat) (l1 : Option Value) (a : Nat) (w : px_H) (Q : Option Value → px_H → Prop), wp d 165 68 [some (.ref a), l1] [] w 0 Q ↔ wp d 165 69 [some (.ref a), l1] [.ref a] w 0 Q) ∧
  (∀ (d : Nat) (l0 l1 : Option Value) (a : Nat) (w : px_H) (Q : Option Value → px_H → Prop), wp d 165 69 [l0, l1] [.ref a] w 0 Q ↔ px_op (px_fld w a [(11, 0)] 13) (fun v => wp d 165 72 [l0, l1] [v] w 0 Q)) ∧
  (∀ (d : Nat) (l0 l1 : Option Value) (v0 : Value) (w : px_H) (Q : Option Value → px_H → Prop), wp (d + 1) 165 72 [l0, l1] [v0] w 0 Q ↔ wc d 162 [v0] w (fun r w' => wp (d + 1) 165 75 [l0, l1] (r.toList ++ []) w' 0 Q)) ∧
  (∀ (d : Nat) (l0 l1 : Option Value) (x : Int32) (w : px_H) (Q : Option Value → px_H → Prop), wp d 165 75 [l0, l1] [.int x] w 0 Q ↔ if x ≤ 0 then wp d 165 85 [l0, l1] [] w 0 Q else wp d 165 78 [l0, l1] [] w 0 Q) ∧
  (∀ (d : Nat) (l1 : Option Value) (a : Nat) (w : px_H) (Q : Option Value → px_H → Prop), wp d 165 78 [some (.ref a), l1] [] w 0 Q ↔ wp d 165 79 [some (.ref a), l1] [.ref a] w 0 Q) ∧
  (∀ (d : Nat) (l0 l1 : Option Value)  (b : Nat) (w : px_H) (Q : Option Value → px_H → Prop), wp (d + 1) 165 79 [l0, l1] [.ref b] w 0 Q ↔ px_op (px_tgt w b [(11, 163)]) (fun v => wc d v [.ref b] w (fun r w' => wp (d + 1) 165 82 [l0, l1] (r.toList ++ []) w' 0 Q))) ∧
  (∀ (d : Nat) (l0 l1 : Option Value)  (w : px_H) (Q : Option Value → px_H → Prop), wp d 165 82 [l0, l1] [] w 0 Q ↔ wp d 165 61 [l0, l1] [] w 0 Q) ∧
  (∀ (d : Nat) (l0 l1 : Option Value) (a : Nat) (w : px_H) (Q : Option Value → px_H → Prop), wp d 165 86 [l0, l1] [.ref a] w 0 Q ↔ px_op (px_fld w a [(11, 0)] 15) (fun v => wp d 165 89 [l0, l1] [v] w 0 Q)) ∧
  (∀ (d : Nat) (l0 l1 : Option Value) (x : Int32) (w : px_H) (Q : Option Value → px_H → Prop), wp d 165 89 [l0, l1] [.int x] w 0 Q ↔ if x = 0 then wp d 165 92 [l0, l1] [] w 0 Q else wp d 165 106 [l0, l1] [] w 0 Q) ∧
  (∀ (d : Nat) (l1 : Option Value) (a : Nat) (w : px_H) (Q : Option Value → px_H → Prop), wp d 165 92 [some (.ref a), l1] [] w 0 Q ↔ wp d 165 93 [some (.ref a), l1] [.ref a] w 0 Q) ∧
  (∀ (d : Nat) (l0 l1 : Option Value) (a : Nat) (w : px_H) (Q : Option Value → px_H → Prop), wp d 165 93 [l0, l1] [.ref a] w 0 Q ↔ px_op (px_fld w a [(11, 0)] 13) (fun v => wp d 165 96 [l0, l1] [v] w 0 Q)) ∧
  (∀ (d : Nat) (l0 l1 : Option Value) (x : Int32) (w : px_H) (Q : Option Value → px_H → Prop), wp d 165 96 [l0, l1] [.int x] w 0 Q ↔ if x = 0 then wp d 165 106 [l0, l1] [] w 0 Q else wp d 165 99 [l0, l1] [] w 0 Q) ∧
  (∀ (d : Nat) (l1 : Option Value) (a : Nat) (w : px_H) (Q : Option Value → px_H → Prop), wp d 165 99 [some (.ref a), l1] [] w 0 Q ↔ wp d 165 100 [some (.ref a), l1] [.ref a] w 0 Q) ∧
  (∀ (d : Nat) (l0 l1 : Option Value)  (b : Nat) (w : px_H) (Q : Option Value → px_H → Prop), wp (d + 1) 165 100 [l0, l1] [.ref b] w 0 Q ↔ px_op (px_tgt w b [(11, 164)]) (fun v => wc d v [.ref b] w (fun r w' => wp (d + 1) 165 103 [l0, l1] (r.toList ++ []) w' 0 Q))) ∧
  (∀ (d : Nat) (l0 l1 : Option Value)  (w : px_H) (Q : Option Value → px_H → Prop), wp d 165 103 [l0, l1] [] w 0 Q ↔ wp d 165 85 [l0, l1] [] w 0 Q) ∧
  (∀ (d : Nat) (l1 : Option Value) (a : Nat) (w : px_H) (Q : Option Value → px_H → Prop), wp d 165 106 [some (.ref a), l1] [] w 0 Q ↔ wp d 165 107 [some (.ref a), l1] [.ref a] w 0 Q) ∧
  (∀ (d : Nat) (l0 l1 : Option Value) (s0 : Value)  (w : px_H) (Q : Option Value → px_H → Prop), wp d 165 107 [l0, l1] [s0] w 0 Q ↔ wp d 165 108 [l0, l1] [.int 0, s0] w 0 Q) ∧
  (∀ (d : Nat) (l0 l1 : Option Value) (x : Int32) (a : Nat) (w : px_H) (Q : Option Value → px_H → Prop), wp d 165 108 [l0, l1] [.int x, .ref a] w 0 Q ↔ px_op (px_pfd w a [(11, 0)] 5 (.int x)) (fun w' => wp d 165 111 [l0, l1] [] w' 0 Q)) ∧
  (∀ (d : Nat) (l1 : Option Value) (a : Nat) (w : px_H) (Q : Option Value → px_H → Prop), wp d 165 111 [some (.ref a), l1] [] w 0 Q ↔ wp d 165 112 [some (.ref a), l1] [.ref a] w 0 Q) ∧
  (∀ (d : Nat) (l0 l1 : Option Value) (s0 : Value)  (w : px_H) (Q : Option Value → px_H → Prop), wp d 165 112 [l0, l1] [s0] w 0 Q ↔ wp d 165 113 [l0, l1] [.int 0, s0] w 0 Q) ∧
  (∀ (d : Nat) (l0 l1 : Option Value) (x : Int32) (a : Nat) (w : px_H) (Q : Option Value → px_H → Prop), wp d 165 113 [l0, l1] [.int x, .ref a] w 0 Q ↔ px_op (px_pfd w a [(11, 0)] 10 (.int x)) (fun w' => wp d 165 116 [l0, l1] [] w' 0 Q)) ∧
  (∀ (d : Nat) (l1 : Option Value) (a : Nat) (w : px_H) (Q : Option Value → px_H → Prop), wp d 165 116 [some (.ref a), l1] [] w 0 Q ↔ wp d 165 117 [some (.ref a), l1] [.ref a] w 0 Q) ∧
  (∀ (d : Nat) (l0 l1 : Option Value) (a : Nat) (w : px_H) (Q : Option Value → px_H → Prop), wp d 165 117 [l0, l1] [.ref a] w 0 Q ↔ px_op (px_fld w a [(11, 0)] 15) (fun v => wp d 165 120 [l0, l1] [v] w 0 Q)) ∧
  (∀ (d : Nat) (l0 l1 : Option Value) (x : Int32) (w : px_H) (Q : Option Value → px_H → Prop), wp d 165 120 [l0, l1] [.int x] w 0 Q ↔ if x = 0 then wp d 165 139 [l0, l1] [] w 0 Q else wp d 165 123 [l0, l1] [] w 0 Q) ∧
  (∀ (d : Nat) (l1 : Option Value) (a : Nat) (w : px_H) (Q : Option Value → px_H → Prop), wp d 165 123 [some (.ref a), l1] [] w 0 Q ↔ wp d 165 124 [some (.ref a), l1] [.ref a] w 0 Q) ∧
  (∀ (d : Nat) (l1 : Option Value) (s0 : Value) (a : Nat) (w : px_H) (Q : Option Value → px_H → Prop), wp d 165 124 [some (.ref a), l1] [s0] w 0 Q ↔ wp d 165 125 [some (.ref a), l1] [.ref a, s0] w 0 Q) ∧
  (∀ (d : Nat) (l0 l1 : Option Value) (s1 : Value) (a : Nat) (w : px_H) (Q : Option Value → px_H → Prop), wp d 165 125 [l0, l1] [.ref a, s1] w 0 Q ↔ px_op (px_fld w a [(11, 0)] 15) (fun v => wp d 165 128 [l0, l1] [v, s1] w 0 Q)) ∧
  (∀ (d : Nat) (l0 l1 : Option Value) (x : Int32) (a : Nat) (w : px_H) (Q : Option Value → px_H → Prop), wp d 165 128 [l0, l1] [.int x, .ref a] w 0 Q ↔ px_op (px_pfd w a [(11, 0)] 17 (.int x)) (fun w' => wp d 165 131 [l0, l1] [] w' 0 Q)) ∧
  (∀ (d : Nat) (l0 l1 : Option Value)  (w : px_H) (Q : Option Value → px_H → Prop), wp d 165 131 [l0, l1] [] w 0 Q ↔ wp d 165 133 [l0, l1] [.int (-1000100)] w 0 Q) ∧
  (∀ (d : Nat) (l1 : Option Value) (s0 : Value) (a : Nat) (w : px_H) (Q : Option Value → px_H → Prop), wp d 165 133 [some (.ref a), l1] [s0] w 0 Q ↔ wp d 165 134 [some (.ref a), l1] [.ref a, s0] w 0 Q) ∧
  (∀ (d : Nat) (l0 l1 : Option Value) (s1 : Value) (a : Nat) (w : px_H) (Q : Option Value → px_H → Prop), wp d 165 134 [l0, l1] [.ref a, s1] w 0 Q ↔ px_op (px_fld w a [(11, 0)] 16) (fun v => wp d 165 137 [l0, l1] [v, s1] w 0 Q)) ∧
  (∀ (d : Nat) (l0 l1 : Option Value) (x y : Int32) (w : px_H) (Q : Option Value → px_H → Prop), wp d 165 137 [l0, l1] [.int y, .int x] w 0 Q ↔ wp d 165 138 [l0, l1] [.int (x - y)] w 0 Q) ∧
  (∀ (d : Nat) (l0 l1 : Option Value) (x : Int32) (w : px_H) (Q : Option Value → px_H → Prop), wp d 165 138 [l0, l1] [.int x] w 0 Q ↔ Q (some (.int x)) w) ∧
  (∀ (d : Nat) (l1 : Option Value) (a : Nat) (w : px_H) (Q : Option Value → px_H → Prop), wp d 165 139 [some (.ref a), l1] [] w 0 Q ↔ wp d 165 140 [some (.ref a), l1] [.ref a] w 0 Q) ∧
  (∀ (d : Nat) (l0 l1 : Option Value) (s0 : Value)  (w : px_H) (Q : Option Value → px_H → Prop), wp d 165 140 [l0, l1] [s0] w 0 Q ↔ wp d 165 141 [l0, l1] [.int 3, s0] w 0 Q) ∧
  (∀ (d : Nat) (l0 l1 : Option Value) (s0 s1 : Value)  (w : px_H) (Q : Option Value → px_H → Prop), wp d 165 141 [l0, l1] [s0, s1] w 0 Q ↔ wp d 165 142 [l0, l1] [.int 0, s0, s1] w 0 Q) ∧
  (∀ (d : Nat) (l0 l1 : Option Value) (v0 v1 : Value) (b : Nat) (w : px_H) (Q : Option Value → px_H → Prop), wp (d + 1) 165 142 [l0, l1] [v1, v0, .ref b] w 0 Q ↔ px_op (px_tgt w b [(11, 151)]) (fun v => wc d v [.ref b, v0, v1] w (fun r w' => wp (d + 1) 165 145 [l0, l1] (r.toList ++ []) w' 0 Q))) ∧
  (∀ (d : Nat) (l1 : Option Value) (a : Nat) (w : px_H) (Q : Option Value → px_H → Prop), wp d 165 145 [some (.ref a), l1] [] w 0 Q ↔ wp d 165 146 [some (.ref a), l1] [.ref a] w 0 Q) ∧
  (∀ (d : Nat) (l0 l1 : Option Value) (s0 : Value)  (w : px_H) (Q : Option Value → px_H → Prop), wp d 165 146 [l0, l1] [s0] w 0 Q ↔ wp d 165 147 [l0, l1] [.int 0, s0] w 0 Q) ∧
  (∀ (d : Nat) (l0 l1 : Option Value) (x : Int32) (a : Nat) (w : px_H) (Q : Option Value → px_H → Prop), wp d 165 147 [l0, l1] [.int x, .ref a] w 0 Q ↔ px_op (px_pfd w a [(11, 0)] 8 (.int x)) (fun w' => wp d 165 150 [l0, l1] [] w' 0 Q)) ∧
  (∀ (d : Nat) (l1 : Option Value) (a : Nat) (w : px_H) (Q : Option Value → px_H → Prop), wp d 165 150 [some (.ref a), l1] [] w 0 Q ↔ wp d 165 151 [some (.ref a), l1] [.ref a] w 0 Q) ∧
  (∀ (d : Nat) (l0 l1 : Option Value) (a : Nat) (w : px_H) (Q : Option Value → px_H → Prop), wp d 165 151 [l0, l1] [.ref a] w 0 Q ↔ px_op (px_fld w a [(11, 0)] 4) (fun v => wp d 165 154 [l0, l1] [v] w 0 Q)) ∧
  (∀ (d : Nat) (l0 l1 : Option Value) (s0 : Value)  (w : px_H) (Q : Option Value → px_H → Prop), wp d 165 154 [l0, l1] [s0] w 0 Q ↔ wp d 165 155 [l0, l1] [.int 1, s0] w 0 Q) ∧
  (∀ (d : Nat) (l0 l1 : Option Value) (i : Int32) (a : Nat) (w : px_H) (Q : Option Value → px_H → Prop), wp d 165 155 [l0, l1] [.int i, .ref a] w 0 Q ↔ px_op (px_ald w a i .int) (fun x => wp d 165 156 [l0, l1] [.int x] w 0 Q)) ∧
  (∀ (d : Nat) (l0 l1 : Option Value) (x : Int32) (w : px_H) (Q : Option Value → px_H → Prop), wp d 165 156 [l0, l1] [.int x] w 0 Q ↔ Q (some (.int x)) w) := ⟨fun d v0 w Q => r_entry pt_165 (Nat.le_of_ble_eq_true rfl) rfl,
  fun d l1 a w Q => px_go (q := (.aload_n 0, 1, px_x0)) (S' := (1, [some (.ref a), l1], [.ref a], w, 0)) pt_165 rfl rfl,
  fun d l0 l1 s0 w Q => r_sipush pt_165 rfl (by decide),
  fun d l0 l1 x a w Q => r_put pt_165 rfl (by simp only [List.all_cons, List.all_nil, ft_11_5, px_fit, px_isr, Bool.and_self]),
  fun d l0 l1 w Q => r_iconst pt_165 rfl (by decide),
  fun d l0 l1 x w Q => px_go (q := (.istore_n 1, 1, px_x0)) (S' := (9, [l0, some (.int x)], [], w, 0)) pt_165 rfl rfl,
  fun d l0 l1 s0 w Q => r_bipush pt_165 rfl (by decide),
  fun d l0 l1 x y w Q => r_icmp_ge pt_165 rfl rfl,
  fun d l1 a w Q => px_go (q := (.aload_n 0, 1, px_x0)) (S' := (16, [some (.ref a), l1], [.ref a], w, 0)) pt_165 rfl rfl,
  fun d l0 s0 x w Q => px_go (q := (.iload_n 1, 1, px_x0)) (S' := (17, [l0, some (.int x)], [.int x, s0], w, 0)) pt_165 rfl rfl,
  fun d l0 l1 s0 s1 w Q => r_iconst pt_165 rfl (by decide),
  fun d l0 l1 v0 v1 b w Q => r_callV (q := (.invokevirtual 115, 3, (33, 2, [(11, 150)], 0, ""))) pt_165 rfl rfl (List.forall_mem_cons.mpr ⟨⟨_, pt_150, Nat.le_of_ble_eq_true rfl, (Nat.le_of_ble_eq_true rfl), rfl⟩, fun _ h => absurd h List.not_mem_nil⟩),
  fun d l0 x w Q => r_iinc pt_165 rfl rfl (by decide) rfl,
  fun d l0 l1 w Q => r_goto pt_165 rfl rfl,
  fun d l1 a w Q => px_go (q := (.aload_n 0, 1, px_x0)) (S' := (28, [some (.ref a), l1], [.ref a], w, 0)) pt_165 rfl rfl,
  fun d l0 l1 s0 w Q => r_iconst pt_165 rfl (by decide),
  fun d l0 l1 x a w Q => r_put pt_165 rfl (by simp only [List.all_cons, List.all_nil, ft_11_11, px_fit, px_isr, Bool.and_self]),
  fun d l1 a w Q => px_go (q := (.aload_n 0, 1, px_x0)) (S' := (33, [some (.ref a), l1], [.ref a], w, 0)) pt_165 rfl rfl,
  fun d l0 l1 s0 w Q => r_iconst pt_165 rfl (by decide),
  fun d l0 l1 x a w Q => r_put pt_165 rfl (by simp only [List.all_cons, List.all_nil, ft_11_15, px_fit, px_isr, Bool.and_self]),
  fun d l1 a w Q => px_go (q := (.aload_n 0, 1, px_x0)) (S' := (38, [some (.ref a), l1], [.ref a], w, 0)) pt_165 rfl rfl,
  fun d l0 l1 b w Q => r_callV (q := (.invokevirtual 95, 3, (33, 0, [(11, 157)], 0, ""))) pt_165 rfl rfl (List.forall_mem_cons.mpr ⟨⟨_, pt_157, Nat.le_of_ble_eq_true rfl, (Nat.le_of_ble_eq_true rfl), rfl⟩, fun _ h => absurd h List.not_mem_nil⟩),
  fun d l1 a w Q => px_go (q := (.aload_n 0, 1, px_x0)) (S' := (42, [some (.ref a), l1], [.ref a], w, 0)) pt_165 rfl rfl,
  fun d l0 l1 s0 w Q => r_bipush pt_165 rfl (by decide),
  fun d l0 l1 v0 b w Q => r_callV (q := (.invokevirtual 106, 3, (33, 1, [(11, 159)], 0, ""))) pt_165 rfl rfl (List.forall_mem_cons.mpr ⟨⟨_, pt_159, Nat.le_of_ble_eq_true rfl, (Nat.le_of_ble_eq_true rfl), rfl⟩, fun _ h => absurd h List.not_mem_nil⟩),
  fun d l1 a w Q => px_go (q := (.aload_n 0, 1, px_x0)) (S' := (48, [some (.ref a), l1], [.ref a], w, 0)) pt_165 rfl rfl,
  fun d l0 l1 s0 w Q => r_iconst pt_165 rfl (by decide),
  fun d l1 s0 s1 a w Q => px_go (q := (.aload_n 0, 1, px_x0)) (S' := (50, [some (.ref a), l1], [.ref a, s0, s1], w, 0)) pt_165 rfl rfl,
  fun d l0 l1 s0 s1 s2 w Q => r_iconst pt_165 rfl (by decide),
  fun d l0 l1 s0 s1 s2 s3 w Q => r_bipush pt_165 rfl (by decide),
  fun d l0 l1 s0 s1 s2 s3 s4 w Q => r_bipush pt_165 rfl (by decide),
  fun d l0 l1 s4 s5 v0 v1 v2 b w Q => r_callV (q := (.invokevirtual 112, 3, (33, 3, [(11, 161)], 0, ""))) pt_165 rfl rfl (List.forall_mem_cons.mpr ⟨⟨_, pt_161, Nat.le_of_ble_eq_true rfl, (Nat.le_of_ble_eq_true rfl), rfl⟩, fun _ h => absurd h List.not_mem_nil⟩),
  fun d l0 l1 v0 v1 b w Q => r_callV (q := (.invokevirtual 115, 3, (33, 2, [(11, 150)], 0, ""))) pt_165 rfl rfl (List.forall_mem_cons.mpr ⟨⟨_, pt_150, Nat.le_of_ble_eq_true rfl, (Nat.le_of_ble_eq_true rfl), rfl⟩, fun _ h => absurd h List.not_mem_nil⟩),
  fun d l0 l1 a w Q => px_goO (q := (.getfield 89, 3, (10, 15, [(11, 0)], 0, "AllSwornModel"))) (S' := fun v => (65, [l0, l1], [v], w, 0)) pt_165 rfl rfl,
  fun d l0 l1 x w Q => r_if_ne pt_165 rfl rfl,
  fun d l1 a w Q => px_go (q := (.aload_n 0, 1, px_x0)) (S' := (69, [some (.ref a), l1], [.ref a], w, 0)) pt_165 rfl rfl,
  fun d l0 l1 a w Q => px_goO (q := (.getfield 86, 3, (10, 13, [(11, 0)], 0, "AllSwornModel"))) (S' := fun v => (72, [l0, l1], [v], w, 0)) pt_165 rfl rfl,
  fun d l0 l1 v0 w Q => r_call (q := (.invokestatic 109, 3, (30, 1, [(0, 162)], 0, ""))) pt_165 rfl rfl pt_162 (Nat.le_of_ble_eq_true rfl) (Nat.le_of_ble_eq_true rfl) rfl,
  fun d l0 l1 x w Q => r_if_le pt_165 rfl rfl,
  fun d l1 a w Q => px_go (q := (.aload_n 0, 1, px_x0)) (S' := (79, [some (.ref a), l1], [.ref a], w, 0)) pt_165 rfl rfl,
  fun d l0 l1 b w Q => r_callV (q := (.invokevirtual 120, 3, (33, 0, [(11, 163)], 0, ""))) pt_165 rfl rfl (List.forall_mem_cons.mpr ⟨⟨_, pt_163, Nat.le_of_ble_eq_true rfl, (Nat.le_of_ble_eq_true rfl), rfl⟩, fun _ h => absurd h List.not_mem_nil⟩),
  fun d l0 l1 w Q => r_goto pt_165 rfl rfl,
  fun d l0 l1 a w Q => px_goO (q := (.getfield 89, 3, (10, 15, [(11, 0)], 0, "AllSwornModel"))) (S' := fun v => (89, [l0, l1], [v], w, 0)) pt_165 rfl rfl,
  fun d l0 l1 x w Q => r_if_ne pt_165 rfl rfl,
  fun d l1 a w Q => px_go (q := (.aload_n 0, 1, px_x0)) (S' := (93, [some (.ref a), l1], [.ref a], w, 0)) pt_165 rfl rfl,
  fun d l0 l1 a w Q => px_goO (q := (.getfield 86, 3, (10, 13, [(11, 0)], 0, "AllSwornModel"))) (S' := fun v => (96, [l0, l1], [v], w, 0)) pt_165 rfl rfl,
  fun d l0 l1 x w Q => r_if_eq pt_165 rfl rfl,
  fun d l1 a w Q => px_go (q := (.aload_n 0, 1, px_x0)) (S' := (100, [some (.ref a), l1], [.ref a], w, 0)) pt_165 rfl rfl,
  fun d l0 l1 b w Q => r_callV (q := (.invokevirtual 123, 3, (33, 0, [(11, 164)], 0, ""))) pt_165 rfl rfl (List.forall_mem_cons.mpr ⟨⟨_, pt_164, Nat.le_of_ble_eq_true rfl, (Nat.le_of_ble_eq_true rfl), rfl⟩, fun _ h => absurd h List.not_mem_nil⟩),
  fun d l0 l1 w Q => r_goto pt_165 rfl rfl,
  fun d l1 a w Q => px_go (q := (.aload_n 0, 1, px_x0)) (S' := (107, [some (.ref a), l1], [.ref a], w, 0)) pt_165 rfl rfl,
  fun d l0 l1 s0 w Q => r_iconst pt_165 rfl (by decide),
  fun d l0 l1 x a w Q => r_put pt_165 rfl (by simp only [List.all_cons, List.all_nil, ft_11_5, px_fit, px_isr, Bool.and_self]),
  fun d l1 a w Q => px_go (q := (.aload_n 0, 1, px_x0)) (S' := (112, [some (.ref a), l1], [.ref a], w, 0)) pt_165 rfl rfl,
  fun d l0 l1 s0 w Q => r_iconst pt_165 rfl (by decide),
  fun d l0 l1 x a w Q => r_put pt_165 rfl (by simp only [List.all_cons, List.all_nil, ft_11_10, px_fit, px_isr, Bool.and_self]),
  fun d l1 a w Q => px_go (q := (.aload_n 0, 1, px_x0)) (S' := (117, [some (.ref a), l1], [.ref a], w, 0)) pt_165 rfl rfl,
  fun d l0 l1 a w Q => px_goO (q := (.getfield 89, 3, (10, 15, [(11, 0)], 0, "AllSwornModel"))) (S' := fun v => (120, [l0, l1], [v], w, 0)) pt_165 rfl rfl,
  fun d l0 l1 x w Q => r_if_eq pt_165 rfl rfl,
  fun d l1 a w Q => px_go (q := (.aload_n 0, 1, px_x0)) (S' := (124, [some (.ref a), l1], [.ref a], w, 0)) pt_165 rfl rfl,
  fun d l1 s0 a w Q => px_go (q := (.aload_n 0, 1, px_x0)) (S' := (125, [some (.ref a), l1], [.ref a, s0], w, 0)) pt_165 rfl rfl,
  fun d l0 l1 s1 a w Q => px_goO (q := (.getfield 89, 3, (10, 15, [(11, 0)], 0, "AllSwornModel"))) (S' := fun v => (128, [l0, l1], [v, s1], w, 0)) pt_165 rfl rfl,
  fun d l0 l1 x a w Q => r_put pt_165 rfl (by simp only [List.all_cons, List.all_nil, ft_11_17, px_fit, px_isr, Bool.and_self]),
  fun d l0 l1 w Q => px_go (q := (.ldc 129, 2, (0, 0, [], (-1000100), ""))) (S' := (133, [l0, l1], [.int (-1000100)], w, 0)) pt_165 rfl rfl,
  fun d l1 s0 a w Q => px_go (q := (.aload_n 0, 1, px_x0)) (S' := (134, [some (.ref a), l1], [.ref a, s0], w, 0)) pt_165 rfl rfl,
  fun d l0 l1 s1 a w Q => px_goO (q := (.getfield 92, 3, (10, 16, [(11, 0)], 0, "AllSwornModel"))) (S' := fun v => (137, [l0, l1], [v, s1], w, 0)) pt_165 rfl rfl,
  fun d l0 l1 x y w Q => px_go (q := (.isub, 1, px_x0)) (S' := (138, [l0, l1], [.int (x - y)], w, 0)) pt_165 rfl rfl,
  fun d l0 l1 x w Q => px_ret (q := (.ireturn, 1, px_x0)) pt_165 rfl rfl,
  fun d l1 a w Q => px_go (q := (.aload_n 0, 1, px_x0)) (S' := (140, [some (.ref a), l1], [.ref a], w, 0)) pt_165 rfl rfl,
  fun d l0 l1 s0 w Q => r_iconst pt_165 rfl (by decide),
  fun d l0 l1 s0 s1 w Q => r_iconst pt_165 rfl (by decide),
  fun d l0 l1 v0 v1 b w Q => r_callV (q := (.invokevirtual 130, 3, (33, 2, [(11, 151)], 0, ""))) pt_165 rfl rfl (List.forall_mem_cons.mpr ⟨⟨_, pt_151, Nat.le_of_ble_eq_true rfl, (Nat.le_of_ble_eq_true rfl), rfl⟩, fun _ h => absurd h List.not_mem_nil⟩),
  fun d l1 a w Q => px_go (q := (.aload_n 0, 1, px_x0)) (S' := (146, [some (.ref a), l1], [.ref a], w, 0)) pt_165 rfl rfl,
  fun d l0 l1 s0 w Q => r_iconst pt_165 rfl (by decide),
  fun d l0 l1 x a w Q => r_put pt_165 rfl (by simp only [List.all_cons, List.all_nil, ft_11_8, px_fit, px_isr, Bool.and_self]),
  fun d l1 a w Q => px_go (q := (.aload_n 0, 1, px_x0)) (S' := (151, [some (.ref a), l1], [.ref a], w, 0)) pt_165 rfl rfl,
  fun d l0 l1 a w Q => px_goO (q := (.getfield 19, 3, (10, 4, [(11, 0)], 0, "AllSwornModel"))) (S' := fun v => (154, [l0, l1], [v], w, 0)) pt_165 rfl rfl,
  fun d l0 l1 s0 w Q => r_iconst pt_165 rfl (by decide),
  fun d l0 l1 i a w Q => px_goO (q := (.iaload, 1, px_x0)) (S' := fun x => (156, [l0, l1], [.int x], w, 0)) pt_165 rfl rfl,
  fun d l0 l1 x w Q => px_ret (q := (.ireturn, 1, px_x0)) pt_165 rfl rfl⟩
theorem H165_9 : ∀ (d : Nat) (l0 : Option Value) (x : Int32) (w : px_H) (Q : Option Value → px_H → Prop), wp d 165 9 [l0, some (.int x)] [] w 0 Q ↔ wp d 165 10 [l0, some (.int x)] [.int x] w 0 Q := fun d l0 x w Q => px_go (q := (.iload_n 1, 1, px_x0)) (S' := (10, [l0, some (.int x)], [.int x], w, 0)) pt_165 rfl rfl
theorem H165_61 : ∀ (d : Nat) (l1 : Option Value) (a : Nat) (w : px_H) (Q : Option Value → px_H → Prop), wp d 165 61 [some (.ref a), l1] [] w 0 Q ↔ wp d 165 62 [some (.ref a), l1] [.ref a] w 0 Q := fun d l1 a w Q => px_go (q := (.aload_n 0, 1, px_x0)) (S' := (62, [some (.ref a), l1], [.ref a], w, 0)) pt_165 rfl rfl
theorem H165_85 : ∀ (d : Nat) (l1 : Option Value) (a : Nat) (w : px_H) (Q : Option Value → px_H → Prop), wp d 165 85 [some (.ref a), l1] [] w 0 Q ↔ wp d 165 86 [some (.ref a), l1] [.ref a] w 0 Q := fun d l1 a w Q => px_go (q := (.aload_n 0, 1, px_x0)) (S' := (86, [some (.ref a), l1], [.ref a], w, 0)) pt_165 rfl rfl
/-- AllSwornModel.fault()I -/
theorem S166 : (∀ (d : Nat) (v0 : Value) (w : px_H) (Q : Option Value → px_H → Prop), wc d 166 [v0] w Q ↔ wp d 166 0 [some v0] [] w 0 Q) ∧
  (∀ (d : Nat) (a : Nat) (w : px_H) (Q : Option Value → px_H → Prop), wp d 166 0 [some (.ref a)] [] w 0 Q ↔ wp d 166 1 [some (.ref a)] [.ref a] w 0 Q) ∧
  (∀ (d : Nat) (l0 : Option Value) (a : Nat) (w : px_H) (Q : Option Value → px_H → Prop), wp d 166 1 [l0] [.ref a] w 0 Q ↔ px_op (px_fld w a [(11, 0)] 17) (fun v => wp d 166 4 [l0] [v] w 0 Q)) ∧
  (∀ (d : Nat) (l0 : Option Value) (x : Int32) (w : px_H) (Q : Option Value → px_H → Prop), wp d 166 4 [l0] [.int x] w 0 Q ↔ Q (some (.int x)) w) := ⟨fun d v0 w Q => r_entry pt_166 (Nat.le_of_ble_eq_true rfl) rfl,
  fun d a w Q => px_go (q := (.aload_n 0, 1, px_x0)) (S' := (1, [some (.ref a)], [.ref a], w, 0)) pt_166 rfl rfl,
  fun d l0 a w Q => px_goO (q := (.getfield 126, 3, (10, 17, [(11, 0)], 0, "AllSwornModel"))) (S' := fun v => (4, [l0], [v], w, 0)) pt_166 rfl rfl,
  fun d l0 x w Q => px_ret (q := (.ireturn, 1, px_x0)) pt_166 rfl rfl⟩
/-- AllSwornModel.asSworn()V heads: [2] -/
theorem S167 : (∀ (d : Nat) (v0 : Value) (w : px_H) (Q : Option Value → px_H → Prop), wc d 167 [v0] w Q ↔ wp d 167 0 [some v0, none] [] w 0 Q) ∧
  (∀ (d : Nat) (l0 l1 : Option Value)  (w : px_H) (Q : Option Value → px_H → Prop), wp d 167 0 [l0, l1] [] w 0 Q ↔ wp d 167 1 [l0, l1] [.int 0] w 0 Q) ∧
  (∀ (d : Nat) (l0 l1 : Option Value) (x : Int32) (w : px_H) (Q : Option Value → px_H → Prop), wp d 167 1 [l0, l1] [.int x] w 0 Q ↔ wp d 167 2 [l0, some (.int x)] [] w 0 Q) ∧
  (∀ (d : Nat) (l1 : Option Value) (s0 : Value) (a : Nat) (w : px_H) (Q : Option Value → px_H → Prop), wp d 167 3 [some (.ref a), l1] [s0] w 0 Q ↔ wp d 167 4 [some (.ref a), l1] [.ref a, s0] w 0 Q) ∧
  (∀ (d : Nat) (l0 l1 : Option Value) (s0 s1 : Value)  (w : px_H) (Q : Option Value → px_H → Prop), wp d 167 4 [l0, l1] [s0, s1] w 0 Q ↔ wp d 167 5 [l0, l1] [.int 1, s0, s1] w 0 Q) ∧
  (∀ (d : Nat) (l0 l1 : Option Value) (s2 : Value) (v0 : Value) (b : Nat) (w : px_H) (Q : Option Value → px_H → Prop), wp (d + 1) 167 5 [l0, l1] [v0, .ref b, s2] w 0 Q ↔ px_op (px_tgt w b [(11, 149)]) (fun v => wc d v [.ref b, v0] w (fun r w' => wp (d + 1) 167 8 [l0, l1] (r.toList ++ [s2]) w' 0 Q))) ∧
  (∀ (d : Nat) (l0 l1 : Option Value) (x y : Int32) (w : px_H) (Q : Option Value → px_H → Prop), wp d 167 8 [l0, l1] [.int y, .int x] w 0 Q ↔ if y ≤ x then wp d 167 29 [l0, l1] [] w 0 Q else wp d 167 11 [l0, l1] [] w 0 Q) ∧
  (∀ (d : Nat) (l1 : Option Value) (a : Nat) (w : px_H) (Q : Option Value → px_H → Prop), wp d 167 11 [some (.ref a), l1] [] w 0 Q ↔ wp d 167 12 [some (.ref a), l1] [.ref a] w 0 Q) ∧
  (∀ (d : Nat) (l0 l1 : Option Value) (a : Nat) (w : px_H) (Q : Option Value → px_H → Prop), wp d 167 12 [l0, l1] [.ref a] w 0 Q ↔ px_op (px_fld w a [(11, 0)] 18) (fun v => wp d 167 15 [l0, l1] [v] w 0 Q)) ∧
  (∀ (d : Nat) (l0 : Option Value) (s0 : Value) (x : Int32) (w : px_H) (Q : Option Value → px_H → Prop), wp d 167 15 [l0, some (.int x)] [s0] w 0 Q ↔ wp d 167 16 [l0, some (.int x)] [.int x, s0] w 0 Q) ∧
  (∀ (d : Nat) (l1 : Option Value) (s0 s1 : Value) (a : Nat) (w : px_H) (Q : Option Value → px_H → Prop), wp d 167 16 [some (.ref a), l1] [s0, s1] w 0 Q ↔ wp d 167 17 [some (.ref a), l1] [.ref a, s0, s1] w 0 Q) ∧
  (∀ (d : Nat) (l0 : Option Value) (s0 s1 s2 : Value) (x : Int32) (w : px_H) (Q : Option Value → px_H → Prop), wp d 167 17 [l0, some (.int x)] [s0, s1, s2] w 0 Q ↔ wp d 167 18 [l0, some (.int x)] [.int x, s0, s1, s2] w 0 Q) ∧
  (∀ (d : Nat) (l0 l1 : Option Value) (s0 s1 s2 s3 : Value)  (w : px_H) (Q : Option Value → px_H → Prop), wp d 167 18 [l0, l1] [s0, s1, s2, s3] w 0 Q ↔ wp d 167 19 [l0, l1] [.int 3, s0, s1, s2, s3] w 0 Q) ∧
  (∀ (d : Nat) (l0 l1 : Option Value) (s3 s4 : Value) (v0 v1 : Value) (b : Nat) (w : px_H) (Q : Option Value → px_H → Prop), wp (d + 1) 167 19 [l0, l1] [v1, v0, .ref b, s3, s4] w 0 Q ↔ px_op (px_tgt w b [(11, 154)]) (fun v => wc d v [.ref b, v0, v1] w (fun r w' => wp (d + 1) 167 22 [l0, l1] (r.toList ++ [s3, s4]) w' 0 Q))) ∧
  (∀ (d : Nat) (l0 l1 : Option Value) (x i : Int32) (a : Nat) (w : px_H) (Q : Option Value → px_H → Prop), wp d 167 22 [l0, l1] [.int x, .int i, .ref a] w 0 Q ↔ px_op (px_ast w a i x .int) (fun w' => wp d 167 23 [l0, l1] [] w' 0 Q)) ∧
  (∀ (d : Nat) (l0 : Option Value) (x : Int32) (w : px_H) (Q : Option Value → px_H → Prop), wp d 167 23 [l0, some (.int x)] [] w 0 Q ↔ wp d 167 26 [l0, some (.int (x + 1))] [] w 0 Q) ∧
  (∀ (d : Nat) (l0 l1 : Option Value)  (w : px_H) (Q : Option Value → px_H → Prop), wp d 167 26 [l0, l1] [] w 0 Q ↔ wp d 167 2 [l0, l1] [] w 0 Q) ∧
  (∀ (d : Nat) (l0 l1 : Option Value)  (w : px_H) (Q : Option Value → px_H → Prop), wp d 167 29 [l0, l1] [] w 0 Q ↔ Q none w) := ⟨fun d v0 w Q => r_entry pt_167 (Nat.le_of_ble_eq_true rfl) rfl,
  fun d l0 l1 w Q => r_iconst pt_167 rfl (by decide),
  fun d l0 l1 x w Q => px_go (q := (.istore_n 1, 1, px_x0)) (S' := (2, [l0, some (.int x)], [], w, 0)) pt_167 rfl rfl,
  fun d l1 s0 a w Q => px_go (q := (.aload_n 0, 1, px_x0)) (S' := (4, [some (.ref a), l1], [.ref a, s0], w, 0)) pt_167 rfl rfl,
  fun d l0 l1 s0 s1 w Q => r_iconst pt_167 rfl (by decide),
  fun d l0 l1 s2 v0 b w Q => r_callV (q := (.invokevirtual 69, 3, (33, 1, [(11, 149)], 0, ""))) pt_167 rfl rfl (List.forall_mem_cons.mpr ⟨⟨_, pt_149, Nat.le_of_ble_eq_true rfl, (Nat.le_of_ble_eq_true rfl), rfl⟩, fun _ h => absurd h List.not_mem_nil⟩),
  fun d l0 l1 x y w Q => r_icmp_ge pt_167 rfl rfl,
  fun d l1 a w Q => px_go (q := (.aload_n 0, 1, px_x0)) (S' := (12, [some (.ref a), l1], [.ref a], w, 0)) pt_167 rfl rfl,
  fun d l0 l1 a w Q => px_goO (q := (.getfield 33, 3, (10, 18, [(11, 0)], 0, "AllSwornModel"))) (S' := fun v => (15, [l0, l1], [v], w, 0)) pt_167 rfl rfl,
  fun d l0 s0 x w Q => px_go (q := (.iload_n 1, 1, px_x0)) (S' := (16, [l0, some (.int x)], [.int x, s0], w, 0)) pt_167 rfl rfl,
  fun d l1 s0 s1 a w Q => px_go (q := (.aload_n 0, 1, px_x0)) (S' := (17, [some (.ref a), l1], [.ref a, s0, s1], w, 0)) pt_167 rfl rfl,
  fun d l0 s0 s1 s2 x w Q => px_go (q := (.iload_n 1, 1, px_x0)) (S' := (18, [l0, some (.int x)], [.int x, s0, s1, s2], w, 0)) pt_167 rfl rfl,
  fun d l0 l1 s0 s1 s2 s3 w Q => r_iconst pt_167 rfl (by decide),
  fun d l0 l1 s3 s4 v0 v1 b w Q => r_callV (q := (.invokevirtual 136, 3, (33, 2, [(11, 154)], 0, ""))) pt_167 rfl rfl (List.forall_mem_cons.mpr ⟨⟨_, pt_154, Nat.le_of_ble_eq_true rfl, (Nat.le_of_ble_eq_true rfl), rfl⟩, fun _ h => absurd h List.not_mem_nil⟩),
  fun d l0 l1 x i a w Q => px_goO (q := (.iastore, 1, px_x0)) (S' := fun w' => (23, [l0, l1], [], w', 0)) pt_167 rfl rfl,
  fun d l0 x w Q => r_iinc pt_167 rfl rfl (by decide) rfl,
  fun d l0 l1 w Q => r_goto pt_167 rfl rfl,
  fun d l0 l1 w Q => px_ret (q := (.return_, 1, px_x0)) pt_167 rfl rfl⟩
theorem H167_2 : ∀ (d : Nat) (l0 : Option Value) (x : Int32) (w : px_H) (Q : Option Value → px_H → Prop), wp d 167 2 [l0, some (.int x)] [] w 0 Q ↔ wp d 167 3 [l0, some (.int x)] [.int x] w 0 Q := fun d l0 x w Q => px_go (q := (.iload_n 1, 1, px_x0)) (S' := (3, [l0, some (.int x)], [.int x], w, 0)) pt_167 rfl rfl
/-- AllSwornModel.boundOn(II)I heads: [5] -/
theorem S168 : (∀ (d : Nat) (v0 v1 v2 : Value) (w : px_H) (Q : Option Value → px_H → Prop), wc d 168 [v0, v1, v2] w Q ↔ wp d 168 0 [some v0, some v1, some v2, none, none, none, none, none] [] w 0 Q) ∧
  (∀ (d : Nat) (l0 l1 l2 l3 l4 l5 l6 l7 : Option Value)  (w : px_H) (Q : Option Value → px_H → Prop), wp d 168 0 [l0, l1, l2, l3, l4, l5, l6, l7] [] w 0 Q ↔ wp d 168 1 [l0, l1, l2, l3, l4, l5, l6, l7] [.int 0] w 0 Q) ∧
  (∀ (d : Nat) (l0 l1 l2 l3 l4 l5 l6 l7 : Option Value) (x : Int32) (w : px_H) (Q : Option Value → px_H → Prop), wp d 168 1 [l0, l1, l2, l3, l4, l5, l6, l7] [.int x] w 0 Q ↔ wp d 168 2 [l0, l1, l2, some (.int x), l4, l5, l6, l7] [] w 0 Q) ∧
  (∀ (d : Nat) (l0 l1 l2 l3 l4 l5 l6 l7 : Option Value)  (w : px_H) (Q : Option Value → px_H → Prop), wp d 168 2 [l0, l1, l2, l3, l4, l5, l6, l7] [] w 0 Q ↔ wp d 168 3 [l0, l1, l2, l3, l4, l5, l6, l7] [.int 0] w 0 Q) ∧
  (∀ (d : Nat) (l0 l1 l2 l3 l4 l5 l6 l7 : Option Value) (x : Int32) (w : px_H) (Q : Option Value → px_H → Prop), wp d 168 3 [l0, l1, l2, l3, l4, l5, l6, l7] [.int x] w 0 Q ↔ wp d 168 5 [l0, l1, l2, l3, some (.int x), l5, l6, l7] [] w 0 Q) ∧
  (∀ (d : Nat) (l1 l2 l3 l4 l5 l6 l7 : Option Value) (s0 : Value) (a : Nat) (w : px_H) (Q : Option Value → px_H → Prop), wp d 168 7 [some (.ref a), l1, l2, l3, l4, l5, l6, l7] [s0] w 0 Q ↔ wp d 168 8 [some (.ref a), l1, l2, l3, l4, l5, l6, l7] [.ref a, s0] w 0 Q) ∧
  (∀ (d : Nat) (l0 l1 l2 l3 l4 l5 l6 l7 : Option Value) (s0 s1 : Value)  (w : px_H) (Q : Option Value → px_H → Prop), wp d 168 8 [l0, l1, l2, l3, l4, l5, l6, l7] [s0, s1] w 0 Q ↔ wp d 168 9 [l0, l1, l2, l3, l4, l5, l6, l7] [.int 1, s0, s1] w 0 Q) ∧
  (∀ (d : Nat) (l0 l1 l2 l3 l4 l5 l6 l7 : Option Value) (s2 : Value) (v0 : Value) (b : Nat) (w : px_H) (Q : Option Value → px_H → Prop), wp (d + 1) 168 9 [l0, l1, l2, l3, l4, l5, l6, l7] [v0, .ref b, s2] w 0 Q ↔ px_op (px_tgt w b [(11, 149)]) (fun v => wc d v [.ref b, v0] w (fun r w' => wp (d + 1) 168 12 [l0, l1, l2, l3, l4, l5, l6, l7] (r.toList ++ [s2]) w' 0 Q))) ∧
  (∀ (d : Nat) (l0 l1 l2 l3 l4 l5 l6 l7 : Option Value) (x y : Int32) (w : px_H) (Q : Option Value → px_H → Prop), wp d 168 12 [l0, l1, l2, l3, l4, l5, l6, l7] [.int y, .int x] w 0 Q ↔ if y ≤ x then wp d 168 131 [l0, l1, l2, l3, l4, l5, l6, l7] [] w 0 Q else wp d 168 15 [l0, l1, l2, l3, l4, l5, l6, l7] [] w 0 Q) ∧
  (∀ (d : Nat) (l1 l2 l3 l4 l5 l6 l7 : Option Value) (a : Nat) (w : px_H) (Q : Option Value → px_H → Prop), wp d 168 15 [some (.ref a), l1, l2, l3, l4, l5, l6, l7] [] w 0 Q ↔ wp d 168 16 [some (.ref a), l1, l2, l3, l4, l5, l6, l7] [.ref a] w 0 Q) ∧
  (∀ (d : Nat) (l0 l1 l2 l3 l5 l6 l7 : Option Value) (s0 : Value) (x : Int32) (w : px_H) (Q : Option Value → px_H → Prop), wp d 168 16 [l0, l1, l2, l3, some (.int x), l5, l6, l7] [s0] w 0 Q ↔ wp d 168 18 [l0, l1, l2, l3, some (.int x), l5, l6, l7] [.int x, s0] w 0 Q) ∧
  (∀ (d : Nat) (l0 l1 l2 l3 l4 l5 l6 l7 : Option Value) (s0 s1 : Value)  (w : px_H) (Q : Option Value → px_H → Prop), wp d 168 18 [l0, l1, l2, l3, l4, l5, l6, l7] [s0, s1] w 0 Q ↔ wp d 168 19 [l0, l1, l2, l3, l4, l5, l6, l7] [.int 0, s0, s1] w 0 Q) ∧
  (∀ (d : Nat) (l0 l1 l2 l3 l4 l5 l6 l7 : Option Value) (v0 v1 : Value) (b : Nat) (w : px_H) (Q : Option Value → px_H → Prop), wp (d + 1) 168 19 [l0, l1, l2, l3, l4, l5, l6, l7] [v1, v0, .ref b] w 0 Q ↔ px_op (px_tgt w b [(11, 154)]) (fun v => wc d v [.ref b, v0, v1] w (fun r w' => wp (d + 1) 168 22 [l0, l1, l2, l3, l4, l5, l6, l7] (r.toList ++ []) w' 0 Q))) ∧
  (∀ (d : Nat) (l0 l1 l2 l3 l4 l5 l6 l7 : Option Value) (x : Int32) (w : px_H) (Q : Option Value → px_H → Prop), wp d 168 22 [l0, l1, l2, l3, l4, l5, l6, l7] [.int x] w 0 Q ↔ wp d 168 24 [l0, l1, l2, l3, l4, some (.int x), l6, l7] [] w 0 Q) ∧
  (∀ (d : Nat) (l1 l2 l3 l4 l5 l6 l7 : Option Value) (a : Nat) (w : px_H) (Q : Option Value → px_H → Prop), wp d 168 24 [some (.ref a), l1, l2, l3, l4, l5, l6, l7] [] w 0 Q ↔ wp d 168 25 [some (.ref a), l1, l2, l3, l4, l5, l6, l7] [.ref a] w 0 Q) ∧
  (∀ (d : Nat) (l0 l1 l2 l3 l4 l5 l6 l7 : Option Value) (a : Nat) (w : px_H) (Q : Option Value → px_H → Prop), wp d 168 25 [l0, l1, l2, l3, l4, l5, l6, l7] [.ref a] w 0 Q ↔ px_op (px_fld w a [(11, 0)] 18) (fun v => wp d 168 28 [l0, l1, l2, l3, l4, l5, l6, l7] [v] w 0 Q)) ∧
  (∀ (d : Nat) (l0 l1 l2 l3 l5 l6 l7 : Option Value) (s0 : Value) (x : Int32) (w : px_H) (Q : Option Value → px_H → Prop), wp d 168 28 [l0, l1, l2, l3, some (.int x), l5, l6, l7] [s0] w 0 Q ↔ wp d 168 30 [l0, l1, l2, l3, some (.int x), l5, l6, l7] [.int x, s0] w 0 Q) ∧
  (∀ (d : Nat) (l0 l1 l2 l3 l4 l5 l6 l7 : Option Value) (i : Int32) (a : Nat) (w : px_H) (Q : Option Value → px_H → Prop), wp d 168 30 [l0, l1, l2, l3, l4, l5, l6, l7] [.int i, .ref a] w 0 Q ↔ px_op (px_ald w a i .int) (fun x => wp d 168 31 [l0, l1, l2, l3, l4, l5, l6, l7] [.int x] w 0 Q)) ∧
  (∀ (d : Nat) (l0 l1 l2 l3 l4 l5 l6 l7 : Option Value) (s0 : Value)  (w : px_H) (Q : Option Value → px_H → Prop), wp d 168 31 [l0, l1, l2, l3, l4, l5, l6, l7] [s0] w 0 Q ↔ wp d 168 33 [l0, l1, l2, l3, l4, l5, l6, l7] [.int (-1000000), s0] w 0 Q) ∧
  (∀ (d : Nat) (l0 l1 l2 l3 l4 l5 l6 l7 : Option Value) (x y : Int32) (w : px_H) (Q : Option Value → px_H → Prop), wp d 168 33 [l0, l1, l2, l3, l4, l5, l6, l7] [.int y, .int x] w 0 Q ↔ if x = y then wp d 168 65 [l0, l1, l2, l3, l4, l5, l6, l7] [] w 0 Q else wp d 168 36 [l0, l1, l2, l3, l4, l5, l6, l7] [] w 0 Q) ∧
  (∀ (d : Nat) (l0 l2 l3 l4 l5 l6 l7 : Option Value) (x : Int32) (w : px_H) (Q : Option Value → px_H → Prop), wp d 168 36 [l0, some (.int x), l2, l3, l4, l5, l6, l7] [] w 0 Q ↔ wp d 168 37 [l0, some (.int x), l2, l3, l4, l5, l6, l7] [.int x] w 0 Q) ∧
  (∀ (d : Nat) (l1 l2 l3 l4 l5 l6 l7 : Option Value) (s0 : Value) (a : Nat) (w : px_H) (Q : Option Value → px_H → Prop), wp d 168 37 [some (.ref a), l1, l2, l3, l4, l5, l6, l7] [s0] w 0 Q ↔ wp d 168 38 [some (.ref a), l1, l2, l3, l4, l5, l6, l7] [.ref a, s0] w 0 Q) ∧
  (∀ (d : Nat) (l0 l1 l2 l3 l4 l5 l6 l7 : Option Value) (s1 : Value) (a : Nat) (w : px_H) (Q : Option Value → px_H → Prop), wp d 168 38 [l0, l1, l2, l3, l4, l5, l6, l7] [.ref a, s1] w 0 Q ↔ px_op (px_fld w a [(11, 0)] 18) (fun v => wp d 168 41 [l0, l1, l2, l3, l4, l5, l6, l7] [v, s1] w 0 Q)) ∧
  (∀ (d : Nat) (l0 l1 l2 l3 l5 l6 l7 : Option Value) (s0 s1 : Value) (x : Int32) (w : px_H) (Q : Option Value → px_H → Prop), wp d 168 41 [l0, l1, l2, l3, some (.int x), l5, l6, l7] [s0, s1] w 0 Q ↔ wp d 168 43 [l0, l1, l2, l3, some (.int x), l5, l6, l7] [.int x, s0, s1] w 0 Q) ∧
  (∀ (d : Nat) (l0 l1 l2 l3 l4 l5 l6 l7 : Option Value) (s2 : Value) (i : Int32) (a : Nat) (w : px_H) (Q : Option Value → px_H → Prop), wp d 168 43 [l0, l1, l2, l3, l4, l5, l6, l7] [.int i, .ref a, s2] w 0 Q ↔ px_op (px_ald w a i .int) (fun x => wp d 168 44 [l0, l1, l2, l3, l4, l5, l6, l7] [.int x, s2] w 0 Q)) ∧
  (∀ (d : Nat) (l1 l2 l3 l4 l5 l6 l7 : Option Value) (s0 s1 : Value) (a : Nat) (w : px_H) (Q : Option Value → px_H → Prop), wp d 168 44 [some (.ref a), l1, l2, l3, l4, l5, l6, l7] [s0, s1] w 0 Q ↔ wp d 168 45 [some (.ref a), l1, l2, l3, l4, l5, l6, l7] [.ref a, s0, s1] w 0 Q) ∧
  (∀ (d : Nat) (l0 l1 l2 l3 l4 l5 l6 l7 : Option Value) (s1 s2 : Value) (a : Nat) (w : px_H) (Q : Option Value → px_H → Prop), wp d 168 45 [l0, l1, l2, l3, l4, l5, l6, l7] [.ref a, s1, s2] w 0 Q ↔ px_op (px_fld w a [(11, 0)] 18) (fun v => wp d 168 48 [l0, l1, l2, l3, l4, l5, l6, l7] [v, s1, s2] w 0 Q)) ∧
  (∀ (d : Nat) (l0 l1 l2 l3 l5 l6 l7 : Option Value) (s0 s1 s2 : Value) (x : Int32) (w : px_H) (Q : Option Value → px_H → Prop), wp d 168 48 [l0, l1, l2, l3, some (.int x), l5, l6, l7] [s0, s1, s2] w 0 Q ↔ wp d 168 50 [l0, l1, l2, l3, some (.int x), l5, l6, l7] [.int x, s0, s1, s2] w 0 Q) ∧
  (∀ (d : Nat) (l0 l1 l2 l3 l4 l5 l6 l7 : Option Value) (s2 s3 : Value) (i : Int32) (a : Nat) (w : px_H) (Q : Option Value → px_H → Prop), wp d 168 50 [l0, l1, l2, l3, l4, l5, l6, l7] [.int i, .ref a, s2, s3] w 0 Q ↔ px_op (px_ald w a i .int) (fun x => wp d 168 51 [l0, l1, l2, l3, l4, l5, l6, l7] [.int x, s2, s3] w 0 Q)) ∧
  (∀ (d : Nat) (l0 l1 l3 l4 l5 l6 l7 : Option Value) (s0 s1 s2 : Value) (x : Int32) (w : px_H) (Q : Option Value → px_H → Prop), wp d 168 51 [l0, l1, some (.int x), l3, l4, l5, l6, l7] [s0, s1, s2] w 0 Q ↔ wp d 168 52 [l0, l1, some (.int x), l3, l4, l5, l6, l7] [.int x, s0, s1, s2] w 0 Q) ∧
  (∀ (d : Nat) (l0 l1 l2 l3 l4 l5 l6 l7 : Option Value) (s2 s3 : Value) (x y : Int32) (w : px_H) (Q : Option Value → px_H → Prop), wp d 168 52 [l0, l1, l2, l3, l4, l5, l6, l7] [.int y, .int x, s2, s3] w 0 Q ↔ wp d 168 53 [l0, l1, l2, l3, l4, l5, l6, l7] [.int (x + y), s2, s3] w 0 Q) ∧
  (∀ (d : Nat) (l0 l1 l2 l3 l4 l5 l6 l7 : Option Value) (s0 s1 s2 : Value)  (w : px_H) (Q : Option Value → px_H → Prop), wp d 168 53 [l0, l1, l2, l3, l4, l5, l6, l7] [s0, s1, s2] w 0 Q ↔ wp d 168 54 [l0, l1, l2, l3, l4, l5, l6, l7] [.int 1, s0, s1, s2] w 0 Q) ∧
  (∀ (d : Nat) (l0 l1 l2 l3 l4 l5 l6 l7 : Option Value) (s2 s3 : Value) (x y : Int32) (w : px_H) (Q : Option Value → px_H → Prop), wp d 168 54 [l0, l1, l2, l3, l4, l5, l6, l7] [.int y, .int x, s2, s3] w 0 Q ↔ wp d 168 55 [l0, l1, l2, l3, l4, l5, l6, l7] [.int (x - y), s2, s3] w 0 Q) ∧
  (∀ (d : Nat) (l0 l1 l2 l3 l4 l5 l6 l7 : Option Value) (v0 v1 v2 : Value) (w : px_H) (Q : Option Value → px_H → Prop), wp (d + 1) 168 55 [l0, l1, l2, l3, l4, l5, l6, l7] [v2, v1, v0] w 0 Q ↔ wc d 140 [v0, v1, v2] w (fun r w' => wp (d + 1) 168 58 [l0, l1, l2, l3, l4, l5, l6, l7] (r.toList ++ []) w' 0 Q)) ∧
  (∀ (d : Nat) (l0 l1 l2 l3 l4 l5 l6 l7 : Option Value) (x : Int32) (w : px_H) (Q : Option Value → px_H → Prop), wp d 168 58 [l0, l1, l2, l3, l4, l5, l6, l7] [.int x] w 0 Q ↔ if x = 0 then wp d 168 65 [l0, l1, l2, l3, l4, l5, l6, l7] [] w 0 Q else wp d 168 61 [l0, l1, l2, l3, l4, l5, l6, l7] [] w 0 Q) ∧
  (∀ (d : Nat) (l0 l1 l2 l3 l4 l5 l6 l7 : Option Value)  (w : px_H) (Q : Option Value → px_H → Prop), wp d 168 61 [l0, l1, l2, l3, l4, l5, l6, l7] [] w 0 Q ↔ wp d 168 62 [l0, l1, l2, l3, l4, l5, l6, l7] [.int 1] w 0 Q) ∧
  (∀ (d : Nat) (l0 l1 l2 l3 l4 l5 l6 l7 : Option Value) (s0 : Value)  (w : px_H) (Q : Option Value → px_H → Prop), wp d 168 62 [l0, l1, l2, l3, l4, l5, l6, l7] [s0] w 0 Q ↔ wp d 168 66 [l0, l1, l2, l3, l4, l5, l6, l7] [s0] w 0 Q) ∧
  (∀ (d : Nat) (l0 l1 l2 l3 l4 l5 l6 l7 : Option Value)  (w : px_H) (Q : Option Value → px_H → Prop), wp d 168 65 [l0, l1, l2, l3, l4, l5, l6, l7] [] w 0 Q ↔ wp d 168 66 [l0, l1, l2, l3, l4, l5, l6, l7] [.int 0] w 0 Q) ∧
  (∀ (d : Nat) (l0 l1 l2 l3 l4 l5 l6 l7 : Option Value) (x : Int32) (w : px_H) (Q : Option Value → px_H → Prop), wp d 168 66 [l0, l1, l2, l3, l4, l5, l6, l7] [.int x] w 0 Q ↔ wp d 168 68 [l0, l1, l2, l3, l4, l5, some (.int x), l7] [] w 0 Q) ∧
  (∀ (d : Nat) (l0 l1 l2 l3 l4 l5 l7 : Option Value) (x : Int32) (w : px_H) (Q : Option Value → px_H → Prop), wp d 168 68 [l0, l1, l2, l3, l4, l5, some (.int x), l7] [] w 0 Q ↔ wp d 168 70 [l0, l1, l2, l3, l4, l5, some (.int x), l7] [.int x] w 0 Q) ∧
  (∀ (d : Nat) (l0 l1 l2 l3 l4 l5 l6 l7 : Option Value) (x : Int32) (w : px_H) (Q : Option Value → px_H → Prop), wp d 168 70 [l0, l1, l2, l3, l4, l5, l6, l7] [.int x] w 0 Q ↔ if x = 0 then wp d 168 106 [l0, l1, l2, l3, l4, l5, l6, l7] [] w 0 Q else wp d 168 73 [l0, l1, l2, l3, l4, l5, l6, l7] [] w 0 Q) ∧
  (∀ (d : Nat) (l0 l1 l2 l3 l4 l6 l7 : Option Value) (x : Int32) (w : px_H) (Q : Option Value → px_H → Prop), wp d 168 73 [l0, l1, l2, l3, l4, some (.int x), l6, l7] [] w 0 Q ↔ wp d 168 75 [l0, l1, l2, l3, l4, some (.int x), l6, l7] [.int x] w 0 Q) ∧
  (∀ (d : Nat) (l0 l1 l2 l3 l4 l5 l6 l7 : Option Value) (s0 : Value)  (w : px_H) (Q : Option Value → px_H → Prop), wp d 168 75 [l0, l1, l2, l3, l4, l5, l6, l7] [s0] w 0 Q ↔ wp d 168 76 [l0, l1, l2, l3, l4, l5, l6, l7] [.int 5, s0] w 0 Q) ∧
  (∀ (d : Nat) (l0 l1 l2 l3 l4 l5 l6 l7 : Option Value) (x y : Int32) (w : px_H) (Q : Option Value → px_H → Prop), wp d 168 76 [l0, l1, l2, l3, l4, l5, l6, l7] [.int y, .int x] w 0 Q ↔ if x = y then wp d 168 106 [l0, l1, l2, l3, l4, l5, l6, l7] [] w 0 Q else wp d 168 79 [l0, l1, l2, l3, l4, l5, l6, l7] [] w 0 Q) ∧
  (∀ (d : Nat) (l0 l1 l2 l3 l4 l6 l7 : Option Value) (x : Int32) (w : px_H) (Q : Option Value → px_H → Prop), wp d 168 79 [l0, l1, l2, l3, l4, some (.int x), l6, l7] [] w 0 Q ↔ wp d 168 81 [l0, l1, l2, l3, l4, some (.int x), l6, l7] [.int x] w 0 Q) ∧
  (∀ (d : Nat) (l0 l1 l2 l3 l4 l5 l6 l7 : Option Value) (s0 : Value)  (w : px_H) (Q : Option Value → px_H → Prop), wp d 168 81 [l0, l1, l2, l3, l4, l5, l6, l7] [s0] w 0 Q ↔ wp d 168 82 [l0, l1, l2, l3, l4, l5, l6, l7] [.int 2, s0] w 0 Q) ∧
  (∀ (d : Nat) (l0 l1 l2 l3 l4 l5 l6 l7 : Option Value) (x y : Int32) (w : px_H) (Q : Option Value → px_H → Prop), wp d 168 82 [l0, l1, l2, l3, l4, l5, l6, l7] [.int y, .int x] w 0 Q ↔ if x = y then wp d 168 85 [l0, l1, l2, l3, l4, l5, l6, l7] [] w 0 Q else wp d 168 102 [l0, l1, l2, l3, l4, l5, l6, l7] [] w 0 Q) ∧
  (∀ (d : Nat) (l0 l1 l2 l3 l5 l6 l7 : Option Value) (x : Int32) (w : px_H) (Q : Option Value → px_H → Prop), wp d 168 85 [l0, l1, l2, l3, some (.int x), l5, l6, l7] [] w 0 Q ↔ wp d 168 87 [l0, l1, l2, l3, some (.int x), l5, l6, l7] [.int x] w 0 Q) ∧
  (∀ (d : Nat) (l0 l1 l2 l3 l4 l5 l6 l7 : Option Value) (x : Int32) (w : px_H) (Q : Option Value → px_H → Prop), wp d 168 87 [l0, l1, l2, l3, l4, l5, l6, l7] [.int x] w 0 Q ↔ if x = 0 then wp d 168 102 [l0, l1, l2, l3, l4, l5, l6, l7] [] w 0 Q else wp d 168 90 [l0, l1, l2, l3, l4, l5, l6, l7] [] w 0 Q) ∧
  (∀ (d : Nat) (l0 l1 l2 l4 l5 l6 l7 : Option Value) (x : Int32) (w : px_H) (Q : Option Value → px_H → Prop), wp d 168 90 [l0, l1, l2, some (.int x), l4, l5, l6, l7] [] w 0 Q ↔ wp d 168 91 [l0, l1, l2, some (.int x), l4, l5, l6, l7] [.int x] w 0 Q) ∧
  (∀ (d : Nat) (l0 l1 l2 l3 l5 l6 l7 : Option Value) (s0 : Value) (x : Int32) (w : px_H) (Q : Option Value → px_H → Prop), wp d 168 91 [l0, l1, l2, l3, some (.int x), l5, l6, l7] [s0] w 0 Q ↔ wp d 168 93 [l0, l1, l2, l3, some (.int x), l5, l6, l7] [.int x, s0] w 0 Q) ∧
  (∀ (d : Nat) (l0 l1 l2 l3 l4 l5 l6 l7 : Option Value) (s0 s1 : Value)  (w : px_H) (Q : Option Value → px_H → Prop), wp d 168 93 [l0, l1, l2, l3, l4, l5, l6, l7] [s0, s1] w 0 Q ↔ wp d 168 94 [l0, l1, l2, l3, l4, l5, l6, l7] [.int 1, s0, s1] w 0 Q) ∧
  (∀ (d : Nat) (l0 l1 l2 l3 l4 l5 l6 l7 : Option Value) (s2 : Value) (x y : Int32) (w : px_H) (Q : Option Value → px_H → Prop), wp d 168 94 [l0, l1, l2, l3, l4, l5, l6, l7] [.int y, .int x, s2] w 0 Q ↔ wp d 168 95 [l0, l1, l2, l3, l4, l5, l6, l7] [.int (x - y), s2] w 0 Q) ∧
  (∀ (d : Nat) (l0 l1 l2 l3 l4 l5 l6 l7 : Option Value) (x y : Int32) (w : px_H) (Q : Option Value → px_H → Prop), wp d 168 95 [l0, l1, l2, l3, l4, l5, l6, l7] [.int y, .int x] w 0 Q ↔ wp d 168 96 [l0, l1, l2, l3, l4, l5, l6, l7] [.int (x >>> (y &&& 31))] w 0 Q) ∧
  (∀ (d : Nat) (l0 l1 l2 l3 l4 l5 l6 l7 : Option Value) (s0 : Value)  (w : px_H) (Q : Option Value → px_H → Prop), wp d 168 96 [l0, l1, l2, l3, l4, l5, l6, l7] [s0] w 0 Q ↔ wp d 168 97 [l0, l1, l2, l3, l4, l5, l6, l7] [.int 1, s0] w 0 Q) ∧
  (∀ (d : Nat) (l0 l1 l2 l3 l4 l5 l6 l7 : Option Value) (x y : Int32) (w : px_H) (Q : Option Value → px_H → Prop), wp d 168 97 [l0, l1, l2, l3, l4, l5, l6, l7] [.int y, .int x] w 0 Q ↔ wp d 168 98 [l0, l1, l2, l3, l4, l5, l6, l7] [.int (x &&& y)] w 0 Q) ∧
  (∀ (d : Nat) (l0 l1 l2 l3 l4 l5 l6 l7 : Option Value) (s0 : Value)  (w : px_H) (Q : Option Value → px_H → Prop), wp d 168 98 [l0, l1, l2, l3, l4, l5, l6, l7] [s0] w 0 Q ↔ wp d 168 99 [l0, l1, l2, l3, l4, l5, l6, l7] [.int 1, s0] w 0 Q) ∧
  (∀ (d : Nat) (l0 l1 l2 l3 l4 l5 l6 l7 : Option Value) (x y : Int32) (w : px_H) (Q : Option Value → px_H → Prop), wp d 168 99 [l0, l1, l2, l3, l4, l5, l6, l7] [.int y, .int x] w 0 Q ↔ if x = y then wp d 168 102 [l0, l1, l2, l3, l4, l5, l6, l7] [] w 0 Q else wp d 168 106 [l0, l1, l2, l3, l4, l5, l6, l7] [] w 0 Q) ∧
  (∀ (d : Nat) (l0 l1 l2 l3 l4 l5 l6 l7 : Option Value)  (w : px_H) (Q : Option Value → px_H → Prop), wp d 168 102 [l0, l1, l2, l3, l4, l5, l6, l7] [] w 0 Q ↔ wp d 168 103 [l0, l1, l2, l3, l4, l5, l6, l7] [.int 1] w 0 Q) ∧
  (∀ (d : Nat) (l0 l1 l2 l3 l4 l5 l6 l7 : Option Value) (s0 : Value)  (w : px_H) (Q : Option Value → px_H → Prop), wp d 168 103 [l0, l1, l2, l3, l4, l5, l6, l7] [s0] w 0 Q ↔ wp d 168 107 [l0, l1, l2, l3, l4, l5, l6, l7] [s0] w 0 Q) ∧
  (∀ (d : Nat) (l0 l1 l2 l3 l4 l5 l6 l7 : Option Value)  (w : px_H) (Q : Option Value → px_H → Prop), wp d 168 106 [l0, l1, l2, l3, l4, l5, l6, l7] [] w 0 Q ↔ wp d 168 107 [l0, l1, l2, l3, l4, l5, l6, l7] [.int 0] w 0 Q) ∧
  (∀ (d : Nat) (l0 l1 l2 l3 l4 l5 l6 l7 : Option Value) (x : Int32) (w : px_H) (Q : Option Value → px_H → Prop), wp d 168 107 [l0, l1, l2, l3, l4, l5, l6, l7] [.int x] w 0 Q ↔ wp d 168 109 [l0, l1, l2, l3, l4, l5, l6, some (.int x)] [] w 0 Q) ∧
  (∀ (d : Nat) (l0 l1 l2 l4 l5 l6 l7 : Option Value) (x : Int32) (w : px_H) (Q : Option Value → px_H → Prop), wp d 168 109 [l0, l1, l2, some (.int x), l4, l5, l6, l7] [] w 0 Q ↔ wp d 168 110 [l0, l1, l2, some (.int x), l4, l5, l6, l7] [.int x] w 0 Q) ∧
  (∀ (d : Nat) (l0 l1 l2 l3 l4 l5 l6 : Option Value) (s0 : Value) (x : Int32) (w : px_H) (Q : Option Value → px_H → Prop), wp d 168 110 [l0, l1, l2, l3, l4, l5, l6, some (.int x)] [s0] w 0 Q ↔ wp d 168 112 [l0, l1, l2, l3, l4, l5, l6, some (.int x)] [.int x, s0] w 0 Q) ∧
  (∀ (d : Nat) (l0 l1 l2 l3 l4 l5 l6 l7 : Option Value) (s1 : Value) (x : Int32) (w : px_H) (Q : Option Value → px_H → Prop), wp d 168 112 [l0, l1, l2, l3, l4, l5, l6, l7] [.int x, s1] w 0 Q ↔ if x = 0 then wp d 168 122 [l0, l1, l2, l3, l4, l5, l6, l7] [s1] w 0 Q else wp d 168 115 [l0, l1, l2, l3, l4, l5, l6, l7] [s1] w 0 Q) ∧
  (∀ (d : Nat) (l0 l1 l2 l3 l4 l5 l6 l7 : Option Value) (s0 : Value)  (w : px_H) (Q : Option Value → px_H → Prop), wp d 168 115 [l0, l1, l2, l3, l4, l5, l6, l7] [s0] w 0 Q ↔ wp d 168 116 [l0, l1, l2, l3, l4, l5, l6, l7] [.int 1, s0] w 0 Q) ∧
  (∀ (d : Nat) (l0 l1 l2 l3 l5 l6 l7 : Option Value) (s0 s1 : Value) (x : Int32) (w : px_H) (Q : Option Value → px_H → Prop), wp d 168 116 [l0, l1, l2, l3, some (.int x), l5, l6, l7] [s0, s1] w 0 Q ↔ wp d 168 118 [l0, l1, l2, l3, some (.int x), l5, l6, l7] [.int x, s0, s1] w 0 Q) ∧
  (∀ (d : Nat) (l0 l1 l2 l3 l4 l5 l6 l7 : Option Value) (s2 : Value) (x y : Int32) (w : px_H) (Q : Option Value → px_H → Prop), wp d 168 118 [l0, l1, l2, l3, l4, l5, l6, l7] [.int y, .int x, s2] w 0 Q ↔ wp d 168 119 [l0, l1, l2, l3, l4, l5, l6, l7] [.int (x <<< (y &&& 31)), s2] w 0 Q) ∧
  (∀ (d : Nat) (l0 l1 l2 l3 l4 l5 l6 l7 : Option Value) (s0 s1 : Value)  (w : px_H) (Q : Option Value → px_H → Prop), wp d 168 119 [l0, l1, l2, l3, l4, l5, l6, l7] [s0, s1] w 0 Q ↔ wp d 168 123 [l0, l1, l2, l3, l4, l5, l6, l7] [s0, s1] w 0 Q) ∧
  (∀ (d : Nat) (l0 l1 l2 l3 l4 l5 l6 l7 : Option Value) (s0 : Value)  (w : px_H) (Q : Option Value → px_H → Prop), wp d 168 122 [l0, l1, l2, l3, l4, l5, l6, l7] [s0] w 0 Q ↔ wp d 168 123 [l0, l1, l2, l3, l4, l5, l6, l7] [.int 0, s0] w 0 Q) ∧
  (∀ (d : Nat) (l0 l1 l2 l3 l4 l5 l6 l7 : Option Value) (x y : Int32) (w : px_H) (Q : Option Value → px_H → Prop), wp d 168 123 [l0, l1, l2, l3, l4, l5, l6, l7] [.int y, .int x] w 0 Q ↔ wp d 168 124 [l0, l1, l2, l3, l4, l5, l6, l7] [.int (x ||| y)] w 0 Q) ∧
  (∀ (d : Nat) (l0 l1 l2 l3 l4 l5 l6 l7 : Option Value) (x : Int32) (w : px_H) (Q : Option Value → px_H → Prop), wp d 168 124 [l0, l1, l2, l3, l4, l5, l6, l7] [.int x] w 0 Q ↔ wp d 168 125 [l0, l1, l2, some (.int x), l4, l5, l6, l7] [] w 0 Q) ∧
  (∀ (d : Nat) (l0 l1 l2 l3 l5 l6 l7 : Option Value) (x : Int32) (w : px_H) (Q : Option Value → px_H → Prop), wp d 168 125 [l0, l1, l2, l3, some (.int x), l5, l6, l7] [] w 0 Q ↔ wp d 168 128 [l0, l1, l2, l3, some (.int (x + 1)), l5, l6, l7] [] w 0 Q) ∧
  (∀ (d : Nat) (l0 l1 l2 l3 l4 l5 l6 l7 : Option Value)  (w : px_H) (Q : Option Value → px_H → Prop), wp d 168 128 [l0, l1, l2, l3, l4, l5, l6, l7] [] w 0 Q ↔ wp d 168 5 [l0, l1, l2, l3, l4, l5, l6, l7] [] w 0 Q) ∧
  (∀ (d : Nat) (l0 l1 l2 l4 l5 l6 l7 : Option Value) (x : Int32) (w : px_H) (Q : Option Value → px_H → Prop), wp d 168 131 [l0, l1, l2, some (.int x), l4, l5, l6, l7] [] w 0 Q ↔ wp d 168 132 [l0, l1, l2, some (.int x), l4, l5, l6, l7] [.int x] w 0 Q) ∧
  (∀ (d : Nat) (l0 l1 l2 l3 l4 l5 l6 l7 : Option Value) (x : Int32) (w : px_H) (Q : Option Value → px_H → Prop), wp d 168 132 [l0, l1, l2, l3, l4, l5, l6, l7] [.int x] w 0 Q ↔ Q (some (.int x)) w) := ⟨fun d v0 v1 v2 w Q => r_entry pt_168 (Nat.le_of_ble_eq_true rfl) rfl,
  fun d l0 l1 l2 l3 l4 l5 l6 l7 w Q => r_iconst pt_168 rfl (by decide),
  fun d l0 l1 l2 l3 l4 l5 l6 l7 x w Q => px_go (q := (.istore_n 3, 1, px_x0)) (S' := (2, [l0, l1, l2, some (.int x), l4, l5, l6, l7], [], w, 0)) pt_168 rfl rfl,
  fun d l0 l1 l2 l3 l4 l5 l6 l7 w Q => r_iconst pt_168 rfl (by decide),
  fun d l0 l1 l2 l3 l4 l5 l6 l7 x w Q => px_go (q := (.istore 4, 2, px_x0)) (S' := (5, [l0, l1, l2, l3, some (.int x), l5, l6, l7], [], w, 0)) pt_168 rfl rfl,
  fun d l1 l2 l3 l4 l5 l6 l7 s0 a w Q => px_go (q := (.aload_n 0, 1, px_x0)) (S' := (8, [some (.ref a), l1, l2, l3, l4, l5, l6, l7], [.ref a, s0], w, 0)) pt_168 rfl rfl,
  fun d l0 l1 l2 l3 l4 l5 l6 l7 s0 s1 w Q => r_iconst pt_168 rfl (by decide),
  fun d l0 l1 l2 l3 l4 l5 l6 l7 s2 v0 b w Q => r_callV (q := (.invokevirtual 69, 3, (33, 1, [(11, 149)], 0, ""))) pt_168 rfl rfl (List.forall_mem_cons.mpr ⟨⟨_, pt_149, Nat.le_of_ble_eq_true rfl, (Nat.le_of_ble_eq_true rfl), rfl⟩, fun _ h => absurd h List.not_mem_nil⟩),
  fun d l0 l1 l2 l3 l4 l5 l6 l7 x y w Q => r_icmp_ge pt_168 rfl rfl,
  fun d l1 l2 l3 l4 l5 l6 l7 a w Q => px_go (q := (.aload_n 0, 1, px_x0)) (S' := (16, [some (.ref a), l1, l2, l3, l4, l5, l6, l7], [.ref a], w, 0)) pt_168 rfl rfl,
  fun d l0 l1 l2 l3 l5 l6 l7 s0 x w Q => px_go (q := (.iload 4, 2, px_x0)) (S' := (18, [l0, l1, l2, l3, some (.int x), l5, l6, l7], [.int x, s0], w, 0)) pt_168 rfl rfl,
  fun d l0 l1 l2 l3 l4 l5 l6 l7 s0 s1 w Q => r_iconst pt_168 rfl (by decide),
  fun d l0 l1 l2 l3 l4 l5 l6 l7 v0 v1 b w Q => r_callV (q := (.invokevirtual 136, 3, (33, 2, [(11, 154)], 0, ""))) pt_168 rfl rfl (List.forall_mem_cons.mpr ⟨⟨_, pt_154, Nat.le_of_ble_eq_true rfl, (Nat.le_of_ble_eq_true rfl), rfl⟩, fun _ h => absurd h List.not_mem_nil⟩),
  fun d l0 l1 l2 l3 l4 l5 l6 l7 x w Q => px_go (q := (.istore 5, 2, px_x0)) (S' := (24, [l0, l1, l2, l3, l4, some (.int x), l6, l7], [], w, 0)) pt_168 rfl rfl,
  fun d l1 l2 l3 l4 l5 l6 l7 a w Q => px_go (q := (.aload_n 0, 1, px_x0)) (S' := (25, [some (.ref a), l1, l2, l3, l4, l5, l6, l7], [.ref a], w, 0)) pt_168 rfl rfl,
  fun d l0 l1 l2 l3 l4 l5 l6 l7 a w Q => px_goO (q := (.getfield 33, 3, (10, 18, [(11, 0)], 0, "AllSwornModel"))) (S' := fun v => (28, [l0, l1, l2, l3, l4, l5, l6, l7], [v], w, 0)) pt_168 rfl rfl,
  fun d l0 l1 l2 l3 l5 l6 l7 s0 x w Q => px_go (q := (.iload 4, 2, px_x0)) (S' := (30, [l0, l1, l2, l3, some (.int x), l5, l6, l7], [.int x, s0], w, 0)) pt_168 rfl rfl,
  fun d l0 l1 l2 l3 l4 l5 l6 l7 i a w Q => px_goO (q := (.iaload, 1, px_x0)) (S' := fun x => (31, [l0, l1, l2, l3, l4, l5, l6, l7], [.int x], w, 0)) pt_168 rfl rfl,
  fun d l0 l1 l2 l3 l4 l5 l6 l7 s0 w Q => px_go (q := (.ldc 119, 2, (0, 0, [], (-1000000), ""))) (S' := (33, [l0, l1, l2, l3, l4, l5, l6, l7], [.int (-1000000), s0], w, 0)) pt_168 rfl rfl,
  fun d l0 l1 l2 l3 l4 l5 l6 l7 x y w Q => r_icmp_eq pt_168 rfl rfl,
  fun d l0 l2 l3 l4 l5 l6 l7 x w Q => px_go (q := (.iload_n 1, 1, px_x0)) (S' := (37, [l0, some (.int x), l2, l3, l4, l5, l6, l7], [.int x], w, 0)) pt_168 rfl rfl,
  fun d l1 l2 l3 l4 l5 l6 l7 s0 a w Q => px_go (q := (.aload_n 0, 1, px_x0)) (S' := (38, [some (.ref a), l1, l2, l3, l4, l5, l6, l7], [.ref a, s0], w, 0)) pt_168 rfl rfl,
  fun d l0 l1 l2 l3 l4 l5 l6 l7 s1 a w Q => px_goO (q := (.getfield 33, 3, (10, 18, [(11, 0)], 0, "AllSwornModel"))) (S' := fun v => (41, [l0, l1, l2, l3, l4, l5, l6, l7], [v, s1], w, 0)) pt_168 rfl rfl,
  fun d l0 l1 l2 l3 l5 l6 l7 s0 s1 x w Q => px_go (q := (.iload 4, 2, px_x0)) (S' := (43, [l0, l1, l2, l3, some (.int x), l5, l6, l7], [.int x, s0, s1], w, 0)) pt_168 rfl rfl,
  fun d l0 l1 l2 l3 l4 l5 l6 l7 s2 i a w Q => px_goO (q := (.iaload, 1, px_x0)) (S' := fun x => (44, [l0, l1, l2, l3, l4, l5, l6, l7], [.int x, s2], w, 0)) pt_168 rfl rfl,
  fun d l1 l2 l3 l4 l5 l6 l7 s0 s1 a w Q => px_go (q := (.aload_n 0, 1, px_x0)) (S' := (45, [some (.ref a), l1, l2, l3, l4, l5, l6, l7], [.ref a, s0, s1], w, 0)) pt_168 rfl rfl,
  fun d l0 l1 l2 l3 l4 l5 l6 l7 s1 s2 a w Q => px_goO (q := (.getfield 33, 3, (10, 18, [(11, 0)], 0, "AllSwornModel"))) (S' := fun v => (48, [l0, l1, l2, l3, l4, l5, l6, l7], [v, s1, s2], w, 0)) pt_168 rfl rfl,
  fun d l0 l1 l2 l3 l5 l6 l7 s0 s1 s2 x w Q => px_go (q := (.iload 4, 2, px_x0)) (S' := (50, [l0, l1, l2, l3, some (.int x), l5, l6, l7], [.int x, s0, s1, s2], w, 0)) pt_168 rfl rfl,
  fun d l0 l1 l2 l3 l4 l5 l6 l7 s2 s3 i a w Q => px_goO (q := (.iaload, 1, px_x0)) (S' := fun x => (51, [l0, l1, l2, l3, l4, l5, l6, l7], [.int x, s2, s3], w, 0)) pt_168 rfl rfl,
  fun d l0 l1 l3 l4 l5 l6 l7 s0 s1 s2 x w Q => px_go (q := (.iload_n 2, 1, px_x0)) (S' := (52, [l0, l1, some (.int x), l3, l4, l5, l6, l7], [.int x, s0, s1, s2], w, 0)) pt_168 rfl rfl,
  fun d l0 l1 l2 l3 l4 l5 l6 l7 s2 s3 x y w Q => px_go (q := (.iadd, 1, px_x0)) (S' := (53, [l0, l1, l2, l3, l4, l5, l6, l7], [.int (x + y), s2, s3], w, 0)) pt_168 rfl rfl,
  fun d l0 l1 l2 l3 l4 l5 l6 l7 s0 s1 s2 w Q => r_iconst pt_168 rfl (by decide),
  fun d l0 l1 l2 l3 l4 l5 l6 l7 s2 s3 x y w Q => px_go (q := (.isub, 1, px_x0)) (S' := (55, [l0, l1, l2, l3, l4, l5, l6, l7], [.int (x - y), s2, s3], w, 0)) pt_168 rfl rfl,
  fun d l0 l1 l2 l3 l4 l5 l6 l7 v0 v1 v2 w Q => r_call (q := (.invokestatic 50, 3, (30, 3, [(0, 140)], 0, ""))) pt_168 rfl rfl pt_140 (Nat.le_of_ble_eq_true rfl) (Nat.le_of_ble_eq_true rfl) rfl,
  fun d l0 l1 l2 l3 l4 l5 l6 l7 x w Q => r_if_eq pt_168 rfl rfl,
  fun d l0 l1 l2 l3 l4 l5 l6 l7 w Q => r_iconst pt_168 rfl (by decide),
  fun d l0 l1 l2 l3 l4 l5 l6 l7 s0 w Q => r_goto pt_168 rfl rfl,
  fun d l0 l1 l2 l3 l4 l5 l6 l7 w Q => r_iconst pt_168 rfl (by decide),
  fun d l0 l1 l2 l3 l4 l5 l6 l7 x w Q => px_go (q := (.istore 6, 2, px_x0)) (S' := (68, [l0, l1, l2, l3, l4, l5, some (.int x), l7], [], w, 0)) pt_168 rfl rfl,
  fun d l0 l1 l2 l3 l4 l5 l7 x w Q => px_go (q := (.iload 6, 2, px_x0)) (S' := (70, [l0, l1, l2, l3, l4, l5, some (.int x), l7], [.int x], w, 0)) pt_168 rfl rfl,
  fun d l0 l1 l2 l3 l4 l5 l6 l7 x w Q => r_if_eq pt_168 rfl rfl,
  fun d l0 l1 l2 l3 l4 l6 l7 x w Q => px_go (q := (.iload 5, 2, px_x0)) (S' := (75, [l0, l1, l2, l3, l4, some (.int x), l6, l7], [.int x], w, 0)) pt_168 rfl rfl,
  fun d l0 l1 l2 l3 l4 l5 l6 l7 s0 w Q => r_iconst pt_168 rfl (by decide),
  fun d l0 l1 l2 l3 l4 l5 l6 l7 x y w Q => r_icmp_eq pt_168 rfl rfl,
  fun d l0 l1 l2 l3 l4 l6 l7 x w Q => px_go (q := (.iload 5, 2, px_x0)) (S' := (81, [l0, l1, l2, l3, l4, some (.int x), l6, l7], [.int x], w, 0)) pt_168 rfl rfl,
  fun d l0 l1 l2 l3 l4 l5 l6 l7 s0 w Q => r_iconst pt_168 rfl (by decide),
  fun d l0 l1 l2 l3 l4 l5 l6 l7 x y w Q => r_icmp_ne pt_168 rfl rfl,
  fun d l0 l1 l2 l3 l5 l6 l7 x w Q => px_go (q := (.iload 4, 2, px_x0)) (S' := (87, [l0, l1, l2, l3, some (.int x), l5, l6, l7], [.int x], w, 0)) pt_168 rfl rfl,
  fun d l0 l1 l2 l3 l4 l5 l6 l7 x w Q => r_if_eq pt_168 rfl rfl,
  fun d l0 l1 l2 l4 l5 l6 l7 x w Q => px_go (q := (.iload_n 3, 1, px_x0)) (S' := (91, [l0, l1, l2, some (.int x), l4, l5, l6, l7], [.int x], w, 0)) pt_168 rfl rfl,
  fun d l0 l1 l2 l3 l5 l6 l7 s0 x w Q => px_go (q := (.iload 4, 2, px_x0)) (S' := (93, [l0, l1, l2, l3, some (.int x), l5, l6, l7], [.int x, s0], w, 0)) pt_168 rfl rfl,
  fun d l0 l1 l2 l3 l4 l5 l6 l7 s0 s1 w Q => r_iconst pt_168 rfl (by decide),
  fun d l0 l1 l2 l3 l4 l5 l6 l7 s2 x y w Q => px_go (q := (.isub, 1, px_x0)) (S' := (95, [l0, l1, l2, l3, l4, l5, l6, l7], [.int (x - y), s2], w, 0)) pt_168 rfl rfl,
  fun d l0 l1 l2 l3 l4 l5 l6 l7 x y w Q => px_go (q := (.ishr, 1, px_x0)) (S' := (96, [l0, l1, l2, l3, l4, l5, l6, l7], [.int (x >>> (y &&& 31))], w, 0)) pt_168 rfl rfl,
  fun d l0 l1 l2 l3 l4 l5 l6 l7 s0 w Q => r_iconst pt_168 rfl (by decide),
  fun d l0 l1 l2 l3 l4 l5 l6 l7 x y w Q => px_go (q := (.iand, 1, px_x0)) (S' := (98, [l0, l1, l2, l3, l4, l5, l6, l7], [.int (x &&& y)], w, 0)) pt_168 rfl rfl,
  fun d l0 l1 l2 l3 l4 l5 l6 l7 s0 w Q => r_iconst pt_168 rfl (by decide),
  fun d l0 l1 l2 l3 l4 l5 l6 l7 x y w Q => r_icmp_ne pt_168 rfl rfl,
  fun d l0 l1 l2 l3 l4 l5 l6 l7 w Q => r_iconst pt_168 rfl (by decide),
  fun d l0 l1 l2 l3 l4 l5 l6 l7 s0 w Q => r_goto pt_168 rfl rfl,
  fun d l0 l1 l2 l3 l4 l5 l6 l7 w Q => r_iconst pt_168 rfl (by decide),
  fun d l0 l1 l2 l3 l4 l5 l6 l7 x w Q => px_go (q := (.istore 7, 2, px_x0)) (S' := (109, [l0, l1, l2, l3, l4, l5, l6, some (.int x)], [], w, 0)) pt_168 rfl rfl,
  fun d l0 l1 l2 l4 l5 l6 l7 x w Q => px_go (q := (.iload_n 3, 1, px_x0)) (S' := (110, [l0, l1, l2, some (.int x), l4, l5, l6, l7], [.int x], w, 0)) pt_168 rfl rfl,
  fun d l0 l1 l2 l3 l4 l5 l6 s0 x w Q => px_go (q := (.iload 7, 2, px_x0)) (S' := (112, [l0, l1, l2, l3, l4, l5, l6, some (.int x)], [.int x, s0], w, 0)) pt_168 rfl rfl,
  fun d l0 l1 l2 l3 l4 l5 l6 l7 s1 x w Q => r_if_eq pt_168 rfl rfl,
  fun d l0 l1 l2 l3 l4 l5 l6 l7 s0 w Q => r_iconst pt_168 rfl (by decide),
  fun d l0 l1 l2 l3 l5 l6 l7 s0 s1 x w Q => px_go (q := (.iload 4, 2, px_x0)) (S' := (118, [l0, l1, l2, l3, some (.int x), l5, l6, l7], [.int x, s0, s1], w, 0)) pt_168 rfl rfl,
  fun d l0 l1 l2 l3 l4 l5 l6 l7 s2 x y w Q => px_go (q := (.ishl, 1, px_x0)) (S' := (119, [l0, l1, l2, l3, l4, l5, l6, l7], [.int (x <<< (y &&& 31)), s2], w, 0)) pt_168 rfl rfl,
  fun d l0 l1 l2 l3 l4 l5 l6 l7 s0 s1 w Q => r_goto pt_168 rfl rfl,
  fun d l0 l1 l2 l3 l4 l5 l6 l7 s0 w Q => r_iconst pt_168 rfl (by decide),
  fun d l0 l1 l2 l3 l4 l5 l6 l7 x y w Q => px_go (q := (.ior, 1, px_x0)) (S' := (124, [l0, l1, l2, l3, l4, l5, l6, l7], [.int (x ||| y)], w, 0)) pt_168 rfl rfl,
  fun d l0 l1 l2 l3 l4 l5 l6 l7 x w Q => px_go (q := (.istore_n 3, 1, px_x0)) (S' := (125, [l0, l1, l2, some (.int x), l4, l5, l6, l7], [], w, 0)) pt_168 rfl rfl,
  fun d l0 l1 l2 l3 l5 l6 l7 x w Q => r_iinc pt_168 rfl rfl (by decide) rfl,
  fun d l0 l1 l2 l3 l4 l5 l6 l7 w Q => r_goto pt_168 rfl rfl,
  fun d l0 l1 l2 l4 l5 l6 l7 x w Q => px_go (q := (.iload_n 3, 1, px_x0)) (S' := (132, [l0, l1, l2, some (.int x), l4, l5, l6, l7], [.int x], w, 0)) pt_168 rfl rfl,
  fun d l0 l1 l2 l3 l4 l5 l6 l7 x w Q => px_ret (q := (.ireturn, 1, px_x0)) pt_168 rfl rfl⟩
theorem H168_5 : ∀ (d : Nat) (l0 l1 l2 l3 l5 l6 l7 : Option Value) (x : Int32) (w : px_H) (Q : Option Value → px_H → Prop), wp d 168 5 [l0, l1, l2, l3, some (.int x), l5, l6, l7] [] w 0 Q ↔ wp d 168 7 [l0, l1, l2, l3, some (.int x), l5, l6, l7] [.int x] w 0 Q := fun d l0 l1 l2 l3 l5 l6 l7 x w Q => px_go (q := (.iload 4, 2, px_x0)) (S' := (7, [l0, l1, l2, l3, some (.int x), l5, l6, l7], [.int x], w, 0)) pt_168 rfl rfl
/-- AllSwornModel.openBy(I)I heads: [4] -/
theorem S169 : (∀ (d : Nat) (v0 v1 : Value) (w : px_H) (Q : Option Value → px_H → Prop), wc d 169 [v0, v1] w Q ↔ wp d 169 0 [some v0, some v1, none, none] [] w 0 Q) ∧
  (∀ (d : Nat) (l0 l1 l2 l3 : Option Value)  (w : px_H) (Q : Option Value → px_H → Prop), wp d 169 0 [l0, l1, l2, l3] [] w 0 Q ↔ wp d 169 1 [l0, l1, l2, l3] [.int 0] w 0 Q) ∧
  (∀ (d : Nat) (l0 l1 l2 l3 : Option Value) (x : Int32) (w : px_H) (Q : Option Value → px_H → Prop), wp d 169 1 [l0, l1, l2, l3] [.int x] w 0 Q ↔ wp d 169 2 [l0, l1, some (.int x), l3] [] w 0 Q) ∧
  (∀ (d : Nat) (l0 l1 l2 l3 : Option Value)  (w : px_H) (Q : Option Value → px_H → Prop), wp d 169 2 [l0, l1, l2, l3] [] w 0 Q ↔ wp d 169 3 [l0, l1, l2, l3] [.int 0] w 0 Q) ∧
  (∀ (d : Nat) (l0 l1 l2 l3 : Option Value) (x : Int32) (w : px_H) (Q : Option Value → px_H → Prop), wp d 169 3 [l0, l1, l2, l3] [.int x] w 0 Q ↔ wp d 169 4 [l0, l1, l2, some (.int x)] [] w 0 Q) ∧
  (∀ (d : Nat) (l1 l2 l3 : Option Value) (s0 : Value) (a : Nat) (w : px_H) (Q : Option Value → px_H → Prop), wp d 169 5 [some (.ref a), l1, l2, l3] [s0] w 0 Q ↔ wp d 169 6 [some (.ref a), l1, l2, l3] [.ref a, s0] w 0 Q) ∧
  (∀ (d : Nat) (l0 l1 l2 l3 : Option Value) (s0 s1 : Value)  (w : px_H) (Q : Option Value → px_H → Prop), wp d 169 6 [l0, l1, l2, l3] [s0, s1] w 0 Q ↔ wp d 169 7 [l0, l1, l2, l3] [.int 2, s0, s1] w 0 Q) ∧
  (∀ (d : Nat) (l0 l1 l2 l3 : Option Value) (s2 : Value) (v0 : Value) (b : Nat) (w : px_H) (Q : Option Value → px_H → Prop), wp (d + 1) 169 7 [l0, l1, l2, l3] [v0, .ref b, s2] w 0 Q ↔ px_op (px_tgt w b [(11, 149)]) (fun v => wc d v [.ref b, v0] w (fun r w' => wp (d + 1) 169 10 [l0, l1, l2, l3] (r.toList ++ [s2]) w' 0 Q))) ∧
  (∀ (d : Nat) (l0 l1 l2 l3 : Option Value) (x y : Int32) (w : px_H) (Q : Option Value → px_H → Prop), wp d 169 10 [l0, l1, l2, l3] [.int y, .int x] w 0 Q ↔ if y ≤ x then wp d 169 42 [l0, l1, l2, l3] [] w 0 Q else wp d 169 13 [l0, l1, l2, l3] [] w 0 Q) ∧
  (∀ (d : Nat) (l0 l1 l3 : Option Value) (x : Int32) (w : px_H) (Q : Option Value → px_H → Prop), wp d 169 13 [l0, l1, some (.int x), l3] [] w 0 Q ↔ wp d 169 14 [l0, l1, some (.int x), l3] [.int x] w 0 Q) ∧
  (∀ (d : Nat) (l1 l2 l3 : Option Value) (s0 : Value) (a : Nat) (w : px_H) (Q : Option Value → px_H → Prop), wp d 169 14 [some (.ref a), l1, l2, l3] [s0] w 0 Q ↔ wp d 169 15 [some (.ref a), l1, l2, l3] [.ref a, s0] w 0 Q) ∧
  (∀ (d : Nat) (l0 l1 l2 l3 : Option Value) (s0 s1 : Value)  (w : px_H) (Q : Option Value → px_H → Prop), wp d 169 15 [l0, l1, l2, l3] [s0, s1] w 0 Q ↔ wp d 169 17 [l0, l1, l2, l3] [.int 37, s0, s1] w 0 Q) ∧
  (∀ (d : Nat) (l0 l1 l2 : Option Value) (s0 s1 s2 : Value) (x : Int32) (w : px_H) (Q : Option Value → px_H → Prop), wp d 169 17 [l0, l1, l2, some (.int x)] [s0, s1, s2] w 0 Q ↔ wp d 169 18 [l0, l1, l2, some (.int x)] [.int x, s0, s1, s2] w 0 Q) ∧
  (∀ (d : Nat) (l0 l1 l2 l3 : Option Value) (s2 s3 : Value) (x y : Int32) (w : px_H) (Q : Option Value → px_H → Prop), wp d 169 18 [l0, l1, l2, l3] [.int y, .int x, s2, s3] w 0 Q ↔ wp d 169 19 [l0, l1, l2, l3] [.int (x + y), s2, s3] w 0 Q) ∧
  (∀ (d : Nat) (l0 l1 l2 l3 : Option Value) (s2 : Value) (v0 : Value) (b : Nat) (w : px_H) (Q : Option Value → px_H → Prop), wp (d + 1) 169 19 [l0, l1, l2, l3] [v0, .ref b, s2] w 0 Q ↔ px_op (px_tgt w b [(11, 149)]) (fun v => wc d v [.ref b, v0] w (fun r w' => wp (d + 1) 169 22 [l0, l1, l2, l3] (r.toList ++ [s2]) w' 0 Q))) ∧
  (∀ (d : Nat) (l0 l2 l3 : Option Value) (s0 s1 : Value) (x : Int32) (w : px_H) (Q : Option Value → px_H → Prop), wp d 169 22 [l0, some (.int x), l2, l3] [s0, s1] w 0 Q ↔ wp d 169 23 [l0, some (.int x), l2, l3] [.int x, s0, s1] w 0 Q) ∧
  (∀ (d : Nat) (l0 l1 l2 l3 : Option Value) (s2 : Value) (x y : Int32) (w : px_H) (Q : Option Value → px_H → Prop), wp d 169 23 [l0, l1, l2, l3] [.int y, .int x, s2] w 0 Q ↔ wp d 169 24 [l0, l1, l2, l3] [.int (x &&& y), s2] w 0 Q) ∧
  (∀ (d : Nat) (l0 l1 l2 l3 : Option Value) (s1 : Value) (x : Int32) (w : px_H) (Q : Option Value → px_H → Prop), wp d 169 24 [l0, l1, l2, l3] [.int x, s1] w 0 Q ↔ if x = 0 then wp d 169 27 [l0, l1, l2, l3] [s1] w 0 Q else wp d 169 33 [l0, l1, l2, l3] [s1] w 0 Q) ∧
  (∀ (d : Nat) (l0 l1 l2 l3 : Option Value) (s0 : Value)  (w : px_H) (Q : Option Value → px_H → Prop), wp d 169 27 [l0, l1, l2, l3] [s0] w 0 Q ↔ wp d 169 28 [l0, l1, l2, l3] [.int 1, s0] w 0 Q) ∧
  (∀ (d : Nat) (l0 l1 l2 : Option Value) (s0 s1 : Value) (x : Int32) (w : px_H) (Q : Option Value → px_H → Prop), wp d 169 28 [l0, l1, l2, some (.int x)] [s0, s1] w 0 Q ↔ wp d 169 29 [l0, l1, l2, some (.int x)] [.int x, s0, s1] w 0 Q) ∧
  (∀ (d : Nat) (l0 l1 l2 l3 : Option Value) (s2 : Value) (x y : Int32) (w : px_H) (Q : Option Value → px_H → Prop), wp d 169 29 [l0, l1, l2, l3] [.int y, .int x, s2] w 0 Q ↔ wp d 169 30 [l0, l1, l2, l3] [.int (x <<< (y &&& 31)), s2] w 0 Q) ∧
  (∀ (d : Nat) (l0 l1 l2 l3 : Option Value) (s0 s1 : Value)  (w : px_H) (Q : Option Value → px_H → Prop), wp d 169 30 [l0, l1, l2, l3] [s0, s1] w 0 Q ↔ wp d 169 34 [l0, l1, l2, l3] [s0, s1] w 0 Q) ∧
  (∀ (d : Nat) (l0 l1 l2 l3 : Option Value) (s0 : Value)  (w : px_H) (Q : Option Value → px_H → Prop), wp d 169 33 [l0, l1, l2, l3] [s0] w 0 Q ↔ wp d 169 34 [l0, l1, l2, l3] [.int 0, s0] w 0 Q) ∧
  (∀ (d : Nat) (l0 l1 l2 l3 : Option Value) (x y : Int32) (w : px_H) (Q : Option Value → px_H → Prop), wp d 169 34 [l0, l1, l2, l3] [.int y, .int x] w 0 Q ↔ wp d 169 35 [l0, l1, l2, l3] [.int (x ||| y)] w 0 Q) ∧
  (∀ (d : Nat) (l0 l1 l2 l3 : Option Value) (x : Int32) (w : px_H) (Q : Option Value → px_H → Prop), wp d 169 35 [l0, l1, l2, l3] [.int x] w 0 Q ↔ wp d 169 36 [l0, l1, some (.int x), l3] [] w 0 Q) ∧
  (∀ (d : Nat) (l0 l1 l2 : Option Value) (x : Int32) (w : px_H) (Q : Option Value → px_H → Prop), wp d 169 36 [l0, l1, l2, some (.int x)] [] w 0 Q ↔ wp d 169 39 [l0, l1, l2, some (.int (x + 1))] [] w 0 Q) ∧
  (∀ (d : Nat) (l0 l1 l2 l3 : Option Value)  (w : px_H) (Q : Option Value → px_H → Prop), wp d 169 39 [l0, l1, l2, l3] [] w 0 Q ↔ wp d 169 4 [l0, l1, l2, l3] [] w 0 Q) ∧
  (∀ (d : Nat) (l0 l1 l3 : Option Value) (x : Int32) (w : px_H) (Q : Option Value → px_H → Prop), wp d 169 42 [l0, l1, some (.int x), l3] [] w 0 Q ↔ wp d 169 43 [l0, l1, some (.int x), l3] [.int x] w 0 Q) ∧
  (∀ (d : Nat) (l0 l1 l2 l3 : Option Value) (x : Int32) (w : px_H) (Q : Option Value → px_H → Prop), wp d 169 43 [l0, l1, l2, l3] [.int x] w 0 Q ↔ Q (some (.int x)) w) := ⟨fun d v0 v1 w Q => r_entry pt_169 (Nat.le_of_ble_eq_true rfl) rfl,
  fun d l0 l1 l2 l3 w Q => r_iconst pt_169 rfl (by decide),
  fun d l0 l1 l2 l3 x w Q => px_go (q := (.istore_n 2, 1, px_x0)) (S' := (2, [l0, l1, some (.int x), l3], [], w, 0)) pt_169 rfl rfl,
  fun d l0 l1 l2 l3 w Q => r_iconst pt_169 rfl (by decide),
  fun d l0 l1 l2 l3 x w Q => px_go (q := (.istore_n 3, 1, px_x0)) (S' := (4, [l0, l1, l2, some (.int x)], [], w, 0)) pt_169 rfl rfl,
  fun d l1 l2 l3 s0 a w Q => px_go (q := (.aload_n 0, 1, px_x0)) (S' := (6, [some (.ref a), l1, l2, l3], [.ref a, s0], w, 0)) pt_169 rfl rfl,
  fun d l0 l1 l2 l3 s0 s1 w Q => r_iconst pt_169 rfl (by decide),
  fun d l0 l1 l2 l3 s2 v0 b w Q => r_callV (q := (.invokevirtual 69, 3, (33, 1, [(11, 149)], 0, ""))) pt_169 rfl rfl (List.forall_mem_cons.mpr ⟨⟨_, pt_149, Nat.le_of_ble_eq_true rfl, (Nat.le_of_ble_eq_true rfl), rfl⟩, fun _ h => absurd h List.not_mem_nil⟩),
  fun d l0 l1 l2 l3 x y w Q => r_icmp_ge pt_169 rfl rfl,
  fun d l0 l1 l3 x w Q => px_go (q := (.iload_n 2, 1, px_x0)) (S' := (14, [l0, l1, some (.int x), l3], [.int x], w, 0)) pt_169 rfl rfl,
  fun d l1 l2 l3 s0 a w Q => px_go (q := (.aload_n 0, 1, px_x0)) (S' := (15, [some (.ref a), l1, l2, l3], [.ref a, s0], w, 0)) pt_169 rfl rfl,
  fun d l0 l1 l2 l3 s0 s1 w Q => r_bipush pt_169 rfl (by decide),
  fun d l0 l1 l2 s0 s1 s2 x w Q => px_go (q := (.iload_n 3, 1, px_x0)) (S' := (18, [l0, l1, l2, some (.int x)], [.int x, s0, s1, s2], w, 0)) pt_169 rfl rfl,
  fun d l0 l1 l2 l3 s2 s3 x y w Q => px_go (q := (.iadd, 1, px_x0)) (S' := (19, [l0, l1, l2, l3], [.int (x + y), s2, s3], w, 0)) pt_169 rfl rfl,
  fun d l0 l1 l2 l3 s2 v0 b w Q => r_callV (q := (.invokevirtual 69, 3, (33, 1, [(11, 149)], 0, ""))) pt_169 rfl rfl (List.forall_mem_cons.mpr ⟨⟨_, pt_149, Nat.le_of_ble_eq_true rfl, (Nat.le_of_ble_eq_true rfl), rfl⟩, fun _ h => absurd h List.not_mem_nil⟩),
  fun d l0 l2 l3 s0 s1 x w Q => px_go (q := (.iload_n 1, 1, px_x0)) (S' := (23, [l0, some (.int x), l2, l3], [.int x, s0, s1], w, 0)) pt_169 rfl rfl,
  fun d l0 l1 l2 l3 s2 x y w Q => px_go (q := (.iand, 1, px_x0)) (S' := (24, [l0, l1, l2, l3], [.int (x &&& y), s2], w, 0)) pt_169 rfl rfl,
  fun d l0 l1 l2 l3 s1 x w Q => r_if_ne pt_169 rfl rfl,
  fun d l0 l1 l2 l3 s0 w Q => r_iconst pt_169 rfl (by decide),
  fun d l0 l1 l2 s0 s1 x w Q => px_go (q := (.iload_n 3, 1, px_x0)) (S' := (29, [l0, l1, l2, some (.int x)], [.int x, s0, s1], w, 0)) pt_169 rfl rfl,
  fun d l0 l1 l2 l3 s2 x y w Q => px_go (q := (.ishl, 1, px_x0)) (S' := (30, [l0, l1, l2, l3], [.int (x <<< (y &&& 31)), s2], w, 0)) pt_169 rfl rfl,
  fun d l0 l1 l2 l3 s0 s1 w Q => r_goto pt_169 rfl rfl,
  fun d l0 l1 l2 l3 s0 w Q => r_iconst pt_169 rfl (by decide),
  fun d l0 l1 l2 l3 x y w Q => px_go (q := (.ior, 1, px_x0)) (S' := (35, [l0, l1, l2, l3], [.int (x ||| y)], w, 0)) pt_169 rfl rfl,
  fun d l0 l1 l2 l3 x w Q => px_go (q := (.istore_n 2, 1, px_x0)) (S' := (36, [l0, l1, some (.int x), l3], [], w, 0)) pt_169 rfl rfl,
  fun d l0 l1 l2 x w Q => r_iinc pt_169 rfl rfl (by decide) rfl,
  fun d l0 l1 l2 l3 w Q => r_goto pt_169 rfl rfl,
  fun d l0 l1 l3 x w Q => px_go (q := (.iload_n 2, 1, px_x0)) (S' := (43, [l0, l1, some (.int x), l3], [.int x], w, 0)) pt_169 rfl rfl,
  fun d l0 l1 l2 l3 x w Q => px_ret (q := (.ireturn, 1, px_x0)) pt_169 rfl rfl⟩
theorem H169_4 : ∀ (d : Nat) (l0 l1 l2 : Option Value) (x : Int32) (w : px_H) (Q : Option Value → px_H → Prop), wp d 169 4 [l0, l1, l2, some (.int x)] [] w 0 Q ↔ wp d 169 5 [l0, l1, l2, some (.int x)] [.int x] w 0 Q := fun d l0 l1 l2 x w Q => px_go (q := (.iload_n 3, 1, px_x0)) (S' := (5, [l0, l1, l2, some (.int x)], [.int x], w, 0)) pt_169 rfl rfl
/-- AllSwornModel.openOn(I)I -/
theorem S170 : (∀ (d : Nat) (v0 v1 : Value) (w : px_H) (Q : Option Value → px_H → Prop), wc d 170 [v0, v1] w Q ↔ wp d 170 0 [some v0, some v1] [] w 0 Q) ∧
  (∀ (d : Nat) (l1 : Option Value) (a : Nat) (w : px_H) (Q : Option Value → px_H → Prop), wp d 170 0 [some (.ref a), l1] [] w 0 Q ↔ wp d 170 1 [some (.ref a), l1] [.ref a] w 0 Q) ∧
  (∀ (d : Nat) (l1 : Option Value) (s0 : Value) (a : Nat) (w : px_H) (Q : Option Value → px_H → Prop), wp d 170 1 [some (.ref a), l1] [s0] w 0 Q ↔ wp d 170 2 [some (.ref a), l1] [.ref a, s0] w 0 Q) ∧
  (∀ (d : Nat) (l0 : Option Value) (s0 s1 : Value) (x : Int32) (w : px_H) (Q : Option Value → px_H → Prop), wp d 170 2 [l0, some (.int x)] [s0, s1] w 0 Q ↔ wp d 170 3 [l0, some (.int x)] [.int x, s0, s1] w 0 Q) ∧
  (∀ (d : Nat) (l1 : Option Value) (s0 s1 s2 : Value) (a : Nat) (w : px_H) (Q : Option Value → px_H → Prop), wp d 170 3 [some (.ref a), l1] [s0, s1, s2] w 0 Q ↔ wp d 170 4 [some (.ref a), l1] [.ref a, s0, s1, s2] w 0 Q) ∧
  (∀ (d : Nat) (l0 l1 : Option Value) (s0 s1 s2 s3 : Value)  (w : px_H) (Q : Option Value → px_H → Prop), wp d 170 4 [l0, l1] [s0, s1, s2, s3] w 0 Q ↔ wp d 170 5 [l0, l1] [.int 0, s0, s1, s2, s3] w 0 Q) ∧
  (∀ (d : Nat) (l0 l1 : Option Value) (s2 s3 s4 : Value) (v0 : Value) (b : Nat) (w : px_H) (Q : Option Value → px_H → Prop), wp (d + 1) 170 5 [l0, l1] [v0, .ref b, s2, s3, s4] w 0 Q ↔ px_op (px_tgt w b [(11, 149)]) (fun v => wc d v [.ref b, v0] w (fun r w' => wp (d + 1) 170 8 [l0, l1] (r.toList ++ [s2, s3, s4]) w' 0 Q))) ∧
  (∀ (d : Nat) (l0 l1 : Option Value) (s3 : Value) (v0 v1 : Value) (b : Nat) (w : px_H) (Q : Option Value → px_H → Prop), wp (d + 1) 170 8 [l0, l1] [v1, v0, .ref b, s3] w 0 Q ↔ px_op (px_tgt w b [(11, 168)]) (fun v => wc d v [.ref b, v0, v1] w (fun r w' => wp (d + 1) 170 11 [l0, l1] (r.toList ++ [s3]) w' 0 Q))) ∧
  (∀ (d : Nat) (l0 l1 : Option Value) (v0 : Value) (b : Nat) (w : px_H) (Q : Option Value → px_H → Prop), wp (d + 1) 170 11 [l0, l1] [v0, .ref b] w 0 Q ↔ px_op (px_tgt w b [(11, 169)]) (fun v => wc d v [.ref b, v0] w (fun r w' => wp (d + 1) 170 14 [l0, l1] (r.toList ++ []) w' 0 Q))) ∧
  (∀ (d : Nat) (l0 l1 : Option Value) (x : Int32) (w : px_H) (Q : Option Value → px_H → Prop), wp d 170 14 [l0, l1] [.int x] w 0 Q ↔ Q (some (.int x)) w) := ⟨fun d v0 v1 w Q => r_entry pt_170 (Nat.le_of_ble_eq_true rfl) rfl,
  fun d l1 a w Q => px_go (q := (.aload_n 0, 1, px_x0)) (S' := (1, [some (.ref a), l1], [.ref a], w, 0)) pt_170 rfl rfl,
  fun d l1 s0 a w Q => px_go (q := (.aload_n 0, 1, px_x0)) (S' := (2, [some (.ref a), l1], [.ref a, s0], w, 0)) pt_170 rfl rfl,
  fun d l0 s0 s1 x w Q => px_go (q := (.iload_n 1, 1, px_x0)) (S' := (3, [l0, some (.int x)], [.int x, s0, s1], w, 0)) pt_170 rfl rfl,
  fun d l1 s0 s1 s2 a w Q => px_go (q := (.aload_n 0, 1, px_x0)) (S' := (4, [some (.ref a), l1], [.ref a, s0, s1, s2], w, 0)) pt_170 rfl rfl,
  fun d l0 l1 s0 s1 s2 s3 w Q => r_iconst pt_170 rfl (by decide),
  fun d l0 l1 s2 s3 s4 v0 b w Q => r_callV (q := (.invokevirtual 69, 3, (33, 1, [(11, 149)], 0, ""))) pt_170 rfl rfl (List.forall_mem_cons.mpr ⟨⟨_, pt_149, Nat.le_of_ble_eq_true rfl, (Nat.le_of_ble_eq_true rfl), rfl⟩, fun _ h => absurd h List.not_mem_nil⟩),
  fun d l0 l1 s3 v0 v1 b w Q => r_callV (q := (.invokevirtual 140, 3, (33, 2, [(11, 168)], 0, ""))) pt_170 rfl rfl (List.forall_mem_cons.mpr ⟨⟨_, pt_168, Nat.le_of_ble_eq_true rfl, (Nat.le_of_ble_eq_true rfl), rfl⟩, fun _ h => absurd h List.not_mem_nil⟩),
  fun d l0 l1 v0 b w Q => r_callV (q := (.invokevirtual 143, 3, (33, 1, [(11, 169)], 0, ""))) pt_170 rfl rfl (List.forall_mem_cons.mpr ⟨⟨_, pt_169, Nat.le_of_ble_eq_true rfl, (Nat.le_of_ble_eq_true rfl), rfl⟩, fun _ h => absurd h List.not_mem_nil⟩),
  fun d l0 l1 x w Q => px_ret (q := (.ireturn, 1, px_x0)) pt_170 rfl rfl⟩
/-- AllSwornModel.openAsSworn(I)I -/
theorem S171 : (∀ (d : Nat) (v0 v1 : Value) (w : px_H) (Q : Option Value → px_H → Prop), wc d 171 [v0, v1] w Q ↔ wp d 171 0 [some v0, some v1] [] w 0 Q) ∧
  (∀ (d : Nat) (l1 : Option Value) (a : Nat) (w : px_H) (Q : Option Value → px_H → Prop), wp d 171 0 [some (.ref a), l1] [] w 0 Q ↔ wp d 171 1 [some (.ref a), l1] [.ref a] w 0 Q) ∧
  (∀ (d : Nat) (l0 l1 : Option Value)  (b : Nat) (w : px_H) (Q : Option Value → px_H → Prop), wp (d + 1) 171 1 [l0, l1] [.ref b] w 0 Q ↔ px_op (px_tgt w b [(11, 167)]) (fun v => wc d v [.ref b] w (fun r w' => wp (d + 1) 171 4 [l0, l1] (r.toList ++ []) w' 0 Q))) ∧
  (∀ (d : Nat) (l1 : Option Value) (a : Nat) (w : px_H) (Q : Option Value → px_H → Prop), wp d 171 4 [some (.ref a), l1] [] w 0 Q ↔ wp d 171 5 [some (.ref a), l1] [.ref a] w 0 Q) ∧
  (∀ (d : Nat) (l0 : Option Value) (s0 : Value) (x : Int32) (w : px_H) (Q : Option Value → px_H → Prop), wp d 171 5 [l0, some (.int x)] [s0] w 0 Q ↔ wp d 171 6 [l0, some (.int x)] [.int x, s0] w 0 Q) ∧
  (∀ (d : Nat) (l0 l1 : Option Value) (v0 : Value) (b : Nat) (w : px_H) (Q : Option Value → px_H → Prop), wp (d + 1) 171 6 [l0, l1] [v0, .ref b] w 0 Q ↔ px_op (px_tgt w b [(11, 170)]) (fun v => wc d v [.ref b, v0] w (fun r w' => wp (d + 1) 171 9 [l0, l1] (r.toList ++ []) w' 0 Q))) ∧
  (∀ (d : Nat) (l0 l1 : Option Value) (x : Int32) (w : px_H) (Q : Option Value → px_H → Prop), wp d 171 9 [l0, l1] [.int x] w 0 Q ↔ Q (some (.int x)) w) := ⟨fun d v0 v1 w Q => r_entry pt_171 (Nat.le_of_ble_eq_true rfl) rfl,
  fun d l1 a w Q => px_go (q := (.aload_n 0, 1, px_x0)) (S' := (1, [some (.ref a), l1], [.ref a], w, 0)) pt_171 rfl rfl,
  fun d l0 l1 b w Q => r_callV (q := (.invokevirtual 146, 3, (33, 0, [(11, 167)], 0, ""))) pt_171 rfl rfl (List.forall_mem_cons.mpr ⟨⟨_, pt_167, Nat.le_of_ble_eq_true rfl, (Nat.le_of_ble_eq_true rfl), rfl⟩, fun _ h => absurd h List.not_mem_nil⟩),
  fun d l1 a w Q => px_go (q := (.aload_n 0, 1, px_x0)) (S' := (5, [some (.ref a), l1], [.ref a], w, 0)) pt_171 rfl rfl,
  fun d l0 s0 x w Q => px_go (q := (.iload_n 1, 1, px_x0)) (S' := (6, [l0, some (.int x)], [.int x, s0], w, 0)) pt_171 rfl rfl,
  fun d l0 l1 v0 b w Q => r_callV (q := (.invokevirtual 149, 3, (33, 1, [(11, 170)], 0, ""))) pt_171 rfl rfl (List.forall_mem_cons.mpr ⟨⟨_, pt_170, Nat.le_of_ble_eq_true rfl, (Nat.le_of_ble_eq_true rfl), rfl⟩, fun _ h => absurd h List.not_mem_nil⟩),
  fun d l0 l1 x w Q => px_ret (q := (.ireturn, 1, px_x0)) pt_171 rfl rfl⟩
/-- AllSwornModel.wayOf(I)I -/
theorem S172 : (∀ (d : Nat) (v0 v1 : Value) (w : px_H) (Q : Option Value → px_H → Prop), wc d 172 [v0, v1] w Q ↔ wp d 172 0 [some v0, some v1, none] [] w 0 Q) ∧
  (∀ (d : Nat) (l1 l2 : Option Value) (a : Nat) (w : px_H) (Q : Option Value → px_H → Prop), wp d 172 0 [some (.ref a), l1, l2] [] w 0 Q ↔ wp d 172 1 [some (.ref a), l1, l2] [.ref a] w 0 Q) ∧
  (∀ (d : Nat) (l0 l2 : Option Value) (s0 : Value) (x : Int32) (w : px_H) (Q : Option Value → px_H → Prop), wp d 172 1 [l0, some (.int x), l2] [s0] w 0 Q ↔ wp d 172 2 [l0, some (.int x), l2] [.int x, s0] w 0 Q) ∧
  (∀ (d : Nat) (l0 l1 l2 : Option Value) (s0 s1 : Value)  (w : px_H) (Q : Option Value → px_H → Prop), wp d 172 2 [l0, l1, l2] [s0, s1] w 0 Q ↔ wp d 172 3 [l0, l1, l2] [.int 0, s0, s1] w 0 Q) ∧
  (∀ (d : Nat) (l0 l1 l2 : Option Value) (v0 v1 : Value) (b : Nat) (w : px_H) (Q : Option Value → px_H → Prop), wp (d + 1) 172 3 [l0, l1, l2] [v1, v0, .ref b] w 0 Q ↔ px_op (px_tgt w b [(11, 154)]) (fun v => wc d v [.ref b, v0, v1] w (fun r w' => wp (d + 1) 172 6 [l0, l1, l2] (r.toList ++ []) w' 0 Q))) ∧
  (∀ (d : Nat) (l0 l1 l2 : Option Value) (s0 : Value)  (w : px_H) (Q : Option Value → px_H → Prop), wp d 172 6 [l0, l1, l2] [s0] w 0 Q ↔ wp d 172 7 [l0, l1, l2] [.int 3, s0] w 0 Q) ∧
  (∀ (d : Nat) (l0 l1 l2 : Option Value) (x y : Int32) (w : px_H) (Q : Option Value → px_H → Prop), wp d 172 7 [l0, l1, l2] [.int y, .int x] w 0 Q ↔ if x ≤ y then wp d 172 14 [l0, l1, l2] [] w 0 Q else wp d 172 10 [l0, l1, l2] [] w 0 Q) ∧
  (∀ (d : Nat) (l0 l1 l2 : Option Value)  (w : px_H) (Q : Option Value → px_H → Prop), wp d 172 10 [l0, l1, l2] [] w 0 Q ↔ wp d 172 11 [l0, l1, l2] [.int 4] w 0 Q) ∧
  (∀ (d : Nat) (l0 l1 l2 : Option Value) (s0 : Value)  (w : px_H) (Q : Option Value → px_H → Prop), wp d 172 11 [l0, l1, l2] [s0] w 0 Q ↔ wp d 172 15 [l0, l1, l2] [s0] w 0 Q) ∧
  (∀ (d : Nat) (l0 l1 l2 : Option Value)  (w : px_H) (Q : Option Value → px_H → Prop), wp d 172 14 [l0, l1, l2] [] w 0 Q ↔ wp d 172 15 [l0, l1, l2] [.int 2] w 0 Q) ∧
  (∀ (d : Nat) (l1 l2 : Option Value) (s0 : Value) (a : Nat) (w : px_H) (Q : Option Value → px_H → Prop), wp d 172 15 [some (.ref a), l1, l2] [s0] w 0 Q ↔ wp d 172 16 [some (.ref a), l1, l2] [.ref a, s0] w 0 Q) ∧
  (∀ (d : Nat) (l0 l2 : Option Value) (s0 s1 : Value) (x : Int32) (w : px_H) (Q : Option Value → px_H → Prop), wp d 172 16 [l0, some (.int x), l2] [s0, s1] w 0 Q ↔ wp d 172 17 [l0, some (.int x), l2] [.int x, s0, s1] w 0 Q) ∧
  (∀ (d : Nat) (l0 l1 l2 : Option Value) (s0 s1 s2 : Value)  (w : px_H) (Q : Option Value → px_H → Prop), wp d 172 17 [l0, l1, l2] [s0, s1, s2] w 0 Q ↔ wp d 172 18 [l0, l1, l2] [.int 1, s0, s1, s2] w 0 Q) ∧
  (∀ (d : Nat) (l0 l1 l2 : Option Value) (s3 : Value) (v0 v1 : Value) (b : Nat) (w : px_H) (Q : Option Value → px_H → Prop), wp (d + 1) 172 18 [l0, l1, l2] [v1, v0, .ref b, s3] w 0 Q ↔ px_op (px_tgt w b [(11, 154)]) (fun v => wc d v [.ref b, v0, v1] w (fun r w' => wp (d + 1) 172 21 [l0, l1, l2] (r.toList ++ [s3]) w' 0 Q))) ∧
  (∀ (d : Nat) (l0 l1 l2 : Option Value) (x y : Int32) (w : px_H) (Q : Option Value → px_H → Prop), wp d 172 21 [l0, l1, l2] [.int y, .int x] w 0 Q ↔ wp d 172 22 [l0, l1, l2] [.int (x * y)] w 0 Q) ∧
  (∀ (d : Nat) (l0 l1 l2 : Option Value) (x : Int32) (w : px_H) (Q : Option Value → px_H → Prop), wp d 172 22 [l0, l1, l2] [.int x] w 0 Q ↔ wp d 172 23 [l0, l1, some (.int x)] [] w 0 Q) ∧
  (∀ (d : Nat) (l0 l1 : Option Value) (x : Int32) (w : px_H) (Q : Option Value → px_H → Prop), wp d 172 23 [l0, l1, some (.int x)] [] w 0 Q ↔ wp d 172 24 [l0, l1, some (.int x)] [.int x] w 0 Q) ∧
  (∀ (d : Nat) (l0 l1 l2 : Option Value) (x : Int32) (w : px_H) (Q : Option Value → px_H → Prop), wp d 172 24 [l0, l1, l2] [.int x] w 0 Q ↔ if x = 0 then wp d 172 27 [l0, l1, l2] [] w 0 Q else wp d 172 31 [l0, l1, l2] [] w 0 Q) ∧
  (∀ (d : Nat) (l0 l1 l2 : Option Value)  (w : px_H) (Q : Option Value → px_H → Prop), wp d 172 27 [l0, l1, l2] [] w 0 Q ↔ wp d 172 28 [l0, l1, l2] [.int 1] w 0 Q) ∧
  (∀ (d : Nat) (l0 l1 l2 : Option Value) (s0 : Value)  (w : px_H) (Q : Option Value → px_H → Prop), wp d 172 28 [l0, l1, l2] [s0] w 0 Q ↔ wp d 172 32 [l0, l1, l2] [s0] w 0 Q) ∧
  (∀ (d : Nat) (l0 l1 : Option Value) (x : Int32) (w : px_H) (Q : Option Value → px_H → Prop), wp d 172 31 [l0, l1, some (.int x)] [] w 0 Q ↔ wp d 172 32 [l0, l1, some (.int x)] [.int x] w 0 Q) ∧
  (∀ (d : Nat) (l0 l1 l2 : Option Value) (x : Int32) (w : px_H) (Q : Option Value → px_H → Prop), wp d 172 32 [l0, l1, l2] [.int x] w 0 Q ↔ Q (some (.int x)) w) := ⟨fun d v0 v1 w Q => r_entry pt_172 (Nat.le_of_ble_eq_true rfl) rfl,
  fun d l1 l2 a w Q => px_go (q := (.aload_n 0, 1, px_x0)) (S' := (1, [some (.ref a), l1, l2], [.ref a], w, 0)) pt_172 rfl rfl,
  fun d l0 l2 s0 x w Q => px_go (q := (.iload_n 1, 1, px_x0)) (S' := (2, [l0, some (.int x), l2], [.int x, s0], w, 0)) pt_172 rfl rfl,
  fun d l0 l1 l2 s0 s1 w Q => r_iconst pt_172 rfl (by decide),
  fun d l0 l1 l2 v0 v1 b w Q => r_callV (q := (.invokevirtual 136, 3, (33, 2, [(11, 154)], 0, ""))) pt_172 rfl rfl (List.forall_mem_cons.mpr ⟨⟨_, pt_154, Nat.le_of_ble_eq_true rfl, (Nat.le_of_ble_eq_true rfl), rfl⟩, fun _ h => absurd h List.not_mem_nil⟩),
  fun d l0 l1 l2 s0 w Q => r_iconst pt_172 rfl (by decide),
  fun d l0 l1 l2 x y w Q => r_icmp_le pt_172 rfl rfl,
  fun d l0 l1 l2 w Q => r_iconst pt_172 rfl (by decide),
  fun d l0 l1 l2 s0 w Q => r_goto pt_172 rfl rfl,
  fun d l0 l1 l2 w Q => r_iconst pt_172 rfl (by decide),
  fun d l1 l2 s0 a w Q => px_go (q := (.aload_n 0, 1, px_x0)) (S' := (16, [some (.ref a), l1, l2], [.ref a, s0], w, 0)) pt_172 rfl rfl,
  fun d l0 l2 s0 s1 x w Q => px_go (q := (.iload_n 1, 1, px_x0)) (S' := (17, [l0, some (.int x), l2], [.int x, s0, s1], w, 0)) pt_172 rfl rfl,
  fun d l0 l1 l2 s0 s1 s2 w Q => r_iconst pt_172 rfl (by decide),
  fun d l0 l1 l2 s3 v0 v1 b w Q => r_callV (q := (.invokevirtual 136, 3, (33, 2, [(11, 154)], 0, ""))) pt_172 rfl rfl (List.forall_mem_cons.mpr ⟨⟨_, pt_154, Nat.le_of_ble_eq_true rfl, (Nat.le_of_ble_eq_true rfl), rfl⟩, fun _ h => absurd h List.not_mem_nil⟩),
  fun d l0 l1 l2 x y w Q => px_go (q := (.imul, 1, px_x0)) (S' := (22, [l0, l1, l2], [.int (x * y)], w, 0)) pt_172 rfl rfl,
  fun d l0 l1 l2 x w Q => px_go (q := (.istore_n 2, 1, px_x0)) (S' := (23, [l0, l1, some (.int x)], [], w, 0)) pt_172 rfl rfl,
  fun d l0 l1 x w Q => px_go (q := (.iload_n 2, 1, px_x0)) (S' := (24, [l0, l1, some (.int x)], [.int x], w, 0)) pt_172 rfl rfl,
  fun d l0 l1 l2 x w Q => r_if_ne pt_172 rfl rfl,
  fun d l0 l1 l2 w Q => r_iconst pt_172 rfl (by decide),
  fun d l0 l1 l2 s0 w Q => r_goto pt_172 rfl rfl,
  fun d l0 l1 x w Q => px_go (q := (.iload_n 2, 1, px_x0)) (S' := (32, [l0, l1, some (.int x)], [.int x], w, 0)) pt_172 rfl rfl,
  fun d l0 l1 l2 x w Q => px_ret (q := (.ireturn, 1, px_x0)) pt_172 rfl rfl⟩
/-- AllSwornModel.wouldSwear(II)Z -/
theorem S173 : (∀ (d : Nat) (v0 v1 v2 : Value) (w : px_H) (Q : Option Value → px_H → Prop), wc d 173 [v0, v1, v2] w Q ↔ wp d 173 0 [some v0, some v1, some v2] [] w 0 Q) ∧
  (∀ (d : Nat) (l1 l2 : Option Value) (a : Nat) (w : px_H) (Q : Option Value → px_H → Prop), wp d 173 0 [some (.ref a), l1, l2] [] w 0 Q ↔ wp d 173 1 [some (.ref a), l1, l2] [.ref a] w 0 Q) ∧
  (∀ (d : Nat) (l0 l2 : Option Value) (s0 : Value) (x : Int32) (w : px_H) (Q : Option Value → px_H → Prop), wp d 173 1 [l0, some (.int x), l2] [s0] w 0 Q ↔ wp d 173 2 [l0, some (.int x), l2] [.int x, s0] w 0 Q) ∧
  (∀ (d : Nat) (l0 l1 l2 : Option Value) (s0 s1 : Value)  (w : px_H) (Q : Option Value → px_H → Prop), wp d 173 2 [l0, l1, l2] [s0, s1] w 0 Q ↔ wp d 173 3 [l0, l1, l2] [.int 0, s0, s1] w 0 Q) ∧
  (∀ (d : Nat) (l0 l1 l2 : Option Value) (v0 v1 : Value) (b : Nat) (w : px_H) (Q : Option Value → px_H → Prop), wp (d + 1) 173 3 [l0, l1, l2] [v1, v0, .ref b] w 0 Q ↔ px_op (px_tgt w b [(11, 154)]) (fun v => wc d v [.ref b, v0, v1] w (fun r w' => wp (d + 1) 173 6 [l0, l1, l2] (r.toList ++ []) w' 0 Q))) ∧
  (∀ (d : Nat) (l0 l1 l2 : Option Value) (s0 : Value)  (w : px_H) (Q : Option Value → px_H → Prop), wp d 173 6 [l0, l1, l2] [s0] w 0 Q ↔ wp d 173 7 [l0, l1, l2] [.int 3, s0] w 0 Q) ∧
  (∀ (d : Nat) (l0 l1 l2 : Option Value) (x y : Int32) (w : px_H) (Q : Option Value → px_H → Prop), wp d 173 7 [l0, l1, l2] [.int y, .int x] w 0 Q ↔ if x = y then wp d 173 10 [l0, l1, l2] [] w 0 Q else wp d 173 16 [l0, l1, l2] [] w 0 Q) ∧
  (∀ (d : Nat) (l0 l1 : Option Value) (x : Int32) (w : px_H) (Q : Option Value → px_H → Prop), wp d 173 10 [l0, l1, some (.int x)] [] w 0 Q ↔ wp d 173 11 [l0, l1, some (.int x)] [.int x] w 0 Q) ∧
  (∀ (d : Nat) (l0 l1 l2 : Option Value) (s0 : Value)  (w : px_H) (Q : Option Value → px_H → Prop), wp d 173 11 [l0, l1, l2] [s0] w 0 Q ↔ wp d 173 13 [l0, l1, l2] [.int 10, s0] w 0 Q) ∧
  (∀ (d : Nat) (l0 l1 l2 : Option Value) (x y : Int32) (w : px_H) (Q : Option Value → px_H → Prop), wp d 173 13 [l0, l1, l2] [.int y, .int x] w 0 Q ↔ if x < y then wp d 173 20 [l0, l1, l2] [] w 0 Q else wp d 173 16 [l0, l1, l2] [] w 0 Q) ∧
  (∀ (d : Nat) (l0 l1 l2 : Option Value)  (w : px_H) (Q : Option Value → px_H → Prop), wp d 173 16 [l0, l1, l2] [] w 0 Q ↔ wp d 173 17 [l0, l1, l2] [.int 1] w 0 Q) ∧
  (∀ (d : Nat) (l0 l1 l2 : Option Value) (s0 : Value)  (w : px_H) (Q : Option Value → px_H → Prop), wp d 173 17 [l0, l1, l2] [s0] w 0 Q ↔ wp d 173 21 [l0, l1, l2] [s0] w 0 Q) ∧
  (∀ (d : Nat) (l0 l1 l2 : Option Value)  (w : px_H) (Q : Option Value → px_H → Prop), wp d 173 20 [l0, l1, l2] [] w 0 Q ↔ wp d 173 21 [l0, l1, l2] [.int 0] w 0 Q) ∧
  (∀ (d : Nat) (l0 l1 l2 : Option Value) (x : Int32) (w : px_H) (Q : Option Value → px_H → Prop), wp d 173 21 [l0, l1, l2] [.int x] w 0 Q ↔ (x = 0 ∨ x = 1) ∧ Q (some (.int x)) w) := ⟨fun d v0 v1 v2 w Q => r_entry pt_173 (Nat.le_of_ble_eq_true rfl) rfl,
  fun d l1 l2 a w Q => px_go (q := (.aload_n 0, 1, px_x0)) (S' := (1, [some (.ref a), l1, l2], [.ref a], w, 0)) pt_173 rfl rfl,
  fun d l0 l2 s0 x w Q => px_go (q := (.iload_n 1, 1, px_x0)) (S' := (2, [l0, some (.int x), l2], [.int x, s0], w, 0)) pt_173 rfl rfl,
  fun d l0 l1 l2 s0 s1 w Q => r_iconst pt_173 rfl (by decide),
  fun d l0 l1 l2 v0 v1 b w Q => r_callV (q := (.invokevirtual 136, 3, (33, 2, [(11, 154)], 0, ""))) pt_173 rfl rfl (List.forall_mem_cons.mpr ⟨⟨_, pt_154, Nat.le_of_ble_eq_true rfl, (Nat.le_of_ble_eq_true rfl), rfl⟩, fun _ h => absurd h List.not_mem_nil⟩),
  fun d l0 l1 l2 s0 w Q => r_iconst pt_173 rfl (by decide),
  fun d l0 l1 l2 x y w Q => r_icmp_ne pt_173 rfl rfl,
  fun d l0 l1 x w Q => px_go (q := (.iload_n 2, 1, px_x0)) (S' := (11, [l0, l1, some (.int x)], [.int x], w, 0)) pt_173 rfl rfl,
  fun d l0 l1 l2 s0 w Q => r_bipush pt_173 rfl (by decide),
  fun d l0 l1 l2 x y w Q => r_icmp_lt pt_173 rfl rfl,
  fun d l0 l1 l2 w Q => r_iconst pt_173 rfl (by decide),
  fun d l0 l1 l2 s0 w Q => r_goto pt_173 rfl rfl,
  fun d l0 l1 l2 w Q => r_iconst pt_173 rfl (by decide),
  fun d l0 l1 l2 x w Q => px_retI (q := (.ireturn, 1, px_x0)) pt_173 rfl rfl⟩
/-- AllSwornModel.know(I)V heads: [11] -/
theorem S174 : (∀ (d : Nat) (v0 v1 : Value) (w : px_H) (Q : Option Value → px_H → Prop), wc d 174 [v0, v1] w Q ↔ wp d 174 0 [some v0, some v1, none] [] w 0 Q) ∧
  (∀ (d : Nat) (l1 l2 : Option Value) (a : Nat) (w : px_H) (Q : Option Value → px_H → Prop), wp d 174 0 [some (.ref a), l1, l2] [] w 0 Q ↔ wp d 174 1 [some (.ref a), l1, l2] [.ref a] w 0 Q) ∧
  (∀ (d : Nat) (l0 l1 l2 : Option Value) (a : Nat) (w : px_H) (Q : Option Value → px_H → Prop), wp d 174 1 [l0, l1, l2] [.ref a] w 0 Q ↔ px_op (px_fld w a [(11, 0)] 8) (fun v => wp d 174 4 [l0, l1, l2] [v] w 0 Q)) ∧
  (∀ (d : Nat) (l0 l1 l2 : Option Value) (s0 : Value)  (w : px_H) (Q : Option Value → px_H → Prop), wp d 174 4 [l0, l1, l2] [s0] w 0 Q ↔ wp d 174 6 [l0, l1, l2] [.int 24, s0] w 0 Q) ∧
  (∀ (d : Nat) (l0 l1 l2 : Option Value) (x y : Int32) (w : px_H) (Q : Option Value → px_H → Prop), wp d 174 6 [l0, l1, l2] [.int y, .int x] w 0 Q ↔ if x = y then wp d 174 9 [l0, l1, l2] [] w 0 Q else wp d 174 47 [l0, l1, l2] [] w 0 Q) ∧
  (∀ (d : Nat) (l0 l1 l2 : Option Value)  (w : px_H) (Q : Option Value → px_H → Prop), wp d 174 9 [l0, l1, l2] [] w 0 Q ↔ wp d 174 10 [l0, l1, l2] [.int 0] w 0 Q) ∧
  (∀ (d : Nat) (l0 l1 l2 : Option Value) (x : Int32) (w : px_H) (Q : Option Value → px_H → Prop), wp d 174 10 [l0, l1, l2] [.int x] w 0 Q ↔ wp d 174 11 [l0, l1, some (.int x)] [] w 0 Q) ∧
  (∀ (d : Nat) (l0 l1 l2 : Option Value) (s0 : Value)  (w : px_H) (Q : Option Value → px_H → Prop), wp d 174 12 [l0, l1, l2] [s0] w 0 Q ↔ wp d 174 14 [l0, l1, l2] [.int 92, s0] w 0 Q) ∧
  (∀ (d : Nat) (l0 l1 l2 : Option Value) (x y : Int32) (w : px_H) (Q : Option Value → px_H → Prop), wp d 174 14 [l0, l1, l2] [.int y, .int x] w 0 Q ↔ if y ≤ x then wp d 174 37 [l0, l1, l2] [] w 0 Q else wp d 174 17 [l0, l1, l2] [] w 0 Q) ∧
  (∀ (d : Nat) (l1 l2 : Option Value) (a : Nat) (w : px_H) (Q : Option Value → px_H → Prop), wp d 174 17 [some (.ref a), l1, l2] [] w 0 Q ↔ wp d 174 18 [some (.ref a), l1, l2] [.ref a] w 0 Q) ∧
  (∀ (d : Nat) (l0 l1 l2 : Option Value) (a : Nat) (w : px_H) (Q : Option Value → px_H → Prop), wp d 174 18 [l0, l1, l2] [.ref a] w 0 Q ↔ px_op (px_fld w a [(11, 0)] 7) (fun v => wp d 174 21 [l0, l1, l2] [v] w 0 Q)) ∧
  (∀ (d : Nat) (l0 l1 : Option Value) (s0 : Value) (x : Int32) (w : px_H) (Q : Option Value → px_H → Prop), wp d 174 21 [l0, l1, some (.int x)] [s0] w 0 Q ↔ wp d 174 22 [l0, l1, some (.int x)] [.int x, s0] w 0 Q) ∧
  (∀ (d : Nat) (l1 l2 : Option Value) (s0 s1 : Value) (a : Nat) (w : px_H) (Q : Option Value → px_H → Prop), wp d 174 22 [some (.ref a), l1, l2] [s0, s1] w 0 Q ↔ wp d 174 23 [some (.ref a), l1, l2] [.ref a, s0, s1] w 0 Q) ∧
  (∀ (d : Nat) (l0 l1 l2 : Option Value) (s1 s2 : Value) (a : Nat) (w : px_H) (Q : Option Value → px_H → Prop), wp d 174 23 [l0, l1, l2] [.ref a, s1, s2] w 0 Q ↔ px_op (px_fld w a [(11, 0)] 7) (fun v => wp d 174 26 [l0, l1, l2] [v, s1, s2] w 0 Q)) ∧
  (∀ (d : Nat) (l0 l1 l2 : Option Value) (s0 s1 s2 : Value)  (w : px_H) (Q : Option Value → px_H → Prop), wp d 174 26 [l0, l1, l2] [s0, s1, s2] w 0 Q ↔ wp d 174 27 [l0, l1, l2] [.int 4, s0, s1, s2] w 0 Q) ∧
  (∀ (d : Nat) (l0 l1 : Option Value) (s0 s1 s2 s3 : Value) (x : Int32) (w : px_H) (Q : Option Value → px_H → Prop), wp d 174 27 [l0, l1, some (.int x)] [s0, s1, s2, s3] w 0 Q ↔ wp d 174 28 [l0, l1, some (.int x)] [.int x, s0, s1, s2, s3] w 0 Q) ∧
  (∀ (d : Nat) (l0 l1 l2 : Option Value) (s2 s3 s4 : Value) (x y : Int32) (w : px_H) (Q : Option Value → px_H → Prop), wp d 174 28 [l0, l1, l2] [.int y, .int x, s2, s3, s4] w 0 Q ↔ wp d 174 29 [l0, l1, l2] [.int (x + y), s2, s3, s4] w 0 Q) ∧
  (∀ (d : Nat) (l0 l1 l2 : Option Value) (s2 s3 : Value) (i : Int32) (a : Nat) (w : px_H) (Q : Option Value → px_H → Prop), wp d 174 29 [l0, l1, l2] [.int i, .ref a, s2, s3] w 0 Q ↔ px_op (px_ald w a i .int) (fun x => wp d 174 30 [l0, l1, l2] [.int x, s2, s3] w 0 Q)) ∧
  (∀ (d : Nat) (l0 l1 l2 : Option Value) (x i : Int32) (a : Nat) (w : px_H) (Q : Option Value → px_H → Prop), wp d 174 30 [l0, l1, l2] [.int x, .int i, .ref a] w 0 Q ↔ px_op (px_ast w a i x .int) (fun w' => wp d 174 31 [l0, l1, l2] [] w' 0 Q)) ∧
  (∀ (d : Nat) (l0 l1 : Option Value) (x : Int32) (w : px_H) (Q : Option Value → px_H → Prop), wp d 174 31 [l0, l1, some (.int x)] [] w 0 Q ↔ wp d 174 34 [l0, l1, some (.int (x + 1))] [] w 0 Q) ∧
  (∀ (d : Nat) (l0 l1 l2 : Option Value)  (w : px_H) (Q : Option Value → px_H → Prop), wp d 174 34 [l0, l1, l2] [] w 0 Q ↔ wp d 174 11 [l0, l1, l2] [] w 0 Q) ∧
  (∀ (d : Nat) (l1 l2 : Option Value) (a : Nat) (w : px_H) (Q : Option Value → px_H → Prop), wp d 174 37 [some (.ref a), l1, l2] [] w 0 Q ↔ wp d 174 38 [some (.ref a), l1, l2] [.ref a] w 0 Q) ∧
  (∀ (d : Nat) (l0 l1 l2 : Option Value) (s0 : Value)  (w : px_H) (Q : Option Value → px_H → Prop), wp d 174 38 [l0, l1, l2] [s0] w 0 Q ↔ wp d 174 39 [l0, l1, l2] [s0, s0] w 0 Q) ∧
  (∀ (d : Nat) (l0 l1 l2 : Option Value) (s1 : Value) (a : Nat) (w : px_H) (Q : Option Value → px_H → Prop), wp d 174 39 [l0, l1, l2] [.ref a, s1] w 0 Q ↔ px_op (px_fld w a [(11, 0)] 8) (fun v => wp d 174 42 [l0, l1, l2] [v, s1] w 0 Q)) ∧
  (∀ (d : Nat) (l0 l1 l2 : Option Value) (s0 s1 : Value)  (w : px_H) (Q : Option Value → px_H → Prop), wp d 174 42 [l0, l1, l2] [s0, s1] w 0 Q ↔ wp d 174 43 [l0, l1, l2] [.int 1, s0, s1] w 0 Q) ∧
  (∀ (d : Nat) (l0 l1 l2 : Option Value) (s2 : Value) (x y : Int32) (w : px_H) (Q : Option Value → px_H → Prop), wp d 174 43 [l0, l1, l2] [.int y, .int x, s2] w 0 Q ↔ wp d 174 44 [l0, l1, l2] [.int (x - y), s2] w 0 Q) ∧
  (∀ (d : Nat) (l0 l1 l2 : Option Value) (x : Int32) (a : Nat) (w : px_H) (Q : Option Value → px_H → Prop), wp d 174 44 [l0, l1, l2] [.int x, .ref a] w 0 Q ↔ px_op (px_pfd w a [(11, 0)] 8 (.int x)) (fun w' => wp d 174 47 [l0, l1, l2] [] w' 0 Q)) ∧
  (∀ (d : Nat) (l1 l2 : Option Value) (a : Nat) (w : px_H) (Q : Option Value → px_H → Prop), wp d 174 47 [some (.ref a), l1, l2] [] w 0 Q ↔ wp d 174 48 [some (.ref a), l1, l2] [.ref a] w 0 Q) ∧
  (∀ (d : Nat) (l0 l1 l2 : Option Value) (a : Nat) (w : px_H) (Q : Option Value → px_H → Prop), wp d 174 48 [l0, l1, l2] [.ref a] w 0 Q ↔ px_op (px_fld w a [(11, 0)] 7) (fun v => wp d 174 51 [l0, l1, l2] [v] w 0 Q)) ∧
  (∀ (d : Nat) (l0 l1 l2 : Option Value) (s0 : Value)  (w : px_H) (Q : Option Value → px_H → Prop), wp d 174 51 [l0, l1, l2] [s0] w 0 Q ↔ wp d 174 52 [l0, l1, l2] [.int 4, s0] w 0 Q) ∧
  (∀ (d : Nat) (l1 l2 : Option Value) (s0 s1 : Value) (a : Nat) (w : px_H) (Q : Option Value → px_H → Prop), wp d 174 52 [some (.ref a), l1, l2] [s0, s1] w 0 Q ↔ wp d 174 53 [some (.ref a), l1, l2] [.ref a, s0, s1] w 0 Q) ∧
  (∀ (d : Nat) (l0 l1 l2 : Option Value) (s1 s2 : Value) (a : Nat) (w : px_H) (Q : Option Value → px_H → Prop), wp d 174 53 [l0, l1, l2] [.ref a, s1, s2] w 0 Q ↔ px_op (px_fld w a [(11, 0)] 8) (fun v => wp d 174 56 [l0, l1, l2] [v, s1, s2] w 0 Q)) ∧
  (∀ (d : Nat) (l0 l1 l2 : Option Value) (s2 : Value) (x y : Int32) (w : px_H) (Q : Option Value → px_H → Prop), wp d 174 56 [l0, l1, l2] [.int y, .int x, s2] w 0 Q ↔ wp d 174 57 [l0, l1, l2] [.int (x * y), s2] w 0 Q) ∧
  (∀ (d : Nat) (l1 l2 : Option Value) (s0 s1 : Value) (a : Nat) (w : px_H) (Q : Option Value → px_H → Prop), wp d 174 57 [some (.ref a), l1, l2] [s0, s1] w 0 Q ↔ wp d 174 58 [some (.ref a), l1, l2] [.ref a, s0, s1] w 0 Q) ∧
  (∀ (d : Nat) (l0 l1 l2 : Option Value) (s0 s1 s2 : Value)  (w : px_H) (Q : Option Value → px_H → Prop), wp d 174 58 [l0, l1, l2] [s0, s1, s2] w 0 Q ↔ wp d 174 59 [l0, l1, l2] [.int 3, s0, s1, s2] w 0 Q) ∧
  (∀ (d : Nat) (l0 l1 l2 : Option Value) (s2 s3 : Value) (v0 : Value) (b : Nat) (w : px_H) (Q : Option Value → px_H → Prop), wp (d + 1) 174 59 [l0, l1, l2] [v0, .ref b, s2, s3] w 0 Q ↔ px_op (px_tgt w b [(11, 149)]) (fun v => wc d v [.ref b, v0] w (fun r w' => wp (d + 1) 174 62 [l0, l1, l2] (r.toList ++ [s2, s3]) w' 0 Q))) ∧
  (∀ (d : Nat) (l0 l1 l2 : Option Value) (x i : Int32) (a : Nat) (w : px_H) (Q : Option Value → px_H → Prop), wp d 174 62 [l0, l1, l2] [.int x, .int i, .ref a] w 0 Q ↔ px_op (px_ast w a i x .int) (fun w' => wp d 174 63 [l0, l1, l2] [] w' 0 Q)) ∧
  (∀ (d : Nat) (l1 l2 : Option Value) (a : Nat) (w : px_H) (Q : Option Value → px_H → Prop), wp d 174 63 [some (.ref a), l1, l2] [] w 0 Q ↔ wp d 174 64 [some (.ref a), l1, l2] [.ref a] w 0 Q) ∧
  (∀ (d : Nat) (l0 l1 l2 : Option Value) (a : Nat) (w : px_H) (Q : Option Value → px_H → Prop), wp d 174 64 [l0, l1, l2] [.ref a] w 0 Q ↔ px_op (px_fld w a [(11, 0)] 7) (fun v => wp d 174 67 [l0, l1, l2] [v] w 0 Q)) ∧
  (∀ (d : Nat) (l0 l1 l2 : Option Value) (s0 : Value)  (w : px_H) (Q : Option Value → px_H → Prop), wp d 174 67 [l0, l1, l2] [s0] w 0 Q ↔ wp d 174 68 [l0, l1, l2] [.int 4, s0] w 0 Q) ∧
  (∀ (d : Nat) (l1 l2 : Option Value) (s0 s1 : Value) (a : Nat) (w : px_H) (Q : Option Value → px_H → Prop), wp d 174 68 [some (.ref a), l1, l2] [s0, s1] w 0 Q ↔ wp d 174 69 [some (.ref a), l1, l2] [.ref a, s0, s1] w 0 Q) ∧
  (∀ (d : Nat) (l0 l1 l2 : Option Value) (s1 s2 : Value) (a : Nat) (w : px_H) (Q : Option Value → px_H → Prop), wp d 174 69 [l0, l1, l2] [.ref a, s1, s2] w 0 Q ↔ px_op (px_fld w a [(11, 0)] 8) (fun v => wp d 174 72 [l0, l1, l2] [v, s1, s2] w 0 Q)) ∧
  (∀ (d : Nat) (l0 l1 l2 : Option Value) (s2 : Value) (x y : Int32) (w : px_H) (Q : Option Value → px_H → Prop), wp d 174 72 [l0, l1, l2] [.int y, .int x, s2] w 0 Q ↔ wp d 174 73 [l0, l1, l2] [.int (x * y), s2] w 0 Q) ∧
  (∀ (d : Nat) (l0 l1 l2 : Option Value) (s0 s1 : Value)  (w : px_H) (Q : Option Value → px_H → Prop), wp d 174 73 [l0, l1, l2] [s0, s1] w 0 Q ↔ wp d 174 74 [l0, l1, l2] [.int 1, s0, s1] w 0 Q) ∧
  (∀ (d : Nat) (l0 l1 l2 : Option Value) (s2 : Value) (x y : Int32) (w : px_H) (Q : Option Value → px_H → Prop), wp d 174 74 [l0, l1, l2] [.int y, .int x, s2] w 0 Q ↔ wp d 174 75 [l0, l1, l2] [.int (x + y), s2] w 0 Q) ∧
  (∀ (d : Nat) (l1 l2 : Option Value) (s0 s1 : Value) (a : Nat) (w : px_H) (Q : Option Value → px_H → Prop), wp d 174 75 [some (.ref a), l1, l2] [s0, s1] w 0 Q ↔ wp d 174 76 [some (.ref a), l1, l2] [.ref a, s0, s1] w 0 Q) ∧
  (∀ (d : Nat) (l0 l1 l2 : Option Value) (s0 s1 s2 : Value)  (w : px_H) (Q : Option Value → px_H → Prop), wp d 174 76 [l0, l1, l2] [s0, s1, s2] w 0 Q ↔ wp d 174 77 [l0, l1, l2] [.int 4, s0, s1, s2] w 0 Q) ∧
  (∀ (d : Nat) (l0 l1 l2 : Option Value) (s2 s3 : Value) (v0 : Value) (b : Nat) (w : px_H) (Q : Option Value → px_H → Prop), wp (d + 1) 174 77 [l0, l1, l2] [v0, .ref b, s2, s3] w 0 Q ↔ px_op (px_tgt w b [(11, 149)]) (fun v => wc d v [.ref b, v0] w (fun r w' => wp (d + 1) 174 80 [l0, l1, l2] (r.toList ++ [s2, s3]) w' 0 Q))) ∧
  (∀ (d : Nat) (l0 l1 l2 : Option Value) (x i : Int32) (a : Nat) (w : px_H) (Q : Option Value → px_H → Prop), wp d 174 80 [l0, l1, l2] [.int x, .int i, .ref a] w 0 Q ↔ px_op (px_ast w a i x .int) (fun w' => wp d 174 81 [l0, l1, l2] [] w' 0 Q)) ∧
  (∀ (d : Nat) (l1 l2 : Option Value) (a : Nat) (w : px_H) (Q : Option Value → px_H → Prop), wp d 174 81 [some (.ref a), l1, l2] [] w 0 Q ↔ wp d 174 82 [some (.ref a), l1, l2] [.ref a] w 0 Q) ∧
  (∀ (d : Nat) (l0 l1 l2 : Option Value) (a : Nat) (w : px_H) (Q : Option Value → px_H → Prop), wp d 174 82 [l0, l1, l2] [.ref a] w 0 Q ↔ px_op (px_fld w a [(11, 0)] 7) (fun v => wp d 174 85 [l0, l1, l2] [v] w 0 Q)) ∧
  (∀ (d : Nat) (l0 l1 l2 : Option Value) (s0 : Value)  (w : px_H) (Q : Option Value → px_H → Prop), wp d 174 85 [l0, l1, l2] [s0] w 0 Q ↔ wp d 174 86 [l0, l1, l2] [.int 4, s0] w 0 Q) ∧
  (∀ (d : Nat) (l1 l2 : Option Value) (s0 s1 : Value) (a : Nat) (w : px_H) (Q : Option Value → px_H → Prop), wp d 174 86 [some (.ref a), l1, l2] [s0, s1] w 0 Q ↔ wp d 174 87 [some (.ref a), l1, l2] [.ref a, s0, s1] w 0 Q) ∧
  (∀ (d : Nat) (l0 l1 l2 : Option Value) (s1 s2 : Value) (a : Nat) (w : px_H) (Q : Option Value → px_H → Prop), wp d 174 87 [l0, l1, l2] [.ref a, s1, s2] w 0 Q ↔ px_op (px_fld w a [(11, 0)] 8) (fun v => wp d 174 90 [l0, l1, l2] [v, s1, s2] w 0 Q)) ∧
  (∀ (d : Nat) (l0 l1 l2 : Option Value) (s2 : Value) (x y : Int32) (w : px_H) (Q : Option Value → px_H → Prop), wp d 174 90 [l0, l1, l2] [.int y, .int x, s2] w 0 Q ↔ wp d 174 91 [l0, l1, l2] [.int (x * y), s2] w 0 Q) ∧
  (∀ (d : Nat) (l0 l1 l2 : Option Value) (s0 s1 : Value)  (w : px_H) (Q : Option Value → px_H → Prop), wp d 174 91 [l0, l1, l2] [s0, s1] w 0 Q ↔ wp d 174 92 [l0, l1, l2] [.int 2, s0, s1] w 0 Q) ∧
  (∀ (d : Nat) (l0 l1 l2 : Option Value) (s2 : Value) (x y : Int32) (w : px_H) (Q : Option Value → px_H → Prop), wp d 174 92 [l0, l1, l2] [.int y, .int x, s2] w 0 Q ↔ wp d 174 93 [l0, l1, l2] [.int (x + y), s2] w 0 Q) ∧
  (∀ (d : Nat) (l0 l2 : Option Value) (s0 s1 : Value) (x : Int32) (w : px_H) (Q : Option Value → px_H → Prop), wp d 174 93 [l0, some (.int x), l2] [s0, s1] w 0 Q ↔ wp d 174 94 [l0, some (.int x), l2] [.int x, s0, s1] w 0 Q) ∧
  (∀ (d : Nat) (l0 l1 l2 : Option Value) (x i : Int32) (a : Nat) (w : px_H) (Q : Option Value → px_H → Prop), wp d 174 94 [l0, l1, l2] [.int x, .int i, .ref a] w 0 Q ↔ px_op (px_ast w a i x .int) (fun w' => wp d 174 95 [l0, l1, l2] [] w' 0 Q)) ∧
  (∀ (d : Nat) (l1 l2 : Option Value) (a : Nat) (w : px_H) (Q : Option Value → px_H → Prop), wp d 174 95 [some (.ref a), l1, l2] [] w 0 Q ↔ wp d 174 96 [some (.ref a), l1, l2] [.ref a] w 0 Q) ∧
  (∀ (d : Nat) (l0 l1 l2 : Option Value) (a : Nat) (w : px_H) (Q : Option Value → px_H → Prop), wp d 174 96 [l0, l1, l2] [.ref a] w 0 Q ↔ px_op (px_fld w a [(11, 0)] 7) (fun v => wp d 174 99 [l0, l1, l2] [v] w 0 Q)) ∧
  (∀ (d : Nat) (l0 l1 l2 : Option Value) (s0 : Value)  (w : px_H) (Q : Option Value → px_H → Prop), wp d 174 99 [l0, l1, l2] [s0] w 0 Q ↔ wp d 174 100 [l0, l1, l2] [.int 4, s0] w 0 Q) ∧
  (∀ (d : Nat) (l1 l2 : Option Value) (s0 s1 : Value) (a : Nat) (w : px_H) (Q : Option Value → px_H → Prop), wp d 174 100 [some (.ref a), l1, l2] [s0, s1] w 0 Q ↔ wp d 174 101 [some (.ref a), l1, l2] [.ref a, s0, s1] w 0 Q) ∧
  (∀ (d : Nat) (l0 l1 l2 : Option Value) (s1 s2 : Value) (a : Nat) (w : px_H) (Q : Option Value → px_H → Prop), wp d 174 101 [l0, l1, l2] [.ref a, s1, s2] w 0 Q ↔ px_op (px_fld w a [(11, 0)] 8) (fun v => wp d 174 104 [l0, l1, l2] [v, s1, s2] w 0 Q)) ∧
  (∀ (d : Nat) (l0 l1 l2 : Option Value) (s2 : Value) (x y : Int32) (w : px_H) (Q : Option Value → px_H → Prop), wp d 174 104 [l0, l1, l2] [.int y, .int x, s2] w 0 Q ↔ wp d 174 105 [l0, l1, l2] [.int (x * y), s2] w 0 Q) ∧
  (∀ (d : Nat) (l0 l1 l2 : Option Value) (s0 s1 : Value)  (w : px_H) (Q : Option Value → px_H → Prop), wp d 174 105 [l0, l1, l2] [s0, s1] w 0 Q ↔ wp d 174 106 [l0, l1, l2] [.int 3, s0, s1] w 0 Q) ∧
  (∀ (d : Nat) (l0 l1 l2 : Option Value) (s2 : Value) (x y : Int32) (w : px_H) (Q : Option Value → px_H → Prop), wp d 174 106 [l0, l1, l2] [.int y, .int x, s2] w 0 Q ↔ wp d 174 107 [l0, l1, l2] [.int (x + y), s2] w 0 Q) ∧
  (∀ (d : Nat) (l0 l2 : Option Value) (s0 s1 : Value) (x : Int32) (w : px_H) (Q : Option Value → px_H → Prop), wp d 174 107 [l0, some (.int x), l2] [s0, s1] w 0 Q ↔ wp d 174 108 [l0, some (.int x), l2] [.int x, s0, s1] w 0 Q) ∧
  (∀ (d : Nat) (l0 l1 l2 : Option Value) (s0 s1 s2 : Value)  (w : px_H) (Q : Option Value → px_H → Prop), wp d 174 108 [l0, l1, l2] [s0, s1, s2] w 0 Q ↔ wp d 174 110 [l0, l1, l2] [.int (-1000000), s0, s1, s2] w 0 Q) ∧
  (∀ (d : Nat) (l0 l1 l2 : Option Value) (s2 s3 : Value) (x y : Int32) (w : px_H) (Q : Option Value → px_H → Prop), wp d 174 110 [l0, l1, l2] [.int y, .int x, s2, s3] w 0 Q ↔ if x = y then wp d 174 113 [l0, l1, l2] [s2, s3] w 0 Q else wp d 174 117 [l0, l1, l2] [s2, s3] w 0 Q) ∧
  (∀ (d : Nat) (l0 l1 l2 : Option Value) (s0 s1 : Value)  (w : px_H) (Q : Option Value → px_H → Prop), wp d 174 113 [l0, l1, l2] [s0, s1] w 0 Q ↔ wp d 174 114 [l0, l1, l2] [.int 0, s0, s1] w 0 Q) ∧
  (∀ (d : Nat) (l0 l1 l2 : Option Value) (s0 s1 s2 : Value)  (w : px_H) (Q : Option Value → px_H → Prop), wp d 174 114 [l0, l1, l2] [s0, s1, s2] w 0 Q ↔ wp d 174 123 [l0, l1, l2] [s0, s1, s2] w 0 Q) ∧
  (∀ (d : Nat) (l1 l2 : Option Value) (s0 s1 : Value) (a : Nat) (w : px_H) (Q : Option Value → px_H → Prop), wp d 174 117 [some (.ref a), l1, l2] [s0, s1] w 0 Q ↔ wp d 174 118 [some (.ref a), l1, l2] [.ref a, s0, s1] w 0 Q) ∧
  (∀ (d : Nat) (l0 l2 : Option Value) (s0 s1 s2 : Value) (x : Int32) (w : px_H) (Q : Option Value → px_H → Prop), wp d 174 118 [l0, some (.int x), l2] [s0, s1, s2] w 0 Q ↔ wp d 174 119 [l0, some (.int x), l2] [.int x, s0, s1, s2] w 0 Q) ∧
  (∀ (d : Nat) (l0 l1 l2 : Option Value) (s0 s1 s2 s3 : Value)  (w : px_H) (Q : Option Value → px_H → Prop), wp d 174 119 [l0, l1, l2] [s0, s1, s2, s3] w 0 Q ↔ wp d 174 120 [l0, l1, l2] [.int 3, s0, s1, s2, s3] w 0 Q) ∧
  (∀ (d : Nat) (l0 l1 l2 : Option Value) (s3 s4 : Value) (v0 v1 : Value) (b : Nat) (w : px_H) (Q : Option Value → px_H → Prop), wp (d + 1) 174 120 [l0, l1, l2] [v1, v0, .ref b, s3, s4] w 0 Q ↔ px_op (px_tgt w b [(11, 154)]) (fun v => wc d v [.ref b, v0, v1] w (fun r w' => wp (d + 1) 174 123 [l0, l1, l2] (r.toList ++ [s3, s4]) w' 0 Q))) ∧
  (∀ (d : Nat) (l0 l1 l2 : Option Value) (x i : Int32) (a : Nat) (w : px_H) (Q : Option Value → px_H → Prop), wp d 174 123 [l0, l1, l2] [.int x, .int i, .ref a] w 0 Q ↔ px_op (px_ast w a i x .int) (fun w' => wp d 174 124 [l0, l1, l2] [] w' 0 Q)) ∧
  (∀ (d : Nat) (l1 l2 : Option Value) (a : Nat) (w : px_H) (Q : Option Value → px_H → Prop), wp d 174 124 [some (.ref a), l1, l2] [] w 0 Q ↔ wp d 174 125 [some (.ref a), l1, l2] [.ref a] w 0 Q) ∧
  (∀ (d : Nat) (l0 l1 l2 : Option Value) (s0 : Value)  (w : px_H) (Q : Option Value → px_H → Prop), wp d 174 125 [l0, l1, l2] [s0] w 0 Q ↔ wp d 174 126 [l0, l1, l2] [s0, s0] w 0 Q) ∧
  (∀ (d : Nat) (l0 l1 l2 : Option Value) (s1 : Value) (a : Nat) (w : px_H) (Q : Option Value → px_H → Prop), wp d 174 126 [l0, l1, l2] [.ref a, s1] w 0 Q ↔ px_op (px_fld w a [(11, 0)] 8) (fun v => wp d 174 129 [l0, l1, l2] [v, s1] w 0 Q)) ∧
  (∀ (d : Nat) (l0 l1 l2 : Option Value) (s0 s1 : Value)  (w : px_H) (Q : Option Value → px_H → Prop), wp d 174 129 [l0, l1, l2] [s0, s1] w 0 Q ↔ wp d 174 130 [l0, l1, l2] [.int 1, s0, s1] w 0 Q) ∧
  (∀ (d : Nat) (l0 l1 l2 : Option Value) (s2 : Value) (x y : Int32) (w : px_H) (Q : Option Value → px_H → Prop), wp d 174 130 [l0, l1, l2] [.int y, .int x, s2] w 0 Q ↔ wp d 174 131 [l0, l1, l2] [.int (x + y), s2] w 0 Q) ∧
  (∀ (d : Nat) (l0 l1 l2 : Option Value) (x : Int32) (a : Nat) (w : px_H) (Q : Option Value → px_H → Prop), wp d 174 131 [l0, l1, l2] [.int x, .ref a] w 0 Q ↔ px_op (px_pfd w a [(11, 0)] 8 (.int x)) (fun w' => wp d 174 134 [l0, l1, l2] [] w' 0 Q)) ∧
  (∀ (d : Nat) (l0 l1 l2 : Option Value)  (w : px_H) (Q : Option Value → px_H → Prop), wp d 174 134 [l0, l1, l2] [] w 0 Q ↔ Q none w) := ⟨fun d v0 v1 w Q => r_entry pt_174 (Nat.le_of_ble_eq_true rfl) rfl,
  fun d l1 l2 a w Q => px_go (q := (.aload_n 0, 1, px_x0)) (S' := (1, [some (.ref a), l1, l2], [.ref a], w, 0)) pt_174 rfl rfl,
  fun d l0 l1 l2 a w Q => px_goO (q := (.getfield 133, 3, (10, 8, [(11, 0)], 0, "AllSwornModel"))) (S' := fun v => (4, [l0, l1, l2], [v], w, 0)) pt_174 rfl rfl,
  fun d l0 l1 l2 s0 w Q => r_bipush pt_174 rfl (by decide),
  fun d l0 l1 l2 x y w Q => r_icmp_ne pt_174 rfl rfl,
  fun d l0 l1 l2 w Q => r_iconst pt_174 rfl (by decide),
  fun d l0 l1 l2 x w Q => px_go (q := (.istore_n 2, 1, px_x0)) (S' := (11, [l0, l1, some (.int x)], [], w, 0)) pt_174 rfl rfl,
  fun d l0 l1 l2 s0 w Q => r_bipush pt_174 rfl (by decide),
  fun d l0 l1 l2 x y w Q => r_icmp_ge pt_174 rfl rfl,
  fun d l1 l2 a w Q => px_go (q := (.aload_n 0, 1, px_x0)) (S' := (18, [some (.ref a), l1, l2], [.ref a], w, 0)) pt_174 rfl rfl,
  fun d l0 l1 l2 a w Q => px_goO (q := (.getfield 26, 3, (10, 7, [(11, 0)], 0, "AllSwornModel"))) (S' := fun v => (21, [l0, l1, l2], [v], w, 0)) pt_174 rfl rfl,
  fun d l0 l1 s0 x w Q => px_go (q := (.iload_n 2, 1, px_x0)) (S' := (22, [l0, l1, some (.int x)], [.int x, s0], w, 0)) pt_174 rfl rfl,
  fun d l1 l2 s0 s1 a w Q => px_go (q := (.aload_n 0, 1, px_x0)) (S' := (23, [some (.ref a), l1, l2], [.ref a, s0, s1], w, 0)) pt_174 rfl rfl,
  fun d l0 l1 l2 s1 s2 a w Q => px_goO (q := (.getfield 26, 3, (10, 7, [(11, 0)], 0, "AllSwornModel"))) (S' := fun v => (26, [l0, l1, l2], [v, s1, s2], w, 0)) pt_174 rfl rfl,
  fun d l0 l1 l2 s0 s1 s2 w Q => r_iconst pt_174 rfl (by decide),
  fun d l0 l1 s0 s1 s2 s3 x w Q => px_go (q := (.iload_n 2, 1, px_x0)) (S' := (28, [l0, l1, some (.int x)], [.int x, s0, s1, s2, s3], w, 0)) pt_174 rfl rfl,
  fun d l0 l1 l2 s2 s3 s4 x y w Q => px_go (q := (.iadd, 1, px_x0)) (S' := (29, [l0, l1, l2], [.int (x + y), s2, s3, s4], w, 0)) pt_174 rfl rfl,
  fun d l0 l1 l2 s2 s3 i a w Q => px_goO (q := (.iaload, 1, px_x0)) (S' := fun x => (30, [l0, l1, l2], [.int x, s2, s3], w, 0)) pt_174 rfl rfl,
  fun d l0 l1 l2 x i a w Q => px_goO (q := (.iastore, 1, px_x0)) (S' := fun w' => (31, [l0, l1, l2], [], w', 0)) pt_174 rfl rfl,
  fun d l0 l1 x w Q => r_iinc pt_174 rfl rfl (by decide) rfl,
  fun d l0 l1 l2 w Q => r_goto pt_174 rfl rfl,
  fun d l1 l2 a w Q => px_go (q := (.aload_n 0, 1, px_x0)) (S' := (38, [some (.ref a), l1, l2], [.ref a], w, 0)) pt_174 rfl rfl,
  fun d l0 l1 l2 s0 w Q => px_go (q := (.dup, 1, px_x0)) (S' := (39, [l0, l1, l2], [s0, s0], w, 0)) pt_174 rfl rfl,
  fun d l0 l1 l2 s1 a w Q => px_goO (q := (.getfield 133, 3, (10, 8, [(11, 0)], 0, "AllSwornModel"))) (S' := fun v => (42, [l0, l1, l2], [v, s1], w, 0)) pt_174 rfl rfl,
  fun d l0 l1 l2 s0 s1 w Q => r_iconst pt_174 rfl (by decide),
  fun d l0 l1 l2 s2 x y w Q => px_go (q := (.isub, 1, px_x0)) (S' := (44, [l0, l1, l2], [.int (x - y), s2], w, 0)) pt_174 rfl rfl,
  fun d l0 l1 l2 x a w Q => r_put pt_174 rfl (by simp only [List.all_cons, List.all_nil, ft_11_8, px_fit, px_isr, Bool.and_self]),
  fun d l1 l2 a w Q => px_go (q := (.aload_n 0, 1, px_x0)) (S' := (48, [some (.ref a), l1, l2], [.ref a], w, 0)) pt_174 rfl rfl,
  fun d l0 l1 l2 a w Q => px_goO (q := (.getfield 26, 3, (10, 7, [(11, 0)], 0, "AllSwornModel"))) (S' := fun v => (51, [l0, l1, l2], [v], w, 0)) pt_174 rfl rfl,
  fun d l0 l1 l2 s0 w Q => r_iconst pt_174 rfl (by decide),
  fun d l1 l2 s0 s1 a w Q => px_go (q := (.aload_n 0, 1, px_x0)) (S' := (53, [some (.ref a), l1, l2], [.ref a, s0, s1], w, 0)) pt_174 rfl rfl,
  fun d l0 l1 l2 s1 s2 a w Q => px_goO (q := (.getfield 133, 3, (10, 8, [(11, 0)], 0, "AllSwornModel"))) (S' := fun v => (56, [l0, l1, l2], [v, s1, s2], w, 0)) pt_174 rfl rfl,
  fun d l0 l1 l2 s2 x y w Q => px_go (q := (.imul, 1, px_x0)) (S' := (57, [l0, l1, l2], [.int (x * y), s2], w, 0)) pt_174 rfl rfl,
  fun d l1 l2 s0 s1 a w Q => px_go (q := (.aload_n 0, 1, px_x0)) (S' := (58, [some (.ref a), l1, l2], [.ref a, s0, s1], w, 0)) pt_174 rfl rfl,
  fun d l0 l1 l2 s0 s1 s2 w Q => r_iconst pt_174 rfl (by decide),
  fun d l0 l1 l2 s2 s3 v0 b w Q => r_callV (q := (.invokevirtual 69, 3, (33, 1, [(11, 149)], 0, ""))) pt_174 rfl rfl (List.forall_mem_cons.mpr ⟨⟨_, pt_149, Nat.le_of_ble_eq_true rfl, (Nat.le_of_ble_eq_true rfl), rfl⟩, fun _ h => absurd h List.not_mem_nil⟩),
  fun d l0 l1 l2 x i a w Q => px_goO (q := (.iastore, 1, px_x0)) (S' := fun w' => (63, [l0, l1, l2], [], w', 0)) pt_174 rfl rfl,
  fun d l1 l2 a w Q => px_go (q := (.aload_n 0, 1, px_x0)) (S' := (64, [some (.ref a), l1, l2], [.ref a], w, 0)) pt_174 rfl rfl,
  fun d l0 l1 l2 a w Q => px_goO (q := (.getfield 26, 3, (10, 7, [(11, 0)], 0, "AllSwornModel"))) (S' := fun v => (67, [l0, l1, l2], [v], w, 0)) pt_174 rfl rfl,
  fun d l0 l1 l2 s0 w Q => r_iconst pt_174 rfl (by decide),
  fun d l1 l2 s0 s1 a w Q => px_go (q := (.aload_n 0, 1, px_x0)) (S' := (69, [some (.ref a), l1, l2], [.ref a, s0, s1], w, 0)) pt_174 rfl rfl,
  fun d l0 l1 l2 s1 s2 a w Q => px_goO (q := (.getfield 133, 3, (10, 8, [(11, 0)], 0, "AllSwornModel"))) (S' := fun v => (72, [l0, l1, l2], [v, s1, s2], w, 0)) pt_174 rfl rfl,
  fun d l0 l1 l2 s2 x y w Q => px_go (q := (.imul, 1, px_x0)) (S' := (73, [l0, l1, l2], [.int (x * y), s2], w, 0)) pt_174 rfl rfl,
  fun d l0 l1 l2 s0 s1 w Q => r_iconst pt_174 rfl (by decide),
  fun d l0 l1 l2 s2 x y w Q => px_go (q := (.iadd, 1, px_x0)) (S' := (75, [l0, l1, l2], [.int (x + y), s2], w, 0)) pt_174 rfl rfl,
  fun d l1 l2 s0 s1 a w Q => px_go (q := (.aload_n 0, 1, px_x0)) (S' := (76, [some (.ref a), l1, l2], [.ref a, s0, s1], w, 0)) pt_174 rfl rfl,
  fun d l0 l1 l2 s0 s1 s2 w Q => r_iconst pt_174 rfl (by decide),
  fun d l0 l1 l2 s2 s3 v0 b w Q => r_callV (q := (.invokevirtual 69, 3, (33, 1, [(11, 149)], 0, ""))) pt_174 rfl rfl (List.forall_mem_cons.mpr ⟨⟨_, pt_149, Nat.le_of_ble_eq_true rfl, (Nat.le_of_ble_eq_true rfl), rfl⟩, fun _ h => absurd h List.not_mem_nil⟩),
  fun d l0 l1 l2 x i a w Q => px_goO (q := (.iastore, 1, px_x0)) (S' := fun w' => (81, [l0, l1, l2], [], w', 0)) pt_174 rfl rfl,
  fun d l1 l2 a w Q => px_go (q := (.aload_n 0, 1, px_x0)) (S' := (82, [some (.ref a), l1, l2], [.ref a], w, 0)) pt_174 rfl rfl,
  fun d l0 l1 l2 a w Q => px_goO (q := (.getfield 26, 3, (10, 7, [(11, 0)], 0, "AllSwornModel"))) (S' := fun v => (85, [l0, l1, l2], [v], w, 0)) pt_174 rfl rfl,
  fun d l0 l1 l2 s0 w Q => r_iconst pt_174 rfl (by decide),
  fun d l1 l2 s0 s1 a w Q => px_go (q := (.aload_n 0, 1, px_x0)) (S' := (87, [some (.ref a), l1, l2], [.ref a, s0, s1], w, 0)) pt_174 rfl rfl,
  fun d l0 l1 l2 s1 s2 a w Q => px_goO (q := (.getfield 133, 3, (10, 8, [(11, 0)], 0, "AllSwornModel"))) (S' := fun v => (90, [l0, l1, l2], [v, s1, s2], w, 0)) pt_174 rfl rfl,
  fun d l0 l1 l2 s2 x y w Q => px_go (q := (.imul, 1, px_x0)) (S' := (91, [l0, l1, l2], [.int (x * y), s2], w, 0)) pt_174 rfl rfl,
  fun d l0 l1 l2 s0 s1 w Q => r_iconst pt_174 rfl (by decide),
  fun d l0 l1 l2 s2 x y w Q => px_go (q := (.iadd, 1, px_x0)) (S' := (93, [l0, l1, l2], [.int (x + y), s2], w, 0)) pt_174 rfl rfl,
  fun d l0 l2 s0 s1 x w Q => px_go (q := (.iload_n 1, 1, px_x0)) (S' := (94, [l0, some (.int x), l2], [.int x, s0, s1], w, 0)) pt_174 rfl rfl,
  fun d l0 l1 l2 x i a w Q => px_goO (q := (.iastore, 1, px_x0)) (S' := fun w' => (95, [l0, l1, l2], [], w', 0)) pt_174 rfl rfl,
  fun d l1 l2 a w Q => px_go (q := (.aload_n 0, 1, px_x0)) (S' := (96, [some (.ref a), l1, l2], [.ref a], w, 0)) pt_174 rfl rfl,
  fun d l0 l1 l2 a w Q => px_goO (q := (.getfield 26, 3, (10, 7, [(11, 0)], 0, "AllSwornModel"))) (S' := fun v => (99, [l0, l1, l2], [v], w, 0)) pt_174 rfl rfl,
  fun d l0 l1 l2 s0 w Q => r_iconst pt_174 rfl (by decide),
  fun d l1 l2 s0 s1 a w Q => px_go (q := (.aload_n 0, 1, px_x0)) (S' := (101, [some (.ref a), l1, l2], [.ref a, s0, s1], w, 0)) pt_174 rfl rfl,
  fun d l0 l1 l2 s1 s2 a w Q => px_goO (q := (.getfield 133, 3, (10, 8, [(11, 0)], 0, "AllSwornModel"))) (S' := fun v => (104, [l0, l1, l2], [v, s1, s2], w, 0)) pt_174 rfl rfl,
  fun d l0 l1 l2 s2 x y w Q => px_go (q := (.imul, 1, px_x0)) (S' := (105, [l0, l1, l2], [.int (x * y), s2], w, 0)) pt_174 rfl rfl,
  fun d l0 l1 l2 s0 s1 w Q => r_iconst pt_174 rfl (by decide),
  fun d l0 l1 l2 s2 x y w Q => px_go (q := (.iadd, 1, px_x0)) (S' := (107, [l0, l1, l2], [.int (x + y), s2], w, 0)) pt_174 rfl rfl,
  fun d l0 l2 s0 s1 x w Q => px_go (q := (.iload_n 1, 1, px_x0)) (S' := (108, [l0, some (.int x), l2], [.int x, s0, s1], w, 0)) pt_174 rfl rfl,
  fun d l0 l1 l2 s0 s1 s2 w Q => px_go (q := (.ldc 119, 2, (0, 0, [], (-1000000), ""))) (S' := (110, [l0, l1, l2], [.int (-1000000), s0, s1, s2], w, 0)) pt_174 rfl rfl,
  fun d l0 l1 l2 s2 s3 x y w Q => r_icmp_ne pt_174 rfl rfl,
  fun d l0 l1 l2 s0 s1 w Q => r_iconst pt_174 rfl (by decide),
  fun d l0 l1 l2 s0 s1 s2 w Q => r_goto pt_174 rfl rfl,
  fun d l1 l2 s0 s1 a w Q => px_go (q := (.aload_n 0, 1, px_x0)) (S' := (118, [some (.ref a), l1, l2], [.ref a, s0, s1], w, 0)) pt_174 rfl rfl,
  fun d l0 l2 s0 s1 s2 x w Q => px_go (q := (.iload_n 1, 1, px_x0)) (S' := (119, [l0, some (.int x), l2], [.int x, s0, s1, s2], w, 0)) pt_174 rfl rfl,
  fun d l0 l1 l2 s0 s1 s2 s3 w Q => r_iconst pt_174 rfl (by decide),
  fun d l0 l1 l2 s3 s4 v0 v1 b w Q => r_callV (q := (.invokevirtual 136, 3, (33, 2, [(11, 154)], 0, ""))) pt_174 rfl rfl (List.forall_mem_cons.mpr ⟨⟨_, pt_154, Nat.le_of_ble_eq_true rfl, (Nat.le_of_ble_eq_true rfl), rfl⟩, fun _ h => absurd h List.not_mem_nil⟩),
  fun d l0 l1 l2 x i a w Q => px_goO (q := (.iastore, 1, px_x0)) (S' := fun w' => (124, [l0, l1, l2], [], w', 0)) pt_174 rfl rfl,
  fun d l1 l2 a w Q => px_go (q := (.aload_n 0, 1, px_x0)) (S' := (125, [some (.ref a), l1, l2], [.ref a], w, 0)) pt_174 rfl rfl,
  fun d l0 l1 l2 s0 w Q => px_go (q := (.dup, 1, px_x0)) (S' := (126, [l0, l1, l2], [s0, s0], w, 0)) pt_174 rfl rfl,
  fun d l0 l1 l2 s1 a w Q => px_goO (q := (.getfield 133, 3, (10, 8, [(11, 0)], 0, "AllSwornModel"))) (S' := fun v => (129, [l0, l1, l2], [v, s1], w, 0)) pt_174 rfl rfl,
  fun d l0 l1 l2 s0 s1 w Q => r_iconst pt_174 rfl (by decide),
  fun d l0 l1 l2 s2 x y w Q => px_go (q := (.iadd, 1, px_x0)) (S' := (131, [l0, l1, l2], [.int (x + y), s2], w, 0)) pt_174 rfl rfl,
  fun d l0 l1 l2 x a w Q => r_put pt_174 rfl (by simp only [List.all_cons, List.all_nil, ft_11_8, px_fit, px_isr, Bool.and_self]),
  fun d l0 l1 l2 w Q => px_ret (q := (.return_, 1, px_x0)) pt_174 rfl rfl⟩
theorem H174_11 : ∀ (d : Nat) (l0 l1 : Option Value) (x : Int32) (w : px_H) (Q : Option Value → px_H → Prop), wp d 174 11 [l0, l1, some (.int x)] [] w 0 Q ↔ wp d 174 12 [l0, l1, some (.int x)] [.int x] w 0 Q := fun d l0 l1 x w Q => px_go (q := (.iload_n 2, 1, px_x0)) (S' := (12, [l0, l1, some (.int x)], [.int x], w, 0)) pt_174 rfl rfl
/-- AllSwornModel.hasRealm()Z -/
theorem S175 : (∀ (d : Nat) (v0 : Value) (w : px_H) (Q : Option Value → px_H → Prop), wc d 175 [v0] w Q ↔ wp d 175 0 [some v0] [] w 0 Q) ∧
  (∀ (d : Nat) (a : Nat) (w : px_H) (Q : Option Value → px_H → Prop), wp d 175 0 [some (.ref a)] [] w 0 Q ↔ wp d 175 1 [some (.ref a)] [.ref a] w 0 Q) ∧
  (∀ (d : Nat) (l0 : Option Value) (s0 : Value)  (w : px_H) (Q : Option Value → px_H → Prop), wp d 175 1 [l0] [s0] w 0 Q ↔ wp d 175 2 [l0] [.int 0, s0] w 0 Q) ∧
  (∀ (d : Nat) (l0 : Option Value) (v0 : Value) (b : Nat) (w : px_H) (Q : Option Value → px_H → Prop), wp (d + 1) 175 2 [l0] [v0, .ref b] w 0 Q ↔ px_op (px_tgt w b [(11, 149)]) (fun v => wc d v [.ref b, v0] w (fun r w' => wp (d + 1) 175 5 [l0] (r.toList ++ []) w' 0 Q))) ∧
  (∀ (d : Nat) (l0 : Option Value) (x : Int32) (w : px_H) (Q : Option Value → px_H → Prop), wp d 175 5 [l0] [.int x] w 0 Q ↔ if x ≤ 0 then wp d 175 12 [l0] [] w 0 Q else wp d 175 8 [l0] [] w 0 Q) ∧
  (∀ (d : Nat) (l0 : Option Value)  (w : px_H) (Q : Option Value → px_H → Prop), wp d 175 8 [l0] [] w 0 Q ↔ wp d 175 9 [l0] [.int 1] w 0 Q) ∧
  (∀ (d : Nat) (l0 : Option Value) (s0 : Value)  (w : px_H) (Q : Option Value → px_H → Prop), wp d 175 9 [l0] [s0] w 0 Q ↔ wp d 175 13 [l0] [s0] w 0 Q) ∧
  (∀ (d : Nat) (l0 : Option Value)  (w : px_H) (Q : Option Value → px_H → Prop), wp d 175 12 [l0] [] w 0 Q ↔ wp d 175 13 [l0] [.int 0] w 0 Q) ∧
  (∀ (d : Nat) (l0 : Option Value) (x : Int32) (w : px_H) (Q : Option Value → px_H → Prop), wp d 175 13 [l0] [.int x] w 0 Q ↔ (x = 0 ∨ x = 1) ∧ Q (some (.int x)) w) := ⟨fun d v0 w Q => r_entry pt_175 (Nat.le_of_ble_eq_true rfl) rfl,
  fun d a w Q => px_go (q := (.aload_n 0, 1, px_x0)) (S' := (1, [some (.ref a)], [.ref a], w, 0)) pt_175 rfl rfl,
  fun d l0 s0 w Q => r_iconst pt_175 rfl (by decide),
  fun d l0 v0 b w Q => r_callV (q := (.invokevirtual 69, 3, (33, 1, [(11, 149)], 0, ""))) pt_175 rfl rfl (List.forall_mem_cons.mpr ⟨⟨_, pt_149, Nat.le_of_ble_eq_true rfl, (Nat.le_of_ble_eq_true rfl), rfl⟩, fun _ h => absurd h List.not_mem_nil⟩),
  fun d l0 x w Q => r_if_le pt_175 rfl rfl,
  fun d l0 w Q => r_iconst pt_175 rfl (by decide),
  fun d l0 s0 w Q => r_goto pt_175 rfl rfl,
  fun d l0 w Q => r_iconst pt_175 rfl (by decide),
  fun d l0 x w Q => px_retI (q := (.ireturn, 1, px_x0)) pt_175 rfl rfl⟩
/-- AllSwornModel.askFor(I)I -/
theorem S176 : (∀ (d : Nat) (v0 v1 : Value) (w : px_H) (Q : Option Value → px_H → Prop), wc d 176 [v0, v1] w Q ↔ wp d 176 0 [some v0, some v1, none] [] w 0 Q) ∧
  (∀ (d : Nat) (l1 l2 : Option Value) (a : Nat) (w : px_H) (Q : Option Value → px_H → Prop), wp d 176 0 [some (.ref a), l1, l2] [] w 0 Q ↔ wp d 176 1 [some (.ref a), l1, l2] [.ref a] w 0 Q) ∧
  (∀ (d : Nat) (l0 l2 : Option Value) (s0 : Value) (x : Int32) (w : px_H) (Q : Option Value → px_H → Prop), wp d 176 1 [l0, some (.int x), l2] [s0] w 0 Q ↔ wp d 176 2 [l0, some (.int x), l2] [.int x, s0] w 0 Q) ∧
  (∀ (d : Nat) (l0 l1 l2 : Option Value) (v0 : Value) (b : Nat) (w : px_H) (Q : Option Value → px_H → Prop), wp (d + 1) 176 2 [l0, l1, l2] [v0, .ref b] w 0 Q ↔ px_op (px_tgt w b [(11, 152)]) (fun v => wc d v [.ref b, v0] w (fun r w' => wp (d + 1) 176 5 [l0, l1, l2] (r.toList ++ []) w' 0 Q))) ∧
  (∀ (d : Nat) (l0 l1 l2 : Option Value) (x : Int32) (w : px_H) (Q : Option Value → px_H → Prop), wp d 176 5 [l0, l1, l2] [.int x] w 0 Q ↔ if x = 0 then wp d 176 8 [l0, l1, l2] [] w 0 Q else wp d 176 11 [l0, l1, l2] [] w 0 Q) ∧
  (∀ (d : Nat) (l0 l1 l2 : Option Value)  (w : px_H) (Q : Option Value → px_H → Prop), wp d 176 8 [l0, l1, l2] [] w 0 Q ↔ wp d 176 10 [l0, l1, l2] [.int (-1000001)] w 0 Q) ∧
  (∀ (d : Nat) (l0 l1 l2 : Option Value) (x : Int32) (w : px_H) (Q : Option Value → px_H → Prop), wp d 176 10 [l0, l1, l2] [.int x] w 0 Q ↔ Q (some (.int x)) w) ∧
  (∀ (d : Nat) (l1 l2 : Option Value) (a : Nat) (w : px_H) (Q : Option Value → px_H → Prop), wp d 176 11 [some (.ref a), l1, l2] [] w 0 Q ↔ wp d 176 12 [some (.ref a), l1, l2] [.ref a] w 0 Q) ∧
  (∀ (d : Nat) (l0 l1 l2 : Option Value) (s0 : Value)  (w : px_H) (Q : Option Value → px_H → Prop), wp d 176 12 [l0, l1, l2] [s0] w 0 Q ↔ wp d 176 13 [l0, l1, l2] [.int 3, s0] w 0 Q) ∧
  (∀ (d : Nat) (l0 l1 l2 : Option Value) (v0 : Value) (b : Nat) (w : px_H) (Q : Option Value → px_H → Prop), wp (d + 1) 176 13 [l0, l1, l2] [v0, .ref b] w 0 Q ↔ px_op (px_tgt w b [(11, 149)]) (fun v => wc d v [.ref b, v0] w (fun r w' => wp (d + 1) 176 16 [l0, l1, l2] (r.toList ++ []) w' 0 Q))) ∧
  (∀ (d : Nat) (l1 l2 : Option Value) (s0 : Value) (a : Nat) (w : px_H) (Q : Option Value → px_H → Prop), wp d 176 16 [some (.ref a), l1, l2] [s0] w 0 Q ↔ wp d 176 17 [some (.ref a), l1, l2] [.ref a, s0] w 0 Q) ∧
  (∀ (d : Nat) (l0 l2 : Option Value) (s0 s1 : Value) (x : Int32) (w : px_H) (Q : Option Value → px_H → Prop), wp d 176 17 [l0, some (.int x), l2] [s0, s1] w 0 Q ↔ wp d 176 18 [l0, some (.int x), l2] [.int x, s0, s1] w 0 Q) ∧
  (∀ (d : Nat) (l0 l1 l2 : Option Value) (s2 : Value) (v0 : Value) (b : Nat) (w : px_H) (Q : Option Value → px_H → Prop), wp (d + 1) 176 18 [l0, l1, l2] [v0, .ref b, s2] w 0 Q ↔ px_op (px_tgt w b [(11, 172)]) (fun v => wc d v [.ref b, v0] w (fun r w' => wp (d + 1) 176 21 [l0, l1, l2] (r.toList ++ [s2]) w' 0 Q))) ∧
  (∀ (d : Nat) (l0 l1 l2 : Option Value) (x y : Int32) (w : px_H) (Q : Option Value → px_H → Prop), wp d 176 21 [l0, l1, l2] [.int y, .int x] w 0 Q ↔ wp d 176 22 [l0, l1, l2] [.int (x + y)] w 0 Q) ∧
  (∀ (d : Nat) (l0 l1 l2 : Option Value) (x : Int32) (w : px_H) (Q : Option Value → px_H → Prop), wp d 176 22 [l0, l1, l2] [.int x] w 0 Q ↔ wp d 176 23 [l0, l1, some (.int x)] [] w 0 Q) ∧
  (∀ (d : Nat) (l0 l1 : Option Value) (x : Int32) (w : px_H) (Q : Option Value → px_H → Prop), wp d 176 23 [l0, l1, some (.int x)] [] w 0 Q ↔ wp d 176 24 [l0, l1, some (.int x)] [.int x] w 0 Q) ∧
  (∀ (d : Nat) (l0 l1 l2 : Option Value) (s0 : Value)  (w : px_H) (Q : Option Value → px_H → Prop), wp d 176 24 [l0, l1, l2] [s0] w 0 Q ↔ wp d 176 27 [l0, l1, l2] [.int 999, s0] w 0 Q) ∧
  (∀ (d : Nat) (l0 l1 l2 : Option Value) (x y : Int32) (w : px_H) (Q : Option Value → px_H → Prop), wp d 176 27 [l0, l1, l2] [.int y, .int x] w 0 Q ↔ if x ≤ y then wp d 176 33 [l0, l1, l2] [] w 0 Q else wp d 176 30 [l0, l1, l2] [] w 0 Q) ∧
  (∀ (d : Nat) (l0 l1 l2 : Option Value)  (w : px_H) (Q : Option Value → px_H → Prop), wp d 176 30 [l0, l1, l2] [] w 0 Q ↔ wp d 176 32 [l0, l1, l2] [.int (-1000003)] w 0 Q) ∧
  (∀ (d : Nat) (l0 l1 l2 : Option Value) (x : Int32) (w : px_H) (Q : Option Value → px_H → Prop), wp d 176 32 [l0, l1, l2] [.int x] w 0 Q ↔ Q (some (.int x)) w) ∧
  (∀ (d : Nat) (l1 l2 : Option Value) (a : Nat) (w : px_H) (Q : Option Value → px_H → Prop), wp d 176 33 [some (.ref a), l1, l2] [] w 0 Q ↔ wp d 176 34 [some (.ref a), l1, l2] [.ref a] w 0 Q) ∧
  (∀ (d : Nat) (l0 l2 : Option Value) (s0 : Value) (x : Int32) (w : px_H) (Q : Option Value → px_H → Prop), wp d 176 34 [l0, some (.int x), l2] [s0] w 0 Q ↔ wp d 176 35 [l0, some (.int x), l2] [.int x, s0] w 0 Q) ∧
  (∀ (d : Nat) (l0 l1 l2 : Option Value) (v0 : Value) (b : Nat) (w : px_H) (Q : Option Value → px_H → Prop), wp (d + 1) 176 35 [l0, l1, l2] [v0, .ref b] w 0 Q ↔ px_op (px_tgt w b [(11, 174)]) (fun v => wc d v [.ref b, v0] w (fun r w' => wp (d + 1) 176 38 [l0, l1, l2] (r.toList ++ []) w' 0 Q))) ∧
  (∀ (d : Nat) (l1 l2 : Option Value) (a : Nat) (w : px_H) (Q : Option Value → px_H → Prop), wp d 176 38 [some (.ref a), l1, l2] [] w 0 Q ↔ wp d 176 39 [some (.ref a), l1, l2] [.ref a] w 0 Q) ∧
  (∀ (d : Nat) (l0 l1 l2 : Option Value) (s0 : Value)  (w : px_H) (Q : Option Value → px_H → Prop), wp d 176 39 [l0, l1, l2] [s0] w 0 Q ↔ wp d 176 40 [l0, l1, l2] [.int 3, s0] w 0 Q) ∧
  (∀ (d : Nat) (l0 l1 : Option Value) (s0 s1 : Value) (x : Int32) (w : px_H) (Q : Option Value → px_H → Prop), wp d 176 40 [l0, l1, some (.int x)] [s0, s1] w 0 Q ↔ wp d 176 41 [l0, l1, some (.int x)] [.int x, s0, s1] w 0 Q) ∧
  (∀ (d : Nat) (l0 l1 l2 : Option Value) (v0 v1 : Value) (b : Nat) (w : px_H) (Q : Option Value → px_H → Prop), wp (d + 1) 176 41 [l0, l1, l2] [v1, v0, .ref b] w 0 Q ↔ px_op (px_tgt w b [(11, 150)]) (fun v => wc d v [.ref b, v0, v1] w (fun r w' => wp (d + 1) 176 44 [l0, l1, l2] (r.toList ++ []) w' 0 Q))) ∧
  (∀ (d : Nat) (l1 l2 : Option Value) (a : Nat) (w : px_H) (Q : Option Value → px_H → Prop), wp d 176 44 [some (.ref a), l1, l2] [] w 0 Q ↔ wp d 176 45 [some (.ref a), l1, l2] [.ref a] w 0 Q) ∧
  (∀ (d : Nat) (l0 l2 : Option Value) (s0 : Value) (x : Int32) (w : px_H) (Q : Option Value → px_H → Prop), wp d 176 45 [l0, some (.int x), l2] [s0] w 0 Q ↔ wp d 176 46 [l0, some (.int x), l2] [.int x, s0] w 0 Q) ∧
  (∀ (d : Nat) (l0 l1 : Option Value) (s0 s1 : Value) (x : Int32) (w : px_H) (Q : Option Value → px_H → Prop), wp d 176 46 [l0, l1, some (.int x)] [s0, s1] w 0 Q ↔ wp d 176 47 [l0, l1, some (.int x)] [.int x, s0, s1] w 0 Q) ∧
  (∀ (d : Nat) (l0 l1 l2 : Option Value) (v0 v1 : Value) (b : Nat) (w : px_H) (Q : Option Value → px_H → Prop), wp (d + 1) 176 47 [l0, l1, l2] [v1, v0, .ref b] w 0 Q ↔ px_op (px_tgt w b [(11, 173)]) (fun v => wc d v [.ref b, v0, v1] w (fun r w' => wp (d + 1) 176 50 [l0, l1, l2] (r.toList ++ []) w' 0 Q))) ∧
  (∀ (d : Nat) (l0 l1 l2 : Option Value) (x : Int32) (w : px_H) (Q : Option Value → px_H → Prop), wp d 176 50 [l0, l1, l2] [.int x] w 0 Q ↔ if x = 0 then wp d 176 65 [l0, l1, l2] [] w 0 Q else wp d 176 53 [l0, l1, l2] [] w 0 Q) ∧
  (∀ (d : Nat) (l1 l2 : Option Value) (a : Nat) (w : px_H) (Q : Option Value → px_H → Prop), wp d 176 53 [some (.ref a), l1, l2] [] w 0 Q ↔ wp d 176 54 [some (.ref a), l1, l2] [.ref a] w 0 Q) ∧
  (∀ (d : Nat) (l0 l1 l2 : Option Value) (s0 : Value)  (w : px_H) (Q : Option Value → px_H → Prop), wp d 176 54 [l0, l1, l2] [s0] w 0 Q ↔ wp d 176 55 [l0, l1, l2] [.int 5, s0] w 0 Q) ∧
  (∀ (d : Nat) (l0 l1 l2 : Option Value) (s0 s1 : Value)  (w : px_H) (Q : Option Value → px_H → Prop), wp d 176 55 [l0, l1, l2] [s0, s1] w 0 Q ↔ wp d 176 56 [l0, l1, l2] [.int 4, s0, s1] w 0 Q) ∧
  (∀ (d : Nat) (l0 l2 : Option Value) (s0 s1 s2 : Value) (x : Int32) (w : px_H) (Q : Option Value → px_H → Prop), wp d 176 56 [l0, some (.int x), l2] [s0, s1, s2] w 0 Q ↔ wp d 176 57 [l0, some (.int x), l2] [.int x, s0, s1, s2] w 0 Q) ∧
  (∀ (d : Nat) (l0 l1 l2 : Option Value) (s2 s3 : Value) (x y : Int32) (w : px_H) (Q : Option Value → px_H → Prop), wp d 176 57 [l0, l1, l2] [.int y, .int x, s2, s3] w 0 Q ↔ wp d 176 58 [l0, l1, l2] [.int (x * y), s2, s3] w 0 Q) ∧
  (∀ (d : Nat) (l0 l1 l2 : Option Value) (s2 : Value) (x y : Int32) (w : px_H) (Q : Option Value → px_H → Prop), wp d 176 58 [l0, l1, l2] [.int y, .int x, s2] w 0 Q ↔ wp d 176 59 [l0, l1, l2] [.int (x + y), s2] w 0 Q) ∧
  (∀ (d : Nat) (l0 l1 l2 : Option Value) (s0 s1 : Value)  (w : px_H) (Q : Option Value → px_H → Prop), wp d 176 59 [l0, l1, l2] [s0, s1] w 0 Q ↔ wp d 176 60 [l0, l1, l2] [.int 3, s0, s1] w 0 Q) ∧
  (∀ (d : Nat) (l0 l1 l2 : Option Value) (s2 : Value) (x y : Int32) (w : px_H) (Q : Option Value → px_H → Prop), wp d 176 60 [l0, l1, l2] [.int y, .int x, s2] w 0 Q ↔ wp d 176 61 [l0, l1, l2] [.int (x + y), s2] w 0 Q) ∧
  (∀ (d : Nat) (l0 l1 : Option Value) (s0 s1 : Value) (x : Int32) (w : px_H) (Q : Option Value → px_H → Prop), wp d 176 61 [l0, l1, some (.int x)] [s0, s1] w 0 Q ↔ wp d 176 62 [l0, l1, some (.int x)] [.int x, s0, s1] w 0 Q) ∧
  (∀ (d : Nat) (l0 l1 l2 : Option Value) (v0 v1 : Value) (b : Nat) (w : px_H) (Q : Option Value → px_H → Prop), wp (d + 1) 176 62 [l0, l1, l2] [v1, v0, .ref b] w 0 Q ↔ px_op (px_tgt w b [(11, 150)]) (fun v => wc d v [.ref b, v0, v1] w (fun r w' => wp (d + 1) 176 65 [l0, l1, l2] (r.toList ++ []) w' 0 Q))) ∧
  (∀ (d : Nat) (l0 l1 : Option Value) (x : Int32) (w : px_H) (Q : Option Value → px_H → Prop), wp d 176 65 [l0, l1, some (.int x)] [] w 0 Q ↔ wp d 176 66 [l0, l1, some (.int x)] [.int x] w 0 Q) ∧
  (∀ (d : Nat) (l0 l1 l2 : Option Value) (x : Int32) (w : px_H) (Q : Option Value → px_H → Prop), wp d 176 66 [l0, l1, l2] [.int x] w 0 Q ↔ Q (some (.int x)) w) := ⟨fun d v0 v1 w Q => r_entry pt_176 (Nat.le_of_ble_eq_true rfl) rfl,
  fun d l1 l2 a w Q => px_go (q := (.aload_n 0, 1, px_x0)) (S' := (1, [some (.ref a), l1, l2], [.ref a], w, 0)) pt_176 rfl rfl,
  fun d l0 l2 s0 x w Q => px_go (q := (.iload_n 1, 1, px_x0)) (S' := (2, [l0, some (.int x), l2], [.int x, s0], w, 0)) pt_176 rfl rfl,
  fun d l0 l1 l2 v0 b w Q => r_callV (q := (.invokevirtual 152, 3, (33, 1, [(11, 152)], 0, ""))) pt_176 rfl rfl (List.forall_mem_cons.mpr ⟨⟨_, pt_152, Nat.le_of_ble_eq_true rfl, (Nat.le_of_ble_eq_true rfl), rfl⟩, fun _ h => absurd h List.not_mem_nil⟩),
  fun d l0 l1 l2 x w Q => r_if_ne pt_176 rfl rfl,
  fun d l0 l1 l2 w Q => px_go (q := (.ldc 58, 2, (0, 0, [], (-1000001), ""))) (S' := (10, [l0, l1, l2], [.int (-1000001)], w, 0)) pt_176 rfl rfl,
  fun d l0 l1 l2 x w Q => px_ret (q := (.ireturn, 1, px_x0)) pt_176 rfl rfl,
  fun d l1 l2 a w Q => px_go (q := (.aload_n 0, 1, px_x0)) (S' := (12, [some (.ref a), l1, l2], [.ref a], w, 0)) pt_176 rfl rfl,
  fun d l0 l1 l2 s0 w Q => r_iconst pt_176 rfl (by decide),
  fun d l0 l1 l2 v0 b w Q => r_callV (q := (.invokevirtual 69, 3, (33, 1, [(11, 149)], 0, ""))) pt_176 rfl rfl (List.forall_mem_cons.mpr ⟨⟨_, pt_149, Nat.le_of_ble_eq_true rfl, (Nat.le_of_ble_eq_true rfl), rfl⟩, fun _ h => absurd h List.not_mem_nil⟩),
  fun d l1 l2 s0 a w Q => px_go (q := (.aload_n 0, 1, px_x0)) (S' := (17, [some (.ref a), l1, l2], [.ref a, s0], w, 0)) pt_176 rfl rfl,
  fun d l0 l2 s0 s1 x w Q => px_go (q := (.iload_n 1, 1, px_x0)) (S' := (18, [l0, some (.int x), l2], [.int x, s0, s1], w, 0)) pt_176 rfl rfl,
  fun d l0 l1 l2 s2 v0 b w Q => r_callV (q := (.invokevirtual 155, 3, (33, 1, [(11, 172)], 0, ""))) pt_176 rfl rfl (List.forall_mem_cons.mpr ⟨⟨_, pt_172, Nat.le_of_ble_eq_true rfl, (Nat.le_of_ble_eq_true rfl), rfl⟩, fun _ h => absurd h List.not_mem_nil⟩),
  fun d l0 l1 l2 x y w Q => px_go (q := (.iadd, 1, px_x0)) (S' := (22, [l0, l1, l2], [.int (x + y)], w, 0)) pt_176 rfl rfl,
  fun d l0 l1 l2 x w Q => px_go (q := (.istore_n 2, 1, px_x0)) (S' := (23, [l0, l1, some (.int x)], [], w, 0)) pt_176 rfl rfl,
  fun d l0 l1 x w Q => px_go (q := (.iload_n 2, 1, px_x0)) (S' := (24, [l0, l1, some (.int x)], [.int x], w, 0)) pt_176 rfl rfl,
  fun d l0 l1 l2 s0 w Q => r_sipush pt_176 rfl (by decide),
  fun d l0 l1 l2 x y w Q => r_icmp_le pt_176 rfl rfl,
  fun d l0 l1 l2 w Q => px_go (q := (.ldc 72, 2, (0, 0, [], (-1000003), ""))) (S' := (32, [l0, l1, l2], [.int (-1000003)], w, 0)) pt_176 rfl rfl,
  fun d l0 l1 l2 x w Q => px_ret (q := (.ireturn, 1, px_x0)) pt_176 rfl rfl,
  fun d l1 l2 a w Q => px_go (q := (.aload_n 0, 1, px_x0)) (S' := (34, [some (.ref a), l1, l2], [.ref a], w, 0)) pt_176 rfl rfl,
  fun d l0 l2 s0 x w Q => px_go (q := (.iload_n 1, 1, px_x0)) (S' := (35, [l0, some (.int x), l2], [.int x, s0], w, 0)) pt_176 rfl rfl,
  fun d l0 l1 l2 v0 b w Q => r_callV (q := (.invokevirtual 158, 3, (33, 1, [(11, 174)], 0, ""))) pt_176 rfl rfl (List.forall_mem_cons.mpr ⟨⟨_, pt_174, Nat.le_of_ble_eq_true rfl, (Nat.le_of_ble_eq_true rfl), rfl⟩, fun _ h => absurd h List.not_mem_nil⟩),
  fun d l1 l2 a w Q => px_go (q := (.aload_n 0, 1, px_x0)) (S' := (39, [some (.ref a), l1, l2], [.ref a], w, 0)) pt_176 rfl rfl,
  fun d l0 l1 l2 s0 w Q => r_iconst pt_176 rfl (by decide),
  fun d l0 l1 s0 s1 x w Q => px_go (q := (.iload_n 2, 1, px_x0)) (S' := (41, [l0, l1, some (.int x)], [.int x, s0, s1], w, 0)) pt_176 rfl rfl,
  fun d l0 l1 l2 v0 v1 b w Q => r_callV (q := (.invokevirtual 115, 3, (33, 2, [(11, 150)], 0, ""))) pt_176 rfl rfl (List.forall_mem_cons.mpr ⟨⟨_, pt_150, Nat.le_of_ble_eq_true rfl, (Nat.le_of_ble_eq_true rfl), rfl⟩, fun _ h => absurd h List.not_mem_nil⟩),
  fun d l1 l2 a w Q => px_go (q := (.aload_n 0, 1, px_x0)) (S' := (45, [some (.ref a), l1, l2], [.ref a], w, 0)) pt_176 rfl rfl,
  fun d l0 l2 s0 x w Q => px_go (q := (.iload_n 1, 1, px_x0)) (S' := (46, [l0, some (.int x), l2], [.int x, s0], w, 0)) pt_176 rfl rfl,
  fun d l0 l1 s0 s1 x w Q => px_go (q := (.iload_n 2, 1, px_x0)) (S' := (47, [l0, l1, some (.int x)], [.int x, s0, s1], w, 0)) pt_176 rfl rfl,
  fun d l0 l1 l2 v0 v1 b w Q => r_callV (q := (.invokevirtual 161, 3, (33, 2, [(11, 173)], 0, ""))) pt_176 rfl rfl (List.forall_mem_cons.mpr ⟨⟨_, pt_173, Nat.le_of_ble_eq_true rfl, (Nat.le_of_ble_eq_true rfl), rfl⟩, fun _ h => absurd h List.not_mem_nil⟩),
  fun d l0 l1 l2 x w Q => r_if_eq pt_176 rfl rfl,
  fun d l1 l2 a w Q => px_go (q := (.aload_n 0, 1, px_x0)) (S' := (54, [some (.ref a), l1, l2], [.ref a], w, 0)) pt_176 rfl rfl,
  fun d l0 l1 l2 s0 w Q => r_iconst pt_176 rfl (by decide),
  fun d l0 l1 l2 s0 s1 w Q => r_iconst pt_176 rfl (by decide),
  fun d l0 l2 s0 s1 s2 x w Q => px_go (q := (.iload_n 1, 1, px_x0)) (S' := (57, [l0, some (.int x), l2], [.int x, s0, s1, s2], w, 0)) pt_176 rfl rfl,
  fun d l0 l1 l2 s2 s3 x y w Q => px_go (q := (.imul, 1, px_x0)) (S' := (58, [l0, l1, l2], [.int (x * y), s2, s3], w, 0)) pt_176 rfl rfl,
  fun d l0 l1 l2 s2 x y w Q => px_go (q := (.iadd, 1, px_x0)) (S' := (59, [l0, l1, l2], [.int (x + y), s2], w, 0)) pt_176 rfl rfl,
  fun d l0 l1 l2 s0 s1 w Q => r_iconst pt_176 rfl (by decide),
  fun d l0 l1 l2 s2 x y w Q => px_go (q := (.iadd, 1, px_x0)) (S' := (61, [l0, l1, l2], [.int (x + y), s2], w, 0)) pt_176 rfl rfl,
  fun d l0 l1 s0 s1 x w Q => px_go (q := (.iload_n 2, 1, px_x0)) (S' := (62, [l0, l1, some (.int x)], [.int x, s0, s1], w, 0)) pt_176 rfl rfl,
  fun d l0 l1 l2 v0 v1 b w Q => r_callV (q := (.invokevirtual 115, 3, (33, 2, [(11, 150)], 0, ""))) pt_176 rfl rfl (List.forall_mem_cons.mpr ⟨⟨_, pt_150, Nat.le_of_ble_eq_true rfl, (Nat.le_of_ble_eq_true rfl), rfl⟩, fun _ h => absurd h List.not_mem_nil⟩),
  fun d l0 l1 x w Q => px_go (q := (.iload_n 2, 1, px_x0)) (S' := (66, [l0, l1, some (.int x)], [.int x], w, 0)) pt_176 rfl rfl,
  fun d l0 l1 l2 x w Q => px_ret (q := (.ireturn, 1, px_x0)) pt_176 rfl rfl⟩
/-- AllSwornModel.tries(I)I -/
theorem S177 : (∀ (d : Nat) (v0 v1 : Value) (w : px_H) (Q : Option Value → px_H → Prop), wc d 177 [v0, v1] w Q ↔ wp d 177 0 [some v0, some v1, none] [] w 0 Q) ∧
  (∀ (d : Nat) (l1 l2 : Option Value) (a : Nat) (w : px_H) (Q : Option Value → px_H → Prop), wp d 177 0 [some (.ref a), l1, l2] [] w 0 Q ↔ wp d 177 1 [some (.ref a), l1, l2] [.ref a] w 0 Q) ∧
  (∀ (d : Nat) (l0 l2 : Option Value) (s0 : Value) (x : Int32) (w : px_H) (Q : Option Value → px_H → Prop), wp d 177 1 [l0, some (.int x), l2] [s0] w 0 Q ↔ wp d 177 2 [l0, some (.int x), l2] [.int x, s0] w 0 Q) ∧
  (∀ (d : Nat) (l0 l1 l2 : Option Value) (v0 : Value) (b : Nat) (w : px_H) (Q : Option Value → px_H → Prop), wp (d + 1) 177 2 [l0, l1, l2] [v0, .ref b] w 0 Q ↔ px_op (px_tgt w b [(11, 153)]) (fun v => wc d v [.ref b, v0] w (fun r w' => wp (d + 1) 177 5 [l0, l1, l2] (r.toList ++ []) w' 0 Q))) ∧
  (∀ (d : Nat) (l0 l1 l2 : Option Value) (x : Int32) (w : px_H) (Q : Option Value → px_H → Prop), wp d 177 5 [l0, l1, l2] [.int x] w 0 Q ↔ if x = 0 then wp d 177 8 [l0, l1, l2] [] w 0 Q else wp d 177 11 [l0, l1, l2] [] w 0 Q) ∧
  (∀ (d : Nat) (l0 l1 l2 : Option Value)  (w : px_H) (Q : Option Value → px_H → Prop), wp d 177 8 [l0, l1, l2] [] w 0 Q ↔ wp d 177 10 [l0, l1, l2] [.int (-1000001)] w 0 Q) ∧
  (∀ (d : Nat) (l0 l1 l2 : Option Value) (x : Int32) (w : px_H) (Q : Option Value → px_H → Prop), wp d 177 10 [l0, l1, l2] [.int x] w 0 Q ↔ Q (some (.int x)) w) ∧
  (∀ (d : Nat) (l1 l2 : Option Value) (a : Nat) (w : px_H) (Q : Option Value → px_H → Prop), wp d 177 11 [some (.ref a), l1, l2] [] w 0 Q ↔ wp d 177 12 [some (.ref a), l1, l2] [.ref a] w 0 Q) ∧
  (∀ (d : Nat) (l1 l2 : Option Value) (s0 : Value) (a : Nat) (w : px_H) (Q : Option Value → px_H → Prop), wp d 177 12 [some (.ref a), l1, l2] [s0] w 0 Q ↔ wp d 177 13 [some (.ref a), l1, l2] [.ref a, s0] w 0 Q) ∧
  (∀ (d : Nat) (l0 l1 l2 : Option Value) (s0 s1 : Value)  (w : px_H) (Q : Option Value → px_H → Prop), wp d 177 13 [l0, l1, l2] [s0, s1] w 0 Q ↔ wp d 177 14 [l0, l1, l2] [.int 3, s0, s1] w 0 Q) ∧
  (∀ (d : Nat) (l0 l1 l2 : Option Value) (s2 : Value) (v0 : Value) (b : Nat) (w : px_H) (Q : Option Value → px_H → Prop), wp (d + 1) 177 14 [l0, l1, l2] [v0, .ref b, s2] w 0 Q ↔ px_op (px_tgt w b [(11, 149)]) (fun v => wc d v [.ref b, v0] w (fun r w' => wp (d + 1) 177 17 [l0, l1, l2] (r.toList ++ [s2]) w' 0 Q))) ∧
  (∀ (d : Nat) (l0 l1 l2 : Option Value) (v0 : Value) (b : Nat) (w : px_H) (Q : Option Value → px_H → Prop), wp (d + 1) 177 17 [l0, l1, l2] [v0, .ref b] w 0 Q ↔ px_op (px_tgt w b [(11, 171)]) (fun v => wc d v [.ref b, v0] w (fun r w' => wp (d + 1) 177 20 [l0, l1, l2] (r.toList ++ []) w' 0 Q))) ∧
  (∀ (d : Nat) (l0 l2 : Option Value) (s0 : Value) (x : Int32) (w : px_H) (Q : Option Value → px_H → Prop), wp d 177 20 [l0, some (.int x), l2] [s0] w 0 Q ↔ wp d 177 21 [l0, some (.int x), l2] [.int x, s0] w 0 Q) ∧
  (∀ (d : Nat) (l0 l1 l2 : Option Value) (x y : Int32) (w : px_H) (Q : Option Value → px_H → Prop), wp d 177 21 [l0, l1, l2] [.int y, .int x] w 0 Q ↔ wp d 177 22 [l0, l1, l2] [.int (x >>> (y &&& 31))] w 0 Q) ∧
  (∀ (d : Nat) (l0 l1 l2 : Option Value) (s0 : Value)  (w : px_H) (Q : Option Value → px_H → Prop), wp d 177 22 [l0, l1, l2] [s0] w 0 Q ↔ wp d 177 23 [l0, l1, l2] [.int 1, s0] w 0 Q) ∧
  (∀ (d : Nat) (l0 l1 l2 : Option Value) (x y : Int32) (w : px_H) (Q : Option Value → px_H → Prop), wp d 177 23 [l0, l1, l2] [.int y, .int x] w 0 Q ↔ wp d 177 24 [l0, l1, l2] [.int (x &&& y)] w 0 Q) ∧
  (∀ (d : Nat) (l0 l1 l2 : Option Value) (x : Int32) (w : px_H) (Q : Option Value → px_H → Prop), wp d 177 24 [l0, l1, l2] [.int x] w 0 Q ↔ wp d 177 25 [l0, l1, some (.int x)] [] w 0 Q) ∧
  (∀ (d : Nat) (l1 l2 : Option Value) (a : Nat) (w : px_H) (Q : Option Value → px_H → Prop), wp d 177 25 [some (.ref a), l1, l2] [] w 0 Q ↔ wp d 177 26 [some (.ref a), l1, l2] [.ref a] w 0 Q) ∧
  (∀ (d : Nat) (l0 l1 l2 : Option Value) (s0 : Value)  (w : px_H) (Q : Option Value → px_H → Prop), wp d 177 26 [l0, l1, l2] [s0] w 0 Q ↔ wp d 177 28 [l0, l1, l2] [.int (-1000000), s0] w 0 Q) ∧
  (∀ (d : Nat) (l0 l1 l2 : Option Value) (v0 : Value) (b : Nat) (w : px_H) (Q : Option Value → px_H → Prop), wp (d + 1) 177 28 [l0, l1, l2] [v0, .ref b] w 0 Q ↔ px_op (px_tgt w b [(11, 174)]) (fun v => wc d v [.ref b, v0] w (fun r w' => wp (d + 1) 177 31 [l0, l1, l2] (r.toList ++ []) w' 0 Q))) ∧
  (∀ (d : Nat) (l1 l2 : Option Value) (a : Nat) (w : px_H) (Q : Option Value → px_H → Prop), wp d 177 31 [some (.ref a), l1, l2] [] w 0 Q ↔ wp d 177 32 [some (.ref a), l1, l2] [.ref a] w 0 Q) ∧
  (∀ (d : Nat) (l0 l1 l2 : Option Value) (s0 : Value)  (w : px_H) (Q : Option Value → px_H → Prop), wp d 177 32 [l0, l1, l2] [s0] w 0 Q ↔ wp d 177 33 [l0, l1, l2] [.int 4, s0] w 0 Q) ∧
  (∀ (d : Nat) (l1 l2 : Option Value) (s0 s1 : Value) (a : Nat) (w : px_H) (Q : Option Value → px_H → Prop), wp d 177 33 [some (.ref a), l1, l2] [s0, s1] w 0 Q ↔ wp d 177 34 [some (.ref a), l1, l2] [.ref a, s0, s1] w 0 Q) ∧
  (∀ (d : Nat) (l0 l1 l2 : Option Value) (s0 s1 s2 : Value)  (w : px_H) (Q : Option Value → px_H → Prop), wp d 177 34 [l0, l1, l2] [s0, s1, s2] w 0 Q ↔ wp d 177 35 [l0, l1, l2] [.int 4, s0, s1, s2] w 0 Q) ∧
  (∀ (d : Nat) (l0 l1 l2 : Option Value) (s2 s3 : Value) (v0 : Value) (b : Nat) (w : px_H) (Q : Option Value → px_H → Prop), wp (d + 1) 177 35 [l0, l1, l2] [v0, .ref b, s2, s3] w 0 Q ↔ px_op (px_tgt w b [(11, 149)]) (fun v => wc d v [.ref b, v0] w (fun r w' => wp (d + 1) 177 38 [l0, l1, l2] (r.toList ++ [s2, s3]) w' 0 Q))) ∧
  (∀ (d : Nat) (l0 l1 : Option Value) (s0 s1 s2 : Value) (x : Int32) (w : px_H) (Q : Option Value → px_H → Prop), wp d 177 38 [l0, l1, some (.int x)] [s0, s1, s2] w 0 Q ↔ wp d 177 39 [l0, l1, some (.int x)] [.int x, s0, s1, s2] w 0 Q) ∧
  (∀ (d : Nat) (l0 l1 l2 : Option Value) (s2 s3 : Value) (x y : Int32) (w : px_H) (Q : Option Value → px_H → Prop), wp d 177 39 [l0, l1, l2] [.int y, .int x, s2, s3] w 0 Q ↔ wp d 177 40 [l0, l1, l2] [.int (x + y), s2, s3] w 0 Q) ∧
  (∀ (d : Nat) (l0 l1 l2 : Option Value) (v0 v1 : Value) (b : Nat) (w : px_H) (Q : Option Value → px_H → Prop), wp (d + 1) 177 40 [l0, l1, l2] [v1, v0, .ref b] w 0 Q ↔ px_op (px_tgt w b [(11, 150)]) (fun v => wc d v [.ref b, v0, v1] w (fun r w' => wp (d + 1) 177 43 [l0, l1, l2] (r.toList ++ []) w' 0 Q))) ∧
  (∀ (d : Nat) (l0 l1 : Option Value) (x : Int32) (w : px_H) (Q : Option Value → px_H → Prop), wp d 177 43 [l0, l1, some (.int x)] [] w 0 Q ↔ wp d 177 44 [l0, l1, some (.int x)] [.int x] w 0 Q) ∧
  (∀ (d : Nat) (l0 l1 l2 : Option Value) (x : Int32) (w : px_H) (Q : Option Value → px_H → Prop), wp d 177 44 [l0, l1, l2] [.int x] w 0 Q ↔ Q (some (.int x)) w) := ⟨fun d v0 v1 w Q => r_entry pt_177 (Nat.le_of_ble_eq_true rfl) rfl,
  fun d l1 l2 a w Q => px_go (q := (.aload_n 0, 1, px_x0)) (S' := (1, [some (.ref a), l1, l2], [.ref a], w, 0)) pt_177 rfl rfl,
  fun d l0 l2 s0 x w Q => px_go (q := (.iload_n 1, 1, px_x0)) (S' := (2, [l0, some (.int x), l2], [.int x, s0], w, 0)) pt_177 rfl rfl,
  fun d l0 l1 l2 v0 b w Q => r_callV (q := (.invokevirtual 165, 3, (33, 1, [(11, 153)], 0, ""))) pt_177 rfl rfl (List.forall_mem_cons.mpr ⟨⟨_, pt_153, Nat.le_of_ble_eq_true rfl, (Nat.le_of_ble_eq_true rfl), rfl⟩, fun _ h => absurd h List.not_mem_nil⟩),
  fun d l0 l1 l2 x w Q => r_if_ne pt_177 rfl rfl,
  fun d l0 l1 l2 w Q => px_go (q := (.ldc 58, 2, (0, 0, [], (-1000001), ""))) (S' := (10, [l0, l1, l2], [.int (-1000001)], w, 0)) pt_177 rfl rfl,
  fun d l0 l1 l2 x w Q => px_ret (q := (.ireturn, 1, px_x0)) pt_177 rfl rfl,
  fun d l1 l2 a w Q => px_go (q := (.aload_n 0, 1, px_x0)) (S' := (12, [some (.ref a), l1, l2], [.ref a], w, 0)) pt_177 rfl rfl,
  fun d l1 l2 s0 a w Q => px_go (q := (.aload_n 0, 1, px_x0)) (S' := (13, [some (.ref a), l1, l2], [.ref a, s0], w, 0)) pt_177 rfl rfl,
  fun d l0 l1 l2 s0 s1 w Q => r_iconst pt_177 rfl (by decide),
  fun d l0 l1 l2 s2 v0 b w Q => r_callV (q := (.invokevirtual 69, 3, (33, 1, [(11, 149)], 0, ""))) pt_177 rfl rfl (List.forall_mem_cons.mpr ⟨⟨_, pt_149, Nat.le_of_ble_eq_true rfl, (Nat.le_of_ble_eq_true rfl), rfl⟩, fun _ h => absurd h List.not_mem_nil⟩),
  fun d l0 l1 l2 v0 b w Q => r_callV (q := (.invokevirtual 168, 3, (33, 1, [(11, 171)], 0, ""))) pt_177 rfl rfl (List.forall_mem_cons.mpr ⟨⟨_, pt_171, Nat.le_of_ble_eq_true rfl, (Nat.le_of_ble_eq_true rfl), rfl⟩, fun _ h => absurd h List.not_mem_nil⟩),
  fun d l0 l2 s0 x w Q => px_go (q := (.iload_n 1, 1, px_x0)) (S' := (21, [l0, some (.int x), l2], [.int x, s0], w, 0)) pt_177 rfl rfl,
  fun d l0 l1 l2 x y w Q => px_go (q := (.ishr, 1, px_x0)) (S' := (22, [l0, l1, l2], [.int (x >>> (y &&& 31))], w, 0)) pt_177 rfl rfl,
  fun d l0 l1 l2 s0 w Q => r_iconst pt_177 rfl (by decide),
  fun d l0 l1 l2 x y w Q => px_go (q := (.iand, 1, px_x0)) (S' := (24, [l0, l1, l2], [.int (x &&& y)], w, 0)) pt_177 rfl rfl,
  fun d l0 l1 l2 x w Q => px_go (q := (.istore_n 2, 1, px_x0)) (S' := (25, [l0, l1, some (.int x)], [], w, 0)) pt_177 rfl rfl,
  fun d l1 l2 a w Q => px_go (q := (.aload_n 0, 1, px_x0)) (S' := (26, [some (.ref a), l1, l2], [.ref a], w, 0)) pt_177 rfl rfl,
  fun d l0 l1 l2 s0 w Q => px_go (q := (.ldc 119, 2, (0, 0, [], (-1000000), ""))) (S' := (28, [l0, l1, l2], [.int (-1000000), s0], w, 0)) pt_177 rfl rfl,
  fun d l0 l1 l2 v0 b w Q => r_callV (q := (.invokevirtual 158, 3, (33, 1, [(11, 174)], 0, ""))) pt_177 rfl rfl (List.forall_mem_cons.mpr ⟨⟨_, pt_174, Nat.le_of_ble_eq_true rfl, (Nat.le_of_ble_eq_true rfl), rfl⟩, fun _ h => absurd h List.not_mem_nil⟩),
  fun d l1 l2 a w Q => px_go (q := (.aload_n 0, 1, px_x0)) (S' := (32, [some (.ref a), l1, l2], [.ref a], w, 0)) pt_177 rfl rfl,
  fun d l0 l1 l2 s0 w Q => r_iconst pt_177 rfl (by decide),
  fun d l1 l2 s0 s1 a w Q => px_go (q := (.aload_n 0, 1, px_x0)) (S' := (34, [some (.ref a), l1, l2], [.ref a, s0, s1], w, 0)) pt_177 rfl rfl,
  fun d l0 l1 l2 s0 s1 s2 w Q => r_iconst pt_177 rfl (by decide),
  fun d l0 l1 l2 s2 s3 v0 b w Q => r_callV (q := (.invokevirtual 69, 3, (33, 1, [(11, 149)], 0, ""))) pt_177 rfl rfl (List.forall_mem_cons.mpr ⟨⟨_, pt_149, Nat.le_of_ble_eq_true rfl, (Nat.le_of_ble_eq_true rfl), rfl⟩, fun _ h => absurd h List.not_mem_nil⟩),
  fun d l0 l1 s0 s1 s2 x w Q => px_go (q := (.iload_n 2, 1, px_x0)) (S' := (39, [l0, l1, some (.int x)], [.int x, s0, s1, s2], w, 0)) pt_177 rfl rfl,
  fun d l0 l1 l2 s2 s3 x y w Q => px_go (q := (.iadd, 1, px_x0)) (S' := (40, [l0, l1, l2], [.int (x + y), s2, s3], w, 0)) pt_177 rfl rfl,
  fun d l0 l1 l2 v0 v1 b w Q => r_callV (q := (.invokevirtual 115, 3, (33, 2, [(11, 150)], 0, ""))) pt_177 rfl rfl (List.forall_mem_cons.mpr ⟨⟨_, pt_150, Nat.le_of_ble_eq_true rfl, (Nat.le_of_ble_eq_true rfl), rfl⟩, fun _ h => absurd h List.not_mem_nil⟩),
  fun d l0 l1 x w Q => px_go (q := (.iload_n 2, 1, px_x0)) (S' := (44, [l0, l1, some (.int x)], [.int x], w, 0)) pt_177 rfl rfl,
  fun d l0 l1 l2 x w Q => px_ret (q := (.ireturn, 1, px_x0)) pt_177 rfl rfl⟩
/-- AllSwornModel.waits(I)I -/
theorem S178 : (∀ (d : Nat) (v0 v1 : Value) (w : px_H) (Q : Option Value → px_H → Prop), wc d 178 [v0, v1] w Q ↔ wp d 178 0 [some v0, some v1] [] w 0 Q) ∧
  (∀ (d : Nat) (l1 : Option Value) (a : Nat) (w : px_H) (Q : Option Value → px_H → Prop), wp d 178 0 [some (.ref a), l1] [] w 0 Q ↔ wp d 178 1 [some (.ref a), l1] [.ref a] w 0 Q) ∧
  (∀ (d : Nat) (l0 l1 : Option Value)  (b : Nat) (w : px_H) (Q : Option Value → px_H → Prop), wp (d + 1) 178 1 [l0, l1] [.ref b] w 0 Q ↔ px_op (px_tgt w b [(11, 175)]) (fun v => wc d v [.ref b] w (fun r w' => wp (d + 1) 178 4 [l0, l1] (r.toList ++ []) w' 0 Q))) ∧
  (∀ (d : Nat) (l0 l1 : Option Value) (x : Int32) (w : px_H) (Q : Option Value → px_H → Prop), wp d 178 4 [l0, l1] [.int x] w 0 Q ↔ if x = 0 then wp d 178 7 [l0, l1] [] w 0 Q else wp d 178 10 [l0, l1] [] w 0 Q) ∧
  (∀ (d : Nat) (l0 l1 : Option Value)  (w : px_H) (Q : Option Value → px_H → Prop), wp d 178 7 [l0, l1] [] w 0 Q ↔ wp d 178 9 [l0, l1] [.int (-1000002)] w 0 Q) ∧
  (∀ (d : Nat) (l0 l1 : Option Value) (x : Int32) (w : px_H) (Q : Option Value → px_H → Prop), wp d 178 9 [l0, l1] [.int x] w 0 Q ↔ Q (some (.int x)) w) ∧
  (∀ (d : Nat) (l0 : Option Value) (x : Int32) (w : px_H) (Q : Option Value → px_H → Prop), wp d 178 10 [l0, some (.int x)] [] w 0 Q ↔ wp d 178 11 [l0, some (.int x)] [.int x] w 0 Q) ∧
  (∀ (d : Nat) (l0 l1 : Option Value) (s0 : Value)  (w : px_H) (Q : Option Value → px_H → Prop), wp d 178 11 [l0, l1] [s0] w 0 Q ↔ wp d 178 12 [l0, l1] [.int 1, s0] w 0 Q) ∧
  (∀ (d : Nat) (l0 l1 : Option Value) (s0 s1 : Value)  (w : px_H) (Q : Option Value → px_H → Prop), wp d 178 12 [l0, l1] [s0, s1] w 0 Q ↔ wp d 178 14 [l0, l1] [.int 60, s0, s1] w 0 Q) ∧
  (∀ (d : Nat) (l0 l1 : Option Value) (v0 v1 v2 : Value) (w : px_H) (Q : Option Value → px_H → Prop), wp (d + 1) 178 14 [l0, l1] [v2, v1, v0] w 0 Q ↔ wc d 140 [v0, v1, v2] w (fun r w' => wp (d + 1) 178 17 [l0, l1] (r.toList ++ []) w' 0 Q)) ∧
  (∀ (d : Nat) (l0 l1 : Option Value) (x : Int32) (w : px_H) (Q : Option Value → px_H → Prop), wp d 178 17 [l0, l1] [.int x] w 0 Q ↔ if x = 0 then wp d 178 20 [l0, l1] [] w 0 Q else wp d 178 23 [l0, l1] [] w 0 Q) ∧
  (∀ (d : Nat) (l0 l1 : Option Value)  (w : px_H) (Q : Option Value → px_H → Prop), wp d 178 20 [l0, l1] [] w 0 Q ↔ wp d 178 22 [l0, l1] [.int (-1000001)] w 0 Q) ∧
  (∀ (d : Nat) (l0 l1 : Option Value) (x : Int32) (w : px_H) (Q : Option Value → px_H → Prop), wp d 178 22 [l0, l1] [.int x] w 0 Q ↔ Q (some (.int x)) w) ∧
  (∀ (d : Nat) (l1 : Option Value) (a : Nat) (w : px_H) (Q : Option Value → px_H → Prop), wp d 178 23 [some (.ref a), l1] [] w 0 Q ↔ wp d 178 24 [some (.ref a), l1] [.ref a] w 0 Q) ∧
  (∀ (d : Nat) (l0 l1 : Option Value) (s0 : Value)  (w : px_H) (Q : Option Value → px_H → Prop), wp d 178 24 [l0, l1] [s0] w 0 Q ↔ wp d 178 25 [l0, l1] [.int 3, s0] w 0 Q) ∧
  (∀ (d : Nat) (l0 l1 : Option Value) (v0 : Value) (b : Nat) (w : px_H) (Q : Option Value → px_H → Prop), wp (d + 1) 178 25 [l0, l1] [v0, .ref b] w 0 Q ↔ px_op (px_tgt w b [(11, 149)]) (fun v => wc d v [.ref b, v0] w (fun r w' => wp (d + 1) 178 28 [l0, l1] (r.toList ++ []) w' 0 Q))) ∧
  (∀ (d : Nat) (l0 : Option Value) (s0 : Value) (x : Int32) (w : px_H) (Q : Option Value → px_H → Prop), wp d 178 28 [l0, some (.int x)] [s0] w 0 Q ↔ wp d 178 29 [l0, some (.int x)] [.int x, s0] w 0 Q) ∧
  (∀ (d : Nat) (l0 l1 : Option Value) (x y : Int32) (w : px_H) (Q : Option Value → px_H → Prop), wp d 178 29 [l0, l1] [.int y, .int x] w 0 Q ↔ wp d 178 30 [l0, l1] [.int (x + y)] w 0 Q) ∧
  (∀ (d : Nat) (l0 l1 : Option Value) (s0 : Value)  (w : px_H) (Q : Option Value → px_H → Prop), wp d 178 30 [l0, l1] [s0] w 0 Q ↔ wp d 178 33 [l0, l1] [.int 999, s0] w 0 Q) ∧
  (∀ (d : Nat) (l0 l1 : Option Value) (x y : Int32) (w : px_H) (Q : Option Value → px_H → Prop), wp d 178 33 [l0, l1] [.int y, .int x] w 0 Q ↔ if x ≤ y then wp d 178 39 [l0, l1] [] w 0 Q else wp d 178 36 [l0, l1] [] w 0 Q) ∧
  (∀ (d : Nat) (l0 l1 : Option Value)  (w : px_H) (Q : Option Value → px_H → Prop), wp d 178 36 [l0, l1] [] w 0 Q ↔ wp d 178 38 [l0, l1] [.int (-1000003)] w 0 Q) ∧
  (∀ (d : Nat) (l0 l1 : Option Value) (x : Int32) (w : px_H) (Q : Option Value → px_H → Prop), wp d 178 38 [l0, l1] [.int x] w 0 Q ↔ Q (some (.int x)) w) ∧
  (∀ (d : Nat) (l1 : Option Value) (a : Nat) (w : px_H) (Q : Option Value → px_H → Prop), wp d 178 39 [some (.ref a), l1] [] w 0 Q ↔ wp d 178 40 [some (.ref a), l1] [.ref a] w 0 Q) ∧
  (∀ (d : Nat) (l0 l1 : Option Value) (s0 : Value)  (w : px_H) (Q : Option Value → px_H → Prop), wp d 178 40 [l0, l1] [s0] w 0 Q ↔ wp d 178 42 [l0, l1] [.int (-1000000), s0] w 0 Q) ∧
  (∀ (d : Nat) (l0 l1 : Option Value) (v0 : Value) (b : Nat) (w : px_H) (Q : Option Value → px_H → Prop), wp (d + 1) 178 42 [l0, l1] [v0, .ref b] w 0 Q ↔ px_op (px_tgt w b [(11, 174)]) (fun v => wc d v [.ref b, v0] w (fun r w' => wp (d + 1) 178 45 [l0, l1] (r.toList ++ []) w' 0 Q))) ∧
  (∀ (d : Nat) (l1 : Option Value) (a : Nat) (w : px_H) (Q : Option Value → px_H → Prop), wp d 178 45 [some (.ref a), l1] [] w 0 Q ↔ wp d 178 46 [some (.ref a), l1] [.ref a] w 0 Q) ∧
  (∀ (d : Nat) (l0 l1 : Option Value) (s0 : Value)  (w : px_H) (Q : Option Value → px_H → Prop), wp d 178 46 [l0, l1] [s0] w 0 Q ↔ wp d 178 47 [l0, l1] [.int 3, s0] w 0 Q) ∧
  (∀ (d : Nat) (l1 : Option Value) (s0 s1 : Value) (a : Nat) (w : px_H) (Q : Option Value → px_H → Prop), wp d 178 47 [some (.ref a), l1] [s0, s1] w 0 Q ↔ wp d 178 48 [some (.ref a), l1] [.ref a, s0, s1] w 0 Q) ∧
  (∀ (d : Nat) (l0 l1 : Option Value) (s0 s1 s2 : Value)  (w : px_H) (Q : Option Value → px_H → Prop), wp d 178 48 [l0, l1] [s0, s1, s2] w 0 Q ↔ wp d 178 49 [l0, l1] [.int 3, s0, s1, s2] w 0 Q) ∧
  (∀ (d : Nat) (l0 l1 : Option Value) (s2 s3 : Value) (v0 : Value) (b : Nat) (w : px_H) (Q : Option Value → px_H → Prop), wp (d + 1) 178 49 [l0, l1] [v0, .ref b, s2, s3] w 0 Q ↔ px_op (px_tgt w b [(11, 149)]) (fun v => wc d v [.ref b, v0] w (fun r w' => wp (d + 1) 178 52 [l0, l1] (r.toList ++ [s2, s3]) w' 0 Q))) ∧
  (∀ (d : Nat) (l0 : Option Value) (s0 s1 s2 : Value) (x : Int32) (w : px_H) (Q : Option Value → px_H → Prop), wp d 178 52 [l0, some (.int x)] [s0, s1, s2] w 0 Q ↔ wp d 178 53 [l0, some (.int x)] [.int x, s0, s1, s2] w 0 Q) ∧
  (∀ (d : Nat) (l0 l1 : Option Value) (s2 s3 : Value) (x y : Int32) (w : px_H) (Q : Option Value → px_H → Prop), wp d 178 53 [l0, l1] [.int y, .int x, s2, s3] w 0 Q ↔ wp d 178 54 [l0, l1] [.int (x + y), s2, s3] w 0 Q) ∧
  (∀ (d : Nat) (l0 l1 : Option Value) (v0 v1 : Value) (b : Nat) (w : px_H) (Q : Option Value → px_H → Prop), wp (d + 1) 178 54 [l0, l1] [v1, v0, .ref b] w 0 Q ↔ px_op (px_tgt w b [(11, 150)]) (fun v => wc d v [.ref b, v0, v1] w (fun r w' => wp (d + 1) 178 57 [l0, l1] (r.toList ++ []) w' 0 Q))) ∧
  (∀ (d : Nat) (l1 : Option Value) (a : Nat) (w : px_H) (Q : Option Value → px_H → Prop), wp d 178 57 [some (.ref a), l1] [] w 0 Q ↔ wp d 178 58 [some (.ref a), l1] [.ref a] w 0 Q) ∧
  (∀ (d : Nat) (l0 l1 : Option Value) (s0 : Value)  (w : px_H) (Q : Option Value → px_H → Prop), wp d 178 58 [l0, l1] [s0] w 0 Q ↔ wp d 178 59 [l0, l1] [.int 3, s0] w 0 Q) ∧
  (∀ (d : Nat) (l0 l1 : Option Value) (v0 : Value) (b : Nat) (w : px_H) (Q : Option Value → px_H → Prop), wp (d + 1) 178 59 [l0, l1] [v0, .ref b] w 0 Q ↔ px_op (px_tgt w b [(11, 149)]) (fun v => wc d v [.ref b, v0] w (fun r w' => wp (d + 1) 178 62 [l0, l1] (r.toList ++ []) w' 0 Q))) ∧
  (∀ (d : Nat) (l0 l1 : Option Value) (x : Int32) (w : px_H) (Q : Option Value → px_H → Prop), wp d 178 62 [l0, l1] [.int x] w 0 Q ↔ Q (some (.int x)) w) := ⟨fun d v0 v1 w Q => r_entry pt_178 (Nat.le_of_ble_eq_true rfl) rfl,
  fun d l1 a w Q => px_go (q := (.aload_n 0, 1, px_x0)) (S' := (1, [some (.ref a), l1], [.ref a], w, 0)) pt_178 rfl rfl,
  fun d l0 l1 b w Q => r_callV (q := (.invokevirtual 171, 3, (33, 0, [(11, 175)], 0, ""))) pt_178 rfl rfl (List.forall_mem_cons.mpr ⟨⟨_, pt_175, Nat.le_of_ble_eq_true rfl, (Nat.le_of_ble_eq_true rfl), rfl⟩, fun _ h => absurd h List.not_mem_nil⟩),
  fun d l0 l1 x w Q => r_if_ne pt_178 rfl rfl,
  fun d l0 l1 w Q => px_go (q := (.ldc 175, 2, (0, 0, [], (-1000002), ""))) (S' := (9, [l0, l1], [.int (-1000002)], w, 0)) pt_178 rfl rfl,
  fun d l0 l1 x w Q => px_ret (q := (.ireturn, 1, px_x0)) pt_178 rfl rfl,
  fun d l0 x w Q => px_go (q := (.iload_n 1, 1, px_x0)) (S' := (11, [l0, some (.int x)], [.int x], w, 0)) pt_178 rfl rfl,
  fun d l0 l1 s0 w Q => r_iconst pt_178 rfl (by decide),
  fun d l0 l1 s0 s1 w Q => r_bipush pt_178 rfl (by decide),
  fun d l0 l1 v0 v1 v2 w Q => r_call (q := (.invokestatic 50, 3, (30, 3, [(0, 140)], 0, ""))) pt_178 rfl rfl pt_140 (Nat.le_of_ble_eq_true rfl) (Nat.le_of_ble_eq_true rfl) rfl,
  fun d l0 l1 x w Q => r_if_ne pt_178 rfl rfl,
  fun d l0 l1 w Q => px_go (q := (.ldc 58, 2, (0, 0, [], (-1000001), ""))) (S' := (22, [l0, l1], [.int (-1000001)], w, 0)) pt_178 rfl rfl,
  fun d l0 l1 x w Q => px_ret (q := (.ireturn, 1, px_x0)) pt_178 rfl rfl,
  fun d l1 a w Q => px_go (q := (.aload_n 0, 1, px_x0)) (S' := (24, [some (.ref a), l1], [.ref a], w, 0)) pt_178 rfl rfl,
  fun d l0 l1 s0 w Q => r_iconst pt_178 rfl (by decide),
  fun d l0 l1 v0 b w Q => r_callV (q := (.invokevirtual 69, 3, (33, 1, [(11, 149)], 0, ""))) pt_178 rfl rfl (List.forall_mem_cons.mpr ⟨⟨_, pt_149, Nat.le_of_ble_eq_true rfl, (Nat.le_of_ble_eq_true rfl), rfl⟩, fun _ h => absurd h List.not_mem_nil⟩),
  fun d l0 s0 x w Q => px_go (q := (.iload_n 1, 1, px_x0)) (S' := (29, [l0, some (.int x)], [.int x, s0], w, 0)) pt_178 rfl rfl,
  fun d l0 l1 x y w Q => px_go (q := (.iadd, 1, px_x0)) (S' := (30, [l0, l1], [.int (x + y)], w, 0)) pt_178 rfl rfl,
  fun d l0 l1 s0 w Q => r_sipush pt_178 rfl (by decide),
  fun d l0 l1 x y w Q => r_icmp_le pt_178 rfl rfl,
  fun d l0 l1 w Q => px_go (q := (.ldc 72, 2, (0, 0, [], (-1000003), ""))) (S' := (38, [l0, l1], [.int (-1000003)], w, 0)) pt_178 rfl rfl,
  fun d l0 l1 x w Q => px_ret (q := (.ireturn, 1, px_x0)) pt_178 rfl rfl,
  fun d l1 a w Q => px_go (q := (.aload_n 0, 1, px_x0)) (S' := (40, [some (.ref a), l1], [.ref a], w, 0)) pt_178 rfl rfl,
  fun d l0 l1 s0 w Q => px_go (q := (.ldc 119, 2, (0, 0, [], (-1000000), ""))) (S' := (42, [l0, l1], [.int (-1000000), s0], w, 0)) pt_178 rfl rfl,
  fun d l0 l1 v0 b w Q => r_callV (q := (.invokevirtual 158, 3, (33, 1, [(11, 174)], 0, ""))) pt_178 rfl rfl (List.forall_mem_cons.mpr ⟨⟨_, pt_174, Nat.le_of_ble_eq_true rfl, (Nat.le_of_ble_eq_true rfl), rfl⟩, fun _ h => absurd h List.not_mem_nil⟩),
  fun d l1 a w Q => px_go (q := (.aload_n 0, 1, px_x0)) (S' := (46, [some (.ref a), l1], [.ref a], w, 0)) pt_178 rfl rfl,
  fun d l0 l1 s0 w Q => r_iconst pt_178 rfl (by decide),
  fun d l1 s0 s1 a w Q => px_go (q := (.aload_n 0, 1, px_x0)) (S' := (48, [some (.ref a), l1], [.ref a, s0, s1], w, 0)) pt_178 rfl rfl,
  fun d l0 l1 s0 s1 s2 w Q => r_iconst pt_178 rfl (by decide),
  fun d l0 l1 s2 s3 v0 b w Q => r_callV (q := (.invokevirtual 69, 3, (33, 1, [(11, 149)], 0, ""))) pt_178 rfl rfl (List.forall_mem_cons.mpr ⟨⟨_, pt_149, Nat.le_of_ble_eq_true rfl, (Nat.le_of_ble_eq_true rfl), rfl⟩, fun _ h => absurd h List.not_mem_nil⟩),
  fun d l0 s0 s1 s2 x w Q => px_go (q := (.iload_n 1, 1, px_x0)) (S' := (53, [l0, some (.int x)], [.int x, s0, s1, s2], w, 0)) pt_178 rfl rfl,
  fun d l0 l1 s2 s3 x y w Q => px_go (q := (.iadd, 1, px_x0)) (S' := (54, [l0, l1], [.int (x + y), s2, s3], w, 0)) pt_178 rfl rfl,
  fun d l0 l1 v0 v1 b w Q => r_callV (q := (.invokevirtual 115, 3, (33, 2, [(11, 150)], 0, ""))) pt_178 rfl rfl (List.forall_mem_cons.mpr ⟨⟨_, pt_150, Nat.le_of_ble_eq_true rfl, (Nat.le_of_ble_eq_true rfl), rfl⟩, fun _ h => absurd h List.not_mem_nil⟩),
  fun d l1 a w Q => px_go (q := (.aload_n 0, 1, px_x0)) (S' := (58, [some (.ref a), l1], [.ref a], w, 0)) pt_178 rfl rfl,
  fun d l0 l1 s0 w Q => r_iconst pt_178 rfl (by decide),
  fun d l0 l1 v0 b w Q => r_callV (q := (.invokevirtual 69, 3, (33, 1, [(11, 149)], 0, ""))) pt_178 rfl rfl (List.forall_mem_cons.mpr ⟨⟨_, pt_149, Nat.le_of_ble_eq_true rfl, (Nat.le_of_ble_eq_true rfl), rfl⟩, fun _ h => absurd h List.not_mem_nil⟩),
  fun d l0 l1 x w Q => px_ret (q := (.ireturn, 1, px_x0)) pt_178 rfl rfl⟩
/-- AllSwornModel.undo()I -/
theorem S179 : (∀ (d : Nat) (v0 : Value) (w : px_H) (Q : Option Value → px_H → Prop), wc d 179 [v0] w Q ↔ wp d 179 0 [some v0, none] [] w 0 Q) ∧
  (∀ (d : Nat) (l1 : Option Value) (a : Nat) (w : px_H) (Q : Option Value → px_H → Prop), wp d 179 0 [some (.ref a), l1] [] w 0 Q ↔ wp d 179 1 [some (.ref a), l1] [.ref a] w 0 Q) ∧
  (∀ (d : Nat) (l0 l1 : Option Value) (a : Nat) (w : px_H) (Q : Option Value → px_H → Prop), wp d 179 1 [l0, l1] [.ref a] w 0 Q ↔ px_op (px_fld w a [(11, 0)] 8) (fun v => wp d 179 4 [l0, l1] [v] w 0 Q)) ∧
  (∀ (d : Nat) (l0 l1 : Option Value) (x : Int32) (w : px_H) (Q : Option Value → px_H → Prop), wp d 179 4 [l0, l1] [.int x] w 0 Q ↔ if x = 0 then wp d 179 7 [l0, l1] [] w 0 Q else wp d 179 10 [l0, l1] [] w 0 Q) ∧
  (∀ (d : Nat) (l0 l1 : Option Value)  (w : px_H) (Q : Option Value → px_H → Prop), wp d 179 7 [l0, l1] [] w 0 Q ↔ wp d 179 9 [l0, l1] [.int (-1000002)] w 0 Q) ∧
  (∀ (d : Nat) (l0 l1 : Option Value) (x : Int32) (w : px_H) (Q : Option Value → px_H → Prop), wp d 179 9 [l0, l1] [.int x] w 0 Q ↔ Q (some (.int x)) w) ∧
  (∀ (d : Nat) (l1 : Option Value) (a : Nat) (w : px_H) (Q : Option Value → px_H → Prop), wp d 179 10 [some (.ref a), l1] [] w 0 Q ↔ wp d 179 11 [some (.ref a), l1] [.ref a] w 0 Q) ∧
  (∀ (d : Nat) (l0 l1 : Option Value) (s0 : Value)  (w : px_H) (Q : Option Value → px_H → Prop), wp d 179 11 [l0, l1] [s0] w 0 Q ↔ wp d 179 12 [l0, l1] [s0, s0] w 0 Q) ∧
  (∀ (d : Nat) (l0 l1 : Option Value) (s1 : Value) (a : Nat) (w : px_H) (Q : Option Value → px_H → Prop), wp d 179 12 [l0, l1] [.ref a, s1] w 0 Q ↔ px_op (px_fld w a [(11, 0)] 8) (fun v => wp d 179 15 [l0, l1] [v, s1] w 0 Q)) ∧
  (∀ (d : Nat) (l0 l1 : Option Value) (s0 s1 : Value)  (w : px_H) (Q : Option Value → px_H → Prop), wp d 179 15 [l0, l1] [s0, s1] w 0 Q ↔ wp d 179 16 [l0, l1] [.int 1, s0, s1] w 0 Q) ∧
  (∀ (d : Nat) (l0 l1 : Option Value) (s2 : Value) (x y : Int32) (w : px_H) (Q : Option Value → px_H → Prop), wp d 179 16 [l0, l1] [.int y, .int x, s2] w 0 Q ↔ wp d 179 17 [l0, l1] [.int (x - y), s2] w 0 Q) ∧
  (∀ (d : Nat) (l0 l1 : Option Value) (x : Int32) (a : Nat) (w : px_H) (Q : Option Value → px_H → Prop), wp d 179 17 [l0, l1] [.int x, .ref a] w 0 Q ↔ px_op (px_pfd w a [(11, 0)] 8 (.int x)) (fun w' => wp d 179 20 [l0, l1] [] w' 0 Q)) ∧
  (∀ (d : Nat) (l1 : Option Value) (a : Nat) (w : px_H) (Q : Option Value → px_H → Prop), wp d 179 20 [some (.ref a), l1] [] w 0 Q ↔ wp d 179 21 [some (.ref a), l1] [.ref a] w 0 Q) ∧
  (∀ (d : Nat) (l0 l1 : Option Value) (s0 : Value)  (w : px_H) (Q : Option Value → px_H → Prop), wp d 179 21 [l0, l1] [s0] w 0 Q ↔ wp d 179 22 [l0, l1] [.int 3, s0] w 0 Q) ∧
  (∀ (d : Nat) (l1 : Option Value) (s0 s1 : Value) (a : Nat) (w : px_H) (Q : Option Value → px_H → Prop), wp d 179 22 [some (.ref a), l1] [s0, s1] w 0 Q ↔ wp d 179 23 [some (.ref a), l1] [.ref a, s0, s1] w 0 Q) ∧
  (∀ (d : Nat) (l0 l1 : Option Value) (s1 s2 : Value) (a : Nat) (w : px_H) (Q : Option Value → px_H → Prop), wp d 179 23 [l0, l1] [.ref a, s1, s2] w 0 Q ↔ px_op (px_fld w a [(11, 0)] 7) (fun v => wp d 179 26 [l0, l1] [v, s1, s2] w 0 Q)) ∧
  (∀ (d : Nat) (l0 l1 : Option Value) (s0 s1 s2 : Value)  (w : px_H) (Q : Option Value → px_H → Prop), wp d 179 26 [l0, l1] [s0, s1, s2] w 0 Q ↔ wp d 179 27 [l0, l1] [.int 4, s0, s1, s2] w 0 Q) ∧
  (∀ (d : Nat) (l1 : Option Value) (s0 s1 s2 s3 : Value) (a : Nat) (w : px_H) (Q : Option Value → px_H → Prop), wp d 179 27 [some (.ref a), l1] [s0, s1, s2, s3] w 0 Q ↔ wp d 179 28 [some (.ref a), l1] [.ref a, s0, s1, s2, s3] w 0 Q) ∧
  (∀ (d : Nat) (l0 l1 : Option Value) (s1 s2 s3 s4 : Value) (a : Nat) (w : px_H) (Q : Option Value → px_H → Prop), wp d 179 28 [l0, l1] [.ref a, s1, s2, s3, s4] w 0 Q ↔ px_op (px_fld w a [(11, 0)] 8) (fun v => wp d 179 31 [l0, l1] [v, s1, s2, s3, s4] w 0 Q)) ∧
  (∀ (d : Nat) (l0 l1 : Option Value) (s2 s3 s4 : Value) (x y : Int32) (w : px_H) (Q : Option Value → px_H → Prop), wp d 179 31 [l0, l1] [.int y, .int x, s2, s3, s4] w 0 Q ↔ wp d 179 32 [l0, l1] [.int (x * y), s2, s3, s4] w 0 Q) ∧
  (∀ (d : Nat) (l0 l1 : Option Value) (s2 s3 : Value) (i : Int32) (a : Nat) (w : px_H) (Q : Option Value → px_H → Prop), wp d 179 32 [l0, l1] [.int i, .ref a, s2, s3] w 0 Q ↔ px_op (px_ald w a i .int) (fun x => wp d 179 33 [l0, l1] [.int x, s2, s3] w 0 Q)) ∧
  (∀ (d : Nat) (l0 l1 : Option Value) (v0 v1 : Value) (b : Nat) (w : px_H) (Q : Option Value → px_H → Prop), wp (d + 1) 179 33 [l0, l1] [v1, v0, .ref b] w 0 Q ↔ px_op (px_tgt w b [(11, 150)]) (fun v => wc d v [.ref b, v0, v1] w (fun r w' => wp (d + 1) 179 36 [l0, l1] (r.toList ++ []) w' 0 Q))) ∧
  (∀ (d : Nat) (l1 : Option Value) (a : Nat) (w : px_H) (Q : Option Value → px_H → Prop), wp d 179 36 [some (.ref a), l1] [] w 0 Q ↔ wp d 179 37 [some (.ref a), l1] [.ref a] w 0 Q) ∧
  (∀ (d : Nat) (l0 l1 : Option Value) (s0 : Value)  (w : px_H) (Q : Option Value → px_H → Prop), wp d 179 37 [l0, l1] [s0] w 0 Q ↔ wp d 179 38 [l0, l1] [.int 4, s0] w 0 Q) ∧
  (∀ (d : Nat) (l1 : Option Value) (s0 s1 : Value) (a : Nat) (w : px_H) (Q : Option Value → px_H → Prop), wp d 179 38 [some (.ref a), l1] [s0, s1] w 0 Q ↔ wp d 179 39 [some (.ref a), l1] [.ref a, s0, s1] w 0 Q) ∧
  (∀ (d : Nat) (l0 l1 : Option Value) (s1 s2 : Value) (a : Nat) (w : px_H) (Q : Option Value → px_H → Prop), wp d 179 39 [l0, l1] [.ref a, s1, s2] w 0 Q ↔ px_op (px_fld w a [(11, 0)] 7) (fun v => wp d 179 42 [l0, l1] [v, s1, s2] w 0 Q)) ∧
  (∀ (d : Nat) (l0 l1 : Option Value) (s0 s1 s2 : Value)  (w : px_H) (Q : Option Value → px_H → Prop), wp d 179 42 [l0, l1] [s0, s1, s2] w 0 Q ↔ wp d 179 43 [l0, l1] [.int 4, s0, s1, s2] w 0 Q) ∧
  (∀ (d : Nat) (l1 : Option Value) (s0 s1 s2 s3 : Value) (a : Nat) (w : px_H) (Q : Option Value → px_H → Prop), wp d 179 43 [some (.ref a), l1] [s0, s1, s2, s3] w 0 Q ↔ wp d 179 44 [some (.ref a), l1] [.ref a, s0, s1, s2, s3] w 0 Q) ∧
  (∀ (d : Nat) (l0 l1 : Option Value) (s1 s2 s3 s4 : Value) (a : Nat) (w : px_H) (Q : Option Value → px_H → Prop), wp d 179 44 [l0, l1] [.ref a, s1, s2, s3, s4] w 0 Q ↔ px_op (px_fld w a [(11, 0)] 8) (fun v => wp d 179 47 [l0, l1] [v, s1, s2, s3, s4] w 0 Q)) ∧
  (∀ (d : Nat) (l0 l1 : Option Value) (s2 s3 s4 : Value) (x y : Int32) (w : px_H) (Q : Option Value → px_H → Prop), wp d 179 47 [l0, l1] [.int y, .int x, s2, s3, s4] w 0 Q ↔ wp d 179 48 [l0, l1] [.int (x * y), s2, s3, s4] w 0 Q) ∧
  (∀ (d : Nat) (l0 l1 : Option Value) (s0 s1 s2 s3 : Value)  (w : px_H) (Q : Option Value → px_H → Prop), wp d 179 48 [l0, l1] [s0, s1, s2, s3] w 0 Q ↔ wp d 179 49 [l0, l1] [.int 1, s0, s1, s2, s3] w 0 Q) ∧
  (∀ (d : Nat) (l0 l1 : Option Value) (s2 s3 s4 : Value) (x y : Int32) (w : px_H) (Q : Option Value → px_H → Prop), wp d 179 49 [l0, l1] [.int y, .int x, s2, s3, s4] w 0 Q ↔ wp d 179 50 [l0, l1] [.int (x + y), s2, s3, s4] w 0 Q) ∧
  (∀ (d : Nat) (l0 l1 : Option Value) (s2 s3 : Value) (i : Int32) (a : Nat) (w : px_H) (Q : Option Value → px_H → Prop), wp d 179 50 [l0, l1] [.int i, .ref a, s2, s3] w 0 Q ↔ px_op (px_ald w a i .int) (fun x => wp d 179 51 [l0, l1] [.int x, s2, s3] w 0 Q)) ∧
  (∀ (d : Nat) (l0 l1 : Option Value) (v0 v1 : Value) (b : Nat) (w : px_H) (Q : Option Value → px_H → Prop), wp (d + 1) 179 51 [l0, l1] [v1, v0, .ref b] w 0 Q ↔ px_op (px_tgt w b [(11, 150)]) (fun v => wc d v [.ref b, v0, v1] w (fun r w' => wp (d + 1) 179 54 [l0, l1] (r.toList ++ []) w' 0 Q))) ∧
  (∀ (d : Nat) (l1 : Option Value) (a : Nat) (w : px_H) (Q : Option Value → px_H → Prop), wp d 179 54 [some (.ref a), l1] [] w 0 Q ↔ wp d 179 55 [some (.ref a), l1] [.ref a] w 0 Q) ∧
  (∀ (d : Nat) (l0 l1 : Option Value) (a : Nat) (w : px_H) (Q : Option Value → px_H → Prop), wp d 179 55 [l0, l1] [.ref a] w 0 Q ↔ px_op (px_fld w a [(11, 0)] 7) (fun v => wp d 179 58 [l0, l1] [v] w 0 Q)) ∧
  (∀ (d : Nat) (l0 l1 : Option Value) (s0 : Value)  (w : px_H) (Q : Option Value → px_H → Prop), wp d 179 58 [l0, l1] [s0] w 0 Q ↔ wp d 179 59 [l0, l1] [.int 4, s0] w 0 Q) ∧
  (∀ (d : Nat) (l1 : Option Value) (s0 s1 : Value) (a : Nat) (w : px_H) (Q : Option Value → px_H → Prop), wp d 179 59 [some (.ref a), l1] [s0, s1] w 0 Q ↔ wp d 179 60 [some (.ref a), l1] [.ref a, s0, s1] w 0 Q) ∧
  (∀ (d : Nat) (l0 l1 : Option Value) (s1 s2 : Value) (a : Nat) (w : px_H) (Q : Option Value → px_H → Prop), wp d 179 60 [l0, l1] [.ref a, s1, s2] w 0 Q ↔ px_op (px_fld w a [(11, 0)] 8) (fun v => wp d 179 63 [l0, l1] [v, s1, s2] w 0 Q)) ∧
  (∀ (d : Nat) (l0 l1 : Option Value) (s2 : Value) (x y : Int32) (w : px_H) (Q : Option Value → px_H → Prop), wp d 179 63 [l0, l1] [.int y, .int x, s2] w 0 Q ↔ wp d 179 64 [l0, l1] [.int (x * y), s2] w 0 Q) ∧
  (∀ (d : Nat) (l0 l1 : Option Value) (s0 s1 : Value)  (w : px_H) (Q : Option Value → px_H → Prop), wp d 179 64 [l0, l1] [s0, s1] w 0 Q ↔ wp d 179 65 [l0, l1] [.int 2, s0, s1] w 0 Q) ∧
  (∀ (d : Nat) (l0 l1 : Option Value) (s2 : Value) (x y : Int32) (w : px_H) (Q : Option Value → px_H → Prop), wp d 179 65 [l0, l1] [.int y, .int x, s2] w 0 Q ↔ wp d 179 66 [l0, l1] [.int (x + y), s2] w 0 Q) ∧
  (∀ (d : Nat) (l0 l1 : Option Value) (i : Int32) (a : Nat) (w : px_H) (Q : Option Value → px_H → Prop), wp d 179 66 [l0, l1] [.int i, .ref a] w 0 Q ↔ px_op (px_ald w a i .int) (fun x => wp d 179 67 [l0, l1] [.int x] w 0 Q)) ∧
  (∀ (d : Nat) (l0 l1 : Option Value) (x : Int32) (w : px_H) (Q : Option Value → px_H → Prop), wp d 179 67 [l0, l1] [.int x] w 0 Q ↔ wp d 179 68 [l0, some (.int x)] [] w 0 Q) ∧
  (∀ (d : Nat) (l0 : Option Value) (x : Int32) (w : px_H) (Q : Option Value → px_H → Prop), wp d 179 68 [l0, some (.int x)] [] w 0 Q ↔ wp d 179 69 [l0, some (.int x)] [.int x] w 0 Q) ∧
  (∀ (d : Nat) (l0 l1 : Option Value) (s0 : Value)  (w : px_H) (Q : Option Value → px_H → Prop), wp d 179 69 [l0, l1] [s0] w 0 Q ↔ wp d 179 71 [l0, l1] [.int (-1000000), s0] w 0 Q) ∧
  (∀ (d : Nat) (l0 l1 : Option Value) (x y : Int32) (w : px_H) (Q : Option Value → px_H → Prop), wp d 179 71 [l0, l1] [.int y, .int x] w 0 Q ↔ if x = y then wp d 179 98 [l0, l1] [] w 0 Q else wp d 179 74 [l0, l1] [] w 0 Q) ∧
  (∀ (d : Nat) (l1 : Option Value) (a : Nat) (w : px_H) (Q : Option Value → px_H → Prop), wp d 179 74 [some (.ref a), l1] [] w 0 Q ↔ wp d 179 75 [some (.ref a), l1] [.ref a] w 0 Q) ∧
  (∀ (d : Nat) (l0 l1 : Option Value) (s0 : Value)  (w : px_H) (Q : Option Value → px_H → Prop), wp d 179 75 [l0, l1] [s0] w 0 Q ↔ wp d 179 76 [l0, l1] [.int 5, s0] w 0 Q) ∧
  (∀ (d : Nat) (l0 l1 : Option Value) (s0 s1 : Value)  (w : px_H) (Q : Option Value → px_H → Prop), wp d 179 76 [l0, l1] [s0, s1] w 0 Q ↔ wp d 179 77 [l0, l1] [.int 4, s0, s1] w 0 Q) ∧
  (∀ (d : Nat) (l0 : Option Value) (s0 s1 s2 : Value) (x : Int32) (w : px_H) (Q : Option Value → px_H → Prop), wp d 179 77 [l0, some (.int x)] [s0, s1, s2] w 0 Q ↔ wp d 179 78 [l0, some (.int x)] [.int x, s0, s1, s2] w 0 Q) ∧
  (∀ (d : Nat) (l0 l1 : Option Value) (s2 s3 : Value) (x y : Int32) (w : px_H) (Q : Option Value → px_H → Prop), wp d 179 78 [l0, l1] [.int y, .int x, s2, s3] w 0 Q ↔ wp d 179 79 [l0, l1] [.int (x * y), s2, s3] w 0 Q) ∧
  (∀ (d : Nat) (l0 l1 : Option Value) (s2 : Value) (x y : Int32) (w : px_H) (Q : Option Value → px_H → Prop), wp d 179 79 [l0, l1] [.int y, .int x, s2] w 0 Q ↔ wp d 179 80 [l0, l1] [.int (x + y), s2] w 0 Q) ∧
  (∀ (d : Nat) (l0 l1 : Option Value) (s0 s1 : Value)  (w : px_H) (Q : Option Value → px_H → Prop), wp d 179 80 [l0, l1] [s0, s1] w 0 Q ↔ wp d 179 81 [l0, l1] [.int 3, s0, s1] w 0 Q) ∧
  (∀ (d : Nat) (l0 l1 : Option Value) (s2 : Value) (x y : Int32) (w : px_H) (Q : Option Value → px_H → Prop), wp d 179 81 [l0, l1] [.int y, .int x, s2] w 0 Q ↔ wp d 179 82 [l0, l1] [.int (x + y), s2] w 0 Q) ∧
  (∀ (d : Nat) (l1 : Option Value) (s0 s1 : Value) (a : Nat) (w : px_H) (Q : Option Value → px_H → Prop), wp d 179 82 [some (.ref a), l1] [s0, s1] w 0 Q ↔ wp d 179 83 [some (.ref a), l1] [.ref a, s0, s1] w 0 Q) ∧
  (∀ (d : Nat) (l0 l1 : Option Value) (s1 s2 : Value) (a : Nat) (w : px_H) (Q : Option Value → px_H → Prop), wp d 179 83 [l0, l1] [.ref a, s1, s2] w 0 Q ↔ px_op (px_fld w a [(11, 0)] 7) (fun v => wp d 179 86 [l0, l1] [v, s1, s2] w 0 Q)) ∧
  (∀ (d : Nat) (l0 l1 : Option Value) (s0 s1 s2 : Value)  (w : px_H) (Q : Option Value → px_H → Prop), wp d 179 86 [l0, l1] [s0, s1, s2] w 0 Q ↔ wp d 179 87 [l0, l1] [.int 4, s0, s1, s2] w 0 Q) ∧
  (∀ (d : Nat) (l1 : Option Value) (s0 s1 s2 s3 : Value) (a : Nat) (w : px_H) (Q : Option Value → px_H → Prop), wp d 179 87 [some (.ref a), l1] [s0, s1, s2, s3] w 0 Q ↔ wp d 179 88 [some (.ref a), l1] [.ref a, s0, s1, s2, s3] w 0 Q) ∧
  (∀ (d : Nat) (l0 l1 : Option Value) (s1 s2 s3 s4 : Value) (a : Nat) (w : px_H) (Q : Option Value → px_H → Prop), wp d 179 88 [l0, l1] [.ref a, s1, s2, s3, s4] w 0 Q ↔ px_op (px_fld w a [(11, 0)] 8) (fun v => wp d 179 91 [l0, l1] [v, s1, s2, s3, s4] w 0 Q)) ∧
  (∀ (d : Nat) (l0 l1 : Option Value) (s2 s3 s4 : Value) (x y : Int32) (w : px_H) (Q : Option Value → px_H → Prop), wp d 179 91 [l0, l1] [.int y, .int x, s2, s3, s4] w 0 Q ↔ wp d 179 92 [l0, l1] [.int (x * y), s2, s3, s4] w 0 Q) ∧
  (∀ (d : Nat) (l0 l1 : Option Value) (s0 s1 s2 s3 : Value)  (w : px_H) (Q : Option Value → px_H → Prop), wp d 179 92 [l0, l1] [s0, s1, s2, s3] w 0 Q ↔ wp d 179 93 [l0, l1] [.int 3, s0, s1, s2, s3] w 0 Q) ∧
  (∀ (d : Nat) (l0 l1 : Option Value) (s2 s3 s4 : Value) (x y : Int32) (w : px_H) (Q : Option Value → px_H → Prop), wp d 179 93 [l0, l1] [.int y, .int x, s2, s3, s4] w 0 Q ↔ wp d 179 94 [l0, l1] [.int (x + y), s2, s3, s4] w 0 Q) ∧
  (∀ (d : Nat) (l0 l1 : Option Value) (s2 s3 : Value) (i : Int32) (a : Nat) (w : px_H) (Q : Option Value → px_H → Prop), wp d 179 94 [l0, l1] [.int i, .ref a, s2, s3] w 0 Q ↔ px_op (px_ald w a i .int) (fun x => wp d 179 95 [l0, l1] [.int x, s2, s3] w 0 Q)) ∧
  (∀ (d : Nat) (l0 l1 : Option Value) (v0 v1 : Value) (b : Nat) (w : px_H) (Q : Option Value → px_H → Prop), wp (d + 1) 179 95 [l0, l1] [v1, v0, .ref b] w 0 Q ↔ px_op (px_tgt w b [(11, 150)]) (fun v => wc d v [.ref b, v0, v1] w (fun r w' => wp (d + 1) 179 98 [l0, l1] (r.toList ++ []) w' 0 Q))) ∧
  (∀ (d : Nat) (l1 : Option Value) (a : Nat) (w : px_H) (Q : Option Value → px_H → Prop), wp d 179 98 [some (.ref a), l1] [] w 0 Q ↔ wp d 179 99 [some (.ref a), l1] [.ref a] w 0 Q) ∧
  (∀ (d : Nat) (l0 l1 : Option Value) (a : Nat) (w : px_H) (Q : Option Value → px_H → Prop), wp d 179 99 [l0, l1] [.ref a] w 0 Q ↔ px_op (px_fld w a [(11, 0)] 8) (fun v => wp d 179 102 [l0, l1] [v] w 0 Q)) ∧
  (∀ (d : Nat) (l0 l1 : Option Value) (x : Int32) (w : px_H) (Q : Option Value → px_H → Prop), wp d 179 102 [l0, l1] [.int x] w 0 Q ↔ Q (some (.int x)) w) := ⟨fun d v0 w Q => r_entry pt_179 (Nat.le_of_ble_eq_true rfl) rfl,
  fun d l1 a w Q => px_go (q := (.aload_n 0, 1, px_x0)) (S' := (1, [some (.ref a), l1], [.ref a], w, 0)) pt_179 rfl rfl,
  fun d l0 l1 a w Q => px_goO (q := (.getfield 133, 3, (10, 8, [(11, 0)], 0, "AllSwornModel"))) (S' := fun v => (4, [l0, l1], [v], w, 0)) pt_179 rfl rfl,
  fun d l0 l1 x w Q => r_if_ne pt_179 rfl rfl,
  fun d l0 l1 w Q => px_go (q := (.ldc 175, 2, (0, 0, [], (-1000002), ""))) (S' := (9, [l0, l1], [.int (-1000002)], w, 0)) pt_179 rfl rfl,
  fun d l0 l1 x w Q => px_ret (q := (.ireturn, 1, px_x0)) pt_179 rfl rfl,
  fun d l1 a w Q => px_go (q := (.aload_n 0, 1, px_x0)) (S' := (11, [some (.ref a), l1], [.ref a], w, 0)) pt_179 rfl rfl,
  fun d l0 l1 s0 w Q => px_go (q := (.dup, 1, px_x0)) (S' := (12, [l0, l1], [s0, s0], w, 0)) pt_179 rfl rfl,
  fun d l0 l1 s1 a w Q => px_goO (q := (.getfield 133, 3, (10, 8, [(11, 0)], 0, "AllSwornModel"))) (S' := fun v => (15, [l0, l1], [v, s1], w, 0)) pt_179 rfl rfl,
  fun d l0 l1 s0 s1 w Q => r_iconst pt_179 rfl (by decide),
  fun d l0 l1 s2 x y w Q => px_go (q := (.isub, 1, px_x0)) (S' := (17, [l0, l1], [.int (x - y), s2], w, 0)) pt_179 rfl rfl,
  fun d l0 l1 x a w Q => r_put pt_179 rfl (by simp only [List.all_cons, List.all_nil, ft_11_8, px_fit, px_isr, Bool.and_self]),
  fun d l1 a w Q => px_go (q := (.aload_n 0, 1, px_x0)) (S' := (21, [some (.ref a), l1], [.ref a], w, 0)) pt_179 rfl rfl,
  fun d l0 l1 s0 w Q => r_iconst pt_179 rfl (by decide),
  fun d l1 s0 s1 a w Q => px_go (q := (.aload_n 0, 1, px_x0)) (S' := (23, [some (.ref a), l1], [.ref a, s0, s1], w, 0)) pt_179 rfl rfl,
  fun d l0 l1 s1 s2 a w Q => px_goO (q := (.getfield 26, 3, (10, 7, [(11, 0)], 0, "AllSwornModel"))) (S' := fun v => (26, [l0, l1], [v, s1, s2], w, 0)) pt_179 rfl rfl,
  fun d l0 l1 s0 s1 s2 w Q => r_iconst pt_179 rfl (by decide),
  fun d l1 s0 s1 s2 s3 a w Q => px_go (q := (.aload_n 0, 1, px_x0)) (S' := (28, [some (.ref a), l1], [.ref a, s0, s1, s2, s3], w, 0)) pt_179 rfl rfl,
  fun d l0 l1 s1 s2 s3 s4 a w Q => px_goO (q := (.getfield 133, 3, (10, 8, [(11, 0)], 0, "AllSwornModel"))) (S' := fun v => (31, [l0, l1], [v, s1, s2, s3, s4], w, 0)) pt_179 rfl rfl,
  fun d l0 l1 s2 s3 s4 x y w Q => px_go (q := (.imul, 1, px_x0)) (S' := (32, [l0, l1], [.int (x * y), s2, s3, s4], w, 0)) pt_179 rfl rfl,
  fun d l0 l1 s2 s3 i a w Q => px_goO (q := (.iaload, 1, px_x0)) (S' := fun x => (33, [l0, l1], [.int x, s2, s3], w, 0)) pt_179 rfl rfl,
  fun d l0 l1 v0 v1 b w Q => r_callV (q := (.invokevirtual 115, 3, (33, 2, [(11, 150)], 0, ""))) pt_179 rfl rfl (List.forall_mem_cons.mpr ⟨⟨_, pt_150, Nat.le_of_ble_eq_true rfl, (Nat.le_of_ble_eq_true rfl), rfl⟩, fun _ h => absurd h List.not_mem_nil⟩),
  fun d l1 a w Q => px_go (q := (.aload_n 0, 1, px_x0)) (S' := (37, [some (.ref a), l1], [.ref a], w, 0)) pt_179 rfl rfl,
  fun d l0 l1 s0 w Q => r_iconst pt_179 rfl (by decide),
  fun d l1 s0 s1 a w Q => px_go (q := (.aload_n 0, 1, px_x0)) (S' := (39, [some (.ref a), l1], [.ref a, s0, s1], w, 0)) pt_179 rfl rfl,
  fun d l0 l1 s1 s2 a w Q => px_goO (q := (.getfield 26, 3, (10, 7, [(11, 0)], 0, "AllSwornModel"))) (S' := fun v => (42, [l0, l1], [v, s1, s2], w, 0)) pt_179 rfl rfl,
  fun d l0 l1 s0 s1 s2 w Q => r_iconst pt_179 rfl (by decide),
  fun d l1 s0 s1 s2 s3 a w Q => px_go (q := (.aload_n 0, 1, px_x0)) (S' := (44, [some (.ref a), l1], [.ref a, s0, s1, s2, s3], w, 0)) pt_179 rfl rfl,
  fun d l0 l1 s1 s2 s3 s4 a w Q => px_goO (q := (.getfield 133, 3, (10, 8, [(11, 0)], 0, "AllSwornModel"))) (S' := fun v => (47, [l0, l1], [v, s1, s2, s3, s4], w, 0)) pt_179 rfl rfl,
  fun d l0 l1 s2 s3 s4 x y w Q => px_go (q := (.imul, 1, px_x0)) (S' := (48, [l0, l1], [.int (x * y), s2, s3, s4], w, 0)) pt_179 rfl rfl,
  fun d l0 l1 s0 s1 s2 s3 w Q => r_iconst pt_179 rfl (by decide),
  fun d l0 l1 s2 s3 s4 x y w Q => px_go (q := (.iadd, 1, px_x0)) (S' := (50, [l0, l1], [.int (x + y), s2, s3, s4], w, 0)) pt_179 rfl rfl,
  fun d l0 l1 s2 s3 i a w Q => px_goO (q := (.iaload, 1, px_x0)) (S' := fun x => (51, [l0, l1], [.int x, s2, s3], w, 0)) pt_179 rfl rfl,
  fun d l0 l1 v0 v1 b w Q => r_callV (q := (.invokevirtual 115, 3, (33, 2, [(11, 150)], 0, ""))) pt_179 rfl rfl (List.forall_mem_cons.mpr ⟨⟨_, pt_150, Nat.le_of_ble_eq_true rfl, (Nat.le_of_ble_eq_true rfl), rfl⟩, fun _ h => absurd h List.not_mem_nil⟩),
  fun d l1 a w Q => px_go (q := (.aload_n 0, 1, px_x0)) (S' := (55, [some (.ref a), l1], [.ref a], w, 0)) pt_179 rfl rfl,
  fun d l0 l1 a w Q => px_goO (q := (.getfield 26, 3, (10, 7, [(11, 0)], 0, "AllSwornModel"))) (S' := fun v => (58, [l0, l1], [v], w, 0)) pt_179 rfl rfl,
  fun d l0 l1 s0 w Q => r_iconst pt_179 rfl (by decide),
  fun d l1 s0 s1 a w Q => px_go (q := (.aload_n 0, 1, px_x0)) (S' := (60, [some (.ref a), l1], [.ref a, s0, s1], w, 0)) pt_179 rfl rfl,
  fun d l0 l1 s1 s2 a w Q => px_goO (q := (.getfield 133, 3, (10, 8, [(11, 0)], 0, "AllSwornModel"))) (S' := fun v => (63, [l0, l1], [v, s1, s2], w, 0)) pt_179 rfl rfl,
  fun d l0 l1 s2 x y w Q => px_go (q := (.imul, 1, px_x0)) (S' := (64, [l0, l1], [.int (x * y), s2], w, 0)) pt_179 rfl rfl,
  fun d l0 l1 s0 s1 w Q => r_iconst pt_179 rfl (by decide),
  fun d l0 l1 s2 x y w Q => px_go (q := (.iadd, 1, px_x0)) (S' := (66, [l0, l1], [.int (x + y), s2], w, 0)) pt_179 rfl rfl,
  fun d l0 l1 i a w Q => px_goO (q := (.iaload, 1, px_x0)) (S' := fun x => (67, [l0, l1], [.int x], w, 0)) pt_179 rfl rfl,
  fun d l0 l1 x w Q => px_go (q := (.istore_n 1, 1, px_x0)) (S' := (68, [l0, some (.int x)], [], w, 0)) pt_179 rfl rfl,
  fun d l0 x w Q => px_go (q := (.iload_n 1, 1, px_x0)) (S' := (69, [l0, some (.int x)], [.int x], w, 0)) pt_179 rfl rfl,
  fun d l0 l1 s0 w Q => px_go (q := (.ldc 119, 2, (0, 0, [], (-1000000), ""))) (S' := (71, [l0, l1], [.int (-1000000), s0], w, 0)) pt_179 rfl rfl,
  fun d l0 l1 x y w Q => r_icmp_eq pt_179 rfl rfl,
  fun d l1 a w Q => px_go (q := (.aload_n 0, 1, px_x0)) (S' := (75, [some (.ref a), l1], [.ref a], w, 0)) pt_179 rfl rfl,
  fun d l0 l1 s0 w Q => r_iconst pt_179 rfl (by decide),
  fun d l0 l1 s0 s1 w Q => r_iconst pt_179 rfl (by decide),
  fun d l0 s0 s1 s2 x w Q => px_go (q := (.iload_n 1, 1, px_x0)) (S' := (78, [l0, some (.int x)], [.int x, s0, s1, s2], w, 0)) pt_179 rfl rfl,
  fun d l0 l1 s2 s3 x y w Q => px_go (q := (.imul, 1, px_x0)) (S' := (79, [l0, l1], [.int (x * y), s2, s3], w, 0)) pt_179 rfl rfl,
  fun d l0 l1 s2 x y w Q => px_go (q := (.iadd, 1, px_x0)) (S' := (80, [l0, l1], [.int (x + y), s2], w, 0)) pt_179 rfl rfl,
  fun d l0 l1 s0 s1 w Q => r_iconst pt_179 rfl (by decide),
  fun d l0 l1 s2 x y w Q => px_go (q := (.iadd, 1, px_x0)) (S' := (82, [l0, l1], [.int (x + y), s2], w, 0)) pt_179 rfl rfl,
  fun d l1 s0 s1 a w Q => px_go (q := (.aload_n 0, 1, px_x0)) (S' := (83, [some (.ref a), l1], [.ref a, s0, s1], w, 0)) pt_179 rfl rfl,
  fun d l0 l1 s1 s2 a w Q => px_goO (q := (.getfield 26, 3, (10, 7, [(11, 0)], 0, "AllSwornModel"))) (S' := fun v => (86, [l0, l1], [v, s1, s2], w, 0)) pt_179 rfl rfl,
  fun d l0 l1 s0 s1 s2 w Q => r_iconst pt_179 rfl (by decide),
  fun d l1 s0 s1 s2 s3 a w Q => px_go (q := (.aload_n 0, 1, px_x0)) (S' := (88, [some (.ref a), l1], [.ref a, s0, s1, s2, s3], w, 0)) pt_179 rfl rfl,
  fun d l0 l1 s1 s2 s3 s4 a w Q => px_goO (q := (.getfield 133, 3, (10, 8, [(11, 0)], 0, "AllSwornModel"))) (S' := fun v => (91, [l0, l1], [v, s1, s2, s3, s4], w, 0)) pt_179 rfl rfl,
  fun d l0 l1 s2 s3 s4 x y w Q => px_go (q := (.imul, 1, px_x0)) (S' := (92, [l0, l1], [.int (x * y), s2, s3, s4], w, 0)) pt_179 rfl rfl,
  fun d l0 l1 s0 s1 s2 s3 w Q => r_iconst pt_179 rfl (by decide),
  fun d l0 l1 s2 s3 s4 x y w Q => px_go (q := (.iadd, 1, px_x0)) (S' := (94, [l0, l1], [.int (x + y), s2, s3, s4], w, 0)) pt_179 rfl rfl,
  fun d l0 l1 s2 s3 i a w Q => px_goO (q := (.iaload, 1, px_x0)) (S' := fun x => (95, [l0, l1], [.int x, s2, s3], w, 0)) pt_179 rfl rfl,
  fun d l0 l1 v0 v1 b w Q => r_callV (q := (.invokevirtual 115, 3, (33, 2, [(11, 150)], 0, ""))) pt_179 rfl rfl (List.forall_mem_cons.mpr ⟨⟨_, pt_150, Nat.le_of_ble_eq_true rfl, (Nat.le_of_ble_eq_true rfl), rfl⟩, fun _ h => absurd h List.not_mem_nil⟩),
  fun d l1 a w Q => px_go (q := (.aload_n 0, 1, px_x0)) (S' := (99, [some (.ref a), l1], [.ref a], w, 0)) pt_179 rfl rfl,
  fun d l0 l1 a w Q => px_goO (q := (.getfield 133, 3, (10, 8, [(11, 0)], 0, "AllSwornModel"))) (S' := fun v => (102, [l0, l1], [v], w, 0)) pt_179 rfl rfl,
  fun d l0 l1 x w Q => px_ret (q := (.ireturn, 1, px_x0)) pt_179 rfl rfl⟩
/-- AllSwornModel.sumOf(I)I heads: [4] -/
theorem S180 : (∀ (d : Nat) (v0 v1 : Value) (w : px_H) (Q : Option Value → px_H → Prop), wc d 180 [v0, v1] w Q ↔ wp d 180 0 [some v0, some v1, none, none] [] w 0 Q) ∧
  (∀ (d : Nat) (l0 l1 l2 l3 : Option Value)  (w : px_H) (Q : Option Value → px_H → Prop), wp d 180 0 [l0, l1, l2, l3] [] w 0 Q ↔ wp d 180 1 [l0, l1, l2, l3] [.int 0] w 0 Q) ∧
  (∀ (d : Nat) (l0 l1 l2 l3 : Option Value) (x : Int32) (w : px_H) (Q : Option Value → px_H → Prop), wp d 180 1 [l0, l1, l2, l3] [.int x] w 0 Q ↔ wp d 180 2 [l0, l1, some (.int x), l3] [] w 0 Q) ∧
  (∀ (d : Nat) (l0 l1 l2 l3 : Option Value)  (w : px_H) (Q : Option Value → px_H → Prop), wp d 180 2 [l0, l1, l2, l3] [] w 0 Q ↔ wp d 180 3 [l0, l1, l2, l3] [.int 0] w 0 Q) ∧
  (∀ (d : Nat) (l0 l1 l2 l3 : Option Value) (x : Int32) (w : px_H) (Q : Option Value → px_H → Prop), wp d 180 3 [l0, l1, l2, l3] [.int x] w 0 Q ↔ wp d 180 4 [l0, l1, l2, some (.int x)] [] w 0 Q) ∧
  (∀ (d : Nat) (l1 l2 l3 : Option Value) (s0 : Value) (a : Nat) (w : px_H) (Q : Option Value → px_H → Prop), wp d 180 5 [some (.ref a), l1, l2, l3] [s0] w 0 Q ↔ wp d 180 6 [some (.ref a), l1, l2, l3] [.ref a, s0] w 0 Q) ∧
  (∀ (d : Nat) (l0 l1 l2 l3 : Option Value) (s0 s1 : Value)  (w : px_H) (Q : Option Value → px_H → Prop), wp d 180 6 [l0, l1, l2, l3] [s0, s1] w 0 Q ↔ wp d 180 7 [l0, l1, l2, l3] [.int 1, s0, s1] w 0 Q) ∧
  (∀ (d : Nat) (l0 l1 l2 l3 : Option Value) (s2 : Value) (v0 : Value) (b : Nat) (w : px_H) (Q : Option Value → px_H → Prop), wp (d + 1) 180 7 [l0, l1, l2, l3] [v0, .ref b, s2] w 0 Q ↔ px_op (px_tgt w b [(11, 149)]) (fun v => wc d v [.ref b, v0] w (fun r w' => wp (d + 1) 180 10 [l0, l1, l2, l3] (r.toList ++ [s2]) w' 0 Q))) ∧
  (∀ (d : Nat) (l0 l1 l2 l3 : Option Value) (x y : Int32) (w : px_H) (Q : Option Value → px_H → Prop), wp d 180 10 [l0, l1, l2, l3] [.int y, .int x] w 0 Q ↔ if y ≤ x then wp d 180 34 [l0, l1, l2, l3] [] w 0 Q else wp d 180 13 [l0, l1, l2, l3] [] w 0 Q) ∧
  (∀ (d : Nat) (l0 l1 l3 : Option Value) (x : Int32) (w : px_H) (Q : Option Value → px_H → Prop), wp d 180 13 [l0, l1, some (.int x), l3] [] w 0 Q ↔ wp d 180 14 [l0, l1, some (.int x), l3] [.int x] w 0 Q) ∧
  (∀ (d : Nat) (l0 l2 l3 : Option Value) (s0 : Value) (x : Int32) (w : px_H) (Q : Option Value → px_H → Prop), wp d 180 14 [l0, some (.int x), l2, l3] [s0] w 0 Q ↔ wp d 180 15 [l0, some (.int x), l2, l3] [.int x, s0] w 0 Q) ∧
  (∀ (d : Nat) (l0 l1 l2 : Option Value) (s0 s1 : Value) (x : Int32) (w : px_H) (Q : Option Value → px_H → Prop), wp d 180 15 [l0, l1, l2, some (.int x)] [s0, s1] w 0 Q ↔ wp d 180 16 [l0, l1, l2, some (.int x)] [.int x, s0, s1] w 0 Q) ∧
  (∀ (d : Nat) (l0 l1 l2 l3 : Option Value) (s2 : Value) (x y : Int32) (w : px_H) (Q : Option Value → px_H → Prop), wp d 180 16 [l0, l1, l2, l3] [.int y, .int x, s2] w 0 Q ↔ wp d 180 17 [l0, l1, l2, l3] [.int (x >>> (y &&& 31)), s2] w 0 Q) ∧
  (∀ (d : Nat) (l0 l1 l2 l3 : Option Value) (s0 s1 : Value)  (w : px_H) (Q : Option Value → px_H → Prop), wp d 180 17 [l0, l1, l2, l3] [s0, s1] w 0 Q ↔ wp d 180 18 [l0, l1, l2, l3] [.int 1, s0, s1] w 0 Q) ∧
  (∀ (d : Nat) (l0 l1 l2 l3 : Option Value) (s2 : Value) (x y : Int32) (w : px_H) (Q : Option Value → px_H → Prop), wp d 180 18 [l0, l1, l2, l3] [.int y, .int x, s2] w 0 Q ↔ wp d 180 19 [l0, l1, l2, l3] [.int (x &&& y), s2] w 0 Q) ∧
  (∀ (d : Nat) (l1 l2 l3 : Option Value) (s0 s1 : Value) (a : Nat) (w : px_H) (Q : Option Value → px_H → Prop), wp d 180 19 [some (.ref a), l1, l2, l3] [s0, s1] w 0 Q ↔ wp d 180 20 [some (.ref a), l1, l2, l3] [.ref a, s0, s1] w 0 Q) ∧
  (∀ (d : Nat) (l0 l1 l2 : Option Value) (s0 s1 s2 : Value) (x : Int32) (w : px_H) (Q : Option Value → px_H → Prop), wp d 180 20 [l0, l1, l2, some (.int x)] [s0, s1, s2] w 0 Q ↔ wp d 180 21 [l0, l1, l2, some (.int x)] [.int x, s0, s1, s2] w 0 Q) ∧
  (∀ (d : Nat) (l0 l1 l2 l3 : Option Value) (s0 s1 s2 s3 : Value)  (w : px_H) (Q : Option Value → px_H → Prop), wp d 180 21 [l0, l1, l2, l3] [s0, s1, s2, s3] w 0 Q ↔ wp d 180 22 [l0, l1, l2, l3] [.int 2, s0, s1, s2, s3] w 0 Q) ∧
  (∀ (d : Nat) (l0 l1 l2 l3 : Option Value) (s3 s4 : Value) (v0 v1 : Value) (b : Nat) (w : px_H) (Q : Option Value → px_H → Prop), wp (d + 1) 180 22 [l0, l1, l2, l3] [v1, v0, .ref b, s3, s4] w 0 Q ↔ px_op (px_tgt w b [(11, 154)]) (fun v => wc d v [.ref b, v0, v1] w (fun r w' => wp (d + 1) 180 25 [l0, l1, l2, l3] (r.toList ++ [s3, s4]) w' 0 Q))) ∧
  (∀ (d : Nat) (l0 l1 l2 l3 : Option Value) (s2 : Value) (x y : Int32) (w : px_H) (Q : Option Value → px_H → Prop), wp d 180 25 [l0, l1, l2, l3] [.int y, .int x, s2] w 0 Q ↔ wp d 180 26 [l0, l1, l2, l3] [.int (x * y), s2] w 0 Q) ∧
  (∀ (d : Nat) (l0 l1 l2 l3 : Option Value) (x y : Int32) (w : px_H) (Q : Option Value → px_H → Prop), wp d 180 26 [l0, l1, l2, l3] [.int y, .int x] w 0 Q ↔ wp d 180 27 [l0, l1, l2, l3] [.int (x + y)] w 0 Q) ∧
  (∀ (d : Nat) (l0 l1 l2 l3 : Option Value) (x : Int32) (w : px_H) (Q : Option Value → px_H → Prop), wp d 180 27 [l0, l1, l2, l3] [.int x] w 0 Q ↔ wp d 180 28 [l0, l1, some (.int x), l3] [] w 0 Q) ∧
  (∀ (d : Nat) (l0 l1 l2 : Option Value) (x : Int32) (w : px_H) (Q : Option Value → px_H → Prop), wp d 180 28 [l0, l1, l2, some (.int x)] [] w 0 Q ↔ wp d 180 31 [l0, l1, l2, some (.int (x + 1))] [] w 0 Q) ∧
  (∀ (d : Nat) (l0 l1 l2 l3 : Option Value)  (w : px_H) (Q : Option Value → px_H → Prop), wp d 180 31 [l0, l1, l2, l3] [] w 0 Q ↔ wp d 180 4 [l0, l1, l2, l3] [] w 0 Q) ∧
  (∀ (d : Nat) (l0 l1 l3 : Option Value) (x : Int32) (w : px_H) (Q : Option Value → px_H → Prop), wp d 180 34 [l0, l1, some (.int x), l3] [] w 0 Q ↔ wp d 180 35 [l0, l1, some (.int x), l3] [.int x] w 0 Q) ∧
  (∀ (d : Nat) (l0 l1 l2 l3 : Option Value) (x : Int32) (w : px_H) (Q : Option Value → px_H → Prop), wp d 180 35 [l0, l1, l2, l3] [.int x] w 0 Q ↔ Q (some (.int x)) w) := ⟨fun d v0 v1 w Q => r_entry pt_180 (Nat.le_of_ble_eq_true rfl) rfl,
  fun d l0 l1 l2 l3 w Q => r_iconst pt_180 rfl (by decide),
  fun d l0 l1 l2 l3 x w Q => px_go (q := (.istore_n 2, 1, px_x0)) (S' := (2, [l0, l1, some (.int x), l3], [], w, 0)) pt_180 rfl rfl,
  fun d l0 l1 l2 l3 w Q => r_iconst pt_180 rfl (by decide),
  fun d l0 l1 l2 l3 x w Q => px_go (q := (.istore_n 3, 1, px_x0)) (S' := (4, [l0, l1, l2, some (.int x)], [], w, 0)) pt_180 rfl rfl,
  fun d l1 l2 l3 s0 a w Q => px_go (q := (.aload_n 0, 1, px_x0)) (S' := (6, [some (.ref a), l1, l2, l3], [.ref a, s0], w, 0)) pt_180 rfl rfl,
  fun d l0 l1 l2 l3 s0 s1 w Q => r_iconst pt_180 rfl (by decide),
  fun d l0 l1 l2 l3 s2 v0 b w Q => r_callV (q := (.invokevirtual 69, 3, (33, 1, [(11, 149)], 0, ""))) pt_180 rfl rfl (List.forall_mem_cons.mpr ⟨⟨_, pt_149, Nat.le_of_ble_eq_true rfl, (Nat.le_of_ble_eq_true rfl), rfl⟩, fun _ h => absurd h List.not_mem_nil⟩),
  fun d l0 l1 l2 l3 x y w Q => r_icmp_ge pt_180 rfl rfl,
  fun d l0 l1 l3 x w Q => px_go (q := (.iload_n 2, 1, px_x0)) (S' := (14, [l0, l1, some (.int x), l3], [.int x], w, 0)) pt_180 rfl rfl,
  fun d l0 l2 l3 s0 x w Q => px_go (q := (.iload_n 1, 1, px_x0)) (S' := (15, [l0, some (.int x), l2, l3], [.int x, s0], w, 0)) pt_180 rfl rfl,
  fun d l0 l1 l2 s0 s1 x w Q => px_go (q := (.iload_n 3, 1, px_x0)) (S' := (16, [l0, l1, l2, some (.int x)], [.int x, s0, s1], w, 0)) pt_180 rfl rfl,
  fun d l0 l1 l2 l3 s2 x y w Q => px_go (q := (.ishr, 1, px_x0)) (S' := (17, [l0, l1, l2, l3], [.int (x >>> (y &&& 31)), s2], w, 0)) pt_180 rfl rfl,
  fun d l0 l1 l2 l3 s0 s1 w Q => r_iconst pt_180 rfl (by decide),
  fun d l0 l1 l2 l3 s2 x y w Q => px_go (q := (.iand, 1, px_x0)) (S' := (19, [l0, l1, l2, l3], [.int (x &&& y), s2], w, 0)) pt_180 rfl rfl,
  fun d l1 l2 l3 s0 s1 a w Q => px_go (q := (.aload_n 0, 1, px_x0)) (S' := (20, [some (.ref a), l1, l2, l3], [.ref a, s0, s1], w, 0)) pt_180 rfl rfl,
  fun d l0 l1 l2 s0 s1 s2 x w Q => px_go (q := (.iload_n 3, 1, px_x0)) (S' := (21, [l0, l1, l2, some (.int x)], [.int x, s0, s1, s2], w, 0)) pt_180 rfl rfl,
  fun d l0 l1 l2 l3 s0 s1 s2 s3 w Q => r_iconst pt_180 rfl (by decide),
  fun d l0 l1 l2 l3 s3 s4 v0 v1 b w Q => r_callV (q := (.invokevirtual 136, 3, (33, 2, [(11, 154)], 0, ""))) pt_180 rfl rfl (List.forall_mem_cons.mpr ⟨⟨_, pt_154, Nat.le_of_ble_eq_true rfl, (Nat.le_of_ble_eq_true rfl), rfl⟩, fun _ h => absurd h List.not_mem_nil⟩),
  fun d l0 l1 l2 l3 s2 x y w Q => px_go (q := (.imul, 1, px_x0)) (S' := (26, [l0, l1, l2, l3], [.int (x * y), s2], w, 0)) pt_180 rfl rfl,
  fun d l0 l1 l2 l3 x y w Q => px_go (q := (.iadd, 1, px_x0)) (S' := (27, [l0, l1, l2, l3], [.int (x + y)], w, 0)) pt_180 rfl rfl,
  fun d l0 l1 l2 l3 x w Q => px_go (q := (.istore_n 2, 1, px_x0)) (S' := (28, [l0, l1, some (.int x), l3], [], w, 0)) pt_180 rfl rfl,
  fun d l0 l1 l2 x w Q => r_iinc pt_180 rfl rfl (by decide) rfl,
  fun d l0 l1 l2 l3 w Q => r_goto pt_180 rfl rfl,
  fun d l0 l1 l3 x w Q => px_go (q := (.iload_n 2, 1, px_x0)) (S' := (35, [l0, l1, some (.int x), l3], [.int x], w, 0)) pt_180 rfl rfl,
  fun d l0 l1 l2 l3 x w Q => px_ret (q := (.ireturn, 1, px_x0)) pt_180 rfl rfl⟩
theorem H180_4 : ∀ (d : Nat) (l0 l1 l2 : Option Value) (x : Int32) (w : px_H) (Q : Option Value → px_H → Prop), wp d 180 4 [l0, l1, l2, some (.int x)] [] w 0 Q ↔ wp d 180 5 [l0, l1, l2, some (.int x)] [.int x] w 0 Q := fun d l0 l1 l2 x w Q => px_go (q := (.iload_n 3, 1, px_x0)) (S' := (5, [l0, l1, l2, some (.int x)], [.int x], w, 0)) pt_180 rfl rfl
/-- AllSwornModel.thing(II)I -/
theorem S181 : (∀ (d : Nat) (v0 v1 v2 : Value) (w : px_H) (Q : Option Value → px_H → Prop), wc d 181 [v0, v1, v2] w Q ↔ wp d 181 0 [some v0, some v1, some v2] [] w 0 Q) ∧
  (∀ (d : Nat) (l1 l2 : Option Value) (a : Nat) (w : px_H) (Q : Option Value → px_H → Prop), wp d 181 0 [some (.ref a), l1, l2] [] w 0 Q ↔ wp d 181 1 [some (.ref a), l1, l2] [.ref a] w 0 Q) ∧
  (∀ (d : Nat) (l0 l2 : Option Value) (s0 : Value) (x : Int32) (w : px_H) (Q : Option Value → px_H → Prop), wp d 181 1 [l0, some (.int x), l2] [s0] w 0 Q ↔ wp d 181 2 [l0, some (.int x), l2] [.int x, s0] w 0 Q) ∧
  (∀ (d : Nat) (l0 l1 l2 : Option Value) (v0 : Value) (b : Nat) (w : px_H) (Q : Option Value → px_H → Prop), wp (d + 1) 181 2 [l0, l1, l2] [v0, .ref b] w 0 Q ↔ px_op (px_tgt w b [(11, 152)]) (fun v => wc d v [.ref b, v0] w (fun r w' => wp (d + 1) 181 5 [l0, l1, l2] (r.toList ++ []) w' 0 Q))) ∧
  (∀ (d : Nat) (l0 l1 l2 : Option Value) (x : Int32) (w : px_H) (Q : Option Value → px_H → Prop), wp d 181 5 [l0, l1, l2] [.int x] w 0 Q ↔ if x = 0 then wp d 181 8 [l0, l1, l2] [] w 0 Q else wp d 181 11 [l0, l1, l2] [] w 0 Q) ∧
  (∀ (d : Nat) (l0 l1 l2 : Option Value)  (w : px_H) (Q : Option Value → px_H → Prop), wp d 181 8 [l0, l1, l2] [] w 0 Q ↔ wp d 181 10 [l0, l1, l2] [.int (-1000001)] w 0 Q) ∧
  (∀ (d : Nat) (l0 l1 l2 : Option Value) (x : Int32) (w : px_H) (Q : Option Value → px_H → Prop), wp d 181 10 [l0, l1, l2] [.int x] w 0 Q ↔ Q (some (.int x)) w) ∧
  (∀ (d : Nat) (l1 l2 : Option Value) (a : Nat) (w : px_H) (Q : Option Value → px_H → Prop), wp d 181 11 [some (.ref a), l1, l2] [] w 0 Q ↔ wp d 181 12 [some (.ref a), l1, l2] [.ref a] w 0 Q) ∧
  (∀ (d : Nat) (l0 l1 l2 : Option Value)  (b : Nat) (w : px_H) (Q : Option Value → px_H → Prop), wp (d + 1) 181 12 [l0, l1, l2] [.ref b] w 0 Q ↔ px_op (px_tgt w b [(11, 167)]) (fun v => wc d v [.ref b] w (fun r w' => wp (d + 1) 181 15 [l0, l1, l2] (r.toList ++ []) w' 0 Q))) ∧
  (∀ (d : Nat) (l0 l1 : Option Value) (x : Int32) (w : px_H) (Q : Option Value → px_H → Prop), wp d 181 15 [l0, l1, some (.int x)] [] w 0 Q ↔ wp d 181 16 [l0, l1, some (.int x)] [.int x] w 0 Q) ∧
  (∀ (d : Nat) (l0 l1 l2 : Option Value) (x : Int32) (w : px_H) (Q : Option Value → px_H → Prop), wp d 181 16 [l0, l1, l2] [.int x] w 0 Q ↔ px_op (px_tsw 16 70 0 4 #[36, 36, 36, 45, 64] x) (fun t => wp d 181 t [l0, l1, l2] [] w 0 Q)) ∧
  (∀ (d : Nat) (l1 l2 : Option Value) (a : Nat) (w : px_H) (Q : Option Value → px_H → Prop), wp d 181 52 [some (.ref a), l1, l2] [] w 0 Q ↔ wp d 181 53 [some (.ref a), l1, l2] [.ref a] w 0 Q) ∧
  (∀ (d : Nat) (l0 l2 : Option Value) (s0 : Value) (x : Int32) (w : px_H) (Q : Option Value → px_H → Prop), wp d 181 53 [l0, some (.int x), l2] [s0] w 0 Q ↔ wp d 181 54 [l0, some (.int x), l2] [.int x, s0] w 0 Q) ∧
  (∀ (d : Nat) (l0 l1 l2 : Option Value) (s0 s1 : Value)  (w : px_H) (Q : Option Value → px_H → Prop), wp d 181 54 [l0, l1, l2] [s0, s1] w 0 Q ↔ wp d 181 55 [l0, l1, l2] [.int 1, s0, s1] w 0 Q) ∧
  (∀ (d : Nat) (l0 l1 : Option Value) (s0 s1 s2 : Value) (x : Int32) (w : px_H) (Q : Option Value → px_H → Prop), wp d 181 55 [l0, l1, some (.int x)] [s0, s1, s2] w 0 Q ↔ wp d 181 56 [l0, l1, some (.int x)] [.int x, s0, s1, s2] w 0 Q) ∧
  (∀ (d : Nat) (l0 l1 l2 : Option Value) (s2 s3 : Value) (x y : Int32) (w : px_H) (Q : Option Value → px_H → Prop), wp d 181 56 [l0, l1, l2] [.int y, .int x, s2, s3] w 0 Q ↔ wp d 181 57 [l0, l1, l2] [.int (x + y), s2, s3] w 0 Q) ∧
  (∀ (d : Nat) (l0 l1 l2 : Option Value) (v0 v1 : Value) (b : Nat) (w : px_H) (Q : Option Value → px_H → Prop), wp (d + 1) 181 57 [l0, l1, l2] [v1, v0, .ref b] w 0 Q ↔ px_op (px_tgt w b [(11, 154)]) (fun v => wc d v [.ref b, v0, v1] w (fun r w' => wp (d + 1) 181 60 [l0, l1, l2] (r.toList ++ []) w' 0 Q))) ∧
  (∀ (d : Nat) (l0 l1 l2 : Option Value) (x : Int32) (w : px_H) (Q : Option Value → px_H → Prop), wp d 181 60 [l0, l1, l2] [.int x] w 0 Q ↔ Q (some (.int x)) w) ∧
  (∀ (d : Nat) (l1 l2 : Option Value) (a : Nat) (w : px_H) (Q : Option Value → px_H → Prop), wp d 181 61 [some (.ref a), l1, l2] [] w 0 Q ↔ wp d 181 62 [some (.ref a), l1, l2] [.ref a] w 0 Q) ∧
  (∀ (d : Nat) (l1 l2 : Option Value) (s0 : Value) (a : Nat) (w : px_H) (Q : Option Value → px_H → Prop), wp d 181 62 [some (.ref a), l1, l2] [s0] w 0 Q ↔ wp d 181 63 [some (.ref a), l1, l2] [.ref a, s0] w 0 Q) ∧
  (∀ (d : Nat) (l0 l1 l2 : Option Value) (s0 s1 : Value)  (w : px_H) (Q : Option Value → px_H → Prop), wp d 181 63 [l0, l1, l2] [s0, s1] w 0 Q ↔ wp d 181 64 [l0, l1, l2] [.int 3, s0, s1] w 0 Q) ∧
  (∀ (d : Nat) (l0 l1 l2 : Option Value) (s2 : Value) (v0 : Value) (b : Nat) (w : px_H) (Q : Option Value → px_H → Prop), wp (d + 1) 181 64 [l0, l1, l2] [v0, .ref b, s2] w 0 Q ↔ px_op (px_tgt w b [(11, 149)]) (fun v => wc d v [.ref b, v0] w (fun r w' => wp (d + 1) 181 67 [l0, l1, l2] (r.toList ++ [s2]) w' 0 Q))) ∧
  (∀ (d : Nat) (l1 l2 : Option Value) (s0 s1 : Value) (a : Nat) (w : px_H) (Q : Option Value → px_H → Prop), wp d 181 67 [some (.ref a), l1, l2] [s0, s1] w 0 Q ↔ wp d 181 68 [some (.ref a), l1, l2] [.ref a, s0, s1] w 0 Q) ∧
  (∀ (d : Nat) (l0 l1 l2 : Option Value) (s0 s1 s2 : Value)  (w : px_H) (Q : Option Value → px_H → Prop), wp d 181 68 [l0, l1, l2] [s0, s1, s2] w 0 Q ↔ wp d 181 69 [l0, l1, l2] [.int 0, s0, s1, s2] w 0 Q) ∧
  (∀ (d : Nat) (l0 l1 l2 : Option Value) (s2 s3 : Value) (v0 : Value) (b : Nat) (w : px_H) (Q : Option Value → px_H → Prop), wp (d + 1) 181 69 [l0, l1, l2] [v0, .ref b, s2, s3] w 0 Q ↔ px_op (px_tgt w b [(11, 149)]) (fun v => wc d v [.ref b, v0] w (fun r w' => wp (d + 1) 181 72 [l0, l1, l2] (r.toList ++ [s2, s3]) w' 0 Q))) ∧
  (∀ (d : Nat) (l0 l1 l2 : Option Value) (v0 v1 : Value) (b : Nat) (w : px_H) (Q : Option Value → px_H → Prop), wp (d + 1) 181 72 [l0, l1, l2] [v1, v0, .ref b] w 0 Q ↔ px_op (px_tgt w b [(11, 168)]) (fun v => wc d v [.ref b, v0, v1] w (fun r w' => wp (d + 1) 181 75 [l0, l1, l2] (r.toList ++ []) w' 0 Q))) ∧
  (∀ (d : Nat) (l0 l2 : Option Value) (s0 : Value) (x : Int32) (w : px_H) (Q : Option Value → px_H → Prop), wp d 181 75 [l0, some (.int x), l2] [s0] w 0 Q ↔ wp d 181 76 [l0, some (.int x), l2] [.int x, s0] w 0 Q) ∧
  (∀ (d : Nat) (l0 l1 l2 : Option Value) (x y : Int32) (w : px_H) (Q : Option Value → px_H → Prop), wp d 181 76 [l0, l1, l2] [.int y, .int x] w 0 Q ↔ wp d 181 77 [l0, l1, l2] [.int (x >>> (y &&& 31))] w 0 Q) ∧
  (∀ (d : Nat) (l0 l1 l2 : Option Value) (s0 : Value)  (w : px_H) (Q : Option Value → px_H → Prop), wp d 181 77 [l0, l1, l2] [s0] w 0 Q ↔ wp d 181 78 [l0, l1, l2] [.int 1, s0] w 0 Q) ∧
  (∀ (d : Nat) (l0 l1 l2 : Option Value) (x y : Int32) (w : px_H) (Q : Option Value → px_H → Prop), wp d 181 78 [l0, l1, l2] [.int y, .int x] w 0 Q ↔ wp d 181 79 [l0, l1, l2] [.int (x &&& y)] w 0 Q) ∧
  (∀ (d : Nat) (l0 l1 l2 : Option Value) (x : Int32) (w : px_H) (Q : Option Value → px_H → Prop), wp d 181 79 [l0, l1, l2] [.int x] w 0 Q ↔ Q (some (.int x)) w) ∧
  (∀ (d : Nat) (l1 l2 : Option Value) (a : Nat) (w : px_H) (Q : Option Value → px_H → Prop), wp d 181 80 [some (.ref a), l1, l2] [] w 0 Q ↔ wp d 181 81 [some (.ref a), l1, l2] [.ref a] w 0 Q) ∧
  (∀ (d : Nat) (l0 l2 : Option Value) (s0 : Value) (x : Int32) (w : px_H) (Q : Option Value → px_H → Prop), wp d 181 81 [l0, some (.int x), l2] [s0] w 0 Q ↔ wp d 181 82 [l0, some (.int x), l2] [.int x, s0] w 0 Q) ∧
  (∀ (d : Nat) (l0 l1 l2 : Option Value) (v0 : Value) (b : Nat) (w : px_H) (Q : Option Value → px_H → Prop), wp (d + 1) 181 82 [l0, l1, l2] [v0, .ref b] w 0 Q ↔ px_op (px_tgt w b [(11, 172)]) (fun v => wc d v [.ref b, v0] w (fun r w' => wp (d + 1) 181 85 [l0, l1, l2] (r.toList ++ []) w' 0 Q))) ∧
  (∀ (d : Nat) (l0 l1 l2 : Option Value) (x : Int32) (w : px_H) (Q : Option Value → px_H → Prop), wp d 181 85 [l0, l1, l2] [.int x] w 0 Q ↔ Q (some (.int x)) w) ∧
  (∀ (d : Nat) (l0 l1 l2 : Option Value)  (w : px_H) (Q : Option Value → px_H → Prop), wp d 181 86 [l0, l1, l2] [] w 0 Q ↔ wp d 181 88 [l0, l1, l2] [.int (-1000001)] w 0 Q) ∧
  (∀ (d : Nat) (l0 l1 l2 : Option Value) (x : Int32) (w : px_H) (Q : Option Value → px_H → Prop), wp d 181 88 [l0, l1, l2] [.int x] w 0 Q ↔ Q (some (.int x)) w) := ⟨fun d v0 v1 v2 w Q => r_entry pt_181 (Nat.le_of_ble_eq_true rfl) rfl,
  fun d l1 l2 a w Q => px_go (q := (.aload_n 0, 1, px_x0)) (S' := (1, [some (.ref a), l1, l2], [.ref a], w, 0)) pt_181 rfl rfl,
  fun d l0 l2 s0 x w Q => px_go (q := (.iload_n 1, 1, px_x0)) (S' := (2, [l0, some (.int x), l2], [.int x, s0], w, 0)) pt_181 rfl rfl,
  fun d l0 l1 l2 v0 b w Q => r_callV (q := (.invokevirtual 152, 3, (33, 1, [(11, 152)], 0, ""))) pt_181 rfl rfl (List.forall_mem_cons.mpr ⟨⟨_, pt_152, Nat.le_of_ble_eq_true rfl, (Nat.le_of_ble_eq_true rfl), rfl⟩, fun _ h => absurd h List.not_mem_nil⟩),
  fun d l0 l1 l2 x w Q => r_if_ne pt_181 rfl rfl,
  fun d l0 l1 l2 w Q => px_go (q := (.ldc 58, 2, (0, 0, [], (-1000001), ""))) (S' := (10, [l0, l1, l2], [.int (-1000001)], w, 0)) pt_181 rfl rfl,
  fun d l0 l1 l2 x w Q => px_ret (q := (.ireturn, 1, px_x0)) pt_181 rfl rfl,
  fun d l1 l2 a w Q => px_go (q := (.aload_n 0, 1, px_x0)) (S' := (12, [some (.ref a), l1, l2], [.ref a], w, 0)) pt_181 rfl rfl,
  fun d l0 l1 l2 b w Q => r_callV (q := (.invokevirtual 146, 3, (33, 0, [(11, 167)], 0, ""))) pt_181 rfl rfl (List.forall_mem_cons.mpr ⟨⟨_, pt_167, Nat.le_of_ble_eq_true rfl, (Nat.le_of_ble_eq_true rfl), rfl⟩, fun _ h => absurd h List.not_mem_nil⟩),
  fun d l0 l1 x w Q => px_go (q := (.iload_n 2, 1, px_x0)) (S' := (16, [l0, l1, some (.int x)], [.int x], w, 0)) pt_181 rfl rfl,
  fun d l0 l1 l2 x w Q => r_tsw pt_181 rfl,
  fun d l1 l2 a w Q => px_go (q := (.aload_n 0, 1, px_x0)) (S' := (53, [some (.ref a), l1, l2], [.ref a], w, 0)) pt_181 rfl rfl,
  fun d l0 l2 s0 x w Q => px_go (q := (.iload_n 1, 1, px_x0)) (S' := (54, [l0, some (.int x), l2], [.int x, s0], w, 0)) pt_181 rfl rfl,
  fun d l0 l1 l2 s0 s1 w Q => r_iconst pt_181 rfl (by decide),
  fun d l0 l1 s0 s1 s2 x w Q => px_go (q := (.iload_n 2, 1, px_x0)) (S' := (56, [l0, l1, some (.int x)], [.int x, s0, s1, s2], w, 0)) pt_181 rfl rfl,
  fun d l0 l1 l2 s2 s3 x y w Q => px_go (q := (.iadd, 1, px_x0)) (S' := (57, [l0, l1, l2], [.int (x + y), s2, s3], w, 0)) pt_181 rfl rfl,
  fun d l0 l1 l2 v0 v1 b w Q => r_callV (q := (.invokevirtual 136, 3, (33, 2, [(11, 154)], 0, ""))) pt_181 rfl rfl (List.forall_mem_cons.mpr ⟨⟨_, pt_154, Nat.le_of_ble_eq_true rfl, (Nat.le_of_ble_eq_true rfl), rfl⟩, fun _ h => absurd h List.not_mem_nil⟩),
  fun d l0 l1 l2 x w Q => px_ret (q := (.ireturn, 1, px_x0)) pt_181 rfl rfl,
  fun d l1 l2 a w Q => px_go (q := (.aload_n 0, 1, px_x0)) (S' := (62, [some (.ref a), l1, l2], [.ref a], w, 0)) pt_181 rfl rfl,
  fun d l1 l2 s0 a w Q => px_go (q := (.aload_n 0, 1, px_x0)) (S' := (63, [some (.ref a), l1, l2], [.ref a, s0], w, 0)) pt_181 rfl rfl,
  fun d l0 l1 l2 s0 s1 w Q => r_iconst pt_181 rfl (by decide),
  fun d l0 l1 l2 s2 v0 b w Q => r_callV (q := (.invokevirtual 69, 3, (33, 1, [(11, 149)], 0, ""))) pt_181 rfl rfl (List.forall_mem_cons.mpr ⟨⟨_, pt_149, Nat.le_of_ble_eq_true rfl, (Nat.le_of_ble_eq_true rfl), rfl⟩, fun _ h => absurd h List.not_mem_nil⟩),
  fun d l1 l2 s0 s1 a w Q => px_go (q := (.aload_n 0, 1, px_x0)) (S' := (68, [some (.ref a), l1, l2], [.ref a, s0, s1], w, 0)) pt_181 rfl rfl,
  fun d l0 l1 l2 s0 s1 s2 w Q => r_iconst pt_181 rfl (by decide),
  fun d l0 l1 l2 s2 s3 v0 b w Q => r_callV (q := (.invokevirtual 69, 3, (33, 1, [(11, 149)], 0, ""))) pt_181 rfl rfl (List.forall_mem_cons.mpr ⟨⟨_, pt_149, Nat.le_of_ble_eq_true rfl, (Nat.le_of_ble_eq_true rfl), rfl⟩, fun _ h => absurd h List.not_mem_nil⟩),
  fun d l0 l1 l2 v0 v1 b w Q => r_callV (q := (.invokevirtual 140, 3, (33, 2, [(11, 168)], 0, ""))) pt_181 rfl rfl (List.forall_mem_cons.mpr ⟨⟨_, pt_168, Nat.le_of_ble_eq_true rfl, (Nat.le_of_ble_eq_true rfl), rfl⟩, fun _ h => absurd h List.not_mem_nil⟩),
  fun d l0 l2 s0 x w Q => px_go (q := (.iload_n 1, 1, px_x0)) (S' := (76, [l0, some (.int x), l2], [.int x, s0], w, 0)) pt_181 rfl rfl,
  fun d l0 l1 l2 x y w Q => px_go (q := (.ishr, 1, px_x0)) (S' := (77, [l0, l1, l2], [.int (x >>> (y &&& 31))], w, 0)) pt_181 rfl rfl,
  fun d l0 l1 l2 s0 w Q => r_iconst pt_181 rfl (by decide),
  fun d l0 l1 l2 x y w Q => px_go (q := (.iand, 1, px_x0)) (S' := (79, [l0, l1, l2], [.int (x &&& y)], w, 0)) pt_181 rfl rfl,
  fun d l0 l1 l2 x w Q => px_ret (q := (.ireturn, 1, px_x0)) pt_181 rfl rfl,
  fun d l1 l2 a w Q => px_go (q := (.aload_n 0, 1, px_x0)) (S' := (81, [some (.ref a), l1, l2], [.ref a], w, 0)) pt_181 rfl rfl,
  fun d l0 l2 s0 x w Q => px_go (q := (.iload_n 1, 1, px_x0)) (S' := (82, [l0, some (.int x), l2], [.int x, s0], w, 0)) pt_181 rfl rfl,
  fun d l0 l1 l2 v0 b w Q => r_callV (q := (.invokevirtual 155, 3, (33, 1, [(11, 172)], 0, ""))) pt_181 rfl rfl (List.forall_mem_cons.mpr ⟨⟨_, pt_172, Nat.le_of_ble_eq_true rfl, (Nat.le_of_ble_eq_true rfl), rfl⟩, fun _ h => absurd h List.not_mem_nil⟩),
  fun d l0 l1 l2 x w Q => px_ret (q := (.ireturn, 1, px_x0)) pt_181 rfl rfl,
  fun d l0 l1 l2 w Q => px_go (q := (.ldc 58, 2, (0, 0, [], (-1000001), ""))) (S' := (88, [l0, l1, l2], [.int (-1000001)], w, 0)) pt_181 rfl rfl,
  fun d l0 l1 l2 x w Q => px_ret (q := (.ireturn, 1, px_x0)) pt_181 rfl rfl⟩
/-- AllSwornModel.harm(II)I -/
theorem S182 : (∀ (d : Nat) (v0 v1 v2 : Value) (w : px_H) (Q : Option Value → px_H → Prop), wc d 182 [v0, v1, v2] w Q ↔ wp d 182 0 [some v0, some v1, some v2, none] [] w 0 Q) ∧
  (∀ (d : Nat) (l1 l2 l3 : Option Value) (a : Nat) (w : px_H) (Q : Option Value → px_H → Prop), wp d 182 0 [some (.ref a), l1, l2, l3] [] w 0 Q ↔ wp d 182 1 [some (.ref a), l1, l2, l3] [.ref a] w 0 Q) ∧
  (∀ (d : Nat) (l0 l2 l3 : Option Value) (s0 : Value) (x : Int32) (w : px_H) (Q : Option Value → px_H → Prop), wp d 182 1 [l0, some (.int x), l2, l3] [s0] w 0 Q ↔ wp d 182 2 [l0, some (.int x), l2, l3] [.int x, s0] w 0 Q) ∧
  (∀ (d : Nat) (l0 l1 l2 l3 : Option Value) (v0 : Value) (b : Nat) (w : px_H) (Q : Option Value → px_H → Prop), wp (d + 1) 182 2 [l0, l1, l2, l3] [v0, .ref b] w 0 Q ↔ px_op (px_tgt w b [(11, 153)]) (fun v => wc d v [.ref b, v0] w (fun r w' => wp (d + 1) 182 5 [l0, l1, l2, l3] (r.toList ++ []) w' 0 Q))) ∧
  (∀ (d : Nat) (l0 l1 l2 l3 : Option Value) (x : Int32) (w : px_H) (Q : Option Value → px_H → Prop), wp d 182 5 [l0, l1, l2, l3] [.int x] w 0 Q ↔ if x = 0 then wp d 182 17 [l0, l1, l2, l3] [] w 0 Q else wp d 182 8 [l0, l1, l2, l3] [] w 0 Q) ∧
  (∀ (d : Nat) (l0 l1 l3 : Option Value) (x : Int32) (w : px_H) (Q : Option Value → px_H → Prop), wp d 182 8 [l0, l1, some (.int x), l3] [] w 0 Q ↔ wp d 182 9 [l0, l1, some (.int x), l3] [.int x] w 0 Q) ∧
  (∀ (d : Nat) (l0 l1 l2 l3 : Option Value) (s0 : Value)  (w : px_H) (Q : Option Value → px_H → Prop), wp d 182 9 [l0, l1, l2, l3] [s0] w 0 Q ↔ wp d 182 10 [l0, l1, l2, l3] [.int 0, s0] w 0 Q) ∧
  (∀ (d : Nat) (l0 l1 l2 l3 : Option Value) (s0 s1 : Value)  (w : px_H) (Q : Option Value → px_H → Prop), wp d 182 10 [l0, l1, l2, l3] [s0, s1] w 0 Q ↔ wp d 182 11 [l0, l1, l2, l3] [.int 2, s0, s1] w 0 Q) ∧
  (∀ (d : Nat) (l0 l1 l2 l3 : Option Value) (v0 v1 v2 : Value) (w : px_H) (Q : Option Value → px_H → Prop), wp (d + 1) 182 11 [l0, l1, l2, l3] [v2, v1, v0] w 0 Q ↔ wc d 140 [v0, v1, v2] w (fun r w' => wp (d + 1) 182 14 [l0, l1, l2, l3] (r.toList ++ []) w' 0 Q)) ∧
  (∀ (d : Nat) (l0 l1 l2 l3 : Option Value) (x : Int32) (w : px_H) (Q : Option Value → px_H → Prop), wp d 182 14 [l0, l1, l2, l3] [.int x] w 0 Q ↔ if x = 0 then wp d 182 17 [l0, l1, l2, l3] [] w 0 Q else wp d 182 20 [l0, l1, l2, l3] [] w 0 Q) ∧
  (∀ (d : Nat) (l0 l1 l2 l3 : Option Value)  (w : px_H) (Q : Option Value → px_H → Prop), wp d 182 17 [l0, l1, l2, l3] [] w 0 Q ↔ wp d 182 19 [l0, l1, l2, l3] [.int (-1000001)] w 0 Q) ∧
  (∀ (d : Nat) (l0 l1 l2 l3 : Option Value) (x : Int32) (w : px_H) (Q : Option Value → px_H → Prop), wp d 182 19 [l0, l1, l2, l3] [.int x] w 0 Q ↔ Q (some (.int x)) w) ∧
  (∀ (d : Nat) (l1 l2 l3 : Option Value) (a : Nat) (w : px_H) (Q : Option Value → px_H → Prop), wp d 182 20 [some (.ref a), l1, l2, l3] [] w 0 Q ↔ wp d 182 21 [some (.ref a), l1, l2, l3] [.ref a] w 0 Q) ∧
  (∀ (d : Nat) (l0 l1 l2 l3 : Option Value) (s0 : Value)  (w : px_H) (Q : Option Value → px_H → Prop), wp d 182 21 [l0, l1, l2, l3] [s0] w 0 Q ↔ wp d 182 23 [l0, l1, l2, l3] [.int 37, s0] w 0 Q) ∧
  (∀ (d : Nat) (l0 l2 l3 : Option Value) (s0 s1 : Value) (x : Int32) (w : px_H) (Q : Option Value → px_H → Prop), wp d 182 23 [l0, some (.int x), l2, l3] [s0, s1] w 0 Q ↔ wp d 182 24 [l0, some (.int x), l2, l3] [.int x, s0, s1] w 0 Q) ∧
  (∀ (d : Nat) (l0 l1 l2 l3 : Option Value) (s2 : Value) (x y : Int32) (w : px_H) (Q : Option Value → px_H → Prop), wp d 182 24 [l0, l1, l2, l3] [.int y, .int x, s2] w 0 Q ↔ wp d 182 25 [l0, l1, l2, l3] [.int (x + y), s2] w 0 Q) ∧
  (∀ (d : Nat) (l0 l1 l2 l3 : Option Value) (v0 : Value) (b : Nat) (w : px_H) (Q : Option Value → px_H → Prop), wp (d + 1) 182 25 [l0, l1, l2, l3] [v0, .ref b] w 0 Q ↔ px_op (px_tgt w b [(11, 149)]) (fun v => wc d v [.ref b, v0] w (fun r w' => wp (d + 1) 182 28 [l0, l1, l2, l3] (r.toList ++ []) w' 0 Q))) ∧
  (∀ (d : Nat) (l0 l1 l2 l3 : Option Value) (x : Int32) (w : px_H) (Q : Option Value → px_H → Prop), wp d 182 28 [l0, l1, l2, l3] [.int x] w 0 Q ↔ wp d 182 29 [l0, l1, l2, some (.int x)] [] w 0 Q) ∧
  (∀ (d : Nat) (l0 l1 l3 : Option Value) (x : Int32) (w : px_H) (Q : Option Value → px_H → Prop), wp d 182 29 [l0, l1, some (.int x), l3] [] w 0 Q ↔ wp d 182 30 [l0, l1, some (.int x), l3] [.int x] w 0 Q) ∧
  (∀ (d : Nat) (l0 l1 l2 l3 : Option Value) (x : Int32) (w : px_H) (Q : Option Value → px_H → Prop), wp d 182 30 [l0, l1, l2, l3] [.int x] w 0 Q ↔ if x = 0 then wp d 182 33 [l0, l1, l2, l3] [] w 0 Q else wp d 182 37 [l0, l1, l2, l3] [] w 0 Q) ∧
  (∀ (d : Nat) (l0 l1 l2 : Option Value) (x : Int32) (w : px_H) (Q : Option Value → px_H → Prop), wp d 182 33 [l0, l1, l2, some (.int x)] [] w 0 Q ↔ wp d 182 34 [l0, l1, l2, some (.int x)] [.int x] w 0 Q) ∧
  (∀ (d : Nat) (l0 l1 l2 l3 : Option Value) (s0 : Value)  (w : px_H) (Q : Option Value → px_H → Prop), wp d 182 34 [l0, l1, l2, l3] [s0] w 0 Q ↔ wp d 182 65 [l0, l1, l2, l3] [s0] w 0 Q) ∧
  (∀ (d : Nat) (l0 l1 l3 : Option Value) (x : Int32) (w : px_H) (Q : Option Value → px_H → Prop), wp d 182 37 [l0, l1, some (.int x), l3] [] w 0 Q ↔ wp d 182 38 [l0, l1, some (.int x), l3] [.int x] w 0 Q) ∧
  (∀ (d : Nat) (l0 l1 l2 l3 : Option Value) (s0 : Value)  (w : px_H) (Q : Option Value → px_H → Prop), wp d 182 38 [l0, l1, l2, l3] [s0] w 0 Q ↔ wp d 182 39 [l0, l1, l2, l3] [.int 2, s0] w 0 Q) ∧
  (∀ (d : Nat) (l0 l1 l2 l3 : Option Value) (x y : Int32) (w : px_H) (Q : Option Value → px_H → Prop), wp d 182 39 [l0, l1, l2, l3] [.int y, .int x] w 0 Q ↔ if x = y then wp d 182 42 [l0, l1, l2, l3] [] w 0 Q else wp d 182 50 [l0, l1, l2, l3] [] w 0 Q) ∧
  (∀ (d : Nat) (l1 l2 l3 : Option Value) (a : Nat) (w : px_H) (Q : Option Value → px_H → Prop), wp d 182 42 [some (.ref a), l1, l2, l3] [] w 0 Q ↔ wp d 182 43 [some (.ref a), l1, l2, l3] [.ref a] w 0 Q) ∧
  (∀ (d : Nat) (l0 l1 l2 : Option Value) (s0 : Value) (x : Int32) (w : px_H) (Q : Option Value → px_H → Prop), wp d 182 43 [l0, l1, l2, some (.int x)] [s0] w 0 Q ↔ wp d 182 44 [l0, l1, l2, some (.int x)] [.int x, s0] w 0 Q) ∧
  (∀ (d : Nat) (l0 l1 l2 l3 : Option Value) (v0 : Value) (b : Nat) (w : px_H) (Q : Option Value → px_H → Prop), wp (d + 1) 182 44 [l0, l1, l2, l3] [v0, .ref b] w 0 Q ↔ px_op (px_tgt w b [(11, 180)]) (fun v => wc d v [.ref b, v0] w (fun r w' => wp (d + 1) 182 47 [l0, l1, l2, l3] (r.toList ++ []) w' 0 Q))) ∧
  (∀ (d : Nat) (l0 l1 l2 l3 : Option Value) (s0 : Value)  (w : px_H) (Q : Option Value → px_H → Prop), wp d 182 47 [l0, l1, l2, l3] [s0] w 0 Q ↔ wp d 182 65 [l0, l1, l2, l3] [s0] w 0 Q) ∧
  (∀ (d : Nat) (l0 l1 l2 l3 : Option Value)  (w : px_H) (Q : Option Value → px_H → Prop), wp d 182 50 [l0, l1, l2, l3] [] w 0 Q ↔ wp d 182 51 [l0, l1, l2, l3] [.int 1] w 0 Q) ∧
  (∀ (d : Nat) (l1 l2 l3 : Option Value) (s0 : Value) (a : Nat) (w : px_H) (Q : Option Value → px_H → Prop), wp d 182 51 [some (.ref a), l1, l2, l3] [s0] w 0 Q ↔ wp d 182 52 [some (.ref a), l1, l2, l3] [.ref a, s0] w 0 Q) ∧
  (∀ (d : Nat) (l1 l2 l3 : Option Value) (s0 s1 : Value) (a : Nat) (w : px_H) (Q : Option Value → px_H → Prop), wp d 182 52 [some (.ref a), l1, l2, l3] [s0, s1] w 0 Q ↔ wp d 182 53 [some (.ref a), l1, l2, l3] [.ref a, s0, s1] w 0 Q) ∧
  (∀ (d : Nat) (l0 l1 l2 l3 : Option Value) (s0 s1 s2 : Value)  (w : px_H) (Q : Option Value → px_H → Prop), wp d 182 53 [l0, l1, l2, l3] [s0, s1, s2] w 0 Q ↔ wp d 182 54 [l0, l1, l2, l3] [.int 3, s0, s1, s2] w 0 Q) ∧
  (∀ (d : Nat) (l0 l1 l2 l3 : Option Value) (s2 s3 : Value) (v0 : Value) (b : Nat) (w : px_H) (Q : Option Value → px_H → Prop), wp (d + 1) 182 54 [l0, l1, l2, l3] [v0, .ref b, s2, s3] w 0 Q ↔ px_op (px_tgt w b [(11, 149)]) (fun v => wc d v [.ref b, v0] w (fun r w' => wp (d + 1) 182 57 [l0, l1, l2, l3] (r.toList ++ [s2, s3]) w' 0 Q))) ∧
  (∀ (d : Nat) (l0 l1 l2 l3 : Option Value) (s2 : Value) (v0 : Value) (b : Nat) (w : px_H) (Q : Option Value → px_H → Prop), wp (d + 1) 182 57 [l0, l1, l2, l3] [v0, .ref b, s2] w 0 Q ↔ px_op (px_tgt w b [(11, 171)]) (fun v => wc d v [.ref b, v0] w (fun r w' => wp (d + 1) 182 60 [l0, l1, l2, l3] (r.toList ++ [s2]) w' 0 Q))) ∧
  (∀ (d : Nat) (l0 l2 l3 : Option Value) (s0 s1 : Value) (x : Int32) (w : px_H) (Q : Option Value → px_H → Prop), wp d 182 60 [l0, some (.int x), l2, l3] [s0, s1] w 0 Q ↔ wp d 182 61 [l0, some (.int x), l2, l3] [.int x, s0, s1] w 0 Q) ∧
  (∀ (d : Nat) (l0 l1 l2 l3 : Option Value) (s2 : Value) (x y : Int32) (w : px_H) (Q : Option Value → px_H → Prop), wp d 182 61 [l0, l1, l2, l3] [.int y, .int x, s2] w 0 Q ↔ wp d 182 62 [l0, l1, l2, l3] [.int (x >>> (y &&& 31)), s2] w 0 Q) ∧
  (∀ (d : Nat) (l0 l1 l2 l3 : Option Value) (s0 s1 : Value)  (w : px_H) (Q : Option Value → px_H → Prop), wp d 182 62 [l0, l1, l2, l3] [s0, s1] w 0 Q ↔ wp d 182 63 [l0, l1, l2, l3] [.int 1, s0, s1] w 0 Q) ∧
  (∀ (d : Nat) (l0 l1 l2 l3 : Option Value) (s2 : Value) (x y : Int32) (w : px_H) (Q : Option Value → px_H → Prop), wp d 182 63 [l0, l1, l2, l3] [.int y, .int x, s2] w 0 Q ↔ wp d 182 64 [l0, l1, l2, l3] [.int (x &&& y), s2] w 0 Q) ∧
  (∀ (d : Nat) (l0 l1 l2 l3 : Option Value) (x y : Int32) (w : px_H) (Q : Option Value → px_H → Prop), wp d 182 64 [l0, l1, l2, l3] [.int y, .int x] w 0 Q ↔ wp d 182 65 [l0, l1, l2, l3] [.int (x - y)] w 0 Q) ∧
  (∀ (d : Nat) (l0 l1 l2 l3 : Option Value) (x : Int32) (w : px_H) (Q : Option Value → px_H → Prop), wp d 182 65 [l0, l1, l2, l3] [.int x] w 0 Q ↔ Q (some (.int x)) w) := ⟨fun d v0 v1 v2 w Q => r_entry pt_182 (Nat.le_of_ble_eq_true rfl) rfl,
  fun d l1 l2 l3 a w Q => px_go (q := (.aload_n 0, 1, px_x0)) (S' := (1, [some (.ref a), l1, l2, l3], [.ref a], w, 0)) pt_182 rfl rfl,
  fun d l0 l2 l3 s0 x w Q => px_go (q := (.iload_n 1, 1, px_x0)) (S' := (2, [l0, some (.int x), l2, l3], [.int x, s0], w, 0)) pt_182 rfl rfl,
  fun d l0 l1 l2 l3 v0 b w Q => r_callV (q := (.invokevirtual 165, 3, (33, 1, [(11, 153)], 0, ""))) pt_182 rfl rfl (List.forall_mem_cons.mpr ⟨⟨_, pt_153, Nat.le_of_ble_eq_true rfl, (Nat.le_of_ble_eq_true rfl), rfl⟩, fun _ h => absurd h List.not_mem_nil⟩),
  fun d l0 l1 l2 l3 x w Q => r_if_eq pt_182 rfl rfl,
  fun d l0 l1 l3 x w Q => px_go (q := (.iload_n 2, 1, px_x0)) (S' := (9, [l0, l1, some (.int x), l3], [.int x], w, 0)) pt_182 rfl rfl,
  fun d l0 l1 l2 l3 s0 w Q => r_iconst pt_182 rfl (by decide),
  fun d l0 l1 l2 l3 s0 s1 w Q => r_iconst pt_182 rfl (by decide),
  fun d l0 l1 l2 l3 v0 v1 v2 w Q => r_call (q := (.invokestatic 50, 3, (30, 3, [(0, 140)], 0, ""))) pt_182 rfl rfl pt_140 (Nat.le_of_ble_eq_true rfl) (Nat.le_of_ble_eq_true rfl) rfl,
  fun d l0 l1 l2 l3 x w Q => r_if_ne pt_182 rfl rfl,
  fun d l0 l1 l2 l3 w Q => px_go (q := (.ldc 58, 2, (0, 0, [], (-1000001), ""))) (S' := (19, [l0, l1, l2, l3], [.int (-1000001)], w, 0)) pt_182 rfl rfl,
  fun d l0 l1 l2 l3 x w Q => px_ret (q := (.ireturn, 1, px_x0)) pt_182 rfl rfl,
  fun d l1 l2 l3 a w Q => px_go (q := (.aload_n 0, 1, px_x0)) (S' := (21, [some (.ref a), l1, l2, l3], [.ref a], w, 0)) pt_182 rfl rfl,
  fun d l0 l1 l2 l3 s0 w Q => r_bipush pt_182 rfl (by decide),
  fun d l0 l2 l3 s0 s1 x w Q => px_go (q := (.iload_n 1, 1, px_x0)) (S' := (24, [l0, some (.int x), l2, l3], [.int x, s0, s1], w, 0)) pt_182 rfl rfl,
  fun d l0 l1 l2 l3 s2 x y w Q => px_go (q := (.iadd, 1, px_x0)) (S' := (25, [l0, l1, l2, l3], [.int (x + y), s2], w, 0)) pt_182 rfl rfl,
  fun d l0 l1 l2 l3 v0 b w Q => r_callV (q := (.invokevirtual 69, 3, (33, 1, [(11, 149)], 0, ""))) pt_182 rfl rfl (List.forall_mem_cons.mpr ⟨⟨_, pt_149, Nat.le_of_ble_eq_true rfl, (Nat.le_of_ble_eq_true rfl), rfl⟩, fun _ h => absurd h List.not_mem_nil⟩),
  fun d l0 l1 l2 l3 x w Q => px_go (q := (.istore_n 3, 1, px_x0)) (S' := (29, [l0, l1, l2, some (.int x)], [], w, 0)) pt_182 rfl rfl,
  fun d l0 l1 l3 x w Q => px_go (q := (.iload_n 2, 1, px_x0)) (S' := (30, [l0, l1, some (.int x), l3], [.int x], w, 0)) pt_182 rfl rfl,
  fun d l0 l1 l2 l3 x w Q => r_if_ne pt_182 rfl rfl,
  fun d l0 l1 l2 x w Q => px_go (q := (.iload_n 3, 1, px_x0)) (S' := (34, [l0, l1, l2, some (.int x)], [.int x], w, 0)) pt_182 rfl rfl,
  fun d l0 l1 l2 l3 s0 w Q => r_goto pt_182 rfl rfl,
  fun d l0 l1 l3 x w Q => px_go (q := (.iload_n 2, 1, px_x0)) (S' := (38, [l0, l1, some (.int x), l3], [.int x], w, 0)) pt_182 rfl rfl,
  fun d l0 l1 l2 l3 s0 w Q => r_iconst pt_182 rfl (by decide),
  fun d l0 l1 l2 l3 x y w Q => r_icmp_ne pt_182 rfl rfl,
  fun d l1 l2 l3 a w Q => px_go (q := (.aload_n 0, 1, px_x0)) (S' := (43, [some (.ref a), l1, l2, l3], [.ref a], w, 0)) pt_182 rfl rfl,
  fun d l0 l1 l2 s0 x w Q => px_go (q := (.iload_n 3, 1, px_x0)) (S' := (44, [l0, l1, l2, some (.int x)], [.int x, s0], w, 0)) pt_182 rfl rfl,
  fun d l0 l1 l2 l3 v0 b w Q => r_callV (q := (.invokevirtual 176, 3, (33, 1, [(11, 180)], 0, ""))) pt_182 rfl rfl (List.forall_mem_cons.mpr ⟨⟨_, pt_180, Nat.le_of_ble_eq_true rfl, (Nat.le_of_ble_eq_true rfl), rfl⟩, fun _ h => absurd h List.not_mem_nil⟩),
  fun d l0 l1 l2 l3 s0 w Q => r_goto pt_182 rfl rfl,
  fun d l0 l1 l2 l3 w Q => r_iconst pt_182 rfl (by decide),
  fun d l1 l2 l3 s0 a w Q => px_go (q := (.aload_n 0, 1, px_x0)) (S' := (52, [some (.ref a), l1, l2, l3], [.ref a, s0], w, 0)) pt_182 rfl rfl,
  fun d l1 l2 l3 s0 s1 a w Q => px_go (q := (.aload_n 0, 1, px_x0)) (S' := (53, [some (.ref a), l1, l2, l3], [.ref a, s0, s1], w, 0)) pt_182 rfl rfl,
  fun d l0 l1 l2 l3 s0 s1 s2 w Q => r_iconst pt_182 rfl (by decide),
  fun d l0 l1 l2 l3 s2 s3 v0 b w Q => r_callV (q := (.invokevirtual 69, 3, (33, 1, [(11, 149)], 0, ""))) pt_182 rfl rfl (List.forall_mem_cons.mpr ⟨⟨_, pt_149, Nat.le_of_ble_eq_true rfl, (Nat.le_of_ble_eq_true rfl), rfl⟩, fun _ h => absurd h List.not_mem_nil⟩),
  fun d l0 l1 l2 l3 s2 v0 b w Q => r_callV (q := (.invokevirtual 168, 3, (33, 1, [(11, 171)], 0, ""))) pt_182 rfl rfl (List.forall_mem_cons.mpr ⟨⟨_, pt_171, Nat.le_of_ble_eq_true rfl, (Nat.le_of_ble_eq_true rfl), rfl⟩, fun _ h => absurd h List.not_mem_nil⟩),
  fun d l0 l2 l3 s0 s1 x w Q => px_go (q := (.iload_n 1, 1, px_x0)) (S' := (61, [l0, some (.int x), l2, l3], [.int x, s0, s1], w, 0)) pt_182 rfl rfl,
  fun d l0 l1 l2 l3 s2 x y w Q => px_go (q := (.ishr, 1, px_x0)) (S' := (62, [l0, l1, l2, l3], [.int (x >>> (y &&& 31)), s2], w, 0)) pt_182 rfl rfl,
  fun d l0 l1 l2 l3 s0 s1 w Q => r_iconst pt_182 rfl (by decide),
  fun d l0 l1 l2 l3 s2 x y w Q => px_go (q := (.iand, 1, px_x0)) (S' := (64, [l0, l1, l2, l3], [.int (x &&& y), s2], w, 0)) pt_182 rfl rfl,
  fun d l0 l1 l2 l3 x y w Q => px_go (q := (.isub, 1, px_x0)) (S' := (65, [l0, l1, l2, l3], [.int (x - y)], w, 0)) pt_182 rfl rfl,
  fun d l0 l1 l2 l3 x w Q => px_ret (q := (.ireturn, 1, px_x0)) pt_182 rfl rfl⟩
/-- AllSwornModel.isDay(I)Z -/
theorem S183 : (∀ (d : Nat) (v0 v1 : Value) (w : px_H) (Q : Option Value → px_H → Prop), wc d 183 [v0, v1] w Q ↔ wp d 183 0 [some v0, some v1] [] w 0 Q) ∧
  (∀ (d : Nat) (l0 : Option Value) (x : Int32) (w : px_H) (Q : Option Value → px_H → Prop), wp d 183 0 [l0, some (.int x)] [] w 0 Q ↔ wp d 183 1 [l0, some (.int x)] [.int x] w 0 Q) ∧
  (∀ (d : Nat) (l1 : Option Value) (s0 : Value) (a : Nat) (w : px_H) (Q : Option Value → px_H → Prop), wp d 183 1 [some (.ref a), l1] [s0] w 0 Q ↔ wp d 183 2 [some (.ref a), l1] [.ref a, s0] w 0 Q) ∧
  (∀ (d : Nat) (l0 l1 : Option Value) (s0 s1 : Value)  (w : px_H) (Q : Option Value → px_H → Prop), wp d 183 2 [l0, l1] [s0, s1] w 0 Q ↔ wp d 183 3 [l0, l1] [.int 3, s0, s1] w 0 Q) ∧
  (∀ (d : Nat) (l0 l1 : Option Value) (s2 : Value) (v0 : Value) (b : Nat) (w : px_H) (Q : Option Value → px_H → Prop), wp (d + 1) 183 3 [l0, l1] [v0, .ref b, s2] w 0 Q ↔ px_op (px_tgt w b [(11, 149)]) (fun v => wc d v [.ref b, v0] w (fun r w' => wp (d + 1) 183 6 [l0, l1] (r.toList ++ [s2]) w' 0 Q))) ∧
  (∀ (d : Nat) (l1 : Option Value) (s0 s1 : Value) (a : Nat) (w : px_H) (Q : Option Value → px_H → Prop), wp d 183 6 [some (.ref a), l1] [s0, s1] w 0 Q ↔ wp d 183 7 [some (.ref a), l1] [.ref a, s0, s1] w 0 Q) ∧
  (∀ (d : Nat) (l0 l1 : Option Value) (s0 s1 s2 : Value)  (w : px_H) (Q : Option Value → px_H → Prop), wp d 183 7 [l0, l1] [s0, s1, s2] w 0 Q ↔ wp d 183 8 [l0, l1] [.int 3, s0, s1, s2] w 0 Q) ∧
  (∀ (d : Nat) (l0 l1 : Option Value) (s2 s3 : Value) (v0 : Value) (b : Nat) (w : px_H) (Q : Option Value → px_H → Prop), wp (d + 1) 183 8 [l0, l1] [v0, .ref b, s2, s3] w 0 Q ↔ px_op (px_tgt w b [(11, 149)]) (fun v => wc d v [.ref b, v0] w (fun r w' => wp (d + 1) 183 11 [l0, l1] (r.toList ++ [s2, s3]) w' 0 Q))) ∧
  (∀ (d : Nat) (l0 l1 : Option Value) (s0 s1 s2 : Value)  (w : px_H) (Q : Option Value → px_H → Prop), wp d 183 11 [l0, l1] [s0, s1, s2] w 0 Q ↔ wp d 183 13 [l0, l1] [.int 100, s0, s1, s2] w 0 Q) ∧
  (∀ (d : Nat) (l0 l1 : Option Value) (s2 s3 : Value) (x y : Int32) (w : px_H) (Q : Option Value → px_H → Prop), wp d 183 13 [l0, l1] [.int y, .int x, s2, s3] w 0 Q ↔ wp d 183 14 [l0, l1] [.int (x + y), s2, s3] w 0 Q) ∧
  (∀ (d : Nat) (l0 l1 : Option Value) (v0 v1 v2 : Value) (w : px_H) (Q : Option Value → px_H → Prop), wp (d + 1) 183 14 [l0, l1] [v2, v1, v0] w 0 Q ↔ wc d 140 [v0, v1, v2] w (fun r w' => wp (d + 1) 183 17 [l0, l1] (r.toList ++ []) w' 0 Q)) ∧
  (∀ (d : Nat) (l0 l1 : Option Value) (x : Int32) (w : px_H) (Q : Option Value → px_H → Prop), wp d 183 17 [l0, l1] [.int x] w 0 Q ↔ (x = 0 ∨ x = 1) ∧ Q (some (.int x)) w) := ⟨fun d v0 v1 w Q => r_entry pt_183 (Nat.le_of_ble_eq_true rfl) rfl,
  fun d l0 x w Q => px_go (q := (.iload_n 1, 1, px_x0)) (S' := (1, [l0, some (.int x)], [.int x], w, 0)) pt_183 rfl rfl,
  fun d l1 s0 a w Q => px_go (q := (.aload_n 0, 1, px_x0)) (S' := (2, [some (.ref a), l1], [.ref a, s0], w, 0)) pt_183 rfl rfl,
  fun d l0 l1 s0 s1 w Q => r_iconst pt_183 rfl (by decide),
  fun d l0 l1 s2 v0 b w Q => r_callV (q := (.invokevirtual 69, 3, (33, 1, [(11, 149)], 0, ""))) pt_183 rfl rfl (List.forall_mem_cons.mpr ⟨⟨_, pt_149, Nat.le_of_ble_eq_true rfl, (Nat.le_of_ble_eq_true rfl), rfl⟩, fun _ h => absurd h List.not_mem_nil⟩),
  fun d l1 s0 s1 a w Q => px_go (q := (.aload_n 0, 1, px_x0)) (S' := (7, [some (.ref a), l1], [.ref a, s0, s1], w, 0)) pt_183 rfl rfl,
  fun d l0 l1 s0 s1 s2 w Q => r_iconst pt_183 rfl (by decide),
  fun d l0 l1 s2 s3 v0 b w Q => r_callV (q := (.invokevirtual 69, 3, (33, 1, [(11, 149)], 0, ""))) pt_183 rfl rfl (List.forall_mem_cons.mpr ⟨⟨_, pt_149, Nat.le_of_ble_eq_true rfl, (Nat.le_of_ble_eq_true rfl), rfl⟩, fun _ h => absurd h List.not_mem_nil⟩),
  fun d l0 l1 s0 s1 s2 w Q => r_bipush pt_183 rfl (by decide),
  fun d l0 l1 s2 s3 x y w Q => px_go (q := (.iadd, 1, px_x0)) (S' := (14, [l0, l1], [.int (x + y), s2, s3], w, 0)) pt_183 rfl rfl,
  fun d l0 l1 v0 v1 v2 w Q => r_call (q := (.invokestatic 50, 3, (30, 3, [(0, 140)], 0, ""))) pt_183 rfl rfl pt_140 (Nat.le_of_ble_eq_true rfl) (Nat.le_of_ble_eq_true rfl) rfl,
  fun d l0 l1 x w Q => px_retI (q := (.ireturn, 1, px_x0)) pt_183 rfl rfl⟩
/-- AllSwornModel.open(I)I -/
theorem S184 : (∀ (d : Nat) (v0 v1 : Value) (w : px_H) (Q : Option Value → px_H → Prop), wc d 184 [v0, v1] w Q ↔ wp d 184 0 [some v0, some v1] [] w 0 Q) ∧
  (∀ (d : Nat) (l1 : Option Value) (a : Nat) (w : px_H) (Q : Option Value → px_H → Prop), wp d 184 0 [some (.ref a), l1] [] w 0 Q ↔ wp d 184 1 [some (.ref a), l1] [.ref a] w 0 Q) ∧
  (∀ (d : Nat) (l0 l1 : Option Value)  (b : Nat) (w : px_H) (Q : Option Value → px_H → Prop), wp (d + 1) 184 1 [l0, l1] [.ref b] w 0 Q ↔ px_op (px_tgt w b [(11, 175)]) (fun v => wc d v [.ref b] w (fun r w' => wp (d + 1) 184 4 [l0, l1] (r.toList ++ []) w' 0 Q))) ∧
  (∀ (d : Nat) (l0 l1 : Option Value) (x : Int32) (w : px_H) (Q : Option Value → px_H → Prop), wp d 184 4 [l0, l1] [.int x] w 0 Q ↔ if x = 0 then wp d 184 7 [l0, l1] [] w 0 Q else wp d 184 10 [l0, l1] [] w 0 Q) ∧
  (∀ (d : Nat) (l0 l1 : Option Value)  (w : px_H) (Q : Option Value → px_H → Prop), wp d 184 7 [l0, l1] [] w 0 Q ↔ wp d 184 9 [l0, l1] [.int (-1000002)] w 0 Q) ∧
  (∀ (d : Nat) (l0 l1 : Option Value) (x : Int32) (w : px_H) (Q : Option Value → px_H → Prop), wp d 184 9 [l0, l1] [.int x] w 0 Q ↔ Q (some (.int x)) w) ∧
  (∀ (d : Nat) (l1 : Option Value) (a : Nat) (w : px_H) (Q : Option Value → px_H → Prop), wp d 184 10 [some (.ref a), l1] [] w 0 Q ↔ wp d 184 11 [some (.ref a), l1] [.ref a] w 0 Q) ∧
  (∀ (d : Nat) (l0 : Option Value) (s0 : Value) (x : Int32) (w : px_H) (Q : Option Value → px_H → Prop), wp d 184 11 [l0, some (.int x)] [s0] w 0 Q ↔ wp d 184 12 [l0, some (.int x)] [.int x, s0] w 0 Q) ∧
  (∀ (d : Nat) (l0 l1 : Option Value) (v0 : Value) (b : Nat) (w : px_H) (Q : Option Value → px_H → Prop), wp (d + 1) 184 12 [l0, l1] [v0, .ref b] w 0 Q ↔ px_op (px_tgt w b [(11, 183)]) (fun v => wc d v [.ref b, v0] w (fun r w' => wp (d + 1) 184 15 [l0, l1] (r.toList ++ []) w' 0 Q))) ∧
  (∀ (d : Nat) (l0 l1 : Option Value) (x : Int32) (w : px_H) (Q : Option Value → px_H → Prop), wp d 184 15 [l0, l1] [.int x] w 0 Q ↔ if x = 0 then wp d 184 26 [l0, l1] [] w 0 Q else wp d 184 18 [l0, l1] [] w 0 Q) ∧
  (∀ (d : Nat) (l1 : Option Value) (a : Nat) (w : px_H) (Q : Option Value → px_H → Prop), wp d 184 18 [some (.ref a), l1] [] w 0 Q ↔ wp d 184 19 [some (.ref a), l1] [.ref a] w 0 Q) ∧
  (∀ (d : Nat) (l0 : Option Value) (s0 : Value) (x : Int32) (w : px_H) (Q : Option Value → px_H → Prop), wp d 184 19 [l0, some (.int x)] [s0] w 0 Q ↔ wp d 184 20 [l0, some (.int x)] [.int x, s0] w 0 Q) ∧
  (∀ (d : Nat) (l0 l1 : Option Value) (v0 : Value) (b : Nat) (w : px_H) (Q : Option Value → px_H → Prop), wp (d + 1) 184 20 [l0, l1] [v0, .ref b] w 0 Q ↔ px_op (px_tgt w b [(11, 171)]) (fun v => wc d v [.ref b, v0] w (fun r w' => wp (d + 1) 184 23 [l0, l1] (r.toList ++ []) w' 0 Q))) ∧
  (∀ (d : Nat) (l0 l1 : Option Value) (s0 : Value)  (w : px_H) (Q : Option Value → px_H → Prop), wp d 184 23 [l0, l1] [s0] w 0 Q ↔ wp d 184 28 [l0, l1] [s0] w 0 Q) ∧
  (∀ (d : Nat) (l0 l1 : Option Value)  (w : px_H) (Q : Option Value → px_H → Prop), wp d 184 26 [l0, l1] [] w 0 Q ↔ wp d 184 28 [l0, l1] [.int (-1000001)] w 0 Q) ∧
  (∀ (d : Nat) (l0 l1 : Option Value) (x : Int32) (w : px_H) (Q : Option Value → px_H → Prop), wp d 184 28 [l0, l1] [.int x] w 0 Q ↔ Q (some (.int x)) w) := ⟨fun d v0 v1 w Q => r_entry pt_184 (Nat.le_of_ble_eq_true rfl) rfl,
  fun d l1 a w Q => px_go (q := (.aload_n 0, 1, px_x0)) (S' := (1, [some (.ref a), l1], [.ref a], w, 0)) pt_184 rfl rfl,
  fun d l0 l1 b w Q => r_callV (q := (.invokevirtual 171, 3, (33, 0, [(11, 175)], 0, ""))) pt_184 rfl rfl (List.forall_mem_cons.mpr ⟨⟨_, pt_175, Nat.le_of_ble_eq_true rfl, (Nat.le_of_ble_eq_true rfl), rfl⟩, fun _ h => absurd h List.not_mem_nil⟩),
  fun d l0 l1 x w Q => r_if_ne pt_184 rfl rfl,
  fun d l0 l1 w Q => px_go (q := (.ldc 175, 2, (0, 0, [], (-1000002), ""))) (S' := (9, [l0, l1], [.int (-1000002)], w, 0)) pt_184 rfl rfl,
  fun d l0 l1 x w Q => px_ret (q := (.ireturn, 1, px_x0)) pt_184 rfl rfl,
  fun d l1 a w Q => px_go (q := (.aload_n 0, 1, px_x0)) (S' := (11, [some (.ref a), l1], [.ref a], w, 0)) pt_184 rfl rfl,
  fun d l0 s0 x w Q => px_go (q := (.iload_n 1, 1, px_x0)) (S' := (12, [l0, some (.int x)], [.int x, s0], w, 0)) pt_184 rfl rfl,
  fun d l0 l1 v0 b w Q => r_callV (q := (.invokevirtual 179, 3, (33, 1, [(11, 183)], 0, ""))) pt_184 rfl rfl (List.forall_mem_cons.mpr ⟨⟨_, pt_183, Nat.le_of_ble_eq_true rfl, (Nat.le_of_ble_eq_true rfl), rfl⟩, fun _ h => absurd h List.not_mem_nil⟩),
  fun d l0 l1 x w Q => r_if_eq pt_184 rfl rfl,
  fun d l1 a w Q => px_go (q := (.aload_n 0, 1, px_x0)) (S' := (19, [some (.ref a), l1], [.ref a], w, 0)) pt_184 rfl rfl,
  fun d l0 s0 x w Q => px_go (q := (.iload_n 1, 1, px_x0)) (S' := (20, [l0, some (.int x)], [.int x, s0], w, 0)) pt_184 rfl rfl,
  fun d l0 l1 v0 b w Q => r_callV (q := (.invokevirtual 168, 3, (33, 1, [(11, 171)], 0, ""))) pt_184 rfl rfl (List.forall_mem_cons.mpr ⟨⟨_, pt_171, Nat.le_of_ble_eq_true rfl, (Nat.le_of_ble_eq_true rfl), rfl⟩, fun _ h => absurd h List.not_mem_nil⟩),
  fun d l0 l1 s0 w Q => r_goto pt_184 rfl rfl,
  fun d l0 l1 w Q => px_go (q := (.ldc 58, 2, (0, 0, [], (-1000001), ""))) (S' := (28, [l0, l1], [.int (-1000001)], w, 0)) pt_184 rfl rfl,
  fun d l0 l1 x w Q => px_ret (q := (.ireturn, 1, px_x0)) pt_184 rfl rfl⟩
/-- AllSwornModel.gap()I heads: [16] -/
theorem S185 : (∀ (d : Nat) (v0 : Value) (w : px_H) (Q : Option Value → px_H → Prop), wc d 185 [v0] w Q ↔ wp d 185 0 [some v0, none] [] w 0 Q) ∧
  (∀ (d : Nat) (l1 : Option Value) (a : Nat) (w : px_H) (Q : Option Value → px_H → Prop), wp d 185 0 [some (.ref a), l1] [] w 0 Q ↔ wp d 185 1 [some (.ref a), l1] [.ref a] w 0 Q) ∧
  (∀ (d : Nat) (l0 l1 : Option Value)  (b : Nat) (w : px_H) (Q : Option Value → px_H → Prop), wp (d + 1) 185 1 [l0, l1] [.ref b] w 0 Q ↔ px_op (px_tgt w b [(11, 175)]) (fun v => wc d v [.ref b] w (fun r w' => wp (d + 1) 185 4 [l0, l1] (r.toList ++ []) w' 0 Q))) ∧
  (∀ (d : Nat) (l0 l1 : Option Value) (x : Int32) (w : px_H) (Q : Option Value → px_H → Prop), wp d 185 4 [l0, l1] [.int x] w 0 Q ↔ if x = 0 then wp d 185 7 [l0, l1] [] w 0 Q else wp d 185 10 [l0, l1] [] w 0 Q) ∧
  (∀ (d : Nat) (l0 l1 : Option Value)  (w : px_H) (Q : Option Value → px_H → Prop), wp d 185 7 [l0, l1] [] w 0 Q ↔ wp d 185 9 [l0, l1] [.int (-1000002)] w 0 Q) ∧
  (∀ (d : Nat) (l0 l1 : Option Value) (x : Int32) (w : px_H) (Q : Option Value → px_H → Prop), wp d 185 9 [l0, l1] [.int x] w 0 Q ↔ Q (some (.int x)) w) ∧
  (∀ (d : Nat) (l1 : Option Value) (a : Nat) (w : px_H) (Q : Option Value → px_H → Prop), wp d 185 10 [some (.ref a), l1] [] w 0 Q ↔ wp d 185 11 [some (.ref a), l1] [.ref a] w 0 Q) ∧
  (∀ (d : Nat) (l0 l1 : Option Value) (s0 : Value)  (w : px_H) (Q : Option Value → px_H → Prop), wp d 185 11 [l0, l1] [s0] w 0 Q ↔ wp d 185 12 [l0, l1] [.int 3, s0] w 0 Q) ∧
  (∀ (d : Nat) (l0 l1 : Option Value) (v0 : Value) (b : Nat) (w : px_H) (Q : Option Value → px_H → Prop), wp (d + 1) 185 12 [l0, l1] [v0, .ref b] w 0 Q ↔ px_op (px_tgt w b [(11, 149)]) (fun v => wc d v [.ref b, v0] w (fun r w' => wp (d + 1) 185 15 [l0, l1] (r.toList ++ []) w' 0 Q))) ∧
  (∀ (d : Nat) (l0 l1 : Option Value) (x : Int32) (w : px_H) (Q : Option Value → px_H → Prop), wp d 185 15 [l0, l1] [.int x] w 0 Q ↔ wp d 185 16 [l0, some (.int x)] [] w 0 Q) ∧
  (∀ (d : Nat) (l1 : Option Value) (s0 : Value) (a : Nat) (w : px_H) (Q : Option Value → px_H → Prop), wp d 185 17 [some (.ref a), l1] [s0] w 0 Q ↔ wp d 185 18 [some (.ref a), l1] [.ref a, s0] w 0 Q) ∧
  (∀ (d : Nat) (l0 l1 : Option Value) (s0 s1 : Value)  (w : px_H) (Q : Option Value → px_H → Prop), wp d 185 18 [l0, l1] [s0, s1] w 0 Q ↔ wp d 185 19 [l0, l1] [.int 3, s0, s1] w 0 Q) ∧
  (∀ (d : Nat) (l0 l1 : Option Value) (s2 : Value) (v0 : Value) (b : Nat) (w : px_H) (Q : Option Value → px_H → Prop), wp (d + 1) 185 19 [l0, l1] [v0, .ref b, s2] w 0 Q ↔ px_op (px_tgt w b [(11, 149)]) (fun v => wc d v [.ref b, v0] w (fun r w' => wp (d + 1) 185 22 [l0, l1] (r.toList ++ [s2]) w' 0 Q))) ∧
  (∀ (d : Nat) (l0 l1 : Option Value) (s0 s1 : Value)  (w : px_H) (Q : Option Value → px_H → Prop), wp d 185 22 [l0, l1] [s0, s1] w 0 Q ↔ wp d 185 24 [l0, l1] [.int 100, s0, s1] w 0 Q) ∧
  (∀ (d : Nat) (l0 l1 : Option Value) (s2 : Value) (x y : Int32) (w : px_H) (Q : Option Value → px_H → Prop), wp d 185 24 [l0, l1] [.int y, .int x, s2] w 0 Q ↔ wp d 185 25 [l0, l1] [.int (x + y), s2] w 0 Q) ∧
  (∀ (d : Nat) (l0 l1 : Option Value) (x y : Int32) (w : px_H) (Q : Option Value → px_H → Prop), wp d 185 25 [l0, l1] [.int y, .int x] w 0 Q ↔ if y < x then wp d 185 44 [l0, l1] [] w 0 Q else wp d 185 28 [l0, l1] [] w 0 Q) ∧
  (∀ (d : Nat) (l1 : Option Value) (a : Nat) (w : px_H) (Q : Option Value → px_H → Prop), wp d 185 28 [some (.ref a), l1] [] w 0 Q ↔ wp d 185 29 [some (.ref a), l1] [.ref a] w 0 Q) ∧
  (∀ (d : Nat) (l0 : Option Value) (s0 : Value) (x : Int32) (w : px_H) (Q : Option Value → px_H → Prop), wp d 185 29 [l0, some (.int x)] [s0] w 0 Q ↔ wp d 185 30 [l0, some (.int x)] [.int x, s0] w 0 Q) ∧
  (∀ (d : Nat) (l0 l1 : Option Value) (v0 : Value) (b : Nat) (w : px_H) (Q : Option Value → px_H → Prop), wp (d + 1) 185 30 [l0, l1] [v0, .ref b] w 0 Q ↔ px_op (px_tgt w b [(11, 171)]) (fun v => wc d v [.ref b, v0] w (fun r w' => wp (d + 1) 185 33 [l0, l1] (r.toList ++ []) w' 0 Q))) ∧
  (∀ (d : Nat) (l0 l1 : Option Value) (x : Int32) (w : px_H) (Q : Option Value → px_H → Prop), wp d 185 33 [l0, l1] [.int x] w 0 Q ↔ if x = 0 then wp d 185 38 [l0, l1] [] w 0 Q else wp d 185 36 [l0, l1] [] w 0 Q) ∧
  (∀ (d : Nat) (l0 : Option Value) (x : Int32) (w : px_H) (Q : Option Value → px_H → Prop), wp d 185 36 [l0, some (.int x)] [] w 0 Q ↔ wp d 185 37 [l0, some (.int x)] [.int x] w 0 Q) ∧
  (∀ (d : Nat) (l0 l1 : Option Value) (x : Int32) (w : px_H) (Q : Option Value → px_H → Prop), wp d 185 37 [l0, l1] [.int x] w 0 Q ↔ Q (some (.int x)) w) ∧
  (∀ (d : Nat) (l0 : Option Value) (x : Int32) (w : px_H) (Q : Option Value → px_H → Prop), wp d 185 38 [l0, some (.int x)] [] w 0 Q ↔ wp d 185 41 [l0, some (.int (x + 1))] [] w 0 Q) ∧
  (∀ (d : Nat) (l0 l1 : Option Value)  (w : px_H) (Q : Option Value → px_H → Prop), wp d 185 41 [l0, l1] [] w 0 Q ↔ wp d 185 16 [l0, l1] [] w 0 Q) ∧
  (∀ (d : Nat) (l0 l1 : Option Value)  (w : px_H) (Q : Option Value → px_H → Prop), wp d 185 44 [l0, l1] [] w 0 Q ↔ wp d 185 46 [l0, l1] [.int (-1000000)] w 0 Q) ∧
  (∀ (d : Nat) (l0 l1 : Option Value) (x : Int32) (w : px_H) (Q : Option Value → px_H → Prop), wp d 185 46 [l0, l1] [.int x] w 0 Q ↔ Q (some (.int x)) w) := ⟨fun d v0 w Q => r_entry pt_185 (Nat.le_of_ble_eq_true rfl) rfl,
  fun d l1 a w Q => px_go (q := (.aload_n 0, 1, px_x0)) (S' := (1, [some (.ref a), l1], [.ref a], w, 0)) pt_185 rfl rfl,
  fun d l0 l1 b w Q => r_callV (q := (.invokevirtual 171, 3, (33, 0, [(11, 175)], 0, ""))) pt_185 rfl rfl (List.forall_mem_cons.mpr ⟨⟨_, pt_175, Nat.le_of_ble_eq_true rfl, (Nat.le_of_ble_eq_true rfl), rfl⟩, fun _ h => absurd h List.not_mem_nil⟩),
  fun d l0 l1 x w Q => r_if_ne pt_185 rfl rfl,
  fun d l0 l1 w Q => px_go (q := (.ldc 175, 2, (0, 0, [], (-1000002), ""))) (S' := (9, [l0, l1], [.int (-1000002)], w, 0)) pt_185 rfl rfl,
  fun d l0 l1 x w Q => px_ret (q := (.ireturn, 1, px_x0)) pt_185 rfl rfl,
  fun d l1 a w Q => px_go (q := (.aload_n 0, 1, px_x0)) (S' := (11, [some (.ref a), l1], [.ref a], w, 0)) pt_185 rfl rfl,
  fun d l0 l1 s0 w Q => r_iconst pt_185 rfl (by decide),
  fun d l0 l1 v0 b w Q => r_callV (q := (.invokevirtual 69, 3, (33, 1, [(11, 149)], 0, ""))) pt_185 rfl rfl (List.forall_mem_cons.mpr ⟨⟨_, pt_149, Nat.le_of_ble_eq_true rfl, (Nat.le_of_ble_eq_true rfl), rfl⟩, fun _ h => absurd h List.not_mem_nil⟩),
  fun d l0 l1 x w Q => px_go (q := (.istore_n 1, 1, px_x0)) (S' := (16, [l0, some (.int x)], [], w, 0)) pt_185 rfl rfl,
  fun d l1 s0 a w Q => px_go (q := (.aload_n 0, 1, px_x0)) (S' := (18, [some (.ref a), l1], [.ref a, s0], w, 0)) pt_185 rfl rfl,
  fun d l0 l1 s0 s1 w Q => r_iconst pt_185 rfl (by decide),
  fun d l0 l1 s2 v0 b w Q => r_callV (q := (.invokevirtual 69, 3, (33, 1, [(11, 149)], 0, ""))) pt_185 rfl rfl (List.forall_mem_cons.mpr ⟨⟨_, pt_149, Nat.le_of_ble_eq_true rfl, (Nat.le_of_ble_eq_true rfl), rfl⟩, fun _ h => absurd h List.not_mem_nil⟩),
  fun d l0 l1 s0 s1 w Q => r_bipush pt_185 rfl (by decide),
  fun d l0 l1 s2 x y w Q => px_go (q := (.iadd, 1, px_x0)) (S' := (25, [l0, l1], [.int (x + y), s2], w, 0)) pt_185 rfl rfl,
  fun d l0 l1 x y w Q => r_icmp_gt pt_185 rfl rfl,
  fun d l1 a w Q => px_go (q := (.aload_n 0, 1, px_x0)) (S' := (29, [some (.ref a), l1], [.ref a], w, 0)) pt_185 rfl rfl,
  fun d l0 s0 x w Q => px_go (q := (.iload_n 1, 1, px_x0)) (S' := (30, [l0, some (.int x)], [.int x, s0], w, 0)) pt_185 rfl rfl,
  fun d l0 l1 v0 b w Q => r_callV (q := (.invokevirtual 168, 3, (33, 1, [(11, 171)], 0, ""))) pt_185 rfl rfl (List.forall_mem_cons.mpr ⟨⟨_, pt_171, Nat.le_of_ble_eq_true rfl, (Nat.le_of_ble_eq_true rfl), rfl⟩, fun _ h => absurd h List.not_mem_nil⟩),
  fun d l0 l1 x w Q => r_if_eq pt_185 rfl rfl,
  fun d l0 x w Q => px_go (q := (.iload_n 1, 1, px_x0)) (S' := (37, [l0, some (.int x)], [.int x], w, 0)) pt_185 rfl rfl,
  fun d l0 l1 x w Q => px_ret (q := (.ireturn, 1, px_x0)) pt_185 rfl rfl,
  fun d l0 x w Q => r_iinc pt_185 rfl rfl (by decide) rfl,
  fun d l0 l1 w Q => r_goto pt_185 rfl rfl,
  fun d l0 l1 w Q => px_go (q := (.ldc 119, 2, (0, 0, [], (-1000000), ""))) (S' := (46, [l0, l1], [.int (-1000000)], w, 0)) pt_185 rfl rfl,
  fun d l0 l1 x w Q => px_ret (q := (.ireturn, 1, px_x0)) pt_185 rfl rfl⟩
theorem H185_16 : ∀ (d : Nat) (l0 : Option Value) (x : Int32) (w : px_H) (Q : Option Value → px_H → Prop), wp d 185 16 [l0, some (.int x)] [] w 0 Q ↔ wp d 185 17 [l0, some (.int x)] [.int x] w 0 Q := fun d l0 x w Q => px_go (q := (.iload_n 1, 1, px_x0)) (S' := (17, [l0, some (.int x)], [.int x], w, 0)) pt_185 rfl rfl
/-- AllSwornModel.manyOf(I)I heads: [4] -/
theorem S186 : (∀ (d : Nat) (v0 : Value) (w : px_H) (Q : Option Value → px_H → Prop), wc d 186 [v0] w Q ↔ wp d 186 0 [some v0, none, none] [] w 0 Q) ∧
  (∀ (d : Nat) (l0 l1 l2 : Option Value)  (w : px_H) (Q : Option Value → px_H → Prop), wp d 186 0 [l0, l1, l2] [] w 0 Q ↔ wp d 186 1 [l0, l1, l2] [.int 0] w 0 Q) ∧
  (∀ (d : Nat) (l0 l1 l2 : Option Value) (x : Int32) (w : px_H) (Q : Option Value → px_H → Prop), wp d 186 1 [l0, l1, l2] [.int x] w 0 Q ↔ wp d 186 2 [l0, some (.int x), l2] [] w 0 Q) ∧
  (∀ (d : Nat) (l0 l1 l2 : Option Value)  (w : px_H) (Q : Option Value → px_H → Prop), wp d 186 2 [l0, l1, l2] [] w 0 Q ↔ wp d 186 3 [l0, l1, l2] [.int 0] w 0 Q) ∧
  (∀ (d : Nat) (l0 l1 l2 : Option Value) (x : Int32) (w : px_H) (Q : Option Value → px_H → Prop), wp d 186 3 [l0, l1, l2] [.int x] w 0 Q ↔ wp d 186 4 [l0, l1, some (.int x)] [] w 0 Q) ∧
  (∀ (d : Nat) (l0 l1 l2 : Option Value) (s0 : Value)  (w : px_H) (Q : Option Value → px_H → Prop), wp d 186 5 [l0, l1, l2] [s0] w 0 Q ↔ wp d 186 7 [l0, l1, l2] [.int 8, s0] w 0 Q) ∧
  (∀ (d : Nat) (l0 l1 l2 : Option Value) (x y : Int32) (w : px_H) (Q : Option Value → px_H → Prop), wp d 186 7 [l0, l1, l2] [.int y, .int x] w 0 Q ↔ if y ≤ x then wp d 186 24 [l0, l1, l2] [] w 0 Q else wp d 186 10 [l0, l1, l2] [] w 0 Q) ∧
  (∀ (d : Nat) (l0 l2 : Option Value) (x : Int32) (w : px_H) (Q : Option Value → px_H → Prop), wp d 186 10 [l0, some (.int x), l2] [] w 0 Q ↔ wp d 186 11 [l0, some (.int x), l2] [.int x] w 0 Q) ∧
  (∀ (d : Nat) (l1 l2 : Option Value) (s0 : Value) (x : Int32) (w : px_H) (Q : Option Value → px_H → Prop), wp d 186 11 [some (.int x), l1, l2] [s0] w 0 Q ↔ wp d 186 12 [some (.int x), l1, l2] [.int x, s0] w 0 Q) ∧
  (∀ (d : Nat) (l0 l1 : Option Value) (s0 s1 : Value) (x : Int32) (w : px_H) (Q : Option Value → px_H → Prop), wp d 186 12 [l0, l1, some (.int x)] [s0, s1] w 0 Q ↔ wp d 186 13 [l0, l1, some (.int x)] [.int x, s0, s1] w 0 Q) ∧
  (∀ (d : Nat) (l0 l1 l2 : Option Value) (s2 : Value) (x y : Int32) (w : px_H) (Q : Option Value → px_H → Prop), wp d 186 13 [l0, l1, l2] [.int y, .int x, s2] w 0 Q ↔ wp d 186 14 [l0, l1, l2] [.int (x >>> (y &&& 31)), s2] w 0 Q) ∧
  (∀ (d : Nat) (l0 l1 l2 : Option Value) (s0 s1 : Value)  (w : px_H) (Q : Option Value → px_H → Prop), wp d 186 14 [l0, l1, l2] [s0, s1] w 0 Q ↔ wp d 186 15 [l0, l1, l2] [.int 1, s0, s1] w 0 Q) ∧
  (∀ (d : Nat) (l0 l1 l2 : Option Value) (s2 : Value) (x y : Int32) (w : px_H) (Q : Option Value → px_H → Prop), wp d 186 15 [l0, l1, l2] [.int y, .int x, s2] w 0 Q ↔ wp d 186 16 [l0, l1, l2] [.int (x &&& y), s2] w 0 Q) ∧
  (∀ (d : Nat) (l0 l1 l2 : Option Value) (x y : Int32) (w : px_H) (Q : Option Value → px_H → Prop), wp d 186 16 [l0, l1, l2] [.int y, .int x] w 0 Q ↔ wp d 186 17 [l0, l1, l2] [.int (x + y)] w 0 Q) ∧
  (∀ (d : Nat) (l0 l1 l2 : Option Value) (x : Int32) (w : px_H) (Q : Option Value → px_H → Prop), wp d 186 17 [l0, l1, l2] [.int x] w 0 Q ↔ wp d 186 18 [l0, some (.int x), l2] [] w 0 Q) ∧
  (∀ (d : Nat) (l0 l1 : Option Value) (x : Int32) (w : px_H) (Q : Option Value → px_H → Prop), wp d 186 18 [l0, l1, some (.int x)] [] w 0 Q ↔ wp d 186 21 [l0, l1, some (.int (x + 1))] [] w 0 Q) ∧
  (∀ (d : Nat) (l0 l1 l2 : Option Value)  (w : px_H) (Q : Option Value → px_H → Prop), wp d 186 21 [l0, l1, l2] [] w 0 Q ↔ wp d 186 4 [l0, l1, l2] [] w 0 Q) ∧
  (∀ (d : Nat) (l0 l2 : Option Value) (x : Int32) (w : px_H) (Q : Option Value → px_H → Prop), wp d 186 24 [l0, some (.int x), l2] [] w 0 Q ↔ wp d 186 25 [l0, some (.int x), l2] [.int x] w 0 Q) ∧
  (∀ (d : Nat) (l0 l1 l2 : Option Value) (x : Int32) (w : px_H) (Q : Option Value → px_H → Prop), wp d 186 25 [l0, l1, l2] [.int x] w 0 Q ↔ Q (some (.int x)) w) := ⟨fun d v0 w Q => r_entry pt_186 (Nat.le_of_ble_eq_true rfl) rfl,
  fun d l0 l1 l2 w Q => r_iconst pt_186 rfl (by decide),
  fun d l0 l1 l2 x w Q => px_go (q := (.istore_n 1, 1, px_x0)) (S' := (2, [l0, some (.int x), l2], [], w, 0)) pt_186 rfl rfl,
  fun d l0 l1 l2 w Q => r_iconst pt_186 rfl (by decide),
  fun d l0 l1 l2 x w Q => px_go (q := (.istore_n 2, 1, px_x0)) (S' := (4, [l0, l1, some (.int x)], [], w, 0)) pt_186 rfl rfl,
  fun d l0 l1 l2 s0 w Q => r_bipush pt_186 rfl (by decide),
  fun d l0 l1 l2 x y w Q => r_icmp_ge pt_186 rfl rfl,
  fun d l0 l2 x w Q => px_go (q := (.iload_n 1, 1, px_x0)) (S' := (11, [l0, some (.int x), l2], [.int x], w, 0)) pt_186 rfl rfl,
  fun d l1 l2 s0 x w Q => px_go (q := (.iload_n 0, 1, px_x0)) (S' := (12, [some (.int x), l1, l2], [.int x, s0], w, 0)) pt_186 rfl rfl,
  fun d l0 l1 s0 s1 x w Q => px_go (q := (.iload_n 2, 1, px_x0)) (S' := (13, [l0, l1, some (.int x)], [.int x, s0, s1], w, 0)) pt_186 rfl rfl,
  fun d l0 l1 l2 s2 x y w Q => px_go (q := (.ishr, 1, px_x0)) (S' := (14, [l0, l1, l2], [.int (x >>> (y &&& 31)), s2], w, 0)) pt_186 rfl rfl,
  fun d l0 l1 l2 s0 s1 w Q => r_iconst pt_186 rfl (by decide),
  fun d l0 l1 l2 s2 x y w Q => px_go (q := (.iand, 1, px_x0)) (S' := (16, [l0, l1, l2], [.int (x &&& y), s2], w, 0)) pt_186 rfl rfl,
  fun d l0 l1 l2 x y w Q => px_go (q := (.iadd, 1, px_x0)) (S' := (17, [l0, l1, l2], [.int (x + y)], w, 0)) pt_186 rfl rfl,
  fun d l0 l1 l2 x w Q => px_go (q := (.istore_n 1, 1, px_x0)) (S' := (18, [l0, some (.int x), l2], [], w, 0)) pt_186 rfl rfl,
  fun d l0 l1 x w Q => r_iinc pt_186 rfl rfl (by decide) rfl,
  fun d l0 l1 l2 w Q => r_goto pt_186 rfl rfl,
  fun d l0 l2 x w Q => px_go (q := (.iload_n 1, 1, px_x0)) (S' := (25, [l0, some (.int x), l2], [.int x], w, 0)) pt_186 rfl rfl,
  fun d l0 l1 l2 x w Q => px_ret (q := (.ireturn, 1, px_x0)) pt_186 rfl rfl⟩
theorem H186_4 : ∀ (d : Nat) (l0 l1 : Option Value) (x : Int32) (w : px_H) (Q : Option Value → px_H → Prop), wp d 186 4 [l0, l1, some (.int x)] [] w 0 Q ↔ wp d 186 5 [l0, l1, some (.int x)] [.int x] w 0 Q := fun d l0 l1 x w Q => px_go (q := (.iload_n 2, 1, px_x0)) (S' := (5, [l0, l1, some (.int x)], [.int x], w, 0)) pt_186 rfl rfl
/-- AllSwornModel.covers(I)Z heads: [8] -/
theorem S187 : (∀ (d : Nat) (v0 v1 : Value) (w : px_H) (Q : Option Value → px_H → Prop), wc d 187 [v0, v1] w Q ↔ wp d 187 0 [some v0, some v1, none, none] [] w 0 Q) ∧
  (∀ (d : Nat) (l1 l2 l3 : Option Value) (a : Nat) (w : px_H) (Q : Option Value → px_H → Prop), wp d 187 0 [some (.ref a), l1, l2, l3] [] w 0 Q ↔ wp d 187 1 [some (.ref a), l1, l2, l3] [.ref a] w 0 Q) ∧
  (∀ (d : Nat) (l0 l1 l2 l3 : Option Value)  (b : Nat) (w : px_H) (Q : Option Value → px_H → Prop), wp (d + 1) 187 1 [l0, l1, l2, l3] [.ref b] w 0 Q ↔ px_op (px_tgt w b [(11, 167)]) (fun v => wc d v [.ref b] w (fun r w' => wp (d + 1) 187 4 [l0, l1, l2, l3] (r.toList ++ []) w' 0 Q))) ∧
  (∀ (d : Nat) (l0 l1 l2 l3 : Option Value)  (w : px_H) (Q : Option Value → px_H → Prop), wp d 187 4 [l0, l1, l2, l3] [] w 0 Q ↔ wp d 187 5 [l0, l1, l2, l3] [.int 1] w 0 Q) ∧
  (∀ (d : Nat) (l0 l1 l2 l3 : Option Value) (x : Int32) (w : px_H) (Q : Option Value → px_H → Prop), wp d 187 5 [l0, l1, l2, l3] [.int x] w 0 Q ↔ wp d 187 6 [l0, l1, some (.int x), l3] [] w 0 Q) ∧
  (∀ (d : Nat) (l0 l1 l2 l3 : Option Value)  (w : px_H) (Q : Option Value → px_H → Prop), wp d 187 6 [l0, l1, l2, l3] [] w 0 Q ↔ wp d 187 7 [l0, l1, l2, l3] [.int 0] w 0 Q) ∧
  (∀ (d : Nat) (l0 l1 l2 l3 : Option Value) (x : Int32) (w : px_H) (Q : Option Value → px_H → Prop), wp d 187 7 [l0, l1, l2, l3] [.int x] w 0 Q ↔ wp d 187 8 [l0, l1, l2, some (.int x)] [] w 0 Q) ∧
  (∀ (d : Nat) (l1 l2 l3 : Option Value) (s0 : Value) (a : Nat) (w : px_H) (Q : Option Value → px_H → Prop), wp d 187 9 [some (.ref a), l1, l2, l3] [s0] w 0 Q ↔ wp d 187 10 [some (.ref a), l1, l2, l3] [.ref a, s0] w 0 Q) ∧
  (∀ (d : Nat) (l0 l1 l2 l3 : Option Value) (s0 s1 : Value)  (w : px_H) (Q : Option Value → px_H → Prop), wp d 187 10 [l0, l1, l2, l3] [s0, s1] w 0 Q ↔ wp d 187 11 [l0, l1, l2, l3] [.int 1, s0, s1] w 0 Q) ∧
  (∀ (d : Nat) (l0 l1 l2 l3 : Option Value) (s2 : Value) (v0 : Value) (b : Nat) (w : px_H) (Q : Option Value → px_H → Prop), wp (d + 1) 187 11 [l0, l1, l2, l3] [v0, .ref b, s2] w 0 Q ↔ px_op (px_tgt w b [(11, 149)]) (fun v => wc d v [.ref b, v0] w (fun r w' => wp (d + 1) 187 14 [l0, l1, l2, l3] (r.toList ++ [s2]) w' 0 Q))) ∧
  (∀ (d : Nat) (l0 l1 l2 l3 : Option Value) (x y : Int32) (w : px_H) (Q : Option Value → px_H → Prop), wp d 187 14 [l0, l1, l2, l3] [.int y, .int x] w 0 Q ↔ if y ≤ x then wp d 187 66 [l0, l1, l2, l3] [] w 0 Q else wp d 187 17 [l0, l1, l2, l3] [] w 0 Q) ∧
  (∀ (d : Nat) (l0 l2 l3 : Option Value) (x : Int32) (w : px_H) (Q : Option Value → px_H → Prop), wp d 187 17 [l0, some (.int x), l2, l3] [] w 0 Q ↔ wp d 187 18 [l0, some (.int x), l2, l3] [.int x] w 0 Q) ∧
  (∀ (d : Nat) (l0 l1 l2 : Option Value) (s0 : Value) (x : Int32) (w : px_H) (Q : Option Value → px_H → Prop), wp d 187 18 [l0, l1, l2, some (.int x)] [s0] w 0 Q ↔ wp d 187 19 [l0, l1, l2, some (.int x)] [.int x, s0] w 0 Q) ∧
  (∀ (d : Nat) (l0 l1 l2 l3 : Option Value) (x y : Int32) (w : px_H) (Q : Option Value → px_H → Prop), wp d 187 19 [l0, l1, l2, l3] [.int y, .int x] w 0 Q ↔ wp d 187 20 [l0, l1, l2, l3] [.int (x >>> (y &&& 31))] w 0 Q) ∧
  (∀ (d : Nat) (l0 l1 l2 l3 : Option Value) (s0 : Value)  (w : px_H) (Q : Option Value → px_H → Prop), wp d 187 20 [l0, l1, l2, l3] [s0] w 0 Q ↔ wp d 187 21 [l0, l1, l2, l3] [.int 1, s0] w 0 Q) ∧
  (∀ (d : Nat) (l0 l1 l2 l3 : Option Value) (x y : Int32) (w : px_H) (Q : Option Value → px_H → Prop), wp d 187 21 [l0, l1, l2, l3] [.int y, .int x] w 0 Q ↔ wp d 187 22 [l0, l1, l2, l3] [.int (x &&& y)] w 0 Q) ∧
  (∀ (d : Nat) (l0 l1 l2 l3 : Option Value) (s0 : Value)  (w : px_H) (Q : Option Value → px_H → Prop), wp d 187 22 [l0, l1, l2, l3] [s0] w 0 Q ↔ wp d 187 23 [l0, l1, l2, l3] [.int 1, s0] w 0 Q) ∧
  (∀ (d : Nat) (l0 l1 l2 l3 : Option Value) (x y : Int32) (w : px_H) (Q : Option Value → px_H → Prop), wp d 187 23 [l0, l1, l2, l3] [.int y, .int x] w 0 Q ↔ if x = y then wp d 187 26 [l0, l1, l2, l3] [] w 0 Q else wp d 187 60 [l0, l1, l2, l3] [] w 0 Q) ∧
  (∀ (d : Nat) (l0 l1 l3 : Option Value) (x : Int32) (w : px_H) (Q : Option Value → px_H → Prop), wp d 187 26 [l0, l1, some (.int x), l3] [] w 0 Q ↔ wp d 187 27 [l0, l1, some (.int x), l3] [.int x] w 0 Q) ∧
  (∀ (d : Nat) (l0 l1 l2 l3 : Option Value) (x : Int32) (w : px_H) (Q : Option Value → px_H → Prop), wp d 187 27 [l0, l1, l2, l3] [.int x] w 0 Q ↔ if x = 0 then wp d 187 47 [l0, l1, l2, l3] [] w 0 Q else wp d 187 30 [l0, l1, l2, l3] [] w 0 Q) ∧
  (∀ (d : Nat) (l1 l2 l3 : Option Value) (a : Nat) (w : px_H) (Q : Option Value → px_H → Prop), wp d 187 30 [some (.ref a), l1, l2, l3] [] w 0 Q ↔ wp d 187 31 [some (.ref a), l1, l2, l3] [.ref a] w 0 Q) ∧
  (∀ (d : Nat) (l0 l1 l2 : Option Value) (s0 : Value) (x : Int32) (w : px_H) (Q : Option Value → px_H → Prop), wp d 187 31 [l0, l1, l2, some (.int x)] [s0] w 0 Q ↔ wp d 187 32 [l0, l1, l2, some (.int x)] [.int x, s0] w 0 Q) ∧
  (∀ (d : Nat) (l1 l2 l3 : Option Value) (s0 s1 : Value) (a : Nat) (w : px_H) (Q : Option Value → px_H → Prop), wp d 187 32 [some (.ref a), l1, l2, l3] [s0, s1] w 0 Q ↔ wp d 187 33 [some (.ref a), l1, l2, l3] [.ref a, s0, s1] w 0 Q) ∧
  (∀ (d : Nat) (l0 l1 l2 l3 : Option Value) (s0 s1 s2 : Value)  (w : px_H) (Q : Option Value → px_H → Prop), wp d 187 33 [l0, l1, l2, l3] [s0, s1, s2] w 0 Q ↔ wp d 187 34 [l0, l1, l2, l3] [.int 3, s0, s1, s2] w 0 Q) ∧
  (∀ (d : Nat) (l0 l1 l2 l3 : Option Value) (s2 s3 : Value) (v0 : Value) (b : Nat) (w : px_H) (Q : Option Value → px_H → Prop), wp (d + 1) 187 34 [l0, l1, l2, l3] [v0, .ref b, s2, s3] w 0 Q ↔ px_op (px_tgt w b [(11, 149)]) (fun v => wc d v [.ref b, v0] w (fun r w' => wp (d + 1) 187 37 [l0, l1, l2, l3] (r.toList ++ [s2, s3]) w' 0 Q))) ∧
  (∀ (d : Nat) (l0 l1 l2 l3 : Option Value) (v0 v1 : Value) (b : Nat) (w : px_H) (Q : Option Value → px_H → Prop), wp (d + 1) 187 37 [l0, l1, l2, l3] [v1, v0, .ref b] w 0 Q ↔ px_op (px_tgt w b [(11, 173)]) (fun v => wc d v [.ref b, v0, v1] w (fun r w' => wp (d + 1) 187 40 [l0, l1, l2, l3] (r.toList ++ []) w' 0 Q))) ∧
  (∀ (d : Nat) (l0 l1 l2 l3 : Option Value) (x : Int32) (w : px_H) (Q : Option Value → px_H → Prop), wp d 187 40 [l0, l1, l2, l3] [.int x] w 0 Q ↔ if x = 0 then wp d 187 47 [l0, l1, l2, l3] [] w 0 Q else wp d 187 43 [l0, l1, l2, l3] [] w 0 Q) ∧
  (∀ (d : Nat) (l0 l1 l2 l3 : Option Value)  (w : px_H) (Q : Option Value → px_H → Prop), wp d 187 43 [l0, l1, l2, l3] [] w 0 Q ↔ wp d 187 44 [l0, l1, l2, l3] [.int 1] w 0 Q) ∧
  (∀ (d : Nat) (l0 l1 l2 l3 : Option Value) (s0 : Value)  (w : px_H) (Q : Option Value → px_H → Prop), wp d 187 44 [l0, l1, l2, l3] [s0] w 0 Q ↔ wp d 187 48 [l0, l1, l2, l3] [s0] w 0 Q) ∧
  (∀ (d : Nat) (l0 l1 l2 l3 : Option Value)  (w : px_H) (Q : Option Value → px_H → Prop), wp d 187 47 [l0, l1, l2, l3] [] w 0 Q ↔ wp d 187 48 [l0, l1, l2, l3] [.int 0] w 0 Q) ∧
  (∀ (d : Nat) (l0 l1 l2 l3 : Option Value) (x : Int32) (w : px_H) (Q : Option Value → px_H → Prop), wp d 187 48 [l0, l1, l2, l3] [.int x] w 0 Q ↔ wp d 187 49 [l0, l1, some (.int x), l3] [] w 0 Q) ∧
  (∀ (d : Nat) (l1 l2 l3 : Option Value) (a : Nat) (w : px_H) (Q : Option Value → px_H → Prop), wp d 187 49 [some (.ref a), l1, l2, l3] [] w 0 Q ↔ wp d 187 50 [some (.ref a), l1, l2, l3] [.ref a] w 0 Q) ∧
  (∀ (d : Nat) (l0 l1 l2 l3 : Option Value) (a : Nat) (w : px_H) (Q : Option Value → px_H → Prop), wp d 187 50 [l0, l1, l2, l3] [.ref a] w 0 Q ↔ px_op (px_fld w a [(11, 0)] 18) (fun v => wp d 187 53 [l0, l1, l2, l3] [v] w 0 Q)) ∧
  (∀ (d : Nat) (l0 l1 l2 : Option Value) (s0 : Value) (x : Int32) (w : px_H) (Q : Option Value → px_H → Prop), wp d 187 53 [l0, l1, l2, some (.int x)] [s0] w 0 Q ↔ wp d 187 54 [l0, l1, l2, some (.int x)] [.int x, s0] w 0 Q) ∧
  (∀ (d : Nat) (l1 l2 l3 : Option Value) (s0 s1 : Value) (a : Nat) (w : px_H) (Q : Option Value → px_H → Prop), wp d 187 54 [some (.ref a), l1, l2, l3] [s0, s1] w 0 Q ↔ wp d 187 55 [some (.ref a), l1, l2, l3] [.ref a, s0, s1] w 0 Q) ∧
  (∀ (d : Nat) (l0 l1 l2 l3 : Option Value) (s0 s1 s2 : Value)  (w : px_H) (Q : Option Value → px_H → Prop), wp d 187 55 [l0, l1, l2, l3] [s0, s1, s2] w 0 Q ↔ wp d 187 56 [l0, l1, l2, l3] [.int 3, s0, s1, s2] w 0 Q) ∧
  (∀ (d : Nat) (l0 l1 l2 l3 : Option Value) (s2 s3 : Value) (v0 : Value) (b : Nat) (w : px_H) (Q : Option Value → px_H → Prop), wp (d + 1) 187 56 [l0, l1, l2, l3] [v0, .ref b, s2, s3] w 0 Q ↔ px_op (px_tgt w b [(11, 149)]) (fun v => wc d v [.ref b, v0] w (fun r w' => wp (d + 1) 187 59 [l0, l1, l2, l3] (r.toList ++ [s2, s3]) w' 0 Q))) ∧
  (∀ (d : Nat) (l0 l1 l2 l3 : Option Value) (x i : Int32) (a : Nat) (w : px_H) (Q : Option Value → px_H → Prop), wp d 187 59 [l0, l1, l2, l3] [.int x, .int i, .ref a] w 0 Q ↔ px_op (px_ast w a i x .int) (fun w' => wp d 187 60 [l0, l1, l2, l3] [] w' 0 Q)) ∧
  (∀ (d : Nat) (l0 l1 l2 : Option Value) (x : Int32) (w : px_H) (Q : Option Value → px_H → Prop), wp d 187 60 [l0, l1, l2, some (.int x)] [] w 0 Q ↔ wp d 187 63 [l0, l1, l2, some (.int (x + 1))] [] w 0 Q) ∧
  (∀ (d : Nat) (l0 l1 l2 l3 : Option Value)  (w : px_H) (Q : Option Value → px_H → Prop), wp d 187 63 [l0, l1, l2, l3] [] w 0 Q ↔ wp d 187 8 [l0, l1, l2, l3] [] w 0 Q) ∧
  (∀ (d : Nat) (l0 l1 l3 : Option Value) (x : Int32) (w : px_H) (Q : Option Value → px_H → Prop), wp d 187 66 [l0, l1, some (.int x), l3] [] w 0 Q ↔ wp d 187 67 [l0, l1, some (.int x), l3] [.int x] w 0 Q) ∧
  (∀ (d : Nat) (l0 l1 l2 l3 : Option Value) (x : Int32) (w : px_H) (Q : Option Value → px_H → Prop), wp d 187 67 [l0, l1, l2, l3] [.int x] w 0 Q ↔ if x = 0 then wp d 187 86 [l0, l1, l2, l3] [] w 0 Q else wp d 187 70 [l0, l1, l2, l3] [] w 0 Q) ∧
  (∀ (d : Nat) (l1 l2 l3 : Option Value) (a : Nat) (w : px_H) (Q : Option Value → px_H → Prop), wp d 187 70 [some (.ref a), l1, l2, l3] [] w 0 Q ↔ wp d 187 71 [some (.ref a), l1, l2, l3] [.ref a] w 0 Q) ∧
  (∀ (d : Nat) (l1 l2 l3 : Option Value) (s0 : Value) (a : Nat) (w : px_H) (Q : Option Value → px_H → Prop), wp d 187 71 [some (.ref a), l1, l2, l3] [s0] w 0 Q ↔ wp d 187 72 [some (.ref a), l1, l2, l3] [.ref a, s0] w 0 Q) ∧
  (∀ (d : Nat) (l0 l1 l2 l3 : Option Value) (s0 s1 : Value)  (w : px_H) (Q : Option Value → px_H → Prop), wp d 187 72 [l0, l1, l2, l3] [s0, s1] w 0 Q ↔ wp d 187 73 [l0, l1, l2, l3] [.int 3, s0, s1] w 0 Q) ∧
  (∀ (d : Nat) (l0 l1 l2 l3 : Option Value) (s2 : Value) (v0 : Value) (b : Nat) (w : px_H) (Q : Option Value → px_H → Prop), wp (d + 1) 187 73 [l0, l1, l2, l3] [v0, .ref b, s2] w 0 Q ↔ px_op (px_tgt w b [(11, 149)]) (fun v => wc d v [.ref b, v0] w (fun r w' => wp (d + 1) 187 76 [l0, l1, l2, l3] (r.toList ++ [s2]) w' 0 Q))) ∧
  (∀ (d : Nat) (l0 l1 l2 l3 : Option Value) (v0 : Value) (b : Nat) (w : px_H) (Q : Option Value → px_H → Prop), wp (d + 1) 187 76 [l0, l1, l2, l3] [v0, .ref b] w 0 Q ↔ px_op (px_tgt w b [(11, 170)]) (fun v => wc d v [.ref b, v0] w (fun r w' => wp (d + 1) 187 79 [l0, l1, l2, l3] (r.toList ++ []) w' 0 Q))) ∧
  (∀ (d : Nat) (l0 l1 l2 l3 : Option Value) (x : Int32) (w : px_H) (Q : Option Value → px_H → Prop), wp d 187 79 [l0, l1, l2, l3] [.int x] w 0 Q ↔ if x = 0 then wp d 187 82 [l0, l1, l2, l3] [] w 0 Q else wp d 187 86 [l0, l1, l2, l3] [] w 0 Q) ∧
  (∀ (d : Nat) (l0 l1 l2 l3 : Option Value)  (w : px_H) (Q : Option Value → px_H → Prop), wp d 187 82 [l0, l1, l2, l3] [] w 0 Q ↔ wp d 187 83 [l0, l1, l2, l3] [.int 1] w 0 Q) ∧
  (∀ (d : Nat) (l0 l1 l2 l3 : Option Value) (s0 : Value)  (w : px_H) (Q : Option Value → px_H → Prop), wp d 187 83 [l0, l1, l2, l3] [s0] w 0 Q ↔ wp d 187 87 [l0, l1, l2, l3] [s0] w 0 Q) ∧
  (∀ (d : Nat) (l0 l1 l2 l3 : Option Value)  (w : px_H) (Q : Option Value → px_H → Prop), wp d 187 86 [l0, l1, l2, l3] [] w 0 Q ↔ wp d 187 87 [l0, l1, l2, l3] [.int 0] w 0 Q) ∧
  (∀ (d : Nat) (l0 l1 l2 l3 : Option Value) (x : Int32) (w : px_H) (Q : Option Value → px_H → Prop), wp d 187 87 [l0, l1, l2, l3] [.int x] w 0 Q ↔ (x = 0 ∨ x = 1) ∧ Q (some (.int x)) w) := ⟨fun d v0 v1 w Q => r_entry pt_187 (Nat.le_of_ble_eq_true rfl) rfl,
  fun d l1 l2 l3 a w Q => px_go (q := (.aload_n 0, 1, px_x0)) (S' := (1, [some (.ref a), l1, l2, l3], [.ref a], w, 0)) pt_187 rfl rfl,
  fun d l0 l1 l2 l3 b w Q => r_callV (q := (.invokevirtual 146, 3, (33, 0, [(11, 167)], 0, ""))) pt_187 rfl rfl (List.forall_mem_cons.mpr ⟨⟨_, pt_167, Nat.le_of_ble_eq_true rfl, (Nat.le_of_ble_eq_true rfl), rfl⟩, fun _ h => absurd h List.not_mem_nil⟩),
  fun d l0 l1 l2 l3 w Q => r_iconst pt_187 rfl (by decide),
  fun d l0 l1 l2 l3 x w Q => px_go (q := (.istore_n 2, 1, px_x0)) (S' := (6, [l0, l1, some (.int x), l3], [], w, 0)) pt_187 rfl rfl,
  fun d l0 l1 l2 l3 w Q => r_iconst pt_187 rfl (by decide),
  fun d l0 l1 l2 l3 x w Q => px_go (q := (.istore_n 3, 1, px_x0)) (S' := (8, [l0, l1, l2, some (.int x)], [], w, 0)) pt_187 rfl rfl,
  fun d l1 l2 l3 s0 a w Q => px_go (q := (.aload_n 0, 1, px_x0)) (S' := (10, [some (.ref a), l1, l2, l3], [.ref a, s0], w, 0)) pt_187 rfl rfl,
  fun d l0 l1 l2 l3 s0 s1 w Q => r_iconst pt_187 rfl (by decide),
  fun d l0 l1 l2 l3 s2 v0 b w Q => r_callV (q := (.invokevirtual 69, 3, (33, 1, [(11, 149)], 0, ""))) pt_187 rfl rfl (List.forall_mem_cons.mpr ⟨⟨_, pt_149, Nat.le_of_ble_eq_true rfl, (Nat.le_of_ble_eq_true rfl), rfl⟩, fun _ h => absurd h List.not_mem_nil⟩),
  fun d l0 l1 l2 l3 x y w Q => r_icmp_ge pt_187 rfl rfl,
  fun d l0 l2 l3 x w Q => px_go (q := (.iload_n 1, 1, px_x0)) (S' := (18, [l0, some (.int x), l2, l3], [.int x], w, 0)) pt_187 rfl rfl,
  fun d l0 l1 l2 s0 x w Q => px_go (q := (.iload_n 3, 1, px_x0)) (S' := (19, [l0, l1, l2, some (.int x)], [.int x, s0], w, 0)) pt_187 rfl rfl,
  fun d l0 l1 l2 l3 x y w Q => px_go (q := (.ishr, 1, px_x0)) (S' := (20, [l0, l1, l2, l3], [.int (x >>> (y &&& 31))], w, 0)) pt_187 rfl rfl,
  fun d l0 l1 l2 l3 s0 w Q => r_iconst pt_187 rfl (by decide),
  fun d l0 l1 l2 l3 x y w Q => px_go (q := (.iand, 1, px_x0)) (S' := (22, [l0, l1, l2, l3], [.int (x &&& y)], w, 0)) pt_187 rfl rfl,
  fun d l0 l1 l2 l3 s0 w Q => r_iconst pt_187 rfl (by decide),
  fun d l0 l1 l2 l3 x y w Q => r_icmp_ne pt_187 rfl rfl,
  fun d l0 l1 l3 x w Q => px_go (q := (.iload_n 2, 1, px_x0)) (S' := (27, [l0, l1, some (.int x), l3], [.int x], w, 0)) pt_187 rfl rfl,
  fun d l0 l1 l2 l3 x w Q => r_if_eq pt_187 rfl rfl,
  fun d l1 l2 l3 a w Q => px_go (q := (.aload_n 0, 1, px_x0)) (S' := (31, [some (.ref a), l1, l2, l3], [.ref a], w, 0)) pt_187 rfl rfl,
  fun d l0 l1 l2 s0 x w Q => px_go (q := (.iload_n 3, 1, px_x0)) (S' := (32, [l0, l1, l2, some (.int x)], [.int x, s0], w, 0)) pt_187 rfl rfl,
  fun d l1 l2 l3 s0 s1 a w Q => px_go (q := (.aload_n 0, 1, px_x0)) (S' := (33, [some (.ref a), l1, l2, l3], [.ref a, s0, s1], w, 0)) pt_187 rfl rfl,
  fun d l0 l1 l2 l3 s0 s1 s2 w Q => r_iconst pt_187 rfl (by decide),
  fun d l0 l1 l2 l3 s2 s3 v0 b w Q => r_callV (q := (.invokevirtual 69, 3, (33, 1, [(11, 149)], 0, ""))) pt_187 rfl rfl (List.forall_mem_cons.mpr ⟨⟨_, pt_149, Nat.le_of_ble_eq_true rfl, (Nat.le_of_ble_eq_true rfl), rfl⟩, fun _ h => absurd h List.not_mem_nil⟩),
  fun d l0 l1 l2 l3 v0 v1 b w Q => r_callV (q := (.invokevirtual 161, 3, (33, 2, [(11, 173)], 0, ""))) pt_187 rfl rfl (List.forall_mem_cons.mpr ⟨⟨_, pt_173, Nat.le_of_ble_eq_true rfl, (Nat.le_of_ble_eq_true rfl), rfl⟩, fun _ h => absurd h List.not_mem_nil⟩),
  fun d l0 l1 l2 l3 x w Q => r_if_eq pt_187 rfl rfl,
  fun d l0 l1 l2 l3 w Q => r_iconst pt_187 rfl (by decide),
  fun d l0 l1 l2 l3 s0 w Q => r_goto pt_187 rfl rfl,
  fun d l0 l1 l2 l3 w Q => r_iconst pt_187 rfl (by decide),
  fun d l0 l1 l2 l3 x w Q => px_go (q := (.istore_n 2, 1, px_x0)) (S' := (49, [l0, l1, some (.int x), l3], [], w, 0)) pt_187 rfl rfl,
  fun d l1 l2 l3 a w Q => px_go (q := (.aload_n 0, 1, px_x0)) (S' := (50, [some (.ref a), l1, l2, l3], [.ref a], w, 0)) pt_187 rfl rfl,
  fun d l0 l1 l2 l3 a w Q => px_goO (q := (.getfield 33, 3, (10, 18, [(11, 0)], 0, "AllSwornModel"))) (S' := fun v => (53, [l0, l1, l2, l3], [v], w, 0)) pt_187 rfl rfl,
  fun d l0 l1 l2 s0 x w Q => px_go (q := (.iload_n 3, 1, px_x0)) (S' := (54, [l0, l1, l2, some (.int x)], [.int x, s0], w, 0)) pt_187 rfl rfl,
  fun d l1 l2 l3 s0 s1 a w Q => px_go (q := (.aload_n 0, 1, px_x0)) (S' := (55, [some (.ref a), l1, l2, l3], [.ref a, s0, s1], w, 0)) pt_187 rfl rfl,
  fun d l0 l1 l2 l3 s0 s1 s2 w Q => r_iconst pt_187 rfl (by decide),
  fun d l0 l1 l2 l3 s2 s3 v0 b w Q => r_callV (q := (.invokevirtual 69, 3, (33, 1, [(11, 149)], 0, ""))) pt_187 rfl rfl (List.forall_mem_cons.mpr ⟨⟨_, pt_149, Nat.le_of_ble_eq_true rfl, (Nat.le_of_ble_eq_true rfl), rfl⟩, fun _ h => absurd h List.not_mem_nil⟩),
  fun d l0 l1 l2 l3 x i a w Q => px_goO (q := (.iastore, 1, px_x0)) (S' := fun w' => (60, [l0, l1, l2, l3], [], w', 0)) pt_187 rfl rfl,
  fun d l0 l1 l2 x w Q => r_iinc pt_187 rfl rfl (by decide) rfl,
  fun d l0 l1 l2 l3 w Q => r_goto pt_187 rfl rfl,
  fun d l0 l1 l3 x w Q => px_go (q := (.iload_n 2, 1, px_x0)) (S' := (67, [l0, l1, some (.int x), l3], [.int x], w, 0)) pt_187 rfl rfl,
  fun d l0 l1 l2 l3 x w Q => r_if_eq pt_187 rfl rfl,
  fun d l1 l2 l3 a w Q => px_go (q := (.aload_n 0, 1, px_x0)) (S' := (71, [some (.ref a), l1, l2, l3], [.ref a], w, 0)) pt_187 rfl rfl,
  fun d l1 l2 l3 s0 a w Q => px_go (q := (.aload_n 0, 1, px_x0)) (S' := (72, [some (.ref a), l1, l2, l3], [.ref a, s0], w, 0)) pt_187 rfl rfl,
  fun d l0 l1 l2 l3 s0 s1 w Q => r_iconst pt_187 rfl (by decide),
  fun d l0 l1 l2 l3 s2 v0 b w Q => r_callV (q := (.invokevirtual 69, 3, (33, 1, [(11, 149)], 0, ""))) pt_187 rfl rfl (List.forall_mem_cons.mpr ⟨⟨_, pt_149, Nat.le_of_ble_eq_true rfl, (Nat.le_of_ble_eq_true rfl), rfl⟩, fun _ h => absurd h List.not_mem_nil⟩),
  fun d l0 l1 l2 l3 v0 b w Q => r_callV (q := (.invokevirtual 149, 3, (33, 1, [(11, 170)], 0, ""))) pt_187 rfl rfl (List.forall_mem_cons.mpr ⟨⟨_, pt_170, Nat.le_of_ble_eq_true rfl, (Nat.le_of_ble_eq_true rfl), rfl⟩, fun _ h => absurd h List.not_mem_nil⟩),
  fun d l0 l1 l2 l3 x w Q => r_if_ne pt_187 rfl rfl,
  fun d l0 l1 l2 l3 w Q => r_iconst pt_187 rfl (by decide),
  fun d l0 l1 l2 l3 s0 w Q => r_goto pt_187 rfl rfl,
  fun d l0 l1 l2 l3 w Q => r_iconst pt_187 rfl (by decide),
  fun d l0 l1 l2 l3 x w Q => px_retI (q := (.ireturn, 1, px_x0)) pt_187 rfl rfl⟩
theorem H187_8 : ∀ (d : Nat) (l0 l1 l2 : Option Value) (x : Int32) (w : px_H) (Q : Option Value → px_H → Prop), wp d 187 8 [l0, l1, l2, some (.int x)] [] w 0 Q ↔ wp d 187 9 [l0, l1, l2, some (.int x)] [.int x] w 0 Q := fun d l0 l1 l2 x w Q => px_go (q := (.iload_n 3, 1, px_x0)) (S' := (9, [l0, l1, l2, some (.int x)], [.int x], w, 0)) pt_187 rfl rfl
/-- AllSwornModel.cover(I)I heads: [27] -/
theorem S188 : (∀ (d : Nat) (v0 v1 : Value) (w : px_H) (Q : Option Value → px_H → Prop), wc d 188 [v0, v1] w Q ↔ wp d 188 0 [some v0, some v1, none, none, none] [] w 0 Q) ∧
  (∀ (d : Nat) (l1 l2 l3 l4 : Option Value) (a : Nat) (w : px_H) (Q : Option Value → px_H → Prop), wp d 188 0 [some (.ref a), l1, l2, l3, l4] [] w 0 Q ↔ wp d 188 1 [some (.ref a), l1, l2, l3, l4] [.ref a] w 0 Q) ∧
  (∀ (d : Nat) (l0 l1 l2 l3 l4 : Option Value)  (b : Nat) (w : px_H) (Q : Option Value → px_H → Prop), wp (d + 1) 188 1 [l0, l1, l2, l3, l4] [.ref b] w 0 Q ↔ px_op (px_tgt w b [(11, 175)]) (fun v => wc d v [.ref b] w (fun r w' => wp (d + 1) 188 4 [l0, l1, l2, l3, l4] (r.toList ++ []) w' 0 Q))) ∧
  (∀ (d : Nat) (l0 l1 l2 l3 l4 : Option Value) (x : Int32) (w : px_H) (Q : Option Value → px_H → Prop), wp d 188 4 [l0, l1, l2, l3, l4] [.int x] w 0 Q ↔ if x = 0 then wp d 188 7 [l0, l1, l2, l3, l4] [] w 0 Q else wp d 188 10 [l0, l1, l2, l3, l4] [] w 0 Q) ∧
  (∀ (d : Nat) (l0 l1 l2 l3 l4 : Option Value)  (w : px_H) (Q : Option Value → px_H → Prop), wp d 188 7 [l0, l1, l2, l3, l4] [] w 0 Q ↔ wp d 188 9 [l0, l1, l2, l3, l4] [.int (-1000002)] w 0 Q) ∧
  (∀ (d : Nat) (l0 l1 l2 l3 l4 : Option Value) (x : Int32) (w : px_H) (Q : Option Value → px_H → Prop), wp d 188 9 [l0, l1, l2, l3, l4] [.int x] w 0 Q ↔ Q (some (.int x)) w) ∧
  (∀ (d : Nat) (l0 l2 l3 l4 : Option Value) (x : Int32) (w : px_H) (Q : Option Value → px_H → Prop), wp d 188 10 [l0, some (.int x), l2, l3, l4] [] w 0 Q ↔ wp d 188 11 [l0, some (.int x), l2, l3, l4] [.int x] w 0 Q) ∧
  (∀ (d : Nat) (l0 l1 l2 l3 l4 : Option Value) (s0 : Value)  (w : px_H) (Q : Option Value → px_H → Prop), wp d 188 11 [l0, l1, l2, l3, l4] [s0] w 0 Q ↔ wp d 188 12 [l0, l1, l2, l3, l4] [.int 0, s0] w 0 Q) ∧
  (∀ (d : Nat) (l0 l1 l2 l3 l4 : Option Value) (s0 s1 : Value)  (w : px_H) (Q : Option Value → px_H → Prop), wp d 188 12 [l0, l1, l2, l3, l4] [s0, s1] w 0 Q ↔ wp d 188 13 [l0, l1, l2, l3, l4] [.int 1, s0, s1] w 0 Q) ∧
  (∀ (d : Nat) (l0 l1 l2 l3 l4 : Option Value) (v0 v1 v2 : Value) (w : px_H) (Q : Option Value → px_H → Prop), wp (d + 1) 188 13 [l0, l1, l2, l3, l4] [v2, v1, v0] w 0 Q ↔ wc d 140 [v0, v1, v2] w (fun r w' => wp (d + 1) 188 16 [l0, l1, l2, l3, l4] (r.toList ++ []) w' 0 Q)) ∧
  (∀ (d : Nat) (l0 l1 l2 l3 l4 : Option Value) (x : Int32) (w : px_H) (Q : Option Value → px_H → Prop), wp d 188 16 [l0, l1, l2, l3, l4] [.int x] w 0 Q ↔ if x = 0 then wp d 188 19 [l0, l1, l2, l3, l4] [] w 0 Q else wp d 188 22 [l0, l1, l2, l3, l4] [] w 0 Q) ∧
  (∀ (d : Nat) (l0 l1 l2 l3 l4 : Option Value)  (w : px_H) (Q : Option Value → px_H → Prop), wp d 188 19 [l0, l1, l2, l3, l4] [] w 0 Q ↔ wp d 188 21 [l0, l1, l2, l3, l4] [.int (-1000001)] w 0 Q) ∧
  (∀ (d : Nat) (l0 l1 l2 l3 l4 : Option Value) (x : Int32) (w : px_H) (Q : Option Value → px_H → Prop), wp d 188 21 [l0, l1, l2, l3, l4] [.int x] w 0 Q ↔ Q (some (.int x)) w) ∧
  (∀ (d : Nat) (l0 l1 l2 l3 l4 : Option Value)  (w : px_H) (Q : Option Value → px_H → Prop), wp d 188 22 [l0, l1, l2, l3, l4] [] w 0 Q ↔ wp d 188 24 [l0, l1, l2, l3, l4] [.int (-1000000)] w 0 Q) ∧
  (∀ (d : Nat) (l0 l1 l2 l3 l4 : Option Value) (x : Int32) (w : px_H) (Q : Option Value → px_H → Prop), wp d 188 24 [l0, l1, l2, l3, l4] [.int x] w 0 Q ↔ wp d 188 25 [l0, l1, some (.int x), l3, l4] [] w 0 Q) ∧
  (∀ (d : Nat) (l0 l1 l2 l3 l4 : Option Value)  (w : px_H) (Q : Option Value → px_H → Prop), wp d 188 25 [l0, l1, l2, l3, l4] [] w 0 Q ↔ wp d 188 26 [l0, l1, l2, l3, l4] [.int 0] w 0 Q) ∧
  (∀ (d : Nat) (l0 l1 l2 l3 l4 : Option Value) (x : Int32) (w : px_H) (Q : Option Value → px_H → Prop), wp d 188 26 [l0, l1, l2, l3, l4] [.int x] w 0 Q ↔ wp d 188 27 [l0, l1, l2, some (.int x), l4] [] w 0 Q) ∧
  (∀ (d : Nat) (l0 l1 l2 l3 l4 : Option Value) (s0 : Value)  (w : px_H) (Q : Option Value → px_H → Prop), wp d 188 28 [l0, l1, l2, l3, l4] [s0] w 0 Q ↔ wp d 188 29 [l0, l1, l2, l3, l4] [.int 1, s0] w 0 Q) ∧
  (∀ (d : Nat) (l1 l2 l3 l4 : Option Value) (s0 s1 : Value) (a : Nat) (w : px_H) (Q : Option Value → px_H → Prop), wp d 188 29 [some (.ref a), l1, l2, l3, l4] [s0, s1] w 0 Q ↔ wp d 188 30 [some (.ref a), l1, l2, l3, l4] [.ref a, s0, s1] w 0 Q) ∧
  (∀ (d : Nat) (l0 l1 l2 l3 l4 : Option Value) (s0 s1 s2 : Value)  (w : px_H) (Q : Option Value → px_H → Prop), wp d 188 30 [l0, l1, l2, l3, l4] [s0, s1, s2] w 0 Q ↔ wp d 188 31 [l0, l1, l2, l3, l4] [.int 1, s0, s1, s2] w 0 Q) ∧
  (∀ (d : Nat) (l0 l1 l2 l3 l4 : Option Value) (s2 s3 : Value) (v0 : Value) (b : Nat) (w : px_H) (Q : Option Value → px_H → Prop), wp (d + 1) 188 31 [l0, l1, l2, l3, l4] [v0, .ref b, s2, s3] w 0 Q ↔ px_op (px_tgt w b [(11, 149)]) (fun v => wc d v [.ref b, v0] w (fun r w' => wp (d + 1) 188 34 [l0, l1, l2, l3, l4] (r.toList ++ [s2, s3]) w' 0 Q))) ∧
  (∀ (d : Nat) (l0 l1 l2 l3 l4 : Option Value) (s2 : Value) (x y : Int32) (w : px_H) (Q : Option Value → px_H → Prop), wp d 188 34 [l0, l1, l2, l3, l4] [.int y, .int x, s2] w 0 Q ↔ wp d 188 35 [l0, l1, l2, l3, l4] [.int (x <<< (y &&& 31)), s2] w 0 Q) ∧
  (∀ (d : Nat) (l0 l1 l2 l3 l4 : Option Value) (x y : Int32) (w : px_H) (Q : Option Value → px_H → Prop), wp d 188 35 [l0, l1, l2, l3, l4] [.int y, .int x] w 0 Q ↔ if y ≤ x then wp d 188 87 [l0, l1, l2, l3, l4] [] w 0 Q else wp d 188 38 [l0, l1, l2, l3, l4] [] w 0 Q) ∧
  (∀ (d : Nat) (l0 l1 l3 l4 : Option Value) (x : Int32) (w : px_H) (Q : Option Value → px_H → Prop), wp d 188 38 [l0, l1, some (.int x), l3, l4] [] w 0 Q ↔ wp d 188 39 [l0, l1, some (.int x), l3, l4] [.int x] w 0 Q) ∧
  (∀ (d : Nat) (l0 l1 l2 l3 l4 : Option Value) (s0 : Value)  (w : px_H) (Q : Option Value → px_H → Prop), wp d 188 39 [l0, l1, l2, l3, l4] [s0] w 0 Q ↔ wp d 188 41 [l0, l1, l2, l3, l4] [.int (-1000000), s0] w 0 Q) ∧
  (∀ (d : Nat) (l0 l1 l2 l3 l4 : Option Value) (x y : Int32) (w : px_H) (Q : Option Value → px_H → Prop), wp d 188 41 [l0, l1, l2, l3, l4] [.int y, .int x] w 0 Q ↔ if x = y then wp d 188 55 [l0, l1, l2, l3, l4] [] w 0 Q else wp d 188 44 [l0, l1, l2, l3, l4] [] w 0 Q) ∧
  (∀ (d : Nat) (l0 l1 l2 l4 : Option Value) (x : Int32) (w : px_H) (Q : Option Value → px_H → Prop), wp d 188 44 [l0, l1, l2, some (.int x), l4] [] w 0 Q ↔ wp d 188 45 [l0, l1, l2, some (.int x), l4] [.int x] w 0 Q) ∧
  (∀ (d : Nat) (l0 l1 l2 l3 l4 : Option Value) (v0 : Value) (w : px_H) (Q : Option Value → px_H → Prop), wp (d + 1) 188 45 [l0, l1, l2, l3, l4] [v0] w 0 Q ↔ wc d 186 [v0] w (fun r w' => wp (d + 1) 188 48 [l0, l1, l2, l3, l4] (r.toList ++ []) w' 0 Q)) ∧
  (∀ (d : Nat) (l0 l1 l3 l4 : Option Value) (s0 : Value) (x : Int32) (w : px_H) (Q : Option Value → px_H → Prop), wp d 188 48 [l0, l1, some (.int x), l3, l4] [s0] w 0 Q ↔ wp d 188 49 [l0, l1, some (.int x), l3, l4] [.int x, s0] w 0 Q) ∧
  (∀ (d : Nat) (l0 l1 l2 l3 l4 : Option Value) (s1 : Value) (v0 : Value) (w : px_H) (Q : Option Value → px_H → Prop), wp (d + 1) 188 49 [l0, l1, l2, l3, l4] [v0, s1] w 0 Q ↔ wc d 186 [v0] w (fun r w' => wp (d + 1) 188 52 [l0, l1, l2, l3, l4] (r.toList ++ [s1]) w' 0 Q)) ∧
  (∀ (d : Nat) (l0 l1 l2 l3 l4 : Option Value) (x y : Int32) (w : px_H) (Q : Option Value → px_H → Prop), wp d 188 52 [l0, l1, l2, l3, l4] [.int y, .int x] w 0 Q ↔ if y ≤ x then wp d 188 59 [l0, l1, l2, l3, l4] [] w 0 Q else wp d 188 55 [l0, l1, l2, l3, l4] [] w 0 Q) ∧
  (∀ (d : Nat) (l0 l1 l2 l3 l4 : Option Value)  (w : px_H) (Q : Option Value → px_H → Prop), wp d 188 55 [l0, l1, l2, l3, l4] [] w 0 Q ↔ wp d 188 56 [l0, l1, l2, l3, l4] [.int 1] w 0 Q) ∧
  (∀ (d : Nat) (l0 l1 l2 l3 l4 : Option Value) (s0 : Value)  (w : px_H) (Q : Option Value → px_H → Prop), wp d 188 56 [l0, l1, l2, l3, l4] [s0] w 0 Q ↔ wp d 188 60 [l0, l1, l2, l3, l4] [s0] w 0 Q) ∧
  (∀ (d : Nat) (l0 l1 l2 l3 l4 : Option Value)  (w : px_H) (Q : Option Value → px_H → Prop), wp d 188 59 [l0, l1, l2, l3, l4] [] w 0 Q ↔ wp d 188 60 [l0, l1, l2, l3, l4] [.int 0] w 0 Q) ∧
  (∀ (d : Nat) (l0 l1 l2 l3 l4 : Option Value) (x : Int32) (w : px_H) (Q : Option Value → px_H → Prop), wp d 188 60 [l0, l1, l2, l3, l4] [.int x] w 0 Q ↔ wp d 188 62 [l0, l1, l2, l3, some (.int x)] [] w 0 Q) ∧
  (∀ (d : Nat) (l0 l1 l2 l3 : Option Value) (x : Int32) (w : px_H) (Q : Option Value → px_H → Prop), wp d 188 62 [l0, l1, l2, l3, some (.int x)] [] w 0 Q ↔ wp d 188 64 [l0, l1, l2, l3, some (.int x)] [.int x] w 0 Q) ∧
  (∀ (d : Nat) (l0 l1 l2 l3 l4 : Option Value) (x : Int32) (w : px_H) (Q : Option Value → px_H → Prop), wp d 188 64 [l0, l1, l2, l3, l4] [.int x] w 0 Q ↔ if x = 0 then wp d 188 79 [l0, l1, l2, l3, l4] [] w 0 Q else wp d 188 67 [l0, l1, l2, l3, l4] [] w 0 Q) ∧
  (∀ (d : Nat) (l1 l2 l3 l4 : Option Value) (a : Nat) (w : px_H) (Q : Option Value → px_H → Prop), wp d 188 67 [some (.ref a), l1, l2, l3, l4] [] w 0 Q ↔ wp d 188 68 [some (.ref a), l1, l2, l3, l4] [.ref a] w 0 Q) ∧
  (∀ (d : Nat) (l0 l1 l2 l4 : Option Value) (s0 : Value) (x : Int32) (w : px_H) (Q : Option Value → px_H → Prop), wp d 188 68 [l0, l1, l2, some (.int x), l4] [s0] w 0 Q ↔ wp d 188 69 [l0, l1, l2, some (.int x), l4] [.int x, s0] w 0 Q) ∧
  (∀ (d : Nat) (l0 l1 l2 l3 l4 : Option Value) (v0 : Value) (b : Nat) (w : px_H) (Q : Option Value → px_H → Prop), wp (d + 1) 188 69 [l0, l1, l2, l3, l4] [v0, .ref b] w 0 Q ↔ px_op (px_tgt w b [(11, 187)]) (fun v => wc d v [.ref b, v0] w (fun r w' => wp (d + 1) 188 72 [l0, l1, l2, l3, l4] (r.toList ++ []) w' 0 Q))) ∧
  (∀ (d : Nat) (l0 l1 l2 l3 l4 : Option Value) (x : Int32) (w : px_H) (Q : Option Value → px_H → Prop), wp d 188 72 [l0, l1, l2, l3, l4] [.int x] w 0 Q ↔ if x = 0 then wp d 188 79 [l0, l1, l2, l3, l4] [] w 0 Q else wp d 188 75 [l0, l1, l2, l3, l4] [] w 0 Q) ∧
  (∀ (d : Nat) (l0 l1 l2 l4 : Option Value) (x : Int32) (w : px_H) (Q : Option Value → px_H → Prop), wp d 188 75 [l0, l1, l2, some (.int x), l4] [] w 0 Q ↔ wp d 188 76 [l0, l1, l2, some (.int x), l4] [.int x] w 0 Q) ∧
  (∀ (d : Nat) (l0 l1 l2 l3 l4 : Option Value) (s0 : Value)  (w : px_H) (Q : Option Value → px_H → Prop), wp d 188 76 [l0, l1, l2, l3, l4] [s0] w 0 Q ↔ wp d 188 80 [l0, l1, l2, l3, l4] [s0] w 0 Q) ∧
  (∀ (d : Nat) (l0 l1 l3 l4 : Option Value) (x : Int32) (w : px_H) (Q : Option Value → px_H → Prop), wp d 188 79 [l0, l1, some (.int x), l3, l4] [] w 0 Q ↔ wp d 188 80 [l0, l1, some (.int x), l3, l4] [.int x] w 0 Q) ∧
  (∀ (d : Nat) (l0 l1 l2 l3 l4 : Option Value) (x : Int32) (w : px_H) (Q : Option Value → px_H → Prop), wp d 188 80 [l0, l1, l2, l3, l4] [.int x] w 0 Q ↔ wp d 188 81 [l0, l1, some (.int x), l3, l4] [] w 0 Q) ∧
  (∀ (d : Nat) (l0 l1 l2 l4 : Option Value) (x : Int32) (w : px_H) (Q : Option Value → px_H → Prop), wp d 188 81 [l0, l1, l2, some (.int x), l4] [] w 0 Q ↔ wp d 188 84 [l0, l1, l2, some (.int (x + 1)), l4] [] w 0 Q) ∧
  (∀ (d : Nat) (l0 l1 l2 l3 l4 : Option Value)  (w : px_H) (Q : Option Value → px_H → Prop), wp d 188 84 [l0, l1, l2, l3, l4] [] w 0 Q ↔ wp d 188 27 [l0, l1, l2, l3, l4] [] w 0 Q) ∧
  (∀ (d : Nat) (l0 l1 l3 l4 : Option Value) (x : Int32) (w : px_H) (Q : Option Value → px_H → Prop), wp d 188 87 [l0, l1, some (.int x), l3, l4] [] w 0 Q ↔ wp d 188 88 [l0, l1, some (.int x), l3, l4] [.int x] w 0 Q) ∧
  (∀ (d : Nat) (l0 l1 l2 l3 l4 : Option Value) (s0 : Value)  (w : px_H) (Q : Option Value → px_H → Prop), wp d 188 88 [l0, l1, l2, l3, l4] [s0] w 0 Q ↔ wp d 188 90 [l0, l1, l2, l3, l4] [.int (-1000000), s0] w 0 Q) ∧
  (∀ (d : Nat) (l0 l1 l2 l3 l4 : Option Value) (x y : Int32) (w : px_H) (Q : Option Value → px_H → Prop), wp d 188 90 [l0, l1, l2, l3, l4] [.int y, .int x] w 0 Q ↔ if x = y then wp d 188 98 [l0, l1, l2, l3, l4] [] w 0 Q else wp d 188 93 [l0, l1, l2, l3, l4] [] w 0 Q) ∧
  (∀ (d : Nat) (l0 l2 l3 l4 : Option Value) (x : Int32) (w : px_H) (Q : Option Value → px_H → Prop), wp d 188 93 [l0, some (.int x), l2, l3, l4] [] w 0 Q ↔ wp d 188 94 [l0, some (.int x), l2, l3, l4] [.int x] w 0 Q) ∧
  (∀ (d : Nat) (l0 l1 l2 l3 l4 : Option Value) (s0 : Value)  (w : px_H) (Q : Option Value → px_H → Prop), wp d 188 94 [l0, l1, l2, l3, l4] [s0] w 0 Q ↔ wp d 188 95 [l0, l1, l2, l3, l4] [.int 1, s0] w 0 Q) ∧
  (∀ (d : Nat) (l0 l1 l2 l3 l4 : Option Value) (x y : Int32) (w : px_H) (Q : Option Value → px_H → Prop), wp d 188 95 [l0, l1, l2, l3, l4] [.int y, .int x] w 0 Q ↔ if x = y then wp d 188 98 [l0, l1, l2, l3, l4] [] w 0 Q else wp d 188 102 [l0, l1, l2, l3, l4] [] w 0 Q) ∧
  (∀ (d : Nat) (l0 l1 l3 l4 : Option Value) (x : Int32) (w : px_H) (Q : Option Value → px_H → Prop), wp d 188 98 [l0, l1, some (.int x), l3, l4] [] w 0 Q ↔ wp d 188 99 [l0, l1, some (.int x), l3, l4] [.int x] w 0 Q) ∧
  (∀ (d : Nat) (l0 l1 l2 l3 l4 : Option Value) (s0 : Value)  (w : px_H) (Q : Option Value → px_H → Prop), wp d 188 99 [l0, l1, l2, l3, l4] [s0] w 0 Q ↔ wp d 188 106 [l0, l1, l2, l3, l4] [s0] w 0 Q) ∧
  (∀ (d : Nat) (l0 l1 l3 l4 : Option Value) (x : Int32) (w : px_H) (Q : Option Value → px_H → Prop), wp d 188 102 [l0, l1, some (.int x), l3, l4] [] w 0 Q ↔ wp d 188 103 [l0, l1, some (.int x), l3, l4] [.int x] w 0 Q) ∧
  (∀ (d : Nat) (l0 l1 l2 l3 l4 : Option Value) (v0 : Value) (w : px_H) (Q : Option Value → px_H → Prop), wp (d + 1) 188 103 [l0, l1, l2, l3, l4] [v0] w 0 Q ↔ wc d 186 [v0] w (fun r w' => wp (d + 1) 188 106 [l0, l1, l2, l3, l4] (r.toList ++ []) w' 0 Q)) ∧
  (∀ (d : Nat) (l0 l1 l2 l3 l4 : Option Value) (x : Int32) (w : px_H) (Q : Option Value → px_H → Prop), wp d 188 106 [l0, l1, l2, l3, l4] [.int x] w 0 Q ↔ Q (some (.int x)) w) := ⟨fun d v0 v1 w Q => r_entry pt_188 (Nat.le_of_ble_eq_true rfl) rfl,
  fun d l1 l2 l3 l4 a w Q => px_go (q := (.aload_n 0, 1, px_x0)) (S' := (1, [some (.ref a), l1, l2, l3, l4], [.ref a], w, 0)) pt_188 rfl rfl,
  fun d l0 l1 l2 l3 l4 b w Q => r_callV (q := (.invokevirtual 171, 3, (33, 0, [(11, 175)], 0, ""))) pt_188 rfl rfl (List.forall_mem_cons.mpr ⟨⟨_, pt_175, Nat.le_of_ble_eq_true rfl, (Nat.le_of_ble_eq_true rfl), rfl⟩, fun _ h => absurd h List.not_mem_nil⟩),
  fun d l0 l1 l2 l3 l4 x w Q => r_if_ne pt_188 rfl rfl,
  fun d l0 l1 l2 l3 l4 w Q => px_go (q := (.ldc 175, 2, (0, 0, [], (-1000002), ""))) (S' := (9, [l0, l1, l2, l3, l4], [.int (-1000002)], w, 0)) pt_188 rfl rfl,
  fun d l0 l1 l2 l3 l4 x w Q => px_ret (q := (.ireturn, 1, px_x0)) pt_188 rfl rfl,
  fun d l0 l2 l3 l4 x w Q => px_go (q := (.iload_n 1, 1, px_x0)) (S' := (11, [l0, some (.int x), l2, l3, l4], [.int x], w, 0)) pt_188 rfl rfl,
  fun d l0 l1 l2 l3 l4 s0 w Q => r_iconst pt_188 rfl (by decide),
  fun d l0 l1 l2 l3 l4 s0 s1 w Q => r_iconst pt_188 rfl (by decide),
  fun d l0 l1 l2 l3 l4 v0 v1 v2 w Q => r_call (q := (.invokestatic 50, 3, (30, 3, [(0, 140)], 0, ""))) pt_188 rfl rfl pt_140 (Nat.le_of_ble_eq_true rfl) (Nat.le_of_ble_eq_true rfl) rfl,
  fun d l0 l1 l2 l3 l4 x w Q => r_if_ne pt_188 rfl rfl,
  fun d l0 l1 l2 l3 l4 w Q => px_go (q := (.ldc 58, 2, (0, 0, [], (-1000001), ""))) (S' := (21, [l0, l1, l2, l3, l4], [.int (-1000001)], w, 0)) pt_188 rfl rfl,
  fun d l0 l1 l2 l3 l4 x w Q => px_ret (q := (.ireturn, 1, px_x0)) pt_188 rfl rfl,
  fun d l0 l1 l2 l3 l4 w Q => px_go (q := (.ldc 119, 2, (0, 0, [], (-1000000), ""))) (S' := (24, [l0, l1, l2, l3, l4], [.int (-1000000)], w, 0)) pt_188 rfl rfl,
  fun d l0 l1 l2 l3 l4 x w Q => px_go (q := (.istore_n 2, 1, px_x0)) (S' := (25, [l0, l1, some (.int x), l3, l4], [], w, 0)) pt_188 rfl rfl,
  fun d l0 l1 l2 l3 l4 w Q => r_iconst pt_188 rfl (by decide),
  fun d l0 l1 l2 l3 l4 x w Q => px_go (q := (.istore_n 3, 1, px_x0)) (S' := (27, [l0, l1, l2, some (.int x), l4], [], w, 0)) pt_188 rfl rfl,
  fun d l0 l1 l2 l3 l4 s0 w Q => r_iconst pt_188 rfl (by decide),
  fun d l1 l2 l3 l4 s0 s1 a w Q => px_go (q := (.aload_n 0, 1, px_x0)) (S' := (30, [some (.ref a), l1, l2, l3, l4], [.ref a, s0, s1], w, 0)) pt_188 rfl rfl,
  fun d l0 l1 l2 l3 l4 s0 s1 s2 w Q => r_iconst pt_188 rfl (by decide),
  fun d l0 l1 l2 l3 l4 s2 s3 v0 b w Q => r_callV (q := (.invokevirtual 69, 3, (33, 1, [(11, 149)], 0, ""))) pt_188 rfl rfl (List.forall_mem_cons.mpr ⟨⟨_, pt_149, Nat.le_of_ble_eq_true rfl, (Nat.le_of_ble_eq_true rfl), rfl⟩, fun _ h => absurd h List.not_mem_nil⟩),
  fun d l0 l1 l2 l3 l4 s2 x y w Q => px_go (q := (.ishl, 1, px_x0)) (S' := (35, [l0, l1, l2, l3, l4], [.int (x <<< (y &&& 31)), s2], w, 0)) pt_188 rfl rfl,
  fun d l0 l1 l2 l3 l4 x y w Q => r_icmp_ge pt_188 rfl rfl,
  fun d l0 l1 l3 l4 x w Q => px_go (q := (.iload_n 2, 1, px_x0)) (S' := (39, [l0, l1, some (.int x), l3, l4], [.int x], w, 0)) pt_188 rfl rfl,
  fun d l0 l1 l2 l3 l4 s0 w Q => px_go (q := (.ldc 119, 2, (0, 0, [], (-1000000), ""))) (S' := (41, [l0, l1, l2, l3, l4], [.int (-1000000), s0], w, 0)) pt_188 rfl rfl,
  fun d l0 l1 l2 l3 l4 x y w Q => r_icmp_eq pt_188 rfl rfl,
  fun d l0 l1 l2 l4 x w Q => px_go (q := (.iload_n 3, 1, px_x0)) (S' := (45, [l0, l1, l2, some (.int x), l4], [.int x], w, 0)) pt_188 rfl rfl,
  fun d l0 l1 l2 l3 l4 v0 w Q => r_call (q := (.invokestatic 182, 3, (30, 1, [(0, 186)], 0, ""))) pt_188 rfl rfl pt_186 (Nat.le_of_ble_eq_true rfl) (Nat.le_of_ble_eq_true rfl) rfl,
  fun d l0 l1 l3 l4 s0 x w Q => px_go (q := (.iload_n 2, 1, px_x0)) (S' := (49, [l0, l1, some (.int x), l3, l4], [.int x, s0], w, 0)) pt_188 rfl rfl,
  fun d l0 l1 l2 l3 l4 s1 v0 w Q => r_call (q := (.invokestatic 182, 3, (30, 1, [(0, 186)], 0, ""))) pt_188 rfl rfl pt_186 (Nat.le_of_ble_eq_true rfl) (Nat.le_of_ble_eq_true rfl) rfl,
  fun d l0 l1 l2 l3 l4 x y w Q => r_icmp_ge pt_188 rfl rfl,
  fun d l0 l1 l2 l3 l4 w Q => r_iconst pt_188 rfl (by decide),
  fun d l0 l1 l2 l3 l4 s0 w Q => r_goto pt_188 rfl rfl,
  fun d l0 l1 l2 l3 l4 w Q => r_iconst pt_188 rfl (by decide),
  fun d l0 l1 l2 l3 l4 x w Q => px_go (q := (.istore 4, 2, px_x0)) (S' := (62, [l0, l1, l2, l3, some (.int x)], [], w, 0)) pt_188 rfl rfl,
  fun d l0 l1 l2 l3 x w Q => px_go (q := (.iload 4, 2, px_x0)) (S' := (64, [l0, l1, l2, l3, some (.int x)], [.int x], w, 0)) pt_188 rfl rfl,
  fun d l0 l1 l2 l3 l4 x w Q => r_if_eq pt_188 rfl rfl,
  fun d l1 l2 l3 l4 a w Q => px_go (q := (.aload_n 0, 1, px_x0)) (S' := (68, [some (.ref a), l1, l2, l3, l4], [.ref a], w, 0)) pt_188 rfl rfl,
  fun d l0 l1 l2 l4 s0 x w Q => px_go (q := (.iload_n 3, 1, px_x0)) (S' := (69, [l0, l1, l2, some (.int x), l4], [.int x, s0], w, 0)) pt_188 rfl rfl,
  fun d l0 l1 l2 l3 l4 v0 b w Q => r_callV (q := (.invokevirtual 185, 3, (33, 1, [(11, 187)], 0, ""))) pt_188 rfl rfl (List.forall_mem_cons.mpr ⟨⟨_, pt_187, Nat.le_of_ble_eq_true rfl, (Nat.le_of_ble_eq_true rfl), rfl⟩, fun _ h => absurd h List.not_mem_nil⟩),
  fun d l0 l1 l2 l3 l4 x w Q => r_if_eq pt_188 rfl rfl,
  fun d l0 l1 l2 l4 x w Q => px_go (q := (.iload_n 3, 1, px_x0)) (S' := (76, [l0, l1, l2, some (.int x), l4], [.int x], w, 0)) pt_188 rfl rfl,
  fun d l0 l1 l2 l3 l4 s0 w Q => r_goto pt_188 rfl rfl,
  fun d l0 l1 l3 l4 x w Q => px_go (q := (.iload_n 2, 1, px_x0)) (S' := (80, [l0, l1, some (.int x), l3, l4], [.int x], w, 0)) pt_188 rfl rfl,
  fun d l0 l1 l2 l3 l4 x w Q => px_go (q := (.istore_n 2, 1, px_x0)) (S' := (81, [l0, l1, some (.int x), l3, l4], [], w, 0)) pt_188 rfl rfl,
  fun d l0 l1 l2 l4 x w Q => r_iinc pt_188 rfl rfl (by decide) rfl,
  fun d l0 l1 l2 l3 l4 w Q => r_goto pt_188 rfl rfl,
  fun d l0 l1 l3 l4 x w Q => px_go (q := (.iload_n 2, 1, px_x0)) (S' := (88, [l0, l1, some (.int x), l3, l4], [.int x], w, 0)) pt_188 rfl rfl,
  fun d l0 l1 l2 l3 l4 s0 w Q => px_go (q := (.ldc 119, 2, (0, 0, [], (-1000000), ""))) (S' := (90, [l0, l1, l2, l3, l4], [.int (-1000000), s0], w, 0)) pt_188 rfl rfl,
  fun d l0 l1 l2 l3 l4 x y w Q => r_icmp_eq pt_188 rfl rfl,
  fun d l0 l2 l3 l4 x w Q => px_go (q := (.iload_n 1, 1, px_x0)) (S' := (94, [l0, some (.int x), l2, l3, l4], [.int x], w, 0)) pt_188 rfl rfl,
  fun d l0 l1 l2 l3 l4 s0 w Q => r_iconst pt_188 rfl (by decide),
  fun d l0 l1 l2 l3 l4 x y w Q => r_icmp_ne pt_188 rfl rfl,
  fun d l0 l1 l3 l4 x w Q => px_go (q := (.iload_n 2, 1, px_x0)) (S' := (99, [l0, l1, some (.int x), l3, l4], [.int x], w, 0)) pt_188 rfl rfl,
  fun d l0 l1 l2 l3 l4 s0 w Q => r_goto pt_188 rfl rfl,
  fun d l0 l1 l3 l4 x w Q => px_go (q := (.iload_n 2, 1, px_x0)) (S' := (103, [l0, l1, some (.int x), l3, l4], [.int x], w, 0)) pt_188 rfl rfl,
  fun d l0 l1 l2 l3 l4 v0 w Q => r_call (q := (.invokestatic 182, 3, (30, 1, [(0, 186)], 0, ""))) pt_188 rfl rfl pt_186 (Nat.le_of_ble_eq_true rfl) (Nat.le_of_ble_eq_true rfl) rfl,
  fun d l0 l1 l2 l3 l4 x w Q => px_ret (q := (.ireturn, 1, px_x0)) pt_188 rfl rfl⟩
theorem H188_27 : ∀ (d : Nat) (l0 l1 l2 l4 : Option Value) (x : Int32) (w : px_H) (Q : Option Value → px_H → Prop), wp d 188 27 [l0, l1, l2, some (.int x), l4] [] w 0 Q ↔ wp d 188 28 [l0, l1, l2, some (.int x), l4] [.int x] w 0 Q := fun d l0 l1 l2 l4 x w Q => px_go (q := (.iload_n 3, 1, px_x0)) (S' := (28, [l0, l1, l2, some (.int x), l4], [.int x], w, 0)) pt_188 rfl rfl
/-- AllSwornModel.goesRound(II)Z heads: [13, 114] -/
theorem S189 : (∀ (d : Nat) (v0 v1 v2 : Value) (w : px_H) (Q : Option Value → px_H → Prop), wc d 189 [v0, v1, v2] w Q ↔ wp d 189 0 [some v0, some v1, some v2, none, none, none, none] [] w 0 Q) ∧
  (∀ (d : Nat) (l0 l2 l3 l4 l5 l6 : Option Value) (x : Int32) (w : px_H) (Q : Option Value → px_H → Prop), wp d 189 0 [l0, some (.int x), l2, l3, l4, l5, l6] [] w 0 Q ↔ wp d 189 1 [l0, some (.int x), l2, l3, l4, l5, l6] [.int x] w 0 Q) ∧
  (∀ (d : Nat) (l0 l1 l2 l3 l4 l5 l6 : Option Value) (x : Int32) (w : px_H) (Q : Option Value → px_H → Prop), wp d 189 1 [l0, l1, l2, l3, l4, l5, l6] [.int x] w 0 Q ↔ wp d 189 2 [l0, l1, l2, some (.int x), l4, l5, l6] [] w 0 Q) ∧
  (∀ (d : Nat) (l0 l1 l2 l3 l4 l5 l6 : Option Value)  (w : px_H) (Q : Option Value → px_H → Prop), wp d 189 2 [l0, l1, l2, l3, l4, l5, l6] [] w 0 Q ↔ wp d 189 3 [l0, l1, l2, l3, l4, l5, l6] [.int 0] w 0 Q) ∧
  (∀ (d : Nat) (l0 l1 l2 l3 l4 l5 l6 : Option Value) (x : Int32) (w : px_H) (Q : Option Value → px_H → Prop), wp d 189 3 [l0, l1, l2, l3, l4, l5, l6] [.int x] w 0 Q ↔ wp d 189 5 [l0, l1, l2, l3, some (.int x), l5, l6] [] w 0 Q) ∧
  (∀ (d : Nat) (l0 l1 l2 l3 l4 l5 l6 : Option Value)  (w : px_H) (Q : Option Value → px_H → Prop), wp d 189 5 [l0, l1, l2, l3, l4, l5, l6] [] w 0 Q ↔ wp d 189 6 [l0, l1, l2, l3, l4, l5, l6] [.int 1] w 0 Q) ∧
  (∀ (d : Nat) (l0 l1 l2 l3 l4 l5 l6 : Option Value) (x : Int32) (w : px_H) (Q : Option Value → px_H → Prop), wp d 189 6 [l0, l1, l2, l3, l4, l5, l6] [.int x] w 0 Q ↔ wp d 189 8 [l0, l1, l2, l3, l4, some (.int x), l6] [] w 0 Q) ∧
  (∀ (d : Nat) (l0 l1 l3 l4 l5 l6 : Option Value) (x : Int32) (w : px_H) (Q : Option Value → px_H → Prop), wp d 189 8 [l0, l1, some (.int x), l3, l4, l5, l6] [] w 0 Q ↔ wp d 189 9 [l0, l1, some (.int x), l3, l4, l5, l6] [.int x] w 0 Q) ∧
  (∀ (d : Nat) (l0 l1 l2 l3 l4 l5 l6 : Option Value) (s0 : Value)  (w : px_H) (Q : Option Value → px_H → Prop), wp d 189 9 [l0, l1, l2, l3, l4, l5, l6] [s0] w 0 Q ↔ wp d 189 10 [l0, l1, l2, l3, l4, l5, l6] [.int 1, s0] w 0 Q) ∧
  (∀ (d : Nat) (l0 l1 l2 l3 l4 l5 l6 : Option Value) (x y : Int32) (w : px_H) (Q : Option Value → px_H → Prop), wp d 189 10 [l0, l1, l2, l3, l4, l5, l6] [.int y, .int x] w 0 Q ↔ wp d 189 11 [l0, l1, l2, l3, l4, l5, l6] [.int (x - y)] w 0 Q) ∧
  (∀ (d : Nat) (l0 l1 l2 l3 l4 l5 l6 : Option Value) (x : Int32) (w : px_H) (Q : Option Value → px_H → Prop), wp d 189 11 [l0, l1, l2, l3, l4, l5, l6] [.int x] w 0 Q ↔ wp d 189 13 [l0, l1, l2, l3, l4, l5, some (.int x)] [] w 0 Q) ∧
  (∀ (d : Nat) (l0 l1 l2 l3 l4 l5 l6 : Option Value) (x : Int32) (w : px_H) (Q : Option Value → px_H → Prop), wp d 189 15 [l0, l1, l2, l3, l4, l5, l6] [.int x] w 0 Q ↔ if x < 0 then wp d 189 95 [l0, l1, l2, l3, l4, l5, l6] [] w 0 Q else wp d 189 18 [l0, l1, l2, l3, l4, l5, l6] [] w 0 Q) ∧
  (∀ (d : Nat) (l1 l2 l3 l4 l5 l6 : Option Value) (a : Nat) (w : px_H) (Q : Option Value → px_H → Prop), wp d 189 18 [some (.ref a), l1, l2, l3, l4, l5, l6] [] w 0 Q ↔ wp d 189 19 [some (.ref a), l1, l2, l3, l4, l5, l6] [.ref a] w 0 Q) ∧
  (∀ (d : Nat) (l0 l1 l2 l3 l4 l5 l6 : Option Value) (a : Nat) (w : px_H) (Q : Option Value → px_H → Prop), wp d 189 19 [l0, l1, l2, l3, l4, l5, l6] [.ref a] w 0 Q ↔ px_op (px_fld w a [(11, 0)] 19) (fun v => wp d 189 22 [l0, l1, l2, l3, l4, l5, l6] [v] w 0 Q)) ∧
  (∀ (d : Nat) (l0 l1 l2 l3 l4 l5 : Option Value) (s0 : Value) (x : Int32) (w : px_H) (Q : Option Value → px_H → Prop), wp d 189 22 [l0, l1, l2, l3, l4, l5, some (.int x)] [s0] w 0 Q ↔ wp d 189 24 [l0, l1, l2, l3, l4, l5, some (.int x)] [.int x, s0] w 0 Q) ∧
  (∀ (d : Nat) (l0 l1 l2 l4 l5 l6 : Option Value) (s0 s1 : Value) (x : Int32) (w : px_H) (Q : Option Value → px_H → Prop), wp d 189 24 [l0, l1, l2, some (.int x), l4, l5, l6] [s0, s1] w 0 Q ↔ wp d 189 25 [l0, l1, l2, some (.int x), l4, l5, l6] [.int x, s0, s1] w 0 Q) ∧
  (∀ (d : Nat) (l0 l1 l2 l3 l4 l5 l6 : Option Value) (s0 s1 s2 : Value)  (w : px_H) (Q : Option Value → px_H → Prop), wp d 189 25 [l0, l1, l2, l3, l4, l5, l6] [s0, s1, s2] w 0 Q ↔ wp d 189 27 [l0, l1, l2, l3, l4, l5, l6] [.int 8, s0, s1, s2] w 0 Q) ∧
  (∀ (d : Nat) (l0 l1 l2 l3 l4 l5 l6 : Option Value) (s2 s3 : Value) (x y : Int32) (w : px_H) (Q : Option Value → px_H → Prop), wp d 189 27 [l0, l1, l2, l3, l4, l5, l6] [.int y, .int x, s2, s3] w 0 Q ↔ px_op (if y = 0 then none else some (x - x / y * y)) (fun z => wp d 189 28 [l0, l1, l2, l3, l4, l5, l6] [.int z, s2, s3] w 0 Q)) ∧
  (∀ (d : Nat) (l0 l1 l2 l3 l4 l5 l6 : Option Value) (x i : Int32) (a : Nat) (w : px_H) (Q : Option Value → px_H → Prop), wp d 189 28 [l0, l1, l2, l3, l4, l5, l6] [.int x, .int i, .ref a] w 0 Q ↔ px_op (px_ast w a i x .int) (fun w' => wp d 189 29 [l0, l1, l2, l3, l4, l5, l6] [] w' 0 Q)) ∧
  (∀ (d : Nat) (l0 l1 l2 l4 l5 l6 : Option Value) (x : Int32) (w : px_H) (Q : Option Value → px_H → Prop), wp d 189 29 [l0, l1, l2, some (.int x), l4, l5, l6] [] w 0 Q ↔ wp d 189 30 [l0, l1, l2, some (.int x), l4, l5, l6] [.int x] w 0 Q) ∧
  (∀ (d : Nat) (l0 l1 l2 l3 l4 l5 l6 : Option Value) (s0 : Value)  (w : px_H) (Q : Option Value → px_H → Prop), wp d 189 30 [l0, l1, l2, l3, l4, l5, l6] [s0] w 0 Q ↔ wp d 189 32 [l0, l1, l2, l3, l4, l5, l6] [.int 8, s0] w 0 Q) ∧
  (∀ (d : Nat) (l0 l1 l2 l3 l4 l5 l6 : Option Value) (x y : Int32) (w : px_H) (Q : Option Value → px_H → Prop), wp d 189 32 [l0, l1, l2, l3, l4, l5, l6] [.int y, .int x] w 0 Q ↔ px_op (if y = 0 then none else some (x / y)) (fun z => wp d 189 33 [l0, l1, l2, l3, l4, l5, l6] [.int z] w 0 Q)) ∧
  (∀ (d : Nat) (l0 l1 l2 l3 l4 l5 l6 : Option Value) (x : Int32) (w : px_H) (Q : Option Value → px_H → Prop), wp d 189 33 [l0, l1, l2, l3, l4, l5, l6] [.int x] w 0 Q ↔ wp d 189 34 [l0, l1, l2, some (.int x), l4, l5, l6] [] w 0 Q) ∧
  (∀ (d : Nat) (l0 l1 l2 l3 l4 l6 : Option Value) (x : Int32) (w : px_H) (Q : Option Value → px_H → Prop), wp d 189 34 [l0, l1, l2, l3, l4, some (.int x), l6] [] w 0 Q ↔ wp d 189 36 [l0, l1, l2, l3, l4, some (.int x), l6] [.int x] w 0 Q) ∧
  (∀ (d : Nat) (l0 l1 l2 l3 l4 l5 l6 : Option Value) (x : Int32) (w : px_H) (Q : Option Value → px_H → Prop), wp d 189 36 [l0, l1, l2, l3, l4, l5, l6] [.int x] w 0 Q ↔ if x = 0 then wp d 189 72 [l0, l1, l2, l3, l4, l5, l6] [] w 0 Q else wp d 189 39 [l0, l1, l2, l3, l4, l5, l6] [] w 0 Q) ∧
  (∀ (d : Nat) (l1 l2 l3 l4 l5 l6 : Option Value) (a : Nat) (w : px_H) (Q : Option Value → px_H → Prop), wp d 189 39 [some (.ref a), l1, l2, l3, l4, l5, l6] [] w 0 Q ↔ wp d 189 40 [some (.ref a), l1, l2, l3, l4, l5, l6] [.ref a] w 0 Q) ∧
  (∀ (d : Nat) (l1 l2 l3 l4 l5 l6 : Option Value) (s0 : Value) (a : Nat) (w : px_H) (Q : Option Value → px_H → Prop), wp d 189 40 [some (.ref a), l1, l2, l3, l4, l5, l6] [s0] w 0 Q ↔ wp d 189 41 [some (.ref a), l1, l2, l3, l4, l5, l6] [.ref a, s0] w 0 Q) ∧
  (∀ (d : Nat) (l0 l1 l2 l3 l4 l5 l6 : Option Value) (s1 : Value) (a : Nat) (w : px_H) (Q : Option Value → px_H → Prop), wp d 189 41 [l0, l1, l2, l3, l4, l5, l6] [.ref a, s1] w 0 Q ↔ px_op (px_fld w a [(11, 0)] 19) (fun v => wp d 189 44 [l0, l1, l2, l3, l4, l5, l6] [v, s1] w 0 Q)) ∧
  (∀ (d : Nat) (l0 l1 l2 l3 l4 l5 : Option Value) (s0 s1 : Value) (x : Int32) (w : px_H) (Q : Option Value → px_H → Prop), wp d 189 44 [l0, l1, l2, l3, l4, l5, some (.int x)] [s0, s1] w 0 Q ↔ wp d 189 46 [l0, l1, l2, l3, l4, l5, some (.int x)] [.int x, s0, s1] w 0 Q) ∧
  (∀ (d : Nat) (l0 l1 l2 l3 l4 l5 l6 : Option Value) (s2 : Value) (i : Int32) (a : Nat) (w : px_H) (Q : Option Value → px_H → Prop), wp d 189 46 [l0, l1, l2, l3, l4, l5, l6] [.int i, .ref a, s2] w 0 Q ↔ px_op (px_ald w a i .int) (fun x => wp d 189 47 [l0, l1, l2, l3, l4, l5, l6] [.int x, s2] w 0 Q)) ∧
  (∀ (d : Nat) (l0 l1 l2 l3 l4 l5 l6 : Option Value) (v0 : Value) (b : Nat) (w : px_H) (Q : Option Value → px_H → Prop), wp (d + 1) 189 47 [l0, l1, l2, l3, l4, l5, l6] [v0, .ref b] w 0 Q ↔ px_op (px_tgt w b [(11, 152)]) (fun v => wc d v [.ref b, v0] w (fun r w' => wp (d + 1) 189 50 [l0, l1, l2, l3, l4, l5, l6] (r.toList ++ []) w' 0 Q))) ∧
  (∀ (d : Nat) (l0 l1 l2 l3 l4 l5 l6 : Option Value) (x : Int32) (w : px_H) (Q : Option Value → px_H → Prop), wp d 189 50 [l0, l1, l2, l3, l4, l5, l6] [.int x] w 0 Q ↔ if x = 0 then wp d 189 72 [l0, l1, l2, l3, l4, l5, l6] [] w 0 Q else wp d 189 53 [l0, l1, l2, l3, l4, l5, l6] [] w 0 Q) ∧
  (∀ (d : Nat) (l0 l1 l2 l3 l5 l6 : Option Value) (x : Int32) (w : px_H) (Q : Option Value → px_H → Prop), wp d 189 53 [l0, l1, l2, l3, some (.int x), l5, l6] [] w 0 Q ↔ wp d 189 55 [l0, l1, l2, l3, some (.int x), l5, l6] [.int x] w 0 Q) ∧
  (∀ (d : Nat) (l1 l2 l3 l4 l5 l6 : Option Value) (s0 : Value) (a : Nat) (w : px_H) (Q : Option Value → px_H → Prop), wp d 189 55 [some (.ref a), l1, l2, l3, l4, l5, l6] [s0] w 0 Q ↔ wp d 189 56 [some (.ref a), l1, l2, l3, l4, l5, l6] [.ref a, s0] w 0 Q) ∧
  (∀ (d : Nat) (l0 l1 l2 l3 l4 l5 l6 : Option Value) (s1 : Value) (a : Nat) (w : px_H) (Q : Option Value → px_H → Prop), wp d 189 56 [l0, l1, l2, l3, l4, l5, l6] [.ref a, s1] w 0 Q ↔ px_op (px_fld w a [(11, 0)] 19) (fun v => wp d 189 59 [l0, l1, l2, l3, l4, l5, l6] [v, s1] w 0 Q)) ∧
  (∀ (d : Nat) (l0 l1 l2 l3 l4 l5 : Option Value) (s0 s1 : Value) (x : Int32) (w : px_H) (Q : Option Value → px_H → Prop), wp d 189 59 [l0, l1, l2, l3, l4, l5, some (.int x)] [s0, s1] w 0 Q ↔ wp d 189 61 [l0, l1, l2, l3, l4, l5, some (.int x)] [.int x, s0, s1] w 0 Q) ∧
  (∀ (d : Nat) (l0 l1 l2 l3 l4 l5 l6 : Option Value) (s2 : Value) (i : Int32) (a : Nat) (w : px_H) (Q : Option Value → px_H → Prop), wp d 189 61 [l0, l1, l2, l3, l4, l5, l6] [.int i, .ref a, s2] w 0 Q ↔ px_op (px_ald w a i .int) (fun x => wp d 189 62 [l0, l1, l2, l3, l4, l5, l6] [.int x, s2] w 0 Q)) ∧
  (∀ (d : Nat) (l0 l1 l2 l3 l4 l5 l6 : Option Value) (x y : Int32) (w : px_H) (Q : Option Value → px_H → Prop), wp d 189 62 [l0, l1, l2, l3, l4, l5, l6] [.int y, .int x] w 0 Q ↔ wp d 189 63 [l0, l1, l2, l3, l4, l5, l6] [.int (x >>> (y &&& 31))] w 0 Q) ∧
  (∀ (d : Nat) (l0 l1 l2 l3 l4 l5 l6 : Option Value) (s0 : Value)  (w : px_H) (Q : Option Value → px_H → Prop), wp d 189 63 [l0, l1, l2, l3, l4, l5, l6] [s0] w 0 Q ↔ wp d 189 64 [l0, l1, l2, l3, l4, l5, l6] [.int 1, s0] w 0 Q) ∧
  (∀ (d : Nat) (l0 l1 l2 l3 l4 l5 l6 : Option Value) (x y : Int32) (w : px_H) (Q : Option Value → px_H → Prop), wp d 189 64 [l0, l1, l2, l3, l4, l5, l6] [.int y, .int x] w 0 Q ↔ wp d 189 65 [l0, l1, l2, l3, l4, l5, l6] [.int (x &&& y)] w 0 Q) ∧
  (∀ (d : Nat) (l0 l1 l2 l3 l4 l5 l6 : Option Value) (x : Int32) (w : px_H) (Q : Option Value → px_H → Prop), wp d 189 65 [l0, l1, l2, l3, l4, l5, l6] [.int x] w 0 Q ↔ if x = 0 then wp d 189 68 [l0, l1, l2, l3, l4, l5, l6] [] w 0 Q else wp d 189 72 [l0, l1, l2, l3, l4, l5, l6] [] w 0 Q) ∧
  (∀ (d : Nat) (l0 l1 l2 l3 l4 l5 l6 : Option Value)  (w : px_H) (Q : Option Value → px_H → Prop), wp d 189 68 [l0, l1, l2, l3, l4, l5, l6] [] w 0 Q ↔ wp d 189 69 [l0, l1, l2, l3, l4, l5, l6] [.int 1] w 0 Q) ∧
  (∀ (d : Nat) (l0 l1 l2 l3 l4 l5 l6 : Option Value) (s0 : Value)  (w : px_H) (Q : Option Value → px_H → Prop), wp d 189 69 [l0, l1, l2, l3, l4, l5, l6] [s0] w 0 Q ↔ wp d 189 73 [l0, l1, l2, l3, l4, l5, l6] [s0] w 0 Q) ∧
  (∀ (d : Nat) (l0 l1 l2 l3 l4 l5 l6 : Option Value)  (w : px_H) (Q : Option Value → px_H → Prop), wp d 189 72 [l0, l1, l2, l3, l4, l5, l6] [] w 0 Q ↔ wp d 189 73 [l0, l1, l2, l3, l4, l5, l6] [.int 0] w 0 Q) ∧
  (∀ (d : Nat) (l0 l1 l2 l3 l4 l5 l6 : Option Value) (x : Int32) (w : px_H) (Q : Option Value → px_H → Prop), wp d 189 73 [l0, l1, l2, l3, l4, l5, l6] [.int x] w 0 Q ↔ wp d 189 75 [l0, l1, l2, l3, l4, some (.int x), l6] [] w 0 Q) ∧
  (∀ (d : Nat) (l0 l1 l2 l3 l5 l6 : Option Value) (x : Int32) (w : px_H) (Q : Option Value → px_H → Prop), wp d 189 75 [l0, l1, l2, l3, some (.int x), l5, l6] [] w 0 Q ↔ wp d 189 77 [l0, l1, l2, l3, some (.int x), l5, l6] [.int x] w 0 Q) ∧
  (∀ (d : Nat) (l0 l1 l2 l3 l4 l5 l6 : Option Value) (s0 : Value)  (w : px_H) (Q : Option Value → px_H → Prop), wp d 189 77 [l0, l1, l2, l3, l4, l5, l6] [s0] w 0 Q ↔ wp d 189 78 [l0, l1, l2, l3, l4, l5, l6] [.int 1, s0] w 0 Q) ∧
  (∀ (d : Nat) (l1 l2 l3 l4 l5 l6 : Option Value) (s0 s1 : Value) (a : Nat) (w : px_H) (Q : Option Value → px_H → Prop), wp d 189 78 [some (.ref a), l1, l2, l3, l4, l5, l6] [s0, s1] w 0 Q ↔ wp d 189 79 [some (.ref a), l1, l2, l3, l4, l5, l6] [.ref a, s0, s1] w 0 Q) ∧
  (∀ (d : Nat) (l0 l1 l2 l3 l4 l5 l6 : Option Value) (s1 s2 : Value) (a : Nat) (w : px_H) (Q : Option Value → px_H → Prop), wp d 189 79 [l0, l1, l2, l3, l4, l5, l6] [.ref a, s1, s2] w 0 Q ↔ px_op (px_fld w a [(11, 0)] 19) (fun v => wp d 189 82 [l0, l1, l2, l3, l4, l5, l6] [v, s1, s2] w 0 Q)) ∧
  (∀ (d : Nat) (l0 l1 l2 l3 l4 l5 : Option Value) (s0 s1 s2 : Value) (x : Int32) (w : px_H) (Q : Option Value → px_H → Prop), wp d 189 82 [l0, l1, l2, l3, l4, l5, some (.int x)] [s0, s1, s2] w 0 Q ↔ wp d 189 84 [l0, l1, l2, l3, l4, l5, some (.int x)] [.int x, s0, s1, s2] w 0 Q) ∧
  (∀ (d : Nat) (l0 l1 l2 l3 l4 l5 l6 : Option Value) (s2 s3 : Value) (i : Int32) (a : Nat) (w : px_H) (Q : Option Value → px_H → Prop), wp d 189 84 [l0, l1, l2, l3, l4, l5, l6] [.int i, .ref a, s2, s3] w 0 Q ↔ px_op (px_ald w a i .int) (fun x => wp d 189 85 [l0, l1, l2, l3, l4, l5, l6] [.int x, s2, s3] w 0 Q)) ∧
  (∀ (d : Nat) (l0 l1 l2 l3 l4 l5 l6 : Option Value) (s2 : Value) (x y : Int32) (w : px_H) (Q : Option Value → px_H → Prop), wp d 189 85 [l0, l1, l2, l3, l4, l5, l6] [.int y, .int x, s2] w 0 Q ↔ wp d 189 86 [l0, l1, l2, l3, l4, l5, l6] [.int (x <<< (y &&& 31)), s2] w 0 Q) ∧
  (∀ (d : Nat) (l0 l1 l2 l3 l4 l5 l6 : Option Value) (x y : Int32) (w : px_H) (Q : Option Value → px_H → Prop), wp d 189 86 [l0, l1, l2, l3, l4, l5, l6] [.int y, .int x] w 0 Q ↔ wp d 189 87 [l0, l1, l2, l3, l4, l5, l6] [.int (x ||| y)] w 0 Q) ∧
  (∀ (d : Nat) (l0 l1 l2 l3 l4 l5 l6 : Option Value) (x : Int32) (w : px_H) (Q : Option Value → px_H → Prop), wp d 189 87 [l0, l1, l2, l3, l4, l5, l6] [.int x] w 0 Q ↔ wp d 189 89 [l0, l1, l2, l3, some (.int x), l5, l6] [] w 0 Q) ∧
  (∀ (d : Nat) (l0 l1 l2 l3 l4 l5 : Option Value) (x : Int32) (w : px_H) (Q : Option Value → px_H → Prop), wp d 189 89 [l0, l1, l2, l3, l4, l5, some (.int x)] [] w 0 Q ↔ wp d 189 92 [l0, l1, l2, l3, l4, l5, some (.int (x + (-1)))] [] w 0 Q) ∧
  (∀ (d : Nat) (l0 l1 l2 l3 l4 l5 l6 : Option Value)  (w : px_H) (Q : Option Value → px_H → Prop), wp d 189 92 [l0, l1, l2, l3, l4, l5, l6] [] w 0 Q ↔ wp d 189 13 [l0, l1, l2, l3, l4, l5, l6] [] w 0 Q) ∧
  (∀ (d : Nat) (l1 l2 l3 l4 l5 l6 : Option Value) (a : Nat) (w : px_H) (Q : Option Value → px_H → Prop), wp d 189 95 [some (.ref a), l1, l2, l3, l4, l5, l6] [] w 0 Q ↔ wp d 189 96 [some (.ref a), l1, l2, l3, l4, l5, l6] [.ref a] w 0 Q) ∧
  (∀ (d : Nat) (l0 l1 l2 l3 l4 l5 l6 : Option Value) (s0 : Value)  (w : px_H) (Q : Option Value → px_H → Prop), wp d 189 96 [l0, l1, l2, l3, l4, l5, l6] [s0] w 0 Q ↔ wp d 189 97 [l0, l1, l2, l3, l4, l5, l6] [.int 0, s0] w 0 Q) ∧
  (∀ (d : Nat) (l0 l1 l2 l3 l4 l5 l6 : Option Value) (x : Int32) (a : Nat) (w : px_H) (Q : Option Value → px_H → Prop), wp d 189 97 [l0, l1, l2, l3, l4, l5, l6] [.int x, .ref a] w 0 Q ↔ px_op (px_pfd w a [(11, 0)] 20 (.int x)) (fun w' => wp d 189 100 [l0, l1, l2, l3, l4, l5, l6] [] w' 0 Q)) ∧
  (∀ (d : Nat) (l0 l1 l2 l3 l4 l6 : Option Value) (x : Int32) (w : px_H) (Q : Option Value → px_H → Prop), wp d 189 100 [l0, l1, l2, l3, l4, some (.int x), l6] [] w 0 Q ↔ wp d 189 102 [l0, l1, l2, l3, l4, some (.int x), l6] [.int x] w 0 Q) ∧
  (∀ (d : Nat) (l0 l1 l2 l3 l4 l5 l6 : Option Value) (x : Int32) (w : px_H) (Q : Option Value → px_H → Prop), wp d 189 102 [l0, l1, l2, l3, l4, l5, l6] [.int x] w 0 Q ↔ if x = 0 then wp d 189 105 [l0, l1, l2, l3, l4, l5, l6] [] w 0 Q else wp d 189 107 [l0, l1, l2, l3, l4, l5, l6] [] w 0 Q) ∧
  (∀ (d : Nat) (l0 l1 l2 l3 l4 l5 l6 : Option Value)  (w : px_H) (Q : Option Value → px_H → Prop), wp d 189 105 [l0, l1, l2, l3, l4, l5, l6] [] w 0 Q ↔ wp d 189 106 [l0, l1, l2, l3, l4, l5, l6] [.int 0] w 0 Q) ∧
  (∀ (d : Nat) (l0 l1 l2 l3 l4 l5 l6 : Option Value) (x : Int32) (w : px_H) (Q : Option Value → px_H → Prop), wp d 189 106 [l0, l1, l2, l3, l4, l5, l6] [.int x] w 0 Q ↔ (x = 0 ∨ x = 1) ∧ Q (some (.int x)) w) ∧
  (∀ (d : Nat) (l1 l2 l3 l4 l5 l6 : Option Value) (a : Nat) (w : px_H) (Q : Option Value → px_H → Prop), wp d 189 107 [some (.ref a), l1, l2, l3, l4, l5, l6] [] w 0 Q ↔ wp d 189 108 [some (.ref a), l1, l2, l3, l4, l5, l6] [.ref a] w 0 Q) ∧
  (∀ (d : Nat) (l0 l1 l2 l3 l4 l5 l6 : Option Value)  (b : Nat) (w : px_H) (Q : Option Value → px_H → Prop), wp (d + 1) 189 108 [l0, l1, l2, l3, l4, l5, l6] [.ref b] w 0 Q ↔ px_op (px_tgt w b [(11, 167)]) (fun v => wc d v [.ref b] w (fun r w' => wp (d + 1) 189 111 [l0, l1, l2, l3, l4, l5, l6] (r.toList ++ []) w' 0 Q))) ∧
  (∀ (d : Nat) (l0 l1 l2 l3 l4 l5 l6 : Option Value)  (w : px_H) (Q : Option Value → px_H → Prop), wp d 189 111 [l0, l1, l2, l3, l4, l5, l6] [] w 0 Q ↔ wp d 189 112 [l0, l1, l2, l3, l4, l5, l6] [.int 0] w 0 Q) ∧
  (∀ (d : Nat) (l0 l1 l2 l3 l4 l5 l6 : Option Value) (x : Int32) (w : px_H) (Q : Option Value → px_H → Prop), wp d 189 112 [l0, l1, l2, l3, l4, l5, l6] [.int x] w 0 Q ↔ wp d 189 114 [l0, l1, l2, l3, l4, l5, some (.int x)] [] w 0 Q) ∧
  (∀ (d : Nat) (l0 l1 l3 l4 l5 l6 : Option Value) (s0 : Value) (x : Int32) (w : px_H) (Q : Option Value → px_H → Prop), wp d 189 116 [l0, l1, some (.int x), l3, l4, l5, l6] [s0] w 0 Q ↔ wp d 189 117 [l0, l1, some (.int x), l3, l4, l5, l6] [.int x, s0] w 0 Q) ∧
  (∀ (d : Nat) (l0 l1 l2 l3 l4 l5 l6 : Option Value) (x y : Int32) (w : px_H) (Q : Option Value → px_H → Prop), wp d 189 117 [l0, l1, l2, l3, l4, l5, l6] [.int y, .int x] w 0 Q ↔ if y ≤ x then wp d 189 192 [l0, l1, l2, l3, l4, l5, l6] [] w 0 Q else wp d 189 120 [l0, l1, l2, l3, l4, l5, l6] [] w 0 Q) ∧
  (∀ (d : Nat) (l1 l2 l3 l4 l5 l6 : Option Value) (a : Nat) (w : px_H) (Q : Option Value → px_H → Prop), wp d 189 120 [some (.ref a), l1, l2, l3, l4, l5, l6] [] w 0 Q ↔ wp d 189 121 [some (.ref a), l1, l2, l3, l4, l5, l6] [.ref a] w 0 Q) ∧
  (∀ (d : Nat) (l0 l1 l2 l3 l4 l5 l6 : Option Value) (s0 : Value)  (w : px_H) (Q : Option Value → px_H → Prop), wp d 189 121 [l0, l1, l2, l3, l4, l5, l6] [s0] w 0 Q ↔ wp d 189 122 [l0, l1, l2, l3, l4, l5, l6] [s0, s0] w 0 Q) ∧
  (∀ (d : Nat) (l0 l1 l2 l3 l4 l5 l6 : Option Value) (s1 : Value) (a : Nat) (w : px_H) (Q : Option Value → px_H → Prop), wp d 189 122 [l0, l1, l2, l3, l4, l5, l6] [.ref a, s1] w 0 Q ↔ px_op (px_fld w a [(11, 0)] 20) (fun v => wp d 189 125 [l0, l1, l2, l3, l4, l5, l6] [v, s1] w 0 Q)) ∧
  (∀ (d : Nat) (l1 l2 l3 l4 l5 l6 : Option Value) (s0 s1 : Value) (a : Nat) (w : px_H) (Q : Option Value → px_H → Prop), wp d 189 125 [some (.ref a), l1, l2, l3, l4, l5, l6] [s0, s1] w 0 Q ↔ wp d 189 126 [some (.ref a), l1, l2, l3, l4, l5, l6] [.ref a, s0, s1] w 0 Q) ∧
  (∀ (d : Nat) (l1 l2 l3 l4 l5 l6 : Option Value) (s0 s1 s2 : Value) (a : Nat) (w : px_H) (Q : Option Value → px_H → Prop), wp d 189 126 [some (.ref a), l1, l2, l3, l4, l5, l6] [s0, s1, s2] w 0 Q ↔ wp d 189 127 [some (.ref a), l1, l2, l3, l4, l5, l6] [.ref a, s0, s1, s2] w 0 Q) ∧
  (∀ (d : Nat) (l0 l1 l2 l3 l4 l5 l6 : Option Value) (s1 s2 s3 : Value) (a : Nat) (w : px_H) (Q : Option Value → px_H → Prop), wp d 189 127 [l0, l1, l2, l3, l4, l5, l6] [.ref a, s1, s2, s3] w 0 Q ↔ px_op (px_fld w a [(11, 0)] 19) (fun v => wp d 189 130 [l0, l1, l2, l3, l4, l5, l6] [v, s1, s2, s3] w 0 Q)) ∧
  (∀ (d : Nat) (l0 l1 l2 l3 l4 l5 : Option Value) (s0 s1 s2 s3 : Value) (x : Int32) (w : px_H) (Q : Option Value → px_H → Prop), wp d 189 130 [l0, l1, l2, l3, l4, l5, some (.int x)] [s0, s1, s2, s3] w 0 Q ↔ wp d 189 132 [l0, l1, l2, l3, l4, l5, some (.int x)] [.int x, s0, s1, s2, s3] w 0 Q) ∧
  (∀ (d : Nat) (l0 l1 l2 l3 l4 l5 l6 : Option Value) (s2 s3 s4 : Value) (i : Int32) (a : Nat) (w : px_H) (Q : Option Value → px_H → Prop), wp d 189 132 [l0, l1, l2, l3, l4, l5, l6] [.int i, .ref a, s2, s3, s4] w 0 Q ↔ px_op (px_ald w a i .int) (fun x => wp d 189 133 [l0, l1, l2, l3, l4, l5, l6] [.int x, s2, s3, s4] w 0 Q)) ∧
  (∀ (d : Nat) (l0 l1 l2 l3 l4 l5 l6 : Option Value) (s2 s3 : Value) (v0 : Value) (b : Nat) (w : px_H) (Q : Option Value → px_H → Prop), wp (d + 1) 189 133 [l0, l1, l2, l3, l4, l5, l6] [v0, .ref b, s2, s3] w 0 Q ↔ px_op (px_tgt w b [(11, 172)]) (fun v => wc d v [.ref b, v0] w (fun r w' => wp (d + 1) 189 136 [l0, l1, l2, l3, l4, l5, l6] (r.toList ++ [s2, s3]) w' 0 Q))) ∧
  (∀ (d : Nat) (l0 l1 l2 l3 l4 l5 l6 : Option Value) (s2 : Value) (x y : Int32) (w : px_H) (Q : Option Value → px_H → Prop), wp d 189 136 [l0, l1, l2, l3, l4, l5, l6] [.int y, .int x, s2] w 0 Q ↔ wp d 189 137 [l0, l1, l2, l3, l4, l5, l6] [.int (x + y), s2] w 0 Q) ∧
  (∀ (d : Nat) (l0 l1 l2 l3 l4 l5 l6 : Option Value) (x : Int32) (a : Nat) (w : px_H) (Q : Option Value → px_H → Prop), wp d 189 137 [l0, l1, l2, l3, l4, l5, l6] [.int x, .ref a] w 0 Q ↔ px_op (px_pfd w a [(11, 0)] 20 (.int x)) (fun w' => wp d 189 140 [l0, l1, l2, l3, l4, l5, l6] [] w' 0 Q)) ∧
  (∀ (d : Nat) (l1 l2 l3 l4 l5 l6 : Option Value) (a : Nat) (w : px_H) (Q : Option Value → px_H → Prop), wp d 189 140 [some (.ref a), l1, l2, l3, l4, l5, l6] [] w 0 Q ↔ wp d 189 141 [some (.ref a), l1, l2, l3, l4, l5, l6] [.ref a] w 0 Q) ∧
  (∀ (d : Nat) (l1 l2 l3 l4 l5 l6 : Option Value) (s0 : Value) (a : Nat) (w : px_H) (Q : Option Value → px_H → Prop), wp d 189 141 [some (.ref a), l1, l2, l3, l4, l5, l6] [s0] w 0 Q ↔ wp d 189 142 [some (.ref a), l1, l2, l3, l4, l5, l6] [.ref a, s0] w 0 Q) ∧
  (∀ (d : Nat) (l0 l1 l2 l3 l4 l5 l6 : Option Value) (s1 : Value) (a : Nat) (w : px_H) (Q : Option Value → px_H → Prop), wp d 189 142 [l0, l1, l2, l3, l4, l5, l6] [.ref a, s1] w 0 Q ↔ px_op (px_fld w a [(11, 0)] 19) (fun v => wp d 189 145 [l0, l1, l2, l3, l4, l5, l6] [v, s1] w 0 Q)) ∧
  (∀ (d : Nat) (l0 l1 l2 l3 l4 l5 : Option Value) (s0 s1 : Value) (x : Int32) (w : px_H) (Q : Option Value → px_H → Prop), wp d 189 145 [l0, l1, l2, l3, l4, l5, some (.int x)] [s0, s1] w 0 Q ↔ wp d 189 147 [l0, l1, l2, l3, l4, l5, some (.int x)] [.int x, s0, s1] w 0 Q) ∧
  (∀ (d : Nat) (l0 l1 l2 l3 l4 l5 l6 : Option Value) (s2 : Value) (i : Int32) (a : Nat) (w : px_H) (Q : Option Value → px_H → Prop), wp d 189 147 [l0, l1, l2, l3, l4, l5, l6] [.int i, .ref a, s2] w 0 Q ↔ px_op (px_ald w a i .int) (fun x => wp d 189 148 [l0, l1, l2, l3, l4, l5, l6] [.int x, s2] w 0 Q)) ∧
  (∀ (d : Nat) (l1 l2 l3 l4 l5 l6 : Option Value) (s0 s1 : Value) (a : Nat) (w : px_H) (Q : Option Value → px_H → Prop), wp d 189 148 [some (.ref a), l1, l2, l3, l4, l5, l6] [s0, s1] w 0 Q ↔ wp d 189 149 [some (.ref a), l1, l2, l3, l4, l5, l6] [.ref a, s0, s1] w 0 Q) ∧
  (∀ (d : Nat) (l0 l1 l2 l3 l4 l5 l6 : Option Value) (s0 s1 s2 : Value)  (w : px_H) (Q : Option Value → px_H → Prop), wp d 189 149 [l0, l1, l2, l3, l4, l5, l6] [s0, s1, s2] w 0 Q ↔ wp d 189 150 [l0, l1, l2, l3, l4, l5, l6] [.int 3, s0, s1, s2] w 0 Q) ∧
  (∀ (d : Nat) (l0 l1 l2 l3 l4 l5 l6 : Option Value) (s2 s3 : Value) (v0 : Value) (b : Nat) (w : px_H) (Q : Option Value → px_H → Prop), wp (d + 1) 189 150 [l0, l1, l2, l3, l4, l5, l6] [v0, .ref b, s2, s3] w 0 Q ↔ px_op (px_tgt w b [(11, 149)]) (fun v => wc d v [.ref b, v0] w (fun r w' => wp (d + 1) 189 153 [l0, l1, l2, l3, l4, l5, l6] (r.toList ++ [s2, s3]) w' 0 Q))) ∧
  (∀ (d : Nat) (l1 l2 l3 l4 l5 l6 : Option Value) (s0 s1 s2 : Value) (a : Nat) (w : px_H) (Q : Option Value → px_H → Prop), wp d 189 153 [some (.ref a), l1, l2, l3, l4, l5, l6] [s0, s1, s2] w 0 Q ↔ wp d 189 154 [some (.ref a), l1, l2, l3, l4, l5, l6] [.ref a, s0, s1, s2] w 0 Q) ∧
  (∀ (d : Nat) (l0 l1 l2 l3 l4 l5 l6 : Option Value) (s1 s2 s3 : Value) (a : Nat) (w : px_H) (Q : Option Value → px_H → Prop), wp d 189 154 [l0, l1, l2, l3, l4, l5, l6] [.ref a, s1, s2, s3] w 0 Q ↔ px_op (px_fld w a [(11, 0)] 20) (fun v => wp d 189 157 [l0, l1, l2, l3, l4, l5, l6] [v, s1, s2, s3] w 0 Q)) ∧
  (∀ (d : Nat) (l0 l1 l2 l3 l4 l5 l6 : Option Value) (s2 s3 : Value) (x y : Int32) (w : px_H) (Q : Option Value → px_H → Prop), wp d 189 157 [l0, l1, l2, l3, l4, l5, l6] [.int y, .int x, s2, s3] w 0 Q ↔ wp d 189 158 [l0, l1, l2, l3, l4, l5, l6] [.int (x + y), s2, s3] w 0 Q) ∧
  (∀ (d : Nat) (l0 l1 l2 l3 l4 l5 l6 : Option Value) (v0 v1 : Value) (b : Nat) (w : px_H) (Q : Option Value → px_H → Prop), wp (d + 1) 189 158 [l0, l1, l2, l3, l4, l5, l6] [v1, v0, .ref b] w 0 Q ↔ px_op (px_tgt w b [(11, 173)]) (fun v => wc d v [.ref b, v0, v1] w (fun r w' => wp (d + 1) 189 161 [l0, l1, l2, l3, l4, l5, l6] (r.toList ++ []) w' 0 Q))) ∧
  (∀ (d : Nat) (l0 l1 l2 l3 l4 l5 l6 : Option Value) (x : Int32) (w : px_H) (Q : Option Value → px_H → Prop), wp d 189 161 [l0, l1, l2, l3, l4, l5, l6] [.int x] w 0 Q ↔ if x = 0 then wp d 189 186 [l0, l1, l2, l3, l4, l5, l6] [] w 0 Q else wp d 189 164 [l0, l1, l2, l3, l4, l5, l6] [] w 0 Q) ∧
  (∀ (d : Nat) (l1 l2 l3 l4 l5 l6 : Option Value) (a : Nat) (w : px_H) (Q : Option Value → px_H → Prop), wp d 189 164 [some (.ref a), l1, l2, l3, l4, l5, l6] [] w 0 Q ↔ wp d 189 165 [some (.ref a), l1, l2, l3, l4, l5, l6] [.ref a] w 0 Q) ∧
  (∀ (d : Nat) (l0 l1 l2 l3 l4 l5 l6 : Option Value) (a : Nat) (w : px_H) (Q : Option Value → px_H → Prop), wp d 189 165 [l0, l1, l2, l3, l4, l5, l6] [.ref a] w 0 Q ↔ px_op (px_fld w a [(11, 0)] 18) (fun v => wp d 189 168 [l0, l1, l2, l3, l4, l5, l6] [v] w 0 Q)) ∧
  (∀ (d : Nat) (l1 l2 l3 l4 l5 l6 : Option Value) (s0 : Value) (a : Nat) (w : px_H) (Q : Option Value → px_H → Prop), wp d 189 168 [some (.ref a), l1, l2, l3, l4, l5, l6] [s0] w 0 Q ↔ wp d 189 169 [some (.ref a), l1, l2, l3, l4, l5, l6] [.ref a, s0] w 0 Q) ∧
  (∀ (d : Nat) (l0 l1 l2 l3 l4 l5 l6 : Option Value) (s1 : Value) (a : Nat) (w : px_H) (Q : Option Value → px_H → Prop), wp d 189 169 [l0, l1, l2, l3, l4, l5, l6] [.ref a, s1] w 0 Q ↔ px_op (px_fld w a [(11, 0)] 19) (fun v => wp d 189 172 [l0, l1, l2, l3, l4, l5, l6] [v, s1] w 0 Q)) ∧
  (∀ (d : Nat) (l0 l1 l2 l3 l4 l5 : Option Value) (s0 s1 : Value) (x : Int32) (w : px_H) (Q : Option Value → px_H → Prop), wp d 189 172 [l0, l1, l2, l3, l4, l5, some (.int x)] [s0, s1] w 0 Q ↔ wp d 189 174 [l0, l1, l2, l3, l4, l5, some (.int x)] [.int x, s0, s1] w 0 Q) ∧
  (∀ (d : Nat) (l0 l1 l2 l3 l4 l5 l6 : Option Value) (s2 : Value) (i : Int32) (a : Nat) (w : px_H) (Q : Option Value → px_H → Prop), wp d 189 174 [l0, l1, l2, l3, l4, l5, l6] [.int i, .ref a, s2] w 0 Q ↔ px_op (px_ald w a i .int) (fun x => wp d 189 175 [l0, l1, l2, l3, l4, l5, l6] [.int x, s2] w 0 Q)) ∧
  (∀ (d : Nat) (l1 l2 l3 l4 l5 l6 : Option Value) (s0 s1 : Value) (a : Nat) (w : px_H) (Q : Option Value → px_H → Prop), wp d 189 175 [some (.ref a), l1, l2, l3, l4, l5, l6] [s0, s1] w 0 Q ↔ wp d 189 176 [some (.ref a), l1, l2, l3, l4, l5, l6] [.ref a, s0, s1] w 0 Q) ∧
  (∀ (d : Nat) (l0 l1 l2 l3 l4 l5 l6 : Option Value) (s0 s1 s2 : Value)  (w : px_H) (Q : Option Value → px_H → Prop), wp d 189 176 [l0, l1, l2, l3, l4, l5, l6] [s0, s1, s2] w 0 Q ↔ wp d 189 177 [l0, l1, l2, l3, l4, l5, l6] [.int 3, s0, s1, s2] w 0 Q) ∧
  (∀ (d : Nat) (l0 l1 l2 l3 l4 l5 l6 : Option Value) (s2 s3 : Value) (v0 : Value) (b : Nat) (w : px_H) (Q : Option Value → px_H → Prop), wp (d + 1) 189 177 [l0, l1, l2, l3, l4, l5, l6] [v0, .ref b, s2, s3] w 0 Q ↔ px_op (px_tgt w b [(11, 149)]) (fun v => wc d v [.ref b, v0] w (fun r w' => wp (d + 1) 189 180 [l0, l1, l2, l3, l4, l5, l6] (r.toList ++ [s2, s3]) w' 0 Q))) ∧
  (∀ (d : Nat) (l1 l2 l3 l4 l5 l6 : Option Value) (s0 s1 s2 : Value) (a : Nat) (w : px_H) (Q : Option Value → px_H → Prop), wp d 189 180 [some (.ref a), l1, l2, l3, l4, l5, l6] [s0, s1, s2] w 0 Q ↔ wp d 189 181 [some (.ref a), l1, l2, l3, l4, l5, l6] [.ref a, s0, s1, s2] w 0 Q) ∧
  (∀ (d : Nat) (l0 l1 l2 l3 l4 l5 l6 : Option Value) (s1 s2 s3 : Value) (a : Nat) (w : px_H) (Q : Option Value → px_H → Prop), wp d 189 181 [l0, l1, l2, l3, l4, l5, l6] [.ref a, s1, s2, s3] w 0 Q ↔ px_op (px_fld w a [(11, 0)] 20) (fun v => wp d 189 184 [l0, l1, l2, l3, l4, l5, l6] [v, s1, s2, s3] w 0 Q)) ∧
  (∀ (d : Nat) (l0 l1 l2 l3 l4 l5 l6 : Option Value) (s2 s3 : Value) (x y : Int32) (w : px_H) (Q : Option Value → px_H → Prop), wp d 189 184 [l0, l1, l2, l3, l4, l5, l6] [.int y, .int x, s2, s3] w 0 Q ↔ wp d 189 185 [l0, l1, l2, l3, l4, l5, l6] [.int (x + y), s2, s3] w 0 Q) ∧
  (∀ (d : Nat) (l0 l1 l2 l3 l4 l5 l6 : Option Value) (x i : Int32) (a : Nat) (w : px_H) (Q : Option Value → px_H → Prop), wp d 189 185 [l0, l1, l2, l3, l4, l5, l6] [.int x, .int i, .ref a] w 0 Q ↔ px_op (px_ast w a i x .int) (fun w' => wp d 189 186 [l0, l1, l2, l3, l4, l5, l6] [] w' 0 Q)) ∧
  (∀ (d : Nat) (l0 l1 l2 l3 l4 l5 : Option Value) (x : Int32) (w : px_H) (Q : Option Value → px_H → Prop), wp d 189 186 [l0, l1, l2, l3, l4, l5, some (.int x)] [] w 0 Q ↔ wp d 189 189 [l0, l1, l2, l3, l4, l5, some (.int (x + 1))] [] w 0 Q) ∧
  (∀ (d : Nat) (l0 l1 l2 l3 l4 l5 l6 : Option Value)  (w : px_H) (Q : Option Value → px_H → Prop), wp d 189 189 [l0, l1, l2, l3, l4, l5, l6] [] w 0 Q ↔ wp d 189 114 [l0, l1, l2, l3, l4, l5, l6] [] w 0 Q) ∧
  (∀ (d : Nat) (l1 l2 l3 l4 l5 l6 : Option Value) (a : Nat) (w : px_H) (Q : Option Value → px_H → Prop), wp d 189 192 [some (.ref a), l1, l2, l3, l4, l5, l6] [] w 0 Q ↔ wp d 189 193 [some (.ref a), l1, l2, l3, l4, l5, l6] [.ref a] w 0 Q) ∧
  (∀ (d : Nat) (l1 l2 l3 l4 l5 l6 : Option Value) (s0 : Value) (a : Nat) (w : px_H) (Q : Option Value → px_H → Prop), wp d 189 193 [some (.ref a), l1, l2, l3, l4, l5, l6] [s0] w 0 Q ↔ wp d 189 194 [some (.ref a), l1, l2, l3, l4, l5, l6] [.ref a, s0] w 0 Q) ∧
  (∀ (d : Nat) (l0 l1 l2 l3 l4 l5 l6 : Option Value) (s0 s1 : Value)  (w : px_H) (Q : Option Value → px_H → Prop), wp d 189 194 [l0, l1, l2, l3, l4, l5, l6] [s0, s1] w 0 Q ↔ wp d 189 195 [l0, l1, l2, l3, l4, l5, l6] [.int 3, s0, s1] w 0 Q) ∧
  (∀ (d : Nat) (l0 l1 l2 l3 l4 l5 l6 : Option Value) (s2 : Value) (v0 : Value) (b : Nat) (w : px_H) (Q : Option Value → px_H → Prop), wp (d + 1) 189 195 [l0, l1, l2, l3, l4, l5, l6] [v0, .ref b, s2] w 0 Q ↔ px_op (px_tgt w b [(11, 149)]) (fun v => wc d v [.ref b, v0] w (fun r w' => wp (d + 1) 189 198 [l0, l1, l2, l3, l4, l5, l6] (r.toList ++ [s2]) w' 0 Q))) ∧
  (∀ (d : Nat) (l1 l2 l3 l4 l5 l6 : Option Value) (s0 s1 : Value) (a : Nat) (w : px_H) (Q : Option Value → px_H → Prop), wp d 189 198 [some (.ref a), l1, l2, l3, l4, l5, l6] [s0, s1] w 0 Q ↔ wp d 189 199 [some (.ref a), l1, l2, l3, l4, l5, l6] [.ref a, s0, s1] w 0 Q) ∧
  (∀ (d : Nat) (l0 l1 l2 l3 l4 l5 l6 : Option Value) (s1 s2 : Value) (a : Nat) (w : px_H) (Q : Option Value → px_H → Prop), wp d 189 199 [l0, l1, l2, l3, l4, l5, l6] [.ref a, s1, s2] w 0 Q ↔ px_op (px_fld w a [(11, 0)] 20) (fun v => wp d 189 202 [l0, l1, l2, l3, l4, l5, l6] [v, s1, s2] w 0 Q)) ∧
  (∀ (d : Nat) (l0 l1 l2 l3 l4 l5 l6 : Option Value) (s2 : Value) (x y : Int32) (w : px_H) (Q : Option Value → px_H → Prop), wp d 189 202 [l0, l1, l2, l3, l4, l5, l6] [.int y, .int x, s2] w 0 Q ↔ wp d 189 203 [l0, l1, l2, l3, l4, l5, l6] [.int (x + y), s2] w 0 Q) ∧
  (∀ (d : Nat) (l0 l1 l2 l3 l4 l5 l6 : Option Value) (v0 : Value) (b : Nat) (w : px_H) (Q : Option Value → px_H → Prop), wp (d + 1) 189 203 [l0, l1, l2, l3, l4, l5, l6] [v0, .ref b] w 0 Q ↔ px_op (px_tgt w b [(11, 170)]) (fun v => wc d v [.ref b, v0] w (fun r w' => wp (d + 1) 189 206 [l0, l1, l2, l3, l4, l5, l6] (r.toList ++ []) w' 0 Q))) ∧
  (∀ (d : Nat) (l0 l1 l2 l3 l4 l5 l6 : Option Value) (x : Int32) (w : px_H) (Q : Option Value → px_H → Prop), wp d 189 206 [l0, l1, l2, l3, l4, l5, l6] [.int x] w 0 Q ↔ if x = 0 then wp d 189 209 [l0, l1, l2, l3, l4, l5, l6] [] w 0 Q else wp d 189 213 [l0, l1, l2, l3, l4, l5, l6] [] w 0 Q) ∧
  (∀ (d : Nat) (l0 l1 l2 l3 l4 l5 l6 : Option Value)  (w : px_H) (Q : Option Value → px_H → Prop), wp d 189 209 [l0, l1, l2, l3, l4, l5, l6] [] w 0 Q ↔ wp d 189 210 [l0, l1, l2, l3, l4, l5, l6] [.int 1] w 0 Q) ∧
  (∀ (d : Nat) (l0 l1 l2 l3 l4 l5 l6 : Option Value) (s0 : Value)  (w : px_H) (Q : Option Value → px_H → Prop), wp d 189 210 [l0, l1, l2, l3, l4, l5, l6] [s0] w 0 Q ↔ wp d 189 214 [l0, l1, l2, l3, l4, l5, l6] [s0] w 0 Q) ∧
  (∀ (d : Nat) (l0 l1 l2 l3 l4 l5 l6 : Option Value)  (w : px_H) (Q : Option Value → px_H → Prop), wp d 189 213 [l0, l1, l2, l3, l4, l5, l6] [] w 0 Q ↔ wp d 189 214 [l0, l1, l2, l3, l4, l5, l6] [.int 0] w 0 Q) ∧
  (∀ (d : Nat) (l0 l1 l2 l3 l4 l5 l6 : Option Value) (x : Int32) (w : px_H) (Q : Option Value → px_H → Prop), wp d 189 214 [l0, l1, l2, l3, l4, l5, l6] [.int x] w 0 Q ↔ (x = 0 ∨ x = 1) ∧ Q (some (.int x)) w) := ⟨fun d v0 v1 v2 w Q => r_entry pt_189 (Nat.le_of_ble_eq_true rfl) rfl,
  fun d l0 l2 l3 l4 l5 l6 x w Q => px_go (q := (.iload_n 1, 1, px_x0)) (S' := (1, [l0, some (.int x), l2, l3, l4, l5, l6], [.int x], w, 0)) pt_189 rfl rfl,
  fun d l0 l1 l2 l3 l4 l5 l6 x w Q => px_go (q := (.istore_n 3, 1, px_x0)) (S' := (2, [l0, l1, l2, some (.int x), l4, l5, l6], [], w, 0)) pt_189 rfl rfl,
  fun d l0 l1 l2 l3 l4 l5 l6 w Q => r_iconst pt_189 rfl (by decide),
  fun d l0 l1 l2 l3 l4 l5 l6 x w Q => px_go (q := (.istore 4, 2, px_x0)) (S' := (5, [l0, l1, l2, l3, some (.int x), l5, l6], [], w, 0)) pt_189 rfl rfl,
  fun d l0 l1 l2 l3 l4 l5 l6 w Q => r_iconst pt_189 rfl (by decide),
  fun d l0 l1 l2 l3 l4 l5 l6 x w Q => px_go (q := (.istore 5, 2, px_x0)) (S' := (8, [l0, l1, l2, l3, l4, some (.int x), l6], [], w, 0)) pt_189 rfl rfl,
  fun d l0 l1 l3 l4 l5 l6 x w Q => px_go (q := (.iload_n 2, 1, px_x0)) (S' := (9, [l0, l1, some (.int x), l3, l4, l5, l6], [.int x], w, 0)) pt_189 rfl rfl,
  fun d l0 l1 l2 l3 l4 l5 l6 s0 w Q => r_iconst pt_189 rfl (by decide),
  fun d l0 l1 l2 l3 l4 l5 l6 x y w Q => px_go (q := (.isub, 1, px_x0)) (S' := (11, [l0, l1, l2, l3, l4, l5, l6], [.int (x - y)], w, 0)) pt_189 rfl rfl,
  fun d l0 l1 l2 l3 l4 l5 l6 x w Q => px_go (q := (.istore 6, 2, px_x0)) (S' := (13, [l0, l1, l2, l3, l4, l5, some (.int x)], [], w, 0)) pt_189 rfl rfl,
  fun d l0 l1 l2 l3 l4 l5 l6 x w Q => r_if_lt pt_189 rfl rfl,
  fun d l1 l2 l3 l4 l5 l6 a w Q => px_go (q := (.aload_n 0, 1, px_x0)) (S' := (19, [some (.ref a), l1, l2, l3, l4, l5, l6], [.ref a], w, 0)) pt_189 rfl rfl,
  fun d l0 l1 l2 l3 l4 l5 l6 a w Q => px_goO (q := (.getfield 36, 3, (10, 19, [(11, 0)], 0, "AllSwornModel"))) (S' := fun v => (22, [l0, l1, l2, l3, l4, l5, l6], [v], w, 0)) pt_189 rfl rfl,
  fun d l0 l1 l2 l3 l4 l5 s0 x w Q => px_go (q := (.iload 6, 2, px_x0)) (S' := (24, [l0, l1, l2, l3, l4, l5, some (.int x)], [.int x, s0], w, 0)) pt_189 rfl rfl,
  fun d l0 l1 l2 l4 l5 l6 s0 s1 x w Q => px_go (q := (.iload_n 3, 1, px_x0)) (S' := (25, [l0, l1, l2, some (.int x), l4, l5, l6], [.int x, s0, s1], w, 0)) pt_189 rfl rfl,
  fun d l0 l1 l2 l3 l4 l5 l6 s0 s1 s2 w Q => r_bipush pt_189 rfl (by decide),
  fun d l0 l1 l2 l3 l4 l5 l6 s2 s3 x y w Q => px_goO (q := (.irem, 1, px_x0)) (S' := fun z => (28, [l0, l1, l2, l3, l4, l5, l6], [.int z, s2, s3], w, 0)) pt_189 rfl rfl,
  fun d l0 l1 l2 l3 l4 l5 l6 x i a w Q => px_goO (q := (.iastore, 1, px_x0)) (S' := fun w' => (29, [l0, l1, l2, l3, l4, l5, l6], [], w', 0)) pt_189 rfl rfl,
  fun d l0 l1 l2 l4 l5 l6 x w Q => px_go (q := (.iload_n 3, 1, px_x0)) (S' := (30, [l0, l1, l2, some (.int x), l4, l5, l6], [.int x], w, 0)) pt_189 rfl rfl,
  fun d l0 l1 l2 l3 l4 l5 l6 s0 w Q => r_bipush pt_189 rfl (by decide),
  fun d l0 l1 l2 l3 l4 l5 l6 x y w Q => px_goO (q := (.idiv, 1, px_x0)) (S' := fun z => (33, [l0, l1, l2, l3, l4, l5, l6], [.int z], w, 0)) pt_189 rfl rfl,
  fun d l0 l1 l2 l3 l4 l5 l6 x w Q => px_go (q := (.istore_n 3, 1, px_x0)) (S' := (34, [l0, l1, l2, some (.int x), l4, l5, l6], [], w, 0)) pt_189 rfl rfl,
  fun d l0 l1 l2 l3 l4 l6 x w Q => px_go (q := (.iload 5, 2, px_x0)) (S' := (36, [l0, l1, l2, l3, l4, some (.int x), l6], [.int x], w, 0)) pt_189 rfl rfl,
  fun d l0 l1 l2 l3 l4 l5 l6 x w Q => r_if_eq pt_189 rfl rfl,
  fun d l1 l2 l3 l4 l5 l6 a w Q => px_go (q := (.aload_n 0, 1, px_x0)) (S' := (40, [some (.ref a), l1, l2, l3, l4, l5, l6], [.ref a], w, 0)) pt_189 rfl rfl,
  fun d l1 l2 l3 l4 l5 l6 s0 a w Q => px_go (q := (.aload_n 0, 1, px_x0)) (S' := (41, [some (.ref a), l1, l2, l3, l4, l5, l6], [.ref a, s0], w, 0)) pt_189 rfl rfl,
  fun d l0 l1 l2 l3 l4 l5 l6 s1 a w Q => px_goO (q := (.getfield 36, 3, (10, 19, [(11, 0)], 0, "AllSwornModel"))) (S' := fun v => (44, [l0, l1, l2, l3, l4, l5, l6], [v, s1], w, 0)) pt_189 rfl rfl,
  fun d l0 l1 l2 l3 l4 l5 s0 s1 x w Q => px_go (q := (.iload 6, 2, px_x0)) (S' := (46, [l0, l1, l2, l3, l4, l5, some (.int x)], [.int x, s0, s1], w, 0)) pt_189 rfl rfl,
  fun d l0 l1 l2 l3 l4 l5 l6 s2 i a w Q => px_goO (q := (.iaload, 1, px_x0)) (S' := fun x => (47, [l0, l1, l2, l3, l4, l5, l6], [.int x, s2], w, 0)) pt_189 rfl rfl,
  fun d l0 l1 l2 l3 l4 l5 l6 v0 b w Q => r_callV (q := (.invokevirtual 152, 3, (33, 1, [(11, 152)], 0, ""))) pt_189 rfl rfl (List.forall_mem_cons.mpr ⟨⟨_, pt_152, Nat.le_of_ble_eq_true rfl, (Nat.le_of_ble_eq_true rfl), rfl⟩, fun _ h => absurd h List.not_mem_nil⟩),
  fun d l0 l1 l2 l3 l4 l5 l6 x w Q => r_if_eq pt_189 rfl rfl,
  fun d l0 l1 l2 l3 l5 l6 x w Q => px_go (q := (.iload 4, 2, px_x0)) (S' := (55, [l0, l1, l2, l3, some (.int x), l5, l6], [.int x], w, 0)) pt_189 rfl rfl,
  fun d l1 l2 l3 l4 l5 l6 s0 a w Q => px_go (q := (.aload_n 0, 1, px_x0)) (S' := (56, [some (.ref a), l1, l2, l3, l4, l5, l6], [.ref a, s0], w, 0)) pt_189 rfl rfl,
  fun d l0 l1 l2 l3 l4 l5 l6 s1 a w Q => px_goO (q := (.getfield 36, 3, (10, 19, [(11, 0)], 0, "AllSwornModel"))) (S' := fun v => (59, [l0, l1, l2, l3, l4, l5, l6], [v, s1], w, 0)) pt_189 rfl rfl,
  fun d l0 l1 l2 l3 l4 l5 s0 s1 x w Q => px_go (q := (.iload 6, 2, px_x0)) (S' := (61, [l0, l1, l2, l3, l4, l5, some (.int x)], [.int x, s0, s1], w, 0)) pt_189 rfl rfl,
  fun d l0 l1 l2 l3 l4 l5 l6 s2 i a w Q => px_goO (q := (.iaload, 1, px_x0)) (S' := fun x => (62, [l0, l1, l2, l3, l4, l5, l6], [.int x, s2], w, 0)) pt_189 rfl rfl,
  fun d l0 l1 l2 l3 l4 l5 l6 x y w Q => px_go (q := (.ishr, 1, px_x0)) (S' := (63, [l0, l1, l2, l3, l4, l5, l6], [.int (x >>> (y &&& 31))], w, 0)) pt_189 rfl rfl,
  fun d l0 l1 l2 l3 l4 l5 l6 s0 w Q => r_iconst pt_189 rfl (by decide),
  fun d l0 l1 l2 l3 l4 l5 l6 x y w Q => px_go (q := (.iand, 1, px_x0)) (S' := (65, [l0, l1, l2, l3, l4, l5, l6], [.int (x &&& y)], w, 0)) pt_189 rfl rfl,
  fun d l0 l1 l2 l3 l4 l5 l6 x w Q => r_if_ne pt_189 rfl rfl,
  fun d l0 l1 l2 l3 l4 l5 l6 w Q => r_iconst pt_189 rfl (by decide),
  fun d l0 l1 l2 l3 l4 l5 l6 s0 w Q => r_goto pt_189 rfl rfl,
  fun d l0 l1 l2 l3 l4 l5 l6 w Q => r_iconst pt_189 rfl (by decide),
  fun d l0 l1 l2 l3 l4 l5 l6 x w Q => px_go (q := (.istore 5, 2, px_x0)) (S' := (75, [l0, l1, l2, l3, l4, some (.int x), l6], [], w, 0)) pt_189 rfl rfl,
  fun d l0 l1 l2 l3 l5 l6 x w Q => px_go (q := (.iload 4, 2, px_x0)) (S' := (77, [l0, l1, l2, l3, some (.int x), l5, l6], [.int x], w, 0)) pt_189 rfl rfl,
  fun d l0 l1 l2 l3 l4 l5 l6 s0 w Q => r_iconst pt_189 rfl (by decide),
  fun d l1 l2 l3 l4 l5 l6 s0 s1 a w Q => px_go (q := (.aload_n 0, 1, px_x0)) (S' := (79, [some (.ref a), l1, l2, l3, l4, l5, l6], [.ref a, s0, s1], w, 0)) pt_189 rfl rfl,
  fun d l0 l1 l2 l3 l4 l5 l6 s1 s2 a w Q => px_goO (q := (.getfield 36, 3, (10, 19, [(11, 0)], 0, "AllSwornModel"))) (S' := fun v => (82, [l0, l1, l2, l3, l4, l5, l6], [v, s1, s2], w, 0)) pt_189 rfl rfl,
  fun d l0 l1 l2 l3 l4 l5 s0 s1 s2 x w Q => px_go (q := (.iload 6, 2, px_x0)) (S' := (84, [l0, l1, l2, l3, l4, l5, some (.int x)], [.int x, s0, s1, s2], w, 0)) pt_189 rfl rfl,
  fun d l0 l1 l2 l3 l4 l5 l6 s2 s3 i a w Q => px_goO (q := (.iaload, 1, px_x0)) (S' := fun x => (85, [l0, l1, l2, l3, l4, l5, l6], [.int x, s2, s3], w, 0)) pt_189 rfl rfl,
  fun d l0 l1 l2 l3 l4 l5 l6 s2 x y w Q => px_go (q := (.ishl, 1, px_x0)) (S' := (86, [l0, l1, l2, l3, l4, l5, l6], [.int (x <<< (y &&& 31)), s2], w, 0)) pt_189 rfl rfl,
  fun d l0 l1 l2 l3 l4 l5 l6 x y w Q => px_go (q := (.ior, 1, px_x0)) (S' := (87, [l0, l1, l2, l3, l4, l5, l6], [.int (x ||| y)], w, 0)) pt_189 rfl rfl,
  fun d l0 l1 l2 l3 l4 l5 l6 x w Q => px_go (q := (.istore 4, 2, px_x0)) (S' := (89, [l0, l1, l2, l3, some (.int x), l5, l6], [], w, 0)) pt_189 rfl rfl,
  fun d l0 l1 l2 l3 l4 l5 x w Q => r_iinc pt_189 rfl rfl (by decide) rfl,
  fun d l0 l1 l2 l3 l4 l5 l6 w Q => r_goto pt_189 rfl rfl,
  fun d l1 l2 l3 l4 l5 l6 a w Q => px_go (q := (.aload_n 0, 1, px_x0)) (S' := (96, [some (.ref a), l1, l2, l3, l4, l5, l6], [.ref a], w, 0)) pt_189 rfl rfl,
  fun d l0 l1 l2 l3 l4 l5 l6 s0 w Q => r_iconst pt_189 rfl (by decide),
  fun d l0 l1 l2 l3 l4 l5 l6 x a w Q => r_put pt_189 rfl (by simp only [List.all_cons, List.all_nil, ft_11_20, px_fit, px_isr, Bool.and_self]),
  fun d l0 l1 l2 l3 l4 l6 x w Q => px_go (q := (.iload 5, 2, px_x0)) (S' := (102, [l0, l1, l2, l3, l4, some (.int x), l6], [.int x], w, 0)) pt_189 rfl rfl,
  fun d l0 l1 l2 l3 l4 l5 l6 x w Q => r_if_ne pt_189 rfl rfl,
  fun d l0 l1 l2 l3 l4 l5 l6 w Q => r_iconst pt_189 rfl (by decide),
  fun d l0 l1 l2 l3 l4 l5 l6 x w Q => px_retI (q := (.ireturn, 1, px_x0)) pt_189 rfl rfl,
  fun d l1 l2 l3 l4 l5 l6 a w Q => px_go (q := (.aload_n 0, 1, px_x0)) (S' := (108, [some (.ref a), l1, l2, l3, l4, l5, l6], [.ref a], w, 0)) pt_189 rfl rfl,
  fun d l0 l1 l2 l3 l4 l5 l6 b w Q => r_callV (q := (.invokevirtual 146, 3, (33, 0, [(11, 167)], 0, ""))) pt_189 rfl rfl (List.forall_mem_cons.mpr ⟨⟨_, pt_167, Nat.le_of_ble_eq_true rfl, (Nat.le_of_ble_eq_true rfl), rfl⟩, fun _ h => absurd h List.not_mem_nil⟩),
  fun d l0 l1 l2 l3 l4 l5 l6 w Q => r_iconst pt_189 rfl (by decide),
  fun d l0 l1 l2 l3 l4 l5 l6 x w Q => px_go (q := (.istore 6, 2, px_x0)) (S' := (114, [l0, l1, l2, l3, l4, l5, some (.int x)], [], w, 0)) pt_189 rfl rfl,
  fun d l0 l1 l3 l4 l5 l6 s0 x w Q => px_go (q := (.iload_n 2, 1, px_x0)) (S' := (117, [l0, l1, some (.int x), l3, l4, l5, l6], [.int x, s0], w, 0)) pt_189 rfl rfl,
  fun d l0 l1 l2 l3 l4 l5 l6 x y w Q => r_icmp_ge pt_189 rfl rfl,
  fun d l1 l2 l3 l4 l5 l6 a w Q => px_go (q := (.aload_n 0, 1, px_x0)) (S' := (121, [some (.ref a), l1, l2, l3, l4, l5, l6], [.ref a], w, 0)) pt_189 rfl rfl,
  fun d l0 l1 l2 l3 l4 l5 l6 s0 w Q => px_go (q := (.dup, 1, px_x0)) (S' := (122, [l0, l1, l2, l3, l4, l5, l6], [s0, s0], w, 0)) pt_189 rfl rfl,
  fun d l0 l1 l2 l3 l4 l5 l6 s1 a w Q => px_goO (q := (.getfield 188, 3, (10, 20, [(11, 0)], 0, "AllSwornModel"))) (S' := fun v => (125, [l0, l1, l2, l3, l4, l5, l6], [v, s1], w, 0)) pt_189 rfl rfl,
  fun d l1 l2 l3 l4 l5 l6 s0 s1 a w Q => px_go (q := (.aload_n 0, 1, px_x0)) (S' := (126, [some (.ref a), l1, l2, l3, l4, l5, l6], [.ref a, s0, s1], w, 0)) pt_189 rfl rfl,
  fun d l1 l2 l3 l4 l5 l6 s0 s1 s2 a w Q => px_go (q := (.aload_n 0, 1, px_x0)) (S' := (127, [some (.ref a), l1, l2, l3, l4, l5, l6], [.ref a, s0, s1, s2], w, 0)) pt_189 rfl rfl,
  fun d l0 l1 l2 l3 l4 l5 l6 s1 s2 s3 a w Q => px_goO (q := (.getfield 36, 3, (10, 19, [(11, 0)], 0, "AllSwornModel"))) (S' := fun v => (130, [l0, l1, l2, l3, l4, l5, l6], [v, s1, s2, s3], w, 0)) pt_189 rfl rfl,
  fun d l0 l1 l2 l3 l4 l5 s0 s1 s2 s3 x w Q => px_go (q := (.iload 6, 2, px_x0)) (S' := (132, [l0, l1, l2, l3, l4, l5, some (.int x)], [.int x, s0, s1, s2, s3], w, 0)) pt_189 rfl rfl,
  fun d l0 l1 l2 l3 l4 l5 l6 s2 s3 s4 i a w Q => px_goO (q := (.iaload, 1, px_x0)) (S' := fun x => (133, [l0, l1, l2, l3, l4, l5, l6], [.int x, s2, s3, s4], w, 0)) pt_189 rfl rfl,
  fun d l0 l1 l2 l3 l4 l5 l6 s2 s3 v0 b w Q => r_callV (q := (.invokevirtual 155, 3, (33, 1, [(11, 172)], 0, ""))) pt_189 rfl rfl (List.forall_mem_cons.mpr ⟨⟨_, pt_172, Nat.le_of_ble_eq_true rfl, (Nat.le_of_ble_eq_true rfl), rfl⟩, fun _ h => absurd h List.not_mem_nil⟩),
  fun d l0 l1 l2 l3 l4 l5 l6 s2 x y w Q => px_go (q := (.iadd, 1, px_x0)) (S' := (137, [l0, l1, l2, l3, l4, l5, l6], [.int (x + y), s2], w, 0)) pt_189 rfl rfl,
  fun d l0 l1 l2 l3 l4 l5 l6 x a w Q => r_put pt_189 rfl (by simp only [List.all_cons, List.all_nil, ft_11_20, px_fit, px_isr, Bool.and_self]),
  fun d l1 l2 l3 l4 l5 l6 a w Q => px_go (q := (.aload_n 0, 1, px_x0)) (S' := (141, [some (.ref a), l1, l2, l3, l4, l5, l6], [.ref a], w, 0)) pt_189 rfl rfl,
  fun d l1 l2 l3 l4 l5 l6 s0 a w Q => px_go (q := (.aload_n 0, 1, px_x0)) (S' := (142, [some (.ref a), l1, l2, l3, l4, l5, l6], [.ref a, s0], w, 0)) pt_189 rfl rfl,
  fun d l0 l1 l2 l3 l4 l5 l6 s1 a w Q => px_goO (q := (.getfield 36, 3, (10, 19, [(11, 0)], 0, "AllSwornModel"))) (S' := fun v => (145, [l0, l1, l2, l3, l4, l5, l6], [v, s1], w, 0)) pt_189 rfl rfl,
  fun d l0 l1 l2 l3 l4 l5 s0 s1 x w Q => px_go (q := (.iload 6, 2, px_x0)) (S' := (147, [l0, l1, l2, l3, l4, l5, some (.int x)], [.int x, s0, s1], w, 0)) pt_189 rfl rfl,
  fun d l0 l1 l2 l3 l4 l5 l6 s2 i a w Q => px_goO (q := (.iaload, 1, px_x0)) (S' := fun x => (148, [l0, l1, l2, l3, l4, l5, l6], [.int x, s2], w, 0)) pt_189 rfl rfl,
  fun d l1 l2 l3 l4 l5 l6 s0 s1 a w Q => px_go (q := (.aload_n 0, 1, px_x0)) (S' := (149, [some (.ref a), l1, l2, l3, l4, l5, l6], [.ref a, s0, s1], w, 0)) pt_189 rfl rfl,
  fun d l0 l1 l2 l3 l4 l5 l6 s0 s1 s2 w Q => r_iconst pt_189 rfl (by decide),
  fun d l0 l1 l2 l3 l4 l5 l6 s2 s3 v0 b w Q => r_callV (q := (.invokevirtual 69, 3, (33, 1, [(11, 149)], 0, ""))) pt_189 rfl rfl (List.forall_mem_cons.mpr ⟨⟨_, pt_149, Nat.le_of_ble_eq_true rfl, (Nat.le_of_ble_eq_true rfl), rfl⟩, fun _ h => absurd h List.not_mem_nil⟩),
  fun d l1 l2 l3 l4 l5 l6 s0 s1 s2 a w Q => px_go (q := (.aload_n 0, 1, px_x0)) (S' := (154, [some (.ref a), l1, l2, l3, l4, l5, l6], [.ref a, s0, s1, s2], w, 0)) pt_189 rfl rfl,
  fun d l0 l1 l2 l3 l4 l5 l6 s1 s2 s3 a w Q => px_goO (q := (.getfield 188, 3, (10, 20, [(11, 0)], 0, "AllSwornModel"))) (S' := fun v => (157, [l0, l1, l2, l3, l4, l5, l6], [v, s1, s2, s3], w, 0)) pt_189 rfl rfl,
  fun d l0 l1 l2 l3 l4 l5 l6 s2 s3 x y w Q => px_go (q := (.iadd, 1, px_x0)) (S' := (158, [l0, l1, l2, l3, l4, l5, l6], [.int (x + y), s2, s3], w, 0)) pt_189 rfl rfl,
  fun d l0 l1 l2 l3 l4 l5 l6 v0 v1 b w Q => r_callV (q := (.invokevirtual 161, 3, (33, 2, [(11, 173)], 0, ""))) pt_189 rfl rfl (List.forall_mem_cons.mpr ⟨⟨_, pt_173, Nat.le_of_ble_eq_true rfl, (Nat.le_of_ble_eq_true rfl), rfl⟩, fun _ h => absurd h List.not_mem_nil⟩),
  fun d l0 l1 l2 l3 l4 l5 l6 x w Q => r_if_eq pt_189 rfl rfl,
  fun d l1 l2 l3 l4 l5 l6 a w Q => px_go (q := (.aload_n 0, 1, px_x0)) (S' := (165, [some (.ref a), l1, l2, l3, l4, l5, l6], [.ref a], w, 0)) pt_189 rfl rfl,
  fun d l0 l1 l2 l3 l4 l5 l6 a w Q => px_goO (q := (.getfield 33, 3, (10, 18, [(11, 0)], 0, "AllSwornModel"))) (S' := fun v => (168, [l0, l1, l2, l3, l4, l5, l6], [v], w, 0)) pt_189 rfl rfl,
  fun d l1 l2 l3 l4 l5 l6 s0 a w Q => px_go (q := (.aload_n 0, 1, px_x0)) (S' := (169, [some (.ref a), l1, l2, l3, l4, l5, l6], [.ref a, s0], w, 0)) pt_189 rfl rfl,
  fun d l0 l1 l2 l3 l4 l5 l6 s1 a w Q => px_goO (q := (.getfield 36, 3, (10, 19, [(11, 0)], 0, "AllSwornModel"))) (S' := fun v => (172, [l0, l1, l2, l3, l4, l5, l6], [v, s1], w, 0)) pt_189 rfl rfl,
  fun d l0 l1 l2 l3 l4 l5 s0 s1 x w Q => px_go (q := (.iload 6, 2, px_x0)) (S' := (174, [l0, l1, l2, l3, l4, l5, some (.int x)], [.int x, s0, s1], w, 0)) pt_189 rfl rfl,
  fun d l0 l1 l2 l3 l4 l5 l6 s2 i a w Q => px_goO (q := (.iaload, 1, px_x0)) (S' := fun x => (175, [l0, l1, l2, l3, l4, l5, l6], [.int x, s2], w, 0)) pt_189 rfl rfl,
  fun d l1 l2 l3 l4 l5 l6 s0 s1 a w Q => px_go (q := (.aload_n 0, 1, px_x0)) (S' := (176, [some (.ref a), l1, l2, l3, l4, l5, l6], [.ref a, s0, s1], w, 0)) pt_189 rfl rfl,
  fun d l0 l1 l2 l3 l4 l5 l6 s0 s1 s2 w Q => r_iconst pt_189 rfl (by decide),
  fun d l0 l1 l2 l3 l4 l5 l6 s2 s3 v0 b w Q => r_callV (q := (.invokevirtual 69, 3, (33, 1, [(11, 149)], 0, ""))) pt_189 rfl rfl (List.forall_mem_cons.mpr ⟨⟨_, pt_149, Nat.le_of_ble_eq_true rfl, (Nat.le_of_ble_eq_true rfl), rfl⟩, fun _ h => absurd h List.not_mem_nil⟩),
  fun d l1 l2 l3 l4 l5 l6 s0 s1 s2 a w Q => px_go (q := (.aload_n 0, 1, px_x0)) (S' := (181, [some (.ref a), l1, l2, l3, l4, l5, l6], [.ref a, s0, s1, s2], w, 0)) pt_189 rfl rfl,
  fun d l0 l1 l2 l3 l4 l5 l6 s1 s2 s3 a w Q => px_goO (q := (.getfield 188, 3, (10, 20, [(11, 0)], 0, "AllSwornModel"))) (S' := fun v => (184, [l0, l1, l2, l3, l4, l5, l6], [v, s1, s2, s3], w, 0)) pt_189 rfl rfl,
  fun d l0 l1 l2 l3 l4 l5 l6 s2 s3 x y w Q => px_go (q := (.iadd, 1, px_x0)) (S' := (185, [l0, l1, l2, l3, l4, l5, l6], [.int (x + y), s2, s3], w, 0)) pt_189 rfl rfl,
  fun d l0 l1 l2 l3 l4 l5 l6 x i a w Q => px_goO (q := (.iastore, 1, px_x0)) (S' := fun w' => (186, [l0, l1, l2, l3, l4, l5, l6], [], w', 0)) pt_189 rfl rfl,
  fun d l0 l1 l2 l3 l4 l5 x w Q => r_iinc pt_189 rfl rfl (by decide) rfl,
  fun d l0 l1 l2 l3 l4 l5 l6 w Q => r_goto pt_189 rfl rfl,
  fun d l1 l2 l3 l4 l5 l6 a w Q => px_go (q := (.aload_n 0, 1, px_x0)) (S' := (193, [some (.ref a), l1, l2, l3, l4, l5, l6], [.ref a], w, 0)) pt_189 rfl rfl,
  fun d l1 l2 l3 l4 l5 l6 s0 a w Q => px_go (q := (.aload_n 0, 1, px_x0)) (S' := (194, [some (.ref a), l1, l2, l3, l4, l5, l6], [.ref a, s0], w, 0)) pt_189 rfl rfl,
  fun d l0 l1 l2 l3 l4 l5 l6 s0 s1 w Q => r_iconst pt_189 rfl (by decide),
  fun d l0 l1 l2 l3 l4 l5 l6 s2 v0 b w Q => r_callV (q := (.invokevirtual 69, 3, (33, 1, [(11, 149)], 0, ""))) pt_189 rfl rfl (List.forall_mem_cons.mpr ⟨⟨_, pt_149, Nat.le_of_ble_eq_true rfl, (Nat.le_of_ble_eq_true rfl), rfl⟩, fun _ h => absurd h List.not_mem_nil⟩),
  fun d l1 l2 l3 l4 l5 l6 s0 s1 a w Q => px_go (q := (.aload_n 0, 1, px_x0)) (S' := (199, [some (.ref a), l1, l2, l3, l4, l5, l6], [.ref a, s0, s1], w, 0)) pt_189 rfl rfl,
  fun d l0 l1 l2 l3 l4 l5 l6 s1 s2 a w Q => px_goO (q := (.getfield 188, 3, (10, 20, [(11, 0)], 0, "AllSwornModel"))) (S' := fun v => (202, [l0, l1, l2, l3, l4, l5, l6], [v, s1, s2], w, 0)) pt_189 rfl rfl,
  fun d l0 l1 l2 l3 l4 l5 l6 s2 x y w Q => px_go (q := (.iadd, 1, px_x0)) (S' := (203, [l0, l1, l2, l3, l4, l5, l6], [.int (x + y), s2], w, 0)) pt_189 rfl rfl,
  fun d l0 l1 l2 l3 l4 l5 l6 v0 b w Q => r_callV (q := (.invokevirtual 149, 3, (33, 1, [(11, 170)], 0, ""))) pt_189 rfl rfl (List.forall_mem_cons.mpr ⟨⟨_, pt_170, Nat.le_of_ble_eq_true rfl, (Nat.le_of_ble_eq_true rfl), rfl⟩, fun _ h => absurd h List.not_mem_nil⟩),
  fun d l0 l1 l2 l3 l4 l5 l6 x w Q => r_if_ne pt_189 rfl rfl,
  fun d l0 l1 l2 l3 l4 l5 l6 w Q => r_iconst pt_189 rfl (by decide),
  fun d l0 l1 l2 l3 l4 l5 l6 s0 w Q => r_goto pt_189 rfl rfl,
  fun d l0 l1 l2 l3 l4 l5 l6 w Q => r_iconst pt_189 rfl (by decide),
  fun d l0 l1 l2 l3 l4 l5 l6 x w Q => px_retI (q := (.ireturn, 1, px_x0)) pt_189 rfl rfl⟩
theorem H189_13 : ∀ (d : Nat) (l0 l1 l2 l3 l4 l5 : Option Value) (x : Int32) (w : px_H) (Q : Option Value → px_H → Prop), wp d 189 13 [l0, l1, l2, l3, l4, l5, some (.int x)] [] w 0 Q ↔ wp d 189 15 [l0, l1, l2, l3, l4, l5, some (.int x)] [.int x] w 0 Q := fun d l0 l1 l2 l3 l4 l5 x w Q => px_go (q := (.iload 6, 2, px_x0)) (S' := (15, [l0, l1, l2, l3, l4, l5, some (.int x)], [.int x], w, 0)) pt_189 rfl rfl
theorem H189_114 : ∀ (d : Nat) (l0 l1 l2 l3 l4 l5 : Option Value) (x : Int32) (w : px_H) (Q : Option Value → px_H → Prop), wp d 189 114 [l0, l1, l2, l3, l4, l5, some (.int x)] [] w 0 Q ↔ wp d 189 116 [l0, l1, l2, l3, l4, l5, some (.int x)] [.int x] w 0 Q := fun d l0 l1 l2 l3 l4 l5 x w Q => px_go (q := (.iload 6, 2, px_x0)) (S' := (116, [l0, l1, l2, l3, l4, l5, some (.int x)], [.int x], w, 0)) pt_189 rfl rfl
/-- AllSwornModel.round(I)I heads: [38, 47, 141] -/
theorem S190 : (∀ (d : Nat) (v0 v1 : Value) (w : px_H) (Q : Option Value → px_H → Prop), wc d 190 [v0, v1] w Q ↔ wp d 190 0 [some v0, some v1, none, none, none, none, none, none] [] w 0 Q) ∧
  (∀ (d : Nat) (l1 l2 l3 l4 l5 l6 l7 : Option Value) (a : Nat) (w : px_H) (Q : Option Value → px_H → Prop), wp d 190 0 [some (.ref a), l1, l2, l3, l4, l5, l6, l7] [] w 0 Q ↔ wp d 190 1 [some (.ref a), l1, l2, l3, l4, l5, l6, l7] [.ref a] w 0 Q) ∧
  (∀ (d : Nat) (l0 l1 l2 l3 l4 l5 l6 l7 : Option Value)  (b : Nat) (w : px_H) (Q : Option Value → px_H → Prop), wp (d + 1) 190 1 [l0, l1, l2, l3, l4, l5, l6, l7] [.ref b] w 0 Q ↔ px_op (px_tgt w b [(11, 175)]) (fun v => wc d v [.ref b] w (fun r w' => wp (d + 1) 190 4 [l0, l1, l2, l3, l4, l5, l6, l7] (r.toList ++ []) w' 0 Q))) ∧
  (∀ (d : Nat) (l0 l1 l2 l3 l4 l5 l6 l7 : Option Value) (x : Int32) (w : px_H) (Q : Option Value → px_H → Prop), wp d 190 4 [l0, l1, l2, l3, l4, l5, l6, l7] [.int x] w 0 Q ↔ if x = 0 then wp d 190 7 [l0, l1, l2, l3, l4, l5, l6, l7] [] w 0 Q else wp d 190 10 [l0, l1, l2, l3, l4, l5, l6, l7] [] w 0 Q) ∧
  (∀ (d : Nat) (l0 l1 l2 l3 l4 l5 l6 l7 : Option Value)  (w : px_H) (Q : Option Value → px_H → Prop), wp d 190 7 [l0, l1, l2, l3, l4, l5, l6, l7] [] w 0 Q ↔ wp d 190 9 [l0, l1, l2, l3, l4, l5, l6, l7] [.int (-1000002)] w 0 Q) ∧
  (∀ (d : Nat) (l0 l1 l2 l3 l4 l5 l6 l7 : Option Value) (x : Int32) (w : px_H) (Q : Option Value → px_H → Prop), wp d 190 9 [l0, l1, l2, l3, l4, l5, l6, l7] [.int x] w 0 Q ↔ Q (some (.int x)) w) ∧
  (∀ (d : Nat) (l0 l2 l3 l4 l5 l6 l7 : Option Value) (x : Int32) (w : px_H) (Q : Option Value → px_H → Prop), wp d 190 10 [l0, some (.int x), l2, l3, l4, l5, l6, l7] [] w 0 Q ↔ wp d 190 11 [l0, some (.int x), l2, l3, l4, l5, l6, l7] [.int x] w 0 Q) ∧
  (∀ (d : Nat) (l0 l1 l2 l3 l4 l5 l6 l7 : Option Value) (s0 : Value)  (w : px_H) (Q : Option Value → px_H → Prop), wp d 190 11 [l0, l1, l2, l3, l4, l5, l6, l7] [s0] w 0 Q ↔ wp d 190 13 [l0, l1, l2, l3, l4, l5, l6, l7] [.int (-2), s0] w 0 Q) ∧
  (∀ (d : Nat) (l0 l1 l2 l3 l4 l5 l6 l7 : Option Value) (s0 s1 : Value)  (w : px_H) (Q : Option Value → px_H → Prop), wp d 190 13 [l0, l1, l2, l3, l4, l5, l6, l7] [s0, s1] w 0 Q ↔ wp d 190 14 [l0, l1, l2, l3, l4, l5, l6, l7] [.int 3, s0, s1] w 0 Q) ∧
  (∀ (d : Nat) (l0 l1 l2 l3 l4 l5 l6 l7 : Option Value) (v0 v1 v2 : Value) (w : px_H) (Q : Option Value → px_H → Prop), wp (d + 1) 190 14 [l0, l1, l2, l3, l4, l5, l6, l7] [v2, v1, v0] w 0 Q ↔ wc d 140 [v0, v1, v2] w (fun r w' => wp (d + 1) 190 17 [l0, l1, l2, l3, l4, l5, l6, l7] (r.toList ++ []) w' 0 Q)) ∧
  (∀ (d : Nat) (l0 l1 l2 l3 l4 l5 l6 l7 : Option Value) (x : Int32) (w : px_H) (Q : Option Value → px_H → Prop), wp d 190 17 [l0, l1, l2, l3, l4, l5, l6, l7] [.int x] w 0 Q ↔ if x = 0 then wp d 190 20 [l0, l1, l2, l3, l4, l5, l6, l7] [] w 0 Q else wp d 190 23 [l0, l1, l2, l3, l4, l5, l6, l7] [] w 0 Q) ∧
  (∀ (d : Nat) (l0 l1 l2 l3 l4 l5 l6 l7 : Option Value)  (w : px_H) (Q : Option Value → px_H → Prop), wp d 190 20 [l0, l1, l2, l3, l4, l5, l6, l7] [] w 0 Q ↔ wp d 190 22 [l0, l1, l2, l3, l4, l5, l6, l7] [.int (-1000001)] w 0 Q) ∧
  (∀ (d : Nat) (l0 l1 l2 l3 l4 l5 l6 l7 : Option Value) (x : Int32) (w : px_H) (Q : Option Value → px_H → Prop), wp d 190 22 [l0, l1, l2, l3, l4, l5, l6, l7] [.int x] w 0 Q ↔ Q (some (.int x)) w) ∧
  (∀ (d : Nat) (l0 l1 l2 l3 l4 l5 l6 l7 : Option Value)  (w : px_H) (Q : Option Value → px_H → Prop), wp d 190 23 [l0, l1, l2, l3, l4, l5, l6, l7] [] w 0 Q ↔ wp d 190 25 [l0, l1, l2, l3, l4, l5, l6, l7] [.int (-1000000)] w 0 Q) ∧
  (∀ (d : Nat) (l0 l1 l2 l3 l4 l5 l6 l7 : Option Value) (x : Int32) (w : px_H) (Q : Option Value → px_H → Prop), wp d 190 25 [l0, l1, l2, l3, l4, l5, l6, l7] [.int x] w 0 Q ↔ wp d 190 26 [l0, l1, some (.int x), l3, l4, l5, l6, l7] [] w 0 Q) ∧
  (∀ (d : Nat) (l0 l1 l2 l3 l4 l5 l6 l7 : Option Value)  (w : px_H) (Q : Option Value → px_H → Prop), wp d 190 26 [l0, l1, l2, l3, l4, l5, l6, l7] [] w 0 Q ↔ wp d 190 28 [l0, l1, l2, l3, l4, l5, l6, l7] [.int (-1000000)] w 0 Q) ∧
  (∀ (d : Nat) (l0 l1 l2 l3 l4 l5 l6 l7 : Option Value) (x : Int32) (w : px_H) (Q : Option Value → px_H → Prop), wp d 190 28 [l0, l1, l2, l3, l4, l5, l6, l7] [.int x] w 0 Q ↔ wp d 190 29 [l0, l1, l2, some (.int x), l4, l5, l6, l7] [] w 0 Q) ∧
  (∀ (d : Nat) (l0 l1 l2 l3 l4 l5 l6 l7 : Option Value)  (w : px_H) (Q : Option Value → px_H → Prop), wp d 190 29 [l0, l1, l2, l3, l4, l5, l6, l7] [] w 0 Q ↔ wp d 190 30 [l0, l1, l2, l3, l4, l5, l6, l7] [.int 0] w 0 Q) ∧
  (∀ (d : Nat) (l0 l1 l2 l3 l4 l5 l6 l7 : Option Value) (x : Int32) (w : px_H) (Q : Option Value → px_H → Prop), wp d 190 30 [l0, l1, l2, l3, l4, l5, l6, l7] [.int x] w 0 Q ↔ wp d 190 32 [l0, l1, l2, l3, some (.int x), l5, l6, l7] [] w 0 Q) ∧
  (∀ (d : Nat) (l0 l1 l2 l3 l4 l5 l6 l7 : Option Value)  (w : px_H) (Q : Option Value → px_H → Prop), wp d 190 32 [l0, l1, l2, l3, l4, l5, l6, l7] [] w 0 Q ↔ wp d 190 33 [l0, l1, l2, l3, l4, l5, l6, l7] [.int 1] w 0 Q) ∧
  (∀ (d : Nat) (l0 l1 l2 l3 l4 l5 l6 l7 : Option Value) (x : Int32) (w : px_H) (Q : Option Value → px_H → Prop), wp d 190 33 [l0, l1, l2, l3, l4, l5, l6, l7] [.int x] w 0 Q ↔ wp d 190 35 [l0, l1, l2, l3, l4, some (.int x), l6, l7] [] w 0 Q) ∧
  (∀ (d : Nat) (l0 l1 l2 l3 l4 l5 l6 l7 : Option Value)  (w : px_H) (Q : Option Value → px_H → Prop), wp d 190 35 [l0, l1, l2, l3, l4, l5, l6, l7] [] w 0 Q ↔ wp d 190 36 [l0, l1, l2, l3, l4, l5, l6, l7] [.int 0] w 0 Q) ∧
  (∀ (d : Nat) (l0 l1 l2 l3 l4 l5 l6 l7 : Option Value) (x : Int32) (w : px_H) (Q : Option Value → px_H → Prop), wp d 190 36 [l0, l1, l2, l3, l4, l5, l6, l7] [.int x] w 0 Q ↔ wp d 190 38 [l0, l1, l2, l3, l4, l5, some (.int x), l7] [] w 0 Q) ∧
  (∀ (d : Nat) (l0 l1 l2 l3 l4 l5 l6 l7 : Option Value) (s0 : Value)  (w : px_H) (Q : Option Value → px_H → Prop), wp d 190 40 [l0, l1, l2, l3, l4, l5, l6, l7] [s0] w 0 Q ↔ wp d 190 41 [l0, l1, l2, l3, l4, l5, l6, l7] [.int 4, s0] w 0 Q) ∧
  (∀ (d : Nat) (l0 l1 l2 l3 l4 l5 l6 l7 : Option Value) (x y : Int32) (w : px_H) (Q : Option Value → px_H → Prop), wp d 190 41 [l0, l1, l2, l3, l4, l5, l6, l7] [.int y, .int x] w 0 Q ↔ if y < x then wp d 190 110 [l0, l1, l2, l3, l4, l5, l6, l7] [] w 0 Q else wp d 190 44 [l0, l1, l2, l3, l4, l5, l6, l7] [] w 0 Q) ∧
  (∀ (d : Nat) (l0 l1 l2 l3 l4 l5 l6 l7 : Option Value)  (w : px_H) (Q : Option Value → px_H → Prop), wp d 190 44 [l0, l1, l2, l3, l4, l5, l6, l7] [] w 0 Q ↔ wp d 190 45 [l0, l1, l2, l3, l4, l5, l6, l7] [.int 0] w 0 Q) ∧
  (∀ (d : Nat) (l0 l1 l2 l3 l4 l5 l6 l7 : Option Value) (x : Int32) (w : px_H) (Q : Option Value → px_H → Prop), wp d 190 45 [l0, l1, l2, l3, l4, l5, l6, l7] [.int x] w 0 Q ↔ wp d 190 47 [l0, l1, l2, l3, l4, l5, l6, some (.int x)] [] w 0 Q) ∧
  (∀ (d : Nat) (l0 l1 l2 l3 l4 l6 l7 : Option Value) (s0 : Value) (x : Int32) (w : px_H) (Q : Option Value → px_H → Prop), wp d 190 49 [l0, l1, l2, l3, l4, some (.int x), l6, l7] [s0] w 0 Q ↔ wp d 190 51 [l0, l1, l2, l3, l4, some (.int x), l6, l7] [.int x, s0] w 0 Q) ∧
  (∀ (d : Nat) (l0 l1 l2 l3 l4 l5 l6 l7 : Option Value) (x y : Int32) (w : px_H) (Q : Option Value → px_H → Prop), wp d 190 51 [l0, l1, l2, l3, l4, l5, l6, l7] [.int y, .int x] w 0 Q ↔ if y ≤ x then wp d 190 97 [l0, l1, l2, l3, l4, l5, l6, l7] [] w 0 Q else wp d 190 54 [l0, l1, l2, l3, l4, l5, l6, l7] [] w 0 Q) ∧
  (∀ (d : Nat) (l1 l2 l3 l4 l5 l6 l7 : Option Value) (a : Nat) (w : px_H) (Q : Option Value → px_H → Prop), wp d 190 54 [some (.ref a), l1, l2, l3, l4, l5, l6, l7] [] w 0 Q ↔ wp d 190 55 [some (.ref a), l1, l2, l3, l4, l5, l6, l7] [.ref a] w 0 Q) ∧
  (∀ (d : Nat) (l0 l1 l2 l3 l4 l5 l6 : Option Value) (s0 : Value) (x : Int32) (w : px_H) (Q : Option Value → px_H → Prop), wp d 190 55 [l0, l1, l2, l3, l4, l5, l6, some (.int x)] [s0] w 0 Q ↔ wp d 190 57 [l0, l1, l2, l3, l4, l5, l6, some (.int x)] [.int x, s0] w 0 Q) ∧
  (∀ (d : Nat) (l0 l1 l2 l3 l4 l5 l7 : Option Value) (s0 s1 : Value) (x : Int32) (w : px_H) (Q : Option Value → px_H → Prop), wp d 190 57 [l0, l1, l2, l3, l4, l5, some (.int x), l7] [s0, s1] w 0 Q ↔ wp d 190 59 [l0, l1, l2, l3, l4, l5, some (.int x), l7] [.int x, s0, s1] w 0 Q) ∧
  (∀ (d : Nat) (l0 l1 l2 l3 l4 l5 l6 l7 : Option Value) (v0 v1 : Value) (b : Nat) (w : px_H) (Q : Option Value → px_H → Prop), wp (d + 1) 190 59 [l0, l1, l2, l3, l4, l5, l6, l7] [v1, v0, .ref b] w 0 Q ↔ px_op (px_tgt w b [(11, 189)]) (fun v => wc d v [.ref b, v0, v1] w (fun r w' => wp (d + 1) 190 62 [l0, l1, l2, l3, l4, l5, l6, l7] (r.toList ++ []) w' 0 Q))) ∧
  (∀ (d : Nat) (l0 l1 l2 l3 l4 l5 l6 l7 : Option Value) (x : Int32) (w : px_H) (Q : Option Value → px_H → Prop), wp d 190 62 [l0, l1, l2, l3, l4, l5, l6, l7] [.int x] w 0 Q ↔ if x = 0 then wp d 190 91 [l0, l1, l2, l3, l4, l5, l6, l7] [] w 0 Q else wp d 190 65 [l0, l1, l2, l3, l4, l5, l6, l7] [] w 0 Q) ∧
  (∀ (d : Nat) (l0 l1 l2 l4 l5 l6 l7 : Option Value) (x : Int32) (w : px_H) (Q : Option Value → px_H → Prop), wp d 190 65 [l0, l1, l2, some (.int x), l4, l5, l6, l7] [] w 0 Q ↔ wp d 190 66 [l0, l1, l2, some (.int x), l4, l5, l6, l7] [.int x] w 0 Q) ∧
  (∀ (d : Nat) (l0 l1 l2 l3 l4 l5 l6 l7 : Option Value) (s0 : Value)  (w : px_H) (Q : Option Value → px_H → Prop), wp d 190 66 [l0, l1, l2, l3, l4, l5, l6, l7] [s0] w 0 Q ↔ wp d 190 68 [l0, l1, l2, l3, l4, l5, l6, l7] [.int (-1000000), s0] w 0 Q) ∧
  (∀ (d : Nat) (l0 l1 l2 l3 l4 l5 l6 l7 : Option Value) (x y : Int32) (w : px_H) (Q : Option Value → px_H → Prop), wp d 190 68 [l0, l1, l2, l3, l4, l5, l6, l7] [.int y, .int x] w 0 Q ↔ if x = y then wp d 190 79 [l0, l1, l2, l3, l4, l5, l6, l7] [] w 0 Q else wp d 190 71 [l0, l1, l2, l3, l4, l5, l6, l7] [] w 0 Q) ∧
  (∀ (d : Nat) (l1 l2 l3 l4 l5 l6 l7 : Option Value) (a : Nat) (w : px_H) (Q : Option Value → px_H → Prop), wp d 190 71 [some (.ref a), l1, l2, l3, l4, l5, l6, l7] [] w 0 Q ↔ wp d 190 72 [some (.ref a), l1, l2, l3, l4, l5, l6, l7] [.ref a] w 0 Q) ∧
  (∀ (d : Nat) (l0 l1 l2 l3 l4 l5 l6 l7 : Option Value) (a : Nat) (w : px_H) (Q : Option Value → px_H → Prop), wp d 190 72 [l0, l1, l2, l3, l4, l5, l6, l7] [.ref a] w 0 Q ↔ px_op (px_fld w a [(11, 0)] 20) (fun v => wp d 190 75 [l0, l1, l2, l3, l4, l5, l6, l7] [v] w 0 Q)) ∧
  (∀ (d : Nat) (l0 l1 l3 l4 l5 l6 l7 : Option Value) (s0 : Value) (x : Int32) (w : px_H) (Q : Option Value → px_H → Prop), wp d 190 75 [l0, l1, some (.int x), l3, l4, l5, l6, l7] [s0] w 0 Q ↔ wp d 190 76 [l0, l1, some (.int x), l3, l4, l5, l6, l7] [.int x, s0] w 0 Q) ∧
  (∀ (d : Nat) (l0 l1 l2 l3 l4 l5 l6 l7 : Option Value) (x y : Int32) (w : px_H) (Q : Option Value → px_H → Prop), wp d 190 76 [l0, l1, l2, l3, l4, l5, l6, l7] [.int y, .int x] w 0 Q ↔ if y ≤ x then wp d 190 91 [l0, l1, l2, l3, l4, l5, l6, l7] [] w 0 Q else wp d 190 79 [l0, l1, l2, l3, l4, l5, l6, l7] [] w 0 Q) ∧
  (∀ (d : Nat) (l0 l1 l2 l3 l4 l5 l6 : Option Value) (x : Int32) (w : px_H) (Q : Option Value → px_H → Prop), wp d 190 79 [l0, l1, l2, l3, l4, l5, l6, some (.int x)] [] w 0 Q ↔ wp d 190 81 [l0, l1, l2, l3, l4, l5, l6, some (.int x)] [.int x] w 0 Q) ∧
  (∀ (d : Nat) (l0 l1 l2 l3 l4 l5 l6 l7 : Option Value) (x : Int32) (w : px_H) (Q : Option Value → px_H → Prop), wp d 190 81 [l0, l1, l2, l3, l4, l5, l6, l7] [.int x] w 0 Q ↔ wp d 190 82 [l0, l1, l2, some (.int x), l4, l5, l6, l7] [] w 0 Q) ∧
  (∀ (d : Nat) (l0 l1 l2 l3 l4 l5 l7 : Option Value) (x : Int32) (w : px_H) (Q : Option Value → px_H → Prop), wp d 190 82 [l0, l1, l2, l3, l4, l5, some (.int x), l7] [] w 0 Q ↔ wp d 190 84 [l0, l1, l2, l3, l4, l5, some (.int x), l7] [.int x] w 0 Q) ∧
  (∀ (d : Nat) (l0 l1 l2 l3 l4 l5 l6 l7 : Option Value) (x : Int32) (w : px_H) (Q : Option Value → px_H → Prop), wp d 190 84 [l0, l1, l2, l3, l4, l5, l6, l7] [.int x] w 0 Q ↔ wp d 190 86 [l0, l1, l2, l3, some (.int x), l5, l6, l7] [] w 0 Q) ∧
  (∀ (d : Nat) (l1 l2 l3 l4 l5 l6 l7 : Option Value) (a : Nat) (w : px_H) (Q : Option Value → px_H → Prop), wp d 190 86 [some (.ref a), l1, l2, l3, l4, l5, l6, l7] [] w 0 Q ↔ wp d 190 87 [some (.ref a), l1, l2, l3, l4, l5, l6, l7] [.ref a] w 0 Q) ∧
  (∀ (d : Nat) (l0 l1 l2 l3 l4 l5 l6 l7 : Option Value) (a : Nat) (w : px_H) (Q : Option Value → px_H → Prop), wp d 190 87 [l0, l1, l2, l3, l4, l5, l6, l7] [.ref a] w 0 Q ↔ px_op (px_fld w a [(11, 0)] 20) (fun v => wp d 190 90 [l0, l1, l2, l3, l4, l5, l6, l7] [v] w 0 Q)) ∧
  (∀ (d : Nat) (l0 l1 l2 l3 l4 l5 l6 l7 : Option Value) (x : Int32) (w : px_H) (Q : Option Value → px_H → Prop), wp d 190 90 [l0, l1, l2, l3, l4, l5, l6, l7] [.int x] w 0 Q ↔ wp d 190 91 [l0, l1, some (.int x), l3, l4, l5, l6, l7] [] w 0 Q) ∧
  (∀ (d : Nat) (l0 l1 l2 l3 l4 l5 l6 : Option Value) (x : Int32) (w : px_H) (Q : Option Value → px_H → Prop), wp d 190 91 [l0, l1, l2, l3, l4, l5, l6, some (.int x)] [] w 0 Q ↔ wp d 190 94 [l0, l1, l2, l3, l4, l5, l6, some (.int (x + 1))] [] w 0 Q) ∧
  (∀ (d : Nat) (l0 l1 l2 l3 l4 l5 l6 l7 : Option Value)  (w : px_H) (Q : Option Value → px_H → Prop), wp d 190 94 [l0, l1, l2, l3, l4, l5, l6, l7] [] w 0 Q ↔ wp d 190 47 [l0, l1, l2, l3, l4, l5, l6, l7] [] w 0 Q) ∧
  (∀ (d : Nat) (l0 l1 l2 l3 l4 l6 l7 : Option Value) (x : Int32) (w : px_H) (Q : Option Value → px_H → Prop), wp d 190 97 [l0, l1, l2, l3, l4, some (.int x), l6, l7] [] w 0 Q ↔ wp d 190 99 [l0, l1, l2, l3, l4, some (.int x), l6, l7] [.int x] w 0 Q) ∧
  (∀ (d : Nat) (l0 l1 l2 l3 l4 l5 l6 l7 : Option Value) (s0 : Value)  (w : px_H) (Q : Option Value → px_H → Prop), wp d 190 99 [l0, l1, l2, l3, l4, l5, l6, l7] [s0] w 0 Q ↔ wp d 190 101 [l0, l1, l2, l3, l4, l5, l6, l7] [.int 8, s0] w 0 Q) ∧
  (∀ (d : Nat) (l0 l1 l2 l3 l4 l5 l6 l7 : Option Value) (x y : Int32) (w : px_H) (Q : Option Value → px_H → Prop), wp d 190 101 [l0, l1, l2, l3, l4, l5, l6, l7] [.int y, .int x] w 0 Q ↔ wp d 190 102 [l0, l1, l2, l3, l4, l5, l6, l7] [.int (x * y)] w 0 Q) ∧
  (∀ (d : Nat) (l0 l1 l2 l3 l4 l5 l6 l7 : Option Value) (x : Int32) (w : px_H) (Q : Option Value → px_H → Prop), wp d 190 102 [l0, l1, l2, l3, l4, l5, l6, l7] [.int x] w 0 Q ↔ wp d 190 104 [l0, l1, l2, l3, l4, some (.int x), l6, l7] [] w 0 Q) ∧
  (∀ (d : Nat) (l0 l1 l2 l3 l4 l5 l7 : Option Value) (x : Int32) (w : px_H) (Q : Option Value → px_H → Prop), wp d 190 104 [l0, l1, l2, l3, l4, l5, some (.int x), l7] [] w 0 Q ↔ wp d 190 107 [l0, l1, l2, l3, l4, l5, some (.int (x + 1)), l7] [] w 0 Q) ∧
  (∀ (d : Nat) (l0 l1 l2 l3 l4 l5 l6 l7 : Option Value)  (w : px_H) (Q : Option Value → px_H → Prop), wp d 190 107 [l0, l1, l2, l3, l4, l5, l6, l7] [] w 0 Q ↔ wp d 190 38 [l0, l1, l2, l3, l4, l5, l6, l7] [] w 0 Q) ∧
  (∀ (d : Nat) (l0 l1 l2 l4 l5 l6 l7 : Option Value) (x : Int32) (w : px_H) (Q : Option Value → px_H → Prop), wp d 190 110 [l0, l1, l2, some (.int x), l4, l5, l6, l7] [] w 0 Q ↔ wp d 190 111 [l0, l1, l2, some (.int x), l4, l5, l6, l7] [.int x] w 0 Q) ∧
  (∀ (d : Nat) (l0 l1 l2 l3 l4 l5 l6 l7 : Option Value) (s0 : Value)  (w : px_H) (Q : Option Value → px_H → Prop), wp d 190 111 [l0, l1, l2, l3, l4, l5, l6, l7] [s0] w 0 Q ↔ wp d 190 113 [l0, l1, l2, l3, l4, l5, l6, l7] [.int (-1000000), s0] w 0 Q) ∧
  (∀ (d : Nat) (l0 l1 l2 l3 l4 l5 l6 l7 : Option Value) (x y : Int32) (w : px_H) (Q : Option Value → px_H → Prop), wp d 190 113 [l0, l1, l2, l3, l4, l5, l6, l7] [.int y, .int x] w 0 Q ↔ if x = y then wp d 190 122 [l0, l1, l2, l3, l4, l5, l6, l7] [] w 0 Q else wp d 190 116 [l0, l1, l2, l3, l4, l5, l6, l7] [] w 0 Q) ∧
  (∀ (d : Nat) (l0 l2 l3 l4 l5 l6 l7 : Option Value) (x : Int32) (w : px_H) (Q : Option Value → px_H → Prop), wp d 190 116 [l0, some (.int x), l2, l3, l4, l5, l6, l7] [] w 0 Q ↔ wp d 190 117 [l0, some (.int x), l2, l3, l4, l5, l6, l7] [.int x] w 0 Q) ∧
  (∀ (d : Nat) (l0 l1 l2 l3 l4 l5 l6 l7 : Option Value) (s0 : Value)  (w : px_H) (Q : Option Value → px_H → Prop), wp d 190 117 [l0, l1, l2, l3, l4, l5, l6, l7] [s0] w 0 Q ↔ wp d 190 119 [l0, l1, l2, l3, l4, l5, l6, l7] [.int (-2), s0] w 0 Q) ∧
  (∀ (d : Nat) (l0 l1 l2 l3 l4 l5 l6 l7 : Option Value) (x y : Int32) (w : px_H) (Q : Option Value → px_H → Prop), wp d 190 119 [l0, l1, l2, l3, l4, l5, l6, l7] [.int y, .int x] w 0 Q ↔ if x = y then wp d 190 122 [l0, l1, l2, l3, l4, l5, l6, l7] [] w 0 Q else wp d 190 124 [l0, l1, l2, l3, l4, l5, l6, l7] [] w 0 Q) ∧
  (∀ (d : Nat) (l0 l1 l3 l4 l5 l6 l7 : Option Value) (x : Int32) (w : px_H) (Q : Option Value → px_H → Prop), wp d 190 122 [l0, l1, some (.int x), l3, l4, l5, l6, l7] [] w 0 Q ↔ wp d 190 123 [l0, l1, some (.int x), l3, l4, l5, l6, l7] [.int x] w 0 Q) ∧
  (∀ (d : Nat) (l0 l1 l2 l3 l4 l5 l6 l7 : Option Value) (x : Int32) (w : px_H) (Q : Option Value → px_H → Prop), wp d 190 123 [l0, l1, l2, l3, l4, l5, l6, l7] [.int x] w 0 Q ↔ Q (some (.int x)) w) ∧
  (∀ (d : Nat) (l0 l2 l3 l4 l5 l6 l7 : Option Value) (x : Int32) (w : px_H) (Q : Option Value → px_H → Prop), wp d 190 124 [l0, some (.int x), l2, l3, l4, l5, l6, l7] [] w 0 Q ↔ wp d 190 125 [l0, some (.int x), l2, l3, l4, l5, l6, l7] [.int x] w 0 Q) ∧
  (∀ (d : Nat) (l0 l1 l2 l3 l4 l5 l6 l7 : Option Value) (s0 : Value)  (w : px_H) (Q : Option Value → px_H → Prop), wp d 190 125 [l0, l1, l2, l3, l4, l5, l6, l7] [s0] w 0 Q ↔ wp d 190 126 [l0, l1, l2, l3, l4, l5, l6, l7] [.int (-1), s0] w 0 Q) ∧
  (∀ (d : Nat) (l0 l1 l2 l3 l4 l5 l6 l7 : Option Value) (x y : Int32) (w : px_H) (Q : Option Value → px_H → Prop), wp d 190 126 [l0, l1, l2, l3, l4, l5, l6, l7] [.int y, .int x] w 0 Q ↔ if x = y then wp d 190 129 [l0, l1, l2, l3, l4, l5, l6, l7] [] w 0 Q else wp d 190 132 [l0, l1, l2, l3, l4, l5, l6, l7] [] w 0 Q) ∧
  (∀ (d : Nat) (l0 l1 l2 l3 l5 l6 l7 : Option Value) (x : Int32) (w : px_H) (Q : Option Value → px_H → Prop), wp d 190 129 [l0, l1, l2, l3, some (.int x), l5, l6, l7] [] w 0 Q ↔ wp d 190 131 [l0, l1, l2, l3, some (.int x), l5, l6, l7] [.int x] w 0 Q) ∧
  (∀ (d : Nat) (l0 l1 l2 l3 l4 l5 l6 l7 : Option Value) (x : Int32) (w : px_H) (Q : Option Value → px_H → Prop), wp d 190 131 [l0, l1, l2, l3, l4, l5, l6, l7] [.int x] w 0 Q ↔ Q (some (.int x)) w) ∧
  (∀ (d : Nat) (l0 l1 l2 l4 l5 l6 l7 : Option Value) (x : Int32) (w : px_H) (Q : Option Value → px_H → Prop), wp d 190 132 [l0, l1, l2, some (.int x), l4, l5, l6, l7] [] w 0 Q ↔ wp d 190 133 [l0, l1, l2, some (.int x), l4, l5, l6, l7] [.int x] w 0 Q) ∧
  (∀ (d : Nat) (l0 l1 l2 l3 l4 l5 l6 l7 : Option Value) (x : Int32) (w : px_H) (Q : Option Value → px_H → Prop), wp d 190 133 [l0, l1, l2, l3, l4, l5, l6, l7] [.int x] w 0 Q ↔ wp d 190 135 [l0, l1, l2, l3, l4, l5, some (.int x), l7] [] w 0 Q) ∧
  (∀ (d : Nat) (l0 l1 l2 l3 l5 l6 l7 : Option Value) (x : Int32) (w : px_H) (Q : Option Value → px_H → Prop), wp d 190 135 [l0, l1, l2, l3, some (.int x), l5, l6, l7] [] w 0 Q ↔ wp d 190 137 [l0, l1, l2, l3, some (.int x), l5, l6, l7] [.int x] w 0 Q) ∧
  (∀ (d : Nat) (l0 l1 l2 l3 l4 l5 l6 l7 : Option Value) (s0 : Value)  (w : px_H) (Q : Option Value → px_H → Prop), wp d 190 137 [l0, l1, l2, l3, l4, l5, l6, l7] [s0] w 0 Q ↔ wp d 190 138 [l0, l1, l2, l3, l4, l5, l6, l7] [.int 1, s0] w 0 Q) ∧
  (∀ (d : Nat) (l0 l1 l2 l3 l4 l5 l6 l7 : Option Value) (x y : Int32) (w : px_H) (Q : Option Value → px_H → Prop), wp d 190 138 [l0, l1, l2, l3, l4, l5, l6, l7] [.int y, .int x] w 0 Q ↔ wp d 190 139 [l0, l1, l2, l3, l4, l5, l6, l7] [.int (x - y)] w 0 Q) ∧
  (∀ (d : Nat) (l0 l1 l2 l3 l4 l5 l6 l7 : Option Value) (x : Int32) (w : px_H) (Q : Option Value → px_H → Prop), wp d 190 139 [l0, l1, l2, l3, l4, l5, l6, l7] [.int x] w 0 Q ↔ wp d 190 141 [l0, l1, l2, l3, l4, l5, l6, some (.int x)] [] w 0 Q) ∧
  (∀ (d : Nat) (l0 l2 l3 l4 l5 l6 l7 : Option Value) (s0 : Value) (x : Int32) (w : px_H) (Q : Option Value → px_H → Prop), wp d 190 143 [l0, some (.int x), l2, l3, l4, l5, l6, l7] [s0] w 0 Q ↔ wp d 190 144 [l0, some (.int x), l2, l3, l4, l5, l6, l7] [.int x, s0] w 0 Q) ∧
  (∀ (d : Nat) (l0 l1 l2 l3 l4 l5 l6 l7 : Option Value) (x y : Int32) (w : px_H) (Q : Option Value → px_H → Prop), wp d 190 144 [l0, l1, l2, l3, l4, l5, l6, l7] [.int y, .int x] w 0 Q ↔ if x ≤ y then wp d 190 160 [l0, l1, l2, l3, l4, l5, l6, l7] [] w 0 Q else wp d 190 147 [l0, l1, l2, l3, l4, l5, l6, l7] [] w 0 Q) ∧
  (∀ (d : Nat) (l0 l1 l2 l3 l4 l5 l7 : Option Value) (x : Int32) (w : px_H) (Q : Option Value → px_H → Prop), wp d 190 147 [l0, l1, l2, l3, l4, l5, some (.int x), l7] [] w 0 Q ↔ wp d 190 149 [l0, l1, l2, l3, l4, l5, some (.int x), l7] [.int x] w 0 Q) ∧
  (∀ (d : Nat) (l0 l1 l2 l3 l4 l5 l6 l7 : Option Value) (s0 : Value)  (w : px_H) (Q : Option Value → px_H → Prop), wp d 190 149 [l0, l1, l2, l3, l4, l5, l6, l7] [s0] w 0 Q ↔ wp d 190 151 [l0, l1, l2, l3, l4, l5, l6, l7] [.int 8, s0] w 0 Q) ∧
  (∀ (d : Nat) (l0 l1 l2 l3 l4 l5 l6 l7 : Option Value) (x y : Int32) (w : px_H) (Q : Option Value → px_H → Prop), wp d 190 151 [l0, l1, l2, l3, l4, l5, l6, l7] [.int y, .int x] w 0 Q ↔ px_op (if y = 0 then none else some (x / y)) (fun z => wp d 190 152 [l0, l1, l2, l3, l4, l5, l6, l7] [.int z] w 0 Q)) ∧
  (∀ (d : Nat) (l0 l1 l2 l3 l4 l5 l6 l7 : Option Value) (x : Int32) (w : px_H) (Q : Option Value → px_H → Prop), wp d 190 152 [l0, l1, l2, l3, l4, l5, l6, l7] [.int x] w 0 Q ↔ wp d 190 154 [l0, l1, l2, l3, l4, l5, some (.int x), l7] [] w 0 Q) ∧
  (∀ (d : Nat) (l0 l1 l2 l3 l4 l5 l6 : Option Value) (x : Int32) (w : px_H) (Q : Option Value → px_H → Prop), wp d 190 154 [l0, l1, l2, l3, l4, l5, l6, some (.int x)] [] w 0 Q ↔ wp d 190 157 [l0, l1, l2, l3, l4, l5, l6, some (.int (x + (-1)))] [] w 0 Q) ∧
  (∀ (d : Nat) (l0 l1 l2 l3 l4 l5 l6 l7 : Option Value)  (w : px_H) (Q : Option Value → px_H → Prop), wp d 190 157 [l0, l1, l2, l3, l4, l5, l6, l7] [] w 0 Q ↔ wp d 190 141 [l0, l1, l2, l3, l4, l5, l6, l7] [] w 0 Q) ∧
  (∀ (d : Nat) (l0 l2 l3 l4 l5 l6 l7 : Option Value) (x : Int32) (w : px_H) (Q : Option Value → px_H → Prop), wp d 190 160 [l0, some (.int x), l2, l3, l4, l5, l6, l7] [] w 0 Q ↔ wp d 190 161 [l0, some (.int x), l2, l3, l4, l5, l6, l7] [.int x] w 0 Q) ∧
  (∀ (d : Nat) (l0 l1 l2 l3 l5 l6 l7 : Option Value) (s0 : Value) (x : Int32) (w : px_H) (Q : Option Value → px_H → Prop), wp d 190 161 [l0, l1, l2, l3, some (.int x), l5, l6, l7] [s0] w 0 Q ↔ wp d 190 163 [l0, l1, l2, l3, some (.int x), l5, l6, l7] [.int x, s0] w 0 Q) ∧
  (∀ (d : Nat) (l0 l1 l2 l3 l4 l5 l6 l7 : Option Value) (x y : Int32) (w : px_H) (Q : Option Value → px_H → Prop), wp d 190 163 [l0, l1, l2, l3, l4, l5, l6, l7] [.int y, .int x] w 0 Q ↔ if y ≤ x then wp d 190 174 [l0, l1, l2, l3, l4, l5, l6, l7] [] w 0 Q else wp d 190 166 [l0, l1, l2, l3, l4, l5, l6, l7] [] w 0 Q) ∧
  (∀ (d : Nat) (l0 l1 l2 l3 l4 l5 l7 : Option Value) (x : Int32) (w : px_H) (Q : Option Value → px_H → Prop), wp d 190 166 [l0, l1, l2, l3, l4, l5, some (.int x), l7] [] w 0 Q ↔ wp d 190 168 [l0, l1, l2, l3, l4, l5, some (.int x), l7] [.int x] w 0 Q) ∧
  (∀ (d : Nat) (l0 l1 l2 l3 l4 l5 l6 l7 : Option Value) (s0 : Value)  (w : px_H) (Q : Option Value → px_H → Prop), wp d 190 168 [l0, l1, l2, l3, l4, l5, l6, l7] [s0] w 0 Q ↔ wp d 190 170 [l0, l1, l2, l3, l4, l5, l6, l7] [.int 8, s0] w 0 Q) ∧
  (∀ (d : Nat) (l0 l1 l2 l3 l4 l5 l6 l7 : Option Value) (x y : Int32) (w : px_H) (Q : Option Value → px_H → Prop), wp d 190 170 [l0, l1, l2, l3, l4, l5, l6, l7] [.int y, .int x] w 0 Q ↔ px_op (if y = 0 then none else some (x - x / y * y)) (fun z => wp d 190 171 [l0, l1, l2, l3, l4, l5, l6, l7] [.int z] w 0 Q)) ∧
  (∀ (d : Nat) (l0 l1 l2 l3 l4 l5 l6 l7 : Option Value) (s0 : Value)  (w : px_H) (Q : Option Value → px_H → Prop), wp d 190 171 [l0, l1, l2, l3, l4, l5, l6, l7] [s0] w 0 Q ↔ wp d 190 176 [l0, l1, l2, l3, l4, l5, l6, l7] [s0] w 0 Q) ∧
  (∀ (d : Nat) (l0 l1 l2 l3 l4 l5 l6 l7 : Option Value)  (w : px_H) (Q : Option Value → px_H → Prop), wp d 190 174 [l0, l1, l2, l3, l4, l5, l6, l7] [] w 0 Q ↔ wp d 190 176 [l0, l1, l2, l3, l4, l5, l6, l7] [.int (-1000000)] w 0 Q) ∧
  (∀ (d : Nat) (l0 l1 l2 l3 l4 l5 l6 l7 : Option Value) (x : Int32) (w : px_H) (Q : Option Value → px_H → Prop), wp d 190 176 [l0, l1, l2, l3, l4, l5, l6, l7] [.int x] w 0 Q ↔ Q (some (.int x)) w) := ⟨fun d v0 v1 w Q => r_entry pt_190 (Nat.le_of_ble_eq_true rfl) rfl,
  fun d l1 l2 l3 l4 l5 l6 l7 a w Q => px_go (q := (.aload_n 0, 1, px_x0)) (S' := (1, [some (.ref a), l1, l2, l3, l4, l5, l6, l7], [.ref a], w, 0)) pt_190 rfl rfl,
  fun d l0 l1 l2 l3 l4 l5 l6 l7 b w Q => r_callV (q := (.invokevirtual 171, 3, (33, 0, [(11, 175)], 0, ""))) pt_190 rfl rfl (List.forall_mem_cons.mpr ⟨⟨_, pt_175, Nat.le_of_ble_eq_true rfl, (Nat.le_of_ble_eq_true rfl), rfl⟩, fun _ h => absurd h List.not_mem_nil⟩),
  fun d l0 l1 l2 l3 l4 l5 l6 l7 x w Q => r_if_ne pt_190 rfl rfl,
  fun d l0 l1 l2 l3 l4 l5 l6 l7 w Q => px_go (q := (.ldc 175, 2, (0, 0, [], (-1000002), ""))) (S' := (9, [l0, l1, l2, l3, l4, l5, l6, l7], [.int (-1000002)], w, 0)) pt_190 rfl rfl,
  fun d l0 l1 l2 l3 l4 l5 l6 l7 x w Q => px_ret (q := (.ireturn, 1, px_x0)) pt_190 rfl rfl,
  fun d l0 l2 l3 l4 l5 l6 l7 x w Q => px_go (q := (.iload_n 1, 1, px_x0)) (S' := (11, [l0, some (.int x), l2, l3, l4, l5, l6, l7], [.int x], w, 0)) pt_190 rfl rfl,
  fun d l0 l1 l2 l3 l4 l5 l6 l7 s0 w Q => r_bipush pt_190 rfl (by decide),
  fun d l0 l1 l2 l3 l4 l5 l6 l7 s0 s1 w Q => r_iconst pt_190 rfl (by decide),
  fun d l0 l1 l2 l3 l4 l5 l6 l7 v0 v1 v2 w Q => r_call (q := (.invokestatic 50, 3, (30, 3, [(0, 140)], 0, ""))) pt_190 rfl rfl pt_140 (Nat.le_of_ble_eq_true rfl) (Nat.le_of_ble_eq_true rfl) rfl,
  fun d l0 l1 l2 l3 l4 l5 l6 l7 x w Q => r_if_ne pt_190 rfl rfl,
  fun d l0 l1 l2 l3 l4 l5 l6 l7 w Q => px_go (q := (.ldc 58, 2, (0, 0, [], (-1000001), ""))) (S' := (22, [l0, l1, l2, l3, l4, l5, l6, l7], [.int (-1000001)], w, 0)) pt_190 rfl rfl,
  fun d l0 l1 l2 l3 l4 l5 l6 l7 x w Q => px_ret (q := (.ireturn, 1, px_x0)) pt_190 rfl rfl,
  fun d l0 l1 l2 l3 l4 l5 l6 l7 w Q => px_go (q := (.ldc 119, 2, (0, 0, [], (-1000000), ""))) (S' := (25, [l0, l1, l2, l3, l4, l5, l6, l7], [.int (-1000000)], w, 0)) pt_190 rfl rfl,
  fun d l0 l1 l2 l3 l4 l5 l6 l7 x w Q => px_go (q := (.istore_n 2, 1, px_x0)) (S' := (26, [l0, l1, some (.int x), l3, l4, l5, l6, l7], [], w, 0)) pt_190 rfl rfl,
  fun d l0 l1 l2 l3 l4 l5 l6 l7 w Q => px_go (q := (.ldc 119, 2, (0, 0, [], (-1000000), ""))) (S' := (28, [l0, l1, l2, l3, l4, l5, l6, l7], [.int (-1000000)], w, 0)) pt_190 rfl rfl,
  fun d l0 l1 l2 l3 l4 l5 l6 l7 x w Q => px_go (q := (.istore_n 3, 1, px_x0)) (S' := (29, [l0, l1, l2, some (.int x), l4, l5, l6, l7], [], w, 0)) pt_190 rfl rfl,
  fun d l0 l1 l2 l3 l4 l5 l6 l7 w Q => r_iconst pt_190 rfl (by decide),
  fun d l0 l1 l2 l3 l4 l5 l6 l7 x w Q => px_go (q := (.istore 4, 2, px_x0)) (S' := (32, [l0, l1, l2, l3, some (.int x), l5, l6, l7], [], w, 0)) pt_190 rfl rfl,
  fun d l0 l1 l2 l3 l4 l5 l6 l7 w Q => r_iconst pt_190 rfl (by decide),
  fun d l0 l1 l2 l3 l4 l5 l6 l7 x w Q => px_go (q := (.istore 5, 2, px_x0)) (S' := (35, [l0, l1, l2, l3, l4, some (.int x), l6, l7], [], w, 0)) pt_190 rfl rfl,
  fun d l0 l1 l2 l3 l4 l5 l6 l7 w Q => r_iconst pt_190 rfl (by decide),
  fun d l0 l1 l2 l3 l4 l5 l6 l7 x w Q => px_go (q := (.istore 6, 2, px_x0)) (S' := (38, [l0, l1, l2, l3, l4, l5, some (.int x), l7], [], w, 0)) pt_190 rfl rfl,
  fun d l0 l1 l2 l3 l4 l5 l6 l7 s0 w Q => r_iconst pt_190 rfl (by decide),
  fun d l0 l1 l2 l3 l4 l5 l6 l7 x y w Q => r_icmp_gt pt_190 rfl rfl,
  fun d l0 l1 l2 l3 l4 l5 l6 l7 w Q => r_iconst pt_190 rfl (by decide),
  fun d l0 l1 l2 l3 l4 l5 l6 l7 x w Q => px_go (q := (.istore 7, 2, px_x0)) (S' := (47, [l0, l1, l2, l3, l4, l5, l6, some (.int x)], [], w, 0)) pt_190 rfl rfl,
  fun d l0 l1 l2 l3 l4 l6 l7 s0 x w Q => px_go (q := (.iload 5, 2, px_x0)) (S' := (51, [l0, l1, l2, l3, l4, some (.int x), l6, l7], [.int x, s0], w, 0)) pt_190 rfl rfl,
  fun d l0 l1 l2 l3 l4 l5 l6 l7 x y w Q => r_icmp_ge pt_190 rfl rfl,
  fun d l1 l2 l3 l4 l5 l6 l7 a w Q => px_go (q := (.aload_n 0, 1, px_x0)) (S' := (55, [some (.ref a), l1, l2, l3, l4, l5, l6, l7], [.ref a], w, 0)) pt_190 rfl rfl,
  fun d l0 l1 l2 l3 l4 l5 l6 s0 x w Q => px_go (q := (.iload 7, 2, px_x0)) (S' := (57, [l0, l1, l2, l3, l4, l5, l6, some (.int x)], [.int x, s0], w, 0)) pt_190 rfl rfl,
  fun d l0 l1 l2 l3 l4 l5 l7 s0 s1 x w Q => px_go (q := (.iload 6, 2, px_x0)) (S' := (59, [l0, l1, l2, l3, l4, l5, some (.int x), l7], [.int x, s0, s1], w, 0)) pt_190 rfl rfl,
  fun d l0 l1 l2 l3 l4 l5 l6 l7 v0 v1 b w Q => r_callV (q := (.invokevirtual 191, 3, (33, 2, [(11, 189)], 0, ""))) pt_190 rfl rfl (List.forall_mem_cons.mpr ⟨⟨_, pt_189, Nat.le_of_ble_eq_true rfl, (Nat.le_of_ble_eq_true rfl), rfl⟩, fun _ h => absurd h List.not_mem_nil⟩),
  fun d l0 l1 l2 l3 l4 l5 l6 l7 x w Q => r_if_eq pt_190 rfl rfl,
  fun d l0 l1 l2 l4 l5 l6 l7 x w Q => px_go (q := (.iload_n 3, 1, px_x0)) (S' := (66, [l0, l1, l2, some (.int x), l4, l5, l6, l7], [.int x], w, 0)) pt_190 rfl rfl,
  fun d l0 l1 l2 l3 l4 l5 l6 l7 s0 w Q => px_go (q := (.ldc 119, 2, (0, 0, [], (-1000000), ""))) (S' := (68, [l0, l1, l2, l3, l4, l5, l6, l7], [.int (-1000000), s0], w, 0)) pt_190 rfl rfl,
  fun d l0 l1 l2 l3 l4 l5 l6 l7 x y w Q => r_icmp_eq pt_190 rfl rfl,
  fun d l1 l2 l3 l4 l5 l6 l7 a w Q => px_go (q := (.aload_n 0, 1, px_x0)) (S' := (72, [some (.ref a), l1, l2, l3, l4, l5, l6, l7], [.ref a], w, 0)) pt_190 rfl rfl,
  fun d l0 l1 l2 l3 l4 l5 l6 l7 a w Q => px_goO (q := (.getfield 188, 3, (10, 20, [(11, 0)], 0, "AllSwornModel"))) (S' := fun v => (75, [l0, l1, l2, l3, l4, l5, l6, l7], [v], w, 0)) pt_190 rfl rfl,
  fun d l0 l1 l3 l4 l5 l6 l7 s0 x w Q => px_go (q := (.iload_n 2, 1, px_x0)) (S' := (76, [l0, l1, some (.int x), l3, l4, l5, l6, l7], [.int x, s0], w, 0)) pt_190 rfl rfl,
  fun d l0 l1 l2 l3 l4 l5 l6 l7 x y w Q => r_icmp_ge pt_190 rfl rfl,
  fun d l0 l1 l2 l3 l4 l5 l6 x w Q => px_go (q := (.iload 7, 2, px_x0)) (S' := (81, [l0, l1, l2, l3, l4, l5, l6, some (.int x)], [.int x], w, 0)) pt_190 rfl rfl,
  fun d l0 l1 l2 l3 l4 l5 l6 l7 x w Q => px_go (q := (.istore_n 3, 1, px_x0)) (S' := (82, [l0, l1, l2, some (.int x), l4, l5, l6, l7], [], w, 0)) pt_190 rfl rfl,
  fun d l0 l1 l2 l3 l4 l5 l7 x w Q => px_go (q := (.iload 6, 2, px_x0)) (S' := (84, [l0, l1, l2, l3, l4, l5, some (.int x), l7], [.int x], w, 0)) pt_190 rfl rfl,
  fun d l0 l1 l2 l3 l4 l5 l6 l7 x w Q => px_go (q := (.istore 4, 2, px_x0)) (S' := (86, [l0, l1, l2, l3, some (.int x), l5, l6, l7], [], w, 0)) pt_190 rfl rfl,
  fun d l1 l2 l3 l4 l5 l6 l7 a w Q => px_go (q := (.aload_n 0, 1, px_x0)) (S' := (87, [some (.ref a), l1, l2, l3, l4, l5, l6, l7], [.ref a], w, 0)) pt_190 rfl rfl,
  fun d l0 l1 l2 l3 l4 l5 l6 l7 a w Q => px_goO (q := (.getfield 188, 3, (10, 20, [(11, 0)], 0, "AllSwornModel"))) (S' := fun v => (90, [l0, l1, l2, l3, l4, l5, l6, l7], [v], w, 0)) pt_190 rfl rfl,
  fun d l0 l1 l2 l3 l4 l5 l6 l7 x w Q => px_go (q := (.istore_n 2, 1, px_x0)) (S' := (91, [l0, l1, some (.int x), l3, l4, l5, l6, l7], [], w, 0)) pt_190 rfl rfl,
  fun d l0 l1 l2 l3 l4 l5 l6 x w Q => r_iinc pt_190 rfl rfl (by decide) rfl,
  fun d l0 l1 l2 l3 l4 l5 l6 l7 w Q => r_goto pt_190 rfl rfl,
  fun d l0 l1 l2 l3 l4 l6 l7 x w Q => px_go (q := (.iload 5, 2, px_x0)) (S' := (99, [l0, l1, l2, l3, l4, some (.int x), l6, l7], [.int x], w, 0)) pt_190 rfl rfl,
  fun d l0 l1 l2 l3 l4 l5 l6 l7 s0 w Q => r_bipush pt_190 rfl (by decide),
  fun d l0 l1 l2 l3 l4 l5 l6 l7 x y w Q => px_go (q := (.imul, 1, px_x0)) (S' := (102, [l0, l1, l2, l3, l4, l5, l6, l7], [.int (x * y)], w, 0)) pt_190 rfl rfl,
  fun d l0 l1 l2 l3 l4 l5 l6 l7 x w Q => px_go (q := (.istore 5, 2, px_x0)) (S' := (104, [l0, l1, l2, l3, l4, some (.int x), l6, l7], [], w, 0)) pt_190 rfl rfl,
  fun d l0 l1 l2 l3 l4 l5 l7 x w Q => r_iinc pt_190 rfl rfl (by decide) rfl,
  fun d l0 l1 l2 l3 l4 l5 l6 l7 w Q => r_goto pt_190 rfl rfl,
  fun d l0 l1 l2 l4 l5 l6 l7 x w Q => px_go (q := (.iload_n 3, 1, px_x0)) (S' := (111, [l0, l1, l2, some (.int x), l4, l5, l6, l7], [.int x], w, 0)) pt_190 rfl rfl,
  fun d l0 l1 l2 l3 l4 l5 l6 l7 s0 w Q => px_go (q := (.ldc 119, 2, (0, 0, [], (-1000000), ""))) (S' := (113, [l0, l1, l2, l3, l4, l5, l6, l7], [.int (-1000000), s0], w, 0)) pt_190 rfl rfl,
  fun d l0 l1 l2 l3 l4 l5 l6 l7 x y w Q => r_icmp_eq pt_190 rfl rfl,
  fun d l0 l2 l3 l4 l5 l6 l7 x w Q => px_go (q := (.iload_n 1, 1, px_x0)) (S' := (117, [l0, some (.int x), l2, l3, l4, l5, l6, l7], [.int x], w, 0)) pt_190 rfl rfl,
  fun d l0 l1 l2 l3 l4 l5 l6 l7 s0 w Q => r_bipush pt_190 rfl (by decide),
  fun d l0 l1 l2 l3 l4 l5 l6 l7 x y w Q => r_icmp_ne pt_190 rfl rfl,
  fun d l0 l1 l3 l4 l5 l6 l7 x w Q => px_go (q := (.iload_n 2, 1, px_x0)) (S' := (123, [l0, l1, some (.int x), l3, l4, l5, l6, l7], [.int x], w, 0)) pt_190 rfl rfl,
  fun d l0 l1 l2 l3 l4 l5 l6 l7 x w Q => px_ret (q := (.ireturn, 1, px_x0)) pt_190 rfl rfl,
  fun d l0 l2 l3 l4 l5 l6 l7 x w Q => px_go (q := (.iload_n 1, 1, px_x0)) (S' := (125, [l0, some (.int x), l2, l3, l4, l5, l6, l7], [.int x], w, 0)) pt_190 rfl rfl,
  fun d l0 l1 l2 l3 l4 l5 l6 l7 s0 w Q => r_iconst pt_190 rfl (by decide),
  fun d l0 l1 l2 l3 l4 l5 l6 l7 x y w Q => r_icmp_ne pt_190 rfl rfl,
  fun d l0 l1 l2 l3 l5 l6 l7 x w Q => px_go (q := (.iload 4, 2, px_x0)) (S' := (131, [l0, l1, l2, l3, some (.int x), l5, l6, l7], [.int x], w, 0)) pt_190 rfl rfl,
  fun d l0 l1 l2 l3 l4 l5 l6 l7 x w Q => px_ret (q := (.ireturn, 1, px_x0)) pt_190 rfl rfl,
  fun d l0 l1 l2 l4 l5 l6 l7 x w Q => px_go (q := (.iload_n 3, 1, px_x0)) (S' := (133, [l0, l1, l2, some (.int x), l4, l5, l6, l7], [.int x], w, 0)) pt_190 rfl rfl,
  fun d l0 l1 l2 l3 l4 l5 l6 l7 x w Q => px_go (q := (.istore 6, 2, px_x0)) (S' := (135, [l0, l1, l2, l3, l4, l5, some (.int x), l7], [], w, 0)) pt_190 rfl rfl,
  fun d l0 l1 l2 l3 l5 l6 l7 x w Q => px_go (q := (.iload 4, 2, px_x0)) (S' := (137, [l0, l1, l2, l3, some (.int x), l5, l6, l7], [.int x], w, 0)) pt_190 rfl rfl,
  fun d l0 l1 l2 l3 l4 l5 l6 l7 s0 w Q => r_iconst pt_190 rfl (by decide),
  fun d l0 l1 l2 l3 l4 l5 l6 l7 x y w Q => px_go (q := (.isub, 1, px_x0)) (S' := (139, [l0, l1, l2, l3, l4, l5, l6, l7], [.int (x - y)], w, 0)) pt_190 rfl rfl,
  fun d l0 l1 l2 l3 l4 l5 l6 l7 x w Q => px_go (q := (.istore 7, 2, px_x0)) (S' := (141, [l0, l1, l2, l3, l4, l5, l6, some (.int x)], [], w, 0)) pt_190 rfl rfl,
  fun d l0 l2 l3 l4 l5 l6 l7 s0 x w Q => px_go (q := (.iload_n 1, 1, px_x0)) (S' := (144, [l0, some (.int x), l2, l3, l4, l5, l6, l7], [.int x, s0], w, 0)) pt_190 rfl rfl,
  fun d l0 l1 l2 l3 l4 l5 l6 l7 x y w Q => r_icmp_le pt_190 rfl rfl,
  fun d l0 l1 l2 l3 l4 l5 l7 x w Q => px_go (q := (.iload 6, 2, px_x0)) (S' := (149, [l0, l1, l2, l3, l4, l5, some (.int x), l7], [.int x], w, 0)) pt_190 rfl rfl,
  fun d l0 l1 l2 l3 l4 l5 l6 l7 s0 w Q => r_bipush pt_190 rfl (by decide),
  fun d l0 l1 l2 l3 l4 l5 l6 l7 x y w Q => px_goO (q := (.idiv, 1, px_x0)) (S' := fun z => (152, [l0, l1, l2, l3, l4, l5, l6, l7], [.int z], w, 0)) pt_190 rfl rfl,
  fun d l0 l1 l2 l3 l4 l5 l6 l7 x w Q => px_go (q := (.istore 6, 2, px_x0)) (S' := (154, [l0, l1, l2, l3, l4, l5, some (.int x), l7], [], w, 0)) pt_190 rfl rfl,
  fun d l0 l1 l2 l3 l4 l5 l6 x w Q => r_iinc pt_190 rfl rfl (by decide) rfl,
  fun d l0 l1 l2 l3 l4 l5 l6 l7 w Q => r_goto pt_190 rfl rfl,
  fun d l0 l2 l3 l4 l5 l6 l7 x w Q => px_go (q := (.iload_n 1, 1, px_x0)) (S' := (161, [l0, some (.int x), l2, l3, l4, l5, l6, l7], [.int x], w, 0)) pt_190 rfl rfl,
  fun d l0 l1 l2 l3 l5 l6 l7 s0 x w Q => px_go (q := (.iload 4, 2, px_x0)) (S' := (163, [l0, l1, l2, l3, some (.int x), l5, l6, l7], [.int x, s0], w, 0)) pt_190 rfl rfl,
  fun d l0 l1 l2 l3 l4 l5 l6 l7 x y w Q => r_icmp_ge pt_190 rfl rfl,
  fun d l0 l1 l2 l3 l4 l5 l7 x w Q => px_go (q := (.iload 6, 2, px_x0)) (S' := (168, [l0, l1, l2, l3, l4, l5, some (.int x), l7], [.int x], w, 0)) pt_190 rfl rfl,
  fun d l0 l1 l2 l3 l4 l5 l6 l7 s0 w Q => r_bipush pt_190 rfl (by decide),
  fun d l0 l1 l2 l3 l4 l5 l6 l7 x y w Q => px_goO (q := (.irem, 1, px_x0)) (S' := fun z => (171, [l0, l1, l2, l3, l4, l5, l6, l7], [.int z], w, 0)) pt_190 rfl rfl,
  fun d l0 l1 l2 l3 l4 l5 l6 l7 s0 w Q => r_goto pt_190 rfl rfl,
  fun d l0 l1 l2 l3 l4 l5 l6 l7 w Q => px_go (q := (.ldc 119, 2, (0, 0, [], (-1000000), ""))) (S' := (176, [l0, l1, l2, l3, l4, l5, l6, l7], [.int (-1000000)], w, 0)) pt_190 rfl rfl,
  fun d l0 l1 l2 l3 l4 l5 l6 l7 x w Q => px_ret (q := (.ireturn, 1, px_x0)) pt_190 rfl rfl⟩
theorem H190_38 : ∀ (d : Nat) (l0 l1 l2 l3 l4 l5 l7 : Option Value) (x : Int32) (w : px_H) (Q : Option Value → px_H → Prop), wp d 190 38 [l0, l1, l2, l3, l4, l5, some (.int x), l7] [] w 0 Q ↔ wp d 190 40 [l0, l1, l2, l3, l4, l5, some (.int x), l7] [.int x] w 0 Q := fun d l0 l1 l2 l3 l4 l5 l7 x w Q => px_go (q := (.iload 6, 2, px_x0)) (S' := (40, [l0, l1, l2, l3, l4, l5, some (.int x), l7], [.int x], w, 0)) pt_190 rfl rfl
theorem H190_47 : ∀ (d : Nat) (l0 l1 l2 l3 l4 l5 l6 : Option Value) (x : Int32) (w : px_H) (Q : Option Value → px_H → Prop), wp d 190 47 [l0, l1, l2, l3, l4, l5, l6, some (.int x)] [] w 0 Q ↔ wp d 190 49 [l0, l1, l2, l3, l4, l5, l6, some (.int x)] [.int x] w 0 Q := fun d l0 l1 l2 l3 l4 l5 l6 x w Q => px_go (q := (.iload 7, 2, px_x0)) (S' := (49, [l0, l1, l2, l3, l4, l5, l6, some (.int x)], [.int x], w, 0)) pt_190 rfl rfl
theorem H190_141 : ∀ (d : Nat) (l0 l1 l2 l3 l4 l5 l6 : Option Value) (x : Int32) (w : px_H) (Q : Option Value → px_H → Prop), wp d 190 141 [l0, l1, l2, l3, l4, l5, l6, some (.int x)] [] w 0 Q ↔ wp d 190 143 [l0, l1, l2, l3, l4, l5, l6, some (.int x)] [.int x] w 0 Q := fun d l0 l1 l2 l3 l4 l5 l6 x w Q => px_go (q := (.iload 7, 2, px_x0)) (S' := (143, [l0, l1, l2, l3, l4, l5, l6, some (.int x)], [.int x], w, 0)) pt_190 rfl rfl
/-- AllSwornModel.cheapestOf(I)I heads: [12] -/
theorem S191 : (∀ (d : Nat) (v0 v1 : Value) (w : px_H) (Q : Option Value → px_H → Prop), wc d 191 [v0, v1] w Q ↔ wp d 191 0 [some v0, some v1, none, none, none, none] [] w 0 Q) ∧
  (∀ (d : Nat) (l1 l2 l3 l4 l5 : Option Value) (a : Nat) (w : px_H) (Q : Option Value → px_H → Prop), wp d 191 0 [some (.ref a), l1, l2, l3, l4, l5] [] w 0 Q ↔ wp d 191 1 [some (.ref a), l1, l2, l3, l4, l5] [.ref a] w 0 Q) ∧
  (∀ (d : Nat) (l0 l2 l3 l4 l5 : Option Value) (s0 : Value) (x : Int32) (w : px_H) (Q : Option Value → px_H → Prop), wp d 191 1 [l0, some (.int x), l2, l3, l4, l5] [s0] w 0 Q ↔ wp d 191 2 [l0, some (.int x), l2, l3, l4, l5] [.int x, s0] w 0 Q) ∧
  (∀ (d : Nat) (l0 l1 l2 l3 l4 l5 : Option Value) (v0 : Value) (b : Nat) (w : px_H) (Q : Option Value → px_H → Prop), wp (d + 1) 191 2 [l0, l1, l2, l3, l4, l5] [v0, .ref b] w 0 Q ↔ px_op (px_tgt w b [(11, 170)]) (fun v => wc d v [.ref b, v0] w (fun r w' => wp (d + 1) 191 5 [l0, l1, l2, l3, l4, l5] (r.toList ++ []) w' 0 Q))) ∧
  (∀ (d : Nat) (l0 l1 l2 l3 l4 l5 : Option Value) (x : Int32) (w : px_H) (Q : Option Value → px_H → Prop), wp d 191 5 [l0, l1, l2, l3, l4, l5] [.int x] w 0 Q ↔ wp d 191 6 [l0, l1, some (.int x), l3, l4, l5] [] w 0 Q) ∧
  (∀ (d : Nat) (l0 l1 l2 l3 l4 l5 : Option Value)  (w : px_H) (Q : Option Value → px_H → Prop), wp d 191 6 [l0, l1, l2, l3, l4, l5] [] w 0 Q ↔ wp d 191 8 [l0, l1, l2, l3, l4, l5] [.int (-1000000)] w 0 Q) ∧
  (∀ (d : Nat) (l0 l1 l2 l3 l4 l5 : Option Value) (x : Int32) (w : px_H) (Q : Option Value → px_H → Prop), wp d 191 8 [l0, l1, l2, l3, l4, l5] [.int x] w 0 Q ↔ wp d 191 9 [l0, l1, l2, some (.int x), l4, l5] [] w 0 Q) ∧
  (∀ (d : Nat) (l0 l1 l2 l3 l4 l5 : Option Value)  (w : px_H) (Q : Option Value → px_H → Prop), wp d 191 9 [l0, l1, l2, l3, l4, l5] [] w 0 Q ↔ wp d 191 10 [l0, l1, l2, l3, l4, l5] [.int 0] w 0 Q) ∧
  (∀ (d : Nat) (l0 l1 l2 l3 l4 l5 : Option Value) (x : Int32) (w : px_H) (Q : Option Value → px_H → Prop), wp d 191 10 [l0, l1, l2, l3, l4, l5] [.int x] w 0 Q ↔ wp d 191 12 [l0, l1, l2, l3, some (.int x), l5] [] w 0 Q) ∧
  (∀ (d : Nat) (l1 l2 l3 l4 l5 : Option Value) (s0 : Value) (a : Nat) (w : px_H) (Q : Option Value → px_H → Prop), wp d 191 14 [some (.ref a), l1, l2, l3, l4, l5] [s0] w 0 Q ↔ wp d 191 15 [some (.ref a), l1, l2, l3, l4, l5] [.ref a, s0] w 0 Q) ∧
  (∀ (d : Nat) (l0 l1 l2 l3 l4 l5 : Option Value) (s0 s1 : Value)  (w : px_H) (Q : Option Value → px_H → Prop), wp d 191 15 [l0, l1, l2, l3, l4, l5] [s0, s1] w 0 Q ↔ wp d 191 16 [l0, l1, l2, l3, l4, l5] [.int 2, s0, s1] w 0 Q) ∧
  (∀ (d : Nat) (l0 l1 l2 l3 l4 l5 : Option Value) (s2 : Value) (v0 : Value) (b : Nat) (w : px_H) (Q : Option Value → px_H → Prop), wp (d + 1) 191 16 [l0, l1, l2, l3, l4, l5] [v0, .ref b, s2] w 0 Q ↔ px_op (px_tgt w b [(11, 149)]) (fun v => wc d v [.ref b, v0] w (fun r w' => wp (d + 1) 191 19 [l0, l1, l2, l3, l4, l5] (r.toList ++ [s2]) w' 0 Q))) ∧
  (∀ (d : Nat) (l0 l1 l2 l3 l4 l5 : Option Value) (x y : Int32) (w : px_H) (Q : Option Value → px_H → Prop), wp d 191 19 [l0, l1, l2, l3, l4, l5] [.int y, .int x] w 0 Q ↔ if y ≤ x then wp d 191 91 [l0, l1, l2, l3, l4, l5] [] w 0 Q else wp d 191 22 [l0, l1, l2, l3, l4, l5] [] w 0 Q) ∧
  (∀ (d : Nat) (l0 l1 l2 l4 l5 : Option Value) (x : Int32) (w : px_H) (Q : Option Value → px_H → Prop), wp d 191 22 [l0, l1, l2, some (.int x), l4, l5] [] w 0 Q ↔ wp d 191 23 [l0, l1, l2, some (.int x), l4, l5] [.int x] w 0 Q) ∧
  (∀ (d : Nat) (l0 l1 l2 l3 l4 l5 : Option Value) (s0 : Value)  (w : px_H) (Q : Option Value → px_H → Prop), wp d 191 23 [l0, l1, l2, l3, l4, l5] [s0] w 0 Q ↔ wp d 191 25 [l0, l1, l2, l3, l4, l5] [.int (-1000000), s0] w 0 Q) ∧
  (∀ (d : Nat) (l0 l1 l2 l3 l4 l5 : Option Value) (x y : Int32) (w : px_H) (Q : Option Value → px_H → Prop), wp d 191 25 [l0, l1, l2, l3, l4, l5] [.int y, .int x] w 0 Q ↔ if x = y then wp d 191 56 [l0, l1, l2, l3, l4, l5] [] w 0 Q else wp d 191 28 [l0, l1, l2, l3, l4, l5] [] w 0 Q) ∧
  (∀ (d : Nat) (l1 l2 l3 l4 l5 : Option Value) (a : Nat) (w : px_H) (Q : Option Value → px_H → Prop), wp d 191 28 [some (.ref a), l1, l2, l3, l4, l5] [] w 0 Q ↔ wp d 191 29 [some (.ref a), l1, l2, l3, l4, l5] [.ref a] w 0 Q) ∧
  (∀ (d : Nat) (l1 l2 l3 l4 l5 : Option Value) (s0 : Value) (a : Nat) (w : px_H) (Q : Option Value → px_H → Prop), wp d 191 29 [some (.ref a), l1, l2, l3, l4, l5] [s0] w 0 Q ↔ wp d 191 30 [some (.ref a), l1, l2, l3, l4, l5] [.ref a, s0] w 0 Q) ∧
  (∀ (d : Nat) (l0 l1 l2 l3 l4 l5 : Option Value) (s0 s1 : Value)  (w : px_H) (Q : Option Value → px_H → Prop), wp d 191 30 [l0, l1, l2, l3, l4, l5] [s0, s1] w 0 Q ↔ wp d 191 32 [l0, l1, l2, l3, l4, l5] [.int 37, s0, s1] w 0 Q) ∧
  (∀ (d : Nat) (l0 l1 l2 l3 l5 : Option Value) (s0 s1 s2 : Value) (x : Int32) (w : px_H) (Q : Option Value → px_H → Prop), wp d 191 32 [l0, l1, l2, l3, some (.int x), l5] [s0, s1, s2] w 0 Q ↔ wp d 191 34 [l0, l1, l2, l3, some (.int x), l5] [.int x, s0, s1, s2] w 0 Q) ∧
  (∀ (d : Nat) (l0 l1 l2 l3 l4 l5 : Option Value) (s2 s3 : Value) (x y : Int32) (w : px_H) (Q : Option Value → px_H → Prop), wp d 191 34 [l0, l1, l2, l3, l4, l5] [.int y, .int x, s2, s3] w 0 Q ↔ wp d 191 35 [l0, l1, l2, l3, l4, l5] [.int (x + y), s2, s3] w 0 Q) ∧
  (∀ (d : Nat) (l0 l1 l2 l3 l4 l5 : Option Value) (s2 : Value) (v0 : Value) (b : Nat) (w : px_H) (Q : Option Value → px_H → Prop), wp (d + 1) 191 35 [l0, l1, l2, l3, l4, l5] [v0, .ref b, s2] w 0 Q ↔ px_op (px_tgt w b [(11, 149)]) (fun v => wc d v [.ref b, v0] w (fun r w' => wp (d + 1) 191 38 [l0, l1, l2, l3, l4, l5] (r.toList ++ [s2]) w' 0 Q))) ∧
  (∀ (d : Nat) (l0 l1 l2 l3 l4 l5 : Option Value) (v0 : Value) (b : Nat) (w : px_H) (Q : Option Value → px_H → Prop), wp (d + 1) 191 38 [l0, l1, l2, l3, l4, l5] [v0, .ref b] w 0 Q ↔ px_op (px_tgt w b [(11, 180)]) (fun v => wc d v [.ref b, v0] w (fun r w' => wp (d + 1) 191 41 [l0, l1, l2, l3, l4, l5] (r.toList ++ []) w' 0 Q))) ∧
  (∀ (d : Nat) (l1 l2 l3 l4 l5 : Option Value) (s0 : Value) (a : Nat) (w : px_H) (Q : Option Value → px_H → Prop), wp d 191 41 [some (.ref a), l1, l2, l3, l4, l5] [s0] w 0 Q ↔ wp d 191 42 [some (.ref a), l1, l2, l3, l4, l5] [.ref a, s0] w 0 Q) ∧
  (∀ (d : Nat) (l1 l2 l3 l4 l5 : Option Value) (s0 s1 : Value) (a : Nat) (w : px_H) (Q : Option Value → px_H → Prop), wp d 191 42 [some (.ref a), l1, l2, l3, l4, l5] [s0, s1] w 0 Q ↔ wp d 191 43 [some (.ref a), l1, l2, l3, l4, l5] [.ref a, s0, s1] w 0 Q) ∧
  (∀ (d : Nat) (l0 l1 l2 l3 l4 l5 : Option Value) (s0 s1 s2 : Value)  (w : px_H) (Q : Option Value → px_H → Prop), wp d 191 43 [l0, l1, l2, l3, l4, l5] [s0, s1, s2] w 0 Q ↔ wp d 191 45 [l0, l1, l2, l3, l4, l5] [.int 37, s0, s1, s2] w 0 Q) ∧
  (∀ (d : Nat) (l0 l1 l2 l4 l5 : Option Value) (s0 s1 s2 s3 : Value) (x : Int32) (w : px_H) (Q : Option Value → px_H → Prop), wp d 191 45 [l0, l1, l2, some (.int x), l4, l5] [s0, s1, s2, s3] w 0 Q ↔ wp d 191 46 [l0, l1, l2, some (.int x), l4, l5] [.int x, s0, s1, s2, s3] w 0 Q) ∧
  (∀ (d : Nat) (l0 l1 l2 l3 l4 l5 : Option Value) (s2 s3 s4 : Value) (x y : Int32) (w : px_H) (Q : Option Value → px_H → Prop), wp d 191 46 [l0, l1, l2, l3, l4, l5] [.int y, .int x, s2, s3, s4] w 0 Q ↔ wp d 191 47 [l0, l1, l2, l3, l4, l5] [.int (x + y), s2, s3, s4] w 0 Q) ∧
  (∀ (d : Nat) (l0 l1 l2 l3 l4 l5 : Option Value) (s2 s3 : Value) (v0 : Value) (b : Nat) (w : px_H) (Q : Option Value → px_H → Prop), wp (d + 1) 191 47 [l0, l1, l2, l3, l4, l5] [v0, .ref b, s2, s3] w 0 Q ↔ px_op (px_tgt w b [(11, 149)]) (fun v => wc d v [.ref b, v0] w (fun r w' => wp (d + 1) 191 50 [l0, l1, l2, l3, l4, l5] (r.toList ++ [s2, s3]) w' 0 Q))) ∧
  (∀ (d : Nat) (l0 l1 l2 l3 l4 l5 : Option Value) (s2 : Value) (v0 : Value) (b : Nat) (w : px_H) (Q : Option Value → px_H → Prop), wp (d + 1) 191 50 [l0, l1, l2, l3, l4, l5] [v0, .ref b, s2] w 0 Q ↔ px_op (px_tgt w b [(11, 180)]) (fun v => wc d v [.ref b, v0] w (fun r w' => wp (d + 1) 191 53 [l0, l1, l2, l3, l4, l5] (r.toList ++ [s2]) w' 0 Q))) ∧
  (∀ (d : Nat) (l0 l1 l2 l3 l4 l5 : Option Value) (x y : Int32) (w : px_H) (Q : Option Value → px_H → Prop), wp d 191 53 [l0, l1, l2, l3, l4, l5] [.int y, .int x] w 0 Q ↔ if y ≤ x then wp d 191 60 [l0, l1, l2, l3, l4, l5] [] w 0 Q else wp d 191 56 [l0, l1, l2, l3, l4, l5] [] w 0 Q) ∧
  (∀ (d : Nat) (l0 l1 l2 l3 l4 l5 : Option Value)  (w : px_H) (Q : Option Value → px_H → Prop), wp d 191 56 [l0, l1, l2, l3, l4, l5] [] w 0 Q ↔ wp d 191 57 [l0, l1, l2, l3, l4, l5] [.int 1] w 0 Q) ∧
  (∀ (d : Nat) (l0 l1 l2 l3 l4 l5 : Option Value) (s0 : Value)  (w : px_H) (Q : Option Value → px_H → Prop), wp d 191 57 [l0, l1, l2, l3, l4, l5] [s0] w 0 Q ↔ wp d 191 61 [l0, l1, l2, l3, l4, l5] [s0] w 0 Q) ∧
  (∀ (d : Nat) (l0 l1 l2 l3 l4 l5 : Option Value)  (w : px_H) (Q : Option Value → px_H → Prop), wp d 191 60 [l0, l1, l2, l3, l4, l5] [] w 0 Q ↔ wp d 191 61 [l0, l1, l2, l3, l4, l5] [.int 0] w 0 Q) ∧
  (∀ (d : Nat) (l0 l1 l2 l3 l4 l5 : Option Value) (x : Int32) (w : px_H) (Q : Option Value → px_H → Prop), wp d 191 61 [l0, l1, l2, l3, l4, l5] [.int x] w 0 Q ↔ wp d 191 63 [l0, l1, l2, l3, l4, some (.int x)] [] w 0 Q) ∧
  (∀ (d : Nat) (l0 l1 l3 l4 l5 : Option Value) (x : Int32) (w : px_H) (Q : Option Value → px_H → Prop), wp d 191 63 [l0, l1, some (.int x), l3, l4, l5] [] w 0 Q ↔ wp d 191 64 [l0, l1, some (.int x), l3, l4, l5] [.int x] w 0 Q) ∧
  (∀ (d : Nat) (l0 l1 l2 l3 l5 : Option Value) (s0 : Value) (x : Int32) (w : px_H) (Q : Option Value → px_H → Prop), wp d 191 64 [l0, l1, l2, l3, some (.int x), l5] [s0] w 0 Q ↔ wp d 191 66 [l0, l1, l2, l3, some (.int x), l5] [.int x, s0] w 0 Q) ∧
  (∀ (d : Nat) (l0 l1 l2 l3 l4 l5 : Option Value) (x y : Int32) (w : px_H) (Q : Option Value → px_H → Prop), wp d 191 66 [l0, l1, l2, l3, l4, l5] [.int y, .int x] w 0 Q ↔ wp d 191 67 [l0, l1, l2, l3, l4, l5] [.int (x >>> (y &&& 31))] w 0 Q) ∧
  (∀ (d : Nat) (l0 l1 l2 l3 l4 l5 : Option Value) (s0 : Value)  (w : px_H) (Q : Option Value → px_H → Prop), wp d 191 67 [l0, l1, l2, l3, l4, l5] [s0] w 0 Q ↔ wp d 191 68 [l0, l1, l2, l3, l4, l5] [.int 1, s0] w 0 Q) ∧
  (∀ (d : Nat) (l0 l1 l2 l3 l4 l5 : Option Value) (x y : Int32) (w : px_H) (Q : Option Value → px_H → Prop), wp d 191 68 [l0, l1, l2, l3, l4, l5] [.int y, .int x] w 0 Q ↔ wp d 191 69 [l0, l1, l2, l3, l4, l5] [.int (x &&& y)] w 0 Q) ∧
  (∀ (d : Nat) (l0 l1 l2 l3 l4 l5 : Option Value) (s0 : Value)  (w : px_H) (Q : Option Value → px_H → Prop), wp d 191 69 [l0, l1, l2, l3, l4, l5] [s0] w 0 Q ↔ wp d 191 70 [l0, l1, l2, l3, l4, l5] [.int 1, s0] w 0 Q) ∧
  (∀ (d : Nat) (l0 l1 l2 l3 l4 l5 : Option Value) (x y : Int32) (w : px_H) (Q : Option Value → px_H → Prop), wp d 191 70 [l0, l1, l2, l3, l4, l5] [.int y, .int x] w 0 Q ↔ if x = y then wp d 191 73 [l0, l1, l2, l3, l4, l5] [] w 0 Q else wp d 191 83 [l0, l1, l2, l3, l4, l5] [] w 0 Q) ∧
  (∀ (d : Nat) (l0 l1 l2 l3 l4 : Option Value) (x : Int32) (w : px_H) (Q : Option Value → px_H → Prop), wp d 191 73 [l0, l1, l2, l3, l4, some (.int x)] [] w 0 Q ↔ wp d 191 75 [l0, l1, l2, l3, l4, some (.int x)] [.int x] w 0 Q) ∧
  (∀ (d : Nat) (l0 l1 l2 l3 l4 l5 : Option Value) (x : Int32) (w : px_H) (Q : Option Value → px_H → Prop), wp d 191 75 [l0, l1, l2, l3, l4, l5] [.int x] w 0 Q ↔ if x = 0 then wp d 191 83 [l0, l1, l2, l3, l4, l5] [] w 0 Q else wp d 191 78 [l0, l1, l2, l3, l4, l5] [] w 0 Q) ∧
  (∀ (d : Nat) (l0 l1 l2 l3 l5 : Option Value) (x : Int32) (w : px_H) (Q : Option Value → px_H → Prop), wp d 191 78 [l0, l1, l2, l3, some (.int x), l5] [] w 0 Q ↔ wp d 191 80 [l0, l1, l2, l3, some (.int x), l5] [.int x] w 0 Q) ∧
  (∀ (d : Nat) (l0 l1 l2 l3 l4 l5 : Option Value) (s0 : Value)  (w : px_H) (Q : Option Value → px_H → Prop), wp d 191 80 [l0, l1, l2, l3, l4, l5] [s0] w 0 Q ↔ wp d 191 84 [l0, l1, l2, l3, l4, l5] [s0] w 0 Q) ∧
  (∀ (d : Nat) (l0 l1 l2 l4 l5 : Option Value) (x : Int32) (w : px_H) (Q : Option Value → px_H → Prop), wp d 191 83 [l0, l1, l2, some (.int x), l4, l5] [] w 0 Q ↔ wp d 191 84 [l0, l1, l2, some (.int x), l4, l5] [.int x] w 0 Q) ∧
  (∀ (d : Nat) (l0 l1 l2 l3 l4 l5 : Option Value) (x : Int32) (w : px_H) (Q : Option Value → px_H → Prop), wp d 191 84 [l0, l1, l2, l3, l4, l5] [.int x] w 0 Q ↔ wp d 191 85 [l0, l1, l2, some (.int x), l4, l5] [] w 0 Q) ∧
  (∀ (d : Nat) (l0 l1 l2 l3 l5 : Option Value) (x : Int32) (w : px_H) (Q : Option Value → px_H → Prop), wp d 191 85 [l0, l1, l2, l3, some (.int x), l5] [] w 0 Q ↔ wp d 191 88 [l0, l1, l2, l3, some (.int (x + 1)), l5] [] w 0 Q) ∧
  (∀ (d : Nat) (l0 l1 l2 l3 l4 l5 : Option Value)  (w : px_H) (Q : Option Value → px_H → Prop), wp d 191 88 [l0, l1, l2, l3, l4, l5] [] w 0 Q ↔ wp d 191 12 [l0, l1, l2, l3, l4, l5] [] w 0 Q) ∧
  (∀ (d : Nat) (l0 l1 l2 l4 l5 : Option Value) (x : Int32) (w : px_H) (Q : Option Value → px_H → Prop), wp d 191 91 [l0, l1, l2, some (.int x), l4, l5] [] w 0 Q ↔ wp d 191 92 [l0, l1, l2, some (.int x), l4, l5] [.int x] w 0 Q) ∧
  (∀ (d : Nat) (l0 l1 l2 l3 l4 l5 : Option Value) (x : Int32) (w : px_H) (Q : Option Value → px_H → Prop), wp d 191 92 [l0, l1, l2, l3, l4, l5] [.int x] w 0 Q ↔ Q (some (.int x)) w) := ⟨fun d v0 v1 w Q => r_entry pt_191 (Nat.le_of_ble_eq_true rfl) rfl,
  fun d l1 l2 l3 l4 l5 a w Q => px_go (q := (.aload_n 0, 1, px_x0)) (S' := (1, [some (.ref a), l1, l2, l3, l4, l5], [.ref a], w, 0)) pt_191 rfl rfl,
  fun d l0 l2 l3 l4 l5 s0 x w Q => px_go (q := (.iload_n 1, 1, px_x0)) (S' := (2, [l0, some (.int x), l2, l3, l4, l5], [.int x, s0], w, 0)) pt_191 rfl rfl,
  fun d l0 l1 l2 l3 l4 l5 v0 b w Q => r_callV (q := (.invokevirtual 149, 3, (33, 1, [(11, 170)], 0, ""))) pt_191 rfl rfl (List.forall_mem_cons.mpr ⟨⟨_, pt_170, Nat.le_of_ble_eq_true rfl, (Nat.le_of_ble_eq_true rfl), rfl⟩, fun _ h => absurd h List.not_mem_nil⟩),
  fun d l0 l1 l2 l3 l4 l5 x w Q => px_go (q := (.istore_n 2, 1, px_x0)) (S' := (6, [l0, l1, some (.int x), l3, l4, l5], [], w, 0)) pt_191 rfl rfl,
  fun d l0 l1 l2 l3 l4 l5 w Q => px_go (q := (.ldc 119, 2, (0, 0, [], (-1000000), ""))) (S' := (8, [l0, l1, l2, l3, l4, l5], [.int (-1000000)], w, 0)) pt_191 rfl rfl,
  fun d l0 l1 l2 l3 l4 l5 x w Q => px_go (q := (.istore_n 3, 1, px_x0)) (S' := (9, [l0, l1, l2, some (.int x), l4, l5], [], w, 0)) pt_191 rfl rfl,
  fun d l0 l1 l2 l3 l4 l5 w Q => r_iconst pt_191 rfl (by decide),
  fun d l0 l1 l2 l3 l4 l5 x w Q => px_go (q := (.istore 4, 2, px_x0)) (S' := (12, [l0, l1, l2, l3, some (.int x), l5], [], w, 0)) pt_191 rfl rfl,
  fun d l1 l2 l3 l4 l5 s0 a w Q => px_go (q := (.aload_n 0, 1, px_x0)) (S' := (15, [some (.ref a), l1, l2, l3, l4, l5], [.ref a, s0], w, 0)) pt_191 rfl rfl,
  fun d l0 l1 l2 l3 l4 l5 s0 s1 w Q => r_iconst pt_191 rfl (by decide),
  fun d l0 l1 l2 l3 l4 l5 s2 v0 b w Q => r_callV (q := (.invokevirtual 69, 3, (33, 1, [(11, 149)], 0, ""))) pt_191 rfl rfl (List.forall_mem_cons.mpr ⟨⟨_, pt_149, Nat.le_of_ble_eq_true rfl, (Nat.le_of_ble_eq_true rfl), rfl⟩, fun _ h => absurd h List.not_mem_nil⟩),
  fun d l0 l1 l2 l3 l4 l5 x y w Q => r_icmp_ge pt_191 rfl rfl,
  fun d l0 l1 l2 l4 l5 x w Q => px_go (q := (.iload_n 3, 1, px_x0)) (S' := (23, [l0, l1, l2, some (.int x), l4, l5], [.int x], w, 0)) pt_191 rfl rfl,
  fun d l0 l1 l2 l3 l4 l5 s0 w Q => px_go (q := (.ldc 119, 2, (0, 0, [], (-1000000), ""))) (S' := (25, [l0, l1, l2, l3, l4, l5], [.int (-1000000), s0], w, 0)) pt_191 rfl rfl,
  fun d l0 l1 l2 l3 l4 l5 x y w Q => r_icmp_eq pt_191 rfl rfl,
  fun d l1 l2 l3 l4 l5 a w Q => px_go (q := (.aload_n 0, 1, px_x0)) (S' := (29, [some (.ref a), l1, l2, l3, l4, l5], [.ref a], w, 0)) pt_191 rfl rfl,
  fun d l1 l2 l3 l4 l5 s0 a w Q => px_go (q := (.aload_n 0, 1, px_x0)) (S' := (30, [some (.ref a), l1, l2, l3, l4, l5], [.ref a, s0], w, 0)) pt_191 rfl rfl,
  fun d l0 l1 l2 l3 l4 l5 s0 s1 w Q => r_bipush pt_191 rfl (by decide),
  fun d l0 l1 l2 l3 l5 s0 s1 s2 x w Q => px_go (q := (.iload 4, 2, px_x0)) (S' := (34, [l0, l1, l2, l3, some (.int x), l5], [.int x, s0, s1, s2], w, 0)) pt_191 rfl rfl,
  fun d l0 l1 l2 l3 l4 l5 s2 s3 x y w Q => px_go (q := (.iadd, 1, px_x0)) (S' := (35, [l0, l1, l2, l3, l4, l5], [.int (x + y), s2, s3], w, 0)) pt_191 rfl rfl,
  fun d l0 l1 l2 l3 l4 l5 s2 v0 b w Q => r_callV (q := (.invokevirtual 69, 3, (33, 1, [(11, 149)], 0, ""))) pt_191 rfl rfl (List.forall_mem_cons.mpr ⟨⟨_, pt_149, Nat.le_of_ble_eq_true rfl, (Nat.le_of_ble_eq_true rfl), rfl⟩, fun _ h => absurd h List.not_mem_nil⟩),
  fun d l0 l1 l2 l3 l4 l5 v0 b w Q => r_callV (q := (.invokevirtual 176, 3, (33, 1, [(11, 180)], 0, ""))) pt_191 rfl rfl (List.forall_mem_cons.mpr ⟨⟨_, pt_180, Nat.le_of_ble_eq_true rfl, (Nat.le_of_ble_eq_true rfl), rfl⟩, fun _ h => absurd h List.not_mem_nil⟩),
  fun d l1 l2 l3 l4 l5 s0 a w Q => px_go (q := (.aload_n 0, 1, px_x0)) (S' := (42, [some (.ref a), l1, l2, l3, l4, l5], [.ref a, s0], w, 0)) pt_191 rfl rfl,
  fun d l1 l2 l3 l4 l5 s0 s1 a w Q => px_go (q := (.aload_n 0, 1, px_x0)) (S' := (43, [some (.ref a), l1, l2, l3, l4, l5], [.ref a, s0, s1], w, 0)) pt_191 rfl rfl,
  fun d l0 l1 l2 l3 l4 l5 s0 s1 s2 w Q => r_bipush pt_191 rfl (by decide),
  fun d l0 l1 l2 l4 l5 s0 s1 s2 s3 x w Q => px_go (q := (.iload_n 3, 1, px_x0)) (S' := (46, [l0, l1, l2, some (.int x), l4, l5], [.int x, s0, s1, s2, s3], w, 0)) pt_191 rfl rfl,
  fun d l0 l1 l2 l3 l4 l5 s2 s3 s4 x y w Q => px_go (q := (.iadd, 1, px_x0)) (S' := (47, [l0, l1, l2, l3, l4, l5], [.int (x + y), s2, s3, s4], w, 0)) pt_191 rfl rfl,
  fun d l0 l1 l2 l3 l4 l5 s2 s3 v0 b w Q => r_callV (q := (.invokevirtual 69, 3, (33, 1, [(11, 149)], 0, ""))) pt_191 rfl rfl (List.forall_mem_cons.mpr ⟨⟨_, pt_149, Nat.le_of_ble_eq_true rfl, (Nat.le_of_ble_eq_true rfl), rfl⟩, fun _ h => absurd h List.not_mem_nil⟩),
  fun d l0 l1 l2 l3 l4 l5 s2 v0 b w Q => r_callV (q := (.invokevirtual 176, 3, (33, 1, [(11, 180)], 0, ""))) pt_191 rfl rfl (List.forall_mem_cons.mpr ⟨⟨_, pt_180, Nat.le_of_ble_eq_true rfl, (Nat.le_of_ble_eq_true rfl), rfl⟩, fun _ h => absurd h List.not_mem_nil⟩),
  fun d l0 l1 l2 l3 l4 l5 x y w Q => r_icmp_ge pt_191 rfl rfl,
  fun d l0 l1 l2 l3 l4 l5 w Q => r_iconst pt_191 rfl (by decide),
  fun d l0 l1 l2 l3 l4 l5 s0 w Q => r_goto pt_191 rfl rfl,
  fun d l0 l1 l2 l3 l4 l5 w Q => r_iconst pt_191 rfl (by decide),
  fun d l0 l1 l2 l3 l4 l5 x w Q => px_go (q := (.istore 5, 2, px_x0)) (S' := (63, [l0, l1, l2, l3, l4, some (.int x)], [], w, 0)) pt_191 rfl rfl,
  fun d l0 l1 l3 l4 l5 x w Q => px_go (q := (.iload_n 2, 1, px_x0)) (S' := (64, [l0, l1, some (.int x), l3, l4, l5], [.int x], w, 0)) pt_191 rfl rfl,
  fun d l0 l1 l2 l3 l5 s0 x w Q => px_go (q := (.iload 4, 2, px_x0)) (S' := (66, [l0, l1, l2, l3, some (.int x), l5], [.int x, s0], w, 0)) pt_191 rfl rfl,
  fun d l0 l1 l2 l3 l4 l5 x y w Q => px_go (q := (.ishr, 1, px_x0)) (S' := (67, [l0, l1, l2, l3, l4, l5], [.int (x >>> (y &&& 31))], w, 0)) pt_191 rfl rfl,
  fun d l0 l1 l2 l3 l4 l5 s0 w Q => r_iconst pt_191 rfl (by decide),
  fun d l0 l1 l2 l3 l4 l5 x y w Q => px_go (q := (.iand, 1, px_x0)) (S' := (69, [l0, l1, l2, l3, l4, l5], [.int (x &&& y)], w, 0)) pt_191 rfl rfl,
  fun d l0 l1 l2 l3 l4 l5 s0 w Q => r_iconst pt_191 rfl (by decide),
  fun d l0 l1 l2 l3 l4 l5 x y w Q => r_icmp_ne pt_191 rfl rfl,
  fun d l0 l1 l2 l3 l4 x w Q => px_go (q := (.iload 5, 2, px_x0)) (S' := (75, [l0, l1, l2, l3, l4, some (.int x)], [.int x], w, 0)) pt_191 rfl rfl,
  fun d l0 l1 l2 l3 l4 l5 x w Q => r_if_eq pt_191 rfl rfl,
  fun d l0 l1 l2 l3 l5 x w Q => px_go (q := (.iload 4, 2, px_x0)) (S' := (80, [l0, l1, l2, l3, some (.int x), l5], [.int x], w, 0)) pt_191 rfl rfl,
  fun d l0 l1 l2 l3 l4 l5 s0 w Q => r_goto pt_191 rfl rfl,
  fun d l0 l1 l2 l4 l5 x w Q => px_go (q := (.iload_n 3, 1, px_x0)) (S' := (84, [l0, l1, l2, some (.int x), l4, l5], [.int x], w, 0)) pt_191 rfl rfl,
  fun d l0 l1 l2 l3 l4 l5 x w Q => px_go (q := (.istore_n 3, 1, px_x0)) (S' := (85, [l0, l1, l2, some (.int x), l4, l5], [], w, 0)) pt_191 rfl rfl,
  fun d l0 l1 l2 l3 l5 x w Q => r_iinc pt_191 rfl rfl (by decide) rfl,
  fun d l0 l1 l2 l3 l4 l5 w Q => r_goto pt_191 rfl rfl,
  fun d l0 l1 l2 l4 l5 x w Q => px_go (q := (.iload_n 3, 1, px_x0)) (S' := (92, [l0, l1, l2, some (.int x), l4, l5], [.int x], w, 0)) pt_191 rfl rfl,
  fun d l0 l1 l2 l3 l4 l5 x w Q => px_ret (q := (.ireturn, 1, px_x0)) pt_191 rfl rfl⟩
theorem H191_12 : ∀ (d : Nat) (l0 l1 l2 l3 l5 : Option Value) (x : Int32) (w : px_H) (Q : Option Value → px_H → Prop), wp d 191 12 [l0, l1, l2, l3, some (.int x), l5] [] w 0 Q ↔ wp d 191 14 [l0, l1, l2, l3, some (.int x), l5] [.int x] w 0 Q := fun d l0 l1 l2 l3 l5 x w Q => px_go (q := (.iload 4, 2, px_x0)) (S' := (14, [l0, l1, l2, l3, some (.int x), l5], [.int x], w, 0)) pt_191 rfl rfl
/-- AllSwornModel.cheapest(II)I -/
theorem S192 : (∀ (d : Nat) (v0 v1 v2 : Value) (w : px_H) (Q : Option Value → px_H → Prop), wc d 192 [v0, v1, v2] w Q ↔ wp d 192 0 [some v0, some v1, some v2, none] [] w 0 Q) ∧
  (∀ (d : Nat) (l1 l2 l3 : Option Value) (a : Nat) (w : px_H) (Q : Option Value → px_H → Prop), wp d 192 0 [some (.ref a), l1, l2, l3] [] w 0 Q ↔ wp d 192 1 [some (.ref a), l1, l2, l3] [.ref a] w 0 Q) ∧
  (∀ (d : Nat) (l0 l1 l2 l3 : Option Value)  (b : Nat) (w : px_H) (Q : Option Value → px_H → Prop), wp (d + 1) 192 1 [l0, l1, l2, l3] [.ref b] w 0 Q ↔ px_op (px_tgt w b [(11, 175)]) (fun v => wc d v [.ref b] w (fun r w' => wp (d + 1) 192 4 [l0, l1, l2, l3] (r.toList ++ []) w' 0 Q))) ∧
  (∀ (d : Nat) (l0 l1 l2 l3 : Option Value) (x : Int32) (w : px_H) (Q : Option Value → px_H → Prop), wp d 192 4 [l0, l1, l2, l3] [.int x] w 0 Q ↔ if x = 0 then wp d 192 7 [l0, l1, l2, l3] [] w 0 Q else wp d 192 10 [l0, l1, l2, l3] [] w 0 Q) ∧
  (∀ (d : Nat) (l0 l1 l2 l3 : Option Value)  (w : px_H) (Q : Option Value → px_H → Prop), wp d 192 7 [l0, l1, l2, l3] [] w 0 Q ↔ wp d 192 9 [l0, l1, l2, l3] [.int (-1000002)] w 0 Q) ∧
  (∀ (d : Nat) (l0 l1 l2 l3 : Option Value) (x : Int32) (w : px_H) (Q : Option Value → px_H → Prop), wp d 192 9 [l0, l1, l2, l3] [.int x] w 0 Q ↔ Q (some (.int x)) w) ∧
  (∀ (d : Nat) (l1 l2 l3 : Option Value) (a : Nat) (w : px_H) (Q : Option Value → px_H → Prop), wp d 192 10 [some (.ref a), l1, l2, l3] [] w 0 Q ↔ wp d 192 11 [some (.ref a), l1, l2, l3] [.ref a] w 0 Q) ∧
  (∀ (d : Nat) (l0 l2 l3 : Option Value) (s0 : Value) (x : Int32) (w : px_H) (Q : Option Value → px_H → Prop), wp d 192 11 [l0, some (.int x), l2, l3] [s0] w 0 Q ↔ wp d 192 12 [l0, some (.int x), l2, l3] [.int x, s0] w 0 Q) ∧
  (∀ (d : Nat) (l0 l1 l2 l3 : Option Value) (v0 : Value) (b : Nat) (w : px_H) (Q : Option Value → px_H → Prop), wp (d + 1) 192 12 [l0, l1, l2, l3] [v0, .ref b] w 0 Q ↔ px_op (px_tgt w b [(11, 183)]) (fun v => wc d v [.ref b, v0] w (fun r w' => wp (d + 1) 192 15 [l0, l1, l2, l3] (r.toList ++ []) w' 0 Q))) ∧
  (∀ (d : Nat) (l0 l1 l2 l3 : Option Value) (x : Int32) (w : px_H) (Q : Option Value → px_H → Prop), wp d 192 15 [l0, l1, l2, l3] [.int x] w 0 Q ↔ if x = 0 then wp d 192 27 [l0, l1, l2, l3] [] w 0 Q else wp d 192 18 [l0, l1, l2, l3] [] w 0 Q) ∧
  (∀ (d : Nat) (l0 l1 l3 : Option Value) (x : Int32) (w : px_H) (Q : Option Value → px_H → Prop), wp d 192 18 [l0, l1, some (.int x), l3] [] w 0 Q ↔ wp d 192 19 [l0, l1, some (.int x), l3] [.int x] w 0 Q) ∧
  (∀ (d : Nat) (l0 l1 l2 l3 : Option Value) (s0 : Value)  (w : px_H) (Q : Option Value → px_H → Prop), wp d 192 19 [l0, l1, l2, l3] [s0] w 0 Q ↔ wp d 192 20 [l0, l1, l2, l3] [.int 0, s0] w 0 Q) ∧
  (∀ (d : Nat) (l0 l1 l2 l3 : Option Value) (s0 s1 : Value)  (w : px_H) (Q : Option Value → px_H → Prop), wp d 192 20 [l0, l1, l2, l3] [s0, s1] w 0 Q ↔ wp d 192 21 [l0, l1, l2, l3] [.int 1, s0, s1] w 0 Q) ∧
  (∀ (d : Nat) (l0 l1 l2 l3 : Option Value) (v0 v1 v2 : Value) (w : px_H) (Q : Option Value → px_H → Prop), wp (d + 1) 192 21 [l0, l1, l2, l3] [v2, v1, v0] w 0 Q ↔ wc d 140 [v0, v1, v2] w (fun r w' => wp (d + 1) 192 24 [l0, l1, l2, l3] (r.toList ++ []) w' 0 Q)) ∧
  (∀ (d : Nat) (l0 l1 l2 l3 : Option Value) (x : Int32) (w : px_H) (Q : Option Value → px_H → Prop), wp d 192 24 [l0, l1, l2, l3] [.int x] w 0 Q ↔ if x = 0 then wp d 192 27 [l0, l1, l2, l3] [] w 0 Q else wp d 192 30 [l0, l1, l2, l3] [] w 0 Q) ∧
  (∀ (d : Nat) (l0 l1 l2 l3 : Option Value)  (w : px_H) (Q : Option Value → px_H → Prop), wp d 192 27 [l0, l1, l2, l3] [] w 0 Q ↔ wp d 192 29 [l0, l1, l2, l3] [.int (-1000001)] w 0 Q) ∧
  (∀ (d : Nat) (l0 l1 l2 l3 : Option Value) (x : Int32) (w : px_H) (Q : Option Value → px_H → Prop), wp d 192 29 [l0, l1, l2, l3] [.int x] w 0 Q ↔ Q (some (.int x)) w) ∧
  (∀ (d : Nat) (l1 l2 l3 : Option Value) (a : Nat) (w : px_H) (Q : Option Value → px_H → Prop), wp d 192 30 [some (.ref a), l1, l2, l3] [] w 0 Q ↔ wp d 192 31 [some (.ref a), l1, l2, l3] [.ref a] w 0 Q) ∧
  (∀ (d : Nat) (l0 l1 l2 l3 : Option Value)  (b : Nat) (w : px_H) (Q : Option Value → px_H → Prop), wp (d + 1) 192 31 [l0, l1, l2, l3] [.ref b] w 0 Q ↔ px_op (px_tgt w b [(11, 167)]) (fun v => wc d v [.ref b] w (fun r w' => wp (d + 1) 192 34 [l0, l1, l2, l3] (r.toList ++ []) w' 0 Q))) ∧
  (∀ (d : Nat) (l1 l2 l3 : Option Value) (a : Nat) (w : px_H) (Q : Option Value → px_H → Prop), wp d 192 34 [some (.ref a), l1, l2, l3] [] w 0 Q ↔ wp d 192 35 [some (.ref a), l1, l2, l3] [.ref a] w 0 Q) ∧
  (∀ (d : Nat) (l0 l2 l3 : Option Value) (s0 : Value) (x : Int32) (w : px_H) (Q : Option Value → px_H → Prop), wp d 192 35 [l0, some (.int x), l2, l3] [s0] w 0 Q ↔ wp d 192 36 [l0, some (.int x), l2, l3] [.int x, s0] w 0 Q) ∧
  (∀ (d : Nat) (l0 l1 l2 l3 : Option Value) (v0 : Value) (b : Nat) (w : px_H) (Q : Option Value → px_H → Prop), wp (d + 1) 192 36 [l0, l1, l2, l3] [v0, .ref b] w 0 Q ↔ px_op (px_tgt w b [(11, 191)]) (fun v => wc d v [.ref b, v0] w (fun r w' => wp (d + 1) 192 39 [l0, l1, l2, l3] (r.toList ++ []) w' 0 Q))) ∧
  (∀ (d : Nat) (l0 l1 l2 l3 : Option Value) (x : Int32) (w : px_H) (Q : Option Value → px_H → Prop), wp d 192 39 [l0, l1, l2, l3] [.int x] w 0 Q ↔ wp d 192 40 [l0, l1, l2, some (.int x)] [] w 0 Q) ∧
  (∀ (d : Nat) (l0 l1 l2 : Option Value) (x : Int32) (w : px_H) (Q : Option Value → px_H → Prop), wp d 192 40 [l0, l1, l2, some (.int x)] [] w 0 Q ↔ wp d 192 41 [l0, l1, l2, some (.int x)] [.int x] w 0 Q) ∧
  (∀ (d : Nat) (l0 l1 l2 l3 : Option Value) (s0 : Value)  (w : px_H) (Q : Option Value → px_H → Prop), wp d 192 41 [l0, l1, l2, l3] [s0] w 0 Q ↔ wp d 192 43 [l0, l1, l2, l3] [.int (-1000000), s0] w 0 Q) ∧
  (∀ (d : Nat) (l0 l1 l2 l3 : Option Value) (x y : Int32) (w : px_H) (Q : Option Value → px_H → Prop), wp d 192 43 [l0, l1, l2, l3] [.int y, .int x] w 0 Q ↔ if x = y then wp d 192 50 [l0, l1, l2, l3] [] w 0 Q else wp d 192 46 [l0, l1, l2, l3] [] w 0 Q) ∧
  (∀ (d : Nat) (l0 l1 l3 : Option Value) (x : Int32) (w : px_H) (Q : Option Value → px_H → Prop), wp d 192 46 [l0, l1, some (.int x), l3] [] w 0 Q ↔ wp d 192 47 [l0, l1, some (.int x), l3] [.int x] w 0 Q) ∧
  (∀ (d : Nat) (l0 l1 l2 l3 : Option Value) (x : Int32) (w : px_H) (Q : Option Value → px_H → Prop), wp d 192 47 [l0, l1, l2, l3] [.int x] w 0 Q ↔ if x = 0 then wp d 192 50 [l0, l1, l2, l3] [] w 0 Q else wp d 192 54 [l0, l1, l2, l3] [] w 0 Q) ∧
  (∀ (d : Nat) (l0 l1 l2 : Option Value) (x : Int32) (w : px_H) (Q : Option Value → px_H → Prop), wp d 192 50 [l0, l1, l2, some (.int x)] [] w 0 Q ↔ wp d 192 51 [l0, l1, l2, some (.int x)] [.int x] w 0 Q) ∧
  (∀ (d : Nat) (l0 l1 l2 l3 : Option Value) (s0 : Value)  (w : px_H) (Q : Option Value → px_H → Prop), wp d 192 51 [l0, l1, l2, l3] [s0] w 0 Q ↔ wp d 192 66 [l0, l1, l2, l3] [s0] w 0 Q) ∧
  (∀ (d : Nat) (l1 l2 l3 : Option Value) (a : Nat) (w : px_H) (Q : Option Value → px_H → Prop), wp d 192 54 [some (.ref a), l1, l2, l3] [] w 0 Q ↔ wp d 192 55 [some (.ref a), l1, l2, l3] [.ref a] w 0 Q) ∧
  (∀ (d : Nat) (l1 l2 l3 : Option Value) (s0 : Value) (a : Nat) (w : px_H) (Q : Option Value → px_H → Prop), wp d 192 55 [some (.ref a), l1, l2, l3] [s0] w 0 Q ↔ wp d 192 56 [some (.ref a), l1, l2, l3] [.ref a, s0] w 0 Q) ∧
  (∀ (d : Nat) (l0 l1 l2 l3 : Option Value) (s0 s1 : Value)  (w : px_H) (Q : Option Value → px_H → Prop), wp d 192 56 [l0, l1, l2, l3] [s0, s1] w 0 Q ↔ wp d 192 58 [l0, l1, l2, l3] [.int 37, s0, s1] w 0 Q) ∧
  (∀ (d : Nat) (l0 l1 l2 : Option Value) (s0 s1 s2 : Value) (x : Int32) (w : px_H) (Q : Option Value → px_H → Prop), wp d 192 58 [l0, l1, l2, some (.int x)] [s0, s1, s2] w 0 Q ↔ wp d 192 59 [l0, l1, l2, some (.int x)] [.int x, s0, s1, s2] w 0 Q) ∧
  (∀ (d : Nat) (l0 l1 l2 l3 : Option Value) (s2 s3 : Value) (x y : Int32) (w : px_H) (Q : Option Value → px_H → Prop), wp d 192 59 [l0, l1, l2, l3] [.int y, .int x, s2, s3] w 0 Q ↔ wp d 192 60 [l0, l1, l2, l3] [.int (x + y), s2, s3] w 0 Q) ∧
  (∀ (d : Nat) (l0 l1 l2 l3 : Option Value) (s2 : Value) (v0 : Value) (b : Nat) (w : px_H) (Q : Option Value → px_H → Prop), wp (d + 1) 192 60 [l0, l1, l2, l3] [v0, .ref b, s2] w 0 Q ↔ px_op (px_tgt w b [(11, 149)]) (fun v => wc d v [.ref b, v0] w (fun r w' => wp (d + 1) 192 63 [l0, l1, l2, l3] (r.toList ++ [s2]) w' 0 Q))) ∧
  (∀ (d : Nat) (l0 l1 l2 l3 : Option Value) (v0 : Value) (b : Nat) (w : px_H) (Q : Option Value → px_H → Prop), wp (d + 1) 192 63 [l0, l1, l2, l3] [v0, .ref b] w 0 Q ↔ px_op (px_tgt w b [(11, 180)]) (fun v => wc d v [.ref b, v0] w (fun r w' => wp (d + 1) 192 66 [l0, l1, l2, l3] (r.toList ++ []) w' 0 Q))) ∧
  (∀ (d : Nat) (l0 l1 l2 l3 : Option Value) (x : Int32) (w : px_H) (Q : Option Value → px_H → Prop), wp d 192 66 [l0, l1, l2, l3] [.int x] w 0 Q ↔ Q (some (.int x)) w) := ⟨fun d v0 v1 v2 w Q => r_entry pt_192 (Nat.le_of_ble_eq_true rfl) rfl,
  fun d l1 l2 l3 a w Q => px_go (q := (.aload_n 0, 1, px_x0)) (S' := (1, [some (.ref a), l1, l2, l3], [.ref a], w, 0)) pt_192 rfl rfl,
  fun d l0 l1 l2 l3 b w Q => r_callV (q := (.invokevirtual 171, 3, (33, 0, [(11, 175)], 0, ""))) pt_192 rfl rfl (List.forall_mem_cons.mpr ⟨⟨_, pt_175, Nat.le_of_ble_eq_true rfl, (Nat.le_of_ble_eq_true rfl), rfl⟩, fun _ h => absurd h List.not_mem_nil⟩),
  fun d l0 l1 l2 l3 x w Q => r_if_ne pt_192 rfl rfl,
  fun d l0 l1 l2 l3 w Q => px_go (q := (.ldc 175, 2, (0, 0, [], (-1000002), ""))) (S' := (9, [l0, l1, l2, l3], [.int (-1000002)], w, 0)) pt_192 rfl rfl,
  fun d l0 l1 l2 l3 x w Q => px_ret (q := (.ireturn, 1, px_x0)) pt_192 rfl rfl,
  fun d l1 l2 l3 a w Q => px_go (q := (.aload_n 0, 1, px_x0)) (S' := (11, [some (.ref a), l1, l2, l3], [.ref a], w, 0)) pt_192 rfl rfl,
  fun d l0 l2 l3 s0 x w Q => px_go (q := (.iload_n 1, 1, px_x0)) (S' := (12, [l0, some (.int x), l2, l3], [.int x, s0], w, 0)) pt_192 rfl rfl,
  fun d l0 l1 l2 l3 v0 b w Q => r_callV (q := (.invokevirtual 179, 3, (33, 1, [(11, 183)], 0, ""))) pt_192 rfl rfl (List.forall_mem_cons.mpr ⟨⟨_, pt_183, Nat.le_of_ble_eq_true rfl, (Nat.le_of_ble_eq_true rfl), rfl⟩, fun _ h => absurd h List.not_mem_nil⟩),
  fun d l0 l1 l2 l3 x w Q => r_if_eq pt_192 rfl rfl,
  fun d l0 l1 l3 x w Q => px_go (q := (.iload_n 2, 1, px_x0)) (S' := (19, [l0, l1, some (.int x), l3], [.int x], w, 0)) pt_192 rfl rfl,
  fun d l0 l1 l2 l3 s0 w Q => r_iconst pt_192 rfl (by decide),
  fun d l0 l1 l2 l3 s0 s1 w Q => r_iconst pt_192 rfl (by decide),
  fun d l0 l1 l2 l3 v0 v1 v2 w Q => r_call (q := (.invokestatic 50, 3, (30, 3, [(0, 140)], 0, ""))) pt_192 rfl rfl pt_140 (Nat.le_of_ble_eq_true rfl) (Nat.le_of_ble_eq_true rfl) rfl,
  fun d l0 l1 l2 l3 x w Q => r_if_ne pt_192 rfl rfl,
  fun d l0 l1 l2 l3 w Q => px_go (q := (.ldc 58, 2, (0, 0, [], (-1000001), ""))) (S' := (29, [l0, l1, l2, l3], [.int (-1000001)], w, 0)) pt_192 rfl rfl,
  fun d l0 l1 l2 l3 x w Q => px_ret (q := (.ireturn, 1, px_x0)) pt_192 rfl rfl,
  fun d l1 l2 l3 a w Q => px_go (q := (.aload_n 0, 1, px_x0)) (S' := (31, [some (.ref a), l1, l2, l3], [.ref a], w, 0)) pt_192 rfl rfl,
  fun d l0 l1 l2 l3 b w Q => r_callV (q := (.invokevirtual 146, 3, (33, 0, [(11, 167)], 0, ""))) pt_192 rfl rfl (List.forall_mem_cons.mpr ⟨⟨_, pt_167, Nat.le_of_ble_eq_true rfl, (Nat.le_of_ble_eq_true rfl), rfl⟩, fun _ h => absurd h List.not_mem_nil⟩),
  fun d l1 l2 l3 a w Q => px_go (q := (.aload_n 0, 1, px_x0)) (S' := (35, [some (.ref a), l1, l2, l3], [.ref a], w, 0)) pt_192 rfl rfl,
  fun d l0 l2 l3 s0 x w Q => px_go (q := (.iload_n 1, 1, px_x0)) (S' := (36, [l0, some (.int x), l2, l3], [.int x, s0], w, 0)) pt_192 rfl rfl,
  fun d l0 l1 l2 l3 v0 b w Q => r_callV (q := (.invokevirtual 194, 3, (33, 1, [(11, 191)], 0, ""))) pt_192 rfl rfl (List.forall_mem_cons.mpr ⟨⟨_, pt_191, Nat.le_of_ble_eq_true rfl, (Nat.le_of_ble_eq_true rfl), rfl⟩, fun _ h => absurd h List.not_mem_nil⟩),
  fun d l0 l1 l2 l3 x w Q => px_go (q := (.istore_n 3, 1, px_x0)) (S' := (40, [l0, l1, l2, some (.int x)], [], w, 0)) pt_192 rfl rfl,
  fun d l0 l1 l2 x w Q => px_go (q := (.iload_n 3, 1, px_x0)) (S' := (41, [l0, l1, l2, some (.int x)], [.int x], w, 0)) pt_192 rfl rfl,
  fun d l0 l1 l2 l3 s0 w Q => px_go (q := (.ldc 119, 2, (0, 0, [], (-1000000), ""))) (S' := (43, [l0, l1, l2, l3], [.int (-1000000), s0], w, 0)) pt_192 rfl rfl,
  fun d l0 l1 l2 l3 x y w Q => r_icmp_eq pt_192 rfl rfl,
  fun d l0 l1 l3 x w Q => px_go (q := (.iload_n 2, 1, px_x0)) (S' := (47, [l0, l1, some (.int x), l3], [.int x], w, 0)) pt_192 rfl rfl,
  fun d l0 l1 l2 l3 x w Q => r_if_ne pt_192 rfl rfl,
  fun d l0 l1 l2 x w Q => px_go (q := (.iload_n 3, 1, px_x0)) (S' := (51, [l0, l1, l2, some (.int x)], [.int x], w, 0)) pt_192 rfl rfl,
  fun d l0 l1 l2 l3 s0 w Q => r_goto pt_192 rfl rfl,
  fun d l1 l2 l3 a w Q => px_go (q := (.aload_n 0, 1, px_x0)) (S' := (55, [some (.ref a), l1, l2, l3], [.ref a], w, 0)) pt_192 rfl rfl,
  fun d l1 l2 l3 s0 a w Q => px_go (q := (.aload_n 0, 1, px_x0)) (S' := (56, [some (.ref a), l1, l2, l3], [.ref a, s0], w, 0)) pt_192 rfl rfl,
  fun d l0 l1 l2 l3 s0 s1 w Q => r_bipush pt_192 rfl (by decide),
  fun d l0 l1 l2 s0 s1 s2 x w Q => px_go (q := (.iload_n 3, 1, px_x0)) (S' := (59, [l0, l1, l2, some (.int x)], [.int x, s0, s1, s2], w, 0)) pt_192 rfl rfl,
  fun d l0 l1 l2 l3 s2 s3 x y w Q => px_go (q := (.iadd, 1, px_x0)) (S' := (60, [l0, l1, l2, l3], [.int (x + y), s2, s3], w, 0)) pt_192 rfl rfl,
  fun d l0 l1 l2 l3 s2 v0 b w Q => r_callV (q := (.invokevirtual 69, 3, (33, 1, [(11, 149)], 0, ""))) pt_192 rfl rfl (List.forall_mem_cons.mpr ⟨⟨_, pt_149, Nat.le_of_ble_eq_true rfl, (Nat.le_of_ble_eq_true rfl), rfl⟩, fun _ h => absurd h List.not_mem_nil⟩),
  fun d l0 l1 l2 l3 v0 b w Q => r_callV (q := (.invokevirtual 176, 3, (33, 1, [(11, 180)], 0, ""))) pt_192 rfl rfl (List.forall_mem_cons.mpr ⟨⟨_, pt_180, Nat.le_of_ble_eq_true rfl, (Nat.le_of_ble_eq_true rfl), rfl⟩, fun _ h => absurd h List.not_mem_nil⟩),
  fun d l0 l1 l2 l3 x w Q => px_ret (q := (.ireturn, 1, px_x0)) pt_192 rfl rfl⟩
/-- AllSwornModel.dearBy(II)I -/
theorem S193 : (∀ (d : Nat) (v0 v1 v2 : Value) (w : px_H) (Q : Option Value → px_H → Prop), wc d 193 [v0, v1, v2] w Q ↔ wp d 193 0 [some v0, some v1, some v2, none, none] [] w 0 Q) ∧
  (∀ (d : Nat) (l1 l2 l3 l4 : Option Value) (a : Nat) (w : px_H) (Q : Option Value → px_H → Prop), wp d 193 0 [some (.ref a), l1, l2, l3, l4] [] w 0 Q ↔ wp d 193 1 [some (.ref a), l1, l2, l3, l4] [.ref a] w 0 Q) ∧
  (∀ (d : Nat) (l0 l1 l2 l3 l4 : Option Value)  (b : Nat) (w : px_H) (Q : Option Value → px_H → Prop), wp (d + 1) 193 1 [l0, l1, l2, l3, l4] [.ref b] w 0 Q ↔ px_op (px_tgt w b [(11, 167)]) (fun v => wc d v [.ref b] w (fun r w' => wp (d + 1) 193 4 [l0, l1, l2, l3, l4] (r.toList ++ []) w' 0 Q))) ∧
  (∀ (d : Nat) (l1 l2 l3 l4 : Option Value) (a : Nat) (w : px_H) (Q : Option Value → px_H → Prop), wp d 193 4 [some (.ref a), l1, l2, l3, l4] [] w 0 Q ↔ wp d 193 5 [some (.ref a), l1, l2, l3, l4] [.ref a] w 0 Q) ∧
  (∀ (d : Nat) (l0 l1 l2 l3 l4 : Option Value) (s0 : Value)  (w : px_H) (Q : Option Value → px_H → Prop), wp d 193 5 [l0, l1, l2, l3, l4] [s0] w 0 Q ↔ wp d 193 6 [l0, l1, l2, l3, l4] [.int 3, s0] w 0 Q) ∧
  (∀ (d : Nat) (l0 l1 l2 l3 l4 : Option Value) (v0 : Value) (b : Nat) (w : px_H) (Q : Option Value → px_H → Prop), wp (d + 1) 193 6 [l0, l1, l2, l3, l4] [v0, .ref b] w 0 Q ↔ px_op (px_tgt w b [(11, 149)]) (fun v => wc d v [.ref b, v0] w (fun r w' => wp (d + 1) 193 9 [l0, l1, l2, l3, l4] (r.toList ++ []) w' 0 Q))) ∧
  (∀ (d : Nat) (l1 l2 l3 l4 : Option Value) (s0 : Value) (a : Nat) (w : px_H) (Q : Option Value → px_H → Prop), wp d 193 9 [some (.ref a), l1, l2, l3, l4] [s0] w 0 Q ↔ wp d 193 10 [some (.ref a), l1, l2, l3, l4] [.ref a, s0] w 0 Q) ∧
  (∀ (d : Nat) (l0 l2 l3 l4 : Option Value) (s0 s1 : Value) (x : Int32) (w : px_H) (Q : Option Value → px_H → Prop), wp d 193 10 [l0, some (.int x), l2, l3, l4] [s0, s1] w 0 Q ↔ wp d 193 11 [l0, some (.int x), l2, l3, l4] [.int x, s0, s1] w 0 Q) ∧
  (∀ (d : Nat) (l0 l1 l2 l3 l4 : Option Value) (s2 : Value) (v0 : Value) (b : Nat) (w : px_H) (Q : Option Value → px_H → Prop), wp (d + 1) 193 11 [l0, l1, l2, l3, l4] [v0, .ref b, s2] w 0 Q ↔ px_op (px_tgt w b [(11, 172)]) (fun v => wc d v [.ref b, v0] w (fun r w' => wp (d + 1) 193 14 [l0, l1, l2, l3, l4] (r.toList ++ [s2]) w' 0 Q))) ∧
  (∀ (d : Nat) (l0 l1 l2 l3 l4 : Option Value) (x y : Int32) (w : px_H) (Q : Option Value → px_H → Prop), wp d 193 14 [l0, l1, l2, l3, l4] [.int y, .int x] w 0 Q ↔ wp d 193 15 [l0, l1, l2, l3, l4] [.int (x + y)] w 0 Q) ∧
  (∀ (d : Nat) (l0 l1 l2 l3 l4 : Option Value) (x : Int32) (w : px_H) (Q : Option Value → px_H → Prop), wp d 193 15 [l0, l1, l2, l3, l4] [.int x] w 0 Q ↔ wp d 193 16 [l0, l1, l2, some (.int x), l4] [] w 0 Q) ∧
  (∀ (d : Nat) (l1 l2 l3 l4 : Option Value) (a : Nat) (w : px_H) (Q : Option Value → px_H → Prop), wp d 193 16 [some (.ref a), l1, l2, l3, l4] [] w 0 Q ↔ wp d 193 17 [some (.ref a), l1, l2, l3, l4] [.ref a] w 0 Q) ∧
  (∀ (d : Nat) (l0 l1 l2 l3 l4 : Option Value) (a : Nat) (w : px_H) (Q : Option Value → px_H → Prop), wp d 193 17 [l0, l1, l2, l3, l4] [.ref a] w 0 Q ↔ px_op (px_fld w a [(11, 0)] 18) (fun v => wp d 193 20 [l0, l1, l2, l3, l4] [v] w 0 Q)) ∧
  (∀ (d : Nat) (l0 l2 l3 l4 : Option Value) (s0 : Value) (x : Int32) (w : px_H) (Q : Option Value → px_H → Prop), wp d 193 20 [l0, some (.int x), l2, l3, l4] [s0] w 0 Q ↔ wp d 193 21 [l0, some (.int x), l2, l3, l4] [.int x, s0] w 0 Q) ∧
  (∀ (d : Nat) (l1 l2 l3 l4 : Option Value) (s0 s1 : Value) (a : Nat) (w : px_H) (Q : Option Value → px_H → Prop), wp d 193 21 [some (.ref a), l1, l2, l3, l4] [s0, s1] w 0 Q ↔ wp d 193 22 [some (.ref a), l1, l2, l3, l4] [.ref a, s0, s1] w 0 Q) ∧
  (∀ (d : Nat) (l0 l2 l3 l4 : Option Value) (s0 s1 s2 : Value) (x : Int32) (w : px_H) (Q : Option Value → px_H → Prop), wp d 193 22 [l0, some (.int x), l2, l3, l4] [s0, s1, s2] w 0 Q ↔ wp d 193 23 [l0, some (.int x), l2, l3, l4] [.int x, s0, s1, s2] w 0 Q) ∧
  (∀ (d : Nat) (l0 l1 l2 l4 : Option Value) (s0 s1 s2 s3 : Value) (x : Int32) (w : px_H) (Q : Option Value → px_H → Prop), wp d 193 23 [l0, l1, l2, some (.int x), l4] [s0, s1, s2, s3] w 0 Q ↔ wp d 193 24 [l0, l1, l2, some (.int x), l4] [.int x, s0, s1, s2, s3] w 0 Q) ∧
  (∀ (d : Nat) (l0 l1 l2 l3 l4 : Option Value) (s3 s4 : Value) (v0 v1 : Value) (b : Nat) (w : px_H) (Q : Option Value → px_H → Prop), wp (d + 1) 193 24 [l0, l1, l2, l3, l4] [v1, v0, .ref b, s3, s4] w 0 Q ↔ px_op (px_tgt w b [(11, 173)]) (fun v => wc d v [.ref b, v0, v1] w (fun r w' => wp (d + 1) 193 27 [l0, l1, l2, l3, l4] (r.toList ++ [s3, s4]) w' 0 Q))) ∧
  (∀ (d : Nat) (l0 l1 l2 l3 l4 : Option Value) (s1 s2 : Value) (x : Int32) (w : px_H) (Q : Option Value → px_H → Prop), wp d 193 27 [l0, l1, l2, l3, l4] [.int x, s1, s2] w 0 Q ↔ if x = 0 then wp d 193 34 [l0, l1, l2, l3, l4] [s1, s2] w 0 Q else wp d 193 30 [l0, l1, l2, l3, l4] [s1, s2] w 0 Q) ∧
  (∀ (d : Nat) (l0 l1 l2 l4 : Option Value) (s0 s1 : Value) (x : Int32) (w : px_H) (Q : Option Value → px_H → Prop), wp d 193 30 [l0, l1, l2, some (.int x), l4] [s0, s1] w 0 Q ↔ wp d 193 31 [l0, l1, l2, some (.int x), l4] [.int x, s0, s1] w 0 Q) ∧
  (∀ (d : Nat) (l0 l1 l2 l3 l4 : Option Value) (s0 s1 s2 : Value)  (w : px_H) (Q : Option Value → px_H → Prop), wp d 193 31 [l0, l1, l2, l3, l4] [s0, s1, s2] w 0 Q ↔ wp d 193 40 [l0, l1, l2, l3, l4] [s0, s1, s2] w 0 Q) ∧
  (∀ (d : Nat) (l1 l2 l3 l4 : Option Value) (s0 s1 : Value) (a : Nat) (w : px_H) (Q : Option Value → px_H → Prop), wp d 193 34 [some (.ref a), l1, l2, l3, l4] [s0, s1] w 0 Q ↔ wp d 193 35 [some (.ref a), l1, l2, l3, l4] [.ref a, s0, s1] w 0 Q) ∧
  (∀ (d : Nat) (l0 l1 l2 l3 l4 : Option Value) (s1 s2 : Value) (a : Nat) (w : px_H) (Q : Option Value → px_H → Prop), wp d 193 35 [l0, l1, l2, l3, l4] [.ref a, s1, s2] w 0 Q ↔ px_op (px_fld w a [(11, 0)] 18) (fun v => wp d 193 38 [l0, l1, l2, l3, l4] [v, s1, s2] w 0 Q)) ∧
  (∀ (d : Nat) (l0 l2 l3 l4 : Option Value) (s0 s1 s2 : Value) (x : Int32) (w : px_H) (Q : Option Value → px_H → Prop), wp d 193 38 [l0, some (.int x), l2, l3, l4] [s0, s1, s2] w 0 Q ↔ wp d 193 39 [l0, some (.int x), l2, l3, l4] [.int x, s0, s1, s2] w 0 Q) ∧
  (∀ (d : Nat) (l0 l1 l2 l3 l4 : Option Value) (s2 s3 : Value) (i : Int32) (a : Nat) (w : px_H) (Q : Option Value → px_H → Prop), wp d 193 39 [l0, l1, l2, l3, l4] [.int i, .ref a, s2, s3] w 0 Q ↔ px_op (px_ald w a i .int) (fun x => wp d 193 40 [l0, l1, l2, l3, l4] [.int x, s2, s3] w 0 Q)) ∧
  (∀ (d : Nat) (l0 l1 l2 l3 l4 : Option Value) (x i : Int32) (a : Nat) (w : px_H) (Q : Option Value → px_H → Prop), wp d 193 40 [l0, l1, l2, l3, l4] [.int x, .int i, .ref a] w 0 Q ↔ px_op (px_ast w a i x .int) (fun w' => wp d 193 41 [l0, l1, l2, l3, l4] [] w' 0 Q)) ∧
  (∀ (d : Nat) (l1 l2 l3 l4 : Option Value) (a : Nat) (w : px_H) (Q : Option Value → px_H → Prop), wp d 193 41 [some (.ref a), l1, l2, l3, l4] [] w 0 Q ↔ wp d 193 42 [some (.ref a), l1, l2, l3, l4] [.ref a] w 0 Q) ∧
  (∀ (d : Nat) (l0 l1 l3 l4 : Option Value) (s0 : Value) (x : Int32) (w : px_H) (Q : Option Value → px_H → Prop), wp d 193 42 [l0, l1, some (.int x), l3, l4] [s0] w 0 Q ↔ wp d 193 43 [l0, l1, some (.int x), l3, l4] [.int x, s0] w 0 Q) ∧
  (∀ (d : Nat) (l0 l1 l2 l4 : Option Value) (s0 s1 : Value) (x : Int32) (w : px_H) (Q : Option Value → px_H → Prop), wp d 193 43 [l0, l1, l2, some (.int x), l4] [s0, s1] w 0 Q ↔ wp d 193 44 [l0, l1, l2, some (.int x), l4] [.int x, s0, s1] w 0 Q) ∧
  (∀ (d : Nat) (l0 l1 l2 l3 l4 : Option Value) (s2 : Value) (x y : Int32) (w : px_H) (Q : Option Value → px_H → Prop), wp d 193 44 [l0, l1, l2, l3, l4] [.int y, .int x, s2] w 0 Q ↔ if y ≤ x then wp d 193 51 [l0, l1, l2, l3, l4] [s2] w 0 Q else wp d 193 47 [l0, l1, l2, l3, l4] [s2] w 0 Q) ∧
  (∀ (d : Nat) (l0 l1 l2 l4 : Option Value) (s0 : Value) (x : Int32) (w : px_H) (Q : Option Value → px_H → Prop), wp d 193 47 [l0, l1, l2, some (.int x), l4] [s0] w 0 Q ↔ wp d 193 48 [l0, l1, l2, some (.int x), l4] [.int x, s0] w 0 Q) ∧
  (∀ (d : Nat) (l0 l1 l2 l3 l4 : Option Value) (s0 s1 : Value)  (w : px_H) (Q : Option Value → px_H → Prop), wp d 193 48 [l0, l1, l2, l3, l4] [s0, s1] w 0 Q ↔ wp d 193 52 [l0, l1, l2, l3, l4] [s0, s1] w 0 Q) ∧
  (∀ (d : Nat) (l0 l1 l3 l4 : Option Value) (s0 : Value) (x : Int32) (w : px_H) (Q : Option Value → px_H → Prop), wp d 193 51 [l0, l1, some (.int x), l3, l4] [s0] w 0 Q ↔ wp d 193 52 [l0, l1, some (.int x), l3, l4] [.int x, s0] w 0 Q) ∧
  (∀ (d : Nat) (l0 l1 l2 l3 l4 : Option Value) (v0 : Value) (b : Nat) (w : px_H) (Q : Option Value → px_H → Prop), wp (d + 1) 193 52 [l0, l1, l2, l3, l4] [v0, .ref b] w 0 Q ↔ px_op (px_tgt w b [(11, 191)]) (fun v => wc d v [.ref b, v0] w (fun r w' => wp (d + 1) 193 55 [l0, l1, l2, l3, l4] (r.toList ++ []) w' 0 Q))) ∧
  (∀ (d : Nat) (l0 l1 l2 l3 l4 : Option Value) (x : Int32) (w : px_H) (Q : Option Value → px_H → Prop), wp d 193 55 [l0, l1, l2, l3, l4] [.int x] w 0 Q ↔ wp d 193 57 [l0, l1, l2, l3, some (.int x)] [] w 0 Q) ∧
  (∀ (d : Nat) (l0 l1 l2 l3 : Option Value) (x : Int32) (w : px_H) (Q : Option Value → px_H → Prop), wp d 193 57 [l0, l1, l2, l3, some (.int x)] [] w 0 Q ↔ wp d 193 59 [l0, l1, l2, l3, some (.int x)] [.int x] w 0 Q) ∧
  (∀ (d : Nat) (l0 l1 l2 l3 l4 : Option Value) (s0 : Value)  (w : px_H) (Q : Option Value → px_H → Prop), wp d 193 59 [l0, l1, l2, l3, l4] [s0] w 0 Q ↔ wp d 193 61 [l0, l1, l2, l3, l4] [.int (-1000000), s0] w 0 Q) ∧
  (∀ (d : Nat) (l0 l1 l2 l3 l4 : Option Value) (x y : Int32) (w : px_H) (Q : Option Value → px_H → Prop), wp d 193 61 [l0, l1, l2, l3, l4] [.int y, .int x] w 0 Q ↔ if x = y then wp d 193 64 [l0, l1, l2, l3, l4] [] w 0 Q else wp d 193 70 [l0, l1, l2, l3, l4] [] w 0 Q) ∧
  (∀ (d : Nat) (l0 l1 l2 l3 l4 : Option Value)  (w : px_H) (Q : Option Value → px_H → Prop), wp d 193 64 [l0, l1, l2, l3, l4] [] w 0 Q ↔ wp d 193 67 [l0, l1, l2, l3, l4] [.int 1000] w 0 Q) ∧
  (∀ (d : Nat) (l0 l1 l2 l3 l4 : Option Value) (s0 : Value)  (w : px_H) (Q : Option Value → px_H → Prop), wp d 193 67 [l0, l1, l2, l3, l4] [s0] w 0 Q ↔ wp d 193 83 [l0, l1, l2, l3, l4] [s0] w 0 Q) ∧
  (∀ (d : Nat) (l1 l2 l3 l4 : Option Value) (a : Nat) (w : px_H) (Q : Option Value → px_H → Prop), wp d 193 70 [some (.ref a), l1, l2, l3, l4] [] w 0 Q ↔ wp d 193 71 [some (.ref a), l1, l2, l3, l4] [.ref a] w 0 Q) ∧
  (∀ (d : Nat) (l1 l2 l3 l4 : Option Value) (s0 : Value) (a : Nat) (w : px_H) (Q : Option Value → px_H → Prop), wp d 193 71 [some (.ref a), l1, l2, l3, l4] [s0] w 0 Q ↔ wp d 193 72 [some (.ref a), l1, l2, l3, l4] [.ref a, s0] w 0 Q) ∧
  (∀ (d : Nat) (l0 l1 l2 l3 l4 : Option Value) (s0 s1 : Value)  (w : px_H) (Q : Option Value → px_H → Prop), wp d 193 72 [l0, l1, l2, l3, l4] [s0, s1] w 0 Q ↔ wp d 193 74 [l0, l1, l2, l3, l4] [.int 37, s0, s1] w 0 Q) ∧
  (∀ (d : Nat) (l0 l1 l2 l3 : Option Value) (s0 s1 s2 : Value) (x : Int32) (w : px_H) (Q : Option Value → px_H → Prop), wp d 193 74 [l0, l1, l2, l3, some (.int x)] [s0, s1, s2] w 0 Q ↔ wp d 193 76 [l0, l1, l2, l3, some (.int x)] [.int x, s0, s1, s2] w 0 Q) ∧
  (∀ (d : Nat) (l0 l1 l2 l3 l4 : Option Value) (s2 s3 : Value) (x y : Int32) (w : px_H) (Q : Option Value → px_H → Prop), wp d 193 76 [l0, l1, l2, l3, l4] [.int y, .int x, s2, s3] w 0 Q ↔ wp d 193 77 [l0, l1, l2, l3, l4] [.int (x + y), s2, s3] w 0 Q) ∧
  (∀ (d : Nat) (l0 l1 l2 l3 l4 : Option Value) (s2 : Value) (v0 : Value) (b : Nat) (w : px_H) (Q : Option Value → px_H → Prop), wp (d + 1) 193 77 [l0, l1, l2, l3, l4] [v0, .ref b, s2] w 0 Q ↔ px_op (px_tgt w b [(11, 149)]) (fun v => wc d v [.ref b, v0] w (fun r w' => wp (d + 1) 193 80 [l0, l1, l2, l3, l4] (r.toList ++ [s2]) w' 0 Q))) ∧
  (∀ (d : Nat) (l0 l1 l2 l3 l4 : Option Value) (v0 : Value) (b : Nat) (w : px_H) (Q : Option Value → px_H → Prop), wp (d + 1) 193 80 [l0, l1, l2, l3, l4] [v0, .ref b] w 0 Q ↔ px_op (px_tgt w b [(11, 180)]) (fun v => wc d v [.ref b, v0] w (fun r w' => wp (d + 1) 193 83 [l0, l1, l2, l3, l4] (r.toList ++ []) w' 0 Q))) ∧
  (∀ (d : Nat) (l0 l1 l2 l3 l4 : Option Value) (x : Int32) (w : px_H) (Q : Option Value → px_H → Prop), wp d 193 83 [l0, l1, l2, l3, l4] [.int x] w 0 Q ↔ Q (some (.int x)) w) := ⟨fun d v0 v1 v2 w Q => r_entry pt_193 (Nat.le_of_ble_eq_true rfl) rfl,
  fun d l1 l2 l3 l4 a w Q => px_go (q := (.aload_n 0, 1, px_x0)) (S' := (1, [some (.ref a), l1, l2, l3, l4], [.ref a], w, 0)) pt_193 rfl rfl,
  fun d l0 l1 l2 l3 l4 b w Q => r_callV (q := (.invokevirtual 146, 3, (33, 0, [(11, 167)], 0, ""))) pt_193 rfl rfl (List.forall_mem_cons.mpr ⟨⟨_, pt_167, Nat.le_of_ble_eq_true rfl, (Nat.le_of_ble_eq_true rfl), rfl⟩, fun _ h => absurd h List.not_mem_nil⟩),
  fun d l1 l2 l3 l4 a w Q => px_go (q := (.aload_n 0, 1, px_x0)) (S' := (5, [some (.ref a), l1, l2, l3, l4], [.ref a], w, 0)) pt_193 rfl rfl,
  fun d l0 l1 l2 l3 l4 s0 w Q => r_iconst pt_193 rfl (by decide),
  fun d l0 l1 l2 l3 l4 v0 b w Q => r_callV (q := (.invokevirtual 69, 3, (33, 1, [(11, 149)], 0, ""))) pt_193 rfl rfl (List.forall_mem_cons.mpr ⟨⟨_, pt_149, Nat.le_of_ble_eq_true rfl, (Nat.le_of_ble_eq_true rfl), rfl⟩, fun _ h => absurd h List.not_mem_nil⟩),
  fun d l1 l2 l3 l4 s0 a w Q => px_go (q := (.aload_n 0, 1, px_x0)) (S' := (10, [some (.ref a), l1, l2, l3, l4], [.ref a, s0], w, 0)) pt_193 rfl rfl,
  fun d l0 l2 l3 l4 s0 s1 x w Q => px_go (q := (.iload_n 1, 1, px_x0)) (S' := (11, [l0, some (.int x), l2, l3, l4], [.int x, s0, s1], w, 0)) pt_193 rfl rfl,
  fun d l0 l1 l2 l3 l4 s2 v0 b w Q => r_callV (q := (.invokevirtual 155, 3, (33, 1, [(11, 172)], 0, ""))) pt_193 rfl rfl (List.forall_mem_cons.mpr ⟨⟨_, pt_172, Nat.le_of_ble_eq_true rfl, (Nat.le_of_ble_eq_true rfl), rfl⟩, fun _ h => absurd h List.not_mem_nil⟩),
  fun d l0 l1 l2 l3 l4 x y w Q => px_go (q := (.iadd, 1, px_x0)) (S' := (15, [l0, l1, l2, l3, l4], [.int (x + y)], w, 0)) pt_193 rfl rfl,
  fun d l0 l1 l2 l3 l4 x w Q => px_go (q := (.istore_n 3, 1, px_x0)) (S' := (16, [l0, l1, l2, some (.int x), l4], [], w, 0)) pt_193 rfl rfl,
  fun d l1 l2 l3 l4 a w Q => px_go (q := (.aload_n 0, 1, px_x0)) (S' := (17, [some (.ref a), l1, l2, l3, l4], [.ref a], w, 0)) pt_193 rfl rfl,
  fun d l0 l1 l2 l3 l4 a w Q => px_goO (q := (.getfield 33, 3, (10, 18, [(11, 0)], 0, "AllSwornModel"))) (S' := fun v => (20, [l0, l1, l2, l3, l4], [v], w, 0)) pt_193 rfl rfl,
  fun d l0 l2 l3 l4 s0 x w Q => px_go (q := (.iload_n 1, 1, px_x0)) (S' := (21, [l0, some (.int x), l2, l3, l4], [.int x, s0], w, 0)) pt_193 rfl rfl,
  fun d l1 l2 l3 l4 s0 s1 a w Q => px_go (q := (.aload_n 0, 1, px_x0)) (S' := (22, [some (.ref a), l1, l2, l3, l4], [.ref a, s0, s1], w, 0)) pt_193 rfl rfl,
  fun d l0 l2 l3 l4 s0 s1 s2 x w Q => px_go (q := (.iload_n 1, 1, px_x0)) (S' := (23, [l0, some (.int x), l2, l3, l4], [.int x, s0, s1, s2], w, 0)) pt_193 rfl rfl,
  fun d l0 l1 l2 l4 s0 s1 s2 s3 x w Q => px_go (q := (.iload_n 3, 1, px_x0)) (S' := (24, [l0, l1, l2, some (.int x), l4], [.int x, s0, s1, s2, s3], w, 0)) pt_193 rfl rfl,
  fun d l0 l1 l2 l3 l4 s3 s4 v0 v1 b w Q => r_callV (q := (.invokevirtual 161, 3, (33, 2, [(11, 173)], 0, ""))) pt_193 rfl rfl (List.forall_mem_cons.mpr ⟨⟨_, pt_173, Nat.le_of_ble_eq_true rfl, (Nat.le_of_ble_eq_true rfl), rfl⟩, fun _ h => absurd h List.not_mem_nil⟩),
  fun d l0 l1 l2 l3 l4 s1 s2 x w Q => r_if_eq pt_193 rfl rfl,
  fun d l0 l1 l2 l4 s0 s1 x w Q => px_go (q := (.iload_n 3, 1, px_x0)) (S' := (31, [l0, l1, l2, some (.int x), l4], [.int x, s0, s1], w, 0)) pt_193 rfl rfl,
  fun d l0 l1 l2 l3 l4 s0 s1 s2 w Q => r_goto pt_193 rfl rfl,
  fun d l1 l2 l3 l4 s0 s1 a w Q => px_go (q := (.aload_n 0, 1, px_x0)) (S' := (35, [some (.ref a), l1, l2, l3, l4], [.ref a, s0, s1], w, 0)) pt_193 rfl rfl,
  fun d l0 l1 l2 l3 l4 s1 s2 a w Q => px_goO (q := (.getfield 33, 3, (10, 18, [(11, 0)], 0, "AllSwornModel"))) (S' := fun v => (38, [l0, l1, l2, l3, l4], [v, s1, s2], w, 0)) pt_193 rfl rfl,
  fun d l0 l2 l3 l4 s0 s1 s2 x w Q => px_go (q := (.iload_n 1, 1, px_x0)) (S' := (39, [l0, some (.int x), l2, l3, l4], [.int x, s0, s1, s2], w, 0)) pt_193 rfl rfl,
  fun d l0 l1 l2 l3 l4 s2 s3 i a w Q => px_goO (q := (.iaload, 1, px_x0)) (S' := fun x => (40, [l0, l1, l2, l3, l4], [.int x, s2, s3], w, 0)) pt_193 rfl rfl,
  fun d l0 l1 l2 l3 l4 x i a w Q => px_goO (q := (.iastore, 1, px_x0)) (S' := fun w' => (41, [l0, l1, l2, l3, l4], [], w', 0)) pt_193 rfl rfl,
  fun d l1 l2 l3 l4 a w Q => px_go (q := (.aload_n 0, 1, px_x0)) (S' := (42, [some (.ref a), l1, l2, l3, l4], [.ref a], w, 0)) pt_193 rfl rfl,
  fun d l0 l1 l3 l4 s0 x w Q => px_go (q := (.iload_n 2, 1, px_x0)) (S' := (43, [l0, l1, some (.int x), l3, l4], [.int x, s0], w, 0)) pt_193 rfl rfl,
  fun d l0 l1 l2 l4 s0 s1 x w Q => px_go (q := (.iload_n 3, 1, px_x0)) (S' := (44, [l0, l1, l2, some (.int x), l4], [.int x, s0, s1], w, 0)) pt_193 rfl rfl,
  fun d l0 l1 l2 l3 l4 s2 x y w Q => r_icmp_ge pt_193 rfl rfl,
  fun d l0 l1 l2 l4 s0 x w Q => px_go (q := (.iload_n 3, 1, px_x0)) (S' := (48, [l0, l1, l2, some (.int x), l4], [.int x, s0], w, 0)) pt_193 rfl rfl,
  fun d l0 l1 l2 l3 l4 s0 s1 w Q => r_goto pt_193 rfl rfl,
  fun d l0 l1 l3 l4 s0 x w Q => px_go (q := (.iload_n 2, 1, px_x0)) (S' := (52, [l0, l1, some (.int x), l3, l4], [.int x, s0], w, 0)) pt_193 rfl rfl,
  fun d l0 l1 l2 l3 l4 v0 b w Q => r_callV (q := (.invokevirtual 194, 3, (33, 1, [(11, 191)], 0, ""))) pt_193 rfl rfl (List.forall_mem_cons.mpr ⟨⟨_, pt_191, Nat.le_of_ble_eq_true rfl, (Nat.le_of_ble_eq_true rfl), rfl⟩, fun _ h => absurd h List.not_mem_nil⟩),
  fun d l0 l1 l2 l3 l4 x w Q => px_go (q := (.istore 4, 2, px_x0)) (S' := (57, [l0, l1, l2, l3, some (.int x)], [], w, 0)) pt_193 rfl rfl,
  fun d l0 l1 l2 l3 x w Q => px_go (q := (.iload 4, 2, px_x0)) (S' := (59, [l0, l1, l2, l3, some (.int x)], [.int x], w, 0)) pt_193 rfl rfl,
  fun d l0 l1 l2 l3 l4 s0 w Q => px_go (q := (.ldc 119, 2, (0, 0, [], (-1000000), ""))) (S' := (61, [l0, l1, l2, l3, l4], [.int (-1000000), s0], w, 0)) pt_193 rfl rfl,
  fun d l0 l1 l2 l3 l4 x y w Q => r_icmp_ne pt_193 rfl rfl,
  fun d l0 l1 l2 l3 l4 w Q => r_sipush pt_193 rfl (by decide),
  fun d l0 l1 l2 l3 l4 s0 w Q => r_goto pt_193 rfl rfl,
  fun d l1 l2 l3 l4 a w Q => px_go (q := (.aload_n 0, 1, px_x0)) (S' := (71, [some (.ref a), l1, l2, l3, l4], [.ref a], w, 0)) pt_193 rfl rfl,
  fun d l1 l2 l3 l4 s0 a w Q => px_go (q := (.aload_n 0, 1, px_x0)) (S' := (72, [some (.ref a), l1, l2, l3, l4], [.ref a, s0], w, 0)) pt_193 rfl rfl,
  fun d l0 l1 l2 l3 l4 s0 s1 w Q => r_bipush pt_193 rfl (by decide),
  fun d l0 l1 l2 l3 s0 s1 s2 x w Q => px_go (q := (.iload 4, 2, px_x0)) (S' := (76, [l0, l1, l2, l3, some (.int x)], [.int x, s0, s1, s2], w, 0)) pt_193 rfl rfl,
  fun d l0 l1 l2 l3 l4 s2 s3 x y w Q => px_go (q := (.iadd, 1, px_x0)) (S' := (77, [l0, l1, l2, l3, l4], [.int (x + y), s2, s3], w, 0)) pt_193 rfl rfl,
  fun d l0 l1 l2 l3 l4 s2 v0 b w Q => r_callV (q := (.invokevirtual 69, 3, (33, 1, [(11, 149)], 0, ""))) pt_193 rfl rfl (List.forall_mem_cons.mpr ⟨⟨_, pt_149, Nat.le_of_ble_eq_true rfl, (Nat.le_of_ble_eq_true rfl), rfl⟩, fun _ h => absurd h List.not_mem_nil⟩),
  fun d l0 l1 l2 l3 l4 v0 b w Q => r_callV (q := (.invokevirtual 176, 3, (33, 1, [(11, 180)], 0, ""))) pt_193 rfl rfl (List.forall_mem_cons.mpr ⟨⟨_, pt_180, Nat.le_of_ble_eq_true rfl, (Nat.le_of_ble_eq_true rfl), rfl⟩, fun _ h => absurd h List.not_mem_nil⟩),
  fun d l0 l1 l2 l3 l4 x w Q => px_ret (q := (.ireturn, 1, px_x0)) pt_193 rfl rfl⟩
/-- AllSwornModel.defended(II)I heads: [40] -/
theorem S194 : (∀ (d : Nat) (v0 v1 v2 : Value) (w : px_H) (Q : Option Value → px_H → Prop), wc d 194 [v0, v1, v2] w Q ↔ wp d 194 0 [some v0, some v1, some v2, none, none, none, none] [] w 0 Q) ∧
  (∀ (d : Nat) (l1 l2 l3 l4 l5 l6 : Option Value) (a : Nat) (w : px_H) (Q : Option Value → px_H → Prop), wp d 194 0 [some (.ref a), l1, l2, l3, l4, l5, l6] [] w 0 Q ↔ wp d 194 1 [some (.ref a), l1, l2, l3, l4, l5, l6] [.ref a] w 0 Q) ∧
  (∀ (d : Nat) (l0 l1 l2 l3 l4 l5 l6 : Option Value)  (b : Nat) (w : px_H) (Q : Option Value → px_H → Prop), wp (d + 1) 194 1 [l0, l1, l2, l3, l4, l5, l6] [.ref b] w 0 Q ↔ px_op (px_tgt w b [(11, 175)]) (fun v => wc d v [.ref b] w (fun r w' => wp (d + 1) 194 4 [l0, l1, l2, l3, l4, l5, l6] (r.toList ++ []) w' 0 Q))) ∧
  (∀ (d : Nat) (l0 l1 l2 l3 l4 l5 l6 : Option Value) (x : Int32) (w : px_H) (Q : Option Value → px_H → Prop), wp d 194 4 [l0, l1, l2, l3, l4, l5, l6] [.int x] w 0 Q ↔ if x = 0 then wp d 194 7 [l0, l1, l2, l3, l4, l5, l6] [] w 0 Q else wp d 194 10 [l0, l1, l2, l3, l4, l5, l6] [] w 0 Q) ∧
  (∀ (d : Nat) (l0 l1 l2 l3 l4 l5 l6 : Option Value)  (w : px_H) (Q : Option Value → px_H → Prop), wp d 194 7 [l0, l1, l2, l3, l4, l5, l6] [] w 0 Q ↔ wp d 194 9 [l0, l1, l2, l3, l4, l5, l6] [.int (-1000002)] w 0 Q) ∧
  (∀ (d : Nat) (l0 l1 l2 l3 l4 l5 l6 : Option Value) (x : Int32) (w : px_H) (Q : Option Value → px_H → Prop), wp d 194 9 [l0, l1, l2, l3, l4, l5, l6] [.int x] w 0 Q ↔ Q (some (.int x)) w) ∧
  (∀ (d : Nat) (l1 l2 l3 l4 l5 l6 : Option Value) (a : Nat) (w : px_H) (Q : Option Value → px_H → Prop), wp d 194 10 [some (.ref a), l1, l2, l3, l4, l5, l6] [] w 0 Q ↔ wp d 194 11 [some (.ref a), l1, l2, l3, l4, l5, l6] [.ref a] w 0 Q) ∧
  (∀ (d : Nat) (l0 l2 l3 l4 l5 l6 : Option Value) (s0 : Value) (x : Int32) (w : px_H) (Q : Option Value → px_H → Prop), wp d 194 11 [l0, some (.int x), l2, l3, l4, l5, l6] [s0] w 0 Q ↔ wp d 194 12 [l0, some (.int x), l2, l3, l4, l5, l6] [.int x, s0] w 0 Q) ∧
  (∀ (d : Nat) (l0 l1 l2 l3 l4 l5 l6 : Option Value) (v0 : Value) (b : Nat) (w : px_H) (Q : Option Value → px_H → Prop), wp (d + 1) 194 12 [l0, l1, l2, l3, l4, l5, l6] [v0, .ref b] w 0 Q ↔ px_op (px_tgt w b [(11, 183)]) (fun v => wc d v [.ref b, v0] w (fun r w' => wp (d + 1) 194 15 [l0, l1, l2, l3, l4, l5, l6] (r.toList ++ []) w' 0 Q))) ∧
  (∀ (d : Nat) (l0 l1 l2 l3 l4 l5 l6 : Option Value) (x : Int32) (w : px_H) (Q : Option Value → px_H → Prop), wp d 194 15 [l0, l1, l2, l3, l4, l5, l6] [.int x] w 0 Q ↔ if x = 0 then wp d 194 27 [l0, l1, l2, l3, l4, l5, l6] [] w 0 Q else wp d 194 18 [l0, l1, l2, l3, l4, l5, l6] [] w 0 Q) ∧
  (∀ (d : Nat) (l0 l1 l3 l4 l5 l6 : Option Value) (x : Int32) (w : px_H) (Q : Option Value → px_H → Prop), wp d 194 18 [l0, l1, some (.int x), l3, l4, l5, l6] [] w 0 Q ↔ wp d 194 19 [l0, l1, some (.int x), l3, l4, l5, l6] [.int x] w 0 Q) ∧
  (∀ (d : Nat) (l0 l1 l2 l3 l4 l5 l6 : Option Value) (s0 : Value)  (w : px_H) (Q : Option Value → px_H → Prop), wp d 194 19 [l0, l1, l2, l3, l4, l5, l6] [s0] w 0 Q ↔ wp d 194 20 [l0, l1, l2, l3, l4, l5, l6] [.int 0, s0] w 0 Q) ∧
  (∀ (d : Nat) (l0 l1 l2 l3 l4 l5 l6 : Option Value) (s0 s1 : Value)  (w : px_H) (Q : Option Value → px_H → Prop), wp d 194 20 [l0, l1, l2, l3, l4, l5, l6] [s0, s1] w 0 Q ↔ wp d 194 21 [l0, l1, l2, l3, l4, l5, l6] [.int 1, s0, s1] w 0 Q) ∧
  (∀ (d : Nat) (l0 l1 l2 l3 l4 l5 l6 : Option Value) (v0 v1 v2 : Value) (w : px_H) (Q : Option Value → px_H → Prop), wp (d + 1) 194 21 [l0, l1, l2, l3, l4, l5, l6] [v2, v1, v0] w 0 Q ↔ wc d 140 [v0, v1, v2] w (fun r w' => wp (d + 1) 194 24 [l0, l1, l2, l3, l4, l5, l6] (r.toList ++ []) w' 0 Q)) ∧
  (∀ (d : Nat) (l0 l1 l2 l3 l4 l5 l6 : Option Value) (x : Int32) (w : px_H) (Q : Option Value → px_H → Prop), wp d 194 24 [l0, l1, l2, l3, l4, l5, l6] [.int x] w 0 Q ↔ if x = 0 then wp d 194 27 [l0, l1, l2, l3, l4, l5, l6] [] w 0 Q else wp d 194 30 [l0, l1, l2, l3, l4, l5, l6] [] w 0 Q) ∧
  (∀ (d : Nat) (l0 l1 l2 l3 l4 l5 l6 : Option Value)  (w : px_H) (Q : Option Value → px_H → Prop), wp d 194 27 [l0, l1, l2, l3, l4, l5, l6] [] w 0 Q ↔ wp d 194 29 [l0, l1, l2, l3, l4, l5, l6] [.int (-1000001)] w 0 Q) ∧
  (∀ (d : Nat) (l0 l1 l2 l3 l4 l5 l6 : Option Value) (x : Int32) (w : px_H) (Q : Option Value → px_H → Prop), wp d 194 29 [l0, l1, l2, l3, l4, l5, l6] [.int x] w 0 Q ↔ Q (some (.int x)) w) ∧
  (∀ (d : Nat) (l0 l1 l2 l3 l4 l5 l6 : Option Value)  (w : px_H) (Q : Option Value → px_H → Prop), wp d 194 30 [l0, l1, l2, l3, l4, l5, l6] [] w 0 Q ↔ wp d 194 32 [l0, l1, l2, l3, l4, l5, l6] [.int (-1000000)] w 0 Q) ∧
  (∀ (d : Nat) (l0 l1 l2 l3 l4 l5 l6 : Option Value) (x : Int32) (w : px_H) (Q : Option Value → px_H → Prop), wp d 194 32 [l0, l1, l2, l3, l4, l5, l6] [.int x] w 0 Q ↔ wp d 194 33 [l0, l1, l2, some (.int x), l4, l5, l6] [] w 0 Q) ∧
  (∀ (d : Nat) (l0 l1 l2 l3 l4 l5 l6 : Option Value)  (w : px_H) (Q : Option Value → px_H → Prop), wp d 194 33 [l0, l1, l2, l3, l4, l5, l6] [] w 0 Q ↔ wp d 194 35 [l0, l1, l2, l3, l4, l5, l6] [.int (-1000000)] w 0 Q) ∧
  (∀ (d : Nat) (l0 l1 l2 l3 l4 l5 l6 : Option Value) (x : Int32) (w : px_H) (Q : Option Value → px_H → Prop), wp d 194 35 [l0, l1, l2, l3, l4, l5, l6] [.int x] w 0 Q ↔ wp d 194 37 [l0, l1, l2, l3, some (.int x), l5, l6] [] w 0 Q) ∧
  (∀ (d : Nat) (l0 l1 l2 l3 l4 l5 l6 : Option Value)  (w : px_H) (Q : Option Value → px_H → Prop), wp d 194 37 [l0, l1, l2, l3, l4, l5, l6] [] w 0 Q ↔ wp d 194 38 [l0, l1, l2, l3, l4, l5, l6] [.int 0] w 0 Q) ∧
  (∀ (d : Nat) (l0 l1 l2 l3 l4 l5 l6 : Option Value) (x : Int32) (w : px_H) (Q : Option Value → px_H → Prop), wp d 194 38 [l0, l1, l2, l3, l4, l5, l6] [.int x] w 0 Q ↔ wp d 194 40 [l0, l1, l2, l3, l4, some (.int x), l6] [] w 0 Q) ∧
  (∀ (d : Nat) (l1 l2 l3 l4 l5 l6 : Option Value) (s0 : Value) (a : Nat) (w : px_H) (Q : Option Value → px_H → Prop), wp d 194 42 [some (.ref a), l1, l2, l3, l4, l5, l6] [s0] w 0 Q ↔ wp d 194 43 [some (.ref a), l1, l2, l3, l4, l5, l6] [.ref a, s0] w 0 Q) ∧
  (∀ (d : Nat) (l0 l1 l2 l3 l4 l5 l6 : Option Value) (s0 s1 : Value)  (w : px_H) (Q : Option Value → px_H → Prop), wp d 194 43 [l0, l1, l2, l3, l4, l5, l6] [s0, s1] w 0 Q ↔ wp d 194 44 [l0, l1, l2, l3, l4, l5, l6] [.int 1, s0, s1] w 0 Q) ∧
  (∀ (d : Nat) (l0 l1 l2 l3 l4 l5 l6 : Option Value) (s2 : Value) (v0 : Value) (b : Nat) (w : px_H) (Q : Option Value → px_H → Prop), wp (d + 1) 194 44 [l0, l1, l2, l3, l4, l5, l6] [v0, .ref b, s2] w 0 Q ↔ px_op (px_tgt w b [(11, 149)]) (fun v => wc d v [.ref b, v0] w (fun r w' => wp (d + 1) 194 47 [l0, l1, l2, l3, l4, l5, l6] (r.toList ++ [s2]) w' 0 Q))) ∧
  (∀ (d : Nat) (l0 l1 l2 l3 l4 l5 l6 : Option Value) (x y : Int32) (w : px_H) (Q : Option Value → px_H → Prop), wp d 194 47 [l0, l1, l2, l3, l4, l5, l6] [.int y, .int x] w 0 Q ↔ if y ≤ x then wp d 194 95 [l0, l1, l2, l3, l4, l5, l6] [] w 0 Q else wp d 194 50 [l0, l1, l2, l3, l4, l5, l6] [] w 0 Q) ∧
  (∀ (d : Nat) (l1 l2 l3 l4 l5 l6 : Option Value) (a : Nat) (w : px_H) (Q : Option Value → px_H → Prop), wp d 194 50 [some (.ref a), l1, l2, l3, l4, l5, l6] [] w 0 Q ↔ wp d 194 51 [some (.ref a), l1, l2, l3, l4, l5, l6] [.ref a] w 0 Q) ∧
  (∀ (d : Nat) (l0 l1 l2 l3 l4 l6 : Option Value) (s0 : Value) (x : Int32) (w : px_H) (Q : Option Value → px_H → Prop), wp d 194 51 [l0, l1, l2, l3, l4, some (.int x), l6] [s0] w 0 Q ↔ wp d 194 53 [l0, l1, l2, l3, l4, some (.int x), l6] [.int x, s0] w 0 Q) ∧
  (∀ (d : Nat) (l0 l2 l3 l4 l5 l6 : Option Value) (s0 s1 : Value) (x : Int32) (w : px_H) (Q : Option Value → px_H → Prop), wp d 194 53 [l0, some (.int x), l2, l3, l4, l5, l6] [s0, s1] w 0 Q ↔ wp d 194 54 [l0, some (.int x), l2, l3, l4, l5, l6] [.int x, s0, s1] w 0 Q) ∧
  (∀ (d : Nat) (l0 l1 l2 l3 l4 l5 l6 : Option Value) (v0 v1 : Value) (b : Nat) (w : px_H) (Q : Option Value → px_H → Prop), wp (d + 1) 194 54 [l0, l1, l2, l3, l4, l5, l6] [v1, v0, .ref b] w 0 Q ↔ px_op (px_tgt w b [(11, 193)]) (fun v => wc d v [.ref b, v0, v1] w (fun r w' => wp (d + 1) 194 57 [l0, l1, l2, l3, l4, l5, l6] (r.toList ++ []) w' 0 Q))) ∧
  (∀ (d : Nat) (l0 l1 l2 l3 l4 l5 l6 : Option Value) (x : Int32) (w : px_H) (Q : Option Value → px_H → Prop), wp d 194 57 [l0, l1, l2, l3, l4, l5, l6] [.int x] w 0 Q ↔ wp d 194 59 [l0, l1, l2, l3, l4, l5, some (.int x)] [] w 0 Q) ∧
  (∀ (d : Nat) (l0 l1 l2 l3 l4 l5 : Option Value) (x : Int32) (w : px_H) (Q : Option Value → px_H → Prop), wp d 194 59 [l0, l1, l2, l3, l4, l5, some (.int x)] [] w 0 Q ↔ wp d 194 61 [l0, l1, l2, l3, l4, l5, some (.int x)] [.int x] w 0 Q) ∧
  (∀ (d : Nat) (l0 l1 l2 l3 l5 l6 : Option Value) (s0 : Value) (x : Int32) (w : px_H) (Q : Option Value → px_H → Prop), wp d 194 61 [l0, l1, l2, l3, some (.int x), l5, l6] [s0] w 0 Q ↔ wp d 194 63 [l0, l1, l2, l3, some (.int x), l5, l6] [.int x, s0] w 0 Q) ∧
  (∀ (d : Nat) (l0 l1 l2 l3 l4 l5 l6 : Option Value) (x y : Int32) (w : px_H) (Q : Option Value → px_H → Prop), wp d 194 63 [l0, l1, l2, l3, l4, l5, l6] [.int y, .int x] w 0 Q ↔ if x ≤ y then wp d 194 71 [l0, l1, l2, l3, l4, l5, l6] [] w 0 Q else wp d 194 66 [l0, l1, l2, l3, l4, l5, l6] [] w 0 Q) ∧
  (∀ (d : Nat) (l0 l1 l2 l3 l4 l6 : Option Value) (x : Int32) (w : px_H) (Q : Option Value → px_H → Prop), wp d 194 66 [l0, l1, l2, l3, l4, some (.int x), l6] [] w 0 Q ↔ wp d 194 68 [l0, l1, l2, l3, l4, some (.int x), l6] [.int x] w 0 Q) ∧
  (∀ (d : Nat) (l0 l1 l2 l3 l4 l5 l6 : Option Value) (s0 : Value)  (w : px_H) (Q : Option Value → px_H → Prop), wp d 194 68 [l0, l1, l2, l3, l4, l5, l6] [s0] w 0 Q ↔ wp d 194 72 [l0, l1, l2, l3, l4, l5, l6] [s0] w 0 Q) ∧
  (∀ (d : Nat) (l0 l1 l2 l4 l5 l6 : Option Value) (x : Int32) (w : px_H) (Q : Option Value → px_H → Prop), wp d 194 71 [l0, l1, l2, some (.int x), l4, l5, l6] [] w 0 Q ↔ wp d 194 72 [l0, l1, l2, some (.int x), l4, l5, l6] [.int x] w 0 Q) ∧
  (∀ (d : Nat) (l0 l1 l2 l3 l4 l5 l6 : Option Value) (x : Int32) (w : px_H) (Q : Option Value → px_H → Prop), wp d 194 72 [l0, l1, l2, l3, l4, l5, l6] [.int x] w 0 Q ↔ wp d 194 73 [l0, l1, l2, some (.int x), l4, l5, l6] [] w 0 Q) ∧
  (∀ (d : Nat) (l0 l1 l2 l3 l4 l5 : Option Value) (x : Int32) (w : px_H) (Q : Option Value → px_H → Prop), wp d 194 73 [l0, l1, l2, l3, l4, l5, some (.int x)] [] w 0 Q ↔ wp d 194 75 [l0, l1, l2, l3, l4, l5, some (.int x)] [.int x] w 0 Q) ∧
  (∀ (d : Nat) (l0 l1 l2 l3 l5 l6 : Option Value) (s0 : Value) (x : Int32) (w : px_H) (Q : Option Value → px_H → Prop), wp d 194 75 [l0, l1, l2, l3, some (.int x), l5, l6] [s0] w 0 Q ↔ wp d 194 77 [l0, l1, l2, l3, some (.int x), l5, l6] [.int x, s0] w 0 Q) ∧
  (∀ (d : Nat) (l0 l1 l2 l3 l4 l5 l6 : Option Value) (x y : Int32) (w : px_H) (Q : Option Value → px_H → Prop), wp d 194 77 [l0, l1, l2, l3, l4, l5, l6] [.int y, .int x] w 0 Q ↔ if x ≤ y then wp d 194 85 [l0, l1, l2, l3, l4, l5, l6] [] w 0 Q else wp d 194 80 [l0, l1, l2, l3, l4, l5, l6] [] w 0 Q) ∧
  (∀ (d : Nat) (l0 l1 l2 l3 l4 l5 : Option Value) (x : Int32) (w : px_H) (Q : Option Value → px_H → Prop), wp d 194 80 [l0, l1, l2, l3, l4, l5, some (.int x)] [] w 0 Q ↔ wp d 194 82 [l0, l1, l2, l3, l4, l5, some (.int x)] [.int x] w 0 Q) ∧
  (∀ (d : Nat) (l0 l1 l2 l3 l4 l5 l6 : Option Value) (s0 : Value)  (w : px_H) (Q : Option Value → px_H → Prop), wp d 194 82 [l0, l1, l2, l3, l4, l5, l6] [s0] w 0 Q ↔ wp d 194 87 [l0, l1, l2, l3, l4, l5, l6] [s0] w 0 Q) ∧
  (∀ (d : Nat) (l0 l1 l2 l3 l5 l6 : Option Value) (x : Int32) (w : px_H) (Q : Option Value → px_H → Prop), wp d 194 85 [l0, l1, l2, l3, some (.int x), l5, l6] [] w 0 Q ↔ wp d 194 87 [l0, l1, l2, l3, some (.int x), l5, l6] [.int x] w 0 Q) ∧
  (∀ (d : Nat) (l0 l1 l2 l3 l4 l5 l6 : Option Value) (x : Int32) (w : px_H) (Q : Option Value → px_H → Prop), wp d 194 87 [l0, l1, l2, l3, l4, l5, l6] [.int x] w 0 Q ↔ wp d 194 89 [l0, l1, l2, l3, some (.int x), l5, l6] [] w 0 Q) ∧
  (∀ (d : Nat) (l0 l1 l2 l3 l4 l6 : Option Value) (x : Int32) (w : px_H) (Q : Option Value → px_H → Prop), wp d 194 89 [l0, l1, l2, l3, l4, some (.int x), l6] [] w 0 Q ↔ wp d 194 92 [l0, l1, l2, l3, l4, some (.int (x + 1)), l6] [] w 0 Q) ∧
  (∀ (d : Nat) (l0 l1 l2 l3 l4 l5 l6 : Option Value)  (w : px_H) (Q : Option Value → px_H → Prop), wp d 194 92 [l0, l1, l2, l3, l4, l5, l6] [] w 0 Q ↔ wp d 194 40 [l0, l1, l2, l3, l4, l5, l6] [] w 0 Q) ∧
  (∀ (d : Nat) (l0 l1 l3 l4 l5 l6 : Option Value) (x : Int32) (w : px_H) (Q : Option Value → px_H → Prop), wp d 194 95 [l0, l1, some (.int x), l3, l4, l5, l6] [] w 0 Q ↔ wp d 194 96 [l0, l1, some (.int x), l3, l4, l5, l6] [.int x] w 0 Q) ∧
  (∀ (d : Nat) (l0 l1 l2 l3 l4 l5 l6 : Option Value) (x : Int32) (w : px_H) (Q : Option Value → px_H → Prop), wp d 194 96 [l0, l1, l2, l3, l4, l5, l6] [.int x] w 0 Q ↔ if x = 0 then wp d 194 99 [l0, l1, l2, l3, l4, l5, l6] [] w 0 Q else wp d 194 103 [l0, l1, l2, l3, l4, l5, l6] [] w 0 Q) ∧
  (∀ (d : Nat) (l0 l1 l2 l4 l5 l6 : Option Value) (x : Int32) (w : px_H) (Q : Option Value → px_H → Prop), wp d 194 99 [l0, l1, l2, some (.int x), l4, l5, l6] [] w 0 Q ↔ wp d 194 100 [l0, l1, l2, some (.int x), l4, l5, l6] [.int x] w 0 Q) ∧
  (∀ (d : Nat) (l0 l1 l2 l3 l4 l5 l6 : Option Value) (s0 : Value)  (w : px_H) (Q : Option Value → px_H → Prop), wp d 194 100 [l0, l1, l2, l3, l4, l5, l6] [s0] w 0 Q ↔ wp d 194 118 [l0, l1, l2, l3, l4, l5, l6] [s0] w 0 Q) ∧
  (∀ (d : Nat) (l0 l1 l2 l3 l5 l6 : Option Value) (x : Int32) (w : px_H) (Q : Option Value → px_H → Prop), wp d 194 103 [l0, l1, l2, l3, some (.int x), l5, l6] [] w 0 Q ↔ wp d 194 105 [l0, l1, l2, l3, some (.int x), l5, l6] [.int x] w 0 Q) ∧
  (∀ (d : Nat) (l0 l1 l2 l3 l4 l5 l6 : Option Value) (s0 : Value)  (w : px_H) (Q : Option Value → px_H → Prop), wp d 194 105 [l0, l1, l2, l3, l4, l5, l6] [s0] w 0 Q ↔ wp d 194 108 [l0, l1, l2, l3, l4, l5, l6] [.int 1000, s0] w 0 Q) ∧
  (∀ (d : Nat) (l0 l1 l2 l3 l4 l5 l6 : Option Value) (x y : Int32) (w : px_H) (Q : Option Value → px_H → Prop), wp d 194 108 [l0, l1, l2, l3, l4, l5, l6] [.int y, .int x] w 0 Q ↔ if x = y then wp d 194 111 [l0, l1, l2, l3, l4, l5, l6] [] w 0 Q else wp d 194 116 [l0, l1, l2, l3, l4, l5, l6] [] w 0 Q) ∧
  (∀ (d : Nat) (l0 l1 l2 l3 l4 l5 l6 : Option Value)  (w : px_H) (Q : Option Value → px_H → Prop), wp d 194 111 [l0, l1, l2, l3, l4, l5, l6] [] w 0 Q ↔ wp d 194 113 [l0, l1, l2, l3, l4, l5, l6] [.int (-1000000)] w 0 Q) ∧
  (∀ (d : Nat) (l0 l1 l2 l3 l4 l5 l6 : Option Value) (s0 : Value)  (w : px_H) (Q : Option Value → px_H → Prop), wp d 194 113 [l0, l1, l2, l3, l4, l5, l6] [s0] w 0 Q ↔ wp d 194 118 [l0, l1, l2, l3, l4, l5, l6] [s0] w 0 Q) ∧
  (∀ (d : Nat) (l0 l1 l2 l3 l5 l6 : Option Value) (x : Int32) (w : px_H) (Q : Option Value → px_H → Prop), wp d 194 116 [l0, l1, l2, l3, some (.int x), l5, l6] [] w 0 Q ↔ wp d 194 118 [l0, l1, l2, l3, some (.int x), l5, l6] [.int x] w 0 Q) ∧
  (∀ (d : Nat) (l0 l1 l2 l3 l4 l5 l6 : Option Value) (x : Int32) (w : px_H) (Q : Option Value → px_H → Prop), wp d 194 118 [l0, l1, l2, l3, l4, l5, l6] [.int x] w 0 Q ↔ Q (some (.int x)) w) := ⟨fun d v0 v1 v2 w Q => r_entry pt_194 (Nat.le_of_ble_eq_true rfl) rfl,
  fun d l1 l2 l3 l4 l5 l6 a w Q => px_go (q := (.aload_n 0, 1, px_x0)) (S' := (1, [some (.ref a), l1, l2, l3, l4, l5, l6], [.ref a], w, 0)) pt_194 rfl rfl,
  fun d l0 l1 l2 l3 l4 l5 l6 b w Q => r_callV (q := (.invokevirtual 171, 3, (33, 0, [(11, 175)], 0, ""))) pt_194 rfl rfl (List.forall_mem_cons.mpr ⟨⟨_, pt_175, Nat.le_of_ble_eq_true rfl, (Nat.le_of_ble_eq_true rfl), rfl⟩, fun _ h => absurd h List.not_mem_nil⟩),
  fun d l0 l1 l2 l3 l4 l5 l6 x w Q => r_if_ne pt_194 rfl rfl,
  fun d l0 l1 l2 l3 l4 l5 l6 w Q => px_go (q := (.ldc 175, 2, (0, 0, [], (-1000002), ""))) (S' := (9, [l0, l1, l2, l3, l4, l5, l6], [.int (-1000002)], w, 0)) pt_194 rfl rfl,
  fun d l0 l1 l2 l3 l4 l5 l6 x w Q => px_ret (q := (.ireturn, 1, px_x0)) pt_194 rfl rfl,
  fun d l1 l2 l3 l4 l5 l6 a w Q => px_go (q := (.aload_n 0, 1, px_x0)) (S' := (11, [some (.ref a), l1, l2, l3, l4, l5, l6], [.ref a], w, 0)) pt_194 rfl rfl,
  fun d l0 l2 l3 l4 l5 l6 s0 x w Q => px_go (q := (.iload_n 1, 1, px_x0)) (S' := (12, [l0, some (.int x), l2, l3, l4, l5, l6], [.int x, s0], w, 0)) pt_194 rfl rfl,
  fun d l0 l1 l2 l3 l4 l5 l6 v0 b w Q => r_callV (q := (.invokevirtual 179, 3, (33, 1, [(11, 183)], 0, ""))) pt_194 rfl rfl (List.forall_mem_cons.mpr ⟨⟨_, pt_183, Nat.le_of_ble_eq_true rfl, (Nat.le_of_ble_eq_true rfl), rfl⟩, fun _ h => absurd h List.not_mem_nil⟩),
  fun d l0 l1 l2 l3 l4 l5 l6 x w Q => r_if_eq pt_194 rfl rfl,
  fun d l0 l1 l3 l4 l5 l6 x w Q => px_go (q := (.iload_n 2, 1, px_x0)) (S' := (19, [l0, l1, some (.int x), l3, l4, l5, l6], [.int x], w, 0)) pt_194 rfl rfl,
  fun d l0 l1 l2 l3 l4 l5 l6 s0 w Q => r_iconst pt_194 rfl (by decide),
  fun d l0 l1 l2 l3 l4 l5 l6 s0 s1 w Q => r_iconst pt_194 rfl (by decide),
  fun d l0 l1 l2 l3 l4 l5 l6 v0 v1 v2 w Q => r_call (q := (.invokestatic 50, 3, (30, 3, [(0, 140)], 0, ""))) pt_194 rfl rfl pt_140 (Nat.le_of_ble_eq_true rfl) (Nat.le_of_ble_eq_true rfl) rfl,
  fun d l0 l1 l2 l3 l4 l5 l6 x w Q => r_if_ne pt_194 rfl rfl,
  fun d l0 l1 l2 l3 l4 l5 l6 w Q => px_go (q := (.ldc 58, 2, (0, 0, [], (-1000001), ""))) (S' := (29, [l0, l1, l2, l3, l4, l5, l6], [.int (-1000001)], w, 0)) pt_194 rfl rfl,
  fun d l0 l1 l2 l3 l4 l5 l6 x w Q => px_ret (q := (.ireturn, 1, px_x0)) pt_194 rfl rfl,
  fun d l0 l1 l2 l3 l4 l5 l6 w Q => px_go (q := (.ldc 119, 2, (0, 0, [], (-1000000), ""))) (S' := (32, [l0, l1, l2, l3, l4, l5, l6], [.int (-1000000)], w, 0)) pt_194 rfl rfl,
  fun d l0 l1 l2 l3 l4 l5 l6 x w Q => px_go (q := (.istore_n 3, 1, px_x0)) (S' := (33, [l0, l1, l2, some (.int x), l4, l5, l6], [], w, 0)) pt_194 rfl rfl,
  fun d l0 l1 l2 l3 l4 l5 l6 w Q => px_go (q := (.ldc 119, 2, (0, 0, [], (-1000000), ""))) (S' := (35, [l0, l1, l2, l3, l4, l5, l6], [.int (-1000000)], w, 0)) pt_194 rfl rfl,
  fun d l0 l1 l2 l3 l4 l5 l6 x w Q => px_go (q := (.istore 4, 2, px_x0)) (S' := (37, [l0, l1, l2, l3, some (.int x), l5, l6], [], w, 0)) pt_194 rfl rfl,
  fun d l0 l1 l2 l3 l4 l5 l6 w Q => r_iconst pt_194 rfl (by decide),
  fun d l0 l1 l2 l3 l4 l5 l6 x w Q => px_go (q := (.istore 5, 2, px_x0)) (S' := (40, [l0, l1, l2, l3, l4, some (.int x), l6], [], w, 0)) pt_194 rfl rfl,
  fun d l1 l2 l3 l4 l5 l6 s0 a w Q => px_go (q := (.aload_n 0, 1, px_x0)) (S' := (43, [some (.ref a), l1, l2, l3, l4, l5, l6], [.ref a, s0], w, 0)) pt_194 rfl rfl,
  fun d l0 l1 l2 l3 l4 l5 l6 s0 s1 w Q => r_iconst pt_194 rfl (by decide),
  fun d l0 l1 l2 l3 l4 l5 l6 s2 v0 b w Q => r_callV (q := (.invokevirtual 69, 3, (33, 1, [(11, 149)], 0, ""))) pt_194 rfl rfl (List.forall_mem_cons.mpr ⟨⟨_, pt_149, Nat.le_of_ble_eq_true rfl, (Nat.le_of_ble_eq_true rfl), rfl⟩, fun _ h => absurd h List.not_mem_nil⟩),
  fun d l0 l1 l2 l3 l4 l5 l6 x y w Q => r_icmp_ge pt_194 rfl rfl,
  fun d l1 l2 l3 l4 l5 l6 a w Q => px_go (q := (.aload_n 0, 1, px_x0)) (S' := (51, [some (.ref a), l1, l2, l3, l4, l5, l6], [.ref a], w, 0)) pt_194 rfl rfl,
  fun d l0 l1 l2 l3 l4 l6 s0 x w Q => px_go (q := (.iload 5, 2, px_x0)) (S' := (53, [l0, l1, l2, l3, l4, some (.int x), l6], [.int x, s0], w, 0)) pt_194 rfl rfl,
  fun d l0 l2 l3 l4 l5 l6 s0 s1 x w Q => px_go (q := (.iload_n 1, 1, px_x0)) (S' := (54, [l0, some (.int x), l2, l3, l4, l5, l6], [.int x, s0, s1], w, 0)) pt_194 rfl rfl,
  fun d l0 l1 l2 l3 l4 l5 l6 v0 v1 b w Q => r_callV (q := (.invokevirtual 197, 3, (33, 2, [(11, 193)], 0, ""))) pt_194 rfl rfl (List.forall_mem_cons.mpr ⟨⟨_, pt_193, Nat.le_of_ble_eq_true rfl, (Nat.le_of_ble_eq_true rfl), rfl⟩, fun _ h => absurd h List.not_mem_nil⟩),
  fun d l0 l1 l2 l3 l4 l5 l6 x w Q => px_go (q := (.istore 6, 2, px_x0)) (S' := (59, [l0, l1, l2, l3, l4, l5, some (.int x)], [], w, 0)) pt_194 rfl rfl,
  fun d l0 l1 l2 l3 l4 l5 x w Q => px_go (q := (.iload 6, 2, px_x0)) (S' := (61, [l0, l1, l2, l3, l4, l5, some (.int x)], [.int x], w, 0)) pt_194 rfl rfl,
  fun d l0 l1 l2 l3 l5 l6 s0 x w Q => px_go (q := (.iload 4, 2, px_x0)) (S' := (63, [l0, l1, l2, l3, some (.int x), l5, l6], [.int x, s0], w, 0)) pt_194 rfl rfl,
  fun d l0 l1 l2 l3 l4 l5 l6 x y w Q => r_icmp_le pt_194 rfl rfl,
  fun d l0 l1 l2 l3 l4 l6 x w Q => px_go (q := (.iload 5, 2, px_x0)) (S' := (68, [l0, l1, l2, l3, l4, some (.int x), l6], [.int x], w, 0)) pt_194 rfl rfl,
  fun d l0 l1 l2 l3 l4 l5 l6 s0 w Q => r_goto pt_194 rfl rfl,
  fun d l0 l1 l2 l4 l5 l6 x w Q => px_go (q := (.iload_n 3, 1, px_x0)) (S' := (72, [l0, l1, l2, some (.int x), l4, l5, l6], [.int x], w, 0)) pt_194 rfl rfl,
  fun d l0 l1 l2 l3 l4 l5 l6 x w Q => px_go (q := (.istore_n 3, 1, px_x0)) (S' := (73, [l0, l1, l2, some (.int x), l4, l5, l6], [], w, 0)) pt_194 rfl rfl,
  fun d l0 l1 l2 l3 l4 l5 x w Q => px_go (q := (.iload 6, 2, px_x0)) (S' := (75, [l0, l1, l2, l3, l4, l5, some (.int x)], [.int x], w, 0)) pt_194 rfl rfl,
  fun d l0 l1 l2 l3 l5 l6 s0 x w Q => px_go (q := (.iload 4, 2, px_x0)) (S' := (77, [l0, l1, l2, l3, some (.int x), l5, l6], [.int x, s0], w, 0)) pt_194 rfl rfl,
  fun d l0 l1 l2 l3 l4 l5 l6 x y w Q => r_icmp_le pt_194 rfl rfl,
  fun d l0 l1 l2 l3 l4 l5 x w Q => px_go (q := (.iload 6, 2, px_x0)) (S' := (82, [l0, l1, l2, l3, l4, l5, some (.int x)], [.int x], w, 0)) pt_194 rfl rfl,
  fun d l0 l1 l2 l3 l4 l5 l6 s0 w Q => r_goto pt_194 rfl rfl,
  fun d l0 l1 l2 l3 l5 l6 x w Q => px_go (q := (.iload 4, 2, px_x0)) (S' := (87, [l0, l1, l2, l3, some (.int x), l5, l6], [.int x], w, 0)) pt_194 rfl rfl,
  fun d l0 l1 l2 l3 l4 l5 l6 x w Q => px_go (q := (.istore 4, 2, px_x0)) (S' := (89, [l0, l1, l2, l3, some (.int x), l5, l6], [], w, 0)) pt_194 rfl rfl,
  fun d l0 l1 l2 l3 l4 l6 x w Q => r_iinc pt_194 rfl rfl (by decide) rfl,
  fun d l0 l1 l2 l3 l4 l5 l6 w Q => r_goto pt_194 rfl rfl,
  fun d l0 l1 l3 l4 l5 l6 x w Q => px_go (q := (.iload_n 2, 1, px_x0)) (S' := (96, [l0, l1, some (.int x), l3, l4, l5, l6], [.int x], w, 0)) pt_194 rfl rfl,
  fun d l0 l1 l2 l3 l4 l5 l6 x w Q => r_if_ne pt_194 rfl rfl,
  fun d l0 l1 l2 l4 l5 l6 x w Q => px_go (q := (.iload_n 3, 1, px_x0)) (S' := (100, [l0, l1, l2, some (.int x), l4, l5, l6], [.int x], w, 0)) pt_194 rfl rfl,
  fun d l0 l1 l2 l3 l4 l5 l6 s0 w Q => r_goto pt_194 rfl rfl,
  fun d l0 l1 l2 l3 l5 l6 x w Q => px_go (q := (.iload 4, 2, px_x0)) (S' := (105, [l0, l1, l2, l3, some (.int x), l5, l6], [.int x], w, 0)) pt_194 rfl rfl,
  fun d l0 l1 l2 l3 l4 l5 l6 s0 w Q => r_sipush pt_194 rfl (by decide),
  fun d l0 l1 l2 l3 l4 l5 l6 x y w Q => r_icmp_ne pt_194 rfl rfl,
  fun d l0 l1 l2 l3 l4 l5 l6 w Q => px_go (q := (.ldc 119, 2, (0, 0, [], (-1000000), ""))) (S' := (113, [l0, l1, l2, l3, l4, l5, l6], [.int (-1000000)], w, 0)) pt_194 rfl rfl,
  fun d l0 l1 l2 l3 l4 l5 l6 s0 w Q => r_goto pt_194 rfl rfl,
  fun d l0 l1 l2 l3 l5 l6 x w Q => px_go (q := (.iload 4, 2, px_x0)) (S' := (118, [l0, l1, l2, l3, some (.int x), l5, l6], [.int x], w, 0)) pt_194 rfl rfl,
  fun d l0 l1 l2 l3 l4 l5 l6 x w Q => px_ret (q := (.ireturn, 1, px_x0)) pt_194 rfl rfl⟩
theorem H194_40 : ∀ (d : Nat) (l0 l1 l2 l3 l4 l6 : Option Value) (x : Int32) (w : px_H) (Q : Option Value → px_H → Prop), wp d 194 40 [l0, l1, l2, l3, l4, some (.int x), l6] [] w 0 Q ↔ wp d 194 42 [l0, l1, l2, l3, l4, some (.int x), l6] [.int x] w 0 Q := fun d l0 l1 l2 l3 l4 l6 x w Q => px_go (q := (.iload 5, 2, px_x0)) (S' := (42, [l0, l1, l2, l3, l4, some (.int x), l6], [.int x], w, 0)) pt_194 rfl rfl
/-- AllSwornModel.ofKinds(I)I heads: [4] -/
theorem S195 : (∀ (d : Nat) (v0 v1 : Value) (w : px_H) (Q : Option Value → px_H → Prop), wc d 195 [v0, v1] w Q ↔ wp d 195 0 [some v0, some v1, none, none] [] w 0 Q) ∧
  (∀ (d : Nat) (l0 l1 l2 l3 : Option Value)  (w : px_H) (Q : Option Value → px_H → Prop), wp d 195 0 [l0, l1, l2, l3] [] w 0 Q ↔ wp d 195 1 [l0, l1, l2, l3] [.int 0] w 0 Q) ∧
  (∀ (d : Nat) (l0 l1 l2 l3 : Option Value) (x : Int32) (w : px_H) (Q : Option Value → px_H → Prop), wp d 195 1 [l0, l1, l2, l3] [.int x] w 0 Q ↔ wp d 195 2 [l0, l1, some (.int x), l3] [] w 0 Q) ∧
  (∀ (d : Nat) (l0 l1 l2 l3 : Option Value)  (w : px_H) (Q : Option Value → px_H → Prop), wp d 195 2 [l0, l1, l2, l3] [] w 0 Q ↔ wp d 195 3 [l0, l1, l2, l3] [.int 0] w 0 Q) ∧
  (∀ (d : Nat) (l0 l1 l2 l3 : Option Value) (x : Int32) (w : px_H) (Q : Option Value → px_H → Prop), wp d 195 3 [l0, l1, l2, l3] [.int x] w 0 Q ↔ wp d 195 4 [l0, l1, l2, some (.int x)] [] w 0 Q) ∧
  (∀ (d : Nat) (l1 l2 l3 : Option Value) (s0 : Value) (a : Nat) (w : px_H) (Q : Option Value → px_H → Prop), wp d 195 5 [some (.ref a), l1, l2, l3] [s0] w 0 Q ↔ wp d 195 6 [some (.ref a), l1, l2, l3] [.ref a, s0] w 0 Q) ∧
  (∀ (d : Nat) (l0 l1 l2 l3 : Option Value) (s0 s1 : Value)  (w : px_H) (Q : Option Value → px_H → Prop), wp d 195 6 [l0, l1, l2, l3] [s0, s1] w 0 Q ↔ wp d 195 7 [l0, l1, l2, l3] [.int 1, s0, s1] w 0 Q) ∧
  (∀ (d : Nat) (l0 l1 l2 l3 : Option Value) (s2 : Value) (v0 : Value) (b : Nat) (w : px_H) (Q : Option Value → px_H → Prop), wp (d + 1) 195 7 [l0, l1, l2, l3] [v0, .ref b, s2] w 0 Q ↔ px_op (px_tgt w b [(11, 149)]) (fun v => wc d v [.ref b, v0] w (fun r w' => wp (d + 1) 195 10 [l0, l1, l2, l3] (r.toList ++ [s2]) w' 0 Q))) ∧
  (∀ (d : Nat) (l0 l1 l2 l3 : Option Value) (x y : Int32) (w : px_H) (Q : Option Value → px_H → Prop), wp d 195 10 [l0, l1, l2, l3] [.int y, .int x] w 0 Q ↔ if y ≤ x then wp d 195 36 [l0, l1, l2, l3] [] w 0 Q else wp d 195 13 [l0, l1, l2, l3] [] w 0 Q) ∧
  (∀ (d : Nat) (l0 l1 l3 : Option Value) (x : Int32) (w : px_H) (Q : Option Value → px_H → Prop), wp d 195 13 [l0, l1, some (.int x), l3] [] w 0 Q ↔ wp d 195 14 [l0, l1, some (.int x), l3] [.int x] w 0 Q) ∧
  (∀ (d : Nat) (l0 l2 l3 : Option Value) (s0 : Value) (x : Int32) (w : px_H) (Q : Option Value → px_H → Prop), wp d 195 14 [l0, some (.int x), l2, l3] [s0] w 0 Q ↔ wp d 195 15 [l0, some (.int x), l2, l3] [.int x, s0] w 0 Q) ∧
  (∀ (d : Nat) (l1 l2 l3 : Option Value) (s0 s1 : Value) (a : Nat) (w : px_H) (Q : Option Value → px_H → Prop), wp d 195 15 [some (.ref a), l1, l2, l3] [s0, s1] w 0 Q ↔ wp d 195 16 [some (.ref a), l1, l2, l3] [.ref a, s0, s1] w 0 Q) ∧
  (∀ (d : Nat) (l0 l1 l2 : Option Value) (s0 s1 s2 : Value) (x : Int32) (w : px_H) (Q : Option Value → px_H → Prop), wp d 195 16 [l0, l1, l2, some (.int x)] [s0, s1, s2] w 0 Q ↔ wp d 195 17 [l0, l1, l2, some (.int x)] [.int x, s0, s1, s2] w 0 Q) ∧
  (∀ (d : Nat) (l0 l1 l2 l3 : Option Value) (s0 s1 s2 s3 : Value)  (w : px_H) (Q : Option Value → px_H → Prop), wp d 195 17 [l0, l1, l2, l3] [s0, s1, s2, s3] w 0 Q ↔ wp d 195 18 [l0, l1, l2, l3] [.int 0, s0, s1, s2, s3] w 0 Q) ∧
  (∀ (d : Nat) (l0 l1 l2 l3 : Option Value) (s3 s4 : Value) (v0 v1 : Value) (b : Nat) (w : px_H) (Q : Option Value → px_H → Prop), wp (d + 1) 195 18 [l0, l1, l2, l3] [v1, v0, .ref b, s3, s4] w 0 Q ↔ px_op (px_tgt w b [(11, 154)]) (fun v => wc d v [.ref b, v0, v1] w (fun r w' => wp (d + 1) 195 21 [l0, l1, l2, l3] (r.toList ++ [s3, s4]) w' 0 Q))) ∧
  (∀ (d : Nat) (l0 l1 l2 l3 : Option Value) (s0 s1 s2 : Value)  (w : px_H) (Q : Option Value → px_H → Prop), wp d 195 21 [l0, l1, l2, l3] [s0, s1, s2] w 0 Q ↔ wp d 195 22 [l0, l1, l2, l3] [.int 1, s0, s1, s2] w 0 Q) ∧
  (∀ (d : Nat) (l0 l1 l2 l3 : Option Value) (s2 s3 : Value) (x y : Int32) (w : px_H) (Q : Option Value → px_H → Prop), wp d 195 22 [l0, l1, l2, l3] [.int y, .int x, s2, s3] w 0 Q ↔ wp d 195 23 [l0, l1, l2, l3] [.int (x - y), s2, s3] w 0 Q) ∧
  (∀ (d : Nat) (l0 l1 l2 l3 : Option Value) (s2 : Value) (x y : Int32) (w : px_H) (Q : Option Value → px_H → Prop), wp d 195 23 [l0, l1, l2, l3] [.int y, .int x, s2] w 0 Q ↔ wp d 195 24 [l0, l1, l2, l3] [.int (x >>> (y &&& 31)), s2] w 0 Q) ∧
  (∀ (d : Nat) (l0 l1 l2 l3 : Option Value) (s0 s1 : Value)  (w : px_H) (Q : Option Value → px_H → Prop), wp d 195 24 [l0, l1, l2, l3] [s0, s1] w 0 Q ↔ wp d 195 25 [l0, l1, l2, l3] [.int 1, s0, s1] w 0 Q) ∧
  (∀ (d : Nat) (l0 l1 l2 l3 : Option Value) (s2 : Value) (x y : Int32) (w : px_H) (Q : Option Value → px_H → Prop), wp d 195 25 [l0, l1, l2, l3] [.int y, .int x, s2] w 0 Q ↔ wp d 195 26 [l0, l1, l2, l3] [.int (x &&& y), s2] w 0 Q) ∧
  (∀ (d : Nat) (l0 l1 l2 : Option Value) (s0 s1 : Value) (x : Int32) (w : px_H) (Q : Option Value → px_H → Prop), wp d 195 26 [l0, l1, l2, some (.int x)] [s0, s1] w 0 Q ↔ wp d 195 27 [l0, l1, l2, some (.int x)] [.int x, s0, s1] w 0 Q) ∧
  (∀ (d : Nat) (l0 l1 l2 l3 : Option Value) (s2 : Value) (x y : Int32) (w : px_H) (Q : Option Value → px_H → Prop), wp d 195 27 [l0, l1, l2, l3] [.int y, .int x, s2] w 0 Q ↔ wp d 195 28 [l0, l1, l2, l3] [.int (x <<< (y &&& 31)), s2] w 0 Q) ∧
  (∀ (d : Nat) (l0 l1 l2 l3 : Option Value) (x y : Int32) (w : px_H) (Q : Option Value → px_H → Prop), wp d 195 28 [l0, l1, l2, l3] [.int y, .int x] w 0 Q ↔ wp d 195 29 [l0, l1, l2, l3] [.int (x ||| y)] w 0 Q) ∧
  (∀ (d : Nat) (l0 l1 l2 l3 : Option Value) (x : Int32) (w : px_H) (Q : Option Value → px_H → Prop), wp d 195 29 [l0, l1, l2, l3] [.int x] w 0 Q ↔ wp d 195 30 [l0, l1, some (.int x), l3] [] w 0 Q) ∧
  (∀ (d : Nat) (l0 l1 l2 : Option Value) (x : Int32) (w : px_H) (Q : Option Value → px_H → Prop), wp d 195 30 [l0, l1, l2, some (.int x)] [] w 0 Q ↔ wp d 195 33 [l0, l1, l2, some (.int (x + 1))] [] w 0 Q) ∧
  (∀ (d : Nat) (l0 l1 l2 l3 : Option Value)  (w : px_H) (Q : Option Value → px_H → Prop), wp d 195 33 [l0, l1, l2, l3] [] w 0 Q ↔ wp d 195 4 [l0, l1, l2, l3] [] w 0 Q) ∧
  (∀ (d : Nat) (l0 l1 l3 : Option Value) (x : Int32) (w : px_H) (Q : Option Value → px_H → Prop), wp d 195 36 [l0, l1, some (.int x), l3] [] w 0 Q ↔ wp d 195 37 [l0, l1, some (.int x), l3] [.int x] w 0 Q) ∧
  (∀ (d : Nat) (l0 l1 l2 l3 : Option Value) (x : Int32) (w : px_H) (Q : Option Value → px_H → Prop), wp d 195 37 [l0, l1, l2, l3] [.int x] w 0 Q ↔ Q (some (.int x)) w) := ⟨fun d v0 v1 w Q => r_entry pt_195 (Nat.le_of_ble_eq_true rfl) rfl,
  fun d l0 l1 l2 l3 w Q => r_iconst pt_195 rfl (by decide),
  fun d l0 l1 l2 l3 x w Q => px_go (q := (.istore_n 2, 1, px_x0)) (S' := (2, [l0, l1, some (.int x), l3], [], w, 0)) pt_195 rfl rfl,
  fun d l0 l1 l2 l3 w Q => r_iconst pt_195 rfl (by decide),
  fun d l0 l1 l2 l3 x w Q => px_go (q := (.istore_n 3, 1, px_x0)) (S' := (4, [l0, l1, l2, some (.int x)], [], w, 0)) pt_195 rfl rfl,
  fun d l1 l2 l3 s0 a w Q => px_go (q := (.aload_n 0, 1, px_x0)) (S' := (6, [some (.ref a), l1, l2, l3], [.ref a, s0], w, 0)) pt_195 rfl rfl,
  fun d l0 l1 l2 l3 s0 s1 w Q => r_iconst pt_195 rfl (by decide),
  fun d l0 l1 l2 l3 s2 v0 b w Q => r_callV (q := (.invokevirtual 69, 3, (33, 1, [(11, 149)], 0, ""))) pt_195 rfl rfl (List.forall_mem_cons.mpr ⟨⟨_, pt_149, Nat.le_of_ble_eq_true rfl, (Nat.le_of_ble_eq_true rfl), rfl⟩, fun _ h => absurd h List.not_mem_nil⟩),
  fun d l0 l1 l2 l3 x y w Q => r_icmp_ge pt_195 rfl rfl,
  fun d l0 l1 l3 x w Q => px_go (q := (.iload_n 2, 1, px_x0)) (S' := (14, [l0, l1, some (.int x), l3], [.int x], w, 0)) pt_195 rfl rfl,
  fun d l0 l2 l3 s0 x w Q => px_go (q := (.iload_n 1, 1, px_x0)) (S' := (15, [l0, some (.int x), l2, l3], [.int x, s0], w, 0)) pt_195 rfl rfl,
  fun d l1 l2 l3 s0 s1 a w Q => px_go (q := (.aload_n 0, 1, px_x0)) (S' := (16, [some (.ref a), l1, l2, l3], [.ref a, s0, s1], w, 0)) pt_195 rfl rfl,
  fun d l0 l1 l2 s0 s1 s2 x w Q => px_go (q := (.iload_n 3, 1, px_x0)) (S' := (17, [l0, l1, l2, some (.int x)], [.int x, s0, s1, s2], w, 0)) pt_195 rfl rfl,
  fun d l0 l1 l2 l3 s0 s1 s2 s3 w Q => r_iconst pt_195 rfl (by decide),
  fun d l0 l1 l2 l3 s3 s4 v0 v1 b w Q => r_callV (q := (.invokevirtual 136, 3, (33, 2, [(11, 154)], 0, ""))) pt_195 rfl rfl (List.forall_mem_cons.mpr ⟨⟨_, pt_154, Nat.le_of_ble_eq_true rfl, (Nat.le_of_ble_eq_true rfl), rfl⟩, fun _ h => absurd h List.not_mem_nil⟩),
  fun d l0 l1 l2 l3 s0 s1 s2 w Q => r_iconst pt_195 rfl (by decide),
  fun d l0 l1 l2 l3 s2 s3 x y w Q => px_go (q := (.isub, 1, px_x0)) (S' := (23, [l0, l1, l2, l3], [.int (x - y), s2, s3], w, 0)) pt_195 rfl rfl,
  fun d l0 l1 l2 l3 s2 x y w Q => px_go (q := (.ishr, 1, px_x0)) (S' := (24, [l0, l1, l2, l3], [.int (x >>> (y &&& 31)), s2], w, 0)) pt_195 rfl rfl,
  fun d l0 l1 l2 l3 s0 s1 w Q => r_iconst pt_195 rfl (by decide),
  fun d l0 l1 l2 l3 s2 x y w Q => px_go (q := (.iand, 1, px_x0)) (S' := (26, [l0, l1, l2, l3], [.int (x &&& y), s2], w, 0)) pt_195 rfl rfl,
  fun d l0 l1 l2 s0 s1 x w Q => px_go (q := (.iload_n 3, 1, px_x0)) (S' := (27, [l0, l1, l2, some (.int x)], [.int x, s0, s1], w, 0)) pt_195 rfl rfl,
  fun d l0 l1 l2 l3 s2 x y w Q => px_go (q := (.ishl, 1, px_x0)) (S' := (28, [l0, l1, l2, l3], [.int (x <<< (y &&& 31)), s2], w, 0)) pt_195 rfl rfl,
  fun d l0 l1 l2 l3 x y w Q => px_go (q := (.ior, 1, px_x0)) (S' := (29, [l0, l1, l2, l3], [.int (x ||| y)], w, 0)) pt_195 rfl rfl,
  fun d l0 l1 l2 l3 x w Q => px_go (q := (.istore_n 2, 1, px_x0)) (S' := (30, [l0, l1, some (.int x), l3], [], w, 0)) pt_195 rfl rfl,
  fun d l0 l1 l2 x w Q => r_iinc pt_195 rfl rfl (by decide) rfl,
  fun d l0 l1 l2 l3 w Q => r_goto pt_195 rfl rfl,
  fun d l0 l1 l3 x w Q => px_go (q := (.iload_n 2, 1, px_x0)) (S' := (37, [l0, l1, some (.int x), l3], [.int x], w, 0)) pt_195 rfl rfl,
  fun d l0 l1 l2 l3 x w Q => px_ret (q := (.ireturn, 1, px_x0)) pt_195 rfl rfl⟩
theorem H195_4 : ∀ (d : Nat) (l0 l1 l2 : Option Value) (x : Int32) (w : px_H) (Q : Option Value → px_H → Prop), wp d 195 4 [l0, l1, l2, some (.int x)] [] w 0 Q ↔ wp d 195 5 [l0, l1, l2, some (.int x)] [.int x] w 0 Q := fun d l0 l1 l2 x w Q => px_go (q := (.iload_n 3, 1, px_x0)) (S' := (5, [l0, l1, l2, some (.int x)], [.int x], w, 0)) pt_195 rfl rfl
/-- AllSwornModel.enough(I)I heads: [27] -/
theorem S196 : (∀ (d : Nat) (v0 v1 : Value) (w : px_H) (Q : Option Value → px_H → Prop), wc d 196 [v0, v1] w Q ↔ wp d 196 0 [some v0, some v1, none, none, none] [] w 0 Q) ∧
  (∀ (d : Nat) (l1 l2 l3 l4 : Option Value) (a : Nat) (w : px_H) (Q : Option Value → px_H → Prop), wp d 196 0 [some (.ref a), l1, l2, l3, l4] [] w 0 Q ↔ wp d 196 1 [some (.ref a), l1, l2, l3, l4] [.ref a] w 0 Q) ∧
  (∀ (d : Nat) (l0 l1 l2 l3 l4 : Option Value)  (b : Nat) (w : px_H) (Q : Option Value → px_H → Prop), wp (d + 1) 196 1 [l0, l1, l2, l3, l4] [.ref b] w 0 Q ↔ px_op (px_tgt w b [(11, 175)]) (fun v => wc d v [.ref b] w (fun r w' => wp (d + 1) 196 4 [l0, l1, l2, l3, l4] (r.toList ++ []) w' 0 Q))) ∧
  (∀ (d : Nat) (l0 l1 l2 l3 l4 : Option Value) (x : Int32) (w : px_H) (Q : Option Value → px_H → Prop), wp d 196 4 [l0, l1, l2, l3, l4] [.int x] w 0 Q ↔ if x = 0 then wp d 196 7 [l0, l1, l2, l3, l4] [] w 0 Q else wp d 196 10 [l0, l1, l2, l3, l4] [] w 0 Q) ∧
  (∀ (d : Nat) (l0 l1 l2 l3 l4 : Option Value)  (w : px_H) (Q : Option Value → px_H → Prop), wp d 196 7 [l0, l1, l2, l3, l4] [] w 0 Q ↔ wp d 196 9 [l0, l1, l2, l3, l4] [.int (-1000002)] w 0 Q) ∧
  (∀ (d : Nat) (l0 l1 l2 l3 l4 : Option Value) (x : Int32) (w : px_H) (Q : Option Value → px_H → Prop), wp d 196 9 [l0, l1, l2, l3, l4] [.int x] w 0 Q ↔ Q (some (.int x)) w) ∧
  (∀ (d : Nat) (l0 l2 l3 l4 : Option Value) (x : Int32) (w : px_H) (Q : Option Value → px_H → Prop), wp d 196 10 [l0, some (.int x), l2, l3, l4] [] w 0 Q ↔ wp d 196 11 [l0, some (.int x), l2, l3, l4] [.int x] w 0 Q) ∧
  (∀ (d : Nat) (l0 l1 l2 l3 l4 : Option Value) (s0 : Value)  (w : px_H) (Q : Option Value → px_H → Prop), wp d 196 11 [l0, l1, l2, l3, l4] [s0] w 0 Q ↔ wp d 196 12 [l0, l1, l2, l3, l4] [.int 0, s0] w 0 Q) ∧
  (∀ (d : Nat) (l0 l1 l2 l3 l4 : Option Value) (s0 s1 : Value)  (w : px_H) (Q : Option Value → px_H → Prop), wp d 196 12 [l0, l1, l2, l3, l4] [s0, s1] w 0 Q ↔ wp d 196 13 [l0, l1, l2, l3, l4] [.int 1, s0, s1] w 0 Q) ∧
  (∀ (d : Nat) (l0 l1 l2 l3 l4 : Option Value) (v0 v1 v2 : Value) (w : px_H) (Q : Option Value → px_H → Prop), wp (d + 1) 196 13 [l0, l1, l2, l3, l4] [v2, v1, v0] w 0 Q ↔ wc d 140 [v0, v1, v2] w (fun r w' => wp (d + 1) 196 16 [l0, l1, l2, l3, l4] (r.toList ++ []) w' 0 Q)) ∧
  (∀ (d : Nat) (l0 l1 l2 l3 l4 : Option Value) (x : Int32) (w : px_H) (Q : Option Value → px_H → Prop), wp d 196 16 [l0, l1, l2, l3, l4] [.int x] w 0 Q ↔ if x = 0 then wp d 196 19 [l0, l1, l2, l3, l4] [] w 0 Q else wp d 196 22 [l0, l1, l2, l3, l4] [] w 0 Q) ∧
  (∀ (d : Nat) (l0 l1 l2 l3 l4 : Option Value)  (w : px_H) (Q : Option Value → px_H → Prop), wp d 196 19 [l0, l1, l2, l3, l4] [] w 0 Q ↔ wp d 196 21 [l0, l1, l2, l3, l4] [.int (-1000001)] w 0 Q) ∧
  (∀ (d : Nat) (l0 l1 l2 l3 l4 : Option Value) (x : Int32) (w : px_H) (Q : Option Value → px_H → Prop), wp d 196 21 [l0, l1, l2, l3, l4] [.int x] w 0 Q ↔ Q (some (.int x)) w) ∧
  (∀ (d : Nat) (l0 l1 l2 l3 l4 : Option Value)  (w : px_H) (Q : Option Value → px_H → Prop), wp d 196 22 [l0, l1, l2, l3, l4] [] w 0 Q ↔ wp d 196 24 [l0, l1, l2, l3, l4] [.int (-1000000)] w 0 Q) ∧
  (∀ (d : Nat) (l0 l1 l2 l3 l4 : Option Value) (x : Int32) (w : px_H) (Q : Option Value → px_H → Prop), wp d 196 24 [l0, l1, l2, l3, l4] [.int x] w 0 Q ↔ wp d 196 25 [l0, l1, some (.int x), l3, l4] [] w 0 Q) ∧
  (∀ (d : Nat) (l0 l1 l2 l3 l4 : Option Value)  (w : px_H) (Q : Option Value → px_H → Prop), wp d 196 25 [l0, l1, l2, l3, l4] [] w 0 Q ↔ wp d 196 26 [l0, l1, l2, l3, l4] [.int 0] w 0 Q) ∧
  (∀ (d : Nat) (l0 l1 l2 l3 l4 : Option Value) (x : Int32) (w : px_H) (Q : Option Value → px_H → Prop), wp d 196 26 [l0, l1, l2, l3, l4] [.int x] w 0 Q ↔ wp d 196 27 [l0, l1, l2, some (.int x), l4] [] w 0 Q) ∧
  (∀ (d : Nat) (l0 l1 l2 l3 l4 : Option Value) (s0 : Value)  (w : px_H) (Q : Option Value → px_H → Prop), wp d 196 28 [l0, l1, l2, l3, l4] [s0] w 0 Q ↔ wp d 196 30 [l0, l1, l2, l3, l4] [.int 32, s0] w 0 Q) ∧
  (∀ (d : Nat) (l0 l1 l2 l3 l4 : Option Value) (x y : Int32) (w : px_H) (Q : Option Value → px_H → Prop), wp d 196 30 [l0, l1, l2, l3, l4] [.int y, .int x] w 0 Q ↔ if y ≤ x then wp d 196 86 [l0, l1, l2, l3, l4] [] w 0 Q else wp d 196 33 [l0, l1, l2, l3, l4] [] w 0 Q) ∧
  (∀ (d : Nat) (l0 l1 l3 l4 : Option Value) (x : Int32) (w : px_H) (Q : Option Value → px_H → Prop), wp d 196 33 [l0, l1, some (.int x), l3, l4] [] w 0 Q ↔ wp d 196 34 [l0, l1, some (.int x), l3, l4] [.int x] w 0 Q) ∧
  (∀ (d : Nat) (l0 l1 l2 l3 l4 : Option Value) (s0 : Value)  (w : px_H) (Q : Option Value → px_H → Prop), wp d 196 34 [l0, l1, l2, l3, l4] [s0] w 0 Q ↔ wp d 196 36 [l0, l1, l2, l3, l4] [.int (-1000000), s0] w 0 Q) ∧
  (∀ (d : Nat) (l0 l1 l2 l3 l4 : Option Value) (x y : Int32) (w : px_H) (Q : Option Value → px_H → Prop), wp d 196 36 [l0, l1, l2, l3, l4] [.int y, .int x] w 0 Q ↔ if x = y then wp d 196 50 [l0, l1, l2, l3, l4] [] w 0 Q else wp d 196 39 [l0, l1, l2, l3, l4] [] w 0 Q) ∧
  (∀ (d : Nat) (l0 l1 l2 l4 : Option Value) (x : Int32) (w : px_H) (Q : Option Value → px_H → Prop), wp d 196 39 [l0, l1, l2, some (.int x), l4] [] w 0 Q ↔ wp d 196 40 [l0, l1, l2, some (.int x), l4] [.int x] w 0 Q) ∧
  (∀ (d : Nat) (l0 l1 l2 l3 l4 : Option Value) (v0 : Value) (w : px_H) (Q : Option Value → px_H → Prop), wp (d + 1) 196 40 [l0, l1, l2, l3, l4] [v0] w 0 Q ↔ wc d 186 [v0] w (fun r w' => wp (d + 1) 196 43 [l0, l1, l2, l3, l4] (r.toList ++ []) w' 0 Q)) ∧
  (∀ (d : Nat) (l0 l1 l3 l4 : Option Value) (s0 : Value) (x : Int32) (w : px_H) (Q : Option Value → px_H → Prop), wp d 196 43 [l0, l1, some (.int x), l3, l4] [s0] w 0 Q ↔ wp d 196 44 [l0, l1, some (.int x), l3, l4] [.int x, s0] w 0 Q) ∧
  (∀ (d : Nat) (l0 l1 l2 l3 l4 : Option Value) (s1 : Value) (v0 : Value) (w : px_H) (Q : Option Value → px_H → Prop), wp (d + 1) 196 44 [l0, l1, l2, l3, l4] [v0, s1] w 0 Q ↔ wc d 186 [v0] w (fun r w' => wp (d + 1) 196 47 [l0, l1, l2, l3, l4] (r.toList ++ [s1]) w' 0 Q)) ∧
  (∀ (d : Nat) (l0 l1 l2 l3 l4 : Option Value) (x y : Int32) (w : px_H) (Q : Option Value → px_H → Prop), wp d 196 47 [l0, l1, l2, l3, l4] [.int y, .int x] w 0 Q ↔ if y ≤ x then wp d 196 54 [l0, l1, l2, l3, l4] [] w 0 Q else wp d 196 50 [l0, l1, l2, l3, l4] [] w 0 Q) ∧
  (∀ (d : Nat) (l0 l1 l2 l3 l4 : Option Value)  (w : px_H) (Q : Option Value → px_H → Prop), wp d 196 50 [l0, l1, l2, l3, l4] [] w 0 Q ↔ wp d 196 51 [l0, l1, l2, l3, l4] [.int 1] w 0 Q) ∧
  (∀ (d : Nat) (l0 l1 l2 l3 l4 : Option Value) (s0 : Value)  (w : px_H) (Q : Option Value → px_H → Prop), wp d 196 51 [l0, l1, l2, l3, l4] [s0] w 0 Q ↔ wp d 196 55 [l0, l1, l2, l3, l4] [s0] w 0 Q) ∧
  (∀ (d : Nat) (l0 l1 l2 l3 l4 : Option Value)  (w : px_H) (Q : Option Value → px_H → Prop), wp d 196 54 [l0, l1, l2, l3, l4] [] w 0 Q ↔ wp d 196 55 [l0, l1, l2, l3, l4] [.int 0] w 0 Q) ∧
  (∀ (d : Nat) (l0 l1 l2 l3 l4 : Option Value) (x : Int32) (w : px_H) (Q : Option Value → px_H → Prop), wp d 196 55 [l0, l1, l2, l3, l4] [.int x] w 0 Q ↔ wp d 196 57 [l0, l1, l2, l3, some (.int x)] [] w 0 Q) ∧
  (∀ (d : Nat) (l0 l1 l2 l3 : Option Value) (x : Int32) (w : px_H) (Q : Option Value → px_H → Prop), wp d 196 57 [l0, l1, l2, l3, some (.int x)] [] w 0 Q ↔ wp d 196 59 [l0, l1, l2, l3, some (.int x)] [.int x] w 0 Q) ∧
  (∀ (d : Nat) (l0 l1 l2 l3 l4 : Option Value) (x : Int32) (w : px_H) (Q : Option Value → px_H → Prop), wp d 196 59 [l0, l1, l2, l3, l4] [.int x] w 0 Q ↔ if x = 0 then wp d 196 78 [l0, l1, l2, l3, l4] [] w 0 Q else wp d 196 62 [l0, l1, l2, l3, l4] [] w 0 Q) ∧
  (∀ (d : Nat) (l1 l2 l3 l4 : Option Value) (a : Nat) (w : px_H) (Q : Option Value → px_H → Prop), wp d 196 62 [some (.ref a), l1, l2, l3, l4] [] w 0 Q ↔ wp d 196 63 [some (.ref a), l1, l2, l3, l4] [.ref a] w 0 Q) ∧
  (∀ (d : Nat) (l1 l2 l3 l4 : Option Value) (s0 : Value) (a : Nat) (w : px_H) (Q : Option Value → px_H → Prop), wp d 196 63 [some (.ref a), l1, l2, l3, l4] [s0] w 0 Q ↔ wp d 196 64 [some (.ref a), l1, l2, l3, l4] [.ref a, s0] w 0 Q) ∧
  (∀ (d : Nat) (l0 l1 l2 l4 : Option Value) (s0 s1 : Value) (x : Int32) (w : px_H) (Q : Option Value → px_H → Prop), wp d 196 64 [l0, l1, l2, some (.int x), l4] [s0, s1] w 0 Q ↔ wp d 196 65 [l0, l1, l2, some (.int x), l4] [.int x, s0, s1] w 0 Q) ∧
  (∀ (d : Nat) (l0 l1 l2 l3 l4 : Option Value) (s2 : Value) (v0 : Value) (b : Nat) (w : px_H) (Q : Option Value → px_H → Prop), wp (d + 1) 196 65 [l0, l1, l2, l3, l4] [v0, .ref b, s2] w 0 Q ↔ px_op (px_tgt w b [(11, 195)]) (fun v => wc d v [.ref b, v0] w (fun r w' => wp (d + 1) 196 68 [l0, l1, l2, l3, l4] (r.toList ++ [s2]) w' 0 Q))) ∧
  (∀ (d : Nat) (l0 l1 l2 l3 l4 : Option Value) (v0 : Value) (b : Nat) (w : px_H) (Q : Option Value → px_H → Prop), wp (d + 1) 196 68 [l0, l1, l2, l3, l4] [v0, .ref b] w 0 Q ↔ px_op (px_tgt w b [(11, 169)]) (fun v => wc d v [.ref b, v0] w (fun r w' => wp (d + 1) 196 71 [l0, l1, l2, l3, l4] (r.toList ++ []) w' 0 Q))) ∧
  (∀ (d : Nat) (l0 l1 l2 l3 l4 : Option Value) (x : Int32) (w : px_H) (Q : Option Value → px_H → Prop), wp d 196 71 [l0, l1, l2, l3, l4] [.int x] w 0 Q ↔ if x = 0 then wp d 196 74 [l0, l1, l2, l3, l4] [] w 0 Q else wp d 196 78 [l0, l1, l2, l3, l4] [] w 0 Q) ∧
  (∀ (d : Nat) (l0 l1 l2 l4 : Option Value) (x : Int32) (w : px_H) (Q : Option Value → px_H → Prop), wp d 196 74 [l0, l1, l2, some (.int x), l4] [] w 0 Q ↔ wp d 196 75 [l0, l1, l2, some (.int x), l4] [.int x] w 0 Q) ∧
  (∀ (d : Nat) (l0 l1 l2 l3 l4 : Option Value) (s0 : Value)  (w : px_H) (Q : Option Value → px_H → Prop), wp d 196 75 [l0, l1, l2, l3, l4] [s0] w 0 Q ↔ wp d 196 79 [l0, l1, l2, l3, l4] [s0] w 0 Q) ∧
  (∀ (d : Nat) (l0 l1 l3 l4 : Option Value) (x : Int32) (w : px_H) (Q : Option Value → px_H → Prop), wp d 196 78 [l0, l1, some (.int x), l3, l4] [] w 0 Q ↔ wp d 196 79 [l0, l1, some (.int x), l3, l4] [.int x] w 0 Q) ∧
  (∀ (d : Nat) (l0 l1 l2 l3 l4 : Option Value) (x : Int32) (w : px_H) (Q : Option Value → px_H → Prop), wp d 196 79 [l0, l1, l2, l3, l4] [.int x] w 0 Q ↔ wp d 196 80 [l0, l1, some (.int x), l3, l4] [] w 0 Q) ∧
  (∀ (d : Nat) (l0 l1 l2 l4 : Option Value) (x : Int32) (w : px_H) (Q : Option Value → px_H → Prop), wp d 196 80 [l0, l1, l2, some (.int x), l4] [] w 0 Q ↔ wp d 196 83 [l0, l1, l2, some (.int (x + 1)), l4] [] w 0 Q) ∧
  (∀ (d : Nat) (l0 l1 l2 l3 l4 : Option Value)  (w : px_H) (Q : Option Value → px_H → Prop), wp d 196 83 [l0, l1, l2, l3, l4] [] w 0 Q ↔ wp d 196 27 [l0, l1, l2, l3, l4] [] w 0 Q) ∧
  (∀ (d : Nat) (l0 l1 l3 l4 : Option Value) (x : Int32) (w : px_H) (Q : Option Value → px_H → Prop), wp d 196 86 [l0, l1, some (.int x), l3, l4] [] w 0 Q ↔ wp d 196 87 [l0, l1, some (.int x), l3, l4] [.int x] w 0 Q) ∧
  (∀ (d : Nat) (l0 l1 l2 l3 l4 : Option Value) (s0 : Value)  (w : px_H) (Q : Option Value → px_H → Prop), wp d 196 87 [l0, l1, l2, l3, l4] [s0] w 0 Q ↔ wp d 196 89 [l0, l1, l2, l3, l4] [.int (-1000000), s0] w 0 Q) ∧
  (∀ (d : Nat) (l0 l1 l2 l3 l4 : Option Value) (x y : Int32) (w : px_H) (Q : Option Value → px_H → Prop), wp d 196 89 [l0, l1, l2, l3, l4] [.int y, .int x] w 0 Q ↔ if x = y then wp d 196 97 [l0, l1, l2, l3, l4] [] w 0 Q else wp d 196 92 [l0, l1, l2, l3, l4] [] w 0 Q) ∧
  (∀ (d : Nat) (l0 l2 l3 l4 : Option Value) (x : Int32) (w : px_H) (Q : Option Value → px_H → Prop), wp d 196 92 [l0, some (.int x), l2, l3, l4] [] w 0 Q ↔ wp d 196 93 [l0, some (.int x), l2, l3, l4] [.int x] w 0 Q) ∧
  (∀ (d : Nat) (l0 l1 l2 l3 l4 : Option Value) (s0 : Value)  (w : px_H) (Q : Option Value → px_H → Prop), wp d 196 93 [l0, l1, l2, l3, l4] [s0] w 0 Q ↔ wp d 196 94 [l0, l1, l2, l3, l4] [.int 1, s0] w 0 Q) ∧
  (∀ (d : Nat) (l0 l1 l2 l3 l4 : Option Value) (x y : Int32) (w : px_H) (Q : Option Value → px_H → Prop), wp d 196 94 [l0, l1, l2, l3, l4] [.int y, .int x] w 0 Q ↔ if x = y then wp d 196 97 [l0, l1, l2, l3, l4] [] w 0 Q else wp d 196 101 [l0, l1, l2, l3, l4] [] w 0 Q) ∧
  (∀ (d : Nat) (l0 l1 l3 l4 : Option Value) (x : Int32) (w : px_H) (Q : Option Value → px_H → Prop), wp d 196 97 [l0, l1, some (.int x), l3, l4] [] w 0 Q ↔ wp d 196 98 [l0, l1, some (.int x), l3, l4] [.int x] w 0 Q) ∧
  (∀ (d : Nat) (l0 l1 l2 l3 l4 : Option Value) (s0 : Value)  (w : px_H) (Q : Option Value → px_H → Prop), wp d 196 98 [l0, l1, l2, l3, l4] [s0] w 0 Q ↔ wp d 196 105 [l0, l1, l2, l3, l4] [s0] w 0 Q) ∧
  (∀ (d : Nat) (l0 l1 l3 l4 : Option Value) (x : Int32) (w : px_H) (Q : Option Value → px_H → Prop), wp d 196 101 [l0, l1, some (.int x), l3, l4] [] w 0 Q ↔ wp d 196 102 [l0, l1, some (.int x), l3, l4] [.int x] w 0 Q) ∧
  (∀ (d : Nat) (l0 l1 l2 l3 l4 : Option Value) (v0 : Value) (w : px_H) (Q : Option Value → px_H → Prop), wp (d + 1) 196 102 [l0, l1, l2, l3, l4] [v0] w 0 Q ↔ wc d 186 [v0] w (fun r w' => wp (d + 1) 196 105 [l0, l1, l2, l3, l4] (r.toList ++ []) w' 0 Q)) ∧
  (∀ (d : Nat) (l0 l1 l2 l3 l4 : Option Value) (x : Int32) (w : px_H) (Q : Option Value → px_H → Prop), wp d 196 105 [l0, l1, l2, l3, l4] [.int x] w 0 Q ↔ Q (some (.int x)) w) := ⟨fun d v0 v1 w Q => r_entry pt_196 (Nat.le_of_ble_eq_true rfl) rfl,
  fun d l1 l2 l3 l4 a w Q => px_go (q := (.aload_n 0, 1, px_x0)) (S' := (1, [some (.ref a), l1, l2, l3, l4], [.ref a], w, 0)) pt_196 rfl rfl,
  fun d l0 l1 l2 l3 l4 b w Q => r_callV (q := (.invokevirtual 171, 3, (33, 0, [(11, 175)], 0, ""))) pt_196 rfl rfl (List.forall_mem_cons.mpr ⟨⟨_, pt_175, Nat.le_of_ble_eq_true rfl, (Nat.le_of_ble_eq_true rfl), rfl⟩, fun _ h => absurd h List.not_mem_nil⟩),
  fun d l0 l1 l2 l3 l4 x w Q => r_if_ne pt_196 rfl rfl,
  fun d l0 l1 l2 l3 l4 w Q => px_go (q := (.ldc 175, 2, (0, 0, [], (-1000002), ""))) (S' := (9, [l0, l1, l2, l3, l4], [.int (-1000002)], w, 0)) pt_196 rfl rfl,
  fun d l0 l1 l2 l3 l4 x w Q => px_ret (q := (.ireturn, 1, px_x0)) pt_196 rfl rfl,
  fun d l0 l2 l3 l4 x w Q => px_go (q := (.iload_n 1, 1, px_x0)) (S' := (11, [l0, some (.int x), l2, l3, l4], [.int x], w, 0)) pt_196 rfl rfl,
  fun d l0 l1 l2 l3 l4 s0 w Q => r_iconst pt_196 rfl (by decide),
  fun d l0 l1 l2 l3 l4 s0 s1 w Q => r_iconst pt_196 rfl (by decide),
  fun d l0 l1 l2 l3 l4 v0 v1 v2 w Q => r_call (q := (.invokestatic 50, 3, (30, 3, [(0, 140)], 0, ""))) pt_196 rfl rfl pt_140 (Nat.le_of_ble_eq_true rfl) (Nat.le_of_ble_eq_true rfl) rfl,
  fun d l0 l1 l2 l3 l4 x w Q => r_if_ne pt_196 rfl rfl,
  fun d l0 l1 l2 l3 l4 w Q => px_go (q := (.ldc 58, 2, (0, 0, [], (-1000001), ""))) (S' := (21, [l0, l1, l2, l3, l4], [.int (-1000001)], w, 0)) pt_196 rfl rfl,
  fun d l0 l1 l2 l3 l4 x w Q => px_ret (q := (.ireturn, 1, px_x0)) pt_196 rfl rfl,
  fun d l0 l1 l2 l3 l4 w Q => px_go (q := (.ldc 119, 2, (0, 0, [], (-1000000), ""))) (S' := (24, [l0, l1, l2, l3, l4], [.int (-1000000)], w, 0)) pt_196 rfl rfl,
  fun d l0 l1 l2 l3 l4 x w Q => px_go (q := (.istore_n 2, 1, px_x0)) (S' := (25, [l0, l1, some (.int x), l3, l4], [], w, 0)) pt_196 rfl rfl,
  fun d l0 l1 l2 l3 l4 w Q => r_iconst pt_196 rfl (by decide),
  fun d l0 l1 l2 l3 l4 x w Q => px_go (q := (.istore_n 3, 1, px_x0)) (S' := (27, [l0, l1, l2, some (.int x), l4], [], w, 0)) pt_196 rfl rfl,
  fun d l0 l1 l2 l3 l4 s0 w Q => r_bipush pt_196 rfl (by decide),
  fun d l0 l1 l2 l3 l4 x y w Q => r_icmp_ge pt_196 rfl rfl,
  fun d l0 l1 l3 l4 x w Q => px_go (q := (.iload_n 2, 1, px_x0)) (S' := (34, [l0, l1, some (.int x), l3, l4], [.int x], w, 0)) pt_196 rfl rfl,
  fun d l0 l1 l2 l3 l4 s0 w Q => px_go (q := (.ldc 119, 2, (0, 0, [], (-1000000), ""))) (S' := (36, [l0, l1, l2, l3, l4], [.int (-1000000), s0], w, 0)) pt_196 rfl rfl,
  fun d l0 l1 l2 l3 l4 x y w Q => r_icmp_eq pt_196 rfl rfl,
  fun d l0 l1 l2 l4 x w Q => px_go (q := (.iload_n 3, 1, px_x0)) (S' := (40, [l0, l1, l2, some (.int x), l4], [.int x], w, 0)) pt_196 rfl rfl,
  fun d l0 l1 l2 l3 l4 v0 w Q => r_call (q := (.invokestatic 182, 3, (30, 1, [(0, 186)], 0, ""))) pt_196 rfl rfl pt_186 (Nat.le_of_ble_eq_true rfl) (Nat.le_of_ble_eq_true rfl) rfl,
  fun d l0 l1 l3 l4 s0 x w Q => px_go (q := (.iload_n 2, 1, px_x0)) (S' := (44, [l0, l1, some (.int x), l3, l4], [.int x, s0], w, 0)) pt_196 rfl rfl,
  fun d l0 l1 l2 l3 l4 s1 v0 w Q => r_call (q := (.invokestatic 182, 3, (30, 1, [(0, 186)], 0, ""))) pt_196 rfl rfl pt_186 (Nat.le_of_ble_eq_true rfl) (Nat.le_of_ble_eq_true rfl) rfl,
  fun d l0 l1 l2 l3 l4 x y w Q => r_icmp_ge pt_196 rfl rfl,
  fun d l0 l1 l2 l3 l4 w Q => r_iconst pt_196 rfl (by decide),
  fun d l0 l1 l2 l3 l4 s0 w Q => r_goto pt_196 rfl rfl,
  fun d l0 l1 l2 l3 l4 w Q => r_iconst pt_196 rfl (by decide),
  fun d l0 l1 l2 l3 l4 x w Q => px_go (q := (.istore 4, 2, px_x0)) (S' := (57, [l0, l1, l2, l3, some (.int x)], [], w, 0)) pt_196 rfl rfl,
  fun d l0 l1 l2 l3 x w Q => px_go (q := (.iload 4, 2, px_x0)) (S' := (59, [l0, l1, l2, l3, some (.int x)], [.int x], w, 0)) pt_196 rfl rfl,
  fun d l0 l1 l2 l3 l4 x w Q => r_if_eq pt_196 rfl rfl,
  fun d l1 l2 l3 l4 a w Q => px_go (q := (.aload_n 0, 1, px_x0)) (S' := (63, [some (.ref a), l1, l2, l3, l4], [.ref a], w, 0)) pt_196 rfl rfl,
  fun d l1 l2 l3 l4 s0 a w Q => px_go (q := (.aload_n 0, 1, px_x0)) (S' := (64, [some (.ref a), l1, l2, l3, l4], [.ref a, s0], w, 0)) pt_196 rfl rfl,
  fun d l0 l1 l2 l4 s0 s1 x w Q => px_go (q := (.iload_n 3, 1, px_x0)) (S' := (65, [l0, l1, l2, some (.int x), l4], [.int x, s0, s1], w, 0)) pt_196 rfl rfl,
  fun d l0 l1 l2 l3 l4 s2 v0 b w Q => r_callV (q := (.invokevirtual 200, 3, (33, 1, [(11, 195)], 0, ""))) pt_196 rfl rfl (List.forall_mem_cons.mpr ⟨⟨_, pt_195, Nat.le_of_ble_eq_true rfl, (Nat.le_of_ble_eq_true rfl), rfl⟩, fun _ h => absurd h List.not_mem_nil⟩),
  fun d l0 l1 l2 l3 l4 v0 b w Q => r_callV (q := (.invokevirtual 143, 3, (33, 1, [(11, 169)], 0, ""))) pt_196 rfl rfl (List.forall_mem_cons.mpr ⟨⟨_, pt_169, Nat.le_of_ble_eq_true rfl, (Nat.le_of_ble_eq_true rfl), rfl⟩, fun _ h => absurd h List.not_mem_nil⟩),
  fun d l0 l1 l2 l3 l4 x w Q => r_if_ne pt_196 rfl rfl,
  fun d l0 l1 l2 l4 x w Q => px_go (q := (.iload_n 3, 1, px_x0)) (S' := (75, [l0, l1, l2, some (.int x), l4], [.int x], w, 0)) pt_196 rfl rfl,
  fun d l0 l1 l2 l3 l4 s0 w Q => r_goto pt_196 rfl rfl,
  fun d l0 l1 l3 l4 x w Q => px_go (q := (.iload_n 2, 1, px_x0)) (S' := (79, [l0, l1, some (.int x), l3, l4], [.int x], w, 0)) pt_196 rfl rfl,
  fun d l0 l1 l2 l3 l4 x w Q => px_go (q := (.istore_n 2, 1, px_x0)) (S' := (80, [l0, l1, some (.int x), l3, l4], [], w, 0)) pt_196 rfl rfl,
  fun d l0 l1 l2 l4 x w Q => r_iinc pt_196 rfl rfl (by decide) rfl,
  fun d l0 l1 l2 l3 l4 w Q => r_goto pt_196 rfl rfl,
  fun d l0 l1 l3 l4 x w Q => px_go (q := (.iload_n 2, 1, px_x0)) (S' := (87, [l0, l1, some (.int x), l3, l4], [.int x], w, 0)) pt_196 rfl rfl,
  fun d l0 l1 l2 l3 l4 s0 w Q => px_go (q := (.ldc 119, 2, (0, 0, [], (-1000000), ""))) (S' := (89, [l0, l1, l2, l3, l4], [.int (-1000000), s0], w, 0)) pt_196 rfl rfl,
  fun d l0 l1 l2 l3 l4 x y w Q => r_icmp_eq pt_196 rfl rfl,
  fun d l0 l2 l3 l4 x w Q => px_go (q := (.iload_n 1, 1, px_x0)) (S' := (93, [l0, some (.int x), l2, l3, l4], [.int x], w, 0)) pt_196 rfl rfl,
  fun d l0 l1 l2 l3 l4 s0 w Q => r_iconst pt_196 rfl (by decide),
  fun d l0 l1 l2 l3 l4 x y w Q => r_icmp_ne pt_196 rfl rfl,
  fun d l0 l1 l3 l4 x w Q => px_go (q := (.iload_n 2, 1, px_x0)) (S' := (98, [l0, l1, some (.int x), l3, l4], [.int x], w, 0)) pt_196 rfl rfl,
  fun d l0 l1 l2 l3 l4 s0 w Q => r_goto pt_196 rfl rfl,
  fun d l0 l1 l3 l4 x w Q => px_go (q := (.iload_n 2, 1, px_x0)) (S' := (102, [l0, l1, some (.int x), l3, l4], [.int x], w, 0)) pt_196 rfl rfl,
  fun d l0 l1 l2 l3 l4 v0 w Q => r_call (q := (.invokestatic 182, 3, (30, 1, [(0, 186)], 0, ""))) pt_196 rfl rfl pt_186 (Nat.le_of_ble_eq_true rfl) (Nat.le_of_ble_eq_true rfl) rfl,
  fun d l0 l1 l2 l3 l4 x w Q => px_ret (q := (.ireturn, 1, px_x0)) pt_196 rfl rfl⟩
theorem H196_27 : ∀ (d : Nat) (l0 l1 l2 l4 : Option Value) (x : Int32) (w : px_H) (Q : Option Value → px_H → Prop), wp d 196 27 [l0, l1, l2, some (.int x), l4] [] w 0 Q ↔ wp d 196 28 [l0, l1, l2, some (.int x), l4] [.int x] w 0 Q := fun d l0 l1 l2 l4 x w Q => px_go (q := (.iload_n 3, 1, px_x0)) (S' := (28, [l0, l1, l2, some (.int x), l4], [.int x], w, 0)) pt_196 rfl rfl
/-- AllSwornModel.odds(III)I heads: [72, 107] -/
theorem S197 : (∀ (d : Nat) (v0 v1 v2 v3 : Value) (w : px_H) (Q : Option Value → px_H → Prop), wc d 197 [v0, v1, v2, v3] w Q ↔ wp d 197 0 [some v0, some v1, some v2, some v3, none, none, none, none, none, none] [] w 0 Q) ∧
  (∀ (d : Nat) (l1 l2 l3 l4 l5 l6 l7 l8 l9 : Option Value) (a : Nat) (w : px_H) (Q : Option Value → px_H → Prop), wp d 197 0 [some (.ref a), l1, l2, l3, l4, l5, l6, l7, l8, l9] [] w 0 Q ↔ wp d 197 1 [some (.ref a), l1, l2, l3, l4, l5, l6, l7, l8, l9] [.ref a] w 0 Q) ∧
  (∀ (d : Nat) (l0 l2 l3 l4 l5 l6 l7 l8 l9 : Option Value) (s0 : Value) (x : Int32) (w : px_H) (Q : Option Value → px_H → Prop), wp d 197 1 [l0, some (.int x), l2, l3, l4, l5, l6, l7, l8, l9] [s0] w 0 Q ↔ wp d 197 2 [l0, some (.int x), l2, l3, l4, l5, l6, l7, l8, l9] [.int x, s0] w 0 Q) ∧
  (∀ (d : Nat) (l0 l1 l2 l3 l4 l5 l6 l7 l8 l9 : Option Value) (v0 : Value) (b : Nat) (w : px_H) (Q : Option Value → px_H → Prop), wp (d + 1) 197 2 [l0, l1, l2, l3, l4, l5, l6, l7, l8, l9] [v0, .ref b] w 0 Q ↔ px_op (px_tgt w b [(11, 153)]) (fun v => wc d v [.ref b, v0] w (fun r w' => wp (d + 1) 197 5 [l0, l1, l2, l3, l4, l5, l6, l7, l8, l9] (r.toList ++ []) w' 0 Q))) ∧
  (∀ (d : Nat) (l0 l1 l2 l3 l4 l5 l6 l7 l8 l9 : Option Value) (x : Int32) (w : px_H) (Q : Option Value → px_H → Prop), wp d 197 5 [l0, l1, l2, l3, l4, l5, l6, l7, l8, l9] [.int x] w 0 Q ↔ if x = 0 then wp d 197 27 [l0, l1, l2, l3, l4, l5, l6, l7, l8, l9] [] w 0 Q else wp d 197 8 [l0, l1, l2, l3, l4, l5, l6, l7, l8, l9] [] w 0 Q) ∧
  (∀ (d : Nat) (l0 l1 l3 l4 l5 l6 l7 l8 l9 : Option Value) (x : Int32) (w : px_H) (Q : Option Value → px_H → Prop), wp d 197 8 [l0, l1, some (.int x), l3, l4, l5, l6, l7, l8, l9] [] w 0 Q ↔ wp d 197 9 [l0, l1, some (.int x), l3, l4, l5, l6, l7, l8, l9] [.int x] w 0 Q) ∧
  (∀ (d : Nat) (l0 l1 l2 l3 l4 l5 l6 l7 l8 l9 : Option Value) (s0 : Value)  (w : px_H) (Q : Option Value → px_H → Prop), wp d 197 9 [l0, l1, l2, l3, l4, l5, l6, l7, l8, l9] [s0] w 0 Q ↔ wp d 197 10 [l0, l1, l2, l3, l4, l5, l6, l7, l8, l9] [.int 0, s0] w 0 Q) ∧
  (∀ (d : Nat) (l0 l1 l2 l3 l4 l5 l6 l7 l8 l9 : Option Value) (s0 s1 : Value)  (w : px_H) (Q : Option Value → px_H → Prop), wp d 197 10 [l0, l1, l2, l3, l4, l5, l6, l7, l8, l9] [s0, s1] w 0 Q ↔ wp d 197 12 [l0, l1, l2, l3, l4, l5, l6, l7, l8, l9] [.int 10, s0, s1] w 0 Q) ∧
  (∀ (d : Nat) (l0 l1 l2 l3 l4 l5 l6 l7 l8 l9 : Option Value) (v0 v1 v2 : Value) (w : px_H) (Q : Option Value → px_H → Prop), wp (d + 1) 197 12 [l0, l1, l2, l3, l4, l5, l6, l7, l8, l9] [v2, v1, v0] w 0 Q ↔ wc d 140 [v0, v1, v2] w (fun r w' => wp (d + 1) 197 15 [l0, l1, l2, l3, l4, l5, l6, l7, l8, l9] (r.toList ++ []) w' 0 Q)) ∧
  (∀ (d : Nat) (l0 l1 l2 l3 l4 l5 l6 l7 l8 l9 : Option Value) (x : Int32) (w : px_H) (Q : Option Value → px_H → Prop), wp d 197 15 [l0, l1, l2, l3, l4, l5, l6, l7, l8, l9] [.int x] w 0 Q ↔ if x = 0 then wp d 197 27 [l0, l1, l2, l3, l4, l5, l6, l7, l8, l9] [] w 0 Q else wp d 197 18 [l0, l1, l2, l3, l4, l5, l6, l7, l8, l9] [] w 0 Q) ∧
  (∀ (d : Nat) (l0 l1 l2 l4 l5 l6 l7 l8 l9 : Option Value) (x : Int32) (w : px_H) (Q : Option Value → px_H → Prop), wp d 197 18 [l0, l1, l2, some (.int x), l4, l5, l6, l7, l8, l9] [] w 0 Q ↔ wp d 197 19 [l0, l1, l2, some (.int x), l4, l5, l6, l7, l8, l9] [.int x] w 0 Q) ∧
  (∀ (d : Nat) (l0 l1 l2 l3 l4 l5 l6 l7 l8 l9 : Option Value) (s0 : Value)  (w : px_H) (Q : Option Value → px_H → Prop), wp d 197 19 [l0, l1, l2, l3, l4, l5, l6, l7, l8, l9] [s0] w 0 Q ↔ wp d 197 20 [l0, l1, l2, l3, l4, l5, l6, l7, l8, l9] [.int 0, s0] w 0 Q) ∧
  (∀ (d : Nat) (l0 l1 l2 l3 l4 l5 l6 l7 l8 l9 : Option Value) (s0 s1 : Value)  (w : px_H) (Q : Option Value → px_H → Prop), wp d 197 20 [l0, l1, l2, l3, l4, l5, l6, l7, l8, l9] [s0, s1] w 0 Q ↔ wp d 197 21 [l0, l1, l2, l3, l4, l5, l6, l7, l8, l9] [.int 1, s0, s1] w 0 Q) ∧
  (∀ (d : Nat) (l0 l1 l2 l3 l4 l5 l6 l7 l8 l9 : Option Value) (v0 v1 v2 : Value) (w : px_H) (Q : Option Value → px_H → Prop), wp (d + 1) 197 21 [l0, l1, l2, l3, l4, l5, l6, l7, l8, l9] [v2, v1, v0] w 0 Q ↔ wc d 140 [v0, v1, v2] w (fun r w' => wp (d + 1) 197 24 [l0, l1, l2, l3, l4, l5, l6, l7, l8, l9] (r.toList ++ []) w' 0 Q)) ∧
  (∀ (d : Nat) (l0 l1 l2 l3 l4 l5 l6 l7 l8 l9 : Option Value) (x : Int32) (w : px_H) (Q : Option Value → px_H → Prop), wp d 197 24 [l0, l1, l2, l3, l4, l5, l6, l7, l8, l9] [.int x] w 0 Q ↔ if x = 0 then wp d 197 27 [l0, l1, l2, l3, l4, l5, l6, l7, l8, l9] [] w 0 Q else wp d 197 30 [l0, l1, l2, l3, l4, l5, l6, l7, l8, l9] [] w 0 Q) ∧
  (∀ (d : Nat) (l0 l1 l2 l3 l4 l5 l6 l7 l8 l9 : Option Value)  (w : px_H) (Q : Option Value → px_H → Prop), wp d 197 27 [l0, l1, l2, l3, l4, l5, l6, l7, l8, l9] [] w 0 Q ↔ wp d 197 29 [l0, l1, l2, l3, l4, l5, l6, l7, l8, l9] [.int (-1000001)] w 0 Q) ∧
  (∀ (d : Nat) (l0 l1 l2 l3 l4 l5 l6 l7 l8 l9 : Option Value) (x : Int32) (w : px_H) (Q : Option Value → px_H → Prop), wp d 197 29 [l0, l1, l2, l3, l4, l5, l6, l7, l8, l9] [.int x] w 0 Q ↔ Q (some (.int x)) w) ∧
  (∀ (d : Nat) (l1 l2 l3 l4 l5 l6 l7 l8 l9 : Option Value) (a : Nat) (w : px_H) (Q : Option Value → px_H → Prop), wp d 197 30 [some (.ref a), l1, l2, l3, l4, l5, l6, l7, l8, l9] [] w 0 Q ↔ wp d 197 31 [some (.ref a), l1, l2, l3, l4, l5, l6, l7, l8, l9] [.ref a] w 0 Q) ∧
  (∀ (d : Nat) (l0 l1 l2 l3 l4 l5 l6 l7 l8 l9 : Option Value)  (b : Nat) (w : px_H) (Q : Option Value → px_H → Prop), wp (d + 1) 197 31 [l0, l1, l2, l3, l4, l5, l6, l7, l8, l9] [.ref b] w 0 Q ↔ px_op (px_tgt w b [(11, 167)]) (fun v => wc d v [.ref b] w (fun r w' => wp (d + 1) 197 34 [l0, l1, l2, l3, l4, l5, l6, l7, l8, l9] (r.toList ++ []) w' 0 Q))) ∧
  (∀ (d : Nat) (l1 l2 l3 l4 l5 l6 l7 l8 l9 : Option Value) (a : Nat) (w : px_H) (Q : Option Value → px_H → Prop), wp d 197 34 [some (.ref a), l1, l2, l3, l4, l5, l6, l7, l8, l9] [] w 0 Q ↔ wp d 197 35 [some (.ref a), l1, l2, l3, l4, l5, l6, l7, l8, l9] [.ref a] w 0 Q) ∧
  (∀ (d : Nat) (l1 l2 l3 l4 l5 l6 l7 l8 l9 : Option Value) (s0 : Value) (a : Nat) (w : px_H) (Q : Option Value → px_H → Prop), wp d 197 35 [some (.ref a), l1, l2, l3, l4, l5, l6, l7, l8, l9] [s0] w 0 Q ↔ wp d 197 36 [some (.ref a), l1, l2, l3, l4, l5, l6, l7, l8, l9] [.ref a, s0] w 0 Q) ∧
  (∀ (d : Nat) (l0 l1 l2 l3 l4 l5 l6 l7 l8 l9 : Option Value) (s0 s1 : Value)  (w : px_H) (Q : Option Value → px_H → Prop), wp d 197 36 [l0, l1, l2, l3, l4, l5, l6, l7, l8, l9] [s0, s1] w 0 Q ↔ wp d 197 37 [l0, l1, l2, l3, l4, l5, l6, l7, l8, l9] [.int 3, s0, s1] w 0 Q) ∧
  (∀ (d : Nat) (l0 l1 l2 l3 l4 l5 l6 l7 l8 l9 : Option Value) (s2 : Value) (v0 : Value) (b : Nat) (w : px_H) (Q : Option Value → px_H → Prop), wp (d + 1) 197 37 [l0, l1, l2, l3, l4, l5, l6, l7, l8, l9] [v0, .ref b, s2] w 0 Q ↔ px_op (px_tgt w b [(11, 149)]) (fun v => wc d v [.ref b, v0] w (fun r w' => wp (d + 1) 197 40 [l0, l1, l2, l3, l4, l5, l6, l7, l8, l9] (r.toList ++ [s2]) w' 0 Q))) ∧
  (∀ (d : Nat) (l1 l2 l3 l4 l5 l6 l7 l8 l9 : Option Value) (s0 s1 : Value) (a : Nat) (w : px_H) (Q : Option Value → px_H → Prop), wp d 197 40 [some (.ref a), l1, l2, l3, l4, l5, l6, l7, l8, l9] [s0, s1] w 0 Q ↔ wp d 197 41 [some (.ref a), l1, l2, l3, l4, l5, l6, l7, l8, l9] [.ref a, s0, s1] w 0 Q) ∧
  (∀ (d : Nat) (l0 l1 l2 l3 l4 l5 l6 l7 l8 l9 : Option Value) (s0 s1 s2 : Value)  (w : px_H) (Q : Option Value → px_H → Prop), wp d 197 41 [l0, l1, l2, l3, l4, l5, l6, l7, l8, l9] [s0, s1, s2] w 0 Q ↔ wp d 197 42 [l0, l1, l2, l3, l4, l5, l6, l7, l8, l9] [.int 0, s0, s1, s2] w 0 Q) ∧
  (∀ (d : Nat) (l0 l1 l2 l3 l4 l5 l6 l7 l8 l9 : Option Value) (s2 s3 : Value) (v0 : Value) (b : Nat) (w : px_H) (Q : Option Value → px_H → Prop), wp (d + 1) 197 42 [l0, l1, l2, l3, l4, l5, l6, l7, l8, l9] [v0, .ref b, s2, s3] w 0 Q ↔ px_op (px_tgt w b [(11, 149)]) (fun v => wc d v [.ref b, v0] w (fun r w' => wp (d + 1) 197 45 [l0, l1, l2, l3, l4, l5, l6, l7, l8, l9] (r.toList ++ [s2, s3]) w' 0 Q))) ∧
  (∀ (d : Nat) (l0 l1 l2 l3 l4 l5 l6 l7 l8 l9 : Option Value) (v0 v1 : Value) (b : Nat) (w : px_H) (Q : Option Value → px_H → Prop), wp (d + 1) 197 45 [l0, l1, l2, l3, l4, l5, l6, l7, l8, l9] [v1, v0, .ref b] w 0 Q ↔ px_op (px_tgt w b [(11, 168)]) (fun v => wc d v [.ref b, v0, v1] w (fun r w' => wp (d + 1) 197 48 [l0, l1, l2, l3, l4, l5, l6, l7, l8, l9] (r.toList ++ []) w' 0 Q))) ∧
  (∀ (d : Nat) (l1 l2 l3 l4 l5 l6 l7 l8 l9 : Option Value) (s0 : Value) (a : Nat) (w : px_H) (Q : Option Value → px_H → Prop), wp d 197 48 [some (.ref a), l1, l2, l3, l4, l5, l6, l7, l8, l9] [s0] w 0 Q ↔ wp d 197 49 [some (.ref a), l1, l2, l3, l4, l5, l6, l7, l8, l9] [.ref a, s0] w 0 Q) ∧
  (∀ (d : Nat) (l0 l1 l2 l3 l4 l5 l6 l7 l8 l9 : Option Value) (s0 s1 : Value)  (w : px_H) (Q : Option Value → px_H → Prop), wp d 197 49 [l0, l1, l2, l3, l4, l5, l6, l7, l8, l9] [s0, s1] w 0 Q ↔ wp d 197 51 [l0, l1, l2, l3, l4, l5, l6, l7, l8, l9] [.int 37, s0, s1] w 0 Q) ∧
  (∀ (d : Nat) (l0 l2 l3 l4 l5 l6 l7 l8 l9 : Option Value) (s0 s1 s2 : Value) (x : Int32) (w : px_H) (Q : Option Value → px_H → Prop), wp d 197 51 [l0, some (.int x), l2, l3, l4, l5, l6, l7, l8, l9] [s0, s1, s2] w 0 Q ↔ wp d 197 52 [l0, some (.int x), l2, l3, l4, l5, l6, l7, l8, l9] [.int x, s0, s1, s2] w 0 Q) ∧
  (∀ (d : Nat) (l0 l1 l2 l3 l4 l5 l6 l7 l8 l9 : Option Value) (s2 s3 : Value) (x y : Int32) (w : px_H) (Q : Option Value → px_H → Prop), wp d 197 52 [l0, l1, l2, l3, l4, l5, l6, l7, l8, l9] [.int y, .int x, s2, s3] w 0 Q ↔ wp d 197 53 [l0, l1, l2, l3, l4, l5, l6, l7, l8, l9] [.int (x + y), s2, s3] w 0 Q) ∧
  (∀ (d : Nat) (l0 l1 l2 l3 l4 l5 l6 l7 l8 l9 : Option Value) (s2 : Value) (v0 : Value) (b : Nat) (w : px_H) (Q : Option Value → px_H → Prop), wp (d + 1) 197 53 [l0, l1, l2, l3, l4, l5, l6, l7, l8, l9] [v0, .ref b, s2] w 0 Q ↔ px_op (px_tgt w b [(11, 149)]) (fun v => wc d v [.ref b, v0] w (fun r w' => wp (d + 1) 197 56 [l0, l1, l2, l3, l4, l5, l6, l7, l8, l9] (r.toList ++ [s2]) w' 0 Q))) ∧
  (∀ (d : Nat) (l0 l1 l2 l3 l4 l5 l6 l7 l8 l9 : Option Value) (x y : Int32) (w : px_H) (Q : Option Value → px_H → Prop), wp d 197 56 [l0, l1, l2, l3, l4, l5, l6, l7, l8, l9] [.int y, .int x] w 0 Q ↔ wp d 197 57 [l0, l1, l2, l3, l4, l5, l6, l7, l8, l9] [.int (x &&& y)] w 0 Q) ∧
  (∀ (d : Nat) (l0 l1 l2 l3 l4 l5 l6 l7 l8 l9 : Option Value) (x : Int32) (w : px_H) (Q : Option Value → px_H → Prop), wp d 197 57 [l0, l1, l2, l3, l4, l5, l6, l7, l8, l9] [.int x] w 0 Q ↔ wp d 197 59 [l0, l1, l2, l3, some (.int x), l5, l6, l7, l8, l9] [] w 0 Q) ∧
  (∀ (d : Nat) (l0 l1 l2 l3 l4 l5 l6 l7 l8 l9 : Option Value)  (w : px_H) (Q : Option Value → px_H → Prop), wp d 197 59 [l0, l1, l2, l3, l4, l5, l6, l7, l8, l9] [] w 0 Q ↔ wp d 197 60 [l0, l1, l2, l3, l4, l5, l6, l7, l8, l9] [.int 1] w 0 Q) ∧
  (∀ (d : Nat) (l0 l1 l2 l3 l4 l5 l6 l7 l8 l9 : Option Value) (x : Int32) (w : px_H) (Q : Option Value → px_H → Prop), wp d 197 60 [l0, l1, l2, l3, l4, l5, l6, l7, l8, l9] [.int x] w 0 Q ↔ wp d 197 62 [l0, l1, l2, l3, l4, some (.int x), l6, l7, l8, l9] [] w 0 Q) ∧
  (∀ (d : Nat) (l0 l1 l2 l3 l4 l5 l6 l7 l8 l9 : Option Value)  (w : px_H) (Q : Option Value → px_H → Prop), wp d 197 62 [l0, l1, l2, l3, l4, l5, l6, l7, l8, l9] [] w 0 Q ↔ wp d 197 63 [l0, l1, l2, l3, l4, l5, l6, l7, l8, l9] [.int 1] w 0 Q) ∧
  (∀ (d : Nat) (l0 l1 l2 l3 l4 l5 l6 l7 l8 l9 : Option Value) (x : Int32) (w : px_H) (Q : Option Value → px_H → Prop), wp d 197 63 [l0, l1, l2, l3, l4, l5, l6, l7, l8, l9] [.int x] w 0 Q ↔ wp d 197 65 [l0, l1, l2, l3, l4, l5, some (.int x), l7, l8, l9] [] w 0 Q) ∧
  (∀ (d : Nat) (l0 l1 l2 l3 l5 l6 l7 l8 l9 : Option Value) (x : Int32) (w : px_H) (Q : Option Value → px_H → Prop), wp d 197 65 [l0, l1, l2, l3, some (.int x), l5, l6, l7, l8, l9] [] w 0 Q ↔ wp d 197 67 [l0, l1, l2, l3, some (.int x), l5, l6, l7, l8, l9] [.int x] w 0 Q) ∧
  (∀ (d : Nat) (l0 l1 l2 l3 l4 l5 l6 l7 l8 l9 : Option Value) (v0 : Value) (w : px_H) (Q : Option Value → px_H → Prop), wp (d + 1) 197 67 [l0, l1, l2, l3, l4, l5, l6, l7, l8, l9] [v0] w 0 Q ↔ wc d 186 [v0] w (fun r w' => wp (d + 1) 197 70 [l0, l1, l2, l3, l4, l5, l6, l7, l8, l9] (r.toList ++ []) w' 0 Q)) ∧
  (∀ (d : Nat) (l0 l1 l2 l3 l4 l5 l6 l7 l8 l9 : Option Value) (x : Int32) (w : px_H) (Q : Option Value → px_H → Prop), wp d 197 70 [l0, l1, l2, l3, l4, l5, l6, l7, l8, l9] [.int x] w 0 Q ↔ wp d 197 72 [l0, l1, l2, l3, l4, l5, l6, some (.int x), l8, l9] [] w 0 Q) ∧
  (∀ (d : Nat) (l0 l1 l2 l3 l4 l5 l6 l7 l8 l9 : Option Value) (x : Int32) (w : px_H) (Q : Option Value → px_H → Prop), wp d 197 74 [l0, l1, l2, l3, l4, l5, l6, l7, l8, l9] [.int x] w 0 Q ↔ if x ≤ 0 then wp d 197 96 [l0, l1, l2, l3, l4, l5, l6, l7, l8, l9] [] w 0 Q else wp d 197 77 [l0, l1, l2, l3, l4, l5, l6, l7, l8, l9] [] w 0 Q) ∧
  (∀ (d : Nat) (l0 l1 l2 l3 l4 l6 l7 l8 l9 : Option Value) (x : Int32) (w : px_H) (Q : Option Value → px_H → Prop), wp d 197 77 [l0, l1, l2, l3, l4, some (.int x), l6, l7, l8, l9] [] w 0 Q ↔ wp d 197 79 [l0, l1, l2, l3, l4, some (.int x), l6, l7, l8, l9] [.int x] w 0 Q) ∧
  (∀ (d : Nat) (l0 l1 l2 l3 l4 l5 l6 l7 l8 l9 : Option Value) (s0 : Value)  (w : px_H) (Q : Option Value → px_H → Prop), wp d 197 79 [l0, l1, l2, l3, l4, l5, l6, l7, l8, l9] [s0] w 0 Q ↔ wp d 197 81 [l0, l1, l2, l3, l4, l5, l6, l7, l8, l9] [.int 10, s0] w 0 Q) ∧
  (∀ (d : Nat) (l0 l1 l2 l3 l4 l5 l6 l7 l8 l9 : Option Value) (x y : Int32) (w : px_H) (Q : Option Value → px_H → Prop), wp d 197 81 [l0, l1, l2, l3, l4, l5, l6, l7, l8, l9] [.int y, .int x] w 0 Q ↔ wp d 197 82 [l0, l1, l2, l3, l4, l5, l6, l7, l8, l9] [.int (x * y)] w 0 Q) ∧
  (∀ (d : Nat) (l0 l1 l2 l3 l4 l5 l6 l7 l8 l9 : Option Value) (x : Int32) (w : px_H) (Q : Option Value → px_H → Prop), wp d 197 82 [l0, l1, l2, l3, l4, l5, l6, l7, l8, l9] [.int x] w 0 Q ↔ wp d 197 84 [l0, l1, l2, l3, l4, some (.int x), l6, l7, l8, l9] [] w 0 Q) ∧
  (∀ (d : Nat) (l0 l1 l2 l3 l4 l5 l7 l8 l9 : Option Value) (x : Int32) (w : px_H) (Q : Option Value → px_H → Prop), wp d 197 84 [l0, l1, l2, l3, l4, l5, some (.int x), l7, l8, l9] [] w 0 Q ↔ wp d 197 86 [l0, l1, l2, l3, l4, l5, some (.int x), l7, l8, l9] [.int x] w 0 Q) ∧
  (∀ (d : Nat) (l0 l1 l3 l4 l5 l6 l7 l8 l9 : Option Value) (s0 : Value) (x : Int32) (w : px_H) (Q : Option Value → px_H → Prop), wp d 197 86 [l0, l1, some (.int x), l3, l4, l5, l6, l7, l8, l9] [s0] w 0 Q ↔ wp d 197 87 [l0, l1, some (.int x), l3, l4, l5, l6, l7, l8, l9] [.int x, s0] w 0 Q) ∧
  (∀ (d : Nat) (l0 l1 l2 l3 l4 l5 l6 l7 l8 l9 : Option Value) (x y : Int32) (w : px_H) (Q : Option Value → px_H → Prop), wp d 197 87 [l0, l1, l2, l3, l4, l5, l6, l7, l8, l9] [.int y, .int x] w 0 Q ↔ wp d 197 88 [l0, l1, l2, l3, l4, l5, l6, l7, l8, l9] [.int (x * y)] w 0 Q) ∧
  (∀ (d : Nat) (l0 l1 l2 l3 l4 l5 l6 l7 l8 l9 : Option Value) (x : Int32) (w : px_H) (Q : Option Value → px_H → Prop), wp d 197 88 [l0, l1, l2, l3, l4, l5, l6, l7, l8, l9] [.int x] w 0 Q ↔ wp d 197 90 [l0, l1, l2, l3, l4, l5, some (.int x), l7, l8, l9] [] w 0 Q) ∧
  (∀ (d : Nat) (l0 l1 l2 l3 l4 l5 l6 l8 l9 : Option Value) (x : Int32) (w : px_H) (Q : Option Value → px_H → Prop), wp d 197 90 [l0, l1, l2, l3, l4, l5, l6, some (.int x), l8, l9] [] w 0 Q ↔ wp d 197 93 [l0, l1, l2, l3, l4, l5, l6, some (.int (x + (-1))), l8, l9] [] w 0 Q) ∧
  (∀ (d : Nat) (l0 l1 l2 l3 l4 l5 l6 l7 l8 l9 : Option Value)  (w : px_H) (Q : Option Value → px_H → Prop), wp d 197 93 [l0, l1, l2, l3, l4, l5, l6, l7, l8, l9] [] w 0 Q ↔ wp d 197 72 [l0, l1, l2, l3, l4, l5, l6, l7, l8, l9] [] w 0 Q) ∧
  (∀ (d : Nat) (l0 l1 l2 l3 l4 l6 l7 l8 l9 : Option Value) (x : Int32) (w : px_H) (Q : Option Value → px_H → Prop), wp d 197 96 [l0, l1, l2, l3, l4, some (.int x), l6, l7, l8, l9] [] w 0 Q ↔ wp d 197 98 [l0, l1, l2, l3, l4, some (.int x), l6, l7, l8, l9] [.int x] w 0 Q) ∧
  (∀ (d : Nat) (l0 l1 l2 l3 l4 l5 l7 l8 l9 : Option Value) (s0 : Value) (x : Int32) (w : px_H) (Q : Option Value → px_H → Prop), wp d 197 98 [l0, l1, l2, l3, l4, l5, some (.int x), l7, l8, l9] [s0] w 0 Q ↔ wp d 197 100 [l0, l1, l2, l3, l4, l5, some (.int x), l7, l8, l9] [.int x, s0] w 0 Q) ∧
  (∀ (d : Nat) (l0 l1 l2 l3 l4 l5 l6 l7 l8 l9 : Option Value) (x y : Int32) (w : px_H) (Q : Option Value → px_H → Prop), wp d 197 100 [l0, l1, l2, l3, l4, l5, l6, l7, l8, l9] [.int y, .int x] w 0 Q ↔ wp d 197 101 [l0, l1, l2, l3, l4, l5, l6, l7, l8, l9] [.int (x - y)] w 0 Q) ∧
  (∀ (d : Nat) (l0 l1 l2 l3 l4 l5 l6 l7 l8 l9 : Option Value) (x : Int32) (w : px_H) (Q : Option Value → px_H → Prop), wp d 197 101 [l0, l1, l2, l3, l4, l5, l6, l7, l8, l9] [.int x] w 0 Q ↔ wp d 197 103 [l0, l1, l2, l3, l4, l5, l6, some (.int x), l8, l9] [] w 0 Q) ∧
  (∀ (d : Nat) (l0 l1 l2 l3 l4 l6 l7 l8 l9 : Option Value) (x : Int32) (w : px_H) (Q : Option Value → px_H → Prop), wp d 197 103 [l0, l1, l2, l3, l4, some (.int x), l6, l7, l8, l9] [] w 0 Q ↔ wp d 197 105 [l0, l1, l2, l3, l4, some (.int x), l6, l7, l8, l9] [.int x] w 0 Q) ∧
  (∀ (d : Nat) (l0 l1 l2 l3 l4 l5 l6 l7 l8 l9 : Option Value) (x : Int32) (w : px_H) (Q : Option Value → px_H → Prop), wp d 197 105 [l0, l1, l2, l3, l4, l5, l6, l7, l8, l9] [.int x] w 0 Q ↔ wp d 197 107 [l0, l1, l2, l3, l4, l5, l6, l7, some (.int x), l9] [] w 0 Q) ∧
  (∀ (d : Nat) (l0 l1 l2 l3 l4 l5 l6 l7 l8 l9 : Option Value) (x : Int32) (w : px_H) (Q : Option Value → px_H → Prop), wp d 197 109 [l0, l1, l2, l3, l4, l5, l6, l7, l8, l9] [.int x] w 0 Q ↔ if x = 0 then wp d 197 130 [l0, l1, l2, l3, l4, l5, l6, l7, l8, l9] [] w 0 Q else wp d 197 112 [l0, l1, l2, l3, l4, l5, l6, l7, l8, l9] [] w 0 Q) ∧
  (∀ (d : Nat) (l0 l1 l2 l3 l4 l5 l6 l8 l9 : Option Value) (x : Int32) (w : px_H) (Q : Option Value → px_H → Prop), wp d 197 112 [l0, l1, l2, l3, l4, l5, l6, some (.int x), l8, l9] [] w 0 Q ↔ wp d 197 114 [l0, l1, l2, l3, l4, l5, l6, some (.int x), l8, l9] [.int x] w 0 Q) ∧
  (∀ (d : Nat) (l0 l1 l2 l3 l4 l5 l6 l7 l9 : Option Value) (s0 : Value) (x : Int32) (w : px_H) (Q : Option Value → px_H → Prop), wp d 197 114 [l0, l1, l2, l3, l4, l5, l6, l7, some (.int x), l9] [s0] w 0 Q ↔ wp d 197 116 [l0, l1, l2, l3, l4, l5, l6, l7, some (.int x), l9] [.int x, s0] w 0 Q) ∧
  (∀ (d : Nat) (l0 l1 l2 l3 l4 l5 l6 l7 l8 l9 : Option Value) (x y : Int32) (w : px_H) (Q : Option Value → px_H → Prop), wp d 197 116 [l0, l1, l2, l3, l4, l5, l6, l7, l8, l9] [.int y, .int x] w 0 Q ↔ px_op (if y = 0 then none else some (x - x / y * y)) (fun z => wp d 197 117 [l0, l1, l2, l3, l4, l5, l6, l7, l8, l9] [.int z] w 0 Q)) ∧
  (∀ (d : Nat) (l0 l1 l2 l3 l4 l5 l6 l7 l8 l9 : Option Value) (x : Int32) (w : px_H) (Q : Option Value → px_H → Prop), wp d 197 117 [l0, l1, l2, l3, l4, l5, l6, l7, l8, l9] [.int x] w 0 Q ↔ wp d 197 119 [l0, l1, l2, l3, l4, l5, l6, l7, l8, some (.int x)] [] w 0 Q) ∧
  (∀ (d : Nat) (l0 l1 l2 l3 l4 l5 l6 l7 l9 : Option Value) (x : Int32) (w : px_H) (Q : Option Value → px_H → Prop), wp d 197 119 [l0, l1, l2, l3, l4, l5, l6, l7, some (.int x), l9] [] w 0 Q ↔ wp d 197 121 [l0, l1, l2, l3, l4, l5, l6, l7, some (.int x), l9] [.int x] w 0 Q) ∧
  (∀ (d : Nat) (l0 l1 l2 l3 l4 l5 l6 l7 l8 l9 : Option Value) (x : Int32) (w : px_H) (Q : Option Value → px_H → Prop), wp d 197 121 [l0, l1, l2, l3, l4, l5, l6, l7, l8, l9] [.int x] w 0 Q ↔ wp d 197 123 [l0, l1, l2, l3, l4, l5, l6, some (.int x), l8, l9] [] w 0 Q) ∧
  (∀ (d : Nat) (l0 l1 l2 l3 l4 l5 l6 l7 l8 : Option Value) (x : Int32) (w : px_H) (Q : Option Value → px_H → Prop), wp d 197 123 [l0, l1, l2, l3, l4, l5, l6, l7, l8, some (.int x)] [] w 0 Q ↔ wp d 197 125 [l0, l1, l2, l3, l4, l5, l6, l7, l8, some (.int x)] [.int x] w 0 Q) ∧
  (∀ (d : Nat) (l0 l1 l2 l3 l4 l5 l6 l7 l8 l9 : Option Value) (x : Int32) (w : px_H) (Q : Option Value → px_H → Prop), wp d 197 125 [l0, l1, l2, l3, l4, l5, l6, l7, l8, l9] [.int x] w 0 Q ↔ wp d 197 127 [l0, l1, l2, l3, l4, l5, l6, l7, some (.int x), l9] [] w 0 Q) ∧
  (∀ (d : Nat) (l0 l1 l2 l3 l4 l5 l6 l7 l8 l9 : Option Value)  (w : px_H) (Q : Option Value → px_H → Prop), wp d 197 127 [l0, l1, l2, l3, l4, l5, l6, l7, l8, l9] [] w 0 Q ↔ wp d 197 107 [l0, l1, l2, l3, l4, l5, l6, l7, l8, l9] [] w 0 Q) ∧
  (∀ (d : Nat) (l0 l1 l2 l4 l5 l6 l7 l8 l9 : Option Value) (x : Int32) (w : px_H) (Q : Option Value → px_H → Prop), wp d 197 130 [l0, l1, l2, some (.int x), l4, l5, l6, l7, l8, l9] [] w 0 Q ↔ wp d 197 131 [l0, l1, l2, some (.int x), l4, l5, l6, l7, l8, l9] [.int x] w 0 Q) ∧
  (∀ (d : Nat) (l0 l1 l2 l3 l4 l5 l6 l7 l8 l9 : Option Value) (x : Int32) (w : px_H) (Q : Option Value → px_H → Prop), wp d 197 131 [l0, l1, l2, l3, l4, l5, l6, l7, l8, l9] [.int x] w 0 Q ↔ if x = 0 then wp d 197 134 [l0, l1, l2, l3, l4, l5, l6, l7, l8, l9] [] w 0 Q else wp d 197 145 [l0, l1, l2, l3, l4, l5, l6, l7, l8, l9] [] w 0 Q) ∧
  (∀ (d : Nat) (l0 l1 l2 l3 l4 l6 l7 l8 l9 : Option Value) (x : Int32) (w : px_H) (Q : Option Value → px_H → Prop), wp d 197 134 [l0, l1, l2, l3, l4, some (.int x), l6, l7, l8, l9] [] w 0 Q ↔ wp d 197 136 [l0, l1, l2, l3, l4, some (.int x), l6, l7, l8, l9] [.int x] w 0 Q) ∧
  (∀ (d : Nat) (l0 l1 l2 l3 l4 l5 l7 l8 l9 : Option Value) (s0 : Value) (x : Int32) (w : px_H) (Q : Option Value → px_H → Prop), wp d 197 136 [l0, l1, l2, l3, l4, l5, some (.int x), l7, l8, l9] [s0] w 0 Q ↔ wp d 197 138 [l0, l1, l2, l3, l4, l5, some (.int x), l7, l8, l9] [.int x, s0] w 0 Q) ∧
  (∀ (d : Nat) (l0 l1 l2 l3 l4 l5 l6 l7 l8 l9 : Option Value) (x y : Int32) (w : px_H) (Q : Option Value → px_H → Prop), wp d 197 138 [l0, l1, l2, l3, l4, l5, l6, l7, l8, l9] [.int y, .int x] w 0 Q ↔ wp d 197 139 [l0, l1, l2, l3, l4, l5, l6, l7, l8, l9] [.int (x - y)] w 0 Q) ∧
  (∀ (d : Nat) (l0 l1 l2 l3 l4 l5 l6 l8 l9 : Option Value) (s0 : Value) (x : Int32) (w : px_H) (Q : Option Value → px_H → Prop), wp d 197 139 [l0, l1, l2, l3, l4, l5, l6, some (.int x), l8, l9] [s0] w 0 Q ↔ wp d 197 141 [l0, l1, l2, l3, l4, l5, l6, some (.int x), l8, l9] [.int x, s0] w 0 Q) ∧
  (∀ (d : Nat) (l0 l1 l2 l3 l4 l5 l6 l7 l8 l9 : Option Value) (x y : Int32) (w : px_H) (Q : Option Value → px_H → Prop), wp d 197 141 [l0, l1, l2, l3, l4, l5, l6, l7, l8, l9] [.int y, .int x] w 0 Q ↔ px_op (if y = 0 then none else some (x / y)) (fun z => wp d 197 142 [l0, l1, l2, l3, l4, l5, l6, l7, l8, l9] [.int z] w 0 Q)) ∧
  (∀ (d : Nat) (l0 l1 l2 l3 l4 l5 l6 l7 l8 l9 : Option Value) (s0 : Value)  (w : px_H) (Q : Option Value → px_H → Prop), wp d 197 142 [l0, l1, l2, l3, l4, l5, l6, l7, l8, l9] [s0] w 0 Q ↔ wp d 197 150 [l0, l1, l2, l3, l4, l5, l6, l7, l8, l9] [s0] w 0 Q) ∧
  (∀ (d : Nat) (l0 l1 l2 l3 l4 l6 l7 l8 l9 : Option Value) (x : Int32) (w : px_H) (Q : Option Value → px_H → Prop), wp d 197 145 [l0, l1, l2, l3, l4, some (.int x), l6, l7, l8, l9] [] w 0 Q ↔ wp d 197 147 [l0, l1, l2, l3, l4, some (.int x), l6, l7, l8, l9] [.int x] w 0 Q) ∧
  (∀ (d : Nat) (l0 l1 l2 l3 l4 l5 l6 l8 l9 : Option Value) (s0 : Value) (x : Int32) (w : px_H) (Q : Option Value → px_H → Prop), wp d 197 147 [l0, l1, l2, l3, l4, l5, l6, some (.int x), l8, l9] [s0] w 0 Q ↔ wp d 197 149 [l0, l1, l2, l3, l4, l5, l6, some (.int x), l8, l9] [.int x, s0] w 0 Q) ∧
  (∀ (d : Nat) (l0 l1 l2 l3 l4 l5 l6 l7 l8 l9 : Option Value) (x y : Int32) (w : px_H) (Q : Option Value → px_H → Prop), wp d 197 149 [l0, l1, l2, l3, l4, l5, l6, l7, l8, l9] [.int y, .int x] w 0 Q ↔ px_op (if y = 0 then none else some (x / y)) (fun z => wp d 197 150 [l0, l1, l2, l3, l4, l5, l6, l7, l8, l9] [.int z] w 0 Q)) ∧
  (∀ (d : Nat) (l0 l1 l2 l3 l4 l5 l6 l7 l8 l9 : Option Value) (x : Int32) (w : px_H) (Q : Option Value → px_H → Prop), wp d 197 150 [l0, l1, l2, l3, l4, l5, l6, l7, l8, l9] [.int x] w 0 Q ↔ Q (some (.int x)) w) := ⟨fun d v0 v1 v2 v3 w Q => r_entry pt_197 (Nat.le_of_ble_eq_true rfl) rfl,
  fun d l1 l2 l3 l4 l5 l6 l7 l8 l9 a w Q => px_go (q := (.aload_n 0, 1, px_x0)) (S' := (1, [some (.ref a), l1, l2, l3, l4, l5, l6, l7, l8, l9], [.ref a], w, 0)) pt_197 rfl rfl,
  fun d l0 l2 l3 l4 l5 l6 l7 l8 l9 s0 x w Q => px_go (q := (.iload_n 1, 1, px_x0)) (S' := (2, [l0, some (.int x), l2, l3, l4, l5, l6, l7, l8, l9], [.int x, s0], w, 0)) pt_197 rfl rfl,
  fun d l0 l1 l2 l3 l4 l5 l6 l7 l8 l9 v0 b w Q => r_callV (q := (.invokevirtual 165, 3, (33, 1, [(11, 153)], 0, ""))) pt_197 rfl rfl (List.forall_mem_cons.mpr ⟨⟨_, pt_153, Nat.le_of_ble_eq_true rfl, (Nat.le_of_ble_eq_true rfl), rfl⟩, fun _ h => absurd h List.not_mem_nil⟩),
  fun d l0 l1 l2 l3 l4 l5 l6 l7 l8 l9 x w Q => r_if_eq pt_197 rfl rfl,
  fun d l0 l1 l3 l4 l5 l6 l7 l8 l9 x w Q => px_go (q := (.iload_n 2, 1, px_x0)) (S' := (9, [l0, l1, some (.int x), l3, l4, l5, l6, l7, l8, l9], [.int x], w, 0)) pt_197 rfl rfl,
  fun d l0 l1 l2 l3 l4 l5 l6 l7 l8 l9 s0 w Q => r_iconst pt_197 rfl (by decide),
  fun d l0 l1 l2 l3 l4 l5 l6 l7 l8 l9 s0 s1 w Q => r_bipush pt_197 rfl (by decide),
  fun d l0 l1 l2 l3 l4 l5 l6 l7 l8 l9 v0 v1 v2 w Q => r_call (q := (.invokestatic 50, 3, (30, 3, [(0, 140)], 0, ""))) pt_197 rfl rfl pt_140 (Nat.le_of_ble_eq_true rfl) (Nat.le_of_ble_eq_true rfl) rfl,
  fun d l0 l1 l2 l3 l4 l5 l6 l7 l8 l9 x w Q => r_if_eq pt_197 rfl rfl,
  fun d l0 l1 l2 l4 l5 l6 l7 l8 l9 x w Q => px_go (q := (.iload_n 3, 1, px_x0)) (S' := (19, [l0, l1, l2, some (.int x), l4, l5, l6, l7, l8, l9], [.int x], w, 0)) pt_197 rfl rfl,
  fun d l0 l1 l2 l3 l4 l5 l6 l7 l8 l9 s0 w Q => r_iconst pt_197 rfl (by decide),
  fun d l0 l1 l2 l3 l4 l5 l6 l7 l8 l9 s0 s1 w Q => r_iconst pt_197 rfl (by decide),
  fun d l0 l1 l2 l3 l4 l5 l6 l7 l8 l9 v0 v1 v2 w Q => r_call (q := (.invokestatic 50, 3, (30, 3, [(0, 140)], 0, ""))) pt_197 rfl rfl pt_140 (Nat.le_of_ble_eq_true rfl) (Nat.le_of_ble_eq_true rfl) rfl,
  fun d l0 l1 l2 l3 l4 l5 l6 l7 l8 l9 x w Q => r_if_ne pt_197 rfl rfl,
  fun d l0 l1 l2 l3 l4 l5 l6 l7 l8 l9 w Q => px_go (q := (.ldc 58, 2, (0, 0, [], (-1000001), ""))) (S' := (29, [l0, l1, l2, l3, l4, l5, l6, l7, l8, l9], [.int (-1000001)], w, 0)) pt_197 rfl rfl,
  fun d l0 l1 l2 l3 l4 l5 l6 l7 l8 l9 x w Q => px_ret (q := (.ireturn, 1, px_x0)) pt_197 rfl rfl,
  fun d l1 l2 l3 l4 l5 l6 l7 l8 l9 a w Q => px_go (q := (.aload_n 0, 1, px_x0)) (S' := (31, [some (.ref a), l1, l2, l3, l4, l5, l6, l7, l8, l9], [.ref a], w, 0)) pt_197 rfl rfl,
  fun d l0 l1 l2 l3 l4 l5 l6 l7 l8 l9 b w Q => r_callV (q := (.invokevirtual 146, 3, (33, 0, [(11, 167)], 0, ""))) pt_197 rfl rfl (List.forall_mem_cons.mpr ⟨⟨_, pt_167, Nat.le_of_ble_eq_true rfl, (Nat.le_of_ble_eq_true rfl), rfl⟩, fun _ h => absurd h List.not_mem_nil⟩),
  fun d l1 l2 l3 l4 l5 l6 l7 l8 l9 a w Q => px_go (q := (.aload_n 0, 1, px_x0)) (S' := (35, [some (.ref a), l1, l2, l3, l4, l5, l6, l7, l8, l9], [.ref a], w, 0)) pt_197 rfl rfl,
  fun d l1 l2 l3 l4 l5 l6 l7 l8 l9 s0 a w Q => px_go (q := (.aload_n 0, 1, px_x0)) (S' := (36, [some (.ref a), l1, l2, l3, l4, l5, l6, l7, l8, l9], [.ref a, s0], w, 0)) pt_197 rfl rfl,
  fun d l0 l1 l2 l3 l4 l5 l6 l7 l8 l9 s0 s1 w Q => r_iconst pt_197 rfl (by decide),
  fun d l0 l1 l2 l3 l4 l5 l6 l7 l8 l9 s2 v0 b w Q => r_callV (q := (.invokevirtual 69, 3, (33, 1, [(11, 149)], 0, ""))) pt_197 rfl rfl (List.forall_mem_cons.mpr ⟨⟨_, pt_149, Nat.le_of_ble_eq_true rfl, (Nat.le_of_ble_eq_true rfl), rfl⟩, fun _ h => absurd h List.not_mem_nil⟩),
  fun d l1 l2 l3 l4 l5 l6 l7 l8 l9 s0 s1 a w Q => px_go (q := (.aload_n 0, 1, px_x0)) (S' := (41, [some (.ref a), l1, l2, l3, l4, l5, l6, l7, l8, l9], [.ref a, s0, s1], w, 0)) pt_197 rfl rfl,
  fun d l0 l1 l2 l3 l4 l5 l6 l7 l8 l9 s0 s1 s2 w Q => r_iconst pt_197 rfl (by decide),
  fun d l0 l1 l2 l3 l4 l5 l6 l7 l8 l9 s2 s3 v0 b w Q => r_callV (q := (.invokevirtual 69, 3, (33, 1, [(11, 149)], 0, ""))) pt_197 rfl rfl (List.forall_mem_cons.mpr ⟨⟨_, pt_149, Nat.le_of_ble_eq_true rfl, (Nat.le_of_ble_eq_true rfl), rfl⟩, fun _ h => absurd h List.not_mem_nil⟩),
  fun d l0 l1 l2 l3 l4 l5 l6 l7 l8 l9 v0 v1 b w Q => r_callV (q := (.invokevirtual 140, 3, (33, 2, [(11, 168)], 0, ""))) pt_197 rfl rfl (List.forall_mem_cons.mpr ⟨⟨_, pt_168, Nat.le_of_ble_eq_true rfl, (Nat.le_of_ble_eq_true rfl), rfl⟩, fun _ h => absurd h List.not_mem_nil⟩),
  fun d l1 l2 l3 l4 l5 l6 l7 l8 l9 s0 a w Q => px_go (q := (.aload_n 0, 1, px_x0)) (S' := (49, [some (.ref a), l1, l2, l3, l4, l5, l6, l7, l8, l9], [.ref a, s0], w, 0)) pt_197 rfl rfl,
  fun d l0 l1 l2 l3 l4 l5 l6 l7 l8 l9 s0 s1 w Q => r_bipush pt_197 rfl (by decide),
  fun d l0 l2 l3 l4 l5 l6 l7 l8 l9 s0 s1 s2 x w Q => px_go (q := (.iload_n 1, 1, px_x0)) (S' := (52, [l0, some (.int x), l2, l3, l4, l5, l6, l7, l8, l9], [.int x, s0, s1, s2], w, 0)) pt_197 rfl rfl,
  fun d l0 l1 l2 l3 l4 l5 l6 l7 l8 l9 s2 s3 x y w Q => px_go (q := (.iadd, 1, px_x0)) (S' := (53, [l0, l1, l2, l3, l4, l5, l6, l7, l8, l9], [.int (x + y), s2, s3], w, 0)) pt_197 rfl rfl,
  fun d l0 l1 l2 l3 l4 l5 l6 l7 l8 l9 s2 v0 b w Q => r_callV (q := (.invokevirtual 69, 3, (33, 1, [(11, 149)], 0, ""))) pt_197 rfl rfl (List.forall_mem_cons.mpr ⟨⟨_, pt_149, Nat.le_of_ble_eq_true rfl, (Nat.le_of_ble_eq_true rfl), rfl⟩, fun _ h => absurd h List.not_mem_nil⟩),
  fun d l0 l1 l2 l3 l4 l5 l6 l7 l8 l9 x y w Q => px_go (q := (.iand, 1, px_x0)) (S' := (57, [l0, l1, l2, l3, l4, l5, l6, l7, l8, l9], [.int (x &&& y)], w, 0)) pt_197 rfl rfl,
  fun d l0 l1 l2 l3 l4 l5 l6 l7 l8 l9 x w Q => px_go (q := (.istore 4, 2, px_x0)) (S' := (59, [l0, l1, l2, l3, some (.int x), l5, l6, l7, l8, l9], [], w, 0)) pt_197 rfl rfl,
  fun d l0 l1 l2 l3 l4 l5 l6 l7 l8 l9 w Q => r_iconst pt_197 rfl (by decide),
  fun d l0 l1 l2 l3 l4 l5 l6 l7 l8 l9 x w Q => px_go (q := (.istore 5, 2, px_x0)) (S' := (62, [l0, l1, l2, l3, l4, some (.int x), l6, l7, l8, l9], [], w, 0)) pt_197 rfl rfl,
  fun d l0 l1 l2 l3 l4 l5 l6 l7 l8 l9 w Q => r_iconst pt_197 rfl (by decide),
  fun d l0 l1 l2 l3 l4 l5 l6 l7 l8 l9 x w Q => px_go (q := (.istore 6, 2, px_x0)) (S' := (65, [l0, l1, l2, l3, l4, l5, some (.int x), l7, l8, l9], [], w, 0)) pt_197 rfl rfl,
  fun d l0 l1 l2 l3 l5 l6 l7 l8 l9 x w Q => px_go (q := (.iload 4, 2, px_x0)) (S' := (67, [l0, l1, l2, l3, some (.int x), l5, l6, l7, l8, l9], [.int x], w, 0)) pt_197 rfl rfl,
  fun d l0 l1 l2 l3 l4 l5 l6 l7 l8 l9 v0 w Q => r_call (q := (.invokestatic 182, 3, (30, 1, [(0, 186)], 0, ""))) pt_197 rfl rfl pt_186 (Nat.le_of_ble_eq_true rfl) (Nat.le_of_ble_eq_true rfl) rfl,
  fun d l0 l1 l2 l3 l4 l5 l6 l7 l8 l9 x w Q => px_go (q := (.istore 7, 2, px_x0)) (S' := (72, [l0, l1, l2, l3, l4, l5, l6, some (.int x), l8, l9], [], w, 0)) pt_197 rfl rfl,
  fun d l0 l1 l2 l3 l4 l5 l6 l7 l8 l9 x w Q => r_if_le pt_197 rfl rfl,
  fun d l0 l1 l2 l3 l4 l6 l7 l8 l9 x w Q => px_go (q := (.iload 5, 2, px_x0)) (S' := (79, [l0, l1, l2, l3, l4, some (.int x), l6, l7, l8, l9], [.int x], w, 0)) pt_197 rfl rfl,
  fun d l0 l1 l2 l3 l4 l5 l6 l7 l8 l9 s0 w Q => r_bipush pt_197 rfl (by decide),
  fun d l0 l1 l2 l3 l4 l5 l6 l7 l8 l9 x y w Q => px_go (q := (.imul, 1, px_x0)) (S' := (82, [l0, l1, l2, l3, l4, l5, l6, l7, l8, l9], [.int (x * y)], w, 0)) pt_197 rfl rfl,
  fun d l0 l1 l2 l3 l4 l5 l6 l7 l8 l9 x w Q => px_go (q := (.istore 5, 2, px_x0)) (S' := (84, [l0, l1, l2, l3, l4, some (.int x), l6, l7, l8, l9], [], w, 0)) pt_197 rfl rfl,
  fun d l0 l1 l2 l3 l4 l5 l7 l8 l9 x w Q => px_go (q := (.iload 6, 2, px_x0)) (S' := (86, [l0, l1, l2, l3, l4, l5, some (.int x), l7, l8, l9], [.int x], w, 0)) pt_197 rfl rfl,
  fun d l0 l1 l3 l4 l5 l6 l7 l8 l9 s0 x w Q => px_go (q := (.iload_n 2, 1, px_x0)) (S' := (87, [l0, l1, some (.int x), l3, l4, l5, l6, l7, l8, l9], [.int x, s0], w, 0)) pt_197 rfl rfl,
  fun d l0 l1 l2 l3 l4 l5 l6 l7 l8 l9 x y w Q => px_go (q := (.imul, 1, px_x0)) (S' := (88, [l0, l1, l2, l3, l4, l5, l6, l7, l8, l9], [.int (x * y)], w, 0)) pt_197 rfl rfl,
  fun d l0 l1 l2 l3 l4 l5 l6 l7 l8 l9 x w Q => px_go (q := (.istore 6, 2, px_x0)) (S' := (90, [l0, l1, l2, l3, l4, l5, some (.int x), l7, l8, l9], [], w, 0)) pt_197 rfl rfl,
  fun d l0 l1 l2 l3 l4 l5 l6 l8 l9 x w Q => r_iinc pt_197 rfl rfl (by decide) rfl,
  fun d l0 l1 l2 l3 l4 l5 l6 l7 l8 l9 w Q => r_goto pt_197 rfl rfl,
  fun d l0 l1 l2 l3 l4 l6 l7 l8 l9 x w Q => px_go (q := (.iload 5, 2, px_x0)) (S' := (98, [l0, l1, l2, l3, l4, some (.int x), l6, l7, l8, l9], [.int x], w, 0)) pt_197 rfl rfl,
  fun d l0 l1 l2 l3 l4 l5 l7 l8 l9 s0 x w Q => px_go (q := (.iload 6, 2, px_x0)) (S' := (100, [l0, l1, l2, l3, l4, l5, some (.int x), l7, l8, l9], [.int x, s0], w, 0)) pt_197 rfl rfl,
  fun d l0 l1 l2 l3 l4 l5 l6 l7 l8 l9 x y w Q => px_go (q := (.isub, 1, px_x0)) (S' := (101, [l0, l1, l2, l3, l4, l5, l6, l7, l8, l9], [.int (x - y)], w, 0)) pt_197 rfl rfl,
  fun d l0 l1 l2 l3 l4 l5 l6 l7 l8 l9 x w Q => px_go (q := (.istore 7, 2, px_x0)) (S' := (103, [l0, l1, l2, l3, l4, l5, l6, some (.int x), l8, l9], [], w, 0)) pt_197 rfl rfl,
  fun d l0 l1 l2 l3 l4 l6 l7 l8 l9 x w Q => px_go (q := (.iload 5, 2, px_x0)) (S' := (105, [l0, l1, l2, l3, l4, some (.int x), l6, l7, l8, l9], [.int x], w, 0)) pt_197 rfl rfl,
  fun d l0 l1 l2 l3 l4 l5 l6 l7 l8 l9 x w Q => px_go (q := (.istore 8, 2, px_x0)) (S' := (107, [l0, l1, l2, l3, l4, l5, l6, l7, some (.int x), l9], [], w, 0)) pt_197 rfl rfl,
  fun d l0 l1 l2 l3 l4 l5 l6 l7 l8 l9 x w Q => r_if_eq pt_197 rfl rfl,
  fun d l0 l1 l2 l3 l4 l5 l6 l8 l9 x w Q => px_go (q := (.iload 7, 2, px_x0)) (S' := (114, [l0, l1, l2, l3, l4, l5, l6, some (.int x), l8, l9], [.int x], w, 0)) pt_197 rfl rfl,
  fun d l0 l1 l2 l3 l4 l5 l6 l7 l9 s0 x w Q => px_go (q := (.iload 8, 2, px_x0)) (S' := (116, [l0, l1, l2, l3, l4, l5, l6, l7, some (.int x), l9], [.int x, s0], w, 0)) pt_197 rfl rfl,
  fun d l0 l1 l2 l3 l4 l5 l6 l7 l8 l9 x y w Q => px_goO (q := (.irem, 1, px_x0)) (S' := fun z => (117, [l0, l1, l2, l3, l4, l5, l6, l7, l8, l9], [.int z], w, 0)) pt_197 rfl rfl,
  fun d l0 l1 l2 l3 l4 l5 l6 l7 l8 l9 x w Q => px_go (q := (.istore 9, 2, px_x0)) (S' := (119, [l0, l1, l2, l3, l4, l5, l6, l7, l8, some (.int x)], [], w, 0)) pt_197 rfl rfl,
  fun d l0 l1 l2 l3 l4 l5 l6 l7 l9 x w Q => px_go (q := (.iload 8, 2, px_x0)) (S' := (121, [l0, l1, l2, l3, l4, l5, l6, l7, some (.int x), l9], [.int x], w, 0)) pt_197 rfl rfl,
  fun d l0 l1 l2 l3 l4 l5 l6 l7 l8 l9 x w Q => px_go (q := (.istore 7, 2, px_x0)) (S' := (123, [l0, l1, l2, l3, l4, l5, l6, some (.int x), l8, l9], [], w, 0)) pt_197 rfl rfl,
  fun d l0 l1 l2 l3 l4 l5 l6 l7 l8 x w Q => px_go (q := (.iload 9, 2, px_x0)) (S' := (125, [l0, l1, l2, l3, l4, l5, l6, l7, l8, some (.int x)], [.int x], w, 0)) pt_197 rfl rfl,
  fun d l0 l1 l2 l3 l4 l5 l6 l7 l8 l9 x w Q => px_go (q := (.istore 8, 2, px_x0)) (S' := (127, [l0, l1, l2, l3, l4, l5, l6, l7, some (.int x), l9], [], w, 0)) pt_197 rfl rfl,
  fun d l0 l1 l2 l3 l4 l5 l6 l7 l8 l9 w Q => r_goto pt_197 rfl rfl,
  fun d l0 l1 l2 l4 l5 l6 l7 l8 l9 x w Q => px_go (q := (.iload_n 3, 1, px_x0)) (S' := (131, [l0, l1, l2, some (.int x), l4, l5, l6, l7, l8, l9], [.int x], w, 0)) pt_197 rfl rfl,
  fun d l0 l1 l2 l3 l4 l5 l6 l7 l8 l9 x w Q => r_if_ne pt_197 rfl rfl,
  fun d l0 l1 l2 l3 l4 l6 l7 l8 l9 x w Q => px_go (q := (.iload 5, 2, px_x0)) (S' := (136, [l0, l1, l2, l3, l4, some (.int x), l6, l7, l8, l9], [.int x], w, 0)) pt_197 rfl rfl,
  fun d l0 l1 l2 l3 l4 l5 l7 l8 l9 s0 x w Q => px_go (q := (.iload 6, 2, px_x0)) (S' := (138, [l0, l1, l2, l3, l4, l5, some (.int x), l7, l8, l9], [.int x, s0], w, 0)) pt_197 rfl rfl,
  fun d l0 l1 l2 l3 l4 l5 l6 l7 l8 l9 x y w Q => px_go (q := (.isub, 1, px_x0)) (S' := (139, [l0, l1, l2, l3, l4, l5, l6, l7, l8, l9], [.int (x - y)], w, 0)) pt_197 rfl rfl,
  fun d l0 l1 l2 l3 l4 l5 l6 l8 l9 s0 x w Q => px_go (q := (.iload 7, 2, px_x0)) (S' := (141, [l0, l1, l2, l3, l4, l5, l6, some (.int x), l8, l9], [.int x, s0], w, 0)) pt_197 rfl rfl,
  fun d l0 l1 l2 l3 l4 l5 l6 l7 l8 l9 x y w Q => px_goO (q := (.idiv, 1, px_x0)) (S' := fun z => (142, [l0, l1, l2, l3, l4, l5, l6, l7, l8, l9], [.int z], w, 0)) pt_197 rfl rfl,
  fun d l0 l1 l2 l3 l4 l5 l6 l7 l8 l9 s0 w Q => r_goto pt_197 rfl rfl,
  fun d l0 l1 l2 l3 l4 l6 l7 l8 l9 x w Q => px_go (q := (.iload 5, 2, px_x0)) (S' := (147, [l0, l1, l2, l3, l4, some (.int x), l6, l7, l8, l9], [.int x], w, 0)) pt_197 rfl rfl,
  fun d l0 l1 l2 l3 l4 l5 l6 l8 l9 s0 x w Q => px_go (q := (.iload 7, 2, px_x0)) (S' := (149, [l0, l1, l2, l3, l4, l5, l6, some (.int x), l8, l9], [.int x, s0], w, 0)) pt_197 rfl rfl,
  fun d l0 l1 l2 l3 l4 l5 l6 l7 l8 l9 x y w Q => px_goO (q := (.idiv, 1, px_x0)) (S' := fun z => (150, [l0, l1, l2, l3, l4, l5, l6, l7, l8, l9], [.int z], w, 0)) pt_197 rfl rfl,
  fun d l0 l1 l2 l3 l4 l5 l6 l7 l8 l9 x w Q => px_ret (q := (.ireturn, 1, px_x0)) pt_197 rfl rfl⟩
theorem H197_72 : ∀ (d : Nat) (l0 l1 l2 l3 l4 l5 l6 l8 l9 : Option Value) (x : Int32) (w : px_H) (Q : Option Value → px_H → Prop), wp d 197 72 [l0, l1, l2, l3, l4, l5, l6, some (.int x), l8, l9] [] w 0 Q ↔ wp d 197 74 [l0, l1, l2, l3, l4, l5, l6, some (.int x), l8, l9] [.int x] w 0 Q := fun d l0 l1 l2 l3 l4 l5 l6 l8 l9 x w Q => px_go (q := (.iload 7, 2, px_x0)) (S' := (74, [l0, l1, l2, l3, l4, l5, l6, some (.int x), l8, l9], [.int x], w, 0)) pt_197 rfl rfl
theorem H197_107 : ∀ (d : Nat) (l0 l1 l2 l3 l4 l5 l6 l7 l9 : Option Value) (x : Int32) (w : px_H) (Q : Option Value → px_H → Prop), wp d 197 107 [l0, l1, l2, l3, l4, l5, l6, l7, some (.int x), l9] [] w 0 Q ↔ wp d 197 109 [l0, l1, l2, l3, l4, l5, l6, l7, some (.int x), l9] [.int x] w 0 Q := fun d l0 l1 l2 l3 l4 l5 l6 l7 l9 x w Q => px_go (q := (.iload 8, 2, px_x0)) (S' := (109, [l0, l1, l2, l3, l4, l5, l6, l7, some (.int x), l9], [.int x], w, 0)) pt_197 rfl rfl
/-- AllSwornModel.hitBy(III)I heads: [70, 121] -/
theorem S198 : (∀ (d : Nat) (v0 v1 v2 v3 : Value) (w : px_H) (Q : Option Value → px_H → Prop), wc d 198 [v0, v1, v2, v3] w Q ↔ wp d 198 0 [some v0, some v1, some v2, some v3, none, none, none] [] w 0 Q) ∧
  (∀ (d : Nat) (l1 l2 l3 l4 l5 l6 : Option Value) (a : Nat) (w : px_H) (Q : Option Value → px_H → Prop), wp d 198 0 [some (.ref a), l1, l2, l3, l4, l5, l6] [] w 0 Q ↔ wp d 198 1 [some (.ref a), l1, l2, l3, l4, l5, l6] [.ref a] w 0 Q) ∧
  (∀ (d : Nat) (l0 l1 l2 l3 l4 l5 l6 : Option Value)  (b : Nat) (w : px_H) (Q : Option Value → px_H → Prop), wp (d + 1) 198 1 [l0, l1, l2, l3, l4, l5, l6] [.ref b] w 0 Q ↔ px_op (px_tgt w b [(11, 175)]) (fun v => wc d v [.ref b] w (fun r w' => wp (d + 1) 198 4 [l0, l1, l2, l3, l4, l5, l6] (r.toList ++ []) w' 0 Q))) ∧
  (∀ (d : Nat) (l0 l1 l2 l3 l4 l5 l6 : Option Value) (x : Int32) (w : px_H) (Q : Option Value → px_H → Prop), wp d 198 4 [l0, l1, l2, l3, l4, l5, l6] [.int x] w 0 Q ↔ if x = 0 then wp d 198 7 [l0, l1, l2, l3, l4, l5, l6] [] w 0 Q else wp d 198 10 [l0, l1, l2, l3, l4, l5, l6] [] w 0 Q) ∧
  (∀ (d : Nat) (l0 l1 l2 l3 l4 l5 l6 : Option Value)  (w : px_H) (Q : Option Value → px_H → Prop), wp d 198 7 [l0, l1, l2, l3, l4, l5, l6] [] w 0 Q ↔ wp d 198 9 [l0, l1, l2, l3, l4, l5, l6] [.int (-1000002)] w 0 Q) ∧
  (∀ (d : Nat) (l0 l1 l2 l3 l4 l5 l6 : Option Value) (x : Int32) (w : px_H) (Q : Option Value → px_H → Prop), wp d 198 9 [l0, l1, l2, l3, l4, l5, l6] [.int x] w 0 Q ↔ Q (some (.int x)) w) ∧
  (∀ (d : Nat) (l0 l2 l3 l4 l5 l6 : Option Value) (x : Int32) (w : px_H) (Q : Option Value → px_H → Prop), wp d 198 10 [l0, some (.int x), l2, l3, l4, l5, l6] [] w 0 Q ↔ wp d 198 11 [l0, some (.int x), l2, l3, l4, l5, l6] [.int x] w 0 Q) ∧
  (∀ (d : Nat) (l0 l1 l2 l3 l4 l5 l6 : Option Value) (v0 : Value) (w : px_H) (Q : Option Value → px_H → Prop), wp (d + 1) 198 11 [l0, l1, l2, l3, l4, l5, l6] [v0] w 0 Q ↔ wc d 143 [v0] w (fun r w' => wp (d + 1) 198 14 [l0, l1, l2, l3, l4, l5, l6] (r.toList ++ []) w' 0 Q)) ∧
  (∀ (d : Nat) (l0 l1 l2 l3 l4 l5 l6 : Option Value) (x : Int32) (w : px_H) (Q : Option Value → px_H → Prop), wp d 198 14 [l0, l1, l2, l3, l4, l5, l6] [.int x] w 0 Q ↔ if x = 0 then wp d 198 27 [l0, l1, l2, l3, l4, l5, l6] [] w 0 Q else wp d 198 17 [l0, l1, l2, l3, l4, l5, l6] [] w 0 Q) ∧
  (∀ (d : Nat) (l0 l1 l2 l4 l5 l6 : Option Value) (x : Int32) (w : px_H) (Q : Option Value → px_H → Prop), wp d 198 17 [l0, l1, l2, some (.int x), l4, l5, l6] [] w 0 Q ↔ wp d 198 18 [l0, l1, l2, some (.int x), l4, l5, l6] [.int x] w 0 Q) ∧
  (∀ (d : Nat) (l0 l1 l2 l3 l4 l5 l6 : Option Value) (s0 : Value)  (w : px_H) (Q : Option Value → px_H → Prop), wp d 198 18 [l0, l1, l2, l3, l4, l5, l6] [s0] w 0 Q ↔ wp d 198 19 [l0, l1, l2, l3, l4, l5, l6] [.int 1, s0] w 0 Q) ∧
  (∀ (d : Nat) (l0 l1 l2 l3 l4 l5 l6 : Option Value) (s0 s1 : Value)  (w : px_H) (Q : Option Value → px_H → Prop), wp d 198 19 [l0, l1, l2, l3, l4, l5, l6] [s0, s1] w 0 Q ↔ wp d 198 21 [l0, l1, l2, l3, l4, l5, l6] [.int 12, s0, s1] w 0 Q) ∧
  (∀ (d : Nat) (l0 l1 l2 l3 l4 l5 l6 : Option Value) (v0 v1 v2 : Value) (w : px_H) (Q : Option Value → px_H → Prop), wp (d + 1) 198 21 [l0, l1, l2, l3, l4, l5, l6] [v2, v1, v0] w 0 Q ↔ wc d 140 [v0, v1, v2] w (fun r w' => wp (d + 1) 198 24 [l0, l1, l2, l3, l4, l5, l6] (r.toList ++ []) w' 0 Q)) ∧
  (∀ (d : Nat) (l0 l1 l2 l3 l4 l5 l6 : Option Value) (x : Int32) (w : px_H) (Q : Option Value → px_H → Prop), wp d 198 24 [l0, l1, l2, l3, l4, l5, l6] [.int x] w 0 Q ↔ if x = 0 then wp d 198 27 [l0, l1, l2, l3, l4, l5, l6] [] w 0 Q else wp d 198 30 [l0, l1, l2, l3, l4, l5, l6] [] w 0 Q) ∧
  (∀ (d : Nat) (l0 l1 l2 l3 l4 l5 l6 : Option Value)  (w : px_H) (Q : Option Value → px_H → Prop), wp d 198 27 [l0, l1, l2, l3, l4, l5, l6] [] w 0 Q ↔ wp d 198 29 [l0, l1, l2, l3, l4, l5, l6] [.int (-1000001)] w 0 Q) ∧
  (∀ (d : Nat) (l0 l1 l2 l3 l4 l5 l6 : Option Value) (x : Int32) (w : px_H) (Q : Option Value → px_H → Prop), wp d 198 29 [l0, l1, l2, l3, l4, l5, l6] [.int x] w 0 Q ↔ Q (some (.int x)) w) ∧
  (∀ (d : Nat) (l1 l2 l3 l4 l5 l6 : Option Value) (a : Nat) (w : px_H) (Q : Option Value → px_H → Prop), wp d 198 30 [some (.ref a), l1, l2, l3, l4, l5, l6] [] w 0 Q ↔ wp d 198 31 [some (.ref a), l1, l2, l3, l4, l5, l6] [.ref a] w 0 Q) ∧
  (∀ (d : Nat) (l0 l1 l2 l3 l4 l5 l6 : Option Value) (a : Nat) (w : px_H) (Q : Option Value → px_H → Prop), wp d 198 31 [l0, l1, l2, l3, l4, l5, l6] [.ref a] w 0 Q ↔ px_op (px_fld w a [(11, 0)] 0) (fun v => wp d 198 34 [l0, l1, l2, l3, l4, l5, l6] [v] w 0 Q)) ∧
  (∀ (d : Nat) (l0 l2 l3 l4 l5 l6 : Option Value) (s0 : Value) (x : Int32) (w : px_H) (Q : Option Value → px_H → Prop), wp d 198 34 [l0, some (.int x), l2, l3, l4, l5, l6] [s0] w 0 Q ↔ wp d 198 35 [l0, some (.int x), l2, l3, l4, l5, l6] [.int x, s0] w 0 Q) ∧
  (∀ (d : Nat) (l0 l1 l2 l3 l4 l5 l6 : Option Value) (i : Int32) (a : Nat) (w : px_H) (Q : Option Value → px_H → Prop), wp d 198 35 [l0, l1, l2, l3, l4, l5, l6] [.int i, .ref a] w 0 Q ↔ px_op (px_ald w a i .int) (fun x => wp d 198 36 [l0, l1, l2, l3, l4, l5, l6] [.int x] w 0 Q)) ∧
  (∀ (d : Nat) (l0 l1 l2 l3 l4 l5 l6 : Option Value) (x : Int32) (w : px_H) (Q : Option Value → px_H → Prop), wp d 198 36 [l0, l1, l2, l3, l4, l5, l6] [.int x] w 0 Q ↔ if x = 0 then wp d 198 39 [l0, l1, l2, l3, l4, l5, l6] [] w 0 Q else wp d 198 45 [l0, l1, l2, l3, l4, l5, l6] [] w 0 Q) ∧
  (∀ (d : Nat) (l1 l2 l3 l4 l5 l6 : Option Value) (a : Nat) (w : px_H) (Q : Option Value → px_H → Prop), wp d 198 39 [some (.ref a), l1, l2, l3, l4, l5, l6] [] w 0 Q ↔ wp d 198 40 [some (.ref a), l1, l2, l3, l4, l5, l6] [.ref a] w 0 Q) ∧
  (∀ (d : Nat) (l0 l1 l2 l3 l4 l5 l6 : Option Value) (s0 : Value)  (w : px_H) (Q : Option Value → px_H → Prop), wp d 198 40 [l0, l1, l2, l3, l4, l5, l6] [s0] w 0 Q ↔ wp d 198 41 [l0, l1, l2, l3, l4, l5, l6] [.int 1, s0] w 0 Q) ∧
  (∀ (d : Nat) (l0 l1 l2 l3 l4 l5 l6 : Option Value) (v0 : Value) (b : Nat) (w : px_H) (Q : Option Value → px_H → Prop), wp (d + 1) 198 41 [l0, l1, l2, l3, l4, l5, l6] [v0, .ref b] w 0 Q ↔ px_op (px_tgt w b [(11, 141)]) (fun v => wc d v [.ref b, v0] w (fun r w' => wp (d + 1) 198 44 [l0, l1, l2, l3, l4, l5, l6] (r.toList ++ []) w' 0 Q))) ∧
  (∀ (d : Nat) (l0 l1 l2 l3 l4 l5 l6 : Option Value) (x : Int32) (w : px_H) (Q : Option Value → px_H → Prop), wp d 198 44 [l0, l1, l2, l3, l4, l5, l6] [.int x] w 0 Q ↔ Q (some (.int x)) w) ∧
  (∀ (d : Nat) (l0 l1 l3 l4 l5 l6 : Option Value) (x : Int32) (w : px_H) (Q : Option Value → px_H → Prop), wp d 198 45 [l0, l1, some (.int x), l3, l4, l5, l6] [] w 0 Q ↔ wp d 198 46 [l0, l1, some (.int x), l3, l4, l5, l6] [.int x] w 0 Q) ∧
  (∀ (d : Nat) (l0 l1 l2 l3 l4 l5 l6 : Option Value) (x : Int32) (w : px_H) (Q : Option Value → px_H → Prop), wp d 198 46 [l0, l1, l2, l3, l4, l5, l6] [.int x] w 0 Q ↔ if x < 0 then wp d 198 61 [l0, l1, l2, l3, l4, l5, l6] [] w 0 Q else wp d 198 49 [l0, l1, l2, l3, l4, l5, l6] [] w 0 Q) ∧
  (∀ (d : Nat) (l0 l1 l3 l4 l5 l6 : Option Value) (x : Int32) (w : px_H) (Q : Option Value → px_H → Prop), wp d 198 49 [l0, l1, some (.int x), l3, l4, l5, l6] [] w 0 Q ↔ wp d 198 50 [l0, l1, some (.int x), l3, l4, l5, l6] [.int x] w 0 Q) ∧
  (∀ (d : Nat) (l1 l2 l3 l4 l5 l6 : Option Value) (s0 : Value) (a : Nat) (w : px_H) (Q : Option Value → px_H → Prop), wp d 198 50 [some (.ref a), l1, l2, l3, l4, l5, l6] [s0] w 0 Q ↔ wp d 198 51 [some (.ref a), l1, l2, l3, l4, l5, l6] [.ref a, s0] w 0 Q) ∧
  (∀ (d : Nat) (l0 l1 l2 l3 l4 l5 l6 : Option Value) (s1 : Value) (a : Nat) (w : px_H) (Q : Option Value → px_H → Prop), wp d 198 51 [l0, l1, l2, l3, l4, l5, l6] [.ref a, s1] w 0 Q ↔ px_op (px_fld w a [(11, 0)] 1) (fun v => wp d 198 54 [l0, l1, l2, l3, l4, l5, l6] [v, s1] w 0 Q)) ∧
  (∀ (d : Nat) (l0 l2 l3 l4 l5 l6 : Option Value) (s0 s1 : Value) (x : Int32) (w : px_H) (Q : Option Value → px_H → Prop), wp d 198 54 [l0, some (.int x), l2, l3, l4, l5, l6] [s0, s1] w 0 Q ↔ wp d 198 55 [l0, some (.int x), l2, l3, l4, l5, l6] [.int x, s0, s1] w 0 Q) ∧
  (∀ (d : Nat) (l0 l1 l2 l3 l4 l5 l6 : Option Value) (s2 : Value) (i : Int32) (a : Nat) (w : px_H) (Q : Option Value → px_H → Prop), wp d 198 55 [l0, l1, l2, l3, l4, l5, l6] [.int i, .ref a, s2] w 0 Q ↔ px_op (px_ald w a i .int) (fun x => wp d 198 56 [l0, l1, l2, l3, l4, l5, l6] [.int x, s2] w 0 Q)) ∧
  (∀ (d : Nat) (l0 l1 l2 l4 l5 l6 : Option Value) (s0 s1 : Value) (x : Int32) (w : px_H) (Q : Option Value → px_H → Prop), wp d 198 56 [l0, l1, l2, some (.int x), l4, l5, l6] [s0, s1] w 0 Q ↔ wp d 198 57 [l0, l1, l2, some (.int x), l4, l5, l6] [.int x, s0, s1] w 0 Q) ∧
  (∀ (d : Nat) (l0 l1 l2 l3 l4 l5 l6 : Option Value) (s2 : Value) (x y : Int32) (w : px_H) (Q : Option Value → px_H → Prop), wp d 198 57 [l0, l1, l2, l3, l4, l5, l6] [.int y, .int x, s2] w 0 Q ↔ wp d 198 58 [l0, l1, l2, l3, l4, l5, l6] [.int (x - y), s2] w 0 Q) ∧
  (∀ (d : Nat) (l0 l1 l2 l3 l4 l5 l6 : Option Value) (x y : Int32) (w : px_H) (Q : Option Value → px_H → Prop), wp d 198 58 [l0, l1, l2, l3, l4, l5, l6] [.int y, .int x] w 0 Q ↔ if x ≤ y then wp d 198 67 [l0, l1, l2, l3, l4, l5, l6] [] w 0 Q else wp d 198 61 [l0, l1, l2, l3, l4, l5, l6] [] w 0 Q) ∧
  (∀ (d : Nat) (l1 l2 l3 l4 l5 l6 : Option Value) (a : Nat) (w : px_H) (Q : Option Value → px_H → Prop), wp d 198 61 [some (.ref a), l1, l2, l3, l4, l5, l6] [] w 0 Q ↔ wp d 198 62 [some (.ref a), l1, l2, l3, l4, l5, l6] [.ref a] w 0 Q) ∧
  (∀ (d : Nat) (l0 l1 l2 l3 l4 l5 l6 : Option Value) (s0 : Value)  (w : px_H) (Q : Option Value → px_H → Prop), wp d 198 62 [l0, l1, l2, l3, l4, l5, l6] [s0] w 0 Q ↔ wp d 198 63 [l0, l1, l2, l3, l4, l5, l6] [.int 2, s0] w 0 Q) ∧
  (∀ (d : Nat) (l0 l1 l2 l3 l4 l5 l6 : Option Value) (v0 : Value) (b : Nat) (w : px_H) (Q : Option Value → px_H → Prop), wp (d + 1) 198 63 [l0, l1, l2, l3, l4, l5, l6] [v0, .ref b] w 0 Q ↔ px_op (px_tgt w b [(11, 141)]) (fun v => wc d v [.ref b, v0] w (fun r w' => wp (d + 1) 198 66 [l0, l1, l2, l3, l4, l5, l6] (r.toList ++ []) w' 0 Q))) ∧
  (∀ (d : Nat) (l0 l1 l2 l3 l4 l5 l6 : Option Value) (x : Int32) (w : px_H) (Q : Option Value → px_H → Prop), wp d 198 66 [l0, l1, l2, l3, l4, l5, l6] [.int x] w 0 Q ↔ Q (some (.int x)) w) ∧
  (∀ (d : Nat) (l0 l1 l2 l3 l4 l5 l6 : Option Value)  (w : px_H) (Q : Option Value → px_H → Prop), wp d 198 67 [l0, l1, l2, l3, l4, l5, l6] [] w 0 Q ↔ wp d 198 68 [l0, l1, l2, l3, l4, l5, l6] [.int 0] w 0 Q) ∧
  (∀ (d : Nat) (l0 l1 l2 l3 l4 l5 l6 : Option Value) (x : Int32) (w : px_H) (Q : Option Value → px_H → Prop), wp d 198 68 [l0, l1, l2, l3, l4, l5, l6] [.int x] w 0 Q ↔ wp d 198 70 [l0, l1, l2, l3, some (.int x), l5, l6] [] w 0 Q) ∧
  (∀ (d : Nat) (l0 l1 l2 l4 l5 l6 : Option Value) (s0 : Value) (x : Int32) (w : px_H) (Q : Option Value → px_H → Prop), wp d 198 72 [l0, l1, l2, some (.int x), l4, l5, l6] [s0] w 0 Q ↔ wp d 198 73 [l0, l1, l2, some (.int x), l4, l5, l6] [.int x, s0] w 0 Q) ∧
  (∀ (d : Nat) (l0 l1 l2 l3 l4 l5 l6 : Option Value) (x y : Int32) (w : px_H) (Q : Option Value → px_H → Prop), wp d 198 73 [l0, l1, l2, l3, l4, l5, l6] [.int y, .int x] w 0 Q ↔ if y ≤ x then wp d 198 107 [l0, l1, l2, l3, l4, l5, l6] [] w 0 Q else wp d 198 76 [l0, l1, l2, l3, l4, l5, l6] [] w 0 Q) ∧
  (∀ (d : Nat) (l1 l2 l3 l4 l5 l6 : Option Value) (a : Nat) (w : px_H) (Q : Option Value → px_H → Prop), wp d 198 76 [some (.ref a), l1, l2, l3, l4, l5, l6] [] w 0 Q ↔ wp d 198 77 [some (.ref a), l1, l2, l3, l4, l5, l6] [.ref a] w 0 Q) ∧
  (∀ (d : Nat) (l0 l1 l2 l3 l4 l5 l6 : Option Value) (a : Nat) (w : px_H) (Q : Option Value → px_H → Prop), wp d 198 77 [l0, l1, l2, l3, l4, l5, l6] [.ref a] w 0 Q ↔ px_op (px_fld w a [(11, 0)] 2) (fun v => wp d 198 80 [l0, l1, l2, l3, l4, l5, l6] [v] w 0 Q)) ∧
  (∀ (d : Nat) (l0 l1 l2 l3 l4 l5 l6 : Option Value) (s0 : Value)  (w : px_H) (Q : Option Value → px_H → Prop), wp d 198 80 [l0, l1, l2, l3, l4, l5, l6] [s0] w 0 Q ↔ wp d 198 82 [l0, l1, l2, l3, l4, l5, l6] [.int 40, s0] w 0 Q) ∧
  (∀ (d : Nat) (l0 l2 l3 l4 l5 l6 : Option Value) (s0 s1 : Value) (x : Int32) (w : px_H) (Q : Option Value → px_H → Prop), wp d 198 82 [l0, some (.int x), l2, l3, l4, l5, l6] [s0, s1] w 0 Q ↔ wp d 198 83 [l0, some (.int x), l2, l3, l4, l5, l6] [.int x, s0, s1] w 0 Q) ∧
  (∀ (d : Nat) (l0 l1 l2 l3 l4 l5 l6 : Option Value) (s2 : Value) (x y : Int32) (w : px_H) (Q : Option Value → px_H → Prop), wp d 198 83 [l0, l1, l2, l3, l4, l5, l6] [.int y, .int x, s2] w 0 Q ↔ wp d 198 84 [l0, l1, l2, l3, l4, l5, l6] [.int (x * y), s2] w 0 Q) ∧
  (∀ (d : Nat) (l0 l1 l3 l4 l5 l6 : Option Value) (s0 s1 : Value) (x : Int32) (w : px_H) (Q : Option Value → px_H → Prop), wp d 198 84 [l0, l1, some (.int x), l3, l4, l5, l6] [s0, s1] w 0 Q ↔ wp d 198 85 [l0, l1, some (.int x), l3, l4, l5, l6] [.int x, s0, s1] w 0 Q) ∧
  (∀ (d : Nat) (l0 l1 l2 l3 l4 l5 l6 : Option Value) (s2 : Value) (x y : Int32) (w : px_H) (Q : Option Value → px_H → Prop), wp d 198 85 [l0, l1, l2, l3, l4, l5, l6] [.int y, .int x, s2] w 0 Q ↔ wp d 198 86 [l0, l1, l2, l3, l4, l5, l6] [.int (x + y), s2] w 0 Q) ∧
  (∀ (d : Nat) (l0 l1 l2 l3 l5 l6 : Option Value) (s0 s1 : Value) (x : Int32) (w : px_H) (Q : Option Value → px_H → Prop), wp d 198 86 [l0, l1, l2, l3, some (.int x), l5, l6] [s0, s1] w 0 Q ↔ wp d 198 88 [l0, l1, l2, l3, some (.int x), l5, l6] [.int x, s0, s1] w 0 Q) ∧
  (∀ (d : Nat) (l0 l1 l2 l3 l4 l5 l6 : Option Value) (s2 : Value) (x y : Int32) (w : px_H) (Q : Option Value → px_H → Prop), wp d 198 88 [l0, l1, l2, l3, l4, l5, l6] [.int y, .int x, s2] w 0 Q ↔ wp d 198 89 [l0, l1, l2, l3, l4, l5, l6] [.int (x + y), s2] w 0 Q) ∧
  (∀ (d : Nat) (l0 l1 l2 l3 l4 l5 l6 : Option Value) (i : Int32) (a : Nat) (w : px_H) (Q : Option Value → px_H → Prop), wp d 198 89 [l0, l1, l2, l3, l4, l5, l6] [.int i, .ref a] w 0 Q ↔ px_op (px_ald w a i .int) (fun x => wp d 198 90 [l0, l1, l2, l3, l4, l5, l6] [.int x] w 0 Q)) ∧
  (∀ (d : Nat) (l0 l1 l2 l3 l4 l5 l6 : Option Value) (s0 : Value)  (w : px_H) (Q : Option Value → px_H → Prop), wp d 198 90 [l0, l1, l2, l3, l4, l5, l6] [s0] w 0 Q ↔ wp d 198 91 [l0, l1, l2, l3, l4, l5, l6] [.int 0, s0] w 0 Q) ∧
  (∀ (d : Nat) (l0 l1 l2 l3 l4 l5 l6 : Option Value) (s0 s1 : Value)  (w : px_H) (Q : Option Value → px_H → Prop), wp d 198 91 [l0, l1, l2, l3, l4, l5, l6] [s0, s1] w 0 Q ↔ wp d 198 92 [l0, l1, l2, l3, l4, l5, l6] [.int 1, s0, s1] w 0 Q) ∧
  (∀ (d : Nat) (l0 l1 l2 l3 l4 l5 l6 : Option Value) (v0 v1 v2 : Value) (w : px_H) (Q : Option Value → px_H → Prop), wp (d + 1) 198 92 [l0, l1, l2, l3, l4, l5, l6] [v2, v1, v0] w 0 Q ↔ wc d 140 [v0, v1, v2] w (fun r w' => wp (d + 1) 198 95 [l0, l1, l2, l3, l4, l5, l6] (r.toList ++ []) w' 0 Q)) ∧
  (∀ (d : Nat) (l0 l1 l2 l3 l4 l5 l6 : Option Value) (x : Int32) (w : px_H) (Q : Option Value → px_H → Prop), wp d 198 95 [l0, l1, l2, l3, l4, l5, l6] [.int x] w 0 Q ↔ if x = 0 then wp d 198 98 [l0, l1, l2, l3, l4, l5, l6] [] w 0 Q else wp d 198 101 [l0, l1, l2, l3, l4, l5, l6] [] w 0 Q) ∧
  (∀ (d : Nat) (l0 l1 l2 l3 l4 l5 l6 : Option Value)  (w : px_H) (Q : Option Value → px_H → Prop), wp d 198 98 [l0, l1, l2, l3, l4, l5, l6] [] w 0 Q ↔ wp d 198 100 [l0, l1, l2, l3, l4, l5, l6] [.int (-1000001)] w 0 Q) ∧
  (∀ (d : Nat) (l0 l1 l2 l3 l4 l5 l6 : Option Value) (x : Int32) (w : px_H) (Q : Option Value → px_H → Prop), wp d 198 100 [l0, l1, l2, l3, l4, l5, l6] [.int x] w 0 Q ↔ Q (some (.int x)) w) ∧
  (∀ (d : Nat) (l0 l1 l2 l3 l5 l6 : Option Value) (x : Int32) (w : px_H) (Q : Option Value → px_H → Prop), wp d 198 101 [l0, l1, l2, l3, some (.int x), l5, l6] [] w 0 Q ↔ wp d 198 104 [l0, l1, l2, l3, some (.int (x + 1)), l5, l6] [] w 0 Q) ∧
  (∀ (d : Nat) (l0 l1 l2 l3 l4 l5 l6 : Option Value)  (w : px_H) (Q : Option Value → px_H → Prop), wp d 198 104 [l0, l1, l2, l3, l4, l5, l6] [] w 0 Q ↔ wp d 198 70 [l0, l1, l2, l3, l4, l5, l6] [] w 0 Q) ∧
  (∀ (d : Nat) (l0 l1 l2 l3 l4 l5 l6 : Option Value)  (w : px_H) (Q : Option Value → px_H → Prop), wp d 198 107 [l0, l1, l2, l3, l4, l5, l6] [] w 0 Q ↔ wp d 198 108 [l0, l1, l2, l3, l4, l5, l6] [.int 1] w 0 Q) ∧
  (∀ (d : Nat) (l1 l2 l3 l4 l5 l6 : Option Value) (s0 : Value) (a : Nat) (w : px_H) (Q : Option Value → px_H → Prop), wp d 198 108 [some (.ref a), l1, l2, l3, l4, l5, l6] [s0] w 0 Q ↔ wp d 198 109 [some (.ref a), l1, l2, l3, l4, l5, l6] [.ref a, s0] w 0 Q) ∧
  (∀ (d : Nat) (l0 l1 l2 l3 l4 l5 l6 : Option Value) (s0 s1 : Value)  (w : px_H) (Q : Option Value → px_H → Prop), wp d 198 109 [l0, l1, l2, l3, l4, l5, l6] [s0, s1] w 0 Q ↔ wp d 198 110 [l0, l1, l2, l3, l4, l5, l6] [.int 2, s0, s1] w 0 Q) ∧
  (∀ (d : Nat) (l0 l1 l2 l3 l4 l5 l6 : Option Value) (s2 : Value) (v0 : Value) (b : Nat) (w : px_H) (Q : Option Value → px_H → Prop), wp (d + 1) 198 110 [l0, l1, l2, l3, l4, l5, l6] [v0, .ref b, s2] w 0 Q ↔ px_op (px_tgt w b [(11, 149)]) (fun v => wc d v [.ref b, v0] w (fun r w' => wp (d + 1) 198 113 [l0, l1, l2, l3, l4, l5, l6] (r.toList ++ [s2]) w' 0 Q))) ∧
  (∀ (d : Nat) (l0 l1 l2 l3 l4 l5 l6 : Option Value) (x y : Int32) (w : px_H) (Q : Option Value → px_H → Prop), wp d 198 113 [l0, l1, l2, l3, l4, l5, l6] [.int y, .int x] w 0 Q ↔ wp d 198 114 [l0, l1, l2, l3, l4, l5, l6] [.int (x <<< (y &&& 31))] w 0 Q) ∧
  (∀ (d : Nat) (l0 l1 l2 l3 l4 l5 l6 : Option Value) (s0 : Value)  (w : px_H) (Q : Option Value → px_H → Prop), wp d 198 114 [l0, l1, l2, l3, l4, l5, l6] [s0] w 0 Q ↔ wp d 198 115 [l0, l1, l2, l3, l4, l5, l6] [.int 1, s0] w 0 Q) ∧
  (∀ (d : Nat) (l0 l1 l2 l3 l4 l5 l6 : Option Value) (x y : Int32) (w : px_H) (Q : Option Value → px_H → Prop), wp d 198 115 [l0, l1, l2, l3, l4, l5, l6] [.int y, .int x] w 0 Q ↔ wp d 198 116 [l0, l1, l2, l3, l4, l5, l6] [.int (x - y)] w 0 Q) ∧
  (∀ (d : Nat) (l0 l1 l2 l3 l4 l5 l6 : Option Value) (x : Int32) (w : px_H) (Q : Option Value → px_H → Prop), wp d 198 116 [l0, l1, l2, l3, l4, l5, l6] [.int x] w 0 Q ↔ wp d 198 118 [l0, l1, l2, l3, some (.int x), l5, l6] [] w 0 Q) ∧
  (∀ (d : Nat) (l0 l1 l2 l3 l4 l5 l6 : Option Value)  (w : px_H) (Q : Option Value → px_H → Prop), wp d 198 118 [l0, l1, l2, l3, l4, l5, l6] [] w 0 Q ↔ wp d 198 119 [l0, l1, l2, l3, l4, l5, l6] [.int 0] w 0 Q) ∧
  (∀ (d : Nat) (l0 l1 l2 l3 l4 l5 l6 : Option Value) (x : Int32) (w : px_H) (Q : Option Value → px_H → Prop), wp d 198 119 [l0, l1, l2, l3, l4, l5, l6] [.int x] w 0 Q ↔ wp d 198 121 [l0, l1, l2, l3, l4, some (.int x), l6] [] w 0 Q) ∧
  (∀ (d : Nat) (l0 l1 l2 l4 l5 l6 : Option Value) (s0 : Value) (x : Int32) (w : px_H) (Q : Option Value → px_H → Prop), wp d 198 123 [l0, l1, l2, some (.int x), l4, l5, l6] [s0] w 0 Q ↔ wp d 198 124 [l0, l1, l2, some (.int x), l4, l5, l6] [.int x, s0] w 0 Q) ∧
  (∀ (d : Nat) (l0 l1 l2 l3 l4 l5 l6 : Option Value) (x y : Int32) (w : px_H) (Q : Option Value → px_H → Prop), wp d 198 124 [l0, l1, l2, l3, l4, l5, l6] [.int y, .int x] w 0 Q ↔ if y ≤ x then wp d 198 179 [l0, l1, l2, l3, l4, l5, l6] [] w 0 Q else wp d 198 127 [l0, l1, l2, l3, l4, l5, l6] [] w 0 Q) ∧
  (∀ (d : Nat) (l1 l2 l3 l4 l5 l6 : Option Value) (a : Nat) (w : px_H) (Q : Option Value → px_H → Prop), wp d 198 127 [some (.ref a), l1, l2, l3, l4, l5, l6] [] w 0 Q ↔ wp d 198 128 [some (.ref a), l1, l2, l3, l4, l5, l6] [.ref a] w 0 Q) ∧
  (∀ (d : Nat) (l1 l2 l3 l4 l5 l6 : Option Value) (s0 : Value) (a : Nat) (w : px_H) (Q : Option Value → px_H → Prop), wp d 198 128 [some (.ref a), l1, l2, l3, l4, l5, l6] [s0] w 0 Q ↔ wp d 198 129 [some (.ref a), l1, l2, l3, l4, l5, l6] [.ref a, s0] w 0 Q) ∧
  (∀ (d : Nat) (l0 l1 l2 l3 l4 l5 l6 : Option Value) (s0 s1 : Value)  (w : px_H) (Q : Option Value → px_H → Prop), wp d 198 129 [l0, l1, l2, l3, l4, l5, l6] [s0, s1] w 0 Q ↔ wp d 198 130 [l0, l1, l2, l3, l4, l5, l6] [.int 3, s0, s1] w 0 Q) ∧
  (∀ (d : Nat) (l0 l1 l2 l3 l4 l5 l6 : Option Value) (s2 : Value) (v0 : Value) (b : Nat) (w : px_H) (Q : Option Value → px_H → Prop), wp (d + 1) 198 130 [l0, l1, l2, l3, l4, l5, l6] [v0, .ref b, s2] w 0 Q ↔ px_op (px_tgt w b [(11, 149)]) (fun v => wc d v [.ref b, v0] w (fun r w' => wp (d + 1) 198 133 [l0, l1, l2, l3, l4, l5, l6] (r.toList ++ [s2]) w' 0 Q))) ∧
  (∀ (d : Nat) (l0 l1 l2 l3 l4 l6 : Option Value) (s0 s1 : Value) (x : Int32) (w : px_H) (Q : Option Value → px_H → Prop), wp d 198 133 [l0, l1, l2, l3, l4, some (.int x), l6] [s0, s1] w 0 Q ↔ wp d 198 135 [l0, l1, l2, l3, l4, some (.int x), l6] [.int x, s0, s1] w 0 Q) ∧
  (∀ (d : Nat) (l0 l1 l2 l3 l4 l5 l6 : Option Value) (s2 : Value) (x y : Int32) (w : px_H) (Q : Option Value → px_H → Prop), wp d 198 135 [l0, l1, l2, l3, l4, l5, l6] [.int y, .int x, s2] w 0 Q ↔ wp d 198 136 [l0, l1, l2, l3, l4, l5, l6] [.int (x + y), s2] w 0 Q) ∧
  (∀ (d : Nat) (l0 l1 l2 l3 l4 l5 l6 : Option Value) (v0 : Value) (b : Nat) (w : px_H) (Q : Option Value → px_H → Prop), wp (d + 1) 198 136 [l0, l1, l2, l3, l4, l5, l6] [v0, .ref b] w 0 Q ↔ px_op (px_tgt w b [(11, 171)]) (fun v => wc d v [.ref b, v0] w (fun r w' => wp (d + 1) 198 139 [l0, l1, l2, l3, l4, l5, l6] (r.toList ++ []) w' 0 Q))) ∧
  (∀ (d : Nat) (l0 l1 l2 l3 l4 l5 l6 : Option Value) (x : Int32) (w : px_H) (Q : Option Value → px_H → Prop), wp d 198 139 [l0, l1, l2, l3, l4, l5, l6] [.int x] w 0 Q ↔ wp d 198 141 [l0, l1, l2, l3, l4, l5, some (.int x)] [] w 0 Q) ∧
  (∀ (d : Nat) (l0 l1 l2 l3 l5 l6 : Option Value) (x : Int32) (w : px_H) (Q : Option Value → px_H → Prop), wp d 198 141 [l0, l1, l2, l3, some (.int x), l5, l6] [] w 0 Q ↔ wp d 198 143 [l0, l1, l2, l3, some (.int x), l5, l6] [.int x] w 0 Q) ∧
  (∀ (d : Nat) (l1 l2 l3 l4 l5 l6 : Option Value) (s0 : Value) (a : Nat) (w : px_H) (Q : Option Value → px_H → Prop), wp d 198 143 [some (.ref a), l1, l2, l3, l4, l5, l6] [s0] w 0 Q ↔ wp d 198 144 [some (.ref a), l1, l2, l3, l4, l5, l6] [.ref a, s0] w 0 Q) ∧
  (∀ (d : Nat) (l0 l1 l2 l3 l4 l5 l6 : Option Value) (s1 : Value) (a : Nat) (w : px_H) (Q : Option Value → px_H → Prop), wp d 198 144 [l0, l1, l2, l3, l4, l5, l6] [.ref a, s1] w 0 Q ↔ px_op (px_fld w a [(11, 0)] 2) (fun v => wp d 198 147 [l0, l1, l2, l3, l4, l5, l6] [v, s1] w 0 Q)) ∧
  (∀ (d : Nat) (l0 l1 l2 l3 l4 l5 l6 : Option Value) (s0 s1 : Value)  (w : px_H) (Q : Option Value → px_H → Prop), wp d 198 147 [l0, l1, l2, l3, l4, l5, l6] [s0, s1] w 0 Q ↔ wp d 198 149 [l0, l1, l2, l3, l4, l5, l6] [.int 40, s0, s1] w 0 Q) ∧
  (∀ (d : Nat) (l0 l2 l3 l4 l5 l6 : Option Value) (s0 s1 s2 : Value) (x : Int32) (w : px_H) (Q : Option Value → px_H → Prop), wp d 198 149 [l0, some (.int x), l2, l3, l4, l5, l6] [s0, s1, s2] w 0 Q ↔ wp d 198 150 [l0, some (.int x), l2, l3, l4, l5, l6] [.int x, s0, s1, s2] w 0 Q) ∧
  (∀ (d : Nat) (l0 l1 l2 l3 l4 l5 l6 : Option Value) (s2 s3 : Value) (x y : Int32) (w : px_H) (Q : Option Value → px_H → Prop), wp d 198 150 [l0, l1, l2, l3, l4, l5, l6] [.int y, .int x, s2, s3] w 0 Q ↔ wp d 198 151 [l0, l1, l2, l3, l4, l5, l6] [.int (x * y), s2, s3] w 0 Q) ∧
  (∀ (d : Nat) (l0 l1 l3 l4 l5 l6 : Option Value) (s0 s1 s2 : Value) (x : Int32) (w : px_H) (Q : Option Value → px_H → Prop), wp d 198 151 [l0, l1, some (.int x), l3, l4, l5, l6] [s0, s1, s2] w 0 Q ↔ wp d 198 152 [l0, l1, some (.int x), l3, l4, l5, l6] [.int x, s0, s1, s2] w 0 Q) ∧
  (∀ (d : Nat) (l0 l1 l2 l3 l4 l5 l6 : Option Value) (s2 s3 : Value) (x y : Int32) (w : px_H) (Q : Option Value → px_H → Prop), wp d 198 152 [l0, l1, l2, l3, l4, l5, l6] [.int y, .int x, s2, s3] w 0 Q ↔ wp d 198 153 [l0, l1, l2, l3, l4, l5, l6] [.int (x + y), s2, s3] w 0 Q) ∧
  (∀ (d : Nat) (l0 l1 l2 l3 l4 l6 : Option Value) (s0 s1 s2 : Value) (x : Int32) (w : px_H) (Q : Option Value → px_H → Prop), wp d 198 153 [l0, l1, l2, l3, l4, some (.int x), l6] [s0, s1, s2] w 0 Q ↔ wp d 198 155 [l0, l1, l2, l3, l4, some (.int x), l6] [.int x, s0, s1, s2] w 0 Q) ∧
  (∀ (d : Nat) (l0 l1 l2 l3 l4 l5 l6 : Option Value) (s2 s3 : Value) (x y : Int32) (w : px_H) (Q : Option Value → px_H → Prop), wp d 198 155 [l0, l1, l2, l3, l4, l5, l6] [.int y, .int x, s2, s3] w 0 Q ↔ wp d 198 156 [l0, l1, l2, l3, l4, l5, l6] [.int (x + y), s2, s3] w 0 Q) ∧
  (∀ (d : Nat) (l0 l1 l2 l3 l4 l5 l6 : Option Value) (s2 : Value) (i : Int32) (a : Nat) (w : px_H) (Q : Option Value → px_H → Prop), wp d 198 156 [l0, l1, l2, l3, l4, l5, l6] [.int i, .ref a, s2] w 0 Q ↔ px_op (px_ald w a i .int) (fun x => wp d 198 157 [l0, l1, l2, l3, l4, l5, l6] [.int x, s2] w 0 Q)) ∧
  (∀ (d : Nat) (l0 l1 l2 l3 l4 l5 l6 : Option Value) (s0 s1 : Value)  (w : px_H) (Q : Option Value → px_H → Prop), wp d 198 157 [l0, l1, l2, l3, l4, l5, l6] [s0, s1] w 0 Q ↔ wp d 198 158 [l0, l1, l2, l3, l4, l5, l6] [.int 1, s0, s1] w 0 Q) ∧
  (∀ (d : Nat) (l0 l1 l2 l3 l4 l5 l6 : Option Value) (s2 : Value) (x y : Int32) (w : px_H) (Q : Option Value → px_H → Prop), wp d 198 158 [l0, l1, l2, l3, l4, l5, l6] [.int y, .int x, s2] w 0 Q ↔ if x = y then wp d 198 161 [l0, l1, l2, l3, l4, l5, l6] [s2] w 0 Q else wp d 198 166 [l0, l1, l2, l3, l4, l5, l6] [s2] w 0 Q) ∧
  (∀ (d : Nat) (l0 l1 l2 l3 l4 l5 : Option Value) (s0 : Value) (x : Int32) (w : px_H) (Q : Option Value → px_H → Prop), wp d 198 161 [l0, l1, l2, l3, l4, l5, some (.int x)] [s0] w 0 Q ↔ wp d 198 163 [l0, l1, l2, l3, l4, l5, some (.int x)] [.int x, s0] w 0 Q) ∧
  (∀ (d : Nat) (l0 l1 l2 l3 l4 l5 l6 : Option Value) (s0 s1 : Value)  (w : px_H) (Q : Option Value → px_H → Prop), wp d 198 163 [l0, l1, l2, l3, l4, l5, l6] [s0, s1] w 0 Q ↔ wp d 198 170 [l0, l1, l2, l3, l4, l5, l6] [s0, s1] w 0 Q) ∧
  (∀ (d : Nat) (l0 l1 l2 l3 l4 l5 : Option Value) (s0 : Value) (x : Int32) (w : px_H) (Q : Option Value → px_H → Prop), wp d 198 166 [l0, l1, l2, l3, l4, l5, some (.int x)] [s0] w 0 Q ↔ wp d 198 168 [l0, l1, l2, l3, l4, l5, some (.int x)] [.int x, s0] w 0 Q) ∧
  (∀ (d : Nat) (l0 l1 l2 l3 l4 l5 l6 : Option Value) (s0 s1 : Value)  (w : px_H) (Q : Option Value → px_H → Prop), wp d 198 168 [l0, l1, l2, l3, l4, l5, l6] [s0, s1] w 0 Q ↔ wp d 198 169 [l0, l1, l2, l3, l4, l5, l6] [.int (-1), s0, s1] w 0 Q) ∧
  (∀ (d : Nat) (l0 l1 l2 l3 l4 l5 l6 : Option Value) (s2 : Value) (x y : Int32) (w : px_H) (Q : Option Value → px_H → Prop), wp d 198 169 [l0, l1, l2, l3, l4, l5, l6] [.int y, .int x, s2] w 0 Q ↔ wp d 198 170 [l0, l1, l2, l3, l4, l5, l6] [.int (x ^^^ y), s2] w 0 Q) ∧
  (∀ (d : Nat) (l0 l1 l2 l3 l4 l5 l6 : Option Value) (x y : Int32) (w : px_H) (Q : Option Value → px_H → Prop), wp d 198 170 [l0, l1, l2, l3, l4, l5, l6] [.int y, .int x] w 0 Q ↔ wp d 198 171 [l0, l1, l2, l3, l4, l5, l6] [.int (x &&& y)] w 0 Q) ∧
  (∀ (d : Nat) (l0 l1 l2 l3 l4 l5 l6 : Option Value) (x : Int32) (w : px_H) (Q : Option Value → px_H → Prop), wp d 198 171 [l0, l1, l2, l3, l4, l5, l6] [.int x] w 0 Q ↔ wp d 198 173 [l0, l1, l2, l3, some (.int x), l5, l6] [] w 0 Q) ∧
  (∀ (d : Nat) (l0 l1 l2 l3 l4 l6 : Option Value) (x : Int32) (w : px_H) (Q : Option Value → px_H → Prop), wp d 198 173 [l0, l1, l2, l3, l4, some (.int x), l6] [] w 0 Q ↔ wp d 198 176 [l0, l1, l2, l3, l4, some (.int (x + 1)), l6] [] w 0 Q) ∧
  (∀ (d : Nat) (l0 l1 l2 l3 l4 l5 l6 : Option Value)  (w : px_H) (Q : Option Value → px_H → Prop), wp d 198 176 [l0, l1, l2, l3, l4, l5, l6] [] w 0 Q ↔ wp d 198 121 [l0, l1, l2, l3, l4, l5, l6] [] w 0 Q) ∧
  (∀ (d : Nat) (l1 l2 l3 l4 l5 l6 : Option Value) (a : Nat) (w : px_H) (Q : Option Value → px_H → Prop), wp d 198 179 [some (.ref a), l1, l2, l3, l4, l5, l6] [] w 0 Q ↔ wp d 198 180 [some (.ref a), l1, l2, l3, l4, l5, l6] [.ref a] w 0 Q) ∧
  (∀ (d : Nat) (l0 l1 l2 l3 l5 l6 : Option Value) (s0 : Value) (x : Int32) (w : px_H) (Q : Option Value → px_H → Prop), wp d 198 180 [l0, l1, l2, l3, some (.int x), l5, l6] [s0] w 0 Q ↔ wp d 198 182 [l0, l1, l2, l3, some (.int x), l5, l6] [.int x, s0] w 0 Q) ∧
  (∀ (d : Nat) (l0 l1 l2 l3 l4 l5 l6 : Option Value) (v0 : Value) (b : Nat) (w : px_H) (Q : Option Value → px_H → Prop), wp (d + 1) 198 182 [l0, l1, l2, l3, l4, l5, l6] [v0, .ref b] w 0 Q ↔ px_op (px_tgt w b [(11, 142)]) (fun v => wc d v [.ref b, v0] w (fun r w' => wp (d + 1) 198 185 [l0, l1, l2, l3, l4, l5, l6] (r.toList ++ []) w' 0 Q))) ∧
  (∀ (d : Nat) (l0 l1 l2 l3 l4 l5 l6 : Option Value) (x : Int32) (w : px_H) (Q : Option Value → px_H → Prop), wp d 198 185 [l0, l1, l2, l3, l4, l5, l6] [.int x] w 0 Q ↔ Q (some (.int x)) w) := ⟨fun d v0 v1 v2 v3 w Q => r_entry pt_198 (Nat.le_of_ble_eq_true rfl) rfl,
  fun d l1 l2 l3 l4 l5 l6 a w Q => px_go (q := (.aload_n 0, 1, px_x0)) (S' := (1, [some (.ref a), l1, l2, l3, l4, l5, l6], [.ref a], w, 0)) pt_198 rfl rfl,
  fun d l0 l1 l2 l3 l4 l5 l6 b w Q => r_callV (q := (.invokevirtual 171, 3, (33, 0, [(11, 175)], 0, ""))) pt_198 rfl rfl (List.forall_mem_cons.mpr ⟨⟨_, pt_175, Nat.le_of_ble_eq_true rfl, (Nat.le_of_ble_eq_true rfl), rfl⟩, fun _ h => absurd h List.not_mem_nil⟩),
  fun d l0 l1 l2 l3 l4 l5 l6 x w Q => r_if_ne pt_198 rfl rfl,
  fun d l0 l1 l2 l3 l4 l5 l6 w Q => px_go (q := (.ldc 175, 2, (0, 0, [], (-1000002), ""))) (S' := (9, [l0, l1, l2, l3, l4, l5, l6], [.int (-1000002)], w, 0)) pt_198 rfl rfl,
  fun d l0 l1 l2 l3 l4 l5 l6 x w Q => px_ret (q := (.ireturn, 1, px_x0)) pt_198 rfl rfl,
  fun d l0 l2 l3 l4 l5 l6 x w Q => px_go (q := (.iload_n 1, 1, px_x0)) (S' := (11, [l0, some (.int x), l2, l3, l4, l5, l6], [.int x], w, 0)) pt_198 rfl rfl,
  fun d l0 l1 l2 l3 l4 l5 l6 v0 w Q => r_call (q := (.invokestatic 54, 3, (30, 1, [(0, 143)], 0, ""))) pt_198 rfl rfl pt_143 (Nat.le_of_ble_eq_true rfl) (Nat.le_of_ble_eq_true rfl) rfl,
  fun d l0 l1 l2 l3 l4 l5 l6 x w Q => r_if_eq pt_198 rfl rfl,
  fun d l0 l1 l2 l4 l5 l6 x w Q => px_go (q := (.iload_n 3, 1, px_x0)) (S' := (18, [l0, l1, l2, some (.int x), l4, l5, l6], [.int x], w, 0)) pt_198 rfl rfl,
  fun d l0 l1 l2 l3 l4 l5 l6 s0 w Q => r_iconst pt_198 rfl (by decide),
  fun d l0 l1 l2 l3 l4 l5 l6 s0 s1 w Q => r_bipush pt_198 rfl (by decide),
  fun d l0 l1 l2 l3 l4 l5 l6 v0 v1 v2 w Q => r_call (q := (.invokestatic 50, 3, (30, 3, [(0, 140)], 0, ""))) pt_198 rfl rfl pt_140 (Nat.le_of_ble_eq_true rfl) (Nat.le_of_ble_eq_true rfl) rfl,
  fun d l0 l1 l2 l3 l4 l5 l6 x w Q => r_if_ne pt_198 rfl rfl,
  fun d l0 l1 l2 l3 l4 l5 l6 w Q => px_go (q := (.ldc 58, 2, (0, 0, [], (-1000001), ""))) (S' := (29, [l0, l1, l2, l3, l4, l5, l6], [.int (-1000001)], w, 0)) pt_198 rfl rfl,
  fun d l0 l1 l2 l3 l4 l5 l6 x w Q => px_ret (q := (.ireturn, 1, px_x0)) pt_198 rfl rfl,
  fun d l1 l2 l3 l4 l5 l6 a w Q => px_go (q := (.aload_n 0, 1, px_x0)) (S' := (31, [some (.ref a), l1, l2, l3, l4, l5, l6], [.ref a], w, 0)) pt_198 rfl rfl,
  fun d l0 l1 l2 l3 l4 l5 l6 a w Q => px_goO (q := (.getfield 7, 3, (10, 0, [(11, 0)], 0, "AllSwornModel"))) (S' := fun v => (34, [l0, l1, l2, l3, l4, l5, l6], [v], w, 0)) pt_198 rfl rfl,
  fun d l0 l2 l3 l4 l5 l6 s0 x w Q => px_go (q := (.iload_n 1, 1, px_x0)) (S' := (35, [l0, some (.int x), l2, l3, l4, l5, l6], [.int x, s0], w, 0)) pt_198 rfl rfl,
  fun d l0 l1 l2 l3 l4 l5 l6 i a w Q => px_goO (q := (.iaload, 1, px_x0)) (S' := fun x => (36, [l0, l1, l2, l3, l4, l5, l6], [.int x], w, 0)) pt_198 rfl rfl,
  fun d l0 l1 l2 l3 l4 l5 l6 x w Q => r_if_ne pt_198 rfl rfl,
  fun d l1 l2 l3 l4 l5 l6 a w Q => px_go (q := (.aload_n 0, 1, px_x0)) (S' := (40, [some (.ref a), l1, l2, l3, l4, l5, l6], [.ref a], w, 0)) pt_198 rfl rfl,
  fun d l0 l1 l2 l3 l4 l5 l6 s0 w Q => r_iconst pt_198 rfl (by decide),
  fun d l0 l1 l2 l3 l4 l5 l6 v0 b w Q => r_callV (q := (.invokevirtual 59, 3, (33, 1, [(11, 141)], 0, ""))) pt_198 rfl rfl (List.forall_mem_cons.mpr ⟨⟨_, pt_141, Nat.le_of_ble_eq_true rfl, (Nat.le_of_ble_eq_true rfl), rfl⟩, fun _ h => absurd h List.not_mem_nil⟩),
  fun d l0 l1 l2 l3 l4 l5 l6 x w Q => px_ret (q := (.ireturn, 1, px_x0)) pt_198 rfl rfl,
  fun d l0 l1 l3 l4 l5 l6 x w Q => px_go (q := (.iload_n 2, 1, px_x0)) (S' := (46, [l0, l1, some (.int x), l3, l4, l5, l6], [.int x], w, 0)) pt_198 rfl rfl,
  fun d l0 l1 l2 l3 l4 l5 l6 x w Q => r_if_lt pt_198 rfl rfl,
  fun d l0 l1 l3 l4 l5 l6 x w Q => px_go (q := (.iload_n 2, 1, px_x0)) (S' := (50, [l0, l1, some (.int x), l3, l4, l5, l6], [.int x], w, 0)) pt_198 rfl rfl,
  fun d l1 l2 l3 l4 l5 l6 s0 a w Q => px_go (q := (.aload_n 0, 1, px_x0)) (S' := (51, [some (.ref a), l1, l2, l3, l4, l5, l6], [.ref a, s0], w, 0)) pt_198 rfl rfl,
  fun d l0 l1 l2 l3 l4 l5 l6 s1 a w Q => px_goO (q := (.getfield 13, 3, (10, 1, [(11, 0)], 0, "AllSwornModel"))) (S' := fun v => (54, [l0, l1, l2, l3, l4, l5, l6], [v, s1], w, 0)) pt_198 rfl rfl,
  fun d l0 l2 l3 l4 l5 l6 s0 s1 x w Q => px_go (q := (.iload_n 1, 1, px_x0)) (S' := (55, [l0, some (.int x), l2, l3, l4, l5, l6], [.int x, s0, s1], w, 0)) pt_198 rfl rfl,
  fun d l0 l1 l2 l3 l4 l5 l6 s2 i a w Q => px_goO (q := (.iaload, 1, px_x0)) (S' := fun x => (56, [l0, l1, l2, l3, l4, l5, l6], [.int x, s2], w, 0)) pt_198 rfl rfl,
  fun d l0 l1 l2 l4 l5 l6 s0 s1 x w Q => px_go (q := (.iload_n 3, 1, px_x0)) (S' := (57, [l0, l1, l2, some (.int x), l4, l5, l6], [.int x, s0, s1], w, 0)) pt_198 rfl rfl,
  fun d l0 l1 l2 l3 l4 l5 l6 s2 x y w Q => px_go (q := (.isub, 1, px_x0)) (S' := (58, [l0, l1, l2, l3, l4, l5, l6], [.int (x - y), s2], w, 0)) pt_198 rfl rfl,
  fun d l0 l1 l2 l3 l4 l5 l6 x y w Q => r_icmp_le pt_198 rfl rfl,
  fun d l1 l2 l3 l4 l5 l6 a w Q => px_go (q := (.aload_n 0, 1, px_x0)) (S' := (62, [some (.ref a), l1, l2, l3, l4, l5, l6], [.ref a], w, 0)) pt_198 rfl rfl,
  fun d l0 l1 l2 l3 l4 l5 l6 s0 w Q => r_iconst pt_198 rfl (by decide),
  fun d l0 l1 l2 l3 l4 l5 l6 v0 b w Q => r_callV (q := (.invokevirtual 59, 3, (33, 1, [(11, 141)], 0, ""))) pt_198 rfl rfl (List.forall_mem_cons.mpr ⟨⟨_, pt_141, Nat.le_of_ble_eq_true rfl, (Nat.le_of_ble_eq_true rfl), rfl⟩, fun _ h => absurd h List.not_mem_nil⟩),
  fun d l0 l1 l2 l3 l4 l5 l6 x w Q => px_ret (q := (.ireturn, 1, px_x0)) pt_198 rfl rfl,
  fun d l0 l1 l2 l3 l4 l5 l6 w Q => r_iconst pt_198 rfl (by decide),
  fun d l0 l1 l2 l3 l4 l5 l6 x w Q => px_go (q := (.istore 4, 2, px_x0)) (S' := (70, [l0, l1, l2, l3, some (.int x), l5, l6], [], w, 0)) pt_198 rfl rfl,
  fun d l0 l1 l2 l4 l5 l6 s0 x w Q => px_go (q := (.iload_n 3, 1, px_x0)) (S' := (73, [l0, l1, l2, some (.int x), l4, l5, l6], [.int x, s0], w, 0)) pt_198 rfl rfl,
  fun d l0 l1 l2 l3 l4 l5 l6 x y w Q => r_icmp_ge pt_198 rfl rfl,
  fun d l1 l2 l3 l4 l5 l6 a w Q => px_go (q := (.aload_n 0, 1, px_x0)) (S' := (77, [some (.ref a), l1, l2, l3, l4, l5, l6], [.ref a], w, 0)) pt_198 rfl rfl,
  fun d l0 l1 l2 l3 l4 l5 l6 a w Q => px_goO (q := (.getfield 16, 3, (10, 2, [(11, 0)], 0, "AllSwornModel"))) (S' := fun v => (80, [l0, l1, l2, l3, l4, l5, l6], [v], w, 0)) pt_198 rfl rfl,
  fun d l0 l1 l2 l3 l4 l5 l6 s0 w Q => r_bipush pt_198 rfl (by decide),
  fun d l0 l2 l3 l4 l5 l6 s0 s1 x w Q => px_go (q := (.iload_n 1, 1, px_x0)) (S' := (83, [l0, some (.int x), l2, l3, l4, l5, l6], [.int x, s0, s1], w, 0)) pt_198 rfl rfl,
  fun d l0 l1 l2 l3 l4 l5 l6 s2 x y w Q => px_go (q := (.imul, 1, px_x0)) (S' := (84, [l0, l1, l2, l3, l4, l5, l6], [.int (x * y), s2], w, 0)) pt_198 rfl rfl,
  fun d l0 l1 l3 l4 l5 l6 s0 s1 x w Q => px_go (q := (.iload_n 2, 1, px_x0)) (S' := (85, [l0, l1, some (.int x), l3, l4, l5, l6], [.int x, s0, s1], w, 0)) pt_198 rfl rfl,
  fun d l0 l1 l2 l3 l4 l5 l6 s2 x y w Q => px_go (q := (.iadd, 1, px_x0)) (S' := (86, [l0, l1, l2, l3, l4, l5, l6], [.int (x + y), s2], w, 0)) pt_198 rfl rfl,
  fun d l0 l1 l2 l3 l5 l6 s0 s1 x w Q => px_go (q := (.iload 4, 2, px_x0)) (S' := (88, [l0, l1, l2, l3, some (.int x), l5, l6], [.int x, s0, s1], w, 0)) pt_198 rfl rfl,
  fun d l0 l1 l2 l3 l4 l5 l6 s2 x y w Q => px_go (q := (.iadd, 1, px_x0)) (S' := (89, [l0, l1, l2, l3, l4, l5, l6], [.int (x + y), s2], w, 0)) pt_198 rfl rfl,
  fun d l0 l1 l2 l3 l4 l5 l6 i a w Q => px_goO (q := (.iaload, 1, px_x0)) (S' := fun x => (90, [l0, l1, l2, l3, l4, l5, l6], [.int x], w, 0)) pt_198 rfl rfl,
  fun d l0 l1 l2 l3 l4 l5 l6 s0 w Q => r_iconst pt_198 rfl (by decide),
  fun d l0 l1 l2 l3 l4 l5 l6 s0 s1 w Q => r_iconst pt_198 rfl (by decide),
  fun d l0 l1 l2 l3 l4 l5 l6 v0 v1 v2 w Q => r_call (q := (.invokestatic 50, 3, (30, 3, [(0, 140)], 0, ""))) pt_198 rfl rfl pt_140 (Nat.le_of_ble_eq_true rfl) (Nat.le_of_ble_eq_true rfl) rfl,
  fun d l0 l1 l2 l3 l4 l5 l6 x w Q => r_if_ne pt_198 rfl rfl,
  fun d l0 l1 l2 l3 l4 l5 l6 w Q => px_go (q := (.ldc 58, 2, (0, 0, [], (-1000001), ""))) (S' := (100, [l0, l1, l2, l3, l4, l5, l6], [.int (-1000001)], w, 0)) pt_198 rfl rfl,
  fun d l0 l1 l2 l3 l4 l5 l6 x w Q => px_ret (q := (.ireturn, 1, px_x0)) pt_198 rfl rfl,
  fun d l0 l1 l2 l3 l5 l6 x w Q => r_iinc pt_198 rfl rfl (by decide) rfl,
  fun d l0 l1 l2 l3 l4 l5 l6 w Q => r_goto pt_198 rfl rfl,
  fun d l0 l1 l2 l3 l4 l5 l6 w Q => r_iconst pt_198 rfl (by decide),
  fun d l1 l2 l3 l4 l5 l6 s0 a w Q => px_go (q := (.aload_n 0, 1, px_x0)) (S' := (109, [some (.ref a), l1, l2, l3, l4, l5, l6], [.ref a, s0], w, 0)) pt_198 rfl rfl,
  fun d l0 l1 l2 l3 l4 l5 l6 s0 s1 w Q => r_iconst pt_198 rfl (by decide),
  fun d l0 l1 l2 l3 l4 l5 l6 s2 v0 b w Q => r_callV (q := (.invokevirtual 69, 3, (33, 1, [(11, 149)], 0, ""))) pt_198 rfl rfl (List.forall_mem_cons.mpr ⟨⟨_, pt_149, Nat.le_of_ble_eq_true rfl, (Nat.le_of_ble_eq_true rfl), rfl⟩, fun _ h => absurd h List.not_mem_nil⟩),
  fun d l0 l1 l2 l3 l4 l5 l6 x y w Q => px_go (q := (.ishl, 1, px_x0)) (S' := (114, [l0, l1, l2, l3, l4, l5, l6], [.int (x <<< (y &&& 31))], w, 0)) pt_198 rfl rfl,
  fun d l0 l1 l2 l3 l4 l5 l6 s0 w Q => r_iconst pt_198 rfl (by decide),
  fun d l0 l1 l2 l3 l4 l5 l6 x y w Q => px_go (q := (.isub, 1, px_x0)) (S' := (116, [l0, l1, l2, l3, l4, l5, l6], [.int (x - y)], w, 0)) pt_198 rfl rfl,
  fun d l0 l1 l2 l3 l4 l5 l6 x w Q => px_go (q := (.istore 4, 2, px_x0)) (S' := (118, [l0, l1, l2, l3, some (.int x), l5, l6], [], w, 0)) pt_198 rfl rfl,
  fun d l0 l1 l2 l3 l4 l5 l6 w Q => r_iconst pt_198 rfl (by decide),
  fun d l0 l1 l2 l3 l4 l5 l6 x w Q => px_go (q := (.istore 5, 2, px_x0)) (S' := (121, [l0, l1, l2, l3, l4, some (.int x), l6], [], w, 0)) pt_198 rfl rfl,
  fun d l0 l1 l2 l4 l5 l6 s0 x w Q => px_go (q := (.iload_n 3, 1, px_x0)) (S' := (124, [l0, l1, l2, some (.int x), l4, l5, l6], [.int x, s0], w, 0)) pt_198 rfl rfl,
  fun d l0 l1 l2 l3 l4 l5 l6 x y w Q => r_icmp_ge pt_198 rfl rfl,
  fun d l1 l2 l3 l4 l5 l6 a w Q => px_go (q := (.aload_n 0, 1, px_x0)) (S' := (128, [some (.ref a), l1, l2, l3, l4, l5, l6], [.ref a], w, 0)) pt_198 rfl rfl,
  fun d l1 l2 l3 l4 l5 l6 s0 a w Q => px_go (q := (.aload_n 0, 1, px_x0)) (S' := (129, [some (.ref a), l1, l2, l3, l4, l5, l6], [.ref a, s0], w, 0)) pt_198 rfl rfl,
  fun d l0 l1 l2 l3 l4 l5 l6 s0 s1 w Q => r_iconst pt_198 rfl (by decide),
  fun d l0 l1 l2 l3 l4 l5 l6 s2 v0 b w Q => r_callV (q := (.invokevirtual 69, 3, (33, 1, [(11, 149)], 0, ""))) pt_198 rfl rfl (List.forall_mem_cons.mpr ⟨⟨_, pt_149, Nat.le_of_ble_eq_true rfl, (Nat.le_of_ble_eq_true rfl), rfl⟩, fun _ h => absurd h List.not_mem_nil⟩),
  fun d l0 l1 l2 l3 l4 l6 s0 s1 x w Q => px_go (q := (.iload 5, 2, px_x0)) (S' := (135, [l0, l1, l2, l3, l4, some (.int x), l6], [.int x, s0, s1], w, 0)) pt_198 rfl rfl,
  fun d l0 l1 l2 l3 l4 l5 l6 s2 x y w Q => px_go (q := (.iadd, 1, px_x0)) (S' := (136, [l0, l1, l2, l3, l4, l5, l6], [.int (x + y), s2], w, 0)) pt_198 rfl rfl,
  fun d l0 l1 l2 l3 l4 l5 l6 v0 b w Q => r_callV (q := (.invokevirtual 168, 3, (33, 1, [(11, 171)], 0, ""))) pt_198 rfl rfl (List.forall_mem_cons.mpr ⟨⟨_, pt_171, Nat.le_of_ble_eq_true rfl, (Nat.le_of_ble_eq_true rfl), rfl⟩, fun _ h => absurd h List.not_mem_nil⟩),
  fun d l0 l1 l2 l3 l4 l5 l6 x w Q => px_go (q := (.istore 6, 2, px_x0)) (S' := (141, [l0, l1, l2, l3, l4, l5, some (.int x)], [], w, 0)) pt_198 rfl rfl,
  fun d l0 l1 l2 l3 l5 l6 x w Q => px_go (q := (.iload 4, 2, px_x0)) (S' := (143, [l0, l1, l2, l3, some (.int x), l5, l6], [.int x], w, 0)) pt_198 rfl rfl,
  fun d l1 l2 l3 l4 l5 l6 s0 a w Q => px_go (q := (.aload_n 0, 1, px_x0)) (S' := (144, [some (.ref a), l1, l2, l3, l4, l5, l6], [.ref a, s0], w, 0)) pt_198 rfl rfl,
  fun d l0 l1 l2 l3 l4 l5 l6 s1 a w Q => px_goO (q := (.getfield 16, 3, (10, 2, [(11, 0)], 0, "AllSwornModel"))) (S' := fun v => (147, [l0, l1, l2, l3, l4, l5, l6], [v, s1], w, 0)) pt_198 rfl rfl,
  fun d l0 l1 l2 l3 l4 l5 l6 s0 s1 w Q => r_bipush pt_198 rfl (by decide),
  fun d l0 l2 l3 l4 l5 l6 s0 s1 s2 x w Q => px_go (q := (.iload_n 1, 1, px_x0)) (S' := (150, [l0, some (.int x), l2, l3, l4, l5, l6], [.int x, s0, s1, s2], w, 0)) pt_198 rfl rfl,
  fun d l0 l1 l2 l3 l4 l5 l6 s2 s3 x y w Q => px_go (q := (.imul, 1, px_x0)) (S' := (151, [l0, l1, l2, l3, l4, l5, l6], [.int (x * y), s2, s3], w, 0)) pt_198 rfl rfl,
  fun d l0 l1 l3 l4 l5 l6 s0 s1 s2 x w Q => px_go (q := (.iload_n 2, 1, px_x0)) (S' := (152, [l0, l1, some (.int x), l3, l4, l5, l6], [.int x, s0, s1, s2], w, 0)) pt_198 rfl rfl,
  fun d l0 l1 l2 l3 l4 l5 l6 s2 s3 x y w Q => px_go (q := (.iadd, 1, px_x0)) (S' := (153, [l0, l1, l2, l3, l4, l5, l6], [.int (x + y), s2, s3], w, 0)) pt_198 rfl rfl,
  fun d l0 l1 l2 l3 l4 l6 s0 s1 s2 x w Q => px_go (q := (.iload 5, 2, px_x0)) (S' := (155, [l0, l1, l2, l3, l4, some (.int x), l6], [.int x, s0, s1, s2], w, 0)) pt_198 rfl rfl,
  fun d l0 l1 l2 l3 l4 l5 l6 s2 s3 x y w Q => px_go (q := (.iadd, 1, px_x0)) (S' := (156, [l0, l1, l2, l3, l4, l5, l6], [.int (x + y), s2, s3], w, 0)) pt_198 rfl rfl,
  fun d l0 l1 l2 l3 l4 l5 l6 s2 i a w Q => px_goO (q := (.iaload, 1, px_x0)) (S' := fun x => (157, [l0, l1, l2, l3, l4, l5, l6], [.int x, s2], w, 0)) pt_198 rfl rfl,
  fun d l0 l1 l2 l3 l4 l5 l6 s0 s1 w Q => r_iconst pt_198 rfl (by decide),
  fun d l0 l1 l2 l3 l4 l5 l6 s2 x y w Q => r_icmp_ne pt_198 rfl rfl,
  fun d l0 l1 l2 l3 l4 l5 s0 x w Q => px_go (q := (.iload 6, 2, px_x0)) (S' := (163, [l0, l1, l2, l3, l4, l5, some (.int x)], [.int x, s0], w, 0)) pt_198 rfl rfl,
  fun d l0 l1 l2 l3 l4 l5 l6 s0 s1 w Q => r_goto pt_198 rfl rfl,
  fun d l0 l1 l2 l3 l4 l5 s0 x w Q => px_go (q := (.iload 6, 2, px_x0)) (S' := (168, [l0, l1, l2, l3, l4, l5, some (.int x)], [.int x, s0], w, 0)) pt_198 rfl rfl,
  fun d l0 l1 l2 l3 l4 l5 l6 s0 s1 w Q => r_iconst pt_198 rfl (by decide),
  fun d l0 l1 l2 l3 l4 l5 l6 s2 x y w Q => px_go (q := (.ixor, 1, px_x0)) (S' := (170, [l0, l1, l2, l3, l4, l5, l6], [.int (x ^^^ y), s2], w, 0)) pt_198 rfl rfl,
  fun d l0 l1 l2 l3 l4 l5 l6 x y w Q => px_go (q := (.iand, 1, px_x0)) (S' := (171, [l0, l1, l2, l3, l4, l5, l6], [.int (x &&& y)], w, 0)) pt_198 rfl rfl,
  fun d l0 l1 l2 l3 l4 l5 l6 x w Q => px_go (q := (.istore 4, 2, px_x0)) (S' := (173, [l0, l1, l2, l3, some (.int x), l5, l6], [], w, 0)) pt_198 rfl rfl,
  fun d l0 l1 l2 l3 l4 l6 x w Q => r_iinc pt_198 rfl rfl (by decide) rfl,
  fun d l0 l1 l2 l3 l4 l5 l6 w Q => r_goto pt_198 rfl rfl,
  fun d l1 l2 l3 l4 l5 l6 a w Q => px_go (q := (.aload_n 0, 1, px_x0)) (S' := (180, [some (.ref a), l1, l2, l3, l4, l5, l6], [.ref a], w, 0)) pt_198 rfl rfl,
  fun d l0 l1 l2 l3 l5 l6 s0 x w Q => px_go (q := (.iload 4, 2, px_x0)) (S' := (182, [l0, l1, l2, l3, some (.int x), l5, l6], [.int x, s0], w, 0)) pt_198 rfl rfl,
  fun d l0 l1 l2 l3 l4 l5 l6 v0 b w Q => r_callV (q := (.invokevirtual 63, 3, (33, 1, [(11, 142)], 0, ""))) pt_198 rfl rfl (List.forall_mem_cons.mpr ⟨⟨_, pt_142, Nat.le_of_ble_eq_true rfl, (Nat.le_of_ble_eq_true rfl), rfl⟩, fun _ h => absurd h List.not_mem_nil⟩),
  fun d l0 l1 l2 l3 l4 l5 l6 x w Q => px_ret (q := (.ireturn, 1, px_x0)) pt_198 rfl rfl⟩
theorem H198_70 : ∀ (d : Nat) (l0 l1 l2 l3 l5 l6 : Option Value) (x : Int32) (w : px_H) (Q : Option Value → px_H → Prop), wp d 198 70 [l0, l1, l2, l3, some (.int x), l5, l6] [] w 0 Q ↔ wp d 198 72 [l0, l1, l2, l3, some (.int x), l5, l6] [.int x] w 0 Q := fun d l0 l1 l2 l3 l5 l6 x w Q => px_go (q := (.iload 4, 2, px_x0)) (S' := (72, [l0, l1, l2, l3, some (.int x), l5, l6], [.int x], w, 0)) pt_198 rfl rfl
theorem H198_121 : ∀ (d : Nat) (l0 l1 l2 l3 l4 l6 : Option Value) (x : Int32) (w : px_H) (Q : Option Value → px_H → Prop), wp d 198 121 [l0, l1, l2, l3, l4, some (.int x), l6] [] w 0 Q ↔ wp d 198 123 [l0, l1, l2, l3, l4, some (.int x), l6] [.int x] w 0 Q := fun d l0 l1 l2 l3 l4 l6 x w Q => px_go (q := (.iload 5, 2, px_x0)) (S' := (123, [l0, l1, l2, l3, l4, some (.int x), l6], [.int x], w, 0)) pt_198 rfl rfl
/-- AllSwornModel.terms()I heads: [16] -/
theorem S199 : (∀ (d : Nat) (v0 : Value) (w : px_H) (Q : Option Value → px_H → Prop), wc d 199 [v0] w Q ↔ wp d 199 0 [some v0, none] [] w 0 Q) ∧
  (∀ (d : Nat) (l1 : Option Value) (a : Nat) (w : px_H) (Q : Option Value → px_H → Prop), wp d 199 0 [some (.ref a), l1] [] w 0 Q ↔ wp d 199 1 [some (.ref a), l1] [.ref a] w 0 Q) ∧
  (∀ (d : Nat) (l0 l1 : Option Value)  (b : Nat) (w : px_H) (Q : Option Value → px_H → Prop), wp (d + 1) 199 1 [l0, l1] [.ref b] w 0 Q ↔ px_op (px_tgt w b [(11, 175)]) (fun v => wc d v [.ref b] w (fun r w' => wp (d + 1) 199 4 [l0, l1] (r.toList ++ []) w' 0 Q))) ∧
  (∀ (d : Nat) (l0 l1 : Option Value) (x : Int32) (w : px_H) (Q : Option Value → px_H → Prop), wp d 199 4 [l0, l1] [.int x] w 0 Q ↔ if x = 0 then wp d 199 7 [l0, l1] [] w 0 Q else wp d 199 10 [l0, l1] [] w 0 Q) ∧
  (∀ (d : Nat) (l0 l1 : Option Value)  (w : px_H) (Q : Option Value → px_H → Prop), wp d 199 7 [l0, l1] [] w 0 Q ↔ wp d 199 9 [l0, l1] [.int (-1000002)] w 0 Q) ∧
  (∀ (d : Nat) (l0 l1 : Option Value) (x : Int32) (w : px_H) (Q : Option Value → px_H → Prop), wp d 199 9 [l0, l1] [.int x] w 0 Q ↔ Q (some (.int x)) w) ∧
  (∀ (d : Nat) (l1 : Option Value) (a : Nat) (w : px_H) (Q : Option Value → px_H → Prop), wp d 199 10 [some (.ref a), l1] [] w 0 Q ↔ wp d 199 11 [some (.ref a), l1] [.ref a] w 0 Q) ∧
  (∀ (d : Nat) (l0 l1 : Option Value)  (b : Nat) (w : px_H) (Q : Option Value → px_H → Prop), wp (d + 1) 199 11 [l0, l1] [.ref b] w 0 Q ↔ px_op (px_tgt w b [(11, 167)]) (fun v => wc d v [.ref b] w (fun r w' => wp (d + 1) 199 14 [l0, l1] (r.toList ++ []) w' 0 Q))) ∧
  (∀ (d : Nat) (l0 l1 : Option Value)  (w : px_H) (Q : Option Value → px_H → Prop), wp d 199 14 [l0, l1] [] w 0 Q ↔ wp d 199 15 [l0, l1] [.int 1] w 0 Q) ∧
  (∀ (d : Nat) (l0 l1 : Option Value) (x : Int32) (w : px_H) (Q : Option Value → px_H → Prop), wp d 199 15 [l0, l1] [.int x] w 0 Q ↔ wp d 199 16 [l0, some (.int x)] [] w 0 Q) ∧
  (∀ (d : Nat) (l0 l1 : Option Value) (s0 : Value)  (w : px_H) (Q : Option Value → px_H → Prop), wp d 199 17 [l0, l1] [s0] w 0 Q ↔ wp d 199 19 [l0, l1] [.int 40, s0] w 0 Q) ∧
  (∀ (d : Nat) (l0 l1 : Option Value) (x y : Int32) (w : px_H) (Q : Option Value → px_H → Prop), wp d 199 19 [l0, l1] [.int y, .int x] w 0 Q ↔ if y < x then wp d 199 47 [l0, l1] [] w 0 Q else wp d 199 22 [l0, l1] [] w 0 Q) ∧
  (∀ (d : Nat) (l1 : Option Value) (a : Nat) (w : px_H) (Q : Option Value → px_H → Prop), wp d 199 22 [some (.ref a), l1] [] w 0 Q ↔ wp d 199 23 [some (.ref a), l1] [.ref a] w 0 Q) ∧
  (∀ (d : Nat) (l1 : Option Value) (s0 : Value) (a : Nat) (w : px_H) (Q : Option Value → px_H → Prop), wp d 199 23 [some (.ref a), l1] [s0] w 0 Q ↔ wp d 199 24 [some (.ref a), l1] [.ref a, s0] w 0 Q) ∧
  (∀ (d : Nat) (l1 : Option Value) (s0 s1 : Value) (a : Nat) (w : px_H) (Q : Option Value → px_H → Prop), wp d 199 24 [some (.ref a), l1] [s0, s1] w 0 Q ↔ wp d 199 25 [some (.ref a), l1] [.ref a, s0, s1] w 0 Q) ∧
  (∀ (d : Nat) (l0 l1 : Option Value) (s0 s1 s2 : Value)  (w : px_H) (Q : Option Value → px_H → Prop), wp d 199 25 [l0, l1] [s0, s1, s2] w 0 Q ↔ wp d 199 26 [l0, l1] [.int 3, s0, s1, s2] w 0 Q) ∧
  (∀ (d : Nat) (l0 l1 : Option Value) (s2 s3 : Value) (v0 : Value) (b : Nat) (w : px_H) (Q : Option Value → px_H → Prop), wp (d + 1) 199 26 [l0, l1] [v0, .ref b, s2, s3] w 0 Q ↔ px_op (px_tgt w b [(11, 149)]) (fun v => wc d v [.ref b, v0] w (fun r w' => wp (d + 1) 199 29 [l0, l1] (r.toList ++ [s2, s3]) w' 0 Q))) ∧
  (∀ (d : Nat) (l0 : Option Value) (s0 s1 s2 : Value) (x : Int32) (w : px_H) (Q : Option Value → px_H → Prop), wp d 199 29 [l0, some (.int x)] [s0, s1, s2] w 0 Q ↔ wp d 199 30 [l0, some (.int x)] [.int x, s0, s1, s2] w 0 Q) ∧
  (∀ (d : Nat) (l0 l1 : Option Value) (s3 : Value) (v0 v1 : Value) (b : Nat) (w : px_H) (Q : Option Value → px_H → Prop), wp (d + 1) 199 30 [l0, l1] [v1, v0, .ref b, s3] w 0 Q ↔ px_op (px_tgt w b [(11, 168)]) (fun v => wc d v [.ref b, v0, v1] w (fun r w' => wp (d + 1) 199 33 [l0, l1] (r.toList ++ [s3]) w' 0 Q))) ∧
  (∀ (d : Nat) (l0 l1 : Option Value) (v0 : Value) (b : Nat) (w : px_H) (Q : Option Value → px_H → Prop), wp (d + 1) 199 33 [l0, l1] [v0, .ref b] w 0 Q ↔ px_op (px_tgt w b [(11, 169)]) (fun v => wc d v [.ref b, v0] w (fun r w' => wp (d + 1) 199 36 [l0, l1] (r.toList ++ []) w' 0 Q))) ∧
  (∀ (d : Nat) (l0 l1 : Option Value) (x : Int32) (w : px_H) (Q : Option Value → px_H → Prop), wp d 199 36 [l0, l1] [.int x] w 0 Q ↔ if x = 0 then wp d 199 39 [l0, l1] [] w 0 Q else wp d 199 41 [l0, l1] [] w 0 Q) ∧
  (∀ (d : Nat) (l0 : Option Value) (x : Int32) (w : px_H) (Q : Option Value → px_H → Prop), wp d 199 39 [l0, some (.int x)] [] w 0 Q ↔ wp d 199 40 [l0, some (.int x)] [.int x] w 0 Q) ∧
  (∀ (d : Nat) (l0 l1 : Option Value) (x : Int32) (w : px_H) (Q : Option Value → px_H → Prop), wp d 199 40 [l0, l1] [.int x] w 0 Q ↔ Q (some (.int x)) w) ∧
  (∀ (d : Nat) (l0 : Option Value) (x : Int32) (w : px_H) (Q : Option Value → px_H → Prop), wp d 199 41 [l0, some (.int x)] [] w 0 Q ↔ wp d 199 44 [l0, some (.int (x + 1))] [] w 0 Q) ∧
  (∀ (d : Nat) (l0 l1 : Option Value)  (w : px_H) (Q : Option Value → px_H → Prop), wp d 199 44 [l0, l1] [] w 0 Q ↔ wp d 199 16 [l0, l1] [] w 0 Q) ∧
  (∀ (d : Nat) (l0 l1 : Option Value)  (w : px_H) (Q : Option Value → px_H → Prop), wp d 199 47 [l0, l1] [] w 0 Q ↔ wp d 199 49 [l0, l1] [.int (-1000000)] w 0 Q) ∧
  (∀ (d : Nat) (l0 l1 : Option Value) (x : Int32) (w : px_H) (Q : Option Value → px_H → Prop), wp d 199 49 [l0, l1] [.int x] w 0 Q ↔ Q (some (.int x)) w) := ⟨fun d v0 w Q => r_entry pt_199 (Nat.le_of_ble_eq_true rfl) rfl,
  fun d l1 a w Q => px_go (q := (.aload_n 0, 1, px_x0)) (S' := (1, [some (.ref a), l1], [.ref a], w, 0)) pt_199 rfl rfl,
  fun d l0 l1 b w Q => r_callV (q := (.invokevirtual 171, 3, (33, 0, [(11, 175)], 0, ""))) pt_199 rfl rfl (List.forall_mem_cons.mpr ⟨⟨_, pt_175, Nat.le_of_ble_eq_true rfl, (Nat.le_of_ble_eq_true rfl), rfl⟩, fun _ h => absurd h List.not_mem_nil⟩),
  fun d l0 l1 x w Q => r_if_ne pt_199 rfl rfl,
  fun d l0 l1 w Q => px_go (q := (.ldc 175, 2, (0, 0, [], (-1000002), ""))) (S' := (9, [l0, l1], [.int (-1000002)], w, 0)) pt_199 rfl rfl,
  fun d l0 l1 x w Q => px_ret (q := (.ireturn, 1, px_x0)) pt_199 rfl rfl,
  fun d l1 a w Q => px_go (q := (.aload_n 0, 1, px_x0)) (S' := (11, [some (.ref a), l1], [.ref a], w, 0)) pt_199 rfl rfl,
  fun d l0 l1 b w Q => r_callV (q := (.invokevirtual 146, 3, (33, 0, [(11, 167)], 0, ""))) pt_199 rfl rfl (List.forall_mem_cons.mpr ⟨⟨_, pt_167, Nat.le_of_ble_eq_true rfl, (Nat.le_of_ble_eq_true rfl), rfl⟩, fun _ h => absurd h List.not_mem_nil⟩),
  fun d l0 l1 w Q => r_iconst pt_199 rfl (by decide),
  fun d l0 l1 x w Q => px_go (q := (.istore_n 1, 1, px_x0)) (S' := (16, [l0, some (.int x)], [], w, 0)) pt_199 rfl rfl,
  fun d l0 l1 s0 w Q => r_bipush pt_199 rfl (by decide),
  fun d l0 l1 x y w Q => r_icmp_gt pt_199 rfl rfl,
  fun d l1 a w Q => px_go (q := (.aload_n 0, 1, px_x0)) (S' := (23, [some (.ref a), l1], [.ref a], w, 0)) pt_199 rfl rfl,
  fun d l1 s0 a w Q => px_go (q := (.aload_n 0, 1, px_x0)) (S' := (24, [some (.ref a), l1], [.ref a, s0], w, 0)) pt_199 rfl rfl,
  fun d l1 s0 s1 a w Q => px_go (q := (.aload_n 0, 1, px_x0)) (S' := (25, [some (.ref a), l1], [.ref a, s0, s1], w, 0)) pt_199 rfl rfl,
  fun d l0 l1 s0 s1 s2 w Q => r_iconst pt_199 rfl (by decide),
  fun d l0 l1 s2 s3 v0 b w Q => r_callV (q := (.invokevirtual 69, 3, (33, 1, [(11, 149)], 0, ""))) pt_199 rfl rfl (List.forall_mem_cons.mpr ⟨⟨_, pt_149, Nat.le_of_ble_eq_true rfl, (Nat.le_of_ble_eq_true rfl), rfl⟩, fun _ h => absurd h List.not_mem_nil⟩),
  fun d l0 s0 s1 s2 x w Q => px_go (q := (.iload_n 1, 1, px_x0)) (S' := (30, [l0, some (.int x)], [.int x, s0, s1, s2], w, 0)) pt_199 rfl rfl,
  fun d l0 l1 s3 v0 v1 b w Q => r_callV (q := (.invokevirtual 140, 3, (33, 2, [(11, 168)], 0, ""))) pt_199 rfl rfl (List.forall_mem_cons.mpr ⟨⟨_, pt_168, Nat.le_of_ble_eq_true rfl, (Nat.le_of_ble_eq_true rfl), rfl⟩, fun _ h => absurd h List.not_mem_nil⟩),
  fun d l0 l1 v0 b w Q => r_callV (q := (.invokevirtual 143, 3, (33, 1, [(11, 169)], 0, ""))) pt_199 rfl rfl (List.forall_mem_cons.mpr ⟨⟨_, pt_169, Nat.le_of_ble_eq_true rfl, (Nat.le_of_ble_eq_true rfl), rfl⟩, fun _ h => absurd h List.not_mem_nil⟩),
  fun d l0 l1 x w Q => r_if_ne pt_199 rfl rfl,
  fun d l0 x w Q => px_go (q := (.iload_n 1, 1, px_x0)) (S' := (40, [l0, some (.int x)], [.int x], w, 0)) pt_199 rfl rfl,
  fun d l0 l1 x w Q => px_ret (q := (.ireturn, 1, px_x0)) pt_199 rfl rfl,
  fun d l0 x w Q => r_iinc pt_199 rfl rfl (by decide) rfl,
  fun d l0 l1 w Q => r_goto pt_199 rfl rfl,
  fun d l0 l1 w Q => px_go (q := (.ldc 119, 2, (0, 0, [], (-1000000), ""))) (S' := (49, [l0, l1], [.int (-1000000)], w, 0)) pt_199 rfl rfl,
  fun d l0 l1 x w Q => px_ret (q := (.ireturn, 1, px_x0)) pt_199 rfl rfl⟩
theorem H199_16 : ∀ (d : Nat) (l0 : Option Value) (x : Int32) (w : px_H) (Q : Option Value → px_H → Prop), wp d 199 16 [l0, some (.int x)] [] w 0 Q ↔ wp d 199 17 [l0, some (.int x)] [.int x] w 0 Q := fun d l0 x w Q => px_go (q := (.iload_n 1, 1, px_x0)) (S' := (17, [l0, some (.int x)], [.int x], w, 0)) pt_199 rfl rfl
/-- AllSwornModel.image(I)I -/
theorem S200 : (∀ (d : Nat) (v0 v1 : Value) (w : px_H) (Q : Option Value → px_H → Prop), wc d 200 [v0, v1] w Q ↔ wp d 200 0 [some v0, some v1] [] w 0 Q) ∧
  (∀ (d : Nat) (l0 : Option Value) (x : Int32) (w : px_H) (Q : Option Value → px_H → Prop), wp d 200 0 [l0, some (.int x)] [] w 0 Q ↔ wp d 200 1 [l0, some (.int x)] [.int x] w 0 Q) ∧
  (∀ (d : Nat) (l0 l1 : Option Value) (s0 : Value)  (w : px_H) (Q : Option Value → px_H → Prop), wp d 200 1 [l0, l1] [s0] w 0 Q ↔ wp d 200 2 [l0, l1] [.int 0, s0] w 0 Q) ∧
  (∀ (d : Nat) (l0 l1 : Option Value) (s0 s1 : Value)  (w : px_H) (Q : Option Value → px_H → Prop), wp d 200 2 [l0, l1] [s0, s1] w 0 Q ↔ wp d 200 3 [l0, l1] [.int 1, s0, s1] w 0 Q) ∧
  (∀ (d : Nat) (l0 l1 : Option Value) (v0 v1 v2 : Value) (w : px_H) (Q : Option Value → px_H → Prop), wp (d + 1) 200 3 [l0, l1] [v2, v1, v0] w 0 Q ↔ wc d 140 [v0, v1, v2] w (fun r w' => wp (d + 1) 200 6 [l0, l1] (r.toList ++ []) w' 0 Q)) ∧
  (∀ (d : Nat) (l0 l1 : Option Value) (x : Int32) (w : px_H) (Q : Option Value → px_H → Prop), wp d 200 6 [l0, l1] [.int x] w 0 Q ↔ if x = 0 then wp d 200 9 [l0, l1] [] w 0 Q else wp d 200 12 [l0, l1] [] w 0 Q) ∧
  (∀ (d : Nat) (l0 l1 : Option Value)  (w : px_H) (Q : Option Value → px_H → Prop), wp d 200 9 [l0, l1] [] w 0 Q ↔ wp d 200 11 [l0, l1] [.int (-1000001)] w 0 Q) ∧
  (∀ (d : Nat) (l0 l1 : Option Value) (x : Int32) (w : px_H) (Q : Option Value → px_H → Prop), wp d 200 11 [l0, l1] [.int x] w 0 Q ↔ Q (some (.int x)) w) ∧
  (∀ (d : Nat) (l1 : Option Value) (a : Nat) (w : px_H) (Q : Option Value → px_H → Prop), wp d 200 12 [some (.ref a), l1] [] w 0 Q ↔ wp d 200 13 [some (.ref a), l1] [.ref a] w 0 Q) ∧
  (∀ (d : Nat) (l0 l1 : Option Value)  (b : Nat) (w : px_H) (Q : Option Value → px_H → Prop), wp (d + 1) 200 13 [l0, l1] [.ref b] w 0 Q ↔ px_op (px_tgt w b [(11, 175)]) (fun v => wc d v [.ref b] w (fun r w' => wp (d + 1) 200 16 [l0, l1] (r.toList ++ []) w' 0 Q))) ∧
  (∀ (d : Nat) (l0 l1 : Option Value) (x : Int32) (w : px_H) (Q : Option Value → px_H → Prop), wp d 200 16 [l0, l1] [.int x] w 0 Q ↔ if x = 0 then wp d 200 19 [l0, l1] [] w 0 Q else wp d 200 22 [l0, l1] [] w 0 Q) ∧
  (∀ (d : Nat) (l0 l1 : Option Value)  (w : px_H) (Q : Option Value → px_H → Prop), wp d 200 19 [l0, l1] [] w 0 Q ↔ wp d 200 21 [l0, l1] [.int (-1000002)] w 0 Q) ∧
  (∀ (d : Nat) (l0 l1 : Option Value) (x : Int32) (w : px_H) (Q : Option Value → px_H → Prop), wp d 200 21 [l0, l1] [.int x] w 0 Q ↔ Q (some (.int x)) w) ∧
  (∀ (d : Nat) (l1 : Option Value) (a : Nat) (w : px_H) (Q : Option Value → px_H → Prop), wp d 200 22 [some (.ref a), l1] [] w 0 Q ↔ wp d 200 23 [some (.ref a), l1] [.ref a] w 0 Q) ∧
  (∀ (d : Nat) (l0 l1 : Option Value) (s0 : Value)  (w : px_H) (Q : Option Value → px_H → Prop), wp d 200 23 [l0, l1] [s0] w 0 Q ↔ wp d 200 24 [l0, l1] [.int 0, s0] w 0 Q) ∧
  (∀ (d : Nat) (l0 l1 : Option Value) (s0 s1 : Value)  (w : px_H) (Q : Option Value → px_H → Prop), wp d 200 24 [l0, l1] [s0, s1] w 0 Q ↔ wp d 200 25 [l0, l1] [.int 1, s0, s1] w 0 Q) ∧
  (∀ (d : Nat) (l0 : Option Value) (s0 s1 s2 : Value) (x : Int32) (w : px_H) (Q : Option Value → px_H → Prop), wp d 200 25 [l0, some (.int x)] [s0, s1, s2] w 0 Q ↔ wp d 200 26 [l0, some (.int x)] [.int x, s0, s1, s2] w 0 Q) ∧
  (∀ (d : Nat) (l0 l1 : Option Value) (s2 s3 : Value) (x y : Int32) (w : px_H) (Q : Option Value → px_H → Prop), wp d 200 26 [l0, l1] [.int y, .int x, s2, s3] w 0 Q ↔ wp d 200 27 [l0, l1] [.int (x + y), s2, s3] w 0 Q) ∧
  (∀ (d : Nat) (l0 l1 : Option Value) (v0 v1 : Value) (b : Nat) (w : px_H) (Q : Option Value → px_H → Prop), wp (d + 1) 200 27 [l0, l1] [v1, v0, .ref b] w 0 Q ↔ px_op (px_tgt w b [(11, 151)]) (fun v => wc d v [.ref b, v0, v1] w (fun r w' => wp (d + 1) 200 30 [l0, l1] (r.toList ++ []) w' 0 Q))) ∧
  (∀ (d : Nat) (l1 : Option Value) (a : Nat) (w : px_H) (Q : Option Value → px_H → Prop), wp d 200 30 [some (.ref a), l1] [] w 0 Q ↔ wp d 200 31 [some (.ref a), l1] [.ref a] w 0 Q) ∧
  (∀ (d : Nat) (l0 l1 : Option Value) (a : Nat) (w : px_H) (Q : Option Value → px_H → Prop), wp d 200 31 [l0, l1] [.ref a] w 0 Q ↔ px_op (px_fld w a [(11, 0)] 6) (fun v => wp d 200 34 [l0, l1] [v] w 0 Q)) ∧
  (∀ (d : Nat) (l0 : Option Value) (s0 : Value) (x : Int32) (w : px_H) (Q : Option Value → px_H → Prop), wp d 200 34 [l0, some (.int x)] [s0] w 0 Q ↔ wp d 200 35 [l0, some (.int x)] [.int x, s0] w 0 Q) ∧
  (∀ (d : Nat) (l0 l1 : Option Value) (s0 s1 : Value)  (w : px_H) (Q : Option Value → px_H → Prop), wp d 200 35 [l0, l1] [s0, s1] w 0 Q ↔ wp d 200 36 [l0, l1] [.int 1, s0, s1] w 0 Q) ∧
  (∀ (d : Nat) (l0 l1 : Option Value) (x i : Int32) (a : Nat) (w : px_H) (Q : Option Value → px_H → Prop), wp d 200 36 [l0, l1] [.int x, .int i, .ref a] w 0 Q ↔ px_op (px_bst w a i x) (fun w' => wp d 200 37 [l0, l1] [] w' 0 Q)) ∧
  (∀ (d : Nat) (l0 l1 : Option Value)  (w : px_H) (Q : Option Value → px_H → Prop), wp d 200 37 [l0, l1] [] w 0 Q ↔ wp d 200 38 [l0, l1] [.int 1] w 0 Q) ∧
  (∀ (d : Nat) (l0 l1 : Option Value) (x : Int32) (w : px_H) (Q : Option Value → px_H → Prop), wp d 200 38 [l0, l1] [.int x] w 0 Q ↔ Q (some (.int x)) w) := ⟨fun d v0 v1 w Q => r_entry pt_200 (Nat.le_of_ble_eq_true rfl) rfl,
  fun d l0 x w Q => px_go (q := (.iload_n 1, 1, px_x0)) (S' := (1, [l0, some (.int x)], [.int x], w, 0)) pt_200 rfl rfl,
  fun d l0 l1 s0 w Q => r_iconst pt_200 rfl (by decide),
  fun d l0 l1 s0 s1 w Q => r_iconst pt_200 rfl (by decide),
  fun d l0 l1 v0 v1 v2 w Q => r_call (q := (.invokestatic 50, 3, (30, 3, [(0, 140)], 0, ""))) pt_200 rfl rfl pt_140 (Nat.le_of_ble_eq_true rfl) (Nat.le_of_ble_eq_true rfl) rfl,
  fun d l0 l1 x w Q => r_if_ne pt_200 rfl rfl,
  fun d l0 l1 w Q => px_go (q := (.ldc 58, 2, (0, 0, [], (-1000001), ""))) (S' := (11, [l0, l1], [.int (-1000001)], w, 0)) pt_200 rfl rfl,
  fun d l0 l1 x w Q => px_ret (q := (.ireturn, 1, px_x0)) pt_200 rfl rfl,
  fun d l1 a w Q => px_go (q := (.aload_n 0, 1, px_x0)) (S' := (13, [some (.ref a), l1], [.ref a], w, 0)) pt_200 rfl rfl,
  fun d l0 l1 b w Q => r_callV (q := (.invokevirtual 171, 3, (33, 0, [(11, 175)], 0, ""))) pt_200 rfl rfl (List.forall_mem_cons.mpr ⟨⟨_, pt_175, Nat.le_of_ble_eq_true rfl, (Nat.le_of_ble_eq_true rfl), rfl⟩, fun _ h => absurd h List.not_mem_nil⟩),
  fun d l0 l1 x w Q => r_if_ne pt_200 rfl rfl,
  fun d l0 l1 w Q => px_go (q := (.ldc 175, 2, (0, 0, [], (-1000002), ""))) (S' := (21, [l0, l1], [.int (-1000002)], w, 0)) pt_200 rfl rfl,
  fun d l0 l1 x w Q => px_ret (q := (.ireturn, 1, px_x0)) pt_200 rfl rfl,
  fun d l1 a w Q => px_go (q := (.aload_n 0, 1, px_x0)) (S' := (23, [some (.ref a), l1], [.ref a], w, 0)) pt_200 rfl rfl,
  fun d l0 l1 s0 w Q => r_iconst pt_200 rfl (by decide),
  fun d l0 l1 s0 s1 w Q => r_iconst pt_200 rfl (by decide),
  fun d l0 s0 s1 s2 x w Q => px_go (q := (.iload_n 1, 1, px_x0)) (S' := (26, [l0, some (.int x)], [.int x, s0, s1, s2], w, 0)) pt_200 rfl rfl,
  fun d l0 l1 s2 s3 x y w Q => px_go (q := (.iadd, 1, px_x0)) (S' := (27, [l0, l1], [.int (x + y), s2, s3], w, 0)) pt_200 rfl rfl,
  fun d l0 l1 v0 v1 b w Q => r_callV (q := (.invokevirtual 130, 3, (33, 2, [(11, 151)], 0, ""))) pt_200 rfl rfl (List.forall_mem_cons.mpr ⟨⟨_, pt_151, Nat.le_of_ble_eq_true rfl, (Nat.le_of_ble_eq_true rfl), rfl⟩, fun _ h => absurd h List.not_mem_nil⟩),
  fun d l1 a w Q => px_go (q := (.aload_n 0, 1, px_x0)) (S' := (31, [some (.ref a), l1], [.ref a], w, 0)) pt_200 rfl rfl,
  fun d l0 l1 a w Q => px_goO (q := (.getfield 22, 3, (10, 6, [(11, 0)], 0, "AllSwornModel"))) (S' := fun v => (34, [l0, l1], [v], w, 0)) pt_200 rfl rfl,
  fun d l0 s0 x w Q => px_go (q := (.iload_n 1, 1, px_x0)) (S' := (35, [l0, some (.int x)], [.int x, s0], w, 0)) pt_200 rfl rfl,
  fun d l0 l1 s0 s1 w Q => r_iconst pt_200 rfl (by decide),
  fun d l0 l1 x i a w Q => px_goO (q := (.bastore, 1, px_x0)) (S' := fun w' => (37, [l0, l1], [], w', 0)) pt_200 rfl rfl,
  fun d l0 l1 w Q => r_iconst pt_200 rfl (by decide),
  fun d l0 l1 x w Q => px_ret (q := (.ireturn, 1, px_x0)) pt_200 rfl rfl⟩
/-- AllSwornModel.restore(I)I -/
theorem S201 : (∀ (d : Nat) (v0 v1 : Value) (w : px_H) (Q : Option Value → px_H → Prop), wc d 201 [v0, v1] w Q ↔ wp d 201 0 [some v0, some v1] [] w 0 Q) ∧
  (∀ (d : Nat) (l0 : Option Value) (x : Int32) (w : px_H) (Q : Option Value → px_H → Prop), wp d 201 0 [l0, some (.int x)] [] w 0 Q ↔ wp d 201 1 [l0, some (.int x)] [.int x] w 0 Q) ∧
  (∀ (d : Nat) (l0 l1 : Option Value) (s0 : Value)  (w : px_H) (Q : Option Value → px_H → Prop), wp d 201 1 [l0, l1] [s0] w 0 Q ↔ wp d 201 2 [l0, l1] [.int 0, s0] w 0 Q) ∧
  (∀ (d : Nat) (l0 l1 : Option Value) (s0 s1 : Value)  (w : px_H) (Q : Option Value → px_H → Prop), wp d 201 2 [l0, l1] [s0, s1] w 0 Q ↔ wp d 201 3 [l0, l1] [.int 1, s0, s1] w 0 Q) ∧
  (∀ (d : Nat) (l0 l1 : Option Value) (v0 v1 v2 : Value) (w : px_H) (Q : Option Value → px_H → Prop), wp (d + 1) 201 3 [l0, l1] [v2, v1, v0] w 0 Q ↔ wc d 140 [v0, v1, v2] w (fun r w' => wp (d + 1) 201 6 [l0, l1] (r.toList ++ []) w' 0 Q)) ∧
  (∀ (d : Nat) (l0 l1 : Option Value) (x : Int32) (w : px_H) (Q : Option Value → px_H → Prop), wp d 201 6 [l0, l1] [.int x] w 0 Q ↔ if x = 0 then wp d 201 9 [l0, l1] [] w 0 Q else wp d 201 12 [l0, l1] [] w 0 Q) ∧
  (∀ (d : Nat) (l0 l1 : Option Value)  (w : px_H) (Q : Option Value → px_H → Prop), wp d 201 9 [l0, l1] [] w 0 Q ↔ wp d 201 11 [l0, l1] [.int (-1000001)] w 0 Q) ∧
  (∀ (d : Nat) (l0 l1 : Option Value) (x : Int32) (w : px_H) (Q : Option Value → px_H → Prop), wp d 201 11 [l0, l1] [.int x] w 0 Q ↔ Q (some (.int x)) w) ∧
  (∀ (d : Nat) (l1 : Option Value) (a : Nat) (w : px_H) (Q : Option Value → px_H → Prop), wp d 201 12 [some (.ref a), l1] [] w 0 Q ↔ wp d 201 13 [some (.ref a), l1] [.ref a] w 0 Q) ∧
  (∀ (d : Nat) (l0 l1 : Option Value) (a : Nat) (w : px_H) (Q : Option Value → px_H → Prop), wp d 201 13 [l0, l1] [.ref a] w 0 Q ↔ px_op (px_fld w a [(11, 0)] 6) (fun v => wp d 201 16 [l0, l1] [v] w 0 Q)) ∧
  (∀ (d : Nat) (l0 : Option Value) (s0 : Value) (x : Int32) (w : px_H) (Q : Option Value → px_H → Prop), wp d 201 16 [l0, some (.int x)] [s0] w 0 Q ↔ wp d 201 17 [l0, some (.int x)] [.int x, s0] w 0 Q) ∧
  (∀ (d : Nat) (l0 l1 : Option Value) (i : Int32) (a : Nat) (w : px_H) (Q : Option Value → px_H → Prop), wp d 201 17 [l0, l1] [.int i, .ref a] w 0 Q ↔ px_op (px_bld w a i) (fun x => wp d 201 18 [l0, l1] [.int x] w 0 Q)) ∧
  (∀ (d : Nat) (l0 l1 : Option Value) (x : Int32) (w : px_H) (Q : Option Value → px_H → Prop), wp d 201 18 [l0, l1] [.int x] w 0 Q ↔ if x = 0 then wp d 201 21 [l0, l1] [] w 0 Q else wp d 201 24 [l0, l1] [] w 0 Q) ∧
  (∀ (d : Nat) (l0 l1 : Option Value)  (w : px_H) (Q : Option Value → px_H → Prop), wp d 201 21 [l0, l1] [] w 0 Q ↔ wp d 201 23 [l0, l1] [.int (-1000002)] w 0 Q) ∧
  (∀ (d : Nat) (l0 l1 : Option Value) (x : Int32) (w : px_H) (Q : Option Value → px_H → Prop), wp d 201 23 [l0, l1] [.int x] w 0 Q ↔ Q (some (.int x)) w) ∧
  (∀ (d : Nat) (l1 : Option Value) (a : Nat) (w : px_H) (Q : Option Value → px_H → Prop), wp d 201 24 [some (.ref a), l1] [] w 0 Q ↔ wp d 201 25 [some (.ref a), l1] [.ref a] w 0 Q) ∧
  (∀ (d : Nat) (l0 l1 : Option Value) (s0 : Value)  (w : px_H) (Q : Option Value → px_H → Prop), wp d 201 25 [l0, l1] [s0] w 0 Q ↔ wp d 201 26 [l0, l1] [.int 1, s0] w 0 Q) ∧
  (∀ (d : Nat) (l0 : Option Value) (s0 s1 : Value) (x : Int32) (w : px_H) (Q : Option Value → px_H → Prop), wp d 201 26 [l0, some (.int x)] [s0, s1] w 0 Q ↔ wp d 201 27 [l0, some (.int x)] [.int x, s0, s1] w 0 Q) ∧
  (∀ (d : Nat) (l0 l1 : Option Value) (s2 : Value) (x y : Int32) (w : px_H) (Q : Option Value → px_H → Prop), wp d 201 27 [l0, l1] [.int y, .int x, s2] w 0 Q ↔ wp d 201 28 [l0, l1] [.int (x + y), s2] w 0 Q) ∧
  (∀ (d : Nat) (l0 l1 : Option Value) (s0 s1 : Value)  (w : px_H) (Q : Option Value → px_H → Prop), wp d 201 28 [l0, l1] [s0, s1] w 0 Q ↔ wp d 201 29 [l0, l1] [.int 0, s0, s1] w 0 Q) ∧
  (∀ (d : Nat) (l0 l1 : Option Value) (v0 v1 : Value) (b : Nat) (w : px_H) (Q : Option Value → px_H → Prop), wp (d + 1) 201 29 [l0, l1] [v1, v0, .ref b] w 0 Q ↔ px_op (px_tgt w b [(11, 151)]) (fun v => wc d v [.ref b, v0, v1] w (fun r w' => wp (d + 1) 201 32 [l0, l1] (r.toList ++ []) w' 0 Q))) ∧
  (∀ (d : Nat) (l1 : Option Value) (a : Nat) (w : px_H) (Q : Option Value → px_H → Prop), wp d 201 32 [some (.ref a), l1] [] w 0 Q ↔ wp d 201 33 [some (.ref a), l1] [.ref a] w 0 Q) ∧
  (∀ (d : Nat) (l0 l1 : Option Value) (s0 : Value)  (w : px_H) (Q : Option Value → px_H → Prop), wp d 201 33 [l0, l1] [s0] w 0 Q ↔ wp d 201 34 [l0, l1] [.int 0, s0] w 0 Q) ∧
  (∀ (d : Nat) (l0 l1 : Option Value) (x : Int32) (a : Nat) (w : px_H) (Q : Option Value → px_H → Prop), wp d 201 34 [l0, l1] [.int x, .ref a] w 0 Q ↔ px_op (px_pfd w a [(11, 0)] 8 (.int x)) (fun w' => wp d 201 37 [l0, l1] [] w' 0 Q)) ∧
  (∀ (d : Nat) (l0 l1 : Option Value)  (w : px_H) (Q : Option Value → px_H → Prop), wp d 201 37 [l0, l1] [] w 0 Q ↔ wp d 201 38 [l0, l1] [.int 1] w 0 Q) ∧
  (∀ (d : Nat) (l0 l1 : Option Value) (x : Int32) (w : px_H) (Q : Option Value → px_H → Prop), wp d 201 38 [l0, l1] [.int x] w 0 Q ↔ Q (some (.int x)) w) := ⟨fun d v0 v1 w Q => r_entry pt_201 (Nat.le_of_ble_eq_true rfl) rfl,
  fun d l0 x w Q => px_go (q := (.iload_n 1, 1, px_x0)) (S' := (1, [l0, some (.int x)], [.int x], w, 0)) pt_201 rfl rfl,
  fun d l0 l1 s0 w Q => r_iconst pt_201 rfl (by decide),
  fun d l0 l1 s0 s1 w Q => r_iconst pt_201 rfl (by decide),
  fun d l0 l1 v0 v1 v2 w Q => r_call (q := (.invokestatic 50, 3, (30, 3, [(0, 140)], 0, ""))) pt_201 rfl rfl pt_140 (Nat.le_of_ble_eq_true rfl) (Nat.le_of_ble_eq_true rfl) rfl,
  fun d l0 l1 x w Q => r_if_ne pt_201 rfl rfl,
  fun d l0 l1 w Q => px_go (q := (.ldc 58, 2, (0, 0, [], (-1000001), ""))) (S' := (11, [l0, l1], [.int (-1000001)], w, 0)) pt_201 rfl rfl,
  fun d l0 l1 x w Q => px_ret (q := (.ireturn, 1, px_x0)) pt_201 rfl rfl,
  fun d l1 a w Q => px_go (q := (.aload_n 0, 1, px_x0)) (S' := (13, [some (.ref a), l1], [.ref a], w, 0)) pt_201 rfl rfl,
  fun d l0 l1 a w Q => px_goO (q := (.getfield 22, 3, (10, 6, [(11, 0)], 0, "AllSwornModel"))) (S' := fun v => (16, [l0, l1], [v], w, 0)) pt_201 rfl rfl,
  fun d l0 s0 x w Q => px_go (q := (.iload_n 1, 1, px_x0)) (S' := (17, [l0, some (.int x)], [.int x, s0], w, 0)) pt_201 rfl rfl,
  fun d l0 l1 i a w Q => px_goO (q := (.baload, 1, px_x0)) (S' := fun x => (18, [l0, l1], [.int x], w, 0)) pt_201 rfl rfl,
  fun d l0 l1 x w Q => r_if_ne pt_201 rfl rfl,
  fun d l0 l1 w Q => px_go (q := (.ldc 175, 2, (0, 0, [], (-1000002), ""))) (S' := (23, [l0, l1], [.int (-1000002)], w, 0)) pt_201 rfl rfl,
  fun d l0 l1 x w Q => px_ret (q := (.ireturn, 1, px_x0)) pt_201 rfl rfl,
  fun d l1 a w Q => px_go (q := (.aload_n 0, 1, px_x0)) (S' := (25, [some (.ref a), l1], [.ref a], w, 0)) pt_201 rfl rfl,
  fun d l0 l1 s0 w Q => r_iconst pt_201 rfl (by decide),
  fun d l0 s0 s1 x w Q => px_go (q := (.iload_n 1, 1, px_x0)) (S' := (27, [l0, some (.int x)], [.int x, s0, s1], w, 0)) pt_201 rfl rfl,
  fun d l0 l1 s2 x y w Q => px_go (q := (.iadd, 1, px_x0)) (S' := (28, [l0, l1], [.int (x + y), s2], w, 0)) pt_201 rfl rfl,
  fun d l0 l1 s0 s1 w Q => r_iconst pt_201 rfl (by decide),
  fun d l0 l1 v0 v1 b w Q => r_callV (q := (.invokevirtual 130, 3, (33, 2, [(11, 151)], 0, ""))) pt_201 rfl rfl (List.forall_mem_cons.mpr ⟨⟨_, pt_151, Nat.le_of_ble_eq_true rfl, (Nat.le_of_ble_eq_true rfl), rfl⟩, fun _ h => absurd h List.not_mem_nil⟩),
  fun d l1 a w Q => px_go (q := (.aload_n 0, 1, px_x0)) (S' := (33, [some (.ref a), l1], [.ref a], w, 0)) pt_201 rfl rfl,
  fun d l0 l1 s0 w Q => r_iconst pt_201 rfl (by decide),
  fun d l0 l1 x a w Q => r_put pt_201 rfl (by simp only [List.all_cons, List.all_nil, ft_11_8, px_fit, px_isr, Bool.and_self]),
  fun d l0 l1 w Q => r_iconst pt_201 rfl (by decide),
  fun d l0 l1 x w Q => px_ret (q := (.ireturn, 1, px_x0)) pt_201 rfl rfl⟩
/-- AllSwornModel.kind(I)I -/
theorem S202 : (∀ (d : Nat) (v0 v1 : Value) (w : px_H) (Q : Option Value → px_H → Prop), wc d 202 [v0, v1] w Q ↔ wp d 202 0 [some v0, some v1] [] w 0 Q) ∧
  (∀ (d : Nat) (l1 : Option Value) (a : Nat) (w : px_H) (Q : Option Value → px_H → Prop), wp d 202 0 [some (.ref a), l1] [] w 0 Q ↔ wp d 202 1 [some (.ref a), l1] [.ref a] w 0 Q) ∧
  (∀ (d : Nat) (l0 : Option Value) (s0 : Value) (x : Int32) (w : px_H) (Q : Option Value → px_H → Prop), wp d 202 1 [l0, some (.int x)] [s0] w 0 Q ↔ wp d 202 2 [l0, some (.int x)] [.int x, s0] w 0 Q) ∧
  (∀ (d : Nat) (l0 l1 : Option Value) (v0 : Value) (b : Nat) (w : px_H) (Q : Option Value → px_H → Prop), wp (d + 1) 202 2 [l0, l1] [v0, .ref b] w 0 Q ↔ px_op (px_tgt w b [(11, 152)]) (fun v => wc d v [.ref b, v0] w (fun r w' => wp (d + 1) 202 5 [l0, l1] (r.toList ++ []) w' 0 Q))) ∧
  (∀ (d : Nat) (l0 l1 : Option Value) (x : Int32) (w : px_H) (Q : Option Value → px_H → Prop), wp d 202 5 [l0, l1] [.int x] w 0 Q ↔ if x = 0 then wp d 202 17 [l0, l1] [] w 0 Q else wp d 202 8 [l0, l1] [] w 0 Q) ∧
  (∀ (d : Nat) (l1 : Option Value) (a : Nat) (w : px_H) (Q : Option Value → px_H → Prop), wp d 202 8 [some (.ref a), l1] [] w 0 Q ↔ wp d 202 9 [some (.ref a), l1] [.ref a] w 0 Q) ∧
  (∀ (d : Nat) (l0 : Option Value) (s0 : Value) (x : Int32) (w : px_H) (Q : Option Value → px_H → Prop), wp d 202 9 [l0, some (.int x)] [s0] w 0 Q ↔ wp d 202 10 [l0, some (.int x)] [.int x, s0] w 0 Q) ∧
  (∀ (d : Nat) (l0 l1 : Option Value) (s0 s1 : Value)  (w : px_H) (Q : Option Value → px_H → Prop), wp d 202 10 [l0, l1] [s0, s1] w 0 Q ↔ wp d 202 11 [l0, l1] [.int 0, s0, s1] w 0 Q) ∧
  (∀ (d : Nat) (l0 l1 : Option Value) (v0 v1 : Value) (b : Nat) (w : px_H) (Q : Option Value → px_H → Prop), wp (d + 1) 202 11 [l0, l1] [v1, v0, .ref b] w 0 Q ↔ px_op (px_tgt w b [(11, 154)]) (fun v => wc d v [.ref b, v0, v1] w (fun r w' => wp (d + 1) 202 14 [l0, l1] (r.toList ++ []) w' 0 Q))) ∧
  (∀ (d : Nat) (l0 l1 : Option Value) (s0 : Value)  (w : px_H) (Q : Option Value → px_H → Prop), wp d 202 14 [l0, l1] [s0] w 0 Q ↔ wp d 202 19 [l0, l1] [s0] w 0 Q) ∧
  (∀ (d : Nat) (l0 l1 : Option Value)  (w : px_H) (Q : Option Value → px_H → Prop), wp d 202 17 [l0, l1] [] w 0 Q ↔ wp d 202 19 [l0, l1] [.int (-1000001)] w 0 Q) ∧
  (∀ (d : Nat) (l0 l1 : Option Value) (x : Int32) (w : px_H) (Q : Option Value → px_H → Prop), wp d 202 19 [l0, l1] [.int x] w 0 Q ↔ Q (some (.int x)) w) := ⟨fun d v0 v1 w Q => r_entry pt_202 (Nat.le_of_ble_eq_true rfl) rfl,
  fun d l1 a w Q => px_go (q := (.aload_n 0, 1, px_x0)) (S' := (1, [some (.ref a), l1], [.ref a], w, 0)) pt_202 rfl rfl,
  fun d l0 s0 x w Q => px_go (q := (.iload_n 1, 1, px_x0)) (S' := (2, [l0, some (.int x)], [.int x, s0], w, 0)) pt_202 rfl rfl,
  fun d l0 l1 v0 b w Q => r_callV (q := (.invokevirtual 152, 3, (33, 1, [(11, 152)], 0, ""))) pt_202 rfl rfl (List.forall_mem_cons.mpr ⟨⟨_, pt_152, Nat.le_of_ble_eq_true rfl, (Nat.le_of_ble_eq_true rfl), rfl⟩, fun _ h => absurd h List.not_mem_nil⟩),
  fun d l0 l1 x w Q => r_if_eq pt_202 rfl rfl,
  fun d l1 a w Q => px_go (q := (.aload_n 0, 1, px_x0)) (S' := (9, [some (.ref a), l1], [.ref a], w, 0)) pt_202 rfl rfl,
  fun d l0 s0 x w Q => px_go (q := (.iload_n 1, 1, px_x0)) (S' := (10, [l0, some (.int x)], [.int x, s0], w, 0)) pt_202 rfl rfl,
  fun d l0 l1 s0 s1 w Q => r_iconst pt_202 rfl (by decide),
  fun d l0 l1 v0 v1 b w Q => r_callV (q := (.invokevirtual 136, 3, (33, 2, [(11, 154)], 0, ""))) pt_202 rfl rfl (List.forall_mem_cons.mpr ⟨⟨_, pt_154, Nat.le_of_ble_eq_true rfl, (Nat.le_of_ble_eq_true rfl), rfl⟩, fun _ h => absurd h List.not_mem_nil⟩),
  fun d l0 l1 s0 w Q => r_goto pt_202 rfl rfl,
  fun d l0 l1 w Q => px_go (q := (.ldc 58, 2, (0, 0, [], (-1000001), ""))) (S' := (19, [l0, l1], [.int (-1000001)], w, 0)) pt_202 rfl rfl,
  fun d l0 l1 x w Q => px_ret (q := (.ireturn, 1, px_x0)) pt_202 rfl rfl⟩
/-- AllSwornModel.inHarms(I)I heads: [4] -/
theorem S203 : (∀ (d : Nat) (v0 v1 : Value) (w : px_H) (Q : Option Value → px_H → Prop), wc d 203 [v0, v1] w Q ↔ wp d 203 0 [some v0, some v1, none, none] [] w 0 Q) ∧
  (∀ (d : Nat) (l0 l1 l2 l3 : Option Value)  (w : px_H) (Q : Option Value → px_H → Prop), wp d 203 0 [l0, l1, l2, l3] [] w 0 Q ↔ wp d 203 1 [l0, l1, l2, l3] [.int 0] w 0 Q) ∧
  (∀ (d : Nat) (l0 l1 l2 l3 : Option Value) (x : Int32) (w : px_H) (Q : Option Value → px_H → Prop), wp d 203 1 [l0, l1, l2, l3] [.int x] w 0 Q ↔ wp d 203 2 [l0, l1, some (.int x), l3] [] w 0 Q) ∧
  (∀ (d : Nat) (l0 l1 l2 l3 : Option Value)  (w : px_H) (Q : Option Value → px_H → Prop), wp d 203 2 [l0, l1, l2, l3] [] w 0 Q ↔ wp d 203 3 [l0, l1, l2, l3] [.int 0] w 0 Q) ∧
  (∀ (d : Nat) (l0 l1 l2 l3 : Option Value) (x : Int32) (w : px_H) (Q : Option Value → px_H → Prop), wp d 203 3 [l0, l1, l2, l3] [.int x] w 0 Q ↔ wp d 203 4 [l0, l1, l2, some (.int x)] [] w 0 Q) ∧
  (∀ (d : Nat) (l1 l2 l3 : Option Value) (s0 : Value) (a : Nat) (w : px_H) (Q : Option Value → px_H → Prop), wp d 203 5 [some (.ref a), l1, l2, l3] [s0] w 0 Q ↔ wp d 203 6 [some (.ref a), l1, l2, l3] [.ref a, s0] w 0 Q) ∧
  (∀ (d : Nat) (l0 l1 l2 l3 : Option Value) (s0 s1 : Value)  (w : px_H) (Q : Option Value → px_H → Prop), wp d 203 6 [l0, l1, l2, l3] [s0, s1] w 0 Q ↔ wp d 203 7 [l0, l1, l2, l3] [.int 2, s0, s1] w 0 Q) ∧
  (∀ (d : Nat) (l0 l1 l2 l3 : Option Value) (s2 : Value) (v0 : Value) (b : Nat) (w : px_H) (Q : Option Value → px_H → Prop), wp (d + 1) 203 7 [l0, l1, l2, l3] [v0, .ref b, s2] w 0 Q ↔ px_op (px_tgt w b [(11, 149)]) (fun v => wc d v [.ref b, v0] w (fun r w' => wp (d + 1) 203 10 [l0, l1, l2, l3] (r.toList ++ [s2]) w' 0 Q))) ∧
  (∀ (d : Nat) (l0 l1 l2 l3 : Option Value) (x y : Int32) (w : px_H) (Q : Option Value → px_H → Prop), wp d 203 10 [l0, l1, l2, l3] [.int y, .int x] w 0 Q ↔ if y ≤ x then wp d 203 34 [l0, l1, l2, l3] [] w 0 Q else wp d 203 13 [l0, l1, l2, l3] [] w 0 Q) ∧
  (∀ (d : Nat) (l0 l1 l3 : Option Value) (x : Int32) (w : px_H) (Q : Option Value → px_H → Prop), wp d 203 13 [l0, l1, some (.int x), l3] [] w 0 Q ↔ wp d 203 14 [l0, l1, some (.int x), l3] [.int x] w 0 Q) ∧
  (∀ (d : Nat) (l1 l2 l3 : Option Value) (s0 : Value) (a : Nat) (w : px_H) (Q : Option Value → px_H → Prop), wp d 203 14 [some (.ref a), l1, l2, l3] [s0] w 0 Q ↔ wp d 203 15 [some (.ref a), l1, l2, l3] [.ref a, s0] w 0 Q) ∧
  (∀ (d : Nat) (l0 l1 l2 l3 : Option Value) (s0 s1 : Value)  (w : px_H) (Q : Option Value → px_H → Prop), wp d 203 15 [l0, l1, l2, l3] [s0, s1] w 0 Q ↔ wp d 203 17 [l0, l1, l2, l3] [.int 37, s0, s1] w 0 Q) ∧
  (∀ (d : Nat) (l0 l1 l2 : Option Value) (s0 s1 s2 : Value) (x : Int32) (w : px_H) (Q : Option Value → px_H → Prop), wp d 203 17 [l0, l1, l2, some (.int x)] [s0, s1, s2] w 0 Q ↔ wp d 203 18 [l0, l1, l2, some (.int x)] [.int x, s0, s1, s2] w 0 Q) ∧
  (∀ (d : Nat) (l0 l1 l2 l3 : Option Value) (s2 s3 : Value) (x y : Int32) (w : px_H) (Q : Option Value → px_H → Prop), wp d 203 18 [l0, l1, l2, l3] [.int y, .int x, s2, s3] w 0 Q ↔ wp d 203 19 [l0, l1, l2, l3] [.int (x + y), s2, s3] w 0 Q) ∧
  (∀ (d : Nat) (l0 l1 l2 l3 : Option Value) (s2 : Value) (v0 : Value) (b : Nat) (w : px_H) (Q : Option Value → px_H → Prop), wp (d + 1) 203 19 [l0, l1, l2, l3] [v0, .ref b, s2] w 0 Q ↔ px_op (px_tgt w b [(11, 149)]) (fun v => wc d v [.ref b, v0] w (fun r w' => wp (d + 1) 203 22 [l0, l1, l2, l3] (r.toList ++ [s2]) w' 0 Q))) ∧
  (∀ (d : Nat) (l0 l2 l3 : Option Value) (s0 s1 : Value) (x : Int32) (w : px_H) (Q : Option Value → px_H → Prop), wp d 203 22 [l0, some (.int x), l2, l3] [s0, s1] w 0 Q ↔ wp d 203 23 [l0, some (.int x), l2, l3] [.int x, s0, s1] w 0 Q) ∧
  (∀ (d : Nat) (l0 l1 l2 l3 : Option Value) (s2 : Value) (x y : Int32) (w : px_H) (Q : Option Value → px_H → Prop), wp d 203 23 [l0, l1, l2, l3] [.int y, .int x, s2] w 0 Q ↔ wp d 203 24 [l0, l1, l2, l3] [.int (x >>> (y &&& 31)), s2] w 0 Q) ∧
  (∀ (d : Nat) (l0 l1 l2 l3 : Option Value) (s0 s1 : Value)  (w : px_H) (Q : Option Value → px_H → Prop), wp d 203 24 [l0, l1, l2, l3] [s0, s1] w 0 Q ↔ wp d 203 25 [l0, l1, l2, l3] [.int 1, s0, s1] w 0 Q) ∧
  (∀ (d : Nat) (l0 l1 l2 l3 : Option Value) (s2 : Value) (x y : Int32) (w : px_H) (Q : Option Value → px_H → Prop), wp d 203 25 [l0, l1, l2, l3] [.int y, .int x, s2] w 0 Q ↔ wp d 203 26 [l0, l1, l2, l3] [.int (x &&& y), s2] w 0 Q) ∧
  (∀ (d : Nat) (l0 l1 l2 l3 : Option Value) (x y : Int32) (w : px_H) (Q : Option Value → px_H → Prop), wp d 203 26 [l0, l1, l2, l3] [.int y, .int x] w 0 Q ↔ wp d 203 27 [l0, l1, l2, l3] [.int (x + y)] w 0 Q) ∧
  (∀ (d : Nat) (l0 l1 l2 l3 : Option Value) (x : Int32) (w : px_H) (Q : Option Value → px_H → Prop), wp d 203 27 [l0, l1, l2, l3] [.int x] w 0 Q ↔ wp d 203 28 [l0, l1, some (.int x), l3] [] w 0 Q) ∧
  (∀ (d : Nat) (l0 l1 l2 : Option Value) (x : Int32) (w : px_H) (Q : Option Value → px_H → Prop), wp d 203 28 [l0, l1, l2, some (.int x)] [] w 0 Q ↔ wp d 203 31 [l0, l1, l2, some (.int (x + 1))] [] w 0 Q) ∧
  (∀ (d : Nat) (l0 l1 l2 l3 : Option Value)  (w : px_H) (Q : Option Value → px_H → Prop), wp d 203 31 [l0, l1, l2, l3] [] w 0 Q ↔ wp d 203 4 [l0, l1, l2, l3] [] w 0 Q) ∧
  (∀ (d : Nat) (l0 l1 l3 : Option Value) (x : Int32) (w : px_H) (Q : Option Value → px_H → Prop), wp d 203 34 [l0, l1, some (.int x), l3] [] w 0 Q ↔ wp d 203 35 [l0, l1, some (.int x), l3] [.int x] w 0 Q) ∧
  (∀ (d : Nat) (l0 l1 l2 l3 : Option Value) (x : Int32) (w : px_H) (Q : Option Value → px_H → Prop), wp d 203 35 [l0, l1, l2, l3] [.int x] w 0 Q ↔ Q (some (.int x)) w) := ⟨fun d v0 v1 w Q => r_entry pt_203 (Nat.le_of_ble_eq_true rfl) rfl,
  fun d l0 l1 l2 l3 w Q => r_iconst pt_203 rfl (by decide),
  fun d l0 l1 l2 l3 x w Q => px_go (q := (.istore_n 2, 1, px_x0)) (S' := (2, [l0, l1, some (.int x), l3], [], w, 0)) pt_203 rfl rfl,
  fun d l0 l1 l2 l3 w Q => r_iconst pt_203 rfl (by decide),
  fun d l0 l1 l2 l3 x w Q => px_go (q := (.istore_n 3, 1, px_x0)) (S' := (4, [l0, l1, l2, some (.int x)], [], w, 0)) pt_203 rfl rfl,
  fun d l1 l2 l3 s0 a w Q => px_go (q := (.aload_n 0, 1, px_x0)) (S' := (6, [some (.ref a), l1, l2, l3], [.ref a, s0], w, 0)) pt_203 rfl rfl,
  fun d l0 l1 l2 l3 s0 s1 w Q => r_iconst pt_203 rfl (by decide),
  fun d l0 l1 l2 l3 s2 v0 b w Q => r_callV (q := (.invokevirtual 69, 3, (33, 1, [(11, 149)], 0, ""))) pt_203 rfl rfl (List.forall_mem_cons.mpr ⟨⟨_, pt_149, Nat.le_of_ble_eq_true rfl, (Nat.le_of_ble_eq_true rfl), rfl⟩, fun _ h => absurd h List.not_mem_nil⟩),
  fun d l0 l1 l2 l3 x y w Q => r_icmp_ge pt_203 rfl rfl,
  fun d l0 l1 l3 x w Q => px_go (q := (.iload_n 2, 1, px_x0)) (S' := (14, [l0, l1, some (.int x), l3], [.int x], w, 0)) pt_203 rfl rfl,
  fun d l1 l2 l3 s0 a w Q => px_go (q := (.aload_n 0, 1, px_x0)) (S' := (15, [some (.ref a), l1, l2, l3], [.ref a, s0], w, 0)) pt_203 rfl rfl,
  fun d l0 l1 l2 l3 s0 s1 w Q => r_bipush pt_203 rfl (by decide),
  fun d l0 l1 l2 s0 s1 s2 x w Q => px_go (q := (.iload_n 3, 1, px_x0)) (S' := (18, [l0, l1, l2, some (.int x)], [.int x, s0, s1, s2], w, 0)) pt_203 rfl rfl,
  fun d l0 l1 l2 l3 s2 s3 x y w Q => px_go (q := (.iadd, 1, px_x0)) (S' := (19, [l0, l1, l2, l3], [.int (x + y), s2, s3], w, 0)) pt_203 rfl rfl,
  fun d l0 l1 l2 l3 s2 v0 b w Q => r_callV (q := (.invokevirtual 69, 3, (33, 1, [(11, 149)], 0, ""))) pt_203 rfl rfl (List.forall_mem_cons.mpr ⟨⟨_, pt_149, Nat.le_of_ble_eq_true rfl, (Nat.le_of_ble_eq_true rfl), rfl⟩, fun _ h => absurd h List.not_mem_nil⟩),
  fun d l0 l2 l3 s0 s1 x w Q => px_go (q := (.iload_n 1, 1, px_x0)) (S' := (23, [l0, some (.int x), l2, l3], [.int x, s0, s1], w, 0)) pt_203 rfl rfl,
  fun d l0 l1 l2 l3 s2 x y w Q => px_go (q := (.ishr, 1, px_x0)) (S' := (24, [l0, l1, l2, l3], [.int (x >>> (y &&& 31)), s2], w, 0)) pt_203 rfl rfl,
  fun d l0 l1 l2 l3 s0 s1 w Q => r_iconst pt_203 rfl (by decide),
  fun d l0 l1 l2 l3 s2 x y w Q => px_go (q := (.iand, 1, px_x0)) (S' := (26, [l0, l1, l2, l3], [.int (x &&& y), s2], w, 0)) pt_203 rfl rfl,
  fun d l0 l1 l2 l3 x y w Q => px_go (q := (.iadd, 1, px_x0)) (S' := (27, [l0, l1, l2, l3], [.int (x + y)], w, 0)) pt_203 rfl rfl,
  fun d l0 l1 l2 l3 x w Q => px_go (q := (.istore_n 2, 1, px_x0)) (S' := (28, [l0, l1, some (.int x), l3], [], w, 0)) pt_203 rfl rfl,
  fun d l0 l1 l2 x w Q => r_iinc pt_203 rfl rfl (by decide) rfl,
  fun d l0 l1 l2 l3 w Q => r_goto pt_203 rfl rfl,
  fun d l0 l1 l3 x w Q => px_go (q := (.iload_n 2, 1, px_x0)) (S' := (35, [l0, l1, some (.int x), l3], [.int x], w, 0)) pt_203 rfl rfl,
  fun d l0 l1 l2 l3 x w Q => px_ret (q := (.ireturn, 1, px_x0)) pt_203 rfl rfl⟩
theorem H203_4 : ∀ (d : Nat) (l0 l1 l2 : Option Value) (x : Int32) (w : px_H) (Q : Option Value → px_H → Prop), wp d 203 4 [l0, l1, l2, some (.int x)] [] w 0 Q ↔ wp d 203 5 [l0, l1, l2, some (.int x)] [.int x] w 0 Q := fun d l0 l1 l2 x w Q => px_go (q := (.iload_n 3, 1, px_x0)) (S' := (5, [l0, l1, l2, some (.int x)], [.int x], w, 0)) pt_203 rfl rfl
/-- AllSwornModel.isOne(II)Z -/
theorem S204 : (∀ (d : Nat) (v0 v1 : Value) (w : px_H) (Q : Option Value → px_H → Prop), wc d 204 [v0, v1] w Q ↔ wp d 204 0 [some v0, some v1] [] w 0 Q) ∧
  (∀ (d : Nat) (l0 : Option Value) (x : Int32) (w : px_H) (Q : Option Value → px_H → Prop), wp d 204 0 [l0, some (.int x)] [] w 0 Q ↔ wp d 204 1 [l0, some (.int x)] [.int x] w 0 Q) ∧
  (∀ (d : Nat) (l0 l1 : Option Value) (x : Int32) (w : px_H) (Q : Option Value → px_H → Prop), wp d 204 1 [l0, l1] [.int x] w 0 Q ↔ if x = 0 then wp d 204 33 [l0, l1] [] w 0 Q else wp d 204 4 [l0, l1] [] w 0 Q) ∧
  (∀ (d : Nat) (l0 : Option Value) (x : Int32) (w : px_H) (Q : Option Value → px_H → Prop), wp d 204 4 [l0, some (.int x)] [] w 0 Q ↔ wp d 204 5 [l0, some (.int x)] [.int x] w 0 Q) ∧
  (∀ (d : Nat) (l1 : Option Value) (s0 : Value) (x : Int32) (w : px_H) (Q : Option Value → px_H → Prop), wp d 204 5 [some (.int x), l1] [s0] w 0 Q ↔ wp d 204 6 [some (.int x), l1] [.int x, s0] w 0 Q) ∧
  (∀ (d : Nat) (l0 l1 : Option Value) (x y : Int32) (w : px_H) (Q : Option Value → px_H → Prop), wp d 204 6 [l0, l1] [.int y, .int x] w 0 Q ↔ if x = y then wp d 204 33 [l0, l1] [] w 0 Q else wp d 204 9 [l0, l1] [] w 0 Q) ∧
  (∀ (d : Nat) (l0 : Option Value) (x : Int32) (w : px_H) (Q : Option Value → px_H → Prop), wp d 204 9 [l0, some (.int x)] [] w 0 Q ↔ wp d 204 10 [l0, some (.int x)] [.int x] w 0 Q) ∧
  (∀ (d : Nat) (l0 l1 : Option Value) (s0 : Value)  (w : px_H) (Q : Option Value → px_H → Prop), wp d 204 10 [l0, l1] [s0] w 0 Q ↔ wp d 204 11 [l0, l1] [.int 1, s0] w 0 Q) ∧
  (∀ (d : Nat) (l0 l1 : Option Value) (x y : Int32) (w : px_H) (Q : Option Value → px_H → Prop), wp d 204 11 [l0, l1] [.int y, .int x] w 0 Q ↔ if x = y then wp d 204 14 [l0, l1] [] w 0 Q else wp d 204 23 [l0, l1] [] w 0 Q) ∧
  (∀ (d : Nat) (l1 : Option Value) (x : Int32) (w : px_H) (Q : Option Value → px_H → Prop), wp d 204 14 [some (.int x), l1] [] w 0 Q ↔ wp d 204 15 [some (.int x), l1] [.int x] w 0 Q) ∧
  (∀ (d : Nat) (l0 l1 : Option Value) (s0 : Value)  (w : px_H) (Q : Option Value → px_H → Prop), wp d 204 15 [l0, l1] [s0] w 0 Q ↔ wp d 204 16 [l0, l1] [.int 2, s0] w 0 Q) ∧
  (∀ (d : Nat) (l0 l1 : Option Value) (s0 s1 : Value)  (w : px_H) (Q : Option Value → px_H → Prop), wp d 204 16 [l0, l1] [s0, s1] w 0 Q ↔ wp d 204 17 [l0, l1] [.int 3, s0, s1] w 0 Q) ∧
  (∀ (d : Nat) (l0 l1 : Option Value) (v0 v1 v2 : Value) (w : px_H) (Q : Option Value → px_H → Prop), wp (d + 1) 204 17 [l0, l1] [v2, v1, v0] w 0 Q ↔ wc d 140 [v0, v1, v2] w (fun r w' => wp (d + 1) 204 20 [l0, l1] (r.toList ++ []) w' 0 Q)) ∧
  (∀ (d : Nat) (l0 l1 : Option Value) (x : Int32) (w : px_H) (Q : Option Value → px_H → Prop), wp d 204 20 [l0, l1] [.int x] w 0 Q ↔ if x = 0 then wp d 204 23 [l0, l1] [] w 0 Q else wp d 204 33 [l0, l1] [] w 0 Q) ∧
  (∀ (d : Nat) (l0 : Option Value) (x : Int32) (w : px_H) (Q : Option Value → px_H → Prop), wp d 204 23 [l0, some (.int x)] [] w 0 Q ↔ wp d 204 24 [l0, some (.int x)] [.int x] w 0 Q) ∧
  (∀ (d : Nat) (l0 l1 : Option Value) (s0 : Value)  (w : px_H) (Q : Option Value → px_H → Prop), wp d 204 24 [l0, l1] [s0] w 0 Q ↔ wp d 204 25 [l0, l1] [.int 4, s0] w 0 Q) ∧
  (∀ (d : Nat) (l0 l1 : Option Value) (x y : Int32) (w : px_H) (Q : Option Value → px_H → Prop), wp d 204 25 [l0, l1] [.int y, .int x] w 0 Q ↔ if x = y then wp d 204 28 [l0, l1] [] w 0 Q else wp d 204 37 [l0, l1] [] w 0 Q) ∧
  (∀ (d : Nat) (l1 : Option Value) (x : Int32) (w : px_H) (Q : Option Value → px_H → Prop), wp d 204 28 [some (.int x), l1] [] w 0 Q ↔ wp d 204 29 [some (.int x), l1] [.int x] w 0 Q) ∧
  (∀ (d : Nat) (l0 l1 : Option Value) (s0 : Value)  (w : px_H) (Q : Option Value → px_H → Prop), wp d 204 29 [l0, l1] [s0] w 0 Q ↔ wp d 204 30 [l0, l1] [.int 5, s0] w 0 Q) ∧
  (∀ (d : Nat) (l0 l1 : Option Value) (x y : Int32) (w : px_H) (Q : Option Value → px_H → Prop), wp d 204 30 [l0, l1] [.int y, .int x] w 0 Q ↔ if x = y then wp d 204 33 [l0, l1] [] w 0 Q else wp d 204 37 [l0, l1] [] w 0 Q) ∧
  (∀ (d : Nat) (l0 l1 : Option Value)  (w : px_H) (Q : Option Value → px_H → Prop), wp d 204 33 [l0, l1] [] w 0 Q ↔ wp d 204 34 [l0, l1] [.int 1] w 0 Q) ∧
  (∀ (d : Nat) (l0 l1 : Option Value) (s0 : Value)  (w : px_H) (Q : Option Value → px_H → Prop), wp d 204 34 [l0, l1] [s0] w 0 Q ↔ wp d 204 38 [l0, l1] [s0] w 0 Q) ∧
  (∀ (d : Nat) (l0 l1 : Option Value)  (w : px_H) (Q : Option Value → px_H → Prop), wp d 204 37 [l0, l1] [] w 0 Q ↔ wp d 204 38 [l0, l1] [.int 0] w 0 Q) ∧
  (∀ (d : Nat) (l0 l1 : Option Value) (x : Int32) (w : px_H) (Q : Option Value → px_H → Prop), wp d 204 38 [l0, l1] [.int x] w 0 Q ↔ (x = 0 ∨ x = 1) ∧ Q (some (.int x)) w) := ⟨fun d v0 v1 w Q => r_entry pt_204 (Nat.le_of_ble_eq_true rfl) rfl,
  fun d l0 x w Q => px_go (q := (.iload_n 1, 1, px_x0)) (S' := (1, [l0, some (.int x)], [.int x], w, 0)) pt_204 rfl rfl,
  fun d l0 l1 x w Q => r_if_eq pt_204 rfl rfl,
  fun d l0 x w Q => px_go (q := (.iload_n 1, 1, px_x0)) (S' := (5, [l0, some (.int x)], [.int x], w, 0)) pt_204 rfl rfl,
  fun d l1 s0 x w Q => px_go (q := (.iload_n 0, 1, px_x0)) (S' := (6, [some (.int x), l1], [.int x, s0], w, 0)) pt_204 rfl rfl,
  fun d l0 l1 x y w Q => r_icmp_eq pt_204 rfl rfl,
  fun d l0 x w Q => px_go (q := (.iload_n 1, 1, px_x0)) (S' := (10, [l0, some (.int x)], [.int x], w, 0)) pt_204 rfl rfl,
  fun d l0 l1 s0 w Q => r_iconst pt_204 rfl (by decide),
  fun d l0 l1 x y w Q => r_icmp_ne pt_204 rfl rfl,
  fun d l1 x w Q => px_go (q := (.iload_n 0, 1, px_x0)) (S' := (15, [some (.int x), l1], [.int x], w, 0)) pt_204 rfl rfl,
  fun d l0 l1 s0 w Q => r_iconst pt_204 rfl (by decide),
  fun d l0 l1 s0 s1 w Q => r_iconst pt_204 rfl (by decide),
  fun d l0 l1 v0 v1 v2 w Q => r_call (q := (.invokestatic 50, 3, (30, 3, [(0, 140)], 0, ""))) pt_204 rfl rfl pt_140 (Nat.le_of_ble_eq_true rfl) (Nat.le_of_ble_eq_true rfl) rfl,
  fun d l0 l1 x w Q => r_if_ne pt_204 rfl rfl,
  fun d l0 x w Q => px_go (q := (.iload_n 1, 1, px_x0)) (S' := (24, [l0, some (.int x)], [.int x], w, 0)) pt_204 rfl rfl,
  fun d l0 l1 s0 w Q => r_iconst pt_204 rfl (by decide),
  fun d l0 l1 x y w Q => r_icmp_ne pt_204 rfl rfl,
  fun d l1 x w Q => px_go (q := (.iload_n 0, 1, px_x0)) (S' := (29, [some (.int x), l1], [.int x], w, 0)) pt_204 rfl rfl,
  fun d l0 l1 s0 w Q => r_iconst pt_204 rfl (by decide),
  fun d l0 l1 x y w Q => r_icmp_ne pt_204 rfl rfl,
  fun d l0 l1 w Q => r_iconst pt_204 rfl (by decide),
  fun d l0 l1 s0 w Q => r_goto pt_204 rfl rfl,
  fun d l0 l1 w Q => r_iconst pt_204 rfl (by decide),
  fun d l0 l1 x w Q => px_retI (q := (.ireturn, 1, px_x0)) pt_204 rfl rfl⟩
/-- AllSwornModel.as(II)I -/
theorem S205 : (∀ (d : Nat) (v0 v1 v2 : Value) (w : px_H) (Q : Option Value → px_H → Prop), wc d 205 [v0, v1, v2] w Q ↔ wp d 205 0 [some v0, some v1, some v2] [] w 0 Q) ∧
  (∀ (d : Nat) (l1 l2 : Option Value) (a : Nat) (w : px_H) (Q : Option Value → px_H → Prop), wp d 205 0 [some (.ref a), l1, l2] [] w 0 Q ↔ wp d 205 1 [some (.ref a), l1, l2] [.ref a] w 0 Q) ∧
  (∀ (d : Nat) (l0 l2 : Option Value) (s0 : Value) (x : Int32) (w : px_H) (Q : Option Value → px_H → Prop), wp d 205 1 [l0, some (.int x), l2] [s0] w 0 Q ↔ wp d 205 2 [l0, some (.int x), l2] [.int x, s0] w 0 Q) ∧
  (∀ (d : Nat) (l0 l1 l2 : Option Value) (v0 : Value) (b : Nat) (w : px_H) (Q : Option Value → px_H → Prop), wp (d + 1) 205 2 [l0, l1, l2] [v0, .ref b] w 0 Q ↔ px_op (px_tgt w b [(11, 152)]) (fun v => wc d v [.ref b, v0] w (fun r w' => wp (d + 1) 205 5 [l0, l1, l2] (r.toList ++ []) w' 0 Q))) ∧
  (∀ (d : Nat) (l0 l1 l2 : Option Value) (x : Int32) (w : px_H) (Q : Option Value → px_H → Prop), wp d 205 5 [l0, l1, l2] [.int x] w 0 Q ↔ if x = 0 then wp d 205 17 [l0, l1, l2] [] w 0 Q else wp d 205 8 [l0, l1, l2] [] w 0 Q) ∧
  (∀ (d : Nat) (l0 l1 : Option Value) (x : Int32) (w : px_H) (Q : Option Value → px_H → Prop), wp d 205 8 [l0, l1, some (.int x)] [] w 0 Q ↔ wp d 205 9 [l0, l1, some (.int x)] [.int x] w 0 Q) ∧
  (∀ (d : Nat) (l0 l1 l2 : Option Value) (s0 : Value)  (w : px_H) (Q : Option Value → px_H → Prop), wp d 205 9 [l0, l1, l2] [s0] w 0 Q ↔ wp d 205 10 [l0, l1, l2] [.int 0, s0] w 0 Q) ∧
  (∀ (d : Nat) (l0 l1 l2 : Option Value) (s0 s1 : Value)  (w : px_H) (Q : Option Value → px_H → Prop), wp d 205 10 [l0, l1, l2] [s0, s1] w 0 Q ↔ wp d 205 11 [l0, l1, l2] [.int 5, s0, s1] w 0 Q) ∧
  (∀ (d : Nat) (l0 l1 l2 : Option Value) (v0 v1 v2 : Value) (w : px_H) (Q : Option Value → px_H → Prop), wp (d + 1) 205 11 [l0, l1, l2] [v2, v1, v0] w 0 Q ↔ wc d 140 [v0, v1, v2] w (fun r w' => wp (d + 1) 205 14 [l0, l1, l2] (r.toList ++ []) w' 0 Q)) ∧
  (∀ (d : Nat) (l0 l1 l2 : Option Value) (x : Int32) (w : px_H) (Q : Option Value → px_H → Prop), wp d 205 14 [l0, l1, l2] [.int x] w 0 Q ↔ if x = 0 then wp d 205 17 [l0, l1, l2] [] w 0 Q else wp d 205 20 [l0, l1, l2] [] w 0 Q) ∧
  (∀ (d : Nat) (l0 l1 l2 : Option Value)  (w : px_H) (Q : Option Value → px_H → Prop), wp d 205 17 [l0, l1, l2] [] w 0 Q ↔ wp d 205 19 [l0, l1, l2] [.int (-1000001)] w 0 Q) ∧
  (∀ (d : Nat) (l0 l1 l2 : Option Value) (x : Int32) (w : px_H) (Q : Option Value → px_H → Prop), wp d 205 19 [l0, l1, l2] [.int x] w 0 Q ↔ Q (some (.int x)) w) ∧
  (∀ (d : Nat) (l1 l2 : Option Value) (a : Nat) (w : px_H) (Q : Option Value → px_H → Prop), wp d 205 20 [some (.ref a), l1, l2] [] w 0 Q ↔ wp d 205 21 [some (.ref a), l1, l2] [.ref a] w 0 Q) ∧
  (∀ (d : Nat) (l0 l2 : Option Value) (s0 : Value) (x : Int32) (w : px_H) (Q : Option Value → px_H → Prop), wp d 205 21 [l0, some (.int x), l2] [s0] w 0 Q ↔ wp d 205 22 [l0, some (.int x), l2] [.int x, s0] w 0 Q) ∧
  (∀ (d : Nat) (l0 l1 l2 : Option Value) (s0 s1 : Value)  (w : px_H) (Q : Option Value → px_H → Prop), wp d 205 22 [l0, l1, l2] [s0, s1] w 0 Q ↔ wp d 205 23 [l0, l1, l2] [.int 0, s0, s1] w 0 Q) ∧
  (∀ (d : Nat) (l0 l1 l2 : Option Value) (v0 v1 : Value) (b : Nat) (w : px_H) (Q : Option Value → px_H → Prop), wp (d + 1) 205 23 [l0, l1, l2] [v1, v0, .ref b] w 0 Q ↔ px_op (px_tgt w b [(11, 154)]) (fun v => wc d v [.ref b, v0, v1] w (fun r w' => wp (d + 1) 205 26 [l0, l1, l2] (r.toList ++ []) w' 0 Q))) ∧
  (∀ (d : Nat) (l0 l1 : Option Value) (s0 : Value) (x : Int32) (w : px_H) (Q : Option Value → px_H → Prop), wp d 205 26 [l0, l1, some (.int x)] [s0] w 0 Q ↔ wp d 205 27 [l0, l1, some (.int x)] [.int x, s0] w 0 Q) ∧
  (∀ (d : Nat) (l0 l1 l2 : Option Value) (v0 v1 : Value) (w : px_H) (Q : Option Value → px_H → Prop), wp (d + 1) 205 27 [l0, l1, l2] [v1, v0] w 0 Q ↔ wc d 204 [v0, v1] w (fun r w' => wp (d + 1) 205 30 [l0, l1, l2] (r.toList ++ []) w' 0 Q)) ∧
  (∀ (d : Nat) (l0 l1 l2 : Option Value) (x : Int32) (w : px_H) (Q : Option Value → px_H → Prop), wp d 205 30 [l0, l1, l2] [.int x] w 0 Q ↔ if x = 0 then wp d 205 41 [l0, l1, l2] [] w 0 Q else wp d 205 33 [l0, l1, l2] [] w 0 Q) ∧
  (∀ (d : Nat) (l1 l2 : Option Value) (a : Nat) (w : px_H) (Q : Option Value → px_H → Prop), wp d 205 33 [some (.ref a), l1, l2] [] w 0 Q ↔ wp d 205 34 [some (.ref a), l1, l2] [.ref a] w 0 Q) ∧
  (∀ (d : Nat) (l0 l2 : Option Value) (s0 : Value) (x : Int32) (w : px_H) (Q : Option Value → px_H → Prop), wp d 205 34 [l0, some (.int x), l2] [s0] w 0 Q ↔ wp d 205 35 [l0, some (.int x), l2] [.int x, s0] w 0 Q) ∧
  (∀ (d : Nat) (l0 l1 l2 : Option Value) (v0 : Value) (b : Nat) (w : px_H) (Q : Option Value → px_H → Prop), wp (d + 1) 205 35 [l0, l1, l2] [v0, .ref b] w 0 Q ↔ px_op (px_tgt w b [(11, 142)]) (fun v => wc d v [.ref b, v0] w (fun r w' => wp (d + 1) 205 38 [l0, l1, l2] (r.toList ++ []) w' 0 Q))) ∧
  (∀ (d : Nat) (l0 l1 l2 : Option Value) (s0 : Value)  (w : px_H) (Q : Option Value → px_H → Prop), wp d 205 38 [l0, l1, l2] [s0] w 0 Q ↔ wp d 205 46 [l0, l1, l2] [s0] w 0 Q) ∧
  (∀ (d : Nat) (l1 l2 : Option Value) (a : Nat) (w : px_H) (Q : Option Value → px_H → Prop), wp d 205 41 [some (.ref a), l1, l2] [] w 0 Q ↔ wp d 205 42 [some (.ref a), l1, l2] [.ref a] w 0 Q) ∧
  (∀ (d : Nat) (l0 l1 l2 : Option Value) (s0 : Value)  (w : px_H) (Q : Option Value → px_H → Prop), wp d 205 42 [l0, l1, l2] [s0] w 0 Q ↔ wp d 205 43 [l0, l1, l2] [.int 3, s0] w 0 Q) ∧
  (∀ (d : Nat) (l0 l1 l2 : Option Value) (v0 : Value) (b : Nat) (w : px_H) (Q : Option Value → px_H → Prop), wp (d + 1) 205 43 [l0, l1, l2] [v0, .ref b] w 0 Q ↔ px_op (px_tgt w b [(11, 141)]) (fun v => wc d v [.ref b, v0] w (fun r w' => wp (d + 1) 205 46 [l0, l1, l2] (r.toList ++ []) w' 0 Q))) ∧
  (∀ (d : Nat) (l0 l1 l2 : Option Value) (x : Int32) (w : px_H) (Q : Option Value → px_H → Prop), wp d 205 46 [l0, l1, l2] [.int x] w 0 Q ↔ Q (some (.int x)) w) := ⟨fun d v0 v1 v2 w Q => r_entry pt_205 (Nat.le_of_ble_eq_true rfl) rfl,
  fun d l1 l2 a w Q => px_go (q := (.aload_n 0, 1, px_x0)) (S' := (1, [some (.ref a), l1, l2], [.ref a], w, 0)) pt_205 rfl rfl,
  fun d l0 l2 s0 x w Q => px_go (q := (.iload_n 1, 1, px_x0)) (S' := (2, [l0, some (.int x), l2], [.int x, s0], w, 0)) pt_205 rfl rfl,
  fun d l0 l1 l2 v0 b w Q => r_callV (q := (.invokevirtual 152, 3, (33, 1, [(11, 152)], 0, ""))) pt_205 rfl rfl (List.forall_mem_cons.mpr ⟨⟨_, pt_152, Nat.le_of_ble_eq_true rfl, (Nat.le_of_ble_eq_true rfl), rfl⟩, fun _ h => absurd h List.not_mem_nil⟩),
  fun d l0 l1 l2 x w Q => r_if_eq pt_205 rfl rfl,
  fun d l0 l1 x w Q => px_go (q := (.iload_n 2, 1, px_x0)) (S' := (9, [l0, l1, some (.int x)], [.int x], w, 0)) pt_205 rfl rfl,
  fun d l0 l1 l2 s0 w Q => r_iconst pt_205 rfl (by decide),
  fun d l0 l1 l2 s0 s1 w Q => r_iconst pt_205 rfl (by decide),
  fun d l0 l1 l2 v0 v1 v2 w Q => r_call (q := (.invokestatic 50, 3, (30, 3, [(0, 140)], 0, ""))) pt_205 rfl rfl pt_140 (Nat.le_of_ble_eq_true rfl) (Nat.le_of_ble_eq_true rfl) rfl,
  fun d l0 l1 l2 x w Q => r_if_ne pt_205 rfl rfl,
  fun d l0 l1 l2 w Q => px_go (q := (.ldc 58, 2, (0, 0, [], (-1000001), ""))) (S' := (19, [l0, l1, l2], [.int (-1000001)], w, 0)) pt_205 rfl rfl,
  fun d l0 l1 l2 x w Q => px_ret (q := (.ireturn, 1, px_x0)) pt_205 rfl rfl,
  fun d l1 l2 a w Q => px_go (q := (.aload_n 0, 1, px_x0)) (S' := (21, [some (.ref a), l1, l2], [.ref a], w, 0)) pt_205 rfl rfl,
  fun d l0 l2 s0 x w Q => px_go (q := (.iload_n 1, 1, px_x0)) (S' := (22, [l0, some (.int x), l2], [.int x, s0], w, 0)) pt_205 rfl rfl,
  fun d l0 l1 l2 s0 s1 w Q => r_iconst pt_205 rfl (by decide),
  fun d l0 l1 l2 v0 v1 b w Q => r_callV (q := (.invokevirtual 136, 3, (33, 2, [(11, 154)], 0, ""))) pt_205 rfl rfl (List.forall_mem_cons.mpr ⟨⟨_, pt_154, Nat.le_of_ble_eq_true rfl, (Nat.le_of_ble_eq_true rfl), rfl⟩, fun _ h => absurd h List.not_mem_nil⟩),
  fun d l0 l1 s0 x w Q => px_go (q := (.iload_n 2, 1, px_x0)) (S' := (27, [l0, l1, some (.int x)], [.int x, s0], w, 0)) pt_205 rfl rfl,
  fun d l0 l1 l2 v0 v1 w Q => r_call (q := (.invokestatic 203, 3, (30, 2, [(0, 204)], 0, ""))) pt_205 rfl rfl pt_204 (Nat.le_of_ble_eq_true rfl) (Nat.le_of_ble_eq_true rfl) rfl,
  fun d l0 l1 l2 x w Q => r_if_eq pt_205 rfl rfl,
  fun d l1 l2 a w Q => px_go (q := (.aload_n 0, 1, px_x0)) (S' := (34, [some (.ref a), l1, l2], [.ref a], w, 0)) pt_205 rfl rfl,
  fun d l0 l2 s0 x w Q => px_go (q := (.iload_n 1, 1, px_x0)) (S' := (35, [l0, some (.int x), l2], [.int x, s0], w, 0)) pt_205 rfl rfl,
  fun d l0 l1 l2 v0 b w Q => r_callV (q := (.invokevirtual 63, 3, (33, 1, [(11, 142)], 0, ""))) pt_205 rfl rfl (List.forall_mem_cons.mpr ⟨⟨_, pt_142, Nat.le_of_ble_eq_true rfl, (Nat.le_of_ble_eq_true rfl), rfl⟩, fun _ h => absurd h List.not_mem_nil⟩),
  fun d l0 l1 l2 s0 w Q => r_goto pt_205 rfl rfl,
  fun d l1 l2 a w Q => px_go (q := (.aload_n 0, 1, px_x0)) (S' := (42, [some (.ref a), l1, l2], [.ref a], w, 0)) pt_205 rfl rfl,
  fun d l0 l1 l2 s0 w Q => r_iconst pt_205 rfl (by decide),
  fun d l0 l1 l2 v0 b w Q => r_callV (q := (.invokevirtual 59, 3, (33, 1, [(11, 141)], 0, ""))) pt_205 rfl rfl (List.forall_mem_cons.mpr ⟨⟨_, pt_141, Nat.le_of_ble_eq_true rfl, (Nat.le_of_ble_eq_true rfl), rfl⟩, fun _ h => absurd h List.not_mem_nil⟩),
  fun d l0 l1 l2 x w Q => px_ret (q := (.ireturn, 1, px_x0)) pt_205 rfl rfl⟩
/-- AllSwornModel.leaves(I)V -/
theorem S206 : (∀ (d : Nat) (v0 v1 : Value) (w : px_H) (Q : Option Value → px_H → Prop), wc d 206 [v0, v1] w Q ↔ wp d 206 0 [some v0, some v1] [] w 0 Q) ∧
  (∀ (d : Nat) (l1 : Option Value) (a : Nat) (w : px_H) (Q : Option Value → px_H → Prop), wp d 206 0 [some (.ref a), l1] [] w 0 Q ↔ wp d 206 1 [some (.ref a), l1] [.ref a] w 0 Q) ∧
  (∀ (d : Nat) (l0 l1 : Option Value) (a : Nat) (w : px_H) (Q : Option Value → px_H → Prop), wp d 206 1 [l0, l1] [.ref a] w 0 Q ↔ px_op (px_fld w a [(11, 0)] 22) (fun v => wp d 206 4 [l0, l1] [v] w 0 Q)) ∧
  (∀ (d : Nat) (l0 l1 : Option Value) (s0 : Value)  (w : px_H) (Q : Option Value → px_H → Prop), wp d 206 4 [l0, l1] [s0] w 0 Q ↔ wp d 206 6 [l0, l1] [.int 16, s0] w 0 Q) ∧
  (∀ (d : Nat) (l0 l1 : Option Value) (x y : Int32) (w : px_H) (Q : Option Value → px_H → Prop), wp d 206 6 [l0, l1] [.int y, .int x] w 0 Q ↔ if y ≤ x then wp d 206 29 [l0, l1] [] w 0 Q else wp d 206 9 [l0, l1] [] w 0 Q) ∧
  (∀ (d : Nat) (l1 : Option Value) (a : Nat) (w : px_H) (Q : Option Value → px_H → Prop), wp d 206 9 [some (.ref a), l1] [] w 0 Q ↔ wp d 206 10 [some (.ref a), l1] [.ref a] w 0 Q) ∧
  (∀ (d : Nat) (l0 l1 : Option Value) (a : Nat) (w : px_H) (Q : Option Value → px_H → Prop), wp d 206 10 [l0, l1] [.ref a] w 0 Q ↔ px_op (px_fld w a [(11, 0)] 21) (fun v => wp d 206 13 [l0, l1] [v] w 0 Q)) ∧
  (∀ (d : Nat) (l1 : Option Value) (s0 : Value) (a : Nat) (w : px_H) (Q : Option Value → px_H → Prop), wp d 206 13 [some (.ref a), l1] [s0] w 0 Q ↔ wp d 206 14 [some (.ref a), l1] [.ref a, s0] w 0 Q) ∧
  (∀ (d : Nat) (l0 l1 : Option Value) (s1 : Value) (a : Nat) (w : px_H) (Q : Option Value → px_H → Prop), wp d 206 14 [l0, l1] [.ref a, s1] w 0 Q ↔ px_op (px_fld w a [(11, 0)] 22) (fun v => wp d 206 17 [l0, l1] [v, s1] w 0 Q)) ∧
  (∀ (d : Nat) (l0 : Option Value) (s0 s1 : Value) (x : Int32) (w : px_H) (Q : Option Value → px_H → Prop), wp d 206 17 [l0, some (.int x)] [s0, s1] w 0 Q ↔ wp d 206 18 [l0, some (.int x)] [.int x, s0, s1] w 0 Q) ∧
  (∀ (d : Nat) (l0 l1 : Option Value) (x i : Int32) (a : Nat) (w : px_H) (Q : Option Value → px_H → Prop), wp d 206 18 [l0, l1] [.int x, .int i, .ref a] w 0 Q ↔ px_op (px_ast w a i x .int) (fun w' => wp d 206 19 [l0, l1] [] w' 0 Q)) ∧
  (∀ (d : Nat) (l1 : Option Value) (a : Nat) (w : px_H) (Q : Option Value → px_H → Prop), wp d 206 19 [some (.ref a), l1] [] w 0 Q ↔ wp d 206 20 [some (.ref a), l1] [.ref a] w 0 Q) ∧
  (∀ (d : Nat) (l0 l1 : Option Value) (s0 : Value)  (w : px_H) (Q : Option Value → px_H → Prop), wp d 206 20 [l0, l1] [s0] w 0 Q ↔ wp d 206 21 [l0, l1] [s0, s0] w 0 Q) ∧
  (∀ (d : Nat) (l0 l1 : Option Value) (s1 : Value) (a : Nat) (w : px_H) (Q : Option Value → px_H → Prop), wp d 206 21 [l0, l1] [.ref a, s1] w 0 Q ↔ px_op (px_fld w a [(11, 0)] 22) (fun v => wp d 206 24 [l0, l1] [v, s1] w 0 Q)) ∧
  (∀ (d : Nat) (l0 l1 : Option Value) (s0 s1 : Value)  (w : px_H) (Q : Option Value → px_H → Prop), wp d 206 24 [l0, l1] [s0, s1] w 0 Q ↔ wp d 206 25 [l0, l1] [.int 1, s0, s1] w 0 Q) ∧
  (∀ (d : Nat) (l0 l1 : Option Value) (s2 : Value) (x y : Int32) (w : px_H) (Q : Option Value → px_H → Prop), wp d 206 25 [l0, l1] [.int y, .int x, s2] w 0 Q ↔ wp d 206 26 [l0, l1] [.int (x + y), s2] w 0 Q) ∧
  (∀ (d : Nat) (l0 l1 : Option Value) (x : Int32) (a : Nat) (w : px_H) (Q : Option Value → px_H → Prop), wp d 206 26 [l0, l1] [.int x, .ref a] w 0 Q ↔ px_op (px_pfd w a [(11, 0)] 22 (.int x)) (fun w' => wp d 206 29 [l0, l1] [] w' 0 Q)) ∧
  (∀ (d : Nat) (l0 l1 : Option Value)  (w : px_H) (Q : Option Value → px_H → Prop), wp d 206 29 [l0, l1] [] w 0 Q ↔ Q none w) := ⟨fun d v0 v1 w Q => r_entry pt_206 (Nat.le_of_ble_eq_true rfl) rfl,
  fun d l1 a w Q => px_go (q := (.aload_n 0, 1, px_x0)) (S' := (1, [some (.ref a), l1], [.ref a], w, 0)) pt_206 rfl rfl,
  fun d l0 l1 a w Q => px_goO (q := (.getfield 206, 3, (10, 22, [(11, 0)], 0, "AllSwornModel"))) (S' := fun v => (4, [l0, l1], [v], w, 0)) pt_206 rfl rfl,
  fun d l0 l1 s0 w Q => r_bipush pt_206 rfl (by decide),
  fun d l0 l1 x y w Q => r_icmp_ge pt_206 rfl rfl,
  fun d l1 a w Q => px_go (q := (.aload_n 0, 1, px_x0)) (S' := (10, [some (.ref a), l1], [.ref a], w, 0)) pt_206 rfl rfl,
  fun d l0 l1 a w Q => px_goO (q := (.getfield 39, 3, (10, 21, [(11, 0)], 0, "AllSwornModel"))) (S' := fun v => (13, [l0, l1], [v], w, 0)) pt_206 rfl rfl,
  fun d l1 s0 a w Q => px_go (q := (.aload_n 0, 1, px_x0)) (S' := (14, [some (.ref a), l1], [.ref a, s0], w, 0)) pt_206 rfl rfl,
  fun d l0 l1 s1 a w Q => px_goO (q := (.getfield 206, 3, (10, 22, [(11, 0)], 0, "AllSwornModel"))) (S' := fun v => (17, [l0, l1], [v, s1], w, 0)) pt_206 rfl rfl,
  fun d l0 s0 s1 x w Q => px_go (q := (.iload_n 1, 1, px_x0)) (S' := (18, [l0, some (.int x)], [.int x, s0, s1], w, 0)) pt_206 rfl rfl,
  fun d l0 l1 x i a w Q => px_goO (q := (.iastore, 1, px_x0)) (S' := fun w' => (19, [l0, l1], [], w', 0)) pt_206 rfl rfl,
  fun d l1 a w Q => px_go (q := (.aload_n 0, 1, px_x0)) (S' := (20, [some (.ref a), l1], [.ref a], w, 0)) pt_206 rfl rfl,
  fun d l0 l1 s0 w Q => px_go (q := (.dup, 1, px_x0)) (S' := (21, [l0, l1], [s0, s0], w, 0)) pt_206 rfl rfl,
  fun d l0 l1 s1 a w Q => px_goO (q := (.getfield 206, 3, (10, 22, [(11, 0)], 0, "AllSwornModel"))) (S' := fun v => (24, [l0, l1], [v, s1], w, 0)) pt_206 rfl rfl,
  fun d l0 l1 s0 s1 w Q => r_iconst pt_206 rfl (by decide),
  fun d l0 l1 s2 x y w Q => px_go (q := (.iadd, 1, px_x0)) (S' := (26, [l0, l1], [.int (x + y), s2], w, 0)) pt_206 rfl rfl,
  fun d l0 l1 x a w Q => r_put pt_206 rfl (by simp only [List.all_cons, List.all_nil, ft_11_22, px_fit, px_isr, Bool.and_self]),
  fun d l0 l1 w Q => px_ret (q := (.return_, 1, px_x0)) pt_206 rfl rfl⟩
/-- AllSwornModel.size10(I)I -/
theorem S207 : (∀ (d : Nat) (v0 v1 : Value) (w : px_H) (Q : Option Value → px_H → Prop), wc d 207 [v0, v1] w Q ↔ wp d 207 0 [some v0, some v1] [] w 0 Q) ∧
  (∀ (d : Nat) (l1 : Option Value) (a : Nat) (w : px_H) (Q : Option Value → px_H → Prop), wp d 207 0 [some (.ref a), l1] [] w 0 Q ↔ wp d 207 1 [some (.ref a), l1] [.ref a] w 0 Q) ∧
  (∀ (d : Nat) (l0 l1 : Option Value) (s0 : Value)  (w : px_H) (Q : Option Value → px_H → Prop), wp d 207 1 [l0, l1] [s0] w 0 Q ↔ wp d 207 3 [l0, l1] [.int 10, s0] w 0 Q) ∧
  (∀ (d : Nat) (l0 l1 : Option Value) (v0 : Value) (b : Nat) (w : px_H) (Q : Option Value → px_H → Prop), wp (d + 1) 207 3 [l0, l1] [v0, .ref b] w 0 Q ↔ px_op (px_tgt w b [(11, 206)]) (fun v => wc d v [.ref b, v0] w (fun r w' => wp (d + 1) 207 6 [l0, l1] (r.toList ++ []) w' 0 Q))) ∧
  (∀ (d : Nat) (l1 : Option Value) (a : Nat) (w : px_H) (Q : Option Value → px_H → Prop), wp d 207 6 [some (.ref a), l1] [] w 0 Q ↔ wp d 207 7 [some (.ref a), l1] [.ref a] w 0 Q) ∧
  (∀ (d : Nat) (l0 : Option Value) (s0 : Value) (x : Int32) (w : px_H) (Q : Option Value → px_H → Prop), wp d 207 7 [l0, some (.int x)] [s0] w 0 Q ↔ wp d 207 8 [l0, some (.int x)] [.int x, s0] w 0 Q) ∧
  (∀ (d : Nat) (l0 l1 : Option Value) (s0 s1 : Value)  (w : px_H) (Q : Option Value → px_H → Prop), wp d 207 8 [l0, l1] [s0, s1] w 0 Q ↔ wp d 207 9 [l0, l1] [.int 2, s0, s1] w 0 Q) ∧
  (∀ (d : Nat) (l0 l1 : Option Value) (v0 v1 : Value) (b : Nat) (w : px_H) (Q : Option Value → px_H → Prop), wp (d + 1) 207 9 [l0, l1] [v1, v0, .ref b] w 0 Q ↔ px_op (px_tgt w b [(11, 154)]) (fun v => wc d v [.ref b, v0, v1] w (fun r w' => wp (d + 1) 207 12 [l0, l1] (r.toList ++ []) w' 0 Q))) ∧
  (∀ (d : Nat) (l0 l1 : Option Value) (x : Int32) (w : px_H) (Q : Option Value → px_H → Prop), wp d 207 12 [l0, l1] [.int x] w 0 Q ↔ Q (some (.int x)) w) := ⟨fun d v0 v1 w Q => r_entry pt_207 (Nat.le_of_ble_eq_true rfl) rfl,
  fun d l1 a w Q => px_go (q := (.aload_n 0, 1, px_x0)) (S' := (1, [some (.ref a), l1], [.ref a], w, 0)) pt_207 rfl rfl,
  fun d l0 l1 s0 w Q => r_bipush pt_207 rfl (by decide),
  fun d l0 l1 v0 b w Q => r_callV (q := (.invokevirtual 209, 3, (33, 1, [(11, 206)], 0, ""))) pt_207 rfl rfl (List.forall_mem_cons.mpr ⟨⟨_, pt_206, Nat.le_of_ble_eq_true rfl, (Nat.le_of_ble_eq_true rfl), rfl⟩, fun _ h => absurd h List.not_mem_nil⟩),
  fun d l1 a w Q => px_go (q := (.aload_n 0, 1, px_x0)) (S' := (7, [some (.ref a), l1], [.ref a], w, 0)) pt_207 rfl rfl,
  fun d l0 s0 x w Q => px_go (q := (.iload_n 1, 1, px_x0)) (S' := (8, [l0, some (.int x)], [.int x, s0], w, 0)) pt_207 rfl rfl,
  fun d l0 l1 s0 s1 w Q => r_iconst pt_207 rfl (by decide),
  fun d l0 l1 v0 v1 b w Q => r_callV (q := (.invokevirtual 136, 3, (33, 2, [(11, 154)], 0, ""))) pt_207 rfl rfl (List.forall_mem_cons.mpr ⟨⟨_, pt_154, Nat.le_of_ble_eq_true rfl, (Nat.le_of_ble_eq_true rfl), rfl⟩, fun _ h => absurd h List.not_mem_nil⟩),
  fun d l0 l1 x w Q => px_ret (q := (.ireturn, 1, px_x0)) pt_207 rfl rfl⟩
/-- AllSwornModel.mark20(I)I -/
theorem S208 : (∀ (d : Nat) (v0 v1 : Value) (w : px_H) (Q : Option Value → px_H → Prop), wc d 208 [v0, v1] w Q ↔ wp d 208 0 [some v0, some v1] [] w 0 Q) ∧
  (∀ (d : Nat) (l1 : Option Value) (a : Nat) (w : px_H) (Q : Option Value → px_H → Prop), wp d 208 0 [some (.ref a), l1] [] w 0 Q ↔ wp d 208 1 [some (.ref a), l1] [.ref a] w 0 Q) ∧
  (∀ (d : Nat) (l0 l1 : Option Value) (s0 : Value)  (w : px_H) (Q : Option Value → px_H → Prop), wp d 208 1 [l0, l1] [s0] w 0 Q ↔ wp d 208 3 [l0, l1] [.int 20, s0] w 0 Q) ∧
  (∀ (d : Nat) (l0 l1 : Option Value) (v0 : Value) (b : Nat) (w : px_H) (Q : Option Value → px_H → Prop), wp (d + 1) 208 3 [l0, l1] [v0, .ref b] w 0 Q ↔ px_op (px_tgt w b [(11, 206)]) (fun v => wc d v [.ref b, v0] w (fun r w' => wp (d + 1) 208 6 [l0, l1] (r.toList ++ []) w' 0 Q))) ∧
  (∀ (d : Nat) (l0 : Option Value) (x : Int32) (w : px_H) (Q : Option Value → px_H → Prop), wp d 208 6 [l0, some (.int x)] [] w 0 Q ↔ wp d 208 7 [l0, some (.int x)] [.int x] w 0 Q) ∧
  (∀ (d : Nat) (l0 l1 : Option Value) (x : Int32) (w : px_H) (Q : Option Value → px_H → Prop), wp d 208 7 [l0, l1] [.int x] w 0 Q ↔ Q (some (.int x)) w) := ⟨fun d v0 v1 w Q => r_entry pt_208 (Nat.le_of_ble_eq_true rfl) rfl,
  fun d l1 a w Q => px_go (q := (.aload_n 0, 1, px_x0)) (S' := (1, [some (.ref a), l1], [.ref a], w, 0)) pt_208 rfl rfl,
  fun d l0 l1 s0 w Q => r_bipush pt_208 rfl (by decide),
  fun d l0 l1 v0 b w Q => r_callV (q := (.invokevirtual 209, 3, (33, 1, [(11, 206)], 0, ""))) pt_208 rfl rfl (List.forall_mem_cons.mpr ⟨⟨_, pt_206, Nat.le_of_ble_eq_true rfl, (Nat.le_of_ble_eq_true rfl), rfl⟩, fun _ h => absurd h List.not_mem_nil⟩),
  fun d l0 x w Q => px_go (q := (.iload_n 1, 1, px_x0)) (S' := (7, [l0, some (.int x)], [.int x], w, 0)) pt_208 rfl rfl,
  fun d l0 l1 x w Q => px_ret (q := (.ireturn, 1, px_x0)) pt_208 rfl rfl⟩
/-- AllSwornModel.mark21(I)I -/
theorem S209 : (∀ (d : Nat) (v0 v1 : Value) (w : px_H) (Q : Option Value → px_H → Prop), wc d 209 [v0, v1] w Q ↔ wp d 209 0 [some v0, some v1] [] w 0 Q) ∧
  (∀ (d : Nat) (l1 : Option Value) (a : Nat) (w : px_H) (Q : Option Value → px_H → Prop), wp d 209 0 [some (.ref a), l1] [] w 0 Q ↔ wp d 209 1 [some (.ref a), l1] [.ref a] w 0 Q) ∧
  (∀ (d : Nat) (l0 l1 : Option Value) (s0 : Value)  (w : px_H) (Q : Option Value → px_H → Prop), wp d 209 1 [l0, l1] [s0] w 0 Q ↔ wp d 209 3 [l0, l1] [.int 21, s0] w 0 Q) ∧
  (∀ (d : Nat) (l0 l1 : Option Value) (v0 : Value) (b : Nat) (w : px_H) (Q : Option Value → px_H → Prop), wp (d + 1) 209 3 [l0, l1] [v0, .ref b] w 0 Q ↔ px_op (px_tgt w b [(11, 206)]) (fun v => wc d v [.ref b, v0] w (fun r w' => wp (d + 1) 209 6 [l0, l1] (r.toList ++ []) w' 0 Q))) ∧
  (∀ (d : Nat) (l1 : Option Value) (a : Nat) (w : px_H) (Q : Option Value → px_H → Prop), wp d 209 6 [some (.ref a), l1] [] w 0 Q ↔ wp d 209 7 [some (.ref a), l1] [.ref a] w 0 Q) ∧
  (∀ (d : Nat) (l0 : Option Value) (s0 : Value) (x : Int32) (w : px_H) (Q : Option Value → px_H → Prop), wp d 209 7 [l0, some (.int x)] [s0] w 0 Q ↔ wp d 209 8 [l0, some (.int x)] [.int x, s0] w 0 Q) ∧
  (∀ (d : Nat) (l0 l1 : Option Value) (v0 : Value) (b : Nat) (w : px_H) (Q : Option Value → px_H → Prop), wp (d + 1) 209 8 [l0, l1] [v0, .ref b] w 0 Q ↔ px_op (px_tgt w b [(11, 208)]) (fun v => wc d v [.ref b, v0] w (fun r w' => wp (d + 1) 209 11 [l0, l1] (r.toList ++ []) w' 0 Q))) ∧
  (∀ (d : Nat) (l1 : Option Value) (s0 : Value) (a : Nat) (w : px_H) (Q : Option Value → px_H → Prop), wp d 209 11 [some (.ref a), l1] [s0] w 0 Q ↔ wp d 209 12 [some (.ref a), l1] [.ref a, s0] w 0 Q) ∧
  (∀ (d : Nat) (l0 : Option Value) (s0 s1 : Value) (x : Int32) (w : px_H) (Q : Option Value → px_H → Prop), wp d 209 12 [l0, some (.int x)] [s0, s1] w 0 Q ↔ wp d 209 13 [l0, some (.int x)] [.int x, s0, s1] w 0 Q) ∧
  (∀ (d : Nat) (l0 l1 : Option Value) (s2 : Value) (v0 : Value) (b : Nat) (w : px_H) (Q : Option Value → px_H → Prop), wp (d + 1) 209 13 [l0, l1] [v0, .ref b, s2] w 0 Q ↔ px_op (px_tgt w b [(11, 203)]) (fun v => wc d v [.ref b, v0] w (fun r w' => wp (d + 1) 209 16 [l0, l1] (r.toList ++ [s2]) w' 0 Q))) ∧
  (∀ (d : Nat) (l0 l1 : Option Value) (x y : Int32) (w : px_H) (Q : Option Value → px_H → Prop), wp d 209 16 [l0, l1] [.int y, .int x] w 0 Q ↔ wp d 209 17 [l0, l1] [.int (x + y)] w 0 Q) ∧
  (∀ (d : Nat) (l0 l1 : Option Value) (x : Int32) (w : px_H) (Q : Option Value → px_H → Prop), wp d 209 17 [l0, l1] [.int x] w 0 Q ↔ Q (some (.int x)) w) := ⟨fun d v0 v1 w Q => r_entry pt_209 (Nat.le_of_ble_eq_true rfl) rfl,
  fun d l1 a w Q => px_go (q := (.aload_n 0, 1, px_x0)) (S' := (1, [some (.ref a), l1], [.ref a], w, 0)) pt_209 rfl rfl,
  fun d l0 l1 s0 w Q => r_bipush pt_209 rfl (by decide),
  fun d l0 l1 v0 b w Q => r_callV (q := (.invokevirtual 209, 3, (33, 1, [(11, 206)], 0, ""))) pt_209 rfl rfl (List.forall_mem_cons.mpr ⟨⟨_, pt_206, Nat.le_of_ble_eq_true rfl, (Nat.le_of_ble_eq_true rfl), rfl⟩, fun _ h => absurd h List.not_mem_nil⟩),
  fun d l1 a w Q => px_go (q := (.aload_n 0, 1, px_x0)) (S' := (7, [some (.ref a), l1], [.ref a], w, 0)) pt_209 rfl rfl,
  fun d l0 s0 x w Q => px_go (q := (.iload_n 1, 1, px_x0)) (S' := (8, [l0, some (.int x)], [.int x, s0], w, 0)) pt_209 rfl rfl,
  fun d l0 l1 v0 b w Q => r_callV (q := (.invokevirtual 212, 3, (33, 1, [(11, 208)], 0, ""))) pt_209 rfl rfl (List.forall_mem_cons.mpr ⟨⟨_, pt_208, Nat.le_of_ble_eq_true rfl, (Nat.le_of_ble_eq_true rfl), rfl⟩, fun _ h => absurd h List.not_mem_nil⟩),
  fun d l1 s0 a w Q => px_go (q := (.aload_n 0, 1, px_x0)) (S' := (12, [some (.ref a), l1], [.ref a, s0], w, 0)) pt_209 rfl rfl,
  fun d l0 s0 s1 x w Q => px_go (q := (.iload_n 1, 1, px_x0)) (S' := (13, [l0, some (.int x)], [.int x, s0, s1], w, 0)) pt_209 rfl rfl,
  fun d l0 l1 s2 v0 b w Q => r_callV (q := (.invokevirtual 215, 3, (33, 1, [(11, 203)], 0, ""))) pt_209 rfl rfl (List.forall_mem_cons.mpr ⟨⟨_, pt_203, Nat.le_of_ble_eq_true rfl, (Nat.le_of_ble_eq_true rfl), rfl⟩, fun _ h => absurd h List.not_mem_nil⟩),
  fun d l0 l1 x y w Q => px_go (q := (.iadd, 1, px_x0)) (S' := (17, [l0, l1], [.int (x + y)], w, 0)) pt_209 rfl rfl,
  fun d l0 l1 x w Q => px_ret (q := (.ireturn, 1, px_x0)) pt_209 rfl rfl⟩
/-- AllSwornModel.size13(I)I -/
theorem S210 : (∀ (d : Nat) (v0 v1 : Value) (w : px_H) (Q : Option Value → px_H → Prop), wc d 210 [v0, v1] w Q ↔ wp d 210 0 [some v0, some v1] [] w 0 Q) ∧
  (∀ (d : Nat) (l1 : Option Value) (a : Nat) (w : px_H) (Q : Option Value → px_H → Prop), wp d 210 0 [some (.ref a), l1] [] w 0 Q ↔ wp d 210 1 [some (.ref a), l1] [.ref a] w 0 Q) ∧
  (∀ (d : Nat) (l0 l1 : Option Value) (s0 : Value)  (w : px_H) (Q : Option Value → px_H → Prop), wp d 210 1 [l0, l1] [s0] w 0 Q ↔ wp d 210 3 [l0, l1] [.int 13, s0] w 0 Q) ∧
  (∀ (d : Nat) (l0 l1 : Option Value) (v0 : Value) (b : Nat) (w : px_H) (Q : Option Value → px_H → Prop), wp (d + 1) 210 3 [l0, l1] [v0, .ref b] w 0 Q ↔ px_op (px_tgt w b [(11, 206)]) (fun v => wc d v [.ref b, v0] w (fun r w' => wp (d + 1) 210 6 [l0, l1] (r.toList ++ []) w' 0 Q))) ∧
  (∀ (d : Nat) (l1 : Option Value) (a : Nat) (w : px_H) (Q : Option Value → px_H → Prop), wp d 210 6 [some (.ref a), l1] [] w 0 Q ↔ wp d 210 7 [some (.ref a), l1] [.ref a] w 0 Q) ∧
  (∀ (d : Nat) (l0 : Option Value) (s0 : Value) (x : Int32) (w : px_H) (Q : Option Value → px_H → Prop), wp d 210 7 [l0, some (.int x)] [s0] w 0 Q ↔ wp d 210 8 [l0, some (.int x)] [.int x, s0] w 0 Q) ∧
  (∀ (d : Nat) (l0 l1 : Option Value) (v0 : Value) (b : Nat) (w : px_H) (Q : Option Value → px_H → Prop), wp (d + 1) 210 8 [l0, l1] [v0, .ref b] w 0 Q ↔ px_op (px_tgt w b [(11, 207)]) (fun v => wc d v [.ref b, v0] w (fun r w' => wp (d + 1) 210 11 [l0, l1] (r.toList ++ []) w' 0 Q))) ∧
  (∀ (d : Nat) (l0 l1 : Option Value) (s0 : Value)  (w : px_H) (Q : Option Value → px_H → Prop), wp d 210 11 [l0, l1] [s0] w 0 Q ↔ wp d 210 13 [l0, l1] [.int 100, s0] w 0 Q) ∧
  (∀ (d : Nat) (l0 l1 : Option Value) (x y : Int32) (w : px_H) (Q : Option Value → px_H → Prop), wp d 210 13 [l0, l1] [.int y, .int x] w 0 Q ↔ wp d 210 14 [l0, l1] [.int (x - y)] w 0 Q) ∧
  (∀ (d : Nat) (l0 l1 : Option Value) (x : Int32) (w : px_H) (Q : Option Value → px_H → Prop), wp d 210 14 [l0, l1] [.int x] w 0 Q ↔ Q (some (.int x)) w) := ⟨fun d v0 v1 w Q => r_entry pt_210 (Nat.le_of_ble_eq_true rfl) rfl,
  fun d l1 a w Q => px_go (q := (.aload_n 0, 1, px_x0)) (S' := (1, [some (.ref a), l1], [.ref a], w, 0)) pt_210 rfl rfl,
  fun d l0 l1 s0 w Q => r_bipush pt_210 rfl (by decide),
  fun d l0 l1 v0 b w Q => r_callV (q := (.invokevirtual 209, 3, (33, 1, [(11, 206)], 0, ""))) pt_210 rfl rfl (List.forall_mem_cons.mpr ⟨⟨_, pt_206, Nat.le_of_ble_eq_true rfl, (Nat.le_of_ble_eq_true rfl), rfl⟩, fun _ h => absurd h List.not_mem_nil⟩),
  fun d l1 a w Q => px_go (q := (.aload_n 0, 1, px_x0)) (S' := (7, [some (.ref a), l1], [.ref a], w, 0)) pt_210 rfl rfl,
  fun d l0 s0 x w Q => px_go (q := (.iload_n 1, 1, px_x0)) (S' := (8, [l0, some (.int x)], [.int x, s0], w, 0)) pt_210 rfl rfl,
  fun d l0 l1 v0 b w Q => r_callV (q := (.invokevirtual 218, 3, (33, 1, [(11, 207)], 0, ""))) pt_210 rfl rfl (List.forall_mem_cons.mpr ⟨⟨_, pt_207, Nat.le_of_ble_eq_true rfl, (Nat.le_of_ble_eq_true rfl), rfl⟩, fun _ h => absurd h List.not_mem_nil⟩),
  fun d l0 l1 s0 w Q => r_bipush pt_210 rfl (by decide),
  fun d l0 l1 x y w Q => px_go (q := (.isub, 1, px_x0)) (S' := (14, [l0, l1], [.int (x - y)], w, 0)) pt_210 rfl rfl,
  fun d l0 l1 x w Q => px_ret (q := (.ireturn, 1, px_x0)) pt_210 rfl rfl⟩
/-- AllSwornModel.size14(I)I -/
theorem S211 : (∀ (d : Nat) (v0 v1 : Value) (w : px_H) (Q : Option Value → px_H → Prop), wc d 211 [v0, v1] w Q ↔ wp d 211 0 [some v0, some v1] [] w 0 Q) ∧
  (∀ (d : Nat) (l1 : Option Value) (a : Nat) (w : px_H) (Q : Option Value → px_H → Prop), wp d 211 0 [some (.ref a), l1] [] w 0 Q ↔ wp d 211 1 [some (.ref a), l1] [.ref a] w 0 Q) ∧
  (∀ (d : Nat) (l0 l1 : Option Value) (s0 : Value)  (w : px_H) (Q : Option Value → px_H → Prop), wp d 211 1 [l0, l1] [s0] w 0 Q ↔ wp d 211 3 [l0, l1] [.int 14, s0] w 0 Q) ∧
  (∀ (d : Nat) (l0 l1 : Option Value) (v0 : Value) (b : Nat) (w : px_H) (Q : Option Value → px_H → Prop), wp (d + 1) 211 3 [l0, l1] [v0, .ref b] w 0 Q ↔ px_op (px_tgt w b [(11, 206)]) (fun v => wc d v [.ref b, v0] w (fun r w' => wp (d + 1) 211 6 [l0, l1] (r.toList ++ []) w' 0 Q))) ∧
  (∀ (d : Nat) (l0 l1 : Option Value)  (w : px_H) (Q : Option Value → px_H → Prop), wp d 211 6 [l0, l1] [] w 0 Q ↔ wp d 211 7 [l0, l1] [.int 2] w 0 Q) ∧
  (∀ (d : Nat) (l1 : Option Value) (s0 : Value) (a : Nat) (w : px_H) (Q : Option Value → px_H → Prop), wp d 211 7 [some (.ref a), l1] [s0] w 0 Q ↔ wp d 211 8 [some (.ref a), l1] [.ref a, s0] w 0 Q) ∧
  (∀ (d : Nat) (l0 : Option Value) (s0 s1 : Value) (x : Int32) (w : px_H) (Q : Option Value → px_H → Prop), wp d 211 8 [l0, some (.int x)] [s0, s1] w 0 Q ↔ wp d 211 9 [l0, some (.int x)] [.int x, s0, s1] w 0 Q) ∧
  (∀ (d : Nat) (l0 l1 : Option Value) (s2 : Value) (v0 : Value) (b : Nat) (w : px_H) (Q : Option Value → px_H → Prop), wp (d + 1) 211 9 [l0, l1] [v0, .ref b, s2] w 0 Q ↔ px_op (px_tgt w b [(11, 210)]) (fun v => wc d v [.ref b, v0] w (fun r w' => wp (d + 1) 211 12 [l0, l1] (r.toList ++ [s2]) w' 0 Q))) ∧
  (∀ (d : Nat) (l0 l1 : Option Value) (x y : Int32) (w : px_H) (Q : Option Value → px_H → Prop), wp d 211 12 [l0, l1] [.int y, .int x] w 0 Q ↔ wp d 211 13 [l0, l1] [.int (x * y)] w 0 Q) ∧
  (∀ (d : Nat) (l0 l1 : Option Value) (x : Int32) (w : px_H) (Q : Option Value → px_H → Prop), wp d 211 13 [l0, l1] [.int x] w 0 Q ↔ Q (some (.int x)) w) := ⟨fun d v0 v1 w Q => r_entry pt_211 (Nat.le_of_ble_eq_true rfl) rfl,
  fun d l1 a w Q => px_go (q := (.aload_n 0, 1, px_x0)) (S' := (1, [some (.ref a), l1], [.ref a], w, 0)) pt_211 rfl rfl,
  fun d l0 l1 s0 w Q => r_bipush pt_211 rfl (by decide),
  fun d l0 l1 v0 b w Q => r_callV (q := (.invokevirtual 209, 3, (33, 1, [(11, 206)], 0, ""))) pt_211 rfl rfl (List.forall_mem_cons.mpr ⟨⟨_, pt_206, Nat.le_of_ble_eq_true rfl, (Nat.le_of_ble_eq_true rfl), rfl⟩, fun _ h => absurd h List.not_mem_nil⟩),
  fun d l0 l1 w Q => r_iconst pt_211 rfl (by decide),
  fun d l1 s0 a w Q => px_go (q := (.aload_n 0, 1, px_x0)) (S' := (8, [some (.ref a), l1], [.ref a, s0], w, 0)) pt_211 rfl rfl,
  fun d l0 s0 s1 x w Q => px_go (q := (.iload_n 1, 1, px_x0)) (S' := (9, [l0, some (.int x)], [.int x, s0, s1], w, 0)) pt_211 rfl rfl,
  fun d l0 l1 s2 v0 b w Q => r_callV (q := (.invokevirtual 221, 3, (33, 1, [(11, 210)], 0, ""))) pt_211 rfl rfl (List.forall_mem_cons.mpr ⟨⟨_, pt_210, Nat.le_of_ble_eq_true rfl, (Nat.le_of_ble_eq_true rfl), rfl⟩, fun _ h => absurd h List.not_mem_nil⟩),
  fun d l0 l1 x y w Q => px_go (q := (.imul, 1, px_x0)) (S' := (13, [l0, l1], [.int (x * y)], w, 0)) pt_211 rfl rfl,
  fun d l0 l1 x w Q => px_ret (q := (.ireturn, 1, px_x0)) pt_211 rfl rfl⟩
/-- AllSwornModel.mark22(I)I -/
theorem S212 : (∀ (d : Nat) (v0 v1 : Value) (w : px_H) (Q : Option Value → px_H → Prop), wc d 212 [v0, v1] w Q ↔ wp d 212 0 [some v0, some v1] [] w 0 Q) ∧
  (∀ (d : Nat) (l1 : Option Value) (a : Nat) (w : px_H) (Q : Option Value → px_H → Prop), wp d 212 0 [some (.ref a), l1] [] w 0 Q ↔ wp d 212 1 [some (.ref a), l1] [.ref a] w 0 Q) ∧
  (∀ (d : Nat) (l0 l1 : Option Value) (s0 : Value)  (w : px_H) (Q : Option Value → px_H → Prop), wp d 212 1 [l0, l1] [s0] w 0 Q ↔ wp d 212 3 [l0, l1] [.int 22, s0] w 0 Q) ∧
  (∀ (d : Nat) (l0 l1 : Option Value) (v0 : Value) (b : Nat) (w : px_H) (Q : Option Value → px_H → Prop), wp (d + 1) 212 3 [l0, l1] [v0, .ref b] w 0 Q ↔ px_op (px_tgt w b [(11, 206)]) (fun v => wc d v [.ref b, v0] w (fun r w' => wp (d + 1) 212 6 [l0, l1] (r.toList ++ []) w' 0 Q))) ∧
  (∀ (d : Nat) (l1 : Option Value) (a : Nat) (w : px_H) (Q : Option Value → px_H → Prop), wp d 212 6 [some (.ref a), l1] [] w 0 Q ↔ wp d 212 7 [some (.ref a), l1] [.ref a] w 0 Q) ∧
  (∀ (d : Nat) (l0 : Option Value) (s0 : Value) (x : Int32) (w : px_H) (Q : Option Value → px_H → Prop), wp d 212 7 [l0, some (.int x)] [s0] w 0 Q ↔ wp d 212 8 [l0, some (.int x)] [.int x, s0] w 0 Q) ∧
  (∀ (d : Nat) (l0 l1 : Option Value) (v0 : Value) (b : Nat) (w : px_H) (Q : Option Value → px_H → Prop), wp (d + 1) 212 8 [l0, l1] [v0, .ref b] w 0 Q ↔ px_op (px_tgt w b [(11, 209)]) (fun v => wc d v [.ref b, v0] w (fun r w' => wp (d + 1) 212 11 [l0, l1] (r.toList ++ []) w' 0 Q))) ∧
  (∀ (d : Nat) (l0 l1 : Option Value) (s0 : Value)  (w : px_H) (Q : Option Value → px_H → Prop), wp d 212 11 [l0, l1] [s0] w 0 Q ↔ wp d 212 14 [l0, l1] [.int 1000, s0] w 0 Q) ∧
  (∀ (d : Nat) (l0 l1 : Option Value) (x y : Int32) (w : px_H) (Q : Option Value → px_H → Prop), wp d 212 14 [l0, l1] [.int y, .int x] w 0 Q ↔ wp d 212 15 [l0, l1] [.int (x - y)] w 0 Q) ∧
  (∀ (d : Nat) (l0 l1 : Option Value) (x : Int32) (w : px_H) (Q : Option Value → px_H → Prop), wp d 212 15 [l0, l1] [.int x] w 0 Q ↔ Q (some (.int x)) w) := ⟨fun d v0 v1 w Q => r_entry pt_212 (Nat.le_of_ble_eq_true rfl) rfl,
  fun d l1 a w Q => px_go (q := (.aload_n 0, 1, px_x0)) (S' := (1, [some (.ref a), l1], [.ref a], w, 0)) pt_212 rfl rfl,
  fun d l0 l1 s0 w Q => r_bipush pt_212 rfl (by decide),
  fun d l0 l1 v0 b w Q => r_callV (q := (.invokevirtual 209, 3, (33, 1, [(11, 206)], 0, ""))) pt_212 rfl rfl (List.forall_mem_cons.mpr ⟨⟨_, pt_206, Nat.le_of_ble_eq_true rfl, (Nat.le_of_ble_eq_true rfl), rfl⟩, fun _ h => absurd h List.not_mem_nil⟩),
  fun d l1 a w Q => px_go (q := (.aload_n 0, 1, px_x0)) (S' := (7, [some (.ref a), l1], [.ref a], w, 0)) pt_212 rfl rfl,
  fun d l0 s0 x w Q => px_go (q := (.iload_n 1, 1, px_x0)) (S' := (8, [l0, some (.int x)], [.int x, s0], w, 0)) pt_212 rfl rfl,
  fun d l0 l1 v0 b w Q => r_callV (q := (.invokevirtual 224, 3, (33, 1, [(11, 209)], 0, ""))) pt_212 rfl rfl (List.forall_mem_cons.mpr ⟨⟨_, pt_209, Nat.le_of_ble_eq_true rfl, (Nat.le_of_ble_eq_true rfl), rfl⟩, fun _ h => absurd h List.not_mem_nil⟩),
  fun d l0 l1 s0 w Q => r_sipush pt_212 rfl (by decide),
  fun d l0 l1 x y w Q => px_go (q := (.isub, 1, px_x0)) (S' := (15, [l0, l1], [.int (x - y)], w, 0)) pt_212 rfl rfl,
  fun d l0 l1 x w Q => px_ret (q := (.ireturn, 1, px_x0)) pt_212 rfl rfl⟩
/-- AllSwornModel.mark24(I)I -/
theorem S213 : (∀ (d : Nat) (v0 v1 : Value) (w : px_H) (Q : Option Value → px_H → Prop), wc d 213 [v0, v1] w Q ↔ wp d 213 0 [some v0, some v1] [] w 0 Q) ∧
  (∀ (d : Nat) (l1 : Option Value) (a : Nat) (w : px_H) (Q : Option Value → px_H → Prop), wp d 213 0 [some (.ref a), l1] [] w 0 Q ↔ wp d 213 1 [some (.ref a), l1] [.ref a] w 0 Q) ∧
  (∀ (d : Nat) (l0 l1 : Option Value) (s0 : Value)  (w : px_H) (Q : Option Value → px_H → Prop), wp d 213 1 [l0, l1] [s0] w 0 Q ↔ wp d 213 3 [l0, l1] [.int 24, s0] w 0 Q) ∧
  (∀ (d : Nat) (l0 l1 : Option Value) (v0 : Value) (b : Nat) (w : px_H) (Q : Option Value → px_H → Prop), wp (d + 1) 213 3 [l0, l1] [v0, .ref b] w 0 Q ↔ px_op (px_tgt w b [(11, 206)]) (fun v => wc d v [.ref b, v0] w (fun r w' => wp (d + 1) 213 6 [l0, l1] (r.toList ++ []) w' 0 Q))) ∧
  (∀ (d : Nat) (l0 l1 : Option Value)  (w : px_H) (Q : Option Value → px_H → Prop), wp d 213 6 [l0, l1] [] w 0 Q ↔ wp d 213 7 [l0, l1] [.int 2] w 0 Q) ∧
  (∀ (d : Nat) (l1 : Option Value) (s0 : Value) (a : Nat) (w : px_H) (Q : Option Value → px_H → Prop), wp d 213 7 [some (.ref a), l1] [s0] w 0 Q ↔ wp d 213 8 [some (.ref a), l1] [.ref a, s0] w 0 Q) ∧
  (∀ (d : Nat) (l0 : Option Value) (s0 s1 : Value) (x : Int32) (w : px_H) (Q : Option Value → px_H → Prop), wp d 213 8 [l0, some (.int x)] [s0, s1] w 0 Q ↔ wp d 213 9 [l0, some (.int x)] [.int x, s0, s1] w 0 Q) ∧
  (∀ (d : Nat) (l0 l1 : Option Value) (s2 : Value) (v0 : Value) (b : Nat) (w : px_H) (Q : Option Value → px_H → Prop), wp (d + 1) 213 9 [l0, l1] [v0, .ref b, s2] w 0 Q ↔ px_op (px_tgt w b [(11, 209)]) (fun v => wc d v [.ref b, v0] w (fun r w' => wp (d + 1) 213 12 [l0, l1] (r.toList ++ [s2]) w' 0 Q))) ∧
  (∀ (d : Nat) (l0 l1 : Option Value) (x y : Int32) (w : px_H) (Q : Option Value → px_H → Prop), wp d 213 12 [l0, l1] [.int y, .int x] w 0 Q ↔ wp d 213 13 [l0, l1] [.int (x * y)] w 0 Q) ∧
  (∀ (d : Nat) (l0 l1 : Option Value) (x : Int32) (w : px_H) (Q : Option Value → px_H → Prop), wp d 213 13 [l0, l1] [.int x] w 0 Q ↔ Q (some (.int x)) w) := ⟨fun d v0 v1 w Q => r_entry pt_213 (Nat.le_of_ble_eq_true rfl) rfl,
  fun d l1 a w Q => px_go (q := (.aload_n 0, 1, px_x0)) (S' := (1, [some (.ref a), l1], [.ref a], w, 0)) pt_213 rfl rfl,
  fun d l0 l1 s0 w Q => r_bipush pt_213 rfl (by decide),
  fun d l0 l1 v0 b w Q => r_callV (q := (.invokevirtual 209, 3, (33, 1, [(11, 206)], 0, ""))) pt_213 rfl rfl (List.forall_mem_cons.mpr ⟨⟨_, pt_206, Nat.le_of_ble_eq_true rfl, (Nat.le_of_ble_eq_true rfl), rfl⟩, fun _ h => absurd h List.not_mem_nil⟩),
  fun d l0 l1 w Q => r_iconst pt_213 rfl (by decide),
  fun d l1 s0 a w Q => px_go (q := (.aload_n 0, 1, px_x0)) (S' := (8, [some (.ref a), l1], [.ref a, s0], w, 0)) pt_213 rfl rfl,
  fun d l0 s0 s1 x w Q => px_go (q := (.iload_n 1, 1, px_x0)) (S' := (9, [l0, some (.int x)], [.int x, s0, s1], w, 0)) pt_213 rfl rfl,
  fun d l0 l1 s2 v0 b w Q => r_callV (q := (.invokevirtual 224, 3, (33, 1, [(11, 209)], 0, ""))) pt_213 rfl rfl (List.forall_mem_cons.mpr ⟨⟨_, pt_209, Nat.le_of_ble_eq_true rfl, (Nat.le_of_ble_eq_true rfl), rfl⟩, fun _ h => absurd h List.not_mem_nil⟩),
  fun d l0 l1 x y w Q => px_go (q := (.imul, 1, px_x0)) (S' := (13, [l0, l1], [.int (x * y)], w, 0)) pt_213 rfl rfl,
  fun d l0 l1 x w Q => px_ret (q := (.ireturn, 1, px_x0)) pt_213 rfl rfl⟩
/-- AllSwornModel.mark23(I)I -/
theorem S214 : (∀ (d : Nat) (v0 v1 : Value) (w : px_H) (Q : Option Value → px_H → Prop), wc d 214 [v0, v1] w Q ↔ wp d 214 0 [some v0, some v1, none] [] w 0 Q) ∧
  (∀ (d : Nat) (l1 l2 : Option Value) (a : Nat) (w : px_H) (Q : Option Value → px_H → Prop), wp d 214 0 [some (.ref a), l1, l2] [] w 0 Q ↔ wp d 214 1 [some (.ref a), l1, l2] [.ref a] w 0 Q) ∧
  (∀ (d : Nat) (l0 l1 l2 : Option Value) (s0 : Value)  (w : px_H) (Q : Option Value → px_H → Prop), wp d 214 1 [l0, l1, l2] [s0] w 0 Q ↔ wp d 214 3 [l0, l1, l2] [.int 23, s0] w 0 Q) ∧
  (∀ (d : Nat) (l0 l1 l2 : Option Value) (v0 : Value) (b : Nat) (w : px_H) (Q : Option Value → px_H → Prop), wp (d + 1) 214 3 [l0, l1, l2] [v0, .ref b] w 0 Q ↔ px_op (px_tgt w b [(11, 206)]) (fun v => wc d v [.ref b, v0] w (fun r w' => wp (d + 1) 214 6 [l0, l1, l2] (r.toList ++ []) w' 0 Q))) ∧
  (∀ (d : Nat) (l1 l2 : Option Value) (a : Nat) (w : px_H) (Q : Option Value → px_H → Prop), wp d 214 6 [some (.ref a), l1, l2] [] w 0 Q ↔ wp d 214 7 [some (.ref a), l1, l2] [.ref a] w 0 Q) ∧
  (∀ (d : Nat) (l0 l2 : Option Value) (s0 : Value) (x : Int32) (w : px_H) (Q : Option Value → px_H → Prop), wp d 214 7 [l0, some (.int x), l2] [s0] w 0 Q ↔ wp d 214 8 [l0, some (.int x), l2] [.int x, s0] w 0 Q) ∧
  (∀ (d : Nat) (l0 l1 l2 : Option Value) (v0 : Value) (b : Nat) (w : px_H) (Q : Option Value → px_H → Prop), wp (d + 1) 214 8 [l0, l1, l2] [v0, .ref b] w 0 Q ↔ px_op (px_tgt w b [(11, 208)]) (fun v => wc d v [.ref b, v0] w (fun r w' => wp (d + 1) 214 11 [l0, l1, l2] (r.toList ++ []) w' 0 Q))) ∧
  (∀ (d : Nat) (l0 l1 l2 : Option Value) (x : Int32) (w : px_H) (Q : Option Value → px_H → Prop), wp d 214 11 [l0, l1, l2] [.int x] w 0 Q ↔ wp d 214 12 [l0, l1, some (.int x)] [] w 0 Q) ∧
  (∀ (d : Nat) (l0 l1 : Option Value) (x : Int32) (w : px_H) (Q : Option Value → px_H → Prop), wp d 214 12 [l0, l1, some (.int x)] [] w 0 Q ↔ wp d 214 13 [l0, l1, some (.int x)] [.int x] w 0 Q) ∧
  (∀ (d : Nat) (l1 l2 : Option Value) (s0 : Value) (a : Nat) (w : px_H) (Q : Option Value → px_H → Prop), wp d 214 13 [some (.ref a), l1, l2] [s0] w 0 Q ↔ wp d 214 14 [some (.ref a), l1, l2] [.ref a, s0] w 0 Q) ∧
  (∀ (d : Nat) (l0 l2 : Option Value) (s0 s1 : Value) (x : Int32) (w : px_H) (Q : Option Value → px_H → Prop), wp d 214 14 [l0, some (.int x), l2] [s0, s1] w 0 Q ↔ wp d 214 15 [l0, some (.int x), l2] [.int x, s0, s1] w 0 Q) ∧
  (∀ (d : Nat) (l0 l1 l2 : Option Value) (s0 s1 s2 : Value)  (w : px_H) (Q : Option Value → px_H → Prop), wp d 214 15 [l0, l1, l2] [s0, s1, s2] w 0 Q ↔ wp d 214 16 [l0, l1, l2] [.int 0, s0, s1, s2] w 0 Q) ∧
  (∀ (d : Nat) (l0 l1 l2 : Option Value) (s3 : Value) (v0 v1 : Value) (b : Nat) (w : px_H) (Q : Option Value → px_H → Prop), wp (d + 1) 214 16 [l0, l1, l2] [v1, v0, .ref b, s3] w 0 Q ↔ px_op (px_tgt w b [(11, 154)]) (fun v => wc d v [.ref b, v0, v1] w (fun r w' => wp (d + 1) 214 19 [l0, l1, l2] (r.toList ++ [s3]) w' 0 Q))) ∧
  (∀ (d : Nat) (l0 l1 l2 : Option Value) (s0 s1 : Value)  (w : px_H) (Q : Option Value → px_H → Prop), wp d 214 19 [l0, l1, l2] [s0, s1] w 0 Q ↔ wp d 214 20 [l0, l1, l2] [.int 5, s0, s1] w 0 Q) ∧
  (∀ (d : Nat) (l0 l1 l2 : Option Value) (s2 : Value) (x y : Int32) (w : px_H) (Q : Option Value → px_H → Prop), wp d 214 20 [l0, l1, l2] [.int y, .int x, s2] w 0 Q ↔ if x = y then wp d 214 23 [l0, l1, l2] [s2] w 0 Q else wp d 214 31 [l0, l1, l2] [s2] w 0 Q) ∧
  (∀ (d : Nat) (l1 l2 : Option Value) (s0 : Value) (a : Nat) (w : px_H) (Q : Option Value → px_H → Prop), wp d 214 23 [some (.ref a), l1, l2] [s0] w 0 Q ↔ wp d 214 24 [some (.ref a), l1, l2] [.ref a, s0] w 0 Q) ∧
  (∀ (d : Nat) (l0 l2 : Option Value) (s0 s1 : Value) (x : Int32) (w : px_H) (Q : Option Value → px_H → Prop), wp d 214 24 [l0, some (.int x), l2] [s0, s1] w 0 Q ↔ wp d 214 25 [l0, some (.int x), l2] [.int x, s0, s1] w 0 Q) ∧
  (∀ (d : Nat) (l0 l1 l2 : Option Value) (s2 : Value) (v0 : Value) (b : Nat) (w : px_H) (Q : Option Value → px_H → Prop), wp (d + 1) 214 25 [l0, l1, l2] [v0, .ref b, s2] w 0 Q ↔ px_op (px_tgt w b [(11, 211)]) (fun v => wc d v [.ref b, v0] w (fun r w' => wp (d + 1) 214 28 [l0, l1, l2] (r.toList ++ [s2]) w' 0 Q))) ∧
  (∀ (d : Nat) (l0 l1 l2 : Option Value) (s0 s1 : Value)  (w : px_H) (Q : Option Value → px_H → Prop), wp d 214 28 [l0, l1, l2] [s0, s1] w 0 Q ↔ wp d 214 36 [l0, l1, l2] [s0, s1] w 0 Q) ∧
  (∀ (d : Nat) (l1 l2 : Option Value) (s0 : Value) (a : Nat) (w : px_H) (Q : Option Value → px_H → Prop), wp d 214 31 [some (.ref a), l1, l2] [s0] w 0 Q ↔ wp d 214 32 [some (.ref a), l1, l2] [.ref a, s0] w 0 Q) ∧
  (∀ (d : Nat) (l0 l2 : Option Value) (s0 s1 : Value) (x : Int32) (w : px_H) (Q : Option Value → px_H → Prop), wp d 214 32 [l0, some (.int x), l2] [s0, s1] w 0 Q ↔ wp d 214 33 [l0, some (.int x), l2] [.int x, s0, s1] w 0 Q) ∧
  (∀ (d : Nat) (l0 l1 l2 : Option Value) (s2 : Value) (v0 : Value) (b : Nat) (w : px_H) (Q : Option Value → px_H → Prop), wp (d + 1) 214 33 [l0, l1, l2] [v0, .ref b, s2] w 0 Q ↔ px_op (px_tgt w b [(11, 210)]) (fun v => wc d v [.ref b, v0] w (fun r w' => wp (d + 1) 214 36 [l0, l1, l2] (r.toList ++ [s2]) w' 0 Q))) ∧
  (∀ (d : Nat) (l0 l1 l2 : Option Value) (x y : Int32) (w : px_H) (Q : Option Value → px_H → Prop), wp d 214 36 [l0, l1, l2] [.int y, .int x] w 0 Q ↔ wp d 214 37 [l0, l1, l2] [.int (x - y)] w 0 Q) ∧
  (∀ (d : Nat) (l0 l1 l2 : Option Value) (x : Int32) (w : px_H) (Q : Option Value → px_H → Prop), wp d 214 37 [l0, l1, l2] [.int x] w 0 Q ↔ Q (some (.int x)) w) := ⟨fun d v0 v1 w Q => r_entry pt_214 (Nat.le_of_ble_eq_true rfl) rfl,
  fun d l1 l2 a w Q => px_go (q := (.aload_n 0, 1, px_x0)) (S' := (1, [some (.ref a), l1, l2], [.ref a], w, 0)) pt_214 rfl rfl,
  fun d l0 l1 l2 s0 w Q => r_bipush pt_214 rfl (by decide),
  fun d l0 l1 l2 v0 b w Q => r_callV (q := (.invokevirtual 209, 3, (33, 1, [(11, 206)], 0, ""))) pt_214 rfl rfl (List.forall_mem_cons.mpr ⟨⟨_, pt_206, Nat.le_of_ble_eq_true rfl, (Nat.le_of_ble_eq_true rfl), rfl⟩, fun _ h => absurd h List.not_mem_nil⟩),
  fun d l1 l2 a w Q => px_go (q := (.aload_n 0, 1, px_x0)) (S' := (7, [some (.ref a), l1, l2], [.ref a], w, 0)) pt_214 rfl rfl,
  fun d l0 l2 s0 x w Q => px_go (q := (.iload_n 1, 1, px_x0)) (S' := (8, [l0, some (.int x), l2], [.int x, s0], w, 0)) pt_214 rfl rfl,
  fun d l0 l1 l2 v0 b w Q => r_callV (q := (.invokevirtual 212, 3, (33, 1, [(11, 208)], 0, ""))) pt_214 rfl rfl (List.forall_mem_cons.mpr ⟨⟨_, pt_208, Nat.le_of_ble_eq_true rfl, (Nat.le_of_ble_eq_true rfl), rfl⟩, fun _ h => absurd h List.not_mem_nil⟩),
  fun d l0 l1 l2 x w Q => px_go (q := (.istore_n 2, 1, px_x0)) (S' := (12, [l0, l1, some (.int x)], [], w, 0)) pt_214 rfl rfl,
  fun d l0 l1 x w Q => px_go (q := (.iload_n 2, 1, px_x0)) (S' := (13, [l0, l1, some (.int x)], [.int x], w, 0)) pt_214 rfl rfl,
  fun d l1 l2 s0 a w Q => px_go (q := (.aload_n 0, 1, px_x0)) (S' := (14, [some (.ref a), l1, l2], [.ref a, s0], w, 0)) pt_214 rfl rfl,
  fun d l0 l2 s0 s1 x w Q => px_go (q := (.iload_n 1, 1, px_x0)) (S' := (15, [l0, some (.int x), l2], [.int x, s0, s1], w, 0)) pt_214 rfl rfl,
  fun d l0 l1 l2 s0 s1 s2 w Q => r_iconst pt_214 rfl (by decide),
  fun d l0 l1 l2 s3 v0 v1 b w Q => r_callV (q := (.invokevirtual 136, 3, (33, 2, [(11, 154)], 0, ""))) pt_214 rfl rfl (List.forall_mem_cons.mpr ⟨⟨_, pt_154, Nat.le_of_ble_eq_true rfl, (Nat.le_of_ble_eq_true rfl), rfl⟩, fun _ h => absurd h List.not_mem_nil⟩),
  fun d l0 l1 l2 s0 s1 w Q => r_iconst pt_214 rfl (by decide),
  fun d l0 l1 l2 s2 x y w Q => r_icmp_ne pt_214 rfl rfl,
  fun d l1 l2 s0 a w Q => px_go (q := (.aload_n 0, 1, px_x0)) (S' := (24, [some (.ref a), l1, l2], [.ref a, s0], w, 0)) pt_214 rfl rfl,
  fun d l0 l2 s0 s1 x w Q => px_go (q := (.iload_n 1, 1, px_x0)) (S' := (25, [l0, some (.int x), l2], [.int x, s0, s1], w, 0)) pt_214 rfl rfl,
  fun d l0 l1 l2 s2 v0 b w Q => r_callV (q := (.invokevirtual 227, 3, (33, 1, [(11, 211)], 0, ""))) pt_214 rfl rfl (List.forall_mem_cons.mpr ⟨⟨_, pt_211, Nat.le_of_ble_eq_true rfl, (Nat.le_of_ble_eq_true rfl), rfl⟩, fun _ h => absurd h List.not_mem_nil⟩),
  fun d l0 l1 l2 s0 s1 w Q => r_goto pt_214 rfl rfl,
  fun d l1 l2 s0 a w Q => px_go (q := (.aload_n 0, 1, px_x0)) (S' := (32, [some (.ref a), l1, l2], [.ref a, s0], w, 0)) pt_214 rfl rfl,
  fun d l0 l2 s0 s1 x w Q => px_go (q := (.iload_n 1, 1, px_x0)) (S' := (33, [l0, some (.int x), l2], [.int x, s0, s1], w, 0)) pt_214 rfl rfl,
  fun d l0 l1 l2 s2 v0 b w Q => r_callV (q := (.invokevirtual 221, 3, (33, 1, [(11, 210)], 0, ""))) pt_214 rfl rfl (List.forall_mem_cons.mpr ⟨⟨_, pt_210, Nat.le_of_ble_eq_true rfl, (Nat.le_of_ble_eq_true rfl), rfl⟩, fun _ h => absurd h List.not_mem_nil⟩),
  fun d l0 l1 l2 x y w Q => px_go (q := (.isub, 1, px_x0)) (S' := (37, [l0, l1, l2], [.int (x - y)], w, 0)) pt_214 rfl rfl,
  fun d l0 l1 l2 x w Q => px_ret (q := (.ireturn, 1, px_x0)) pt_214 rfl rfl⟩
/-- AllSwornModel.markOf(I)I -/
theorem S215 : (∀ (d : Nat) (v0 v1 : Value) (w : px_H) (Q : Option Value → px_H → Prop), wc d 215 [v0, v1] w Q ↔ wp d 215 0 [some v0, some v1, none] [] w 0 Q) ∧
  (∀ (d : Nat) (l1 l2 : Option Value) (a : Nat) (w : px_H) (Q : Option Value → px_H → Prop), wp d 215 0 [some (.ref a), l1, l2] [] w 0 Q ↔ wp d 215 1 [some (.ref a), l1, l2] [.ref a] w 0 Q) ∧
  (∀ (d : Nat) (l0 l2 : Option Value) (s0 : Value) (x : Int32) (w : px_H) (Q : Option Value → px_H → Prop), wp d 215 1 [l0, some (.int x), l2] [s0] w 0 Q ↔ wp d 215 2 [l0, some (.int x), l2] [.int x, s0] w 0 Q) ∧
  (∀ (d : Nat) (l0 l1 l2 : Option Value) (s0 s1 : Value)  (w : px_H) (Q : Option Value → px_H → Prop), wp d 215 2 [l0, l1, l2] [s0, s1] w 0 Q ↔ wp d 215 3 [l0, l1, l2] [.int 0, s0, s1] w 0 Q) ∧
  (∀ (d : Nat) (l0 l1 l2 : Option Value) (v0 v1 : Value) (b : Nat) (w : px_H) (Q : Option Value → px_H → Prop), wp (d + 1) 215 3 [l0, l1, l2] [v1, v0, .ref b] w 0 Q ↔ px_op (px_tgt w b [(11, 154)]) (fun v => wc d v [.ref b, v0, v1] w (fun r w' => wp (d + 1) 215 6 [l0, l1, l2] (r.toList ++ []) w' 0 Q))) ∧
  (∀ (d : Nat) (l0 l1 l2 : Option Value) (x : Int32) (w : px_H) (Q : Option Value → px_H → Prop), wp d 215 6 [l0, l1, l2] [.int x] w 0 Q ↔ wp d 215 7 [l0, l1, some (.int x)] [] w 0 Q) ∧
  (∀ (d : Nat) (l0 l1 : Option Value) (x : Int32) (w : px_H) (Q : Option Value → px_H → Prop), wp d 215 7 [l0, l1, some (.int x)] [] w 0 Q ↔ wp d 215 8 [l0, l1, some (.int x)] [.int x] w 0 Q) ∧
  (∀ (d : Nat) (l0 l1 l2 : Option Value) (s0 : Value)  (w : px_H) (Q : Option Value → px_H → Prop), wp d 215 8 [l0, l1, l2] [s0] w 0 Q ↔ wp d 215 9 [l0, l1, l2] [.int 1, s0] w 0 Q) ∧
  (∀ (d : Nat) (l0 l1 l2 : Option Value) (x y : Int32) (w : px_H) (Q : Option Value → px_H → Prop), wp d 215 9 [l0, l1, l2] [.int y, .int x] w 0 Q ↔ if x = y then wp d 215 12 [l0, l1, l2] [] w 0 Q else wp d 215 20 [l0, l1, l2] [] w 0 Q) ∧
  (∀ (d : Nat) (l1 l2 : Option Value) (a : Nat) (w : px_H) (Q : Option Value → px_H → Prop), wp d 215 12 [some (.ref a), l1, l2] [] w 0 Q ↔ wp d 215 13 [some (.ref a), l1, l2] [.ref a] w 0 Q) ∧
  (∀ (d : Nat) (l0 l2 : Option Value) (s0 : Value) (x : Int32) (w : px_H) (Q : Option Value → px_H → Prop), wp d 215 13 [l0, some (.int x), l2] [s0] w 0 Q ↔ wp d 215 14 [l0, some (.int x), l2] [.int x, s0] w 0 Q) ∧
  (∀ (d : Nat) (l0 l1 l2 : Option Value) (v0 : Value) (b : Nat) (w : px_H) (Q : Option Value → px_H → Prop), wp (d + 1) 215 14 [l0, l1, l2] [v0, .ref b] w 0 Q ↔ px_op (px_tgt w b [(11, 209)]) (fun v => wc d v [.ref b, v0] w (fun r w' => wp (d + 1) 215 17 [l0, l1, l2] (r.toList ++ []) w' 0 Q))) ∧
  (∀ (d : Nat) (l0 l1 l2 : Option Value) (s0 : Value)  (w : px_H) (Q : Option Value → px_H → Prop), wp d 215 17 [l0, l1, l2] [s0] w 0 Q ↔ wp d 215 51 [l0, l1, l2] [s0] w 0 Q) ∧
  (∀ (d : Nat) (l0 l1 : Option Value) (x : Int32) (w : px_H) (Q : Option Value → px_H → Prop), wp d 215 20 [l0, l1, some (.int x)] [] w 0 Q ↔ wp d 215 21 [l0, l1, some (.int x)] [.int x] w 0 Q) ∧
  (∀ (d : Nat) (l0 l1 l2 : Option Value) (s0 : Value)  (w : px_H) (Q : Option Value → px_H → Prop), wp d 215 21 [l0, l1, l2] [s0] w 0 Q ↔ wp d 215 22 [l0, l1, l2] [.int 2, s0] w 0 Q) ∧
  (∀ (d : Nat) (l0 l1 l2 : Option Value) (x y : Int32) (w : px_H) (Q : Option Value → px_H → Prop), wp d 215 22 [l0, l1, l2] [.int y, .int x] w 0 Q ↔ if x = y then wp d 215 25 [l0, l1, l2] [] w 0 Q else wp d 215 33 [l0, l1, l2] [] w 0 Q) ∧
  (∀ (d : Nat) (l1 l2 : Option Value) (a : Nat) (w : px_H) (Q : Option Value → px_H → Prop), wp d 215 25 [some (.ref a), l1, l2] [] w 0 Q ↔ wp d 215 26 [some (.ref a), l1, l2] [.ref a] w 0 Q) ∧
  (∀ (d : Nat) (l0 l2 : Option Value) (s0 : Value) (x : Int32) (w : px_H) (Q : Option Value → px_H → Prop), wp d 215 26 [l0, some (.int x), l2] [s0] w 0 Q ↔ wp d 215 27 [l0, some (.int x), l2] [.int x, s0] w 0 Q) ∧
  (∀ (d : Nat) (l0 l1 l2 : Option Value) (v0 : Value) (b : Nat) (w : px_H) (Q : Option Value → px_H → Prop), wp (d + 1) 215 27 [l0, l1, l2] [v0, .ref b] w 0 Q ↔ px_op (px_tgt w b [(11, 213)]) (fun v => wc d v [.ref b, v0] w (fun r w' => wp (d + 1) 215 30 [l0, l1, l2] (r.toList ++ []) w' 0 Q))) ∧
  (∀ (d : Nat) (l0 l1 l2 : Option Value) (s0 : Value)  (w : px_H) (Q : Option Value → px_H → Prop), wp d 215 30 [l0, l1, l2] [s0] w 0 Q ↔ wp d 215 51 [l0, l1, l2] [s0] w 0 Q) ∧
  (∀ (d : Nat) (l0 l1 : Option Value) (x : Int32) (w : px_H) (Q : Option Value → px_H → Prop), wp d 215 33 [l0, l1, some (.int x)] [] w 0 Q ↔ wp d 215 34 [l0, l1, some (.int x)] [.int x] w 0 Q) ∧
  (∀ (d : Nat) (l0 l1 l2 : Option Value) (s0 : Value)  (w : px_H) (Q : Option Value → px_H → Prop), wp d 215 34 [l0, l1, l2] [s0] w 0 Q ↔ wp d 215 35 [l0, l1, l2] [.int 3, s0] w 0 Q) ∧
  (∀ (d : Nat) (l0 l1 l2 : Option Value) (x y : Int32) (w : px_H) (Q : Option Value → px_H → Prop), wp d 215 35 [l0, l1, l2] [.int y, .int x] w 0 Q ↔ if x = y then wp d 215 38 [l0, l1, l2] [] w 0 Q else wp d 215 46 [l0, l1, l2] [] w 0 Q) ∧
  (∀ (d : Nat) (l1 l2 : Option Value) (a : Nat) (w : px_H) (Q : Option Value → px_H → Prop), wp d 215 38 [some (.ref a), l1, l2] [] w 0 Q ↔ wp d 215 39 [some (.ref a), l1, l2] [.ref a] w 0 Q) ∧
  (∀ (d : Nat) (l0 l2 : Option Value) (s0 : Value) (x : Int32) (w : px_H) (Q : Option Value → px_H → Prop), wp d 215 39 [l0, some (.int x), l2] [s0] w 0 Q ↔ wp d 215 40 [l0, some (.int x), l2] [.int x, s0] w 0 Q) ∧
  (∀ (d : Nat) (l0 l1 l2 : Option Value) (v0 : Value) (b : Nat) (w : px_H) (Q : Option Value → px_H → Prop), wp (d + 1) 215 40 [l0, l1, l2] [v0, .ref b] w 0 Q ↔ px_op (px_tgt w b [(11, 212)]) (fun v => wc d v [.ref b, v0] w (fun r w' => wp (d + 1) 215 43 [l0, l1, l2] (r.toList ++ []) w' 0 Q))) ∧
  (∀ (d : Nat) (l0 l1 l2 : Option Value) (s0 : Value)  (w : px_H) (Q : Option Value → px_H → Prop), wp d 215 43 [l0, l1, l2] [s0] w 0 Q ↔ wp d 215 51 [l0, l1, l2] [s0] w 0 Q) ∧
  (∀ (d : Nat) (l1 l2 : Option Value) (a : Nat) (w : px_H) (Q : Option Value → px_H → Prop), wp d 215 46 [some (.ref a), l1, l2] [] w 0 Q ↔ wp d 215 47 [some (.ref a), l1, l2] [.ref a] w 0 Q) ∧
  (∀ (d : Nat) (l0 l2 : Option Value) (s0 : Value) (x : Int32) (w : px_H) (Q : Option Value → px_H → Prop), wp d 215 47 [l0, some (.int x), l2] [s0] w 0 Q ↔ wp d 215 48 [l0, some (.int x), l2] [.int x, s0] w 0 Q) ∧
  (∀ (d : Nat) (l0 l1 l2 : Option Value) (v0 : Value) (b : Nat) (w : px_H) (Q : Option Value → px_H → Prop), wp (d + 1) 215 48 [l0, l1, l2] [v0, .ref b] w 0 Q ↔ px_op (px_tgt w b [(11, 214)]) (fun v => wc d v [.ref b, v0] w (fun r w' => wp (d + 1) 215 51 [l0, l1, l2] (r.toList ++ []) w' 0 Q))) ∧
  (∀ (d : Nat) (l0 l1 l2 : Option Value) (x : Int32) (w : px_H) (Q : Option Value → px_H → Prop), wp d 215 51 [l0, l1, l2] [.int x] w 0 Q ↔ Q (some (.int x)) w) := ⟨fun d v0 v1 w Q => r_entry pt_215 (Nat.le_of_ble_eq_true rfl) rfl,
  fun d l1 l2 a w Q => px_go (q := (.aload_n 0, 1, px_x0)) (S' := (1, [some (.ref a), l1, l2], [.ref a], w, 0)) pt_215 rfl rfl,
  fun d l0 l2 s0 x w Q => px_go (q := (.iload_n 1, 1, px_x0)) (S' := (2, [l0, some (.int x), l2], [.int x, s0], w, 0)) pt_215 rfl rfl,
  fun d l0 l1 l2 s0 s1 w Q => r_iconst pt_215 rfl (by decide),
  fun d l0 l1 l2 v0 v1 b w Q => r_callV (q := (.invokevirtual 136, 3, (33, 2, [(11, 154)], 0, ""))) pt_215 rfl rfl (List.forall_mem_cons.mpr ⟨⟨_, pt_154, Nat.le_of_ble_eq_true rfl, (Nat.le_of_ble_eq_true rfl), rfl⟩, fun _ h => absurd h List.not_mem_nil⟩),
  fun d l0 l1 l2 x w Q => px_go (q := (.istore_n 2, 1, px_x0)) (S' := (7, [l0, l1, some (.int x)], [], w, 0)) pt_215 rfl rfl,
  fun d l0 l1 x w Q => px_go (q := (.iload_n 2, 1, px_x0)) (S' := (8, [l0, l1, some (.int x)], [.int x], w, 0)) pt_215 rfl rfl,
  fun d l0 l1 l2 s0 w Q => r_iconst pt_215 rfl (by decide),
  fun d l0 l1 l2 x y w Q => r_icmp_ne pt_215 rfl rfl,
  fun d l1 l2 a w Q => px_go (q := (.aload_n 0, 1, px_x0)) (S' := (13, [some (.ref a), l1, l2], [.ref a], w, 0)) pt_215 rfl rfl,
  fun d l0 l2 s0 x w Q => px_go (q := (.iload_n 1, 1, px_x0)) (S' := (14, [l0, some (.int x), l2], [.int x, s0], w, 0)) pt_215 rfl rfl,
  fun d l0 l1 l2 v0 b w Q => r_callV (q := (.invokevirtual 224, 3, (33, 1, [(11, 209)], 0, ""))) pt_215 rfl rfl (List.forall_mem_cons.mpr ⟨⟨_, pt_209, Nat.le_of_ble_eq_true rfl, (Nat.le_of_ble_eq_true rfl), rfl⟩, fun _ h => absurd h List.not_mem_nil⟩),
  fun d l0 l1 l2 s0 w Q => r_goto pt_215 rfl rfl,
  fun d l0 l1 x w Q => px_go (q := (.iload_n 2, 1, px_x0)) (S' := (21, [l0, l1, some (.int x)], [.int x], w, 0)) pt_215 rfl rfl,
  fun d l0 l1 l2 s0 w Q => r_iconst pt_215 rfl (by decide),
  fun d l0 l1 l2 x y w Q => r_icmp_ne pt_215 rfl rfl,
  fun d l1 l2 a w Q => px_go (q := (.aload_n 0, 1, px_x0)) (S' := (26, [some (.ref a), l1, l2], [.ref a], w, 0)) pt_215 rfl rfl,
  fun d l0 l2 s0 x w Q => px_go (q := (.iload_n 1, 1, px_x0)) (S' := (27, [l0, some (.int x), l2], [.int x, s0], w, 0)) pt_215 rfl rfl,
  fun d l0 l1 l2 v0 b w Q => r_callV (q := (.invokevirtual 230, 3, (33, 1, [(11, 213)], 0, ""))) pt_215 rfl rfl (List.forall_mem_cons.mpr ⟨⟨_, pt_213, Nat.le_of_ble_eq_true rfl, (Nat.le_of_ble_eq_true rfl), rfl⟩, fun _ h => absurd h List.not_mem_nil⟩),
  fun d l0 l1 l2 s0 w Q => r_goto pt_215 rfl rfl,
  fun d l0 l1 x w Q => px_go (q := (.iload_n 2, 1, px_x0)) (S' := (34, [l0, l1, some (.int x)], [.int x], w, 0)) pt_215 rfl rfl,
  fun d l0 l1 l2 s0 w Q => r_iconst pt_215 rfl (by decide),
  fun d l0 l1 l2 x y w Q => r_icmp_ne pt_215 rfl rfl,
  fun d l1 l2 a w Q => px_go (q := (.aload_n 0, 1, px_x0)) (S' := (39, [some (.ref a), l1, l2], [.ref a], w, 0)) pt_215 rfl rfl,
  fun d l0 l2 s0 x w Q => px_go (q := (.iload_n 1, 1, px_x0)) (S' := (40, [l0, some (.int x), l2], [.int x, s0], w, 0)) pt_215 rfl rfl,
  fun d l0 l1 l2 v0 b w Q => r_callV (q := (.invokevirtual 233, 3, (33, 1, [(11, 212)], 0, ""))) pt_215 rfl rfl (List.forall_mem_cons.mpr ⟨⟨_, pt_212, Nat.le_of_ble_eq_true rfl, (Nat.le_of_ble_eq_true rfl), rfl⟩, fun _ h => absurd h List.not_mem_nil⟩),
  fun d l0 l1 l2 s0 w Q => r_goto pt_215 rfl rfl,
  fun d l1 l2 a w Q => px_go (q := (.aload_n 0, 1, px_x0)) (S' := (47, [some (.ref a), l1, l2], [.ref a], w, 0)) pt_215 rfl rfl,
  fun d l0 l2 s0 x w Q => px_go (q := (.iload_n 1, 1, px_x0)) (S' := (48, [l0, some (.int x), l2], [.int x, s0], w, 0)) pt_215 rfl rfl,
  fun d l0 l1 l2 v0 b w Q => r_callV (q := (.invokevirtual 236, 3, (33, 1, [(11, 214)], 0, ""))) pt_215 rfl rfl (List.forall_mem_cons.mpr ⟨⟨_, pt_214, Nat.le_of_ble_eq_true rfl, (Nat.le_of_ble_eq_true rfl), rfl⟩, fun _ h => absurd h List.not_mem_nil⟩),
  fun d l0 l1 l2 x w Q => px_ret (q := (.ireturn, 1, px_x0)) pt_215 rfl rfl⟩
/-- AllSwornModel.size11(I)I -/
theorem S216 : (∀ (d : Nat) (v0 v1 : Value) (w : px_H) (Q : Option Value → px_H → Prop), wc d 216 [v0, v1] w Q ↔ wp d 216 0 [some v0, some v1, none] [] w 0 Q) ∧
  (∀ (d : Nat) (l1 l2 : Option Value) (a : Nat) (w : px_H) (Q : Option Value → px_H → Prop), wp d 216 0 [some (.ref a), l1, l2] [] w 0 Q ↔ wp d 216 1 [some (.ref a), l1, l2] [.ref a] w 0 Q) ∧
  (∀ (d : Nat) (l0 l1 l2 : Option Value) (s0 : Value)  (w : px_H) (Q : Option Value → px_H → Prop), wp d 216 1 [l0, l1, l2] [s0] w 0 Q ↔ wp d 216 3 [l0, l1, l2] [.int 11, s0] w 0 Q) ∧
  (∀ (d : Nat) (l0 l1 l2 : Option Value) (v0 : Value) (b : Nat) (w : px_H) (Q : Option Value → px_H → Prop), wp (d + 1) 216 3 [l0, l1, l2] [v0, .ref b] w 0 Q ↔ px_op (px_tgt w b [(11, 206)]) (fun v => wc d v [.ref b, v0] w (fun r w' => wp (d + 1) 216 6 [l0, l1, l2] (r.toList ++ []) w' 0 Q))) ∧
  (∀ (d : Nat) (l1 l2 : Option Value) (a : Nat) (w : px_H) (Q : Option Value → px_H → Prop), wp d 216 6 [some (.ref a), l1, l2] [] w 0 Q ↔ wp d 216 7 [some (.ref a), l1, l2] [.ref a] w 0 Q) ∧
  (∀ (d : Nat) (l0 l2 : Option Value) (s0 : Value) (x : Int32) (w : px_H) (Q : Option Value → px_H → Prop), wp d 216 7 [l0, some (.int x), l2] [s0] w 0 Q ↔ wp d 216 8 [l0, some (.int x), l2] [.int x, s0] w 0 Q) ∧
  (∀ (d : Nat) (l0 l1 l2 : Option Value) (v0 : Value) (b : Nat) (w : px_H) (Q : Option Value → px_H → Prop), wp (d + 1) 216 8 [l0, l1, l2] [v0, .ref b] w 0 Q ↔ px_op (px_tgt w b [(11, 207)]) (fun v => wc d v [.ref b, v0] w (fun r w' => wp (d + 1) 216 11 [l0, l1, l2] (r.toList ++ []) w' 0 Q))) ∧
  (∀ (d : Nat) (l0 l1 l2 : Option Value) (x : Int32) (w : px_H) (Q : Option Value → px_H → Prop), wp d 216 11 [l0, l1, l2] [.int x] w 0 Q ↔ wp d 216 12 [l0, l1, some (.int x)] [] w 0 Q) ∧
  (∀ (d : Nat) (l0 l1 : Option Value) (x : Int32) (w : px_H) (Q : Option Value → px_H → Prop), wp d 216 12 [l0, l1, some (.int x)] [] w 0 Q ↔ wp d 216 13 [l0, l1, some (.int x)] [.int x] w 0 Q) ∧
  (∀ (d : Nat) (l1 l2 : Option Value) (s0 : Value) (a : Nat) (w : px_H) (Q : Option Value → px_H → Prop), wp d 216 13 [some (.ref a), l1, l2] [s0] w 0 Q ↔ wp d 216 14 [some (.ref a), l1, l2] [.ref a, s0] w 0 Q) ∧
  (∀ (d : Nat) (l0 l2 : Option Value) (s0 s1 : Value) (x : Int32) (w : px_H) (Q : Option Value → px_H → Prop), wp d 216 14 [l0, some (.int x), l2] [s0, s1] w 0 Q ↔ wp d 216 15 [l0, some (.int x), l2] [.int x, s0, s1] w 0 Q) ∧
  (∀ (d : Nat) (l0 l1 l2 : Option Value) (s2 : Value) (v0 : Value) (b : Nat) (w : px_H) (Q : Option Value → px_H → Prop), wp (d + 1) 216 15 [l0, l1, l2] [v0, .ref b, s2] w 0 Q ↔ px_op (px_tgt w b [(11, 215)]) (fun v => wc d v [.ref b, v0] w (fun r w' => wp (d + 1) 216 18 [l0, l1, l2] (r.toList ++ [s2]) w' 0 Q))) ∧
  (∀ (d : Nat) (l0 l1 l2 : Option Value) (x y : Int32) (w : px_H) (Q : Option Value → px_H → Prop), wp d 216 18 [l0, l1, l2] [.int y, .int x] w 0 Q ↔ wp d 216 19 [l0, l1, l2] [.int (x + y)] w 0 Q) ∧
  (∀ (d : Nat) (l0 l1 l2 : Option Value) (x : Int32) (w : px_H) (Q : Option Value → px_H → Prop), wp d 216 19 [l0, l1, l2] [.int x] w 0 Q ↔ Q (some (.int x)) w) := ⟨fun d v0 v1 w Q => r_entry pt_216 (Nat.le_of_ble_eq_true rfl) rfl,
  fun d l1 l2 a w Q => px_go (q := (.aload_n 0, 1, px_x0)) (S' := (1, [some (.ref a), l1, l2], [.ref a], w, 0)) pt_216 rfl rfl,
  fun d l0 l1 l2 s0 w Q => r_bipush pt_216 rfl (by decide),
  fun d l0 l1 l2 v0 b w Q => r_callV (q := (.invokevirtual 209, 3, (33, 1, [(11, 206)], 0, ""))) pt_216 rfl rfl (List.forall_mem_cons.mpr ⟨⟨_, pt_206, Nat.le_of_ble_eq_true rfl, (Nat.le_of_ble_eq_true rfl), rfl⟩, fun _ h => absurd h List.not_mem_nil⟩),
  fun d l1 l2 a w Q => px_go (q := (.aload_n 0, 1, px_x0)) (S' := (7, [some (.ref a), l1, l2], [.ref a], w, 0)) pt_216 rfl rfl,
  fun d l0 l2 s0 x w Q => px_go (q := (.iload_n 1, 1, px_x0)) (S' := (8, [l0, some (.int x), l2], [.int x, s0], w, 0)) pt_216 rfl rfl,
  fun d l0 l1 l2 v0 b w Q => r_callV (q := (.invokevirtual 218, 3, (33, 1, [(11, 207)], 0, ""))) pt_216 rfl rfl (List.forall_mem_cons.mpr ⟨⟨_, pt_207, Nat.le_of_ble_eq_true rfl, (Nat.le_of_ble_eq_true rfl), rfl⟩, fun _ h => absurd h List.not_mem_nil⟩),
  fun d l0 l1 l2 x w Q => px_go (q := (.istore_n 2, 1, px_x0)) (S' := (12, [l0, l1, some (.int x)], [], w, 0)) pt_216 rfl rfl,
  fun d l0 l1 x w Q => px_go (q := (.iload_n 2, 1, px_x0)) (S' := (13, [l0, l1, some (.int x)], [.int x], w, 0)) pt_216 rfl rfl,
  fun d l1 l2 s0 a w Q => px_go (q := (.aload_n 0, 1, px_x0)) (S' := (14, [some (.ref a), l1, l2], [.ref a, s0], w, 0)) pt_216 rfl rfl,
  fun d l0 l2 s0 s1 x w Q => px_go (q := (.iload_n 1, 1, px_x0)) (S' := (15, [l0, some (.int x), l2], [.int x, s0, s1], w, 0)) pt_216 rfl rfl,
  fun d l0 l1 l2 s2 v0 b w Q => r_callV (q := (.invokevirtual 239, 3, (33, 1, [(11, 215)], 0, ""))) pt_216 rfl rfl (List.forall_mem_cons.mpr ⟨⟨_, pt_215, Nat.le_of_ble_eq_true rfl, (Nat.le_of_ble_eq_true rfl), rfl⟩, fun _ h => absurd h List.not_mem_nil⟩),
  fun d l0 l1 l2 x y w Q => px_go (q := (.iadd, 1, px_x0)) (S' := (19, [l0, l1, l2], [.int (x + y)], w, 0)) pt_216 rfl rfl,
  fun d l0 l1 l2 x w Q => px_ret (q := (.ireturn, 1, px_x0)) pt_216 rfl rfl⟩
/-- AllSwornModel.size12(I)I -/
theorem S217 : (∀ (d : Nat) (v0 v1 : Value) (w : px_H) (Q : Option Value → px_H → Prop), wc d 217 [v0, v1] w Q ↔ wp d 217 0 [some v0, some v1] [] w 0 Q) ∧
  (∀ (d : Nat) (l1 : Option Value) (a : Nat) (w : px_H) (Q : Option Value → px_H → Prop), wp d 217 0 [some (.ref a), l1] [] w 0 Q ↔ wp d 217 1 [some (.ref a), l1] [.ref a] w 0 Q) ∧
  (∀ (d : Nat) (l0 l1 : Option Value) (s0 : Value)  (w : px_H) (Q : Option Value → px_H → Prop), wp d 217 1 [l0, l1] [s0] w 0 Q ↔ wp d 217 3 [l0, l1] [.int 12, s0] w 0 Q) ∧
  (∀ (d : Nat) (l0 l1 : Option Value) (v0 : Value) (b : Nat) (w : px_H) (Q : Option Value → px_H → Prop), wp (d + 1) 217 3 [l0, l1] [v0, .ref b] w 0 Q ↔ px_op (px_tgt w b [(11, 206)]) (fun v => wc d v [.ref b, v0] w (fun r w' => wp (d + 1) 217 6 [l0, l1] (r.toList ++ []) w' 0 Q))) ∧
  (∀ (d : Nat) (l1 : Option Value) (a : Nat) (w : px_H) (Q : Option Value → px_H → Prop), wp d 217 6 [some (.ref a), l1] [] w 0 Q ↔ wp d 217 7 [some (.ref a), l1] [.ref a] w 0 Q) ∧
  (∀ (d : Nat) (l0 : Option Value) (s0 : Value) (x : Int32) (w : px_H) (Q : Option Value → px_H → Prop), wp d 217 7 [l0, some (.int x)] [s0] w 0 Q ↔ wp d 217 8 [l0, some (.int x)] [.int x, s0] w 0 Q) ∧
  (∀ (d : Nat) (l0 l1 : Option Value) (v0 : Value) (b : Nat) (w : px_H) (Q : Option Value → px_H → Prop), wp (d + 1) 217 8 [l0, l1] [v0, .ref b] w 0 Q ↔ px_op (px_tgt w b [(11, 216)]) (fun v => wc d v [.ref b, v0] w (fun r w' => wp (d + 1) 217 11 [l0, l1] (r.toList ++ []) w' 0 Q))) ∧
  (∀ (d : Nat) (l0 l1 : Option Value) (x : Int32) (w : px_H) (Q : Option Value → px_H → Prop), wp d 217 11 [l0, l1] [.int x] w 0 Q ↔ wp d 217 12 [l0, l1] [.int (-x)] w 0 Q) ∧
  (∀ (d : Nat) (l0 l1 : Option Value) (x : Int32) (w : px_H) (Q : Option Value → px_H → Prop), wp d 217 12 [l0, l1] [.int x] w 0 Q ↔ Q (some (.int x)) w) := ⟨fun d v0 v1 w Q => r_entry pt_217 (Nat.le_of_ble_eq_true rfl) rfl,
  fun d l1 a w Q => px_go (q := (.aload_n 0, 1, px_x0)) (S' := (1, [some (.ref a), l1], [.ref a], w, 0)) pt_217 rfl rfl,
  fun d l0 l1 s0 w Q => r_bipush pt_217 rfl (by decide),
  fun d l0 l1 v0 b w Q => r_callV (q := (.invokevirtual 209, 3, (33, 1, [(11, 206)], 0, ""))) pt_217 rfl rfl (List.forall_mem_cons.mpr ⟨⟨_, pt_206, Nat.le_of_ble_eq_true rfl, (Nat.le_of_ble_eq_true rfl), rfl⟩, fun _ h => absurd h List.not_mem_nil⟩),
  fun d l1 a w Q => px_go (q := (.aload_n 0, 1, px_x0)) (S' := (7, [some (.ref a), l1], [.ref a], w, 0)) pt_217 rfl rfl,
  fun d l0 s0 x w Q => px_go (q := (.iload_n 1, 1, px_x0)) (S' := (8, [l0, some (.int x)], [.int x, s0], w, 0)) pt_217 rfl rfl,
  fun d l0 l1 v0 b w Q => r_callV (q := (.invokevirtual 242, 3, (33, 1, [(11, 216)], 0, ""))) pt_217 rfl rfl (List.forall_mem_cons.mpr ⟨⟨_, pt_216, Nat.le_of_ble_eq_true rfl, (Nat.le_of_ble_eq_true rfl), rfl⟩, fun _ h => absurd h List.not_mem_nil⟩),
  fun d l0 l1 x w Q => px_go (q := (.ineg, 1, px_x0)) (S' := (12, [l0, l1], [.int (-x)], w, 0)) pt_217 rfl rfl,
  fun d l0 l1 x w Q => px_ret (q := (.ireturn, 1, px_x0)) pt_217 rfl rfl⟩
/-- AllSwornModel.sizeOf(I)I -/
theorem S218 : (∀ (d : Nat) (v0 v1 : Value) (w : px_H) (Q : Option Value → px_H → Prop), wc d 218 [v0, v1] w Q ↔ wp d 218 0 [some v0, some v1, none] [] w 0 Q) ∧
  (∀ (d : Nat) (l1 l2 : Option Value) (a : Nat) (w : px_H) (Q : Option Value → px_H → Prop), wp d 218 0 [some (.ref a), l1, l2] [] w 0 Q ↔ wp d 218 1 [some (.ref a), l1, l2] [.ref a] w 0 Q) ∧
  (∀ (d : Nat) (l0 l2 : Option Value) (s0 : Value) (x : Int32) (w : px_H) (Q : Option Value → px_H → Prop), wp d 218 1 [l0, some (.int x), l2] [s0] w 0 Q ↔ wp d 218 2 [l0, some (.int x), l2] [.int x, s0] w 0 Q) ∧
  (∀ (d : Nat) (l0 l1 l2 : Option Value) (s0 s1 : Value)  (w : px_H) (Q : Option Value → px_H → Prop), wp d 218 2 [l0, l1, l2] [s0, s1] w 0 Q ↔ wp d 218 3 [l0, l1, l2] [.int 0, s0, s1] w 0 Q) ∧
  (∀ (d : Nat) (l0 l1 l2 : Option Value) (v0 v1 : Value) (b : Nat) (w : px_H) (Q : Option Value → px_H → Prop), wp (d + 1) 218 3 [l0, l1, l2] [v1, v0, .ref b] w 0 Q ↔ px_op (px_tgt w b [(11, 154)]) (fun v => wc d v [.ref b, v0, v1] w (fun r w' => wp (d + 1) 218 6 [l0, l1, l2] (r.toList ++ []) w' 0 Q))) ∧
  (∀ (d : Nat) (l0 l1 l2 : Option Value) (x : Int32) (w : px_H) (Q : Option Value → px_H → Prop), wp d 218 6 [l0, l1, l2] [.int x] w 0 Q ↔ wp d 218 7 [l0, l1, some (.int x)] [] w 0 Q) ∧
  (∀ (d : Nat) (l0 l1 : Option Value) (x : Int32) (w : px_H) (Q : Option Value → px_H → Prop), wp d 218 7 [l0, l1, some (.int x)] [] w 0 Q ↔ wp d 218 8 [l0, l1, some (.int x)] [.int x] w 0 Q) ∧
  (∀ (d : Nat) (l0 l1 l2 : Option Value) (s0 : Value)  (w : px_H) (Q : Option Value → px_H → Prop), wp d 218 8 [l0, l1, l2] [s0] w 0 Q ↔ wp d 218 9 [l0, l1, l2] [.int 2, s0] w 0 Q) ∧
  (∀ (d : Nat) (l0 l1 l2 : Option Value) (x y : Int32) (w : px_H) (Q : Option Value → px_H → Prop), wp d 218 9 [l0, l1, l2] [.int y, .int x] w 0 Q ↔ if x = y then wp d 218 12 [l0, l1, l2] [] w 0 Q else wp d 218 20 [l0, l1, l2] [] w 0 Q) ∧
  (∀ (d : Nat) (l1 l2 : Option Value) (a : Nat) (w : px_H) (Q : Option Value → px_H → Prop), wp d 218 12 [some (.ref a), l1, l2] [] w 0 Q ↔ wp d 218 13 [some (.ref a), l1, l2] [.ref a] w 0 Q) ∧
  (∀ (d : Nat) (l0 l2 : Option Value) (s0 : Value) (x : Int32) (w : px_H) (Q : Option Value → px_H → Prop), wp d 218 13 [l0, some (.int x), l2] [s0] w 0 Q ↔ wp d 218 14 [l0, some (.int x), l2] [.int x, s0] w 0 Q) ∧
  (∀ (d : Nat) (l0 l1 l2 : Option Value) (v0 : Value) (b : Nat) (w : px_H) (Q : Option Value → px_H → Prop), wp (d + 1) 218 14 [l0, l1, l2] [v0, .ref b] w 0 Q ↔ px_op (px_tgt w b [(11, 217)]) (fun v => wc d v [.ref b, v0] w (fun r w' => wp (d + 1) 218 17 [l0, l1, l2] (r.toList ++ []) w' 0 Q))) ∧
  (∀ (d : Nat) (l0 l1 l2 : Option Value) (s0 : Value)  (w : px_H) (Q : Option Value → px_H → Prop), wp d 218 17 [l0, l1, l2] [s0] w 0 Q ↔ wp d 218 51 [l0, l1, l2] [s0] w 0 Q) ∧
  (∀ (d : Nat) (l0 l1 : Option Value) (x : Int32) (w : px_H) (Q : Option Value → px_H → Prop), wp d 218 20 [l0, l1, some (.int x)] [] w 0 Q ↔ wp d 218 21 [l0, l1, some (.int x)] [.int x] w 0 Q) ∧
  (∀ (d : Nat) (l0 l1 l2 : Option Value) (s0 : Value)  (w : px_H) (Q : Option Value → px_H → Prop), wp d 218 21 [l0, l1, l2] [s0] w 0 Q ↔ wp d 218 22 [l0, l1, l2] [.int 4, s0] w 0 Q) ∧
  (∀ (d : Nat) (l0 l1 l2 : Option Value) (x y : Int32) (w : px_H) (Q : Option Value → px_H → Prop), wp d 218 22 [l0, l1, l2] [.int y, .int x] w 0 Q ↔ if y ≤ x then wp d 218 33 [l0, l1, l2] [] w 0 Q else wp d 218 25 [l0, l1, l2] [] w 0 Q) ∧
  (∀ (d : Nat) (l1 l2 : Option Value) (a : Nat) (w : px_H) (Q : Option Value → px_H → Prop), wp d 218 25 [some (.ref a), l1, l2] [] w 0 Q ↔ wp d 218 26 [some (.ref a), l1, l2] [.ref a] w 0 Q) ∧
  (∀ (d : Nat) (l0 l2 : Option Value) (s0 : Value) (x : Int32) (w : px_H) (Q : Option Value → px_H → Prop), wp d 218 26 [l0, some (.int x), l2] [s0] w 0 Q ↔ wp d 218 27 [l0, some (.int x), l2] [.int x, s0] w 0 Q) ∧
  (∀ (d : Nat) (l0 l1 l2 : Option Value) (v0 : Value) (b : Nat) (w : px_H) (Q : Option Value → px_H → Prop), wp (d + 1) 218 27 [l0, l1, l2] [v0, .ref b] w 0 Q ↔ px_op (px_tgt w b [(11, 216)]) (fun v => wc d v [.ref b, v0] w (fun r w' => wp (d + 1) 218 30 [l0, l1, l2] (r.toList ++ []) w' 0 Q))) ∧
  (∀ (d : Nat) (l0 l1 l2 : Option Value) (s0 : Value)  (w : px_H) (Q : Option Value → px_H → Prop), wp d 218 30 [l0, l1, l2] [s0] w 0 Q ↔ wp d 218 51 [l0, l1, l2] [s0] w 0 Q) ∧
  (∀ (d : Nat) (l0 l1 : Option Value) (x : Int32) (w : px_H) (Q : Option Value → px_H → Prop), wp d 218 33 [l0, l1, some (.int x)] [] w 0 Q ↔ wp d 218 34 [l0, l1, some (.int x)] [.int x] w 0 Q) ∧
  (∀ (d : Nat) (l0 l1 l2 : Option Value) (s0 : Value)  (w : px_H) (Q : Option Value → px_H → Prop), wp d 218 34 [l0, l1, l2] [s0] w 0 Q ↔ wp d 218 35 [l0, l1, l2] [.int 4, s0] w 0 Q) ∧
  (∀ (d : Nat) (l0 l1 l2 : Option Value) (x y : Int32) (w : px_H) (Q : Option Value → px_H → Prop), wp d 218 35 [l0, l1, l2] [.int y, .int x] w 0 Q ↔ if x = y then wp d 218 38 [l0, l1, l2] [] w 0 Q else wp d 218 46 [l0, l1, l2] [] w 0 Q) ∧
  (∀ (d : Nat) (l1 l2 : Option Value) (a : Nat) (w : px_H) (Q : Option Value → px_H → Prop), wp d 218 38 [some (.ref a), l1, l2] [] w 0 Q ↔ wp d 218 39 [some (.ref a), l1, l2] [.ref a] w 0 Q) ∧
  (∀ (d : Nat) (l0 l2 : Option Value) (s0 : Value) (x : Int32) (w : px_H) (Q : Option Value → px_H → Prop), wp d 218 39 [l0, some (.int x), l2] [s0] w 0 Q ↔ wp d 218 40 [l0, some (.int x), l2] [.int x, s0] w 0 Q) ∧
  (∀ (d : Nat) (l0 l1 l2 : Option Value) (v0 : Value) (b : Nat) (w : px_H) (Q : Option Value → px_H → Prop), wp (d + 1) 218 40 [l0, l1, l2] [v0, .ref b] w 0 Q ↔ px_op (px_tgt w b [(11, 210)]) (fun v => wc d v [.ref b, v0] w (fun r w' => wp (d + 1) 218 43 [l0, l1, l2] (r.toList ++ []) w' 0 Q))) ∧
  (∀ (d : Nat) (l0 l1 l2 : Option Value) (s0 : Value)  (w : px_H) (Q : Option Value → px_H → Prop), wp d 218 43 [l0, l1, l2] [s0] w 0 Q ↔ wp d 218 51 [l0, l1, l2] [s0] w 0 Q) ∧
  (∀ (d : Nat) (l1 l2 : Option Value) (a : Nat) (w : px_H) (Q : Option Value → px_H → Prop), wp d 218 46 [some (.ref a), l1, l2] [] w 0 Q ↔ wp d 218 47 [some (.ref a), l1, l2] [.ref a] w 0 Q) ∧
  (∀ (d : Nat) (l0 l2 : Option Value) (s0 : Value) (x : Int32) (w : px_H) (Q : Option Value → px_H → Prop), wp d 218 47 [l0, some (.int x), l2] [s0] w 0 Q ↔ wp d 218 48 [l0, some (.int x), l2] [.int x, s0] w 0 Q) ∧
  (∀ (d : Nat) (l0 l1 l2 : Option Value) (v0 : Value) (b : Nat) (w : px_H) (Q : Option Value → px_H → Prop), wp (d + 1) 218 48 [l0, l1, l2] [v0, .ref b] w 0 Q ↔ px_op (px_tgt w b [(11, 211)]) (fun v => wc d v [.ref b, v0] w (fun r w' => wp (d + 1) 218 51 [l0, l1, l2] (r.toList ++ []) w' 0 Q))) ∧
  (∀ (d : Nat) (l0 l1 l2 : Option Value) (x : Int32) (w : px_H) (Q : Option Value → px_H → Prop), wp d 218 51 [l0, l1, l2] [.int x] w 0 Q ↔ Q (some (.int x)) w) := ⟨fun d v0 v1 w Q => r_entry pt_218 (Nat.le_of_ble_eq_true rfl) rfl,
  fun d l1 l2 a w Q => px_go (q := (.aload_n 0, 1, px_x0)) (S' := (1, [some (.ref a), l1, l2], [.ref a], w, 0)) pt_218 rfl rfl,
  fun d l0 l2 s0 x w Q => px_go (q := (.iload_n 1, 1, px_x0)) (S' := (2, [l0, some (.int x), l2], [.int x, s0], w, 0)) pt_218 rfl rfl,
  fun d l0 l1 l2 s0 s1 w Q => r_iconst pt_218 rfl (by decide),
  fun d l0 l1 l2 v0 v1 b w Q => r_callV (q := (.invokevirtual 136, 3, (33, 2, [(11, 154)], 0, ""))) pt_218 rfl rfl (List.forall_mem_cons.mpr ⟨⟨_, pt_154, Nat.le_of_ble_eq_true rfl, (Nat.le_of_ble_eq_true rfl), rfl⟩, fun _ h => absurd h List.not_mem_nil⟩),
  fun d l0 l1 l2 x w Q => px_go (q := (.istore_n 2, 1, px_x0)) (S' := (7, [l0, l1, some (.int x)], [], w, 0)) pt_218 rfl rfl,
  fun d l0 l1 x w Q => px_go (q := (.iload_n 2, 1, px_x0)) (S' := (8, [l0, l1, some (.int x)], [.int x], w, 0)) pt_218 rfl rfl,
  fun d l0 l1 l2 s0 w Q => r_iconst pt_218 rfl (by decide),
  fun d l0 l1 l2 x y w Q => r_icmp_ne pt_218 rfl rfl,
  fun d l1 l2 a w Q => px_go (q := (.aload_n 0, 1, px_x0)) (S' := (13, [some (.ref a), l1, l2], [.ref a], w, 0)) pt_218 rfl rfl,
  fun d l0 l2 s0 x w Q => px_go (q := (.iload_n 1, 1, px_x0)) (S' := (14, [l0, some (.int x), l2], [.int x, s0], w, 0)) pt_218 rfl rfl,
  fun d l0 l1 l2 v0 b w Q => r_callV (q := (.invokevirtual 245, 3, (33, 1, [(11, 217)], 0, ""))) pt_218 rfl rfl (List.forall_mem_cons.mpr ⟨⟨_, pt_217, Nat.le_of_ble_eq_true rfl, (Nat.le_of_ble_eq_true rfl), rfl⟩, fun _ h => absurd h List.not_mem_nil⟩),
  fun d l0 l1 l2 s0 w Q => r_goto pt_218 rfl rfl,
  fun d l0 l1 x w Q => px_go (q := (.iload_n 2, 1, px_x0)) (S' := (21, [l0, l1, some (.int x)], [.int x], w, 0)) pt_218 rfl rfl,
  fun d l0 l1 l2 s0 w Q => r_iconst pt_218 rfl (by decide),
  fun d l0 l1 l2 x y w Q => r_icmp_ge pt_218 rfl rfl,
  fun d l1 l2 a w Q => px_go (q := (.aload_n 0, 1, px_x0)) (S' := (26, [some (.ref a), l1, l2], [.ref a], w, 0)) pt_218 rfl rfl,
  fun d l0 l2 s0 x w Q => px_go (q := (.iload_n 1, 1, px_x0)) (S' := (27, [l0, some (.int x), l2], [.int x, s0], w, 0)) pt_218 rfl rfl,
  fun d l0 l1 l2 v0 b w Q => r_callV (q := (.invokevirtual 242, 3, (33, 1, [(11, 216)], 0, ""))) pt_218 rfl rfl (List.forall_mem_cons.mpr ⟨⟨_, pt_216, Nat.le_of_ble_eq_true rfl, (Nat.le_of_ble_eq_true rfl), rfl⟩, fun _ h => absurd h List.not_mem_nil⟩),
  fun d l0 l1 l2 s0 w Q => r_goto pt_218 rfl rfl,
  fun d l0 l1 x w Q => px_go (q := (.iload_n 2, 1, px_x0)) (S' := (34, [l0, l1, some (.int x)], [.int x], w, 0)) pt_218 rfl rfl,
  fun d l0 l1 l2 s0 w Q => r_iconst pt_218 rfl (by decide),
  fun d l0 l1 l2 x y w Q => r_icmp_ne pt_218 rfl rfl,
  fun d l1 l2 a w Q => px_go (q := (.aload_n 0, 1, px_x0)) (S' := (39, [some (.ref a), l1, l2], [.ref a], w, 0)) pt_218 rfl rfl,
  fun d l0 l2 s0 x w Q => px_go (q := (.iload_n 1, 1, px_x0)) (S' := (40, [l0, some (.int x), l2], [.int x, s0], w, 0)) pt_218 rfl rfl,
  fun d l0 l1 l2 v0 b w Q => r_callV (q := (.invokevirtual 221, 3, (33, 1, [(11, 210)], 0, ""))) pt_218 rfl rfl (List.forall_mem_cons.mpr ⟨⟨_, pt_210, Nat.le_of_ble_eq_true rfl, (Nat.le_of_ble_eq_true rfl), rfl⟩, fun _ h => absurd h List.not_mem_nil⟩),
  fun d l0 l1 l2 s0 w Q => r_goto pt_218 rfl rfl,
  fun d l1 l2 a w Q => px_go (q := (.aload_n 0, 1, px_x0)) (S' := (47, [some (.ref a), l1, l2], [.ref a], w, 0)) pt_218 rfl rfl,
  fun d l0 l2 s0 x w Q => px_go (q := (.iload_n 1, 1, px_x0)) (S' := (48, [l0, some (.int x), l2], [.int x, s0], w, 0)) pt_218 rfl rfl,
  fun d l0 l1 l2 v0 b w Q => r_callV (q := (.invokevirtual 227, 3, (33, 1, [(11, 211)], 0, ""))) pt_218 rfl rfl (List.forall_mem_cons.mpr ⟨⟨_, pt_211, Nat.le_of_ble_eq_true rfl, (Nat.le_of_ble_eq_true rfl), rfl⟩, fun _ h => absurd h List.not_mem_nil⟩),
  fun d l0 l1 l2 x w Q => px_ret (q := (.ireturn, 1, px_x0)) pt_218 rfl rfl⟩
/-- AllSwornModel.ask(II)I -/
theorem S219 : (∀ (d : Nat) (v0 v1 v2 : Value) (w : px_H) (Q : Option Value → px_H → Prop), wc d 219 [v0, v1, v2] w Q ↔ wp d 219 0 [some v0, some v1, some v2] [] w 0 Q) ∧
  (∀ (d : Nat) (l1 l2 : Option Value) (a : Nat) (w : px_H) (Q : Option Value → px_H → Prop), wp d 219 0 [some (.ref a), l1, l2] [] w 0 Q ↔ wp d 219 1 [some (.ref a), l1, l2] [.ref a] w 0 Q) ∧
  (∀ (d : Nat) (l0 l2 : Option Value) (s0 : Value) (x : Int32) (w : px_H) (Q : Option Value → px_H → Prop), wp d 219 1 [l0, some (.int x), l2] [s0] w 0 Q ↔ wp d 219 2 [l0, some (.int x), l2] [.int x, s0] w 0 Q) ∧
  (∀ (d : Nat) (l0 l1 l2 : Option Value) (v0 : Value) (b : Nat) (w : px_H) (Q : Option Value → px_H → Prop), wp (d + 1) 219 2 [l0, l1, l2] [v0, .ref b] w 0 Q ↔ px_op (px_tgt w b [(11, 152)]) (fun v => wc d v [.ref b, v0] w (fun r w' => wp (d + 1) 219 5 [l0, l1, l2] (r.toList ++ []) w' 0 Q))) ∧
  (∀ (d : Nat) (l0 l1 l2 : Option Value) (x : Int32) (w : px_H) (Q : Option Value → px_H → Prop), wp d 219 5 [l0, l1, l2] [.int x] w 0 Q ↔ if x = 0 then wp d 219 17 [l0, l1, l2] [] w 0 Q else wp d 219 8 [l0, l1, l2] [] w 0 Q) ∧
  (∀ (d : Nat) (l0 l1 : Option Value) (x : Int32) (w : px_H) (Q : Option Value → px_H → Prop), wp d 219 8 [l0, l1, some (.int x)] [] w 0 Q ↔ wp d 219 9 [l0, l1, some (.int x)] [.int x] w 0 Q) ∧
  (∀ (d : Nat) (l0 l1 l2 : Option Value) (s0 : Value)  (w : px_H) (Q : Option Value → px_H → Prop), wp d 219 9 [l0, l1, l2] [s0] w 0 Q ↔ wp d 219 10 [l0, l1, l2] [.int 0, s0] w 0 Q) ∧
  (∀ (d : Nat) (l0 l1 l2 : Option Value) (s0 s1 : Value)  (w : px_H) (Q : Option Value → px_H → Prop), wp d 219 10 [l0, l1, l2] [s0, s1] w 0 Q ↔ wp d 219 11 [l0, l1, l2] [.int 1, s0, s1] w 0 Q) ∧
  (∀ (d : Nat) (l0 l1 l2 : Option Value) (v0 v1 v2 : Value) (w : px_H) (Q : Option Value → px_H → Prop), wp (d + 1) 219 11 [l0, l1, l2] [v2, v1, v0] w 0 Q ↔ wc d 140 [v0, v1, v2] w (fun r w' => wp (d + 1) 219 14 [l0, l1, l2] (r.toList ++ []) w' 0 Q)) ∧
  (∀ (d : Nat) (l0 l1 l2 : Option Value) (x : Int32) (w : px_H) (Q : Option Value → px_H → Prop), wp d 219 14 [l0, l1, l2] [.int x] w 0 Q ↔ if x = 0 then wp d 219 17 [l0, l1, l2] [] w 0 Q else wp d 219 20 [l0, l1, l2] [] w 0 Q) ∧
  (∀ (d : Nat) (l0 l1 l2 : Option Value)  (w : px_H) (Q : Option Value → px_H → Prop), wp d 219 17 [l0, l1, l2] [] w 0 Q ↔ wp d 219 19 [l0, l1, l2] [.int (-1000001)] w 0 Q) ∧
  (∀ (d : Nat) (l0 l1 l2 : Option Value) (x : Int32) (w : px_H) (Q : Option Value → px_H → Prop), wp d 219 19 [l0, l1, l2] [.int x] w 0 Q ↔ Q (some (.int x)) w) ∧
  (∀ (d : Nat) (l1 l2 : Option Value) (a : Nat) (w : px_H) (Q : Option Value → px_H → Prop), wp d 219 20 [some (.ref a), l1, l2] [] w 0 Q ↔ wp d 219 21 [some (.ref a), l1, l2] [.ref a] w 0 Q) ∧
  (∀ (d : Nat) (l0 l1 l2 : Option Value) (s0 : Value)  (w : px_H) (Q : Option Value → px_H → Prop), wp d 219 21 [l0, l1, l2] [s0] w 0 Q ↔ wp d 219 22 [l0, l1, l2] [.int 0, s0] w 0 Q) ∧
  (∀ (d : Nat) (l0 l1 l2 : Option Value) (x : Int32) (a : Nat) (w : px_H) (Q : Option Value → px_H → Prop), wp d 219 22 [l0, l1, l2] [.int x, .ref a] w 0 Q ↔ px_op (px_pfd w a [(11, 0)] 22 (.int x)) (fun w' => wp d 219 25 [l0, l1, l2] [] w' 0 Q)) ∧
  (∀ (d : Nat) (l0 l1 : Option Value) (x : Int32) (w : px_H) (Q : Option Value → px_H → Prop), wp d 219 25 [l0, l1, some (.int x)] [] w 0 Q ↔ wp d 219 26 [l0, l1, some (.int x)] [.int x] w 0 Q) ∧
  (∀ (d : Nat) (l0 l1 l2 : Option Value) (x : Int32) (w : px_H) (Q : Option Value → px_H → Prop), wp d 219 26 [l0, l1, l2] [.int x] w 0 Q ↔ if x = 0 then wp d 219 29 [l0, l1, l2] [] w 0 Q else wp d 219 37 [l0, l1, l2] [] w 0 Q) ∧
  (∀ (d : Nat) (l1 l2 : Option Value) (a : Nat) (w : px_H) (Q : Option Value → px_H → Prop), wp d 219 29 [some (.ref a), l1, l2] [] w 0 Q ↔ wp d 219 30 [some (.ref a), l1, l2] [.ref a] w 0 Q) ∧
  (∀ (d : Nat) (l0 l2 : Option Value) (s0 : Value) (x : Int32) (w : px_H) (Q : Option Value → px_H → Prop), wp d 219 30 [l0, some (.int x), l2] [s0] w 0 Q ↔ wp d 219 31 [l0, some (.int x), l2] [.int x, s0] w 0 Q) ∧
  (∀ (d : Nat) (l0 l1 l2 : Option Value) (v0 : Value) (b : Nat) (w : px_H) (Q : Option Value → px_H → Prop), wp (d + 1) 219 31 [l0, l1, l2] [v0, .ref b] w 0 Q ↔ px_op (px_tgt w b [(11, 218)]) (fun v => wc d v [.ref b, v0] w (fun r w' => wp (d + 1) 219 34 [l0, l1, l2] (r.toList ++ []) w' 0 Q))) ∧
  (∀ (d : Nat) (l0 l1 l2 : Option Value) (s0 : Value)  (w : px_H) (Q : Option Value → px_H → Prop), wp d 219 34 [l0, l1, l2] [s0] w 0 Q ↔ wp d 219 42 [l0, l1, l2] [s0] w 0 Q) ∧
  (∀ (d : Nat) (l1 l2 : Option Value) (a : Nat) (w : px_H) (Q : Option Value → px_H → Prop), wp d 219 37 [some (.ref a), l1, l2] [] w 0 Q ↔ wp d 219 38 [some (.ref a), l1, l2] [.ref a] w 0 Q) ∧
  (∀ (d : Nat) (l0 l2 : Option Value) (s0 : Value) (x : Int32) (w : px_H) (Q : Option Value → px_H → Prop), wp d 219 38 [l0, some (.int x), l2] [s0] w 0 Q ↔ wp d 219 39 [l0, some (.int x), l2] [.int x, s0] w 0 Q) ∧
  (∀ (d : Nat) (l0 l1 l2 : Option Value) (v0 : Value) (b : Nat) (w : px_H) (Q : Option Value → px_H → Prop), wp (d + 1) 219 39 [l0, l1, l2] [v0, .ref b] w 0 Q ↔ px_op (px_tgt w b [(11, 215)]) (fun v => wc d v [.ref b, v0] w (fun r w' => wp (d + 1) 219 42 [l0, l1, l2] (r.toList ++ []) w' 0 Q))) ∧
  (∀ (d : Nat) (l0 l1 l2 : Option Value) (x : Int32) (w : px_H) (Q : Option Value → px_H → Prop), wp d 219 42 [l0, l1, l2] [.int x] w 0 Q ↔ Q (some (.int x)) w) := ⟨fun d v0 v1 v2 w Q => r_entry pt_219 (Nat.le_of_ble_eq_true rfl) rfl,
  fun d l1 l2 a w Q => px_go (q := (.aload_n 0, 1, px_x0)) (S' := (1, [some (.ref a), l1, l2], [.ref a], w, 0)) pt_219 rfl rfl,
  fun d l0 l2 s0 x w Q => px_go (q := (.iload_n 1, 1, px_x0)) (S' := (2, [l0, some (.int x), l2], [.int x, s0], w, 0)) pt_219 rfl rfl,
  fun d l0 l1 l2 v0 b w Q => r_callV (q := (.invokevirtual 152, 3, (33, 1, [(11, 152)], 0, ""))) pt_219 rfl rfl (List.forall_mem_cons.mpr ⟨⟨_, pt_152, Nat.le_of_ble_eq_true rfl, (Nat.le_of_ble_eq_true rfl), rfl⟩, fun _ h => absurd h List.not_mem_nil⟩),
  fun d l0 l1 l2 x w Q => r_if_eq pt_219 rfl rfl,
  fun d l0 l1 x w Q => px_go (q := (.iload_n 2, 1, px_x0)) (S' := (9, [l0, l1, some (.int x)], [.int x], w, 0)) pt_219 rfl rfl,
  fun d l0 l1 l2 s0 w Q => r_iconst pt_219 rfl (by decide),
  fun d l0 l1 l2 s0 s1 w Q => r_iconst pt_219 rfl (by decide),
  fun d l0 l1 l2 v0 v1 v2 w Q => r_call (q := (.invokestatic 50, 3, (30, 3, [(0, 140)], 0, ""))) pt_219 rfl rfl pt_140 (Nat.le_of_ble_eq_true rfl) (Nat.le_of_ble_eq_true rfl) rfl,
  fun d l0 l1 l2 x w Q => r_if_ne pt_219 rfl rfl,
  fun d l0 l1 l2 w Q => px_go (q := (.ldc 58, 2, (0, 0, [], (-1000001), ""))) (S' := (19, [l0, l1, l2], [.int (-1000001)], w, 0)) pt_219 rfl rfl,
  fun d l0 l1 l2 x w Q => px_ret (q := (.ireturn, 1, px_x0)) pt_219 rfl rfl,
  fun d l1 l2 a w Q => px_go (q := (.aload_n 0, 1, px_x0)) (S' := (21, [some (.ref a), l1, l2], [.ref a], w, 0)) pt_219 rfl rfl,
  fun d l0 l1 l2 s0 w Q => r_iconst pt_219 rfl (by decide),
  fun d l0 l1 l2 x a w Q => r_put pt_219 rfl (by simp only [List.all_cons, List.all_nil, ft_11_22, px_fit, px_isr, Bool.and_self]),
  fun d l0 l1 x w Q => px_go (q := (.iload_n 2, 1, px_x0)) (S' := (26, [l0, l1, some (.int x)], [.int x], w, 0)) pt_219 rfl rfl,
  fun d l0 l1 l2 x w Q => r_if_ne pt_219 rfl rfl,
  fun d l1 l2 a w Q => px_go (q := (.aload_n 0, 1, px_x0)) (S' := (30, [some (.ref a), l1, l2], [.ref a], w, 0)) pt_219 rfl rfl,
  fun d l0 l2 s0 x w Q => px_go (q := (.iload_n 1, 1, px_x0)) (S' := (31, [l0, some (.int x), l2], [.int x, s0], w, 0)) pt_219 rfl rfl,
  fun d l0 l1 l2 v0 b w Q => r_callV (q := (.invokevirtual 248, 3, (33, 1, [(11, 218)], 0, ""))) pt_219 rfl rfl (List.forall_mem_cons.mpr ⟨⟨_, pt_218, Nat.le_of_ble_eq_true rfl, (Nat.le_of_ble_eq_true rfl), rfl⟩, fun _ h => absurd h List.not_mem_nil⟩),
  fun d l0 l1 l2 s0 w Q => r_goto pt_219 rfl rfl,
  fun d l1 l2 a w Q => px_go (q := (.aload_n 0, 1, px_x0)) (S' := (38, [some (.ref a), l1, l2], [.ref a], w, 0)) pt_219 rfl rfl,
  fun d l0 l2 s0 x w Q => px_go (q := (.iload_n 1, 1, px_x0)) (S' := (39, [l0, some (.int x), l2], [.int x, s0], w, 0)) pt_219 rfl rfl,
  fun d l0 l1 l2 v0 b w Q => r_callV (q := (.invokevirtual 239, 3, (33, 1, [(11, 215)], 0, ""))) pt_219 rfl rfl (List.forall_mem_cons.mpr ⟨⟨_, pt_215, Nat.le_of_ble_eq_true rfl, (Nat.le_of_ble_eq_true rfl), rfl⟩, fun _ h => absurd h List.not_mem_nil⟩),
  fun d l0 l1 l2 x w Q => px_ret (q := (.ireturn, 1, px_x0)) pt_219 rfl rfl⟩
/-- AllSwornModel.trace(I)I -/
theorem S220 : (∀ (d : Nat) (v0 v1 : Value) (w : px_H) (Q : Option Value → px_H → Prop), wc d 220 [v0, v1] w Q ↔ wp d 220 0 [some v0, some v1] [] w 0 Q) ∧
  (∀ (d : Nat) (l0 : Option Value) (x : Int32) (w : px_H) (Q : Option Value → px_H → Prop), wp d 220 0 [l0, some (.int x)] [] w 0 Q ↔ wp d 220 1 [l0, some (.int x)] [.int x] w 0 Q) ∧
  (∀ (d : Nat) (l0 l1 : Option Value) (s0 : Value)  (w : px_H) (Q : Option Value → px_H → Prop), wp d 220 1 [l0, l1] [s0] w 0 Q ↔ wp d 220 2 [l0, l1] [.int 0, s0] w 0 Q) ∧
  (∀ (d : Nat) (l1 : Option Value) (s0 s1 : Value) (a : Nat) (w : px_H) (Q : Option Value → px_H → Prop), wp d 220 2 [some (.ref a), l1] [s0, s1] w 0 Q ↔ wp d 220 3 [some (.ref a), l1] [.ref a, s0, s1] w 0 Q) ∧
  (∀ (d : Nat) (l0 l1 : Option Value) (s1 s2 : Value) (a : Nat) (w : px_H) (Q : Option Value → px_H → Prop), wp d 220 3 [l0, l1] [.ref a, s1, s2] w 0 Q ↔ px_op (px_fld w a [(11, 0)] 22) (fun v => wp d 220 6 [l0, l1] [v, s1, s2] w 0 Q)) ∧
  (∀ (d : Nat) (l0 l1 : Option Value) (s0 s1 s2 : Value)  (w : px_H) (Q : Option Value → px_H → Prop), wp d 220 6 [l0, l1] [s0, s1, s2] w 0 Q ↔ wp d 220 7 [l0, l1] [.int 1, s0, s1, s2] w 0 Q) ∧
  (∀ (d : Nat) (l0 l1 : Option Value) (s2 s3 : Value) (x y : Int32) (w : px_H) (Q : Option Value → px_H → Prop), wp d 220 7 [l0, l1] [.int y, .int x, s2, s3] w 0 Q ↔ wp d 220 8 [l0, l1] [.int (x - y), s2, s3] w 0 Q) ∧
  (∀ (d : Nat) (l0 l1 : Option Value) (v0 v1 v2 : Value) (w : px_H) (Q : Option Value → px_H → Prop), wp (d + 1) 220 8 [l0, l1] [v2, v1, v0] w 0 Q ↔ wc d 140 [v0, v1, v2] w (fun r w' => wp (d + 1) 220 11 [l0, l1] (r.toList ++ []) w' 0 Q)) ∧
  (∀ (d : Nat) (l0 l1 : Option Value) (x : Int32) (w : px_H) (Q : Option Value → px_H → Prop), wp d 220 11 [l0, l1] [.int x] w 0 Q ↔ if x = 0 then wp d 220 23 [l0, l1] [] w 0 Q else wp d 220 14 [l0, l1] [] w 0 Q) ∧
  (∀ (d : Nat) (l1 : Option Value) (a : Nat) (w : px_H) (Q : Option Value → px_H → Prop), wp d 220 14 [some (.ref a), l1] [] w 0 Q ↔ wp d 220 15 [some (.ref a), l1] [.ref a] w 0 Q) ∧
  (∀ (d : Nat) (l0 l1 : Option Value) (a : Nat) (w : px_H) (Q : Option Value → px_H → Prop), wp d 220 15 [l0, l1] [.ref a] w 0 Q ↔ px_op (px_fld w a [(11, 0)] 21) (fun v => wp d 220 18 [l0, l1] [v] w 0 Q)) ∧
  (∀ (d : Nat) (l0 : Option Value) (s0 : Value) (x : Int32) (w : px_H) (Q : Option Value → px_H → Prop), wp d 220 18 [l0, some (.int x)] [s0] w 0 Q ↔ wp d 220 19 [l0, some (.int x)] [.int x, s0] w 0 Q) ∧
  (∀ (d : Nat) (l0 l1 : Option Value) (i : Int32) (a : Nat) (w : px_H) (Q : Option Value → px_H → Prop), wp d 220 19 [l0, l1] [.int i, .ref a] w 0 Q ↔ px_op (px_ald w a i .int) (fun x => wp d 220 20 [l0, l1] [.int x] w 0 Q)) ∧
  (∀ (d : Nat) (l0 l1 : Option Value) (s0 : Value)  (w : px_H) (Q : Option Value → px_H → Prop), wp d 220 20 [l0, l1] [s0] w 0 Q ↔ wp d 220 25 [l0, l1] [s0] w 0 Q) ∧
  (∀ (d : Nat) (l0 l1 : Option Value)  (w : px_H) (Q : Option Value → px_H → Prop), wp d 220 23 [l0, l1] [] w 0 Q ↔ wp d 220 25 [l0, l1] [.int (-1000000)] w 0 Q) ∧
  (∀ (d : Nat) (l0 l1 : Option Value) (x : Int32) (w : px_H) (Q : Option Value → px_H → Prop), wp d 220 25 [l0, l1] [.int x] w 0 Q ↔ Q (some (.int x)) w) := ⟨fun d v0 v1 w Q => r_entry pt_220 (Nat.le_of_ble_eq_true rfl) rfl,
  fun d l0 x w Q => px_go (q := (.iload_n 1, 1, px_x0)) (S' := (1, [l0, some (.int x)], [.int x], w, 0)) pt_220 rfl rfl,
  fun d l0 l1 s0 w Q => r_iconst pt_220 rfl (by decide),
  fun d l1 s0 s1 a w Q => px_go (q := (.aload_n 0, 1, px_x0)) (S' := (3, [some (.ref a), l1], [.ref a, s0, s1], w, 0)) pt_220 rfl rfl,
  fun d l0 l1 s1 s2 a w Q => px_goO (q := (.getfield 206, 3, (10, 22, [(11, 0)], 0, "AllSwornModel"))) (S' := fun v => (6, [l0, l1], [v, s1, s2], w, 0)) pt_220 rfl rfl,
  fun d l0 l1 s0 s1 s2 w Q => r_iconst pt_220 rfl (by decide),
  fun d l0 l1 s2 s3 x y w Q => px_go (q := (.isub, 1, px_x0)) (S' := (8, [l0, l1], [.int (x - y), s2, s3], w, 0)) pt_220 rfl rfl,
  fun d l0 l1 v0 v1 v2 w Q => r_call (q := (.invokestatic 50, 3, (30, 3, [(0, 140)], 0, ""))) pt_220 rfl rfl pt_140 (Nat.le_of_ble_eq_true rfl) (Nat.le_of_ble_eq_true rfl) rfl,
  fun d l0 l1 x w Q => r_if_eq pt_220 rfl rfl,
  fun d l1 a w Q => px_go (q := (.aload_n 0, 1, px_x0)) (S' := (15, [some (.ref a), l1], [.ref a], w, 0)) pt_220 rfl rfl,
  fun d l0 l1 a w Q => px_goO (q := (.getfield 39, 3, (10, 21, [(11, 0)], 0, "AllSwornModel"))) (S' := fun v => (18, [l0, l1], [v], w, 0)) pt_220 rfl rfl,
  fun d l0 s0 x w Q => px_go (q := (.iload_n 1, 1, px_x0)) (S' := (19, [l0, some (.int x)], [.int x, s0], w, 0)) pt_220 rfl rfl,
  fun d l0 l1 i a w Q => px_goO (q := (.iaload, 1, px_x0)) (S' := fun x => (20, [l0, l1], [.int x], w, 0)) pt_220 rfl rfl,
  fun d l0 l1 s0 w Q => r_goto pt_220 rfl rfl,
  fun d l0 l1 w Q => px_go (q := (.ldc 119, 2, (0, 0, [], (-1000000), ""))) (S' := (25, [l0, l1], [.int (-1000000)], w, 0)) pt_220 rfl rfl,
  fun d l0 l1 x w Q => px_ret (q := (.ireturn, 1, px_x0)) pt_220 rfl rfl⟩
/-- AllSwornModel.count(I)I heads: [4] -/
theorem S221 : (∀ (d : Nat) (v0 v1 : Value) (w : px_H) (Q : Option Value → px_H → Prop), wc d 221 [v0, v1] w Q ↔ wp d 221 0 [some v0, some v1, none, none] [] w 0 Q) ∧
  (∀ (d : Nat) (l0 l1 l2 l3 : Option Value)  (w : px_H) (Q : Option Value → px_H → Prop), wp d 221 0 [l0, l1, l2, l3] [] w 0 Q ↔ wp d 221 1 [l0, l1, l2, l3] [.int 0] w 0 Q) ∧
  (∀ (d : Nat) (l0 l1 l2 l3 : Option Value) (x : Int32) (w : px_H) (Q : Option Value → px_H → Prop), wp d 221 1 [l0, l1, l2, l3] [.int x] w 0 Q ↔ wp d 221 2 [l0, l1, some (.int x), l3] [] w 0 Q) ∧
  (∀ (d : Nat) (l0 l1 l2 l3 : Option Value)  (w : px_H) (Q : Option Value → px_H → Prop), wp d 221 2 [l0, l1, l2, l3] [] w 0 Q ↔ wp d 221 3 [l0, l1, l2, l3] [.int 0] w 0 Q) ∧
  (∀ (d : Nat) (l0 l1 l2 l3 : Option Value) (x : Int32) (w : px_H) (Q : Option Value → px_H → Prop), wp d 221 3 [l0, l1, l2, l3] [.int x] w 0 Q ↔ wp d 221 4 [l0, l1, l2, some (.int x)] [] w 0 Q) ∧
  (∀ (d : Nat) (l0 l1 l2 l3 : Option Value) (s0 : Value)  (w : px_H) (Q : Option Value → px_H → Prop), wp d 221 5 [l0, l1, l2, l3] [s0] w 0 Q ↔ wp d 221 7 [l0, l1, l2, l3] [.int 8, s0] w 0 Q) ∧
  (∀ (d : Nat) (l0 l1 l2 l3 : Option Value) (x y : Int32) (w : px_H) (Q : Option Value → px_H → Prop), wp d 221 7 [l0, l1, l2, l3] [.int y, .int x] w 0 Q ↔ if y ≤ x then wp d 221 33 [l0, l1, l2, l3] [] w 0 Q else wp d 221 10 [l0, l1, l2, l3] [] w 0 Q) ∧
  (∀ (d : Nat) (l0 l1 l3 : Option Value) (x : Int32) (w : px_H) (Q : Option Value → px_H → Prop), wp d 221 10 [l0, l1, some (.int x), l3] [] w 0 Q ↔ wp d 221 11 [l0, l1, some (.int x), l3] [.int x] w 0 Q) ∧
  (∀ (d : Nat) (l1 l2 l3 : Option Value) (s0 : Value) (a : Nat) (w : px_H) (Q : Option Value → px_H → Prop), wp d 221 11 [some (.ref a), l1, l2, l3] [s0] w 0 Q ↔ wp d 221 12 [some (.ref a), l1, l2, l3] [.ref a, s0] w 0 Q) ∧
  (∀ (d : Nat) (l0 l1 l2 l3 : Option Value) (s1 : Value) (a : Nat) (w : px_H) (Q : Option Value → px_H → Prop), wp d 221 12 [l0, l1, l2, l3] [.ref a, s1] w 0 Q ↔ px_op (px_fld w a [(11, 0)] 0) (fun v => wp d 221 15 [l0, l1, l2, l3] [v, s1] w 0 Q)) ∧
  (∀ (d : Nat) (l0 l1 l2 : Option Value) (s0 s1 : Value) (x : Int32) (w : px_H) (Q : Option Value → px_H → Prop), wp d 221 15 [l0, l1, l2, some (.int x)] [s0, s1] w 0 Q ↔ wp d 221 16 [l0, l1, l2, some (.int x)] [.int x, s0, s1] w 0 Q) ∧
  (∀ (d : Nat) (l0 l1 l2 l3 : Option Value) (s2 : Value) (i : Int32) (a : Nat) (w : px_H) (Q : Option Value → px_H → Prop), wp d 221 16 [l0, l1, l2, l3] [.int i, .ref a, s2] w 0 Q ↔ px_op (px_ald w a i .int) (fun x => wp d 221 17 [l0, l1, l2, l3] [.int x, s2] w 0 Q)) ∧
  (∀ (d : Nat) (l0 l1 l2 l3 : Option Value) (s1 : Value) (x : Int32) (w : px_H) (Q : Option Value → px_H → Prop), wp d 221 17 [l0, l1, l2, l3] [.int x, s1] w 0 Q ↔ if x = 0 then wp d 221 20 [l0, l1, l2, l3] [s1] w 0 Q else wp d 221 24 [l0, l1, l2, l3] [s1] w 0 Q) ∧
  (∀ (d : Nat) (l0 l1 l2 l3 : Option Value) (s0 : Value)  (w : px_H) (Q : Option Value → px_H → Prop), wp d 221 20 [l0, l1, l2, l3] [s0] w 0 Q ↔ wp d 221 21 [l0, l1, l2, l3] [.int 0, s0] w 0 Q) ∧
  (∀ (d : Nat) (l0 l1 l2 l3 : Option Value) (s0 s1 : Value)  (w : px_H) (Q : Option Value → px_H → Prop), wp d 221 21 [l0, l1, l2, l3] [s0, s1] w 0 Q ↔ wp d 221 25 [l0, l1, l2, l3] [s0, s1] w 0 Q) ∧
  (∀ (d : Nat) (l0 l1 l2 l3 : Option Value) (s0 : Value)  (w : px_H) (Q : Option Value → px_H → Prop), wp d 221 24 [l0, l1, l2, l3] [s0] w 0 Q ↔ wp d 221 25 [l0, l1, l2, l3] [.int 1, s0] w 0 Q) ∧
  (∀ (d : Nat) (l0 l1 l2 l3 : Option Value) (x y : Int32) (w : px_H) (Q : Option Value → px_H → Prop), wp d 221 25 [l0, l1, l2, l3] [.int y, .int x] w 0 Q ↔ wp d 221 26 [l0, l1, l2, l3] [.int (x + y)] w 0 Q) ∧
  (∀ (d : Nat) (l0 l1 l2 l3 : Option Value) (x : Int32) (w : px_H) (Q : Option Value → px_H → Prop), wp d 221 26 [l0, l1, l2, l3] [.int x] w 0 Q ↔ wp d 221 27 [l0, l1, some (.int x), l3] [] w 0 Q) ∧
  (∀ (d : Nat) (l0 l1 l2 : Option Value) (x : Int32) (w : px_H) (Q : Option Value → px_H → Prop), wp d 221 27 [l0, l1, l2, some (.int x)] [] w 0 Q ↔ wp d 221 30 [l0, l1, l2, some (.int (x + 1))] [] w 0 Q) ∧
  (∀ (d : Nat) (l0 l1 l2 l3 : Option Value)  (w : px_H) (Q : Option Value → px_H → Prop), wp d 221 30 [l0, l1, l2, l3] [] w 0 Q ↔ wp d 221 4 [l0, l1, l2, l3] [] w 0 Q) ∧
  (∀ (d : Nat) (l0 l2 l3 : Option Value) (x : Int32) (w : px_H) (Q : Option Value → px_H → Prop), wp d 221 33 [l0, some (.int x), l2, l3] [] w 0 Q ↔ wp d 221 34 [l0, some (.int x), l2, l3] [.int x] w 0 Q) ∧
  (∀ (d : Nat) (l0 l1 l2 l3 : Option Value) (x : Int32) (w : px_H) (Q : Option Value → px_H → Prop), wp d 221 34 [l0, l1, l2, l3] [.int x] w 0 Q ↔ px_op (px_tsw 34 88 0 7 #[46, 48, 54, 60, 66, 72, 78, 83] x) (fun t => wp d 221 t [l0, l1, l2, l3] [] w 0 Q)) ∧
  (∀ (d : Nat) (l0 l1 l3 : Option Value) (x : Int32) (w : px_H) (Q : Option Value → px_H → Prop), wp d 221 80 [l0, l1, some (.int x), l3] [] w 0 Q ↔ wp d 221 81 [l0, l1, some (.int x), l3] [.int x] w 0 Q) ∧
  (∀ (d : Nat) (l0 l1 l2 l3 : Option Value) (x : Int32) (w : px_H) (Q : Option Value → px_H → Prop), wp d 221 81 [l0, l1, l2, l3] [.int x] w 0 Q ↔ Q (some (.int x)) w) ∧
  (∀ (d : Nat) (l1 l2 l3 : Option Value) (a : Nat) (w : px_H) (Q : Option Value → px_H → Prop), wp d 221 82 [some (.ref a), l1, l2, l3] [] w 0 Q ↔ wp d 221 83 [some (.ref a), l1, l2, l3] [.ref a] w 0 Q) ∧
  (∀ (d : Nat) (l0 l1 l2 l3 : Option Value) (s0 : Value)  (w : px_H) (Q : Option Value → px_H → Prop), wp d 221 83 [l0, l1, l2, l3] [s0] w 0 Q ↔ wp d 221 84 [l0, l1, l2, l3] [.int 1, s0] w 0 Q) ∧
  (∀ (d : Nat) (l0 l1 l2 l3 : Option Value) (v0 : Value) (b : Nat) (w : px_H) (Q : Option Value → px_H → Prop), wp (d + 1) 221 84 [l0, l1, l2, l3] [v0, .ref b] w 0 Q ↔ px_op (px_tgt w b [(11, 149)]) (fun v => wc d v [.ref b, v0] w (fun r w' => wp (d + 1) 221 87 [l0, l1, l2, l3] (r.toList ++ []) w' 0 Q))) ∧
  (∀ (d : Nat) (l0 l1 l2 l3 : Option Value) (x : Int32) (w : px_H) (Q : Option Value → px_H → Prop), wp d 221 87 [l0, l1, l2, l3] [.int x] w 0 Q ↔ Q (some (.int x)) w) ∧
  (∀ (d : Nat) (l1 l2 l3 : Option Value) (a : Nat) (w : px_H) (Q : Option Value → px_H → Prop), wp d 221 88 [some (.ref a), l1, l2, l3] [] w 0 Q ↔ wp d 221 89 [some (.ref a), l1, l2, l3] [.ref a] w 0 Q) ∧
  (∀ (d : Nat) (l0 l1 l2 l3 : Option Value) (s0 : Value)  (w : px_H) (Q : Option Value → px_H → Prop), wp d 221 89 [l0, l1, l2, l3] [s0] w 0 Q ↔ wp d 221 90 [l0, l1, l2, l3] [.int 2, s0] w 0 Q) ∧
  (∀ (d : Nat) (l0 l1 l2 l3 : Option Value) (v0 : Value) (b : Nat) (w : px_H) (Q : Option Value → px_H → Prop), wp (d + 1) 221 90 [l0, l1, l2, l3] [v0, .ref b] w 0 Q ↔ px_op (px_tgt w b [(11, 149)]) (fun v => wc d v [.ref b, v0] w (fun r w' => wp (d + 1) 221 93 [l0, l1, l2, l3] (r.toList ++ []) w' 0 Q))) ∧
  (∀ (d : Nat) (l0 l1 l2 l3 : Option Value) (x : Int32) (w : px_H) (Q : Option Value → px_H → Prop), wp d 221 93 [l0, l1, l2, l3] [.int x] w 0 Q ↔ Q (some (.int x)) w) ∧
  (∀ (d : Nat) (l1 l2 l3 : Option Value) (a : Nat) (w : px_H) (Q : Option Value → px_H → Prop), wp d 221 94 [some (.ref a), l1, l2, l3] [] w 0 Q ↔ wp d 221 95 [some (.ref a), l1, l2, l3] [.ref a] w 0 Q) ∧
  (∀ (d : Nat) (l0 l1 l2 l3 : Option Value) (s0 : Value)  (w : px_H) (Q : Option Value → px_H → Prop), wp d 221 95 [l0, l1, l2, l3] [s0] w 0 Q ↔ wp d 221 96 [l0, l1, l2, l3] [.int 3, s0] w 0 Q) ∧
  (∀ (d : Nat) (l0 l1 l2 l3 : Option Value) (v0 : Value) (b : Nat) (w : px_H) (Q : Option Value → px_H → Prop), wp (d + 1) 221 96 [l0, l1, l2, l3] [v0, .ref b] w 0 Q ↔ px_op (px_tgt w b [(11, 149)]) (fun v => wc d v [.ref b, v0] w (fun r w' => wp (d + 1) 221 99 [l0, l1, l2, l3] (r.toList ++ []) w' 0 Q))) ∧
  (∀ (d : Nat) (l0 l1 l2 l3 : Option Value) (x : Int32) (w : px_H) (Q : Option Value → px_H → Prop), wp d 221 99 [l0, l1, l2, l3] [.int x] w 0 Q ↔ Q (some (.int x)) w) ∧
  (∀ (d : Nat) (l1 l2 l3 : Option Value) (a : Nat) (w : px_H) (Q : Option Value → px_H → Prop), wp d 221 100 [some (.ref a), l1, l2, l3] [] w 0 Q ↔ wp d 221 101 [some (.ref a), l1, l2, l3] [.ref a] w 0 Q) ∧
  (∀ (d : Nat) (l0 l1 l2 l3 : Option Value) (s0 : Value)  (w : px_H) (Q : Option Value → px_H → Prop), wp d 221 101 [l0, l1, l2, l3] [s0] w 0 Q ↔ wp d 221 102 [l0, l1, l2, l3] [.int 4, s0] w 0 Q) ∧
  (∀ (d : Nat) (l0 l1 l2 l3 : Option Value) (v0 : Value) (b : Nat) (w : px_H) (Q : Option Value → px_H → Prop), wp (d + 1) 221 102 [l0, l1, l2, l3] [v0, .ref b] w 0 Q ↔ px_op (px_tgt w b [(11, 149)]) (fun v => wc d v [.ref b, v0] w (fun r w' => wp (d + 1) 221 105 [l0, l1, l2, l3] (r.toList ++ []) w' 0 Q))) ∧
  (∀ (d : Nat) (l0 l1 l2 l3 : Option Value) (x : Int32) (w : px_H) (Q : Option Value → px_H → Prop), wp d 221 105 [l0, l1, l2, l3] [.int x] w 0 Q ↔ Q (some (.int x)) w) ∧
  (∀ (d : Nat) (l1 l2 l3 : Option Value) (a : Nat) (w : px_H) (Q : Option Value → px_H → Prop), wp d 221 106 [some (.ref a), l1, l2, l3] [] w 0 Q ↔ wp d 221 107 [some (.ref a), l1, l2, l3] [.ref a] w 0 Q) ∧
  (∀ (d : Nat) (l0 l1 l2 l3 : Option Value) (s0 : Value)  (w : px_H) (Q : Option Value → px_H → Prop), wp d 221 107 [l0, l1, l2, l3] [s0] w 0 Q ↔ wp d 221 108 [l0, l1, l2, l3] [.int 0, s0] w 0 Q) ∧
  (∀ (d : Nat) (l0 l1 l2 l3 : Option Value) (v0 : Value) (b : Nat) (w : px_H) (Q : Option Value → px_H → Prop), wp (d + 1) 221 108 [l0, l1, l2, l3] [v0, .ref b] w 0 Q ↔ px_op (px_tgt w b [(11, 149)]) (fun v => wc d v [.ref b, v0] w (fun r w' => wp (d + 1) 221 111 [l0, l1, l2, l3] (r.toList ++ []) w' 0 Q))) ∧
  (∀ (d : Nat) (l0 l1 l2 l3 : Option Value) (x : Int32) (w : px_H) (Q : Option Value → px_H → Prop), wp d 221 111 [l0, l1, l2, l3] [.int x] w 0 Q ↔ Q (some (.int x)) w) ∧
  (∀ (d : Nat) (l1 l2 l3 : Option Value) (a : Nat) (w : px_H) (Q : Option Value → px_H → Prop), wp d 221 112 [some (.ref a), l1, l2, l3] [] w 0 Q ↔ wp d 221 113 [some (.ref a), l1, l2, l3] [.ref a] w 0 Q) ∧
  (∀ (d : Nat) (l0 l1 l2 l3 : Option Value) (a : Nat) (w : px_H) (Q : Option Value → px_H → Prop), wp d 221 113 [l0, l1, l2, l3] [.ref a] w 0 Q ↔ px_op (px_fld w a [(11, 0)] 8) (fun v => wp d 221 116 [l0, l1, l2, l3] [v] w 0 Q)) ∧
  (∀ (d : Nat) (l0 l1 l2 l3 : Option Value) (x : Int32) (w : px_H) (Q : Option Value → px_H → Prop), wp d 221 116 [l0, l1, l2, l3] [.int x] w 0 Q ↔ Q (some (.int x)) w) ∧
  (∀ (d : Nat) (l1 l2 l3 : Option Value) (a : Nat) (w : px_H) (Q : Option Value → px_H → Prop), wp d 221 117 [some (.ref a), l1, l2, l3] [] w 0 Q ↔ wp d 221 118 [some (.ref a), l1, l2, l3] [.ref a] w 0 Q) ∧
  (∀ (d : Nat) (l0 l1 l2 l3 : Option Value) (a : Nat) (w : px_H) (Q : Option Value → px_H → Prop), wp d 221 118 [l0, l1, l2, l3] [.ref a] w 0 Q ↔ px_op (px_fld w a [(11, 0)] 10) (fun v => wp d 221 121 [l0, l1, l2, l3] [v] w 0 Q)) ∧
  (∀ (d : Nat) (l0 l1 l2 l3 : Option Value) (x : Int32) (w : px_H) (Q : Option Value → px_H → Prop), wp d 221 121 [l0, l1, l2, l3] [.int x] w 0 Q ↔ Q (some (.int x)) w) ∧
  (∀ (d : Nat) (l0 l1 l2 l3 : Option Value)  (w : px_H) (Q : Option Value → px_H → Prop), wp d 221 122 [l0, l1, l2, l3] [] w 0 Q ↔ wp d 221 124 [l0, l1, l2, l3] [.int (-1000001)] w 0 Q) ∧
  (∀ (d : Nat) (l0 l1 l2 l3 : Option Value) (x : Int32) (w : px_H) (Q : Option Value → px_H → Prop), wp d 221 124 [l0, l1, l2, l3] [.int x] w 0 Q ↔ Q (some (.int x)) w) := ⟨fun d v0 v1 w Q => r_entry pt_221 (Nat.le_of_ble_eq_true rfl) rfl,
  fun d l0 l1 l2 l3 w Q => r_iconst pt_221 rfl (by decide),
  fun d l0 l1 l2 l3 x w Q => px_go (q := (.istore_n 2, 1, px_x0)) (S' := (2, [l0, l1, some (.int x), l3], [], w, 0)) pt_221 rfl rfl,
  fun d l0 l1 l2 l3 w Q => r_iconst pt_221 rfl (by decide),
  fun d l0 l1 l2 l3 x w Q => px_go (q := (.istore_n 3, 1, px_x0)) (S' := (4, [l0, l1, l2, some (.int x)], [], w, 0)) pt_221 rfl rfl,
  fun d l0 l1 l2 l3 s0 w Q => r_bipush pt_221 rfl (by decide),
  fun d l0 l1 l2 l3 x y w Q => r_icmp_ge pt_221 rfl rfl,
  fun d l0 l1 l3 x w Q => px_go (q := (.iload_n 2, 1, px_x0)) (S' := (11, [l0, l1, some (.int x), l3], [.int x], w, 0)) pt_221 rfl rfl,
  fun d l1 l2 l3 s0 a w Q => px_go (q := (.aload_n 0, 1, px_x0)) (S' := (12, [some (.ref a), l1, l2, l3], [.ref a, s0], w, 0)) pt_221 rfl rfl,
  fun d l0 l1 l2 l3 s1 a w Q => px_goO (q := (.getfield 7, 3, (10, 0, [(11, 0)], 0, "AllSwornModel"))) (S' := fun v => (15, [l0, l1, l2, l3], [v, s1], w, 0)) pt_221 rfl rfl,
  fun d l0 l1 l2 s0 s1 x w Q => px_go (q := (.iload_n 3, 1, px_x0)) (S' := (16, [l0, l1, l2, some (.int x)], [.int x, s0, s1], w, 0)) pt_221 rfl rfl,
  fun d l0 l1 l2 l3 s2 i a w Q => px_goO (q := (.iaload, 1, px_x0)) (S' := fun x => (17, [l0, l1, l2, l3], [.int x, s2], w, 0)) pt_221 rfl rfl,
  fun d l0 l1 l2 l3 s1 x w Q => r_if_ne pt_221 rfl rfl,
  fun d l0 l1 l2 l3 s0 w Q => r_iconst pt_221 rfl (by decide),
  fun d l0 l1 l2 l3 s0 s1 w Q => r_goto pt_221 rfl rfl,
  fun d l0 l1 l2 l3 s0 w Q => r_iconst pt_221 rfl (by decide),
  fun d l0 l1 l2 l3 x y w Q => px_go (q := (.iadd, 1, px_x0)) (S' := (26, [l0, l1, l2, l3], [.int (x + y)], w, 0)) pt_221 rfl rfl,
  fun d l0 l1 l2 l3 x w Q => px_go (q := (.istore_n 2, 1, px_x0)) (S' := (27, [l0, l1, some (.int x), l3], [], w, 0)) pt_221 rfl rfl,
  fun d l0 l1 l2 x w Q => r_iinc pt_221 rfl rfl (by decide) rfl,
  fun d l0 l1 l2 l3 w Q => r_goto pt_221 rfl rfl,
  fun d l0 l2 l3 x w Q => px_go (q := (.iload_n 1, 1, px_x0)) (S' := (34, [l0, some (.int x), l2, l3], [.int x], w, 0)) pt_221 rfl rfl,
  fun d l0 l1 l2 l3 x w Q => r_tsw pt_221 rfl,
  fun d l0 l1 l3 x w Q => px_go (q := (.iload_n 2, 1, px_x0)) (S' := (81, [l0, l1, some (.int x), l3], [.int x], w, 0)) pt_221 rfl rfl,
  fun d l0 l1 l2 l3 x w Q => px_ret (q := (.ireturn, 1, px_x0)) pt_221 rfl rfl,
  fun d l1 l2 l3 a w Q => px_go (q := (.aload_n 0, 1, px_x0)) (S' := (83, [some (.ref a), l1, l2, l3], [.ref a], w, 0)) pt_221 rfl rfl,
  fun d l0 l1 l2 l3 s0 w Q => r_iconst pt_221 rfl (by decide),
  fun d l0 l1 l2 l3 v0 b w Q => r_callV (q := (.invokevirtual 69, 3, (33, 1, [(11, 149)], 0, ""))) pt_221 rfl rfl (List.forall_mem_cons.mpr ⟨⟨_, pt_149, Nat.le_of_ble_eq_true rfl, (Nat.le_of_ble_eq_true rfl), rfl⟩, fun _ h => absurd h List.not_mem_nil⟩),
  fun d l0 l1 l2 l3 x w Q => px_ret (q := (.ireturn, 1, px_x0)) pt_221 rfl rfl,
  fun d l1 l2 l3 a w Q => px_go (q := (.aload_n 0, 1, px_x0)) (S' := (89, [some (.ref a), l1, l2, l3], [.ref a], w, 0)) pt_221 rfl rfl,
  fun d l0 l1 l2 l3 s0 w Q => r_iconst pt_221 rfl (by decide),
  fun d l0 l1 l2 l3 v0 b w Q => r_callV (q := (.invokevirtual 69, 3, (33, 1, [(11, 149)], 0, ""))) pt_221 rfl rfl (List.forall_mem_cons.mpr ⟨⟨_, pt_149, Nat.le_of_ble_eq_true rfl, (Nat.le_of_ble_eq_true rfl), rfl⟩, fun _ h => absurd h List.not_mem_nil⟩),
  fun d l0 l1 l2 l3 x w Q => px_ret (q := (.ireturn, 1, px_x0)) pt_221 rfl rfl,
  fun d l1 l2 l3 a w Q => px_go (q := (.aload_n 0, 1, px_x0)) (S' := (95, [some (.ref a), l1, l2, l3], [.ref a], w, 0)) pt_221 rfl rfl,
  fun d l0 l1 l2 l3 s0 w Q => r_iconst pt_221 rfl (by decide),
  fun d l0 l1 l2 l3 v0 b w Q => r_callV (q := (.invokevirtual 69, 3, (33, 1, [(11, 149)], 0, ""))) pt_221 rfl rfl (List.forall_mem_cons.mpr ⟨⟨_, pt_149, Nat.le_of_ble_eq_true rfl, (Nat.le_of_ble_eq_true rfl), rfl⟩, fun _ h => absurd h List.not_mem_nil⟩),
  fun d l0 l1 l2 l3 x w Q => px_ret (q := (.ireturn, 1, px_x0)) pt_221 rfl rfl,
  fun d l1 l2 l3 a w Q => px_go (q := (.aload_n 0, 1, px_x0)) (S' := (101, [some (.ref a), l1, l2, l3], [.ref a], w, 0)) pt_221 rfl rfl,
  fun d l0 l1 l2 l3 s0 w Q => r_iconst pt_221 rfl (by decide),
  fun d l0 l1 l2 l3 v0 b w Q => r_callV (q := (.invokevirtual 69, 3, (33, 1, [(11, 149)], 0, ""))) pt_221 rfl rfl (List.forall_mem_cons.mpr ⟨⟨_, pt_149, Nat.le_of_ble_eq_true rfl, (Nat.le_of_ble_eq_true rfl), rfl⟩, fun _ h => absurd h List.not_mem_nil⟩),
  fun d l0 l1 l2 l3 x w Q => px_ret (q := (.ireturn, 1, px_x0)) pt_221 rfl rfl,
  fun d l1 l2 l3 a w Q => px_go (q := (.aload_n 0, 1, px_x0)) (S' := (107, [some (.ref a), l1, l2, l3], [.ref a], w, 0)) pt_221 rfl rfl,
  fun d l0 l1 l2 l3 s0 w Q => r_iconst pt_221 rfl (by decide),
  fun d l0 l1 l2 l3 v0 b w Q => r_callV (q := (.invokevirtual 69, 3, (33, 1, [(11, 149)], 0, ""))) pt_221 rfl rfl (List.forall_mem_cons.mpr ⟨⟨_, pt_149, Nat.le_of_ble_eq_true rfl, (Nat.le_of_ble_eq_true rfl), rfl⟩, fun _ h => absurd h List.not_mem_nil⟩),
  fun d l0 l1 l2 l3 x w Q => px_ret (q := (.ireturn, 1, px_x0)) pt_221 rfl rfl,
  fun d l1 l2 l3 a w Q => px_go (q := (.aload_n 0, 1, px_x0)) (S' := (113, [some (.ref a), l1, l2, l3], [.ref a], w, 0)) pt_221 rfl rfl,
  fun d l0 l1 l2 l3 a w Q => px_goO (q := (.getfield 133, 3, (10, 8, [(11, 0)], 0, "AllSwornModel"))) (S' := fun v => (116, [l0, l1, l2, l3], [v], w, 0)) pt_221 rfl rfl,
  fun d l0 l1 l2 l3 x w Q => px_ret (q := (.ireturn, 1, px_x0)) pt_221 rfl rfl,
  fun d l1 l2 l3 a w Q => px_go (q := (.aload_n 0, 1, px_x0)) (S' := (118, [some (.ref a), l1, l2, l3], [.ref a], w, 0)) pt_221 rfl rfl,
  fun d l0 l1 l2 l3 a w Q => px_goO (q := (.getfield 42, 3, (10, 10, [(11, 0)], 0, "AllSwornModel"))) (S' := fun v => (121, [l0, l1, l2, l3], [v], w, 0)) pt_221 rfl rfl,
  fun d l0 l1 l2 l3 x w Q => px_ret (q := (.ireturn, 1, px_x0)) pt_221 rfl rfl,
  fun d l0 l1 l2 l3 w Q => px_go (q := (.ldc 58, 2, (0, 0, [], (-1000001), ""))) (S' := (124, [l0, l1, l2, l3], [.int (-1000001)], w, 0)) pt_221 rfl rfl,
  fun d l0 l1 l2 l3 x w Q => px_ret (q := (.ireturn, 1, px_x0)) pt_221 rfl rfl⟩
theorem H221_4 : ∀ (d : Nat) (l0 l1 l2 : Option Value) (x : Int32) (w : px_H) (Q : Option Value → px_H → Prop), wp d 221 4 [l0, l1, l2, some (.int x)] [] w 0 Q ↔ wp d 221 5 [l0, l1, l2, some (.int x)] [.int x] w 0 Q := fun d l0 l1 l2 x w Q => px_go (q := (.iload_n 3, 1, px_x0)) (S' := (5, [l0, l1, l2, some (.int x)], [.int x], w, 0)) pt_221 rfl rfl
