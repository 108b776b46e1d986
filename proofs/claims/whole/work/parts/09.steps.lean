/-! what the pure machine's run says of the real one -/
def px_il : Jvm.ClassFile.Instr → Nat
  | .bipush _ => 2
  | .ldc _ => 2
  | .iload _ => 2
  | .aload _ => 2
  | .istore _ => 2
  | .astore _ => 2
  | .newarray _ => 2
  | .sipush _ => 3
  | .ldc_w _ => 3
  | .iinc .. => 3
  | .goto _ => 3
  | .ifCond .. => 3
  | .if_icmp .. => 3
  | .ifnull _ => 3
  | .ifnonnull _ => 3
  | .getfield _ => 3
  | .putfield _ => 3
  | .new _ => 3
  | .anewarray _ => 3
  | .invokestatic _ => 3
  | .invokespecial _ => 3
  | .invokevirtual _ => 3
  | _ => 1
def px_ln (pc : Nat) (i : Jvm.ClassFile.Instr) (len : Nat) : Bool := match i with
  | .tableswitch .. => true
  | .lookupswitch .. => true
  | .ifCond c off => (len == 3) && decide (0 ≤ (pc : Int) + off)
  | .if_icmp c off => (len == 3) && decide (0 ≤ (pc : Int) + off)
  | i => len == px_il i
/-- what the tables must say for an instruction of a method -/
def px_lk (T : List px_M) (m : px_M) (i : Jvm.ClassFile.Instr) (X : px_X) : Prop := match i with
  | .ldc idx => Cond.constant (px_my m).cls idx X.2.2.2.1 ∈ px_W
  | .ldc_w idx => Cond.constant (px_my m).cls idx X.2.2.2.1 ∈ px_W
  | .getfield idx => px_lkF (px_my m).cls idx X
  | .putfield idx => px_lkF (px_my m).cls idx X ∧ px_lkP m X
  | .new idx => ∃ r : vw_C, vwCl[X.2.1]? = some r ∧ Cond.classLink (px_my m).cls idx r.1 ∈ px_W
  | .newarray t => ∀ ty, px_nat t = some ty → Cond.arrayClass ty ∈ px_W
  | .anewarray idx => Cond.classLink (px_my m).cls idx X.2.2.2.2 ∈ px_W ∧ Cond.arrayOver (.object X.2.2.2.2) ∈ px_Z
  | .invokestatic idx => if X.1 = 37 then px_lkC (px_my m).cls idx else if X.1 = 38 then px_lkM (px_my m).cls idx else ∀ ci M m', (ci, M) ∈ X.2.2.1 → T[M]? = some m' → px_lkS (px_my m).cls idx X.2.1 m'
  | .invokespecial idx => if X.1 = 36 then px_lkO (px_my m).cls idx else ∀ ci M m', (ci, M) ∈ X.2.2.1 → T[M]? = some m' → (if X.1 = 35 then px_lkX (px_my m).cls idx X.2.1 m' else px_lkI (px_my m).cls idx X.2.1 m' ∨ px_lkN (px_my m).cls idx X.2.1 m')
  | .invokevirtual idx => ∀ ci M m', (ci, M) ∈ X.2.2.1 → T[M]? = some m' → px_lkV (px_my m).cls idx X.2.1 ci m' ∨ px_lkU (px_my m).cls idx X.2.1 ci m' X.2.2.2.2
  | _ => True
def px_TOK (T : List px_M) : Prop := ∀ (M : Nat) (m : px_M), T[M]? = some m → px_mok m ∧ ∀ (pc : Nat) (q : px_I), (px_mi m).lookup pc = some q → decode (px_mb m) pc = .ok (q.1, q.2.1) ∧ px_ln pc q.1 q.2.1 = true ∧ px_lk T m q.1 q.2.2
def px_goal (T : List px_M) (d : Nat) (m : px_M) (pc : Nat) (L : px_L) (st : List Value) (w : px_H) (k : Nat) (Q : Option Value → px_H → Prop) (A : px_A) : Prop := match A with
  | .inl S => px_SW d m S.1 S.2.1 S.2.2.1 S.2.2.2.1 S.2.2.2.2 Q → px_SW d m pc L st w k Q
  | .inr (.inl r) => Q r.1 r.2 → px_SW d m pc L st w k Q
  | .inr (.inr c) => ∀ (d' : Nat) (m' : px_M), d = d' + 1 → T[c.1]? = some m' → c.2.2.2.2.2.2 + px_mc m' ≤ px_mc m → px_SC d' m' c.2.1 c.2.2.2.2.2.1 (fun r w' => px_SW d m c.2.2.1 c.2.2.2.1 (r.toList ++ c.2.2.2.2.1) w' (c.2.2.2.2.2.2 + px_mc m') Q) → px_SW d m pc L st w k Q
theorem px_jmp_inv {pc t : Nat} {off : Int} (h : px_jmp pc off = some t) : (pc : Int) + off = (t : Int) := by
  unfold px_jmp at h
  split at h
  · rename_i h0
    cases h
    exact (Int.toNat_of_nonneg h0).symm
  · cases h
theorem px_len_eq {i : Jvm.ClassFile.Instr} {len : Nat} (h : (len == px_il i) = true) : len = px_il i := by simpa using h
section PXS
variable {T : List px_M} {m : px_M} {len : Nat} {X : px_X} {pc : Nat} {L : px_L} {st : List Value} {w : px_H} {k d : Nat} {Q : Option Value → px_H → Prop} {A : px_A}
theorem px_t_null   (hd : decode (px_mb m) pc = .ok (.aconst_null, 1)) (h : px_act m (.aconst_null) X pc L st w k = some A) : px_goal T d m pc L st w k Q A := by
  cases h
  exact fun g => px_q_null hd g
theorem px_t_iconst {n : Int}  (hd : decode (px_mb m) pc = .ok (.iconst n, 1)) (h : px_act m (.iconst n) X pc L st w k = some A) : px_goal T d m pc L st w k Q A := by
  cases h
  exact fun g => px_q_iconst hd g
theorem px_t_bipush {n : Int}  (hd : decode (px_mb m) pc = .ok (.bipush n, 2)) (h : px_act m (.bipush n) X pc L st w k = some A) : px_goal T d m pc L st w k Q A := by
  cases h
  exact fun g => px_q_bipush hd g
theorem px_t_sipush {n : Int}  (hd : decode (px_mb m) pc = .ok (.sipush n, 3)) (h : px_act m (.sipush n) X pc L st w k = some A) : px_goal T d m pc L st w k Q A := by
  cases h
  exact fun g => px_q_sipush hd g
theorem px_t_ldc {n : Nat} (lk : px_lk T m (.ldc n) X) (hd : decode (px_mb m) pc = .ok (.ldc n, 2)) (h : px_act m (.ldc n) X pc L st w k = some A) : px_goal T d m pc L st w k Q A := by
  cases h
  exact fun g => px_q_ldc hd lk g
theorem px_t_ldc_w {n : Nat} (lk : px_lk T m (.ldc_w n) X) (hd : decode (px_mb m) pc = .ok (.ldc_w n, 3)) (h : px_act m (.ldc_w n) X pc L st w k = some A) : px_goal T d m pc L st w k Q A := by
  cases h
  exact fun g => px_q_ldc_w hd lk g
theorem px_t_iload {j : Nat}  (hd : decode (px_mb m) pc = .ok (.iload j, 2)) (h : px_act m (.iload j) X pc L st w k = some A) : px_goal T d m pc L st w k Q A := by
  simp only [px_act] at h
  split at h
  · rename_i x hx
    cases h
    exact fun g => px_q_iload hd hx g
  · cases h
theorem px_t_iload_n {j : Fin 4}  (hd : decode (px_mb m) pc = .ok (.iload_n j, 1)) (h : px_act m (.iload_n j) X pc L st w k = some A) : px_goal T d m pc L st w k Q A := by
  simp only [px_act] at h
  split at h
  · rename_i x hx
    cases h
    exact fun g => px_q_iload_n hd hx g
  · cases h
theorem px_t_aload {j : Nat}  (hd : decode (px_mb m) pc = .ok (.aload j, 2)) (h : px_act m (.aload j) X pc L st w k = some A) : px_goal T d m pc L st w k Q A := by
  simp only [px_act] at h
  split at h
  · rename_i v hx
    split at h
    · rename_i hv
      cases h
      exact fun g => px_q_aload hd hx hv g
    · cases h
  · cases h
theorem px_t_aload_n {j : Fin 4}  (hd : decode (px_mb m) pc = .ok (.aload_n j, 1)) (h : px_act m (.aload_n j) X pc L st w k = some A) : px_goal T d m pc L st w k Q A := by
  simp only [px_act] at h
  split at h
  · rename_i v hx
    split at h
    · rename_i hv
      cases h
      exact fun g => px_q_aload_n hd hx hv g
    · cases h
  · cases h
theorem px_t_istore {j : Nat}  (hd : decode (px_mb m) pc = .ok (.istore j, 2)) (h : px_act m (.istore j) X pc L st w k = some A) : px_goal T d m pc L st w k Q A := by
  simp only [px_act] at h
  split at h
  · rename_i x st'
    split at h
    · rename_i hj
      cases h
      exact fun g => px_q_istore hd hj g
    · cases h
  · cases h
theorem px_t_istore_n {j : Fin 4}  (hd : decode (px_mb m) pc = .ok (.istore_n j, 1)) (h : px_act m (.istore_n j) X pc L st w k = some A) : px_goal T d m pc L st w k Q A := by
  simp only [px_act] at h
  split at h
  · rename_i x st'
    split at h
    · rename_i hj
      cases h
      exact fun g => px_q_istore_n hd hj g
    · cases h
  · cases h
theorem px_t_astore {j : Nat}  (hd : decode (px_mb m) pc = .ok (.astore j, 2)) (h : px_act m (.astore j) X pc L st w k = some A) : px_goal T d m pc L st w k Q A := by
  simp only [px_act] at h
  split at h
  · rename_i v st'
    split at h
    · rename_i hj
      cases h
      exact fun g => px_q_astore hd hj.2 hj.1 g
    · cases h
  · cases h
theorem px_t_astore_n {j : Fin 4}  (hd : decode (px_mb m) pc = .ok (.astore_n j, 1)) (h : px_act m (.astore_n j) X pc L st w k = some A) : px_goal T d m pc L st w k Q A := by
  simp only [px_act] at h
  split at h
  · rename_i v st'
    split at h
    · rename_i hj
      cases h
      exact fun g => px_q_astore_n hd hj.2 hj.1 g
    · cases h
  · cases h
theorem px_t_iinc {j : Nat} {n : Int}  (hd : decode (px_mb m) pc = .ok (.iinc j n, 3)) (h : px_act m (.iinc j n) X pc L st w k = some A) : px_goal T d m pc L st w k Q A := by
  simp only [px_act] at h
  split at h
  · rename_i x hx
    cases h
    exact fun g => px_q_iinc hd hx g
  · cases h
theorem px_t_iadd   (hd : decode (px_mb m) pc = .ok (.iadd, 1)) (h : px_act m (.iadd) X pc L st w k = some A) : px_goal T d m pc L st w k Q A := by
  simp only [px_act] at h
  split at h
  · cases h
    exact fun g => px_q_iadd hd g
  · cases h
theorem px_t_isub   (hd : decode (px_mb m) pc = .ok (.isub, 1)) (h : px_act m (.isub) X pc L st w k = some A) : px_goal T d m pc L st w k Q A := by
  simp only [px_act] at h
  split at h
  · cases h
    exact fun g => px_q_isub hd g
  · cases h
theorem px_t_imul   (hd : decode (px_mb m) pc = .ok (.imul, 1)) (h : px_act m (.imul) X pc L st w k = some A) : px_goal T d m pc L st w k Q A := by
  simp only [px_act] at h
  split at h
  · cases h
    exact fun g => px_q_imul hd g
  · cases h
theorem px_t_iand   (hd : decode (px_mb m) pc = .ok (.iand, 1)) (h : px_act m (.iand) X pc L st w k = some A) : px_goal T d m pc L st w k Q A := by
  simp only [px_act] at h
  split at h
  · cases h
    exact fun g => px_q_iand hd g
  · cases h
theorem px_t_ior   (hd : decode (px_mb m) pc = .ok (.ior, 1)) (h : px_act m (.ior) X pc L st w k = some A) : px_goal T d m pc L st w k Q A := by
  simp only [px_act] at h
  split at h
  · cases h
    exact fun g => px_q_ior hd g
  · cases h
theorem px_t_ixor   (hd : decode (px_mb m) pc = .ok (.ixor, 1)) (h : px_act m (.ixor) X pc L st w k = some A) : px_goal T d m pc L st w k Q A := by
  simp only [px_act] at h
  split at h
  · cases h
    exact fun g => px_q_ixor hd g
  · cases h
theorem px_t_ishl   (hd : decode (px_mb m) pc = .ok (.ishl, 1)) (h : px_act m (.ishl) X pc L st w k = some A) : px_goal T d m pc L st w k Q A := by
  simp only [px_act] at h
  split at h
  · cases h
    exact fun g => px_q_ishl hd g
  · cases h
theorem px_t_ishr   (hd : decode (px_mb m) pc = .ok (.ishr, 1)) (h : px_act m (.ishr) X pc L st w k = some A) : px_goal T d m pc L st w k Q A := by
  simp only [px_act] at h
  split at h
  · cases h
    exact fun g => px_q_ishr hd g
  · cases h
theorem px_t_iushr   (hd : decode (px_mb m) pc = .ok (.iushr, 1)) (h : px_act m (.iushr) X pc L st w k = some A) : px_goal T d m pc L st w k Q A := by
  simp only [px_act] at h
  split at h
  · cases h
    exact fun g => px_q_iushr hd g
  · cases h
theorem px_t_idiv   (hd : decode (px_mb m) pc = .ok (.idiv, 1)) (h : px_act m (.idiv) X pc L st w k = some A) : px_goal T d m pc L st w k Q A := by
  simp only [px_act] at h
  split at h
  · split at h
    · cases h
    · rename_i hy
      cases h
      exact fun g => px_q_idiv hd hy g
  · cases h
theorem px_t_irem   (hd : decode (px_mb m) pc = .ok (.irem, 1)) (h : px_act m (.irem) X pc L st w k = some A) : px_goal T d m pc L st w k Q A := by
  simp only [px_act] at h
  split at h
  · split at h
    · cases h
    · rename_i hy
      cases h
      exact fun g => px_q_irem hd hy g
  · cases h
theorem px_t_ineg   (hd : decode (px_mb m) pc = .ok (.ineg, 1)) (h : px_act m (.ineg) X pc L st w k = some A) : px_goal T d m pc L st w k Q A := by
  simp only [px_act] at h
  split at h
  · cases h
    exact fun g => px_q_ineg hd g
  · cases h
theorem px_t_i2b   (hd : decode (px_mb m) pc = .ok (.i2b, 1)) (h : px_act m (.i2b) X pc L st w k = some A) : px_goal T d m pc L st w k Q A := by
  simp only [px_act] at h
  split at h
  · cases h
    exact fun g => px_q_i2b hd g
  · cases h
theorem px_t_i2s   (hd : decode (px_mb m) pc = .ok (.i2s, 1)) (h : px_act m (.i2s) X pc L st w k = some A) : px_goal T d m pc L st w k Q A := by
  simp only [px_act] at h
  split at h
  · cases h
    exact fun g => px_q_i2s hd g
  · cases h
theorem px_t_dup   (hd : decode (px_mb m) pc = .ok (.dup, 1)) (h : px_act m (.dup) X pc L st w k = some A) : px_goal T d m pc L st w k Q A := by
  simp only [px_act] at h
  split at h
  · cases h
    exact fun g => px_q_dup hd g
  · cases h
theorem px_t_pop   (hd : decode (px_mb m) pc = .ok (.pop, 1)) (h : px_act m (.pop) X pc L st w k = some A) : px_goal T d m pc L st w k Q A := by
  simp only [px_act] at h
  split at h
  · cases h
    exact fun g => px_q_pop hd g
  · cases h
theorem px_t_goto {off : Int}  (hd : decode (px_mb m) pc = .ok (.goto off, 3)) (h : px_act m (.goto off) X pc L st w k = some A) : px_goal T d m pc L st w k Q A := by
  simp only [px_act] at h
  obtain ⟨t, ht, hA⟩ := Option.map_eq_some_iff.mp h
  cases hA
  exact fun g => px_q_goto hd (px_jmp_inv ht) g
theorem px_t_if {c : Jvm.ClassFile.Cond} {off : Int} (ho : 0 ≤ (pc : Int) + off) (hd : decode (px_mb m) pc = .ok (.ifCond c off, 3)) (h : px_act m (.ifCond c off) X pc L st w k = some A) : px_goal T d m pc L st w k Q A := by
  simp only [px_act] at h
  split at h
  · obtain ⟨t, ht, hA⟩ := Option.map_eq_some_iff.mp h
    cases hA
    intro g
    split at ht
    · rename_i hc
      have hj := px_jmp_inv ht
      cases c with
      | eq => exact px_q_if_eq hd hj (fun _ => g) (fun z => absurd (of_decide_eq_true hc) z)
      | ne => exact px_q_if_ne hd hj (fun _ => g) (fun z => absurd (of_decide_eq_true hc) (fun q => q z))
      | lt => exact px_q_if_lt hd hj (fun _ => g) (fun z => absurd (of_decide_eq_true hc) z)
      | ge => exact px_q_if_ge hd hj (fun _ => g) (fun z => absurd (of_decide_eq_true hc) z)
      | gt => exact px_q_if_gt hd hj (fun _ => g) (fun z => absurd (of_decide_eq_true hc) z)
      | le => exact px_q_if_le hd hj (fun _ => g) (fun z => absurd (of_decide_eq_true hc) z)
    · rename_i hc
      cases ht
      obtain ⟨t, hj⟩ := Int.eq_ofNat_of_zero_le ho
      cases c with
      | eq => exact px_q_if_eq hd hj (fun z => absurd (decide_eq_true z) hc) (fun _ => g)
      | ne => exact px_q_if_ne hd hj (fun z => absurd (decide_eq_true z) hc) (fun _ => g)
      | lt => exact px_q_if_lt hd hj (fun z => absurd (decide_eq_true z) hc) (fun _ => g)
      | ge => exact px_q_if_ge hd hj (fun z => absurd (decide_eq_true z) hc) (fun _ => g)
      | gt => exact px_q_if_gt hd hj (fun z => absurd (decide_eq_true z) hc) (fun _ => g)
      | le => exact px_q_if_le hd hj (fun z => absurd (decide_eq_true z) hc) (fun _ => g)
  · cases h
theorem px_t_icmp {c : Jvm.ClassFile.Cond} {off : Int} (ho : 0 ≤ (pc : Int) + off) (hd : decode (px_mb m) pc = .ok (.if_icmp c off, 3)) (h : px_act m (.if_icmp c off) X pc L st w k = some A) : px_goal T d m pc L st w k Q A := by
  simp only [px_act] at h
  split at h
  · obtain ⟨t, ht, hA⟩ := Option.map_eq_some_iff.mp h
    cases hA
    intro g
    split at ht
    · rename_i hc
      have hj := px_jmp_inv ht
      cases c with
      | eq => exact px_q_icmp_eq hd hj (fun _ => g) (fun z => absurd (of_decide_eq_true hc) z)
      | ne => exact px_q_icmp_ne hd hj (fun _ => g) (fun z => absurd (of_decide_eq_true hc) (fun q => q z))
      | lt => exact px_q_icmp_lt hd hj (fun _ => g) (fun z => absurd (of_decide_eq_true hc) z)
      | ge => exact px_q_icmp_ge hd hj (fun _ => g) (fun z => absurd (of_decide_eq_true hc) z)
      | gt => exact px_q_icmp_gt hd hj (fun _ => g) (fun z => absurd (of_decide_eq_true hc) z)
      | le => exact px_q_icmp_le hd hj (fun _ => g) (fun z => absurd (of_decide_eq_true hc) z)
    · rename_i hc
      cases ht
      obtain ⟨t, hj⟩ := Int.eq_ofNat_of_zero_le ho
      cases c with
      | eq => exact px_q_icmp_eq hd hj (fun z => absurd (decide_eq_true z) hc) (fun _ => g)
      | ne => exact px_q_icmp_ne hd hj (fun z => absurd (decide_eq_true z) hc) (fun _ => g)
      | lt => exact px_q_icmp_lt hd hj (fun z => absurd (decide_eq_true z) hc) (fun _ => g)
      | ge => exact px_q_icmp_ge hd hj (fun z => absurd (decide_eq_true z) hc) (fun _ => g)
      | gt => exact px_q_icmp_gt hd hj (fun z => absurd (decide_eq_true z) hc) (fun _ => g)
      | le => exact px_q_icmp_le hd hj (fun z => absurd (decide_eq_true z) hc) (fun _ => g)
  · cases h
theorem px_t_ifnull {off : Int}  (hd : decode (px_mb m) pc = .ok (.ifnull off, 3)) (h : px_act m (.ifnull off) X pc L st w k = some A) : px_goal T d m pc L st w k Q A := by
  simp only [px_act] at h
  split at h
  · obtain ⟨t, ht, hA⟩ := Option.map_eq_some_iff.mp h
    cases hA
    exact fun g => px_q_ifnullN hd (px_jmp_inv ht) g
  · cases h
    exact fun g => px_q_ifnull hd g
  · cases h
theorem px_t_ifnonnull {off : Int}  (hd : decode (px_mb m) pc = .ok (.ifnonnull off, 3)) (h : px_act m (.ifnonnull off) X pc L st w k = some A) : px_goal T d m pc L st w k Q A := by
  simp only [px_act] at h
  split at h
  · obtain ⟨t, ht, hA⟩ := Option.map_eq_some_iff.mp h
    cases hA
    exact fun g => px_q_ifnonnull hd (px_jmp_inv ht) g
  · cases h
    exact fun g => px_q_ifnonnullN hd g
  · cases h
theorem px_t_tsw {a lo hi : Int} {offs : Array Int}  (hd : decode (px_mb m) pc = .ok (.tableswitch a lo hi offs, len)) (h : px_act m (.tableswitch a lo hi offs) X pc L st w k = some A) : px_goal T d m pc L st w k Q A := by
  simp only [px_act] at h
  split at h
  · obtain ⟨t, ht, hA⟩ := Option.map_eq_some_iff.mp h
    cases hA
    intro g
    unfold px_tsw at ht
    split at ht
    · rename_i hx
      exact px_q_tswO hd hx (px_jmp_inv ht) g
    · rename_i hx
      split at ht
      · rename_i off ho
        exact px_q_tswI hd (fun q => hx (Or.inl q)) (fun q => hx (Or.inr q)) ho (px_jmp_inv ht) g
      · cases ht
  · cases h
theorem px_t_lsw {a : Int} {ps : Array (Int × Int)}  (hd : decode (px_mb m) pc = .ok (.lookupswitch a ps, len)) (h : px_act m (.lookupswitch a ps) X pc L st w k = some A) : px_goal T d m pc L st w k Q A := by
  simp only [px_act] at h
  split at h
  · obtain ⟨t, ht, hA⟩ := Option.map_eq_some_iff.mp h
    cases hA
    intro g
    unfold px_lsw at ht
    split at ht
    · rename_i hp
      exact px_q_lsw hd hp (px_jmp_inv ht) g
    · cases ht
  · cases h
theorem px_t_get {idx : Nat} (cf : px_CF) (lk : px_lk T m (.getfield idx) X) (hd : decode (px_mb m) pc = .ok (.getfield idx, 3)) (h : px_act m (.getfield idx) X pc L st w k = some A) : px_goal T d m pc L st w k Q A := by
  simp only [px_act] at h
  split at h
  · obtain ⟨v, hv, hA⟩ := Option.map_eq_some_iff.mp h
    cases hA
    exact fun g => px_q_get cf hd lk hv g
  · cases h
theorem px_t_put {idx : Nat} (cf : px_CF) (lk : px_lk T m (.putfield idx) X) (hd : decode (px_mb m) pc = .ok (.putfield idx, 3)) (h : px_act m (.putfield idx) X pc L st w k = some A) : px_goal T d m pc L st w k Q A := by
  simp only [px_act] at h
  split at h
  · obtain ⟨v, hv, hA⟩ := Option.map_eq_some_iff.mp h
    cases hA
    split at hv
    · rename_i hf
      exact fun g => px_q_put cf hd lk.1 lk.2 hf hv g
    · cases hv
  · cases h
theorem px_t_iald   (hd : decode (px_mb m) pc = .ok (.iaload, 1)) (h : px_act m (.iaload) X pc L st w k = some A) : px_goal T d m pc L st w k Q A := by
  simp only [px_act] at h
  split at h
  · obtain ⟨v, hv, hA⟩ := Option.map_eq_some_iff.mp h
    cases hA
    exact fun g => px_q_iald hd hv g
  · cases h
theorem px_t_iast   (hd : decode (px_mb m) pc = .ok (.iastore, 1)) (h : px_act m (.iastore) X pc L st w k = some A) : px_goal T d m pc L st w k Q A := by
  simp only [px_act] at h
  split at h
  · obtain ⟨v, hv, hA⟩ := Option.map_eq_some_iff.mp h
    cases hA
    exact fun g => px_q_iast hd hv g
  · cases h
theorem px_t_bald   (hd : decode (px_mb m) pc = .ok (.baload, 1)) (h : px_act m (.baload) X pc L st w k = some A) : px_goal T d m pc L st w k Q A := by
  simp only [px_act] at h
  split at h
  · obtain ⟨v, hv, hA⟩ := Option.map_eq_some_iff.mp h
    cases hA
    exact fun g => px_q_bald hd hv g
  · cases h
theorem px_t_bast   (hd : decode (px_mb m) pc = .ok (.bastore, 1)) (h : px_act m (.bastore) X pc L st w k = some A) : px_goal T d m pc L st w k Q A := by
  simp only [px_act] at h
  split at h
  · obtain ⟨v, hv, hA⟩ := Option.map_eq_some_iff.mp h
    cases hA
    exact fun g => px_q_bast hd hv g
  · cases h
theorem px_t_aald   (hd : decode (px_mb m) pc = .ok (.aaload, 1)) (h : px_act m (.aaload) X pc L st w k = some A) : px_goal T d m pc L st w k Q A := by
  simp only [px_act] at h
  split at h
  · obtain ⟨v, hv, hA⟩ := Option.map_eq_some_iff.mp h
    cases hA
    exact fun g => px_q_aald hd hv g
  · cases h
theorem px_t_aast   (hd : decode (px_mb m) pc = .ok (.aastore, 1)) (h : px_act m (.aastore) X pc L st w k = some A) : px_goal T d m pc L st w k Q A := by
  simp only [px_act] at h
  split at h
  · obtain ⟨v, hv, hA⟩ := Option.map_eq_some_iff.mp h
    cases hA
    exact fun g => px_q_aast hd hv g
  · cases h
theorem px_t_alen   (hd : decode (px_mb m) pc = .ok (.arraylength, 1)) (h : px_act m (.arraylength) X pc L st w k = some A) : px_goal T d m pc L st w k Q A := by
  simp only [px_act] at h
  split at h
  · obtain ⟨v, hv, hA⟩ := Option.map_eq_some_iff.mp h
    cases hA
    exact fun g => px_q_alen hd hv g
  · cases h
theorem px_t_new {idx : Nat} (cf : px_CF) (lk : px_lk T m (.new idx) X) (hd : decode (px_mb m) pc = .ok (.new idx, 3)) (h : px_act m (.new idx) X pc L st w k = some A) : px_goal T d m pc L st w k Q A := by
  simp only [px_act] at h
  obtain ⟨c, hc, hA⟩ := Option.map_eq_some_iff.mp h
  cases hA
  split at hc
  · rename_i hk
    obtain ⟨r, hr, hl⟩ := lk
    unfold px_new at hc
    rw [hr] at hc
    cases hc
    exact fun g => px_q_new cf hd hr hl hk g
  · cases hc
theorem px_t_newarr {t : Jvm.ClassFile.ArrayType} (lk : px_lk T m (.newarray t) X) (hd : decode (px_mb m) pc = .ok (.newarray t, 2)) (h : px_act m (.newarray t) X pc L st w k = some A) : px_goal T d m pc L st w k Q A := by
  simp only [px_act] at h
  split at h
  · obtain ⟨ty, hc, hA⟩ := Option.map_eq_some_iff.mp h
    cases hA
    split at hc
    · rename_i hk
      exact fun g => px_q_newarr hd hc (lk ty hc) hk.1 hk.2.1 hk.2.2 g
    · cases hc
  · cases h
theorem px_t_anew {idx : Nat} (lk : px_lk T m (.anewarray idx) X) (hd : decode (px_mb m) pc = .ok (.anewarray idx, 3)) (h : px_act m (.anewarray idx) X pc L st w k = some A) : px_goal T d m pc L st w k Q A := by
  simp only [px_act] at h
  split at h
  · split at h
    · rename_i hk
      cases h
      exact fun g => px_q_anew hd lk.1 lk.2 hk.1 hk.2.1 hk.2.2 g
    · cases h
  · cases h
theorem px_t_iret   (hd : decode (px_mb m) pc = .ok (.ireturn, 1)) (h : px_act m (.ireturn) X pc L st w k = some A) : px_goal T d m pc L st w k Q A := by
  simp only [px_act] at h
  split at h
  · split at h
    · rename_i hr
      cases h
      exact fun g => px_q_iret hd (Or.inl hr) g
    · rename_i hr
      split at h
      · rename_i hx
        cases h
        exact fun g => px_q_iret hd (Or.inr ⟨hr, hx⟩) g
      · cases h
    · cases h
  · cases h
theorem px_t_aret   (hd : decode (px_mb m) pc = .ok (.areturn, 1)) (h : px_act m (.areturn) X pc L st w k = some A) : px_goal T d m pc L st w k Q A := by
  simp only [px_act] at h
  split at h
  · split at h
    · rename_i hr
      split at h
      · rename_i hx
        cases h
        exact fun g => px_q_aret hd hr hx g
      · cases h
    · cases h
  · cases h
theorem px_t_vret   (hd : decode (px_mb m) pc = .ok (.return_, 1)) (h : px_act m (.return_) X pc L st w k = some A) : px_goal T d m pc L st w k Q A := by
  simp only [px_act] at h
  split at h
  · split at h
    · rename_i hr
      cases h
      exact fun g => px_q_vret hd hr g
    · cases h
  · cases h
theorem px_t_static {idx : Nat} (ok : ∀ (M : Nat) (m : px_M), T[M]? = some m → px_mok m) (lk : px_lk T m (.invokestatic idx) X) (hd : decode (px_mb m) pc = .ok (.invokestatic idx, 3)) (h : px_act m (.invokestatic idx) X pc L st w k = some A) : px_goal T d m pc L st w k Q A := by
  simp only [px_act] at h
  unfold px_lk at lk
  dsimp only at lk
  by_cases h37 : X.1 = 37
  · rw [if_pos h37] at h lk
    split at h
    · split at h
      · rename_i h8
        obtain ⟨v, hv, hA⟩ := Option.map_eq_some_iff.mp h
        cases hA
        exact fun g => px_q_copy hd lk h8 hv g
      · cases h
    · cases h
  · rw [if_neg h37] at h lk
    by_cases h38 : X.1 = 38
    · rw [if_pos h38] at h lk
      split at h
      · split at h
        · rename_i h8
          cases h
          exact fun g => px_q_max hd lk h8 g
        · cases h
      · cases h
    · rw [if_neg h38] at h lk
      split at h
      · rename_i vs st' ci M hiv hc
        cases h
        intro d' m' hd' hm' hk SC
        subst hd'
        exact px_q_static hd (ok _ _ hm') (lk ci M m' (by rw [hc]; exact List.mem_cons_self) hm') hiv hk SC
      · cases h
theorem px_t_special {idx : Nat} (ok : ∀ (M : Nat) (m : px_M), T[M]? = some m → px_mok m) (lk : px_lk T m (.invokespecial idx) X) (hd : decode (px_mb m) pc = .ok (.invokespecial idx, 3)) (h : px_act m (.invokespecial idx) X pc L st w k = some A) : px_goal T d m pc L st w k Q A := by
  simp only [px_act] at h
  unfold px_lk at lk
  dsimp only at lk
  by_cases h36 : X.1 = 36
  · rw [if_pos h36] at h lk
    split at h
    · split at h
      · rename_i h8
        cases h
        exact fun g => px_q_obj hd lk h8 g
      · cases h
    · cases h
  · rw [if_neg h36] at h lk
    split at h
    · rename_i vs b st' ci M hiv hc
      obtain ⟨v, hv, hA⟩ := Option.map_eq_some_iff.mp h
      cases hA
      intro d' m' hd' hm' hk SC
      subst hd'
      have lk := lk ci M m' (by rw [hc]; exact List.mem_cons_self) hm'
      by_cases h35 : X.1 = 35
      · rw [if_pos h35] at lk hv
        exact px_q_super hd (ok _ _ hm') lk hiv hv hk SC
      · rw [if_neg h35] at lk
        exact px_q_init hd (ok _ _ hm') lk hiv hk SC
    · cases h
theorem px_t_virt {idx : Nat} (ok : ∀ (M : Nat) (m : px_M), T[M]? = some m → px_mok m) (lk : px_lk T m (.invokevirtual idx) X) (hd : decode (px_mb m) pc = .ok (.invokevirtual idx, 3)) (h : px_act m (.invokevirtual idx) X pc L st w k = some A) : px_goal T d m pc L st w k Q A := by
  simp only [px_act] at h
  split at h
  · rename_i vs b st' hiv
    obtain ⟨M, hM, hA⟩ := Option.map_eq_some_iff.mp h
    cases hA
    obtain ⟨ci, hci, hlo⟩ := Option.bind_eq_some_iff.mp hM
    intro d' m' hd' hm' hk SC
    subst hd'
    exact px_q_virt hd (ok _ _ hm') (lk ci M m' (px_lookup hlo) hm') hiv hci hk SC
  · cases h
theorem px_step (cf : px_CF) (ok : ∀ (M : Nat) (m : px_M), T[M]? = some m → px_mok m) {i : Jvm.ClassFile.Instr} (hd : decode (px_mb m) pc = .ok (i, len)) (hl : px_ln pc i len = true) (lk : px_lk T m i X) (h : px_act m i X pc L st w k = some A) : px_goal T d m pc L st w k Q A := by
  cases i with
  | tableswitch a lo hi offs => exact px_t_tsw hd h
  | lookupswitch a ps => exact px_t_lsw hd h
  | ifCond c off =>
    simp only [px_ln, Bool.and_eq_true, beq_iff_eq, decide_eq_true_eq] at hl
    obtain ⟨rfl, ho⟩ := hl
    exact px_t_if ho hd h
  | if_icmp c off =>
    simp only [px_ln, Bool.and_eq_true, beq_iff_eq, decide_eq_true_eq] at hl
    obtain ⟨rfl, ho⟩ := hl
    exact px_t_icmp ho hd h
  | aconst_null =>
    obtain rfl := px_len_eq hl
    exact px_t_null  hd h
  | iconst n =>
    obtain rfl := px_len_eq hl
    exact px_t_iconst  hd h
  | bipush n =>
    obtain rfl := px_len_eq hl
    exact px_t_bipush  hd h
  | sipush n =>
    obtain rfl := px_len_eq hl
    exact px_t_sipush  hd h
  | ldc n =>
    obtain rfl := px_len_eq hl
    exact px_t_ldc lk hd h
  | ldc_w n =>
    obtain rfl := px_len_eq hl
    exact px_t_ldc_w lk hd h
  | iload n =>
    obtain rfl := px_len_eq hl
    exact px_t_iload  hd h
  | iload_n n =>
    obtain rfl := px_len_eq hl
    exact px_t_iload_n  hd h
  | aload n =>
    obtain rfl := px_len_eq hl
    exact px_t_aload  hd h
  | aload_n n =>
    obtain rfl := px_len_eq hl
    exact px_t_aload_n  hd h
  | istore n =>
    obtain rfl := px_len_eq hl
    exact px_t_istore  hd h
  | istore_n n =>
    obtain rfl := px_len_eq hl
    exact px_t_istore_n  hd h
  | astore n =>
    obtain rfl := px_len_eq hl
    exact px_t_astore  hd h
  | astore_n n =>
    obtain rfl := px_len_eq hl
    exact px_t_astore_n  hd h
  | iinc j n =>
    obtain rfl := px_len_eq hl
    exact px_t_iinc  hd h
  | iadd =>
    obtain rfl := px_len_eq hl
    exact px_t_iadd  hd h
  | isub =>
    obtain rfl := px_len_eq hl
    exact px_t_isub  hd h
  | imul =>
    obtain rfl := px_len_eq hl
    exact px_t_imul  hd h
  | iand =>
    obtain rfl := px_len_eq hl
    exact px_t_iand  hd h
  | ior =>
    obtain rfl := px_len_eq hl
    exact px_t_ior  hd h
  | ixor =>
    obtain rfl := px_len_eq hl
    exact px_t_ixor  hd h
  | ishl =>
    obtain rfl := px_len_eq hl
    exact px_t_ishl  hd h
  | ishr =>
    obtain rfl := px_len_eq hl
    exact px_t_ishr  hd h
  | iushr =>
    obtain rfl := px_len_eq hl
    exact px_t_iushr  hd h
  | idiv =>
    obtain rfl := px_len_eq hl
    exact px_t_idiv  hd h
  | irem =>
    obtain rfl := px_len_eq hl
    exact px_t_irem  hd h
  | ineg =>
    obtain rfl := px_len_eq hl
    exact px_t_ineg  hd h
  | i2b =>
    obtain rfl := px_len_eq hl
    exact px_t_i2b  hd h
  | i2s =>
    obtain rfl := px_len_eq hl
    exact px_t_i2s  hd h
  | dup =>
    obtain rfl := px_len_eq hl
    exact px_t_dup  hd h
  | pop =>
    obtain rfl := px_len_eq hl
    exact px_t_pop  hd h
  | goto off =>
    obtain rfl := px_len_eq hl
    exact px_t_goto  hd h
  | ifnull off =>
    obtain rfl := px_len_eq hl
    exact px_t_ifnull  hd h
  | ifnonnull off =>
    obtain rfl := px_len_eq hl
    exact px_t_ifnonnull  hd h
  | getfield n =>
    obtain rfl := px_len_eq hl
    exact px_t_get cf lk hd h
  | putfield n =>
    obtain rfl := px_len_eq hl
    exact px_t_put cf lk hd h
  | iaload =>
    obtain rfl := px_len_eq hl
    exact px_t_iald  hd h
  | iastore =>
    obtain rfl := px_len_eq hl
    exact px_t_iast  hd h
  | baload =>
    obtain rfl := px_len_eq hl
    exact px_t_bald  hd h
  | bastore =>
    obtain rfl := px_len_eq hl
    exact px_t_bast  hd h
  | aaload =>
    obtain rfl := px_len_eq hl
    exact px_t_aald  hd h
  | aastore =>
    obtain rfl := px_len_eq hl
    exact px_t_aast  hd h
  | arraylength =>
    obtain rfl := px_len_eq hl
    exact px_t_alen  hd h
  | new n =>
    obtain rfl := px_len_eq hl
    exact px_t_new cf lk hd h
  | newarray n =>
    obtain rfl := px_len_eq hl
    exact px_t_newarr lk hd h
  | anewarray n =>
    obtain rfl := px_len_eq hl
    exact px_t_anew lk hd h
  | ireturn =>
    obtain rfl := px_len_eq hl
    exact px_t_iret  hd h
  | areturn =>
    obtain rfl := px_len_eq hl
    exact px_t_aret  hd h
  | return_ =>
    obtain rfl := px_len_eq hl
    exact px_t_vret  hd h
  | invokestatic n =>
    obtain rfl := px_len_eq hl
    exact px_t_static ok lk hd h
  | invokespecial n =>
    obtain rfl := px_len_eq hl
    exact px_t_special ok lk hd h
  | invokevirtual n =>
    obtain rfl := px_len_eq hl
    exact px_t_virt ok lk hd h
  | _ => cases h
theorem px_sound (cf : px_CF) (ok : px_TOK T) : ∀ (n d M : Nat) (S : px_S) (r : Option Value × px_H) (m : px_M) (Q : Option Value → px_H → Prop), T[M]? = some m → px_ex T n d M S = some r → Q r.1 r.2 → px_SW d m S.1 S.2.1 S.2.2.1 S.2.2.2.1 S.2.2.2.2 Q := by
  intro n
  induction n with
  | zero => intro d M S r m Q hm h; simp [px_ex] at h
  | succ n ih =>
    intro d M S r m Q hm h hq
    rw [px_ex] at h
    simp only [hm] at h
    cases hi : (px_mi m).lookup S.1 with
    | none => simp only [hi] at h; cases h
    | some q =>
      simp only [hi] at h
      obtain ⟨hdec, hln, hlk⟩ := (ok M m hm).2 S.1 q hi
      cases ha : px_act m q.1 q.2.2 S.1 S.2.1 S.2.2.1 S.2.2.2.1 S.2.2.2.2 with
      | none => simp only [ha] at h; cases h
      | some A =>
        simp only [ha] at h
        have hst := px_step (T := T) (d := d) (Q := Q) cf (fun M m hm => (ok M m hm).1) hdec hln hlk ha
        rcases A with S' | r' | c
        · exact hst (ih _ _ _ _ _ _ hm h hq)
        · cases h
          exact hst hq
        · cases d with
          | zero => cases h
          | succ d' =>
            dsimp only at h
            cases hm' : T[c.1]? with
            | none => simp only [hm'] at h; cases h
            | some m' =>
              simp only [hm'] at h
              by_cases hc : c.2.1.length ≤ px_ml m' ∧ c.2.2.2.2.2.2 + px_mc m' ≤ px_mc m
              · rw [if_pos hc] at h
                cases hr : px_ex T n d' c.1 (0, px_en (px_ml m') c.2.1, [], c.2.2.2.2.2.1, 0) with
                | none => simp only [hr] at h; cases h
                | some r1 =>
                  simp only [hr] at h
                  refine hst d' m' rfl hm' hc.2 (px_met (ok _ _ hm').1 hc.1 ?_)
                  exact ih d' c.1 (0, px_en (px_ml m') c.2.1, [], c.2.2.2.2.2.1, 0) r1 m' _ hm' hr (ih _ _ _ _ _ _ hm h hq)
              · rw [if_neg hc] at h; cases h
/-- the contract of a method, out of its pure run -/
theorem px_contract (cf : px_CF) (ok : px_TOK T) {M : Nat} {vs : List Value} (h : px_wc T d M vs w Q) : ∃ m', T[M]? = some m' ∧ px_mok m' ∧ px_SC d m' vs w Q := by
  obtain ⟨m', hm', hl, n, r, w', hr, hq⟩ := h
  exact ⟨m', hm', (ok _ _ hm').1, px_met (ok _ _ hm').1 hl (px_sound cf ok n d M _ (r, w') m' Q hm' hr hq)⟩
end PXS
