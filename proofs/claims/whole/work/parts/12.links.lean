/-! the links of the program, and that all of it is as the real machine has it -/
theorem px_lkc {T : List px_M} {P : Nat → px_M → Prop} {ci M : Nat} {m0 : px_M} {l : List (Nat × Nat)} (h0 : T[M]? = some m0) (hP : P ci m0) (hl : ∀ (ci' M' : Nat) (m' : px_M), (ci', M') ∈ l → T[M']? = some m' → P ci' m') : ∀ (ci' M' : Nat) (m' : px_M), (ci', M') ∈ (ci, M) :: l → T[M']? = some m' → P ci' m' := by
  intro ci' M' m' h1 h2
  rcases List.mem_cons.mp h1 with h | h
  · cases h
    cases h0.symm.trans h2
    exact hP
  · exact hl ci' M' m' h h2
theorem px_lkn {T : List px_M} {P : Nat → px_M → Prop} : ∀ (ci' M' : Nat) (m' : px_M), (ci', M') ∈ ([] : List (Nat × Nat)) → T[M']? = some m' → P ci' m' := fun _ _ _ h => absurd h List.not_mem_nil
theorem px_mkS {T : List px_M} {m : px_M} {idx n : Nat} {cis : List (Nat × Nat)} {v : Int32} {s : String} (h : ∀ (ci M : Nat) (m' : px_M), (ci, M) ∈ cis → T[M]? = some m' → px_lkS (px_my m).cls idx n m') : px_lk T m (.invokestatic idx) (30, n, cis, v, s) := by
  unfold px_lk
  dsimp only
  rw [if_neg (by decide), if_neg (by decide)]
  exact h
theorem px_mkC {T : List px_M} {m : px_M} {idx n : Nat} {cis : List (Nat × Nat)} {v : Int32} {s : String} (h : px_lkC (px_my m).cls idx) : px_lk T m (.invokestatic idx) (37, n, cis, v, s) := by
  unfold px_lk
  dsimp only
  rw [if_pos rfl]
  exact h
theorem px_mkM {T : List px_M} {m : px_M} {idx n : Nat} {cis : List (Nat × Nat)} {v : Int32} {s : String} (h : px_lkM (px_my m).cls idx) : px_lk T m (.invokestatic idx) (38, n, cis, v, s) := by
  unfold px_lk
  dsimp only
  rw [if_neg (by decide), if_pos rfl]
  exact h
theorem px_mkO {T : List px_M} {m : px_M} {idx n : Nat} {cis : List (Nat × Nat)} {v : Int32} {s : String} (h : px_lkO (px_my m).cls idx) : px_lk T m (.invokespecial idx) (36, n, cis, v, s) := by
  unfold px_lk
  dsimp only
  rw [if_pos rfl]
  exact h
theorem px_mkI {T : List px_M} {m : px_M} {idx n : Nat} {cis : List (Nat × Nat)} {v : Int32} {s : String} (h : ∀ (ci M : Nat) (m' : px_M), (ci, M) ∈ cis → T[M]? = some m' → px_lkI (px_my m).cls idx n m' ∨ px_lkN (px_my m).cls idx n m') : px_lk T m (.invokespecial idx) (31, n, cis, v, s) := by
  unfold px_lk
  dsimp only
  rw [if_neg (by decide)]
  intro ci M m' h1 h2
  rw [if_neg (by decide)]
  exact h ci M m' h1 h2
theorem px_mkX {T : List px_M} {m : px_M} {idx n : Nat} {cis : List (Nat × Nat)} {v : Int32} {s : String} (h : ∀ (ci M : Nat) (m' : px_M), (ci, M) ∈ cis → T[M]? = some m' → px_lkX (px_my m).cls idx n m') : px_lk T m (.invokespecial idx) (35, n, cis, v, s) := by
  unfold px_lk
  dsimp only
  rw [if_neg (by decide)]
  intro ci M m' h1 h2
  rw [if_pos rfl]
  exact h ci M m' h1 h2
def px_lks (T : List px_M) (m : px_M) : List (Nat × px_I) → Prop
  | [] => True
  | q :: l => px_lk T m q.2.1 q.2.2.2 ∧ px_lks T m l
theorem px_lks.at {T : List px_M} {m : px_M} : ∀ {l : List (Nat × px_I)}, px_lks T m l → ∀ q ∈ l, px_lk T m q.2.1 q.2.2.2 := by
  intro l
  induction l with
  | nil => intro _ q h; cases h
  | cons x l ih =>
    intro h q hq
    rcases List.mem_cons.mp hq with rfl | hq
    · exact h.1
    · exact ih h.2 q hq
def px_okm (m : px_M) : Prop := px_mok m ∧ (∀ q ∈ px_mi m, decode (px_mb m) q.1 = .ok (q.2.1, q.2.2.1) ∧ px_ln q.1 q.2.1 q.2.2.1 = true) ∧ px_lks px_tab m (px_mi m)
theorem pw_newarr_int : ∀ ty, px_nat .int = some ty → Cond.arrayClass ty ∈ px_W := fun ty h => by cases h; exact pw_116
theorem pw_newarr_byte : ∀ ty, px_nat .byte = some ty → Cond.arrayClass ty ∈ px_W := fun ty h => by cases h; exact pw_962
theorem pw_newarr_boolean : ∀ ty, px_nat .boolean = some ty → Cond.arrayClass ty ∈ px_W := fun ty h => by cases h; exact pw_961
theorem pw_objcode : Cond.code Lib.objectInit ⟨#[0xb1]⟩ 1 none ∈ px_W := pw_88
theorem pw_maxcode : Cond.code Lib.Math.max.name Lib.Math.max.code 2 (some .int) ∈ px_W := pw_475
theorem pl_X0_init : px_len1 yX0_init 3 := by unfold px_len1; decide +kernel
theorem pl_X0_toldKind : px_len1 yX0_toldKind 0 := by unfold px_len1; decide +kernel
theorem pl_X0_isOf : px_len1 yX0_isOf 1 := by unfold px_len1; decide +kernel
theorem pl_X0_daysToAsk : px_len1 yX0_daysToAsk 0 := by unfold px_len1; decide +kernel
theorem pl_X0_size : px_len1 yX0_size 2 := by unfold px_len1; decide +kernel
theorem pl_X0_mark : px_len1 yX0_mark 2 := by unfold px_len1; decide +kernel
theorem pl_X1_init : px_len1 yX1_init 3 := by unfold px_len1; decide +kernel
theorem pl_X1_toldKind : px_len1 yX1_toldKind 0 := by unfold px_len1; decide +kernel
theorem pl_X1_isOf : px_len1 yX1_isOf 1 := by unfold px_len1; decide +kernel
theorem pl_X1_isHeldBy : px_len1 yX1_isHeldBy 1 := by unfold px_len1; decide +kernel
theorem pl_X1_size : px_len1 yX1_size 2 := by unfold px_len1; decide +kernel
theorem pl_X1_mark : px_len1 yX1_mark 2 := by unfold px_len1; decide +kernel
theorem pl_X2_init : px_len1 yX2_init 0 := by unfold px_len1; decide +kernel
theorem pl_X2_firstGap : px_len1 yX2_firstGap 1 := by unfold px_len1; decide +kernel
theorem pl_X2_leastCover : px_len1 yX2_leastCover 1 := by unfold px_len1; decide +kernel
theorem pl_X2_willingOn : px_len1 yX2_willingOn 2 := by unfold px_len1; decide +kernel
theorem pl_X2_seekRound : px_len1 yX2_seekRound 1 := by unfold px_len1; decide +kernel
theorem pl_X2_goOn : px_len1 yX2_goOn 3 := by unfold px_len1; decide +kernel
theorem pl_X2_keepWay : px_len1 yX2_keepWay 2 := by unfold px_len1; decide +kernel
theorem pl_X2_bestStop : px_len1 yX2_bestStop 1 := by unfold px_len1; decide +kernel
theorem pl_X2_bestDefence : px_len1 yX2_bestDefence 2 := by unfold px_len1; decide +kernel
theorem pl_X2_priceBehind : px_len1 yX2_priceBehind 3 := by unfold px_len1; decide +kernel
theorem pl_X2_leastKinds : px_len1 yX2_leastKinds 1 := by unfold px_len1; decide +kernel
theorem pl_X2_suspects : px_len1 yX2_suspects 4 := by unfold px_len1; decide +kernel
theorem pl_X2_leastTerm : px_len1 yX2_leastTerm 1 := by unfold px_len1; decide +kernel
theorem pl_X3_init : px_len1 yX3_init 3 := by unfold px_len1; decide +kernel
theorem pl_X3_toldKind : px_len1 yX3_toldKind 0 := by unfold px_len1; decide +kernel
theorem pl_X3_isOf : px_len1 yX3_isOf 1 := by unfold px_len1; decide +kernel
theorem pl_X3_size : px_len1 yX3_size 2 := by unfold px_len1; decide +kernel
theorem pl_X3_mark : px_len1 yX3_mark 2 := by unfold px_len1; decide +kernel
theorem pl_X4_init : px_len1 yX4_init 0 := by unfold px_len1; decide +kernel
theorem pl_X4_take : px_len1 yX4_take 1 := by unfold px_len1; decide +kernel
theorem pl_X4_readTo : px_len1 yX4_readTo 1 := by unfold px_len1; decide +kernel
theorem pl_X4_readThing : px_len1 yX4_readThing 2 := by unfold px_len1; decide +kernel
theorem pl_X4_readHarm : px_len1 yX4_readHarm 1 := by unfold px_len1; decide +kernel
theorem pl_X4_expect : px_len1 yX4_expect 1 := by unfold px_len1; decide +kernel
theorem pl_X4_readNumber : px_len1 yX4_readNumber 2 := by unfold px_len1; decide +kernel
theorem pl_X4_next : px_len1 yX4_next 0 := by unfold px_len1; decide +kernel
theorem pl_X4_note : px_len1 yX4_note 2 := by unfold px_len1; decide +kernel
theorem pl_X4_kindOf : px_len1 yX4_kindOf 1 := by unfold px_len1; decide +kernel
theorem pl_X4_made : px_len1 yX4_made 4 := by unfold px_len1; decide +kernel
theorem pl_X5_init : px_len1 yX5_init 0 := by unfold px_len1; decide +kernel
theorem pl_X5_isTold : px_len1 yX5_isTold 0 := by unfold px_len1; decide +kernel
theorem pl_X5_beginAnew : px_len1 yX5_beginAnew 1 := by unfold px_len1; decide +kernel
theorem pl_X5_addThing : px_len1 yX5_addThing 1 := by unfold px_len1; decide +kernel
theorem pl_X5_addHarm : px_len1 yX5_addHarm 1 := by unfold px_len1; decide +kernel
theorem pl_X5_becomeLike : px_len1 yX5_becomeLike 1 := by unfold px_len1; decide +kernel
theorem pl_X5_thingAt : px_len1 yX5_thingAt 1 := by unfold px_len1; decide +kernel
theorem pl_X5_oathOf : px_len1 yX5_oathOf 1 := by unfold px_len1; decide +kernel
theorem pl_X5_hasHarm : px_len1 yX5_hasHarm 1 := by unfold px_len1; decide +kernel
theorem pl_X5_harmAt : px_len1 yX5_harmAt 1 := by unfold px_len1; decide +kernel
theorem pl_X5_sendTo : px_len1 yX5_sendTo 1 := by unfold px_len1; decide +kernel
theorem pl_X5_tryHarm : px_len1 yX5_tryHarm 1 := by unfold px_len1; decide +kernel
theorem pl_X5_letPass : px_len1 yX5_letPass 1 := by unfold px_len1; decide +kernel
theorem pl_X5_undoLatest : px_len1 yX5_undoLatest 0 := by unfold px_len1; decide +kernel
theorem pl_X5_keepAct : px_len1 yX5_keepAct 1 := by unfold px_len1; decide +kernel
theorem pl_X5_swear : px_len1 yX5_swear 2 := by unfold px_len1; decide +kernel
theorem pl_X5_boundOn : px_len1 yX5_boundOn 1 := by unfold px_len1; decide +kernel
theorem pl_X5_boundIf : px_len1 yX5_boundIf 3 := by unfold px_len1; decide +kernel
theorem pl_X5_openOn : px_len1 yX5_openOn 1 := by unfold px_len1; decide +kernel
theorem pl_X5_openTo : px_len1 yX5_openTo 1 := by unfold px_len1; decide +kernel
theorem pl_X5_priceOf : px_len1 yX5_priceOf 1 := by unfold px_len1; decide +kernel
theorem pl_X5_cheapestOn : px_len1 yX5_cheapestOn 1 := by unfold px_len1; decide +kernel
theorem pl_X5_cheapestPriceOn : px_len1 yX5_cheapestPriceOn 1 := by unfold px_len1; decide +kernel
theorem pl_X5_toldAs : px_len1 yX5_toldAs 1 := by unfold px_len1; decide +kernel
theorem pl_X5_harmsWith : px_len1 yX5_harmsWith 1 := by unfold px_len1; decide +kernel
theorem pl_X6_init : px_len1 yX6_init 0 := by unfold px_len1; decide +kernel
theorem pl_X6_isMissing : px_len1 yX6_isMissing 0 := by unfold px_len1; decide +kernel
theorem pl_X6_vanish : px_len1 yX6_vanish 0 := by unfold px_len1; decide +kernel
theorem pl_X6_lay : px_len1 yX6_lay 2 := by unfold px_len1; decide +kernel
theorem pl_X6_spans : px_len1 yX6_spans 2 := by unfold px_len1; decide +kernel
theorem pl_X6_put : px_len1 yX6_put 2 := by unfold px_len1; decide +kernel
theorem pl_X6_takeFrom : px_len1 yX6_takeFrom 4 := by unfold px_len1; decide +kernel
theorem pl_X6_tellsYesOrNo : px_len1 yX6_tellsYesOrNo 2 := by unfold px_len1; decide +kernel
theorem pl_X6_tellsHit : px_len1 yX6_tellsHit 1 := by unfold px_len1; decide +kernel
theorem pl_X6_narrowed : px_len1 yX6_narrowed 1 := by unfold px_len1; decide +kernel
theorem pl_X7_init : px_len1 yX7_init 3 := by unfold px_len1; decide +kernel
theorem pl_X7_isOf : px_len1 yX7_isOf 1 := by unfold px_len1; decide +kernel
theorem pl_X7_daysToAsk : px_len1 yX7_daysToAsk 0 := by unfold px_len1; decide +kernel
theorem pl_X7_swearsOn : px_len1 yX7_swearsOn 1 := by unfold px_len1; decide +kernel
theorem pl_X7_isHeldBy : px_len1 yX7_isHeldBy 1 := by unfold px_len1; decide +kernel
theorem pl_X7_size : px_len1 yX7_size 2 := by unfold px_len1; decide +kernel
theorem pl_X7_mark : px_len1 yX7_mark 2 := by unfold px_len1; decide +kernel
theorem pl_X8_init : px_len1 yX8_init 0 := by unfold px_len1; decide +kernel
theorem pl_X8_clear : px_len1 yX8_clear 0 := by unfold px_len1; decide +kernel
theorem pl_X8_leave : px_len1 yX8_leave 1 := by unfold px_len1; decide +kernel
theorem pl_X8_numberAt : px_len1 yX8_numberAt 1 := by unfold px_len1; decide +kernel
theorem pl_X9_init : px_len1 yX9_init 3 := by unfold px_len1; decide +kernel
theorem pl_X9_toldKind : px_len1 yX9_toldKind 0 := by unfold px_len1; decide +kernel
theorem pl_X9_isOf : px_len1 yX9_isOf 1 := by unfold px_len1; decide +kernel
theorem pl_X9_isHeldBy : px_len1 yX9_isHeldBy 1 := by unfold px_len1; decide +kernel
theorem pl_X9_size : px_len1 yX9_size 2 := by unfold px_len1; decide +kernel
theorem pl_X10_init : px_len1 yX10_init 3 := by unfold px_len1; decide +kernel
theorem pl_X10_toldKind : px_len1 yX10_toldKind 0 := by unfold px_len1; decide +kernel
theorem pl_X10_isOf : px_len1 yX10_isOf 1 := by unfold px_len1; decide +kernel
theorem pl_X10_swearsOn : px_len1 yX10_swearsOn 1 := by unfold px_len1; decide +kernel
theorem pl_X10_mark : px_len1 yX10_mark 2 := by unfold px_len1; decide +kernel
theorem pl_X11_init : px_len1 yX11_init 0 := by unfold px_len1; decide +kernel
theorem pl_X11_row : px_len1 yX11_row 3 := by unfold px_len1; decide +kernel
theorem pl_X11_set : px_len1 yX11_set 3 := by unfold px_len1; decide +kernel
theorem pl_X11_copy : px_len1 yX11_copy 5 := by unfold px_len1; decide +kernel
theorem pl_X11_drop : px_len1 yX11_drop 1 := by unfold px_len1; decide +kernel
theorem pl_X11_feed : px_len1 yX11_feed 1 := by unfold px_len1; decide +kernel
theorem pl_X11_realm : px_len1 yX11_realm 0 := by unfold px_len1; decide +kernel
theorem pl_X11_fault : px_len1 yX11_fault 0 := by unfold px_len1; decide +kernel
theorem pl_X11_askFor : px_len1 yX11_askFor 1 := by unfold px_len1; decide +kernel
theorem pl_X11_tries : px_len1 yX11_tries 1 := by unfold px_len1; decide +kernel
theorem pl_X11_waits : px_len1 yX11_waits 1 := by unfold px_len1; decide +kernel
theorem pl_X11_undo : px_len1 yX11_undo 0 := by unfold px_len1; decide +kernel
theorem pl_X11_thing : px_len1 yX11_thing 2 := by unfold px_len1; decide +kernel
theorem pl_X11_harm : px_len1 yX11_harm 2 := by unfold px_len1; decide +kernel
theorem pl_X11_open : px_len1 yX11_open 1 := by unfold px_len1; decide +kernel
theorem pl_X11_gap : px_len1 yX11_gap 0 := by unfold px_len1; decide +kernel
theorem pl_X11_cover : px_len1 yX11_cover 1 := by unfold px_len1; decide +kernel
theorem pl_X11_round : px_len1 yX11_round 1 := by unfold px_len1; decide +kernel
theorem pl_X11_cheapest : px_len1 yX11_cheapest 2 := by unfold px_len1; decide +kernel
theorem pl_X11_defended : px_len1 yX11_defended 2 := by unfold px_len1; decide +kernel
theorem pl_X11_enough : px_len1 yX11_enough 1 := by unfold px_len1; decide +kernel
theorem pl_X11_odds : px_len1 yX11_odds 3 := by unfold px_len1; decide +kernel
theorem pl_X11_hitBy : px_len1 yX11_hitBy 3 := by unfold px_len1; decide +kernel
theorem pl_X11_terms : px_len1 yX11_terms 0 := by unfold px_len1; decide +kernel
theorem pl_X11_image : px_len1 yX11_image 1 := by unfold px_len1; decide +kernel
theorem pl_X11_restore : px_len1 yX11_restore 1 := by unfold px_len1; decide +kernel
theorem pl_X11_kind : px_len1 yX11_kind 1 := by unfold px_len1; decide +kernel
theorem pl_X11_as : px_len1 yX11_as 2 := by unfold px_len1; decide +kernel
theorem pl_X11_ask : px_len1 yX11_ask 2 := by unfold px_len1; decide +kernel
theorem pl_X11_trace : px_len1 yX11_trace 1 := by unfold px_len1; decide +kernel
theorem pl_X11_count : px_len1 yX11_count 1 := by unfold px_len1; decide +kernel
theorem pl_X11_status : px_len1 yX11_status 0 := by unfold px_len1; decide +kernel
theorem pl_X11_found : px_len1 yX11_found 1 := by unfold px_len1; decide +kernel
theorem pl_X11_clean : px_len1 yX11_clean 1 := by unfold px_len1; decide +kernel
theorem pl_X11_rowAt : px_len1 yX11_rowAt 1 := by unfold px_len1; decide +kernel
theorem pl_X11_imageAt : px_len1 yX11_imageAt 1 := by unfold px_len1; decide +kernel
theorem pl_X11_rowsThere : px_len1 yX11_rowsThere 0 := by unfold px_len1; decide +kernel
theorem pl_X11_isAhead : px_len1 yX11_isAhead 1 := by unfold px_len1; decide +kernel
theorem pl_X11_isPair : px_len1 yX11_isPair 1 := by unfold px_len1; decide +kernel
theorem pl_X11_sizeOrSet : px_len1 yX11_sizeOrSet 2 := by unfold px_len1; decide +kernel
theorem pl_X11_power : px_len1 yX11_power 2 := by unfold px_len1; decide +kernel
theorem pl_X11_sharedDivisor : px_len1 yX11_sharedDivisor 2 := by unfold px_len1; decide +kernel
theorem pl_X12_init : px_len1 yX12_init 0 := by unfold px_len1; decide +kernel
theorem pl_X12_in : px_len1 yX12_in 3 := by unfold px_len1; decide +kernel
theorem pl_X12_finds : px_len1 yX12_finds 1 := by unfold px_len1; decide +kernel
theorem pl_X12_well : px_len1 yX12_well 1 := by unfold px_len1; decide +kernel
theorem pl_X12_isRow : px_len1 yX12_isRow 1 := by unfold px_len1; decide +kernel
theorem pl_X12_row : px_len1 yX12_row 3 := by unfold px_len1; decide +kernel
theorem pl_X12_set : px_len1 yX12_set 3 := by unfold px_len1; decide +kernel
theorem pl_X12_copy : px_len1 yX12_copy 5 := by unfold px_len1; decide +kernel
theorem pl_X12_drop : px_len1 yX12_drop 1 := by unfold px_len1; decide +kernel
theorem pl_X12_status : px_len1 yX12_status 0 := by unfold px_len1; decide +kernel
theorem pl_X12_get : px_len1 yX12_get 1 := by unfold px_len1; decide +kernel
theorem pl_X12_put : px_len1 yX12_put 2 := by unfold px_len1; decide +kernel
theorem pl_X12_copyRealm : px_len1 yX12_copyRealm 2 := by unfold px_len1; decide +kernel
theorem pl_X12_isThing : px_len1 yX12_isThing 1 := by unfold px_len1; decide +kernel
theorem pl_X12_isHarm : px_len1 yX12_isHarm 1 := by unfold px_len1; decide +kernel
theorem pl_X12_ofThing : px_len1 yX12_ofThing 2 := by unfold px_len1; decide +kernel
theorem pl_X12_feed : px_len1 yX12_feed 1 := by unfold px_len1; decide +kernel
theorem pl_X12_here : px_len1 yX12_here 0 := by unfold px_len1; decide +kernel
theorem pl_X12_next : px_len1 yX12_next 0 := by unfold px_len1; decide +kernel
theorem pl_X12_fails : px_len1 yX12_fails 1 := by unfold px_len1; decide +kernel
theorem pl_X12_sign : px_len1 yX12_sign 1 := by unfold px_len1; decide +kernel
theorem pl_X12_numberBut : px_len1 yX12_numberBut 3 := by unfold px_len1; decide +kernel
theorem pl_X12_number : px_len1 yX12_number 3 := by unfold px_len1; decide +kernel
theorem pl_X12_kindOf : px_len1 yX12_kindOf 1 := by unfold px_len1; decide +kernel
theorem pl_X12_readThing : px_len1 yX12_readThing 0 := by unfold px_len1; decide +kernel
theorem pl_X12_readHarm : px_len1 yX12_readHarm 0 := by unfold px_len1; decide +kernel
theorem pl_X12_realm : px_len1 yX12_realm 0 := by unfold px_len1; decide +kernel
theorem pl_X12_fault : px_len1 yX12_fault 0 := by unfold px_len1; decide +kernel
theorem pl_X12_asSworn : px_len1 yX12_asSworn 0 := by unfold px_len1; decide +kernel
theorem pl_X12_boundOn : px_len1 yX12_boundOn 2 := by unfold px_len1; decide +kernel
theorem pl_X12_openBy : px_len1 yX12_openBy 1 := by unfold px_len1; decide +kernel
theorem pl_X12_openOn : px_len1 yX12_openOn 1 := by unfold px_len1; decide +kernel
theorem pl_X12_openAsSworn : px_len1 yX12_openAsSworn 1 := by unfold px_len1; decide +kernel
theorem pl_X12_wayOf : px_len1 yX12_wayOf 1 := by unfold px_len1; decide +kernel
theorem pl_X12_wouldSwear : px_len1 yX12_wouldSwear 2 := by unfold px_len1; decide +kernel
theorem pl_X12_know : px_len1 yX12_know 1 := by unfold px_len1; decide +kernel
theorem pl_X12_hasRealm : px_len1 yX12_hasRealm 0 := by unfold px_len1; decide +kernel
theorem pl_X12_askFor : px_len1 yX12_askFor 1 := by unfold px_len1; decide +kernel
theorem pl_X12_tries : px_len1 yX12_tries 1 := by unfold px_len1; decide +kernel
theorem pl_X12_waits : px_len1 yX12_waits 1 := by unfold px_len1; decide +kernel
theorem pl_X12_undo : px_len1 yX12_undo 0 := by unfold px_len1; decide +kernel
theorem pl_X12_sumOf : px_len1 yX12_sumOf 1 := by unfold px_len1; decide +kernel
theorem pl_X12_thing : px_len1 yX12_thing 2 := by unfold px_len1; decide +kernel
theorem pl_X12_harm : px_len1 yX12_harm 2 := by unfold px_len1; decide +kernel
theorem pl_X12_isDay : px_len1 yX12_isDay 1 := by unfold px_len1; decide +kernel
theorem pl_X12_open : px_len1 yX12_open 1 := by unfold px_len1; decide +kernel
theorem pl_X12_gap : px_len1 yX12_gap 0 := by unfold px_len1; decide +kernel
theorem pl_X12_manyOf : px_len1 yX12_manyOf 1 := by unfold px_len1; decide +kernel
theorem pl_X12_covers : px_len1 yX12_covers 1 := by unfold px_len1; decide +kernel
theorem pl_X12_cover : px_len1 yX12_cover 1 := by unfold px_len1; decide +kernel
theorem pl_X12_goesRound : px_len1 yX12_goesRound 2 := by unfold px_len1; decide +kernel
theorem pl_X12_round : px_len1 yX12_round 1 := by unfold px_len1; decide +kernel
theorem pl_X12_cheapestOf : px_len1 yX12_cheapestOf 1 := by unfold px_len1; decide +kernel
theorem pl_X12_cheapest : px_len1 yX12_cheapest 2 := by unfold px_len1; decide +kernel
theorem pl_X12_dearBy : px_len1 yX12_dearBy 2 := by unfold px_len1; decide +kernel
theorem pl_X12_defended : px_len1 yX12_defended 2 := by unfold px_len1; decide +kernel
theorem pl_X12_ofKinds : px_len1 yX12_ofKinds 1 := by unfold px_len1; decide +kernel
theorem pl_X12_enough : px_len1 yX12_enough 1 := by unfold px_len1; decide +kernel
theorem pl_X12_odds : px_len1 yX12_odds 3 := by unfold px_len1; decide +kernel
theorem pl_X12_hitBy : px_len1 yX12_hitBy 3 := by unfold px_len1; decide +kernel
theorem pl_X12_terms : px_len1 yX12_terms 0 := by unfold px_len1; decide +kernel
theorem pl_X12_image : px_len1 yX12_image 1 := by unfold px_len1; decide +kernel
theorem pl_X12_restore : px_len1 yX12_restore 1 := by unfold px_len1; decide +kernel
theorem pl_X12_kind : px_len1 yX12_kind 1 := by unfold px_len1; decide +kernel
theorem pl_X12_inHarms : px_len1 yX12_inHarms 1 := by unfold px_len1; decide +kernel
theorem pl_X12_isOne : px_len1 yX12_isOne 2 := by unfold px_len1; decide +kernel
theorem pl_X12_as : px_len1 yX12_as 2 := by unfold px_len1; decide +kernel
theorem pl_X12_leaves : px_len1 yX12_leaves 1 := by unfold px_len1; decide +kernel
theorem pl_X12_size10 : px_len1 yX12_size10 1 := by unfold px_len1; decide +kernel
theorem pl_X12_mark20 : px_len1 yX12_mark20 1 := by unfold px_len1; decide +kernel
theorem pl_X12_mark21 : px_len1 yX12_mark21 1 := by unfold px_len1; decide +kernel
theorem pl_X12_size13 : px_len1 yX12_size13 1 := by unfold px_len1; decide +kernel
theorem pl_X12_size14 : px_len1 yX12_size14 1 := by unfold px_len1; decide +kernel
theorem pl_X12_mark22 : px_len1 yX12_mark22 1 := by unfold px_len1; decide +kernel
theorem pl_X12_mark24 : px_len1 yX12_mark24 1 := by unfold px_len1; decide +kernel
theorem pl_X12_mark23 : px_len1 yX12_mark23 1 := by unfold px_len1; decide +kernel
theorem pl_X12_markOf : px_len1 yX12_markOf 1 := by unfold px_len1; decide +kernel
theorem pl_X12_size11 : px_len1 yX12_size11 1 := by unfold px_len1; decide +kernel
theorem pl_X12_size12 : px_len1 yX12_size12 1 := by unfold px_len1; decide +kernel
theorem pl_X12_sizeOf : px_len1 yX12_sizeOf 1 := by unfold px_len1; decide +kernel
theorem pl_X12_ask : px_len1 yX12_ask 2 := by unfold px_len1; decide +kernel
theorem pl_X12_trace : px_len1 yX12_trace 1 := by unfold px_len1; decide +kernel
theorem pl_X12_count : px_len1 yX12_count 1 := by unfold px_len1; decide +kernel
theorem pl_J6_bitCount_0f7a4 : px_len1 yJ6_bitCount_0f7a4 1 := by unfold px_len1; decide +kernel
theorem pl_J7_fill_53178 : px_len1 yJ7_fill_53178 2 := by unfold px_len1; decide +kernel
theorem pl_abs_toldKind : px_len1 ⟨"AllSworn$Thing", "toldKind", "()I"⟩ 0 := by unfold px_len1; decide +kernel
theorem lf_X0_13 : px_lkF "AllSworn$Foreign" 13 (10, 1, [(0, 0), (1, 0), (3, 0), (8, 0), (9, 0)], 0, "AllSworn$Foreign") := ⟨"far", "I", Or.inl ⟨rfl, pw_386⟩, List.forall_mem_cons.mpr ⟨⟨(RX0, TX0, 3), rfl, by decide, rfl, rfl, Or.inr pw_387⟩, List.forall_mem_cons.mpr ⟨⟨(RX1, TX1, 3), rfl, by decide, rfl, rfl, Or.inr pw_387⟩, List.forall_mem_cons.mpr ⟨⟨(RX3, TX3, 3), rfl, by decide, rfl, rfl, Or.inr pw_387⟩, List.forall_mem_cons.mpr ⟨⟨(RX9, TX9, 3), rfl, by decide, rfl, rfl, Or.inr pw_387⟩, List.forall_mem_cons.mpr ⟨⟨(RX10, TX10, 3), rfl, by decide, rfl, rfl, Or.inr pw_387⟩, fun _ h => absurd h List.not_mem_nil⟩⟩⟩⟩⟩⟩
theorem lf_X1_13 : px_lkF "AllSworn$Mixed" 13 (10, 0, [(0, 0), (1, 0), (3, 0), (8, 0), (9, 0)], 0, "AllSworn$Mixed") := ⟨"number", "I", Or.inl ⟨rfl, pw_379⟩, List.forall_mem_cons.mpr ⟨⟨(RX0, TX0, 3), rfl, by decide, rfl, rfl, Or.inr pw_380⟩, List.forall_mem_cons.mpr ⟨⟨(RX1, TX1, 3), rfl, by decide, rfl, rfl, Or.inr pw_380⟩, List.forall_mem_cons.mpr ⟨⟨(RX3, TX3, 3), rfl, by decide, rfl, rfl, Or.inr pw_380⟩, List.forall_mem_cons.mpr ⟨⟨(RX9, TX9, 3), rfl, by decide, rfl, rfl, Or.inr pw_380⟩, List.forall_mem_cons.mpr ⟨⟨(RX10, TX10, 3), rfl, by decide, rfl, rfl, Or.inr pw_380⟩, fun _ h => absurd h List.not_mem_nil⟩⟩⟩⟩⟩⟩
theorem lf_X2_12 : px_lkF "AllSworn$Oracle" 12 (10, 0, [(2, 0)], 0, "AllSworn$Oracle") := ⟨"dream", "LAllSworn$Realm;", Or.inl ⟨rfl, pw_178⟩, List.forall_mem_cons.mpr ⟨⟨(RX2, TX2, 5), rfl, by decide, rfl, rfl, Or.inl rfl⟩, fun _ h => absurd h List.not_mem_nil⟩⟩
theorem lf_X2_18 : px_lkF "AllSworn$Oracle" 18 (10, 1, [(2, 0)], 0, "AllSworn$Oracle") := ⟨"way", "[I", Or.inl ⟨rfl, pw_179⟩, List.forall_mem_cons.mpr ⟨⟨(RX2, TX2, 5), rfl, by decide, rfl, rfl, Or.inl rfl⟩, fun _ h => absurd h List.not_mem_nil⟩⟩
theorem lf_X2_22 : px_lkF "AllSworn$Oracle" 22 (10, 2, [(2, 0)], 0, "AllSworn$Oracle") := ⟨"bestWay", "[I", Or.inl ⟨rfl, pw_180⟩, List.forall_mem_cons.mpr ⟨⟨(RX2, TX2, 5), rfl, by decide, rfl, rfl, Or.inl rfl⟩, fun _ h => absurd h List.not_mem_nil⟩⟩
theorem lf_X2_26 : px_lkF "AllSworn$Oracle" 26 (10, 3, [(2, 0)], 0, "AllSworn$Oracle") := ⟨"bestDays", "I", Or.inl ⟨rfl, pw_181⟩, List.forall_mem_cons.mpr ⟨⟨(RX2, TX2, 5), rfl, by decide, rfl, rfl, Or.inl rfl⟩, fun _ h => absurd h List.not_mem_nil⟩⟩
theorem lf_X2_30 : px_lkF "AllSworn$Oracle" 30 (10, 4, [(2, 0)], 0, "AllSworn$Oracle") := ⟨"bestLength", "I", Or.inl ⟨rfl, pw_183⟩, List.forall_mem_cons.mpr ⟨⟨(RX2, TX2, 5), rfl, by decide, rfl, rfl, Or.inl rfl⟩, fun _ h => absurd h List.not_mem_nil⟩⟩
theorem lf_X2_33 : px_lkF "AllSworn$Oracle" 33 (11, 8, [(5, 0)], 0, "AllSworn$Realm") := ⟨"day", "I", Or.inr ⟨rfl, _, pw_143⟩, List.forall_mem_cons.mpr ⟨⟨(RX5, TX5, 10), rfl, by decide, rfl, rfl, Or.inl rfl⟩, fun _ h => absurd h List.not_mem_nil⟩⟩
theorem lf_X2_44 : px_lkF "AllSworn$Oracle" 44 (11, 5, [(5, 0)], 0, "AllSworn$Realm") := ⟨"thingCount", "I", Or.inr ⟨rfl, _, pw_133⟩, List.forall_mem_cons.mpr ⟨⟨(RX5, TX5, 10), rfl, by decide, rfl, rfl, Or.inl rfl⟩, fun _ h => absurd h List.not_mem_nil⟩⟩
theorem lf_X2_52 : px_lkF "AllSworn$Oracle" 52 (11, 4, [(5, 0)], 0, "AllSworn$Realm") := ⟨"term", "I", Or.inr ⟨rfl, _, pw_130⟩, List.forall_mem_cons.mpr ⟨⟨(RX5, TX5, 10), rfl, by decide, rfl, rfl, Or.inl rfl⟩, fun _ h => absurd h List.not_mem_nil⟩⟩
theorem lf_X2_114 : px_lkF "AllSworn$Oracle" 114 (11, 6, [(5, 0)], 0, "AllSworn$Realm") := ⟨"harmCount", "I", Or.inr ⟨rfl, _, pw_138⟩, List.forall_mem_cons.mpr ⟨⟨(RX5, TX5, 10), rfl, by decide, rfl, rfl, Or.inl rfl⟩, fun _ h => absurd h List.not_mem_nil⟩⟩
theorem lf_X3_29 : px_lkF "AllSworn$Plain" 29 (10, 0, [(0, 0), (1, 0), (3, 0), (8, 0), (9, 0)], 0, "AllSworn$Plain") := ⟨"number", "I", Or.inl ⟨rfl, pw_381⟩, List.forall_mem_cons.mpr ⟨⟨(RX0, TX0, 3), rfl, by decide, rfl, rfl, Or.inr pw_382⟩, List.forall_mem_cons.mpr ⟨⟨(RX1, TX1, 3), rfl, by decide, rfl, rfl, Or.inr pw_382⟩, List.forall_mem_cons.mpr ⟨⟨(RX3, TX3, 3), rfl, by decide, rfl, rfl, Or.inr pw_382⟩, List.forall_mem_cons.mpr ⟨⟨(RX9, TX9, 3), rfl, by decide, rfl, rfl, Or.inr pw_382⟩, List.forall_mem_cons.mpr ⟨⟨(RX10, TX10, 3), rfl, by decide, rfl, rfl, Or.inr pw_382⟩, fun _ h => absurd h List.not_mem_nil⟩⟩⟩⟩⟩⟩
theorem lf_X4_11 : px_lkF "AllSworn$Reader" 11 (10, 0, [(4, 0)], 0, "AllSworn$Reader") := ⟨"tape", "[I", Or.inl ⟨rfl, pw_97⟩, List.forall_mem_cons.mpr ⟨⟨(RX4, TX4, 5), rfl, by decide, rfl, rfl, Or.inl rfl⟩, fun _ h => absurd h List.not_mem_nil⟩⟩
theorem lf_X4_15 : px_lkF "AllSworn$Reader" 15 (10, 1, [(4, 0)], 0, "AllSworn$Reader") := ⟨"length", "I", Or.inl ⟨rfl, pw_98⟩, List.forall_mem_cons.mpr ⟨⟨(RX4, TX4, 5), rfl, by decide, rfl, rfl, Or.inl rfl⟩, fun _ h => absurd h List.not_mem_nil⟩⟩
theorem lf_X4_19 : px_lkF "AllSworn$Reader" 19 (10, 2, [(4, 0)], 0, "AllSworn$Reader") := ⟨"at", "I", Or.inl ⟨rfl, pw_100⟩, List.forall_mem_cons.mpr ⟨⟨(RX4, TX4, 5), rfl, by decide, rfl, rfl, Or.inl rfl⟩, fun _ h => absurd h List.not_mem_nil⟩⟩
theorem lf_X4_22 : px_lkF "AllSworn$Reader" 22 (10, 3, [(4, 0)], 0, "AllSworn$Reader") := ⟨"wrong", "I", Or.inl ⟨rfl, pw_101⟩, List.forall_mem_cons.mpr ⟨⟨(RX4, TX4, 5), rfl, by decide, rfl, rfl, Or.inl rfl⟩, fun _ h => absurd h List.not_mem_nil⟩⟩
theorem lf_X4_25 : px_lkF "AllSworn$Reader" 25 (10, 4, [(4, 0)], 0, "AllSworn$Reader") := ⟨"wrongPlace", "I", Or.inl ⟨rfl, pw_103⟩, List.forall_mem_cons.mpr ⟨⟨(RX4, TX4, 5), rfl, by decide, rfl, rfl, Or.inl rfl⟩, fun _ h => absurd h List.not_mem_nil⟩⟩
theorem lf_X4_50 : px_lkF "AllSworn$Reader" 50 (11, 6, [(5, 0)], 0, "AllSworn$Realm") := ⟨"harmCount", "I", Or.inr ⟨rfl, _, pw_137⟩, List.forall_mem_cons.mpr ⟨⟨(RX5, TX5, 10), rfl, by decide, rfl, rfl, Or.inl rfl⟩, fun _ h => absurd h List.not_mem_nil⟩⟩
theorem lf_X4_65 : px_lkF "AllSworn$Reader" 65 (11, 5, [(5, 0)], 0, "AllSworn$Realm") := ⟨"thingCount", "I", Or.inr ⟨rfl, _, pw_134⟩, List.forall_mem_cons.mpr ⟨⟨(RX5, TX5, 10), rfl, by decide, rfl, rfl, Or.inl rfl⟩, fun _ h => absurd h List.not_mem_nil⟩⟩
theorem lf_X5_11 : px_lkF "AllSworn$Realm" 11 (10, 0, [(5, 0)], 0, "AllSworn$Realm") := ⟨"things", "[LAllSworn$Thing;", Or.inl ⟨rfl, pw_125⟩, List.forall_mem_cons.mpr ⟨⟨(RX5, TX5, 10), rfl, by decide, rfl, rfl, Or.inl rfl⟩, fun _ h => absurd h List.not_mem_nil⟩⟩
theorem lf_X5_17 : px_lkF "AllSworn$Realm" 17 (10, 1, [(5, 0)], 0, "AllSworn$Realm") := ⟨"sworn", "[I", Or.inl ⟨rfl, pw_126⟩, List.forall_mem_cons.mpr ⟨⟨(RX5, TX5, 10), rfl, by decide, rfl, rfl, Or.inl rfl⟩, fun _ h => absurd h List.not_mem_nil⟩⟩
theorem lf_X5_21 : px_lkF "AllSworn$Realm" 21 (10, 2, [(5, 0)], 0, "AllSworn$Realm") := ⟨"harms", "[I", Or.inl ⟨rfl, pw_127⟩, List.forall_mem_cons.mpr ⟨⟨(RX5, TX5, 10), rfl, by decide, rfl, rfl, Or.inl rfl⟩, fun _ h => absurd h List.not_mem_nil⟩⟩
theorem lf_X5_24 : px_lkF "AllSworn$Realm" 24 (10, 3, [(5, 0)], 0, "AllSworn$Realm") := ⟨"acts", "[I", Or.inl ⟨rfl, pw_128⟩, List.forall_mem_cons.mpr ⟨⟨(RX5, TX5, 10), rfl, by decide, rfl, rfl, Or.inl rfl⟩, fun _ h => absurd h List.not_mem_nil⟩⟩
theorem lf_X5_27 : px_lkF "AllSworn$Realm" 27 (10, 4, [(5, 0)], 0, "AllSworn$Realm") := ⟨"term", "I", Or.inl ⟨rfl, pw_129⟩, List.forall_mem_cons.mpr ⟨⟨(RX5, TX5, 10), rfl, by decide, rfl, rfl, Or.inl rfl⟩, fun _ h => absurd h List.not_mem_nil⟩⟩
theorem lf_X5_31 : px_lkF "AllSworn$Realm" 31 (10, 5, [(5, 0)], 0, "AllSworn$Realm") := ⟨"thingCount", "I", Or.inl ⟨rfl, pw_132⟩, List.forall_mem_cons.mpr ⟨⟨(RX5, TX5, 10), rfl, by decide, rfl, rfl, Or.inl rfl⟩, fun _ h => absurd h List.not_mem_nil⟩⟩
theorem lf_X5_34 : px_lkF "AllSworn$Realm" 34 (10, 6, [(5, 0)], 0, "AllSworn$Realm") := ⟨"harmCount", "I", Or.inl ⟨rfl, pw_136⟩, List.forall_mem_cons.mpr ⟨⟨(RX5, TX5, 10), rfl, by decide, rfl, rfl, Or.inl rfl⟩, fun _ h => absurd h List.not_mem_nil⟩⟩
theorem lf_X5_37 : px_lkF "AllSworn$Realm" 37 (10, 7, [(5, 0)], 0, "AllSworn$Realm") := ⟨"actCount", "I", Or.inl ⟨rfl, pw_140⟩, List.forall_mem_cons.mpr ⟨⟨(RX5, TX5, 10), rfl, by decide, rfl, rfl, Or.inl rfl⟩, fun _ h => absurd h List.not_mem_nil⟩⟩
theorem lf_X5_40 : px_lkF "AllSworn$Realm" 40 (10, 8, [(5, 0)], 0, "AllSworn$Realm") := ⟨"day", "I", Or.inl ⟨rfl, pw_142⟩, List.forall_mem_cons.mpr ⟨⟨(RX5, TX5, 10), rfl, by decide, rfl, rfl, Or.inl rfl⟩, fun _ h => absurd h List.not_mem_nil⟩⟩
theorem lf_X5_43 : px_lkF "AllSworn$Realm" 43 (10, 9, [(5, 0)], 0, "AllSworn$Realm") := ⟨"hits", "I", Or.inl ⟨rfl, pw_145⟩, List.forall_mem_cons.mpr ⟨⟨(RX5, TX5, 10), rfl, by decide, rfl, rfl, Or.inl rfl⟩, fun _ h => absurd h List.not_mem_nil⟩⟩
theorem lf_X5_57 : px_lkF "AllSworn$Realm" 57 (10, 0, [(0, 0), (1, 0), (3, 0), (8, 0), (9, 0)], 0, "AllSworn$Thing") := ⟨"number", "I", Or.inl ⟨rfl, pw_383⟩, List.forall_mem_cons.mpr ⟨⟨(RX0, TX0, 3), rfl, by decide, rfl, rfl, Or.inl rfl⟩, List.forall_mem_cons.mpr ⟨⟨(RX1, TX1, 3), rfl, by decide, rfl, rfl, Or.inl rfl⟩, List.forall_mem_cons.mpr ⟨⟨(RX3, TX3, 3), rfl, by decide, rfl, rfl, Or.inl rfl⟩, List.forall_mem_cons.mpr ⟨⟨(RX9, TX9, 3), rfl, by decide, rfl, rfl, Or.inl rfl⟩, List.forall_mem_cons.mpr ⟨⟨(RX10, TX10, 3), rfl, by decide, rfl, rfl, Or.inl rfl⟩, fun _ h => absurd h List.not_mem_nil⟩⟩⟩⟩⟩⟩
theorem lf_X5_92 : px_lkF "AllSworn$Realm" 92 (10, 2, [(0, 0), (1, 0), (3, 0), (8, 0), (9, 0)], 0, "AllSworn$Thing") := ⟨"price", "I", Or.inl ⟨rfl, pw_391⟩, List.forall_mem_cons.mpr ⟨⟨(RX0, TX0, 3), rfl, by decide, rfl, rfl, Or.inl rfl⟩, List.forall_mem_cons.mpr ⟨⟨(RX1, TX1, 3), rfl, by decide, rfl, rfl, Or.inl rfl⟩, List.forall_mem_cons.mpr ⟨⟨(RX3, TX3, 3), rfl, by decide, rfl, rfl, Or.inl rfl⟩, List.forall_mem_cons.mpr ⟨⟨(RX9, TX9, 3), rfl, by decide, rfl, rfl, Or.inl rfl⟩, List.forall_mem_cons.mpr ⟨⟨(RX10, TX10, 3), rfl, by decide, rfl, rfl, Or.inl rfl⟩, fun _ h => absurd h List.not_mem_nil⟩⟩⟩⟩⟩⟩
theorem lf_X6_9 : px_lkF "AllSworn$Row" 9 (10, 0, [(6, 0)], 0, "AllSworn$Row") := ⟨"items", "[I", Or.inl ⟨rfl, pw_214⟩, List.forall_mem_cons.mpr ⟨⟨(RX6, TX6, 3), rfl, by decide, rfl, rfl, Or.inl rfl⟩, fun _ h => absurd h List.not_mem_nil⟩⟩
theorem lf_X6_15 : px_lkF "AllSworn$Row" 15 (10, 1, [(6, 0)], 0, "AllSworn$Row") := ⟨"lane", "I", Or.inl ⟨rfl, pw_215⟩, List.forall_mem_cons.mpr ⟨⟨(RX6, TX6, 3), rfl, by decide, rfl, rfl, Or.inl rfl⟩, fun _ h => absurd h List.not_mem_nil⟩⟩
theorem lf_X6_19 : px_lkF "AllSworn$Row" 19 (10, 2, [(6, 0)], 0, "AllSworn$Row") := ⟨"size", "I", Or.inl ⟨rfl, pw_217⟩, List.forall_mem_cons.mpr ⟨⟨(RX6, TX6, 3), rfl, by decide, rfl, rfl, Or.inl rfl⟩, fun _ h => absurd h List.not_mem_nil⟩⟩
theorem lf_X7_9 : px_lkF "AllSworn$Thing" 9 (10, 0, [(0, 0), (1, 0), (3, 0), (8, 0), (9, 0)], 0, "AllSworn$Thing") := ⟨"number", "I", Or.inl ⟨rfl, pw_378⟩, List.forall_mem_cons.mpr ⟨⟨(RX0, TX0, 3), rfl, by decide, rfl, rfl, Or.inl rfl⟩, List.forall_mem_cons.mpr ⟨⟨(RX1, TX1, 3), rfl, by decide, rfl, rfl, Or.inl rfl⟩, List.forall_mem_cons.mpr ⟨⟨(RX3, TX3, 3), rfl, by decide, rfl, rfl, Or.inl rfl⟩, List.forall_mem_cons.mpr ⟨⟨(RX9, TX9, 3), rfl, by decide, rfl, rfl, Or.inl rfl⟩, List.forall_mem_cons.mpr ⟨⟨(RX10, TX10, 3), rfl, by decide, rfl, rfl, Or.inl rfl⟩, fun _ h => absurd h List.not_mem_nil⟩⟩⟩⟩⟩⟩
theorem lf_X7_15 : px_lkF "AllSworn$Thing" 15 (10, 1, [(0, 0), (1, 0), (3, 0), (8, 0), (9, 0)], 0, "AllSworn$Thing") := ⟨"far", "I", Or.inl ⟨rfl, pw_385⟩, List.forall_mem_cons.mpr ⟨⟨(RX0, TX0, 3), rfl, by decide, rfl, rfl, Or.inl rfl⟩, List.forall_mem_cons.mpr ⟨⟨(RX1, TX1, 3), rfl, by decide, rfl, rfl, Or.inl rfl⟩, List.forall_mem_cons.mpr ⟨⟨(RX3, TX3, 3), rfl, by decide, rfl, rfl, Or.inl rfl⟩, List.forall_mem_cons.mpr ⟨⟨(RX9, TX9, 3), rfl, by decide, rfl, rfl, Or.inl rfl⟩, List.forall_mem_cons.mpr ⟨⟨(RX10, TX10, 3), rfl, by decide, rfl, rfl, Or.inl rfl⟩, fun _ h => absurd h List.not_mem_nil⟩⟩⟩⟩⟩⟩
theorem lf_X7_18 : px_lkF "AllSworn$Thing" 18 (10, 2, [(0, 0), (1, 0), (3, 0), (8, 0), (9, 0)], 0, "AllSworn$Thing") := ⟨"price", "I", Or.inl ⟨rfl, pw_389⟩, List.forall_mem_cons.mpr ⟨⟨(RX0, TX0, 3), rfl, by decide, rfl, rfl, Or.inl rfl⟩, List.forall_mem_cons.mpr ⟨⟨(RX1, TX1, 3), rfl, by decide, rfl, rfl, Or.inl rfl⟩, List.forall_mem_cons.mpr ⟨⟨(RX3, TX3, 3), rfl, by decide, rfl, rfl, Or.inl rfl⟩, List.forall_mem_cons.mpr ⟨⟨(RX9, TX9, 3), rfl, by decide, rfl, rfl, Or.inl rfl⟩, List.forall_mem_cons.mpr ⟨⟨(RX10, TX10, 3), rfl, by decide, rfl, rfl, Or.inl rfl⟩, fun _ h => absurd h List.not_mem_nil⟩⟩⟩⟩⟩⟩
theorem lf_X8_11 : px_lkF "AllSworn$Trace" 11 (10, 0, [(7, 0)], 0, "AllSworn$Trace") := ⟨"numbers", "[I", Or.inl ⟨rfl, pw_202⟩, List.forall_mem_cons.mpr ⟨⟨(RX8, TX8, 2), rfl, by decide, rfl, rfl, Or.inl rfl⟩, fun _ h => absurd h List.not_mem_nil⟩⟩
theorem lf_X8_15 : px_lkF "AllSworn$Trace" 15 (10, 1, [(7, 0)], 0, "AllSworn$Trace") := ⟨"length", "I", Or.inl ⟨rfl, pw_203⟩, List.forall_mem_cons.mpr ⟨⟨(RX8, TX8, 2), rfl, by decide, rfl, rfl, Or.inl rfl⟩, fun _ h => absurd h List.not_mem_nil⟩⟩
theorem lf_X11_11 : px_lkF "AllSworn" 11 (10, 0, [(10, 0)], 0, "AllSworn") := ⟨"rows", "[LAllSworn$Row;", Or.inl ⟨rfl, pw_226⟩, List.forall_mem_cons.mpr ⟨⟨(RX11, TX11, 9), rfl, by decide, rfl, rfl, Or.inl rfl⟩, fun _ h => absurd h List.not_mem_nil⟩⟩
theorem lf_X11_18 : px_lkF "AllSworn" 18 (10, 1, [(10, 0)], 0, "AllSworn") := ⟨"reader", "LAllSworn$Reader;", Or.inl ⟨rfl, pw_227⟩, List.forall_mem_cons.mpr ⟨⟨(RX11, TX11, 9), rfl, by decide, rfl, rfl, Or.inl rfl⟩, fun _ h => absurd h List.not_mem_nil⟩⟩
theorem lf_X11_25 : px_lkF "AllSworn" 25 (10, 2, [(10, 0)], 0, "AllSworn") := ⟨"draft", "LAllSworn$Realm;", Or.inl ⟨rfl, pw_228⟩, List.forall_mem_cons.mpr ⟨⟨(RX11, TX11, 9), rfl, by decide, rfl, rfl, Or.inl rfl⟩, fun _ h => absurd h List.not_mem_nil⟩⟩
theorem lf_X11_29 : px_lkF "AllSworn" 29 (10, 3, [(10, 0)], 0, "AllSworn") := ⟨"present", "LAllSworn$Realm;", Or.inl ⟨rfl, pw_229⟩, List.forall_mem_cons.mpr ⟨⟨(RX11, TX11, 9), rfl, by decide, rfl, rfl, Or.inl rfl⟩, fun _ h => absurd h List.not_mem_nil⟩⟩
theorem lf_X11_32 : px_lkF "AllSworn" 32 (10, 4, [(10, 0)], 0, "AllSworn") := ⟨"images", "[LAllSworn$Realm;", Or.inl ⟨rfl, pw_230⟩, List.forall_mem_cons.mpr ⟨⟨(RX11, TX11, 9), rfl, by decide, rfl, rfl, Or.inl rfl⟩, fun _ h => absurd h List.not_mem_nil⟩⟩
theorem lf_X11_39 : px_lkF "AllSworn" 39 (10, 5, [(10, 0)], 0, "AllSworn") := ⟨"oracle", "LAllSworn$Oracle;", Or.inl ⟨rfl, pw_231⟩, List.forall_mem_cons.mpr ⟨⟨(RX11, TX11, 9), rfl, by decide, rfl, rfl, Or.inl rfl⟩, fun _ h => absurd h List.not_mem_nil⟩⟩
theorem lf_X11_46 : px_lkF "AllSworn" 46 (10, 6, [(10, 0)], 0, "AllSworn") := ⟨"left", "LAllSworn$Trace;", Or.inl ⟨rfl, pw_232⟩, List.forall_mem_cons.mpr ⟨⟨(RX11, TX11, 9), rfl, by decide, rfl, rfl, Or.inl rfl⟩, fun _ h => absurd h List.not_mem_nil⟩⟩
theorem lf_X11_50 : px_lkF "AllSworn" 50 (10, 7, [(10, 0)], 0, "AllSworn") := ⟨"latestFault", "I", Or.inl ⟨rfl, pw_233⟩, List.forall_mem_cons.mpr ⟨⟨(RX11, TX11, 9), rfl, by decide, rfl, rfl, Or.inl rfl⟩, fun _ h => absurd h List.not_mem_nil⟩⟩
theorem lf_X11_54 : px_lkF "AllSworn" 54 (10, 8, [(10, 0)], 0, "AllSworn") := ⟨"latestFinding", "I", Or.inl ⟨rfl, pw_234⟩, List.forall_mem_cons.mpr ⟨⟨(RX11, TX11, 9), rfl, by decide, rfl, rfl, Or.inl rfl⟩, fun _ h => absurd h List.not_mem_nil⟩⟩
theorem lf_X11_86 : px_lkF "AllSworn" 86 (11, 1, [(6, 0)], 0, "AllSworn$Row") := ⟨"lane", "I", Or.inr ⟨rfl, _, pw_216⟩, List.forall_mem_cons.mpr ⟨⟨(RX6, TX6, 3), rfl, by decide, rfl, rfl, Or.inl rfl⟩, fun _ h => absurd h List.not_mem_nil⟩⟩
theorem lf_X11_93 : px_lkF "AllSworn" 93 (11, 2, [(6, 0)], 0, "AllSworn$Row") := ⟨"size", "I", Or.inr ⟨rfl, _, pw_218⟩, List.forall_mem_cons.mpr ⟨⟨(RX6, TX6, 3), rfl, by decide, rfl, rfl, Or.inl rfl⟩, fun _ h => absurd h List.not_mem_nil⟩⟩
theorem lf_X11_103 : px_lkF "AllSworn" 103 (11, 1, [(4, 0)], 0, "AllSworn$Reader") := ⟨"length", "I", Or.inr ⟨rfl, _, pw_99⟩, List.forall_mem_cons.mpr ⟨⟨(RX4, TX4, 5), rfl, by decide, rfl, rfl, Or.inl rfl⟩, fun _ h => absurd h List.not_mem_nil⟩⟩
theorem lf_X11_111 : px_lkF "AllSworn" 111 (11, 3, [(4, 0)], 0, "AllSworn$Reader") := ⟨"wrong", "I", Or.inr ⟨rfl, _, pw_102⟩, List.forall_mem_cons.mpr ⟨⟨(RX4, TX4, 5), rfl, by decide, rfl, rfl, Or.inl rfl⟩, fun _ h => absurd h List.not_mem_nil⟩⟩
theorem lf_X11_115 : px_lkF "AllSworn" 115 (11, 4, [(4, 0)], 0, "AllSworn$Reader") := ⟨"wrongPlace", "I", Or.inr ⟨rfl, _, pw_104⟩, List.forall_mem_cons.mpr ⟨⟨(RX4, TX4, 5), rfl, by decide, rfl, rfl, Or.inl rfl⟩, fun _ h => absurd h List.not_mem_nil⟩⟩
theorem lf_X11_122 : px_lkF "AllSworn" 122 (11, 5, [(5, 0)], 0, "AllSworn$Realm") := ⟨"thingCount", "I", Or.inr ⟨rfl, _, pw_135⟩, List.forall_mem_cons.mpr ⟨⟨(RX5, TX5, 10), rfl, by decide, rfl, rfl, Or.inl rfl⟩, fun _ h => absurd h List.not_mem_nil⟩⟩
theorem lf_X11_129 : px_lkF "AllSworn" 129 (11, 8, [(5, 0)], 0, "AllSworn$Realm") := ⟨"day", "I", Or.inr ⟨rfl, _, pw_144⟩, List.forall_mem_cons.mpr ⟨⟨(RX5, TX5, 10), rfl, by decide, rfl, rfl, Or.inl rfl⟩, fun _ h => absurd h List.not_mem_nil⟩⟩
theorem lf_X11_159 : px_lkF "AllSworn" 159 (11, 7, [(5, 0)], 0, "AllSworn$Realm") := ⟨"actCount", "I", Or.inr ⟨rfl, _, pw_141⟩, List.forall_mem_cons.mpr ⟨⟨(RX5, TX5, 10), rfl, by decide, rfl, rfl, Or.inl rfl⟩, fun _ h => absurd h List.not_mem_nil⟩⟩
theorem lf_X11_162 : px_lkF "AllSworn" 162 (10, 1, [(0, 0), (1, 0), (3, 0), (8, 0), (9, 0)], 0, "AllSworn$Thing") := ⟨"far", "I", Or.inl ⟨rfl, pw_388⟩, List.forall_mem_cons.mpr ⟨⟨(RX0, TX0, 3), rfl, by decide, rfl, rfl, Or.inl rfl⟩, List.forall_mem_cons.mpr ⟨⟨(RX1, TX1, 3), rfl, by decide, rfl, rfl, Or.inl rfl⟩, List.forall_mem_cons.mpr ⟨⟨(RX3, TX3, 3), rfl, by decide, rfl, rfl, Or.inl rfl⟩, List.forall_mem_cons.mpr ⟨⟨(RX9, TX9, 3), rfl, by decide, rfl, rfl, Or.inl rfl⟩, List.forall_mem_cons.mpr ⟨⟨(RX10, TX10, 3), rfl, by decide, rfl, rfl, Or.inl rfl⟩, fun _ h => absurd h List.not_mem_nil⟩⟩⟩⟩⟩⟩
theorem lf_X11_165 : px_lkF "AllSworn" 165 (10, 2, [(0, 0), (1, 0), (3, 0), (8, 0), (9, 0)], 0, "AllSworn$Thing") := ⟨"price", "I", Or.inl ⟨rfl, pw_390⟩, List.forall_mem_cons.mpr ⟨⟨(RX0, TX0, 3), rfl, by decide, rfl, rfl, Or.inl rfl⟩, List.forall_mem_cons.mpr ⟨⟨(RX1, TX1, 3), rfl, by decide, rfl, rfl, Or.inl rfl⟩, List.forall_mem_cons.mpr ⟨⟨(RX3, TX3, 3), rfl, by decide, rfl, rfl, Or.inl rfl⟩, List.forall_mem_cons.mpr ⟨⟨(RX9, TX9, 3), rfl, by decide, rfl, rfl, Or.inl rfl⟩, List.forall_mem_cons.mpr ⟨⟨(RX10, TX10, 3), rfl, by decide, rfl, rfl, Or.inl rfl⟩, fun _ h => absurd h List.not_mem_nil⟩⟩⟩⟩⟩⟩
theorem lf_X11_174 : px_lkF "AllSworn" 174 (10, 0, [(0, 0), (1, 0), (3, 0), (8, 0), (9, 0)], 0, "AllSworn$Thing") := ⟨"number", "I", Or.inl ⟨rfl, pw_384⟩, List.forall_mem_cons.mpr ⟨⟨(RX0, TX0, 3), rfl, by decide, rfl, rfl, Or.inl rfl⟩, List.forall_mem_cons.mpr ⟨⟨(RX1, TX1, 3), rfl, by decide, rfl, rfl, Or.inl rfl⟩, List.forall_mem_cons.mpr ⟨⟨(RX3, TX3, 3), rfl, by decide, rfl, rfl, Or.inl rfl⟩, List.forall_mem_cons.mpr ⟨⟨(RX9, TX9, 3), rfl, by decide, rfl, rfl, Or.inl rfl⟩, List.forall_mem_cons.mpr ⟨⟨(RX10, TX10, 3), rfl, by decide, rfl, rfl, Or.inl rfl⟩, fun _ h => absurd h List.not_mem_nil⟩⟩⟩⟩⟩⟩
theorem lf_X11_205 : px_lkF "AllSworn" 205 (11, 3, [(2, 0)], 0, "AllSworn$Oracle") := ⟨"bestDays", "I", Or.inr ⟨rfl, _, pw_182⟩, List.forall_mem_cons.mpr ⟨⟨(RX2, TX2, 5), rfl, by decide, rfl, rfl, Or.inl rfl⟩, fun _ h => absurd h List.not_mem_nil⟩⟩
theorem lf_X11_208 : px_lkF "AllSworn" 208 (11, 4, [(2, 0)], 0, "AllSworn$Oracle") := ⟨"bestLength", "I", Or.inr ⟨rfl, _, pw_184⟩, List.forall_mem_cons.mpr ⟨⟨(RX2, TX2, 5), rfl, by decide, rfl, rfl, Or.inl rfl⟩, fun _ h => absurd h List.not_mem_nil⟩⟩
theorem lf_X11_282 : px_lkF "AllSworn" 282 (11, 6, [(5, 0)], 0, "AllSworn$Realm") := ⟨"harmCount", "I", Or.inr ⟨rfl, _, pw_139⟩, List.forall_mem_cons.mpr ⟨⟨(RX5, TX5, 10), rfl, by decide, rfl, rfl, Or.inl rfl⟩, fun _ h => absurd h List.not_mem_nil⟩⟩
theorem lf_X11_285 : px_lkF "AllSworn" 285 (11, 9, [(5, 0)], 0, "AllSworn$Realm") := ⟨"hits", "I", Or.inr ⟨rfl, _, pw_146⟩, List.forall_mem_cons.mpr ⟨⟨(RX5, TX5, 10), rfl, by decide, rfl, rfl, Or.inl rfl⟩, fun _ h => absurd h List.not_mem_nil⟩⟩
theorem lf_X11_288 : px_lkF "AllSworn" 288 (11, 4, [(5, 0)], 0, "AllSworn$Realm") := ⟨"term", "I", Or.inr ⟨rfl, _, pw_131⟩, List.forall_mem_cons.mpr ⟨⟨(RX5, TX5, 10), rfl, by decide, rfl, rfl, Or.inl rfl⟩, fun _ h => absurd h List.not_mem_nil⟩⟩
theorem lf_X12_7 : px_lkF "AllSwornModel" 7 (10, 0, [(11, 0)], 0, "AllSwornModel") := ⟨"lanes", "[I", Or.inl ⟨rfl, pw_891⟩, List.forall_mem_cons.mpr ⟨⟨(RX12, TX12, 23), rfl, by decide, rfl, rfl, Or.inl rfl⟩, fun _ h => absurd h List.not_mem_nil⟩⟩
theorem lf_X12_13 : px_lkF "AllSwornModel" 13 (10, 1, [(11, 0)], 0, "AllSwornModel") := ⟨"sizes", "[I", Or.inl ⟨rfl, pw_892⟩, List.forall_mem_cons.mpr ⟨⟨(RX12, TX12, 23), rfl, by decide, rfl, rfl, Or.inl rfl⟩, fun _ h => absurd h List.not_mem_nil⟩⟩
theorem lf_X12_16 : px_lkF "AllSwornModel" 16 (10, 2, [(11, 0)], 0, "AllSwornModel") := ⟨"items", "[I", Or.inl ⟨rfl, pw_893⟩, List.forall_mem_cons.mpr ⟨⟨(RX12, TX12, 23), rfl, by decide, rfl, rfl, Or.inl rfl⟩, fun _ h => absurd h List.not_mem_nil⟩⟩
theorem lf_X12_19 : px_lkF "AllSwornModel" 19 (10, 4, [(11, 0)], 0, "AllSwornModel") := ⟨"now", "[I", Or.inl ⟨rfl, pw_895⟩, List.forall_mem_cons.mpr ⟨⟨(RX12, TX12, 23), rfl, by decide, rfl, rfl, Or.inl rfl⟩, fun _ h => absurd h List.not_mem_nil⟩⟩
theorem lf_X12_22 : px_lkF "AllSwornModel" 22 (10, 6, [(11, 0)], 0, "AllSwornModel") := ⟨"isKept", "[Z", Or.inl ⟨rfl, pw_897⟩, List.forall_mem_cons.mpr ⟨⟨(RX12, TX12, 23), rfl, by decide, rfl, rfl, Or.inl rfl⟩, fun _ h => absurd h List.not_mem_nil⟩⟩
theorem lf_X12_26 : px_lkF "AllSwornModel" 26 (10, 7, [(11, 0)], 0, "AllSwornModel") := ⟨"acts", "[I", Or.inl ⟨rfl, pw_898⟩, List.forall_mem_cons.mpr ⟨⟨(RX12, TX12, 23), rfl, by decide, rfl, rfl, Or.inl rfl⟩, fun _ h => absurd h List.not_mem_nil⟩⟩
theorem lf_X12_29 : px_lkF "AllSwornModel" 29 (10, 9, [(11, 0)], 0, "AllSwornModel") := ⟨"tape", "[B", Or.inl ⟨rfl, pw_900⟩, List.forall_mem_cons.mpr ⟨⟨(RX12, TX12, 23), rfl, by decide, rfl, rfl, Or.inl rfl⟩, fun _ h => absurd h List.not_mem_nil⟩⟩
theorem lf_X12_33 : px_lkF "AllSwornModel" 33 (10, 18, [(11, 0)], 0, "AllSwornModel") := ⟨"oaths", "[I", Or.inl ⟨rfl, pw_909⟩, List.forall_mem_cons.mpr ⟨⟨(RX12, TX12, 23), rfl, by decide, rfl, rfl, Or.inl rfl⟩, fun _ h => absurd h List.not_mem_nil⟩⟩
theorem lf_X12_36 : px_lkF "AllSwornModel" 36 (10, 19, [(11, 0)], 0, "AllSwornModel") := ⟨"row4", "[I", Or.inl ⟨rfl, pw_910⟩, List.forall_mem_cons.mpr ⟨⟨(RX12, TX12, 23), rfl, by decide, rfl, rfl, Or.inl rfl⟩, fun _ h => absurd h List.not_mem_nil⟩⟩
theorem lf_X12_39 : px_lkF "AllSwornModel" 39 (10, 21, [(11, 0)], 0, "AllSwornModel") := ⟨"traced", "[I", Or.inl ⟨rfl, pw_912⟩, List.forall_mem_cons.mpr ⟨⟨(RX12, TX12, 23), rfl, by decide, rfl, rfl, Or.inl rfl⟩, fun _ h => absurd h List.not_mem_nil⟩⟩
theorem lf_X12_42 : px_lkF "AllSwornModel" 42 (10, 10, [(11, 0)], 0, "AllSwornModel") := ⟨"typed", "I", Or.inl ⟨rfl, pw_901⟩, List.forall_mem_cons.mpr ⟨⟨(RX12, TX12, 23), rfl, by decide, rfl, rfl, Or.inl rfl⟩, fun _ h => absurd h List.not_mem_nil⟩⟩
theorem lf_X12_46 : px_lkF "AllSwornModel" 46 (10, 3, [(11, 0)], 0, "AllSwornModel") := ⟨"state", "I", Or.inl ⟨rfl, pw_894⟩, List.forall_mem_cons.mpr ⟨⟨(RX12, TX12, 23), rfl, by decide, rfl, rfl, Or.inl rfl⟩, fun _ h => absurd h List.not_mem_nil⟩⟩
theorem lf_X12_66 : px_lkF "AllSwornModel" 66 (10, 5, [(11, 0)], 0, "AllSwornModel") := ⟨"base", "I", Or.inl ⟨rfl, pw_896⟩, List.forall_mem_cons.mpr ⟨⟨(RX12, TX12, 23), rfl, by decide, rfl, rfl, Or.inl rfl⟩, fun _ h => absurd h List.not_mem_nil⟩⟩
theorem lf_X12_73 : px_lkF "AllSwornModel" 73 (10, 11, [(11, 0)], 0, "AllSwornModel") := ⟨"at", "I", Or.inl ⟨rfl, pw_902⟩, List.forall_mem_cons.mpr ⟨⟨(RX12, TX12, 23), rfl, by decide, rfl, rfl, Or.inl rfl⟩, fun _ h => absurd h List.not_mem_nil⟩⟩
theorem lf_X12_76 : px_lkF "AllSwornModel" 76 (10, 12, [(11, 0)], 0, "AllSwornModel") := ⟨"start", "I", Or.inl ⟨rfl, pw_903⟩, List.forall_mem_cons.mpr ⟨⟨(RX12, TX12, 23), rfl, by decide, rfl, rfl, Or.inl rfl⟩, fun _ h => absurd h List.not_mem_nil⟩⟩
theorem lf_X12_79 : px_lkF "AllSwornModel" 79 (10, 14, [(11, 0)], 0, "AllSwornModel") := ⟨"value", "I", Or.inl ⟨rfl, pw_905⟩, List.forall_mem_cons.mpr ⟨⟨(RX12, TX12, 23), rfl, by decide, rfl, rfl, Or.inl rfl⟩, fun _ h => absurd h List.not_mem_nil⟩⟩
theorem lf_X12_86 : px_lkF "AllSwornModel" 86 (10, 13, [(11, 0)], 0, "AllSwornModel") := ⟨"sort", "I", Or.inl ⟨rfl, pw_904⟩, List.forall_mem_cons.mpr ⟨⟨(RX12, TX12, 23), rfl, by decide, rfl, rfl, Or.inl rfl⟩, fun _ h => absurd h List.not_mem_nil⟩⟩
theorem lf_X12_89 : px_lkF "AllSwornModel" 89 (10, 15, [(11, 0)], 0, "AllSwornModel") := ⟨"fault", "I", Or.inl ⟨rfl, pw_906⟩, List.forall_mem_cons.mpr ⟨⟨(RX12, TX12, 23), rfl, by decide, rfl, rfl, Or.inl rfl⟩, fun _ h => absurd h List.not_mem_nil⟩⟩
theorem lf_X12_92 : px_lkF "AllSwornModel" 92 (10, 16, [(11, 0)], 0, "AllSwornModel") := ⟨"faultAt", "I", Or.inl ⟨rfl, pw_907⟩, List.forall_mem_cons.mpr ⟨⟨(RX12, TX12, 23), rfl, by decide, rfl, rfl, Or.inl rfl⟩, fun _ h => absurd h List.not_mem_nil⟩⟩
theorem lf_X12_126 : px_lkF "AllSwornModel" 126 (10, 17, [(11, 0)], 0, "AllSwornModel") := ⟨"lastFault", "I", Or.inl ⟨rfl, pw_908⟩, List.forall_mem_cons.mpr ⟨⟨(RX12, TX12, 23), rfl, by decide, rfl, rfl, Or.inl rfl⟩, fun _ h => absurd h List.not_mem_nil⟩⟩
theorem lf_X12_133 : px_lkF "AllSwornModel" 133 (10, 8, [(11, 0)], 0, "AllSwornModel") := ⟨"actMany", "I", Or.inl ⟨rfl, pw_899⟩, List.forall_mem_cons.mpr ⟨⟨(RX12, TX12, 23), rfl, by decide, rfl, rfl, Or.inl rfl⟩, fun _ h => absurd h List.not_mem_nil⟩⟩
theorem lf_X12_188 : px_lkF "AllSwornModel" 188 (10, 20, [(11, 0)], 0, "AllSwornModel") := ⟨"rowDays", "I", Or.inl ⟨rfl, pw_911⟩, List.forall_mem_cons.mpr ⟨⟨(RX12, TX12, 23), rfl, by decide, rfl, rfl, Or.inl rfl⟩, fun _ h => absurd h List.not_mem_nil⟩⟩
theorem lf_X12_206 : px_lkF "AllSwornModel" 206 (10, 22, [(11, 0)], 0, "AllSwornModel") := ⟨"tracedMany", "I", Or.inl ⟨rfl, pw_913⟩, List.forall_mem_cons.mpr ⟨⟨(RX12, TX12, 23), rfl, by decide, rfl, rfl, Or.inl rfl⟩, fun _ h => absurd h List.not_mem_nil⟩⟩
theorem lm_X0_3 : px_lkI "AllSworn$Foreign" 3 3 m_X7_init ∨ px_lkN "AllSworn$Foreign" 3 3 m_X7_init := Or.inl ⟨pw_414, pw_375, pw_73, rfl, rfl, pl_X7_init⟩
theorem lm_X0_9 : px_lkX "AllSworn$Foreign" 9 1 m_X7_isOf := ⟨pw_783, pw_779, pw_418, pw_778, pw_73, by decide +kernel, pl_X7_isOf⟩
theorem lm_X0_25 : px_lkV "AllSworn$Foreign" 25 1 7 m_X8_leave := ⟨(RX8, TX8, 2), rfl, pw_815, pw_816, pw_817, pw_68, pl_X8_leave⟩
theorem lm_X0_31 : px_lkX "AllSworn$Foreign" 31 2 m_X7_size := ⟨pw_819, pw_811, pw_418, pw_810, pw_73, by decide +kernel, pl_X7_size⟩
theorem lm_X0_35 : px_lkX "AllSworn$Foreign" 35 2 m_X7_mark := ⟨pw_862, pw_1295, pw_418, pw_844, pw_73, by decide +kernel, pl_X7_mark⟩
theorem lm_X0_38_0 : px_lkU "AllSworn$Foreign" 38 2 0 m_X0_size "AllSworn$Foreign" := ⟨(RX0, TX0, 3), ⟨"AllSworn$Foreign", "size", "(LAllSworn$Trace;LAllSworn$Realm;)I"⟩, rfl, pw_863, pw_1296, pw_1298, pw_813, pw_77, ⟨by decide +kernel, by decide +kernel⟩, Or.inr ⟨pw_813, _, _, _, pw_814⟩, pl_X0_size⟩
theorem lm_X0_38_8 : px_lkU "AllSworn$Foreign" 38 2 8 m_X9_size "AllSworn$Foreign" := ⟨(RX9, TX9, 3), ⟨"AllSworn$Foreign", "size", "(LAllSworn$Trace;LAllSworn$Realm;)I"⟩, rfl, pw_863, pw_1296, pw_1299, pw_853, pw_78, ⟨by decide +kernel, by decide +kernel⟩, Or.inr ⟨pw_813, _, _, _, pw_814⟩, pl_X0_size⟩
theorem lm_X1_3 : px_lkI "AllSworn$Mixed" 3 3 m_X3_init ∨ px_lkN "AllSworn$Mixed" 3 3 m_X3_init := Or.inl ⟨pw_371, pw_372, pw_74, rfl, rfl, pl_X3_init⟩
theorem lm_X1_9 : px_lkX "AllSworn$Mixed" 9 1 m_X3_isOf := ⟨pw_787, pw_1292, pw_398, pw_788, pw_74, by decide +kernel, pl_X3_isOf⟩
theorem lm_X1_19 : px_lkV "AllSworn$Mixed" 19 1 7 m_X8_leave := ⟨(RX8, TX8, 2), rfl, pw_823, pw_816, pw_817, pw_68, pl_X8_leave⟩
theorem lm_X1_25 : px_lkX "AllSworn$Mixed" 25 2 m_X3_size := ⟨pw_824, pw_1294, pw_398, pw_825, pw_74, by decide +kernel, pl_X3_size⟩
theorem lm_X1_29 : px_lkX "AllSworn$Mixed" 29 2 m_X3_mark := ⟨pw_836, pw_832, pw_398, pw_830, pw_74, by decide +kernel, pl_X3_mark⟩
theorem lm_X2_11 : px_lkI "AllSworn$Oracle" 11 0 m_X5_init ∨ px_lkN "AllSworn$Oracle" 11 0 m_X5_init := Or.inr ⟨⟨_, pw_176⟩, pw_120, pw_66, rfl, rfl, pl_X5_init⟩
theorem lm_X2_36 : px_lkV "AllSworn$Oracle" 36 1 5 m_X5_openOn := ⟨(RX5, TX5, 10), rfl, pw_607, pw_523, pw_524, pw_66, pl_X5_openOn⟩
theorem lm_X2_40 : px_lkS "AllSworn$Oracle" 40 2 m_X2_willingOn := ⟨pw_619, pw_620, pw_67, pl_X2_willingOn⟩
theorem lm_X2_47 : px_lkS "AllSworn$Oracle" 47 1 m_J6_bitCount_0f7a4 := ⟨pw_624, pw_625, pw_80, pl_J6_bitCount_0f7a4⟩
theorem lm_X2_55 : px_lkV "AllSworn$Oracle" 55 3 5 m_X5_boundIf := ⟨(RX5, TX5, 10), rfl, pw_630, pw_527, pw_528, pw_66, pl_X5_boundIf⟩
theorem lm_X2_59 : px_lkV "AllSworn$Oracle" 59 1 5 m_X5_openTo := ⟨(RX5, TX5, 10), rfl, pw_631, pw_544, pw_545, pw_66, pl_X5_openTo⟩
theorem lm_X2_62 : px_lkV "AllSworn$Oracle" 62 1 5 m_X5_thingAt := ⟨(RX5, TX5, 10), rfl, pw_622, pw_464, pw_465, pw_66, pl_X5_thingAt⟩
theorem lm_X2_66_0 : px_lkU "AllSworn$Oracle" 66 1 0 m_X7_swearsOn "AllSworn$Thing" := ⟨(RX0, TX0, 3), ⟨"AllSworn$Thing", "swearsOn", "(I)Z"⟩, rfl, pw_623, pw_497, pw_498, pw_496, pw_73, ⟨by decide +kernel, by decide +kernel⟩, Or.inr ⟨pw_496, _, _, _, pw_505⟩, pl_X7_swearsOn⟩
theorem lm_X2_66_1 : px_lkU "AllSworn$Oracle" 66 1 1 m_X7_swearsOn "AllSworn$Thing" := ⟨(RX1, TX1, 3), ⟨"AllSworn$Thing", "swearsOn", "(I)Z"⟩, rfl, pw_623, pw_497, pw_499, pw_496, pw_73, ⟨by decide +kernel, by decide +kernel⟩, Or.inr ⟨pw_496, _, _, _, pw_505⟩, pl_X7_swearsOn⟩
theorem lm_X2_66_3 : px_lkU "AllSworn$Oracle" 66 1 3 m_X7_swearsOn "AllSworn$Thing" := ⟨(RX3, TX3, 3), ⟨"AllSworn$Thing", "swearsOn", "(I)Z"⟩, rfl, pw_623, pw_497, pw_500, pw_496, pw_73, ⟨by decide +kernel, by decide +kernel⟩, Or.inr ⟨pw_496, _, _, _, pw_505⟩, pl_X7_swearsOn⟩
theorem lm_X2_66_8 : px_lkU "AllSworn$Oracle" 66 1 8 m_X7_swearsOn "AllSworn$Thing" := ⟨(RX9, TX9, 3), ⟨"AllSworn$Thing", "swearsOn", "(I)Z"⟩, rfl, pw_623, pw_497, pw_501, pw_496, pw_73, ⟨by decide +kernel, by decide +kernel⟩, Or.inr ⟨pw_496, _, _, _, pw_505⟩, pl_X7_swearsOn⟩
theorem lm_X2_66_9 : px_lkU "AllSworn$Oracle" 66 1 9 m_X10_swearsOn "AllSworn$Thing" := ⟨(RX10, TX10, 3), ⟨"AllSworn$Thing", "swearsOn", "(I)Z"⟩, rfl, pw_623, pw_497, pw_502, pw_503, pw_76, ⟨by decide +kernel, by decide +kernel⟩, Or.inr ⟨pw_496, _, _, _, pw_505⟩, pl_X7_swearsOn⟩
theorem lm_X2_72 : px_lkV "AllSworn$Oracle" 72 1 5 m_X5_becomeLike := ⟨(RX5, TX5, 10), rfl, pw_645, pw_451, pw_452, pw_66, pl_X5_becomeLike⟩
theorem lm_X2_76 : px_lkV "AllSworn$Oracle" 76 3 2 m_X2_goOn := ⟨(RX2, TX2, 5), rfl, pw_646, pw_648, pw_13, pw_67, pl_X2_goOn⟩
theorem lm_X2_80 : px_lkV "AllSworn$Oracle" 80 2 2 m_X2_keepWay := ⟨(RX2, TX2, 5), rfl, pw_650, pw_652, pw_14, pw_67, pl_X2_keepWay⟩
theorem lm_X2_84 : px_lkV "AllSworn$Oracle" 84 1 5 m_X5_sendTo := ⟨(RX5, TX5, 10), rfl, pw_655, pw_483, pw_484, pw_66, pl_X5_sendTo⟩
theorem lm_X2_88 : px_lkV "AllSworn$Oracle" 88 0 5 m_X5_undoLatest := ⟨(RX5, TX5, 10), rfl, pw_656, pw_565, pw_566, pw_66, pl_X5_undoLatest⟩
theorem lm_X2_98 : px_lkV "AllSworn$Oracle" 98 3 2 m_X2_priceBehind := ⟨(RX2, TX2, 5), rfl, pw_684, pw_685, pw_686, pw_67, pl_X2_priceBehind⟩
theorem lm_X2_108 : px_lkV "AllSworn$Oracle" 108 1 5 m_X5_cheapestPriceOn := ⟨(RX5, TX5, 10), rfl, pw_689, pw_671, pw_672, pw_66, pl_X5_cheapestPriceOn⟩
theorem lm_X2_111 : px_lkV "AllSworn$Oracle" 111 1 5 m_X5_toldAs := ⟨(RX5, TX5, 10), rfl, pw_699, pw_700, pw_701, pw_66, pl_X5_toldAs⟩
theorem lm_X2_117 : px_lkV "AllSworn$Oracle" 117 1 6 m_X6_tellsHit := ⟨(RX6, TX6, 3), rfl, pw_744, pw_745, pw_746, pw_69, pl_X6_tellsHit⟩
theorem lm_X3_3 : px_lkI "AllSworn$Plain" 3 3 m_X7_init ∨ px_lkN "AllSworn$Plain" 3 3 m_X7_init := Or.inl ⟨pw_374, pw_375, pw_73, rfl, rfl, pl_X7_init⟩
theorem lm_X3_9 : px_lkX "AllSworn$Plain" 9 1 m_X7_isOf := ⟨pw_790, pw_779, pw_435, pw_778, pw_73, by decide +kernel, pl_X7_isOf⟩
theorem lm_X3_13 : px_lkV "AllSworn$Plain" 13 1 7 m_X8_leave := ⟨(RX8, TX8, 2), rfl, pw_827, pw_816, pw_817, pw_68, pl_X8_leave⟩
theorem lm_X3_19 : px_lkX "AllSworn$Plain" 19 2 m_X7_size := ⟨pw_828, pw_811, pw_435, pw_810, pw_73, by decide +kernel, pl_X7_size⟩
theorem lm_X3_23_1 : px_lkU "AllSworn$Plain" 23 2 1 m_X1_mark "AllSworn$Plain" := ⟨(RX1, TX1, 3), ⟨"AllSworn$Plain", "mark", "(LAllSworn$Trace;LAllSworn$Realm;)I"⟩, rfl, pw_829, pw_832, pw_833, pw_834, pw_75, ⟨by decide +kernel, by decide +kernel⟩, Or.inr ⟨pw_830, _, _, _, pw_842⟩, pl_X3_mark⟩
theorem lm_X3_23_3 : px_lkU "AllSworn$Plain" 23 2 3 m_X3_mark "AllSworn$Plain" := ⟨(RX3, TX3, 3), ⟨"AllSworn$Plain", "mark", "(LAllSworn$Trace;LAllSworn$Realm;)I"⟩, rfl, pw_829, pw_832, pw_831, pw_830, pw_74, ⟨by decide +kernel, by decide +kernel⟩, Or.inr ⟨pw_830, _, _, _, pw_842⟩, pl_X3_mark⟩
theorem lm_X3_23_9 : px_lkU "AllSworn$Plain" 23 2 9 m_X10_mark "AllSworn$Plain" := ⟨(RX10, TX10, 3), ⟨"AllSworn$Plain", "mark", "(LAllSworn$Trace;LAllSworn$Realm;)I"⟩, rfl, pw_829, pw_832, pw_837, pw_838, pw_76, ⟨by decide +kernel, by decide +kernel⟩, Or.inr ⟨pw_830, _, _, _, pw_842⟩, pl_X3_mark⟩
theorem lm_X3_28 : px_lkX "AllSworn$Plain" 28 2 m_X7_mark := ⟨pw_843, pw_1295, pw_435, pw_844, pw_73, by decide +kernel, pl_X7_mark⟩
theorem lm_X3_33 : px_lkV "AllSworn$Plain" 33 1 5 m_X5_harmsWith := ⟨(RX5, TX5, 10), rfl, pw_847, pw_848, pw_849, pw_66, pl_X5_harmsWith⟩
theorem lm_X4_28 : px_lkV "AllSworn$Reader" 28 1 4 m_X4_expect := ⟨(RX4, TX4, 5), rfl, pw_336, pw_338, pw_4, pw_65, pl_X4_expect⟩
theorem lm_X4_32 : px_lkV "AllSworn$Reader" 32 2 4 m_X4_readNumber := ⟨(RX4, TX4, 5), rfl, pw_348, pw_350, pw_7, pw_65, pl_X4_readNumber⟩
theorem lm_X4_36 : px_lkV "AllSworn$Reader" 36 1 5 m_X5_beginAnew := ⟨(RX5, TX5, 10), rfl, pw_352, pw_353, pw_354, pw_66, pl_X5_beginAnew⟩
theorem lm_X4_42 : px_lkV "AllSworn$Reader" 42 0 4 m_X4_next := ⟨(RX4, TX4, 5), rfl, pw_340, pw_342, pw_5, pw_65, pl_X4_next⟩
theorem lm_X4_46 : px_lkS "AllSworn$Reader" 46 1 m_X4_kindOf := ⟨pw_356, pw_357, pw_65, pl_X4_kindOf⟩
theorem lm_X4_53 : px_lkV "AllSworn$Reader" 53 2 4 m_X4_readThing := ⟨(RX4, TX4, 5), rfl, pw_359, pw_361, pw_8, pw_65, pl_X4_readThing⟩
theorem lm_X4_57 : px_lkV "AllSworn$Reader" 57 1 4 m_X4_readHarm := ⟨(RX4, TX4, 5), rfl, pw_441, pw_443, pw_9, pw_65, pl_X4_readHarm⟩
theorem lm_X4_61 : px_lkV "AllSworn$Reader" 61 2 4 m_X4_note := ⟨(RX4, TX4, 5), rfl, pw_344, pw_346, pw_6, pw_65, pl_X4_note⟩
theorem lm_X4_68 : px_lkS "AllSworn$Reader" 68 4 m_X4_made := ⟨pw_363, pw_364, pw_65, pl_X4_made⟩
theorem lm_X4_72 : px_lkV "AllSworn$Reader" 72 1 5 m_X5_addThing := ⟨(RX5, TX5, 10), rfl, pw_436, pw_437, pw_438, pw_66, pl_X5_addThing⟩
theorem lm_X4_76 : px_lkV "AllSworn$Reader" 76 1 5 m_X5_addHarm := ⟨(RX5, TX5, 10), rfl, pw_445, pw_446, pw_447, pw_66, pl_X5_addHarm⟩
theorem lm_X4_81 : px_lkI "AllSworn$Reader" 81 3 m_X1_init ∨ px_lkN "AllSworn$Reader" 81 3 m_X1_init := Or.inl ⟨pw_368, pw_369, pw_75, rfl, rfl, pl_X1_init⟩
theorem lm_X4_86 : px_lkI "AllSworn$Reader" 86 3 m_X10_init ∨ px_lkN "AllSworn$Reader" 86 3 m_X10_init := Or.inl ⟨pw_401, pw_402, pw_76, rfl, rfl, pl_X10_init⟩
theorem lm_X4_89 : px_lkI "AllSworn$Reader" 89 3 m_X0_init ∨ px_lkN "AllSworn$Reader" 89 3 m_X0_init := Or.inl ⟨pw_411, pw_412, pw_77, rfl, rfl, pl_X0_init⟩
theorem lm_X4_92 : px_lkI "AllSworn$Reader" 92 3 m_X9_init ∨ px_lkN "AllSworn$Reader" 92 3 m_X9_init := Or.inl ⟨pw_421, pw_422, pw_78, rfl, rfl, pl_X9_init⟩
theorem lm_X4_95 : px_lkI "AllSworn$Reader" 95 3 m_X3_init ∨ px_lkN "AllSworn$Reader" 95 3 m_X3_init := Or.inl ⟨pw_431, pw_372, pw_74, rfl, rfl, pl_X3_init⟩
theorem lm_X5_53 : px_lkV "AllSworn$Realm" 53 1 5 m_X5_hasHarm := ⟨(RX5, TX5, 10), rfl, pw_585, pw_515, pw_516, pw_66, pl_X5_hasHarm⟩
theorem lm_X5_60 : px_lkV "AllSworn$Realm" 60 1 5 m_X5_keepAct := ⟨(RX5, TX5, 10), rfl, pw_486, pw_488, pw_10, pw_66, pl_X5_keepAct⟩
theorem lm_X5_64_0 : px_lkU "AllSworn$Realm" 64 0 0 m_X0_daysToAsk "AllSworn$Thing" := ⟨(RX0, TX0, 3), ⟨"AllSworn$Thing", "daysToAsk", "()I"⟩, rfl, pw_494, pw_469, pw_470, pw_471, pw_77, ⟨by decide +kernel, by decide +kernel⟩, Or.inr ⟨pw_468, _, _, _, pw_480⟩, pl_X7_daysToAsk⟩
theorem lm_X5_64_1 : px_lkU "AllSworn$Realm" 64 0 1 m_X7_daysToAsk "AllSworn$Thing" := ⟨(RX1, TX1, 3), ⟨"AllSworn$Thing", "daysToAsk", "()I"⟩, rfl, pw_494, pw_469, pw_476, pw_468, pw_73, ⟨by decide +kernel, by decide +kernel⟩, Or.inr ⟨pw_468, _, _, _, pw_480⟩, pl_X7_daysToAsk⟩
theorem lm_X5_64_3 : px_lkU "AllSworn$Realm" 64 0 3 m_X7_daysToAsk "AllSworn$Thing" := ⟨(RX3, TX3, 3), ⟨"AllSworn$Thing", "daysToAsk", "()I"⟩, rfl, pw_494, pw_469, pw_477, pw_468, pw_73, ⟨by decide +kernel, by decide +kernel⟩, Or.inr ⟨pw_468, _, _, _, pw_480⟩, pl_X7_daysToAsk⟩
theorem lm_X5_64_8 : px_lkU "AllSworn$Realm" 64 0 8 m_X0_daysToAsk "AllSworn$Thing" := ⟨(RX9, TX9, 3), ⟨"AllSworn$Thing", "daysToAsk", "()I"⟩, rfl, pw_494, pw_469, pw_478, pw_471, pw_77, ⟨by decide +kernel, by decide +kernel⟩, Or.inr ⟨pw_468, _, _, _, pw_480⟩, pl_X7_daysToAsk⟩
theorem lm_X5_64_9 : px_lkU "AllSworn$Realm" 64 0 9 m_X7_daysToAsk "AllSworn$Thing" := ⟨(RX10, TX10, 3), ⟨"AllSworn$Thing", "daysToAsk", "()I"⟩, rfl, pw_494, pw_469, pw_479, pw_468, pw_73, ⟨by decide +kernel, by decide +kernel⟩, Or.inr ⟨pw_468, _, _, _, pw_480⟩, pl_X7_daysToAsk⟩
theorem lm_X5_68_0 : px_lkU "AllSworn$Realm" 68 1 0 m_X7_swearsOn "AllSworn$Thing" := ⟨(RX0, TX0, 3), ⟨"AllSworn$Thing", "swearsOn", "(I)Z"⟩, rfl, pw_495, pw_497, pw_498, pw_496, pw_73, ⟨by decide +kernel, by decide +kernel⟩, Or.inr ⟨pw_496, _, _, _, pw_505⟩, pl_X7_swearsOn⟩
theorem lm_X5_68_1 : px_lkU "AllSworn$Realm" 68 1 1 m_X7_swearsOn "AllSworn$Thing" := ⟨(RX1, TX1, 3), ⟨"AllSworn$Thing", "swearsOn", "(I)Z"⟩, rfl, pw_495, pw_497, pw_499, pw_496, pw_73, ⟨by decide +kernel, by decide +kernel⟩, Or.inr ⟨pw_496, _, _, _, pw_505⟩, pl_X7_swearsOn⟩
theorem lm_X5_68_3 : px_lkU "AllSworn$Realm" 68 1 3 m_X7_swearsOn "AllSworn$Thing" := ⟨(RX3, TX3, 3), ⟨"AllSworn$Thing", "swearsOn", "(I)Z"⟩, rfl, pw_495, pw_497, pw_500, pw_496, pw_73, ⟨by decide +kernel, by decide +kernel⟩, Or.inr ⟨pw_496, _, _, _, pw_505⟩, pl_X7_swearsOn⟩
theorem lm_X5_68_8 : px_lkU "AllSworn$Realm" 68 1 8 m_X7_swearsOn "AllSworn$Thing" := ⟨(RX9, TX9, 3), ⟨"AllSworn$Thing", "swearsOn", "(I)Z"⟩, rfl, pw_495, pw_497, pw_501, pw_496, pw_73, ⟨by decide +kernel, by decide +kernel⟩, Or.inr ⟨pw_496, _, _, _, pw_505⟩, pl_X7_swearsOn⟩
theorem lm_X5_68_9 : px_lkU "AllSworn$Realm" 68 1 9 m_X10_swearsOn "AllSworn$Thing" := ⟨(RX10, TX10, 3), ⟨"AllSworn$Thing", "swearsOn", "(I)Z"⟩, rfl, pw_495, pw_497, pw_502, pw_503, pw_76, ⟨by decide +kernel, by decide +kernel⟩, Or.inr ⟨pw_496, _, _, _, pw_505⟩, pl_X7_swearsOn⟩
theorem lm_X5_71 : px_lkV "AllSworn$Realm" 71 2 5 m_X5_swear := ⟨(RX5, TX5, 10), rfl, pw_506, pw_508, pw_11, pw_66, pl_X5_swear⟩
theorem lm_X5_75 : px_lkV "AllSworn$Realm" 75 1 5 m_X5_openOn := ⟨(RX5, TX5, 10), rfl, pw_522, pw_523, pw_524, pw_66, pl_X5_openOn⟩
theorem lm_X5_79 : px_lkV "AllSworn$Realm" 79 1 5 m_X5_oathOf := ⟨(RX5, TX5, 10), rfl, pw_490, pw_491, pw_492, pw_66, pl_X5_oathOf⟩
theorem lm_X5_82 : px_lkV "AllSworn$Realm" 82 3 5 m_X5_boundIf := ⟨(RX5, TX5, 10), rfl, pw_526, pw_527, pw_528, pw_66, pl_X5_boundIf⟩
theorem lm_X5_86_0 : px_lkU "AllSworn$Realm" 86 1 0 m_X7_isHeldBy "AllSworn$Thing" := ⟨(RX0, TX0, 3), ⟨"AllSworn$Thing", "isHeldBy", "(I)Z"⟩, rfl, pw_530, pw_532, pw_533, pw_531, pw_73, ⟨by decide +kernel, by decide +kernel⟩, Or.inr ⟨pw_531, _, _, _, pw_542⟩, pl_X7_isHeldBy⟩
theorem lm_X5_86_1 : px_lkU "AllSworn$Realm" 86 1 1 m_X1_isHeldBy "AllSworn$Thing" := ⟨(RX1, TX1, 3), ⟨"AllSworn$Thing", "isHeldBy", "(I)Z"⟩, rfl, pw_530, pw_532, pw_534, pw_535, pw_75, ⟨by decide +kernel, by decide +kernel⟩, Or.inr ⟨pw_531, _, _, _, pw_542⟩, pl_X7_isHeldBy⟩
theorem lm_X5_86_3 : px_lkU "AllSworn$Realm" 86 1 3 m_X7_isHeldBy "AllSworn$Thing" := ⟨(RX3, TX3, 3), ⟨"AllSworn$Thing", "isHeldBy", "(I)Z"⟩, rfl, pw_530, pw_532, pw_537, pw_531, pw_73, ⟨by decide +kernel, by decide +kernel⟩, Or.inr ⟨pw_531, _, _, _, pw_542⟩, pl_X7_isHeldBy⟩
theorem lm_X5_86_8 : px_lkU "AllSworn$Realm" 86 1 8 m_X9_isHeldBy "AllSworn$Thing" := ⟨(RX9, TX9, 3), ⟨"AllSworn$Thing", "isHeldBy", "(I)Z"⟩, rfl, pw_530, pw_532, pw_538, pw_539, pw_78, ⟨by decide +kernel, by decide +kernel⟩, Or.inr ⟨pw_531, _, _, _, pw_542⟩, pl_X7_isHeldBy⟩
theorem lm_X5_86_9 : px_lkU "AllSworn$Realm" 86 1 9 m_X7_isHeldBy "AllSworn$Thing" := ⟨(RX10, TX10, 3), ⟨"AllSworn$Thing", "isHeldBy", "(I)Z"⟩, rfl, pw_530, pw_532, pw_541, pw_531, pw_73, ⟨by decide +kernel, by decide +kernel⟩, Or.inr ⟨pw_531, _, _, _, pw_542⟩, pl_X7_isHeldBy⟩
theorem lm_X5_89 : px_lkV "AllSworn$Realm" 89 1 5 m_X5_openTo := ⟨(RX5, TX5, 10), rfl, pw_543, pw_544, pw_545, pw_66, pl_X5_openTo⟩
theorem lm_X5_95 : px_lkV "AllSworn$Realm" 95 1 5 m_X5_priceOf := ⟨(RX5, TX5, 10), rfl, pw_669, pw_587, pw_588, pw_66, pl_X5_priceOf⟩
theorem lm_X5_98 : px_lkV "AllSworn$Realm" 98 1 5 m_X5_cheapestOn := ⟨(RX5, TX5, 10), rfl, pw_674, pw_666, pw_667, pw_66, pl_X5_cheapestOn⟩
theorem lm_X5_101 : px_lkV "AllSworn$Realm" 101 1 5 m_X5_harmAt := ⟨(RX5, TX5, 10), rfl, pw_675, pw_582, pw_583, pw_66, pl_X5_harmAt⟩
theorem lm_X5_104_0 : px_lkU "AllSworn$Realm" 104 0 0 m_X0_toldKind "AllSworn$Thing" := ⟨(RX0, TX0, 3), ⟨"AllSworn$Thing", "toldKind", "()I"⟩, rfl, pw_703, pw_705, pw_706, pw_707, pw_77, ⟨by decide +kernel, by decide +kernel⟩, Or.inl pw_704, pl_abs_toldKind⟩
theorem lm_X5_104_1 : px_lkU "AllSworn$Realm" 104 0 1 m_X1_toldKind "AllSworn$Thing" := ⟨(RX1, TX1, 3), ⟨"AllSworn$Thing", "toldKind", "()I"⟩, rfl, pw_703, pw_705, pw_709, pw_710, pw_75, ⟨by decide +kernel, by decide +kernel⟩, Or.inl pw_704, pl_abs_toldKind⟩
theorem lm_X5_104_3 : px_lkU "AllSworn$Realm" 104 0 3 m_X3_toldKind "AllSworn$Thing" := ⟨(RX3, TX3, 3), ⟨"AllSworn$Thing", "toldKind", "()I"⟩, rfl, pw_703, pw_705, pw_712, pw_713, pw_74, ⟨by decide +kernel, by decide +kernel⟩, Or.inl pw_704, pl_abs_toldKind⟩
theorem lm_X5_104_8 : px_lkU "AllSworn$Realm" 104 0 8 m_X9_toldKind "AllSworn$Thing" := ⟨(RX9, TX9, 3), ⟨"AllSworn$Thing", "toldKind", "()I"⟩, rfl, pw_703, pw_705, pw_715, pw_716, pw_78, ⟨by decide +kernel, by decide +kernel⟩, Or.inl pw_704, pl_abs_toldKind⟩
theorem lm_X5_104_9 : px_lkU "AllSworn$Realm" 104 0 9 m_X10_toldKind "AllSworn$Thing" := ⟨(RX10, TX10, 3), ⟨"AllSworn$Thing", "toldKind", "()I"⟩, rfl, pw_703, pw_705, pw_718, pw_719, pw_76, ⟨by decide +kernel, by decide +kernel⟩, Or.inl pw_704, pl_abs_toldKind⟩
theorem lm_X6_22 : px_lkS "AllSworn$Row" 22 2 m_J7_fill_53178 := ⟨pw_272, pw_273, pw_71, pl_J7_fill_53178⟩
theorem lm_X6_28 : px_lkV "AllSworn$Row" 28 2 6 m_X6_spans := ⟨(RX6, TX6, 3), rfl, pw_295, pw_288, pw_289, pw_69, pl_X6_spans⟩
theorem lm_X6_32 : px_lkV "AllSworn$Row" 32 1 6 m_X6_narrowed := ⟨(RX6, TX6, 3), rfl, pw_296, pw_298, pw_3, pw_69, pl_X6_narrowed⟩
theorem lm_X7_27 : px_lkV "AllSworn$Thing" 27 1 7 m_X8_leave := ⟨(RX8, TX8, 2), rfl, pw_846, pw_816, pw_817, pw_68, pl_X8_leave⟩
theorem lm_X9_3 : px_lkI "AllSworn$Untrue" 3 3 m_X0_init ∨ px_lkN "AllSworn$Untrue" 3 3 m_X0_init := Or.inl ⟨pw_424, pw_412, pw_77, rfl, rfl, pl_X0_init⟩
theorem lm_X9_9 : px_lkX "AllSworn$Untrue" 9 1 m_X0_isOf := ⟨pw_795, pw_1293, pw_428, pw_781, pw_77, by decide +kernel, pl_X0_isOf⟩
theorem lm_X9_13 : px_lkV "AllSworn$Untrue" 13 1 7 m_X8_leave := ⟨(RX8, TX8, 2), rfl, pw_855, pw_816, pw_817, pw_68, pl_X8_leave⟩
theorem lm_X9_19 : px_lkX "AllSworn$Untrue" 19 2 m_X0_size := ⟨pw_856, pw_1296, pw_428, pw_813, pw_77, by decide +kernel, pl_X0_size⟩
theorem lm_X10_3 : px_lkI "AllSworn$Young" 3 3 m_X3_init ∨ px_lkN "AllSworn$Young" 3 3 m_X3_init := Or.inl ⟨pw_404, pw_372, pw_74, rfl, rfl, pl_X3_init⟩
theorem lm_X10_9 : px_lkX "AllSworn$Young" 9 1 m_X3_isOf := ⟨pw_799, pw_1292, pw_408, pw_788, pw_74, by decide +kernel, pl_X3_isOf⟩
theorem lm_X10_13 : px_lkV "AllSworn$Young" 13 1 7 m_X8_leave := ⟨(RX8, TX8, 2), rfl, pw_840, pw_816, pw_817, pw_68, pl_X8_leave⟩
theorem lm_X10_19 : px_lkX "AllSworn$Young" 19 2 m_X3_mark := ⟨pw_841, pw_832, pw_408, pw_830, pw_74, by decide +kernel, pl_X3_mark⟩
theorem lm_X11_17 : px_lkI "AllSworn" 17 0 m_X4_init ∨ px_lkN "AllSworn" 17 0 m_X4_init := Or.inr ⟨⟨_, pw_93⟩, pw_94, pw_65, rfl, rfl, pl_X4_init⟩
theorem lm_X11_24 : px_lkI "AllSworn" 24 0 m_X5_init ∨ px_lkN "AllSworn" 24 0 m_X5_init := Or.inr ⟨⟨_, pw_119⟩, pw_120, pw_66, rfl, rfl, pl_X5_init⟩
theorem lm_X11_38 : px_lkI "AllSworn" 38 0 m_X2_init ∨ px_lkN "AllSworn" 38 0 m_X2_init := Or.inr ⟨⟨_, pw_171⟩, pw_172, pw_67, rfl, rfl, pl_X2_init⟩
theorem lm_X11_45 : px_lkI "AllSworn" 45 0 m_X8_init ∨ px_lkN "AllSworn" 45 0 m_X8_init := Or.inr ⟨⟨_, pw_198⟩, pw_199, pw_68, rfl, rfl, pl_X8_init⟩
theorem lm_X11_57 : px_lkI "AllSworn" 57 0 m_X6_init ∨ px_lkN "AllSworn" 57 0 m_X6_init := Or.inr ⟨⟨_, pw_210⟩, pw_211, pw_69, rfl, rfl, pl_X6_init⟩
theorem lm_X11_58 : px_lkV "AllSworn" 58 1 10 m_X11_rowAt := ⟨(RX11, TX11, 9), rfl, pw_258, pw_260, pw_0, pw_64, pl_X11_rowAt⟩
theorem lm_X11_63 : px_lkV "AllSworn" 63 1 10 m_X11_found := ⟨(RX11, TX11, 9), rfl, pw_263, pw_265, pw_1, pw_64, pl_X11_found⟩
theorem lm_X11_67 : px_lkV "AllSworn" 67 2 6 m_X6_lay := ⟨(RX6, TX6, 3), rfl, pw_268, pw_269, pw_270, pw_69, pl_X6_lay⟩
theorem lm_X11_71 : px_lkV "AllSworn" 71 1 10 m_X11_clean := ⟨(RX11, TX11, 9), rfl, pw_275, pw_277, pw_2, pw_64, pl_X11_clean⟩
theorem lm_X11_74 : px_lkV "AllSworn" 74 0 6 m_X6_isMissing := ⟨(RX6, TX6, 3), rfl, pw_283, pw_284, pw_285, pw_69, pl_X6_isMissing⟩
theorem lm_X11_78 : px_lkV "AllSworn" 78 2 6 m_X6_spans := ⟨(RX6, TX6, 3), rfl, pw_287, pw_288, pw_289, pw_69, pl_X6_spans⟩
theorem lm_X11_82 : px_lkV "AllSworn" 82 2 6 m_X6_put := ⟨(RX6, TX6, 3), rfl, pw_291, pw_292, pw_293, pw_69, pl_X6_put⟩
theorem lm_X11_89 : px_lkV "AllSworn" 89 4 6 m_X6_takeFrom := ⟨(RX6, TX6, 3), rfl, pw_304, pw_305, pw_306, pw_69, pl_X6_takeFrom⟩
theorem lm_X11_96 : px_lkV "AllSworn" 96 0 6 m_X6_vanish := ⟨(RX6, TX6, 3), rfl, pw_315, pw_316, pw_317, pw_69, pl_X6_vanish⟩
theorem lm_X11_99 : px_lkV "AllSworn" 99 1 4 m_X4_take := ⟨(RX4, TX4, 5), rfl, pw_323, pw_324, pw_325, pw_65, pl_X4_take⟩
theorem lm_X11_107 : px_lkV "AllSworn" 107 1 4 m_X4_readTo := ⟨(RX4, TX4, 5), rfl, pw_332, pw_333, pw_334, pw_65, pl_X4_readTo⟩
theorem lm_X11_118 : px_lkV "AllSworn" 118 1 5 m_X5_becomeLike := ⟨(RX5, TX5, 10), rfl, pw_450, pw_451, pw_452, pw_66, pl_X5_becomeLike⟩
theorem lm_X11_125 : px_lkV "AllSworn" 125 1 5 m_X5_thingAt := ⟨(RX5, TX5, 10), rfl, pw_463, pw_464, pw_465, pw_66, pl_X5_thingAt⟩
theorem lm_X11_132_0 : px_lkU "AllSworn" 132 0 0 m_X0_daysToAsk "AllSworn$Thing" := ⟨(RX0, TX0, 3), ⟨"AllSworn$Thing", "daysToAsk", "()I"⟩, rfl, pw_467, pw_469, pw_470, pw_471, pw_77, ⟨by decide +kernel, by decide +kernel⟩, Or.inr ⟨pw_468, _, _, _, pw_480⟩, pl_X7_daysToAsk⟩
theorem lm_X11_132_1 : px_lkU "AllSworn" 132 0 1 m_X7_daysToAsk "AllSworn$Thing" := ⟨(RX1, TX1, 3), ⟨"AllSworn$Thing", "daysToAsk", "()I"⟩, rfl, pw_467, pw_469, pw_476, pw_468, pw_73, ⟨by decide +kernel, by decide +kernel⟩, Or.inr ⟨pw_468, _, _, _, pw_480⟩, pl_X7_daysToAsk⟩
theorem lm_X11_132_3 : px_lkU "AllSworn" 132 0 3 m_X7_daysToAsk "AllSworn$Thing" := ⟨(RX3, TX3, 3), ⟨"AllSworn$Thing", "daysToAsk", "()I"⟩, rfl, pw_467, pw_469, pw_477, pw_468, pw_73, ⟨by decide +kernel, by decide +kernel⟩, Or.inr ⟨pw_468, _, _, _, pw_480⟩, pl_X7_daysToAsk⟩
theorem lm_X11_132_8 : px_lkU "AllSworn" 132 0 8 m_X0_daysToAsk "AllSworn$Thing" := ⟨(RX9, TX9, 3), ⟨"AllSworn$Thing", "daysToAsk", "()I"⟩, rfl, pw_467, pw_469, pw_478, pw_471, pw_77, ⟨by decide +kernel, by decide +kernel⟩, Or.inr ⟨pw_468, _, _, _, pw_480⟩, pl_X7_daysToAsk⟩
theorem lm_X11_132_9 : px_lkU "AllSworn" 132 0 9 m_X7_daysToAsk "AllSworn$Thing" := ⟨(RX10, TX10, 3), ⟨"AllSworn$Thing", "daysToAsk", "()I"⟩, rfl, pw_467, pw_469, pw_479, pw_468, pw_73, ⟨by decide +kernel, by decide +kernel⟩, Or.inr ⟨pw_468, _, _, _, pw_480⟩, pl_X7_daysToAsk⟩
theorem lm_X11_138 : px_lkV "AllSworn" 138 1 5 m_X5_sendTo := ⟨(RX5, TX5, 10), rfl, pw_482, pw_483, pw_484, pw_66, pl_X5_sendTo⟩
theorem lm_X11_142 : px_lkV "AllSworn" 142 1 5 m_X5_hasHarm := ⟨(RX5, TX5, 10), rfl, pw_514, pw_515, pw_516, pw_66, pl_X5_hasHarm⟩
theorem lm_X11_145 : px_lkV "AllSworn" 145 1 5 m_X5_tryHarm := ⟨(RX5, TX5, 10), rfl, pw_518, pw_519, pw_520, pw_66, pl_X5_tryHarm⟩
theorem lm_X11_148 : px_lkV "AllSworn" 148 0 5 m_X5_isTold := ⟨(RX5, TX5, 10), rfl, pw_551, pw_552, pw_553, pw_66, pl_X5_isTold⟩
theorem lm_X11_152 : px_lkV "AllSworn" 152 1 5 m_X5_letPass := ⟨(RX5, TX5, 10), rfl, pw_556, pw_557, pw_558, pw_66, pl_X5_letPass⟩
theorem lm_X11_156 : px_lkV "AllSworn" 156 0 5 m_X5_undoLatest := ⟨(RX5, TX5, 10), rfl, pw_564, pw_565, pw_566, pw_66, pl_X5_undoLatest⟩
theorem lm_X11_168 : px_lkV "AllSworn" 168 1 5 m_X5_oathOf := ⟨(RX5, TX5, 10), rfl, pw_572, pw_491, pw_492, pw_66, pl_X5_oathOf⟩
theorem lm_X11_171 : px_lkV "AllSworn" 171 1 5 m_X5_boundOn := ⟨(RX5, TX5, 10), rfl, pw_573, pw_574, pw_575, pw_66, pl_X5_boundOn⟩
theorem lm_X11_177 : px_lkV "AllSworn" 177 1 5 m_X5_harmAt := ⟨(RX5, TX5, 10), rfl, pw_581, pw_582, pw_583, pw_66, pl_X5_harmAt⟩
theorem lm_X11_180 : px_lkV "AllSworn" 180 1 5 m_X5_priceOf := ⟨(RX5, TX5, 10), rfl, pw_586, pw_587, pw_588, pw_66, pl_X5_priceOf⟩
theorem lm_X11_183 : px_lkV "AllSworn" 183 1 10 m_X11_isAhead := ⟨(RX11, TX11, 9), rfl, pw_594, pw_596, pw_12, pw_64, pl_X11_isAhead⟩
theorem lm_X11_186 : px_lkV "AllSworn" 186 1 5 m_X5_openOn := ⟨(RX5, TX5, 10), rfl, pw_598, pw_523, pw_524, pw_66, pl_X5_openOn⟩
theorem lm_X11_189 : px_lkV "AllSworn" 189 1 2 m_X2_firstGap := ⟨(RX2, TX2, 5), rfl, pw_603, pw_604, pw_605, pw_67, pl_X2_firstGap⟩
theorem lm_X11_193 : px_lkS "AllSworn" 193 1 m_X11_isPair := ⟨pw_612, pw_613, pw_64, pl_X11_isPair⟩
theorem lm_X11_196 : px_lkV "AllSworn" 196 1 2 m_X2_leastCover := ⟨(RX2, TX2, 5), rfl, pw_615, pw_616, pw_617, pw_67, pl_X2_leastCover⟩
theorem lm_X11_199 : px_lkS "AllSworn" 199 2 m_X11_sizeOrSet := ⟨pw_632, pw_633, pw_64, pl_X11_sizeOrSet⟩
theorem lm_X11_202 : px_lkV "AllSworn" 202 1 2 m_X2_seekRound := ⟨(RX2, TX2, 5), rfl, pw_641, pw_642, pw_643, pw_67, pl_X2_seekRound⟩
theorem lm_X11_211 : px_lkV "AllSworn" 211 1 2 m_X2_bestStop := ⟨(RX2, TX2, 5), rfl, pw_657, pw_658, pw_659, pw_67, pl_X2_bestStop⟩
theorem lm_X11_214 : px_lkV "AllSworn" 214 1 5 m_X5_cheapestOn := ⟨(RX5, TX5, 10), rfl, pw_665, pw_666, pw_667, pw_66, pl_X5_cheapestOn⟩
theorem lm_X11_217 : px_lkV "AllSworn" 217 1 5 m_X5_cheapestPriceOn := ⟨(RX5, TX5, 10), rfl, pw_670, pw_671, pw_672, pw_66, pl_X5_cheapestPriceOn⟩
theorem lm_X11_220 : px_lkV "AllSworn" 220 2 2 m_X2_bestDefence := ⟨(RX2, TX2, 5), rfl, pw_680, pw_681, pw_682, pw_67, pl_X2_bestDefence⟩
theorem lm_X11_224 : px_lkV "AllSworn" 224 3 2 m_X2_priceBehind := ⟨(RX2, TX2, 5), rfl, pw_690, pw_685, pw_686, pw_67, pl_X2_priceBehind⟩
theorem lm_X11_228 : px_lkV "AllSworn" 228 1 2 m_X2_leastKinds := ⟨(RX2, TX2, 5), rfl, pw_695, pw_696, pw_697, pw_67, pl_X2_leastKinds⟩
theorem lm_X11_231 : px_lkS "AllSworn" 231 1 m_J6_bitCount_0f7a4 := ⟨pw_636, pw_625, pw_80, pl_J6_bitCount_0f7a4⟩
theorem lm_X11_236 : px_lkS "AllSworn" 236 2 m_X11_power := ⟨pw_725, pw_726, pw_64, pl_X11_power⟩
theorem lm_X11_239 : px_lkS "AllSworn" 239 2 m_X11_sharedDivisor := ⟨pw_728, pw_729, pw_64, pl_X11_sharedDivisor⟩
theorem lm_X11_247 : px_lkV "AllSworn" 247 2 6 m_X6_tellsYesOrNo := ⟨(RX6, TX6, 3), rfl, pw_736, pw_737, pw_738, pw_69, pl_X6_tellsYesOrNo⟩
theorem lm_X11_250 : px_lkV "AllSworn" 250 4 2 m_X2_suspects := ⟨(RX2, TX2, 5), rfl, pw_740, pw_741, pw_742, pw_67, pl_X2_suspects⟩
theorem lm_X11_254 : px_lkV "AllSworn" 254 1 2 m_X2_leastTerm := ⟨(RX2, TX2, 5), rfl, pw_752, pw_753, pw_754, pw_67, pl_X2_leastTerm⟩
theorem lm_X11_257 : px_lkV "AllSworn" 257 1 10 m_X11_imageAt := ⟨(RX11, TX11, 9), rfl, pw_760, pw_762, pw_15, pw_64, pl_X11_imageAt⟩
theorem lm_X11_261_0 : px_lkU "AllSworn" 261 0 0 m_X0_toldKind "AllSworn$Thing" := ⟨(RX0, TX0, 3), ⟨"AllSworn$Thing", "toldKind", "()I"⟩, rfl, pw_772, pw_705, pw_706, pw_707, pw_77, ⟨by decide +kernel, by decide +kernel⟩, Or.inl pw_704, pl_abs_toldKind⟩
theorem lm_X11_261_1 : px_lkU "AllSworn" 261 0 1 m_X1_toldKind "AllSworn$Thing" := ⟨(RX1, TX1, 3), ⟨"AllSworn$Thing", "toldKind", "()I"⟩, rfl, pw_772, pw_705, pw_709, pw_710, pw_75, ⟨by decide +kernel, by decide +kernel⟩, Or.inl pw_704, pl_abs_toldKind⟩
theorem lm_X11_261_3 : px_lkU "AllSworn" 261 0 3 m_X3_toldKind "AllSworn$Thing" := ⟨(RX3, TX3, 3), ⟨"AllSworn$Thing", "toldKind", "()I"⟩, rfl, pw_772, pw_705, pw_712, pw_713, pw_74, ⟨by decide +kernel, by decide +kernel⟩, Or.inl pw_704, pl_abs_toldKind⟩
theorem lm_X11_261_8 : px_lkU "AllSworn" 261 0 8 m_X9_toldKind "AllSworn$Thing" := ⟨(RX9, TX9, 3), ⟨"AllSworn$Thing", "toldKind", "()I"⟩, rfl, pw_772, pw_705, pw_715, pw_716, pw_78, ⟨by decide +kernel, by decide +kernel⟩, Or.inl pw_704, pl_abs_toldKind⟩
theorem lm_X11_261_9 : px_lkU "AllSworn" 261 0 9 m_X10_toldKind "AllSworn$Thing" := ⟨(RX10, TX10, 3), ⟨"AllSworn$Thing", "toldKind", "()I"⟩, rfl, pw_772, pw_705, pw_718, pw_719, pw_76, ⟨by decide +kernel, by decide +kernel⟩, Or.inl pw_704, pl_abs_toldKind⟩
theorem lm_X11_264_0 : px_lkU "AllSworn" 264 1 0 m_X0_isOf "AllSworn$Thing" := ⟨(RX0, TX0, 3), ⟨"AllSworn$Thing", "isOf", "(I)Z"⟩, rfl, pw_777, pw_779, pw_780, pw_781, pw_77, ⟨by decide +kernel, by decide +kernel⟩, Or.inr ⟨pw_778, _, _, _, pw_800⟩, pl_X7_isOf⟩
theorem lm_X11_264_1 : px_lkU "AllSworn" 264 1 1 m_X1_isOf "AllSworn$Thing" := ⟨(RX1, TX1, 3), ⟨"AllSworn$Thing", "isOf", "(I)Z"⟩, rfl, pw_777, pw_779, pw_784, pw_785, pw_75, ⟨by decide +kernel, by decide +kernel⟩, Or.inr ⟨pw_778, _, _, _, pw_800⟩, pl_X7_isOf⟩
theorem lm_X11_264_3 : px_lkU "AllSworn" 264 1 3 m_X3_isOf "AllSworn$Thing" := ⟨(RX3, TX3, 3), ⟨"AllSworn$Thing", "isOf", "(I)Z"⟩, rfl, pw_777, pw_779, pw_791, pw_788, pw_74, ⟨by decide +kernel, by decide +kernel⟩, Or.inr ⟨pw_778, _, _, _, pw_800⟩, pl_X7_isOf⟩
theorem lm_X11_264_8 : px_lkU "AllSworn" 264 1 8 m_X9_isOf "AllSworn$Thing" := ⟨(RX9, TX9, 3), ⟨"AllSworn$Thing", "isOf", "(I)Z"⟩, rfl, pw_777, pw_779, pw_792, pw_793, pw_78, ⟨by decide +kernel, by decide +kernel⟩, Or.inr ⟨pw_778, _, _, _, pw_800⟩, pl_X7_isOf⟩
theorem lm_X11_264_9 : px_lkU "AllSworn" 264 1 9 m_X10_isOf "AllSworn$Thing" := ⟨(RX10, TX10, 3), ⟨"AllSworn$Thing", "isOf", "(I)Z"⟩, rfl, pw_777, pw_779, pw_796, pw_797, pw_76, ⟨by decide +kernel, by decide +kernel⟩, Or.inr ⟨pw_778, _, _, _, pw_800⟩, pl_X7_isOf⟩
theorem lm_X11_267 : px_lkV "AllSworn" 267 0 7 m_X8_clear := ⟨(RX8, TX8, 2), rfl, pw_805, pw_806, pw_807, pw_68, pl_X8_clear⟩
theorem lm_X11_270_0 : px_lkU "AllSworn" 270 2 0 m_X0_size "AllSworn$Thing" := ⟨(RX0, TX0, 3), ⟨"AllSworn$Thing", "size", "(LAllSworn$Trace;LAllSworn$Realm;)I"⟩, rfl, pw_809, pw_811, pw_812, pw_813, pw_77, ⟨by decide +kernel, by decide +kernel⟩, Or.inr ⟨pw_810, _, _, _, pw_858⟩, pl_X7_size⟩
theorem lm_X11_270_1 : px_lkU "AllSworn" 270 2 1 m_X1_size "AllSworn$Thing" := ⟨(RX1, TX1, 3), ⟨"AllSworn$Thing", "size", "(LAllSworn$Trace;LAllSworn$Realm;)I"⟩, rfl, pw_809, pw_811, pw_820, pw_821, pw_75, ⟨by decide +kernel, by decide +kernel⟩, Or.inr ⟨pw_810, _, _, _, pw_858⟩, pl_X7_size⟩
theorem lm_X11_270_3 : px_lkU "AllSworn" 270 2 3 m_X3_size "AllSworn$Thing" := ⟨(RX3, TX3, 3), ⟨"AllSworn$Thing", "size", "(LAllSworn$Trace;LAllSworn$Realm;)I"⟩, rfl, pw_809, pw_811, pw_851, pw_825, pw_74, ⟨by decide +kernel, by decide +kernel⟩, Or.inr ⟨pw_810, _, _, _, pw_858⟩, pl_X7_size⟩
theorem lm_X11_270_8 : px_lkU "AllSworn" 270 2 8 m_X9_size "AllSworn$Thing" := ⟨(RX9, TX9, 3), ⟨"AllSworn$Thing", "size", "(LAllSworn$Trace;LAllSworn$Realm;)I"⟩, rfl, pw_809, pw_811, pw_852, pw_853, pw_78, ⟨by decide +kernel, by decide +kernel⟩, Or.inr ⟨pw_810, _, _, _, pw_858⟩, pl_X7_size⟩
theorem lm_X11_270_9 : px_lkU "AllSworn" 270 2 9 m_X3_size "AllSworn$Thing" := ⟨(RX10, TX10, 3), ⟨"AllSworn$Thing", "size", "(LAllSworn$Trace;LAllSworn$Realm;)I"⟩, rfl, pw_809, pw_811, pw_857, pw_825, pw_74, ⟨by decide +kernel, by decide +kernel⟩, Or.inr ⟨pw_810, _, _, _, pw_858⟩, pl_X7_size⟩
theorem lm_X11_273_0 : px_lkU "AllSworn" 273 2 0 m_X0_mark "AllSworn$Thing" := ⟨(RX0, TX0, 3), ⟨"AllSworn$Thing", "mark", "(LAllSworn$Trace;LAllSworn$Realm;)I"⟩, rfl, pw_859, pw_1295, pw_1297, pw_860, pw_77, ⟨by decide +kernel, by decide +kernel⟩, Or.inr ⟨pw_844, _, _, _, pw_845⟩, pl_X7_mark⟩
theorem lm_X11_273_1 : px_lkU "AllSworn" 273 2 1 m_X1_mark "AllSworn$Thing" := ⟨(RX1, TX1, 3), ⟨"AllSworn$Thing", "mark", "(LAllSworn$Trace;LAllSworn$Realm;)I"⟩, rfl, pw_859, pw_1295, pw_1300, pw_834, pw_75, ⟨by decide +kernel, by decide +kernel⟩, Or.inr ⟨pw_844, _, _, _, pw_845⟩, pl_X7_mark⟩
theorem lm_X11_273_3 : px_lkU "AllSworn" 273 2 3 m_X3_mark "AllSworn$Thing" := ⟨(RX3, TX3, 3), ⟨"AllSworn$Thing", "mark", "(LAllSworn$Trace;LAllSworn$Realm;)I"⟩, rfl, pw_859, pw_1295, pw_1301, pw_830, pw_74, ⟨by decide +kernel, by decide +kernel⟩, Or.inr ⟨pw_844, _, _, _, pw_845⟩, pl_X7_mark⟩
theorem lm_X11_273_8 : px_lkU "AllSworn" 273 2 8 m_X0_mark "AllSworn$Thing" := ⟨(RX9, TX9, 3), ⟨"AllSworn$Thing", "mark", "(LAllSworn$Trace;LAllSworn$Realm;)I"⟩, rfl, pw_859, pw_1295, pw_1302, pw_860, pw_77, ⟨by decide +kernel, by decide +kernel⟩, Or.inr ⟨pw_844, _, _, _, pw_845⟩, pl_X7_mark⟩
theorem lm_X11_273_9 : px_lkU "AllSworn" 273 2 9 m_X10_mark "AllSworn$Thing" := ⟨(RX10, TX10, 3), ⟨"AllSworn$Thing", "mark", "(LAllSworn$Trace;LAllSworn$Realm;)I"⟩, rfl, pw_859, pw_1295, pw_1303, pw_838, pw_76, ⟨by decide +kernel, by decide +kernel⟩, Or.inr ⟨pw_844, _, _, _, pw_845⟩, pl_X7_mark⟩
theorem lm_X11_276 : px_lkV "AllSworn" 276 1 7 m_X8_numberAt := ⟨(RX8, TX8, 2), rfl, pw_868, pw_869, pw_870, pw_68, pl_X8_numberAt⟩
theorem lm_X11_279 : px_lkV "AllSworn" 279 0 10 m_X11_rowsThere := ⟨(RX11, TX11, 9), rfl, pw_877, pw_879, pw_16, pw_64, pl_X11_rowsThere⟩
theorem lm_X12_50 : px_lkS "AllSwornModel" 50 3 m_X12_in := ⟨pw_970, pw_971, pw_70, pl_X12_in⟩
theorem lm_X12_54 : px_lkS "AllSwornModel" 54 1 m_X12_isRow := ⟨pw_967, pw_968, pw_70, pl_X12_isRow⟩
theorem lm_X12_59 : px_lkV "AllSwornModel" 59 1 11 m_X12_finds := ⟨(RX12, TX12, 23), rfl, pw_974, pw_976, pw_17, pw_70, pl_X12_finds⟩
theorem lm_X12_63 : px_lkV "AllSwornModel" 63 1 11 m_X12_well := ⟨(RX12, TX12, 23), rfl, pw_979, pw_981, pw_18, pw_70, pl_X12_well⟩
theorem lm_X12_69 : px_lkV "AllSwornModel" 69 1 11 m_X12_get := ⟨(RX12, TX12, 23), rfl, pw_1043, pw_1045, pw_27, pw_70, pl_X12_get⟩
theorem lm_X12_82 : px_lkV "AllSwornModel" 82 0 11 m_X12_here := ⟨(RX12, TX12, 23), rfl, pw_1016, pw_1018, pw_21, pw_70, pl_X12_here⟩
theorem lm_X12_95 : px_lkV "AllSwornModel" 95 0 11 m_X12_next := ⟨(RX12, TX12, 23), rfl, pw_1012, pw_1014, pw_20, pw_70, pl_X12_next⟩
theorem lm_X12_98 : px_lkV "AllSwornModel" 98 1 11 m_X12_fails := ⟨(RX12, TX12, 23), rfl, pw_1024, pw_1026, pw_23, pw_70, pl_X12_fails⟩
theorem lm_X12_102 : px_lkV "AllSwornModel" 102 3 11 m_X12_numberBut := ⟨(RX12, TX12, 23), rfl, pw_1032, pw_1034, pw_25, pw_70, pl_X12_numberBut⟩
theorem lm_X12_106 : px_lkV "AllSwornModel" 106 1 11 m_X12_sign := ⟨(RX12, TX12, 23), rfl, pw_1020, pw_1022, pw_22, pw_70, pl_X12_sign⟩
theorem lm_X12_109 : px_lkS "AllSwornModel" 109 1 m_X12_kindOf := ⟨pw_1036, pw_1037, pw_70, pl_X12_kindOf⟩
theorem lm_X12_112 : px_lkV "AllSwornModel" 112 3 11 m_X12_number := ⟨(RX12, TX12, 23), rfl, pw_1028, pw_1030, pw_24, pw_70, pl_X12_number⟩
theorem lm_X12_115 : px_lkV "AllSwornModel" 115 2 11 m_X12_put := ⟨(RX12, TX12, 23), rfl, pw_1008, pw_1010, pw_19, pw_70, pl_X12_put⟩
theorem lm_X12_120 : px_lkV "AllSwornModel" 120 0 11 m_X12_readThing := ⟨(RX12, TX12, 23), rfl, pw_1039, pw_1041, pw_26, pw_70, pl_X12_readThing⟩
theorem lm_X12_123 : px_lkV "AllSwornModel" 123 0 11 m_X12_readHarm := ⟨(RX12, TX12, 23), rfl, pw_1048, pw_1050, pw_28, pw_70, pl_X12_readHarm⟩
theorem lm_X12_130 : px_lkV "AllSwornModel" 130 2 11 m_X12_copyRealm := ⟨(RX12, TX12, 23), rfl, pw_1053, pw_1055, pw_29, pw_70, pl_X12_copyRealm⟩
theorem lm_X12_136 : px_lkV "AllSwornModel" 136 2 11 m_X12_ofThing := ⟨(RX12, TX12, 23), rfl, pw_1073, pw_1075, pw_32, pw_70, pl_X12_ofThing⟩
theorem lm_X12_140 : px_lkV "AllSwornModel" 140 2 11 m_X12_boundOn := ⟨(RX12, TX12, 23), rfl, pw_1105, pw_1107, pw_39, pw_70, pl_X12_boundOn⟩
theorem lm_X12_143 : px_lkV "AllSwornModel" 143 1 11 m_X12_openBy := ⟨(RX12, TX12, 23), rfl, pw_1109, pw_1111, pw_40, pw_70, pl_X12_openBy⟩
theorem lm_X12_146 : px_lkV "AllSwornModel" 146 0 11 m_X12_asSworn := ⟨(RX12, TX12, 23), rfl, pw_1097, pw_1099, pw_37, pw_70, pl_X12_asSworn⟩
theorem lm_X12_149 : px_lkV "AllSwornModel" 149 1 11 m_X12_openOn := ⟨(RX12, TX12, 23), rfl, pw_1101, pw_1103, pw_38, pw_70, pl_X12_openOn⟩
theorem lm_X12_152 : px_lkV "AllSwornModel" 152 1 11 m_X12_isThing := ⟨(RX12, TX12, 23), rfl, pw_1065, pw_1067, pw_30, pw_70, pl_X12_isThing⟩
theorem lm_X12_155 : px_lkV "AllSwornModel" 155 1 11 m_X12_wayOf := ⟨(RX12, TX12, 23), rfl, pw_1069, pw_1071, pw_31, pw_70, pl_X12_wayOf⟩
theorem lm_X12_158 : px_lkV "AllSwornModel" 158 1 11 m_X12_know := ⟨(RX12, TX12, 23), rfl, pw_1077, pw_1079, pw_33, pw_70, pl_X12_know⟩
theorem lm_X12_161 : px_lkV "AllSwornModel" 161 2 11 m_X12_wouldSwear := ⟨(RX12, TX12, 23), rfl, pw_1081, pw_1083, pw_34, pw_70, pl_X12_wouldSwear⟩
theorem lm_X12_165 : px_lkV "AllSwornModel" 165 1 11 m_X12_isHarm := ⟨(RX12, TX12, 23), rfl, pw_1089, pw_1091, pw_35, pw_70, pl_X12_isHarm⟩
theorem lm_X12_168 : px_lkV "AllSwornModel" 168 1 11 m_X12_openAsSworn := ⟨(RX12, TX12, 23), rfl, pw_1093, pw_1095, pw_36, pw_70, pl_X12_openAsSworn⟩
theorem lm_X12_171 : px_lkV "AllSwornModel" 171 0 11 m_X12_hasRealm := ⟨(RX12, TX12, 23), rfl, pw_1117, pw_1119, pw_41, pw_70, pl_X12_hasRealm⟩
theorem lm_X12_176 : px_lkV "AllSwornModel" 176 1 11 m_X12_sumOf := ⟨(RX12, TX12, 23), rfl, pw_1134, pw_1136, pw_42, pw_70, pl_X12_sumOf⟩
theorem lm_X12_179 : px_lkV "AllSwornModel" 179 1 11 m_X12_isDay := ⟨(RX12, TX12, 23), rfl, pw_1142, pw_1144, pw_43, pw_70, pl_X12_isDay⟩
theorem lm_X12_182 : px_lkS "AllSwornModel" 182 1 m_X12_manyOf := ⟨pw_1154, pw_1155, pw_70, pl_X12_manyOf⟩
theorem lm_X12_185 : px_lkV "AllSwornModel" 185 1 11 m_X12_covers := ⟨(RX12, TX12, 23), rfl, pw_1157, pw_1159, pw_44, pw_70, pl_X12_covers⟩
theorem lm_X12_191 : px_lkV "AllSwornModel" 191 2 11 m_X12_goesRound := ⟨(RX12, TX12, 23), rfl, pw_1165, pw_1167, pw_45, pw_70, pl_X12_goesRound⟩
theorem lm_X12_194 : px_lkV "AllSwornModel" 194 1 11 m_X12_cheapestOf := ⟨(RX12, TX12, 23), rfl, pw_1173, pw_1175, pw_46, pw_70, pl_X12_cheapestOf⟩
theorem lm_X12_197 : px_lkV "AllSwornModel" 197 2 11 m_X12_dearBy := ⟨(RX12, TX12, 23), rfl, pw_1181, pw_1183, pw_47, pw_70, pl_X12_dearBy⟩
theorem lm_X12_200 : px_lkV "AllSwornModel" 200 1 11 m_X12_ofKinds := ⟨(RX12, TX12, 23), rfl, pw_1189, pw_1191, pw_48, pw_70, pl_X12_ofKinds⟩
theorem lm_X12_203 : px_lkS "AllSwornModel" 203 2 m_X12_isOne := ⟨pw_1221, pw_1222, pw_70, pl_X12_isOne⟩
theorem lm_X12_209 : px_lkV "AllSwornModel" 209 1 11 m_X12_leaves := ⟨(RX12, TX12, 23), rfl, pw_1236, pw_1238, pw_51, pw_70, pl_X12_leaves⟩
theorem lm_X12_212 : px_lkV "AllSwornModel" 212 1 11 m_X12_mark20 := ⟨(RX12, TX12, 23), rfl, pw_1256, pw_1258, pw_56, pw_70, pl_X12_mark20⟩
theorem lm_X12_215 : px_lkV "AllSwornModel" 215 1 11 m_X12_inHarms := ⟨(RX12, TX12, 23), rfl, pw_1260, pw_1262, pw_57, pw_70, pl_X12_inHarms⟩
theorem lm_X12_218 : px_lkV "AllSwornModel" 218 1 11 m_X12_size10 := ⟨(RX12, TX12, 23), rfl, pw_1244, pw_1246, pw_53, pw_70, pl_X12_size10⟩
theorem lm_X12_221 : px_lkV "AllSwornModel" 221 1 11 m_X12_size13 := ⟨(RX12, TX12, 23), rfl, pw_1280, pw_1282, pw_62, pw_70, pl_X12_size13⟩
theorem lm_X12_224 : px_lkV "AllSwornModel" 224 1 11 m_X12_mark21 := ⟨(RX12, TX12, 23), rfl, pw_1252, pw_1254, pw_55, pw_70, pl_X12_mark21⟩
theorem lm_X12_227 : px_lkV "AllSwornModel" 227 1 11 m_X12_size14 := ⟨(RX12, TX12, 23), rfl, pw_1276, pw_1278, pw_61, pw_70, pl_X12_size14⟩
theorem lm_X12_230 : px_lkV "AllSwornModel" 230 1 11 m_X12_mark24 := ⟨(RX12, TX12, 23), rfl, pw_1264, pw_1266, pw_58, pw_70, pl_X12_mark24⟩
theorem lm_X12_233 : px_lkV "AllSwornModel" 233 1 11 m_X12_mark22 := ⟨(RX12, TX12, 23), rfl, pw_1268, pw_1270, pw_59, pw_70, pl_X12_mark22⟩
theorem lm_X12_236 : px_lkV "AllSwornModel" 236 1 11 m_X12_mark23 := ⟨(RX12, TX12, 23), rfl, pw_1272, pw_1274, pw_60, pw_70, pl_X12_mark23⟩
theorem lm_X12_239 : px_lkV "AllSwornModel" 239 1 11 m_X12_markOf := ⟨(RX12, TX12, 23), rfl, pw_1248, pw_1250, pw_54, pw_70, pl_X12_markOf⟩
theorem lm_X12_242 : px_lkV "AllSwornModel" 242 1 11 m_X12_size11 := ⟨(RX12, TX12, 23), rfl, pw_1240, pw_1242, pw_52, pw_70, pl_X12_size11⟩
theorem lm_X12_245 : px_lkV "AllSwornModel" 245 1 11 m_X12_size12 := ⟨(RX12, TX12, 23), rfl, pw_1232, pw_1234, pw_50, pw_70, pl_X12_size12⟩
theorem lm_X12_248 : px_lkV "AllSwornModel" 248 1 11 m_X12_sizeOf := ⟨(RX12, TX12, 23), rfl, pw_1228, pw_1230, pw_49, pw_70, pl_X12_sizeOf⟩
theorem pcw_0 : ∀ w ∈ u_ws RX0 TX0 3, w ∈ px_W := List.forall_mem_cons.mpr ⟨pw_415, List.forall_mem_cons.mpr ⟨pw_416, List.forall_mem_cons.mpr ⟨pw_417, fun _ h => absurd h List.not_mem_nil⟩⟩⟩
theorem pcw_1 : ∀ w ∈ u_ws RX1 TX1 3, w ∈ px_W := List.forall_mem_cons.mpr ⟨pw_392, List.forall_mem_cons.mpr ⟨pw_394, List.forall_mem_cons.mpr ⟨pw_396, fun _ h => absurd h List.not_mem_nil⟩⟩⟩
theorem pcw_2 : ∀ w ∈ u_ws RX2 TX2 5, w ∈ px_W := List.forall_mem_cons.mpr ⟨pw_185, List.forall_mem_cons.mpr ⟨pw_187, List.forall_mem_cons.mpr ⟨pw_189, List.forall_mem_cons.mpr ⟨pw_191, List.forall_mem_cons.mpr ⟨pw_193, fun _ h => absurd h List.not_mem_nil⟩⟩⟩⟩⟩
theorem pcw_3 : ∀ w ∈ u_ws RX3 TX3 3, w ∈ px_W := List.forall_mem_cons.mpr ⟨pw_432, List.forall_mem_cons.mpr ⟨pw_433, List.forall_mem_cons.mpr ⟨pw_434, fun _ h => absurd h List.not_mem_nil⟩⟩⟩
theorem pcw_4 : ∀ w ∈ u_ws RX4 TX4 5, w ∈ px_W := List.forall_mem_cons.mpr ⟨pw_105, List.forall_mem_cons.mpr ⟨pw_107, List.forall_mem_cons.mpr ⟨pw_109, List.forall_mem_cons.mpr ⟨pw_111, List.forall_mem_cons.mpr ⟨pw_113, fun _ h => absurd h List.not_mem_nil⟩⟩⟩⟩⟩
theorem pcw_5 : ∀ w ∈ u_ws RX5 TX5 10, w ∈ px_W := List.forall_mem_cons.mpr ⟨pw_147, List.forall_mem_cons.mpr ⟨pw_149, List.forall_mem_cons.mpr ⟨pw_151, List.forall_mem_cons.mpr ⟨pw_153, List.forall_mem_cons.mpr ⟨pw_155, List.forall_mem_cons.mpr ⟨pw_157, List.forall_mem_cons.mpr ⟨pw_159, List.forall_mem_cons.mpr ⟨pw_161, List.forall_mem_cons.mpr ⟨pw_163, List.forall_mem_cons.mpr ⟨pw_165, fun _ h => absurd h List.not_mem_nil⟩⟩⟩⟩⟩⟩⟩⟩⟩⟩
theorem pcw_6 : ∀ w ∈ u_ws RX6 TX6 3, w ∈ px_W := List.forall_mem_cons.mpr ⟨pw_219, List.forall_mem_cons.mpr ⟨pw_221, List.forall_mem_cons.mpr ⟨pw_223, fun _ h => absurd h List.not_mem_nil⟩⟩⟩
theorem pcw_8 : ∀ w ∈ u_ws RX8 TX8 2, w ∈ px_W := List.forall_mem_cons.mpr ⟨pw_204, List.forall_mem_cons.mpr ⟨pw_206, fun _ h => absurd h List.not_mem_nil⟩⟩
theorem pcw_9 : ∀ w ∈ u_ws RX9 TX9 3, w ∈ px_W := List.forall_mem_cons.mpr ⟨pw_425, List.forall_mem_cons.mpr ⟨pw_426, List.forall_mem_cons.mpr ⟨pw_427, fun _ h => absurd h List.not_mem_nil⟩⟩⟩
theorem pcw_10 : ∀ w ∈ u_ws RX10 TX10 3, w ∈ px_W := List.forall_mem_cons.mpr ⟨pw_405, List.forall_mem_cons.mpr ⟨pw_406, List.forall_mem_cons.mpr ⟨pw_407, fun _ h => absurd h List.not_mem_nil⟩⟩⟩
theorem pcw_11 : ∀ w ∈ u_ws RX11 TX11 9, w ∈ px_W := List.forall_mem_cons.mpr ⟨pw_235, List.forall_mem_cons.mpr ⟨pw_237, List.forall_mem_cons.mpr ⟨pw_239, List.forall_mem_cons.mpr ⟨pw_241, List.forall_mem_cons.mpr ⟨pw_243, List.forall_mem_cons.mpr ⟨pw_245, List.forall_mem_cons.mpr ⟨pw_247, List.forall_mem_cons.mpr ⟨pw_249, List.forall_mem_cons.mpr ⟨pw_251, fun _ h => absurd h List.not_mem_nil⟩⟩⟩⟩⟩⟩⟩⟩⟩
theorem pcw_12 : ∀ w ∈ u_ws RX12 TX12 23, w ∈ px_W := List.forall_mem_cons.mpr ⟨pw_914, List.forall_mem_cons.mpr ⟨pw_916, List.forall_mem_cons.mpr ⟨pw_918, List.forall_mem_cons.mpr ⟨pw_920, List.forall_mem_cons.mpr ⟨pw_922, List.forall_mem_cons.mpr ⟨pw_924, List.forall_mem_cons.mpr ⟨pw_926, List.forall_mem_cons.mpr ⟨pw_928, List.forall_mem_cons.mpr ⟨pw_930, List.forall_mem_cons.mpr ⟨pw_932, List.forall_mem_cons.mpr ⟨pw_934, List.forall_mem_cons.mpr ⟨pw_936, List.forall_mem_cons.mpr ⟨pw_938, List.forall_mem_cons.mpr ⟨pw_940, List.forall_mem_cons.mpr ⟨pw_942, List.forall_mem_cons.mpr ⟨pw_944, List.forall_mem_cons.mpr ⟨pw_946, List.forall_mem_cons.mpr ⟨pw_948, List.forall_mem_cons.mpr ⟨pw_950, List.forall_mem_cons.mpr ⟨pw_952, List.forall_mem_cons.mpr ⟨pw_954, List.forall_mem_cons.mpr ⟨pw_956, List.forall_mem_cons.mpr ⟨pw_958, fun _ h => absurd h List.not_mem_nil⟩⟩⟩⟩⟩⟩⟩⟩⟩⟩⟩⟩⟩⟩⟩⟩⟩⟩⟩⟩⟩⟩⟩
theorem pcd_0 : ∀ k, k < 3 → px_dfl (tyX0 k) = defaultValue (tyX0 k) := by decide +kernel
theorem pcd_1 : ∀ k, k < 3 → px_dfl (tyX1 k) = defaultValue (tyX1 k) := by decide +kernel
theorem pcd_2 : ∀ k, k < 5 → px_dfl (tyX2 k) = defaultValue (tyX2 k) := by decide +kernel
theorem pcd_3 : ∀ k, k < 3 → px_dfl (tyX3 k) = defaultValue (tyX3 k) := by decide +kernel
theorem pcd_4 : ∀ k, k < 5 → px_dfl (tyX4 k) = defaultValue (tyX4 k) := by decide +kernel
theorem pcd_5 : ∀ k, k < 10 → px_dfl (tyX5 k) = defaultValue (tyX5 k) := by decide +kernel
theorem pcd_6 : ∀ k, k < 3 → px_dfl (tyX6 k) = defaultValue (tyX6 k) := by decide +kernel
theorem pcd_8 : ∀ k, k < 2 → px_dfl (tyX8 k) = defaultValue (tyX8 k) := by decide +kernel
theorem pcd_9 : ∀ k, k < 3 → px_dfl (tyX9 k) = defaultValue (tyX9 k) := by decide +kernel
theorem pcd_10 : ∀ k, k < 3 → px_dfl (tyX10 k) = defaultValue (tyX10 k) := by decide +kernel
theorem pcd_11 : ∀ k, k < 9 → px_dfl (tyX11 k) = defaultValue (tyX11 k) := by decide +kernel
theorem pcd_12 : ∀ k, k < 23 → px_dfl (tyX12 k) = defaultValue (tyX12 k) := by decide +kernel
theorem px_cf : px_CF := by
  intro ci r hr
  match ci, hr with
  | 0, hr => cases hr; exact ⟨pcw_0, ⟨tyX0, fun k hk => ⟨tyX0_ok k hk, pcd_0 k hk⟩⟩, nmX0, pw_410, pw_77, by decide⟩
  | 1, hr => cases hr; exact ⟨pcw_1, ⟨tyX1, fun k hk => ⟨tyX1_ok k hk, pcd_1 k hk⟩⟩, nmX1, pw_367, pw_75, by decide⟩
  | 2, hr => cases hr; exact ⟨pcw_2, ⟨tyX2, fun k hk => ⟨tyX2_ok k hk, pcd_2 k hk⟩⟩, nmX2, pw_170, pw_67, by decide⟩
  | 3, hr => cases hr; exact ⟨pcw_3, ⟨tyX3, fun k hk => ⟨tyX3_ok k hk, pcd_3 k hk⟩⟩, nmX3, pw_430, pw_74, by decide⟩
  | 4, hr => cases hr; exact ⟨pcw_4, ⟨tyX4, fun k hk => ⟨tyX4_ok k hk, pcd_4 k hk⟩⟩, nmX4, pw_92, pw_65, by decide⟩
  | 5, hr => cases hr; exact ⟨pcw_5, ⟨tyX5, fun k hk => ⟨tyX5_ok k hk, pcd_5 k hk⟩⟩, nmX5, pw_118, pw_66, by decide⟩
  | 6, hr => cases hr; exact ⟨pcw_6, ⟨tyX6, fun k hk => ⟨tyX6_ok k hk, pcd_6 k hk⟩⟩, nmX6, pw_209, pw_69, by decide⟩
  | 7, hr => cases hr; exact ⟨pcw_8, ⟨tyX8, fun k hk => ⟨tyX8_ok k hk, pcd_8 k hk⟩⟩, nmX8, pw_197, pw_68, by decide⟩
  | 8, hr => cases hr; exact ⟨pcw_9, ⟨tyX9, fun k hk => ⟨tyX9_ok k hk, pcd_9 k hk⟩⟩, nmX9, pw_420, pw_78, by decide⟩
  | 9, hr => cases hr; exact ⟨pcw_10, ⟨tyX10, fun k hk => ⟨tyX10_ok k hk, pcd_10 k hk⟩⟩, nmX10, pw_400, pw_76, by decide⟩
  | 10, hr => cases hr; exact ⟨pcw_11, ⟨tyX11, fun k hk => ⟨tyX11_ok k hk, pcd_11 k hk⟩⟩, nmX11, pw_82, pw_64, by decide⟩
  | 11, hr => cases hr; exact ⟨pcw_12, ⟨tyX12, fun k hk => ⟨tyX12_ok k hk, pcd_12 k hk⟩⟩, nmX12, pw_886, pw_70, by decide⟩
  | n + 12, hr => simp at hr
