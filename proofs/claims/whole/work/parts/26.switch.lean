/-! the switches -/
theorem i_ne {x k : Int32} {a : Int} (h : ¬ x = k) (hk : k.toInt = a) : ¬ x.toInt = a := fun q => h (Int32.toInt_inj.mp (by rw [hk]; exact q))
theorem sw_39_1 (x : Int32) : px_lsw 1 61 #[(102, 57), (108, 59), (109, 53), (112, 51), (121, 55)] x = if x = 102 then some 58 else if x = 108 then some 60 else if x = 109 then some 54 else if x = 112 then some 52 else if x = 121 then some 56 else some 62 := by
  by_cases h0 : x = 102
  · subst h0; decide
  by_cases h1 : x = 108
  · subst h1; decide
  by_cases h2 : x = 109
  · subst h2; decide
  by_cases h3 : x = 112
  · subst h3; decide
  by_cases h4 : x = 121
  · subst h4; decide
  rw [if_neg h0, if_neg h1, if_neg h2, if_neg h3, if_neg h4]
  unfold px_lsw
  rw [if_pos (by decide)]
  show px_jmp 1 (Op.lookupswitch.offset [(102, 57), (108, 59), (109, 53), (112, 51), (121, 55)] 61 x.toInt) = _
  rw [lv_osw (k := 102) h0 (by decide)]
  rw [lv_osw (k := 108) h1 (by decide)]
  rw [lv_osw (k := 109) h2 (by decide)]
  rw [lv_osw (k := 112) h3 (by decide)]
  rw [lv_osw (k := 121) h4 (by decide)]
  show px_jmp 1 61 = _
  decide
theorem sw_40_1 (x : Int32) : px_tsw 1 75 2 5 #[31, 42, 53, 64] x = if x = 2 then some 32 else if x = 3 then some 43 else if x = 4 then some 54 else if x = 5 then some 65 else some 76 := by
  by_cases h0 : x = 2
  · subst h0; decide
  by_cases h1 : x = 3
  · subst h1; decide
  by_cases h2 : x = 4
  · subst h2; decide
  by_cases h3 : x = 5
  · subst h3; decide
  rw [if_neg h0, if_neg h1, if_neg h2, if_neg h3]
  unfold px_tsw
  have g0 := i_ne h0 (a := 2) (by decide)
  have g1 := i_ne h1 (a := 3) (by decide)
  have g2 := i_ne h2 (a := 4) (by decide)
  have g3 := i_ne h3 (a := 5) (by decide)
  rw [if_pos (by omega)]
  decide
theorem sw_75_4 (x : Int32) : px_lsw 4 34 #[(0, 28), (1, 31)] x = if x = 0 then some 32 else if x = 1 then some 35 else some 38 := by
  by_cases h0 : x = 0
  · subst h0; decide
  by_cases h1 : x = 1
  · subst h1; decide
  rw [if_neg h0, if_neg h1]
  unfold px_lsw
  rw [if_pos (by decide)]
  show px_jmp 4 (Op.lookupswitch.offset [(0, 28), (1, 31)] 34 x.toInt) = _
  rw [lv_osw (k := 0) h0 (by decide)]
  rw [lv_osw (k := 1) h1 (by decide)]
  show px_jmp 4 34 = _
  decide
theorem sw_109_17 (x : Int32) : px_tsw 17 81 0 4 #[35, 40, 45, 54, 76] x = if x = 0 then some 52 else if x = 1 then some 57 else if x = 2 then some 62 else if x = 3 then some 71 else if x = 4 then some 93 else some 98 := by
  by_cases h0 : x = 0
  · subst h0; decide
  by_cases h1 : x = 1
  · subst h1; decide
  by_cases h2 : x = 2
  · subst h2; decide
  by_cases h3 : x = 3
  · subst h3; decide
  by_cases h4 : x = 4
  · subst h4; decide
  rw [if_neg h0, if_neg h1, if_neg h2, if_neg h3, if_neg h4]
  unfold px_tsw
  have g0 := i_ne h0 (a := 0) (by decide)
  have g1 := i_ne h1 (a := 1) (by decide)
  have g2 := i_ne h2 (a := 2) (by decide)
  have g3 := i_ne h3 (a := 3) (by decide)
  have g4 := i_ne h4 (a := 4) (by decide)
  rw [if_pos (by omega)]
  decide
theorem sw_110_24 (x : Int32) : px_tsw 24 64 0 2 #[28, 30, 55] x = if x = 0 then some 52 else if x = 1 then some 54 else if x = 2 then some 79 else some 88 := by
  by_cases h0 : x = 0
  · subst h0; decide
  by_cases h1 : x = 1
  · subst h1; decide
  by_cases h2 : x = 2
  · subst h2; decide
  rw [if_neg h0, if_neg h1, if_neg h2]
  unfold px_tsw
  have g0 := i_ne h0 (a := 0) (by decide)
  have g1 := i_ne h1 (a := 1) (by decide)
  have g2 := i_ne h2 (a := 2) (by decide)
  rw [if_pos (by omega)]
  decide
theorem sw_114_39 (x : Int32) : px_lsw 39 41 #[(-2, 25), (-1, 33)] x = if x = (-2) then some 64 else if x = (-1) then some 72 else some 80 := by
  by_cases h0 : x = (-2)
  · subst h0; decide
  by_cases h1 : x = (-1)
  · subst h1; decide
  rw [if_neg h0, if_neg h1]
  unfold px_lsw
  rw [if_pos (by decide)]
  show px_jmp 39 (Op.lookupswitch.offset [(-2, 25), (-1, 33)] 41 x.toInt) = _
  rw [lv_osw (k := (-2)) h0 (by decide)]
  rw [lv_osw (k := (-1)) h1 (by decide)]
  show px_jmp 39 41 = _
  decide
theorem sw_127_1 (x : Int32) : px_tsw 1 108 0 7 #[47, 52, 60, 68, 76, 84, 92, 100] x = if x = 0 then some 48 else if x = 1 then some 53 else if x = 2 then some 61 else if x = 3 then some 69 else if x = 4 then some 77 else if x = 5 then some 85 else if x = 6 then some 93 else if x = 7 then some 101 else some 109 := by
  by_cases h0 : x = 0
  · subst h0; decide
  by_cases h1 : x = 1
  · subst h1; decide
  by_cases h2 : x = 2
  · subst h2; decide
  by_cases h3 : x = 3
  · subst h3; decide
  by_cases h4 : x = 4
  · subst h4; decide
  by_cases h5 : x = 5
  · subst h5; decide
  by_cases h6 : x = 6
  · subst h6; decide
  by_cases h7 : x = 7
  · subst h7; decide
  rw [if_neg h0, if_neg h1, if_neg h2, if_neg h3, if_neg h4, if_neg h5, if_neg h6, if_neg h7]
  unfold px_tsw
  have g0 := i_ne h0 (a := 0) (by decide)
  have g1 := i_ne h1 (a := 1) (by decide)
  have g2 := i_ne h2 (a := 2) (by decide)
  have g3 := i_ne h3 (a := 3) (by decide)
  have g4 := i_ne h4 (a := 4) (by decide)
  have g5 := i_ne h5 (a := 5) (by decide)
  have g6 := i_ne h6 (a := 6) (by decide)
  have g7 := i_ne h7 (a := 7) (by decide)
  rw [if_pos (by omega)]
  decide
theorem sw_181_16 (x : Int32) : px_tsw 16 70 0 4 #[36, 36, 36, 45, 64] x = if x = 0 then some 52 else if x = 1 then some 52 else if x = 2 then some 52 else if x = 3 then some 61 else if x = 4 then some 80 else some 86 := by
  by_cases h0 : x = 0
  · subst h0; decide
  by_cases h1 : x = 1
  · subst h1; decide
  by_cases h2 : x = 2
  · subst h2; decide
  by_cases h3 : x = 3
  · subst h3; decide
  by_cases h4 : x = 4
  · subst h4; decide
  rw [if_neg h0, if_neg h1, if_neg h2, if_neg h3, if_neg h4]
  unfold px_tsw
  have g0 := i_ne h0 (a := 0) (by decide)
  have g1 := i_ne h1 (a := 1) (by decide)
  have g2 := i_ne h2 (a := 2) (by decide)
  have g3 := i_ne h3 (a := 3) (by decide)
  have g4 := i_ne h4 (a := 4) (by decide)
  rw [if_pos (by omega)]
  decide
theorem sw_221_34 (x : Int32) : px_tsw 34 88 0 7 #[46, 48, 54, 60, 66, 72, 78, 83] x = if x = 0 then some 80 else if x = 1 then some 82 else if x = 2 then some 88 else if x = 3 then some 94 else if x = 4 then some 100 else if x = 5 then some 106 else if x = 6 then some 112 else if x = 7 then some 117 else some 122 := by
  by_cases h0 : x = 0
  · subst h0; decide
  by_cases h1 : x = 1
  · subst h1; decide
  by_cases h2 : x = 2
  · subst h2; decide
  by_cases h3 : x = 3
  · subst h3; decide
  by_cases h4 : x = 4
  · subst h4; decide
  by_cases h5 : x = 5
  · subst h5; decide
  by_cases h6 : x = 6
  · subst h6; decide
  by_cases h7 : x = 7
  · subst h7; decide
  rw [if_neg h0, if_neg h1, if_neg h2, if_neg h3, if_neg h4, if_neg h5, if_neg h6, if_neg h7]
  unfold px_tsw
  have g0 := i_ne h0 (a := 0) (by decide)
  have g1 := i_ne h1 (a := 1) (by decide)
  have g2 := i_ne h2 (a := 2) (by decide)
  have g3 := i_ne h3 (a := 3) (by decide)
  have g4 := i_ne h4 (a := 4) (by decide)
  have g5 := i_ne h5 (a := 5) (by decide)
  have g6 := i_ne h6 (a := 6) (by decide)
  have g7 := i_ne h7 (a := 7) (by decide)
  rw [if_pos (by omega)]
  decide
