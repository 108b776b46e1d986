section
-- ===== PART A: goes FIRST, ahead of the names: the tables' words, and 'selects' of the private methods out of them =====
/-- a private method of a class that the tables say can be made, by its rows of tables_1 -/
def lw_okq (q : MethodName × Nat) : Prop := (q.1.cls ≠ "java/lang/invoke/MethodHandle" ∧ q.1.cls ≠ "java/lang/invoke/VarHandle") ∧ Cond.instantiable q.1.cls q.2 ∈ tables_1 ∧ Cond.privateMethod q.1 ∈ tables_1 ∧ Cond.instanceMethod q.1 ∈ tables_1
theorem lw_p0 : lw_okq (⟨"AllSworn", "rowAt", "(I)LAllSworn$Row;"⟩, 9) := ⟨⟨by decide +kernel, by decide +kernel⟩, List.mem_of_getElem? (i := 19) (by decide +kernel), List.mem_of_getElem? (i := 196) (by decide +kernel), List.mem_of_getElem? (i := 197) (by decide +kernel)⟩
theorem lw_p1 : lw_okq (⟨"AllSworn", "found", "(I)I"⟩, 9) := ⟨⟨by decide +kernel, by decide +kernel⟩, List.mem_of_getElem? (i := 19) (by decide +kernel), List.mem_of_getElem? (i := 201) (by decide +kernel), List.mem_of_getElem? (i := 202) (by decide +kernel)⟩
theorem lw_p2 : lw_okq (⟨"AllSworn", "clean", "(I)I"⟩, 9) := ⟨⟨by decide +kernel, by decide +kernel⟩, List.mem_of_getElem? (i := 19) (by decide +kernel), List.mem_of_getElem? (i := 213) (by decide +kernel), List.mem_of_getElem? (i := 214) (by decide +kernel)⟩
theorem lw_p3 : lw_okq (⟨"AllSworn$Row", "narrowed", "(I)I"⟩, 3) := ⟨⟨by decide +kernel, by decide +kernel⟩, List.mem_of_getElem? (i := 146) (by decide +kernel), List.mem_of_getElem? (i := 234) (by decide +kernel), List.mem_of_getElem? (i := 235) (by decide +kernel)⟩
theorem lw_p4 : lw_okq (⟨"AllSworn$Reader", "expect", "(C)V"⟩, 5) := ⟨⟨by decide +kernel, by decide +kernel⟩, List.mem_of_getElem? (i := 29) (by decide +kernel), List.mem_of_getElem? (i := 274) (by decide +kernel), List.mem_of_getElem? (i := 275) (by decide +kernel)⟩
theorem lw_p5 : lw_okq (⟨"AllSworn$Reader", "next", "()I"⟩, 5) := ⟨⟨by decide +kernel, by decide +kernel⟩, List.mem_of_getElem? (i := 29) (by decide +kernel), List.mem_of_getElem? (i := 278) (by decide +kernel), List.mem_of_getElem? (i := 279) (by decide +kernel)⟩
theorem lw_p6 : lw_okq (⟨"AllSworn$Reader", "note", "(II)V"⟩, 5) := ⟨⟨by decide +kernel, by decide +kernel⟩, List.mem_of_getElem? (i := 29) (by decide +kernel), List.mem_of_getElem? (i := 282) (by decide +kernel), List.mem_of_getElem? (i := 283) (by decide +kernel)⟩
theorem lw_p7 : lw_okq (⟨"AllSworn$Reader", "readNumber", "(II)I"⟩, 5) := ⟨⟨by decide +kernel, by decide +kernel⟩, List.mem_of_getElem? (i := 29) (by decide +kernel), List.mem_of_getElem? (i := 286) (by decide +kernel), List.mem_of_getElem? (i := 287) (by decide +kernel)⟩
theorem lw_p8 : lw_okq (⟨"AllSworn$Reader", "readThing", "(LAllSworn$Realm;I)V"⟩, 5) := ⟨⟨by decide +kernel, by decide +kernel⟩, List.mem_of_getElem? (i := 29) (by decide +kernel), List.mem_of_getElem? (i := 297) (by decide +kernel), List.mem_of_getElem? (i := 298) (by decide +kernel)⟩
theorem lw_p9 : lw_okq (⟨"AllSworn$Reader", "readHarm", "(LAllSworn$Realm;)V"⟩, 5) := ⟨⟨by decide +kernel, by decide +kernel⟩, List.mem_of_getElem? (i := 29) (by decide +kernel), List.mem_of_getElem? (i := 379) (by decide +kernel), List.mem_of_getElem? (i := 380) (by decide +kernel)⟩
theorem lw_p10 : lw_okq (⟨"AllSworn$Realm", "keepAct", "(I)V"⟩, 10) := ⟨⟨by decide +kernel, by decide +kernel⟩, List.mem_of_getElem? (i := 55) (by decide +kernel), List.mem_of_getElem? (i := 424) (by decide +kernel), List.mem_of_getElem? (i := 425) (by decide +kernel)⟩
theorem lw_p11 : lw_okq (⟨"AllSworn$Realm", "swear", "(II)V"⟩, 10) := ⟨⟨by decide +kernel, by decide +kernel⟩, List.mem_of_getElem? (i := 55) (by decide +kernel), List.mem_of_getElem? (i := 444) (by decide +kernel), List.mem_of_getElem? (i := 445) (by decide +kernel)⟩
theorem lw_p12 : lw_okq (⟨"AllSworn", "isAhead", "(I)Z"⟩, 9) := ⟨⟨by decide +kernel, by decide +kernel⟩, List.mem_of_getElem? (i := 19) (by decide +kernel), List.mem_of_getElem? (i := 532) (by decide +kernel), List.mem_of_getElem? (i := 533) (by decide +kernel)⟩
theorem lw_p13 : lw_okq (⟨"AllSworn$Oracle", "goOn", "(III)V"⟩, 5) := ⟨⟨by decide +kernel, by decide +kernel⟩, List.mem_of_getElem? (i := 107) (by decide +kernel), List.mem_of_getElem? (i := 584) (by decide +kernel), List.mem_of_getElem? (i := 585) (by decide +kernel)⟩
theorem lw_p14 : lw_okq (⟨"AllSworn$Oracle", "keepWay", "(II)V"⟩, 5) := ⟨⟨by decide +kernel, by decide +kernel⟩, List.mem_of_getElem? (i := 107) (by decide +kernel), List.mem_of_getElem? (i := 588) (by decide +kernel), List.mem_of_getElem? (i := 589) (by decide +kernel)⟩
theorem lw_p15 : lw_okq (⟨"AllSworn", "imageAt", "(I)LAllSworn$Realm;"⟩, 9) := ⟨⟨by decide +kernel, by decide +kernel⟩, List.mem_of_getElem? (i := 19) (by decide +kernel), List.mem_of_getElem? (i := 698) (by decide +kernel), List.mem_of_getElem? (i := 699) (by decide +kernel)⟩
def lw_privs_1 : List (MethodName × Nat) := [(⟨"AllSworn", "rowAt", "(I)LAllSworn$Row;"⟩, 9), (⟨"AllSworn", "found", "(I)I"⟩, 9), (⟨"AllSworn", "clean", "(I)I"⟩, 9), (⟨"AllSworn$Row", "narrowed", "(I)I"⟩, 3), (⟨"AllSworn$Reader", "expect", "(C)V"⟩, 5), (⟨"AllSworn$Reader", "next", "()I"⟩, 5), (⟨"AllSworn$Reader", "note", "(II)V"⟩, 5), (⟨"AllSworn$Reader", "readNumber", "(II)I"⟩, 5), (⟨"AllSworn$Reader", "readThing", "(LAllSworn$Realm;I)V"⟩, 5), (⟨"AllSworn$Reader", "readHarm", "(LAllSworn$Realm;)V"⟩, 5), (⟨"AllSworn$Realm", "keepAct", "(I)V"⟩, 10), (⟨"AllSworn$Realm", "swear", "(II)V"⟩, 10), (⟨"AllSworn", "isAhead", "(I)Z"⟩, 9), (⟨"AllSworn$Oracle", "goOn", "(III)V"⟩, 5), (⟨"AllSworn$Oracle", "keepWay", "(II)V"⟩, 5), (⟨"AllSworn", "imageAt", "(I)LAllSworn$Realm;"⟩, 9)]
theorem lw_r1 : ∀ q ∈ lw_privs_1, lw_okq q := List.forall_mem_cons.mpr ⟨lw_p0, List.forall_mem_cons.mpr ⟨lw_p1, List.forall_mem_cons.mpr ⟨lw_p2, List.forall_mem_cons.mpr ⟨lw_p3, List.forall_mem_cons.mpr ⟨lw_p4, List.forall_mem_cons.mpr ⟨lw_p5, List.forall_mem_cons.mpr ⟨lw_p6, List.forall_mem_cons.mpr ⟨lw_p7, List.forall_mem_cons.mpr ⟨lw_p8, List.forall_mem_cons.mpr ⟨lw_p9, List.forall_mem_cons.mpr ⟨lw_p10, List.forall_mem_cons.mpr ⟨lw_p11, List.forall_mem_cons.mpr ⟨lw_p12, List.forall_mem_cons.mpr ⟨lw_p13, List.forall_mem_cons.mpr ⟨lw_p14, List.forall_mem_cons.mpr ⟨lw_p15, fun _ h => absurd h List.not_mem_nil⟩⟩⟩⟩⟩⟩⟩⟩⟩⟩⟩⟩⟩⟩⟩⟩
theorem lw_p16 : lw_okq (⟨"AllSworn", "rowsThere", "()I"⟩, 9) := ⟨⟨by decide +kernel, by decide +kernel⟩, List.mem_of_getElem? (i := 19) (by decide +kernel), List.mem_of_getElem? (i := 815) (by decide +kernel), List.mem_of_getElem? (i := 816) (by decide +kernel)⟩
theorem lw_p17 : lw_okq (⟨"AllSwornModel", "finds", "(I)I"⟩, 23) := ⟨⟨by decide +kernel, by decide +kernel⟩, List.mem_of_getElem? (i := 823) (by decide +kernel), List.mem_of_getElem? (i := 912) (by decide +kernel), List.mem_of_getElem? (i := 913) (by decide +kernel)⟩
theorem lw_p18 : lw_okq (⟨"AllSwornModel", "well", "(I)I"⟩, 23) := ⟨⟨by decide +kernel, by decide +kernel⟩, List.mem_of_getElem? (i := 823) (by decide +kernel), List.mem_of_getElem? (i := 917) (by decide +kernel), List.mem_of_getElem? (i := 918) (by decide +kernel)⟩
theorem lw_p19 : lw_okq (⟨"AllSwornModel", "put", "(II)V"⟩, 23) := ⟨⟨by decide +kernel, by decide +kernel⟩, List.mem_of_getElem? (i := 823) (by decide +kernel), List.mem_of_getElem? (i := 946) (by decide +kernel), List.mem_of_getElem? (i := 947) (by decide +kernel)⟩
theorem lw_p20 : lw_okq (⟨"AllSwornModel", "next", "()V"⟩, 23) := ⟨⟨by decide +kernel, by decide +kernel⟩, List.mem_of_getElem? (i := 823) (by decide +kernel), List.mem_of_getElem? (i := 950) (by decide +kernel), List.mem_of_getElem? (i := 951) (by decide +kernel)⟩
theorem lw_p21 : lw_okq (⟨"AllSwornModel", "here", "()I"⟩, 23) := ⟨⟨by decide +kernel, by decide +kernel⟩, List.mem_of_getElem? (i := 823) (by decide +kernel), List.mem_of_getElem? (i := 954) (by decide +kernel), List.mem_of_getElem? (i := 955) (by decide +kernel)⟩
theorem lw_p22 : lw_okq (⟨"AllSwornModel", "sign", "(I)V"⟩, 23) := ⟨⟨by decide +kernel, by decide +kernel⟩, List.mem_of_getElem? (i := 823) (by decide +kernel), List.mem_of_getElem? (i := 958) (by decide +kernel), List.mem_of_getElem? (i := 959) (by decide +kernel)⟩
theorem lw_p23 : lw_okq (⟨"AllSwornModel", "fails", "(I)V"⟩, 23) := ⟨⟨by decide +kernel, by decide +kernel⟩, List.mem_of_getElem? (i := 823) (by decide +kernel), List.mem_of_getElem? (i := 962) (by decide +kernel), List.mem_of_getElem? (i := 963) (by decide +kernel)⟩
theorem lw_p24 : lw_okq (⟨"AllSwornModel", "number", "(III)I"⟩, 23) := ⟨⟨by decide +kernel, by decide +kernel⟩, List.mem_of_getElem? (i := 823) (by decide +kernel), List.mem_of_getElem? (i := 966) (by decide +kernel), List.mem_of_getElem? (i := 967) (by decide +kernel)⟩
theorem lw_p25 : lw_okq (⟨"AllSwornModel", "numberBut", "(III)I"⟩, 23) := ⟨⟨by decide +kernel, by decide +kernel⟩, List.mem_of_getElem? (i := 823) (by decide +kernel), List.mem_of_getElem? (i := 970) (by decide +kernel), List.mem_of_getElem? (i := 971) (by decide +kernel)⟩
theorem lw_p26 : lw_okq (⟨"AllSwornModel", "readThing", "()V"⟩, 23) := ⟨⟨by decide +kernel, by decide +kernel⟩, List.mem_of_getElem? (i := 823) (by decide +kernel), List.mem_of_getElem? (i := 977) (by decide +kernel), List.mem_of_getElem? (i := 978) (by decide +kernel)⟩
theorem lw_p27 : lw_okq (⟨"AllSwornModel", "get", "(I)I"⟩, 23) := ⟨⟨by decide +kernel, by decide +kernel⟩, List.mem_of_getElem? (i := 823) (by decide +kernel), List.mem_of_getElem? (i := 981) (by decide +kernel), List.mem_of_getElem? (i := 982) (by decide +kernel)⟩
theorem lw_p28 : lw_okq (⟨"AllSwornModel", "readHarm", "()V"⟩, 23) := ⟨⟨by decide +kernel, by decide +kernel⟩, List.mem_of_getElem? (i := 823) (by decide +kernel), List.mem_of_getElem? (i := 986) (by decide +kernel), List.mem_of_getElem? (i := 987) (by decide +kernel)⟩
theorem lw_p29 : lw_okq (⟨"AllSwornModel", "copyRealm", "(II)V"⟩, 23) := ⟨⟨by decide +kernel, by decide +kernel⟩, List.mem_of_getElem? (i := 823) (by decide +kernel), List.mem_of_getElem? (i := 991) (by decide +kernel), List.mem_of_getElem? (i := 992) (by decide +kernel)⟩
theorem lw_p30 : lw_okq (⟨"AllSwornModel", "isThing", "(I)Z"⟩, 23) := ⟨⟨by decide +kernel, by decide +kernel⟩, List.mem_of_getElem? (i := 823) (by decide +kernel), List.mem_of_getElem? (i := 1003) (by decide +kernel), List.mem_of_getElem? (i := 1004) (by decide +kernel)⟩
theorem lw_p31 : lw_okq (⟨"AllSwornModel", "wayOf", "(I)I"⟩, 23) := ⟨⟨by decide +kernel, by decide +kernel⟩, List.mem_of_getElem? (i := 823) (by decide +kernel), List.mem_of_getElem? (i := 1007) (by decide +kernel), List.mem_of_getElem? (i := 1008) (by decide +kernel)⟩
def lw_privs_2 : List (MethodName × Nat) := [(⟨"AllSworn", "rowsThere", "()I"⟩, 9), (⟨"AllSwornModel", "finds", "(I)I"⟩, 23), (⟨"AllSwornModel", "well", "(I)I"⟩, 23), (⟨"AllSwornModel", "put", "(II)V"⟩, 23), (⟨"AllSwornModel", "next", "()V"⟩, 23), (⟨"AllSwornModel", "here", "()I"⟩, 23), (⟨"AllSwornModel", "sign", "(I)V"⟩, 23), (⟨"AllSwornModel", "fails", "(I)V"⟩, 23), (⟨"AllSwornModel", "number", "(III)I"⟩, 23), (⟨"AllSwornModel", "numberBut", "(III)I"⟩, 23), (⟨"AllSwornModel", "readThing", "()V"⟩, 23), (⟨"AllSwornModel", "get", "(I)I"⟩, 23), (⟨"AllSwornModel", "readHarm", "()V"⟩, 23), (⟨"AllSwornModel", "copyRealm", "(II)V"⟩, 23), (⟨"AllSwornModel", "isThing", "(I)Z"⟩, 23), (⟨"AllSwornModel", "wayOf", "(I)I"⟩, 23)]
theorem lw_r2 : ∀ q ∈ lw_privs_2, lw_okq q := List.forall_mem_cons.mpr ⟨lw_p16, List.forall_mem_cons.mpr ⟨lw_p17, List.forall_mem_cons.mpr ⟨lw_p18, List.forall_mem_cons.mpr ⟨lw_p19, List.forall_mem_cons.mpr ⟨lw_p20, List.forall_mem_cons.mpr ⟨lw_p21, List.forall_mem_cons.mpr ⟨lw_p22, List.forall_mem_cons.mpr ⟨lw_p23, List.forall_mem_cons.mpr ⟨lw_p24, List.forall_mem_cons.mpr ⟨lw_p25, List.forall_mem_cons.mpr ⟨lw_p26, List.forall_mem_cons.mpr ⟨lw_p27, List.forall_mem_cons.mpr ⟨lw_p28, List.forall_mem_cons.mpr ⟨lw_p29, List.forall_mem_cons.mpr ⟨lw_p30, List.forall_mem_cons.mpr ⟨lw_p31, fun _ h => absurd h List.not_mem_nil⟩⟩⟩⟩⟩⟩⟩⟩⟩⟩⟩⟩⟩⟩⟩⟩
theorem lw_p32 : lw_okq (⟨"AllSwornModel", "ofThing", "(II)I"⟩, 23) := ⟨⟨by decide +kernel, by decide +kernel⟩, List.mem_of_getElem? (i := 823) (by decide +kernel), List.mem_of_getElem? (i := 1011) (by decide +kernel), List.mem_of_getElem? (i := 1012) (by decide +kernel)⟩
theorem lw_p33 : lw_okq (⟨"AllSwornModel", "know", "(I)V"⟩, 23) := ⟨⟨by decide +kernel, by decide +kernel⟩, List.mem_of_getElem? (i := 823) (by decide +kernel), List.mem_of_getElem? (i := 1015) (by decide +kernel), List.mem_of_getElem? (i := 1016) (by decide +kernel)⟩
theorem lw_p34 : lw_okq (⟨"AllSwornModel", "wouldSwear", "(II)Z"⟩, 23) := ⟨⟨by decide +kernel, by decide +kernel⟩, List.mem_of_getElem? (i := 823) (by decide +kernel), List.mem_of_getElem? (i := 1019) (by decide +kernel), List.mem_of_getElem? (i := 1020) (by decide +kernel)⟩
theorem lw_p35 : lw_okq (⟨"AllSwornModel", "isHarm", "(I)Z"⟩, 23) := ⟨⟨by decide +kernel, by decide +kernel⟩, List.mem_of_getElem? (i := 823) (by decide +kernel), List.mem_of_getElem? (i := 1027) (by decide +kernel), List.mem_of_getElem? (i := 1028) (by decide +kernel)⟩
theorem lw_p36 : lw_okq (⟨"AllSwornModel", "openAsSworn", "(I)I"⟩, 23) := ⟨⟨by decide +kernel, by decide +kernel⟩, List.mem_of_getElem? (i := 823) (by decide +kernel), List.mem_of_getElem? (i := 1031) (by decide +kernel), List.mem_of_getElem? (i := 1032) (by decide +kernel)⟩
theorem lw_p37 : lw_okq (⟨"AllSwornModel", "asSworn", "()V"⟩, 23) := ⟨⟨by decide +kernel, by decide +kernel⟩, List.mem_of_getElem? (i := 823) (by decide +kernel), List.mem_of_getElem? (i := 1035) (by decide +kernel), List.mem_of_getElem? (i := 1036) (by decide +kernel)⟩
theorem lw_p38 : lw_okq (⟨"AllSwornModel", "openOn", "(I)I"⟩, 23) := ⟨⟨by decide +kernel, by decide +kernel⟩, List.mem_of_getElem? (i := 823) (by decide +kernel), List.mem_of_getElem? (i := 1039) (by decide +kernel), List.mem_of_getElem? (i := 1040) (by decide +kernel)⟩
theorem lw_p39 : lw_okq (⟨"AllSwornModel", "boundOn", "(II)I"⟩, 23) := ⟨⟨by decide +kernel, by decide +kernel⟩, List.mem_of_getElem? (i := 823) (by decide +kernel), List.mem_of_getElem? (i := 1043) (by decide +kernel), List.mem_of_getElem? (i := 1044) (by decide +kernel)⟩
theorem lw_p40 : lw_okq (⟨"AllSwornModel", "openBy", "(I)I"⟩, 23) := ⟨⟨by decide +kernel, by decide +kernel⟩, List.mem_of_getElem? (i := 823) (by decide +kernel), List.mem_of_getElem? (i := 1047) (by decide +kernel), List.mem_of_getElem? (i := 1048) (by decide +kernel)⟩
theorem lw_p41 : lw_okq (⟨"AllSwornModel", "hasRealm", "()Z"⟩, 23) := ⟨⟨by decide +kernel, by decide +kernel⟩, List.mem_of_getElem? (i := 823) (by decide +kernel), List.mem_of_getElem? (i := 1055) (by decide +kernel), List.mem_of_getElem? (i := 1056) (by decide +kernel)⟩
theorem lw_p42 : lw_okq (⟨"AllSwornModel", "sumOf", "(I)I"⟩, 23) := ⟨⟨by decide +kernel, by decide +kernel⟩, List.mem_of_getElem? (i := 823) (by decide +kernel), List.mem_of_getElem? (i := 1072) (by decide +kernel), List.mem_of_getElem? (i := 1073) (by decide +kernel)⟩
theorem lw_p43 : lw_okq (⟨"AllSwornModel", "isDay", "(I)Z"⟩, 23) := ⟨⟨by decide +kernel, by decide +kernel⟩, List.mem_of_getElem? (i := 823) (by decide +kernel), List.mem_of_getElem? (i := 1080) (by decide +kernel), List.mem_of_getElem? (i := 1081) (by decide +kernel)⟩
theorem lw_p44 : lw_okq (⟨"AllSwornModel", "covers", "(I)Z"⟩, 23) := ⟨⟨by decide +kernel, by decide +kernel⟩, List.mem_of_getElem? (i := 823) (by decide +kernel), List.mem_of_getElem? (i := 1095) (by decide +kernel), List.mem_of_getElem? (i := 1096) (by decide +kernel)⟩
theorem lw_p45 : lw_okq (⟨"AllSwornModel", "goesRound", "(II)Z"⟩, 23) := ⟨⟨by decide +kernel, by decide +kernel⟩, List.mem_of_getElem? (i := 823) (by decide +kernel), List.mem_of_getElem? (i := 1103) (by decide +kernel), List.mem_of_getElem? (i := 1104) (by decide +kernel)⟩
theorem lw_p46 : lw_okq (⟨"AllSwornModel", "cheapestOf", "(I)I"⟩, 23) := ⟨⟨by decide +kernel, by decide +kernel⟩, List.mem_of_getElem? (i := 823) (by decide +kernel), List.mem_of_getElem? (i := 1111) (by decide +kernel), List.mem_of_getElem? (i := 1112) (by decide +kernel)⟩
theorem lw_p47 : lw_okq (⟨"AllSwornModel", "dearBy", "(II)I"⟩, 23) := ⟨⟨by decide +kernel, by decide +kernel⟩, List.mem_of_getElem? (i := 823) (by decide +kernel), List.mem_of_getElem? (i := 1119) (by decide +kernel), List.mem_of_getElem? (i := 1120) (by decide +kernel)⟩
def lw_privs_3 : List (MethodName × Nat) := [(⟨"AllSwornModel", "ofThing", "(II)I"⟩, 23), (⟨"AllSwornModel", "know", "(I)V"⟩, 23), (⟨"AllSwornModel", "wouldSwear", "(II)Z"⟩, 23), (⟨"AllSwornModel", "isHarm", "(I)Z"⟩, 23), (⟨"AllSwornModel", "openAsSworn", "(I)I"⟩, 23), (⟨"AllSwornModel", "asSworn", "()V"⟩, 23), (⟨"AllSwornModel", "openOn", "(I)I"⟩, 23), (⟨"AllSwornModel", "boundOn", "(II)I"⟩, 23), (⟨"AllSwornModel", "openBy", "(I)I"⟩, 23), (⟨"AllSwornModel", "hasRealm", "()Z"⟩, 23), (⟨"AllSwornModel", "sumOf", "(I)I"⟩, 23), (⟨"AllSwornModel", "isDay", "(I)Z"⟩, 23), (⟨"AllSwornModel", "covers", "(I)Z"⟩, 23), (⟨"AllSwornModel", "goesRound", "(II)Z"⟩, 23), (⟨"AllSwornModel", "cheapestOf", "(I)I"⟩, 23), (⟨"AllSwornModel", "dearBy", "(II)I"⟩, 23)]
theorem lw_r3 : ∀ q ∈ lw_privs_3, lw_okq q := List.forall_mem_cons.mpr ⟨lw_p32, List.forall_mem_cons.mpr ⟨lw_p33, List.forall_mem_cons.mpr ⟨lw_p34, List.forall_mem_cons.mpr ⟨lw_p35, List.forall_mem_cons.mpr ⟨lw_p36, List.forall_mem_cons.mpr ⟨lw_p37, List.forall_mem_cons.mpr ⟨lw_p38, List.forall_mem_cons.mpr ⟨lw_p39, List.forall_mem_cons.mpr ⟨lw_p40, List.forall_mem_cons.mpr ⟨lw_p41, List.forall_mem_cons.mpr ⟨lw_p42, List.forall_mem_cons.mpr ⟨lw_p43, List.forall_mem_cons.mpr ⟨lw_p44, List.forall_mem_cons.mpr ⟨lw_p45, List.forall_mem_cons.mpr ⟨lw_p46, List.forall_mem_cons.mpr ⟨lw_p47, fun _ h => absurd h List.not_mem_nil⟩⟩⟩⟩⟩⟩⟩⟩⟩⟩⟩⟩⟩⟩⟩⟩
theorem lw_p48 : lw_okq (⟨"AllSwornModel", "ofKinds", "(I)I"⟩, 23) := ⟨⟨by decide +kernel, by decide +kernel⟩, List.mem_of_getElem? (i := 823) (by decide +kernel), List.mem_of_getElem? (i := 1127) (by decide +kernel), List.mem_of_getElem? (i := 1128) (by decide +kernel)⟩
theorem lw_p49 : lw_okq (⟨"AllSwornModel", "sizeOf", "(I)I"⟩, 23) := ⟨⟨by decide +kernel, by decide +kernel⟩, List.mem_of_getElem? (i := 823) (by decide +kernel), List.mem_of_getElem? (i := 1166) (by decide +kernel), List.mem_of_getElem? (i := 1167) (by decide +kernel)⟩
theorem lw_p50 : lw_okq (⟨"AllSwornModel", "size12", "(I)I"⟩, 23) := ⟨⟨by decide +kernel, by decide +kernel⟩, List.mem_of_getElem? (i := 823) (by decide +kernel), List.mem_of_getElem? (i := 1170) (by decide +kernel), List.mem_of_getElem? (i := 1171) (by decide +kernel)⟩
theorem lw_p51 : lw_okq (⟨"AllSwornModel", "leaves", "(I)V"⟩, 23) := ⟨⟨by decide +kernel, by decide +kernel⟩, List.mem_of_getElem? (i := 823) (by decide +kernel), List.mem_of_getElem? (i := 1174) (by decide +kernel), List.mem_of_getElem? (i := 1175) (by decide +kernel)⟩
theorem lw_p52 : lw_okq (⟨"AllSwornModel", "size11", "(I)I"⟩, 23) := ⟨⟨by decide +kernel, by decide +kernel⟩, List.mem_of_getElem? (i := 823) (by decide +kernel), List.mem_of_getElem? (i := 1178) (by decide +kernel), List.mem_of_getElem? (i := 1179) (by decide +kernel)⟩
theorem lw_p53 : lw_okq (⟨"AllSwornModel", "size10", "(I)I"⟩, 23) := ⟨⟨by decide +kernel, by decide +kernel⟩, List.mem_of_getElem? (i := 823) (by decide +kernel), List.mem_of_getElem? (i := 1182) (by decide +kernel), List.mem_of_getElem? (i := 1183) (by decide +kernel)⟩
theorem lw_p54 : lw_okq (⟨"AllSwornModel", "markOf", "(I)I"⟩, 23) := ⟨⟨by decide +kernel, by decide +kernel⟩, List.mem_of_getElem? (i := 823) (by decide +kernel), List.mem_of_getElem? (i := 1186) (by decide +kernel), List.mem_of_getElem? (i := 1187) (by decide +kernel)⟩
theorem lw_p55 : lw_okq (⟨"AllSwornModel", "mark21", "(I)I"⟩, 23) := ⟨⟨by decide +kernel, by decide +kernel⟩, List.mem_of_getElem? (i := 823) (by decide +kernel), List.mem_of_getElem? (i := 1190) (by decide +kernel), List.mem_of_getElem? (i := 1191) (by decide +kernel)⟩
theorem lw_p56 : lw_okq (⟨"AllSwornModel", "mark20", "(I)I"⟩, 23) := ⟨⟨by decide +kernel, by decide +kernel⟩, List.mem_of_getElem? (i := 823) (by decide +kernel), List.mem_of_getElem? (i := 1194) (by decide +kernel), List.mem_of_getElem? (i := 1195) (by decide +kernel)⟩
theorem lw_p57 : lw_okq (⟨"AllSwornModel", "inHarms", "(I)I"⟩, 23) := ⟨⟨by decide +kernel, by decide +kernel⟩, List.mem_of_getElem? (i := 823) (by decide +kernel), List.mem_of_getElem? (i := 1198) (by decide +kernel), List.mem_of_getElem? (i := 1199) (by decide +kernel)⟩
theorem lw_p58 : lw_okq (⟨"AllSwornModel", "mark24", "(I)I"⟩, 23) := ⟨⟨by decide +kernel, by decide +kernel⟩, List.mem_of_getElem? (i := 823) (by decide +kernel), List.mem_of_getElem? (i := 1202) (by decide +kernel), List.mem_of_getElem? (i := 1203) (by decide +kernel)⟩
theorem lw_p59 : lw_okq (⟨"AllSwornModel", "mark22", "(I)I"⟩, 23) := ⟨⟨by decide +kernel, by decide +kernel⟩, List.mem_of_getElem? (i := 823) (by decide +kernel), List.mem_of_getElem? (i := 1206) (by decide +kernel), List.mem_of_getElem? (i := 1207) (by decide +kernel)⟩
theorem lw_p60 : lw_okq (⟨"AllSwornModel", "mark23", "(I)I"⟩, 23) := ⟨⟨by decide +kernel, by decide +kernel⟩, List.mem_of_getElem? (i := 823) (by decide +kernel), List.mem_of_getElem? (i := 1210) (by decide +kernel), List.mem_of_getElem? (i := 1211) (by decide +kernel)⟩
theorem lw_p61 : lw_okq (⟨"AllSwornModel", "size14", "(I)I"⟩, 23) := ⟨⟨by decide +kernel, by decide +kernel⟩, List.mem_of_getElem? (i := 823) (by decide +kernel), List.mem_of_getElem? (i := 1214) (by decide +kernel), List.mem_of_getElem? (i := 1215) (by decide +kernel)⟩
theorem lw_p62 : lw_okq (⟨"AllSwornModel", "size13", "(I)I"⟩, 23) := ⟨⟨by decide +kernel, by decide +kernel⟩, List.mem_of_getElem? (i := 823) (by decide +kernel), List.mem_of_getElem? (i := 1218) (by decide +kernel), List.mem_of_getElem? (i := 1219) (by decide +kernel)⟩
def lw_privs_4 : List (MethodName × Nat) := [(⟨"AllSwornModel", "ofKinds", "(I)I"⟩, 23), (⟨"AllSwornModel", "sizeOf", "(I)I"⟩, 23), (⟨"AllSwornModel", "size12", "(I)I"⟩, 23), (⟨"AllSwornModel", "leaves", "(I)V"⟩, 23), (⟨"AllSwornModel", "size11", "(I)I"⟩, 23), (⟨"AllSwornModel", "size10", "(I)I"⟩, 23), (⟨"AllSwornModel", "markOf", "(I)I"⟩, 23), (⟨"AllSwornModel", "mark21", "(I)I"⟩, 23), (⟨"AllSwornModel", "mark20", "(I)I"⟩, 23), (⟨"AllSwornModel", "inHarms", "(I)I"⟩, 23), (⟨"AllSwornModel", "mark24", "(I)I"⟩, 23), (⟨"AllSwornModel", "mark22", "(I)I"⟩, 23), (⟨"AllSwornModel", "mark23", "(I)I"⟩, 23), (⟨"AllSwornModel", "size14", "(I)I"⟩, 23), (⟨"AllSwornModel", "size13", "(I)I"⟩, 23)]
theorem lw_r4 : ∀ q ∈ lw_privs_4, lw_okq q := List.forall_mem_cons.mpr ⟨lw_p48, List.forall_mem_cons.mpr ⟨lw_p49, List.forall_mem_cons.mpr ⟨lw_p50, List.forall_mem_cons.mpr ⟨lw_p51, List.forall_mem_cons.mpr ⟨lw_p52, List.forall_mem_cons.mpr ⟨lw_p53, List.forall_mem_cons.mpr ⟨lw_p54, List.forall_mem_cons.mpr ⟨lw_p55, List.forall_mem_cons.mpr ⟨lw_p56, List.forall_mem_cons.mpr ⟨lw_p57, List.forall_mem_cons.mpr ⟨lw_p58, List.forall_mem_cons.mpr ⟨lw_p59, List.forall_mem_cons.mpr ⟨lw_p60, List.forall_mem_cons.mpr ⟨lw_p61, List.forall_mem_cons.mpr ⟨lw_p62, fun _ h => absurd h List.not_mem_nil⟩⟩⟩⟩⟩⟩⟩⟩⟩⟩⟩⟩⟩⟩⟩
def lw_privs : List (MethodName × Nat) := lw_privs_1 ++ (lw_privs_2 ++ (lw_privs_3 ++ (lw_privs_4)))
def lw_tbl : List Cond := k2_sels lw_privs ++ tables_1
theorem lw_privs_ok : ∀ q ∈ lw_privs, lw_okq q := by
  show ∀ q ∈ lw_privs_1 ++ (lw_privs_2 ++ (lw_privs_3 ++ (lw_privs_4))), lw_okq q
  exact List.forall_mem_append.mpr ⟨lw_r1, List.forall_mem_append.mpr ⟨lw_r2, List.forall_mem_append.mpr ⟨lw_r3, lw_r4⟩⟩⟩
end
section
/-! ===== BEGIN printed: names, fields, word lists, decode rows ===== -/
def RX0 : String := "AllSworn$Foreign"
def TX0 : u_T := fun k => match k with
  | 0 => ("AllSworn$Thing", "number", "I", true)
  | 1 => ("AllSworn$Thing", "far", "I", true)
  | _ => ("AllSworn$Thing", "price", "I", true)
def tyX0 : Nat → FieldType := fun k => match k with
  | 0 => .int
  | 1 => .int
  | _ => .int
abbrev wsX00 : List Cond := u_ws RX0 TX0 3
theorem nmX0 : ∀ a, a < 3 → ∀ b, b < 3 → a ≠ b → (TX0 a).2.1 ≠ (TX0 b).2.1 := by decide +kernel
theorem tyX0_ok : ∀ k, k < 3 → parseFieldDescriptor (TX0 k).2.2.1 = some (tyX0 k) := by decide +kernel
abbrev cX0_init : ByteArray := prog_2_method_1_code
def yX0_init : MethodName := ⟨RX0, "<init>", "(III)V"⟩
abbrev cX0_toldKind : ByteArray := prog_2_method_2_code
def yX0_toldKind : MethodName := ⟨RX0, "toldKind", "()I"⟩
abbrev cX0_isOf : ByteArray := prog_2_method_3_code
def yX0_isOf : MethodName := ⟨RX0, "isOf", "(I)Z"⟩
abbrev cX0_daysToAsk : ByteArray := prog_2_method_4_code
def yX0_daysToAsk : MethodName := ⟨RX0, "daysToAsk", "()I"⟩
abbrev cX0_size : ByteArray := prog_2_method_5_code
def yX0_size : MethodName := ⟨RX0, "size", "(LAllSworn$Trace;LAllSworn$Realm;)I"⟩
abbrev cX0_mark : ByteArray := prog_2_method_6_code
def yX0_mark : MethodName := ⟨RX0, "mark", "(LAllSworn$Trace;LAllSworn$Realm;)I"⟩
def RX1 : String := "AllSworn$Mixed"
def TX1 : u_T := fun k => match k with
  | 0 => ("AllSworn$Thing", "number", "I", true)
  | 1 => ("AllSworn$Thing", "far", "I", true)
  | _ => ("AllSworn$Thing", "price", "I", true)
def tyX1 : Nat → FieldType := fun k => match k with
  | 0 => .int
  | 1 => .int
  | _ => .int
abbrev wsX10 : List Cond := u_ws RX1 TX1 3
theorem nmX1 : ∀ a, a < 3 → ∀ b, b < 3 → a ≠ b → (TX1 a).2.1 ≠ (TX1 b).2.1 := by decide +kernel
theorem tyX1_ok : ∀ k, k < 3 → parseFieldDescriptor (TX1 k).2.2.1 = some (tyX1 k) := by decide +kernel
abbrev cX1_init : ByteArray := prog_3_method_1_code
def yX1_init : MethodName := ⟨RX1, "<init>", "(III)V"⟩
abbrev cX1_toldKind : ByteArray := prog_3_method_2_code
def yX1_toldKind : MethodName := ⟨RX1, "toldKind", "()I"⟩
abbrev cX1_isOf : ByteArray := prog_3_method_3_code
def yX1_isOf : MethodName := ⟨RX1, "isOf", "(I)Z"⟩
abbrev cX1_isHeldBy : ByteArray := prog_3_method_4_code
def yX1_isHeldBy : MethodName := ⟨RX1, "isHeldBy", "(I)Z"⟩
abbrev cX1_size : ByteArray := prog_3_method_5_code
def yX1_size : MethodName := ⟨RX1, "size", "(LAllSworn$Trace;LAllSworn$Realm;)I"⟩
abbrev cX1_mark : ByteArray := prog_3_method_6_code
def yX1_mark : MethodName := ⟨RX1, "mark", "(LAllSworn$Trace;LAllSworn$Realm;)I"⟩
def RX2 : String := "AllSworn$Oracle"
def TX2 : u_T := fun k => match k with
  | 0 => ("AllSworn$Oracle", "dream", "LAllSworn$Realm;", true)
  | 1 => ("AllSworn$Oracle", "way", "[I", true)
  | 2 => ("AllSworn$Oracle", "bestWay", "[I", true)
  | 3 => ("AllSworn$Oracle", "bestDays", "I", false)
  | _ => ("AllSworn$Oracle", "bestLength", "I", false)
def tyX2 : Nat → FieldType := fun k => match k with
  | 0 => .object "AllSworn$Realm"
  | 1 => .array .int
  | 2 => .array .int
  | 3 => .int
  | _ => .int
abbrev wsX20 : List Cond := u_ws RX2 TX2 5
theorem nmX2 : ∀ a, a < 5 → ∀ b, b < 5 → a ≠ b → (TX2 a).2.1 ≠ (TX2 b).2.1 := by decide +kernel
theorem tyX2_ok : ∀ k, k < 5 → parseFieldDescriptor (TX2 k).2.2.1 = some (tyX2 k) := by decide +kernel
abbrev cX2_init : ByteArray := prog_4_method_1_code
def yX2_init : MethodName := ⟨RX2, "<init>", "()V"⟩
abbrev cX2_firstGap : ByteArray := prog_4_method_2_code
def yX2_firstGap : MethodName := ⟨RX2, "firstGap", "(LAllSworn$Realm;)I"⟩
abbrev cX2_leastCover : ByteArray := prog_4_method_3_code
def yX2_leastCover : MethodName := ⟨RX2, "leastCover", "(LAllSworn$Realm;)I"⟩
abbrev cX2_willingOn : ByteArray := prog_4_method_4_code
def yX2_willingOn : MethodName := ⟨RX2, "willingOn", "(LAllSworn$Realm;I)I"⟩
abbrev cX2_seekRound : ByteArray := prog_4_method_5_code
def yX2_seekRound : MethodName := ⟨RX2, "seekRound", "(LAllSworn$Realm;)V"⟩
abbrev cX2_goOn : ByteArray := prog_4_method_6_code
def yX2_goOn : MethodName := ⟨RX2, "goOn", "(III)V"⟩
abbrev cX2_keepWay : ByteArray := prog_4_method_7_code
def yX2_keepWay : MethodName := ⟨RX2, "keepWay", "(II)V"⟩
abbrev cX2_bestStop : ByteArray := prog_4_method_8_code
def yX2_bestStop : MethodName := ⟨RX2, "bestStop", "(I)I"⟩
abbrev cX2_bestDefence : ByteArray := prog_4_method_9_code
def yX2_bestDefence : MethodName := ⟨RX2, "bestDefence", "(LAllSworn$Realm;I)I"⟩
abbrev cX2_priceBehind : ByteArray := prog_4_method_10_code
def yX2_priceBehind : MethodName := ⟨RX2, "priceBehind", "(LAllSworn$Realm;LAllSworn$Thing;I)I"⟩
abbrev cX2_leastKinds : ByteArray := prog_4_method_11_code
def yX2_leastKinds : MethodName := ⟨RX2, "leastKinds", "(LAllSworn$Realm;)I"⟩
abbrev cX2_suspects : ByteArray := prog_4_method_12_code
def yX2_suspects : MethodName := ⟨RX2, "suspects", "(LAllSworn$Realm;LAllSworn$Row;II)I"⟩
abbrev cX2_leastTerm : ByteArray := prog_4_method_13_code
def yX2_leastTerm : MethodName := ⟨RX2, "leastTerm", "(LAllSworn$Realm;)I"⟩
def RX3 : String := "AllSworn$Plain"
def TX3 : u_T := fun k => match k with
  | 0 => ("AllSworn$Thing", "number", "I", true)
  | 1 => ("AllSworn$Thing", "far", "I", true)
  | _ => ("AllSworn$Thing", "price", "I", true)
def tyX3 : Nat → FieldType := fun k => match k with
  | 0 => .int
  | 1 => .int
  | _ => .int
abbrev wsX30 : List Cond := u_ws RX3 TX3 3
theorem nmX3 : ∀ a, a < 3 → ∀ b, b < 3 → a ≠ b → (TX3 a).2.1 ≠ (TX3 b).2.1 := by decide +kernel
theorem tyX3_ok : ∀ k, k < 3 → parseFieldDescriptor (TX3 k).2.2.1 = some (tyX3 k) := by decide +kernel
abbrev cX3_init : ByteArray := prog_5_method_1_code
def yX3_init : MethodName := ⟨RX3, "<init>", "(III)V"⟩
abbrev cX3_toldKind : ByteArray := prog_5_method_2_code
def yX3_toldKind : MethodName := ⟨RX3, "toldKind", "()I"⟩
abbrev cX3_isOf : ByteArray := prog_5_method_3_code
def yX3_isOf : MethodName := ⟨RX3, "isOf", "(I)Z"⟩
abbrev cX3_size : ByteArray := prog_5_method_4_code
def yX3_size : MethodName := ⟨RX3, "size", "(LAllSworn$Trace;LAllSworn$Realm;)I"⟩
abbrev cX3_mark : ByteArray := prog_5_method_5_code
def yX3_mark : MethodName := ⟨RX3, "mark", "(LAllSworn$Trace;LAllSworn$Realm;)I"⟩
def RX4 : String := "AllSworn$Reader"
def TX4 : u_T := fun k => match k with
  | 0 => ("AllSworn$Reader", "tape", "[I", true)
  | 1 => ("AllSworn$Reader", "length", "I", false)
  | 2 => ("AllSworn$Reader", "at", "I", false)
  | 3 => ("AllSworn$Reader", "wrong", "I", false)
  | _ => ("AllSworn$Reader", "wrongPlace", "I", false)
def tyX4 : Nat → FieldType := fun k => match k with
  | 0 => .array .int
  | 1 => .int
  | 2 => .int
  | 3 => .int
  | _ => .int
abbrev wsX40 : List Cond := u_ws RX4 TX4 5
theorem nmX4 : ∀ a, a < 5 → ∀ b, b < 5 → a ≠ b → (TX4 a).2.1 ≠ (TX4 b).2.1 := by decide +kernel
theorem tyX4_ok : ∀ k, k < 5 → parseFieldDescriptor (TX4 k).2.2.1 = some (tyX4 k) := by decide +kernel
abbrev cX4_init : ByteArray := prog_6_method_1_code
def yX4_init : MethodName := ⟨RX4, "<init>", "()V"⟩
abbrev cX4_take : ByteArray := prog_6_method_2_code
def yX4_take : MethodName := ⟨RX4, "take", "(I)Z"⟩
abbrev cX4_readTo : ByteArray := prog_6_method_3_code
def yX4_readTo : MethodName := ⟨RX4, "readTo", "(LAllSworn$Realm;)Z"⟩
abbrev cX4_readThing : ByteArray := prog_6_method_4_code
def yX4_readThing : MethodName := ⟨RX4, "readThing", "(LAllSworn$Realm;I)V"⟩
abbrev cX4_readHarm : ByteArray := prog_6_method_5_code
def yX4_readHarm : MethodName := ⟨RX4, "readHarm", "(LAllSworn$Realm;)V"⟩
abbrev cX4_expect : ByteArray := prog_6_method_6_code
def yX4_expect : MethodName := ⟨RX4, "expect", "(C)V"⟩
abbrev cX4_readNumber : ByteArray := prog_6_method_7_code
def yX4_readNumber : MethodName := ⟨RX4, "readNumber", "(II)I"⟩
abbrev cX4_next : ByteArray := prog_6_method_8_code
def yX4_next : MethodName := ⟨RX4, "next", "()I"⟩
abbrev cX4_note : ByteArray := prog_6_method_9_code
def yX4_note : MethodName := ⟨RX4, "note", "(II)V"⟩
abbrev cX4_kindOf : ByteArray := prog_6_method_10_code
def yX4_kindOf : MethodName := ⟨RX4, "kindOf", "(I)I"⟩
abbrev cX4_made : ByteArray := prog_6_method_11_code
def yX4_made : MethodName := ⟨RX4, "made", "(IIII)LAllSworn$Thing;"⟩
def RX5 : String := "AllSworn$Realm"
def TX5 : u_T := fun k => match k with
  | 0 => ("AllSworn$Realm", "things", "[LAllSworn$Thing;", true)
  | 1 => ("AllSworn$Realm", "sworn", "[I", true)
  | 2 => ("AllSworn$Realm", "harms", "[I", true)
  | 3 => ("AllSworn$Realm", "acts", "[I", true)
  | 4 => ("AllSworn$Realm", "term", "I", false)
  | 5 => ("AllSworn$Realm", "thingCount", "I", false)
  | 6 => ("AllSworn$Realm", "harmCount", "I", false)
  | 7 => ("AllSworn$Realm", "actCount", "I", false)
  | 8 => ("AllSworn$Realm", "day", "I", false)
  | _ => ("AllSworn$Realm", "hits", "I", false)
def tyX5 : Nat → FieldType := fun k => match k with
  | 0 => .array (.object "AllSworn$Thing")
  | 1 => .array .int
  | 2 => .array .int
  | 3 => .array .int
  | 4 => .int
  | 5 => .int
  | 6 => .int
  | 7 => .int
  | 8 => .int
  | _ => .int
abbrev wsX50 : List Cond := u_ws RX5 TX5 10
theorem nmX5 : ∀ a, a < 10 → ∀ b, b < 10 → a ≠ b → (TX5 a).2.1 ≠ (TX5 b).2.1 := by decide +kernel
theorem tyX5_ok : ∀ k, k < 10 → parseFieldDescriptor (TX5 k).2.2.1 = some (tyX5 k) := by decide +kernel
abbrev cX5_init : ByteArray := prog_7_method_1_code
def yX5_init : MethodName := ⟨RX5, "<init>", "()V"⟩
abbrev cX5_isTold : ByteArray := prog_7_method_2_code
def yX5_isTold : MethodName := ⟨RX5, "isTold", "()Z"⟩
abbrev cX5_beginAnew : ByteArray := prog_7_method_3_code
def yX5_beginAnew : MethodName := ⟨RX5, "beginAnew", "(I)V"⟩
abbrev cX5_addThing : ByteArray := prog_7_method_4_code
def yX5_addThing : MethodName := ⟨RX5, "addThing", "(LAllSworn$Thing;)V"⟩
abbrev cX5_addHarm : ByteArray := prog_7_method_5_code
def yX5_addHarm : MethodName := ⟨RX5, "addHarm", "(I)V"⟩
abbrev cX5_becomeLike : ByteArray := prog_7_method_6_code
def yX5_becomeLike : MethodName := ⟨RX5, "becomeLike", "(LAllSworn$Realm;)V"⟩
abbrev cX5_thingAt : ByteArray := prog_7_method_7_code
def yX5_thingAt : MethodName := ⟨RX5, "thingAt", "(I)LAllSworn$Thing;"⟩
abbrev cX5_oathOf : ByteArray := prog_7_method_8_code
def yX5_oathOf : MethodName := ⟨RX5, "oathOf", "(I)I"⟩
abbrev cX5_hasHarm : ByteArray := prog_7_method_9_code
def yX5_hasHarm : MethodName := ⟨RX5, "hasHarm", "(I)Z"⟩
abbrev cX5_harmAt : ByteArray := prog_7_method_10_code
def yX5_harmAt : MethodName := ⟨RX5, "harmAt", "(I)I"⟩
abbrev cX5_sendTo : ByteArray := prog_7_method_11_code
def yX5_sendTo : MethodName := ⟨RX5, "sendTo", "(LAllSworn$Thing;)V"⟩
abbrev cX5_tryHarm : ByteArray := prog_7_method_12_code
def yX5_tryHarm : MethodName := ⟨RX5, "tryHarm", "(I)Z"⟩
abbrev cX5_letPass : ByteArray := prog_7_method_13_code
def yX5_letPass : MethodName := ⟨RX5, "letPass", "(I)V"⟩
abbrev cX5_undoLatest : ByteArray := prog_7_method_14_code
def yX5_undoLatest : MethodName := ⟨RX5, "undoLatest", "()Z"⟩
abbrev cX5_keepAct : ByteArray := prog_7_method_15_code
def yX5_keepAct : MethodName := ⟨RX5, "keepAct", "(I)V"⟩
abbrev cX5_swear : ByteArray := prog_7_method_16_code
def yX5_swear : MethodName := ⟨RX5, "swear", "(II)V"⟩
abbrev cX5_boundOn : ByteArray := prog_7_method_17_code
def yX5_boundOn : MethodName := ⟨RX5, "boundOn", "(I)I"⟩
abbrev cX5_boundIf : ByteArray := prog_7_method_18_code
def yX5_boundIf : MethodName := ⟨RX5, "boundIf", "(III)I"⟩
abbrev cX5_openOn : ByteArray := prog_7_method_19_code
def yX5_openOn : MethodName := ⟨RX5, "openOn", "(I)I"⟩
abbrev cX5_openTo : ByteArray := prog_7_method_20_code
def yX5_openTo : MethodName := ⟨RX5, "openTo", "(I)I"⟩
abbrev cX5_priceOf : ByteArray := prog_7_method_21_code
def yX5_priceOf : MethodName := ⟨RX5, "priceOf", "(I)I"⟩
abbrev cX5_cheapestOn : ByteArray := prog_7_method_22_code
def yX5_cheapestOn : MethodName := ⟨RX5, "cheapestOn", "(I)I"⟩
abbrev cX5_cheapestPriceOn : ByteArray := prog_7_method_23_code
def yX5_cheapestPriceOn : MethodName := ⟨RX5, "cheapestPriceOn", "(I)I"⟩
abbrev cX5_toldAs : ByteArray := prog_7_method_24_code
def yX5_toldAs : MethodName := ⟨RX5, "toldAs", "(I)I"⟩
abbrev cX5_harmsWith : ByteArray := prog_7_method_25_code
def yX5_harmsWith : MethodName := ⟨RX5, "harmsWith", "(I)I"⟩
def RX6 : String := "AllSworn$Row"
def TX6 : u_T := fun k => match k with
  | 0 => ("AllSworn$Row", "items", "[I", true)
  | 1 => ("AllSworn$Row", "lane", "I", false)
  | _ => ("AllSworn$Row", "size", "I", false)
def tyX6 : Nat → FieldType := fun k => match k with
  | 0 => .array .int
  | 1 => .int
  | _ => .int
abbrev wsX60 : List Cond := u_ws RX6 TX6 3
theorem nmX6 : ∀ a, a < 3 → ∀ b, b < 3 → a ≠ b → (TX6 a).2.1 ≠ (TX6 b).2.1 := by decide +kernel
theorem tyX6_ok : ∀ k, k < 3 → parseFieldDescriptor (TX6 k).2.2.1 = some (tyX6 k) := by decide +kernel
abbrev cX6_init : ByteArray := prog_8_method_1_code
def yX6_init : MethodName := ⟨RX6, "<init>", "()V"⟩
abbrev cX6_isMissing : ByteArray := prog_8_method_2_code
def yX6_isMissing : MethodName := ⟨RX6, "isMissing", "()Z"⟩
abbrev cX6_vanish : ByteArray := prog_8_method_3_code
def yX6_vanish : MethodName := ⟨RX6, "vanish", "()V"⟩
abbrev cX6_lay : ByteArray := prog_8_method_4_code
def yX6_lay : MethodName := ⟨RX6, "lay", "(II)V"⟩
abbrev cX6_spans : ByteArray := prog_8_method_5_code
def yX6_spans : MethodName := ⟨RX6, "spans", "(II)Z"⟩
abbrev cX6_put : ByteArray := prog_8_method_6_code
def yX6_put : MethodName := ⟨RX6, "put", "(II)I"⟩
abbrev cX6_takeFrom : ByteArray := prog_8_method_7_code
def yX6_takeFrom : MethodName := ⟨RX6, "takeFrom", "(LAllSworn$Row;III)V"⟩
abbrev cX6_tellsYesOrNo : ByteArray := prog_8_method_8_code
def yX6_tellsYesOrNo : MethodName := ⟨RX6, "tellsYesOrNo", "(II)Z"⟩
abbrev cX6_tellsHit : ByteArray := prog_8_method_9_code
def yX6_tellsHit : MethodName := ⟨RX6, "tellsHit", "(I)Z"⟩
abbrev cX6_narrowed : ByteArray := prog_8_method_10_code
def yX6_narrowed : MethodName := ⟨RX6, "narrowed", "(I)I"⟩
def RX7 : String := "AllSworn$Thing"
def TX7 : u_T := fun k => match k with
  | _ => ("", "", "", false)
def tyX7 : Nat → FieldType := fun k => match k with
  | _ => .int
abbrev wsX70 : List Cond := u_ws RX7 TX7 0
theorem nmX7 : ∀ a, a < 0 → ∀ b, b < 0 → a ≠ b → (TX7 a).2.1 ≠ (TX7 b).2.1 := by decide +kernel
theorem tyX7_ok : ∀ k, k < 0 → parseFieldDescriptor (TX7 k).2.2.1 = some (tyX7 k) := by decide +kernel
abbrev cX7_init : ByteArray := prog_9_method_1_code
def yX7_init : MethodName := ⟨RX7, "<init>", "(III)V"⟩
abbrev cX7_isOf : ByteArray := prog_9_method_3_code
def yX7_isOf : MethodName := ⟨RX7, "isOf", "(I)Z"⟩
abbrev cX7_daysToAsk : ByteArray := prog_9_method_4_code
def yX7_daysToAsk : MethodName := ⟨RX7, "daysToAsk", "()I"⟩
abbrev cX7_swearsOn : ByteArray := prog_9_method_5_code
def yX7_swearsOn : MethodName := ⟨RX7, "swearsOn", "(I)Z"⟩
abbrev cX7_isHeldBy : ByteArray := prog_9_method_6_code
def yX7_isHeldBy : MethodName := ⟨RX7, "isHeldBy", "(I)Z"⟩
abbrev cX7_size : ByteArray := prog_9_method_7_code
def yX7_size : MethodName := ⟨RX7, "size", "(LAllSworn$Trace;LAllSworn$Realm;)I"⟩
abbrev cX7_mark : ByteArray := prog_9_method_8_code
def yX7_mark : MethodName := ⟨RX7, "mark", "(LAllSworn$Trace;LAllSworn$Realm;)I"⟩
def RX8 : String := "AllSworn$Trace"
def TX8 : u_T := fun k => match k with
  | 0 => ("AllSworn$Trace", "numbers", "[I", true)
  | _ => ("AllSworn$Trace", "length", "I", false)
def tyX8 : Nat → FieldType := fun k => match k with
  | 0 => .array .int
  | _ => .int
abbrev wsX80 : List Cond := u_ws RX8 TX8 2
theorem nmX8 : ∀ a, a < 2 → ∀ b, b < 2 → a ≠ b → (TX8 a).2.1 ≠ (TX8 b).2.1 := by decide +kernel
theorem tyX8_ok : ∀ k, k < 2 → parseFieldDescriptor (TX8 k).2.2.1 = some (tyX8 k) := by decide +kernel
abbrev cX8_init : ByteArray := prog_10_method_1_code
def yX8_init : MethodName := ⟨RX8, "<init>", "()V"⟩
abbrev cX8_clear : ByteArray := prog_10_method_2_code
def yX8_clear : MethodName := ⟨RX8, "clear", "()V"⟩
abbrev cX8_leave : ByteArray := prog_10_method_3_code
def yX8_leave : MethodName := ⟨RX8, "leave", "(I)V"⟩
abbrev cX8_numberAt : ByteArray := prog_10_method_4_code
def yX8_numberAt : MethodName := ⟨RX8, "numberAt", "(I)I"⟩
def RX9 : String := "AllSworn$Untrue"
def TX9 : u_T := fun k => match k with
  | 0 => ("AllSworn$Thing", "number", "I", true)
  | 1 => ("AllSworn$Thing", "far", "I", true)
  | _ => ("AllSworn$Thing", "price", "I", true)
def tyX9 : Nat → FieldType := fun k => match k with
  | 0 => .int
  | 1 => .int
  | _ => .int
abbrev wsX90 : List Cond := u_ws RX9 TX9 3
theorem nmX9 : ∀ a, a < 3 → ∀ b, b < 3 → a ≠ b → (TX9 a).2.1 ≠ (TX9 b).2.1 := by decide +kernel
theorem tyX9_ok : ∀ k, k < 3 → parseFieldDescriptor (TX9 k).2.2.1 = some (tyX9 k) := by decide +kernel
abbrev cX9_init : ByteArray := prog_11_method_1_code
def yX9_init : MethodName := ⟨RX9, "<init>", "(III)V"⟩
abbrev cX9_toldKind : ByteArray := prog_11_method_2_code
def yX9_toldKind : MethodName := ⟨RX9, "toldKind", "()I"⟩
abbrev cX9_isOf : ByteArray := prog_11_method_3_code
def yX9_isOf : MethodName := ⟨RX9, "isOf", "(I)Z"⟩
abbrev cX9_isHeldBy : ByteArray := prog_11_method_4_code
def yX9_isHeldBy : MethodName := ⟨RX9, "isHeldBy", "(I)Z"⟩
abbrev cX9_size : ByteArray := prog_11_method_5_code
def yX9_size : MethodName := ⟨RX9, "size", "(LAllSworn$Trace;LAllSworn$Realm;)I"⟩
def RX10 : String := "AllSworn$Young"
def TX10 : u_T := fun k => match k with
  | 0 => ("AllSworn$Thing", "number", "I", true)
  | 1 => ("AllSworn$Thing", "far", "I", true)
  | _ => ("AllSworn$Thing", "price", "I", true)
def tyX10 : Nat → FieldType := fun k => match k with
  | 0 => .int
  | 1 => .int
  | _ => .int
abbrev wsX100 : List Cond := u_ws RX10 TX10 3
theorem nmX10 : ∀ a, a < 3 → ∀ b, b < 3 → a ≠ b → (TX10 a).2.1 ≠ (TX10 b).2.1 := by decide +kernel
theorem tyX10_ok : ∀ k, k < 3 → parseFieldDescriptor (TX10 k).2.2.1 = some (tyX10 k) := by decide +kernel
abbrev cX10_init : ByteArray := prog_12_method_1_code
def yX10_init : MethodName := ⟨RX10, "<init>", "(III)V"⟩
abbrev cX10_toldKind : ByteArray := prog_12_method_2_code
def yX10_toldKind : MethodName := ⟨RX10, "toldKind", "()I"⟩
abbrev cX10_isOf : ByteArray := prog_12_method_3_code
def yX10_isOf : MethodName := ⟨RX10, "isOf", "(I)Z"⟩
abbrev cX10_swearsOn : ByteArray := prog_12_method_4_code
def yX10_swearsOn : MethodName := ⟨RX10, "swearsOn", "(I)Z"⟩
abbrev cX10_mark : ByteArray := prog_12_method_5_code
def yX10_mark : MethodName := ⟨RX10, "mark", "(LAllSworn$Trace;LAllSworn$Realm;)I"⟩
def RX11 : String := "AllSworn"
def TX11 : u_T := fun k => match k with
  | 0 => ("AllSworn", "rows", "[LAllSworn$Row;", true)
  | 1 => ("AllSworn", "reader", "LAllSworn$Reader;", true)
  | 2 => ("AllSworn", "draft", "LAllSworn$Realm;", true)
  | 3 => ("AllSworn", "present", "LAllSworn$Realm;", true)
  | 4 => ("AllSworn", "images", "[LAllSworn$Realm;", true)
  | 5 => ("AllSworn", "oracle", "LAllSworn$Oracle;", true)
  | 6 => ("AllSworn", "left", "LAllSworn$Trace;", true)
  | 7 => ("AllSworn", "latestFault", "I", false)
  | _ => ("AllSworn", "latestFinding", "I", false)
def tyX11 : Nat → FieldType := fun k => match k with
  | 0 => .array (.object "AllSworn$Row")
  | 1 => .object "AllSworn$Reader"
  | 2 => .object "AllSworn$Realm"
  | 3 => .object "AllSworn$Realm"
  | 4 => .array (.object "AllSworn$Realm")
  | 5 => .object "AllSworn$Oracle"
  | 6 => .object "AllSworn$Trace"
  | 7 => .int
  | _ => .int
abbrev wsX110 : List Cond := u_ws RX11 TX11 9
theorem nmX11 : ∀ a, a < 9 → ∀ b, b < 9 → a ≠ b → (TX11 a).2.1 ≠ (TX11 b).2.1 := by decide +kernel
theorem tyX11_ok : ∀ k, k < 9 → parseFieldDescriptor (TX11 k).2.2.1 = some (tyX11 k) := by decide +kernel
abbrev cX11_init : ByteArray := prog_1_method_1_code
def yX11_init : MethodName := ⟨RX11, "<init>", "()V"⟩
abbrev cX11_row : ByteArray := prog_1_method_2_code
def yX11_row : MethodName := ⟨RX11, "row", "(III)I"⟩
abbrev cX11_set : ByteArray := prog_1_method_3_code
def yX11_set : MethodName := ⟨RX11, "set", "(III)I"⟩
abbrev cX11_copy : ByteArray := prog_1_method_4_code
def yX11_copy : MethodName := ⟨RX11, "copy", "(IIIII)I"⟩
abbrev cX11_drop : ByteArray := prog_1_method_5_code
def yX11_drop : MethodName := ⟨RX11, "drop", "(I)I"⟩
abbrev cX11_feed : ByteArray := prog_1_method_6_code
def yX11_feed : MethodName := ⟨RX11, "feed", "(I)I"⟩
abbrev cX11_realm : ByteArray := prog_1_method_7_code
def yX11_realm : MethodName := ⟨RX11, "realm", "()I"⟩
abbrev cX11_fault : ByteArray := prog_1_method_8_code
def yX11_fault : MethodName := ⟨RX11, "fault", "()I"⟩
abbrev cX11_askFor : ByteArray := prog_1_method_9_code
def yX11_askFor : MethodName := ⟨RX11, "askFor", "(I)I"⟩
abbrev cX11_tries : ByteArray := prog_1_method_10_code
def yX11_tries : MethodName := ⟨RX11, "tries", "(I)I"⟩
abbrev cX11_waits : ByteArray := prog_1_method_11_code
def yX11_waits : MethodName := ⟨RX11, "waits", "(I)I"⟩
abbrev cX11_undo : ByteArray := prog_1_method_12_code
def yX11_undo : MethodName := ⟨RX11, "undo", "()I"⟩
abbrev cX11_thing : ByteArray := prog_1_method_13_code
def yX11_thing : MethodName := ⟨RX11, "thing", "(II)I"⟩
abbrev cX11_harm : ByteArray := prog_1_method_14_code
def yX11_harm : MethodName := ⟨RX11, "harm", "(II)I"⟩
abbrev cX11_open : ByteArray := prog_1_method_15_code
def yX11_open : MethodName := ⟨RX11, "open", "(I)I"⟩
abbrev cX11_gap : ByteArray := prog_1_method_16_code
def yX11_gap : MethodName := ⟨RX11, "gap", "()I"⟩
abbrev cX11_cover : ByteArray := prog_1_method_17_code
def yX11_cover : MethodName := ⟨RX11, "cover", "(I)I"⟩
abbrev cX11_round : ByteArray := prog_1_method_18_code
def yX11_round : MethodName := ⟨RX11, "round", "(I)I"⟩
abbrev cX11_cheapest : ByteArray := prog_1_method_19_code
def yX11_cheapest : MethodName := ⟨RX11, "cheapest", "(II)I"⟩
abbrev cX11_defended : ByteArray := prog_1_method_20_code
def yX11_defended : MethodName := ⟨RX11, "defended", "(II)I"⟩
abbrev cX11_enough : ByteArray := prog_1_method_21_code
def yX11_enough : MethodName := ⟨RX11, "enough", "(I)I"⟩
abbrev cX11_odds : ByteArray := prog_1_method_22_code
def yX11_odds : MethodName := ⟨RX11, "odds", "(III)I"⟩
abbrev cX11_hitBy : ByteArray := prog_1_method_23_code
def yX11_hitBy : MethodName := ⟨RX11, "hitBy", "(III)I"⟩
abbrev cX11_terms : ByteArray := prog_1_method_24_code
def yX11_terms : MethodName := ⟨RX11, "terms", "()I"⟩
abbrev cX11_image : ByteArray := prog_1_method_25_code
def yX11_image : MethodName := ⟨RX11, "image", "(I)I"⟩
abbrev cX11_restore : ByteArray := prog_1_method_26_code
def yX11_restore : MethodName := ⟨RX11, "restore", "(I)I"⟩
abbrev cX11_kind : ByteArray := prog_1_method_27_code
def yX11_kind : MethodName := ⟨RX11, "kind", "(I)I"⟩
abbrev cX11_as : ByteArray := prog_1_method_28_code
def yX11_as : MethodName := ⟨RX11, "as", "(II)I"⟩
abbrev cX11_ask : ByteArray := prog_1_method_29_code
def yX11_ask : MethodName := ⟨RX11, "ask", "(II)I"⟩
abbrev cX11_trace : ByteArray := prog_1_method_30_code
def yX11_trace : MethodName := ⟨RX11, "trace", "(I)I"⟩
abbrev cX11_count : ByteArray := prog_1_method_31_code
def yX11_count : MethodName := ⟨RX11, "count", "(I)I"⟩
abbrev cX11_status : ByteArray := prog_1_method_32_code
def yX11_status : MethodName := ⟨RX11, "status", "()I"⟩
abbrev cX11_found : ByteArray := prog_1_method_33_code
def yX11_found : MethodName := ⟨RX11, "found", "(I)I"⟩
abbrev cX11_clean : ByteArray := prog_1_method_34_code
def yX11_clean : MethodName := ⟨RX11, "clean", "(I)I"⟩
abbrev cX11_rowAt : ByteArray := prog_1_method_35_code
def yX11_rowAt : MethodName := ⟨RX11, "rowAt", "(I)LAllSworn$Row;"⟩
abbrev cX11_imageAt : ByteArray := prog_1_method_36_code
def yX11_imageAt : MethodName := ⟨RX11, "imageAt", "(I)LAllSworn$Realm;"⟩
abbrev cX11_rowsThere : ByteArray := prog_1_method_37_code
def yX11_rowsThere : MethodName := ⟨RX11, "rowsThere", "()I"⟩
abbrev cX11_isAhead : ByteArray := prog_1_method_38_code
def yX11_isAhead : MethodName := ⟨RX11, "isAhead", "(I)Z"⟩
abbrev cX11_isPair : ByteArray := prog_1_method_39_code
def yX11_isPair : MethodName := ⟨RX11, "isPair", "(I)Z"⟩
abbrev cX11_sizeOrSet : ByteArray := prog_1_method_40_code
def yX11_sizeOrSet : MethodName := ⟨RX11, "sizeOrSet", "(II)I"⟩
abbrev cX11_power : ByteArray := prog_1_method_41_code
def yX11_power : MethodName := ⟨RX11, "power", "(II)I"⟩
abbrev cX11_sharedDivisor : ByteArray := prog_1_method_42_code
def yX11_sharedDivisor : MethodName := ⟨RX11, "sharedDivisor", "(II)I"⟩
def RX12 : String := "AllSwornModel"
def TX12 : u_T := fun k => match k with
  | 0 => ("AllSwornModel", "lanes", "[I", true)
  | 1 => ("AllSwornModel", "sizes", "[I", true)
  | 2 => ("AllSwornModel", "items", "[I", true)
  | 3 => ("AllSwornModel", "state", "I", false)
  | 4 => ("AllSwornModel", "now", "[I", true)
  | 5 => ("AllSwornModel", "base", "I", false)
  | 6 => ("AllSwornModel", "isKept", "[Z", true)
  | 7 => ("AllSwornModel", "acts", "[I", true)
  | 8 => ("AllSwornModel", "actMany", "I", false)
  | 9 => ("AllSwornModel", "tape", "[B", true)
  | 10 => ("AllSwornModel", "typed", "I", false)
  | 11 => ("AllSwornModel", "at", "I", false)
  | 12 => ("AllSwornModel", "start", "I", false)
  | 13 => ("AllSwornModel", "sort", "I", false)
  | 14 => ("AllSwornModel", "value", "I", false)
  | 15 => ("AllSwornModel", "fault", "I", false)
  | 16 => ("AllSwornModel", "faultAt", "I", false)
  | 17 => ("AllSwornModel", "lastFault", "I", false)
  | 18 => ("AllSwornModel", "oaths", "[I", true)
  | 19 => ("AllSwornModel", "row4", "[I", true)
  | 20 => ("AllSwornModel", "rowDays", "I", false)
  | 21 => ("AllSwornModel", "traced", "[I", true)
  | _ => ("AllSwornModel", "tracedMany", "I", false)
def tyX12 : Nat → FieldType := fun k => match k with
  | 0 => .array .int
  | 1 => .array .int
  | 2 => .array .int
  | 3 => .int
  | 4 => .array .int
  | 5 => .int
  | 6 => .array .boolean
  | 7 => .array .int
  | 8 => .int
  | 9 => .array .byte
  | 10 => .int
  | 11 => .int
  | 12 => .int
  | 13 => .int
  | 14 => .int
  | 15 => .int
  | 16 => .int
  | 17 => .int
  | 18 => .array .int
  | 19 => .array .int
  | 20 => .int
  | 21 => .array .int
  | _ => .int
abbrev wsX120 : List Cond := u_ws RX12 TX12 23
theorem nmX12 : ∀ a, a < 23 → ∀ b, b < 23 → a ≠ b → (TX12 a).2.1 ≠ (TX12 b).2.1 := by decide +kernel
theorem tyX12_ok : ∀ k, k < 23 → parseFieldDescriptor (TX12 k).2.2.1 = some (tyX12 k) := by decide +kernel
abbrev cX12_init : ByteArray := prog_14_method_1_code
def yX12_init : MethodName := ⟨RX12, "<init>", "()V"⟩
abbrev cX12_in : ByteArray := prog_14_method_3_code
def yX12_in : MethodName := ⟨RX12, "in", "(III)Z"⟩
abbrev cX12_finds : ByteArray := prog_14_method_4_code
def yX12_finds : MethodName := ⟨RX12, "finds", "(I)I"⟩
abbrev cX12_well : ByteArray := prog_14_method_5_code
def yX12_well : MethodName := ⟨RX12, "well", "(I)I"⟩
abbrev cX12_isRow : ByteArray := prog_14_method_6_code
def yX12_isRow : MethodName := ⟨RX12, "isRow", "(I)Z"⟩
abbrev cX12_row : ByteArray := prog_14_method_7_code
def yX12_row : MethodName := ⟨RX12, "row", "(III)I"⟩
abbrev cX12_set : ByteArray := prog_14_method_8_code
def yX12_set : MethodName := ⟨RX12, "set", "(III)I"⟩
abbrev cX12_copy : ByteArray := prog_14_method_9_code
def yX12_copy : MethodName := ⟨RX12, "copy", "(IIIII)I"⟩
abbrev cX12_drop : ByteArray := prog_14_method_10_code
def yX12_drop : MethodName := ⟨RX12, "drop", "(I)I"⟩
abbrev cX12_status : ByteArray := prog_14_method_11_code
def yX12_status : MethodName := ⟨RX12, "status", "()I"⟩
abbrev cX12_get : ByteArray := prog_14_method_12_code
def yX12_get : MethodName := ⟨RX12, "get", "(I)I"⟩
abbrev cX12_put : ByteArray := prog_14_method_13_code
def yX12_put : MethodName := ⟨RX12, "put", "(II)V"⟩
abbrev cX12_copyRealm : ByteArray := prog_14_method_14_code
def yX12_copyRealm : MethodName := ⟨RX12, "copyRealm", "(II)V"⟩
abbrev cX12_isThing : ByteArray := prog_14_method_15_code
def yX12_isThing : MethodName := ⟨RX12, "isThing", "(I)Z"⟩
abbrev cX12_isHarm : ByteArray := prog_14_method_16_code
def yX12_isHarm : MethodName := ⟨RX12, "isHarm", "(I)Z"⟩
abbrev cX12_ofThing : ByteArray := prog_14_method_17_code
def yX12_ofThing : MethodName := ⟨RX12, "ofThing", "(II)I"⟩
abbrev cX12_feed : ByteArray := prog_14_method_18_code
def yX12_feed : MethodName := ⟨RX12, "feed", "(I)I"⟩
abbrev cX12_here : ByteArray := prog_14_method_19_code
def yX12_here : MethodName := ⟨RX12, "here", "()I"⟩
abbrev cX12_next : ByteArray := prog_14_method_20_code
def yX12_next : MethodName := ⟨RX12, "next", "()V"⟩
abbrev cX12_fails : ByteArray := prog_14_method_21_code
def yX12_fails : MethodName := ⟨RX12, "fails", "(I)V"⟩
abbrev cX12_sign : ByteArray := prog_14_method_22_code
def yX12_sign : MethodName := ⟨RX12, "sign", "(I)V"⟩
abbrev cX12_numberBut : ByteArray := prog_14_method_23_code
def yX12_numberBut : MethodName := ⟨RX12, "numberBut", "(III)I"⟩
abbrev cX12_number : ByteArray := prog_14_method_24_code
def yX12_number : MethodName := ⟨RX12, "number", "(III)I"⟩
abbrev cX12_kindOf : ByteArray := prog_14_method_25_code
def yX12_kindOf : MethodName := ⟨RX12, "kindOf", "(I)I"⟩
abbrev cX12_readThing : ByteArray := prog_14_method_26_code
def yX12_readThing : MethodName := ⟨RX12, "readThing", "()V"⟩
abbrev cX12_readHarm : ByteArray := prog_14_method_27_code
def yX12_readHarm : MethodName := ⟨RX12, "readHarm", "()V"⟩
abbrev cX12_realm : ByteArray := prog_14_method_28_code
def yX12_realm : MethodName := ⟨RX12, "realm", "()I"⟩
abbrev cX12_fault : ByteArray := prog_14_method_29_code
def yX12_fault : MethodName := ⟨RX12, "fault", "()I"⟩
abbrev cX12_asSworn : ByteArray := prog_14_method_30_code
def yX12_asSworn : MethodName := ⟨RX12, "asSworn", "()V"⟩
abbrev cX12_boundOn : ByteArray := prog_14_method_31_code
def yX12_boundOn : MethodName := ⟨RX12, "boundOn", "(II)I"⟩
abbrev cX12_openBy : ByteArray := prog_14_method_32_code
def yX12_openBy : MethodName := ⟨RX12, "openBy", "(I)I"⟩
abbrev cX12_openOn : ByteArray := prog_14_method_33_code
def yX12_openOn : MethodName := ⟨RX12, "openOn", "(I)I"⟩
abbrev cX12_openAsSworn : ByteArray := prog_14_method_34_code
def yX12_openAsSworn : MethodName := ⟨RX12, "openAsSworn", "(I)I"⟩
abbrev cX12_wayOf : ByteArray := prog_14_method_35_code
def yX12_wayOf : MethodName := ⟨RX12, "wayOf", "(I)I"⟩
abbrev cX12_wouldSwear : ByteArray := prog_14_method_36_code
def yX12_wouldSwear : MethodName := ⟨RX12, "wouldSwear", "(II)Z"⟩
abbrev cX12_know : ByteArray := prog_14_method_37_code
def yX12_know : MethodName := ⟨RX12, "know", "(I)V"⟩
abbrev cX12_hasRealm : ByteArray := prog_14_method_38_code
def yX12_hasRealm : MethodName := ⟨RX12, "hasRealm", "()Z"⟩
abbrev cX12_askFor : ByteArray := prog_14_method_39_code
def yX12_askFor : MethodName := ⟨RX12, "askFor", "(I)I"⟩
abbrev cX12_tries : ByteArray := prog_14_method_40_code
def yX12_tries : MethodName := ⟨RX12, "tries", "(I)I"⟩
abbrev cX12_waits : ByteArray := prog_14_method_41_code
def yX12_waits : MethodName := ⟨RX12, "waits", "(I)I"⟩
abbrev cX12_undo : ByteArray := prog_14_method_42_code
def yX12_undo : MethodName := ⟨RX12, "undo", "()I"⟩
abbrev cX12_sumOf : ByteArray := prog_14_method_43_code
def yX12_sumOf : MethodName := ⟨RX12, "sumOf", "(I)I"⟩
abbrev cX12_thing : ByteArray := prog_14_method_44_code
def yX12_thing : MethodName := ⟨RX12, "thing", "(II)I"⟩
abbrev cX12_harm : ByteArray := prog_14_method_45_code
def yX12_harm : MethodName := ⟨RX12, "harm", "(II)I"⟩
abbrev cX12_isDay : ByteArray := prog_14_method_46_code
def yX12_isDay : MethodName := ⟨RX12, "isDay", "(I)Z"⟩
abbrev cX12_open : ByteArray := prog_14_method_47_code
def yX12_open : MethodName := ⟨RX12, "open", "(I)I"⟩
abbrev cX12_gap : ByteArray := prog_14_method_48_code
def yX12_gap : MethodName := ⟨RX12, "gap", "()I"⟩
abbrev cX12_manyOf : ByteArray := prog_14_method_49_code
def yX12_manyOf : MethodName := ⟨RX12, "manyOf", "(I)I"⟩
abbrev cX12_covers : ByteArray := prog_14_method_50_code
def yX12_covers : MethodName := ⟨RX12, "covers", "(I)Z"⟩
abbrev cX12_cover : ByteArray := prog_14_method_51_code
def yX12_cover : MethodName := ⟨RX12, "cover", "(I)I"⟩
abbrev cX12_goesRound : ByteArray := prog_14_method_52_code
def yX12_goesRound : MethodName := ⟨RX12, "goesRound", "(II)Z"⟩
abbrev cX12_round : ByteArray := prog_14_method_53_code
def yX12_round : MethodName := ⟨RX12, "round", "(I)I"⟩
abbrev cX12_cheapestOf : ByteArray := prog_14_method_54_code
def yX12_cheapestOf : MethodName := ⟨RX12, "cheapestOf", "(I)I"⟩
abbrev cX12_cheapest : ByteArray := prog_14_method_55_code
def yX12_cheapest : MethodName := ⟨RX12, "cheapest", "(II)I"⟩
abbrev cX12_dearBy : ByteArray := prog_14_method_56_code
def yX12_dearBy : MethodName := ⟨RX12, "dearBy", "(II)I"⟩
abbrev cX12_defended : ByteArray := prog_14_method_57_code
def yX12_defended : MethodName := ⟨RX12, "defended", "(II)I"⟩
abbrev cX12_ofKinds : ByteArray := prog_14_method_58_code
def yX12_ofKinds : MethodName := ⟨RX12, "ofKinds", "(I)I"⟩
abbrev cX12_enough : ByteArray := prog_14_method_59_code
def yX12_enough : MethodName := ⟨RX12, "enough", "(I)I"⟩
abbrev cX12_odds : ByteArray := prog_14_method_60_code
def yX12_odds : MethodName := ⟨RX12, "odds", "(III)I"⟩
abbrev cX12_hitBy : ByteArray := prog_14_method_61_code
def yX12_hitBy : MethodName := ⟨RX12, "hitBy", "(III)I"⟩
abbrev cX12_terms : ByteArray := prog_14_method_62_code
def yX12_terms : MethodName := ⟨RX12, "terms", "()I"⟩
abbrev cX12_image : ByteArray := prog_14_method_63_code
def yX12_image : MethodName := ⟨RX12, "image", "(I)I"⟩
abbrev cX12_restore : ByteArray := prog_14_method_64_code
def yX12_restore : MethodName := ⟨RX12, "restore", "(I)I"⟩
abbrev cX12_kind : ByteArray := prog_14_method_65_code
def yX12_kind : MethodName := ⟨RX12, "kind", "(I)I"⟩
abbrev cX12_inHarms : ByteArray := prog_14_method_66_code
def yX12_inHarms : MethodName := ⟨RX12, "inHarms", "(I)I"⟩
abbrev cX12_isOne : ByteArray := prog_14_method_67_code
def yX12_isOne : MethodName := ⟨RX12, "isOne", "(II)Z"⟩
abbrev cX12_as : ByteArray := prog_14_method_68_code
def yX12_as : MethodName := ⟨RX12, "as", "(II)I"⟩
abbrev cX12_leaves : ByteArray := prog_14_method_69_code
def yX12_leaves : MethodName := ⟨RX12, "leaves", "(I)V"⟩
abbrev cX12_size10 : ByteArray := prog_14_method_70_code
def yX12_size10 : MethodName := ⟨RX12, "size10", "(I)I"⟩
abbrev cX12_mark20 : ByteArray := prog_14_method_71_code
def yX12_mark20 : MethodName := ⟨RX12, "mark20", "(I)I"⟩
abbrev cX12_mark21 : ByteArray := prog_14_method_72_code
def yX12_mark21 : MethodName := ⟨RX12, "mark21", "(I)I"⟩
abbrev cX12_size13 : ByteArray := prog_14_method_73_code
def yX12_size13 : MethodName := ⟨RX12, "size13", "(I)I"⟩
abbrev cX12_size14 : ByteArray := prog_14_method_74_code
def yX12_size14 : MethodName := ⟨RX12, "size14", "(I)I"⟩
abbrev cX12_mark22 : ByteArray := prog_14_method_75_code
def yX12_mark22 : MethodName := ⟨RX12, "mark22", "(I)I"⟩
abbrev cX12_mark24 : ByteArray := prog_14_method_76_code
def yX12_mark24 : MethodName := ⟨RX12, "mark24", "(I)I"⟩
abbrev cX12_mark23 : ByteArray := prog_14_method_77_code
def yX12_mark23 : MethodName := ⟨RX12, "mark23", "(I)I"⟩
abbrev cX12_markOf : ByteArray := prog_14_method_78_code
def yX12_markOf : MethodName := ⟨RX12, "markOf", "(I)I"⟩
abbrev cX12_size11 : ByteArray := prog_14_method_79_code
def yX12_size11 : MethodName := ⟨RX12, "size11", "(I)I"⟩
abbrev cX12_size12 : ByteArray := prog_14_method_80_code
def yX12_size12 : MethodName := ⟨RX12, "size12", "(I)I"⟩
abbrev cX12_sizeOf : ByteArray := prog_14_method_81_code
def yX12_sizeOf : MethodName := ⟨RX12, "sizeOf", "(I)I"⟩
abbrev cX12_ask : ByteArray := prog_14_method_82_code
def yX12_ask : MethodName := ⟨RX12, "ask", "(II)I"⟩
abbrev cX12_trace : ByteArray := prog_14_method_83_code
def yX12_trace : MethodName := ⟨RX12, "trace", "(I)I"⟩
abbrev cX12_count : ByteArray := prog_14_method_84_code
def yX12_count : MethodName := ⟨RX12, "count", "(I)I"⟩
def RJ6 : String := "java/lang/Integer"
def TJ6 : u_T := fun k => match k with
  | _ => ("", "", "", false)
def tyJ6 : Nat → FieldType := fun k => match k with
  | _ => .int
abbrev wsJ60 : List Cond := u_ws RJ6 TJ6 0
theorem nmJ6 : ∀ a, a < 0 → ∀ b, b < 0 → a ≠ b → (TJ6 a).2.1 ≠ (TJ6 b).2.1 := by decide +kernel
theorem tyJ6_ok : ∀ k, k < 0 → parseFieldDescriptor (TJ6 k).2.2.1 = some (tyJ6 k) := by decide +kernel
abbrev cJ6_bitCount_0f7a4 : ByteArray := prog_15_method_49_code
def yJ6_bitCount_0f7a4 : MethodName := ⟨RJ6, "bitCount", "(I)I"⟩
def RJ9 : String := "java/lang/Math"
def TJ9 : u_T := fun k => match k with
  | _ => ("", "", "", false)
def tyJ9 : Nat → FieldType := fun k => match k with
  | _ => .int
abbrev wsJ90 : List Cond := u_ws RJ9 TJ9 0
theorem nmJ9 : ∀ a, a < 0 → ∀ b, b < 0 → a ≠ b → (TJ9 a).2.1 ≠ (TJ9 b).2.1 := by decide +kernel
theorem tyJ9_ok : ∀ k, k < 0 → parseFieldDescriptor (TJ9 k).2.2.1 = some (tyJ9 k) := by decide +kernel
abbrev cJ9_max_7cf53 : ByteArray := prog_16_method_65_code
def yJ9_max_7cf53 : MethodName := ⟨RJ9, "max", "(II)I"⟩
def RJ10 : String := "java/lang/System"
def TJ10 : u_T := fun k => match k with
  | _ => ("", "", "", false)
def tyJ10 : Nat → FieldType := fun k => match k with
  | _ => .int
abbrev wsJ100 : List Cond := u_ws RJ10 TJ10 0
theorem nmJ10 : ∀ a, a < 0 → ∀ b, b < 0 → a ≠ b → (TJ10 a).2.1 ≠ (TJ10 b).2.1 := by decide +kernel
theorem tyJ10_ok : ∀ k, k < 0 → parseFieldDescriptor (TJ10 k).2.2.1 = some (tyJ10 k) := by decide +kernel
def RJ7 : String := "java/util/Arrays"
def TJ7 : u_T := fun k => match k with
  | _ => ("", "", "", false)
def tyJ7 : Nat → FieldType := fun k => match k with
  | _ => .int
abbrev wsJ70 : List Cond := u_ws RJ7 TJ7 0
theorem nmJ7 : ∀ a, a < 0 → ∀ b, b < 0 → a ≠ b → (TJ7 a).2.1 ≠ (TJ7 b).2.1 := by decide +kernel
theorem tyJ7_ok : ∀ k, k < 0 → parseFieldDescriptor (TJ7 k).2.2.1 = some (tyJ7 k) := by decide +kernel
abbrev cJ7_fill_53178 : ByteArray := prog_18_method_103_code
def yJ7_fill_53178 : MethodName := ⟨RJ7, "fill", "([II)V"⟩
def RL : String := "AllSwornLaw"
abbrev cL_law : ByteArray := code
def yL_law : MethodName := ⟨RL, "law", "([I)Z"⟩
abbrev vwCl : List vw_C := [(RX0, TX0, 3), (RX1, TX1, 3), (RX2, TX2, 5), (RX3, TX3, 3), (RX4, TX4, 5), (RX5, TX5, 10), (RX6, TX6, 3), (RX8, TX8, 2), (RX9, TX9, 3), (RX10, TX10, 3), (RX11, TX11, 9), (RX12, TX12, 23)]
end
section
/-! px: a pure machine. Its cells lie at positions 0, 1, 2 ..; a reference is a position. Here: its types, one step, its run. -/
abbrev px_E : Type := (FieldType × Nat × (Nat → Int32)) ⊕ ((FieldType × Nat × (Nat → Option Nat)) ⊕ (Nat × List Value))
abbrev px_H : Type := Nat × (Nat → Option px_E)
/-- what an instruction links: kind, number, targets by class, constant, name -/
abbrev px_X : Type := Nat × Nat × List (Nat × Nat) × Int32 × String
abbrev px_I : Type := Jvm.ClassFile.Instr × Nat × px_X
/-- a method: name, bytes, locals, answer, cells that it may make, its instructions -/
abbrev px_M : Type := MethodName × ByteArray × Nat × Option FieldType × Nat × List (Nat × px_I)
abbrev px_my (m : px_M) : MethodName := m.1
abbrev px_mb (m : px_M) : ByteArray := m.2.1
abbrev px_ml (m : px_M) : Nat := m.2.2.1
abbrev px_mr (m : px_M) : Option FieldType := m.2.2.2.1
abbrev px_mc (m : px_M) : Nat := m.2.2.2.2.1
abbrev px_mi (m : px_M) : List (Nat × px_I) := m.2.2.2.2.2
abbrev px_L : Type := List (Option Value)
/-- place, locals, stack, heap, cells made -/
abbrev px_S : Type := Nat × px_L × List Value × px_H × Nat
abbrev px_A : Type := px_S ⊕ ((Option Value × px_H) ⊕ (Nat × List Value × px_S))
def px_set (w : px_H) (a : Nat) (c : px_E) : px_H := (w.1, fun b => if b = a then some c else w.2 b)
def px_add (w : px_H) (c : px_E) : px_H := (w.1 + 1, fun b => if b = w.1 then some c else w.2 b)
def px_isr : Value → Bool
  | .null => true
  | .ref _ => true
  | _ => false
/-- reads and writes of the heap -/
def px_fld (w : px_H) (a : Nat) (cis : List (Nat × Nat)) (j : Nat) : Option Value := match w.2 a with
  | some (.inr (.inr (ci, fs))) => if (cis.lookup ci).isSome then fs[j]? else none
  | _ => none
/-- what may be stored into a field of a type -/
def px_fit (ty : FieldType) (v : Value) : Bool := match ty, v with
  | .int, .int _ => true
  | .object _, v => px_isr v
  | .array _, v => px_isr v
  | _, _ => false
def px_fty (ci j : Nat) : Option FieldType := match vwCl[ci]? with
  | some q => parseFieldDescriptor (q.2.1 j).2.2.1
  | none => none
def px_pfd (w : px_H) (a : Nat) (cis : List (Nat × Nat)) (j : Nat) (v : Value) : Option px_H := match w.2 a with
  | some (.inr (.inr (ci, fs))) => if (cis.lookup ci).isSome ∧ j < fs.length then some (px_set w a (.inr (.inr (ci, fs.set j v)))) else none
  | _ => none
def px_vin (i : Int32) (n : Nat) : Bool := !(decide (i < 0) || decide (n ≤ i.toNatClampNeg))
def px_ald (w : px_H) (a : Nat) (i : Int32) (ty : FieldType) : Option Int32 := match w.2 a with
  | some (.inl (t, n, f)) => if t = ty ∧ px_vin i n = true then some (f i.toNatClampNeg) else none
  | _ => none
def px_ast (w : px_H) (a : Nat) (i : Int32) (x : Int32) (ty : FieldType) : Option px_H := match w.2 a with
  | some (.inl (t, n, f)) => if t = ty ∧ px_vin i n = true then some (px_set w a (.inl (t, n, upd f i.toNatClampNeg x))) else none
  | _ => none
/-- byte and boolean arrays -/
def px_bld (w : px_H) (a : Nat) (i : Int32) : Option Int32 := match w.2 a with
  | some (.inl (t, n, f)) => if (t = .byte ∨ t = .boolean) ∧ px_vin i n = true then some (f i.toNatClampNeg) else none
  | _ => none
def px_bst (w : px_H) (a : Nat) (i : Int32) (x : Int32) : Option px_H := match w.2 a with
  | some (.inl (t, n, f)) => if (t = .byte ∨ t = .boolean) ∧ px_vin i n = true then some (px_set w a (.inl (t, n, upd f i.toNatClampNeg (vp_nar t x)))) else none
  | _ => none
def px_iso : FieldType → Bool
  | .object _ => true
  | _ => false
def px_rld (w : px_H) (a : Nat) (i : Int32) : Option Value := match w.2 a with
  | some (.inr (.inl (t, n, f))) => if px_vin i n = true ∧ px_iso t = true then some (va_rf (f i.toNatClampNeg)) else none
  | _ => none
def px_cls (w : px_H) (a : Nat) : Option Nat := match w.2 a with
  | some (.inr (.inr (ci, _))) => some ci
  | _ => none
/-- may an object of class ci stand in an array of that type -/
def px_may (ci : Nat) (t : FieldType) : Bool := match t, vwCl[ci]? with
  | .object E, some q => decide (q.1 = E) || decide (Cond.castable q.1 E ∈ lw_tbl.filter (fun c => match c with | .castable .. => true | _ => false))
  | _, _ => false
def px_rst (w : px_H) (a : Nat) (i : Int32) (v : Value) : Option px_H := match w.2 a with
  | some (.inr (.inl (t, n, f))) => if px_vin i n = true then (match t, v with
    | .object _, .null => some (px_set w a (.inr (.inl (t, n, va_up f i.toNatClampNeg none))))
    | .object _, .ref b => (match px_cls w b with
      | some ci => if px_may ci t = true then some (px_set w a (.inr (.inl (t, n, va_up f i.toNatClampNeg (some b))))) else none
      | none => none)
    | _, _ => none) else none
  | _ => none
def px_len (w : px_H) (a : Nat) : Option Int32 := match w.2 a with
  | some (.inl (_, n, _)) => some (Int32.ofNat n)
  | some (.inr (.inl (_, n, _))) => some (Int32.ofNat n)
  | _ => none
def px_cpy (w : px_H) (a0 : Nat) (sp : Int32) (a : Nat) (dp n : Int32) : Option px_H := match w.2 a0, w.2 a with
  | some (.inl (t0, n0, f)), some (.inl (t1, n1, g)) => if t0 = .int ∧ t1 = .int ∧ ¬ sp < 0 ∧ ¬ dp < 0 ∧ ¬ n < 0 ∧ sp.toNatClampNeg + n.toNatClampNeg ≤ n0 ∧ dp.toNatClampNeg + n.toNatClampNeg ≤ n1 then
      some (px_set w a (.inl (t1, n1, va_cpy f g sp.toNatClampNeg dp.toNatClampNeg n.toNatClampNeg))) else none
  | _, _ => none
def px_dfl : FieldType → Value
  | .int => .int 0
  | _ => .null
def px_nf (r : vw_C) (j : Nat) : Value := match parseFieldDescriptor (r.2.1 j).2.2.1 with
  | some t => px_dfl t
  | none => .null
def px_newf (r : vw_C) : List Value := (List.range r.2.2).map (px_nf r)
def px_new (ci : Nat) : Option px_E := match vwCl[ci]? with
  | some q => some (.inr (.inr (ci, px_newf q)))
  | none => none
def px_jmp (pc : Nat) (off : Int) : Option Nat := if 0 ≤ (pc : Int) + off then some ((pc : Int) + off).toNat else none
def px_cmp (c : Jvm.ClassFile.Cond) (x y : Int32) : Bool := match c with
  | .eq => decide (x = y)
  | .ne => decide (¬ x = y)
  | .lt => decide (x < y)
  | .ge => decide (y ≤ x)
  | .gt => decide (y < x)
  | .le => decide (x ≤ y)
def px_tsw (pc : Nat) (dflt lo hi : Int) (offs : Array Int) (x : Int32) : Option Nat :=
  if x.toInt < lo ∨ hi < x.toInt then px_jmp pc dflt else (match offs[(x.toInt - lo).toNat]? with | some o => px_jmp pc o | none => none)
def px_lsw (pc : Nat) (dflt : Int) (ps : Array (Int × Int)) (x : Int32) : Option Nat :=
  if (ps.toList.zip (ps.toList.drop 1)).all (fun (a, next) => a.1 < next.1) = true then px_jmp pc (Op.lookupswitch.offset ps.toList dflt x.toInt) else none
/-- a call: the arguments' number, what stands below them -/
def px_iv (k : Nat) (st : List Value) : Option (List Value × List Value) := if k ≤ st.length ∧ (st.drop k).length ≤ 8 then some ((st.take k).reverse, st.drop k) else none
def px_nat (t : Jvm.ClassFile.ArrayType) : Option FieldType := match t with
  | .int => some .int
  | .byte => some .byte
  | .boolean => some .boolean
  | _ => none
/-- one step -/
def px_act (m : px_M) (i : Jvm.ClassFile.Instr) (X : px_X) (pc : Nat) (L : px_L) (st : List Value) (w : px_H) (k : Nat) : Option px_A := match i with
  | .aconst_null => some (.inl (pc + 1, L, .null :: st, w, k))
  | .iconst n => some (.inl (pc + 1, L, .int (Int32.ofInt n) :: st, w, k))
  | .bipush n => some (.inl (pc + 2, L, .int (Int8.ofInt n).toInt32 :: st, w, k))
  | .sipush n => some (.inl (pc + 3, L, .int (Int16.ofInt n).toInt32 :: st, w, k))
  | .ldc _ => some (.inl (pc + 2, L, .int X.2.2.2.1 :: st, w, k))
  | .ldc_w _ => some (.inl (pc + 3, L, .int X.2.2.2.1 :: st, w, k))
  | .iload j => (match L[j]? with | some (some (.int x)) => some (.inl (pc + 2, L, .int x :: st, w, k)) | _ => none)
  | .iload_n j => (match L[j.val]? with | some (some (.int x)) => some (.inl (pc + 1, L, .int x :: st, w, k)) | _ => none)
  | .aload j => (match L[j]? with | some (some v) => if px_isr v = true then some (.inl (pc + 2, L, v :: st, w, k)) else none | _ => none)
  | .aload_n j => (match L[j.val]? with | some (some v) => if px_isr v = true then some (.inl (pc + 1, L, v :: st, w, k)) else none | _ => none)
  | .istore j => (match st with | .int x :: st => if j < L.length then some (.inl (pc + 2, L.set j (some (.int x)), st, w, k)) else none | _ => none)
  | .istore_n j => (match st with | .int x :: st => if j.val < L.length then some (.inl (pc + 1, L.set j.val (some (.int x)), st, w, k)) else none | _ => none)
  | .astore j => (match st with | v :: st => if px_isr v = true ∧ j < L.length then some (.inl (pc + 2, L.set j (some v), st, w, k)) else none | _ => none)
  | .astore_n j => (match st with | v :: st => if px_isr v = true ∧ j.val < L.length then some (.inl (pc + 1, L.set j.val (some v), st, w, k)) else none | _ => none)
  | .iinc j n => (match L[j]? with | some (some (.int x)) => some (.inl (pc + 3, L.set j (some (.int (x + Int32.ofInt n))), st, w, k)) | _ => none)
  | .iadd => (match st with | .int y :: .int x :: st => some (.inl (pc + 1, L, .int (x + y) :: st, w, k)) | _ => none)
  | .isub => (match st with | .int y :: .int x :: st => some (.inl (pc + 1, L, .int (x - y) :: st, w, k)) | _ => none)
  | .imul => (match st with | .int y :: .int x :: st => some (.inl (pc + 1, L, .int (x * y) :: st, w, k)) | _ => none)
  | .iand => (match st with | .int y :: .int x :: st => some (.inl (pc + 1, L, .int (x &&& y) :: st, w, k)) | _ => none)
  | .ior => (match st with | .int y :: .int x :: st => some (.inl (pc + 1, L, .int (x ||| y) :: st, w, k)) | _ => none)
  | .ixor => (match st with | .int y :: .int x :: st => some (.inl (pc + 1, L, .int (x ^^^ y) :: st, w, k)) | _ => none)
  | .ishl => (match st with | .int y :: .int x :: st => some (.inl (pc + 1, L, .int (x <<< (y &&& 31)) :: st, w, k)) | _ => none)
  | .ishr => (match st with | .int y :: .int x :: st => some (.inl (pc + 1, L, .int (x >>> (y &&& 31)) :: st, w, k)) | _ => none)
  | .iushr => (match st with | .int y :: .int x :: st => some (.inl (pc + 1, L, .int (x.toUInt32 >>> (y.toUInt32 &&& Int32.toUInt32 31)).toInt32 :: st, w, k)) | _ => none)
  | .idiv => (match st with | .int y :: .int x :: st => (if y = 0 then none else some (x / y)).map (fun z => .inl (pc + 1, L, .int z :: st, w, k)) | _ => none)
  | .irem => (match st with | .int y :: .int x :: st => (if y = 0 then none else some (x - x / y * y)).map (fun z => .inl (pc + 1, L, .int z :: st, w, k)) | _ => none)
  | .ineg => (match st with | .int x :: st => some (.inl (pc + 1, L, .int (-x) :: st, w, k)) | _ => none)
  | .i2b => (match st with | .int x :: st => some (.inl (pc + 1, L, .int x.toInt8.toInt32 :: st, w, k)) | _ => none)
  | .i2s => (match st with | .int x :: st => some (.inl (pc + 1, L, .int x.toInt16.toInt32 :: st, w, k)) | _ => none)
  | .dup => (match st with | v :: st => some (.inl (pc + 1, L, v :: v :: st, w, k)) | _ => none)
  | .pop => (match st with | _ :: st => some (.inl (pc + 1, L, st, w, k)) | _ => none)
  | .goto off => (px_jmp pc off).map (fun t => .inl (t, L, st, w, k))
  | .ifCond c off => (match st with | .int x :: st => (if px_cmp c x 0 = true then px_jmp pc off else some (pc + 3)).map (fun t => .inl (t, L, st, w, k)) | _ => none)
  | .if_icmp c off => (match st with | .int y :: .int x :: st => (if px_cmp c x y = true then px_jmp pc off else some (pc + 3)).map (fun t => .inl (t, L, st, w, k)) | _ => none)
  | .ifnull off => (match st with | .null :: st => (px_jmp pc off).map (fun t => .inl (t, L, st, w, k)) | .ref _ :: st => some (.inl (pc + 3, L, st, w, k)) | _ => none)
  | .ifnonnull off => (match st with | .ref _ :: st => (px_jmp pc off).map (fun t => .inl (t, L, st, w, k)) | .null :: st => some (.inl (pc + 3, L, st, w, k)) | _ => none)
  | .tableswitch d lo hi offs => (match st with | .int x :: st => (px_tsw pc d lo hi offs x).map (fun t => .inl (t, L, st, w, k)) | _ => none)
  | .lookupswitch d ps => (match st with | .int x :: st => (px_lsw pc d ps x).map (fun t => .inl (t, L, st, w, k)) | _ => none)
  | .getfield _ => (match st with | .ref a :: st => (px_fld w a X.2.2.1 X.2.1).map (fun v => .inl (pc + 3, L, v :: st, w, k)) | _ => none)
  | .putfield _ => (match st with | v :: .ref a :: st => (if (X.2.2.1.all (fun q => match px_fty q.1 X.2.1 with | some t => px_fit t v | none => false)) = true then px_pfd w a X.2.2.1 X.2.1 v else none).map (fun w => .inl (pc + 3, L, st, w, k)) | _ => none)
  | .iaload => (match st with | .int i :: .ref a :: st => (px_ald w a i .int).map (fun x => .inl (pc + 1, L, .int x :: st, w, k)) | _ => none)
  | .iastore => (match st with | .int x :: .int i :: .ref a :: st => (px_ast w a i x .int).map (fun w => .inl (pc + 1, L, st, w, k)) | _ => none)
  | .baload => (match st with | .int i :: .ref a :: st => (px_bld w a i).map (fun x => .inl (pc + 1, L, .int x :: st, w, k)) | _ => none)
  | .bastore => (match st with | .int x :: .int i :: .ref a :: st => (px_bst w a i x).map (fun w => .inl (pc + 1, L, st, w, k)) | _ => none)
  | .aaload => (match st with | .int i :: .ref a :: st => (px_rld w a i).map (fun v => .inl (pc + 1, L, v :: st, w, k)) | _ => none)
  | .aastore => (match st with | v :: .int i :: .ref a :: st => (px_rst w a i v).map (fun w => .inl (pc + 1, L, st, w, k)) | _ => none)
  | .arraylength => (match st with | .ref a :: st => (px_len w a).map (fun x => .inl (pc + 1, L, .int x :: st, w, k)) | _ => none)
  | .new _ => (if k + 1 ≤ px_mc m then px_new X.2.1 else none).map (fun c => .inl (pc + 3, L, .ref w.1 :: st, px_add w c, k + 1))
  | .newarray t => (match st with | .int n :: st => (if k + 1 ≤ px_mc m ∧ ¬ n < 0 ∧ n.toNatClampNeg ≤ 320 then px_nat t else none).map (fun ty => .inl (pc + 2, L, .ref w.1 :: st, px_add w (.inl (ty, n.toNatClampNeg, fun _ => 0)), k + 1)) | _ => none)
  | .anewarray _ => (match st with | .int n :: st => if k + 1 ≤ px_mc m ∧ ¬ n < 0 ∧ n.toNatClampNeg ≤ 320 then some (.inl (pc + 3, L, .ref w.1 :: st, px_add w (.inr (.inl (.object X.2.2.2.2, n.toNatClampNeg, fun _ => none))), k + 1)) else none | _ => none)
  | .ireturn => (match st with | [.int x] => (match px_mr m with | some .int => some (.inr (.inl (some (.int x), w))) | some .boolean => if x = 0 ∨ x = 1 then some (.inr (.inl (some (.int x), w))) else none | _ => none) | _ => none)
  | .areturn => (match st with | [v] => (match px_mr m with | some (.object _) => if px_isr v = true then some (.inr (.inl (some v, w))) else none | _ => none) | _ => none)
  | .return_ => (match st with | [] => (match px_mr m with | none => some (.inr (.inl (none, w))) | _ => none) | _ => none)
  | .invokestatic _ => if X.1 = 37 then (match st with | .int n :: .int dp :: .ref a :: .int sp :: .ref a0 :: st => if st.length ≤ 8 then (px_cpy w a0 sp a dp n).map (fun w => .inl (pc + 3, L, st, w, k)) else none | _ => none)
      else (match px_iv X.2.1 st, X.2.2.1 with | some (as, st), [(_, M)] => some (.inr (.inr (M, as, (pc + 3, L, st, w, k)))) | _, _ => none)
  | .invokespecial _ => if X.1 = 36 then (match st with | .ref _ :: st => if st.length ≤ 8 then some (.inl (pc + 3, L, st, w, k)) else none | _ => none)
      else (match px_iv X.2.1 st, X.2.2.1 with | some (as, .ref b :: st), [(_, M)] => (if X.1 = 35 then px_cls w b else some 0).map (fun _ => .inr (.inr (M, .ref b :: as, (pc + 3, L, st, w, k)))) | _, _ => none)
  | .invokevirtual _ => (match px_iv X.2.1 st with | some (as, .ref b :: st) => ((px_cls w b).bind (fun ci => X.2.2.1.lookup ci)).map (fun M => .inr (.inr (M, .ref b :: as, (pc + 3, L, st, w, k)))) | _ => none)
  | _ => none
/-- the locals at a method's entry -/
def px_en (n : Nat) (as : List Value) : px_L := as.map some ++ List.replicate (n - as.length) none
/-- the run: fuel, depth, method -/
def px_ex (T : List px_M) : Nat → Nat → Nat → px_S → Option (Option Value × px_H)
  | 0, _, _, _ => none
  | n + 1, d, M, S => (match T[M]? with
    | none => none
    | some m => (match (px_mi m).lookup S.1 with
      | none => none
      | some q => (match px_act m q.1 q.2.2 S.1 S.2.1 S.2.2.1 S.2.2.2.1 S.2.2.2.2 with
        | none => none
        | some (.inl S') => px_ex T n d M S'
        | some (.inr (.inl r)) => some r
        | some (.inr (.inr c)) => (match d with
          | 0 => none
          | d' + 1 => (match T[c.1]? with
            | none => none
            | some m' => if c.2.1.length ≤ px_ml m' ∧ c.2.2.2.2.2.2 + px_mc m' ≤ px_mc m then
                (match px_ex T n d' c.1 (0, px_en (px_ml m') c.2.1, [], c.2.2.2.2.2.1, 0) with
                | none => none
                | some r => px_ex T n (d' + 1) M (c.2.2.1, c.2.2.2.1, r.1.toList ++ c.2.2.2.2.1, r.2, c.2.2.2.2.2.2 + px_mc m'))
                else none)))))
theorem px_mono (T : List px_M) : ∀ (n d M : Nat) (S : px_S) (r : Option Value × px_H), px_ex T n d M S = some r → px_ex T (n + 1) d M S = some r := by
  intro n
  induction n with
  | zero => intro d M S r h; simp [px_ex] at h
  | succ n ih =>
    intro d M S r h
    rw [px_ex] at h ⊢
    cases hm : T[M]? with
    | none => simp only [hm] at h; cases h
    | some m =>
      simp only [hm] at h ⊢
      cases hi : (px_mi m).lookup S.1 with
      | none => simp only [hi] at h; cases h
      | some q =>
        simp only [hi] at h ⊢
        cases ha : px_act m q.1 q.2.2 S.1 S.2.1 S.2.2.1 S.2.2.2.1 S.2.2.2.2 with
        | none => simp only [ha] at h; cases h
        | some A =>
          simp only [ha] at h ⊢
          rcases A with S' | r' | c
          · exact ih _ _ _ _ h
          · exact h
          · cases d with
            | zero => cases h
            | succ d' =>
              dsimp only at h ⊢
              cases hm' : T[c.1]? with
              | none => simp only [hm'] at h; cases h
              | some m' =>
                simp only [hm'] at h ⊢
                by_cases hc : c.2.1.length ≤ px_ml m' ∧ c.2.2.2.2.2.2 + px_mc m' ≤ px_mc m
                · rw [if_pos hc] at h ⊢
                  cases hr : px_ex T n d' c.1 (0, px_en (px_ml m') c.2.1, [], c.2.2.2.2.2.1, 0) with
                  | none => simp only [hr] at h; cases h
                  | some r1 =>
                    rw [ih _ _ _ _ hr]
                    simp only [hr] at h ⊢
                    exact ih _ _ _ _ h
                · rw [if_neg hc] at h; cases h
theorem px_monoN (T : List px_M) {n n' d M : Nat} {S : px_S} {r : Option Value × px_H} (h : px_ex T n d M S = some r) (hn : n ≤ n') : px_ex T n' d M S = some r := by
  induction hn with
  | refl => exact h
  | step _ ih => exact px_mono T _ _ _ _ _ ih
theorem px_det (T : List px_M) {n n' d M : Nat} {S : px_S} {r r' : Option Value × px_H} (h : px_ex T n d M S = some r) (h' : px_ex T n' d M S = some r') : r = r' := by
  have a := px_monoN T h (Nat.le_max_left n n')
  have b := px_monoN T h' (Nat.le_max_right n n')
  exact Option.some.inj (a.symm.trans b)
/-- it comes to its end, with Q -/
def px_wp (T : List px_M) (d M pc : Nat) (L : px_L) (st : List Value) (w : px_H) (k : Nat) (Q : Option Value → px_H → Prop) : Prop := ∃ (n : Nat) (r : Option Value) (w' : px_H), px_ex T n d M (pc, L, st, w, k) = some (r, w') ∧ Q r w'
def px_wc (T : List px_M) (d M : Nat) (as : List Value) (w : px_H) (Q : Option Value → px_H → Prop) : Prop := ∃ m, T[M]? = some m ∧ as.length ≤ px_ml m ∧ px_wp T d M 0 (px_en (px_ml m) as) [] w 0 Q
def px_op {α : Type} (o : Option α) (K : α → Prop) : Prop := match o with
  | some v => K v
  | none => False
theorem px_op_some {α : Type} (v : α) (K : α → Prop) : px_op (some v) K = K v := rfl
theorem px_op_none {α : Type} (K : α → Prop) : px_op none K = False := rfl
section PXR
variable {T : List px_M} {d M pc k : Nat} {L : px_L} {st : List Value} {w : px_H} {Q : Option Value → px_H → Prop} {m : px_M} {q : px_I}
theorem px_go (hm : T[M]? = some m) (hi : (px_mi m).lookup pc = some q) {S' : px_S} (ha : px_act m q.1 q.2.2 pc L st w k = some (.inl S')) : px_wp T d M pc L st w k Q ↔ px_wp T d M S'.1 S'.2.1 S'.2.2.1 S'.2.2.2.1 S'.2.2.2.2 Q := by
  constructor
  · rintro ⟨n, r, w', h, hq⟩
    cases n with
    | zero => simp [px_ex] at h
    | succ n =>
      rw [px_ex] at h
      simp only [hm, hi, ha] at h
      exact ⟨n, r, w', h, hq⟩
  · rintro ⟨n, r, w', h, hq⟩
    refine ⟨n + 1, r, w', ?_, hq⟩
    rw [px_ex]
    simp only [hm, hi, ha]
    exact h
theorem px_goO (hm : T[M]? = some m) (hi : (px_mi m).lookup pc = some q) {α : Type} {o : Option α} {S' : α → px_S} (ha : px_act m q.1 q.2.2 pc L st w k = o.map (fun v => .inl (S' v))) : px_wp T d M pc L st w k Q ↔ px_op o (fun v => px_wp T d M (S' v).1 (S' v).2.1 (S' v).2.2.1 (S' v).2.2.2.1 (S' v).2.2.2.2 Q) := by
  cases o with
  | some v => exact px_go hm hi ha
  | none =>
    refine ⟨?_, fun h => h.elim⟩
    rintro ⟨n, r, w', h, hq⟩
    cases n with
    | zero => simp [px_ex] at h
    | succ n =>
      rw [px_ex] at h
      simp only [hm, hi, ha, Option.map_none] at h
      cases h
theorem px_ret (hm : T[M]? = some m) (hi : (px_mi m).lookup pc = some q) {r : Option Value} (ha : px_act m q.1 q.2.2 pc L st w k = some (.inr (.inl (r, w)))) : px_wp T d M pc L st w k Q ↔ Q r w := by
  constructor
  · rintro ⟨n, r', w', h, hq⟩
    cases n with
    | zero => simp [px_ex] at h
    | succ n =>
      rw [px_ex] at h
      simp only [hm, hi, ha] at h
      cases h
      exact hq
  · intro hq
    refine ⟨1, r, w, ?_, hq⟩
    rw [px_ex]
    simp only [hm, hi, ha]
theorem px_retI (hm : T[M]? = some m) (hi : (px_mi m).lookup pc = some q) {c : Prop} [Decidable c] {r : Option Value} (ha : px_act m q.1 q.2.2 pc L st w k = if c then some (.inr (.inl (r, w))) else none) : px_wp T d M pc L st w k Q ↔ c ∧ Q r w := by
  by_cases hc : c
  · rw [if_pos hc] at ha
    rw [px_ret hm hi ha]
    exact ⟨fun h => ⟨hc, h⟩, fun h => h.2⟩
  · rw [if_neg hc] at ha
    refine ⟨?_, fun h => absurd h.1 hc⟩
    rintro ⟨n, r, w', h, hq⟩
    cases n with
    | zero => simp [px_ex] at h
    | succ n =>
      rw [px_ex] at h
      simp only [hm, hi, ha] at h
      cases h
theorem px_call (hm : T[M]? = some m) (hi : (px_mi m).lookup pc = some q) {α : Type} {o : Option α} {c : α → Nat × List Value × px_S} (ha : px_act m q.1 q.2.2 pc L st w k = o.map (fun v => .inr (.inr (c v))))
    {m' : α → px_M} (hm' : ∀ v, o = some v → T[(c v).1]? = some (m' v) ∧ (c v).2.1.length ≤ px_ml (m' v) ∧ (c v).2.2.2.2.2.2 + px_mc (m' v) ≤ px_mc m) :
    px_wp T (d + 1) M pc L st w k Q ↔ px_op o (fun v => px_wc T d (c v).1 (c v).2.1 (c v).2.2.2.2.2.1 (fun r w' => px_wp T (d + 1) M (c v).2.2.1 (c v).2.2.2.1 (r.toList ++ (c v).2.2.2.2.1) w' ((c v).2.2.2.2.2.2 + px_mc (m' v)) Q)) := by
  cases o with
  | none =>
    refine ⟨?_, fun h => h.elim⟩
    rintro ⟨n, r, w', h, hq⟩
    cases n with
    | zero => simp [px_ex] at h
    | succ n =>
      rw [px_ex] at h
      simp only [hm, hi, ha, Option.map_none] at h
      cases h
  | some v =>
    obtain ⟨g1, g2, g3⟩ := hm' v rfl
    rw [px_op_some]
    simp only [Option.map_some] at ha
    constructor
    · rintro ⟨n, r, w', h, hq⟩
      cases n with
      | zero => simp [px_ex] at h
      | succ n =>
        rw [px_ex] at h
        simp only [hm, hi, ha, g1] at h
        rw [if_pos ⟨g2, g3⟩] at h
        cases hr : px_ex T n d (c v).1 (0, px_en (px_ml (m' v)) (c v).2.1, [], (c v).2.2.2.2.2.1, 0) with
        | none => simp only [hr] at h; cases h
        | some r1 =>
          simp only [hr] at h
          exact ⟨m' v, g1, g2, n, r1.1, r1.2, hr, n, r, w', h, hq⟩
    · rintro ⟨m2, e1, e2, n1, r1, w1, h1, n2, r, w', h2, hq⟩
      cases g1.symm.trans e1
      refine ⟨Nat.max n1 n2 + 1, r, w', ?_, hq⟩
      rw [px_ex]
      simp only [hm, hi, ha, g1]
      rw [if_pos ⟨g2, g3⟩, px_monoN T h1 (Nat.le_max_left n1 n2)]
      exact px_monoN T h2 (Nat.le_max_right n1 n2)
end PXR
end
section
/-! how a state of the pure machine stands in the heap of the real one -/
def px_W : List Cond := lw_tbl.filter goodWord
def px_zk : Cond → Bool
  | .fieldLinkNest .. => true
  | .methodLinkNest .. => true
  | .declares _ => true
  | .castable .. => true
  | .arrayOver (.object _) => true
  | _ => false
def px_Z : List Cond := lw_tbl.filter px_zk
def px_N (U : State) : Prop := ∀ c ∈ px_Z, c.before #[] U = true
theorem px_N.warm {s U : State} (hW : s.WarmedH U.vm) (h : px_N s) : px_N U := by
  intro c hc
  have hk : px_zk c = true := (List.mem_filter.mp hc).2
  have h0 := h c hc
  cases c with
  | fieldLinkNest a i b n d x => exact va_Nw.warmF hW h0
  | methodLinkNest a i x y => exact va_Nw.warmM hW h0
  | declares x => exact va_Nw.warmD hW h0
  | castable a b => exact va_Nw.warmC hW h0
  | arrayOver ty =>
    cases ty with
    | object C => exact va_AO.moved hW.alike h0
    | _ => cases hk
  | _ => cases hk
theorem px_N.same {s U : State} (hv : s.vm = U.vm) (h : px_N s) : px_N U := by
  intro c hc
  have hk : px_zk c = true := (List.mem_filter.mp hc).2
  have h0 := h c hc
  cases c with
  | fieldLinkNest a i b n d x => exact va_Nw.same rfl hv h0
  | methodLinkNest a i x y => exact va_Nw.same rfl hv h0
  | declares x => exact va_Nw.same rfl hv h0
  | castable a b => exact va_Nw.same rfl hv h0
  | arrayOver ty =>
    cases ty with
    | object C => exact va_AO.moved (by rw [hv]; exact Vm.Alike.refl _) h0
    | _ => cases hk
  | _ => cases hk
def px_v (as : List Nat) : Value → Value
  | .ref i => .ref (as.getD i 0)
  | v => v
def px_vok (n : Nat) : Value → Prop
  | .int _ => True
  | .null => True
  | .ref i => i < n
  | _ => False
theorem px_vok.le {n n' : Nat} (hn : n ≤ n') {v : Value} (h : px_vok n v) : px_vok n' v := by
  cases v with
  | ref i => exact Nat.lt_of_lt_of_le h hn
  | int x => trivial
  | null => trivial
  | _ => exact h.elim
theorem px_vok.cat {n : Nat} {v : Value} (h : px_vok n v) : v.category = 1 := by
  cases v with
  | ref i => rfl
  | int x => rfl
  | null => rfl
  | _ => exact h.elim
theorem px_v_cat {as : List Nat} {v : Value} : (px_v as v).category = v.category := by
  cases v <;> rfl
theorem px_getD {as l : List Nat} {i : Nat} (h : i < as.length) : (as ++ l).getD i 0 = as.getD i 0 := by
  simp [List.getD, List.getElem?_append_left h]
theorem px_v_app {as l : List Nat} {v : Value} (h : px_vok as.length v) : px_v (as ++ l) v = px_v as v := by
  cases v with
  | ref i => show Value.ref _ = Value.ref _; rw [px_getD h]
  | _ => rfl
def px_ce (as : List Nat) (tys : List (ClassId × FieldType)) : px_E → va_E → Prop
  | .inl (ty, n, f), e => ∃ (cA : ClassId) (t0 : Nat), tys[t0]? = some (cA, ty) ∧ e = .inl (cA, n, .inl f)
  | .inr (.inl (ty, n, f)), e => ∃ (cA : ClassId) (t0 : Nat), tys[t0]? = some (cA, ty) ∧ e = .inl (cA, n, .inr (.inr (.inr (.inr (fun j => (f j).map (fun i => as.getD i 0))))))
  | .inr (.inr (ci, fs)), e => e = .inr (ci, fs.map (px_v as))
def px_eok (n : Nat) : px_E → Prop
  | .inl _ => True
  | .inr (.inl (_, _, f)) => ∀ j i, f j = some i → i < n
  | .inr (.inr (_, fs)) => ∀ v ∈ fs, px_vok n v
def px_R (as : List Nat) (ws : va_W) (tys : List (ClassId × FieldType)) (w : px_H) : Prop :=
  ws.map Prod.fst = as ∧ as.length = w.1 ∧ ∀ i c, w.2 i = some c → px_eok w.1 c ∧ ∃ e, ws[i]? = some (as.getD i 0, e) ∧ px_ce as tys c e
theorem px_eok.le {n n' : Nat} (hn : n ≤ n') {c : px_E} (h : px_eok n c) : px_eok n' c := by
  rcases c with ⟨ty, k, f⟩ | ⟨ty, k, f⟩ | ⟨ci, fs⟩
  · exact h
  · exact fun j i hj => Nat.lt_of_lt_of_le (h j i hj) hn
  · exact fun v hv => (h v hv).le hn
theorem px_ce.app {as l : List Nat} {tys tl : List (ClassId × FieldType)} {c : px_E} {e : va_E} (hok : px_eok as.length c) (h : px_ce as tys c e) : px_ce (as ++ l) (tys ++ tl) c e := by
  rcases c with ⟨ty, k, f⟩ | ⟨ty, k, f⟩ | ⟨ci, fs⟩
  · obtain ⟨cA, t0, h1, h2⟩ := h
    exact ⟨cA, t0, by rw [List.getElem?_append_left (List.getElem?_eq_some_iff.mp h1).1]; exact h1, h2⟩
  · obtain ⟨cA, t0, h1, h2⟩ := h
    refine ⟨cA, t0, by rw [List.getElem?_append_left (List.getElem?_eq_some_iff.mp h1).1]; exact h1, ?_⟩
    rw [h2]
    congr 7
    funext j
    cases hj : f j with
    | none => rfl
    | some i => exact congrArg some (px_getD (hok j i hj)).symm
  · show e = _
    rw [show e = .inr (ci, fs.map (px_v as)) from h]
    congr 2
    exact List.map_congr_left (fun v hv => (px_v_app (hok v hv)).symm)
theorem px_R.lt {as : List Nat} {ws : va_W} {tys : List (ClassId × FieldType)} {w : px_H} (h : px_R as ws tys w) {i : Nat} {c : px_E} (hc : w.2 i = some c) : i < w.1 := by
  obtain ⟨-, e, he, -⟩ := h.2.2 i c hc
  rw [← h.2.1, ← h.1, List.length_map]
  exact (List.getElem?_eq_some_iff.mp he).1
theorem px_R.set {as : List Nat} {ws : va_W} {tys : List (ClassId × FieldType)} {w : px_H} (h : px_R as ws tys w) {q : Nat} {c0 c : px_E} {e : va_E} (h0 : w.2 q = some c0) (hok : px_eok w.1 c) (hc : px_ce as tys c e) : px_R as (ws.set q (as.getD q 0, e)) tys (px_set w q c) := by
  have hq : q < ws.length := by
    have := h.lt h0
    rw [← h.2.1, ← h.1, List.length_map] at this
    exact this
  refine ⟨?_, h.2.1, fun i c' hc' => ?_⟩
  · rw [List.map_set, h.1]
    refine List.ext_getElem? fun n => ?_
    rw [List.getElem?_set]
    by_cases hn : q = n
    · subst hn
      have : q < as.length := by rw [← h.1, List.length_map]; exact hq
      simp [List.getD, this]
    · simp [hn]
  · by_cases hi : i = q
    · subst hi
      have : some c = some c' := by simpa [px_set] using hc'
      cases this
      exact ⟨hok, e, by rw [List.getElem?_set_self hq], hc⟩
    · have : w.2 i = some c' := by simpa [px_set, hi] using hc'
      obtain ⟨g1, e', g2, g3⟩ := h.2.2 i c' this
      exact ⟨g1, e', by rw [List.getElem?_set_ne (fun x => hi x.symm)]; exact g2, g3⟩
theorem px_R.add {as : List Nat} {ws : va_W} {tys tl : List (ClassId × FieldType)} {w : px_H} (h : px_R as ws tys w) {q : Nat} {c : px_E} {e : va_E} (hok : px_eok w.1 c) (hc : px_ce (as ++ [q]) (tys ++ tl) c e) : px_R (as ++ [q]) (ws ++ [(q, e)]) (tys ++ tl) (px_add w c) := by
  have hl : ws.length = w.1 := by rw [← h.2.1, ← h.1, List.length_map]
  refine ⟨by rw [List.map_append, h.1]; rfl, by rw [List.length_append, h.2.1]; rfl, fun i c' hc' => ?_⟩
  by_cases hi : i = w.1
  · subst hi
    have : some c = some c' := by simpa [px_add] using hc'
    cases this
    refine ⟨hok.le (Nat.le_succ _), e, ?_, hc⟩
    rw [List.getElem?_append_right (by omega), hl, Nat.sub_self]
    simp [List.getD, ← h.2.1]
  · have h2 : w.2 i = some c' := by simpa [px_add, hi] using hc'
    obtain ⟨g1, e', g2, g3⟩ := h.2.2 i c' h2
    have hlt := h.lt h2
    refine ⟨g1.le (Nat.le_succ _), e', ?_, px_ce.app (by rw [h.2.1]; exact g1) g3⟩
    rw [List.getElem?_append_left (by omega), g2, px_getD (by rw [h.2.1]; exact hlt)]
/-- the locals, as the kit lists them -/
def px_lv (as : List Nat) (L : px_L) : List (Nat × Value) := (List.range L.length).filterMap (fun j => match L[j]? with | some (some v) => some (j, px_v as v) | _ => none)
theorem px_lv_mem {as : List Nat} {L : px_L} {j : Nat} {x : Value} : (j, x) ∈ px_lv as L ↔ ∃ v, L[j]? = some (some v) ∧ x = px_v as v := by
  constructor
  · intro h
    obtain ⟨i, hi, hx⟩ := List.mem_filterMap.mp h
    cases hL : L[i]? with
    | none => simp [hL] at hx
    | some o =>
      cases o with
      | none => simp [hL] at hx
      | some v =>
        simp only [hL] at hx
        cases hx
        exact ⟨v, hL, rfl⟩
  · rintro ⟨v, hL, rfl⟩
    refine List.mem_filterMap.mpr ⟨j, List.mem_range.mpr (List.getElem?_eq_some_iff.mp hL).1, ?_⟩
    simp [hL]
def px_lo (as : List Nat) (L : px_L) (ls : Array Slot) (n : Nat) : Prop := lv_has ls n (px_lv as L) ∧ L.length = n ∧ ∀ (j : Nat) (v : Value), L[j]? = some (some v) → px_vok as.length v
theorem px_lo.at {as : List Nat} {L : px_L} {ls : Array Slot} {n j : Nat} {v : Value} (h : px_lo as L ls n) (hj : L[j]? = some (some v)) : ls[j]? = some (.val (px_v as v)) := h.1.2.2 (j, px_v as v) (px_lv_mem.mpr ⟨v, hj, rfl⟩)
theorem px_lo.app {as l : List Nat} {L : px_L} {ls : Array Slot} {n : Nat} (h : px_lo as L ls n) : px_lo (as ++ l) L ls n := by
  refine ⟨⟨h.1.1, h.1.2.1, fun q hq => ?_⟩, h.2.1, fun j v hj => (h.2.2 j v hj).le (by simp)⟩
  obtain ⟨j, x⟩ := q
  obtain ⟨v, hv, rfl⟩ := px_lv_mem.mp hq
  rw [px_v_app (h.2.2 j v hv)]
  exact h.at hv
theorem px_lo.pre {as as' : List Nat} {L : px_L} {ls : Array Slot} {n : Nat} (hp : as <+: as') (h : px_lo as L ls n) : px_lo as' L ls n := by
  obtain ⟨t, rfl⟩ := hp
  exact h.app
/-- after a store -/
theorem px_lo.store {as : List Nat} {L : px_L} {ls ls' : Array Slot} {n i : Nat} {v : Value} (h : px_lo as L ls n) (hi : i < L.length) (hv : px_vok as.length v)
    (h' : lv_has ls' n ((i, px_v as v) :: (px_lv as L).filter (fun q => !(q.1 == i) && !(q.1 + 1 == i && q.2.category == 2)))) : px_lo as (L.set i (some v)) ls' n := by
  refine ⟨⟨h'.1, h'.2.1, fun q hq => ?_⟩, by rw [List.length_set]; exact h.2.1, fun j u hj => ?_⟩
  · obtain ⟨j, x⟩ := q
    obtain ⟨u, hu, rfl⟩ := px_lv_mem.mp hq
    by_cases hj : j = i
    · subst hj
      rw [List.getElem?_set_self hi] at hu
      cases hu
      exact h'.2.2 _ List.mem_cons_self
    · rw [List.getElem?_set_ne (fun x => hj x.symm)] at hu
      refine h'.2.2 _ (List.mem_cons_of_mem _ (List.mem_filter.mpr ⟨px_lv_mem.mpr ⟨u, hu, rfl⟩, ?_⟩))
      have hc : (px_v as u).category = 1 := by rw [px_v_cat]; exact (h.2.2 j u hu).cat
      simp [hj, hc]
  · by_cases hj' : j = i
    · subst hj'
      rw [List.getElem?_set_self hi] at hj
      cases hj
      exact hv
    · rw [List.getElem?_set_ne (fun x => hj' x.symm)] at hj
      exact h.2.2 j u hj
def px_sok (n : Nat) (st : List Value) : Prop := ∀ v ∈ st, px_vok n v
theorem px_sok.map {as l : List Nat} {st : List Value} (h : px_sok as.length st) : st.map (px_v (as ++ l)) = st.map (px_v as) := List.map_congr_left (fun v hv => px_v_app (h v hv))
theorem px_sok.cat {n : Nat} {as : List Nat} {st : List Value} (h : px_sok n st) : ((st.map (px_v as)).map fun v => v.category).sum = st.length := by
  induction st with
  | nil => rfl
  | cons v st ih =>
    have h1 := (h v List.mem_cons_self).cat
    have h2 := ih (fun u hu => h u (List.mem_cons_of_mem _ hu))
    simp only [List.map_cons, List.sum_cons, List.length_cons, px_v_cat, h1]
    rw [h2]
    omega
end
section
/-! one instruction of the real machine for one step of the pure one -/
def px_rm (d : Nat) (m : px_M) : Room := { frames := d + 1, cells := px_mc m, slots := 320 * px_mc m, locals := 40 * (d + 1) }
def px_C (m : px_M) (p : Program) (s : State) (mi : MethodId) (args : Array Value) (meth : Method) (c : Code) (A : Nat → Prop) : Prop :=
  p.tables.exec = Jvm.exec ∧ c.code = px_mb m ∧ c.maxLocals = px_ml m ∧ s.vm.findClass (px_my m).cls = some mi.cls ∧ (∀ w ∈ px_W, w.before args s = true) ∧ px_N s ∧ meth.sig.returnType = px_mr m ∧ meth.locks = false ∧ meth.name = (px_my m).name ∧ (∀ q, s.heap.size ≤ q → A q)
def px_B (s : State) (A : Nat → Prop) (D : va_G) (as0 as : List Nat) (ws : va_W) (tys : List (ClassId × FieldType)) (H : Heap) (locs : List Loc) (ls : Array Slot) (n : Nat) (L : px_L) (st : List Value) (w : px_H) : Prop :=
  va_K D vwCl tys s ∧ va_P D vwCl ws H ∧ va_D A ws ∧ va_S A s.heap H locs ∧ px_R as ws tys w ∧ as0 <+: as ∧ px_lo as L ls n ∧ px_sok as.length st
def px_Qc (D : va_G) (as0 : List Nat) (Q : Option Value → px_H → Prop) (A : Nat → Prop) : Array Value → State → Outcome → State → Prop := fun _ st oc t =>
  (∃ (r : Option Value) (w' : px_H) (as' : List Nat) (ws' : va_W) (tys' : List (ClassId × FieldType)), oc = .returned (r.map (px_v as')) ∧ Q r w' ∧ as0 <+: as' ∧ (∀ v, r = some v → px_vok as'.length v) ∧ px_R as' ws' tys' w' ∧ va_P D vwCl ws' t.heap ∧ va_K D vwCl tys' t ∧ va_D A ws') ∧ va_F A st t
def px_SW (d : Nat) (m : px_M) (pc : Nat) (L : px_L) (st : List Value) (w : px_H) (k : Nat) (Q : Option Value → px_H → Prop) : Prop :=
  ∀ (p : Program) (l : Launch) (e : Env) (s : State) (mi : MethodId) (args : Array Value) (below : List Frame) (meth : Method) (c : Code) (A : Nat → Prop) (D : va_G) (as0 as : List Nat) (ws : va_W) (tys : List (ClassId × FieldType)) (H : Heap) (locs : List Loc) (ls : Array Slot),
    px_C m p s mi args meth c A → px_B s A D as0 as ws tys H locs ls (px_ml m) L st w → k ≤ px_mc m →
    W p l e (px_rm d m) s mi args below meth c H locs k (320 * k) (MQ below (px_Qc D as0 Q A) args s (px_mc m) (320 * px_mc m) A) (F0 mi pc ls (st.map (px_v as)))
section PXQ
variable {s : State} {A : Nat → Prop} {D : va_G} {as0 as : List Nat} {ws : va_W} {tys : List (ClassId × FieldType)} {H : Heap} {locs : List Loc} {ls : Array Slot} {n : Nat} {L : px_L} {st st' : List Value} {w : px_H}
theorem px_sok.nil {n : Nat} : px_sok n [] := fun _ h => by cases h
theorem px_sok.cons {n : Nat} {v : Value} {st : List Value} (hv : px_vok n v) (h : px_sok n st) : px_sok n (v :: st) := fun u hu => by
  rcases List.mem_cons.mp hu with rfl | hu
  · exact hv
  · exact h u hu
theorem px_sok.hd {n : Nat} {v : Value} {st : List Value} (h : px_sok n (v :: st)) : px_vok n v := h v List.mem_cons_self
theorem px_sok.tl {n : Nat} {v : Value} {st : List Value} (h : px_sok n (v :: st)) : px_sok n st := fun u hu => h u (List.mem_cons_of_mem _ hu)
theorem px_sok.i {n : Nat} {x : Int32} {st : List Value} (h : px_sok n st) : px_sok n (.int x :: st) := px_sok.cons trivial h
theorem px_B.sk (B : px_B s A D as0 as ws tys H locs ls n L st w) : px_sok as.length st := B.2.2.2.2.2.2.2
theorem px_B.lo (B : px_B s A D as0 as ws tys H locs ls n L st w) : px_lo as L ls n := B.2.2.2.2.2.2.1
theorem px_B.r (B : px_B s A D as0 as ws tys H locs ls n L st w) : px_R as ws tys w := B.2.2.2.2.1
theorem px_B.toS (B : px_B s A D as0 as ws tys H locs ls n L st w) (h : px_sok as.length st') : px_B s A D as0 as ws tys H locs ls n L st' w := ⟨B.1, B.2.1, B.2.2.1, B.2.2.2.1, B.2.2.2.2.1, B.2.2.2.2.2.1, B.2.2.2.2.2.2.1, h⟩
theorem px_B.toL {ls' : Array Slot} {L' : px_L} (B : px_B s A D as0 as ws tys H locs ls n L st w) (hl : px_lo as L' ls' n) (h : px_sok as.length st') : px_B s A D as0 as ws tys H locs ls' n L' st' w := ⟨B.1, B.2.1, B.2.2.1, B.2.2.2.1, B.2.2.2.2.1, B.2.2.2.2.2.1, hl, h⟩
end PXQ
section PXU
variable {d : Nat} {m : px_M} {pc k : Nat} {L : px_L} {st : List Value} {w : px_H} {Q : Option Value → px_H → Prop}
theorem px_q_iconst {n : Int} (hd : decode (px_mb m) pc = .ok (.iconst n, 1)) (h : px_SW d m (pc + 1) L (.int (Int32.ofInt n) :: st) w k Q) : px_SW d m pc L st w k Q := by
  intro p l e s mi args below meth c A D as0 as ws tys H locs ls C B hk
  exact lv_iconst C.1 C.2.1 hd rfl (h p l e s mi args below meth c A D as0 as ws tys H locs ls C (B.toS B.sk.i) hk)
theorem px_q_bipush {n : Int} (hd : decode (px_mb m) pc = .ok (.bipush n, 2)) (h : px_SW d m (pc + 2) L (.int ((Int8.ofInt n).toInt32) :: st) w k Q) : px_SW d m pc L st w k Q := by
  intro p l e s mi args below meth c A D as0 as ws tys H locs ls C B hk
  exact lv_bipush C.1 C.2.1 hd rfl (h p l e s mi args below meth c A D as0 as ws tys H locs ls C (B.toS B.sk.i) hk)
theorem px_q_sipush {n : Int} (hd : decode (px_mb m) pc = .ok (.sipush n, 3)) (h : px_SW d m (pc + 3) L (.int ((Int16.ofInt n).toInt32) :: st) w k Q) : px_SW d m pc L st w k Q := by
  intro p l e s mi args below meth c A D as0 as ws tys H locs ls C B hk
  exact lv_sipush C.1 C.2.1 hd rfl (h p l e s mi args below meth c A D as0 as ws tys H locs ls C (B.toS B.sk.i) hk)
theorem px_q_null (hd : decode (px_mb m) pc = .ok (.aconst_null, 1)) (h : px_SW d m (pc + 1) L (.null :: st) w k Q) : px_SW d m pc L st w k Q := by
  intro p l e s mi args below meth c A D as0 as ws tys H locs ls C B hk
  exact lv_null C.1 C.2.1 hd (h p l e s mi args below meth c A D as0 as ws tys H locs ls C (B.toS (px_sok.cons trivial B.sk)) hk)
theorem px_q_ldc {idx : Nat} {v : Int32} (hd : decode (px_mb m) pc = .ok (.ldc idx, 2)) (hc : Cond.constant (px_my m).cls idx v ∈ px_W) (h : px_SW d m (pc + 2) L (.int v :: st) w k Q) : px_SW d m pc L st w k Q := by
  intro p l e s mi args below meth c A D as0 as ws tys H locs ls C B hk
  exact lv_ldc C.1 C.2.1 C.2.2.2.1 (C.2.2.2.2.1 _ hc) hd (h p l e s mi args below meth c A D as0 as ws tys H locs ls C (B.toS B.sk.i) hk)
theorem px_q_ldc_w {idx : Nat} {v : Int32} (hd : decode (px_mb m) pc = .ok (.ldc_w idx, 3)) (hc : Cond.constant (px_my m).cls idx v ∈ px_W) (h : px_SW d m (pc + 3) L (.int v :: st) w k Q) : px_SW d m pc L st w k Q := by
  intro p l e s mi args below meth c A D as0 as ws tys H locs ls C B hk
  exact lv_ldcw C.1 C.2.1 C.2.2.2.1 (C.2.2.2.2.1 _ hc) hd (h p l e s mi args below meth c A D as0 as ws tys H locs ls C (B.toS B.sk.i) hk)
theorem px_q_iload {j : Nat} {x : Int32} (hd : decode (px_mb m) pc = .ok (.iload j, 2)) (hL : L[j]? = some (some (.int x))) (h : px_SW d m (pc + 2) L (.int x :: st) w k Q) : px_SW d m pc L st w k Q := by
  intro p l e s mi args below meth c A D as0 as ws tys H locs ls C B hk
  exact lv_iload C.1 C.2.1 hd (B.lo.at hL) (h p l e s mi args below meth c A D as0 as ws tys H locs ls C (B.toS B.sk.i) hk)
theorem px_q_iload_n {j : Fin 4} {x : Int32} (hd : decode (px_mb m) pc = .ok (.iload_n j, 1)) (hL : L[j.val]? = some (some (.int x))) (h : px_SW d m (pc + 1) L (.int x :: st) w k Q) : px_SW d m pc L st w k Q := by
  intro p l e s mi args below meth c A D as0 as ws tys H locs ls C B hk
  exact lv_iload_n C.1 C.2.1 hd rfl (B.lo.at hL) (h p l e s mi args below meth c A D as0 as ws tys H locs ls C (B.toS B.sk.i) hk)
theorem px_q_aload {j : Nat} {v : Value} (hd : decode (px_mb m) pc = .ok (.aload j, 2)) (hL : L[j]? = some (some v)) (hv : px_isr v = true) (h : px_SW d m (pc + 2) L (v :: st) w k Q) : px_SW d m pc L st w k Q := by
  intro p l e s mi args below meth c A D as0 as ws tys H locs ls C B hk
  have hok := B.lo.2.2 _ _ hL
  have hl := B.lo.at hL
  have h := (h p l e s mi args below meth c A D as0 as ws tys H locs ls C (B.toS (px_sok.cons hok B.sk)) hk)
  cases v with
  | ref i => exact lv_aload C.1 C.2.1 hd hl h
  | null => exact lv_aloadN C.1 C.2.1 hd hl h
  | _ => cases hv
theorem px_q_aload_n {j : Fin 4} {v : Value} (hd : decode (px_mb m) pc = .ok (.aload_n j, 1)) (hL : L[j.val]? = some (some v)) (hv : px_isr v = true) (h : px_SW d m (pc + 1) L (v :: st) w k Q) : px_SW d m pc L st w k Q := by
  intro p l e s mi args below meth c A D as0 as ws tys H locs ls C B hk
  have hok := B.lo.2.2 _ _ hL
  have hl := B.lo.at hL
  have h := (h p l e s mi args below meth c A D as0 as ws tys H locs ls C (B.toS (px_sok.cons hok B.sk)) hk)
  cases v with
  | ref i => exact lv_aload_n C.1 C.2.1 hd rfl hl h
  | null => exact lv_aload_nN C.1 C.2.1 hd rfl hl h
  | _ => cases hv
theorem px_q_istore {j : Nat} {x : Int32} (hd : decode (px_mb m) pc = .ok (.istore j, 2)) (hj : j < L.length) (h : px_SW d m (pc + 2) (L.set j (some (.int x))) st w k Q) : px_SW d m pc L (.int x :: st) w k Q := by
  intro p l e s mi args below meth c A D as0 as ws tys H locs ls C B hk
  exact lv_istore C.1 C.2.1 hd B.lo.1 (by rw [← B.lo.2.1]; exact hj) rfl (fun ls' h' => h p l e s mi args below meth c A D as0 as ws tys H locs ls' C (B.toL (B.lo.store (v := .int x) hj trivial h') B.sk.tl) hk)
theorem px_q_istore_n {j : Fin 4} {x : Int32} (hd : decode (px_mb m) pc = .ok (.istore_n j, 1)) (hj : j.val < L.length) (h : px_SW d m (pc + 1) (L.set j.val (some (.int x))) st w k Q) : px_SW d m pc L (.int x :: st) w k Q := by
  intro p l e s mi args below meth c A D as0 as ws tys H locs ls C B hk
  exact lv_istore_n C.1 C.2.1 hd rfl B.lo.1 (by rw [← B.lo.2.1]; exact hj) rfl (fun ls' h' => h p l e s mi args below meth c A D as0 as ws tys H locs ls' C (B.toL (B.lo.store (v := .int x) hj trivial h') B.sk.tl) hk)
theorem px_q_astore {j : Nat} {v : Value} (hd : decode (px_mb m) pc = .ok (.astore j, 2)) (hj : j < L.length) (hv : px_isr v = true) (h : px_SW d m (pc + 2) (L.set j (some v)) st w k Q) : px_SW d m pc L (v :: st) w k Q := by
  intro p l e s mi args below meth c A D as0 as ws tys H locs ls C B hk
  have hok := B.sk.hd
  cases v with
  | ref i => exact lv_astore C.1 C.2.1 hd B.lo.1 (by rw [← B.lo.2.1]; exact hj) rfl (fun ls' h' => h p l e s mi args below meth c A D as0 as ws tys H locs ls' C (B.toL (B.lo.store (v := .ref i) hj hok h') B.sk.tl) hk)
  | null => exact lv_astoreN C.1 C.2.1 hd B.lo.1 (by rw [← B.lo.2.1]; exact hj) rfl (fun ls' h' => h p l e s mi args below meth c A D as0 as ws tys H locs ls' C (B.toL (B.lo.store (v := .null) hj hok h') B.sk.tl) hk)
  | _ => cases hv
theorem px_q_astore_n {j : Fin 4} {v : Value} (hd : decode (px_mb m) pc = .ok (.astore_n j, 1)) (hj : j.val < L.length) (hv : px_isr v = true) (h : px_SW d m (pc + 1) (L.set j.val (some v)) st w k Q) : px_SW d m pc L (v :: st) w k Q := by
  intro p l e s mi args below meth c A D as0 as ws tys H locs ls C B hk
  have hok := B.sk.hd
  cases v with
  | ref i => exact lv_astore_n C.1 C.2.1 hd rfl B.lo.1 (by rw [← B.lo.2.1]; exact hj) rfl (fun ls' h' => h p l e s mi args below meth c A D as0 as ws tys H locs ls' C (B.toL (B.lo.store (v := .ref i) hj hok h') B.sk.tl) hk)
  | null => exact lv_astore_nN C.1 C.2.1 hd rfl B.lo.1 (by rw [← B.lo.2.1]; exact hj) rfl (fun ls' h' => h p l e s mi args below meth c A D as0 as ws tys H locs ls' C (B.toL (B.lo.store (v := .null) hj hok h') B.sk.tl) hk)
  | _ => cases hv
theorem px_q_iinc {j : Nat} {n : Int} {x : Int32} (hd : decode (px_mb m) pc = .ok (.iinc j n, 3)) (hL : L[j]? = some (some (.int x))) (h : px_SW d m (pc + 3) (L.set j (some (.int (x + Int32.ofInt n)))) st w k Q) : px_SW d m pc L st w k Q := by
  intro p l e s mi args below meth c A D as0 as ws tys H locs ls C B hk
  have hj : j < L.length := (List.getElem?_eq_some_iff.mp hL).1
  obtain ⟨i, hi⟩ := List.getElem?_of_mem (px_lv_mem.mpr ⟨_, hL, rfl⟩ : (j, px_v as (.int x)) ∈ px_lv as L)
  exact lv_iinc C.1 C.2.1 hd B.lo.1 hi rfl (by rw [← B.lo.2.1]; exact hj) rfl (fun ls' h' => h p l e s mi args below meth c A D as0 as ws tys H locs ls' C (B.toL (B.lo.store (v := .int (x + Int32.ofInt n)) hj trivial h') B.sk) hk)
theorem px_q_iadd {x y : Int32} (hd : decode (px_mb m) pc = .ok (.iadd, 1)) (h : px_SW d m (pc + 1) L (.int (x + y) :: st) w k Q) : px_SW d m pc L (.int y :: .int x :: st) w k Q := by
  intro p l e s mi args below meth c A D as0 as ws tys H locs ls C B hk
  exact lv_iadd C.1 C.2.1 hd (h p l e s mi args below meth c A D as0 as ws tys H locs ls C (B.toS B.sk.tl.tl.i) hk)
theorem px_q_isub {x y : Int32} (hd : decode (px_mb m) pc = .ok (.isub, 1)) (h : px_SW d m (pc + 1) L (.int (x - y) :: st) w k Q) : px_SW d m pc L (.int y :: .int x :: st) w k Q := by
  intro p l e s mi args below meth c A D as0 as ws tys H locs ls C B hk
  exact lv_isub C.1 C.2.1 hd (h p l e s mi args below meth c A D as0 as ws tys H locs ls C (B.toS B.sk.tl.tl.i) hk)
theorem px_q_imul {x y : Int32} (hd : decode (px_mb m) pc = .ok (.imul, 1)) (h : px_SW d m (pc + 1) L (.int (x * y) :: st) w k Q) : px_SW d m pc L (.int y :: .int x :: st) w k Q := by
  intro p l e s mi args below meth c A D as0 as ws tys H locs ls C B hk
  exact lv_imul C.1 C.2.1 hd (h p l e s mi args below meth c A D as0 as ws tys H locs ls C (B.toS B.sk.tl.tl.i) hk)
theorem px_q_iand {x y : Int32} (hd : decode (px_mb m) pc = .ok (.iand, 1)) (h : px_SW d m (pc + 1) L (.int (x &&& y) :: st) w k Q) : px_SW d m pc L (.int y :: .int x :: st) w k Q := by
  intro p l e s mi args below meth c A D as0 as ws tys H locs ls C B hk
  exact lv_iand C.1 C.2.1 hd (h p l e s mi args below meth c A D as0 as ws tys H locs ls C (B.toS B.sk.tl.tl.i) hk)
theorem px_q_ior {x y : Int32} (hd : decode (px_mb m) pc = .ok (.ior, 1)) (h : px_SW d m (pc + 1) L (.int (x ||| y) :: st) w k Q) : px_SW d m pc L (.int y :: .int x :: st) w k Q := by
  intro p l e s mi args below meth c A D as0 as ws tys H locs ls C B hk
  exact lv_ior C.1 C.2.1 hd (h p l e s mi args below meth c A D as0 as ws tys H locs ls C (B.toS B.sk.tl.tl.i) hk)
theorem px_q_ixor {x y : Int32} (hd : decode (px_mb m) pc = .ok (.ixor, 1)) (h : px_SW d m (pc + 1) L (.int (x ^^^ y) :: st) w k Q) : px_SW d m pc L (.int y :: .int x :: st) w k Q := by
  intro p l e s mi args below meth c A D as0 as ws tys H locs ls C B hk
  exact lv_ixor C.1 C.2.1 hd (h p l e s mi args below meth c A D as0 as ws tys H locs ls C (B.toS B.sk.tl.tl.i) hk)
theorem px_q_ishl {x y : Int32} (hd : decode (px_mb m) pc = .ok (.ishl, 1)) (h : px_SW d m (pc + 1) L (.int (x <<< (y &&& 31)) :: st) w k Q) : px_SW d m pc L (.int y :: .int x :: st) w k Q := by
  intro p l e s mi args below meth c A D as0 as ws tys H locs ls C B hk
  exact lv_ishl C.1 C.2.1 hd (h p l e s mi args below meth c A D as0 as ws tys H locs ls C (B.toS B.sk.tl.tl.i) hk)
theorem px_q_ishr {x y : Int32} (hd : decode (px_mb m) pc = .ok (.ishr, 1)) (h : px_SW d m (pc + 1) L (.int (x >>> (y &&& 31)) :: st) w k Q) : px_SW d m pc L (.int y :: .int x :: st) w k Q := by
  intro p l e s mi args below meth c A D as0 as ws tys H locs ls C B hk
  exact lv_ishr C.1 C.2.1 hd (h p l e s mi args below meth c A D as0 as ws tys H locs ls C (B.toS B.sk.tl.tl.i) hk)
theorem px_q_iushr {x y : Int32} (hd : decode (px_mb m) pc = .ok (.iushr, 1)) (h : px_SW d m (pc + 1) L (.int ((x.toUInt32 >>> (y.toUInt32 &&& Int32.toUInt32 31)).toInt32) :: st) w k Q) : px_SW d m pc L (.int y :: .int x :: st) w k Q := by
  intro p l e s mi args below meth c A D as0 as ws tys H locs ls C B hk
  exact lv_iushr C.1 C.2.1 hd rfl (h p l e s mi args below meth c A D as0 as ws tys H locs ls C (B.toS B.sk.tl.tl.i) hk)
theorem px_q_idiv {x y : Int32} (hd : decode (px_mb m) pc = .ok (.idiv, 1)) (hy : ¬ y = 0) (h : px_SW d m (pc + 1) L (.int (x / y) :: st) w k Q) : px_SW d m pc L (.int y :: .int x :: st) w k Q := by
  intro p l e s mi args below meth c A D as0 as ws tys H locs ls C B hk
  exact lv_idiv C.1 C.2.1 hd hy (h p l e s mi args below meth c A D as0 as ws tys H locs ls C (B.toS B.sk.tl.tl.i) hk)
theorem px_q_irem {x y : Int32} (hd : decode (px_mb m) pc = .ok (.irem, 1)) (hy : ¬ y = 0) (h : px_SW d m (pc + 1) L (.int (x - x / y * y) :: st) w k Q) : px_SW d m pc L (.int y :: .int x :: st) w k Q := by
  intro p l e s mi args below meth c A D as0 as ws tys H locs ls C B hk
  exact lv_irem C.1 C.2.1 hd hy (h p l e s mi args below meth c A D as0 as ws tys H locs ls C (B.toS B.sk.tl.tl.i) hk)
theorem px_q_ineg {x : Int32} (hd : decode (px_mb m) pc = .ok (.ineg, 1)) (h : px_SW d m (pc + 1) L (.int (-x) :: st) w k Q) : px_SW d m pc L (.int x :: st) w k Q := by
  intro p l e s mi args below meth c A D as0 as ws tys H locs ls C B hk
  exact lv_ineg C.1 C.2.1 hd (h p l e s mi args below meth c A D as0 as ws tys H locs ls C (B.toS B.sk.tl.i) hk)
theorem px_q_i2b {x : Int32} (hd : decode (px_mb m) pc = .ok (.i2b, 1)) (h : px_SW d m (pc + 1) L (.int (x.toInt8.toInt32) :: st) w k Q) : px_SW d m pc L (.int x :: st) w k Q := by
  intro p l e s mi args below meth c A D as0 as ws tys H locs ls C B hk
  exact lv_i2b C.1 C.2.1 hd rfl (h p l e s mi args below meth c A D as0 as ws tys H locs ls C (B.toS B.sk.tl.i) hk)
theorem px_q_i2s {x : Int32} (hd : decode (px_mb m) pc = .ok (.i2s, 1)) (h : px_SW d m (pc + 1) L (.int (x.toInt16.toInt32) :: st) w k Q) : px_SW d m pc L (.int x :: st) w k Q := by
  intro p l e s mi args below meth c A D as0 as ws tys H locs ls C B hk
  exact lv_i2s C.1 C.2.1 hd rfl (h p l e s mi args below meth c A D as0 as ws tys H locs ls C (B.toS B.sk.tl.i) hk)
theorem px_q_dup {v : Value} (hd : decode (px_mb m) pc = .ok (.dup, 1)) (h : px_SW d m (pc + 1) L (v :: v :: st) w k Q) : px_SW d m pc L (v :: st) w k Q := by
  intro p l e s mi args below meth c A D as0 as ws tys H locs ls C B hk
  exact lv_dup C.1 C.2.1 hd (by rw [px_v_cat]; exact B.sk.hd.cat) (h p l e s mi args below meth c A D as0 as ws tys H locs ls C (B.toS (px_sok.cons B.sk.hd B.sk)) hk)
theorem px_q_pop {v : Value} (hd : decode (px_mb m) pc = .ok (.pop, 1)) (h : px_SW d m (pc + 1) L st w k Q) : px_SW d m pc L (v :: st) w k Q := by
  intro p l e s mi args below meth c A D as0 as ws tys H locs ls C B hk
  exact lv_pop C.1 C.2.1 hd (by rw [px_v_cat]; exact B.sk.hd.cat) (h p l e s mi args below meth c A D as0 as ws tys H locs ls C (B.toS B.sk.tl) hk)
theorem px_q_goto {off : Int} {t : Nat} (hd : decode (px_mb m) pc = .ok (.goto off, 3)) (ht : (pc : Int) + off = (t : Int)) (h : px_SW d m t L st w k Q) : px_SW d m pc L st w k Q := by
  intro p l e s mi args below meth c A D as0 as ws tys H locs ls C B hk
  exact lv_goto C.1 C.2.1 hd ht (h p l e s mi args below meth c A D as0 as ws tys H locs ls C (B) hk)
theorem px_q_if_eq {x : Int32} {off : Int} {t : Nat} (hd : decode (px_mb m) pc = .ok (.ifCond .eq off, 3)) (ht : (pc : Int) + off = (t : Int)) (ha : x = 0 → px_SW d m t L st w k Q) (hb : ¬ x = 0 → px_SW d m (pc + 3) L st w k Q) : px_SW d m pc L (.int x :: st) w k Q := by
  intro p l e s mi args below meth c A D as0 as ws tys H locs ls C B hk
  exact lv_if_eq C.1 C.2.1 hd ht (fun hc => ha hc p l e s mi args below meth c A D as0 as ws tys H locs ls C (B.toS B.sk.tl) hk) (fun hc => hb hc p l e s mi args below meth c A D as0 as ws tys H locs ls C (B.toS B.sk.tl) hk)
theorem px_q_icmp_eq {x y : Int32} {off : Int} {t : Nat} (hd : decode (px_mb m) pc = .ok (.if_icmp .eq off, 3)) (ht : (pc : Int) + off = (t : Int)) (ha : x = y → px_SW d m t L st w k Q) (hb : ¬ x = y → px_SW d m (pc + 3) L st w k Q) : px_SW d m pc L (.int y :: .int x :: st) w k Q := by
  intro p l e s mi args below meth c A D as0 as ws tys H locs ls C B hk
  exact lv_icmp_eq C.1 C.2.1 hd ht (fun hc => ha hc p l e s mi args below meth c A D as0 as ws tys H locs ls C (B.toS B.sk.tl.tl) hk) (fun hc => hb hc p l e s mi args below meth c A D as0 as ws tys H locs ls C (B.toS B.sk.tl.tl) hk)
theorem px_q_if_ne {x : Int32} {off : Int} {t : Nat} (hd : decode (px_mb m) pc = .ok (.ifCond .ne off, 3)) (ht : (pc : Int) + off = (t : Int)) (ha : ¬ x = 0 → px_SW d m t L st w k Q) (hb : x = 0 → px_SW d m (pc + 3) L st w k Q) : px_SW d m pc L (.int x :: st) w k Q := by
  intro p l e s mi args below meth c A D as0 as ws tys H locs ls C B hk
  exact lv_if_ne C.1 C.2.1 hd ht (fun hc => ha hc p l e s mi args below meth c A D as0 as ws tys H locs ls C (B.toS B.sk.tl) hk) (fun hc => hb hc p l e s mi args below meth c A D as0 as ws tys H locs ls C (B.toS B.sk.tl) hk)
theorem px_q_icmp_ne {x y : Int32} {off : Int} {t : Nat} (hd : decode (px_mb m) pc = .ok (.if_icmp .ne off, 3)) (ht : (pc : Int) + off = (t : Int)) (ha : ¬ x = y → px_SW d m t L st w k Q) (hb : x = y → px_SW d m (pc + 3) L st w k Q) : px_SW d m pc L (.int y :: .int x :: st) w k Q := by
  intro p l e s mi args below meth c A D as0 as ws tys H locs ls C B hk
  exact lv_icmp_ne C.1 C.2.1 hd ht (fun hc => ha hc p l e s mi args below meth c A D as0 as ws tys H locs ls C (B.toS B.sk.tl.tl) hk) (fun hc => hb hc p l e s mi args below meth c A D as0 as ws tys H locs ls C (B.toS B.sk.tl.tl) hk)
theorem px_q_if_lt {x : Int32} {off : Int} {t : Nat} (hd : decode (px_mb m) pc = .ok (.ifCond .lt off, 3)) (ht : (pc : Int) + off = (t : Int)) (ha : x < 0 → px_SW d m t L st w k Q) (hb : ¬ x < 0 → px_SW d m (pc + 3) L st w k Q) : px_SW d m pc L (.int x :: st) w k Q := by
  intro p l e s mi args below meth c A D as0 as ws tys H locs ls C B hk
  exact lv_if_lt C.1 C.2.1 hd ht (fun hc => ha hc p l e s mi args below meth c A D as0 as ws tys H locs ls C (B.toS B.sk.tl) hk) (fun hc => hb hc p l e s mi args below meth c A D as0 as ws tys H locs ls C (B.toS B.sk.tl) hk)
theorem px_q_icmp_lt {x y : Int32} {off : Int} {t : Nat} (hd : decode (px_mb m) pc = .ok (.if_icmp .lt off, 3)) (ht : (pc : Int) + off = (t : Int)) (ha : x < y → px_SW d m t L st w k Q) (hb : ¬ x < y → px_SW d m (pc + 3) L st w k Q) : px_SW d m pc L (.int y :: .int x :: st) w k Q := by
  intro p l e s mi args below meth c A D as0 as ws tys H locs ls C B hk
  exact lv_icmp_lt C.1 C.2.1 hd ht (fun hc => ha hc p l e s mi args below meth c A D as0 as ws tys H locs ls C (B.toS B.sk.tl.tl) hk) (fun hc => hb hc p l e s mi args below meth c A D as0 as ws tys H locs ls C (B.toS B.sk.tl.tl) hk)
theorem px_q_if_ge {x : Int32} {off : Int} {t : Nat} (hd : decode (px_mb m) pc = .ok (.ifCond .ge off, 3)) (ht : (pc : Int) + off = (t : Int)) (ha : 0 ≤ x → px_SW d m t L st w k Q) (hb : ¬ 0 ≤ x → px_SW d m (pc + 3) L st w k Q) : px_SW d m pc L (.int x :: st) w k Q := by
  intro p l e s mi args below meth c A D as0 as ws tys H locs ls C B hk
  exact lv_if_ge C.1 C.2.1 hd ht (fun hc => ha hc p l e s mi args below meth c A D as0 as ws tys H locs ls C (B.toS B.sk.tl) hk) (fun hc => hb hc p l e s mi args below meth c A D as0 as ws tys H locs ls C (B.toS B.sk.tl) hk)
theorem px_q_icmp_ge {x y : Int32} {off : Int} {t : Nat} (hd : decode (px_mb m) pc = .ok (.if_icmp .ge off, 3)) (ht : (pc : Int) + off = (t : Int)) (ha : y ≤ x → px_SW d m t L st w k Q) (hb : ¬ y ≤ x → px_SW d m (pc + 3) L st w k Q) : px_SW d m pc L (.int y :: .int x :: st) w k Q := by
  intro p l e s mi args below meth c A D as0 as ws tys H locs ls C B hk
  exact lv_icmp_ge C.1 C.2.1 hd ht (fun hc => ha hc p l e s mi args below meth c A D as0 as ws tys H locs ls C (B.toS B.sk.tl.tl) hk) (fun hc => hb hc p l e s mi args below meth c A D as0 as ws tys H locs ls C (B.toS B.sk.tl.tl) hk)
theorem px_q_if_gt {x : Int32} {off : Int} {t : Nat} (hd : decode (px_mb m) pc = .ok (.ifCond .gt off, 3)) (ht : (pc : Int) + off = (t : Int)) (ha : 0 < x → px_SW d m t L st w k Q) (hb : ¬ 0 < x → px_SW d m (pc + 3) L st w k Q) : px_SW d m pc L (.int x :: st) w k Q := by
  intro p l e s mi args below meth c A D as0 as ws tys H locs ls C B hk
  exact lv_if_gt C.1 C.2.1 hd ht (fun hc => ha hc p l e s mi args below meth c A D as0 as ws tys H locs ls C (B.toS B.sk.tl) hk) (fun hc => hb hc p l e s mi args below meth c A D as0 as ws tys H locs ls C (B.toS B.sk.tl) hk)
theorem px_q_icmp_gt {x y : Int32} {off : Int} {t : Nat} (hd : decode (px_mb m) pc = .ok (.if_icmp .gt off, 3)) (ht : (pc : Int) + off = (t : Int)) (ha : y < x → px_SW d m t L st w k Q) (hb : ¬ y < x → px_SW d m (pc + 3) L st w k Q) : px_SW d m pc L (.int y :: .int x :: st) w k Q := by
  intro p l e s mi args below meth c A D as0 as ws tys H locs ls C B hk
  exact lv_icmp_gt C.1 C.2.1 hd ht (fun hc => ha hc p l e s mi args below meth c A D as0 as ws tys H locs ls C (B.toS B.sk.tl.tl) hk) (fun hc => hb hc p l e s mi args below meth c A D as0 as ws tys H locs ls C (B.toS B.sk.tl.tl) hk)
theorem px_q_if_le {x : Int32} {off : Int} {t : Nat} (hd : decode (px_mb m) pc = .ok (.ifCond .le off, 3)) (ht : (pc : Int) + off = (t : Int)) (ha : x ≤ 0 → px_SW d m t L st w k Q) (hb : ¬ x ≤ 0 → px_SW d m (pc + 3) L st w k Q) : px_SW d m pc L (.int x :: st) w k Q := by
  intro p l e s mi args below meth c A D as0 as ws tys H locs ls C B hk
  exact lv_if_le C.1 C.2.1 hd ht (fun hc => ha hc p l e s mi args below meth c A D as0 as ws tys H locs ls C (B.toS B.sk.tl) hk) (fun hc => hb hc p l e s mi args below meth c A D as0 as ws tys H locs ls C (B.toS B.sk.tl) hk)
theorem px_q_icmp_le {x y : Int32} {off : Int} {t : Nat} (hd : decode (px_mb m) pc = .ok (.if_icmp .le off, 3)) (ht : (pc : Int) + off = (t : Int)) (ha : x ≤ y → px_SW d m t L st w k Q) (hb : ¬ x ≤ y → px_SW d m (pc + 3) L st w k Q) : px_SW d m pc L (.int y :: .int x :: st) w k Q := by
  intro p l e s mi args below meth c A D as0 as ws tys H locs ls C B hk
  exact lv_icmp_le C.1 C.2.1 hd ht (fun hc => ha hc p l e s mi args below meth c A D as0 as ws tys H locs ls C (B.toS B.sk.tl.tl) hk) (fun hc => hb hc p l e s mi args below meth c A D as0 as ws tys H locs ls C (B.toS B.sk.tl.tl) hk)
theorem px_q_ifnullN {off : Int} {t : Nat} (hd : decode (px_mb m) pc = .ok (.ifnull off, 3)) (ht : (pc : Int) + off = (t : Int)) (h : px_SW d m t L st w k Q) : px_SW d m pc L (.null :: st) w k Q := by
  intro p l e s mi args below meth c A D as0 as ws tys H locs ls C B hk
  exact lv_ifnullN C.1 C.2.1 hd ht (h p l e s mi args below meth c A D as0 as ws tys H locs ls C (B.toS B.sk.tl) hk)
theorem px_q_ifnull {off : Int} {i : Nat} (hd : decode (px_mb m) pc = .ok (.ifnull off, 3)) (h : px_SW d m (pc + 3) L st w k Q) : px_SW d m pc L (.ref i :: st) w k Q := by
  intro p l e s mi args below meth c A D as0 as ws tys H locs ls C B hk
  exact lv_ifnull C.1 C.2.1 hd (h p l e s mi args below meth c A D as0 as ws tys H locs ls C (B.toS B.sk.tl) hk)
theorem px_q_ifnonnull {off : Int} {t i : Nat} (hd : decode (px_mb m) pc = .ok (.ifnonnull off, 3)) (ht : (pc : Int) + off = (t : Int)) (h : px_SW d m t L st w k Q) : px_SW d m pc L (.ref i :: st) w k Q := by
  intro p l e s mi args below meth c A D as0 as ws tys H locs ls C B hk
  exact lv_ifnonnull C.1 C.2.1 hd ht (h p l e s mi args below meth c A D as0 as ws tys H locs ls C (B.toS B.sk.tl) hk)
theorem px_q_ifnonnullN {off : Int} (hd : decode (px_mb m) pc = .ok (.ifnonnull off, 3)) (h : px_SW d m (pc + 3) L st w k Q) : px_SW d m pc L (.null :: st) w k Q := by
  intro p l e s mi args below meth c A D as0 as ws tys H locs ls C B hk
  exact lv_ifnonnullN C.1 C.2.1 hd (h p l e s mi args below meth c A D as0 as ws tys H locs ls C (B.toS B.sk.tl) hk)
theorem px_q_tswO {dflt lo hi : Int} {offs : Array Int} {len : Nat} {x : Int32} {t : Nat} (hd : decode (px_mb m) pc = .ok (.tableswitch dflt lo hi offs, len)) (hx : x.toInt < lo ∨ hi < x.toInt) (ht : (pc : Int) + dflt = (t : Int)) (h : px_SW d m t L st w k Q) : px_SW d m pc L (.int x :: st) w k Q := by
  intro p l e s mi args below meth c A D as0 as ws tys H locs ls C B hk
  exact lv_tableOut C.1 C.2.1 hd hx ht (h p l e s mi args below meth c A D as0 as ws tys H locs ls C (B.toS B.sk.tl) hk)
theorem px_q_tswI {dflt lo hi off : Int} {offs : Array Int} {len : Nat} {x : Int32} {t : Nat} (hd : decode (px_mb m) pc = .ok (.tableswitch dflt lo hi offs, len)) (h1 : ¬ x.toInt < lo) (h2 : ¬ hi < x.toInt) (ho : offs[(x.toInt - lo).toNat]? = some off) (ht : (pc : Int) + off = (t : Int)) (h : px_SW d m t L st w k Q) : px_SW d m pc L (.int x :: st) w k Q := by
  intro p l e s mi args below meth c A D as0 as ws tys H locs ls C B hk
  exact lv_tableIn C.1 C.2.1 hd h1 h2 ho ht (h p l e s mi args below meth c A D as0 as ws tys H locs ls C (B.toS B.sk.tl) hk)
theorem px_q_lsw {dflt : Int} {ps : Array (Int × Int)} {len : Nat} {x : Int32} {t : Nat} (hd : decode (px_mb m) pc = .ok (.lookupswitch dflt ps, len)) (hp : (ps.toList.zip (ps.toList.drop 1)).all (fun (a, next) => a.1 < next.1) = true) (ht : (pc : Int) + Op.lookupswitch.offset ps.toList dflt x.toInt = (t : Int)) (h : px_SW d m t L st w k Q) : px_SW d m pc L (.int x :: st) w k Q := by
  intro p l e s mi args below meth c A D as0 as ws tys H locs ls C B hk
  exact lv_lookup C.1 C.2.1 hd hp rfl ht (h p l e s mi args below meth c A D as0 as ws tys H locs ls C (B.toS B.sk.tl) hk)
end PXU
end
section
/-! the heap's instructions -/
def px_CF : Prop := ∀ (ci : Nat) (r : vw_C), vwCl[ci]? = some r → (∀ w ∈ u_ws r.1 r.2.1 r.2.2, w ∈ px_W) ∧ (∃ ty0 : Nat → FieldType, ∀ k, k < r.2.2 → parseFieldDescriptor (r.2.1 k).2.2.1 = some (ty0 k) ∧ px_dfl (ty0 k) = defaultValue (ty0 k)) ∧ (∀ a, a < r.2.2 → ∀ b, b < r.2.2 → a ≠ b → (r.2.1 a).2.1 ≠ (r.2.1 b).2.1) ∧ Cond.instantiable r.1 r.2.2 ∈ px_W ∧ Cond.initialized r.1 ∈ px_W ∧ r.2.2 ≤ 320
def px_lkF (own : String) (idx : Nat) (X : px_X) : Prop := ∃ nm desc : String,
  ((X.1 = 10 ∧ Cond.fieldLink own idx X.2.2.2.2 nm desc ∈ px_W) ∨ (X.1 = 11 ∧ ∃ host : String, Cond.fieldLinkNest own idx X.2.2.2.2 nm desc host ∈ px_Z)) ∧
  ∀ q ∈ X.2.2.1, ∃ r : vw_C, vwCl[q.1]? = some r ∧ X.2.1 < r.2.2 ∧ (r.2.1 X.2.1).2.1 = nm ∧ (r.2.1 X.2.1).2.2.1 = desc ∧ ((r.2.1 X.2.1).1 = X.2.2.2.2 ∨ Cond.sameField X.2.2.2.2 (r.2.1 X.2.1).1 nm desc ∈ px_W)
def px_lkP (m : px_M) (X : px_X) : Prop := ∀ q ∈ X.2.2.1, ∀ r : vw_C, vwCl[q.1]? = some r → (r.2.1 X.2.1).2.2.2 = false ∨ (X.1 = 10 ∧ (px_my m).name = "<init>" ∧ (r.2.1 X.2.1).2.2.2 = true ∧ (r.2.1 X.2.1).1 = (px_my m).cls)
theorem px_lookup {α : Type} {l : List (Nat × α)} {i : Nat} {b : α} (h : l.lookup i = some b) : (i, b) ∈ l := by
  induction l with
  | nil => cases h
  | cons q l ih =>
    obtain ⟨j, c⟩ := q
    rw [List.lookup_cons] at h
    by_cases hij : i = j
    · subst hij
      simp at h
      subst h
      exact List.mem_cons_self
    · have : (i == j) = false := by simp [hij]
      rw [this] at h
      exact List.mem_cons_of_mem _ (ih h)
theorem px_fld_inv {w : px_H} {a j : Nat} {cis : List (Nat × Nat)} {v : Value} (h : px_fld w a cis j = some v) : ∃ ci fs M, w.2 a = some (.inr (.inr (ci, fs))) ∧ (ci, M) ∈ cis ∧ fs[j]? = some v := by
  unfold px_fld at h
  split at h
  · rename_i ci fs hw
    split at h
    · rename_i hl
      obtain ⟨M, hM⟩ := Option.isSome_iff_exists.mp hl
      exact ⟨ci, fs, M, hw, px_lookup hM, h⟩
    · cases h
  · cases h
theorem px_pfd_inv {w w' : px_H} {a j : Nat} {cis : List (Nat × Nat)} {v : Value} (h : px_pfd w a cis j v = some w') : ∃ ci fs M, w.2 a = some (.inr (.inr (ci, fs))) ∧ (ci, M) ∈ cis ∧ j < fs.length ∧ w' = px_set w a (.inr (.inr (ci, fs.set j v))) := by
  unfold px_pfd at h
  split at h
  · rename_i ci fs hw
    split at h
    · rename_i hl
      obtain ⟨M, hM⟩ := Option.isSome_iff_exists.mp hl.1
      cases h
      exact ⟨ci, fs, M, hw, px_lookup hM, hl.2, rfl⟩
    · cases h
  · cases h
theorem px_vin_in {i : Int32} {n : Nat} (h : px_vin i n = true) : vp_in i n := by
  unfold px_vin at h
  unfold vp_in
  simpa using h
theorem px_ald_inv {w : px_H} {a : Nat} {i x : Int32} {ty : FieldType} (h : px_ald w a i ty = some x) : ∃ n f, w.2 a = some (.inl (ty, n, f)) ∧ vp_in i n ∧ x = f i.toNatClampNeg := by
  unfold px_ald at h
  split at h
  · rename_i t n f hw
    split at h
    · rename_i hl
      obtain ⟨rfl, hv⟩ := hl
      cases h
      exact ⟨n, f, hw, px_vin_in hv, rfl⟩
    · cases h
  · cases h
theorem px_ast_inv {w w' : px_H} {a : Nat} {i x : Int32} {ty : FieldType} (h : px_ast w a i x ty = some w') : ∃ n f, w.2 a = some (.inl (ty, n, f)) ∧ vp_in i n ∧ w' = px_set w a (.inl (ty, n, upd f i.toNatClampNeg x)) := by
  unfold px_ast at h
  split at h
  · rename_i t n f hw
    split at h
    · rename_i hl
      obtain ⟨rfl, hv⟩ := hl
      cases h
      exact ⟨n, f, hw, px_vin_in hv, rfl⟩
    · cases h
  · cases h
theorem px_bld_inv {w : px_H} {a : Nat} {i x : Int32} (h : px_bld w a i = some x) : ∃ ty n f, (ty = .byte ∨ ty = .boolean) ∧ w.2 a = some (.inl (ty, n, f)) ∧ vp_in i n ∧ x = f i.toNatClampNeg := by
  unfold px_bld at h
  split at h
  · rename_i t n f hw
    split at h
    · rename_i hl
      cases h
      exact ⟨t, n, f, hl.1, hw, px_vin_in hl.2, rfl⟩
    · cases h
  · cases h
theorem px_bst_inv {w w' : px_H} {a : Nat} {i x : Int32} (h : px_bst w a i x = some w') : ∃ ty n f, (ty = .byte ∨ ty = .boolean) ∧ w.2 a = some (.inl (ty, n, f)) ∧ vp_in i n ∧ w' = px_set w a (.inl (ty, n, upd f i.toNatClampNeg (vp_nar ty x))) := by
  unfold px_bst at h
  split at h
  · rename_i t n f hw
    split at h
    · rename_i hl
      cases h
      exact ⟨t, n, f, hl.1, hw, px_vin_in hl.2, rfl⟩
    · cases h
  · cases h
theorem px_rld_inv {w : px_H} {a : Nat} {i : Int32} {v : Value} (h : px_rld w a i = some v) : ∃ E n f, w.2 a = some (.inr (.inl (.object E, n, f))) ∧ vp_in i n ∧ v = va_rf (f i.toNatClampNeg) := by
  unfold px_rld at h
  split at h
  · rename_i t n f hw
    split at h
    · rename_i hl
      cases h
      cases t with
      | object E => exact ⟨E, n, f, hw, px_vin_in hl.1, rfl⟩
      | _ => cases hl.2
    · cases h
  · cases h
theorem px_cls_inv {w : px_H} {a ci : Nat} (h : px_cls w a = some ci) : ∃ fs, w.2 a = some (.inr (.inr (ci, fs))) := by
  unfold px_cls at h
  split at h
  · rename_i c fs hw
    cases h
    exact ⟨fs, hw⟩
  · cases h
theorem px_rst_inv {w w' : px_H} {a : Nat} {i : Int32} {v : Value} (h : px_rst w a i v = some w') : ∃ E n f, w.2 a = some (.inr (.inl (.object E, n, f))) ∧ vp_in i n ∧
    ((v = .null ∧ w' = px_set w a (.inr (.inl (.object E, n, va_up f i.toNatClampNeg none)))) ∨ ∃ b ci fs, v = .ref b ∧ w.2 b = some (.inr (.inr (ci, fs))) ∧ px_may ci (.object E) = true ∧ w' = px_set w a (.inr (.inl (.object E, n, va_up f i.toNatClampNeg (some b))))) := by
  unfold px_rst at h
  split at h
  · rename_i t n f hw
    split at h
    · rename_i hl
      split at h
      · rename_i E
        cases h
        exact ⟨E, n, f, hw, px_vin_in hl, Or.inl ⟨rfl, rfl⟩⟩
      · rename_i E b
        split at h
        · rename_i ci hci
          split at h
          · rename_i hmay
            cases h
            obtain ⟨fs, hfs⟩ := px_cls_inv hci
            exact ⟨E, n, f, hw, px_vin_in hl, Or.inr ⟨b, ci, fs, rfl, hfs, hmay, rfl⟩⟩
          · cases h
        · cases h
      · cases h
    · cases h
  · cases h
theorem px_cpy_inv {w w' : px_H} {a0 a : Nat} {sp dp n : Int32} (h : px_cpy w a0 sp a dp n = some w') : ∃ n0 n1 f g, w.2 a0 = some (.inl (.int, n0, f)) ∧ w.2 a = some (.inl (.int, n1, g)) ∧ ¬ sp < 0 ∧ ¬ dp < 0 ∧ ¬ n < 0 ∧ sp.toNatClampNeg + n.toNatClampNeg ≤ n0 ∧ dp.toNatClampNeg + n.toNatClampNeg ≤ n1 ∧ w' = px_set w a (.inl (.int, n1, va_cpy f g sp.toNatClampNeg dp.toNatClampNeg n.toNatClampNeg)) := by
  unfold px_cpy at h
  split at h
  · rename_i t0 n0 f t1 n1 g h0 h1
    split at h
    · rename_i hl
      obtain ⟨rfl, rfl, q1, q2, q3, q4, q5⟩ := hl
      cases h
      exact ⟨n0, n1, f, g, h0, h1, q1, q2, q3, q4, q5, rfl⟩
    · cases h
  · cases h
theorem px_rf {as : List Nat} (o : Option Nat) : va_rf (o.map (fun i => as.getD i 0)) = px_v as (va_rf o) := by cases o <;> rfl
theorem px_upm {as : List Nat} (f : Nat → Option Nat) (k : Nat) (o : Option Nat) : (fun j => (va_up f k o j).map (fun i => as.getD i 0)) = va_up (fun j => (f j).map (fun i => as.getD i 0)) k (o.map (fun i => as.getD i 0)) := by
  funext j
  unfold va_up
  by_cases h : j = k
  · rw [if_pos h, if_pos h]
  · rw [if_neg h, if_neg h]
theorem px_fit_ok {ty : FieldType} {v : Value} {as : List Nat} (h : px_fit ty v = true) : narrow ty (px_v as v) = px_v as v ∧ fits ty (px_v as v) = true := by
  cases ty with
  | int => cases v with
    | int x => exact ⟨rfl, rfl⟩
    | _ => cases h
  | object n => cases v with
    | null => exact ⟨rfl, rfl⟩
    | ref i => exact ⟨rfl, rfl⟩
    | _ => cases h
  | array n => cases v with
    | null => exact ⟨rfl, rfl⟩
    | ref i => exact ⟨rfl, rfl⟩
    | _ => cases h
  | _ => cases v <;> cases h
section PXV
variable {s : State} {A : Nat → Prop} {D : va_G} {as0 as : List Nat} {ws : va_W} {tys : List (ClassId × FieldType)} {H : Heap} {locs : List Loc} {ls : Array Slot} {n : Nat} {L : px_L} {st st' : List Value} {w : px_H}
theorem px_B.toH {H1 : Heap} {locs1 : List Loc} {q : Nat} {c0 c : px_E} {e : va_E} (B : px_B s A D as0 as ws tys H locs ls n L st w) (h0 : w.2 q = some c0) (hok : px_eok w.1 c) (hc : px_ce as tys c e)
    (hP : va_P D vwCl (ws.set q (as.getD q 0, e)) H1) (hD : va_D A (ws.set q (as.getD q 0, e))) (hS : va_S A s.heap H1 locs1) (h : px_sok as.length st') : px_B s A D as0 as (ws.set q (as.getD q 0, e)) tys H1 locs1 ls n L st' (px_set w q c) :=
  ⟨B.1, hP, hD, hS, B.r.set h0 hok hc, B.2.2.2.2.2.1, B.lo, h⟩
theorem px_B.toN {H1 : Heap} {q : Nat} {c : px_E} {e : va_E} {tl : List (ClassId × FieldType)} (B : px_B s A D as0 as ws tys H locs ls n L st w) (hok : px_eok w.1 c) (hc : px_ce (as ++ [q]) (tys ++ tl) c e)
    (hK : va_K D vwCl (tys ++ tl) s) (hP : va_P D vwCl (ws ++ [(q, e)]) H1) (hD : va_D A (ws ++ [(q, e)])) (hS : va_S A s.heap H1 locs) (h : px_sok as.length st') : px_B s A D as0 (as ++ [q]) (ws ++ [(q, e)]) (tys ++ tl) H1 locs ls n L (.ref w.1 :: st') (px_add w c) := by
  refine ⟨hK, hP, hD, hS, B.r.add hok hc, ?_, B.lo.app, px_sok.cons ?_ (fun v hv => (h v hv).le (by simp))⟩
  · exact B.2.2.2.2.2.1.trans (List.prefix_append _ _)
  · show w.1 < (as ++ [q]).length
    rw [List.length_append, B.r.2.1]
    exact Nat.lt_succ_self _
end PXV
section PXW
variable {d : Nat} {m : px_M} {pc k : Nat} {L : px_L} {st : List Value} {w : px_H} {Q : Option Value → px_H → Prop}
theorem px_q_get (cf : px_CF) {idx a : Nat} {X : px_X} {v : Value} (hd : decode (px_mb m) pc = .ok (.getfield idx, 3)) (F : px_lkF (px_my m).cls idx X) (hf : px_fld w a X.2.2.1 X.2.1 = some v) (h : px_SW d m (pc + 3) L (v :: st) w k Q) : px_SW d m pc L (.ref a :: st) w k Q := by
  intro p l e s mi args below meth c A D as0 as ws tys H locs ls C B hk
  obtain ⟨ci, fs, M, hw, hM, hj⟩ := px_fld_inv hf
  obtain ⟨hok, e', he, hce⟩ := B.r.2.2 a _ hw
  cases hce
  have hvok : px_vok as.length v := by rw [B.r.2.1]; exact hok v (List.mem_of_getElem? hj)
  have h := h p l e s mi args below meth c A D as0 as ws tys H locs ls C (B.toS (px_sok.cons hvok B.sk.tl)) hk
  obtain ⟨nm, desc, hlink, hr⟩ := F
  obtain ⟨r, hr0, hr1, rfl, rfl, hsm⟩ := hr _ hM
  have hin := (cf ci r hr0).1
  have hv : (fs.map (px_v as))[X.2.1]? = some (px_v as v) := by rw [List.getElem?_map, hj]; rfl
  have hsame : ∀ x, s.fieldFound? (r.2.1 X.2.1).1 (r.2.1 X.2.1).2.1 (r.2.1 X.2.1).2.2.1 = some x → s.fieldFound? X.2.2.2.2 (r.2.1 X.2.1).2.1 (r.2.1 X.2.1).2.2.1 = some x := by
    intro x hx
    rcases hsm with q | q
    · rw [← q]; exact hx
    · exact u_same (C.2.2.2.2.1 _ q) x hx
  rcases hlink with ⟨-, hl⟩ | ⟨-, host, hl⟩
  · exact va_get (D := D) (C := r.1) (T := r.2.1) (N := r.2.2) C.1 C.2.1 C.2.2.2.2.1 hin C.2.2.2.1 B.1 B.2.1 a he hr0 X.2.1 hr1 (C.2.2.2.2.1 _ hl) hsame hv hd h
  · exact va_getN (D := D) (C := r.1) (T := r.2.1) (N := r.2.2) C.1 C.2.1 C.2.2.2.2.1 hin C.2.2.2.1 B.1 B.2.1 a he hr0 X.2.1 hr1 (va_Nw.use rfl (C.2.2.2.2.2.1 _ hl)) hsame hv hd h
theorem px_q_put (cf : px_CF) {idx a : Nat} {X : px_X} {v : Value} {w' : px_H} (hd : decode (px_mb m) pc = .ok (.putfield idx, 3)) (F : px_lkF (px_my m).cls idx X) (P : px_lkP m X)
    (hfit : (X.2.2.1.all (fun q => match px_fty q.1 X.2.1 with | some t => px_fit t v | none => false)) = true) (hf : px_pfd w a X.2.2.1 X.2.1 v = some w') (h : px_SW d m (pc + 3) L st w' k Q) : px_SW d m pc L (v :: .ref a :: st) w k Q := by
  intro p l e s mi args below meth c A D as0 as ws tys H locs ls C B hk
  obtain ⟨ci, fs, M, hw, hM, hj, rfl⟩ := px_pfd_inv hf
  obtain ⟨hok, e', he, hce⟩ := B.r.2.2 a _ hw
  cases hce
  have hvok : px_vok w.1 v := by rw [← B.r.2.1]; exact B.sk.hd
  obtain ⟨nm, desc, hlink, hr⟩ := F
  obtain ⟨r, hr0, hr1, rfl, rfl, hsm⟩ := hr _ hM
  obtain ⟨hin, ⟨ty0, hty⟩, hnm, -⟩ := cf ci r hr0
  have hfit1 := List.all_eq_true.mp hfit _ hM
  have hpt : px_fty ci X.2.1 = some (ty0 X.2.1) := by
    unfold px_fty
    rw [hr0]
    exact (hty _ hr1).1
  simp only [hpt] at hfit1
  obtain ⟨f1, f2⟩ := px_fit_ok (as := as) hfit1
  have hsame : ∀ x, s.fieldFound? (r.2.1 X.2.1).1 (r.2.1 X.2.1).2.1 (r.2.1 X.2.1).2.2.1 = some x → s.fieldFound? X.2.2.2.2 (r.2.1 X.2.1).2.1 (r.2.1 X.2.1).2.2.1 = some x := by
    intro x hx
    rcases hsm with q | q
    · rw [← q]; exact hx
    · exact u_same (C.2.2.2.2.1 _ q) x hx
  have hok' : px_eok w.1 (.inr (.inr (ci, fs.set X.2.1 v))) := by
    intro u hu
    rcases List.mem_or_eq_of_mem_set hu with hu | rfl
    · exact hok u hu
    · exact hvok
  have hce' : px_ce as tys (.inr (.inr (ci, fs.set X.2.1 v))) (.inr (ci, (fs.map (px_v as)).set X.2.1 (px_v as v))) := by
    show _ = _
    rw [List.map_set]
  have hl' : X.2.1 < (fs.map (px_v as)).length := by rw [List.length_map]; exact hj
  have kk : ∀ (H1 : Heap) (locs1 : List Loc), va_P D vwCl (ws.set a (as.getD a 0, .inr (ci, (fs.map (px_v as)).set X.2.1 (px_v as v)))) H1 → va_D A (ws.set a (as.getD a 0, .inr (ci, (fs.map (px_v as)).set X.2.1 (px_v as v)))) → va_S A s.heap H1 locs1 → W p l e (px_rm d m) s mi args below meth c H1 locs1 k (320 * k) (MQ below (px_Qc D as0 Q A) args s (px_mc m) (320 * px_mc m) A) (F0 mi (pc + 3) ls (st.map (px_v as))) :=
    fun H1 locs1 hP hD hS => h p l e s mi args below meth c A D as0 as _ tys H1 locs1 ls C (B.toH hw hok' hce' hP hD hS B.sk.tl.tl) hk
  rcases hlink with ⟨-, hl⟩ | ⟨h11, host, hl⟩
  · rcases P _ hM r hr0 with hfin | ⟨-, hnm2, hfin, hown⟩
    · exact va_put (D := D) (C := r.1) (T := r.2.1) (N := r.2.2) C.1 C.2.1 C.2.2.2.2.1 hin ty0 (fun k hk => (hty k hk).1) hnm C.2.2.2.1 B.1 B.2.1 B.2.2.1 B.2.2.2.1 a he hr0 X.2.1 hr1 (C.2.2.2.2.1 _ hl) hsame hfin (hty _ hr1).1 f1 f2 hl' hd kk
    · exact va_putF (D := D) (C := r.1) (T := r.2.1) (N := r.2.2) C.1 C.2.1 C.2.2.2.2.1 hin ty0 (fun k hk => (hty k hk).1) hnm C.2.2.2.1 B.1 B.2.1 B.2.2.1 B.2.2.2.1 a he hr0 X.2.1 hr1 (C.2.2.2.2.1 _ hl) hsame hfin (C.2.2.2.2.2.2.2.2.1.trans hnm2) hown (hty _ hr1).1 f1 f2 hl' hd kk
  · rcases P _ hM r hr0 with hfin | ⟨h10, -⟩
    · exact va_putN (D := D) (C := r.1) (T := r.2.1) (N := r.2.2) C.1 C.2.1 C.2.2.2.2.1 hin ty0 (fun k hk => (hty k hk).1) hnm C.2.2.2.1 B.1 B.2.1 B.2.2.1 B.2.2.2.1 a he hr0 X.2.1 hr1 (va_Nw.use rfl (C.2.2.2.2.2.1 _ hl)) hsame hfin (hty _ hr1).1 f1 f2 hl' hd kk
    · rw [h11] at h10; cases h10
theorem px_q_iald {a : Nat} {i x : Int32} (hd : decode (px_mb m) pc = .ok (.iaload, 1)) (hf : px_ald w a i .int = some x) (h : px_SW d m (pc + 1) L (.int x :: st) w k Q) : px_SW d m pc L (.int i :: .ref a :: st) w k Q := by
  intro p l e s mi args below meth c A D as0 as ws tys H locs ls C B hk
  obtain ⟨n, f, hw, hin, rfl⟩ := px_ald_inv hf
  obtain ⟨hok, e', he, cA, t0, ht, rfl⟩ := B.r.2.2 a _ hw
  exact va_iald C.1 C.2.1 B.1 B.2.1 a t0 he ht hin hd (h p l e s mi args below meth c A D as0 as ws tys H locs ls C (B.toS B.sk.tl.tl.i) hk)
theorem px_q_iast {a : Nat} {i x : Int32} {w' : px_H} (hd : decode (px_mb m) pc = .ok (.iastore, 1)) (hf : px_ast w a i x .int = some w') (h : px_SW d m (pc + 1) L st w' k Q) : px_SW d m pc L (.int x :: .int i :: .ref a :: st) w k Q := by
  intro p l e s mi args below meth c A D as0 as ws tys H locs ls C B hk
  obtain ⟨n, f, hw, hin, rfl⟩ := px_ast_inv hf
  obtain ⟨hok, e', he, cA, t0, ht, rfl⟩ := B.r.2.2 a _ hw
  exact va_iast C.1 C.2.1 B.1 B.2.1 B.2.2.1 B.2.2.2.1 a t0 he ht hin hd (fun H1 locs1 hP hD hS => h p l e s mi args below meth c A D as0 as _ tys H1 locs1 ls C (B.toH hw trivial ⟨cA, t0, ht, rfl⟩ hP hD hS B.sk.tl.tl.tl) hk)
theorem px_q_bald {a : Nat} {i x : Int32} (hd : decode (px_mb m) pc = .ok (.baload, 1)) (hf : px_bld w a i = some x) (h : px_SW d m (pc + 1) L (.int x :: st) w k Q) : px_SW d m pc L (.int i :: .ref a :: st) w k Q := by
  intro p l e s mi args below meth c A D as0 as ws tys H locs ls C B hk
  obtain ⟨ty, n, f, hty, hw, hin, rfl⟩ := px_bld_inv hf
  obtain ⟨hok, e', he, cA, t0, ht, rfl⟩ := B.r.2.2 a _ hw
  have h := h p l e s mi args below meth c A D as0 as ws tys H locs ls C (B.toS B.sk.tl.tl.i) hk
  rcases hty with rfl | rfl
  · exact va_bald C.1 C.2.1 B.1 B.2.1 a t0 he ht hin hd h
  · exact va_zald C.1 C.2.1 B.1 B.2.1 a t0 he ht hin hd h
theorem px_q_bast {a : Nat} {i x : Int32} {w' : px_H} (hd : decode (px_mb m) pc = .ok (.bastore, 1)) (hf : px_bst w a i x = some w') (h : px_SW d m (pc + 1) L st w' k Q) : px_SW d m pc L (.int x :: .int i :: .ref a :: st) w k Q := by
  intro p l e s mi args below meth c A D as0 as ws tys H locs ls C B hk
  obtain ⟨ty, n, f, hty, hw, hin, rfl⟩ := px_bst_inv hf
  obtain ⟨hok, e', he, cA, t0, ht, rfl⟩ := B.r.2.2 a _ hw
  rcases hty with rfl | rfl
  · exact va_bast C.1 C.2.1 B.1 B.2.1 B.2.2.1 B.2.2.2.1 a t0 he ht hin hd (fun H1 locs1 hP hD hS => h p l e s mi args below meth c A D as0 as _ tys H1 locs1 ls C (B.toH hw trivial ⟨cA, t0, ht, rfl⟩ hP hD hS B.sk.tl.tl.tl) hk)
  · exact va_zast C.1 C.2.1 B.1 B.2.1 B.2.2.1 B.2.2.2.1 a t0 he ht hin hd (fun H1 locs1 hP hD hS => h p l e s mi args below meth c A D as0 as _ tys H1 locs1 ls C (B.toH hw trivial ⟨cA, t0, ht, rfl⟩ hP hD hS B.sk.tl.tl.tl) hk)
theorem px_q_aald {a : Nat} {i : Int32} {v : Value} (hd : decode (px_mb m) pc = .ok (.aaload, 1)) (hf : px_rld w a i = some v) (h : px_SW d m (pc + 1) L (v :: st) w k Q) : px_SW d m pc L (.int i :: .ref a :: st) w k Q := by
  intro p l e s mi args below meth c A D as0 as ws tys H locs ls C B hk
  obtain ⟨E, n, f, hw, hin, rfl⟩ := px_rld_inv hf
  obtain ⟨hok, e', he, cA, t0, ht, rfl⟩ := B.r.2.2 a _ hw
  have hvok : px_vok as.length (va_rf (f i.toNatClampNeg)) := by
    cases hfi : f i.toNatClampNeg with
    | none => trivial
    | some b => rw [B.r.2.1]; exact hok _ _ hfi
  have h := h p l e s mi args below meth c A D as0 as ws tys H locs ls C (B.toS (px_sok.cons hvok B.sk.tl.tl)) hk
  refine va_aldq C.1 C.2.1 B.1 B.2.1 a t0 he ht hin hd ?_
  rw [px_rf]
  exact h
theorem px_q_aast {a : Nat} {i : Int32} {v : Value} {w' : px_H} (hd : decode (px_mb m) pc = .ok (.aastore, 1)) (hf : px_rst w a i v = some w') (h : px_SW d m (pc + 1) L st w' k Q) : px_SW d m pc L (v :: .int i :: .ref a :: st) w k Q := by
  intro p l e s mi args below meth c A D as0 as ws tys H locs ls C B hk
  obtain ⟨E, n, f, hw, hin, hcase⟩ := px_rst_inv hf
  obtain ⟨hok, e', he, cA, t0, ht, rfl⟩ := B.r.2.2 a _ hw
  rcases hcase with ⟨rfl, rfl⟩ | ⟨b, ci, fs, rfl, hb, hmay, rfl⟩
  · refine va_astqN C.1 C.2.1 B.1 B.2.1 B.2.2.1 B.2.2.2.1 a t0 he ht hin hd (fun H1 locs1 hP hD hS => h p l e s mi args below meth c A D as0 as _ tys H1 locs1 ls C (B.toH hw ?_ ⟨cA, t0, ht, by rw [px_upm]; rfl⟩ hP hD hS B.sk.tl.tl.tl) hk)
    intro j b hj
    unfold va_up at hj
    split at hj
    · cases hj
    · exact hok j b hj
  · obtain ⟨hokb, eb, heb, hceb⟩ := B.r.2.2 b _ hb
    cases hceb
    have hbl := B.r.lt hb
    have hok' : px_eok w.1 (.inr (.inl (.object E, n, va_up f i.toNatClampNeg (some b)))) := by
      intro j b' hj
      unfold va_up at hj
      split at hj
      · cases hj; exact hbl
      · exact hok j b' hj
    unfold px_may at hmay
    cases hr : vwCl[ci]? with
    | none => simp only [hr] at hmay; cases hmay
    | some r =>
      simp only [hr, Bool.or_eq_true, decide_eq_true_eq] at hmay
      rcases hmay with rfl | hmay
      · exact va_astq C.1 C.2.1 B.1 B.2.1 B.2.2.1 B.2.2.2.1 a t0 b ci he ht heb hr hin hd (fun H1 locs1 hP hD hS => h p l e s mi args below meth c A D as0 as _ tys H1 locs1 ls C (B.toH hw hok' ⟨cA, t0, ht, by rw [px_upm]; rfl⟩ hP hD hS B.sk.tl.tl.tl) hk)
      · have hz : Cond.castable r.1 E ∈ px_Z := List.mem_filter.mpr ⟨(List.mem_filter.mp hmay).1, rfl⟩
        exact va_astqO C.1 C.2.1 B.1 B.2.1 B.2.2.1 B.2.2.2.1 a t0 b ci he ht (C.2.2.2.2.2.1 _ hz) heb hr hin hd (fun H1 locs1 hP hD hS => h p l e s mi args below meth c A D as0 as _ tys H1 locs1 ls C (B.toH hw hok' ⟨cA, t0, ht, by rw [px_upm]; rfl⟩ hP hD hS B.sk.tl.tl.tl) hk)
theorem px_q_alen {a : Nat} {x : Int32} (hd : decode (px_mb m) pc = .ok (.arraylength, 1)) (hf : px_len w a = some x) (h : px_SW d m (pc + 1) L (.int x :: st) w k Q) : px_SW d m pc L (.ref a :: st) w k Q := by
  intro p l e s mi args below meth c A D as0 as ws tys H locs ls C B hk
  have h := h p l e s mi args below meth c A D as0 as ws tys H locs ls C (B.toS B.sk.tl.i) hk
  unfold px_len at hf
  split at hf
  · rename_i t n f hw
    cases hf
    obtain ⟨hok, e', he, cA, t0, ht, rfl⟩ := B.r.2.2 a _ hw
    exact va_alen C.1 C.2.1 B.1 B.2.1 a t0 he ht rfl hd h
  · rename_i t n f hw
    cases hf
    obtain ⟨hok, e', he, cA, t0, ht, rfl⟩ := B.r.2.2 a _ hw
    exact va_alen C.1 C.2.1 B.1 B.2.1 a t0 he ht rfl hd h
  · cases hf
def px_lkC (own : String) (idx : Nat) : Prop := Cond.methodLink own idx arraycopyName ∈ px_W ∧ Cond.native arraycopyName ∈ px_W ∧ Cond.static arraycopyName ∈ px_W ∧ Cond.initialized "java/lang/System" ∈ px_W
theorem px_q_copy {idx a0 a : Nat} {sp dp n : Int32} {w' : px_H} (hd : decode (px_mb m) pc = .ok (.invokestatic idx, 3)) (F : px_lkC (px_my m).cls idx) (hs : st.length ≤ 8) (hf : px_cpy w a0 sp a dp n = some w') (h : px_SW d m (pc + 3) L st w' k Q) : px_SW d m pc L (.int n :: .int dp :: .ref a :: .int sp :: .ref a0 :: st) w k Q := by
  intro p l e s mi args below meth c A D as0 as ws tys H locs ls C B hk
  obtain ⟨n0, n1, f, g, h0, h1, q1, q2, q3, q4, q5, rfl⟩ := px_cpy_inv hf
  obtain ⟨-, e0, he0, c0, t0, ht0, rfl⟩ := B.r.2.2 a0 _ h0
  obtain ⟨-, e1, he1, c1, t1, ht1, rfl⟩ := B.r.2.2 a _ h1
  have hts := C.2.2.2.2.1
  have hl : (((st.map (px_v as))).map fun v => v.category).sum + (nativeFrameWords "java/lang/System" "arraycopy" 5 + 11) ≤ (px_rm d m).locals := by
    rw [px_sok.cat B.sk.tl.tl.tl.tl.tl]
    have : nativeFrameWords "java/lang/System" "arraycopy" 5 = 7 := by decide +kernel
    rw [this]
    show st.length + (7 + 11) ≤ 40 * (d + 1)
    omega
  exact va_copyi C.1 C.2.1 (by rw [C.2.2.1]; exact B.lo.1.1.symm) C.2.2.2.1 (hts _ F.1) (hts _ F.2.1) (hts _ F.2.2.1) (hts _ F.2.2.2) B.1 B.2.1 B.2.2.1 B.2.2.2.1 a0 a t0 t1 he0 he1 ht0 ht1 rfl q1 q2 q3 q4 q5 (fun _ _ => rfl) (by show 1 ≤ d + 1; omega) hl hd
    (fun H1 locs1 hP hD hS => h p l e s mi args below meth c A D as0 as _ tys H1 locs1 ls C (B.toH h1 trivial ⟨c1, t1, ht1, rfl⟩ hP hD hS B.sk.tl.tl.tl.tl.tl) hk)
end PXW
end
section
/-! making, returning, calling -/
theorem px_dflv {as : List Nat} (t : FieldType) : px_v as (px_dfl t) = px_dfl t := by cases t <;> rfl
theorem px_dflok {n : Nat} (t : FieldType) : px_vok n (px_dfl t) := by cases t <;> trivial
theorem px_nf_v {as : List Nat} (r : vw_C) (j : Nat) : px_v as (px_nf r j) = px_nf r j := by
  unfold px_nf
  split
  · exact px_dflv _
  · rfl
theorem px_newf_v {as : List Nat} (r : vw_C) : (px_newf r).map (px_v as) = px_newf r := by
  unfold px_newf
  rw [List.map_map]
  exact List.map_congr_left (fun j _ => px_nf_v r j)
theorem px_newf_ok {n : Nat} (r : vw_C) : ∀ v ∈ px_newf r, px_vok n v := by
  intro v hv
  obtain ⟨j, -, rfl⟩ := List.mem_map.mp hv
  unfold px_nf
  split
  · exact px_dflok _
  · trivial
def px_mok (m : px_M) : Prop := Cond.code (px_my m) (px_mb m) (px_ml m) (px_mr m) ∈ px_W ∧ plainName (px_my m).cls = true ∧ ((px_my m).cls ≠ "java/lang/invoke/MethodHandle" ∧ (px_my m).cls ≠ "java/lang/invoke/VarHandle") ∧ px_ml m ≤ 21
def px_ws (m : px_M) : List Cond := .code (px_my m) (px_mb m) (px_ml m) (px_mr m) :: px_W
theorem px_good {m : px_M} (h : px_mok m) : GoodIn px_W (px_ws m) := by
  intro w hw
  have h1 : w ∈ px_W := by
    rcases List.mem_cons.mp hw with rfl | h1
    · exact h.1
    · exact h1
  exact ⟨h1, good_of_word (List.mem_filter.mp h1).2⟩
def px_Pc (vs : List Value) (D : va_G) (as : List Nat) (ws : va_W) (tys : List (ClassId × FieldType)) (sz : Nat) : Array Value → State → Prop := va_Pc (vs.map (px_v as)) (fun U => U.heap.size = sz ∧ va_P D vwCl ws U.heap ∧ va_K D vwCl tys U ∧ va_D (fun _ => True) ws ∧ px_N U)
theorem px_blind {vs : List Value} {D : va_G} {as : List Nat} {ws : va_W} {tys : List (ClassId × FieldType)} {sz : Nat} : FrameBlind (px_Pc vs D as ws tys sz) := by
  intro a U g mk q
  obtain ⟨q0, q1, qP, qK, qD, qN⟩ := q
  exact ⟨q0, q1, qP, va_K.moved (u := U) (U := U.calling g mk a) (Vm.Alike.refl U.vm) qK, qD, px_N.same (s := U) (U := U.calling g mk a) rfl qN⟩
def px_SC (d : Nat) (m : px_M) (vs : List Value) (w : px_H) (Q : Option Value → px_H → Prop) : Prop := ∀ (l : Launch) (D : va_G) (as : List Nat) (ws : va_W) (tys : List (ClassId × FieldType)) (sz : Nat), px_R as ws tys w → px_sok as.length vs →
  Met l (px_my m) (px_ws m) (px_rm d m) (px_Pc vs D as ws tys sz) (px_Qc D as Q (va_A ws sz)) (px_mc m) (320 * px_mc m) (va_A ws sz)
theorem px_lg {vs : List Value} {n : Nat} (h : px_sok n vs) (as : List Nat) : (lg_sl (vs.map (px_v as))).length = vs.length := by
  induction vs with
  | nil => rfl
  | cons v vs ih =>
    have hc : (px_v as v).category = 1 := by rw [px_v_cat]; exact h.hd.cat
    have := ih h.tl
    simp only [lg_sl] at this
    simp [lg_sl, hc, this]
theorem px_lvargs {n : Nat} (as : List Nat) : ∀ (vs : List Value) (i : Nat), px_sok n vs → ∀ (j : Nat) (v : Value), vs[j]? = some v → (i + j, px_v as v) ∈ lv_args i (vs.map (px_v as)) := by
  intro vs
  induction vs with
  | nil => intro i _ j v hj; simp at hj
  | cons u vs ih =>
    intro i h j v hj
    have hc : ¬ (px_v as u).category = 2 := by rw [px_v_cat, h.hd.cat]; decide
    rw [List.map_cons, lv_args, if_neg hc]
    cases j with
    | zero =>
      simp at hj
      subst hj
      exact List.mem_cons_self
    | succ j =>
      have := ih (i + 1) h.tl j v (by simpa using hj)
      rw [show i + 1 + j = i + (j + 1) by omega] at this
      exact List.mem_cons_of_mem _ this
theorem px_en_at {n : Nat} {vs : List Value} {j : Nat} {v : Value} (h : (px_en n vs)[j]? = some (some v)) : vs[j]? = some v := by
  unfold px_en at h
  rcases Nat.lt_or_ge j vs.length with hj | hj
  · rw [List.getElem?_append_left (by rw [List.length_map]; exact hj), List.getElem?_map] at h
    cases hv : vs[j]? with
    | none => rw [hv] at h; cases h
    | some u => rw [hv] at h; cases h; rfl
  · rw [List.getElem?_append_right (by rw [List.length_map]; exact hj)] at h
    have := List.mem_of_getElem? h
    simp at this
theorem px_met {d : Nat} {m : px_M} {vs : List Value} {w : px_H} {Q : Option Value → px_H → Prop} (hm : px_mok m) (hl : vs.length ≤ px_ml m) (h : px_SW d m 0 (px_en (px_ml m) vs) [] w 0 Q) : px_SC d m vs w Q := by
  intro l D as ws tys sz hR hvs
  refine Met.ofW (cc := px_mb m) (maxL := px_ml m) (ret := px_mr m) hm.2.1 rfl ?_
  intro p e s mi args below meth c s₁ B hml hv
  obtain ⟨rfl, hsz, hP, hK, hD0, hN⟩ := hv
  subst hsz
  have hts := atoms_spec (ws := px_ws m) B.pre
  have hlo := lv_entry (vs.map (px_v as)) (n := px_ml m) (by rw [px_lg hvs]; exact hl)
  rw [lg_entry_eq]
  refine h p l e s mi _ below meth c (va_A ws s.heap.size) D as as ws tys s.heap [] _ ⟨B.exec, B.bytes, hml, findClass_of_methodNamed B.named, fun w hw => hts w (List.mem_cons_of_mem _ hw), hN, B.returns, B.notSynchronized, (name_of_methodNamed B.named B.method).1, fun q hq => Or.inr hq⟩
    ⟨hK, hP, hD0.self, va_S.rf, hR, List.prefix_refl _, ⟨⟨hlo.1, hlo.2.1, fun q hq => ?_⟩, ?_, fun j v hj => ?_⟩, px_sok.nil⟩ (Nat.zero_le _)
  · obtain ⟨j, x⟩ := q
    obtain ⟨v, hv, rfl⟩ := px_lv_mem.mp hq
    have := px_lvargs as vs 0 hvs j v (px_en_at hv)
    rw [Nat.zero_add] at this
    exact hlo.2.2 _ this
  · unfold px_en
    rw [List.length_append, List.length_map, List.length_replicate]
    omega
  · exact hvs v (List.mem_of_getElem? (px_en_at hj))
section PXX
variable {d : Nat} {m : px_M} {pc k : Nat} {L : px_L} {st : List Value} {w : px_H} {Q : Option Value → px_H → Prop}
theorem px_q_new (cf : px_CF) {idx ci : Nat} {r : vw_C} (hd : decode (px_mb m) pc = .ok (.new idx, 3)) (hr : vwCl[ci]? = some r) (hc : Cond.classLink (px_my m).cls idx r.1 ∈ px_W) (hk1 : k + 1 ≤ px_mc m)
    (h : px_SW d m (pc + 3) L (.ref w.1 :: st) (px_add w (.inr (.inr (ci, px_newf r)))) (k + 1) Q) : px_SW d m pc L st w k Q := by
  intro p l e s mi args below meth c A D as0 as ws tys H locs ls C B hk
  obtain ⟨hin, ⟨ty0, hty⟩, hnm, hins, hini, h320⟩ := cf ci r hr
  have hts := C.2.2.2.2.1
  refine va_new (D := D) (C := r.1) (T := r.2.1) (N := r.2.2) (fs := px_newf r) C.1 C.2.1 hts hin ty0 (fun j hj => (hty j hj).1) C.2.2.2.1 (hts _ hc) (hts _ hins) (hts _ hini) B.1 B.2.1 B.2.2.1 B.2.2.2.1 C.2.2.2.2.2.2.2.2.2 hr (fun j hj => ?_) hk1 (by show 320 * k + r.2.2 ≤ 320 * px_mc m; omega) hd (fun q H1 hP hD hS => ?_)
  · unfold vp_V px_newf
    rw [← (hty j hj).2]
    simp [List.getD, hj, px_nf, (hty j hj).1]
  · refine W.widen (k := k + 1) (n := 320 * (k + 1)) (Nat.le_refl _) (by omega) ?_
    have hB := B.toN (q := q) (c := .inr (.inr (ci, px_newf r))) (e := .inr (ci, px_newf r)) (tl := []) (st' := st) (px_newf_ok r) (by show _ = _; rw [px_newf_v]) (by rw [List.append_nil]; exact B.1) hP hD hS B.sk
    have := h p l e s mi args below meth c A D as0 _ _ _ H1 locs ls C hB hk1
    rw [show ((Value.ref w.1) :: st).map (px_v (as ++ [q])) = Value.ref q :: st.map (px_v as) by
      rw [List.map_cons, px_sok.map B.sk]
      show Value.ref ((as ++ [q]).getD w.1 0) :: _ = _
      rw [← B.r.2.1]
      simp [List.getD]] at this
    exact this
theorem px_q_newarr {t : Jvm.ClassFile.ArrayType} {ty : FieldType} {n : Int32} (hd : decode (px_mb m) pc = .ok (.newarray t, 2)) (ht : px_nat t = some ty) (hc : Cond.arrayClass ty ∈ px_W) (hk1 : k + 1 ≤ px_mc m) (hn : ¬ n < 0) (h320 : n.toNatClampNeg ≤ 320)
    (h : px_SW d m (pc + 2) L (.ref w.1 :: st) (px_add w (.inl (ty, n.toNatClampNeg, fun _ => 0))) (k + 1) Q) : px_SW d m pc L (.int n :: st) w k Q := by
  intro p l e s mi args below meth c A D as0 as ws tys H locs ls C B hk
  have hts := C.2.2.2.2.1
  have hty : newarray.typeOf t = ty ∧ componentBytes ty ≤ 8 ∧ defaultValue ty = .int 0 := by
    cases t <;> first | (cases ht; exact ⟨rfl, by decide, rfl⟩) | (cases ht)
  obtain ⟨hty, hcb, hdv⟩ := hty
  refine va_newa (atype := t) (ty := ty) (a0 := (n.toNatClampNeg, .inl (fun _ => 0))) C.1 C.2.1 (by rw [hty]; exact hts _ hc) hty B.1 B.2.1 B.2.2.1 B.2.2.2.1 C.2.2.2.2.2.2.2.2.2 (fun cA => by rw [hdv]; rfl) hn rfl ?_ hk1 (by show 320 * k + _ ≤ 320 * px_mc m; omega) hd (fun q cA H1 hK hP hD hS => ?_)
  · have := Nat.mul_le_mul h320 hcb
    omega
  · refine W.widen (k := k + 1) (n := 320 * (k + 1)) (Nat.le_refl _) (by omega) ?_
    have hB := B.toN (q := q) (c := .inl (ty, n.toNatClampNeg, fun _ => 0)) (tl := [(cA, ty)]) (st' := st) trivial ⟨cA, tys.length, by simp, rfl⟩ hK hP hD hS B.sk.tl
    have := h p l e s mi args below meth c A D as0 _ _ _ H1 locs ls C hB hk1
    rw [show ((Value.ref w.1) :: st).map (px_v (as ++ [q])) = Value.ref q :: st.map (px_v as) by
      rw [List.map_cons, px_sok.map B.sk.tl]
      show Value.ref ((as ++ [q]).getD w.1 0) :: _ = _
      rw [← B.r.2.1]
      simp [List.getD]] at this
    exact this
theorem px_q_anew {idx : Nat} {E : String} {n : Int32} (hd : decode (px_mb m) pc = .ok (.anewarray idx, 3)) (hc : Cond.classLink (px_my m).cls idx E ∈ px_W) (ho : Cond.arrayOver (.object E) ∈ px_Z) (hk1 : k + 1 ≤ px_mc m) (hn : ¬ n < 0) (h320 : n.toNatClampNeg ≤ 320)
    (h : px_SW d m (pc + 3) L (.ref w.1 :: st) (px_add w (.inr (.inl (.object E, n.toNatClampNeg, fun _ => none)))) (k + 1) Q) : px_SW d m pc L (.int n :: st) w k Q := by
  intro p l e s mi args below meth c A D as0 as ws tys H locs ls C B hk
  have hts := C.2.2.2.2.1
  refine va_newq C.1 C.2.1 C.2.2.2.1 (hts _ hc) (C.2.2.2.2.2.1 _ ho) B.1 B.2.1 B.2.2.1 B.2.2.2.1 C.2.2.2.2.2.2.2.2.2 hn rfl (by omega) hk1 (by show 320 * k + _ ≤ 320 * px_mc m; omega) hd (fun q cA H1 hK hP hD hS => ?_)
  refine W.widen (k := k + 1) (n := 320 * (k + 1)) (Nat.le_refl _) (by omega) ?_
  have hB := B.toN (q := q) (c := .inr (.inl (.object E, n.toNatClampNeg, fun _ => none))) (tl := [(cA, .object E)]) (st' := st) (fun j i hj => by cases hj) ⟨cA, tys.length, by simp, rfl⟩ hK hP hD hS B.sk.tl
  have := h p l e s mi args below meth c A D as0 _ _ _ H1 locs ls C hB hk1
  rw [show ((Value.ref w.1) :: st).map (px_v (as ++ [q])) = Value.ref q :: st.map (px_v as) by
    rw [List.map_cons, px_sok.map B.sk.tl]
    show Value.ref ((as ++ [q]).getD w.1 0) :: _ = _
    rw [← B.r.2.1]
    simp [List.getD]] at this
  exact this
theorem px_q_iret {x : Int32} (hd : decode (px_mb m) pc = .ok (.ireturn, 1)) (hr : px_mr m = some .int ∨ (px_mr m = some .boolean ∧ (x = 0 ∨ x = 1))) (hq : Q (some (.int x)) w) : px_SW d m pc L [.int x] w k Q := by
  intro p l e s mi args below meth c A D as0 as ws tys H locs ls C B hk
  refine W.widen (k := px_mc m) (n := 320 * px_mc m) hk (by omega) ?_
  have hE : ∀ t : State, t.heap = H → s.WarmedH t.vm → px_Qc D as0 Q A args s (.returned (some (.int x))) t := fun t ht hW => ⟨⟨some (.int x), w, as, ws, tys, rfl, hq, B.2.2.2.2.2.1, fun v hv => by cases hv; trivial, B.r, by rw [ht]; exact B.2.1, va_K.moved hW.alike B.1, B.2.2.1⟩, B.2.2.2.1.F ht⟩
  rcases hr with hr | ⟨hr, hx⟩
  · exact W.iret (v := x) C.1 C.2.1 (C.2.2.2.2.2.2.1.trans hr) hE B.2.2.2.1.2.2 hd C.2.2.2.2.2.2.2.1
  · exact W.zret (v := x) C.1 C.2.1 (C.2.2.2.2.2.2.1.trans hr) (by rcases hx with rfl | rfl <;> rfl) hE B.2.2.2.1.2.2 hd C.2.2.2.2.2.2.2.1
theorem px_q_aret {v : Value} {E : String} (hd : decode (px_mb m) pc = .ok (.areturn, 1)) (hr : px_mr m = some (.object E)) (hv : px_isr v = true) (hq : Q (some v) w) : px_SW d m pc L [v] w k Q := by
  intro p l e s mi args below meth c A D as0 as ws tys H locs ls C B hk
  refine W.widen (k := px_mc m) (n := 320 * px_mc m) hk (by omega) ?_
  have hE : ∀ t : State, t.heap = H → s.WarmedH t.vm → px_Qc D as0 Q A args s (.returned (some (px_v as v))) t := fun t ht hW => ⟨⟨some v, w, as, ws, tys, rfl, hq, B.2.2.2.2.2.1, fun u hu => by cases hu; exact B.sk.hd, B.r, by rw [ht]; exact B.2.1, va_K.moved hW.alike B.1, B.2.2.1⟩, B.2.2.2.1.F ht⟩
  exact W.aret C.1 C.2.1 (C.2.2.2.2.2.2.1.trans hr) (Or.inl ⟨E, rfl⟩) (by cases v with | null => exact Or.inl rfl | ref i => exact Or.inr ⟨_, rfl⟩ | _ => cases hv) hE B.2.2.2.1.2.2 hd C.2.2.2.2.2.2.2.1
theorem px_q_vret (hd : decode (px_mb m) pc = .ok (.return_, 1)) (hr : px_mr m = none) (hq : Q none w) : px_SW d m pc L [] w k Q := by
  intro p l e s mi args below meth c A D as0 as ws tys H locs ls C B hk
  refine W.widen (k := px_mc m) (n := 320 * px_mc m) hk (by omega) ?_
  have hE : ∀ t : State, t.heap = H → s.WarmedH t.vm → px_Qc D as0 Q A args s (.returned none) t := fun t ht hW => ⟨⟨none, w, as, ws, tys, rfl, hq, B.2.2.2.2.2.1, (fun u hu => by cases hu), B.r, by rw [ht]; exact B.2.1, va_K.moved hW.alike B.1, B.2.2.1⟩, B.2.2.2.1.F ht⟩
  exact W.vret C.1 C.2.1 (C.2.2.2.2.2.2.1.trans hr) hE B.2.2.2.1.2.2 hd C.2.2.2.2.2.2.2.1
def px_lkO (own : String) (idx : Nat) : Prop := Cond.methodLink own idx Lib.objectInit ∈ px_W ∧ Cond.instanceMethod Lib.objectInit ∈ px_W ∧ Cond.code Lib.objectInit ⟨#[0xb1]⟩ 1 none ∈ px_W
theorem px_q_obj {idx a : Nat} (hd : decode (px_mb m) pc = .ok (.invokespecial idx, 3)) (F : px_lkO (px_my m).cls idx) (hs : st.length ≤ 8) (h : px_SW d m (pc + 3) L st w k Q) : px_SW d m pc L (.ref a :: st) w k Q := by
  intro p l e s mi args below meth c A D as0 as ws tys H locs ls C B hk
  have hts := C.2.2.2.2.1
  refine W.objInit C.1 C.2.1 C.2.2.2.1 (hts _ F.1) (hts _ F.2.1) (hts _ F.2.2) rfl (by rw [C.2.2.1]; exact B.lo.1.1) rfl hd (by show 1 ≤ d + 1; omega) ?_ (h p l e s mi args below meth c A D as0 as ws tys H locs ls C (B.toS B.sk.tl) hk)
  have h1 := lv_room (m := mi) (pc := pc) (ls := ls) (rest := (Value.ref a :: st).map (px_v as)) (st := st.map (px_v as)) (by rw [px_sok.cat B.sk.tl]; exact hs)
  show _ ≤ 40 * (d + 1)
  omega
end PXX
end
section
/-! calls -/
theorem px_iv_inv {n : Nat} {st vs rest : List Value} (h : px_iv n st = some (vs, rest)) : st = vs.reverse ++ rest ∧ vs.length = n ∧ rest.length ≤ 8 := by
  unfold px_iv at h
  split at h
  · rename_i hl
    cases h
    refine ⟨by rw [List.reverse_reverse, List.take_append_drop], ?_, hl.2⟩
    rw [List.length_reverse, List.length_take]
    omega
  · cases h
theorem px_sok.app_l {n : Nat} {a b : List Value} (h : px_sok n (a ++ b)) : px_sok n a := fun v hv => h v (List.mem_append_left _ hv)
theorem px_sok.app_r {n : Nat} {a b : List Value} (h : px_sok n (a ++ b)) : px_sok n b := fun v hv => h v (List.mem_append_right _ hv)
theorem px_sok.rev {n : Nat} {a : List Value} (h : px_sok n a.reverse) : px_sok n a := fun v hv => h v (List.mem_reverse.mpr hv)
section PXY
variable {p : Program} {l : Launch} {e : Env} {R : Room} {s : State} {mi : MethodId} {args : Array Value} {below : List Frame} {meth : Method} {c : Code} {H : Heap} {locs : List Loc} {cells slots mc ms : Nat}
variable {pc k d : Nat} {ls : Array Slot} {st0 rest : List Value} {D : va_G} {as0 as : List Nat} {ws : va_W} {tys : List (ClassId × FieldType)} {A : Nat → Prop} {a : Array Value} {Z : State → Prop} {Q' Q : Option Value → px_H → Prop} {m m' : px_M} {L : px_L} {w : px_H}
theorem px_after (hr : va_Run p l e R s mi args below meth c H locs cells slots mc ms (F0 mi pc ls st0) rest (px_Qc D as Q' (va_A ws H.size) a) (va_A ws H.size)) (hA : ∀ q, va_A ws H.size q → A q) (hS : va_S A s.heap H locs)
    (kk : ∀ (r : Option Value) (w' : px_H) (as' : List Nat) (ws' : va_W) (tys' : List (ClassId × FieldType)) (H1 : Heap) (locs1 : List Loc), Q' r w' → as <+: as' → (∀ v, r = some v → px_vok as'.length v) → px_R as' ws' tys' w' → va_P D vwCl ws' H1 → va_K D vwCl tys' s → va_D A ws' → va_S A s.heap H1 locs1 → W p l e R s mi args below meth c H1 locs1 (cells + mc) (slots + ms) Z (F0 mi (pc + 3) ls ((r.map (px_v as')).toList ++ rest))) :
    W p l e R s mi args below meth c H locs cells slots Z (F0 mi pc ls st0) := by
  intro T hT X
  obtain ⟨v, st₀, t, T', L, h0, X', hL, e1, e2, ⟨⟨r, w', as', ws', tys', hv, hq, hpre, hrok, hR, hP, hK, hD⟩, hz, hk⟩, st⟩ := hr T hT X
  cases hv
  rw [h0] at hz hk
  have hal : s.vm.Alike t.vm := by rw [← e2]; exact X'.warmed.alike
  obtain ⟨t2, a1, b1⟩ := kk r w' as' ws' tys' T'.heap (locs ++ L) hq hpre hrok hR (by rw [e1]; exact hP) (va_K.moved hal.symm hK) (hD.weaken (fun _ q _ h => hA q.1 h))
    ⟨Nat.le_trans hS.1 (by rw [e1]; exact hz), fun q h1 h2 => by rw [e1, hk q (Nat.lt_of_lt_of_le h1 hS.1) (fun z => h2 (hA q z))]; exact hS.2.1 q h1 h2, fun q hq => by
      rcases List.mem_append.mp hq with h | h
      · exact hS.2.2 q h
      · exact hA _ (hL q h)⟩ T' rfl X'
  exact ⟨t2, st t2 a1, b1⟩
theorem px_done (C : px_C m p s mi args meth c A) (B : px_B s A D as0 as ws tys H locs ls (px_ml m) L st0 w) (hrest : px_sok as.length rest) (hk1 : k + px_mc m' ≤ px_mc m)
    (hr : va_Run p l e (px_rm d m) s mi args below meth c H locs k (320 * k) (px_mc m') (320 * px_mc m') (F0 mi pc ls (st0.map (px_v as))) (rest.map (px_v as)) (px_Qc D as (fun r w' => px_SW d m (pc + 3) L (r.toList ++ rest) w' (k + px_mc m') Q) (va_A ws H.size) a) (va_A ws H.size)) :
    W p l e (px_rm d m) s mi args below meth c H locs k (320 * k) (MQ below (px_Qc D as0 Q A) args s (px_mc m) (320 * px_mc m) A) (F0 mi pc ls (st0.map (px_v as))) := by
  have hA : ∀ q, va_A ws H.size q → A q := by
    intro q h
    rcases h with ⟨i, e', h⟩ | h
    · exact B.2.2.1.2 i (q, e') h
    · exact C.2.2.2.2.2.2.2.2.2 q (Nat.le_trans B.2.2.2.1.1 h)
  refine px_after hr hA B.2.2.2.1 (fun r w' as' ws' tys' H1 locs1 hq hpre hrok hR hP hK hD hS => ?_)
  have hle : as.length ≤ as'.length := hpre.length_le
  have hs : px_sok as'.length (r.toList ++ rest) := by
    intro v hv
    rcases List.mem_append.mp hv with h | h
    · cases r with
      | none => cases h
      | some u =>
        have : v = u := by simpa using h
        subst this
        exact hrok _ rfl
    · exact (hrest v h).le hle
  have := hq p l e s mi args below meth c A D as0 as' ws' tys' H1 locs1 ls C ⟨hK, hP, hD, hS, hR, B.2.2.2.2.2.1.trans hpre, B.lo.pre hpre, hs⟩ hk1
  rw [show (r.toList ++ rest).map (px_v as') = (r.map (px_v as')).toList ++ rest.map (px_v as) by
    rw [List.map_append]
    congr 1
    · cases r <;> rfl
    · obtain ⟨t, rfl⟩ := hpre
      exact px_sok.map hrest] at this
  rw [show 320 * k + 320 * px_mc m' = 320 * (k + px_mc m') by omega]
  exact this
end PXY
theorem px_hR {d : Nat} {m m' : px_M} (h : px_mok m') : (px_rm d m').frames + 1 ≤ (px_rm (d + 1) m).frames ∧ 8 + (px_ml m' + 11) + (px_rm d m').locals ≤ (px_rm (d + 1) m).locals := by
  have h1 := h.2.2.2
  constructor
  · show d + 1 + 1 ≤ d + 1 + 1
    omega
  · show 8 + (px_ml m' + 11) + 40 * (d + 1) ≤ 40 * (d + 1 + 1)
    omega
def px_len1 (y : MethodName) (n : Nat) : Prop := (parseMethodDescriptor y.desc).map (fun d => d.parameters.length) = some n
def px_lkS (own : String) (idx n : Nat) (m' : px_M) : Prop := Cond.methodLink own idx (px_my m') ∈ px_W ∧ Cond.static (px_my m') ∈ px_W ∧ Cond.initialized (px_my m').cls ∈ px_W ∧ px_len1 (px_my m') n
def px_lkI (own : String) (idx n : Nat) (m' : px_M) : Prop := Cond.methodLink own idx (px_my m') ∈ px_W ∧ Cond.instanceMethod (px_my m') ∈ px_W ∧ Cond.initialized (px_my m').cls ∈ px_W ∧ (px_my m').name = "<init>" ∧ px_mr m' = none ∧ px_len1 (px_my m') n
def px_lkN (own : String) (idx n : Nat) (m' : px_M) : Prop := (∃ host : String, Cond.methodLinkNest own idx (px_my m') host ∈ px_Z) ∧ Cond.instanceMethod (px_my m') ∈ px_W ∧ Cond.initialized (px_my m').cls ∈ px_W ∧ (px_my m').name = "<init>" ∧ px_mr m' = none ∧ px_len1 (px_my m') n
def px_lkV (own : String) (idx n ci : Nat) (m' : px_M) : Prop := ∃ r : vw_C, vwCl[ci]? = some r ∧ Cond.methodLink own idx (px_my m') ∈ px_W ∧ Cond.instanceMethod (px_my m') ∈ px_W ∧ Cond.selects r.1 (px_my m') (px_my m') ∈ px_W ∧ Cond.initialized (px_my m').cls ∈ px_W ∧ px_len1 (px_my m') n
def px_lkU (own : String) (idx n ci : Nat) (m' : px_M) (owner : String) : Prop := ∃ (r : vw_C) (x : MethodName), vwCl[ci]? = some r ∧ Cond.methodLink own idx x ∈ px_W ∧ Cond.sameMethod x.cls owner x.name x.desc ∈ px_W ∧ Cond.selects r.1 x (px_my m') ∈ px_W ∧ Cond.instanceMethod (px_my m') ∈ px_W ∧ Cond.initialized (px_my m').cls ∈ px_W ∧ (owner ≠ "java/lang/invoke/MethodHandle" ∧ owner ≠ "java/lang/invoke/VarHandle") ∧
  (Cond.declares ⟨owner, x.name, x.desc⟩ ∈ px_Z ∨ (Cond.instanceMethod ⟨owner, x.name, x.desc⟩ ∈ px_W ∧ ∃ (b0 : ByteArray) (m0 : Nat) (r0 : Option FieldType), Cond.code ⟨owner, x.name, x.desc⟩ b0 m0 r0 ∈ px_W)) ∧ px_len1 x n
def px_lkX (own : String) (idx n : Nat) (m' : px_M) : Prop := Cond.methodLink own idx (px_my m') ∈ px_W ∧ Cond.sameMethod (px_my m').cls (px_my m').cls (px_my m').name (px_my m').desc ∈ px_W ∧ Cond.superclass own (px_my m').cls ∈ px_W ∧ Cond.instanceMethod (px_my m') ∈ px_W ∧ Cond.initialized (px_my m').cls ∈ px_W ∧ (px_my m').name ≠ "<init>" ∧ px_len1 (px_my m') n
theorem px_len1.sig {y : MethodName} {n : Nat} (h : px_len1 y n) : ∀ sig, parseMethodDescriptor y.desc = some sig → n = sig.parameters.length := by
  intro sig hs
  unfold px_len1 at h
  rw [hs] at h
  exact (Option.some.inj h).symm
section PXZ
variable {d : Nat} {m m' : px_M} {pc k idx n : Nat} {L : px_L} {st vs rest : List Value} {w : px_H} {Q : Option Value → px_H → Prop}
theorem px_q_static (hd : decode (px_mb m) pc = .ok (.invokestatic idx, 3)) (hm' : px_mok m') (F : px_lkS (px_my m).cls idx n m') (hst : px_iv n st = some (vs, rest)) (hk1 : k + px_mc m' ≤ px_mc m)
    (SC : px_SC d m' vs w (fun r w' => px_SW (d + 1) m (pc + 3) L (r.toList ++ rest) w' (k + px_mc m') Q)) : px_SW (d + 1) m pc L st w k Q := by
  intro p l e s mi args below meth c A D as0 as ws tys H locs ls C B hk
  obtain ⟨rfl, hn, h8⟩ := px_iv_inv hst
  have hts := C.2.2.2.2.1
  have hvs : px_sok as.length vs := B.sk.app_l.rev
  have hrest : px_sok as.length rest := B.sk.app_r
  have hM := SC l D as ws tys H.size B.r hvs
  refine px_done C B hrest hk1 (va_runS (As := vs.map (px_v as)) (rest := rest.map (px_v as)) (g := F0 mi pc ls ((vs.reverse ++ rest).map (px_v as))) (Ts := px_W) ⟨C.1, C.2.1, C.2.2.1, C.2.2.2.1, hts⟩ hM
    ⟨callB_of n hts (px_good hm') rfl rfl rfl (hts _ F.2.2.1) (hts _ F.1) ⟨hm'.2.2.1.1, hm'.2.2.1.2, F.2.2.2⟩ (px_hR hm'), hts _ F.2.1⟩
    ⟨px_blind, fun U hU hW => ⟨rfl, by rw [hU], by rw [hU]; exact B.2.1, va_K.moved hW.alike B.1, B.2.2.1.weaken (fun _ _ _ _ => trivial), C.2.2.2.2.2.1.warm hW⟩⟩ rfl (by rw [List.length_map]; exact hn) B.lo.1.1 ?_ (lv_room (by rw [px_sok.cat hrest]; exact h8)) hd ⟨hk1, by show 320 * k + 320 * px_mc m' ≤ 320 * px_mc m; omega⟩)
  show (vs.reverse ++ rest).map (px_v as) = _
  rw [List.map_append, List.map_reverse]
theorem px_q_init {b : Nat} (hd : decode (px_mb m) pc = .ok (.invokespecial idx, 3)) (hm' : px_mok m') (F : px_lkI (px_my m).cls idx n m' ∨ px_lkN (px_my m).cls idx n m') (hst : px_iv n st = some (vs, .ref b :: rest)) (hk1 : k + px_mc m' ≤ px_mc m)
    (SC : px_SC d m' (.ref b :: vs) w (fun r w' => px_SW (d + 1) m (pc + 3) L (r.toList ++ rest) w' (k + px_mc m') Q)) : px_SW (d + 1) m pc L st w k Q := by
  intro p l e s mi args below meth c A D as0 as ws tys H locs ls C B hk
  obtain ⟨rfl, hn, h8⟩ := px_iv_inv hst
  have hts := C.2.2.2.2.1
  have hvs : px_sok as.length vs := B.sk.app_l.rev
  have hbr : px_sok as.length (.ref b :: rest) := B.sk.app_r
  have hrest : px_sok as.length rest := hbr.tl
  have hM := SC l D as ws tys H.size B.r (px_sok.cons hbr.hd hvs)
  have hstk : (vs.reverse ++ .ref b :: rest).map (px_v as) = (vs.map (px_v as)).reverse ++ .ref (as.getD b 0) :: rest.map (px_v as) := by
    rw [List.map_append, List.map_reverse]
    rfl
  have h8' : rest.length ≤ 8 := Nat.le_trans (Nat.le_succ _) h8
  have hpre : PreS s H (px_Pc (.ref b :: vs) D as ws tys H.size) (.ref (as.getD b 0) :: vs.map (px_v as)) := ⟨px_blind, fun U hU hW => ⟨rfl, by rw [hU], by rw [hU]; exact B.2.1, va_K.moved hW.alike B.1, B.2.2.1.weaken (fun _ _ _ _ => trivial), C.2.2.2.2.2.1.warm hW⟩⟩
  have hcap : k + px_mc m' ≤ (px_rm (d + 1) m).cells ∧ 320 * k + 320 * px_mc m' ≤ (px_rm (d + 1) m).slots := ⟨hk1, by show 320 * k + 320 * px_mc m' ≤ 320 * px_mc m; omega⟩
  rcases F with F | F
  · have hw : px_ws m' = Cond.code (px_my m') (px_mb m') (px_ml m') none :: px_W := by unfold px_ws; rw [F.2.2.2.2.1]
    exact px_done C B hrest hk1 (va_runI (As := vs.map (px_v as)) (rest := rest.map (px_v as)) (b := as.getD b 0) (g := F0 mi pc ls _) (Ts := px_W) ⟨C.1, C.2.1, C.2.2.1, C.2.2.2.1, hts⟩ hM
      (cwI n hts (px_good hm') hw rfl rfl (hts _ F.2.2.1) (hts _ F.1) (hts _ F.2.1) F.2.2.2.1 ⟨hm'.2.2.1.1, hm'.2.2.1.2, F.2.2.2.2.2⟩ (px_hR hm'))
      hpre rfl (by rw [List.length_map]; exact hn) B.lo.1.1 hstk (lv_room (by rw [px_sok.cat hrest]; exact h8')) hd hcap)
  · have hw : px_ws m' = Cond.code (px_my m') (px_mb m') (px_ml m') none :: px_W := by unfold px_ws; rw [F.2.2.2.2.1]
    obtain ⟨⟨host, hho⟩, F⟩ := F
    exact px_done C B hrest hk1 (va_runIN (As := vs.map (px_v as)) (rest := rest.map (px_v as)) (b := as.getD b 0) (g := F0 mi pc ls _) (Ts := px_W) ⟨C.1, C.2.1, C.2.2.1, C.2.2.2.1, hts⟩ hM
      ⟨va_cnB (host := host) n hts (px_good hm') hw rfl rfl (C.2.2.2.2.2.1 _ hho) (hts _ F.2.1) ⟨hm'.2.2.1.1, hm'.2.2.1.2, F.2.2.2.2⟩ (px_hR hm'), F.2.2.1, hts _ F.1⟩
      hpre rfl (by rw [List.length_map]; exact hn) B.lo.1.1 hstk (lv_room (by rw [px_sok.cat hrest]; exact h8')) hd hcap)
theorem px_q_virt {b ci : Nat} {owner : String} (hd : decode (px_mb m) pc = .ok (.invokevirtual idx, 3)) (hm' : px_mok m') (F : px_lkV (px_my m).cls idx n ci m' ∨ px_lkU (px_my m).cls idx n ci m' owner) (hst : px_iv n st = some (vs, .ref b :: rest)) (hcl : px_cls w b = some ci) (hk1 : k + px_mc m' ≤ px_mc m)
    (SC : px_SC d m' (.ref b :: vs) w (fun r w' => px_SW (d + 1) m (pc + 3) L (r.toList ++ rest) w' (k + px_mc m') Q)) : px_SW (d + 1) m pc L st w k Q := by
  intro p l e s mi args below meth c A D as0 as ws tys H locs ls C B hk
  obtain ⟨rfl, hn, h8⟩ := px_iv_inv hst
  have hts := C.2.2.2.2.1
  have hvs : px_sok as.length vs := B.sk.app_l.rev
  have hbr : px_sok as.length (.ref b :: rest) := B.sk.app_r
  have hrest : px_sok as.length rest := hbr.tl
  have hM := SC l D as ws tys H.size B.r (px_sok.cons hbr.hd hvs)
  have hstk : (vs.reverse ++ .ref b :: rest).map (px_v as) = (vs.map (px_v as)).reverse ++ .ref (as.getD b 0) :: rest.map (px_v as) := by
    rw [List.map_append, List.map_reverse]
    rfl
  have h8' : rest.length ≤ 8 := Nat.le_trans (Nat.le_succ _) h8
  obtain ⟨fs, hfs⟩ := px_cls_inv hcl
  obtain ⟨-, eb, heb, hceb⟩ := B.r.2.2 b _ hfs
  cases hceb
  have hcap : k + px_mc m' ≤ (px_rm (d + 1) m).cells ∧ 320 * k + 320 * px_mc m' ≤ (px_rm (d + 1) m).slots := ⟨hk1, by show 320 * k + 320 * px_mc m' ≤ 320 * px_mc m; omega⟩
  rcases F with ⟨r, hr, F1, F2, F3, F4, F5⟩ | ⟨r, x, hr, F1, F2, F3, F4, F5, F6, F7, F8⟩
  · have hpre : PreV s H r.1 (as.getD b 0) (px_Pc (.ref b :: vs) D as ws tys H.size) (vs.map (px_v as)) := ⟨px_blind, va_recv B.1 B.2.1 hr heb, fun U hU hW => ⟨rfl, by rw [hU], by rw [hU]; exact B.2.1, va_K.moved hW.alike B.1, B.2.2.1.weaken (fun _ _ _ _ => trivial), C.2.2.2.2.2.1.warm hW⟩⟩
    exact px_done C B hrest hk1 (va_runV (As := vs.map (px_v as)) (rest := rest.map (px_v as)) (b := as.getD b 0) (C := r.1) (g := F0 mi pc ls _) (Ts := px_W) ⟨C.1, C.2.1, C.2.2.1, C.2.2.2.1, hts⟩ hM
      ⟨callB_of n hts (px_good hm') rfl rfl rfl (hts _ F4) (hts _ F1) ⟨hm'.2.2.1.1, hm'.2.2.1.2, F5⟩ (px_hR hm'), hts _ F2, hts _ F3⟩
      hpre rfl (by rw [List.length_map]; exact hn) B.lo.1.1 hstk (lv_room (by rw [px_sok.cat hrest]; exact h8')) hd hcap)
  · have hpre : PreV s H r.1 (as.getD b 0) (px_Pc (.ref b :: vs) D as ws tys H.size) (vs.map (px_v as)) := ⟨px_blind, va_recv B.1 B.2.1 hr heb, fun U hU hW => ⟨rfl, by rw [hU], by rw [hU]; exact B.2.1, va_K.moved hW.alike B.1, B.2.2.1.weaken (fun _ _ _ _ => trivial), C.2.2.2.2.2.1.warm hW⟩⟩
    have hdecl : va_Decl s ⟨owner, x.name, x.desc⟩ := by
      rcases F7 with q | ⟨q1, b0, m0, r0, q2⟩
      · exact va_Decl.abs (C.2.2.2.2.2.1 _ q)
      · exact va_Decl.of (hts _ q1) (hts _ q2)
    have hcc : Cond.code (px_my m') (px_mb m') (px_ml m') (px_mr m') ∈ px_ws m' := List.mem_cons_self
    exact px_done C B hrest hk1 (va_runU (x := x) (owner := owner) (As := vs.map (px_v as)) (rest := rest.map (px_v as)) (b := as.getD b 0) (C := r.1) (g := F0 mi pc ls _) (Ts := px_W) ⟨C.1, C.2.1, C.2.2.1, C.2.2.2.1, hts⟩ hM
      ⟨⟨rfl, rfl, (px_hR hm').1, (px_hR hm').2, pay_in hts (px_good hm'), hcc⟩, hts _ hm'.1, hts _ F5, F6, F8.sig, hts _ F1, hts _ F2, hdecl, hts _ F3, hts _ F4⟩
      hpre rfl (by rw [List.length_map]; exact hn) B.lo.1.1 hstk (lv_room (by rw [px_sok.cat hrest]; exact h8')) hd hcap)
theorem px_q_super {b ci : Nat} (hd : decode (px_mb m) pc = .ok (.invokespecial idx, 3)) (hm' : px_mok m') (F : px_lkX (px_my m).cls idx n m') (hst : px_iv n st = some (vs, .ref b :: rest)) (hcl : px_cls w b = some ci) (hk1 : k + px_mc m' ≤ px_mc m)
    (SC : px_SC d m' (.ref b :: vs) w (fun r w' => px_SW (d + 1) m (pc + 3) L (r.toList ++ rest) w' (k + px_mc m') Q)) : px_SW (d + 1) m pc L st w k Q := by
  intro p l e s mi args below meth c A D as0 as ws tys H locs ls C B hk
  obtain ⟨rfl, hn, h8⟩ := px_iv_inv hst
  have hts := C.2.2.2.2.1
  have hvs : px_sok as.length vs := B.sk.app_l.rev
  have hbr : px_sok as.length (.ref b :: rest) := B.sk.app_r
  have hrest : px_sok as.length rest := hbr.tl
  have hM := SC l D as ws tys H.size B.r (px_sok.cons hbr.hd hvs)
  have hstk : (vs.reverse ++ .ref b :: rest).map (px_v as) = (vs.map (px_v as)).reverse ++ .ref (as.getD b 0) :: rest.map (px_v as) := by
    rw [List.map_append, List.map_reverse]
    rfl
  have h8' : rest.length ≤ 8 := Nat.le_trans (Nat.le_succ _) h8
  obtain ⟨fs, hfs⟩ := px_cls_inv hcl
  obtain ⟨-, eb, heb, hceb⟩ := B.r.2.2 b _ hfs
  cases hceb
  have hcap : k + px_mc m' ≤ (px_rm (d + 1) m).cells ∧ 320 * k + 320 * px_mc m' ≤ (px_rm (d + 1) m).slots := ⟨hk1, by show 320 * k + 320 * px_mc m' ≤ 320 * px_mc m; omega⟩
  obtain ⟨r, hr, -⟩ := B.2.1 b _ heb
  obtain ⟨F1, F2, F3, F4, F5, F6, F7⟩ := F
  have hpre : PreV s H r.1 (as.getD b 0) (px_Pc (.ref b :: vs) D as ws tys H.size) (vs.map (px_v as)) := ⟨px_blind, va_recv B.1 B.2.1 hr heb, fun U hU hW => ⟨rfl, by rw [hU], by rw [hU]; exact B.2.1, va_K.moved hW.alike B.1, B.2.2.1.weaken (fun _ _ _ _ => trivial), C.2.2.2.2.2.1.warm hW⟩⟩
  have hcc : Cond.code (px_my m') (px_mb m') (px_ml m') (px_mr m') ∈ px_ws m' := List.mem_cons_self
  exact px_done C B hrest hk1 (va_runSU (As := vs.map (px_v as)) (rest := rest.map (px_v as)) (b := as.getD b 0) (C := r.1) (g := F0 mi pc ls _) (Ts := px_W) (B.1.1 ci r hr).2 ⟨C.1, C.2.1, C.2.2.1, C.2.2.2.1, hts⟩ hM
    ⟨⟨rfl, rfl, (px_hR hm').1, (px_hR hm').2, pay_in hts (px_good hm'), hcc⟩, hts _ F1, hts _ F2, hts _ F3, hts _ F4, hts _ F5, hts _ hm'.1, F6, F7.sig⟩
    hpre rfl (by rw [List.length_map]; exact hn) B.lo.1.1 hstk (lv_room (by rw [px_sok.cat hrest]; exact h8')) hd hcap)
end PXZ
end
section
/-! what the pure machine's run says of the real one -/
def px_il : Jvm.ClassFile.Instr → Nat
  | .bipush _ => 2
  | .ldc _ => 2
  | .iload _ => 2
  | .aload _ => 2
  | .istore _ => 2
  | .astore _ => 2
  | .newarray _ => 2
  | .sipush _ => 3
  | .ldc_w _ => 3
  | .iinc .. => 3
  | .goto _ => 3
  | .ifCond .. => 3
  | .if_icmp .. => 3
  | .ifnull _ => 3
  | .ifnonnull _ => 3
  | .getfield _ => 3
  | .putfield _ => 3
  | .new _ => 3
  | .anewarray _ => 3
  | .invokestatic _ => 3
  | .invokespecial _ => 3
  | .invokevirtual _ => 3
  | _ => 1
def px_ln (pc : Nat) (i : Jvm.ClassFile.Instr) (len : Nat) : Bool := match i with
  | .tableswitch .. => true
  | .lookupswitch .. => true
  | .ifCond c off => (len == 3) && decide (0 ≤ (pc : Int) + off)
  | .if_icmp c off => (len == 3) && decide (0 ≤ (pc : Int) + off)
  | i => len == px_il i
/-- what the tables must say for an instruction of a method -/
def px_lk (T : List px_M) (m : px_M) (i : Jvm.ClassFile.Instr) (X : px_X) : Prop := match i with
  | .ldc idx => Cond.constant (px_my m).cls idx X.2.2.2.1 ∈ px_W
  | .ldc_w idx => Cond.constant (px_my m).cls idx X.2.2.2.1 ∈ px_W
  | .getfield idx => px_lkF (px_my m).cls idx X
  | .putfield idx => px_lkF (px_my m).cls idx X ∧ px_lkP m X
  | .new idx => ∃ r : vw_C, vwCl[X.2.1]? = some r ∧ Cond.classLink (px_my m).cls idx r.1 ∈ px_W
  | .newarray t => ∀ ty, px_nat t = some ty → Cond.arrayClass ty ∈ px_W
  | .anewarray idx => Cond.classLink (px_my m).cls idx X.2.2.2.2 ∈ px_W ∧ Cond.arrayOver (.object X.2.2.2.2) ∈ px_Z
  | .invokestatic idx => if X.1 = 37 then px_lkC (px_my m).cls idx else ∀ ci M m', (ci, M) ∈ X.2.2.1 → T[M]? = some m' → px_lkS (px_my m).cls idx X.2.1 m'
  | .invokespecial idx => if X.1 = 36 then px_lkO (px_my m).cls idx else ∀ ci M m', (ci, M) ∈ X.2.2.1 → T[M]? = some m' → (if X.1 = 35 then px_lkX (px_my m).cls idx X.2.1 m' else px_lkI (px_my m).cls idx X.2.1 m' ∨ px_lkN (px_my m).cls idx X.2.1 m')
  | .invokevirtual idx => ∀ ci M m', (ci, M) ∈ X.2.2.1 → T[M]? = some m' → px_lkV (px_my m).cls idx X.2.1 ci m' ∨ px_lkU (px_my m).cls idx X.2.1 ci m' X.2.2.2.2
  | _ => True
def px_TOK (T : List px_M) : Prop := ∀ (M : Nat) (m : px_M), T[M]? = some m → px_mok m ∧ ∀ (pc : Nat) (q : px_I), (px_mi m).lookup pc = some q → decode (px_mb m) pc = .ok (q.1, q.2.1) ∧ px_ln pc q.1 q.2.1 = true ∧ px_lk T m q.1 q.2.2
def px_goal (T : List px_M) (d : Nat) (m : px_M) (pc : Nat) (L : px_L) (st : List Value) (w : px_H) (k : Nat) (Q : Option Value → px_H → Prop) (A : px_A) : Prop := match A with
  | .inl S => px_SW d m S.1 S.2.1 S.2.2.1 S.2.2.2.1 S.2.2.2.2 Q → px_SW d m pc L st w k Q
  | .inr (.inl r) => Q r.1 r.2 → px_SW d m pc L st w k Q
  | .inr (.inr c) => ∀ (d' : Nat) (m' : px_M), d = d' + 1 → T[c.1]? = some m' → c.2.2.2.2.2.2 + px_mc m' ≤ px_mc m → px_SC d' m' c.2.1 c.2.2.2.2.2.1 (fun r w' => px_SW d m c.2.2.1 c.2.2.2.1 (r.toList ++ c.2.2.2.2.1) w' (c.2.2.2.2.2.2 + px_mc m') Q) → px_SW d m pc L st w k Q
theorem px_jmp_inv {pc t : Nat} {off : Int} (h : px_jmp pc off = some t) : (pc : Int) + off = (t : Int) := by
  unfold px_jmp at h
  split at h
  · rename_i h0
    cases h
    exact (Int.toNat_of_nonneg h0).symm
  · cases h
theorem px_len_eq {i : Jvm.ClassFile.Instr} {len : Nat} (h : (len == px_il i) = true) : len = px_il i := by simpa using h
section PXS
variable {T : List px_M} {m : px_M} {len : Nat} {X : px_X} {pc : Nat} {L : px_L} {st : List Value} {w : px_H} {k d : Nat} {Q : Option Value → px_H → Prop} {A : px_A}
theorem px_t_null   (hd : decode (px_mb m) pc = .ok (.aconst_null, 1)) (h : px_act m (.aconst_null) X pc L st w k = some A) : px_goal T d m pc L st w k Q A := by
  cases h
  exact fun g => px_q_null hd g
theorem px_t_iconst {n : Int}  (hd : decode (px_mb m) pc = .ok (.iconst n, 1)) (h : px_act m (.iconst n) X pc L st w k = some A) : px_goal T d m pc L st w k Q A := by
  cases h
  exact fun g => px_q_iconst hd g
theorem px_t_bipush {n : Int}  (hd : decode (px_mb m) pc = .ok (.bipush n, 2)) (h : px_act m (.bipush n) X pc L st w k = some A) : px_goal T d m pc L st w k Q A := by
  cases h
  exact fun g => px_q_bipush hd g
theorem px_t_sipush {n : Int}  (hd : decode (px_mb m) pc = .ok (.sipush n, 3)) (h : px_act m (.sipush n) X pc L st w k = some A) : px_goal T d m pc L st w k Q A := by
  cases h
  exact fun g => px_q_sipush hd g
theorem px_t_ldc {n : Nat} (lk : px_lk T m (.ldc n) X) (hd : decode (px_mb m) pc = .ok (.ldc n, 2)) (h : px_act m (.ldc n) X pc L st w k = some A) : px_goal T d m pc L st w k Q A := by
  cases h
  exact fun g => px_q_ldc hd lk g
theorem px_t_ldc_w {n : Nat} (lk : px_lk T m (.ldc_w n) X) (hd : decode (px_mb m) pc = .ok (.ldc_w n, 3)) (h : px_act m (.ldc_w n) X pc L st w k = some A) : px_goal T d m pc L st w k Q A := by
  cases h
  exact fun g => px_q_ldc_w hd lk g
theorem px_t_iload {j : Nat}  (hd : decode (px_mb m) pc = .ok (.iload j, 2)) (h : px_act m (.iload j) X pc L st w k = some A) : px_goal T d m pc L st w k Q A := by
  simp only [px_act] at h
  split at h
  · rename_i x hx
    cases h
    exact fun g => px_q_iload hd hx g
  · cases h
theorem px_t_iload_n {j : Fin 4}  (hd : decode (px_mb m) pc = .ok (.iload_n j, 1)) (h : px_act m (.iload_n j) X pc L st w k = some A) : px_goal T d m pc L st w k Q A := by
  simp only [px_act] at h
  split at h
  · rename_i x hx
    cases h
    exact fun g => px_q_iload_n hd hx g
  · cases h
theorem px_t_aload {j : Nat}  (hd : decode (px_mb m) pc = .ok (.aload j, 2)) (h : px_act m (.aload j) X pc L st w k = some A) : px_goal T d m pc L st w k Q A := by
  simp only [px_act] at h
  split at h
  · rename_i v hx
    split at h
    · rename_i hv
      cases h
      exact fun g => px_q_aload hd hx hv g
    · cases h
  · cases h
theorem px_t_aload_n {j : Fin 4}  (hd : decode (px_mb m) pc = .ok (.aload_n j, 1)) (h : px_act m (.aload_n j) X pc L st w k = some A) : px_goal T d m pc L st w k Q A := by
  simp only [px_act] at h
  split at h
  · rename_i v hx
    split at h
    · rename_i hv
      cases h
      exact fun g => px_q_aload_n hd hx hv g
    · cases h
  · cases h
theorem px_t_istore {j : Nat}  (hd : decode (px_mb m) pc = .ok (.istore j, 2)) (h : px_act m (.istore j) X pc L st w k = some A) : px_goal T d m pc L st w k Q A := by
  simp only [px_act] at h
  split at h
  · rename_i x st'
    split at h
    · rename_i hj
      cases h
      exact fun g => px_q_istore hd hj g
    · cases h
  · cases h
theorem px_t_istore_n {j : Fin 4}  (hd : decode (px_mb m) pc = .ok (.istore_n j, 1)) (h : px_act m (.istore_n j) X pc L st w k = some A) : px_goal T d m pc L st w k Q A := by
  simp only [px_act] at h
  split at h
  · rename_i x st'
    split at h
    · rename_i hj
      cases h
      exact fun g => px_q_istore_n hd hj g
    · cases h
  · cases h
theorem px_t_astore {j : Nat}  (hd : decode (px_mb m) pc = .ok (.astore j, 2)) (h : px_act m (.astore j) X pc L st w k = some A) : px_goal T d m pc L st w k Q A := by
  simp only [px_act] at h
  split at h
  · rename_i v st'
    split at h
    · rename_i hj
      cases h
      exact fun g => px_q_astore hd hj.2 hj.1 g
    · cases h
  · cases h
theorem px_t_astore_n {j : Fin 4}  (hd : decode (px_mb m) pc = .ok (.astore_n j, 1)) (h : px_act m (.astore_n j) X pc L st w k = some A) : px_goal T d m pc L st w k Q A := by
  simp only [px_act] at h
  split at h
  · rename_i v st'
    split at h
    · rename_i hj
      cases h
      exact fun g => px_q_astore_n hd hj.2 hj.1 g
    · cases h
  · cases h
theorem px_t_iinc {j : Nat} {n : Int}  (hd : decode (px_mb m) pc = .ok (.iinc j n, 3)) (h : px_act m (.iinc j n) X pc L st w k = some A) : px_goal T d m pc L st w k Q A := by
  simp only [px_act] at h
  split at h
  · rename_i x hx
    cases h
    exact fun g => px_q_iinc hd hx g
  · cases h
theorem px_t_iadd   (hd : decode (px_mb m) pc = .ok (.iadd, 1)) (h : px_act m (.iadd) X pc L st w k = some A) : px_goal T d m pc L st w k Q A := by
  simp only [px_act] at h
  split at h
  · cases h
    exact fun g => px_q_iadd hd g
  · cases h
theorem px_t_isub   (hd : decode (px_mb m) pc = .ok (.isub, 1)) (h : px_act m (.isub) X pc L st w k = some A) : px_goal T d m pc L st w k Q A := by
  simp only [px_act] at h
  split at h
  · cases h
    exact fun g => px_q_isub hd g
  · cases h
theorem px_t_imul   (hd : decode (px_mb m) pc = .ok (.imul, 1)) (h : px_act m (.imul) X pc L st w k = some A) : px_goal T d m pc L st w k Q A := by
  simp only [px_act] at h
  split at h
  · cases h
    exact fun g => px_q_imul hd g
  · cases h
theorem px_t_iand   (hd : decode (px_mb m) pc = .ok (.iand, 1)) (h : px_act m (.iand) X pc L st w k = some A) : px_goal T d m pc L st w k Q A := by
  simp only [px_act] at h
  split at h
  · cases h
    exact fun g => px_q_iand hd g
  · cases h
theorem px_t_ior   (hd : decode (px_mb m) pc = .ok (.ior, 1)) (h : px_act m (.ior) X pc L st w k = some A) : px_goal T d m pc L st w k Q A := by
  simp only [px_act] at h
  split at h
  · cases h
    exact fun g => px_q_ior hd g
  · cases h
theorem px_t_ixor   (hd : decode (px_mb m) pc = .ok (.ixor, 1)) (h : px_act m (.ixor) X pc L st w k = some A) : px_goal T d m pc L st w k Q A := by
  simp only [px_act] at h
  split at h
  · cases h
    exact fun g => px_q_ixor hd g
  · cases h
theorem px_t_ishl   (hd : decode (px_mb m) pc = .ok (.ishl, 1)) (h : px_act m (.ishl) X pc L st w k = some A) : px_goal T d m pc L st w k Q A := by
  simp only [px_act] at h
  split at h
  · cases h
    exact fun g => px_q_ishl hd g
  · cases h
theorem px_t_ishr   (hd : decode (px_mb m) pc = .ok (.ishr, 1)) (h : px_act m (.ishr) X pc L st w k = some A) : px_goal T d m pc L st w k Q A := by
  simp only [px_act] at h
  split at h
  · cases h
    exact fun g => px_q_ishr hd g
  · cases h
theorem px_t_iushr   (hd : decode (px_mb m) pc = .ok (.iushr, 1)) (h : px_act m (.iushr) X pc L st w k = some A) : px_goal T d m pc L st w k Q A := by
  simp only [px_act] at h
  split at h
  · cases h
    exact fun g => px_q_iushr hd g
  · cases h
theorem px_t_idiv   (hd : decode (px_mb m) pc = .ok (.idiv, 1)) (h : px_act m (.idiv) X pc L st w k = some A) : px_goal T d m pc L st w k Q A := by
  simp only [px_act] at h
  split at h
  · split at h
    · cases h
    · rename_i hy
      cases h
      exact fun g => px_q_idiv hd hy g
  · cases h
theorem px_t_irem   (hd : decode (px_mb m) pc = .ok (.irem, 1)) (h : px_act m (.irem) X pc L st w k = some A) : px_goal T d m pc L st w k Q A := by
  simp only [px_act] at h
  split at h
  · split at h
    · cases h
    · rename_i hy
      cases h
      exact fun g => px_q_irem hd hy g
  · cases h
theorem px_t_ineg   (hd : decode (px_mb m) pc = .ok (.ineg, 1)) (h : px_act m (.ineg) X pc L st w k = some A) : px_goal T d m pc L st w k Q A := by
  simp only [px_act] at h
  split at h
  · cases h
    exact fun g => px_q_ineg hd g
  · cases h
theorem px_t_i2b   (hd : decode (px_mb m) pc = .ok (.i2b, 1)) (h : px_act m (.i2b) X pc L st w k = some A) : px_goal T d m pc L st w k Q A := by
  simp only [px_act] at h
  split at h
  · cases h
    exact fun g => px_q_i2b hd g
  · cases h
theorem px_t_i2s   (hd : decode (px_mb m) pc = .ok (.i2s, 1)) (h : px_act m (.i2s) X pc L st w k = some A) : px_goal T d m pc L st w k Q A := by
  simp only [px_act] at h
  split at h
  · cases h
    exact fun g => px_q_i2s hd g
  · cases h
theorem px_t_dup   (hd : decode (px_mb m) pc = .ok (.dup, 1)) (h : px_act m (.dup) X pc L st w k = some A) : px_goal T d m pc L st w k Q A := by
  simp only [px_act] at h
  split at h
  · cases h
    exact fun g => px_q_dup hd g
  · cases h
theorem px_t_pop   (hd : decode (px_mb m) pc = .ok (.pop, 1)) (h : px_act m (.pop) X pc L st w k = some A) : px_goal T d m pc L st w k Q A := by
  simp only [px_act] at h
  split at h
  · cases h
    exact fun g => px_q_pop hd g
  · cases h
theorem px_t_goto {off : Int}  (hd : decode (px_mb m) pc = .ok (.goto off, 3)) (h : px_act m (.goto off) X pc L st w k = some A) : px_goal T d m pc L st w k Q A := by
  simp only [px_act] at h
  obtain ⟨t, ht, hA⟩ := Option.map_eq_some_iff.mp h
  cases hA
  exact fun g => px_q_goto hd (px_jmp_inv ht) g
theorem px_t_if {c : Jvm.ClassFile.Cond} {off : Int} (ho : 0 ≤ (pc : Int) + off) (hd : decode (px_mb m) pc = .ok (.ifCond c off, 3)) (h : px_act m (.ifCond c off) X pc L st w k = some A) : px_goal T d m pc L st w k Q A := by
  simp only [px_act] at h
  split at h
  · obtain ⟨t, ht, hA⟩ := Option.map_eq_some_iff.mp h
    cases hA
    intro g
    split at ht
    · rename_i hc
      have hj := px_jmp_inv ht
      cases c with
      | eq => exact px_q_if_eq hd hj (fun _ => g) (fun z => absurd (of_decide_eq_true hc) z)
      | ne => exact px_q_if_ne hd hj (fun _ => g) (fun z => absurd (of_decide_eq_true hc) (fun q => q z))
      | lt => exact px_q_if_lt hd hj (fun _ => g) (fun z => absurd (of_decide_eq_true hc) z)
      | ge => exact px_q_if_ge hd hj (fun _ => g) (fun z => absurd (of_decide_eq_true hc) z)
      | gt => exact px_q_if_gt hd hj (fun _ => g) (fun z => absurd (of_decide_eq_true hc) z)
      | le => exact px_q_if_le hd hj (fun _ => g) (fun z => absurd (of_decide_eq_true hc) z)
    · rename_i hc
      cases ht
      obtain ⟨t, hj⟩ := Int.eq_ofNat_of_zero_le ho
      cases c with
      | eq => exact px_q_if_eq hd hj (fun z => absurd (decide_eq_true z) hc) (fun _ => g)
      | ne => exact px_q_if_ne hd hj (fun z => absurd (decide_eq_true z) hc) (fun _ => g)
      | lt => exact px_q_if_lt hd hj (fun z => absurd (decide_eq_true z) hc) (fun _ => g)
      | ge => exact px_q_if_ge hd hj (fun z => absurd (decide_eq_true z) hc) (fun _ => g)
      | gt => exact px_q_if_gt hd hj (fun z => absurd (decide_eq_true z) hc) (fun _ => g)
      | le => exact px_q_if_le hd hj (fun z => absurd (decide_eq_true z) hc) (fun _ => g)
  · cases h
theorem px_t_icmp {c : Jvm.ClassFile.Cond} {off : Int} (ho : 0 ≤ (pc : Int) + off) (hd : decode (px_mb m) pc = .ok (.if_icmp c off, 3)) (h : px_act m (.if_icmp c off) X pc L st w k = some A) : px_goal T d m pc L st w k Q A := by
  simp only [px_act] at h
  split at h
  · obtain ⟨t, ht, hA⟩ := Option.map_eq_some_iff.mp h
    cases hA
    intro g
    split at ht
    · rename_i hc
      have hj := px_jmp_inv ht
      cases c with
      | eq => exact px_q_icmp_eq hd hj (fun _ => g) (fun z => absurd (of_decide_eq_true hc) z)
      | ne => exact px_q_icmp_ne hd hj (fun _ => g) (fun z => absurd (of_decide_eq_true hc) (fun q => q z))
      | lt => exact px_q_icmp_lt hd hj (fun _ => g) (fun z => absurd (of_decide_eq_true hc) z)
      | ge => exact px_q_icmp_ge hd hj (fun _ => g) (fun z => absurd (of_decide_eq_true hc) z)
      | gt => exact px_q_icmp_gt hd hj (fun _ => g) (fun z => absurd (of_decide_eq_true hc) z)
      | le => exact px_q_icmp_le hd hj (fun _ => g) (fun z => absurd (of_decide_eq_true hc) z)
    · rename_i hc
      cases ht
      obtain ⟨t, hj⟩ := Int.eq_ofNat_of_zero_le ho
      cases c with
      | eq => exact px_q_icmp_eq hd hj (fun z => absurd (decide_eq_true z) hc) (fun _ => g)
      | ne => exact px_q_icmp_ne hd hj (fun z => absurd (decide_eq_true z) hc) (fun _ => g)
      | lt => exact px_q_icmp_lt hd hj (fun z => absurd (decide_eq_true z) hc) (fun _ => g)
      | ge => exact px_q_icmp_ge hd hj (fun z => absurd (decide_eq_true z) hc) (fun _ => g)
      | gt => exact px_q_icmp_gt hd hj (fun z => absurd (decide_eq_true z) hc) (fun _ => g)
      | le => exact px_q_icmp_le hd hj (fun z => absurd (decide_eq_true z) hc) (fun _ => g)
  · cases h
theorem px_t_ifnull {off : Int}  (hd : decode (px_mb m) pc = .ok (.ifnull off, 3)) (h : px_act m (.ifnull off) X pc L st w k = some A) : px_goal T d m pc L st w k Q A := by
  simp only [px_act] at h
  split at h
  · obtain ⟨t, ht, hA⟩ := Option.map_eq_some_iff.mp h
    cases hA
    exact fun g => px_q_ifnullN hd (px_jmp_inv ht) g
  · cases h
    exact fun g => px_q_ifnull hd g
  · cases h
theorem px_t_ifnonnull {off : Int}  (hd : decode (px_mb m) pc = .ok (.ifnonnull off, 3)) (h : px_act m (.ifnonnull off) X pc L st w k = some A) : px_goal T d m pc L st w k Q A := by
  simp only [px_act] at h
  split at h
  · obtain ⟨t, ht, hA⟩ := Option.map_eq_some_iff.mp h
    cases hA
    exact fun g => px_q_ifnonnull hd (px_jmp_inv ht) g
  · cases h
    exact fun g => px_q_ifnonnullN hd g
  · cases h
theorem px_t_tsw {a lo hi : Int} {offs : Array Int}  (hd : decode (px_mb m) pc = .ok (.tableswitch a lo hi offs, len)) (h : px_act m (.tableswitch a lo hi offs) X pc L st w k = some A) : px_goal T d m pc L st w k Q A := by
  simp only [px_act] at h
  split at h
  · obtain ⟨t, ht, hA⟩ := Option.map_eq_some_iff.mp h
    cases hA
    intro g
    unfold px_tsw at ht
    split at ht
    · rename_i hx
      exact px_q_tswO hd hx (px_jmp_inv ht) g
    · rename_i hx
      split at ht
      · rename_i off ho
        exact px_q_tswI hd (fun q => hx (Or.inl q)) (fun q => hx (Or.inr q)) ho (px_jmp_inv ht) g
      · cases ht
  · cases h
theorem px_t_lsw {a : Int} {ps : Array (Int × Int)}  (hd : decode (px_mb m) pc = .ok (.lookupswitch a ps, len)) (h : px_act m (.lookupswitch a ps) X pc L st w k = some A) : px_goal T d m pc L st w k Q A := by
  simp only [px_act] at h
  split at h
  · obtain ⟨t, ht, hA⟩ := Option.map_eq_some_iff.mp h
    cases hA
    intro g
    unfold px_lsw at ht
    split at ht
    · rename_i hp
      exact px_q_lsw hd hp (px_jmp_inv ht) g
    · cases ht
  · cases h
theorem px_t_get {idx : Nat} (cf : px_CF) (lk : px_lk T m (.getfield idx) X) (hd : decode (px_mb m) pc = .ok (.getfield idx, 3)) (h : px_act m (.getfield idx) X pc L st w k = some A) : px_goal T d m pc L st w k Q A := by
  simp only [px_act] at h
  split at h
  · obtain ⟨v, hv, hA⟩ := Option.map_eq_some_iff.mp h
    cases hA
    exact fun g => px_q_get cf hd lk hv g
  · cases h
theorem px_t_put {idx : Nat} (cf : px_CF) (lk : px_lk T m (.putfield idx) X) (hd : decode (px_mb m) pc = .ok (.putfield idx, 3)) (h : px_act m (.putfield idx) X pc L st w k = some A) : px_goal T d m pc L st w k Q A := by
  simp only [px_act] at h
  split at h
  · obtain ⟨v, hv, hA⟩ := Option.map_eq_some_iff.mp h
    cases hA
    split at hv
    · rename_i hf
      exact fun g => px_q_put cf hd lk.1 lk.2 hf hv g
    · cases hv
  · cases h
theorem px_t_iald   (hd : decode (px_mb m) pc = .ok (.iaload, 1)) (h : px_act m (.iaload) X pc L st w k = some A) : px_goal T d m pc L st w k Q A := by
  simp only [px_act] at h
  split at h
  · obtain ⟨v, hv, hA⟩ := Option.map_eq_some_iff.mp h
    cases hA
    exact fun g => px_q_iald hd hv g
  · cases h
theorem px_t_iast   (hd : decode (px_mb m) pc = .ok (.iastore, 1)) (h : px_act m (.iastore) X pc L st w k = some A) : px_goal T d m pc L st w k Q A := by
  simp only [px_act] at h
  split at h
  · obtain ⟨v, hv, hA⟩ := Option.map_eq_some_iff.mp h
    cases hA
    exact fun g => px_q_iast hd hv g
  · cases h
theorem px_t_bald   (hd : decode (px_mb m) pc = .ok (.baload, 1)) (h : px_act m (.baload) X pc L st w k = some A) : px_goal T d m pc L st w k Q A := by
  simp only [px_act] at h
  split at h
  · obtain ⟨v, hv, hA⟩ := Option.map_eq_some_iff.mp h
    cases hA
    exact fun g => px_q_bald hd hv g
  · cases h
theorem px_t_bast   (hd : decode (px_mb m) pc = .ok (.bastore, 1)) (h : px_act m (.bastore) X pc L st w k = some A) : px_goal T d m pc L st w k Q A := by
  simp only [px_act] at h
  split at h
  · obtain ⟨v, hv, hA⟩ := Option.map_eq_some_iff.mp h
    cases hA
    exact fun g => px_q_bast hd hv g
  · cases h
theorem px_t_aald   (hd : decode (px_mb m) pc = .ok (.aaload, 1)) (h : px_act m (.aaload) X pc L st w k = some A) : px_goal T d m pc L st w k Q A := by
  simp only [px_act] at h
  split at h
  · obtain ⟨v, hv, hA⟩ := Option.map_eq_some_iff.mp h
    cases hA
    exact fun g => px_q_aald hd hv g
  · cases h
theorem px_t_aast   (hd : decode (px_mb m) pc = .ok (.aastore, 1)) (h : px_act m (.aastore) X pc L st w k = some A) : px_goal T d m pc L st w k Q A := by
  simp only [px_act] at h
  split at h
  · obtain ⟨v, hv, hA⟩ := Option.map_eq_some_iff.mp h
    cases hA
    exact fun g => px_q_aast hd hv g
  · cases h
theorem px_t_alen   (hd : decode (px_mb m) pc = .ok (.arraylength, 1)) (h : px_act m (.arraylength) X pc L st w k = some A) : px_goal T d m pc L st w k Q A := by
  simp only [px_act] at h
  split at h
  · obtain ⟨v, hv, hA⟩ := Option.map_eq_some_iff.mp h
    cases hA
    exact fun g => px_q_alen hd hv g
  · cases h
theorem px_t_new {idx : Nat} (cf : px_CF) (lk : px_lk T m (.new idx) X) (hd : decode (px_mb m) pc = .ok (.new idx, 3)) (h : px_act m (.new idx) X pc L st w k = some A) : px_goal T d m pc L st w k Q A := by
  simp only [px_act] at h
  obtain ⟨c, hc, hA⟩ := Option.map_eq_some_iff.mp h
  cases hA
  split at hc
  · rename_i hk
    obtain ⟨r, hr, hl⟩ := lk
    unfold px_new at hc
    rw [hr] at hc
    cases hc
    exact fun g => px_q_new cf hd hr hl hk g
  · cases hc
theorem px_t_newarr {t : Jvm.ClassFile.ArrayType} (lk : px_lk T m (.newarray t) X) (hd : decode (px_mb m) pc = .ok (.newarray t, 2)) (h : px_act m (.newarray t) X pc L st w k = some A) : px_goal T d m pc L st w k Q A := by
  simp only [px_act] at h
  split at h
  · obtain ⟨ty, hc, hA⟩ := Option.map_eq_some_iff.mp h
    cases hA
    split at hc
    · rename_i hk
      exact fun g => px_q_newarr hd hc (lk ty hc) hk.1 hk.2.1 hk.2.2 g
    · cases hc
  · cases h
theorem px_t_anew {idx : Nat} (lk : px_lk T m (.anewarray idx) X) (hd : decode (px_mb m) pc = .ok (.anewarray idx, 3)) (h : px_act m (.anewarray idx) X pc L st w k = some A) : px_goal T d m pc L st w k Q A := by
  simp only [px_act] at h
  split at h
  · split at h
    · rename_i hk
      cases h
      exact fun g => px_q_anew hd lk.1 lk.2 hk.1 hk.2.1 hk.2.2 g
    · cases h
  · cases h
theorem px_t_iret   (hd : decode (px_mb m) pc = .ok (.ireturn, 1)) (h : px_act m (.ireturn) X pc L st w k = some A) : px_goal T d m pc L st w k Q A := by
  simp only [px_act] at h
  split at h
  · split at h
    · rename_i hr
      cases h
      exact fun g => px_q_iret hd (Or.inl hr) g
    · rename_i hr
      split at h
      · rename_i hx
        cases h
        exact fun g => px_q_iret hd (Or.inr ⟨hr, hx⟩) g
      · cases h
    · cases h
  · cases h
theorem px_t_aret   (hd : decode (px_mb m) pc = .ok (.areturn, 1)) (h : px_act m (.areturn) X pc L st w k = some A) : px_goal T d m pc L st w k Q A := by
  simp only [px_act] at h
  split at h
  · split at h
    · rename_i hr
      split at h
      · rename_i hx
        cases h
        exact fun g => px_q_aret hd hr hx g
      · cases h
    · cases h
  · cases h
theorem px_t_vret   (hd : decode (px_mb m) pc = .ok (.return_, 1)) (h : px_act m (.return_) X pc L st w k = some A) : px_goal T d m pc L st w k Q A := by
  simp only [px_act] at h
  split at h
  · split at h
    · rename_i hr
      cases h
      exact fun g => px_q_vret hd hr g
    · cases h
  · cases h
theorem px_t_static {idx : Nat} (ok : ∀ (M : Nat) (m : px_M), T[M]? = some m → px_mok m) (lk : px_lk T m (.invokestatic idx) X) (hd : decode (px_mb m) pc = .ok (.invokestatic idx, 3)) (h : px_act m (.invokestatic idx) X pc L st w k = some A) : px_goal T d m pc L st w k Q A := by
  simp only [px_act] at h
  unfold px_lk at lk
  dsimp only at lk
  by_cases h37 : X.1 = 37
  · rw [if_pos h37] at h lk
    split at h
    · split at h
      · rename_i h8
        obtain ⟨v, hv, hA⟩ := Option.map_eq_some_iff.mp h
        cases hA
        exact fun g => px_q_copy hd lk h8 hv g
      · cases h
    · cases h
  · rw [if_neg h37] at h lk
    split at h
    · rename_i vs st' ci M hiv hc
      cases h
      intro d' m' hd' hm' hk SC
      subst hd'
      exact px_q_static hd (ok _ _ hm') (lk ci M m' (by rw [hc]; exact List.mem_cons_self) hm') hiv hk SC
    · cases h
theorem px_t_special {idx : Nat} (ok : ∀ (M : Nat) (m : px_M), T[M]? = some m → px_mok m) (lk : px_lk T m (.invokespecial idx) X) (hd : decode (px_mb m) pc = .ok (.invokespecial idx, 3)) (h : px_act m (.invokespecial idx) X pc L st w k = some A) : px_goal T d m pc L st w k Q A := by
  simp only [px_act] at h
  unfold px_lk at lk
  dsimp only at lk
  by_cases h36 : X.1 = 36
  · rw [if_pos h36] at h lk
    split at h
    · split at h
      · rename_i h8
        cases h
        exact fun g => px_q_obj hd lk h8 g
      · cases h
    · cases h
  · rw [if_neg h36] at h lk
    split at h
    · rename_i vs b st' ci M hiv hc
      obtain ⟨v, hv, hA⟩ := Option.map_eq_some_iff.mp h
      cases hA
      intro d' m' hd' hm' hk SC
      subst hd'
      have lk := lk ci M m' (by rw [hc]; exact List.mem_cons_self) hm'
      by_cases h35 : X.1 = 35
      · rw [if_pos h35] at lk hv
        exact px_q_super hd (ok _ _ hm') lk hiv hv hk SC
      · rw [if_neg h35] at lk
        exact px_q_init hd (ok _ _ hm') lk hiv hk SC
    · cases h
theorem px_t_virt {idx : Nat} (ok : ∀ (M : Nat) (m : px_M), T[M]? = some m → px_mok m) (lk : px_lk T m (.invokevirtual idx) X) (hd : decode (px_mb m) pc = .ok (.invokevirtual idx, 3)) (h : px_act m (.invokevirtual idx) X pc L st w k = some A) : px_goal T d m pc L st w k Q A := by
  simp only [px_act] at h
  split at h
  · rename_i vs b st' hiv
    obtain ⟨M, hM, hA⟩ := Option.map_eq_some_iff.mp h
    cases hA
    obtain ⟨ci, hci, hlo⟩ := Option.bind_eq_some_iff.mp hM
    intro d' m' hd' hm' hk SC
    subst hd'
    exact px_q_virt hd (ok _ _ hm') (lk ci M m' (px_lookup hlo) hm') hiv hci hk SC
  · cases h
theorem px_step (cf : px_CF) (ok : ∀ (M : Nat) (m : px_M), T[M]? = some m → px_mok m) {i : Jvm.ClassFile.Instr} (hd : decode (px_mb m) pc = .ok (i, len)) (hl : px_ln pc i len = true) (lk : px_lk T m i X) (h : px_act m i X pc L st w k = some A) : px_goal T d m pc L st w k Q A := by
  cases i with
  | tableswitch a lo hi offs => exact px_t_tsw hd h
  | lookupswitch a ps => exact px_t_lsw hd h
  | ifCond c off =>
    simp only [px_ln, Bool.and_eq_true, beq_iff_eq, decide_eq_true_eq] at hl
    obtain ⟨rfl, ho⟩ := hl
    exact px_t_if ho hd h
  | if_icmp c off =>
    simp only [px_ln, Bool.and_eq_true, beq_iff_eq, decide_eq_true_eq] at hl
    obtain ⟨rfl, ho⟩ := hl
    exact px_t_icmp ho hd h
  | aconst_null =>
    obtain rfl := px_len_eq hl
    exact px_t_null  hd h
  | iconst n =>
    obtain rfl := px_len_eq hl
    exact px_t_iconst  hd h
  | bipush n =>
    obtain rfl := px_len_eq hl
    exact px_t_bipush  hd h
  | sipush n =>
    obtain rfl := px_len_eq hl
    exact px_t_sipush  hd h
  | ldc n =>
    obtain rfl := px_len_eq hl
    exact px_t_ldc lk hd h
  | ldc_w n =>
    obtain rfl := px_len_eq hl
    exact px_t_ldc_w lk hd h
  | iload n =>
    obtain rfl := px_len_eq hl
    exact px_t_iload  hd h
  | iload_n n =>
    obtain rfl := px_len_eq hl
    exact px_t_iload_n  hd h
  | aload n =>
    obtain rfl := px_len_eq hl
    exact px_t_aload  hd h
  | aload_n n =>
    obtain rfl := px_len_eq hl
    exact px_t_aload_n  hd h
  | istore n =>
    obtain rfl := px_len_eq hl
    exact px_t_istore  hd h
  | istore_n n =>
    obtain rfl := px_len_eq hl
    exact px_t_istore_n  hd h
  | astore n =>
    obtain rfl := px_len_eq hl
    exact px_t_astore  hd h
  | astore_n n =>
    obtain rfl := px_len_eq hl
    exact px_t_astore_n  hd h
  | iinc j n =>
    obtain rfl := px_len_eq hl
    exact px_t_iinc  hd h
  | iadd =>
    obtain rfl := px_len_eq hl
    exact px_t_iadd  hd h
  | isub =>
    obtain rfl := px_len_eq hl
    exact px_t_isub  hd h
  | imul =>
    obtain rfl := px_len_eq hl
    exact px_t_imul  hd h
  | iand =>
    obtain rfl := px_len_eq hl
    exact px_t_iand  hd h
  | ior =>
    obtain rfl := px_len_eq hl
    exact px_t_ior  hd h
  | ixor =>
    obtain rfl := px_len_eq hl
    exact px_t_ixor  hd h
  | ishl =>
    obtain rfl := px_len_eq hl
    exact px_t_ishl  hd h
  | ishr =>
    obtain rfl := px_len_eq hl
    exact px_t_ishr  hd h
  | iushr =>
    obtain rfl := px_len_eq hl
    exact px_t_iushr  hd h
  | idiv =>
    obtain rfl := px_len_eq hl
    exact px_t_idiv  hd h
  | irem =>
    obtain rfl := px_len_eq hl
    exact px_t_irem  hd h
  | ineg =>
    obtain rfl := px_len_eq hl
    exact px_t_ineg  hd h
  | i2b =>
    obtain rfl := px_len_eq hl
    exact px_t_i2b  hd h
  | i2s =>
    obtain rfl := px_len_eq hl
    exact px_t_i2s  hd h
  | dup =>
    obtain rfl := px_len_eq hl
    exact px_t_dup  hd h
  | pop =>
    obtain rfl := px_len_eq hl
    exact px_t_pop  hd h
  | goto off =>
    obtain rfl := px_len_eq hl
    exact px_t_goto  hd h
  | ifnull off =>
    obtain rfl := px_len_eq hl
    exact px_t_ifnull  hd h
  | ifnonnull off =>
    obtain rfl := px_len_eq hl
    exact px_t_ifnonnull  hd h
  | getfield n =>
    obtain rfl := px_len_eq hl
    exact px_t_get cf lk hd h
  | putfield n =>
    obtain rfl := px_len_eq hl
    exact px_t_put cf lk hd h
  | iaload =>
    obtain rfl := px_len_eq hl
    exact px_t_iald  hd h
  | iastore =>
    obtain rfl := px_len_eq hl
    exact px_t_iast  hd h
  | baload =>
    obtain rfl := px_len_eq hl
    exact px_t_bald  hd h
  | bastore =>
    obtain rfl := px_len_eq hl
    exact px_t_bast  hd h
  | aaload =>
    obtain rfl := px_len_eq hl
    exact px_t_aald  hd h
  | aastore =>
    obtain rfl := px_len_eq hl
    exact px_t_aast  hd h
  | arraylength =>
    obtain rfl := px_len_eq hl
    exact px_t_alen  hd h
  | new n =>
    obtain rfl := px_len_eq hl
    exact px_t_new cf lk hd h
  | newarray n =>
    obtain rfl := px_len_eq hl
    exact px_t_newarr lk hd h
  | anewarray n =>
    obtain rfl := px_len_eq hl
    exact px_t_anew lk hd h
  | ireturn =>
    obtain rfl := px_len_eq hl
    exact px_t_iret  hd h
  | areturn =>
    obtain rfl := px_len_eq hl
    exact px_t_aret  hd h
  | return_ =>
    obtain rfl := px_len_eq hl
    exact px_t_vret  hd h
  | invokestatic n =>
    obtain rfl := px_len_eq hl
    exact px_t_static ok lk hd h
  | invokespecial n =>
    obtain rfl := px_len_eq hl
    exact px_t_special ok lk hd h
  | invokevirtual n =>
    obtain rfl := px_len_eq hl
    exact px_t_virt ok lk hd h
  | _ => cases h
theorem px_sound (cf : px_CF) (ok : px_TOK T) : ∀ (n d M : Nat) (S : px_S) (r : Option Value × px_H) (m : px_M) (Q : Option Value → px_H → Prop), T[M]? = some m → px_ex T n d M S = some r → Q r.1 r.2 → px_SW d m S.1 S.2.1 S.2.2.1 S.2.2.2.1 S.2.2.2.2 Q := by
  intro n
  induction n with
  | zero => intro d M S r m Q hm h; simp [px_ex] at h
  | succ n ih =>
    intro d M S r m Q hm h hq
    rw [px_ex] at h
    simp only [hm] at h
    cases hi : (px_mi m).lookup S.1 with
    | none => simp only [hi] at h; cases h
    | some q =>
      simp only [hi] at h
      obtain ⟨hdec, hln, hlk⟩ := (ok M m hm).2 S.1 q hi
      cases ha : px_act m q.1 q.2.2 S.1 S.2.1 S.2.2.1 S.2.2.2.1 S.2.2.2.2 with
      | none => simp only [ha] at h; cases h
      | some A =>
        simp only [ha] at h
        have hst := px_step (T := T) (d := d) (Q := Q) cf (fun M m hm => (ok M m hm).1) hdec hln hlk ha
        rcases A with S' | r' | c
        · exact hst (ih _ _ _ _ _ _ hm h hq)
        · cases h
          exact hst hq
        · cases d with
          | zero => cases h
          | succ d' =>
            dsimp only at h
            cases hm' : T[c.1]? with
            | none => simp only [hm'] at h; cases h
            | some m' =>
              simp only [hm'] at h
              by_cases hc : c.2.1.length ≤ px_ml m' ∧ c.2.2.2.2.2.2 + px_mc m' ≤ px_mc m
              · rw [if_pos hc] at h
                cases hr : px_ex T n d' c.1 (0, px_en (px_ml m') c.2.1, [], c.2.2.2.2.2.1, 0) with
                | none => simp only [hr] at h; cases h
                | some r1 =>
                  simp only [hr] at h
                  refine hst d' m' rfl hm' hc.2 (px_met (ok _ _ hm').1 hc.1 ?_)
                  exact ih d' c.1 (0, px_en (px_ml m') c.2.1, [], c.2.2.2.2.2.1, 0) r1 m' _ hm' hr (ih _ _ _ _ _ _ hm h hq)
              · rw [if_neg hc] at h; cases h
/-- the contract of a method, out of its pure run -/
theorem px_contract (cf : px_CF) (ok : px_TOK T) {M : Nat} {vs : List Value} (h : px_wc T d M vs w Q) : ∃ m', T[M]? = some m' ∧ px_mok m' ∧ px_SC d m' vs w Q := by
  obtain ⟨m', hm', hl, n, r, w', hr, hq⟩ := h
  exact ⟨m', hm', (ok _ _ hm').1, px_met (ok _ _ hm').1 hl (px_sound cf ok n d M _ (r, w') m' Q hm' hr hq)⟩
end PXS
end
