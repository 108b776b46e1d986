section
-- ===== PART A: goes FIRST, ahead of the names: the tables' words, and 'selects' of the private methods out of them =====
/-- a private method of a class that the tables say can be made, by its rows of tables_1 -/
def lw_okq (q : MethodName × Nat) : Prop := (q.1.cls ≠ "java/lang/invoke/MethodHandle" ∧ q.1.cls ≠ "java/lang/invoke/VarHandle") ∧ Cond.instantiable q.1.cls q.2 ∈ tables_1 ∧ Cond.privateMethod q.1 ∈ tables_1 ∧ Cond.instanceMethod q.1 ∈ tables_1
theorem lw_p0 : lw_okq (⟨"AllSworn", "rowAt", "(I)LAllSworn$Row;"⟩, 9) := ⟨⟨by decide +kernel, by decide +kernel⟩, List.mem_of_getElem? (i := 19) (by decide +kernel), List.mem_of_getElem? (i := 196) (by decide +kernel), List.mem_of_getElem? (i := 197) (by decide +kernel)⟩
theorem lw_p1 : lw_okq (⟨"AllSworn", "found", "(I)I"⟩, 9) := ⟨⟨by decide +kernel, by decide +kernel⟩, List.mem_of_getElem? (i := 19) (by decide +kernel), List.mem_of_getElem? (i := 201) (by decide +kernel), List.mem_of_getElem? (i := 202) (by decide +kernel)⟩
theorem lw_p2 : lw_okq (⟨"AllSworn", "clean", "(I)I"⟩, 9) := ⟨⟨by decide +kernel, by decide +kernel⟩, List.mem_of_getElem? (i := 19) (by decide +kernel), List.mem_of_getElem? (i := 213) (by decide +kernel), List.mem_of_getElem? (i := 214) (by decide +kernel)⟩
theorem lw_p3 : lw_okq (⟨"AllSworn$Row", "narrowed", "(I)I"⟩, 3) := ⟨⟨by decide +kernel, by decide +kernel⟩, List.mem_of_getElem? (i := 146) (by decide +kernel), List.mem_of_getElem? (i := 234) (by decide +kernel), List.mem_of_getElem? (i := 235) (by decide +kernel)⟩
theorem lw_p4 : lw_okq (⟨"AllSworn$Reader", "expect", "(C)V"⟩, 5) := ⟨⟨by decide +kernel, by decide +kernel⟩, List.mem_of_getElem? (i := 29) (by decide +kernel), List.mem_of_getElem? (i := 274) (by decide +kernel), List.mem_of_getElem? (i := 275) (by decide +kernel)⟩
theorem lw_p5 : lw_okq (⟨"AllSworn$Reader", "next", "()I"⟩, 5) := ⟨⟨by decide +kernel, by decide +kernel⟩, List.mem_of_getElem? (i := 29) (by decide +kernel), List.mem_of_getElem? (i := 278) (by decide +kernel), List.mem_of_getElem? (i := 279) (by decide +kernel)⟩
theorem lw_p6 : lw_okq (⟨"AllSworn$Reader", "note", "(II)V"⟩, 5) := ⟨⟨by decide +kernel, by decide +kernel⟩, List.mem_of_getElem? (i := 29) (by decide +kernel), List.mem_of_getElem? (i := 282) (by decide +kernel), List.mem_of_getElem? (i := 283) (by decide +kernel)⟩
theorem lw_p7 : lw_okq (⟨"AllSworn$Reader", "readNumber", "(II)I"⟩, 5) := ⟨⟨by decide +kernel, by decide +kernel⟩, List.mem_of_getElem? (i := 29) (by decide +kernel), List.mem_of_getElem? (i := 286) (by decide +kernel), List.mem_of_getElem? (i := 287) (by decide +kernel)⟩
theorem lw_p8 : lw_okq (⟨"AllSworn$Reader", "readThing", "(LAllSworn$Realm;I)V"⟩, 5) := ⟨⟨by decide +kernel, by decide +kernel⟩, List.mem_of_getElem? (i := 29) (by decide +kernel), List.mem_of_getElem? (i := 297) (by decide +kernel), List.mem_of_getElem? (i := 298) (by decide +kernel)⟩
theorem lw_p9 : lw_okq (⟨"AllSworn$Reader", "readHarm", "(LAllSworn$Realm;)V"⟩, 5) := ⟨⟨by decide +kernel, by decide +kernel⟩, List.mem_of_getElem? (i := 29) (by decide +kernel), List.mem_of_getElem? (i := 379) (by decide +kernel), List.mem_of_getElem? (i := 380) (by decide +kernel)⟩
theorem lw_p10 : lw_okq (⟨"AllSworn$Realm", "keepAct", "(I)V"⟩, 10) := ⟨⟨by decide +kernel, by decide +kernel⟩, List.mem_of_getElem? (i := 55) (by decide +kernel), List.mem_of_getElem? (i := 424) (by decide +kernel), List.mem_of_getElem? (i := 425) (by decide +kernel)⟩
theorem lw_p11 : lw_okq (⟨"AllSworn$Realm", "swear", "(II)V"⟩, 10) := ⟨⟨by decide +kernel, by decide +kernel⟩, List.mem_of_getElem? (i := 55) (by decide +kernel), List.mem_of_getElem? (i := 444) (by decide +kernel), List.mem_of_getElem? (i := 445) (by decide +kernel)⟩
theorem lw_p12 : lw_okq (⟨"AllSworn", "isAhead", "(I)Z"⟩, 9) := ⟨⟨by decide +kernel, by decide +kernel⟩, List.mem_of_getElem? (i := 19) (by decide +kernel), List.mem_of_getElem? (i := 532) (by decide +kernel), List.mem_of_getElem? (i := 533) (by decide +kernel)⟩
theorem lw_p13 : lw_okq (⟨"AllSworn$Oracle", "goOn", "(III)V"⟩, 5) := ⟨⟨by decide +kernel, by decide +kernel⟩, List.mem_of_getElem? (i := 107) (by decide +kernel), List.mem_of_getElem? (i := 584) (by decide +kernel), List.mem_of_getElem? (i := 585) (by decide +kernel)⟩
theorem lw_p14 : lw_okq (⟨"AllSworn$Oracle", "keepWay", "(II)V"⟩, 5) := ⟨⟨by decide +kernel, by decide +kernel⟩, List.mem_of_getElem? (i := 107) (by decide +kernel), List.mem_of_getElem? (i := 588) (by decide +kernel), List.mem_of_getElem? (i := 589) (by decide +kernel)⟩
theorem lw_p15 : lw_okq (⟨"AllSworn", "imageAt", "(I)LAllSworn$Realm;"⟩, 9) := ⟨⟨by decide +kernel, by decide +kernel⟩, List.mem_of_getElem? (i := 19) (by decide +kernel), List.mem_of_getElem? (i := 698) (by decide +kernel), List.mem_of_getElem? (i := 699) (by decide +kernel)⟩
def lw_privs_1 : List (MethodName × Nat) := [(⟨"AllSworn", "rowAt", "(I)LAllSworn$Row;"⟩, 9), (⟨"AllSworn", "found", "(I)I"⟩, 9), (⟨"AllSworn", "clean", "(I)I"⟩, 9), (⟨"AllSworn$Row", "narrowed", "(I)I"⟩, 3), (⟨"AllSworn$Reader", "expect", "(C)V"⟩, 5), (⟨"AllSworn$Reader", "next", "()I"⟩, 5), (⟨"AllSworn$Reader", "note", "(II)V"⟩, 5), (⟨"AllSworn$Reader", "readNumber", "(II)I"⟩, 5), (⟨"AllSworn$Reader", "readThing", "(LAllSworn$Realm;I)V"⟩, 5), (⟨"AllSworn$Reader", "readHarm", "(LAllSworn$Realm;)V"⟩, 5), (⟨"AllSworn$Realm", "keepAct", "(I)V"⟩, 10), (⟨"AllSworn$Realm", "swear", "(II)V"⟩, 10), (⟨"AllSworn", "isAhead", "(I)Z"⟩, 9), (⟨"AllSworn$Oracle", "goOn", "(III)V"⟩, 5), (⟨"AllSworn$Oracle", "keepWay", "(II)V"⟩, 5), (⟨"AllSworn", "imageAt", "(I)LAllSworn$Realm;"⟩, 9)]
theorem lw_r1 : ∀ q ∈ lw_privs_1, lw_okq q := List.forall_mem_cons.mpr ⟨lw_p0, List.forall_mem_cons.mpr ⟨lw_p1, List.forall_mem_cons.mpr ⟨lw_p2, List.forall_mem_cons.mpr ⟨lw_p3, List.forall_mem_cons.mpr ⟨lw_p4, List.forall_mem_cons.mpr ⟨lw_p5, List.forall_mem_cons.mpr ⟨lw_p6, List.forall_mem_cons.mpr ⟨lw_p7, List.forall_mem_cons.mpr ⟨lw_p8, List.forall_mem_cons.mpr ⟨lw_p9, List.forall_mem_cons.mpr ⟨lw_p10, List.forall_mem_cons.mpr ⟨lw_p11, List.forall_mem_cons.mpr ⟨lw_p12, List.forall_mem_cons.mpr ⟨lw_p13, List.forall_mem_cons.mpr ⟨lw_p14, List.forall_mem_cons.mpr ⟨lw_p15, fun _ h => absurd h List.not_mem_nil⟩⟩⟩⟩⟩⟩⟩⟩⟩⟩⟩⟩⟩⟩⟩⟩
theorem lw_p16 : lw_okq (⟨"AllSworn", "rowsThere", "()I"⟩, 9) := ⟨⟨by decide +kernel, by decide +kernel⟩, List.mem_of_getElem? (i := 19) (by decide +kernel), List.mem_of_getElem? (i := 815) (by decide +kernel), List.mem_of_getElem? (i := 816) (by decide +kernel)⟩
theorem lw_p17 : lw_okq (⟨"AllSwornModel", "finds", "(I)I"⟩, 23) := ⟨⟨by decide +kernel, by decide +kernel⟩, List.mem_of_getElem? (i := 823) (by decide +kernel), List.mem_of_getElem? (i := 912) (by decide +kernel), List.mem_of_getElem? (i := 913) (by decide +kernel)⟩
theorem lw_p18 : lw_okq (⟨"AllSwornModel", "well", "(I)I"⟩, 23) := ⟨⟨by decide +kernel, by decide +kernel⟩, List.mem_of_getElem? (i := 823) (by decide +kernel), List.mem_of_getElem? (i := 917) (by decide +kernel), List.mem_of_getElem? (i := 918) (by decide +kernel)⟩
theorem lw_p19 : lw_okq (⟨"AllSwornModel", "put", "(II)V"⟩, 23) := ⟨⟨by decide +kernel, by decide +kernel⟩, List.mem_of_getElem? (i := 823) (by decide +kernel), List.mem_of_getElem? (i := 946) (by decide +kernel), List.mem_of_getElem? (i := 947) (by decide +kernel)⟩
theorem lw_p20 : lw_okq (⟨"AllSwornModel", "next", "()V"⟩, 23) := ⟨⟨by decide +kernel, by decide +kernel⟩, List.mem_of_getElem? (i := 823) (by decide +kernel), List.mem_of_getElem? (i := 950) (by decide +kernel), List.mem_of_getElem? (i := 951) (by decide +kernel)⟩
theorem lw_p21 : lw_okq (⟨"AllSwornModel", "here", "()I"⟩, 23) := ⟨⟨by decide +kernel, by decide +kernel⟩, List.mem_of_getElem? (i := 823) (by decide +kernel), List.mem_of_getElem? (i := 954) (by decide +kernel), List.mem_of_getElem? (i := 955) (by decide +kernel)⟩
theorem lw_p22 : lw_okq (⟨"AllSwornModel", "sign", "(I)V"⟩, 23) := ⟨⟨by decide +kernel, by decide +kernel⟩, List.mem_of_getElem? (i := 823) (by decide +kernel), List.mem_of_getElem? (i := 958) (by decide +kernel), List.mem_of_getElem? (i := 959) (by decide +kernel)⟩
theorem lw_p23 : lw_okq (⟨"AllSwornModel", "fails", "(I)V"⟩, 23) := ⟨⟨by decide +kernel, by decide +kernel⟩, List.mem_of_getElem? (i := 823) (by decide +kernel), List.mem_of_getElem? (i := 962) (by decide +kernel), List.mem_of_getElem? (i := 963) (by decide +kernel)⟩
theorem lw_p24 : lw_okq (⟨"AllSwornModel", "number", "(III)I"⟩, 23) := ⟨⟨by decide +kernel, by decide +kernel⟩, List.mem_of_getElem? (i := 823) (by decide +kernel), List.mem_of_getElem? (i := 966) (by decide +kernel), List.mem_of_getElem? (i := 967) (by decide +kernel)⟩
theorem lw_p25 : lw_okq (⟨"AllSwornModel", "numberBut", "(III)I"⟩, 23) := ⟨⟨by decide +kernel, by decide +kernel⟩, List.mem_of_getElem? (i := 823) (by decide +kernel), List.mem_of_getElem? (i := 970) (by decide +kernel), List.mem_of_getElem? (i := 971) (by decide +kernel)⟩
theorem lw_p26 : lw_okq (⟨"AllSwornModel", "readThing", "()V"⟩, 23) := ⟨⟨by decide +kernel, by decide +kernel⟩, List.mem_of_getElem? (i := 823) (by decide +kernel), List.mem_of_getElem? (i := 977) (by decide +kernel), List.mem_of_getElem? (i := 978) (by decide +kernel)⟩
theorem lw_p27 : lw_okq (⟨"AllSwornModel", "get", "(I)I"⟩, 23) := ⟨⟨by decide +kernel, by decide +kernel⟩, List.mem_of_getElem? (i := 823) (by decide +kernel), List.mem_of_getElem? (i := 981) (by decide +kernel), List.mem_of_getElem? (i := 982) (by decide +kernel)⟩
theorem lw_p28 : lw_okq (⟨"AllSwornModel", "readHarm", "()V"⟩, 23) := ⟨⟨by decide +kernel, by decide +kernel⟩, List.mem_of_getElem? (i := 823) (by decide +kernel), List.mem_of_getElem? (i := 986) (by decide +kernel), List.mem_of_getElem? (i := 987) (by decide +kernel)⟩
theorem lw_p29 : lw_okq (⟨"AllSwornModel", "copyRealm", "(II)V"⟩, 23) := ⟨⟨by decide +kernel, by decide +kernel⟩, List.mem_of_getElem? (i := 823) (by decide +kernel), List.mem_of_getElem? (i := 991) (by decide +kernel), List.mem_of_getElem? (i := 992) (by decide +kernel)⟩
theorem lw_p30 : lw_okq (⟨"AllSwornModel", "isThing", "(I)Z"⟩, 23) := ⟨⟨by decide +kernel, by decide +kernel⟩, List.mem_of_getElem? (i := 823) (by decide +kernel), List.mem_of_getElem? (i := 1003) (by decide +kernel), List.mem_of_getElem? (i := 1004) (by decide +kernel)⟩
theorem lw_p31 : lw_okq (⟨"AllSwornModel", "wayOf", "(I)I"⟩, 23) := ⟨⟨by decide +kernel, by decide +kernel⟩, List.mem_of_getElem? (i := 823) (by decide +kernel), List.mem_of_getElem? (i := 1007) (by decide +kernel), List.mem_of_getElem? (i := 1008) (by decide +kernel)⟩
def lw_privs_2 : List (MethodName × Nat) := [(⟨"AllSworn", "rowsThere", "()I"⟩, 9), (⟨"AllSwornModel", "finds", "(I)I"⟩, 23), (⟨"AllSwornModel", "well", "(I)I"⟩, 23), (⟨"AllSwornModel", "put", "(II)V"⟩, 23), (⟨"AllSwornModel", "next", "()V"⟩, 23), (⟨"AllSwornModel", "here", "()I"⟩, 23), (⟨"AllSwornModel", "sign", "(I)V"⟩, 23), (⟨"AllSwornModel", "fails", "(I)V"⟩, 23), (⟨"AllSwornModel", "number", "(III)I"⟩, 23), (⟨"AllSwornModel", "numberBut", "(III)I"⟩, 23), (⟨"AllSwornModel", "readThing", "()V"⟩, 23), (⟨"AllSwornModel", "get", "(I)I"⟩, 23), (⟨"AllSwornModel", "readHarm", "()V"⟩, 23), (⟨"AllSwornModel", "copyRealm", "(II)V"⟩, 23), (⟨"AllSwornModel", "isThing", "(I)Z"⟩, 23), (⟨"AllSwornModel", "wayOf", "(I)I"⟩, 23)]
theorem lw_r2 : ∀ q ∈ lw_privs_2, lw_okq q := List.forall_mem_cons.mpr ⟨lw_p16, List.forall_mem_cons.mpr ⟨lw_p17, List.forall_mem_cons.mpr ⟨lw_p18, List.forall_mem_cons.mpr ⟨lw_p19, List.forall_mem_cons.mpr ⟨lw_p20, List.forall_mem_cons.mpr ⟨lw_p21, List.forall_mem_cons.mpr ⟨lw_p22, List.forall_mem_cons.mpr ⟨lw_p23, List.forall_mem_cons.mpr ⟨lw_p24, List.forall_mem_cons.mpr ⟨lw_p25, List.forall_mem_cons.mpr ⟨lw_p26, List.forall_mem_cons.mpr ⟨lw_p27, List.forall_mem_cons.mpr ⟨lw_p28, List.forall_mem_cons.mpr ⟨lw_p29, List.forall_mem_cons.mpr ⟨lw_p30, List.forall_mem_cons.mpr ⟨lw_p31, fun _ h => absurd h List.not_mem_nil⟩⟩⟩⟩⟩⟩⟩⟩⟩⟩⟩⟩⟩⟩⟩⟩
theorem lw_p32 : lw_okq (⟨"AllSwornModel", "ofThing", "(II)I"⟩, 23) := ⟨⟨by decide +kernel, by decide +kernel⟩, List.mem_of_getElem? (i := 823) (by decide +kernel), List.mem_of_getElem? (i := 1011) (by decide +kernel), List.mem_of_getElem? (i := 1012) (by decide +kernel)⟩
theorem lw_p33 : lw_okq (⟨"AllSwornModel", "know", "(I)V"⟩, 23) := ⟨⟨by decide +kernel, by decide +kernel⟩, List.mem_of_getElem? (i := 823) (by decide +kernel), List.mem_of_getElem? (i := 1015) (by decide +kernel), List.mem_of_getElem? (i := 1016) (by decide +kernel)⟩
theorem lw_p34 : lw_okq (⟨"AllSwornModel", "wouldSwear", "(II)Z"⟩, 23) := ⟨⟨by decide +kernel, by decide +kernel⟩, List.mem_of_getElem? (i := 823) (by decide +kernel), List.mem_of_getElem? (i := 1019) (by decide +kernel), List.mem_of_getElem? (i := 1020) (by decide +kernel)⟩
theorem lw_p35 : lw_okq (⟨"AllSwornModel", "isHarm", "(I)Z"⟩, 23) := ⟨⟨by decide +kernel, by decide +kernel⟩, List.mem_of_getElem? (i := 823) (by decide +kernel), List.mem_of_getElem? (i := 1027) (by decide +kernel), List.mem_of_getElem? (i := 1028) (by decide +kernel)⟩
theorem lw_p36 : lw_okq (⟨"AllSwornModel", "openAsSworn", "(I)I"⟩, 23) := ⟨⟨by decide +kernel, by decide +kernel⟩, List.mem_of_getElem? (i := 823) (by decide +kernel), List.mem_of_getElem? (i := 1031) (by decide +kernel), List.mem_of_getElem? (i := 1032) (by decide +kernel)⟩
theorem lw_p37 : lw_okq (⟨"AllSwornModel", "asSworn", "()V"⟩, 23) := ⟨⟨by decide +kernel, by decide +kernel⟩, List.mem_of_getElem? (i := 823) (by decide +kernel), List.mem_of_getElem? (i := 1035) (by decide +kernel), List.mem_of_getElem? (i := 1036) (by decide +kernel)⟩
theorem lw_p38 : lw_okq (⟨"AllSwornModel", "openOn", "(I)I"⟩, 23) := ⟨⟨by decide +kernel, by decide +kernel⟩, List.mem_of_getElem? (i := 823) (by decide +kernel), List.mem_of_getElem? (i := 1039) (by decide +kernel), List.mem_of_getElem? (i := 1040) (by decide +kernel)⟩
theorem lw_p39 : lw_okq (⟨"AllSwornModel", "boundOn", "(II)I"⟩, 23) := ⟨⟨by decide +kernel, by decide +kernel⟩, List.mem_of_getElem? (i := 823) (by decide +kernel), List.mem_of_getElem? (i := 1043) (by decide +kernel), List.mem_of_getElem? (i := 1044) (by decide +kernel)⟩
theorem lw_p40 : lw_okq (⟨"AllSwornModel", "openBy", "(I)I"⟩, 23) := ⟨⟨by decide +kernel, by decide +kernel⟩, List.mem_of_getElem? (i := 823) (by decide +kernel), List.mem_of_getElem? (i := 1047) (by decide +kernel), List.mem_of_getElem? (i := 1048) (by decide +kernel)⟩
theorem lw_p41 : lw_okq (⟨"AllSwornModel", "hasRealm", "()Z"⟩, 23) := ⟨⟨by decide +kernel, by decide +kernel⟩, List.mem_of_getElem? (i := 823) (by decide +kernel), List.mem_of_getElem? (i := 1055) (by decide +kernel), List.mem_of_getElem? (i := 1056) (by decide +kernel)⟩
theorem lw_p42 : lw_okq (⟨"AllSwornModel", "sumOf", "(I)I"⟩, 23) := ⟨⟨by decide +kernel, by decide +kernel⟩, List.mem_of_getElem? (i := 823) (by decide +kernel), List.mem_of_getElem? (i := 1072) (by decide +kernel), List.mem_of_getElem? (i := 1073) (by decide +kernel)⟩
theorem lw_p43 : lw_okq (⟨"AllSwornModel", "isDay", "(I)Z"⟩, 23) := ⟨⟨by decide +kernel, by decide +kernel⟩, List.mem_of_getElem? (i := 823) (by decide +kernel), List.mem_of_getElem? (i := 1080) (by decide +kernel), List.mem_of_getElem? (i := 1081) (by decide +kernel)⟩
theorem lw_p44 : lw_okq (⟨"AllSwornModel", "covers", "(I)Z"⟩, 23) := ⟨⟨by decide +kernel, by decide +kernel⟩, List.mem_of_getElem? (i := 823) (by decide +kernel), List.mem_of_getElem? (i := 1095) (by decide +kernel), List.mem_of_getElem? (i := 1096) (by decide +kernel)⟩
theorem lw_p45 : lw_okq (⟨"AllSwornModel", "goesRound", "(II)Z"⟩, 23) := ⟨⟨by decide +kernel, by decide +kernel⟩, List.mem_of_getElem? (i := 823) (by decide +kernel), List.mem_of_getElem? (i := 1103) (by decide +kernel), List.mem_of_getElem? (i := 1104) (by decide +kernel)⟩
theorem lw_p46 : lw_okq (⟨"AllSwornModel", "cheapestOf", "(I)I"⟩, 23) := ⟨⟨by decide +kernel, by decide +kernel⟩, List.mem_of_getElem? (i := 823) (by decide +kernel), List.mem_of_getElem? (i := 1111) (by decide +kernel), List.mem_of_getElem? (i := 1112) (by decide +kernel)⟩
theorem lw_p47 : lw_okq (⟨"AllSwornModel", "dearBy", "(II)I"⟩, 23) := ⟨⟨by decide +kernel, by decide +kernel⟩, List.mem_of_getElem? (i := 823) (by decide +kernel), List.mem_of_getElem? (i := 1119) (by decide +kernel), List.mem_of_getElem? (i := 1120) (by decide +kernel)⟩
def lw_privs_3 : List (MethodName × Nat) := [(⟨"AllSwornModel", "ofThing", "(II)I"⟩, 23), (⟨"AllSwornModel", "know", "(I)V"⟩, 23), (⟨"AllSwornModel", "wouldSwear", "(II)Z"⟩, 23), (⟨"AllSwornModel", "isHarm", "(I)Z"⟩, 23), (⟨"AllSwornModel", "openAsSworn", "(I)I"⟩, 23), (⟨"AllSwornModel", "asSworn", "()V"⟩, 23), (⟨"AllSwornModel", "openOn", "(I)I"⟩, 23), (⟨"AllSwornModel", "boundOn", "(II)I"⟩, 23), (⟨"AllSwornModel", "openBy", "(I)I"⟩, 23), (⟨"AllSwornModel", "hasRealm", "()Z"⟩, 23), (⟨"AllSwornModel", "sumOf", "(I)I"⟩, 23), (⟨"AllSwornModel", "isDay", "(I)Z"⟩, 23), (⟨"AllSwornModel", "covers", "(I)Z"⟩, 23), (⟨"AllSwornModel", "goesRound", "(II)Z"⟩, 23), (⟨"AllSwornModel", "cheapestOf", "(I)I"⟩, 23), (⟨"AllSwornModel", "dearBy", "(II)I"⟩, 23)]
theorem lw_r3 : ∀ q ∈ lw_privs_3, lw_okq q := List.forall_mem_cons.mpr ⟨lw_p32, List.forall_mem_cons.mpr ⟨lw_p33, List.forall_mem_cons.mpr ⟨lw_p34, List.forall_mem_cons.mpr ⟨lw_p35, List.forall_mem_cons.mpr ⟨lw_p36, List.forall_mem_cons.mpr ⟨lw_p37, List.forall_mem_cons.mpr ⟨lw_p38, List.forall_mem_cons.mpr ⟨lw_p39, List.forall_mem_cons.mpr ⟨lw_p40, List.forall_mem_cons.mpr ⟨lw_p41, List.forall_mem_cons.mpr ⟨lw_p42, List.forall_mem_cons.mpr ⟨lw_p43, List.forall_mem_cons.mpr ⟨lw_p44, List.forall_mem_cons.mpr ⟨lw_p45, List.forall_mem_cons.mpr ⟨lw_p46, List.forall_mem_cons.mpr ⟨lw_p47, fun _ h => absurd h List.not_mem_nil⟩⟩⟩⟩⟩⟩⟩⟩⟩⟩⟩⟩⟩⟩⟩⟩
theorem lw_p48 : lw_okq (⟨"AllSwornModel", "ofKinds", "(I)I"⟩, 23) := ⟨⟨by decide +kernel, by decide +kernel⟩, List.mem_of_getElem? (i := 823) (by decide +kernel), List.mem_of_getElem? (i := 1127) (by decide +kernel), List.mem_of_getElem? (i := 1128) (by decide +kernel)⟩
theorem lw_p49 : lw_okq (⟨"AllSwornModel", "sizeOf", "(I)I"⟩, 23) := ⟨⟨by decide +kernel, by decide +kernel⟩, List.mem_of_getElem? (i := 823) (by decide +kernel), List.mem_of_getElem? (i := 1166) (by decide +kernel), List.mem_of_getElem? (i := 1167) (by decide +kernel)⟩
theorem lw_p50 : lw_okq (⟨"AllSwornModel", "size12", "(I)I"⟩, 23) := ⟨⟨by decide +kernel, by decide +kernel⟩, List.mem_of_getElem? (i := 823) (by decide +kernel), List.mem_of_getElem? (i := 1170) (by decide +kernel), List.mem_of_getElem? (i := 1171) (by decide +kernel)⟩
theorem lw_p51 : lw_okq (⟨"AllSwornModel", "leaves", "(I)V"⟩, 23) := ⟨⟨by decide +kernel, by decide +kernel⟩, List.mem_of_getElem? (i := 823) (by decide +kernel), List.mem_of_getElem? (i := 1174) (by decide +kernel), List.mem_of_getElem? (i := 1175) (by decide +kernel)⟩
theorem lw_p52 : lw_okq (⟨"AllSwornModel", "size11", "(I)I"⟩, 23) := ⟨⟨by decide +kernel, by decide +kernel⟩, List.mem_of_getElem? (i := 823) (by decide +kernel), List.mem_of_getElem? (i := 1178) (by decide +kernel), List.mem_of_getElem? (i := 1179) (by decide +kernel)⟩
theorem lw_p53 : lw_okq (⟨"AllSwornModel", "size10", "(I)I"⟩, 23) := ⟨⟨by decide +kernel, by decide +kernel⟩, List.mem_of_getElem? (i := 823) (by decide +kernel), List.mem_of_getElem? (i := 1182) (by decide +kernel), List.mem_of_getElem? (i := 1183) (by decide +kernel)⟩
theorem lw_p54 : lw_okq (⟨"AllSwornModel", "markOf", "(I)I"⟩, 23) := ⟨⟨by decide +kernel, by decide +kernel⟩, List.mem_of_getElem? (i := 823) (by decide +kernel), List.mem_of_getElem? (i := 1186) (by decide +kernel), List.mem_of_getElem? (i := 1187) (by decide +kernel)⟩
theorem lw_p55 : lw_okq (⟨"AllSwornModel", "mark21", "(I)I"⟩, 23) := ⟨⟨by decide +kernel, by decide +kernel⟩, List.mem_of_getElem? (i := 823) (by decide +kernel), List.mem_of_getElem? (i := 1190) (by decide +kernel), List.mem_of_getElem? (i := 1191) (by decide +kernel)⟩
theorem lw_p56 : lw_okq (⟨"AllSwornModel", "mark20", "(I)I"⟩, 23) := ⟨⟨by decide +kernel, by decide +kernel⟩, List.mem_of_getElem? (i := 823) (by decide +kernel), List.mem_of_getElem? (i := 1194) (by decide +kernel), List.mem_of_getElem? (i := 1195) (by decide +kernel)⟩
theorem lw_p57 : lw_okq (⟨"AllSwornModel", "inHarms", "(I)I"⟩, 23) := ⟨⟨by decide +kernel, by decide +kernel⟩, List.mem_of_getElem? (i := 823) (by decide +kernel), List.mem_of_getElem? (i := 1198) (by decide +kernel), List.mem_of_getElem? (i := 1199) (by decide +kernel)⟩
theorem lw_p58 : lw_okq (⟨"AllSwornModel", "mark24", "(I)I"⟩, 23) := ⟨⟨by decide +kernel, by decide +kernel⟩, List.mem_of_getElem? (i := 823) (by decide +kernel), List.mem_of_getElem? (i := 1202) (by decide +kernel), List.mem_of_getElem? (i := 1203) (by decide +kernel)⟩
theorem lw_p59 : lw_okq (⟨"AllSwornModel", "mark22", "(I)I"⟩, 23) := ⟨⟨by decide +kernel, by decide +kernel⟩, List.mem_of_getElem? (i := 823) (by decide +kernel), List.mem_of_getElem? (i := 1206) (by decide +kernel), List.mem_of_getElem? (i := 1207) (by decide +kernel)⟩
theorem lw_p60 : lw_okq (⟨"AllSwornModel", "mark23", "(I)I"⟩, 23) := ⟨⟨by decide +kernel, by decide +kernel⟩, List.mem_of_getElem? (i := 823) (by decide +kernel), List.mem_of_getElem? (i := 1210) (by decide +kernel), List.mem_of_getElem? (i := 1211) (by decide +kernel)⟩
theorem lw_p61 : lw_okq (⟨"AllSwornModel", "size14", "(I)I"⟩, 23) := ⟨⟨by decide +kernel, by decide +kernel⟩, List.mem_of_getElem? (i := 823) (by decide +kernel), List.mem_of_getElem? (i := 1214) (by decide +kernel), List.mem_of_getElem? (i := 1215) (by decide +kernel)⟩
theorem lw_p62 : lw_okq (⟨"AllSwornModel", "size13", "(I)I"⟩, 23) := ⟨⟨by decide +kernel, by decide +kernel⟩, List.mem_of_getElem? (i := 823) (by decide +kernel), List.mem_of_getElem? (i := 1218) (by decide +kernel), List.mem_of_getElem? (i := 1219) (by decide +kernel)⟩
def lw_privs_4 : List (MethodName × Nat) := [(⟨"AllSwornModel", "ofKinds", "(I)I"⟩, 23), (⟨"AllSwornModel", "sizeOf", "(I)I"⟩, 23), (⟨"AllSwornModel", "size12", "(I)I"⟩, 23), (⟨"AllSwornModel", "leaves", "(I)V"⟩, 23), (⟨"AllSwornModel", "size11", "(I)I"⟩, 23), (⟨"AllSwornModel", "size10", "(I)I"⟩, 23), (⟨"AllSwornModel", "markOf", "(I)I"⟩, 23), (⟨"AllSwornModel", "mark21", "(I)I"⟩, 23), (⟨"AllSwornModel", "mark20", "(I)I"⟩, 23), (⟨"AllSwornModel", "inHarms", "(I)I"⟩, 23), (⟨"AllSwornModel", "mark24", "(I)I"⟩, 23), (⟨"AllSwornModel", "mark22", "(I)I"⟩, 23), (⟨"AllSwornModel", "mark23", "(I)I"⟩, 23), (⟨"AllSwornModel", "size14", "(I)I"⟩, 23), (⟨"AllSwornModel", "size13", "(I)I"⟩, 23)]
theorem lw_r4 : ∀ q ∈ lw_privs_4, lw_okq q := List.forall_mem_cons.mpr ⟨lw_p48, List.forall_mem_cons.mpr ⟨lw_p49, List.forall_mem_cons.mpr ⟨lw_p50, List.forall_mem_cons.mpr ⟨lw_p51, List.forall_mem_cons.mpr ⟨lw_p52, List.forall_mem_cons.mpr ⟨lw_p53, List.forall_mem_cons.mpr ⟨lw_p54, List.forall_mem_cons.mpr ⟨lw_p55, List.forall_mem_cons.mpr ⟨lw_p56, List.forall_mem_cons.mpr ⟨lw_p57, List.forall_mem_cons.mpr ⟨lw_p58, List.forall_mem_cons.mpr ⟨lw_p59, List.forall_mem_cons.mpr ⟨lw_p60, List.forall_mem_cons.mpr ⟨lw_p61, List.forall_mem_cons.mpr ⟨lw_p62, fun _ h => absurd h List.not_mem_nil⟩⟩⟩⟩⟩⟩⟩⟩⟩⟩⟩⟩⟩⟩⟩
def lw_privs : List (MethodName × Nat) := lw_privs_1 ++ (lw_privs_2 ++ (lw_privs_3 ++ (lw_privs_4)))
def lw_tbl : List Cond := k2_sels lw_privs ++ tables_1
theorem lw_privs_ok : ∀ q ∈ lw_privs, lw_okq q := by
  show ∀ q ∈ lw_privs_1 ++ (lw_privs_2 ++ (lw_privs_3 ++ (lw_privs_4))), lw_okq q
  exact List.forall_mem_append.mpr ⟨lw_r1, List.forall_mem_append.mpr ⟨lw_r2, List.forall_mem_append.mpr ⟨lw_r3, lw_r4⟩⟩⟩
end
section
/-! ===== BEGIN printed: names, fields, word lists, decode rows ===== -/
def RX0 : String := "AllSworn$Foreign"
def TX0 : u_T := fun k => match k with
  | 0 => ("AllSworn$Thing", "number", "I", true)
  | 1 => ("AllSworn$Thing", "far", "I", true)
  | _ => ("AllSworn$Thing", "price", "I", true)
def tyX0 : Nat → FieldType := fun k => match k with
  | 0 => .int
  | 1 => .int
  | _ => .int
abbrev wsX00 : List Cond := u_ws RX0 TX0 3
theorem nmX0 : ∀ a, a < 3 → ∀ b, b < 3 → a ≠ b → (TX0 a).2.1 ≠ (TX0 b).2.1 := by decide +kernel
theorem tyX0_ok : ∀ k, k < 3 → parseFieldDescriptor (TX0 k).2.2.1 = some (tyX0 k) := by decide +kernel
abbrev cX0_init : ByteArray := prog_2_method_1_code
def yX0_init : MethodName := ⟨RX0, "<init>", "(III)V"⟩
abbrev cX0_toldKind : ByteArray := prog_2_method_2_code
def yX0_toldKind : MethodName := ⟨RX0, "toldKind", "()I"⟩
abbrev cX0_isOf : ByteArray := prog_2_method_3_code
def yX0_isOf : MethodName := ⟨RX0, "isOf", "(I)Z"⟩
abbrev cX0_daysToAsk : ByteArray := prog_2_method_4_code
def yX0_daysToAsk : MethodName := ⟨RX0, "daysToAsk", "()I"⟩
abbrev cX0_size : ByteArray := prog_2_method_5_code
def yX0_size : MethodName := ⟨RX0, "size", "(LAllSworn$Trace;LAllSworn$Realm;)I"⟩
abbrev cX0_mark : ByteArray := prog_2_method_6_code
def yX0_mark : MethodName := ⟨RX0, "mark", "(LAllSworn$Trace;LAllSworn$Realm;)I"⟩
def RX1 : String := "AllSworn$Mixed"
def TX1 : u_T := fun k => match k with
  | 0 => ("AllSworn$Thing", "number", "I", true)
  | 1 => ("AllSworn$Thing", "far", "I", true)
  | _ => ("AllSworn$Thing", "price", "I", true)
def tyX1 : Nat → FieldType := fun k => match k with
  | 0 => .int
  | 1 => .int
  | _ => .int
abbrev wsX10 : List Cond := u_ws RX1 TX1 3
theorem nmX1 : ∀ a, a < 3 → ∀ b, b < 3 → a ≠ b → (TX1 a).2.1 ≠ (TX1 b).2.1 := by decide +kernel
theorem tyX1_ok : ∀ k, k < 3 → parseFieldDescriptor (TX1 k).2.2.1 = some (tyX1 k) := by decide +kernel
abbrev cX1_init : ByteArray := prog_3_method_1_code
def yX1_init : MethodName := ⟨RX1, "<init>", "(III)V"⟩
abbrev cX1_toldKind : ByteArray := prog_3_method_2_code
def yX1_toldKind : MethodName := ⟨RX1, "toldKind", "()I"⟩
abbrev cX1_isOf : ByteArray := prog_3_method_3_code
def yX1_isOf : MethodName := ⟨RX1, "isOf", "(I)Z"⟩
abbrev cX1_isHeldBy : ByteArray := prog_3_method_4_code
def yX1_isHeldBy : MethodName := ⟨RX1, "isHeldBy", "(I)Z"⟩
abbrev cX1_size : ByteArray := prog_3_method_5_code
def yX1_size : MethodName := ⟨RX1, "size", "(LAllSworn$Trace;LAllSworn$Realm;)I"⟩
abbrev cX1_mark : ByteArray := prog_3_method_6_code
def yX1_mark : MethodName := ⟨RX1, "mark", "(LAllSworn$Trace;LAllSworn$Realm;)I"⟩
def RX2 : String := "AllSworn$Oracle"
def TX2 : u_T := fun k => match k with
  | 0 => ("AllSworn$Oracle", "dream", "LAllSworn$Realm;", true)
  | 1 => ("AllSworn$Oracle", "way", "[I", true)
  | 2 => ("AllSworn$Oracle", "bestWay", "[I", true)
  | 3 => ("AllSworn$Oracle", "bestDays", "I", false)
  | _ => ("AllSworn$Oracle", "bestLength", "I", false)
def tyX2 : Nat → FieldType := fun k => match k with
  | 0 => .object "AllSworn$Realm"
  | 1 => .array .int
  | 2 => .array .int
  | 3 => .int
  | _ => .int
abbrev wsX20 : List Cond := u_ws RX2 TX2 5
theorem nmX2 : ∀ a, a < 5 → ∀ b, b < 5 → a ≠ b → (TX2 a).2.1 ≠ (TX2 b).2.1 := by decide +kernel
theorem tyX2_ok : ∀ k, k < 5 → parseFieldDescriptor (TX2 k).2.2.1 = some (tyX2 k) := by decide +kernel
abbrev cX2_init : ByteArray := prog_4_method_1_code
def yX2_init : MethodName := ⟨RX2, "<init>", "()V"⟩
abbrev cX2_firstGap : ByteArray := prog_4_method_2_code
def yX2_firstGap : MethodName := ⟨RX2, "firstGap", "(LAllSworn$Realm;)I"⟩
abbrev cX2_leastCover : ByteArray := prog_4_method_3_code
def yX2_leastCover : MethodName := ⟨RX2, "leastCover", "(LAllSworn$Realm;)I"⟩
abbrev cX2_willingOn : ByteArray := prog_4_method_4_code
def yX2_willingOn : MethodName := ⟨RX2, "willingOn", "(LAllSworn$Realm;I)I"⟩
abbrev cX2_seekRound : ByteArray := prog_4_method_5_code
def yX2_seekRound : MethodName := ⟨RX2, "seekRound", "(LAllSworn$Realm;)V"⟩
abbrev cX2_goOn : ByteArray := prog_4_method_6_code
def yX2_goOn : MethodName := ⟨RX2, "goOn", "(III)V"⟩
abbrev cX2_keepWay : ByteArray := prog_4_method_7_code
def yX2_keepWay : MethodName := ⟨RX2, "keepWay", "(II)V"⟩
abbrev cX2_bestStop : ByteArray := prog_4_method_8_code
def yX2_bestStop : MethodName := ⟨RX2, "bestStop", "(I)I"⟩
abbrev cX2_bestDefence : ByteArray := prog_4_method_9_code
def yX2_bestDefence : MethodName := ⟨RX2, "bestDefence", "(LAllSworn$Realm;I)I"⟩
abbrev cX2_priceBehind : ByteArray := prog_4_method_10_code
def yX2_priceBehind : MethodName := ⟨RX2, "priceBehind", "(LAllSworn$Realm;LAllSworn$Thing;I)I"⟩
abbrev cX2_leastKinds : ByteArray := prog_4_method_11_code
def yX2_leastKinds : MethodName := ⟨RX2, "leastKinds", "(LAllSworn$Realm;)I"⟩
abbrev cX2_suspects : ByteArray := prog_4_method_12_code
def yX2_suspects : MethodName := ⟨RX2, "suspects", "(LAllSworn$Realm;LAllSworn$Row;II)I"⟩
abbrev cX2_leastTerm : ByteArray := prog_4_method_13_code
def yX2_leastTerm : MethodName := ⟨RX2, "leastTerm", "(LAllSworn$Realm;)I"⟩
def RX3 : String := "AllSworn$Plain"
def TX3 : u_T := fun k => match k with
  | 0 => ("AllSworn$Thing", "number", "I", true)
  | 1 => ("AllSworn$Thing", "far", "I", true)
  | _ => ("AllSworn$Thing", "price", "I", true)
def tyX3 : Nat → FieldType := fun k => match k with
  | 0 => .int
  | 1 => .int
  | _ => .int
abbrev wsX30 : List Cond := u_ws RX3 TX3 3
theorem nmX3 : ∀ a, a < 3 → ∀ b, b < 3 → a ≠ b → (TX3 a).2.1 ≠ (TX3 b).2.1 := by decide +kernel
theorem tyX3_ok : ∀ k, k < 3 → parseFieldDescriptor (TX3 k).2.2.1 = some (tyX3 k) := by decide +kernel
abbrev cX3_init : ByteArray := prog_5_method_1_code
def yX3_init : MethodName := ⟨RX3, "<init>", "(III)V"⟩
abbrev cX3_toldKind : ByteArray := prog_5_method_2_code
def yX3_toldKind : MethodName := ⟨RX3, "toldKind", "()I"⟩
abbrev cX3_isOf : ByteArray := prog_5_method_3_code
def yX3_isOf : MethodName := ⟨RX3, "isOf", "(I)Z"⟩
abbrev cX3_size : ByteArray := prog_5_method_4_code
def yX3_size : MethodName := ⟨RX3, "size", "(LAllSworn$Trace;LAllSworn$Realm;)I"⟩
abbrev cX3_mark : ByteArray := prog_5_method_5_code
def yX3_mark : MethodName := ⟨RX3, "mark", "(LAllSworn$Trace;LAllSworn$Realm;)I"⟩
def RX4 : String := "AllSworn$Reader"
def TX4 : u_T := fun k => match k with
  | 0 => ("AllSworn$Reader", "tape", "[I", true)
  | 1 => ("AllSworn$Reader", "length", "I", false)
  | 2 => ("AllSworn$Reader", "at", "I", false)
  | 3 => ("AllSworn$Reader", "wrong", "I", false)
  | _ => ("AllSworn$Reader", "wrongPlace", "I", false)
def tyX4 : Nat → FieldType := fun k => match k with
  | 0 => .array .int
  | 1 => .int
  | 2 => .int
  | 3 => .int
  | _ => .int
abbrev wsX40 : List Cond := u_ws RX4 TX4 5
theorem nmX4 : ∀ a, a < 5 → ∀ b, b < 5 → a ≠ b → (TX4 a).2.1 ≠ (TX4 b).2.1 := by decide +kernel
theorem tyX4_ok : ∀ k, k < 5 → parseFieldDescriptor (TX4 k).2.2.1 = some (tyX4 k) := by decide +kernel
abbrev cX4_init : ByteArray := prog_6_method_1_code
def yX4_init : MethodName := ⟨RX4, "<init>", "()V"⟩
abbrev cX4_take : ByteArray := prog_6_method_2_code
def yX4_take : MethodName := ⟨RX4, "take", "(I)Z"⟩
abbrev cX4_readTo : ByteArray := prog_6_method_3_code
def yX4_readTo : MethodName := ⟨RX4, "readTo", "(LAllSworn$Realm;)Z"⟩
abbrev cX4_readThing : ByteArray := prog_6_method_4_code
def yX4_readThing : MethodName := ⟨RX4, "readThing", "(LAllSworn$Realm;I)V"⟩
abbrev cX4_readHarm : ByteArray := prog_6_method_5_code
def yX4_readHarm : MethodName := ⟨RX4, "readHarm", "(LAllSworn$Realm;)V"⟩
abbrev cX4_expect : ByteArray := prog_6_method_6_code
def yX4_expect : MethodName := ⟨RX4, "expect", "(C)V"⟩
abbrev cX4_readNumber : ByteArray := prog_6_method_7_code
def yX4_readNumber : MethodName := ⟨RX4, "readNumber", "(II)I"⟩
abbrev cX4_next : ByteArray := prog_6_method_8_code
def yX4_next : MethodName := ⟨RX4, "next", "()I"⟩
abbrev cX4_note : ByteArray := prog_6_method_9_code
def yX4_note : MethodName := ⟨RX4, "note", "(II)V"⟩
abbrev cX4_kindOf : ByteArray := prog_6_method_10_code
def yX4_kindOf : MethodName := ⟨RX4, "kindOf", "(I)I"⟩
abbrev cX4_made : ByteArray := prog_6_method_11_code
def yX4_made : MethodName := ⟨RX4, "made", "(IIII)LAllSworn$Thing;"⟩
def RX5 : String := "AllSworn$Realm"
def TX5 : u_T := fun k => match k with
  | 0 => ("AllSworn$Realm", "things", "[LAllSworn$Thing;", true)
  | 1 => ("AllSworn$Realm", "sworn", "[I", true)
  | 2 => ("AllSworn$Realm", "harms", "[I", true)
  | 3 => ("AllSworn$Realm", "acts", "[I", true)
  | 4 => ("AllSworn$Realm", "term", "I", false)
  | 5 => ("AllSworn$Realm", "thingCount", "I", false)
  | 6 => ("AllSworn$Realm", "harmCount", "I", false)
  | 7 => ("AllSworn$Realm", "actCount", "I", false)
  | 8 => ("AllSworn$Realm", "day", "I", false)
  | _ => ("AllSworn$Realm", "hits", "I", false)
def tyX5 : Nat → FieldType := fun k => match k with
  | 0 => .array (.object "AllSworn$Thing")
  | 1 => .array .int
  | 2 => .array .int
  | 3 => .array .int
  | 4 => .int
  | 5 => .int
  | 6 => .int
  | 7 => .int
  | 8 => .int
  | _ => .int
abbrev wsX50 : List Cond := u_ws RX5 TX5 10
theorem nmX5 : ∀ a, a < 10 → ∀ b, b < 10 → a ≠ b → (TX5 a).2.1 ≠ (TX5 b).2.1 := by decide +kernel
theorem tyX5_ok : ∀ k, k < 10 → parseFieldDescriptor (TX5 k).2.2.1 = some (tyX5 k) := by decide +kernel
abbrev cX5_init : ByteArray := prog_7_method_1_code
def yX5_init : MethodName := ⟨RX5, "<init>", "()V"⟩
abbrev cX5_isTold : ByteArray := prog_7_method_2_code
def yX5_isTold : MethodName := ⟨RX5, "isTold", "()Z"⟩
abbrev cX5_beginAnew : ByteArray := prog_7_method_3_code
def yX5_beginAnew : MethodName := ⟨RX5, "beginAnew", "(I)V"⟩
abbrev cX5_addThing : ByteArray := prog_7_method_4_code
def yX5_addThing : MethodName := ⟨RX5, "addThing", "(LAllSworn$Thing;)V"⟩
abbrev cX5_addHarm : ByteArray := prog_7_method_5_code
def yX5_addHarm : MethodName := ⟨RX5, "addHarm", "(I)V"⟩
abbrev cX5_becomeLike : ByteArray := prog_7_method_6_code
def yX5_becomeLike : MethodName := ⟨RX5, "becomeLike", "(LAllSworn$Realm;)V"⟩
abbrev cX5_thingAt : ByteArray := prog_7_method_7_code
def yX5_thingAt : MethodName := ⟨RX5, "thingAt", "(I)LAllSworn$Thing;"⟩
abbrev cX5_oathOf : ByteArray := prog_7_method_8_code
def yX5_oathOf : MethodName := ⟨RX5, "oathOf", "(I)I"⟩
abbrev cX5_hasHarm : ByteArray := prog_7_method_9_code
def yX5_hasHarm : MethodName := ⟨RX5, "hasHarm", "(I)Z"⟩
abbrev cX5_harmAt : ByteArray := prog_7_method_10_code
def yX5_harmAt : MethodName := ⟨RX5, "harmAt", "(I)I"⟩
abbrev cX5_sendTo : ByteArray := prog_7_method_11_code
def yX5_sendTo : MethodName := ⟨RX5, "sendTo", "(LAllSworn$Thing;)V"⟩
abbrev cX5_tryHarm : ByteArray := prog_7_method_12_code
def yX5_tryHarm : MethodName := ⟨RX5, "tryHarm", "(I)Z"⟩
abbrev cX5_letPass : ByteArray := prog_7_method_13_code
def yX5_letPass : MethodName := ⟨RX5, "letPass", "(I)V"⟩
abbrev cX5_undoLatest : ByteArray := prog_7_method_14_code
def yX5_undoLatest : MethodName := ⟨RX5, "undoLatest", "()Z"⟩
abbrev cX5_keepAct : ByteArray := prog_7_method_15_code
def yX5_keepAct : MethodName := ⟨RX5, "keepAct", "(I)V"⟩
abbrev cX5_swear : ByteArray := prog_7_method_16_code
def yX5_swear : MethodName := ⟨RX5, "swear", "(II)V"⟩
abbrev cX5_boundOn : ByteArray := prog_7_method_17_code
def yX5_boundOn : MethodName := ⟨RX5, "boundOn", "(I)I"⟩
abbrev cX5_boundIf : ByteArray := prog_7_method_18_code
def yX5_boundIf : MethodName := ⟨RX5, "boundIf", "(III)I"⟩
abbrev cX5_openOn : ByteArray := prog_7_method_19_code
def yX5_openOn : MethodName := ⟨RX5, "openOn", "(I)I"⟩
abbrev cX5_openTo : ByteArray := prog_7_method_20_code
def yX5_openTo : MethodName := ⟨RX5, "openTo", "(I)I"⟩
abbrev cX5_priceOf : ByteArray := prog_7_method_21_code
def yX5_priceOf : MethodName := ⟨RX5, "priceOf", "(I)I"⟩
abbrev cX5_cheapestOn : ByteArray := prog_7_method_22_code
def yX5_cheapestOn : MethodName := ⟨RX5, "cheapestOn", "(I)I"⟩
abbrev cX5_cheapestPriceOn : ByteArray := prog_7_method_23_code
def yX5_cheapestPriceOn : MethodName := ⟨RX5, "cheapestPriceOn", "(I)I"⟩
abbrev cX5_toldAs : ByteArray := prog_7_method_24_code
def yX5_toldAs : MethodName := ⟨RX5, "toldAs", "(I)I"⟩
abbrev cX5_harmsWith : ByteArray := prog_7_method_25_code
def yX5_harmsWith : MethodName := ⟨RX5, "harmsWith", "(I)I"⟩
def RX6 : String := "AllSworn$Row"
def TX6 : u_T := fun k => match k with
  | 0 => ("AllSworn$Row", "items", "[I", true)
  | 1 => ("AllSworn$Row", "lane", "I", false)
  | _ => ("AllSworn$Row", "size", "I", false)
def tyX6 : Nat → FieldType := fun k => match k with
  | 0 => .array .int
  | 1 => .int
  | _ => .int
abbrev wsX60 : List Cond := u_ws RX6 TX6 3
theorem nmX6 : ∀ a, a < 3 → ∀ b, b < 3 → a ≠ b → (TX6 a).2.1 ≠ (TX6 b).2.1 := by decide +kernel
theorem tyX6_ok : ∀ k, k < 3 → parseFieldDescriptor (TX6 k).2.2.1 = some (tyX6 k) := by decide +kernel
abbrev cX6_init : ByteArray := prog_8_method_1_code
def yX6_init : MethodName := ⟨RX6, "<init>", "()V"⟩
abbrev cX6_isMissing : ByteArray := prog_8_method_2_code
def yX6_isMissing : MethodName := ⟨RX6, "isMissing", "()Z"⟩
abbrev cX6_vanish : ByteArray := prog_8_method_3_code
def yX6_vanish : MethodName := ⟨RX6, "vanish", "()V"⟩
abbrev cX6_lay : ByteArray := prog_8_method_4_code
def yX6_lay : MethodName := ⟨RX6, "lay", "(II)V"⟩
abbrev cX6_spans : ByteArray := prog_8_method_5_code
def yX6_spans : MethodName := ⟨RX6, "spans", "(II)Z"⟩
abbrev cX6_put : ByteArray := prog_8_method_6_code
def yX6_put : MethodName := ⟨RX6, "put", "(II)I"⟩
abbrev cX6_takeFrom : ByteArray := prog_8_method_7_code
def yX6_takeFrom : MethodName := ⟨RX6, "takeFrom", "(LAllSworn$Row;III)V"⟩
abbrev cX6_tellsYesOrNo : ByteArray := prog_8_method_8_code
def yX6_tellsYesOrNo : MethodName := ⟨RX6, "tellsYesOrNo", "(II)Z"⟩
abbrev cX6_tellsHit : ByteArray := prog_8_method_9_code
def yX6_tellsHit : MethodName := ⟨RX6, "tellsHit", "(I)Z"⟩
abbrev cX6_narrowed : ByteArray := prog_8_method_10_code
def yX6_narrowed : MethodName := ⟨RX6, "narrowed", "(I)I"⟩
def RX7 : String := "AllSworn$Thing"
def TX7 : u_T := fun k => match k with
  | _ => ("", "", "", false)
def tyX7 : Nat → FieldType := fun k => match k with
  | _ => .int
abbrev wsX70 : List Cond := u_ws RX7 TX7 0
theorem nmX7 : ∀ a, a < 0 → ∀ b, b < 0 → a ≠ b → (TX7 a).2.1 ≠ (TX7 b).2.1 := by decide +kernel
theorem tyX7_ok : ∀ k, k < 0 → parseFieldDescriptor (TX7 k).2.2.1 = some (tyX7 k) := by decide +kernel
abbrev cX7_init : ByteArray := prog_9_method_1_code
def yX7_init : MethodName := ⟨RX7, "<init>", "(III)V"⟩
abbrev cX7_isOf : ByteArray := prog_9_method_3_code
def yX7_isOf : MethodName := ⟨RX7, "isOf", "(I)Z"⟩
abbrev cX7_daysToAsk : ByteArray := prog_9_method_4_code
def yX7_daysToAsk : MethodName := ⟨RX7, "daysToAsk", "()I"⟩
abbrev cX7_swearsOn : ByteArray := prog_9_method_5_code
def yX7_swearsOn : MethodName := ⟨RX7, "swearsOn", "(I)Z"⟩
abbrev cX7_isHeldBy : ByteArray := prog_9_method_6_code
def yX7_isHeldBy : MethodName := ⟨RX7, "isHeldBy", "(I)Z"⟩
abbrev cX7_size : ByteArray := prog_9_method_7_code
def yX7_size : MethodName := ⟨RX7, "size", "(LAllSworn$Trace;LAllSworn$Realm;)I"⟩
abbrev cX7_mark : ByteArray := prog_9_method_8_code
def yX7_mark : MethodName := ⟨RX7, "mark", "(LAllSworn$Trace;LAllSworn$Realm;)I"⟩
def RX8 : String := "AllSworn$Trace"
def TX8 : u_T := fun k => match k with
  | 0 => ("AllSworn$Trace", "numbers", "[I", true)
  | _ => ("AllSworn$Trace", "length", "I", false)
def tyX8 : Nat → FieldType := fun k => match k with
  | 0 => .array .int
  | _ => .int
abbrev wsX80 : List Cond := u_ws RX8 TX8 2
theorem nmX8 : ∀ a, a < 2 → ∀ b, b < 2 → a ≠ b → (TX8 a).2.1 ≠ (TX8 b).2.1 := by decide +kernel
theorem tyX8_ok : ∀ k, k < 2 → parseFieldDescriptor (TX8 k).2.2.1 = some (tyX8 k) := by decide +kernel
abbrev cX8_init : ByteArray := prog_10_method_1_code
def yX8_init : MethodName := ⟨RX8, "<init>", "()V"⟩
abbrev cX8_clear : ByteArray := prog_10_method_2_code
def yX8_clear : MethodName := ⟨RX8, "clear", "()V"⟩
abbrev cX8_leave : ByteArray := prog_10_method_3_code
def yX8_leave : MethodName := ⟨RX8, "leave", "(I)V"⟩
abbrev cX8_numberAt : ByteArray := prog_10_method_4_code
def yX8_numberAt : MethodName := ⟨RX8, "numberAt", "(I)I"⟩
def RX9 : String := "AllSworn$Untrue"
def TX9 : u_T := fun k => match k with
  | 0 => ("AllSworn$Thing", "number", "I", true)
  | 1 => ("AllSworn$Thing", "far", "I", true)
  | _ => ("AllSworn$Thing", "price", "I", true)
def tyX9 : Nat → FieldType := fun k => match k with
  | 0 => .int
  | 1 => .int
  | _ => .int
abbrev wsX90 : List Cond := u_ws RX9 TX9 3
theorem nmX9 : ∀ a, a < 3 → ∀ b, b < 3 → a ≠ b → (TX9 a).2.1 ≠ (TX9 b).2.1 := by decide +kernel
theorem tyX9_ok : ∀ k, k < 3 → parseFieldDescriptor (TX9 k).2.2.1 = some (tyX9 k) := by decide +kernel
abbrev cX9_init : ByteArray := prog_11_method_1_code
def yX9_init : MethodName := ⟨RX9, "<init>", "(III)V"⟩
abbrev cX9_toldKind : ByteArray := prog_11_method_2_code
def yX9_toldKind : MethodName := ⟨RX9, "toldKind", "()I"⟩
abbrev cX9_isOf : ByteArray := prog_11_method_3_code
def yX9_isOf : MethodName := ⟨RX9, "isOf", "(I)Z"⟩
abbrev cX9_isHeldBy : ByteArray := prog_11_method_4_code
def yX9_isHeldBy : MethodName := ⟨RX9, "isHeldBy", "(I)Z"⟩
abbrev cX9_size : ByteArray := prog_11_method_5_code
def yX9_size : MethodName := ⟨RX9, "size", "(LAllSworn$Trace;LAllSworn$Realm;)I"⟩
def RX10 : String := "AllSworn$Young"
def TX10 : u_T := fun k => match k with
  | 0 => ("AllSworn$Thing", "number", "I", true)
  | 1 => ("AllSworn$Thing", "far", "I", true)
  | _ => ("AllSworn$Thing", "price", "I", true)
def tyX10 : Nat → FieldType := fun k => match k with
  | 0 => .int
  | 1 => .int
  | _ => .int
abbrev wsX100 : List Cond := u_ws RX10 TX10 3
theorem nmX10 : ∀ a, a < 3 → ∀ b, b < 3 → a ≠ b → (TX10 a).2.1 ≠ (TX10 b).2.1 := by decide +kernel
theorem tyX10_ok : ∀ k, k < 3 → parseFieldDescriptor (TX10 k).2.2.1 = some (tyX10 k) := by decide +kernel
abbrev cX10_init : ByteArray := prog_12_method_1_code
def yX10_init : MethodName := ⟨RX10, "<init>", "(III)V"⟩
abbrev cX10_toldKind : ByteArray := prog_12_method_2_code
def yX10_toldKind : MethodName := ⟨RX10, "toldKind", "()I"⟩
abbrev cX10_isOf : ByteArray := prog_12_method_3_code
def yX10_isOf : MethodName := ⟨RX10, "isOf", "(I)Z"⟩
abbrev cX10_swearsOn : ByteArray := prog_12_method_4_code
def yX10_swearsOn : MethodName := ⟨RX10, "swearsOn", "(I)Z"⟩
abbrev cX10_mark : ByteArray := prog_12_method_5_code
def yX10_mark : MethodName := ⟨RX10, "mark", "(LAllSworn$Trace;LAllSworn$Realm;)I"⟩
def RX11 : String := "AllSworn"
def TX11 : u_T := fun k => match k with
  | 0 => ("AllSworn", "rows", "[LAllSworn$Row;", true)
  | 1 => ("AllSworn", "reader", "LAllSworn$Reader;", true)
  | 2 => ("AllSworn", "draft", "LAllSworn$Realm;", true)
  | 3 => ("AllSworn", "present", "LAllSworn$Realm;", true)
  | 4 => ("AllSworn", "images", "[LAllSworn$Realm;", true)
  | 5 => ("AllSworn", "oracle", "LAllSworn$Oracle;", true)
  | 6 => ("AllSworn", "left", "LAllSworn$Trace;", true)
  | 7 => ("AllSworn", "latestFault", "I", false)
  | _ => ("AllSworn", "latestFinding", "I", false)
def tyX11 : Nat → FieldType := fun k => match k with
  | 0 => .array (.object "AllSworn$Row")
  | 1 => .object "AllSworn$Reader"
  | 2 => .object "AllSworn$Realm"
  | 3 => .object "AllSworn$Realm"
  | 4 => .array (.object "AllSworn$Realm")
  | 5 => .object "AllSworn$Oracle"
  | 6 => .object "AllSworn$Trace"
  | 7 => .int
  | _ => .int
abbrev wsX110 : List Cond := u_ws RX11 TX11 9
theorem nmX11 : ∀ a, a < 9 → ∀ b, b < 9 → a ≠ b → (TX11 a).2.1 ≠ (TX11 b).2.1 := by decide +kernel
theorem tyX11_ok : ∀ k, k < 9 → parseFieldDescriptor (TX11 k).2.2.1 = some (tyX11 k) := by decide +kernel
abbrev cX11_init : ByteArray := prog_1_method_1_code
def yX11_init : MethodName := ⟨RX11, "<init>", "()V"⟩
abbrev cX11_row : ByteArray := prog_1_method_2_code
def yX11_row : MethodName := ⟨RX11, "row", "(III)I"⟩
abbrev cX11_set : ByteArray := prog_1_method_3_code
def yX11_set : MethodName := ⟨RX11, "set", "(III)I"⟩
abbrev cX11_copy : ByteArray := prog_1_method_4_code
def yX11_copy : MethodName := ⟨RX11, "copy", "(IIIII)I"⟩
abbrev cX11_drop : ByteArray := prog_1_method_5_code
def yX11_drop : MethodName := ⟨RX11, "drop", "(I)I"⟩
abbrev cX11_feed : ByteArray := prog_1_method_6_code
def yX11_feed : MethodName := ⟨RX11, "feed", "(I)I"⟩
abbrev cX11_realm : ByteArray := prog_1_method_7_code
def yX11_realm : MethodName := ⟨RX11, "realm", "()I"⟩
abbrev cX11_fault : ByteArray := prog_1_method_8_code
def yX11_fault : MethodName := ⟨RX11, "fault", "()I"⟩
abbrev cX11_askFor : ByteArray := prog_1_method_9_code
def yX11_askFor : MethodName := ⟨RX11, "askFor", "(I)I"⟩
abbrev cX11_tries : ByteArray := prog_1_method_10_code
def yX11_tries : MethodName := ⟨RX11, "tries", "(I)I"⟩
abbrev cX11_waits : ByteArray := prog_1_method_11_code
def yX11_waits : MethodName := ⟨RX11, "waits", "(I)I"⟩
abbrev cX11_undo : ByteArray := prog_1_method_12_code
def yX11_undo : MethodName := ⟨RX11, "undo", "()I"⟩
abbrev cX11_thing : ByteArray := prog_1_method_13_code
def yX11_thing : MethodName := ⟨RX11, "thing", "(II)I"⟩
abbrev cX11_harm : ByteArray := prog_1_method_14_code
def yX11_harm : MethodName := ⟨RX11, "harm", "(II)I"⟩
abbrev cX11_open : ByteArray := prog_1_method_15_code
def yX11_open : MethodName := ⟨RX11, "open", "(I)I"⟩
abbrev cX11_gap : ByteArray := prog_1_method_16_code
def yX11_gap : MethodName := ⟨RX11, "gap", "()I"⟩
abbrev cX11_cover : ByteArray := prog_1_method_17_code
def yX11_cover : MethodName := ⟨RX11, "cover", "(I)I"⟩
abbrev cX11_round : ByteArray := prog_1_method_18_code
def yX11_round : MethodName := ⟨RX11, "round", "(I)I"⟩
abbrev cX11_cheapest : ByteArray := prog_1_method_19_code
def yX11_cheapest : MethodName := ⟨RX11, "cheapest", "(II)I"⟩
abbrev cX11_defended : ByteArray := prog_1_method_20_code
def yX11_defended : MethodName := ⟨RX11, "defended", "(II)I"⟩
abbrev cX11_enough : ByteArray := prog_1_method_21_code
def yX11_enough : MethodName := ⟨RX11, "enough", "(I)I"⟩
abbrev cX11_odds : ByteArray := prog_1_method_22_code
def yX11_odds : MethodName := ⟨RX11, "odds", "(III)I"⟩
abbrev cX11_hitBy : ByteArray := prog_1_method_23_code
def yX11_hitBy : MethodName := ⟨RX11, "hitBy", "(III)I"⟩
abbrev cX11_terms : ByteArray := prog_1_method_24_code
def yX11_terms : MethodName := ⟨RX11, "terms", "()I"⟩
abbrev cX11_image : ByteArray := prog_1_method_25_code
def yX11_image : MethodName := ⟨RX11, "image", "(I)I"⟩
abbrev cX11_restore : ByteArray := prog_1_method_26_code
def yX11_restore : MethodName := ⟨RX11, "restore", "(I)I"⟩
abbrev cX11_kind : ByteArray := prog_1_method_27_code
def yX11_kind : MethodName := ⟨RX11, "kind", "(I)I"⟩
abbrev cX11_as : ByteArray := prog_1_method_28_code
def yX11_as : MethodName := ⟨RX11, "as", "(II)I"⟩
abbrev cX11_ask : ByteArray := prog_1_method_29_code
def yX11_ask : MethodName := ⟨RX11, "ask", "(II)I"⟩
abbrev cX11_trace : ByteArray := prog_1_method_30_code
def yX11_trace : MethodName := ⟨RX11, "trace", "(I)I"⟩
abbrev cX11_count : ByteArray := prog_1_method_31_code
def yX11_count : MethodName := ⟨RX11, "count", "(I)I"⟩
abbrev cX11_status : ByteArray := prog_1_method_32_code
def yX11_status : MethodName := ⟨RX11, "status", "()I"⟩
abbrev cX11_found : ByteArray := prog_1_method_33_code
def yX11_found : MethodName := ⟨RX11, "found", "(I)I"⟩
abbrev cX11_clean : ByteArray := prog_1_method_34_code
def yX11_clean : MethodName := ⟨RX11, "clean", "(I)I"⟩
abbrev cX11_rowAt : ByteArray := prog_1_method_35_code
def yX11_rowAt : MethodName := ⟨RX11, "rowAt", "(I)LAllSworn$Row;"⟩
abbrev cX11_imageAt : ByteArray := prog_1_method_36_code
def yX11_imageAt : MethodName := ⟨RX11, "imageAt", "(I)LAllSworn$Realm;"⟩
abbrev cX11_rowsThere : ByteArray := prog_1_method_37_code
def yX11_rowsThere : MethodName := ⟨RX11, "rowsThere", "()I"⟩
abbrev cX11_isAhead : ByteArray := prog_1_method_38_code
def yX11_isAhead : MethodName := ⟨RX11, "isAhead", "(I)Z"⟩
abbrev cX11_isPair : ByteArray := prog_1_method_39_code
def yX11_isPair : MethodName := ⟨RX11, "isPair", "(I)Z"⟩
abbrev cX11_sizeOrSet : ByteArray := prog_1_method_40_code
def yX11_sizeOrSet : MethodName := ⟨RX11, "sizeOrSet", "(II)I"⟩
abbrev cX11_power : ByteArray := prog_1_method_41_code
def yX11_power : MethodName := ⟨RX11, "power", "(II)I"⟩
abbrev cX11_sharedDivisor : ByteArray := prog_1_method_42_code
def yX11_sharedDivisor : MethodName := ⟨RX11, "sharedDivisor", "(II)I"⟩
def RX12 : String := "AllSwornModel"
def TX12 : u_T := fun k => match k with
  | 0 => ("AllSwornModel", "lanes", "[I", true)
  | 1 => ("AllSwornModel", "sizes", "[I", true)
  | 2 => ("AllSwornModel", "items", "[I", true)
  | 3 => ("AllSwornModel", "state", "I", false)
  | 4 => ("AllSwornModel", "now", "[I", true)
  | 5 => ("AllSwornModel", "base", "I", false)
  | 6 => ("AllSwornModel", "isKept", "[Z", true)
  | 7 => ("AllSwornModel", "acts", "[I", true)
  | 8 => ("AllSwornModel", "actMany", "I", false)
  | 9 => ("AllSwornModel", "tape", "[B", true)
  | 10 => ("AllSwornModel", "typed", "I", false)
  | 11 => ("AllSwornModel", "at", "I", false)
  | 12 => ("AllSwornModel", "start", "I", false)
  | 13 => ("AllSwornModel", "sort", "I", false)
  | 14 => ("AllSwornModel", "value", "I", false)
  | 15 => ("AllSwornModel", "fault", "I", false)
  | 16 => ("AllSwornModel", "faultAt", "I", false)
  | 17 => ("AllSwornModel", "lastFault", "I", false)
  | 18 => ("AllSwornModel", "oaths", "[I", true)
  | 19 => ("AllSwornModel", "row4", "[I", true)
  | 20 => ("AllSwornModel", "rowDays", "I", false)
  | 21 => ("AllSwornModel", "traced", "[I", true)
  | _ => ("AllSwornModel", "tracedMany", "I", false)
def tyX12 : Nat → FieldType := fun k => match k with
  | 0 => .array .int
  | 1 => .array .int
  | 2 => .array .int
  | 3 => .int
  | 4 => .array .int
  | 5 => .int
  | 6 => .array .boolean
  | 7 => .array .int
  | 8 => .int
  | 9 => .array .byte
  | 10 => .int
  | 11 => .int
  | 12 => .int
  | 13 => .int
  | 14 => .int
  | 15 => .int
  | 16 => .int
  | 17 => .int
  | 18 => .array .int
  | 19 => .array .int
  | 20 => .int
  | 21 => .array .int
  | _ => .int
abbrev wsX120 : List Cond := u_ws RX12 TX12 23
theorem nmX12 : ∀ a, a < 23 → ∀ b, b < 23 → a ≠ b → (TX12 a).2.1 ≠ (TX12 b).2.1 := by decide +kernel
theorem tyX12_ok : ∀ k, k < 23 → parseFieldDescriptor (TX12 k).2.2.1 = some (tyX12 k) := by decide +kernel
abbrev cX12_init : ByteArray := prog_14_method_1_code
def yX12_init : MethodName := ⟨RX12, "<init>", "()V"⟩
abbrev cX12_in : ByteArray := prog_14_method_3_code
def yX12_in : MethodName := ⟨RX12, "in", "(III)Z"⟩
abbrev cX12_finds : ByteArray := prog_14_method_4_code
def yX12_finds : MethodName := ⟨RX12, "finds", "(I)I"⟩
abbrev cX12_well : ByteArray := prog_14_method_5_code
def yX12_well : MethodName := ⟨RX12, "well", "(I)I"⟩
abbrev cX12_isRow : ByteArray := prog_14_method_6_code
def yX12_isRow : MethodName := ⟨RX12, "isRow", "(I)Z"⟩
abbrev cX12_row : ByteArray := prog_14_method_7_code
def yX12_row : MethodName := ⟨RX12, "row", "(III)I"⟩
abbrev cX12_set : ByteArray := prog_14_method_8_code
def yX12_set : MethodName := ⟨RX12, "set", "(III)I"⟩
abbrev cX12_copy : ByteArray := prog_14_method_9_code
def yX12_copy : MethodName := ⟨RX12, "copy", "(IIIII)I"⟩
abbrev cX12_drop : ByteArray := prog_14_method_10_code
def yX12_drop : MethodName := ⟨RX12, "drop", "(I)I"⟩
abbrev cX12_status : ByteArray := prog_14_method_11_code
def yX12_status : MethodName := ⟨RX12, "status", "()I"⟩
abbrev cX12_get : ByteArray := prog_14_method_12_code
def yX12_get : MethodName := ⟨RX12, "get", "(I)I"⟩
abbrev cX12_put : ByteArray := prog_14_method_13_code
def yX12_put : MethodName := ⟨RX12, "put", "(II)V"⟩
abbrev cX12_copyRealm : ByteArray := prog_14_method_14_code
def yX12_copyRealm : MethodName := ⟨RX12, "copyRealm", "(II)V"⟩
abbrev cX12_isThing : ByteArray := prog_14_method_15_code
def yX12_isThing : MethodName := ⟨RX12, "isThing", "(I)Z"⟩
abbrev cX12_isHarm : ByteArray := prog_14_method_16_code
def yX12_isHarm : MethodName := ⟨RX12, "isHarm", "(I)Z"⟩
abbrev cX12_ofThing : ByteArray := prog_14_method_17_code
def yX12_ofThing : MethodName := ⟨RX12, "ofThing", "(II)I"⟩
abbrev cX12_feed : ByteArray := prog_14_method_18_code
def yX12_feed : MethodName := ⟨RX12, "feed", "(I)I"⟩
abbrev cX12_here : ByteArray := prog_14_method_19_code
def yX12_here : MethodName := ⟨RX12, "here", "()I"⟩
abbrev cX12_next : ByteArray := prog_14_method_20_code
def yX12_next : MethodName := ⟨RX12, "next", "()V"⟩
abbrev cX12_fails : ByteArray := prog_14_method_21_code
def yX12_fails : MethodName := ⟨RX12, "fails", "(I)V"⟩
abbrev cX12_sign : ByteArray := prog_14_method_22_code
def yX12_sign : MethodName := ⟨RX12, "sign", "(I)V"⟩
abbrev cX12_numberBut : ByteArray := prog_14_method_23_code
def yX12_numberBut : MethodName := ⟨RX12, "numberBut", "(III)I"⟩
abbrev cX12_number : ByteArray := prog_14_method_24_code
def yX12_number : MethodName := ⟨RX12, "number", "(III)I"⟩
abbrev cX12_kindOf : ByteArray := prog_14_method_25_code
def yX12_kindOf : MethodName := ⟨RX12, "kindOf", "(I)I"⟩
abbrev cX12_readThing : ByteArray := prog_14_method_26_code
def yX12_readThing : MethodName := ⟨RX12, "readThing", "()V"⟩
abbrev cX12_readHarm : ByteArray := prog_14_method_27_code
def yX12_readHarm : MethodName := ⟨RX12, "readHarm", "()V"⟩
abbrev cX12_realm : ByteArray := prog_14_method_28_code
def yX12_realm : MethodName := ⟨RX12, "realm", "()I"⟩
abbrev cX12_fault : ByteArray := prog_14_method_29_code
def yX12_fault : MethodName := ⟨RX12, "fault", "()I"⟩
abbrev cX12_asSworn : ByteArray := prog_14_method_30_code
def yX12_asSworn : MethodName := ⟨RX12, "asSworn", "()V"⟩
abbrev cX12_boundOn : ByteArray := prog_14_method_31_code
def yX12_boundOn : MethodName := ⟨RX12, "boundOn", "(II)I"⟩
abbrev cX12_openBy : ByteArray := prog_14_method_32_code
def yX12_openBy : MethodName := ⟨RX12, "openBy", "(I)I"⟩
abbrev cX12_openOn : ByteArray := prog_14_method_33_code
def yX12_openOn : MethodName := ⟨RX12, "openOn", "(I)I"⟩
abbrev cX12_openAsSworn : ByteArray := prog_14_method_34_code
def yX12_openAsSworn : MethodName := ⟨RX12, "openAsSworn", "(I)I"⟩
abbrev cX12_wayOf : ByteArray := prog_14_method_35_code
def yX12_wayOf : MethodName := ⟨RX12, "wayOf", "(I)I"⟩
abbrev cX12_wouldSwear : ByteArray := prog_14_method_36_code
def yX12_wouldSwear : MethodName := ⟨RX12, "wouldSwear", "(II)Z"⟩
abbrev cX12_know : ByteArray := prog_14_method_37_code
def yX12_know : MethodName := ⟨RX12, "know", "(I)V"⟩
abbrev cX12_hasRealm : ByteArray := prog_14_method_38_code
def yX12_hasRealm : MethodName := ⟨RX12, "hasRealm", "()Z"⟩
abbrev cX12_askFor : ByteArray := prog_14_method_39_code
def yX12_askFor : MethodName := ⟨RX12, "askFor", "(I)I"⟩
abbrev cX12_tries : ByteArray := prog_14_method_40_code
def yX12_tries : MethodName := ⟨RX12, "tries", "(I)I"⟩
abbrev cX12_waits : ByteArray := prog_14_method_41_code
def yX12_waits : MethodName := ⟨RX12, "waits", "(I)I"⟩
abbrev cX12_undo : ByteArray := prog_14_method_42_code
def yX12_undo : MethodName := ⟨RX12, "undo", "()I"⟩
abbrev cX12_sumOf : ByteArray := prog_14_method_43_code
def yX12_sumOf : MethodName := ⟨RX12, "sumOf", "(I)I"⟩
abbrev cX12_thing : ByteArray := prog_14_method_44_code
def yX12_thing : MethodName := ⟨RX12, "thing", "(II)I"⟩
abbrev cX12_harm : ByteArray := prog_14_method_45_code
def yX12_harm : MethodName := ⟨RX12, "harm", "(II)I"⟩
abbrev cX12_isDay : ByteArray := prog_14_method_46_code
def yX12_isDay : MethodName := ⟨RX12, "isDay", "(I)Z"⟩
abbrev cX12_open : ByteArray := prog_14_method_47_code
def yX12_open : MethodName := ⟨RX12, "open", "(I)I"⟩
abbrev cX12_gap : ByteArray := prog_14_method_48_code
def yX12_gap : MethodName := ⟨RX12, "gap", "()I"⟩
abbrev cX12_manyOf : ByteArray := prog_14_method_49_code
def yX12_manyOf : MethodName := ⟨RX12, "manyOf", "(I)I"⟩
abbrev cX12_covers : ByteArray := prog_14_method_50_code
def yX12_covers : MethodName := ⟨RX12, "covers", "(I)Z"⟩
abbrev cX12_cover : ByteArray := prog_14_method_51_code
def yX12_cover : MethodName := ⟨RX12, "cover", "(I)I"⟩
abbrev cX12_goesRound : ByteArray := prog_14_method_52_code
def yX12_goesRound : MethodName := ⟨RX12, "goesRound", "(II)Z"⟩
abbrev cX12_round : ByteArray := prog_14_method_53_code
def yX12_round : MethodName := ⟨RX12, "round", "(I)I"⟩
abbrev cX12_cheapestOf : ByteArray := prog_14_method_54_code
def yX12_cheapestOf : MethodName := ⟨RX12, "cheapestOf", "(I)I"⟩
abbrev cX12_cheapest : ByteArray := prog_14_method_55_code
def yX12_cheapest : MethodName := ⟨RX12, "cheapest", "(II)I"⟩
abbrev cX12_dearBy : ByteArray := prog_14_method_56_code
def yX12_dearBy : MethodName := ⟨RX12, "dearBy", "(II)I"⟩
abbrev cX12_defended : ByteArray := prog_14_method_57_code
def yX12_defended : MethodName := ⟨RX12, "defended", "(II)I"⟩
abbrev cX12_ofKinds : ByteArray := prog_14_method_58_code
def yX12_ofKinds : MethodName := ⟨RX12, "ofKinds", "(I)I"⟩
abbrev cX12_enough : ByteArray := prog_14_method_59_code
def yX12_enough : MethodName := ⟨RX12, "enough", "(I)I"⟩
abbrev cX12_odds : ByteArray := prog_14_method_60_code
def yX12_odds : MethodName := ⟨RX12, "odds", "(III)I"⟩
abbrev cX12_hitBy : ByteArray := prog_14_method_61_code
def yX12_hitBy : MethodName := ⟨RX12, "hitBy", "(III)I"⟩
abbrev cX12_terms : ByteArray := prog_14_method_62_code
def yX12_terms : MethodName := ⟨RX12, "terms", "()I"⟩
abbrev cX12_image : ByteArray := prog_14_method_63_code
def yX12_image : MethodName := ⟨RX12, "image", "(I)I"⟩
abbrev cX12_restore : ByteArray := prog_14_method_64_code
def yX12_restore : MethodName := ⟨RX12, "restore", "(I)I"⟩
abbrev cX12_kind : ByteArray := prog_14_method_65_code
def yX12_kind : MethodName := ⟨RX12, "kind", "(I)I"⟩
abbrev cX12_inHarms : ByteArray := prog_14_method_66_code
def yX12_inHarms : MethodName := ⟨RX12, "inHarms", "(I)I"⟩
abbrev cX12_isOne : ByteArray := prog_14_method_67_code
def yX12_isOne : MethodName := ⟨RX12, "isOne", "(II)Z"⟩
abbrev cX12_as : ByteArray := prog_14_method_68_code
def yX12_as : MethodName := ⟨RX12, "as", "(II)I"⟩
abbrev cX12_leaves : ByteArray := prog_14_method_69_code
def yX12_leaves : MethodName := ⟨RX12, "leaves", "(I)V"⟩
abbrev cX12_size10 : ByteArray := prog_14_method_70_code
def yX12_size10 : MethodName := ⟨RX12, "size10", "(I)I"⟩
abbrev cX12_mark20 : ByteArray := prog_14_method_71_code
def yX12_mark20 : MethodName := ⟨RX12, "mark20", "(I)I"⟩
abbrev cX12_mark21 : ByteArray := prog_14_method_72_code
def yX12_mark21 : MethodName := ⟨RX12, "mark21", "(I)I"⟩
abbrev cX12_size13 : ByteArray := prog_14_method_73_code
def yX12_size13 : MethodName := ⟨RX12, "size13", "(I)I"⟩
abbrev cX12_size14 : ByteArray := prog_14_method_74_code
def yX12_size14 : MethodName := ⟨RX12, "size14", "(I)I"⟩
abbrev cX12_mark22 : ByteArray := prog_14_method_75_code
def yX12_mark22 : MethodName := ⟨RX12, "mark22", "(I)I"⟩
abbrev cX12_mark24 : ByteArray := prog_14_method_76_code
def yX12_mark24 : MethodName := ⟨RX12, "mark24", "(I)I"⟩
abbrev cX12_mark23 : ByteArray := prog_14_method_77_code
def yX12_mark23 : MethodName := ⟨RX12, "mark23", "(I)I"⟩
abbrev cX12_markOf : ByteArray := prog_14_method_78_code
def yX12_markOf : MethodName := ⟨RX12, "markOf", "(I)I"⟩
abbrev cX12_size11 : ByteArray := prog_14_method_79_code
def yX12_size11 : MethodName := ⟨RX12, "size11", "(I)I"⟩
abbrev cX12_size12 : ByteArray := prog_14_method_80_code
def yX12_size12 : MethodName := ⟨RX12, "size12", "(I)I"⟩
abbrev cX12_sizeOf : ByteArray := prog_14_method_81_code
def yX12_sizeOf : MethodName := ⟨RX12, "sizeOf", "(I)I"⟩
abbrev cX12_ask : ByteArray := prog_14_method_82_code
def yX12_ask : MethodName := ⟨RX12, "ask", "(II)I"⟩
abbrev cX12_trace : ByteArray := prog_14_method_83_code
def yX12_trace : MethodName := ⟨RX12, "trace", "(I)I"⟩
abbrev cX12_count : ByteArray := prog_14_method_84_code
def yX12_count : MethodName := ⟨RX12, "count", "(I)I"⟩
def RJ6 : String := "java/lang/Integer"
def TJ6 : u_T := fun k => match k with
  | _ => ("", "", "", false)
def tyJ6 : Nat → FieldType := fun k => match k with
  | _ => .int
abbrev wsJ60 : List Cond := u_ws RJ6 TJ6 0
theorem nmJ6 : ∀ a, a < 0 → ∀ b, b < 0 → a ≠ b → (TJ6 a).2.1 ≠ (TJ6 b).2.1 := by decide +kernel
theorem tyJ6_ok : ∀ k, k < 0 → parseFieldDescriptor (TJ6 k).2.2.1 = some (tyJ6 k) := by decide +kernel
abbrev cJ6_bitCount_0f7a4 : ByteArray := prog_15_method_49_code
def yJ6_bitCount_0f7a4 : MethodName := ⟨RJ6, "bitCount", "(I)I"⟩
def RJ9 : String := "java/lang/Math"
def TJ9 : u_T := fun k => match k with
  | _ => ("", "", "", false)
def tyJ9 : Nat → FieldType := fun k => match k with
  | _ => .int
abbrev wsJ90 : List Cond := u_ws RJ9 TJ9 0
theorem nmJ9 : ∀ a, a < 0 → ∀ b, b < 0 → a ≠ b → (TJ9 a).2.1 ≠ (TJ9 b).2.1 := by decide +kernel
theorem tyJ9_ok : ∀ k, k < 0 → parseFieldDescriptor (TJ9 k).2.2.1 = some (tyJ9 k) := by decide +kernel
abbrev cJ9_max_7cf53 : ByteArray := prog_16_method_65_code
def yJ9_max_7cf53 : MethodName := ⟨RJ9, "max", "(II)I"⟩
def RJ10 : String := "java/lang/System"
def TJ10 : u_T := fun k => match k with
  | _ => ("", "", "", false)
def tyJ10 : Nat → FieldType := fun k => match k with
  | _ => .int
abbrev wsJ100 : List Cond := u_ws RJ10 TJ10 0
theorem nmJ10 : ∀ a, a < 0 → ∀ b, b < 0 → a ≠ b → (TJ10 a).2.1 ≠ (TJ10 b).2.1 := by decide +kernel
theorem tyJ10_ok : ∀ k, k < 0 → parseFieldDescriptor (TJ10 k).2.2.1 = some (tyJ10 k) := by decide +kernel
def RJ7 : String := "java/util/Arrays"
def TJ7 : u_T := fun k => match k with
  | _ => ("", "", "", false)
def tyJ7 : Nat → FieldType := fun k => match k with
  | _ => .int
abbrev wsJ70 : List Cond := u_ws RJ7 TJ7 0
theorem nmJ7 : ∀ a, a < 0 → ∀ b, b < 0 → a ≠ b → (TJ7 a).2.1 ≠ (TJ7 b).2.1 := by decide +kernel
theorem tyJ7_ok : ∀ k, k < 0 → parseFieldDescriptor (TJ7 k).2.2.1 = some (tyJ7 k) := by decide +kernel
abbrev cJ7_fill_53178 : ByteArray := prog_18_method_103_code
def yJ7_fill_53178 : MethodName := ⟨RJ7, "fill", "([II)V"⟩
def RL : String := "AllSwornLaw"
abbrev cL_law : ByteArray := code
def yL_law : MethodName := ⟨RL, "law", "([I)Z"⟩
abbrev vwCl : List vw_C := [(RX0, TX0, 3), (RX1, TX1, 3), (RX2, TX2, 5), (RX3, TX3, 3), (RX4, TX4, 5), (RX5, TX5, 10), (RX6, TX6, 3), (RX8, TX8, 2), (RX9, TX9, 3), (RX10, TX10, 3), (RX11, TX11, 9), (RX12, TX12, 23)]
end
section
/-! px: a pure machine. Its cells lie at positions 0, 1, 2 ..; a reference is a position. Here: its types, one step, its run. -/
abbrev px_E : Type := (FieldType × Nat × (Nat → Int32)) ⊕ ((FieldType × Nat × (Nat → Option Nat)) ⊕ (Nat × List Value))
abbrev px_H : Type := Nat × (Nat → Option px_E)
/-- what an instruction links: kind, number, targets by class, constant, name -/
abbrev px_X : Type := Nat × Nat × List (Nat × Nat) × Int32 × String
abbrev px_I : Type := Jvm.ClassFile.Instr × Nat × px_X
/-- a method: name, bytes, locals, answer, cells that it may make, its instructions -/
abbrev px_M : Type := MethodName × ByteArray × Nat × Option FieldType × Nat × List (Nat × px_I)
abbrev px_my (m : px_M) : MethodName := m.1
abbrev px_mb (m : px_M) : ByteArray := m.2.1
abbrev px_ml (m : px_M) : Nat := m.2.2.1
abbrev px_mr (m : px_M) : Option FieldType := m.2.2.2.1
abbrev px_mc (m : px_M) : Nat := m.2.2.2.2.1
abbrev px_mi (m : px_M) : List (Nat × px_I) := m.2.2.2.2.2
abbrev px_L : Type := List (Option Value)
/-- place, locals, stack, heap, cells made -/
abbrev px_S : Type := Nat × px_L × List Value × px_H × Nat
abbrev px_A : Type := px_S ⊕ ((Option Value × px_H) ⊕ (Nat × List Value × px_S))
def px_set (w : px_H) (a : Nat) (c : px_E) : px_H := (w.1, fun b => if b = a then some c else w.2 b)
def px_add (w : px_H) (c : px_E) : px_H := (w.1 + 1, fun b => if b = w.1 then some c else w.2 b)
def px_isr : Value → Bool
  | .null => true
  | .ref _ => true
  | _ => false
/-- reads and writes of the heap -/
def px_fld (w : px_H) (a : Nat) (cis : List (Nat × Nat)) (j : Nat) : Option Value := match w.2 a with
  | some (.inr (.inr (ci, fs))) => if (cis.lookup ci).isSome then fs[j]? else none
  | _ => none
/-- what may be stored into a field of a type -/
def px_fit (ty : FieldType) (v : Value) : Bool := match ty, v with
  | .int, .int _ => true
  | .object _, v => px_isr v
  | .array _, v => px_isr v
  | _, _ => false
def px_fty (ci j : Nat) : Option FieldType := match vwCl[ci]? with
  | some q => parseFieldDescriptor (q.2.1 j).2.2.1
  | none => none
def px_pfd (w : px_H) (a : Nat) (cis : List (Nat × Nat)) (j : Nat) (v : Value) : Option px_H := match w.2 a with
  | some (.inr (.inr (ci, fs))) => if (cis.lookup ci).isSome ∧ j < fs.length then some (px_set w a (.inr (.inr (ci, fs.set j v)))) else none
  | _ => none
def px_vin (i : Int32) (n : Nat) : Bool := !(decide (i < 0) || decide (n ≤ i.toNatClampNeg))
def px_ald (w : px_H) (a : Nat) (i : Int32) (ty : FieldType) : Option Int32 := match w.2 a with
  | some (.inl (t, n, f)) => if t = ty ∧ px_vin i n = true then some (f i.toNatClampNeg) else none
  | _ => none
def px_ast (w : px_H) (a : Nat) (i : Int32) (x : Int32) (ty : FieldType) : Option px_H := match w.2 a with
  | some (.inl (t, n, f)) => if t = ty ∧ px_vin i n = true then some (px_set w a (.inl (t, n, upd f i.toNatClampNeg x))) else none
  | _ => none
/-- byte and boolean arrays -/
def px_bld (w : px_H) (a : Nat) (i : Int32) : Option Int32 := match w.2 a with
  | some (.inl (t, n, f)) => if (t = .byte ∨ t = .boolean) ∧ px_vin i n = true then some (f i.toNatClampNeg) else none
  | _ => none
def px_bst (w : px_H) (a : Nat) (i : Int32) (x : Int32) : Option px_H := match w.2 a with
  | some (.inl (t, n, f)) => if (t = .byte ∨ t = .boolean) ∧ px_vin i n = true then some (px_set w a (.inl (t, n, upd f i.toNatClampNeg (vp_nar t x)))) else none
  | _ => none
def px_iso : FieldType → Bool
  | .object _ => true
  | _ => false
def px_rld (w : px_H) (a : Nat) (i : Int32) : Option Value := match w.2 a with
  | some (.inr (.inl (t, n, f))) => if px_vin i n = true ∧ px_iso t = true then some (va_rf (f i.toNatClampNeg)) else none
  | _ => none
def px_cls (w : px_H) (a : Nat) : Option Nat := match w.2 a with
  | some (.inr (.inr (ci, _))) => some ci
  | _ => none
/-- may an object of class ci stand in an array of that type -/
def px_may (ci : Nat) (t : FieldType) : Bool := match t, vwCl[ci]? with
  | .object E, some q => decide (q.1 = E) || decide (Cond.castable q.1 E ∈ lw_tbl.filter (fun c => match c with | .castable .. => true | _ => false))
  | _, _ => false
def px_rst (w : px_H) (a : Nat) (i : Int32) (v : Value) : Option px_H := match w.2 a with
  | some (.inr (.inl (t, n, f))) => if px_vin i n = true then (match t, v with
    | .object _, .null => some (px_set w a (.inr (.inl (t, n, va_up f i.toNatClampNeg none))))
    | .object _, .ref b => (match px_cls w b with
      | some ci => if px_may ci t = true then some (px_set w a (.inr (.inl (t, n, va_up f i.toNatClampNeg (some b))))) else none
      | none => none)
    | _, _ => none) else none
  | _ => none
def px_len (w : px_H) (a : Nat) : Option Int32 := match w.2 a with
  | some (.inl (_, n, _)) => some (Int32.ofNat n)
  | some (.inr (.inl (_, n, _))) => some (Int32.ofNat n)
  | _ => none
def px_cpy (w : px_H) (a0 : Nat) (sp : Int32) (a : Nat) (dp n : Int32) : Option px_H := match w.2 a0, w.2 a with
  | some (.inl (t0, n0, f)), some (.inl (t1, n1, g)) => if t0 = .int ∧ t1 = .int ∧ ¬ sp < 0 ∧ ¬ dp < 0 ∧ ¬ n < 0 ∧ sp.toNatClampNeg + n.toNatClampNeg ≤ n0 ∧ dp.toNatClampNeg + n.toNatClampNeg ≤ n1 then
      some (px_set w a (.inl (t1, n1, va_cpy f g sp.toNatClampNeg dp.toNatClampNeg n.toNatClampNeg))) else none
  | _, _ => none
def px_dfl : FieldType → Value
  | .int => .int 0
  | _ => .null
def px_nf (r : vw_C) (j : Nat) : Value := match parseFieldDescriptor (r.2.1 j).2.2.1 with
  | some t => px_dfl t
  | none => .null
def px_newf (r : vw_C) : List Value := (List.range r.2.2).map (px_nf r)
def px_new (ci : Nat) : Option px_E := match vwCl[ci]? with
  | some q => some (.inr (.inr (ci, px_newf q)))
  | none => none
def px_jmp (pc : Nat) (off : Int) : Option Nat := if 0 ≤ (pc : Int) + off then some ((pc : Int) + off).toNat else none
def px_cmp (c : Jvm.ClassFile.Cond) (x y : Int32) : Bool := match c with
  | .eq => decide (x = y)
  | .ne => decide (¬ x = y)
  | .lt => decide (x < y)
  | .ge => decide (y ≤ x)
  | .gt => decide (y < x)
  | .le => decide (x ≤ y)
def px_tsw (pc : Nat) (dflt lo hi : Int) (offs : Array Int) (x : Int32) : Option Nat :=
  if x.toInt < lo ∨ hi < x.toInt then px_jmp pc dflt else (match offs[(x.toInt - lo).toNat]? with | some o => px_jmp pc o | none => none)
def px_lsw (pc : Nat) (dflt : Int) (ps : Array (Int × Int)) (x : Int32) : Option Nat :=
  if (ps.toList.zip (ps.toList.drop 1)).all (fun (a, next) => a.1 < next.1) = true then px_jmp pc (Op.lookupswitch.offset ps.toList dflt x.toInt) else none
/-- a call: the arguments' number, what stands below them -/
def px_iv (k : Nat) (st : List Value) : Option (List Value × List Value) := if k ≤ st.length ∧ (st.drop k).length ≤ 8 then some ((st.take k).reverse, st.drop k) else none
def px_nat (t : Jvm.ClassFile.ArrayType) : Option FieldType := match t with
  | .int => some .int
  | .byte => some .byte
  | .boolean => some .boolean
  | _ => none
/-- one step -/
def px_act (m : px_M) (i : Jvm.ClassFile.Instr) (X : px_X) (pc : Nat) (L : px_L) (st : List Value) (w : px_H) (k : Nat) : Option px_A := match i with
  | .aconst_null => some (.inl (pc + 1, L, .null :: st, w, k))
  | .iconst n => some (.inl (pc + 1, L, .int (Int32.ofInt n) :: st, w, k))
  | .bipush n => some (.inl (pc + 2, L, .int (Int8.ofInt n).toInt32 :: st, w, k))
  | .sipush n => some (.inl (pc + 3, L, .int (Int16.ofInt n).toInt32 :: st, w, k))
  | .ldc _ => some (.inl (pc + 2, L, .int X.2.2.2.1 :: st, w, k))
  | .ldc_w _ => some (.inl (pc + 3, L, .int X.2.2.2.1 :: st, w, k))
  | .iload j => (match L[j]? with | some (some (.int x)) => some (.inl (pc + 2, L, .int x :: st, w, k)) | _ => none)
  | .iload_n j => (match L[j.val]? with | some (some (.int x)) => some (.inl (pc + 1, L, .int x :: st, w, k)) | _ => none)
  | .aload j => (match L[j]? with | some (some v) => if px_isr v = true then some (.inl (pc + 2, L, v :: st, w, k)) else none | _ => none)
  | .aload_n j => (match L[j.val]? with | some (some v) => if px_isr v = true then some (.inl (pc + 1, L, v :: st, w, k)) else none | _ => none)
  | .istore j => (match st with | .int x :: st => if j < L.length then some (.inl (pc + 2, L.set j (some (.int x)), st, w, k)) else none | _ => none)
  | .istore_n j => (match st with | .int x :: st => if j.val < L.length then some (.inl (pc + 1, L.set j.val (some (.int x)), st, w, k)) else none | _ => none)
  | .astore j => (match st with | v :: st => if px_isr v = true ∧ j < L.length then some (.inl (pc + 2, L.set j (some v), st, w, k)) else none | _ => none)
  | .astore_n j => (match st with | v :: st => if px_isr v = true ∧ j.val < L.length then some (.inl (pc + 1, L.set j.val (some v), st, w, k)) else none | _ => none)
  | .iinc j n => (match L[j]? with | some (some (.int x)) => some (.inl (pc + 3, L.set j (some (.int (x + Int32.ofInt n))), st, w, k)) | _ => none)
  | .iadd => (match st with | .int y :: .int x :: st => some (.inl (pc + 1, L, .int (x + y) :: st, w, k)) | _ => none)
  | .isub => (match st with | .int y :: .int x :: st => some (.inl (pc + 1, L, .int (x - y) :: st, w, k)) | _ => none)
  | .imul => (match st with | .int y :: .int x :: st => some (.inl (pc + 1, L, .int (x * y) :: st, w, k)) | _ => none)
  | .iand => (match st with | .int y :: .int x :: st => some (.inl (pc + 1, L, .int (x &&& y) :: st, w, k)) | _ => none)
  | .ior => (match st with | .int y :: .int x :: st => some (.inl (pc + 1, L, .int (x ||| y) :: st, w, k)) | _ => none)
  | .ixor => (match st with | .int y :: .int x :: st => some (.inl (pc + 1, L, .int (x ^^^ y) :: st, w, k)) | _ => none)
  | .ishl => (match st with | .int y :: .int x :: st => some (.inl (pc + 1, L, .int (x <<< (y &&& 31)) :: st, w, k)) | _ => none)
  | .ishr => (match st with | .int y :: .int x :: st => some (.inl (pc + 1, L, .int (x >>> (y &&& 31)) :: st, w, k)) | _ => none)
  | .iushr => (match st with | .int y :: .int x :: st => some (.inl (pc + 1, L, .int (x.toUInt32 >>> (y.toUInt32 &&& Int32.toUInt32 31)).toInt32 :: st, w, k)) | _ => none)
  | .idiv => (match st with | .int y :: .int x :: st => (if y = 0 then none else some (x / y)).map (fun z => .inl (pc + 1, L, .int z :: st, w, k)) | _ => none)
  | .irem => (match st with | .int y :: .int x :: st => (if y = 0 then none else some (x - x / y * y)).map (fun z => .inl (pc + 1, L, .int z :: st, w, k)) | _ => none)
  | .ineg => (match st with | .int x :: st => some (.inl (pc + 1, L, .int (-x) :: st, w, k)) | _ => none)
  | .i2b => (match st with | .int x :: st => some (.inl (pc + 1, L, .int x.toInt8.toInt32 :: st, w, k)) | _ => none)
  | .i2s => (match st with | .int x :: st => some (.inl (pc + 1, L, .int x.toInt16.toInt32 :: st, w, k)) | _ => none)
  | .dup => (match st with | v :: st => some (.inl (pc + 1, L, v :: v :: st, w, k)) | _ => none)
  | .pop => (match st with | _ :: st => some (.inl (pc + 1, L, st, w, k)) | _ => none)
  | .goto off => (px_jmp pc off).map (fun t => .inl (t, L, st, w, k))
  | .ifCond c off => (match st with | .int x :: st => (if px_cmp c x 0 = true then px_jmp pc off else some (pc + 3)).map (fun t => .inl (t, L, st, w, k)) | _ => none)
  | .if_icmp c off => (match st with | .int y :: .int x :: st => (if px_cmp c x y = true then px_jmp pc off else some (pc + 3)).map (fun t => .inl (t, L, st, w, k)) | _ => none)
  | .ifnull off => (match st with | .null :: st => (px_jmp pc off).map (fun t => .inl (t, L, st, w, k)) | .ref _ :: st => some (.inl (pc + 3, L, st, w, k)) | _ => none)
  | .ifnonnull off => (match st with | .ref _ :: st => (px_jmp pc off).map (fun t => .inl (t, L, st, w, k)) | .null :: st => some (.inl (pc + 3, L, st, w, k)) | _ => none)
  | .tableswitch d lo hi offs => (match st with | .int x :: st => (px_tsw pc d lo hi offs x).map (fun t => .inl (t, L, st, w, k)) | _ => none)
  | .lookupswitch d ps => (match st with | .int x :: st => (px_lsw pc d ps x).map (fun t => .inl (t, L, st, w, k)) | _ => none)
  | .getfield _ => (match st with | .ref a :: st => (px_fld w a X.2.2.1 X.2.1).map (fun v => .inl (pc + 3, L, v :: st, w, k)) | _ => none)
  | .putfield _ => (match st with | v :: .ref a :: st => (if (X.2.2.1.all (fun q => match px_fty q.1 X.2.1 with | some t => px_fit t v | none => false)) = true then px_pfd w a X.2.2.1 X.2.1 v else none).map (fun w => .inl (pc + 3, L, st, w, k)) | _ => none)
  | .iaload => (match st with | .int i :: .ref a :: st => (px_ald w a i .int).map (fun x => .inl (pc + 1, L, .int x :: st, w, k)) | _ => none)
  | .iastore => (match st with | .int x :: .int i :: .ref a :: st => (px_ast w a i x .int).map (fun w => .inl (pc + 1, L, st, w, k)) | _ => none)
  | .baload => (match st with | .int i :: .ref a :: st => (px_bld w a i).map (fun x => .inl (pc + 1, L, .int x :: st, w, k)) | _ => none)
  | .bastore => (match st with | .int x :: .int i :: .ref a :: st => (px_bst w a i x).map (fun w => .inl (pc + 1, L, st, w, k)) | _ => none)
  | .aaload => (match st with | .int i :: .ref a :: st => (px_rld w a i).map (fun v => .inl (pc + 1, L, v :: st, w, k)) | _ => none)
  | .aastore => (match st with | v :: .int i :: .ref a :: st => (px_rst w a i v).map (fun w => .inl (pc + 1, L, st, w, k)) | _ => none)
  | .arraylength => (match st with | .ref a :: st => (px_len w a).map (fun x => .inl (pc + 1, L, .int x :: st, w, k)) | _ => none)
  | .new _ => (if k + 1 ≤ px_mc m then px_new X.2.1 else none).map (fun c => .inl (pc + 3, L, .ref w.1 :: st, px_add w c, k + 1))
  | .newarray t => (match st with | .int n :: st => (if k + 1 ≤ px_mc m ∧ ¬ n < 0 ∧ n.toNatClampNeg ≤ 320 then px_nat t else none).map (fun ty => .inl (pc + 2, L, .ref w.1 :: st, px_add w (.inl (ty, n.toNatClampNeg, fun _ => 0)), k + 1)) | _ => none)
  | .anewarray _ => (match st with | .int n :: st => if k + 1 ≤ px_mc m ∧ ¬ n < 0 ∧ n.toNatClampNeg ≤ 320 then some (.inl (pc + 3, L, .ref w.1 :: st, px_add w (.inr (.inl (.object X.2.2.2.2, n.toNatClampNeg, fun _ => none))), k + 1)) else none | _ => none)
  | .ireturn => (match st with | [.int x] => (match px_mr m with | some .int => some (.inr (.inl (some (.int x), w))) | some .boolean => if x = 0 ∨ x = 1 then some (.inr (.inl (some (.int x), w))) else none | _ => none) | _ => none)
  | .areturn => (match st with | [v] => (match px_mr m with | some (.object _) => if px_isr v = true then some (.inr (.inl (some v, w))) else none | _ => none) | _ => none)
  | .return_ => (match st with | [] => (match px_mr m with | none => some (.inr (.inl (none, w))) | _ => none) | _ => none)
  | .invokestatic _ => if X.1 = 37 then (match st with | .int n :: .int dp :: .ref a :: .int sp :: .ref a0 :: st => if st.length ≤ 8 then (px_cpy w a0 sp a dp n).map (fun w => .inl (pc + 3, L, st, w, k)) else none | _ => none)
      else if X.1 = 38 then (match st with | .int y :: .int x :: st => if st.length ≤ 8 then some (.inl (pc + 3, L, .int (if x < y then y else x) :: st, w, k)) else none | _ => none)
      else (match px_iv X.2.1 st, X.2.2.1 with | some (as, st), [(_, M)] => some (.inr (.inr (M, as, (pc + 3, L, st, w, k)))) | _, _ => none)
  | .invokespecial _ => if X.1 = 36 then (match st with | .ref _ :: st => if st.length ≤ 8 then some (.inl (pc + 3, L, st, w, k)) else none | _ => none)
      else (match px_iv X.2.1 st, X.2.2.1 with | some (as, .ref b :: st), [(_, M)] => (if X.1 = 35 then px_cls w b else some 0).map (fun _ => .inr (.inr (M, .ref b :: as, (pc + 3, L, st, w, k)))) | _, _ => none)
  | .invokevirtual _ => (match px_iv X.2.1 st with | some (as, .ref b :: st) => ((px_cls w b).bind (fun ci => X.2.2.1.lookup ci)).map (fun M => .inr (.inr (M, .ref b :: as, (pc + 3, L, st, w, k)))) | _ => none)
  | _ => none
/-- the locals at a method's entry -/
def px_en (n : Nat) (as : List Value) : px_L := as.map some ++ List.replicate (n - as.length) none
/-- the run: fuel, depth, method -/
def px_ex (T : List px_M) : Nat → Nat → Nat → px_S → Option (Option Value × px_H)
  | 0, _, _, _ => none
  | n + 1, d, M, S => (match T[M]? with
    | none => none
    | some m => (match (px_mi m).lookup S.1 with
      | none => none
      | some q => (match px_act m q.1 q.2.2 S.1 S.2.1 S.2.2.1 S.2.2.2.1 S.2.2.2.2 with
        | none => none
        | some (.inl S') => px_ex T n d M S'
        | some (.inr (.inl r)) => some r
        | some (.inr (.inr c)) => (match d with
          | 0 => none
          | d' + 1 => (match T[c.1]? with
            | none => none
            | some m' => if c.2.1.length ≤ px_ml m' ∧ c.2.2.2.2.2.2 + px_mc m' ≤ px_mc m then
                (match px_ex T n d' c.1 (0, px_en (px_ml m') c.2.1, [], c.2.2.2.2.2.1, 0) with
                | none => none
                | some r => px_ex T n (d' + 1) M (c.2.2.1, c.2.2.2.1, r.1.toList ++ c.2.2.2.2.1, r.2, c.2.2.2.2.2.2 + px_mc m'))
                else none)))))
theorem px_mono (T : List px_M) : ∀ (n d M : Nat) (S : px_S) (r : Option Value × px_H), px_ex T n d M S = some r → px_ex T (n + 1) d M S = some r := by
  intro n
  induction n with
  | zero => intro d M S r h; simp [px_ex] at h
  | succ n ih =>
    intro d M S r h
    rw [px_ex] at h ⊢
    cases hm : T[M]? with
    | none => simp only [hm] at h; cases h
    | some m =>
      simp only [hm] at h ⊢
      cases hi : (px_mi m).lookup S.1 with
      | none => simp only [hi] at h; cases h
      | some q =>
        simp only [hi] at h ⊢
        cases ha : px_act m q.1 q.2.2 S.1 S.2.1 S.2.2.1 S.2.2.2.1 S.2.2.2.2 with
        | none => simp only [ha] at h; cases h
        | some A =>
          simp only [ha] at h ⊢
          rcases A with S' | r' | c
          · exact ih _ _ _ _ h
          · exact h
          · cases d with
            | zero => cases h
            | succ d' =>
              dsimp only at h ⊢
              cases hm' : T[c.1]? with
              | none => simp only [hm'] at h; cases h
              | some m' =>
                simp only [hm'] at h ⊢
                by_cases hc : c.2.1.length ≤ px_ml m' ∧ c.2.2.2.2.2.2 + px_mc m' ≤ px_mc m
                · rw [if_pos hc] at h ⊢
                  cases hr : px_ex T n d' c.1 (0, px_en (px_ml m') c.2.1, [], c.2.2.2.2.2.1, 0) with
                  | none => simp only [hr] at h; cases h
                  | some r1 =>
                    rw [ih _ _ _ _ hr]
                    simp only [hr] at h ⊢
                    exact ih _ _ _ _ h
                · rw [if_neg hc] at h; cases h
theorem px_monoN (T : List px_M) {n n' d M : Nat} {S : px_S} {r : Option Value × px_H} (h : px_ex T n d M S = some r) (hn : n ≤ n') : px_ex T n' d M S = some r := by
  induction hn with
  | refl => exact h
  | step _ ih => exact px_mono T _ _ _ _ _ ih
theorem px_det (T : List px_M) {n n' d M : Nat} {S : px_S} {r r' : Option Value × px_H} (h : px_ex T n d M S = some r) (h' : px_ex T n' d M S = some r') : r = r' := by
  have a := px_monoN T h (Nat.le_max_left n n')
  have b := px_monoN T h' (Nat.le_max_right n n')
  exact Option.some.inj (a.symm.trans b)
/-- it comes to its end, with Q -/
def px_wp (T : List px_M) (d M pc : Nat) (L : px_L) (st : List Value) (w : px_H) (k : Nat) (Q : Option Value → px_H → Prop) : Prop := ∃ (n : Nat) (r : Option Value) (w' : px_H), px_ex T n d M (pc, L, st, w, k) = some (r, w') ∧ Q r w'
def px_wc (T : List px_M) (d M : Nat) (as : List Value) (w : px_H) (Q : Option Value → px_H → Prop) : Prop := ∃ m, T[M]? = some m ∧ as.length ≤ px_ml m ∧ px_wp T d M 0 (px_en (px_ml m) as) [] w 0 Q
def px_op {α : Type} (o : Option α) (K : α → Prop) : Prop := match o with
  | some v => K v
  | none => False
theorem px_op_some {α : Type} (v : α) (K : α → Prop) : px_op (some v) K = K v := rfl
theorem px_op_none {α : Type} (K : α → Prop) : px_op none K = False := rfl
section PXR
variable {T : List px_M} {d M pc k : Nat} {L : px_L} {st : List Value} {w : px_H} {Q : Option Value → px_H → Prop} {m : px_M} {q : px_I}
theorem px_go (hm : T[M]? = some m) (hi : (px_mi m).lookup pc = some q) {S' : px_S} (ha : px_act m q.1 q.2.2 pc L st w k = some (.inl S')) : px_wp T d M pc L st w k Q ↔ px_wp T d M S'.1 S'.2.1 S'.2.2.1 S'.2.2.2.1 S'.2.2.2.2 Q := by
  constructor
  · rintro ⟨n, r, w', h, hq⟩
    cases n with
    | zero => simp [px_ex] at h
    | succ n =>
      rw [px_ex] at h
      simp only [hm, hi, ha] at h
      exact ⟨n, r, w', h, hq⟩
  · rintro ⟨n, r, w', h, hq⟩
    refine ⟨n + 1, r, w', ?_, hq⟩
    rw [px_ex]
    simp only [hm, hi, ha]
    exact h
theorem px_goO (hm : T[M]? = some m) (hi : (px_mi m).lookup pc = some q) {α : Type} {o : Option α} {S' : α → px_S} (ha : px_act m q.1 q.2.2 pc L st w k = o.map (fun v => .inl (S' v))) : px_wp T d M pc L st w k Q ↔ px_op o (fun v => px_wp T d M (S' v).1 (S' v).2.1 (S' v).2.2.1 (S' v).2.2.2.1 (S' v).2.2.2.2 Q) := by
  cases o with
  | some v => exact px_go hm hi ha
  | none =>
    refine ⟨?_, fun h => h.elim⟩
    rintro ⟨n, r, w', h, hq⟩
    cases n with
    | zero => simp [px_ex] at h
    | succ n =>
      rw [px_ex] at h
      simp only [hm, hi, ha, Option.map_none] at h
      cases h
theorem px_ret (hm : T[M]? = some m) (hi : (px_mi m).lookup pc = some q) {r : Option Value} (ha : px_act m q.1 q.2.2 pc L st w k = some (.inr (.inl (r, w)))) : px_wp T d M pc L st w k Q ↔ Q r w := by
  constructor
  · rintro ⟨n, r', w', h, hq⟩
    cases n with
    | zero => simp [px_ex] at h
    | succ n =>
      rw [px_ex] at h
      simp only [hm, hi, ha] at h
      cases h
      exact hq
  · intro hq
    refine ⟨1, r, w, ?_, hq⟩
    rw [px_ex]
    simp only [hm, hi, ha]
theorem px_retI (hm : T[M]? = some m) (hi : (px_mi m).lookup pc = some q) {c : Prop} [Decidable c] {r : Option Value} (ha : px_act m q.1 q.2.2 pc L st w k = if c then some (.inr (.inl (r, w))) else none) : px_wp T d M pc L st w k Q ↔ c ∧ Q r w := by
  by_cases hc : c
  · rw [if_pos hc] at ha
    rw [px_ret hm hi ha]
    exact ⟨fun h => ⟨hc, h⟩, fun h => h.2⟩
  · rw [if_neg hc] at ha
    refine ⟨?_, fun h => absurd h.1 hc⟩
    rintro ⟨n, r, w', h, hq⟩
    cases n with
    | zero => simp [px_ex] at h
    | succ n =>
      rw [px_ex] at h
      simp only [hm, hi, ha] at h
      cases h
theorem px_call (hm : T[M]? = some m) (hi : (px_mi m).lookup pc = some q) {α : Type} {o : Option α} {c : α → Nat × List Value × px_S} (ha : px_act m q.1 q.2.2 pc L st w k = o.map (fun v => .inr (.inr (c v))))
    {m' : α → px_M} (hm' : ∀ v, o = some v → T[(c v).1]? = some (m' v) ∧ (c v).2.1.length ≤ px_ml (m' v) ∧ (c v).2.2.2.2.2.2 + px_mc (m' v) ≤ px_mc m) :
    px_wp T (d + 1) M pc L st w k Q ↔ px_op o (fun v => px_wc T d (c v).1 (c v).2.1 (c v).2.2.2.2.2.1 (fun r w' => px_wp T (d + 1) M (c v).2.2.1 (c v).2.2.2.1 (r.toList ++ (c v).2.2.2.2.1) w' ((c v).2.2.2.2.2.2 + px_mc (m' v)) Q)) := by
  cases o with
  | none =>
    refine ⟨?_, fun h => h.elim⟩
    rintro ⟨n, r, w', h, hq⟩
    cases n with
    | zero => simp [px_ex] at h
    | succ n =>
      rw [px_ex] at h
      simp only [hm, hi, ha, Option.map_none] at h
      cases h
  | some v =>
    obtain ⟨g1, g2, g3⟩ := hm' v rfl
    rw [px_op_some]
    simp only [Option.map_some] at ha
    constructor
    · rintro ⟨n, r, w', h, hq⟩
      cases n with
      | zero => simp [px_ex] at h
      | succ n =>
        rw [px_ex] at h
        simp only [hm, hi, ha, g1] at h
        rw [if_pos ⟨g2, g3⟩] at h
        cases hr : px_ex T n d (c v).1 (0, px_en (px_ml (m' v)) (c v).2.1, [], (c v).2.2.2.2.2.1, 0) with
        | none => simp only [hr] at h; cases h
        | some r1 =>
          simp only [hr] at h
          exact ⟨m' v, g1, g2, n, r1.1, r1.2, hr, n, r, w', h, hq⟩
    · rintro ⟨m2, e1, e2, n1, r1, w1, h1, n2, r, w', h2, hq⟩
      cases g1.symm.trans e1
      refine ⟨Nat.max n1 n2 + 1, r, w', ?_, hq⟩
      rw [px_ex]
      simp only [hm, hi, ha, g1]
      rw [if_pos ⟨g2, g3⟩, px_monoN T h1 (Nat.le_max_left n1 n2)]
      exact px_monoN T h2 (Nat.le_max_right n1 n2)
end PXR
end
section
/-! how a state of the pure machine stands in the heap of the real one -/
def px_W : List Cond := lw_tbl.filter goodWord
def px_zk : Cond → Bool
  | .fieldLinkNest .. => true
  | .methodLinkNest .. => true
  | .declares _ => true
  | .castable .. => true
  | .arrayOver (.object _) => true
  | _ => false
def px_Z : List Cond := lw_tbl.filter px_zk
def px_N (U : State) : Prop := ∀ c ∈ px_Z, c.before #[] U = true
theorem px_N.warm {s U : State} (hW : s.WarmedH U.vm) (h : px_N s) : px_N U := by
  intro c hc
  have hk : px_zk c = true := (List.mem_filter.mp hc).2
  have h0 := h c hc
  cases c with
  | fieldLinkNest a i b n d x => exact va_Nw.warmF hW h0
  | methodLinkNest a i x y => exact va_Nw.warmM hW h0
  | declares x => exact va_Nw.warmD hW h0
  | castable a b => exact va_Nw.warmC hW h0
  | arrayOver ty =>
    cases ty with
    | object C => exact va_AO.moved hW.alike h0
    | _ => cases hk
  | _ => cases hk
theorem px_N.same {s U : State} (hv : s.vm = U.vm) (h : px_N s) : px_N U := by
  intro c hc
  have hk : px_zk c = true := (List.mem_filter.mp hc).2
  have h0 := h c hc
  cases c with
  | fieldLinkNest a i b n d x => exact va_Nw.same rfl hv h0
  | methodLinkNest a i x y => exact va_Nw.same rfl hv h0
  | declares x => exact va_Nw.same rfl hv h0
  | castable a b => exact va_Nw.same rfl hv h0
  | arrayOver ty =>
    cases ty with
    | object C => exact va_AO.moved (by rw [hv]; exact Vm.Alike.refl _) h0
    | _ => cases hk
  | _ => cases hk
def px_v (as : List Nat) : Value → Value
  | .ref i => .ref (as.getD i 0)
  | v => v
def px_vok (n : Nat) : Value → Prop
  | .int _ => True
  | .null => True
  | .ref i => i < n
  | _ => False
theorem px_vok.le {n n' : Nat} (hn : n ≤ n') {v : Value} (h : px_vok n v) : px_vok n' v := by
  cases v with
  | ref i => exact Nat.lt_of_lt_of_le h hn
  | int x => trivial
  | null => trivial
  | _ => exact h.elim
theorem px_vok.cat {n : Nat} {v : Value} (h : px_vok n v) : v.category = 1 := by
  cases v with
  | ref i => rfl
  | int x => rfl
  | null => rfl
  | _ => exact h.elim
theorem px_v_cat {as : List Nat} {v : Value} : (px_v as v).category = v.category := by
  cases v <;> rfl
theorem px_getD {as l : List Nat} {i : Nat} (h : i < as.length) : (as ++ l).getD i 0 = as.getD i 0 := by
  simp [List.getD, List.getElem?_append_left h]
theorem px_v_app {as l : List Nat} {v : Value} (h : px_vok as.length v) : px_v (as ++ l) v = px_v as v := by
  cases v with
  | ref i => show Value.ref _ = Value.ref _; rw [px_getD h]
  | _ => rfl
def px_ce (as : List Nat) (tys : List (ClassId × FieldType)) : px_E → va_E → Prop
  | .inl (ty, n, f), e => ∃ (cA : ClassId) (t0 : Nat), tys[t0]? = some (cA, ty) ∧ e = .inl (cA, n, .inl f)
  | .inr (.inl (ty, n, f)), e => ∃ (cA : ClassId) (t0 : Nat), tys[t0]? = some (cA, ty) ∧ e = .inl (cA, n, .inr (.inr (.inr (.inr (fun j => (f j).map (fun i => as.getD i 0))))))
  | .inr (.inr (ci, fs)), e => e = .inr (ci, fs.map (px_v as))
def px_eok (n : Nat) : px_E → Prop
  | .inl _ => True
  | .inr (.inl (_, _, f)) => ∀ j i, f j = some i → i < n
  | .inr (.inr (_, fs)) => ∀ v ∈ fs, px_vok n v
def px_R (as : List Nat) (ws : va_W) (tys : List (ClassId × FieldType)) (w : px_H) : Prop :=
  ws.map Prod.fst = as ∧ as.length = w.1 ∧ ∀ i c, w.2 i = some c → px_eok w.1 c ∧ ∃ e, ws[i]? = some (as.getD i 0, e) ∧ px_ce as tys c e
theorem px_eok.le {n n' : Nat} (hn : n ≤ n') {c : px_E} (h : px_eok n c) : px_eok n' c := by
  rcases c with ⟨ty, k, f⟩ | ⟨ty, k, f⟩ | ⟨ci, fs⟩
  · exact h
  · exact fun j i hj => Nat.lt_of_lt_of_le (h j i hj) hn
  · exact fun v hv => (h v hv).le hn
theorem px_ce.app {as l : List Nat} {tys tl : List (ClassId × FieldType)} {c : px_E} {e : va_E} (hok : px_eok as.length c) (h : px_ce as tys c e) : px_ce (as ++ l) (tys ++ tl) c e := by
  rcases c with ⟨ty, k, f⟩ | ⟨ty, k, f⟩ | ⟨ci, fs⟩
  · obtain ⟨cA, t0, h1, h2⟩ := h
    exact ⟨cA, t0, by rw [List.getElem?_append_left (List.getElem?_eq_some_iff.mp h1).1]; exact h1, h2⟩
  · obtain ⟨cA, t0, h1, h2⟩ := h
    refine ⟨cA, t0, by rw [List.getElem?_append_left (List.getElem?_eq_some_iff.mp h1).1]; exact h1, ?_⟩
    rw [h2]
    congr 7
    funext j
    cases hj : f j with
    | none => rfl
    | some i => exact congrArg some (px_getD (hok j i hj)).symm
  · show e = _
    rw [show e = .inr (ci, fs.map (px_v as)) from h]
    congr 2
    exact List.map_congr_left (fun v hv => (px_v_app (hok v hv)).symm)
theorem px_R.lt {as : List Nat} {ws : va_W} {tys : List (ClassId × FieldType)} {w : px_H} (h : px_R as ws tys w) {i : Nat} {c : px_E} (hc : w.2 i = some c) : i < w.1 := by
  obtain ⟨-, e, he, -⟩ := h.2.2 i c hc
  rw [← h.2.1, ← h.1, List.length_map]
  exact (List.getElem?_eq_some_iff.mp he).1
theorem px_R.set {as : List Nat} {ws : va_W} {tys : List (ClassId × FieldType)} {w : px_H} (h : px_R as ws tys w) {q : Nat} {c0 c : px_E} {e : va_E} (h0 : w.2 q = some c0) (hok : px_eok w.1 c) (hc : px_ce as tys c e) : px_R as (ws.set q (as.getD q 0, e)) tys (px_set w q c) := by
  have hq : q < ws.length := by
    have := h.lt h0
    rw [← h.2.1, ← h.1, List.length_map] at this
    exact this
  refine ⟨?_, h.2.1, fun i c' hc' => ?_⟩
  · rw [List.map_set, h.1]
    refine List.ext_getElem? fun n => ?_
    rw [List.getElem?_set]
    by_cases hn : q = n
    · subst hn
      have : q < as.length := by rw [← h.1, List.length_map]; exact hq
      simp [List.getD, this]
    · simp [hn]
  · by_cases hi : i = q
    · subst hi
      have : some c = some c' := by simpa [px_set] using hc'
      cases this
      exact ⟨hok, e, by rw [List.getElem?_set_self hq], hc⟩
    · have : w.2 i = some c' := by simpa [px_set, hi] using hc'
      obtain ⟨g1, e', g2, g3⟩ := h.2.2 i c' this
      exact ⟨g1, e', by rw [List.getElem?_set_ne (fun x => hi x.symm)]; exact g2, g3⟩
theorem px_R.add {as : List Nat} {ws : va_W} {tys tl : List (ClassId × FieldType)} {w : px_H} (h : px_R as ws tys w) {q : Nat} {c : px_E} {e : va_E} (hok : px_eok w.1 c) (hc : px_ce (as ++ [q]) (tys ++ tl) c e) : px_R (as ++ [q]) (ws ++ [(q, e)]) (tys ++ tl) (px_add w c) := by
  have hl : ws.length = w.1 := by rw [← h.2.1, ← h.1, List.length_map]
  refine ⟨by rw [List.map_append, h.1]; rfl, by rw [List.length_append, h.2.1]; rfl, fun i c' hc' => ?_⟩
  by_cases hi : i = w.1
  · subst hi
    have : some c = some c' := by simpa [px_add] using hc'
    cases this
    refine ⟨hok.le (Nat.le_succ _), e, ?_, hc⟩
    rw [List.getElem?_append_right (by omega), hl, Nat.sub_self]
    simp [List.getD, ← h.2.1]
  · have h2 : w.2 i = some c' := by simpa [px_add, hi] using hc'
    obtain ⟨g1, e', g2, g3⟩ := h.2.2 i c' h2
    have hlt := h.lt h2
    refine ⟨g1.le (Nat.le_succ _), e', ?_, px_ce.app (by rw [h.2.1]; exact g1) g3⟩
    rw [List.getElem?_append_left (by omega), g2, px_getD (by rw [h.2.1]; exact hlt)]
/-- the locals, as the kit lists them -/
def px_lv (as : List Nat) (L : px_L) : List (Nat × Value) := (List.range L.length).filterMap (fun j => match L[j]? with | some (some v) => some (j, px_v as v) | _ => none)
theorem px_lv_mem {as : List Nat} {L : px_L} {j : Nat} {x : Value} : (j, x) ∈ px_lv as L ↔ ∃ v, L[j]? = some (some v) ∧ x = px_v as v := by
  constructor
  · intro h
    obtain ⟨i, hi, hx⟩ := List.mem_filterMap.mp h
    cases hL : L[i]? with
    | none => simp [hL] at hx
    | some o =>
      cases o with
      | none => simp [hL] at hx
      | some v =>
        simp only [hL] at hx
        cases hx
        exact ⟨v, hL, rfl⟩
  · rintro ⟨v, hL, rfl⟩
    refine List.mem_filterMap.mpr ⟨j, List.mem_range.mpr (List.getElem?_eq_some_iff.mp hL).1, ?_⟩
    simp [hL]
def px_lo (as : List Nat) (L : px_L) (ls : Array Slot) (n : Nat) : Prop := lv_has ls n (px_lv as L) ∧ L.length = n ∧ ∀ (j : Nat) (v : Value), L[j]? = some (some v) → px_vok as.length v
theorem px_lo.at {as : List Nat} {L : px_L} {ls : Array Slot} {n j : Nat} {v : Value} (h : px_lo as L ls n) (hj : L[j]? = some (some v)) : ls[j]? = some (.val (px_v as v)) := h.1.2.2 (j, px_v as v) (px_lv_mem.mpr ⟨v, hj, rfl⟩)
theorem px_lo.app {as l : List Nat} {L : px_L} {ls : Array Slot} {n : Nat} (h : px_lo as L ls n) : px_lo (as ++ l) L ls n := by
  refine ⟨⟨h.1.1, h.1.2.1, fun q hq => ?_⟩, h.2.1, fun j v hj => (h.2.2 j v hj).le (by simp)⟩
  obtain ⟨j, x⟩ := q
  obtain ⟨v, hv, rfl⟩ := px_lv_mem.mp hq
  rw [px_v_app (h.2.2 j v hv)]
  exact h.at hv
theorem px_lo.pre {as as' : List Nat} {L : px_L} {ls : Array Slot} {n : Nat} (hp : as <+: as') (h : px_lo as L ls n) : px_lo as' L ls n := by
  obtain ⟨t, rfl⟩ := hp
  exact h.app
/-- after a store -/
theorem px_lo.store {as : List Nat} {L : px_L} {ls ls' : Array Slot} {n i : Nat} {v : Value} (h : px_lo as L ls n) (hi : i < L.length) (hv : px_vok as.length v)
    (h' : lv_has ls' n ((i, px_v as v) :: (px_lv as L).filter (fun q => !(q.1 == i) && !(q.1 + 1 == i && q.2.category == 2)))) : px_lo as (L.set i (some v)) ls' n := by
  refine ⟨⟨h'.1, h'.2.1, fun q hq => ?_⟩, by rw [List.length_set]; exact h.2.1, fun j u hj => ?_⟩
  · obtain ⟨j, x⟩ := q
    obtain ⟨u, hu, rfl⟩ := px_lv_mem.mp hq
    by_cases hj : j = i
    · subst hj
      rw [List.getElem?_set_self hi] at hu
      cases hu
      exact h'.2.2 _ List.mem_cons_self
    · rw [List.getElem?_set_ne (fun x => hj x.symm)] at hu
      refine h'.2.2 _ (List.mem_cons_of_mem _ (List.mem_filter.mpr ⟨px_lv_mem.mpr ⟨u, hu, rfl⟩, ?_⟩))
      have hc : (px_v as u).category = 1 := by rw [px_v_cat]; exact (h.2.2 j u hu).cat
      simp [hj, hc]
  · by_cases hj' : j = i
    · subst hj'
      rw [List.getElem?_set_self hi] at hj
      cases hj
      exact hv
    · rw [List.getElem?_set_ne (fun x => hj' x.symm)] at hj
      exact h.2.2 j u hj
def px_sok (n : Nat) (st : List Value) : Prop := ∀ v ∈ st, px_vok n v
theorem px_sok.map {as l : List Nat} {st : List Value} (h : px_sok as.length st) : st.map (px_v (as ++ l)) = st.map (px_v as) := List.map_congr_left (fun v hv => px_v_app (h v hv))
theorem px_sok.cat {n : Nat} {as : List Nat} {st : List Value} (h : px_sok n st) : ((st.map (px_v as)).map fun v => v.category).sum = st.length := by
  induction st with
  | nil => rfl
  | cons v st ih =>
    have h1 := (h v List.mem_cons_self).cat
    have h2 := ih (fun u hu => h u (List.mem_cons_of_mem _ hu))
    simp only [List.map_cons, List.sum_cons, List.length_cons, px_v_cat, h1]
    rw [h2]
    omega
end
section
/-! one instruction of the real machine for one step of the pure one -/
def px_rm (d : Nat) (m : px_M) : Room := { frames := d + 1, cells := px_mc m, slots := 320 * px_mc m, locals := 40 * (d + 1) }
def px_C (m : px_M) (p : Program) (s : State) (mi : MethodId) (args : Array Value) (meth : Method) (c : Code) (A : Nat → Prop) : Prop :=
  p.tables.exec = Jvm.exec ∧ c.code = px_mb m ∧ c.maxLocals = px_ml m ∧ s.vm.findClass (px_my m).cls = some mi.cls ∧ (∀ w ∈ px_W, w.before args s = true) ∧ px_N s ∧ meth.sig.returnType = px_mr m ∧ meth.locks = false ∧ meth.name = (px_my m).name ∧ (∀ q, s.heap.size ≤ q → A q)
def px_B (s : State) (A : Nat → Prop) (D : va_G) (as0 as : List Nat) (ws : va_W) (tys : List (ClassId × FieldType)) (H : Heap) (locs : List Loc) (ls : Array Slot) (n : Nat) (L : px_L) (st : List Value) (w : px_H) : Prop :=
  va_K D vwCl tys s ∧ va_P D vwCl ws H ∧ va_D A ws ∧ va_S A s.heap H locs ∧ px_R as ws tys w ∧ as0 <+: as ∧ px_lo as L ls n ∧ px_sok as.length st
def px_Qc (D : va_G) (as0 : List Nat) (Q : Option Value → px_H → Prop) (A : Nat → Prop) : Array Value → State → Outcome → State → Prop := fun _ st oc t =>
  (∃ (r : Option Value) (w' : px_H) (as' : List Nat) (ws' : va_W) (tys' : List (ClassId × FieldType)), oc = .returned (r.map (px_v as')) ∧ Q r w' ∧ as0 <+: as' ∧ (∀ v, r = some v → px_vok as'.length v) ∧ px_R as' ws' tys' w' ∧ va_P D vwCl ws' t.heap ∧ va_K D vwCl tys' t ∧ va_D A ws') ∧ va_F A st t
def px_SW (d : Nat) (m : px_M) (pc : Nat) (L : px_L) (st : List Value) (w : px_H) (k : Nat) (Q : Option Value → px_H → Prop) : Prop :=
  ∀ (p : Program) (l : Launch) (e : Env) (s : State) (mi : MethodId) (args : Array Value) (below : List Frame) (meth : Method) (c : Code) (A : Nat → Prop) (D : va_G) (as0 as : List Nat) (ws : va_W) (tys : List (ClassId × FieldType)) (H : Heap) (locs : List Loc) (ls : Array Slot),
    px_C m p s mi args meth c A → px_B s A D as0 as ws tys H locs ls (px_ml m) L st w → k ≤ px_mc m →
    W p l e (px_rm d m) s mi args below meth c H locs k (320 * k) (MQ below (px_Qc D as0 Q A) args s (px_mc m) (320 * px_mc m) A) (F0 mi pc ls (st.map (px_v as)))
section PXQ
variable {s : State} {A : Nat → Prop} {D : va_G} {as0 as : List Nat} {ws : va_W} {tys : List (ClassId × FieldType)} {H : Heap} {locs : List Loc} {ls : Array Slot} {n : Nat} {L : px_L} {st st' : List Value} {w : px_H}
theorem px_sok.nil {n : Nat} : px_sok n [] := fun _ h => by cases h
theorem px_sok.cons {n : Nat} {v : Value} {st : List Value} (hv : px_vok n v) (h : px_sok n st) : px_sok n (v :: st) := fun u hu => by
  rcases List.mem_cons.mp hu with rfl | hu
  · exact hv
  · exact h u hu
theorem px_sok.hd {n : Nat} {v : Value} {st : List Value} (h : px_sok n (v :: st)) : px_vok n v := h v List.mem_cons_self
theorem px_sok.tl {n : Nat} {v : Value} {st : List Value} (h : px_sok n (v :: st)) : px_sok n st := fun u hu => h u (List.mem_cons_of_mem _ hu)
theorem px_sok.i {n : Nat} {x : Int32} {st : List Value} (h : px_sok n st) : px_sok n (.int x :: st) := px_sok.cons trivial h
theorem px_B.sk (B : px_B s A D as0 as ws tys H locs ls n L st w) : px_sok as.length st := B.2.2.2.2.2.2.2
theorem px_B.lo (B : px_B s A D as0 as ws tys H locs ls n L st w) : px_lo as L ls n := B.2.2.2.2.2.2.1
theorem px_B.r (B : px_B s A D as0 as ws tys H locs ls n L st w) : px_R as ws tys w := B.2.2.2.2.1
theorem px_B.toS (B : px_B s A D as0 as ws tys H locs ls n L st w) (h : px_sok as.length st') : px_B s A D as0 as ws tys H locs ls n L st' w := ⟨B.1, B.2.1, B.2.2.1, B.2.2.2.1, B.2.2.2.2.1, B.2.2.2.2.2.1, B.2.2.2.2.2.2.1, h⟩
theorem px_B.toL {ls' : Array Slot} {L' : px_L} (B : px_B s A D as0 as ws tys H locs ls n L st w) (hl : px_lo as L' ls' n) (h : px_sok as.length st') : px_B s A D as0 as ws tys H locs ls' n L' st' w := ⟨B.1, B.2.1, B.2.2.1, B.2.2.2.1, B.2.2.2.2.1, B.2.2.2.2.2.1, hl, h⟩
end PXQ
section PXU
variable {d : Nat} {m : px_M} {pc k : Nat} {L : px_L} {st : List Value} {w : px_H} {Q : Option Value → px_H → Prop}
theorem px_q_iconst {n : Int} (hd : decode (px_mb m) pc = .ok (.iconst n, 1)) (h : px_SW d m (pc + 1) L (.int (Int32.ofInt n) :: st) w k Q) : px_SW d m pc L st w k Q := by
  intro p l e s mi args below meth c A D as0 as ws tys H locs ls C B hk
  exact lv_iconst C.1 C.2.1 hd rfl (h p l e s mi args below meth c A D as0 as ws tys H locs ls C (B.toS B.sk.i) hk)
theorem px_q_bipush {n : Int} (hd : decode (px_mb m) pc = .ok (.bipush n, 2)) (h : px_SW d m (pc + 2) L (.int ((Int8.ofInt n).toInt32) :: st) w k Q) : px_SW d m pc L st w k Q := by
  intro p l e s mi args below meth c A D as0 as ws tys H locs ls C B hk
  exact lv_bipush C.1 C.2.1 hd rfl (h p l e s mi args below meth c A D as0 as ws tys H locs ls C (B.toS B.sk.i) hk)
theorem px_q_sipush {n : Int} (hd : decode (px_mb m) pc = .ok (.sipush n, 3)) (h : px_SW d m (pc + 3) L (.int ((Int16.ofInt n).toInt32) :: st) w k Q) : px_SW d m pc L st w k Q := by
  intro p l e s mi args below meth c A D as0 as ws tys H locs ls C B hk
  exact lv_sipush C.1 C.2.1 hd rfl (h p l e s mi args below meth c A D as0 as ws tys H locs ls C (B.toS B.sk.i) hk)
theorem px_q_null (hd : decode (px_mb m) pc = .ok (.aconst_null, 1)) (h : px_SW d m (pc + 1) L (.null :: st) w k Q) : px_SW d m pc L st w k Q := by
  intro p l e s mi args below meth c A D as0 as ws tys H locs ls C B hk
  exact lv_null C.1 C.2.1 hd (h p l e s mi args below meth c A D as0 as ws tys H locs ls C (B.toS (px_sok.cons trivial B.sk)) hk)
theorem px_q_ldc {idx : Nat} {v : Int32} (hd : decode (px_mb m) pc = .ok (.ldc idx, 2)) (hc : Cond.constant (px_my m).cls idx v ∈ px_W) (h : px_SW d m (pc + 2) L (.int v :: st) w k Q) : px_SW d m pc L st w k Q := by
  intro p l e s mi args below meth c A D as0 as ws tys H locs ls C B hk
  exact lv_ldc C.1 C.2.1 C.2.2.2.1 (C.2.2.2.2.1 _ hc) hd (h p l e s mi args below meth c A D as0 as ws tys H locs ls C (B.toS B.sk.i) hk)
theorem px_q_ldc_w {idx : Nat} {v : Int32} (hd : decode (px_mb m) pc = .ok (.ldc_w idx, 3)) (hc : Cond.constant (px_my m).cls idx v ∈ px_W) (h : px_SW d m (pc + 3) L (.int v :: st) w k Q) : px_SW d m pc L st w k Q := by
  intro p l e s mi args below meth c A D as0 as ws tys H locs ls C B hk
  exact lv_ldcw C.1 C.2.1 C.2.2.2.1 (C.2.2.2.2.1 _ hc) hd (h p l e s mi args below meth c A D as0 as ws tys H locs ls C (B.toS B.sk.i) hk)
theorem px_q_iload {j : Nat} {x : Int32} (hd : decode (px_mb m) pc = .ok (.iload j, 2)) (hL : L[j]? = some (some (.int x))) (h : px_SW d m (pc + 2) L (.int x :: st) w k Q) : px_SW d m pc L st w k Q := by
  intro p l e s mi args below meth c A D as0 as ws tys H locs ls C B hk
  exact lv_iload C.1 C.2.1 hd (B.lo.at hL) (h p l e s mi args below meth c A D as0 as ws tys H locs ls C (B.toS B.sk.i) hk)
theorem px_q_iload_n {j : Fin 4} {x : Int32} (hd : decode (px_mb m) pc = .ok (.iload_n j, 1)) (hL : L[j.val]? = some (some (.int x))) (h : px_SW d m (pc + 1) L (.int x :: st) w k Q) : px_SW d m pc L st w k Q := by
  intro p l e s mi args below meth c A D as0 as ws tys H locs ls C B hk
  exact lv_iload_n C.1 C.2.1 hd rfl (B.lo.at hL) (h p l e s mi args below meth c A D as0 as ws tys H locs ls C (B.toS B.sk.i) hk)
theorem px_q_aload {j : Nat} {v : Value} (hd : decode (px_mb m) pc = .ok (.aload j, 2)) (hL : L[j]? = some (some v)) (hv : px_isr v = true) (h : px_SW d m (pc + 2) L (v :: st) w k Q) : px_SW d m pc L st w k Q := by
  intro p l e s mi args below meth c A D as0 as ws tys H locs ls C B hk
  have hok := B.lo.2.2 _ _ hL
  have hl := B.lo.at hL
  have h := (h p l e s mi args below meth c A D as0 as ws tys H locs ls C (B.toS (px_sok.cons hok B.sk)) hk)
  cases v with
  | ref i => exact lv_aload C.1 C.2.1 hd hl h
  | null => exact lv_aloadN C.1 C.2.1 hd hl h
  | _ => cases hv
theorem px_q_aload_n {j : Fin 4} {v : Value} (hd : decode (px_mb m) pc = .ok (.aload_n j, 1)) (hL : L[j.val]? = some (some v)) (hv : px_isr v = true) (h : px_SW d m (pc + 1) L (v :: st) w k Q) : px_SW d m pc L st w k Q := by
  intro p l e s mi args below meth c A D as0 as ws tys H locs ls C B hk
  have hok := B.lo.2.2 _ _ hL
  have hl := B.lo.at hL
  have h := (h p l e s mi args below meth c A D as0 as ws tys H locs ls C (B.toS (px_sok.cons hok B.sk)) hk)
  cases v with
  | ref i => exact lv_aload_n C.1 C.2.1 hd rfl hl h
  | null => exact lv_aload_nN C.1 C.2.1 hd rfl hl h
  | _ => cases hv
theorem px_q_istore {j : Nat} {x : Int32} (hd : decode (px_mb m) pc = .ok (.istore j, 2)) (hj : j < L.length) (h : px_SW d m (pc + 2) (L.set j (some (.int x))) st w k Q) : px_SW d m pc L (.int x :: st) w k Q := by
  intro p l e s mi args below meth c A D as0 as ws tys H locs ls C B hk
  exact lv_istore C.1 C.2.1 hd B.lo.1 (by rw [← B.lo.2.1]; exact hj) rfl (fun ls' h' => h p l e s mi args below meth c A D as0 as ws tys H locs ls' C (B.toL (B.lo.store (v := .int x) hj trivial h') B.sk.tl) hk)
theorem px_q_istore_n {j : Fin 4} {x : Int32} (hd : decode (px_mb m) pc = .ok (.istore_n j, 1)) (hj : j.val < L.length) (h : px_SW d m (pc + 1) (L.set j.val (some (.int x))) st w k Q) : px_SW d m pc L (.int x :: st) w k Q := by
  intro p l e s mi args below meth c A D as0 as ws tys H locs ls C B hk
  exact lv_istore_n C.1 C.2.1 hd rfl B.lo.1 (by rw [← B.lo.2.1]; exact hj) rfl (fun ls' h' => h p l e s mi args below meth c A D as0 as ws tys H locs ls' C (B.toL (B.lo.store (v := .int x) hj trivial h') B.sk.tl) hk)
theorem px_q_astore {j : Nat} {v : Value} (hd : decode (px_mb m) pc = .ok (.astore j, 2)) (hj : j < L.length) (hv : px_isr v = true) (h : px_SW d m (pc + 2) (L.set j (some v)) st w k Q) : px_SW d m pc L (v :: st) w k Q := by
  intro p l e s mi args below meth c A D as0 as ws tys H locs ls C B hk
  have hok := B.sk.hd
  cases v with
  | ref i => exact lv_astore C.1 C.2.1 hd B.lo.1 (by rw [← B.lo.2.1]; exact hj) rfl (fun ls' h' => h p l e s mi args below meth c A D as0 as ws tys H locs ls' C (B.toL (B.lo.store (v := .ref i) hj hok h') B.sk.tl) hk)
  | null => exact lv_astoreN C.1 C.2.1 hd B.lo.1 (by rw [← B.lo.2.1]; exact hj) rfl (fun ls' h' => h p l e s mi args below meth c A D as0 as ws tys H locs ls' C (B.toL (B.lo.store (v := .null) hj hok h') B.sk.tl) hk)
  | _ => cases hv
theorem px_q_astore_n {j : Fin 4} {v : Value} (hd : decode (px_mb m) pc = .ok (.astore_n j, 1)) (hj : j.val < L.length) (hv : px_isr v = true) (h : px_SW d m (pc + 1) (L.set j.val (some v)) st w k Q) : px_SW d m pc L (v :: st) w k Q := by
  intro p l e s mi args below meth c A D as0 as ws tys H locs ls C B hk
  have hok := B.sk.hd
  cases v with
  | ref i => exact lv_astore_n C.1 C.2.1 hd rfl B.lo.1 (by rw [← B.lo.2.1]; exact hj) rfl (fun ls' h' => h p l e s mi args below meth c A D as0 as ws tys H locs ls' C (B.toL (B.lo.store (v := .ref i) hj hok h') B.sk.tl) hk)
  | null => exact lv_astore_nN C.1 C.2.1 hd rfl B.lo.1 (by rw [← B.lo.2.1]; exact hj) rfl (fun ls' h' => h p l e s mi args below meth c A D as0 as ws tys H locs ls' C (B.toL (B.lo.store (v := .null) hj hok h') B.sk.tl) hk)
  | _ => cases hv
theorem px_q_iinc {j : Nat} {n : Int} {x : Int32} (hd : decode (px_mb m) pc = .ok (.iinc j n, 3)) (hL : L[j]? = some (some (.int x))) (h : px_SW d m (pc + 3) (L.set j (some (.int (x + Int32.ofInt n)))) st w k Q) : px_SW d m pc L st w k Q := by
  intro p l e s mi args below meth c A D as0 as ws tys H locs ls C B hk
  have hj : j < L.length := (List.getElem?_eq_some_iff.mp hL).1
  obtain ⟨i, hi⟩ := List.getElem?_of_mem (px_lv_mem.mpr ⟨_, hL, rfl⟩ : (j, px_v as (.int x)) ∈ px_lv as L)
  exact lv_iinc C.1 C.2.1 hd B.lo.1 hi rfl (by rw [← B.lo.2.1]; exact hj) rfl (fun ls' h' => h p l e s mi args below meth c A D as0 as ws tys H locs ls' C (B.toL (B.lo.store (v := .int (x + Int32.ofInt n)) hj trivial h') B.sk) hk)
theorem px_q_iadd {x y : Int32} (hd : decode (px_mb m) pc = .ok (.iadd, 1)) (h : px_SW d m (pc + 1) L (.int (x + y) :: st) w k Q) : px_SW d m pc L (.int y :: .int x :: st) w k Q := by
  intro p l e s mi args below meth c A D as0 as ws tys H locs ls C B hk
  exact lv_iadd C.1 C.2.1 hd (h p l e s mi args below meth c A D as0 as ws tys H locs ls C (B.toS B.sk.tl.tl.i) hk)
theorem px_q_isub {x y : Int32} (hd : decode (px_mb m) pc = .ok (.isub, 1)) (h : px_SW d m (pc + 1) L (.int (x - y) :: st) w k Q) : px_SW d m pc L (.int y :: .int x :: st) w k Q := by
  intro p l e s mi args below meth c A D as0 as ws tys H locs ls C B hk
  exact lv_isub C.1 C.2.1 hd (h p l e s mi args below meth c A D as0 as ws tys H locs ls C (B.toS B.sk.tl.tl.i) hk)
theorem px_q_imul {x y : Int32} (hd : decode (px_mb m) pc = .ok (.imul, 1)) (h : px_SW d m (pc + 1) L (.int (x * y) :: st) w k Q) : px_SW d m pc L (.int y :: .int x :: st) w k Q := by
  intro p l e s mi args below meth c A D as0 as ws tys H locs ls C B hk
  exact lv_imul C.1 C.2.1 hd (h p l e s mi args below meth c A D as0 as ws tys H locs ls C (B.toS B.sk.tl.tl.i) hk)
theorem px_q_iand {x y : Int32} (hd : decode (px_mb m) pc = .ok (.iand, 1)) (h : px_SW d m (pc + 1) L (.int (x &&& y) :: st) w k Q) : px_SW d m pc L (.int y :: .int x :: st) w k Q := by
  intro p l e s mi args below meth c A D as0 as ws tys H locs ls C B hk
  exact lv_iand C.1 C.2.1 hd (h p l e s mi args below meth c A D as0 as ws tys H locs ls C (B.toS B.sk.tl.tl.i) hk)
theorem px_q_ior {x y : Int32} (hd : decode (px_mb m) pc = .ok (.ior, 1)) (h : px_SW d m (pc + 1) L (.int (x ||| y) :: st) w k Q) : px_SW d m pc L (.int y :: .int x :: st) w k Q := by
  intro p l e s mi args below meth c A D as0 as ws tys H locs ls C B hk
  exact lv_ior C.1 C.2.1 hd (h p l e s mi args below meth c A D as0 as ws tys H locs ls C (B.toS B.sk.tl.tl.i) hk)
theorem px_q_ixor {x y : Int32} (hd : decode (px_mb m) pc = .ok (.ixor, 1)) (h : px_SW d m (pc + 1) L (.int (x ^^^ y) :: st) w k Q) : px_SW d m pc L (.int y :: .int x :: st) w k Q := by
  intro p l e s mi args below meth c A D as0 as ws tys H locs ls C B hk
  exact lv_ixor C.1 C.2.1 hd (h p l e s mi args below meth c A D as0 as ws tys H locs ls C (B.toS B.sk.tl.tl.i) hk)
theorem px_q_ishl {x y : Int32} (hd : decode (px_mb m) pc = .ok (.ishl, 1)) (h : px_SW d m (pc + 1) L (.int (x <<< (y &&& 31)) :: st) w k Q) : px_SW d m pc L (.int y :: .int x :: st) w k Q := by
  intro p l e s mi args below meth c A D as0 as ws tys H locs ls C B hk
  exact lv_ishl C.1 C.2.1 hd (h p l e s mi args below meth c A D as0 as ws tys H locs ls C (B.toS B.sk.tl.tl.i) hk)
theorem px_q_ishr {x y : Int32} (hd : decode (px_mb m) pc = .ok (.ishr, 1)) (h : px_SW d m (pc + 1) L (.int (x >>> (y &&& 31)) :: st) w k Q) : px_SW d m pc L (.int y :: .int x :: st) w k Q := by
  intro p l e s mi args below meth c A D as0 as ws tys H locs ls C B hk
  exact lv_ishr C.1 C.2.1 hd (h p l e s mi args below meth c A D as0 as ws tys H locs ls C (B.toS B.sk.tl.tl.i) hk)
theorem px_q_iushr {x y : Int32} (hd : decode (px_mb m) pc = .ok (.iushr, 1)) (h : px_SW d m (pc + 1) L (.int ((x.toUInt32 >>> (y.toUInt32 &&& Int32.toUInt32 31)).toInt32) :: st) w k Q) : px_SW d m pc L (.int y :: .int x :: st) w k Q := by
  intro p l e s mi args below meth c A D as0 as ws tys H locs ls C B hk
  exact lv_iushr C.1 C.2.1 hd rfl (h p l e s mi args below meth c A D as0 as ws tys H locs ls C (B.toS B.sk.tl.tl.i) hk)
theorem px_q_idiv {x y : Int32} (hd : decode (px_mb m) pc = .ok (.idiv, 1)) (hy : ¬ y = 0) (h : px_SW d m (pc + 1) L (.int (x / y) :: st) w k Q) : px_SW d m pc L (.int y :: .int x :: st) w k Q := by
  intro p l e s mi args below meth c A D as0 as ws tys H locs ls C B hk
  exact lv_idiv C.1 C.2.1 hd hy (h p l e s mi args below meth c A D as0 as ws tys H locs ls C (B.toS B.sk.tl.tl.i) hk)
theorem px_q_irem {x y : Int32} (hd : decode (px_mb m) pc = .ok (.irem, 1)) (hy : ¬ y = 0) (h : px_SW d m (pc + 1) L (.int (x - x / y * y) :: st) w k Q) : px_SW d m pc L (.int y :: .int x :: st) w k Q := by
  intro p l e s mi args below meth c A D as0 as ws tys H locs ls C B hk
  exact lv_irem C.1 C.2.1 hd hy (h p l e s mi args below meth c A D as0 as ws tys H locs ls C (B.toS B.sk.tl.tl.i) hk)
theorem px_q_ineg {x : Int32} (hd : decode (px_mb m) pc = .ok (.ineg, 1)) (h : px_SW d m (pc + 1) L (.int (-x) :: st) w k Q) : px_SW d m pc L (.int x :: st) w k Q := by
  intro p l e s mi args below meth c A D as0 as ws tys H locs ls C B hk
  exact lv_ineg C.1 C.2.1 hd (h p l e s mi args below meth c A D as0 as ws tys H locs ls C (B.toS B.sk.tl.i) hk)
theorem px_q_i2b {x : Int32} (hd : decode (px_mb m) pc = .ok (.i2b, 1)) (h : px_SW d m (pc + 1) L (.int (x.toInt8.toInt32) :: st) w k Q) : px_SW d m pc L (.int x :: st) w k Q := by
  intro p l e s mi args below meth c A D as0 as ws tys H locs ls C B hk
  exact lv_i2b C.1 C.2.1 hd rfl (h p l e s mi args below meth c A D as0 as ws tys H locs ls C (B.toS B.sk.tl.i) hk)
theorem px_q_i2s {x : Int32} (hd : decode (px_mb m) pc = .ok (.i2s, 1)) (h : px_SW d m (pc + 1) L (.int (x.toInt16.toInt32) :: st) w k Q) : px_SW d m pc L (.int x :: st) w k Q := by
  intro p l e s mi args below meth c A D as0 as ws tys H locs ls C B hk
  exact lv_i2s C.1 C.2.1 hd rfl (h p l e s mi args below meth c A D as0 as ws tys H locs ls C (B.toS B.sk.tl.i) hk)
theorem px_q_dup {v : Value} (hd : decode (px_mb m) pc = .ok (.dup, 1)) (h : px_SW d m (pc + 1) L (v :: v :: st) w k Q) : px_SW d m pc L (v :: st) w k Q := by
  intro p l e s mi args below meth c A D as0 as ws tys H locs ls C B hk
  exact lv_dup C.1 C.2.1 hd (by rw [px_v_cat]; exact B.sk.hd.cat) (h p l e s mi args below meth c A D as0 as ws tys H locs ls C (B.toS (px_sok.cons B.sk.hd B.sk)) hk)
theorem px_q_pop {v : Value} (hd : decode (px_mb m) pc = .ok (.pop, 1)) (h : px_SW d m (pc + 1) L st w k Q) : px_SW d m pc L (v :: st) w k Q := by
  intro p l e s mi args below meth c A D as0 as ws tys H locs ls C B hk
  exact lv_pop C.1 C.2.1 hd (by rw [px_v_cat]; exact B.sk.hd.cat) (h p l e s mi args below meth c A D as0 as ws tys H locs ls C (B.toS B.sk.tl) hk)
theorem px_q_goto {off : Int} {t : Nat} (hd : decode (px_mb m) pc = .ok (.goto off, 3)) (ht : (pc : Int) + off = (t : Int)) (h : px_SW d m t L st w k Q) : px_SW d m pc L st w k Q := by
  intro p l e s mi args below meth c A D as0 as ws tys H locs ls C B hk
  exact lv_goto C.1 C.2.1 hd ht (h p l e s mi args below meth c A D as0 as ws tys H locs ls C (B) hk)
theorem px_q_if_eq {x : Int32} {off : Int} {t : Nat} (hd : decode (px_mb m) pc = .ok (.ifCond .eq off, 3)) (ht : (pc : Int) + off = (t : Int)) (ha : x = 0 → px_SW d m t L st w k Q) (hb : ¬ x = 0 → px_SW d m (pc + 3) L st w k Q) : px_SW d m pc L (.int x :: st) w k Q := by
  intro p l e s mi args below meth c A D as0 as ws tys H locs ls C B hk
  exact lv_if_eq C.1 C.2.1 hd ht (fun hc => ha hc p l e s mi args below meth c A D as0 as ws tys H locs ls C (B.toS B.sk.tl) hk) (fun hc => hb hc p l e s mi args below meth c A D as0 as ws tys H locs ls C (B.toS B.sk.tl) hk)
theorem px_q_icmp_eq {x y : Int32} {off : Int} {t : Nat} (hd : decode (px_mb m) pc = .ok (.if_icmp .eq off, 3)) (ht : (pc : Int) + off = (t : Int)) (ha : x = y → px_SW d m t L st w k Q) (hb : ¬ x = y → px_SW d m (pc + 3) L st w k Q) : px_SW d m pc L (.int y :: .int x :: st) w k Q := by
  intro p l e s mi args below meth c A D as0 as ws tys H locs ls C B hk
  exact lv_icmp_eq C.1 C.2.1 hd ht (fun hc => ha hc p l e s mi args below meth c A D as0 as ws tys H locs ls C (B.toS B.sk.tl.tl) hk) (fun hc => hb hc p l e s mi args below meth c A D as0 as ws tys H locs ls C (B.toS B.sk.tl.tl) hk)
theorem px_q_if_ne {x : Int32} {off : Int} {t : Nat} (hd : decode (px_mb m) pc = .ok (.ifCond .ne off, 3)) (ht : (pc : Int) + off = (t : Int)) (ha : ¬ x = 0 → px_SW d m t L st w k Q) (hb : x = 0 → px_SW d m (pc + 3) L st w k Q) : px_SW d m pc L (.int x :: st) w k Q := by
  intro p l e s mi args below meth c A D as0 as ws tys H locs ls C B hk
  exact lv_if_ne C.1 C.2.1 hd ht (fun hc => ha hc p l e s mi args below meth c A D as0 as ws tys H locs ls C (B.toS B.sk.tl) hk) (fun hc => hb hc p l e s mi args below meth c A D as0 as ws tys H locs ls C (B.toS B.sk.tl) hk)
theorem px_q_icmp_ne {x y : Int32} {off : Int} {t : Nat} (hd : decode (px_mb m) pc = .ok (.if_icmp .ne off, 3)) (ht : (pc : Int) + off = (t : Int)) (ha : ¬ x = y → px_SW d m t L st w k Q) (hb : x = y → px_SW d m (pc + 3) L st w k Q) : px_SW d m pc L (.int y :: .int x :: st) w k Q := by
  intro p l e s mi args below meth c A D as0 as ws tys H locs ls C B hk
  exact lv_icmp_ne C.1 C.2.1 hd ht (fun hc => ha hc p l e s mi args below meth c A D as0 as ws tys H locs ls C (B.toS B.sk.tl.tl) hk) (fun hc => hb hc p l e s mi args below meth c A D as0 as ws tys H locs ls C (B.toS B.sk.tl.tl) hk)
theorem px_q_if_lt {x : Int32} {off : Int} {t : Nat} (hd : decode (px_mb m) pc = .ok (.ifCond .lt off, 3)) (ht : (pc : Int) + off = (t : Int)) (ha : x < 0 → px_SW d m t L st w k Q) (hb : ¬ x < 0 → px_SW d m (pc + 3) L st w k Q) : px_SW d m pc L (.int x :: st) w k Q := by
  intro p l e s mi args below meth c A D as0 as ws tys H locs ls C B hk
  exact lv_if_lt C.1 C.2.1 hd ht (fun hc => ha hc p l e s mi args below meth c A D as0 as ws tys H locs ls C (B.toS B.sk.tl) hk) (fun hc => hb hc p l e s mi args below meth c A D as0 as ws tys H locs ls C (B.toS B.sk.tl) hk)
theorem px_q_icmp_lt {x y : Int32} {off : Int} {t : Nat} (hd : decode (px_mb m) pc = .ok (.if_icmp .lt off, 3)) (ht : (pc : Int) + off = (t : Int)) (ha : x < y → px_SW d m t L st w k Q) (hb : ¬ x < y → px_SW d m (pc + 3) L st w k Q) : px_SW d m pc L (.int y :: .int x :: st) w k Q := by
  intro p l e s mi args below meth c A D as0 as ws tys H locs ls C B hk
  exact lv_icmp_lt C.1 C.2.1 hd ht (fun hc => ha hc p l e s mi args below meth c A D as0 as ws tys H locs ls C (B.toS B.sk.tl.tl) hk) (fun hc => hb hc p l e s mi args below meth c A D as0 as ws tys H locs ls C (B.toS B.sk.tl.tl) hk)
theorem px_q_if_ge {x : Int32} {off : Int} {t : Nat} (hd : decode (px_mb m) pc = .ok (.ifCond .ge off, 3)) (ht : (pc : Int) + off = (t : Int)) (ha : 0 ≤ x → px_SW d m t L st w k Q) (hb : ¬ 0 ≤ x → px_SW d m (pc + 3) L st w k Q) : px_SW d m pc L (.int x :: st) w k Q := by
  intro p l e s mi args below meth c A D as0 as ws tys H locs ls C B hk
  exact lv_if_ge C.1 C.2.1 hd ht (fun hc => ha hc p l e s mi args below meth c A D as0 as ws tys H locs ls C (B.toS B.sk.tl) hk) (fun hc => hb hc p l e s mi args below meth c A D as0 as ws tys H locs ls C (B.toS B.sk.tl) hk)
theorem px_q_icmp_ge {x y : Int32} {off : Int} {t : Nat} (hd : decode (px_mb m) pc = .ok (.if_icmp .ge off, 3)) (ht : (pc : Int) + off = (t : Int)) (ha : y ≤ x → px_SW d m t L st w k Q) (hb : ¬ y ≤ x → px_SW d m (pc + 3) L st w k Q) : px_SW d m pc L (.int y :: .int x :: st) w k Q := by
  intro p l e s mi args below meth c A D as0 as ws tys H locs ls C B hk
  exact lv_icmp_ge C.1 C.2.1 hd ht (fun hc => ha hc p l e s mi args below meth c A D as0 as ws tys H locs ls C (B.toS B.sk.tl.tl) hk) (fun hc => hb hc p l e s mi args below meth c A D as0 as ws tys H locs ls C (B.toS B.sk.tl.tl) hk)
theorem px_q_if_gt {x : Int32} {off : Int} {t : Nat} (hd : decode (px_mb m) pc = .ok (.ifCond .gt off, 3)) (ht : (pc : Int) + off = (t : Int)) (ha : 0 < x → px_SW d m t L st w k Q) (hb : ¬ 0 < x → px_SW d m (pc + 3) L st w k Q) : px_SW d m pc L (.int x :: st) w k Q := by
  intro p l e s mi args below meth c A D as0 as ws tys H locs ls C B hk
  exact lv_if_gt C.1 C.2.1 hd ht (fun hc => ha hc p l e s mi args below meth c A D as0 as ws tys H locs ls C (B.toS B.sk.tl) hk) (fun hc => hb hc p l e s mi args below meth c A D as0 as ws tys H locs ls C (B.toS B.sk.tl) hk)
theorem px_q_icmp_gt {x y : Int32} {off : Int} {t : Nat} (hd : decode (px_mb m) pc = .ok (.if_icmp .gt off, 3)) (ht : (pc : Int) + off = (t : Int)) (ha : y < x → px_SW d m t L st w k Q) (hb : ¬ y < x → px_SW d m (pc + 3) L st w k Q) : px_SW d m pc L (.int y :: .int x :: st) w k Q := by
  intro p l e s mi args below meth c A D as0 as ws tys H locs ls C B hk
  exact lv_icmp_gt C.1 C.2.1 hd ht (fun hc => ha hc p l e s mi args below meth c A D as0 as ws tys H locs ls C (B.toS B.sk.tl.tl) hk) (fun hc => hb hc p l e s mi args below meth c A D as0 as ws tys H locs ls C (B.toS B.sk.tl.tl) hk)
theorem px_q_if_le {x : Int32} {off : Int} {t : Nat} (hd : decode (px_mb m) pc = .ok (.ifCond .le off, 3)) (ht : (pc : Int) + off = (t : Int)) (ha : x ≤ 0 → px_SW d m t L st w k Q) (hb : ¬ x ≤ 0 → px_SW d m (pc + 3) L st w k Q) : px_SW d m pc L (.int x :: st) w k Q := by
  intro p l e s mi args below meth c A D as0 as ws tys H locs ls C B hk
  exact lv_if_le C.1 C.2.1 hd ht (fun hc => ha hc p l e s mi args below meth c A D as0 as ws tys H locs ls C (B.toS B.sk.tl) hk) (fun hc => hb hc p l e s mi args below meth c A D as0 as ws tys H locs ls C (B.toS B.sk.tl) hk)
theorem px_q_icmp_le {x y : Int32} {off : Int} {t : Nat} (hd : decode (px_mb m) pc = .ok (.if_icmp .le off, 3)) (ht : (pc : Int) + off = (t : Int)) (ha : x ≤ y → px_SW d m t L st w k Q) (hb : ¬ x ≤ y → px_SW d m (pc + 3) L st w k Q) : px_SW d m pc L (.int y :: .int x :: st) w k Q := by
  intro p l e s mi args below meth c A D as0 as ws tys H locs ls C B hk
  exact lv_icmp_le C.1 C.2.1 hd ht (fun hc => ha hc p l e s mi args below meth c A D as0 as ws tys H locs ls C (B.toS B.sk.tl.tl) hk) (fun hc => hb hc p l e s mi args below meth c A D as0 as ws tys H locs ls C (B.toS B.sk.tl.tl) hk)
theorem px_q_ifnullN {off : Int} {t : Nat} (hd : decode (px_mb m) pc = .ok (.ifnull off, 3)) (ht : (pc : Int) + off = (t : Int)) (h : px_SW d m t L st w k Q) : px_SW d m pc L (.null :: st) w k Q := by
  intro p l e s mi args below meth c A D as0 as ws tys H locs ls C B hk
  exact lv_ifnullN C.1 C.2.1 hd ht (h p l e s mi args below meth c A D as0 as ws tys H locs ls C (B.toS B.sk.tl) hk)
theorem px_q_ifnull {off : Int} {i : Nat} (hd : decode (px_mb m) pc = .ok (.ifnull off, 3)) (h : px_SW d m (pc + 3) L st w k Q) : px_SW d m pc L (.ref i :: st) w k Q := by
  intro p l e s mi args below meth c A D as0 as ws tys H locs ls C B hk
  exact lv_ifnull C.1 C.2.1 hd (h p l e s mi args below meth c A D as0 as ws tys H locs ls C (B.toS B.sk.tl) hk)
theorem px_q_ifnonnull {off : Int} {t i : Nat} (hd : decode (px_mb m) pc = .ok (.ifnonnull off, 3)) (ht : (pc : Int) + off = (t : Int)) (h : px_SW d m t L st w k Q) : px_SW d m pc L (.ref i :: st) w k Q := by
  intro p l e s mi args below meth c A D as0 as ws tys H locs ls C B hk
  exact lv_ifnonnull C.1 C.2.1 hd ht (h p l e s mi args below meth c A D as0 as ws tys H locs ls C (B.toS B.sk.tl) hk)
theorem px_q_ifnonnullN {off : Int} (hd : decode (px_mb m) pc = .ok (.ifnonnull off, 3)) (h : px_SW d m (pc + 3) L st w k Q) : px_SW d m pc L (.null :: st) w k Q := by
  intro p l e s mi args below meth c A D as0 as ws tys H locs ls C B hk
  exact lv_ifnonnullN C.1 C.2.1 hd (h p l e s mi args below meth c A D as0 as ws tys H locs ls C (B.toS B.sk.tl) hk)
theorem px_q_tswO {dflt lo hi : Int} {offs : Array Int} {len : Nat} {x : Int32} {t : Nat} (hd : decode (px_mb m) pc = .ok (.tableswitch dflt lo hi offs, len)) (hx : x.toInt < lo ∨ hi < x.toInt) (ht : (pc : Int) + dflt = (t : Int)) (h : px_SW d m t L st w k Q) : px_SW d m pc L (.int x :: st) w k Q := by
  intro p l e s mi args below meth c A D as0 as ws tys H locs ls C B hk
  exact lv_tableOut C.1 C.2.1 hd hx ht (h p l e s mi args below meth c A D as0 as ws tys H locs ls C (B.toS B.sk.tl) hk)
theorem px_q_tswI {dflt lo hi off : Int} {offs : Array Int} {len : Nat} {x : Int32} {t : Nat} (hd : decode (px_mb m) pc = .ok (.tableswitch dflt lo hi offs, len)) (h1 : ¬ x.toInt < lo) (h2 : ¬ hi < x.toInt) (ho : offs[(x.toInt - lo).toNat]? = some off) (ht : (pc : Int) + off = (t : Int)) (h : px_SW d m t L st w k Q) : px_SW d m pc L (.int x :: st) w k Q := by
  intro p l e s mi args below meth c A D as0 as ws tys H locs ls C B hk
  exact lv_tableIn C.1 C.2.1 hd h1 h2 ho ht (h p l e s mi args below meth c A D as0 as ws tys H locs ls C (B.toS B.sk.tl) hk)
theorem px_q_lsw {dflt : Int} {ps : Array (Int × Int)} {len : Nat} {x : Int32} {t : Nat} (hd : decode (px_mb m) pc = .ok (.lookupswitch dflt ps, len)) (hp : (ps.toList.zip (ps.toList.drop 1)).all (fun (a, next) => a.1 < next.1) = true) (ht : (pc : Int) + Op.lookupswitch.offset ps.toList dflt x.toInt = (t : Int)) (h : px_SW d m t L st w k Q) : px_SW d m pc L (.int x :: st) w k Q := by
  intro p l e s mi args below meth c A D as0 as ws tys H locs ls C B hk
  exact lv_lookup C.1 C.2.1 hd hp rfl ht (h p l e s mi args below meth c A D as0 as ws tys H locs ls C (B.toS B.sk.tl) hk)
end PXU
end
section
/-! the heap's instructions -/
def px_CF : Prop := ∀ (ci : Nat) (r : vw_C), vwCl[ci]? = some r → (∀ w ∈ u_ws r.1 r.2.1 r.2.2, w ∈ px_W) ∧ (∃ ty0 : Nat → FieldType, ∀ k, k < r.2.2 → parseFieldDescriptor (r.2.1 k).2.2.1 = some (ty0 k) ∧ px_dfl (ty0 k) = defaultValue (ty0 k)) ∧ (∀ a, a < r.2.2 → ∀ b, b < r.2.2 → a ≠ b → (r.2.1 a).2.1 ≠ (r.2.1 b).2.1) ∧ Cond.instantiable r.1 r.2.2 ∈ px_W ∧ Cond.initialized r.1 ∈ px_W ∧ r.2.2 ≤ 320
def px_lkF (own : String) (idx : Nat) (X : px_X) : Prop := ∃ nm desc : String,
  ((X.1 = 10 ∧ Cond.fieldLink own idx X.2.2.2.2 nm desc ∈ px_W) ∨ (X.1 = 11 ∧ ∃ host : String, Cond.fieldLinkNest own idx X.2.2.2.2 nm desc host ∈ px_Z)) ∧
  ∀ q ∈ X.2.2.1, ∃ r : vw_C, vwCl[q.1]? = some r ∧ X.2.1 < r.2.2 ∧ (r.2.1 X.2.1).2.1 = nm ∧ (r.2.1 X.2.1).2.2.1 = desc ∧ ((r.2.1 X.2.1).1 = X.2.2.2.2 ∨ Cond.sameField X.2.2.2.2 (r.2.1 X.2.1).1 nm desc ∈ px_W)
def px_lkP (m : px_M) (X : px_X) : Prop := ∀ q ∈ X.2.2.1, ∀ r : vw_C, vwCl[q.1]? = some r → (r.2.1 X.2.1).2.2.2 = false ∨ (X.1 = 10 ∧ (px_my m).name = "<init>" ∧ (r.2.1 X.2.1).2.2.2 = true ∧ (r.2.1 X.2.1).1 = (px_my m).cls)
theorem px_lookup {α : Type} {l : List (Nat × α)} {i : Nat} {b : α} (h : l.lookup i = some b) : (i, b) ∈ l := by
  induction l with
  | nil => cases h
  | cons q l ih =>
    obtain ⟨j, c⟩ := q
    rw [List.lookup_cons] at h
    by_cases hij : i = j
    · subst hij
      simp at h
      subst h
      exact List.mem_cons_self
    · have : (i == j) = false := by simp [hij]
      rw [this] at h
      exact List.mem_cons_of_mem _ (ih h)
theorem px_fld_inv {w : px_H} {a j : Nat} {cis : List (Nat × Nat)} {v : Value} (h : px_fld w a cis j = some v) : ∃ ci fs M, w.2 a = some (.inr (.inr (ci, fs))) ∧ (ci, M) ∈ cis ∧ fs[j]? = some v := by
  unfold px_fld at h
  split at h
  · rename_i ci fs hw
    split at h
    · rename_i hl
      obtain ⟨M, hM⟩ := Option.isSome_iff_exists.mp hl
      exact ⟨ci, fs, M, hw, px_lookup hM, h⟩
    · cases h
  · cases h
theorem px_pfd_inv {w w' : px_H} {a j : Nat} {cis : List (Nat × Nat)} {v : Value} (h : px_pfd w a cis j v = some w') : ∃ ci fs M, w.2 a = some (.inr (.inr (ci, fs))) ∧ (ci, M) ∈ cis ∧ j < fs.length ∧ w' = px_set w a (.inr (.inr (ci, fs.set j v))) := by
  unfold px_pfd at h
  split at h
  · rename_i ci fs hw
    split at h
    · rename_i hl
      obtain ⟨M, hM⟩ := Option.isSome_iff_exists.mp hl.1
      cases h
      exact ⟨ci, fs, M, hw, px_lookup hM, hl.2, rfl⟩
    · cases h
  · cases h
theorem px_vin_in {i : Int32} {n : Nat} (h : px_vin i n = true) : vp_in i n := by
  unfold px_vin at h
  unfold vp_in
  simpa using h
theorem px_ald_inv {w : px_H} {a : Nat} {i x : Int32} {ty : FieldType} (h : px_ald w a i ty = some x) : ∃ n f, w.2 a = some (.inl (ty, n, f)) ∧ vp_in i n ∧ x = f i.toNatClampNeg := by
  unfold px_ald at h
  split at h
  · rename_i t n f hw
    split at h
    · rename_i hl
      obtain ⟨rfl, hv⟩ := hl
      cases h
      exact ⟨n, f, hw, px_vin_in hv, rfl⟩
    · cases h
  · cases h
theorem px_ast_inv {w w' : px_H} {a : Nat} {i x : Int32} {ty : FieldType} (h : px_ast w a i x ty = some w') : ∃ n f, w.2 a = some (.inl (ty, n, f)) ∧ vp_in i n ∧ w' = px_set w a (.inl (ty, n, upd f i.toNatClampNeg x)) := by
  unfold px_ast at h
  split at h
  · rename_i t n f hw
    split at h
    · rename_i hl
      obtain ⟨rfl, hv⟩ := hl
      cases h
      exact ⟨n, f, hw, px_vin_in hv, rfl⟩
    · cases h
  · cases h
theorem px_bld_inv {w : px_H} {a : Nat} {i x : Int32} (h : px_bld w a i = some x) : ∃ ty n f, (ty = .byte ∨ ty = .boolean) ∧ w.2 a = some (.inl (ty, n, f)) ∧ vp_in i n ∧ x = f i.toNatClampNeg := by
  unfold px_bld at h
  split at h
  · rename_i t n f hw
    split at h
    · rename_i hl
      cases h
      exact ⟨t, n, f, hl.1, hw, px_vin_in hl.2, rfl⟩
    · cases h
  · cases h
theorem px_bst_inv {w w' : px_H} {a : Nat} {i x : Int32} (h : px_bst w a i x = some w') : ∃ ty n f, (ty = .byte ∨ ty = .boolean) ∧ w.2 a = some (.inl (ty, n, f)) ∧ vp_in i n ∧ w' = px_set w a (.inl (ty, n, upd f i.toNatClampNeg (vp_nar ty x))) := by
  unfold px_bst at h
  split at h
  · rename_i t n f hw
    split at h
    · rename_i hl
      cases h
      exact ⟨t, n, f, hl.1, hw, px_vin_in hl.2, rfl⟩
    · cases h
  · cases h
theorem px_rld_inv {w : px_H} {a : Nat} {i : Int32} {v : Value} (h : px_rld w a i = some v) : ∃ E n f, w.2 a = some (.inr (.inl (.object E, n, f))) ∧ vp_in i n ∧ v = va_rf (f i.toNatClampNeg) := by
  unfold px_rld at h
  split at h
  · rename_i t n f hw
    split at h
    · rename_i hl
      cases h
      cases t with
      | object E => exact ⟨E, n, f, hw, px_vin_in hl.1, rfl⟩
      | _ => cases hl.2
    · cases h
  · cases h
theorem px_cls_inv {w : px_H} {a ci : Nat} (h : px_cls w a = some ci) : ∃ fs, w.2 a = some (.inr (.inr (ci, fs))) := by
  unfold px_cls at h
  split at h
  · rename_i c fs hw
    cases h
    exact ⟨fs, hw⟩
  · cases h
theorem px_rst_inv {w w' : px_H} {a : Nat} {i : Int32} {v : Value} (h : px_rst w a i v = some w') : ∃ E n f, w.2 a = some (.inr (.inl (.object E, n, f))) ∧ vp_in i n ∧
    ((v = .null ∧ w' = px_set w a (.inr (.inl (.object E, n, va_up f i.toNatClampNeg none)))) ∨ ∃ b ci fs, v = .ref b ∧ w.2 b = some (.inr (.inr (ci, fs))) ∧ px_may ci (.object E) = true ∧ w' = px_set w a (.inr (.inl (.object E, n, va_up f i.toNatClampNeg (some b))))) := by
  unfold px_rst at h
  split at h
  · rename_i t n f hw
    split at h
    · rename_i hl
      split at h
      · rename_i E
        cases h
        exact ⟨E, n, f, hw, px_vin_in hl, Or.inl ⟨rfl, rfl⟩⟩
      · rename_i E b
        split at h
        · rename_i ci hci
          split at h
          · rename_i hmay
            cases h
            obtain ⟨fs, hfs⟩ := px_cls_inv hci
            exact ⟨E, n, f, hw, px_vin_in hl, Or.inr ⟨b, ci, fs, rfl, hfs, hmay, rfl⟩⟩
          · cases h
        · cases h
      · cases h
    · cases h
  · cases h
theorem px_cpy_inv {w w' : px_H} {a0 a : Nat} {sp dp n : Int32} (h : px_cpy w a0 sp a dp n = some w') : ∃ n0 n1 f g, w.2 a0 = some (.inl (.int, n0, f)) ∧ w.2 a = some (.inl (.int, n1, g)) ∧ ¬ sp < 0 ∧ ¬ dp < 0 ∧ ¬ n < 0 ∧ sp.toNatClampNeg + n.toNatClampNeg ≤ n0 ∧ dp.toNatClampNeg + n.toNatClampNeg ≤ n1 ∧ w' = px_set w a (.inl (.int, n1, va_cpy f g sp.toNatClampNeg dp.toNatClampNeg n.toNatClampNeg)) := by
  unfold px_cpy at h
  split at h
  · rename_i t0 n0 f t1 n1 g h0 h1
    split at h
    · rename_i hl
      obtain ⟨rfl, rfl, q1, q2, q3, q4, q5⟩ := hl
      cases h
      exact ⟨n0, n1, f, g, h0, h1, q1, q2, q3, q4, q5, rfl⟩
    · cases h
  · cases h
theorem px_rf {as : List Nat} (o : Option Nat) : va_rf (o.map (fun i => as.getD i 0)) = px_v as (va_rf o) := by cases o <;> rfl
theorem px_upm {as : List Nat} (f : Nat → Option Nat) (k : Nat) (o : Option Nat) : (fun j => (va_up f k o j).map (fun i => as.getD i 0)) = va_up (fun j => (f j).map (fun i => as.getD i 0)) k (o.map (fun i => as.getD i 0)) := by
  funext j
  unfold va_up
  by_cases h : j = k
  · rw [if_pos h, if_pos h]
  · rw [if_neg h, if_neg h]
theorem px_fit_ok {ty : FieldType} {v : Value} {as : List Nat} (h : px_fit ty v = true) : narrow ty (px_v as v) = px_v as v ∧ fits ty (px_v as v) = true := by
  cases ty with
  | int => cases v with
    | int x => exact ⟨rfl, rfl⟩
    | _ => cases h
  | object n => cases v with
    | null => exact ⟨rfl, rfl⟩
    | ref i => exact ⟨rfl, rfl⟩
    | _ => cases h
  | array n => cases v with
    | null => exact ⟨rfl, rfl⟩
    | ref i => exact ⟨rfl, rfl⟩
    | _ => cases h
  | _ => cases v <;> cases h
section PXV
variable {s : State} {A : Nat → Prop} {D : va_G} {as0 as : List Nat} {ws : va_W} {tys : List (ClassId × FieldType)} {H : Heap} {locs : List Loc} {ls : Array Slot} {n : Nat} {L : px_L} {st st' : List Value} {w : px_H}
theorem px_B.toH {H1 : Heap} {locs1 : List Loc} {q : Nat} {c0 c : px_E} {e : va_E} (B : px_B s A D as0 as ws tys H locs ls n L st w) (h0 : w.2 q = some c0) (hok : px_eok w.1 c) (hc : px_ce as tys c e)
    (hP : va_P D vwCl (ws.set q (as.getD q 0, e)) H1) (hD : va_D A (ws.set q (as.getD q 0, e))) (hS : va_S A s.heap H1 locs1) (h : px_sok as.length st') : px_B s A D as0 as (ws.set q (as.getD q 0, e)) tys H1 locs1 ls n L st' (px_set w q c) :=
  ⟨B.1, hP, hD, hS, B.r.set h0 hok hc, B.2.2.2.2.2.1, B.lo, h⟩
theorem px_B.toN {H1 : Heap} {q : Nat} {c : px_E} {e : va_E} {tl : List (ClassId × FieldType)} (B : px_B s A D as0 as ws tys H locs ls n L st w) (hok : px_eok w.1 c) (hc : px_ce (as ++ [q]) (tys ++ tl) c e)
    (hK : va_K D vwCl (tys ++ tl) s) (hP : va_P D vwCl (ws ++ [(q, e)]) H1) (hD : va_D A (ws ++ [(q, e)])) (hS : va_S A s.heap H1 locs) (h : px_sok as.length st') : px_B s A D as0 (as ++ [q]) (ws ++ [(q, e)]) (tys ++ tl) H1 locs ls n L (.ref w.1 :: st') (px_add w c) := by
  refine ⟨hK, hP, hD, hS, B.r.add hok hc, ?_, B.lo.app, px_sok.cons ?_ (fun v hv => (h v hv).le (by simp))⟩
  · exact B.2.2.2.2.2.1.trans (List.prefix_append _ _)
  · show w.1 < (as ++ [q]).length
    rw [List.length_append, B.r.2.1]
    exact Nat.lt_succ_self _
end PXV
section PXW
variable {d : Nat} {m : px_M} {pc k : Nat} {L : px_L} {st : List Value} {w : px_H} {Q : Option Value → px_H → Prop}
theorem px_q_get (cf : px_CF) {idx a : Nat} {X : px_X} {v : Value} (hd : decode (px_mb m) pc = .ok (.getfield idx, 3)) (F : px_lkF (px_my m).cls idx X) (hf : px_fld w a X.2.2.1 X.2.1 = some v) (h : px_SW d m (pc + 3) L (v :: st) w k Q) : px_SW d m pc L (.ref a :: st) w k Q := by
  intro p l e s mi args below meth c A D as0 as ws tys H locs ls C B hk
  obtain ⟨ci, fs, M, hw, hM, hj⟩ := px_fld_inv hf
  obtain ⟨hok, e', he, hce⟩ := B.r.2.2 a _ hw
  cases hce
  have hvok : px_vok as.length v := by rw [B.r.2.1]; exact hok v (List.mem_of_getElem? hj)
  have h := h p l e s mi args below meth c A D as0 as ws tys H locs ls C (B.toS (px_sok.cons hvok B.sk.tl)) hk
  obtain ⟨nm, desc, hlink, hr⟩ := F
  obtain ⟨r, hr0, hr1, rfl, rfl, hsm⟩ := hr _ hM
  have hin := (cf ci r hr0).1
  have hv : (fs.map (px_v as))[X.2.1]? = some (px_v as v) := by rw [List.getElem?_map, hj]; rfl
  have hsame : ∀ x, s.fieldFound? (r.2.1 X.2.1).1 (r.2.1 X.2.1).2.1 (r.2.1 X.2.1).2.2.1 = some x → s.fieldFound? X.2.2.2.2 (r.2.1 X.2.1).2.1 (r.2.1 X.2.1).2.2.1 = some x := by
    intro x hx
    rcases hsm with q | q
    · rw [← q]; exact hx
    · exact u_same (C.2.2.2.2.1 _ q) x hx
  rcases hlink with ⟨-, hl⟩ | ⟨-, host, hl⟩
  · exact va_get (D := D) (C := r.1) (T := r.2.1) (N := r.2.2) C.1 C.2.1 C.2.2.2.2.1 hin C.2.2.2.1 B.1 B.2.1 a he hr0 X.2.1 hr1 (C.2.2.2.2.1 _ hl) hsame hv hd h
  · exact va_getN (D := D) (C := r.1) (T := r.2.1) (N := r.2.2) C.1 C.2.1 C.2.2.2.2.1 hin C.2.2.2.1 B.1 B.2.1 a he hr0 X.2.1 hr1 (va_Nw.use rfl (C.2.2.2.2.2.1 _ hl)) hsame hv hd h
theorem px_q_put (cf : px_CF) {idx a : Nat} {X : px_X} {v : Value} {w' : px_H} (hd : decode (px_mb m) pc = .ok (.putfield idx, 3)) (F : px_lkF (px_my m).cls idx X) (P : px_lkP m X)
    (hfit : (X.2.2.1.all (fun q => match px_fty q.1 X.2.1 with | some t => px_fit t v | none => false)) = true) (hf : px_pfd w a X.2.2.1 X.2.1 v = some w') (h : px_SW d m (pc + 3) L st w' k Q) : px_SW d m pc L (v :: .ref a :: st) w k Q := by
  intro p l e s mi args below meth c A D as0 as ws tys H locs ls C B hk
  obtain ⟨ci, fs, M, hw, hM, hj, rfl⟩ := px_pfd_inv hf
  obtain ⟨hok, e', he, hce⟩ := B.r.2.2 a _ hw
  cases hce
  have hvok : px_vok w.1 v := by rw [← B.r.2.1]; exact B.sk.hd
  obtain ⟨nm, desc, hlink, hr⟩ := F
  obtain ⟨r, hr0, hr1, rfl, rfl, hsm⟩ := hr _ hM
  obtain ⟨hin, ⟨ty0, hty⟩, hnm, -⟩ := cf ci r hr0
  have hfit1 := List.all_eq_true.mp hfit _ hM
  have hpt : px_fty ci X.2.1 = some (ty0 X.2.1) := by
    unfold px_fty
    rw [hr0]
    exact (hty _ hr1).1
  simp only [hpt] at hfit1
  obtain ⟨f1, f2⟩ := px_fit_ok (as := as) hfit1
  have hsame : ∀ x, s.fieldFound? (r.2.1 X.2.1).1 (r.2.1 X.2.1).2.1 (r.2.1 X.2.1).2.2.1 = some x → s.fieldFound? X.2.2.2.2 (r.2.1 X.2.1).2.1 (r.2.1 X.2.1).2.2.1 = some x := by
    intro x hx
    rcases hsm with q | q
    · rw [← q]; exact hx
    · exact u_same (C.2.2.2.2.1 _ q) x hx
  have hok' : px_eok w.1 (.inr (.inr (ci, fs.set X.2.1 v))) := by
    intro u hu
    rcases List.mem_or_eq_of_mem_set hu with hu | rfl
    · exact hok u hu
    · exact hvok
  have hce' : px_ce as tys (.inr (.inr (ci, fs.set X.2.1 v))) (.inr (ci, (fs.map (px_v as)).set X.2.1 (px_v as v))) := by
    show _ = _
    rw [List.map_set]
  have hl' : X.2.1 < (fs.map (px_v as)).length := by rw [List.length_map]; exact hj
  have kk : ∀ (H1 : Heap) (locs1 : List Loc), va_P D vwCl (ws.set a (as.getD a 0, .inr (ci, (fs.map (px_v as)).set X.2.1 (px_v as v)))) H1 → va_D A (ws.set a (as.getD a 0, .inr (ci, (fs.map (px_v as)).set X.2.1 (px_v as v)))) → va_S A s.heap H1 locs1 → W p l e (px_rm d m) s mi args below meth c H1 locs1 k (320 * k) (MQ below (px_Qc D as0 Q A) args s (px_mc m) (320 * px_mc m) A) (F0 mi (pc + 3) ls (st.map (px_v as))) :=
    fun H1 locs1 hP hD hS => h p l e s mi args below meth c A D as0 as _ tys H1 locs1 ls C (B.toH hw hok' hce' hP hD hS B.sk.tl.tl) hk
  rcases hlink with ⟨-, hl⟩ | ⟨h11, host, hl⟩
  · rcases P _ hM r hr0 with hfin | ⟨-, hnm2, hfin, hown⟩
    · exact va_put (D := D) (C := r.1) (T := r.2.1) (N := r.2.2) C.1 C.2.1 C.2.2.2.2.1 hin ty0 (fun k hk => (hty k hk).1) hnm C.2.2.2.1 B.1 B.2.1 B.2.2.1 B.2.2.2.1 a he hr0 X.2.1 hr1 (C.2.2.2.2.1 _ hl) hsame hfin (hty _ hr1).1 f1 f2 hl' hd kk
    · exact va_putF (D := D) (C := r.1) (T := r.2.1) (N := r.2.2) C.1 C.2.1 C.2.2.2.2.1 hin ty0 (fun k hk => (hty k hk).1) hnm C.2.2.2.1 B.1 B.2.1 B.2.2.1 B.2.2.2.1 a he hr0 X.2.1 hr1 (C.2.2.2.2.1 _ hl) hsame hfin (C.2.2.2.2.2.2.2.2.1.trans hnm2) hown (hty _ hr1).1 f1 f2 hl' hd kk
  · rcases P _ hM r hr0 with hfin | ⟨h10, -⟩
    · exact va_putN (D := D) (C := r.1) (T := r.2.1) (N := r.2.2) C.1 C.2.1 C.2.2.2.2.1 hin ty0 (fun k hk => (hty k hk).1) hnm C.2.2.2.1 B.1 B.2.1 B.2.2.1 B.2.2.2.1 a he hr0 X.2.1 hr1 (va_Nw.use rfl (C.2.2.2.2.2.1 _ hl)) hsame hfin (hty _ hr1).1 f1 f2 hl' hd kk
    · rw [h11] at h10; cases h10
theorem px_q_iald {a : Nat} {i x : Int32} (hd : decode (px_mb m) pc = .ok (.iaload, 1)) (hf : px_ald w a i .int = some x) (h : px_SW d m (pc + 1) L (.int x :: st) w k Q) : px_SW d m pc L (.int i :: .ref a :: st) w k Q := by
  intro p l e s mi args below meth c A D as0 as ws tys H locs ls C B hk
  obtain ⟨n, f, hw, hin, rfl⟩ := px_ald_inv hf
  obtain ⟨hok, e', he, cA, t0, ht, rfl⟩ := B.r.2.2 a _ hw
  exact va_iald C.1 C.2.1 B.1 B.2.1 a t0 he ht hin hd (h p l e s mi args below meth c A D as0 as ws tys H locs ls C (B.toS B.sk.tl.tl.i) hk)
theorem px_q_iast {a : Nat} {i x : Int32} {w' : px_H} (hd : decode (px_mb m) pc = .ok (.iastore, 1)) (hf : px_ast w a i x .int = some w') (h : px_SW d m (pc + 1) L st w' k Q) : px_SW d m pc L (.int x :: .int i :: .ref a :: st) w k Q := by
  intro p l e s mi args below meth c A D as0 as ws tys H locs ls C B hk
  obtain ⟨n, f, hw, hin, rfl⟩ := px_ast_inv hf
  obtain ⟨hok, e', he, cA, t0, ht, rfl⟩ := B.r.2.2 a _ hw
  exact va_iast C.1 C.2.1 B.1 B.2.1 B.2.2.1 B.2.2.2.1 a t0 he ht hin hd (fun H1 locs1 hP hD hS => h p l e s mi args below meth c A D as0 as _ tys H1 locs1 ls C (B.toH hw trivial ⟨cA, t0, ht, rfl⟩ hP hD hS B.sk.tl.tl.tl) hk)
theorem px_q_bald {a : Nat} {i x : Int32} (hd : decode (px_mb m) pc = .ok (.baload, 1)) (hf : px_bld w a i = some x) (h : px_SW d m (pc + 1) L (.int x :: st) w k Q) : px_SW d m pc L (.int i :: .ref a :: st) w k Q := by
  intro p l e s mi args below meth c A D as0 as ws tys H locs ls C B hk
  obtain ⟨ty, n, f, hty, hw, hin, rfl⟩ := px_bld_inv hf
  obtain ⟨hok, e', he, cA, t0, ht, rfl⟩ := B.r.2.2 a _ hw
  have h := h p l e s mi args below meth c A D as0 as ws tys H locs ls C (B.toS B.sk.tl.tl.i) hk
  rcases hty with rfl | rfl
  · exact va_bald C.1 C.2.1 B.1 B.2.1 a t0 he ht hin hd h
  · exact va_zald C.1 C.2.1 B.1 B.2.1 a t0 he ht hin hd h
theorem px_q_bast {a : Nat} {i x : Int32} {w' : px_H} (hd : decode (px_mb m) pc = .ok (.bastore, 1)) (hf : px_bst w a i x = some w') (h : px_SW d m (pc + 1) L st w' k Q) : px_SW d m pc L (.int x :: .int i :: .ref a :: st) w k Q := by
  intro p l e s mi args below meth c A D as0 as ws tys H locs ls C B hk
  obtain ⟨ty, n, f, hty, hw, hin, rfl⟩ := px_bst_inv hf
  obtain ⟨hok, e', he, cA, t0, ht, rfl⟩ := B.r.2.2 a _ hw
  rcases hty with rfl | rfl
  · exact va_bast C.1 C.2.1 B.1 B.2.1 B.2.2.1 B.2.2.2.1 a t0 he ht hin hd (fun H1 locs1 hP hD hS => h p l e s mi args below meth c A D as0 as _ tys H1 locs1 ls C (B.toH hw trivial ⟨cA, t0, ht, rfl⟩ hP hD hS B.sk.tl.tl.tl) hk)
  · exact va_zast C.1 C.2.1 B.1 B.2.1 B.2.2.1 B.2.2.2.1 a t0 he ht hin hd (fun H1 locs1 hP hD hS => h p l e s mi args below meth c A D as0 as _ tys H1 locs1 ls C (B.toH hw trivial ⟨cA, t0, ht, rfl⟩ hP hD hS B.sk.tl.tl.tl) hk)
theorem px_q_aald {a : Nat} {i : Int32} {v : Value} (hd : decode (px_mb m) pc = .ok (.aaload, 1)) (hf : px_rld w a i = some v) (h : px_SW d m (pc + 1) L (v :: st) w k Q) : px_SW d m pc L (.int i :: .ref a :: st) w k Q := by
  intro p l e s mi args below meth c A D as0 as ws tys H locs ls C B hk
  obtain ⟨E, n, f, hw, hin, rfl⟩ := px_rld_inv hf
  obtain ⟨hok, e', he, cA, t0, ht, rfl⟩ := B.r.2.2 a _ hw
  have hvok : px_vok as.length (va_rf (f i.toNatClampNeg)) := by
    cases hfi : f i.toNatClampNeg with
    | none => trivial
    | some b => rw [B.r.2.1]; exact hok _ _ hfi
  have h := h p l e s mi args below meth c A D as0 as ws tys H locs ls C (B.toS (px_sok.cons hvok B.sk.tl.tl)) hk
  refine va_aldq C.1 C.2.1 B.1 B.2.1 a t0 he ht hin hd ?_
  rw [px_rf]
  exact h
theorem px_q_aast {a : Nat} {i : Int32} {v : Value} {w' : px_H} (hd : decode (px_mb m) pc = .ok (.aastore, 1)) (hf : px_rst w a i v = some w') (h : px_SW d m (pc + 1) L st w' k Q) : px_SW d m pc L (v :: .int i :: .ref a :: st) w k Q := by
  intro p l e s mi args below meth c A D as0 as ws tys H locs ls C B hk
  obtain ⟨E, n, f, hw, hin, hcase⟩ := px_rst_inv hf
  obtain ⟨hok, e', he, cA, t0, ht, rfl⟩ := B.r.2.2 a _ hw
  rcases hcase with ⟨rfl, rfl⟩ | ⟨b, ci, fs, rfl, hb, hmay, rfl⟩
  · refine va_astqN C.1 C.2.1 B.1 B.2.1 B.2.2.1 B.2.2.2.1 a t0 he ht hin hd (fun H1 locs1 hP hD hS => h p l e s mi args below meth c A D as0 as _ tys H1 locs1 ls C (B.toH hw ?_ ⟨cA, t0, ht, by rw [px_upm]; rfl⟩ hP hD hS B.sk.tl.tl.tl) hk)
    intro j b hj
    unfold va_up at hj
    split at hj
    · cases hj
    · exact hok j b hj
  · obtain ⟨hokb, eb, heb, hceb⟩ := B.r.2.2 b _ hb
    cases hceb
    have hbl := B.r.lt hb
    have hok' : px_eok w.1 (.inr (.inl (.object E, n, va_up f i.toNatClampNeg (some b)))) := by
      intro j b' hj
      unfold va_up at hj
      split at hj
      · cases hj; exact hbl
      · exact hok j b' hj
    unfold px_may at hmay
    cases hr : vwCl[ci]? with
    | none => simp only [hr] at hmay; cases hmay
    | some r =>
      simp only [hr, Bool.or_eq_true, decide_eq_true_eq] at hmay
      rcases hmay with rfl | hmay
      · exact va_astq C.1 C.2.1 B.1 B.2.1 B.2.2.1 B.2.2.2.1 a t0 b ci he ht heb hr hin hd (fun H1 locs1 hP hD hS => h p l e s mi args below meth c A D as0 as _ tys H1 locs1 ls C (B.toH hw hok' ⟨cA, t0, ht, by rw [px_upm]; rfl⟩ hP hD hS B.sk.tl.tl.tl) hk)
      · have hz : Cond.castable r.1 E ∈ px_Z := List.mem_filter.mpr ⟨(List.mem_filter.mp hmay).1, rfl⟩
        exact va_astqO C.1 C.2.1 B.1 B.2.1 B.2.2.1 B.2.2.2.1 a t0 b ci he ht (C.2.2.2.2.2.1 _ hz) heb hr hin hd (fun H1 locs1 hP hD hS => h p l e s mi args below meth c A D as0 as _ tys H1 locs1 ls C (B.toH hw hok' ⟨cA, t0, ht, by rw [px_upm]; rfl⟩ hP hD hS B.sk.tl.tl.tl) hk)
theorem px_q_alen {a : Nat} {x : Int32} (hd : decode (px_mb m) pc = .ok (.arraylength, 1)) (hf : px_len w a = some x) (h : px_SW d m (pc + 1) L (.int x :: st) w k Q) : px_SW d m pc L (.ref a :: st) w k Q := by
  intro p l e s mi args below meth c A D as0 as ws tys H locs ls C B hk
  have h := h p l e s mi args below meth c A D as0 as ws tys H locs ls C (B.toS B.sk.tl.i) hk
  unfold px_len at hf
  split at hf
  · rename_i t n f hw
    cases hf
    obtain ⟨hok, e', he, cA, t0, ht, rfl⟩ := B.r.2.2 a _ hw
    exact va_alen C.1 C.2.1 B.1 B.2.1 a t0 he ht rfl hd h
  · rename_i t n f hw
    cases hf
    obtain ⟨hok, e', he, cA, t0, ht, rfl⟩ := B.r.2.2 a _ hw
    exact va_alen C.1 C.2.1 B.1 B.2.1 a t0 he ht rfl hd h
  · cases hf
def px_lkC (own : String) (idx : Nat) : Prop := Cond.methodLink own idx arraycopyName ∈ px_W ∧ Cond.native arraycopyName ∈ px_W ∧ Cond.static arraycopyName ∈ px_W ∧ Cond.initialized "java/lang/System" ∈ px_W
theorem px_q_copy {idx a0 a : Nat} {sp dp n : Int32} {w' : px_H} (hd : decode (px_mb m) pc = .ok (.invokestatic idx, 3)) (F : px_lkC (px_my m).cls idx) (hs : st.length ≤ 8) (hf : px_cpy w a0 sp a dp n = some w') (h : px_SW d m (pc + 3) L st w' k Q) : px_SW d m pc L (.int n :: .int dp :: .ref a :: .int sp :: .ref a0 :: st) w k Q := by
  intro p l e s mi args below meth c A D as0 as ws tys H locs ls C B hk
  obtain ⟨n0, n1, f, g, h0, h1, q1, q2, q3, q4, q5, rfl⟩ := px_cpy_inv hf
  obtain ⟨-, e0, he0, c0, t0, ht0, rfl⟩ := B.r.2.2 a0 _ h0
  obtain ⟨-, e1, he1, c1, t1, ht1, rfl⟩ := B.r.2.2 a _ h1
  have hts := C.2.2.2.2.1
  have hl : (((st.map (px_v as))).map fun v => v.category).sum + (nativeFrameWords "java/lang/System" "arraycopy" 5 + 11) ≤ (px_rm d m).locals := by
    rw [px_sok.cat B.sk.tl.tl.tl.tl.tl]
    have : nativeFrameWords "java/lang/System" "arraycopy" 5 = 7 := by decide +kernel
    rw [this]
    show st.length + (7 + 11) ≤ 40 * (d + 1)
    omega
  exact va_copyi C.1 C.2.1 (by rw [C.2.2.1]; exact B.lo.1.1.symm) C.2.2.2.1 (hts _ F.1) (hts _ F.2.1) (hts _ F.2.2.1) (hts _ F.2.2.2) B.1 B.2.1 B.2.2.1 B.2.2.2.1 a0 a t0 t1 he0 he1 ht0 ht1 rfl q1 q2 q3 q4 q5 (fun _ _ => rfl) (by show 1 ≤ d + 1; omega) hl hd
    (fun H1 locs1 hP hD hS => h p l e s mi args below meth c A D as0 as _ tys H1 locs1 ls C (B.toH h1 trivial ⟨c1, t1, ht1, rfl⟩ hP hD hS B.sk.tl.tl.tl.tl.tl) hk)
def px_lkM (own : String) (idx : Nat) : Prop := Cond.methodLink own idx Lib.Math.max.name ∈ px_W ∧ Cond.static Lib.Math.max.name ∈ px_W ∧ Cond.initialized "java/lang/Math" ∈ px_W ∧ Cond.code Lib.Math.max.name Lib.Math.max.code 2 (some .int) ∈ px_W
theorem px_q_max {idx : Nat} {x y : Int32} (hd : decode (px_mb m) pc = .ok (.invokestatic idx, 3)) (F : px_lkM (px_my m).cls idx) (hs : st.length ≤ 8) (h : px_SW d m (pc + 3) L (.int (if x < y then y else x) :: st) w k Q) : px_SW d m pc L (.int y :: .int x :: st) w k Q := by
  intro p l e s mi args below meth c A D as0 as ws tys H locs ls C B hk
  have hts := C.2.2.2.2.1
  have hl : (((st.map (px_v as))).map fun v => v.category).sum + 13 ≤ (px_rm d m).locals := by
    rw [px_sok.cat B.sk.tl.tl]
    show st.length + 13 ≤ 40 * (d + 1)
    omega
  exact va_mmax C.1 C.2.1 (by rw [C.2.2.1]; exact B.lo.1.1.symm) C.2.2.2.1 (hts _ F.1) (hts _ F.2.1) (hts _ F.2.2.1) (hts _ F.2.2.2) (by show 1 ≤ d + 1; omega) hl hk (by show 320 * k ≤ 320 * px_mc m; omega) hd (h p l e s mi args below meth c A D as0 as ws tys H locs ls C (B.toS B.sk.tl.tl.i) hk)
end PXW
end
section
/-! making, returning, calling -/
theorem px_dflv {as : List Nat} (t : FieldType) : px_v as (px_dfl t) = px_dfl t := by cases t <;> rfl
theorem px_dflok {n : Nat} (t : FieldType) : px_vok n (px_dfl t) := by cases t <;> trivial
theorem px_nf_v {as : List Nat} (r : vw_C) (j : Nat) : px_v as (px_nf r j) = px_nf r j := by
  unfold px_nf
  split
  · exact px_dflv _
  · rfl
theorem px_newf_v {as : List Nat} (r : vw_C) : (px_newf r).map (px_v as) = px_newf r := by
  unfold px_newf
  rw [List.map_map]
  exact List.map_congr_left (fun j _ => px_nf_v r j)
theorem px_newf_ok {n : Nat} (r : vw_C) : ∀ v ∈ px_newf r, px_vok n v := by
  intro v hv
  obtain ⟨j, -, rfl⟩ := List.mem_map.mp hv
  unfold px_nf
  split
  · exact px_dflok _
  · trivial
def px_mok (m : px_M) : Prop := Cond.code (px_my m) (px_mb m) (px_ml m) (px_mr m) ∈ px_W ∧ plainName (px_my m).cls = true ∧ ((px_my m).cls ≠ "java/lang/invoke/MethodHandle" ∧ (px_my m).cls ≠ "java/lang/invoke/VarHandle") ∧ px_ml m ≤ 21
def px_ws (m : px_M) : List Cond := .code (px_my m) (px_mb m) (px_ml m) (px_mr m) :: px_W
theorem px_good {m : px_M} (h : px_mok m) : GoodIn px_W (px_ws m) := by
  intro w hw
  have h1 : w ∈ px_W := by
    rcases List.mem_cons.mp hw with rfl | h1
    · exact h.1
    · exact h1
  exact ⟨h1, good_of_word (List.mem_filter.mp h1).2⟩
def px_Pc (vs : List Value) (D : va_G) (as : List Nat) (ws : va_W) (tys : List (ClassId × FieldType)) (sz : Nat) : Array Value → State → Prop := va_Pc (vs.map (px_v as)) (fun U => U.heap.size = sz ∧ va_P D vwCl ws U.heap ∧ va_K D vwCl tys U ∧ va_D (fun _ => True) ws ∧ px_N U)
theorem px_blind {vs : List Value} {D : va_G} {as : List Nat} {ws : va_W} {tys : List (ClassId × FieldType)} {sz : Nat} : FrameBlind (px_Pc vs D as ws tys sz) := by
  intro a U g mk q
  obtain ⟨q0, q1, qP, qK, qD, qN⟩ := q
  exact ⟨q0, q1, qP, va_K.moved (u := U) (U := U.calling g mk a) (Vm.Alike.refl U.vm) qK, qD, px_N.same (s := U) (U := U.calling g mk a) rfl qN⟩
def px_SC (d : Nat) (m : px_M) (vs : List Value) (w : px_H) (Q : Option Value → px_H → Prop) : Prop := ∀ (l : Launch) (D : va_G) (as : List Nat) (ws : va_W) (tys : List (ClassId × FieldType)) (sz : Nat), px_R as ws tys w → px_sok as.length vs →
  Met l (px_my m) (px_ws m) (px_rm d m) (px_Pc vs D as ws tys sz) (px_Qc D as Q (va_A ws sz)) (px_mc m) (320 * px_mc m) (va_A ws sz)
theorem px_lg {vs : List Value} {n : Nat} (h : px_sok n vs) (as : List Nat) : (lg_sl (vs.map (px_v as))).length = vs.length := by
  induction vs with
  | nil => rfl
  | cons v vs ih =>
    have hc : (px_v as v).category = 1 := by rw [px_v_cat]; exact h.hd.cat
    have := ih h.tl
    simp only [lg_sl] at this
    simp [lg_sl, hc, this]
theorem px_lvargs {n : Nat} (as : List Nat) : ∀ (vs : List Value) (i : Nat), px_sok n vs → ∀ (j : Nat) (v : Value), vs[j]? = some v → (i + j, px_v as v) ∈ lv_args i (vs.map (px_v as)) := by
  intro vs
  induction vs with
  | nil => intro i _ j v hj; simp at hj
  | cons u vs ih =>
    intro i h j v hj
    have hc : ¬ (px_v as u).category = 2 := by rw [px_v_cat, h.hd.cat]; decide
    rw [List.map_cons, lv_args, if_neg hc]
    cases j with
    | zero =>
      simp at hj
      subst hj
      exact List.mem_cons_self
    | succ j =>
      have := ih (i + 1) h.tl j v (by simpa using hj)
      rw [show i + 1 + j = i + (j + 1) by omega] at this
      exact List.mem_cons_of_mem _ this
theorem px_en_at {n : Nat} {vs : List Value} {j : Nat} {v : Value} (h : (px_en n vs)[j]? = some (some v)) : vs[j]? = some v := by
  unfold px_en at h
  rcases Nat.lt_or_ge j vs.length with hj | hj
  · rw [List.getElem?_append_left (by rw [List.length_map]; exact hj), List.getElem?_map] at h
    cases hv : vs[j]? with
    | none => rw [hv] at h; cases h
    | some u => rw [hv] at h; cases h; rfl
  · rw [List.getElem?_append_right (by rw [List.length_map]; exact hj)] at h
    have := List.mem_of_getElem? h
    simp at this
theorem px_met {d : Nat} {m : px_M} {vs : List Value} {w : px_H} {Q : Option Value → px_H → Prop} (hm : px_mok m) (hl : vs.length ≤ px_ml m) (h : px_SW d m 0 (px_en (px_ml m) vs) [] w 0 Q) : px_SC d m vs w Q := by
  intro l D as ws tys sz hR hvs
  refine Met.ofW (cc := px_mb m) (maxL := px_ml m) (ret := px_mr m) hm.2.1 rfl ?_
  intro p e s mi args below meth c s₁ B hml hv
  obtain ⟨rfl, hsz, hP, hK, hD0, hN⟩ := hv
  subst hsz
  have hts := atoms_spec (ws := px_ws m) B.pre
  have hlo := lv_entry (vs.map (px_v as)) (n := px_ml m) (by rw [px_lg hvs]; exact hl)
  rw [lg_entry_eq]
  refine h p l e s mi _ below meth c (va_A ws s.heap.size) D as as ws tys s.heap [] _ ⟨B.exec, B.bytes, hml, findClass_of_methodNamed B.named, fun w hw => hts w (List.mem_cons_of_mem _ hw), hN, B.returns, B.notSynchronized, (name_of_methodNamed B.named B.method).1, fun q hq => Or.inr hq⟩
    ⟨hK, hP, hD0.self, va_S.rf, hR, List.prefix_refl _, ⟨⟨hlo.1, hlo.2.1, fun q hq => ?_⟩, ?_, fun j v hj => ?_⟩, px_sok.nil⟩ (Nat.zero_le _)
  · obtain ⟨j, x⟩ := q
    obtain ⟨v, hv, rfl⟩ := px_lv_mem.mp hq
    have := px_lvargs as vs 0 hvs j v (px_en_at hv)
    rw [Nat.zero_add] at this
    exact hlo.2.2 _ this
  · unfold px_en
    rw [List.length_append, List.length_map, List.length_replicate]
    omega
  · exact hvs v (List.mem_of_getElem? (px_en_at hj))
section PXX
variable {d : Nat} {m : px_M} {pc k : Nat} {L : px_L} {st : List Value} {w : px_H} {Q : Option Value → px_H → Prop}
theorem px_q_new (cf : px_CF) {idx ci : Nat} {r : vw_C} (hd : decode (px_mb m) pc = .ok (.new idx, 3)) (hr : vwCl[ci]? = some r) (hc : Cond.classLink (px_my m).cls idx r.1 ∈ px_W) (hk1 : k + 1 ≤ px_mc m)
    (h : px_SW d m (pc + 3) L (.ref w.1 :: st) (px_add w (.inr (.inr (ci, px_newf r)))) (k + 1) Q) : px_SW d m pc L st w k Q := by
  intro p l e s mi args below meth c A D as0 as ws tys H locs ls C B hk
  obtain ⟨hin, ⟨ty0, hty⟩, hnm, hins, hini, h320⟩ := cf ci r hr
  have hts := C.2.2.2.2.1
  refine va_new (D := D) (C := r.1) (T := r.2.1) (N := r.2.2) (fs := px_newf r) C.1 C.2.1 hts hin ty0 (fun j hj => (hty j hj).1) C.2.2.2.1 (hts _ hc) (hts _ hins) (hts _ hini) B.1 B.2.1 B.2.2.1 B.2.2.2.1 C.2.2.2.2.2.2.2.2.2 hr (fun j hj => ?_) hk1 (by show 320 * k + r.2.2 ≤ 320 * px_mc m; omega) hd (fun q H1 hP hD hS => ?_)
  · unfold vp_V px_newf
    rw [← (hty j hj).2]
    simp [List.getD, hj, px_nf, (hty j hj).1]
  · refine W.widen (k := k + 1) (n := 320 * (k + 1)) (Nat.le_refl _) (by omega) ?_
    have hB := B.toN (q := q) (c := .inr (.inr (ci, px_newf r))) (e := .inr (ci, px_newf r)) (tl := []) (st' := st) (px_newf_ok r) (by show _ = _; rw [px_newf_v]) (by rw [List.append_nil]; exact B.1) hP hD hS B.sk
    have := h p l e s mi args below meth c A D as0 _ _ _ H1 locs ls C hB hk1
    rw [show ((Value.ref w.1) :: st).map (px_v (as ++ [q])) = Value.ref q :: st.map (px_v as) by
      rw [List.map_cons, px_sok.map B.sk]
      show Value.ref ((as ++ [q]).getD w.1 0) :: _ = _
      rw [← B.r.2.1]
      simp [List.getD]] at this
    exact this
theorem px_q_newarr {t : Jvm.ClassFile.ArrayType} {ty : FieldType} {n : Int32} (hd : decode (px_mb m) pc = .ok (.newarray t, 2)) (ht : px_nat t = some ty) (hc : Cond.arrayClass ty ∈ px_W) (hk1 : k + 1 ≤ px_mc m) (hn : ¬ n < 0) (h320 : n.toNatClampNeg ≤ 320)
    (h : px_SW d m (pc + 2) L (.ref w.1 :: st) (px_add w (.inl (ty, n.toNatClampNeg, fun _ => 0))) (k + 1) Q) : px_SW d m pc L (.int n :: st) w k Q := by
  intro p l e s mi args below meth c A D as0 as ws tys H locs ls C B hk
  have hts := C.2.2.2.2.1
  have hty : newarray.typeOf t = ty ∧ componentBytes ty ≤ 8 ∧ defaultValue ty = .int 0 := by
    cases t <;> first | (cases ht; exact ⟨rfl, by decide, rfl⟩) | (cases ht)
  obtain ⟨hty, hcb, hdv⟩ := hty
  refine va_newa (atype := t) (ty := ty) (a0 := (n.toNatClampNeg, .inl (fun _ => 0))) C.1 C.2.1 (by rw [hty]; exact hts _ hc) hty B.1 B.2.1 B.2.2.1 B.2.2.2.1 C.2.2.2.2.2.2.2.2.2 (fun cA => by rw [hdv]; rfl) hn rfl ?_ hk1 (by show 320 * k + _ ≤ 320 * px_mc m; omega) hd (fun q cA H1 hK hP hD hS => ?_)
  · have := Nat.mul_le_mul h320 hcb
    omega
  · refine W.widen (k := k + 1) (n := 320 * (k + 1)) (Nat.le_refl _) (by omega) ?_
    have hB := B.toN (q := q) (c := .inl (ty, n.toNatClampNeg, fun _ => 0)) (tl := [(cA, ty)]) (st' := st) trivial ⟨cA, tys.length, by simp, rfl⟩ hK hP hD hS B.sk.tl
    have := h p l e s mi args below meth c A D as0 _ _ _ H1 locs ls C hB hk1
    rw [show ((Value.ref w.1) :: st).map (px_v (as ++ [q])) = Value.ref q :: st.map (px_v as) by
      rw [List.map_cons, px_sok.map B.sk.tl]
      show Value.ref ((as ++ [q]).getD w.1 0) :: _ = _
      rw [← B.r.2.1]
      simp [List.getD]] at this
    exact this
theorem px_q_anew {idx : Nat} {E : String} {n : Int32} (hd : decode (px_mb m) pc = .ok (.anewarray idx, 3)) (hc : Cond.classLink (px_my m).cls idx E ∈ px_W) (ho : Cond.arrayOver (.object E) ∈ px_Z) (hk1 : k + 1 ≤ px_mc m) (hn : ¬ n < 0) (h320 : n.toNatClampNeg ≤ 320)
    (h : px_SW d m (pc + 3) L (.ref w.1 :: st) (px_add w (.inr (.inl (.object E, n.toNatClampNeg, fun _ => none)))) (k + 1) Q) : px_SW d m pc L (.int n :: st) w k Q := by
  intro p l e s mi args below meth c A D as0 as ws tys H locs ls C B hk
  have hts := C.2.2.2.2.1
  refine va_newq C.1 C.2.1 C.2.2.2.1 (hts _ hc) (C.2.2.2.2.2.1 _ ho) B.1 B.2.1 B.2.2.1 B.2.2.2.1 C.2.2.2.2.2.2.2.2.2 hn rfl (by omega) hk1 (by show 320 * k + _ ≤ 320 * px_mc m; omega) hd (fun q cA H1 hK hP hD hS => ?_)
  refine W.widen (k := k + 1) (n := 320 * (k + 1)) (Nat.le_refl _) (by omega) ?_
  have hB := B.toN (q := q) (c := .inr (.inl (.object E, n.toNatClampNeg, fun _ => none))) (tl := [(cA, .object E)]) (st' := st) (fun j i hj => by cases hj) ⟨cA, tys.length, by simp, rfl⟩ hK hP hD hS B.sk.tl
  have := h p l e s mi args below meth c A D as0 _ _ _ H1 locs ls C hB hk1
  rw [show ((Value.ref w.1) :: st).map (px_v (as ++ [q])) = Value.ref q :: st.map (px_v as) by
    rw [List.map_cons, px_sok.map B.sk.tl]
    show Value.ref ((as ++ [q]).getD w.1 0) :: _ = _
    rw [← B.r.2.1]
    simp [List.getD]] at this
  exact this
theorem px_q_iret {x : Int32} (hd : decode (px_mb m) pc = .ok (.ireturn, 1)) (hr : px_mr m = some .int ∨ (px_mr m = some .boolean ∧ (x = 0 ∨ x = 1))) (hq : Q (some (.int x)) w) : px_SW d m pc L [.int x] w k Q := by
  intro p l e s mi args below meth c A D as0 as ws tys H locs ls C B hk
  refine W.widen (k := px_mc m) (n := 320 * px_mc m) hk (by omega) ?_
  have hE : ∀ t : State, t.heap = H → s.WarmedH t.vm → px_Qc D as0 Q A args s (.returned (some (.int x))) t := fun t ht hW => ⟨⟨some (.int x), w, as, ws, tys, rfl, hq, B.2.2.2.2.2.1, fun v hv => by cases hv; trivial, B.r, by rw [ht]; exact B.2.1, va_K.moved hW.alike B.1, B.2.2.1⟩, B.2.2.2.1.F ht⟩
  rcases hr with hr | ⟨hr, hx⟩
  · exact W.iret (v := x) C.1 C.2.1 (C.2.2.2.2.2.2.1.trans hr) hE B.2.2.2.1.2.2 hd C.2.2.2.2.2.2.2.1
  · exact W.zret (v := x) C.1 C.2.1 (C.2.2.2.2.2.2.1.trans hr) (by rcases hx with rfl | rfl <;> rfl) hE B.2.2.2.1.2.2 hd C.2.2.2.2.2.2.2.1
theorem px_q_aret {v : Value} {E : String} (hd : decode (px_mb m) pc = .ok (.areturn, 1)) (hr : px_mr m = some (.object E)) (hv : px_isr v = true) (hq : Q (some v) w) : px_SW d m pc L [v] w k Q := by
  intro p l e s mi args below meth c A D as0 as ws tys H locs ls C B hk
  refine W.widen (k := px_mc m) (n := 320 * px_mc m) hk (by omega) ?_
  have hE : ∀ t : State, t.heap = H → s.WarmedH t.vm → px_Qc D as0 Q A args s (.returned (some (px_v as v))) t := fun t ht hW => ⟨⟨some v, w, as, ws, tys, rfl, hq, B.2.2.2.2.2.1, fun u hu => by cases hu; exact B.sk.hd, B.r, by rw [ht]; exact B.2.1, va_K.moved hW.alike B.1, B.2.2.1⟩, B.2.2.2.1.F ht⟩
  exact W.aret C.1 C.2.1 (C.2.2.2.2.2.2.1.trans hr) (Or.inl ⟨E, rfl⟩) (by cases v with | null => exact Or.inl rfl | ref i => exact Or.inr ⟨_, rfl⟩ | _ => cases hv) hE B.2.2.2.1.2.2 hd C.2.2.2.2.2.2.2.1
theorem px_q_vret (hd : decode (px_mb m) pc = .ok (.return_, 1)) (hr : px_mr m = none) (hq : Q none w) : px_SW d m pc L [] w k Q := by
  intro p l e s mi args below meth c A D as0 as ws tys H locs ls C B hk
  refine W.widen (k := px_mc m) (n := 320 * px_mc m) hk (by omega) ?_
  have hE : ∀ t : State, t.heap = H → s.WarmedH t.vm → px_Qc D as0 Q A args s (.returned none) t := fun t ht hW => ⟨⟨none, w, as, ws, tys, rfl, hq, B.2.2.2.2.2.1, (fun u hu => by cases hu), B.r, by rw [ht]; exact B.2.1, va_K.moved hW.alike B.1, B.2.2.1⟩, B.2.2.2.1.F ht⟩
  exact W.vret C.1 C.2.1 (C.2.2.2.2.2.2.1.trans hr) hE B.2.2.2.1.2.2 hd C.2.2.2.2.2.2.2.1
def px_lkO (own : String) (idx : Nat) : Prop := Cond.methodLink own idx Lib.objectInit ∈ px_W ∧ Cond.instanceMethod Lib.objectInit ∈ px_W ∧ Cond.code Lib.objectInit ⟨#[0xb1]⟩ 1 none ∈ px_W
theorem px_q_obj {idx a : Nat} (hd : decode (px_mb m) pc = .ok (.invokespecial idx, 3)) (F : px_lkO (px_my m).cls idx) (hs : st.length ≤ 8) (h : px_SW d m (pc + 3) L st w k Q) : px_SW d m pc L (.ref a :: st) w k Q := by
  intro p l e s mi args below meth c A D as0 as ws tys H locs ls C B hk
  have hts := C.2.2.2.2.1
  refine W.objInit C.1 C.2.1 C.2.2.2.1 (hts _ F.1) (hts _ F.2.1) (hts _ F.2.2) rfl (by rw [C.2.2.1]; exact B.lo.1.1) rfl hd (by show 1 ≤ d + 1; omega) ?_ (h p l e s mi args below meth c A D as0 as ws tys H locs ls C (B.toS B.sk.tl) hk)
  have h1 := lv_room (m := mi) (pc := pc) (ls := ls) (rest := (Value.ref a :: st).map (px_v as)) (st := st.map (px_v as)) (by rw [px_sok.cat B.sk.tl]; exact hs)
  show _ ≤ 40 * (d + 1)
  omega
end PXX
end
section
/-! calls -/
theorem px_iv_inv {n : Nat} {st vs rest : List Value} (h : px_iv n st = some (vs, rest)) : st = vs.reverse ++ rest ∧ vs.length = n ∧ rest.length ≤ 8 := by
  unfold px_iv at h
  split at h
  · rename_i hl
    cases h
    refine ⟨by rw [List.reverse_reverse, List.take_append_drop], ?_, hl.2⟩
    rw [List.length_reverse, List.length_take]
    omega
  · cases h
theorem px_sok.app_l {n : Nat} {a b : List Value} (h : px_sok n (a ++ b)) : px_sok n a := fun v hv => h v (List.mem_append_left _ hv)
theorem px_sok.app_r {n : Nat} {a b : List Value} (h : px_sok n (a ++ b)) : px_sok n b := fun v hv => h v (List.mem_append_right _ hv)
theorem px_sok.rev {n : Nat} {a : List Value} (h : px_sok n a.reverse) : px_sok n a := fun v hv => h v (List.mem_reverse.mpr hv)
section PXY
variable {p : Program} {l : Launch} {e : Env} {R : Room} {s : State} {mi : MethodId} {args : Array Value} {below : List Frame} {meth : Method} {c : Code} {H : Heap} {locs : List Loc} {cells slots mc ms : Nat}
variable {pc k d : Nat} {ls : Array Slot} {st0 rest : List Value} {D : va_G} {as0 as : List Nat} {ws : va_W} {tys : List (ClassId × FieldType)} {A : Nat → Prop} {a : Array Value} {Z : State → Prop} {Q' Q : Option Value → px_H → Prop} {m m' : px_M} {L : px_L} {w : px_H}
theorem px_after (hr : va_Run p l e R s mi args below meth c H locs cells slots mc ms (F0 mi pc ls st0) rest (px_Qc D as Q' (va_A ws H.size) a) (va_A ws H.size)) (hA : ∀ q, va_A ws H.size q → A q) (hS : va_S A s.heap H locs)
    (kk : ∀ (r : Option Value) (w' : px_H) (as' : List Nat) (ws' : va_W) (tys' : List (ClassId × FieldType)) (H1 : Heap) (locs1 : List Loc), Q' r w' → as <+: as' → (∀ v, r = some v → px_vok as'.length v) → px_R as' ws' tys' w' → va_P D vwCl ws' H1 → va_K D vwCl tys' s → va_D A ws' → va_S A s.heap H1 locs1 → W p l e R s mi args below meth c H1 locs1 (cells + mc) (slots + ms) Z (F0 mi (pc + 3) ls ((r.map (px_v as')).toList ++ rest))) :
    W p l e R s mi args below meth c H locs cells slots Z (F0 mi pc ls st0) := by
  intro T hT X
  obtain ⟨v, st₀, t, T', L, h0, X', hL, e1, e2, ⟨⟨r, w', as', ws', tys', hv, hq, hpre, hrok, hR, hP, hK, hD⟩, hz, hk⟩, st⟩ := hr T hT X
  cases hv
  rw [h0] at hz hk
  have hal : s.vm.Alike t.vm := by rw [← e2]; exact X'.warmed.alike
  obtain ⟨t2, a1, b1⟩ := kk r w' as' ws' tys' T'.heap (locs ++ L) hq hpre hrok hR (by rw [e1]; exact hP) (va_K.moved hal.symm hK) (hD.weaken (fun _ q _ h => hA q.1 h))
    ⟨Nat.le_trans hS.1 (by rw [e1]; exact hz), fun q h1 h2 => by rw [e1, hk q (Nat.lt_of_lt_of_le h1 hS.1) (fun z => h2 (hA q z))]; exact hS.2.1 q h1 h2, fun q hq => by
      rcases List.mem_append.mp hq with h | h
      · exact hS.2.2 q h
      · exact hA _ (hL q h)⟩ T' rfl X'
  exact ⟨t2, st t2 a1, b1⟩
theorem px_done (C : px_C m p s mi args meth c A) (B : px_B s A D as0 as ws tys H locs ls (px_ml m) L st0 w) (hrest : px_sok as.length rest) (hk1 : k + px_mc m' ≤ px_mc m)
    (hr : va_Run p l e (px_rm d m) s mi args below meth c H locs k (320 * k) (px_mc m') (320 * px_mc m') (F0 mi pc ls (st0.map (px_v as))) (rest.map (px_v as)) (px_Qc D as (fun r w' => px_SW d m (pc + 3) L (r.toList ++ rest) w' (k + px_mc m') Q) (va_A ws H.size) a) (va_A ws H.size)) :
    W p l e (px_rm d m) s mi args below meth c H locs k (320 * k) (MQ below (px_Qc D as0 Q A) args s (px_mc m) (320 * px_mc m) A) (F0 mi pc ls (st0.map (px_v as))) := by
  have hA : ∀ q, va_A ws H.size q → A q := by
    intro q h
    rcases h with ⟨i, e', h⟩ | h
    · exact B.2.2.1.2 i (q, e') h
    · exact C.2.2.2.2.2.2.2.2.2 q (Nat.le_trans B.2.2.2.1.1 h)
  refine px_after hr hA B.2.2.2.1 (fun r w' as' ws' tys' H1 locs1 hq hpre hrok hR hP hK hD hS => ?_)
  have hle : as.length ≤ as'.length := hpre.length_le
  have hs : px_sok as'.length (r.toList ++ rest) := by
    intro v hv
    rcases List.mem_append.mp hv with h | h
    · cases r with
      | none => cases h
      | some u =>
        have : v = u := by simpa using h
        subst this
        exact hrok _ rfl
    · exact (hrest v h).le hle
  have := hq p l e s mi args below meth c A D as0 as' ws' tys' H1 locs1 ls C ⟨hK, hP, hD, hS, hR, B.2.2.2.2.2.1.trans hpre, B.lo.pre hpre, hs⟩ hk1
  rw [show (r.toList ++ rest).map (px_v as') = (r.map (px_v as')).toList ++ rest.map (px_v as) by
    rw [List.map_append]
    congr 1
    · cases r <;> rfl
    · obtain ⟨t, rfl⟩ := hpre
      exact px_sok.map hrest] at this
  rw [show 320 * k + 320 * px_mc m' = 320 * (k + px_mc m') by omega]
  exact this
end PXY
theorem px_hR {d : Nat} {m m' : px_M} (h : px_mok m') : (px_rm d m').frames + 1 ≤ (px_rm (d + 1) m).frames ∧ 8 + (px_ml m' + 11) + (px_rm d m').locals ≤ (px_rm (d + 1) m).locals := by
  have h1 := h.2.2.2
  constructor
  · show d + 1 + 1 ≤ d + 1 + 1
    omega
  · show 8 + (px_ml m' + 11) + 40 * (d + 1) ≤ 40 * (d + 1 + 1)
    omega
def px_len1 (y : MethodName) (n : Nat) : Prop := (parseMethodDescriptor y.desc).map (fun d => d.parameters.length) = some n
def px_lkS (own : String) (idx n : Nat) (m' : px_M) : Prop := Cond.methodLink own idx (px_my m') ∈ px_W ∧ Cond.static (px_my m') ∈ px_W ∧ Cond.initialized (px_my m').cls ∈ px_W ∧ px_len1 (px_my m') n
def px_lkI (own : String) (idx n : Nat) (m' : px_M) : Prop := Cond.methodLink own idx (px_my m') ∈ px_W ∧ Cond.instanceMethod (px_my m') ∈ px_W ∧ Cond.initialized (px_my m').cls ∈ px_W ∧ (px_my m').name = "<init>" ∧ px_mr m' = none ∧ px_len1 (px_my m') n
def px_lkN (own : String) (idx n : Nat) (m' : px_M) : Prop := (∃ host : String, Cond.methodLinkNest own idx (px_my m') host ∈ px_Z) ∧ Cond.instanceMethod (px_my m') ∈ px_W ∧ Cond.initialized (px_my m').cls ∈ px_W ∧ (px_my m').name = "<init>" ∧ px_mr m' = none ∧ px_len1 (px_my m') n
def px_lkV (own : String) (idx n ci : Nat) (m' : px_M) : Prop := ∃ r : vw_C, vwCl[ci]? = some r ∧ Cond.methodLink own idx (px_my m') ∈ px_W ∧ Cond.instanceMethod (px_my m') ∈ px_W ∧ Cond.selects r.1 (px_my m') (px_my m') ∈ px_W ∧ Cond.initialized (px_my m').cls ∈ px_W ∧ px_len1 (px_my m') n
def px_lkU (own : String) (idx n ci : Nat) (m' : px_M) (owner : String) : Prop := ∃ (r : vw_C) (x : MethodName), vwCl[ci]? = some r ∧ Cond.methodLink own idx x ∈ px_W ∧ Cond.sameMethod x.cls owner x.name x.desc ∈ px_W ∧ Cond.selects r.1 x (px_my m') ∈ px_W ∧ Cond.instanceMethod (px_my m') ∈ px_W ∧ Cond.initialized (px_my m').cls ∈ px_W ∧ (owner ≠ "java/lang/invoke/MethodHandle" ∧ owner ≠ "java/lang/invoke/VarHandle") ∧
  (Cond.declares ⟨owner, x.name, x.desc⟩ ∈ px_Z ∨ (Cond.instanceMethod ⟨owner, x.name, x.desc⟩ ∈ px_W ∧ ∃ (b0 : ByteArray) (m0 : Nat) (r0 : Option FieldType), Cond.code ⟨owner, x.name, x.desc⟩ b0 m0 r0 ∈ px_W)) ∧ px_len1 x n
def px_lkX (own : String) (idx n : Nat) (m' : px_M) : Prop := Cond.methodLink own idx (px_my m') ∈ px_W ∧ Cond.sameMethod (px_my m').cls (px_my m').cls (px_my m').name (px_my m').desc ∈ px_W ∧ Cond.superclass own (px_my m').cls ∈ px_W ∧ Cond.instanceMethod (px_my m') ∈ px_W ∧ Cond.initialized (px_my m').cls ∈ px_W ∧ (px_my m').name ≠ "<init>" ∧ px_len1 (px_my m') n
theorem px_len1.sig {y : MethodName} {n : Nat} (h : px_len1 y n) : ∀ sig, parseMethodDescriptor y.desc = some sig → n = sig.parameters.length := by
  intro sig hs
  unfold px_len1 at h
  rw [hs] at h
  exact (Option.some.inj h).symm
section PXZ
variable {d : Nat} {m m' : px_M} {pc k idx n : Nat} {L : px_L} {st vs rest : List Value} {w : px_H} {Q : Option Value → px_H → Prop}
theorem px_q_static (hd : decode (px_mb m) pc = .ok (.invokestatic idx, 3)) (hm' : px_mok m') (F : px_lkS (px_my m).cls idx n m') (hst : px_iv n st = some (vs, rest)) (hk1 : k + px_mc m' ≤ px_mc m)
    (SC : px_SC d m' vs w (fun r w' => px_SW (d + 1) m (pc + 3) L (r.toList ++ rest) w' (k + px_mc m') Q)) : px_SW (d + 1) m pc L st w k Q := by
  intro p l e s mi args below meth c A D as0 as ws tys H locs ls C B hk
  obtain ⟨rfl, hn, h8⟩ := px_iv_inv hst
  have hts := C.2.2.2.2.1
  have hvs : px_sok as.length vs := B.sk.app_l.rev
  have hrest : px_sok as.length rest := B.sk.app_r
  have hM := SC l D as ws tys H.size B.r hvs
  refine px_done C B hrest hk1 (va_runS (As := vs.map (px_v as)) (rest := rest.map (px_v as)) (g := F0 mi pc ls ((vs.reverse ++ rest).map (px_v as))) (Ts := px_W) ⟨C.1, C.2.1, C.2.2.1, C.2.2.2.1, hts⟩ hM
    ⟨callB_of n hts (px_good hm') rfl rfl rfl (hts _ F.2.2.1) (hts _ F.1) ⟨hm'.2.2.1.1, hm'.2.2.1.2, F.2.2.2⟩ (px_hR hm'), hts _ F.2.1⟩
    ⟨px_blind, fun U hU hW => ⟨rfl, by rw [hU], by rw [hU]; exact B.2.1, va_K.moved hW.alike B.1, B.2.2.1.weaken (fun _ _ _ _ => trivial), C.2.2.2.2.2.1.warm hW⟩⟩ rfl (by rw [List.length_map]; exact hn) B.lo.1.1 ?_ (lv_room (by rw [px_sok.cat hrest]; exact h8)) hd ⟨hk1, by show 320 * k + 320 * px_mc m' ≤ 320 * px_mc m; omega⟩)
  show (vs.reverse ++ rest).map (px_v as) = _
  rw [List.map_append, List.map_reverse]
theorem px_q_init {b : Nat} (hd : decode (px_mb m) pc = .ok (.invokespecial idx, 3)) (hm' : px_mok m') (F : px_lkI (px_my m).cls idx n m' ∨ px_lkN (px_my m).cls idx n m') (hst : px_iv n st = some (vs, .ref b :: rest)) (hk1 : k + px_mc m' ≤ px_mc m)
    (SC : px_SC d m' (.ref b :: vs) w (fun r w' => px_SW (d + 1) m (pc + 3) L (r.toList ++ rest) w' (k + px_mc m') Q)) : px_SW (d + 1) m pc L st w k Q := by
  intro p l e s mi args below meth c A D as0 as ws tys H locs ls C B hk
  obtain ⟨rfl, hn, h8⟩ := px_iv_inv hst
  have hts := C.2.2.2.2.1
  have hvs : px_sok as.length vs := B.sk.app_l.rev
  have hbr : px_sok as.length (.ref b :: rest) := B.sk.app_r
  have hrest : px_sok as.length rest := hbr.tl
  have hM := SC l D as ws tys H.size B.r (px_sok.cons hbr.hd hvs)
  have hstk : (vs.reverse ++ .ref b :: rest).map (px_v as) = (vs.map (px_v as)).reverse ++ .ref (as.getD b 0) :: rest.map (px_v as) := by
    rw [List.map_append, List.map_reverse]
    rfl
  have h8' : rest.length ≤ 8 := Nat.le_trans (Nat.le_succ _) h8
  have hpre : PreS s H (px_Pc (.ref b :: vs) D as ws tys H.size) (.ref (as.getD b 0) :: vs.map (px_v as)) := ⟨px_blind, fun U hU hW => ⟨rfl, by rw [hU], by rw [hU]; exact B.2.1, va_K.moved hW.alike B.1, B.2.2.1.weaken (fun _ _ _ _ => trivial), C.2.2.2.2.2.1.warm hW⟩⟩
  have hcap : k + px_mc m' ≤ (px_rm (d + 1) m).cells ∧ 320 * k + 320 * px_mc m' ≤ (px_rm (d + 1) m).slots := ⟨hk1, by show 320 * k + 320 * px_mc m' ≤ 320 * px_mc m; omega⟩
  rcases F with F | F
  · have hw : px_ws m' = Cond.code (px_my m') (px_mb m') (px_ml m') none :: px_W := by unfold px_ws; rw [F.2.2.2.2.1]
    exact px_done C B hrest hk1 (va_runI (As := vs.map (px_v as)) (rest := rest.map (px_v as)) (b := as.getD b 0) (g := F0 mi pc ls _) (Ts := px_W) ⟨C.1, C.2.1, C.2.2.1, C.2.2.2.1, hts⟩ hM
      (cwI n hts (px_good hm') hw rfl rfl (hts _ F.2.2.1) (hts _ F.1) (hts _ F.2.1) F.2.2.2.1 ⟨hm'.2.2.1.1, hm'.2.2.1.2, F.2.2.2.2.2⟩ (px_hR hm'))
      hpre rfl (by rw [List.length_map]; exact hn) B.lo.1.1 hstk (lv_room (by rw [px_sok.cat hrest]; exact h8')) hd hcap)
  · have hw : px_ws m' = Cond.code (px_my m') (px_mb m') (px_ml m') none :: px_W := by unfold px_ws; rw [F.2.2.2.2.1]
    obtain ⟨⟨host, hho⟩, F⟩ := F
    exact px_done C B hrest hk1 (va_runIN (As := vs.map (px_v as)) (rest := rest.map (px_v as)) (b := as.getD b 0) (g := F0 mi pc ls _) (Ts := px_W) ⟨C.1, C.2.1, C.2.2.1, C.2.2.2.1, hts⟩ hM
      ⟨va_cnB (host := host) n hts (px_good hm') hw rfl rfl (C.2.2.2.2.2.1 _ hho) (hts _ F.2.1) ⟨hm'.2.2.1.1, hm'.2.2.1.2, F.2.2.2.2⟩ (px_hR hm'), F.2.2.1, hts _ F.1⟩
      hpre rfl (by rw [List.length_map]; exact hn) B.lo.1.1 hstk (lv_room (by rw [px_sok.cat hrest]; exact h8')) hd hcap)
theorem px_q_virt {b ci : Nat} {owner : String} (hd : decode (px_mb m) pc = .ok (.invokevirtual idx, 3)) (hm' : px_mok m') (F : px_lkV (px_my m).cls idx n ci m' ∨ px_lkU (px_my m).cls idx n ci m' owner) (hst : px_iv n st = some (vs, .ref b :: rest)) (hcl : px_cls w b = some ci) (hk1 : k + px_mc m' ≤ px_mc m)
    (SC : px_SC d m' (.ref b :: vs) w (fun r w' => px_SW (d + 1) m (pc + 3) L (r.toList ++ rest) w' (k + px_mc m') Q)) : px_SW (d + 1) m pc L st w k Q := by
  intro p l e s mi args below meth c A D as0 as ws tys H locs ls C B hk
  obtain ⟨rfl, hn, h8⟩ := px_iv_inv hst
  have hts := C.2.2.2.2.1
  have hvs : px_sok as.length vs := B.sk.app_l.rev
  have hbr : px_sok as.length (.ref b :: rest) := B.sk.app_r
  have hrest : px_sok as.length rest := hbr.tl
  have hM := SC l D as ws tys H.size B.r (px_sok.cons hbr.hd hvs)
  have hstk : (vs.reverse ++ .ref b :: rest).map (px_v as) = (vs.map (px_v as)).reverse ++ .ref (as.getD b 0) :: rest.map (px_v as) := by
    rw [List.map_append, List.map_reverse]
    rfl
  have h8' : rest.length ≤ 8 := Nat.le_trans (Nat.le_succ _) h8
  obtain ⟨fs, hfs⟩ := px_cls_inv hcl
  obtain ⟨-, eb, heb, hceb⟩ := B.r.2.2 b _ hfs
  cases hceb
  have hcap : k + px_mc m' ≤ (px_rm (d + 1) m).cells ∧ 320 * k + 320 * px_mc m' ≤ (px_rm (d + 1) m).slots := ⟨hk1, by show 320 * k + 320 * px_mc m' ≤ 320 * px_mc m; omega⟩
  rcases F with ⟨r, hr, F1, F2, F3, F4, F5⟩ | ⟨r, x, hr, F1, F2, F3, F4, F5, F6, F7, F8⟩
  · have hpre : PreV s H r.1 (as.getD b 0) (px_Pc (.ref b :: vs) D as ws tys H.size) (vs.map (px_v as)) := ⟨px_blind, va_recv B.1 B.2.1 hr heb, fun U hU hW => ⟨rfl, by rw [hU], by rw [hU]; exact B.2.1, va_K.moved hW.alike B.1, B.2.2.1.weaken (fun _ _ _ _ => trivial), C.2.2.2.2.2.1.warm hW⟩⟩
    exact px_done C B hrest hk1 (va_runV (As := vs.map (px_v as)) (rest := rest.map (px_v as)) (b := as.getD b 0) (C := r.1) (g := F0 mi pc ls _) (Ts := px_W) ⟨C.1, C.2.1, C.2.2.1, C.2.2.2.1, hts⟩ hM
      ⟨callB_of n hts (px_good hm') rfl rfl rfl (hts _ F4) (hts _ F1) ⟨hm'.2.2.1.1, hm'.2.2.1.2, F5⟩ (px_hR hm'), hts _ F2, hts _ F3⟩
      hpre rfl (by rw [List.length_map]; exact hn) B.lo.1.1 hstk (lv_room (by rw [px_sok.cat hrest]; exact h8')) hd hcap)
  · have hpre : PreV s H r.1 (as.getD b 0) (px_Pc (.ref b :: vs) D as ws tys H.size) (vs.map (px_v as)) := ⟨px_blind, va_recv B.1 B.2.1 hr heb, fun U hU hW => ⟨rfl, by rw [hU], by rw [hU]; exact B.2.1, va_K.moved hW.alike B.1, B.2.2.1.weaken (fun _ _ _ _ => trivial), C.2.2.2.2.2.1.warm hW⟩⟩
    have hdecl : va_Decl s ⟨owner, x.name, x.desc⟩ := by
      rcases F7 with q | ⟨q1, b0, m0, r0, q2⟩
      · exact va_Decl.abs (C.2.2.2.2.2.1 _ q)
      · exact va_Decl.of (hts _ q1) (hts _ q2)
    have hcc : Cond.code (px_my m') (px_mb m') (px_ml m') (px_mr m') ∈ px_ws m' := List.mem_cons_self
    exact px_done C B hrest hk1 (va_runU (x := x) (owner := owner) (As := vs.map (px_v as)) (rest := rest.map (px_v as)) (b := as.getD b 0) (C := r.1) (g := F0 mi pc ls _) (Ts := px_W) ⟨C.1, C.2.1, C.2.2.1, C.2.2.2.1, hts⟩ hM
      ⟨⟨rfl, rfl, (px_hR hm').1, (px_hR hm').2, pay_in hts (px_good hm'), hcc⟩, hts _ hm'.1, hts _ F5, F6, F8.sig, hts _ F1, hts _ F2, hdecl, hts _ F3, hts _ F4⟩
      hpre rfl (by rw [List.length_map]; exact hn) B.lo.1.1 hstk (lv_room (by rw [px_sok.cat hrest]; exact h8')) hd hcap)
theorem px_q_super {b ci : Nat} (hd : decode (px_mb m) pc = .ok (.invokespecial idx, 3)) (hm' : px_mok m') (F : px_lkX (px_my m).cls idx n m') (hst : px_iv n st = some (vs, .ref b :: rest)) (hcl : px_cls w b = some ci) (hk1 : k + px_mc m' ≤ px_mc m)
    (SC : px_SC d m' (.ref b :: vs) w (fun r w' => px_SW (d + 1) m (pc + 3) L (r.toList ++ rest) w' (k + px_mc m') Q)) : px_SW (d + 1) m pc L st w k Q := by
  intro p l e s mi args below meth c A D as0 as ws tys H locs ls C B hk
  obtain ⟨rfl, hn, h8⟩ := px_iv_inv hst
  have hts := C.2.2.2.2.1
  have hvs : px_sok as.length vs := B.sk.app_l.rev
  have hbr : px_sok as.length (.ref b :: rest) := B.sk.app_r
  have hrest : px_sok as.length rest := hbr.tl
  have hM := SC l D as ws tys H.size B.r (px_sok.cons hbr.hd hvs)
  have hstk : (vs.reverse ++ .ref b :: rest).map (px_v as) = (vs.map (px_v as)).reverse ++ .ref (as.getD b 0) :: rest.map (px_v as) := by
    rw [List.map_append, List.map_reverse]
    rfl
  have h8' : rest.length ≤ 8 := Nat.le_trans (Nat.le_succ _) h8
  obtain ⟨fs, hfs⟩ := px_cls_inv hcl
  obtain ⟨-, eb, heb, hceb⟩ := B.r.2.2 b _ hfs
  cases hceb
  have hcap : k + px_mc m' ≤ (px_rm (d + 1) m).cells ∧ 320 * k + 320 * px_mc m' ≤ (px_rm (d + 1) m).slots := ⟨hk1, by show 320 * k + 320 * px_mc m' ≤ 320 * px_mc m; omega⟩
  obtain ⟨r, hr, -⟩ := B.2.1 b _ heb
  obtain ⟨F1, F2, F3, F4, F5, F6, F7⟩ := F
  have hpre : PreV s H r.1 (as.getD b 0) (px_Pc (.ref b :: vs) D as ws tys H.size) (vs.map (px_v as)) := ⟨px_blind, va_recv B.1 B.2.1 hr heb, fun U hU hW => ⟨rfl, by rw [hU], by rw [hU]; exact B.2.1, va_K.moved hW.alike B.1, B.2.2.1.weaken (fun _ _ _ _ => trivial), C.2.2.2.2.2.1.warm hW⟩⟩
  have hcc : Cond.code (px_my m') (px_mb m') (px_ml m') (px_mr m') ∈ px_ws m' := List.mem_cons_self
  exact px_done C B hrest hk1 (va_runSU (As := vs.map (px_v as)) (rest := rest.map (px_v as)) (b := as.getD b 0) (C := r.1) (g := F0 mi pc ls _) (Ts := px_W) (B.1.1 ci r hr).2 ⟨C.1, C.2.1, C.2.2.1, C.2.2.2.1, hts⟩ hM
    ⟨⟨rfl, rfl, (px_hR hm').1, (px_hR hm').2, pay_in hts (px_good hm'), hcc⟩, hts _ F1, hts _ F2, hts _ F3, hts _ F4, hts _ F5, hts _ hm'.1, F6, F7.sig⟩
    hpre rfl (by rw [List.length_map]; exact hn) B.lo.1.1 hstk (lv_room (by rw [px_sok.cat hrest]; exact h8')) hd hcap)
end PXZ
end
section
/-! what the pure machine's run says of the real one -/
def px_il : Jvm.ClassFile.Instr → Nat
  | .bipush _ => 2
  | .ldc _ => 2
  | .iload _ => 2
  | .aload _ => 2
  | .istore _ => 2
  | .astore _ => 2
  | .newarray _ => 2
  | .sipush _ => 3
  | .ldc_w _ => 3
  | .iinc .. => 3
  | .goto _ => 3
  | .ifCond .. => 3
  | .if_icmp .. => 3
  | .ifnull _ => 3
  | .ifnonnull _ => 3
  | .getfield _ => 3
  | .putfield _ => 3
  | .new _ => 3
  | .anewarray _ => 3
  | .invokestatic _ => 3
  | .invokespecial _ => 3
  | .invokevirtual _ => 3
  | _ => 1
def px_ln (pc : Nat) (i : Jvm.ClassFile.Instr) (len : Nat) : Bool := match i with
  | .tableswitch .. => true
  | .lookupswitch .. => true
  | .ifCond c off => (len == 3) && decide (0 ≤ (pc : Int) + off)
  | .if_icmp c off => (len == 3) && decide (0 ≤ (pc : Int) + off)
  | i => len == px_il i
/-- what the tables must say for an instruction of a method -/
def px_lk (T : List px_M) (m : px_M) (i : Jvm.ClassFile.Instr) (X : px_X) : Prop := match i with
  | .ldc idx => Cond.constant (px_my m).cls idx X.2.2.2.1 ∈ px_W
  | .ldc_w idx => Cond.constant (px_my m).cls idx X.2.2.2.1 ∈ px_W
  | .getfield idx => px_lkF (px_my m).cls idx X
  | .putfield idx => px_lkF (px_my m).cls idx X ∧ px_lkP m X
  | .new idx => ∃ r : vw_C, vwCl[X.2.1]? = some r ∧ Cond.classLink (px_my m).cls idx r.1 ∈ px_W
  | .newarray t => ∀ ty, px_nat t = some ty → Cond.arrayClass ty ∈ px_W
  | .anewarray idx => Cond.classLink (px_my m).cls idx X.2.2.2.2 ∈ px_W ∧ Cond.arrayOver (.object X.2.2.2.2) ∈ px_Z
  | .invokestatic idx => if X.1 = 37 then px_lkC (px_my m).cls idx else if X.1 = 38 then px_lkM (px_my m).cls idx else ∀ ci M m', (ci, M) ∈ X.2.2.1 → T[M]? = some m' → px_lkS (px_my m).cls idx X.2.1 m'
  | .invokespecial idx => if X.1 = 36 then px_lkO (px_my m).cls idx else ∀ ci M m', (ci, M) ∈ X.2.2.1 → T[M]? = some m' → (if X.1 = 35 then px_lkX (px_my m).cls idx X.2.1 m' else px_lkI (px_my m).cls idx X.2.1 m' ∨ px_lkN (px_my m).cls idx X.2.1 m')
  | .invokevirtual idx => ∀ ci M m', (ci, M) ∈ X.2.2.1 → T[M]? = some m' → px_lkV (px_my m).cls idx X.2.1 ci m' ∨ px_lkU (px_my m).cls idx X.2.1 ci m' X.2.2.2.2
  | _ => True
def px_TOK (T : List px_M) : Prop := ∀ (M : Nat) (m : px_M), T[M]? = some m → px_mok m ∧ ∀ (pc : Nat) (q : px_I), (px_mi m).lookup pc = some q → decode (px_mb m) pc = .ok (q.1, q.2.1) ∧ px_ln pc q.1 q.2.1 = true ∧ px_lk T m q.1 q.2.2
def px_goal (T : List px_M) (d : Nat) (m : px_M) (pc : Nat) (L : px_L) (st : List Value) (w : px_H) (k : Nat) (Q : Option Value → px_H → Prop) (A : px_A) : Prop := match A with
  | .inl S => px_SW d m S.1 S.2.1 S.2.2.1 S.2.2.2.1 S.2.2.2.2 Q → px_SW d m pc L st w k Q
  | .inr (.inl r) => Q r.1 r.2 → px_SW d m pc L st w k Q
  | .inr (.inr c) => ∀ (d' : Nat) (m' : px_M), d = d' + 1 → T[c.1]? = some m' → c.2.2.2.2.2.2 + px_mc m' ≤ px_mc m → px_SC d' m' c.2.1 c.2.2.2.2.2.1 (fun r w' => px_SW d m c.2.2.1 c.2.2.2.1 (r.toList ++ c.2.2.2.2.1) w' (c.2.2.2.2.2.2 + px_mc m') Q) → px_SW d m pc L st w k Q
theorem px_jmp_inv {pc t : Nat} {off : Int} (h : px_jmp pc off = some t) : (pc : Int) + off = (t : Int) := by
  unfold px_jmp at h
  split at h
  · rename_i h0
    cases h
    exact (Int.toNat_of_nonneg h0).symm
  · cases h
theorem px_len_eq {i : Jvm.ClassFile.Instr} {len : Nat} (h : (len == px_il i) = true) : len = px_il i := by simpa using h
section PXS
variable {T : List px_M} {m : px_M} {len : Nat} {X : px_X} {pc : Nat} {L : px_L} {st : List Value} {w : px_H} {k d : Nat} {Q : Option Value → px_H → Prop} {A : px_A}
theorem px_t_null   (hd : decode (px_mb m) pc = .ok (.aconst_null, 1)) (h : px_act m (.aconst_null) X pc L st w k = some A) : px_goal T d m pc L st w k Q A := by
  cases h
  exact fun g => px_q_null hd g
theorem px_t_iconst {n : Int}  (hd : decode (px_mb m) pc = .ok (.iconst n, 1)) (h : px_act m (.iconst n) X pc L st w k = some A) : px_goal T d m pc L st w k Q A := by
  cases h
  exact fun g => px_q_iconst hd g
theorem px_t_bipush {n : Int}  (hd : decode (px_mb m) pc = .ok (.bipush n, 2)) (h : px_act m (.bipush n) X pc L st w k = some A) : px_goal T d m pc L st w k Q A := by
  cases h
  exact fun g => px_q_bipush hd g
theorem px_t_sipush {n : Int}  (hd : decode (px_mb m) pc = .ok (.sipush n, 3)) (h : px_act m (.sipush n) X pc L st w k = some A) : px_goal T d m pc L st w k Q A := by
  cases h
  exact fun g => px_q_sipush hd g
theorem px_t_ldc {n : Nat} (lk : px_lk T m (.ldc n) X) (hd : decode (px_mb m) pc = .ok (.ldc n, 2)) (h : px_act m (.ldc n) X pc L st w k = some A) : px_goal T d m pc L st w k Q A := by
  cases h
  exact fun g => px_q_ldc hd lk g
theorem px_t_ldc_w {n : Nat} (lk : px_lk T m (.ldc_w n) X) (hd : decode (px_mb m) pc = .ok (.ldc_w n, 3)) (h : px_act m (.ldc_w n) X pc L st w k = some A) : px_goal T d m pc L st w k Q A := by
  cases h
  exact fun g => px_q_ldc_w hd lk g
theorem px_t_iload {j : Nat}  (hd : decode (px_mb m) pc = .ok (.iload j, 2)) (h : px_act m (.iload j) X pc L st w k = some A) : px_goal T d m pc L st w k Q A := by
  simp only [px_act] at h
  split at h
  · rename_i x hx
    cases h
    exact fun g => px_q_iload hd hx g
  · cases h
theorem px_t_iload_n {j : Fin 4}  (hd : decode (px_mb m) pc = .ok (.iload_n j, 1)) (h : px_act m (.iload_n j) X pc L st w k = some A) : px_goal T d m pc L st w k Q A := by
  simp only [px_act] at h
  split at h
  · rename_i x hx
    cases h
    exact fun g => px_q_iload_n hd hx g
  · cases h
theorem px_t_aload {j : Nat}  (hd : decode (px_mb m) pc = .ok (.aload j, 2)) (h : px_act m (.aload j) X pc L st w k = some A) : px_goal T d m pc L st w k Q A := by
  simp only [px_act] at h
  split at h
  · rename_i v hx
    split at h
    · rename_i hv
      cases h
      exact fun g => px_q_aload hd hx hv g
    · cases h
  · cases h
theorem px_t_aload_n {j : Fin 4}  (hd : decode (px_mb m) pc = .ok (.aload_n j, 1)) (h : px_act m (.aload_n j) X pc L st w k = some A) : px_goal T d m pc L st w k Q A := by
  simp only [px_act] at h
  split at h
  · rename_i v hx
    split at h
    · rename_i hv
      cases h
      exact fun g => px_q_aload_n hd hx hv g
    · cases h
  · cases h
theorem px_t_istore {j : Nat}  (hd : decode (px_mb m) pc = .ok (.istore j, 2)) (h : px_act m (.istore j) X pc L st w k = some A) : px_goal T d m pc L st w k Q A := by
  simp only [px_act] at h
  split at h
  · rename_i x st'
    split at h
    · rename_i hj
      cases h
      exact fun g => px_q_istore hd hj g
    · cases h
  · cases h
theorem px_t_istore_n {j : Fin 4}  (hd : decode (px_mb m) pc = .ok (.istore_n j, 1)) (h : px_act m (.istore_n j) X pc L st w k = some A) : px_goal T d m pc L st w k Q A := by
  simp only [px_act] at h
  split at h
  · rename_i x st'
    split at h
    · rename_i hj
      cases h
      exact fun g => px_q_istore_n hd hj g
    · cases h
  · cases h
theorem px_t_astore {j : Nat}  (hd : decode (px_mb m) pc = .ok (.astore j, 2)) (h : px_act m (.astore j) X pc L st w k = some A) : px_goal T d m pc L st w k Q A := by
  simp only [px_act] at h
  split at h
  · rename_i v st'
    split at h
    · rename_i hj
      cases h
      exact fun g => px_q_astore hd hj.2 hj.1 g
    · cases h
  · cases h
theorem px_t_astore_n {j : Fin 4}  (hd : decode (px_mb m) pc = .ok (.astore_n j, 1)) (h : px_act m (.astore_n j) X pc L st w k = some A) : px_goal T d m pc L st w k Q A := by
  simp only [px_act] at h
  split at h
  · rename_i v st'
    split at h
    · rename_i hj
      cases h
      exact fun g => px_q_astore_n hd hj.2 hj.1 g
    · cases h
  · cases h
theorem px_t_iinc {j : Nat} {n : Int}  (hd : decode (px_mb m) pc = .ok (.iinc j n, 3)) (h : px_act m (.iinc j n) X pc L st w k = some A) : px_goal T d m pc L st w k Q A := by
  simp only [px_act] at h
  split at h
  · rename_i x hx
    cases h
    exact fun g => px_q_iinc hd hx g
  · cases h
theorem px_t_iadd   (hd : decode (px_mb m) pc = .ok (.iadd, 1)) (h : px_act m (.iadd) X pc L st w k = some A) : px_goal T d m pc L st w k Q A := by
  simp only [px_act] at h
  split at h
  · cases h
    exact fun g => px_q_iadd hd g
  · cases h
theorem px_t_isub   (hd : decode (px_mb m) pc = .ok (.isub, 1)) (h : px_act m (.isub) X pc L st w k = some A) : px_goal T d m pc L st w k Q A := by
  simp only [px_act] at h
  split at h
  · cases h
    exact fun g => px_q_isub hd g
  · cases h
theorem px_t_imul   (hd : decode (px_mb m) pc = .ok (.imul, 1)) (h : px_act m (.imul) X pc L st w k = some A) : px_goal T d m pc L st w k Q A := by
  simp only [px_act] at h
  split at h
  · cases h
    exact fun g => px_q_imul hd g
  · cases h
theorem px_t_iand   (hd : decode (px_mb m) pc = .ok (.iand, 1)) (h : px_act m (.iand) X pc L st w k = some A) : px_goal T d m pc L st w k Q A := by
  simp only [px_act] at h
  split at h
  · cases h
    exact fun g => px_q_iand hd g
  · cases h
theorem px_t_ior   (hd : decode (px_mb m) pc = .ok (.ior, 1)) (h : px_act m (.ior) X pc L st w k = some A) : px_goal T d m pc L st w k Q A := by
  simp only [px_act] at h
  split at h
  · cases h
    exact fun g => px_q_ior hd g
  · cases h
theorem px_t_ixor   (hd : decode (px_mb m) pc = .ok (.ixor, 1)) (h : px_act m (.ixor) X pc L st w k = some A) : px_goal T d m pc L st w k Q A := by
  simp only [px_act] at h
  split at h
  · cases h
    exact fun g => px_q_ixor hd g
  · cases h
theorem px_t_ishl   (hd : decode (px_mb m) pc = .ok (.ishl, 1)) (h : px_act m (.ishl) X pc L st w k = some A) : px_goal T d m pc L st w k Q A := by
  simp only [px_act] at h
  split at h
  · cases h
    exact fun g => px_q_ishl hd g
  · cases h
theorem px_t_ishr   (hd : decode (px_mb m) pc = .ok (.ishr, 1)) (h : px_act m (.ishr) X pc L st w k = some A) : px_goal T d m pc L st w k Q A := by
  simp only [px_act] at h
  split at h
  · cases h
    exact fun g => px_q_ishr hd g
  · cases h
theorem px_t_iushr   (hd : decode (px_mb m) pc = .ok (.iushr, 1)) (h : px_act m (.iushr) X pc L st w k = some A) : px_goal T d m pc L st w k Q A := by
  simp only [px_act] at h
  split at h
  · cases h
    exact fun g => px_q_iushr hd g
  · cases h
theorem px_t_idiv   (hd : decode (px_mb m) pc = .ok (.idiv, 1)) (h : px_act m (.idiv) X pc L st w k = some A) : px_goal T d m pc L st w k Q A := by
  simp only [px_act] at h
  split at h
  · split at h
    · cases h
    · rename_i hy
      cases h
      exact fun g => px_q_idiv hd hy g
  · cases h
theorem px_t_irem   (hd : decode (px_mb m) pc = .ok (.irem, 1)) (h : px_act m (.irem) X pc L st w k = some A) : px_goal T d m pc L st w k Q A := by
  simp only [px_act] at h
  split at h
  · split at h
    · cases h
    · rename_i hy
      cases h
      exact fun g => px_q_irem hd hy g
  · cases h
theorem px_t_ineg   (hd : decode (px_mb m) pc = .ok (.ineg, 1)) (h : px_act m (.ineg) X pc L st w k = some A) : px_goal T d m pc L st w k Q A := by
  simp only [px_act] at h
  split at h
  · cases h
    exact fun g => px_q_ineg hd g
  · cases h
theorem px_t_i2b   (hd : decode (px_mb m) pc = .ok (.i2b, 1)) (h : px_act m (.i2b) X pc L st w k = some A) : px_goal T d m pc L st w k Q A := by
  simp only [px_act] at h
  split at h
  · cases h
    exact fun g => px_q_i2b hd g
  · cases h
theorem px_t_i2s   (hd : decode (px_mb m) pc = .ok (.i2s, 1)) (h : px_act m (.i2s) X pc L st w k = some A) : px_goal T d m pc L st w k Q A := by
  simp only [px_act] at h
  split at h
  · cases h
    exact fun g => px_q_i2s hd g
  · cases h
theorem px_t_dup   (hd : decode (px_mb m) pc = .ok (.dup, 1)) (h : px_act m (.dup) X pc L st w k = some A) : px_goal T d m pc L st w k Q A := by
  simp only [px_act] at h
  split at h
  · cases h
    exact fun g => px_q_dup hd g
  · cases h
theorem px_t_pop   (hd : decode (px_mb m) pc = .ok (.pop, 1)) (h : px_act m (.pop) X pc L st w k = some A) : px_goal T d m pc L st w k Q A := by
  simp only [px_act] at h
  split at h
  · cases h
    exact fun g => px_q_pop hd g
  · cases h
theorem px_t_goto {off : Int}  (hd : decode (px_mb m) pc = .ok (.goto off, 3)) (h : px_act m (.goto off) X pc L st w k = some A) : px_goal T d m pc L st w k Q A := by
  simp only [px_act] at h
  obtain ⟨t, ht, hA⟩ := Option.map_eq_some_iff.mp h
  cases hA
  exact fun g => px_q_goto hd (px_jmp_inv ht) g
theorem px_t_if {c : Jvm.ClassFile.Cond} {off : Int} (ho : 0 ≤ (pc : Int) + off) (hd : decode (px_mb m) pc = .ok (.ifCond c off, 3)) (h : px_act m (.ifCond c off) X pc L st w k = some A) : px_goal T d m pc L st w k Q A := by
  simp only [px_act] at h
  split at h
  · obtain ⟨t, ht, hA⟩ := Option.map_eq_some_iff.mp h
    cases hA
    intro g
    split at ht
    · rename_i hc
      have hj := px_jmp_inv ht
      cases c with
      | eq => exact px_q_if_eq hd hj (fun _ => g) (fun z => absurd (of_decide_eq_true hc) z)
      | ne => exact px_q_if_ne hd hj (fun _ => g) (fun z => absurd (of_decide_eq_true hc) (fun q => q z))
      | lt => exact px_q_if_lt hd hj (fun _ => g) (fun z => absurd (of_decide_eq_true hc) z)
      | ge => exact px_q_if_ge hd hj (fun _ => g) (fun z => absurd (of_decide_eq_true hc) z)
      | gt => exact px_q_if_gt hd hj (fun _ => g) (fun z => absurd (of_decide_eq_true hc) z)
      | le => exact px_q_if_le hd hj (fun _ => g) (fun z => absurd (of_decide_eq_true hc) z)
    · rename_i hc
      cases ht
      obtain ⟨t, hj⟩ := Int.eq_ofNat_of_zero_le ho
      cases c with
      | eq => exact px_q_if_eq hd hj (fun z => absurd (decide_eq_true z) hc) (fun _ => g)
      | ne => exact px_q_if_ne hd hj (fun z => absurd (decide_eq_true z) hc) (fun _ => g)
      | lt => exact px_q_if_lt hd hj (fun z => absurd (decide_eq_true z) hc) (fun _ => g)
      | ge => exact px_q_if_ge hd hj (fun z => absurd (decide_eq_true z) hc) (fun _ => g)
      | gt => exact px_q_if_gt hd hj (fun z => absurd (decide_eq_true z) hc) (fun _ => g)
      | le => exact px_q_if_le hd hj (fun z => absurd (decide_eq_true z) hc) (fun _ => g)
  · cases h
theorem px_t_icmp {c : Jvm.ClassFile.Cond} {off : Int} (ho : 0 ≤ (pc : Int) + off) (hd : decode (px_mb m) pc = .ok (.if_icmp c off, 3)) (h : px_act m (.if_icmp c off) X pc L st w k = some A) : px_goal T d m pc L st w k Q A := by
  simp only [px_act] at h
  split at h
  · obtain ⟨t, ht, hA⟩ := Option.map_eq_some_iff.mp h
    cases hA
    intro g
    split at ht
    · rename_i hc
      have hj := px_jmp_inv ht
      cases c with
      | eq => exact px_q_icmp_eq hd hj (fun _ => g) (fun z => absurd (of_decide_eq_true hc) z)
      | ne => exact px_q_icmp_ne hd hj (fun _ => g) (fun z => absurd (of_decide_eq_true hc) (fun q => q z))
      | lt => exact px_q_icmp_lt hd hj (fun _ => g) (fun z => absurd (of_decide_eq_true hc) z)
      | ge => exact px_q_icmp_ge hd hj (fun _ => g) (fun z => absurd (of_decide_eq_true hc) z)
      | gt => exact px_q_icmp_gt hd hj (fun _ => g) (fun z => absurd (of_decide_eq_true hc) z)
      | le => exact px_q_icmp_le hd hj (fun _ => g) (fun z => absurd (of_decide_eq_true hc) z)
    · rename_i hc
      cases ht
      obtain ⟨t, hj⟩ := Int.eq_ofNat_of_zero_le ho
      cases c with
      | eq => exact px_q_icmp_eq hd hj (fun z => absurd (decide_eq_true z) hc) (fun _ => g)
      | ne => exact px_q_icmp_ne hd hj (fun z => absurd (decide_eq_true z) hc) (fun _ => g)
      | lt => exact px_q_icmp_lt hd hj (fun z => absurd (decide_eq_true z) hc) (fun _ => g)
      | ge => exact px_q_icmp_ge hd hj (fun z => absurd (decide_eq_true z) hc) (fun _ => g)
      | gt => exact px_q_icmp_gt hd hj (fun z => absurd (decide_eq_true z) hc) (fun _ => g)
      | le => exact px_q_icmp_le hd hj (fun z => absurd (decide_eq_true z) hc) (fun _ => g)
  · cases h
theorem px_t_ifnull {off : Int}  (hd : decode (px_mb m) pc = .ok (.ifnull off, 3)) (h : px_act m (.ifnull off) X pc L st w k = some A) : px_goal T d m pc L st w k Q A := by
  simp only [px_act] at h
  split at h
  · obtain ⟨t, ht, hA⟩ := Option.map_eq_some_iff.mp h
    cases hA
    exact fun g => px_q_ifnullN hd (px_jmp_inv ht) g
  · cases h
    exact fun g => px_q_ifnull hd g
  · cases h
theorem px_t_ifnonnull {off : Int}  (hd : decode (px_mb m) pc = .ok (.ifnonnull off, 3)) (h : px_act m (.ifnonnull off) X pc L st w k = some A) : px_goal T d m pc L st w k Q A := by
  simp only [px_act] at h
  split at h
  · obtain ⟨t, ht, hA⟩ := Option.map_eq_some_iff.mp h
    cases hA
    exact fun g => px_q_ifnonnull hd (px_jmp_inv ht) g
  · cases h
    exact fun g => px_q_ifnonnullN hd g
  · cases h
theorem px_t_tsw {a lo hi : Int} {offs : Array Int}  (hd : decode (px_mb m) pc = .ok (.tableswitch a lo hi offs, len)) (h : px_act m (.tableswitch a lo hi offs) X pc L st w k = some A) : px_goal T d m pc L st w k Q A := by
  simp only [px_act] at h
  split at h
  · obtain ⟨t, ht, hA⟩ := Option.map_eq_some_iff.mp h
    cases hA
    intro g
    unfold px_tsw at ht
    split at ht
    · rename_i hx
      exact px_q_tswO hd hx (px_jmp_inv ht) g
    · rename_i hx
      split at ht
      · rename_i off ho
        exact px_q_tswI hd (fun q => hx (Or.inl q)) (fun q => hx (Or.inr q)) ho (px_jmp_inv ht) g
      · cases ht
  · cases h
theorem px_t_lsw {a : Int} {ps : Array (Int × Int)}  (hd : decode (px_mb m) pc = .ok (.lookupswitch a ps, len)) (h : px_act m (.lookupswitch a ps) X pc L st w k = some A) : px_goal T d m pc L st w k Q A := by
  simp only [px_act] at h
  split at h
  · obtain ⟨t, ht, hA⟩ := Option.map_eq_some_iff.mp h
    cases hA
    intro g
    unfold px_lsw at ht
    split at ht
    · rename_i hp
      exact px_q_lsw hd hp (px_jmp_inv ht) g
    · cases ht
  · cases h
theorem px_t_get {idx : Nat} (cf : px_CF) (lk : px_lk T m (.getfield idx) X) (hd : decode (px_mb m) pc = .ok (.getfield idx, 3)) (h : px_act m (.getfield idx) X pc L st w k = some A) : px_goal T d m pc L st w k Q A := by
  simp only [px_act] at h
  split at h
  · obtain ⟨v, hv, hA⟩ := Option.map_eq_some_iff.mp h
    cases hA
    exact fun g => px_q_get cf hd lk hv g
  · cases h
theorem px_t_put {idx : Nat} (cf : px_CF) (lk : px_lk T m (.putfield idx) X) (hd : decode (px_mb m) pc = .ok (.putfield idx, 3)) (h : px_act m (.putfield idx) X pc L st w k = some A) : px_goal T d m pc L st w k Q A := by
  simp only [px_act] at h
  split at h
  · obtain ⟨v, hv, hA⟩ := Option.map_eq_some_iff.mp h
    cases hA
    split at hv
    · rename_i hf
      exact fun g => px_q_put cf hd lk.1 lk.2 hf hv g
    · cases hv
  · cases h
theorem px_t_iald   (hd : decode (px_mb m) pc = .ok (.iaload, 1)) (h : px_act m (.iaload) X pc L st w k = some A) : px_goal T d m pc L st w k Q A := by
  simp only [px_act] at h
  split at h
  · obtain ⟨v, hv, hA⟩ := Option.map_eq_some_iff.mp h
    cases hA
    exact fun g => px_q_iald hd hv g
  · cases h
theorem px_t_iast   (hd : decode (px_mb m) pc = .ok (.iastore, 1)) (h : px_act m (.iastore) X pc L st w k = some A) : px_goal T d m pc L st w k Q A := by
  simp only [px_act] at h
  split at h
  · obtain ⟨v, hv, hA⟩ := Option.map_eq_some_iff.mp h
    cases hA
    exact fun g => px_q_iast hd hv g
  · cases h
theorem px_t_bald   (hd : decode (px_mb m) pc = .ok (.baload, 1)) (h : px_act m (.baload) X pc L st w k = some A) : px_goal T d m pc L st w k Q A := by
  simp only [px_act] at h
  split at h
  · obtain ⟨v, hv, hA⟩ := Option.map_eq_some_iff.mp h
    cases hA
    exact fun g => px_q_bald hd hv g
  · cases h
theorem px_t_bast   (hd : decode (px_mb m) pc = .ok (.bastore, 1)) (h : px_act m (.bastore) X pc L st w k = some A) : px_goal T d m pc L st w k Q A := by
  simp only [px_act] at h
  split at h
  · obtain ⟨v, hv, hA⟩ := Option.map_eq_some_iff.mp h
    cases hA
    exact fun g => px_q_bast hd hv g
  · cases h
theorem px_t_aald   (hd : decode (px_mb m) pc = .ok (.aaload, 1)) (h : px_act m (.aaload) X pc L st w k = some A) : px_goal T d m pc L st w k Q A := by
  simp only [px_act] at h
  split at h
  · obtain ⟨v, hv, hA⟩ := Option.map_eq_some_iff.mp h
    cases hA
    exact fun g => px_q_aald hd hv g
  · cases h
theorem px_t_aast   (hd : decode (px_mb m) pc = .ok (.aastore, 1)) (h : px_act m (.aastore) X pc L st w k = some A) : px_goal T d m pc L st w k Q A := by
  simp only [px_act] at h
  split at h
  · obtain ⟨v, hv, hA⟩ := Option.map_eq_some_iff.mp h
    cases hA
    exact fun g => px_q_aast hd hv g
  · cases h
theorem px_t_alen   (hd : decode (px_mb m) pc = .ok (.arraylength, 1)) (h : px_act m (.arraylength) X pc L st w k = some A) : px_goal T d m pc L st w k Q A := by
  simp only [px_act] at h
  split at h
  · obtain ⟨v, hv, hA⟩ := Option.map_eq_some_iff.mp h
    cases hA
    exact fun g => px_q_alen hd hv g
  · cases h
theorem px_t_new {idx : Nat} (cf : px_CF) (lk : px_lk T m (.new idx) X) (hd : decode (px_mb m) pc = .ok (.new idx, 3)) (h : px_act m (.new idx) X pc L st w k = some A) : px_goal T d m pc L st w k Q A := by
  simp only [px_act] at h
  obtain ⟨c, hc, hA⟩ := Option.map_eq_some_iff.mp h
  cases hA
  split at hc
  · rename_i hk
    obtain ⟨r, hr, hl⟩ := lk
    unfold px_new at hc
    rw [hr] at hc
    cases hc
    exact fun g => px_q_new cf hd hr hl hk g
  · cases hc
theorem px_t_newarr {t : Jvm.ClassFile.ArrayType} (lk : px_lk T m (.newarray t) X) (hd : decode (px_mb m) pc = .ok (.newarray t, 2)) (h : px_act m (.newarray t) X pc L st w k = some A) : px_goal T d m pc L st w k Q A := by
  simp only [px_act] at h
  split at h
  · obtain ⟨ty, hc, hA⟩ := Option.map_eq_some_iff.mp h
    cases hA
    split at hc
    · rename_i hk
      exact fun g => px_q_newarr hd hc (lk ty hc) hk.1 hk.2.1 hk.2.2 g
    · cases hc
  · cases h
theorem px_t_anew {idx : Nat} (lk : px_lk T m (.anewarray idx) X) (hd : decode (px_mb m) pc = .ok (.anewarray idx, 3)) (h : px_act m (.anewarray idx) X pc L st w k = some A) : px_goal T d m pc L st w k Q A := by
  simp only [px_act] at h
  split at h
  · split at h
    · rename_i hk
      cases h
      exact fun g => px_q_anew hd lk.1 lk.2 hk.1 hk.2.1 hk.2.2 g
    · cases h
  · cases h
theorem px_t_iret   (hd : decode (px_mb m) pc = .ok (.ireturn, 1)) (h : px_act m (.ireturn) X pc L st w k = some A) : px_goal T d m pc L st w k Q A := by
  simp only [px_act] at h
  split at h
  · split at h
    · rename_i hr
      cases h
      exact fun g => px_q_iret hd (Or.inl hr) g
    · rename_i hr
      split at h
      · rename_i hx
        cases h
        exact fun g => px_q_iret hd (Or.inr ⟨hr, hx⟩) g
      · cases h
    · cases h
  · cases h
theorem px_t_aret   (hd : decode (px_mb m) pc = .ok (.areturn, 1)) (h : px_act m (.areturn) X pc L st w k = some A) : px_goal T d m pc L st w k Q A := by
  simp only [px_act] at h
  split at h
  · split at h
    · rename_i hr
      split at h
      · rename_i hx
        cases h
        exact fun g => px_q_aret hd hr hx g
      · cases h
    · cases h
  · cases h
theorem px_t_vret   (hd : decode (px_mb m) pc = .ok (.return_, 1)) (h : px_act m (.return_) X pc L st w k = some A) : px_goal T d m pc L st w k Q A := by
  simp only [px_act] at h
  split at h
  · split at h
    · rename_i hr
      cases h
      exact fun g => px_q_vret hd hr g
    · cases h
  · cases h
theorem px_t_static {idx : Nat} (ok : ∀ (M : Nat) (m : px_M), T[M]? = some m → px_mok m) (lk : px_lk T m (.invokestatic idx) X) (hd : decode (px_mb m) pc = .ok (.invokestatic idx, 3)) (h : px_act m (.invokestatic idx) X pc L st w k = some A) : px_goal T d m pc L st w k Q A := by
  simp only [px_act] at h
  unfold px_lk at lk
  dsimp only at lk
  by_cases h37 : X.1 = 37
  · rw [if_pos h37] at h lk
    split at h
    · split at h
      · rename_i h8
        obtain ⟨v, hv, hA⟩ := Option.map_eq_some_iff.mp h
        cases hA
        exact fun g => px_q_copy hd lk h8 hv g
      · cases h
    · cases h
  · rw [if_neg h37] at h lk
    by_cases h38 : X.1 = 38
    · rw [if_pos h38] at h lk
      split at h
      · split at h
        · rename_i h8
          cases h
          exact fun g => px_q_max hd lk h8 g
        · cases h
      · cases h
    · rw [if_neg h38] at h lk
      split at h
      · rename_i vs st' ci M hiv hc
        cases h
        intro d' m' hd' hm' hk SC
        subst hd'
        exact px_q_static hd (ok _ _ hm') (lk ci M m' (by rw [hc]; exact List.mem_cons_self) hm') hiv hk SC
      · cases h
theorem px_t_special {idx : Nat} (ok : ∀ (M : Nat) (m : px_M), T[M]? = some m → px_mok m) (lk : px_lk T m (.invokespecial idx) X) (hd : decode (px_mb m) pc = .ok (.invokespecial idx, 3)) (h : px_act m (.invokespecial idx) X pc L st w k = some A) : px_goal T d m pc L st w k Q A := by
  simp only [px_act] at h
  unfold px_lk at lk
  dsimp only at lk
  by_cases h36 : X.1 = 36
  · rw [if_pos h36] at h lk
    split at h
    · split at h
      · rename_i h8
        cases h
        exact fun g => px_q_obj hd lk h8 g
      · cases h
    · cases h
  · rw [if_neg h36] at h lk
    split at h
    · rename_i vs b st' ci M hiv hc
      obtain ⟨v, hv, hA⟩ := Option.map_eq_some_iff.mp h
      cases hA
      intro d' m' hd' hm' hk SC
      subst hd'
      have lk := lk ci M m' (by rw [hc]; exact List.mem_cons_self) hm'
      by_cases h35 : X.1 = 35
      · rw [if_pos h35] at lk hv
        exact px_q_super hd (ok _ _ hm') lk hiv hv hk SC
      · rw [if_neg h35] at lk
        exact px_q_init hd (ok _ _ hm') lk hiv hk SC
    · cases h
theorem px_t_virt {idx : Nat} (ok : ∀ (M : Nat) (m : px_M), T[M]? = some m → px_mok m) (lk : px_lk T m (.invokevirtual idx) X) (hd : decode (px_mb m) pc = .ok (.invokevirtual idx, 3)) (h : px_act m (.invokevirtual idx) X pc L st w k = some A) : px_goal T d m pc L st w k Q A := by
  simp only [px_act] at h
  split at h
  · rename_i vs b st' hiv
    obtain ⟨M, hM, hA⟩ := Option.map_eq_some_iff.mp h
    cases hA
    obtain ⟨ci, hci, hlo⟩ := Option.bind_eq_some_iff.mp hM
    intro d' m' hd' hm' hk SC
    subst hd'
    exact px_q_virt hd (ok _ _ hm') (lk ci M m' (px_lookup hlo) hm') hiv hci hk SC
  · cases h
theorem px_step (cf : px_CF) (ok : ∀ (M : Nat) (m : px_M), T[M]? = some m → px_mok m) {i : Jvm.ClassFile.Instr} (hd : decode (px_mb m) pc = .ok (i, len)) (hl : px_ln pc i len = true) (lk : px_lk T m i X) (h : px_act m i X pc L st w k = some A) : px_goal T d m pc L st w k Q A := by
  cases i with
  | tableswitch a lo hi offs => exact px_t_tsw hd h
  | lookupswitch a ps => exact px_t_lsw hd h
  | ifCond c off =>
    simp only [px_ln, Bool.and_eq_true, beq_iff_eq, decide_eq_true_eq] at hl
    obtain ⟨rfl, ho⟩ := hl
    exact px_t_if ho hd h
  | if_icmp c off =>
    simp only [px_ln, Bool.and_eq_true, beq_iff_eq, decide_eq_true_eq] at hl
    obtain ⟨rfl, ho⟩ := hl
    exact px_t_icmp ho hd h
  | aconst_null =>
    obtain rfl := px_len_eq hl
    exact px_t_null  hd h
  | iconst n =>
    obtain rfl := px_len_eq hl
    exact px_t_iconst  hd h
  | bipush n =>
    obtain rfl := px_len_eq hl
    exact px_t_bipush  hd h
  | sipush n =>
    obtain rfl := px_len_eq hl
    exact px_t_sipush  hd h
  | ldc n =>
    obtain rfl := px_len_eq hl
    exact px_t_ldc lk hd h
  | ldc_w n =>
    obtain rfl := px_len_eq hl
    exact px_t_ldc_w lk hd h
  | iload n =>
    obtain rfl := px_len_eq hl
    exact px_t_iload  hd h
  | iload_n n =>
    obtain rfl := px_len_eq hl
    exact px_t_iload_n  hd h
  | aload n =>
    obtain rfl := px_len_eq hl
    exact px_t_aload  hd h
  | aload_n n =>
    obtain rfl := px_len_eq hl
    exact px_t_aload_n  hd h
  | istore n =>
    obtain rfl := px_len_eq hl
    exact px_t_istore  hd h
  | istore_n n =>
    obtain rfl := px_len_eq hl
    exact px_t_istore_n  hd h
  | astore n =>
    obtain rfl := px_len_eq hl
    exact px_t_astore  hd h
  | astore_n n =>
    obtain rfl := px_len_eq hl
    exact px_t_astore_n  hd h
  | iinc j n =>
    obtain rfl := px_len_eq hl
    exact px_t_iinc  hd h
  | iadd =>
    obtain rfl := px_len_eq hl
    exact px_t_iadd  hd h
  | isub =>
    obtain rfl := px_len_eq hl
    exact px_t_isub  hd h
  | imul =>
    obtain rfl := px_len_eq hl
    exact px_t_imul  hd h
  | iand =>
    obtain rfl := px_len_eq hl
    exact px_t_iand  hd h
  | ior =>
    obtain rfl := px_len_eq hl
    exact px_t_ior  hd h
  | ixor =>
    obtain rfl := px_len_eq hl
    exact px_t_ixor  hd h
  | ishl =>
    obtain rfl := px_len_eq hl
    exact px_t_ishl  hd h
  | ishr =>
    obtain rfl := px_len_eq hl
    exact px_t_ishr  hd h
  | iushr =>
    obtain rfl := px_len_eq hl
    exact px_t_iushr  hd h
  | idiv =>
    obtain rfl := px_len_eq hl
    exact px_t_idiv  hd h
  | irem =>
    obtain rfl := px_len_eq hl
    exact px_t_irem  hd h
  | ineg =>
    obtain rfl := px_len_eq hl
    exact px_t_ineg  hd h
  | i2b =>
    obtain rfl := px_len_eq hl
    exact px_t_i2b  hd h
  | i2s =>
    obtain rfl := px_len_eq hl
    exact px_t_i2s  hd h
  | dup =>
    obtain rfl := px_len_eq hl
    exact px_t_dup  hd h
  | pop =>
    obtain rfl := px_len_eq hl
    exact px_t_pop  hd h
  | goto off =>
    obtain rfl := px_len_eq hl
    exact px_t_goto  hd h
  | ifnull off =>
    obtain rfl := px_len_eq hl
    exact px_t_ifnull  hd h
  | ifnonnull off =>
    obtain rfl := px_len_eq hl
    exact px_t_ifnonnull  hd h
  | getfield n =>
    obtain rfl := px_len_eq hl
    exact px_t_get cf lk hd h
  | putfield n =>
    obtain rfl := px_len_eq hl
    exact px_t_put cf lk hd h
  | iaload =>
    obtain rfl := px_len_eq hl
    exact px_t_iald  hd h
  | iastore =>
    obtain rfl := px_len_eq hl
    exact px_t_iast  hd h
  | baload =>
    obtain rfl := px_len_eq hl
    exact px_t_bald  hd h
  | bastore =>
    obtain rfl := px_len_eq hl
    exact px_t_bast  hd h
  | aaload =>
    obtain rfl := px_len_eq hl
    exact px_t_aald  hd h
  | aastore =>
    obtain rfl := px_len_eq hl
    exact px_t_aast  hd h
  | arraylength =>
    obtain rfl := px_len_eq hl
    exact px_t_alen  hd h
  | new n =>
    obtain rfl := px_len_eq hl
    exact px_t_new cf lk hd h
  | newarray n =>
    obtain rfl := px_len_eq hl
    exact px_t_newarr lk hd h
  | anewarray n =>
    obtain rfl := px_len_eq hl
    exact px_t_anew lk hd h
  | ireturn =>
    obtain rfl := px_len_eq hl
    exact px_t_iret  hd h
  | areturn =>
    obtain rfl := px_len_eq hl
    exact px_t_aret  hd h
  | return_ =>
    obtain rfl := px_len_eq hl
    exact px_t_vret  hd h
  | invokestatic n =>
    obtain rfl := px_len_eq hl
    exact px_t_static ok lk hd h
  | invokespecial n =>
    obtain rfl := px_len_eq hl
    exact px_t_special ok lk hd h
  | invokevirtual n =>
    obtain rfl := px_len_eq hl
    exact px_t_virt ok lk hd h
  | _ => cases h
theorem px_sound (cf : px_CF) (ok : px_TOK T) : ∀ (n d M : Nat) (S : px_S) (r : Option Value × px_H) (m : px_M) (Q : Option Value → px_H → Prop), T[M]? = some m → px_ex T n d M S = some r → Q r.1 r.2 → px_SW d m S.1 S.2.1 S.2.2.1 S.2.2.2.1 S.2.2.2.2 Q := by
  intro n
  induction n with
  | zero => intro d M S r m Q hm h; simp [px_ex] at h
  | succ n ih =>
    intro d M S r m Q hm h hq
    rw [px_ex] at h
    simp only [hm] at h
    cases hi : (px_mi m).lookup S.1 with
    | none => simp only [hi] at h; cases h
    | some q =>
      simp only [hi] at h
      obtain ⟨hdec, hln, hlk⟩ := (ok M m hm).2 S.1 q hi
      cases ha : px_act m q.1 q.2.2 S.1 S.2.1 S.2.2.1 S.2.2.2.1 S.2.2.2.2 with
      | none => simp only [ha] at h; cases h
      | some A =>
        simp only [ha] at h
        have hst := px_step (T := T) (d := d) (Q := Q) cf (fun M m hm => (ok M m hm).1) hdec hln hlk ha
        rcases A with S' | r' | c
        · exact hst (ih _ _ _ _ _ _ hm h hq)
        · cases h
          exact hst hq
        · cases d with
          | zero => cases h
          | succ d' =>
            dsimp only at h
            cases hm' : T[c.1]? with
            | none => simp only [hm'] at h; cases h
            | some m' =>
              simp only [hm'] at h
              by_cases hc : c.2.1.length ≤ px_ml m' ∧ c.2.2.2.2.2.2 + px_mc m' ≤ px_mc m
              · rw [if_pos hc] at h
                cases hr : px_ex T n d' c.1 (0, px_en (px_ml m') c.2.1, [], c.2.2.2.2.2.1, 0) with
                | none => simp only [hr] at h; cases h
                | some r1 =>
                  simp only [hr] at h
                  refine hst d' m' rfl hm' hc.2 (px_met (ok _ _ hm').1 hc.1 ?_)
                  exact ih d' c.1 (0, px_en (px_ml m') c.2.1, [], c.2.2.2.2.2.1, 0) r1 m' _ hm' hr (ih _ _ _ _ _ _ hm h hq)
              · rw [if_neg hc] at h; cases h
/-- the contract of a method, out of its pure run -/
theorem px_contract (cf : px_CF) (ok : px_TOK T) {M : Nat} {vs : List Value} (h : px_wc T d M vs w Q) : ∃ m', T[M]? = some m' ∧ px_mok m' ∧ px_SC d m' vs w Q := by
  obtain ⟨m', hm', hl, n, r, w', hr, hq⟩ := h
  exact ⟨m', hm', (ok _ _ hm').1, px_met (ok _ _ hm').1 hl (px_sound cf ok n d M _ (r, w') m' Q hm' hr hq)⟩
end PXS
end
section
/-! the program of the pure machine, as the tables and the bytes have it -/
abbrev px_x0 : px_X := (0, 0, [], 0, "")
def m_X0_init : px_M := (yX0_init, cX0_init, 4, none, 0, [(0, .aload_n 0, 1, px_x0), (1, .iload_n 1, 1, px_x0), (2, .iload_n 2, 1, px_x0), (3, .iload_n 3, 1, px_x0), (4, .invokespecial 3, 3, (31, 3, [(0, 76)], 0, "")), (7, .return_, 1, px_x0)])
def m_X0_toldKind : px_M := (yX0_toldKind, cX0_toldKind, 1, some .int, 0, [(0, .iconst 4, 1, px_x0), (1, .ireturn, 1, px_x0)])
def m_X0_isOf : px_M := (yX0_isOf, cX0_isOf, 2, some .boolean, 0, [(0, .iload_n 1, 1, px_x0), (1, .iconst 4, 1, px_x0), (2, .if_icmp .eq 11, 3, px_x0), (5, .aload_n 0, 1, px_x0), (6, .iload_n 1, 1, px_x0), (7, .invokespecial 9, 3, (35, 1, [(0, 77)], 0, "")), (10, .ifCond .eq 7, 3, px_x0), (13, .iconst 1, 1, px_x0), (14, .goto 4, 3, px_x0), (17, .iconst 0, 1, px_x0), (18, .ireturn, 1, px_x0)])
def m_X0_daysToAsk : px_M := (yX0_daysToAsk, cX0_daysToAsk, 1, some .int, 0, [(0, .iconst 1, 1, px_x0), (1, .iconst 4, 1, px_x0), (2, .aload_n 0, 1, px_x0), (3, .getfield 13, 3, (10, 1, [(0, 0), (1, 0), (3, 0), (8, 0), (9, 0)], 0, "AllSworn$Foreign")), (6, .imul, 1, px_x0), (7, .invokestatic 19, 3, (38, 0, [], 0, "")), (10, .ireturn, 1, px_x0)])
def m_X0_size : px_M := (yX0_size, cX0_size, 3, some .int, 0, [(0, .aload_n 1, 1, px_x0), (1, .bipush 13, 2, px_x0), (3, .invokevirtual 25, 3, (33, 1, [(7, 85)], 0, "")), (6, .aload_n 0, 1, px_x0), (7, .aload_n 1, 1, px_x0), (8, .aload_n 2, 1, px_x0), (9, .invokespecial 31, 3, (35, 2, [(0, 81)], 0, "")), (12, .bipush 100, 2, px_x0), (14, .isub, 1, px_x0), (15, .ireturn, 1, px_x0)])
def m_X0_mark : px_M := (yX0_mark, cX0_mark, 3, some .int, 0, [(0, .aload_n 1, 1, px_x0), (1, .bipush 23, 2, px_x0), (3, .invokevirtual 25, 3, (33, 1, [(7, 85)], 0, "")), (6, .aload_n 0, 1, px_x0), (7, .aload_n 1, 1, px_x0), (8, .aload_n 2, 1, px_x0), (9, .invokespecial 35, 3, (35, 2, [(0, 82)], 0, "")), (12, .aload_n 0, 1, px_x0), (13, .aload_n 1, 1, px_x0), (14, .aload_n 2, 1, px_x0), (15, .invokevirtual 38, 3, (34, 2, [(0, 4), (8, 91)], 0, "AllSworn$Foreign")), (18, .isub, 1, px_x0), (19, .ireturn, 1, px_x0)])
def m_X1_init : px_M := (yX1_init, cX1_init, 4, none, 0, [(0, .aload_n 0, 1, px_x0), (1, .iload_n 1, 1, px_x0), (2, .iload_n 2, 1, px_x0), (3, .iload_n 3, 1, px_x0), (4, .invokespecial 3, 3, (31, 3, [(0, 25)], 0, "")), (7, .return_, 1, px_x0)])
def m_X1_toldKind : px_M := (yX1_toldKind, cX1_toldKind, 1, some .int, 0, [(0, .iconst 2, 1, px_x0), (1, .ireturn, 1, px_x0)])
def m_X1_isOf : px_M := (yX1_isOf, cX1_isOf, 2, some .boolean, 0, [(0, .iload_n 1, 1, px_x0), (1, .iconst 2, 1, px_x0), (2, .if_icmp .eq 11, 3, px_x0), (5, .aload_n 0, 1, px_x0), (6, .iload_n 1, 1, px_x0), (7, .invokespecial 9, 3, (35, 1, [(0, 27)], 0, "")), (10, .ifCond .eq 7, 3, px_x0), (13, .iconst 1, 1, px_x0), (14, .goto 4, 3, px_x0), (17, .iconst 0, 1, px_x0), (18, .ireturn, 1, px_x0)])
def m_X1_isHeldBy : px_M := (yX1_isHeldBy, cX1_isHeldBy, 2, some .boolean, 0, [(0, .aload_n 0, 1, px_x0), (1, .getfield 13, 3, (10, 0, [(0, 0), (1, 0), (3, 0), (8, 0), (9, 0)], 0, "AllSworn$Mixed")), (4, .ifCond .eq 17, 3, px_x0), (7, .iload_n 1, 1, px_x0), (8, .aload_n 0, 1, px_x0), (9, .getfield 13, 3, (10, 0, [(0, 0), (1, 0), (3, 0), (8, 0), (9, 0)], 0, "AllSworn$Mixed")), (12, .iconst 1, 1, px_x0), (13, .isub, 1, px_x0), (14, .ishr, 1, px_x0), (15, .iconst 1, 1, px_x0), (16, .iand, 1, px_x0), (17, .iconst 1, 1, px_x0), (18, .if_icmp .ne 7, 3, px_x0), (21, .iconst 1, 1, px_x0), (22, .goto 4, 3, px_x0), (25, .iconst 0, 1, px_x0), (26, .ireturn, 1, px_x0)])
def m_X1_size : px_M := (yX1_size, cX1_size, 3, some .int, 0, [(0, .aload_n 1, 1, px_x0), (1, .bipush 12, 2, px_x0), (3, .invokevirtual 19, 3, (33, 1, [(7, 85)], 0, "")), (6, .aload_n 0, 1, px_x0), (7, .aload_n 1, 1, px_x0), (8, .aload_n 2, 1, px_x0), (9, .invokespecial 25, 3, (35, 2, [(0, 28)], 0, "")), (12, .ineg, 1, px_x0), (13, .ireturn, 1, px_x0)])
def m_X1_mark : px_M := (yX1_mark, cX1_mark, 3, some .int, 0, [(0, .aload_n 1, 1, px_x0), (1, .bipush 24, 2, px_x0), (3, .invokevirtual 19, 3, (33, 1, [(7, 85)], 0, "")), (6, .iconst 2, 1, px_x0), (7, .aload_n 0, 1, px_x0), (8, .aload_n 1, 1, px_x0), (9, .aload_n 2, 1, px_x0), (10, .invokespecial 29, 3, (35, 2, [(0, 29)], 0, "")), (13, .imul, 1, px_x0), (14, .ireturn, 1, px_x0)])
def m_X2_init : px_M := (yX2_init, cX2_init, 1, none, 7, [(0, .aload_n 0, 1, px_x0), (1, .invokespecial 3, 3, (36, 0, [], 0, "")), (4, .aload_n 0, 1, px_x0), (5, .new 9, 3, (20, 5, [], 0, "")), (8, .dup, 1, px_x0), (9, .invokespecial 11, 3, (31, 0, [(0, 41)], 0, "")), (12, .putfield 12, 3, (10, 0, [(2, 0)], 0, "AllSworn$Oracle")), (15, .aload_n 0, 1, px_x0), (16, .iconst 4, 1, px_x0), (17, .newarray .int, 2, px_x0), (19, .putfield 18, 3, (10, 1, [(2, 0)], 0, "AllSworn$Oracle")), (22, .aload_n 0, 1, px_x0), (23, .iconst 4, 1, px_x0), (24, .newarray .int, 2, px_x0), (26, .putfield 22, 3, (10, 2, [(2, 0)], 0, "AllSworn$Oracle")), (29, .aload_n 0, 1, px_x0), (30, .ldc 25, 2, (0, 0, [], (-1000000), "")), (32, .putfield 26, 3, (10, 3, [(2, 0)], 0, "AllSworn$Oracle")), (35, .aload_n 0, 1, px_x0), (36, .ldc 25, 2, (0, 0, [], (-1000000), "")), (38, .putfield 30, 3, (10, 4, [(2, 0)], 0, "AllSworn$Oracle")), (41, .return_, 1, px_x0)])
def m_X2_firstGap : px_M := (yX2_firstGap, cX2_firstGap, 3, some .int, 0, [(0, .iconst 0, 1, px_x0), (1, .istore_n 2, 1, px_x0), (2, .iload_n 2, 1, px_x0), (3, .bipush 100, 2, px_x0), (5, .if_icmp .gt 29, 3, px_x0), (8, .aload_n 1, 1, px_x0), (9, .aload_n 1, 1, px_x0), (10, .getfield 33, 3, (11, 8, [(5, 0)], 0, "AllSworn$Realm")), (13, .iload_n 2, 1, px_x0), (14, .iadd, 1, px_x0), (15, .invokevirtual 36, 3, (33, 1, [(5, 59)], 0, "")), (18, .ifCond .eq 10, 3, px_x0), (21, .aload_n 1, 1, px_x0), (22, .getfield 33, 3, (11, 8, [(5, 0)], 0, "AllSworn$Realm")), (25, .iload_n 2, 1, px_x0), (26, .iadd, 1, px_x0), (27, .ireturn, 1, px_x0), (28, .iinc 2 1, 3, px_x0), (31, .goto (-29), 3, px_x0), (34, .ldc 25, 2, (0, 0, [], (-1000000), "")), (36, .ireturn, 1, px_x0)])
def m_X2_leastCover : px_M := (yX2_leastCover, cX2_leastCover, 6, some .int, 0, [(0, .aload_n 1, 1, px_x0), (1, .aload_n 1, 1, px_x0), (2, .getfield 33, 3, (11, 8, [(5, 0)], 0, "AllSworn$Realm")), (5, .invokestatic 40, 3, (30, 2, [(0, 15)], 0, "")), (8, .istore_n 2, 1, px_x0), (9, .ldc 25, 2, (0, 0, [], (-1000000), "")), (11, .istore_n 3, 1, px_x0), (12, .iconst 0, 1, px_x0), (13, .istore 4, 2, px_x0), (15, .iload 4, 2, px_x0), (17, .iconst 1, 1, px_x0), (18, .aload_n 1, 1, px_x0), (19, .getfield 44, 3, (11, 5, [(5, 0)], 0, "AllSworn$Realm")), (22, .ishl, 1, px_x0), (23, .if_icmp .ge 72, 3, px_x0), (26, .iload_n 3, 1, px_x0), (27, .ldc 25, 2, (0, 0, [], (-1000000), "")), (29, .if_icmp .eq 15, 3, px_x0), (32, .iload 4, 2, px_x0), (34, .invokestatic 47, 3, (30, 1, [(0, 222)], 0, "")), (37, .iload_n 3, 1, px_x0), (38, .invokestatic 47, 3, (30, 1, [(0, 222)], 0, "")), (41, .if_icmp .ge 7, 3, px_x0), (44, .iconst 1, 1, px_x0), (45, .goto 4, 3, px_x0), (48, .iconst 0, 1, px_x0), (49, .istore 5, 2, px_x0), (51, .iload 5, 2, px_x0), (53, .ifCond .eq 36, 3, px_x0), (56, .iload 4, 2, px_x0), (58, .iload_n 2, 1, px_x0), (59, .iconst (-1), 1, px_x0), (60, .ixor, 1, px_x0), (61, .iand, 1, px_x0), (62, .ifCond .ne 27, 3, px_x0), (65, .aload_n 1, 1, px_x0), (66, .aload_n 1, 1, px_x0), (67, .aload_n 1, 1, px_x0), (68, .getfield 33, 3, (11, 8, [(5, 0)], 0, "AllSworn$Realm")), (71, .aload_n 1, 1, px_x0), (72, .getfield 52, 3, (11, 4, [(5, 0)], 0, "AllSworn$Realm")), (75, .iload 4, 2, px_x0), (77, .invokevirtual 55, 3, (33, 3, [(5, 58)], 0, "")), (80, .invokevirtual 59, 3, (33, 1, [(5, 60)], 0, "")), (83, .ifCond .ne 6, 3, px_x0), (86, .iload 4, 2, px_x0), (88, .istore_n 3, 1, px_x0), (89, .iinc 4 1, 3, px_x0), (92, .goto (-77), 3, px_x0), (95, .iload_n 3, 1, px_x0), (96, .ireturn, 1, px_x0)])
def m_X2_willingOn : px_M := (yX2_willingOn, cX2_willingOn, 5, some .int, 0, [(0, .iconst 0, 1, px_x0), (1, .istore_n 2, 1, px_x0), (2, .iconst 0, 1, px_x0), (3, .istore_n 3, 1, px_x0), (4, .iload_n 3, 1, px_x0), (5, .aload_n 0, 1, px_x0), (6, .getfield 44, 3, (11, 5, [(5, 0)], 0, "AllSworn$Realm")), (9, .if_icmp .ge 36, 3, px_x0), (12, .aload_n 0, 1, px_x0), (13, .iload_n 3, 1, px_x0), (14, .invokevirtual 62, 3, (33, 1, [(5, 47)], 0, "")), (17, .astore 4, 2, px_x0), (19, .aload 4, 2, px_x0), (21, .ifnull 18, 3, px_x0), (24, .aload 4, 2, px_x0), (26, .iload_n 1, 1, px_x0), (27, .invokevirtual 66, 3, (34, 1, [(0, 79), (1, 79), (3, 79), (8, 79), (9, 95)], 0, "AllSworn$Thing")), (30, .ifCond .eq 9, 3, px_x0), (33, .iload_n 2, 1, px_x0), (34, .iconst 1, 1, px_x0), (35, .iload_n 3, 1, px_x0), (36, .ishl, 1, px_x0), (37, .ior, 1, px_x0), (38, .istore_n 2, 1, px_x0), (39, .iinc 3 1, 3, px_x0), (42, .goto (-38), 3, px_x0), (45, .iload_n 2, 1, px_x0), (46, .ireturn, 1, px_x0)])
def m_X2_seekRound : px_M := (yX2_seekRound, cX2_seekRound, 2, none, 0, [(0, .aload_n 0, 1, px_x0), (1, .getfield 12, 3, (10, 0, [(2, 0)], 0, "AllSworn$Oracle")), (4, .aload_n 1, 1, px_x0), (5, .invokevirtual 72, 3, (33, 1, [(5, 46)], 0, "")), (8, .aload_n 0, 1, px_x0), (9, .ldc 25, 2, (0, 0, [], (-1000000), "")), (11, .putfield 26, 3, (10, 3, [(2, 0)], 0, "AllSworn$Oracle")), (14, .aload_n 0, 1, px_x0), (15, .ldc 25, 2, (0, 0, [], (-1000000), "")), (17, .putfield 30, 3, (10, 4, [(2, 0)], 0, "AllSworn$Oracle")), (20, .aload_n 0, 1, px_x0), (21, .iconst 0, 1, px_x0), (22, .iconst 0, 1, px_x0), (23, .aload_n 1, 1, px_x0), (24, .getfield 33, 3, (11, 8, [(5, 0)], 0, "AllSworn$Realm")), (27, .invokevirtual 76, 3, (33, 3, [(2, 17)], 0, "")), (30, .return_, 1, px_x0)])
def m_X2_goOn : px_M := (yX2_goOn, cX2_goOn, 7, none, 0, [(0, .aload_n 0, 1, px_x0), (1, .getfield 12, 3, (10, 0, [(2, 0)], 0, "AllSworn$Oracle")), (4, .getfield 33, 3, (11, 8, [(5, 0)], 0, "AllSworn$Realm")), (7, .iload_n 3, 1, px_x0), (8, .isub, 1, px_x0), (9, .istore 4, 2, px_x0), (11, .aload_n 0, 1, px_x0), (12, .getfield 12, 3, (10, 0, [(2, 0)], 0, "AllSworn$Oracle")), (15, .aload_n 0, 1, px_x0), (16, .getfield 12, 3, (10, 0, [(2, 0)], 0, "AllSworn$Oracle")), (19, .getfield 33, 3, (11, 8, [(5, 0)], 0, "AllSworn$Realm")), (22, .invokevirtual 36, 3, (33, 1, [(5, 59)], 0, "")), (25, .ifCond .ne 11, 3, px_x0), (28, .aload_n 0, 1, px_x0), (29, .iload_n 1, 1, px_x0), (30, .iload 4, 2, px_x0), (32, .invokevirtual 80, 3, (33, 2, [(2, 18)], 0, "")), (35, .return_, 1, px_x0), (36, .iload_n 1, 1, px_x0), (37, .iconst 4, 1, px_x0), (38, .if_icmp .ge 21, 3, px_x0), (41, .aload_n 0, 1, px_x0), (42, .getfield 26, 3, (10, 3, [(2, 0)], 0, "AllSworn$Oracle")), (45, .ldc 25, 2, (0, 0, [], (-1000000), "")), (47, .if_icmp .eq 13, 3, px_x0), (50, .iload 4, 2, px_x0), (52, .aload_n 0, 1, px_x0), (53, .getfield 26, 3, (10, 3, [(2, 0)], 0, "AllSworn$Oracle")), (56, .if_icmp .lt 4, 3, px_x0), (59, .return_, 1, px_x0), (60, .iconst 0, 1, px_x0), (61, .istore 5, 2, px_x0), (63, .iload 5, 2, px_x0), (65, .aload_n 0, 1, px_x0), (66, .getfield 12, 3, (10, 0, [(2, 0)], 0, "AllSworn$Oracle")), (69, .getfield 44, 3, (11, 5, [(5, 0)], 0, "AllSworn$Realm")), (72, .if_icmp .ge 73, 3, px_x0), (75, .aload_n 0, 1, px_x0), (76, .getfield 12, 3, (10, 0, [(2, 0)], 0, "AllSworn$Oracle")), (79, .iload 5, 2, px_x0), (81, .invokevirtual 62, 3, (33, 1, [(5, 47)], 0, "")), (84, .astore 6, 2, px_x0), (86, .aload 6, 2, px_x0), (88, .ifnull 51, 3, px_x0), (91, .iload_n 2, 1, px_x0), (92, .iload 5, 2, px_x0), (94, .ishr, 1, px_x0), (95, .iconst 1, 1, px_x0), (96, .iand, 1, px_x0), (97, .ifCond .ne 42, 3, px_x0), (100, .aload_n 0, 1, px_x0), (101, .getfield 18, 3, (10, 1, [(2, 0)], 0, "AllSworn$Oracle")), (104, .iload_n 1, 1, px_x0), (105, .iload 5, 2, px_x0), (107, .iastore, 1, px_x0), (108, .aload_n 0, 1, px_x0), (109, .getfield 12, 3, (10, 0, [(2, 0)], 0, "AllSworn$Oracle")), (112, .aload 6, 2, px_x0), (114, .invokevirtual 84, 3, (33, 1, [(5, 51)], 0, "")), (117, .aload_n 0, 1, px_x0), (118, .iload_n 1, 1, px_x0), (119, .iconst 1, 1, px_x0), (120, .iadd, 1, px_x0), (121, .iload_n 2, 1, px_x0), (122, .iconst 1, 1, px_x0), (123, .iload 5, 2, px_x0), (125, .ishl, 1, px_x0), (126, .ior, 1, px_x0), (127, .iload_n 3, 1, px_x0), (128, .invokevirtual 76, 3, (33, 3, [(2, 17)], 0, "")), (131, .aload_n 0, 1, px_x0), (132, .getfield 12, 3, (10, 0, [(2, 0)], 0, "AllSworn$Oracle")), (135, .invokevirtual 88, 3, (33, 0, [(5, 54)], 0, "")), (138, .pop, 1, px_x0), (139, .iinc 5 1, 3, px_x0), (142, .goto (-79), 3, px_x0), (145, .return_, 1, px_x0)])
def m_X2_keepWay : px_M := (yX2_keepWay, cX2_keepWay, 3, none, 0, [(0, .aload_n 0, 1, px_x0), (1, .getfield 26, 3, (10, 3, [(2, 0)], 0, "AllSworn$Oracle")), (4, .ldc 25, 2, (0, 0, [], (-1000000), "")), (6, .if_icmp .eq 27, 3, px_x0), (9, .iload_n 2, 1, px_x0), (10, .aload_n 0, 1, px_x0), (11, .getfield 26, 3, (10, 3, [(2, 0)], 0, "AllSworn$Oracle")), (14, .if_icmp .lt 19, 3, px_x0), (17, .iload_n 2, 1, px_x0), (18, .aload_n 0, 1, px_x0), (19, .getfield 26, 3, (10, 3, [(2, 0)], 0, "AllSworn$Oracle")), (22, .if_icmp .ne 35, 3, px_x0), (25, .iload_n 1, 1, px_x0), (26, .aload_n 0, 1, px_x0), (27, .getfield 30, 3, (10, 4, [(2, 0)], 0, "AllSworn$Oracle")), (30, .if_icmp .ge 27, 3, px_x0), (33, .aload_n 0, 1, px_x0), (34, .iload_n 2, 1, px_x0), (35, .putfield 26, 3, (10, 3, [(2, 0)], 0, "AllSworn$Oracle")), (38, .aload_n 0, 1, px_x0), (39, .iload_n 1, 1, px_x0), (40, .putfield 30, 3, (10, 4, [(2, 0)], 0, "AllSworn$Oracle")), (43, .aload_n 0, 1, px_x0), (44, .getfield 18, 3, (10, 1, [(2, 0)], 0, "AllSworn$Oracle")), (47, .iconst 0, 1, px_x0), (48, .aload_n 0, 1, px_x0), (49, .getfield 22, 3, (10, 2, [(2, 0)], 0, "AllSworn$Oracle")), (52, .iconst 0, 1, px_x0), (53, .iconst 4, 1, px_x0), (54, .invokestatic 92, 3, (37, 0, [], 0, "")), (57, .return_, 1, px_x0)])
def m_X2_bestStop : px_M := (yX2_bestStop, cX2_bestStop, 2, some .int, 0, [(0, .iload_n 1, 1, px_x0), (1, .ifCond .lt 25, 3, px_x0), (4, .iload_n 1, 1, px_x0), (5, .aload_n 0, 1, px_x0), (6, .getfield 30, 3, (10, 4, [(2, 0)], 0, "AllSworn$Oracle")), (9, .if_icmp .ge 17, 3, px_x0), (12, .iload_n 1, 1, px_x0), (13, .iconst 4, 1, px_x0), (14, .if_icmp .ge 12, 3, px_x0), (17, .aload_n 0, 1, px_x0), (18, .getfield 22, 3, (10, 2, [(2, 0)], 0, "AllSworn$Oracle")), (21, .iload_n 1, 1, px_x0), (22, .iaload, 1, px_x0), (23, .goto 5, 3, px_x0), (26, .ldc 25, 2, (0, 0, [], (-1000000), "")), (28, .ireturn, 1, px_x0)])
def m_X2_bestDefence : px_M := (yX2_bestDefence, cX2_bestDefence, 8, some .int, 0, [(0, .ldc 25, 2, (0, 0, [], (-1000000), "")), (2, .istore_n 3, 1, px_x0), (3, .iconst (-1), 1, px_x0), (4, .istore 4, 2, px_x0), (6, .iconst 0, 1, px_x0), (7, .istore 5, 2, px_x0), (9, .iload 5, 2, px_x0), (11, .aload_n 1, 1, px_x0), (12, .getfield 44, 3, (11, 5, [(5, 0)], 0, "AllSworn$Realm")), (15, .if_icmp .ge 54, 3, px_x0), (18, .aload_n 0, 1, px_x0), (19, .aload_n 1, 1, px_x0), (20, .aload_n 1, 1, px_x0), (21, .iload 5, 2, px_x0), (23, .invokevirtual 62, 3, (33, 1, [(5, 47)], 0, "")), (26, .iload_n 2, 1, px_x0), (27, .invokevirtual 98, 3, (33, 3, [(2, 21)], 0, "")), (30, .istore 6, 2, px_x0), (32, .iload 6, 2, px_x0), (34, .ldc 25, 2, (0, 0, [], (-1000000), "")), (36, .if_icmp .ne 9, 3, px_x0), (39, .sipush 161, 3, px_x0), (42, .goto 5, 3, px_x0), (45, .iload 6, 2, px_x0), (47, .istore 7, 2, px_x0), (49, .iload 7, 2, px_x0), (51, .iload 4, 2, px_x0), (53, .if_icmp .le 10, 3, px_x0), (56, .iload 5, 2, px_x0), (58, .istore_n 3, 1, px_x0), (59, .iload 7, 2, px_x0), (61, .istore 4, 2, px_x0), (63, .iinc 5 1, 3, px_x0), (66, .goto (-57), 3, px_x0), (69, .iload_n 3, 1, px_x0), (70, .ireturn, 1, px_x0)])
def m_X2_priceBehind : px_M := (yX2_priceBehind, cX2_priceBehind, 4, some .int, 0, [(0, .aload_n 2, 1, px_x0), (1, .ifnonnull 6, 3, px_x0), (4, .ldc 25, 2, (0, 0, [], (-1000000), "")), (6, .ireturn, 1, px_x0), (7, .aload_n 0, 1, px_x0), (8, .getfield 12, 3, (10, 0, [(2, 0)], 0, "AllSworn$Oracle")), (11, .aload_n 1, 1, px_x0), (12, .invokevirtual 72, 3, (33, 1, [(5, 46)], 0, "")), (15, .aload_n 0, 1, px_x0), (16, .getfield 12, 3, (10, 0, [(2, 0)], 0, "AllSworn$Oracle")), (19, .aload_n 2, 1, px_x0), (20, .invokevirtual 84, 3, (33, 1, [(5, 51)], 0, "")), (23, .aload_n 0, 1, px_x0), (24, .getfield 12, 3, (10, 0, [(2, 0)], 0, "AllSworn$Oracle")), (27, .iload_n 3, 1, px_x0), (28, .aload_n 0, 1, px_x0), (29, .getfield 12, 3, (10, 0, [(2, 0)], 0, "AllSworn$Oracle")), (32, .getfield 33, 3, (11, 8, [(5, 0)], 0, "AllSworn$Realm")), (35, .invokestatic 102, 3, (38, 0, [], 0, "")), (38, .invokevirtual 108, 3, (33, 1, [(5, 63)], 0, "")), (41, .ireturn, 1, px_x0)])
def m_X2_leastKinds : px_M := (yX2_leastKinds, cX2_leastKinds, 5, some .int, 0, [(0, .ldc 25, 2, (0, 0, [], (-1000000), "")), (2, .istore_n 2, 1, px_x0), (3, .iconst 0, 1, px_x0), (4, .istore_n 3, 1, px_x0), (5, .iload_n 3, 1, px_x0), (6, .bipush 32, 2, px_x0), (8, .if_icmp .ge 52, 3, px_x0), (11, .iload_n 2, 1, px_x0), (12, .ldc 25, 2, (0, 0, [], (-1000000), "")), (14, .if_icmp .eq 14, 3, px_x0), (17, .iload_n 3, 1, px_x0), (18, .invokestatic 47, 3, (30, 1, [(0, 222)], 0, "")), (21, .iload_n 2, 1, px_x0), (22, .invokestatic 47, 3, (30, 1, [(0, 222)], 0, "")), (25, .if_icmp .ge 7, 3, px_x0), (28, .iconst 1, 1, px_x0), (29, .goto 4, 3, px_x0), (32, .iconst 0, 1, px_x0), (33, .istore 4, 2, px_x0), (35, .iload 4, 2, px_x0), (37, .ifCond .eq 17, 3, px_x0), (40, .aload_n 1, 1, px_x0), (41, .aload_n 1, 1, px_x0), (42, .iload_n 3, 1, px_x0), (43, .invokevirtual 111, 3, (33, 1, [(5, 64)], 0, "")), (46, .invokevirtual 59, 3, (33, 1, [(5, 60)], 0, "")), (49, .ifCond .ne 5, 3, px_x0), (52, .iload_n 3, 1, px_x0), (53, .istore_n 2, 1, px_x0), (54, .iinc 3 1, 3, px_x0), (57, .goto (-52), 3, px_x0), (60, .iload_n 2, 1, px_x0), (61, .ireturn, 1, px_x0)])
def m_X2_suspects : px_M := (yX2_suspects, cX2_suspects, 8, some .int, 0, [(0, .iconst 1, 1, px_x0), (1, .aload_n 1, 1, px_x0), (2, .getfield 114, 3, (11, 6, [(5, 0)], 0, "AllSworn$Realm")), (5, .ishl, 1, px_x0), (6, .iconst 1, 1, px_x0), (7, .isub, 1, px_x0), (8, .istore 5, 2, px_x0), (10, .iconst 0, 1, px_x0), (11, .istore 6, 2, px_x0), (13, .iload 6, 2, px_x0), (15, .iload 4, 2, px_x0), (17, .if_icmp .ge 47, 3, px_x0), (20, .aload_n 1, 1, px_x0), (21, .aload_n 1, 1, px_x0), (22, .getfield 33, 3, (11, 8, [(5, 0)], 0, "AllSworn$Realm")), (25, .iload 6, 2, px_x0), (27, .iadd, 1, px_x0), (28, .invokevirtual 36, 3, (33, 1, [(5, 59)], 0, "")), (31, .istore 7, 2, px_x0), (33, .iload 5, 2, px_x0), (35, .aload_n 2, 1, px_x0), (36, .iload_n 3, 1, px_x0), (37, .iload 6, 2, px_x0), (39, .iadd, 1, px_x0), (40, .invokevirtual 117, 3, (33, 1, [(6, 74)], 0, "")), (43, .ifCond .eq 8, 3, px_x0), (46, .iload 7, 2, px_x0), (48, .goto 7, 3, px_x0), (51, .iload 7, 2, px_x0), (53, .iconst (-1), 1, px_x0), (54, .ixor, 1, px_x0), (55, .iand, 1, px_x0), (56, .istore 5, 2, px_x0), (58, .iinc 6 1, 3, px_x0), (61, .goto (-48), 3, px_x0), (64, .iload 5, 2, px_x0), (66, .ireturn, 1, px_x0)])
def m_X2_leastTerm : px_M := (yX2_leastTerm, cX2_leastTerm, 3, some .int, 0, [(0, .iconst 1, 1, px_x0), (1, .istore_n 2, 1, px_x0), (2, .iload_n 2, 1, px_x0), (3, .bipush 40, 2, px_x0), (5, .if_icmp .gt 28, 3, px_x0), (8, .aload_n 1, 1, px_x0), (9, .aload_n 1, 1, px_x0), (10, .aload_n 1, 1, px_x0), (11, .getfield 33, 3, (11, 8, [(5, 0)], 0, "AllSworn$Realm")), (14, .iload_n 2, 1, px_x0), (15, .iconst 0, 1, px_x0), (16, .invokevirtual 55, 3, (33, 3, [(5, 58)], 0, "")), (19, .invokevirtual 59, 3, (33, 1, [(5, 60)], 0, "")), (22, .ifCond .ne 5, 3, px_x0), (25, .iload_n 2, 1, px_x0), (26, .ireturn, 1, px_x0), (27, .iinc 2 1, 3, px_x0), (30, .goto (-28), 3, px_x0), (33, .ldc 25, 2, (0, 0, [], (-1000000), "")), (35, .ireturn, 1, px_x0)])
def m_X3_init : px_M := (yX3_init, cX3_init, 4, none, 0, [(0, .aload_n 0, 1, px_x0), (1, .iload_n 1, 1, px_x0), (2, .iload_n 2, 1, px_x0), (3, .iload_n 3, 1, px_x0), (4, .invokespecial 3, 3, (31, 3, [(0, 76)], 0, "")), (7, .return_, 1, px_x0)])
def m_X3_toldKind : px_M := (yX3_toldKind, cX3_toldKind, 1, some .int, 0, [(0, .iconst 1, 1, px_x0), (1, .ireturn, 1, px_x0)])
def m_X3_isOf : px_M := (yX3_isOf, cX3_isOf, 2, some .boolean, 0, [(0, .iload_n 1, 1, px_x0), (1, .iconst 1, 1, px_x0), (2, .if_icmp .eq 11, 3, px_x0), (5, .aload_n 0, 1, px_x0), (6, .iload_n 1, 1, px_x0), (7, .invokespecial 9, 3, (35, 1, [(0, 77)], 0, "")), (10, .ifCond .eq 7, 3, px_x0), (13, .iconst 1, 1, px_x0), (14, .goto 4, 3, px_x0), (17, .iconst 0, 1, px_x0), (18, .ireturn, 1, px_x0)])
def m_X3_size : px_M := (yX3_size, cX3_size, 3, some .int, 0, [(0, .aload_n 1, 1, px_x0), (1, .bipush 11, 2, px_x0), (3, .invokevirtual 13, 3, (33, 1, [(7, 85)], 0, "")), (6, .aload_n 0, 1, px_x0), (7, .aload_n 1, 1, px_x0), (8, .aload_n 2, 1, px_x0), (9, .invokespecial 19, 3, (35, 2, [(0, 81)], 0, "")), (12, .aload_n 0, 1, px_x0), (13, .aload_n 1, 1, px_x0), (14, .aload_n 2, 1, px_x0), (15, .invokevirtual 23, 3, (34, 2, [(1, 11), (3, 29), (9, 96)], 0, "AllSworn$Plain")), (18, .iadd, 1, px_x0), (19, .ireturn, 1, px_x0)])
def m_X3_mark : px_M := (yX3_mark, cX3_mark, 3, some .int, 0, [(0, .aload_n 1, 1, px_x0), (1, .bipush 21, 2, px_x0), (3, .invokevirtual 13, 3, (33, 1, [(7, 85)], 0, "")), (6, .aload_n 0, 1, px_x0), (7, .aload_n 1, 1, px_x0), (8, .aload_n 2, 1, px_x0), (9, .invokespecial 28, 3, (35, 2, [(0, 82)], 0, "")), (12, .aload_n 2, 1, px_x0), (13, .aload_n 0, 1, px_x0), (14, .getfield 29, 3, (10, 0, [(0, 0), (1, 0), (3, 0), (8, 0), (9, 0)], 0, "AllSworn$Plain")), (17, .invokevirtual 33, 3, (33, 1, [(5, 65)], 0, "")), (20, .iadd, 1, px_x0), (21, .ireturn, 1, px_x0)])
def m_X4_init : px_M := (yX4_init, cX4_init, 1, none, 1, [(0, .aload_n 0, 1, px_x0), (1, .invokespecial 3, 3, (36, 0, [], 0, "")), (4, .aload_n 0, 1, px_x0), (5, .bipush 120, 2, px_x0), (7, .newarray .int, 2, px_x0), (9, .putfield 11, 3, (10, 0, [(4, 0)], 0, "AllSworn$Reader")), (12, .aload_n 0, 1, px_x0), (13, .iconst 0, 1, px_x0), (14, .putfield 15, 3, (10, 1, [(4, 0)], 0, "AllSworn$Reader")), (17, .aload_n 0, 1, px_x0), (18, .iconst 0, 1, px_x0), (19, .putfield 19, 3, (10, 2, [(4, 0)], 0, "AllSworn$Reader")), (22, .aload_n 0, 1, px_x0), (23, .iconst 0, 1, px_x0), (24, .putfield 22, 3, (10, 3, [(4, 0)], 0, "AllSworn$Reader")), (27, .aload_n 0, 1, px_x0), (28, .iconst 0, 1, px_x0), (29, .putfield 25, 3, (10, 4, [(4, 0)], 0, "AllSworn$Reader")), (32, .return_, 1, px_x0)])
def m_X4_take : px_M := (yX4_take, cX4_take, 2, some .boolean, 0, [(0, .aload_n 0, 1, px_x0), (1, .getfield 15, 3, (10, 1, [(4, 0)], 0, "AllSworn$Reader")), (4, .bipush 120, 2, px_x0), (6, .if_icmp .lt 5, 3, px_x0), (9, .iconst 0, 1, px_x0), (10, .ireturn, 1, px_x0), (11, .aload_n 0, 1, px_x0), (12, .getfield 11, 3, (10, 0, [(4, 0)], 0, "AllSworn$Reader")), (15, .aload_n 0, 1, px_x0), (16, .getfield 15, 3, (10, 1, [(4, 0)], 0, "AllSworn$Reader")), (19, .iload_n 1, 1, px_x0), (20, .iastore, 1, px_x0), (21, .aload_n 0, 1, px_x0), (22, .dup, 1, px_x0), (23, .getfield 15, 3, (10, 1, [(4, 0)], 0, "AllSworn$Reader")), (26, .iconst 1, 1, px_x0), (27, .iadd, 1, px_x0), (28, .putfield 15, 3, (10, 1, [(4, 0)], 0, "AllSworn$Reader")), (31, .iconst 1, 1, px_x0), (32, .ireturn, 1, px_x0)])
def m_X4_readTo : px_M := (yX4_readTo, cX4_readTo, 4, some .boolean, 120, [(0, .aload_n 0, 1, px_x0), (1, .iconst 0, 1, px_x0), (2, .putfield 19, 3, (10, 2, [(4, 0)], 0, "AllSworn$Reader")), (5, .aload_n 0, 1, px_x0), (6, .iconst 0, 1, px_x0), (7, .putfield 22, 3, (10, 3, [(4, 0)], 0, "AllSworn$Reader")), (10, .aload_n 0, 1, px_x0), (11, .bipush 98, 2, px_x0), (13, .invokevirtual 28, 3, (33, 1, [(4, 35)], 0, "")), (16, .aload_n 1, 1, px_x0), (17, .aload_n 0, 1, px_x0), (18, .iconst 1, 1, px_x0), (19, .bipush 40, 2, px_x0), (21, .invokevirtual 32, 3, (33, 2, [(4, 36)], 0, "")), (24, .invokevirtual 36, 3, (33, 1, [(5, 43)], 0, "")), (27, .aload_n 0, 1, px_x0), (28, .bipush 59, 2, px_x0), (30, .invokevirtual 28, 3, (33, 1, [(4, 35)], 0, "")), (33, .iconst 0, 1, px_x0), (34, .istore_n 2, 1, px_x0), (35, .iload_n 2, 1, px_x0), (36, .bipush 120, 2, px_x0), (38, .if_icmp .ge 81, 3, px_x0), (41, .aload_n 0, 1, px_x0), (42, .getfield 22, 3, (10, 3, [(4, 0)], 0, "AllSworn$Reader")), (45, .ifCond .ne 74, 3, px_x0), (48, .aload_n 0, 1, px_x0), (49, .getfield 19, 3, (10, 2, [(4, 0)], 0, "AllSworn$Reader")), (52, .aload_n 0, 1, px_x0), (53, .getfield 15, 3, (10, 1, [(4, 0)], 0, "AllSworn$Reader")), (56, .if_icmp .ge 63, 3, px_x0), (59, .aload_n 0, 1, px_x0), (60, .invokevirtual 42, 3, (33, 0, [(4, 37)], 0, "")), (63, .invokestatic 46, 3, (30, 1, [(0, 39)], 0, "")), (66, .istore_n 3, 1, px_x0), (67, .iload_n 3, 1, px_x0), (68, .ifCond .eq 19, 3, px_x0), (71, .aload_n 1, 1, px_x0), (72, .getfield 50, 3, (11, 6, [(5, 0)], 0, "AllSworn$Realm")), (75, .ifCond .ne 12, 3, px_x0), (78, .aload_n 0, 1, px_x0), (79, .aload_n 1, 1, px_x0), (80, .iload_n 3, 1, px_x0), (81, .invokevirtual 53, 3, (33, 2, [(4, 33)], 0, "")), (84, .goto 29, 3, px_x0), (87, .aload_n 0, 1, px_x0), (88, .invokevirtual 42, 3, (33, 0, [(4, 37)], 0, "")), (91, .bipush 104, 2, px_x0), (93, .if_icmp .ne 11, 3, px_x0), (96, .aload_n 0, 1, px_x0), (97, .aload_n 1, 1, px_x0), (98, .invokevirtual 57, 3, (33, 1, [(4, 34)], 0, "")), (101, .goto 12, 3, px_x0), (104, .aload_n 0, 1, px_x0), (105, .iconst 1, 1, px_x0), (106, .aload_n 0, 1, px_x0), (107, .getfield 19, 3, (10, 2, [(4, 0)], 0, "AllSworn$Reader")), (110, .invokevirtual 61, 3, (33, 2, [(4, 38)], 0, "")), (113, .iinc 2 1, 3, px_x0), (116, .goto (-81), 3, px_x0), (119, .aload_n 0, 1, px_x0), (120, .iconst 0, 1, px_x0), (121, .putfield 15, 3, (10, 1, [(4, 0)], 0, "AllSworn$Reader")), (124, .aload_n 0, 1, px_x0), (125, .getfield 22, 3, (10, 3, [(4, 0)], 0, "AllSworn$Reader")), (128, .ifCond .ne 7, 3, px_x0), (131, .iconst 1, 1, px_x0), (132, .goto 4, 3, px_x0), (135, .iconst 0, 1, px_x0), (136, .ireturn, 1, px_x0)])
def m_X4_readThing : px_M := (yX4_readThing, cX4_readThing, 5, none, 1, [(0, .aload_n 1, 1, px_x0), (1, .getfield 65, 3, (11, 5, [(5, 0)], 0, "AllSworn$Realm")), (4, .bipush 8, 2, px_x0), (6, .if_icmp .lt 13, 3, px_x0), (9, .aload_n 0, 1, px_x0), (10, .iconst 3, 1, px_x0), (11, .aload_n 0, 1, px_x0), (12, .getfield 19, 3, (10, 2, [(4, 0)], 0, "AllSworn$Reader")), (15, .invokevirtual 61, 3, (33, 2, [(4, 38)], 0, "")), (18, .return_, 1, px_x0), (19, .aload_n 0, 1, px_x0), (20, .dup, 1, px_x0), (21, .getfield 19, 3, (10, 2, [(4, 0)], 0, "AllSworn$Reader")), (24, .iconst 1, 1, px_x0), (25, .iadd, 1, px_x0), (26, .putfield 19, 3, (10, 2, [(4, 0)], 0, "AllSworn$Reader")), (29, .aload_n 0, 1, px_x0), (30, .iconst 0, 1, px_x0), (31, .bipush 9, 2, px_x0), (33, .invokevirtual 32, 3, (33, 2, [(4, 36)], 0, "")), (36, .istore_n 3, 1, px_x0), (37, .aload_n 0, 1, px_x0), (38, .bipush 44, 2, px_x0), (40, .invokevirtual 28, 3, (33, 1, [(4, 35)], 0, "")), (43, .aload_n 0, 1, px_x0), (44, .iconst 0, 1, px_x0), (45, .bipush 20, 2, px_x0), (47, .invokevirtual 32, 3, (33, 2, [(4, 36)], 0, "")), (50, .istore 4, 2, px_x0), (52, .aload_n 0, 1, px_x0), (53, .bipush 59, 2, px_x0), (55, .invokevirtual 28, 3, (33, 1, [(4, 35)], 0, "")), (58, .aload_n 0, 1, px_x0), (59, .getfield 22, 3, (10, 3, [(4, 0)], 0, "AllSworn$Reader")), (62, .ifCond .ne 18, 3, px_x0), (65, .aload_n 1, 1, px_x0), (66, .iload_n 2, 1, px_x0), (67, .aload_n 1, 1, px_x0), (68, .getfield 65, 3, (11, 5, [(5, 0)], 0, "AllSworn$Realm")), (71, .iload_n 3, 1, px_x0), (72, .iload 4, 2, px_x0), (74, .invokestatic 68, 3, (30, 4, [(0, 40)], 0, "")), (77, .invokevirtual 72, 3, (33, 1, [(5, 44)], 0, "")), (80, .return_, 1, px_x0)])
def m_X4_readHarm : px_M := (yX4_readHarm, cX4_readHarm, 3, none, 0, [(0, .aload_n 1, 1, px_x0), (1, .getfield 50, 3, (11, 6, [(5, 0)], 0, "AllSworn$Realm")), (4, .bipush 8, 2, px_x0), (6, .if_icmp .lt 13, 3, px_x0), (9, .aload_n 0, 1, px_x0), (10, .iconst 3, 1, px_x0), (11, .aload_n 0, 1, px_x0), (12, .getfield 19, 3, (10, 2, [(4, 0)], 0, "AllSworn$Reader")), (15, .invokevirtual 61, 3, (33, 2, [(4, 38)], 0, "")), (18, .return_, 1, px_x0), (19, .aload_n 0, 1, px_x0), (20, .dup, 1, px_x0), (21, .getfield 19, 3, (10, 2, [(4, 0)], 0, "AllSworn$Reader")), (24, .iconst 1, 1, px_x0), (25, .iadd, 1, px_x0), (26, .putfield 19, 3, (10, 2, [(4, 0)], 0, "AllSworn$Reader")), (29, .aload_n 0, 1, px_x0), (30, .iconst 1, 1, px_x0), (31, .iconst 1, 1, px_x0), (32, .aload_n 1, 1, px_x0), (33, .getfield 65, 3, (11, 5, [(5, 0)], 0, "AllSworn$Realm")), (36, .ishl, 1, px_x0), (37, .iconst 1, 1, px_x0), (38, .isub, 1, px_x0), (39, .invokevirtual 32, 3, (33, 2, [(4, 36)], 0, "")), (42, .istore_n 2, 1, px_x0), (43, .aload_n 0, 1, px_x0), (44, .bipush 59, 2, px_x0), (46, .invokevirtual 28, 3, (33, 1, [(4, 35)], 0, "")), (49, .aload_n 0, 1, px_x0), (50, .getfield 22, 3, (10, 3, [(4, 0)], 0, "AllSworn$Reader")), (53, .ifCond .ne 8, 3, px_x0), (56, .aload_n 1, 1, px_x0), (57, .iload_n 2, 1, px_x0), (58, .invokevirtual 76, 3, (33, 1, [(5, 45)], 0, "")), (61, .return_, 1, px_x0)])
def m_X4_expect : px_M := (yX4_expect, cX4_expect, 2, none, 0, [(0, .aload_n 0, 1, px_x0), (1, .getfield 22, 3, (10, 3, [(4, 0)], 0, "AllSworn$Reader")), (4, .ifCond .eq 4, 3, px_x0), (7, .return_, 1, px_x0), (8, .aload_n 0, 1, px_x0), (9, .invokevirtual 42, 3, (33, 0, [(4, 37)], 0, "")), (12, .iload_n 1, 1, px_x0), (13, .if_icmp .ne 16, 3, px_x0), (16, .aload_n 0, 1, px_x0), (17, .dup, 1, px_x0), (18, .getfield 19, 3, (10, 2, [(4, 0)], 0, "AllSworn$Reader")), (21, .iconst 1, 1, px_x0), (22, .iadd, 1, px_x0), (23, .putfield 19, 3, (10, 2, [(4, 0)], 0, "AllSworn$Reader")), (26, .goto 12, 3, px_x0), (29, .aload_n 0, 1, px_x0), (30, .iconst 1, 1, px_x0), (31, .aload_n 0, 1, px_x0), (32, .getfield 19, 3, (10, 2, [(4, 0)], 0, "AllSworn$Reader")), (35, .invokevirtual 61, 3, (33, 2, [(4, 38)], 0, "")), (38, .return_, 1, px_x0)])
def m_X4_readNumber : px_M := (yX4_readNumber, cX4_readNumber, 6, some .int, 0, [(0, .aload_n 0, 1, px_x0), (1, .getfield 22, 3, (10, 3, [(4, 0)], 0, "AllSworn$Reader")), (4, .ifCond .eq 5, 3, px_x0), (7, .iload_n 1, 1, px_x0), (8, .ireturn, 1, px_x0), (9, .aload_n 0, 1, px_x0), (10, .getfield 19, 3, (10, 2, [(4, 0)], 0, "AllSworn$Reader")), (13, .istore_n 3, 1, px_x0), (14, .iconst 0, 1, px_x0), (15, .istore 4, 2, px_x0), (17, .iconst 0, 1, px_x0), (18, .istore 5, 2, px_x0), (20, .iload 5, 2, px_x0), (22, .bipush 120, 2, px_x0), (24, .if_icmp .ge 52, 3, px_x0), (27, .aload_n 0, 1, px_x0), (28, .invokevirtual 42, 3, (33, 0, [(4, 37)], 0, "")), (31, .bipush 48, 2, px_x0), (33, .if_icmp .lt 43, 3, px_x0), (36, .aload_n 0, 1, px_x0), (37, .invokevirtual 42, 3, (33, 0, [(4, 37)], 0, "")), (40, .bipush 57, 2, px_x0), (42, .if_icmp .gt 34, 3, px_x0), (45, .iload 4, 2, px_x0), (47, .bipush 10, 2, px_x0), (49, .imul, 1, px_x0), (50, .aload_n 0, 1, px_x0), (51, .invokevirtual 42, 3, (33, 0, [(4, 37)], 0, "")), (54, .bipush 48, 2, px_x0), (56, .isub, 1, px_x0), (57, .iadd, 1, px_x0), (58, .istore 4, 2, px_x0), (60, .aload_n 0, 1, px_x0), (61, .dup, 1, px_x0), (62, .getfield 19, 3, (10, 2, [(4, 0)], 0, "AllSworn$Reader")), (65, .iconst 1, 1, px_x0), (66, .iadd, 1, px_x0), (67, .putfield 19, 3, (10, 2, [(4, 0)], 0, "AllSworn$Reader")), (70, .iinc 5 1, 3, px_x0), (73, .goto (-53), 3, px_x0), (76, .aload_n 0, 1, px_x0), (77, .getfield 19, 3, (10, 2, [(4, 0)], 0, "AllSworn$Reader")), (80, .iload_n 3, 1, px_x0), (81, .isub, 1, px_x0), (82, .istore 5, 2, px_x0), (84, .iload 5, 2, px_x0), (86, .ifCond .eq 9, 3, px_x0), (89, .iload 5, 2, px_x0), (91, .iconst 3, 1, px_x0), (92, .if_icmp .le 12, 3, px_x0), (95, .aload_n 0, 1, px_x0), (96, .iconst 1, 1, px_x0), (97, .iload_n 3, 1, px_x0), (98, .invokevirtual 61, 3, (33, 2, [(4, 38)], 0, "")), (101, .goto 21, 3, px_x0), (104, .iload 4, 2, px_x0), (106, .iload_n 1, 1, px_x0), (107, .if_icmp .lt 9, 3, px_x0), (110, .iload 4, 2, px_x0), (112, .iload_n 2, 1, px_x0), (113, .if_icmp .le 9, 3, px_x0), (116, .aload_n 0, 1, px_x0), (117, .iconst 2, 1, px_x0), (118, .iload_n 3, 1, px_x0), (119, .invokevirtual 61, 3, (33, 2, [(4, 38)], 0, "")), (122, .iload 4, 2, px_x0), (124, .ireturn, 1, px_x0)])
def m_X4_next : px_M := (yX4_next, cX4_next, 1, some .int, 0, [(0, .aload_n 0, 1, px_x0), (1, .getfield 19, 3, (10, 2, [(4, 0)], 0, "AllSworn$Reader")), (4, .ifCond .lt 35, 3, px_x0), (7, .aload_n 0, 1, px_x0), (8, .getfield 19, 3, (10, 2, [(4, 0)], 0, "AllSworn$Reader")), (11, .aload_n 0, 1, px_x0), (12, .getfield 15, 3, (10, 1, [(4, 0)], 0, "AllSworn$Reader")), (15, .if_icmp .ge 24, 3, px_x0), (18, .aload_n 0, 1, px_x0), (19, .getfield 19, 3, (10, 2, [(4, 0)], 0, "AllSworn$Reader")), (22, .bipush 120, 2, px_x0), (24, .if_icmp .ge 15, 3, px_x0), (27, .aload_n 0, 1, px_x0), (28, .getfield 11, 3, (10, 0, [(4, 0)], 0, "AllSworn$Reader")), (31, .aload_n 0, 1, px_x0), (32, .getfield 19, 3, (10, 2, [(4, 0)], 0, "AllSworn$Reader")), (35, .iaload, 1, px_x0), (36, .goto 4, 3, px_x0), (39, .iconst (-1), 1, px_x0), (40, .ireturn, 1, px_x0)])
def m_X4_note : px_M := (yX4_note, cX4_note, 3, none, 0, [(0, .aload_n 0, 1, px_x0), (1, .iload_n 1, 1, px_x0), (2, .putfield 22, 3, (10, 3, [(4, 0)], 0, "AllSworn$Reader")), (5, .aload_n 0, 1, px_x0), (6, .iload_n 2, 1, px_x0), (7, .putfield 25, 3, (10, 4, [(4, 0)], 0, "AllSworn$Reader")), (10, .return_, 1, px_x0)])
def m_X4_kindOf : px_M := (yX4_kindOf, cX4_kindOf, 1, some .int, 0, [(0, .iload_n 0, 1, px_x0), (1, .lookupswitch 61 #[(102, 57), (108, 59), (109, 53), (112, 51), (121, 55)], 51, px_x0), (52, .iconst 1, 1, px_x0), (53, .ireturn, 1, px_x0), (54, .iconst 2, 1, px_x0), (55, .ireturn, 1, px_x0), (56, .iconst 3, 1, px_x0), (57, .ireturn, 1, px_x0), (58, .iconst 4, 1, px_x0), (59, .ireturn, 1, px_x0), (60, .iconst 5, 1, px_x0), (61, .ireturn, 1, px_x0), (62, .iconst 0, 1, px_x0), (63, .ireturn, 1, px_x0)])
def m_X4_made : px_M := (yX4_made, cX4_made, 4, some (.object "AllSworn$Thing"), 1, [(0, .iload_n 0, 1, px_x0), (1, .tableswitch 75 2 5 #[31, 42, 53, 64], 31, px_x0), (32, .new 79, 3, (20, 1, [], 0, "")), (35, .dup, 1, px_x0), (36, .iload_n 1, 1, px_x0), (37, .iload_n 2, 1, px_x0), (38, .iload_n 3, 1, px_x0), (39, .invokespecial 81, 3, (31, 3, [(0, 6)], 0, "")), (42, .areturn, 1, px_x0), (43, .new 84, 3, (20, 9, [], 0, "")), (46, .dup, 1, px_x0), (47, .iload_n 1, 1, px_x0), (48, .iload_n 2, 1, px_x0), (49, .iload_n 3, 1, px_x0), (50, .invokespecial 86, 3, (31, 3, [(0, 92)], 0, "")), (53, .areturn, 1, px_x0), (54, .new 87, 3, (20, 0, [], 0, "")), (57, .dup, 1, px_x0), (58, .iload_n 1, 1, px_x0), (59, .iload_n 2, 1, px_x0), (60, .iload_n 3, 1, px_x0), (61, .invokespecial 89, 3, (31, 3, [(0, 0)], 0, "")), (64, .areturn, 1, px_x0), (65, .new 90, 3, (20, 8, [], 0, "")), (68, .dup, 1, px_x0), (69, .iload_n 1, 1, px_x0), (70, .iload_n 2, 1, px_x0), (71, .iload_n 3, 1, px_x0), (72, .invokespecial 92, 3, (31, 3, [(0, 87)], 0, "")), (75, .areturn, 1, px_x0), (76, .new 93, 3, (20, 3, [], 0, "")), (79, .dup, 1, px_x0), (80, .iload_n 1, 1, px_x0), (81, .iload_n 2, 1, px_x0), (82, .iload_n 3, 1, px_x0), (83, .invokespecial 95, 3, (31, 3, [(0, 25)], 0, "")), (86, .areturn, 1, px_x0)])
def m_X5_init : px_M := (yX5_init, cX5_init, 1, none, 4, [(0, .aload_n 0, 1, px_x0), (1, .invokespecial 3, 3, (36, 0, [], 0, "")), (4, .aload_n 0, 1, px_x0), (5, .bipush 8, 2, px_x0), (7, .anewarray 9, 3, (21, 0, [], 0, "AllSworn$Thing")), (10, .putfield 11, 3, (10, 0, [(5, 0)], 0, "AllSworn$Realm")), (13, .aload_n 0, 1, px_x0), (14, .bipush 8, 2, px_x0), (16, .newarray .int, 2, px_x0), (18, .putfield 17, 3, (10, 1, [(5, 0)], 0, "AllSworn$Realm")), (21, .aload_n 0, 1, px_x0), (22, .bipush 8, 2, px_x0), (24, .newarray .int, 2, px_x0), (26, .putfield 21, 3, (10, 2, [(5, 0)], 0, "AllSworn$Realm")), (29, .aload_n 0, 1, px_x0), (30, .bipush 96, 2, px_x0), (32, .newarray .int, 2, px_x0), (34, .putfield 24, 3, (10, 3, [(5, 0)], 0, "AllSworn$Realm")), (37, .aload_n 0, 1, px_x0), (38, .iconst 0, 1, px_x0), (39, .putfield 27, 3, (10, 4, [(5, 0)], 0, "AllSworn$Realm")), (42, .aload_n 0, 1, px_x0), (43, .iconst 0, 1, px_x0), (44, .putfield 31, 3, (10, 5, [(5, 0)], 0, "AllSworn$Realm")), (47, .aload_n 0, 1, px_x0), (48, .iconst 0, 1, px_x0), (49, .putfield 34, 3, (10, 6, [(5, 0)], 0, "AllSworn$Realm")), (52, .aload_n 0, 1, px_x0), (53, .iconst 0, 1, px_x0), (54, .putfield 37, 3, (10, 7, [(5, 0)], 0, "AllSworn$Realm")), (57, .aload_n 0, 1, px_x0), (58, .iconst 0, 1, px_x0), (59, .putfield 40, 3, (10, 8, [(5, 0)], 0, "AllSworn$Realm")), (62, .aload_n 0, 1, px_x0), (63, .iconst 0, 1, px_x0), (64, .putfield 43, 3, (10, 9, [(5, 0)], 0, "AllSworn$Realm")), (67, .return_, 1, px_x0)])
def m_X5_isTold : px_M := (yX5_isTold, cX5_isTold, 1, some .boolean, 0, [(0, .aload_n 0, 1, px_x0), (1, .getfield 27, 3, (10, 4, [(5, 0)], 0, "AllSworn$Realm")), (4, .ifCond .le 7, 3, px_x0), (7, .iconst 1, 1, px_x0), (8, .goto 4, 3, px_x0), (11, .iconst 0, 1, px_x0), (12, .ireturn, 1, px_x0)])
def m_X5_beginAnew : px_M := (yX5_beginAnew, cX5_beginAnew, 2, none, 0, [(0, .aload_n 0, 1, px_x0), (1, .iload_n 1, 1, px_x0), (2, .putfield 27, 3, (10, 4, [(5, 0)], 0, "AllSworn$Realm")), (5, .aload_n 0, 1, px_x0), (6, .iconst 0, 1, px_x0), (7, .putfield 31, 3, (10, 5, [(5, 0)], 0, "AllSworn$Realm")), (10, .aload_n 0, 1, px_x0), (11, .iconst 0, 1, px_x0), (12, .putfield 34, 3, (10, 6, [(5, 0)], 0, "AllSworn$Realm")), (15, .aload_n 0, 1, px_x0), (16, .iconst 0, 1, px_x0), (17, .putfield 37, 3, (10, 7, [(5, 0)], 0, "AllSworn$Realm")), (20, .aload_n 0, 1, px_x0), (21, .iconst 0, 1, px_x0), (22, .putfield 40, 3, (10, 8, [(5, 0)], 0, "AllSworn$Realm")), (25, .aload_n 0, 1, px_x0), (26, .iconst 0, 1, px_x0), (27, .putfield 43, 3, (10, 9, [(5, 0)], 0, "AllSworn$Realm")), (30, .return_, 1, px_x0)])
def m_X5_addThing : px_M := (yX5_addThing, cX5_addThing, 2, none, 0, [(0, .aload_n 0, 1, px_x0), (1, .getfield 31, 3, (10, 5, [(5, 0)], 0, "AllSworn$Realm")), (4, .bipush 8, 2, px_x0), (6, .if_icmp .ge 34, 3, px_x0), (9, .aload_n 0, 1, px_x0), (10, .getfield 11, 3, (10, 0, [(5, 0)], 0, "AllSworn$Realm")), (13, .aload_n 0, 1, px_x0), (14, .getfield 31, 3, (10, 5, [(5, 0)], 0, "AllSworn$Realm")), (17, .aload_n 1, 1, px_x0), (18, .aastore, 1, px_x0), (19, .aload_n 0, 1, px_x0), (20, .getfield 17, 3, (10, 1, [(5, 0)], 0, "AllSworn$Realm")), (23, .aload_n 0, 1, px_x0), (24, .getfield 31, 3, (10, 5, [(5, 0)], 0, "AllSworn$Realm")), (27, .ldc 46, 2, (0, 0, [], (-1000000), "")), (29, .iastore, 1, px_x0), (30, .aload_n 0, 1, px_x0), (31, .dup, 1, px_x0), (32, .getfield 31, 3, (10, 5, [(5, 0)], 0, "AllSworn$Realm")), (35, .iconst 1, 1, px_x0), (36, .iadd, 1, px_x0), (37, .putfield 31, 3, (10, 5, [(5, 0)], 0, "AllSworn$Realm")), (40, .return_, 1, px_x0)])
def m_X5_addHarm : px_M := (yX5_addHarm, cX5_addHarm, 2, none, 0, [(0, .aload_n 0, 1, px_x0), (1, .getfield 34, 3, (10, 6, [(5, 0)], 0, "AllSworn$Realm")), (4, .bipush 8, 2, px_x0), (6, .if_icmp .ge 23, 3, px_x0), (9, .aload_n 0, 1, px_x0), (10, .getfield 21, 3, (10, 2, [(5, 0)], 0, "AllSworn$Realm")), (13, .aload_n 0, 1, px_x0), (14, .getfield 34, 3, (10, 6, [(5, 0)], 0, "AllSworn$Realm")), (17, .iload_n 1, 1, px_x0), (18, .iastore, 1, px_x0), (19, .aload_n 0, 1, px_x0), (20, .dup, 1, px_x0), (21, .getfield 34, 3, (10, 6, [(5, 0)], 0, "AllSworn$Realm")), (24, .iconst 1, 1, px_x0), (25, .iadd, 1, px_x0), (26, .putfield 34, 3, (10, 6, [(5, 0)], 0, "AllSworn$Realm")), (29, .return_, 1, px_x0)])
def m_X5_becomeLike : px_M := (yX5_becomeLike, cX5_becomeLike, 3, none, 0, [(0, .aload_n 0, 1, px_x0), (1, .aload_n 1, 1, px_x0), (2, .getfield 27, 3, (10, 4, [(5, 0)], 0, "AllSworn$Realm")), (5, .putfield 27, 3, (10, 4, [(5, 0)], 0, "AllSworn$Realm")), (8, .aload_n 0, 1, px_x0), (9, .aload_n 1, 1, px_x0), (10, .getfield 31, 3, (10, 5, [(5, 0)], 0, "AllSworn$Realm")), (13, .putfield 31, 3, (10, 5, [(5, 0)], 0, "AllSworn$Realm")), (16, .aload_n 0, 1, px_x0), (17, .aload_n 1, 1, px_x0), (18, .getfield 34, 3, (10, 6, [(5, 0)], 0, "AllSworn$Realm")), (21, .putfield 34, 3, (10, 6, [(5, 0)], 0, "AllSworn$Realm")), (24, .aload_n 0, 1, px_x0), (25, .iconst 0, 1, px_x0), (26, .putfield 37, 3, (10, 7, [(5, 0)], 0, "AllSworn$Realm")), (29, .aload_n 0, 1, px_x0), (30, .aload_n 1, 1, px_x0), (31, .getfield 40, 3, (10, 8, [(5, 0)], 0, "AllSworn$Realm")), (34, .putfield 40, 3, (10, 8, [(5, 0)], 0, "AllSworn$Realm")), (37, .aload_n 0, 1, px_x0), (38, .aload_n 1, 1, px_x0), (39, .getfield 43, 3, (10, 9, [(5, 0)], 0, "AllSworn$Realm")), (42, .putfield 43, 3, (10, 9, [(5, 0)], 0, "AllSworn$Realm")), (45, .iconst 0, 1, px_x0), (46, .istore_n 2, 1, px_x0), (47, .iload_n 2, 1, px_x0), (48, .bipush 8, 2, px_x0), (50, .if_icmp .ge 21, 3, px_x0), (53, .aload_n 0, 1, px_x0), (54, .getfield 11, 3, (10, 0, [(5, 0)], 0, "AllSworn$Realm")), (57, .iload_n 2, 1, px_x0), (58, .aload_n 1, 1, px_x0), (59, .getfield 11, 3, (10, 0, [(5, 0)], 0, "AllSworn$Realm")), (62, .iload_n 2, 1, px_x0), (63, .aaload, 1, px_x0), (64, .aastore, 1, px_x0), (65, .iinc 2 1, 3, px_x0), (68, .goto (-21), 3, px_x0), (71, .aload_n 1, 1, px_x0), (72, .getfield 17, 3, (10, 1, [(5, 0)], 0, "AllSworn$Realm")), (75, .iconst 0, 1, px_x0), (76, .aload_n 0, 1, px_x0), (77, .getfield 17, 3, (10, 1, [(5, 0)], 0, "AllSworn$Realm")), (80, .iconst 0, 1, px_x0), (81, .bipush 8, 2, px_x0), (83, .invokestatic 47, 3, (37, 0, [], 0, "")), (86, .aload_n 1, 1, px_x0), (87, .getfield 21, 3, (10, 2, [(5, 0)], 0, "AllSworn$Realm")), (90, .iconst 0, 1, px_x0), (91, .aload_n 0, 1, px_x0), (92, .getfield 21, 3, (10, 2, [(5, 0)], 0, "AllSworn$Realm")), (95, .iconst 0, 1, px_x0), (96, .bipush 8, 2, px_x0), (98, .invokestatic 47, 3, (37, 0, [], 0, "")), (101, .return_, 1, px_x0)])
def m_X5_thingAt : px_M := (yX5_thingAt, cX5_thingAt, 2, some (.object "AllSworn$Thing"), 0, [(0, .iload_n 1, 1, px_x0), (1, .ifCond .lt 26, 3, px_x0), (4, .iload_n 1, 1, px_x0), (5, .aload_n 0, 1, px_x0), (6, .getfield 31, 3, (10, 5, [(5, 0)], 0, "AllSworn$Realm")), (9, .if_icmp .ge 18, 3, px_x0), (12, .iload_n 1, 1, px_x0), (13, .bipush 8, 2, px_x0), (15, .if_icmp .ge 12, 3, px_x0), (18, .aload_n 0, 1, px_x0), (19, .getfield 11, 3, (10, 0, [(5, 0)], 0, "AllSworn$Realm")), (22, .iload_n 1, 1, px_x0), (23, .aaload, 1, px_x0), (24, .goto 4, 3, px_x0), (27, .aconst_null, 1, px_x0), (28, .areturn, 1, px_x0)])
def m_X5_oathOf : px_M := (yX5_oathOf, cX5_oathOf, 2, some .int, 0, [(0, .iload_n 1, 1, px_x0), (1, .ifCond .lt 26, 3, px_x0), (4, .iload_n 1, 1, px_x0), (5, .aload_n 0, 1, px_x0), (6, .getfield 31, 3, (10, 5, [(5, 0)], 0, "AllSworn$Realm")), (9, .if_icmp .ge 18, 3, px_x0), (12, .iload_n 1, 1, px_x0), (13, .bipush 8, 2, px_x0), (15, .if_icmp .ge 12, 3, px_x0), (18, .aload_n 0, 1, px_x0), (19, .getfield 17, 3, (10, 1, [(5, 0)], 0, "AllSworn$Realm")), (22, .iload_n 1, 1, px_x0), (23, .iaload, 1, px_x0), (24, .goto 5, 3, px_x0), (27, .ldc 46, 2, (0, 0, [], (-1000000), "")), (29, .ireturn, 1, px_x0)])
def m_X5_hasHarm : px_M := (yX5_hasHarm, cX5_hasHarm, 2, some .boolean, 0, [(0, .iload_n 1, 1, px_x0), (1, .ifCond .lt 21, 3, px_x0), (4, .iload_n 1, 1, px_x0), (5, .aload_n 0, 1, px_x0), (6, .getfield 34, 3, (10, 6, [(5, 0)], 0, "AllSworn$Realm")), (9, .if_icmp .ge 13, 3, px_x0), (12, .iload_n 1, 1, px_x0), (13, .bipush 8, 2, px_x0), (15, .if_icmp .ge 7, 3, px_x0), (18, .iconst 1, 1, px_x0), (19, .goto 4, 3, px_x0), (22, .iconst 0, 1, px_x0), (23, .ireturn, 1, px_x0)])
def m_X5_harmAt : px_M := (yX5_harmAt, cX5_harmAt, 2, some .int, 0, [(0, .aload_n 0, 1, px_x0), (1, .iload_n 1, 1, px_x0), (2, .invokevirtual 53, 3, (33, 1, [(5, 49)], 0, "")), (5, .ifCond .eq 12, 3, px_x0), (8, .aload_n 0, 1, px_x0), (9, .getfield 21, 3, (10, 2, [(5, 0)], 0, "AllSworn$Realm")), (12, .iload_n 1, 1, px_x0), (13, .iaload, 1, px_x0), (14, .goto 4, 3, px_x0), (17, .iconst 0, 1, px_x0), (18, .ireturn, 1, px_x0)])
def m_X5_sendTo : px_M := (yX5_sendTo, cX5_sendTo, 2, none, 0, [(0, .aload_n 0, 1, px_x0), (1, .aload_n 1, 1, px_x0), (2, .getfield 57, 3, (10, 0, [(0, 0), (1, 0), (3, 0), (8, 0), (9, 0)], 0, "AllSworn$Thing")), (5, .invokevirtual 60, 3, (33, 1, [(5, 55)], 0, "")), (8, .aload_n 0, 1, px_x0), (9, .dup, 1, px_x0), (10, .getfield 40, 3, (10, 8, [(5, 0)], 0, "AllSworn$Realm")), (13, .aload_n 1, 1, px_x0), (14, .invokevirtual 64, 3, (34, 0, [(0, 3), (1, 78), (3, 78), (8, 3), (9, 78)], 0, "AllSworn$Thing")), (17, .iadd, 1, px_x0), (18, .putfield 40, 3, (10, 8, [(5, 0)], 0, "AllSworn$Realm")), (21, .aload_n 1, 1, px_x0), (22, .aload_n 0, 1, px_x0), (23, .getfield 40, 3, (10, 8, [(5, 0)], 0, "AllSworn$Realm")), (26, .invokevirtual 68, 3, (34, 1, [(0, 79), (1, 79), (3, 79), (8, 79), (9, 95)], 0, "AllSworn$Thing")), (29, .ifCond .eq 15, 3, px_x0), (32, .aload_n 0, 1, px_x0), (33, .aload_n 1, 1, px_x0), (34, .getfield 57, 3, (10, 0, [(0, 0), (1, 0), (3, 0), (8, 0), (9, 0)], 0, "AllSworn$Thing")), (37, .aload_n 0, 1, px_x0), (38, .getfield 40, 3, (10, 8, [(5, 0)], 0, "AllSworn$Realm")), (41, .invokevirtual 71, 3, (33, 2, [(5, 56)], 0, "")), (44, .return_, 1, px_x0)])
def m_X5_tryHarm : px_M := (yX5_tryHarm, cX5_tryHarm, 3, some .boolean, 0, [(0, .aload_n 0, 1, px_x0), (1, .aload_n 0, 1, px_x0), (2, .getfield 40, 3, (10, 8, [(5, 0)], 0, "AllSworn$Realm")), (5, .invokevirtual 75, 3, (33, 1, [(5, 59)], 0, "")), (8, .iload_n 1, 1, px_x0), (9, .ishr, 1, px_x0), (10, .iconst 1, 1, px_x0), (11, .iand, 1, px_x0), (12, .iconst 1, 1, px_x0), (13, .if_icmp .ne 7, 3, px_x0), (16, .iconst 1, 1, px_x0), (17, .goto 4, 3, px_x0), (20, .iconst 0, 1, px_x0), (21, .istore_n 2, 1, px_x0), (22, .aload_n 0, 1, px_x0), (23, .ldc 46, 2, (0, 0, [], (-1000000), "")), (25, .invokevirtual 60, 3, (33, 1, [(5, 55)], 0, "")), (28, .iload_n 2, 1, px_x0), (29, .ifCond .eq 13, 3, px_x0), (32, .aload_n 0, 1, px_x0), (33, .dup, 1, px_x0), (34, .getfield 43, 3, (10, 9, [(5, 0)], 0, "AllSworn$Realm")), (37, .iconst 1, 1, px_x0), (38, .iadd, 1, px_x0), (39, .putfield 43, 3, (10, 9, [(5, 0)], 0, "AllSworn$Realm")), (42, .iload_n 2, 1, px_x0), (43, .ireturn, 1, px_x0)])
def m_X5_letPass : px_M := (yX5_letPass, cX5_letPass, 2, none, 0, [(0, .aload_n 0, 1, px_x0), (1, .ldc 46, 2, (0, 0, [], (-1000000), "")), (3, .invokevirtual 60, 3, (33, 1, [(5, 55)], 0, "")), (6, .aload_n 0, 1, px_x0), (7, .dup, 1, px_x0), (8, .getfield 40, 3, (10, 8, [(5, 0)], 0, "AllSworn$Realm")), (11, .iload_n 1, 1, px_x0), (12, .iadd, 1, px_x0), (13, .putfield 40, 3, (10, 8, [(5, 0)], 0, "AllSworn$Realm")), (16, .return_, 1, px_x0)])
def m_X5_undoLatest : px_M := (yX5_undoLatest, cX5_undoLatest, 2, some .boolean, 0, [(0, .aload_n 0, 1, px_x0), (1, .getfield 37, 3, (10, 7, [(5, 0)], 0, "AllSworn$Realm")), (4, .iconst 1, 1, px_x0), (5, .if_icmp .lt 12, 3, px_x0), (8, .aload_n 0, 1, px_x0), (9, .getfield 37, 3, (10, 7, [(5, 0)], 0, "AllSworn$Realm")), (12, .bipush 24, 2, px_x0), (14, .if_icmp .le 5, 3, px_x0), (17, .iconst 0, 1, px_x0), (18, .ireturn, 1, px_x0), (19, .aload_n 0, 1, px_x0), (20, .dup, 1, px_x0), (21, .getfield 37, 3, (10, 7, [(5, 0)], 0, "AllSworn$Realm")), (24, .iconst 1, 1, px_x0), (25, .isub, 1, px_x0), (26, .putfield 37, 3, (10, 7, [(5, 0)], 0, "AllSworn$Realm")), (29, .aload_n 0, 1, px_x0), (30, .getfield 37, 3, (10, 7, [(5, 0)], 0, "AllSworn$Realm")), (33, .iconst 4, 1, px_x0), (34, .imul, 1, px_x0), (35, .istore_n 1, 1, px_x0), (36, .aload_n 0, 1, px_x0), (37, .aload_n 0, 1, px_x0), (38, .getfield 24, 3, (10, 3, [(5, 0)], 0, "AllSworn$Realm")), (41, .iload_n 1, 1, px_x0), (42, .iaload, 1, px_x0), (43, .aload_n 0, 1, px_x0), (44, .getfield 24, 3, (10, 3, [(5, 0)], 0, "AllSworn$Realm")), (47, .iload_n 1, 1, px_x0), (48, .iconst 1, 1, px_x0), (49, .iadd, 1, px_x0), (50, .iaload, 1, px_x0), (51, .invokevirtual 71, 3, (33, 2, [(5, 56)], 0, "")), (54, .aload_n 0, 1, px_x0), (55, .aload_n 0, 1, px_x0), (56, .getfield 24, 3, (10, 3, [(5, 0)], 0, "AllSworn$Realm")), (59, .iload_n 1, 1, px_x0), (60, .iconst 2, 1, px_x0), (61, .iadd, 1, px_x0), (62, .iaload, 1, px_x0), (63, .putfield 40, 3, (10, 8, [(5, 0)], 0, "AllSworn$Realm")), (66, .aload_n 0, 1, px_x0), (67, .aload_n 0, 1, px_x0), (68, .getfield 24, 3, (10, 3, [(5, 0)], 0, "AllSworn$Realm")), (71, .iload_n 1, 1, px_x0), (72, .iconst 3, 1, px_x0), (73, .iadd, 1, px_x0), (74, .iaload, 1, px_x0), (75, .putfield 43, 3, (10, 9, [(5, 0)], 0, "AllSworn$Realm")), (78, .iconst 1, 1, px_x0), (79, .ireturn, 1, px_x0)])
def m_X5_keepAct : px_M := (yX5_keepAct, cX5_keepAct, 3, none, 0, [(0, .aload_n 0, 1, px_x0), (1, .getfield 37, 3, (10, 7, [(5, 0)], 0, "AllSworn$Realm")), (4, .bipush 24, 2, px_x0), (6, .if_icmp .lt 24, 3, px_x0), (9, .aload_n 0, 1, px_x0), (10, .getfield 24, 3, (10, 3, [(5, 0)], 0, "AllSworn$Realm")), (13, .iconst 4, 1, px_x0), (14, .aload_n 0, 1, px_x0), (15, .getfield 24, 3, (10, 3, [(5, 0)], 0, "AllSworn$Realm")), (18, .iconst 0, 1, px_x0), (19, .bipush 92, 2, px_x0), (21, .invokestatic 47, 3, (37, 0, [], 0, "")), (24, .aload_n 0, 1, px_x0), (25, .bipush 23, 2, px_x0), (27, .putfield 37, 3, (10, 7, [(5, 0)], 0, "AllSworn$Realm")), (30, .aload_n 0, 1, px_x0), (31, .getfield 37, 3, (10, 7, [(5, 0)], 0, "AllSworn$Realm")), (34, .iconst 4, 1, px_x0), (35, .imul, 1, px_x0), (36, .istore_n 2, 1, px_x0), (37, .aload_n 0, 1, px_x0), (38, .getfield 24, 3, (10, 3, [(5, 0)], 0, "AllSworn$Realm")), (41, .iload_n 2, 1, px_x0), (42, .iload_n 1, 1, px_x0), (43, .iastore, 1, px_x0), (44, .aload_n 0, 1, px_x0), (45, .getfield 24, 3, (10, 3, [(5, 0)], 0, "AllSworn$Realm")), (48, .iload_n 2, 1, px_x0), (49, .iconst 1, 1, px_x0), (50, .iadd, 1, px_x0), (51, .aload_n 0, 1, px_x0), (52, .iload_n 1, 1, px_x0), (53, .invokevirtual 79, 3, (33, 1, [(5, 48)], 0, "")), (56, .iastore, 1, px_x0), (57, .aload_n 0, 1, px_x0), (58, .getfield 24, 3, (10, 3, [(5, 0)], 0, "AllSworn$Realm")), (61, .iload_n 2, 1, px_x0), (62, .iconst 2, 1, px_x0), (63, .iadd, 1, px_x0), (64, .aload_n 0, 1, px_x0), (65, .getfield 40, 3, (10, 8, [(5, 0)], 0, "AllSworn$Realm")), (68, .iastore, 1, px_x0), (69, .aload_n 0, 1, px_x0), (70, .getfield 24, 3, (10, 3, [(5, 0)], 0, "AllSworn$Realm")), (73, .iload_n 2, 1, px_x0), (74, .iconst 3, 1, px_x0), (75, .iadd, 1, px_x0), (76, .aload_n 0, 1, px_x0), (77, .getfield 43, 3, (10, 9, [(5, 0)], 0, "AllSworn$Realm")), (80, .iastore, 1, px_x0), (81, .aload_n 0, 1, px_x0), (82, .dup, 1, px_x0), (83, .getfield 37, 3, (10, 7, [(5, 0)], 0, "AllSworn$Realm")), (86, .iconst 1, 1, px_x0), (87, .iadd, 1, px_x0), (88, .putfield 37, 3, (10, 7, [(5, 0)], 0, "AllSworn$Realm")), (91, .return_, 1, px_x0)])
def m_X5_swear : px_M := (yX5_swear, cX5_swear, 3, none, 0, [(0, .iload_n 1, 1, px_x0), (1, .ifCond .lt 24, 3, px_x0), (4, .iload_n 1, 1, px_x0), (5, .aload_n 0, 1, px_x0), (6, .getfield 31, 3, (10, 5, [(5, 0)], 0, "AllSworn$Realm")), (9, .if_icmp .ge 16, 3, px_x0), (12, .iload_n 1, 1, px_x0), (13, .bipush 8, 2, px_x0), (15, .if_icmp .ge 10, 3, px_x0), (18, .aload_n 0, 1, px_x0), (19, .getfield 17, 3, (10, 1, [(5, 0)], 0, "AllSworn$Realm")), (22, .iload_n 1, 1, px_x0), (23, .iload_n 2, 1, px_x0), (24, .iastore, 1, px_x0), (25, .return_, 1, px_x0)])
def m_X5_boundOn : px_M := (yX5_boundOn, cX5_boundOn, 2, some .int, 0, [(0, .aload_n 0, 1, px_x0), (1, .iload_n 1, 1, px_x0), (2, .aload_n 0, 1, px_x0), (3, .getfield 27, 3, (10, 4, [(5, 0)], 0, "AllSworn$Realm")), (6, .iconst 0, 1, px_x0), (7, .invokevirtual 82, 3, (33, 3, [(5, 58)], 0, "")), (10, .ireturn, 1, px_x0)])
def m_X5_boundIf : px_M := (yX5_boundIf, cX5_boundIf, 9, some .int, 0, [(0, .iconst 0, 1, px_x0), (1, .istore 4, 2, px_x0), (3, .iconst 0, 1, px_x0), (4, .istore 5, 2, px_x0), (6, .iload 5, 2, px_x0), (8, .aload_n 0, 1, px_x0), (9, .getfield 31, 3, (10, 5, [(5, 0)], 0, "AllSworn$Realm")), (12, .if_icmp .ge 105, 3, px_x0), (15, .iload 5, 2, px_x0), (17, .bipush 8, 2, px_x0), (19, .if_icmp .ge 98, 3, px_x0), (22, .aload_n 0, 1, px_x0), (23, .getfield 11, 3, (10, 0, [(5, 0)], 0, "AllSworn$Realm")), (26, .iload 5, 2, px_x0), (28, .aaload, 1, px_x0), (29, .astore 6, 2, px_x0), (31, .iload_n 3, 1, px_x0), (32, .iload 5, 2, px_x0), (34, .ishr, 1, px_x0), (35, .iconst 1, 1, px_x0), (36, .iand, 1, px_x0), (37, .iconst 1, 1, px_x0), (38, .if_icmp .ne 7, 3, px_x0), (41, .iload_n 1, 1, px_x0), (42, .goto 10, 3, px_x0), (45, .aload_n 0, 1, px_x0), (46, .getfield 17, 3, (10, 1, [(5, 0)], 0, "AllSworn$Realm")), (49, .iload 5, 2, px_x0), (51, .iaload, 1, px_x0), (52, .istore 7, 2, px_x0), (54, .iload 7, 2, px_x0), (56, .ldc 46, 2, (0, 0, [], (-1000000), "")), (58, .if_icmp .eq 21, 3, px_x0), (61, .iload 7, 2, px_x0), (63, .iload_n 1, 1, px_x0), (64, .if_icmp .gt 15, 3, px_x0), (67, .iload_n 1, 1, px_x0), (68, .iload 7, 2, px_x0), (70, .iload_n 2, 1, px_x0), (71, .iadd, 1, px_x0), (72, .if_icmp .ge 7, 3, px_x0), (75, .iconst 1, 1, px_x0), (76, .goto 4, 3, px_x0), (79, .iconst 0, 1, px_x0), (80, .istore 8, 2, px_x0), (82, .iload 8, 2, px_x0), (84, .ifCond .eq 27, 3, px_x0), (87, .aload 6, 2, px_x0), (89, .ifnull 22, 3, px_x0), (92, .aload 6, 2, px_x0), (94, .iload 4, 2, px_x0), (96, .invokevirtual 86, 3, (34, 1, [(0, 80), (1, 9), (3, 80), (8, 90), (9, 80)], 0, "AllSworn$Thing")), (99, .ifCond .eq 12, 3, px_x0), (102, .iload 4, 2, px_x0), (104, .iconst 1, 1, px_x0), (105, .iload 5, 2, px_x0), (107, .ishl, 1, px_x0), (108, .ior, 1, px_x0), (109, .istore 4, 2, px_x0), (111, .iinc 5 1, 3, px_x0), (114, .goto (-108), 3, px_x0), (117, .iload 4, 2, px_x0), (119, .ireturn, 1, px_x0)])
def m_X5_openOn : px_M := (yX5_openOn, cX5_openOn, 2, some .int, 0, [(0, .aload_n 0, 1, px_x0), (1, .aload_n 0, 1, px_x0), (2, .iload_n 1, 1, px_x0), (3, .aload_n 0, 1, px_x0), (4, .getfield 27, 3, (10, 4, [(5, 0)], 0, "AllSworn$Realm")), (7, .iconst 0, 1, px_x0), (8, .invokevirtual 82, 3, (33, 3, [(5, 58)], 0, "")), (11, .invokevirtual 89, 3, (33, 1, [(5, 60)], 0, "")), (14, .ireturn, 1, px_x0)])
def m_X5_openTo : px_M := (yX5_openTo, cX5_openTo, 4, some .int, 0, [(0, .iconst 0, 1, px_x0), (1, .istore_n 2, 1, px_x0), (2, .iconst 0, 1, px_x0), (3, .istore_n 3, 1, px_x0), (4, .iload_n 3, 1, px_x0), (5, .aload_n 0, 1, px_x0), (6, .getfield 34, 3, (10, 6, [(5, 0)], 0, "AllSworn$Realm")), (9, .if_icmp .ge 32, 3, px_x0), (12, .iload_n 3, 1, px_x0), (13, .bipush 8, 2, px_x0), (15, .if_icmp .ge 26, 3, px_x0), (18, .aload_n 0, 1, px_x0), (19, .getfield 21, 3, (10, 2, [(5, 0)], 0, "AllSworn$Realm")), (22, .iload_n 3, 1, px_x0), (23, .iaload, 1, px_x0), (24, .iload_n 1, 1, px_x0), (25, .iand, 1, px_x0), (26, .ifCond .ne 9, 3, px_x0), (29, .iload_n 2, 1, px_x0), (30, .iconst 1, 1, px_x0), (31, .iload_n 3, 1, px_x0), (32, .ishl, 1, px_x0), (33, .ior, 1, px_x0), (34, .istore_n 2, 1, px_x0), (35, .iinc 3 1, 3, px_x0), (38, .goto (-34), 3, px_x0), (41, .iload_n 2, 1, px_x0), (42, .ireturn, 1, px_x0)])
def m_X5_priceOf : px_M := (yX5_priceOf, cX5_priceOf, 4, some .int, 0, [(0, .iconst 0, 1, px_x0), (1, .istore_n 2, 1, px_x0), (2, .iconst 0, 1, px_x0), (3, .istore_n 3, 1, px_x0), (4, .iload_n 3, 1, px_x0), (5, .aload_n 0, 1, px_x0), (6, .getfield 31, 3, (10, 5, [(5, 0)], 0, "AllSworn$Realm")), (9, .if_icmp .ge 45, 3, px_x0), (12, .iload_n 3, 1, px_x0), (13, .bipush 8, 2, px_x0), (15, .if_icmp .ge 39, 3, px_x0), (18, .iload_n 1, 1, px_x0), (19, .iload_n 3, 1, px_x0), (20, .ishr, 1, px_x0), (21, .iconst 1, 1, px_x0), (22, .iand, 1, px_x0), (23, .iconst 1, 1, px_x0), (24, .if_icmp .ne 24, 3, px_x0), (27, .aload_n 0, 1, px_x0), (28, .getfield 11, 3, (10, 0, [(5, 0)], 0, "AllSworn$Realm")), (31, .iload_n 3, 1, px_x0), (32, .aaload, 1, px_x0), (33, .ifnull 15, 3, px_x0), (36, .iload_n 2, 1, px_x0), (37, .aload_n 0, 1, px_x0), (38, .getfield 11, 3, (10, 0, [(5, 0)], 0, "AllSworn$Realm")), (41, .iload_n 3, 1, px_x0), (42, .aaload, 1, px_x0), (43, .getfield 92, 3, (10, 2, [(0, 0), (1, 0), (3, 0), (8, 0), (9, 0)], 0, "AllSworn$Thing")), (46, .iadd, 1, px_x0), (47, .istore_n 2, 1, px_x0), (48, .iinc 3 1, 3, px_x0), (51, .goto (-47), 3, px_x0), (54, .iload_n 2, 1, px_x0), (55, .ireturn, 1, px_x0)])
def m_X5_cheapestOn : px_M := (yX5_cheapestOn, cX5_cheapestOn, 7, some .int, 0, [(0, .aload_n 0, 1, px_x0), (1, .aload_n 0, 1, px_x0), (2, .iload_n 1, 1, px_x0), (3, .aload_n 0, 1, px_x0), (4, .getfield 27, 3, (10, 4, [(5, 0)], 0, "AllSworn$Realm")), (7, .iconst 0, 1, px_x0), (8, .invokevirtual 82, 3, (33, 3, [(5, 58)], 0, "")), (11, .invokevirtual 89, 3, (33, 1, [(5, 60)], 0, "")), (14, .istore_n 2, 1, px_x0), (15, .ldc 46, 2, (0, 0, [], (-1000000), "")), (17, .istore_n 3, 1, px_x0), (18, .iconst 0, 1, px_x0), (19, .istore 4, 2, px_x0), (21, .iconst 0, 1, px_x0), (22, .istore 5, 2, px_x0), (24, .iload 5, 2, px_x0), (26, .aload_n 0, 1, px_x0), (27, .getfield 34, 3, (10, 6, [(5, 0)], 0, "AllSworn$Realm")), (30, .if_icmp .ge 59, 3, px_x0), (33, .iload 5, 2, px_x0), (35, .bipush 8, 2, px_x0), (37, .if_icmp .ge 52, 3, px_x0), (40, .aload_n 0, 1, px_x0), (41, .aload_n 0, 1, px_x0), (42, .getfield 21, 3, (10, 2, [(5, 0)], 0, "AllSworn$Realm")), (45, .iload 5, 2, px_x0), (47, .iaload, 1, px_x0), (48, .invokevirtual 95, 3, (33, 1, [(5, 61)], 0, "")), (51, .istore 6, 2, px_x0), (53, .iload_n 2, 1, px_x0), (54, .iload 5, 2, px_x0), (56, .ishr, 1, px_x0), (57, .iconst 1, 1, px_x0), (58, .iand, 1, px_x0), (59, .iconst 1, 1, px_x0), (60, .if_icmp .ne 23, 3, px_x0), (63, .iload_n 3, 1, px_x0), (64, .ldc 46, 2, (0, 0, [], (-1000000), "")), (66, .if_icmp .eq 10, 3, px_x0), (69, .iload 6, 2, px_x0), (71, .iload 4, 2, px_x0), (73, .if_icmp .ge 10, 3, px_x0), (76, .iload 5, 2, px_x0), (78, .istore_n 3, 1, px_x0), (79, .iload 6, 2, px_x0), (81, .istore 4, 2, px_x0), (83, .iinc 5 1, 3, px_x0), (86, .goto (-62), 3, px_x0), (89, .iload_n 3, 1, px_x0), (90, .ireturn, 1, px_x0)])
def m_X5_cheapestPriceOn : px_M := (yX5_cheapestPriceOn, cX5_cheapestPriceOn, 3, some .int, 0, [(0, .aload_n 0, 1, px_x0), (1, .iload_n 1, 1, px_x0), (2, .invokevirtual 98, 3, (33, 1, [(5, 62)], 0, "")), (5, .istore_n 2, 1, px_x0), (6, .iload_n 2, 1, px_x0), (7, .ldc 46, 2, (0, 0, [], (-1000000), "")), (9, .if_icmp .ne 8, 3, px_x0), (12, .ldc 46, 2, (0, 0, [], (-1000000), "")), (14, .goto 12, 3, px_x0), (17, .aload_n 0, 1, px_x0), (18, .aload_n 0, 1, px_x0), (19, .iload_n 2, 1, px_x0), (20, .invokevirtual 101, 3, (33, 1, [(5, 50)], 0, "")), (23, .invokevirtual 95, 3, (33, 1, [(5, 61)], 0, "")), (26, .ireturn, 1, px_x0)])
def m_X5_toldAs : px_M := (yX5_toldAs, cX5_toldAs, 4, some .int, 0, [(0, .iconst 0, 1, px_x0), (1, .istore_n 2, 1, px_x0), (2, .iconst 0, 1, px_x0), (3, .istore_n 3, 1, px_x0), (4, .iload_n 3, 1, px_x0), (5, .aload_n 0, 1, px_x0), (6, .getfield 31, 3, (10, 5, [(5, 0)], 0, "AllSworn$Realm")), (9, .if_icmp .ge 49, 3, px_x0), (12, .iload_n 3, 1, px_x0), (13, .bipush 8, 2, px_x0), (15, .if_icmp .ge 43, 3, px_x0), (18, .aload_n 0, 1, px_x0), (19, .getfield 11, 3, (10, 0, [(5, 0)], 0, "AllSworn$Realm")), (22, .iload_n 3, 1, px_x0), (23, .aaload, 1, px_x0), (24, .ifnull 28, 3, px_x0), (27, .iload_n 1, 1, px_x0), (28, .aload_n 0, 1, px_x0), (29, .getfield 11, 3, (10, 0, [(5, 0)], 0, "AllSworn$Realm")), (32, .iload_n 3, 1, px_x0), (33, .aaload, 1, px_x0), (34, .invokevirtual 104, 3, (34, 0, [(0, 1), (1, 7), (3, 26), (8, 88), (9, 93)], 0, "AllSworn$Thing")), (37, .iconst 1, 1, px_x0), (38, .isub, 1, px_x0), (39, .ishr, 1, px_x0), (40, .iconst 1, 1, px_x0), (41, .iand, 1, px_x0), (42, .iconst 1, 1, px_x0), (43, .if_icmp .ne 9, 3, px_x0), (46, .iload_n 2, 1, px_x0), (47, .iconst 1, 1, px_x0), (48, .iload_n 3, 1, px_x0), (49, .ishl, 1, px_x0), (50, .ior, 1, px_x0), (51, .istore_n 2, 1, px_x0), (52, .iinc 3 1, 3, px_x0), (55, .goto (-51), 3, px_x0), (58, .iload_n 2, 1, px_x0), (59, .ireturn, 1, px_x0)])
def m_X5_harmsWith : px_M := (yX5_harmsWith, cX5_harmsWith, 4, some .int, 0, [(0, .iconst 0, 1, px_x0), (1, .istore_n 2, 1, px_x0), (2, .iconst 0, 1, px_x0), (3, .istore_n 3, 1, px_x0), (4, .iload_n 3, 1, px_x0), (5, .aload_n 0, 1, px_x0), (6, .getfield 34, 3, (10, 6, [(5, 0)], 0, "AllSworn$Realm")), (9, .if_icmp .ge 28, 3, px_x0), (12, .iload_n 3, 1, px_x0), (13, .bipush 8, 2, px_x0), (15, .if_icmp .ge 22, 3, px_x0), (18, .iload_n 2, 1, px_x0), (19, .aload_n 0, 1, px_x0), (20, .getfield 21, 3, (10, 2, [(5, 0)], 0, "AllSworn$Realm")), (23, .iload_n 3, 1, px_x0), (24, .iaload, 1, px_x0), (25, .iload_n 1, 1, px_x0), (26, .ishr, 1, px_x0), (27, .iconst 1, 1, px_x0), (28, .iand, 1, px_x0), (29, .iadd, 1, px_x0), (30, .istore_n 2, 1, px_x0), (31, .iinc 3 1, 3, px_x0), (34, .goto (-30), 3, px_x0), (37, .iload_n 2, 1, px_x0), (38, .ireturn, 1, px_x0)])
def m_X6_init : px_M := (yX6_init, cX6_init, 1, none, 1, [(0, .aload_n 0, 1, px_x0), (1, .invokespecial 3, 3, (36, 0, [], 0, "")), (4, .aload_n 0, 1, px_x0), (5, .bipush 40, 2, px_x0), (7, .newarray .int, 2, px_x0), (9, .putfield 9, 3, (10, 0, [(6, 0)], 0, "AllSworn$Row")), (12, .aload_n 0, 1, px_x0), (13, .iconst 0, 1, px_x0), (14, .putfield 15, 3, (10, 1, [(6, 0)], 0, "AllSworn$Row")), (17, .aload_n 0, 1, px_x0), (18, .iconst (-1), 1, px_x0), (19, .putfield 19, 3, (10, 2, [(6, 0)], 0, "AllSworn$Row")), (22, .return_, 1, px_x0)])
def m_X6_isMissing : px_M := (yX6_isMissing, cX6_isMissing, 1, some .boolean, 0, [(0, .aload_n 0, 1, px_x0), (1, .getfield 19, 3, (10, 2, [(6, 0)], 0, "AllSworn$Row")), (4, .iconst (-1), 1, px_x0), (5, .if_icmp .ne 7, 3, px_x0), (8, .iconst 1, 1, px_x0), (9, .goto 4, 3, px_x0), (12, .iconst 0, 1, px_x0), (13, .ireturn, 1, px_x0)])
def m_X6_vanish : px_M := (yX6_vanish, cX6_vanish, 1, none, 0, [(0, .aload_n 0, 1, px_x0), (1, .iconst (-1), 1, px_x0), (2, .putfield 19, 3, (10, 2, [(6, 0)], 0, "AllSworn$Row")), (5, .return_, 1, px_x0)])
def m_X6_lay : px_M := (yX6_lay, cX6_lay, 3, none, 0, [(0, .aload_n 0, 1, px_x0), (1, .iload_n 1, 1, px_x0), (2, .putfield 15, 3, (10, 1, [(6, 0)], 0, "AllSworn$Row")), (5, .aload_n 0, 1, px_x0), (6, .iload_n 2, 1, px_x0), (7, .putfield 19, 3, (10, 2, [(6, 0)], 0, "AllSworn$Row")), (10, .aload_n 0, 1, px_x0), (11, .getfield 9, 3, (10, 0, [(6, 0)], 0, "AllSworn$Row")), (14, .iconst 0, 1, px_x0), (15, .invokestatic 22, 3, (30, 2, [(0, 223)], 0, "")), (18, .return_, 1, px_x0)])
def m_X6_spans : px_M := (yX6_spans, cX6_spans, 3, some .boolean, 0, [(0, .iload_n 1, 1, px_x0), (1, .ifCond .lt 21, 3, px_x0), (4, .iload_n 2, 1, px_x0), (5, .ifCond .lt 17, 3, px_x0), (8, .iload_n 1, 1, px_x0), (9, .aload_n 0, 1, px_x0), (10, .getfield 19, 3, (10, 2, [(6, 0)], 0, "AllSworn$Row")), (13, .iload_n 2, 1, px_x0), (14, .isub, 1, px_x0), (15, .if_icmp .gt 7, 3, px_x0), (18, .iconst 1, 1, px_x0), (19, .goto 4, 3, px_x0), (22, .iconst 0, 1, px_x0), (23, .ireturn, 1, px_x0)])
def m_X6_put : px_M := (yX6_put, cX6_put, 3, some .int, 0, [(0, .aload_n 0, 1, px_x0), (1, .iload_n 1, 1, px_x0), (2, .iconst 1, 1, px_x0), (3, .invokevirtual 28, 3, (33, 2, [(6, 70)], 0, "")), (6, .ifCond .ne 5, 3, px_x0), (9, .iconst 0, 1, px_x0), (10, .ireturn, 1, px_x0), (11, .aload_n 0, 1, px_x0), (12, .getfield 9, 3, (10, 0, [(6, 0)], 0, "AllSworn$Row")), (15, .iload_n 1, 1, px_x0), (16, .aload_n 0, 1, px_x0), (17, .iload_n 2, 1, px_x0), (18, .invokevirtual 32, 3, (33, 1, [(6, 75)], 0, "")), (21, .iastore, 1, px_x0), (22, .aload_n 0, 1, px_x0), (23, .getfield 9, 3, (10, 0, [(6, 0)], 0, "AllSworn$Row")), (26, .iload_n 1, 1, px_x0), (27, .iaload, 1, px_x0), (28, .ireturn, 1, px_x0)])
def m_X6_takeFrom : px_M := (yX6_takeFrom, cX6_takeFrom, 5, none, 0, [(0, .aload_n 1, 1, px_x0), (1, .iload_n 2, 1, px_x0), (2, .iload 4, 2, px_x0), (4, .invokevirtual 28, 3, (33, 2, [(6, 70)], 0, "")), (7, .ifCond .eq 28, 3, px_x0), (10, .aload_n 0, 1, px_x0), (11, .iload_n 3, 1, px_x0), (12, .iload 4, 2, px_x0), (14, .invokevirtual 28, 3, (33, 2, [(6, 70)], 0, "")), (17, .ifCond .eq 18, 3, px_x0), (20, .aload_n 1, 1, px_x0), (21, .getfield 9, 3, (10, 0, [(6, 0)], 0, "AllSworn$Row")), (24, .iload_n 2, 1, px_x0), (25, .aload_n 0, 1, px_x0), (26, .getfield 9, 3, (10, 0, [(6, 0)], 0, "AllSworn$Row")), (29, .iload_n 3, 1, px_x0), (30, .iload 4, 2, px_x0), (32, .invokestatic 36, 3, (37, 0, [], 0, "")), (35, .return_, 1, px_x0)])
def m_X6_tellsYesOrNo : px_M := (yX6_tellsYesOrNo, cX6_tellsYesOrNo, 4, some .boolean, 0, [(0, .aload_n 0, 1, px_x0), (1, .iload_n 1, 1, px_x0), (2, .iload_n 2, 1, px_x0), (3, .invokevirtual 28, 3, (33, 2, [(6, 70)], 0, "")), (6, .ifCond .ne 5, 3, px_x0), (9, .iconst 0, 1, px_x0), (10, .ireturn, 1, px_x0), (11, .iconst 0, 1, px_x0), (12, .istore_n 3, 1, px_x0), (13, .iload_n 3, 1, px_x0), (14, .iload_n 2, 1, px_x0), (15, .if_icmp .ge 34, 3, px_x0), (18, .aload_n 0, 1, px_x0), (19, .getfield 9, 3, (10, 0, [(6, 0)], 0, "AllSworn$Row")), (22, .iload_n 1, 1, px_x0), (23, .iload_n 3, 1, px_x0), (24, .iadd, 1, px_x0), (25, .iaload, 1, px_x0), (26, .ifCond .eq 17, 3, px_x0), (29, .aload_n 0, 1, px_x0), (30, .getfield 9, 3, (10, 0, [(6, 0)], 0, "AllSworn$Row")), (33, .iload_n 1, 1, px_x0), (34, .iload_n 3, 1, px_x0), (35, .iadd, 1, px_x0), (36, .iaload, 1, px_x0), (37, .iconst 1, 1, px_x0), (38, .if_icmp .eq 5, 3, px_x0), (41, .iconst 0, 1, px_x0), (42, .ireturn, 1, px_x0), (43, .iinc 3 1, 3, px_x0), (46, .goto (-33), 3, px_x0), (49, .iconst 1, 1, px_x0), (50, .ireturn, 1, px_x0)])
def m_X6_tellsHit : px_M := (yX6_tellsHit, cX6_tellsHit, 2, some .boolean, 0, [(0, .aload_n 0, 1, px_x0), (1, .iload_n 1, 1, px_x0), (2, .iconst 1, 1, px_x0), (3, .invokevirtual 28, 3, (33, 2, [(6, 70)], 0, "")), (6, .ifCond .eq 17, 3, px_x0), (9, .aload_n 0, 1, px_x0), (10, .getfield 9, 3, (10, 0, [(6, 0)], 0, "AllSworn$Row")), (13, .iload_n 1, 1, px_x0), (14, .iaload, 1, px_x0), (15, .iconst 1, 1, px_x0), (16, .if_icmp .ne 7, 3, px_x0), (19, .iconst 1, 1, px_x0), (20, .goto 4, 3, px_x0), (23, .iconst 0, 1, px_x0), (24, .ireturn, 1, px_x0)])
def m_X6_narrowed : px_M := (yX6_narrowed, cX6_narrowed, 2, some .int, 0, [(0, .aload_n 0, 1, px_x0), (1, .getfield 15, 3, (10, 1, [(6, 0)], 0, "AllSworn$Row")), (4, .lookupswitch 34 #[(0, 28), (1, 31)], 28, px_x0), (32, .iload_n 1, 1, px_x0), (33, .i2b, 1, px_x0), (34, .ireturn, 1, px_x0), (35, .iload_n 1, 1, px_x0), (36, .i2s, 1, px_x0), (37, .ireturn, 1, px_x0), (38, .iload_n 1, 1, px_x0), (39, .ireturn, 1, px_x0)])
def m_X7_init : px_M := (yX7_init, cX7_init, 4, none, 0, [(0, .aload_n 0, 1, px_x0), (1, .invokespecial 3, 3, (36, 0, [], 0, "")), (4, .aload_n 0, 1, px_x0), (5, .iload_n 1, 1, px_x0), (6, .putfield 9, 3, (10, 0, [(0, 0), (1, 0), (3, 0), (8, 0), (9, 0)], 0, "AllSworn$Thing")), (9, .aload_n 0, 1, px_x0), (10, .iload_n 2, 1, px_x0), (11, .putfield 15, 3, (10, 1, [(0, 0), (1, 0), (3, 0), (8, 0), (9, 0)], 0, "AllSworn$Thing")), (14, .aload_n 0, 1, px_x0), (15, .iload_n 3, 1, px_x0), (16, .putfield 18, 3, (10, 2, [(0, 0), (1, 0), (3, 0), (8, 0), (9, 0)], 0, "AllSworn$Thing")), (19, .return_, 1, px_x0)])
def m_X7_isOf : px_M := (yX7_isOf, cX7_isOf, 2, some .boolean, 0, [(0, .iload_n 1, 1, px_x0), (1, .ifCond .ne 7, 3, px_x0), (4, .iconst 1, 1, px_x0), (5, .goto 4, 3, px_x0), (8, .iconst 0, 1, px_x0), (9, .ireturn, 1, px_x0)])
def m_X7_daysToAsk : px_M := (yX7_daysToAsk, cX7_daysToAsk, 1, some .int, 0, [(0, .iconst 1, 1, px_x0), (1, .iconst 2, 1, px_x0), (2, .aload_n 0, 1, px_x0), (3, .getfield 15, 3, (10, 1, [(0, 0), (1, 0), (3, 0), (8, 0), (9, 0)], 0, "AllSworn$Thing")), (6, .imul, 1, px_x0), (7, .invokestatic 21, 3, (38, 0, [], 0, "")), (10, .ireturn, 1, px_x0)])
def m_X7_swearsOn : px_M := (yX7_swearsOn, cX7_swearsOn, 2, some .boolean, 0, [(0, .iconst 1, 1, px_x0), (1, .ireturn, 1, px_x0)])
def m_X7_isHeldBy : px_M := (yX7_isHeldBy, cX7_isHeldBy, 2, some .boolean, 0, [(0, .iconst 1, 1, px_x0), (1, .ireturn, 1, px_x0)])
def m_X7_size : px_M := (yX7_size, cX7_size, 3, some .int, 0, [(0, .aload_n 1, 1, px_x0), (1, .bipush 10, 2, px_x0), (3, .invokevirtual 27, 3, (33, 1, [(7, 85)], 0, "")), (6, .aload_n 0, 1, px_x0), (7, .getfield 18, 3, (10, 2, [(0, 0), (1, 0), (3, 0), (8, 0), (9, 0)], 0, "AllSworn$Thing")), (10, .ireturn, 1, px_x0)])
def m_X7_mark : px_M := (yX7_mark, cX7_mark, 3, some .int, 0, [(0, .aload_n 1, 1, px_x0), (1, .bipush 20, 2, px_x0), (3, .invokevirtual 27, 3, (33, 1, [(7, 85)], 0, "")), (6, .aload_n 0, 1, px_x0), (7, .getfield 9, 3, (10, 0, [(0, 0), (1, 0), (3, 0), (8, 0), (9, 0)], 0, "AllSworn$Thing")), (10, .ireturn, 1, px_x0)])
def m_X8_init : px_M := (yX8_init, cX8_init, 1, none, 1, [(0, .aload_n 0, 1, px_x0), (1, .invokespecial 3, 3, (36, 0, [], 0, "")), (4, .aload_n 0, 1, px_x0), (5, .bipush 16, 2, px_x0), (7, .newarray .int, 2, px_x0), (9, .putfield 11, 3, (10, 0, [(7, 0)], 0, "AllSworn$Trace")), (12, .aload_n 0, 1, px_x0), (13, .iconst 0, 1, px_x0), (14, .putfield 15, 3, (10, 1, [(7, 0)], 0, "AllSworn$Trace")), (17, .return_, 1, px_x0)])
def m_X8_clear : px_M := (yX8_clear, cX8_clear, 1, none, 0, [(0, .aload_n 0, 1, px_x0), (1, .iconst 0, 1, px_x0), (2, .putfield 15, 3, (10, 1, [(7, 0)], 0, "AllSworn$Trace")), (5, .return_, 1, px_x0)])
def m_X8_leave : px_M := (yX8_leave, cX8_leave, 2, none, 0, [(0, .aload_n 0, 1, px_x0), (1, .getfield 15, 3, (10, 1, [(7, 0)], 0, "AllSworn$Trace")), (4, .bipush 16, 2, px_x0), (6, .if_icmp .ge 23, 3, px_x0), (9, .aload_n 0, 1, px_x0), (10, .getfield 11, 3, (10, 0, [(7, 0)], 0, "AllSworn$Trace")), (13, .aload_n 0, 1, px_x0), (14, .getfield 15, 3, (10, 1, [(7, 0)], 0, "AllSworn$Trace")), (17, .iload_n 1, 1, px_x0), (18, .iastore, 1, px_x0), (19, .aload_n 0, 1, px_x0), (20, .dup, 1, px_x0), (21, .getfield 15, 3, (10, 1, [(7, 0)], 0, "AllSworn$Trace")), (24, .iconst 1, 1, px_x0), (25, .iadd, 1, px_x0), (26, .putfield 15, 3, (10, 1, [(7, 0)], 0, "AllSworn$Trace")), (29, .return_, 1, px_x0)])
def m_X8_numberAt : px_M := (yX8_numberAt, cX8_numberAt, 2, some .int, 0, [(0, .iload_n 1, 1, px_x0), (1, .ifCond .lt 26, 3, px_x0), (4, .iload_n 1, 1, px_x0), (5, .aload_n 0, 1, px_x0), (6, .getfield 15, 3, (10, 1, [(7, 0)], 0, "AllSworn$Trace")), (9, .if_icmp .ge 18, 3, px_x0), (12, .iload_n 1, 1, px_x0), (13, .bipush 16, 2, px_x0), (15, .if_icmp .ge 12, 3, px_x0), (18, .aload_n 0, 1, px_x0), (19, .getfield 11, 3, (10, 0, [(7, 0)], 0, "AllSworn$Trace")), (22, .iload_n 1, 1, px_x0), (23, .iaload, 1, px_x0), (24, .goto 5, 3, px_x0), (27, .ldc 19, 2, (0, 0, [], (-1000000), "")), (29, .ireturn, 1, px_x0)])
def m_X9_init : px_M := (yX9_init, cX9_init, 4, none, 0, [(0, .aload_n 0, 1, px_x0), (1, .iload_n 1, 1, px_x0), (2, .iload_n 2, 1, px_x0), (3, .iload_n 3, 1, px_x0), (4, .invokespecial 3, 3, (31, 3, [(0, 0)], 0, "")), (7, .return_, 1, px_x0)])
def m_X9_toldKind : px_M := (yX9_toldKind, cX9_toldKind, 1, some .int, 0, [(0, .iconst 5, 1, px_x0), (1, .ireturn, 1, px_x0)])
def m_X9_isOf : px_M := (yX9_isOf, cX9_isOf, 2, some .boolean, 0, [(0, .iload_n 1, 1, px_x0), (1, .iconst 5, 1, px_x0), (2, .if_icmp .eq 11, 3, px_x0), (5, .aload_n 0, 1, px_x0), (6, .iload_n 1, 1, px_x0), (7, .invokespecial 9, 3, (35, 1, [(0, 2)], 0, "")), (10, .ifCond .eq 7, 3, px_x0), (13, .iconst 1, 1, px_x0), (14, .goto 4, 3, px_x0), (17, .iconst 0, 1, px_x0), (18, .ireturn, 1, px_x0)])
def m_X9_isHeldBy : px_M := (yX9_isHeldBy, cX9_isHeldBy, 2, some .boolean, 0, [(0, .iconst 0, 1, px_x0), (1, .ireturn, 1, px_x0)])
def m_X9_size : px_M := (yX9_size, cX9_size, 3, some .int, 0, [(0, .aload_n 1, 1, px_x0), (1, .bipush 14, 2, px_x0), (3, .invokevirtual 13, 3, (33, 1, [(7, 85)], 0, "")), (6, .iconst 2, 1, px_x0), (7, .aload_n 0, 1, px_x0), (8, .aload_n 1, 1, px_x0), (9, .aload_n 2, 1, px_x0), (10, .invokespecial 19, 3, (35, 2, [(0, 4)], 0, "")), (13, .imul, 1, px_x0), (14, .ireturn, 1, px_x0)])
def m_X10_init : px_M := (yX10_init, cX10_init, 4, none, 0, [(0, .aload_n 0, 1, px_x0), (1, .iload_n 1, 1, px_x0), (2, .iload_n 2, 1, px_x0), (3, .iload_n 3, 1, px_x0), (4, .invokespecial 3, 3, (31, 3, [(0, 25)], 0, "")), (7, .return_, 1, px_x0)])
def m_X10_toldKind : px_M := (yX10_toldKind, cX10_toldKind, 1, some .int, 0, [(0, .iconst 3, 1, px_x0), (1, .ireturn, 1, px_x0)])
def m_X10_isOf : px_M := (yX10_isOf, cX10_isOf, 2, some .boolean, 0, [(0, .iload_n 1, 1, px_x0), (1, .iconst 3, 1, px_x0), (2, .if_icmp .eq 11, 3, px_x0), (5, .aload_n 0, 1, px_x0), (6, .iload_n 1, 1, px_x0), (7, .invokespecial 9, 3, (35, 1, [(0, 27)], 0, "")), (10, .ifCond .eq 7, 3, px_x0), (13, .iconst 1, 1, px_x0), (14, .goto 4, 3, px_x0), (17, .iconst 0, 1, px_x0), (18, .ireturn, 1, px_x0)])
def m_X10_swearsOn : px_M := (yX10_swearsOn, cX10_swearsOn, 2, some .boolean, 0, [(0, .iload_n 1, 1, px_x0), (1, .bipush 10, 2, px_x0), (3, .if_icmp .lt 7, 3, px_x0), (6, .iconst 1, 1, px_x0), (7, .goto 4, 3, px_x0), (10, .iconst 0, 1, px_x0), (11, .ireturn, 1, px_x0)])
def m_X10_mark : px_M := (yX10_mark, cX10_mark, 3, some .int, 0, [(0, .aload_n 1, 1, px_x0), (1, .bipush 22, 2, px_x0), (3, .invokevirtual 13, 3, (33, 1, [(7, 85)], 0, "")), (6, .aload_n 0, 1, px_x0), (7, .aload_n 1, 1, px_x0), (8, .aload_n 2, 1, px_x0), (9, .invokespecial 19, 3, (35, 2, [(0, 29)], 0, "")), (12, .sipush 1000, 3, px_x0), (15, .isub, 1, px_x0), (16, .ireturn, 1, px_x0)])
def m_X11_init : px_M := (yX11_init, cX11_init, 2, none, 50, [(0, .aload_n 0, 1, px_x0), (1, .invokespecial 1, 3, (36, 0, [], 0, "")), (4, .aload_n 0, 1, px_x0), (5, .bipush 8, 2, px_x0), (7, .anewarray 9, 3, (21, 0, [], 0, "AllSworn$Row")), (10, .putfield 11, 3, (10, 0, [(10, 0)], 0, "AllSworn")), (13, .aload_n 0, 1, px_x0), (14, .new 15, 3, (20, 4, [], 0, "")), (17, .dup, 1, px_x0), (18, .invokespecial 17, 3, (31, 0, [(0, 30)], 0, "")), (21, .putfield 18, 3, (10, 1, [(10, 0)], 0, "AllSworn")), (24, .aload_n 0, 1, px_x0), (25, .new 22, 3, (20, 5, [], 0, "")), (28, .dup, 1, px_x0), (29, .invokespecial 24, 3, (31, 0, [(0, 41)], 0, "")), (32, .putfield 25, 3, (10, 2, [(10, 0)], 0, "AllSworn")), (35, .aload_n 0, 1, px_x0), (36, .new 22, 3, (20, 5, [], 0, "")), (39, .dup, 1, px_x0), (40, .invokespecial 24, 3, (31, 0, [(0, 41)], 0, "")), (43, .putfield 29, 3, (10, 3, [(10, 0)], 0, "AllSworn")), (46, .aload_n 0, 1, px_x0), (47, .iconst 2, 1, px_x0), (48, .anewarray 22, 3, (21, 0, [], 0, "AllSworn$Realm")), (51, .putfield 32, 3, (10, 4, [(10, 0)], 0, "AllSworn")), (54, .aload_n 0, 1, px_x0), (55, .new 36, 3, (20, 2, [], 0, "")), (58, .dup, 1, px_x0), (59, .invokespecial 38, 3, (31, 0, [(0, 12)], 0, "")), (62, .putfield 39, 3, (10, 5, [(10, 0)], 0, "AllSworn")), (65, .aload_n 0, 1, px_x0), (66, .new 43, 3, (20, 7, [], 0, "")), (69, .dup, 1, px_x0), (70, .invokespecial 45, 3, (31, 0, [(0, 83)], 0, "")), (73, .putfield 46, 3, (10, 6, [(10, 0)], 0, "AllSworn")), (76, .aload_n 0, 1, px_x0), (77, .iconst 0, 1, px_x0), (78, .putfield 50, 3, (10, 7, [(10, 0)], 0, "AllSworn")), (81, .aload_n 0, 1, px_x0), (82, .iconst 0, 1, px_x0), (83, .putfield 54, 3, (10, 8, [(10, 0)], 0, "AllSworn")), (86, .iconst 0, 1, px_x0), (87, .istore_n 1, 1, px_x0), (88, .iload_n 1, 1, px_x0), (89, .bipush 8, 2, px_x0), (91, .if_icmp .ge 22, 3, px_x0), (94, .aload_n 0, 1, px_x0), (95, .getfield 11, 3, (10, 0, [(10, 0)], 0, "AllSworn")), (98, .iload_n 1, 1, px_x0), (99, .new 9, 3, (20, 6, [], 0, "")), (102, .dup, 1, px_x0), (103, .invokespecial 57, 3, (31, 0, [(0, 66)], 0, "")), (106, .aastore, 1, px_x0), (107, .iinc 1 1, 3, px_x0), (110, .goto (-22), 3, px_x0), (113, .iconst 0, 1, px_x0), (114, .istore_n 1, 1, px_x0), (115, .iload_n 1, 1, px_x0), (116, .iconst 2, 1, px_x0), (117, .if_icmp .ge 22, 3, px_x0), (120, .aload_n 0, 1, px_x0), (121, .getfield 32, 3, (10, 4, [(10, 0)], 0, "AllSworn")), (124, .iload_n 1, 1, px_x0), (125, .new 22, 3, (20, 5, [], 0, "")), (128, .dup, 1, px_x0), (129, .invokespecial 24, 3, (31, 0, [(0, 41)], 0, "")), (132, .aastore, 1, px_x0), (133, .iinc 1 1, 3, px_x0), (136, .goto (-21), 3, px_x0), (139, .return_, 1, px_x0)])
def m_X11_row : px_M := (yX11_row, cX11_row, 5, some .int, 0, [(0, .aload_n 0, 1, px_x0), (1, .iload_n 1, 1, px_x0), (2, .invokevirtual 58, 3, (33, 1, [(10, 131)], 0, "")), (5, .astore 4, 2, px_x0), (7, .aload 4, 2, px_x0), (9, .ifnull 18, 3, px_x0), (12, .iload_n 2, 1, px_x0), (13, .ifCond .lt 14, 3, px_x0), (16, .iload_n 2, 1, px_x0), (17, .iconst 2, 1, px_x0), (18, .if_icmp .gt 9, 3, px_x0), (21, .iload_n 3, 1, px_x0), (22, .bipush 40, 2, px_x0), (24, .if_icmp .le 6, 3, px_x0), (27, .ldc 62, 2, (0, 0, [], (-1000001), "")), (29, .ireturn, 1, px_x0), (30, .iload_n 3, 1, px_x0), (31, .ifCond .ge 9, 3, px_x0), (34, .aload_n 0, 1, px_x0), (35, .iconst 4, 1, px_x0), (36, .invokevirtual 63, 3, (33, 1, [(10, 129)], 0, "")), (39, .ireturn, 1, px_x0), (40, .aload 4, 2, px_x0), (42, .iload_n 2, 1, px_x0), (43, .iload_n 3, 1, px_x0), (44, .invokevirtual 67, 3, (33, 2, [(6, 69)], 0, "")), (47, .aload_n 0, 1, px_x0), (48, .iload_n 3, 1, px_x0), (49, .invokevirtual 71, 3, (33, 1, [(10, 130)], 0, "")), (52, .ireturn, 1, px_x0)])
def m_X11_set : px_M := (yX11_set, cX11_set, 5, some .int, 0, [(0, .aload_n 0, 1, px_x0), (1, .iload_n 1, 1, px_x0), (2, .invokevirtual 58, 3, (33, 1, [(10, 131)], 0, "")), (5, .astore 4, 2, px_x0), (7, .aload 4, 2, px_x0), (9, .ifnonnull 6, 3, px_x0), (12, .ldc 62, 2, (0, 0, [], (-1000001), "")), (14, .ireturn, 1, px_x0), (15, .aload 4, 2, px_x0), (17, .invokevirtual 74, 3, (33, 0, [(6, 67)], 0, "")), (20, .ifCond .eq 9, 3, px_x0), (23, .aload_n 0, 1, px_x0), (24, .iconst 1, 1, px_x0), (25, .invokevirtual 63, 3, (33, 1, [(10, 129)], 0, "")), (28, .ireturn, 1, px_x0), (29, .aload 4, 2, px_x0), (31, .iload_n 2, 1, px_x0), (32, .iconst 1, 1, px_x0), (33, .invokevirtual 78, 3, (33, 2, [(6, 70)], 0, "")), (36, .ifCond .ne 9, 3, px_x0), (39, .aload_n 0, 1, px_x0), (40, .iconst 2, 1, px_x0), (41, .invokevirtual 63, 3, (33, 1, [(10, 129)], 0, "")), (44, .ireturn, 1, px_x0), (45, .aload_n 0, 1, px_x0), (46, .aload 4, 2, px_x0), (48, .iload_n 2, 1, px_x0), (49, .iload_n 3, 1, px_x0), (50, .invokevirtual 82, 3, (33, 2, [(6, 71)], 0, "")), (53, .invokevirtual 71, 3, (33, 1, [(10, 130)], 0, "")), (56, .ireturn, 1, px_x0)])
def m_X11_copy : px_M := (yX11_copy, cX11_copy, 8, some .int, 0, [(0, .aload_n 0, 1, px_x0), (1, .iload_n 1, 1, px_x0), (2, .invokevirtual 58, 3, (33, 1, [(10, 131)], 0, "")), (5, .astore 6, 2, px_x0), (7, .aload_n 0, 1, px_x0), (8, .iload_n 3, 1, px_x0), (9, .invokevirtual 58, 3, (33, 1, [(10, 131)], 0, "")), (12, .astore 7, 2, px_x0), (14, .aload 6, 2, px_x0), (16, .ifnull 8, 3, px_x0), (19, .aload 7, 2, px_x0), (21, .ifnonnull 6, 3, px_x0), (24, .ldc 62, 2, (0, 0, [], (-1000001), "")), (26, .ireturn, 1, px_x0), (27, .aload 6, 2, px_x0), (29, .invokevirtual 74, 3, (33, 0, [(6, 67)], 0, "")), (32, .ifCond .ne 11, 3, px_x0), (35, .aload 7, 2, px_x0), (37, .invokevirtual 74, 3, (33, 0, [(6, 67)], 0, "")), (40, .ifCond .eq 9, 3, px_x0), (43, .aload_n 0, 1, px_x0), (44, .iconst 1, 1, px_x0), (45, .invokevirtual 63, 3, (33, 1, [(10, 129)], 0, "")), (48, .ireturn, 1, px_x0), (49, .aload 6, 2, px_x0), (51, .getfield 86, 3, (11, 1, [(6, 0)], 0, "AllSworn$Row")), (54, .aload 7, 2, px_x0), (56, .getfield 86, 3, (11, 1, [(6, 0)], 0, "AllSworn$Row")), (59, .if_icmp .eq 9, 3, px_x0), (62, .aload_n 0, 1, px_x0), (63, .iconst 5, 1, px_x0), (64, .invokevirtual 63, 3, (33, 1, [(10, 129)], 0, "")), (67, .ireturn, 1, px_x0), (68, .aload 6, 2, px_x0), (70, .iload_n 2, 1, px_x0), (71, .iload 5, 2, px_x0), (73, .invokevirtual 78, 3, (33, 2, [(6, 70)], 0, "")), (76, .ifCond .eq 15, 3, px_x0), (79, .aload 7, 2, px_x0), (81, .iload 4, 2, px_x0), (83, .iload 5, 2, px_x0), (85, .invokevirtual 78, 3, (33, 2, [(6, 70)], 0, "")), (88, .ifCond .ne 9, 3, px_x0), (91, .aload_n 0, 1, px_x0), (92, .iconst 2, 1, px_x0), (93, .invokevirtual 63, 3, (33, 1, [(10, 129)], 0, "")), (96, .ireturn, 1, px_x0), (97, .aload 7, 2, px_x0), (99, .aload 6, 2, px_x0), (101, .iload_n 2, 1, px_x0), (102, .iload 4, 2, px_x0), (104, .iload 5, 2, px_x0), (106, .invokevirtual 89, 3, (33, 4, [(6, 72)], 0, "")), (109, .aload_n 0, 1, px_x0), (110, .iload 5, 2, px_x0), (112, .invokevirtual 71, 3, (33, 1, [(10, 130)], 0, "")), (115, .ireturn, 1, px_x0)])
def m_X11_drop : px_M := (yX11_drop, cX11_drop, 4, some .int, 0, [(0, .aload_n 0, 1, px_x0), (1, .iload_n 1, 1, px_x0), (2, .invokevirtual 58, 3, (33, 1, [(10, 131)], 0, "")), (5, .astore_n 2, 1, px_x0), (6, .aload_n 2, 1, px_x0), (7, .ifnonnull 6, 3, px_x0), (10, .ldc 62, 2, (0, 0, [], (-1000001), "")), (12, .ireturn, 1, px_x0), (13, .aload_n 2, 1, px_x0), (14, .invokevirtual 74, 3, (33, 0, [(6, 67)], 0, "")), (17, .ifCond .eq 9, 3, px_x0), (20, .aload_n 0, 1, px_x0), (21, .iconst 1, 1, px_x0), (22, .invokevirtual 63, 3, (33, 1, [(10, 129)], 0, "")), (25, .ireturn, 1, px_x0), (26, .aload_n 2, 1, px_x0), (27, .getfield 93, 3, (11, 2, [(6, 0)], 0, "AllSworn$Row")), (30, .istore_n 3, 1, px_x0), (31, .aload_n 2, 1, px_x0), (32, .invokevirtual 96, 3, (33, 0, [(6, 68)], 0, "")), (35, .aload_n 0, 1, px_x0), (36, .iload_n 3, 1, px_x0), (37, .invokevirtual 71, 3, (33, 1, [(10, 130)], 0, "")), (40, .ireturn, 1, px_x0)])
def m_X11_feed : px_M := (yX11_feed, cX11_feed, 2, some .int, 0, [(0, .iload_n 1, 1, px_x0), (1, .ifCond .lt 10, 3, px_x0), (4, .iload_n 1, 1, px_x0), (5, .sipush 255, 3, px_x0), (8, .if_icmp .le 6, 3, px_x0), (11, .ldc 62, 2, (0, 0, [], (-1000001), "")), (13, .ireturn, 1, px_x0), (14, .aload_n 0, 1, px_x0), (15, .getfield 18, 3, (10, 1, [(10, 0)], 0, "AllSworn")), (18, .iload_n 1, 1, px_x0), (19, .invokevirtual 99, 3, (33, 1, [(4, 31)], 0, "")), (22, .ifCond .eq 13, 3, px_x0), (25, .aload_n 0, 1, px_x0), (26, .getfield 18, 3, (10, 1, [(10, 0)], 0, "AllSworn")), (29, .getfield 103, 3, (11, 1, [(4, 0)], 0, "AllSworn$Reader")), (32, .goto 5, 3, px_x0), (35, .ldc 106, 2, (0, 0, [], (-1000003), "")), (37, .ireturn, 1, px_x0)])
def m_X11_realm : px_M := (yX11_realm, cX11_realm, 1, some .int, 120, [(0, .aload_n 0, 1, px_x0), (1, .getfield 18, 3, (10, 1, [(10, 0)], 0, "AllSworn")), (4, .aload_n 0, 1, px_x0), (5, .getfield 25, 3, (10, 2, [(10, 0)], 0, "AllSworn")), (8, .invokevirtual 107, 3, (33, 1, [(4, 32)], 0, "")), (11, .ifCond .ne 25, 3, px_x0), (14, .aload_n 0, 1, px_x0), (15, .aload_n 0, 1, px_x0), (16, .getfield 18, 3, (10, 1, [(10, 0)], 0, "AllSworn")), (19, .getfield 111, 3, (11, 3, [(4, 0)], 0, "AllSworn$Reader")), (22, .putfield 50, 3, (10, 7, [(10, 0)], 0, "AllSworn")), (25, .ldc 114, 2, (0, 0, [], (-1000100), "")), (27, .aload_n 0, 1, px_x0), (28, .getfield 18, 3, (10, 1, [(10, 0)], 0, "AllSworn")), (31, .getfield 115, 3, (11, 4, [(4, 0)], 0, "AllSworn$Reader")), (34, .isub, 1, px_x0), (35, .ireturn, 1, px_x0), (36, .aload_n 0, 1, px_x0), (37, .getfield 29, 3, (10, 3, [(10, 0)], 0, "AllSworn")), (40, .aload_n 0, 1, px_x0), (41, .getfield 25, 3, (10, 2, [(10, 0)], 0, "AllSworn")), (44, .invokevirtual 118, 3, (33, 1, [(5, 46)], 0, "")), (47, .aload_n 0, 1, px_x0), (48, .getfield 29, 3, (10, 3, [(10, 0)], 0, "AllSworn")), (51, .getfield 122, 3, (11, 5, [(5, 0)], 0, "AllSworn$Realm")), (54, .ireturn, 1, px_x0)])
def m_X11_fault : px_M := (yX11_fault, cX11_fault, 1, some .int, 0, [(0, .aload_n 0, 1, px_x0), (1, .getfield 50, 3, (10, 7, [(10, 0)], 0, "AllSworn")), (4, .ireturn, 1, px_x0)])
def m_X11_askFor : px_M := (yX11_askFor, cX11_askFor, 3, some .int, 0, [(0, .aload_n 0, 1, px_x0), (1, .getfield 29, 3, (10, 3, [(10, 0)], 0, "AllSworn")), (4, .iload_n 1, 1, px_x0), (5, .invokevirtual 125, 3, (33, 1, [(5, 47)], 0, "")), (8, .astore_n 2, 1, px_x0), (9, .aload_n 2, 1, px_x0), (10, .ifnonnull 6, 3, px_x0), (13, .ldc 62, 2, (0, 0, [], (-1000001), "")), (15, .ireturn, 1, px_x0), (16, .aload_n 0, 1, px_x0), (17, .getfield 29, 3, (10, 3, [(10, 0)], 0, "AllSworn")), (20, .getfield 129, 3, (11, 8, [(5, 0)], 0, "AllSworn$Realm")), (23, .aload_n 2, 1, px_x0), (24, .invokevirtual 132, 3, (34, 0, [(0, 3), (1, 78), (3, 78), (8, 3), (9, 78)], 0, "AllSworn$Thing")), (27, .iadd, 1, px_x0), (28, .sipush 999, 3, px_x0), (31, .if_icmp .le 6, 3, px_x0), (34, .ldc 106, 2, (0, 0, [], (-1000003), "")), (36, .ireturn, 1, px_x0), (37, .aload_n 0, 1, px_x0), (38, .getfield 29, 3, (10, 3, [(10, 0)], 0, "AllSworn")), (41, .aload_n 2, 1, px_x0), (42, .invokevirtual 138, 3, (33, 1, [(5, 51)], 0, "")), (45, .aload_n 0, 1, px_x0), (46, .getfield 29, 3, (10, 3, [(10, 0)], 0, "AllSworn")), (49, .getfield 129, 3, (11, 8, [(5, 0)], 0, "AllSworn$Realm")), (52, .ireturn, 1, px_x0)])
def m_X11_tries : px_M := (yX11_tries, cX11_tries, 2, some .int, 0, [(0, .aload_n 0, 1, px_x0), (1, .getfield 29, 3, (10, 3, [(10, 0)], 0, "AllSworn")), (4, .iload_n 1, 1, px_x0), (5, .invokevirtual 142, 3, (33, 1, [(5, 49)], 0, "")), (8, .ifCond .ne 6, 3, px_x0), (11, .ldc 62, 2, (0, 0, [], (-1000001), "")), (13, .ireturn, 1, px_x0), (14, .aload_n 0, 1, px_x0), (15, .getfield 29, 3, (10, 3, [(10, 0)], 0, "AllSworn")), (18, .iload_n 1, 1, px_x0), (19, .invokevirtual 145, 3, (33, 1, [(5, 52)], 0, "")), (22, .ifCond .eq 7, 3, px_x0), (25, .iconst 1, 1, px_x0), (26, .goto 4, 3, px_x0), (29, .iconst 0, 1, px_x0), (30, .ireturn, 1, px_x0)])
def m_X11_waits : px_M := (yX11_waits, cX11_waits, 2, some .int, 0, [(0, .aload_n 0, 1, px_x0), (1, .getfield 29, 3, (10, 3, [(10, 0)], 0, "AllSworn")), (4, .invokevirtual 148, 3, (33, 0, [(5, 42)], 0, "")), (7, .ifCond .ne 6, 3, px_x0), (10, .ldc 151, 2, (0, 0, [], (-1000002), "")), (12, .ireturn, 1, px_x0), (13, .iload_n 1, 1, px_x0), (14, .iconst 1, 1, px_x0), (15, .if_icmp .lt 9, 3, px_x0), (18, .iload_n 1, 1, px_x0), (19, .bipush 60, 2, px_x0), (21, .if_icmp .le 6, 3, px_x0), (24, .ldc 62, 2, (0, 0, [], (-1000001), "")), (26, .ireturn, 1, px_x0), (27, .aload_n 0, 1, px_x0), (28, .getfield 29, 3, (10, 3, [(10, 0)], 0, "AllSworn")), (31, .getfield 129, 3, (11, 8, [(5, 0)], 0, "AllSworn$Realm")), (34, .iload_n 1, 1, px_x0), (35, .iadd, 1, px_x0), (36, .sipush 999, 3, px_x0), (39, .if_icmp .le 6, 3, px_x0), (42, .ldc 106, 2, (0, 0, [], (-1000003), "")), (44, .ireturn, 1, px_x0), (45, .aload_n 0, 1, px_x0), (46, .getfield 29, 3, (10, 3, [(10, 0)], 0, "AllSworn")), (49, .iload_n 1, 1, px_x0), (50, .invokevirtual 152, 3, (33, 1, [(5, 53)], 0, "")), (53, .aload_n 0, 1, px_x0), (54, .getfield 29, 3, (10, 3, [(10, 0)], 0, "AllSworn")), (57, .getfield 129, 3, (11, 8, [(5, 0)], 0, "AllSworn$Realm")), (60, .ireturn, 1, px_x0)])
def m_X11_undo : px_M := (yX11_undo, cX11_undo, 1, some .int, 0, [(0, .aload_n 0, 1, px_x0), (1, .getfield 29, 3, (10, 3, [(10, 0)], 0, "AllSworn")), (4, .invokevirtual 156, 3, (33, 0, [(5, 54)], 0, "")), (7, .ifCond .eq 13, 3, px_x0), (10, .aload_n 0, 1, px_x0), (11, .getfield 29, 3, (10, 3, [(10, 0)], 0, "AllSworn")), (14, .getfield 159, 3, (11, 7, [(5, 0)], 0, "AllSworn$Realm")), (17, .goto 5, 3, px_x0), (20, .ldc 151, 2, (0, 0, [], (-1000002), "")), (22, .ireturn, 1, px_x0)])
def m_X11_thing : px_M := (yX11_thing, cX11_thing, 4, some .int, 0, [(0, .aload_n 0, 1, px_x0), (1, .getfield 29, 3, (10, 3, [(10, 0)], 0, "AllSworn")), (4, .iload_n 1, 1, px_x0), (5, .invokevirtual 125, 3, (33, 1, [(5, 47)], 0, "")), (8, .astore_n 3, 1, px_x0), (9, .aload_n 3, 1, px_x0), (10, .ifnonnull 6, 3, px_x0), (13, .ldc 62, 2, (0, 0, [], (-1000001), "")), (15, .ireturn, 1, px_x0), (16, .iload_n 2, 1, px_x0), (17, .tableswitch 81 0 4 #[35, 40, 45, 54, 76], 35, px_x0), (52, .aload_n 3, 1, px_x0), (53, .getfield 162, 3, (10, 1, [(0, 0), (1, 0), (3, 0), (8, 0), (9, 0)], 0, "AllSworn$Thing")), (56, .ireturn, 1, px_x0), (57, .aload_n 3, 1, px_x0), (58, .getfield 165, 3, (10, 2, [(0, 0), (1, 0), (3, 0), (8, 0), (9, 0)], 0, "AllSworn$Thing")), (61, .ireturn, 1, px_x0), (62, .aload_n 0, 1, px_x0), (63, .getfield 29, 3, (10, 3, [(10, 0)], 0, "AllSworn")), (66, .iload_n 1, 1, px_x0), (67, .invokevirtual 168, 3, (33, 1, [(5, 48)], 0, "")), (70, .ireturn, 1, px_x0), (71, .aload_n 0, 1, px_x0), (72, .getfield 29, 3, (10, 3, [(10, 0)], 0, "AllSworn")), (75, .aload_n 0, 1, px_x0), (76, .getfield 29, 3, (10, 3, [(10, 0)], 0, "AllSworn")), (79, .getfield 129, 3, (11, 8, [(5, 0)], 0, "AllSworn$Realm")), (82, .invokevirtual 171, 3, (33, 1, [(5, 57)], 0, "")), (85, .aload_n 3, 1, px_x0), (86, .getfield 174, 3, (10, 0, [(0, 0), (1, 0), (3, 0), (8, 0), (9, 0)], 0, "AllSworn$Thing")), (89, .ishr, 1, px_x0), (90, .iconst 1, 1, px_x0), (91, .iand, 1, px_x0), (92, .ireturn, 1, px_x0), (93, .aload_n 3, 1, px_x0), (94, .invokevirtual 132, 3, (34, 0, [(0, 3), (1, 78), (3, 78), (8, 3), (9, 78)], 0, "AllSworn$Thing")), (97, .ireturn, 1, px_x0), (98, .ldc 62, 2, (0, 0, [], (-1000001), "")), (100, .ireturn, 1, px_x0)])
def m_X11_harm : px_M := (yX11_harm, cX11_harm, 4, some .int, 0, [(0, .aload_n 0, 1, px_x0), (1, .getfield 29, 3, (10, 3, [(10, 0)], 0, "AllSworn")), (4, .iload_n 1, 1, px_x0), (5, .invokevirtual 142, 3, (33, 1, [(5, 49)], 0, "")), (8, .ifCond .ne 6, 3, px_x0), (11, .ldc 62, 2, (0, 0, [], (-1000001), "")), (13, .ireturn, 1, px_x0), (14, .aload_n 0, 1, px_x0), (15, .getfield 29, 3, (10, 3, [(10, 0)], 0, "AllSworn")), (18, .iload_n 1, 1, px_x0), (19, .invokevirtual 177, 3, (33, 1, [(5, 50)], 0, "")), (22, .istore_n 3, 1, px_x0), (23, .iload_n 2, 1, px_x0), (24, .tableswitch 64 0 2 #[28, 30, 55], 28, px_x0), (52, .iload_n 3, 1, px_x0), (53, .ireturn, 1, px_x0), (54, .iload_n 3, 1, px_x0), (55, .aload_n 0, 1, px_x0), (56, .getfield 29, 3, (10, 3, [(10, 0)], 0, "AllSworn")), (59, .aload_n 0, 1, px_x0), (60, .getfield 29, 3, (10, 3, [(10, 0)], 0, "AllSworn")), (63, .getfield 129, 3, (11, 8, [(5, 0)], 0, "AllSworn$Realm")), (66, .invokevirtual 171, 3, (33, 1, [(5, 57)], 0, "")), (69, .iand, 1, px_x0), (70, .ifCond .eq 7, 3, px_x0), (73, .iconst 1, 1, px_x0), (74, .goto 4, 3, px_x0), (77, .iconst 0, 1, px_x0), (78, .ireturn, 1, px_x0), (79, .aload_n 0, 1, px_x0), (80, .getfield 29, 3, (10, 3, [(10, 0)], 0, "AllSworn")), (83, .iload_n 3, 1, px_x0), (84, .invokevirtual 180, 3, (33, 1, [(5, 61)], 0, "")), (87, .ireturn, 1, px_x0), (88, .ldc 62, 2, (0, 0, [], (-1000001), "")), (90, .ireturn, 1, px_x0)])
def m_X11_open : px_M := (yX11_open, cX11_open, 2, some .int, 0, [(0, .aload_n 0, 1, px_x0), (1, .getfield 29, 3, (10, 3, [(10, 0)], 0, "AllSworn")), (4, .invokevirtual 148, 3, (33, 0, [(5, 42)], 0, "")), (7, .ifCond .ne 6, 3, px_x0), (10, .ldc 151, 2, (0, 0, [], (-1000002), "")), (12, .ireturn, 1, px_x0), (13, .aload_n 0, 1, px_x0), (14, .iload_n 1, 1, px_x0), (15, .invokevirtual 183, 3, (33, 1, [(10, 134)], 0, "")), (18, .ifCond .eq 14, 3, px_x0), (21, .aload_n 0, 1, px_x0), (22, .getfield 29, 3, (10, 3, [(10, 0)], 0, "AllSworn")), (25, .iload_n 1, 1, px_x0), (26, .invokevirtual 186, 3, (33, 1, [(5, 59)], 0, "")), (29, .goto 5, 3, px_x0), (32, .ldc 62, 2, (0, 0, [], (-1000001), "")), (34, .ireturn, 1, px_x0)])
def m_X11_gap : px_M := (yX11_gap, cX11_gap, 1, some .int, 0, [(0, .aload_n 0, 1, px_x0), (1, .getfield 29, 3, (10, 3, [(10, 0)], 0, "AllSworn")), (4, .invokevirtual 148, 3, (33, 0, [(5, 42)], 0, "")), (7, .ifCond .eq 17, 3, px_x0), (10, .aload_n 0, 1, px_x0), (11, .getfield 39, 3, (10, 5, [(10, 0)], 0, "AllSworn")), (14, .aload_n 0, 1, px_x0), (15, .getfield 29, 3, (10, 3, [(10, 0)], 0, "AllSworn")), (18, .invokevirtual 189, 3, (33, 1, [(2, 13)], 0, "")), (21, .goto 5, 3, px_x0), (24, .ldc 151, 2, (0, 0, [], (-1000002), "")), (26, .ireturn, 1, px_x0)])
def m_X11_cover : px_M := (yX11_cover, cX11_cover, 2, some .int, 0, [(0, .aload_n 0, 1, px_x0), (1, .getfield 29, 3, (10, 3, [(10, 0)], 0, "AllSworn")), (4, .invokevirtual 148, 3, (33, 0, [(5, 42)], 0, "")), (7, .ifCond .ne 6, 3, px_x0), (10, .ldc 151, 2, (0, 0, [], (-1000002), "")), (12, .ireturn, 1, px_x0), (13, .iload_n 1, 1, px_x0), (14, .invokestatic 193, 3, (30, 1, [(0, 135)], 0, "")), (17, .ifCond .eq 21, 3, px_x0), (20, .aload_n 0, 1, px_x0), (21, .getfield 39, 3, (10, 5, [(10, 0)], 0, "AllSworn")), (24, .aload_n 0, 1, px_x0), (25, .getfield 29, 3, (10, 3, [(10, 0)], 0, "AllSworn")), (28, .invokevirtual 196, 3, (33, 1, [(2, 14)], 0, "")), (31, .iload_n 1, 1, px_x0), (32, .invokestatic 199, 3, (30, 2, [(0, 136)], 0, "")), (35, .goto 5, 3, px_x0), (38, .ldc 62, 2, (0, 0, [], (-1000001), "")), (40, .ireturn, 1, px_x0)])
def m_X11_round : px_M := (yX11_round, cX11_round, 2, some .int, 0, [(0, .aload_n 0, 1, px_x0), (1, .getfield 29, 3, (10, 3, [(10, 0)], 0, "AllSworn")), (4, .invokevirtual 148, 3, (33, 0, [(5, 42)], 0, "")), (7, .ifCond .ne 6, 3, px_x0), (10, .ldc 151, 2, (0, 0, [], (-1000002), "")), (12, .ireturn, 1, px_x0), (13, .iload_n 1, 1, px_x0), (14, .bipush (-2), 2, px_x0), (16, .if_icmp .lt 8, 3, px_x0), (19, .iload_n 1, 1, px_x0), (20, .iconst 4, 1, px_x0), (21, .if_icmp .lt 6, 3, px_x0), (24, .ldc 62, 2, (0, 0, [], (-1000001), "")), (26, .ireturn, 1, px_x0), (27, .aload_n 0, 1, px_x0), (28, .getfield 39, 3, (10, 5, [(10, 0)], 0, "AllSworn")), (31, .aload_n 0, 1, px_x0), (32, .getfield 29, 3, (10, 3, [(10, 0)], 0, "AllSworn")), (35, .invokevirtual 202, 3, (33, 1, [(2, 16)], 0, "")), (38, .iload_n 1, 1, px_x0), (39, .lookupswitch 41 #[(-2, 25), (-1, 33)], 25, px_x0), (64, .aload_n 0, 1, px_x0), (65, .getfield 39, 3, (10, 5, [(10, 0)], 0, "AllSworn")), (68, .getfield 205, 3, (11, 3, [(2, 0)], 0, "AllSworn$Oracle")), (71, .ireturn, 1, px_x0), (72, .aload_n 0, 1, px_x0), (73, .getfield 39, 3, (10, 5, [(10, 0)], 0, "AllSworn")), (76, .getfield 208, 3, (11, 4, [(2, 0)], 0, "AllSworn$Oracle")), (79, .ireturn, 1, px_x0), (80, .aload_n 0, 1, px_x0), (81, .getfield 39, 3, (10, 5, [(10, 0)], 0, "AllSworn")), (84, .iload_n 1, 1, px_x0), (85, .invokevirtual 211, 3, (33, 1, [(2, 19)], 0, "")), (88, .ireturn, 1, px_x0)])
def m_X11_cheapest : px_M := (yX11_cheapest, cX11_cheapest, 3, some .int, 0, [(0, .aload_n 0, 1, px_x0), (1, .getfield 29, 3, (10, 3, [(10, 0)], 0, "AllSworn")), (4, .invokevirtual 148, 3, (33, 0, [(5, 42)], 0, "")), (7, .ifCond .ne 6, 3, px_x0), (10, .ldc 151, 2, (0, 0, [], (-1000002), "")), (12, .ireturn, 1, px_x0), (13, .aload_n 0, 1, px_x0), (14, .iload_n 1, 1, px_x0), (15, .invokevirtual 183, 3, (33, 1, [(10, 134)], 0, "")), (18, .ifCond .eq 10, 3, px_x0), (21, .iload_n 2, 1, px_x0), (22, .invokestatic 193, 3, (30, 1, [(0, 135)], 0, "")), (25, .ifCond .ne 6, 3, px_x0), (28, .ldc 62, 2, (0, 0, [], (-1000001), "")), (30, .ireturn, 1, px_x0), (31, .iload_n 2, 1, px_x0), (32, .ifCond .ne 14, 3, px_x0), (35, .aload_n 0, 1, px_x0), (36, .getfield 29, 3, (10, 3, [(10, 0)], 0, "AllSworn")), (39, .iload_n 1, 1, px_x0), (40, .invokevirtual 214, 3, (33, 1, [(5, 62)], 0, "")), (43, .goto 11, 3, px_x0), (46, .aload_n 0, 1, px_x0), (47, .getfield 29, 3, (10, 3, [(10, 0)], 0, "AllSworn")), (50, .iload_n 1, 1, px_x0), (51, .invokevirtual 217, 3, (33, 1, [(5, 63)], 0, "")), (54, .ireturn, 1, px_x0)])
def m_X11_defended : px_M := (yX11_defended, cX11_defended, 4, some .int, 0, [(0, .aload_n 0, 1, px_x0), (1, .getfield 29, 3, (10, 3, [(10, 0)], 0, "AllSworn")), (4, .invokevirtual 148, 3, (33, 0, [(5, 42)], 0, "")), (7, .ifCond .ne 6, 3, px_x0), (10, .ldc 151, 2, (0, 0, [], (-1000002), "")), (12, .ireturn, 1, px_x0), (13, .aload_n 0, 1, px_x0), (14, .iload_n 1, 1, px_x0), (15, .invokevirtual 183, 3, (33, 1, [(10, 134)], 0, "")), (18, .ifCond .eq 10, 3, px_x0), (21, .iload_n 2, 1, px_x0), (22, .invokestatic 193, 3, (30, 1, [(0, 135)], 0, "")), (25, .ifCond .ne 6, 3, px_x0), (28, .ldc 62, 2, (0, 0, [], (-1000001), "")), (30, .ireturn, 1, px_x0), (31, .aload_n 0, 1, px_x0), (32, .getfield 39, 3, (10, 5, [(10, 0)], 0, "AllSworn")), (35, .aload_n 0, 1, px_x0), (36, .getfield 29, 3, (10, 3, [(10, 0)], 0, "AllSworn")), (39, .iload_n 1, 1, px_x0), (40, .invokevirtual 220, 3, (33, 2, [(2, 20)], 0, "")), (43, .istore_n 3, 1, px_x0), (44, .iload_n 2, 1, px_x0), (45, .ifCond .ne 7, 3, px_x0), (48, .iload_n 3, 1, px_x0), (49, .goto 23, 3, px_x0), (52, .aload_n 0, 1, px_x0), (53, .getfield 39, 3, (10, 5, [(10, 0)], 0, "AllSworn")), (56, .aload_n 0, 1, px_x0), (57, .getfield 29, 3, (10, 3, [(10, 0)], 0, "AllSworn")), (60, .aload_n 0, 1, px_x0), (61, .getfield 29, 3, (10, 3, [(10, 0)], 0, "AllSworn")), (64, .iload_n 3, 1, px_x0), (65, .invokevirtual 125, 3, (33, 1, [(5, 47)], 0, "")), (68, .iload_n 1, 1, px_x0), (69, .invokevirtual 224, 3, (33, 3, [(2, 21)], 0, "")), (72, .ireturn, 1, px_x0)])
def m_X11_enough : px_M := (yX11_enough, cX11_enough, 2, some .int, 0, [(0, .aload_n 0, 1, px_x0), (1, .getfield 29, 3, (10, 3, [(10, 0)], 0, "AllSworn")), (4, .invokevirtual 148, 3, (33, 0, [(5, 42)], 0, "")), (7, .ifCond .ne 6, 3, px_x0), (10, .ldc 151, 2, (0, 0, [], (-1000002), "")), (12, .ireturn, 1, px_x0), (13, .iload_n 1, 1, px_x0), (14, .invokestatic 193, 3, (30, 1, [(0, 135)], 0, "")), (17, .ifCond .eq 21, 3, px_x0), (20, .aload_n 0, 1, px_x0), (21, .getfield 39, 3, (10, 5, [(10, 0)], 0, "AllSworn")), (24, .aload_n 0, 1, px_x0), (25, .getfield 29, 3, (10, 3, [(10, 0)], 0, "AllSworn")), (28, .invokevirtual 228, 3, (33, 1, [(2, 22)], 0, "")), (31, .iload_n 1, 1, px_x0), (32, .invokestatic 199, 3, (30, 2, [(0, 136)], 0, "")), (35, .goto 5, 3, px_x0), (38, .ldc 62, 2, (0, 0, [], (-1000001), "")), (40, .ireturn, 1, px_x0)])
def m_X11_odds : px_M := (yX11_odds, cX11_odds, 8, some .int, 0, [(0, .aload_n 0, 1, px_x0), (1, .getfield 29, 3, (10, 3, [(10, 0)], 0, "AllSworn")), (4, .iload_n 1, 1, px_x0), (5, .invokevirtual 142, 3, (33, 1, [(5, 49)], 0, "")), (8, .ifCond .eq 20, 3, px_x0), (11, .iload_n 2, 1, px_x0), (12, .ifCond .lt 16, 3, px_x0), (15, .iload_n 2, 1, px_x0), (16, .bipush 10, 2, px_x0), (18, .if_icmp .gt 10, 3, px_x0), (21, .iload_n 3, 1, px_x0), (22, .invokestatic 193, 3, (30, 1, [(0, 135)], 0, "")), (25, .ifCond .ne 6, 3, px_x0), (28, .ldc 62, 2, (0, 0, [], (-1000001), "")), (30, .ireturn, 1, px_x0), (31, .aload_n 0, 1, px_x0), (32, .getfield 29, 3, (10, 3, [(10, 0)], 0, "AllSworn")), (35, .iload_n 1, 1, px_x0), (36, .invokevirtual 177, 3, (33, 1, [(5, 50)], 0, "")), (39, .aload_n 0, 1, px_x0), (40, .getfield 29, 3, (10, 3, [(10, 0)], 0, "AllSworn")), (43, .aload_n 0, 1, px_x0), (44, .getfield 29, 3, (10, 3, [(10, 0)], 0, "AllSworn")), (47, .getfield 129, 3, (11, 8, [(5, 0)], 0, "AllSworn$Realm")), (50, .invokevirtual 171, 3, (33, 1, [(5, 57)], 0, "")), (53, .iand, 1, px_x0), (54, .invokestatic 231, 3, (30, 1, [(0, 222)], 0, "")), (57, .istore 4, 2, px_x0), (59, .bipush 10, 2, px_x0), (61, .iload 4, 2, px_x0), (63, .invokestatic 236, 3, (30, 2, [(0, 137)], 0, "")), (66, .istore 5, 2, px_x0), (68, .iload 5, 2, px_x0), (70, .iload_n 2, 1, px_x0), (71, .iload 4, 2, px_x0), (73, .invokestatic 236, 3, (30, 2, [(0, 137)], 0, "")), (76, .isub, 1, px_x0), (77, .istore 6, 2, px_x0), (79, .iload 6, 2, px_x0), (81, .iload 5, 2, px_x0), (83, .invokestatic 239, 3, (30, 2, [(0, 138)], 0, "")), (86, .istore 7, 2, px_x0), (88, .iload_n 3, 1, px_x0), (89, .ifCond .ne 8, 3, px_x0), (92, .iload 6, 2, px_x0), (94, .goto 5, 3, px_x0), (97, .iload 5, 2, px_x0), (99, .iconst 1, 1, px_x0), (100, .iload 7, 2, px_x0), (102, .invokestatic 242, 3, (38, 0, [], 0, "")), (105, .idiv, 1, px_x0), (106, .ireturn, 1, px_x0)])
def m_X11_hitBy : px_M := (yX11_hitBy, cX11_hitBy, 5, some .int, 0, [(0, .aload_n 0, 1, px_x0), (1, .getfield 29, 3, (10, 3, [(10, 0)], 0, "AllSworn")), (4, .invokevirtual 148, 3, (33, 0, [(5, 42)], 0, "")), (7, .ifCond .ne 6, 3, px_x0), (10, .ldc 151, 2, (0, 0, [], (-1000002), "")), (12, .ireturn, 1, px_x0), (13, .aload_n 0, 1, px_x0), (14, .iload_n 1, 1, px_x0), (15, .invokevirtual 58, 3, (33, 1, [(10, 131)], 0, "")), (18, .astore 4, 2, px_x0), (20, .aload 4, 2, px_x0), (22, .ifnull 14, 3, px_x0), (25, .iload_n 3, 1, px_x0), (26, .iconst 1, 1, px_x0), (27, .if_icmp .lt 9, 3, px_x0), (30, .iload_n 3, 1, px_x0), (31, .bipush 12, 2, px_x0), (33, .if_icmp .le 6, 3, px_x0), (36, .ldc 62, 2, (0, 0, [], (-1000001), "")), (38, .ireturn, 1, px_x0), (39, .aload 4, 2, px_x0), (41, .invokevirtual 74, 3, (33, 0, [(6, 67)], 0, "")), (44, .ifCond .eq 9, 3, px_x0), (47, .aload_n 0, 1, px_x0), (48, .iconst 1, 1, px_x0), (49, .invokevirtual 63, 3, (33, 1, [(10, 129)], 0, "")), (52, .ireturn, 1, px_x0), (53, .aload 4, 2, px_x0), (55, .iload_n 2, 1, px_x0), (56, .iload_n 3, 1, px_x0), (57, .invokevirtual 78, 3, (33, 2, [(6, 70)], 0, "")), (60, .ifCond .ne 9, 3, px_x0), (63, .aload_n 0, 1, px_x0), (64, .iconst 2, 1, px_x0), (65, .invokevirtual 63, 3, (33, 1, [(10, 129)], 0, "")), (68, .ireturn, 1, px_x0), (69, .aload 4, 2, px_x0), (71, .iload_n 2, 1, px_x0), (72, .iload_n 3, 1, px_x0), (73, .invokevirtual 247, 3, (33, 2, [(6, 73)], 0, "")), (76, .ifCond .ne 6, 3, px_x0), (79, .ldc 62, 2, (0, 0, [], (-1000001), "")), (81, .ireturn, 1, px_x0), (82, .aload_n 0, 1, px_x0), (83, .aload_n 0, 1, px_x0), (84, .getfield 39, 3, (10, 5, [(10, 0)], 0, "AllSworn")), (87, .aload_n 0, 1, px_x0), (88, .getfield 29, 3, (10, 3, [(10, 0)], 0, "AllSworn")), (91, .aload 4, 2, px_x0), (93, .iload_n 2, 1, px_x0), (94, .iload_n 3, 1, px_x0), (95, .invokevirtual 250, 3, (33, 4, [(2, 23)], 0, "")), (98, .invokevirtual 71, 3, (33, 1, [(10, 130)], 0, "")), (101, .ireturn, 1, px_x0)])
def m_X11_terms : px_M := (yX11_terms, cX11_terms, 1, some .int, 0, [(0, .aload_n 0, 1, px_x0), (1, .getfield 29, 3, (10, 3, [(10, 0)], 0, "AllSworn")), (4, .invokevirtual 148, 3, (33, 0, [(5, 42)], 0, "")), (7, .ifCond .eq 17, 3, px_x0), (10, .aload_n 0, 1, px_x0), (11, .getfield 39, 3, (10, 5, [(10, 0)], 0, "AllSworn")), (14, .aload_n 0, 1, px_x0), (15, .getfield 29, 3, (10, 3, [(10, 0)], 0, "AllSworn")), (18, .invokevirtual 254, 3, (33, 1, [(2, 24)], 0, "")), (21, .goto 5, 3, px_x0), (24, .ldc 151, 2, (0, 0, [], (-1000002), "")), (26, .ireturn, 1, px_x0)])
def m_X11_image : px_M := (yX11_image, cX11_image, 3, some .int, 0, [(0, .aload_n 0, 1, px_x0), (1, .iload_n 1, 1, px_x0), (2, .invokevirtual 257, 3, (33, 1, [(10, 132)], 0, "")), (5, .astore_n 2, 1, px_x0), (6, .aload_n 2, 1, px_x0), (7, .ifnonnull 6, 3, px_x0), (10, .ldc 62, 2, (0, 0, [], (-1000001), "")), (12, .ireturn, 1, px_x0), (13, .aload_n 0, 1, px_x0), (14, .getfield 29, 3, (10, 3, [(10, 0)], 0, "AllSworn")), (17, .invokevirtual 148, 3, (33, 0, [(5, 42)], 0, "")), (20, .ifCond .ne 6, 3, px_x0), (23, .ldc 151, 2, (0, 0, [], (-1000002), "")), (25, .ireturn, 1, px_x0), (26, .aload_n 2, 1, px_x0), (27, .aload_n 0, 1, px_x0), (28, .getfield 29, 3, (10, 3, [(10, 0)], 0, "AllSworn")), (31, .invokevirtual 118, 3, (33, 1, [(5, 46)], 0, "")), (34, .iconst 1, 1, px_x0), (35, .ireturn, 1, px_x0)])
def m_X11_restore : px_M := (yX11_restore, cX11_restore, 3, some .int, 0, [(0, .aload_n 0, 1, px_x0), (1, .iload_n 1, 1, px_x0), (2, .invokevirtual 257, 3, (33, 1, [(10, 132)], 0, "")), (5, .astore_n 2, 1, px_x0), (6, .aload_n 2, 1, px_x0), (7, .ifnonnull 6, 3, px_x0), (10, .ldc 62, 2, (0, 0, [], (-1000001), "")), (12, .ireturn, 1, px_x0), (13, .aload_n 2, 1, px_x0), (14, .invokevirtual 148, 3, (33, 0, [(5, 42)], 0, "")), (17, .ifCond .ne 6, 3, px_x0), (20, .ldc 151, 2, (0, 0, [], (-1000002), "")), (22, .ireturn, 1, px_x0), (23, .aload_n 0, 1, px_x0), (24, .getfield 29, 3, (10, 3, [(10, 0)], 0, "AllSworn")), (27, .aload_n 2, 1, px_x0), (28, .invokevirtual 118, 3, (33, 1, [(5, 46)], 0, "")), (31, .iconst 1, 1, px_x0), (32, .ireturn, 1, px_x0)])
def m_X11_kind : px_M := (yX11_kind, cX11_kind, 3, some .int, 0, [(0, .aload_n 0, 1, px_x0), (1, .getfield 29, 3, (10, 3, [(10, 0)], 0, "AllSworn")), (4, .iload_n 1, 1, px_x0), (5, .invokevirtual 125, 3, (33, 1, [(5, 47)], 0, "")), (8, .astore_n 2, 1, px_x0), (9, .aload_n 2, 1, px_x0), (10, .ifnonnull 8, 3, px_x0), (13, .ldc 62, 2, (0, 0, [], (-1000001), "")), (15, .goto 7, 3, px_x0), (18, .aload_n 2, 1, px_x0), (19, .invokevirtual 261, 3, (34, 0, [(0, 1), (1, 7), (3, 26), (8, 88), (9, 93)], 0, "AllSworn$Thing")), (22, .ireturn, 1, px_x0)])
def m_X11_as : px_M := (yX11_as, cX11_as, 4, some .int, 0, [(0, .aload_n 0, 1, px_x0), (1, .getfield 29, 3, (10, 3, [(10, 0)], 0, "AllSworn")), (4, .iload_n 1, 1, px_x0), (5, .invokevirtual 125, 3, (33, 1, [(5, 47)], 0, "")), (8, .astore_n 3, 1, px_x0), (9, .aload_n 3, 1, px_x0), (10, .ifnull 12, 3, px_x0), (13, .iload_n 2, 1, px_x0), (14, .ifCond .lt 8, 3, px_x0), (17, .iload_n 2, 1, px_x0), (18, .iconst 5, 1, px_x0), (19, .if_icmp .le 6, 3, px_x0), (22, .ldc 62, 2, (0, 0, [], (-1000001), "")), (24, .ireturn, 1, px_x0), (25, .aload_n 3, 1, px_x0), (26, .iload_n 2, 1, px_x0), (27, .invokevirtual 264, 3, (34, 1, [(0, 2), (1, 8), (3, 27), (8, 89), (9, 94)], 0, "AllSworn$Thing")), (30, .ifCond .eq 14, 3, px_x0), (33, .aload_n 0, 1, px_x0), (34, .aload_n 3, 1, px_x0), (35, .getfield 174, 3, (10, 0, [(0, 0), (1, 0), (3, 0), (8, 0), (9, 0)], 0, "AllSworn$Thing")), (38, .invokevirtual 71, 3, (33, 1, [(10, 130)], 0, "")), (41, .goto 8, 3, px_x0), (44, .aload_n 0, 1, px_x0), (45, .iconst 3, 1, px_x0), (46, .invokevirtual 63, 3, (33, 1, [(10, 129)], 0, "")), (49, .ireturn, 1, px_x0)])
def m_X11_ask : px_M := (yX11_ask, cX11_ask, 4, some .int, 0, [(0, .aload_n 0, 1, px_x0), (1, .getfield 29, 3, (10, 3, [(10, 0)], 0, "AllSworn")), (4, .iload_n 1, 1, px_x0), (5, .invokevirtual 125, 3, (33, 1, [(5, 47)], 0, "")), (8, .astore_n 3, 1, px_x0), (9, .aload_n 3, 1, px_x0), (10, .ifnull 10, 3, px_x0), (13, .iload_n 2, 1, px_x0), (14, .invokestatic 193, 3, (30, 1, [(0, 135)], 0, "")), (17, .ifCond .ne 6, 3, px_x0), (20, .ldc 62, 2, (0, 0, [], (-1000001), "")), (22, .ireturn, 1, px_x0), (23, .aload_n 0, 1, px_x0), (24, .getfield 46, 3, (10, 6, [(10, 0)], 0, "AllSworn")), (27, .invokevirtual 267, 3, (33, 0, [(7, 84)], 0, "")), (30, .iload_n 2, 1, px_x0), (31, .ifCond .ne 18, 3, px_x0), (34, .aload_n 3, 1, px_x0), (35, .aload_n 0, 1, px_x0), (36, .getfield 46, 3, (10, 6, [(10, 0)], 0, "AllSworn")), (39, .aload_n 0, 1, px_x0), (40, .getfield 29, 3, (10, 3, [(10, 0)], 0, "AllSworn")), (43, .invokevirtual 270, 3, (34, 2, [(0, 4), (1, 10), (3, 28), (8, 91), (9, 28)], 0, "AllSworn$Thing")), (46, .goto 15, 3, px_x0), (49, .aload_n 3, 1, px_x0), (50, .aload_n 0, 1, px_x0), (51, .getfield 46, 3, (10, 6, [(10, 0)], 0, "AllSworn")), (54, .aload_n 0, 1, px_x0), (55, .getfield 29, 3, (10, 3, [(10, 0)], 0, "AllSworn")), (58, .invokevirtual 273, 3, (34, 2, [(0, 5), (1, 11), (3, 29), (8, 5), (9, 96)], 0, "AllSworn$Thing")), (61, .ireturn, 1, px_x0)])
def m_X11_trace : px_M := (yX11_trace, cX11_trace, 2, some .int, 0, [(0, .aload_n 0, 1, px_x0), (1, .getfield 46, 3, (10, 6, [(10, 0)], 0, "AllSworn")), (4, .iload_n 1, 1, px_x0), (5, .invokevirtual 276, 3, (33, 1, [(7, 86)], 0, "")), (8, .ireturn, 1, px_x0)])
def m_X11_count : px_M := (yX11_count, cX11_count, 2, some .int, 0, [(0, .iload_n 1, 1, px_x0), (1, .tableswitch 108 0 7 #[47, 52, 60, 68, 76, 84, 92, 100], 47, px_x0), (48, .aload_n 0, 1, px_x0), (49, .invokevirtual 279, 3, (33, 0, [(10, 133)], 0, "")), (52, .ireturn, 1, px_x0), (53, .aload_n 0, 1, px_x0), (54, .getfield 29, 3, (10, 3, [(10, 0)], 0, "AllSworn")), (57, .getfield 122, 3, (11, 5, [(5, 0)], 0, "AllSworn$Realm")), (60, .ireturn, 1, px_x0), (61, .aload_n 0, 1, px_x0), (62, .getfield 29, 3, (10, 3, [(10, 0)], 0, "AllSworn")), (65, .getfield 282, 3, (11, 6, [(5, 0)], 0, "AllSworn$Realm")), (68, .ireturn, 1, px_x0), (69, .aload_n 0, 1, px_x0), (70, .getfield 29, 3, (10, 3, [(10, 0)], 0, "AllSworn")), (73, .getfield 129, 3, (11, 8, [(5, 0)], 0, "AllSworn$Realm")), (76, .ireturn, 1, px_x0), (77, .aload_n 0, 1, px_x0), (78, .getfield 29, 3, (10, 3, [(10, 0)], 0, "AllSworn")), (81, .getfield 285, 3, (11, 9, [(5, 0)], 0, "AllSworn$Realm")), (84, .ireturn, 1, px_x0), (85, .aload_n 0, 1, px_x0), (86, .getfield 29, 3, (10, 3, [(10, 0)], 0, "AllSworn")), (89, .getfield 288, 3, (11, 4, [(5, 0)], 0, "AllSworn$Realm")), (92, .ireturn, 1, px_x0), (93, .aload_n 0, 1, px_x0), (94, .getfield 29, 3, (10, 3, [(10, 0)], 0, "AllSworn")), (97, .getfield 159, 3, (11, 7, [(5, 0)], 0, "AllSworn$Realm")), (100, .ireturn, 1, px_x0), (101, .aload_n 0, 1, px_x0), (102, .getfield 18, 3, (10, 1, [(10, 0)], 0, "AllSworn")), (105, .getfield 103, 3, (11, 1, [(4, 0)], 0, "AllSworn$Reader")), (108, .ireturn, 1, px_x0), (109, .ldc 62, 2, (0, 0, [], (-1000001), "")), (111, .ireturn, 1, px_x0)])
def m_X11_status : px_M := (yX11_status, cX11_status, 1, some .int, 0, [(0, .aload_n 0, 1, px_x0), (1, .getfield 54, 3, (10, 8, [(10, 0)], 0, "AllSworn")), (4, .ireturn, 1, px_x0)])
def m_X11_found : px_M := (yX11_found, cX11_found, 2, some .int, 0, [(0, .aload_n 0, 1, px_x0), (1, .iload_n 1, 1, px_x0), (2, .putfield 54, 3, (10, 8, [(10, 0)], 0, "AllSworn")), (5, .ldc_w 291, 3, (0, 0, [], (-1000010), "")), (8, .iload_n 1, 1, px_x0), (9, .isub, 1, px_x0), (10, .ireturn, 1, px_x0)])
def m_X11_clean : px_M := (yX11_clean, cX11_clean, 2, some .int, 0, [(0, .aload_n 0, 1, px_x0), (1, .iconst 0, 1, px_x0), (2, .putfield 54, 3, (10, 8, [(10, 0)], 0, "AllSworn")), (5, .iload_n 1, 1, px_x0), (6, .ireturn, 1, px_x0)])
def m_X11_rowAt : px_M := (yX11_rowAt, cX11_rowAt, 2, some (.object "AllSworn$Row"), 0, [(0, .iload_n 1, 1, px_x0), (1, .ifCond .lt 18, 3, px_x0), (4, .iload_n 1, 1, px_x0), (5, .bipush 8, 2, px_x0), (7, .if_icmp .ge 12, 3, px_x0), (10, .aload_n 0, 1, px_x0), (11, .getfield 11, 3, (10, 0, [(10, 0)], 0, "AllSworn")), (14, .iload_n 1, 1, px_x0), (15, .aaload, 1, px_x0), (16, .goto 4, 3, px_x0), (19, .aconst_null, 1, px_x0), (20, .areturn, 1, px_x0)])
def m_X11_imageAt : px_M := (yX11_imageAt, cX11_imageAt, 2, some (.object "AllSworn$Realm"), 0, [(0, .iload_n 1, 1, px_x0), (1, .ifCond .lt 17, 3, px_x0), (4, .iload_n 1, 1, px_x0), (5, .iconst 2, 1, px_x0), (6, .if_icmp .ge 12, 3, px_x0), (9, .aload_n 0, 1, px_x0), (10, .getfield 32, 3, (10, 4, [(10, 0)], 0, "AllSworn")), (13, .iload_n 1, 1, px_x0), (14, .aaload, 1, px_x0), (15, .goto 4, 3, px_x0), (18, .aconst_null, 1, px_x0), (19, .areturn, 1, px_x0)])
def m_X11_rowsThere : px_M := (yX11_rowsThere, cX11_rowsThere, 3, some .int, 0, [(0, .iconst 0, 1, px_x0), (1, .istore_n 1, 1, px_x0), (2, .iconst 0, 1, px_x0), (3, .istore_n 2, 1, px_x0), (4, .iload_n 2, 1, px_x0), (5, .bipush 8, 2, px_x0), (7, .if_icmp .ge 33, 3, px_x0), (10, .aload_n 0, 1, px_x0), (11, .getfield 11, 3, (10, 0, [(10, 0)], 0, "AllSworn")), (14, .iload_n 2, 1, px_x0), (15, .aaload, 1, px_x0), (16, .ifnull 18, 3, px_x0), (19, .aload_n 0, 1, px_x0), (20, .getfield 11, 3, (10, 0, [(10, 0)], 0, "AllSworn")), (23, .iload_n 2, 1, px_x0), (24, .aaload, 1, px_x0), (25, .invokevirtual 74, 3, (33, 0, [(6, 67)], 0, "")), (28, .ifCond .ne 6, 3, px_x0), (31, .iinc 1 1, 3, px_x0), (34, .iinc 2 1, 3, px_x0), (37, .goto (-33), 3, px_x0), (40, .iload_n 1, 1, px_x0), (41, .ireturn, 1, px_x0)])
def m_X11_isAhead : px_M := (yX11_isAhead, cX11_isAhead, 2, some .boolean, 0, [(0, .iload_n 1, 1, px_x0), (1, .aload_n 0, 1, px_x0), (2, .getfield 29, 3, (10, 3, [(10, 0)], 0, "AllSworn")), (5, .getfield 129, 3, (11, 8, [(5, 0)], 0, "AllSworn$Realm")), (8, .if_icmp .lt 21, 3, px_x0), (11, .iload_n 1, 1, px_x0), (12, .aload_n 0, 1, px_x0), (13, .getfield 29, 3, (10, 3, [(10, 0)], 0, "AllSworn")), (16, .getfield 129, 3, (11, 8, [(5, 0)], 0, "AllSworn$Realm")), (19, .bipush 100, 2, px_x0), (21, .iadd, 1, px_x0), (22, .if_icmp .gt 7, 3, px_x0), (25, .iconst 1, 1, px_x0), (26, .goto 4, 3, px_x0), (29, .iconst 0, 1, px_x0), (30, .ireturn, 1, px_x0)])
def m_X11_isPair : px_M := (yX11_isPair, cX11_isPair, 1, some .boolean, 0, [(0, .iload_n 0, 1, px_x0), (1, .ifCond .eq 8, 3, px_x0), (4, .iload_n 0, 1, px_x0), (5, .iconst 1, 1, px_x0), (6, .if_icmp .ne 7, 3, px_x0), (9, .iconst 1, 1, px_x0), (10, .goto 4, 3, px_x0), (13, .iconst 0, 1, px_x0), (14, .ireturn, 1, px_x0)])
def m_X11_sizeOrSet : px_M := (yX11_sizeOrSet, cX11_sizeOrSet, 2, some .int, 0, [(0, .iload_n 0, 1, px_x0), (1, .ldc_w 292, 3, (0, 0, [], (-1000000), "")), (4, .if_icmp .eq 8, 3, px_x0), (7, .iload_n 1, 1, px_x0), (8, .iconst 1, 1, px_x0), (9, .if_icmp .ne 7, 3, px_x0), (12, .iload_n 0, 1, px_x0), (13, .goto 7, 3, px_x0), (16, .iload_n 0, 1, px_x0), (17, .invokestatic 231, 3, (30, 1, [(0, 222)], 0, "")), (20, .ireturn, 1, px_x0)])
def m_X11_power : px_M := (yX11_power, cX11_power, 4, some .int, 0, [(0, .iconst 1, 1, px_x0), (1, .istore_n 2, 1, px_x0), (2, .iconst 0, 1, px_x0), (3, .istore_n 3, 1, px_x0), (4, .iload_n 3, 1, px_x0), (5, .iload_n 1, 1, px_x0), (6, .if_icmp .ge 13, 3, px_x0), (9, .iload_n 2, 1, px_x0), (10, .iload_n 0, 1, px_x0), (11, .imul, 1, px_x0), (12, .istore_n 2, 1, px_x0), (13, .iinc 3 1, 3, px_x0), (16, .goto (-12), 3, px_x0), (19, .iload_n 2, 1, px_x0), (20, .ireturn, 1, px_x0)])
def m_X11_sharedDivisor : px_M := (yX11_sharedDivisor, cX11_sharedDivisor, 6, some .int, 0, [(0, .iload_n 0, 1, px_x0), (1, .istore_n 2, 1, px_x0), (2, .iload_n 1, 1, px_x0), (3, .istore_n 3, 1, px_x0), (4, .iconst 0, 1, px_x0), (5, .istore 4, 2, px_x0), (7, .iload 4, 2, px_x0), (9, .bipush 64, 2, px_x0), (11, .if_icmp .ge 23, 3, px_x0), (14, .iload_n 2, 1, px_x0), (15, .ifCond .eq 19, 3, px_x0), (18, .iload_n 3, 1, px_x0), (19, .iload_n 2, 1, px_x0), (20, .irem, 1, px_x0), (21, .istore 5, 2, px_x0), (23, .iload_n 2, 1, px_x0), (24, .istore_n 3, 1, px_x0), (25, .iload 5, 2, px_x0), (27, .istore_n 2, 1, px_x0), (28, .iinc 4 1, 3, px_x0), (31, .goto (-24), 3, px_x0), (34, .iload_n 3, 1, px_x0), (35, .ireturn, 1, px_x0)])
def m_X12_init : px_M := (yX12_init, cX12_init, 1, none, 10, [(0, .aload_n 0, 1, px_x0), (1, .invokespecial 1, 3, (36, 0, [], 0, "")), (4, .aload_n 0, 1, px_x0), (5, .bipush 8, 2, px_x0), (7, .newarray .int, 2, px_x0), (9, .putfield 7, 3, (10, 0, [(11, 0)], 0, "AllSwornModel")), (12, .aload_n 0, 1, px_x0), (13, .bipush 8, 2, px_x0), (15, .newarray .int, 2, px_x0), (17, .putfield 13, 3, (10, 1, [(11, 0)], 0, "AllSwornModel")), (20, .aload_n 0, 1, px_x0), (21, .sipush 320, 3, px_x0), (24, .newarray .int, 2, px_x0), (26, .putfield 16, 3, (10, 2, [(11, 0)], 0, "AllSwornModel")), (29, .aload_n 0, 1, px_x0), (30, .sipush 180, 3, px_x0), (33, .newarray .int, 2, px_x0), (35, .putfield 19, 3, (10, 4, [(11, 0)], 0, "AllSwornModel")), (38, .aload_n 0, 1, px_x0), (39, .iconst 2, 1, px_x0), (40, .newarray .boolean, 2, px_x0), (42, .putfield 22, 3, (10, 6, [(11, 0)], 0, "AllSwornModel")), (45, .aload_n 0, 1, px_x0), (46, .bipush 96, 2, px_x0), (48, .newarray .int, 2, px_x0), (50, .putfield 26, 3, (10, 7, [(11, 0)], 0, "AllSwornModel")), (53, .aload_n 0, 1, px_x0), (54, .bipush 120, 2, px_x0), (56, .newarray .byte, 2, px_x0), (58, .putfield 29, 3, (10, 9, [(11, 0)], 0, "AllSwornModel")), (61, .aload_n 0, 1, px_x0), (62, .bipush 8, 2, px_x0), (64, .newarray .int, 2, px_x0), (66, .putfield 33, 3, (10, 18, [(11, 0)], 0, "AllSwornModel")), (69, .aload_n 0, 1, px_x0), (70, .iconst 4, 1, px_x0), (71, .newarray .int, 2, px_x0), (73, .putfield 36, 3, (10, 19, [(11, 0)], 0, "AllSwornModel")), (76, .aload_n 0, 1, px_x0), (77, .bipush 16, 2, px_x0), (79, .newarray .int, 2, px_x0), (81, .putfield 39, 3, (10, 21, [(11, 0)], 0, "AllSwornModel")), (84, .aload_n 0, 1, px_x0), (85, .iconst 0, 1, px_x0), (86, .putfield 42, 3, (10, 10, [(11, 0)], 0, "AllSwornModel")), (89, .return_, 1, px_x0)])
def m_X12_in : px_M := (yX12_in, cX12_in, 3, some .boolean, 0, [(0, .iload_n 0, 1, px_x0), (1, .iload_n 1, 1, px_x0), (2, .if_icmp .lt 12, 3, px_x0), (5, .iload_n 0, 1, px_x0), (6, .iload_n 2, 1, px_x0), (7, .if_icmp .gt 7, 3, px_x0), (10, .iconst 1, 1, px_x0), (11, .goto 4, 3, px_x0), (14, .iconst 0, 1, px_x0), (15, .ireturn, 1, px_x0)])
def m_X12_finds : px_M := (yX12_finds, cX12_finds, 2, some .int, 0, [(0, .aload_n 0, 1, px_x0), (1, .iload_n 1, 1, px_x0), (2, .putfield 46, 3, (10, 3, [(11, 0)], 0, "AllSwornModel")), (5, .ldc 49, 2, (0, 0, [], (-1000010), "")), (7, .iload_n 1, 1, px_x0), (8, .isub, 1, px_x0), (9, .ireturn, 1, px_x0)])
def m_X12_well : px_M := (yX12_well, cX12_well, 2, some .int, 0, [(0, .aload_n 0, 1, px_x0), (1, .iconst 0, 1, px_x0), (2, .putfield 46, 3, (10, 3, [(11, 0)], 0, "AllSwornModel")), (5, .iload_n 1, 1, px_x0), (6, .ireturn, 1, px_x0)])
def m_X12_isRow : px_M := (yX12_isRow, cX12_isRow, 1, some .boolean, 0, [(0, .iload_n 0, 1, px_x0), (1, .iconst 0, 1, px_x0), (2, .bipush 7, 2, px_x0), (4, .invokestatic 50, 3, (30, 3, [(0, 140)], 0, "")), (7, .ireturn, 1, px_x0)])
def m_X12_row : px_M := (yX12_row, cX12_row, 5, some .int, 0, [(0, .iload_n 1, 1, px_x0), (1, .invokestatic 54, 3, (30, 1, [(0, 143)], 0, "")), (4, .ifCond .eq 18, 3, px_x0), (7, .iload_n 2, 1, px_x0), (8, .iconst 0, 1, px_x0), (9, .iconst 2, 1, px_x0), (10, .invokestatic 50, 3, (30, 3, [(0, 140)], 0, "")), (13, .ifCond .eq 9, 3, px_x0), (16, .iload_n 3, 1, px_x0), (17, .bipush 40, 2, px_x0), (19, .if_icmp .le 6, 3, px_x0), (22, .ldc 58, 2, (0, 0, [], (-1000001), "")), (24, .ireturn, 1, px_x0), (25, .iload_n 3, 1, px_x0), (26, .ifCond .ge 9, 3, px_x0), (29, .aload_n 0, 1, px_x0), (30, .iconst 4, 1, px_x0), (31, .invokevirtual 59, 3, (33, 1, [(11, 141)], 0, "")), (34, .ireturn, 1, px_x0), (35, .aload_n 0, 1, px_x0), (36, .getfield 7, 3, (10, 0, [(11, 0)], 0, "AllSwornModel")), (39, .iload_n 1, 1, px_x0), (40, .iload_n 2, 1, px_x0), (41, .iconst 1, 1, px_x0), (42, .iadd, 1, px_x0), (43, .iastore, 1, px_x0), (44, .aload_n 0, 1, px_x0), (45, .getfield 13, 3, (10, 1, [(11, 0)], 0, "AllSwornModel")), (48, .iload_n 1, 1, px_x0), (49, .iload_n 3, 1, px_x0), (50, .iastore, 1, px_x0), (51, .iconst 0, 1, px_x0), (52, .istore 4, 2, px_x0), (54, .iload 4, 2, px_x0), (56, .bipush 40, 2, px_x0), (58, .if_icmp .ge 22, 3, px_x0), (61, .aload_n 0, 1, px_x0), (62, .getfield 16, 3, (10, 2, [(11, 0)], 0, "AllSwornModel")), (65, .bipush 40, 2, px_x0), (67, .iload_n 1, 1, px_x0), (68, .imul, 1, px_x0), (69, .iload 4, 2, px_x0), (71, .iadd, 1, px_x0), (72, .iconst 0, 1, px_x0), (73, .iastore, 1, px_x0), (74, .iinc 4 1, 3, px_x0), (77, .goto (-23), 3, px_x0), (80, .aload_n 0, 1, px_x0), (81, .iload_n 3, 1, px_x0), (82, .invokevirtual 63, 3, (33, 1, [(11, 142)], 0, "")), (85, .ireturn, 1, px_x0)])
def m_X12_set : px_M := (yX12_set, cX12_set, 5, some .int, 0, [(0, .iload_n 1, 1, px_x0), (1, .invokestatic 54, 3, (30, 1, [(0, 143)], 0, "")), (4, .ifCond .ne 6, 3, px_x0), (7, .ldc 58, 2, (0, 0, [], (-1000001), "")), (9, .ireturn, 1, px_x0), (10, .aload_n 0, 1, px_x0), (11, .getfield 7, 3, (10, 0, [(11, 0)], 0, "AllSwornModel")), (14, .iload_n 1, 1, px_x0), (15, .iaload, 1, px_x0), (16, .ifCond .ne 9, 3, px_x0), (19, .aload_n 0, 1, px_x0), (20, .iconst 1, 1, px_x0), (21, .invokevirtual 59, 3, (33, 1, [(11, 141)], 0, "")), (24, .ireturn, 1, px_x0), (25, .iload_n 2, 1, px_x0), (26, .iconst 0, 1, px_x0), (27, .aload_n 0, 1, px_x0), (28, .getfield 13, 3, (10, 1, [(11, 0)], 0, "AllSwornModel")), (31, .iload_n 1, 1, px_x0), (32, .iaload, 1, px_x0), (33, .iconst 1, 1, px_x0), (34, .isub, 1, px_x0), (35, .invokestatic 50, 3, (30, 3, [(0, 140)], 0, "")), (38, .ifCond .ne 9, 3, px_x0), (41, .aload_n 0, 1, px_x0), (42, .iconst 2, 1, px_x0), (43, .invokevirtual 59, 3, (33, 1, [(11, 141)], 0, "")), (46, .ireturn, 1, px_x0), (47, .aload_n 0, 1, px_x0), (48, .getfield 7, 3, (10, 0, [(11, 0)], 0, "AllSwornModel")), (51, .iload_n 1, 1, px_x0), (52, .iaload, 1, px_x0), (53, .iconst 1, 1, px_x0), (54, .if_icmp .ne 8, 3, px_x0), (57, .iload_n 3, 1, px_x0), (58, .i2b, 1, px_x0), (59, .goto 19, 3, px_x0), (62, .aload_n 0, 1, px_x0), (63, .getfield 7, 3, (10, 0, [(11, 0)], 0, "AllSwornModel")), (66, .iload_n 1, 1, px_x0), (67, .iaload, 1, px_x0), (68, .iconst 2, 1, px_x0), (69, .if_icmp .ne 8, 3, px_x0), (72, .iload_n 3, 1, px_x0), (73, .i2s, 1, px_x0), (74, .goto 4, 3, px_x0), (77, .iload_n 3, 1, px_x0), (78, .istore 4, 2, px_x0), (80, .aload_n 0, 1, px_x0), (81, .getfield 16, 3, (10, 2, [(11, 0)], 0, "AllSwornModel")), (84, .bipush 40, 2, px_x0), (86, .iload_n 1, 1, px_x0), (87, .imul, 1, px_x0), (88, .iload_n 2, 1, px_x0), (89, .iadd, 1, px_x0), (90, .iload 4, 2, px_x0), (92, .iastore, 1, px_x0), (93, .aload_n 0, 1, px_x0), (94, .iload 4, 2, px_x0), (96, .invokevirtual 63, 3, (33, 1, [(11, 142)], 0, "")), (99, .ireturn, 1, px_x0)])
def m_X12_copy : px_M := (yX12_copy, cX12_copy, 9, some .int, 0, [(0, .iload_n 1, 1, px_x0), (1, .invokestatic 54, 3, (30, 1, [(0, 143)], 0, "")), (4, .ifCond .eq 10, 3, px_x0), (7, .iload_n 3, 1, px_x0), (8, .invokestatic 54, 3, (30, 1, [(0, 143)], 0, "")), (11, .ifCond .ne 6, 3, px_x0), (14, .ldc 58, 2, (0, 0, [], (-1000001), "")), (16, .ireturn, 1, px_x0), (17, .aload_n 0, 1, px_x0), (18, .getfield 7, 3, (10, 0, [(11, 0)], 0, "AllSwornModel")), (21, .iload_n 1, 1, px_x0), (22, .iaload, 1, px_x0), (23, .ifCond .eq 12, 3, px_x0), (26, .aload_n 0, 1, px_x0), (27, .getfield 7, 3, (10, 0, [(11, 0)], 0, "AllSwornModel")), (30, .iload_n 3, 1, px_x0), (31, .iaload, 1, px_x0), (32, .ifCond .ne 9, 3, px_x0), (35, .aload_n 0, 1, px_x0), (36, .iconst 1, 1, px_x0), (37, .invokevirtual 59, 3, (33, 1, [(11, 141)], 0, "")), (40, .ireturn, 1, px_x0), (41, .aload_n 0, 1, px_x0), (42, .getfield 7, 3, (10, 0, [(11, 0)], 0, "AllSwornModel")), (45, .iload_n 1, 1, px_x0), (46, .iaload, 1, px_x0), (47, .aload_n 0, 1, px_x0), (48, .getfield 7, 3, (10, 0, [(11, 0)], 0, "AllSwornModel")), (51, .iload_n 3, 1, px_x0), (52, .iaload, 1, px_x0), (53, .if_icmp .eq 9, 3, px_x0), (56, .aload_n 0, 1, px_x0), (57, .iconst 5, 1, px_x0), (58, .invokevirtual 59, 3, (33, 1, [(11, 141)], 0, "")), (61, .ireturn, 1, px_x0), (62, .iload_n 2, 1, px_x0), (63, .ifCond .lt 40, 3, px_x0), (66, .iload 4, 2, px_x0), (68, .ifCond .lt 35, 3, px_x0), (71, .iload 5, 2, px_x0), (73, .ifCond .lt 30, 3, px_x0), (76, .iload 5, 2, px_x0), (78, .aload_n 0, 1, px_x0), (79, .getfield 13, 3, (10, 1, [(11, 0)], 0, "AllSwornModel")), (82, .iload_n 1, 1, px_x0), (83, .iaload, 1, px_x0), (84, .iload_n 2, 1, px_x0), (85, .isub, 1, px_x0), (86, .if_icmp .gt 17, 3, px_x0), (89, .iload 5, 2, px_x0), (91, .aload_n 0, 1, px_x0), (92, .getfield 13, 3, (10, 1, [(11, 0)], 0, "AllSwornModel")), (95, .iload_n 3, 1, px_x0), (96, .iaload, 1, px_x0), (97, .iload 4, 2, px_x0), (99, .isub, 1, px_x0), (100, .if_icmp .le 9, 3, px_x0), (103, .aload_n 0, 1, px_x0), (104, .iconst 2, 1, px_x0), (105, .invokevirtual 59, 3, (33, 1, [(11, 141)], 0, "")), (108, .ireturn, 1, px_x0), (109, .iload 4, 2, px_x0), (111, .iload_n 2, 1, px_x0), (112, .if_icmp .le 7, 3, px_x0), (115, .iconst 1, 1, px_x0), (116, .goto 4, 3, px_x0), (119, .iconst 0, 1, px_x0), (120, .istore 6, 2, px_x0), (122, .iconst 0, 1, px_x0), (123, .istore 7, 2, px_x0), (125, .iload 7, 2, px_x0), (127, .iload 5, 2, px_x0), (129, .if_icmp .ge 57, 3, px_x0), (132, .iload 6, 2, px_x0), (134, .ifCond .eq 13, 3, px_x0), (137, .iload 5, 2, px_x0), (139, .iconst 1, 1, px_x0), (140, .isub, 1, px_x0), (141, .iload 7, 2, px_x0), (143, .isub, 1, px_x0), (144, .goto 5, 3, px_x0), (147, .iload 7, 2, px_x0), (149, .istore 8, 2, px_x0), (151, .aload_n 0, 1, px_x0), (152, .getfield 16, 3, (10, 2, [(11, 0)], 0, "AllSwornModel")), (155, .bipush 40, 2, px_x0), (157, .iload_n 3, 1, px_x0), (158, .imul, 1, px_x0), (159, .iload 4, 2, px_x0), (161, .iadd, 1, px_x0), (162, .iload 8, 2, px_x0), (164, .iadd, 1, px_x0), (165, .aload_n 0, 1, px_x0), (166, .getfield 16, 3, (10, 2, [(11, 0)], 0, "AllSwornModel")), (169, .bipush 40, 2, px_x0), (171, .iload_n 1, 1, px_x0), (172, .imul, 1, px_x0), (173, .iload_n 2, 1, px_x0), (174, .iadd, 1, px_x0), (175, .iload 8, 2, px_x0), (177, .iadd, 1, px_x0), (178, .iaload, 1, px_x0), (179, .iastore, 1, px_x0), (180, .iinc 7 1, 3, px_x0), (183, .goto (-58), 3, px_x0), (186, .aload_n 0, 1, px_x0), (187, .iload 5, 2, px_x0), (189, .invokevirtual 63, 3, (33, 1, [(11, 142)], 0, "")), (192, .ireturn, 1, px_x0)])
def m_X12_drop : px_M := (yX12_drop, cX12_drop, 2, some .int, 0, [(0, .iload_n 1, 1, px_x0), (1, .invokestatic 54, 3, (30, 1, [(0, 143)], 0, "")), (4, .ifCond .ne 6, 3, px_x0), (7, .ldc 58, 2, (0, 0, [], (-1000001), "")), (9, .ireturn, 1, px_x0), (10, .aload_n 0, 1, px_x0), (11, .getfield 7, 3, (10, 0, [(11, 0)], 0, "AllSwornModel")), (14, .iload_n 1, 1, px_x0), (15, .iaload, 1, px_x0), (16, .ifCond .ne 9, 3, px_x0), (19, .aload_n 0, 1, px_x0), (20, .iconst 1, 1, px_x0), (21, .invokevirtual 59, 3, (33, 1, [(11, 141)], 0, "")), (24, .ireturn, 1, px_x0), (25, .aload_n 0, 1, px_x0), (26, .getfield 7, 3, (10, 0, [(11, 0)], 0, "AllSwornModel")), (29, .iload_n 1, 1, px_x0), (30, .iconst 0, 1, px_x0), (31, .iastore, 1, px_x0), (32, .aload_n 0, 1, px_x0), (33, .aload_n 0, 1, px_x0), (34, .getfield 13, 3, (10, 1, [(11, 0)], 0, "AllSwornModel")), (37, .iload_n 1, 1, px_x0), (38, .iaload, 1, px_x0), (39, .invokevirtual 63, 3, (33, 1, [(11, 142)], 0, "")), (42, .ireturn, 1, px_x0)])
def m_X12_status : px_M := (yX12_status, cX12_status, 1, some .int, 0, [(0, .aload_n 0, 1, px_x0), (1, .getfield 46, 3, (10, 3, [(11, 0)], 0, "AllSwornModel")), (4, .ireturn, 1, px_x0)])
def m_X12_get : px_M := (yX12_get, cX12_get, 2, some .int, 0, [(0, .aload_n 0, 1, px_x0), (1, .getfield 19, 3, (10, 4, [(11, 0)], 0, "AllSwornModel")), (4, .aload_n 0, 1, px_x0), (5, .getfield 66, 3, (10, 5, [(11, 0)], 0, "AllSwornModel")), (8, .iload_n 1, 1, px_x0), (9, .iadd, 1, px_x0), (10, .iaload, 1, px_x0), (11, .ireturn, 1, px_x0)])
def m_X12_put : px_M := (yX12_put, cX12_put, 3, none, 0, [(0, .aload_n 0, 1, px_x0), (1, .getfield 19, 3, (10, 4, [(11, 0)], 0, "AllSwornModel")), (4, .aload_n 0, 1, px_x0), (5, .getfield 66, 3, (10, 5, [(11, 0)], 0, "AllSwornModel")), (8, .iload_n 1, 1, px_x0), (9, .iadd, 1, px_x0), (10, .iload_n 2, 1, px_x0), (11, .iastore, 1, px_x0), (12, .return_, 1, px_x0)])
def m_X12_copyRealm : px_M := (yX12_copyRealm, cX12_copyRealm, 4, none, 0, [(0, .iconst 0, 1, px_x0), (1, .istore_n 3, 1, px_x0), (2, .iload_n 3, 1, px_x0), (3, .bipush 45, 2, px_x0), (5, .if_icmp .ge 31, 3, px_x0), (8, .aload_n 0, 1, px_x0), (9, .getfield 19, 3, (10, 4, [(11, 0)], 0, "AllSwornModel")), (12, .bipush 45, 2, px_x0), (14, .iload_n 2, 1, px_x0), (15, .imul, 1, px_x0), (16, .iload_n 3, 1, px_x0), (17, .iadd, 1, px_x0), (18, .aload_n 0, 1, px_x0), (19, .getfield 19, 3, (10, 4, [(11, 0)], 0, "AllSwornModel")), (22, .bipush 45, 2, px_x0), (24, .iload_n 1, 1, px_x0), (25, .imul, 1, px_x0), (26, .iload_n 3, 1, px_x0), (27, .iadd, 1, px_x0), (28, .iaload, 1, px_x0), (29, .iastore, 1, px_x0), (30, .iinc 3 1, 3, px_x0), (33, .goto (-31), 3, px_x0), (36, .return_, 1, px_x0)])
def m_X12_isThing : px_M := (yX12_isThing, cX12_isThing, 2, some .boolean, 0, [(0, .iload_n 1, 1, px_x0), (1, .iconst 0, 1, px_x0), (2, .aload_n 0, 1, px_x0), (3, .iconst 1, 1, px_x0), (4, .invokevirtual 69, 3, (33, 1, [(11, 149)], 0, "")), (7, .iconst 1, 1, px_x0), (8, .isub, 1, px_x0), (9, .invokestatic 50, 3, (30, 3, [(0, 140)], 0, "")), (12, .ireturn, 1, px_x0)])
def m_X12_isHarm : px_M := (yX12_isHarm, cX12_isHarm, 2, some .boolean, 0, [(0, .iload_n 1, 1, px_x0), (1, .iconst 0, 1, px_x0), (2, .aload_n 0, 1, px_x0), (3, .iconst 2, 1, px_x0), (4, .invokevirtual 69, 3, (33, 1, [(11, 149)], 0, "")), (7, .iconst 1, 1, px_x0), (8, .isub, 1, px_x0), (9, .invokestatic 50, 3, (30, 3, [(0, 140)], 0, "")), (12, .ireturn, 1, px_x0)])
def m_X12_ofThing : px_M := (yX12_ofThing, cX12_ofThing, 3, some .int, 0, [(0, .aload_n 0, 1, px_x0), (1, .iconst 5, 1, px_x0), (2, .iconst 4, 1, px_x0), (3, .iload_n 1, 1, px_x0), (4, .imul, 1, px_x0), (5, .iadd, 1, px_x0), (6, .iload_n 2, 1, px_x0), (7, .iadd, 1, px_x0), (8, .invokevirtual 69, 3, (33, 1, [(11, 149)], 0, "")), (11, .ireturn, 1, px_x0)])
def m_X12_feed : px_M := (yX12_feed, cX12_feed, 2, some .int, 0, [(0, .iload_n 1, 1, px_x0), (1, .iconst 0, 1, px_x0), (2, .sipush 255, 3, px_x0), (5, .invokestatic 50, 3, (30, 3, [(0, 140)], 0, "")), (8, .ifCond .ne 6, 3, px_x0), (11, .ldc 58, 2, (0, 0, [], (-1000001), "")), (13, .ireturn, 1, px_x0), (14, .aload_n 0, 1, px_x0), (15, .getfield 42, 3, (10, 10, [(11, 0)], 0, "AllSwornModel")), (18, .bipush 120, 2, px_x0), (20, .if_icmp .ne 6, 3, px_x0), (23, .ldc 72, 2, (0, 0, [], (-1000003), "")), (25, .ireturn, 1, px_x0), (26, .aload_n 0, 1, px_x0), (27, .getfield 29, 3, (10, 9, [(11, 0)], 0, "AllSwornModel")), (30, .aload_n 0, 1, px_x0), (31, .getfield 42, 3, (10, 10, [(11, 0)], 0, "AllSwornModel")), (34, .iload_n 1, 1, px_x0), (35, .i2b, 1, px_x0), (36, .bastore, 1, px_x0), (37, .aload_n 0, 1, px_x0), (38, .dup, 1, px_x0), (39, .getfield 42, 3, (10, 10, [(11, 0)], 0, "AllSwornModel")), (42, .iconst 1, 1, px_x0), (43, .iadd, 1, px_x0), (44, .putfield 42, 3, (10, 10, [(11, 0)], 0, "AllSwornModel")), (47, .aload_n 0, 1, px_x0), (48, .getfield 42, 3, (10, 10, [(11, 0)], 0, "AllSwornModel")), (51, .ireturn, 1, px_x0)])
def m_X12_here : px_M := (yX12_here, cX12_here, 1, some .int, 0, [(0, .aload_n 0, 1, px_x0), (1, .getfield 73, 3, (10, 11, [(11, 0)], 0, "AllSwornModel")), (4, .aload_n 0, 1, px_x0), (5, .getfield 42, 3, (10, 10, [(11, 0)], 0, "AllSwornModel")), (8, .if_icmp .ge 19, 3, px_x0), (11, .aload_n 0, 1, px_x0), (12, .getfield 29, 3, (10, 9, [(11, 0)], 0, "AllSwornModel")), (15, .aload_n 0, 1, px_x0), (16, .getfield 73, 3, (10, 11, [(11, 0)], 0, "AllSwornModel")), (19, .baload, 1, px_x0), (20, .sipush 255, 3, px_x0), (23, .iand, 1, px_x0), (24, .goto 4, 3, px_x0), (27, .iconst (-1), 1, px_x0), (28, .ireturn, 1, px_x0)])
def m_X12_next : px_M := (yX12_next, cX12_next, 2, none, 0, [(0, .aload_n 0, 1, px_x0), (1, .aload_n 0, 1, px_x0), (2, .getfield 73, 3, (10, 11, [(11, 0)], 0, "AllSwornModel")), (5, .putfield 76, 3, (10, 12, [(11, 0)], 0, "AllSwornModel")), (8, .aload_n 0, 1, px_x0), (9, .iconst 0, 1, px_x0), (10, .putfield 79, 3, (10, 14, [(11, 0)], 0, "AllSwornModel")), (13, .aload_n 0, 1, px_x0), (14, .invokevirtual 82, 3, (33, 0, [(11, 156)], 0, "")), (17, .istore_n 1, 1, px_x0), (18, .iload_n 1, 1, px_x0), (19, .ifCond .ge 11, 3, px_x0), (22, .aload_n 0, 1, px_x0), (23, .iconst 0, 1, px_x0), (24, .putfield 86, 3, (10, 13, [(11, 0)], 0, "AllSwornModel")), (27, .goto 147, 3, px_x0), (30, .iload_n 1, 1, px_x0), (31, .bipush 48, 2, px_x0), (33, .bipush 57, 2, px_x0), (35, .invokestatic 50, 3, (30, 3, [(0, 140)], 0, "")), (38, .ifCond .eq 94, 3, px_x0), (41, .aload_n 0, 1, px_x0), (42, .invokevirtual 82, 3, (33, 0, [(11, 156)], 0, "")), (45, .bipush 48, 2, px_x0), (47, .bipush 57, 2, px_x0), (49, .invokestatic 50, 3, (30, 3, [(0, 140)], 0, "")), (52, .ifCond .eq 55, 3, px_x0), (55, .aload_n 0, 1, px_x0), (56, .aload_n 0, 1, px_x0), (57, .getfield 73, 3, (10, 11, [(11, 0)], 0, "AllSwornModel")), (60, .aload_n 0, 1, px_x0), (61, .getfield 76, 3, (10, 12, [(11, 0)], 0, "AllSwornModel")), (64, .isub, 1, px_x0), (65, .iconst 3, 1, px_x0), (66, .if_icmp .ge 21, 3, px_x0), (69, .bipush 10, 2, px_x0), (71, .aload_n 0, 1, px_x0), (72, .getfield 79, 3, (10, 14, [(11, 0)], 0, "AllSwornModel")), (75, .imul, 1, px_x0), (76, .aload_n 0, 1, px_x0), (77, .invokevirtual 82, 3, (33, 0, [(11, 156)], 0, "")), (80, .iadd, 1, px_x0), (81, .bipush 48, 2, px_x0), (83, .isub, 1, px_x0), (84, .goto 7, 3, px_x0), (87, .aload_n 0, 1, px_x0), (88, .getfield 79, 3, (10, 14, [(11, 0)], 0, "AllSwornModel")), (91, .putfield 79, 3, (10, 14, [(11, 0)], 0, "AllSwornModel")), (94, .aload_n 0, 1, px_x0), (95, .dup, 1, px_x0), (96, .getfield 73, 3, (10, 11, [(11, 0)], 0, "AllSwornModel")), (99, .iconst 1, 1, px_x0), (100, .iadd, 1, px_x0), (101, .putfield 73, 3, (10, 11, [(11, 0)], 0, "AllSwornModel")), (104, .goto (-63), 3, px_x0), (107, .aload_n 0, 1, px_x0), (108, .aload_n 0, 1, px_x0), (109, .getfield 73, 3, (10, 11, [(11, 0)], 0, "AllSwornModel")), (112, .aload_n 0, 1, px_x0), (113, .getfield 76, 3, (10, 12, [(11, 0)], 0, "AllSwornModel")), (116, .isub, 1, px_x0), (117, .iconst 3, 1, px_x0), (118, .if_icmp .le 7, 3, px_x0), (121, .iconst (-1), 1, px_x0), (122, .goto 4, 3, px_x0), (125, .iconst 1, 1, px_x0), (126, .putfield 86, 3, (10, 13, [(11, 0)], 0, "AllSwornModel")), (129, .goto 45, 3, px_x0), (132, .aload_n 0, 1, px_x0), (133, .dup, 1, px_x0), (134, .getfield 73, 3, (10, 11, [(11, 0)], 0, "AllSwornModel")), (137, .iconst 1, 1, px_x0), (138, .iadd, 1, px_x0), (139, .putfield 73, 3, (10, 11, [(11, 0)], 0, "AllSwornModel")), (142, .aload_n 0, 1, px_x0), (143, .iload_n 1, 1, px_x0), (144, .bipush 97, 2, px_x0), (146, .bipush 122, 2, px_x0), (148, .invokestatic 50, 3, (30, 3, [(0, 140)], 0, "")), (151, .ifCond .ne 15, 3, px_x0), (154, .iload_n 1, 1, px_x0), (155, .bipush 44, 2, px_x0), (157, .if_icmp .eq 9, 3, px_x0), (160, .iload_n 1, 1, px_x0), (161, .bipush 59, 2, px_x0), (163, .if_icmp .ne 7, 3, px_x0), (166, .iload_n 1, 1, px_x0), (167, .goto 4, 3, px_x0), (170, .iconst (-1), 1, px_x0), (171, .putfield 86, 3, (10, 13, [(11, 0)], 0, "AllSwornModel")), (174, .return_, 1, px_x0)])
def m_X12_fails : px_M := (yX12_fails, cX12_fails, 2, none, 0, [(0, .aload_n 0, 1, px_x0), (1, .getfield 89, 3, (10, 15, [(11, 0)], 0, "AllSwornModel")), (4, .ifCond .ne 16, 3, px_x0), (7, .aload_n 0, 1, px_x0), (8, .iload_n 1, 1, px_x0), (9, .putfield 89, 3, (10, 15, [(11, 0)], 0, "AllSwornModel")), (12, .aload_n 0, 1, px_x0), (13, .aload_n 0, 1, px_x0), (14, .getfield 76, 3, (10, 12, [(11, 0)], 0, "AllSwornModel")), (17, .putfield 92, 3, (10, 16, [(11, 0)], 0, "AllSwornModel")), (20, .return_, 1, px_x0)])
def m_X12_sign : px_M := (yX12_sign, cX12_sign, 2, none, 0, [(0, .aload_n 0, 1, px_x0), (1, .getfield 89, 3, (10, 15, [(11, 0)], 0, "AllSwornModel")), (4, .ifCond .ne 23, 3, px_x0), (7, .aload_n 0, 1, px_x0), (8, .getfield 86, 3, (10, 13, [(11, 0)], 0, "AllSwornModel")), (11, .iload_n 1, 1, px_x0), (12, .if_icmp .ne 10, 3, px_x0), (15, .aload_n 0, 1, px_x0), (16, .invokevirtual 95, 3, (33, 0, [(11, 157)], 0, "")), (19, .goto 8, 3, px_x0), (22, .aload_n 0, 1, px_x0), (23, .iconst 1, 1, px_x0), (24, .invokevirtual 98, 3, (33, 1, [(11, 158)], 0, "")), (27, .return_, 1, px_x0)])
def m_X12_numberBut : px_M := (yX12_numberBut, cX12_numberBut, 5, some .int, 0, [(0, .aload_n 0, 1, px_x0), (1, .getfield 79, 3, (10, 14, [(11, 0)], 0, "AllSwornModel")), (4, .istore 4, 2, px_x0), (6, .aload_n 0, 1, px_x0), (7, .getfield 89, 3, (10, 15, [(11, 0)], 0, "AllSwornModel")), (10, .ifCond .ne 51, 3, px_x0), (13, .aload_n 0, 1, px_x0), (14, .getfield 86, 3, (10, 13, [(11, 0)], 0, "AllSwornModel")), (17, .iconst 1, 1, px_x0), (18, .if_icmp .eq 11, 3, px_x0), (21, .aload_n 0, 1, px_x0), (22, .iconst 1, 1, px_x0), (23, .invokevirtual 98, 3, (33, 1, [(11, 158)], 0, "")), (26, .goto 35, 3, px_x0), (29, .aload_n 0, 1, px_x0), (30, .getfield 79, 3, (10, 14, [(11, 0)], 0, "AllSwornModel")), (33, .iload_n 1, 1, px_x0), (34, .iload_n 2, 1, px_x0), (35, .invokestatic 50, 3, (30, 3, [(0, 140)], 0, "")), (38, .ifCond .eq 11, 3, px_x0), (41, .aload_n 0, 1, px_x0), (42, .getfield 79, 3, (10, 14, [(11, 0)], 0, "AllSwornModel")), (45, .iload_n 3, 1, px_x0), (46, .if_icmp .ne 11, 3, px_x0), (49, .aload_n 0, 1, px_x0), (50, .iconst 2, 1, px_x0), (51, .invokevirtual 98, 3, (33, 1, [(11, 158)], 0, "")), (54, .goto 7, 3, px_x0), (57, .aload_n 0, 1, px_x0), (58, .invokevirtual 95, 3, (33, 0, [(11, 157)], 0, "")), (61, .iload 4, 2, px_x0), (63, .ireturn, 1, px_x0)])
def m_X12_number : px_M := (yX12_number, cX12_number, 5, some .int, 0, [(0, .aload_n 0, 1, px_x0), (1, .iload_n 1, 1, px_x0), (2, .iload_n 2, 1, px_x0), (3, .iconst (-1), 1, px_x0), (4, .invokevirtual 102, 3, (33, 3, [(11, 160)], 0, "")), (7, .istore 4, 2, px_x0), (9, .aload_n 0, 1, px_x0), (10, .iload_n 3, 1, px_x0), (11, .invokevirtual 106, 3, (33, 1, [(11, 159)], 0, "")), (14, .iload 4, 2, px_x0), (16, .ireturn, 1, px_x0)])
def m_X12_kindOf : px_M := (yX12_kindOf, cX12_kindOf, 1, some .int, 0, [(0, .iload_n 0, 1, px_x0), (1, .bipush 112, 2, px_x0), (3, .if_icmp .ne 7, 3, px_x0), (6, .iconst 1, 1, px_x0), (7, .goto 44, 3, px_x0), (10, .iload_n 0, 1, px_x0), (11, .bipush 109, 2, px_x0), (13, .if_icmp .ne 7, 3, px_x0), (16, .iconst 2, 1, px_x0), (17, .goto 34, 3, px_x0), (20, .iload_n 0, 1, px_x0), (21, .bipush 121, 2, px_x0), (23, .if_icmp .ne 7, 3, px_x0), (26, .iconst 3, 1, px_x0), (27, .goto 24, 3, px_x0), (30, .iload_n 0, 1, px_x0), (31, .bipush 102, 2, px_x0), (33, .if_icmp .ne 7, 3, px_x0), (36, .iconst 4, 1, px_x0), (37, .goto 14, 3, px_x0), (40, .iload_n 0, 1, px_x0), (41, .bipush 108, 2, px_x0), (43, .if_icmp .ne 7, 3, px_x0), (46, .iconst 5, 1, px_x0), (47, .goto 4, 3, px_x0), (50, .iconst 0, 1, px_x0), (51, .ireturn, 1, px_x0)])
def m_X12_readThing : px_M := (yX12_readThing, cX12_readThing, 5, none, 0, [(0, .aload_n 0, 1, px_x0), (1, .getfield 86, 3, (10, 13, [(11, 0)], 0, "AllSwornModel")), (4, .invokestatic 109, 3, (30, 1, [(0, 162)], 0, "")), (7, .istore_n 1, 1, px_x0), (8, .aload_n 0, 1, px_x0), (9, .iconst 1, 1, px_x0), (10, .invokevirtual 69, 3, (33, 1, [(11, 149)], 0, "")), (13, .bipush 8, 2, px_x0), (15, .if_icmp .ne 9, 3, px_x0), (18, .aload_n 0, 1, px_x0), (19, .iconst 3, 1, px_x0), (20, .invokevirtual 98, 3, (33, 1, [(11, 158)], 0, "")), (23, .return_, 1, px_x0), (24, .aload_n 0, 1, px_x0), (25, .invokevirtual 95, 3, (33, 0, [(11, 157)], 0, "")), (28, .aload_n 0, 1, px_x0), (29, .iconst 0, 1, px_x0), (30, .bipush 9, 2, px_x0), (32, .bipush 44, 2, px_x0), (34, .invokevirtual 112, 3, (33, 3, [(11, 161)], 0, "")), (37, .istore_n 2, 1, px_x0), (38, .aload_n 0, 1, px_x0), (39, .iconst 0, 1, px_x0), (40, .bipush 20, 2, px_x0), (42, .bipush 59, 2, px_x0), (44, .invokevirtual 112, 3, (33, 3, [(11, 161)], 0, "")), (47, .istore_n 3, 1, px_x0), (48, .aload_n 0, 1, px_x0), (49, .getfield 89, 3, (10, 15, [(11, 0)], 0, "AllSwornModel")), (52, .ifCond .ne 63, 3, px_x0), (55, .iconst 5, 1, px_x0), (56, .iconst 4, 1, px_x0), (57, .aload_n 0, 1, px_x0), (58, .iconst 1, 1, px_x0), (59, .invokevirtual 69, 3, (33, 1, [(11, 149)], 0, "")), (62, .imul, 1, px_x0), (63, .iadd, 1, px_x0), (64, .istore 4, 2, px_x0), (66, .aload_n 0, 1, px_x0), (67, .iload 4, 2, px_x0), (69, .iconst 0, 1, px_x0), (70, .iadd, 1, px_x0), (71, .iload_n 1, 1, px_x0), (72, .invokevirtual 115, 3, (33, 2, [(11, 150)], 0, "")), (75, .aload_n 0, 1, px_x0), (76, .iload 4, 2, px_x0), (78, .iconst 1, 1, px_x0), (79, .iadd, 1, px_x0), (80, .iload_n 2, 1, px_x0), (81, .invokevirtual 115, 3, (33, 2, [(11, 150)], 0, "")), (84, .aload_n 0, 1, px_x0), (85, .iload 4, 2, px_x0), (87, .iconst 2, 1, px_x0), (88, .iadd, 1, px_x0), (89, .iload_n 3, 1, px_x0), (90, .invokevirtual 115, 3, (33, 2, [(11, 150)], 0, "")), (93, .aload_n 0, 1, px_x0), (94, .iload 4, 2, px_x0), (96, .iconst 3, 1, px_x0), (97, .iadd, 1, px_x0), (98, .ldc 119, 2, (0, 0, [], (-1000000), "")), (100, .invokevirtual 115, 3, (33, 2, [(11, 150)], 0, "")), (103, .aload_n 0, 1, px_x0), (104, .iconst 1, 1, px_x0), (105, .aload_n 0, 1, px_x0), (106, .iconst 1, 1, px_x0), (107, .invokevirtual 69, 3, (33, 1, [(11, 149)], 0, "")), (110, .iconst 1, 1, px_x0), (111, .iadd, 1, px_x0), (112, .invokevirtual 115, 3, (33, 2, [(11, 150)], 0, "")), (115, .return_, 1, px_x0)])
def m_X12_readHarm : px_M := (yX12_readHarm, cX12_readHarm, 2, none, 0, [(0, .aload_n 0, 1, px_x0), (1, .getfield 86, 3, (10, 13, [(11, 0)], 0, "AllSwornModel")), (4, .bipush 104, 2, px_x0), (6, .if_icmp .eq 9, 3, px_x0), (9, .aload_n 0, 1, px_x0), (10, .iconst 1, 1, px_x0), (11, .invokevirtual 98, 3, (33, 1, [(11, 158)], 0, "")), (14, .return_, 1, px_x0), (15, .aload_n 0, 1, px_x0), (16, .iconst 2, 1, px_x0), (17, .invokevirtual 69, 3, (33, 1, [(11, 149)], 0, "")), (20, .bipush 8, 2, px_x0), (22, .if_icmp .ne 9, 3, px_x0), (25, .aload_n 0, 1, px_x0), (26, .iconst 3, 1, px_x0), (27, .invokevirtual 98, 3, (33, 1, [(11, 158)], 0, "")), (30, .return_, 1, px_x0), (31, .aload_n 0, 1, px_x0), (32, .invokevirtual 95, 3, (33, 0, [(11, 157)], 0, "")), (35, .aload_n 0, 1, px_x0), (36, .iconst 1, 1, px_x0), (37, .iconst 1, 1, px_x0), (38, .aload_n 0, 1, px_x0), (39, .iconst 1, 1, px_x0), (40, .invokevirtual 69, 3, (33, 1, [(11, 149)], 0, "")), (43, .ishl, 1, px_x0), (44, .iconst 1, 1, px_x0), (45, .isub, 1, px_x0), (46, .bipush 59, 2, px_x0), (48, .invokevirtual 112, 3, (33, 3, [(11, 161)], 0, "")), (51, .istore_n 1, 1, px_x0), (52, .aload_n 0, 1, px_x0), (53, .getfield 89, 3, (10, 15, [(11, 0)], 0, "AllSwornModel")), (56, .ifCond .ne 28, 3, px_x0), (59, .aload_n 0, 1, px_x0), (60, .bipush 37, 2, px_x0), (62, .aload_n 0, 1, px_x0), (63, .iconst 2, 1, px_x0), (64, .invokevirtual 69, 3, (33, 1, [(11, 149)], 0, "")), (67, .iadd, 1, px_x0), (68, .iload_n 1, 1, px_x0), (69, .invokevirtual 115, 3, (33, 2, [(11, 150)], 0, "")), (72, .aload_n 0, 1, px_x0), (73, .iconst 2, 1, px_x0), (74, .aload_n 0, 1, px_x0), (75, .iconst 2, 1, px_x0), (76, .invokevirtual 69, 3, (33, 1, [(11, 149)], 0, "")), (79, .iconst 1, 1, px_x0), (80, .iadd, 1, px_x0), (81, .invokevirtual 115, 3, (33, 2, [(11, 150)], 0, "")), (84, .return_, 1, px_x0)])
def m_X12_realm : px_M := (yX12_realm, cX12_realm, 2, some .int, 0, [(0, .aload_n 0, 1, px_x0), (1, .sipush 135, 3, px_x0), (4, .putfield 66, 3, (10, 5, [(11, 0)], 0, "AllSwornModel")), (7, .iconst 0, 1, px_x0), (8, .istore_n 1, 1, px_x0), (9, .iload_n 1, 1, px_x0), (10, .bipush 45, 2, px_x0), (12, .if_icmp .ge 15, 3, px_x0), (15, .aload_n 0, 1, px_x0), (16, .iload_n 1, 1, px_x0), (17, .iconst 0, 1, px_x0), (18, .invokevirtual 115, 3, (33, 2, [(11, 150)], 0, "")), (21, .iinc 1 1, 3, px_x0), (24, .goto (-15), 3, px_x0), (27, .aload_n 0, 1, px_x0), (28, .iconst 0, 1, px_x0), (29, .putfield 73, 3, (10, 11, [(11, 0)], 0, "AllSwornModel")), (32, .aload_n 0, 1, px_x0), (33, .iconst 0, 1, px_x0), (34, .putfield 89, 3, (10, 15, [(11, 0)], 0, "AllSwornModel")), (37, .aload_n 0, 1, px_x0), (38, .invokevirtual 95, 3, (33, 0, [(11, 157)], 0, "")), (41, .aload_n 0, 1, px_x0), (42, .bipush 98, 2, px_x0), (44, .invokevirtual 106, 3, (33, 1, [(11, 159)], 0, "")), (47, .aload_n 0, 1, px_x0), (48, .iconst 0, 1, px_x0), (49, .aload_n 0, 1, px_x0), (50, .iconst 1, 1, px_x0), (51, .bipush 40, 2, px_x0), (53, .bipush 59, 2, px_x0), (55, .invokevirtual 112, 3, (33, 3, [(11, 161)], 0, "")), (58, .invokevirtual 115, 3, (33, 2, [(11, 150)], 0, "")), (61, .aload_n 0, 1, px_x0), (62, .getfield 89, 3, (10, 15, [(11, 0)], 0, "AllSwornModel")), (65, .ifCond .ne 20, 3, px_x0), (68, .aload_n 0, 1, px_x0), (69, .getfield 86, 3, (10, 13, [(11, 0)], 0, "AllSwornModel")), (72, .invokestatic 109, 3, (30, 1, [(0, 162)], 0, "")), (75, .ifCond .le 10, 3, px_x0), (78, .aload_n 0, 1, px_x0), (79, .invokevirtual 120, 3, (33, 0, [(11, 163)], 0, "")), (82, .goto (-21), 3, px_x0), (85, .aload_n 0, 1, px_x0), (86, .getfield 89, 3, (10, 15, [(11, 0)], 0, "AllSwornModel")), (89, .ifCond .ne 17, 3, px_x0), (92, .aload_n 0, 1, px_x0), (93, .getfield 86, 3, (10, 13, [(11, 0)], 0, "AllSwornModel")), (96, .ifCond .eq 10, 3, px_x0), (99, .aload_n 0, 1, px_x0), (100, .invokevirtual 123, 3, (33, 0, [(11, 164)], 0, "")), (103, .goto (-18), 3, px_x0), (106, .aload_n 0, 1, px_x0), (107, .iconst 0, 1, px_x0), (108, .putfield 66, 3, (10, 5, [(11, 0)], 0, "AllSwornModel")), (111, .aload_n 0, 1, px_x0), (112, .iconst 0, 1, px_x0), (113, .putfield 42, 3, (10, 10, [(11, 0)], 0, "AllSwornModel")), (116, .aload_n 0, 1, px_x0), (117, .getfield 89, 3, (10, 15, [(11, 0)], 0, "AllSwornModel")), (120, .ifCond .eq 19, 3, px_x0), (123, .aload_n 0, 1, px_x0), (124, .aload_n 0, 1, px_x0), (125, .getfield 89, 3, (10, 15, [(11, 0)], 0, "AllSwornModel")), (128, .putfield 126, 3, (10, 17, [(11, 0)], 0, "AllSwornModel")), (131, .ldc 129, 2, (0, 0, [], (-1000100), "")), (133, .aload_n 0, 1, px_x0), (134, .getfield 92, 3, (10, 16, [(11, 0)], 0, "AllSwornModel")), (137, .isub, 1, px_x0), (138, .ireturn, 1, px_x0), (139, .aload_n 0, 1, px_x0), (140, .iconst 3, 1, px_x0), (141, .iconst 0, 1, px_x0), (142, .invokevirtual 130, 3, (33, 2, [(11, 151)], 0, "")), (145, .aload_n 0, 1, px_x0), (146, .iconst 0, 1, px_x0), (147, .putfield 133, 3, (10, 8, [(11, 0)], 0, "AllSwornModel")), (150, .aload_n 0, 1, px_x0), (151, .getfield 19, 3, (10, 4, [(11, 0)], 0, "AllSwornModel")), (154, .iconst 1, 1, px_x0), (155, .iaload, 1, px_x0), (156, .ireturn, 1, px_x0)])
def m_X12_fault : px_M := (yX12_fault, cX12_fault, 1, some .int, 0, [(0, .aload_n 0, 1, px_x0), (1, .getfield 126, 3, (10, 17, [(11, 0)], 0, "AllSwornModel")), (4, .ireturn, 1, px_x0)])
def m_X12_asSworn : px_M := (yX12_asSworn, cX12_asSworn, 2, none, 0, [(0, .iconst 0, 1, px_x0), (1, .istore_n 1, 1, px_x0), (2, .iload_n 1, 1, px_x0), (3, .aload_n 0, 1, px_x0), (4, .iconst 1, 1, px_x0), (5, .invokevirtual 69, 3, (33, 1, [(11, 149)], 0, "")), (8, .if_icmp .ge 21, 3, px_x0), (11, .aload_n 0, 1, px_x0), (12, .getfield 33, 3, (10, 18, [(11, 0)], 0, "AllSwornModel")), (15, .iload_n 1, 1, px_x0), (16, .aload_n 0, 1, px_x0), (17, .iload_n 1, 1, px_x0), (18, .iconst 3, 1, px_x0), (19, .invokevirtual 136, 3, (33, 2, [(11, 154)], 0, "")), (22, .iastore, 1, px_x0), (23, .iinc 1 1, 3, px_x0), (26, .goto (-24), 3, px_x0), (29, .return_, 1, px_x0)])
def m_X12_boundOn : px_M := (yX12_boundOn, cX12_boundOn, 8, some .int, 0, [(0, .iconst 0, 1, px_x0), (1, .istore_n 3, 1, px_x0), (2, .iconst 0, 1, px_x0), (3, .istore 4, 2, px_x0), (5, .iload 4, 2, px_x0), (7, .aload_n 0, 1, px_x0), (8, .iconst 1, 1, px_x0), (9, .invokevirtual 69, 3, (33, 1, [(11, 149)], 0, "")), (12, .if_icmp .ge 119, 3, px_x0), (15, .aload_n 0, 1, px_x0), (16, .iload 4, 2, px_x0), (18, .iconst 0, 1, px_x0), (19, .invokevirtual 136, 3, (33, 2, [(11, 154)], 0, "")), (22, .istore 5, 2, px_x0), (24, .aload_n 0, 1, px_x0), (25, .getfield 33, 3, (10, 18, [(11, 0)], 0, "AllSwornModel")), (28, .iload 4, 2, px_x0), (30, .iaload, 1, px_x0), (31, .ldc 119, 2, (0, 0, [], (-1000000), "")), (33, .if_icmp .eq 32, 3, px_x0), (36, .iload_n 1, 1, px_x0), (37, .aload_n 0, 1, px_x0), (38, .getfield 33, 3, (10, 18, [(11, 0)], 0, "AllSwornModel")), (41, .iload 4, 2, px_x0), (43, .iaload, 1, px_x0), (44, .aload_n 0, 1, px_x0), (45, .getfield 33, 3, (10, 18, [(11, 0)], 0, "AllSwornModel")), (48, .iload 4, 2, px_x0), (50, .iaload, 1, px_x0), (51, .iload_n 2, 1, px_x0), (52, .iadd, 1, px_x0), (53, .iconst 1, 1, px_x0), (54, .isub, 1, px_x0), (55, .invokestatic 50, 3, (30, 3, [(0, 140)], 0, "")), (58, .ifCond .eq 7, 3, px_x0), (61, .iconst 1, 1, px_x0), (62, .goto 4, 3, px_x0), (65, .iconst 0, 1, px_x0), (66, .istore 6, 2, px_x0), (68, .iload 6, 2, px_x0), (70, .ifCond .eq 36, 3, px_x0), (73, .iload 5, 2, px_x0), (75, .iconst 5, 1, px_x0), (76, .if_icmp .eq 30, 3, px_x0), (79, .iload 5, 2, px_x0), (81, .iconst 2, 1, px_x0), (82, .if_icmp .ne 20, 3, px_x0), (85, .iload 4, 2, px_x0), (87, .ifCond .eq 15, 3, px_x0), (90, .iload_n 3, 1, px_x0), (91, .iload 4, 2, px_x0), (93, .iconst 1, 1, px_x0), (94, .isub, 1, px_x0), (95, .ishr, 1, px_x0), (96, .iconst 1, 1, px_x0), (97, .iand, 1, px_x0), (98, .iconst 1, 1, px_x0), (99, .if_icmp .ne 7, 3, px_x0), (102, .iconst 1, 1, px_x0), (103, .goto 4, 3, px_x0), (106, .iconst 0, 1, px_x0), (107, .istore 7, 2, px_x0), (109, .iload_n 3, 1, px_x0), (110, .iload 7, 2, px_x0), (112, .ifCond .eq 10, 3, px_x0), (115, .iconst 1, 1, px_x0), (116, .iload 4, 2, px_x0), (118, .ishl, 1, px_x0), (119, .goto 4, 3, px_x0), (122, .iconst 0, 1, px_x0), (123, .ior, 1, px_x0), (124, .istore_n 3, 1, px_x0), (125, .iinc 4 1, 3, px_x0), (128, .goto (-123), 3, px_x0), (131, .iload_n 3, 1, px_x0), (132, .ireturn, 1, px_x0)])
def m_X12_openBy : px_M := (yX12_openBy, cX12_openBy, 4, some .int, 0, [(0, .iconst 0, 1, px_x0), (1, .istore_n 2, 1, px_x0), (2, .iconst 0, 1, px_x0), (3, .istore_n 3, 1, px_x0), (4, .iload_n 3, 1, px_x0), (5, .aload_n 0, 1, px_x0), (6, .iconst 2, 1, px_x0), (7, .invokevirtual 69, 3, (33, 1, [(11, 149)], 0, "")), (10, .if_icmp .ge 32, 3, px_x0), (13, .iload_n 2, 1, px_x0), (14, .aload_n 0, 1, px_x0), (15, .bipush 37, 2, px_x0), (17, .iload_n 3, 1, px_x0), (18, .iadd, 1, px_x0), (19, .invokevirtual 69, 3, (33, 1, [(11, 149)], 0, "")), (22, .iload_n 1, 1, px_x0), (23, .iand, 1, px_x0), (24, .ifCond .ne 9, 3, px_x0), (27, .iconst 1, 1, px_x0), (28, .iload_n 3, 1, px_x0), (29, .ishl, 1, px_x0), (30, .goto 4, 3, px_x0), (33, .iconst 0, 1, px_x0), (34, .ior, 1, px_x0), (35, .istore_n 2, 1, px_x0), (36, .iinc 3 1, 3, px_x0), (39, .goto (-35), 3, px_x0), (42, .iload_n 2, 1, px_x0), (43, .ireturn, 1, px_x0)])
def m_X12_openOn : px_M := (yX12_openOn, cX12_openOn, 2, some .int, 0, [(0, .aload_n 0, 1, px_x0), (1, .aload_n 0, 1, px_x0), (2, .iload_n 1, 1, px_x0), (3, .aload_n 0, 1, px_x0), (4, .iconst 0, 1, px_x0), (5, .invokevirtual 69, 3, (33, 1, [(11, 149)], 0, "")), (8, .invokevirtual 140, 3, (33, 2, [(11, 168)], 0, "")), (11, .invokevirtual 143, 3, (33, 1, [(11, 169)], 0, "")), (14, .ireturn, 1, px_x0)])
def m_X12_openAsSworn : px_M := (yX12_openAsSworn, cX12_openAsSworn, 2, some .int, 0, [(0, .aload_n 0, 1, px_x0), (1, .invokevirtual 146, 3, (33, 0, [(11, 167)], 0, "")), (4, .aload_n 0, 1, px_x0), (5, .iload_n 1, 1, px_x0), (6, .invokevirtual 149, 3, (33, 1, [(11, 170)], 0, "")), (9, .ireturn, 1, px_x0)])
def m_X12_wayOf : px_M := (yX12_wayOf, cX12_wayOf, 3, some .int, 0, [(0, .aload_n 0, 1, px_x0), (1, .iload_n 1, 1, px_x0), (2, .iconst 0, 1, px_x0), (3, .invokevirtual 136, 3, (33, 2, [(11, 154)], 0, "")), (6, .iconst 3, 1, px_x0), (7, .if_icmp .le 7, 3, px_x0), (10, .iconst 4, 1, px_x0), (11, .goto 4, 3, px_x0), (14, .iconst 2, 1, px_x0), (15, .aload_n 0, 1, px_x0), (16, .iload_n 1, 1, px_x0), (17, .iconst 1, 1, px_x0), (18, .invokevirtual 136, 3, (33, 2, [(11, 154)], 0, "")), (21, .imul, 1, px_x0), (22, .istore_n 2, 1, px_x0), (23, .iload_n 2, 1, px_x0), (24, .ifCond .ne 7, 3, px_x0), (27, .iconst 1, 1, px_x0), (28, .goto 4, 3, px_x0), (31, .iload_n 2, 1, px_x0), (32, .ireturn, 1, px_x0)])
def m_X12_wouldSwear : px_M := (yX12_wouldSwear, cX12_wouldSwear, 3, some .boolean, 0, [(0, .aload_n 0, 1, px_x0), (1, .iload_n 1, 1, px_x0), (2, .iconst 0, 1, px_x0), (3, .invokevirtual 136, 3, (33, 2, [(11, 154)], 0, "")), (6, .iconst 3, 1, px_x0), (7, .if_icmp .ne 9, 3, px_x0), (10, .iload_n 2, 1, px_x0), (11, .bipush 10, 2, px_x0), (13, .if_icmp .lt 7, 3, px_x0), (16, .iconst 1, 1, px_x0), (17, .goto 4, 3, px_x0), (20, .iconst 0, 1, px_x0), (21, .ireturn, 1, px_x0)])
def m_X12_know : px_M := (yX12_know, cX12_know, 3, none, 0, [(0, .aload_n 0, 1, px_x0), (1, .getfield 133, 3, (10, 8, [(11, 0)], 0, "AllSwornModel")), (4, .bipush 24, 2, px_x0), (6, .if_icmp .ne 41, 3, px_x0), (9, .iconst 0, 1, px_x0), (10, .istore_n 2, 1, px_x0), (11, .iload_n 2, 1, px_x0), (12, .bipush 92, 2, px_x0), (14, .if_icmp .ge 23, 3, px_x0), (17, .aload_n 0, 1, px_x0), (18, .getfield 26, 3, (10, 7, [(11, 0)], 0, "AllSwornModel")), (21, .iload_n 2, 1, px_x0), (22, .aload_n 0, 1, px_x0), (23, .getfield 26, 3, (10, 7, [(11, 0)], 0, "AllSwornModel")), (26, .iconst 4, 1, px_x0), (27, .iload_n 2, 1, px_x0), (28, .iadd, 1, px_x0), (29, .iaload, 1, px_x0), (30, .iastore, 1, px_x0), (31, .iinc 2 1, 3, px_x0), (34, .goto (-23), 3, px_x0), (37, .aload_n 0, 1, px_x0), (38, .dup, 1, px_x0), (39, .getfield 133, 3, (10, 8, [(11, 0)], 0, "AllSwornModel")), (42, .iconst 1, 1, px_x0), (43, .isub, 1, px_x0), (44, .putfield 133, 3, (10, 8, [(11, 0)], 0, "AllSwornModel")), (47, .aload_n 0, 1, px_x0), (48, .getfield 26, 3, (10, 7, [(11, 0)], 0, "AllSwornModel")), (51, .iconst 4, 1, px_x0), (52, .aload_n 0, 1, px_x0), (53, .getfield 133, 3, (10, 8, [(11, 0)], 0, "AllSwornModel")), (56, .imul, 1, px_x0), (57, .aload_n 0, 1, px_x0), (58, .iconst 3, 1, px_x0), (59, .invokevirtual 69, 3, (33, 1, [(11, 149)], 0, "")), (62, .iastore, 1, px_x0), (63, .aload_n 0, 1, px_x0), (64, .getfield 26, 3, (10, 7, [(11, 0)], 0, "AllSwornModel")), (67, .iconst 4, 1, px_x0), (68, .aload_n 0, 1, px_x0), (69, .getfield 133, 3, (10, 8, [(11, 0)], 0, "AllSwornModel")), (72, .imul, 1, px_x0), (73, .iconst 1, 1, px_x0), (74, .iadd, 1, px_x0), (75, .aload_n 0, 1, px_x0), (76, .iconst 4, 1, px_x0), (77, .invokevirtual 69, 3, (33, 1, [(11, 149)], 0, "")), (80, .iastore, 1, px_x0), (81, .aload_n 0, 1, px_x0), (82, .getfield 26, 3, (10, 7, [(11, 0)], 0, "AllSwornModel")), (85, .iconst 4, 1, px_x0), (86, .aload_n 0, 1, px_x0), (87, .getfield 133, 3, (10, 8, [(11, 0)], 0, "AllSwornModel")), (90, .imul, 1, px_x0), (91, .iconst 2, 1, px_x0), (92, .iadd, 1, px_x0), (93, .iload_n 1, 1, px_x0), (94, .iastore, 1, px_x0), (95, .aload_n 0, 1, px_x0), (96, .getfield 26, 3, (10, 7, [(11, 0)], 0, "AllSwornModel")), (99, .iconst 4, 1, px_x0), (100, .aload_n 0, 1, px_x0), (101, .getfield 133, 3, (10, 8, [(11, 0)], 0, "AllSwornModel")), (104, .imul, 1, px_x0), (105, .iconst 3, 1, px_x0), (106, .iadd, 1, px_x0), (107, .iload_n 1, 1, px_x0), (108, .ldc 119, 2, (0, 0, [], (-1000000), "")), (110, .if_icmp .ne 7, 3, px_x0), (113, .iconst 0, 1, px_x0), (114, .goto 9, 3, px_x0), (117, .aload_n 0, 1, px_x0), (118, .iload_n 1, 1, px_x0), (119, .iconst 3, 1, px_x0), (120, .invokevirtual 136, 3, (33, 2, [(11, 154)], 0, "")), (123, .iastore, 1, px_x0), (124, .aload_n 0, 1, px_x0), (125, .dup, 1, px_x0), (126, .getfield 133, 3, (10, 8, [(11, 0)], 0, "AllSwornModel")), (129, .iconst 1, 1, px_x0), (130, .iadd, 1, px_x0), (131, .putfield 133, 3, (10, 8, [(11, 0)], 0, "AllSwornModel")), (134, .return_, 1, px_x0)])
def m_X12_hasRealm : px_M := (yX12_hasRealm, cX12_hasRealm, 1, some .boolean, 0, [(0, .aload_n 0, 1, px_x0), (1, .iconst 0, 1, px_x0), (2, .invokevirtual 69, 3, (33, 1, [(11, 149)], 0, "")), (5, .ifCond .le 7, 3, px_x0), (8, .iconst 1, 1, px_x0), (9, .goto 4, 3, px_x0), (12, .iconst 0, 1, px_x0), (13, .ireturn, 1, px_x0)])
def m_X12_askFor : px_M := (yX12_askFor, cX12_askFor, 3, some .int, 0, [(0, .aload_n 0, 1, px_x0), (1, .iload_n 1, 1, px_x0), (2, .invokevirtual 152, 3, (33, 1, [(11, 152)], 0, "")), (5, .ifCond .ne 6, 3, px_x0), (8, .ldc 58, 2, (0, 0, [], (-1000001), "")), (10, .ireturn, 1, px_x0), (11, .aload_n 0, 1, px_x0), (12, .iconst 3, 1, px_x0), (13, .invokevirtual 69, 3, (33, 1, [(11, 149)], 0, "")), (16, .aload_n 0, 1, px_x0), (17, .iload_n 1, 1, px_x0), (18, .invokevirtual 155, 3, (33, 1, [(11, 172)], 0, "")), (21, .iadd, 1, px_x0), (22, .istore_n 2, 1, px_x0), (23, .iload_n 2, 1, px_x0), (24, .sipush 999, 3, px_x0), (27, .if_icmp .le 6, 3, px_x0), (30, .ldc 72, 2, (0, 0, [], (-1000003), "")), (32, .ireturn, 1, px_x0), (33, .aload_n 0, 1, px_x0), (34, .iload_n 1, 1, px_x0), (35, .invokevirtual 158, 3, (33, 1, [(11, 174)], 0, "")), (38, .aload_n 0, 1, px_x0), (39, .iconst 3, 1, px_x0), (40, .iload_n 2, 1, px_x0), (41, .invokevirtual 115, 3, (33, 2, [(11, 150)], 0, "")), (44, .aload_n 0, 1, px_x0), (45, .iload_n 1, 1, px_x0), (46, .iload_n 2, 1, px_x0), (47, .invokevirtual 161, 3, (33, 2, [(11, 173)], 0, "")), (50, .ifCond .eq 15, 3, px_x0), (53, .aload_n 0, 1, px_x0), (54, .iconst 5, 1, px_x0), (55, .iconst 4, 1, px_x0), (56, .iload_n 1, 1, px_x0), (57, .imul, 1, px_x0), (58, .iadd, 1, px_x0), (59, .iconst 3, 1, px_x0), (60, .iadd, 1, px_x0), (61, .iload_n 2, 1, px_x0), (62, .invokevirtual 115, 3, (33, 2, [(11, 150)], 0, "")), (65, .iload_n 2, 1, px_x0), (66, .ireturn, 1, px_x0)])
def m_X12_tries : px_M := (yX12_tries, cX12_tries, 3, some .int, 0, [(0, .aload_n 0, 1, px_x0), (1, .iload_n 1, 1, px_x0), (2, .invokevirtual 165, 3, (33, 1, [(11, 153)], 0, "")), (5, .ifCond .ne 6, 3, px_x0), (8, .ldc 58, 2, (0, 0, [], (-1000001), "")), (10, .ireturn, 1, px_x0), (11, .aload_n 0, 1, px_x0), (12, .aload_n 0, 1, px_x0), (13, .iconst 3, 1, px_x0), (14, .invokevirtual 69, 3, (33, 1, [(11, 149)], 0, "")), (17, .invokevirtual 168, 3, (33, 1, [(11, 171)], 0, "")), (20, .iload_n 1, 1, px_x0), (21, .ishr, 1, px_x0), (22, .iconst 1, 1, px_x0), (23, .iand, 1, px_x0), (24, .istore_n 2, 1, px_x0), (25, .aload_n 0, 1, px_x0), (26, .ldc 119, 2, (0, 0, [], (-1000000), "")), (28, .invokevirtual 158, 3, (33, 1, [(11, 174)], 0, "")), (31, .aload_n 0, 1, px_x0), (32, .iconst 4, 1, px_x0), (33, .aload_n 0, 1, px_x0), (34, .iconst 4, 1, px_x0), (35, .invokevirtual 69, 3, (33, 1, [(11, 149)], 0, "")), (38, .iload_n 2, 1, px_x0), (39, .iadd, 1, px_x0), (40, .invokevirtual 115, 3, (33, 2, [(11, 150)], 0, "")), (43, .iload_n 2, 1, px_x0), (44, .ireturn, 1, px_x0)])
def m_X12_waits : px_M := (yX12_waits, cX12_waits, 2, some .int, 0, [(0, .aload_n 0, 1, px_x0), (1, .invokevirtual 171, 3, (33, 0, [(11, 175)], 0, "")), (4, .ifCond .ne 6, 3, px_x0), (7, .ldc 175, 2, (0, 0, [], (-1000002), "")), (9, .ireturn, 1, px_x0), (10, .iload_n 1, 1, px_x0), (11, .iconst 1, 1, px_x0), (12, .bipush 60, 2, px_x0), (14, .invokestatic 50, 3, (30, 3, [(0, 140)], 0, "")), (17, .ifCond .ne 6, 3, px_x0), (20, .ldc 58, 2, (0, 0, [], (-1000001), "")), (22, .ireturn, 1, px_x0), (23, .aload_n 0, 1, px_x0), (24, .iconst 3, 1, px_x0), (25, .invokevirtual 69, 3, (33, 1, [(11, 149)], 0, "")), (28, .iload_n 1, 1, px_x0), (29, .iadd, 1, px_x0), (30, .sipush 999, 3, px_x0), (33, .if_icmp .le 6, 3, px_x0), (36, .ldc 72, 2, (0, 0, [], (-1000003), "")), (38, .ireturn, 1, px_x0), (39, .aload_n 0, 1, px_x0), (40, .ldc 119, 2, (0, 0, [], (-1000000), "")), (42, .invokevirtual 158, 3, (33, 1, [(11, 174)], 0, "")), (45, .aload_n 0, 1, px_x0), (46, .iconst 3, 1, px_x0), (47, .aload_n 0, 1, px_x0), (48, .iconst 3, 1, px_x0), (49, .invokevirtual 69, 3, (33, 1, [(11, 149)], 0, "")), (52, .iload_n 1, 1, px_x0), (53, .iadd, 1, px_x0), (54, .invokevirtual 115, 3, (33, 2, [(11, 150)], 0, "")), (57, .aload_n 0, 1, px_x0), (58, .iconst 3, 1, px_x0), (59, .invokevirtual 69, 3, (33, 1, [(11, 149)], 0, "")), (62, .ireturn, 1, px_x0)])
def m_X12_undo : px_M := (yX12_undo, cX12_undo, 2, some .int, 0, [(0, .aload_n 0, 1, px_x0), (1, .getfield 133, 3, (10, 8, [(11, 0)], 0, "AllSwornModel")), (4, .ifCond .ne 6, 3, px_x0), (7, .ldc 175, 2, (0, 0, [], (-1000002), "")), (9, .ireturn, 1, px_x0), (10, .aload_n 0, 1, px_x0), (11, .dup, 1, px_x0), (12, .getfield 133, 3, (10, 8, [(11, 0)], 0, "AllSwornModel")), (15, .iconst 1, 1, px_x0), (16, .isub, 1, px_x0), (17, .putfield 133, 3, (10, 8, [(11, 0)], 0, "AllSwornModel")), (20, .aload_n 0, 1, px_x0), (21, .iconst 3, 1, px_x0), (22, .aload_n 0, 1, px_x0), (23, .getfield 26, 3, (10, 7, [(11, 0)], 0, "AllSwornModel")), (26, .iconst 4, 1, px_x0), (27, .aload_n 0, 1, px_x0), (28, .getfield 133, 3, (10, 8, [(11, 0)], 0, "AllSwornModel")), (31, .imul, 1, px_x0), (32, .iaload, 1, px_x0), (33, .invokevirtual 115, 3, (33, 2, [(11, 150)], 0, "")), (36, .aload_n 0, 1, px_x0), (37, .iconst 4, 1, px_x0), (38, .aload_n 0, 1, px_x0), (39, .getfield 26, 3, (10, 7, [(11, 0)], 0, "AllSwornModel")), (42, .iconst 4, 1, px_x0), (43, .aload_n 0, 1, px_x0), (44, .getfield 133, 3, (10, 8, [(11, 0)], 0, "AllSwornModel")), (47, .imul, 1, px_x0), (48, .iconst 1, 1, px_x0), (49, .iadd, 1, px_x0), (50, .iaload, 1, px_x0), (51, .invokevirtual 115, 3, (33, 2, [(11, 150)], 0, "")), (54, .aload_n 0, 1, px_x0), (55, .getfield 26, 3, (10, 7, [(11, 0)], 0, "AllSwornModel")), (58, .iconst 4, 1, px_x0), (59, .aload_n 0, 1, px_x0), (60, .getfield 133, 3, (10, 8, [(11, 0)], 0, "AllSwornModel")), (63, .imul, 1, px_x0), (64, .iconst 2, 1, px_x0), (65, .iadd, 1, px_x0), (66, .iaload, 1, px_x0), (67, .istore_n 1, 1, px_x0), (68, .iload_n 1, 1, px_x0), (69, .ldc 119, 2, (0, 0, [], (-1000000), "")), (71, .if_icmp .eq 27, 3, px_x0), (74, .aload_n 0, 1, px_x0), (75, .iconst 5, 1, px_x0), (76, .iconst 4, 1, px_x0), (77, .iload_n 1, 1, px_x0), (78, .imul, 1, px_x0), (79, .iadd, 1, px_x0), (80, .iconst 3, 1, px_x0), (81, .iadd, 1, px_x0), (82, .aload_n 0, 1, px_x0), (83, .getfield 26, 3, (10, 7, [(11, 0)], 0, "AllSwornModel")), (86, .iconst 4, 1, px_x0), (87, .aload_n 0, 1, px_x0), (88, .getfield 133, 3, (10, 8, [(11, 0)], 0, "AllSwornModel")), (91, .imul, 1, px_x0), (92, .iconst 3, 1, px_x0), (93, .iadd, 1, px_x0), (94, .iaload, 1, px_x0), (95, .invokevirtual 115, 3, (33, 2, [(11, 150)], 0, "")), (98, .aload_n 0, 1, px_x0), (99, .getfield 133, 3, (10, 8, [(11, 0)], 0, "AllSwornModel")), (102, .ireturn, 1, px_x0)])
def m_X12_sumOf : px_M := (yX12_sumOf, cX12_sumOf, 4, some .int, 0, [(0, .iconst 0, 1, px_x0), (1, .istore_n 2, 1, px_x0), (2, .iconst 0, 1, px_x0), (3, .istore_n 3, 1, px_x0), (4, .iload_n 3, 1, px_x0), (5, .aload_n 0, 1, px_x0), (6, .iconst 1, 1, px_x0), (7, .invokevirtual 69, 3, (33, 1, [(11, 149)], 0, "")), (10, .if_icmp .ge 24, 3, px_x0), (13, .iload_n 2, 1, px_x0), (14, .iload_n 1, 1, px_x0), (15, .iload_n 3, 1, px_x0), (16, .ishr, 1, px_x0), (17, .iconst 1, 1, px_x0), (18, .iand, 1, px_x0), (19, .aload_n 0, 1, px_x0), (20, .iload_n 3, 1, px_x0), (21, .iconst 2, 1, px_x0), (22, .invokevirtual 136, 3, (33, 2, [(11, 154)], 0, "")), (25, .imul, 1, px_x0), (26, .iadd, 1, px_x0), (27, .istore_n 2, 1, px_x0), (28, .iinc 3 1, 3, px_x0), (31, .goto (-27), 3, px_x0), (34, .iload_n 2, 1, px_x0), (35, .ireturn, 1, px_x0)])
def m_X12_thing : px_M := (yX12_thing, cX12_thing, 3, some .int, 0, [(0, .aload_n 0, 1, px_x0), (1, .iload_n 1, 1, px_x0), (2, .invokevirtual 152, 3, (33, 1, [(11, 152)], 0, "")), (5, .ifCond .ne 6, 3, px_x0), (8, .ldc 58, 2, (0, 0, [], (-1000001), "")), (10, .ireturn, 1, px_x0), (11, .aload_n 0, 1, px_x0), (12, .invokevirtual 146, 3, (33, 0, [(11, 167)], 0, "")), (15, .iload_n 2, 1, px_x0), (16, .tableswitch 70 0 4 #[36, 36, 36, 45, 64], 36, px_x0), (52, .aload_n 0, 1, px_x0), (53, .iload_n 1, 1, px_x0), (54, .iconst 1, 1, px_x0), (55, .iload_n 2, 1, px_x0), (56, .iadd, 1, px_x0), (57, .invokevirtual 136, 3, (33, 2, [(11, 154)], 0, "")), (60, .ireturn, 1, px_x0), (61, .aload_n 0, 1, px_x0), (62, .aload_n 0, 1, px_x0), (63, .iconst 3, 1, px_x0), (64, .invokevirtual 69, 3, (33, 1, [(11, 149)], 0, "")), (67, .aload_n 0, 1, px_x0), (68, .iconst 0, 1, px_x0), (69, .invokevirtual 69, 3, (33, 1, [(11, 149)], 0, "")), (72, .invokevirtual 140, 3, (33, 2, [(11, 168)], 0, "")), (75, .iload_n 1, 1, px_x0), (76, .ishr, 1, px_x0), (77, .iconst 1, 1, px_x0), (78, .iand, 1, px_x0), (79, .ireturn, 1, px_x0), (80, .aload_n 0, 1, px_x0), (81, .iload_n 1, 1, px_x0), (82, .invokevirtual 155, 3, (33, 1, [(11, 172)], 0, "")), (85, .ireturn, 1, px_x0), (86, .ldc 58, 2, (0, 0, [], (-1000001), "")), (88, .ireturn, 1, px_x0)])
def m_X12_harm : px_M := (yX12_harm, cX12_harm, 4, some .int, 0, [(0, .aload_n 0, 1, px_x0), (1, .iload_n 1, 1, px_x0), (2, .invokevirtual 165, 3, (33, 1, [(11, 153)], 0, "")), (5, .ifCond .eq 12, 3, px_x0), (8, .iload_n 2, 1, px_x0), (9, .iconst 0, 1, px_x0), (10, .iconst 2, 1, px_x0), (11, .invokestatic 50, 3, (30, 3, [(0, 140)], 0, "")), (14, .ifCond .ne 6, 3, px_x0), (17, .ldc 58, 2, (0, 0, [], (-1000001), "")), (19, .ireturn, 1, px_x0), (20, .aload_n 0, 1, px_x0), (21, .bipush 37, 2, px_x0), (23, .iload_n 1, 1, px_x0), (24, .iadd, 1, px_x0), (25, .invokevirtual 69, 3, (33, 1, [(11, 149)], 0, "")), (28, .istore_n 3, 1, px_x0), (29, .iload_n 2, 1, px_x0), (30, .ifCond .ne 7, 3, px_x0), (33, .iload_n 3, 1, px_x0), (34, .goto 31, 3, px_x0), (37, .iload_n 2, 1, px_x0), (38, .iconst 2, 1, px_x0), (39, .if_icmp .ne 11, 3, px_x0), (42, .aload_n 0, 1, px_x0), (43, .iload_n 3, 1, px_x0), (44, .invokevirtual 176, 3, (33, 1, [(11, 180)], 0, "")), (47, .goto 18, 3, px_x0), (50, .iconst 1, 1, px_x0), (51, .aload_n 0, 1, px_x0), (52, .aload_n 0, 1, px_x0), (53, .iconst 3, 1, px_x0), (54, .invokevirtual 69, 3, (33, 1, [(11, 149)], 0, "")), (57, .invokevirtual 168, 3, (33, 1, [(11, 171)], 0, "")), (60, .iload_n 1, 1, px_x0), (61, .ishr, 1, px_x0), (62, .iconst 1, 1, px_x0), (63, .iand, 1, px_x0), (64, .isub, 1, px_x0), (65, .ireturn, 1, px_x0)])
def m_X12_isDay : px_M := (yX12_isDay, cX12_isDay, 2, some .boolean, 0, [(0, .iload_n 1, 1, px_x0), (1, .aload_n 0, 1, px_x0), (2, .iconst 3, 1, px_x0), (3, .invokevirtual 69, 3, (33, 1, [(11, 149)], 0, "")), (6, .aload_n 0, 1, px_x0), (7, .iconst 3, 1, px_x0), (8, .invokevirtual 69, 3, (33, 1, [(11, 149)], 0, "")), (11, .bipush 100, 2, px_x0), (13, .iadd, 1, px_x0), (14, .invokestatic 50, 3, (30, 3, [(0, 140)], 0, "")), (17, .ireturn, 1, px_x0)])
def m_X12_open : px_M := (yX12_open, cX12_open, 2, some .int, 0, [(0, .aload_n 0, 1, px_x0), (1, .invokevirtual 171, 3, (33, 0, [(11, 175)], 0, "")), (4, .ifCond .ne 6, 3, px_x0), (7, .ldc 175, 2, (0, 0, [], (-1000002), "")), (9, .ireturn, 1, px_x0), (10, .aload_n 0, 1, px_x0), (11, .iload_n 1, 1, px_x0), (12, .invokevirtual 179, 3, (33, 1, [(11, 183)], 0, "")), (15, .ifCond .eq 11, 3, px_x0), (18, .aload_n 0, 1, px_x0), (19, .iload_n 1, 1, px_x0), (20, .invokevirtual 168, 3, (33, 1, [(11, 171)], 0, "")), (23, .goto 5, 3, px_x0), (26, .ldc 58, 2, (0, 0, [], (-1000001), "")), (28, .ireturn, 1, px_x0)])
def m_X12_gap : px_M := (yX12_gap, cX12_gap, 2, some .int, 0, [(0, .aload_n 0, 1, px_x0), (1, .invokevirtual 171, 3, (33, 0, [(11, 175)], 0, "")), (4, .ifCond .ne 6, 3, px_x0), (7, .ldc 175, 2, (0, 0, [], (-1000002), "")), (9, .ireturn, 1, px_x0), (10, .aload_n 0, 1, px_x0), (11, .iconst 3, 1, px_x0), (12, .invokevirtual 69, 3, (33, 1, [(11, 149)], 0, "")), (15, .istore_n 1, 1, px_x0), (16, .iload_n 1, 1, px_x0), (17, .aload_n 0, 1, px_x0), (18, .iconst 3, 1, px_x0), (19, .invokevirtual 69, 3, (33, 1, [(11, 149)], 0, "")), (22, .bipush 100, 2, px_x0), (24, .iadd, 1, px_x0), (25, .if_icmp .gt 19, 3, px_x0), (28, .aload_n 0, 1, px_x0), (29, .iload_n 1, 1, px_x0), (30, .invokevirtual 168, 3, (33, 1, [(11, 171)], 0, "")), (33, .ifCond .eq 5, 3, px_x0), (36, .iload_n 1, 1, px_x0), (37, .ireturn, 1, px_x0), (38, .iinc 1 1, 3, px_x0), (41, .goto (-25), 3, px_x0), (44, .ldc 119, 2, (0, 0, [], (-1000000), "")), (46, .ireturn, 1, px_x0)])
def m_X12_manyOf : px_M := (yX12_manyOf, cX12_manyOf, 3, some .int, 0, [(0, .iconst 0, 1, px_x0), (1, .istore_n 1, 1, px_x0), (2, .iconst 0, 1, px_x0), (3, .istore_n 2, 1, px_x0), (4, .iload_n 2, 1, px_x0), (5, .bipush 8, 2, px_x0), (7, .if_icmp .ge 17, 3, px_x0), (10, .iload_n 1, 1, px_x0), (11, .iload_n 0, 1, px_x0), (12, .iload_n 2, 1, px_x0), (13, .ishr, 1, px_x0), (14, .iconst 1, 1, px_x0), (15, .iand, 1, px_x0), (16, .iadd, 1, px_x0), (17, .istore_n 1, 1, px_x0), (18, .iinc 2 1, 3, px_x0), (21, .goto (-17), 3, px_x0), (24, .iload_n 1, 1, px_x0), (25, .ireturn, 1, px_x0)])
def m_X12_covers : px_M := (yX12_covers, cX12_covers, 4, some .boolean, 0, [(0, .aload_n 0, 1, px_x0), (1, .invokevirtual 146, 3, (33, 0, [(11, 167)], 0, "")), (4, .iconst 1, 1, px_x0), (5, .istore_n 2, 1, px_x0), (6, .iconst 0, 1, px_x0), (7, .istore_n 3, 1, px_x0), (8, .iload_n 3, 1, px_x0), (9, .aload_n 0, 1, px_x0), (10, .iconst 1, 1, px_x0), (11, .invokevirtual 69, 3, (33, 1, [(11, 149)], 0, "")), (14, .if_icmp .ge 52, 3, px_x0), (17, .iload_n 1, 1, px_x0), (18, .iload_n 3, 1, px_x0), (19, .ishr, 1, px_x0), (20, .iconst 1, 1, px_x0), (21, .iand, 1, px_x0), (22, .iconst 1, 1, px_x0), (23, .if_icmp .ne 37, 3, px_x0), (26, .iload_n 2, 1, px_x0), (27, .ifCond .eq 20, 3, px_x0), (30, .aload_n 0, 1, px_x0), (31, .iload_n 3, 1, px_x0), (32, .aload_n 0, 1, px_x0), (33, .iconst 3, 1, px_x0), (34, .invokevirtual 69, 3, (33, 1, [(11, 149)], 0, "")), (37, .invokevirtual 161, 3, (33, 2, [(11, 173)], 0, "")), (40, .ifCond .eq 7, 3, px_x0), (43, .iconst 1, 1, px_x0), (44, .goto 4, 3, px_x0), (47, .iconst 0, 1, px_x0), (48, .istore_n 2, 1, px_x0), (49, .aload_n 0, 1, px_x0), (50, .getfield 33, 3, (10, 18, [(11, 0)], 0, "AllSwornModel")), (53, .iload_n 3, 1, px_x0), (54, .aload_n 0, 1, px_x0), (55, .iconst 3, 1, px_x0), (56, .invokevirtual 69, 3, (33, 1, [(11, 149)], 0, "")), (59, .iastore, 1, px_x0), (60, .iinc 3 1, 3, px_x0), (63, .goto (-55), 3, px_x0), (66, .iload_n 2, 1, px_x0), (67, .ifCond .eq 19, 3, px_x0), (70, .aload_n 0, 1, px_x0), (71, .aload_n 0, 1, px_x0), (72, .iconst 3, 1, px_x0), (73, .invokevirtual 69, 3, (33, 1, [(11, 149)], 0, "")), (76, .invokevirtual 149, 3, (33, 1, [(11, 170)], 0, "")), (79, .ifCond .ne 7, 3, px_x0), (82, .iconst 1, 1, px_x0), (83, .goto 4, 3, px_x0), (86, .iconst 0, 1, px_x0), (87, .ireturn, 1, px_x0)])
def m_X12_cover : px_M := (yX12_cover, cX12_cover, 5, some .int, 0, [(0, .aload_n 0, 1, px_x0), (1, .invokevirtual 171, 3, (33, 0, [(11, 175)], 0, "")), (4, .ifCond .ne 6, 3, px_x0), (7, .ldc 175, 2, (0, 0, [], (-1000002), "")), (9, .ireturn, 1, px_x0), (10, .iload_n 1, 1, px_x0), (11, .iconst 0, 1, px_x0), (12, .iconst 1, 1, px_x0), (13, .invokestatic 50, 3, (30, 3, [(0, 140)], 0, "")), (16, .ifCond .ne 6, 3, px_x0), (19, .ldc 58, 2, (0, 0, [], (-1000001), "")), (21, .ireturn, 1, px_x0), (22, .ldc 119, 2, (0, 0, [], (-1000000), "")), (24, .istore_n 2, 1, px_x0), (25, .iconst 0, 1, px_x0), (26, .istore_n 3, 1, px_x0), (27, .iload_n 3, 1, px_x0), (28, .iconst 1, 1, px_x0), (29, .aload_n 0, 1, px_x0), (30, .iconst 1, 1, px_x0), (31, .invokevirtual 69, 3, (33, 1, [(11, 149)], 0, "")), (34, .ishl, 1, px_x0), (35, .if_icmp .ge 52, 3, px_x0), (38, .iload_n 2, 1, px_x0), (39, .ldc 119, 2, (0, 0, [], (-1000000), "")), (41, .if_icmp .eq 14, 3, px_x0), (44, .iload_n 3, 1, px_x0), (45, .invokestatic 182, 3, (30, 1, [(0, 186)], 0, "")), (48, .iload_n 2, 1, px_x0), (49, .invokestatic 182, 3, (30, 1, [(0, 186)], 0, "")), (52, .if_icmp .ge 7, 3, px_x0), (55, .iconst 1, 1, px_x0), (56, .goto 4, 3, px_x0), (59, .iconst 0, 1, px_x0), (60, .istore 4, 2, px_x0), (62, .iload 4, 2, px_x0), (64, .ifCond .eq 15, 3, px_x0), (67, .aload_n 0, 1, px_x0), (68, .iload_n 3, 1, px_x0), (69, .invokevirtual 185, 3, (33, 1, [(11, 187)], 0, "")), (72, .ifCond .eq 7, 3, px_x0), (75, .iload_n 3, 1, px_x0), (76, .goto 4, 3, px_x0), (79, .iload_n 2, 1, px_x0), (80, .istore_n 2, 1, px_x0), (81, .iinc 3 1, 3, px_x0), (84, .goto (-57), 3, px_x0), (87, .iload_n 2, 1, px_x0), (88, .ldc 119, 2, (0, 0, [], (-1000000), "")), (90, .if_icmp .eq 8, 3, px_x0), (93, .iload_n 1, 1, px_x0), (94, .iconst 1, 1, px_x0), (95, .if_icmp .ne 7, 3, px_x0), (98, .iload_n 2, 1, px_x0), (99, .goto 7, 3, px_x0), (102, .iload_n 2, 1, px_x0), (103, .invokestatic 182, 3, (30, 1, [(0, 186)], 0, "")), (106, .ireturn, 1, px_x0)])
def m_X12_goesRound : px_M := (yX12_goesRound, cX12_goesRound, 7, some .boolean, 0, [(0, .iload_n 1, 1, px_x0), (1, .istore_n 3, 1, px_x0), (2, .iconst 0, 1, px_x0), (3, .istore 4, 2, px_x0), (5, .iconst 1, 1, px_x0), (6, .istore 5, 2, px_x0), (8, .iload_n 2, 1, px_x0), (9, .iconst 1, 1, px_x0), (10, .isub, 1, px_x0), (11, .istore 6, 2, px_x0), (13, .iload 6, 2, px_x0), (15, .ifCond .lt 80, 3, px_x0), (18, .aload_n 0, 1, px_x0), (19, .getfield 36, 3, (10, 19, [(11, 0)], 0, "AllSwornModel")), (22, .iload 6, 2, px_x0), (24, .iload_n 3, 1, px_x0), (25, .bipush 8, 2, px_x0), (27, .irem, 1, px_x0), (28, .iastore, 1, px_x0), (29, .iload_n 3, 1, px_x0), (30, .bipush 8, 2, px_x0), (32, .idiv, 1, px_x0), (33, .istore_n 3, 1, px_x0), (34, .iload 5, 2, px_x0), (36, .ifCond .eq 36, 3, px_x0), (39, .aload_n 0, 1, px_x0), (40, .aload_n 0, 1, px_x0), (41, .getfield 36, 3, (10, 19, [(11, 0)], 0, "AllSwornModel")), (44, .iload 6, 2, px_x0), (46, .iaload, 1, px_x0), (47, .invokevirtual 152, 3, (33, 1, [(11, 152)], 0, "")), (50, .ifCond .eq 22, 3, px_x0), (53, .iload 4, 2, px_x0), (55, .aload_n 0, 1, px_x0), (56, .getfield 36, 3, (10, 19, [(11, 0)], 0, "AllSwornModel")), (59, .iload 6, 2, px_x0), (61, .iaload, 1, px_x0), (62, .ishr, 1, px_x0), (63, .iconst 1, 1, px_x0), (64, .iand, 1, px_x0), (65, .ifCond .ne 7, 3, px_x0), (68, .iconst 1, 1, px_x0), (69, .goto 4, 3, px_x0), (72, .iconst 0, 1, px_x0), (73, .istore 5, 2, px_x0), (75, .iload 4, 2, px_x0), (77, .iconst 1, 1, px_x0), (78, .aload_n 0, 1, px_x0), (79, .getfield 36, 3, (10, 19, [(11, 0)], 0, "AllSwornModel")), (82, .iload 6, 2, px_x0), (84, .iaload, 1, px_x0), (85, .ishl, 1, px_x0), (86, .ior, 1, px_x0), (87, .istore 4, 2, px_x0), (89, .iinc 6 (-1), 3, px_x0), (92, .goto (-79), 3, px_x0), (95, .aload_n 0, 1, px_x0), (96, .iconst 0, 1, px_x0), (97, .putfield 188, 3, (10, 20, [(11, 0)], 0, "AllSwornModel")), (100, .iload 5, 2, px_x0), (102, .ifCond .ne 5, 3, px_x0), (105, .iconst 0, 1, px_x0), (106, .ireturn, 1, px_x0), (107, .aload_n 0, 1, px_x0), (108, .invokevirtual 146, 3, (33, 0, [(11, 167)], 0, "")), (111, .iconst 0, 1, px_x0), (112, .istore 6, 2, px_x0), (114, .iload 6, 2, px_x0), (116, .iload_n 2, 1, px_x0), (117, .if_icmp .ge 75, 3, px_x0), (120, .aload_n 0, 1, px_x0), (121, .dup, 1, px_x0), (122, .getfield 188, 3, (10, 20, [(11, 0)], 0, "AllSwornModel")), (125, .aload_n 0, 1, px_x0), (126, .aload_n 0, 1, px_x0), (127, .getfield 36, 3, (10, 19, [(11, 0)], 0, "AllSwornModel")), (130, .iload 6, 2, px_x0), (132, .iaload, 1, px_x0), (133, .invokevirtual 155, 3, (33, 1, [(11, 172)], 0, "")), (136, .iadd, 1, px_x0), (137, .putfield 188, 3, (10, 20, [(11, 0)], 0, "AllSwornModel")), (140, .aload_n 0, 1, px_x0), (141, .aload_n 0, 1, px_x0), (142, .getfield 36, 3, (10, 19, [(11, 0)], 0, "AllSwornModel")), (145, .iload 6, 2, px_x0), (147, .iaload, 1, px_x0), (148, .aload_n 0, 1, px_x0), (149, .iconst 3, 1, px_x0), (150, .invokevirtual 69, 3, (33, 1, [(11, 149)], 0, "")), (153, .aload_n 0, 1, px_x0), (154, .getfield 188, 3, (10, 20, [(11, 0)], 0, "AllSwornModel")), (157, .iadd, 1, px_x0), (158, .invokevirtual 161, 3, (33, 2, [(11, 173)], 0, "")), (161, .ifCond .eq 25, 3, px_x0), (164, .aload_n 0, 1, px_x0), (165, .getfield 33, 3, (10, 18, [(11, 0)], 0, "AllSwornModel")), (168, .aload_n 0, 1, px_x0), (169, .getfield 36, 3, (10, 19, [(11, 0)], 0, "AllSwornModel")), (172, .iload 6, 2, px_x0), (174, .iaload, 1, px_x0), (175, .aload_n 0, 1, px_x0), (176, .iconst 3, 1, px_x0), (177, .invokevirtual 69, 3, (33, 1, [(11, 149)], 0, "")), (180, .aload_n 0, 1, px_x0), (181, .getfield 188, 3, (10, 20, [(11, 0)], 0, "AllSwornModel")), (184, .iadd, 1, px_x0), (185, .iastore, 1, px_x0), (186, .iinc 6 1, 3, px_x0), (189, .goto (-75), 3, px_x0), (192, .aload_n 0, 1, px_x0), (193, .aload_n 0, 1, px_x0), (194, .iconst 3, 1, px_x0), (195, .invokevirtual 69, 3, (33, 1, [(11, 149)], 0, "")), (198, .aload_n 0, 1, px_x0), (199, .getfield 188, 3, (10, 20, [(11, 0)], 0, "AllSwornModel")), (202, .iadd, 1, px_x0), (203, .invokevirtual 149, 3, (33, 1, [(11, 170)], 0, "")), (206, .ifCond .ne 7, 3, px_x0), (209, .iconst 1, 1, px_x0), (210, .goto 4, 3, px_x0), (213, .iconst 0, 1, px_x0), (214, .ireturn, 1, px_x0)])
def m_X12_round : px_M := (yX12_round, cX12_round, 8, some .int, 0, [(0, .aload_n 0, 1, px_x0), (1, .invokevirtual 171, 3, (33, 0, [(11, 175)], 0, "")), (4, .ifCond .ne 6, 3, px_x0), (7, .ldc 175, 2, (0, 0, [], (-1000002), "")), (9, .ireturn, 1, px_x0), (10, .iload_n 1, 1, px_x0), (11, .bipush (-2), 2, px_x0), (13, .iconst 3, 1, px_x0), (14, .invokestatic 50, 3, (30, 3, [(0, 140)], 0, "")), (17, .ifCond .ne 6, 3, px_x0), (20, .ldc 58, 2, (0, 0, [], (-1000001), "")), (22, .ireturn, 1, px_x0), (23, .ldc 119, 2, (0, 0, [], (-1000000), "")), (25, .istore_n 2, 1, px_x0), (26, .ldc 119, 2, (0, 0, [], (-1000000), "")), (28, .istore_n 3, 1, px_x0), (29, .iconst 0, 1, px_x0), (30, .istore 4, 2, px_x0), (32, .iconst 1, 1, px_x0), (33, .istore 5, 2, px_x0), (35, .iconst 0, 1, px_x0), (36, .istore 6, 2, px_x0), (38, .iload 6, 2, px_x0), (40, .iconst 4, 1, px_x0), (41, .if_icmp .gt 69, 3, px_x0), (44, .iconst 0, 1, px_x0), (45, .istore 7, 2, px_x0), (47, .iload 7, 2, px_x0), (49, .iload 5, 2, px_x0), (51, .if_icmp .ge 46, 3, px_x0), (54, .aload_n 0, 1, px_x0), (55, .iload 7, 2, px_x0), (57, .iload 6, 2, px_x0), (59, .invokevirtual 191, 3, (33, 2, [(11, 189)], 0, "")), (62, .ifCond .eq 29, 3, px_x0), (65, .iload_n 3, 1, px_x0), (66, .ldc 119, 2, (0, 0, [], (-1000000), "")), (68, .if_icmp .eq 11, 3, px_x0), (71, .aload_n 0, 1, px_x0), (72, .getfield 188, 3, (10, 20, [(11, 0)], 0, "AllSwornModel")), (75, .iload_n 2, 1, px_x0), (76, .if_icmp .ge 15, 3, px_x0), (79, .iload 7, 2, px_x0), (81, .istore_n 3, 1, px_x0), (82, .iload 6, 2, px_x0), (84, .istore 4, 2, px_x0), (86, .aload_n 0, 1, px_x0), (87, .getfield 188, 3, (10, 20, [(11, 0)], 0, "AllSwornModel")), (90, .istore_n 2, 1, px_x0), (91, .iinc 7 1, 3, px_x0), (94, .goto (-47), 3, px_x0), (97, .iload 5, 2, px_x0), (99, .bipush 8, 2, px_x0), (101, .imul, 1, px_x0), (102, .istore 5, 2, px_x0), (104, .iinc 6 1, 3, px_x0), (107, .goto (-69), 3, px_x0), (110, .iload_n 3, 1, px_x0), (111, .ldc 119, 2, (0, 0, [], (-1000000), "")), (113, .if_icmp .eq 9, 3, px_x0), (116, .iload_n 1, 1, px_x0), (117, .bipush (-2), 2, px_x0), (119, .if_icmp .ne 5, 3, px_x0), (122, .iload_n 2, 1, px_x0), (123, .ireturn, 1, px_x0), (124, .iload_n 1, 1, px_x0), (125, .iconst (-1), 1, px_x0), (126, .if_icmp .ne 6, 3, px_x0), (129, .iload 4, 2, px_x0), (131, .ireturn, 1, px_x0), (132, .iload_n 3, 1, px_x0), (133, .istore 6, 2, px_x0), (135, .iload 4, 2, px_x0), (137, .iconst 1, 1, px_x0), (138, .isub, 1, px_x0), (139, .istore 7, 2, px_x0), (141, .iload 7, 2, px_x0), (143, .iload_n 1, 1, px_x0), (144, .if_icmp .le 16, 3, px_x0), (147, .iload 6, 2, px_x0), (149, .bipush 8, 2, px_x0), (151, .idiv, 1, px_x0), (152, .istore 6, 2, px_x0), (154, .iinc 7 (-1), 3, px_x0), (157, .goto (-16), 3, px_x0), (160, .iload_n 1, 1, px_x0), (161, .iload 4, 2, px_x0), (163, .if_icmp .ge 11, 3, px_x0), (166, .iload 6, 2, px_x0), (168, .bipush 8, 2, px_x0), (170, .irem, 1, px_x0), (171, .goto 5, 3, px_x0), (174, .ldc 119, 2, (0, 0, [], (-1000000), "")), (176, .ireturn, 1, px_x0)])
def m_X12_cheapestOf : px_M := (yX12_cheapestOf, cX12_cheapestOf, 6, some .int, 0, [(0, .aload_n 0, 1, px_x0), (1, .iload_n 1, 1, px_x0), (2, .invokevirtual 149, 3, (33, 1, [(11, 170)], 0, "")), (5, .istore_n 2, 1, px_x0), (6, .ldc 119, 2, (0, 0, [], (-1000000), "")), (8, .istore_n 3, 1, px_x0), (9, .iconst 0, 1, px_x0), (10, .istore 4, 2, px_x0), (12, .iload 4, 2, px_x0), (14, .aload_n 0, 1, px_x0), (15, .iconst 2, 1, px_x0), (16, .invokevirtual 69, 3, (33, 1, [(11, 149)], 0, "")), (19, .if_icmp .ge 72, 3, px_x0), (22, .iload_n 3, 1, px_x0), (23, .ldc 119, 2, (0, 0, [], (-1000000), "")), (25, .if_icmp .eq 31, 3, px_x0), (28, .aload_n 0, 1, px_x0), (29, .aload_n 0, 1, px_x0), (30, .bipush 37, 2, px_x0), (32, .iload 4, 2, px_x0), (34, .iadd, 1, px_x0), (35, .invokevirtual 69, 3, (33, 1, [(11, 149)], 0, "")), (38, .invokevirtual 176, 3, (33, 1, [(11, 180)], 0, "")), (41, .aload_n 0, 1, px_x0), (42, .aload_n 0, 1, px_x0), (43, .bipush 37, 2, px_x0), (45, .iload_n 3, 1, px_x0), (46, .iadd, 1, px_x0), (47, .invokevirtual 69, 3, (33, 1, [(11, 149)], 0, "")), (50, .invokevirtual 176, 3, (33, 1, [(11, 180)], 0, "")), (53, .if_icmp .ge 7, 3, px_x0), (56, .iconst 1, 1, px_x0), (57, .goto 4, 3, px_x0), (60, .iconst 0, 1, px_x0), (61, .istore 5, 2, px_x0), (63, .iload_n 2, 1, px_x0), (64, .iload 4, 2, px_x0), (66, .ishr, 1, px_x0), (67, .iconst 1, 1, px_x0), (68, .iand, 1, px_x0), (69, .iconst 1, 1, px_x0), (70, .if_icmp .ne 13, 3, px_x0), (73, .iload 5, 2, px_x0), (75, .ifCond .eq 8, 3, px_x0), (78, .iload 4, 2, px_x0), (80, .goto 4, 3, px_x0), (83, .iload_n 3, 1, px_x0), (84, .istore_n 3, 1, px_x0), (85, .iinc 4 1, 3, px_x0), (88, .goto (-76), 3, px_x0), (91, .iload_n 3, 1, px_x0), (92, .ireturn, 1, px_x0)])
def m_X12_cheapest : px_M := (yX12_cheapest, cX12_cheapest, 4, some .int, 0, [(0, .aload_n 0, 1, px_x0), (1, .invokevirtual 171, 3, (33, 0, [(11, 175)], 0, "")), (4, .ifCond .ne 6, 3, px_x0), (7, .ldc 175, 2, (0, 0, [], (-1000002), "")), (9, .ireturn, 1, px_x0), (10, .aload_n 0, 1, px_x0), (11, .iload_n 1, 1, px_x0), (12, .invokevirtual 179, 3, (33, 1, [(11, 183)], 0, "")), (15, .ifCond .eq 12, 3, px_x0), (18, .iload_n 2, 1, px_x0), (19, .iconst 0, 1, px_x0), (20, .iconst 1, 1, px_x0), (21, .invokestatic 50, 3, (30, 3, [(0, 140)], 0, "")), (24, .ifCond .ne 6, 3, px_x0), (27, .ldc 58, 2, (0, 0, [], (-1000001), "")), (29, .ireturn, 1, px_x0), (30, .aload_n 0, 1, px_x0), (31, .invokevirtual 146, 3, (33, 0, [(11, 167)], 0, "")), (34, .aload_n 0, 1, px_x0), (35, .iload_n 1, 1, px_x0), (36, .invokevirtual 194, 3, (33, 1, [(11, 191)], 0, "")), (39, .istore_n 3, 1, px_x0), (40, .iload_n 3, 1, px_x0), (41, .ldc 119, 2, (0, 0, [], (-1000000), "")), (43, .if_icmp .eq 7, 3, px_x0), (46, .iload_n 2, 1, px_x0), (47, .ifCond .ne 7, 3, px_x0), (50, .iload_n 3, 1, px_x0), (51, .goto 15, 3, px_x0), (54, .aload_n 0, 1, px_x0), (55, .aload_n 0, 1, px_x0), (56, .bipush 37, 2, px_x0), (58, .iload_n 3, 1, px_x0), (59, .iadd, 1, px_x0), (60, .invokevirtual 69, 3, (33, 1, [(11, 149)], 0, "")), (63, .invokevirtual 176, 3, (33, 1, [(11, 180)], 0, "")), (66, .ireturn, 1, px_x0)])
def m_X12_dearBy : px_M := (yX12_dearBy, cX12_dearBy, 5, some .int, 0, [(0, .aload_n 0, 1, px_x0), (1, .invokevirtual 146, 3, (33, 0, [(11, 167)], 0, "")), (4, .aload_n 0, 1, px_x0), (5, .iconst 3, 1, px_x0), (6, .invokevirtual 69, 3, (33, 1, [(11, 149)], 0, "")), (9, .aload_n 0, 1, px_x0), (10, .iload_n 1, 1, px_x0), (11, .invokevirtual 155, 3, (33, 1, [(11, 172)], 0, "")), (14, .iadd, 1, px_x0), (15, .istore_n 3, 1, px_x0), (16, .aload_n 0, 1, px_x0), (17, .getfield 33, 3, (10, 18, [(11, 0)], 0, "AllSwornModel")), (20, .iload_n 1, 1, px_x0), (21, .aload_n 0, 1, px_x0), (22, .iload_n 1, 1, px_x0), (23, .iload_n 3, 1, px_x0), (24, .invokevirtual 161, 3, (33, 2, [(11, 173)], 0, "")), (27, .ifCond .eq 7, 3, px_x0), (30, .iload_n 3, 1, px_x0), (31, .goto 9, 3, px_x0), (34, .aload_n 0, 1, px_x0), (35, .getfield 33, 3, (10, 18, [(11, 0)], 0, "AllSwornModel")), (38, .iload_n 1, 1, px_x0), (39, .iaload, 1, px_x0), (40, .iastore, 1, px_x0), (41, .aload_n 0, 1, px_x0), (42, .iload_n 2, 1, px_x0), (43, .iload_n 3, 1, px_x0), (44, .if_icmp .ge 7, 3, px_x0), (47, .iload_n 3, 1, px_x0), (48, .goto 4, 3, px_x0), (51, .iload_n 2, 1, px_x0), (52, .invokevirtual 194, 3, (33, 1, [(11, 191)], 0, "")), (55, .istore 4, 2, px_x0), (57, .iload 4, 2, px_x0), (59, .ldc 119, 2, (0, 0, [], (-1000000), "")), (61, .if_icmp .ne 9, 3, px_x0), (64, .sipush 1000, 3, px_x0), (67, .goto 16, 3, px_x0), (70, .aload_n 0, 1, px_x0), (71, .aload_n 0, 1, px_x0), (72, .bipush 37, 2, px_x0), (74, .iload 4, 2, px_x0), (76, .iadd, 1, px_x0), (77, .invokevirtual 69, 3, (33, 1, [(11, 149)], 0, "")), (80, .invokevirtual 176, 3, (33, 1, [(11, 180)], 0, "")), (83, .ireturn, 1, px_x0)])
def m_X12_defended : px_M := (yX12_defended, cX12_defended, 7, some .int, 0, [(0, .aload_n 0, 1, px_x0), (1, .invokevirtual 171, 3, (33, 0, [(11, 175)], 0, "")), (4, .ifCond .ne 6, 3, px_x0), (7, .ldc 175, 2, (0, 0, [], (-1000002), "")), (9, .ireturn, 1, px_x0), (10, .aload_n 0, 1, px_x0), (11, .iload_n 1, 1, px_x0), (12, .invokevirtual 179, 3, (33, 1, [(11, 183)], 0, "")), (15, .ifCond .eq 12, 3, px_x0), (18, .iload_n 2, 1, px_x0), (19, .iconst 0, 1, px_x0), (20, .iconst 1, 1, px_x0), (21, .invokestatic 50, 3, (30, 3, [(0, 140)], 0, "")), (24, .ifCond .ne 6, 3, px_x0), (27, .ldc 58, 2, (0, 0, [], (-1000001), "")), (29, .ireturn, 1, px_x0), (30, .ldc 119, 2, (0, 0, [], (-1000000), "")), (32, .istore_n 3, 1, px_x0), (33, .ldc 119, 2, (0, 0, [], (-1000000), "")), (35, .istore 4, 2, px_x0), (37, .iconst 0, 1, px_x0), (38, .istore 5, 2, px_x0), (40, .iload 5, 2, px_x0), (42, .aload_n 0, 1, px_x0), (43, .iconst 1, 1, px_x0), (44, .invokevirtual 69, 3, (33, 1, [(11, 149)], 0, "")), (47, .if_icmp .ge 48, 3, px_x0), (50, .aload_n 0, 1, px_x0), (51, .iload 5, 2, px_x0), (53, .iload_n 1, 1, px_x0), (54, .invokevirtual 197, 3, (33, 2, [(11, 193)], 0, "")), (57, .istore 6, 2, px_x0), (59, .iload 6, 2, px_x0), (61, .iload 4, 2, px_x0), (63, .if_icmp .le 8, 3, px_x0), (66, .iload 5, 2, px_x0), (68, .goto 4, 3, px_x0), (71, .iload_n 3, 1, px_x0), (72, .istore_n 3, 1, px_x0), (73, .iload 6, 2, px_x0), (75, .iload 4, 2, px_x0), (77, .if_icmp .le 8, 3, px_x0), (80, .iload 6, 2, px_x0), (82, .goto 5, 3, px_x0), (85, .iload 4, 2, px_x0), (87, .istore 4, 2, px_x0), (89, .iinc 5 1, 3, px_x0), (92, .goto (-52), 3, px_x0), (95, .iload_n 2, 1, px_x0), (96, .ifCond .ne 7, 3, px_x0), (99, .iload_n 3, 1, px_x0), (100, .goto 18, 3, px_x0), (103, .iload 4, 2, px_x0), (105, .sipush 1000, 3, px_x0), (108, .if_icmp .ne 8, 3, px_x0), (111, .ldc 119, 2, (0, 0, [], (-1000000), "")), (113, .goto 5, 3, px_x0), (116, .iload 4, 2, px_x0), (118, .ireturn, 1, px_x0)])
def m_X12_ofKinds : px_M := (yX12_ofKinds, cX12_ofKinds, 4, some .int, 0, [(0, .iconst 0, 1, px_x0), (1, .istore_n 2, 1, px_x0), (2, .iconst 0, 1, px_x0), (3, .istore_n 3, 1, px_x0), (4, .iload_n 3, 1, px_x0), (5, .aload_n 0, 1, px_x0), (6, .iconst 1, 1, px_x0), (7, .invokevirtual 69, 3, (33, 1, [(11, 149)], 0, "")), (10, .if_icmp .ge 26, 3, px_x0), (13, .iload_n 2, 1, px_x0), (14, .iload_n 1, 1, px_x0), (15, .aload_n 0, 1, px_x0), (16, .iload_n 3, 1, px_x0), (17, .iconst 0, 1, px_x0), (18, .invokevirtual 136, 3, (33, 2, [(11, 154)], 0, "")), (21, .iconst 1, 1, px_x0), (22, .isub, 1, px_x0), (23, .ishr, 1, px_x0), (24, .iconst 1, 1, px_x0), (25, .iand, 1, px_x0), (26, .iload_n 3, 1, px_x0), (27, .ishl, 1, px_x0), (28, .ior, 1, px_x0), (29, .istore_n 2, 1, px_x0), (30, .iinc 3 1, 3, px_x0), (33, .goto (-29), 3, px_x0), (36, .iload_n 2, 1, px_x0), (37, .ireturn, 1, px_x0)])
def m_X12_enough : px_M := (yX12_enough, cX12_enough, 5, some .int, 0, [(0, .aload_n 0, 1, px_x0), (1, .invokevirtual 171, 3, (33, 0, [(11, 175)], 0, "")), (4, .ifCond .ne 6, 3, px_x0), (7, .ldc 175, 2, (0, 0, [], (-1000002), "")), (9, .ireturn, 1, px_x0), (10, .iload_n 1, 1, px_x0), (11, .iconst 0, 1, px_x0), (12, .iconst 1, 1, px_x0), (13, .invokestatic 50, 3, (30, 3, [(0, 140)], 0, "")), (16, .ifCond .ne 6, 3, px_x0), (19, .ldc 58, 2, (0, 0, [], (-1000001), "")), (21, .ireturn, 1, px_x0), (22, .ldc 119, 2, (0, 0, [], (-1000000), "")), (24, .istore_n 2, 1, px_x0), (25, .iconst 0, 1, px_x0), (26, .istore_n 3, 1, px_x0), (27, .iload_n 3, 1, px_x0), (28, .bipush 32, 2, px_x0), (30, .if_icmp .ge 56, 3, px_x0), (33, .iload_n 2, 1, px_x0), (34, .ldc 119, 2, (0, 0, [], (-1000000), "")), (36, .if_icmp .eq 14, 3, px_x0), (39, .iload_n 3, 1, px_x0), (40, .invokestatic 182, 3, (30, 1, [(0, 186)], 0, "")), (43, .iload_n 2, 1, px_x0), (44, .invokestatic 182, 3, (30, 1, [(0, 186)], 0, "")), (47, .if_icmp .ge 7, 3, px_x0), (50, .iconst 1, 1, px_x0), (51, .goto 4, 3, px_x0), (54, .iconst 0, 1, px_x0), (55, .istore 4, 2, px_x0), (57, .iload 4, 2, px_x0), (59, .ifCond .eq 19, 3, px_x0), (62, .aload_n 0, 1, px_x0), (63, .aload_n 0, 1, px_x0), (64, .iload_n 3, 1, px_x0), (65, .invokevirtual 200, 3, (33, 1, [(11, 195)], 0, "")), (68, .invokevirtual 143, 3, (33, 1, [(11, 169)], 0, "")), (71, .ifCond .ne 7, 3, px_x0), (74, .iload_n 3, 1, px_x0), (75, .goto 4, 3, px_x0), (78, .iload_n 2, 1, px_x0), (79, .istore_n 2, 1, px_x0), (80, .iinc 3 1, 3, px_x0), (83, .goto (-56), 3, px_x0), (86, .iload_n 2, 1, px_x0), (87, .ldc 119, 2, (0, 0, [], (-1000000), "")), (89, .if_icmp .eq 8, 3, px_x0), (92, .iload_n 1, 1, px_x0), (93, .iconst 1, 1, px_x0), (94, .if_icmp .ne 7, 3, px_x0), (97, .iload_n 2, 1, px_x0), (98, .goto 7, 3, px_x0), (101, .iload_n 2, 1, px_x0), (102, .invokestatic 182, 3, (30, 1, [(0, 186)], 0, "")), (105, .ireturn, 1, px_x0)])
def m_X12_odds : px_M := (yX12_odds, cX12_odds, 10, some .int, 0, [(0, .aload_n 0, 1, px_x0), (1, .iload_n 1, 1, px_x0), (2, .invokevirtual 165, 3, (33, 1, [(11, 153)], 0, "")), (5, .ifCond .eq 22, 3, px_x0), (8, .iload_n 2, 1, px_x0), (9, .iconst 0, 1, px_x0), (10, .bipush 10, 2, px_x0), (12, .invokestatic 50, 3, (30, 3, [(0, 140)], 0, "")), (15, .ifCond .eq 12, 3, px_x0), (18, .iload_n 3, 1, px_x0), (19, .iconst 0, 1, px_x0), (20, .iconst 1, 1, px_x0), (21, .invokestatic 50, 3, (30, 3, [(0, 140)], 0, "")), (24, .ifCond .ne 6, 3, px_x0), (27, .ldc 58, 2, (0, 0, [], (-1000001), "")), (29, .ireturn, 1, px_x0), (30, .aload_n 0, 1, px_x0), (31, .invokevirtual 146, 3, (33, 0, [(11, 167)], 0, "")), (34, .aload_n 0, 1, px_x0), (35, .aload_n 0, 1, px_x0), (36, .iconst 3, 1, px_x0), (37, .invokevirtual 69, 3, (33, 1, [(11, 149)], 0, "")), (40, .aload_n 0, 1, px_x0), (41, .iconst 0, 1, px_x0), (42, .invokevirtual 69, 3, (33, 1, [(11, 149)], 0, "")), (45, .invokevirtual 140, 3, (33, 2, [(11, 168)], 0, "")), (48, .aload_n 0, 1, px_x0), (49, .bipush 37, 2, px_x0), (51, .iload_n 1, 1, px_x0), (52, .iadd, 1, px_x0), (53, .invokevirtual 69, 3, (33, 1, [(11, 149)], 0, "")), (56, .iand, 1, px_x0), (57, .istore 4, 2, px_x0), (59, .iconst 1, 1, px_x0), (60, .istore 5, 2, px_x0), (62, .iconst 1, 1, px_x0), (63, .istore 6, 2, px_x0), (65, .iload 4, 2, px_x0), (67, .invokestatic 182, 3, (30, 1, [(0, 186)], 0, "")), (70, .istore 7, 2, px_x0), (72, .iload 7, 2, px_x0), (74, .ifCond .le 22, 3, px_x0), (77, .iload 5, 2, px_x0), (79, .bipush 10, 2, px_x0), (81, .imul, 1, px_x0), (82, .istore 5, 2, px_x0), (84, .iload 6, 2, px_x0), (86, .iload_n 2, 1, px_x0), (87, .imul, 1, px_x0), (88, .istore 6, 2, px_x0), (90, .iinc 7 (-1), 3, px_x0), (93, .goto (-21), 3, px_x0), (96, .iload 5, 2, px_x0), (98, .iload 6, 2, px_x0), (100, .isub, 1, px_x0), (101, .istore 7, 2, px_x0), (103, .iload 5, 2, px_x0), (105, .istore 8, 2, px_x0), (107, .iload 8, 2, px_x0), (109, .ifCond .eq 21, 3, px_x0), (112, .iload 7, 2, px_x0), (114, .iload 8, 2, px_x0), (116, .irem, 1, px_x0), (117, .istore 9, 2, px_x0), (119, .iload 8, 2, px_x0), (121, .istore 7, 2, px_x0), (123, .iload 9, 2, px_x0), (125, .istore 8, 2, px_x0), (127, .goto (-20), 3, px_x0), (130, .iload_n 3, 1, px_x0), (131, .ifCond .ne 14, 3, px_x0), (134, .iload 5, 2, px_x0), (136, .iload 6, 2, px_x0), (138, .isub, 1, px_x0), (139, .iload 7, 2, px_x0), (141, .idiv, 1, px_x0), (142, .goto 8, 3, px_x0), (145, .iload 5, 2, px_x0), (147, .iload 7, 2, px_x0), (149, .idiv, 1, px_x0), (150, .ireturn, 1, px_x0)])
def m_X12_hitBy : px_M := (yX12_hitBy, cX12_hitBy, 7, some .int, 0, [(0, .aload_n 0, 1, px_x0), (1, .invokevirtual 171, 3, (33, 0, [(11, 175)], 0, "")), (4, .ifCond .ne 6, 3, px_x0), (7, .ldc 175, 2, (0, 0, [], (-1000002), "")), (9, .ireturn, 1, px_x0), (10, .iload_n 1, 1, px_x0), (11, .invokestatic 54, 3, (30, 1, [(0, 143)], 0, "")), (14, .ifCond .eq 13, 3, px_x0), (17, .iload_n 3, 1, px_x0), (18, .iconst 1, 1, px_x0), (19, .bipush 12, 2, px_x0), (21, .invokestatic 50, 3, (30, 3, [(0, 140)], 0, "")), (24, .ifCond .ne 6, 3, px_x0), (27, .ldc 58, 2, (0, 0, [], (-1000001), "")), (29, .ireturn, 1, px_x0), (30, .aload_n 0, 1, px_x0), (31, .getfield 7, 3, (10, 0, [(11, 0)], 0, "AllSwornModel")), (34, .iload_n 1, 1, px_x0), (35, .iaload, 1, px_x0), (36, .ifCond .ne 9, 3, px_x0), (39, .aload_n 0, 1, px_x0), (40, .iconst 1, 1, px_x0), (41, .invokevirtual 59, 3, (33, 1, [(11, 141)], 0, "")), (44, .ireturn, 1, px_x0), (45, .iload_n 2, 1, px_x0), (46, .ifCond .lt 15, 3, px_x0), (49, .iload_n 2, 1, px_x0), (50, .aload_n 0, 1, px_x0), (51, .getfield 13, 3, (10, 1, [(11, 0)], 0, "AllSwornModel")), (54, .iload_n 1, 1, px_x0), (55, .iaload, 1, px_x0), (56, .iload_n 3, 1, px_x0), (57, .isub, 1, px_x0), (58, .if_icmp .le 9, 3, px_x0), (61, .aload_n 0, 1, px_x0), (62, .iconst 2, 1, px_x0), (63, .invokevirtual 59, 3, (33, 1, [(11, 141)], 0, "")), (66, .ireturn, 1, px_x0), (67, .iconst 0, 1, px_x0), (68, .istore 4, 2, px_x0), (70, .iload 4, 2, px_x0), (72, .iload_n 3, 1, px_x0), (73, .if_icmp .ge 34, 3, px_x0), (76, .aload_n 0, 1, px_x0), (77, .getfield 16, 3, (10, 2, [(11, 0)], 0, "AllSwornModel")), (80, .bipush 40, 2, px_x0), (82, .iload_n 1, 1, px_x0), (83, .imul, 1, px_x0), (84, .iload_n 2, 1, px_x0), (85, .iadd, 1, px_x0), (86, .iload 4, 2, px_x0), (88, .iadd, 1, px_x0), (89, .iaload, 1, px_x0), (90, .iconst 0, 1, px_x0), (91, .iconst 1, 1, px_x0), (92, .invokestatic 50, 3, (30, 3, [(0, 140)], 0, "")), (95, .ifCond .ne 6, 3, px_x0), (98, .ldc 58, 2, (0, 0, [], (-1000001), "")), (100, .ireturn, 1, px_x0), (101, .iinc 4 1, 3, px_x0), (104, .goto (-34), 3, px_x0), (107, .iconst 1, 1, px_x0), (108, .aload_n 0, 1, px_x0), (109, .iconst 2, 1, px_x0), (110, .invokevirtual 69, 3, (33, 1, [(11, 149)], 0, "")), (113, .ishl, 1, px_x0), (114, .iconst 1, 1, px_x0), (115, .isub, 1, px_x0), (116, .istore 4, 2, px_x0), (118, .iconst 0, 1, px_x0), (119, .istore 5, 2, px_x0), (121, .iload 5, 2, px_x0), (123, .iload_n 3, 1, px_x0), (124, .if_icmp .ge 55, 3, px_x0), (127, .aload_n 0, 1, px_x0), (128, .aload_n 0, 1, px_x0), (129, .iconst 3, 1, px_x0), (130, .invokevirtual 69, 3, (33, 1, [(11, 149)], 0, "")), (133, .iload 5, 2, px_x0), (135, .iadd, 1, px_x0), (136, .invokevirtual 168, 3, (33, 1, [(11, 171)], 0, "")), (139, .istore 6, 2, px_x0), (141, .iload 4, 2, px_x0), (143, .aload_n 0, 1, px_x0), (144, .getfield 16, 3, (10, 2, [(11, 0)], 0, "AllSwornModel")), (147, .bipush 40, 2, px_x0), (149, .iload_n 1, 1, px_x0), (150, .imul, 1, px_x0), (151, .iload_n 2, 1, px_x0), (152, .iadd, 1, px_x0), (153, .iload 5, 2, px_x0), (155, .iadd, 1, px_x0), (156, .iaload, 1, px_x0), (157, .iconst 1, 1, px_x0), (158, .if_icmp .ne 8, 3, px_x0), (161, .iload 6, 2, px_x0), (163, .goto 7, 3, px_x0), (166, .iload 6, 2, px_x0), (168, .iconst (-1), 1, px_x0), (169, .ixor, 1, px_x0), (170, .iand, 1, px_x0), (171, .istore 4, 2, px_x0), (173, .iinc 5 1, 3, px_x0), (176, .goto (-55), 3, px_x0), (179, .aload_n 0, 1, px_x0), (180, .iload 4, 2, px_x0), (182, .invokevirtual 63, 3, (33, 1, [(11, 142)], 0, "")), (185, .ireturn, 1, px_x0)])
def m_X12_terms : px_M := (yX12_terms, cX12_terms, 2, some .int, 0, [(0, .aload_n 0, 1, px_x0), (1, .invokevirtual 171, 3, (33, 0, [(11, 175)], 0, "")), (4, .ifCond .ne 6, 3, px_x0), (7, .ldc 175, 2, (0, 0, [], (-1000002), "")), (9, .ireturn, 1, px_x0), (10, .aload_n 0, 1, px_x0), (11, .invokevirtual 146, 3, (33, 0, [(11, 167)], 0, "")), (14, .iconst 1, 1, px_x0), (15, .istore_n 1, 1, px_x0), (16, .iload_n 1, 1, px_x0), (17, .bipush 40, 2, px_x0), (19, .if_icmp .gt 28, 3, px_x0), (22, .aload_n 0, 1, px_x0), (23, .aload_n 0, 1, px_x0), (24, .aload_n 0, 1, px_x0), (25, .iconst 3, 1, px_x0), (26, .invokevirtual 69, 3, (33, 1, [(11, 149)], 0, "")), (29, .iload_n 1, 1, px_x0), (30, .invokevirtual 140, 3, (33, 2, [(11, 168)], 0, "")), (33, .invokevirtual 143, 3, (33, 1, [(11, 169)], 0, "")), (36, .ifCond .ne 5, 3, px_x0), (39, .iload_n 1, 1, px_x0), (40, .ireturn, 1, px_x0), (41, .iinc 1 1, 3, px_x0), (44, .goto (-28), 3, px_x0), (47, .ldc 119, 2, (0, 0, [], (-1000000), "")), (49, .ireturn, 1, px_x0)])
def m_X12_image : px_M := (yX12_image, cX12_image, 2, some .int, 0, [(0, .iload_n 1, 1, px_x0), (1, .iconst 0, 1, px_x0), (2, .iconst 1, 1, px_x0), (3, .invokestatic 50, 3, (30, 3, [(0, 140)], 0, "")), (6, .ifCond .ne 6, 3, px_x0), (9, .ldc 58, 2, (0, 0, [], (-1000001), "")), (11, .ireturn, 1, px_x0), (12, .aload_n 0, 1, px_x0), (13, .invokevirtual 171, 3, (33, 0, [(11, 175)], 0, "")), (16, .ifCond .ne 6, 3, px_x0), (19, .ldc 175, 2, (0, 0, [], (-1000002), "")), (21, .ireturn, 1, px_x0), (22, .aload_n 0, 1, px_x0), (23, .iconst 0, 1, px_x0), (24, .iconst 1, 1, px_x0), (25, .iload_n 1, 1, px_x0), (26, .iadd, 1, px_x0), (27, .invokevirtual 130, 3, (33, 2, [(11, 151)], 0, "")), (30, .aload_n 0, 1, px_x0), (31, .getfield 22, 3, (10, 6, [(11, 0)], 0, "AllSwornModel")), (34, .iload_n 1, 1, px_x0), (35, .iconst 1, 1, px_x0), (36, .bastore, 1, px_x0), (37, .iconst 1, 1, px_x0), (38, .ireturn, 1, px_x0)])
def m_X12_restore : px_M := (yX12_restore, cX12_restore, 2, some .int, 0, [(0, .iload_n 1, 1, px_x0), (1, .iconst 0, 1, px_x0), (2, .iconst 1, 1, px_x0), (3, .invokestatic 50, 3, (30, 3, [(0, 140)], 0, "")), (6, .ifCond .ne 6, 3, px_x0), (9, .ldc 58, 2, (0, 0, [], (-1000001), "")), (11, .ireturn, 1, px_x0), (12, .aload_n 0, 1, px_x0), (13, .getfield 22, 3, (10, 6, [(11, 0)], 0, "AllSwornModel")), (16, .iload_n 1, 1, px_x0), (17, .baload, 1, px_x0), (18, .ifCond .ne 6, 3, px_x0), (21, .ldc 175, 2, (0, 0, [], (-1000002), "")), (23, .ireturn, 1, px_x0), (24, .aload_n 0, 1, px_x0), (25, .iconst 1, 1, px_x0), (26, .iload_n 1, 1, px_x0), (27, .iadd, 1, px_x0), (28, .iconst 0, 1, px_x0), (29, .invokevirtual 130, 3, (33, 2, [(11, 151)], 0, "")), (32, .aload_n 0, 1, px_x0), (33, .iconst 0, 1, px_x0), (34, .putfield 133, 3, (10, 8, [(11, 0)], 0, "AllSwornModel")), (37, .iconst 1, 1, px_x0), (38, .ireturn, 1, px_x0)])
def m_X12_kind : px_M := (yX12_kind, cX12_kind, 2, some .int, 0, [(0, .aload_n 0, 1, px_x0), (1, .iload_n 1, 1, px_x0), (2, .invokevirtual 152, 3, (33, 1, [(11, 152)], 0, "")), (5, .ifCond .eq 12, 3, px_x0), (8, .aload_n 0, 1, px_x0), (9, .iload_n 1, 1, px_x0), (10, .iconst 0, 1, px_x0), (11, .invokevirtual 136, 3, (33, 2, [(11, 154)], 0, "")), (14, .goto 5, 3, px_x0), (17, .ldc 58, 2, (0, 0, [], (-1000001), "")), (19, .ireturn, 1, px_x0)])
def m_X12_inHarms : px_M := (yX12_inHarms, cX12_inHarms, 4, some .int, 0, [(0, .iconst 0, 1, px_x0), (1, .istore_n 2, 1, px_x0), (2, .iconst 0, 1, px_x0), (3, .istore_n 3, 1, px_x0), (4, .iload_n 3, 1, px_x0), (5, .aload_n 0, 1, px_x0), (6, .iconst 2, 1, px_x0), (7, .invokevirtual 69, 3, (33, 1, [(11, 149)], 0, "")), (10, .if_icmp .ge 24, 3, px_x0), (13, .iload_n 2, 1, px_x0), (14, .aload_n 0, 1, px_x0), (15, .bipush 37, 2, px_x0), (17, .iload_n 3, 1, px_x0), (18, .iadd, 1, px_x0), (19, .invokevirtual 69, 3, (33, 1, [(11, 149)], 0, "")), (22, .iload_n 1, 1, px_x0), (23, .ishr, 1, px_x0), (24, .iconst 1, 1, px_x0), (25, .iand, 1, px_x0), (26, .iadd, 1, px_x0), (27, .istore_n 2, 1, px_x0), (28, .iinc 3 1, 3, px_x0), (31, .goto (-27), 3, px_x0), (34, .iload_n 2, 1, px_x0), (35, .ireturn, 1, px_x0)])
def m_X12_isOne : px_M := (yX12_isOne, cX12_isOne, 2, some .boolean, 0, [(0, .iload_n 1, 1, px_x0), (1, .ifCond .eq 32, 3, px_x0), (4, .iload_n 1, 1, px_x0), (5, .iload_n 0, 1, px_x0), (6, .if_icmp .eq 27, 3, px_x0), (9, .iload_n 1, 1, px_x0), (10, .iconst 1, 1, px_x0), (11, .if_icmp .ne 12, 3, px_x0), (14, .iload_n 0, 1, px_x0), (15, .iconst 2, 1, px_x0), (16, .iconst 3, 1, px_x0), (17, .invokestatic 50, 3, (30, 3, [(0, 140)], 0, "")), (20, .ifCond .ne 13, 3, px_x0), (23, .iload_n 1, 1, px_x0), (24, .iconst 4, 1, px_x0), (25, .if_icmp .ne 12, 3, px_x0), (28, .iload_n 0, 1, px_x0), (29, .iconst 5, 1, px_x0), (30, .if_icmp .ne 7, 3, px_x0), (33, .iconst 1, 1, px_x0), (34, .goto 4, 3, px_x0), (37, .iconst 0, 1, px_x0), (38, .ireturn, 1, px_x0)])
def m_X12_as : px_M := (yX12_as, cX12_as, 3, some .int, 0, [(0, .aload_n 0, 1, px_x0), (1, .iload_n 1, 1, px_x0), (2, .invokevirtual 152, 3, (33, 1, [(11, 152)], 0, "")), (5, .ifCond .eq 12, 3, px_x0), (8, .iload_n 2, 1, px_x0), (9, .iconst 0, 1, px_x0), (10, .iconst 5, 1, px_x0), (11, .invokestatic 50, 3, (30, 3, [(0, 140)], 0, "")), (14, .ifCond .ne 6, 3, px_x0), (17, .ldc 58, 2, (0, 0, [], (-1000001), "")), (19, .ireturn, 1, px_x0), (20, .aload_n 0, 1, px_x0), (21, .iload_n 1, 1, px_x0), (22, .iconst 0, 1, px_x0), (23, .invokevirtual 136, 3, (33, 2, [(11, 154)], 0, "")), (26, .iload_n 2, 1, px_x0), (27, .invokestatic 203, 3, (30, 2, [(0, 204)], 0, "")), (30, .ifCond .eq 11, 3, px_x0), (33, .aload_n 0, 1, px_x0), (34, .iload_n 1, 1, px_x0), (35, .invokevirtual 63, 3, (33, 1, [(11, 142)], 0, "")), (38, .goto 8, 3, px_x0), (41, .aload_n 0, 1, px_x0), (42, .iconst 3, 1, px_x0), (43, .invokevirtual 59, 3, (33, 1, [(11, 141)], 0, "")), (46, .ireturn, 1, px_x0)])
def m_X12_leaves : px_M := (yX12_leaves, cX12_leaves, 2, none, 0, [(0, .aload_n 0, 1, px_x0), (1, .getfield 206, 3, (10, 22, [(11, 0)], 0, "AllSwornModel")), (4, .bipush 16, 2, px_x0), (6, .if_icmp .ge 23, 3, px_x0), (9, .aload_n 0, 1, px_x0), (10, .getfield 39, 3, (10, 21, [(11, 0)], 0, "AllSwornModel")), (13, .aload_n 0, 1, px_x0), (14, .getfield 206, 3, (10, 22, [(11, 0)], 0, "AllSwornModel")), (17, .iload_n 1, 1, px_x0), (18, .iastore, 1, px_x0), (19, .aload_n 0, 1, px_x0), (20, .dup, 1, px_x0), (21, .getfield 206, 3, (10, 22, [(11, 0)], 0, "AllSwornModel")), (24, .iconst 1, 1, px_x0), (25, .iadd, 1, px_x0), (26, .putfield 206, 3, (10, 22, [(11, 0)], 0, "AllSwornModel")), (29, .return_, 1, px_x0)])
def m_X12_size10 : px_M := (yX12_size10, cX12_size10, 2, some .int, 0, [(0, .aload_n 0, 1, px_x0), (1, .bipush 10, 2, px_x0), (3, .invokevirtual 209, 3, (33, 1, [(11, 206)], 0, "")), (6, .aload_n 0, 1, px_x0), (7, .iload_n 1, 1, px_x0), (8, .iconst 2, 1, px_x0), (9, .invokevirtual 136, 3, (33, 2, [(11, 154)], 0, "")), (12, .ireturn, 1, px_x0)])
def m_X12_mark20 : px_M := (yX12_mark20, cX12_mark20, 2, some .int, 0, [(0, .aload_n 0, 1, px_x0), (1, .bipush 20, 2, px_x0), (3, .invokevirtual 209, 3, (33, 1, [(11, 206)], 0, "")), (6, .iload_n 1, 1, px_x0), (7, .ireturn, 1, px_x0)])
def m_X12_mark21 : px_M := (yX12_mark21, cX12_mark21, 2, some .int, 0, [(0, .aload_n 0, 1, px_x0), (1, .bipush 21, 2, px_x0), (3, .invokevirtual 209, 3, (33, 1, [(11, 206)], 0, "")), (6, .aload_n 0, 1, px_x0), (7, .iload_n 1, 1, px_x0), (8, .invokevirtual 212, 3, (33, 1, [(11, 208)], 0, "")), (11, .aload_n 0, 1, px_x0), (12, .iload_n 1, 1, px_x0), (13, .invokevirtual 215, 3, (33, 1, [(11, 203)], 0, "")), (16, .iadd, 1, px_x0), (17, .ireturn, 1, px_x0)])
def m_X12_size13 : px_M := (yX12_size13, cX12_size13, 2, some .int, 0, [(0, .aload_n 0, 1, px_x0), (1, .bipush 13, 2, px_x0), (3, .invokevirtual 209, 3, (33, 1, [(11, 206)], 0, "")), (6, .aload_n 0, 1, px_x0), (7, .iload_n 1, 1, px_x0), (8, .invokevirtual 218, 3, (33, 1, [(11, 207)], 0, "")), (11, .bipush 100, 2, px_x0), (13, .isub, 1, px_x0), (14, .ireturn, 1, px_x0)])
def m_X12_size14 : px_M := (yX12_size14, cX12_size14, 2, some .int, 0, [(0, .aload_n 0, 1, px_x0), (1, .bipush 14, 2, px_x0), (3, .invokevirtual 209, 3, (33, 1, [(11, 206)], 0, "")), (6, .iconst 2, 1, px_x0), (7, .aload_n 0, 1, px_x0), (8, .iload_n 1, 1, px_x0), (9, .invokevirtual 221, 3, (33, 1, [(11, 210)], 0, "")), (12, .imul, 1, px_x0), (13, .ireturn, 1, px_x0)])
def m_X12_mark22 : px_M := (yX12_mark22, cX12_mark22, 2, some .int, 0, [(0, .aload_n 0, 1, px_x0), (1, .bipush 22, 2, px_x0), (3, .invokevirtual 209, 3, (33, 1, [(11, 206)], 0, "")), (6, .aload_n 0, 1, px_x0), (7, .iload_n 1, 1, px_x0), (8, .invokevirtual 224, 3, (33, 1, [(11, 209)], 0, "")), (11, .sipush 1000, 3, px_x0), (14, .isub, 1, px_x0), (15, .ireturn, 1, px_x0)])
def m_X12_mark24 : px_M := (yX12_mark24, cX12_mark24, 2, some .int, 0, [(0, .aload_n 0, 1, px_x0), (1, .bipush 24, 2, px_x0), (3, .invokevirtual 209, 3, (33, 1, [(11, 206)], 0, "")), (6, .iconst 2, 1, px_x0), (7, .aload_n 0, 1, px_x0), (8, .iload_n 1, 1, px_x0), (9, .invokevirtual 224, 3, (33, 1, [(11, 209)], 0, "")), (12, .imul, 1, px_x0), (13, .ireturn, 1, px_x0)])
def m_X12_mark23 : px_M := (yX12_mark23, cX12_mark23, 3, some .int, 0, [(0, .aload_n 0, 1, px_x0), (1, .bipush 23, 2, px_x0), (3, .invokevirtual 209, 3, (33, 1, [(11, 206)], 0, "")), (6, .aload_n 0, 1, px_x0), (7, .iload_n 1, 1, px_x0), (8, .invokevirtual 212, 3, (33, 1, [(11, 208)], 0, "")), (11, .istore_n 2, 1, px_x0), (12, .iload_n 2, 1, px_x0), (13, .aload_n 0, 1, px_x0), (14, .iload_n 1, 1, px_x0), (15, .iconst 0, 1, px_x0), (16, .invokevirtual 136, 3, (33, 2, [(11, 154)], 0, "")), (19, .iconst 5, 1, px_x0), (20, .if_icmp .ne 11, 3, px_x0), (23, .aload_n 0, 1, px_x0), (24, .iload_n 1, 1, px_x0), (25, .invokevirtual 227, 3, (33, 1, [(11, 211)], 0, "")), (28, .goto 8, 3, px_x0), (31, .aload_n 0, 1, px_x0), (32, .iload_n 1, 1, px_x0), (33, .invokevirtual 221, 3, (33, 1, [(11, 210)], 0, "")), (36, .isub, 1, px_x0), (37, .ireturn, 1, px_x0)])
def m_X12_markOf : px_M := (yX12_markOf, cX12_markOf, 3, some .int, 0, [(0, .aload_n 0, 1, px_x0), (1, .iload_n 1, 1, px_x0), (2, .iconst 0, 1, px_x0), (3, .invokevirtual 136, 3, (33, 2, [(11, 154)], 0, "")), (6, .istore_n 2, 1, px_x0), (7, .iload_n 2, 1, px_x0), (8, .iconst 1, 1, px_x0), (9, .if_icmp .ne 11, 3, px_x0), (12, .aload_n 0, 1, px_x0), (13, .iload_n 1, 1, px_x0), (14, .invokevirtual 224, 3, (33, 1, [(11, 209)], 0, "")), (17, .goto 34, 3, px_x0), (20, .iload_n 2, 1, px_x0), (21, .iconst 2, 1, px_x0), (22, .if_icmp .ne 11, 3, px_x0), (25, .aload_n 0, 1, px_x0), (26, .iload_n 1, 1, px_x0), (27, .invokevirtual 230, 3, (33, 1, [(11, 213)], 0, "")), (30, .goto 21, 3, px_x0), (33, .iload_n 2, 1, px_x0), (34, .iconst 3, 1, px_x0), (35, .if_icmp .ne 11, 3, px_x0), (38, .aload_n 0, 1, px_x0), (39, .iload_n 1, 1, px_x0), (40, .invokevirtual 233, 3, (33, 1, [(11, 212)], 0, "")), (43, .goto 8, 3, px_x0), (46, .aload_n 0, 1, px_x0), (47, .iload_n 1, 1, px_x0), (48, .invokevirtual 236, 3, (33, 1, [(11, 214)], 0, "")), (51, .ireturn, 1, px_x0)])
def m_X12_size11 : px_M := (yX12_size11, cX12_size11, 3, some .int, 0, [(0, .aload_n 0, 1, px_x0), (1, .bipush 11, 2, px_x0), (3, .invokevirtual 209, 3, (33, 1, [(11, 206)], 0, "")), (6, .aload_n 0, 1, px_x0), (7, .iload_n 1, 1, px_x0), (8, .invokevirtual 218, 3, (33, 1, [(11, 207)], 0, "")), (11, .istore_n 2, 1, px_x0), (12, .iload_n 2, 1, px_x0), (13, .aload_n 0, 1, px_x0), (14, .iload_n 1, 1, px_x0), (15, .invokevirtual 239, 3, (33, 1, [(11, 215)], 0, "")), (18, .iadd, 1, px_x0), (19, .ireturn, 1, px_x0)])
def m_X12_size12 : px_M := (yX12_size12, cX12_size12, 2, some .int, 0, [(0, .aload_n 0, 1, px_x0), (1, .bipush 12, 2, px_x0), (3, .invokevirtual 209, 3, (33, 1, [(11, 206)], 0, "")), (6, .aload_n 0, 1, px_x0), (7, .iload_n 1, 1, px_x0), (8, .invokevirtual 242, 3, (33, 1, [(11, 216)], 0, "")), (11, .ineg, 1, px_x0), (12, .ireturn, 1, px_x0)])
def m_X12_sizeOf : px_M := (yX12_sizeOf, cX12_sizeOf, 3, some .int, 0, [(0, .aload_n 0, 1, px_x0), (1, .iload_n 1, 1, px_x0), (2, .iconst 0, 1, px_x0), (3, .invokevirtual 136, 3, (33, 2, [(11, 154)], 0, "")), (6, .istore_n 2, 1, px_x0), (7, .iload_n 2, 1, px_x0), (8, .iconst 2, 1, px_x0), (9, .if_icmp .ne 11, 3, px_x0), (12, .aload_n 0, 1, px_x0), (13, .iload_n 1, 1, px_x0), (14, .invokevirtual 245, 3, (33, 1, [(11, 217)], 0, "")), (17, .goto 34, 3, px_x0), (20, .iload_n 2, 1, px_x0), (21, .iconst 4, 1, px_x0), (22, .if_icmp .ge 11, 3, px_x0), (25, .aload_n 0, 1, px_x0), (26, .iload_n 1, 1, px_x0), (27, .invokevirtual 242, 3, (33, 1, [(11, 216)], 0, "")), (30, .goto 21, 3, px_x0), (33, .iload_n 2, 1, px_x0), (34, .iconst 4, 1, px_x0), (35, .if_icmp .ne 11, 3, px_x0), (38, .aload_n 0, 1, px_x0), (39, .iload_n 1, 1, px_x0), (40, .invokevirtual 221, 3, (33, 1, [(11, 210)], 0, "")), (43, .goto 8, 3, px_x0), (46, .aload_n 0, 1, px_x0), (47, .iload_n 1, 1, px_x0), (48, .invokevirtual 227, 3, (33, 1, [(11, 211)], 0, "")), (51, .ireturn, 1, px_x0)])
def m_X12_ask : px_M := (yX12_ask, cX12_ask, 3, some .int, 0, [(0, .aload_n 0, 1, px_x0), (1, .iload_n 1, 1, px_x0), (2, .invokevirtual 152, 3, (33, 1, [(11, 152)], 0, "")), (5, .ifCond .eq 12, 3, px_x0), (8, .iload_n 2, 1, px_x0), (9, .iconst 0, 1, px_x0), (10, .iconst 1, 1, px_x0), (11, .invokestatic 50, 3, (30, 3, [(0, 140)], 0, "")), (14, .ifCond .ne 6, 3, px_x0), (17, .ldc 58, 2, (0, 0, [], (-1000001), "")), (19, .ireturn, 1, px_x0), (20, .aload_n 0, 1, px_x0), (21, .iconst 0, 1, px_x0), (22, .putfield 206, 3, (10, 22, [(11, 0)], 0, "AllSwornModel")), (25, .iload_n 2, 1, px_x0), (26, .ifCond .ne 11, 3, px_x0), (29, .aload_n 0, 1, px_x0), (30, .iload_n 1, 1, px_x0), (31, .invokevirtual 248, 3, (33, 1, [(11, 218)], 0, "")), (34, .goto 8, 3, px_x0), (37, .aload_n 0, 1, px_x0), (38, .iload_n 1, 1, px_x0), (39, .invokevirtual 239, 3, (33, 1, [(11, 215)], 0, "")), (42, .ireturn, 1, px_x0)])
def m_X12_trace : px_M := (yX12_trace, cX12_trace, 2, some .int, 0, [(0, .iload_n 1, 1, px_x0), (1, .iconst 0, 1, px_x0), (2, .aload_n 0, 1, px_x0), (3, .getfield 206, 3, (10, 22, [(11, 0)], 0, "AllSwornModel")), (6, .iconst 1, 1, px_x0), (7, .isub, 1, px_x0), (8, .invokestatic 50, 3, (30, 3, [(0, 140)], 0, "")), (11, .ifCond .eq 12, 3, px_x0), (14, .aload_n 0, 1, px_x0), (15, .getfield 39, 3, (10, 21, [(11, 0)], 0, "AllSwornModel")), (18, .iload_n 1, 1, px_x0), (19, .iaload, 1, px_x0), (20, .goto 5, 3, px_x0), (23, .ldc 119, 2, (0, 0, [], (-1000000), "")), (25, .ireturn, 1, px_x0)])
def m_X12_count : px_M := (yX12_count, cX12_count, 4, some .int, 0, [(0, .iconst 0, 1, px_x0), (1, .istore_n 2, 1, px_x0), (2, .iconst 0, 1, px_x0), (3, .istore_n 3, 1, px_x0), (4, .iload_n 3, 1, px_x0), (5, .bipush 8, 2, px_x0), (7, .if_icmp .ge 26, 3, px_x0), (10, .iload_n 2, 1, px_x0), (11, .aload_n 0, 1, px_x0), (12, .getfield 7, 3, (10, 0, [(11, 0)], 0, "AllSwornModel")), (15, .iload_n 3, 1, px_x0), (16, .iaload, 1, px_x0), (17, .ifCond .ne 7, 3, px_x0), (20, .iconst 0, 1, px_x0), (21, .goto 4, 3, px_x0), (24, .iconst 1, 1, px_x0), (25, .iadd, 1, px_x0), (26, .istore_n 2, 1, px_x0), (27, .iinc 3 1, 3, px_x0), (30, .goto (-26), 3, px_x0), (33, .iload_n 1, 1, px_x0), (34, .tableswitch 88 0 7 #[46, 48, 54, 60, 66, 72, 78, 83], 46, px_x0), (80, .iload_n 2, 1, px_x0), (81, .ireturn, 1, px_x0), (82, .aload_n 0, 1, px_x0), (83, .iconst 1, 1, px_x0), (84, .invokevirtual 69, 3, (33, 1, [(11, 149)], 0, "")), (87, .ireturn, 1, px_x0), (88, .aload_n 0, 1, px_x0), (89, .iconst 2, 1, px_x0), (90, .invokevirtual 69, 3, (33, 1, [(11, 149)], 0, "")), (93, .ireturn, 1, px_x0), (94, .aload_n 0, 1, px_x0), (95, .iconst 3, 1, px_x0), (96, .invokevirtual 69, 3, (33, 1, [(11, 149)], 0, "")), (99, .ireturn, 1, px_x0), (100, .aload_n 0, 1, px_x0), (101, .iconst 4, 1, px_x0), (102, .invokevirtual 69, 3, (33, 1, [(11, 149)], 0, "")), (105, .ireturn, 1, px_x0), (106, .aload_n 0, 1, px_x0), (107, .iconst 0, 1, px_x0), (108, .invokevirtual 69, 3, (33, 1, [(11, 149)], 0, "")), (111, .ireturn, 1, px_x0), (112, .aload_n 0, 1, px_x0), (113, .getfield 133, 3, (10, 8, [(11, 0)], 0, "AllSwornModel")), (116, .ireturn, 1, px_x0), (117, .aload_n 0, 1, px_x0), (118, .getfield 42, 3, (10, 10, [(11, 0)], 0, "AllSwornModel")), (121, .ireturn, 1, px_x0), (122, .ldc 58, 2, (0, 0, [], (-1000001), "")), (124, .ireturn, 1, px_x0)])
def m_J6_bitCount_0f7a4 : px_M := (yJ6_bitCount_0f7a4, cJ6_bitCount_0f7a4, 1, some .int, 0, [(0, .iload_n 0, 1, px_x0), (1, .iload_n 0, 1, px_x0), (2, .iconst 1, 1, px_x0), (3, .iushr, 1, px_x0), (4, .ldc_w 265, 3, (0, 0, [], 1431655765, "")), (7, .iand, 1, px_x0), (8, .isub, 1, px_x0), (9, .istore_n 0, 1, px_x0), (10, .iload_n 0, 1, px_x0), (11, .ldc_w 266, 3, (0, 0, [], 858993459, "")), (14, .iand, 1, px_x0), (15, .iload_n 0, 1, px_x0), (16, .iconst 2, 1, px_x0), (17, .iushr, 1, px_x0), (18, .ldc_w 266, 3, (0, 0, [], 858993459, "")), (21, .iand, 1, px_x0), (22, .iadd, 1, px_x0), (23, .istore_n 0, 1, px_x0), (24, .iload_n 0, 1, px_x0), (25, .iload_n 0, 1, px_x0), (26, .iconst 4, 1, px_x0), (27, .iushr, 1, px_x0), (28, .iadd, 1, px_x0), (29, .ldc_w 267, 3, (0, 0, [], 252645135, "")), (32, .iand, 1, px_x0), (33, .istore_n 0, 1, px_x0), (34, .iload_n 0, 1, px_x0), (35, .iload_n 0, 1, px_x0), (36, .bipush 8, 2, px_x0), (38, .iushr, 1, px_x0), (39, .iadd, 1, px_x0), (40, .istore_n 0, 1, px_x0), (41, .iload_n 0, 1, px_x0), (42, .iload_n 0, 1, px_x0), (43, .bipush 16, 2, px_x0), (45, .iushr, 1, px_x0), (46, .iadd, 1, px_x0), (47, .istore_n 0, 1, px_x0), (48, .iload_n 0, 1, px_x0), (49, .bipush 63, 2, px_x0), (51, .iand, 1, px_x0), (52, .ireturn, 1, px_x0)])
def m_J7_fill_53178 : px_M := (yJ7_fill_53178, cJ7_fill_53178, 4, none, 0, [(0, .iconst 0, 1, px_x0), (1, .istore_n 2, 1, px_x0), (2, .aload_n 0, 1, px_x0), (3, .arraylength, 1, px_x0), (4, .istore_n 3, 1, px_x0), (5, .iload_n 2, 1, px_x0), (6, .iload_n 3, 1, px_x0), (7, .if_icmp .ge 13, 3, px_x0), (10, .aload_n 0, 1, px_x0), (11, .iload_n 2, 1, px_x0), (12, .iload_n 1, 1, px_x0), (13, .iastore, 1, px_x0), (14, .iinc 2 1, 3, px_x0), (17, .goto (-12), 3, px_x0), (20, .return_, 1, px_x0)])
def px_tab : List px_M := [m_X0_init, m_X0_toldKind, m_X0_isOf, m_X0_daysToAsk, m_X0_size, m_X0_mark, m_X1_init, m_X1_toldKind, m_X1_isOf, m_X1_isHeldBy, m_X1_size, m_X1_mark, m_X2_init, m_X2_firstGap, m_X2_leastCover, m_X2_willingOn, m_X2_seekRound, m_X2_goOn, m_X2_keepWay, m_X2_bestStop, m_X2_bestDefence, m_X2_priceBehind, m_X2_leastKinds, m_X2_suspects, m_X2_leastTerm, m_X3_init, m_X3_toldKind, m_X3_isOf, m_X3_size, m_X3_mark, m_X4_init, m_X4_take, m_X4_readTo, m_X4_readThing, m_X4_readHarm, m_X4_expect, m_X4_readNumber, m_X4_next, m_X4_note, m_X4_kindOf, m_X4_made, m_X5_init, m_X5_isTold, m_X5_beginAnew, m_X5_addThing, m_X5_addHarm, m_X5_becomeLike, m_X5_thingAt, m_X5_oathOf, m_X5_hasHarm, m_X5_harmAt, m_X5_sendTo, m_X5_tryHarm, m_X5_letPass, m_X5_undoLatest, m_X5_keepAct, m_X5_swear, m_X5_boundOn, m_X5_boundIf, m_X5_openOn, m_X5_openTo, m_X5_priceOf, m_X5_cheapestOn, m_X5_cheapestPriceOn, m_X5_toldAs, m_X5_harmsWith, m_X6_init, m_X6_isMissing, m_X6_vanish, m_X6_lay, m_X6_spans, m_X6_put, m_X6_takeFrom, m_X6_tellsYesOrNo, m_X6_tellsHit, m_X6_narrowed, m_X7_init, m_X7_isOf, m_X7_daysToAsk, m_X7_swearsOn, m_X7_isHeldBy, m_X7_size, m_X7_mark, m_X8_init, m_X8_clear, m_X8_leave, m_X8_numberAt, m_X9_init, m_X9_toldKind, m_X9_isOf, m_X9_isHeldBy, m_X9_size, m_X10_init, m_X10_toldKind, m_X10_isOf, m_X10_swearsOn, m_X10_mark, m_X11_init, m_X11_row, m_X11_set, m_X11_copy, m_X11_drop, m_X11_feed, m_X11_realm, m_X11_fault, m_X11_askFor, m_X11_tries, m_X11_waits, m_X11_undo, m_X11_thing, m_X11_harm, m_X11_open, m_X11_gap, m_X11_cover, m_X11_round, m_X11_cheapest, m_X11_defended, m_X11_enough, m_X11_odds, m_X11_hitBy, m_X11_terms, m_X11_image, m_X11_restore, m_X11_kind, m_X11_as, m_X11_ask, m_X11_trace, m_X11_count, m_X11_status, m_X11_found, m_X11_clean, m_X11_rowAt, m_X11_imageAt, m_X11_rowsThere, m_X11_isAhead, m_X11_isPair, m_X11_sizeOrSet, m_X11_power, m_X11_sharedDivisor, m_X12_init, m_X12_in, m_X12_finds, m_X12_well, m_X12_isRow, m_X12_row, m_X12_set, m_X12_copy, m_X12_drop, m_X12_status, m_X12_get, m_X12_put, m_X12_copyRealm, m_X12_isThing, m_X12_isHarm, m_X12_ofThing, m_X12_feed, m_X12_here, m_X12_next, m_X12_fails, m_X12_sign, m_X12_numberBut, m_X12_number, m_X12_kindOf, m_X12_readThing, m_X12_readHarm, m_X12_realm, m_X12_fault, m_X12_asSworn, m_X12_boundOn, m_X12_openBy, m_X12_openOn, m_X12_openAsSworn, m_X12_wayOf, m_X12_wouldSwear, m_X12_know, m_X12_hasRealm, m_X12_askFor, m_X12_tries, m_X12_waits, m_X12_undo, m_X12_sumOf, m_X12_thing, m_X12_harm, m_X12_isDay, m_X12_open, m_X12_gap, m_X12_manyOf, m_X12_covers, m_X12_cover, m_X12_goesRound, m_X12_round, m_X12_cheapestOf, m_X12_cheapest, m_X12_dearBy, m_X12_defended, m_X12_ofKinds, m_X12_enough, m_X12_odds, m_X12_hitBy, m_X12_terms, m_X12_image, m_X12_restore, m_X12_kind, m_X12_inHarms, m_X12_isOne, m_X12_as, m_X12_leaves, m_X12_size10, m_X12_mark20, m_X12_mark21, m_X12_size13, m_X12_size14, m_X12_mark22, m_X12_mark24, m_X12_mark23, m_X12_markOf, m_X12_size11, m_X12_size12, m_X12_sizeOf, m_X12_ask, m_X12_trace, m_X12_count, m_J6_bitCount_0f7a4, m_J7_fill_53178]
theorem pt_0 : px_tab[0]? = some m_X0_init := rfl
theorem pt_1 : px_tab[1]? = some m_X0_toldKind := rfl
theorem pt_2 : px_tab[2]? = some m_X0_isOf := rfl
theorem pt_3 : px_tab[3]? = some m_X0_daysToAsk := rfl
theorem pt_4 : px_tab[4]? = some m_X0_size := rfl
theorem pt_5 : px_tab[5]? = some m_X0_mark := rfl
theorem pt_6 : px_tab[6]? = some m_X1_init := rfl
theorem pt_7 : px_tab[7]? = some m_X1_toldKind := rfl
theorem pt_8 : px_tab[8]? = some m_X1_isOf := rfl
theorem pt_9 : px_tab[9]? = some m_X1_isHeldBy := rfl
theorem pt_10 : px_tab[10]? = some m_X1_size := rfl
theorem pt_11 : px_tab[11]? = some m_X1_mark := rfl
theorem pt_12 : px_tab[12]? = some m_X2_init := rfl
theorem pt_13 : px_tab[13]? = some m_X2_firstGap := rfl
theorem pt_14 : px_tab[14]? = some m_X2_leastCover := rfl
theorem pt_15 : px_tab[15]? = some m_X2_willingOn := rfl
theorem pt_16 : px_tab[16]? = some m_X2_seekRound := rfl
theorem pt_17 : px_tab[17]? = some m_X2_goOn := rfl
theorem pt_18 : px_tab[18]? = some m_X2_keepWay := rfl
theorem pt_19 : px_tab[19]? = some m_X2_bestStop := rfl
theorem pt_20 : px_tab[20]? = some m_X2_bestDefence := rfl
theorem pt_21 : px_tab[21]? = some m_X2_priceBehind := rfl
theorem pt_22 : px_tab[22]? = some m_X2_leastKinds := rfl
theorem pt_23 : px_tab[23]? = some m_X2_suspects := rfl
theorem pt_24 : px_tab[24]? = some m_X2_leastTerm := rfl
theorem pt_25 : px_tab[25]? = some m_X3_init := rfl
theorem pt_26 : px_tab[26]? = some m_X3_toldKind := rfl
theorem pt_27 : px_tab[27]? = some m_X3_isOf := rfl
theorem pt_28 : px_tab[28]? = some m_X3_size := rfl
theorem pt_29 : px_tab[29]? = some m_X3_mark := rfl
theorem pt_30 : px_tab[30]? = some m_X4_init := rfl
theorem pt_31 : px_tab[31]? = some m_X4_take := rfl
theorem pt_32 : px_tab[32]? = some m_X4_readTo := rfl
theorem pt_33 : px_tab[33]? = some m_X4_readThing := rfl
theorem pt_34 : px_tab[34]? = some m_X4_readHarm := rfl
theorem pt_35 : px_tab[35]? = some m_X4_expect := rfl
theorem pt_36 : px_tab[36]? = some m_X4_readNumber := rfl
theorem pt_37 : px_tab[37]? = some m_X4_next := rfl
theorem pt_38 : px_tab[38]? = some m_X4_note := rfl
theorem pt_39 : px_tab[39]? = some m_X4_kindOf := rfl
theorem pt_40 : px_tab[40]? = some m_X4_made := rfl
theorem pt_41 : px_tab[41]? = some m_X5_init := rfl
theorem pt_42 : px_tab[42]? = some m_X5_isTold := rfl
theorem pt_43 : px_tab[43]? = some m_X5_beginAnew := rfl
theorem pt_44 : px_tab[44]? = some m_X5_addThing := rfl
theorem pt_45 : px_tab[45]? = some m_X5_addHarm := rfl
theorem pt_46 : px_tab[46]? = some m_X5_becomeLike := rfl
theorem pt_47 : px_tab[47]? = some m_X5_thingAt := rfl
theorem pt_48 : px_tab[48]? = some m_X5_oathOf := rfl
theorem pt_49 : px_tab[49]? = some m_X5_hasHarm := rfl
theorem pt_50 : px_tab[50]? = some m_X5_harmAt := rfl
theorem pt_51 : px_tab[51]? = some m_X5_sendTo := rfl
theorem pt_52 : px_tab[52]? = some m_X5_tryHarm := rfl
theorem pt_53 : px_tab[53]? = some m_X5_letPass := rfl
theorem pt_54 : px_tab[54]? = some m_X5_undoLatest := rfl
theorem pt_55 : px_tab[55]? = some m_X5_keepAct := rfl
theorem pt_56 : px_tab[56]? = some m_X5_swear := rfl
theorem pt_57 : px_tab[57]? = some m_X5_boundOn := rfl
theorem pt_58 : px_tab[58]? = some m_X5_boundIf := rfl
theorem pt_59 : px_tab[59]? = some m_X5_openOn := rfl
theorem pt_60 : px_tab[60]? = some m_X5_openTo := rfl
theorem pt_61 : px_tab[61]? = some m_X5_priceOf := rfl
theorem pt_62 : px_tab[62]? = some m_X5_cheapestOn := rfl
theorem pt_63 : px_tab[63]? = some m_X5_cheapestPriceOn := rfl
theorem pt_64 : px_tab[64]? = some m_X5_toldAs := rfl
theorem pt_65 : px_tab[65]? = some m_X5_harmsWith := rfl
theorem pt_66 : px_tab[66]? = some m_X6_init := rfl
theorem pt_67 : px_tab[67]? = some m_X6_isMissing := rfl
theorem pt_68 : px_tab[68]? = some m_X6_vanish := rfl
theorem pt_69 : px_tab[69]? = some m_X6_lay := rfl
theorem pt_70 : px_tab[70]? = some m_X6_spans := rfl
theorem pt_71 : px_tab[71]? = some m_X6_put := rfl
theorem pt_72 : px_tab[72]? = some m_X6_takeFrom := rfl
theorem pt_73 : px_tab[73]? = some m_X6_tellsYesOrNo := rfl
theorem pt_74 : px_tab[74]? = some m_X6_tellsHit := rfl
theorem pt_75 : px_tab[75]? = some m_X6_narrowed := rfl
theorem pt_76 : px_tab[76]? = some m_X7_init := rfl
theorem pt_77 : px_tab[77]? = some m_X7_isOf := rfl
theorem pt_78 : px_tab[78]? = some m_X7_daysToAsk := rfl
theorem pt_79 : px_tab[79]? = some m_X7_swearsOn := rfl
theorem pt_80 : px_tab[80]? = some m_X7_isHeldBy := rfl
theorem pt_81 : px_tab[81]? = some m_X7_size := rfl
theorem pt_82 : px_tab[82]? = some m_X7_mark := rfl
theorem pt_83 : px_tab[83]? = some m_X8_init := rfl
theorem pt_84 : px_tab[84]? = some m_X8_clear := rfl
theorem pt_85 : px_tab[85]? = some m_X8_leave := rfl
theorem pt_86 : px_tab[86]? = some m_X8_numberAt := rfl
theorem pt_87 : px_tab[87]? = some m_X9_init := rfl
theorem pt_88 : px_tab[88]? = some m_X9_toldKind := rfl
theorem pt_89 : px_tab[89]? = some m_X9_isOf := rfl
theorem pt_90 : px_tab[90]? = some m_X9_isHeldBy := rfl
theorem pt_91 : px_tab[91]? = some m_X9_size := rfl
theorem pt_92 : px_tab[92]? = some m_X10_init := rfl
theorem pt_93 : px_tab[93]? = some m_X10_toldKind := rfl
theorem pt_94 : px_tab[94]? = some m_X10_isOf := rfl
theorem pt_95 : px_tab[95]? = some m_X10_swearsOn := rfl
theorem pt_96 : px_tab[96]? = some m_X10_mark := rfl
theorem pt_97 : px_tab[97]? = some m_X11_init := rfl
theorem pt_98 : px_tab[98]? = some m_X11_row := rfl
theorem pt_99 : px_tab[99]? = some m_X11_set := rfl
theorem pt_100 : px_tab[100]? = some m_X11_copy := rfl
theorem pt_101 : px_tab[101]? = some m_X11_drop := rfl
theorem pt_102 : px_tab[102]? = some m_X11_feed := rfl
theorem pt_103 : px_tab[103]? = some m_X11_realm := rfl
theorem pt_104 : px_tab[104]? = some m_X11_fault := rfl
theorem pt_105 : px_tab[105]? = some m_X11_askFor := rfl
theorem pt_106 : px_tab[106]? = some m_X11_tries := rfl
theorem pt_107 : px_tab[107]? = some m_X11_waits := rfl
theorem pt_108 : px_tab[108]? = some m_X11_undo := rfl
theorem pt_109 : px_tab[109]? = some m_X11_thing := rfl
theorem pt_110 : px_tab[110]? = some m_X11_harm := rfl
theorem pt_111 : px_tab[111]? = some m_X11_open := rfl
theorem pt_112 : px_tab[112]? = some m_X11_gap := rfl
theorem pt_113 : px_tab[113]? = some m_X11_cover := rfl
theorem pt_114 : px_tab[114]? = some m_X11_round := rfl
theorem pt_115 : px_tab[115]? = some m_X11_cheapest := rfl
theorem pt_116 : px_tab[116]? = some m_X11_defended := rfl
theorem pt_117 : px_tab[117]? = some m_X11_enough := rfl
theorem pt_118 : px_tab[118]? = some m_X11_odds := rfl
theorem pt_119 : px_tab[119]? = some m_X11_hitBy := rfl
theorem pt_120 : px_tab[120]? = some m_X11_terms := rfl
theorem pt_121 : px_tab[121]? = some m_X11_image := rfl
theorem pt_122 : px_tab[122]? = some m_X11_restore := rfl
theorem pt_123 : px_tab[123]? = some m_X11_kind := rfl
theorem pt_124 : px_tab[124]? = some m_X11_as := rfl
theorem pt_125 : px_tab[125]? = some m_X11_ask := rfl
theorem pt_126 : px_tab[126]? = some m_X11_trace := rfl
theorem pt_127 : px_tab[127]? = some m_X11_count := rfl
theorem pt_128 : px_tab[128]? = some m_X11_status := rfl
theorem pt_129 : px_tab[129]? = some m_X11_found := rfl
theorem pt_130 : px_tab[130]? = some m_X11_clean := rfl
theorem pt_131 : px_tab[131]? = some m_X11_rowAt := rfl
theorem pt_132 : px_tab[132]? = some m_X11_imageAt := rfl
theorem pt_133 : px_tab[133]? = some m_X11_rowsThere := rfl
theorem pt_134 : px_tab[134]? = some m_X11_isAhead := rfl
theorem pt_135 : px_tab[135]? = some m_X11_isPair := rfl
theorem pt_136 : px_tab[136]? = some m_X11_sizeOrSet := rfl
theorem pt_137 : px_tab[137]? = some m_X11_power := rfl
theorem pt_138 : px_tab[138]? = some m_X11_sharedDivisor := rfl
theorem pt_139 : px_tab[139]? = some m_X12_init := rfl
theorem pt_140 : px_tab[140]? = some m_X12_in := rfl
theorem pt_141 : px_tab[141]? = some m_X12_finds := rfl
theorem pt_142 : px_tab[142]? = some m_X12_well := rfl
theorem pt_143 : px_tab[143]? = some m_X12_isRow := rfl
theorem pt_144 : px_tab[144]? = some m_X12_row := rfl
theorem pt_145 : px_tab[145]? = some m_X12_set := rfl
theorem pt_146 : px_tab[146]? = some m_X12_copy := rfl
theorem pt_147 : px_tab[147]? = some m_X12_drop := rfl
theorem pt_148 : px_tab[148]? = some m_X12_status := rfl
theorem pt_149 : px_tab[149]? = some m_X12_get := rfl
theorem pt_150 : px_tab[150]? = some m_X12_put := rfl
theorem pt_151 : px_tab[151]? = some m_X12_copyRealm := rfl
theorem pt_152 : px_tab[152]? = some m_X12_isThing := rfl
theorem pt_153 : px_tab[153]? = some m_X12_isHarm := rfl
theorem pt_154 : px_tab[154]? = some m_X12_ofThing := rfl
theorem pt_155 : px_tab[155]? = some m_X12_feed := rfl
theorem pt_156 : px_tab[156]? = some m_X12_here := rfl
theorem pt_157 : px_tab[157]? = some m_X12_next := rfl
theorem pt_158 : px_tab[158]? = some m_X12_fails := rfl
theorem pt_159 : px_tab[159]? = some m_X12_sign := rfl
theorem pt_160 : px_tab[160]? = some m_X12_numberBut := rfl
theorem pt_161 : px_tab[161]? = some m_X12_number := rfl
theorem pt_162 : px_tab[162]? = some m_X12_kindOf := rfl
theorem pt_163 : px_tab[163]? = some m_X12_readThing := rfl
theorem pt_164 : px_tab[164]? = some m_X12_readHarm := rfl
theorem pt_165 : px_tab[165]? = some m_X12_realm := rfl
theorem pt_166 : px_tab[166]? = some m_X12_fault := rfl
theorem pt_167 : px_tab[167]? = some m_X12_asSworn := rfl
theorem pt_168 : px_tab[168]? = some m_X12_boundOn := rfl
theorem pt_169 : px_tab[169]? = some m_X12_openBy := rfl
theorem pt_170 : px_tab[170]? = some m_X12_openOn := rfl
theorem pt_171 : px_tab[171]? = some m_X12_openAsSworn := rfl
theorem pt_172 : px_tab[172]? = some m_X12_wayOf := rfl
theorem pt_173 : px_tab[173]? = some m_X12_wouldSwear := rfl
theorem pt_174 : px_tab[174]? = some m_X12_know := rfl
theorem pt_175 : px_tab[175]? = some m_X12_hasRealm := rfl
theorem pt_176 : px_tab[176]? = some m_X12_askFor := rfl
theorem pt_177 : px_tab[177]? = some m_X12_tries := rfl
theorem pt_178 : px_tab[178]? = some m_X12_waits := rfl
theorem pt_179 : px_tab[179]? = some m_X12_undo := rfl
theorem pt_180 : px_tab[180]? = some m_X12_sumOf := rfl
theorem pt_181 : px_tab[181]? = some m_X12_thing := rfl
theorem pt_182 : px_tab[182]? = some m_X12_harm := rfl
theorem pt_183 : px_tab[183]? = some m_X12_isDay := rfl
theorem pt_184 : px_tab[184]? = some m_X12_open := rfl
theorem pt_185 : px_tab[185]? = some m_X12_gap := rfl
theorem pt_186 : px_tab[186]? = some m_X12_manyOf := rfl
theorem pt_187 : px_tab[187]? = some m_X12_covers := rfl
theorem pt_188 : px_tab[188]? = some m_X12_cover := rfl
theorem pt_189 : px_tab[189]? = some m_X12_goesRound := rfl
theorem pt_190 : px_tab[190]? = some m_X12_round := rfl
theorem pt_191 : px_tab[191]? = some m_X12_cheapestOf := rfl
theorem pt_192 : px_tab[192]? = some m_X12_cheapest := rfl
theorem pt_193 : px_tab[193]? = some m_X12_dearBy := rfl
theorem pt_194 : px_tab[194]? = some m_X12_defended := rfl
theorem pt_195 : px_tab[195]? = some m_X12_ofKinds := rfl
theorem pt_196 : px_tab[196]? = some m_X12_enough := rfl
theorem pt_197 : px_tab[197]? = some m_X12_odds := rfl
theorem pt_198 : px_tab[198]? = some m_X12_hitBy := rfl
theorem pt_199 : px_tab[199]? = some m_X12_terms := rfl
theorem pt_200 : px_tab[200]? = some m_X12_image := rfl
theorem pt_201 : px_tab[201]? = some m_X12_restore := rfl
theorem pt_202 : px_tab[202]? = some m_X12_kind := rfl
theorem pt_203 : px_tab[203]? = some m_X12_inHarms := rfl
theorem pt_204 : px_tab[204]? = some m_X12_isOne := rfl
theorem pt_205 : px_tab[205]? = some m_X12_as := rfl
theorem pt_206 : px_tab[206]? = some m_X12_leaves := rfl
theorem pt_207 : px_tab[207]? = some m_X12_size10 := rfl
theorem pt_208 : px_tab[208]? = some m_X12_mark20 := rfl
theorem pt_209 : px_tab[209]? = some m_X12_mark21 := rfl
theorem pt_210 : px_tab[210]? = some m_X12_size13 := rfl
theorem pt_211 : px_tab[211]? = some m_X12_size14 := rfl
theorem pt_212 : px_tab[212]? = some m_X12_mark22 := rfl
theorem pt_213 : px_tab[213]? = some m_X12_mark24 := rfl
theorem pt_214 : px_tab[214]? = some m_X12_mark23 := rfl
theorem pt_215 : px_tab[215]? = some m_X12_markOf := rfl
theorem pt_216 : px_tab[216]? = some m_X12_size11 := rfl
theorem pt_217 : px_tab[217]? = some m_X12_size12 := rfl
theorem pt_218 : px_tab[218]? = some m_X12_sizeOf := rfl
theorem pt_219 : px_tab[219]? = some m_X12_ask := rfl
theorem pt_220 : px_tab[220]? = some m_X12_trace := rfl
theorem pt_221 : px_tab[221]? = some m_X12_count := rfl
theorem pt_222 : px_tab[222]? = some m_J6_bitCount_0f7a4 := rfl
theorem pt_223 : px_tab[223]? = some m_J7_fill_53178 := rfl
end
section
/-! the words of the tables, by their places -/
theorem px_in {i : Nat} {c : Cond} (h : lw_tbl[i]? = some c) (g : goodWord c = true) : c ∈ px_W := List.mem_filter.mpr ⟨List.mem_of_getElem? h, g⟩
theorem px_inZ {i : Nat} {c : Cond} (h : lw_tbl[i]? = some c) (g : px_zk c = true) : c ∈ px_Z := List.mem_filter.mpr ⟨List.mem_of_getElem? h, g⟩
theorem pw_0 : Jvm.Cond.selects "AllSworn" ({ cls := "AllSworn", name := "rowAt", desc := "(I)LAllSworn$Row;" } : Jvm.MethodName) ({ cls := "AllSworn", name := "rowAt", desc := "(I)LAllSworn$Row;" } : Jvm.MethodName) ∈ px_W := px_in (i := 0) (by decide +kernel) (by rfl)
theorem pw_1 : Jvm.Cond.selects "AllSworn" ({ cls := "AllSworn", name := "found", desc := "(I)I" } : Jvm.MethodName) ({ cls := "AllSworn", name := "found", desc := "(I)I" } : Jvm.MethodName) ∈ px_W := px_in (i := 1) (by decide +kernel) (by rfl)
theorem pw_2 : Jvm.Cond.selects "AllSworn" ({ cls := "AllSworn", name := "clean", desc := "(I)I" } : Jvm.MethodName) ({ cls := "AllSworn", name := "clean", desc := "(I)I" } : Jvm.MethodName) ∈ px_W := px_in (i := 2) (by decide +kernel) (by rfl)
theorem pw_3 : Jvm.Cond.selects "AllSworn$Row" ({ cls := "AllSworn$Row", name := "narrowed", desc := "(I)I" } : Jvm.MethodName) ({ cls := "AllSworn$Row", name := "narrowed", desc := "(I)I" } : Jvm.MethodName) ∈ px_W := px_in (i := 3) (by decide +kernel) (by rfl)
theorem pw_4 : Jvm.Cond.selects "AllSworn$Reader" ({ cls := "AllSworn$Reader", name := "expect", desc := "(C)V" } : Jvm.MethodName) ({ cls := "AllSworn$Reader", name := "expect", desc := "(C)V" } : Jvm.MethodName) ∈ px_W := px_in (i := 4) (by decide +kernel) (by rfl)
theorem pw_5 : Jvm.Cond.selects "AllSworn$Reader" ({ cls := "AllSworn$Reader", name := "next", desc := "()I" } : Jvm.MethodName) ({ cls := "AllSworn$Reader", name := "next", desc := "()I" } : Jvm.MethodName) ∈ px_W := px_in (i := 5) (by decide +kernel) (by rfl)
theorem pw_6 : Jvm.Cond.selects "AllSworn$Reader" ({ cls := "AllSworn$Reader", name := "note", desc := "(II)V" } : Jvm.MethodName) ({ cls := "AllSworn$Reader", name := "note", desc := "(II)V" } : Jvm.MethodName) ∈ px_W := px_in (i := 6) (by decide +kernel) (by rfl)
theorem pw_7 : Jvm.Cond.selects "AllSworn$Reader" ({ cls := "AllSworn$Reader", name := "readNumber", desc := "(II)I" } : Jvm.MethodName) ({ cls := "AllSworn$Reader", name := "readNumber", desc := "(II)I" } : Jvm.MethodName) ∈ px_W := px_in (i := 7) (by decide +kernel) (by rfl)
theorem pw_8 : Jvm.Cond.selects "AllSworn$Reader" ({ cls := "AllSworn$Reader", name := "readThing", desc := "(LAllSworn$Realm;I)V" } : Jvm.MethodName) ({ cls := "AllSworn$Reader", name := "readThing", desc := "(LAllSworn$Realm;I)V" } : Jvm.MethodName) ∈ px_W := px_in (i := 8) (by decide +kernel) (by rfl)
theorem pw_9 : Jvm.Cond.selects "AllSworn$Reader" ({ cls := "AllSworn$Reader", name := "readHarm", desc := "(LAllSworn$Realm;)V" } : Jvm.MethodName) ({ cls := "AllSworn$Reader", name := "readHarm", desc := "(LAllSworn$Realm;)V" } : Jvm.MethodName) ∈ px_W := px_in (i := 9) (by decide +kernel) (by rfl)
theorem pw_10 : Jvm.Cond.selects "AllSworn$Realm" ({ cls := "AllSworn$Realm", name := "keepAct", desc := "(I)V" } : Jvm.MethodName) ({ cls := "AllSworn$Realm", name := "keepAct", desc := "(I)V" } : Jvm.MethodName) ∈ px_W := px_in (i := 10) (by decide +kernel) (by rfl)
theorem pw_11 : Jvm.Cond.selects "AllSworn$Realm" ({ cls := "AllSworn$Realm", name := "swear", desc := "(II)V" } : Jvm.MethodName) ({ cls := "AllSworn$Realm", name := "swear", desc := "(II)V" } : Jvm.MethodName) ∈ px_W := px_in (i := 11) (by decide +kernel) (by rfl)
theorem pw_12 : Jvm.Cond.selects "AllSworn" ({ cls := "AllSworn", name := "isAhead", desc := "(I)Z" } : Jvm.MethodName) ({ cls := "AllSworn", name := "isAhead", desc := "(I)Z" } : Jvm.MethodName) ∈ px_W := px_in (i := 12) (by decide +kernel) (by rfl)
theorem pw_13 : Jvm.Cond.selects "AllSworn$Oracle" ({ cls := "AllSworn$Oracle", name := "goOn", desc := "(III)V" } : Jvm.MethodName) ({ cls := "AllSworn$Oracle", name := "goOn", desc := "(III)V" } : Jvm.MethodName) ∈ px_W := px_in (i := 13) (by decide +kernel) (by rfl)
theorem pw_14 : Jvm.Cond.selects "AllSworn$Oracle" ({ cls := "AllSworn$Oracle", name := "keepWay", desc := "(II)V" } : Jvm.MethodName) ({ cls := "AllSworn$Oracle", name := "keepWay", desc := "(II)V" } : Jvm.MethodName) ∈ px_W := px_in (i := 14) (by decide +kernel) (by rfl)
theorem pw_15 : Jvm.Cond.selects "AllSworn" ({ cls := "AllSworn", name := "imageAt", desc := "(I)LAllSworn$Realm;" } : Jvm.MethodName) ({ cls := "AllSworn", name := "imageAt", desc := "(I)LAllSworn$Realm;" } : Jvm.MethodName) ∈ px_W := px_in (i := 15) (by decide +kernel) (by rfl)
theorem pw_16 : Jvm.Cond.selects "AllSworn" ({ cls := "AllSworn", name := "rowsThere", desc := "()I" } : Jvm.MethodName) ({ cls := "AllSworn", name := "rowsThere", desc := "()I" } : Jvm.MethodName) ∈ px_W := px_in (i := 16) (by decide +kernel) (by rfl)
theorem pw_17 : Jvm.Cond.selects "AllSwornModel" ({ cls := "AllSwornModel", name := "finds", desc := "(I)I" } : Jvm.MethodName) ({ cls := "AllSwornModel", name := "finds", desc := "(I)I" } : Jvm.MethodName) ∈ px_W := px_in (i := 17) (by decide +kernel) (by rfl)
theorem pw_18 : Jvm.Cond.selects "AllSwornModel" ({ cls := "AllSwornModel", name := "well", desc := "(I)I" } : Jvm.MethodName) ({ cls := "AllSwornModel", name := "well", desc := "(I)I" } : Jvm.MethodName) ∈ px_W := px_in (i := 18) (by decide +kernel) (by rfl)
theorem pw_19 : Jvm.Cond.selects "AllSwornModel" ({ cls := "AllSwornModel", name := "put", desc := "(II)V" } : Jvm.MethodName) ({ cls := "AllSwornModel", name := "put", desc := "(II)V" } : Jvm.MethodName) ∈ px_W := px_in (i := 19) (by decide +kernel) (by rfl)
theorem pw_20 : Jvm.Cond.selects "AllSwornModel" ({ cls := "AllSwornModel", name := "next", desc := "()V" } : Jvm.MethodName) ({ cls := "AllSwornModel", name := "next", desc := "()V" } : Jvm.MethodName) ∈ px_W := px_in (i := 20) (by decide +kernel) (by rfl)
theorem pw_21 : Jvm.Cond.selects "AllSwornModel" ({ cls := "AllSwornModel", name := "here", desc := "()I" } : Jvm.MethodName) ({ cls := "AllSwornModel", name := "here", desc := "()I" } : Jvm.MethodName) ∈ px_W := px_in (i := 21) (by decide +kernel) (by rfl)
theorem pw_22 : Jvm.Cond.selects "AllSwornModel" ({ cls := "AllSwornModel", name := "sign", desc := "(I)V" } : Jvm.MethodName) ({ cls := "AllSwornModel", name := "sign", desc := "(I)V" } : Jvm.MethodName) ∈ px_W := px_in (i := 22) (by decide +kernel) (by rfl)
theorem pw_23 : Jvm.Cond.selects "AllSwornModel" ({ cls := "AllSwornModel", name := "fails", desc := "(I)V" } : Jvm.MethodName) ({ cls := "AllSwornModel", name := "fails", desc := "(I)V" } : Jvm.MethodName) ∈ px_W := px_in (i := 23) (by decide +kernel) (by rfl)
theorem pw_24 : Jvm.Cond.selects "AllSwornModel" ({ cls := "AllSwornModel", name := "number", desc := "(III)I" } : Jvm.MethodName) ({ cls := "AllSwornModel", name := "number", desc := "(III)I" } : Jvm.MethodName) ∈ px_W := px_in (i := 24) (by decide +kernel) (by rfl)
theorem pw_25 : Jvm.Cond.selects "AllSwornModel" ({ cls := "AllSwornModel", name := "numberBut", desc := "(III)I" } : Jvm.MethodName) ({ cls := "AllSwornModel", name := "numberBut", desc := "(III)I" } : Jvm.MethodName) ∈ px_W := px_in (i := 25) (by decide +kernel) (by rfl)
theorem pw_26 : Jvm.Cond.selects "AllSwornModel" ({ cls := "AllSwornModel", name := "readThing", desc := "()V" } : Jvm.MethodName) ({ cls := "AllSwornModel", name := "readThing", desc := "()V" } : Jvm.MethodName) ∈ px_W := px_in (i := 26) (by decide +kernel) (by rfl)
theorem pw_27 : Jvm.Cond.selects "AllSwornModel" ({ cls := "AllSwornModel", name := "get", desc := "(I)I" } : Jvm.MethodName) ({ cls := "AllSwornModel", name := "get", desc := "(I)I" } : Jvm.MethodName) ∈ px_W := px_in (i := 27) (by decide +kernel) (by rfl)
theorem pw_28 : Jvm.Cond.selects "AllSwornModel" ({ cls := "AllSwornModel", name := "readHarm", desc := "()V" } : Jvm.MethodName) ({ cls := "AllSwornModel", name := "readHarm", desc := "()V" } : Jvm.MethodName) ∈ px_W := px_in (i := 28) (by decide +kernel) (by rfl)
theorem pw_29 : Jvm.Cond.selects "AllSwornModel" ({ cls := "AllSwornModel", name := "copyRealm", desc := "(II)V" } : Jvm.MethodName) ({ cls := "AllSwornModel", name := "copyRealm", desc := "(II)V" } : Jvm.MethodName) ∈ px_W := px_in (i := 29) (by decide +kernel) (by rfl)
theorem pw_30 : Jvm.Cond.selects "AllSwornModel" ({ cls := "AllSwornModel", name := "isThing", desc := "(I)Z" } : Jvm.MethodName) ({ cls := "AllSwornModel", name := "isThing", desc := "(I)Z" } : Jvm.MethodName) ∈ px_W := px_in (i := 30) (by decide +kernel) (by rfl)
theorem pw_31 : Jvm.Cond.selects "AllSwornModel" ({ cls := "AllSwornModel", name := "wayOf", desc := "(I)I" } : Jvm.MethodName) ({ cls := "AllSwornModel", name := "wayOf", desc := "(I)I" } : Jvm.MethodName) ∈ px_W := px_in (i := 31) (by decide +kernel) (by rfl)
theorem pw_32 : Jvm.Cond.selects "AllSwornModel" ({ cls := "AllSwornModel", name := "ofThing", desc := "(II)I" } : Jvm.MethodName) ({ cls := "AllSwornModel", name := "ofThing", desc := "(II)I" } : Jvm.MethodName) ∈ px_W := px_in (i := 32) (by decide +kernel) (by rfl)
theorem pw_33 : Jvm.Cond.selects "AllSwornModel" ({ cls := "AllSwornModel", name := "know", desc := "(I)V" } : Jvm.MethodName) ({ cls := "AllSwornModel", name := "know", desc := "(I)V" } : Jvm.MethodName) ∈ px_W := px_in (i := 33) (by decide +kernel) (by rfl)
theorem pw_34 : Jvm.Cond.selects "AllSwornModel" ({ cls := "AllSwornModel", name := "wouldSwear", desc := "(II)Z" } : Jvm.MethodName) ({ cls := "AllSwornModel", name := "wouldSwear", desc := "(II)Z" } : Jvm.MethodName) ∈ px_W := px_in (i := 34) (by decide +kernel) (by rfl)
theorem pw_35 : Jvm.Cond.selects "AllSwornModel" ({ cls := "AllSwornModel", name := "isHarm", desc := "(I)Z" } : Jvm.MethodName) ({ cls := "AllSwornModel", name := "isHarm", desc := "(I)Z" } : Jvm.MethodName) ∈ px_W := px_in (i := 35) (by decide +kernel) (by rfl)
theorem pw_36 : Jvm.Cond.selects "AllSwornModel" ({ cls := "AllSwornModel", name := "openAsSworn", desc := "(I)I" } : Jvm.MethodName) ({ cls := "AllSwornModel", name := "openAsSworn", desc := "(I)I" } : Jvm.MethodName) ∈ px_W := px_in (i := 36) (by decide +kernel) (by rfl)
theorem pw_37 : Jvm.Cond.selects "AllSwornModel" ({ cls := "AllSwornModel", name := "asSworn", desc := "()V" } : Jvm.MethodName) ({ cls := "AllSwornModel", name := "asSworn", desc := "()V" } : Jvm.MethodName) ∈ px_W := px_in (i := 37) (by decide +kernel) (by rfl)
theorem pw_38 : Jvm.Cond.selects "AllSwornModel" ({ cls := "AllSwornModel", name := "openOn", desc := "(I)I" } : Jvm.MethodName) ({ cls := "AllSwornModel", name := "openOn", desc := "(I)I" } : Jvm.MethodName) ∈ px_W := px_in (i := 38) (by decide +kernel) (by rfl)
theorem pw_39 : Jvm.Cond.selects "AllSwornModel" ({ cls := "AllSwornModel", name := "boundOn", desc := "(II)I" } : Jvm.MethodName) ({ cls := "AllSwornModel", name := "boundOn", desc := "(II)I" } : Jvm.MethodName) ∈ px_W := px_in (i := 39) (by decide +kernel) (by rfl)
theorem pw_40 : Jvm.Cond.selects "AllSwornModel" ({ cls := "AllSwornModel", name := "openBy", desc := "(I)I" } : Jvm.MethodName) ({ cls := "AllSwornModel", name := "openBy", desc := "(I)I" } : Jvm.MethodName) ∈ px_W := px_in (i := 40) (by decide +kernel) (by rfl)
theorem pw_41 : Jvm.Cond.selects "AllSwornModel" ({ cls := "AllSwornModel", name := "hasRealm", desc := "()Z" } : Jvm.MethodName) ({ cls := "AllSwornModel", name := "hasRealm", desc := "()Z" } : Jvm.MethodName) ∈ px_W := px_in (i := 41) (by decide +kernel) (by rfl)
theorem pw_42 : Jvm.Cond.selects "AllSwornModel" ({ cls := "AllSwornModel", name := "sumOf", desc := "(I)I" } : Jvm.MethodName) ({ cls := "AllSwornModel", name := "sumOf", desc := "(I)I" } : Jvm.MethodName) ∈ px_W := px_in (i := 42) (by decide +kernel) (by rfl)
theorem pw_43 : Jvm.Cond.selects "AllSwornModel" ({ cls := "AllSwornModel", name := "isDay", desc := "(I)Z" } : Jvm.MethodName) ({ cls := "AllSwornModel", name := "isDay", desc := "(I)Z" } : Jvm.MethodName) ∈ px_W := px_in (i := 43) (by decide +kernel) (by rfl)
theorem pw_44 : Jvm.Cond.selects "AllSwornModel" ({ cls := "AllSwornModel", name := "covers", desc := "(I)Z" } : Jvm.MethodName) ({ cls := "AllSwornModel", name := "covers", desc := "(I)Z" } : Jvm.MethodName) ∈ px_W := px_in (i := 44) (by decide +kernel) (by rfl)
theorem pw_45 : Jvm.Cond.selects "AllSwornModel" ({ cls := "AllSwornModel", name := "goesRound", desc := "(II)Z" } : Jvm.MethodName) ({ cls := "AllSwornModel", name := "goesRound", desc := "(II)Z" } : Jvm.MethodName) ∈ px_W := px_in (i := 45) (by decide +kernel) (by rfl)
theorem pw_46 : Jvm.Cond.selects "AllSwornModel" ({ cls := "AllSwornModel", name := "cheapestOf", desc := "(I)I" } : Jvm.MethodName) ({ cls := "AllSwornModel", name := "cheapestOf", desc := "(I)I" } : Jvm.MethodName) ∈ px_W := px_in (i := 46) (by decide +kernel) (by rfl)
theorem pw_47 : Jvm.Cond.selects "AllSwornModel" ({ cls := "AllSwornModel", name := "dearBy", desc := "(II)I" } : Jvm.MethodName) ({ cls := "AllSwornModel", name := "dearBy", desc := "(II)I" } : Jvm.MethodName) ∈ px_W := px_in (i := 47) (by decide +kernel) (by rfl)
theorem pw_48 : Jvm.Cond.selects "AllSwornModel" ({ cls := "AllSwornModel", name := "ofKinds", desc := "(I)I" } : Jvm.MethodName) ({ cls := "AllSwornModel", name := "ofKinds", desc := "(I)I" } : Jvm.MethodName) ∈ px_W := px_in (i := 48) (by decide +kernel) (by rfl)
theorem pw_49 : Jvm.Cond.selects "AllSwornModel" ({ cls := "AllSwornModel", name := "sizeOf", desc := "(I)I" } : Jvm.MethodName) ({ cls := "AllSwornModel", name := "sizeOf", desc := "(I)I" } : Jvm.MethodName) ∈ px_W := px_in (i := 49) (by decide +kernel) (by rfl)
theorem pw_50 : Jvm.Cond.selects "AllSwornModel" ({ cls := "AllSwornModel", name := "size12", desc := "(I)I" } : Jvm.MethodName) ({ cls := "AllSwornModel", name := "size12", desc := "(I)I" } : Jvm.MethodName) ∈ px_W := px_in (i := 50) (by decide +kernel) (by rfl)
theorem pw_51 : Jvm.Cond.selects "AllSwornModel" ({ cls := "AllSwornModel", name := "leaves", desc := "(I)V" } : Jvm.MethodName) ({ cls := "AllSwornModel", name := "leaves", desc := "(I)V" } : Jvm.MethodName) ∈ px_W := px_in (i := 51) (by decide +kernel) (by rfl)
theorem pw_52 : Jvm.Cond.selects "AllSwornModel" ({ cls := "AllSwornModel", name := "size11", desc := "(I)I" } : Jvm.MethodName) ({ cls := "AllSwornModel", name := "size11", desc := "(I)I" } : Jvm.MethodName) ∈ px_W := px_in (i := 52) (by decide +kernel) (by rfl)
theorem pw_53 : Jvm.Cond.selects "AllSwornModel" ({ cls := "AllSwornModel", name := "size10", desc := "(I)I" } : Jvm.MethodName) ({ cls := "AllSwornModel", name := "size10", desc := "(I)I" } : Jvm.MethodName) ∈ px_W := px_in (i := 53) (by decide +kernel) (by rfl)
theorem pw_54 : Jvm.Cond.selects "AllSwornModel" ({ cls := "AllSwornModel", name := "markOf", desc := "(I)I" } : Jvm.MethodName) ({ cls := "AllSwornModel", name := "markOf", desc := "(I)I" } : Jvm.MethodName) ∈ px_W := px_in (i := 54) (by decide +kernel) (by rfl)
theorem pw_55 : Jvm.Cond.selects "AllSwornModel" ({ cls := "AllSwornModel", name := "mark21", desc := "(I)I" } : Jvm.MethodName) ({ cls := "AllSwornModel", name := "mark21", desc := "(I)I" } : Jvm.MethodName) ∈ px_W := px_in (i := 55) (by decide +kernel) (by rfl)
theorem pw_56 : Jvm.Cond.selects "AllSwornModel" ({ cls := "AllSwornModel", name := "mark20", desc := "(I)I" } : Jvm.MethodName) ({ cls := "AllSwornModel", name := "mark20", desc := "(I)I" } : Jvm.MethodName) ∈ px_W := px_in (i := 56) (by decide +kernel) (by rfl)
theorem pw_57 : Jvm.Cond.selects "AllSwornModel" ({ cls := "AllSwornModel", name := "inHarms", desc := "(I)I" } : Jvm.MethodName) ({ cls := "AllSwornModel", name := "inHarms", desc := "(I)I" } : Jvm.MethodName) ∈ px_W := px_in (i := 57) (by decide +kernel) (by rfl)
theorem pw_58 : Jvm.Cond.selects "AllSwornModel" ({ cls := "AllSwornModel", name := "mark24", desc := "(I)I" } : Jvm.MethodName) ({ cls := "AllSwornModel", name := "mark24", desc := "(I)I" } : Jvm.MethodName) ∈ px_W := px_in (i := 58) (by decide +kernel) (by rfl)
theorem pw_59 : Jvm.Cond.selects "AllSwornModel" ({ cls := "AllSwornModel", name := "mark22", desc := "(I)I" } : Jvm.MethodName) ({ cls := "AllSwornModel", name := "mark22", desc := "(I)I" } : Jvm.MethodName) ∈ px_W := px_in (i := 59) (by decide +kernel) (by rfl)
theorem pw_60 : Jvm.Cond.selects "AllSwornModel" ({ cls := "AllSwornModel", name := "mark23", desc := "(I)I" } : Jvm.MethodName) ({ cls := "AllSwornModel", name := "mark23", desc := "(I)I" } : Jvm.MethodName) ∈ px_W := px_in (i := 60) (by decide +kernel) (by rfl)
theorem pw_61 : Jvm.Cond.selects "AllSwornModel" ({ cls := "AllSwornModel", name := "size14", desc := "(I)I" } : Jvm.MethodName) ({ cls := "AllSwornModel", name := "size14", desc := "(I)I" } : Jvm.MethodName) ∈ px_W := px_in (i := 61) (by decide +kernel) (by rfl)
theorem pw_62 : Jvm.Cond.selects "AllSwornModel" ({ cls := "AllSwornModel", name := "size13", desc := "(I)I" } : Jvm.MethodName) ({ cls := "AllSwornModel", name := "size13", desc := "(I)I" } : Jvm.MethodName) ∈ px_W := px_in (i := 62) (by decide +kernel) (by rfl)
theorem pw_64 : Jvm.Cond.initialized "AllSworn" ∈ px_W := px_in (i := 64) (by decide +kernel) (by rfl)
theorem pw_65 : Jvm.Cond.initialized "AllSworn$Reader" ∈ px_W := px_in (i := 65) (by decide +kernel) (by rfl)
theorem pw_66 : Jvm.Cond.initialized "AllSworn$Realm" ∈ px_W := px_in (i := 66) (by decide +kernel) (by rfl)
theorem pw_67 : Jvm.Cond.initialized "AllSworn$Oracle" ∈ px_W := px_in (i := 67) (by decide +kernel) (by rfl)
theorem pw_68 : Jvm.Cond.initialized "AllSworn$Trace" ∈ px_W := px_in (i := 68) (by decide +kernel) (by rfl)
theorem pw_69 : Jvm.Cond.initialized "AllSworn$Row" ∈ px_W := px_in (i := 69) (by decide +kernel) (by rfl)
theorem pw_70 : Jvm.Cond.initialized "AllSwornModel" ∈ px_W := px_in (i := 70) (by decide +kernel) (by rfl)
theorem pw_71 : Jvm.Cond.initialized "java/util/Arrays" ∈ px_W := px_in (i := 71) (by decide +kernel) (by rfl)
theorem pw_72 : Jvm.Cond.initialized "java/lang/System" ∈ px_W := px_in (i := 72) (by decide +kernel) (by rfl)
theorem pw_73 : Jvm.Cond.initialized "AllSworn$Thing" ∈ px_W := px_in (i := 73) (by decide +kernel) (by rfl)
theorem pw_74 : Jvm.Cond.initialized "AllSworn$Plain" ∈ px_W := px_in (i := 74) (by decide +kernel) (by rfl)
theorem pw_75 : Jvm.Cond.initialized "AllSworn$Mixed" ∈ px_W := px_in (i := 75) (by decide +kernel) (by rfl)
theorem pw_76 : Jvm.Cond.initialized "AllSworn$Young" ∈ px_W := px_in (i := 76) (by decide +kernel) (by rfl)
theorem pw_77 : Jvm.Cond.initialized "AllSworn$Foreign" ∈ px_W := px_in (i := 77) (by decide +kernel) (by rfl)
theorem pw_78 : Jvm.Cond.initialized "AllSworn$Untrue" ∈ px_W := px_in (i := 78) (by decide +kernel) (by rfl)
theorem pw_79 : Jvm.Cond.initialized "java/lang/Math" ∈ px_W := px_in (i := 79) (by decide +kernel) (by rfl)
theorem pw_80 : Jvm.Cond.initialized "java/lang/Integer" ∈ px_W := px_in (i := 80) (by decide +kernel) (by rfl)
theorem pw_82 : Jvm.Cond.instantiable "AllSworn" (9 : Nat) ∈ px_W := px_in (i := 82) (by decide +kernel) (by rfl)
theorem pw_85 : Jvm.Cond.code ({ cls := "AllSworn", name := "<init>", desc := "()V" } : Jvm.MethodName) prog_1_method_1_code (2 : Nat) (Option.none : Option Jvm.ClassFile.FieldType) ∈ px_W := px_in (i := 85) (by decide +kernel) (by rfl)
theorem pw_86 : Jvm.Cond.methodLink "AllSworn" (1 : Nat) ({ cls := "java/lang/Object", name := "<init>", desc := "()V" } : Jvm.MethodName) ∈ px_W := px_in (i := 86) (by decide +kernel) (by rfl)
theorem pw_87 : Jvm.Cond.instanceMethod ({ cls := "java/lang/Object", name := "<init>", desc := "()V" } : Jvm.MethodName) ∈ px_W := px_in (i := 87) (by decide +kernel) (by rfl)
theorem pw_88 : Jvm.Cond.code ({ cls := "java/lang/Object", name := "<init>", desc := "()V" } : Jvm.MethodName) object_method_1_code (1 : Nat) (Option.none : Option Jvm.ClassFile.FieldType) ∈ px_W := px_in (i := 88) (by decide +kernel) (by rfl)
theorem pw_89 : Jvm.Cond.classLink "AllSworn" (9 : Nat) "AllSworn$Row" ∈ px_W := px_in (i := 89) (by decide +kernel) (by rfl)
theorem pw_90 : Jvm.Cond.arrayOver (Jvm.ClassFile.FieldType.object "AllSworn$Row") ∈ px_Z := px_inZ (i := 90) (by decide +kernel) (by rfl)
theorem pw_91 : Jvm.Cond.classLink "AllSworn" (15 : Nat) "AllSworn$Reader" ∈ px_W := px_in (i := 91) (by decide +kernel) (by rfl)
theorem pw_92 : Jvm.Cond.instantiable "AllSworn$Reader" (5 : Nat) ∈ px_W := px_in (i := 92) (by decide +kernel) (by rfl)
theorem pw_93 : Jvm.Cond.methodLinkNest "AllSworn" (17 : Nat) ({ cls := "AllSworn$Reader", name := "<init>", desc := "()V" } : Jvm.MethodName) "AllSworn" ∈ px_Z := px_inZ (i := 93) (by decide +kernel) (by rfl)
theorem pw_94 : Jvm.Cond.instanceMethod ({ cls := "AllSworn$Reader", name := "<init>", desc := "()V" } : Jvm.MethodName) ∈ px_W := px_in (i := 94) (by decide +kernel) (by rfl)
theorem pw_95 : Jvm.Cond.code ({ cls := "AllSworn$Reader", name := "<init>", desc := "()V" } : Jvm.MethodName) prog_6_method_1_code (1 : Nat) (Option.none : Option Jvm.ClassFile.FieldType) ∈ px_W := px_in (i := 95) (by decide +kernel) (by rfl)
theorem pw_96 : Jvm.Cond.methodLink "AllSworn$Reader" (3 : Nat) ({ cls := "java/lang/Object", name := "<init>", desc := "()V" } : Jvm.MethodName) ∈ px_W := px_in (i := 96) (by decide +kernel) (by rfl)
theorem pw_97 : Jvm.Cond.fieldLink "AllSworn$Reader" (11 : Nat) "AllSworn$Reader" "tape" "[I" ∈ px_W := px_in (i := 97) (by decide +kernel) (by rfl)
theorem pw_98 : Jvm.Cond.fieldLink "AllSworn$Reader" (15 : Nat) "AllSworn$Reader" "length" "I" ∈ px_W := px_in (i := 98) (by decide +kernel) (by rfl)
theorem pw_99 : Jvm.Cond.fieldLinkNest "AllSworn" (103 : Nat) "AllSworn$Reader" "length" "I" "AllSworn" ∈ px_Z := px_inZ (i := 99) (by decide +kernel) (by rfl)
theorem pw_100 : Jvm.Cond.fieldLink "AllSworn$Reader" (19 : Nat) "AllSworn$Reader" "at" "I" ∈ px_W := px_in (i := 100) (by decide +kernel) (by rfl)
theorem pw_101 : Jvm.Cond.fieldLink "AllSworn$Reader" (22 : Nat) "AllSworn$Reader" "wrong" "I" ∈ px_W := px_in (i := 101) (by decide +kernel) (by rfl)
theorem pw_102 : Jvm.Cond.fieldLinkNest "AllSworn" (111 : Nat) "AllSworn$Reader" "wrong" "I" "AllSworn" ∈ px_Z := px_inZ (i := 102) (by decide +kernel) (by rfl)
theorem pw_103 : Jvm.Cond.fieldLink "AllSworn$Reader" (25 : Nat) "AllSworn$Reader" "wrongPlace" "I" ∈ px_W := px_in (i := 103) (by decide +kernel) (by rfl)
theorem pw_104 : Jvm.Cond.fieldLinkNest "AllSworn" (115 : Nat) "AllSworn$Reader" "wrongPlace" "I" "AllSworn" ∈ px_Z := px_inZ (i := 104) (by decide +kernel) (by rfl)
theorem pw_105 : Jvm.Cond.laysFinal "AllSworn$Reader" "AllSworn$Reader" "tape" "[I" ∈ px_W := px_in (i := 105) (by decide +kernel) (by rfl)
theorem pw_107 : Jvm.Cond.lays "AllSworn$Reader" "AllSworn$Reader" "length" "I" ∈ px_W := px_in (i := 107) (by decide +kernel) (by rfl)
theorem pw_109 : Jvm.Cond.lays "AllSworn$Reader" "AllSworn$Reader" "at" "I" ∈ px_W := px_in (i := 109) (by decide +kernel) (by rfl)
theorem pw_111 : Jvm.Cond.lays "AllSworn$Reader" "AllSworn$Reader" "wrong" "I" ∈ px_W := px_in (i := 111) (by decide +kernel) (by rfl)
theorem pw_113 : Jvm.Cond.lays "AllSworn$Reader" "AllSworn$Reader" "wrongPlace" "I" ∈ px_W := px_in (i := 113) (by decide +kernel) (by rfl)
theorem pw_116 : Jvm.Cond.arrayClass Jvm.ClassFile.FieldType.int ∈ px_W := px_in (i := 116) (by decide +kernel) (by rfl)
theorem pw_117 : Jvm.Cond.classLink "AllSworn" (22 : Nat) "AllSworn$Realm" ∈ px_W := px_in (i := 117) (by decide +kernel) (by rfl)
theorem pw_118 : Jvm.Cond.instantiable "AllSworn$Realm" (10 : Nat) ∈ px_W := px_in (i := 118) (by decide +kernel) (by rfl)
theorem pw_119 : Jvm.Cond.methodLinkNest "AllSworn" (24 : Nat) ({ cls := "AllSworn$Realm", name := "<init>", desc := "()V" } : Jvm.MethodName) "AllSworn" ∈ px_Z := px_inZ (i := 119) (by decide +kernel) (by rfl)
theorem pw_120 : Jvm.Cond.instanceMethod ({ cls := "AllSworn$Realm", name := "<init>", desc := "()V" } : Jvm.MethodName) ∈ px_W := px_in (i := 120) (by decide +kernel) (by rfl)
theorem pw_121 : Jvm.Cond.code ({ cls := "AllSworn$Realm", name := "<init>", desc := "()V" } : Jvm.MethodName) prog_7_method_1_code (1 : Nat) (Option.none : Option Jvm.ClassFile.FieldType) ∈ px_W := px_in (i := 121) (by decide +kernel) (by rfl)
theorem pw_122 : Jvm.Cond.methodLink "AllSworn$Realm" (3 : Nat) ({ cls := "java/lang/Object", name := "<init>", desc := "()V" } : Jvm.MethodName) ∈ px_W := px_in (i := 122) (by decide +kernel) (by rfl)
theorem pw_123 : Jvm.Cond.classLink "AllSworn$Realm" (9 : Nat) "AllSworn$Thing" ∈ px_W := px_in (i := 123) (by decide +kernel) (by rfl)
theorem pw_124 : Jvm.Cond.arrayOver (Jvm.ClassFile.FieldType.object "AllSworn$Thing") ∈ px_Z := px_inZ (i := 124) (by decide +kernel) (by rfl)
theorem pw_125 : Jvm.Cond.fieldLink "AllSworn$Realm" (11 : Nat) "AllSworn$Realm" "things" "[LAllSworn$Thing;" ∈ px_W := px_in (i := 125) (by decide +kernel) (by rfl)
theorem pw_126 : Jvm.Cond.fieldLink "AllSworn$Realm" (17 : Nat) "AllSworn$Realm" "sworn" "[I" ∈ px_W := px_in (i := 126) (by decide +kernel) (by rfl)
theorem pw_127 : Jvm.Cond.fieldLink "AllSworn$Realm" (21 : Nat) "AllSworn$Realm" "harms" "[I" ∈ px_W := px_in (i := 127) (by decide +kernel) (by rfl)
theorem pw_128 : Jvm.Cond.fieldLink "AllSworn$Realm" (24 : Nat) "AllSworn$Realm" "acts" "[I" ∈ px_W := px_in (i := 128) (by decide +kernel) (by rfl)
theorem pw_129 : Jvm.Cond.fieldLink "AllSworn$Realm" (27 : Nat) "AllSworn$Realm" "term" "I" ∈ px_W := px_in (i := 129) (by decide +kernel) (by rfl)
theorem pw_130 : Jvm.Cond.fieldLinkNest "AllSworn$Oracle" (52 : Nat) "AllSworn$Realm" "term" "I" "AllSworn" ∈ px_Z := px_inZ (i := 130) (by decide +kernel) (by rfl)
theorem pw_131 : Jvm.Cond.fieldLinkNest "AllSworn" (288 : Nat) "AllSworn$Realm" "term" "I" "AllSworn" ∈ px_Z := px_inZ (i := 131) (by decide +kernel) (by rfl)
theorem pw_132 : Jvm.Cond.fieldLink "AllSworn$Realm" (31 : Nat) "AllSworn$Realm" "thingCount" "I" ∈ px_W := px_in (i := 132) (by decide +kernel) (by rfl)
theorem pw_133 : Jvm.Cond.fieldLinkNest "AllSworn$Oracle" (44 : Nat) "AllSworn$Realm" "thingCount" "I" "AllSworn" ∈ px_Z := px_inZ (i := 133) (by decide +kernel) (by rfl)
theorem pw_134 : Jvm.Cond.fieldLinkNest "AllSworn$Reader" (65 : Nat) "AllSworn$Realm" "thingCount" "I" "AllSworn" ∈ px_Z := px_inZ (i := 134) (by decide +kernel) (by rfl)
theorem pw_135 : Jvm.Cond.fieldLinkNest "AllSworn" (122 : Nat) "AllSworn$Realm" "thingCount" "I" "AllSworn" ∈ px_Z := px_inZ (i := 135) (by decide +kernel) (by rfl)
theorem pw_136 : Jvm.Cond.fieldLink "AllSworn$Realm" (34 : Nat) "AllSworn$Realm" "harmCount" "I" ∈ px_W := px_in (i := 136) (by decide +kernel) (by rfl)
theorem pw_137 : Jvm.Cond.fieldLinkNest "AllSworn$Reader" (50 : Nat) "AllSworn$Realm" "harmCount" "I" "AllSworn" ∈ px_Z := px_inZ (i := 137) (by decide +kernel) (by rfl)
theorem pw_138 : Jvm.Cond.fieldLinkNest "AllSworn$Oracle" (114 : Nat) "AllSworn$Realm" "harmCount" "I" "AllSworn" ∈ px_Z := px_inZ (i := 138) (by decide +kernel) (by rfl)
theorem pw_139 : Jvm.Cond.fieldLinkNest "AllSworn" (282 : Nat) "AllSworn$Realm" "harmCount" "I" "AllSworn" ∈ px_Z := px_inZ (i := 139) (by decide +kernel) (by rfl)
theorem pw_140 : Jvm.Cond.fieldLink "AllSworn$Realm" (37 : Nat) "AllSworn$Realm" "actCount" "I" ∈ px_W := px_in (i := 140) (by decide +kernel) (by rfl)
theorem pw_141 : Jvm.Cond.fieldLinkNest "AllSworn" (159 : Nat) "AllSworn$Realm" "actCount" "I" "AllSworn" ∈ px_Z := px_inZ (i := 141) (by decide +kernel) (by rfl)
theorem pw_142 : Jvm.Cond.fieldLink "AllSworn$Realm" (40 : Nat) "AllSworn$Realm" "day" "I" ∈ px_W := px_in (i := 142) (by decide +kernel) (by rfl)
theorem pw_143 : Jvm.Cond.fieldLinkNest "AllSworn$Oracle" (33 : Nat) "AllSworn$Realm" "day" "I" "AllSworn" ∈ px_Z := px_inZ (i := 143) (by decide +kernel) (by rfl)
theorem pw_144 : Jvm.Cond.fieldLinkNest "AllSworn" (129 : Nat) "AllSworn$Realm" "day" "I" "AllSworn" ∈ px_Z := px_inZ (i := 144) (by decide +kernel) (by rfl)
theorem pw_145 : Jvm.Cond.fieldLink "AllSworn$Realm" (43 : Nat) "AllSworn$Realm" "hits" "I" ∈ px_W := px_in (i := 145) (by decide +kernel) (by rfl)
theorem pw_146 : Jvm.Cond.fieldLinkNest "AllSworn" (285 : Nat) "AllSworn$Realm" "hits" "I" "AllSworn" ∈ px_Z := px_inZ (i := 146) (by decide +kernel) (by rfl)
theorem pw_147 : Jvm.Cond.laysFinal "AllSworn$Realm" "AllSworn$Realm" "things" "[LAllSworn$Thing;" ∈ px_W := px_in (i := 147) (by decide +kernel) (by rfl)
theorem pw_149 : Jvm.Cond.laysFinal "AllSworn$Realm" "AllSworn$Realm" "sworn" "[I" ∈ px_W := px_in (i := 149) (by decide +kernel) (by rfl)
theorem pw_151 : Jvm.Cond.laysFinal "AllSworn$Realm" "AllSworn$Realm" "harms" "[I" ∈ px_W := px_in (i := 151) (by decide +kernel) (by rfl)
theorem pw_153 : Jvm.Cond.laysFinal "AllSworn$Realm" "AllSworn$Realm" "acts" "[I" ∈ px_W := px_in (i := 153) (by decide +kernel) (by rfl)
theorem pw_155 : Jvm.Cond.lays "AllSworn$Realm" "AllSworn$Realm" "term" "I" ∈ px_W := px_in (i := 155) (by decide +kernel) (by rfl)
theorem pw_157 : Jvm.Cond.lays "AllSworn$Realm" "AllSworn$Realm" "thingCount" "I" ∈ px_W := px_in (i := 157) (by decide +kernel) (by rfl)
theorem pw_159 : Jvm.Cond.lays "AllSworn$Realm" "AllSworn$Realm" "harmCount" "I" ∈ px_W := px_in (i := 159) (by decide +kernel) (by rfl)
theorem pw_161 : Jvm.Cond.lays "AllSworn$Realm" "AllSworn$Realm" "actCount" "I" ∈ px_W := px_in (i := 161) (by decide +kernel) (by rfl)
theorem pw_163 : Jvm.Cond.lays "AllSworn$Realm" "AllSworn$Realm" "day" "I" ∈ px_W := px_in (i := 163) (by decide +kernel) (by rfl)
theorem pw_165 : Jvm.Cond.lays "AllSworn$Realm" "AllSworn$Realm" "hits" "I" ∈ px_W := px_in (i := 165) (by decide +kernel) (by rfl)
theorem pw_168 : Jvm.Cond.arrayOver (Jvm.ClassFile.FieldType.object "AllSworn$Realm") ∈ px_Z := px_inZ (i := 168) (by decide +kernel) (by rfl)
theorem pw_169 : Jvm.Cond.classLink "AllSworn" (36 : Nat) "AllSworn$Oracle" ∈ px_W := px_in (i := 169) (by decide +kernel) (by rfl)
theorem pw_170 : Jvm.Cond.instantiable "AllSworn$Oracle" (5 : Nat) ∈ px_W := px_in (i := 170) (by decide +kernel) (by rfl)
theorem pw_171 : Jvm.Cond.methodLinkNest "AllSworn" (38 : Nat) ({ cls := "AllSworn$Oracle", name := "<init>", desc := "()V" } : Jvm.MethodName) "AllSworn" ∈ px_Z := px_inZ (i := 171) (by decide +kernel) (by rfl)
theorem pw_172 : Jvm.Cond.instanceMethod ({ cls := "AllSworn$Oracle", name := "<init>", desc := "()V" } : Jvm.MethodName) ∈ px_W := px_in (i := 172) (by decide +kernel) (by rfl)
theorem pw_173 : Jvm.Cond.code ({ cls := "AllSworn$Oracle", name := "<init>", desc := "()V" } : Jvm.MethodName) prog_4_method_1_code (1 : Nat) (Option.none : Option Jvm.ClassFile.FieldType) ∈ px_W := px_in (i := 173) (by decide +kernel) (by rfl)
theorem pw_174 : Jvm.Cond.methodLink "AllSworn$Oracle" (3 : Nat) ({ cls := "java/lang/Object", name := "<init>", desc := "()V" } : Jvm.MethodName) ∈ px_W := px_in (i := 174) (by decide +kernel) (by rfl)
theorem pw_175 : Jvm.Cond.classLink "AllSworn$Oracle" (9 : Nat) "AllSworn$Realm" ∈ px_W := px_in (i := 175) (by decide +kernel) (by rfl)
theorem pw_176 : Jvm.Cond.methodLinkNest "AllSworn$Oracle" (11 : Nat) ({ cls := "AllSworn$Realm", name := "<init>", desc := "()V" } : Jvm.MethodName) "AllSworn" ∈ px_Z := px_inZ (i := 176) (by decide +kernel) (by rfl)
theorem pw_177 : Jvm.Cond.constant "AllSworn$Oracle" (25 : Nat) (-1000000 : Int32) ∈ px_W := px_in (i := 177) (by decide +kernel) (by rfl)
theorem pw_178 : Jvm.Cond.fieldLink "AllSworn$Oracle" (12 : Nat) "AllSworn$Oracle" "dream" "LAllSworn$Realm;" ∈ px_W := px_in (i := 178) (by decide +kernel) (by rfl)
theorem pw_179 : Jvm.Cond.fieldLink "AllSworn$Oracle" (18 : Nat) "AllSworn$Oracle" "way" "[I" ∈ px_W := px_in (i := 179) (by decide +kernel) (by rfl)
theorem pw_180 : Jvm.Cond.fieldLink "AllSworn$Oracle" (22 : Nat) "AllSworn$Oracle" "bestWay" "[I" ∈ px_W := px_in (i := 180) (by decide +kernel) (by rfl)
theorem pw_181 : Jvm.Cond.fieldLink "AllSworn$Oracle" (26 : Nat) "AllSworn$Oracle" "bestDays" "I" ∈ px_W := px_in (i := 181) (by decide +kernel) (by rfl)
theorem pw_182 : Jvm.Cond.fieldLinkNest "AllSworn" (205 : Nat) "AllSworn$Oracle" "bestDays" "I" "AllSworn" ∈ px_Z := px_inZ (i := 182) (by decide +kernel) (by rfl)
theorem pw_183 : Jvm.Cond.fieldLink "AllSworn$Oracle" (30 : Nat) "AllSworn$Oracle" "bestLength" "I" ∈ px_W := px_in (i := 183) (by decide +kernel) (by rfl)
theorem pw_184 : Jvm.Cond.fieldLinkNest "AllSworn" (208 : Nat) "AllSworn$Oracle" "bestLength" "I" "AllSworn" ∈ px_Z := px_inZ (i := 184) (by decide +kernel) (by rfl)
theorem pw_185 : Jvm.Cond.laysFinal "AllSworn$Oracle" "AllSworn$Oracle" "dream" "LAllSworn$Realm;" ∈ px_W := px_in (i := 185) (by decide +kernel) (by rfl)
theorem pw_187 : Jvm.Cond.laysFinal "AllSworn$Oracle" "AllSworn$Oracle" "way" "[I" ∈ px_W := px_in (i := 187) (by decide +kernel) (by rfl)
theorem pw_189 : Jvm.Cond.laysFinal "AllSworn$Oracle" "AllSworn$Oracle" "bestWay" "[I" ∈ px_W := px_in (i := 189) (by decide +kernel) (by rfl)
theorem pw_191 : Jvm.Cond.lays "AllSworn$Oracle" "AllSworn$Oracle" "bestDays" "I" ∈ px_W := px_in (i := 191) (by decide +kernel) (by rfl)
theorem pw_193 : Jvm.Cond.lays "AllSworn$Oracle" "AllSworn$Oracle" "bestLength" "I" ∈ px_W := px_in (i := 193) (by decide +kernel) (by rfl)
theorem pw_196 : Jvm.Cond.classLink "AllSworn" (43 : Nat) "AllSworn$Trace" ∈ px_W := px_in (i := 196) (by decide +kernel) (by rfl)
theorem pw_197 : Jvm.Cond.instantiable "AllSworn$Trace" (2 : Nat) ∈ px_W := px_in (i := 197) (by decide +kernel) (by rfl)
theorem pw_198 : Jvm.Cond.methodLinkNest "AllSworn" (45 : Nat) ({ cls := "AllSworn$Trace", name := "<init>", desc := "()V" } : Jvm.MethodName) "AllSworn" ∈ px_Z := px_inZ (i := 198) (by decide +kernel) (by rfl)
theorem pw_199 : Jvm.Cond.instanceMethod ({ cls := "AllSworn$Trace", name := "<init>", desc := "()V" } : Jvm.MethodName) ∈ px_W := px_in (i := 199) (by decide +kernel) (by rfl)
theorem pw_200 : Jvm.Cond.code ({ cls := "AllSworn$Trace", name := "<init>", desc := "()V" } : Jvm.MethodName) prog_10_method_1_code (1 : Nat) (Option.none : Option Jvm.ClassFile.FieldType) ∈ px_W := px_in (i := 200) (by decide +kernel) (by rfl)
theorem pw_201 : Jvm.Cond.methodLink "AllSworn$Trace" (3 : Nat) ({ cls := "java/lang/Object", name := "<init>", desc := "()V" } : Jvm.MethodName) ∈ px_W := px_in (i := 201) (by decide +kernel) (by rfl)
theorem pw_202 : Jvm.Cond.fieldLink "AllSworn$Trace" (11 : Nat) "AllSworn$Trace" "numbers" "[I" ∈ px_W := px_in (i := 202) (by decide +kernel) (by rfl)
theorem pw_203 : Jvm.Cond.fieldLink "AllSworn$Trace" (15 : Nat) "AllSworn$Trace" "length" "I" ∈ px_W := px_in (i := 203) (by decide +kernel) (by rfl)
theorem pw_204 : Jvm.Cond.laysFinal "AllSworn$Trace" "AllSworn$Trace" "numbers" "[I" ∈ px_W := px_in (i := 204) (by decide +kernel) (by rfl)
theorem pw_206 : Jvm.Cond.lays "AllSworn$Trace" "AllSworn$Trace" "length" "I" ∈ px_W := px_in (i := 206) (by decide +kernel) (by rfl)
theorem pw_209 : Jvm.Cond.instantiable "AllSworn$Row" (3 : Nat) ∈ px_W := px_in (i := 209) (by decide +kernel) (by rfl)
theorem pw_210 : Jvm.Cond.methodLinkNest "AllSworn" (57 : Nat) ({ cls := "AllSworn$Row", name := "<init>", desc := "()V" } : Jvm.MethodName) "AllSworn" ∈ px_Z := px_inZ (i := 210) (by decide +kernel) (by rfl)
theorem pw_211 : Jvm.Cond.instanceMethod ({ cls := "AllSworn$Row", name := "<init>", desc := "()V" } : Jvm.MethodName) ∈ px_W := px_in (i := 211) (by decide +kernel) (by rfl)
theorem pw_212 : Jvm.Cond.code ({ cls := "AllSworn$Row", name := "<init>", desc := "()V" } : Jvm.MethodName) prog_8_method_1_code (1 : Nat) (Option.none : Option Jvm.ClassFile.FieldType) ∈ px_W := px_in (i := 212) (by decide +kernel) (by rfl)
theorem pw_213 : Jvm.Cond.methodLink "AllSworn$Row" (3 : Nat) ({ cls := "java/lang/Object", name := "<init>", desc := "()V" } : Jvm.MethodName) ∈ px_W := px_in (i := 213) (by decide +kernel) (by rfl)
theorem pw_214 : Jvm.Cond.fieldLink "AllSworn$Row" (9 : Nat) "AllSworn$Row" "items" "[I" ∈ px_W := px_in (i := 214) (by decide +kernel) (by rfl)
theorem pw_215 : Jvm.Cond.fieldLink "AllSworn$Row" (15 : Nat) "AllSworn$Row" "lane" "I" ∈ px_W := px_in (i := 215) (by decide +kernel) (by rfl)
theorem pw_216 : Jvm.Cond.fieldLinkNest "AllSworn" (86 : Nat) "AllSworn$Row" "lane" "I" "AllSworn" ∈ px_Z := px_inZ (i := 216) (by decide +kernel) (by rfl)
theorem pw_217 : Jvm.Cond.fieldLink "AllSworn$Row" (19 : Nat) "AllSworn$Row" "size" "I" ∈ px_W := px_in (i := 217) (by decide +kernel) (by rfl)
theorem pw_218 : Jvm.Cond.fieldLinkNest "AllSworn" (93 : Nat) "AllSworn$Row" "size" "I" "AllSworn" ∈ px_Z := px_inZ (i := 218) (by decide +kernel) (by rfl)
theorem pw_219 : Jvm.Cond.laysFinal "AllSworn$Row" "AllSworn$Row" "items" "[I" ∈ px_W := px_in (i := 219) (by decide +kernel) (by rfl)
theorem pw_221 : Jvm.Cond.lays "AllSworn$Row" "AllSworn$Row" "lane" "I" ∈ px_W := px_in (i := 221) (by decide +kernel) (by rfl)
theorem pw_223 : Jvm.Cond.lays "AllSworn$Row" "AllSworn$Row" "size" "I" ∈ px_W := px_in (i := 223) (by decide +kernel) (by rfl)
theorem pw_226 : Jvm.Cond.fieldLink "AllSworn" (11 : Nat) "AllSworn" "rows" "[LAllSworn$Row;" ∈ px_W := px_in (i := 226) (by decide +kernel) (by rfl)
theorem pw_227 : Jvm.Cond.fieldLink "AllSworn" (18 : Nat) "AllSworn" "reader" "LAllSworn$Reader;" ∈ px_W := px_in (i := 227) (by decide +kernel) (by rfl)
theorem pw_228 : Jvm.Cond.fieldLink "AllSworn" (25 : Nat) "AllSworn" "draft" "LAllSworn$Realm;" ∈ px_W := px_in (i := 228) (by decide +kernel) (by rfl)
theorem pw_229 : Jvm.Cond.fieldLink "AllSworn" (29 : Nat) "AllSworn" "present" "LAllSworn$Realm;" ∈ px_W := px_in (i := 229) (by decide +kernel) (by rfl)
theorem pw_230 : Jvm.Cond.fieldLink "AllSworn" (32 : Nat) "AllSworn" "images" "[LAllSworn$Realm;" ∈ px_W := px_in (i := 230) (by decide +kernel) (by rfl)
theorem pw_231 : Jvm.Cond.fieldLink "AllSworn" (39 : Nat) "AllSworn" "oracle" "LAllSworn$Oracle;" ∈ px_W := px_in (i := 231) (by decide +kernel) (by rfl)
theorem pw_232 : Jvm.Cond.fieldLink "AllSworn" (46 : Nat) "AllSworn" "left" "LAllSworn$Trace;" ∈ px_W := px_in (i := 232) (by decide +kernel) (by rfl)
theorem pw_233 : Jvm.Cond.fieldLink "AllSworn" (50 : Nat) "AllSworn" "latestFault" "I" ∈ px_W := px_in (i := 233) (by decide +kernel) (by rfl)
theorem pw_234 : Jvm.Cond.fieldLink "AllSworn" (54 : Nat) "AllSworn" "latestFinding" "I" ∈ px_W := px_in (i := 234) (by decide +kernel) (by rfl)
theorem pw_235 : Jvm.Cond.laysFinal "AllSworn" "AllSworn" "rows" "[LAllSworn$Row;" ∈ px_W := px_in (i := 235) (by decide +kernel) (by rfl)
theorem pw_237 : Jvm.Cond.laysFinal "AllSworn" "AllSworn" "reader" "LAllSworn$Reader;" ∈ px_W := px_in (i := 237) (by decide +kernel) (by rfl)
theorem pw_239 : Jvm.Cond.laysFinal "AllSworn" "AllSworn" "draft" "LAllSworn$Realm;" ∈ px_W := px_in (i := 239) (by decide +kernel) (by rfl)
theorem pw_241 : Jvm.Cond.laysFinal "AllSworn" "AllSworn" "present" "LAllSworn$Realm;" ∈ px_W := px_in (i := 241) (by decide +kernel) (by rfl)
theorem pw_243 : Jvm.Cond.laysFinal "AllSworn" "AllSworn" "images" "[LAllSworn$Realm;" ∈ px_W := px_in (i := 243) (by decide +kernel) (by rfl)
theorem pw_245 : Jvm.Cond.laysFinal "AllSworn" "AllSworn" "oracle" "LAllSworn$Oracle;" ∈ px_W := px_in (i := 245) (by decide +kernel) (by rfl)
theorem pw_247 : Jvm.Cond.laysFinal "AllSworn" "AllSworn" "left" "LAllSworn$Trace;" ∈ px_W := px_in (i := 247) (by decide +kernel) (by rfl)
theorem pw_249 : Jvm.Cond.lays "AllSworn" "AllSworn" "latestFault" "I" ∈ px_W := px_in (i := 249) (by decide +kernel) (by rfl)
theorem pw_251 : Jvm.Cond.lays "AllSworn" "AllSworn" "latestFinding" "I" ∈ px_W := px_in (i := 251) (by decide +kernel) (by rfl)
theorem pw_257 : Jvm.Cond.code ({ cls := "AllSworn", name := "row", desc := "(III)I" } : Jvm.MethodName) prog_1_method_2_code (5 : Nat) (Option.some Jvm.ClassFile.FieldType.int) ∈ px_W := px_in (i := 257) (by decide +kernel) (by rfl)
theorem pw_258 : Jvm.Cond.methodLink "AllSworn" (58 : Nat) ({ cls := "AllSworn", name := "rowAt", desc := "(I)LAllSworn$Row;" } : Jvm.MethodName) ∈ px_W := px_in (i := 258) (by decide +kernel) (by rfl)
theorem pw_260 : Jvm.Cond.instanceMethod ({ cls := "AllSworn", name := "rowAt", desc := "(I)LAllSworn$Row;" } : Jvm.MethodName) ∈ px_W := px_in (i := 260) (by decide +kernel) (by rfl)
theorem pw_261 : Jvm.Cond.code ({ cls := "AllSworn", name := "rowAt", desc := "(I)LAllSworn$Row;" } : Jvm.MethodName) prog_1_method_35_code (2 : Nat) (Option.some (Jvm.ClassFile.FieldType.object "AllSworn$Row")) ∈ px_W := px_in (i := 261) (by decide +kernel) (by rfl)
theorem pw_262 : Jvm.Cond.constant "AllSworn" (62 : Nat) (-1000001 : Int32) ∈ px_W := px_in (i := 262) (by decide +kernel) (by rfl)
theorem pw_263 : Jvm.Cond.methodLink "AllSworn" (63 : Nat) ({ cls := "AllSworn", name := "found", desc := "(I)I" } : Jvm.MethodName) ∈ px_W := px_in (i := 263) (by decide +kernel) (by rfl)
theorem pw_265 : Jvm.Cond.instanceMethod ({ cls := "AllSworn", name := "found", desc := "(I)I" } : Jvm.MethodName) ∈ px_W := px_in (i := 265) (by decide +kernel) (by rfl)
theorem pw_266 : Jvm.Cond.code ({ cls := "AllSworn", name := "found", desc := "(I)I" } : Jvm.MethodName) prog_1_method_33_code (2 : Nat) (Option.some Jvm.ClassFile.FieldType.int) ∈ px_W := px_in (i := 266) (by decide +kernel) (by rfl)
theorem pw_267 : Jvm.Cond.constant "AllSworn" (291 : Nat) (-1000010 : Int32) ∈ px_W := px_in (i := 267) (by decide +kernel) (by rfl)
theorem pw_268 : Jvm.Cond.methodLink "AllSworn" (67 : Nat) ({ cls := "AllSworn$Row", name := "lay", desc := "(II)V" } : Jvm.MethodName) ∈ px_W := px_in (i := 268) (by decide +kernel) (by rfl)
theorem pw_269 : Jvm.Cond.instanceMethod ({ cls := "AllSworn$Row", name := "lay", desc := "(II)V" } : Jvm.MethodName) ∈ px_W := px_in (i := 269) (by decide +kernel) (by rfl)
theorem pw_270 : Jvm.Cond.selects "AllSworn$Row" ({ cls := "AllSworn$Row", name := "lay", desc := "(II)V" } : Jvm.MethodName) ({ cls := "AllSworn$Row", name := "lay", desc := "(II)V" } : Jvm.MethodName) ∈ px_W := px_in (i := 270) (by decide +kernel) (by rfl)
theorem pw_271 : Jvm.Cond.code ({ cls := "AllSworn$Row", name := "lay", desc := "(II)V" } : Jvm.MethodName) prog_8_method_4_code (3 : Nat) (Option.none : Option Jvm.ClassFile.FieldType) ∈ px_W := px_in (i := 271) (by decide +kernel) (by rfl)
theorem pw_272 : Jvm.Cond.methodLink "AllSworn$Row" (22 : Nat) ({ cls := "java/util/Arrays", name := "fill", desc := "([II)V" } : Jvm.MethodName) ∈ px_W := px_in (i := 272) (by decide +kernel) (by rfl)
theorem pw_273 : Jvm.Cond.static ({ cls := "java/util/Arrays", name := "fill", desc := "([II)V" } : Jvm.MethodName) ∈ px_W := px_in (i := 273) (by decide +kernel) (by rfl)
theorem pw_274 : Jvm.Cond.code ({ cls := "java/util/Arrays", name := "fill", desc := "([II)V" } : Jvm.MethodName) prog_18_method_103_code (4 : Nat) (Option.none : Option Jvm.ClassFile.FieldType) ∈ px_W := px_in (i := 274) (by decide +kernel) (by rfl)
theorem pw_275 : Jvm.Cond.methodLink "AllSworn" (71 : Nat) ({ cls := "AllSworn", name := "clean", desc := "(I)I" } : Jvm.MethodName) ∈ px_W := px_in (i := 275) (by decide +kernel) (by rfl)
theorem pw_277 : Jvm.Cond.instanceMethod ({ cls := "AllSworn", name := "clean", desc := "(I)I" } : Jvm.MethodName) ∈ px_W := px_in (i := 277) (by decide +kernel) (by rfl)
theorem pw_278 : Jvm.Cond.code ({ cls := "AllSworn", name := "clean", desc := "(I)I" } : Jvm.MethodName) prog_1_method_34_code (2 : Nat) (Option.some Jvm.ClassFile.FieldType.int) ∈ px_W := px_in (i := 278) (by decide +kernel) (by rfl)
theorem pw_282 : Jvm.Cond.code ({ cls := "AllSworn", name := "set", desc := "(III)I" } : Jvm.MethodName) prog_1_method_3_code (5 : Nat) (Option.some Jvm.ClassFile.FieldType.int) ∈ px_W := px_in (i := 282) (by decide +kernel) (by rfl)
theorem pw_283 : Jvm.Cond.methodLink "AllSworn" (74 : Nat) ({ cls := "AllSworn$Row", name := "isMissing", desc := "()Z" } : Jvm.MethodName) ∈ px_W := px_in (i := 283) (by decide +kernel) (by rfl)
theorem pw_284 : Jvm.Cond.instanceMethod ({ cls := "AllSworn$Row", name := "isMissing", desc := "()Z" } : Jvm.MethodName) ∈ px_W := px_in (i := 284) (by decide +kernel) (by rfl)
theorem pw_285 : Jvm.Cond.selects "AllSworn$Row" ({ cls := "AllSworn$Row", name := "isMissing", desc := "()Z" } : Jvm.MethodName) ({ cls := "AllSworn$Row", name := "isMissing", desc := "()Z" } : Jvm.MethodName) ∈ px_W := px_in (i := 285) (by decide +kernel) (by rfl)
theorem pw_286 : Jvm.Cond.code ({ cls := "AllSworn$Row", name := "isMissing", desc := "()Z" } : Jvm.MethodName) prog_8_method_2_code (1 : Nat) (Option.some Jvm.ClassFile.FieldType.boolean) ∈ px_W := px_in (i := 286) (by decide +kernel) (by rfl)
theorem pw_287 : Jvm.Cond.methodLink "AllSworn" (78 : Nat) ({ cls := "AllSworn$Row", name := "spans", desc := "(II)Z" } : Jvm.MethodName) ∈ px_W := px_in (i := 287) (by decide +kernel) (by rfl)
theorem pw_288 : Jvm.Cond.instanceMethod ({ cls := "AllSworn$Row", name := "spans", desc := "(II)Z" } : Jvm.MethodName) ∈ px_W := px_in (i := 288) (by decide +kernel) (by rfl)
theorem pw_289 : Jvm.Cond.selects "AllSworn$Row" ({ cls := "AllSworn$Row", name := "spans", desc := "(II)Z" } : Jvm.MethodName) ({ cls := "AllSworn$Row", name := "spans", desc := "(II)Z" } : Jvm.MethodName) ∈ px_W := px_in (i := 289) (by decide +kernel) (by rfl)
theorem pw_290 : Jvm.Cond.code ({ cls := "AllSworn$Row", name := "spans", desc := "(II)Z" } : Jvm.MethodName) prog_8_method_5_code (3 : Nat) (Option.some Jvm.ClassFile.FieldType.boolean) ∈ px_W := px_in (i := 290) (by decide +kernel) (by rfl)
theorem pw_291 : Jvm.Cond.methodLink "AllSworn" (82 : Nat) ({ cls := "AllSworn$Row", name := "put", desc := "(II)I" } : Jvm.MethodName) ∈ px_W := px_in (i := 291) (by decide +kernel) (by rfl)
theorem pw_292 : Jvm.Cond.instanceMethod ({ cls := "AllSworn$Row", name := "put", desc := "(II)I" } : Jvm.MethodName) ∈ px_W := px_in (i := 292) (by decide +kernel) (by rfl)
theorem pw_293 : Jvm.Cond.selects "AllSworn$Row" ({ cls := "AllSworn$Row", name := "put", desc := "(II)I" } : Jvm.MethodName) ({ cls := "AllSworn$Row", name := "put", desc := "(II)I" } : Jvm.MethodName) ∈ px_W := px_in (i := 293) (by decide +kernel) (by rfl)
theorem pw_294 : Jvm.Cond.code ({ cls := "AllSworn$Row", name := "put", desc := "(II)I" } : Jvm.MethodName) prog_8_method_6_code (3 : Nat) (Option.some Jvm.ClassFile.FieldType.int) ∈ px_W := px_in (i := 294) (by decide +kernel) (by rfl)
theorem pw_295 : Jvm.Cond.methodLink "AllSworn$Row" (28 : Nat) ({ cls := "AllSworn$Row", name := "spans", desc := "(II)Z" } : Jvm.MethodName) ∈ px_W := px_in (i := 295) (by decide +kernel) (by rfl)
theorem pw_296 : Jvm.Cond.methodLink "AllSworn$Row" (32 : Nat) ({ cls := "AllSworn$Row", name := "narrowed", desc := "(I)I" } : Jvm.MethodName) ∈ px_W := px_in (i := 296) (by decide +kernel) (by rfl)
theorem pw_298 : Jvm.Cond.instanceMethod ({ cls := "AllSworn$Row", name := "narrowed", desc := "(I)I" } : Jvm.MethodName) ∈ px_W := px_in (i := 298) (by decide +kernel) (by rfl)
theorem pw_299 : Jvm.Cond.code ({ cls := "AllSworn$Row", name := "narrowed", desc := "(I)I" } : Jvm.MethodName) prog_8_method_10_code (2 : Nat) (Option.some Jvm.ClassFile.FieldType.int) ∈ px_W := px_in (i := 299) (by decide +kernel) (by rfl)
theorem pw_303 : Jvm.Cond.code ({ cls := "AllSworn", name := "copy", desc := "(IIIII)I" } : Jvm.MethodName) prog_1_method_4_code (8 : Nat) (Option.some Jvm.ClassFile.FieldType.int) ∈ px_W := px_in (i := 303) (by decide +kernel) (by rfl)
theorem pw_304 : Jvm.Cond.methodLink "AllSworn" (89 : Nat) ({ cls := "AllSworn$Row", name := "takeFrom", desc := "(LAllSworn$Row;III)V" } : Jvm.MethodName) ∈ px_W := px_in (i := 304) (by decide +kernel) (by rfl)
theorem pw_305 : Jvm.Cond.instanceMethod ({ cls := "AllSworn$Row", name := "takeFrom", desc := "(LAllSworn$Row;III)V" } : Jvm.MethodName) ∈ px_W := px_in (i := 305) (by decide +kernel) (by rfl)
theorem pw_306 : Jvm.Cond.selects "AllSworn$Row" ({ cls := "AllSworn$Row", name := "takeFrom", desc := "(LAllSworn$Row;III)V" } : Jvm.MethodName) ({ cls := "AllSworn$Row", name := "takeFrom", desc := "(LAllSworn$Row;III)V" } : Jvm.MethodName) ∈ px_W := px_in (i := 306) (by decide +kernel) (by rfl)
theorem pw_307 : Jvm.Cond.code ({ cls := "AllSworn$Row", name := "takeFrom", desc := "(LAllSworn$Row;III)V" } : Jvm.MethodName) prog_8_method_7_code (5 : Nat) (Option.none : Option Jvm.ClassFile.FieldType) ∈ px_W := px_in (i := 307) (by decide +kernel) (by rfl)
theorem pw_308 : Jvm.Cond.methodLink "AllSworn$Row" (36 : Nat) ({ cls := "java/lang/System", name := "arraycopy", desc := "(Ljava/lang/Object;ILjava/lang/Object;II)V" } : Jvm.MethodName) ∈ px_W := px_in (i := 308) (by decide +kernel) (by rfl)
theorem pw_309 : Jvm.Cond.static ({ cls := "java/lang/System", name := "arraycopy", desc := "(Ljava/lang/Object;ILjava/lang/Object;II)V" } : Jvm.MethodName) ∈ px_W := px_in (i := 309) (by decide +kernel) (by rfl)
theorem pw_310 : Jvm.Cond.native ({ cls := "java/lang/System", name := "arraycopy", desc := "(Ljava/lang/Object;ILjava/lang/Object;II)V" } : Jvm.MethodName) ∈ px_W := px_in (i := 310) (by decide +kernel) (by rfl)
theorem pw_314 : Jvm.Cond.code ({ cls := "AllSworn", name := "drop", desc := "(I)I" } : Jvm.MethodName) prog_1_method_5_code (4 : Nat) (Option.some Jvm.ClassFile.FieldType.int) ∈ px_W := px_in (i := 314) (by decide +kernel) (by rfl)
theorem pw_315 : Jvm.Cond.methodLink "AllSworn" (96 : Nat) ({ cls := "AllSworn$Row", name := "vanish", desc := "()V" } : Jvm.MethodName) ∈ px_W := px_in (i := 315) (by decide +kernel) (by rfl)
theorem pw_316 : Jvm.Cond.instanceMethod ({ cls := "AllSworn$Row", name := "vanish", desc := "()V" } : Jvm.MethodName) ∈ px_W := px_in (i := 316) (by decide +kernel) (by rfl)
theorem pw_317 : Jvm.Cond.selects "AllSworn$Row" ({ cls := "AllSworn$Row", name := "vanish", desc := "()V" } : Jvm.MethodName) ({ cls := "AllSworn$Row", name := "vanish", desc := "()V" } : Jvm.MethodName) ∈ px_W := px_in (i := 317) (by decide +kernel) (by rfl)
theorem pw_318 : Jvm.Cond.code ({ cls := "AllSworn$Row", name := "vanish", desc := "()V" } : Jvm.MethodName) prog_8_method_3_code (1 : Nat) (Option.none : Option Jvm.ClassFile.FieldType) ∈ px_W := px_in (i := 318) (by decide +kernel) (by rfl)
theorem pw_322 : Jvm.Cond.code ({ cls := "AllSworn", name := "feed", desc := "(I)I" } : Jvm.MethodName) prog_1_method_6_code (2 : Nat) (Option.some Jvm.ClassFile.FieldType.int) ∈ px_W := px_in (i := 322) (by decide +kernel) (by rfl)
theorem pw_323 : Jvm.Cond.methodLink "AllSworn" (99 : Nat) ({ cls := "AllSworn$Reader", name := "take", desc := "(I)Z" } : Jvm.MethodName) ∈ px_W := px_in (i := 323) (by decide +kernel) (by rfl)
theorem pw_324 : Jvm.Cond.instanceMethod ({ cls := "AllSworn$Reader", name := "take", desc := "(I)Z" } : Jvm.MethodName) ∈ px_W := px_in (i := 324) (by decide +kernel) (by rfl)
theorem pw_325 : Jvm.Cond.selects "AllSworn$Reader" ({ cls := "AllSworn$Reader", name := "take", desc := "(I)Z" } : Jvm.MethodName) ({ cls := "AllSworn$Reader", name := "take", desc := "(I)Z" } : Jvm.MethodName) ∈ px_W := px_in (i := 325) (by decide +kernel) (by rfl)
theorem pw_326 : Jvm.Cond.code ({ cls := "AllSworn$Reader", name := "take", desc := "(I)Z" } : Jvm.MethodName) prog_6_method_2_code (2 : Nat) (Option.some Jvm.ClassFile.FieldType.boolean) ∈ px_W := px_in (i := 326) (by decide +kernel) (by rfl)
theorem pw_327 : Jvm.Cond.constant "AllSworn" (106 : Nat) (-1000003 : Int32) ∈ px_W := px_in (i := 327) (by decide +kernel) (by rfl)
theorem pw_331 : Jvm.Cond.code ({ cls := "AllSworn", name := "realm", desc := "()I" } : Jvm.MethodName) prog_1_method_7_code (1 : Nat) (Option.some Jvm.ClassFile.FieldType.int) ∈ px_W := px_in (i := 331) (by decide +kernel) (by rfl)
theorem pw_332 : Jvm.Cond.methodLink "AllSworn" (107 : Nat) ({ cls := "AllSworn$Reader", name := "readTo", desc := "(LAllSworn$Realm;)Z" } : Jvm.MethodName) ∈ px_W := px_in (i := 332) (by decide +kernel) (by rfl)
theorem pw_333 : Jvm.Cond.instanceMethod ({ cls := "AllSworn$Reader", name := "readTo", desc := "(LAllSworn$Realm;)Z" } : Jvm.MethodName) ∈ px_W := px_in (i := 333) (by decide +kernel) (by rfl)
theorem pw_334 : Jvm.Cond.selects "AllSworn$Reader" ({ cls := "AllSworn$Reader", name := "readTo", desc := "(LAllSworn$Realm;)Z" } : Jvm.MethodName) ({ cls := "AllSworn$Reader", name := "readTo", desc := "(LAllSworn$Realm;)Z" } : Jvm.MethodName) ∈ px_W := px_in (i := 334) (by decide +kernel) (by rfl)
theorem pw_335 : Jvm.Cond.code ({ cls := "AllSworn$Reader", name := "readTo", desc := "(LAllSworn$Realm;)Z" } : Jvm.MethodName) prog_6_method_3_code (4 : Nat) (Option.some Jvm.ClassFile.FieldType.boolean) ∈ px_W := px_in (i := 335) (by decide +kernel) (by rfl)
theorem pw_336 : Jvm.Cond.methodLink "AllSworn$Reader" (28 : Nat) ({ cls := "AllSworn$Reader", name := "expect", desc := "(C)V" } : Jvm.MethodName) ∈ px_W := px_in (i := 336) (by decide +kernel) (by rfl)
theorem pw_338 : Jvm.Cond.instanceMethod ({ cls := "AllSworn$Reader", name := "expect", desc := "(C)V" } : Jvm.MethodName) ∈ px_W := px_in (i := 338) (by decide +kernel) (by rfl)
theorem pw_339 : Jvm.Cond.code ({ cls := "AllSworn$Reader", name := "expect", desc := "(C)V" } : Jvm.MethodName) prog_6_method_6_code (2 : Nat) (Option.none : Option Jvm.ClassFile.FieldType) ∈ px_W := px_in (i := 339) (by decide +kernel) (by rfl)
theorem pw_340 : Jvm.Cond.methodLink "AllSworn$Reader" (42 : Nat) ({ cls := "AllSworn$Reader", name := "next", desc := "()I" } : Jvm.MethodName) ∈ px_W := px_in (i := 340) (by decide +kernel) (by rfl)
theorem pw_342 : Jvm.Cond.instanceMethod ({ cls := "AllSworn$Reader", name := "next", desc := "()I" } : Jvm.MethodName) ∈ px_W := px_in (i := 342) (by decide +kernel) (by rfl)
theorem pw_343 : Jvm.Cond.code ({ cls := "AllSworn$Reader", name := "next", desc := "()I" } : Jvm.MethodName) prog_6_method_8_code (1 : Nat) (Option.some Jvm.ClassFile.FieldType.int) ∈ px_W := px_in (i := 343) (by decide +kernel) (by rfl)
theorem pw_344 : Jvm.Cond.methodLink "AllSworn$Reader" (61 : Nat) ({ cls := "AllSworn$Reader", name := "note", desc := "(II)V" } : Jvm.MethodName) ∈ px_W := px_in (i := 344) (by decide +kernel) (by rfl)
theorem pw_346 : Jvm.Cond.instanceMethod ({ cls := "AllSworn$Reader", name := "note", desc := "(II)V" } : Jvm.MethodName) ∈ px_W := px_in (i := 346) (by decide +kernel) (by rfl)
theorem pw_347 : Jvm.Cond.code ({ cls := "AllSworn$Reader", name := "note", desc := "(II)V" } : Jvm.MethodName) prog_6_method_9_code (3 : Nat) (Option.none : Option Jvm.ClassFile.FieldType) ∈ px_W := px_in (i := 347) (by decide +kernel) (by rfl)
theorem pw_348 : Jvm.Cond.methodLink "AllSworn$Reader" (32 : Nat) ({ cls := "AllSworn$Reader", name := "readNumber", desc := "(II)I" } : Jvm.MethodName) ∈ px_W := px_in (i := 348) (by decide +kernel) (by rfl)
theorem pw_350 : Jvm.Cond.instanceMethod ({ cls := "AllSworn$Reader", name := "readNumber", desc := "(II)I" } : Jvm.MethodName) ∈ px_W := px_in (i := 350) (by decide +kernel) (by rfl)
theorem pw_351 : Jvm.Cond.code ({ cls := "AllSworn$Reader", name := "readNumber", desc := "(II)I" } : Jvm.MethodName) prog_6_method_7_code (6 : Nat) (Option.some Jvm.ClassFile.FieldType.int) ∈ px_W := px_in (i := 351) (by decide +kernel) (by rfl)
theorem pw_352 : Jvm.Cond.methodLink "AllSworn$Reader" (36 : Nat) ({ cls := "AllSworn$Realm", name := "beginAnew", desc := "(I)V" } : Jvm.MethodName) ∈ px_W := px_in (i := 352) (by decide +kernel) (by rfl)
theorem pw_353 : Jvm.Cond.instanceMethod ({ cls := "AllSworn$Realm", name := "beginAnew", desc := "(I)V" } : Jvm.MethodName) ∈ px_W := px_in (i := 353) (by decide +kernel) (by rfl)
theorem pw_354 : Jvm.Cond.selects "AllSworn$Realm" ({ cls := "AllSworn$Realm", name := "beginAnew", desc := "(I)V" } : Jvm.MethodName) ({ cls := "AllSworn$Realm", name := "beginAnew", desc := "(I)V" } : Jvm.MethodName) ∈ px_W := px_in (i := 354) (by decide +kernel) (by rfl)
theorem pw_355 : Jvm.Cond.code ({ cls := "AllSworn$Realm", name := "beginAnew", desc := "(I)V" } : Jvm.MethodName) prog_7_method_3_code (2 : Nat) (Option.none : Option Jvm.ClassFile.FieldType) ∈ px_W := px_in (i := 355) (by decide +kernel) (by rfl)
theorem pw_356 : Jvm.Cond.methodLink "AllSworn$Reader" (46 : Nat) ({ cls := "AllSworn$Reader", name := "kindOf", desc := "(I)I" } : Jvm.MethodName) ∈ px_W := px_in (i := 356) (by decide +kernel) (by rfl)
theorem pw_357 : Jvm.Cond.static ({ cls := "AllSworn$Reader", name := "kindOf", desc := "(I)I" } : Jvm.MethodName) ∈ px_W := px_in (i := 357) (by decide +kernel) (by rfl)
theorem pw_358 : Jvm.Cond.code ({ cls := "AllSworn$Reader", name := "kindOf", desc := "(I)I" } : Jvm.MethodName) prog_6_method_10_code (1 : Nat) (Option.some Jvm.ClassFile.FieldType.int) ∈ px_W := px_in (i := 358) (by decide +kernel) (by rfl)
theorem pw_359 : Jvm.Cond.methodLink "AllSworn$Reader" (53 : Nat) ({ cls := "AllSworn$Reader", name := "readThing", desc := "(LAllSworn$Realm;I)V" } : Jvm.MethodName) ∈ px_W := px_in (i := 359) (by decide +kernel) (by rfl)
theorem pw_361 : Jvm.Cond.instanceMethod ({ cls := "AllSworn$Reader", name := "readThing", desc := "(LAllSworn$Realm;I)V" } : Jvm.MethodName) ∈ px_W := px_in (i := 361) (by decide +kernel) (by rfl)
theorem pw_362 : Jvm.Cond.code ({ cls := "AllSworn$Reader", name := "readThing", desc := "(LAllSworn$Realm;I)V" } : Jvm.MethodName) prog_6_method_4_code (5 : Nat) (Option.none : Option Jvm.ClassFile.FieldType) ∈ px_W := px_in (i := 362) (by decide +kernel) (by rfl)
theorem pw_363 : Jvm.Cond.methodLink "AllSworn$Reader" (68 : Nat) ({ cls := "AllSworn$Reader", name := "made", desc := "(IIII)LAllSworn$Thing;" } : Jvm.MethodName) ∈ px_W := px_in (i := 363) (by decide +kernel) (by rfl)
theorem pw_364 : Jvm.Cond.static ({ cls := "AllSworn$Reader", name := "made", desc := "(IIII)LAllSworn$Thing;" } : Jvm.MethodName) ∈ px_W := px_in (i := 364) (by decide +kernel) (by rfl)
theorem pw_365 : Jvm.Cond.code ({ cls := "AllSworn$Reader", name := "made", desc := "(IIII)LAllSworn$Thing;" } : Jvm.MethodName) prog_6_method_11_code (4 : Nat) (Option.some (Jvm.ClassFile.FieldType.object "AllSworn$Thing")) ∈ px_W := px_in (i := 365) (by decide +kernel) (by rfl)
theorem pw_366 : Jvm.Cond.classLink "AllSworn$Reader" (79 : Nat) "AllSworn$Mixed" ∈ px_W := px_in (i := 366) (by decide +kernel) (by rfl)
theorem pw_367 : Jvm.Cond.instantiable "AllSworn$Mixed" (3 : Nat) ∈ px_W := px_in (i := 367) (by decide +kernel) (by rfl)
theorem pw_368 : Jvm.Cond.methodLink "AllSworn$Reader" (81 : Nat) ({ cls := "AllSworn$Mixed", name := "<init>", desc := "(III)V" } : Jvm.MethodName) ∈ px_W := px_in (i := 368) (by decide +kernel) (by rfl)
theorem pw_369 : Jvm.Cond.instanceMethod ({ cls := "AllSworn$Mixed", name := "<init>", desc := "(III)V" } : Jvm.MethodName) ∈ px_W := px_in (i := 369) (by decide +kernel) (by rfl)
theorem pw_370 : Jvm.Cond.code ({ cls := "AllSworn$Mixed", name := "<init>", desc := "(III)V" } : Jvm.MethodName) prog_3_method_1_code (4 : Nat) (Option.none : Option Jvm.ClassFile.FieldType) ∈ px_W := px_in (i := 370) (by decide +kernel) (by rfl)
theorem pw_371 : Jvm.Cond.methodLink "AllSworn$Mixed" (3 : Nat) ({ cls := "AllSworn$Plain", name := "<init>", desc := "(III)V" } : Jvm.MethodName) ∈ px_W := px_in (i := 371) (by decide +kernel) (by rfl)
theorem pw_372 : Jvm.Cond.instanceMethod ({ cls := "AllSworn$Plain", name := "<init>", desc := "(III)V" } : Jvm.MethodName) ∈ px_W := px_in (i := 372) (by decide +kernel) (by rfl)
theorem pw_373 : Jvm.Cond.code ({ cls := "AllSworn$Plain", name := "<init>", desc := "(III)V" } : Jvm.MethodName) prog_5_method_1_code (4 : Nat) (Option.none : Option Jvm.ClassFile.FieldType) ∈ px_W := px_in (i := 373) (by decide +kernel) (by rfl)
theorem pw_374 : Jvm.Cond.methodLink "AllSworn$Plain" (3 : Nat) ({ cls := "AllSworn$Thing", name := "<init>", desc := "(III)V" } : Jvm.MethodName) ∈ px_W := px_in (i := 374) (by decide +kernel) (by rfl)
theorem pw_375 : Jvm.Cond.instanceMethod ({ cls := "AllSworn$Thing", name := "<init>", desc := "(III)V" } : Jvm.MethodName) ∈ px_W := px_in (i := 375) (by decide +kernel) (by rfl)
theorem pw_376 : Jvm.Cond.code ({ cls := "AllSworn$Thing", name := "<init>", desc := "(III)V" } : Jvm.MethodName) prog_9_method_1_code (4 : Nat) (Option.none : Option Jvm.ClassFile.FieldType) ∈ px_W := px_in (i := 376) (by decide +kernel) (by rfl)
theorem pw_377 : Jvm.Cond.methodLink "AllSworn$Thing" (3 : Nat) ({ cls := "java/lang/Object", name := "<init>", desc := "()V" } : Jvm.MethodName) ∈ px_W := px_in (i := 377) (by decide +kernel) (by rfl)
theorem pw_378 : Jvm.Cond.fieldLink "AllSworn$Thing" (9 : Nat) "AllSworn$Thing" "number" "I" ∈ px_W := px_in (i := 378) (by decide +kernel) (by rfl)
theorem pw_379 : Jvm.Cond.fieldLink "AllSworn$Mixed" (13 : Nat) "AllSworn$Mixed" "number" "I" ∈ px_W := px_in (i := 379) (by decide +kernel) (by rfl)
theorem pw_380 : Jvm.Cond.sameField "AllSworn$Mixed" "AllSworn$Thing" "number" "I" ∈ px_W := px_in (i := 380) (by decide +kernel) (by rfl)
theorem pw_381 : Jvm.Cond.fieldLink "AllSworn$Plain" (29 : Nat) "AllSworn$Plain" "number" "I" ∈ px_W := px_in (i := 381) (by decide +kernel) (by rfl)
theorem pw_382 : Jvm.Cond.sameField "AllSworn$Plain" "AllSworn$Thing" "number" "I" ∈ px_W := px_in (i := 382) (by decide +kernel) (by rfl)
theorem pw_383 : Jvm.Cond.fieldLink "AllSworn$Realm" (57 : Nat) "AllSworn$Thing" "number" "I" ∈ px_W := px_in (i := 383) (by decide +kernel) (by rfl)
theorem pw_384 : Jvm.Cond.fieldLink "AllSworn" (174 : Nat) "AllSworn$Thing" "number" "I" ∈ px_W := px_in (i := 384) (by decide +kernel) (by rfl)
theorem pw_385 : Jvm.Cond.fieldLink "AllSworn$Thing" (15 : Nat) "AllSworn$Thing" "far" "I" ∈ px_W := px_in (i := 385) (by decide +kernel) (by rfl)
theorem pw_386 : Jvm.Cond.fieldLink "AllSworn$Foreign" (13 : Nat) "AllSworn$Foreign" "far" "I" ∈ px_W := px_in (i := 386) (by decide +kernel) (by rfl)
theorem pw_387 : Jvm.Cond.sameField "AllSworn$Foreign" "AllSworn$Thing" "far" "I" ∈ px_W := px_in (i := 387) (by decide +kernel) (by rfl)
theorem pw_388 : Jvm.Cond.fieldLink "AllSworn" (162 : Nat) "AllSworn$Thing" "far" "I" ∈ px_W := px_in (i := 388) (by decide +kernel) (by rfl)
theorem pw_389 : Jvm.Cond.fieldLink "AllSworn$Thing" (18 : Nat) "AllSworn$Thing" "price" "I" ∈ px_W := px_in (i := 389) (by decide +kernel) (by rfl)
theorem pw_390 : Jvm.Cond.fieldLink "AllSworn" (165 : Nat) "AllSworn$Thing" "price" "I" ∈ px_W := px_in (i := 390) (by decide +kernel) (by rfl)
theorem pw_391 : Jvm.Cond.fieldLink "AllSworn$Realm" (92 : Nat) "AllSworn$Thing" "price" "I" ∈ px_W := px_in (i := 391) (by decide +kernel) (by rfl)
theorem pw_392 : Jvm.Cond.laysFinal "AllSworn$Mixed" "AllSworn$Thing" "number" "I" ∈ px_W := px_in (i := 392) (by decide +kernel) (by rfl)
theorem pw_394 : Jvm.Cond.laysFinal "AllSworn$Mixed" "AllSworn$Thing" "far" "I" ∈ px_W := px_in (i := 394) (by decide +kernel) (by rfl)
theorem pw_396 : Jvm.Cond.laysFinal "AllSworn$Mixed" "AllSworn$Thing" "price" "I" ∈ px_W := px_in (i := 396) (by decide +kernel) (by rfl)
theorem pw_398 : Jvm.Cond.superclass "AllSworn$Mixed" "AllSworn$Plain" ∈ px_W := px_in (i := 398) (by decide +kernel) (by rfl)
theorem pw_399 : Jvm.Cond.classLink "AllSworn$Reader" (84 : Nat) "AllSworn$Young" ∈ px_W := px_in (i := 399) (by decide +kernel) (by rfl)
theorem pw_400 : Jvm.Cond.instantiable "AllSworn$Young" (3 : Nat) ∈ px_W := px_in (i := 400) (by decide +kernel) (by rfl)
theorem pw_401 : Jvm.Cond.methodLink "AllSworn$Reader" (86 : Nat) ({ cls := "AllSworn$Young", name := "<init>", desc := "(III)V" } : Jvm.MethodName) ∈ px_W := px_in (i := 401) (by decide +kernel) (by rfl)
theorem pw_402 : Jvm.Cond.instanceMethod ({ cls := "AllSworn$Young", name := "<init>", desc := "(III)V" } : Jvm.MethodName) ∈ px_W := px_in (i := 402) (by decide +kernel) (by rfl)
theorem pw_403 : Jvm.Cond.code ({ cls := "AllSworn$Young", name := "<init>", desc := "(III)V" } : Jvm.MethodName) prog_12_method_1_code (4 : Nat) (Option.none : Option Jvm.ClassFile.FieldType) ∈ px_W := px_in (i := 403) (by decide +kernel) (by rfl)
theorem pw_404 : Jvm.Cond.methodLink "AllSworn$Young" (3 : Nat) ({ cls := "AllSworn$Plain", name := "<init>", desc := "(III)V" } : Jvm.MethodName) ∈ px_W := px_in (i := 404) (by decide +kernel) (by rfl)
theorem pw_405 : Jvm.Cond.laysFinal "AllSworn$Young" "AllSworn$Thing" "number" "I" ∈ px_W := px_in (i := 405) (by decide +kernel) (by rfl)
theorem pw_406 : Jvm.Cond.laysFinal "AllSworn$Young" "AllSworn$Thing" "far" "I" ∈ px_W := px_in (i := 406) (by decide +kernel) (by rfl)
theorem pw_407 : Jvm.Cond.laysFinal "AllSworn$Young" "AllSworn$Thing" "price" "I" ∈ px_W := px_in (i := 407) (by decide +kernel) (by rfl)
theorem pw_408 : Jvm.Cond.superclass "AllSworn$Young" "AllSworn$Plain" ∈ px_W := px_in (i := 408) (by decide +kernel) (by rfl)
theorem pw_409 : Jvm.Cond.classLink "AllSworn$Reader" (87 : Nat) "AllSworn$Foreign" ∈ px_W := px_in (i := 409) (by decide +kernel) (by rfl)
theorem pw_410 : Jvm.Cond.instantiable "AllSworn$Foreign" (3 : Nat) ∈ px_W := px_in (i := 410) (by decide +kernel) (by rfl)
theorem pw_411 : Jvm.Cond.methodLink "AllSworn$Reader" (89 : Nat) ({ cls := "AllSworn$Foreign", name := "<init>", desc := "(III)V" } : Jvm.MethodName) ∈ px_W := px_in (i := 411) (by decide +kernel) (by rfl)
theorem pw_412 : Jvm.Cond.instanceMethod ({ cls := "AllSworn$Foreign", name := "<init>", desc := "(III)V" } : Jvm.MethodName) ∈ px_W := px_in (i := 412) (by decide +kernel) (by rfl)
theorem pw_413 : Jvm.Cond.code ({ cls := "AllSworn$Foreign", name := "<init>", desc := "(III)V" } : Jvm.MethodName) prog_2_method_1_code (4 : Nat) (Option.none : Option Jvm.ClassFile.FieldType) ∈ px_W := px_in (i := 413) (by decide +kernel) (by rfl)
theorem pw_414 : Jvm.Cond.methodLink "AllSworn$Foreign" (3 : Nat) ({ cls := "AllSworn$Thing", name := "<init>", desc := "(III)V" } : Jvm.MethodName) ∈ px_W := px_in (i := 414) (by decide +kernel) (by rfl)
theorem pw_415 : Jvm.Cond.laysFinal "AllSworn$Foreign" "AllSworn$Thing" "number" "I" ∈ px_W := px_in (i := 415) (by decide +kernel) (by rfl)
theorem pw_416 : Jvm.Cond.laysFinal "AllSworn$Foreign" "AllSworn$Thing" "far" "I" ∈ px_W := px_in (i := 416) (by decide +kernel) (by rfl)
theorem pw_417 : Jvm.Cond.laysFinal "AllSworn$Foreign" "AllSworn$Thing" "price" "I" ∈ px_W := px_in (i := 417) (by decide +kernel) (by rfl)
theorem pw_418 : Jvm.Cond.superclass "AllSworn$Foreign" "AllSworn$Thing" ∈ px_W := px_in (i := 418) (by decide +kernel) (by rfl)
theorem pw_419 : Jvm.Cond.classLink "AllSworn$Reader" (90 : Nat) "AllSworn$Untrue" ∈ px_W := px_in (i := 419) (by decide +kernel) (by rfl)
theorem pw_420 : Jvm.Cond.instantiable "AllSworn$Untrue" (3 : Nat) ∈ px_W := px_in (i := 420) (by decide +kernel) (by rfl)
theorem pw_421 : Jvm.Cond.methodLink "AllSworn$Reader" (92 : Nat) ({ cls := "AllSworn$Untrue", name := "<init>", desc := "(III)V" } : Jvm.MethodName) ∈ px_W := px_in (i := 421) (by decide +kernel) (by rfl)
theorem pw_422 : Jvm.Cond.instanceMethod ({ cls := "AllSworn$Untrue", name := "<init>", desc := "(III)V" } : Jvm.MethodName) ∈ px_W := px_in (i := 422) (by decide +kernel) (by rfl)
theorem pw_423 : Jvm.Cond.code ({ cls := "AllSworn$Untrue", name := "<init>", desc := "(III)V" } : Jvm.MethodName) prog_11_method_1_code (4 : Nat) (Option.none : Option Jvm.ClassFile.FieldType) ∈ px_W := px_in (i := 423) (by decide +kernel) (by rfl)
theorem pw_424 : Jvm.Cond.methodLink "AllSworn$Untrue" (3 : Nat) ({ cls := "AllSworn$Foreign", name := "<init>", desc := "(III)V" } : Jvm.MethodName) ∈ px_W := px_in (i := 424) (by decide +kernel) (by rfl)
theorem pw_425 : Jvm.Cond.laysFinal "AllSworn$Untrue" "AllSworn$Thing" "number" "I" ∈ px_W := px_in (i := 425) (by decide +kernel) (by rfl)
theorem pw_426 : Jvm.Cond.laysFinal "AllSworn$Untrue" "AllSworn$Thing" "far" "I" ∈ px_W := px_in (i := 426) (by decide +kernel) (by rfl)
theorem pw_427 : Jvm.Cond.laysFinal "AllSworn$Untrue" "AllSworn$Thing" "price" "I" ∈ px_W := px_in (i := 427) (by decide +kernel) (by rfl)
theorem pw_428 : Jvm.Cond.superclass "AllSworn$Untrue" "AllSworn$Foreign" ∈ px_W := px_in (i := 428) (by decide +kernel) (by rfl)
theorem pw_429 : Jvm.Cond.classLink "AllSworn$Reader" (93 : Nat) "AllSworn$Plain" ∈ px_W := px_in (i := 429) (by decide +kernel) (by rfl)
theorem pw_430 : Jvm.Cond.instantiable "AllSworn$Plain" (3 : Nat) ∈ px_W := px_in (i := 430) (by decide +kernel) (by rfl)
theorem pw_431 : Jvm.Cond.methodLink "AllSworn$Reader" (95 : Nat) ({ cls := "AllSworn$Plain", name := "<init>", desc := "(III)V" } : Jvm.MethodName) ∈ px_W := px_in (i := 431) (by decide +kernel) (by rfl)
theorem pw_432 : Jvm.Cond.laysFinal "AllSworn$Plain" "AllSworn$Thing" "number" "I" ∈ px_W := px_in (i := 432) (by decide +kernel) (by rfl)
theorem pw_433 : Jvm.Cond.laysFinal "AllSworn$Plain" "AllSworn$Thing" "far" "I" ∈ px_W := px_in (i := 433) (by decide +kernel) (by rfl)
theorem pw_434 : Jvm.Cond.laysFinal "AllSworn$Plain" "AllSworn$Thing" "price" "I" ∈ px_W := px_in (i := 434) (by decide +kernel) (by rfl)
theorem pw_435 : Jvm.Cond.superclass "AllSworn$Plain" "AllSworn$Thing" ∈ px_W := px_in (i := 435) (by decide +kernel) (by rfl)
theorem pw_436 : Jvm.Cond.methodLink "AllSworn$Reader" (72 : Nat) ({ cls := "AllSworn$Realm", name := "addThing", desc := "(LAllSworn$Thing;)V" } : Jvm.MethodName) ∈ px_W := px_in (i := 436) (by decide +kernel) (by rfl)
theorem pw_437 : Jvm.Cond.instanceMethod ({ cls := "AllSworn$Realm", name := "addThing", desc := "(LAllSworn$Thing;)V" } : Jvm.MethodName) ∈ px_W := px_in (i := 437) (by decide +kernel) (by rfl)
theorem pw_438 : Jvm.Cond.selects "AllSworn$Realm" ({ cls := "AllSworn$Realm", name := "addThing", desc := "(LAllSworn$Thing;)V" } : Jvm.MethodName) ({ cls := "AllSworn$Realm", name := "addThing", desc := "(LAllSworn$Thing;)V" } : Jvm.MethodName) ∈ px_W := px_in (i := 438) (by decide +kernel) (by rfl)
theorem pw_439 : Jvm.Cond.code ({ cls := "AllSworn$Realm", name := "addThing", desc := "(LAllSworn$Thing;)V" } : Jvm.MethodName) prog_7_method_4_code (2 : Nat) (Option.none : Option Jvm.ClassFile.FieldType) ∈ px_W := px_in (i := 439) (by decide +kernel) (by rfl)
theorem pw_440 : Jvm.Cond.constant "AllSworn$Realm" (46 : Nat) (-1000000 : Int32) ∈ px_W := px_in (i := 440) (by decide +kernel) (by rfl)
theorem pw_441 : Jvm.Cond.methodLink "AllSworn$Reader" (57 : Nat) ({ cls := "AllSworn$Reader", name := "readHarm", desc := "(LAllSworn$Realm;)V" } : Jvm.MethodName) ∈ px_W := px_in (i := 441) (by decide +kernel) (by rfl)
theorem pw_443 : Jvm.Cond.instanceMethod ({ cls := "AllSworn$Reader", name := "readHarm", desc := "(LAllSworn$Realm;)V" } : Jvm.MethodName) ∈ px_W := px_in (i := 443) (by decide +kernel) (by rfl)
theorem pw_444 : Jvm.Cond.code ({ cls := "AllSworn$Reader", name := "readHarm", desc := "(LAllSworn$Realm;)V" } : Jvm.MethodName) prog_6_method_5_code (3 : Nat) (Option.none : Option Jvm.ClassFile.FieldType) ∈ px_W := px_in (i := 444) (by decide +kernel) (by rfl)
theorem pw_445 : Jvm.Cond.methodLink "AllSworn$Reader" (76 : Nat) ({ cls := "AllSworn$Realm", name := "addHarm", desc := "(I)V" } : Jvm.MethodName) ∈ px_W := px_in (i := 445) (by decide +kernel) (by rfl)
theorem pw_446 : Jvm.Cond.instanceMethod ({ cls := "AllSworn$Realm", name := "addHarm", desc := "(I)V" } : Jvm.MethodName) ∈ px_W := px_in (i := 446) (by decide +kernel) (by rfl)
theorem pw_447 : Jvm.Cond.selects "AllSworn$Realm" ({ cls := "AllSworn$Realm", name := "addHarm", desc := "(I)V" } : Jvm.MethodName) ({ cls := "AllSworn$Realm", name := "addHarm", desc := "(I)V" } : Jvm.MethodName) ∈ px_W := px_in (i := 447) (by decide +kernel) (by rfl)
theorem pw_448 : Jvm.Cond.code ({ cls := "AllSworn$Realm", name := "addHarm", desc := "(I)V" } : Jvm.MethodName) prog_7_method_5_code (2 : Nat) (Option.none : Option Jvm.ClassFile.FieldType) ∈ px_W := px_in (i := 448) (by decide +kernel) (by rfl)
theorem pw_449 : Jvm.Cond.constant "AllSworn" (114 : Nat) (-1000100 : Int32) ∈ px_W := px_in (i := 449) (by decide +kernel) (by rfl)
theorem pw_450 : Jvm.Cond.methodLink "AllSworn" (118 : Nat) ({ cls := "AllSworn$Realm", name := "becomeLike", desc := "(LAllSworn$Realm;)V" } : Jvm.MethodName) ∈ px_W := px_in (i := 450) (by decide +kernel) (by rfl)
theorem pw_451 : Jvm.Cond.instanceMethod ({ cls := "AllSworn$Realm", name := "becomeLike", desc := "(LAllSworn$Realm;)V" } : Jvm.MethodName) ∈ px_W := px_in (i := 451) (by decide +kernel) (by rfl)
theorem pw_452 : Jvm.Cond.selects "AllSworn$Realm" ({ cls := "AllSworn$Realm", name := "becomeLike", desc := "(LAllSworn$Realm;)V" } : Jvm.MethodName) ({ cls := "AllSworn$Realm", name := "becomeLike", desc := "(LAllSworn$Realm;)V" } : Jvm.MethodName) ∈ px_W := px_in (i := 452) (by decide +kernel) (by rfl)
theorem pw_453 : Jvm.Cond.code ({ cls := "AllSworn$Realm", name := "becomeLike", desc := "(LAllSworn$Realm;)V" } : Jvm.MethodName) prog_7_method_6_code (3 : Nat) (Option.none : Option Jvm.ClassFile.FieldType) ∈ px_W := px_in (i := 453) (by decide +kernel) (by rfl)
theorem pw_454 : Jvm.Cond.methodLink "AllSworn$Realm" (47 : Nat) ({ cls := "java/lang/System", name := "arraycopy", desc := "(Ljava/lang/Object;ILjava/lang/Object;II)V" } : Jvm.MethodName) ∈ px_W := px_in (i := 454) (by decide +kernel) (by rfl)
theorem pw_458 : Jvm.Cond.code ({ cls := "AllSworn", name := "fault", desc := "()I" } : Jvm.MethodName) prog_1_method_8_code (1 : Nat) (Option.some Jvm.ClassFile.FieldType.int) ∈ px_W := px_in (i := 458) (by decide +kernel) (by rfl)
theorem pw_462 : Jvm.Cond.code ({ cls := "AllSworn", name := "askFor", desc := "(I)I" } : Jvm.MethodName) prog_1_method_9_code (3 : Nat) (Option.some Jvm.ClassFile.FieldType.int) ∈ px_W := px_in (i := 462) (by decide +kernel) (by rfl)
theorem pw_463 : Jvm.Cond.methodLink "AllSworn" (125 : Nat) ({ cls := "AllSworn$Realm", name := "thingAt", desc := "(I)LAllSworn$Thing;" } : Jvm.MethodName) ∈ px_W := px_in (i := 463) (by decide +kernel) (by rfl)
theorem pw_464 : Jvm.Cond.instanceMethod ({ cls := "AllSworn$Realm", name := "thingAt", desc := "(I)LAllSworn$Thing;" } : Jvm.MethodName) ∈ px_W := px_in (i := 464) (by decide +kernel) (by rfl)
theorem pw_465 : Jvm.Cond.selects "AllSworn$Realm" ({ cls := "AllSworn$Realm", name := "thingAt", desc := "(I)LAllSworn$Thing;" } : Jvm.MethodName) ({ cls := "AllSworn$Realm", name := "thingAt", desc := "(I)LAllSworn$Thing;" } : Jvm.MethodName) ∈ px_W := px_in (i := 465) (by decide +kernel) (by rfl)
theorem pw_466 : Jvm.Cond.code ({ cls := "AllSworn$Realm", name := "thingAt", desc := "(I)LAllSworn$Thing;" } : Jvm.MethodName) prog_7_method_7_code (2 : Nat) (Option.some (Jvm.ClassFile.FieldType.object "AllSworn$Thing")) ∈ px_W := px_in (i := 466) (by decide +kernel) (by rfl)
theorem pw_467 : Jvm.Cond.methodLink "AllSworn" (132 : Nat) ({ cls := "AllSworn$Thing", name := "daysToAsk", desc := "()I" } : Jvm.MethodName) ∈ px_W := px_in (i := 467) (by decide +kernel) (by rfl)
theorem pw_468 : Jvm.Cond.instanceMethod ({ cls := "AllSworn$Thing", name := "daysToAsk", desc := "()I" } : Jvm.MethodName) ∈ px_W := px_in (i := 468) (by decide +kernel) (by rfl)
theorem pw_469 : Jvm.Cond.sameMethod "AllSworn$Thing" "AllSworn$Thing" "daysToAsk" "()I" ∈ px_W := px_in (i := 469) (by decide +kernel) (by rfl)
theorem pw_470 : Jvm.Cond.selects "AllSworn$Foreign" ({ cls := "AllSworn$Thing", name := "daysToAsk", desc := "()I" } : Jvm.MethodName) ({ cls := "AllSworn$Foreign", name := "daysToAsk", desc := "()I" } : Jvm.MethodName) ∈ px_W := px_in (i := 470) (by decide +kernel) (by rfl)
theorem pw_471 : Jvm.Cond.instanceMethod ({ cls := "AllSworn$Foreign", name := "daysToAsk", desc := "()I" } : Jvm.MethodName) ∈ px_W := px_in (i := 471) (by decide +kernel) (by rfl)
theorem pw_472 : Jvm.Cond.code ({ cls := "AllSworn$Foreign", name := "daysToAsk", desc := "()I" } : Jvm.MethodName) prog_2_method_4_code (1 : Nat) (Option.some Jvm.ClassFile.FieldType.int) ∈ px_W := px_in (i := 472) (by decide +kernel) (by rfl)
theorem pw_473 : Jvm.Cond.methodLink "AllSworn$Foreign" (19 : Nat) ({ cls := "java/lang/Math", name := "max", desc := "(II)I" } : Jvm.MethodName) ∈ px_W := px_in (i := 473) (by decide +kernel) (by rfl)
theorem pw_474 : Jvm.Cond.static ({ cls := "java/lang/Math", name := "max", desc := "(II)I" } : Jvm.MethodName) ∈ px_W := px_in (i := 474) (by decide +kernel) (by rfl)
theorem pw_475 : Jvm.Cond.code ({ cls := "java/lang/Math", name := "max", desc := "(II)I" } : Jvm.MethodName) prog_16_method_65_code (2 : Nat) (Option.some Jvm.ClassFile.FieldType.int) ∈ px_W := px_in (i := 475) (by decide +kernel) (by rfl)
theorem pw_476 : Jvm.Cond.selects "AllSworn$Mixed" ({ cls := "AllSworn$Thing", name := "daysToAsk", desc := "()I" } : Jvm.MethodName) ({ cls := "AllSworn$Thing", name := "daysToAsk", desc := "()I" } : Jvm.MethodName) ∈ px_W := px_in (i := 476) (by decide +kernel) (by rfl)
theorem pw_477 : Jvm.Cond.selects "AllSworn$Plain" ({ cls := "AllSworn$Thing", name := "daysToAsk", desc := "()I" } : Jvm.MethodName) ({ cls := "AllSworn$Thing", name := "daysToAsk", desc := "()I" } : Jvm.MethodName) ∈ px_W := px_in (i := 477) (by decide +kernel) (by rfl)
theorem pw_478 : Jvm.Cond.selects "AllSworn$Untrue" ({ cls := "AllSworn$Thing", name := "daysToAsk", desc := "()I" } : Jvm.MethodName) ({ cls := "AllSworn$Foreign", name := "daysToAsk", desc := "()I" } : Jvm.MethodName) ∈ px_W := px_in (i := 478) (by decide +kernel) (by rfl)
theorem pw_479 : Jvm.Cond.selects "AllSworn$Young" ({ cls := "AllSworn$Thing", name := "daysToAsk", desc := "()I" } : Jvm.MethodName) ({ cls := "AllSworn$Thing", name := "daysToAsk", desc := "()I" } : Jvm.MethodName) ∈ px_W := px_in (i := 479) (by decide +kernel) (by rfl)
theorem pw_480 : Jvm.Cond.code ({ cls := "AllSworn$Thing", name := "daysToAsk", desc := "()I" } : Jvm.MethodName) prog_9_method_4_code (1 : Nat) (Option.some Jvm.ClassFile.FieldType.int) ∈ px_W := px_in (i := 480) (by decide +kernel) (by rfl)
theorem pw_481 : Jvm.Cond.methodLink "AllSworn$Thing" (21 : Nat) ({ cls := "java/lang/Math", name := "max", desc := "(II)I" } : Jvm.MethodName) ∈ px_W := px_in (i := 481) (by decide +kernel) (by rfl)
theorem pw_482 : Jvm.Cond.methodLink "AllSworn" (138 : Nat) ({ cls := "AllSworn$Realm", name := "sendTo", desc := "(LAllSworn$Thing;)V" } : Jvm.MethodName) ∈ px_W := px_in (i := 482) (by decide +kernel) (by rfl)
theorem pw_483 : Jvm.Cond.instanceMethod ({ cls := "AllSworn$Realm", name := "sendTo", desc := "(LAllSworn$Thing;)V" } : Jvm.MethodName) ∈ px_W := px_in (i := 483) (by decide +kernel) (by rfl)
theorem pw_484 : Jvm.Cond.selects "AllSworn$Realm" ({ cls := "AllSworn$Realm", name := "sendTo", desc := "(LAllSworn$Thing;)V" } : Jvm.MethodName) ({ cls := "AllSworn$Realm", name := "sendTo", desc := "(LAllSworn$Thing;)V" } : Jvm.MethodName) ∈ px_W := px_in (i := 484) (by decide +kernel) (by rfl)
theorem pw_485 : Jvm.Cond.code ({ cls := "AllSworn$Realm", name := "sendTo", desc := "(LAllSworn$Thing;)V" } : Jvm.MethodName) prog_7_method_11_code (2 : Nat) (Option.none : Option Jvm.ClassFile.FieldType) ∈ px_W := px_in (i := 485) (by decide +kernel) (by rfl)
theorem pw_486 : Jvm.Cond.methodLink "AllSworn$Realm" (60 : Nat) ({ cls := "AllSworn$Realm", name := "keepAct", desc := "(I)V" } : Jvm.MethodName) ∈ px_W := px_in (i := 486) (by decide +kernel) (by rfl)
theorem pw_488 : Jvm.Cond.instanceMethod ({ cls := "AllSworn$Realm", name := "keepAct", desc := "(I)V" } : Jvm.MethodName) ∈ px_W := px_in (i := 488) (by decide +kernel) (by rfl)
theorem pw_489 : Jvm.Cond.code ({ cls := "AllSworn$Realm", name := "keepAct", desc := "(I)V" } : Jvm.MethodName) prog_7_method_15_code (3 : Nat) (Option.none : Option Jvm.ClassFile.FieldType) ∈ px_W := px_in (i := 489) (by decide +kernel) (by rfl)
theorem pw_490 : Jvm.Cond.methodLink "AllSworn$Realm" (79 : Nat) ({ cls := "AllSworn$Realm", name := "oathOf", desc := "(I)I" } : Jvm.MethodName) ∈ px_W := px_in (i := 490) (by decide +kernel) (by rfl)
theorem pw_491 : Jvm.Cond.instanceMethod ({ cls := "AllSworn$Realm", name := "oathOf", desc := "(I)I" } : Jvm.MethodName) ∈ px_W := px_in (i := 491) (by decide +kernel) (by rfl)
theorem pw_492 : Jvm.Cond.selects "AllSworn$Realm" ({ cls := "AllSworn$Realm", name := "oathOf", desc := "(I)I" } : Jvm.MethodName) ({ cls := "AllSworn$Realm", name := "oathOf", desc := "(I)I" } : Jvm.MethodName) ∈ px_W := px_in (i := 492) (by decide +kernel) (by rfl)
theorem pw_493 : Jvm.Cond.code ({ cls := "AllSworn$Realm", name := "oathOf", desc := "(I)I" } : Jvm.MethodName) prog_7_method_8_code (2 : Nat) (Option.some Jvm.ClassFile.FieldType.int) ∈ px_W := px_in (i := 493) (by decide +kernel) (by rfl)
theorem pw_494 : Jvm.Cond.methodLink "AllSworn$Realm" (64 : Nat) ({ cls := "AllSworn$Thing", name := "daysToAsk", desc := "()I" } : Jvm.MethodName) ∈ px_W := px_in (i := 494) (by decide +kernel) (by rfl)
theorem pw_495 : Jvm.Cond.methodLink "AllSworn$Realm" (68 : Nat) ({ cls := "AllSworn$Thing", name := "swearsOn", desc := "(I)Z" } : Jvm.MethodName) ∈ px_W := px_in (i := 495) (by decide +kernel) (by rfl)
theorem pw_496 : Jvm.Cond.instanceMethod ({ cls := "AllSworn$Thing", name := "swearsOn", desc := "(I)Z" } : Jvm.MethodName) ∈ px_W := px_in (i := 496) (by decide +kernel) (by rfl)
theorem pw_497 : Jvm.Cond.sameMethod "AllSworn$Thing" "AllSworn$Thing" "swearsOn" "(I)Z" ∈ px_W := px_in (i := 497) (by decide +kernel) (by rfl)
theorem pw_498 : Jvm.Cond.selects "AllSworn$Foreign" ({ cls := "AllSworn$Thing", name := "swearsOn", desc := "(I)Z" } : Jvm.MethodName) ({ cls := "AllSworn$Thing", name := "swearsOn", desc := "(I)Z" } : Jvm.MethodName) ∈ px_W := px_in (i := 498) (by decide +kernel) (by rfl)
theorem pw_499 : Jvm.Cond.selects "AllSworn$Mixed" ({ cls := "AllSworn$Thing", name := "swearsOn", desc := "(I)Z" } : Jvm.MethodName) ({ cls := "AllSworn$Thing", name := "swearsOn", desc := "(I)Z" } : Jvm.MethodName) ∈ px_W := px_in (i := 499) (by decide +kernel) (by rfl)
theorem pw_500 : Jvm.Cond.selects "AllSworn$Plain" ({ cls := "AllSworn$Thing", name := "swearsOn", desc := "(I)Z" } : Jvm.MethodName) ({ cls := "AllSworn$Thing", name := "swearsOn", desc := "(I)Z" } : Jvm.MethodName) ∈ px_W := px_in (i := 500) (by decide +kernel) (by rfl)
theorem pw_501 : Jvm.Cond.selects "AllSworn$Untrue" ({ cls := "AllSworn$Thing", name := "swearsOn", desc := "(I)Z" } : Jvm.MethodName) ({ cls := "AllSworn$Thing", name := "swearsOn", desc := "(I)Z" } : Jvm.MethodName) ∈ px_W := px_in (i := 501) (by decide +kernel) (by rfl)
theorem pw_502 : Jvm.Cond.selects "AllSworn$Young" ({ cls := "AllSworn$Thing", name := "swearsOn", desc := "(I)Z" } : Jvm.MethodName) ({ cls := "AllSworn$Young", name := "swearsOn", desc := "(I)Z" } : Jvm.MethodName) ∈ px_W := px_in (i := 502) (by decide +kernel) (by rfl)
theorem pw_503 : Jvm.Cond.instanceMethod ({ cls := "AllSworn$Young", name := "swearsOn", desc := "(I)Z" } : Jvm.MethodName) ∈ px_W := px_in (i := 503) (by decide +kernel) (by rfl)
theorem pw_504 : Jvm.Cond.code ({ cls := "AllSworn$Young", name := "swearsOn", desc := "(I)Z" } : Jvm.MethodName) prog_12_method_4_code (2 : Nat) (Option.some Jvm.ClassFile.FieldType.boolean) ∈ px_W := px_in (i := 504) (by decide +kernel) (by rfl)
theorem pw_505 : Jvm.Cond.code ({ cls := "AllSworn$Thing", name := "swearsOn", desc := "(I)Z" } : Jvm.MethodName) prog_9_method_5_code (2 : Nat) (Option.some Jvm.ClassFile.FieldType.boolean) ∈ px_W := px_in (i := 505) (by decide +kernel) (by rfl)
theorem pw_506 : Jvm.Cond.methodLink "AllSworn$Realm" (71 : Nat) ({ cls := "AllSworn$Realm", name := "swear", desc := "(II)V" } : Jvm.MethodName) ∈ px_W := px_in (i := 506) (by decide +kernel) (by rfl)
theorem pw_508 : Jvm.Cond.instanceMethod ({ cls := "AllSworn$Realm", name := "swear", desc := "(II)V" } : Jvm.MethodName) ∈ px_W := px_in (i := 508) (by decide +kernel) (by rfl)
theorem pw_509 : Jvm.Cond.code ({ cls := "AllSworn$Realm", name := "swear", desc := "(II)V" } : Jvm.MethodName) prog_7_method_16_code (3 : Nat) (Option.none : Option Jvm.ClassFile.FieldType) ∈ px_W := px_in (i := 509) (by decide +kernel) (by rfl)
theorem pw_513 : Jvm.Cond.code ({ cls := "AllSworn", name := "tries", desc := "(I)I" } : Jvm.MethodName) prog_1_method_10_code (2 : Nat) (Option.some Jvm.ClassFile.FieldType.int) ∈ px_W := px_in (i := 513) (by decide +kernel) (by rfl)
theorem pw_514 : Jvm.Cond.methodLink "AllSworn" (142 : Nat) ({ cls := "AllSworn$Realm", name := "hasHarm", desc := "(I)Z" } : Jvm.MethodName) ∈ px_W := px_in (i := 514) (by decide +kernel) (by rfl)
theorem pw_515 : Jvm.Cond.instanceMethod ({ cls := "AllSworn$Realm", name := "hasHarm", desc := "(I)Z" } : Jvm.MethodName) ∈ px_W := px_in (i := 515) (by decide +kernel) (by rfl)
theorem pw_516 : Jvm.Cond.selects "AllSworn$Realm" ({ cls := "AllSworn$Realm", name := "hasHarm", desc := "(I)Z" } : Jvm.MethodName) ({ cls := "AllSworn$Realm", name := "hasHarm", desc := "(I)Z" } : Jvm.MethodName) ∈ px_W := px_in (i := 516) (by decide +kernel) (by rfl)
theorem pw_517 : Jvm.Cond.code ({ cls := "AllSworn$Realm", name := "hasHarm", desc := "(I)Z" } : Jvm.MethodName) prog_7_method_9_code (2 : Nat) (Option.some Jvm.ClassFile.FieldType.boolean) ∈ px_W := px_in (i := 517) (by decide +kernel) (by rfl)
theorem pw_518 : Jvm.Cond.methodLink "AllSworn" (145 : Nat) ({ cls := "AllSworn$Realm", name := "tryHarm", desc := "(I)Z" } : Jvm.MethodName) ∈ px_W := px_in (i := 518) (by decide +kernel) (by rfl)
theorem pw_519 : Jvm.Cond.instanceMethod ({ cls := "AllSworn$Realm", name := "tryHarm", desc := "(I)Z" } : Jvm.MethodName) ∈ px_W := px_in (i := 519) (by decide +kernel) (by rfl)
theorem pw_520 : Jvm.Cond.selects "AllSworn$Realm" ({ cls := "AllSworn$Realm", name := "tryHarm", desc := "(I)Z" } : Jvm.MethodName) ({ cls := "AllSworn$Realm", name := "tryHarm", desc := "(I)Z" } : Jvm.MethodName) ∈ px_W := px_in (i := 520) (by decide +kernel) (by rfl)
theorem pw_521 : Jvm.Cond.code ({ cls := "AllSworn$Realm", name := "tryHarm", desc := "(I)Z" } : Jvm.MethodName) prog_7_method_12_code (3 : Nat) (Option.some Jvm.ClassFile.FieldType.boolean) ∈ px_W := px_in (i := 521) (by decide +kernel) (by rfl)
theorem pw_522 : Jvm.Cond.methodLink "AllSworn$Realm" (75 : Nat) ({ cls := "AllSworn$Realm", name := "openOn", desc := "(I)I" } : Jvm.MethodName) ∈ px_W := px_in (i := 522) (by decide +kernel) (by rfl)
theorem pw_523 : Jvm.Cond.instanceMethod ({ cls := "AllSworn$Realm", name := "openOn", desc := "(I)I" } : Jvm.MethodName) ∈ px_W := px_in (i := 523) (by decide +kernel) (by rfl)
theorem pw_524 : Jvm.Cond.selects "AllSworn$Realm" ({ cls := "AllSworn$Realm", name := "openOn", desc := "(I)I" } : Jvm.MethodName) ({ cls := "AllSworn$Realm", name := "openOn", desc := "(I)I" } : Jvm.MethodName) ∈ px_W := px_in (i := 524) (by decide +kernel) (by rfl)
theorem pw_525 : Jvm.Cond.code ({ cls := "AllSworn$Realm", name := "openOn", desc := "(I)I" } : Jvm.MethodName) prog_7_method_19_code (2 : Nat) (Option.some Jvm.ClassFile.FieldType.int) ∈ px_W := px_in (i := 525) (by decide +kernel) (by rfl)
theorem pw_526 : Jvm.Cond.methodLink "AllSworn$Realm" (82 : Nat) ({ cls := "AllSworn$Realm", name := "boundIf", desc := "(III)I" } : Jvm.MethodName) ∈ px_W := px_in (i := 526) (by decide +kernel) (by rfl)
theorem pw_527 : Jvm.Cond.instanceMethod ({ cls := "AllSworn$Realm", name := "boundIf", desc := "(III)I" } : Jvm.MethodName) ∈ px_W := px_in (i := 527) (by decide +kernel) (by rfl)
theorem pw_528 : Jvm.Cond.selects "AllSworn$Realm" ({ cls := "AllSworn$Realm", name := "boundIf", desc := "(III)I" } : Jvm.MethodName) ({ cls := "AllSworn$Realm", name := "boundIf", desc := "(III)I" } : Jvm.MethodName) ∈ px_W := px_in (i := 528) (by decide +kernel) (by rfl)
theorem pw_529 : Jvm.Cond.code ({ cls := "AllSworn$Realm", name := "boundIf", desc := "(III)I" } : Jvm.MethodName) prog_7_method_18_code (9 : Nat) (Option.some Jvm.ClassFile.FieldType.int) ∈ px_W := px_in (i := 529) (by decide +kernel) (by rfl)
theorem pw_530 : Jvm.Cond.methodLink "AllSworn$Realm" (86 : Nat) ({ cls := "AllSworn$Thing", name := "isHeldBy", desc := "(I)Z" } : Jvm.MethodName) ∈ px_W := px_in (i := 530) (by decide +kernel) (by rfl)
theorem pw_531 : Jvm.Cond.instanceMethod ({ cls := "AllSworn$Thing", name := "isHeldBy", desc := "(I)Z" } : Jvm.MethodName) ∈ px_W := px_in (i := 531) (by decide +kernel) (by rfl)
theorem pw_532 : Jvm.Cond.sameMethod "AllSworn$Thing" "AllSworn$Thing" "isHeldBy" "(I)Z" ∈ px_W := px_in (i := 532) (by decide +kernel) (by rfl)
theorem pw_533 : Jvm.Cond.selects "AllSworn$Foreign" ({ cls := "AllSworn$Thing", name := "isHeldBy", desc := "(I)Z" } : Jvm.MethodName) ({ cls := "AllSworn$Thing", name := "isHeldBy", desc := "(I)Z" } : Jvm.MethodName) ∈ px_W := px_in (i := 533) (by decide +kernel) (by rfl)
theorem pw_534 : Jvm.Cond.selects "AllSworn$Mixed" ({ cls := "AllSworn$Thing", name := "isHeldBy", desc := "(I)Z" } : Jvm.MethodName) ({ cls := "AllSworn$Mixed", name := "isHeldBy", desc := "(I)Z" } : Jvm.MethodName) ∈ px_W := px_in (i := 534) (by decide +kernel) (by rfl)
theorem pw_535 : Jvm.Cond.instanceMethod ({ cls := "AllSworn$Mixed", name := "isHeldBy", desc := "(I)Z" } : Jvm.MethodName) ∈ px_W := px_in (i := 535) (by decide +kernel) (by rfl)
theorem pw_536 : Jvm.Cond.code ({ cls := "AllSworn$Mixed", name := "isHeldBy", desc := "(I)Z" } : Jvm.MethodName) prog_3_method_4_code (2 : Nat) (Option.some Jvm.ClassFile.FieldType.boolean) ∈ px_W := px_in (i := 536) (by decide +kernel) (by rfl)
theorem pw_537 : Jvm.Cond.selects "AllSworn$Plain" ({ cls := "AllSworn$Thing", name := "isHeldBy", desc := "(I)Z" } : Jvm.MethodName) ({ cls := "AllSworn$Thing", name := "isHeldBy", desc := "(I)Z" } : Jvm.MethodName) ∈ px_W := px_in (i := 537) (by decide +kernel) (by rfl)
theorem pw_538 : Jvm.Cond.selects "AllSworn$Untrue" ({ cls := "AllSworn$Thing", name := "isHeldBy", desc := "(I)Z" } : Jvm.MethodName) ({ cls := "AllSworn$Untrue", name := "isHeldBy", desc := "(I)Z" } : Jvm.MethodName) ∈ px_W := px_in (i := 538) (by decide +kernel) (by rfl)
theorem pw_539 : Jvm.Cond.instanceMethod ({ cls := "AllSworn$Untrue", name := "isHeldBy", desc := "(I)Z" } : Jvm.MethodName) ∈ px_W := px_in (i := 539) (by decide +kernel) (by rfl)
theorem pw_540 : Jvm.Cond.code ({ cls := "AllSworn$Untrue", name := "isHeldBy", desc := "(I)Z" } : Jvm.MethodName) prog_11_method_4_code (2 : Nat) (Option.some Jvm.ClassFile.FieldType.boolean) ∈ px_W := px_in (i := 540) (by decide +kernel) (by rfl)
theorem pw_541 : Jvm.Cond.selects "AllSworn$Young" ({ cls := "AllSworn$Thing", name := "isHeldBy", desc := "(I)Z" } : Jvm.MethodName) ({ cls := "AllSworn$Thing", name := "isHeldBy", desc := "(I)Z" } : Jvm.MethodName) ∈ px_W := px_in (i := 541) (by decide +kernel) (by rfl)
theorem pw_542 : Jvm.Cond.code ({ cls := "AllSworn$Thing", name := "isHeldBy", desc := "(I)Z" } : Jvm.MethodName) prog_9_method_6_code (2 : Nat) (Option.some Jvm.ClassFile.FieldType.boolean) ∈ px_W := px_in (i := 542) (by decide +kernel) (by rfl)
theorem pw_543 : Jvm.Cond.methodLink "AllSworn$Realm" (89 : Nat) ({ cls := "AllSworn$Realm", name := "openTo", desc := "(I)I" } : Jvm.MethodName) ∈ px_W := px_in (i := 543) (by decide +kernel) (by rfl)
theorem pw_544 : Jvm.Cond.instanceMethod ({ cls := "AllSworn$Realm", name := "openTo", desc := "(I)I" } : Jvm.MethodName) ∈ px_W := px_in (i := 544) (by decide +kernel) (by rfl)
theorem pw_545 : Jvm.Cond.selects "AllSworn$Realm" ({ cls := "AllSworn$Realm", name := "openTo", desc := "(I)I" } : Jvm.MethodName) ({ cls := "AllSworn$Realm", name := "openTo", desc := "(I)I" } : Jvm.MethodName) ∈ px_W := px_in (i := 545) (by decide +kernel) (by rfl)
theorem pw_546 : Jvm.Cond.code ({ cls := "AllSworn$Realm", name := "openTo", desc := "(I)I" } : Jvm.MethodName) prog_7_method_20_code (4 : Nat) (Option.some Jvm.ClassFile.FieldType.int) ∈ px_W := px_in (i := 546) (by decide +kernel) (by rfl)
theorem pw_550 : Jvm.Cond.code ({ cls := "AllSworn", name := "waits", desc := "(I)I" } : Jvm.MethodName) prog_1_method_11_code (2 : Nat) (Option.some Jvm.ClassFile.FieldType.int) ∈ px_W := px_in (i := 550) (by decide +kernel) (by rfl)
theorem pw_551 : Jvm.Cond.methodLink "AllSworn" (148 : Nat) ({ cls := "AllSworn$Realm", name := "isTold", desc := "()Z" } : Jvm.MethodName) ∈ px_W := px_in (i := 551) (by decide +kernel) (by rfl)
theorem pw_552 : Jvm.Cond.instanceMethod ({ cls := "AllSworn$Realm", name := "isTold", desc := "()Z" } : Jvm.MethodName) ∈ px_W := px_in (i := 552) (by decide +kernel) (by rfl)
theorem pw_553 : Jvm.Cond.selects "AllSworn$Realm" ({ cls := "AllSworn$Realm", name := "isTold", desc := "()Z" } : Jvm.MethodName) ({ cls := "AllSworn$Realm", name := "isTold", desc := "()Z" } : Jvm.MethodName) ∈ px_W := px_in (i := 553) (by decide +kernel) (by rfl)
theorem pw_554 : Jvm.Cond.code ({ cls := "AllSworn$Realm", name := "isTold", desc := "()Z" } : Jvm.MethodName) prog_7_method_2_code (1 : Nat) (Option.some Jvm.ClassFile.FieldType.boolean) ∈ px_W := px_in (i := 554) (by decide +kernel) (by rfl)
theorem pw_555 : Jvm.Cond.constant "AllSworn" (151 : Nat) (-1000002 : Int32) ∈ px_W := px_in (i := 555) (by decide +kernel) (by rfl)
theorem pw_556 : Jvm.Cond.methodLink "AllSworn" (152 : Nat) ({ cls := "AllSworn$Realm", name := "letPass", desc := "(I)V" } : Jvm.MethodName) ∈ px_W := px_in (i := 556) (by decide +kernel) (by rfl)
theorem pw_557 : Jvm.Cond.instanceMethod ({ cls := "AllSworn$Realm", name := "letPass", desc := "(I)V" } : Jvm.MethodName) ∈ px_W := px_in (i := 557) (by decide +kernel) (by rfl)
theorem pw_558 : Jvm.Cond.selects "AllSworn$Realm" ({ cls := "AllSworn$Realm", name := "letPass", desc := "(I)V" } : Jvm.MethodName) ({ cls := "AllSworn$Realm", name := "letPass", desc := "(I)V" } : Jvm.MethodName) ∈ px_W := px_in (i := 558) (by decide +kernel) (by rfl)
theorem pw_559 : Jvm.Cond.code ({ cls := "AllSworn$Realm", name := "letPass", desc := "(I)V" } : Jvm.MethodName) prog_7_method_13_code (2 : Nat) (Option.none : Option Jvm.ClassFile.FieldType) ∈ px_W := px_in (i := 559) (by decide +kernel) (by rfl)
theorem pw_563 : Jvm.Cond.code ({ cls := "AllSworn", name := "undo", desc := "()I" } : Jvm.MethodName) prog_1_method_12_code (1 : Nat) (Option.some Jvm.ClassFile.FieldType.int) ∈ px_W := px_in (i := 563) (by decide +kernel) (by rfl)
theorem pw_564 : Jvm.Cond.methodLink "AllSworn" (156 : Nat) ({ cls := "AllSworn$Realm", name := "undoLatest", desc := "()Z" } : Jvm.MethodName) ∈ px_W := px_in (i := 564) (by decide +kernel) (by rfl)
theorem pw_565 : Jvm.Cond.instanceMethod ({ cls := "AllSworn$Realm", name := "undoLatest", desc := "()Z" } : Jvm.MethodName) ∈ px_W := px_in (i := 565) (by decide +kernel) (by rfl)
theorem pw_566 : Jvm.Cond.selects "AllSworn$Realm" ({ cls := "AllSworn$Realm", name := "undoLatest", desc := "()Z" } : Jvm.MethodName) ({ cls := "AllSworn$Realm", name := "undoLatest", desc := "()Z" } : Jvm.MethodName) ∈ px_W := px_in (i := 566) (by decide +kernel) (by rfl)
theorem pw_567 : Jvm.Cond.code ({ cls := "AllSworn$Realm", name := "undoLatest", desc := "()Z" } : Jvm.MethodName) prog_7_method_14_code (2 : Nat) (Option.some Jvm.ClassFile.FieldType.boolean) ∈ px_W := px_in (i := 567) (by decide +kernel) (by rfl)
theorem pw_571 : Jvm.Cond.code ({ cls := "AllSworn", name := "thing", desc := "(II)I" } : Jvm.MethodName) prog_1_method_13_code (4 : Nat) (Option.some Jvm.ClassFile.FieldType.int) ∈ px_W := px_in (i := 571) (by decide +kernel) (by rfl)
theorem pw_572 : Jvm.Cond.methodLink "AllSworn" (168 : Nat) ({ cls := "AllSworn$Realm", name := "oathOf", desc := "(I)I" } : Jvm.MethodName) ∈ px_W := px_in (i := 572) (by decide +kernel) (by rfl)
theorem pw_573 : Jvm.Cond.methodLink "AllSworn" (171 : Nat) ({ cls := "AllSworn$Realm", name := "boundOn", desc := "(I)I" } : Jvm.MethodName) ∈ px_W := px_in (i := 573) (by decide +kernel) (by rfl)
theorem pw_574 : Jvm.Cond.instanceMethod ({ cls := "AllSworn$Realm", name := "boundOn", desc := "(I)I" } : Jvm.MethodName) ∈ px_W := px_in (i := 574) (by decide +kernel) (by rfl)
theorem pw_575 : Jvm.Cond.selects "AllSworn$Realm" ({ cls := "AllSworn$Realm", name := "boundOn", desc := "(I)I" } : Jvm.MethodName) ({ cls := "AllSworn$Realm", name := "boundOn", desc := "(I)I" } : Jvm.MethodName) ∈ px_W := px_in (i := 575) (by decide +kernel) (by rfl)
theorem pw_576 : Jvm.Cond.code ({ cls := "AllSworn$Realm", name := "boundOn", desc := "(I)I" } : Jvm.MethodName) prog_7_method_17_code (2 : Nat) (Option.some Jvm.ClassFile.FieldType.int) ∈ px_W := px_in (i := 576) (by decide +kernel) (by rfl)
theorem pw_580 : Jvm.Cond.code ({ cls := "AllSworn", name := "harm", desc := "(II)I" } : Jvm.MethodName) prog_1_method_14_code (4 : Nat) (Option.some Jvm.ClassFile.FieldType.int) ∈ px_W := px_in (i := 580) (by decide +kernel) (by rfl)
theorem pw_581 : Jvm.Cond.methodLink "AllSworn" (177 : Nat) ({ cls := "AllSworn$Realm", name := "harmAt", desc := "(I)I" } : Jvm.MethodName) ∈ px_W := px_in (i := 581) (by decide +kernel) (by rfl)
theorem pw_582 : Jvm.Cond.instanceMethod ({ cls := "AllSworn$Realm", name := "harmAt", desc := "(I)I" } : Jvm.MethodName) ∈ px_W := px_in (i := 582) (by decide +kernel) (by rfl)
theorem pw_583 : Jvm.Cond.selects "AllSworn$Realm" ({ cls := "AllSworn$Realm", name := "harmAt", desc := "(I)I" } : Jvm.MethodName) ({ cls := "AllSworn$Realm", name := "harmAt", desc := "(I)I" } : Jvm.MethodName) ∈ px_W := px_in (i := 583) (by decide +kernel) (by rfl)
theorem pw_584 : Jvm.Cond.code ({ cls := "AllSworn$Realm", name := "harmAt", desc := "(I)I" } : Jvm.MethodName) prog_7_method_10_code (2 : Nat) (Option.some Jvm.ClassFile.FieldType.int) ∈ px_W := px_in (i := 584) (by decide +kernel) (by rfl)
theorem pw_585 : Jvm.Cond.methodLink "AllSworn$Realm" (53 : Nat) ({ cls := "AllSworn$Realm", name := "hasHarm", desc := "(I)Z" } : Jvm.MethodName) ∈ px_W := px_in (i := 585) (by decide +kernel) (by rfl)
theorem pw_586 : Jvm.Cond.methodLink "AllSworn" (180 : Nat) ({ cls := "AllSworn$Realm", name := "priceOf", desc := "(I)I" } : Jvm.MethodName) ∈ px_W := px_in (i := 586) (by decide +kernel) (by rfl)
theorem pw_587 : Jvm.Cond.instanceMethod ({ cls := "AllSworn$Realm", name := "priceOf", desc := "(I)I" } : Jvm.MethodName) ∈ px_W := px_in (i := 587) (by decide +kernel) (by rfl)
theorem pw_588 : Jvm.Cond.selects "AllSworn$Realm" ({ cls := "AllSworn$Realm", name := "priceOf", desc := "(I)I" } : Jvm.MethodName) ({ cls := "AllSworn$Realm", name := "priceOf", desc := "(I)I" } : Jvm.MethodName) ∈ px_W := px_in (i := 588) (by decide +kernel) (by rfl)
theorem pw_589 : Jvm.Cond.code ({ cls := "AllSworn$Realm", name := "priceOf", desc := "(I)I" } : Jvm.MethodName) prog_7_method_21_code (4 : Nat) (Option.some Jvm.ClassFile.FieldType.int) ∈ px_W := px_in (i := 589) (by decide +kernel) (by rfl)
theorem pw_593 : Jvm.Cond.code ({ cls := "AllSworn", name := "open", desc := "(I)I" } : Jvm.MethodName) prog_1_method_15_code (2 : Nat) (Option.some Jvm.ClassFile.FieldType.int) ∈ px_W := px_in (i := 593) (by decide +kernel) (by rfl)
theorem pw_594 : Jvm.Cond.methodLink "AllSworn" (183 : Nat) ({ cls := "AllSworn", name := "isAhead", desc := "(I)Z" } : Jvm.MethodName) ∈ px_W := px_in (i := 594) (by decide +kernel) (by rfl)
theorem pw_596 : Jvm.Cond.instanceMethod ({ cls := "AllSworn", name := "isAhead", desc := "(I)Z" } : Jvm.MethodName) ∈ px_W := px_in (i := 596) (by decide +kernel) (by rfl)
theorem pw_597 : Jvm.Cond.code ({ cls := "AllSworn", name := "isAhead", desc := "(I)Z" } : Jvm.MethodName) prog_1_method_38_code (2 : Nat) (Option.some Jvm.ClassFile.FieldType.boolean) ∈ px_W := px_in (i := 597) (by decide +kernel) (by rfl)
theorem pw_598 : Jvm.Cond.methodLink "AllSworn" (186 : Nat) ({ cls := "AllSworn$Realm", name := "openOn", desc := "(I)I" } : Jvm.MethodName) ∈ px_W := px_in (i := 598) (by decide +kernel) (by rfl)
theorem pw_602 : Jvm.Cond.code ({ cls := "AllSworn", name := "gap", desc := "()I" } : Jvm.MethodName) prog_1_method_16_code (1 : Nat) (Option.some Jvm.ClassFile.FieldType.int) ∈ px_W := px_in (i := 602) (by decide +kernel) (by rfl)
theorem pw_603 : Jvm.Cond.methodLink "AllSworn" (189 : Nat) ({ cls := "AllSworn$Oracle", name := "firstGap", desc := "(LAllSworn$Realm;)I" } : Jvm.MethodName) ∈ px_W := px_in (i := 603) (by decide +kernel) (by rfl)
theorem pw_604 : Jvm.Cond.instanceMethod ({ cls := "AllSworn$Oracle", name := "firstGap", desc := "(LAllSworn$Realm;)I" } : Jvm.MethodName) ∈ px_W := px_in (i := 604) (by decide +kernel) (by rfl)
theorem pw_605 : Jvm.Cond.selects "AllSworn$Oracle" ({ cls := "AllSworn$Oracle", name := "firstGap", desc := "(LAllSworn$Realm;)I" } : Jvm.MethodName) ({ cls := "AllSworn$Oracle", name := "firstGap", desc := "(LAllSworn$Realm;)I" } : Jvm.MethodName) ∈ px_W := px_in (i := 605) (by decide +kernel) (by rfl)
theorem pw_606 : Jvm.Cond.code ({ cls := "AllSworn$Oracle", name := "firstGap", desc := "(LAllSworn$Realm;)I" } : Jvm.MethodName) prog_4_method_2_code (3 : Nat) (Option.some Jvm.ClassFile.FieldType.int) ∈ px_W := px_in (i := 606) (by decide +kernel) (by rfl)
theorem pw_607 : Jvm.Cond.methodLink "AllSworn$Oracle" (36 : Nat) ({ cls := "AllSworn$Realm", name := "openOn", desc := "(I)I" } : Jvm.MethodName) ∈ px_W := px_in (i := 607) (by decide +kernel) (by rfl)
theorem pw_611 : Jvm.Cond.code ({ cls := "AllSworn", name := "cover", desc := "(I)I" } : Jvm.MethodName) prog_1_method_17_code (2 : Nat) (Option.some Jvm.ClassFile.FieldType.int) ∈ px_W := px_in (i := 611) (by decide +kernel) (by rfl)
theorem pw_612 : Jvm.Cond.methodLink "AllSworn" (193 : Nat) ({ cls := "AllSworn", name := "isPair", desc := "(I)Z" } : Jvm.MethodName) ∈ px_W := px_in (i := 612) (by decide +kernel) (by rfl)
theorem pw_613 : Jvm.Cond.static ({ cls := "AllSworn", name := "isPair", desc := "(I)Z" } : Jvm.MethodName) ∈ px_W := px_in (i := 613) (by decide +kernel) (by rfl)
theorem pw_614 : Jvm.Cond.code ({ cls := "AllSworn", name := "isPair", desc := "(I)Z" } : Jvm.MethodName) prog_1_method_39_code (1 : Nat) (Option.some Jvm.ClassFile.FieldType.boolean) ∈ px_W := px_in (i := 614) (by decide +kernel) (by rfl)
theorem pw_615 : Jvm.Cond.methodLink "AllSworn" (196 : Nat) ({ cls := "AllSworn$Oracle", name := "leastCover", desc := "(LAllSworn$Realm;)I" } : Jvm.MethodName) ∈ px_W := px_in (i := 615) (by decide +kernel) (by rfl)
theorem pw_616 : Jvm.Cond.instanceMethod ({ cls := "AllSworn$Oracle", name := "leastCover", desc := "(LAllSworn$Realm;)I" } : Jvm.MethodName) ∈ px_W := px_in (i := 616) (by decide +kernel) (by rfl)
theorem pw_617 : Jvm.Cond.selects "AllSworn$Oracle" ({ cls := "AllSworn$Oracle", name := "leastCover", desc := "(LAllSworn$Realm;)I" } : Jvm.MethodName) ({ cls := "AllSworn$Oracle", name := "leastCover", desc := "(LAllSworn$Realm;)I" } : Jvm.MethodName) ∈ px_W := px_in (i := 617) (by decide +kernel) (by rfl)
theorem pw_618 : Jvm.Cond.code ({ cls := "AllSworn$Oracle", name := "leastCover", desc := "(LAllSworn$Realm;)I" } : Jvm.MethodName) prog_4_method_3_code (6 : Nat) (Option.some Jvm.ClassFile.FieldType.int) ∈ px_W := px_in (i := 618) (by decide +kernel) (by rfl)
theorem pw_619 : Jvm.Cond.methodLink "AllSworn$Oracle" (40 : Nat) ({ cls := "AllSworn$Oracle", name := "willingOn", desc := "(LAllSworn$Realm;I)I" } : Jvm.MethodName) ∈ px_W := px_in (i := 619) (by decide +kernel) (by rfl)
theorem pw_620 : Jvm.Cond.static ({ cls := "AllSworn$Oracle", name := "willingOn", desc := "(LAllSworn$Realm;I)I" } : Jvm.MethodName) ∈ px_W := px_in (i := 620) (by decide +kernel) (by rfl)
theorem pw_621 : Jvm.Cond.code ({ cls := "AllSworn$Oracle", name := "willingOn", desc := "(LAllSworn$Realm;I)I" } : Jvm.MethodName) prog_4_method_4_code (5 : Nat) (Option.some Jvm.ClassFile.FieldType.int) ∈ px_W := px_in (i := 621) (by decide +kernel) (by rfl)
theorem pw_622 : Jvm.Cond.methodLink "AllSworn$Oracle" (62 : Nat) ({ cls := "AllSworn$Realm", name := "thingAt", desc := "(I)LAllSworn$Thing;" } : Jvm.MethodName) ∈ px_W := px_in (i := 622) (by decide +kernel) (by rfl)
theorem pw_623 : Jvm.Cond.methodLink "AllSworn$Oracle" (66 : Nat) ({ cls := "AllSworn$Thing", name := "swearsOn", desc := "(I)Z" } : Jvm.MethodName) ∈ px_W := px_in (i := 623) (by decide +kernel) (by rfl)
theorem pw_624 : Jvm.Cond.methodLink "AllSworn$Oracle" (47 : Nat) ({ cls := "java/lang/Integer", name := "bitCount", desc := "(I)I" } : Jvm.MethodName) ∈ px_W := px_in (i := 624) (by decide +kernel) (by rfl)
theorem pw_625 : Jvm.Cond.static ({ cls := "java/lang/Integer", name := "bitCount", desc := "(I)I" } : Jvm.MethodName) ∈ px_W := px_in (i := 625) (by decide +kernel) (by rfl)
theorem pw_626 : Jvm.Cond.code ({ cls := "java/lang/Integer", name := "bitCount", desc := "(I)I" } : Jvm.MethodName) prog_15_method_49_code (1 : Nat) (Option.some Jvm.ClassFile.FieldType.int) ∈ px_W := px_in (i := 626) (by decide +kernel) (by rfl)
theorem pw_627 : Jvm.Cond.constant "java/lang/Integer" (265 : Nat) (1431655765 : Int32) ∈ px_W := px_in (i := 627) (by decide +kernel) (by rfl)
theorem pw_628 : Jvm.Cond.constant "java/lang/Integer" (266 : Nat) (858993459 : Int32) ∈ px_W := px_in (i := 628) (by decide +kernel) (by rfl)
theorem pw_629 : Jvm.Cond.constant "java/lang/Integer" (267 : Nat) (252645135 : Int32) ∈ px_W := px_in (i := 629) (by decide +kernel) (by rfl)
theorem pw_630 : Jvm.Cond.methodLink "AllSworn$Oracle" (55 : Nat) ({ cls := "AllSworn$Realm", name := "boundIf", desc := "(III)I" } : Jvm.MethodName) ∈ px_W := px_in (i := 630) (by decide +kernel) (by rfl)
theorem pw_631 : Jvm.Cond.methodLink "AllSworn$Oracle" (59 : Nat) ({ cls := "AllSworn$Realm", name := "openTo", desc := "(I)I" } : Jvm.MethodName) ∈ px_W := px_in (i := 631) (by decide +kernel) (by rfl)
theorem pw_632 : Jvm.Cond.methodLink "AllSworn" (199 : Nat) ({ cls := "AllSworn", name := "sizeOrSet", desc := "(II)I" } : Jvm.MethodName) ∈ px_W := px_in (i := 632) (by decide +kernel) (by rfl)
theorem pw_633 : Jvm.Cond.static ({ cls := "AllSworn", name := "sizeOrSet", desc := "(II)I" } : Jvm.MethodName) ∈ px_W := px_in (i := 633) (by decide +kernel) (by rfl)
theorem pw_634 : Jvm.Cond.code ({ cls := "AllSworn", name := "sizeOrSet", desc := "(II)I" } : Jvm.MethodName) prog_1_method_40_code (2 : Nat) (Option.some Jvm.ClassFile.FieldType.int) ∈ px_W := px_in (i := 634) (by decide +kernel) (by rfl)
theorem pw_635 : Jvm.Cond.constant "AllSworn" (292 : Nat) (-1000000 : Int32) ∈ px_W := px_in (i := 635) (by decide +kernel) (by rfl)
theorem pw_636 : Jvm.Cond.methodLink "AllSworn" (231 : Nat) ({ cls := "java/lang/Integer", name := "bitCount", desc := "(I)I" } : Jvm.MethodName) ∈ px_W := px_in (i := 636) (by decide +kernel) (by rfl)
theorem pw_640 : Jvm.Cond.code ({ cls := "AllSworn", name := "round", desc := "(I)I" } : Jvm.MethodName) prog_1_method_18_code (2 : Nat) (Option.some Jvm.ClassFile.FieldType.int) ∈ px_W := px_in (i := 640) (by decide +kernel) (by rfl)
theorem pw_641 : Jvm.Cond.methodLink "AllSworn" (202 : Nat) ({ cls := "AllSworn$Oracle", name := "seekRound", desc := "(LAllSworn$Realm;)V" } : Jvm.MethodName) ∈ px_W := px_in (i := 641) (by decide +kernel) (by rfl)
theorem pw_642 : Jvm.Cond.instanceMethod ({ cls := "AllSworn$Oracle", name := "seekRound", desc := "(LAllSworn$Realm;)V" } : Jvm.MethodName) ∈ px_W := px_in (i := 642) (by decide +kernel) (by rfl)
theorem pw_643 : Jvm.Cond.selects "AllSworn$Oracle" ({ cls := "AllSworn$Oracle", name := "seekRound", desc := "(LAllSworn$Realm;)V" } : Jvm.MethodName) ({ cls := "AllSworn$Oracle", name := "seekRound", desc := "(LAllSworn$Realm;)V" } : Jvm.MethodName) ∈ px_W := px_in (i := 643) (by decide +kernel) (by rfl)
theorem pw_644 : Jvm.Cond.code ({ cls := "AllSworn$Oracle", name := "seekRound", desc := "(LAllSworn$Realm;)V" } : Jvm.MethodName) prog_4_method_5_code (2 : Nat) (Option.none : Option Jvm.ClassFile.FieldType) ∈ px_W := px_in (i := 644) (by decide +kernel) (by rfl)
theorem pw_645 : Jvm.Cond.methodLink "AllSworn$Oracle" (72 : Nat) ({ cls := "AllSworn$Realm", name := "becomeLike", desc := "(LAllSworn$Realm;)V" } : Jvm.MethodName) ∈ px_W := px_in (i := 645) (by decide +kernel) (by rfl)
theorem pw_646 : Jvm.Cond.methodLink "AllSworn$Oracle" (76 : Nat) ({ cls := "AllSworn$Oracle", name := "goOn", desc := "(III)V" } : Jvm.MethodName) ∈ px_W := px_in (i := 646) (by decide +kernel) (by rfl)
theorem pw_648 : Jvm.Cond.instanceMethod ({ cls := "AllSworn$Oracle", name := "goOn", desc := "(III)V" } : Jvm.MethodName) ∈ px_W := px_in (i := 648) (by decide +kernel) (by rfl)
theorem pw_649 : Jvm.Cond.code ({ cls := "AllSworn$Oracle", name := "goOn", desc := "(III)V" } : Jvm.MethodName) prog_4_method_6_code (7 : Nat) (Option.none : Option Jvm.ClassFile.FieldType) ∈ px_W := px_in (i := 649) (by decide +kernel) (by rfl)
theorem pw_650 : Jvm.Cond.methodLink "AllSworn$Oracle" (80 : Nat) ({ cls := "AllSworn$Oracle", name := "keepWay", desc := "(II)V" } : Jvm.MethodName) ∈ px_W := px_in (i := 650) (by decide +kernel) (by rfl)
theorem pw_652 : Jvm.Cond.instanceMethod ({ cls := "AllSworn$Oracle", name := "keepWay", desc := "(II)V" } : Jvm.MethodName) ∈ px_W := px_in (i := 652) (by decide +kernel) (by rfl)
theorem pw_653 : Jvm.Cond.code ({ cls := "AllSworn$Oracle", name := "keepWay", desc := "(II)V" } : Jvm.MethodName) prog_4_method_7_code (3 : Nat) (Option.none : Option Jvm.ClassFile.FieldType) ∈ px_W := px_in (i := 653) (by decide +kernel) (by rfl)
theorem pw_654 : Jvm.Cond.methodLink "AllSworn$Oracle" (92 : Nat) ({ cls := "java/lang/System", name := "arraycopy", desc := "(Ljava/lang/Object;ILjava/lang/Object;II)V" } : Jvm.MethodName) ∈ px_W := px_in (i := 654) (by decide +kernel) (by rfl)
theorem pw_655 : Jvm.Cond.methodLink "AllSworn$Oracle" (84 : Nat) ({ cls := "AllSworn$Realm", name := "sendTo", desc := "(LAllSworn$Thing;)V" } : Jvm.MethodName) ∈ px_W := px_in (i := 655) (by decide +kernel) (by rfl)
theorem pw_656 : Jvm.Cond.methodLink "AllSworn$Oracle" (88 : Nat) ({ cls := "AllSworn$Realm", name := "undoLatest", desc := "()Z" } : Jvm.MethodName) ∈ px_W := px_in (i := 656) (by decide +kernel) (by rfl)
theorem pw_657 : Jvm.Cond.methodLink "AllSworn" (211 : Nat) ({ cls := "AllSworn$Oracle", name := "bestStop", desc := "(I)I" } : Jvm.MethodName) ∈ px_W := px_in (i := 657) (by decide +kernel) (by rfl)
theorem pw_658 : Jvm.Cond.instanceMethod ({ cls := "AllSworn$Oracle", name := "bestStop", desc := "(I)I" } : Jvm.MethodName) ∈ px_W := px_in (i := 658) (by decide +kernel) (by rfl)
theorem pw_659 : Jvm.Cond.selects "AllSworn$Oracle" ({ cls := "AllSworn$Oracle", name := "bestStop", desc := "(I)I" } : Jvm.MethodName) ({ cls := "AllSworn$Oracle", name := "bestStop", desc := "(I)I" } : Jvm.MethodName) ∈ px_W := px_in (i := 659) (by decide +kernel) (by rfl)
theorem pw_660 : Jvm.Cond.code ({ cls := "AllSworn$Oracle", name := "bestStop", desc := "(I)I" } : Jvm.MethodName) prog_4_method_8_code (2 : Nat) (Option.some Jvm.ClassFile.FieldType.int) ∈ px_W := px_in (i := 660) (by decide +kernel) (by rfl)
theorem pw_664 : Jvm.Cond.code ({ cls := "AllSworn", name := "cheapest", desc := "(II)I" } : Jvm.MethodName) prog_1_method_19_code (3 : Nat) (Option.some Jvm.ClassFile.FieldType.int) ∈ px_W := px_in (i := 664) (by decide +kernel) (by rfl)
theorem pw_665 : Jvm.Cond.methodLink "AllSworn" (214 : Nat) ({ cls := "AllSworn$Realm", name := "cheapestOn", desc := "(I)I" } : Jvm.MethodName) ∈ px_W := px_in (i := 665) (by decide +kernel) (by rfl)
theorem pw_666 : Jvm.Cond.instanceMethod ({ cls := "AllSworn$Realm", name := "cheapestOn", desc := "(I)I" } : Jvm.MethodName) ∈ px_W := px_in (i := 666) (by decide +kernel) (by rfl)
theorem pw_667 : Jvm.Cond.selects "AllSworn$Realm" ({ cls := "AllSworn$Realm", name := "cheapestOn", desc := "(I)I" } : Jvm.MethodName) ({ cls := "AllSworn$Realm", name := "cheapestOn", desc := "(I)I" } : Jvm.MethodName) ∈ px_W := px_in (i := 667) (by decide +kernel) (by rfl)
theorem pw_668 : Jvm.Cond.code ({ cls := "AllSworn$Realm", name := "cheapestOn", desc := "(I)I" } : Jvm.MethodName) prog_7_method_22_code (7 : Nat) (Option.some Jvm.ClassFile.FieldType.int) ∈ px_W := px_in (i := 668) (by decide +kernel) (by rfl)
theorem pw_669 : Jvm.Cond.methodLink "AllSworn$Realm" (95 : Nat) ({ cls := "AllSworn$Realm", name := "priceOf", desc := "(I)I" } : Jvm.MethodName) ∈ px_W := px_in (i := 669) (by decide +kernel) (by rfl)
theorem pw_670 : Jvm.Cond.methodLink "AllSworn" (217 : Nat) ({ cls := "AllSworn$Realm", name := "cheapestPriceOn", desc := "(I)I" } : Jvm.MethodName) ∈ px_W := px_in (i := 670) (by decide +kernel) (by rfl)
theorem pw_671 : Jvm.Cond.instanceMethod ({ cls := "AllSworn$Realm", name := "cheapestPriceOn", desc := "(I)I" } : Jvm.MethodName) ∈ px_W := px_in (i := 671) (by decide +kernel) (by rfl)
theorem pw_672 : Jvm.Cond.selects "AllSworn$Realm" ({ cls := "AllSworn$Realm", name := "cheapestPriceOn", desc := "(I)I" } : Jvm.MethodName) ({ cls := "AllSworn$Realm", name := "cheapestPriceOn", desc := "(I)I" } : Jvm.MethodName) ∈ px_W := px_in (i := 672) (by decide +kernel) (by rfl)
theorem pw_673 : Jvm.Cond.code ({ cls := "AllSworn$Realm", name := "cheapestPriceOn", desc := "(I)I" } : Jvm.MethodName) prog_7_method_23_code (3 : Nat) (Option.some Jvm.ClassFile.FieldType.int) ∈ px_W := px_in (i := 673) (by decide +kernel) (by rfl)
theorem pw_674 : Jvm.Cond.methodLink "AllSworn$Realm" (98 : Nat) ({ cls := "AllSworn$Realm", name := "cheapestOn", desc := "(I)I" } : Jvm.MethodName) ∈ px_W := px_in (i := 674) (by decide +kernel) (by rfl)
theorem pw_675 : Jvm.Cond.methodLink "AllSworn$Realm" (101 : Nat) ({ cls := "AllSworn$Realm", name := "harmAt", desc := "(I)I" } : Jvm.MethodName) ∈ px_W := px_in (i := 675) (by decide +kernel) (by rfl)
theorem pw_679 : Jvm.Cond.code ({ cls := "AllSworn", name := "defended", desc := "(II)I" } : Jvm.MethodName) prog_1_method_20_code (4 : Nat) (Option.some Jvm.ClassFile.FieldType.int) ∈ px_W := px_in (i := 679) (by decide +kernel) (by rfl)
theorem pw_680 : Jvm.Cond.methodLink "AllSworn" (220 : Nat) ({ cls := "AllSworn$Oracle", name := "bestDefence", desc := "(LAllSworn$Realm;I)I" } : Jvm.MethodName) ∈ px_W := px_in (i := 680) (by decide +kernel) (by rfl)
theorem pw_681 : Jvm.Cond.instanceMethod ({ cls := "AllSworn$Oracle", name := "bestDefence", desc := "(LAllSworn$Realm;I)I" } : Jvm.MethodName) ∈ px_W := px_in (i := 681) (by decide +kernel) (by rfl)
theorem pw_682 : Jvm.Cond.selects "AllSworn$Oracle" ({ cls := "AllSworn$Oracle", name := "bestDefence", desc := "(LAllSworn$Realm;I)I" } : Jvm.MethodName) ({ cls := "AllSworn$Oracle", name := "bestDefence", desc := "(LAllSworn$Realm;I)I" } : Jvm.MethodName) ∈ px_W := px_in (i := 682) (by decide +kernel) (by rfl)
theorem pw_683 : Jvm.Cond.code ({ cls := "AllSworn$Oracle", name := "bestDefence", desc := "(LAllSworn$Realm;I)I" } : Jvm.MethodName) prog_4_method_9_code (8 : Nat) (Option.some Jvm.ClassFile.FieldType.int) ∈ px_W := px_in (i := 683) (by decide +kernel) (by rfl)
theorem pw_684 : Jvm.Cond.methodLink "AllSworn$Oracle" (98 : Nat) ({ cls := "AllSworn$Oracle", name := "priceBehind", desc := "(LAllSworn$Realm;LAllSworn$Thing;I)I" } : Jvm.MethodName) ∈ px_W := px_in (i := 684) (by decide +kernel) (by rfl)
theorem pw_685 : Jvm.Cond.instanceMethod ({ cls := "AllSworn$Oracle", name := "priceBehind", desc := "(LAllSworn$Realm;LAllSworn$Thing;I)I" } : Jvm.MethodName) ∈ px_W := px_in (i := 685) (by decide +kernel) (by rfl)
theorem pw_686 : Jvm.Cond.selects "AllSworn$Oracle" ({ cls := "AllSworn$Oracle", name := "priceBehind", desc := "(LAllSworn$Realm;LAllSworn$Thing;I)I" } : Jvm.MethodName) ({ cls := "AllSworn$Oracle", name := "priceBehind", desc := "(LAllSworn$Realm;LAllSworn$Thing;I)I" } : Jvm.MethodName) ∈ px_W := px_in (i := 686) (by decide +kernel) (by rfl)
theorem pw_687 : Jvm.Cond.code ({ cls := "AllSworn$Oracle", name := "priceBehind", desc := "(LAllSworn$Realm;LAllSworn$Thing;I)I" } : Jvm.MethodName) prog_4_method_10_code (4 : Nat) (Option.some Jvm.ClassFile.FieldType.int) ∈ px_W := px_in (i := 687) (by decide +kernel) (by rfl)
theorem pw_688 : Jvm.Cond.methodLink "AllSworn$Oracle" (102 : Nat) ({ cls := "java/lang/Math", name := "max", desc := "(II)I" } : Jvm.MethodName) ∈ px_W := px_in (i := 688) (by decide +kernel) (by rfl)
theorem pw_689 : Jvm.Cond.methodLink "AllSworn$Oracle" (108 : Nat) ({ cls := "AllSworn$Realm", name := "cheapestPriceOn", desc := "(I)I" } : Jvm.MethodName) ∈ px_W := px_in (i := 689) (by decide +kernel) (by rfl)
theorem pw_690 : Jvm.Cond.methodLink "AllSworn" (224 : Nat) ({ cls := "AllSworn$Oracle", name := "priceBehind", desc := "(LAllSworn$Realm;LAllSworn$Thing;I)I" } : Jvm.MethodName) ∈ px_W := px_in (i := 690) (by decide +kernel) (by rfl)
theorem pw_694 : Jvm.Cond.code ({ cls := "AllSworn", name := "enough", desc := "(I)I" } : Jvm.MethodName) prog_1_method_21_code (2 : Nat) (Option.some Jvm.ClassFile.FieldType.int) ∈ px_W := px_in (i := 694) (by decide +kernel) (by rfl)
theorem pw_695 : Jvm.Cond.methodLink "AllSworn" (228 : Nat) ({ cls := "AllSworn$Oracle", name := "leastKinds", desc := "(LAllSworn$Realm;)I" } : Jvm.MethodName) ∈ px_W := px_in (i := 695) (by decide +kernel) (by rfl)
theorem pw_696 : Jvm.Cond.instanceMethod ({ cls := "AllSworn$Oracle", name := "leastKinds", desc := "(LAllSworn$Realm;)I" } : Jvm.MethodName) ∈ px_W := px_in (i := 696) (by decide +kernel) (by rfl)
theorem pw_697 : Jvm.Cond.selects "AllSworn$Oracle" ({ cls := "AllSworn$Oracle", name := "leastKinds", desc := "(LAllSworn$Realm;)I" } : Jvm.MethodName) ({ cls := "AllSworn$Oracle", name := "leastKinds", desc := "(LAllSworn$Realm;)I" } : Jvm.MethodName) ∈ px_W := px_in (i := 697) (by decide +kernel) (by rfl)
theorem pw_698 : Jvm.Cond.code ({ cls := "AllSworn$Oracle", name := "leastKinds", desc := "(LAllSworn$Realm;)I" } : Jvm.MethodName) prog_4_method_11_code (5 : Nat) (Option.some Jvm.ClassFile.FieldType.int) ∈ px_W := px_in (i := 698) (by decide +kernel) (by rfl)
theorem pw_699 : Jvm.Cond.methodLink "AllSworn$Oracle" (111 : Nat) ({ cls := "AllSworn$Realm", name := "toldAs", desc := "(I)I" } : Jvm.MethodName) ∈ px_W := px_in (i := 699) (by decide +kernel) (by rfl)
theorem pw_700 : Jvm.Cond.instanceMethod ({ cls := "AllSworn$Realm", name := "toldAs", desc := "(I)I" } : Jvm.MethodName) ∈ px_W := px_in (i := 700) (by decide +kernel) (by rfl)
theorem pw_701 : Jvm.Cond.selects "AllSworn$Realm" ({ cls := "AllSworn$Realm", name := "toldAs", desc := "(I)I" } : Jvm.MethodName) ({ cls := "AllSworn$Realm", name := "toldAs", desc := "(I)I" } : Jvm.MethodName) ∈ px_W := px_in (i := 701) (by decide +kernel) (by rfl)
theorem pw_702 : Jvm.Cond.code ({ cls := "AllSworn$Realm", name := "toldAs", desc := "(I)I" } : Jvm.MethodName) prog_7_method_24_code (4 : Nat) (Option.some Jvm.ClassFile.FieldType.int) ∈ px_W := px_in (i := 702) (by decide +kernel) (by rfl)
theorem pw_703 : Jvm.Cond.methodLink "AllSworn$Realm" (104 : Nat) ({ cls := "AllSworn$Thing", name := "toldKind", desc := "()I" } : Jvm.MethodName) ∈ px_W := px_in (i := 703) (by decide +kernel) (by rfl)
theorem pw_704 : Jvm.Cond.declares ({ cls := "AllSworn$Thing", name := "toldKind", desc := "()I" } : Jvm.MethodName) ∈ px_Z := px_inZ (i := 704) (by decide +kernel) (by rfl)
theorem pw_705 : Jvm.Cond.sameMethod "AllSworn$Thing" "AllSworn$Thing" "toldKind" "()I" ∈ px_W := px_in (i := 705) (by decide +kernel) (by rfl)
theorem pw_706 : Jvm.Cond.selects "AllSworn$Foreign" ({ cls := "AllSworn$Thing", name := "toldKind", desc := "()I" } : Jvm.MethodName) ({ cls := "AllSworn$Foreign", name := "toldKind", desc := "()I" } : Jvm.MethodName) ∈ px_W := px_in (i := 706) (by decide +kernel) (by rfl)
theorem pw_707 : Jvm.Cond.instanceMethod ({ cls := "AllSworn$Foreign", name := "toldKind", desc := "()I" } : Jvm.MethodName) ∈ px_W := px_in (i := 707) (by decide +kernel) (by rfl)
theorem pw_708 : Jvm.Cond.code ({ cls := "AllSworn$Foreign", name := "toldKind", desc := "()I" } : Jvm.MethodName) prog_2_method_2_code (1 : Nat) (Option.some Jvm.ClassFile.FieldType.int) ∈ px_W := px_in (i := 708) (by decide +kernel) (by rfl)
theorem pw_709 : Jvm.Cond.selects "AllSworn$Mixed" ({ cls := "AllSworn$Thing", name := "toldKind", desc := "()I" } : Jvm.MethodName) ({ cls := "AllSworn$Mixed", name := "toldKind", desc := "()I" } : Jvm.MethodName) ∈ px_W := px_in (i := 709) (by decide +kernel) (by rfl)
theorem pw_710 : Jvm.Cond.instanceMethod ({ cls := "AllSworn$Mixed", name := "toldKind", desc := "()I" } : Jvm.MethodName) ∈ px_W := px_in (i := 710) (by decide +kernel) (by rfl)
theorem pw_711 : Jvm.Cond.code ({ cls := "AllSworn$Mixed", name := "toldKind", desc := "()I" } : Jvm.MethodName) prog_3_method_2_code (1 : Nat) (Option.some Jvm.ClassFile.FieldType.int) ∈ px_W := px_in (i := 711) (by decide +kernel) (by rfl)
theorem pw_712 : Jvm.Cond.selects "AllSworn$Plain" ({ cls := "AllSworn$Thing", name := "toldKind", desc := "()I" } : Jvm.MethodName) ({ cls := "AllSworn$Plain", name := "toldKind", desc := "()I" } : Jvm.MethodName) ∈ px_W := px_in (i := 712) (by decide +kernel) (by rfl)
theorem pw_713 : Jvm.Cond.instanceMethod ({ cls := "AllSworn$Plain", name := "toldKind", desc := "()I" } : Jvm.MethodName) ∈ px_W := px_in (i := 713) (by decide +kernel) (by rfl)
theorem pw_714 : Jvm.Cond.code ({ cls := "AllSworn$Plain", name := "toldKind", desc := "()I" } : Jvm.MethodName) prog_5_method_2_code (1 : Nat) (Option.some Jvm.ClassFile.FieldType.int) ∈ px_W := px_in (i := 714) (by decide +kernel) (by rfl)
theorem pw_715 : Jvm.Cond.selects "AllSworn$Untrue" ({ cls := "AllSworn$Thing", name := "toldKind", desc := "()I" } : Jvm.MethodName) ({ cls := "AllSworn$Untrue", name := "toldKind", desc := "()I" } : Jvm.MethodName) ∈ px_W := px_in (i := 715) (by decide +kernel) (by rfl)
theorem pw_716 : Jvm.Cond.instanceMethod ({ cls := "AllSworn$Untrue", name := "toldKind", desc := "()I" } : Jvm.MethodName) ∈ px_W := px_in (i := 716) (by decide +kernel) (by rfl)
theorem pw_717 : Jvm.Cond.code ({ cls := "AllSworn$Untrue", name := "toldKind", desc := "()I" } : Jvm.MethodName) prog_11_method_2_code (1 : Nat) (Option.some Jvm.ClassFile.FieldType.int) ∈ px_W := px_in (i := 717) (by decide +kernel) (by rfl)
theorem pw_718 : Jvm.Cond.selects "AllSworn$Young" ({ cls := "AllSworn$Thing", name := "toldKind", desc := "()I" } : Jvm.MethodName) ({ cls := "AllSworn$Young", name := "toldKind", desc := "()I" } : Jvm.MethodName) ∈ px_W := px_in (i := 718) (by decide +kernel) (by rfl)
theorem pw_719 : Jvm.Cond.instanceMethod ({ cls := "AllSworn$Young", name := "toldKind", desc := "()I" } : Jvm.MethodName) ∈ px_W := px_in (i := 719) (by decide +kernel) (by rfl)
theorem pw_720 : Jvm.Cond.code ({ cls := "AllSworn$Young", name := "toldKind", desc := "()I" } : Jvm.MethodName) prog_12_method_2_code (1 : Nat) (Option.some Jvm.ClassFile.FieldType.int) ∈ px_W := px_in (i := 720) (by decide +kernel) (by rfl)
theorem pw_724 : Jvm.Cond.code ({ cls := "AllSworn", name := "odds", desc := "(III)I" } : Jvm.MethodName) prog_1_method_22_code (8 : Nat) (Option.some Jvm.ClassFile.FieldType.int) ∈ px_W := px_in (i := 724) (by decide +kernel) (by rfl)
theorem pw_725 : Jvm.Cond.methodLink "AllSworn" (236 : Nat) ({ cls := "AllSworn", name := "power", desc := "(II)I" } : Jvm.MethodName) ∈ px_W := px_in (i := 725) (by decide +kernel) (by rfl)
theorem pw_726 : Jvm.Cond.static ({ cls := "AllSworn", name := "power", desc := "(II)I" } : Jvm.MethodName) ∈ px_W := px_in (i := 726) (by decide +kernel) (by rfl)
theorem pw_727 : Jvm.Cond.code ({ cls := "AllSworn", name := "power", desc := "(II)I" } : Jvm.MethodName) prog_1_method_41_code (4 : Nat) (Option.some Jvm.ClassFile.FieldType.int) ∈ px_W := px_in (i := 727) (by decide +kernel) (by rfl)
theorem pw_728 : Jvm.Cond.methodLink "AllSworn" (239 : Nat) ({ cls := "AllSworn", name := "sharedDivisor", desc := "(II)I" } : Jvm.MethodName) ∈ px_W := px_in (i := 728) (by decide +kernel) (by rfl)
theorem pw_729 : Jvm.Cond.static ({ cls := "AllSworn", name := "sharedDivisor", desc := "(II)I" } : Jvm.MethodName) ∈ px_W := px_in (i := 729) (by decide +kernel) (by rfl)
theorem pw_730 : Jvm.Cond.code ({ cls := "AllSworn", name := "sharedDivisor", desc := "(II)I" } : Jvm.MethodName) prog_1_method_42_code (6 : Nat) (Option.some Jvm.ClassFile.FieldType.int) ∈ px_W := px_in (i := 730) (by decide +kernel) (by rfl)
theorem pw_731 : Jvm.Cond.methodLink "AllSworn" (242 : Nat) ({ cls := "java/lang/Math", name := "max", desc := "(II)I" } : Jvm.MethodName) ∈ px_W := px_in (i := 731) (by decide +kernel) (by rfl)
theorem pw_735 : Jvm.Cond.code ({ cls := "AllSworn", name := "hitBy", desc := "(III)I" } : Jvm.MethodName) prog_1_method_23_code (5 : Nat) (Option.some Jvm.ClassFile.FieldType.int) ∈ px_W := px_in (i := 735) (by decide +kernel) (by rfl)
theorem pw_736 : Jvm.Cond.methodLink "AllSworn" (247 : Nat) ({ cls := "AllSworn$Row", name := "tellsYesOrNo", desc := "(II)Z" } : Jvm.MethodName) ∈ px_W := px_in (i := 736) (by decide +kernel) (by rfl)
theorem pw_737 : Jvm.Cond.instanceMethod ({ cls := "AllSworn$Row", name := "tellsYesOrNo", desc := "(II)Z" } : Jvm.MethodName) ∈ px_W := px_in (i := 737) (by decide +kernel) (by rfl)
theorem pw_738 : Jvm.Cond.selects "AllSworn$Row" ({ cls := "AllSworn$Row", name := "tellsYesOrNo", desc := "(II)Z" } : Jvm.MethodName) ({ cls := "AllSworn$Row", name := "tellsYesOrNo", desc := "(II)Z" } : Jvm.MethodName) ∈ px_W := px_in (i := 738) (by decide +kernel) (by rfl)
theorem pw_739 : Jvm.Cond.code ({ cls := "AllSworn$Row", name := "tellsYesOrNo", desc := "(II)Z" } : Jvm.MethodName) prog_8_method_8_code (4 : Nat) (Option.some Jvm.ClassFile.FieldType.boolean) ∈ px_W := px_in (i := 739) (by decide +kernel) (by rfl)
theorem pw_740 : Jvm.Cond.methodLink "AllSworn" (250 : Nat) ({ cls := "AllSworn$Oracle", name := "suspects", desc := "(LAllSworn$Realm;LAllSworn$Row;II)I" } : Jvm.MethodName) ∈ px_W := px_in (i := 740) (by decide +kernel) (by rfl)
theorem pw_741 : Jvm.Cond.instanceMethod ({ cls := "AllSworn$Oracle", name := "suspects", desc := "(LAllSworn$Realm;LAllSworn$Row;II)I" } : Jvm.MethodName) ∈ px_W := px_in (i := 741) (by decide +kernel) (by rfl)
theorem pw_742 : Jvm.Cond.selects "AllSworn$Oracle" ({ cls := "AllSworn$Oracle", name := "suspects", desc := "(LAllSworn$Realm;LAllSworn$Row;II)I" } : Jvm.MethodName) ({ cls := "AllSworn$Oracle", name := "suspects", desc := "(LAllSworn$Realm;LAllSworn$Row;II)I" } : Jvm.MethodName) ∈ px_W := px_in (i := 742) (by decide +kernel) (by rfl)
theorem pw_743 : Jvm.Cond.code ({ cls := "AllSworn$Oracle", name := "suspects", desc := "(LAllSworn$Realm;LAllSworn$Row;II)I" } : Jvm.MethodName) prog_4_method_12_code (8 : Nat) (Option.some Jvm.ClassFile.FieldType.int) ∈ px_W := px_in (i := 743) (by decide +kernel) (by rfl)
theorem pw_744 : Jvm.Cond.methodLink "AllSworn$Oracle" (117 : Nat) ({ cls := "AllSworn$Row", name := "tellsHit", desc := "(I)Z" } : Jvm.MethodName) ∈ px_W := px_in (i := 744) (by decide +kernel) (by rfl)
theorem pw_745 : Jvm.Cond.instanceMethod ({ cls := "AllSworn$Row", name := "tellsHit", desc := "(I)Z" } : Jvm.MethodName) ∈ px_W := px_in (i := 745) (by decide +kernel) (by rfl)
theorem pw_746 : Jvm.Cond.selects "AllSworn$Row" ({ cls := "AllSworn$Row", name := "tellsHit", desc := "(I)Z" } : Jvm.MethodName) ({ cls := "AllSworn$Row", name := "tellsHit", desc := "(I)Z" } : Jvm.MethodName) ∈ px_W := px_in (i := 746) (by decide +kernel) (by rfl)
theorem pw_747 : Jvm.Cond.code ({ cls := "AllSworn$Row", name := "tellsHit", desc := "(I)Z" } : Jvm.MethodName) prog_8_method_9_code (2 : Nat) (Option.some Jvm.ClassFile.FieldType.boolean) ∈ px_W := px_in (i := 747) (by decide +kernel) (by rfl)
theorem pw_751 : Jvm.Cond.code ({ cls := "AllSworn", name := "terms", desc := "()I" } : Jvm.MethodName) prog_1_method_24_code (1 : Nat) (Option.some Jvm.ClassFile.FieldType.int) ∈ px_W := px_in (i := 751) (by decide +kernel) (by rfl)
theorem pw_752 : Jvm.Cond.methodLink "AllSworn" (254 : Nat) ({ cls := "AllSworn$Oracle", name := "leastTerm", desc := "(LAllSworn$Realm;)I" } : Jvm.MethodName) ∈ px_W := px_in (i := 752) (by decide +kernel) (by rfl)
theorem pw_753 : Jvm.Cond.instanceMethod ({ cls := "AllSworn$Oracle", name := "leastTerm", desc := "(LAllSworn$Realm;)I" } : Jvm.MethodName) ∈ px_W := px_in (i := 753) (by decide +kernel) (by rfl)
theorem pw_754 : Jvm.Cond.selects "AllSworn$Oracle" ({ cls := "AllSworn$Oracle", name := "leastTerm", desc := "(LAllSworn$Realm;)I" } : Jvm.MethodName) ({ cls := "AllSworn$Oracle", name := "leastTerm", desc := "(LAllSworn$Realm;)I" } : Jvm.MethodName) ∈ px_W := px_in (i := 754) (by decide +kernel) (by rfl)
theorem pw_755 : Jvm.Cond.code ({ cls := "AllSworn$Oracle", name := "leastTerm", desc := "(LAllSworn$Realm;)I" } : Jvm.MethodName) prog_4_method_13_code (3 : Nat) (Option.some Jvm.ClassFile.FieldType.int) ∈ px_W := px_in (i := 755) (by decide +kernel) (by rfl)
theorem pw_759 : Jvm.Cond.code ({ cls := "AllSworn", name := "image", desc := "(I)I" } : Jvm.MethodName) prog_1_method_25_code (3 : Nat) (Option.some Jvm.ClassFile.FieldType.int) ∈ px_W := px_in (i := 759) (by decide +kernel) (by rfl)
theorem pw_760 : Jvm.Cond.methodLink "AllSworn" (257 : Nat) ({ cls := "AllSworn", name := "imageAt", desc := "(I)LAllSworn$Realm;" } : Jvm.MethodName) ∈ px_W := px_in (i := 760) (by decide +kernel) (by rfl)
theorem pw_762 : Jvm.Cond.instanceMethod ({ cls := "AllSworn", name := "imageAt", desc := "(I)LAllSworn$Realm;" } : Jvm.MethodName) ∈ px_W := px_in (i := 762) (by decide +kernel) (by rfl)
theorem pw_763 : Jvm.Cond.code ({ cls := "AllSworn", name := "imageAt", desc := "(I)LAllSworn$Realm;" } : Jvm.MethodName) prog_1_method_36_code (2 : Nat) (Option.some (Jvm.ClassFile.FieldType.object "AllSworn$Realm")) ∈ px_W := px_in (i := 763) (by decide +kernel) (by rfl)
theorem pw_767 : Jvm.Cond.code ({ cls := "AllSworn", name := "restore", desc := "(I)I" } : Jvm.MethodName) prog_1_method_26_code (3 : Nat) (Option.some Jvm.ClassFile.FieldType.int) ∈ px_W := px_in (i := 767) (by decide +kernel) (by rfl)
theorem pw_771 : Jvm.Cond.code ({ cls := "AllSworn", name := "kind", desc := "(I)I" } : Jvm.MethodName) prog_1_method_27_code (3 : Nat) (Option.some Jvm.ClassFile.FieldType.int) ∈ px_W := px_in (i := 771) (by decide +kernel) (by rfl)
theorem pw_772 : Jvm.Cond.methodLink "AllSworn" (261 : Nat) ({ cls := "AllSworn$Thing", name := "toldKind", desc := "()I" } : Jvm.MethodName) ∈ px_W := px_in (i := 772) (by decide +kernel) (by rfl)
theorem pw_776 : Jvm.Cond.code ({ cls := "AllSworn", name := "as", desc := "(II)I" } : Jvm.MethodName) prog_1_method_28_code (4 : Nat) (Option.some Jvm.ClassFile.FieldType.int) ∈ px_W := px_in (i := 776) (by decide +kernel) (by rfl)
theorem pw_777 : Jvm.Cond.methodLink "AllSworn" (264 : Nat) ({ cls := "AllSworn$Thing", name := "isOf", desc := "(I)Z" } : Jvm.MethodName) ∈ px_W := px_in (i := 777) (by decide +kernel) (by rfl)
theorem pw_778 : Jvm.Cond.instanceMethod ({ cls := "AllSworn$Thing", name := "isOf", desc := "(I)Z" } : Jvm.MethodName) ∈ px_W := px_in (i := 778) (by decide +kernel) (by rfl)
theorem pw_779 : Jvm.Cond.sameMethod "AllSworn$Thing" "AllSworn$Thing" "isOf" "(I)Z" ∈ px_W := px_in (i := 779) (by decide +kernel) (by rfl)
theorem pw_780 : Jvm.Cond.selects "AllSworn$Foreign" ({ cls := "AllSworn$Thing", name := "isOf", desc := "(I)Z" } : Jvm.MethodName) ({ cls := "AllSworn$Foreign", name := "isOf", desc := "(I)Z" } : Jvm.MethodName) ∈ px_W := px_in (i := 780) (by decide +kernel) (by rfl)
theorem pw_781 : Jvm.Cond.instanceMethod ({ cls := "AllSworn$Foreign", name := "isOf", desc := "(I)Z" } : Jvm.MethodName) ∈ px_W := px_in (i := 781) (by decide +kernel) (by rfl)
theorem pw_782 : Jvm.Cond.code ({ cls := "AllSworn$Foreign", name := "isOf", desc := "(I)Z" } : Jvm.MethodName) prog_2_method_3_code (2 : Nat) (Option.some Jvm.ClassFile.FieldType.boolean) ∈ px_W := px_in (i := 782) (by decide +kernel) (by rfl)
theorem pw_783 : Jvm.Cond.methodLink "AllSworn$Foreign" (9 : Nat) ({ cls := "AllSworn$Thing", name := "isOf", desc := "(I)Z" } : Jvm.MethodName) ∈ px_W := px_in (i := 783) (by decide +kernel) (by rfl)
theorem pw_784 : Jvm.Cond.selects "AllSworn$Mixed" ({ cls := "AllSworn$Thing", name := "isOf", desc := "(I)Z" } : Jvm.MethodName) ({ cls := "AllSworn$Mixed", name := "isOf", desc := "(I)Z" } : Jvm.MethodName) ∈ px_W := px_in (i := 784) (by decide +kernel) (by rfl)
theorem pw_785 : Jvm.Cond.instanceMethod ({ cls := "AllSworn$Mixed", name := "isOf", desc := "(I)Z" } : Jvm.MethodName) ∈ px_W := px_in (i := 785) (by decide +kernel) (by rfl)
theorem pw_786 : Jvm.Cond.code ({ cls := "AllSworn$Mixed", name := "isOf", desc := "(I)Z" } : Jvm.MethodName) prog_3_method_3_code (2 : Nat) (Option.some Jvm.ClassFile.FieldType.boolean) ∈ px_W := px_in (i := 786) (by decide +kernel) (by rfl)
theorem pw_787 : Jvm.Cond.methodLink "AllSworn$Mixed" (9 : Nat) ({ cls := "AllSworn$Plain", name := "isOf", desc := "(I)Z" } : Jvm.MethodName) ∈ px_W := px_in (i := 787) (by decide +kernel) (by rfl)
theorem pw_788 : Jvm.Cond.instanceMethod ({ cls := "AllSworn$Plain", name := "isOf", desc := "(I)Z" } : Jvm.MethodName) ∈ px_W := px_in (i := 788) (by decide +kernel) (by rfl)
theorem pw_789 : Jvm.Cond.code ({ cls := "AllSworn$Plain", name := "isOf", desc := "(I)Z" } : Jvm.MethodName) prog_5_method_3_code (2 : Nat) (Option.some Jvm.ClassFile.FieldType.boolean) ∈ px_W := px_in (i := 789) (by decide +kernel) (by rfl)
theorem pw_790 : Jvm.Cond.methodLink "AllSworn$Plain" (9 : Nat) ({ cls := "AllSworn$Thing", name := "isOf", desc := "(I)Z" } : Jvm.MethodName) ∈ px_W := px_in (i := 790) (by decide +kernel) (by rfl)
theorem pw_791 : Jvm.Cond.selects "AllSworn$Plain" ({ cls := "AllSworn$Thing", name := "isOf", desc := "(I)Z" } : Jvm.MethodName) ({ cls := "AllSworn$Plain", name := "isOf", desc := "(I)Z" } : Jvm.MethodName) ∈ px_W := px_in (i := 791) (by decide +kernel) (by rfl)
theorem pw_792 : Jvm.Cond.selects "AllSworn$Untrue" ({ cls := "AllSworn$Thing", name := "isOf", desc := "(I)Z" } : Jvm.MethodName) ({ cls := "AllSworn$Untrue", name := "isOf", desc := "(I)Z" } : Jvm.MethodName) ∈ px_W := px_in (i := 792) (by decide +kernel) (by rfl)
theorem pw_793 : Jvm.Cond.instanceMethod ({ cls := "AllSworn$Untrue", name := "isOf", desc := "(I)Z" } : Jvm.MethodName) ∈ px_W := px_in (i := 793) (by decide +kernel) (by rfl)
theorem pw_794 : Jvm.Cond.code ({ cls := "AllSworn$Untrue", name := "isOf", desc := "(I)Z" } : Jvm.MethodName) prog_11_method_3_code (2 : Nat) (Option.some Jvm.ClassFile.FieldType.boolean) ∈ px_W := px_in (i := 794) (by decide +kernel) (by rfl)
theorem pw_795 : Jvm.Cond.methodLink "AllSworn$Untrue" (9 : Nat) ({ cls := "AllSworn$Foreign", name := "isOf", desc := "(I)Z" } : Jvm.MethodName) ∈ px_W := px_in (i := 795) (by decide +kernel) (by rfl)
theorem pw_796 : Jvm.Cond.selects "AllSworn$Young" ({ cls := "AllSworn$Thing", name := "isOf", desc := "(I)Z" } : Jvm.MethodName) ({ cls := "AllSworn$Young", name := "isOf", desc := "(I)Z" } : Jvm.MethodName) ∈ px_W := px_in (i := 796) (by decide +kernel) (by rfl)
theorem pw_797 : Jvm.Cond.instanceMethod ({ cls := "AllSworn$Young", name := "isOf", desc := "(I)Z" } : Jvm.MethodName) ∈ px_W := px_in (i := 797) (by decide +kernel) (by rfl)
theorem pw_798 : Jvm.Cond.code ({ cls := "AllSworn$Young", name := "isOf", desc := "(I)Z" } : Jvm.MethodName) prog_12_method_3_code (2 : Nat) (Option.some Jvm.ClassFile.FieldType.boolean) ∈ px_W := px_in (i := 798) (by decide +kernel) (by rfl)
theorem pw_799 : Jvm.Cond.methodLink "AllSworn$Young" (9 : Nat) ({ cls := "AllSworn$Plain", name := "isOf", desc := "(I)Z" } : Jvm.MethodName) ∈ px_W := px_in (i := 799) (by decide +kernel) (by rfl)
theorem pw_800 : Jvm.Cond.code ({ cls := "AllSworn$Thing", name := "isOf", desc := "(I)Z" } : Jvm.MethodName) prog_9_method_3_code (2 : Nat) (Option.some Jvm.ClassFile.FieldType.boolean) ∈ px_W := px_in (i := 800) (by decide +kernel) (by rfl)
theorem pw_804 : Jvm.Cond.code ({ cls := "AllSworn", name := "ask", desc := "(II)I" } : Jvm.MethodName) prog_1_method_29_code (4 : Nat) (Option.some Jvm.ClassFile.FieldType.int) ∈ px_W := px_in (i := 804) (by decide +kernel) (by rfl)
theorem pw_805 : Jvm.Cond.methodLink "AllSworn" (267 : Nat) ({ cls := "AllSworn$Trace", name := "clear", desc := "()V" } : Jvm.MethodName) ∈ px_W := px_in (i := 805) (by decide +kernel) (by rfl)
theorem pw_806 : Jvm.Cond.instanceMethod ({ cls := "AllSworn$Trace", name := "clear", desc := "()V" } : Jvm.MethodName) ∈ px_W := px_in (i := 806) (by decide +kernel) (by rfl)
theorem pw_807 : Jvm.Cond.selects "AllSworn$Trace" ({ cls := "AllSworn$Trace", name := "clear", desc := "()V" } : Jvm.MethodName) ({ cls := "AllSworn$Trace", name := "clear", desc := "()V" } : Jvm.MethodName) ∈ px_W := px_in (i := 807) (by decide +kernel) (by rfl)
theorem pw_808 : Jvm.Cond.code ({ cls := "AllSworn$Trace", name := "clear", desc := "()V" } : Jvm.MethodName) prog_10_method_2_code (1 : Nat) (Option.none : Option Jvm.ClassFile.FieldType) ∈ px_W := px_in (i := 808) (by decide +kernel) (by rfl)
theorem pw_809 : Jvm.Cond.methodLink "AllSworn" (270 : Nat) ({ cls := "AllSworn$Thing", name := "size", desc := "(LAllSworn$Trace;LAllSworn$Realm;)I" } : Jvm.MethodName) ∈ px_W := px_in (i := 809) (by decide +kernel) (by rfl)
theorem pw_810 : Jvm.Cond.instanceMethod ({ cls := "AllSworn$Thing", name := "size", desc := "(LAllSworn$Trace;LAllSworn$Realm;)I" } : Jvm.MethodName) ∈ px_W := px_in (i := 810) (by decide +kernel) (by rfl)
theorem pw_811 : Jvm.Cond.sameMethod "AllSworn$Thing" "AllSworn$Thing" "size" "(LAllSworn$Trace;LAllSworn$Realm;)I" ∈ px_W := px_in (i := 811) (by decide +kernel) (by rfl)
theorem pw_812 : Jvm.Cond.selects "AllSworn$Foreign" ({ cls := "AllSworn$Thing", name := "size", desc := "(LAllSworn$Trace;LAllSworn$Realm;)I" } : Jvm.MethodName) ({ cls := "AllSworn$Foreign", name := "size", desc := "(LAllSworn$Trace;LAllSworn$Realm;)I" } : Jvm.MethodName) ∈ px_W := px_in (i := 812) (by decide +kernel) (by rfl)
theorem pw_813 : Jvm.Cond.instanceMethod ({ cls := "AllSworn$Foreign", name := "size", desc := "(LAllSworn$Trace;LAllSworn$Realm;)I" } : Jvm.MethodName) ∈ px_W := px_in (i := 813) (by decide +kernel) (by rfl)
theorem pw_814 : Jvm.Cond.code ({ cls := "AllSworn$Foreign", name := "size", desc := "(LAllSworn$Trace;LAllSworn$Realm;)I" } : Jvm.MethodName) prog_2_method_5_code (3 : Nat) (Option.some Jvm.ClassFile.FieldType.int) ∈ px_W := px_in (i := 814) (by decide +kernel) (by rfl)
theorem pw_815 : Jvm.Cond.methodLink "AllSworn$Foreign" (25 : Nat) ({ cls := "AllSworn$Trace", name := "leave", desc := "(I)V" } : Jvm.MethodName) ∈ px_W := px_in (i := 815) (by decide +kernel) (by rfl)
theorem pw_816 : Jvm.Cond.instanceMethod ({ cls := "AllSworn$Trace", name := "leave", desc := "(I)V" } : Jvm.MethodName) ∈ px_W := px_in (i := 816) (by decide +kernel) (by rfl)
theorem pw_817 : Jvm.Cond.selects "AllSworn$Trace" ({ cls := "AllSworn$Trace", name := "leave", desc := "(I)V" } : Jvm.MethodName) ({ cls := "AllSworn$Trace", name := "leave", desc := "(I)V" } : Jvm.MethodName) ∈ px_W := px_in (i := 817) (by decide +kernel) (by rfl)
theorem pw_818 : Jvm.Cond.code ({ cls := "AllSworn$Trace", name := "leave", desc := "(I)V" } : Jvm.MethodName) prog_10_method_3_code (2 : Nat) (Option.none : Option Jvm.ClassFile.FieldType) ∈ px_W := px_in (i := 818) (by decide +kernel) (by rfl)
theorem pw_819 : Jvm.Cond.methodLink "AllSworn$Foreign" (31 : Nat) ({ cls := "AllSworn$Thing", name := "size", desc := "(LAllSworn$Trace;LAllSworn$Realm;)I" } : Jvm.MethodName) ∈ px_W := px_in (i := 819) (by decide +kernel) (by rfl)
theorem pw_820 : Jvm.Cond.selects "AllSworn$Mixed" ({ cls := "AllSworn$Thing", name := "size", desc := "(LAllSworn$Trace;LAllSworn$Realm;)I" } : Jvm.MethodName) ({ cls := "AllSworn$Mixed", name := "size", desc := "(LAllSworn$Trace;LAllSworn$Realm;)I" } : Jvm.MethodName) ∈ px_W := px_in (i := 820) (by decide +kernel) (by rfl)
theorem pw_821 : Jvm.Cond.instanceMethod ({ cls := "AllSworn$Mixed", name := "size", desc := "(LAllSworn$Trace;LAllSworn$Realm;)I" } : Jvm.MethodName) ∈ px_W := px_in (i := 821) (by decide +kernel) (by rfl)
theorem pw_822 : Jvm.Cond.code ({ cls := "AllSworn$Mixed", name := "size", desc := "(LAllSworn$Trace;LAllSworn$Realm;)I" } : Jvm.MethodName) prog_3_method_5_code (3 : Nat) (Option.some Jvm.ClassFile.FieldType.int) ∈ px_W := px_in (i := 822) (by decide +kernel) (by rfl)
theorem pw_823 : Jvm.Cond.methodLink "AllSworn$Mixed" (19 : Nat) ({ cls := "AllSworn$Trace", name := "leave", desc := "(I)V" } : Jvm.MethodName) ∈ px_W := px_in (i := 823) (by decide +kernel) (by rfl)
theorem pw_824 : Jvm.Cond.methodLink "AllSworn$Mixed" (25 : Nat) ({ cls := "AllSworn$Plain", name := "size", desc := "(LAllSworn$Trace;LAllSworn$Realm;)I" } : Jvm.MethodName) ∈ px_W := px_in (i := 824) (by decide +kernel) (by rfl)
theorem pw_825 : Jvm.Cond.instanceMethod ({ cls := "AllSworn$Plain", name := "size", desc := "(LAllSworn$Trace;LAllSworn$Realm;)I" } : Jvm.MethodName) ∈ px_W := px_in (i := 825) (by decide +kernel) (by rfl)
theorem pw_826 : Jvm.Cond.code ({ cls := "AllSworn$Plain", name := "size", desc := "(LAllSworn$Trace;LAllSworn$Realm;)I" } : Jvm.MethodName) prog_5_method_4_code (3 : Nat) (Option.some Jvm.ClassFile.FieldType.int) ∈ px_W := px_in (i := 826) (by decide +kernel) (by rfl)
theorem pw_827 : Jvm.Cond.methodLink "AllSworn$Plain" (13 : Nat) ({ cls := "AllSworn$Trace", name := "leave", desc := "(I)V" } : Jvm.MethodName) ∈ px_W := px_in (i := 827) (by decide +kernel) (by rfl)
theorem pw_828 : Jvm.Cond.methodLink "AllSworn$Plain" (19 : Nat) ({ cls := "AllSworn$Thing", name := "size", desc := "(LAllSworn$Trace;LAllSworn$Realm;)I" } : Jvm.MethodName) ∈ px_W := px_in (i := 828) (by decide +kernel) (by rfl)
theorem pw_829 : Jvm.Cond.methodLink "AllSworn$Plain" (23 : Nat) ({ cls := "AllSworn$Plain", name := "mark", desc := "(LAllSworn$Trace;LAllSworn$Realm;)I" } : Jvm.MethodName) ∈ px_W := px_in (i := 829) (by decide +kernel) (by rfl)
theorem pw_830 : Jvm.Cond.instanceMethod ({ cls := "AllSworn$Plain", name := "mark", desc := "(LAllSworn$Trace;LAllSworn$Realm;)I" } : Jvm.MethodName) ∈ px_W := px_in (i := 830) (by decide +kernel) (by rfl)
theorem pw_831 : Jvm.Cond.selects "AllSworn$Plain" ({ cls := "AllSworn$Plain", name := "mark", desc := "(LAllSworn$Trace;LAllSworn$Realm;)I" } : Jvm.MethodName) ({ cls := "AllSworn$Plain", name := "mark", desc := "(LAllSworn$Trace;LAllSworn$Realm;)I" } : Jvm.MethodName) ∈ px_W := px_in (i := 831) (by decide +kernel) (by rfl)
theorem pw_832 : Jvm.Cond.sameMethod "AllSworn$Plain" "AllSworn$Plain" "mark" "(LAllSworn$Trace;LAllSworn$Realm;)I" ∈ px_W := px_in (i := 832) (by decide +kernel) (by rfl)
theorem pw_833 : Jvm.Cond.selects "AllSworn$Mixed" ({ cls := "AllSworn$Plain", name := "mark", desc := "(LAllSworn$Trace;LAllSworn$Realm;)I" } : Jvm.MethodName) ({ cls := "AllSworn$Mixed", name := "mark", desc := "(LAllSworn$Trace;LAllSworn$Realm;)I" } : Jvm.MethodName) ∈ px_W := px_in (i := 833) (by decide +kernel) (by rfl)
theorem pw_834 : Jvm.Cond.instanceMethod ({ cls := "AllSworn$Mixed", name := "mark", desc := "(LAllSworn$Trace;LAllSworn$Realm;)I" } : Jvm.MethodName) ∈ px_W := px_in (i := 834) (by decide +kernel) (by rfl)
theorem pw_835 : Jvm.Cond.code ({ cls := "AllSworn$Mixed", name := "mark", desc := "(LAllSworn$Trace;LAllSworn$Realm;)I" } : Jvm.MethodName) prog_3_method_6_code (3 : Nat) (Option.some Jvm.ClassFile.FieldType.int) ∈ px_W := px_in (i := 835) (by decide +kernel) (by rfl)
theorem pw_836 : Jvm.Cond.methodLink "AllSworn$Mixed" (29 : Nat) ({ cls := "AllSworn$Plain", name := "mark", desc := "(LAllSworn$Trace;LAllSworn$Realm;)I" } : Jvm.MethodName) ∈ px_W := px_in (i := 836) (by decide +kernel) (by rfl)
theorem pw_837 : Jvm.Cond.selects "AllSworn$Young" ({ cls := "AllSworn$Plain", name := "mark", desc := "(LAllSworn$Trace;LAllSworn$Realm;)I" } : Jvm.MethodName) ({ cls := "AllSworn$Young", name := "mark", desc := "(LAllSworn$Trace;LAllSworn$Realm;)I" } : Jvm.MethodName) ∈ px_W := px_in (i := 837) (by decide +kernel) (by rfl)
theorem pw_838 : Jvm.Cond.instanceMethod ({ cls := "AllSworn$Young", name := "mark", desc := "(LAllSworn$Trace;LAllSworn$Realm;)I" } : Jvm.MethodName) ∈ px_W := px_in (i := 838) (by decide +kernel) (by rfl)
theorem pw_839 : Jvm.Cond.code ({ cls := "AllSworn$Young", name := "mark", desc := "(LAllSworn$Trace;LAllSworn$Realm;)I" } : Jvm.MethodName) prog_12_method_5_code (3 : Nat) (Option.some Jvm.ClassFile.FieldType.int) ∈ px_W := px_in (i := 839) (by decide +kernel) (by rfl)
theorem pw_840 : Jvm.Cond.methodLink "AllSworn$Young" (13 : Nat) ({ cls := "AllSworn$Trace", name := "leave", desc := "(I)V" } : Jvm.MethodName) ∈ px_W := px_in (i := 840) (by decide +kernel) (by rfl)
theorem pw_841 : Jvm.Cond.methodLink "AllSworn$Young" (19 : Nat) ({ cls := "AllSworn$Plain", name := "mark", desc := "(LAllSworn$Trace;LAllSworn$Realm;)I" } : Jvm.MethodName) ∈ px_W := px_in (i := 841) (by decide +kernel) (by rfl)
theorem pw_842 : Jvm.Cond.code ({ cls := "AllSworn$Plain", name := "mark", desc := "(LAllSworn$Trace;LAllSworn$Realm;)I" } : Jvm.MethodName) prog_5_method_5_code (3 : Nat) (Option.some Jvm.ClassFile.FieldType.int) ∈ px_W := px_in (i := 842) (by decide +kernel) (by rfl)
theorem pw_843 : Jvm.Cond.methodLink "AllSworn$Plain" (28 : Nat) ({ cls := "AllSworn$Thing", name := "mark", desc := "(LAllSworn$Trace;LAllSworn$Realm;)I" } : Jvm.MethodName) ∈ px_W := px_in (i := 843) (by decide +kernel) (by rfl)
theorem pw_844 : Jvm.Cond.instanceMethod ({ cls := "AllSworn$Thing", name := "mark", desc := "(LAllSworn$Trace;LAllSworn$Realm;)I" } : Jvm.MethodName) ∈ px_W := px_in (i := 844) (by decide +kernel) (by rfl)
theorem pw_845 : Jvm.Cond.code ({ cls := "AllSworn$Thing", name := "mark", desc := "(LAllSworn$Trace;LAllSworn$Realm;)I" } : Jvm.MethodName) prog_9_method_8_code (3 : Nat) (Option.some Jvm.ClassFile.FieldType.int) ∈ px_W := px_in (i := 845) (by decide +kernel) (by rfl)
theorem pw_846 : Jvm.Cond.methodLink "AllSworn$Thing" (27 : Nat) ({ cls := "AllSworn$Trace", name := "leave", desc := "(I)V" } : Jvm.MethodName) ∈ px_W := px_in (i := 846) (by decide +kernel) (by rfl)
theorem pw_847 : Jvm.Cond.methodLink "AllSworn$Plain" (33 : Nat) ({ cls := "AllSworn$Realm", name := "harmsWith", desc := "(I)I" } : Jvm.MethodName) ∈ px_W := px_in (i := 847) (by decide +kernel) (by rfl)
theorem pw_848 : Jvm.Cond.instanceMethod ({ cls := "AllSworn$Realm", name := "harmsWith", desc := "(I)I" } : Jvm.MethodName) ∈ px_W := px_in (i := 848) (by decide +kernel) (by rfl)
theorem pw_849 : Jvm.Cond.selects "AllSworn$Realm" ({ cls := "AllSworn$Realm", name := "harmsWith", desc := "(I)I" } : Jvm.MethodName) ({ cls := "AllSworn$Realm", name := "harmsWith", desc := "(I)I" } : Jvm.MethodName) ∈ px_W := px_in (i := 849) (by decide +kernel) (by rfl)
theorem pw_850 : Jvm.Cond.code ({ cls := "AllSworn$Realm", name := "harmsWith", desc := "(I)I" } : Jvm.MethodName) prog_7_method_25_code (4 : Nat) (Option.some Jvm.ClassFile.FieldType.int) ∈ px_W := px_in (i := 850) (by decide +kernel) (by rfl)
theorem pw_851 : Jvm.Cond.selects "AllSworn$Plain" ({ cls := "AllSworn$Thing", name := "size", desc := "(LAllSworn$Trace;LAllSworn$Realm;)I" } : Jvm.MethodName) ({ cls := "AllSworn$Plain", name := "size", desc := "(LAllSworn$Trace;LAllSworn$Realm;)I" } : Jvm.MethodName) ∈ px_W := px_in (i := 851) (by decide +kernel) (by rfl)
theorem pw_852 : Jvm.Cond.selects "AllSworn$Untrue" ({ cls := "AllSworn$Thing", name := "size", desc := "(LAllSworn$Trace;LAllSworn$Realm;)I" } : Jvm.MethodName) ({ cls := "AllSworn$Untrue", name := "size", desc := "(LAllSworn$Trace;LAllSworn$Realm;)I" } : Jvm.MethodName) ∈ px_W := px_in (i := 852) (by decide +kernel) (by rfl)
theorem pw_853 : Jvm.Cond.instanceMethod ({ cls := "AllSworn$Untrue", name := "size", desc := "(LAllSworn$Trace;LAllSworn$Realm;)I" } : Jvm.MethodName) ∈ px_W := px_in (i := 853) (by decide +kernel) (by rfl)
theorem pw_854 : Jvm.Cond.code ({ cls := "AllSworn$Untrue", name := "size", desc := "(LAllSworn$Trace;LAllSworn$Realm;)I" } : Jvm.MethodName) prog_11_method_5_code (3 : Nat) (Option.some Jvm.ClassFile.FieldType.int) ∈ px_W := px_in (i := 854) (by decide +kernel) (by rfl)
theorem pw_855 : Jvm.Cond.methodLink "AllSworn$Untrue" (13 : Nat) ({ cls := "AllSworn$Trace", name := "leave", desc := "(I)V" } : Jvm.MethodName) ∈ px_W := px_in (i := 855) (by decide +kernel) (by rfl)
theorem pw_856 : Jvm.Cond.methodLink "AllSworn$Untrue" (19 : Nat) ({ cls := "AllSworn$Foreign", name := "size", desc := "(LAllSworn$Trace;LAllSworn$Realm;)I" } : Jvm.MethodName) ∈ px_W := px_in (i := 856) (by decide +kernel) (by rfl)
theorem pw_857 : Jvm.Cond.selects "AllSworn$Young" ({ cls := "AllSworn$Thing", name := "size", desc := "(LAllSworn$Trace;LAllSworn$Realm;)I" } : Jvm.MethodName) ({ cls := "AllSworn$Plain", name := "size", desc := "(LAllSworn$Trace;LAllSworn$Realm;)I" } : Jvm.MethodName) ∈ px_W := px_in (i := 857) (by decide +kernel) (by rfl)
theorem pw_858 : Jvm.Cond.code ({ cls := "AllSworn$Thing", name := "size", desc := "(LAllSworn$Trace;LAllSworn$Realm;)I" } : Jvm.MethodName) prog_9_method_7_code (3 : Nat) (Option.some Jvm.ClassFile.FieldType.int) ∈ px_W := px_in (i := 858) (by decide +kernel) (by rfl)
theorem pw_859 : Jvm.Cond.methodLink "AllSworn" (273 : Nat) ({ cls := "AllSworn$Thing", name := "mark", desc := "(LAllSworn$Trace;LAllSworn$Realm;)I" } : Jvm.MethodName) ∈ px_W := px_in (i := 859) (by decide +kernel) (by rfl)
theorem pw_860 : Jvm.Cond.instanceMethod ({ cls := "AllSworn$Foreign", name := "mark", desc := "(LAllSworn$Trace;LAllSworn$Realm;)I" } : Jvm.MethodName) ∈ px_W := px_in (i := 860) (by decide +kernel) (by rfl)
theorem pw_861 : Jvm.Cond.code ({ cls := "AllSworn$Foreign", name := "mark", desc := "(LAllSworn$Trace;LAllSworn$Realm;)I" } : Jvm.MethodName) prog_2_method_6_code (3 : Nat) (Option.some Jvm.ClassFile.FieldType.int) ∈ px_W := px_in (i := 861) (by decide +kernel) (by rfl)
theorem pw_862 : Jvm.Cond.methodLink "AllSworn$Foreign" (35 : Nat) ({ cls := "AllSworn$Thing", name := "mark", desc := "(LAllSworn$Trace;LAllSworn$Realm;)I" } : Jvm.MethodName) ∈ px_W := px_in (i := 862) (by decide +kernel) (by rfl)
theorem pw_863 : Jvm.Cond.methodLink "AllSworn$Foreign" (38 : Nat) ({ cls := "AllSworn$Foreign", name := "size", desc := "(LAllSworn$Trace;LAllSworn$Realm;)I" } : Jvm.MethodName) ∈ px_W := px_in (i := 863) (by decide +kernel) (by rfl)
theorem pw_867 : Jvm.Cond.code ({ cls := "AllSworn", name := "trace", desc := "(I)I" } : Jvm.MethodName) prog_1_method_30_code (2 : Nat) (Option.some Jvm.ClassFile.FieldType.int) ∈ px_W := px_in (i := 867) (by decide +kernel) (by rfl)
theorem pw_868 : Jvm.Cond.methodLink "AllSworn" (276 : Nat) ({ cls := "AllSworn$Trace", name := "numberAt", desc := "(I)I" } : Jvm.MethodName) ∈ px_W := px_in (i := 868) (by decide +kernel) (by rfl)
theorem pw_869 : Jvm.Cond.instanceMethod ({ cls := "AllSworn$Trace", name := "numberAt", desc := "(I)I" } : Jvm.MethodName) ∈ px_W := px_in (i := 869) (by decide +kernel) (by rfl)
theorem pw_870 : Jvm.Cond.selects "AllSworn$Trace" ({ cls := "AllSworn$Trace", name := "numberAt", desc := "(I)I" } : Jvm.MethodName) ({ cls := "AllSworn$Trace", name := "numberAt", desc := "(I)I" } : Jvm.MethodName) ∈ px_W := px_in (i := 870) (by decide +kernel) (by rfl)
theorem pw_871 : Jvm.Cond.code ({ cls := "AllSworn$Trace", name := "numberAt", desc := "(I)I" } : Jvm.MethodName) prog_10_method_4_code (2 : Nat) (Option.some Jvm.ClassFile.FieldType.int) ∈ px_W := px_in (i := 871) (by decide +kernel) (by rfl)
theorem pw_872 : Jvm.Cond.constant "AllSworn$Trace" (19 : Nat) (-1000000 : Int32) ∈ px_W := px_in (i := 872) (by decide +kernel) (by rfl)
theorem pw_876 : Jvm.Cond.code ({ cls := "AllSworn", name := "count", desc := "(I)I" } : Jvm.MethodName) prog_1_method_31_code (2 : Nat) (Option.some Jvm.ClassFile.FieldType.int) ∈ px_W := px_in (i := 876) (by decide +kernel) (by rfl)
theorem pw_877 : Jvm.Cond.methodLink "AllSworn" (279 : Nat) ({ cls := "AllSworn", name := "rowsThere", desc := "()I" } : Jvm.MethodName) ∈ px_W := px_in (i := 877) (by decide +kernel) (by rfl)
theorem pw_879 : Jvm.Cond.instanceMethod ({ cls := "AllSworn", name := "rowsThere", desc := "()I" } : Jvm.MethodName) ∈ px_W := px_in (i := 879) (by decide +kernel) (by rfl)
theorem pw_880 : Jvm.Cond.code ({ cls := "AllSworn", name := "rowsThere", desc := "()I" } : Jvm.MethodName) prog_1_method_37_code (3 : Nat) (Option.some Jvm.ClassFile.FieldType.int) ∈ px_W := px_in (i := 880) (by decide +kernel) (by rfl)
theorem pw_884 : Jvm.Cond.code ({ cls := "AllSworn", name := "status", desc := "()I" } : Jvm.MethodName) prog_1_method_32_code (1 : Nat) (Option.some Jvm.ClassFile.FieldType.int) ∈ px_W := px_in (i := 884) (by decide +kernel) (by rfl)
theorem pw_886 : Jvm.Cond.instantiable "AllSwornModel" (23 : Nat) ∈ px_W := px_in (i := 886) (by decide +kernel) (by rfl)
theorem pw_889 : Jvm.Cond.code ({ cls := "AllSwornModel", name := "<init>", desc := "()V" } : Jvm.MethodName) prog_14_method_1_code (1 : Nat) (Option.none : Option Jvm.ClassFile.FieldType) ∈ px_W := px_in (i := 889) (by decide +kernel) (by rfl)
theorem pw_890 : Jvm.Cond.methodLink "AllSwornModel" (1 : Nat) ({ cls := "java/lang/Object", name := "<init>", desc := "()V" } : Jvm.MethodName) ∈ px_W := px_in (i := 890) (by decide +kernel) (by rfl)
theorem pw_891 : Jvm.Cond.fieldLink "AllSwornModel" (7 : Nat) "AllSwornModel" "lanes" "[I" ∈ px_W := px_in (i := 891) (by decide +kernel) (by rfl)
theorem pw_892 : Jvm.Cond.fieldLink "AllSwornModel" (13 : Nat) "AllSwornModel" "sizes" "[I" ∈ px_W := px_in (i := 892) (by decide +kernel) (by rfl)
theorem pw_893 : Jvm.Cond.fieldLink "AllSwornModel" (16 : Nat) "AllSwornModel" "items" "[I" ∈ px_W := px_in (i := 893) (by decide +kernel) (by rfl)
theorem pw_894 : Jvm.Cond.fieldLink "AllSwornModel" (46 : Nat) "AllSwornModel" "state" "I" ∈ px_W := px_in (i := 894) (by decide +kernel) (by rfl)
theorem pw_895 : Jvm.Cond.fieldLink "AllSwornModel" (19 : Nat) "AllSwornModel" "now" "[I" ∈ px_W := px_in (i := 895) (by decide +kernel) (by rfl)
theorem pw_896 : Jvm.Cond.fieldLink "AllSwornModel" (66 : Nat) "AllSwornModel" "base" "I" ∈ px_W := px_in (i := 896) (by decide +kernel) (by rfl)
theorem pw_897 : Jvm.Cond.fieldLink "AllSwornModel" (22 : Nat) "AllSwornModel" "isKept" "[Z" ∈ px_W := px_in (i := 897) (by decide +kernel) (by rfl)
theorem pw_898 : Jvm.Cond.fieldLink "AllSwornModel" (26 : Nat) "AllSwornModel" "acts" "[I" ∈ px_W := px_in (i := 898) (by decide +kernel) (by rfl)
theorem pw_899 : Jvm.Cond.fieldLink "AllSwornModel" (133 : Nat) "AllSwornModel" "actMany" "I" ∈ px_W := px_in (i := 899) (by decide +kernel) (by rfl)
theorem pw_900 : Jvm.Cond.fieldLink "AllSwornModel" (29 : Nat) "AllSwornModel" "tape" "[B" ∈ px_W := px_in (i := 900) (by decide +kernel) (by rfl)
theorem pw_901 : Jvm.Cond.fieldLink "AllSwornModel" (42 : Nat) "AllSwornModel" "typed" "I" ∈ px_W := px_in (i := 901) (by decide +kernel) (by rfl)
theorem pw_902 : Jvm.Cond.fieldLink "AllSwornModel" (73 : Nat) "AllSwornModel" "at" "I" ∈ px_W := px_in (i := 902) (by decide +kernel) (by rfl)
theorem pw_903 : Jvm.Cond.fieldLink "AllSwornModel" (76 : Nat) "AllSwornModel" "start" "I" ∈ px_W := px_in (i := 903) (by decide +kernel) (by rfl)
theorem pw_904 : Jvm.Cond.fieldLink "AllSwornModel" (86 : Nat) "AllSwornModel" "sort" "I" ∈ px_W := px_in (i := 904) (by decide +kernel) (by rfl)
theorem pw_905 : Jvm.Cond.fieldLink "AllSwornModel" (79 : Nat) "AllSwornModel" "value" "I" ∈ px_W := px_in (i := 905) (by decide +kernel) (by rfl)
theorem pw_906 : Jvm.Cond.fieldLink "AllSwornModel" (89 : Nat) "AllSwornModel" "fault" "I" ∈ px_W := px_in (i := 906) (by decide +kernel) (by rfl)
theorem pw_907 : Jvm.Cond.fieldLink "AllSwornModel" (92 : Nat) "AllSwornModel" "faultAt" "I" ∈ px_W := px_in (i := 907) (by decide +kernel) (by rfl)
theorem pw_908 : Jvm.Cond.fieldLink "AllSwornModel" (126 : Nat) "AllSwornModel" "lastFault" "I" ∈ px_W := px_in (i := 908) (by decide +kernel) (by rfl)
theorem pw_909 : Jvm.Cond.fieldLink "AllSwornModel" (33 : Nat) "AllSwornModel" "oaths" "[I" ∈ px_W := px_in (i := 909) (by decide +kernel) (by rfl)
theorem pw_910 : Jvm.Cond.fieldLink "AllSwornModel" (36 : Nat) "AllSwornModel" "row4" "[I" ∈ px_W := px_in (i := 910) (by decide +kernel) (by rfl)
theorem pw_911 : Jvm.Cond.fieldLink "AllSwornModel" (188 : Nat) "AllSwornModel" "rowDays" "I" ∈ px_W := px_in (i := 911) (by decide +kernel) (by rfl)
theorem pw_912 : Jvm.Cond.fieldLink "AllSwornModel" (39 : Nat) "AllSwornModel" "traced" "[I" ∈ px_W := px_in (i := 912) (by decide +kernel) (by rfl)
theorem pw_913 : Jvm.Cond.fieldLink "AllSwornModel" (206 : Nat) "AllSwornModel" "tracedMany" "I" ∈ px_W := px_in (i := 913) (by decide +kernel) (by rfl)
theorem pw_914 : Jvm.Cond.laysFinal "AllSwornModel" "AllSwornModel" "lanes" "[I" ∈ px_W := px_in (i := 914) (by decide +kernel) (by rfl)
theorem pw_916 : Jvm.Cond.laysFinal "AllSwornModel" "AllSwornModel" "sizes" "[I" ∈ px_W := px_in (i := 916) (by decide +kernel) (by rfl)
theorem pw_918 : Jvm.Cond.laysFinal "AllSwornModel" "AllSwornModel" "items" "[I" ∈ px_W := px_in (i := 918) (by decide +kernel) (by rfl)
theorem pw_920 : Jvm.Cond.lays "AllSwornModel" "AllSwornModel" "state" "I" ∈ px_W := px_in (i := 920) (by decide +kernel) (by rfl)
theorem pw_922 : Jvm.Cond.laysFinal "AllSwornModel" "AllSwornModel" "now" "[I" ∈ px_W := px_in (i := 922) (by decide +kernel) (by rfl)
theorem pw_924 : Jvm.Cond.lays "AllSwornModel" "AllSwornModel" "base" "I" ∈ px_W := px_in (i := 924) (by decide +kernel) (by rfl)
theorem pw_926 : Jvm.Cond.laysFinal "AllSwornModel" "AllSwornModel" "isKept" "[Z" ∈ px_W := px_in (i := 926) (by decide +kernel) (by rfl)
theorem pw_928 : Jvm.Cond.laysFinal "AllSwornModel" "AllSwornModel" "acts" "[I" ∈ px_W := px_in (i := 928) (by decide +kernel) (by rfl)
theorem pw_930 : Jvm.Cond.lays "AllSwornModel" "AllSwornModel" "actMany" "I" ∈ px_W := px_in (i := 930) (by decide +kernel) (by rfl)
theorem pw_932 : Jvm.Cond.laysFinal "AllSwornModel" "AllSwornModel" "tape" "[B" ∈ px_W := px_in (i := 932) (by decide +kernel) (by rfl)
theorem pw_934 : Jvm.Cond.lays "AllSwornModel" "AllSwornModel" "typed" "I" ∈ px_W := px_in (i := 934) (by decide +kernel) (by rfl)
theorem pw_936 : Jvm.Cond.lays "AllSwornModel" "AllSwornModel" "at" "I" ∈ px_W := px_in (i := 936) (by decide +kernel) (by rfl)
theorem pw_938 : Jvm.Cond.lays "AllSwornModel" "AllSwornModel" "start" "I" ∈ px_W := px_in (i := 938) (by decide +kernel) (by rfl)
theorem pw_940 : Jvm.Cond.lays "AllSwornModel" "AllSwornModel" "sort" "I" ∈ px_W := px_in (i := 940) (by decide +kernel) (by rfl)
theorem pw_942 : Jvm.Cond.lays "AllSwornModel" "AllSwornModel" "value" "I" ∈ px_W := px_in (i := 942) (by decide +kernel) (by rfl)
theorem pw_944 : Jvm.Cond.lays "AllSwornModel" "AllSwornModel" "fault" "I" ∈ px_W := px_in (i := 944) (by decide +kernel) (by rfl)
theorem pw_946 : Jvm.Cond.lays "AllSwornModel" "AllSwornModel" "faultAt" "I" ∈ px_W := px_in (i := 946) (by decide +kernel) (by rfl)
theorem pw_948 : Jvm.Cond.lays "AllSwornModel" "AllSwornModel" "lastFault" "I" ∈ px_W := px_in (i := 948) (by decide +kernel) (by rfl)
theorem pw_950 : Jvm.Cond.laysFinal "AllSwornModel" "AllSwornModel" "oaths" "[I" ∈ px_W := px_in (i := 950) (by decide +kernel) (by rfl)
theorem pw_952 : Jvm.Cond.laysFinal "AllSwornModel" "AllSwornModel" "row4" "[I" ∈ px_W := px_in (i := 952) (by decide +kernel) (by rfl)
theorem pw_954 : Jvm.Cond.lays "AllSwornModel" "AllSwornModel" "rowDays" "I" ∈ px_W := px_in (i := 954) (by decide +kernel) (by rfl)
theorem pw_956 : Jvm.Cond.laysFinal "AllSwornModel" "AllSwornModel" "traced" "[I" ∈ px_W := px_in (i := 956) (by decide +kernel) (by rfl)
theorem pw_958 : Jvm.Cond.lays "AllSwornModel" "AllSwornModel" "tracedMany" "I" ∈ px_W := px_in (i := 958) (by decide +kernel) (by rfl)
theorem pw_961 : Jvm.Cond.arrayClass Jvm.ClassFile.FieldType.boolean ∈ px_W := px_in (i := 961) (by decide +kernel) (by rfl)
theorem pw_962 : Jvm.Cond.arrayClass Jvm.ClassFile.FieldType.byte ∈ px_W := px_in (i := 962) (by decide +kernel) (by rfl)
theorem pw_966 : Jvm.Cond.code ({ cls := "AllSwornModel", name := "row", desc := "(III)I" } : Jvm.MethodName) prog_14_method_7_code (5 : Nat) (Option.some Jvm.ClassFile.FieldType.int) ∈ px_W := px_in (i := 966) (by decide +kernel) (by rfl)
theorem pw_967 : Jvm.Cond.methodLink "AllSwornModel" (54 : Nat) ({ cls := "AllSwornModel", name := "isRow", desc := "(I)Z" } : Jvm.MethodName) ∈ px_W := px_in (i := 967) (by decide +kernel) (by rfl)
theorem pw_968 : Jvm.Cond.static ({ cls := "AllSwornModel", name := "isRow", desc := "(I)Z" } : Jvm.MethodName) ∈ px_W := px_in (i := 968) (by decide +kernel) (by rfl)
theorem pw_969 : Jvm.Cond.code ({ cls := "AllSwornModel", name := "isRow", desc := "(I)Z" } : Jvm.MethodName) prog_14_method_6_code (1 : Nat) (Option.some Jvm.ClassFile.FieldType.boolean) ∈ px_W := px_in (i := 969) (by decide +kernel) (by rfl)
theorem pw_970 : Jvm.Cond.methodLink "AllSwornModel" (50 : Nat) ({ cls := "AllSwornModel", name := "in", desc := "(III)Z" } : Jvm.MethodName) ∈ px_W := px_in (i := 970) (by decide +kernel) (by rfl)
theorem pw_971 : Jvm.Cond.static ({ cls := "AllSwornModel", name := "in", desc := "(III)Z" } : Jvm.MethodName) ∈ px_W := px_in (i := 971) (by decide +kernel) (by rfl)
theorem pw_972 : Jvm.Cond.code ({ cls := "AllSwornModel", name := "in", desc := "(III)Z" } : Jvm.MethodName) prog_14_method_3_code (3 : Nat) (Option.some Jvm.ClassFile.FieldType.boolean) ∈ px_W := px_in (i := 972) (by decide +kernel) (by rfl)
theorem pw_973 : Jvm.Cond.constant "AllSwornModel" (58 : Nat) (-1000001 : Int32) ∈ px_W := px_in (i := 973) (by decide +kernel) (by rfl)
theorem pw_974 : Jvm.Cond.methodLink "AllSwornModel" (59 : Nat) ({ cls := "AllSwornModel", name := "finds", desc := "(I)I" } : Jvm.MethodName) ∈ px_W := px_in (i := 974) (by decide +kernel) (by rfl)
theorem pw_976 : Jvm.Cond.instanceMethod ({ cls := "AllSwornModel", name := "finds", desc := "(I)I" } : Jvm.MethodName) ∈ px_W := px_in (i := 976) (by decide +kernel) (by rfl)
theorem pw_977 : Jvm.Cond.code ({ cls := "AllSwornModel", name := "finds", desc := "(I)I" } : Jvm.MethodName) prog_14_method_4_code (2 : Nat) (Option.some Jvm.ClassFile.FieldType.int) ∈ px_W := px_in (i := 977) (by decide +kernel) (by rfl)
theorem pw_978 : Jvm.Cond.constant "AllSwornModel" (49 : Nat) (-1000010 : Int32) ∈ px_W := px_in (i := 978) (by decide +kernel) (by rfl)
theorem pw_979 : Jvm.Cond.methodLink "AllSwornModel" (63 : Nat) ({ cls := "AllSwornModel", name := "well", desc := "(I)I" } : Jvm.MethodName) ∈ px_W := px_in (i := 979) (by decide +kernel) (by rfl)
theorem pw_981 : Jvm.Cond.instanceMethod ({ cls := "AllSwornModel", name := "well", desc := "(I)I" } : Jvm.MethodName) ∈ px_W := px_in (i := 981) (by decide +kernel) (by rfl)
theorem pw_982 : Jvm.Cond.code ({ cls := "AllSwornModel", name := "well", desc := "(I)I" } : Jvm.MethodName) prog_14_method_5_code (2 : Nat) (Option.some Jvm.ClassFile.FieldType.int) ∈ px_W := px_in (i := 982) (by decide +kernel) (by rfl)
theorem pw_986 : Jvm.Cond.code ({ cls := "AllSwornModel", name := "set", desc := "(III)I" } : Jvm.MethodName) prog_14_method_8_code (5 : Nat) (Option.some Jvm.ClassFile.FieldType.int) ∈ px_W := px_in (i := 986) (by decide +kernel) (by rfl)
theorem pw_990 : Jvm.Cond.code ({ cls := "AllSwornModel", name := "copy", desc := "(IIIII)I" } : Jvm.MethodName) prog_14_method_9_code (9 : Nat) (Option.some Jvm.ClassFile.FieldType.int) ∈ px_W := px_in (i := 990) (by decide +kernel) (by rfl)
theorem pw_994 : Jvm.Cond.code ({ cls := "AllSwornModel", name := "drop", desc := "(I)I" } : Jvm.MethodName) prog_14_method_10_code (2 : Nat) (Option.some Jvm.ClassFile.FieldType.int) ∈ px_W := px_in (i := 994) (by decide +kernel) (by rfl)
theorem pw_998 : Jvm.Cond.code ({ cls := "AllSwornModel", name := "status", desc := "()I" } : Jvm.MethodName) prog_14_method_11_code (1 : Nat) (Option.some Jvm.ClassFile.FieldType.int) ∈ px_W := px_in (i := 998) (by decide +kernel) (by rfl)
theorem pw_1002 : Jvm.Cond.code ({ cls := "AllSwornModel", name := "feed", desc := "(I)I" } : Jvm.MethodName) prog_14_method_18_code (2 : Nat) (Option.some Jvm.ClassFile.FieldType.int) ∈ px_W := px_in (i := 1002) (by decide +kernel) (by rfl)
theorem pw_1003 : Jvm.Cond.constant "AllSwornModel" (72 : Nat) (-1000003 : Int32) ∈ px_W := px_in (i := 1003) (by decide +kernel) (by rfl)
theorem pw_1007 : Jvm.Cond.code ({ cls := "AllSwornModel", name := "realm", desc := "()I" } : Jvm.MethodName) prog_14_method_28_code (2 : Nat) (Option.some Jvm.ClassFile.FieldType.int) ∈ px_W := px_in (i := 1007) (by decide +kernel) (by rfl)
theorem pw_1008 : Jvm.Cond.methodLink "AllSwornModel" (115 : Nat) ({ cls := "AllSwornModel", name := "put", desc := "(II)V" } : Jvm.MethodName) ∈ px_W := px_in (i := 1008) (by decide +kernel) (by rfl)
theorem pw_1010 : Jvm.Cond.instanceMethod ({ cls := "AllSwornModel", name := "put", desc := "(II)V" } : Jvm.MethodName) ∈ px_W := px_in (i := 1010) (by decide +kernel) (by rfl)
theorem pw_1011 : Jvm.Cond.code ({ cls := "AllSwornModel", name := "put", desc := "(II)V" } : Jvm.MethodName) prog_14_method_13_code (3 : Nat) (Option.none : Option Jvm.ClassFile.FieldType) ∈ px_W := px_in (i := 1011) (by decide +kernel) (by rfl)
theorem pw_1012 : Jvm.Cond.methodLink "AllSwornModel" (95 : Nat) ({ cls := "AllSwornModel", name := "next", desc := "()V" } : Jvm.MethodName) ∈ px_W := px_in (i := 1012) (by decide +kernel) (by rfl)
theorem pw_1014 : Jvm.Cond.instanceMethod ({ cls := "AllSwornModel", name := "next", desc := "()V" } : Jvm.MethodName) ∈ px_W := px_in (i := 1014) (by decide +kernel) (by rfl)
theorem pw_1015 : Jvm.Cond.code ({ cls := "AllSwornModel", name := "next", desc := "()V" } : Jvm.MethodName) prog_14_method_20_code (2 : Nat) (Option.none : Option Jvm.ClassFile.FieldType) ∈ px_W := px_in (i := 1015) (by decide +kernel) (by rfl)
theorem pw_1016 : Jvm.Cond.methodLink "AllSwornModel" (82 : Nat) ({ cls := "AllSwornModel", name := "here", desc := "()I" } : Jvm.MethodName) ∈ px_W := px_in (i := 1016) (by decide +kernel) (by rfl)
theorem pw_1018 : Jvm.Cond.instanceMethod ({ cls := "AllSwornModel", name := "here", desc := "()I" } : Jvm.MethodName) ∈ px_W := px_in (i := 1018) (by decide +kernel) (by rfl)
theorem pw_1019 : Jvm.Cond.code ({ cls := "AllSwornModel", name := "here", desc := "()I" } : Jvm.MethodName) prog_14_method_19_code (1 : Nat) (Option.some Jvm.ClassFile.FieldType.int) ∈ px_W := px_in (i := 1019) (by decide +kernel) (by rfl)
theorem pw_1020 : Jvm.Cond.methodLink "AllSwornModel" (106 : Nat) ({ cls := "AllSwornModel", name := "sign", desc := "(I)V" } : Jvm.MethodName) ∈ px_W := px_in (i := 1020) (by decide +kernel) (by rfl)
theorem pw_1022 : Jvm.Cond.instanceMethod ({ cls := "AllSwornModel", name := "sign", desc := "(I)V" } : Jvm.MethodName) ∈ px_W := px_in (i := 1022) (by decide +kernel) (by rfl)
theorem pw_1023 : Jvm.Cond.code ({ cls := "AllSwornModel", name := "sign", desc := "(I)V" } : Jvm.MethodName) prog_14_method_22_code (2 : Nat) (Option.none : Option Jvm.ClassFile.FieldType) ∈ px_W := px_in (i := 1023) (by decide +kernel) (by rfl)
theorem pw_1024 : Jvm.Cond.methodLink "AllSwornModel" (98 : Nat) ({ cls := "AllSwornModel", name := "fails", desc := "(I)V" } : Jvm.MethodName) ∈ px_W := px_in (i := 1024) (by decide +kernel) (by rfl)
theorem pw_1026 : Jvm.Cond.instanceMethod ({ cls := "AllSwornModel", name := "fails", desc := "(I)V" } : Jvm.MethodName) ∈ px_W := px_in (i := 1026) (by decide +kernel) (by rfl)
theorem pw_1027 : Jvm.Cond.code ({ cls := "AllSwornModel", name := "fails", desc := "(I)V" } : Jvm.MethodName) prog_14_method_21_code (2 : Nat) (Option.none : Option Jvm.ClassFile.FieldType) ∈ px_W := px_in (i := 1027) (by decide +kernel) (by rfl)
theorem pw_1028 : Jvm.Cond.methodLink "AllSwornModel" (112 : Nat) ({ cls := "AllSwornModel", name := "number", desc := "(III)I" } : Jvm.MethodName) ∈ px_W := px_in (i := 1028) (by decide +kernel) (by rfl)
theorem pw_1030 : Jvm.Cond.instanceMethod ({ cls := "AllSwornModel", name := "number", desc := "(III)I" } : Jvm.MethodName) ∈ px_W := px_in (i := 1030) (by decide +kernel) (by rfl)
theorem pw_1031 : Jvm.Cond.code ({ cls := "AllSwornModel", name := "number", desc := "(III)I" } : Jvm.MethodName) prog_14_method_24_code (5 : Nat) (Option.some Jvm.ClassFile.FieldType.int) ∈ px_W := px_in (i := 1031) (by decide +kernel) (by rfl)
theorem pw_1032 : Jvm.Cond.methodLink "AllSwornModel" (102 : Nat) ({ cls := "AllSwornModel", name := "numberBut", desc := "(III)I" } : Jvm.MethodName) ∈ px_W := px_in (i := 1032) (by decide +kernel) (by rfl)
theorem pw_1034 : Jvm.Cond.instanceMethod ({ cls := "AllSwornModel", name := "numberBut", desc := "(III)I" } : Jvm.MethodName) ∈ px_W := px_in (i := 1034) (by decide +kernel) (by rfl)
theorem pw_1035 : Jvm.Cond.code ({ cls := "AllSwornModel", name := "numberBut", desc := "(III)I" } : Jvm.MethodName) prog_14_method_23_code (5 : Nat) (Option.some Jvm.ClassFile.FieldType.int) ∈ px_W := px_in (i := 1035) (by decide +kernel) (by rfl)
theorem pw_1036 : Jvm.Cond.methodLink "AllSwornModel" (109 : Nat) ({ cls := "AllSwornModel", name := "kindOf", desc := "(I)I" } : Jvm.MethodName) ∈ px_W := px_in (i := 1036) (by decide +kernel) (by rfl)
theorem pw_1037 : Jvm.Cond.static ({ cls := "AllSwornModel", name := "kindOf", desc := "(I)I" } : Jvm.MethodName) ∈ px_W := px_in (i := 1037) (by decide +kernel) (by rfl)
theorem pw_1038 : Jvm.Cond.code ({ cls := "AllSwornModel", name := "kindOf", desc := "(I)I" } : Jvm.MethodName) prog_14_method_25_code (1 : Nat) (Option.some Jvm.ClassFile.FieldType.int) ∈ px_W := px_in (i := 1038) (by decide +kernel) (by rfl)
theorem pw_1039 : Jvm.Cond.methodLink "AllSwornModel" (120 : Nat) ({ cls := "AllSwornModel", name := "readThing", desc := "()V" } : Jvm.MethodName) ∈ px_W := px_in (i := 1039) (by decide +kernel) (by rfl)
theorem pw_1041 : Jvm.Cond.instanceMethod ({ cls := "AllSwornModel", name := "readThing", desc := "()V" } : Jvm.MethodName) ∈ px_W := px_in (i := 1041) (by decide +kernel) (by rfl)
theorem pw_1042 : Jvm.Cond.code ({ cls := "AllSwornModel", name := "readThing", desc := "()V" } : Jvm.MethodName) prog_14_method_26_code (5 : Nat) (Option.none : Option Jvm.ClassFile.FieldType) ∈ px_W := px_in (i := 1042) (by decide +kernel) (by rfl)
theorem pw_1043 : Jvm.Cond.methodLink "AllSwornModel" (69 : Nat) ({ cls := "AllSwornModel", name := "get", desc := "(I)I" } : Jvm.MethodName) ∈ px_W := px_in (i := 1043) (by decide +kernel) (by rfl)
theorem pw_1045 : Jvm.Cond.instanceMethod ({ cls := "AllSwornModel", name := "get", desc := "(I)I" } : Jvm.MethodName) ∈ px_W := px_in (i := 1045) (by decide +kernel) (by rfl)
theorem pw_1046 : Jvm.Cond.code ({ cls := "AllSwornModel", name := "get", desc := "(I)I" } : Jvm.MethodName) prog_14_method_12_code (2 : Nat) (Option.some Jvm.ClassFile.FieldType.int) ∈ px_W := px_in (i := 1046) (by decide +kernel) (by rfl)
theorem pw_1047 : Jvm.Cond.constant "AllSwornModel" (119 : Nat) (-1000000 : Int32) ∈ px_W := px_in (i := 1047) (by decide +kernel) (by rfl)
theorem pw_1048 : Jvm.Cond.methodLink "AllSwornModel" (123 : Nat) ({ cls := "AllSwornModel", name := "readHarm", desc := "()V" } : Jvm.MethodName) ∈ px_W := px_in (i := 1048) (by decide +kernel) (by rfl)
theorem pw_1050 : Jvm.Cond.instanceMethod ({ cls := "AllSwornModel", name := "readHarm", desc := "()V" } : Jvm.MethodName) ∈ px_W := px_in (i := 1050) (by decide +kernel) (by rfl)
theorem pw_1051 : Jvm.Cond.code ({ cls := "AllSwornModel", name := "readHarm", desc := "()V" } : Jvm.MethodName) prog_14_method_27_code (2 : Nat) (Option.none : Option Jvm.ClassFile.FieldType) ∈ px_W := px_in (i := 1051) (by decide +kernel) (by rfl)
theorem pw_1052 : Jvm.Cond.constant "AllSwornModel" (129 : Nat) (-1000100 : Int32) ∈ px_W := px_in (i := 1052) (by decide +kernel) (by rfl)
theorem pw_1053 : Jvm.Cond.methodLink "AllSwornModel" (130 : Nat) ({ cls := "AllSwornModel", name := "copyRealm", desc := "(II)V" } : Jvm.MethodName) ∈ px_W := px_in (i := 1053) (by decide +kernel) (by rfl)
theorem pw_1055 : Jvm.Cond.instanceMethod ({ cls := "AllSwornModel", name := "copyRealm", desc := "(II)V" } : Jvm.MethodName) ∈ px_W := px_in (i := 1055) (by decide +kernel) (by rfl)
theorem pw_1056 : Jvm.Cond.code ({ cls := "AllSwornModel", name := "copyRealm", desc := "(II)V" } : Jvm.MethodName) prog_14_method_14_code (4 : Nat) (Option.none : Option Jvm.ClassFile.FieldType) ∈ px_W := px_in (i := 1056) (by decide +kernel) (by rfl)
theorem pw_1060 : Jvm.Cond.code ({ cls := "AllSwornModel", name := "fault", desc := "()I" } : Jvm.MethodName) prog_14_method_29_code (1 : Nat) (Option.some Jvm.ClassFile.FieldType.int) ∈ px_W := px_in (i := 1060) (by decide +kernel) (by rfl)
theorem pw_1064 : Jvm.Cond.code ({ cls := "AllSwornModel", name := "askFor", desc := "(I)I" } : Jvm.MethodName) prog_14_method_39_code (3 : Nat) (Option.some Jvm.ClassFile.FieldType.int) ∈ px_W := px_in (i := 1064) (by decide +kernel) (by rfl)
theorem pw_1065 : Jvm.Cond.methodLink "AllSwornModel" (152 : Nat) ({ cls := "AllSwornModel", name := "isThing", desc := "(I)Z" } : Jvm.MethodName) ∈ px_W := px_in (i := 1065) (by decide +kernel) (by rfl)
theorem pw_1067 : Jvm.Cond.instanceMethod ({ cls := "AllSwornModel", name := "isThing", desc := "(I)Z" } : Jvm.MethodName) ∈ px_W := px_in (i := 1067) (by decide +kernel) (by rfl)
theorem pw_1068 : Jvm.Cond.code ({ cls := "AllSwornModel", name := "isThing", desc := "(I)Z" } : Jvm.MethodName) prog_14_method_15_code (2 : Nat) (Option.some Jvm.ClassFile.FieldType.boolean) ∈ px_W := px_in (i := 1068) (by decide +kernel) (by rfl)
theorem pw_1069 : Jvm.Cond.methodLink "AllSwornModel" (155 : Nat) ({ cls := "AllSwornModel", name := "wayOf", desc := "(I)I" } : Jvm.MethodName) ∈ px_W := px_in (i := 1069) (by decide +kernel) (by rfl)
theorem pw_1071 : Jvm.Cond.instanceMethod ({ cls := "AllSwornModel", name := "wayOf", desc := "(I)I" } : Jvm.MethodName) ∈ px_W := px_in (i := 1071) (by decide +kernel) (by rfl)
theorem pw_1072 : Jvm.Cond.code ({ cls := "AllSwornModel", name := "wayOf", desc := "(I)I" } : Jvm.MethodName) prog_14_method_35_code (3 : Nat) (Option.some Jvm.ClassFile.FieldType.int) ∈ px_W := px_in (i := 1072) (by decide +kernel) (by rfl)
theorem pw_1073 : Jvm.Cond.methodLink "AllSwornModel" (136 : Nat) ({ cls := "AllSwornModel", name := "ofThing", desc := "(II)I" } : Jvm.MethodName) ∈ px_W := px_in (i := 1073) (by decide +kernel) (by rfl)
theorem pw_1075 : Jvm.Cond.instanceMethod ({ cls := "AllSwornModel", name := "ofThing", desc := "(II)I" } : Jvm.MethodName) ∈ px_W := px_in (i := 1075) (by decide +kernel) (by rfl)
theorem pw_1076 : Jvm.Cond.code ({ cls := "AllSwornModel", name := "ofThing", desc := "(II)I" } : Jvm.MethodName) prog_14_method_17_code (3 : Nat) (Option.some Jvm.ClassFile.FieldType.int) ∈ px_W := px_in (i := 1076) (by decide +kernel) (by rfl)
theorem pw_1077 : Jvm.Cond.methodLink "AllSwornModel" (158 : Nat) ({ cls := "AllSwornModel", name := "know", desc := "(I)V" } : Jvm.MethodName) ∈ px_W := px_in (i := 1077) (by decide +kernel) (by rfl)
theorem pw_1079 : Jvm.Cond.instanceMethod ({ cls := "AllSwornModel", name := "know", desc := "(I)V" } : Jvm.MethodName) ∈ px_W := px_in (i := 1079) (by decide +kernel) (by rfl)
theorem pw_1080 : Jvm.Cond.code ({ cls := "AllSwornModel", name := "know", desc := "(I)V" } : Jvm.MethodName) prog_14_method_37_code (3 : Nat) (Option.none : Option Jvm.ClassFile.FieldType) ∈ px_W := px_in (i := 1080) (by decide +kernel) (by rfl)
theorem pw_1081 : Jvm.Cond.methodLink "AllSwornModel" (161 : Nat) ({ cls := "AllSwornModel", name := "wouldSwear", desc := "(II)Z" } : Jvm.MethodName) ∈ px_W := px_in (i := 1081) (by decide +kernel) (by rfl)
theorem pw_1083 : Jvm.Cond.instanceMethod ({ cls := "AllSwornModel", name := "wouldSwear", desc := "(II)Z" } : Jvm.MethodName) ∈ px_W := px_in (i := 1083) (by decide +kernel) (by rfl)
theorem pw_1084 : Jvm.Cond.code ({ cls := "AllSwornModel", name := "wouldSwear", desc := "(II)Z" } : Jvm.MethodName) prog_14_method_36_code (3 : Nat) (Option.some Jvm.ClassFile.FieldType.boolean) ∈ px_W := px_in (i := 1084) (by decide +kernel) (by rfl)
theorem pw_1088 : Jvm.Cond.code ({ cls := "AllSwornModel", name := "tries", desc := "(I)I" } : Jvm.MethodName) prog_14_method_40_code (3 : Nat) (Option.some Jvm.ClassFile.FieldType.int) ∈ px_W := px_in (i := 1088) (by decide +kernel) (by rfl)
theorem pw_1089 : Jvm.Cond.methodLink "AllSwornModel" (165 : Nat) ({ cls := "AllSwornModel", name := "isHarm", desc := "(I)Z" } : Jvm.MethodName) ∈ px_W := px_in (i := 1089) (by decide +kernel) (by rfl)
theorem pw_1091 : Jvm.Cond.instanceMethod ({ cls := "AllSwornModel", name := "isHarm", desc := "(I)Z" } : Jvm.MethodName) ∈ px_W := px_in (i := 1091) (by decide +kernel) (by rfl)
theorem pw_1092 : Jvm.Cond.code ({ cls := "AllSwornModel", name := "isHarm", desc := "(I)Z" } : Jvm.MethodName) prog_14_method_16_code (2 : Nat) (Option.some Jvm.ClassFile.FieldType.boolean) ∈ px_W := px_in (i := 1092) (by decide +kernel) (by rfl)
theorem pw_1093 : Jvm.Cond.methodLink "AllSwornModel" (168 : Nat) ({ cls := "AllSwornModel", name := "openAsSworn", desc := "(I)I" } : Jvm.MethodName) ∈ px_W := px_in (i := 1093) (by decide +kernel) (by rfl)
theorem pw_1095 : Jvm.Cond.instanceMethod ({ cls := "AllSwornModel", name := "openAsSworn", desc := "(I)I" } : Jvm.MethodName) ∈ px_W := px_in (i := 1095) (by decide +kernel) (by rfl)
theorem pw_1096 : Jvm.Cond.code ({ cls := "AllSwornModel", name := "openAsSworn", desc := "(I)I" } : Jvm.MethodName) prog_14_method_34_code (2 : Nat) (Option.some Jvm.ClassFile.FieldType.int) ∈ px_W := px_in (i := 1096) (by decide +kernel) (by rfl)
theorem pw_1097 : Jvm.Cond.methodLink "AllSwornModel" (146 : Nat) ({ cls := "AllSwornModel", name := "asSworn", desc := "()V" } : Jvm.MethodName) ∈ px_W := px_in (i := 1097) (by decide +kernel) (by rfl)
theorem pw_1099 : Jvm.Cond.instanceMethod ({ cls := "AllSwornModel", name := "asSworn", desc := "()V" } : Jvm.MethodName) ∈ px_W := px_in (i := 1099) (by decide +kernel) (by rfl)
theorem pw_1100 : Jvm.Cond.code ({ cls := "AllSwornModel", name := "asSworn", desc := "()V" } : Jvm.MethodName) prog_14_method_30_code (2 : Nat) (Option.none : Option Jvm.ClassFile.FieldType) ∈ px_W := px_in (i := 1100) (by decide +kernel) (by rfl)
theorem pw_1101 : Jvm.Cond.methodLink "AllSwornModel" (149 : Nat) ({ cls := "AllSwornModel", name := "openOn", desc := "(I)I" } : Jvm.MethodName) ∈ px_W := px_in (i := 1101) (by decide +kernel) (by rfl)
theorem pw_1103 : Jvm.Cond.instanceMethod ({ cls := "AllSwornModel", name := "openOn", desc := "(I)I" } : Jvm.MethodName) ∈ px_W := px_in (i := 1103) (by decide +kernel) (by rfl)
theorem pw_1104 : Jvm.Cond.code ({ cls := "AllSwornModel", name := "openOn", desc := "(I)I" } : Jvm.MethodName) prog_14_method_33_code (2 : Nat) (Option.some Jvm.ClassFile.FieldType.int) ∈ px_W := px_in (i := 1104) (by decide +kernel) (by rfl)
theorem pw_1105 : Jvm.Cond.methodLink "AllSwornModel" (140 : Nat) ({ cls := "AllSwornModel", name := "boundOn", desc := "(II)I" } : Jvm.MethodName) ∈ px_W := px_in (i := 1105) (by decide +kernel) (by rfl)
theorem pw_1107 : Jvm.Cond.instanceMethod ({ cls := "AllSwornModel", name := "boundOn", desc := "(II)I" } : Jvm.MethodName) ∈ px_W := px_in (i := 1107) (by decide +kernel) (by rfl)
theorem pw_1108 : Jvm.Cond.code ({ cls := "AllSwornModel", name := "boundOn", desc := "(II)I" } : Jvm.MethodName) prog_14_method_31_code (8 : Nat) (Option.some Jvm.ClassFile.FieldType.int) ∈ px_W := px_in (i := 1108) (by decide +kernel) (by rfl)
theorem pw_1109 : Jvm.Cond.methodLink "AllSwornModel" (143 : Nat) ({ cls := "AllSwornModel", name := "openBy", desc := "(I)I" } : Jvm.MethodName) ∈ px_W := px_in (i := 1109) (by decide +kernel) (by rfl)
theorem pw_1111 : Jvm.Cond.instanceMethod ({ cls := "AllSwornModel", name := "openBy", desc := "(I)I" } : Jvm.MethodName) ∈ px_W := px_in (i := 1111) (by decide +kernel) (by rfl)
theorem pw_1112 : Jvm.Cond.code ({ cls := "AllSwornModel", name := "openBy", desc := "(I)I" } : Jvm.MethodName) prog_14_method_32_code (4 : Nat) (Option.some Jvm.ClassFile.FieldType.int) ∈ px_W := px_in (i := 1112) (by decide +kernel) (by rfl)
theorem pw_1116 : Jvm.Cond.code ({ cls := "AllSwornModel", name := "waits", desc := "(I)I" } : Jvm.MethodName) prog_14_method_41_code (2 : Nat) (Option.some Jvm.ClassFile.FieldType.int) ∈ px_W := px_in (i := 1116) (by decide +kernel) (by rfl)
theorem pw_1117 : Jvm.Cond.methodLink "AllSwornModel" (171 : Nat) ({ cls := "AllSwornModel", name := "hasRealm", desc := "()Z" } : Jvm.MethodName) ∈ px_W := px_in (i := 1117) (by decide +kernel) (by rfl)
theorem pw_1119 : Jvm.Cond.instanceMethod ({ cls := "AllSwornModel", name := "hasRealm", desc := "()Z" } : Jvm.MethodName) ∈ px_W := px_in (i := 1119) (by decide +kernel) (by rfl)
theorem pw_1120 : Jvm.Cond.code ({ cls := "AllSwornModel", name := "hasRealm", desc := "()Z" } : Jvm.MethodName) prog_14_method_38_code (1 : Nat) (Option.some Jvm.ClassFile.FieldType.boolean) ∈ px_W := px_in (i := 1120) (by decide +kernel) (by rfl)
theorem pw_1121 : Jvm.Cond.constant "AllSwornModel" (175 : Nat) (-1000002 : Int32) ∈ px_W := px_in (i := 1121) (by decide +kernel) (by rfl)
theorem pw_1125 : Jvm.Cond.code ({ cls := "AllSwornModel", name := "undo", desc := "()I" } : Jvm.MethodName) prog_14_method_42_code (2 : Nat) (Option.some Jvm.ClassFile.FieldType.int) ∈ px_W := px_in (i := 1125) (by decide +kernel) (by rfl)
theorem pw_1129 : Jvm.Cond.code ({ cls := "AllSwornModel", name := "thing", desc := "(II)I" } : Jvm.MethodName) prog_14_method_44_code (3 : Nat) (Option.some Jvm.ClassFile.FieldType.int) ∈ px_W := px_in (i := 1129) (by decide +kernel) (by rfl)
theorem pw_1133 : Jvm.Cond.code ({ cls := "AllSwornModel", name := "harm", desc := "(II)I" } : Jvm.MethodName) prog_14_method_45_code (4 : Nat) (Option.some Jvm.ClassFile.FieldType.int) ∈ px_W := px_in (i := 1133) (by decide +kernel) (by rfl)
theorem pw_1134 : Jvm.Cond.methodLink "AllSwornModel" (176 : Nat) ({ cls := "AllSwornModel", name := "sumOf", desc := "(I)I" } : Jvm.MethodName) ∈ px_W := px_in (i := 1134) (by decide +kernel) (by rfl)
theorem pw_1136 : Jvm.Cond.instanceMethod ({ cls := "AllSwornModel", name := "sumOf", desc := "(I)I" } : Jvm.MethodName) ∈ px_W := px_in (i := 1136) (by decide +kernel) (by rfl)
theorem pw_1137 : Jvm.Cond.code ({ cls := "AllSwornModel", name := "sumOf", desc := "(I)I" } : Jvm.MethodName) prog_14_method_43_code (4 : Nat) (Option.some Jvm.ClassFile.FieldType.int) ∈ px_W := px_in (i := 1137) (by decide +kernel) (by rfl)
theorem pw_1141 : Jvm.Cond.code ({ cls := "AllSwornModel", name := "open", desc := "(I)I" } : Jvm.MethodName) prog_14_method_47_code (2 : Nat) (Option.some Jvm.ClassFile.FieldType.int) ∈ px_W := px_in (i := 1141) (by decide +kernel) (by rfl)
theorem pw_1142 : Jvm.Cond.methodLink "AllSwornModel" (179 : Nat) ({ cls := "AllSwornModel", name := "isDay", desc := "(I)Z" } : Jvm.MethodName) ∈ px_W := px_in (i := 1142) (by decide +kernel) (by rfl)
theorem pw_1144 : Jvm.Cond.instanceMethod ({ cls := "AllSwornModel", name := "isDay", desc := "(I)Z" } : Jvm.MethodName) ∈ px_W := px_in (i := 1144) (by decide +kernel) (by rfl)
theorem pw_1145 : Jvm.Cond.code ({ cls := "AllSwornModel", name := "isDay", desc := "(I)Z" } : Jvm.MethodName) prog_14_method_46_code (2 : Nat) (Option.some Jvm.ClassFile.FieldType.boolean) ∈ px_W := px_in (i := 1145) (by decide +kernel) (by rfl)
theorem pw_1149 : Jvm.Cond.code ({ cls := "AllSwornModel", name := "gap", desc := "()I" } : Jvm.MethodName) prog_14_method_48_code (2 : Nat) (Option.some Jvm.ClassFile.FieldType.int) ∈ px_W := px_in (i := 1149) (by decide +kernel) (by rfl)
theorem pw_1153 : Jvm.Cond.code ({ cls := "AllSwornModel", name := "cover", desc := "(I)I" } : Jvm.MethodName) prog_14_method_51_code (5 : Nat) (Option.some Jvm.ClassFile.FieldType.int) ∈ px_W := px_in (i := 1153) (by decide +kernel) (by rfl)
theorem pw_1154 : Jvm.Cond.methodLink "AllSwornModel" (182 : Nat) ({ cls := "AllSwornModel", name := "manyOf", desc := "(I)I" } : Jvm.MethodName) ∈ px_W := px_in (i := 1154) (by decide +kernel) (by rfl)
theorem pw_1155 : Jvm.Cond.static ({ cls := "AllSwornModel", name := "manyOf", desc := "(I)I" } : Jvm.MethodName) ∈ px_W := px_in (i := 1155) (by decide +kernel) (by rfl)
theorem pw_1156 : Jvm.Cond.code ({ cls := "AllSwornModel", name := "manyOf", desc := "(I)I" } : Jvm.MethodName) prog_14_method_49_code (3 : Nat) (Option.some Jvm.ClassFile.FieldType.int) ∈ px_W := px_in (i := 1156) (by decide +kernel) (by rfl)
theorem pw_1157 : Jvm.Cond.methodLink "AllSwornModel" (185 : Nat) ({ cls := "AllSwornModel", name := "covers", desc := "(I)Z" } : Jvm.MethodName) ∈ px_W := px_in (i := 1157) (by decide +kernel) (by rfl)
theorem pw_1159 : Jvm.Cond.instanceMethod ({ cls := "AllSwornModel", name := "covers", desc := "(I)Z" } : Jvm.MethodName) ∈ px_W := px_in (i := 1159) (by decide +kernel) (by rfl)
theorem pw_1160 : Jvm.Cond.code ({ cls := "AllSwornModel", name := "covers", desc := "(I)Z" } : Jvm.MethodName) prog_14_method_50_code (4 : Nat) (Option.some Jvm.ClassFile.FieldType.boolean) ∈ px_W := px_in (i := 1160) (by decide +kernel) (by rfl)
theorem pw_1164 : Jvm.Cond.code ({ cls := "AllSwornModel", name := "round", desc := "(I)I" } : Jvm.MethodName) prog_14_method_53_code (8 : Nat) (Option.some Jvm.ClassFile.FieldType.int) ∈ px_W := px_in (i := 1164) (by decide +kernel) (by rfl)
theorem pw_1165 : Jvm.Cond.methodLink "AllSwornModel" (191 : Nat) ({ cls := "AllSwornModel", name := "goesRound", desc := "(II)Z" } : Jvm.MethodName) ∈ px_W := px_in (i := 1165) (by decide +kernel) (by rfl)
theorem pw_1167 : Jvm.Cond.instanceMethod ({ cls := "AllSwornModel", name := "goesRound", desc := "(II)Z" } : Jvm.MethodName) ∈ px_W := px_in (i := 1167) (by decide +kernel) (by rfl)
theorem pw_1168 : Jvm.Cond.code ({ cls := "AllSwornModel", name := "goesRound", desc := "(II)Z" } : Jvm.MethodName) prog_14_method_52_code (7 : Nat) (Option.some Jvm.ClassFile.FieldType.boolean) ∈ px_W := px_in (i := 1168) (by decide +kernel) (by rfl)
theorem pw_1172 : Jvm.Cond.code ({ cls := "AllSwornModel", name := "cheapest", desc := "(II)I" } : Jvm.MethodName) prog_14_method_55_code (4 : Nat) (Option.some Jvm.ClassFile.FieldType.int) ∈ px_W := px_in (i := 1172) (by decide +kernel) (by rfl)
theorem pw_1173 : Jvm.Cond.methodLink "AllSwornModel" (194 : Nat) ({ cls := "AllSwornModel", name := "cheapestOf", desc := "(I)I" } : Jvm.MethodName) ∈ px_W := px_in (i := 1173) (by decide +kernel) (by rfl)
theorem pw_1175 : Jvm.Cond.instanceMethod ({ cls := "AllSwornModel", name := "cheapestOf", desc := "(I)I" } : Jvm.MethodName) ∈ px_W := px_in (i := 1175) (by decide +kernel) (by rfl)
theorem pw_1176 : Jvm.Cond.code ({ cls := "AllSwornModel", name := "cheapestOf", desc := "(I)I" } : Jvm.MethodName) prog_14_method_54_code (6 : Nat) (Option.some Jvm.ClassFile.FieldType.int) ∈ px_W := px_in (i := 1176) (by decide +kernel) (by rfl)
theorem pw_1180 : Jvm.Cond.code ({ cls := "AllSwornModel", name := "defended", desc := "(II)I" } : Jvm.MethodName) prog_14_method_57_code (7 : Nat) (Option.some Jvm.ClassFile.FieldType.int) ∈ px_W := px_in (i := 1180) (by decide +kernel) (by rfl)
theorem pw_1181 : Jvm.Cond.methodLink "AllSwornModel" (197 : Nat) ({ cls := "AllSwornModel", name := "dearBy", desc := "(II)I" } : Jvm.MethodName) ∈ px_W := px_in (i := 1181) (by decide +kernel) (by rfl)
theorem pw_1183 : Jvm.Cond.instanceMethod ({ cls := "AllSwornModel", name := "dearBy", desc := "(II)I" } : Jvm.MethodName) ∈ px_W := px_in (i := 1183) (by decide +kernel) (by rfl)
theorem pw_1184 : Jvm.Cond.code ({ cls := "AllSwornModel", name := "dearBy", desc := "(II)I" } : Jvm.MethodName) prog_14_method_56_code (5 : Nat) (Option.some Jvm.ClassFile.FieldType.int) ∈ px_W := px_in (i := 1184) (by decide +kernel) (by rfl)
theorem pw_1188 : Jvm.Cond.code ({ cls := "AllSwornModel", name := "enough", desc := "(I)I" } : Jvm.MethodName) prog_14_method_59_code (5 : Nat) (Option.some Jvm.ClassFile.FieldType.int) ∈ px_W := px_in (i := 1188) (by decide +kernel) (by rfl)
theorem pw_1189 : Jvm.Cond.methodLink "AllSwornModel" (200 : Nat) ({ cls := "AllSwornModel", name := "ofKinds", desc := "(I)I" } : Jvm.MethodName) ∈ px_W := px_in (i := 1189) (by decide +kernel) (by rfl)
theorem pw_1191 : Jvm.Cond.instanceMethod ({ cls := "AllSwornModel", name := "ofKinds", desc := "(I)I" } : Jvm.MethodName) ∈ px_W := px_in (i := 1191) (by decide +kernel) (by rfl)
theorem pw_1192 : Jvm.Cond.code ({ cls := "AllSwornModel", name := "ofKinds", desc := "(I)I" } : Jvm.MethodName) prog_14_method_58_code (4 : Nat) (Option.some Jvm.ClassFile.FieldType.int) ∈ px_W := px_in (i := 1192) (by decide +kernel) (by rfl)
theorem pw_1196 : Jvm.Cond.code ({ cls := "AllSwornModel", name := "odds", desc := "(III)I" } : Jvm.MethodName) prog_14_method_60_code (10 : Nat) (Option.some Jvm.ClassFile.FieldType.int) ∈ px_W := px_in (i := 1196) (by decide +kernel) (by rfl)
theorem pw_1200 : Jvm.Cond.code ({ cls := "AllSwornModel", name := "hitBy", desc := "(III)I" } : Jvm.MethodName) prog_14_method_61_code (7 : Nat) (Option.some Jvm.ClassFile.FieldType.int) ∈ px_W := px_in (i := 1200) (by decide +kernel) (by rfl)
theorem pw_1204 : Jvm.Cond.code ({ cls := "AllSwornModel", name := "terms", desc := "()I" } : Jvm.MethodName) prog_14_method_62_code (2 : Nat) (Option.some Jvm.ClassFile.FieldType.int) ∈ px_W := px_in (i := 1204) (by decide +kernel) (by rfl)
theorem pw_1208 : Jvm.Cond.code ({ cls := "AllSwornModel", name := "image", desc := "(I)I" } : Jvm.MethodName) prog_14_method_63_code (2 : Nat) (Option.some Jvm.ClassFile.FieldType.int) ∈ px_W := px_in (i := 1208) (by decide +kernel) (by rfl)
theorem pw_1212 : Jvm.Cond.code ({ cls := "AllSwornModel", name := "restore", desc := "(I)I" } : Jvm.MethodName) prog_14_method_64_code (2 : Nat) (Option.some Jvm.ClassFile.FieldType.int) ∈ px_W := px_in (i := 1212) (by decide +kernel) (by rfl)
theorem pw_1216 : Jvm.Cond.code ({ cls := "AllSwornModel", name := "kind", desc := "(I)I" } : Jvm.MethodName) prog_14_method_65_code (2 : Nat) (Option.some Jvm.ClassFile.FieldType.int) ∈ px_W := px_in (i := 1216) (by decide +kernel) (by rfl)
theorem pw_1220 : Jvm.Cond.code ({ cls := "AllSwornModel", name := "as", desc := "(II)I" } : Jvm.MethodName) prog_14_method_68_code (3 : Nat) (Option.some Jvm.ClassFile.FieldType.int) ∈ px_W := px_in (i := 1220) (by decide +kernel) (by rfl)
theorem pw_1221 : Jvm.Cond.methodLink "AllSwornModel" (203 : Nat) ({ cls := "AllSwornModel", name := "isOne", desc := "(II)Z" } : Jvm.MethodName) ∈ px_W := px_in (i := 1221) (by decide +kernel) (by rfl)
theorem pw_1222 : Jvm.Cond.static ({ cls := "AllSwornModel", name := "isOne", desc := "(II)Z" } : Jvm.MethodName) ∈ px_W := px_in (i := 1222) (by decide +kernel) (by rfl)
theorem pw_1223 : Jvm.Cond.code ({ cls := "AllSwornModel", name := "isOne", desc := "(II)Z" } : Jvm.MethodName) prog_14_method_67_code (2 : Nat) (Option.some Jvm.ClassFile.FieldType.boolean) ∈ px_W := px_in (i := 1223) (by decide +kernel) (by rfl)
theorem pw_1227 : Jvm.Cond.code ({ cls := "AllSwornModel", name := "ask", desc := "(II)I" } : Jvm.MethodName) prog_14_method_82_code (3 : Nat) (Option.some Jvm.ClassFile.FieldType.int) ∈ px_W := px_in (i := 1227) (by decide +kernel) (by rfl)
theorem pw_1228 : Jvm.Cond.methodLink "AllSwornModel" (248 : Nat) ({ cls := "AllSwornModel", name := "sizeOf", desc := "(I)I" } : Jvm.MethodName) ∈ px_W := px_in (i := 1228) (by decide +kernel) (by rfl)
theorem pw_1230 : Jvm.Cond.instanceMethod ({ cls := "AllSwornModel", name := "sizeOf", desc := "(I)I" } : Jvm.MethodName) ∈ px_W := px_in (i := 1230) (by decide +kernel) (by rfl)
theorem pw_1231 : Jvm.Cond.code ({ cls := "AllSwornModel", name := "sizeOf", desc := "(I)I" } : Jvm.MethodName) prog_14_method_81_code (3 : Nat) (Option.some Jvm.ClassFile.FieldType.int) ∈ px_W := px_in (i := 1231) (by decide +kernel) (by rfl)
theorem pw_1232 : Jvm.Cond.methodLink "AllSwornModel" (245 : Nat) ({ cls := "AllSwornModel", name := "size12", desc := "(I)I" } : Jvm.MethodName) ∈ px_W := px_in (i := 1232) (by decide +kernel) (by rfl)
theorem pw_1234 : Jvm.Cond.instanceMethod ({ cls := "AllSwornModel", name := "size12", desc := "(I)I" } : Jvm.MethodName) ∈ px_W := px_in (i := 1234) (by decide +kernel) (by rfl)
theorem pw_1235 : Jvm.Cond.code ({ cls := "AllSwornModel", name := "size12", desc := "(I)I" } : Jvm.MethodName) prog_14_method_80_code (2 : Nat) (Option.some Jvm.ClassFile.FieldType.int) ∈ px_W := px_in (i := 1235) (by decide +kernel) (by rfl)
theorem pw_1236 : Jvm.Cond.methodLink "AllSwornModel" (209 : Nat) ({ cls := "AllSwornModel", name := "leaves", desc := "(I)V" } : Jvm.MethodName) ∈ px_W := px_in (i := 1236) (by decide +kernel) (by rfl)
theorem pw_1238 : Jvm.Cond.instanceMethod ({ cls := "AllSwornModel", name := "leaves", desc := "(I)V" } : Jvm.MethodName) ∈ px_W := px_in (i := 1238) (by decide +kernel) (by rfl)
theorem pw_1239 : Jvm.Cond.code ({ cls := "AllSwornModel", name := "leaves", desc := "(I)V" } : Jvm.MethodName) prog_14_method_69_code (2 : Nat) (Option.none : Option Jvm.ClassFile.FieldType) ∈ px_W := px_in (i := 1239) (by decide +kernel) (by rfl)
theorem pw_1240 : Jvm.Cond.methodLink "AllSwornModel" (242 : Nat) ({ cls := "AllSwornModel", name := "size11", desc := "(I)I" } : Jvm.MethodName) ∈ px_W := px_in (i := 1240) (by decide +kernel) (by rfl)
theorem pw_1242 : Jvm.Cond.instanceMethod ({ cls := "AllSwornModel", name := "size11", desc := "(I)I" } : Jvm.MethodName) ∈ px_W := px_in (i := 1242) (by decide +kernel) (by rfl)
theorem pw_1243 : Jvm.Cond.code ({ cls := "AllSwornModel", name := "size11", desc := "(I)I" } : Jvm.MethodName) prog_14_method_79_code (3 : Nat) (Option.some Jvm.ClassFile.FieldType.int) ∈ px_W := px_in (i := 1243) (by decide +kernel) (by rfl)
theorem pw_1244 : Jvm.Cond.methodLink "AllSwornModel" (218 : Nat) ({ cls := "AllSwornModel", name := "size10", desc := "(I)I" } : Jvm.MethodName) ∈ px_W := px_in (i := 1244) (by decide +kernel) (by rfl)
theorem pw_1246 : Jvm.Cond.instanceMethod ({ cls := "AllSwornModel", name := "size10", desc := "(I)I" } : Jvm.MethodName) ∈ px_W := px_in (i := 1246) (by decide +kernel) (by rfl)
theorem pw_1247 : Jvm.Cond.code ({ cls := "AllSwornModel", name := "size10", desc := "(I)I" } : Jvm.MethodName) prog_14_method_70_code (2 : Nat) (Option.some Jvm.ClassFile.FieldType.int) ∈ px_W := px_in (i := 1247) (by decide +kernel) (by rfl)
theorem pw_1248 : Jvm.Cond.methodLink "AllSwornModel" (239 : Nat) ({ cls := "AllSwornModel", name := "markOf", desc := "(I)I" } : Jvm.MethodName) ∈ px_W := px_in (i := 1248) (by decide +kernel) (by rfl)
theorem pw_1250 : Jvm.Cond.instanceMethod ({ cls := "AllSwornModel", name := "markOf", desc := "(I)I" } : Jvm.MethodName) ∈ px_W := px_in (i := 1250) (by decide +kernel) (by rfl)
theorem pw_1251 : Jvm.Cond.code ({ cls := "AllSwornModel", name := "markOf", desc := "(I)I" } : Jvm.MethodName) prog_14_method_78_code (3 : Nat) (Option.some Jvm.ClassFile.FieldType.int) ∈ px_W := px_in (i := 1251) (by decide +kernel) (by rfl)
theorem pw_1252 : Jvm.Cond.methodLink "AllSwornModel" (224 : Nat) ({ cls := "AllSwornModel", name := "mark21", desc := "(I)I" } : Jvm.MethodName) ∈ px_W := px_in (i := 1252) (by decide +kernel) (by rfl)
theorem pw_1254 : Jvm.Cond.instanceMethod ({ cls := "AllSwornModel", name := "mark21", desc := "(I)I" } : Jvm.MethodName) ∈ px_W := px_in (i := 1254) (by decide +kernel) (by rfl)
theorem pw_1255 : Jvm.Cond.code ({ cls := "AllSwornModel", name := "mark21", desc := "(I)I" } : Jvm.MethodName) prog_14_method_72_code (2 : Nat) (Option.some Jvm.ClassFile.FieldType.int) ∈ px_W := px_in (i := 1255) (by decide +kernel) (by rfl)
theorem pw_1256 : Jvm.Cond.methodLink "AllSwornModel" (212 : Nat) ({ cls := "AllSwornModel", name := "mark20", desc := "(I)I" } : Jvm.MethodName) ∈ px_W := px_in (i := 1256) (by decide +kernel) (by rfl)
theorem pw_1258 : Jvm.Cond.instanceMethod ({ cls := "AllSwornModel", name := "mark20", desc := "(I)I" } : Jvm.MethodName) ∈ px_W := px_in (i := 1258) (by decide +kernel) (by rfl)
theorem pw_1259 : Jvm.Cond.code ({ cls := "AllSwornModel", name := "mark20", desc := "(I)I" } : Jvm.MethodName) prog_14_method_71_code (2 : Nat) (Option.some Jvm.ClassFile.FieldType.int) ∈ px_W := px_in (i := 1259) (by decide +kernel) (by rfl)
theorem pw_1260 : Jvm.Cond.methodLink "AllSwornModel" (215 : Nat) ({ cls := "AllSwornModel", name := "inHarms", desc := "(I)I" } : Jvm.MethodName) ∈ px_W := px_in (i := 1260) (by decide +kernel) (by rfl)
theorem pw_1262 : Jvm.Cond.instanceMethod ({ cls := "AllSwornModel", name := "inHarms", desc := "(I)I" } : Jvm.MethodName) ∈ px_W := px_in (i := 1262) (by decide +kernel) (by rfl)
theorem pw_1263 : Jvm.Cond.code ({ cls := "AllSwornModel", name := "inHarms", desc := "(I)I" } : Jvm.MethodName) prog_14_method_66_code (4 : Nat) (Option.some Jvm.ClassFile.FieldType.int) ∈ px_W := px_in (i := 1263) (by decide +kernel) (by rfl)
theorem pw_1264 : Jvm.Cond.methodLink "AllSwornModel" (230 : Nat) ({ cls := "AllSwornModel", name := "mark24", desc := "(I)I" } : Jvm.MethodName) ∈ px_W := px_in (i := 1264) (by decide +kernel) (by rfl)
theorem pw_1266 : Jvm.Cond.instanceMethod ({ cls := "AllSwornModel", name := "mark24", desc := "(I)I" } : Jvm.MethodName) ∈ px_W := px_in (i := 1266) (by decide +kernel) (by rfl)
theorem pw_1267 : Jvm.Cond.code ({ cls := "AllSwornModel", name := "mark24", desc := "(I)I" } : Jvm.MethodName) prog_14_method_76_code (2 : Nat) (Option.some Jvm.ClassFile.FieldType.int) ∈ px_W := px_in (i := 1267) (by decide +kernel) (by rfl)
theorem pw_1268 : Jvm.Cond.methodLink "AllSwornModel" (233 : Nat) ({ cls := "AllSwornModel", name := "mark22", desc := "(I)I" } : Jvm.MethodName) ∈ px_W := px_in (i := 1268) (by decide +kernel) (by rfl)
theorem pw_1270 : Jvm.Cond.instanceMethod ({ cls := "AllSwornModel", name := "mark22", desc := "(I)I" } : Jvm.MethodName) ∈ px_W := px_in (i := 1270) (by decide +kernel) (by rfl)
theorem pw_1271 : Jvm.Cond.code ({ cls := "AllSwornModel", name := "mark22", desc := "(I)I" } : Jvm.MethodName) prog_14_method_75_code (2 : Nat) (Option.some Jvm.ClassFile.FieldType.int) ∈ px_W := px_in (i := 1271) (by decide +kernel) (by rfl)
theorem pw_1272 : Jvm.Cond.methodLink "AllSwornModel" (236 : Nat) ({ cls := "AllSwornModel", name := "mark23", desc := "(I)I" } : Jvm.MethodName) ∈ px_W := px_in (i := 1272) (by decide +kernel) (by rfl)
theorem pw_1274 : Jvm.Cond.instanceMethod ({ cls := "AllSwornModel", name := "mark23", desc := "(I)I" } : Jvm.MethodName) ∈ px_W := px_in (i := 1274) (by decide +kernel) (by rfl)
theorem pw_1275 : Jvm.Cond.code ({ cls := "AllSwornModel", name := "mark23", desc := "(I)I" } : Jvm.MethodName) prog_14_method_77_code (3 : Nat) (Option.some Jvm.ClassFile.FieldType.int) ∈ px_W := px_in (i := 1275) (by decide +kernel) (by rfl)
theorem pw_1276 : Jvm.Cond.methodLink "AllSwornModel" (227 : Nat) ({ cls := "AllSwornModel", name := "size14", desc := "(I)I" } : Jvm.MethodName) ∈ px_W := px_in (i := 1276) (by decide +kernel) (by rfl)
theorem pw_1278 : Jvm.Cond.instanceMethod ({ cls := "AllSwornModel", name := "size14", desc := "(I)I" } : Jvm.MethodName) ∈ px_W := px_in (i := 1278) (by decide +kernel) (by rfl)
theorem pw_1279 : Jvm.Cond.code ({ cls := "AllSwornModel", name := "size14", desc := "(I)I" } : Jvm.MethodName) prog_14_method_74_code (2 : Nat) (Option.some Jvm.ClassFile.FieldType.int) ∈ px_W := px_in (i := 1279) (by decide +kernel) (by rfl)
theorem pw_1280 : Jvm.Cond.methodLink "AllSwornModel" (221 : Nat) ({ cls := "AllSwornModel", name := "size13", desc := "(I)I" } : Jvm.MethodName) ∈ px_W := px_in (i := 1280) (by decide +kernel) (by rfl)
theorem pw_1282 : Jvm.Cond.instanceMethod ({ cls := "AllSwornModel", name := "size13", desc := "(I)I" } : Jvm.MethodName) ∈ px_W := px_in (i := 1282) (by decide +kernel) (by rfl)
theorem pw_1283 : Jvm.Cond.code ({ cls := "AllSwornModel", name := "size13", desc := "(I)I" } : Jvm.MethodName) prog_14_method_73_code (2 : Nat) (Option.some Jvm.ClassFile.FieldType.int) ∈ px_W := px_in (i := 1283) (by decide +kernel) (by rfl)
theorem pw_1287 : Jvm.Cond.code ({ cls := "AllSwornModel", name := "trace", desc := "(I)I" } : Jvm.MethodName) prog_14_method_83_code (2 : Nat) (Option.some Jvm.ClassFile.FieldType.int) ∈ px_W := px_in (i := 1287) (by decide +kernel) (by rfl)
theorem pw_1291 : Jvm.Cond.code ({ cls := "AllSwornModel", name := "count", desc := "(I)I" } : Jvm.MethodName) prog_14_method_84_code (4 : Nat) (Option.some Jvm.ClassFile.FieldType.int) ∈ px_W := px_in (i := 1291) (by decide +kernel) (by rfl)
theorem pw_1292 : Jvm.Cond.sameMethod "AllSworn$Plain" "AllSworn$Plain" "isOf" "(I)Z" ∈ px_W := px_in (i := 1292) (by decide +kernel) (by rfl)
theorem pw_1293 : Jvm.Cond.sameMethod "AllSworn$Foreign" "AllSworn$Foreign" "isOf" "(I)Z" ∈ px_W := px_in (i := 1293) (by decide +kernel) (by rfl)
theorem pw_1294 : Jvm.Cond.sameMethod "AllSworn$Plain" "AllSworn$Plain" "size" "(LAllSworn$Trace;LAllSworn$Realm;)I" ∈ px_W := px_in (i := 1294) (by decide +kernel) (by rfl)
theorem pw_1295 : Jvm.Cond.sameMethod "AllSworn$Thing" "AllSworn$Thing" "mark" "(LAllSworn$Trace;LAllSworn$Realm;)I" ∈ px_W := px_in (i := 1295) (by decide +kernel) (by rfl)
theorem pw_1296 : Jvm.Cond.sameMethod "AllSworn$Foreign" "AllSworn$Foreign" "size" "(LAllSworn$Trace;LAllSworn$Realm;)I" ∈ px_W := px_in (i := 1296) (by decide +kernel) (by rfl)
theorem pw_1297 : Jvm.Cond.selects "AllSworn$Foreign" ({ cls := "AllSworn$Thing", name := "mark", desc := "(LAllSworn$Trace;LAllSworn$Realm;)I" } : Jvm.MethodName) ({ cls := "AllSworn$Foreign", name := "mark", desc := "(LAllSworn$Trace;LAllSworn$Realm;)I" } : Jvm.MethodName) ∈ px_W := px_in (i := 1297) (by decide +kernel) (by rfl)
theorem pw_1298 : Jvm.Cond.selects "AllSworn$Foreign" ({ cls := "AllSworn$Foreign", name := "size", desc := "(LAllSworn$Trace;LAllSworn$Realm;)I" } : Jvm.MethodName) ({ cls := "AllSworn$Foreign", name := "size", desc := "(LAllSworn$Trace;LAllSworn$Realm;)I" } : Jvm.MethodName) ∈ px_W := px_in (i := 1298) (by decide +kernel) (by rfl)
theorem pw_1299 : Jvm.Cond.selects "AllSworn$Untrue" ({ cls := "AllSworn$Foreign", name := "size", desc := "(LAllSworn$Trace;LAllSworn$Realm;)I" } : Jvm.MethodName) ({ cls := "AllSworn$Untrue", name := "size", desc := "(LAllSworn$Trace;LAllSworn$Realm;)I" } : Jvm.MethodName) ∈ px_W := px_in (i := 1299) (by decide +kernel) (by rfl)
theorem pw_1300 : Jvm.Cond.selects "AllSworn$Mixed" ({ cls := "AllSworn$Thing", name := "mark", desc := "(LAllSworn$Trace;LAllSworn$Realm;)I" } : Jvm.MethodName) ({ cls := "AllSworn$Mixed", name := "mark", desc := "(LAllSworn$Trace;LAllSworn$Realm;)I" } : Jvm.MethodName) ∈ px_W := px_in (i := 1300) (by decide +kernel) (by rfl)
theorem pw_1301 : Jvm.Cond.selects "AllSworn$Plain" ({ cls := "AllSworn$Thing", name := "mark", desc := "(LAllSworn$Trace;LAllSworn$Realm;)I" } : Jvm.MethodName) ({ cls := "AllSworn$Plain", name := "mark", desc := "(LAllSworn$Trace;LAllSworn$Realm;)I" } : Jvm.MethodName) ∈ px_W := px_in (i := 1301) (by decide +kernel) (by rfl)
theorem pw_1302 : Jvm.Cond.selects "AllSworn$Untrue" ({ cls := "AllSworn$Thing", name := "mark", desc := "(LAllSworn$Trace;LAllSworn$Realm;)I" } : Jvm.MethodName) ({ cls := "AllSworn$Foreign", name := "mark", desc := "(LAllSworn$Trace;LAllSworn$Realm;)I" } : Jvm.MethodName) ∈ px_W := px_in (i := 1302) (by decide +kernel) (by rfl)
theorem pw_1303 : Jvm.Cond.selects "AllSworn$Young" ({ cls := "AllSworn$Thing", name := "mark", desc := "(LAllSworn$Trace;LAllSworn$Realm;)I" } : Jvm.MethodName) ({ cls := "AllSworn$Young", name := "mark", desc := "(LAllSworn$Trace;LAllSworn$Realm;)I" } : Jvm.MethodName) ∈ px_W := px_in (i := 1303) (by decide +kernel) (by rfl)
end
section
/-! the links of the program, and that all of it is as the real machine has it -/
theorem px_lkc {T : List px_M} {P : Nat → px_M → Prop} {ci M : Nat} {m0 : px_M} {l : List (Nat × Nat)} (h0 : T[M]? = some m0) (hP : P ci m0) (hl : ∀ (ci' M' : Nat) (m' : px_M), (ci', M') ∈ l → T[M']? = some m' → P ci' m') : ∀ (ci' M' : Nat) (m' : px_M), (ci', M') ∈ (ci, M) :: l → T[M']? = some m' → P ci' m' := by
  intro ci' M' m' h1 h2
  rcases List.mem_cons.mp h1 with h | h
  · cases h
    cases h0.symm.trans h2
    exact hP
  · exact hl ci' M' m' h h2
theorem px_lkn {T : List px_M} {P : Nat → px_M → Prop} : ∀ (ci' M' : Nat) (m' : px_M), (ci', M') ∈ ([] : List (Nat × Nat)) → T[M']? = some m' → P ci' m' := fun _ _ _ h => absurd h List.not_mem_nil
theorem px_mkS {T : List px_M} {m : px_M} {idx n : Nat} {cis : List (Nat × Nat)} {v : Int32} {s : String} (h : ∀ (ci M : Nat) (m' : px_M), (ci, M) ∈ cis → T[M]? = some m' → px_lkS (px_my m).cls idx n m') : px_lk T m (.invokestatic idx) (30, n, cis, v, s) := by
  unfold px_lk
  dsimp only
  rw [if_neg (by decide), if_neg (by decide)]
  exact h
theorem px_mkC {T : List px_M} {m : px_M} {idx n : Nat} {cis : List (Nat × Nat)} {v : Int32} {s : String} (h : px_lkC (px_my m).cls idx) : px_lk T m (.invokestatic idx) (37, n, cis, v, s) := by
  unfold px_lk
  dsimp only
  rw [if_pos rfl]
  exact h
theorem px_mkM {T : List px_M} {m : px_M} {idx n : Nat} {cis : List (Nat × Nat)} {v : Int32} {s : String} (h : px_lkM (px_my m).cls idx) : px_lk T m (.invokestatic idx) (38, n, cis, v, s) := by
  unfold px_lk
  dsimp only
  rw [if_neg (by decide), if_pos rfl]
  exact h
theorem px_mkO {T : List px_M} {m : px_M} {idx n : Nat} {cis : List (Nat × Nat)} {v : Int32} {s : String} (h : px_lkO (px_my m).cls idx) : px_lk T m (.invokespecial idx) (36, n, cis, v, s) := by
  unfold px_lk
  dsimp only
  rw [if_pos rfl]
  exact h
theorem px_mkI {T : List px_M} {m : px_M} {idx n : Nat} {cis : List (Nat × Nat)} {v : Int32} {s : String} (h : ∀ (ci M : Nat) (m' : px_M), (ci, M) ∈ cis → T[M]? = some m' → px_lkI (px_my m).cls idx n m' ∨ px_lkN (px_my m).cls idx n m') : px_lk T m (.invokespecial idx) (31, n, cis, v, s) := by
  unfold px_lk
  dsimp only
  rw [if_neg (by decide)]
  intro ci M m' h1 h2
  rw [if_neg (by decide)]
  exact h ci M m' h1 h2
theorem px_mkX {T : List px_M} {m : px_M} {idx n : Nat} {cis : List (Nat × Nat)} {v : Int32} {s : String} (h : ∀ (ci M : Nat) (m' : px_M), (ci, M) ∈ cis → T[M]? = some m' → px_lkX (px_my m).cls idx n m') : px_lk T m (.invokespecial idx) (35, n, cis, v, s) := by
  unfold px_lk
  dsimp only
  rw [if_neg (by decide)]
  intro ci M m' h1 h2
  rw [if_pos rfl]
  exact h ci M m' h1 h2
def px_lks (T : List px_M) (m : px_M) : List (Nat × px_I) → Prop
  | [] => True
  | q :: l => px_lk T m q.2.1 q.2.2.2 ∧ px_lks T m l
theorem px_lks.at {T : List px_M} {m : px_M} : ∀ {l : List (Nat × px_I)}, px_lks T m l → ∀ q ∈ l, px_lk T m q.2.1 q.2.2.2 := by
  intro l
  induction l with
  | nil => intro _ q h; cases h
  | cons x l ih =>
    intro h q hq
    rcases List.mem_cons.mp hq with rfl | hq
    · exact h.1
    · exact ih h.2 q hq
def px_okm (m : px_M) : Prop := px_mok m ∧ (∀ q ∈ px_mi m, decode (px_mb m) q.1 = .ok (q.2.1, q.2.2.1) ∧ px_ln q.1 q.2.1 q.2.2.1 = true) ∧ px_lks px_tab m (px_mi m)
theorem pw_newarr_int : ∀ ty, px_nat .int = some ty → Cond.arrayClass ty ∈ px_W := fun ty h => by cases h; exact pw_116
theorem pw_newarr_byte : ∀ ty, px_nat .byte = some ty → Cond.arrayClass ty ∈ px_W := fun ty h => by cases h; exact pw_962
theorem pw_newarr_boolean : ∀ ty, px_nat .boolean = some ty → Cond.arrayClass ty ∈ px_W := fun ty h => by cases h; exact pw_961
theorem pw_objcode : Cond.code Lib.objectInit ⟨#[0xb1]⟩ 1 none ∈ px_W := pw_88
theorem pw_maxcode : Cond.code Lib.Math.max.name Lib.Math.max.code 2 (some .int) ∈ px_W := pw_475
theorem pl_X0_init : px_len1 yX0_init 3 := by unfold px_len1; decide +kernel
theorem pl_X0_toldKind : px_len1 yX0_toldKind 0 := by unfold px_len1; decide +kernel
theorem pl_X0_isOf : px_len1 yX0_isOf 1 := by unfold px_len1; decide +kernel
theorem pl_X0_daysToAsk : px_len1 yX0_daysToAsk 0 := by unfold px_len1; decide +kernel
theorem pl_X0_size : px_len1 yX0_size 2 := by unfold px_len1; decide +kernel
theorem pl_X0_mark : px_len1 yX0_mark 2 := by unfold px_len1; decide +kernel
theorem pl_X1_init : px_len1 yX1_init 3 := by unfold px_len1; decide +kernel
theorem pl_X1_toldKind : px_len1 yX1_toldKind 0 := by unfold px_len1; decide +kernel
theorem pl_X1_isOf : px_len1 yX1_isOf 1 := by unfold px_len1; decide +kernel
theorem pl_X1_isHeldBy : px_len1 yX1_isHeldBy 1 := by unfold px_len1; decide +kernel
theorem pl_X1_size : px_len1 yX1_size 2 := by unfold px_len1; decide +kernel
theorem pl_X1_mark : px_len1 yX1_mark 2 := by unfold px_len1; decide +kernel
theorem pl_X2_init : px_len1 yX2_init 0 := by unfold px_len1; decide +kernel
theorem pl_X2_firstGap : px_len1 yX2_firstGap 1 := by unfold px_len1; decide +kernel
theorem pl_X2_leastCover : px_len1 yX2_leastCover 1 := by unfold px_len1; decide +kernel
theorem pl_X2_willingOn : px_len1 yX2_willingOn 2 := by unfold px_len1; decide +kernel
theorem pl_X2_seekRound : px_len1 yX2_seekRound 1 := by unfold px_len1; decide +kernel
theorem pl_X2_goOn : px_len1 yX2_goOn 3 := by unfold px_len1; decide +kernel
theorem pl_X2_keepWay : px_len1 yX2_keepWay 2 := by unfold px_len1; decide +kernel
theorem pl_X2_bestStop : px_len1 yX2_bestStop 1 := by unfold px_len1; decide +kernel
theorem pl_X2_bestDefence : px_len1 yX2_bestDefence 2 := by unfold px_len1; decide +kernel
theorem pl_X2_priceBehind : px_len1 yX2_priceBehind 3 := by unfold px_len1; decide +kernel
theorem pl_X2_leastKinds : px_len1 yX2_leastKinds 1 := by unfold px_len1; decide +kernel
theorem pl_X2_suspects : px_len1 yX2_suspects 4 := by unfold px_len1; decide +kernel
theorem pl_X2_leastTerm : px_len1 yX2_leastTerm 1 := by unfold px_len1; decide +kernel
theorem pl_X3_init : px_len1 yX3_init 3 := by unfold px_len1; decide +kernel
theorem pl_X3_toldKind : px_len1 yX3_toldKind 0 := by unfold px_len1; decide +kernel
theorem pl_X3_isOf : px_len1 yX3_isOf 1 := by unfold px_len1; decide +kernel
theorem pl_X3_size : px_len1 yX3_size 2 := by unfold px_len1; decide +kernel
theorem pl_X3_mark : px_len1 yX3_mark 2 := by unfold px_len1; decide +kernel
theorem pl_X4_init : px_len1 yX4_init 0 := by unfold px_len1; decide +kernel
theorem pl_X4_take : px_len1 yX4_take 1 := by unfold px_len1; decide +kernel
theorem pl_X4_readTo : px_len1 yX4_readTo 1 := by unfold px_len1; decide +kernel
theorem pl_X4_readThing : px_len1 yX4_readThing 2 := by unfold px_len1; decide +kernel
theorem pl_X4_readHarm : px_len1 yX4_readHarm 1 := by unfold px_len1; decide +kernel
theorem pl_X4_expect : px_len1 yX4_expect 1 := by unfold px_len1; decide +kernel
theorem pl_X4_readNumber : px_len1 yX4_readNumber 2 := by unfold px_len1; decide +kernel
theorem pl_X4_next : px_len1 yX4_next 0 := by unfold px_len1; decide +kernel
theorem pl_X4_note : px_len1 yX4_note 2 := by unfold px_len1; decide +kernel
theorem pl_X4_kindOf : px_len1 yX4_kindOf 1 := by unfold px_len1; decide +kernel
theorem pl_X4_made : px_len1 yX4_made 4 := by unfold px_len1; decide +kernel
theorem pl_X5_init : px_len1 yX5_init 0 := by unfold px_len1; decide +kernel
theorem pl_X5_isTold : px_len1 yX5_isTold 0 := by unfold px_len1; decide +kernel
theorem pl_X5_beginAnew : px_len1 yX5_beginAnew 1 := by unfold px_len1; decide +kernel
theorem pl_X5_addThing : px_len1 yX5_addThing 1 := by unfold px_len1; decide +kernel
theorem pl_X5_addHarm : px_len1 yX5_addHarm 1 := by unfold px_len1; decide +kernel
theorem pl_X5_becomeLike : px_len1 yX5_becomeLike 1 := by unfold px_len1; decide +kernel
theorem pl_X5_thingAt : px_len1 yX5_thingAt 1 := by unfold px_len1; decide +kernel
theorem pl_X5_oathOf : px_len1 yX5_oathOf 1 := by unfold px_len1; decide +kernel
theorem pl_X5_hasHarm : px_len1 yX5_hasHarm 1 := by unfold px_len1; decide +kernel
theorem pl_X5_harmAt : px_len1 yX5_harmAt 1 := by unfold px_len1; decide +kernel
theorem pl_X5_sendTo : px_len1 yX5_sendTo 1 := by unfold px_len1; decide +kernel
theorem pl_X5_tryHarm : px_len1 yX5_tryHarm 1 := by unfold px_len1; decide +kernel
theorem pl_X5_letPass : px_len1 yX5_letPass 1 := by unfold px_len1; decide +kernel
theorem pl_X5_undoLatest : px_len1 yX5_undoLatest 0 := by unfold px_len1; decide +kernel
theorem pl_X5_keepAct : px_len1 yX5_keepAct 1 := by unfold px_len1; decide +kernel
theorem pl_X5_swear : px_len1 yX5_swear 2 := by unfold px_len1; decide +kernel
theorem pl_X5_boundOn : px_len1 yX5_boundOn 1 := by unfold px_len1; decide +kernel
theorem pl_X5_boundIf : px_len1 yX5_boundIf 3 := by unfold px_len1; decide +kernel
theorem pl_X5_openOn : px_len1 yX5_openOn 1 := by unfold px_len1; decide +kernel
theorem pl_X5_openTo : px_len1 yX5_openTo 1 := by unfold px_len1; decide +kernel
theorem pl_X5_priceOf : px_len1 yX5_priceOf 1 := by unfold px_len1; decide +kernel
theorem pl_X5_cheapestOn : px_len1 yX5_cheapestOn 1 := by unfold px_len1; decide +kernel
theorem pl_X5_cheapestPriceOn : px_len1 yX5_cheapestPriceOn 1 := by unfold px_len1; decide +kernel
theorem pl_X5_toldAs : px_len1 yX5_toldAs 1 := by unfold px_len1; decide +kernel
theorem pl_X5_harmsWith : px_len1 yX5_harmsWith 1 := by unfold px_len1; decide +kernel
theorem pl_X6_init : px_len1 yX6_init 0 := by unfold px_len1; decide +kernel
theorem pl_X6_isMissing : px_len1 yX6_isMissing 0 := by unfold px_len1; decide +kernel
theorem pl_X6_vanish : px_len1 yX6_vanish 0 := by unfold px_len1; decide +kernel
theorem pl_X6_lay : px_len1 yX6_lay 2 := by unfold px_len1; decide +kernel
theorem pl_X6_spans : px_len1 yX6_spans 2 := by unfold px_len1; decide +kernel
theorem pl_X6_put : px_len1 yX6_put 2 := by unfold px_len1; decide +kernel
theorem pl_X6_takeFrom : px_len1 yX6_takeFrom 4 := by unfold px_len1; decide +kernel
theorem pl_X6_tellsYesOrNo : px_len1 yX6_tellsYesOrNo 2 := by unfold px_len1; decide +kernel
theorem pl_X6_tellsHit : px_len1 yX6_tellsHit 1 := by unfold px_len1; decide +kernel
theorem pl_X6_narrowed : px_len1 yX6_narrowed 1 := by unfold px_len1; decide +kernel
theorem pl_X7_init : px_len1 yX7_init 3 := by unfold px_len1; decide +kernel
theorem pl_X7_isOf : px_len1 yX7_isOf 1 := by unfold px_len1; decide +kernel
theorem pl_X7_daysToAsk : px_len1 yX7_daysToAsk 0 := by unfold px_len1; decide +kernel
theorem pl_X7_swearsOn : px_len1 yX7_swearsOn 1 := by unfold px_len1; decide +kernel
theorem pl_X7_isHeldBy : px_len1 yX7_isHeldBy 1 := by unfold px_len1; decide +kernel
theorem pl_X7_size : px_len1 yX7_size 2 := by unfold px_len1; decide +kernel
theorem pl_X7_mark : px_len1 yX7_mark 2 := by unfold px_len1; decide +kernel
theorem pl_X8_init : px_len1 yX8_init 0 := by unfold px_len1; decide +kernel
theorem pl_X8_clear : px_len1 yX8_clear 0 := by unfold px_len1; decide +kernel
theorem pl_X8_leave : px_len1 yX8_leave 1 := by unfold px_len1; decide +kernel
theorem pl_X8_numberAt : px_len1 yX8_numberAt 1 := by unfold px_len1; decide +kernel
theorem pl_X9_init : px_len1 yX9_init 3 := by unfold px_len1; decide +kernel
theorem pl_X9_toldKind : px_len1 yX9_toldKind 0 := by unfold px_len1; decide +kernel
theorem pl_X9_isOf : px_len1 yX9_isOf 1 := by unfold px_len1; decide +kernel
theorem pl_X9_isHeldBy : px_len1 yX9_isHeldBy 1 := by unfold px_len1; decide +kernel
theorem pl_X9_size : px_len1 yX9_size 2 := by unfold px_len1; decide +kernel
theorem pl_X10_init : px_len1 yX10_init 3 := by unfold px_len1; decide +kernel
theorem pl_X10_toldKind : px_len1 yX10_toldKind 0 := by unfold px_len1; decide +kernel
theorem pl_X10_isOf : px_len1 yX10_isOf 1 := by unfold px_len1; decide +kernel
theorem pl_X10_swearsOn : px_len1 yX10_swearsOn 1 := by unfold px_len1; decide +kernel
theorem pl_X10_mark : px_len1 yX10_mark 2 := by unfold px_len1; decide +kernel
theorem pl_X11_init : px_len1 yX11_init 0 := by unfold px_len1; decide +kernel
theorem pl_X11_row : px_len1 yX11_row 3 := by unfold px_len1; decide +kernel
theorem pl_X11_set : px_len1 yX11_set 3 := by unfold px_len1; decide +kernel
theorem pl_X11_copy : px_len1 yX11_copy 5 := by unfold px_len1; decide +kernel
theorem pl_X11_drop : px_len1 yX11_drop 1 := by unfold px_len1; decide +kernel
theorem pl_X11_feed : px_len1 yX11_feed 1 := by unfold px_len1; decide +kernel
theorem pl_X11_realm : px_len1 yX11_realm 0 := by unfold px_len1; decide +kernel
theorem pl_X11_fault : px_len1 yX11_fault 0 := by unfold px_len1; decide +kernel
theorem pl_X11_askFor : px_len1 yX11_askFor 1 := by unfold px_len1; decide +kernel
theorem pl_X11_tries : px_len1 yX11_tries 1 := by unfold px_len1; decide +kernel
theorem pl_X11_waits : px_len1 yX11_waits 1 := by unfold px_len1; decide +kernel
theorem pl_X11_undo : px_len1 yX11_undo 0 := by unfold px_len1; decide +kernel
theorem pl_X11_thing : px_len1 yX11_thing 2 := by unfold px_len1; decide +kernel
theorem pl_X11_harm : px_len1 yX11_harm 2 := by unfold px_len1; decide +kernel
theorem pl_X11_open : px_len1 yX11_open 1 := by unfold px_len1; decide +kernel
theorem pl_X11_gap : px_len1 yX11_gap 0 := by unfold px_len1; decide +kernel
theorem pl_X11_cover : px_len1 yX11_cover 1 := by unfold px_len1; decide +kernel
theorem pl_X11_round : px_len1 yX11_round 1 := by unfold px_len1; decide +kernel
theorem pl_X11_cheapest : px_len1 yX11_cheapest 2 := by unfold px_len1; decide +kernel
theorem pl_X11_defended : px_len1 yX11_defended 2 := by unfold px_len1; decide +kernel
theorem pl_X11_enough : px_len1 yX11_enough 1 := by unfold px_len1; decide +kernel
theorem pl_X11_odds : px_len1 yX11_odds 3 := by unfold px_len1; decide +kernel
theorem pl_X11_hitBy : px_len1 yX11_hitBy 3 := by unfold px_len1; decide +kernel
theorem pl_X11_terms : px_len1 yX11_terms 0 := by unfold px_len1; decide +kernel
theorem pl_X11_image : px_len1 yX11_image 1 := by unfold px_len1; decide +kernel
theorem pl_X11_restore : px_len1 yX11_restore 1 := by unfold px_len1; decide +kernel
theorem pl_X11_kind : px_len1 yX11_kind 1 := by unfold px_len1; decide +kernel
theorem pl_X11_as : px_len1 yX11_as 2 := by unfold px_len1; decide +kernel
theorem pl_X11_ask : px_len1 yX11_ask 2 := by unfold px_len1; decide +kernel
theorem pl_X11_trace : px_len1 yX11_trace 1 := by unfold px_len1; decide +kernel
theorem pl_X11_count : px_len1 yX11_count 1 := by unfold px_len1; decide +kernel
theorem pl_X11_status : px_len1 yX11_status 0 := by unfold px_len1; decide +kernel
theorem pl_X11_found : px_len1 yX11_found 1 := by unfold px_len1; decide +kernel
theorem pl_X11_clean : px_len1 yX11_clean 1 := by unfold px_len1; decide +kernel
theorem pl_X11_rowAt : px_len1 yX11_rowAt 1 := by unfold px_len1; decide +kernel
theorem pl_X11_imageAt : px_len1 yX11_imageAt 1 := by unfold px_len1; decide +kernel
theorem pl_X11_rowsThere : px_len1 yX11_rowsThere 0 := by unfold px_len1; decide +kernel
theorem pl_X11_isAhead : px_len1 yX11_isAhead 1 := by unfold px_len1; decide +kernel
theorem pl_X11_isPair : px_len1 yX11_isPair 1 := by unfold px_len1; decide +kernel
theorem pl_X11_sizeOrSet : px_len1 yX11_sizeOrSet 2 := by unfold px_len1; decide +kernel
theorem pl_X11_power : px_len1 yX11_power 2 := by unfold px_len1; decide +kernel
theorem pl_X11_sharedDivisor : px_len1 yX11_sharedDivisor 2 := by unfold px_len1; decide +kernel
theorem pl_X12_init : px_len1 yX12_init 0 := by unfold px_len1; decide +kernel
theorem pl_X12_in : px_len1 yX12_in 3 := by unfold px_len1; decide +kernel
theorem pl_X12_finds : px_len1 yX12_finds 1 := by unfold px_len1; decide +kernel
theorem pl_X12_well : px_len1 yX12_well 1 := by unfold px_len1; decide +kernel
theorem pl_X12_isRow : px_len1 yX12_isRow 1 := by unfold px_len1; decide +kernel
theorem pl_X12_row : px_len1 yX12_row 3 := by unfold px_len1; decide +kernel
theorem pl_X12_set : px_len1 yX12_set 3 := by unfold px_len1; decide +kernel
theorem pl_X12_copy : px_len1 yX12_copy 5 := by unfold px_len1; decide +kernel
theorem pl_X12_drop : px_len1 yX12_drop 1 := by unfold px_len1; decide +kernel
theorem pl_X12_status : px_len1 yX12_status 0 := by unfold px_len1; decide +kernel
theorem pl_X12_get : px_len1 yX12_get 1 := by unfold px_len1; decide +kernel
theorem pl_X12_put : px_len1 yX12_put 2 := by unfold px_len1; decide +kernel
theorem pl_X12_copyRealm : px_len1 yX12_copyRealm 2 := by unfold px_len1; decide +kernel
theorem pl_X12_isThing : px_len1 yX12_isThing 1 := by unfold px_len1; decide +kernel
theorem pl_X12_isHarm : px_len1 yX12_isHarm 1 := by unfold px_len1; decide +kernel
theorem pl_X12_ofThing : px_len1 yX12_ofThing 2 := by unfold px_len1; decide +kernel
theorem pl_X12_feed : px_len1 yX12_feed 1 := by unfold px_len1; decide +kernel
theorem pl_X12_here : px_len1 yX12_here 0 := by unfold px_len1; decide +kernel
theorem pl_X12_next : px_len1 yX12_next 0 := by unfold px_len1; decide +kernel
theorem pl_X12_fails : px_len1 yX12_fails 1 := by unfold px_len1; decide +kernel
theorem pl_X12_sign : px_len1 yX12_sign 1 := by unfold px_len1; decide +kernel
theorem pl_X12_numberBut : px_len1 yX12_numberBut 3 := by unfold px_len1; decide +kernel
theorem pl_X12_number : px_len1 yX12_number 3 := by unfold px_len1; decide +kernel
theorem pl_X12_kindOf : px_len1 yX12_kindOf 1 := by unfold px_len1; decide +kernel
theorem pl_X12_readThing : px_len1 yX12_readThing 0 := by unfold px_len1; decide +kernel
theorem pl_X12_readHarm : px_len1 yX12_readHarm 0 := by unfold px_len1; decide +kernel
theorem pl_X12_realm : px_len1 yX12_realm 0 := by unfold px_len1; decide +kernel
theorem pl_X12_fault : px_len1 yX12_fault 0 := by unfold px_len1; decide +kernel
theorem pl_X12_asSworn : px_len1 yX12_asSworn 0 := by unfold px_len1; decide +kernel
theorem pl_X12_boundOn : px_len1 yX12_boundOn 2 := by unfold px_len1; decide +kernel
theorem pl_X12_openBy : px_len1 yX12_openBy 1 := by unfold px_len1; decide +kernel
theorem pl_X12_openOn : px_len1 yX12_openOn 1 := by unfold px_len1; decide +kernel
theorem pl_X12_openAsSworn : px_len1 yX12_openAsSworn 1 := by unfold px_len1; decide +kernel
theorem pl_X12_wayOf : px_len1 yX12_wayOf 1 := by unfold px_len1; decide +kernel
theorem pl_X12_wouldSwear : px_len1 yX12_wouldSwear 2 := by unfold px_len1; decide +kernel
theorem pl_X12_know : px_len1 yX12_know 1 := by unfold px_len1; decide +kernel
theorem pl_X12_hasRealm : px_len1 yX12_hasRealm 0 := by unfold px_len1; decide +kernel
theorem pl_X12_askFor : px_len1 yX12_askFor 1 := by unfold px_len1; decide +kernel
theorem pl_X12_tries : px_len1 yX12_tries 1 := by unfold px_len1; decide +kernel
theorem pl_X12_waits : px_len1 yX12_waits 1 := by unfold px_len1; decide +kernel
theorem pl_X12_undo : px_len1 yX12_undo 0 := by unfold px_len1; decide +kernel
theorem pl_X12_sumOf : px_len1 yX12_sumOf 1 := by unfold px_len1; decide +kernel
theorem pl_X12_thing : px_len1 yX12_thing 2 := by unfold px_len1; decide +kernel
theorem pl_X12_harm : px_len1 yX12_harm 2 := by unfold px_len1; decide +kernel
theorem pl_X12_isDay : px_len1 yX12_isDay 1 := by unfold px_len1; decide +kernel
theorem pl_X12_open : px_len1 yX12_open 1 := by unfold px_len1; decide +kernel
theorem pl_X12_gap : px_len1 yX12_gap 0 := by unfold px_len1; decide +kernel
theorem pl_X12_manyOf : px_len1 yX12_manyOf 1 := by unfold px_len1; decide +kernel
theorem pl_X12_covers : px_len1 yX12_covers 1 := by unfold px_len1; decide +kernel
theorem pl_X12_cover : px_len1 yX12_cover 1 := by unfold px_len1; decide +kernel
theorem pl_X12_goesRound : px_len1 yX12_goesRound 2 := by unfold px_len1; decide +kernel
theorem pl_X12_round : px_len1 yX12_round 1 := by unfold px_len1; decide +kernel
theorem pl_X12_cheapestOf : px_len1 yX12_cheapestOf 1 := by unfold px_len1; decide +kernel
theorem pl_X12_cheapest : px_len1 yX12_cheapest 2 := by unfold px_len1; decide +kernel
theorem pl_X12_dearBy : px_len1 yX12_dearBy 2 := by unfold px_len1; decide +kernel
theorem pl_X12_defended : px_len1 yX12_defended 2 := by unfold px_len1; decide +kernel
theorem pl_X12_ofKinds : px_len1 yX12_ofKinds 1 := by unfold px_len1; decide +kernel
theorem pl_X12_enough : px_len1 yX12_enough 1 := by unfold px_len1; decide +kernel
theorem pl_X12_odds : px_len1 yX12_odds 3 := by unfold px_len1; decide +kernel
theorem pl_X12_hitBy : px_len1 yX12_hitBy 3 := by unfold px_len1; decide +kernel
theorem pl_X12_terms : px_len1 yX12_terms 0 := by unfold px_len1; decide +kernel
theorem pl_X12_image : px_len1 yX12_image 1 := by unfold px_len1; decide +kernel
theorem pl_X12_restore : px_len1 yX12_restore 1 := by unfold px_len1; decide +kernel
theorem pl_X12_kind : px_len1 yX12_kind 1 := by unfold px_len1; decide +kernel
theorem pl_X12_inHarms : px_len1 yX12_inHarms 1 := by unfold px_len1; decide +kernel
theorem pl_X12_isOne : px_len1 yX12_isOne 2 := by unfold px_len1; decide +kernel
theorem pl_X12_as : px_len1 yX12_as 2 := by unfold px_len1; decide +kernel
theorem pl_X12_leaves : px_len1 yX12_leaves 1 := by unfold px_len1; decide +kernel
theorem pl_X12_size10 : px_len1 yX12_size10 1 := by unfold px_len1; decide +kernel
theorem pl_X12_mark20 : px_len1 yX12_mark20 1 := by unfold px_len1; decide +kernel
theorem pl_X12_mark21 : px_len1 yX12_mark21 1 := by unfold px_len1; decide +kernel
theorem pl_X12_size13 : px_len1 yX12_size13 1 := by unfold px_len1; decide +kernel
theorem pl_X12_size14 : px_len1 yX12_size14 1 := by unfold px_len1; decide +kernel
theorem pl_X12_mark22 : px_len1 yX12_mark22 1 := by unfold px_len1; decide +kernel
theorem pl_X12_mark24 : px_len1 yX12_mark24 1 := by unfold px_len1; decide +kernel
theorem pl_X12_mark23 : px_len1 yX12_mark23 1 := by unfold px_len1; decide +kernel
theorem pl_X12_markOf : px_len1 yX12_markOf 1 := by unfold px_len1; decide +kernel
theorem pl_X12_size11 : px_len1 yX12_size11 1 := by unfold px_len1; decide +kernel
theorem pl_X12_size12 : px_len1 yX12_size12 1 := by unfold px_len1; decide +kernel
theorem pl_X12_sizeOf : px_len1 yX12_sizeOf 1 := by unfold px_len1; decide +kernel
theorem pl_X12_ask : px_len1 yX12_ask 2 := by unfold px_len1; decide +kernel
theorem pl_X12_trace : px_len1 yX12_trace 1 := by unfold px_len1; decide +kernel
theorem pl_X12_count : px_len1 yX12_count 1 := by unfold px_len1; decide +kernel
theorem pl_J6_bitCount_0f7a4 : px_len1 yJ6_bitCount_0f7a4 1 := by unfold px_len1; decide +kernel
theorem pl_J7_fill_53178 : px_len1 yJ7_fill_53178 2 := by unfold px_len1; decide +kernel
theorem pl_abs_toldKind : px_len1 ⟨"AllSworn$Thing", "toldKind", "()I"⟩ 0 := by unfold px_len1; decide +kernel
theorem lf_X0_13 : px_lkF "AllSworn$Foreign" 13 (10, 1, [(0, 0), (1, 0), (3, 0), (8, 0), (9, 0)], 0, "AllSworn$Foreign") := ⟨"far", "I", Or.inl ⟨rfl, pw_386⟩, List.forall_mem_cons.mpr ⟨⟨(RX0, TX0, 3), rfl, by decide, rfl, rfl, Or.inr pw_387⟩, List.forall_mem_cons.mpr ⟨⟨(RX1, TX1, 3), rfl, by decide, rfl, rfl, Or.inr pw_387⟩, List.forall_mem_cons.mpr ⟨⟨(RX3, TX3, 3), rfl, by decide, rfl, rfl, Or.inr pw_387⟩, List.forall_mem_cons.mpr ⟨⟨(RX9, TX9, 3), rfl, by decide, rfl, rfl, Or.inr pw_387⟩, List.forall_mem_cons.mpr ⟨⟨(RX10, TX10, 3), rfl, by decide, rfl, rfl, Or.inr pw_387⟩, fun _ h => absurd h List.not_mem_nil⟩⟩⟩⟩⟩⟩
theorem lf_X1_13 : px_lkF "AllSworn$Mixed" 13 (10, 0, [(0, 0), (1, 0), (3, 0), (8, 0), (9, 0)], 0, "AllSworn$Mixed") := ⟨"number", "I", Or.inl ⟨rfl, pw_379⟩, List.forall_mem_cons.mpr ⟨⟨(RX0, TX0, 3), rfl, by decide, rfl, rfl, Or.inr pw_380⟩, List.forall_mem_cons.mpr ⟨⟨(RX1, TX1, 3), rfl, by decide, rfl, rfl, Or.inr pw_380⟩, List.forall_mem_cons.mpr ⟨⟨(RX3, TX3, 3), rfl, by decide, rfl, rfl, Or.inr pw_380⟩, List.forall_mem_cons.mpr ⟨⟨(RX9, TX9, 3), rfl, by decide, rfl, rfl, Or.inr pw_380⟩, List.forall_mem_cons.mpr ⟨⟨(RX10, TX10, 3), rfl, by decide, rfl, rfl, Or.inr pw_380⟩, fun _ h => absurd h List.not_mem_nil⟩⟩⟩⟩⟩⟩
theorem lf_X2_12 : px_lkF "AllSworn$Oracle" 12 (10, 0, [(2, 0)], 0, "AllSworn$Oracle") := ⟨"dream", "LAllSworn$Realm;", Or.inl ⟨rfl, pw_178⟩, List.forall_mem_cons.mpr ⟨⟨(RX2, TX2, 5), rfl, by decide, rfl, rfl, Or.inl rfl⟩, fun _ h => absurd h List.not_mem_nil⟩⟩
theorem lf_X2_18 : px_lkF "AllSworn$Oracle" 18 (10, 1, [(2, 0)], 0, "AllSworn$Oracle") := ⟨"way", "[I", Or.inl ⟨rfl, pw_179⟩, List.forall_mem_cons.mpr ⟨⟨(RX2, TX2, 5), rfl, by decide, rfl, rfl, Or.inl rfl⟩, fun _ h => absurd h List.not_mem_nil⟩⟩
theorem lf_X2_22 : px_lkF "AllSworn$Oracle" 22 (10, 2, [(2, 0)], 0, "AllSworn$Oracle") := ⟨"bestWay", "[I", Or.inl ⟨rfl, pw_180⟩, List.forall_mem_cons.mpr ⟨⟨(RX2, TX2, 5), rfl, by decide, rfl, rfl, Or.inl rfl⟩, fun _ h => absurd h List.not_mem_nil⟩⟩
theorem lf_X2_26 : px_lkF "AllSworn$Oracle" 26 (10, 3, [(2, 0)], 0, "AllSworn$Oracle") := ⟨"bestDays", "I", Or.inl ⟨rfl, pw_181⟩, List.forall_mem_cons.mpr ⟨⟨(RX2, TX2, 5), rfl, by decide, rfl, rfl, Or.inl rfl⟩, fun _ h => absurd h List.not_mem_nil⟩⟩
theorem lf_X2_30 : px_lkF "AllSworn$Oracle" 30 (10, 4, [(2, 0)], 0, "AllSworn$Oracle") := ⟨"bestLength", "I", Or.inl ⟨rfl, pw_183⟩, List.forall_mem_cons.mpr ⟨⟨(RX2, TX2, 5), rfl, by decide, rfl, rfl, Or.inl rfl⟩, fun _ h => absurd h List.not_mem_nil⟩⟩
theorem lf_X2_33 : px_lkF "AllSworn$Oracle" 33 (11, 8, [(5, 0)], 0, "AllSworn$Realm") := ⟨"day", "I", Or.inr ⟨rfl, _, pw_143⟩, List.forall_mem_cons.mpr ⟨⟨(RX5, TX5, 10), rfl, by decide, rfl, rfl, Or.inl rfl⟩, fun _ h => absurd h List.not_mem_nil⟩⟩
theorem lf_X2_44 : px_lkF "AllSworn$Oracle" 44 (11, 5, [(5, 0)], 0, "AllSworn$Realm") := ⟨"thingCount", "I", Or.inr ⟨rfl, _, pw_133⟩, List.forall_mem_cons.mpr ⟨⟨(RX5, TX5, 10), rfl, by decide, rfl, rfl, Or.inl rfl⟩, fun _ h => absurd h List.not_mem_nil⟩⟩
theorem lf_X2_52 : px_lkF "AllSworn$Oracle" 52 (11, 4, [(5, 0)], 0, "AllSworn$Realm") := ⟨"term", "I", Or.inr ⟨rfl, _, pw_130⟩, List.forall_mem_cons.mpr ⟨⟨(RX5, TX5, 10), rfl, by decide, rfl, rfl, Or.inl rfl⟩, fun _ h => absurd h List.not_mem_nil⟩⟩
theorem lf_X2_114 : px_lkF "AllSworn$Oracle" 114 (11, 6, [(5, 0)], 0, "AllSworn$Realm") := ⟨"harmCount", "I", Or.inr ⟨rfl, _, pw_138⟩, List.forall_mem_cons.mpr ⟨⟨(RX5, TX5, 10), rfl, by decide, rfl, rfl, Or.inl rfl⟩, fun _ h => absurd h List.not_mem_nil⟩⟩
theorem lf_X3_29 : px_lkF "AllSworn$Plain" 29 (10, 0, [(0, 0), (1, 0), (3, 0), (8, 0), (9, 0)], 0, "AllSworn$Plain") := ⟨"number", "I", Or.inl ⟨rfl, pw_381⟩, List.forall_mem_cons.mpr ⟨⟨(RX0, TX0, 3), rfl, by decide, rfl, rfl, Or.inr pw_382⟩, List.forall_mem_cons.mpr ⟨⟨(RX1, TX1, 3), rfl, by decide, rfl, rfl, Or.inr pw_382⟩, List.forall_mem_cons.mpr ⟨⟨(RX3, TX3, 3), rfl, by decide, rfl, rfl, Or.inr pw_382⟩, List.forall_mem_cons.mpr ⟨⟨(RX9, TX9, 3), rfl, by decide, rfl, rfl, Or.inr pw_382⟩, List.forall_mem_cons.mpr ⟨⟨(RX10, TX10, 3), rfl, by decide, rfl, rfl, Or.inr pw_382⟩, fun _ h => absurd h List.not_mem_nil⟩⟩⟩⟩⟩⟩
theorem lf_X4_11 : px_lkF "AllSworn$Reader" 11 (10, 0, [(4, 0)], 0, "AllSworn$Reader") := ⟨"tape", "[I", Or.inl ⟨rfl, pw_97⟩, List.forall_mem_cons.mpr ⟨⟨(RX4, TX4, 5), rfl, by decide, rfl, rfl, Or.inl rfl⟩, fun _ h => absurd h List.not_mem_nil⟩⟩
theorem lf_X4_15 : px_lkF "AllSworn$Reader" 15 (10, 1, [(4, 0)], 0, "AllSworn$Reader") := ⟨"length", "I", Or.inl ⟨rfl, pw_98⟩, List.forall_mem_cons.mpr ⟨⟨(RX4, TX4, 5), rfl, by decide, rfl, rfl, Or.inl rfl⟩, fun _ h => absurd h List.not_mem_nil⟩⟩
theorem lf_X4_19 : px_lkF "AllSworn$Reader" 19 (10, 2, [(4, 0)], 0, "AllSworn$Reader") := ⟨"at", "I", Or.inl ⟨rfl, pw_100⟩, List.forall_mem_cons.mpr ⟨⟨(RX4, TX4, 5), rfl, by decide, rfl, rfl, Or.inl rfl⟩, fun _ h => absurd h List.not_mem_nil⟩⟩
theorem lf_X4_22 : px_lkF "AllSworn$Reader" 22 (10, 3, [(4, 0)], 0, "AllSworn$Reader") := ⟨"wrong", "I", Or.inl ⟨rfl, pw_101⟩, List.forall_mem_cons.mpr ⟨⟨(RX4, TX4, 5), rfl, by decide, rfl, rfl, Or.inl rfl⟩, fun _ h => absurd h List.not_mem_nil⟩⟩
theorem lf_X4_25 : px_lkF "AllSworn$Reader" 25 (10, 4, [(4, 0)], 0, "AllSworn$Reader") := ⟨"wrongPlace", "I", Or.inl ⟨rfl, pw_103⟩, List.forall_mem_cons.mpr ⟨⟨(RX4, TX4, 5), rfl, by decide, rfl, rfl, Or.inl rfl⟩, fun _ h => absurd h List.not_mem_nil⟩⟩
theorem lf_X4_50 : px_lkF "AllSworn$Reader" 50 (11, 6, [(5, 0)], 0, "AllSworn$Realm") := ⟨"harmCount", "I", Or.inr ⟨rfl, _, pw_137⟩, List.forall_mem_cons.mpr ⟨⟨(RX5, TX5, 10), rfl, by decide, rfl, rfl, Or.inl rfl⟩, fun _ h => absurd h List.not_mem_nil⟩⟩
theorem lf_X4_65 : px_lkF "AllSworn$Reader" 65 (11, 5, [(5, 0)], 0, "AllSworn$Realm") := ⟨"thingCount", "I", Or.inr ⟨rfl, _, pw_134⟩, List.forall_mem_cons.mpr ⟨⟨(RX5, TX5, 10), rfl, by decide, rfl, rfl, Or.inl rfl⟩, fun _ h => absurd h List.not_mem_nil⟩⟩
theorem lf_X5_11 : px_lkF "AllSworn$Realm" 11 (10, 0, [(5, 0)], 0, "AllSworn$Realm") := ⟨"things", "[LAllSworn$Thing;", Or.inl ⟨rfl, pw_125⟩, List.forall_mem_cons.mpr ⟨⟨(RX5, TX5, 10), rfl, by decide, rfl, rfl, Or.inl rfl⟩, fun _ h => absurd h List.not_mem_nil⟩⟩
theorem lf_X5_17 : px_lkF "AllSworn$Realm" 17 (10, 1, [(5, 0)], 0, "AllSworn$Realm") := ⟨"sworn", "[I", Or.inl ⟨rfl, pw_126⟩, List.forall_mem_cons.mpr ⟨⟨(RX5, TX5, 10), rfl, by decide, rfl, rfl, Or.inl rfl⟩, fun _ h => absurd h List.not_mem_nil⟩⟩
theorem lf_X5_21 : px_lkF "AllSworn$Realm" 21 (10, 2, [(5, 0)], 0, "AllSworn$Realm") := ⟨"harms", "[I", Or.inl ⟨rfl, pw_127⟩, List.forall_mem_cons.mpr ⟨⟨(RX5, TX5, 10), rfl, by decide, rfl, rfl, Or.inl rfl⟩, fun _ h => absurd h List.not_mem_nil⟩⟩
theorem lf_X5_24 : px_lkF "AllSworn$Realm" 24 (10, 3, [(5, 0)], 0, "AllSworn$Realm") := ⟨"acts", "[I", Or.inl ⟨rfl, pw_128⟩, List.forall_mem_cons.mpr ⟨⟨(RX5, TX5, 10), rfl, by decide, rfl, rfl, Or.inl rfl⟩, fun _ h => absurd h List.not_mem_nil⟩⟩
theorem lf_X5_27 : px_lkF "AllSworn$Realm" 27 (10, 4, [(5, 0)], 0, "AllSworn$Realm") := ⟨"term", "I", Or.inl ⟨rfl, pw_129⟩, List.forall_mem_cons.mpr ⟨⟨(RX5, TX5, 10), rfl, by decide, rfl, rfl, Or.inl rfl⟩, fun _ h => absurd h List.not_mem_nil⟩⟩
theorem lf_X5_31 : px_lkF "AllSworn$Realm" 31 (10, 5, [(5, 0)], 0, "AllSworn$Realm") := ⟨"thingCount", "I", Or.inl ⟨rfl, pw_132⟩, List.forall_mem_cons.mpr ⟨⟨(RX5, TX5, 10), rfl, by decide, rfl, rfl, Or.inl rfl⟩, fun _ h => absurd h List.not_mem_nil⟩⟩
theorem lf_X5_34 : px_lkF "AllSworn$Realm" 34 (10, 6, [(5, 0)], 0, "AllSworn$Realm") := ⟨"harmCount", "I", Or.inl ⟨rfl, pw_136⟩, List.forall_mem_cons.mpr ⟨⟨(RX5, TX5, 10), rfl, by decide, rfl, rfl, Or.inl rfl⟩, fun _ h => absurd h List.not_mem_nil⟩⟩
theorem lf_X5_37 : px_lkF "AllSworn$Realm" 37 (10, 7, [(5, 0)], 0, "AllSworn$Realm") := ⟨"actCount", "I", Or.inl ⟨rfl, pw_140⟩, List.forall_mem_cons.mpr ⟨⟨(RX5, TX5, 10), rfl, by decide, rfl, rfl, Or.inl rfl⟩, fun _ h => absurd h List.not_mem_nil⟩⟩
theorem lf_X5_40 : px_lkF "AllSworn$Realm" 40 (10, 8, [(5, 0)], 0, "AllSworn$Realm") := ⟨"day", "I", Or.inl ⟨rfl, pw_142⟩, List.forall_mem_cons.mpr ⟨⟨(RX5, TX5, 10), rfl, by decide, rfl, rfl, Or.inl rfl⟩, fun _ h => absurd h List.not_mem_nil⟩⟩
theorem lf_X5_43 : px_lkF "AllSworn$Realm" 43 (10, 9, [(5, 0)], 0, "AllSworn$Realm") := ⟨"hits", "I", Or.inl ⟨rfl, pw_145⟩, List.forall_mem_cons.mpr ⟨⟨(RX5, TX5, 10), rfl, by decide, rfl, rfl, Or.inl rfl⟩, fun _ h => absurd h List.not_mem_nil⟩⟩
theorem lf_X5_57 : px_lkF "AllSworn$Realm" 57 (10, 0, [(0, 0), (1, 0), (3, 0), (8, 0), (9, 0)], 0, "AllSworn$Thing") := ⟨"number", "I", Or.inl ⟨rfl, pw_383⟩, List.forall_mem_cons.mpr ⟨⟨(RX0, TX0, 3), rfl, by decide, rfl, rfl, Or.inl rfl⟩, List.forall_mem_cons.mpr ⟨⟨(RX1, TX1, 3), rfl, by decide, rfl, rfl, Or.inl rfl⟩, List.forall_mem_cons.mpr ⟨⟨(RX3, TX3, 3), rfl, by decide, rfl, rfl, Or.inl rfl⟩, List.forall_mem_cons.mpr ⟨⟨(RX9, TX9, 3), rfl, by decide, rfl, rfl, Or.inl rfl⟩, List.forall_mem_cons.mpr ⟨⟨(RX10, TX10, 3), rfl, by decide, rfl, rfl, Or.inl rfl⟩, fun _ h => absurd h List.not_mem_nil⟩⟩⟩⟩⟩⟩
theorem lf_X5_92 : px_lkF "AllSworn$Realm" 92 (10, 2, [(0, 0), (1, 0), (3, 0), (8, 0), (9, 0)], 0, "AllSworn$Thing") := ⟨"price", "I", Or.inl ⟨rfl, pw_391⟩, List.forall_mem_cons.mpr ⟨⟨(RX0, TX0, 3), rfl, by decide, rfl, rfl, Or.inl rfl⟩, List.forall_mem_cons.mpr ⟨⟨(RX1, TX1, 3), rfl, by decide, rfl, rfl, Or.inl rfl⟩, List.forall_mem_cons.mpr ⟨⟨(RX3, TX3, 3), rfl, by decide, rfl, rfl, Or.inl rfl⟩, List.forall_mem_cons.mpr ⟨⟨(RX9, TX9, 3), rfl, by decide, rfl, rfl, Or.inl rfl⟩, List.forall_mem_cons.mpr ⟨⟨(RX10, TX10, 3), rfl, by decide, rfl, rfl, Or.inl rfl⟩, fun _ h => absurd h List.not_mem_nil⟩⟩⟩⟩⟩⟩
theorem lf_X6_9 : px_lkF "AllSworn$Row" 9 (10, 0, [(6, 0)], 0, "AllSworn$Row") := ⟨"items", "[I", Or.inl ⟨rfl, pw_214⟩, List.forall_mem_cons.mpr ⟨⟨(RX6, TX6, 3), rfl, by decide, rfl, rfl, Or.inl rfl⟩, fun _ h => absurd h List.not_mem_nil⟩⟩
theorem lf_X6_15 : px_lkF "AllSworn$Row" 15 (10, 1, [(6, 0)], 0, "AllSworn$Row") := ⟨"lane", "I", Or.inl ⟨rfl, pw_215⟩, List.forall_mem_cons.mpr ⟨⟨(RX6, TX6, 3), rfl, by decide, rfl, rfl, Or.inl rfl⟩, fun _ h => absurd h List.not_mem_nil⟩⟩
theorem lf_X6_19 : px_lkF "AllSworn$Row" 19 (10, 2, [(6, 0)], 0, "AllSworn$Row") := ⟨"size", "I", Or.inl ⟨rfl, pw_217⟩, List.forall_mem_cons.mpr ⟨⟨(RX6, TX6, 3), rfl, by decide, rfl, rfl, Or.inl rfl⟩, fun _ h => absurd h List.not_mem_nil⟩⟩
theorem lf_X7_9 : px_lkF "AllSworn$Thing" 9 (10, 0, [(0, 0), (1, 0), (3, 0), (8, 0), (9, 0)], 0, "AllSworn$Thing") := ⟨"number", "I", Or.inl ⟨rfl, pw_378⟩, List.forall_mem_cons.mpr ⟨⟨(RX0, TX0, 3), rfl, by decide, rfl, rfl, Or.inl rfl⟩, List.forall_mem_cons.mpr ⟨⟨(RX1, TX1, 3), rfl, by decide, rfl, rfl, Or.inl rfl⟩, List.forall_mem_cons.mpr ⟨⟨(RX3, TX3, 3), rfl, by decide, rfl, rfl, Or.inl rfl⟩, List.forall_mem_cons.mpr ⟨⟨(RX9, TX9, 3), rfl, by decide, rfl, rfl, Or.inl rfl⟩, List.forall_mem_cons.mpr ⟨⟨(RX10, TX10, 3), rfl, by decide, rfl, rfl, Or.inl rfl⟩, fun _ h => absurd h List.not_mem_nil⟩⟩⟩⟩⟩⟩
theorem lf_X7_15 : px_lkF "AllSworn$Thing" 15 (10, 1, [(0, 0), (1, 0), (3, 0), (8, 0), (9, 0)], 0, "AllSworn$Thing") := ⟨"far", "I", Or.inl ⟨rfl, pw_385⟩, List.forall_mem_cons.mpr ⟨⟨(RX0, TX0, 3), rfl, by decide, rfl, rfl, Or.inl rfl⟩, List.forall_mem_cons.mpr ⟨⟨(RX1, TX1, 3), rfl, by decide, rfl, rfl, Or.inl rfl⟩, List.forall_mem_cons.mpr ⟨⟨(RX3, TX3, 3), rfl, by decide, rfl, rfl, Or.inl rfl⟩, List.forall_mem_cons.mpr ⟨⟨(RX9, TX9, 3), rfl, by decide, rfl, rfl, Or.inl rfl⟩, List.forall_mem_cons.mpr ⟨⟨(RX10, TX10, 3), rfl, by decide, rfl, rfl, Or.inl rfl⟩, fun _ h => absurd h List.not_mem_nil⟩⟩⟩⟩⟩⟩
theorem lf_X7_18 : px_lkF "AllSworn$Thing" 18 (10, 2, [(0, 0), (1, 0), (3, 0), (8, 0), (9, 0)], 0, "AllSworn$Thing") := ⟨"price", "I", Or.inl ⟨rfl, pw_389⟩, List.forall_mem_cons.mpr ⟨⟨(RX0, TX0, 3), rfl, by decide, rfl, rfl, Or.inl rfl⟩, List.forall_mem_cons.mpr ⟨⟨(RX1, TX1, 3), rfl, by decide, rfl, rfl, Or.inl rfl⟩, List.forall_mem_cons.mpr ⟨⟨(RX3, TX3, 3), rfl, by decide, rfl, rfl, Or.inl rfl⟩, List.forall_mem_cons.mpr ⟨⟨(RX9, TX9, 3), rfl, by decide, rfl, rfl, Or.inl rfl⟩, List.forall_mem_cons.mpr ⟨⟨(RX10, TX10, 3), rfl, by decide, rfl, rfl, Or.inl rfl⟩, fun _ h => absurd h List.not_mem_nil⟩⟩⟩⟩⟩⟩
theorem lf_X8_11 : px_lkF "AllSworn$Trace" 11 (10, 0, [(7, 0)], 0, "AllSworn$Trace") := ⟨"numbers", "[I", Or.inl ⟨rfl, pw_202⟩, List.forall_mem_cons.mpr ⟨⟨(RX8, TX8, 2), rfl, by decide, rfl, rfl, Or.inl rfl⟩, fun _ h => absurd h List.not_mem_nil⟩⟩
theorem lf_X8_15 : px_lkF "AllSworn$Trace" 15 (10, 1, [(7, 0)], 0, "AllSworn$Trace") := ⟨"length", "I", Or.inl ⟨rfl, pw_203⟩, List.forall_mem_cons.mpr ⟨⟨(RX8, TX8, 2), rfl, by decide, rfl, rfl, Or.inl rfl⟩, fun _ h => absurd h List.not_mem_nil⟩⟩
theorem lf_X11_11 : px_lkF "AllSworn" 11 (10, 0, [(10, 0)], 0, "AllSworn") := ⟨"rows", "[LAllSworn$Row;", Or.inl ⟨rfl, pw_226⟩, List.forall_mem_cons.mpr ⟨⟨(RX11, TX11, 9), rfl, by decide, rfl, rfl, Or.inl rfl⟩, fun _ h => absurd h List.not_mem_nil⟩⟩
theorem lf_X11_18 : px_lkF "AllSworn" 18 (10, 1, [(10, 0)], 0, "AllSworn") := ⟨"reader", "LAllSworn$Reader;", Or.inl ⟨rfl, pw_227⟩, List.forall_mem_cons.mpr ⟨⟨(RX11, TX11, 9), rfl, by decide, rfl, rfl, Or.inl rfl⟩, fun _ h => absurd h List.not_mem_nil⟩⟩
theorem lf_X11_25 : px_lkF "AllSworn" 25 (10, 2, [(10, 0)], 0, "AllSworn") := ⟨"draft", "LAllSworn$Realm;", Or.inl ⟨rfl, pw_228⟩, List.forall_mem_cons.mpr ⟨⟨(RX11, TX11, 9), rfl, by decide, rfl, rfl, Or.inl rfl⟩, fun _ h => absurd h List.not_mem_nil⟩⟩
theorem lf_X11_29 : px_lkF "AllSworn" 29 (10, 3, [(10, 0)], 0, "AllSworn") := ⟨"present", "LAllSworn$Realm;", Or.inl ⟨rfl, pw_229⟩, List.forall_mem_cons.mpr ⟨⟨(RX11, TX11, 9), rfl, by decide, rfl, rfl, Or.inl rfl⟩, fun _ h => absurd h List.not_mem_nil⟩⟩
theorem lf_X11_32 : px_lkF "AllSworn" 32 (10, 4, [(10, 0)], 0, "AllSworn") := ⟨"images", "[LAllSworn$Realm;", Or.inl ⟨rfl, pw_230⟩, List.forall_mem_cons.mpr ⟨⟨(RX11, TX11, 9), rfl, by decide, rfl, rfl, Or.inl rfl⟩, fun _ h => absurd h List.not_mem_nil⟩⟩
theorem lf_X11_39 : px_lkF "AllSworn" 39 (10, 5, [(10, 0)], 0, "AllSworn") := ⟨"oracle", "LAllSworn$Oracle;", Or.inl ⟨rfl, pw_231⟩, List.forall_mem_cons.mpr ⟨⟨(RX11, TX11, 9), rfl, by decide, rfl, rfl, Or.inl rfl⟩, fun _ h => absurd h List.not_mem_nil⟩⟩
theorem lf_X11_46 : px_lkF "AllSworn" 46 (10, 6, [(10, 0)], 0, "AllSworn") := ⟨"left", "LAllSworn$Trace;", Or.inl ⟨rfl, pw_232⟩, List.forall_mem_cons.mpr ⟨⟨(RX11, TX11, 9), rfl, by decide, rfl, rfl, Or.inl rfl⟩, fun _ h => absurd h List.not_mem_nil⟩⟩
theorem lf_X11_50 : px_lkF "AllSworn" 50 (10, 7, [(10, 0)], 0, "AllSworn") := ⟨"latestFault", "I", Or.inl ⟨rfl, pw_233⟩, List.forall_mem_cons.mpr ⟨⟨(RX11, TX11, 9), rfl, by decide, rfl, rfl, Or.inl rfl⟩, fun _ h => absurd h List.not_mem_nil⟩⟩
theorem lf_X11_54 : px_lkF "AllSworn" 54 (10, 8, [(10, 0)], 0, "AllSworn") := ⟨"latestFinding", "I", Or.inl ⟨rfl, pw_234⟩, List.forall_mem_cons.mpr ⟨⟨(RX11, TX11, 9), rfl, by decide, rfl, rfl, Or.inl rfl⟩, fun _ h => absurd h List.not_mem_nil⟩⟩
theorem lf_X11_86 : px_lkF "AllSworn" 86 (11, 1, [(6, 0)], 0, "AllSworn$Row") := ⟨"lane", "I", Or.inr ⟨rfl, _, pw_216⟩, List.forall_mem_cons.mpr ⟨⟨(RX6, TX6, 3), rfl, by decide, rfl, rfl, Or.inl rfl⟩, fun _ h => absurd h List.not_mem_nil⟩⟩
theorem lf_X11_93 : px_lkF "AllSworn" 93 (11, 2, [(6, 0)], 0, "AllSworn$Row") := ⟨"size", "I", Or.inr ⟨rfl, _, pw_218⟩, List.forall_mem_cons.mpr ⟨⟨(RX6, TX6, 3), rfl, by decide, rfl, rfl, Or.inl rfl⟩, fun _ h => absurd h List.not_mem_nil⟩⟩
theorem lf_X11_103 : px_lkF "AllSworn" 103 (11, 1, [(4, 0)], 0, "AllSworn$Reader") := ⟨"length", "I", Or.inr ⟨rfl, _, pw_99⟩, List.forall_mem_cons.mpr ⟨⟨(RX4, TX4, 5), rfl, by decide, rfl, rfl, Or.inl rfl⟩, fun _ h => absurd h List.not_mem_nil⟩⟩
theorem lf_X11_111 : px_lkF "AllSworn" 111 (11, 3, [(4, 0)], 0, "AllSworn$Reader") := ⟨"wrong", "I", Or.inr ⟨rfl, _, pw_102⟩, List.forall_mem_cons.mpr ⟨⟨(RX4, TX4, 5), rfl, by decide, rfl, rfl, Or.inl rfl⟩, fun _ h => absurd h List.not_mem_nil⟩⟩
theorem lf_X11_115 : px_lkF "AllSworn" 115 (11, 4, [(4, 0)], 0, "AllSworn$Reader") := ⟨"wrongPlace", "I", Or.inr ⟨rfl, _, pw_104⟩, List.forall_mem_cons.mpr ⟨⟨(RX4, TX4, 5), rfl, by decide, rfl, rfl, Or.inl rfl⟩, fun _ h => absurd h List.not_mem_nil⟩⟩
theorem lf_X11_122 : px_lkF "AllSworn" 122 (11, 5, [(5, 0)], 0, "AllSworn$Realm") := ⟨"thingCount", "I", Or.inr ⟨rfl, _, pw_135⟩, List.forall_mem_cons.mpr ⟨⟨(RX5, TX5, 10), rfl, by decide, rfl, rfl, Or.inl rfl⟩, fun _ h => absurd h List.not_mem_nil⟩⟩
theorem lf_X11_129 : px_lkF "AllSworn" 129 (11, 8, [(5, 0)], 0, "AllSworn$Realm") := ⟨"day", "I", Or.inr ⟨rfl, _, pw_144⟩, List.forall_mem_cons.mpr ⟨⟨(RX5, TX5, 10), rfl, by decide, rfl, rfl, Or.inl rfl⟩, fun _ h => absurd h List.not_mem_nil⟩⟩
theorem lf_X11_159 : px_lkF "AllSworn" 159 (11, 7, [(5, 0)], 0, "AllSworn$Realm") := ⟨"actCount", "I", Or.inr ⟨rfl, _, pw_141⟩, List.forall_mem_cons.mpr ⟨⟨(RX5, TX5, 10), rfl, by decide, rfl, rfl, Or.inl rfl⟩, fun _ h => absurd h List.not_mem_nil⟩⟩
theorem lf_X11_162 : px_lkF "AllSworn" 162 (10, 1, [(0, 0), (1, 0), (3, 0), (8, 0), (9, 0)], 0, "AllSworn$Thing") := ⟨"far", "I", Or.inl ⟨rfl, pw_388⟩, List.forall_mem_cons.mpr ⟨⟨(RX0, TX0, 3), rfl, by decide, rfl, rfl, Or.inl rfl⟩, List.forall_mem_cons.mpr ⟨⟨(RX1, TX1, 3), rfl, by decide, rfl, rfl, Or.inl rfl⟩, List.forall_mem_cons.mpr ⟨⟨(RX3, TX3, 3), rfl, by decide, rfl, rfl, Or.inl rfl⟩, List.forall_mem_cons.mpr ⟨⟨(RX9, TX9, 3), rfl, by decide, rfl, rfl, Or.inl rfl⟩, List.forall_mem_cons.mpr ⟨⟨(RX10, TX10, 3), rfl, by decide, rfl, rfl, Or.inl rfl⟩, fun _ h => absurd h List.not_mem_nil⟩⟩⟩⟩⟩⟩
theorem lf_X11_165 : px_lkF "AllSworn" 165 (10, 2, [(0, 0), (1, 0), (3, 0), (8, 0), (9, 0)], 0, "AllSworn$Thing") := ⟨"price", "I", Or.inl ⟨rfl, pw_390⟩, List.forall_mem_cons.mpr ⟨⟨(RX0, TX0, 3), rfl, by decide, rfl, rfl, Or.inl rfl⟩, List.forall_mem_cons.mpr ⟨⟨(RX1, TX1, 3), rfl, by decide, rfl, rfl, Or.inl rfl⟩, List.forall_mem_cons.mpr ⟨⟨(RX3, TX3, 3), rfl, by decide, rfl, rfl, Or.inl rfl⟩, List.forall_mem_cons.mpr ⟨⟨(RX9, TX9, 3), rfl, by decide, rfl, rfl, Or.inl rfl⟩, List.forall_mem_cons.mpr ⟨⟨(RX10, TX10, 3), rfl, by decide, rfl, rfl, Or.inl rfl⟩, fun _ h => absurd h List.not_mem_nil⟩⟩⟩⟩⟩⟩
theorem lf_X11_174 : px_lkF "AllSworn" 174 (10, 0, [(0, 0), (1, 0), (3, 0), (8, 0), (9, 0)], 0, "AllSworn$Thing") := ⟨"number", "I", Or.inl ⟨rfl, pw_384⟩, List.forall_mem_cons.mpr ⟨⟨(RX0, TX0, 3), rfl, by decide, rfl, rfl, Or.inl rfl⟩, List.forall_mem_cons.mpr ⟨⟨(RX1, TX1, 3), rfl, by decide, rfl, rfl, Or.inl rfl⟩, List.forall_mem_cons.mpr ⟨⟨(RX3, TX3, 3), rfl, by decide, rfl, rfl, Or.inl rfl⟩, List.forall_mem_cons.mpr ⟨⟨(RX9, TX9, 3), rfl, by decide, rfl, rfl, Or.inl rfl⟩, List.forall_mem_cons.mpr ⟨⟨(RX10, TX10, 3), rfl, by decide, rfl, rfl, Or.inl rfl⟩, fun _ h => absurd h List.not_mem_nil⟩⟩⟩⟩⟩⟩
theorem lf_X11_205 : px_lkF "AllSworn" 205 (11, 3, [(2, 0)], 0, "AllSworn$Oracle") := ⟨"bestDays", "I", Or.inr ⟨rfl, _, pw_182⟩, List.forall_mem_cons.mpr ⟨⟨(RX2, TX2, 5), rfl, by decide, rfl, rfl, Or.inl rfl⟩, fun _ h => absurd h List.not_mem_nil⟩⟩
theorem lf_X11_208 : px_lkF "AllSworn" 208 (11, 4, [(2, 0)], 0, "AllSworn$Oracle") := ⟨"bestLength", "I", Or.inr ⟨rfl, _, pw_184⟩, List.forall_mem_cons.mpr ⟨⟨(RX2, TX2, 5), rfl, by decide, rfl, rfl, Or.inl rfl⟩, fun _ h => absurd h List.not_mem_nil⟩⟩
theorem lf_X11_282 : px_lkF "AllSworn" 282 (11, 6, [(5, 0)], 0, "AllSworn$Realm") := ⟨"harmCount", "I", Or.inr ⟨rfl, _, pw_139⟩, List.forall_mem_cons.mpr ⟨⟨(RX5, TX5, 10), rfl, by decide, rfl, rfl, Or.inl rfl⟩, fun _ h => absurd h List.not_mem_nil⟩⟩
theorem lf_X11_285 : px_lkF "AllSworn" 285 (11, 9, [(5, 0)], 0, "AllSworn$Realm") := ⟨"hits", "I", Or.inr ⟨rfl, _, pw_146⟩, List.forall_mem_cons.mpr ⟨⟨(RX5, TX5, 10), rfl, by decide, rfl, rfl, Or.inl rfl⟩, fun _ h => absurd h List.not_mem_nil⟩⟩
theorem lf_X11_288 : px_lkF "AllSworn" 288 (11, 4, [(5, 0)], 0, "AllSworn$Realm") := ⟨"term", "I", Or.inr ⟨rfl, _, pw_131⟩, List.forall_mem_cons.mpr ⟨⟨(RX5, TX5, 10), rfl, by decide, rfl, rfl, Or.inl rfl⟩, fun _ h => absurd h List.not_mem_nil⟩⟩
theorem lf_X12_7 : px_lkF "AllSwornModel" 7 (10, 0, [(11, 0)], 0, "AllSwornModel") := ⟨"lanes", "[I", Or.inl ⟨rfl, pw_891⟩, List.forall_mem_cons.mpr ⟨⟨(RX12, TX12, 23), rfl, by decide, rfl, rfl, Or.inl rfl⟩, fun _ h => absurd h List.not_mem_nil⟩⟩
theorem lf_X12_13 : px_lkF "AllSwornModel" 13 (10, 1, [(11, 0)], 0, "AllSwornModel") := ⟨"sizes", "[I", Or.inl ⟨rfl, pw_892⟩, List.forall_mem_cons.mpr ⟨⟨(RX12, TX12, 23), rfl, by decide, rfl, rfl, Or.inl rfl⟩, fun _ h => absurd h List.not_mem_nil⟩⟩
theorem lf_X12_16 : px_lkF "AllSwornModel" 16 (10, 2, [(11, 0)], 0, "AllSwornModel") := ⟨"items", "[I", Or.inl ⟨rfl, pw_893⟩, List.forall_mem_cons.mpr ⟨⟨(RX12, TX12, 23), rfl, by decide, rfl, rfl, Or.inl rfl⟩, fun _ h => absurd h List.not_mem_nil⟩⟩
theorem lf_X12_19 : px_lkF "AllSwornModel" 19 (10, 4, [(11, 0)], 0, "AllSwornModel") := ⟨"now", "[I", Or.inl ⟨rfl, pw_895⟩, List.forall_mem_cons.mpr ⟨⟨(RX12, TX12, 23), rfl, by decide, rfl, rfl, Or.inl rfl⟩, fun _ h => absurd h List.not_mem_nil⟩⟩
theorem lf_X12_22 : px_lkF "AllSwornModel" 22 (10, 6, [(11, 0)], 0, "AllSwornModel") := ⟨"isKept", "[Z", Or.inl ⟨rfl, pw_897⟩, List.forall_mem_cons.mpr ⟨⟨(RX12, TX12, 23), rfl, by decide, rfl, rfl, Or.inl rfl⟩, fun _ h => absurd h List.not_mem_nil⟩⟩
theorem lf_X12_26 : px_lkF "AllSwornModel" 26 (10, 7, [(11, 0)], 0, "AllSwornModel") := ⟨"acts", "[I", Or.inl ⟨rfl, pw_898⟩, List.forall_mem_cons.mpr ⟨⟨(RX12, TX12, 23), rfl, by decide, rfl, rfl, Or.inl rfl⟩, fun _ h => absurd h List.not_mem_nil⟩⟩
theorem lf_X12_29 : px_lkF "AllSwornModel" 29 (10, 9, [(11, 0)], 0, "AllSwornModel") := ⟨"tape", "[B", Or.inl ⟨rfl, pw_900⟩, List.forall_mem_cons.mpr ⟨⟨(RX12, TX12, 23), rfl, by decide, rfl, rfl, Or.inl rfl⟩, fun _ h => absurd h List.not_mem_nil⟩⟩
theorem lf_X12_33 : px_lkF "AllSwornModel" 33 (10, 18, [(11, 0)], 0, "AllSwornModel") := ⟨"oaths", "[I", Or.inl ⟨rfl, pw_909⟩, List.forall_mem_cons.mpr ⟨⟨(RX12, TX12, 23), rfl, by decide, rfl, rfl, Or.inl rfl⟩, fun _ h => absurd h List.not_mem_nil⟩⟩
theorem lf_X12_36 : px_lkF "AllSwornModel" 36 (10, 19, [(11, 0)], 0, "AllSwornModel") := ⟨"row4", "[I", Or.inl ⟨rfl, pw_910⟩, List.forall_mem_cons.mpr ⟨⟨(RX12, TX12, 23), rfl, by decide, rfl, rfl, Or.inl rfl⟩, fun _ h => absurd h List.not_mem_nil⟩⟩
theorem lf_X12_39 : px_lkF "AllSwornModel" 39 (10, 21, [(11, 0)], 0, "AllSwornModel") := ⟨"traced", "[I", Or.inl ⟨rfl, pw_912⟩, List.forall_mem_cons.mpr ⟨⟨(RX12, TX12, 23), rfl, by decide, rfl, rfl, Or.inl rfl⟩, fun _ h => absurd h List.not_mem_nil⟩⟩
theorem lf_X12_42 : px_lkF "AllSwornModel" 42 (10, 10, [(11, 0)], 0, "AllSwornModel") := ⟨"typed", "I", Or.inl ⟨rfl, pw_901⟩, List.forall_mem_cons.mpr ⟨⟨(RX12, TX12, 23), rfl, by decide, rfl, rfl, Or.inl rfl⟩, fun _ h => absurd h List.not_mem_nil⟩⟩
theorem lf_X12_46 : px_lkF "AllSwornModel" 46 (10, 3, [(11, 0)], 0, "AllSwornModel") := ⟨"state", "I", Or.inl ⟨rfl, pw_894⟩, List.forall_mem_cons.mpr ⟨⟨(RX12, TX12, 23), rfl, by decide, rfl, rfl, Or.inl rfl⟩, fun _ h => absurd h List.not_mem_nil⟩⟩
theorem lf_X12_66 : px_lkF "AllSwornModel" 66 (10, 5, [(11, 0)], 0, "AllSwornModel") := ⟨"base", "I", Or.inl ⟨rfl, pw_896⟩, List.forall_mem_cons.mpr ⟨⟨(RX12, TX12, 23), rfl, by decide, rfl, rfl, Or.inl rfl⟩, fun _ h => absurd h List.not_mem_nil⟩⟩
theorem lf_X12_73 : px_lkF "AllSwornModel" 73 (10, 11, [(11, 0)], 0, "AllSwornModel") := ⟨"at", "I", Or.inl ⟨rfl, pw_902⟩, List.forall_mem_cons.mpr ⟨⟨(RX12, TX12, 23), rfl, by decide, rfl, rfl, Or.inl rfl⟩, fun _ h => absurd h List.not_mem_nil⟩⟩
theorem lf_X12_76 : px_lkF "AllSwornModel" 76 (10, 12, [(11, 0)], 0, "AllSwornModel") := ⟨"start", "I", Or.inl ⟨rfl, pw_903⟩, List.forall_mem_cons.mpr ⟨⟨(RX12, TX12, 23), rfl, by decide, rfl, rfl, Or.inl rfl⟩, fun _ h => absurd h List.not_mem_nil⟩⟩
theorem lf_X12_79 : px_lkF "AllSwornModel" 79 (10, 14, [(11, 0)], 0, "AllSwornModel") := ⟨"value", "I", Or.inl ⟨rfl, pw_905⟩, List.forall_mem_cons.mpr ⟨⟨(RX12, TX12, 23), rfl, by decide, rfl, rfl, Or.inl rfl⟩, fun _ h => absurd h List.not_mem_nil⟩⟩
theorem lf_X12_86 : px_lkF "AllSwornModel" 86 (10, 13, [(11, 0)], 0, "AllSwornModel") := ⟨"sort", "I", Or.inl ⟨rfl, pw_904⟩, List.forall_mem_cons.mpr ⟨⟨(RX12, TX12, 23), rfl, by decide, rfl, rfl, Or.inl rfl⟩, fun _ h => absurd h List.not_mem_nil⟩⟩
theorem lf_X12_89 : px_lkF "AllSwornModel" 89 (10, 15, [(11, 0)], 0, "AllSwornModel") := ⟨"fault", "I", Or.inl ⟨rfl, pw_906⟩, List.forall_mem_cons.mpr ⟨⟨(RX12, TX12, 23), rfl, by decide, rfl, rfl, Or.inl rfl⟩, fun _ h => absurd h List.not_mem_nil⟩⟩
theorem lf_X12_92 : px_lkF "AllSwornModel" 92 (10, 16, [(11, 0)], 0, "AllSwornModel") := ⟨"faultAt", "I", Or.inl ⟨rfl, pw_907⟩, List.forall_mem_cons.mpr ⟨⟨(RX12, TX12, 23), rfl, by decide, rfl, rfl, Or.inl rfl⟩, fun _ h => absurd h List.not_mem_nil⟩⟩
theorem lf_X12_126 : px_lkF "AllSwornModel" 126 (10, 17, [(11, 0)], 0, "AllSwornModel") := ⟨"lastFault", "I", Or.inl ⟨rfl, pw_908⟩, List.forall_mem_cons.mpr ⟨⟨(RX12, TX12, 23), rfl, by decide, rfl, rfl, Or.inl rfl⟩, fun _ h => absurd h List.not_mem_nil⟩⟩
theorem lf_X12_133 : px_lkF "AllSwornModel" 133 (10, 8, [(11, 0)], 0, "AllSwornModel") := ⟨"actMany", "I", Or.inl ⟨rfl, pw_899⟩, List.forall_mem_cons.mpr ⟨⟨(RX12, TX12, 23), rfl, by decide, rfl, rfl, Or.inl rfl⟩, fun _ h => absurd h List.not_mem_nil⟩⟩
theorem lf_X12_188 : px_lkF "AllSwornModel" 188 (10, 20, [(11, 0)], 0, "AllSwornModel") := ⟨"rowDays", "I", Or.inl ⟨rfl, pw_911⟩, List.forall_mem_cons.mpr ⟨⟨(RX12, TX12, 23), rfl, by decide, rfl, rfl, Or.inl rfl⟩, fun _ h => absurd h List.not_mem_nil⟩⟩
theorem lf_X12_206 : px_lkF "AllSwornModel" 206 (10, 22, [(11, 0)], 0, "AllSwornModel") := ⟨"tracedMany", "I", Or.inl ⟨rfl, pw_913⟩, List.forall_mem_cons.mpr ⟨⟨(RX12, TX12, 23), rfl, by decide, rfl, rfl, Or.inl rfl⟩, fun _ h => absurd h List.not_mem_nil⟩⟩
theorem lm_X0_3 : px_lkI "AllSworn$Foreign" 3 3 m_X7_init ∨ px_lkN "AllSworn$Foreign" 3 3 m_X7_init := Or.inl ⟨pw_414, pw_375, pw_73, rfl, rfl, pl_X7_init⟩
theorem lm_X0_9 : px_lkX "AllSworn$Foreign" 9 1 m_X7_isOf := ⟨pw_783, pw_779, pw_418, pw_778, pw_73, by decide +kernel, pl_X7_isOf⟩
theorem lm_X0_25 : px_lkV "AllSworn$Foreign" 25 1 7 m_X8_leave := ⟨(RX8, TX8, 2), rfl, pw_815, pw_816, pw_817, pw_68, pl_X8_leave⟩
theorem lm_X0_31 : px_lkX "AllSworn$Foreign" 31 2 m_X7_size := ⟨pw_819, pw_811, pw_418, pw_810, pw_73, by decide +kernel, pl_X7_size⟩
theorem lm_X0_35 : px_lkX "AllSworn$Foreign" 35 2 m_X7_mark := ⟨pw_862, pw_1295, pw_418, pw_844, pw_73, by decide +kernel, pl_X7_mark⟩
theorem lm_X0_38_0 : px_lkU "AllSworn$Foreign" 38 2 0 m_X0_size "AllSworn$Foreign" := ⟨(RX0, TX0, 3), ⟨"AllSworn$Foreign", "size", "(LAllSworn$Trace;LAllSworn$Realm;)I"⟩, rfl, pw_863, pw_1296, pw_1298, pw_813, pw_77, ⟨by decide +kernel, by decide +kernel⟩, Or.inr ⟨pw_813, _, _, _, pw_814⟩, pl_X0_size⟩
theorem lm_X0_38_8 : px_lkU "AllSworn$Foreign" 38 2 8 m_X9_size "AllSworn$Foreign" := ⟨(RX9, TX9, 3), ⟨"AllSworn$Foreign", "size", "(LAllSworn$Trace;LAllSworn$Realm;)I"⟩, rfl, pw_863, pw_1296, pw_1299, pw_853, pw_78, ⟨by decide +kernel, by decide +kernel⟩, Or.inr ⟨pw_813, _, _, _, pw_814⟩, pl_X0_size⟩
theorem lm_X1_3 : px_lkI "AllSworn$Mixed" 3 3 m_X3_init ∨ px_lkN "AllSworn$Mixed" 3 3 m_X3_init := Or.inl ⟨pw_371, pw_372, pw_74, rfl, rfl, pl_X3_init⟩
theorem lm_X1_9 : px_lkX "AllSworn$Mixed" 9 1 m_X3_isOf := ⟨pw_787, pw_1292, pw_398, pw_788, pw_74, by decide +kernel, pl_X3_isOf⟩
theorem lm_X1_19 : px_lkV "AllSworn$Mixed" 19 1 7 m_X8_leave := ⟨(RX8, TX8, 2), rfl, pw_823, pw_816, pw_817, pw_68, pl_X8_leave⟩
theorem lm_X1_25 : px_lkX "AllSworn$Mixed" 25 2 m_X3_size := ⟨pw_824, pw_1294, pw_398, pw_825, pw_74, by decide +kernel, pl_X3_size⟩
theorem lm_X1_29 : px_lkX "AllSworn$Mixed" 29 2 m_X3_mark := ⟨pw_836, pw_832, pw_398, pw_830, pw_74, by decide +kernel, pl_X3_mark⟩
theorem lm_X2_11 : px_lkI "AllSworn$Oracle" 11 0 m_X5_init ∨ px_lkN "AllSworn$Oracle" 11 0 m_X5_init := Or.inr ⟨⟨_, pw_176⟩, pw_120, pw_66, rfl, rfl, pl_X5_init⟩
theorem lm_X2_36 : px_lkV "AllSworn$Oracle" 36 1 5 m_X5_openOn := ⟨(RX5, TX5, 10), rfl, pw_607, pw_523, pw_524, pw_66, pl_X5_openOn⟩
theorem lm_X2_40 : px_lkS "AllSworn$Oracle" 40 2 m_X2_willingOn := ⟨pw_619, pw_620, pw_67, pl_X2_willingOn⟩
theorem lm_X2_47 : px_lkS "AllSworn$Oracle" 47 1 m_J6_bitCount_0f7a4 := ⟨pw_624, pw_625, pw_80, pl_J6_bitCount_0f7a4⟩
theorem lm_X2_55 : px_lkV "AllSworn$Oracle" 55 3 5 m_X5_boundIf := ⟨(RX5, TX5, 10), rfl, pw_630, pw_527, pw_528, pw_66, pl_X5_boundIf⟩
theorem lm_X2_59 : px_lkV "AllSworn$Oracle" 59 1 5 m_X5_openTo := ⟨(RX5, TX5, 10), rfl, pw_631, pw_544, pw_545, pw_66, pl_X5_openTo⟩
theorem lm_X2_62 : px_lkV "AllSworn$Oracle" 62 1 5 m_X5_thingAt := ⟨(RX5, TX5, 10), rfl, pw_622, pw_464, pw_465, pw_66, pl_X5_thingAt⟩
theorem lm_X2_66_0 : px_lkU "AllSworn$Oracle" 66 1 0 m_X7_swearsOn "AllSworn$Thing" := ⟨(RX0, TX0, 3), ⟨"AllSworn$Thing", "swearsOn", "(I)Z"⟩, rfl, pw_623, pw_497, pw_498, pw_496, pw_73, ⟨by decide +kernel, by decide +kernel⟩, Or.inr ⟨pw_496, _, _, _, pw_505⟩, pl_X7_swearsOn⟩
theorem lm_X2_66_1 : px_lkU "AllSworn$Oracle" 66 1 1 m_X7_swearsOn "AllSworn$Thing" := ⟨(RX1, TX1, 3), ⟨"AllSworn$Thing", "swearsOn", "(I)Z"⟩, rfl, pw_623, pw_497, pw_499, pw_496, pw_73, ⟨by decide +kernel, by decide +kernel⟩, Or.inr ⟨pw_496, _, _, _, pw_505⟩, pl_X7_swearsOn⟩
theorem lm_X2_66_3 : px_lkU "AllSworn$Oracle" 66 1 3 m_X7_swearsOn "AllSworn$Thing" := ⟨(RX3, TX3, 3), ⟨"AllSworn$Thing", "swearsOn", "(I)Z"⟩, rfl, pw_623, pw_497, pw_500, pw_496, pw_73, ⟨by decide +kernel, by decide +kernel⟩, Or.inr ⟨pw_496, _, _, _, pw_505⟩, pl_X7_swearsOn⟩
theorem lm_X2_66_8 : px_lkU "AllSworn$Oracle" 66 1 8 m_X7_swearsOn "AllSworn$Thing" := ⟨(RX9, TX9, 3), ⟨"AllSworn$Thing", "swearsOn", "(I)Z"⟩, rfl, pw_623, pw_497, pw_501, pw_496, pw_73, ⟨by decide +kernel, by decide +kernel⟩, Or.inr ⟨pw_496, _, _, _, pw_505⟩, pl_X7_swearsOn⟩
theorem lm_X2_66_9 : px_lkU "AllSworn$Oracle" 66 1 9 m_X10_swearsOn "AllSworn$Thing" := ⟨(RX10, TX10, 3), ⟨"AllSworn$Thing", "swearsOn", "(I)Z"⟩, rfl, pw_623, pw_497, pw_502, pw_503, pw_76, ⟨by decide +kernel, by decide +kernel⟩, Or.inr ⟨pw_496, _, _, _, pw_505⟩, pl_X7_swearsOn⟩
theorem lm_X2_72 : px_lkV "AllSworn$Oracle" 72 1 5 m_X5_becomeLike := ⟨(RX5, TX5, 10), rfl, pw_645, pw_451, pw_452, pw_66, pl_X5_becomeLike⟩
theorem lm_X2_76 : px_lkV "AllSworn$Oracle" 76 3 2 m_X2_goOn := ⟨(RX2, TX2, 5), rfl, pw_646, pw_648, pw_13, pw_67, pl_X2_goOn⟩
theorem lm_X2_80 : px_lkV "AllSworn$Oracle" 80 2 2 m_X2_keepWay := ⟨(RX2, TX2, 5), rfl, pw_650, pw_652, pw_14, pw_67, pl_X2_keepWay⟩
theorem lm_X2_84 : px_lkV "AllSworn$Oracle" 84 1 5 m_X5_sendTo := ⟨(RX5, TX5, 10), rfl, pw_655, pw_483, pw_484, pw_66, pl_X5_sendTo⟩
theorem lm_X2_88 : px_lkV "AllSworn$Oracle" 88 0 5 m_X5_undoLatest := ⟨(RX5, TX5, 10), rfl, pw_656, pw_565, pw_566, pw_66, pl_X5_undoLatest⟩
theorem lm_X2_98 : px_lkV "AllSworn$Oracle" 98 3 2 m_X2_priceBehind := ⟨(RX2, TX2, 5), rfl, pw_684, pw_685, pw_686, pw_67, pl_X2_priceBehind⟩
theorem lm_X2_108 : px_lkV "AllSworn$Oracle" 108 1 5 m_X5_cheapestPriceOn := ⟨(RX5, TX5, 10), rfl, pw_689, pw_671, pw_672, pw_66, pl_X5_cheapestPriceOn⟩
theorem lm_X2_111 : px_lkV "AllSworn$Oracle" 111 1 5 m_X5_toldAs := ⟨(RX5, TX5, 10), rfl, pw_699, pw_700, pw_701, pw_66, pl_X5_toldAs⟩
theorem lm_X2_117 : px_lkV "AllSworn$Oracle" 117 1 6 m_X6_tellsHit := ⟨(RX6, TX6, 3), rfl, pw_744, pw_745, pw_746, pw_69, pl_X6_tellsHit⟩
theorem lm_X3_3 : px_lkI "AllSworn$Plain" 3 3 m_X7_init ∨ px_lkN "AllSworn$Plain" 3 3 m_X7_init := Or.inl ⟨pw_374, pw_375, pw_73, rfl, rfl, pl_X7_init⟩
theorem lm_X3_9 : px_lkX "AllSworn$Plain" 9 1 m_X7_isOf := ⟨pw_790, pw_779, pw_435, pw_778, pw_73, by decide +kernel, pl_X7_isOf⟩
theorem lm_X3_13 : px_lkV "AllSworn$Plain" 13 1 7 m_X8_leave := ⟨(RX8, TX8, 2), rfl, pw_827, pw_816, pw_817, pw_68, pl_X8_leave⟩
theorem lm_X3_19 : px_lkX "AllSworn$Plain" 19 2 m_X7_size := ⟨pw_828, pw_811, pw_435, pw_810, pw_73, by decide +kernel, pl_X7_size⟩
theorem lm_X3_23_1 : px_lkU "AllSworn$Plain" 23 2 1 m_X1_mark "AllSworn$Plain" := ⟨(RX1, TX1, 3), ⟨"AllSworn$Plain", "mark", "(LAllSworn$Trace;LAllSworn$Realm;)I"⟩, rfl, pw_829, pw_832, pw_833, pw_834, pw_75, ⟨by decide +kernel, by decide +kernel⟩, Or.inr ⟨pw_830, _, _, _, pw_842⟩, pl_X3_mark⟩
theorem lm_X3_23_3 : px_lkU "AllSworn$Plain" 23 2 3 m_X3_mark "AllSworn$Plain" := ⟨(RX3, TX3, 3), ⟨"AllSworn$Plain", "mark", "(LAllSworn$Trace;LAllSworn$Realm;)I"⟩, rfl, pw_829, pw_832, pw_831, pw_830, pw_74, ⟨by decide +kernel, by decide +kernel⟩, Or.inr ⟨pw_830, _, _, _, pw_842⟩, pl_X3_mark⟩
theorem lm_X3_23_9 : px_lkU "AllSworn$Plain" 23 2 9 m_X10_mark "AllSworn$Plain" := ⟨(RX10, TX10, 3), ⟨"AllSworn$Plain", "mark", "(LAllSworn$Trace;LAllSworn$Realm;)I"⟩, rfl, pw_829, pw_832, pw_837, pw_838, pw_76, ⟨by decide +kernel, by decide +kernel⟩, Or.inr ⟨pw_830, _, _, _, pw_842⟩, pl_X3_mark⟩
theorem lm_X3_28 : px_lkX "AllSworn$Plain" 28 2 m_X7_mark := ⟨pw_843, pw_1295, pw_435, pw_844, pw_73, by decide +kernel, pl_X7_mark⟩
theorem lm_X3_33 : px_lkV "AllSworn$Plain" 33 1 5 m_X5_harmsWith := ⟨(RX5, TX5, 10), rfl, pw_847, pw_848, pw_849, pw_66, pl_X5_harmsWith⟩
theorem lm_X4_28 : px_lkV "AllSworn$Reader" 28 1 4 m_X4_expect := ⟨(RX4, TX4, 5), rfl, pw_336, pw_338, pw_4, pw_65, pl_X4_expect⟩
theorem lm_X4_32 : px_lkV "AllSworn$Reader" 32 2 4 m_X4_readNumber := ⟨(RX4, TX4, 5), rfl, pw_348, pw_350, pw_7, pw_65, pl_X4_readNumber⟩
theorem lm_X4_36 : px_lkV "AllSworn$Reader" 36 1 5 m_X5_beginAnew := ⟨(RX5, TX5, 10), rfl, pw_352, pw_353, pw_354, pw_66, pl_X5_beginAnew⟩
theorem lm_X4_42 : px_lkV "AllSworn$Reader" 42 0 4 m_X4_next := ⟨(RX4, TX4, 5), rfl, pw_340, pw_342, pw_5, pw_65, pl_X4_next⟩
theorem lm_X4_46 : px_lkS "AllSworn$Reader" 46 1 m_X4_kindOf := ⟨pw_356, pw_357, pw_65, pl_X4_kindOf⟩
theorem lm_X4_53 : px_lkV "AllSworn$Reader" 53 2 4 m_X4_readThing := ⟨(RX4, TX4, 5), rfl, pw_359, pw_361, pw_8, pw_65, pl_X4_readThing⟩
theorem lm_X4_57 : px_lkV "AllSworn$Reader" 57 1 4 m_X4_readHarm := ⟨(RX4, TX4, 5), rfl, pw_441, pw_443, pw_9, pw_65, pl_X4_readHarm⟩
theorem lm_X4_61 : px_lkV "AllSworn$Reader" 61 2 4 m_X4_note := ⟨(RX4, TX4, 5), rfl, pw_344, pw_346, pw_6, pw_65, pl_X4_note⟩
theorem lm_X4_68 : px_lkS "AllSworn$Reader" 68 4 m_X4_made := ⟨pw_363, pw_364, pw_65, pl_X4_made⟩
theorem lm_X4_72 : px_lkV "AllSworn$Reader" 72 1 5 m_X5_addThing := ⟨(RX5, TX5, 10), rfl, pw_436, pw_437, pw_438, pw_66, pl_X5_addThing⟩
theorem lm_X4_76 : px_lkV "AllSworn$Reader" 76 1 5 m_X5_addHarm := ⟨(RX5, TX5, 10), rfl, pw_445, pw_446, pw_447, pw_66, pl_X5_addHarm⟩
theorem lm_X4_81 : px_lkI "AllSworn$Reader" 81 3 m_X1_init ∨ px_lkN "AllSworn$Reader" 81 3 m_X1_init := Or.inl ⟨pw_368, pw_369, pw_75, rfl, rfl, pl_X1_init⟩
theorem lm_X4_86 : px_lkI "AllSworn$Reader" 86 3 m_X10_init ∨ px_lkN "AllSworn$Reader" 86 3 m_X10_init := Or.inl ⟨pw_401, pw_402, pw_76, rfl, rfl, pl_X10_init⟩
theorem lm_X4_89 : px_lkI "AllSworn$Reader" 89 3 m_X0_init ∨ px_lkN "AllSworn$Reader" 89 3 m_X0_init := Or.inl ⟨pw_411, pw_412, pw_77, rfl, rfl, pl_X0_init⟩
theorem lm_X4_92 : px_lkI "AllSworn$Reader" 92 3 m_X9_init ∨ px_lkN "AllSworn$Reader" 92 3 m_X9_init := Or.inl ⟨pw_421, pw_422, pw_78, rfl, rfl, pl_X9_init⟩
theorem lm_X4_95 : px_lkI "AllSworn$Reader" 95 3 m_X3_init ∨ px_lkN "AllSworn$Reader" 95 3 m_X3_init := Or.inl ⟨pw_431, pw_372, pw_74, rfl, rfl, pl_X3_init⟩
theorem lm_X5_53 : px_lkV "AllSworn$Realm" 53 1 5 m_X5_hasHarm := ⟨(RX5, TX5, 10), rfl, pw_585, pw_515, pw_516, pw_66, pl_X5_hasHarm⟩
theorem lm_X5_60 : px_lkV "AllSworn$Realm" 60 1 5 m_X5_keepAct := ⟨(RX5, TX5, 10), rfl, pw_486, pw_488, pw_10, pw_66, pl_X5_keepAct⟩
theorem lm_X5_64_0 : px_lkU "AllSworn$Realm" 64 0 0 m_X0_daysToAsk "AllSworn$Thing" := ⟨(RX0, TX0, 3), ⟨"AllSworn$Thing", "daysToAsk", "()I"⟩, rfl, pw_494, pw_469, pw_470, pw_471, pw_77, ⟨by decide +kernel, by decide +kernel⟩, Or.inr ⟨pw_468, _, _, _, pw_480⟩, pl_X7_daysToAsk⟩
theorem lm_X5_64_1 : px_lkU "AllSworn$Realm" 64 0 1 m_X7_daysToAsk "AllSworn$Thing" := ⟨(RX1, TX1, 3), ⟨"AllSworn$Thing", "daysToAsk", "()I"⟩, rfl, pw_494, pw_469, pw_476, pw_468, pw_73, ⟨by decide +kernel, by decide +kernel⟩, Or.inr ⟨pw_468, _, _, _, pw_480⟩, pl_X7_daysToAsk⟩
theorem lm_X5_64_3 : px_lkU "AllSworn$Realm" 64 0 3 m_X7_daysToAsk "AllSworn$Thing" := ⟨(RX3, TX3, 3), ⟨"AllSworn$Thing", "daysToAsk", "()I"⟩, rfl, pw_494, pw_469, pw_477, pw_468, pw_73, ⟨by decide +kernel, by decide +kernel⟩, Or.inr ⟨pw_468, _, _, _, pw_480⟩, pl_X7_daysToAsk⟩
theorem lm_X5_64_8 : px_lkU "AllSworn$Realm" 64 0 8 m_X0_daysToAsk "AllSworn$Thing" := ⟨(RX9, TX9, 3), ⟨"AllSworn$Thing", "daysToAsk", "()I"⟩, rfl, pw_494, pw_469, pw_478, pw_471, pw_77, ⟨by decide +kernel, by decide +kernel⟩, Or.inr ⟨pw_468, _, _, _, pw_480⟩, pl_X7_daysToAsk⟩
theorem lm_X5_64_9 : px_lkU "AllSworn$Realm" 64 0 9 m_X7_daysToAsk "AllSworn$Thing" := ⟨(RX10, TX10, 3), ⟨"AllSworn$Thing", "daysToAsk", "()I"⟩, rfl, pw_494, pw_469, pw_479, pw_468, pw_73, ⟨by decide +kernel, by decide +kernel⟩, Or.inr ⟨pw_468, _, _, _, pw_480⟩, pl_X7_daysToAsk⟩
theorem lm_X5_68_0 : px_lkU "AllSworn$Realm" 68 1 0 m_X7_swearsOn "AllSworn$Thing" := ⟨(RX0, TX0, 3), ⟨"AllSworn$Thing", "swearsOn", "(I)Z"⟩, rfl, pw_495, pw_497, pw_498, pw_496, pw_73, ⟨by decide +kernel, by decide +kernel⟩, Or.inr ⟨pw_496, _, _, _, pw_505⟩, pl_X7_swearsOn⟩
theorem lm_X5_68_1 : px_lkU "AllSworn$Realm" 68 1 1 m_X7_swearsOn "AllSworn$Thing" := ⟨(RX1, TX1, 3), ⟨"AllSworn$Thing", "swearsOn", "(I)Z"⟩, rfl, pw_495, pw_497, pw_499, pw_496, pw_73, ⟨by decide +kernel, by decide +kernel⟩, Or.inr ⟨pw_496, _, _, _, pw_505⟩, pl_X7_swearsOn⟩
theorem lm_X5_68_3 : px_lkU "AllSworn$Realm" 68 1 3 m_X7_swearsOn "AllSworn$Thing" := ⟨(RX3, TX3, 3), ⟨"AllSworn$Thing", "swearsOn", "(I)Z"⟩, rfl, pw_495, pw_497, pw_500, pw_496, pw_73, ⟨by decide +kernel, by decide +kernel⟩, Or.inr ⟨pw_496, _, _, _, pw_505⟩, pl_X7_swearsOn⟩
theorem lm_X5_68_8 : px_lkU "AllSworn$Realm" 68 1 8 m_X7_swearsOn "AllSworn$Thing" := ⟨(RX9, TX9, 3), ⟨"AllSworn$Thing", "swearsOn", "(I)Z"⟩, rfl, pw_495, pw_497, pw_501, pw_496, pw_73, ⟨by decide +kernel, by decide +kernel⟩, Or.inr ⟨pw_496, _, _, _, pw_505⟩, pl_X7_swearsOn⟩
theorem lm_X5_68_9 : px_lkU "AllSworn$Realm" 68 1 9 m_X10_swearsOn "AllSworn$Thing" := ⟨(RX10, TX10, 3), ⟨"AllSworn$Thing", "swearsOn", "(I)Z"⟩, rfl, pw_495, pw_497, pw_502, pw_503, pw_76, ⟨by decide +kernel, by decide +kernel⟩, Or.inr ⟨pw_496, _, _, _, pw_505⟩, pl_X7_swearsOn⟩
theorem lm_X5_71 : px_lkV "AllSworn$Realm" 71 2 5 m_X5_swear := ⟨(RX5, TX5, 10), rfl, pw_506, pw_508, pw_11, pw_66, pl_X5_swear⟩
theorem lm_X5_75 : px_lkV "AllSworn$Realm" 75 1 5 m_X5_openOn := ⟨(RX5, TX5, 10), rfl, pw_522, pw_523, pw_524, pw_66, pl_X5_openOn⟩
theorem lm_X5_79 : px_lkV "AllSworn$Realm" 79 1 5 m_X5_oathOf := ⟨(RX5, TX5, 10), rfl, pw_490, pw_491, pw_492, pw_66, pl_X5_oathOf⟩
theorem lm_X5_82 : px_lkV "AllSworn$Realm" 82 3 5 m_X5_boundIf := ⟨(RX5, TX5, 10), rfl, pw_526, pw_527, pw_528, pw_66, pl_X5_boundIf⟩
theorem lm_X5_86_0 : px_lkU "AllSworn$Realm" 86 1 0 m_X7_isHeldBy "AllSworn$Thing" := ⟨(RX0, TX0, 3), ⟨"AllSworn$Thing", "isHeldBy", "(I)Z"⟩, rfl, pw_530, pw_532, pw_533, pw_531, pw_73, ⟨by decide +kernel, by decide +kernel⟩, Or.inr ⟨pw_531, _, _, _, pw_542⟩, pl_X7_isHeldBy⟩
theorem lm_X5_86_1 : px_lkU "AllSworn$Realm" 86 1 1 m_X1_isHeldBy "AllSworn$Thing" := ⟨(RX1, TX1, 3), ⟨"AllSworn$Thing", "isHeldBy", "(I)Z"⟩, rfl, pw_530, pw_532, pw_534, pw_535, pw_75, ⟨by decide +kernel, by decide +kernel⟩, Or.inr ⟨pw_531, _, _, _, pw_542⟩, pl_X7_isHeldBy⟩
theorem lm_X5_86_3 : px_lkU "AllSworn$Realm" 86 1 3 m_X7_isHeldBy "AllSworn$Thing" := ⟨(RX3, TX3, 3), ⟨"AllSworn$Thing", "isHeldBy", "(I)Z"⟩, rfl, pw_530, pw_532, pw_537, pw_531, pw_73, ⟨by decide +kernel, by decide +kernel⟩, Or.inr ⟨pw_531, _, _, _, pw_542⟩, pl_X7_isHeldBy⟩
theorem lm_X5_86_8 : px_lkU "AllSworn$Realm" 86 1 8 m_X9_isHeldBy "AllSworn$Thing" := ⟨(RX9, TX9, 3), ⟨"AllSworn$Thing", "isHeldBy", "(I)Z"⟩, rfl, pw_530, pw_532, pw_538, pw_539, pw_78, ⟨by decide +kernel, by decide +kernel⟩, Or.inr ⟨pw_531, _, _, _, pw_542⟩, pl_X7_isHeldBy⟩
theorem lm_X5_86_9 : px_lkU "AllSworn$Realm" 86 1 9 m_X7_isHeldBy "AllSworn$Thing" := ⟨(RX10, TX10, 3), ⟨"AllSworn$Thing", "isHeldBy", "(I)Z"⟩, rfl, pw_530, pw_532, pw_541, pw_531, pw_73, ⟨by decide +kernel, by decide +kernel⟩, Or.inr ⟨pw_531, _, _, _, pw_542⟩, pl_X7_isHeldBy⟩
theorem lm_X5_89 : px_lkV "AllSworn$Realm" 89 1 5 m_X5_openTo := ⟨(RX5, TX5, 10), rfl, pw_543, pw_544, pw_545, pw_66, pl_X5_openTo⟩
theorem lm_X5_95 : px_lkV "AllSworn$Realm" 95 1 5 m_X5_priceOf := ⟨(RX5, TX5, 10), rfl, pw_669, pw_587, pw_588, pw_66, pl_X5_priceOf⟩
theorem lm_X5_98 : px_lkV "AllSworn$Realm" 98 1 5 m_X5_cheapestOn := ⟨(RX5, TX5, 10), rfl, pw_674, pw_666, pw_667, pw_66, pl_X5_cheapestOn⟩
theorem lm_X5_101 : px_lkV "AllSworn$Realm" 101 1 5 m_X5_harmAt := ⟨(RX5, TX5, 10), rfl, pw_675, pw_582, pw_583, pw_66, pl_X5_harmAt⟩
theorem lm_X5_104_0 : px_lkU "AllSworn$Realm" 104 0 0 m_X0_toldKind "AllSworn$Thing" := ⟨(RX0, TX0, 3), ⟨"AllSworn$Thing", "toldKind", "()I"⟩, rfl, pw_703, pw_705, pw_706, pw_707, pw_77, ⟨by decide +kernel, by decide +kernel⟩, Or.inl pw_704, pl_abs_toldKind⟩
theorem lm_X5_104_1 : px_lkU "AllSworn$Realm" 104 0 1 m_X1_toldKind "AllSworn$Thing" := ⟨(RX1, TX1, 3), ⟨"AllSworn$Thing", "toldKind", "()I"⟩, rfl, pw_703, pw_705, pw_709, pw_710, pw_75, ⟨by decide +kernel, by decide +kernel⟩, Or.inl pw_704, pl_abs_toldKind⟩
theorem lm_X5_104_3 : px_lkU "AllSworn$Realm" 104 0 3 m_X3_toldKind "AllSworn$Thing" := ⟨(RX3, TX3, 3), ⟨"AllSworn$Thing", "toldKind", "()I"⟩, rfl, pw_703, pw_705, pw_712, pw_713, pw_74, ⟨by decide +kernel, by decide +kernel⟩, Or.inl pw_704, pl_abs_toldKind⟩
theorem lm_X5_104_8 : px_lkU "AllSworn$Realm" 104 0 8 m_X9_toldKind "AllSworn$Thing" := ⟨(RX9, TX9, 3), ⟨"AllSworn$Thing", "toldKind", "()I"⟩, rfl, pw_703, pw_705, pw_715, pw_716, pw_78, ⟨by decide +kernel, by decide +kernel⟩, Or.inl pw_704, pl_abs_toldKind⟩
theorem lm_X5_104_9 : px_lkU "AllSworn$Realm" 104 0 9 m_X10_toldKind "AllSworn$Thing" := ⟨(RX10, TX10, 3), ⟨"AllSworn$Thing", "toldKind", "()I"⟩, rfl, pw_703, pw_705, pw_718, pw_719, pw_76, ⟨by decide +kernel, by decide +kernel⟩, Or.inl pw_704, pl_abs_toldKind⟩
theorem lm_X6_22 : px_lkS "AllSworn$Row" 22 2 m_J7_fill_53178 := ⟨pw_272, pw_273, pw_71, pl_J7_fill_53178⟩
theorem lm_X6_28 : px_lkV "AllSworn$Row" 28 2 6 m_X6_spans := ⟨(RX6, TX6, 3), rfl, pw_295, pw_288, pw_289, pw_69, pl_X6_spans⟩
theorem lm_X6_32 : px_lkV "AllSworn$Row" 32 1 6 m_X6_narrowed := ⟨(RX6, TX6, 3), rfl, pw_296, pw_298, pw_3, pw_69, pl_X6_narrowed⟩
theorem lm_X7_27 : px_lkV "AllSworn$Thing" 27 1 7 m_X8_leave := ⟨(RX8, TX8, 2), rfl, pw_846, pw_816, pw_817, pw_68, pl_X8_leave⟩
theorem lm_X9_3 : px_lkI "AllSworn$Untrue" 3 3 m_X0_init ∨ px_lkN "AllSworn$Untrue" 3 3 m_X0_init := Or.inl ⟨pw_424, pw_412, pw_77, rfl, rfl, pl_X0_init⟩
theorem lm_X9_9 : px_lkX "AllSworn$Untrue" 9 1 m_X0_isOf := ⟨pw_795, pw_1293, pw_428, pw_781, pw_77, by decide +kernel, pl_X0_isOf⟩
theorem lm_X9_13 : px_lkV "AllSworn$Untrue" 13 1 7 m_X8_leave := ⟨(RX8, TX8, 2), rfl, pw_855, pw_816, pw_817, pw_68, pl_X8_leave⟩
theorem lm_X9_19 : px_lkX "AllSworn$Untrue" 19 2 m_X0_size := ⟨pw_856, pw_1296, pw_428, pw_813, pw_77, by decide +kernel, pl_X0_size⟩
theorem lm_X10_3 : px_lkI "AllSworn$Young" 3 3 m_X3_init ∨ px_lkN "AllSworn$Young" 3 3 m_X3_init := Or.inl ⟨pw_404, pw_372, pw_74, rfl, rfl, pl_X3_init⟩
theorem lm_X10_9 : px_lkX "AllSworn$Young" 9 1 m_X3_isOf := ⟨pw_799, pw_1292, pw_408, pw_788, pw_74, by decide +kernel, pl_X3_isOf⟩
theorem lm_X10_13 : px_lkV "AllSworn$Young" 13 1 7 m_X8_leave := ⟨(RX8, TX8, 2), rfl, pw_840, pw_816, pw_817, pw_68, pl_X8_leave⟩
theorem lm_X10_19 : px_lkX "AllSworn$Young" 19 2 m_X3_mark := ⟨pw_841, pw_832, pw_408, pw_830, pw_74, by decide +kernel, pl_X3_mark⟩
theorem lm_X11_17 : px_lkI "AllSworn" 17 0 m_X4_init ∨ px_lkN "AllSworn" 17 0 m_X4_init := Or.inr ⟨⟨_, pw_93⟩, pw_94, pw_65, rfl, rfl, pl_X4_init⟩
theorem lm_X11_24 : px_lkI "AllSworn" 24 0 m_X5_init ∨ px_lkN "AllSworn" 24 0 m_X5_init := Or.inr ⟨⟨_, pw_119⟩, pw_120, pw_66, rfl, rfl, pl_X5_init⟩
theorem lm_X11_38 : px_lkI "AllSworn" 38 0 m_X2_init ∨ px_lkN "AllSworn" 38 0 m_X2_init := Or.inr ⟨⟨_, pw_171⟩, pw_172, pw_67, rfl, rfl, pl_X2_init⟩
theorem lm_X11_45 : px_lkI "AllSworn" 45 0 m_X8_init ∨ px_lkN "AllSworn" 45 0 m_X8_init := Or.inr ⟨⟨_, pw_198⟩, pw_199, pw_68, rfl, rfl, pl_X8_init⟩
theorem lm_X11_57 : px_lkI "AllSworn" 57 0 m_X6_init ∨ px_lkN "AllSworn" 57 0 m_X6_init := Or.inr ⟨⟨_, pw_210⟩, pw_211, pw_69, rfl, rfl, pl_X6_init⟩
theorem lm_X11_58 : px_lkV "AllSworn" 58 1 10 m_X11_rowAt := ⟨(RX11, TX11, 9), rfl, pw_258, pw_260, pw_0, pw_64, pl_X11_rowAt⟩
theorem lm_X11_63 : px_lkV "AllSworn" 63 1 10 m_X11_found := ⟨(RX11, TX11, 9), rfl, pw_263, pw_265, pw_1, pw_64, pl_X11_found⟩
theorem lm_X11_67 : px_lkV "AllSworn" 67 2 6 m_X6_lay := ⟨(RX6, TX6, 3), rfl, pw_268, pw_269, pw_270, pw_69, pl_X6_lay⟩
theorem lm_X11_71 : px_lkV "AllSworn" 71 1 10 m_X11_clean := ⟨(RX11, TX11, 9), rfl, pw_275, pw_277, pw_2, pw_64, pl_X11_clean⟩
theorem lm_X11_74 : px_lkV "AllSworn" 74 0 6 m_X6_isMissing := ⟨(RX6, TX6, 3), rfl, pw_283, pw_284, pw_285, pw_69, pl_X6_isMissing⟩
theorem lm_X11_78 : px_lkV "AllSworn" 78 2 6 m_X6_spans := ⟨(RX6, TX6, 3), rfl, pw_287, pw_288, pw_289, pw_69, pl_X6_spans⟩
theorem lm_X11_82 : px_lkV "AllSworn" 82 2 6 m_X6_put := ⟨(RX6, TX6, 3), rfl, pw_291, pw_292, pw_293, pw_69, pl_X6_put⟩
theorem lm_X11_89 : px_lkV "AllSworn" 89 4 6 m_X6_takeFrom := ⟨(RX6, TX6, 3), rfl, pw_304, pw_305, pw_306, pw_69, pl_X6_takeFrom⟩
theorem lm_X11_96 : px_lkV "AllSworn" 96 0 6 m_X6_vanish := ⟨(RX6, TX6, 3), rfl, pw_315, pw_316, pw_317, pw_69, pl_X6_vanish⟩
theorem lm_X11_99 : px_lkV "AllSworn" 99 1 4 m_X4_take := ⟨(RX4, TX4, 5), rfl, pw_323, pw_324, pw_325, pw_65, pl_X4_take⟩
theorem lm_X11_107 : px_lkV "AllSworn" 107 1 4 m_X4_readTo := ⟨(RX4, TX4, 5), rfl, pw_332, pw_333, pw_334, pw_65, pl_X4_readTo⟩
theorem lm_X11_118 : px_lkV "AllSworn" 118 1 5 m_X5_becomeLike := ⟨(RX5, TX5, 10), rfl, pw_450, pw_451, pw_452, pw_66, pl_X5_becomeLike⟩
theorem lm_X11_125 : px_lkV "AllSworn" 125 1 5 m_X5_thingAt := ⟨(RX5, TX5, 10), rfl, pw_463, pw_464, pw_465, pw_66, pl_X5_thingAt⟩
theorem lm_X11_132_0 : px_lkU "AllSworn" 132 0 0 m_X0_daysToAsk "AllSworn$Thing" := ⟨(RX0, TX0, 3), ⟨"AllSworn$Thing", "daysToAsk", "()I"⟩, rfl, pw_467, pw_469, pw_470, pw_471, pw_77, ⟨by decide +kernel, by decide +kernel⟩, Or.inr ⟨pw_468, _, _, _, pw_480⟩, pl_X7_daysToAsk⟩
theorem lm_X11_132_1 : px_lkU "AllSworn" 132 0 1 m_X7_daysToAsk "AllSworn$Thing" := ⟨(RX1, TX1, 3), ⟨"AllSworn$Thing", "daysToAsk", "()I"⟩, rfl, pw_467, pw_469, pw_476, pw_468, pw_73, ⟨by decide +kernel, by decide +kernel⟩, Or.inr ⟨pw_468, _, _, _, pw_480⟩, pl_X7_daysToAsk⟩
theorem lm_X11_132_3 : px_lkU "AllSworn" 132 0 3 m_X7_daysToAsk "AllSworn$Thing" := ⟨(RX3, TX3, 3), ⟨"AllSworn$Thing", "daysToAsk", "()I"⟩, rfl, pw_467, pw_469, pw_477, pw_468, pw_73, ⟨by decide +kernel, by decide +kernel⟩, Or.inr ⟨pw_468, _, _, _, pw_480⟩, pl_X7_daysToAsk⟩
theorem lm_X11_132_8 : px_lkU "AllSworn" 132 0 8 m_X0_daysToAsk "AllSworn$Thing" := ⟨(RX9, TX9, 3), ⟨"AllSworn$Thing", "daysToAsk", "()I"⟩, rfl, pw_467, pw_469, pw_478, pw_471, pw_77, ⟨by decide +kernel, by decide +kernel⟩, Or.inr ⟨pw_468, _, _, _, pw_480⟩, pl_X7_daysToAsk⟩
theorem lm_X11_132_9 : px_lkU "AllSworn" 132 0 9 m_X7_daysToAsk "AllSworn$Thing" := ⟨(RX10, TX10, 3), ⟨"AllSworn$Thing", "daysToAsk", "()I"⟩, rfl, pw_467, pw_469, pw_479, pw_468, pw_73, ⟨by decide +kernel, by decide +kernel⟩, Or.inr ⟨pw_468, _, _, _, pw_480⟩, pl_X7_daysToAsk⟩
theorem lm_X11_138 : px_lkV "AllSworn" 138 1 5 m_X5_sendTo := ⟨(RX5, TX5, 10), rfl, pw_482, pw_483, pw_484, pw_66, pl_X5_sendTo⟩
theorem lm_X11_142 : px_lkV "AllSworn" 142 1 5 m_X5_hasHarm := ⟨(RX5, TX5, 10), rfl, pw_514, pw_515, pw_516, pw_66, pl_X5_hasHarm⟩
theorem lm_X11_145 : px_lkV "AllSworn" 145 1 5 m_X5_tryHarm := ⟨(RX5, TX5, 10), rfl, pw_518, pw_519, pw_520, pw_66, pl_X5_tryHarm⟩
theorem lm_X11_148 : px_lkV "AllSworn" 148 0 5 m_X5_isTold := ⟨(RX5, TX5, 10), rfl, pw_551, pw_552, pw_553, pw_66, pl_X5_isTold⟩
theorem lm_X11_152 : px_lkV "AllSworn" 152 1 5 m_X5_letPass := ⟨(RX5, TX5, 10), rfl, pw_556, pw_557, pw_558, pw_66, pl_X5_letPass⟩
theorem lm_X11_156 : px_lkV "AllSworn" 156 0 5 m_X5_undoLatest := ⟨(RX5, TX5, 10), rfl, pw_564, pw_565, pw_566, pw_66, pl_X5_undoLatest⟩
theorem lm_X11_168 : px_lkV "AllSworn" 168 1 5 m_X5_oathOf := ⟨(RX5, TX5, 10), rfl, pw_572, pw_491, pw_492, pw_66, pl_X5_oathOf⟩
theorem lm_X11_171 : px_lkV "AllSworn" 171 1 5 m_X5_boundOn := ⟨(RX5, TX5, 10), rfl, pw_573, pw_574, pw_575, pw_66, pl_X5_boundOn⟩
theorem lm_X11_177 : px_lkV "AllSworn" 177 1 5 m_X5_harmAt := ⟨(RX5, TX5, 10), rfl, pw_581, pw_582, pw_583, pw_66, pl_X5_harmAt⟩
theorem lm_X11_180 : px_lkV "AllSworn" 180 1 5 m_X5_priceOf := ⟨(RX5, TX5, 10), rfl, pw_586, pw_587, pw_588, pw_66, pl_X5_priceOf⟩
theorem lm_X11_183 : px_lkV "AllSworn" 183 1 10 m_X11_isAhead := ⟨(RX11, TX11, 9), rfl, pw_594, pw_596, pw_12, pw_64, pl_X11_isAhead⟩
theorem lm_X11_186 : px_lkV "AllSworn" 186 1 5 m_X5_openOn := ⟨(RX5, TX5, 10), rfl, pw_598, pw_523, pw_524, pw_66, pl_X5_openOn⟩
theorem lm_X11_189 : px_lkV "AllSworn" 189 1 2 m_X2_firstGap := ⟨(RX2, TX2, 5), rfl, pw_603, pw_604, pw_605, pw_67, pl_X2_firstGap⟩
theorem lm_X11_193 : px_lkS "AllSworn" 193 1 m_X11_isPair := ⟨pw_612, pw_613, pw_64, pl_X11_isPair⟩
theorem lm_X11_196 : px_lkV "AllSworn" 196 1 2 m_X2_leastCover := ⟨(RX2, TX2, 5), rfl, pw_615, pw_616, pw_617, pw_67, pl_X2_leastCover⟩
theorem lm_X11_199 : px_lkS "AllSworn" 199 2 m_X11_sizeOrSet := ⟨pw_632, pw_633, pw_64, pl_X11_sizeOrSet⟩
theorem lm_X11_202 : px_lkV "AllSworn" 202 1 2 m_X2_seekRound := ⟨(RX2, TX2, 5), rfl, pw_641, pw_642, pw_643, pw_67, pl_X2_seekRound⟩
theorem lm_X11_211 : px_lkV "AllSworn" 211 1 2 m_X2_bestStop := ⟨(RX2, TX2, 5), rfl, pw_657, pw_658, pw_659, pw_67, pl_X2_bestStop⟩
theorem lm_X11_214 : px_lkV "AllSworn" 214 1 5 m_X5_cheapestOn := ⟨(RX5, TX5, 10), rfl, pw_665, pw_666, pw_667, pw_66, pl_X5_cheapestOn⟩
theorem lm_X11_217 : px_lkV "AllSworn" 217 1 5 m_X5_cheapestPriceOn := ⟨(RX5, TX5, 10), rfl, pw_670, pw_671, pw_672, pw_66, pl_X5_cheapestPriceOn⟩
theorem lm_X11_220 : px_lkV "AllSworn" 220 2 2 m_X2_bestDefence := ⟨(RX2, TX2, 5), rfl, pw_680, pw_681, pw_682, pw_67, pl_X2_bestDefence⟩
theorem lm_X11_224 : px_lkV "AllSworn" 224 3 2 m_X2_priceBehind := ⟨(RX2, TX2, 5), rfl, pw_690, pw_685, pw_686, pw_67, pl_X2_priceBehind⟩
theorem lm_X11_228 : px_lkV "AllSworn" 228 1 2 m_X2_leastKinds := ⟨(RX2, TX2, 5), rfl, pw_695, pw_696, pw_697, pw_67, pl_X2_leastKinds⟩
theorem lm_X11_231 : px_lkS "AllSworn" 231 1 m_J6_bitCount_0f7a4 := ⟨pw_636, pw_625, pw_80, pl_J6_bitCount_0f7a4⟩
theorem lm_X11_236 : px_lkS "AllSworn" 236 2 m_X11_power := ⟨pw_725, pw_726, pw_64, pl_X11_power⟩
theorem lm_X11_239 : px_lkS "AllSworn" 239 2 m_X11_sharedDivisor := ⟨pw_728, pw_729, pw_64, pl_X11_sharedDivisor⟩
theorem lm_X11_247 : px_lkV "AllSworn" 247 2 6 m_X6_tellsYesOrNo := ⟨(RX6, TX6, 3), rfl, pw_736, pw_737, pw_738, pw_69, pl_X6_tellsYesOrNo⟩
theorem lm_X11_250 : px_lkV "AllSworn" 250 4 2 m_X2_suspects := ⟨(RX2, TX2, 5), rfl, pw_740, pw_741, pw_742, pw_67, pl_X2_suspects⟩
theorem lm_X11_254 : px_lkV "AllSworn" 254 1 2 m_X2_leastTerm := ⟨(RX2, TX2, 5), rfl, pw_752, pw_753, pw_754, pw_67, pl_X2_leastTerm⟩
theorem lm_X11_257 : px_lkV "AllSworn" 257 1 10 m_X11_imageAt := ⟨(RX11, TX11, 9), rfl, pw_760, pw_762, pw_15, pw_64, pl_X11_imageAt⟩
theorem lm_X11_261_0 : px_lkU "AllSworn" 261 0 0 m_X0_toldKind "AllSworn$Thing" := ⟨(RX0, TX0, 3), ⟨"AllSworn$Thing", "toldKind", "()I"⟩, rfl, pw_772, pw_705, pw_706, pw_707, pw_77, ⟨by decide +kernel, by decide +kernel⟩, Or.inl pw_704, pl_abs_toldKind⟩
theorem lm_X11_261_1 : px_lkU "AllSworn" 261 0 1 m_X1_toldKind "AllSworn$Thing" := ⟨(RX1, TX1, 3), ⟨"AllSworn$Thing", "toldKind", "()I"⟩, rfl, pw_772, pw_705, pw_709, pw_710, pw_75, ⟨by decide +kernel, by decide +kernel⟩, Or.inl pw_704, pl_abs_toldKind⟩
theorem lm_X11_261_3 : px_lkU "AllSworn" 261 0 3 m_X3_toldKind "AllSworn$Thing" := ⟨(RX3, TX3, 3), ⟨"AllSworn$Thing", "toldKind", "()I"⟩, rfl, pw_772, pw_705, pw_712, pw_713, pw_74, ⟨by decide +kernel, by decide +kernel⟩, Or.inl pw_704, pl_abs_toldKind⟩
theorem lm_X11_261_8 : px_lkU "AllSworn" 261 0 8 m_X9_toldKind "AllSworn$Thing" := ⟨(RX9, TX9, 3), ⟨"AllSworn$Thing", "toldKind", "()I"⟩, rfl, pw_772, pw_705, pw_715, pw_716, pw_78, ⟨by decide +kernel, by decide +kernel⟩, Or.inl pw_704, pl_abs_toldKind⟩
theorem lm_X11_261_9 : px_lkU "AllSworn" 261 0 9 m_X10_toldKind "AllSworn$Thing" := ⟨(RX10, TX10, 3), ⟨"AllSworn$Thing", "toldKind", "()I"⟩, rfl, pw_772, pw_705, pw_718, pw_719, pw_76, ⟨by decide +kernel, by decide +kernel⟩, Or.inl pw_704, pl_abs_toldKind⟩
theorem lm_X11_264_0 : px_lkU "AllSworn" 264 1 0 m_X0_isOf "AllSworn$Thing" := ⟨(RX0, TX0, 3), ⟨"AllSworn$Thing", "isOf", "(I)Z"⟩, rfl, pw_777, pw_779, pw_780, pw_781, pw_77, ⟨by decide +kernel, by decide +kernel⟩, Or.inr ⟨pw_778, _, _, _, pw_800⟩, pl_X7_isOf⟩
theorem lm_X11_264_1 : px_lkU "AllSworn" 264 1 1 m_X1_isOf "AllSworn$Thing" := ⟨(RX1, TX1, 3), ⟨"AllSworn$Thing", "isOf", "(I)Z"⟩, rfl, pw_777, pw_779, pw_784, pw_785, pw_75, ⟨by decide +kernel, by decide +kernel⟩, Or.inr ⟨pw_778, _, _, _, pw_800⟩, pl_X7_isOf⟩
theorem lm_X11_264_3 : px_lkU "AllSworn" 264 1 3 m_X3_isOf "AllSworn$Thing" := ⟨(RX3, TX3, 3), ⟨"AllSworn$Thing", "isOf", "(I)Z"⟩, rfl, pw_777, pw_779, pw_791, pw_788, pw_74, ⟨by decide +kernel, by decide +kernel⟩, Or.inr ⟨pw_778, _, _, _, pw_800⟩, pl_X7_isOf⟩
theorem lm_X11_264_8 : px_lkU "AllSworn" 264 1 8 m_X9_isOf "AllSworn$Thing" := ⟨(RX9, TX9, 3), ⟨"AllSworn$Thing", "isOf", "(I)Z"⟩, rfl, pw_777, pw_779, pw_792, pw_793, pw_78, ⟨by decide +kernel, by decide +kernel⟩, Or.inr ⟨pw_778, _, _, _, pw_800⟩, pl_X7_isOf⟩
theorem lm_X11_264_9 : px_lkU "AllSworn" 264 1 9 m_X10_isOf "AllSworn$Thing" := ⟨(RX10, TX10, 3), ⟨"AllSworn$Thing", "isOf", "(I)Z"⟩, rfl, pw_777, pw_779, pw_796, pw_797, pw_76, ⟨by decide +kernel, by decide +kernel⟩, Or.inr ⟨pw_778, _, _, _, pw_800⟩, pl_X7_isOf⟩
theorem lm_X11_267 : px_lkV "AllSworn" 267 0 7 m_X8_clear := ⟨(RX8, TX8, 2), rfl, pw_805, pw_806, pw_807, pw_68, pl_X8_clear⟩
theorem lm_X11_270_0 : px_lkU "AllSworn" 270 2 0 m_X0_size "AllSworn$Thing" := ⟨(RX0, TX0, 3), ⟨"AllSworn$Thing", "size", "(LAllSworn$Trace;LAllSworn$Realm;)I"⟩, rfl, pw_809, pw_811, pw_812, pw_813, pw_77, ⟨by decide +kernel, by decide +kernel⟩, Or.inr ⟨pw_810, _, _, _, pw_858⟩, pl_X7_size⟩
theorem lm_X11_270_1 : px_lkU "AllSworn" 270 2 1 m_X1_size "AllSworn$Thing" := ⟨(RX1, TX1, 3), ⟨"AllSworn$Thing", "size", "(LAllSworn$Trace;LAllSworn$Realm;)I"⟩, rfl, pw_809, pw_811, pw_820, pw_821, pw_75, ⟨by decide +kernel, by decide +kernel⟩, Or.inr ⟨pw_810, _, _, _, pw_858⟩, pl_X7_size⟩
theorem lm_X11_270_3 : px_lkU "AllSworn" 270 2 3 m_X3_size "AllSworn$Thing" := ⟨(RX3, TX3, 3), ⟨"AllSworn$Thing", "size", "(LAllSworn$Trace;LAllSworn$Realm;)I"⟩, rfl, pw_809, pw_811, pw_851, pw_825, pw_74, ⟨by decide +kernel, by decide +kernel⟩, Or.inr ⟨pw_810, _, _, _, pw_858⟩, pl_X7_size⟩
theorem lm_X11_270_8 : px_lkU "AllSworn" 270 2 8 m_X9_size "AllSworn$Thing" := ⟨(RX9, TX9, 3), ⟨"AllSworn$Thing", "size", "(LAllSworn$Trace;LAllSworn$Realm;)I"⟩, rfl, pw_809, pw_811, pw_852, pw_853, pw_78, ⟨by decide +kernel, by decide +kernel⟩, Or.inr ⟨pw_810, _, _, _, pw_858⟩, pl_X7_size⟩
theorem lm_X11_270_9 : px_lkU "AllSworn" 270 2 9 m_X3_size "AllSworn$Thing" := ⟨(RX10, TX10, 3), ⟨"AllSworn$Thing", "size", "(LAllSworn$Trace;LAllSworn$Realm;)I"⟩, rfl, pw_809, pw_811, pw_857, pw_825, pw_74, ⟨by decide +kernel, by decide +kernel⟩, Or.inr ⟨pw_810, _, _, _, pw_858⟩, pl_X7_size⟩
theorem lm_X11_273_0 : px_lkU "AllSworn" 273 2 0 m_X0_mark "AllSworn$Thing" := ⟨(RX0, TX0, 3), ⟨"AllSworn$Thing", "mark", "(LAllSworn$Trace;LAllSworn$Realm;)I"⟩, rfl, pw_859, pw_1295, pw_1297, pw_860, pw_77, ⟨by decide +kernel, by decide +kernel⟩, Or.inr ⟨pw_844, _, _, _, pw_845⟩, pl_X7_mark⟩
theorem lm_X11_273_1 : px_lkU "AllSworn" 273 2 1 m_X1_mark "AllSworn$Thing" := ⟨(RX1, TX1, 3), ⟨"AllSworn$Thing", "mark", "(LAllSworn$Trace;LAllSworn$Realm;)I"⟩, rfl, pw_859, pw_1295, pw_1300, pw_834, pw_75, ⟨by decide +kernel, by decide +kernel⟩, Or.inr ⟨pw_844, _, _, _, pw_845⟩, pl_X7_mark⟩
theorem lm_X11_273_3 : px_lkU "AllSworn" 273 2 3 m_X3_mark "AllSworn$Thing" := ⟨(RX3, TX3, 3), ⟨"AllSworn$Thing", "mark", "(LAllSworn$Trace;LAllSworn$Realm;)I"⟩, rfl, pw_859, pw_1295, pw_1301, pw_830, pw_74, ⟨by decide +kernel, by decide +kernel⟩, Or.inr ⟨pw_844, _, _, _, pw_845⟩, pl_X7_mark⟩
theorem lm_X11_273_8 : px_lkU "AllSworn" 273 2 8 m_X0_mark "AllSworn$Thing" := ⟨(RX9, TX9, 3), ⟨"AllSworn$Thing", "mark", "(LAllSworn$Trace;LAllSworn$Realm;)I"⟩, rfl, pw_859, pw_1295, pw_1302, pw_860, pw_77, ⟨by decide +kernel, by decide +kernel⟩, Or.inr ⟨pw_844, _, _, _, pw_845⟩, pl_X7_mark⟩
theorem lm_X11_273_9 : px_lkU "AllSworn" 273 2 9 m_X10_mark "AllSworn$Thing" := ⟨(RX10, TX10, 3), ⟨"AllSworn$Thing", "mark", "(LAllSworn$Trace;LAllSworn$Realm;)I"⟩, rfl, pw_859, pw_1295, pw_1303, pw_838, pw_76, ⟨by decide +kernel, by decide +kernel⟩, Or.inr ⟨pw_844, _, _, _, pw_845⟩, pl_X7_mark⟩
theorem lm_X11_276 : px_lkV "AllSworn" 276 1 7 m_X8_numberAt := ⟨(RX8, TX8, 2), rfl, pw_868, pw_869, pw_870, pw_68, pl_X8_numberAt⟩
theorem lm_X11_279 : px_lkV "AllSworn" 279 0 10 m_X11_rowsThere := ⟨(RX11, TX11, 9), rfl, pw_877, pw_879, pw_16, pw_64, pl_X11_rowsThere⟩
theorem lm_X12_50 : px_lkS "AllSwornModel" 50 3 m_X12_in := ⟨pw_970, pw_971, pw_70, pl_X12_in⟩
theorem lm_X12_54 : px_lkS "AllSwornModel" 54 1 m_X12_isRow := ⟨pw_967, pw_968, pw_70, pl_X12_isRow⟩
theorem lm_X12_59 : px_lkV "AllSwornModel" 59 1 11 m_X12_finds := ⟨(RX12, TX12, 23), rfl, pw_974, pw_976, pw_17, pw_70, pl_X12_finds⟩
theorem lm_X12_63 : px_lkV "AllSwornModel" 63 1 11 m_X12_well := ⟨(RX12, TX12, 23), rfl, pw_979, pw_981, pw_18, pw_70, pl_X12_well⟩
theorem lm_X12_69 : px_lkV "AllSwornModel" 69 1 11 m_X12_get := ⟨(RX12, TX12, 23), rfl, pw_1043, pw_1045, pw_27, pw_70, pl_X12_get⟩
theorem lm_X12_82 : px_lkV "AllSwornModel" 82 0 11 m_X12_here := ⟨(RX12, TX12, 23), rfl, pw_1016, pw_1018, pw_21, pw_70, pl_X12_here⟩
theorem lm_X12_95 : px_lkV "AllSwornModel" 95 0 11 m_X12_next := ⟨(RX12, TX12, 23), rfl, pw_1012, pw_1014, pw_20, pw_70, pl_X12_next⟩
theorem lm_X12_98 : px_lkV "AllSwornModel" 98 1 11 m_X12_fails := ⟨(RX12, TX12, 23), rfl, pw_1024, pw_1026, pw_23, pw_70, pl_X12_fails⟩
theorem lm_X12_102 : px_lkV "AllSwornModel" 102 3 11 m_X12_numberBut := ⟨(RX12, TX12, 23), rfl, pw_1032, pw_1034, pw_25, pw_70, pl_X12_numberBut⟩
theorem lm_X12_106 : px_lkV "AllSwornModel" 106 1 11 m_X12_sign := ⟨(RX12, TX12, 23), rfl, pw_1020, pw_1022, pw_22, pw_70, pl_X12_sign⟩
theorem lm_X12_109 : px_lkS "AllSwornModel" 109 1 m_X12_kindOf := ⟨pw_1036, pw_1037, pw_70, pl_X12_kindOf⟩
theorem lm_X12_112 : px_lkV "AllSwornModel" 112 3 11 m_X12_number := ⟨(RX12, TX12, 23), rfl, pw_1028, pw_1030, pw_24, pw_70, pl_X12_number⟩
theorem lm_X12_115 : px_lkV "AllSwornModel" 115 2 11 m_X12_put := ⟨(RX12, TX12, 23), rfl, pw_1008, pw_1010, pw_19, pw_70, pl_X12_put⟩
theorem lm_X12_120 : px_lkV "AllSwornModel" 120 0 11 m_X12_readThing := ⟨(RX12, TX12, 23), rfl, pw_1039, pw_1041, pw_26, pw_70, pl_X12_readThing⟩
theorem lm_X12_123 : px_lkV "AllSwornModel" 123 0 11 m_X12_readHarm := ⟨(RX12, TX12, 23), rfl, pw_1048, pw_1050, pw_28, pw_70, pl_X12_readHarm⟩
theorem lm_X12_130 : px_lkV "AllSwornModel" 130 2 11 m_X12_copyRealm := ⟨(RX12, TX12, 23), rfl, pw_1053, pw_1055, pw_29, pw_70, pl_X12_copyRealm⟩
theorem lm_X12_136 : px_lkV "AllSwornModel" 136 2 11 m_X12_ofThing := ⟨(RX12, TX12, 23), rfl, pw_1073, pw_1075, pw_32, pw_70, pl_X12_ofThing⟩
theorem lm_X12_140 : px_lkV "AllSwornModel" 140 2 11 m_X12_boundOn := ⟨(RX12, TX12, 23), rfl, pw_1105, pw_1107, pw_39, pw_70, pl_X12_boundOn⟩
theorem lm_X12_143 : px_lkV "AllSwornModel" 143 1 11 m_X12_openBy := ⟨(RX12, TX12, 23), rfl, pw_1109, pw_1111, pw_40, pw_70, pl_X12_openBy⟩
theorem lm_X12_146 : px_lkV "AllSwornModel" 146 0 11 m_X12_asSworn := ⟨(RX12, TX12, 23), rfl, pw_1097, pw_1099, pw_37, pw_70, pl_X12_asSworn⟩
theorem lm_X12_149 : px_lkV "AllSwornModel" 149 1 11 m_X12_openOn := ⟨(RX12, TX12, 23), rfl, pw_1101, pw_1103, pw_38, pw_70, pl_X12_openOn⟩
theorem lm_X12_152 : px_lkV "AllSwornModel" 152 1 11 m_X12_isThing := ⟨(RX12, TX12, 23), rfl, pw_1065, pw_1067, pw_30, pw_70, pl_X12_isThing⟩
theorem lm_X12_155 : px_lkV "AllSwornModel" 155 1 11 m_X12_wayOf := ⟨(RX12, TX12, 23), rfl, pw_1069, pw_1071, pw_31, pw_70, pl_X12_wayOf⟩
theorem lm_X12_158 : px_lkV "AllSwornModel" 158 1 11 m_X12_know := ⟨(RX12, TX12, 23), rfl, pw_1077, pw_1079, pw_33, pw_70, pl_X12_know⟩
theorem lm_X12_161 : px_lkV "AllSwornModel" 161 2 11 m_X12_wouldSwear := ⟨(RX12, TX12, 23), rfl, pw_1081, pw_1083, pw_34, pw_70, pl_X12_wouldSwear⟩
theorem lm_X12_165 : px_lkV "AllSwornModel" 165 1 11 m_X12_isHarm := ⟨(RX12, TX12, 23), rfl, pw_1089, pw_1091, pw_35, pw_70, pl_X12_isHarm⟩
theorem lm_X12_168 : px_lkV "AllSwornModel" 168 1 11 m_X12_openAsSworn := ⟨(RX12, TX12, 23), rfl, pw_1093, pw_1095, pw_36, pw_70, pl_X12_openAsSworn⟩
theorem lm_X12_171 : px_lkV "AllSwornModel" 171 0 11 m_X12_hasRealm := ⟨(RX12, TX12, 23), rfl, pw_1117, pw_1119, pw_41, pw_70, pl_X12_hasRealm⟩
theorem lm_X12_176 : px_lkV "AllSwornModel" 176 1 11 m_X12_sumOf := ⟨(RX12, TX12, 23), rfl, pw_1134, pw_1136, pw_42, pw_70, pl_X12_sumOf⟩
theorem lm_X12_179 : px_lkV "AllSwornModel" 179 1 11 m_X12_isDay := ⟨(RX12, TX12, 23), rfl, pw_1142, pw_1144, pw_43, pw_70, pl_X12_isDay⟩
theorem lm_X12_182 : px_lkS "AllSwornModel" 182 1 m_X12_manyOf := ⟨pw_1154, pw_1155, pw_70, pl_X12_manyOf⟩
theorem lm_X12_185 : px_lkV "AllSwornModel" 185 1 11 m_X12_covers := ⟨(RX12, TX12, 23), rfl, pw_1157, pw_1159, pw_44, pw_70, pl_X12_covers⟩
theorem lm_X12_191 : px_lkV "AllSwornModel" 191 2 11 m_X12_goesRound := ⟨(RX12, TX12, 23), rfl, pw_1165, pw_1167, pw_45, pw_70, pl_X12_goesRound⟩
theorem lm_X12_194 : px_lkV "AllSwornModel" 194 1 11 m_X12_cheapestOf := ⟨(RX12, TX12, 23), rfl, pw_1173, pw_1175, pw_46, pw_70, pl_X12_cheapestOf⟩
theorem lm_X12_197 : px_lkV "AllSwornModel" 197 2 11 m_X12_dearBy := ⟨(RX12, TX12, 23), rfl, pw_1181, pw_1183, pw_47, pw_70, pl_X12_dearBy⟩
theorem lm_X12_200 : px_lkV "AllSwornModel" 200 1 11 m_X12_ofKinds := ⟨(RX12, TX12, 23), rfl, pw_1189, pw_1191, pw_48, pw_70, pl_X12_ofKinds⟩
theorem lm_X12_203 : px_lkS "AllSwornModel" 203 2 m_X12_isOne := ⟨pw_1221, pw_1222, pw_70, pl_X12_isOne⟩
theorem lm_X12_209 : px_lkV "AllSwornModel" 209 1 11 m_X12_leaves := ⟨(RX12, TX12, 23), rfl, pw_1236, pw_1238, pw_51, pw_70, pl_X12_leaves⟩
theorem lm_X12_212 : px_lkV "AllSwornModel" 212 1 11 m_X12_mark20 := ⟨(RX12, TX12, 23), rfl, pw_1256, pw_1258, pw_56, pw_70, pl_X12_mark20⟩
theorem lm_X12_215 : px_lkV "AllSwornModel" 215 1 11 m_X12_inHarms := ⟨(RX12, TX12, 23), rfl, pw_1260, pw_1262, pw_57, pw_70, pl_X12_inHarms⟩
theorem lm_X12_218 : px_lkV "AllSwornModel" 218 1 11 m_X12_size10 := ⟨(RX12, TX12, 23), rfl, pw_1244, pw_1246, pw_53, pw_70, pl_X12_size10⟩
theorem lm_X12_221 : px_lkV "AllSwornModel" 221 1 11 m_X12_size13 := ⟨(RX12, TX12, 23), rfl, pw_1280, pw_1282, pw_62, pw_70, pl_X12_size13⟩
theorem lm_X12_224 : px_lkV "AllSwornModel" 224 1 11 m_X12_mark21 := ⟨(RX12, TX12, 23), rfl, pw_1252, pw_1254, pw_55, pw_70, pl_X12_mark21⟩
theorem lm_X12_227 : px_lkV "AllSwornModel" 227 1 11 m_X12_size14 := ⟨(RX12, TX12, 23), rfl, pw_1276, pw_1278, pw_61, pw_70, pl_X12_size14⟩
theorem lm_X12_230 : px_lkV "AllSwornModel" 230 1 11 m_X12_mark24 := ⟨(RX12, TX12, 23), rfl, pw_1264, pw_1266, pw_58, pw_70, pl_X12_mark24⟩
theorem lm_X12_233 : px_lkV "AllSwornModel" 233 1 11 m_X12_mark22 := ⟨(RX12, TX12, 23), rfl, pw_1268, pw_1270, pw_59, pw_70, pl_X12_mark22⟩
theorem lm_X12_236 : px_lkV "AllSwornModel" 236 1 11 m_X12_mark23 := ⟨(RX12, TX12, 23), rfl, pw_1272, pw_1274, pw_60, pw_70, pl_X12_mark23⟩
theorem lm_X12_239 : px_lkV "AllSwornModel" 239 1 11 m_X12_markOf := ⟨(RX12, TX12, 23), rfl, pw_1248, pw_1250, pw_54, pw_70, pl_X12_markOf⟩
theorem lm_X12_242 : px_lkV "AllSwornModel" 242 1 11 m_X12_size11 := ⟨(RX12, TX12, 23), rfl, pw_1240, pw_1242, pw_52, pw_70, pl_X12_size11⟩
theorem lm_X12_245 : px_lkV "AllSwornModel" 245 1 11 m_X12_size12 := ⟨(RX12, TX12, 23), rfl, pw_1232, pw_1234, pw_50, pw_70, pl_X12_size12⟩
theorem lm_X12_248 : px_lkV "AllSwornModel" 248 1 11 m_X12_sizeOf := ⟨(RX12, TX12, 23), rfl, pw_1228, pw_1230, pw_49, pw_70, pl_X12_sizeOf⟩
theorem pcw_0 : ∀ w ∈ u_ws RX0 TX0 3, w ∈ px_W := List.forall_mem_cons.mpr ⟨pw_415, List.forall_mem_cons.mpr ⟨pw_416, List.forall_mem_cons.mpr ⟨pw_417, fun _ h => absurd h List.not_mem_nil⟩⟩⟩
theorem pcw_1 : ∀ w ∈ u_ws RX1 TX1 3, w ∈ px_W := List.forall_mem_cons.mpr ⟨pw_392, List.forall_mem_cons.mpr ⟨pw_394, List.forall_mem_cons.mpr ⟨pw_396, fun _ h => absurd h List.not_mem_nil⟩⟩⟩
theorem pcw_2 : ∀ w ∈ u_ws RX2 TX2 5, w ∈ px_W := List.forall_mem_cons.mpr ⟨pw_185, List.forall_mem_cons.mpr ⟨pw_187, List.forall_mem_cons.mpr ⟨pw_189, List.forall_mem_cons.mpr ⟨pw_191, List.forall_mem_cons.mpr ⟨pw_193, fun _ h => absurd h List.not_mem_nil⟩⟩⟩⟩⟩
theorem pcw_3 : ∀ w ∈ u_ws RX3 TX3 3, w ∈ px_W := List.forall_mem_cons.mpr ⟨pw_432, List.forall_mem_cons.mpr ⟨pw_433, List.forall_mem_cons.mpr ⟨pw_434, fun _ h => absurd h List.not_mem_nil⟩⟩⟩
theorem pcw_4 : ∀ w ∈ u_ws RX4 TX4 5, w ∈ px_W := List.forall_mem_cons.mpr ⟨pw_105, List.forall_mem_cons.mpr ⟨pw_107, List.forall_mem_cons.mpr ⟨pw_109, List.forall_mem_cons.mpr ⟨pw_111, List.forall_mem_cons.mpr ⟨pw_113, fun _ h => absurd h List.not_mem_nil⟩⟩⟩⟩⟩
theorem pcw_5 : ∀ w ∈ u_ws RX5 TX5 10, w ∈ px_W := List.forall_mem_cons.mpr ⟨pw_147, List.forall_mem_cons.mpr ⟨pw_149, List.forall_mem_cons.mpr ⟨pw_151, List.forall_mem_cons.mpr ⟨pw_153, List.forall_mem_cons.mpr ⟨pw_155, List.forall_mem_cons.mpr ⟨pw_157, List.forall_mem_cons.mpr ⟨pw_159, List.forall_mem_cons.mpr ⟨pw_161, List.forall_mem_cons.mpr ⟨pw_163, List.forall_mem_cons.mpr ⟨pw_165, fun _ h => absurd h List.not_mem_nil⟩⟩⟩⟩⟩⟩⟩⟩⟩⟩
theorem pcw_6 : ∀ w ∈ u_ws RX6 TX6 3, w ∈ px_W := List.forall_mem_cons.mpr ⟨pw_219, List.forall_mem_cons.mpr ⟨pw_221, List.forall_mem_cons.mpr ⟨pw_223, fun _ h => absurd h List.not_mem_nil⟩⟩⟩
theorem pcw_8 : ∀ w ∈ u_ws RX8 TX8 2, w ∈ px_W := List.forall_mem_cons.mpr ⟨pw_204, List.forall_mem_cons.mpr ⟨pw_206, fun _ h => absurd h List.not_mem_nil⟩⟩
theorem pcw_9 : ∀ w ∈ u_ws RX9 TX9 3, w ∈ px_W := List.forall_mem_cons.mpr ⟨pw_425, List.forall_mem_cons.mpr ⟨pw_426, List.forall_mem_cons.mpr ⟨pw_427, fun _ h => absurd h List.not_mem_nil⟩⟩⟩
theorem pcw_10 : ∀ w ∈ u_ws RX10 TX10 3, w ∈ px_W := List.forall_mem_cons.mpr ⟨pw_405, List.forall_mem_cons.mpr ⟨pw_406, List.forall_mem_cons.mpr ⟨pw_407, fun _ h => absurd h List.not_mem_nil⟩⟩⟩
theorem pcw_11 : ∀ w ∈ u_ws RX11 TX11 9, w ∈ px_W := List.forall_mem_cons.mpr ⟨pw_235, List.forall_mem_cons.mpr ⟨pw_237, List.forall_mem_cons.mpr ⟨pw_239, List.forall_mem_cons.mpr ⟨pw_241, List.forall_mem_cons.mpr ⟨pw_243, List.forall_mem_cons.mpr ⟨pw_245, List.forall_mem_cons.mpr ⟨pw_247, List.forall_mem_cons.mpr ⟨pw_249, List.forall_mem_cons.mpr ⟨pw_251, fun _ h => absurd h List.not_mem_nil⟩⟩⟩⟩⟩⟩⟩⟩⟩
theorem pcw_12 : ∀ w ∈ u_ws RX12 TX12 23, w ∈ px_W := List.forall_mem_cons.mpr ⟨pw_914, List.forall_mem_cons.mpr ⟨pw_916, List.forall_mem_cons.mpr ⟨pw_918, List.forall_mem_cons.mpr ⟨pw_920, List.forall_mem_cons.mpr ⟨pw_922, List.forall_mem_cons.mpr ⟨pw_924, List.forall_mem_cons.mpr ⟨pw_926, List.forall_mem_cons.mpr ⟨pw_928, List.forall_mem_cons.mpr ⟨pw_930, List.forall_mem_cons.mpr ⟨pw_932, List.forall_mem_cons.mpr ⟨pw_934, List.forall_mem_cons.mpr ⟨pw_936, List.forall_mem_cons.mpr ⟨pw_938, List.forall_mem_cons.mpr ⟨pw_940, List.forall_mem_cons.mpr ⟨pw_942, List.forall_mem_cons.mpr ⟨pw_944, List.forall_mem_cons.mpr ⟨pw_946, List.forall_mem_cons.mpr ⟨pw_948, List.forall_mem_cons.mpr ⟨pw_950, List.forall_mem_cons.mpr ⟨pw_952, List.forall_mem_cons.mpr ⟨pw_954, List.forall_mem_cons.mpr ⟨pw_956, List.forall_mem_cons.mpr ⟨pw_958, fun _ h => absurd h List.not_mem_nil⟩⟩⟩⟩⟩⟩⟩⟩⟩⟩⟩⟩⟩⟩⟩⟩⟩⟩⟩⟩⟩⟩⟩
theorem pcd_0 : ∀ k, k < 3 → px_dfl (tyX0 k) = defaultValue (tyX0 k) := by decide +kernel
theorem pcd_1 : ∀ k, k < 3 → px_dfl (tyX1 k) = defaultValue (tyX1 k) := by decide +kernel
theorem pcd_2 : ∀ k, k < 5 → px_dfl (tyX2 k) = defaultValue (tyX2 k) := by decide +kernel
theorem pcd_3 : ∀ k, k < 3 → px_dfl (tyX3 k) = defaultValue (tyX3 k) := by decide +kernel
theorem pcd_4 : ∀ k, k < 5 → px_dfl (tyX4 k) = defaultValue (tyX4 k) := by decide +kernel
theorem pcd_5 : ∀ k, k < 10 → px_dfl (tyX5 k) = defaultValue (tyX5 k) := by decide +kernel
theorem pcd_6 : ∀ k, k < 3 → px_dfl (tyX6 k) = defaultValue (tyX6 k) := by decide +kernel
theorem pcd_8 : ∀ k, k < 2 → px_dfl (tyX8 k) = defaultValue (tyX8 k) := by decide +kernel
theorem pcd_9 : ∀ k, k < 3 → px_dfl (tyX9 k) = defaultValue (tyX9 k) := by decide +kernel
theorem pcd_10 : ∀ k, k < 3 → px_dfl (tyX10 k) = defaultValue (tyX10 k) := by decide +kernel
theorem pcd_11 : ∀ k, k < 9 → px_dfl (tyX11 k) = defaultValue (tyX11 k) := by decide +kernel
theorem pcd_12 : ∀ k, k < 23 → px_dfl (tyX12 k) = defaultValue (tyX12 k) := by decide +kernel
theorem px_cf : px_CF := by
  intro ci r hr
  match ci, hr with
  | 0, hr => cases hr; exact ⟨pcw_0, ⟨tyX0, fun k hk => ⟨tyX0_ok k hk, pcd_0 k hk⟩⟩, nmX0, pw_410, pw_77, by decide⟩
  | 1, hr => cases hr; exact ⟨pcw_1, ⟨tyX1, fun k hk => ⟨tyX1_ok k hk, pcd_1 k hk⟩⟩, nmX1, pw_367, pw_75, by decide⟩
  | 2, hr => cases hr; exact ⟨pcw_2, ⟨tyX2, fun k hk => ⟨tyX2_ok k hk, pcd_2 k hk⟩⟩, nmX2, pw_170, pw_67, by decide⟩
  | 3, hr => cases hr; exact ⟨pcw_3, ⟨tyX3, fun k hk => ⟨tyX3_ok k hk, pcd_3 k hk⟩⟩, nmX3, pw_430, pw_74, by decide⟩
  | 4, hr => cases hr; exact ⟨pcw_4, ⟨tyX4, fun k hk => ⟨tyX4_ok k hk, pcd_4 k hk⟩⟩, nmX4, pw_92, pw_65, by decide⟩
  | 5, hr => cases hr; exact ⟨pcw_5, ⟨tyX5, fun k hk => ⟨tyX5_ok k hk, pcd_5 k hk⟩⟩, nmX5, pw_118, pw_66, by decide⟩
  | 6, hr => cases hr; exact ⟨pcw_6, ⟨tyX6, fun k hk => ⟨tyX6_ok k hk, pcd_6 k hk⟩⟩, nmX6, pw_209, pw_69, by decide⟩
  | 7, hr => cases hr; exact ⟨pcw_8, ⟨tyX8, fun k hk => ⟨tyX8_ok k hk, pcd_8 k hk⟩⟩, nmX8, pw_197, pw_68, by decide⟩
  | 8, hr => cases hr; exact ⟨pcw_9, ⟨tyX9, fun k hk => ⟨tyX9_ok k hk, pcd_9 k hk⟩⟩, nmX9, pw_420, pw_78, by decide⟩
  | 9, hr => cases hr; exact ⟨pcw_10, ⟨tyX10, fun k hk => ⟨tyX10_ok k hk, pcd_10 k hk⟩⟩, nmX10, pw_400, pw_76, by decide⟩
  | 10, hr => cases hr; exact ⟨pcw_11, ⟨tyX11, fun k hk => ⟨tyX11_ok k hk, pcd_11 k hk⟩⟩, nmX11, pw_82, pw_64, by decide⟩
  | 11, hr => cases hr; exact ⟨pcw_12, ⟨tyX12, fun k hk => ⟨tyX12_ok k hk, pcd_12 k hk⟩⟩, nmX12, pw_886, pw_70, by decide⟩
  | n + 12, hr => simp at hr
end
section
/-! each method is as the real machine has it -/
theorem pk_0 : px_okm m_X0_init := ⟨⟨pw_413, by decide +kernel, ⟨by decide +kernel, by decide +kernel⟩, by decide⟩, by decide +kernel, ⟨trivial, trivial, trivial, trivial, px_mkI (px_lkc pt_76 lm_X0_3 px_lkn), trivial, trivial⟩⟩
theorem pk_1 : px_okm m_X0_toldKind := ⟨⟨pw_708, by decide +kernel, ⟨by decide +kernel, by decide +kernel⟩, by decide⟩, by decide +kernel, ⟨trivial, trivial, trivial⟩⟩
theorem pk_2 : px_okm m_X0_isOf := ⟨⟨pw_782, by decide +kernel, ⟨by decide +kernel, by decide +kernel⟩, by decide⟩, by decide +kernel, ⟨trivial, trivial, trivial, trivial, trivial, px_mkX (px_lkc pt_77 lm_X0_9 px_lkn), trivial, trivial, trivial, trivial, trivial, trivial⟩⟩
theorem pk_3 : px_okm m_X0_daysToAsk := ⟨⟨pw_472, by decide +kernel, ⟨by decide +kernel, by decide +kernel⟩, by decide⟩, by decide +kernel, ⟨trivial, trivial, trivial, lf_X0_13, trivial, px_mkM ⟨pw_473, pw_474, pw_79, pw_maxcode⟩, trivial, trivial⟩⟩
theorem pk_4 : px_okm m_X0_size := ⟨⟨pw_814, by decide +kernel, ⟨by decide +kernel, by decide +kernel⟩, by decide⟩, by decide +kernel, ⟨trivial, trivial, px_lkc pt_85 (Or.inl lm_X0_25) px_lkn, trivial, trivial, trivial, px_mkX (px_lkc pt_81 lm_X0_31 px_lkn), trivial, trivial, trivial, trivial⟩⟩
theorem pk_5 : px_okm m_X0_mark := ⟨⟨pw_861, by decide +kernel, ⟨by decide +kernel, by decide +kernel⟩, by decide⟩, by decide +kernel, ⟨trivial, trivial, px_lkc pt_85 (Or.inl lm_X0_25) px_lkn, trivial, trivial, trivial, px_mkX (px_lkc pt_82 lm_X0_35 px_lkn), trivial, trivial, trivial, px_lkc pt_4 (Or.inr lm_X0_38_0) (px_lkc pt_91 (Or.inr lm_X0_38_8) px_lkn), trivial, trivial, trivial⟩⟩
theorem pk_6 : px_okm m_X1_init := ⟨⟨pw_370, by decide +kernel, ⟨by decide +kernel, by decide +kernel⟩, by decide⟩, by decide +kernel, ⟨trivial, trivial, trivial, trivial, px_mkI (px_lkc pt_25 lm_X1_3 px_lkn), trivial, trivial⟩⟩
theorem pk_7 : px_okm m_X1_toldKind := ⟨⟨pw_711, by decide +kernel, ⟨by decide +kernel, by decide +kernel⟩, by decide⟩, by decide +kernel, ⟨trivial, trivial, trivial⟩⟩
theorem pk_8 : px_okm m_X1_isOf := ⟨⟨pw_786, by decide +kernel, ⟨by decide +kernel, by decide +kernel⟩, by decide⟩, by decide +kernel, ⟨trivial, trivial, trivial, trivial, trivial, px_mkX (px_lkc pt_27 lm_X1_9 px_lkn), trivial, trivial, trivial, trivial, trivial, trivial⟩⟩
theorem pk_9 : px_okm m_X1_isHeldBy := ⟨⟨pw_536, by decide +kernel, ⟨by decide +kernel, by decide +kernel⟩, by decide⟩, by decide +kernel, ⟨trivial, lf_X1_13, trivial, trivial, trivial, lf_X1_13, trivial, trivial, trivial, trivial, trivial, trivial, trivial, trivial, trivial, trivial, trivial, trivial⟩⟩
theorem pk_10 : px_okm m_X1_size := ⟨⟨pw_822, by decide +kernel, ⟨by decide +kernel, by decide +kernel⟩, by decide⟩, by decide +kernel, ⟨trivial, trivial, px_lkc pt_85 (Or.inl lm_X1_19) px_lkn, trivial, trivial, trivial, px_mkX (px_lkc pt_28 lm_X1_25 px_lkn), trivial, trivial, trivial⟩⟩
theorem pk_11 : px_okm m_X1_mark := ⟨⟨pw_835, by decide +kernel, ⟨by decide +kernel, by decide +kernel⟩, by decide⟩, by decide +kernel, ⟨trivial, trivial, px_lkc pt_85 (Or.inl lm_X1_19) px_lkn, trivial, trivial, trivial, trivial, px_mkX (px_lkc pt_29 lm_X1_29 px_lkn), trivial, trivial, trivial⟩⟩
theorem pk_12 : px_okm m_X2_init := ⟨⟨pw_173, by decide +kernel, ⟨by decide +kernel, by decide +kernel⟩, by decide⟩, by decide +kernel, ⟨trivial, px_mkO ⟨pw_174, pw_87, pw_objcode⟩, trivial, ⟨_, rfl, pw_175⟩, trivial, px_mkI (px_lkc pt_41 lm_X2_11 px_lkn), ⟨lf_X2_12, List.forall_mem_cons.mpr ⟨fun r hr => by cases hr; exact Or.inr ⟨rfl, rfl, rfl, rfl⟩, fun _ h => absurd h List.not_mem_nil⟩⟩, trivial, trivial, pw_newarr_int, ⟨lf_X2_18, List.forall_mem_cons.mpr ⟨fun r hr => by cases hr; exact Or.inr ⟨rfl, rfl, rfl, rfl⟩, fun _ h => absurd h List.not_mem_nil⟩⟩, trivial, trivial, pw_newarr_int, ⟨lf_X2_22, List.forall_mem_cons.mpr ⟨fun r hr => by cases hr; exact Or.inr ⟨rfl, rfl, rfl, rfl⟩, fun _ h => absurd h List.not_mem_nil⟩⟩, trivial, pw_177, ⟨lf_X2_26, List.forall_mem_cons.mpr ⟨fun r hr => by cases hr; exact Or.inl rfl, fun _ h => absurd h List.not_mem_nil⟩⟩, trivial, pw_177, ⟨lf_X2_30, List.forall_mem_cons.mpr ⟨fun r hr => by cases hr; exact Or.inl rfl, fun _ h => absurd h List.not_mem_nil⟩⟩, trivial, trivial⟩⟩
theorem pk_13 : px_okm m_X2_firstGap := ⟨⟨pw_606, by decide +kernel, ⟨by decide +kernel, by decide +kernel⟩, by decide⟩, by decide +kernel, ⟨trivial, trivial, trivial, trivial, trivial, trivial, trivial, lf_X2_33, trivial, trivial, px_lkc pt_59 (Or.inl lm_X2_36) px_lkn, trivial, trivial, lf_X2_33, trivial, trivial, trivial, trivial, trivial, pw_177, trivial, trivial⟩⟩
theorem pk_14 : px_okm m_X2_leastCover := ⟨⟨pw_618, by decide +kernel, ⟨by decide +kernel, by decide +kernel⟩, by decide⟩, by decide +kernel, ⟨trivial, trivial, lf_X2_33, px_mkS (px_lkc pt_15 lm_X2_40 px_lkn), trivial, pw_177, trivial, trivial, trivial, trivial, trivial, trivial, lf_X2_44, trivial, trivial, trivial, pw_177, trivial, trivial, px_mkS (px_lkc pt_222 lm_X2_47 px_lkn), trivial, px_mkS (px_lkc pt_222 lm_X2_47 px_lkn), trivial, trivial, trivial, trivial, trivial, trivial, trivial, trivial, trivial, trivial, trivial, trivial, trivial, trivial, trivial, trivial, lf_X2_33, trivial, lf_X2_52, trivial, px_lkc pt_58 (Or.inl lm_X2_55) px_lkn, px_lkc pt_60 (Or.inl lm_X2_59) px_lkn, trivial, trivial, trivial, trivial, trivial, trivial, trivial, trivial⟩⟩
theorem pk_15 : px_okm m_X2_willingOn := ⟨⟨pw_621, by decide +kernel, ⟨by decide +kernel, by decide +kernel⟩, by decide⟩, by decide +kernel, ⟨trivial, trivial, trivial, trivial, trivial, trivial, lf_X2_44, trivial, trivial, trivial, px_lkc pt_47 (Or.inl lm_X2_62) px_lkn, trivial, trivial, trivial, trivial, trivial, px_lkc pt_79 (Or.inr lm_X2_66_0) (px_lkc pt_79 (Or.inr lm_X2_66_1) (px_lkc pt_79 (Or.inr lm_X2_66_3) (px_lkc pt_79 (Or.inr lm_X2_66_8) (px_lkc pt_95 (Or.inr lm_X2_66_9) px_lkn)))), trivial, trivial, trivial, trivial, trivial, trivial, trivial, trivial, trivial, trivial, trivial, trivial⟩⟩
theorem pk_16 : px_okm m_X2_seekRound := ⟨⟨pw_644, by decide +kernel, ⟨by decide +kernel, by decide +kernel⟩, by decide⟩, by decide +kernel, ⟨trivial, lf_X2_12, trivial, px_lkc pt_46 (Or.inl lm_X2_72) px_lkn, trivial, pw_177, ⟨lf_X2_26, List.forall_mem_cons.mpr ⟨fun r hr => by cases hr; exact Or.inl rfl, fun _ h => absurd h List.not_mem_nil⟩⟩, trivial, pw_177, ⟨lf_X2_30, List.forall_mem_cons.mpr ⟨fun r hr => by cases hr; exact Or.inl rfl, fun _ h => absurd h List.not_mem_nil⟩⟩, trivial, trivial, trivial, trivial, lf_X2_33, px_lkc pt_17 (Or.inl lm_X2_76) px_lkn, trivial, trivial⟩⟩
theorem pk_17 : px_okm m_X2_goOn := ⟨⟨pw_649, by decide +kernel, ⟨by decide +kernel, by decide +kernel⟩, by decide⟩, by decide +kernel, ⟨trivial, lf_X2_12, lf_X2_33, trivial, trivial, trivial, trivial, lf_X2_12, trivial, lf_X2_12, lf_X2_33, px_lkc pt_59 (Or.inl lm_X2_36) px_lkn, trivial, trivial, trivial, trivial, px_lkc pt_18 (Or.inl lm_X2_80) px_lkn, trivial, trivial, trivial, trivial, trivial, lf_X2_26, pw_177, trivial, trivial, trivial, lf_X2_26, trivial, trivial, trivial, trivial, trivial, trivial, lf_X2_12, lf_X2_44, trivial, trivial, lf_X2_12, trivial, px_lkc pt_47 (Or.inl lm_X2_62) px_lkn, trivial, trivial, trivial, trivial, trivial, trivial, trivial, trivial, trivial, trivial, lf_X2_18, trivial, trivial, trivial, trivial, lf_X2_12, trivial, px_lkc pt_51 (Or.inl lm_X2_84) px_lkn, trivial, trivial, trivial, trivial, trivial, trivial, trivial, trivial, trivial, trivial, px_lkc pt_17 (Or.inl lm_X2_76) px_lkn, trivial, lf_X2_12, px_lkc pt_54 (Or.inl lm_X2_88) px_lkn, trivial, trivial, trivial, trivial, trivial⟩⟩
theorem pk_18 : px_okm m_X2_keepWay := ⟨⟨pw_653, by decide +kernel, ⟨by decide +kernel, by decide +kernel⟩, by decide⟩, by decide +kernel, ⟨trivial, lf_X2_26, pw_177, trivial, trivial, trivial, lf_X2_26, trivial, trivial, trivial, lf_X2_26, trivial, trivial, trivial, lf_X2_30, trivial, trivial, trivial, ⟨lf_X2_26, List.forall_mem_cons.mpr ⟨fun r hr => by cases hr; exact Or.inl rfl, fun _ h => absurd h List.not_mem_nil⟩⟩, trivial, trivial, ⟨lf_X2_30, List.forall_mem_cons.mpr ⟨fun r hr => by cases hr; exact Or.inl rfl, fun _ h => absurd h List.not_mem_nil⟩⟩, trivial, lf_X2_18, trivial, trivial, lf_X2_22, trivial, trivial, px_mkC ⟨pw_654, pw_310, pw_309, pw_72⟩, trivial, trivial⟩⟩
theorem pk_19 : px_okm m_X2_bestStop := ⟨⟨pw_660, by decide +kernel, ⟨by decide +kernel, by decide +kernel⟩, by decide⟩, by decide +kernel, ⟨trivial, trivial, trivial, trivial, lf_X2_30, trivial, trivial, trivial, trivial, trivial, lf_X2_22, trivial, trivial, trivial, pw_177, trivial, trivial⟩⟩
theorem pk_20 : px_okm m_X2_bestDefence := ⟨⟨pw_683, by decide +kernel, ⟨by decide +kernel, by decide +kernel⟩, by decide⟩, by decide +kernel, ⟨pw_177, trivial, trivial, trivial, trivial, trivial, trivial, trivial, lf_X2_44, trivial, trivial, trivial, trivial, trivial, px_lkc pt_47 (Or.inl lm_X2_62) px_lkn, trivial, px_lkc pt_21 (Or.inl lm_X2_98) px_lkn, trivial, trivial, pw_177, trivial, trivial, trivial, trivial, trivial, trivial, trivial, trivial, trivial, trivial, trivial, trivial, trivial, trivial, trivial, trivial, trivial⟩⟩
theorem pk_21 : px_okm m_X2_priceBehind := ⟨⟨pw_687, by decide +kernel, ⟨by decide +kernel, by decide +kernel⟩, by decide⟩, by decide +kernel, ⟨trivial, trivial, pw_177, trivial, trivial, lf_X2_12, trivial, px_lkc pt_46 (Or.inl lm_X2_72) px_lkn, trivial, lf_X2_12, trivial, px_lkc pt_51 (Or.inl lm_X2_84) px_lkn, trivial, lf_X2_12, trivial, trivial, lf_X2_12, lf_X2_33, px_mkM ⟨pw_688, pw_474, pw_79, pw_maxcode⟩, px_lkc pt_63 (Or.inl lm_X2_108) px_lkn, trivial, trivial⟩⟩
theorem pk_22 : px_okm m_X2_leastKinds := ⟨⟨pw_698, by decide +kernel, ⟨by decide +kernel, by decide +kernel⟩, by decide⟩, by decide +kernel, ⟨pw_177, trivial, trivial, trivial, trivial, trivial, trivial, trivial, pw_177, trivial, trivial, px_mkS (px_lkc pt_222 lm_X2_47 px_lkn), trivial, px_mkS (px_lkc pt_222 lm_X2_47 px_lkn), trivial, trivial, trivial, trivial, trivial, trivial, trivial, trivial, trivial, trivial, px_lkc pt_64 (Or.inl lm_X2_111) px_lkn, px_lkc pt_60 (Or.inl lm_X2_59) px_lkn, trivial, trivial, trivial, trivial, trivial, trivial, trivial, trivial⟩⟩
theorem pk_23 : px_okm m_X2_suspects := ⟨⟨pw_743, by decide +kernel, ⟨by decide +kernel, by decide +kernel⟩, by decide⟩, by decide +kernel, ⟨trivial, trivial, lf_X2_114, trivial, trivial, trivial, trivial, trivial, trivial, trivial, trivial, trivial, trivial, trivial, lf_X2_33, trivial, trivial, px_lkc pt_59 (Or.inl lm_X2_36) px_lkn, trivial, trivial, trivial, trivial, trivial, trivial, px_lkc pt_74 (Or.inl lm_X2_117) px_lkn, trivial, trivial, trivial, trivial, trivial, trivial, trivial, trivial, trivial, trivial, trivial, trivial, trivial⟩⟩
theorem pk_24 : px_okm m_X2_leastTerm := ⟨⟨pw_755, by decide +kernel, ⟨by decide +kernel, by decide +kernel⟩, by decide⟩, by decide +kernel, ⟨trivial, trivial, trivial, trivial, trivial, trivial, trivial, trivial, lf_X2_33, trivial, trivial, px_lkc pt_58 (Or.inl lm_X2_55) px_lkn, px_lkc pt_60 (Or.inl lm_X2_59) px_lkn, trivial, trivial, trivial, trivial, trivial, pw_177, trivial, trivial⟩⟩
theorem pk_25 : px_okm m_X3_init := ⟨⟨pw_373, by decide +kernel, ⟨by decide +kernel, by decide +kernel⟩, by decide⟩, by decide +kernel, ⟨trivial, trivial, trivial, trivial, px_mkI (px_lkc pt_76 lm_X3_3 px_lkn), trivial, trivial⟩⟩
theorem pk_26 : px_okm m_X3_toldKind := ⟨⟨pw_714, by decide +kernel, ⟨by decide +kernel, by decide +kernel⟩, by decide⟩, by decide +kernel, ⟨trivial, trivial, trivial⟩⟩
theorem pk_27 : px_okm m_X3_isOf := ⟨⟨pw_789, by decide +kernel, ⟨by decide +kernel, by decide +kernel⟩, by decide⟩, by decide +kernel, ⟨trivial, trivial, trivial, trivial, trivial, px_mkX (px_lkc pt_77 lm_X3_9 px_lkn), trivial, trivial, trivial, trivial, trivial, trivial⟩⟩
theorem pk_28 : px_okm m_X3_size := ⟨⟨pw_826, by decide +kernel, ⟨by decide +kernel, by decide +kernel⟩, by decide⟩, by decide +kernel, ⟨trivial, trivial, px_lkc pt_85 (Or.inl lm_X3_13) px_lkn, trivial, trivial, trivial, px_mkX (px_lkc pt_81 lm_X3_19 px_lkn), trivial, trivial, trivial, px_lkc pt_11 (Or.inr lm_X3_23_1) (px_lkc pt_29 (Or.inr lm_X3_23_3) (px_lkc pt_96 (Or.inr lm_X3_23_9) px_lkn)), trivial, trivial, trivial⟩⟩
theorem pk_29 : px_okm m_X3_mark := ⟨⟨pw_842, by decide +kernel, ⟨by decide +kernel, by decide +kernel⟩, by decide⟩, by decide +kernel, ⟨trivial, trivial, px_lkc pt_85 (Or.inl lm_X3_13) px_lkn, trivial, trivial, trivial, px_mkX (px_lkc pt_82 lm_X3_28 px_lkn), trivial, trivial, lf_X3_29, px_lkc pt_65 (Or.inl lm_X3_33) px_lkn, trivial, trivial, trivial⟩⟩
theorem pk_30 : px_okm m_X4_init := ⟨⟨pw_95, by decide +kernel, ⟨by decide +kernel, by decide +kernel⟩, by decide⟩, by decide +kernel, ⟨trivial, px_mkO ⟨pw_96, pw_87, pw_objcode⟩, trivial, trivial, pw_newarr_int, ⟨lf_X4_11, List.forall_mem_cons.mpr ⟨fun r hr => by cases hr; exact Or.inr ⟨rfl, rfl, rfl, rfl⟩, fun _ h => absurd h List.not_mem_nil⟩⟩, trivial, trivial, ⟨lf_X4_15, List.forall_mem_cons.mpr ⟨fun r hr => by cases hr; exact Or.inl rfl, fun _ h => absurd h List.not_mem_nil⟩⟩, trivial, trivial, ⟨lf_X4_19, List.forall_mem_cons.mpr ⟨fun r hr => by cases hr; exact Or.inl rfl, fun _ h => absurd h List.not_mem_nil⟩⟩, trivial, trivial, ⟨lf_X4_22, List.forall_mem_cons.mpr ⟨fun r hr => by cases hr; exact Or.inl rfl, fun _ h => absurd h List.not_mem_nil⟩⟩, trivial, trivial, ⟨lf_X4_25, List.forall_mem_cons.mpr ⟨fun r hr => by cases hr; exact Or.inl rfl, fun _ h => absurd h List.not_mem_nil⟩⟩, trivial, trivial⟩⟩
theorem pk_31 : px_okm m_X4_take := ⟨⟨pw_326, by decide +kernel, ⟨by decide +kernel, by decide +kernel⟩, by decide⟩, by decide +kernel, ⟨trivial, lf_X4_15, trivial, trivial, trivial, trivial, trivial, lf_X4_11, trivial, lf_X4_15, trivial, trivial, trivial, trivial, lf_X4_15, trivial, trivial, ⟨lf_X4_15, List.forall_mem_cons.mpr ⟨fun r hr => by cases hr; exact Or.inl rfl, fun _ h => absurd h List.not_mem_nil⟩⟩, trivial, trivial, trivial⟩⟩
theorem pk_32 : px_okm m_X4_readTo := ⟨⟨pw_335, by decide +kernel, ⟨by decide +kernel, by decide +kernel⟩, by decide⟩, by decide +kernel, ⟨trivial, trivial, ⟨lf_X4_19, List.forall_mem_cons.mpr ⟨fun r hr => by cases hr; exact Or.inl rfl, fun _ h => absurd h List.not_mem_nil⟩⟩, trivial, trivial, ⟨lf_X4_22, List.forall_mem_cons.mpr ⟨fun r hr => by cases hr; exact Or.inl rfl, fun _ h => absurd h List.not_mem_nil⟩⟩, trivial, trivial, px_lkc pt_35 (Or.inl lm_X4_28) px_lkn, trivial, trivial, trivial, trivial, px_lkc pt_36 (Or.inl lm_X4_32) px_lkn, px_lkc pt_43 (Or.inl lm_X4_36) px_lkn, trivial, trivial, px_lkc pt_35 (Or.inl lm_X4_28) px_lkn, trivial, trivial, trivial, trivial, trivial, trivial, lf_X4_22, trivial, trivial, lf_X4_19, trivial, lf_X4_15, trivial, trivial, px_lkc pt_37 (Or.inl lm_X4_42) px_lkn, px_mkS (px_lkc pt_39 lm_X4_46 px_lkn), trivial, trivial, trivial, trivial, lf_X4_50, trivial, trivial, trivial, trivial, px_lkc pt_33 (Or.inl lm_X4_53) px_lkn, trivial, trivial, px_lkc pt_37 (Or.inl lm_X4_42) px_lkn, trivial, trivial, trivial, trivial, px_lkc pt_34 (Or.inl lm_X4_57) px_lkn, trivial, trivial, trivial, trivial, lf_X4_19, px_lkc pt_38 (Or.inl lm_X4_61) px_lkn, trivial, trivial, trivial, trivial, ⟨lf_X4_15, List.forall_mem_cons.mpr ⟨fun r hr => by cases hr; exact Or.inl rfl, fun _ h => absurd h List.not_mem_nil⟩⟩, trivial, lf_X4_22, trivial, trivial, trivial, trivial, trivial, trivial⟩⟩
theorem pk_33 : px_okm m_X4_readThing := ⟨⟨pw_362, by decide +kernel, ⟨by decide +kernel, by decide +kernel⟩, by decide⟩, by decide +kernel, ⟨trivial, lf_X4_65, trivial, trivial, trivial, trivial, trivial, lf_X4_19, px_lkc pt_38 (Or.inl lm_X4_61) px_lkn, trivial, trivial, trivial, lf_X4_19, trivial, trivial, ⟨lf_X4_19, List.forall_mem_cons.mpr ⟨fun r hr => by cases hr; exact Or.inl rfl, fun _ h => absurd h List.not_mem_nil⟩⟩, trivial, trivial, trivial, px_lkc pt_36 (Or.inl lm_X4_32) px_lkn, trivial, trivial, trivial, px_lkc pt_35 (Or.inl lm_X4_28) px_lkn, trivial, trivial, trivial, px_lkc pt_36 (Or.inl lm_X4_32) px_lkn, trivial, trivial, trivial, px_lkc pt_35 (Or.inl lm_X4_28) px_lkn, trivial, lf_X4_22, trivial, trivial, trivial, trivial, lf_X4_65, trivial, trivial, px_mkS (px_lkc pt_40 lm_X4_68 px_lkn), px_lkc pt_44 (Or.inl lm_X4_72) px_lkn, trivial, trivial⟩⟩
theorem pk_34 : px_okm m_X4_readHarm := ⟨⟨pw_444, by decide +kernel, ⟨by decide +kernel, by decide +kernel⟩, by decide⟩, by decide +kernel, ⟨trivial, lf_X4_50, trivial, trivial, trivial, trivial, trivial, lf_X4_19, px_lkc pt_38 (Or.inl lm_X4_61) px_lkn, trivial, trivial, trivial, lf_X4_19, trivial, trivial, ⟨lf_X4_19, List.forall_mem_cons.mpr ⟨fun r hr => by cases hr; exact Or.inl rfl, fun _ h => absurd h List.not_mem_nil⟩⟩, trivial, trivial, trivial, trivial, lf_X4_65, trivial, trivial, trivial, px_lkc pt_36 (Or.inl lm_X4_32) px_lkn, trivial, trivial, trivial, px_lkc pt_35 (Or.inl lm_X4_28) px_lkn, trivial, lf_X4_22, trivial, trivial, trivial, px_lkc pt_45 (Or.inl lm_X4_76) px_lkn, trivial, trivial⟩⟩
theorem pk_35 : px_okm m_X4_expect := ⟨⟨pw_339, by decide +kernel, ⟨by decide +kernel, by decide +kernel⟩, by decide⟩, by decide +kernel, ⟨trivial, lf_X4_22, trivial, trivial, trivial, px_lkc pt_37 (Or.inl lm_X4_42) px_lkn, trivial, trivial, trivial, trivial, lf_X4_19, trivial, trivial, ⟨lf_X4_19, List.forall_mem_cons.mpr ⟨fun r hr => by cases hr; exact Or.inl rfl, fun _ h => absurd h List.not_mem_nil⟩⟩, trivial, trivial, trivial, trivial, lf_X4_19, px_lkc pt_38 (Or.inl lm_X4_61) px_lkn, trivial, trivial⟩⟩
theorem pk_36 : px_okm m_X4_readNumber := ⟨⟨pw_351, by decide +kernel, ⟨by decide +kernel, by decide +kernel⟩, by decide⟩, by decide +kernel, ⟨trivial, lf_X4_22, trivial, trivial, trivial, trivial, lf_X4_19, trivial, trivial, trivial, trivial, trivial, trivial, trivial, trivial, trivial, px_lkc pt_37 (Or.inl lm_X4_42) px_lkn, trivial, trivial, trivial, px_lkc pt_37 (Or.inl lm_X4_42) px_lkn, trivial, trivial, trivial, trivial, trivial, trivial, px_lkc pt_37 (Or.inl lm_X4_42) px_lkn, trivial, trivial, trivial, trivial, trivial, trivial, lf_X4_19, trivial, trivial, ⟨lf_X4_19, List.forall_mem_cons.mpr ⟨fun r hr => by cases hr; exact Or.inl rfl, fun _ h => absurd h List.not_mem_nil⟩⟩, trivial, trivial, trivial, lf_X4_19, trivial, trivial, trivial, trivial, trivial, trivial, trivial, trivial, trivial, trivial, trivial, px_lkc pt_38 (Or.inl lm_X4_61) px_lkn, trivial, trivial, trivial, trivial, trivial, trivial, trivial, trivial, trivial, trivial, px_lkc pt_38 (Or.inl lm_X4_61) px_lkn, trivial, trivial, trivial⟩⟩
theorem pk_37 : px_okm m_X4_next := ⟨⟨pw_343, by decide +kernel, ⟨by decide +kernel, by decide +kernel⟩, by decide⟩, by decide +kernel, ⟨trivial, lf_X4_19, trivial, trivial, lf_X4_19, trivial, lf_X4_15, trivial, trivial, lf_X4_19, trivial, trivial, trivial, lf_X4_11, trivial, lf_X4_19, trivial, trivial, trivial, trivial, trivial⟩⟩
theorem pk_38 : px_okm m_X4_note := ⟨⟨pw_347, by decide +kernel, ⟨by decide +kernel, by decide +kernel⟩, by decide⟩, by decide +kernel, ⟨trivial, trivial, ⟨lf_X4_22, List.forall_mem_cons.mpr ⟨fun r hr => by cases hr; exact Or.inl rfl, fun _ h => absurd h List.not_mem_nil⟩⟩, trivial, trivial, ⟨lf_X4_25, List.forall_mem_cons.mpr ⟨fun r hr => by cases hr; exact Or.inl rfl, fun _ h => absurd h List.not_mem_nil⟩⟩, trivial, trivial⟩⟩
theorem pk_39 : px_okm m_X4_kindOf := ⟨⟨pw_358, by decide +kernel, ⟨by decide +kernel, by decide +kernel⟩, by decide⟩, by decide +kernel, ⟨trivial, trivial, trivial, trivial, trivial, trivial, trivial, trivial, trivial, trivial, trivial, trivial, trivial, trivial, trivial⟩⟩
theorem pk_40 : px_okm m_X4_made := ⟨⟨pw_365, by decide +kernel, ⟨by decide +kernel, by decide +kernel⟩, by decide⟩, by decide +kernel, ⟨trivial, trivial, ⟨_, rfl, pw_366⟩, trivial, trivial, trivial, trivial, px_mkI (px_lkc pt_6 lm_X4_81 px_lkn), trivial, ⟨_, rfl, pw_399⟩, trivial, trivial, trivial, trivial, px_mkI (px_lkc pt_92 lm_X4_86 px_lkn), trivial, ⟨_, rfl, pw_409⟩, trivial, trivial, trivial, trivial, px_mkI (px_lkc pt_0 lm_X4_89 px_lkn), trivial, ⟨_, rfl, pw_419⟩, trivial, trivial, trivial, trivial, px_mkI (px_lkc pt_87 lm_X4_92 px_lkn), trivial, ⟨_, rfl, pw_429⟩, trivial, trivial, trivial, trivial, px_mkI (px_lkc pt_25 lm_X4_95 px_lkn), trivial, trivial⟩⟩
theorem pk_41 : px_okm m_X5_init := ⟨⟨pw_121, by decide +kernel, ⟨by decide +kernel, by decide +kernel⟩, by decide⟩, by decide +kernel, ⟨trivial, px_mkO ⟨pw_122, pw_87, pw_objcode⟩, trivial, trivial, ⟨pw_123, pw_124⟩, ⟨lf_X5_11, List.forall_mem_cons.mpr ⟨fun r hr => by cases hr; exact Or.inr ⟨rfl, rfl, rfl, rfl⟩, fun _ h => absurd h List.not_mem_nil⟩⟩, trivial, trivial, pw_newarr_int, ⟨lf_X5_17, List.forall_mem_cons.mpr ⟨fun r hr => by cases hr; exact Or.inr ⟨rfl, rfl, rfl, rfl⟩, fun _ h => absurd h List.not_mem_nil⟩⟩, trivial, trivial, pw_newarr_int, ⟨lf_X5_21, List.forall_mem_cons.mpr ⟨fun r hr => by cases hr; exact Or.inr ⟨rfl, rfl, rfl, rfl⟩, fun _ h => absurd h List.not_mem_nil⟩⟩, trivial, trivial, pw_newarr_int, ⟨lf_X5_24, List.forall_mem_cons.mpr ⟨fun r hr => by cases hr; exact Or.inr ⟨rfl, rfl, rfl, rfl⟩, fun _ h => absurd h List.not_mem_nil⟩⟩, trivial, trivial, ⟨lf_X5_27, List.forall_mem_cons.mpr ⟨fun r hr => by cases hr; exact Or.inl rfl, fun _ h => absurd h List.not_mem_nil⟩⟩, trivial, trivial, ⟨lf_X5_31, List.forall_mem_cons.mpr ⟨fun r hr => by cases hr; exact Or.inl rfl, fun _ h => absurd h List.not_mem_nil⟩⟩, trivial, trivial, ⟨lf_X5_34, List.forall_mem_cons.mpr ⟨fun r hr => by cases hr; exact Or.inl rfl, fun _ h => absurd h List.not_mem_nil⟩⟩, trivial, trivial, ⟨lf_X5_37, List.forall_mem_cons.mpr ⟨fun r hr => by cases hr; exact Or.inl rfl, fun _ h => absurd h List.not_mem_nil⟩⟩, trivial, trivial, ⟨lf_X5_40, List.forall_mem_cons.mpr ⟨fun r hr => by cases hr; exact Or.inl rfl, fun _ h => absurd h List.not_mem_nil⟩⟩, trivial, trivial, ⟨lf_X5_43, List.forall_mem_cons.mpr ⟨fun r hr => by cases hr; exact Or.inl rfl, fun _ h => absurd h List.not_mem_nil⟩⟩, trivial, trivial⟩⟩
theorem pk_42 : px_okm m_X5_isTold := ⟨⟨pw_554, by decide +kernel, ⟨by decide +kernel, by decide +kernel⟩, by decide⟩, by decide +kernel, ⟨trivial, lf_X5_27, trivial, trivial, trivial, trivial, trivial, trivial⟩⟩
theorem pk_43 : px_okm m_X5_beginAnew := ⟨⟨pw_355, by decide +kernel, ⟨by decide +kernel, by decide +kernel⟩, by decide⟩, by decide +kernel, ⟨trivial, trivial, ⟨lf_X5_27, List.forall_mem_cons.mpr ⟨fun r hr => by cases hr; exact Or.inl rfl, fun _ h => absurd h List.not_mem_nil⟩⟩, trivial, trivial, ⟨lf_X5_31, List.forall_mem_cons.mpr ⟨fun r hr => by cases hr; exact Or.inl rfl, fun _ h => absurd h List.not_mem_nil⟩⟩, trivial, trivial, ⟨lf_X5_34, List.forall_mem_cons.mpr ⟨fun r hr => by cases hr; exact Or.inl rfl, fun _ h => absurd h List.not_mem_nil⟩⟩, trivial, trivial, ⟨lf_X5_37, List.forall_mem_cons.mpr ⟨fun r hr => by cases hr; exact Or.inl rfl, fun _ h => absurd h List.not_mem_nil⟩⟩, trivial, trivial, ⟨lf_X5_40, List.forall_mem_cons.mpr ⟨fun r hr => by cases hr; exact Or.inl rfl, fun _ h => absurd h List.not_mem_nil⟩⟩, trivial, trivial, ⟨lf_X5_43, List.forall_mem_cons.mpr ⟨fun r hr => by cases hr; exact Or.inl rfl, fun _ h => absurd h List.not_mem_nil⟩⟩, trivial, trivial⟩⟩
theorem pk_44 : px_okm m_X5_addThing := ⟨⟨pw_439, by decide +kernel, ⟨by decide +kernel, by decide +kernel⟩, by decide⟩, by decide +kernel, ⟨trivial, lf_X5_31, trivial, trivial, trivial, lf_X5_11, trivial, lf_X5_31, trivial, trivial, trivial, lf_X5_17, trivial, lf_X5_31, pw_440, trivial, trivial, trivial, lf_X5_31, trivial, trivial, ⟨lf_X5_31, List.forall_mem_cons.mpr ⟨fun r hr => by cases hr; exact Or.inl rfl, fun _ h => absurd h List.not_mem_nil⟩⟩, trivial, trivial⟩⟩
theorem pk_45 : px_okm m_X5_addHarm := ⟨⟨pw_448, by decide +kernel, ⟨by decide +kernel, by decide +kernel⟩, by decide⟩, by decide +kernel, ⟨trivial, lf_X5_34, trivial, trivial, trivial, lf_X5_21, trivial, lf_X5_34, trivial, trivial, trivial, trivial, lf_X5_34, trivial, trivial, ⟨lf_X5_34, List.forall_mem_cons.mpr ⟨fun r hr => by cases hr; exact Or.inl rfl, fun _ h => absurd h List.not_mem_nil⟩⟩, trivial, trivial⟩⟩
theorem pk_46 : px_okm m_X5_becomeLike := ⟨⟨pw_453, by decide +kernel, ⟨by decide +kernel, by decide +kernel⟩, by decide⟩, by decide +kernel, ⟨trivial, trivial, lf_X5_27, ⟨lf_X5_27, List.forall_mem_cons.mpr ⟨fun r hr => by cases hr; exact Or.inl rfl, fun _ h => absurd h List.not_mem_nil⟩⟩, trivial, trivial, lf_X5_31, ⟨lf_X5_31, List.forall_mem_cons.mpr ⟨fun r hr => by cases hr; exact Or.inl rfl, fun _ h => absurd h List.not_mem_nil⟩⟩, trivial, trivial, lf_X5_34, ⟨lf_X5_34, List.forall_mem_cons.mpr ⟨fun r hr => by cases hr; exact Or.inl rfl, fun _ h => absurd h List.not_mem_nil⟩⟩, trivial, trivial, ⟨lf_X5_37, List.forall_mem_cons.mpr ⟨fun r hr => by cases hr; exact Or.inl rfl, fun _ h => absurd h List.not_mem_nil⟩⟩, trivial, trivial, lf_X5_40, ⟨lf_X5_40, List.forall_mem_cons.mpr ⟨fun r hr => by cases hr; exact Or.inl rfl, fun _ h => absurd h List.not_mem_nil⟩⟩, trivial, trivial, lf_X5_43, ⟨lf_X5_43, List.forall_mem_cons.mpr ⟨fun r hr => by cases hr; exact Or.inl rfl, fun _ h => absurd h List.not_mem_nil⟩⟩, trivial, trivial, trivial, trivial, trivial, trivial, lf_X5_11, trivial, trivial, lf_X5_11, trivial, trivial, trivial, trivial, trivial, trivial, lf_X5_17, trivial, trivial, lf_X5_17, trivial, trivial, px_mkC ⟨pw_454, pw_310, pw_309, pw_72⟩, trivial, lf_X5_21, trivial, trivial, lf_X5_21, trivial, trivial, px_mkC ⟨pw_454, pw_310, pw_309, pw_72⟩, trivial, trivial⟩⟩
theorem pk_47 : px_okm m_X5_thingAt := ⟨⟨pw_466, by decide +kernel, ⟨by decide +kernel, by decide +kernel⟩, by decide⟩, by decide +kernel, ⟨trivial, trivial, trivial, trivial, lf_X5_31, trivial, trivial, trivial, trivial, trivial, lf_X5_11, trivial, trivial, trivial, trivial, trivial, trivial⟩⟩
theorem pk_48 : px_okm m_X5_oathOf := ⟨⟨pw_493, by decide +kernel, ⟨by decide +kernel, by decide +kernel⟩, by decide⟩, by decide +kernel, ⟨trivial, trivial, trivial, trivial, lf_X5_31, trivial, trivial, trivial, trivial, trivial, lf_X5_17, trivial, trivial, trivial, pw_440, trivial, trivial⟩⟩
theorem pk_49 : px_okm m_X5_hasHarm := ⟨⟨pw_517, by decide +kernel, ⟨by decide +kernel, by decide +kernel⟩, by decide⟩, by decide +kernel, ⟨trivial, trivial, trivial, trivial, lf_X5_34, trivial, trivial, trivial, trivial, trivial, trivial, trivial, trivial, trivial⟩⟩
theorem pk_50 : px_okm m_X5_harmAt := ⟨⟨pw_584, by decide +kernel, ⟨by decide +kernel, by decide +kernel⟩, by decide⟩, by decide +kernel, ⟨trivial, trivial, px_lkc pt_49 (Or.inl lm_X5_53) px_lkn, trivial, trivial, lf_X5_21, trivial, trivial, trivial, trivial, trivial, trivial⟩⟩
theorem pk_51 : px_okm m_X5_sendTo := ⟨⟨pw_485, by decide +kernel, ⟨by decide +kernel, by decide +kernel⟩, by decide⟩, by decide +kernel, ⟨trivial, trivial, lf_X5_57, px_lkc pt_55 (Or.inl lm_X5_60) px_lkn, trivial, trivial, lf_X5_40, trivial, px_lkc pt_3 (Or.inr lm_X5_64_0) (px_lkc pt_78 (Or.inr lm_X5_64_1) (px_lkc pt_78 (Or.inr lm_X5_64_3) (px_lkc pt_3 (Or.inr lm_X5_64_8) (px_lkc pt_78 (Or.inr lm_X5_64_9) px_lkn)))), trivial, ⟨lf_X5_40, List.forall_mem_cons.mpr ⟨fun r hr => by cases hr; exact Or.inl rfl, fun _ h => absurd h List.not_mem_nil⟩⟩, trivial, trivial, lf_X5_40, px_lkc pt_79 (Or.inr lm_X5_68_0) (px_lkc pt_79 (Or.inr lm_X5_68_1) (px_lkc pt_79 (Or.inr lm_X5_68_3) (px_lkc pt_79 (Or.inr lm_X5_68_8) (px_lkc pt_95 (Or.inr lm_X5_68_9) px_lkn)))), trivial, trivial, trivial, lf_X5_57, trivial, lf_X5_40, px_lkc pt_56 (Or.inl lm_X5_71) px_lkn, trivial, trivial⟩⟩
theorem pk_52 : px_okm m_X5_tryHarm := ⟨⟨pw_521, by decide +kernel, ⟨by decide +kernel, by decide +kernel⟩, by decide⟩, by decide +kernel, ⟨trivial, trivial, lf_X5_40, px_lkc pt_59 (Or.inl lm_X5_75) px_lkn, trivial, trivial, trivial, trivial, trivial, trivial, trivial, trivial, trivial, trivial, trivial, pw_440, px_lkc pt_55 (Or.inl lm_X5_60) px_lkn, trivial, trivial, trivial, trivial, lf_X5_43, trivial, trivial, ⟨lf_X5_43, List.forall_mem_cons.mpr ⟨fun r hr => by cases hr; exact Or.inl rfl, fun _ h => absurd h List.not_mem_nil⟩⟩, trivial, trivial, trivial⟩⟩
theorem pk_53 : px_okm m_X5_letPass := ⟨⟨pw_559, by decide +kernel, ⟨by decide +kernel, by decide +kernel⟩, by decide⟩, by decide +kernel, ⟨trivial, pw_440, px_lkc pt_55 (Or.inl lm_X5_60) px_lkn, trivial, trivial, lf_X5_40, trivial, trivial, ⟨lf_X5_40, List.forall_mem_cons.mpr ⟨fun r hr => by cases hr; exact Or.inl rfl, fun _ h => absurd h List.not_mem_nil⟩⟩, trivial, trivial⟩⟩
theorem pk_54 : px_okm m_X5_undoLatest := ⟨⟨pw_567, by decide +kernel, ⟨by decide +kernel, by decide +kernel⟩, by decide⟩, by decide +kernel, ⟨trivial, lf_X5_37, trivial, trivial, trivial, lf_X5_37, trivial, trivial, trivial, trivial, trivial, trivial, lf_X5_37, trivial, trivial, ⟨lf_X5_37, List.forall_mem_cons.mpr ⟨fun r hr => by cases hr; exact Or.inl rfl, fun _ h => absurd h List.not_mem_nil⟩⟩, trivial, lf_X5_37, trivial, trivial, trivial, trivial, trivial, lf_X5_24, trivial, trivial, trivial, lf_X5_24, trivial, trivial, trivial, trivial, px_lkc pt_56 (Or.inl lm_X5_71) px_lkn, trivial, trivial, lf_X5_24, trivial, trivial, trivial, trivial, ⟨lf_X5_40, List.forall_mem_cons.mpr ⟨fun r hr => by cases hr; exact Or.inl rfl, fun _ h => absurd h List.not_mem_nil⟩⟩, trivial, trivial, lf_X5_24, trivial, trivial, trivial, trivial, ⟨lf_X5_43, List.forall_mem_cons.mpr ⟨fun r hr => by cases hr; exact Or.inl rfl, fun _ h => absurd h List.not_mem_nil⟩⟩, trivial, trivial, trivial⟩⟩
theorem pk_55 : px_okm m_X5_keepAct := ⟨⟨pw_489, by decide +kernel, ⟨by decide +kernel, by decide +kernel⟩, by decide⟩, by decide +kernel, ⟨trivial, lf_X5_37, trivial, trivial, trivial, lf_X5_24, trivial, trivial, lf_X5_24, trivial, trivial, px_mkC ⟨pw_454, pw_310, pw_309, pw_72⟩, trivial, trivial, ⟨lf_X5_37, List.forall_mem_cons.mpr ⟨fun r hr => by cases hr; exact Or.inl rfl, fun _ h => absurd h List.not_mem_nil⟩⟩, trivial, lf_X5_37, trivial, trivial, trivial, trivial, lf_X5_24, trivial, trivial, trivial, trivial, lf_X5_24, trivial, trivial, trivial, trivial, trivial, px_lkc pt_48 (Or.inl lm_X5_79) px_lkn, trivial, trivial, lf_X5_24, trivial, trivial, trivial, trivial, lf_X5_40, trivial, trivial, lf_X5_24, trivial, trivial, trivial, trivial, lf_X5_43, trivial, trivial, trivial, lf_X5_37, trivial, trivial, ⟨lf_X5_37, List.forall_mem_cons.mpr ⟨fun r hr => by cases hr; exact Or.inl rfl, fun _ h => absurd h List.not_mem_nil⟩⟩, trivial, trivial⟩⟩
theorem pk_56 : px_okm m_X5_swear := ⟨⟨pw_509, by decide +kernel, ⟨by decide +kernel, by decide +kernel⟩, by decide⟩, by decide +kernel, ⟨trivial, trivial, trivial, trivial, lf_X5_31, trivial, trivial, trivial, trivial, trivial, lf_X5_17, trivial, trivial, trivial, trivial, trivial⟩⟩
theorem pk_57 : px_okm m_X5_boundOn := ⟨⟨pw_576, by decide +kernel, ⟨by decide +kernel, by decide +kernel⟩, by decide⟩, by decide +kernel, ⟨trivial, trivial, trivial, lf_X5_27, trivial, px_lkc pt_58 (Or.inl lm_X5_82) px_lkn, trivial, trivial⟩⟩
theorem pk_58 : px_okm m_X5_boundIf := ⟨⟨pw_529, by decide +kernel, ⟨by decide +kernel, by decide +kernel⟩, by decide⟩, by decide +kernel, ⟨trivial, trivial, trivial, trivial, trivial, trivial, lf_X5_31, trivial, trivial, trivial, trivial, trivial, lf_X5_11, trivial, trivial, trivial, trivial, trivial, trivial, trivial, trivial, trivial, trivial, trivial, trivial, trivial, lf_X5_17, trivial, trivial, trivial, trivial, pw_440, trivial, trivial, trivial, trivial, trivial, trivial, trivial, trivial, trivial, trivial, trivial, trivial, trivial, trivial, trivial, trivial, trivial, trivial, trivial, px_lkc pt_80 (Or.inr lm_X5_86_0) (px_lkc pt_9 (Or.inr lm_X5_86_1) (px_lkc pt_80 (Or.inr lm_X5_86_3) (px_lkc pt_90 (Or.inr lm_X5_86_8) (px_lkc pt_80 (Or.inr lm_X5_86_9) px_lkn)))), trivial, trivial, trivial, trivial, trivial, trivial, trivial, trivial, trivial, trivial, trivial, trivial⟩⟩
theorem pk_59 : px_okm m_X5_openOn := ⟨⟨pw_525, by decide +kernel, ⟨by decide +kernel, by decide +kernel⟩, by decide⟩, by decide +kernel, ⟨trivial, trivial, trivial, trivial, lf_X5_27, trivial, px_lkc pt_58 (Or.inl lm_X5_82) px_lkn, px_lkc pt_60 (Or.inl lm_X5_89) px_lkn, trivial, trivial⟩⟩
theorem pk_60 : px_okm m_X5_openTo := ⟨⟨pw_546, by decide +kernel, ⟨by decide +kernel, by decide +kernel⟩, by decide⟩, by decide +kernel, ⟨trivial, trivial, trivial, trivial, trivial, trivial, lf_X5_34, trivial, trivial, trivial, trivial, trivial, lf_X5_21, trivial, trivial, trivial, trivial, trivial, trivial, trivial, trivial, trivial, trivial, trivial, trivial, trivial, trivial, trivial, trivial⟩⟩
theorem pk_61 : px_okm m_X5_priceOf := ⟨⟨pw_589, by decide +kernel, ⟨by decide +kernel, by decide +kernel⟩, by decide⟩, by decide +kernel, ⟨trivial, trivial, trivial, trivial, trivial, trivial, lf_X5_31, trivial, trivial, trivial, trivial, trivial, trivial, trivial, trivial, trivial, trivial, trivial, trivial, lf_X5_11, trivial, trivial, trivial, trivial, trivial, lf_X5_11, trivial, trivial, lf_X5_92, trivial, trivial, trivial, trivial, trivial, trivial, trivial⟩⟩
theorem pk_62 : px_okm m_X5_cheapestOn := ⟨⟨pw_668, by decide +kernel, ⟨by decide +kernel, by decide +kernel⟩, by decide⟩, by decide +kernel, ⟨trivial, trivial, trivial, trivial, lf_X5_27, trivial, px_lkc pt_58 (Or.inl lm_X5_82) px_lkn, px_lkc pt_60 (Or.inl lm_X5_89) px_lkn, trivial, pw_440, trivial, trivial, trivial, trivial, trivial, trivial, trivial, lf_X5_34, trivial, trivial, trivial, trivial, trivial, trivial, lf_X5_21, trivial, trivial, px_lkc pt_61 (Or.inl lm_X5_95) px_lkn, trivial, trivial, trivial, trivial, trivial, trivial, trivial, trivial, trivial, pw_440, trivial, trivial, trivial, trivial, trivial, trivial, trivial, trivial, trivial, trivial, trivial, trivial, trivial⟩⟩
theorem pk_63 : px_okm m_X5_cheapestPriceOn := ⟨⟨pw_673, by decide +kernel, ⟨by decide +kernel, by decide +kernel⟩, by decide⟩, by decide +kernel, ⟨trivial, trivial, px_lkc pt_62 (Or.inl lm_X5_98) px_lkn, trivial, trivial, pw_440, trivial, pw_440, trivial, trivial, trivial, trivial, px_lkc pt_50 (Or.inl lm_X5_101) px_lkn, px_lkc pt_61 (Or.inl lm_X5_95) px_lkn, trivial, trivial⟩⟩
theorem pk_64 : px_okm m_X5_toldAs := ⟨⟨pw_702, by decide +kernel, ⟨by decide +kernel, by decide +kernel⟩, by decide⟩, by decide +kernel, ⟨trivial, trivial, trivial, trivial, trivial, trivial, lf_X5_31, trivial, trivial, trivial, trivial, trivial, lf_X5_11, trivial, trivial, trivial, trivial, trivial, lf_X5_11, trivial, trivial, px_lkc pt_1 (Or.inr lm_X5_104_0) (px_lkc pt_7 (Or.inr lm_X5_104_1) (px_lkc pt_26 (Or.inr lm_X5_104_3) (px_lkc pt_88 (Or.inr lm_X5_104_8) (px_lkc pt_93 (Or.inr lm_X5_104_9) px_lkn)))), trivial, trivial, trivial, trivial, trivial, trivial, trivial, trivial, trivial, trivial, trivial, trivial, trivial, trivial, trivial, trivial, trivial, trivial⟩⟩
theorem pk_65 : px_okm m_X5_harmsWith := ⟨⟨pw_850, by decide +kernel, ⟨by decide +kernel, by decide +kernel⟩, by decide⟩, by decide +kernel, ⟨trivial, trivial, trivial, trivial, trivial, trivial, lf_X5_34, trivial, trivial, trivial, trivial, trivial, trivial, lf_X5_21, trivial, trivial, trivial, trivial, trivial, trivial, trivial, trivial, trivial, trivial, trivial, trivial, trivial⟩⟩
theorem pk_66 : px_okm m_X6_init := ⟨⟨pw_212, by decide +kernel, ⟨by decide +kernel, by decide +kernel⟩, by decide⟩, by decide +kernel, ⟨trivial, px_mkO ⟨pw_213, pw_87, pw_objcode⟩, trivial, trivial, pw_newarr_int, ⟨lf_X6_9, List.forall_mem_cons.mpr ⟨fun r hr => by cases hr; exact Or.inr ⟨rfl, rfl, rfl, rfl⟩, fun _ h => absurd h List.not_mem_nil⟩⟩, trivial, trivial, ⟨lf_X6_15, List.forall_mem_cons.mpr ⟨fun r hr => by cases hr; exact Or.inl rfl, fun _ h => absurd h List.not_mem_nil⟩⟩, trivial, trivial, ⟨lf_X6_19, List.forall_mem_cons.mpr ⟨fun r hr => by cases hr; exact Or.inl rfl, fun _ h => absurd h List.not_mem_nil⟩⟩, trivial, trivial⟩⟩
theorem pk_67 : px_okm m_X6_isMissing := ⟨⟨pw_286, by decide +kernel, ⟨by decide +kernel, by decide +kernel⟩, by decide⟩, by decide +kernel, ⟨trivial, lf_X6_19, trivial, trivial, trivial, trivial, trivial, trivial, trivial⟩⟩
theorem pk_68 : px_okm m_X6_vanish := ⟨⟨pw_318, by decide +kernel, ⟨by decide +kernel, by decide +kernel⟩, by decide⟩, by decide +kernel, ⟨trivial, trivial, ⟨lf_X6_19, List.forall_mem_cons.mpr ⟨fun r hr => by cases hr; exact Or.inl rfl, fun _ h => absurd h List.not_mem_nil⟩⟩, trivial, trivial⟩⟩
theorem pk_69 : px_okm m_X6_lay := ⟨⟨pw_271, by decide +kernel, ⟨by decide +kernel, by decide +kernel⟩, by decide⟩, by decide +kernel, ⟨trivial, trivial, ⟨lf_X6_15, List.forall_mem_cons.mpr ⟨fun r hr => by cases hr; exact Or.inl rfl, fun _ h => absurd h List.not_mem_nil⟩⟩, trivial, trivial, ⟨lf_X6_19, List.forall_mem_cons.mpr ⟨fun r hr => by cases hr; exact Or.inl rfl, fun _ h => absurd h List.not_mem_nil⟩⟩, trivial, lf_X6_9, trivial, px_mkS (px_lkc pt_223 lm_X6_22 px_lkn), trivial, trivial⟩⟩
theorem pk_70 : px_okm m_X6_spans := ⟨⟨pw_290, by decide +kernel, ⟨by decide +kernel, by decide +kernel⟩, by decide⟩, by decide +kernel, ⟨trivial, trivial, trivial, trivial, trivial, trivial, lf_X6_19, trivial, trivial, trivial, trivial, trivial, trivial, trivial, trivial⟩⟩
theorem pk_71 : px_okm m_X6_put := ⟨⟨pw_294, by decide +kernel, ⟨by decide +kernel, by decide +kernel⟩, by decide⟩, by decide +kernel, ⟨trivial, trivial, trivial, px_lkc pt_70 (Or.inl lm_X6_28) px_lkn, trivial, trivial, trivial, trivial, lf_X6_9, trivial, trivial, trivial, px_lkc pt_75 (Or.inl lm_X6_32) px_lkn, trivial, trivial, lf_X6_9, trivial, trivial, trivial, trivial⟩⟩
theorem pk_72 : px_okm m_X6_takeFrom := ⟨⟨pw_307, by decide +kernel, ⟨by decide +kernel, by decide +kernel⟩, by decide⟩, by decide +kernel, ⟨trivial, trivial, trivial, px_lkc pt_70 (Or.inl lm_X6_28) px_lkn, trivial, trivial, trivial, trivial, px_lkc pt_70 (Or.inl lm_X6_28) px_lkn, trivial, trivial, lf_X6_9, trivial, trivial, lf_X6_9, trivial, trivial, px_mkC ⟨pw_308, pw_310, pw_309, pw_72⟩, trivial, trivial⟩⟩
theorem pk_73 : px_okm m_X6_tellsYesOrNo := ⟨⟨pw_739, by decide +kernel, ⟨by decide +kernel, by decide +kernel⟩, by decide⟩, by decide +kernel, ⟨trivial, trivial, trivial, px_lkc pt_70 (Or.inl lm_X6_28) px_lkn, trivial, trivial, trivial, trivial, trivial, trivial, trivial, trivial, trivial, lf_X6_9, trivial, trivial, trivial, trivial, trivial, trivial, lf_X6_9, trivial, trivial, trivial, trivial, trivial, trivial, trivial, trivial, trivial, trivial, trivial, trivial, trivial⟩⟩
theorem pk_74 : px_okm m_X6_tellsHit := ⟨⟨pw_747, by decide +kernel, ⟨by decide +kernel, by decide +kernel⟩, by decide⟩, by decide +kernel, ⟨trivial, trivial, trivial, px_lkc pt_70 (Or.inl lm_X6_28) px_lkn, trivial, trivial, lf_X6_9, trivial, trivial, trivial, trivial, trivial, trivial, trivial, trivial, trivial⟩⟩
theorem pk_75 : px_okm m_X6_narrowed := ⟨⟨pw_299, by decide +kernel, ⟨by decide +kernel, by decide +kernel⟩, by decide⟩, by decide +kernel, ⟨trivial, lf_X6_15, trivial, trivial, trivial, trivial, trivial, trivial, trivial, trivial, trivial, trivial⟩⟩
theorem pk_76 : px_okm m_X7_init := ⟨⟨pw_376, by decide +kernel, ⟨by decide +kernel, by decide +kernel⟩, by decide⟩, by decide +kernel, ⟨trivial, px_mkO ⟨pw_377, pw_87, pw_objcode⟩, trivial, trivial, ⟨lf_X7_9, List.forall_mem_cons.mpr ⟨fun r hr => by cases hr; exact Or.inr ⟨rfl, rfl, rfl, rfl⟩, List.forall_mem_cons.mpr ⟨fun r hr => by cases hr; exact Or.inr ⟨rfl, rfl, rfl, rfl⟩, List.forall_mem_cons.mpr ⟨fun r hr => by cases hr; exact Or.inr ⟨rfl, rfl, rfl, rfl⟩, List.forall_mem_cons.mpr ⟨fun r hr => by cases hr; exact Or.inr ⟨rfl, rfl, rfl, rfl⟩, List.forall_mem_cons.mpr ⟨fun r hr => by cases hr; exact Or.inr ⟨rfl, rfl, rfl, rfl⟩, fun _ h => absurd h List.not_mem_nil⟩⟩⟩⟩⟩⟩, trivial, trivial, ⟨lf_X7_15, List.forall_mem_cons.mpr ⟨fun r hr => by cases hr; exact Or.inr ⟨rfl, rfl, rfl, rfl⟩, List.forall_mem_cons.mpr ⟨fun r hr => by cases hr; exact Or.inr ⟨rfl, rfl, rfl, rfl⟩, List.forall_mem_cons.mpr ⟨fun r hr => by cases hr; exact Or.inr ⟨rfl, rfl, rfl, rfl⟩, List.forall_mem_cons.mpr ⟨fun r hr => by cases hr; exact Or.inr ⟨rfl, rfl, rfl, rfl⟩, List.forall_mem_cons.mpr ⟨fun r hr => by cases hr; exact Or.inr ⟨rfl, rfl, rfl, rfl⟩, fun _ h => absurd h List.not_mem_nil⟩⟩⟩⟩⟩⟩, trivial, trivial, ⟨lf_X7_18, List.forall_mem_cons.mpr ⟨fun r hr => by cases hr; exact Or.inr ⟨rfl, rfl, rfl, rfl⟩, List.forall_mem_cons.mpr ⟨fun r hr => by cases hr; exact Or.inr ⟨rfl, rfl, rfl, rfl⟩, List.forall_mem_cons.mpr ⟨fun r hr => by cases hr; exact Or.inr ⟨rfl, rfl, rfl, rfl⟩, List.forall_mem_cons.mpr ⟨fun r hr => by cases hr; exact Or.inr ⟨rfl, rfl, rfl, rfl⟩, List.forall_mem_cons.mpr ⟨fun r hr => by cases hr; exact Or.inr ⟨rfl, rfl, rfl, rfl⟩, fun _ h => absurd h List.not_mem_nil⟩⟩⟩⟩⟩⟩, trivial, trivial⟩⟩
theorem pk_77 : px_okm m_X7_isOf := ⟨⟨pw_800, by decide +kernel, ⟨by decide +kernel, by decide +kernel⟩, by decide⟩, by decide +kernel, ⟨trivial, trivial, trivial, trivial, trivial, trivial, trivial⟩⟩
theorem pk_78 : px_okm m_X7_daysToAsk := ⟨⟨pw_480, by decide +kernel, ⟨by decide +kernel, by decide +kernel⟩, by decide⟩, by decide +kernel, ⟨trivial, trivial, trivial, lf_X7_15, trivial, px_mkM ⟨pw_481, pw_474, pw_79, pw_maxcode⟩, trivial, trivial⟩⟩
theorem pk_79 : px_okm m_X7_swearsOn := ⟨⟨pw_505, by decide +kernel, ⟨by decide +kernel, by decide +kernel⟩, by decide⟩, by decide +kernel, ⟨trivial, trivial, trivial⟩⟩
theorem pk_80 : px_okm m_X7_isHeldBy := ⟨⟨pw_542, by decide +kernel, ⟨by decide +kernel, by decide +kernel⟩, by decide⟩, by decide +kernel, ⟨trivial, trivial, trivial⟩⟩
theorem pk_81 : px_okm m_X7_size := ⟨⟨pw_858, by decide +kernel, ⟨by decide +kernel, by decide +kernel⟩, by decide⟩, by decide +kernel, ⟨trivial, trivial, px_lkc pt_85 (Or.inl lm_X7_27) px_lkn, trivial, lf_X7_18, trivial, trivial⟩⟩
theorem pk_82 : px_okm m_X7_mark := ⟨⟨pw_845, by decide +kernel, ⟨by decide +kernel, by decide +kernel⟩, by decide⟩, by decide +kernel, ⟨trivial, trivial, px_lkc pt_85 (Or.inl lm_X7_27) px_lkn, trivial, lf_X7_9, trivial, trivial⟩⟩
theorem pk_83 : px_okm m_X8_init := ⟨⟨pw_200, by decide +kernel, ⟨by decide +kernel, by decide +kernel⟩, by decide⟩, by decide +kernel, ⟨trivial, px_mkO ⟨pw_201, pw_87, pw_objcode⟩, trivial, trivial, pw_newarr_int, ⟨lf_X8_11, List.forall_mem_cons.mpr ⟨fun r hr => by cases hr; exact Or.inr ⟨rfl, rfl, rfl, rfl⟩, fun _ h => absurd h List.not_mem_nil⟩⟩, trivial, trivial, ⟨lf_X8_15, List.forall_mem_cons.mpr ⟨fun r hr => by cases hr; exact Or.inl rfl, fun _ h => absurd h List.not_mem_nil⟩⟩, trivial, trivial⟩⟩
theorem pk_84 : px_okm m_X8_clear := ⟨⟨pw_808, by decide +kernel, ⟨by decide +kernel, by decide +kernel⟩, by decide⟩, by decide +kernel, ⟨trivial, trivial, ⟨lf_X8_15, List.forall_mem_cons.mpr ⟨fun r hr => by cases hr; exact Or.inl rfl, fun _ h => absurd h List.not_mem_nil⟩⟩, trivial, trivial⟩⟩
theorem pk_85 : px_okm m_X8_leave := ⟨⟨pw_818, by decide +kernel, ⟨by decide +kernel, by decide +kernel⟩, by decide⟩, by decide +kernel, ⟨trivial, lf_X8_15, trivial, trivial, trivial, lf_X8_11, trivial, lf_X8_15, trivial, trivial, trivial, trivial, lf_X8_15, trivial, trivial, ⟨lf_X8_15, List.forall_mem_cons.mpr ⟨fun r hr => by cases hr; exact Or.inl rfl, fun _ h => absurd h List.not_mem_nil⟩⟩, trivial, trivial⟩⟩
theorem pk_86 : px_okm m_X8_numberAt := ⟨⟨pw_871, by decide +kernel, ⟨by decide +kernel, by decide +kernel⟩, by decide⟩, by decide +kernel, ⟨trivial, trivial, trivial, trivial, lf_X8_15, trivial, trivial, trivial, trivial, trivial, lf_X8_11, trivial, trivial, trivial, pw_872, trivial, trivial⟩⟩
theorem pk_87 : px_okm m_X9_init := ⟨⟨pw_423, by decide +kernel, ⟨by decide +kernel, by decide +kernel⟩, by decide⟩, by decide +kernel, ⟨trivial, trivial, trivial, trivial, px_mkI (px_lkc pt_0 lm_X9_3 px_lkn), trivial, trivial⟩⟩
theorem pk_88 : px_okm m_X9_toldKind := ⟨⟨pw_717, by decide +kernel, ⟨by decide +kernel, by decide +kernel⟩, by decide⟩, by decide +kernel, ⟨trivial, trivial, trivial⟩⟩
theorem pk_89 : px_okm m_X9_isOf := ⟨⟨pw_794, by decide +kernel, ⟨by decide +kernel, by decide +kernel⟩, by decide⟩, by decide +kernel, ⟨trivial, trivial, trivial, trivial, trivial, px_mkX (px_lkc pt_2 lm_X9_9 px_lkn), trivial, trivial, trivial, trivial, trivial, trivial⟩⟩
theorem pk_90 : px_okm m_X9_isHeldBy := ⟨⟨pw_540, by decide +kernel, ⟨by decide +kernel, by decide +kernel⟩, by decide⟩, by decide +kernel, ⟨trivial, trivial, trivial⟩⟩
theorem pk_91 : px_okm m_X9_size := ⟨⟨pw_854, by decide +kernel, ⟨by decide +kernel, by decide +kernel⟩, by decide⟩, by decide +kernel, ⟨trivial, trivial, px_lkc pt_85 (Or.inl lm_X9_13) px_lkn, trivial, trivial, trivial, trivial, px_mkX (px_lkc pt_4 lm_X9_19 px_lkn), trivial, trivial, trivial⟩⟩
theorem pk_92 : px_okm m_X10_init := ⟨⟨pw_403, by decide +kernel, ⟨by decide +kernel, by decide +kernel⟩, by decide⟩, by decide +kernel, ⟨trivial, trivial, trivial, trivial, px_mkI (px_lkc pt_25 lm_X10_3 px_lkn), trivial, trivial⟩⟩
theorem pk_93 : px_okm m_X10_toldKind := ⟨⟨pw_720, by decide +kernel, ⟨by decide +kernel, by decide +kernel⟩, by decide⟩, by decide +kernel, ⟨trivial, trivial, trivial⟩⟩
theorem pk_94 : px_okm m_X10_isOf := ⟨⟨pw_798, by decide +kernel, ⟨by decide +kernel, by decide +kernel⟩, by decide⟩, by decide +kernel, ⟨trivial, trivial, trivial, trivial, trivial, px_mkX (px_lkc pt_27 lm_X10_9 px_lkn), trivial, trivial, trivial, trivial, trivial, trivial⟩⟩
theorem pk_95 : px_okm m_X10_swearsOn := ⟨⟨pw_504, by decide +kernel, ⟨by decide +kernel, by decide +kernel⟩, by decide⟩, by decide +kernel, ⟨trivial, trivial, trivial, trivial, trivial, trivial, trivial, trivial⟩⟩
theorem pk_96 : px_okm m_X10_mark := ⟨⟨pw_839, by decide +kernel, ⟨by decide +kernel, by decide +kernel⟩, by decide⟩, by decide +kernel, ⟨trivial, trivial, px_lkc pt_85 (Or.inl lm_X10_13) px_lkn, trivial, trivial, trivial, px_mkX (px_lkc pt_29 lm_X10_19 px_lkn), trivial, trivial, trivial, trivial⟩⟩
theorem pk_97 : px_okm m_X11_init := ⟨⟨pw_85, by decide +kernel, ⟨by decide +kernel, by decide +kernel⟩, by decide⟩, by decide +kernel, ⟨trivial, px_mkO ⟨pw_86, pw_87, pw_objcode⟩, trivial, trivial, ⟨pw_89, pw_90⟩, ⟨lf_X11_11, List.forall_mem_cons.mpr ⟨fun r hr => by cases hr; exact Or.inr ⟨rfl, rfl, rfl, rfl⟩, fun _ h => absurd h List.not_mem_nil⟩⟩, trivial, ⟨_, rfl, pw_91⟩, trivial, px_mkI (px_lkc pt_30 lm_X11_17 px_lkn), ⟨lf_X11_18, List.forall_mem_cons.mpr ⟨fun r hr => by cases hr; exact Or.inr ⟨rfl, rfl, rfl, rfl⟩, fun _ h => absurd h List.not_mem_nil⟩⟩, trivial, ⟨_, rfl, pw_117⟩, trivial, px_mkI (px_lkc pt_41 lm_X11_24 px_lkn), ⟨lf_X11_25, List.forall_mem_cons.mpr ⟨fun r hr => by cases hr; exact Or.inr ⟨rfl, rfl, rfl, rfl⟩, fun _ h => absurd h List.not_mem_nil⟩⟩, trivial, ⟨_, rfl, pw_117⟩, trivial, px_mkI (px_lkc pt_41 lm_X11_24 px_lkn), ⟨lf_X11_29, List.forall_mem_cons.mpr ⟨fun r hr => by cases hr; exact Or.inr ⟨rfl, rfl, rfl, rfl⟩, fun _ h => absurd h List.not_mem_nil⟩⟩, trivial, trivial, ⟨pw_117, pw_168⟩, ⟨lf_X11_32, List.forall_mem_cons.mpr ⟨fun r hr => by cases hr; exact Or.inr ⟨rfl, rfl, rfl, rfl⟩, fun _ h => absurd h List.not_mem_nil⟩⟩, trivial, ⟨_, rfl, pw_169⟩, trivial, px_mkI (px_lkc pt_12 lm_X11_38 px_lkn), ⟨lf_X11_39, List.forall_mem_cons.mpr ⟨fun r hr => by cases hr; exact Or.inr ⟨rfl, rfl, rfl, rfl⟩, fun _ h => absurd h List.not_mem_nil⟩⟩, trivial, ⟨_, rfl, pw_196⟩, trivial, px_mkI (px_lkc pt_83 lm_X11_45 px_lkn), ⟨lf_X11_46, List.forall_mem_cons.mpr ⟨fun r hr => by cases hr; exact Or.inr ⟨rfl, rfl, rfl, rfl⟩, fun _ h => absurd h List.not_mem_nil⟩⟩, trivial, trivial, ⟨lf_X11_50, List.forall_mem_cons.mpr ⟨fun r hr => by cases hr; exact Or.inl rfl, fun _ h => absurd h List.not_mem_nil⟩⟩, trivial, trivial, ⟨lf_X11_54, List.forall_mem_cons.mpr ⟨fun r hr => by cases hr; exact Or.inl rfl, fun _ h => absurd h List.not_mem_nil⟩⟩, trivial, trivial, trivial, trivial, trivial, trivial, lf_X11_11, trivial, ⟨_, rfl, pw_89⟩, trivial, px_mkI (px_lkc pt_66 lm_X11_57 px_lkn), trivial, trivial, trivial, trivial, trivial, trivial, trivial, trivial, trivial, lf_X11_32, trivial, ⟨_, rfl, pw_117⟩, trivial, px_mkI (px_lkc pt_41 lm_X11_24 px_lkn), trivial, trivial, trivial, trivial, trivial⟩⟩
theorem pk_98 : px_okm m_X11_row := ⟨⟨pw_257, by decide +kernel, ⟨by decide +kernel, by decide +kernel⟩, by decide⟩, by decide +kernel, ⟨trivial, trivial, px_lkc pt_131 (Or.inl lm_X11_58) px_lkn, trivial, trivial, trivial, trivial, trivial, trivial, trivial, trivial, trivial, trivial, trivial, pw_262, trivial, trivial, trivial, trivial, trivial, px_lkc pt_129 (Or.inl lm_X11_63) px_lkn, trivial, trivial, trivial, trivial, px_lkc pt_69 (Or.inl lm_X11_67) px_lkn, trivial, trivial, px_lkc pt_130 (Or.inl lm_X11_71) px_lkn, trivial, trivial⟩⟩
theorem pk_99 : px_okm m_X11_set := ⟨⟨pw_282, by decide +kernel, ⟨by decide +kernel, by decide +kernel⟩, by decide⟩, by decide +kernel, ⟨trivial, trivial, px_lkc pt_131 (Or.inl lm_X11_58) px_lkn, trivial, trivial, trivial, pw_262, trivial, trivial, px_lkc pt_67 (Or.inl lm_X11_74) px_lkn, trivial, trivial, trivial, px_lkc pt_129 (Or.inl lm_X11_63) px_lkn, trivial, trivial, trivial, trivial, px_lkc pt_70 (Or.inl lm_X11_78) px_lkn, trivial, trivial, trivial, px_lkc pt_129 (Or.inl lm_X11_63) px_lkn, trivial, trivial, trivial, trivial, trivial, px_lkc pt_71 (Or.inl lm_X11_82) px_lkn, px_lkc pt_130 (Or.inl lm_X11_71) px_lkn, trivial, trivial⟩⟩
theorem pk_100 : px_okm m_X11_copy := ⟨⟨pw_303, by decide +kernel, ⟨by decide +kernel, by decide +kernel⟩, by decide⟩, by decide +kernel, ⟨trivial, trivial, px_lkc pt_131 (Or.inl lm_X11_58) px_lkn, trivial, trivial, trivial, px_lkc pt_131 (Or.inl lm_X11_58) px_lkn, trivial, trivial, trivial, trivial, trivial, pw_262, trivial, trivial, px_lkc pt_67 (Or.inl lm_X11_74) px_lkn, trivial, trivial, px_lkc pt_67 (Or.inl lm_X11_74) px_lkn, trivial, trivial, trivial, px_lkc pt_129 (Or.inl lm_X11_63) px_lkn, trivial, trivial, lf_X11_86, trivial, lf_X11_86, trivial, trivial, trivial, px_lkc pt_129 (Or.inl lm_X11_63) px_lkn, trivial, trivial, trivial, trivial, px_lkc pt_70 (Or.inl lm_X11_78) px_lkn, trivial, trivial, trivial, trivial, px_lkc pt_70 (Or.inl lm_X11_78) px_lkn, trivial, trivial, trivial, px_lkc pt_129 (Or.inl lm_X11_63) px_lkn, trivial, trivial, trivial, trivial, trivial, trivial, px_lkc pt_72 (Or.inl lm_X11_89) px_lkn, trivial, trivial, px_lkc pt_130 (Or.inl lm_X11_71) px_lkn, trivial, trivial⟩⟩
theorem pk_101 : px_okm m_X11_drop := ⟨⟨pw_314, by decide +kernel, ⟨by decide +kernel, by decide +kernel⟩, by decide⟩, by decide +kernel, ⟨trivial, trivial, px_lkc pt_131 (Or.inl lm_X11_58) px_lkn, trivial, trivial, trivial, pw_262, trivial, trivial, px_lkc pt_67 (Or.inl lm_X11_74) px_lkn, trivial, trivial, trivial, px_lkc pt_129 (Or.inl lm_X11_63) px_lkn, trivial, trivial, lf_X11_93, trivial, trivial, px_lkc pt_68 (Or.inl lm_X11_96) px_lkn, trivial, trivial, px_lkc pt_130 (Or.inl lm_X11_71) px_lkn, trivial, trivial⟩⟩
theorem pk_102 : px_okm m_X11_feed := ⟨⟨pw_322, by decide +kernel, ⟨by decide +kernel, by decide +kernel⟩, by decide⟩, by decide +kernel, ⟨trivial, trivial, trivial, trivial, trivial, pw_262, trivial, trivial, lf_X11_18, trivial, px_lkc pt_31 (Or.inl lm_X11_99) px_lkn, trivial, trivial, lf_X11_18, lf_X11_103, trivial, pw_327, trivial, trivial⟩⟩
theorem pk_103 : px_okm m_X11_realm := ⟨⟨pw_331, by decide +kernel, ⟨by decide +kernel, by decide +kernel⟩, by decide⟩, by decide +kernel, ⟨trivial, lf_X11_18, trivial, lf_X11_25, px_lkc pt_32 (Or.inl lm_X11_107) px_lkn, trivial, trivial, trivial, lf_X11_18, lf_X11_111, ⟨lf_X11_50, List.forall_mem_cons.mpr ⟨fun r hr => by cases hr; exact Or.inl rfl, fun _ h => absurd h List.not_mem_nil⟩⟩, pw_449, trivial, lf_X11_18, lf_X11_115, trivial, trivial, trivial, lf_X11_29, trivial, lf_X11_25, px_lkc pt_46 (Or.inl lm_X11_118) px_lkn, trivial, lf_X11_29, lf_X11_122, trivial, trivial⟩⟩
theorem pk_104 : px_okm m_X11_fault := ⟨⟨pw_458, by decide +kernel, ⟨by decide +kernel, by decide +kernel⟩, by decide⟩, by decide +kernel, ⟨trivial, lf_X11_50, trivial, trivial⟩⟩
theorem pk_105 : px_okm m_X11_askFor := ⟨⟨pw_462, by decide +kernel, ⟨by decide +kernel, by decide +kernel⟩, by decide⟩, by decide +kernel, ⟨trivial, lf_X11_29, trivial, px_lkc pt_47 (Or.inl lm_X11_125) px_lkn, trivial, trivial, trivial, pw_262, trivial, trivial, lf_X11_29, lf_X11_129, trivial, px_lkc pt_3 (Or.inr lm_X11_132_0) (px_lkc pt_78 (Or.inr lm_X11_132_1) (px_lkc pt_78 (Or.inr lm_X11_132_3) (px_lkc pt_3 (Or.inr lm_X11_132_8) (px_lkc pt_78 (Or.inr lm_X11_132_9) px_lkn)))), trivial, trivial, trivial, pw_327, trivial, trivial, lf_X11_29, trivial, px_lkc pt_51 (Or.inl lm_X11_138) px_lkn, trivial, lf_X11_29, lf_X11_129, trivial, trivial⟩⟩
theorem pk_106 : px_okm m_X11_tries := ⟨⟨pw_513, by decide +kernel, ⟨by decide +kernel, by decide +kernel⟩, by decide⟩, by decide +kernel, ⟨trivial, lf_X11_29, trivial, px_lkc pt_49 (Or.inl lm_X11_142) px_lkn, trivial, pw_262, trivial, trivial, lf_X11_29, trivial, px_lkc pt_52 (Or.inl lm_X11_145) px_lkn, trivial, trivial, trivial, trivial, trivial, trivial⟩⟩
theorem pk_107 : px_okm m_X11_waits := ⟨⟨pw_550, by decide +kernel, ⟨by decide +kernel, by decide +kernel⟩, by decide⟩, by decide +kernel, ⟨trivial, lf_X11_29, px_lkc pt_42 (Or.inl lm_X11_148) px_lkn, trivial, pw_555, trivial, trivial, trivial, trivial, trivial, trivial, trivial, pw_262, trivial, trivial, lf_X11_29, lf_X11_129, trivial, trivial, trivial, trivial, pw_327, trivial, trivial, lf_X11_29, trivial, px_lkc pt_53 (Or.inl lm_X11_152) px_lkn, trivial, lf_X11_29, lf_X11_129, trivial, trivial⟩⟩
theorem pk_108 : px_okm m_X11_undo := ⟨⟨pw_563, by decide +kernel, ⟨by decide +kernel, by decide +kernel⟩, by decide⟩, by decide +kernel, ⟨trivial, lf_X11_29, px_lkc pt_54 (Or.inl lm_X11_156) px_lkn, trivial, trivial, lf_X11_29, lf_X11_159, trivial, pw_555, trivial, trivial⟩⟩
theorem pk_109 : px_okm m_X11_thing := ⟨⟨pw_571, by decide +kernel, ⟨by decide +kernel, by decide +kernel⟩, by decide⟩, by decide +kernel, ⟨trivial, lf_X11_29, trivial, px_lkc pt_47 (Or.inl lm_X11_125) px_lkn, trivial, trivial, trivial, pw_262, trivial, trivial, trivial, trivial, lf_X11_162, trivial, trivial, lf_X11_165, trivial, trivial, lf_X11_29, trivial, px_lkc pt_48 (Or.inl lm_X11_168) px_lkn, trivial, trivial, lf_X11_29, trivial, lf_X11_29, lf_X11_129, px_lkc pt_57 (Or.inl lm_X11_171) px_lkn, trivial, lf_X11_174, trivial, trivial, trivial, trivial, trivial, px_lkc pt_3 (Or.inr lm_X11_132_0) (px_lkc pt_78 (Or.inr lm_X11_132_1) (px_lkc pt_78 (Or.inr lm_X11_132_3) (px_lkc pt_3 (Or.inr lm_X11_132_8) (px_lkc pt_78 (Or.inr lm_X11_132_9) px_lkn)))), trivial, pw_262, trivial, trivial⟩⟩
theorem pk_110 : px_okm m_X11_harm := ⟨⟨pw_580, by decide +kernel, ⟨by decide +kernel, by decide +kernel⟩, by decide⟩, by decide +kernel, ⟨trivial, lf_X11_29, trivial, px_lkc pt_49 (Or.inl lm_X11_142) px_lkn, trivial, pw_262, trivial, trivial, lf_X11_29, trivial, px_lkc pt_50 (Or.inl lm_X11_177) px_lkn, trivial, trivial, trivial, trivial, trivial, trivial, trivial, lf_X11_29, trivial, lf_X11_29, lf_X11_129, px_lkc pt_57 (Or.inl lm_X11_171) px_lkn, trivial, trivial, trivial, trivial, trivial, trivial, trivial, lf_X11_29, trivial, px_lkc pt_61 (Or.inl lm_X11_180) px_lkn, trivial, pw_262, trivial, trivial⟩⟩
theorem pk_111 : px_okm m_X11_open := ⟨⟨pw_593, by decide +kernel, ⟨by decide +kernel, by decide +kernel⟩, by decide⟩, by decide +kernel, ⟨trivial, lf_X11_29, px_lkc pt_42 (Or.inl lm_X11_148) px_lkn, trivial, pw_555, trivial, trivial, trivial, px_lkc pt_134 (Or.inl lm_X11_183) px_lkn, trivial, trivial, lf_X11_29, trivial, px_lkc pt_59 (Or.inl lm_X11_186) px_lkn, trivial, pw_262, trivial, trivial⟩⟩
theorem pk_112 : px_okm m_X11_gap := ⟨⟨pw_602, by decide +kernel, ⟨by decide +kernel, by decide +kernel⟩, by decide⟩, by decide +kernel, ⟨trivial, lf_X11_29, px_lkc pt_42 (Or.inl lm_X11_148) px_lkn, trivial, trivial, lf_X11_39, trivial, lf_X11_29, px_lkc pt_13 (Or.inl lm_X11_189) px_lkn, trivial, pw_555, trivial, trivial⟩⟩
theorem pk_113 : px_okm m_X11_cover := ⟨⟨pw_611, by decide +kernel, ⟨by decide +kernel, by decide +kernel⟩, by decide⟩, by decide +kernel, ⟨trivial, lf_X11_29, px_lkc pt_42 (Or.inl lm_X11_148) px_lkn, trivial, pw_555, trivial, trivial, px_mkS (px_lkc pt_135 lm_X11_193 px_lkn), trivial, trivial, lf_X11_39, trivial, lf_X11_29, px_lkc pt_14 (Or.inl lm_X11_196) px_lkn, trivial, px_mkS (px_lkc pt_136 lm_X11_199 px_lkn), trivial, pw_262, trivial, trivial⟩⟩
theorem pk_114 : px_okm m_X11_round := ⟨⟨pw_640, by decide +kernel, ⟨by decide +kernel, by decide +kernel⟩, by decide⟩, by decide +kernel, ⟨trivial, lf_X11_29, px_lkc pt_42 (Or.inl lm_X11_148) px_lkn, trivial, pw_555, trivial, trivial, trivial, trivial, trivial, trivial, trivial, pw_262, trivial, trivial, lf_X11_39, trivial, lf_X11_29, px_lkc pt_16 (Or.inl lm_X11_202) px_lkn, trivial, trivial, trivial, lf_X11_39, lf_X11_205, trivial, trivial, lf_X11_39, lf_X11_208, trivial, trivial, lf_X11_39, trivial, px_lkc pt_19 (Or.inl lm_X11_211) px_lkn, trivial, trivial⟩⟩
theorem pk_115 : px_okm m_X11_cheapest := ⟨⟨pw_664, by decide +kernel, ⟨by decide +kernel, by decide +kernel⟩, by decide⟩, by decide +kernel, ⟨trivial, lf_X11_29, px_lkc pt_42 (Or.inl lm_X11_148) px_lkn, trivial, pw_555, trivial, trivial, trivial, px_lkc pt_134 (Or.inl lm_X11_183) px_lkn, trivial, trivial, px_mkS (px_lkc pt_135 lm_X11_193 px_lkn), trivial, pw_262, trivial, trivial, trivial, trivial, lf_X11_29, trivial, px_lkc pt_62 (Or.inl lm_X11_214) px_lkn, trivial, trivial, lf_X11_29, trivial, px_lkc pt_63 (Or.inl lm_X11_217) px_lkn, trivial, trivial⟩⟩
theorem pk_116 : px_okm m_X11_defended := ⟨⟨pw_679, by decide +kernel, ⟨by decide +kernel, by decide +kernel⟩, by decide⟩, by decide +kernel, ⟨trivial, lf_X11_29, px_lkc pt_42 (Or.inl lm_X11_148) px_lkn, trivial, pw_555, trivial, trivial, trivial, px_lkc pt_134 (Or.inl lm_X11_183) px_lkn, trivial, trivial, px_mkS (px_lkc pt_135 lm_X11_193 px_lkn), trivial, pw_262, trivial, trivial, lf_X11_39, trivial, lf_X11_29, trivial, px_lkc pt_20 (Or.inl lm_X11_220) px_lkn, trivial, trivial, trivial, trivial, trivial, trivial, lf_X11_39, trivial, lf_X11_29, trivial, lf_X11_29, trivial, px_lkc pt_47 (Or.inl lm_X11_125) px_lkn, trivial, px_lkc pt_21 (Or.inl lm_X11_224) px_lkn, trivial, trivial⟩⟩
theorem pk_117 : px_okm m_X11_enough := ⟨⟨pw_694, by decide +kernel, ⟨by decide +kernel, by decide +kernel⟩, by decide⟩, by decide +kernel, ⟨trivial, lf_X11_29, px_lkc pt_42 (Or.inl lm_X11_148) px_lkn, trivial, pw_555, trivial, trivial, px_mkS (px_lkc pt_135 lm_X11_193 px_lkn), trivial, trivial, lf_X11_39, trivial, lf_X11_29, px_lkc pt_22 (Or.inl lm_X11_228) px_lkn, trivial, px_mkS (px_lkc pt_136 lm_X11_199 px_lkn), trivial, pw_262, trivial, trivial⟩⟩
theorem pk_118 : px_okm m_X11_odds := ⟨⟨pw_724, by decide +kernel, ⟨by decide +kernel, by decide +kernel⟩, by decide⟩, by decide +kernel, ⟨trivial, lf_X11_29, trivial, px_lkc pt_49 (Or.inl lm_X11_142) px_lkn, trivial, trivial, trivial, trivial, trivial, trivial, trivial, px_mkS (px_lkc pt_135 lm_X11_193 px_lkn), trivial, pw_262, trivial, trivial, lf_X11_29, trivial, px_lkc pt_50 (Or.inl lm_X11_177) px_lkn, trivial, lf_X11_29, trivial, lf_X11_29, lf_X11_129, px_lkc pt_57 (Or.inl lm_X11_171) px_lkn, trivial, px_mkS (px_lkc pt_222 lm_X11_231 px_lkn), trivial, trivial, trivial, px_mkS (px_lkc pt_137 lm_X11_236 px_lkn), trivial, trivial, trivial, trivial, px_mkS (px_lkc pt_137 lm_X11_236 px_lkn), trivial, trivial, trivial, trivial, px_mkS (px_lkc pt_138 lm_X11_239 px_lkn), trivial, trivial, trivial, trivial, trivial, trivial, trivial, trivial, px_mkM ⟨pw_731, pw_474, pw_79, pw_maxcode⟩, trivial, trivial, trivial⟩⟩
theorem pk_119 : px_okm m_X11_hitBy := ⟨⟨pw_735, by decide +kernel, ⟨by decide +kernel, by decide +kernel⟩, by decide⟩, by decide +kernel, ⟨trivial, lf_X11_29, px_lkc pt_42 (Or.inl lm_X11_148) px_lkn, trivial, pw_555, trivial, trivial, trivial, px_lkc pt_131 (Or.inl lm_X11_58) px_lkn, trivial, trivial, trivial, trivial, trivial, trivial, trivial, trivial, trivial, pw_262, trivial, trivial, px_lkc pt_67 (Or.inl lm_X11_74) px_lkn, trivial, trivial, trivial, px_lkc pt_129 (Or.inl lm_X11_63) px_lkn, trivial, trivial, trivial, trivial, px_lkc pt_70 (Or.inl lm_X11_78) px_lkn, trivial, trivial, trivial, px_lkc pt_129 (Or.inl lm_X11_63) px_lkn, trivial, trivial, trivial, trivial, px_lkc pt_73 (Or.inl lm_X11_247) px_lkn, trivial, pw_262, trivial, trivial, trivial, lf_X11_39, trivial, lf_X11_29, trivial, trivial, trivial, px_lkc pt_23 (Or.inl lm_X11_250) px_lkn, px_lkc pt_130 (Or.inl lm_X11_71) px_lkn, trivial, trivial⟩⟩
theorem pk_120 : px_okm m_X11_terms := ⟨⟨pw_751, by decide +kernel, ⟨by decide +kernel, by decide +kernel⟩, by decide⟩, by decide +kernel, ⟨trivial, lf_X11_29, px_lkc pt_42 (Or.inl lm_X11_148) px_lkn, trivial, trivial, lf_X11_39, trivial, lf_X11_29, px_lkc pt_24 (Or.inl lm_X11_254) px_lkn, trivial, pw_555, trivial, trivial⟩⟩
theorem pk_121 : px_okm m_X11_image := ⟨⟨pw_759, by decide +kernel, ⟨by decide +kernel, by decide +kernel⟩, by decide⟩, by decide +kernel, ⟨trivial, trivial, px_lkc pt_132 (Or.inl lm_X11_257) px_lkn, trivial, trivial, trivial, pw_262, trivial, trivial, lf_X11_29, px_lkc pt_42 (Or.inl lm_X11_148) px_lkn, trivial, pw_555, trivial, trivial, trivial, lf_X11_29, px_lkc pt_46 (Or.inl lm_X11_118) px_lkn, trivial, trivial, trivial⟩⟩
theorem pk_122 : px_okm m_X11_restore := ⟨⟨pw_767, by decide +kernel, ⟨by decide +kernel, by decide +kernel⟩, by decide⟩, by decide +kernel, ⟨trivial, trivial, px_lkc pt_132 (Or.inl lm_X11_257) px_lkn, trivial, trivial, trivial, pw_262, trivial, trivial, px_lkc pt_42 (Or.inl lm_X11_148) px_lkn, trivial, pw_555, trivial, trivial, lf_X11_29, trivial, px_lkc pt_46 (Or.inl lm_X11_118) px_lkn, trivial, trivial, trivial⟩⟩
theorem pk_123 : px_okm m_X11_kind := ⟨⟨pw_771, by decide +kernel, ⟨by decide +kernel, by decide +kernel⟩, by decide⟩, by decide +kernel, ⟨trivial, lf_X11_29, trivial, px_lkc pt_47 (Or.inl lm_X11_125) px_lkn, trivial, trivial, trivial, pw_262, trivial, trivial, px_lkc pt_1 (Or.inr lm_X11_261_0) (px_lkc pt_7 (Or.inr lm_X11_261_1) (px_lkc pt_26 (Or.inr lm_X11_261_3) (px_lkc pt_88 (Or.inr lm_X11_261_8) (px_lkc pt_93 (Or.inr lm_X11_261_9) px_lkn)))), trivial, trivial⟩⟩
theorem pk_124 : px_okm m_X11_as := ⟨⟨pw_776, by decide +kernel, ⟨by decide +kernel, by decide +kernel⟩, by decide⟩, by decide +kernel, ⟨trivial, lf_X11_29, trivial, px_lkc pt_47 (Or.inl lm_X11_125) px_lkn, trivial, trivial, trivial, trivial, trivial, trivial, trivial, trivial, pw_262, trivial, trivial, trivial, px_lkc pt_2 (Or.inr lm_X11_264_0) (px_lkc pt_8 (Or.inr lm_X11_264_1) (px_lkc pt_27 (Or.inr lm_X11_264_3) (px_lkc pt_89 (Or.inr lm_X11_264_8) (px_lkc pt_94 (Or.inr lm_X11_264_9) px_lkn)))), trivial, trivial, trivial, lf_X11_174, px_lkc pt_130 (Or.inl lm_X11_71) px_lkn, trivial, trivial, trivial, px_lkc pt_129 (Or.inl lm_X11_63) px_lkn, trivial, trivial⟩⟩
theorem pk_125 : px_okm m_X11_ask := ⟨⟨pw_804, by decide +kernel, ⟨by decide +kernel, by decide +kernel⟩, by decide⟩, by decide +kernel, ⟨trivial, lf_X11_29, trivial, px_lkc pt_47 (Or.inl lm_X11_125) px_lkn, trivial, trivial, trivial, trivial, px_mkS (px_lkc pt_135 lm_X11_193 px_lkn), trivial, pw_262, trivial, trivial, lf_X11_46, px_lkc pt_84 (Or.inl lm_X11_267) px_lkn, trivial, trivial, trivial, trivial, lf_X11_46, trivial, lf_X11_29, px_lkc pt_4 (Or.inr lm_X11_270_0) (px_lkc pt_10 (Or.inr lm_X11_270_1) (px_lkc pt_28 (Or.inr lm_X11_270_3) (px_lkc pt_91 (Or.inr lm_X11_270_8) (px_lkc pt_28 (Or.inr lm_X11_270_9) px_lkn)))), trivial, trivial, trivial, lf_X11_46, trivial, lf_X11_29, px_lkc pt_5 (Or.inr lm_X11_273_0) (px_lkc pt_11 (Or.inr lm_X11_273_1) (px_lkc pt_29 (Or.inr lm_X11_273_3) (px_lkc pt_5 (Or.inr lm_X11_273_8) (px_lkc pt_96 (Or.inr lm_X11_273_9) px_lkn)))), trivial, trivial⟩⟩
theorem pk_126 : px_okm m_X11_trace := ⟨⟨pw_867, by decide +kernel, ⟨by decide +kernel, by decide +kernel⟩, by decide⟩, by decide +kernel, ⟨trivial, lf_X11_46, trivial, px_lkc pt_86 (Or.inl lm_X11_276) px_lkn, trivial, trivial⟩⟩
theorem pk_127 : px_okm m_X11_count := ⟨⟨pw_876, by decide +kernel, ⟨by decide +kernel, by decide +kernel⟩, by decide⟩, by decide +kernel, ⟨trivial, trivial, trivial, px_lkc pt_133 (Or.inl lm_X11_279) px_lkn, trivial, trivial, lf_X11_29, lf_X11_122, trivial, trivial, lf_X11_29, lf_X11_282, trivial, trivial, lf_X11_29, lf_X11_129, trivial, trivial, lf_X11_29, lf_X11_285, trivial, trivial, lf_X11_29, lf_X11_288, trivial, trivial, lf_X11_29, lf_X11_159, trivial, trivial, lf_X11_18, lf_X11_103, trivial, pw_262, trivial, trivial⟩⟩
theorem pk_128 : px_okm m_X11_status := ⟨⟨pw_884, by decide +kernel, ⟨by decide +kernel, by decide +kernel⟩, by decide⟩, by decide +kernel, ⟨trivial, lf_X11_54, trivial, trivial⟩⟩
theorem pk_129 : px_okm m_X11_found := ⟨⟨pw_266, by decide +kernel, ⟨by decide +kernel, by decide +kernel⟩, by decide⟩, by decide +kernel, ⟨trivial, trivial, ⟨lf_X11_54, List.forall_mem_cons.mpr ⟨fun r hr => by cases hr; exact Or.inl rfl, fun _ h => absurd h List.not_mem_nil⟩⟩, pw_267, trivial, trivial, trivial, trivial⟩⟩
theorem pk_130 : px_okm m_X11_clean := ⟨⟨pw_278, by decide +kernel, ⟨by decide +kernel, by decide +kernel⟩, by decide⟩, by decide +kernel, ⟨trivial, trivial, ⟨lf_X11_54, List.forall_mem_cons.mpr ⟨fun r hr => by cases hr; exact Or.inl rfl, fun _ h => absurd h List.not_mem_nil⟩⟩, trivial, trivial, trivial⟩⟩
theorem pk_131 : px_okm m_X11_rowAt := ⟨⟨pw_261, by decide +kernel, ⟨by decide +kernel, by decide +kernel⟩, by decide⟩, by decide +kernel, ⟨trivial, trivial, trivial, trivial, trivial, trivial, lf_X11_11, trivial, trivial, trivial, trivial, trivial, trivial⟩⟩
theorem pk_132 : px_okm m_X11_imageAt := ⟨⟨pw_763, by decide +kernel, ⟨by decide +kernel, by decide +kernel⟩, by decide⟩, by decide +kernel, ⟨trivial, trivial, trivial, trivial, trivial, trivial, lf_X11_32, trivial, trivial, trivial, trivial, trivial, trivial⟩⟩
theorem pk_133 : px_okm m_X11_rowsThere := ⟨⟨pw_880, by decide +kernel, ⟨by decide +kernel, by decide +kernel⟩, by decide⟩, by decide +kernel, ⟨trivial, trivial, trivial, trivial, trivial, trivial, trivial, trivial, lf_X11_11, trivial, trivial, trivial, trivial, lf_X11_11, trivial, trivial, px_lkc pt_67 (Or.inl lm_X11_74) px_lkn, trivial, trivial, trivial, trivial, trivial, trivial, trivial⟩⟩
theorem pk_134 : px_okm m_X11_isAhead := ⟨⟨pw_597, by decide +kernel, ⟨by decide +kernel, by decide +kernel⟩, by decide⟩, by decide +kernel, ⟨trivial, trivial, lf_X11_29, lf_X11_129, trivial, trivial, trivial, lf_X11_29, lf_X11_129, trivial, trivial, trivial, trivial, trivial, trivial, trivial, trivial⟩⟩
theorem pk_135 : px_okm m_X11_isPair := ⟨⟨pw_614, by decide +kernel, ⟨by decide +kernel, by decide +kernel⟩, by decide⟩, by decide +kernel, ⟨trivial, trivial, trivial, trivial, trivial, trivial, trivial, trivial, trivial, trivial⟩⟩
theorem pk_136 : px_okm m_X11_sizeOrSet := ⟨⟨pw_634, by decide +kernel, ⟨by decide +kernel, by decide +kernel⟩, by decide⟩, by decide +kernel, ⟨trivial, pw_635, trivial, trivial, trivial, trivial, trivial, trivial, trivial, px_mkS (px_lkc pt_222 lm_X11_231 px_lkn), trivial, trivial⟩⟩
theorem pk_137 : px_okm m_X11_power := ⟨⟨pw_727, by decide +kernel, ⟨by decide +kernel, by decide +kernel⟩, by decide⟩, by decide +kernel, ⟨trivial, trivial, trivial, trivial, trivial, trivial, trivial, trivial, trivial, trivial, trivial, trivial, trivial, trivial, trivial, trivial⟩⟩
theorem pk_138 : px_okm m_X11_sharedDivisor := ⟨⟨pw_730, by decide +kernel, ⟨by decide +kernel, by decide +kernel⟩, by decide⟩, by decide +kernel, ⟨trivial, trivial, trivial, trivial, trivial, trivial, trivial, trivial, trivial, trivial, trivial, trivial, trivial, trivial, trivial, trivial, trivial, trivial, trivial, trivial, trivial, trivial, trivial, trivial⟩⟩
theorem pk_139 : px_okm m_X12_init := ⟨⟨pw_889, by decide +kernel, ⟨by decide +kernel, by decide +kernel⟩, by decide⟩, by decide +kernel, ⟨trivial, px_mkO ⟨pw_890, pw_87, pw_objcode⟩, trivial, trivial, pw_newarr_int, ⟨lf_X12_7, List.forall_mem_cons.mpr ⟨fun r hr => by cases hr; exact Or.inr ⟨rfl, rfl, rfl, rfl⟩, fun _ h => absurd h List.not_mem_nil⟩⟩, trivial, trivial, pw_newarr_int, ⟨lf_X12_13, List.forall_mem_cons.mpr ⟨fun r hr => by cases hr; exact Or.inr ⟨rfl, rfl, rfl, rfl⟩, fun _ h => absurd h List.not_mem_nil⟩⟩, trivial, trivial, pw_newarr_int, ⟨lf_X12_16, List.forall_mem_cons.mpr ⟨fun r hr => by cases hr; exact Or.inr ⟨rfl, rfl, rfl, rfl⟩, fun _ h => absurd h List.not_mem_nil⟩⟩, trivial, trivial, pw_newarr_int, ⟨lf_X12_19, List.forall_mem_cons.mpr ⟨fun r hr => by cases hr; exact Or.inr ⟨rfl, rfl, rfl, rfl⟩, fun _ h => absurd h List.not_mem_nil⟩⟩, trivial, trivial, pw_newarr_boolean, ⟨lf_X12_22, List.forall_mem_cons.mpr ⟨fun r hr => by cases hr; exact Or.inr ⟨rfl, rfl, rfl, rfl⟩, fun _ h => absurd h List.not_mem_nil⟩⟩, trivial, trivial, pw_newarr_int, ⟨lf_X12_26, List.forall_mem_cons.mpr ⟨fun r hr => by cases hr; exact Or.inr ⟨rfl, rfl, rfl, rfl⟩, fun _ h => absurd h List.not_mem_nil⟩⟩, trivial, trivial, pw_newarr_byte, ⟨lf_X12_29, List.forall_mem_cons.mpr ⟨fun r hr => by cases hr; exact Or.inr ⟨rfl, rfl, rfl, rfl⟩, fun _ h => absurd h List.not_mem_nil⟩⟩, trivial, trivial, pw_newarr_int, ⟨lf_X12_33, List.forall_mem_cons.mpr ⟨fun r hr => by cases hr; exact Or.inr ⟨rfl, rfl, rfl, rfl⟩, fun _ h => absurd h List.not_mem_nil⟩⟩, trivial, trivial, pw_newarr_int, ⟨lf_X12_36, List.forall_mem_cons.mpr ⟨fun r hr => by cases hr; exact Or.inr ⟨rfl, rfl, rfl, rfl⟩, fun _ h => absurd h List.not_mem_nil⟩⟩, trivial, trivial, pw_newarr_int, ⟨lf_X12_39, List.forall_mem_cons.mpr ⟨fun r hr => by cases hr; exact Or.inr ⟨rfl, rfl, rfl, rfl⟩, fun _ h => absurd h List.not_mem_nil⟩⟩, trivial, trivial, ⟨lf_X12_42, List.forall_mem_cons.mpr ⟨fun r hr => by cases hr; exact Or.inl rfl, fun _ h => absurd h List.not_mem_nil⟩⟩, trivial, trivial⟩⟩
theorem pk_140 : px_okm m_X12_in := ⟨⟨pw_972, by decide +kernel, ⟨by decide +kernel, by decide +kernel⟩, by decide⟩, by decide +kernel, ⟨trivial, trivial, trivial, trivial, trivial, trivial, trivial, trivial, trivial, trivial, trivial⟩⟩
theorem pk_141 : px_okm m_X12_finds := ⟨⟨pw_977, by decide +kernel, ⟨by decide +kernel, by decide +kernel⟩, by decide⟩, by decide +kernel, ⟨trivial, trivial, ⟨lf_X12_46, List.forall_mem_cons.mpr ⟨fun r hr => by cases hr; exact Or.inl rfl, fun _ h => absurd h List.not_mem_nil⟩⟩, pw_978, trivial, trivial, trivial, trivial⟩⟩
theorem pk_142 : px_okm m_X12_well := ⟨⟨pw_982, by decide +kernel, ⟨by decide +kernel, by decide +kernel⟩, by decide⟩, by decide +kernel, ⟨trivial, trivial, ⟨lf_X12_46, List.forall_mem_cons.mpr ⟨fun r hr => by cases hr; exact Or.inl rfl, fun _ h => absurd h List.not_mem_nil⟩⟩, trivial, trivial, trivial⟩⟩
theorem pk_143 : px_okm m_X12_isRow := ⟨⟨pw_969, by decide +kernel, ⟨by decide +kernel, by decide +kernel⟩, by decide⟩, by decide +kernel, ⟨trivial, trivial, trivial, px_mkS (px_lkc pt_140 lm_X12_50 px_lkn), trivial, trivial⟩⟩
theorem pk_144 : px_okm m_X12_row := ⟨⟨pw_966, by decide +kernel, ⟨by decide +kernel, by decide +kernel⟩, by decide⟩, by decide +kernel, ⟨trivial, px_mkS (px_lkc pt_143 lm_X12_54 px_lkn), trivial, trivial, trivial, trivial, px_mkS (px_lkc pt_140 lm_X12_50 px_lkn), trivial, trivial, trivial, trivial, pw_973, trivial, trivial, trivial, trivial, trivial, px_lkc pt_141 (Or.inl lm_X12_59) px_lkn, trivial, trivial, lf_X12_7, trivial, trivial, trivial, trivial, trivial, trivial, lf_X12_13, trivial, trivial, trivial, trivial, trivial, trivial, trivial, trivial, trivial, lf_X12_16, trivial, trivial, trivial, trivial, trivial, trivial, trivial, trivial, trivial, trivial, trivial, px_lkc pt_142 (Or.inl lm_X12_63) px_lkn, trivial, trivial⟩⟩
theorem pk_145 : px_okm m_X12_set := ⟨⟨pw_986, by decide +kernel, ⟨by decide +kernel, by decide +kernel⟩, by decide⟩, by decide +kernel, ⟨trivial, px_mkS (px_lkc pt_143 lm_X12_54 px_lkn), trivial, pw_973, trivial, trivial, lf_X12_7, trivial, trivial, trivial, trivial, trivial, px_lkc pt_141 (Or.inl lm_X12_59) px_lkn, trivial, trivial, trivial, trivial, lf_X12_13, trivial, trivial, trivial, trivial, px_mkS (px_lkc pt_140 lm_X12_50 px_lkn), trivial, trivial, trivial, px_lkc pt_141 (Or.inl lm_X12_59) px_lkn, trivial, trivial, lf_X12_7, trivial, trivial, trivial, trivial, trivial, trivial, trivial, trivial, lf_X12_7, trivial, trivial, trivial, trivial, trivial, trivial, trivial, trivial, trivial, trivial, lf_X12_16, trivial, trivial, trivial, trivial, trivial, trivial, trivial, trivial, trivial, px_lkc pt_142 (Or.inl lm_X12_63) px_lkn, trivial, trivial⟩⟩
theorem pk_146 : px_okm m_X12_copy := ⟨⟨pw_990, by decide +kernel, ⟨by decide +kernel, by decide +kernel⟩, by decide⟩, by decide +kernel, ⟨trivial, px_mkS (px_lkc pt_143 lm_X12_54 px_lkn), trivial, trivial, px_mkS (px_lkc pt_143 lm_X12_54 px_lkn), trivial, pw_973, trivial, trivial, lf_X12_7, trivial, trivial, trivial, trivial, lf_X12_7, trivial, trivial, trivial, trivial, trivial, px_lkc pt_141 (Or.inl lm_X12_59) px_lkn, trivial, trivial, lf_X12_7, trivial, trivial, trivial, lf_X12_7, trivial, trivial, trivial, trivial, trivial, px_lkc pt_141 (Or.inl lm_X12_59) px_lkn, trivial, trivial, trivial, trivial, trivial, trivial, trivial, trivial, trivial, lf_X12_13, trivial, trivial, trivial, trivial, trivial, trivial, trivial, lf_X12_13, trivial, trivial, trivial, trivial, trivial, trivial, trivial, px_lkc pt_141 (Or.inl lm_X12_59) px_lkn, trivial, trivial, trivial, trivial, trivial, trivial, trivial, trivial, trivial, trivial, trivial, trivial, trivial, trivial, trivial, trivial, trivial, trivial, trivial, trivial, trivial, trivial, trivial, trivial, lf_X12_16, trivial, trivial, trivial, trivial, trivial, trivial, trivial, trivial, lf_X12_16, trivial, trivial, trivial, trivial, trivial, trivial, trivial, trivial, trivial, trivial, trivial, trivial, trivial, px_lkc pt_142 (Or.inl lm_X12_63) px_lkn, trivial, trivial⟩⟩
theorem pk_147 : px_okm m_X12_drop := ⟨⟨pw_994, by decide +kernel, ⟨by decide +kernel, by decide +kernel⟩, by decide⟩, by decide +kernel, ⟨trivial, px_mkS (px_lkc pt_143 lm_X12_54 px_lkn), trivial, pw_973, trivial, trivial, lf_X12_7, trivial, trivial, trivial, trivial, trivial, px_lkc pt_141 (Or.inl lm_X12_59) px_lkn, trivial, trivial, lf_X12_7, trivial, trivial, trivial, trivial, trivial, lf_X12_13, trivial, trivial, px_lkc pt_142 (Or.inl lm_X12_63) px_lkn, trivial, trivial⟩⟩
theorem pk_148 : px_okm m_X12_status := ⟨⟨pw_998, by decide +kernel, ⟨by decide +kernel, by decide +kernel⟩, by decide⟩, by decide +kernel, ⟨trivial, lf_X12_46, trivial, trivial⟩⟩
theorem pk_149 : px_okm m_X12_get := ⟨⟨pw_1046, by decide +kernel, ⟨by decide +kernel, by decide +kernel⟩, by decide⟩, by decide +kernel, ⟨trivial, lf_X12_19, trivial, lf_X12_66, trivial, trivial, trivial, trivial, trivial⟩⟩
theorem pk_150 : px_okm m_X12_put := ⟨⟨pw_1011, by decide +kernel, ⟨by decide +kernel, by decide +kernel⟩, by decide⟩, by decide +kernel, ⟨trivial, lf_X12_19, trivial, lf_X12_66, trivial, trivial, trivial, trivial, trivial, trivial⟩⟩
theorem pk_151 : px_okm m_X12_copyRealm := ⟨⟨pw_1056, by decide +kernel, ⟨by decide +kernel, by decide +kernel⟩, by decide⟩, by decide +kernel, ⟨trivial, trivial, trivial, trivial, trivial, trivial, lf_X12_19, trivial, trivial, trivial, trivial, trivial, trivial, lf_X12_19, trivial, trivial, trivial, trivial, trivial, trivial, trivial, trivial, trivial, trivial, trivial⟩⟩
theorem pk_152 : px_okm m_X12_isThing := ⟨⟨pw_1068, by decide +kernel, ⟨by decide +kernel, by decide +kernel⟩, by decide⟩, by decide +kernel, ⟨trivial, trivial, trivial, trivial, px_lkc pt_149 (Or.inl lm_X12_69) px_lkn, trivial, trivial, px_mkS (px_lkc pt_140 lm_X12_50 px_lkn), trivial, trivial⟩⟩
theorem pk_153 : px_okm m_X12_isHarm := ⟨⟨pw_1092, by decide +kernel, ⟨by decide +kernel, by decide +kernel⟩, by decide⟩, by decide +kernel, ⟨trivial, trivial, trivial, trivial, px_lkc pt_149 (Or.inl lm_X12_69) px_lkn, trivial, trivial, px_mkS (px_lkc pt_140 lm_X12_50 px_lkn), trivial, trivial⟩⟩
theorem pk_154 : px_okm m_X12_ofThing := ⟨⟨pw_1076, by decide +kernel, ⟨by decide +kernel, by decide +kernel⟩, by decide⟩, by decide +kernel, ⟨trivial, trivial, trivial, trivial, trivial, trivial, trivial, trivial, px_lkc pt_149 (Or.inl lm_X12_69) px_lkn, trivial, trivial⟩⟩
theorem pk_155 : px_okm m_X12_feed := ⟨⟨pw_1002, by decide +kernel, ⟨by decide +kernel, by decide +kernel⟩, by decide⟩, by decide +kernel, ⟨trivial, trivial, trivial, px_mkS (px_lkc pt_140 lm_X12_50 px_lkn), trivial, pw_973, trivial, trivial, lf_X12_42, trivial, trivial, pw_1003, trivial, trivial, lf_X12_29, trivial, lf_X12_42, trivial, trivial, trivial, trivial, trivial, lf_X12_42, trivial, trivial, ⟨lf_X12_42, List.forall_mem_cons.mpr ⟨fun r hr => by cases hr; exact Or.inl rfl, fun _ h => absurd h List.not_mem_nil⟩⟩, trivial, lf_X12_42, trivial, trivial⟩⟩
theorem pk_156 : px_okm m_X12_here := ⟨⟨pw_1019, by decide +kernel, ⟨by decide +kernel, by decide +kernel⟩, by decide⟩, by decide +kernel, ⟨trivial, lf_X12_73, trivial, lf_X12_42, trivial, trivial, lf_X12_29, trivial, lf_X12_73, trivial, trivial, trivial, trivial, trivial, trivial, trivial⟩⟩
theorem pk_157 : px_okm m_X12_next := ⟨⟨pw_1015, by decide +kernel, ⟨by decide +kernel, by decide +kernel⟩, by decide⟩, by decide +kernel, ⟨trivial, trivial, lf_X12_73, ⟨lf_X12_76, List.forall_mem_cons.mpr ⟨fun r hr => by cases hr; exact Or.inl rfl, fun _ h => absurd h List.not_mem_nil⟩⟩, trivial, trivial, ⟨lf_X12_79, List.forall_mem_cons.mpr ⟨fun r hr => by cases hr; exact Or.inl rfl, fun _ h => absurd h List.not_mem_nil⟩⟩, trivial, px_lkc pt_156 (Or.inl lm_X12_82) px_lkn, trivial, trivial, trivial, trivial, trivial, ⟨lf_X12_86, List.forall_mem_cons.mpr ⟨fun r hr => by cases hr; exact Or.inl rfl, fun _ h => absurd h List.not_mem_nil⟩⟩, trivial, trivial, trivial, trivial, px_mkS (px_lkc pt_140 lm_X12_50 px_lkn), trivial, trivial, px_lkc pt_156 (Or.inl lm_X12_82) px_lkn, trivial, trivial, px_mkS (px_lkc pt_140 lm_X12_50 px_lkn), trivial, trivial, trivial, lf_X12_73, trivial, lf_X12_76, trivial, trivial, trivial, trivial, trivial, lf_X12_79, trivial, trivial, px_lkc pt_156 (Or.inl lm_X12_82) px_lkn, trivial, trivial, trivial, trivial, trivial, lf_X12_79, ⟨lf_X12_79, List.forall_mem_cons.mpr ⟨fun r hr => by cases hr; exact Or.inl rfl, fun _ h => absurd h List.not_mem_nil⟩⟩, trivial, trivial, lf_X12_73, trivial, trivial, ⟨lf_X12_73, List.forall_mem_cons.mpr ⟨fun r hr => by cases hr; exact Or.inl rfl, fun _ h => absurd h List.not_mem_nil⟩⟩, trivial, trivial, trivial, lf_X12_73, trivial, lf_X12_76, trivial, trivial, trivial, trivial, trivial, trivial, ⟨lf_X12_86, List.forall_mem_cons.mpr ⟨fun r hr => by cases hr; exact Or.inl rfl, fun _ h => absurd h List.not_mem_nil⟩⟩, trivial, trivial, trivial, lf_X12_73, trivial, trivial, ⟨lf_X12_73, List.forall_mem_cons.mpr ⟨fun r hr => by cases hr; exact Or.inl rfl, fun _ h => absurd h List.not_mem_nil⟩⟩, trivial, trivial, trivial, trivial, px_mkS (px_lkc pt_140 lm_X12_50 px_lkn), trivial, trivial, trivial, trivial, trivial, trivial, trivial, trivial, trivial, trivial, ⟨lf_X12_86, List.forall_mem_cons.mpr ⟨fun r hr => by cases hr; exact Or.inl rfl, fun _ h => absurd h List.not_mem_nil⟩⟩, trivial, trivial⟩⟩
theorem pk_158 : px_okm m_X12_fails := ⟨⟨pw_1027, by decide +kernel, ⟨by decide +kernel, by decide +kernel⟩, by decide⟩, by decide +kernel, ⟨trivial, lf_X12_89, trivial, trivial, trivial, ⟨lf_X12_89, List.forall_mem_cons.mpr ⟨fun r hr => by cases hr; exact Or.inl rfl, fun _ h => absurd h List.not_mem_nil⟩⟩, trivial, trivial, lf_X12_76, ⟨lf_X12_92, List.forall_mem_cons.mpr ⟨fun r hr => by cases hr; exact Or.inl rfl, fun _ h => absurd h List.not_mem_nil⟩⟩, trivial, trivial⟩⟩
theorem pk_159 : px_okm m_X12_sign := ⟨⟨pw_1023, by decide +kernel, ⟨by decide +kernel, by decide +kernel⟩, by decide⟩, by decide +kernel, ⟨trivial, lf_X12_89, trivial, trivial, lf_X12_86, trivial, trivial, trivial, px_lkc pt_157 (Or.inl lm_X12_95) px_lkn, trivial, trivial, trivial, px_lkc pt_158 (Or.inl lm_X12_98) px_lkn, trivial, trivial⟩⟩
theorem pk_160 : px_okm m_X12_numberBut := ⟨⟨pw_1035, by decide +kernel, ⟨by decide +kernel, by decide +kernel⟩, by decide⟩, by decide +kernel, ⟨trivial, lf_X12_79, trivial, trivial, lf_X12_89, trivial, trivial, lf_X12_86, trivial, trivial, trivial, trivial, px_lkc pt_158 (Or.inl lm_X12_98) px_lkn, trivial, trivial, lf_X12_79, trivial, trivial, px_mkS (px_lkc pt_140 lm_X12_50 px_lkn), trivial, trivial, lf_X12_79, trivial, trivial, trivial, trivial, px_lkc pt_158 (Or.inl lm_X12_98) px_lkn, trivial, trivial, px_lkc pt_157 (Or.inl lm_X12_95) px_lkn, trivial, trivial, trivial⟩⟩
theorem pk_161 : px_okm m_X12_number := ⟨⟨pw_1031, by decide +kernel, ⟨by decide +kernel, by decide +kernel⟩, by decide⟩, by decide +kernel, ⟨trivial, trivial, trivial, trivial, px_lkc pt_160 (Or.inl lm_X12_102) px_lkn, trivial, trivial, trivial, px_lkc pt_159 (Or.inl lm_X12_106) px_lkn, trivial, trivial, trivial⟩⟩
theorem pk_162 : px_okm m_X12_kindOf := ⟨⟨pw_1038, by decide +kernel, ⟨by decide +kernel, by decide +kernel⟩, by decide⟩, by decide +kernel, ⟨trivial, trivial, trivial, trivial, trivial, trivial, trivial, trivial, trivial, trivial, trivial, trivial, trivial, trivial, trivial, trivial, trivial, trivial, trivial, trivial, trivial, trivial, trivial, trivial, trivial, trivial, trivial, trivial⟩⟩
theorem pk_163 : px_okm m_X12_readThing := ⟨⟨pw_1042, by decide +kernel, ⟨by decide +kernel, by decide +kernel⟩, by decide⟩, by decide +kernel, ⟨trivial, lf_X12_86, px_mkS (px_lkc pt_162 lm_X12_109 px_lkn), trivial, trivial, trivial, px_lkc pt_149 (Or.inl lm_X12_69) px_lkn, trivial, trivial, trivial, trivial, px_lkc pt_158 (Or.inl lm_X12_98) px_lkn, trivial, trivial, px_lkc pt_157 (Or.inl lm_X12_95) px_lkn, trivial, trivial, trivial, trivial, px_lkc pt_161 (Or.inl lm_X12_112) px_lkn, trivial, trivial, trivial, trivial, trivial, px_lkc pt_161 (Or.inl lm_X12_112) px_lkn, trivial, trivial, lf_X12_89, trivial, trivial, trivial, trivial, trivial, px_lkc pt_149 (Or.inl lm_X12_69) px_lkn, trivial, trivial, trivial, trivial, trivial, trivial, trivial, trivial, px_lkc pt_150 (Or.inl lm_X12_115) px_lkn, trivial, trivial, trivial, trivial, trivial, px_lkc pt_150 (Or.inl lm_X12_115) px_lkn, trivial, trivial, trivial, trivial, trivial, px_lkc pt_150 (Or.inl lm_X12_115) px_lkn, trivial, trivial, trivial, trivial, pw_1047, px_lkc pt_150 (Or.inl lm_X12_115) px_lkn, trivial, trivial, trivial, trivial, px_lkc pt_149 (Or.inl lm_X12_69) px_lkn, trivial, trivial, px_lkc pt_150 (Or.inl lm_X12_115) px_lkn, trivial, trivial⟩⟩
theorem pk_164 : px_okm m_X12_readHarm := ⟨⟨pw_1051, by decide +kernel, ⟨by decide +kernel, by decide +kernel⟩, by decide⟩, by decide +kernel, ⟨trivial, lf_X12_86, trivial, trivial, trivial, trivial, px_lkc pt_158 (Or.inl lm_X12_98) px_lkn, trivial, trivial, trivial, px_lkc pt_149 (Or.inl lm_X12_69) px_lkn, trivial, trivial, trivial, trivial, px_lkc pt_158 (Or.inl lm_X12_98) px_lkn, trivial, trivial, px_lkc pt_157 (Or.inl lm_X12_95) px_lkn, trivial, trivial, trivial, trivial, trivial, px_lkc pt_149 (Or.inl lm_X12_69) px_lkn, trivial, trivial, trivial, trivial, px_lkc pt_161 (Or.inl lm_X12_112) px_lkn, trivial, trivial, lf_X12_89, trivial, trivial, trivial, trivial, trivial, px_lkc pt_149 (Or.inl lm_X12_69) px_lkn, trivial, trivial, px_lkc pt_150 (Or.inl lm_X12_115) px_lkn, trivial, trivial, trivial, trivial, px_lkc pt_149 (Or.inl lm_X12_69) px_lkn, trivial, trivial, px_lkc pt_150 (Or.inl lm_X12_115) px_lkn, trivial, trivial⟩⟩
theorem pk_165 : px_okm m_X12_realm := ⟨⟨pw_1007, by decide +kernel, ⟨by decide +kernel, by decide +kernel⟩, by decide⟩, by decide +kernel, ⟨trivial, trivial, ⟨lf_X12_66, List.forall_mem_cons.mpr ⟨fun r hr => by cases hr; exact Or.inl rfl, fun _ h => absurd h List.not_mem_nil⟩⟩, trivial, trivial, trivial, trivial, trivial, trivial, trivial, trivial, px_lkc pt_150 (Or.inl lm_X12_115) px_lkn, trivial, trivial, trivial, trivial, ⟨lf_X12_73, List.forall_mem_cons.mpr ⟨fun r hr => by cases hr; exact Or.inl rfl, fun _ h => absurd h List.not_mem_nil⟩⟩, trivial, trivial, ⟨lf_X12_89, List.forall_mem_cons.mpr ⟨fun r hr => by cases hr; exact Or.inl rfl, fun _ h => absurd h List.not_mem_nil⟩⟩, trivial, px_lkc pt_157 (Or.inl lm_X12_95) px_lkn, trivial, trivial, px_lkc pt_159 (Or.inl lm_X12_106) px_lkn, trivial, trivial, trivial, trivial, trivial, trivial, px_lkc pt_161 (Or.inl lm_X12_112) px_lkn, px_lkc pt_150 (Or.inl lm_X12_115) px_lkn, trivial, lf_X12_89, trivial, trivial, lf_X12_86, px_mkS (px_lkc pt_162 lm_X12_109 px_lkn), trivial, trivial, px_lkc pt_163 (Or.inl lm_X12_120) px_lkn, trivial, trivial, lf_X12_89, trivial, trivial, lf_X12_86, trivial, trivial, px_lkc pt_164 (Or.inl lm_X12_123) px_lkn, trivial, trivial, trivial, ⟨lf_X12_66, List.forall_mem_cons.mpr ⟨fun r hr => by cases hr; exact Or.inl rfl, fun _ h => absurd h List.not_mem_nil⟩⟩, trivial, trivial, ⟨lf_X12_42, List.forall_mem_cons.mpr ⟨fun r hr => by cases hr; exact Or.inl rfl, fun _ h => absurd h List.not_mem_nil⟩⟩, trivial, lf_X12_89, trivial, trivial, trivial, lf_X12_89, ⟨lf_X12_126, List.forall_mem_cons.mpr ⟨fun r hr => by cases hr; exact Or.inl rfl, fun _ h => absurd h List.not_mem_nil⟩⟩, pw_1052, trivial, lf_X12_92, trivial, trivial, trivial, trivial, trivial, px_lkc pt_151 (Or.inl lm_X12_130) px_lkn, trivial, trivial, ⟨lf_X12_133, List.forall_mem_cons.mpr ⟨fun r hr => by cases hr; exact Or.inl rfl, fun _ h => absurd h List.not_mem_nil⟩⟩, trivial, lf_X12_19, trivial, trivial, trivial, trivial⟩⟩
theorem pk_166 : px_okm m_X12_fault := ⟨⟨pw_1060, by decide +kernel, ⟨by decide +kernel, by decide +kernel⟩, by decide⟩, by decide +kernel, ⟨trivial, lf_X12_126, trivial, trivial⟩⟩
theorem pk_167 : px_okm m_X12_asSworn := ⟨⟨pw_1100, by decide +kernel, ⟨by decide +kernel, by decide +kernel⟩, by decide⟩, by decide +kernel, ⟨trivial, trivial, trivial, trivial, trivial, px_lkc pt_149 (Or.inl lm_X12_69) px_lkn, trivial, trivial, lf_X12_33, trivial, trivial, trivial, trivial, px_lkc pt_154 (Or.inl lm_X12_136) px_lkn, trivial, trivial, trivial, trivial, trivial⟩⟩
theorem pk_168 : px_okm m_X12_boundOn := ⟨⟨pw_1108, by decide +kernel, ⟨by decide +kernel, by decide +kernel⟩, by decide⟩, by decide +kernel, ⟨trivial, trivial, trivial, trivial, trivial, trivial, trivial, px_lkc pt_149 (Or.inl lm_X12_69) px_lkn, trivial, trivial, trivial, trivial, px_lkc pt_154 (Or.inl lm_X12_136) px_lkn, trivial, trivial, lf_X12_33, trivial, trivial, pw_1047, trivial, trivial, trivial, lf_X12_33, trivial, trivial, trivial, lf_X12_33, trivial, trivial, trivial, trivial, trivial, trivial, px_mkS (px_lkc pt_140 lm_X12_50 px_lkn), trivial, trivial, trivial, trivial, trivial, trivial, trivial, trivial, trivial, trivial, trivial, trivial, trivial, trivial, trivial, trivial, trivial, trivial, trivial, trivial, trivial, trivial, trivial, trivial, trivial, trivial, trivial, trivial, trivial, trivial, trivial, trivial, trivial, trivial, trivial, trivial, trivial, trivial, trivial, trivial, trivial, trivial, trivial⟩⟩
theorem pk_169 : px_okm m_X12_openBy := ⟨⟨pw_1112, by decide +kernel, ⟨by decide +kernel, by decide +kernel⟩, by decide⟩, by decide +kernel, ⟨trivial, trivial, trivial, trivial, trivial, trivial, trivial, px_lkc pt_149 (Or.inl lm_X12_69) px_lkn, trivial, trivial, trivial, trivial, trivial, trivial, px_lkc pt_149 (Or.inl lm_X12_69) px_lkn, trivial, trivial, trivial, trivial, trivial, trivial, trivial, trivial, trivial, trivial, trivial, trivial, trivial, trivial, trivial⟩⟩
theorem pk_170 : px_okm m_X12_openOn := ⟨⟨pw_1104, by decide +kernel, ⟨by decide +kernel, by decide +kernel⟩, by decide⟩, by decide +kernel, ⟨trivial, trivial, trivial, trivial, trivial, px_lkc pt_149 (Or.inl lm_X12_69) px_lkn, px_lkc pt_168 (Or.inl lm_X12_140) px_lkn, px_lkc pt_169 (Or.inl lm_X12_143) px_lkn, trivial, trivial⟩⟩
theorem pk_171 : px_okm m_X12_openAsSworn := ⟨⟨pw_1096, by decide +kernel, ⟨by decide +kernel, by decide +kernel⟩, by decide⟩, by decide +kernel, ⟨trivial, px_lkc pt_167 (Or.inl lm_X12_146) px_lkn, trivial, trivial, px_lkc pt_170 (Or.inl lm_X12_149) px_lkn, trivial, trivial⟩⟩
theorem pk_172 : px_okm m_X12_wayOf := ⟨⟨pw_1072, by decide +kernel, ⟨by decide +kernel, by decide +kernel⟩, by decide⟩, by decide +kernel, ⟨trivial, trivial, trivial, px_lkc pt_154 (Or.inl lm_X12_136) px_lkn, trivial, trivial, trivial, trivial, trivial, trivial, trivial, trivial, px_lkc pt_154 (Or.inl lm_X12_136) px_lkn, trivial, trivial, trivial, trivial, trivial, trivial, trivial, trivial, trivial⟩⟩
theorem pk_173 : px_okm m_X12_wouldSwear := ⟨⟨pw_1084, by decide +kernel, ⟨by decide +kernel, by decide +kernel⟩, by decide⟩, by decide +kernel, ⟨trivial, trivial, trivial, px_lkc pt_154 (Or.inl lm_X12_136) px_lkn, trivial, trivial, trivial, trivial, trivial, trivial, trivial, trivial, trivial, trivial⟩⟩
theorem pk_174 : px_okm m_X12_know := ⟨⟨pw_1080, by decide +kernel, ⟨by decide +kernel, by decide +kernel⟩, by decide⟩, by decide +kernel, ⟨trivial, lf_X12_133, trivial, trivial, trivial, trivial, trivial, trivial, trivial, trivial, lf_X12_26, trivial, trivial, lf_X12_26, trivial, trivial, trivial, trivial, trivial, trivial, trivial, trivial, trivial, lf_X12_133, trivial, trivial, ⟨lf_X12_133, List.forall_mem_cons.mpr ⟨fun r hr => by cases hr; exact Or.inl rfl, fun _ h => absurd h List.not_mem_nil⟩⟩, trivial, lf_X12_26, trivial, trivial, lf_X12_133, trivial, trivial, trivial, px_lkc pt_149 (Or.inl lm_X12_69) px_lkn, trivial, trivial, lf_X12_26, trivial, trivial, lf_X12_133, trivial, trivial, trivial, trivial, trivial, px_lkc pt_149 (Or.inl lm_X12_69) px_lkn, trivial, trivial, lf_X12_26, trivial, trivial, lf_X12_133, trivial, trivial, trivial, trivial, trivial, trivial, lf_X12_26, trivial, trivial, lf_X12_133, trivial, trivial, trivial, trivial, pw_1047, trivial, trivial, trivial, trivial, trivial, trivial, px_lkc pt_154 (Or.inl lm_X12_136) px_lkn, trivial, trivial, trivial, lf_X12_133, trivial, trivial, ⟨lf_X12_133, List.forall_mem_cons.mpr ⟨fun r hr => by cases hr; exact Or.inl rfl, fun _ h => absurd h List.not_mem_nil⟩⟩, trivial, trivial⟩⟩
theorem pk_175 : px_okm m_X12_hasRealm := ⟨⟨pw_1120, by decide +kernel, ⟨by decide +kernel, by decide +kernel⟩, by decide⟩, by decide +kernel, ⟨trivial, trivial, px_lkc pt_149 (Or.inl lm_X12_69) px_lkn, trivial, trivial, trivial, trivial, trivial, trivial⟩⟩
theorem pk_176 : px_okm m_X12_askFor := ⟨⟨pw_1064, by decide +kernel, ⟨by decide +kernel, by decide +kernel⟩, by decide⟩, by decide +kernel, ⟨trivial, trivial, px_lkc pt_152 (Or.inl lm_X12_152) px_lkn, trivial, pw_973, trivial, trivial, trivial, px_lkc pt_149 (Or.inl lm_X12_69) px_lkn, trivial, trivial, px_lkc pt_172 (Or.inl lm_X12_155) px_lkn, trivial, trivial, trivial, trivial, trivial, pw_1003, trivial, trivial, trivial, px_lkc pt_174 (Or.inl lm_X12_158) px_lkn, trivial, trivial, trivial, px_lkc pt_150 (Or.inl lm_X12_115) px_lkn, trivial, trivial, trivial, px_lkc pt_173 (Or.inl lm_X12_161) px_lkn, trivial, trivial, trivial, trivial, trivial, trivial, trivial, trivial, trivial, trivial, px_lkc pt_150 (Or.inl lm_X12_115) px_lkn, trivial, trivial, trivial⟩⟩
theorem pk_177 : px_okm m_X12_tries := ⟨⟨pw_1088, by decide +kernel, ⟨by decide +kernel, by decide +kernel⟩, by decide⟩, by decide +kernel, ⟨trivial, trivial, px_lkc pt_153 (Or.inl lm_X12_165) px_lkn, trivial, pw_973, trivial, trivial, trivial, trivial, px_lkc pt_149 (Or.inl lm_X12_69) px_lkn, px_lkc pt_171 (Or.inl lm_X12_168) px_lkn, trivial, trivial, trivial, trivial, trivial, trivial, pw_1047, px_lkc pt_174 (Or.inl lm_X12_158) px_lkn, trivial, trivial, trivial, trivial, px_lkc pt_149 (Or.inl lm_X12_69) px_lkn, trivial, trivial, px_lkc pt_150 (Or.inl lm_X12_115) px_lkn, trivial, trivial, trivial⟩⟩
theorem pk_178 : px_okm m_X12_waits := ⟨⟨pw_1116, by decide +kernel, ⟨by decide +kernel, by decide +kernel⟩, by decide⟩, by decide +kernel, ⟨trivial, px_lkc pt_175 (Or.inl lm_X12_171) px_lkn, trivial, pw_1121, trivial, trivial, trivial, trivial, px_mkS (px_lkc pt_140 lm_X12_50 px_lkn), trivial, pw_973, trivial, trivial, trivial, px_lkc pt_149 (Or.inl lm_X12_69) px_lkn, trivial, trivial, trivial, trivial, pw_1003, trivial, trivial, pw_1047, px_lkc pt_174 (Or.inl lm_X12_158) px_lkn, trivial, trivial, trivial, trivial, px_lkc pt_149 (Or.inl lm_X12_69) px_lkn, trivial, trivial, px_lkc pt_150 (Or.inl lm_X12_115) px_lkn, trivial, trivial, px_lkc pt_149 (Or.inl lm_X12_69) px_lkn, trivial, trivial⟩⟩
theorem pk_179 : px_okm m_X12_undo := ⟨⟨pw_1125, by decide +kernel, ⟨by decide +kernel, by decide +kernel⟩, by decide⟩, by decide +kernel, ⟨trivial, lf_X12_133, trivial, pw_1121, trivial, trivial, trivial, lf_X12_133, trivial, trivial, ⟨lf_X12_133, List.forall_mem_cons.mpr ⟨fun r hr => by cases hr; exact Or.inl rfl, fun _ h => absurd h List.not_mem_nil⟩⟩, trivial, trivial, trivial, lf_X12_26, trivial, trivial, lf_X12_133, trivial, trivial, px_lkc pt_150 (Or.inl lm_X12_115) px_lkn, trivial, trivial, trivial, lf_X12_26, trivial, trivial, lf_X12_133, trivial, trivial, trivial, trivial, px_lkc pt_150 (Or.inl lm_X12_115) px_lkn, trivial, lf_X12_26, trivial, trivial, lf_X12_133, trivial, trivial, trivial, trivial, trivial, trivial, pw_1047, trivial, trivial, trivial, trivial, trivial, trivial, trivial, trivial, trivial, trivial, lf_X12_26, trivial, trivial, lf_X12_133, trivial, trivial, trivial, trivial, px_lkc pt_150 (Or.inl lm_X12_115) px_lkn, trivial, lf_X12_133, trivial, trivial⟩⟩
theorem pk_180 : px_okm m_X12_sumOf := ⟨⟨pw_1137, by decide +kernel, ⟨by decide +kernel, by decide +kernel⟩, by decide⟩, by decide +kernel, ⟨trivial, trivial, trivial, trivial, trivial, trivial, trivial, px_lkc pt_149 (Or.inl lm_X12_69) px_lkn, trivial, trivial, trivial, trivial, trivial, trivial, trivial, trivial, trivial, trivial, px_lkc pt_154 (Or.inl lm_X12_136) px_lkn, trivial, trivial, trivial, trivial, trivial, trivial, trivial, trivial⟩⟩
theorem pk_181 : px_okm m_X12_thing := ⟨⟨pw_1129, by decide +kernel, ⟨by decide +kernel, by decide +kernel⟩, by decide⟩, by decide +kernel, ⟨trivial, trivial, px_lkc pt_152 (Or.inl lm_X12_152) px_lkn, trivial, pw_973, trivial, trivial, px_lkc pt_167 (Or.inl lm_X12_146) px_lkn, trivial, trivial, trivial, trivial, trivial, trivial, trivial, px_lkc pt_154 (Or.inl lm_X12_136) px_lkn, trivial, trivial, trivial, trivial, px_lkc pt_149 (Or.inl lm_X12_69) px_lkn, trivial, trivial, px_lkc pt_149 (Or.inl lm_X12_69) px_lkn, px_lkc pt_168 (Or.inl lm_X12_140) px_lkn, trivial, trivial, trivial, trivial, trivial, trivial, trivial, px_lkc pt_172 (Or.inl lm_X12_155) px_lkn, trivial, pw_973, trivial, trivial⟩⟩
theorem pk_182 : px_okm m_X12_harm := ⟨⟨pw_1133, by decide +kernel, ⟨by decide +kernel, by decide +kernel⟩, by decide⟩, by decide +kernel, ⟨trivial, trivial, px_lkc pt_153 (Or.inl lm_X12_165) px_lkn, trivial, trivial, trivial, trivial, px_mkS (px_lkc pt_140 lm_X12_50 px_lkn), trivial, pw_973, trivial, trivial, trivial, trivial, trivial, px_lkc pt_149 (Or.inl lm_X12_69) px_lkn, trivial, trivial, trivial, trivial, trivial, trivial, trivial, trivial, trivial, trivial, px_lkc pt_180 (Or.inl lm_X12_176) px_lkn, trivial, trivial, trivial, trivial, trivial, px_lkc pt_149 (Or.inl lm_X12_69) px_lkn, px_lkc pt_171 (Or.inl lm_X12_168) px_lkn, trivial, trivial, trivial, trivial, trivial, trivial, trivial⟩⟩
theorem pk_183 : px_okm m_X12_isDay := ⟨⟨pw_1145, by decide +kernel, ⟨by decide +kernel, by decide +kernel⟩, by decide⟩, by decide +kernel, ⟨trivial, trivial, trivial, px_lkc pt_149 (Or.inl lm_X12_69) px_lkn, trivial, trivial, px_lkc pt_149 (Or.inl lm_X12_69) px_lkn, trivial, trivial, px_mkS (px_lkc pt_140 lm_X12_50 px_lkn), trivial, trivial⟩⟩
theorem pk_184 : px_okm m_X12_open := ⟨⟨pw_1141, by decide +kernel, ⟨by decide +kernel, by decide +kernel⟩, by decide⟩, by decide +kernel, ⟨trivial, px_lkc pt_175 (Or.inl lm_X12_171) px_lkn, trivial, pw_1121, trivial, trivial, trivial, px_lkc pt_183 (Or.inl lm_X12_179) px_lkn, trivial, trivial, trivial, px_lkc pt_171 (Or.inl lm_X12_168) px_lkn, trivial, pw_973, trivial, trivial⟩⟩
theorem pk_185 : px_okm m_X12_gap := ⟨⟨pw_1149, by decide +kernel, ⟨by decide +kernel, by decide +kernel⟩, by decide⟩, by decide +kernel, ⟨trivial, px_lkc pt_175 (Or.inl lm_X12_171) px_lkn, trivial, pw_1121, trivial, trivial, trivial, px_lkc pt_149 (Or.inl lm_X12_69) px_lkn, trivial, trivial, trivial, trivial, px_lkc pt_149 (Or.inl lm_X12_69) px_lkn, trivial, trivial, trivial, trivial, trivial, px_lkc pt_171 (Or.inl lm_X12_168) px_lkn, trivial, trivial, trivial, trivial, trivial, pw_1047, trivial, trivial⟩⟩
theorem pk_186 : px_okm m_X12_manyOf := ⟨⟨pw_1156, by decide +kernel, ⟨by decide +kernel, by decide +kernel⟩, by decide⟩, by decide +kernel, ⟨trivial, trivial, trivial, trivial, trivial, trivial, trivial, trivial, trivial, trivial, trivial, trivial, trivial, trivial, trivial, trivial, trivial, trivial, trivial, trivial⟩⟩
theorem pk_187 : px_okm m_X12_covers := ⟨⟨pw_1160, by decide +kernel, ⟨by decide +kernel, by decide +kernel⟩, by decide⟩, by decide +kernel, ⟨trivial, px_lkc pt_167 (Or.inl lm_X12_146) px_lkn, trivial, trivial, trivial, trivial, trivial, trivial, trivial, px_lkc pt_149 (Or.inl lm_X12_69) px_lkn, trivial, trivial, trivial, trivial, trivial, trivial, trivial, trivial, trivial, trivial, trivial, trivial, trivial, trivial, px_lkc pt_149 (Or.inl lm_X12_69) px_lkn, px_lkc pt_173 (Or.inl lm_X12_161) px_lkn, trivial, trivial, trivial, trivial, trivial, trivial, lf_X12_33, trivial, trivial, trivial, px_lkc pt_149 (Or.inl lm_X12_69) px_lkn, trivial, trivial, trivial, trivial, trivial, trivial, trivial, trivial, px_lkc pt_149 (Or.inl lm_X12_69) px_lkn, px_lkc pt_170 (Or.inl lm_X12_149) px_lkn, trivial, trivial, trivial, trivial, trivial, trivial⟩⟩
theorem pk_188 : px_okm m_X12_cover := ⟨⟨pw_1153, by decide +kernel, ⟨by decide +kernel, by decide +kernel⟩, by decide⟩, by decide +kernel, ⟨trivial, px_lkc pt_175 (Or.inl lm_X12_171) px_lkn, trivial, pw_1121, trivial, trivial, trivial, trivial, px_mkS (px_lkc pt_140 lm_X12_50 px_lkn), trivial, pw_973, trivial, pw_1047, trivial, trivial, trivial, trivial, trivial, trivial, trivial, px_lkc pt_149 (Or.inl lm_X12_69) px_lkn, trivial, trivial, trivial, pw_1047, trivial, trivial, px_mkS (px_lkc pt_186 lm_X12_182 px_lkn), trivial, px_mkS (px_lkc pt_186 lm_X12_182 px_lkn), trivial, trivial, trivial, trivial, trivial, trivial, trivial, trivial, trivial, px_lkc pt_187 (Or.inl lm_X12_185) px_lkn, trivial, trivial, trivial, trivial, trivial, trivial, trivial, trivial, pw_1047, trivial, trivial, trivial, trivial, trivial, trivial, trivial, px_mkS (px_lkc pt_186 lm_X12_182 px_lkn), trivial, trivial⟩⟩
theorem pk_189 : px_okm m_X12_goesRound := ⟨⟨pw_1168, by decide +kernel, ⟨by decide +kernel, by decide +kernel⟩, by decide⟩, by decide +kernel, ⟨trivial, trivial, trivial, trivial, trivial, trivial, trivial, trivial, trivial, trivial, trivial, trivial, trivial, lf_X12_36, trivial, trivial, trivial, trivial, trivial, trivial, trivial, trivial, trivial, trivial, trivial, trivial, trivial, lf_X12_36, trivial, trivial, px_lkc pt_152 (Or.inl lm_X12_152) px_lkn, trivial, trivial, trivial, lf_X12_36, trivial, trivial, trivial, trivial, trivial, trivial, trivial, trivial, trivial, trivial, trivial, trivial, trivial, lf_X12_36, trivial, trivial, trivial, trivial, trivial, trivial, trivial, trivial, trivial, ⟨lf_X12_188, List.forall_mem_cons.mpr ⟨fun r hr => by cases hr; exact Or.inl rfl, fun _ h => absurd h List.not_mem_nil⟩⟩, trivial, trivial, trivial, trivial, trivial, px_lkc pt_167 (Or.inl lm_X12_146) px_lkn, trivial, trivial, trivial, trivial, trivial, trivial, trivial, lf_X12_188, trivial, trivial, lf_X12_36, trivial, trivial, px_lkc pt_172 (Or.inl lm_X12_155) px_lkn, trivial, ⟨lf_X12_188, List.forall_mem_cons.mpr ⟨fun r hr => by cases hr; exact Or.inl rfl, fun _ h => absurd h List.not_mem_nil⟩⟩, trivial, trivial, lf_X12_36, trivial, trivial, trivial, trivial, px_lkc pt_149 (Or.inl lm_X12_69) px_lkn, trivial, lf_X12_188, trivial, px_lkc pt_173 (Or.inl lm_X12_161) px_lkn, trivial, trivial, lf_X12_33, trivial, lf_X12_36, trivial, trivial, trivial, trivial, px_lkc pt_149 (Or.inl lm_X12_69) px_lkn, trivial, lf_X12_188, trivial, trivial, trivial, trivial, trivial, trivial, trivial, px_lkc pt_149 (Or.inl lm_X12_69) px_lkn, trivial, lf_X12_188, trivial, px_lkc pt_170 (Or.inl lm_X12_149) px_lkn, trivial, trivial, trivial, trivial, trivial, trivial⟩⟩
theorem pk_190 : px_okm m_X12_round := ⟨⟨pw_1164, by decide +kernel, ⟨by decide +kernel, by decide +kernel⟩, by decide⟩, by decide +kernel, ⟨trivial, px_lkc pt_175 (Or.inl lm_X12_171) px_lkn, trivial, pw_1121, trivial, trivial, trivial, trivial, px_mkS (px_lkc pt_140 lm_X12_50 px_lkn), trivial, pw_973, trivial, pw_1047, trivial, pw_1047, trivial, trivial, trivial, trivial, trivial, trivial, trivial, trivial, trivial, trivial, trivial, trivial, trivial, trivial, trivial, trivial, trivial, trivial, px_lkc pt_189 (Or.inl lm_X12_191) px_lkn, trivial, trivial, pw_1047, trivial, trivial, lf_X12_188, trivial, trivial, trivial, trivial, trivial, trivial, trivial, lf_X12_188, trivial, trivial, trivial, trivial, trivial, trivial, trivial, trivial, trivial, trivial, pw_1047, trivial, trivial, trivial, trivial, trivial, trivial, trivial, trivial, trivial, trivial, trivial, trivial, trivial, trivial, trivial, trivial, trivial, trivial, trivial, trivial, trivial, trivial, trivial, trivial, trivial, trivial, trivial, trivial, trivial, trivial, trivial, trivial, trivial, pw_1047, trivial, trivial⟩⟩
theorem pk_191 : px_okm m_X12_cheapestOf := ⟨⟨pw_1176, by decide +kernel, ⟨by decide +kernel, by decide +kernel⟩, by decide⟩, by decide +kernel, ⟨trivial, trivial, px_lkc pt_170 (Or.inl lm_X12_149) px_lkn, trivial, pw_1047, trivial, trivial, trivial, trivial, trivial, trivial, px_lkc pt_149 (Or.inl lm_X12_69) px_lkn, trivial, trivial, pw_1047, trivial, trivial, trivial, trivial, trivial, trivial, px_lkc pt_149 (Or.inl lm_X12_69) px_lkn, px_lkc pt_180 (Or.inl lm_X12_176) px_lkn, trivial, trivial, trivial, trivial, trivial, px_lkc pt_149 (Or.inl lm_X12_69) px_lkn, px_lkc pt_180 (Or.inl lm_X12_176) px_lkn, trivial, trivial, trivial, trivial, trivial, trivial, trivial, trivial, trivial, trivial, trivial, trivial, trivial, trivial, trivial, trivial, trivial, trivial, trivial, trivial, trivial, trivial, trivial⟩⟩
theorem pk_192 : px_okm m_X12_cheapest := ⟨⟨pw_1172, by decide +kernel, ⟨by decide +kernel, by decide +kernel⟩, by decide⟩, by decide +kernel, ⟨trivial, px_lkc pt_175 (Or.inl lm_X12_171) px_lkn, trivial, pw_1121, trivial, trivial, trivial, px_lkc pt_183 (Or.inl lm_X12_179) px_lkn, trivial, trivial, trivial, trivial, px_mkS (px_lkc pt_140 lm_X12_50 px_lkn), trivial, pw_973, trivial, trivial, px_lkc pt_167 (Or.inl lm_X12_146) px_lkn, trivial, trivial, px_lkc pt_191 (Or.inl lm_X12_194) px_lkn, trivial, trivial, pw_1047, trivial, trivial, trivial, trivial, trivial, trivial, trivial, trivial, trivial, trivial, px_lkc pt_149 (Or.inl lm_X12_69) px_lkn, px_lkc pt_180 (Or.inl lm_X12_176) px_lkn, trivial, trivial⟩⟩
theorem pk_193 : px_okm m_X12_dearBy := ⟨⟨pw_1184, by decide +kernel, ⟨by decide +kernel, by decide +kernel⟩, by decide⟩, by decide +kernel, ⟨trivial, px_lkc pt_167 (Or.inl lm_X12_146) px_lkn, trivial, trivial, px_lkc pt_149 (Or.inl lm_X12_69) px_lkn, trivial, trivial, px_lkc pt_172 (Or.inl lm_X12_155) px_lkn, trivial, trivial, trivial, lf_X12_33, trivial, trivial, trivial, trivial, px_lkc pt_173 (Or.inl lm_X12_161) px_lkn, trivial, trivial, trivial, trivial, lf_X12_33, trivial, trivial, trivial, trivial, trivial, trivial, trivial, trivial, trivial, trivial, px_lkc pt_191 (Or.inl lm_X12_194) px_lkn, trivial, trivial, pw_1047, trivial, trivial, trivial, trivial, trivial, trivial, trivial, trivial, px_lkc pt_149 (Or.inl lm_X12_69) px_lkn, px_lkc pt_180 (Or.inl lm_X12_176) px_lkn, trivial, trivial⟩⟩
theorem pk_194 : px_okm m_X12_defended := ⟨⟨pw_1180, by decide +kernel, ⟨by decide +kernel, by decide +kernel⟩, by decide⟩, by decide +kernel, ⟨trivial, px_lkc pt_175 (Or.inl lm_X12_171) px_lkn, trivial, pw_1121, trivial, trivial, trivial, px_lkc pt_183 (Or.inl lm_X12_179) px_lkn, trivial, trivial, trivial, trivial, px_mkS (px_lkc pt_140 lm_X12_50 px_lkn), trivial, pw_973, trivial, pw_1047, trivial, pw_1047, trivial, trivial, trivial, trivial, trivial, trivial, px_lkc pt_149 (Or.inl lm_X12_69) px_lkn, trivial, trivial, trivial, trivial, px_lkc pt_193 (Or.inl lm_X12_197) px_lkn, trivial, trivial, trivial, trivial, trivial, trivial, trivial, trivial, trivial, trivial, trivial, trivial, trivial, trivial, trivial, trivial, trivial, trivial, trivial, trivial, trivial, trivial, trivial, trivial, pw_1047, trivial, trivial, trivial, trivial⟩⟩
theorem pk_195 : px_okm m_X12_ofKinds := ⟨⟨pw_1192, by decide +kernel, ⟨by decide +kernel, by decide +kernel⟩, by decide⟩, by decide +kernel, ⟨trivial, trivial, trivial, trivial, trivial, trivial, trivial, px_lkc pt_149 (Or.inl lm_X12_69) px_lkn, trivial, trivial, trivial, trivial, trivial, trivial, px_lkc pt_154 (Or.inl lm_X12_136) px_lkn, trivial, trivial, trivial, trivial, trivial, trivial, trivial, trivial, trivial, trivial, trivial, trivial, trivial, trivial⟩⟩
theorem pk_196 : px_okm m_X12_enough := ⟨⟨pw_1188, by decide +kernel, ⟨by decide +kernel, by decide +kernel⟩, by decide⟩, by decide +kernel, ⟨trivial, px_lkc pt_175 (Or.inl lm_X12_171) px_lkn, trivial, pw_1121, trivial, trivial, trivial, trivial, px_mkS (px_lkc pt_140 lm_X12_50 px_lkn), trivial, pw_973, trivial, pw_1047, trivial, trivial, trivial, trivial, trivial, trivial, trivial, pw_1047, trivial, trivial, px_mkS (px_lkc pt_186 lm_X12_182 px_lkn), trivial, px_mkS (px_lkc pt_186 lm_X12_182 px_lkn), trivial, trivial, trivial, trivial, trivial, trivial, trivial, trivial, trivial, trivial, px_lkc pt_195 (Or.inl lm_X12_200) px_lkn, px_lkc pt_169 (Or.inl lm_X12_143) px_lkn, trivial, trivial, trivial, trivial, trivial, trivial, trivial, trivial, pw_1047, trivial, trivial, trivial, trivial, trivial, trivial, trivial, px_mkS (px_lkc pt_186 lm_X12_182 px_lkn), trivial, trivial⟩⟩
theorem pk_197 : px_okm m_X12_odds := ⟨⟨pw_1196, by decide +kernel, ⟨by decide +kernel, by decide +kernel⟩, by decide⟩, by decide +kernel, ⟨trivial, trivial, px_lkc pt_153 (Or.inl lm_X12_165) px_lkn, trivial, trivial, trivial, trivial, px_mkS (px_lkc pt_140 lm_X12_50 px_lkn), trivial, trivial, trivial, trivial, px_mkS (px_lkc pt_140 lm_X12_50 px_lkn), trivial, pw_973, trivial, trivial, px_lkc pt_167 (Or.inl lm_X12_146) px_lkn, trivial, trivial, trivial, px_lkc pt_149 (Or.inl lm_X12_69) px_lkn, trivial, trivial, px_lkc pt_149 (Or.inl lm_X12_69) px_lkn, px_lkc pt_168 (Or.inl lm_X12_140) px_lkn, trivial, trivial, trivial, trivial, px_lkc pt_149 (Or.inl lm_X12_69) px_lkn, trivial, trivial, trivial, trivial, trivial, trivial, trivial, px_mkS (px_lkc pt_186 lm_X12_182 px_lkn), trivial, trivial, trivial, trivial, trivial, trivial, trivial, trivial, trivial, trivial, trivial, trivial, trivial, trivial, trivial, trivial, trivial, trivial, trivial, trivial, trivial, trivial, trivial, trivial, trivial, trivial, trivial, trivial, trivial, trivial, trivial, trivial, trivial, trivial, trivial, trivial, trivial, trivial, trivial, trivial, trivial, trivial, trivial⟩⟩
theorem pk_198 : px_okm m_X12_hitBy := ⟨⟨pw_1200, by decide +kernel, ⟨by decide +kernel, by decide +kernel⟩, by decide⟩, by decide +kernel, ⟨trivial, px_lkc pt_175 (Or.inl lm_X12_171) px_lkn, trivial, pw_1121, trivial, trivial, px_mkS (px_lkc pt_143 lm_X12_54 px_lkn), trivial, trivial, trivial, trivial, px_mkS (px_lkc pt_140 lm_X12_50 px_lkn), trivial, pw_973, trivial, trivial, lf_X12_7, trivial, trivial, trivial, trivial, trivial, px_lkc pt_141 (Or.inl lm_X12_59) px_lkn, trivial, trivial, trivial, trivial, trivial, lf_X12_13, trivial, trivial, trivial, trivial, trivial, trivial, trivial, px_lkc pt_141 (Or.inl lm_X12_59) px_lkn, trivial, trivial, trivial, trivial, trivial, trivial, trivial, lf_X12_16, trivial, trivial, trivial, trivial, trivial, trivial, trivial, trivial, trivial, trivial, px_mkS (px_lkc pt_140 lm_X12_50 px_lkn), trivial, pw_973, trivial, trivial, trivial, trivial, trivial, trivial, px_lkc pt_149 (Or.inl lm_X12_69) px_lkn, trivial, trivial, trivial, trivial, trivial, trivial, trivial, trivial, trivial, trivial, trivial, trivial, px_lkc pt_149 (Or.inl lm_X12_69) px_lkn, trivial, trivial, px_lkc pt_171 (Or.inl lm_X12_168) px_lkn, trivial, trivial, trivial, lf_X12_16, trivial, trivial, trivial, trivial, trivial, trivial, trivial, trivial, trivial, trivial, trivial, trivial, trivial, trivial, trivial, trivial, trivial, trivial, trivial, trivial, trivial, px_lkc pt_142 (Or.inl lm_X12_63) px_lkn, trivial, trivial⟩⟩
theorem pk_199 : px_okm m_X12_terms := ⟨⟨pw_1204, by decide +kernel, ⟨by decide +kernel, by decide +kernel⟩, by decide⟩, by decide +kernel, ⟨trivial, px_lkc pt_175 (Or.inl lm_X12_171) px_lkn, trivial, pw_1121, trivial, trivial, px_lkc pt_167 (Or.inl lm_X12_146) px_lkn, trivial, trivial, trivial, trivial, trivial, trivial, trivial, trivial, trivial, px_lkc pt_149 (Or.inl lm_X12_69) px_lkn, trivial, px_lkc pt_168 (Or.inl lm_X12_140) px_lkn, px_lkc pt_169 (Or.inl lm_X12_143) px_lkn, trivial, trivial, trivial, trivial, trivial, pw_1047, trivial, trivial⟩⟩
theorem pk_200 : px_okm m_X12_image := ⟨⟨pw_1208, by decide +kernel, ⟨by decide +kernel, by decide +kernel⟩, by decide⟩, by decide +kernel, ⟨trivial, trivial, trivial, px_mkS (px_lkc pt_140 lm_X12_50 px_lkn), trivial, pw_973, trivial, trivial, px_lkc pt_175 (Or.inl lm_X12_171) px_lkn, trivial, pw_1121, trivial, trivial, trivial, trivial, trivial, trivial, px_lkc pt_151 (Or.inl lm_X12_130) px_lkn, trivial, lf_X12_22, trivial, trivial, trivial, trivial, trivial, trivial⟩⟩
theorem pk_201 : px_okm m_X12_restore := ⟨⟨pw_1212, by decide +kernel, ⟨by decide +kernel, by decide +kernel⟩, by decide⟩, by decide +kernel, ⟨trivial, trivial, trivial, px_mkS (px_lkc pt_140 lm_X12_50 px_lkn), trivial, pw_973, trivial, trivial, lf_X12_22, trivial, trivial, trivial, pw_1121, trivial, trivial, trivial, trivial, trivial, trivial, px_lkc pt_151 (Or.inl lm_X12_130) px_lkn, trivial, trivial, ⟨lf_X12_133, List.forall_mem_cons.mpr ⟨fun r hr => by cases hr; exact Or.inl rfl, fun _ h => absurd h List.not_mem_nil⟩⟩, trivial, trivial, trivial⟩⟩
theorem pk_202 : px_okm m_X12_kind := ⟨⟨pw_1216, by decide +kernel, ⟨by decide +kernel, by decide +kernel⟩, by decide⟩, by decide +kernel, ⟨trivial, trivial, px_lkc pt_152 (Or.inl lm_X12_152) px_lkn, trivial, trivial, trivial, trivial, px_lkc pt_154 (Or.inl lm_X12_136) px_lkn, trivial, pw_973, trivial, trivial⟩⟩
theorem pk_203 : px_okm m_X12_inHarms := ⟨⟨pw_1263, by decide +kernel, ⟨by decide +kernel, by decide +kernel⟩, by decide⟩, by decide +kernel, ⟨trivial, trivial, trivial, trivial, trivial, trivial, trivial, px_lkc pt_149 (Or.inl lm_X12_69) px_lkn, trivial, trivial, trivial, trivial, trivial, trivial, px_lkc pt_149 (Or.inl lm_X12_69) px_lkn, trivial, trivial, trivial, trivial, trivial, trivial, trivial, trivial, trivial, trivial, trivial⟩⟩
theorem pk_204 : px_okm m_X12_isOne := ⟨⟨pw_1223, by decide +kernel, ⟨by decide +kernel, by decide +kernel⟩, by decide⟩, by decide +kernel, ⟨trivial, trivial, trivial, trivial, trivial, trivial, trivial, trivial, trivial, trivial, trivial, px_mkS (px_lkc pt_140 lm_X12_50 px_lkn), trivial, trivial, trivial, trivial, trivial, trivial, trivial, trivial, trivial, trivial, trivial, trivial⟩⟩
theorem pk_205 : px_okm m_X12_as := ⟨⟨pw_1220, by decide +kernel, ⟨by decide +kernel, by decide +kernel⟩, by decide⟩, by decide +kernel, ⟨trivial, trivial, px_lkc pt_152 (Or.inl lm_X12_152) px_lkn, trivial, trivial, trivial, trivial, px_mkS (px_lkc pt_140 lm_X12_50 px_lkn), trivial, pw_973, trivial, trivial, trivial, trivial, px_lkc pt_154 (Or.inl lm_X12_136) px_lkn, trivial, px_mkS (px_lkc pt_204 lm_X12_203 px_lkn), trivial, trivial, trivial, px_lkc pt_142 (Or.inl lm_X12_63) px_lkn, trivial, trivial, trivial, px_lkc pt_141 (Or.inl lm_X12_59) px_lkn, trivial, trivial⟩⟩
theorem pk_206 : px_okm m_X12_leaves := ⟨⟨pw_1239, by decide +kernel, ⟨by decide +kernel, by decide +kernel⟩, by decide⟩, by decide +kernel, ⟨trivial, lf_X12_206, trivial, trivial, trivial, lf_X12_39, trivial, lf_X12_206, trivial, trivial, trivial, trivial, lf_X12_206, trivial, trivial, ⟨lf_X12_206, List.forall_mem_cons.mpr ⟨fun r hr => by cases hr; exact Or.inl rfl, fun _ h => absurd h List.not_mem_nil⟩⟩, trivial, trivial⟩⟩
theorem pk_207 : px_okm m_X12_size10 := ⟨⟨pw_1247, by decide +kernel, ⟨by decide +kernel, by decide +kernel⟩, by decide⟩, by decide +kernel, ⟨trivial, trivial, px_lkc pt_206 (Or.inl lm_X12_209) px_lkn, trivial, trivial, trivial, px_lkc pt_154 (Or.inl lm_X12_136) px_lkn, trivial, trivial⟩⟩
theorem pk_208 : px_okm m_X12_mark20 := ⟨⟨pw_1259, by decide +kernel, ⟨by decide +kernel, by decide +kernel⟩, by decide⟩, by decide +kernel, ⟨trivial, trivial, px_lkc pt_206 (Or.inl lm_X12_209) px_lkn, trivial, trivial, trivial⟩⟩
theorem pk_209 : px_okm m_X12_mark21 := ⟨⟨pw_1255, by decide +kernel, ⟨by decide +kernel, by decide +kernel⟩, by decide⟩, by decide +kernel, ⟨trivial, trivial, px_lkc pt_206 (Or.inl lm_X12_209) px_lkn, trivial, trivial, px_lkc pt_208 (Or.inl lm_X12_212) px_lkn, trivial, trivial, px_lkc pt_203 (Or.inl lm_X12_215) px_lkn, trivial, trivial, trivial⟩⟩
theorem pk_210 : px_okm m_X12_size13 := ⟨⟨pw_1283, by decide +kernel, ⟨by decide +kernel, by decide +kernel⟩, by decide⟩, by decide +kernel, ⟨trivial, trivial, px_lkc pt_206 (Or.inl lm_X12_209) px_lkn, trivial, trivial, px_lkc pt_207 (Or.inl lm_X12_218) px_lkn, trivial, trivial, trivial, trivial⟩⟩
theorem pk_211 : px_okm m_X12_size14 := ⟨⟨pw_1279, by decide +kernel, ⟨by decide +kernel, by decide +kernel⟩, by decide⟩, by decide +kernel, ⟨trivial, trivial, px_lkc pt_206 (Or.inl lm_X12_209) px_lkn, trivial, trivial, trivial, px_lkc pt_210 (Or.inl lm_X12_221) px_lkn, trivial, trivial, trivial⟩⟩
theorem pk_212 : px_okm m_X12_mark22 := ⟨⟨pw_1271, by decide +kernel, ⟨by decide +kernel, by decide +kernel⟩, by decide⟩, by decide +kernel, ⟨trivial, trivial, px_lkc pt_206 (Or.inl lm_X12_209) px_lkn, trivial, trivial, px_lkc pt_209 (Or.inl lm_X12_224) px_lkn, trivial, trivial, trivial, trivial⟩⟩
theorem pk_213 : px_okm m_X12_mark24 := ⟨⟨pw_1267, by decide +kernel, ⟨by decide +kernel, by decide +kernel⟩, by decide⟩, by decide +kernel, ⟨trivial, trivial, px_lkc pt_206 (Or.inl lm_X12_209) px_lkn, trivial, trivial, trivial, px_lkc pt_209 (Or.inl lm_X12_224) px_lkn, trivial, trivial, trivial⟩⟩
theorem pk_214 : px_okm m_X12_mark23 := ⟨⟨pw_1275, by decide +kernel, ⟨by decide +kernel, by decide +kernel⟩, by decide⟩, by decide +kernel, ⟨trivial, trivial, px_lkc pt_206 (Or.inl lm_X12_209) px_lkn, trivial, trivial, px_lkc pt_208 (Or.inl lm_X12_212) px_lkn, trivial, trivial, trivial, trivial, trivial, px_lkc pt_154 (Or.inl lm_X12_136) px_lkn, trivial, trivial, trivial, trivial, px_lkc pt_211 (Or.inl lm_X12_227) px_lkn, trivial, trivial, trivial, px_lkc pt_210 (Or.inl lm_X12_221) px_lkn, trivial, trivial, trivial⟩⟩
theorem pk_215 : px_okm m_X12_markOf := ⟨⟨pw_1251, by decide +kernel, ⟨by decide +kernel, by decide +kernel⟩, by decide⟩, by decide +kernel, ⟨trivial, trivial, trivial, px_lkc pt_154 (Or.inl lm_X12_136) px_lkn, trivial, trivial, trivial, trivial, trivial, trivial, px_lkc pt_209 (Or.inl lm_X12_224) px_lkn, trivial, trivial, trivial, trivial, trivial, trivial, px_lkc pt_213 (Or.inl lm_X12_230) px_lkn, trivial, trivial, trivial, trivial, trivial, trivial, px_lkc pt_212 (Or.inl lm_X12_233) px_lkn, trivial, trivial, trivial, px_lkc pt_214 (Or.inl lm_X12_236) px_lkn, trivial, trivial⟩⟩
theorem pk_216 : px_okm m_X12_size11 := ⟨⟨pw_1243, by decide +kernel, ⟨by decide +kernel, by decide +kernel⟩, by decide⟩, by decide +kernel, ⟨trivial, trivial, px_lkc pt_206 (Or.inl lm_X12_209) px_lkn, trivial, trivial, px_lkc pt_207 (Or.inl lm_X12_218) px_lkn, trivial, trivial, trivial, trivial, px_lkc pt_215 (Or.inl lm_X12_239) px_lkn, trivial, trivial, trivial⟩⟩
theorem pk_217 : px_okm m_X12_size12 := ⟨⟨pw_1235, by decide +kernel, ⟨by decide +kernel, by decide +kernel⟩, by decide⟩, by decide +kernel, ⟨trivial, trivial, px_lkc pt_206 (Or.inl lm_X12_209) px_lkn, trivial, trivial, px_lkc pt_216 (Or.inl lm_X12_242) px_lkn, trivial, trivial, trivial⟩⟩
theorem pk_218 : px_okm m_X12_sizeOf := ⟨⟨pw_1231, by decide +kernel, ⟨by decide +kernel, by decide +kernel⟩, by decide⟩, by decide +kernel, ⟨trivial, trivial, trivial, px_lkc pt_154 (Or.inl lm_X12_136) px_lkn, trivial, trivial, trivial, trivial, trivial, trivial, px_lkc pt_217 (Or.inl lm_X12_245) px_lkn, trivial, trivial, trivial, trivial, trivial, trivial, px_lkc pt_216 (Or.inl lm_X12_242) px_lkn, trivial, trivial, trivial, trivial, trivial, trivial, px_lkc pt_210 (Or.inl lm_X12_221) px_lkn, trivial, trivial, trivial, px_lkc pt_211 (Or.inl lm_X12_227) px_lkn, trivial, trivial⟩⟩
theorem pk_219 : px_okm m_X12_ask := ⟨⟨pw_1227, by decide +kernel, ⟨by decide +kernel, by decide +kernel⟩, by decide⟩, by decide +kernel, ⟨trivial, trivial, px_lkc pt_152 (Or.inl lm_X12_152) px_lkn, trivial, trivial, trivial, trivial, px_mkS (px_lkc pt_140 lm_X12_50 px_lkn), trivial, pw_973, trivial, trivial, trivial, ⟨lf_X12_206, List.forall_mem_cons.mpr ⟨fun r hr => by cases hr; exact Or.inl rfl, fun _ h => absurd h List.not_mem_nil⟩⟩, trivial, trivial, trivial, trivial, px_lkc pt_218 (Or.inl lm_X12_248) px_lkn, trivial, trivial, trivial, px_lkc pt_215 (Or.inl lm_X12_239) px_lkn, trivial, trivial⟩⟩
theorem pk_220 : px_okm m_X12_trace := ⟨⟨pw_1287, by decide +kernel, ⟨by decide +kernel, by decide +kernel⟩, by decide⟩, by decide +kernel, ⟨trivial, trivial, trivial, lf_X12_206, trivial, trivial, px_mkS (px_lkc pt_140 lm_X12_50 px_lkn), trivial, trivial, lf_X12_39, trivial, trivial, trivial, pw_1047, trivial, trivial⟩⟩
theorem pk_221 : px_okm m_X12_count := ⟨⟨pw_1291, by decide +kernel, ⟨by decide +kernel, by decide +kernel⟩, by decide⟩, by decide +kernel, ⟨trivial, trivial, trivial, trivial, trivial, trivial, trivial, trivial, trivial, lf_X12_7, trivial, trivial, trivial, trivial, trivial, trivial, trivial, trivial, trivial, trivial, trivial, trivial, trivial, trivial, trivial, trivial, px_lkc pt_149 (Or.inl lm_X12_69) px_lkn, trivial, trivial, trivial, px_lkc pt_149 (Or.inl lm_X12_69) px_lkn, trivial, trivial, trivial, px_lkc pt_149 (Or.inl lm_X12_69) px_lkn, trivial, trivial, trivial, px_lkc pt_149 (Or.inl lm_X12_69) px_lkn, trivial, trivial, trivial, px_lkc pt_149 (Or.inl lm_X12_69) px_lkn, trivial, trivial, lf_X12_133, trivial, trivial, lf_X12_42, trivial, pw_973, trivial, trivial⟩⟩
theorem pk_222 : px_okm m_J6_bitCount_0f7a4 := ⟨⟨pw_626, by decide +kernel, ⟨by decide +kernel, by decide +kernel⟩, by decide⟩, by decide +kernel, ⟨trivial, trivial, trivial, trivial, pw_627, trivial, trivial, trivial, trivial, pw_628, trivial, trivial, trivial, trivial, pw_628, trivial, trivial, trivial, trivial, trivial, trivial, trivial, trivial, pw_629, trivial, trivial, trivial, trivial, trivial, trivial, trivial, trivial, trivial, trivial, trivial, trivial, trivial, trivial, trivial, trivial, trivial, trivial, trivial⟩⟩
theorem pk_223 : px_okm m_J7_fill_53178 := ⟨⟨pw_274, by decide +kernel, ⟨by decide +kernel, by decide +kernel⟩, by decide⟩, by decide +kernel, ⟨trivial, trivial, trivial, trivial, trivial, trivial, trivial, trivial, trivial, trivial, trivial, trivial, trivial, trivial, trivial, trivial⟩⟩
theorem px_allok : ∀ m ∈ px_tab, px_okm m := by
  unfold px_tab
  refine List.forall_mem_cons.mpr ⟨pk_0, ?_⟩
  refine List.forall_mem_cons.mpr ⟨pk_1, ?_⟩
  refine List.forall_mem_cons.mpr ⟨pk_2, ?_⟩
  refine List.forall_mem_cons.mpr ⟨pk_3, ?_⟩
  refine List.forall_mem_cons.mpr ⟨pk_4, ?_⟩
  refine List.forall_mem_cons.mpr ⟨pk_5, ?_⟩
  refine List.forall_mem_cons.mpr ⟨pk_6, ?_⟩
  refine List.forall_mem_cons.mpr ⟨pk_7, ?_⟩
  refine List.forall_mem_cons.mpr ⟨pk_8, ?_⟩
  refine List.forall_mem_cons.mpr ⟨pk_9, ?_⟩
  refine List.forall_mem_cons.mpr ⟨pk_10, ?_⟩
  refine List.forall_mem_cons.mpr ⟨pk_11, ?_⟩
  refine List.forall_mem_cons.mpr ⟨pk_12, ?_⟩
  refine List.forall_mem_cons.mpr ⟨pk_13, ?_⟩
  refine List.forall_mem_cons.mpr ⟨pk_14, ?_⟩
  refine List.forall_mem_cons.mpr ⟨pk_15, ?_⟩
  refine List.forall_mem_cons.mpr ⟨pk_16, ?_⟩
  refine List.forall_mem_cons.mpr ⟨pk_17, ?_⟩
  refine List.forall_mem_cons.mpr ⟨pk_18, ?_⟩
  refine List.forall_mem_cons.mpr ⟨pk_19, ?_⟩
  refine List.forall_mem_cons.mpr ⟨pk_20, ?_⟩
  refine List.forall_mem_cons.mpr ⟨pk_21, ?_⟩
  refine List.forall_mem_cons.mpr ⟨pk_22, ?_⟩
  refine List.forall_mem_cons.mpr ⟨pk_23, ?_⟩
  refine List.forall_mem_cons.mpr ⟨pk_24, ?_⟩
  refine List.forall_mem_cons.mpr ⟨pk_25, ?_⟩
  refine List.forall_mem_cons.mpr ⟨pk_26, ?_⟩
  refine List.forall_mem_cons.mpr ⟨pk_27, ?_⟩
  refine List.forall_mem_cons.mpr ⟨pk_28, ?_⟩
  refine List.forall_mem_cons.mpr ⟨pk_29, ?_⟩
  refine List.forall_mem_cons.mpr ⟨pk_30, ?_⟩
  refine List.forall_mem_cons.mpr ⟨pk_31, ?_⟩
  refine List.forall_mem_cons.mpr ⟨pk_32, ?_⟩
  refine List.forall_mem_cons.mpr ⟨pk_33, ?_⟩
  refine List.forall_mem_cons.mpr ⟨pk_34, ?_⟩
  refine List.forall_mem_cons.mpr ⟨pk_35, ?_⟩
  refine List.forall_mem_cons.mpr ⟨pk_36, ?_⟩
  refine List.forall_mem_cons.mpr ⟨pk_37, ?_⟩
  refine List.forall_mem_cons.mpr ⟨pk_38, ?_⟩
  refine List.forall_mem_cons.mpr ⟨pk_39, ?_⟩
  refine List.forall_mem_cons.mpr ⟨pk_40, ?_⟩
  refine List.forall_mem_cons.mpr ⟨pk_41, ?_⟩
  refine List.forall_mem_cons.mpr ⟨pk_42, ?_⟩
  refine List.forall_mem_cons.mpr ⟨pk_43, ?_⟩
  refine List.forall_mem_cons.mpr ⟨pk_44, ?_⟩
  refine List.forall_mem_cons.mpr ⟨pk_45, ?_⟩
  refine List.forall_mem_cons.mpr ⟨pk_46, ?_⟩
  refine List.forall_mem_cons.mpr ⟨pk_47, ?_⟩
  refine List.forall_mem_cons.mpr ⟨pk_48, ?_⟩
  refine List.forall_mem_cons.mpr ⟨pk_49, ?_⟩
  refine List.forall_mem_cons.mpr ⟨pk_50, ?_⟩
  refine List.forall_mem_cons.mpr ⟨pk_51, ?_⟩
  refine List.forall_mem_cons.mpr ⟨pk_52, ?_⟩
  refine List.forall_mem_cons.mpr ⟨pk_53, ?_⟩
  refine List.forall_mem_cons.mpr ⟨pk_54, ?_⟩
  refine List.forall_mem_cons.mpr ⟨pk_55, ?_⟩
  refine List.forall_mem_cons.mpr ⟨pk_56, ?_⟩
  refine List.forall_mem_cons.mpr ⟨pk_57, ?_⟩
  refine List.forall_mem_cons.mpr ⟨pk_58, ?_⟩
  refine List.forall_mem_cons.mpr ⟨pk_59, ?_⟩
  refine List.forall_mem_cons.mpr ⟨pk_60, ?_⟩
  refine List.forall_mem_cons.mpr ⟨pk_61, ?_⟩
  refine List.forall_mem_cons.mpr ⟨pk_62, ?_⟩
  refine List.forall_mem_cons.mpr ⟨pk_63, ?_⟩
  refine List.forall_mem_cons.mpr ⟨pk_64, ?_⟩
  refine List.forall_mem_cons.mpr ⟨pk_65, ?_⟩
  refine List.forall_mem_cons.mpr ⟨pk_66, ?_⟩
  refine List.forall_mem_cons.mpr ⟨pk_67, ?_⟩
  refine List.forall_mem_cons.mpr ⟨pk_68, ?_⟩
  refine List.forall_mem_cons.mpr ⟨pk_69, ?_⟩
  refine List.forall_mem_cons.mpr ⟨pk_70, ?_⟩
  refine List.forall_mem_cons.mpr ⟨pk_71, ?_⟩
  refine List.forall_mem_cons.mpr ⟨pk_72, ?_⟩
  refine List.forall_mem_cons.mpr ⟨pk_73, ?_⟩
  refine List.forall_mem_cons.mpr ⟨pk_74, ?_⟩
  refine List.forall_mem_cons.mpr ⟨pk_75, ?_⟩
  refine List.forall_mem_cons.mpr ⟨pk_76, ?_⟩
  refine List.forall_mem_cons.mpr ⟨pk_77, ?_⟩
  refine List.forall_mem_cons.mpr ⟨pk_78, ?_⟩
  refine List.forall_mem_cons.mpr ⟨pk_79, ?_⟩
  refine List.forall_mem_cons.mpr ⟨pk_80, ?_⟩
  refine List.forall_mem_cons.mpr ⟨pk_81, ?_⟩
  refine List.forall_mem_cons.mpr ⟨pk_82, ?_⟩
  refine List.forall_mem_cons.mpr ⟨pk_83, ?_⟩
  refine List.forall_mem_cons.mpr ⟨pk_84, ?_⟩
  refine List.forall_mem_cons.mpr ⟨pk_85, ?_⟩
  refine List.forall_mem_cons.mpr ⟨pk_86, ?_⟩
  refine List.forall_mem_cons.mpr ⟨pk_87, ?_⟩
  refine List.forall_mem_cons.mpr ⟨pk_88, ?_⟩
  refine List.forall_mem_cons.mpr ⟨pk_89, ?_⟩
  refine List.forall_mem_cons.mpr ⟨pk_90, ?_⟩
  refine List.forall_mem_cons.mpr ⟨pk_91, ?_⟩
  refine List.forall_mem_cons.mpr ⟨pk_92, ?_⟩
  refine List.forall_mem_cons.mpr ⟨pk_93, ?_⟩
  refine List.forall_mem_cons.mpr ⟨pk_94, ?_⟩
  refine List.forall_mem_cons.mpr ⟨pk_95, ?_⟩
  refine List.forall_mem_cons.mpr ⟨pk_96, ?_⟩
  refine List.forall_mem_cons.mpr ⟨pk_97, ?_⟩
  refine List.forall_mem_cons.mpr ⟨pk_98, ?_⟩
  refine List.forall_mem_cons.mpr ⟨pk_99, ?_⟩
  refine List.forall_mem_cons.mpr ⟨pk_100, ?_⟩
  refine List.forall_mem_cons.mpr ⟨pk_101, ?_⟩
  refine List.forall_mem_cons.mpr ⟨pk_102, ?_⟩
  refine List.forall_mem_cons.mpr ⟨pk_103, ?_⟩
  refine List.forall_mem_cons.mpr ⟨pk_104, ?_⟩
  refine List.forall_mem_cons.mpr ⟨pk_105, ?_⟩
  refine List.forall_mem_cons.mpr ⟨pk_106, ?_⟩
  refine List.forall_mem_cons.mpr ⟨pk_107, ?_⟩
  refine List.forall_mem_cons.mpr ⟨pk_108, ?_⟩
  refine List.forall_mem_cons.mpr ⟨pk_109, ?_⟩
  refine List.forall_mem_cons.mpr ⟨pk_110, ?_⟩
  refine List.forall_mem_cons.mpr ⟨pk_111, ?_⟩
  refine List.forall_mem_cons.mpr ⟨pk_112, ?_⟩
  refine List.forall_mem_cons.mpr ⟨pk_113, ?_⟩
  refine List.forall_mem_cons.mpr ⟨pk_114, ?_⟩
  refine List.forall_mem_cons.mpr ⟨pk_115, ?_⟩
  refine List.forall_mem_cons.mpr ⟨pk_116, ?_⟩
  refine List.forall_mem_cons.mpr ⟨pk_117, ?_⟩
  refine List.forall_mem_cons.mpr ⟨pk_118, ?_⟩
  refine List.forall_mem_cons.mpr ⟨pk_119, ?_⟩
  refine List.forall_mem_cons.mpr ⟨pk_120, ?_⟩
  refine List.forall_mem_cons.mpr ⟨pk_121, ?_⟩
  refine List.forall_mem_cons.mpr ⟨pk_122, ?_⟩
  refine List.forall_mem_cons.mpr ⟨pk_123, ?_⟩
  refine List.forall_mem_cons.mpr ⟨pk_124, ?_⟩
  refine List.forall_mem_cons.mpr ⟨pk_125, ?_⟩
  refine List.forall_mem_cons.mpr ⟨pk_126, ?_⟩
  refine List.forall_mem_cons.mpr ⟨pk_127, ?_⟩
  refine List.forall_mem_cons.mpr ⟨pk_128, ?_⟩
  refine List.forall_mem_cons.mpr ⟨pk_129, ?_⟩
  refine List.forall_mem_cons.mpr ⟨pk_130, ?_⟩
  refine List.forall_mem_cons.mpr ⟨pk_131, ?_⟩
  refine List.forall_mem_cons.mpr ⟨pk_132, ?_⟩
  refine List.forall_mem_cons.mpr ⟨pk_133, ?_⟩
  refine List.forall_mem_cons.mpr ⟨pk_134, ?_⟩
  refine List.forall_mem_cons.mpr ⟨pk_135, ?_⟩
  refine List.forall_mem_cons.mpr ⟨pk_136, ?_⟩
  refine List.forall_mem_cons.mpr ⟨pk_137, ?_⟩
  refine List.forall_mem_cons.mpr ⟨pk_138, ?_⟩
  refine List.forall_mem_cons.mpr ⟨pk_139, ?_⟩
  refine List.forall_mem_cons.mpr ⟨pk_140, ?_⟩
  refine List.forall_mem_cons.mpr ⟨pk_141, ?_⟩
  refine List.forall_mem_cons.mpr ⟨pk_142, ?_⟩
  refine List.forall_mem_cons.mpr ⟨pk_143, ?_⟩
  refine List.forall_mem_cons.mpr ⟨pk_144, ?_⟩
  refine List.forall_mem_cons.mpr ⟨pk_145, ?_⟩
  refine List.forall_mem_cons.mpr ⟨pk_146, ?_⟩
  refine List.forall_mem_cons.mpr ⟨pk_147, ?_⟩
  refine List.forall_mem_cons.mpr ⟨pk_148, ?_⟩
  refine List.forall_mem_cons.mpr ⟨pk_149, ?_⟩
  refine List.forall_mem_cons.mpr ⟨pk_150, ?_⟩
  refine List.forall_mem_cons.mpr ⟨pk_151, ?_⟩
  refine List.forall_mem_cons.mpr ⟨pk_152, ?_⟩
  refine List.forall_mem_cons.mpr ⟨pk_153, ?_⟩
  refine List.forall_mem_cons.mpr ⟨pk_154, ?_⟩
  refine List.forall_mem_cons.mpr ⟨pk_155, ?_⟩
  refine List.forall_mem_cons.mpr ⟨pk_156, ?_⟩
  refine List.forall_mem_cons.mpr ⟨pk_157, ?_⟩
  refine List.forall_mem_cons.mpr ⟨pk_158, ?_⟩
  refine List.forall_mem_cons.mpr ⟨pk_159, ?_⟩
  refine List.forall_mem_cons.mpr ⟨pk_160, ?_⟩
  refine List.forall_mem_cons.mpr ⟨pk_161, ?_⟩
  refine List.forall_mem_cons.mpr ⟨pk_162, ?_⟩
  refine List.forall_mem_cons.mpr ⟨pk_163, ?_⟩
  refine List.forall_mem_cons.mpr ⟨pk_164, ?_⟩
  refine List.forall_mem_cons.mpr ⟨pk_165, ?_⟩
  refine List.forall_mem_cons.mpr ⟨pk_166, ?_⟩
  refine List.forall_mem_cons.mpr ⟨pk_167, ?_⟩
  refine List.forall_mem_cons.mpr ⟨pk_168, ?_⟩
  refine List.forall_mem_cons.mpr ⟨pk_169, ?_⟩
  refine List.forall_mem_cons.mpr ⟨pk_170, ?_⟩
  refine List.forall_mem_cons.mpr ⟨pk_171, ?_⟩
  refine List.forall_mem_cons.mpr ⟨pk_172, ?_⟩
  refine List.forall_mem_cons.mpr ⟨pk_173, ?_⟩
  refine List.forall_mem_cons.mpr ⟨pk_174, ?_⟩
  refine List.forall_mem_cons.mpr ⟨pk_175, ?_⟩
  refine List.forall_mem_cons.mpr ⟨pk_176, ?_⟩
  refine List.forall_mem_cons.mpr ⟨pk_177, ?_⟩
  refine List.forall_mem_cons.mpr ⟨pk_178, ?_⟩
  refine List.forall_mem_cons.mpr ⟨pk_179, ?_⟩
  refine List.forall_mem_cons.mpr ⟨pk_180, ?_⟩
  refine List.forall_mem_cons.mpr ⟨pk_181, ?_⟩
  refine List.forall_mem_cons.mpr ⟨pk_182, ?_⟩
  refine List.forall_mem_cons.mpr ⟨pk_183, ?_⟩
  refine List.forall_mem_cons.mpr ⟨pk_184, ?_⟩
  refine List.forall_mem_cons.mpr ⟨pk_185, ?_⟩
  refine List.forall_mem_cons.mpr ⟨pk_186, ?_⟩
  refine List.forall_mem_cons.mpr ⟨pk_187, ?_⟩
  refine List.forall_mem_cons.mpr ⟨pk_188, ?_⟩
  refine List.forall_mem_cons.mpr ⟨pk_189, ?_⟩
  refine List.forall_mem_cons.mpr ⟨pk_190, ?_⟩
  refine List.forall_mem_cons.mpr ⟨pk_191, ?_⟩
  refine List.forall_mem_cons.mpr ⟨pk_192, ?_⟩
  refine List.forall_mem_cons.mpr ⟨pk_193, ?_⟩
  refine List.forall_mem_cons.mpr ⟨pk_194, ?_⟩
  refine List.forall_mem_cons.mpr ⟨pk_195, ?_⟩
  refine List.forall_mem_cons.mpr ⟨pk_196, ?_⟩
  refine List.forall_mem_cons.mpr ⟨pk_197, ?_⟩
  refine List.forall_mem_cons.mpr ⟨pk_198, ?_⟩
  refine List.forall_mem_cons.mpr ⟨pk_199, ?_⟩
  refine List.forall_mem_cons.mpr ⟨pk_200, ?_⟩
  refine List.forall_mem_cons.mpr ⟨pk_201, ?_⟩
  refine List.forall_mem_cons.mpr ⟨pk_202, ?_⟩
  refine List.forall_mem_cons.mpr ⟨pk_203, ?_⟩
  refine List.forall_mem_cons.mpr ⟨pk_204, ?_⟩
  refine List.forall_mem_cons.mpr ⟨pk_205, ?_⟩
  refine List.forall_mem_cons.mpr ⟨pk_206, ?_⟩
  refine List.forall_mem_cons.mpr ⟨pk_207, ?_⟩
  refine List.forall_mem_cons.mpr ⟨pk_208, ?_⟩
  refine List.forall_mem_cons.mpr ⟨pk_209, ?_⟩
  refine List.forall_mem_cons.mpr ⟨pk_210, ?_⟩
  refine List.forall_mem_cons.mpr ⟨pk_211, ?_⟩
  refine List.forall_mem_cons.mpr ⟨pk_212, ?_⟩
  refine List.forall_mem_cons.mpr ⟨pk_213, ?_⟩
  refine List.forall_mem_cons.mpr ⟨pk_214, ?_⟩
  refine List.forall_mem_cons.mpr ⟨pk_215, ?_⟩
  refine List.forall_mem_cons.mpr ⟨pk_216, ?_⟩
  refine List.forall_mem_cons.mpr ⟨pk_217, ?_⟩
  refine List.forall_mem_cons.mpr ⟨pk_218, ?_⟩
  refine List.forall_mem_cons.mpr ⟨pk_219, ?_⟩
  refine List.forall_mem_cons.mpr ⟨pk_220, ?_⟩
  refine List.forall_mem_cons.mpr ⟨pk_221, ?_⟩
  refine List.forall_mem_cons.mpr ⟨pk_222, ?_⟩
  refine List.forall_mem_cons.mpr ⟨pk_223, ?_⟩
  exact fun _ h => absurd h List.not_mem_nil
theorem px_ok : px_TOK px_tab := by
  intro M m hm
  have h := px_allok m (List.mem_of_getElem? hm)
  refine ⟨h.1, fun pc q hq => ?_⟩
  have hmem := px_lookup hq
  exact ⟨(h.2.1 _ hmem).1, (h.2.1 _ hmem).2, h.2.2.at _ hmem⟩
end
