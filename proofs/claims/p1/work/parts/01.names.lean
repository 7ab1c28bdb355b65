-- ===== PART A: goes FIRST, ahead of the names: the tables' words, and 'selects' of the private methods out of them =====
/-- a private method of a class that the tables say can be made, by its rows of tables_1 -/
def lw_okq (q : MethodName × Nat) : Prop := (q.1.cls ≠ "java/lang/invoke/MethodHandle" ∧ q.1.cls ≠ "java/lang/invoke/VarHandle") ∧ Cond.instantiable q.1.cls q.2 ∈ tables_1 ∧ Cond.privateMethod q.1 ∈ tables_1 ∧ Cond.instanceMethod q.1 ∈ tables_1
theorem lw_p0 : lw_okq (⟨"GorgeRocks", "error", "(I)I"⟩, 15) := ⟨⟨by decide +kernel, by decide +kernel⟩, List.mem_of_getElem? (i := 23) (by decide +kernel), List.mem_of_getElem? (i := 386) (by decide +kernel), List.mem_of_getElem? (i := 387) (by decide +kernel)⟩
theorem lw_p1 : lw_okq (⟨"GorgeRocks", "isCall", "(I)Z"⟩, 15) := ⟨⟨by decide +kernel, by decide +kernel⟩, List.mem_of_getElem? (i := 23) (by decide +kernel), List.mem_of_getElem? (i := 399) (by decide +kernel), List.mem_of_getElem? (i := 400) (by decide +kernel)⟩
theorem lw_p2 : lw_okq (⟨"GorgeRocks", "soundOrSize", "(LGorgeRocks$Row;I)I"⟩, 15) := ⟨⟨by decide +kernel, by decide +kernel⟩, List.mem_of_getElem? (i := 23) (by decide +kernel), List.mem_of_getElem? (i := 414) (by decide +kernel), List.mem_of_getElem? (i := 415) (by decide +kernel)⟩
theorem lw_p3 : lw_okq (⟨"GorgeRocks", "isRock", "(I)Z"⟩, 15) := ⟨⟨by decide +kernel, by decide +kernel⟩, List.mem_of_getElem? (i := 23) (by decide +kernel), List.mem_of_getElem? (i := 457) (by decide +kernel), List.mem_of_getElem? (i := 458) (by decide +kernel)⟩
theorem lw_p4 : lw_okq (⟨"GorgeRocks$Reader", "readLevel", "(II)Z"⟩, 4) := ⟨⟨by decide +kernel, by decide +kernel⟩, List.mem_of_getElem? (i := 190) (by decide +kernel), List.mem_of_getElem? (i := 506) (by decide +kernel), List.mem_of_getElem? (i := 507) (by decide +kernel)⟩
theorem lw_p5 : lw_okq (⟨"GorgeRocks$Reader", "readQ", "(I)Z"⟩, 4) := ⟨⟨by decide +kernel, by decide +kernel⟩, List.mem_of_getElem? (i := 190) (by decide +kernel), List.mem_of_getElem? (i := 510) (by decide +kernel), List.mem_of_getElem? (i := 511) (by decide +kernel)⟩
theorem lw_p6 : lw_okq (⟨"GorgeRocks$Reader", "next", "()I"⟩, 4) := ⟨⟨by decide +kernel, by decide +kernel⟩, List.mem_of_getElem? (i := 190) (by decide +kernel), List.mem_of_getElem? (i := 514) (by decide +kernel), List.mem_of_getElem? (i := 515) (by decide +kernel)⟩
theorem lw_p7 : lw_okq (⟨"GorgeRocks$Reader", "readNumber", "()V"⟩, 4) := ⟨⟨by decide +kernel, by decide +kernel⟩, List.mem_of_getElem? (i := 190) (by decide +kernel), List.mem_of_getElem? (i := 521) (by decide +kernel), List.mem_of_getElem? (i := 522) (by decide +kernel)⟩
theorem lw_p8 : lw_okq (⟨"GorgeRocks$Reader", "readDenied", "(I)Z"⟩, 4) := ⟨⟨by decide +kernel, by decide +kernel⟩, List.mem_of_getElem? (i := 190) (by decide +kernel), List.mem_of_getElem? (i := 610) (by decide +kernel), List.mem_of_getElem? (i := 611) (by decide +kernel)⟩
theorem lw_p9 : lw_okq (⟨"GorgeRocks$Reader", "readEnclosed", "(I)Z"⟩, 4) := ⟨⟨by decide +kernel, by decide +kernel⟩, List.mem_of_getElem? (i := 190) (by decide +kernel), List.mem_of_getElem? (i := 614) (by decide +kernel), List.mem_of_getElem? (i := 615) (by decide +kernel)⟩
theorem lw_p10 : lw_okq (⟨"GorgeRocks$World", "turnByText", "(LGorgeRocks$Row;I)V"⟩, 15) := ⟨⟨by decide +kernel, by decide +kernel⟩, List.mem_of_getElem? (i := 31) (by decide +kernel), List.mem_of_getElem? (i := 675) (by decide +kernel), List.mem_of_getElem? (i := 676) (by decide +kernel)⟩
theorem lw_p11 : lw_okq (⟨"GorgeRocks", "rocksThatMake", "(LGorgeRocks$Row;LGorgeRocks$Row;)I"⟩, 15) := ⟨⟨by decide +kernel, by decide +kernel⟩, List.mem_of_getElem? (i := 23) (by decide +kernel), List.mem_of_getElem? (i := 715) (by decide +kernel), List.mem_of_getElem? (i := 716) (by decide +kernel)⟩
theorem lw_p12 : lw_okq (⟨"GorgeRocks", "waysTo", "(LGorgeRocks$Row;LGorgeRocks$Row;I)I"⟩, 15) := ⟨⟨by decide +kernel, by decide +kernel⟩, List.mem_of_getElem? (i := 23) (by decide +kernel), List.mem_of_getElem? (i := 724) (by decide +kernel), List.mem_of_getElem? (i := 725) (by decide +kernel)⟩
theorem lw_p13 : lw_okq (⟨"GorgeRocks$Meanings", "addIfUnlike", "(LGorgeRocks$Row;)V"⟩, 3) := ⟨⟨by decide +kernel, by decide +kernel⟩, List.mem_of_getElem? (i := 232) (by decide +kernel), List.mem_of_getElem? (i := 744) (by decide +kernel), List.mem_of_getElem? (i := 745) (by decide +kernel)⟩
theorem lw_p14 : lw_okq (⟨"GorgeRocks$Meanings", "addUndone", "(LGorgeRocks$World;LGorgeRocks$Row;)V"⟩, 3) := ⟨⟨by decide +kernel, by decide +kernel⟩, List.mem_of_getElem? (i := 232) (by decide +kernel), List.mem_of_getElem? (i := 750) (by decide +kernel), List.mem_of_getElem? (i := 751) (by decide +kernel)⟩
theorem lw_p15 : lw_okq (⟨"GorgeRocks$Grammar", "isTermSo", "(I)Z"⟩, 3) := ⟨⟨by decide +kernel, by decide +kernel⟩, List.mem_of_getElem? (i := 214) (by decide +kernel), List.mem_of_getElem? (i := 806) (by decide +kernel), List.mem_of_getElem? (i := 807) (by decide +kernel)⟩
def lw_privs_1 : List (MethodName × Nat) := [(⟨"GorgeRocks", "error", "(I)I"⟩, 15), (⟨"GorgeRocks", "isCall", "(I)Z"⟩, 15), (⟨"GorgeRocks", "soundOrSize", "(LGorgeRocks$Row;I)I"⟩, 15), (⟨"GorgeRocks", "isRock", "(I)Z"⟩, 15), (⟨"GorgeRocks$Reader", "readLevel", "(II)Z"⟩, 4), (⟨"GorgeRocks$Reader", "readQ", "(I)Z"⟩, 4), (⟨"GorgeRocks$Reader", "next", "()I"⟩, 4), (⟨"GorgeRocks$Reader", "readNumber", "()V"⟩, 4), (⟨"GorgeRocks$Reader", "readDenied", "(I)Z"⟩, 4), (⟨"GorgeRocks$Reader", "readEnclosed", "(I)Z"⟩, 4), (⟨"GorgeRocks$World", "turnByText", "(LGorgeRocks$Row;I)V"⟩, 15), (⟨"GorgeRocks", "rocksThatMake", "(LGorgeRocks$Row;LGorgeRocks$Row;)I"⟩, 15), (⟨"GorgeRocks", "waysTo", "(LGorgeRocks$Row;LGorgeRocks$Row;I)I"⟩, 15), (⟨"GorgeRocks$Meanings", "addIfUnlike", "(LGorgeRocks$Row;)V"⟩, 3), (⟨"GorgeRocks$Meanings", "addUndone", "(LGorgeRocks$World;LGorgeRocks$Row;)V"⟩, 3), (⟨"GorgeRocks$Grammar", "isTermSo", "(I)Z"⟩, 3)]
theorem lw_r1 : ∀ q ∈ lw_privs_1, lw_okq q := List.forall_mem_cons.mpr ⟨lw_p0, List.forall_mem_cons.mpr ⟨lw_p1, List.forall_mem_cons.mpr ⟨lw_p2, List.forall_mem_cons.mpr ⟨lw_p3, List.forall_mem_cons.mpr ⟨lw_p4, List.forall_mem_cons.mpr ⟨lw_p5, List.forall_mem_cons.mpr ⟨lw_p6, List.forall_mem_cons.mpr ⟨lw_p7, List.forall_mem_cons.mpr ⟨lw_p8, List.forall_mem_cons.mpr ⟨lw_p9, List.forall_mem_cons.mpr ⟨lw_p10, List.forall_mem_cons.mpr ⟨lw_p11, List.forall_mem_cons.mpr ⟨lw_p12, List.forall_mem_cons.mpr ⟨lw_p13, List.forall_mem_cons.mpr ⟨lw_p14, List.forall_mem_cons.mpr ⟨lw_p15, fun _ h => absurd h List.not_mem_nil⟩⟩⟩⟩⟩⟩⟩⟩⟩⟩⟩⟩⟩⟩⟩⟩
theorem lw_p16 : lw_okq (⟨"GorgeRocks$Grammar", "next", "()I"⟩, 3) := ⟨⟨by decide +kernel, by decide +kernel⟩, List.mem_of_getElem? (i := 214) (by decide +kernel), List.mem_of_getElem? (i := 810) (by decide +kernel), List.mem_of_getElem? (i := 811) (by decide +kernel)⟩
theorem lw_p17 : lw_okq (⟨"GorgeRocks$Grammar", "sumBehind", "()I"⟩, 3) := ⟨⟨by decide +kernel, by decide +kernel⟩, List.mem_of_getElem? (i := 214) (by decide +kernel), List.mem_of_getElem? (i := 814) (by decide +kernel), List.mem_of_getElem? (i := 815) (by decide +kernel)⟩
theorem lw_p18 : lw_okq (⟨"GorgeRocks$Grammar", "isWordSo", "(I)Z"⟩, 3) := ⟨⟨by decide +kernel, by decide +kernel⟩, List.mem_of_getElem? (i := 214) (by decide +kernel), List.mem_of_getElem? (i := 818) (by decide +kernel), List.mem_of_getElem? (i := 819) (by decide +kernel)⟩
theorem lw_p19 : lw_okq (⟨"GorgeRocks$Deal", "numberHeard", "(LGorgeRocks$World;ILGorgeRocks$Row;I)I"⟩, 8) := ⟨⟨by decide +kernel, by decide +kernel⟩, List.mem_of_getElem? (i := 251) (by decide +kernel), List.mem_of_getElem? (i := 869) (by decide +kernel), List.mem_of_getElem? (i := 870) (by decide +kernel)⟩
theorem lw_p20 : lw_okq (⟨"GorgeRocks$Speaker", "speak", "(IIII)I"⟩, 5) := ⟨⟨by decide +kernel, by decide +kernel⟩, List.mem_of_getElem? (i := 288) (by decide +kernel), List.mem_of_getElem? (i := 896) (by decide +kernel), List.mem_of_getElem? (i := 897) (by decide +kernel)⟩
theorem lw_p21 : lw_okq (⟨"GorgeRocks$Speaker", "waitsOfRock", "(I)I"⟩, 5) := ⟨⟨by decide +kernel, by decide +kernel⟩, List.mem_of_getElem? (i := 288) (by decide +kernel), List.mem_of_getElem? (i := 908) (by decide +kernel), List.mem_of_getElem? (i := 909) (by decide +kernel)⟩
theorem lw_p22 : lw_okq (⟨"GorgeRocksModel", "error", "(I)I"⟩, 26) := ⟨⟨by decide +kernel, by decide +kernel⟩, List.mem_of_getElem? (i := 989) (by decide +kernel), List.mem_of_getElem? (i := 1078) (by decide +kernel), List.mem_of_getElem? (i := 1079) (by decide +kernel)⟩
theorem lw_p23 : lw_okq (⟨"GorgeRocksModel", "isCall", "(I)Z"⟩, 26) := ⟨⟨by decide +kernel, by decide +kernel⟩, List.mem_of_getElem? (i := 989) (by decide +kernel), List.mem_of_getElem? (i := 1087) (by decide +kernel), List.mem_of_getElem? (i := 1088) (by decide +kernel)⟩
theorem lw_p24 : lw_okq (⟨"GorgeRocksModel", "take", "(I[I)V"⟩, 26) := ⟨⟨by decide +kernel, by decide +kernel⟩, List.mem_of_getElem? (i := 989) (by decide +kernel), List.mem_of_getElem? (i := 1101) (by decide +kernel), List.mem_of_getElem? (i := 1102) (by decide +kernel)⟩
theorem lw_p25 : lw_okq (⟨"GorgeRocksModel", "toldOf", "([II)I"⟩, 26) := ⟨⟨by decide +kernel, by decide +kernel⟩, List.mem_of_getElem? (i := 989) (by decide +kernel), List.mem_of_getElem? (i := 1105) (by decide +kernel), List.mem_of_getElem? (i := 1106) (by decide +kernel)⟩
theorem lw_p26 : lw_okq (⟨"GorgeRocksModel", "drawn", "()I"⟩, 26) := ⟨⟨by decide +kernel, by decide +kernel⟩, List.mem_of_getElem? (i := 989) (by decide +kernel), List.mem_of_getElem? (i := 1117) (by decide +kernel), List.mem_of_getElem? (i := 1118) (by decide +kernel)⟩
theorem lw_p27 : lw_okq (⟨"GorgeRocksModel", "isRock", "(I)Z"⟩, 26) := ⟨⟨by decide +kernel, by decide +kernel⟩, List.mem_of_getElem? (i := 989) (by decide +kernel), List.mem_of_getElem? (i := 1137) (by decide +kernel), List.mem_of_getElem? (i := 1138) (by decide +kernel)⟩
theorem lw_p28 : lw_okq (⟨"GorgeRocksModel", "its", "(II)I"⟩, 26) := ⟨⟨by decide +kernel, by decide +kernel⟩, List.mem_of_getElem? (i := 989) (by decide +kernel), List.mem_of_getElem? (i := 1141) (by decide +kernel), List.mem_of_getElem? (i := 1142) (by decide +kernel)⟩
theorem lw_p29 : lw_okq (⟨"GorgeRocksModel", "whole", "()Z"⟩, 26) := ⟨⟨by decide +kernel, by decide +kernel⟩, List.mem_of_getElem? (i := 989) (by decide +kernel), List.mem_of_getElem? (i := 1165) (by decide +kernel), List.mem_of_getElem? (i := 1166) (by decide +kernel)⟩
theorem lw_p30 : lw_okq (⟨"GorgeRocksModel", "both", "()Z"⟩, 26) := ⟨⟨by decide +kernel, by decide +kernel⟩, List.mem_of_getElem? (i := 989) (by decide +kernel), List.mem_of_getElem? (i := 1169) (by decide +kernel), List.mem_of_getElem? (i := 1170) (by decide +kernel)⟩
theorem lw_p31 : lw_okq (⟨"GorgeRocksModel", "compared", "()Z"⟩, 26) := ⟨⟨by decide +kernel, by decide +kernel⟩, List.mem_of_getElem? (i := 989) (by decide +kernel), List.mem_of_getElem? (i := 1173) (by decide +kernel), List.mem_of_getElem? (i := 1174) (by decide +kernel)⟩
def lw_privs_2 : List (MethodName × Nat) := [(⟨"GorgeRocks$Grammar", "next", "()I"⟩, 3), (⟨"GorgeRocks$Grammar", "sumBehind", "()I"⟩, 3), (⟨"GorgeRocks$Grammar", "isWordSo", "(I)Z"⟩, 3), (⟨"GorgeRocks$Deal", "numberHeard", "(LGorgeRocks$World;ILGorgeRocks$Row;I)I"⟩, 8), (⟨"GorgeRocks$Speaker", "speak", "(IIII)I"⟩, 5), (⟨"GorgeRocks$Speaker", "waitsOfRock", "(I)I"⟩, 5), (⟨"GorgeRocksModel", "error", "(I)I"⟩, 26), (⟨"GorgeRocksModel", "isCall", "(I)Z"⟩, 26), (⟨"GorgeRocksModel", "take", "(I[I)V"⟩, 26), (⟨"GorgeRocksModel", "toldOf", "([II)I"⟩, 26), (⟨"GorgeRocksModel", "drawn", "()I"⟩, 26), (⟨"GorgeRocksModel", "isRock", "(I)Z"⟩, 26), (⟨"GorgeRocksModel", "its", "(II)I"⟩, 26), (⟨"GorgeRocksModel", "whole", "()Z"⟩, 26), (⟨"GorgeRocksModel", "both", "()Z"⟩, 26), (⟨"GorgeRocksModel", "compared", "()Z"⟩, 26)]
theorem lw_r2 : ∀ q ∈ lw_privs_2, lw_okq q := List.forall_mem_cons.mpr ⟨lw_p16, List.forall_mem_cons.mpr ⟨lw_p17, List.forall_mem_cons.mpr ⟨lw_p18, List.forall_mem_cons.mpr ⟨lw_p19, List.forall_mem_cons.mpr ⟨lw_p20, List.forall_mem_cons.mpr ⟨lw_p21, List.forall_mem_cons.mpr ⟨lw_p22, List.forall_mem_cons.mpr ⟨lw_p23, List.forall_mem_cons.mpr ⟨lw_p24, List.forall_mem_cons.mpr ⟨lw_p25, List.forall_mem_cons.mpr ⟨lw_p26, List.forall_mem_cons.mpr ⟨lw_p27, List.forall_mem_cons.mpr ⟨lw_p28, List.forall_mem_cons.mpr ⟨lw_p29, List.forall_mem_cons.mpr ⟨lw_p30, List.forall_mem_cons.mpr ⟨lw_p31, fun _ h => absurd h List.not_mem_nil⟩⟩⟩⟩⟩⟩⟩⟩⟩⟩⟩⟩⟩⟩⟩⟩
theorem lw_p32 : lw_okq (⟨"GorgeRocksModel", "sum", "()Z"⟩, 26) := ⟨⟨by decide +kernel, by decide +kernel⟩, List.mem_of_getElem? (i := 989) (by decide +kernel), List.mem_of_getElem? (i := 1177) (by decide +kernel), List.mem_of_getElem? (i := 1178) (by decide +kernel)⟩
theorem lw_p33 : lw_okq (⟨"GorgeRocksModel", "product", "()Z"⟩, 26) := ⟨⟨by decide +kernel, by decide +kernel⟩, List.mem_of_getElem? (i := 989) (by decide +kernel), List.mem_of_getElem? (i := 1181) (by decide +kernel), List.mem_of_getElem? (i := 1182) (by decide +kernel)⟩
theorem lw_p34 : lw_okq (⟨"GorgeRocksModel", "one", "()Z"⟩, 26) := ⟨⟨by decide +kernel, by decide +kernel⟩, List.mem_of_getElem? (i := 989) (by decide +kernel), List.mem_of_getElem? (i := 1185) (by decide +kernel), List.mem_of_getElem? (i := 1186) (by decide +kernel)⟩
theorem lw_p35 : lw_okq (⟨"GorgeRocksModel", "look", "()I"⟩, 26) := ⟨⟨by decide +kernel, by decide +kernel⟩, List.mem_of_getElem? (i := 989) (by decide +kernel), List.mem_of_getElem? (i := 1189) (by decide +kernel), List.mem_of_getElem? (i := 1190) (by decide +kernel)⟩
theorem lw_p36 : lw_okq (⟨"GorgeRocksModel", "isName", "(I)Z"⟩, 26) := ⟨⟨by decide +kernel, by decide +kernel⟩, List.mem_of_getElem? (i := 989) (by decide +kernel), List.mem_of_getElem? (i := 1193) (by decide +kernel), List.mem_of_getElem? (i := 1194) (by decide +kernel)⟩
theorem lw_p37 : lw_okq (⟨"GorgeRocksModel", "lays", "(II)V"⟩, 26) := ⟨⟨by decide +kernel, by decide +kernel⟩, List.mem_of_getElem? (i := 989) (by decide +kernel), List.mem_of_getElem? (i := 1197) (by decide +kernel), List.mem_of_getElem? (i := 1198) (by decide +kernel)⟩
theorem lw_p38 : lw_okq (⟨"GorgeRocksModel", "opens", "()Z"⟩, 26) := ⟨⟨by decide +kernel, by decide +kernel⟩, List.mem_of_getElem? (i := 989) (by decide +kernel), List.mem_of_getElem? (i := 1201) (by decide +kernel), List.mem_of_getElem? (i := 1202) (by decide +kernel)⟩
theorem lw_p39 : lw_okq (⟨"GorgeRocksModel", "hasText", "(I)Z"⟩, 26) := ⟨⟨by decide +kernel, by decide +kernel⟩, List.mem_of_getElem? (i := 989) (by decide +kernel), List.mem_of_getElem? (i := 1209) (by decide +kernel), List.mem_of_getElem? (i := 1210) (by decide +kernel)⟩
theorem lw_p40 : lw_okq (⟨"GorgeRocksModel", "isWay", "(I)Z"⟩, 26) := ⟨⟨by decide +kernel, by decide +kernel⟩, List.mem_of_getElem? (i := 989) (by decide +kernel), List.mem_of_getElem? (i := 1217) (by decide +kernel), List.mem_of_getElem? (i := 1218) (by decide +kernel)⟩
theorem lw_p41 : lw_okq (⟨"GorgeRocksModel", "hears", "(II[I)V"⟩, 26) := ⟨⟨by decide +kernel, by decide +kernel⟩, List.mem_of_getElem? (i := 989) (by decide +kernel), List.mem_of_getElem? (i := 1221) (by decide +kernel), List.mem_of_getElem? (i := 1222) (by decide +kernel)⟩
theorem lw_p42 : lw_okq (⟨"GorgeRocksModel", "goesOver", "(I[I)V"⟩, 26) := ⟨⟨by decide +kernel, by decide +kernel⟩, List.mem_of_getElem? (i := 989) (by decide +kernel), List.mem_of_getElem? (i := 1225) (by decide +kernel), List.mem_of_getElem? (i := 1226) (by decide +kernel)⟩
theorem lw_p43 : lw_okq (⟨"GorgeRocksModel", "sends", "(I[I)V"⟩, 26) := ⟨⟨by decide +kernel, by decide +kernel⟩, List.mem_of_getElem? (i := 989) (by decide +kernel), List.mem_of_getElem? (i := 1235) (by decide +kernel), List.mem_of_getElem? (i := 1236) (by decide +kernel)⟩
theorem lw_p44 : lw_okq (⟨"GorgeRocksModel", "turns", "([I)V"⟩, 26) := ⟨⟨by decide +kernel, by decide +kernel⟩, List.mem_of_getElem? (i := 989) (by decide +kernel), List.mem_of_getElem? (i := 1242) (by decide +kernel), List.mem_of_getElem? (i := 1243) (by decide +kernel)⟩
theorem lw_p45 : lw_okq (⟨"GorgeRocksModel", "swallows", "([II)V"⟩, 26) := ⟨⟨by decide +kernel, by decide +kernel⟩, List.mem_of_getElem? (i := 989) (by decide +kernel), List.mem_of_getElem? (i := 1246) (by decide +kernel), List.mem_of_getElem? (i := 1247) (by decide +kernel)⟩
theorem lw_p46 : lw_okq (⟨"GorgeRocksModel", "asTold", "([II)V"⟩, 26) := ⟨⟨by decide +kernel, by decide +kernel⟩, List.mem_of_getElem? (i := 989) (by decide +kernel), List.mem_of_getElem? (i := 1250) (by decide +kernel), List.mem_of_getElem? (i := 1251) (by decide +kernel)⟩
theorem lw_p47 : lw_okq (⟨"GorgeRocksModel", "worked", "(I)I"⟩, 26) := ⟨⟨by decide +kernel, by decide +kernel⟩, List.mem_of_getElem? (i := 989) (by decide +kernel), List.mem_of_getElem? (i := 1254) (by decide +kernel), List.mem_of_getElem? (i := 1255) (by decide +kernel)⟩
def lw_privs_3 : List (MethodName × Nat) := [(⟨"GorgeRocksModel", "sum", "()Z"⟩, 26), (⟨"GorgeRocksModel", "product", "()Z"⟩, 26), (⟨"GorgeRocksModel", "one", "()Z"⟩, 26), (⟨"GorgeRocksModel", "look", "()I"⟩, 26), (⟨"GorgeRocksModel", "isName", "(I)Z"⟩, 26), (⟨"GorgeRocksModel", "lays", "(II)V"⟩, 26), (⟨"GorgeRocksModel", "opens", "()Z"⟩, 26), (⟨"GorgeRocksModel", "hasText", "(I)Z"⟩, 26), (⟨"GorgeRocksModel", "isWay", "(I)Z"⟩, 26), (⟨"GorgeRocksModel", "hears", "(II[I)V"⟩, 26), (⟨"GorgeRocksModel", "goesOver", "(I[I)V"⟩, 26), (⟨"GorgeRocksModel", "sends", "(I[I)V"⟩, 26), (⟨"GorgeRocksModel", "turns", "([I)V"⟩, 26), (⟨"GorgeRocksModel", "swallows", "([II)V"⟩, 26), (⟨"GorgeRocksModel", "asTold", "([II)V"⟩, 26), (⟨"GorgeRocksModel", "worked", "(I)I"⟩, 26)]
theorem lw_r3 : ∀ q ∈ lw_privs_3, lw_okq q := List.forall_mem_cons.mpr ⟨lw_p32, List.forall_mem_cons.mpr ⟨lw_p33, List.forall_mem_cons.mpr ⟨lw_p34, List.forall_mem_cons.mpr ⟨lw_p35, List.forall_mem_cons.mpr ⟨lw_p36, List.forall_mem_cons.mpr ⟨lw_p37, List.forall_mem_cons.mpr ⟨lw_p38, List.forall_mem_cons.mpr ⟨lw_p39, List.forall_mem_cons.mpr ⟨lw_p40, List.forall_mem_cons.mpr ⟨lw_p41, List.forall_mem_cons.mpr ⟨lw_p42, List.forall_mem_cons.mpr ⟨lw_p43, List.forall_mem_cons.mpr ⟨lw_p44, List.forall_mem_cons.mpr ⟨lw_p45, List.forall_mem_cons.mpr ⟨lw_p46, List.forall_mem_cons.mpr ⟨lw_p47, fun _ h => absurd h List.not_mem_nil⟩⟩⟩⟩⟩⟩⟩⟩⟩⟩⟩⟩⟩⟩⟩⟩
theorem lw_p48 : lw_okq (⟨"GorgeRocksModel", "lay", "([II)V"⟩, 26) := ⟨⟨by decide +kernel, by decide +kernel⟩, List.mem_of_getElem? (i := 989) (by decide +kernel), List.mem_of_getElem? (i := 1276) (by decide +kernel), List.mem_of_getElem? (i := 1277) (by decide +kernel)⟩
theorem lw_p49 : lw_okq (⟨"GorgeRocksModel", "comesBy", "(II[I)I"⟩, 26) := ⟨⟨by decide +kernel, by decide +kernel⟩, List.mem_of_getElem? (i := 989) (by decide +kernel), List.mem_of_getElem? (i := 1284) (by decide +kernel), List.mem_of_getElem? (i := 1285) (by decide +kernel)⟩
theorem lw_p50 : lw_okq (⟨"GorgeRocksModel", "canUndo", "(I)Z"⟩, 26) := ⟨⟨by decide +kernel, by decide +kernel⟩, List.mem_of_getElem? (i := 989) (by decide +kernel), List.mem_of_getElem? (i := 1296) (by decide +kernel), List.mem_of_getElem? (i := 1297) (by decide +kernel)⟩
theorem lw_p51 : lw_okq (⟨"GorgeRocksModel", "needs", "(II[I)V"⟩, 26) := ⟨⟨by decide +kernel, by decide +kernel⟩, List.mem_of_getElem? (i := 989) (by decide +kernel), List.mem_of_getElem? (i := 1300) (by decide +kernel), List.mem_of_getElem? (i := 1301) (by decide +kernel)⟩
theorem lw_p52 : lw_okq (⟨"GorgeRocksModel", "findMeant", "(II)V"⟩, 26) := ⟨⟨by decide +kernel, by decide +kernel⟩, List.mem_of_getElem? (i := 989) (by decide +kernel), List.mem_of_getElem? (i := 1308) (by decide +kernel), List.mem_of_getElem? (i := 1309) (by decide +kernel)⟩
theorem lw_p53 : lw_okq (⟨"GorgeRocksModel", "unlikeIn", "(I)I"⟩, 26) := ⟨⟨by decide +kernel, by decide +kernel⟩, List.mem_of_getElem? (i := 989) (by decide +kernel), List.mem_of_getElem? (i := 1316) (by decide +kernel), List.mem_of_getElem? (i := 1317) (by decide +kernel)⟩
theorem lw_p54 : lw_okq (⟨"GorgeRocksModel", "saying", "()Z"⟩, 26) := ⟨⟨by decide +kernel, by decide +kernel⟩, List.mem_of_getElem? (i := 989) (by decide +kernel), List.mem_of_getElem? (i := 1333) (by decide +kernel), List.mem_of_getElem? (i := 1334) (by decide +kernel)⟩
theorem lw_p55 : lw_okq (⟨"GorgeRocksModel", "term", "()Z"⟩, 26) := ⟨⟨by decide +kernel, by decide +kernel⟩, List.mem_of_getElem? (i := 989) (by decide +kernel), List.mem_of_getElem? (i := 1337) (by decide +kernel), List.mem_of_getElem? (i := 1338) (by decide +kernel)⟩
theorem lw_p56 : lw_okq (⟨"GorgeRocksModel", "soundAt", "(I)I"⟩, 26) := ⟨⟨by decide +kernel, by decide +kernel⟩, List.mem_of_getElem? (i := 989) (by decide +kernel), List.mem_of_getElem? (i := 1341) (by decide +kernel), List.mem_of_getElem? (i := 1342) (by decide +kernel)⟩
theorem lw_p57 : lw_okq (⟨"GorgeRocksModel", "isSo", "(I)Z"⟩, 26) := ⟨⟨by decide +kernel, by decide +kernel⟩, List.mem_of_getElem? (i := 989) (by decide +kernel), List.mem_of_getElem? (i := 1345) (by decide +kernel), List.mem_of_getElem? (i := 1346) (by decide +kernel)⟩
theorem lw_p58 : lw_okq (⟨"GorgeRocksModel", "comes", "()V"⟩, 26) := ⟨⟨by decide +kernel, by decide +kernel⟩, List.mem_of_getElem? (i := 989) (by decide +kernel), List.mem_of_getElem? (i := 1362) (by decide +kernel), List.mem_of_getElem? (i := 1363) (by decide +kernel)⟩
theorem lw_p59 : lw_okq (⟨"GorgeRocksModel", "logs", "(I)V"⟩, 26) := ⟨⟨by decide +kernel, by decide +kernel⟩, List.mem_of_getElem? (i := 989) (by decide +kernel), List.mem_of_getElem? (i := 1366) (by decide +kernel), List.mem_of_getElem? (i := 1367) (by decide +kernel)⟩
theorem lw_p60 : lw_okq (⟨"GorgeRocksModel", "hearsOf", "(III)I"⟩, 26) := ⟨⟨by decide +kernel, by decide +kernel⟩, List.mem_of_getElem? (i := 989) (by decide +kernel), List.mem_of_getElem? (i := 1382) (by decide +kernel), List.mem_of_getElem? (i := 1383) (by decide +kernel)⟩
theorem lw_p61 : lw_okq (⟨"GorgeRocksModel", "offers", "(IIII)I"⟩, 26) := ⟨⟨by decide +kernel, by decide +kernel⟩, List.mem_of_getElem? (i := 989) (by decide +kernel), List.mem_of_getElem? (i := 1386) (by decide +kernel), List.mem_of_getElem? (i := 1387) (by decide +kernel)⟩
theorem lw_p62 : lw_okq (⟨"GorgeRocksModel", "kindNow", "()I"⟩, 26) := ⟨⟨by decide +kernel, by decide +kernel⟩, List.mem_of_getElem? (i := 989) (by decide +kernel), List.mem_of_getElem? (i := 1401) (by decide +kernel), List.mem_of_getElem? (i := 1402) (by decide +kernel)⟩
theorem lw_p63 : lw_okq (⟨"GorgeRocksModel", "turnsBy", "(II)I"⟩, 26) := ⟨⟨by decide +kernel, by decide +kernel⟩, List.mem_of_getElem? (i := 989) (by decide +kernel), List.mem_of_getElem? (i := 1405) (by decide +kernel), List.mem_of_getElem? (i := 1406) (by decide +kernel)⟩
def lw_privs_4 : List (MethodName × Nat) := [(⟨"GorgeRocksModel", "lay", "([II)V"⟩, 26), (⟨"GorgeRocksModel", "comesBy", "(II[I)I"⟩, 26), (⟨"GorgeRocksModel", "canUndo", "(I)Z"⟩, 26), (⟨"GorgeRocksModel", "needs", "(II[I)V"⟩, 26), (⟨"GorgeRocksModel", "findMeant", "(II)V"⟩, 26), (⟨"GorgeRocksModel", "unlikeIn", "(I)I"⟩, 26), (⟨"GorgeRocksModel", "saying", "()Z"⟩, 26), (⟨"GorgeRocksModel", "term", "()Z"⟩, 26), (⟨"GorgeRocksModel", "soundAt", "(I)I"⟩, 26), (⟨"GorgeRocksModel", "isSo", "(I)Z"⟩, 26), (⟨"GorgeRocksModel", "comes", "()V"⟩, 26), (⟨"GorgeRocksModel", "logs", "(I)V"⟩, 26), (⟨"GorgeRocksModel", "hearsOf", "(III)I"⟩, 26), (⟨"GorgeRocksModel", "offers", "(IIII)I"⟩, 26), (⟨"GorgeRocksModel", "kindNow", "()I"⟩, 26), (⟨"GorgeRocksModel", "turnsBy", "(II)I"⟩, 26)]
theorem lw_r4 : ∀ q ∈ lw_privs_4, lw_okq q := List.forall_mem_cons.mpr ⟨lw_p48, List.forall_mem_cons.mpr ⟨lw_p49, List.forall_mem_cons.mpr ⟨lw_p50, List.forall_mem_cons.mpr ⟨lw_p51, List.forall_mem_cons.mpr ⟨lw_p52, List.forall_mem_cons.mpr ⟨lw_p53, List.forall_mem_cons.mpr ⟨lw_p54, List.forall_mem_cons.mpr ⟨lw_p55, List.forall_mem_cons.mpr ⟨lw_p56, List.forall_mem_cons.mpr ⟨lw_p57, List.forall_mem_cons.mpr ⟨lw_p58, List.forall_mem_cons.mpr ⟨lw_p59, List.forall_mem_cons.mpr ⟨lw_p60, List.forall_mem_cons.mpr ⟨lw_p61, List.forall_mem_cons.mpr ⟨lw_p62, List.forall_mem_cons.mpr ⟨lw_p63, fun _ h => absurd h List.not_mem_nil⟩⟩⟩⟩⟩⟩⟩⟩⟩⟩⟩⟩⟩⟩⟩⟩
theorem lw_p64 : lw_okq (⟨"GorgeRocksModel", "begins", "(I)V"⟩, 26) := ⟨⟨by decide +kernel, by decide +kernel⟩, List.mem_of_getElem? (i := 989) (by decide +kernel), List.mem_of_getElem? (i := 1409) (by decide +kernel), List.mem_of_getElem? (i := 1410) (by decide +kernel)⟩
theorem lw_p65 : lw_okq (⟨"GorgeRocksModel", "sendsBy", "(II)I"⟩, 26) := ⟨⟨by decide +kernel, by decide +kernel⟩, List.mem_of_getElem? (i := 989) (by decide +kernel), List.mem_of_getElem? (i := 1416) (by decide +kernel), List.mem_of_getElem? (i := 1417) (by decide +kernel)⟩
theorem lw_p66 : lw_okq (⟨"GorgeRocksModel", "keepsBy", "(II)I"⟩, 26) := ⟨⟨by decide +kernel, by decide +kernel⟩, List.mem_of_getElem? (i := 989) (by decide +kernel), List.mem_of_getElem? (i := 1420) (by decide +kernel), List.mem_of_getElem? (i := 1421) (by decide +kernel)⟩
theorem lw_p67 : lw_okq (⟨"GorgeRocksModel", "waitsBy", "(II)I"⟩, 26) := ⟨⟨by decide +kernel, by decide +kernel⟩, List.mem_of_getElem? (i := 989) (by decide +kernel), List.mem_of_getElem? (i := 1424) (by decide +kernel), List.mem_of_getElem? (i := 1425) (by decide +kernel)⟩
def lw_privs_5 : List (MethodName × Nat) := [(⟨"GorgeRocksModel", "begins", "(I)V"⟩, 26), (⟨"GorgeRocksModel", "sendsBy", "(II)I"⟩, 26), (⟨"GorgeRocksModel", "keepsBy", "(II)I"⟩, 26), (⟨"GorgeRocksModel", "waitsBy", "(II)I"⟩, 26)]
theorem lw_r5 : ∀ q ∈ lw_privs_5, lw_okq q := List.forall_mem_cons.mpr ⟨lw_p64, List.forall_mem_cons.mpr ⟨lw_p65, List.forall_mem_cons.mpr ⟨lw_p66, List.forall_mem_cons.mpr ⟨lw_p67, fun _ h => absurd h List.not_mem_nil⟩⟩⟩⟩
def lw_privs : List (MethodName × Nat) := lw_privs_1 ++ (lw_privs_2 ++ (lw_privs_3 ++ (lw_privs_4 ++ (lw_privs_5))))
def lw_tbl : List Cond := k2_sels lw_privs ++ tables_1
theorem lw_privs_ok : ∀ q ∈ lw_privs, lw_okq q := by
  show ∀ q ∈ lw_privs_1 ++ (lw_privs_2 ++ (lw_privs_3 ++ (lw_privs_4 ++ (lw_privs_5)))), lw_okq q
  exact List.forall_mem_append.mpr ⟨lw_r1, List.forall_mem_append.mpr ⟨lw_r2, List.forall_mem_append.mpr ⟨lw_r3, List.forall_mem_append.mpr ⟨lw_r4, lw_r5⟩⟩⟩⟩

/-! ===== BEGIN words of one list among another's, by their places ===== -/
theorem goodIn_r {big : List Cond} (ws : List Cond) (ps : List Nat) (hp : ws = ps.filterMap (fun i => big[i]?)) (h : ws.all goodWord = true) : GoodIn big ws := by
  intro w hw
  have h1 := List.all_eq_true.mp h w hw
  rw [hp] at hw
  obtain ⟨i, -, hi⟩ := List.mem_filterMap.mp hw
  have hm : w ∈ big := by first | exact List.mem_of_getElem? hi | exact List.getElem?_mem hi
  exact ⟨hm, good_of_word h1⟩
theorem goodIn_app {big a b : List Cond} (ha : GoodIn big a) (hb : GoodIn big b) : GoodIn big (a ++ b) := fun w h => (List.mem_append.mp h).elim (ha w) (hb w)
theorem goodIn_ca {big a b : List Cond} {c : Cond} (ha : GoodIn big (c :: a)) (hb : GoodIn big b) : GoodIn big (c :: (a ++ b)) := fun w h => (List.mem_cons.mp h).elim (fun e => ha w (List.mem_cons.mpr (Or.inl e))) (fun h => (List.mem_append.mp h).elim (fun h => ha w (List.mem_cons.mpr (Or.inr h))) (hb w))
theorem goodIn_sub {big ws : List Cond} (hm : ∀ w ∈ ws, w ∈ big) (h : ws.all goodWord = true) : GoodIn big ws := fun w hw => ⟨hm w hw, good_of_word (List.all_eq_true.mp h w hw)⟩
/-! ===== END ===== -/
def RX0 : String := "GorgeRocks$Deal"
def TX0 : u_T := fun k => match k with
  | 0 => ("GorgeRocks$Deal", "calling", "LGorgeRocks$Row;", true)
  | 1 => ("GorgeRocks$Deal", "coming", "LGorgeRocks$Row;", true)
  | 2 => ("GorgeRocks$Deal", "sellerOffer", "I", false)
  | 3 => ("GorgeRocks$Deal", "buyerOffer", "I", false)
  | 4 => ("GorgeRocks$Deal", "closedAt", "I", false)
  | 5 => ("GorgeRocks$Deal", "oddAt", "I", false)
  | 6 => ("GorgeRocks$Deal", "sellerHeard", "I", false)
  | _ => ("GorgeRocks$Deal", "buyerHeard", "I", false)
def tyX0 : Nat → FieldType := fun k => match k with
  | 0 => .object "GorgeRocks$Row"
  | 1 => .object "GorgeRocks$Row"
  | 2 => .int
  | 3 => .int
  | 4 => .int
  | 5 => .int
  | 6 => .int
  | _ => .int
abbrev wsX00 : List Cond := u_ws RX0 TX0 8
theorem nmX0 : ∀ a, a < 8 → ∀ b, b < 8 → a ≠ b → (TX0 a).2.1 ≠ (TX0 b).2.1 := by decide +kernel
theorem tyX0_ok : ∀ k, k < 8 → parseFieldDescriptor (TX0 k).2.2.1 = some (tyX0 k) := by decide +kernel
abbrev cX0_init : ByteArray := prog_2_method_1_code
def yX0_init : MethodName := ⟨RX0, "<init>", "()V"⟩
abbrev cX0_begin : ByteArray := prog_2_method_2_code
def yX0_begin : MethodName := ⟨RX0, "begin", "(II)V"⟩
abbrev cX0_goOn : ByteArray := prog_2_method_3_code
def yX0_goOn : MethodName := ⟨RX0, "goOn", "(LGorgeRocks$World;LGorgeRocks$Row;LGorgeRocks$Row;I)V"⟩
abbrev cX0_numberHeard : ByteArray := prog_2_method_4_code
def yX0_numberHeard : MethodName := ⟨RX0, "numberHeard", "(LGorgeRocks$World;ILGorgeRocks$Row;I)I"⟩
def RX1 : String := "GorgeRocks$Grammar"
def TX1 : u_T := fun k => match k with
  | 0 => ("GorgeRocks$Grammar", "row", "LGorgeRocks$Row;", false)
  | 1 => ("GorgeRocks$Grammar", "truth", "I", false)
  | _ => ("GorgeRocks$Grammar", "at", "I", false)
def tyX1 : Nat → FieldType := fun k => match k with
  | 0 => .object "GorgeRocks$Row"
  | 1 => .int
  | _ => .int
abbrev wsX10 : List Cond := u_ws RX1 TX1 3
theorem nmX1 : ∀ a, a < 3 → ∀ b, b < 3 → a ≠ b → (TX1 a).2.1 ≠ (TX1 b).2.1 := by decide +kernel
theorem tyX1_ok : ∀ k, k < 3 → parseFieldDescriptor (TX1 k).2.2.1 = some (tyX1 k) := by decide +kernel
abbrev cX1_init : ByteArray := prog_3_method_1_code
def yX1_init : MethodName := ⟨RX1, "<init>", "()V"⟩
abbrev cX1_faultOf : ByteArray := prog_3_method_2_code
def yX1_faultOf : MethodName := ⟨RX1, "faultOf", "(LGorgeRocks$Row;)I"⟩
abbrev cX1_isSo : ByteArray := prog_3_method_3_code
def yX1_isSo : MethodName := ⟨RX1, "isSo", "(LGorgeRocks$Row;I)Z"⟩
abbrev cX1_next : ByteArray := prog_3_method_4_code
def yX1_next : MethodName := ⟨RX1, "next", "()I"⟩
abbrev cX1_isTermSo : ByteArray := prog_3_method_5_code
def yX1_isTermSo : MethodName := ⟨RX1, "isTermSo", "(I)Z"⟩
abbrev cX1_sumBehind : ByteArray := prog_3_method_6_code
def yX1_sumBehind : MethodName := ⟨RX1, "sumBehind", "()I"⟩
abbrev cX1_isWordSo : ByteArray := prog_3_method_7_code
def yX1_isWordSo : MethodName := ⟨RX1, "isWordSo", "(I)Z"⟩
def RX2 : String := "GorgeRocks$Journal"
def TX2 : u_T := fun k => match k with
  | 0 => ("GorgeRocks$Journal", "rows", "[LGorgeRocks$Row;", true)
  | 1 => ("GorgeRocks$Journal", "latest", "I", false)
  | _ => ("GorgeRocks$Journal", "size", "I", false)
def tyX2 : Nat → FieldType := fun k => match k with
  | 0 => .array (.object "GorgeRocks$Row")
  | 1 => .int
  | _ => .int
abbrev wsX20 : List Cond := u_ws RX2 TX2 3
theorem nmX2 : ∀ a, a < 3 → ∀ b, b < 3 → a ≠ b → (TX2 a).2.1 ≠ (TX2 b).2.1 := by decide +kernel
theorem tyX2_ok : ∀ k, k < 3 → parseFieldDescriptor (TX2 k).2.2.1 = some (tyX2 k) := by decide +kernel
abbrev cX2_init : ByteArray := prog_4_method_1_code
def yX2_init : MethodName := ⟨RX2, "<init>", "()V"⟩
abbrev cX2_newRow : ByteArray := prog_4_method_2_code
def yX2_newRow : MethodName := ⟨RX2, "newRow", "()LGorgeRocks$Row;"⟩
abbrev cX2_rowAhead : ByteArray := prog_4_method_3_code
def yX2_rowAhead : MethodName := ⟨RX2, "rowAhead", "(I)LGorgeRocks$Row;"⟩
abbrev cX2_copyFrom : ByteArray := prog_4_method_4_code
def yX2_copyFrom : MethodName := ⟨RX2, "copyFrom", "(LGorgeRocks$Journal;)V"⟩
def RX3 : String := "GorgeRocks$Meanings"
def TX3 : u_T := fun k => match k with
  | 0 => ("GorgeRocks$Meanings", "rows", "[LGorgeRocks$Row;", true)
  | 1 => ("GorgeRocks$Meanings", "tried", "LGorgeRocks$Row;", true)
  | _ => ("GorgeRocks$Meanings", "size", "I", false)
def tyX3 : Nat → FieldType := fun k => match k with
  | 0 => .array (.object "GorgeRocks$Row")
  | 1 => .object "GorgeRocks$Row"
  | _ => .int
abbrev wsX30 : List Cond := u_ws RX3 TX3 3
theorem nmX3 : ∀ a, a < 3 → ∀ b, b < 3 → a ≠ b → (TX3 a).2.1 ≠ (TX3 b).2.1 := by decide +kernel
theorem tyX3_ok : ∀ k, k < 3 → parseFieldDescriptor (TX3 k).2.2.1 = some (tyX3 k) := by decide +kernel
abbrev cX3_init : ByteArray := prog_5_method_1_code
def yX3_init : MethodName := ⟨RX3, "<init>", "()V"⟩
abbrev cX3_gather : ByteArray := prog_5_method_2_code
def yX3_gather : MethodName := ⟨RX3, "gather", "(LGorgeRocks$World;LGorgeRocks$Row;I)V"⟩
abbrev cX3_addUndone : ByteArray := prog_5_method_3_code
def yX3_addUndone : MethodName := ⟨RX3, "addUndone", "(LGorgeRocks$World;LGorgeRocks$Row;)V"⟩
abbrev cX3_addIfUnlike : ByteArray := prog_5_method_4_code
def yX3_addIfUnlike : MethodName := ⟨RX3, "addIfUnlike", "(LGorgeRocks$Row;)V"⟩
abbrev cX3_unlikeAt : ByteArray := prog_5_method_5_code
def yX3_unlikeAt : MethodName := ⟨RX3, "unlikeAt", "(I)I"⟩
abbrev cX3_placeOfMost : ByteArray := prog_5_method_6_code
def yX3_placeOfMost : MethodName := ⟨RX3, "placeOfMost", "()I"⟩
def RX4 : String := "GorgeRocks$Reader"
def TX4 : u_T := fun k => match k with
  | 0 => ("GorgeRocks$Reader", "draft", "LGorgeRocks$Row;", true)
  | 1 => ("GorgeRocks$Reader", "tape", "LGorgeRocks$Row;", false)
  | 2 => ("GorgeRocks$Reader", "names", "Ljava/lang/String;", false)
  | _ => ("GorgeRocks$Reader", "at", "I", false)
def tyX4 : Nat → FieldType := fun k => match k with
  | 0 => .object "GorgeRocks$Row"
  | 1 => .object "GorgeRocks$Row"
  | 2 => .object "java/lang/String"
  | _ => .int
abbrev wsX40 : List Cond := u_ws RX4 TX4 4
theorem nmX4 : ∀ a, a < 4 → ∀ b, b < 4 → a ≠ b → (TX4 a).2.1 ≠ (TX4 b).2.1 := by decide +kernel
theorem tyX4_ok : ∀ k, k < 4 → parseFieldDescriptor (TX4 k).2.2.1 = some (tyX4 k) := by decide +kernel
abbrev cX4_init : ByteArray := prog_6_method_1_code
def yX4_init : MethodName := ⟨RX4, "<init>", "()V"⟩
abbrev cX4_faultOf : ByteArray := prog_6_method_2_code
def yX4_faultOf : MethodName := ⟨RX4, "faultOf", "(LGorgeRocks$Row;Ljava/lang/String;)I"⟩
abbrev cX4_next : ByteArray := prog_6_method_3_code
def yX4_next : MethodName := ⟨RX4, "next", "()I"⟩
abbrev cX4_levelOf : ByteArray := prog_6_method_4_code
def yX4_levelOf : MethodName := ⟨RX4, "levelOf", "(I)I"⟩
abbrev cX4_readLevel : ByteArray := prog_6_method_5_code
def yX4_readLevel : MethodName := ⟨RX4, "readLevel", "(II)Z"⟩
abbrev cX4_readQ : ByteArray := prog_6_method_6_code
def yX4_readQ : MethodName := ⟨RX4, "readQ", "(I)Z"⟩
abbrev cX4_readDenied : ByteArray := prog_6_method_7_code
def yX4_readDenied : MethodName := ⟨RX4, "readDenied", "(I)Z"⟩
abbrev cX4_readEnclosed : ByteArray := prog_6_method_8_code
def yX4_readEnclosed : MethodName := ⟨RX4, "readEnclosed", "(I)Z"⟩
abbrev cX4_readNumber : ByteArray := prog_6_method_9_code
def yX4_readNumber : MethodName := ⟨RX4, "readNumber", "()V"⟩
abbrev cX4_isDigit : ByteArray := prog_6_method_10_code
def yX4_isDigit : MethodName := ⟨RX4, "isDigit", "(I)Z"⟩
def RX5 : String := "GorgeRocks$Rock"
def TX5 : u_T := fun k => match k with
  | 0 => ("GorgeRocks$Rock", "kind", "I", false)
  | 1 => ("GorgeRocks$Rock", "m", "I", false)
  | _ => ("GorgeRocks$Rock", "delay", "I", false)
def tyX5 : Nat → FieldType := fun k => match k with
  | 0 => .int
  | 1 => .int
  | _ => .int
abbrev wsX50 : List Cond := u_ws RX5 TX5 3
theorem nmX5 : ∀ a, a < 3 → ∀ b, b < 3 → a ≠ b → (TX5 a).2.1 ≠ (TX5 b).2.1 := by decide +kernel
theorem tyX5_ok : ∀ k, k < 3 → parseFieldDescriptor (TX5 k).2.2.1 = some (tyX5 k) := by decide +kernel
abbrev cX5_init : ByteArray := prog_7_method_1_code
def yX5_init : MethodName := ⟨RX5, "<init>", "()V"⟩
abbrev cX5_tells : ByteArray := prog_7_method_2_code
def yX5_tells : MethodName := ⟨RX5, "tells", "(I)I"⟩
abbrev cX5_become : ByteArray := prog_7_method_3_code
def yX5_become : MethodName := ⟨RX5, "become", "(II)V"⟩
abbrev cX5_copyFrom : ByteArray := prog_7_method_4_code
def yX5_copyFrom : MethodName := ⟨RX5, "copyFrom", "(LGorgeRocks$Rock;)V"⟩
abbrev cX5_canBeUndone : ByteArray := prog_7_method_5_code
def yX5_canBeUndone : MethodName := ⟨RX5, "canBeUndone", "()Z"⟩
def RX6 : String := "GorgeRocks$Row"
def TX6 : u_T := fun k => match k with
  | 0 => ("GorgeRocks$Row", "items", "[I", true)
  | _ => ("GorgeRocks$Row", "size", "I", false)
def tyX6 : Nat → FieldType := fun k => match k with
  | 0 => .array .int
  | _ => .int
abbrev wsX60 : List Cond := u_ws RX6 TX6 2
theorem nmX6 : ∀ a, a < 2 → ∀ b, b < 2 → a ≠ b → (TX6 a).2.1 ≠ (TX6 b).2.1 := by decide +kernel
theorem tyX6_ok : ∀ k, k < 2 → parseFieldDescriptor (TX6 k).2.2.1 = some (tyX6 k) := by decide +kernel
abbrev cX6_init : ByteArray := prog_8_method_1_code
def yX6_init : MethodName := ⟨RX6, "<init>", "(I)V"⟩
abbrev cX6_clear : ByteArray := prog_8_method_2_code
def yX6_clear : MethodName := ⟨RX6, "clear", "()V"⟩
abbrev cX6_add : ByteArray := prog_8_method_3_code
def yX6_add : MethodName := ⟨RX6, "add", "(I)Z"⟩
abbrev cX6_copyFrom : ByteArray := prog_8_method_4_code
def yX6_copyFrom : MethodName := ⟨RX6, "copyFrom", "(LGorgeRocks$Row;)V"⟩
abbrev cX6_firstUnlike : ByteArray := prog_8_method_5_code
def yX6_firstUnlike : MethodName := ⟨RX6, "firstUnlike", "(LGorgeRocks$Row;)I"⟩
abbrev cX6_isLike : ByteArray := prog_8_method_6_code
def yX6_isLike : MethodName := ⟨RX6, "isLike", "(LGorgeRocks$Row;)Z"⟩
abbrev cX6_unsafeSounds : ByteArray := prog_8_method_7_code
def yX6_unsafeSounds : MethodName := ⟨RX6, "unsafeSounds", "()I"⟩
abbrev cX6_sayNay : ByteArray := prog_8_method_8_code
def yX6_sayNay : MethodName := ⟨RX6, "sayNay", "(Z)V"⟩
abbrev cX6_turnNumbers : ByteArray := prog_8_method_9_code
def yX6_turnNumbers : MethodName := ⟨RX6, "turnNumbers", "()V"⟩
abbrev cX6_turnRound : ByteArray := prog_8_method_10_code
def yX6_turnRound : MethodName := ⟨RX6, "turnRound", "()V"⟩
abbrev cX6_leaveOutEach : ByteArray := prog_8_method_11_code
def yX6_leaveOutEach : MethodName := ⟨RX6, "leaveOutEach", "(I)V"⟩
def RX7 : String := "GorgeRocks$Sheet"
def TX7 : u_T := fun k => match k with
  | 0 => ("GorgeRocks$Sheet", "numbers", "[I", true)
  | 1 => ("GorgeRocks$Sheet", "bits", "I", false)
  | _ => ("GorgeRocks$Sheet", "size", "I", false)
def tyX7 : Nat → FieldType := fun k => match k with
  | 0 => .array .int
  | 1 => .int
  | _ => .int
abbrev wsX70 : List Cond := u_ws RX7 TX7 3
theorem nmX7 : ∀ a, a < 3 → ∀ b, b < 3 → a ≠ b → (TX7 a).2.1 ≠ (TX7 b).2.1 := by decide +kernel
theorem tyX7_ok : ∀ k, k < 3 → parseFieldDescriptor (TX7 k).2.2.1 = some (tyX7 k) := by decide +kernel
abbrev cX7_init : ByteArray := prog_9_method_1_code
def yX7_init : MethodName := ⟨RX7, "<init>", "()V"⟩
abbrev cX7_isMissing : ByteArray := prog_9_method_2_code
def yX7_isMissing : MethodName := ⟨RX7, "isMissing", "()Z"⟩
abbrev cX7_layOut : ByteArray := prog_9_method_3_code
def yX7_layOut : MethodName := ⟨RX7, "layOut", "(II)V"⟩
abbrev cX7_lowestBits : ByteArray := prog_9_method_4_code
def yX7_lowestBits : MethodName := ⟨RX7, "lowestBits", "(I)I"⟩
abbrev cX7_holds : ByteArray := prog_9_method_5_code
def yX7_holds : MethodName := ⟨RX7, "holds", "(II)Z"⟩
def RX8 : String := "GorgeRocks$Speaker"
def TX8 : u_T := fun k => match k with
  | 0 => ("GorgeRocks$Speaker", "trace", "LGorgeRocks$Row;", true)
  | 1 => ("GorgeRocks$Speaker", "parted", "Z", false)
  | 2 => ("GorgeRocks$Speaker", "kind", "I", false)
  | 3 => ("GorgeRocks$Speaker", "m", "I", false)
  | _ => ("GorgeRocks$Speaker", "k", "I", false)
def tyX8 : Nat → FieldType := fun k => match k with
  | 0 => .object "GorgeRocks$Row"
  | 1 => .boolean
  | 2 => .int
  | 3 => .int
  | _ => .int
abbrev wsX80 : List Cond := u_ws RX8 TX8 5
theorem nmX8 : ∀ a, a < 5 → ∀ b, b < 5 → a ≠ b → (TX8 a).2.1 ≠ (TX8 b).2.1 := by decide +kernel
theorem tyX8_ok : ∀ k, k < 5 → parseFieldDescriptor (TX8 k).2.2.1 = some (tyX8 k) := by decide +kernel
abbrev cX8_init : ByteArray := prog_10_method_1_code
def yX8_init : MethodName := ⟨RX8, "<init>", "()V"⟩
abbrev cX8_answer : ByteArray := prog_10_method_2_code
def yX8_answer : MethodName := ⟨RX8, "answer", "(LGorgeRocks$Rock;III)I"⟩
abbrev cX8_speak : ByteArray := prog_10_method_3_code
def yX8_speak : MethodName := ⟨RX8, "speak", "(IIII)I"⟩
abbrev cX8_waitsOfRock : ByteArray := prog_10_method_4_code
def yX8_waitsOfRock : MethodName := ⟨RX8, "waitsOfRock", "(I)I"⟩
abbrev cX8_ownerOfBody : ByteArray := prog_10_method_5_code
def yX8_ownerOfBody : MethodName := ⟨RX8, "ownerOfBody", "(II)I"⟩
def RX9 : String := "GorgeRocks$Text"
def TX9 : u_T := fun k => match k with
  | 0 => ("GorgeRocks$Text", "code", "LGorgeRocks$Row;", true)
  | _ => ("GorgeRocks$Text", "stack", "[I", true)
def tyX9 : Nat → FieldType := fun k => match k with
  | 0 => .object "GorgeRocks$Row"
  | _ => .array .int
abbrev wsX90 : List Cond := u_ws RX9 TX9 2
theorem nmX9 : ∀ a, a < 2 → ∀ b, b < 2 → a ≠ b → (TX9 a).2.1 ≠ (TX9 b).2.1 := by decide +kernel
theorem tyX9_ok : ∀ k, k < 2 → parseFieldDescriptor (TX9 k).2.2.1 = some (tyX9 k) := by decide +kernel
abbrev cX9_init : ByteArray := prog_11_method_1_code
def yX9_init : MethodName := ⟨RX9, "<init>", "()V"⟩
abbrev cX9_isThere : ByteArray := prog_11_method_2_code
def yX9_isThere : MethodName := ⟨RX9, "isThere", "()Z"⟩
abbrev cX9_workOut : ByteArray := prog_11_method_3_code
def yX9_workOut : MethodName := ⟨RX9, "workOut", "([I)I"⟩
abbrev cX9_nameOf : ByteArray := prog_11_method_4_code
def yX9_nameOf : MethodName := ⟨RX9, "nameOf", "(I[I)I"⟩
abbrev cX9_join : ByteArray := prog_11_method_5_code
def yX9_join : MethodName := ⟨RX9, "join", "(III)I"⟩
def RX10 : String := "GorgeRocks$World"
def TX10 : u_T := fun k => match k with
  | 0 => ("GorgeRocks$World", "calls", "[LGorgeRocks$Row;", true)
  | 1 => ("GorgeRocks$World", "rocks", "[LGorgeRocks$Rock;", true)
  | 2 => ("GorgeRocks$World", "texts", "[LGorgeRocks$Text;", true)
  | 3 => ("GorgeRocks$World", "tape", "LGorgeRocks$Row;", true)
  | 4 => ("GorgeRocks$World", "waiting", "LGorgeRocks$Row;", true)
  | 5 => ("GorgeRocks$World", "echoCalls", "LGorgeRocks$Row;", true)
  | 6 => ("GorgeRocks$World", "echoRocks", "LGorgeRocks$Row;", true)
  | 7 => ("GorgeRocks$World", "echoTimes", "LGorgeRocks$Row;", true)
  | 8 => ("GorgeRocks$World", "journal", "LGorgeRocks$Journal;", true)
  | 9 => ("GorgeRocks$World", "callCount", "I", false)
  | 10 => ("GorgeRocks$World", "rockCount", "I", false)
  | 11 => ("GorgeRocks$World", "now", "I", false)
  | 12 => ("GorgeRocks$World", "truth", "I", false)
  | 13 => ("GorgeRocks$World", "z", "I", false)
  | _ => ("GorgeRocks$World", "names", "[I", true)
def tyX10 : Nat → FieldType := fun k => match k with
  | 0 => .array (.object "GorgeRocks$Row")
  | 1 => .array (.object "GorgeRocks$Rock")
  | 2 => .array (.object "GorgeRocks$Text")
  | 3 => .object "GorgeRocks$Row"
  | 4 => .object "GorgeRocks$Row"
  | 5 => .object "GorgeRocks$Row"
  | 6 => .object "GorgeRocks$Row"
  | 7 => .object "GorgeRocks$Row"
  | 8 => .object "GorgeRocks$Journal"
  | 9 => .int
  | 10 => .int
  | 11 => .int
  | 12 => .int
  | 13 => .int
  | _ => .array .int
abbrev wsX100 : List Cond := u_ws RX10 TX10 15
theorem nmX10 : ∀ a, a < 15 → ∀ b, b < 15 → a ≠ b → (TX10 a).2.1 ≠ (TX10 b).2.1 := by decide +kernel
theorem tyX10_ok : ∀ k, k < 15 → parseFieldDescriptor (TX10 k).2.2.1 = some (tyX10 k) := by decide +kernel
abbrev cX10_init : ByteArray := prog_12_method_1_code
def yX10_init : MethodName := ⟨RX10, "<init>", "()V"⟩
abbrev cX10_copyFrom : ByteArray := prog_12_method_2_code
def yX10_copyFrom : MethodName := ⟨RX10, "copyFrom", "(LGorgeRocks$World;)V"⟩
abbrev cX10_nextDraw : ByteArray := prog_12_method_3_code
def yX10_nextDraw : MethodName := ⟨RX10, "nextDraw", "()I"⟩
abbrev cX10_readWay : ByteArray := prog_12_method_4_code
def yX10_readWay : MethodName := ⟨RX10, "readWay", "(ILGorgeRocks$Row;)Z"⟩
abbrev cX10_sendBack : ByteArray := prog_12_method_5_code
def yX10_sendBack : MethodName := ⟨RX10, "sendBack", "(LGorgeRocks$Rock;LGorgeRocks$Row;)V"⟩
abbrev cX10_turnByText : ByteArray := prog_12_method_6_code
def yX10_turnByText : MethodName := ⟨RX10, "turnByText", "(LGorgeRocks$Row;I)V"⟩
abbrev cX10_hear : ByteArray := prog_12_method_7_code
def yX10_hear : MethodName := ⟨RX10, "hear", "(LGorgeRocks$Row;LGorgeRocks$Row;LGorgeRocks$Row;)V"⟩
abbrev cX10_logEcho : ByteArray := prog_12_method_8_code
def yX10_logEcho : MethodName := ⟨RX10, "logEcho", "(II)V"⟩
abbrev cX10_addEcho : ByteArray := prog_12_method_9_code
def yX10_addEcho : MethodName := ⟨RX10, "addEcho", "(III)V"⟩
abbrev cX10_letSecondGoBy : ByteArray := prog_12_method_10_code
def yX10_letSecondGoBy : MethodName := ⟨RX10, "letSecondGoBy", "()V"⟩
abbrev cX10_nextOffer : ByteArray := prog_12_method_11_code
def yX10_nextOffer : MethodName := ⟨RX10, "nextOffer", "(IIII)I"⟩
def RX11 : String := "GorgeRocks"
def TX11 : u_T := fun k => match k with
  | 0 => ("GorgeRocks", "world", "LGorgeRocks$World;", true)
  | 1 => ("GorgeRocks", "kept", "LGorgeRocks$World;", true)
  | 2 => ("GorgeRocks", "reader", "LGorgeRocks$Reader;", true)
  | 3 => ("GorgeRocks", "grammar", "LGorgeRocks$Grammar;", true)
  | 4 => ("GorgeRocks", "meanings", "LGorgeRocks$Meanings;", true)
  | 5 => ("GorgeRocks", "deal", "LGorgeRocks$Deal;", true)
  | 6 => ("GorgeRocks", "speaker", "LGorgeRocks$Speaker;", true)
  | 7 => ("GorgeRocks", "sheets", "[LGorgeRocks$Sheet;", true)
  | 8 => ("GorgeRocks", "firstWay", "LGorgeRocks$Row;", true)
  | 9 => ("GorgeRocks", "secondWay", "LGorgeRocks$Row;", true)
  | 10 => ("GorgeRocks", "firstRow", "LGorgeRocks$Row;", true)
  | 11 => ("GorgeRocks", "secondRow", "LGorgeRocks$Row;", true)
  | 12 => ("GorgeRocks", "between", "[LGorgeRocks$Row;", true)
  | 13 => ("GorgeRocks", "errorCounts", "[I", true)
  | _ => ("GorgeRocks", "imageCount", "I", false)
def tyX11 : Nat → FieldType := fun k => match k with
  | 0 => .object "GorgeRocks$World"
  | 1 => .object "GorgeRocks$World"
  | 2 => .object "GorgeRocks$Reader"
  | 3 => .object "GorgeRocks$Grammar"
  | 4 => .object "GorgeRocks$Meanings"
  | 5 => .object "GorgeRocks$Deal"
  | 6 => .object "GorgeRocks$Speaker"
  | 7 => .array (.object "GorgeRocks$Sheet")
  | 8 => .object "GorgeRocks$Row"
  | 9 => .object "GorgeRocks$Row"
  | 10 => .object "GorgeRocks$Row"
  | 11 => .object "GorgeRocks$Row"
  | 12 => .array (.object "GorgeRocks$Row")
  | 13 => .array .int
  | _ => .int
abbrev wsX110 : List Cond := u_ws RX11 TX11 15
theorem nmX11 : ∀ a, a < 15 → ∀ b, b < 15 → a ≠ b → (TX11 a).2.1 ≠ (TX11 b).2.1 := by decide +kernel
theorem tyX11_ok : ∀ k, k < 15 → parseFieldDescriptor (TX11 k).2.2.1 = some (tyX11 k) := by decide +kernel
abbrev cX11_init : ByteArray := prog_1_method_1_code
def yX11_init : MethodName := ⟨RX11, "<init>", "()V"⟩
abbrev cX11_call : ByteArray := prog_1_method_2_code
def yX11_call : MethodName := ⟨RX11, "call", "()I"⟩
abbrev cX11_sound : ByteArray := prog_1_method_3_code
def yX11_sound : MethodName := ⟨RX11, "sound", "(II)I"⟩
abbrev cX11_soundOf : ByteArray := prog_1_method_4_code
def yX11_soundOf : MethodName := ⟨RX11, "soundOf", "(II)I"⟩
abbrev cX11_hush : ByteArray := prog_1_method_5_code
def yX11_hush : MethodName := ⟨RX11, "hush", "(I)I"⟩
abbrev cX11_draw : ByteArray := prog_1_method_6_code
def yX11_draw : MethodName := ⟨RX11, "draw", "(II)I"⟩
abbrev cX11_contrary : ByteArray := prog_1_method_7_code
def yX11_contrary : MethodName := ⟨RX11, "contrary", "(I)I"⟩
abbrev cX11_rock : ByteArray := prog_1_method_8_code
def yX11_rock : MethodName := ⟨RX11, "rock", "(II)I"⟩
abbrev cX11_rockIs : ByteArray := prog_1_method_9_code
def yX11_rockIs : MethodName := ⟨RX11, "rockIs", "(II)I"⟩
abbrev cX11_as : ByteArray := prog_1_method_10_code
def yX11_as : MethodName := ⟨RX11, "as", "(II)I"⟩
abbrev cX11_set : ByteArray := prog_1_method_11_code
def yX11_set : MethodName := ⟨RX11, "set", "(III)I"⟩
abbrev cX11_feed : ByteArray := prog_1_method_12_code
def yX11_feed : MethodName := ⟨RX11, "feed", "(JI)I"⟩
abbrev cX11_text : ByteArray := prog_1_method_13_code
def yX11_text : MethodName := ⟨RX11, "text", "(I)I"⟩
abbrev cX11_untell : ByteArray := prog_1_method_14_code
def yX11_untell : MethodName := ⟨RX11, "untell", "(I)I"⟩
abbrev cX11_heard : ByteArray := prog_1_method_15_code
def yX11_heard : MethodName := ⟨RX11, "heard", "(III)I"⟩
abbrev cX11_self : ByteArray := prog_1_method_16_code
def yX11_self : MethodName := ⟨RX11, "self", "(II)I"⟩
abbrev cX11_takes : ByteArray := prog_1_method_17_code
def yX11_takes : MethodName := ⟨RX11, "takes", "(I)I"⟩
abbrev cX11_echo : ByteArray := prog_1_method_18_code
def yX11_echo : MethodName := ⟨RX11, "echo", "(III)I"⟩
abbrev cX11_which : ByteArray := prog_1_method_19_code
def yX11_which : MethodName := ⟨RX11, "which", "(II)I"⟩
abbrev cX11_ways : ByteArray := prog_1_method_20_code
def yX11_ways : MethodName := ⟨RX11, "ways", "(III)I"⟩
abbrev cX11_need : ByteArray := prog_1_method_21_code
def yX11_need : MethodName := ⟨RX11, "need", "(III)I"⟩
abbrev cX11_meant : ByteArray := prog_1_method_22_code
def yX11_meant : MethodName := ⟨RX11, "meant", "(II)I"⟩
abbrev cX11_place : ByteArray := prog_1_method_23_code
def yX11_place : MethodName := ⟨RX11, "place", "(III)I"⟩
abbrev cX11_safe : ByteArray := prog_1_method_24_code
def yX11_safe : MethodName := ⟨RX11, "safe", "(II)I"⟩
abbrev cX11_part : ByteArray := prog_1_method_25_code
def yX11_part : MethodName := ⟨RX11, "part", "(III)I"⟩
abbrev cX11_reads : ByteArray := prog_1_method_26_code
def yX11_reads : MethodName := ⟨RX11, "reads", "(I)I"⟩
abbrev cX11_so : ByteArray := prog_1_method_27_code
def yX11_so : MethodName := ⟨RX11, "so", "(I)I"⟩
abbrev cX11_says : ByteArray := prog_1_method_28_code
def yX11_says : MethodName := ⟨RX11, "says", "(II)I"⟩
abbrev cX11_shout : ByteArray := prog_1_method_29_code
def yX11_shout : MethodName := ⟨RX11, "shout", "(II)I"⟩
abbrev cX11_seconds : ByteArray := prog_1_method_30_code
def yX11_seconds : MethodName := ⟨RX11, "seconds", "(I)I"⟩
abbrev cX11_log : ByteArray := prog_1_method_31_code
def yX11_log : MethodName := ⟨RX11, "log", "(II)I"⟩
abbrev cX11_bargain : ByteArray := prog_1_method_32_code
def yX11_bargain : MethodName := ⟨RX11, "bargain", "(IIIII)I"⟩
abbrev cX11_seed : ByteArray := prog_1_method_33_code
def yX11_seed : MethodName := ⟨RX11, "seed", "(I)I"⟩
abbrev cX11_voice : ByteArray := prog_1_method_34_code
def yX11_voice : MethodName := ⟨RX11, "voice", "(III)I"⟩
abbrev cX11_body : ByteArray := prog_1_method_35_code
def yX11_body : MethodName := ⟨RX11, "body", "(I)I"⟩
abbrev cX11_sheet : ByteArray := prog_1_method_36_code
def yX11_sheet : MethodName := ⟨RX11, "sheet", "(III)I"⟩
abbrev cX11_put : ByteArray := prog_1_method_37_code
def yX11_put : MethodName := ⟨RX11, "put", "(III)I"⟩
abbrev cX11_move : ByteArray := prog_1_method_38_code
def yX11_move : MethodName := ⟨RX11, "move", "(IIIII)I"⟩
abbrev cX11_sounds : ByteArray := prog_1_method_39_code
def yX11_sounds : MethodName := ⟨RX11, "sounds", "(II)I"⟩
abbrev cX11_image : ByteArray := prog_1_method_40_code
def yX11_image : MethodName := ⟨RX11, "image", "()I"⟩
abbrev cX11_restore : ByteArray := prog_1_method_41_code
def yX11_restore : MethodName := ⟨RX11, "restore", "()I"⟩
abbrev cX11_tell : ByteArray := prog_1_method_42_code
def yX11_tell : MethodName := ⟨RX11, "tell", "(I)I"⟩
abbrev cX11_check : ByteArray := prog_1_method_43_code
def yX11_check : MethodName := ⟨RX11, "check", "(II)I"⟩
abbrev cX11_count : ByteArray := prog_1_method_44_code
def yX11_count : MethodName := ⟨RX11, "count", "(I)I"⟩
abbrev cX11_told : ByteArray := prog_1_method_45_code
def yX11_told : MethodName := ⟨RX11, "told", "(I)I"⟩
abbrev cX11_error : ByteArray := prog_1_method_46_code
def yX11_error : MethodName := ⟨RX11, "error", "(I)I"⟩
abbrev cX11_soundOrSize : ByteArray := prog_1_method_47_code
def yX11_soundOrSize : MethodName := ⟨RX11, "soundOrSize", "(LGorgeRocks$Row;I)I"⟩
abbrev cX11_isCall : ByteArray := prog_1_method_48_code
def yX11_isCall : MethodName := ⟨RX11, "isCall", "(I)Z"⟩
abbrev cX11_isRock : ByteArray := prog_1_method_49_code
def yX11_isRock : MethodName := ⟨RX11, "isRock", "(I)Z"⟩
abbrev cX11_isSheet : ByteArray := prog_1_method_50_code
def yX11_isSheet : MethodName := ⟨RX11, "isSheet", "(I)Z"⟩
abbrev cX11_isKind : ByteArray := prog_1_method_51_code
def yX11_isKind : MethodName := ⟨RX11, "isKind", "(I)Z"⟩
abbrev cX11_isDelay : ByteArray := prog_1_method_52_code
def yX11_isDelay : MethodName := ⟨RX11, "isDelay", "(I)Z"⟩
abbrev cX11_isUse : ByteArray := prog_1_method_53_code
def yX11_isUse : MethodName := ⟨RX11, "isUse", "(I)Z"⟩
abbrev cX11_mayBecome : ByteArray := prog_1_method_54_code
def yX11_mayBecome : MethodName := ⟨RX11, "mayBecome", "(II)Z"⟩
abbrev cX11_isUnder : ByteArray := prog_1_method_55_code
def yX11_isUnder : MethodName := ⟨RX11, "isUnder", "(II)Z"⟩
abbrev cX11_rocksThatMake : ByteArray := prog_1_method_56_code
def yX11_rocksThatMake : MethodName := ⟨RX11, "rocksThatMake", "(LGorgeRocks$Row;LGorgeRocks$Row;)I"⟩
abbrev cX11_waysTo : ByteArray := prog_1_method_57_code
def yX11_waysTo : MethodName := ⟨RX11, "waysTo", "(LGorgeRocks$Row;LGorgeRocks$Row;I)I"⟩
abbrev cX11_isSound : ByteArray := prog_1_method_58_code
def yX11_isSound : MethodName := ⟨RX11, "isSound", "(I)Z"⟩
abbrev cX11_isNumber : ByteArray := prog_1_method_59_code
def yX11_isNumber : MethodName := ⟨RX11, "isNumber", "(I)Z"⟩
abbrev cX11_soundOr60 : ByteArray := prog_1_method_60_code
def yX11_soundOr60 : MethodName := ⟨RX11, "soundOr60", "(I)I"⟩
abbrev cX11_contraryOf : ByteArray := prog_1_method_61_code
def yX11_contraryOf : MethodName := ⟨RX11, "contraryOf", "(I)I"⟩
def RX12 : String := "GorgeRocksModel"
def TX12 : u_T := fun k => match k with
  | 0 => ("GorgeRocksModel", "s", "[I", true)
  | 1 => ("GorgeRocksModel", "kept", "[I", true)
  | 2 => ("GorgeRocksModel", "images", "I", false)
  | 3 => ("GorgeRocksModel", "errors", "[I", true)
  | 4 => ("GorgeRocksModel", "row", "[I", true)
  | 5 => ("GorgeRocksModel", "spare", "[I", true)
  | 6 => ("GorgeRocksModel", "other", "[I", true)
  | 7 => ("GorgeRocksModel", "at", "I", false)
  | 8 => ("GorgeRocksModel", "open", "I", false)
  | 9 => ("GorgeRocksModel", "steps", "I", false)
  | 10 => ("GorgeRocksModel", "use", "I", false)
  | 11 => ("GorgeRocksModel", "step", "[I", true)
  | 12 => ("GorgeRocksModel", "named", "[I", true)
  | 13 => ("GorgeRocksModel", "pile", "[I", true)
  | 14 => ("GorgeRocksModel", "meantRows", "[I", true)
  | 15 => ("GorgeRocksModel", "many", "I", false)
  | 16 => ("GorgeRocksModel", "from", "I", false)
  | 17 => ("GorgeRocksModel", "isWrong", "Z", false)
  | 18 => ("GorgeRocksModel", "trace", "[I", true)
  | 19 => ("GorgeRocksModel", "traced", "I", false)
  | 20 => ("GorgeRocksModel", "speaks", "I", false)
  | 21 => ("GorgeRocksModel", "isParted", "Z", false)
  | 22 => ("GorgeRocksModel", "bits", "[I", true)
  | 23 => ("GorgeRocksModel", "sizes", "[I", true)
  | 24 => ("GorgeRocksModel", "number", "[I", true)
  | _ => ("GorgeRocksModel", "aside", "[I", true)
def tyX12 : Nat → FieldType := fun k => match k with
  | 0 => .array .int
  | 1 => .array .int
  | 2 => .int
  | 3 => .array .int
  | 4 => .array .int
  | 5 => .array .int
  | 6 => .array .int
  | 7 => .int
  | 8 => .int
  | 9 => .int
  | 10 => .int
  | 11 => .array .int
  | 12 => .array .int
  | 13 => .array .int
  | 14 => .array .int
  | 15 => .int
  | 16 => .int
  | 17 => .boolean
  | 18 => .array .int
  | 19 => .int
  | 20 => .int
  | 21 => .boolean
  | 22 => .array .int
  | 23 => .array .int
  | 24 => .array .int
  | _ => .array .int
abbrev wsX120 : List Cond := u_ws RX12 TX12 26
theorem nmX12 : ∀ a, a < 26 → ∀ b, b < 26 → a ≠ b → (TX12 a).2.1 ≠ (TX12 b).2.1 := by decide +kernel
theorem tyX12_ok : ∀ k, k < 26 → parseFieldDescriptor (TX12 k).2.2.1 = some (tyX12 k) := by decide +kernel
abbrev cX12_init : ByteArray := prog_14_method_1_code
def yX12_init : MethodName := ⟨RX12, "<init>", "()V"⟩
abbrev cX12_error : ByteArray := prog_14_method_2_code
def yX12_error : MethodName := ⟨RX12, "error", "(I)I"⟩
abbrev cX12_in : ByteArray := prog_14_method_3_code
def yX12_in : MethodName := ⟨RX12, "in", "(III)Z"⟩
abbrev cX12_held : ByteArray := prog_14_method_4_code
def yX12_held : MethodName := ⟨RX12, "held", "(III)I"⟩
abbrev cX12_carry : ByteArray := prog_14_method_5_code
def yX12_carry : MethodName := ⟨RX12, "carry", "([I[I)V"⟩
abbrev cX12_isCall : ByteArray := prog_14_method_6_code
def yX12_isCall : MethodName := ⟨RX12, "isCall", "(I)Z"⟩
abbrev cX12_isRock : ByteArray := prog_14_method_7_code
def yX12_isRock : MethodName := ⟨RX12, "isRock", "(I)Z"⟩
abbrev cX12_its : ByteArray := prog_14_method_8_code
def yX12_its : MethodName := ⟨RX12, "its", "(II)I"⟩
abbrev cX12_isSound : ByteArray := prog_14_method_9_code
def yX12_isSound : MethodName := ⟨RX12, "isSound", "(I)Z"⟩
abbrev cX12_contraryOf : ByteArray := prog_14_method_10_code
def yX12_contraryOf : MethodName := ⟨RX12, "contraryOf", "(I)I"⟩
abbrev cX12_areAlike : ByteArray := prog_14_method_11_code
def yX12_areAlike : MethodName := ⟨RX12, "areAlike", "([I[I)Z"⟩
abbrev cX12_take : ByteArray := prog_14_method_12_code
def yX12_take : MethodName := ⟨RX12, "take", "(I[I)V"⟩
abbrev cX12_lay : ByteArray := prog_14_method_13_code
def yX12_lay : MethodName := ⟨RX12, "lay", "([II)V"⟩
abbrev cX12_turns : ByteArray := prog_14_method_14_code
def yX12_turns : MethodName := ⟨RX12, "turns", "([I)V"⟩
abbrev cX12_denies : ByteArray := prog_14_method_15_code
def yX12_denies : MethodName := ⟨RX12, "denies", "([III)V"⟩
abbrev cX12_swallows : ByteArray := prog_14_method_16_code
def yX12_swallows : MethodName := ⟨RX12, "swallows", "([II)V"⟩
abbrev cX12_asTold : ByteArray := prog_14_method_17_code
def yX12_asTold : MethodName := ⟨RX12, "asTold", "([II)V"⟩
abbrev cX12_sends : ByteArray := prog_14_method_18_code
def yX12_sends : MethodName := ⟨RX12, "sends", "(I[I)V"⟩
abbrev cX12_isWay : ByteArray := prog_14_method_19_code
def yX12_isWay : MethodName := ⟨RX12, "isWay", "(I)Z"⟩
abbrev cX12_size : ByteArray := prog_14_method_20_code
def yX12_size : MethodName := ⟨RX12, "size", "(I)I"⟩
abbrev cX12_rockOf : ByteArray := prog_14_method_21_code
def yX12_rockOf : MethodName := ⟨RX12, "rockOf", "(II)I"⟩
abbrev cX12_goesOver : ByteArray := prog_14_method_22_code
def yX12_goesOver : MethodName := ⟨RX12, "goesOver", "(I[I)V"⟩
abbrev cX12_hears : ByteArray := prog_14_method_23_code
def yX12_hears : MethodName := ⟨RX12, "hears", "(II[I)V"⟩
abbrev cX12_canUndo : ByteArray := prog_14_method_24_code
def yX12_canUndo : MethodName := ⟨RX12, "canUndo", "(I)Z"⟩
abbrev cX12_needs : ByteArray := prog_14_method_25_code
def yX12_needs : MethodName := ⟨RX12, "needs", "(II[I)V"⟩
abbrev cX12_call : ByteArray := prog_14_method_26_code
def yX12_call : MethodName := ⟨RX12, "call", "()I"⟩
abbrev cX12_sound : ByteArray := prog_14_method_27_code
def yX12_sound : MethodName := ⟨RX12, "sound", "(II)I"⟩
abbrev cX12_toldOf : ByteArray := prog_14_method_28_code
def yX12_toldOf : MethodName := ⟨RX12, "toldOf", "([II)I"⟩
abbrev cX12_soundOf : ByteArray := prog_14_method_29_code
def yX12_soundOf : MethodName := ⟨RX12, "soundOf", "(II)I"⟩
abbrev cX12_hush : ByteArray := prog_14_method_30_code
def yX12_hush : MethodName := ⟨RX12, "hush", "(I)I"⟩
abbrev cX12_drawn : ByteArray := prog_14_method_31_code
def yX12_drawn : MethodName := ⟨RX12, "drawn", "()I"⟩
abbrev cX12_draw : ByteArray := prog_14_method_32_code
def yX12_draw : MethodName := ⟨RX12, "draw", "(II)I"⟩
abbrev cX12_contrary : ByteArray := prog_14_method_33_code
def yX12_contrary : MethodName := ⟨RX12, "contrary", "(I)I"⟩
abbrev cX12_rock : ByteArray := prog_14_method_34_code
def yX12_rock : MethodName := ⟨RX12, "rock", "(II)I"⟩
abbrev cX12_rockIs : ByteArray := prog_14_method_35_code
def yX12_rockIs : MethodName := ⟨RX12, "rockIs", "(II)I"⟩
abbrev cX12_isUnder : ByteArray := prog_14_method_36_code
def yX12_isUnder : MethodName := ⟨RX12, "isUnder", "(II)Z"⟩
abbrev cX12_as : ByteArray := prog_14_method_37_code
def yX12_as : MethodName := ⟨RX12, "as", "(II)I"⟩
abbrev cX12_set : ByteArray := prog_14_method_38_code
def yX12_set : MethodName := ⟨RX12, "set", "(III)I"⟩
abbrev cX12_feed : ByteArray := prog_14_method_39_code
def yX12_feed : MethodName := ⟨RX12, "feed", "(JI)I"⟩
abbrev cX12_look : ByteArray := prog_14_method_40_code
def yX12_look : MethodName := ⟨RX12, "look", "()I"⟩
abbrev cX12_isName : ByteArray := prog_14_method_41_code
def yX12_isName : MethodName := ⟨RX12, "isName", "(I)Z"⟩
abbrev cX12_lays : ByteArray := prog_14_method_42_code
def yX12_lays : MethodName := ⟨RX12, "lays", "(II)V"⟩
abbrev cX12_whole : ByteArray := prog_14_method_43_code
def yX12_whole : MethodName := ⟨RX12, "whole", "()Z"⟩
abbrev cX12_both : ByteArray := prog_14_method_44_code
def yX12_both : MethodName := ⟨RX12, "both", "()Z"⟩
abbrev cX12_compared : ByteArray := prog_14_method_45_code
def yX12_compared : MethodName := ⟨RX12, "compared", "()Z"⟩
abbrev cX12_sum : ByteArray := prog_14_method_46_code
def yX12_sum : MethodName := ⟨RX12, "sum", "()Z"⟩
abbrev cX12_product : ByteArray := prog_14_method_47_code
def yX12_product : MethodName := ⟨RX12, "product", "()Z"⟩
abbrev cX12_opens : ByteArray := prog_14_method_48_code
def yX12_opens : MethodName := ⟨RX12, "opens", "()Z"⟩
abbrev cX12_one : ByteArray := prog_14_method_49_code
def yX12_one : MethodName := ⟨RX12, "one", "()Z"⟩
abbrev cX12_hasText : ByteArray := prog_14_method_50_code
def yX12_hasText : MethodName := ⟨RX12, "hasText", "(I)Z"⟩
abbrev cX12_text : ByteArray := prog_14_method_51_code
def yX12_text : MethodName := ⟨RX12, "text", "(I)I"⟩
abbrev cX12_untell : ByteArray := prog_14_method_52_code
def yX12_untell : MethodName := ⟨RX12, "untell", "(I)I"⟩
abbrev cX12_joined : ByteArray := prog_14_method_53_code
def yX12_joined : MethodName := ⟨RX12, "joined", "(III)I"⟩
abbrev cX12_worked : ByteArray := prog_14_method_54_code
def yX12_worked : MethodName := ⟨RX12, "worked", "(I)I"⟩
abbrev cX12_heard : ByteArray := prog_14_method_55_code
def yX12_heard : MethodName := ⟨RX12, "heard", "(III)I"⟩
abbrev cX12_self : ByteArray := prog_14_method_56_code
def yX12_self : MethodName := ⟨RX12, "self", "(II)I"⟩
abbrev cX12_takes : ByteArray := prog_14_method_57_code
def yX12_takes : MethodName := ⟨RX12, "takes", "(I)I"⟩
abbrev cX12_echo : ByteArray := prog_14_method_58_code
def yX12_echo : MethodName := ⟨RX12, "echo", "(III)I"⟩
abbrev cX12_comesBy : ByteArray := prog_14_method_59_code
def yX12_comesBy : MethodName := ⟨RX12, "comesBy", "(II[I)I"⟩
abbrev cX12_which : ByteArray := prog_14_method_60_code
def yX12_which : MethodName := ⟨RX12, "which", "(II)I"⟩
abbrev cX12_ways : ByteArray := prog_14_method_61_code
def yX12_ways : MethodName := ⟨RX12, "ways", "(III)I"⟩
abbrev cX12_need : ByteArray := prog_14_method_62_code
def yX12_need : MethodName := ⟨RX12, "need", "(III)I"⟩
abbrev cX12_findMeant : ByteArray := prog_14_method_63_code
def yX12_findMeant : MethodName := ⟨RX12, "findMeant", "(II)V"⟩
abbrev cX12_meant : ByteArray := prog_14_method_64_code
def yX12_meant : MethodName := ⟨RX12, "meant", "(II)I"⟩
abbrev cX12_unlikeIn : ByteArray := prog_14_method_65_code
def yX12_unlikeIn : MethodName := ⟨RX12, "unlikeIn", "(I)I"⟩
abbrev cX12_place : ByteArray := prog_14_method_66_code
def yX12_place : MethodName := ⟨RX12, "place", "(III)I"⟩
abbrev cX12_safe : ByteArray := prog_14_method_67_code
def yX12_safe : MethodName := ⟨RX12, "safe", "(II)I"⟩
abbrev cX12_part : ByteArray := prog_14_method_68_code
def yX12_part : MethodName := ⟨RX12, "part", "(III)I"⟩
abbrev cX12_soundAt : ByteArray := prog_14_method_69_code
def yX12_soundAt : MethodName := ⟨RX12, "soundAt", "(I)I"⟩
abbrev cX12_isSo : ByteArray := prog_14_method_70_code
def yX12_isSo : MethodName := ⟨RX12, "isSo", "(I)Z"⟩
abbrev cX12_term : ByteArray := prog_14_method_71_code
def yX12_term : MethodName := ⟨RX12, "term", "()Z"⟩
abbrev cX12_saying : ByteArray := prog_14_method_72_code
def yX12_saying : MethodName := ⟨RX12, "saying", "()Z"⟩
abbrev cX12_reads : ByteArray := prog_14_method_73_code
def yX12_reads : MethodName := ⟨RX12, "reads", "(I)I"⟩
abbrev cX12_so : ByteArray := prog_14_method_74_code
def yX12_so : MethodName := ⟨RX12, "so", "(I)I"⟩
abbrev cX12_says : ByteArray := prog_14_method_75_code
def yX12_says : MethodName := ⟨RX12, "says", "(II)I"⟩
abbrev cX12_logs : ByteArray := prog_14_method_76_code
def yX12_logs : MethodName := ⟨RX12, "logs", "(I)V"⟩
abbrev cX12_comes : ByteArray := prog_14_method_77_code
def yX12_comes : MethodName := ⟨RX12, "comes", "()V"⟩
abbrev cX12_shout : ByteArray := prog_14_method_78_code
def yX12_shout : MethodName := ⟨RX12, "shout", "(II)I"⟩
abbrev cX12_seconds : ByteArray := prog_14_method_79_code
def yX12_seconds : MethodName := ⟨RX12, "seconds", "(I)I"⟩
abbrev cX12_log : ByteArray := prog_14_method_80_code
def yX12_log : MethodName := ⟨RX12, "log", "(II)I"⟩
abbrev cX12_offers : ByteArray := prog_14_method_81_code
def yX12_offers : MethodName := ⟨RX12, "offers", "(IIII)I"⟩
abbrev cX12_hearsOf : ByteArray := prog_14_method_82_code
def yX12_hearsOf : MethodName := ⟨RX12, "hearsOf", "(III)I"⟩
abbrev cX12_bargain : ByteArray := prog_14_method_83_code
def yX12_bargain : MethodName := ⟨RX12, "bargain", "(IIIII)I"⟩
abbrev cX12_seed : ByteArray := prog_14_method_84_code
def yX12_seed : MethodName := ⟨RX12, "seed", "(I)I"⟩
abbrev cX12_begins : ByteArray := prog_14_method_85_code
def yX12_begins : MethodName := ⟨RX12, "begins", "(I)V"⟩
abbrev cX12_above : ByteArray := prog_14_method_86_code
def yX12_above : MethodName := ⟨RX12, "above", "(I)I"⟩
abbrev cX12_kindNow : ByteArray := prog_14_method_87_code
def yX12_kindNow : MethodName := ⟨RX12, "kindNow", "()I"⟩
abbrev cX12_turnsBy : ByteArray := prog_14_method_88_code
def yX12_turnsBy : MethodName := ⟨RX12, "turnsBy", "(II)I"⟩
abbrev cX12_sendsBy : ByteArray := prog_14_method_89_code
def yX12_sendsBy : MethodName := ⟨RX12, "sendsBy", "(II)I"⟩
abbrev cX12_keepsBy : ByteArray := prog_14_method_90_code
def yX12_keepsBy : MethodName := ⟨RX12, "keepsBy", "(II)I"⟩
abbrev cX12_waitsBy : ByteArray := prog_14_method_91_code
def yX12_waitsBy : MethodName := ⟨RX12, "waitsBy", "(II)I"⟩
abbrev cX12_voice : ByteArray := prog_14_method_92_code
def yX12_voice : MethodName := ⟨RX12, "voice", "(III)I"⟩
abbrev cX12_body : ByteArray := prog_14_method_93_code
def yX12_body : MethodName := ⟨RX12, "body", "(I)I"⟩
abbrev cX12_isSheet : ByteArray := prog_14_method_94_code
def yX12_isSheet : MethodName := ⟨RX12, "isSheet", "(I)Z"⟩
abbrev cX12_sheet : ByteArray := prog_14_method_95_code
def yX12_sheet : MethodName := ⟨RX12, "sheet", "(III)I"⟩
abbrev cX12_put : ByteArray := prog_14_method_96_code
def yX12_put : MethodName := ⟨RX12, "put", "(III)I"⟩
abbrev cX12_move : ByteArray := prog_14_method_97_code
def yX12_move : MethodName := ⟨RX12, "move", "(IIIII)I"⟩
abbrev cX12_sounds : ByteArray := prog_14_method_98_code
def yX12_sounds : MethodName := ⟨RX12, "sounds", "(II)I"⟩
abbrev cX12_image : ByteArray := prog_14_method_99_code
def yX12_image : MethodName := ⟨RX12, "image", "()I"⟩
abbrev cX12_restore : ByteArray := prog_14_method_100_code
def yX12_restore : MethodName := ⟨RX12, "restore", "()I"⟩
abbrev cX12_tell : ByteArray := prog_14_method_101_code
def yX12_tell : MethodName := ⟨RX12, "tell", "(I)I"⟩
abbrev cX12_check : ByteArray := prog_14_method_102_code
def yX12_check : MethodName := ⟨RX12, "check", "(II)I"⟩
abbrev cX12_count : ByteArray := prog_14_method_103_code
def yX12_count : MethodName := ⟨RX12, "count", "(I)I"⟩
abbrev cX12_told : ByteArray := prog_14_method_104_code
def yX12_told : MethodName := ⟨RX12, "told", "(I)I"⟩
def RJ11 : String := "java/lang/Character"
def TJ11 : u_T := fun k => match k with
  | _ => ("", "", "", false)
def tyJ11 : Nat → FieldType := fun k => match k with
  | _ => .int
abbrev wsJ110 : List Cond := u_ws RJ11 TJ11 0
theorem nmJ11 : ∀ a, a < 0 → ∀ b, b < 0 → a ≠ b → (TJ11 a).2.1 ≠ (TJ11 b).2.1 := by decide +kernel
theorem tyJ11_ok : ∀ k, k < 0 → parseFieldDescriptor (TJ11 k).2.2.1 = some (tyJ11 k) := by decide +kernel
abbrev cJ11_isValidCodePoint_9a6ad : ByteArray := prog_15_method_11_code
def yJ11_isValidCodePoint_9a6ad : MethodName := ⟨RJ11, "isValidCodePoint", "(I)Z"⟩
abbrev cJ11_highSurrogate_5068e : ByteArray := prog_15_method_28_code
def yJ11_highSurrogate_5068e : MethodName := ⟨RJ11, "highSurrogate", "(I)C"⟩
abbrev cJ11_lowSurrogate_5068e : ByteArray := prog_15_method_29_code
def yJ11_lowSurrogate_5068e : MethodName := ⟨RJ11, "lowSurrogate", "(I)C"⟩
def RJ13 : String := "java/lang/Long"
def TJ13 : u_T := fun k => match k with
  | _ => ("", "", "", false)
def tyJ13 : Nat → FieldType := fun k => match k with
  | _ => .int
abbrev wsJ130 : List Cond := u_ws RJ13 TJ13 0
theorem nmJ13 : ∀ a, a < 0 → ∀ b, b < 0 → a ≠ b → (TJ13 a).2.1 ≠ (TJ13 b).2.1 := by decide +kernel
theorem tyJ13_ok : ∀ k, k < 0 → parseFieldDescriptor (TJ13 k).2.2.1 = some (tyJ13 k) := by decide +kernel
abbrev cJ13_bitCount_95d88 : ByteArray := prog_16_method_50_code
def yJ13_bitCount_95d88 : MethodName := ⟨RJ13, "bitCount", "(J)I"⟩
def RJ9 : String := "java/lang/Math"
def TJ9 : u_T := fun k => match k with
  | _ => ("", "", "", false)
def tyJ9 : Nat → FieldType := fun k => match k with
  | _ => .int
abbrev wsJ90 : List Cond := u_ws RJ9 TJ9 0
theorem nmJ9 : ∀ a, a < 0 → ∀ b, b < 0 → a ≠ b → (TJ9 a).2.1 ≠ (TJ9 b).2.1 := by decide +kernel
theorem tyJ9_ok : ∀ k, k < 0 → parseFieldDescriptor (TJ9 k).2.2.1 = some (tyJ9 k) := by decide +kernel
abbrev cJ9_max_7cf53 : ByteArray := prog_17_method_65_code
def yJ9_max_7cf53 : MethodName := ⟨RJ9, "max", "(II)I"⟩
abbrev cJ9_min_7cf53 : ByteArray := prog_17_method_69_code
def yJ9_min_7cf53 : MethodName := ⟨RJ9, "min", "(II)I"⟩
def RJ0 : String := "java/lang/String"
def TJ0 : u_T := fun k => match k with
  | _ => ("", "", "", false)
def tyJ0 : Nat → FieldType := fun k => match k with
  | _ => .int
abbrev wsJ00 : List Cond := u_ws RJ0 TJ0 0
theorem nmJ0 : ∀ a, a < 0 → ∀ b, b < 0 → a ≠ b → (TJ0 a).2.1 ≠ (TJ0 b).2.1 := by decide +kernel
theorem tyJ0_ok : ∀ k, k < 0 → parseFieldDescriptor (TJ0 k).2.2.1 = some (tyJ0 k) := by decide +kernel
abbrev cJ0_length_8abf5 : ByteArray := prog_18_method_54_code
def yJ0_length_8abf5 : MethodName := ⟨RJ0, "length", "()I"⟩
abbrev cJ0_indexOf_0f7a4 : ByteArray := prog_18_method_79_code
def yJ0_indexOf_0f7a4 : MethodName := ⟨RJ0, "indexOf", "(I)I"⟩
abbrev cJ0_indexOf_7cf53 : ByteArray := prog_18_method_80_code
def yJ0_indexOf_7cf53 : MethodName := ⟨RJ0, "indexOf", "(II)I"⟩
abbrev cJ0_coder_7d493 : ByteArray := prog_18_method_152_code
def yJ0_coder_7d493 : MethodName := ⟨RJ0, "coder", "()B"⟩
abbrev cJ0_isLatin1_aae02 : ByteArray := prog_18_method_154_code
def yJ0_isLatin1_aae02 : MethodName := ⟨RJ0, "isLatin1", "()Z"⟩
abbrev cJ0_checkBoundsBeginEnd_23922 : ByteArray := prog_18_method_158_code
def yJ0_checkBoundsBeginEnd_23922 : MethodName := ⟨RJ0, "checkBoundsBeginEnd", "(III)V"⟩
def RJ1 : String := "java/lang/StringLatin1"
def TJ1 : u_T := fun k => match k with
  | _ => ("", "", "", false)
def tyJ1 : Nat → FieldType := fun k => match k with
  | _ => .int
abbrev wsJ10 : List Cond := u_ws RJ1 TJ1 0
theorem nmJ1 : ∀ a, a < 0 → ∀ b, b < 0 → a ≠ b → (TJ1 a).2.1 ≠ (TJ1 b).2.1 := by decide +kernel
theorem tyJ1_ok : ∀ k, k < 0 → parseFieldDescriptor (TJ1 k).2.2.1 = some (tyJ1 k) := by decide +kernel
abbrev cJ1_canEncode_9a6ad : ByteArray := prog_19_method_4_code
def yJ1_canEncode_9a6ad : MethodName := ⟨RJ1, "canEncode", "(I)Z"⟩
abbrev cJ1_indexOf_4cfef : ByteArray := prog_19_method_22_code
def yJ1_indexOf_4cfef : MethodName := ⟨RJ1, "indexOf", "([BIII)I"⟩
abbrev cJ1_indexOfChar_4cfef : ByteArray := prog_19_method_23_code
def yJ1_indexOfChar_4cfef : MethodName := ⟨RJ1, "indexOfChar", "([BIII)I"⟩
def RJ2 : String := "java/lang/StringUTF16"
def TJ2 : u_T := fun k => match k with
  | _ => ("", "", "", false)
def tyJ2 : Nat → FieldType := fun k => match k with
  | _ => .int
abbrev wsJ20 : List Cond := u_ws RJ2 TJ2 0
theorem nmJ2 : ∀ a, a < 0 → ∀ b, b < 0 → a ≠ b → (TJ2 a).2.1 ≠ (TJ2 b).2.1 := by decide +kernel
theorem tyJ2_ok : ∀ k, k < 0 → parseFieldDescriptor (TJ2 k).2.2.1 = some (tyJ2 k) := by decide +kernel
abbrev cJ2_getChar_3b067 : ByteArray := prog_20_method_5_code
def yJ2_getChar_3b067 : MethodName := ⟨RJ2, "getChar", "([BI)C"⟩
abbrev cJ2_length_9d52b : ByteArray := prog_20_method_6_code
def yJ2_length_9d52b : MethodName := ⟨RJ2, "length", "([B)I"⟩
abbrev cJ2_indexOf_4cfef : ByteArray := prog_20_method_40_code
def yJ2_indexOf_4cfef : MethodName := ⟨RJ2, "indexOf", "([BIII)I"⟩
abbrev cJ2_indexOfChar_4cfef : ByteArray := prog_20_method_47_code
def yJ2_indexOfChar_4cfef : MethodName := ⟨RJ2, "indexOfChar", "([BIII)I"⟩
abbrev cJ2_indexOfCharUnsafe_4cfef : ByteArray := prog_20_method_48_code
def yJ2_indexOfCharUnsafe_4cfef : MethodName := ⟨RJ2, "indexOfCharUnsafe", "([BIII)I"⟩
abbrev cJ2_indexOfSupplementary_4cfef : ByteArray := prog_20_method_49_code
def yJ2_indexOfSupplementary_4cfef : MethodName := ⟨RJ2, "indexOfSupplementary", "([BIII)I"⟩
abbrev cJ2_checkBoundsBeginEnd_d044e : ByteArray := prog_20_method_93_code
def yJ2_checkBoundsBeginEnd_d044e : MethodName := ⟨RJ2, "checkBoundsBeginEnd", "(II[B)V"⟩
def RJ10 : String := "java/lang/System"
def TJ10 : u_T := fun k => match k with
  | _ => ("", "", "", false)
def tyJ10 : Nat → FieldType := fun k => match k with
  | _ => .int
abbrev wsJ100 : List Cond := u_ws RJ10 TJ10 0
theorem nmJ10 : ∀ a, a < 0 → ∀ b, b < 0 → a ≠ b → (TJ10 a).2.1 ≠ (TJ10 b).2.1 := by decide +kernel
theorem tyJ10_ok : ∀ k, k < 0 → parseFieldDescriptor (TJ10 k).2.2.1 = some (tyJ10 k) := by decide +kernel
def RJ3 : String := "jdk/internal/util/Preconditions"
def TJ3 : u_T := fun k => match k with
  | _ => ("", "", "", false)
def tyJ3 : Nat → FieldType := fun k => match k with
  | _ => .int
abbrev wsJ30 : List Cond := u_ws RJ3 TJ3 0
theorem nmJ3 : ∀ a, a < 0 → ∀ b, b < 0 → a ≠ b → (TJ3 a).2.1 ≠ (TJ3 b).2.1 := by decide +kernel
theorem tyJ3_ok : ∀ k, k < 0 → parseFieldDescriptor (TJ3 k).2.2.1 = some (tyJ3 k) := by decide +kernel
abbrev cJ3_checkFromToIndex_8c36e : ByteArray := prog_22_method_12_code
def yJ3_checkFromToIndex_8c36e : MethodName := ⟨RJ3, "checkFromToIndex", "(IIILjava/util/function/BiFunction;)I"⟩
def RL : String := "GorgeRocksLaw"
abbrev cL_law : ByteArray := code
def yL_law : MethodName := ⟨RL, "law", "([I)Z"⟩
def wsL_law_r1 : List Cond := [Cond.classLink RL 7 RX11, Cond.instantiable RX11 15, Cond.initialized RX11, Cond.classLink RL 10 RX12, Cond.instantiable RX12 26, Cond.initialized RX12, Cond.constantLong RL 57 (4294967295), Cond.methodLink RL 9 yX11_init, Cond.instanceMethod yX11_init, Cond.code yX11_init cX11_init 2 none, Cond.methodLink RX11 1 objectInit, Cond.instanceMethod objectInit, Cond.code objectInit ⟨#[0xb1]⟩ 1 none, Cond.classLink RX11 7 RX10, Cond.instantiable RX10 15, Cond.initialized RX10, Cond.fieldLink RX11 10 "GorgeRocks" "world" "LGorgeRocks$World;", Cond.fieldLink RX11 16 "GorgeRocks" "kept" "LGorgeRocks$World;", Cond.classLink RX11 19 RX4, Cond.instantiable RX4 4, Cond.initialized RX4, Cond.fieldLink RX11 22 "GorgeRocks" "reader" "LGorgeRocks$Reader;", Cond.classLink RX11 26 RX1, Cond.instantiable RX1 3]
def wsL_law_r2 : List Cond := [Cond.initialized RX1, Cond.fieldLink RX11 29 "GorgeRocks" "grammar" "LGorgeRocks$Grammar;", Cond.classLink RX11 33 RX3, Cond.instantiable RX3 3, Cond.initialized RX3, Cond.fieldLink RX11 36 "GorgeRocks" "meanings" "LGorgeRocks$Meanings;", Cond.classLink RX11 40 RX0, Cond.instantiable RX0 8, Cond.initialized RX0, Cond.fieldLink RX11 43 "GorgeRocks" "deal" "LGorgeRocks$Deal;", Cond.classLink RX11 47 RX8, Cond.instantiable RX8 5, Cond.initialized RX8, Cond.fieldLink RX11 50 "GorgeRocks" "speaker" "LGorgeRocks$Speaker;", Cond.classLink RX11 54 RX7, Cond.fieldLink RX11 56 "GorgeRocks" "sheets" "[LGorgeRocks$Sheet;", Cond.classLink RX11 60 RX6, Cond.instantiable RX6 2, Cond.initialized RX6, Cond.fieldLink RX11 65 "GorgeRocks" "firstWay" "LGorgeRocks$Row;", Cond.fieldLink RX11 69 "GorgeRocks" "secondWay" "LGorgeRocks$Row;", Cond.fieldLink RX11 72 "GorgeRocks" "firstRow" "LGorgeRocks$Row;", Cond.fieldLink RX11 75 "GorgeRocks" "secondRow" "LGorgeRocks$Row;", Cond.fieldLink RX11 78 "GorgeRocks" "between" "[LGorgeRocks$Row;"]
def wsL_law_r3 : List Cond := [Cond.arrayClass .int, Cond.fieldLink RX11 82 "GorgeRocks" "errorCounts" "[I", Cond.fieldLink RX11 86 "GorgeRocks" "imageCount" "I", Cond.instantiable RX7 3, Cond.initialized RX7, Cond.methodLink RX11 9 yX10_init, Cond.instanceMethod yX10_init, Cond.code yX10_init cX10_init 2 none, Cond.methodLink RX10 3 objectInit, Cond.classLink RX10 9 RX6, Cond.fieldLink RX10 11 "GorgeRocks$World" "calls" "[LGorgeRocks$Row;", Cond.classLink RX10 17 RX5, Cond.fieldLink RX10 19 "GorgeRocks$World" "rocks" "[LGorgeRocks$Rock;", Cond.classLink RX10 23 RX9, Cond.fieldLink RX10 25 "GorgeRocks$World" "texts" "[LGorgeRocks$Text;", Cond.fieldLink RX10 32 "GorgeRocks$World" "tape" "LGorgeRocks$Row;", Cond.fieldLink RX10 36 "GorgeRocks$World" "waiting" "LGorgeRocks$Row;", Cond.fieldLink RX10 39 "GorgeRocks$World" "echoCalls" "LGorgeRocks$Row;", Cond.fieldLink RX10 42 "GorgeRocks$World" "echoRocks" "LGorgeRocks$Row;", Cond.fieldLink RX10 45 "GorgeRocks$World" "echoTimes" "LGorgeRocks$Row;", Cond.classLink RX10 48 RX2, Cond.instantiable RX2 3, Cond.initialized RX2, Cond.fieldLink RX10 51 "GorgeRocks$World" "journal" "LGorgeRocks$Journal;"]
def wsL_law_r4 : List Cond := [Cond.fieldLink RX10 55 "GorgeRocks$World" "callCount" "I", Cond.fieldLink RX10 59 "GorgeRocks$World" "rockCount" "I", Cond.fieldLink RX10 62 "GorgeRocks$World" "now" "I", Cond.fieldLink RX10 65 "GorgeRocks$World" "truth" "I", Cond.fieldLink RX10 68 "GorgeRocks$World" "z" "I", Cond.fieldLink RX10 71 "GorgeRocks$World" "names" "[I", Cond.instantiable RX5 3, Cond.initialized RX5, Cond.instantiable RX9 2, Cond.initialized RX9, Cond.methodLink RX10 29 yX6_init, Cond.instanceMethod yX6_init, Cond.code yX6_init cX6_init 2 none, Cond.methodLink RX6 1 objectInit, Cond.fieldLink RX6 7 "GorgeRocks$Row" "size" "I", Cond.methodLink RX6 13 Lib.Math.max.name, Cond.static Lib.Math.max.name, Cond.initialized "java/lang/Math", Cond.code Lib.Math.max.name Lib.Math.max.code 2 (some .int), Cond.fieldLink RX6 19 "GorgeRocks$Row" "items" "[I", Cond.methodLink RX10 50 yX2_init, Cond.instanceMethod yX2_init, Cond.code yX2_init cX2_init 2 none, Cond.methodLink RX2 3 objectInit]
def wsL_law_r5 : List Cond := [Cond.classLink RX2 9 RX6, Cond.fieldLink RX2 11 "GorgeRocks$Journal" "rows" "[LGorgeRocks$Row;", Cond.fieldLink RX2 17 "GorgeRocks$Journal" "latest" "I", Cond.fieldLink RX2 21 "GorgeRocks$Journal" "size" "I", Cond.methodLink RX2 24 yX6_init, Cond.instanceMethod yX5_init, Cond.code yX5_init cX5_init 1 none, Cond.methodLink RX5 3 objectInit, Cond.fieldLink RX5 9 "GorgeRocks$Rock" "kind" "I", Cond.fieldLink RX5 15 "GorgeRocks$Rock" "m" "I", Cond.fieldLink RX5 18 "GorgeRocks$Rock" "delay" "I", Cond.instanceMethod yX9_init, Cond.code yX9_init cX9_init 1 none, Cond.methodLink RX9 3 objectInit, Cond.classLink RX9 9 RX6, Cond.fieldLink RX9 14 "GorgeRocks$Text" "code" "LGorgeRocks$Row;", Cond.fieldLink RX9 20 "GorgeRocks$Text" "stack" "[I", Cond.methodLink RX9 11 yX6_init, Cond.instanceMethod yX4_init, Cond.code yX4_init cX4_init 1 none, Cond.methodLink RX4 3 objectInit, Cond.classLink RX4 9 RX6, Cond.fieldLink RX4 14 "GorgeRocks$Reader" "draft" "LGorgeRocks$Row;", Cond.fieldLink RX4 20 "GorgeRocks$Reader" "tape" "LGorgeRocks$Row;"]
def wsL_law_r6 : List Cond := [Cond.fieldLink RX4 25 "GorgeRocks$Reader" "names" "Ljava/lang/String;", Cond.fieldLink RX4 29 "GorgeRocks$Reader" "at" "I", Cond.methodLink RX4 11 yX6_init, Cond.instanceMethod yX1_init, Cond.code yX1_init cX1_init 1 none, Cond.methodLink RX1 3 objectInit, Cond.classLink RX1 9 RX6, Cond.fieldLink RX1 14 "GorgeRocks$Grammar" "row" "LGorgeRocks$Row;", Cond.fieldLink RX1 20 "GorgeRocks$Grammar" "truth" "I", Cond.fieldLink RX1 24 "GorgeRocks$Grammar" "at" "I", Cond.methodLink RX1 11 yX6_init, Cond.methodLink RX11 35 yX3_init, Cond.instanceMethod yX3_init, Cond.code yX3_init cX3_init 2 none, Cond.methodLink RX3 3 objectInit, Cond.classLink RX3 9 RX6, Cond.fieldLink RX3 11 "GorgeRocks$Meanings" "rows" "[LGorgeRocks$Row;", Cond.fieldLink RX3 20 "GorgeRocks$Meanings" "tried" "LGorgeRocks$Row;", Cond.fieldLink RX3 24 "GorgeRocks$Meanings" "size" "I", Cond.methodLink RX3 17 yX6_init, Cond.instanceMethod yX0_init, Cond.code yX0_init cX0_init 1 none, Cond.methodLink RX0 3 objectInit, Cond.classLink RX0 9 RX6]
def wsL_law_r7 : List Cond := [Cond.fieldLink RX0 14 "GorgeRocks$Deal" "calling" "LGorgeRocks$Row;", Cond.fieldLink RX0 20 "GorgeRocks$Deal" "coming" "LGorgeRocks$Row;", Cond.fieldLink RX0 23 "GorgeRocks$Deal" "sellerOffer" "I", Cond.fieldLink RX0 27 "GorgeRocks$Deal" "buyerOffer" "I", Cond.fieldLink RX0 30 "GorgeRocks$Deal" "closedAt" "I", Cond.fieldLink RX0 33 "GorgeRocks$Deal" "oddAt" "I", Cond.fieldLink RX0 36 "GorgeRocks$Deal" "sellerHeard" "I", Cond.fieldLink RX0 39 "GorgeRocks$Deal" "buyerHeard" "I", Cond.methodLink RX0 11 yX6_init, Cond.instanceMethod yX8_init, Cond.code yX8_init cX8_init 1 none, Cond.methodLink RX8 3 objectInit, Cond.classLink RX8 9 RX6, Cond.fieldLink RX8 14 "GorgeRocks$Speaker" "trace" "LGorgeRocks$Row;", Cond.fieldLink RX8 20 "GorgeRocks$Speaker" "parted" "Z", Cond.fieldLink RX8 24 "GorgeRocks$Speaker" "kind" "I", Cond.fieldLink RX8 28 "GorgeRocks$Speaker" "m" "I", Cond.fieldLink RX8 31 "GorgeRocks$Speaker" "k" "I", Cond.methodLink RX8 11 yX6_init, Cond.methodLink RX11 62 yX6_init, Cond.instanceMethod yX7_init, Cond.code yX7_init cX7_init 1 none, Cond.methodLink RX7 3 objectInit, Cond.fieldLink RX7 9 "GorgeRocks$Sheet" "numbers" "[I"]
def wsL_law_r8 : List Cond := [Cond.fieldLink RX7 15 "GorgeRocks$Sheet" "bits" "I", Cond.fieldLink RX7 19 "GorgeRocks$Sheet" "size" "I", Cond.methodLink RL 12 yX12_init, Cond.instanceMethod yX12_init, Cond.code yX12_init cX12_init 1 none, Cond.methodLink RX12 1 objectInit, Cond.fieldLink RX12 7 "GorgeRocksModel" "s" "[I", Cond.fieldLink RX12 13 "GorgeRocksModel" "kept" "[I", Cond.fieldLink RX12 16 "GorgeRocksModel" "errors" "[I", Cond.fieldLink RX12 19 "GorgeRocksModel" "row" "[I", Cond.fieldLink RX12 22 "GorgeRocksModel" "spare" "[I", Cond.fieldLink RX12 25 "GorgeRocksModel" "other" "[I", Cond.fieldLink RX12 28 "GorgeRocksModel" "step" "[I", Cond.fieldLink RX12 31 "GorgeRocksModel" "named" "[I", Cond.fieldLink RX12 34 "GorgeRocksModel" "pile" "[I", Cond.fieldLink RX12 37 "GorgeRocksModel" "meantRows" "[I", Cond.fieldLink RX12 40 "GorgeRocksModel" "trace" "[I", Cond.fieldLink RX12 43 "GorgeRocksModel" "bits" "[I", Cond.fieldLink RX12 46 "GorgeRocksModel" "sizes" "[I", Cond.fieldLink RX12 49 "GorgeRocksModel" "number" "[I", Cond.fieldLink RX12 52 "GorgeRocksModel" "aside" "[I", Cond.methodLink RL 13 yX11_call, Cond.instanceMethod yX11_call, Cond.selects RX11 yX11_call yX11_call]
def wsL_law_r9 : List Cond := [Cond.code yX11_call cX11_call 1 (some .int), Cond.fieldLink RX11 91 "GorgeRocks$World" "callCount" "I", Cond.fieldLink RX11 98 "GorgeRocks$World" "calls" "[LGorgeRocks$Row;", Cond.methodLink RX11 94 yX11_error, Cond.instanceMethod yX11_error, Cond.selects RX11 yX11_error yX11_error, Cond.code yX11_error cX11_error 2 (some .int), Cond.constant RX11 358 (-1000000), Cond.methodLink RX11 101 yX6_clear, Cond.instanceMethod yX6_clear, Cond.selects RX6 yX6_clear yX6_clear, Cond.code yX6_clear cX6_clear 1 none, Cond.methodLink RL 17 yX12_call, Cond.instanceMethod yX12_call, Cond.selects RX12 yX12_call yX12_call, Cond.code yX12_call cX12_call 1 (some .int), Cond.methodLink RX12 112 yX12_error, Cond.instanceMethod yX12_error, Cond.selects RX12 yX12_error yX12_error, Cond.code yX12_error cX12_error 2 (some .int), Cond.constant RX12 55 (-1000000), Cond.methodLink RL 18 yX11_sound, Cond.instanceMethod yX11_sound, Cond.selects RX11 yX11_sound yX11_sound]
def wsL_law_r10 : List Cond := [Cond.code yX11_sound cX11_sound 4 (some .int), Cond.fieldLink RX11 114 "GorgeRocks$Row" "size" "I", Cond.methodLink RX11 104 yX11_isCall, Cond.instanceMethod yX11_isCall, Cond.selects RX11 yX11_isCall yX11_isCall, Cond.code yX11_isCall cX11_isCall 2 (some .boolean), Cond.methodLink RX11 108 yX11_isSound, Cond.static yX11_isSound, Cond.code yX11_isSound cX11_isSound 1 (some .boolean), Cond.methodLink RX11 111 yX6_add, Cond.instanceMethod yX6_add, Cond.selects RX6 yX6_add yX6_add, Cond.code yX6_add cX6_add 2 (some .boolean), Cond.methodLink RL 22 yX12_sound, Cond.instanceMethod yX12_sound, Cond.selects RX12 yX12_sound yX12_sound, Cond.code yX12_sound cX12_sound 4 (some .int), Cond.methodLink RX12 115 yX12_isCall, Cond.instanceMethod yX12_isCall, Cond.selects RX12 yX12_isCall yX12_isCall, Cond.code yX12_isCall cX12_isCall 2 (some .boolean), Cond.methodLink RX12 56 yX12_in, Cond.static yX12_in, Cond.code yX12_in cX12_in 3 (some .boolean)]
def wsL_law_r11 : List Cond := [Cond.methodLink RX12 71 yX12_isSound, Cond.static yX12_isSound, Cond.code yX12_isSound cX12_isSound 1 (some .boolean), Cond.methodLink RL 23 yX11_soundOf, Cond.instanceMethod yX11_soundOf, Cond.selects RX11 yX11_soundOf yX11_soundOf, Cond.code yX11_soundOf cX11_soundOf 3 (some .int), Cond.methodLink RX11 117 yX11_soundOrSize, Cond.instanceMethod yX11_soundOrSize, Cond.selects RX11 yX11_soundOrSize yX11_soundOrSize, Cond.code yX11_soundOrSize cX11_soundOrSize 3 (some .int), Cond.fieldLink RX11 221 "GorgeRocks$Row" "items" "[I", Cond.methodLink RL 26 yX12_soundOf, Cond.instanceMethod yX12_soundOf, Cond.selects RX12 yX12_soundOf yX12_soundOf, Cond.code yX12_soundOf cX12_soundOf 3 (some .int), Cond.methodLink RX12 106 yX12_take, Cond.instanceMethod yX12_take, Cond.selects RX12 yX12_take yX12_take, Cond.code yX12_take cX12_take 4 none, Cond.methodLink RX12 118 yX12_toldOf, Cond.instanceMethod yX12_toldOf, Cond.selects RX12 yX12_toldOf yX12_toldOf, Cond.code yX12_toldOf cX12_toldOf 3 (some .int)]
def wsL_law_r12 : List Cond := [Cond.methodLink RL 27 yX11_hush, Cond.instanceMethod yX11_hush, Cond.selects RX11 yX11_hush yX11_hush, Cond.code yX11_hush cX11_hush 4 (some .int), Cond.methodLink RL 31 yX12_hush, Cond.instanceMethod yX12_hush, Cond.selects RX12 yX12_hush yX12_hush, Cond.code yX12_hush cX12_hush 3 (some .int), Cond.methodLink RL 32 yX11_draw, Cond.instanceMethod yX11_draw, Cond.selects RX11 yX11_draw yX11_draw, Cond.code yX11_draw cX11_draw 5 (some .int), Cond.methodLink RX11 121 yX10_nextDraw, Cond.instanceMethod yX10_nextDraw, Cond.selects RX10 yX10_nextDraw yX10_nextDraw, Cond.code yX10_nextDraw cX10_nextDraw 1 (some .int), Cond.constant RX10 90 (1103515245), Cond.methodLink RX11 125 yX11_soundOr60, Cond.static yX11_soundOr60, Cond.code yX11_soundOr60 cX11_soundOr60 1 (some .int), Cond.methodLink RX11 128 yX6_unsafeSounds, Cond.instanceMethod yX6_unsafeSounds, Cond.selects RX6 yX6_unsafeSounds yX6_unsafeSounds, Cond.code yX6_unsafeSounds cX6_unsafeSounds 3 (some .int)]
def wsL_law_r13 : List Cond := [Cond.static yX11_contraryOf, Cond.code yX11_contraryOf cX11_contraryOf 1 (some .int), Cond.methodLink RL 35 yX12_draw, Cond.instanceMethod yX12_draw, Cond.selects RX12 yX12_draw yX12_draw, Cond.code yX12_draw cX12_draw 6 (some .int), Cond.methodLink RX12 123 yX12_drawn, Cond.instanceMethod yX12_drawn, Cond.selects RX12 yX12_drawn yX12_drawn, Cond.code yX12_drawn cX12_drawn 1 (some .int), Cond.constant RX12 122 (1103515245), Cond.methodLink RX12 60 yX12_contraryOf, Cond.static yX12_contraryOf, Cond.code yX12_contraryOf cX12_contraryOf 1 (some .int), Cond.methodLink RL 36 yX11_contrary, Cond.instanceMethod yX11_contrary, Cond.selects RX11 yX11_contrary yX11_contrary, Cond.code yX11_contrary cX11_contrary 2 (some .int), Cond.methodLink RX11 131 yX11_contraryOf, Cond.methodLink RL 39 yX12_contrary, Cond.instanceMethod yX12_contrary, Cond.selects RX12 yX12_contrary yX12_contrary, Cond.code yX12_contrary cX12_contrary 2 (some .int), Cond.methodLink RL 40 yX11_rock]
def wsL_law_r14 : List Cond := [Cond.instanceMethod yX11_rock, Cond.selects RX11 yX11_rock yX11_rock, Cond.code yX11_rock cX11_rock 4 (some .int), Cond.fieldLink RX11 137 "GorgeRocks$World" "rockCount" "I", Cond.fieldLink RX11 140 "GorgeRocks$World" "rocks" "[LGorgeRocks$Rock;", Cond.fieldLink RX11 144 "GorgeRocks$Rock" "kind" "I", Cond.fieldLink RX11 149 "GorgeRocks$Rock" "m" "I", Cond.fieldLink RX11 152 "GorgeRocks$Rock" "delay" "I", Cond.methodLink RX11 134 yX11_isDelay, Cond.static yX11_isDelay, Cond.code yX11_isDelay cX11_isDelay 1 (some .boolean), Cond.methodLink RL 43 yX12_rock, Cond.instanceMethod yX12_rock, Cond.selects RX12 yX12_rock yX12_rock, Cond.code yX12_rock cX12_rock 4 (some .int), Cond.methodLink RL 44 yX11_rockIs, Cond.instanceMethod yX11_rockIs, Cond.selects RX11 yX11_rockIs yX11_rockIs, Cond.code yX11_rockIs cX11_rockIs 3 (some .int), Cond.methodLink RX11 155 yX11_isRock, Cond.instanceMethod yX11_isRock, Cond.selects RX11 yX11_isRock yX11_isRock, Cond.code yX11_isRock cX11_isRock 2 (some .boolean), Cond.methodLink RX11 158 yX5_tells]
def wsL_law_r15 : List Cond := [Cond.instanceMethod yX5_tells, Cond.selects RX5 yX5_tells yX5_tells, Cond.code yX5_tells cX5_tells 2 (some .int), Cond.methodLink RL 47 yX12_rockIs, Cond.instanceMethod yX12_rockIs, Cond.selects RX12 yX12_rockIs yX12_rockIs, Cond.code yX12_rockIs cX12_rockIs 3 (some .int), Cond.methodLink RX12 93 yX12_isRock, Cond.instanceMethod yX12_isRock, Cond.selects RX12 yX12_isRock yX12_isRock, Cond.code yX12_isRock cX12_isRock 2 (some .boolean), Cond.methodLink RX12 74 yX12_its, Cond.instanceMethod yX12_its, Cond.selects RX12 yX12_its yX12_its, Cond.code yX12_its cX12_its 3 (some .int), Cond.methodLink RL 48 yX11_as, Cond.instanceMethod yX11_as, Cond.selects RX11 yX11_as yX11_as, Cond.code yX11_as cX11_as 3 (some .int), Cond.methodLink RX11 161 yX11_isKind, Cond.static yX11_isKind, Cond.code yX11_isKind cX11_isKind 1 (some .boolean), Cond.methodLink RX11 164 yX11_isUnder, Cond.static yX11_isUnder]
def wsL_law_r16 : List Cond := [Cond.code yX11_isUnder cX11_isUnder 4 (some .boolean), Cond.fieldLink RX11 359 "GorgeRocks" "ABOVE" "[I", Cond.methodLink RL 51 yX12_as, Cond.instanceMethod yX12_as, Cond.selects RX12 yX12_as yX12_as, Cond.code yX12_as cX12_as 3 (some .int), Cond.methodLink RX12 127 yX12_isUnder, Cond.static yX12_isUnder, Cond.code yX12_isUnder cX12_isUnder 2 (some .boolean), Cond.methodLink RL 52 yX11_set, Cond.instanceMethod yX11_set, Cond.selects RX11 yX11_set yX11_set, Cond.code yX11_set cX11_set 6 (some .int), Cond.methodLink RX11 168 yX11_mayBecome, Cond.static yX11_mayBecome, Cond.code yX11_mayBecome cX11_mayBecome 2 (some .boolean), Cond.methodLink RX11 171 yX5_become, Cond.instanceMethod yX5_become, Cond.selects RX5 yX5_become yX5_become, Cond.code yX5_become cX5_become 3 none, Cond.methodLink RL 56 yX12_set, Cond.instanceMethod yX12_set, Cond.selects RX12 yX12_set yX12_set, Cond.code yX12_set cX12_set 5 (some .int)]
def wsL_law_r17 : List Cond := [Cond.methodLink RL 59 yX11_feed, Cond.instanceMethod yX11_feed, Cond.selects RX11 yX11_feed yX11_feed, Cond.code yX11_feed cX11_feed 5 (some .int), Cond.fieldLink RX11 175 "GorgeRocks$World" "tape" "LGorgeRocks$Row;", Cond.methodLink RL 63 yX12_feed, Cond.instanceMethod yX12_feed, Cond.selects RX12 yX12_feed yX12_feed, Cond.code yX12_feed cX12_feed 5 (some .int), Cond.constantLong RX12 131 (255), Cond.methodLink RL 64 yX11_text, Cond.instanceMethod yX11_text, Cond.selects RX11 yX11_text yX11_text, Cond.code yX11_text cX11_text 3 (some .int), Cond.fieldLink RX11 189 "GorgeRocks$World" "texts" "[LGorgeRocks$Text;", Cond.fieldLink RX11 193 "GorgeRocks$Text" "code" "LGorgeRocks$Row;", Cond.fieldLink RX11 198 "GorgeRocks$Reader" "draft" "LGorgeRocks$Row;", Cond.methodLink RX11 178 yX11_isUse, Cond.static yX11_isUse, Cond.code yX11_isUse cX11_isUse 1 (some .boolean), Cond.methodLink RX11 185 yX4_faultOf, Cond.instanceMethod yX4_faultOf, Cond.selects RX4 yX4_faultOf yX4_faultOf, Cond.code yX4_faultOf cX4_faultOf 4 (some .int)]
def wsL_law_r18 : List Cond := [Cond.fieldLink RX4 40 "GorgeRocks$Row" "size" "I", Cond.methodLink RX4 33 yX6_clear, Cond.methodLink RX4 36 yX4_readLevel, Cond.instanceMethod yX4_readLevel, Cond.selects RX4 yX4_readLevel yX4_readLevel, Cond.code yX4_readLevel cX4_readLevel 7 (some .boolean), Cond.methodLink RX4 47 yX4_readQ, Cond.instanceMethod yX4_readQ, Cond.selects RX4 yX4_readQ yX4_readQ, Cond.methodLink RX4 51 yX4_next, Cond.instanceMethod yX4_next, Cond.selects RX4 yX4_next yX4_next, Cond.code yX4_next cX4_next 1 (some .int), Cond.fieldLink RX4 43 "GorgeRocks$Row" "items" "[I", Cond.methodLink RX4 55 yX4_levelOf, Cond.static yX4_levelOf, Cond.code yX4_levelOf cX4_levelOf 1 (some .int), Cond.methodLink RX4 61 yX6_add, Cond.code yX4_readDenied cX4_readDenied 3 (some .boolean), Cond.code yX4_readEnclosed cX4_readEnclosed 2 (some .boolean), Cond.code yX4_readQ cX4_readQ 4 (some .boolean), Cond.methodLink RX4 64 yX4_isDigit, Cond.static yX4_isDigit, Cond.code yX4_isDigit cX4_isDigit 1 (some .boolean)]
def wsL_law_r19 : List Cond := [Cond.methodLink RX4 67 yX4_readNumber, Cond.instanceMethod yX4_readNumber, Cond.selects RX4 yX4_readNumber yX4_readNumber, Cond.code yX4_readNumber cX4_readNumber 3 none, Cond.methodLink RX4 70 yJ0_indexOf_0f7a4, Cond.instanceMethod yJ0_indexOf_0f7a4, Cond.selects RJ0 yJ0_indexOf_0f7a4 yJ0_indexOf_0f7a4, Cond.initialized RJ0, Cond.code yJ0_indexOf_0f7a4 cJ0_indexOf_0f7a4 2 (some .int), Cond.methodLink RJ0 633 yJ0_indexOf_7cf53, Cond.instanceMethod yJ0_indexOf_7cf53, Cond.selects RJ0 yJ0_indexOf_7cf53 yJ0_indexOf_7cf53, Cond.code yJ0_indexOf_7cf53 cJ0_indexOf_7cf53 3 (some .int), Cond.fieldLink RJ0 9 "java/lang/String" "value" "[B", Cond.methodLink RJ0 492 yJ0_isLatin1_aae02, Cond.instanceMethod yJ0_isLatin1_aae02, Cond.selects RJ0 yJ0_isLatin1_aae02 yJ0_isLatin1_aae02, Cond.code yJ0_isLatin1_aae02 cJ0_isLatin1_aae02 1 (some .boolean), Cond.fieldLink RJ0 38 "java/lang/String" "COMPACT_STRINGS" "Z", Cond.fieldLink RJ0 15 "java/lang/String" "coder" "B", Cond.methodLink RJ0 505 yJ0_length_8abf5, Cond.instanceMethod yJ0_length_8abf5, Cond.selects RJ0 yJ0_length_8abf5 yJ0_length_8abf5, Cond.code yJ0_length_8abf5 cJ0_length_8abf5 1 (some .int)]
def wsL_law_r20 : List Cond := [Cond.methodLink RJ0 335 yJ0_coder_7d493, Cond.instanceMethod yJ0_coder_7d493, Cond.selects RJ0 yJ0_coder_7d493 yJ0_coder_7d493, Cond.code yJ0_coder_7d493 cJ0_coder_7d493 1 (some .byte), Cond.methodLink RJ0 637 yJ1_indexOf_4cfef, Cond.static yJ1_indexOf_4cfef, Cond.initialized RJ1, Cond.code yJ1_indexOf_4cfef cJ1_indexOf_4cfef 4 (some .int), Cond.methodLink RJ1 92 Lib.Math.max.name, Cond.methodLink RJ1 38 Lib.Math.min.name, Cond.static Lib.Math.min.name, Cond.code Lib.Math.min.name Lib.Math.min.code 2 (some .int), Cond.methodLink RJ1 88 yJ1_canEncode_9a6ad, Cond.static yJ1_canEncode_9a6ad, Cond.code yJ1_canEncode_9a6ad cJ1_canEncode_9a6ad 1 (some .boolean), Cond.methodLink RJ1 95 yJ1_indexOfChar_4cfef, Cond.static yJ1_indexOfChar_4cfef, Cond.code yJ1_indexOfChar_4cfef cJ1_indexOfChar_4cfef 6 (some .int), Cond.methodLink RJ0 640 yJ2_indexOf_4cfef, Cond.static yJ2_indexOf_4cfef, Cond.initialized RJ2, Cond.code yJ2_indexOf_4cfef cJ2_indexOf_4cfef 4 (some .int), Cond.methodLink RJ2 224 Lib.Math.max.name, Cond.methodLink RJ2 183 Lib.Math.min.name]
def wsL_law_r21 : List Cond := [Cond.constant RJ2 227 (65536), Cond.methodLink RJ2 228 yJ2_indexOfChar_4cfef, Cond.static yJ2_indexOfChar_4cfef, Cond.code yJ2_indexOfChar_4cfef cJ2_indexOfChar_4cfef 4 (some .int), Cond.methodLink RJ2 96 yJ2_checkBoundsBeginEnd_d044e, Cond.static yJ2_checkBoundsBeginEnd_d044e, Cond.code yJ2_checkBoundsBeginEnd_d044e cJ2_checkBoundsBeginEnd_d044e 3 none, Cond.methodLink RJ2 48 yJ2_length_9d52b, Cond.static yJ2_length_9d52b, Cond.code yJ2_length_9d52b cJ2_length_9d52b 1 (some .int), Cond.methodLink RJ2 241 yJ0_checkBoundsBeginEnd_23922, Cond.static yJ0_checkBoundsBeginEnd_23922, Cond.code yJ0_checkBoundsBeginEnd_23922 cJ0_checkBoundsBeginEnd_23922 3 none, Cond.fieldLink RJ0 1053 "jdk/internal/util/Preconditions" "SIOOBE_FORMATTER" "Ljava/util/function/BiFunction;", Cond.methodLink RJ0 1062 yJ3_checkFromToIndex_8c36e, Cond.static yJ3_checkFromToIndex_8c36e, Cond.initialized RJ3, Cond.code yJ3_checkFromToIndex_8c36e cJ3_checkFromToIndex_8c36e 4 (some .int), Cond.methodLink RJ2 244 yJ2_indexOfCharUnsafe_4cfef, Cond.static yJ2_indexOfCharUnsafe_4cfef, Cond.code yJ2_indexOfCharUnsafe_4cfef cJ2_indexOfCharUnsafe_4cfef 5 (some .int), Cond.methodLink RJ2 71 yJ2_getChar_3b067, Cond.static yJ2_getChar_3b067, Cond.code yJ2_getChar_3b067 cJ2_getChar_3b067 2 (some .char)]
def wsL_law_r22 : List Cond := [Cond.fieldLink RJ2 44 "java/lang/StringUTF16" "$assertionsDisabled" "Z", Cond.fieldLink RJ2 59 "java/lang/StringUTF16" "HI_BYTE_SHIFT" "I", Cond.fieldLink RJ2 63 "java/lang/StringUTF16" "LO_BYTE_SHIFT" "I", Cond.methodLink RJ2 232 yJ2_indexOfSupplementary_4cfef, Cond.static yJ2_indexOfSupplementary_4cfef, Cond.code yJ2_indexOfSupplementary_4cfef cJ2_indexOfSupplementary_4cfef 7 (some .int), Cond.methodLink RJ2 164 yJ11_isValidCodePoint_9a6ad, Cond.static yJ11_isValidCodePoint_9a6ad, Cond.initialized RJ11, Cond.code yJ11_isValidCodePoint_9a6ad cJ11_isValidCodePoint_9a6ad 2 (some .boolean), Cond.methodLink RJ2 157 yJ11_highSurrogate_5068e, Cond.static yJ11_highSurrogate_5068e, Cond.code yJ11_highSurrogate_5068e cJ11_highSurrogate_5068e 1 (some .char), Cond.constant RJ11 110 (55232), Cond.methodLink RJ2 161 yJ11_lowSurrogate_5068e, Cond.static yJ11_lowSurrogate_5068e, Cond.code yJ11_lowSurrogate_5068e cJ11_lowSurrogate_5068e 1 (some .char), Cond.constant RJ11 76 (56320), Cond.methodLink RX4 75 yX4_readDenied, Cond.instanceMethod yX4_readDenied, Cond.selects RX4 yX4_readDenied yX4_readDenied, Cond.methodLink RX4 78 yX4_readEnclosed, Cond.instanceMethod yX4_readEnclosed, Cond.selects RX4 yX4_readEnclosed yX4_readEnclosed]
def wsL_law_r23 : List Cond := [Cond.methodLink RX11 201 yX6_copyFrom, Cond.instanceMethod yX6_copyFrom, Cond.selects RX6 yX6_copyFrom yX6_copyFrom, Cond.code yX6_copyFrom cX6_copyFrom 2 none, Cond.methodLink RX6 23 Lib.Math.min.name, Cond.methodLink RX6 26 arraycopyName, Cond.native arraycopyName, Cond.static arraycopyName, Cond.initialized "java/lang/System", Cond.methodLink RL 67 yX12_text, Cond.instanceMethod yX12_text, Cond.selects RX12 yX12_text yX12_text, Cond.code yX12_text cX12_text 5 (some .int), Cond.fieldLink RX12 137 "GorgeRocksModel" "use" "I", Cond.fieldLink RX12 133 "GorgeRocksModel" "at" "I", Cond.fieldLink RX12 166 "GorgeRocksModel" "open" "I", Cond.fieldLink RX12 140 "GorgeRocksModel" "steps" "I", Cond.methodLink RX12 175 yX12_whole, Cond.instanceMethod yX12_whole, Cond.selects RX12 yX12_whole yX12_whole, Cond.code yX12_whole cX12_whole 1 (some .boolean), Cond.methodLink RX12 143 yX12_both, Cond.instanceMethod yX12_both, Cond.selects RX12 yX12_both yX12_both]
def wsL_law_r24 : List Cond := [Cond.methodLink RX12 147 yX12_look, Cond.instanceMethod yX12_look, Cond.selects RX12 yX12_look yX12_look, Cond.code yX12_look cX12_look 1 (some .int), Cond.methodLink RX12 150 yX12_lays, Cond.instanceMethod yX12_lays, Cond.selects RX12 yX12_lays yX12_lays, Cond.code yX12_lays cX12_lays 3 none, Cond.code yX12_both cX12_both 1 (some .boolean), Cond.methodLink RX12 154 yX12_compared, Cond.instanceMethod yX12_compared, Cond.selects RX12 yX12_compared yX12_compared, Cond.code yX12_compared cX12_compared 2 (some .boolean), Cond.methodLink RX12 157 yX12_sum, Cond.instanceMethod yX12_sum, Cond.selects RX12 yX12_sum yX12_sum, Cond.code yX12_one cX12_one 4 (some .boolean), Cond.methodLink RX12 169 yX12_isName, Cond.instanceMethod yX12_isName, Cond.selects RX12 yX12_isName yX12_isName, Cond.code yX12_isName cX12_isName 2 (some .boolean), Cond.methodLink RX12 172 yX12_opens, Cond.instanceMethod yX12_opens, Cond.selects RX12 yX12_opens yX12_opens]
def wsL_law_r25 : List Cond := [Cond.code yX12_opens cX12_opens 1 (some .boolean), Cond.methodLink RX12 163 yX12_one, Cond.instanceMethod yX12_one, Cond.selects RX12 yX12_one yX12_one, Cond.code yX12_product cX12_product 2 (some .boolean), Cond.code yX12_sum cX12_sum 2 (some .boolean), Cond.methodLink RX12 160 yX12_product, Cond.instanceMethod yX12_product, Cond.selects RX12 yX12_product yX12_product, Cond.methodLink RL 68 yX11_untell, Cond.instanceMethod yX11_untell, Cond.selects RX11 yX11_untell yX11_untell, Cond.code yX11_untell cX11_untell 3 (some .int), Cond.methodLink RX11 205 yX9_isThere, Cond.instanceMethod yX9_isThere, Cond.selects RX9 yX9_isThere yX9_isThere, Cond.code yX9_isThere cX9_isThere 1 (some .boolean), Cond.fieldLink RX9 24 "GorgeRocks$Row" "size" "I", Cond.methodLink RL 71 yX12_untell, Cond.instanceMethod yX12_untell, Cond.selects RX12 yX12_untell yX12_untell, Cond.code yX12_untell cX12_untell 3 (some .int), Cond.methodLink RX12 64 yX12_hasText, Cond.instanceMethod yX12_hasText]
def wsL_law_r26 : List Cond := [Cond.selects RX12 yX12_hasText yX12_hasText, Cond.code yX12_hasText cX12_hasText 2 (some .boolean), Cond.methodLink RL 72 yX11_heard, Cond.instanceMethod yX11_heard, Cond.selects RX11 yX11_heard yX11_heard, Cond.code yX11_heard cX11_heard 4 (some .int), Cond.methodLink RX11 209 yX10_readWay, Cond.instanceMethod yX10_readWay, Cond.selects RX10 yX10_readWay yX10_readWay, Cond.code yX10_readWay cX10_readWay 5 (some .boolean), Cond.fieldLink RX10 94 "GorgeRocks$Row" "size" "I", Cond.methodLink RX10 91 yX6_clear, Cond.methodLink RX10 97 yX6_add, Cond.methodLink RX11 213 yX10_hear, Cond.instanceMethod yX10_hear, Cond.selects RX10 yX10_hear yX10_hear, Cond.code yX10_hear cX10_hear 5 none, Cond.fieldLink RX10 128 "GorgeRocks$Row" "items" "[I", Cond.methodLink RX10 77 yX6_copyFrom, Cond.methodLink RX10 139 yX10_sendBack, Cond.instanceMethod yX10_sendBack, Cond.selects RX10 yX10_sendBack yX10_sendBack, Cond.code yX10_sendBack cX10_sendBack 3 none, Cond.fieldLink RX10 101 "GorgeRocks$Rock" "kind" "I"]
def wsL_law_r27 : List Cond := [Cond.fieldLink RX10 114 "GorgeRocks$Rock" "m" "I", Cond.methodLink RX10 104 yX6_sayNay, Cond.instanceMethod yX6_sayNay, Cond.selects RX6 yX6_sayNay yX6_sayNay, Cond.code yX6_sayNay cX6_sayNay 4 none, Cond.static yX11_isNumber, Cond.code yX11_isNumber cX11_isNumber 1 (some .boolean), Cond.methodLink RX10 108 yX6_turnNumbers, Cond.instanceMethod yX6_turnNumbers, Cond.selects RX6 yX6_turnNumbers yX6_turnNumbers, Cond.code yX6_turnNumbers cX6_turnNumbers 2 none, Cond.methodLink RX10 111 yX6_turnRound, Cond.instanceMethod yX6_turnRound, Cond.selects RX6 yX6_turnRound yX6_turnRound, Cond.code yX6_turnRound cX6_turnRound 4 none, Cond.methodLink RX10 117 yX6_leaveOutEach, Cond.instanceMethod yX6_leaveOutEach, Cond.selects RX6 yX6_leaveOutEach yX6_leaveOutEach, Cond.code yX6_leaveOutEach cX6_leaveOutEach 5 none, Cond.methodLink RX10 120 yX10_turnByText, Cond.instanceMethod yX10_turnByText, Cond.selects RX10 yX10_turnByText yX10_turnByText, Cond.code yX10_turnByText cX10_turnByText 5 none, Cond.methodLink RX10 124 yX9_isThere]
def wsL_law_r28 : List Cond := [Cond.methodLink RX10 131 yX9_workOut, Cond.instanceMethod yX9_workOut, Cond.selects RX9 yX9_workOut yX9_workOut, Cond.code yX9_workOut cX9_workOut 5 (some .int), Cond.fieldLink RX9 28 "GorgeRocks$Row" "items" "[I", Cond.methodLink RX9 31 yX9_nameOf, Cond.static yX9_nameOf, Cond.code yX9_nameOf cX9_nameOf 2 (some .int), Cond.methodLink RX9 35 yX9_join, Cond.static yX9_join, Cond.code yX9_join cX9_join 3 (some .int), Cond.methodLink RL 75 yX12_heard, Cond.instanceMethod yX12_heard, Cond.selects RX12 yX12_heard yX12_heard, Cond.code yX12_heard cX12_heard 4 (some .int), Cond.methodLink RX12 182 yX12_isWay, Cond.instanceMethod yX12_isWay, Cond.selects RX12 yX12_isWay yX12_isWay, Cond.code yX12_isWay cX12_isWay 4 (some .boolean), Cond.methodLink RX12 185 yX12_hears, Cond.instanceMethod yX12_hears, Cond.selects RX12 yX12_hears yX12_hears, Cond.code yX12_hears cX12_hears 4 none, Cond.methodLink RX12 109 yX12_goesOver]
def wsL_law_r29 : List Cond := [Cond.instanceMethod yX12_goesOver, Cond.selects RX12 yX12_goesOver yX12_goesOver, Cond.code yX12_goesOver cX12_goesOver 5 none, Cond.methodLink RX12 96 yX12_size, Cond.static yX12_size, Cond.code yX12_size cX12_size 3 (some .int), Cond.methodLink RX12 99 yX12_rockOf, Cond.static yX12_rockOf, Cond.code yX12_rockOf cX12_rockOf 4 (some .int), Cond.methodLink RX12 102 yX12_sends, Cond.instanceMethod yX12_sends, Cond.selects RX12 yX12_sends yX12_sends, Cond.code yX12_sends cX12_sends 4 none, Cond.methodLink RX12 78 yX12_denies, Cond.static yX12_denies, Cond.code yX12_denies cX12_denies 4 none, Cond.methodLink RX12 82 yX12_turns, Cond.instanceMethod yX12_turns, Cond.selects RX12 yX12_turns yX12_turns, Cond.code yX12_turns cX12_turns 5 none, Cond.methodLink RX12 86 yX12_swallows, Cond.instanceMethod yX12_swallows, Cond.selects RX12 yX12_swallows yX12_swallows, Cond.code yX12_swallows cX12_swallows 5 none]
def wsL_law_r30 : List Cond := [Cond.methodLink RX12 90 yX12_asTold, Cond.instanceMethod yX12_asTold, Cond.selects RX12 yX12_asTold yX12_asTold, Cond.code yX12_asTold cX12_asTold 5 none, Cond.methodLink RX12 68 yX12_worked, Cond.instanceMethod yX12_worked, Cond.selects RX12 yX12_worked yX12_worked, Cond.code yX12_worked cX12_worked 7 (some .int), Cond.methodLink RX12 178 yX12_joined, Cond.static yX12_joined, Cond.code yX12_joined cX12_joined 3 (some .int), Cond.methodLink RL 76 yX11_self, Cond.instanceMethod yX11_self, Cond.selects RX11 yX11_self yX11_self, Cond.code yX11_self cX11_self 3 (some .int), Cond.methodLink RX11 217 yX6_isLike, Cond.instanceMethod yX6_isLike, Cond.selects RX6 yX6_isLike yX6_isLike, Cond.code yX6_isLike cX6_isLike 2 (some .boolean), Cond.methodLink RX6 32 yX6_firstUnlike, Cond.instanceMethod yX6_firstUnlike, Cond.selects RX6 yX6_firstUnlike yX6_firstUnlike, Cond.code yX6_firstUnlike cX6_firstUnlike 4 (some .int), Cond.methodLink RL 79 yX12_self]
def wsL_law_r31 : List Cond := [Cond.instanceMethod yX12_self, Cond.selects RX12 yX12_self yX12_self, Cond.code yX12_self cX12_self 3 (some .int), Cond.methodLink RX12 189 yX12_areAlike, Cond.static yX12_areAlike, Cond.code yX12_areAlike cX12_areAlike 4 (some .boolean), Cond.methodLink RL 80 yX11_takes, Cond.instanceMethod yX11_takes, Cond.selects RX11 yX11_takes yX11_takes, Cond.code yX11_takes cX11_takes 4 (some .int), Cond.methodLink RL 83 yX12_takes, Cond.instanceMethod yX12_takes, Cond.selects RX12 yX12_takes yX12_takes, Cond.code yX12_takes cX12_takes 4 (some .int), Cond.methodLink RL 84 yX11_echo, Cond.instanceMethod yX11_echo, Cond.selects RX11 yX11_echo yX11_echo, Cond.code yX11_echo cX11_echo 4 (some .int), Cond.methodLink RL 87 yX12_echo, Cond.instanceMethod yX12_echo, Cond.selects RX12 yX12_echo yX12_echo, Cond.code yX12_echo cX12_echo 4 (some .int), Cond.methodLink RX12 193 yX12_lay, Cond.instanceMethod yX12_lay]
def wsL_law_r32 : List Cond := [Cond.selects RX12 yX12_lay yX12_lay, Cond.code yX12_lay cX12_lay 4 none, Cond.methodLink RL 88 yX11_which, Cond.instanceMethod yX11_which, Cond.selects RX11 yX11_which yX11_which, Cond.code yX11_which cX11_which 3 (some .int), Cond.methodLink RX11 224 yX11_rocksThatMake, Cond.instanceMethod yX11_rocksThatMake, Cond.selects RX11 yX11_rocksThatMake yX11_rocksThatMake, Cond.code yX11_rocksThatMake cX11_rocksThatMake 5 (some .int), Cond.methodLink RX11 235 yX10_sendBack, Cond.methodLink RL 91 yX12_which, Cond.instanceMethod yX12_which, Cond.selects RX12 yX12_which yX12_which, Cond.code yX12_which cX12_which 5 (some .int), Cond.methodLink RX12 196 yX12_comesBy, Cond.instanceMethod yX12_comesBy, Cond.selects RX12 yX12_comesBy yX12_comesBy, Cond.code yX12_comesBy cX12_comesBy 4 (some .int), Cond.methodLink RL 92 yX11_ways, Cond.instanceMethod yX11_ways, Cond.selects RX11 yX11_ways yX11_ways, Cond.code yX11_ways cX11_ways 4 (some .int), Cond.methodLink RX11 228 yX11_waysTo]
def wsL_law_r33 : List Cond := [Cond.instanceMethod yX11_waysTo, Cond.selects RX11 yX11_waysTo yX11_waysTo, Cond.code yX11_waysTo cX11_waysTo 7 (some .int), Cond.methodLink RL 95 yX12_ways, Cond.instanceMethod yX12_ways, Cond.selects RX12 yX12_ways yX12_ways, Cond.code yX12_ways cX12_ways 7 (some .int), Cond.methodLink RL 96 yX11_need, Cond.instanceMethod yX11_need, Cond.selects RX11 yX11_need yX11_need, Cond.code yX11_need cX11_need 6 (some .int), Cond.methodLink RX11 232 yX5_canBeUndone, Cond.instanceMethod yX5_canBeUndone, Cond.selects RX5 yX5_canBeUndone yX5_canBeUndone, Cond.code yX5_canBeUndone cX5_canBeUndone 1 (some .boolean), Cond.methodLink RL 99 yX12_need, Cond.instanceMethod yX12_need, Cond.selects RX12 yX12_need yX12_need, Cond.code yX12_need cX12_need 4 (some .int), Cond.methodLink RX12 200 yX12_canUndo, Cond.instanceMethod yX12_canUndo, Cond.selects RX12 yX12_canUndo yX12_canUndo, Cond.code yX12_canUndo cX12_canUndo 5 (some .boolean), Cond.methodLink RX12 203 yX12_needs]
def wsL_law_r34 : List Cond := [Cond.instanceMethod yX12_needs, Cond.selects RX12 yX12_needs yX12_needs, Cond.code yX12_needs cX12_needs 5 none, Cond.methodLink RL 100 yX11_meant, Cond.instanceMethod yX11_meant, Cond.selects RX11 yX11_meant yX11_meant, Cond.code yX11_meant cX11_meant 3 (some .int), Cond.fieldLink RX11 243 "GorgeRocks$Meanings" "size" "I", Cond.methodLink RX11 239 yX3_gather, Cond.instanceMethod yX3_gather, Cond.selects RX3 yX3_gather yX3_gather, Cond.code yX3_gather cX3_gather 7 none, Cond.methodLink RX3 28 yX3_addIfUnlike, Cond.instanceMethod yX3_addIfUnlike, Cond.selects RX3 yX3_addIfUnlike yX3_addIfUnlike, Cond.code yX3_addIfUnlike cX3_addIfUnlike 3 none, Cond.methodLink RX3 58 yX6_isLike, Cond.methodLink RX3 51 yX6_copyFrom, Cond.methodLink RX3 32 yX3_addUndone, Cond.instanceMethod yX3_addUndone, Cond.selects RX3 yX3_addUndone yX3_addUndone, Cond.code yX3_addUndone cX3_addUndone 4 none, Cond.fieldLink RX3 36 "GorgeRocks$World" "rockCount" "I", Cond.fieldLink RX3 41 "GorgeRocks$World" "rocks" "[LGorgeRocks$Rock;"]
def wsL_law_r35 : List Cond := [Cond.methodLink RX3 45 yX5_canBeUndone, Cond.methodLink RX3 54 yX10_sendBack, Cond.methodLink RL 103 yX12_meant, Cond.instanceMethod yX12_meant, Cond.selects RX12 yX12_meant yX12_meant, Cond.code yX12_meant cX12_meant 3 (some .int), Cond.fieldLink RX12 206 "GorgeRocksModel" "many" "I", Cond.methodLink RX12 209 yX12_findMeant, Cond.instanceMethod yX12_findMeant, Cond.selects RX12 yX12_findMeant yX12_findMeant, Cond.code yX12_findMeant cX12_findMeant 9 none, Cond.methodLink RL 104 yX11_place, Cond.instanceMethod yX11_place, Cond.selects RX11 yX11_place yX11_place, Cond.code yX11_place cX11_place 5 (some .int), Cond.methodLink RX11 244 yX3_placeOfMost, Cond.instanceMethod yX3_placeOfMost, Cond.selects RX3 yX3_placeOfMost yX3_placeOfMost, Cond.code yX3_placeOfMost cX3_placeOfMost 5 (some .int), Cond.methodLink RX3 73 yX3_unlikeAt, Cond.instanceMethod yX3_unlikeAt, Cond.selects RX3 yX3_unlikeAt yX3_unlikeAt, Cond.code yX3_unlikeAt cX3_unlikeAt 8 (some .int), Cond.fieldLink RX3 62 "GorgeRocks$Row" "size" "I"]
def wsL_law_r36 : List Cond := [Cond.fieldLink RX3 63 "GorgeRocks$Row" "items" "[I", Cond.methodLink RX3 67 yJ13_bitCount_95d88, Cond.static yJ13_bitCount_95d88, Cond.initialized RJ13, Cond.code yJ13_bitCount_95d88 cJ13_bitCount_95d88 2 (some .int), Cond.constantLong RJ13 314 (6148914691236517205), Cond.constantLong RJ13 316 (3689348814741910323), Cond.constantLong RJ13 318 (1085102592571150095), Cond.methodLink RX11 247 yX3_unlikeAt, Cond.methodLink RL 107 yX12_place, Cond.instanceMethod yX12_place, Cond.selects RX12 yX12_place yX12_place, Cond.code yX12_place cX12_place 6 (some .int), Cond.methodLink RX12 212 yX12_unlikeIn, Cond.instanceMethod yX12_unlikeIn, Cond.selects RX12 yX12_unlikeIn yX12_unlikeIn, Cond.code yX12_unlikeIn cX12_unlikeIn 6 (some .int), Cond.methodLink RL 108 yX11_safe, Cond.instanceMethod yX11_safe, Cond.selects RX11 yX11_safe yX11_safe, Cond.code yX11_safe cX11_safe 4 (some .int), Cond.methodLink RL 111 yX12_safe, Cond.instanceMethod yX12_safe, Cond.selects RX12 yX12_safe yX12_safe]
def wsL_law_r37 : List Cond := [Cond.code yX12_safe cX12_safe 5 (some .int), Cond.methodLink RX12 215 yX12_which, Cond.methodLink RL 112 yX11_part, Cond.instanceMethod yX11_part, Cond.selects RX11 yX11_part yX11_part, Cond.code yX11_part cX11_part 5 (some .int), Cond.methodLink RX11 250 yX6_firstUnlike, Cond.methodLink RL 115 yX12_part, Cond.instanceMethod yX12_part, Cond.selects RX12 yX12_part yX12_part, Cond.code yX12_part cX12_part 5 (some .int), Cond.methodLink RL 116 yX11_reads, Cond.instanceMethod yX11_reads, Cond.selects RX11 yX11_reads yX11_reads, Cond.code yX11_reads cX11_reads 3 (some .int), Cond.methodLink RX11 254 yX1_faultOf, Cond.instanceMethod yX1_faultOf, Cond.selects RX1 yX1_faultOf yX1_faultOf, Cond.code yX1_faultOf cX1_faultOf 8 (some .int), Cond.fieldLink RX1 27 "GorgeRocks$Row" "size" "I", Cond.fieldLink RX1 30 "GorgeRocks$Row" "items" "[I", Cond.methodLink RL 119 yX12_reads, Cond.instanceMethod yX12_reads, Cond.selects RX12 yX12_reads yX12_reads]
def wsL_law_r38 : List Cond := [Cond.code yX12_reads cX12_reads 3 (some .int), Cond.fieldLink RX12 224 "GorgeRocksModel" "isWrong" "Z", Cond.fieldLink RX12 218 "GorgeRocksModel" "from" "I", Cond.methodLink RX12 234 yX12_saying, Cond.instanceMethod yX12_saying, Cond.selects RX12 yX12_saying yX12_saying, Cond.code yX12_saying cX12_saying 5 (some .boolean), Cond.methodLink RX12 228 yX12_term, Cond.instanceMethod yX12_term, Cond.selects RX12 yX12_term yX12_term, Cond.code yX12_term cX12_term 4 (some .boolean), Cond.methodLink RX12 221 yX12_soundAt, Cond.instanceMethod yX12_soundAt, Cond.selects RX12 yX12_soundAt yX12_soundAt, Cond.code yX12_soundAt cX12_soundAt 2 (some .int), Cond.methodLink RX12 231 yX12_isSo, Cond.instanceMethod yX12_isSo, Cond.selects RX12 yX12_isSo yX12_isSo, Cond.code yX12_isSo cX12_isSo 2 (some .boolean), Cond.methodLink RL 120 yX11_so, Cond.instanceMethod yX11_so, Cond.selects RX11 yX11_so yX11_so, Cond.code yX11_so cX11_so 3 (some .int), Cond.constant RX11 256 (1048575)]
def wsL_law_r39 : List Cond := [Cond.fieldLink RX11 257 "GorgeRocks$World" "truth" "I", Cond.methodLink RL 123 yX12_so, Cond.instanceMethod yX12_so, Cond.selects RX12 yX12_so yX12_so, Cond.code yX12_so cX12_so 3 (some .int), Cond.constant RX12 237 (1048575), Cond.methodLink RL 124 yX11_says, Cond.instanceMethod yX11_says, Cond.selects RX11 yX11_says yX11_says, Cond.code yX11_says cX11_says 3 (some .int), Cond.methodLink RX11 260 yX1_isSo, Cond.instanceMethod yX1_isSo, Cond.selects RX1 yX1_isSo yX1_isSo, Cond.code yX1_isSo cX1_isSo 8 (some .boolean), Cond.methodLink RX1 38 yX1_isTermSo, Cond.instanceMethod yX1_isTermSo, Cond.selects RX1 yX1_isTermSo yX1_isTermSo, Cond.code yX1_isTermSo cX1_isTermSo 5 (some .boolean), Cond.methodLink RX1 41 yX1_next, Cond.instanceMethod yX1_next, Cond.selects RX1 yX1_next yX1_next, Cond.code yX1_next cX1_next 1 (some .int), Cond.methodLink RX1 45 yX1_sumBehind, Cond.instanceMethod yX1_sumBehind]
def wsL_law_r40 : List Cond := [Cond.selects RX1 yX1_sumBehind yX1_sumBehind, Cond.code yX1_sumBehind cX1_sumBehind 3 (some .int), Cond.methodLink RX1 48 yX1_isWordSo, Cond.instanceMethod yX1_isWordSo, Cond.selects RX1 yX1_isWordSo yX1_isWordSo, Cond.code yX1_isWordSo cX1_isWordSo 3 (some .boolean), Cond.methodLink RL 127 yX12_says, Cond.instanceMethod yX12_says, Cond.selects RX12 yX12_says yX12_says, Cond.code yX12_says cX12_says 4 (some .int), Cond.methodLink RL 128 yX11_shout, Cond.instanceMethod yX11_shout, Cond.selects RX11 yX11_shout yX11_shout, Cond.code yX11_shout cX11_shout 4 (some .int), Cond.fieldLink RX11 264 "GorgeRocks$World" "echoTimes" "LGorgeRocks$Row;", Cond.fieldLink RX11 267 "GorgeRocks$World" "now" "I", Cond.methodLink RX11 270 yX10_logEcho, Cond.instanceMethod yX10_logEcho, Cond.selects RX10 yX10_logEcho yX10_logEcho, Cond.code yX10_logEcho cX10_logEcho 4 none, Cond.methodLink RX10 143 yX2_newRow, Cond.instanceMethod yX2_newRow, Cond.selects RX2 yX2_newRow yX2_newRow, Cond.code yX2_newRow cX2_newRow 1 (some (.object "GorgeRocks$Row"))]
def wsL_law_r41 : List Cond := [Cond.methodLink RX2 27 Lib.Math.min.name, Cond.methodLink RX11 273 yX10_addEcho, Cond.instanceMethod yX10_addEcho, Cond.selects RX10 yX10_addEcho yX10_addEcho, Cond.code yX10_addEcho cX10_addEcho 4 none, Cond.methodLink RL 131 yX12_shout, Cond.instanceMethod yX12_shout, Cond.selects RX12 yX12_shout yX12_shout, Cond.code yX12_shout cX12_shout 5 (some .int), Cond.methodLink RX12 242 yX12_comes, Cond.instanceMethod yX12_comes, Cond.selects RX12 yX12_comes yX12_comes, Cond.code yX12_comes cX12_comes 5 none, Cond.methodLink RX12 238 yX12_logs, Cond.instanceMethod yX12_logs, Cond.selects RX12 yX12_logs yX12_logs, Cond.code yX12_logs cX12_logs 3 none, Cond.methodLink RL 132 yX11_seconds, Cond.instanceMethod yX11_seconds, Cond.selects RX11 yX11_seconds yX11_seconds, Cond.code yX11_seconds cX11_seconds 3 (some .int), Cond.methodLink RX11 277 yX10_letSecondGoBy, Cond.instanceMethod yX10_letSecondGoBy, Cond.selects RX10 yX10_letSecondGoBy yX10_letSecondGoBy]
def wsL_law_r42 : List Cond := [Cond.code yX10_letSecondGoBy cX10_letSecondGoBy 3 none, Cond.methodLink RX10 147 yX10_logEcho, Cond.methodLink RX10 151 yX10_addEcho, Cond.methodLink RL 135 yX12_seconds, Cond.instanceMethod yX12_seconds, Cond.selects RX12 yX12_seconds yX12_seconds, Cond.code yX12_seconds cX12_seconds 3 (some .int), Cond.methodLink RL 136 yX11_log, Cond.instanceMethod yX11_log, Cond.selects RX11 yX11_log yX11_log, Cond.code yX11_log cX11_log 4 (some .int), Cond.fieldLink RX11 280 "GorgeRocks$World" "journal" "LGorgeRocks$Journal;", Cond.methodLink RX11 284 yX2_rowAhead, Cond.instanceMethod yX2_rowAhead, Cond.selects RX2 yX2_rowAhead yX2_rowAhead, Cond.code yX2_rowAhead cX2_rowAhead 2 (some (.object "GorgeRocks$Row")), Cond.methodLink RL 139 yX12_log, Cond.instanceMethod yX12_log, Cond.selects RX12 yX12_log yX12_log, Cond.code yX12_log cX12_log 3 (some .int), Cond.methodLink RL 140 yX11_bargain, Cond.instanceMethod yX11_bargain, Cond.selects RX11 yX11_bargain yX11_bargain, Cond.code yX11_bargain cX11_bargain 7 (some .int)]
def wsL_law_r43 : List Cond := [Cond.fieldLink RX11 297 "GorgeRocks$Deal" "sellerOffer" "I", Cond.fieldLink RX11 300 "GorgeRocks$Deal" "buyerOffer" "I", Cond.fieldLink RX11 303 "GorgeRocks$Deal" "closedAt" "I", Cond.fieldLink RX11 306 "GorgeRocks$Deal" "oddAt" "I", Cond.methodLink RX11 290 yX0_begin, Cond.instanceMethod yX0_begin, Cond.selects RX0 yX0_begin yX0_begin, Cond.code yX0_begin cX0_begin 3 none, Cond.methodLink RX11 293 yX0_goOn, Cond.instanceMethod yX0_goOn, Cond.selects RX0 yX0_goOn yX0_goOn, Cond.code yX0_goOn cX0_goOn 8 none, Cond.methodLink RX0 42 yX0_numberHeard, Cond.instanceMethod yX0_numberHeard, Cond.selects RX0 yX0_numberHeard yX0_numberHeard, Cond.code yX0_numberHeard cX0_numberHeard 5 (some .int), Cond.fieldLink RX0 63 "GorgeRocks$Row" "size" "I", Cond.fieldLink RX0 66 "GorgeRocks$Row" "items" "[I", Cond.methodLink RX0 52 yX6_clear, Cond.methodLink RX0 55 yX6_add, Cond.methodLink RX0 59 yX10_hear, Cond.methodLink RX0 46 yX10_nextOffer, Cond.instanceMethod yX10_nextOffer, Cond.selects RX10 yX10_nextOffer yX10_nextOffer]
def wsL_law_r44 : List Cond := [Cond.code yX10_nextOffer cX10_nextOffer 7 (some .int), Cond.methodLink RX10 155 Lib.Math.min.name, Cond.methodLink RX10 161 Lib.Math.max.name, Cond.methodLink RL 144 yX12_bargain, Cond.instanceMethod yX12_bargain, Cond.selects RX12 yX12_bargain yX12_bargain, Cond.code yX12_bargain cX12_bargain 17 (some .int), Cond.methodLink RX12 248 yX12_hearsOf, Cond.instanceMethod yX12_hearsOf, Cond.selects RX12 yX12_hearsOf yX12_hearsOf, Cond.code yX12_hearsOf cX12_hearsOf 4 (some .int), Cond.methodLink RX12 251 yX12_offers, Cond.instanceMethod yX12_offers, Cond.selects RX12 yX12_offers yX12_offers, Cond.code yX12_offers cX12_offers 5 (some .int), Cond.methodLink RX12 245 yX12_held, Cond.static yX12_held, Cond.code yX12_held cX12_held 3 (some .int), Cond.methodLink RL 145 yX11_seed, Cond.instanceMethod yX11_seed, Cond.selects RX11 yX11_seed yX11_seed, Cond.code yX11_seed cX11_seed 3 (some .int), Cond.fieldLink RX11 309 "GorgeRocks$World" "z" "I", Cond.methodLink RL 148 yX12_seed]
def wsL_law_r45 : List Cond := [Cond.instanceMethod yX12_seed, Cond.selects RX12 yX12_seed yX12_seed, Cond.code yX12_seed cX12_seed 3 (some .int), Cond.methodLink RL 149 yX11_voice, Cond.instanceMethod yX11_voice, Cond.selects RX11 yX11_voice yX11_voice, Cond.code yX11_voice cX11_voice 6 (some .int), Cond.fieldLink RX11 316 "GorgeRocks$Speaker" "parted" "Z", Cond.methodLink RX11 312 yX8_answer, Cond.instanceMethod yX8_answer, Cond.selects RX8 yX8_answer yX8_answer, Cond.code yX8_answer cX8_answer 5 (some .int), Cond.fieldLink RX8 34 "GorgeRocks$Rock" "kind" "I", Cond.fieldLink RX8 37 "GorgeRocks$Rock" "m" "I", Cond.methodLink RX8 38 yX6_clear, Cond.methodLink RX8 41 yX8_speak, Cond.instanceMethod yX8_speak, Cond.selects RX8 yX8_speak yX8_speak, Cond.code yX8_speak cX8_speak 9 (some .int), Cond.fieldLink RX8 49 "GorgeRocks$Speaker" "BODIES" "[I", Cond.methodLink RX8 45 yX8_ownerOfBody, Cond.static yX8_ownerOfBody, Cond.code yX8_ownerOfBody cX8_ownerOfBody 4 (some .int), Cond.methodLink RX8 53 yX6_add]
def wsL_law_r46 : List Cond := [Cond.methodLink RX8 60 yX8_waitsOfRock, Cond.instanceMethod yX8_waitsOfRock, Cond.selects RX8 yX8_waitsOfRock yX8_waitsOfRock, Cond.code yX8_waitsOfRock cX8_waitsOfRock 3 (some .int), Cond.methodLink RL 152 yX12_voice, Cond.instanceMethod yX12_voice, Cond.selects RX12 yX12_voice yX12_voice, Cond.code yX12_voice cX12_voice 6 (some .int), Cond.fieldLink RX12 255 "GorgeRocksModel" "traced" "I", Cond.fieldLink RX12 258 "GorgeRocksModel" "speaks" "I", Cond.fieldLink RX12 279 "GorgeRocksModel" "isParted" "Z", Cond.methodLink RX12 270 yX12_kindNow, Cond.instanceMethod yX12_kindNow, Cond.selects RX12 yX12_kindNow yX12_kindNow, Cond.code yX12_kindNow cX12_kindNow 1 (some .int), Cond.methodLink RX12 267 yX12_turnsBy, Cond.instanceMethod yX12_turnsBy, Cond.selects RX12 yX12_turnsBy yX12_turnsBy, Cond.code yX12_turnsBy cX12_turnsBy 3 (some .int), Cond.methodLink RX12 261 yX12_begins, Cond.instanceMethod yX12_begins, Cond.selects RX12 yX12_begins yX12_begins, Cond.code yX12_begins cX12_begins 2 none, Cond.methodLink RX12 264 yX12_above]
def wsL_law_r47 : List Cond := [Cond.static yX12_above, Cond.code yX12_above cX12_above 1 (some .int), Cond.methodLink RX12 273 yX12_sendsBy, Cond.instanceMethod yX12_sendsBy, Cond.selects RX12 yX12_sendsBy yX12_sendsBy, Cond.code yX12_sendsBy cX12_sendsBy 3 (some .int), Cond.methodLink RX12 276 yX12_keepsBy, Cond.instanceMethod yX12_keepsBy, Cond.selects RX12 yX12_keepsBy yX12_keepsBy, Cond.code yX12_keepsBy cX12_keepsBy 3 (some .int), Cond.methodLink RX12 282 yX12_waitsBy, Cond.instanceMethod yX12_waitsBy, Cond.selects RX12 yX12_waitsBy yX12_waitsBy, Cond.code yX12_waitsBy cX12_waitsBy 5 (some .int), Cond.methodLink RL 153 yX11_body, Cond.instanceMethod yX11_body, Cond.selects RX11 yX11_body yX11_body, Cond.code yX11_body cX11_body 2 (some .int), Cond.fieldLink RX11 320 "GorgeRocks$Speaker" "trace" "LGorgeRocks$Row;", Cond.methodLink RL 156 yX12_body, Cond.instanceMethod yX12_body, Cond.selects RX12 yX12_body yX12_body, Cond.code yX12_body cX12_body 2 (some .int), Cond.methodLink RL 157 yX11_sheet]
def wsL_law_r48 : List Cond := [Cond.instanceMethod yX11_sheet, Cond.selects RX11 yX11_sheet yX11_sheet, Cond.code yX11_sheet cX11_sheet 4 (some .int), Cond.methodLink RX11 323 yX11_isSheet, Cond.static yX11_isSheet, Cond.code yX11_isSheet cX11_isSheet 1 (some .boolean), Cond.methodLink RX11 326 yX7_layOut, Cond.instanceMethod yX7_layOut, Cond.selects RX7 yX7_layOut yX7_layOut, Cond.code yX7_layOut cX7_layOut 4 none, Cond.methodLink RL 160 yX12_sheet, Cond.instanceMethod yX12_sheet, Cond.selects RX12 yX12_sheet yX12_sheet, Cond.code yX12_sheet cX12_sheet 5 (some .int), Cond.methodLink RX12 285 yX12_isSheet, Cond.static yX12_isSheet, Cond.code yX12_isSheet cX12_isSheet 1 (some .boolean), Cond.methodLink RL 161 yX11_put, Cond.instanceMethod yX11_put, Cond.selects RX11 yX11_put yX11_put, Cond.code yX11_put cX11_put 5 (some .int), Cond.fieldLink RX11 332 "GorgeRocks$Sheet" "size" "I", Cond.fieldLink RX11 333 "GorgeRocks$Sheet" "numbers" "[I", Cond.methodLink RX11 329 yX7_isMissing]
def wsL_law_r49 : List Cond := [Cond.instanceMethod yX7_isMissing, Cond.selects RX7 yX7_isMissing yX7_isMissing, Cond.code yX7_isMissing cX7_isMissing 1 (some .boolean), Cond.methodLink RX11 336 yX7_lowestBits, Cond.instanceMethod yX7_lowestBits, Cond.selects RX7 yX7_lowestBits yX7_lowestBits, Cond.code yX7_lowestBits cX7_lowestBits 2 (some .int), Cond.methodLink RL 164 yX12_put, Cond.instanceMethod yX12_put, Cond.selects RX12 yX12_put yX12_put, Cond.code yX12_put cX12_put 5 (some .int), Cond.methodLink RL 165 yX11_move, Cond.instanceMethod yX11_move, Cond.selects RX11 yX11_move yX11_move, Cond.code yX11_move cX11_move 8 (some .int), Cond.fieldLink RX11 339 "GorgeRocks$Sheet" "bits" "I", Cond.methodLink RX11 345 arraycopyName, Cond.methodLink RX11 342 yX7_holds, Cond.instanceMethod yX7_holds, Cond.selects RX7 yX7_holds yX7_holds, Cond.code yX7_holds cX7_holds 3 (some .boolean), Cond.methodLink RL 168 yX12_move, Cond.instanceMethod yX12_move, Cond.selects RX12 yX12_move yX12_move]
def wsL_law_r50 : List Cond := [Cond.code yX12_move cX12_move 7 (some .int), Cond.methodLink RL 169 yX11_sounds, Cond.instanceMethod yX11_sounds, Cond.selects RX11 yX11_sounds yX11_sounds, Cond.code yX11_sounds cX11_sounds 6 (some .int), Cond.methodLink RL 172 yX12_sounds, Cond.instanceMethod yX12_sounds, Cond.selects RX12 yX12_sounds yX12_sounds, Cond.code yX12_sounds cX12_sounds 4 (some .int), Cond.methodLink RL 173 yX11_image, Cond.instanceMethod yX11_image, Cond.selects RX11 yX11_image yX11_image, Cond.code yX11_image cX11_image 1 (some .int), Cond.methodLink RX11 351 yX10_copyFrom, Cond.instanceMethod yX10_copyFrom, Cond.selects RX10 yX10_copyFrom yX10_copyFrom, Cond.code yX10_copyFrom cX10_copyFrom 3 none, Cond.fieldLink RX10 84 "GorgeRocks$Text" "code" "LGorgeRocks$Row;", Cond.methodLink RX10 81 yX5_copyFrom, Cond.instanceMethod yX5_copyFrom, Cond.selects RX5 yX5_copyFrom yX5_copyFrom, Cond.code yX5_copyFrom cX5_copyFrom 2 none, Cond.methodLink RX10 87 yX2_copyFrom, Cond.instanceMethod yX2_copyFrom]
def wsL_law_r51 : List Cond := [Cond.selects RX2 yX2_copyFrom yX2_copyFrom, Cond.code yX2_copyFrom cX2_copyFrom 3 none, Cond.methodLink RX2 33 yX6_copyFrom, Cond.methodLink RL 176 yX12_image, Cond.instanceMethod yX12_image, Cond.selects RX12 yX12_image yX12_image, Cond.code yX12_image cX12_image 1 (some .int), Cond.fieldLink RX12 292 "GorgeRocksModel" "images" "I", Cond.methodLink RX12 288 yX12_carry, Cond.static yX12_carry, Cond.code yX12_carry cX12_carry 3 none, Cond.methodLink RL 177 yX11_restore, Cond.instanceMethod yX11_restore, Cond.selects RX11 yX11_restore yX11_restore, Cond.code yX11_restore cX11_restore 1 (some .int), Cond.methodLink RL 180 yX12_restore, Cond.instanceMethod yX12_restore, Cond.selects RX12 yX12_restore yX12_restore, Cond.code yX12_restore cX12_restore 1 (some .int), Cond.methodLink RL 181 yX11_tell, Cond.instanceMethod yX11_tell, Cond.selects RX11 yX11_tell yX11_tell, Cond.code yX11_tell cX11_tell 2 (some .int), Cond.fieldLink RX11 354 "GorgeRocks$World" "waiting" "LGorgeRocks$Row;"]
def wsL_law_r52 : List Cond := [Cond.methodLink RL 184 yX12_tell, Cond.instanceMethod yX12_tell, Cond.selects RX12 yX12_tell yX12_tell, Cond.code yX12_tell cX12_tell 2 (some .int), Cond.methodLink RL 185 yX11_check, Cond.instanceMethod yX11_check, Cond.selects RX11 yX11_check yX11_check, Cond.code yX11_check cX11_check 4 (some .int), Cond.methodLink RL 188 yX12_check, Cond.instanceMethod yX12_check, Cond.selects RX12 yX12_check yX12_check, Cond.code yX12_check cX12_check 5 (some .int), Cond.methodLink RL 189 yX11_count, Cond.instanceMethod yX11_count, Cond.selects RX11 yX11_count yX11_count, Cond.code yX11_count cX11_count 2 (some .int), Cond.fieldLink RX11 357 "GorgeRocks$Journal" "size" "I", Cond.methodLink RL 192 yX12_count, Cond.instanceMethod yX12_count, Cond.selects RX12 yX12_count yX12_count, Cond.code yX12_count cX12_count 2 (some .int), Cond.methodLink RL 193 yX11_told, Cond.instanceMethod yX11_told, Cond.selects RX11 yX11_told yX11_told]
def wsL_law_r53 : List Cond := [Cond.code yX11_told cX11_told 2 (some .int), Cond.methodLink RL 196 yX12_told, Cond.instanceMethod yX12_told, Cond.selects RX12 yX12_told yX12_told, Cond.code yX12_told cX12_told 2 (some .int)]
def wsL_law : List Cond := (wsL_law_r1 ++ (wsL_law_r2 ++ (wsL_law_r3 ++ (wsL_law_r4 ++ (wsL_law_r5 ++ (wsL_law_r6 ++ (wsL_law_r7 ++ (wsL_law_r8 ++ (wsL_law_r9 ++ (wsL_law_r10 ++ (wsL_law_r11 ++ (wsL_law_r12 ++ (wsL_law_r13 ++ (wsL_law_r14 ++ (wsL_law_r15 ++ (wsL_law_r16 ++ (wsL_law_r17 ++ (wsL_law_r18 ++ (wsL_law_r19 ++ (wsL_law_r20 ++ (wsL_law_r21 ++ (wsL_law_r22 ++ (wsL_law_r23 ++ (wsL_law_r24 ++ (wsL_law_r25 ++ (wsL_law_r26 ++ (wsL_law_r27 ++ (wsL_law_r28 ++ (wsL_law_r29 ++ (wsL_law_r30 ++ (wsL_law_r31 ++ (wsL_law_r32 ++ (wsL_law_r33 ++ (wsL_law_r34 ++ (wsL_law_r35 ++ (wsL_law_r36 ++ (wsL_law_r37 ++ (wsL_law_r38 ++ (wsL_law_r39 ++ (wsL_law_r40 ++ (wsL_law_r41 ++ (wsL_law_r42 ++ (wsL_law_r43 ++ (wsL_law_r44 ++ (wsL_law_r45 ++ (wsL_law_r46 ++ (wsL_law_r47 ++ (wsL_law_r48 ++ (wsL_law_r49 ++ (wsL_law_r50 ++ (wsL_law_r51 ++ (wsL_law_r52 ++ wsL_law_r53)))))))))))))))))))))))))))))))))))))))))))))))))))) ++ wsX110 ++ wsX120 ++ wsX100 ++ wsX40 ++ wsX10 ++ wsX30 ++ wsX00 ++ wsX80 ++ wsX60 ++ wsX70 ++ wsX20 ++ wsX50 ++ wsX90 ++ ([] : List Cond)
set_option maxRecDepth 20000 in
theorem inlX0 : ∀ w ∈ wsX00, w ∈ wsL_law := fun _ h => List.mem_append_left _ (List.mem_append_left _ (List.mem_append_left _ (List.mem_append_left _ (List.mem_append_left _ (List.mem_append_left _ (List.mem_append_left _ (List.mem_append_right _ h)))))))
theorem inX0 : ∀ w ∈ wsX00, w ∈ lw_tbl := fun w h => wsL_law_in w (inlX0 w h)
theorem inlX1 : ∀ w ∈ wsX10, w ∈ wsL_law := fun _ h => List.mem_append_left _ (List.mem_append_left _ (List.mem_append_left _ (List.mem_append_left _ (List.mem_append_left _ (List.mem_append_left _ (List.mem_append_left _ (List.mem_append_left _ (List.mem_append_left _ (List.mem_append_right _ h)))))))))
theorem inX1 : ∀ w ∈ wsX10, w ∈ lw_tbl := fun w h => wsL_law_in w (inlX1 w h)
theorem inlX2 : ∀ w ∈ wsX20, w ∈ wsL_law := fun _ h => List.mem_append_left _ (List.mem_append_left _ (List.mem_append_left _ (List.mem_append_right _ h)))
theorem inX2 : ∀ w ∈ wsX20, w ∈ lw_tbl := fun w h => wsL_law_in w (inlX2 w h)
theorem inlX3 : ∀ w ∈ wsX30, w ∈ wsL_law := fun _ h => List.mem_append_left _ (List.mem_append_left _ (List.mem_append_left _ (List.mem_append_left _ (List.mem_append_left _ (List.mem_append_left _ (List.mem_append_left _ (List.mem_append_left _ (List.mem_append_right _ h))))))))
theorem inX3 : ∀ w ∈ wsX30, w ∈ lw_tbl := fun w h => wsL_law_in w (inlX3 w h)
theorem inlX4 : ∀ w ∈ wsX40, w ∈ wsL_law := fun _ h => List.mem_append_left _ (List.mem_append_left _ (List.mem_append_left _ (List.mem_append_left _ (List.mem_append_left _ (List.mem_append_left _ (List.mem_append_left _ (List.mem_append_left _ (List.mem_append_left _ (List.mem_append_left _ (List.mem_append_right _ h))))))))))
theorem inX4 : ∀ w ∈ wsX40, w ∈ lw_tbl := fun w h => wsL_law_in w (inlX4 w h)
theorem inlX5 : ∀ w ∈ wsX50, w ∈ wsL_law := fun _ h => List.mem_append_left _ (List.mem_append_left _ (List.mem_append_right _ h))
theorem inX5 : ∀ w ∈ wsX50, w ∈ lw_tbl := fun w h => wsL_law_in w (inlX5 w h)
theorem inlX6 : ∀ w ∈ wsX60, w ∈ wsL_law := fun _ h => List.mem_append_left _ (List.mem_append_left _ (List.mem_append_left _ (List.mem_append_left _ (List.mem_append_left _ (List.mem_append_right _ h)))))
theorem inX6 : ∀ w ∈ wsX60, w ∈ lw_tbl := fun w h => wsL_law_in w (inlX6 w h)
theorem inlX7 : ∀ w ∈ wsX70, w ∈ wsL_law := fun _ h => List.mem_append_left _ (List.mem_append_left _ (List.mem_append_left _ (List.mem_append_left _ (List.mem_append_right _ h))))
theorem inX7 : ∀ w ∈ wsX70, w ∈ lw_tbl := fun w h => wsL_law_in w (inlX7 w h)
theorem inlX8 : ∀ w ∈ wsX80, w ∈ wsL_law := fun _ h => List.mem_append_left _ (List.mem_append_left _ (List.mem_append_left _ (List.mem_append_left _ (List.mem_append_left _ (List.mem_append_left _ (List.mem_append_right _ h))))))
theorem inX8 : ∀ w ∈ wsX80, w ∈ lw_tbl := fun w h => wsL_law_in w (inlX8 w h)
theorem inlX9 : ∀ w ∈ wsX90, w ∈ wsL_law := fun _ h => List.mem_append_left _ (List.mem_append_right _ h)
theorem inX9 : ∀ w ∈ wsX90, w ∈ lw_tbl := fun w h => wsL_law_in w (inlX9 w h)
theorem inlX10 : ∀ w ∈ wsX100, w ∈ wsL_law := fun _ h => List.mem_append_left _ (List.mem_append_left _ (List.mem_append_left _ (List.mem_append_left _ (List.mem_append_left _ (List.mem_append_left _ (List.mem_append_left _ (List.mem_append_left _ (List.mem_append_left _ (List.mem_append_left _ (List.mem_append_left _ (List.mem_append_right _ h)))))))))))
theorem inX10 : ∀ w ∈ wsX100, w ∈ lw_tbl := fun w h => wsL_law_in w (inlX10 w h)
theorem inlX11 : ∀ w ∈ wsX110, w ∈ wsL_law := fun _ h => List.mem_append_left _ (List.mem_append_left _ (List.mem_append_left _ (List.mem_append_left _ (List.mem_append_left _ (List.mem_append_left _ (List.mem_append_left _ (List.mem_append_left _ (List.mem_append_left _ (List.mem_append_left _ (List.mem_append_left _ (List.mem_append_left _ (List.mem_append_left _ (List.mem_append_right _ h)))))))))))))
theorem inX11 : ∀ w ∈ wsX110, w ∈ lw_tbl := fun w h => wsL_law_in w (inlX11 w h)
theorem inlX12 : ∀ w ∈ wsX120, w ∈ wsL_law := fun _ h => List.mem_append_left _ (List.mem_append_left _ (List.mem_append_left _ (List.mem_append_left _ (List.mem_append_left _ (List.mem_append_left _ (List.mem_append_left _ (List.mem_append_left _ (List.mem_append_left _ (List.mem_append_left _ (List.mem_append_left _ (List.mem_append_left _ (List.mem_append_right _ h))))))))))))
theorem inX12 : ∀ w ∈ wsX120, w ∈ lw_tbl := fun w h => wsL_law_in w (inlX12 w h)
abbrev vwCl : List vw_C := [(RX0, TX0, 8), (RX1, TX1, 3), (RX2, TX2, 3), (RX3, TX3, 3), (RX4, TX4, 4), (RX5, TX5, 3), (RX6, TX6, 2), (RX7, TX7, 3), (RX8, TX8, 5), (RX9, TX9, 2), (RX10, TX10, 15), (RX11, TX11, 15), (RX12, TX12, 26)]
