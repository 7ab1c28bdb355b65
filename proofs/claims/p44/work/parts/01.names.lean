-- ===== PART A: goes FIRST, ahead of the names: the tables' words, and 'selects' of the private methods out of them =====
/-- a private method of a class that the tables say can be made, by its rows of tables_1 -/
def lw_okq (q : MethodName × Nat) : Prop := (q.1.cls ≠ "java/lang/invoke/MethodHandle" ∧ q.1.cls ≠ "java/lang/invoke/VarHandle") ∧ Cond.instantiable q.1.cls q.2 ∈ tables_1 ∧ Cond.privateMethod q.1 ∈ tables_1 ∧ Cond.instanceMethod q.1 ∈ tables_1
theorem lw_p0 : lw_okq (⟨"GorgeRocks", "error", "(I)I"⟩, 15) := ⟨⟨by decide +kernel, by decide +kernel⟩, List.mem_of_getElem? (i := 23) (by decide +kernel), List.mem_of_getElem? (i := 386) (by decide +kernel), List.mem_of_getElem? (i := 387) (by decide +kernel)⟩
theorem lw_p1 : lw_okq (⟨"GorgeRocks", "isCall", "(I)Z"⟩, 15) := ⟨⟨by decide +kernel, by decide +kernel⟩, List.mem_of_getElem? (i := 23) (by decide +kernel), List.mem_of_getElem? (i := 399) (by decide +kernel), List.mem_of_getElem? (i := 400) (by decide +kernel)⟩
theorem lw_p2 : lw_okq (⟨"GorgeRocks", "soundOrSize", "(LGorgeRocks$Row;I)I"⟩, 15) := ⟨⟨by decide +kernel, by decide +kernel⟩, List.mem_of_getElem? (i := 23) (by decide +kernel), List.mem_of_getElem? (i := 414) (by decide +kernel), List.mem_of_getElem? (i := 415) (by decide +kernel)⟩
theorem lw_p3 : lw_okq (⟨"GorgeRocks", "isRock", "(I)Z"⟩, 15) := ⟨⟨by decide +kernel, by decide +kernel⟩, List.mem_of_getElem? (i := 23) (by decide +kernel), List.mem_of_getElem? (i := 457) (by decide +kernel), List.mem_of_getElem? (i := 458) (by decide +kernel)⟩
theorem lw_p4 : lw_okq (⟨"GorgeRocks$Reader", "readLevel", "(II)Z"⟩, 4) := ⟨⟨by decide +kernel, by decide +kernel⟩, List.mem_of_getElem? (i := 190) (by decide +kernel), List.mem_of_getElem? (i := 506) (by decide +kernel), List.mem_of_getElem? (i := 507) (by decide +kernel)⟩
theorem lw_p5 : lw_okq (⟨"GorgeRocks$Reader", "readQ", "(I)Z"⟩, 4) := ⟨⟨by decide +kernel, by decide +kernel⟩, List.mem_of_getElem? (i := 190) (by decide +kernel), List.mem_of_getElem? (i := 510) (by decide +kernel), List.mem_of_getElem? (i := 511) (by decide +kernel)⟩
theorem lw_p6 : lw_okq (⟨"GorgeRocks$Reader", "next", "()I"⟩, 4) := ⟨⟨by decide +kernel, by decide +kernel⟩, List.mem_of_getElem? (i := 190) (by decide +kernel), List.mem_of_getElem? (i := 514) (by decide +kernel), List.mem_of_getElem? (i := 515) (by decide +kernel)⟩
theorem lw_p7 : lw_okq (⟨"GorgeRocks$Reader", "readNumber", "()V"⟩, 4) := ⟨⟨by decide +kernel, by decide +kernel⟩, List.mem_of_getElem? (i := 190) (by decide +kernel), List.mem_of_getElem? (i := 521) (by decide +kernel), List.mem_of_getElem? (i := 522) (by decide +kernel)⟩
theorem lw_p8 : lw_okq (⟨"GorgeRocks$Reader", "readDenied", "(I)Z"⟩, 4) := ⟨⟨by decide +kernel, by decide +kernel⟩, List.mem_of_getElem? (i := 190) (by decide +kernel), List.mem_of_getElem? (i := 610) (by decide +kernel), List.mem_of_getElem? (i := 611) (by decide +kernel)⟩
theorem lw_p9 : lw_okq (⟨"GorgeRocks$Reader", "readEnclosed", "(I)Z"⟩, 4) := ⟨⟨by decide +kernel, by decide +kernel⟩, List.mem_of_getElem? (i := 190) (by decide +kernel), List.mem_of_getElem? (i := 614) (by decide +kernel), List.mem_of_getElem? (i := 615) (by decide +kernel)⟩
theorem lw_p10 : lw_okq (⟨"GorgeRocks$World", "turnByText", "(LGorgeRocks$Row;I)V"⟩, 15) := ⟨⟨by decide +kernel, by decide +kernel⟩, List.mem_of_getElem? (i := 31) (by decide +kernel), List.mem_of_getElem? (i := 675) (by decide +kernel), List.mem_of_getElem? (i := 676) (by decide +kernel)⟩
theorem lw_p11 : lw_okq (⟨"GorgeRocks", "rocksThatMake", "(LGorgeRocks$Row;LGorgeRocks$Row;)I"⟩, 15) := ⟨⟨by decide +kernel, by decide +kernel⟩, List.mem_of_getElem? (i := 23) (by decide +kernel), List.mem_of_getElem? (i := 715) (by decide +kernel), List.mem_of_getElem? (i := 716) (by decide +kernel)⟩
theorem lw_p12 : lw_okq (⟨"GorgeRocks", "waysTo", "(LGorgeRocks$Row;LGorgeRocks$Row;I)I"⟩, 15) := ⟨⟨by decide +kernel, by decide +kernel⟩, List.mem_of_getElem? (i := 23) (by decide +kernel), List.mem_of_getElem? (i := 724) (by decide +kernel), List.mem_of_getElem? (i := 725) (by decide +kernel)⟩
theorem lw_p13 : lw_okq (⟨"GorgeRocks$Meanings", "addIfUnlike", "(LGorgeRocks$Row;)V"⟩, 3) := ⟨⟨by decide +kernel, by decide +kernel⟩, List.mem_of_getElem? (i := 232) (by decide +kernel), List.mem_of_getElem? (i := 744) (by decide +kernel), List.mem_of_getElem? (i := 745) (by decide +kernel)⟩
theorem lw_p14 : lw_okq (⟨"GorgeRocks$Meanings", "addUndone", "(LGorgeRocks$World;LGorgeRocks$Row;)V"⟩, 3) := ⟨⟨by decide +kernel, by decide +kernel⟩, List.mem_of_getElem? (i := 232) (by decide +kernel), List.mem_of_getElem? (i := 750) (by decide +kernel), List.mem_of_getElem? (i := 751) (by decide +kernel)⟩
theorem lw_p15 : lw_okq (⟨"GorgeRocks$Grammar", "isTermSo", "(I)Z"⟩, 3) := ⟨⟨by decide +kernel, by decide +kernel⟩, List.mem_of_getElem? (i := 214) (by decide +kernel), List.mem_of_getElem? (i := 806) (by decide +kernel), List.mem_of_getElem? (i := 807) (by decide +kernel)⟩
def lw_privs_1 : List (MethodName × Nat) := [(⟨"GorgeRocks", "error", "(I)I"⟩, 15), (⟨"GorgeRocks", "isCall", "(I)Z"⟩, 15), (⟨"GorgeRocks", "soundOrSize", "(LGorgeRocks$Row;I)I"⟩, 15), (⟨"GorgeRocks", "isRock", "(I)Z"⟩, 15), (⟨"GorgeRocks$Reader", "readLevel", "(II)Z"⟩, 4), (⟨"GorgeRocks$Reader", "readQ", "(I)Z"⟩, 4), (⟨"GorgeRocks$Reader", "next", "()I"⟩, 4), (⟨"GorgeRocks$Reader", "readNumber", "()V"⟩, 4), (⟨"GorgeRocks$Reader", "readDenied", "(I)Z"⟩, 4), (⟨"GorgeRocks$Reader", "readEnclosed", "(I)Z"⟩, 4), (⟨"GorgeRocks$World", "turnByText", "(LGorgeRocks$Row;I)V"⟩, 15), (⟨"GorgeRocks", "rocksThatMake", "(LGorgeRocks$Row;LGorgeRocks$Row;)I"⟩, 15), (⟨"GorgeRocks", "waysTo", "(LGorgeRocks$Row;LGorgeRocks$Row;I)I"⟩, 15), (⟨"GorgeRocks$Meanings", "addIfUnlike", "(LGorgeRocks$Row;)V"⟩, 3), (⟨"GorgeRocks$Meanings", "addUndone", "(LGorgeRocks$World;LGorgeRocks$Row;)V"⟩, 3), (⟨"GorgeRocks$Grammar", "isTermSo", "(I)Z"⟩, 3)]
theorem lw_r1 : ∀ q ∈ lw_privs_1, lw_okq q := List.forall_mem_cons.mpr ⟨lw_p0, List.forall_mem_cons.mpr ⟨lw_p1, List.forall_mem_cons.mpr ⟨lw_p2, List.forall_mem_cons.mpr ⟨lw_p3, List.forall_mem_cons.mpr ⟨lw_p4, List.forall_mem_cons.mpr ⟨lw_p5, List.forall_mem_cons.mpr ⟨lw_p6, List.forall_mem_cons.mpr ⟨lw_p7, List.forall_mem_cons.mpr ⟨lw_p8, List.forall_mem_cons.mpr ⟨lw_p9, List.forall_mem_cons.mpr ⟨lw_p10, List.forall_mem_cons.mpr ⟨lw_p11, List.forall_mem_cons.mpr ⟨lw_p12, List.forall_mem_cons.mpr ⟨lw_p13, List.forall_mem_cons.mpr ⟨lw_p14, List.forall_mem_cons.mpr ⟨lw_p15, fun _ h => absurd h List.not_mem_nil⟩⟩⟩⟩⟩⟩⟩⟩⟩⟩⟩⟩⟩⟩⟩⟩
theorem lw_p16 : lw_okq (⟨"GorgeRocks$Grammar", "next", "()I"⟩, 3) := ⟨⟨by decide +kernel, by decide +kernel⟩, List.mem_of_getElem? (i := 214) (by decide +kernel), List.mem_of_getElem? (i := 810) (by decide +kernel), List.mem_of_getElem? (i := 811) (by decide +kernel)⟩
theorem lw_p17 : lw_okq (⟨"GorgeRocks$Grammar", "sumBehind", "()I"⟩, 3) := ⟨⟨by decide +kernel, by decide +kernel⟩, List.mem_of_getElem? (i := 214) (by decide +kernel), List.mem_of_getElem? (i := 814) (by decide +kernel), List.mem_of_getElem? (i := 815) (by decide +kernel)⟩
theorem lw_p18 : lw_okq (⟨"GorgeRocks$Grammar", "isWordSo", "(I)Z"⟩, 3) := ⟨⟨by decide +kernel, by decide +kernel⟩, List.mem_of_getElem? (i := 214) (by decide +kernel), List.mem_of_getElem? (i := 818) (by decide +kernel), List.mem_of_getElem? (i := 819) (by decide +kernel)⟩
theorem lw_p19 : lw_okq (⟨"GorgeRocks$Deal", "numberHeard", "(LGorgeRocks$World;ILGorgeRocks$Row;I)I"⟩, 8) := ⟨⟨by decide +kernel, by decide +kernel⟩, List.mem_of_getElem? (i := 251) (by decide +kernel), List.mem_of_getElem? (i := 869) (by decide +kernel), List.mem_of_getElem? (i := 870) (by decide +kernel)⟩
theorem lw_p20 : lw_okq (⟨"GorgeRocks$Speaker", "speak", "(IIII)I"⟩, 5) := ⟨⟨by decide +kernel, by decide +kernel⟩, List.mem_of_getElem? (i := 288) (by decide +kernel), List.mem_of_getElem? (i := 896) (by decide +kernel), List.mem_of_getElem? (i := 897) (by decide +kernel)⟩
theorem lw_p21 : lw_okq (⟨"GorgeRocks$Speaker", "waitsOfRock", "(I)I"⟩, 5) := ⟨⟨by decide +kernel, by decide +kernel⟩, List.mem_of_getElem? (i := 288) (by decide +kernel), List.mem_of_getElem? (i := 908) (by decide +kernel), List.mem_of_getElem? (i := 909) (by decide +kernel)⟩
theorem lw_p22 : lw_okq (⟨"GorgeRocksModel", "error", "(I)I"⟩, 26) := ⟨⟨by decide +kernel, by decide +kernel⟩, List.mem_of_getElem? (i := 989) (by decide +kernel), List.mem_of_getElem? (i := 1078) (by decide +kernel), List.mem_of_getElem? (i := 1079) (by decide +kernel)⟩
theorem lw_p23 : lw_okq (⟨"GorgeRocksModel", "isCall", "(I)Z"⟩, 26) := ⟨⟨by decide +kernel, by decide +kernel⟩, List.mem_of_getElem? (i := 989) (by decide +kernel), List.mem_of_getElem? (i := 1087) (by decide +kernel), List.mem_of_getElem? (i := 1088) (by decide +kernel)⟩
theorem lw_p24 : lw_okq (⟨"GorgeRocksModel", "take", "(I[I)V"⟩, 26) := ⟨⟨by decide +kernel, by decide +kernel⟩, List.mem_of_getElem? (i := 989) (by decide +kernel), List.mem_of_getElem? (i := 1101) (by decide +kernel), List.mem_of_getElem? (i := 1102) (by decide +kernel)⟩
theorem lw_p25 : lw_okq (⟨"GorgeRocksModel", "toldOf", "([II)I"⟩, 26) := ⟨⟨by decide +kernel, by decide +kernel⟩, List.mem_of_getElem? (i := 989) (by decide +kernel), List.mem_of_getElem? (i := 1105) (by decide +kernel), List.mem_of_getElem? (i := 1106) (by decide +kernel)⟩
theorem lw_p26 : lw_okq (⟨"GorgeRocksModel", "drawn", "()I"⟩, 26) := ⟨⟨by decide +kernel, by decide +kernel⟩, List.mem_of_getElem? (i := 989) (by decide +kernel), List.mem_of_getElem? (i := 1117) (by decide +kernel), List.mem_of_getElem? (i := 1118) (by decide +kernel)⟩
theorem lw_p27 : lw_okq (⟨"GorgeRocksModel", "isRock", "(I)Z"⟩, 26) := ⟨⟨by decide +kernel, by decide +kernel⟩, List.mem_of_getElem? (i := 989) (by decide +kernel), List.mem_of_getElem? (i := 1137) (by decide +kernel), List.mem_of_getElem? (i := 1138) (by decide +kernel)⟩
theorem lw_p28 : lw_okq (⟨"GorgeRocksModel", "its", "(II)I"⟩, 26) := ⟨⟨by decide +kernel, by decide +kernel⟩, List.mem_of_getElem? (i := 989) (by decide +kernel), List.mem_of_getElem? (i := 1141) (by decide +kernel), List.mem_of_getElem? (i := 1142) (by decide +kernel)⟩
theorem lw_p29 : lw_okq (⟨"GorgeRocksModel", "whole", "()Z"⟩, 26) := ⟨⟨by decide +kernel, by decide +kernel⟩, List.mem_of_getElem? (i := 989) (by decide +kernel), List.mem_of_getElem? (i := 1165) (by decide +kernel), List.mem_of_getElem? (i := 1166) (by decide +kernel)⟩
theorem lw_p30 : lw_okq (⟨"GorgeRocksModel", "both", "()Z"⟩, 26) := ⟨⟨by decide +kernel, by decide +kernel⟩, List.mem_of_getElem? (i := 989) (by decide +kernel), List.mem_of_getElem? (i := 1169) (by decide +kernel), List.mem_of_getElem? (i := 1170) (by decide +kernel)⟩
theorem lw_p31 : lw_okq (⟨"GorgeRocksModel", "compared", "()Z"⟩, 26) := ⟨⟨by decide +kernel, by decide +kernel⟩, List.mem_of_getElem? (i := 989) (by decide +kernel), List.mem_of_getElem? (i := 1173) (by decide +kernel), List.mem_of_getElem? (i := 1174) (by decide +kernel)⟩
def lw_privs_2 : List (MethodName × Nat) := [(⟨"GorgeRocks$Grammar", "next", "()I"⟩, 3), (⟨"GorgeRocks$Grammar", "sumBehind", "()I"⟩, 3), (⟨"GorgeRocks$Grammar", "isWordSo", "(I)Z"⟩, 3), (⟨"GorgeRocks$Deal", "numberHeard", "(LGorgeRocks$World;ILGorgeRocks$Row;I)I"⟩, 8), (⟨"GorgeRocks$Speaker", "speak", "(IIII)I"⟩, 5), (⟨"GorgeRocks$Speaker", "waitsOfRock", "(I)I"⟩, 5), (⟨"GorgeRocksModel", "error", "(I)I"⟩, 26), (⟨"GorgeRocksModel", "isCall", "(I)Z"⟩, 26), (⟨"GorgeRocksModel", "take", "(I[I)V"⟩, 26), (⟨"GorgeRocksModel", "toldOf", "([II)I"⟩, 26), (⟨"GorgeRocksModel", "drawn", "()I"⟩, 26), (⟨"GorgeRocksModel", "isRock", "(I)Z"⟩, 26), (⟨"GorgeRocksModel", "its", "(II)I"⟩, 26), (⟨"GorgeRocksModel", "whole", "()Z"⟩, 26), (⟨"GorgeRocksModel", "both", "()Z"⟩, 26), (⟨"GorgeRocksModel", "compared", "()Z"⟩, 26)]
theorem lw_r2 : ∀ q ∈ lw_privs_2, lw_okq q := List.forall_mem_cons.mpr ⟨lw_p16, List.forall_mem_cons.mpr ⟨lw_p17, List.forall_mem_cons.mpr ⟨lw_p18, List.forall_mem_cons.mpr ⟨lw_p19, List.forall_mem_cons.mpr ⟨lw_p20, List.forall_mem_cons.mpr ⟨lw_p21, List.forall_mem_cons.mpr ⟨lw_p22, List.forall_mem_cons.mpr ⟨lw_p23, List.forall_mem_cons.mpr ⟨lw_p24, List.forall_mem_cons.mpr ⟨lw_p25, List.forall_mem_cons.mpr ⟨lw_p26, List.forall_mem_cons.mpr ⟨lw_p27, List.forall_mem_cons.mpr ⟨lw_p28, List.forall_mem_cons.mpr ⟨lw_p29, List.forall_mem_cons.mpr ⟨lw_p30, List.forall_mem_cons.mpr ⟨lw_p31, fun _ h => absurd h List.not_mem_nil⟩⟩⟩⟩⟩⟩⟩⟩⟩⟩⟩⟩⟩⟩⟩⟩
theorem lw_p32 : lw_okq (⟨"GorgeRocksModel", "sum", "()Z"⟩, 26) := ⟨⟨by decide +kernel, by decide +kernel⟩, List.mem_of_getElem? (i := 989) (by decide +kernel), List.mem_of_getElem? (i := 1177) (by decide +kernel), List.mem_of_getElem? (i := 1178) (by decide +kernel)⟩
theorem lw_p33 : lw_okq (⟨"GorgeRocksModel", "product", "()Z"⟩, 26) := ⟨⟨by decide +kernel, by decide +kernel⟩, List.mem_of_getElem? (i := 989) (by decide +kernel), List.mem_of_getElem? (i := 1181) (by decide +kernel), List.mem_of_getElem? (i := 1182) (by decide +kernel)⟩
theorem lw_p34 : lw_okq (⟨"GorgeRocksModel", "one", "()Z"⟩, 26) := ⟨⟨by decide +kernel, by decide +kernel⟩, List.mem_of_getElem? (i := 989) (by decide +kernel), List.mem_of_getElem? (i := 1185) (by decide +kernel), List.mem_of_getElem? (i := 1186) (by decide +kernel)⟩
theorem lw_p35 : lw_okq (⟨"GorgeRocksModel", "look", "()I"⟩, 26) := ⟨⟨by decide +kernel, by decide +kernel⟩, List.mem_of_getElem? (i := 989) (by decide +kernel), List.mem_of_getElem? (i := 1189) (by decide +kernel), List.mem_of_getElem? (i := 1190) (by decide +kernel)⟩
theorem lw_p36 : lw_okq (⟨"GorgeRocksModel", "isName", "(I)Z"⟩, 26) := ⟨⟨by decide +kernel, by decide +kernel⟩, List.mem_of_getElem? (i := 989) (by decide +kernel), List.mem_of_getElem? (i := 1193) (by decide +kernel), List.mem_of_getElem? (i := 1194) (by decide +kernel)⟩
theorem lw_p37 : lw_okq (⟨"GorgeRocksModel", "lays", "(II)V"⟩, 26) := ⟨⟨by decide +kernel, by decide +kernel⟩, List.mem_of_getElem? (i := 989) (by decide +kernel), List.mem_of_getElem? (i := 1197) (by decide +kernel), List.mem_of_getElem? (i := 1198) (by decide +kernel)⟩
theorem lw_p38 : lw_okq (⟨"GorgeRocksModel", "opens", "()Z"⟩, 26) := ⟨⟨by decide +kernel, by decide +kernel⟩, List.mem_of_getElem? (i := 989) (by decide +kernel), List.mem_of_getElem? (i := 1201) (by decide +kernel), List.mem_of_getElem? (i := 1202) (by decide +kernel)⟩
theorem lw_p39 : lw_okq (⟨"GorgeRocksModel", "hasText", "(I)Z"⟩, 26) := ⟨⟨by decide +kernel, by decide +kernel⟩, List.mem_of_getElem? (i := 989) (by decide +kernel), List.mem_of_getElem? (i := 1209) (by decide +kernel), List.mem_of_getElem? (i := 1210) (by decide +kernel)⟩
theorem lw_p40 : lw_okq (⟨"GorgeRocksModel", "isWay", "(I)Z"⟩, 26) := ⟨⟨by decide +kernel, by decide +kernel⟩, List.mem_of_getElem? (i := 989) (by decide +kernel), List.mem_of_getElem? (i := 1217) (by decide +kernel), List.mem_of_getElem? (i := 1218) (by decide +kernel)⟩
theorem lw_p41 : lw_okq (⟨"GorgeRocksModel", "hears", "(II[I)V"⟩, 26) := ⟨⟨by decide +kernel, by decide +kernel⟩, List.mem_of_getElem? (i := 989) (by decide +kernel), List.mem_of_getElem? (i := 1221) (by decide +kernel), List.mem_of_getElem? (i := 1222) (by decide +kernel)⟩
theorem lw_p42 : lw_okq (⟨"GorgeRocksModel", "goesOver", "(I[I)V"⟩, 26) := ⟨⟨by decide +kernel, by decide +kernel⟩, List.mem_of_getElem? (i := 989) (by decide +kernel), List.mem_of_getElem? (i := 1225) (by decide +kernel), List.mem_of_getElem? (i := 1226) (by decide +kernel)⟩
theorem lw_p43 : lw_okq (⟨"GorgeRocksModel", "sends", "(I[I)V"⟩, 26) := ⟨⟨by decide +kernel, by decide +kernel⟩, List.mem_of_getElem? (i := 989) (by decide +kernel), List.mem_of_getElem? (i := 1235) (by decide +kernel), List.mem_of_getElem? (i := 1236) (by decide +kernel)⟩
theorem lw_p44 : lw_okq (⟨"GorgeRocksModel", "turns", "([I)V"⟩, 26) := ⟨⟨by decide +kernel, by decide +kernel⟩, List.mem_of_getElem? (i := 989) (by decide +kernel), List.mem_of_getElem? (i := 1242) (by decide +kernel), List.mem_of_getElem? (i := 1243) (by decide +kernel)⟩
theorem lw_p45 : lw_okq (⟨"GorgeRocksModel", "swallows", "([II)V"⟩, 26) := ⟨⟨by decide +kernel, by decide +kernel⟩, List.mem_of_getElem? (i := 989) (by decide +kernel), List.mem_of_getElem? (i := 1246) (by decide +kernel), List.mem_of_getElem? (i := 1247) (by decide +kernel)⟩
theorem lw_p46 : lw_okq (⟨"GorgeRocksModel", "asTold", "([II)V"⟩, 26) := ⟨⟨by decide +kernel, by decide +kernel⟩, List.mem_of_getElem? (i := 989) (by decide +kernel), List.mem_of_getElem? (i := 1250) (by decide +kernel), List.mem_of_getElem? (i := 1251) (by decide +kernel)⟩
theorem lw_p47 : lw_okq (⟨"GorgeRocksModel", "worked", "(I)I"⟩, 26) := ⟨⟨by decide +kernel, by decide +kernel⟩, List.mem_of_getElem? (i := 989) (by decide +kernel), List.mem_of_getElem? (i := 1254) (by decide +kernel), List.mem_of_getElem? (i := 1255) (by decide +kernel)⟩
def lw_privs_3 : List (MethodName × Nat) := [(⟨"GorgeRocksModel", "sum", "()Z"⟩, 26), (⟨"GorgeRocksModel", "product", "()Z"⟩, 26), (⟨"GorgeRocksModel", "one", "()Z"⟩, 26), (⟨"GorgeRocksModel", "look", "()I"⟩, 26), (⟨"GorgeRocksModel", "isName", "(I)Z"⟩, 26), (⟨"GorgeRocksModel", "lays", "(II)V"⟩, 26), (⟨"GorgeRocksModel", "opens", "()Z"⟩, 26), (⟨"GorgeRocksModel", "hasText", "(I)Z"⟩, 26), (⟨"GorgeRocksModel", "isWay", "(I)Z"⟩, 26), (⟨"GorgeRocksModel", "hears", "(II[I)V"⟩, 26), (⟨"GorgeRocksModel", "goesOver", "(I[I)V"⟩, 26), (⟨"GorgeRocksModel", "sends", "(I[I)V"⟩, 26), (⟨"GorgeRocksModel", "turns", "([I)V"⟩, 26), (⟨"GorgeRocksModel", "swallows", "([II)V"⟩, 26), (⟨"GorgeRocksModel", "asTold", "([II)V"⟩, 26), (⟨"GorgeRocksModel", "worked", "(I)I"⟩, 26)]
theorem lw_r3 : ∀ q ∈ lw_privs_3, lw_okq q := List.forall_mem_cons.mpr ⟨lw_p32, List.forall_mem_cons.mpr ⟨lw_p33, List.forall_mem_cons.mpr ⟨lw_p34, List.forall_mem_cons.mpr ⟨lw_p35, List.forall_mem_cons.mpr ⟨lw_p36, List.forall_mem_cons.mpr ⟨lw_p37, List.forall_mem_cons.mpr ⟨lw_p38, List.forall_mem_cons.mpr ⟨lw_p39, List.forall_mem_cons.mpr ⟨lw_p40, List.forall_mem_cons.mpr ⟨lw_p41, List.forall_mem_cons.mpr ⟨lw_p42, List.forall_mem_cons.mpr ⟨lw_p43, List.forall_mem_cons.mpr ⟨lw_p44, List.forall_mem_cons.mpr ⟨lw_p45, List.forall_mem_cons.mpr ⟨lw_p46, List.forall_mem_cons.mpr ⟨lw_p47, fun _ h => absurd h List.not_mem_nil⟩⟩⟩⟩⟩⟩⟩⟩⟩⟩⟩⟩⟩⟩⟩⟩
theorem lw_p48 : lw_okq (⟨"GorgeRocksModel", "lay", "([II)V"⟩, 26) := ⟨⟨by decide +kernel, by decide +kernel⟩, List.mem_of_getElem? (i := 989) (by decide +kernel), List.mem_of_getElem? (i := 1276) (by decide +kernel), List.mem_of_getElem? (i := 1277) (by decide +kernel)⟩
theorem lw_p49 : lw_okq (⟨"GorgeRocksModel", "comesBy", "(II[I)I"⟩, 26) := ⟨⟨by decide +kernel, by decide +kernel⟩, List.mem_of_getElem? (i := 989) (by decide +kernel), List.mem_of_getElem? (i := 1284) (by decide +kernel), List.mem_of_getElem? (i := 1285) (by decide +kernel)⟩
theorem lw_p50 : lw_okq (⟨"GorgeRocksModel", "canUndo", "(I)Z"⟩, 26) := ⟨⟨by decide +kernel, by decide +kernel⟩, List.mem_of_getElem? (i := 989) (by decide +kernel), List.mem_of_getElem? (i := 1296) (by decide +kernel), List.mem_of_getElem? (i := 1297) (by decide +kernel)⟩
theorem lw_p51 : lw_okq (⟨"GorgeRocksModel", "needs", "(II[I)V"⟩, 26) := ⟨⟨by decide +kernel, by decide +kernel⟩, List.mem_of_getElem? (i := 989) (by decide +kernel), List.mem_of_getElem? (i := 1300) (by decide +kernel), List.mem_of_getElem? (i := 1301) (by decide +kernel)⟩
theorem lw_p52 : lw_okq (⟨"GorgeRocksModel", "findMeant", "(II)V"⟩, 26) := ⟨⟨by decide +kernel, by decide +kernel⟩, List.mem_of_getElem? (i := 989) (by decide +kernel), List.mem_of_getElem? (i := 1308) (by decide +kernel), List.mem_of_getElem? (i := 1309) (by decide +kernel)⟩
theorem lw_p53 : lw_okq (⟨"GorgeRocksModel", "unlikeIn", "(I)I"⟩, 26) := ⟨⟨by decide +kernel, by decide +kernel⟩, List.mem_of_getElem? (i := 989) (by decide +kernel), List.mem_of_getElem? (i := 1316) (by decide +kernel), List.mem_of_getElem? (i := 1317) (by decide +kernel)⟩
theorem lw_p54 : lw_okq (⟨"GorgeRocksModel", "saying", "()Z"⟩, 26) := ⟨⟨by decide +kernel, by decide +kernel⟩, List.mem_of_getElem? (i := 989) (by decide +kernel), List.mem_of_getElem? (i := 1333) (by decide +kernel), List.mem_of_getElem? (i := 1334) (by decide +kernel)⟩
theorem lw_p55 : lw_okq (⟨"GorgeRocksModel", "term", "()Z"⟩, 26) := ⟨⟨by decide +kernel, by decide +kernel⟩, List.mem_of_getElem? (i := 989) (by decide +kernel), List.mem_of_getElem? (i := 1337) (by decide +kernel), List.mem_of_getElem? (i := 1338) (by decide +kernel)⟩
theorem lw_p56 : lw_okq (⟨"GorgeRocksModel", "soundAt", "(I)I"⟩, 26) := ⟨⟨by decide +kernel, by decide +kernel⟩, List.mem_of_getElem? (i := 989) (by decide +kernel), List.mem_of_getElem? (i := 1341) (by decide +kernel), List.mem_of_getElem? (i := 1342) (by decide +kernel)⟩
theorem lw_p57 : lw_okq (⟨"GorgeRocksModel", "isSo", "(I)Z"⟩, 26) := ⟨⟨by decide +kernel, by decide +kernel⟩, List.mem_of_getElem? (i := 989) (by decide +kernel), List.mem_of_getElem? (i := 1345) (by decide +kernel), List.mem_of_getElem? (i := 1346) (by decide +kernel)⟩
theorem lw_p58 : lw_okq (⟨"GorgeRocksModel", "comes", "()V"⟩, 26) := ⟨⟨by decide +kernel, by decide +kernel⟩, List.mem_of_getElem? (i := 989) (by decide +kernel), List.mem_of_getElem? (i := 1362) (by decide +kernel), List.mem_of_getElem? (i := 1363) (by decide +kernel)⟩
theorem lw_p59 : lw_okq (⟨"GorgeRocksModel", "logs", "(I)V"⟩, 26) := ⟨⟨by decide +kernel, by decide +kernel⟩, List.mem_of_getElem? (i := 989) (by decide +kernel), List.mem_of_getElem? (i := 1366) (by decide +kernel), List.mem_of_getElem? (i := 1367) (by decide +kernel)⟩
theorem lw_p60 : lw_okq (⟨"GorgeRocksModel", "hearsOf", "(III)I"⟩, 26) := ⟨⟨by decide +kernel, by decide +kernel⟩, List.mem_of_getElem? (i := 989) (by decide +kernel), List.mem_of_getElem? (i := 1382) (by decide +kernel), List.mem_of_getElem? (i := 1383) (by decide +kernel)⟩
theorem lw_p61 : lw_okq (⟨"GorgeRocksModel", "offers", "(IIII)I"⟩, 26) := ⟨⟨by decide +kernel, by decide +kernel⟩, List.mem_of_getElem? (i := 989) (by decide +kernel), List.mem_of_getElem? (i := 1386) (by decide +kernel), List.mem_of_getElem? (i := 1387) (by decide +kernel)⟩
theorem lw_p62 : lw_okq (⟨"GorgeRocksModel", "kindNow", "()I"⟩, 26) := ⟨⟨by decide +kernel, by decide +kernel⟩, List.mem_of_getElem? (i := 989) (by decide +kernel), List.mem_of_getElem? (i := 1401) (by decide +kernel), List.mem_of_getElem? (i := 1402) (by decide +kernel)⟩
theorem lw_p63 : lw_okq (⟨"GorgeRocksModel", "turnsBy", "(II)I"⟩, 26) := ⟨⟨by decide +kernel, by decide +kernel⟩, List.mem_of_getElem? (i := 989) (by decide +kernel), List.mem_of_getElem? (i := 1405) (by decide +kernel), List.mem_of_getElem? (i := 1406) (by decide +kernel)⟩
def lw_privs_4 : List (MethodName × Nat) := [(⟨"GorgeRocksModel", "lay", "([II)V"⟩, 26), (⟨"GorgeRocksModel", "comesBy", "(II[I)I"⟩, 26), (⟨"GorgeRocksModel", "canUndo", "(I)Z"⟩, 26), (⟨"GorgeRocksModel", "needs", "(II[I)V"⟩, 26), (⟨"GorgeRocksModel", "findMeant", "(II)V"⟩, 26), (⟨"GorgeRocksModel", "unlikeIn", "(I)I"⟩, 26), (⟨"GorgeRocksModel", "saying", "()Z"⟩, 26), (⟨"GorgeRocksModel", "term", "()Z"⟩, 26), (⟨"GorgeRocksModel", "soundAt", "(I)I"⟩, 26), (⟨"GorgeRocksModel", "isSo", "(I)Z"⟩, 26), (⟨"GorgeRocksModel", "comes", "()V"⟩, 26), (⟨"GorgeRocksModel", "logs", "(I)V"⟩, 26), (⟨"GorgeRocksModel", "hearsOf", "(III)I"⟩, 26), (⟨"GorgeRocksModel", "offers", "(IIII)I"⟩, 26), (⟨"GorgeRocksModel", "kindNow", "()I"⟩, 26), (⟨"GorgeRocksModel", "turnsBy", "(II)I"⟩, 26)]
theorem lw_r4 : ∀ q ∈ lw_privs_4, lw_okq q := List.forall_mem_cons.mpr ⟨lw_p48, List.forall_mem_cons.mpr ⟨lw_p49, List.forall_mem_cons.mpr ⟨lw_p50, List.forall_mem_cons.mpr ⟨lw_p51, List.forall_mem_cons.mpr ⟨lw_p52, List.forall_mem_cons.mpr ⟨lw_p53, List.forall_mem_cons.mpr ⟨lw_p54, List.forall_mem_cons.mpr ⟨lw_p55, List.forall_mem_cons.mpr ⟨lw_p56, List.forall_mem_cons.mpr ⟨lw_p57, List.forall_mem_cons.mpr ⟨lw_p58, List.forall_mem_cons.mpr ⟨lw_p59, List.forall_mem_cons.mpr ⟨lw_p60, List.forall_mem_cons.mpr ⟨lw_p61, List.forall_mem_cons.mpr ⟨lw_p62, List.forall_mem_cons.mpr ⟨lw_p63, fun _ h => absurd h List.not_mem_nil⟩⟩⟩⟩⟩⟩⟩⟩⟩⟩⟩⟩⟩⟩⟩⟩
theorem lw_p64 : lw_okq (⟨"GorgeRocksModel", "begins", "(I)V"⟩, 26) := ⟨⟨by decide +kernel, by decide +kernel⟩, List.mem_of_getElem? (i := 989) (by decide +kernel), List.mem_of_getElem? (i := 1409) (by decide +kernel), List.mem_of_getElem? (i := 1410) (by decide +kernel)⟩
theorem lw_p65 : lw_okq (⟨"GorgeRocksModel", "sendsBy", "(II)I"⟩, 26) := ⟨⟨by decide +kernel, by decide +kernel⟩, List.mem_of_getElem? (i := 989) (by decide +kernel), List.mem_of_getElem? (i := 1416) (by decide +kernel), List.mem_of_getElem? (i := 1417) (by decide +kernel)⟩
theorem lw_p66 : lw_okq (⟨"GorgeRocksModel", "keepsBy", "(II)I"⟩, 26) := ⟨⟨by decide +kernel, by decide +kernel⟩, List.mem_of_getElem? (i := 989) (by decide +kernel), List.mem_of_getElem? (i := 1420) (by decide +kernel), List.mem_of_getElem? (i := 1421) (by decide +kernel)⟩
theorem lw_p67 : lw_okq (⟨"GorgeRocksModel", "waitsBy", "(II)I"⟩, 26) := ⟨⟨by decide +kernel, by decide +kernel⟩, List.mem_of_getElem? (i := 989) (by decide +kernel), List.mem_of_getElem? (i := 1424) (by decide +kernel), List.mem_of_getElem? (i := 1425) (by decide +kernel)⟩
def lw_privs_5 : List (MethodName × Nat) := [(⟨"GorgeRocksModel", "begins", "(I)V"⟩, 26), (⟨"GorgeRocksModel", "sendsBy", "(II)I"⟩, 26), (⟨"GorgeRocksModel", "keepsBy", "(II)I"⟩, 26), (⟨"GorgeRocksModel", "waitsBy", "(II)I"⟩, 26)]
theorem lw_r5 : ∀ q ∈ lw_privs_5, lw_okq q := List.forall_mem_cons.mpr ⟨lw_p64, List.forall_mem_cons.mpr ⟨lw_p65, List.forall_mem_cons.mpr ⟨lw_p66, List.forall_mem_cons.mpr ⟨lw_p67, fun _ h => absurd h List.not_mem_nil⟩⟩⟩⟩
def lw_privs : List (MethodName × Nat) := lw_privs_1 ++ (lw_privs_2 ++ (lw_privs_3 ++ (lw_privs_4 ++ (lw_privs_5))))
def lw_tbl : List Cond := k2_sels lw_privs ++ tables_1
theorem lw_privs_ok : ∀ q ∈ lw_privs, lw_okq q := by
  show ∀ q ∈ lw_privs_1 ++ (lw_privs_2 ++ (lw_privs_3 ++ (lw_privs_4 ++ (lw_privs_5)))), lw_okq q
  exact List.forall_mem_append.mpr ⟨lw_r1, List.forall_mem_append.mpr ⟨lw_r2, List.forall_mem_append.mpr ⟨lw_r3, List.forall_mem_append.mpr ⟨lw_r4, lw_r5⟩⟩⟩⟩

/-! ===== BEGIN words of one list among another's, by their places ===== -/
theorem goodIn_r {big : List Cond} (ws : List Cond) (ps : List Nat) (hp : ws = ps.filterMap (fun i => big[i]?)) (h : ws.all goodWord = true) : GoodIn big ws := by
  intro w hw
  have h1 := List.all_eq_true.mp h w hw
  rw [hp] at hw
  obtain ⟨i, -, hi⟩ := List.mem_filterMap.mp hw
  have hm : w ∈ big := by first | exact List.mem_of_getElem? hi | exact List.getElem?_mem hi
  exact ⟨hm, good_of_word h1⟩
theorem goodIn_app {big a b : List Cond} (ha : GoodIn big a) (hb : GoodIn big b) : GoodIn big (a ++ b) := fun w h => (List.mem_append.mp h).elim (ha w) (hb w)
theorem goodIn_ca {big a b : List Cond} {c : Cond} (ha : GoodIn big (c :: a)) (hb : GoodIn big b) : GoodIn big (c :: (a ++ b)) := fun w h => (List.mem_cons.mp h).elim (fun e => ha w (List.mem_cons.mpr (Or.inl e))) (fun h => (List.mem_append.mp h).elim (fun h => ha w (List.mem_cons.mpr (Or.inr h))) (hb w))
theorem goodIn_sub {big ws : List Cond} (hm : ∀ w ∈ ws, w ∈ big) (h : ws.all goodWord = true) : GoodIn big ws := fun w hw => ⟨hm w hw, good_of_word (List.all_eq_true.mp h w hw)⟩
/-! ===== END ===== -/
def RX0 : String := "GorgeRocks$Deal"
def TX0 : u_T := fun k => match k with
  | 0 => ("GorgeRocks$Deal", "calling", "LGorgeRocks$Row;", true)
  | 1 => ("GorgeRocks$Deal", "coming", "LGorgeRocks$Row;", true)
  | 2 => ("GorgeRocks$Deal", "sellerOffer", "I", false)
  | 3 => ("GorgeRocks$Deal", "buyerOffer", "I", false)
  | 4 => ("GorgeRocks$Deal", "closedAt", "I", false)
  | 5 => ("GorgeRocks$Deal", "oddAt", "I", false)
  | 6 => ("GorgeRocks$Deal", "sellerHeard", "I", false)
  | _ => ("GorgeRocks$Deal", "buyerHeard", "I", false)
def tyX0 : Nat → FieldType := fun k => match k with
  | 0 => .object "GorgeRocks$Row"
  | 1 => .object "GorgeRocks$Row"
  | 2 => .int
  | 3 => .int
  | 4 => .int
  | 5 => .int
  | 6 => .int
  | _ => .int
abbrev wsX00 : List Cond := u_ws RX0 TX0 8
theorem nmX0 : ∀ a, a < 8 → ∀ b, b < 8 → a ≠ b → (TX0 a).2.1 ≠ (TX0 b).2.1 := by decide +kernel
theorem tyX0_ok : ∀ k, k < 8 → parseFieldDescriptor (TX0 k).2.2.1 = some (tyX0 k) := by decide +kernel
abbrev cX0_init : ByteArray := prog_2_method_1_code
def yX0_init : MethodName := ⟨RX0, "<init>", "()V"⟩
abbrev cX0_begin : ByteArray := prog_2_method_2_code
def yX0_begin : MethodName := ⟨RX0, "begin", "(II)V"⟩
abbrev cX0_goOn : ByteArray := prog_2_method_3_code
def yX0_goOn : MethodName := ⟨RX0, "goOn", "(LGorgeRocks$World;LGorgeRocks$Row;LGorgeRocks$Row;I)V"⟩
abbrev cX0_numberHeard : ByteArray := prog_2_method_4_code
def yX0_numberHeard : MethodName := ⟨RX0, "numberHeard", "(LGorgeRocks$World;ILGorgeRocks$Row;I)I"⟩
def RX1 : String := "GorgeRocks$Grammar"
def TX1 : u_T := fun k => match k with
  | 0 => ("GorgeRocks$Grammar", "row", "LGorgeRocks$Row;", false)
  | 1 => ("GorgeRocks$Grammar", "truth", "I", false)
  | _ => ("GorgeRocks$Grammar", "at", "I", false)
def tyX1 : Nat → FieldType := fun k => match k with
  | 0 => .object "GorgeRocks$Row"
  | 1 => .int
  | _ => .int
abbrev wsX10 : List Cond := u_ws RX1 TX1 3
theorem nmX1 : ∀ a, a < 3 → ∀ b, b < 3 → a ≠ b → (TX1 a).2.1 ≠ (TX1 b).2.1 := by decide +kernel
theorem tyX1_ok : ∀ k, k < 3 → parseFieldDescriptor (TX1 k).2.2.1 = some (tyX1 k) := by decide +kernel
abbrev cX1_init : ByteArray := prog_3_method_1_code
def yX1_init : MethodName := ⟨RX1, "<init>", "()V"⟩
abbrev cX1_faultOf : ByteArray := prog_3_method_2_code
def yX1_faultOf : MethodName := ⟨RX1, "faultOf", "(LGorgeRocks$Row;)I"⟩
abbrev cX1_isSo : ByteArray := prog_3_method_3_code
def yX1_isSo : MethodName := ⟨RX1, "isSo", "(LGorgeRocks$Row;I)Z"⟩
abbrev cX1_next : ByteArray := prog_3_method_4_code
def yX1_next : MethodName := ⟨RX1, "next", "()I"⟩
abbrev cX1_isTermSo : ByteArray := prog_3_method_5_code
def yX1_isTermSo : MethodName := ⟨RX1, "isTermSo", "(I)Z"⟩
abbrev cX1_sumBehind : ByteArray := prog_3_method_6_code
def yX1_sumBehind : MethodName := ⟨RX1, "sumBehind", "()I"⟩
abbrev cX1_isWordSo : ByteArray := prog_3_method_7_code
def yX1_isWordSo : MethodName := ⟨RX1, "isWordSo", "(I)Z"⟩
def RX2 : String := "GorgeRocks$Journal"
def TX2 : u_T := fun k => match k with
  | 0 => ("GorgeRocks$Journal", "rows", "[LGorgeRocks$Row;", true)
  | 1 => ("GorgeRocks$Journal", "latest", "I", false)
  | _ => ("GorgeRocks$Journal", "size", "I", false)
def tyX2 : Nat → FieldType := fun k => match k with
  | 0 => .array (.object "GorgeRocks$Row")
  | 1 => .int
  | _ => .int
abbrev wsX20 : List Cond := u_ws RX2 TX2 3
theorem nmX2 : ∀ a, a < 3 → ∀ b, b < 3 → a ≠ b → (TX2 a).2.1 ≠ (TX2 b).2.1 := by decide +kernel
theorem tyX2_ok : ∀ k, k < 3 → parseFieldDescriptor (TX2 k).2.2.1 = some (tyX2 k) := by decide +kernel
abbrev cX2_init : ByteArray := prog_4_method_1_code
def yX2_init : MethodName := ⟨RX2, "<init>", "()V"⟩
abbrev cX2_newRow : ByteArray := prog_4_method_2_code
def yX2_newRow : MethodName := ⟨RX2, "newRow", "()LGorgeRocks$Row;"⟩
abbrev cX2_rowAhead : ByteArray := prog_4_method_3_code
def yX2_rowAhead : MethodName := ⟨RX2, "rowAhead", "(I)LGorgeRocks$Row;"⟩
abbrev cX2_copyFrom : ByteArray := prog_4_method_4_code
def yX2_copyFrom : MethodName := ⟨RX2, "copyFrom", "(LGorgeRocks$Journal;)V"⟩
def RX3 : String := "GorgeRocks$Meanings"
def TX3 : u_T := fun k => match k with
  | 0 => ("GorgeRocks$Meanings", "rows", "[LGorgeRocks$Row;", true)
  | 1 => ("GorgeRocks$Meanings", "tried", "LGorgeRocks$Row;", true)
  | _ => ("GorgeRocks$Meanings", "size", "I", false)
def tyX3 : Nat → FieldType := fun k => match k with
  | 0 => .array (.object "GorgeRocks$Row")
  | 1 => .object "GorgeRocks$Row"
  | _ => .int
abbrev wsX30 : List Cond := u_ws RX3 TX3 3
theorem nmX3 : ∀ a, a < 3 → ∀ b, b < 3 → a ≠ b → (TX3 a).2.1 ≠ (TX3 b).2.1 := by decide +kernel
theorem tyX3_ok : ∀ k, k < 3 → parseFieldDescriptor (TX3 k).2.2.1 = some (tyX3 k) := by decide +kernel
abbrev cX3_init : ByteArray := prog_5_method_1_code
def yX3_init : MethodName := ⟨RX3, "<init>", "()V"⟩
abbrev cX3_gather : ByteArray := prog_5_method_2_code
def yX3_gather : MethodName := ⟨RX3, "gather", "(LGorgeRocks$World;LGorgeRocks$Row;I)V"⟩
abbrev cX3_addUndone : ByteArray := prog_5_method_3_code
def yX3_addUndone : MethodName := ⟨RX3, "addUndone", "(LGorgeRocks$World;LGorgeRocks$Row;)V"⟩
abbrev cX3_addIfUnlike : ByteArray := prog_5_method_4_code
def yX3_addIfUnlike : MethodName := ⟨RX3, "addIfUnlike", "(LGorgeRocks$Row;)V"⟩
abbrev cX3_unlikeAt : ByteArray := prog_5_method_5_code
def yX3_unlikeAt : MethodName := ⟨RX3, "unlikeAt", "(I)I"⟩
abbrev cX3_placeOfMost : ByteArray := prog_5_method_6_code
def yX3_placeOfMost : MethodName := ⟨RX3, "placeOfMost", "()I"⟩
def RX4 : String := "GorgeRocks$Reader"
def TX4 : u_T := fun k => match k with
  | 0 => ("GorgeRocks$Reader", "draft", "LGorgeRocks$Row;", true)
  | 1 => ("GorgeRocks$Reader", "tape", "LGorgeRocks$Row;", false)
  | 2 => ("GorgeRocks$Reader", "names", "Ljava/lang/String;", false)
  | _ => ("GorgeRocks$Reader", "at", "I", false)
def tyX4 : Nat → FieldType := fun k => match k with
  | 0 => .object "GorgeRocks$Row"
  | 1 => .object "GorgeRocks$Row"
  | 2 => .object "java/lang/String"
  | _ => .int
abbrev wsX40 : List Cond := u_ws RX4 TX4 4
theorem nmX4 : ∀ a, a < 4 → ∀ b, b < 4 → a ≠ b → (TX4 a).2.1 ≠ (TX4 b).2.1 := by decide +kernel
theorem tyX4_ok : ∀ k, k < 4 → parseFieldDescriptor (TX4 k).2.2.1 = some (tyX4 k) := by decide +kernel
abbrev cX4_init : ByteArray := prog_6_method_1_code
def yX4_init : MethodName := ⟨RX4, "<init>", "()V"⟩
abbrev cX4_faultOf : ByteArray := prog_6_method_2_code
def yX4_faultOf : MethodName := ⟨RX4, "faultOf", "(LGorgeRocks$Row;Ljava/lang/String;)I"⟩
abbrev cX4_next : ByteArray := prog_6_method_3_code
def yX4_next : MethodName := ⟨RX4, "next", "()I"⟩
abbrev cX4_levelOf : ByteArray := prog_6_method_4_code
def yX4_levelOf : MethodName := ⟨RX4, "levelOf", "(I)I"⟩
abbrev cX4_readLevel : ByteArray := prog_6_method_5_code
def yX4_readLevel : MethodName := ⟨RX4, "readLevel", "(II)Z"⟩
abbrev cX4_readQ : ByteArray := prog_6_method_6_code
def yX4_readQ : MethodName := ⟨RX4, "readQ", "(I)Z"⟩
abbrev cX4_readDenied : ByteArray := prog_6_method_7_code
def yX4_readDenied : MethodName := ⟨RX4, "readDenied", "(I)Z"⟩
abbrev cX4_readEnclosed : ByteArray := prog_6_method_8_code
def yX4_readEnclosed : MethodName := ⟨RX4, "readEnclosed", "(I)Z"⟩
abbrev cX4_readNumber : ByteArray := prog_6_method_9_code
def yX4_readNumber : MethodName := ⟨RX4, "readNumber", "()V"⟩
abbrev cX4_isDigit : ByteArray := prog_6_method_10_code
def yX4_isDigit : MethodName := ⟨RX4, "isDigit", "(I)Z"⟩
def RX5 : String := "GorgeRocks$Rock"
def TX5 : u_T := fun k => match k with
  | 0 => ("GorgeRocks$Rock", "kind", "I", false)
  | 1 => ("GorgeRocks$Rock", "m", "I", false)
  | _ => ("GorgeRocks$Rock", "delay", "I", false)
def tyX5 : Nat → FieldType := fun k => match k with
  | 0 => .int
  | 1 => .int
  | _ => .int
abbrev wsX50 : List Cond := u_ws RX5 TX5 3
theorem nmX5 : ∀ a, a < 3 → ∀ b, b < 3 → a ≠ b → (TX5 a).2.1 ≠ (TX5 b).2.1 := by decide +kernel
theorem tyX5_ok : ∀ k, k < 3 → parseFieldDescriptor (TX5 k).2.2.1 = some (tyX5 k) := by decide +kernel
abbrev cX5_init : ByteArray := prog_7_method_1_code
def yX5_init : MethodName := ⟨RX5, "<init>", "()V"⟩
abbrev cX5_tells : ByteArray := prog_7_method_2_code
def yX5_tells : MethodName := ⟨RX5, "tells", "(I)I"⟩
abbrev cX5_become : ByteArray := prog_7_method_3_code
def yX5_become : MethodName := ⟨RX5, "become", "(II)V"⟩
abbrev cX5_copyFrom : ByteArray := prog_7_method_4_code
def yX5_copyFrom : MethodName := ⟨RX5, "copyFrom", "(LGorgeRocks$Rock;)V"⟩
abbrev cX5_canBeUndone : ByteArray := prog_7_method_5_code
def yX5_canBeUndone : MethodName := ⟨RX5, "canBeUndone", "()Z"⟩
def RX6 : String := "GorgeRocks$Row"
def TX6 : u_T := fun k => match k with
  | 0 => ("GorgeRocks$Row", "items", "[I", true)
  | _ => ("GorgeRocks$Row", "size", "I", false)
def tyX6 : Nat → FieldType := fun k => match k with
  | 0 => .array .int
  | _ => .int
abbrev wsX60 : List Cond := u_ws RX6 TX6 2
theorem nmX6 : ∀ a, a < 2 → ∀ b, b < 2 → a ≠ b → (TX6 a).2.1 ≠ (TX6 b).2.1 := by decide +kernel
theorem tyX6_ok : ∀ k, k < 2 → parseFieldDescriptor (TX6 k).2.2.1 = some (tyX6 k) := by decide +kernel
abbrev cX6_init : ByteArray := prog_8_method_1_code
def yX6_init : MethodName := ⟨RX6, "<init>", "(I)V"⟩
abbrev cX6_clear : ByteArray := prog_8_method_2_code
def yX6_clear : MethodName := ⟨RX6, "clear", "()V"⟩
abbrev cX6_add : ByteArray := prog_8_method_3_code
def yX6_add : MethodName := ⟨RX6, "add", "(I)Z"⟩
abbrev cX6_copyFrom : ByteArray := prog_8_method_4_code
def yX6_copyFrom : MethodName := ⟨RX6, "copyFrom", "(LGorgeRocks$Row;)V"⟩
abbrev cX6_firstUnlike : ByteArray := prog_8_method_5_code
def yX6_firstUnlike : MethodName := ⟨RX6, "firstUnlike", "(LGorgeRocks$Row;)I"⟩
abbrev cX6_isLike : ByteArray := prog_8_method_6_code
def yX6_isLike : MethodName := ⟨RX6, "isLike", "(LGorgeRocks$Row;)Z"⟩
abbrev cX6_unsafeSounds : ByteArray := prog_8_method_7_code
def yX6_unsafeSounds : MethodName := ⟨RX6, "unsafeSounds", "()I"⟩
abbrev cX6_sayNay : ByteArray := prog_8_method_8_code
def yX6_sayNay : MethodName := ⟨RX6, "sayNay", "(Z)V"⟩
abbrev cX6_turnNumbers : ByteArray := prog_8_method_9_code
def yX6_turnNumbers : MethodName := ⟨RX6, "turnNumbers", "()V"⟩
abbrev cX6_turnRound : ByteArray := prog_8_method_10_code
def yX6_turnRound : MethodName := ⟨RX6, "turnRound", "()V"⟩
abbrev cX6_leaveOutEach : ByteArray := prog_8_method_11_code
def yX6_leaveOutEach : MethodName := ⟨RX6, "leaveOutEach", "(I)V"⟩
def RX7 : String := "GorgeRocks$Sheet"
def TX7 : u_T := fun k => match k with
  | 0 => ("GorgeRocks$Sheet", "numbers", "[I", true)
  | 1 => ("GorgeRocks$Sheet", "bits", "I", false)
  | _ => ("GorgeRocks$Sheet", "size", "I", false)
def tyX7 : Nat → FieldType := fun k => match k with
  | 0 => .array .int
  | 1 => .int
  | _ => .int
abbrev wsX70 : List Cond := u_ws RX7 TX7 3
theorem nmX7 : ∀ a, a < 3 → ∀ b, b < 3 → a ≠ b → (TX7 a).2.1 ≠ (TX7 b).2.1 := by decide +kernel
theorem tyX7_ok : ∀ k, k < 3 → parseFieldDescriptor (TX7 k).2.2.1 = some (tyX7 k) := by decide +kernel
abbrev cX7_init : ByteArray := prog_9_method_1_code
def yX7_init : MethodName := ⟨RX7, "<init>", "()V"⟩
abbrev cX7_isMissing : ByteArray := prog_9_method_2_code
def yX7_isMissing : MethodName := ⟨RX7, "isMissing", "()Z"⟩
abbrev cX7_layOut : ByteArray := prog_9_method_3_code
def yX7_layOut : MethodName := ⟨RX7, "layOut", "(II)V"⟩
abbrev cX7_lowestBits : ByteArray := prog_9_method_4_code
def yX7_lowestBits : MethodName := ⟨RX7, "lowestBits", "(I)I"⟩
abbrev cX7_holds : ByteArray := prog_9_method_5_code
def yX7_holds : MethodName := ⟨RX7, "holds", "(II)Z"⟩
def RX8 : String := "GorgeRocks$Speaker"
def TX8 : u_T := fun k => match k with
  | 0 => ("GorgeRocks$Speaker", "trace", "LGorgeRocks$Row;", true)
  | 1 => ("GorgeRocks$Speaker", "parted", "Z", false)
  | 2 => ("GorgeRocks$Speaker", "kind", "I", false)
  | 3 => ("GorgeRocks$Speaker", "m", "I", false)
  | _ => ("GorgeRocks$Speaker", "k", "I", false)
def tyX8 : Nat → FieldType := fun k => match k with
  | 0 => .object "GorgeRocks$Row"
  | 1 => .boolean
  | 2 => .int
  | 3 => .int
  | _ => .int
abbrev wsX80 : List Cond := u_ws RX8 TX8 5
theorem nmX8 : ∀ a, a < 5 → ∀ b, b < 5 → a ≠ b → (TX8 a).2.1 ≠ (TX8 b).2.1 := by decide +kernel
theorem tyX8_ok : ∀ k, k < 5 → parseFieldDescriptor (TX8 k).2.2.1 = some (tyX8 k) := by decide +kernel
abbrev cX8_init : ByteArray := prog_10_method_1_code
def yX8_init : MethodName := ⟨RX8, "<init>", "()V"⟩
abbrev cX8_answer : ByteArray := prog_10_method_2_code
def yX8_answer : MethodName := ⟨RX8, "answer", "(LGorgeRocks$Rock;III)I"⟩
abbrev cX8_speak : ByteArray := prog_10_method_3_code
def yX8_speak : MethodName := ⟨RX8, "speak", "(IIII)I"⟩
abbrev cX8_waitsOfRock : ByteArray := prog_10_method_4_code
def yX8_waitsOfRock : MethodName := ⟨RX8, "waitsOfRock", "(I)I"⟩
abbrev cX8_ownerOfBody : ByteArray := prog_10_method_5_code
def yX8_ownerOfBody : MethodName := ⟨RX8, "ownerOfBody", "(II)I"⟩
def RX9 : String := "GorgeRocks$Text"
def TX9 : u_T := fun k => match k with
  | 0 => ("GorgeRocks$Text", "code", "LGorgeRocks$Row;", true)
  | _ => ("GorgeRocks$Text", "stack", "[I", true)
def tyX9 : Nat → FieldType := fun k => match k with
  | 0 => .object "GorgeRocks$Row"
  | _ => .array .int
abbrev wsX90 : List Cond := u_ws RX9 TX9 2
theorem nmX9 : ∀ a, a < 2 → ∀ b, b < 2 → a ≠ b → (TX9 a).2.1 ≠ (TX9 b).2.1 := by decide +kernel
theorem tyX9_ok : ∀ k, k < 2 → parseFieldDescriptor (TX9 k).2.2.1 = some (tyX9 k) := by decide +kernel
abbrev cX9_init : ByteArray := prog_11_method_1_code
def yX9_init : MethodName := ⟨RX9, "<init>", "()V"⟩
abbrev cX9_isThere : ByteArray := prog_11_method_2_code
def yX9_isThere : MethodName := ⟨RX9, "isThere", "()Z"⟩
abbrev cX9_workOut : ByteArray := prog_11_method_3_code
def yX9_workOut : MethodName := ⟨RX9, "workOut", "([I)I"⟩
abbrev cX9_nameOf : ByteArray := prog_11_method_4_code
def yX9_nameOf : MethodName := ⟨RX9, "nameOf", "(I[I)I"⟩
abbrev cX9_join : ByteArray := prog_11_method_5_code
def yX9_join : MethodName := ⟨RX9, "join", "(III)I"⟩
def RX10 : String := "GorgeRocks$World"
def TX10 : u_T := fun k => match k with
  | 0 => ("GorgeRocks$World", "calls", "[LGorgeRocks$Row;", true)
  | 1 => ("GorgeRocks$World", "rocks", "[LGorgeRocks$Rock;", true)
  | 2 => ("GorgeRocks$World", "texts", "[LGorgeRocks$Text;", true)
  | 3 => ("GorgeRocks$World", "tape", "LGorgeRocks$Row;", true)
  | 4 => ("GorgeRocks$World", "waiting", "LGorgeRocks$Row;", true)
  | 5 => ("GorgeRocks$World", "echoCalls", "LGorgeRocks$Row;", true)
  | 6 => ("GorgeRocks$World", "echoRocks", "LGorgeRocks$Row;", true)
  | 7 => ("GorgeRocks$World", "echoTimes", "LGorgeRocks$Row;", true)
  | 8 => ("GorgeRocks$World", "journal", "LGorgeRocks$Journal;", true)
  | 9 => ("GorgeRocks$World", "callCount", "I", false)
  | 10 => ("GorgeRocks$World", "rockCount", "I", false)
  | 11 => ("GorgeRocks$World", "now", "I", false)
  | 12 => ("GorgeRocks$World", "truth", "I", false)
  | 13 => ("GorgeRocks$World", "z", "I", false)
  | _ => ("GorgeRocks$World", "names", "[I", true)
def tyX10 : Nat → FieldType := fun k => match k with
  | 0 => .array (.object "GorgeRocks$Row")
  | 1 => .array (.object "GorgeRocks$Rock")
  | 2 => .array (.object "GorgeRocks$Text")
  | 3 => .object "GorgeRocks$Row"
  | 4 => .object "GorgeRocks$Row"
  | 5 => .object "GorgeRocks$Row"
  | 6 => .object "GorgeRocks$Row"
  | 7 => .object "GorgeRocks$Row"
  | 8 => .object "GorgeRocks$Journal"
  | 9 => .int
  | 10 => .int
  | 11 => .int
  | 12 => .int
  | 13 => .int
  | _ => .array .int
abbrev wsX100 : List Cond := u_ws RX10 TX10 15
theorem nmX10 : ∀ a, a < 15 → ∀ b, b < 15 → a ≠ b → (TX10 a).2.1 ≠ (TX10 b).2.1 := by decide +kernel
theorem tyX10_ok : ∀ k, k < 15 → parseFieldDescriptor (TX10 k).2.2.1 = some (tyX10 k) := by decide +kernel
abbrev cX10_init : ByteArray := prog_12_method_1_code
def yX10_init : MethodName := ⟨RX10, "<init>", "()V"⟩
abbrev cX10_copyFrom : ByteArray := prog_12_method_2_code
def yX10_copyFrom : MethodName := ⟨RX10, "copyFrom", "(LGorgeRocks$World;)V"⟩
abbrev cX10_nextDraw : ByteArray := prog_12_method_3_code
def yX10_nextDraw : MethodName := ⟨RX10, "nextDraw", "()I"⟩
abbrev cX10_readWay : ByteArray := prog_12_method_4_code
def yX10_readWay : MethodName := ⟨RX10, "readWay", "(ILGorgeRocks$Row;)Z"⟩
abbrev cX10_sendBack : ByteArray := prog_12_method_5_code
def yX10_sendBack : MethodName := ⟨RX10, "sendBack", "(LGorgeRocks$Rock;LGorgeRocks$Row;)V"⟩
abbrev cX10_turnByText : ByteArray := prog_12_method_6_code
def yX10_turnByText : MethodName := ⟨RX10, "turnByText", "(LGorgeRocks$Row;I)V"⟩
abbrev cX10_hear : ByteArray := prog_12_method_7_code
def yX10_hear : MethodName := ⟨RX10, "hear", "(LGorgeRocks$Row;LGorgeRocks$Row;LGorgeRocks$Row;)V"⟩
abbrev cX10_logEcho : ByteArray := prog_12_method_8_code
def yX10_logEcho : MethodName := ⟨RX10, "logEcho", "(II)V"⟩
abbrev cX10_addEcho : ByteArray := prog_12_method_9_code
def yX10_addEcho : MethodName := ⟨RX10, "addEcho", "(III)V"⟩
abbrev cX10_letSecondGoBy : ByteArray := prog_12_method_10_code
def yX10_letSecondGoBy : MethodName := ⟨RX10, "letSecondGoBy", "()V"⟩
abbrev cX10_nextOffer : ByteArray := prog_12_method_11_code
def yX10_nextOffer : MethodName := ⟨RX10, "nextOffer", "(IIII)I"⟩
def RX11 : String := "GorgeRocks"
def TX11 : u_T := fun k => match k with
  | 0 => ("GorgeRocks", "world", "LGorgeRocks$World;", true)
  | 1 => ("GorgeRocks", "kept", "LGorgeRocks$World;", true)
  | 2 => ("GorgeRocks", "reader", "LGorgeRocks$Reader;", true)
  | 3 => ("GorgeRocks", "grammar", "LGorgeRocks$Grammar;", true)
  | 4 => ("GorgeRocks", "meanings", "LGorgeRocks$Meanings;", true)
  | 5 => ("GorgeRocks", "deal", "LGorgeRocks$Deal;", true)
  | 6 => ("GorgeRocks", "speaker", "LGorgeRocks$Speaker;", true)
  | 7 => ("GorgeRocks", "sheets", "[LGorgeRocks$Sheet;", true)
  | 8 => ("GorgeRocks", "firstWay", "LGorgeRocks$Row;", true)
  | 9 => ("GorgeRocks", "secondWay", "LGorgeRocks$Row;", true)
  | 10 => ("GorgeRocks", "firstRow", "LGorgeRocks$Row;", true)
  | 11 => ("GorgeRocks", "secondRow", "LGorgeRocks$Row;", true)
  | 12 => ("GorgeRocks", "between", "[LGorgeRocks$Row;", true)
  | 13 => ("GorgeRocks", "errorCounts", "[I", true)
  | _ => ("GorgeRocks", "imageCount", "I", false)
def tyX11 : Nat → FieldType := fun k => match k with
  | 0 => .object "GorgeRocks$World"
  | 1 => .object "GorgeRocks$World"
  | 2 => .object "GorgeRocks$Reader"
  | 3 => .object "GorgeRocks$Grammar"
  | 4 => .object "GorgeRocks$Meanings"
  | 5 => .object "GorgeRocks$Deal"
  | 6 => .object "GorgeRocks$Speaker"
  | 7 => .array (.object "GorgeRocks$Sheet")
  | 8 => .object "GorgeRocks$Row"
  | 9 => .object "GorgeRocks$Row"
  | 10 => .object "GorgeRocks$Row"
  | 11 => .object "GorgeRocks$Row"
  | 12 => .array (.object "GorgeRocks$Row")
  | 13 => .array .int
  | _ => .int
abbrev wsX110 : List Cond := u_ws RX11 TX11 15
theorem nmX11 : ∀ a, a < 15 → ∀ b, b < 15 → a ≠ b → (TX11 a).2.1 ≠ (TX11 b).2.1 := by decide +kernel
theorem tyX11_ok : ∀ k, k < 15 → parseFieldDescriptor (TX11 k).2.2.1 = some (tyX11 k) := by decide +kernel
abbrev cX11_init : ByteArray := prog_1_method_1_code
def yX11_init : MethodName := ⟨RX11, "<init>", "()V"⟩
abbrev cX11_call : ByteArray := prog_1_method_2_code
def yX11_call : MethodName := ⟨RX11, "call", "()I"⟩
abbrev cX11_sound : ByteArray := prog_1_method_3_code
def yX11_sound : MethodName := ⟨RX11, "sound", "(II)I"⟩
abbrev cX11_soundOf : ByteArray := prog_1_method_4_code
def yX11_soundOf : MethodName := ⟨RX11, "soundOf", "(II)I"⟩
abbrev cX11_hush : ByteArray := prog_1_method_5_code
def yX11_hush : MethodName := ⟨RX11, "hush", "(I)I"⟩
abbrev cX11_draw : ByteArray := prog_1_method_6_code
def yX11_draw : MethodName := ⟨RX11, "draw", "(II)I"⟩
abbrev cX11_contrary : ByteArray := prog_1_method_7_code
def yX11_contrary : MethodName := ⟨RX11, "contrary", "(I)I"⟩
abbrev cX11_rock : ByteArray := prog_1_method_8_code
def yX11_rock : MethodName := ⟨RX11, "rock", "(II)I"⟩
abbrev cX11_rockIs : ByteArray := prog_1_method_9_code
def yX11_rockIs : MethodName := ⟨RX11, "rockIs", "(II)I"⟩
abbrev cX11_as : ByteArray := prog_1_method_10_code
def yX11_as : MethodName := ⟨RX11, "as", "(II)I"⟩
abbrev cX11_set : ByteArray := prog_1_method_11_code
def yX11_set : MethodName := ⟨RX11, "set", "(III)I"⟩
abbrev cX11_feed : ByteArray := prog_1_method_12_code
def yX11_feed : MethodName := ⟨RX11, "feed", "(JI)I"⟩
abbrev cX11_text : ByteArray := prog_1_method_13_code
def yX11_text : MethodName := ⟨RX11, "text", "(I)I"⟩
abbrev cX11_untell : ByteArray := prog_1_method_14_code
def yX11_untell : MethodName := ⟨RX11, "untell", "(I)I"⟩
abbrev cX11_heard : ByteArray := prog_1_method_15_code
def yX11_heard : MethodName := ⟨RX11, "heard", "(III)I"⟩
abbrev cX11_self : ByteArray := prog_1_method_16_code
def yX11_self : MethodName := ⟨RX11, "self", "(II)I"⟩
abbrev cX11_takes : ByteArray := prog_1_method_17_code
def yX11_takes : MethodName := ⟨RX11, "takes", "(I)I"⟩
abbrev cX11_echo : ByteArray := prog_1_method_18_code
def yX11_echo : MethodName := ⟨RX11, "echo", "(III)I"⟩
abbrev cX11_which : ByteArray := prog_1_method_19_code
def yX11_which : MethodName := ⟨RX11, "which", "(II)I"⟩
abbrev cX11_ways : ByteArray := prog_1_method_20_code
def yX11_ways : MethodName := ⟨RX11, "ways", "(III)I"⟩
abbrev cX11_need : ByteArray := prog_1_method_21_code
def yX11_need : MethodName := ⟨RX11, "need", "(III)I"⟩
abbrev cX11_meant : ByteArray := prog_1_method_22_code
def yX11_meant : MethodName := ⟨RX11, "meant", "(II)I"⟩
abbrev cX11_place : ByteArray := prog_1_method_23_code
def yX11_place : MethodName := ⟨RX11, "place", "(III)I"⟩
abbrev cX11_safe : ByteArray := prog_1_method_24_code
def yX11_safe : MethodName := ⟨RX11, "safe", "(II)I"⟩
abbrev cX11_part : ByteArray := prog_1_method_25_code
def yX11_part : MethodName := ⟨RX11, "part", "(III)I"⟩
abbrev cX11_reads : ByteArray := prog_1_method_26_code
def yX11_reads : MethodName := ⟨RX11, "reads", "(I)I"⟩
abbrev cX11_so : ByteArray := prog_1_method_27_code
def yX11_so : MethodName := ⟨RX11, "so", "(I)I"⟩
abbrev cX11_says : ByteArray := prog_1_method_28_code
def yX11_says : MethodName := ⟨RX11, "says", "(II)I"⟩
abbrev cX11_shout : ByteArray := prog_1_method_29_code
def yX11_shout : MethodName := ⟨RX11, "shout", "(II)I"⟩
abbrev cX11_seconds : ByteArray := prog_1_method_30_code
def yX11_seconds : MethodName := ⟨RX11, "seconds", "(I)I"⟩
abbrev cX11_log : ByteArray := prog_1_method_31_code
def yX11_log : MethodName := ⟨RX11, "log", "(II)I"⟩
abbrev cX11_bargain : ByteArray := prog_1_method_32_code
def yX11_bargain : MethodName := ⟨RX11, "bargain", "(IIIII)I"⟩
abbrev cX11_seed : ByteArray := prog_1_method_33_code
def yX11_seed : MethodName := ⟨RX11, "seed", "(I)I"⟩
abbrev cX11_voice : ByteArray := prog_1_method_34_code
def yX11_voice : MethodName := ⟨RX11, "voice", "(III)I"⟩
abbrev cX11_body : ByteArray := prog_1_method_35_code
def yX11_body : MethodName := ⟨RX11, "body", "(I)I"⟩
abbrev cX11_sheet : ByteArray := prog_1_method_36_code
def yX11_sheet : MethodName := ⟨RX11, "sheet", "(III)I"⟩
abbrev cX11_put : ByteArray := prog_1_method_37_code
def yX11_put : MethodName := ⟨RX11, "put", "(III)I"⟩
abbrev cX11_move : ByteArray := prog_1_method_38_code
def yX11_move : MethodName := ⟨RX11, "move", "(IIIII)I"⟩
abbrev cX11_sounds : ByteArray := prog_1_method_39_code
def yX11_sounds : MethodName := ⟨RX11, "sounds", "(II)I"⟩
abbrev cX11_image : ByteArray := prog_1_method_40_code
def yX11_image : MethodName := ⟨RX11, "image", "()I"⟩
abbrev cX11_restore : ByteArray := prog_1_method_41_code
def yX11_restore : MethodName := ⟨RX11, "restore", "()I"⟩
abbrev cX11_tell : ByteArray := prog_1_method_42_code
def yX11_tell : MethodName := ⟨RX11, "tell", "(I)I"⟩
abbrev cX11_check : ByteArray := prog_1_method_43_code
def yX11_check : MethodName := ⟨RX11, "check", "(II)I"⟩
abbrev cX11_count : ByteArray := prog_1_method_44_code
def yX11_count : MethodName := ⟨RX11, "count", "(I)I"⟩
abbrev cX11_told : ByteArray := prog_1_method_45_code
def yX11_told : MethodName := ⟨RX11, "told", "(I)I"⟩
abbrev cX11_error : ByteArray := prog_1_method_46_code
def yX11_error : MethodName := ⟨RX11, "error", "(I)I"⟩
abbrev cX11_soundOrSize : ByteArray := prog_1_method_47_code
def yX11_soundOrSize : MethodName := ⟨RX11, "soundOrSize", "(LGorgeRocks$Row;I)I"⟩
abbrev cX11_isCall : ByteArray := prog_1_method_48_code
def yX11_isCall : MethodName := ⟨RX11, "isCall", "(I)Z"⟩
abbrev cX11_isRock : ByteArray := prog_1_method_49_code
def yX11_isRock : MethodName := ⟨RX11, "isRock", "(I)Z"⟩
abbrev cX11_isSheet : ByteArray := prog_1_method_50_code
def yX11_isSheet : MethodName := ⟨RX11, "isSheet", "(I)Z"⟩
abbrev cX11_isKind : ByteArray := prog_1_method_51_code
def yX11_isKind : MethodName := ⟨RX11, "isKind", "(I)Z"⟩
abbrev cX11_isDelay : ByteArray := prog_1_method_52_code
def yX11_isDelay : MethodName := ⟨RX11, "isDelay", "(I)Z"⟩
abbrev cX11_isUse : ByteArray := prog_1_method_53_code
def yX11_isUse : MethodName := ⟨RX11, "isUse", "(I)Z"⟩
abbrev cX11_mayBecome : ByteArray := prog_1_method_54_code
def yX11_mayBecome : MethodName := ⟨RX11, "mayBecome", "(II)Z"⟩
abbrev cX11_isUnder : ByteArray := prog_1_method_55_code
def yX11_isUnder : MethodName := ⟨RX11, "isUnder", "(II)Z"⟩
abbrev cX11_rocksThatMake : ByteArray := prog_1_method_56_code
def yX11_rocksThatMake : MethodName := ⟨RX11, "rocksThatMake", "(LGorgeRocks$Row;LGorgeRocks$Row;)I"⟩
abbrev cX11_waysTo : ByteArray := prog_1_method_57_code
def yX11_waysTo : MethodName := ⟨RX11, "waysTo", "(LGorgeRocks$Row;LGorgeRocks$Row;I)I"⟩
abbrev cX11_isSound : ByteArray := prog_1_method_58_code
def yX11_isSound : MethodName := ⟨RX11, "isSound", "(I)Z"⟩
abbrev cX11_isNumber : ByteArray := prog_1_method_59_code
def yX11_isNumber : MethodName := ⟨RX11, "isNumber", "(I)Z"⟩
abbrev cX11_soundOr60 : ByteArray := prog_1_method_60_code
def yX11_soundOr60 : MethodName := ⟨RX11, "soundOr60", "(I)I"⟩
abbrev cX11_contraryOf : ByteArray := prog_1_method_61_code
def yX11_contraryOf : MethodName := ⟨RX11, "contraryOf", "(I)I"⟩
def RX12 : String := "GorgeRocksModel"
def TX12 : u_T := fun k => match k with
  | 0 => ("GorgeRocksModel", "s", "[I", true)
  | 1 => ("GorgeRocksModel", "kept", "[I", true)
  | 2 => ("GorgeRocksModel", "images", "I", false)
  | 3 => ("GorgeRocksModel", "errors", "[I", true)
  | 4 => ("GorgeRocksModel", "row", "[I", true)
  | 5 => ("GorgeRocksModel", "spare", "[I", true)
  | 6 => ("GorgeRocksModel", "other", "[I", true)
  | 7 => ("GorgeRocksModel", "at", "I", false)
  | 8 => ("GorgeRocksModel", "open", "I", false)
  | 9 => ("GorgeRocksModel", "steps", "I", false)
  | 10 => ("GorgeRocksModel", "use", "I", false)
  | 11 => ("GorgeRocksModel", "step", "[I", true)
  | 12 => ("GorgeRocksModel", "named", "[I", true)
  | 13 => ("GorgeRocksModel", "pile", "[I", true)
  | 14 => ("GorgeRocksModel", "meantRows", "[I", true)
  | 15 => ("GorgeRocksModel", "many", "I", false)
  | 16 => ("GorgeRocksModel", "from", "I", false)
  | 17 => ("GorgeRocksModel", "isWrong", "Z", false)
  | 18 => ("GorgeRocksModel", "trace", "[I", true)
  | 19 => ("GorgeRocksModel", "traced", "I", false)
  | 20 => ("GorgeRocksModel", "speaks", "I", false)
  | 21 => ("GorgeRocksModel", "isParted", "Z", false)
  | 22 => ("GorgeRocksModel", "bits", "[I", true)
  | 23 => ("GorgeRocksModel", "sizes", "[I", true)
  | 24 => ("GorgeRocksModel", "number", "[I", true)
  | _ => ("GorgeRocksModel", "aside", "[I", true)
def tyX12 : Nat → FieldType := fun k => match k with
  | 0 => .array .int
  | 1 => .array .int
  | 2 => .int
  | 3 => .array .int
  | 4 => .array .int
  | 5 => .array .int
  | 6 => .array .int
  | 7 => .int
  | 8 => .int
  | 9 => .int
  | 10 => .int
  | 11 => .array .int
  | 12 => .array .int
  | 13 => .array .int
  | 14 => .array .int
  | 15 => .int
  | 16 => .int
  | 17 => .boolean
  | 18 => .array .int
  | 19 => .int
  | 20 => .int
  | 21 => .boolean
  | 22 => .array .int
  | 23 => .array .int
  | 24 => .array .int
  | _ => .array .int
abbrev wsX120 : List Cond := u_ws RX12 TX12 26
theorem nmX12 : ∀ a, a < 26 → ∀ b, b < 26 → a ≠ b → (TX12 a).2.1 ≠ (TX12 b).2.1 := by decide +kernel
theorem tyX12_ok : ∀ k, k < 26 → parseFieldDescriptor (TX12 k).2.2.1 = some (tyX12 k) := by decide +kernel
abbrev cX12_init : ByteArray := prog_14_method_1_code
def yX12_init : MethodName := ⟨RX12, "<init>", "()V"⟩
abbrev cX12_error : ByteArray := prog_14_method_2_code
def yX12_error : MethodName := ⟨RX12, "error", "(I)I"⟩
abbrev cX12_in : ByteArray := prog_14_method_3_code
def yX12_in : MethodName := ⟨RX12, "in", "(III)Z"⟩
abbrev cX12_held : ByteArray := prog_14_method_4_code
def yX12_held : MethodName := ⟨RX12, "held", "(III)I"⟩
abbrev cX12_carry : ByteArray := prog_14_method_5_code
def yX12_carry : MethodName := ⟨RX12, "carry", "([I[I)V"⟩
abbrev cX12_isCall : ByteArray := prog_14_method_6_code
def yX12_isCall : MethodName := ⟨RX12, "isCall", "(I)Z"⟩
abbrev cX12_isRock : ByteArray := prog_14_method_7_code
def yX12_isRock : MethodName := ⟨RX12, "isRock", "(I)Z"⟩
abbrev cX12_its : ByteArray := prog_14_method_8_code
def yX12_its : MethodName := ⟨RX12, "its", "(II)I"⟩
abbrev cX12_isSound : ByteArray := prog_14_method_9_code
def yX12_isSound : MethodName := ⟨RX12, "isSound", "(I)Z"⟩
abbrev cX12_contraryOf : ByteArray := prog_14_method_10_code
def yX12_contraryOf : MethodName := ⟨RX12, "contraryOf", "(I)I"⟩
abbrev cX12_areAlike : ByteArray := prog_14_method_11_code
def yX12_areAlike : MethodName := ⟨RX12, "areAlike", "([I[I)Z"⟩
abbrev cX12_take : ByteArray := prog_14_method_12_code
def yX12_take : MethodName := ⟨RX12, "take", "(I[I)V"⟩
abbrev cX12_lay : ByteArray := prog_14_method_13_code
def yX12_lay : MethodName := ⟨RX12, "lay", "([II)V"⟩
abbrev cX12_turns : ByteArray := prog_14_method_14_code
def yX12_turns : MethodName := ⟨RX12, "turns", "([I)V"⟩
abbrev cX12_denies : ByteArray := prog_14_method_15_code
def yX12_denies : MethodName := ⟨RX12, "denies", "([III)V"⟩
abbrev cX12_swallows : ByteArray := prog_14_method_16_code
def yX12_swallows : MethodName := ⟨RX12, "swallows", "([II)V"⟩
abbrev cX12_asTold : ByteArray := prog_14_method_17_code
def yX12_asTold : MethodName := ⟨RX12, "asTold", "([II)V"⟩
abbrev cX12_sends : ByteArray := prog_14_method_18_code
def yX12_sends : MethodName := ⟨RX12, "sends", "(I[I)V"⟩
abbrev cX12_isWay : ByteArray := prog_14_method_19_code
def yX12_isWay : MethodName := ⟨RX12, "isWay", "(I)Z"⟩
abbrev cX12_size : ByteArray := prog_14_method_20_code
def yX12_size : MethodName := ⟨RX12, "size", "(I)I"⟩
abbrev cX12_rockOf : ByteArray := prog_14_method_21_code
def yX12_rockOf : MethodName := ⟨RX12, "rockOf", "(II)I"⟩
abbrev cX12_goesOver : ByteArray := prog_14_method_22_code
def yX12_goesOver : MethodName := ⟨RX12, "goesOver", "(I[I)V"⟩
abbrev cX12_hears : ByteArray := prog_14_method_23_code
def yX12_hears : MethodName := ⟨RX12, "hears", "(II[I)V"⟩
abbrev cX12_canUndo : ByteArray := prog_14_method_24_code
def yX12_canUndo : MethodName := ⟨RX12, "canUndo", "(I)Z"⟩
abbrev cX12_needs : ByteArray := prog_14_method_25_code
def yX12_needs : MethodName := ⟨RX12, "needs", "(II[I)V"⟩
abbrev cX12_call : ByteArray := prog_14_method_26_code
def yX12_call : MethodName := ⟨RX12, "call", "()I"⟩
abbrev cX12_sound : ByteArray := prog_14_method_27_code
def yX12_sound : MethodName := ⟨RX12, "sound", "(II)I"⟩
abbrev cX12_toldOf : ByteArray := prog_14_method_28_code
def yX12_toldOf : MethodName := ⟨RX12, "toldOf", "([II)I"⟩
abbrev cX12_soundOf : ByteArray := prog_14_method_29_code
def yX12_soundOf : MethodName := ⟨RX12, "soundOf", "(II)I"⟩
abbrev cX12_hush : ByteArray := prog_14_method_30_code
def yX12_hush : MethodName := ⟨RX12, "hush", "(I)I"⟩
abbrev cX12_drawn : ByteArray := prog_14_method_31_code
def yX12_drawn : MethodName := ⟨RX12, "drawn", "()I"⟩
abbrev cX12_draw : ByteArray := prog_14_method_32_code
def yX12_draw : MethodName := ⟨RX12, "draw", "(II)I"⟩
abbrev cX12_contrary : ByteArray := prog_14_method_33_code
def yX12_contrary : MethodName := ⟨RX12, "contrary", "(I)I"⟩
abbrev cX12_rock : ByteArray := prog_14_method_34_code
def yX12_rock : MethodName := ⟨RX12, "rock", "(II)I"⟩
abbrev cX12_rockIs : ByteArray := prog_14_method_35_code
def yX12_rockIs : MethodName := ⟨RX12, "rockIs", "(II)I"⟩
abbrev cX12_isUnder : ByteArray := prog_14_method_36_code
def yX12_isUnder : MethodName := ⟨RX12, "isUnder", "(II)Z"⟩
abbrev cX12_as : ByteArray := prog_14_method_37_code
def yX12_as : MethodName := ⟨RX12, "as", "(II)I"⟩
abbrev cX12_set : ByteArray := prog_14_method_38_code
def yX12_set : MethodName := ⟨RX12, "set", "(III)I"⟩
abbrev cX12_feed : ByteArray := prog_14_method_39_code
def yX12_feed : MethodName := ⟨RX12, "feed", "(JI)I"⟩
abbrev cX12_look : ByteArray := prog_14_method_40_code
def yX12_look : MethodName := ⟨RX12, "look", "()I"⟩
abbrev cX12_isName : ByteArray := prog_14_method_41_code
def yX12_isName : MethodName := ⟨RX12, "isName", "(I)Z"⟩
abbrev cX12_lays : ByteArray := prog_14_method_42_code
def yX12_lays : MethodName := ⟨RX12, "lays", "(II)V"⟩
abbrev cX12_whole : ByteArray := prog_14_method_43_code
def yX12_whole : MethodName := ⟨RX12, "whole", "()Z"⟩
abbrev cX12_both : ByteArray := prog_14_method_44_code
def yX12_both : MethodName := ⟨RX12, "both", "()Z"⟩
abbrev cX12_compared : ByteArray := prog_14_method_45_code
def yX12_compared : MethodName := ⟨RX12, "compared", "()Z"⟩
abbrev cX12_sum : ByteArray := prog_14_method_46_code
def yX12_sum : MethodName := ⟨RX12, "sum", "()Z"⟩
abbrev cX12_product : ByteArray := prog_14_method_47_code
def yX12_product : MethodName := ⟨RX12, "product", "()Z"⟩
abbrev cX12_opens : ByteArray := prog_14_method_48_code
def yX12_opens : MethodName := ⟨RX12, "opens", "()Z"⟩
abbrev cX12_one : ByteArray := prog_14_method_49_code
def yX12_one : MethodName := ⟨RX12, "one", "()Z"⟩
abbrev cX12_hasText : ByteArray := prog_14_method_50_code
def yX12_hasText : MethodName := ⟨RX12, "hasText", "(I)Z"⟩
abbrev cX12_text : ByteArray := prog_14_method_51_code
def yX12_text : MethodName := ⟨RX12, "text", "(I)I"⟩
abbrev cX12_untell : ByteArray := prog_14_method_52_code
def yX12_untell : MethodName := ⟨RX12, "untell", "(I)I"⟩
abbrev cX12_joined : ByteArray := prog_14_method_53_code
def yX12_joined : MethodName := ⟨RX12, "joined", "(III)I"⟩
abbrev cX12_worked : ByteArray := prog_14_method_54_code
def yX12_worked : MethodName := ⟨RX12, "worked", "(I)I"⟩
abbrev cX12_heard : ByteArray := prog_14_method_55_code
def yX12_heard : MethodName := ⟨RX12, "heard", "(III)I"⟩
abbrev cX12_self : ByteArray := prog_14_method_56_code
def yX12_self : MethodName := ⟨RX12, "self", "(II)I"⟩
abbrev cX12_takes : ByteArray := prog_14_method_57_code
def yX12_takes : MethodName := ⟨RX12, "takes", "(I)I"⟩
abbrev cX12_echo : ByteArray := prog_14_method_58_code
def yX12_echo : MethodName := ⟨RX12, "echo", "(III)I"⟩
abbrev cX12_comesBy : ByteArray := prog_14_method_59_code
def yX12_comesBy : MethodName := ⟨RX12, "comesBy", "(II[I)I"⟩
abbrev cX12_which : ByteArray := prog_14_method_60_code
def yX12_which : MethodName := ⟨RX12, "which", "(II)I"⟩
abbrev cX12_ways : ByteArray := prog_14_method_61_code
def yX12_ways : MethodName := ⟨RX12, "ways", "(III)I"⟩
abbrev cX12_need : ByteArray := prog_14_method_62_code
def yX12_need : MethodName := ⟨RX12, "need", "(III)I"⟩
abbrev cX12_findMeant : ByteArray := prog_14_method_63_code
def yX12_findMeant : MethodName := ⟨RX12, "findMeant", "(II)V"⟩
abbrev cX12_meant : ByteArray := prog_14_method_64_code
def yX12_meant : MethodName := ⟨RX12, "meant", "(II)I"⟩
abbrev cX12_unlikeIn : ByteArray := prog_14_method_65_code
def yX12_unlikeIn : MethodName := ⟨RX12, "unlikeIn", "(I)I"⟩
abbrev cX12_place : ByteArray := prog_14_method_66_code
def yX12_place : MethodName := ⟨RX12, "place", "(III)I"⟩
abbrev cX12_safe : ByteArray := prog_14_method_67_code
def yX12_safe : MethodName := ⟨RX12, "safe", "(II)I"⟩
abbrev cX12_part : ByteArray := prog_14_method_68_code
def yX12_part : MethodName := ⟨RX12, "part", "(III)I"⟩
abbrev cX12_soundAt : ByteArray := prog_14_method_69_code
def yX12_soundAt : MethodName := ⟨RX12, "soundAt", "(I)I"⟩
abbrev cX12_isSo : ByteArray := prog_14_method_70_code
def yX12_isSo : MethodName := ⟨RX12, "isSo", "(I)Z"⟩
abbrev cX12_term : ByteArray := prog_14_method_71_code
def yX12_term : MethodName := ⟨RX12, "term", "()Z"⟩
abbrev cX12_saying : ByteArray := prog_14_method_72_code
def yX12_saying : MethodName := ⟨RX12, "saying", "()Z"⟩
abbrev cX12_reads : ByteArray := prog_14_method_73_code
def yX12_reads : MethodName := ⟨RX12, "reads", "(I)I"⟩
abbrev cX12_so : ByteArray := prog_14_method_74_code
def yX12_so : MethodName := ⟨RX12, "so", "(I)I"⟩
abbrev cX12_says : ByteArray := prog_14_method_75_code
def yX12_says : MethodName := ⟨RX12, "says", "(II)I"⟩
abbrev cX12_logs : ByteArray := prog_14_method_76_code
def yX12_logs : MethodName := ⟨RX12, "logs", "(I)V"⟩
abbrev cX12_comes : ByteArray := prog_14_method_77_code
def yX12_comes : MethodName := ⟨RX12, "comes", "()V"⟩
abbrev cX12_shout : ByteArray := prog_14_method_78_code
def yX12_shout : MethodName := ⟨RX12, "shout", "(II)I"⟩
abbrev cX12_seconds : ByteArray := prog_14_method_79_code
def yX12_seconds : MethodName := ⟨RX12, "seconds", "(I)I"⟩
abbrev cX12_log : ByteArray := prog_14_method_80_code
def yX12_log : MethodName := ⟨RX12, "log", "(II)I"⟩
abbrev cX12_offers : ByteArray := prog_14_method_81_code
def yX12_offers : MethodName := ⟨RX12, "offers", "(IIII)I"⟩
abbrev cX12_hearsOf : ByteArray := prog_14_method_82_code
def yX12_hearsOf : MethodName := ⟨RX12, "hearsOf", "(III)I"⟩
abbrev cX12_bargain : ByteArray := prog_14_method_83_code
def yX12_bargain : MethodName := ⟨RX12, "bargain", "(IIIII)I"⟩
abbrev cX12_seed : ByteArray := prog_14_method_84_code
def yX12_seed : MethodName := ⟨RX12, "seed", "(I)I"⟩
abbrev cX12_begins : ByteArray := prog_14_method_85_code
def yX12_begins : MethodName := ⟨RX12, "begins", "(I)V"⟩
abbrev cX12_above : ByteArray := prog_14_method_86_code
def yX12_above : MethodName := ⟨RX12, "above", "(I)I"⟩
abbrev cX12_kindNow : ByteArray := prog_14_method_87_code
def yX12_kindNow : MethodName := ⟨RX12, "kindNow", "()I"⟩
abbrev cX12_turnsBy : ByteArray := prog_14_method_88_code
def yX12_turnsBy : MethodName := ⟨RX12, "turnsBy", "(II)I"⟩
abbrev cX12_sendsBy : ByteArray := prog_14_method_89_code
def yX12_sendsBy : MethodName := ⟨RX12, "sendsBy", "(II)I"⟩
abbrev cX12_keepsBy : ByteArray := prog_14_method_90_code
def yX12_keepsBy : MethodName := ⟨RX12, "keepsBy", "(II)I"⟩
abbrev cX12_waitsBy : ByteArray := prog_14_method_91_code
def yX12_waitsBy : MethodName := ⟨RX12, "waitsBy", "(II)I"⟩
abbrev cX12_voice : ByteArray := prog_14_method_92_code
def yX12_voice : MethodName := ⟨RX12, "voice", "(III)I"⟩
abbrev cX12_body : ByteArray := prog_14_method_93_code
def yX12_body : MethodName := ⟨RX12, "body", "(I)I"⟩
abbrev cX12_isSheet : ByteArray := prog_14_method_94_code
def yX12_isSheet : MethodName := ⟨RX12, "isSheet", "(I)Z"⟩
abbrev cX12_sheet : ByteArray := prog_14_method_95_code
def yX12_sheet : MethodName := ⟨RX12, "sheet", "(III)I"⟩
abbrev cX12_put : ByteArray := prog_14_method_96_code
def yX12_put : MethodName := ⟨RX12, "put", "(III)I"⟩
abbrev cX12_move : ByteArray := prog_14_method_97_code
def yX12_move : MethodName := ⟨RX12, "move", "(IIIII)I"⟩
abbrev cX12_sounds : ByteArray := prog_14_method_98_code
def yX12_sounds : MethodName := ⟨RX12, "sounds", "(II)I"⟩
abbrev cX12_image : ByteArray := prog_14_method_99_code
def yX12_image : MethodName := ⟨RX12, "image", "()I"⟩
abbrev cX12_restore : ByteArray := prog_14_method_100_code
def yX12_restore : MethodName := ⟨RX12, "restore", "()I"⟩
abbrev cX12_tell : ByteArray := prog_14_method_101_code
def yX12_tell : MethodName := ⟨RX12, "tell", "(I)I"⟩
abbrev cX12_check : ByteArray := prog_14_method_102_code
def yX12_check : MethodName := ⟨RX12, "check", "(II)I"⟩
abbrev cX12_count : ByteArray := prog_14_method_103_code
def yX12_count : MethodName := ⟨RX12, "count", "(I)I"⟩
abbrev cX12_told : ByteArray := prog_14_method_104_code
def yX12_told : MethodName := ⟨RX12, "told", "(I)I"⟩
def RJ11 : String := "java/lang/Character"
def TJ11 : u_T := fun k => match k with
  | _ => ("", "", "", false)
def tyJ11 : Nat → FieldType := fun k => match k with
  | _ => .int
abbrev wsJ110 : List Cond := u_ws RJ11 TJ11 0
theorem nmJ11 : ∀ a, a < 0 → ∀ b, b < 0 → a ≠ b → (TJ11 a).2.1 ≠ (TJ11 b).2.1 := by decide +kernel
theorem tyJ11_ok : ∀ k, k < 0 → parseFieldDescriptor (TJ11 k).2.2.1 = some (tyJ11 k) := by decide +kernel
abbrev cJ11_isValidCodePoint_9a6ad : ByteArray := prog_15_method_11_code
def yJ11_isValidCodePoint_9a6ad : MethodName := ⟨RJ11, "isValidCodePoint", "(I)Z"⟩
abbrev cJ11_highSurrogate_5068e : ByteArray := prog_15_method_28_code
def yJ11_highSurrogate_5068e : MethodName := ⟨RJ11, "highSurrogate", "(I)C"⟩
abbrev cJ11_lowSurrogate_5068e : ByteArray := prog_15_method_29_code
def yJ11_lowSurrogate_5068e : MethodName := ⟨RJ11, "lowSurrogate", "(I)C"⟩
def RJ13 : String := "java/lang/Long"
def TJ13 : u_T := fun k => match k with
  | _ => ("", "", "", false)
def tyJ13 : Nat → FieldType := fun k => match k with
  | _ => .int
abbrev wsJ130 : List Cond := u_ws RJ13 TJ13 0
theorem nmJ13 : ∀ a, a < 0 → ∀ b, b < 0 → a ≠ b → (TJ13 a).2.1 ≠ (TJ13 b).2.1 := by decide +kernel
theorem tyJ13_ok : ∀ k, k < 0 → parseFieldDescriptor (TJ13 k).2.2.1 = some (tyJ13 k) := by decide +kernel
abbrev cJ13_bitCount_95d88 : ByteArray := prog_16_method_50_code
def yJ13_bitCount_95d88 : MethodName := ⟨RJ13, "bitCount", "(J)I"⟩
def RJ9 : String := "java/lang/Math"
def TJ9 : u_T := fun k => match k with
  | _ => ("", "", "", false)
def tyJ9 : Nat → FieldType := fun k => match k with
  | _ => .int
abbrev wsJ90 : List Cond := u_ws RJ9 TJ9 0
theorem nmJ9 : ∀ a, a < 0 → ∀ b, b < 0 → a ≠ b → (TJ9 a).2.1 ≠ (TJ9 b).2.1 := by decide +kernel
theorem tyJ9_ok : ∀ k, k < 0 → parseFieldDescriptor (TJ9 k).2.2.1 = some (tyJ9 k) := by decide +kernel
abbrev cJ9_max_7cf53 : ByteArray := prog_17_method_65_code
def yJ9_max_7cf53 : MethodName := ⟨RJ9, "max", "(II)I"⟩
abbrev cJ9_min_7cf53 : ByteArray := prog_17_method_69_code
def yJ9_min_7cf53 : MethodName := ⟨RJ9, "min", "(II)I"⟩
def RJ0 : String := "java/lang/String"
def TJ0 : u_T := fun k => match k with
  | _ => ("", "", "", false)
def tyJ0 : Nat → FieldType := fun k => match k with
  | _ => .int
abbrev wsJ00 : List Cond := u_ws RJ0 TJ0 0
theorem nmJ0 : ∀ a, a < 0 → ∀ b, b < 0 → a ≠ b → (TJ0 a).2.1 ≠ (TJ0 b).2.1 := by decide +kernel
theorem tyJ0_ok : ∀ k, k < 0 → parseFieldDescriptor (TJ0 k).2.2.1 = some (tyJ0 k) := by decide +kernel
abbrev cJ0_length_8abf5 : ByteArray := prog_18_method_54_code
def yJ0_length_8abf5 : MethodName := ⟨RJ0, "length", "()I"⟩
abbrev cJ0_indexOf_0f7a4 : ByteArray := prog_18_method_79_code
def yJ0_indexOf_0f7a4 : MethodName := ⟨RJ0, "indexOf", "(I)I"⟩
abbrev cJ0_indexOf_7cf53 : ByteArray := prog_18_method_80_code
def yJ0_indexOf_7cf53 : MethodName := ⟨RJ0, "indexOf", "(II)I"⟩
abbrev cJ0_coder_7d493 : ByteArray := prog_18_method_152_code
def yJ0_coder_7d493 : MethodName := ⟨RJ0, "coder", "()B"⟩
abbrev cJ0_isLatin1_aae02 : ByteArray := prog_18_method_154_code
def yJ0_isLatin1_aae02 : MethodName := ⟨RJ0, "isLatin1", "()Z"⟩
abbrev cJ0_checkBoundsBeginEnd_23922 : ByteArray := prog_18_method_158_code
def yJ0_checkBoundsBeginEnd_23922 : MethodName := ⟨RJ0, "checkBoundsBeginEnd", "(III)V"⟩
def RJ1 : String := "java/lang/StringLatin1"
def TJ1 : u_T := fun k => match k with
  | _ => ("", "", "", false)
def tyJ1 : Nat → FieldType := fun k => match k with
  | _ => .int
abbrev wsJ10 : List Cond := u_ws RJ1 TJ1 0
theorem nmJ1 : ∀ a, a < 0 → ∀ b, b < 0 → a ≠ b → (TJ1 a).2.1 ≠ (TJ1 b).2.1 := by decide +kernel
theorem tyJ1_ok : ∀ k, k < 0 → parseFieldDescriptor (TJ1 k).2.2.1 = some (tyJ1 k) := by decide +kernel
abbrev cJ1_canEncode_9a6ad : ByteArray := prog_19_method_4_code
def yJ1_canEncode_9a6ad : MethodName := ⟨RJ1, "canEncode", "(I)Z"⟩
abbrev cJ1_indexOf_4cfef : ByteArray := prog_19_method_22_code
def yJ1_indexOf_4cfef : MethodName := ⟨RJ1, "indexOf", "([BIII)I"⟩
abbrev cJ1_indexOfChar_4cfef : ByteArray := prog_19_method_23_code
def yJ1_indexOfChar_4cfef : MethodName := ⟨RJ1, "indexOfChar", "([BIII)I"⟩
def RJ2 : String := "java/lang/StringUTF16"
def TJ2 : u_T := fun k => match k with
  | _ => ("", "", "", false)
def tyJ2 : Nat → FieldType := fun k => match k with
  | _ => .int
abbrev wsJ20 : List Cond := u_ws RJ2 TJ2 0
theorem nmJ2 : ∀ a, a < 0 → ∀ b, b < 0 → a ≠ b → (TJ2 a).2.1 ≠ (TJ2 b).2.1 := by decide +kernel
theorem tyJ2_ok : ∀ k, k < 0 → parseFieldDescriptor (TJ2 k).2.2.1 = some (tyJ2 k) := by decide +kernel
abbrev cJ2_getChar_3b067 : ByteArray := prog_20_method_5_code
def yJ2_getChar_3b067 : MethodName := ⟨RJ2, "getChar", "([BI)C"⟩
abbrev cJ2_length_9d52b : ByteArray := prog_20_method_6_code
def yJ2_length_9d52b : MethodName := ⟨RJ2, "length", "([B)I"⟩
abbrev cJ2_indexOf_4cfef : ByteArray := prog_20_method_40_code
def yJ2_indexOf_4cfef : MethodName := ⟨RJ2, "indexOf", "([BIII)I"⟩
abbrev cJ2_indexOfChar_4cfef : ByteArray := prog_20_method_47_code
def yJ2_indexOfChar_4cfef : MethodName := ⟨RJ2, "indexOfChar", "([BIII)I"⟩
abbrev cJ2_indexOfCharUnsafe_4cfef : ByteArray := prog_20_method_48_code
def yJ2_indexOfCharUnsafe_4cfef : MethodName := ⟨RJ2, "indexOfCharUnsafe", "([BIII)I"⟩
abbrev cJ2_indexOfSupplementary_4cfef : ByteArray := prog_20_method_49_code
def yJ2_indexOfSupplementary_4cfef : MethodName := ⟨RJ2, "indexOfSupplementary", "([BIII)I"⟩
abbrev cJ2_checkBoundsBeginEnd_d044e : ByteArray := prog_20_method_93_code
def yJ2_checkBoundsBeginEnd_d044e : MethodName := ⟨RJ2, "checkBoundsBeginEnd", "(II[B)V"⟩
def RJ10 : String := "java/lang/System"
def TJ10 : u_T := fun k => match k with
  | _ => ("", "", "", false)
def tyJ10 : Nat → FieldType := fun k => match k with
  | _ => .int
abbrev wsJ100 : List Cond := u_ws RJ10 TJ10 0
theorem nmJ10 : ∀ a, a < 0 → ∀ b, b < 0 → a ≠ b → (TJ10 a).2.1 ≠ (TJ10 b).2.1 := by decide +kernel
theorem tyJ10_ok : ∀ k, k < 0 → parseFieldDescriptor (TJ10 k).2.2.1 = some (tyJ10 k) := by decide +kernel
def RJ3 : String := "jdk/internal/util/Preconditions"
def TJ3 : u_T := fun k => match k with
  | _ => ("", "", "", false)
def tyJ3 : Nat → FieldType := fun k => match k with
  | _ => .int
abbrev wsJ30 : List Cond := u_ws RJ3 TJ3 0
theorem nmJ3 : ∀ a, a < 0 → ∀ b, b < 0 → a ≠ b → (TJ3 a).2.1 ≠ (TJ3 b).2.1 := by decide +kernel
theorem tyJ3_ok : ∀ k, k < 0 → parseFieldDescriptor (TJ3 k).2.2.1 = some (tyJ3 k) := by decide +kernel
abbrev cJ3_checkFromToIndex_8c36e : ByteArray := prog_22_method_12_code
def yJ3_checkFromToIndex_8c36e : MethodName := ⟨RJ3, "checkFromToIndex", "(IIILjava/util/function/BiFunction;)I"⟩
def RL : String := "GorgeRocksLaw"
abbrev cL_law : ByteArray := code
def yL_law : MethodName := ⟨RL, "law", "([I)Z"⟩
abbrev vwCl : List vw_C := [(RX0, TX0, 8), (RX1, TX1, 3), (RX2, TX2, 3), (RX3, TX3, 3), (RX4, TX4, 4), (RX5, TX5, 3), (RX6, TX6, 2), (RX7, TX7, 3), (RX8, TX8, 5), (RX9, TX9, 2), (RX10, TX10, 15), (RX11, TX11, 15), (RX12, TX12, 26)]
