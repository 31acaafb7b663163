section
-- ===== PART A: goes FIRST, ahead of the names: the tables' words, and 'selects' of the private methods out of them =====
/-- a private method of a class that the tables say can be made, by its rows of tables_1 -/
def lw_okq (q : MethodName × Nat) : Prop := (q.1.cls ≠ "java/lang/invoke/MethodHandle" ∧ q.1.cls ≠ "java/lang/invoke/VarHandle") ∧ Cond.instantiable q.1.cls q.2 ∈ tables_1 ∧ Cond.privateMethod q.1 ∈ tables_1 ∧ Cond.instanceMethod q.1 ∈ tables_1
theorem lw_p0 : lw_okq (⟨"WithEyesBound$Page", "mayEndRow", "()Z"⟩, 5) := ⟨⟨by decide +kernel, by decide +kernel⟩, List.mem_of_getElem? (i := 31) (by decide +kernel), List.mem_of_getElem? (i := 257) (by decide +kernel), List.mem_of_getElem? (i := 258) (by decide +kernel)⟩
theorem lw_p1 : lw_okq (⟨"WithEyesBound$Ring", "put", "(III)V"⟩, 6) := ⟨⟨by decide +kernel, by decide +kernel⟩, List.mem_of_getElem? (i := 56) (by decide +kernel), List.mem_of_getElem? (i := 371) (by decide +kernel), List.mem_of_getElem? (i := 372) (by decide +kernel)⟩
theorem lw_p2 : lw_okq (⟨"WithEyesBound$Ring", "findBeside", "(II)V"⟩, 6) := ⟨⟨by decide +kernel, by decide +kernel⟩, List.mem_of_getElem? (i := 56) (by decide +kernel), List.mem_of_getElem? (i := 375) (by decide +kernel), List.mem_of_getElem? (i := 376) (by decide +kernel)⟩
theorem lw_p3 : lw_okq (⟨"WithEyesBound$Odds", "clearOutcomes", "()V"⟩, 6) := ⟨⟨by decide +kernel, by decide +kernel⟩, List.mem_of_getElem? (i := 86) (by decide +kernel), List.mem_of_getElem? (i := 456) (by decide +kernel), List.mem_of_getElem? (i := 457) (by decide +kernel)⟩
theorem lw_p4 : lw_okq (⟨"WithEyesBound$Odds", "add", "(IIIJ)V"⟩, 6) := ⟨⟨by decide +kernel, by decide +kernel⟩, List.mem_of_getElem? (i := 86) (by decide +kernel), List.mem_of_getElem? (i := 460) (by decide +kernel), List.mem_of_getElem? (i := 461) (by decide +kernel)⟩
theorem lw_p5 : lw_okq (⟨"WithEyesBound$Odds", "walk", "(IIJI)V"⟩, 6) := ⟨⟨by decide +kernel, by decide +kernel⟩, List.mem_of_getElem? (i := 86) (by decide +kernel), List.mem_of_getElem? (i := 480) (by decide +kernel), List.mem_of_getElem? (i := 481) (by decide +kernel)⟩
theorem lw_p6 : lw_okq (⟨"WithEyesBound$Odds", "hearFrom", "(IIIJ)V"⟩, 6) := ⟨⟨by decide +kernel, by decide +kernel⟩, List.mem_of_getElem? (i := 86) (by decide +kernel), List.mem_of_getElem? (i := 499) (by decide +kernel), List.mem_of_getElem? (i := 500) (by decide +kernel)⟩
theorem lw_p7 : lw_okq (⟨"WithEyesBound", "sixtiethsExpected", "(IIII)J"⟩, 10) := ⟨⟨by decide +kernel, by decide +kernel⟩, List.mem_of_getElem? (i := 23) (by decide +kernel), List.mem_of_getElem? (i := 557) (by decide +kernel), List.mem_of_getElem? (i := 558) (by decide +kernel)⟩
theorem lw_p8 : lw_okq (⟨"WithEyesBound", "bestDoing", "(III)I"⟩, 10) := ⟨⟨by decide +kernel, by decide +kernel⟩, List.mem_of_getElem? (i := 23) (by decide +kernel), List.mem_of_getElem? (i := 574) (by decide +kernel), List.mem_of_getElem? (i := 575) (by decide +kernel)⟩
theorem lw_p9 : lw_okq (⟨"WithEyesBound", "playerOf", "(I)LWithEyesBound$Player;"⟩, 10) := ⟨⟨by decide +kernel, by decide +kernel⟩, List.mem_of_getElem? (i := 23) (by decide +kernel), List.mem_of_getElem? (i := 707) (by decide +kernel), List.mem_of_getElem? (i := 708) (by decide +kernel)⟩
theorem lw_p10 : lw_okq (⟨"WithEyesBound$Round", "playersGo", "()V"⟩, 11) := ⟨⟨by decide +kernel, by decide +kernel⟩, List.mem_of_getElem? (i := 117) (by decide +kernel), List.mem_of_getElem? (i := 767) (by decide +kernel), List.mem_of_getElem? (i := 768) (by decide +kernel)⟩
theorem lw_p11 : lw_okq (⟨"WithEyesBound$Round", "lookToCall", "()V"⟩, 11) := ⟨⟨by decide +kernel, by decide +kernel⟩, List.mem_of_getElem? (i := 117) (by decide +kernel), List.mem_of_getElem? (i := 800) (by decide +kernel), List.mem_of_getElem? (i := 801) (by decide +kernel)⟩
theorem lw_p12 : lw_okq (⟨"WithEyesBound$Round", "heGoes", "()V"⟩, 11) := ⟨⟨by decide +kernel, by decide +kernel⟩, List.mem_of_getElem? (i := 117) (by decide +kernel), List.mem_of_getElem? (i := 820) (by decide +kernel), List.mem_of_getElem? (i := 821) (by decide +kernel)⟩
theorem lw_p13 : lw_okq (⟨"WithEyesBound$Round", "touch", "()V"⟩, 11) := ⟨⟨by decide +kernel, by decide +kernel⟩, List.mem_of_getElem? (i := 117) (by decide +kernel), List.mem_of_getElem? (i := 835) (by decide +kernel), List.mem_of_getElem? (i := 836) (by decide +kernel)⟩
theorem lw_p14 : lw_okq (⟨"WithEyesBound$Naming", "sizeWeight", "(I)I"⟩, 11) := ⟨⟨by decide +kernel, by decide +kernel⟩, List.mem_of_getElem? (i := 157) (by decide +kernel), List.mem_of_getElem? (i := 887) (by decide +kernel), List.mem_of_getElem? (i := 888) (by decide +kernel)⟩
theorem lw_p15 : lw_okq (⟨"WithEyesBound$Naming", "clothWeight", "(II)I"⟩, 11) := ⟨⟨by decide +kernel, by decide +kernel⟩, List.mem_of_getElem? (i := 157) (by decide +kernel), List.mem_of_getElem? (i := 891) (by decide +kernel), List.mem_of_getElem? (i := 892) (by decide +kernel)⟩
def lw_privs_1 : List (MethodName × Nat) := [(⟨"WithEyesBound$Page", "mayEndRow", "()Z"⟩, 5), (⟨"WithEyesBound$Ring", "put", "(III)V"⟩, 6), (⟨"WithEyesBound$Ring", "findBeside", "(II)V"⟩, 6), (⟨"WithEyesBound$Odds", "clearOutcomes", "()V"⟩, 6), (⟨"WithEyesBound$Odds", "add", "(IIIJ)V"⟩, 6), (⟨"WithEyesBound$Odds", "walk", "(IIJI)V"⟩, 6), (⟨"WithEyesBound$Odds", "hearFrom", "(IIIJ)V"⟩, 6), (⟨"WithEyesBound", "sixtiethsExpected", "(IIII)J"⟩, 10), (⟨"WithEyesBound", "bestDoing", "(III)I"⟩, 10), (⟨"WithEyesBound", "playerOf", "(I)LWithEyesBound$Player;"⟩, 10), (⟨"WithEyesBound$Round", "playersGo", "()V"⟩, 11), (⟨"WithEyesBound$Round", "lookToCall", "()V"⟩, 11), (⟨"WithEyesBound$Round", "heGoes", "()V"⟩, 11), (⟨"WithEyesBound$Round", "touch", "()V"⟩, 11), (⟨"WithEyesBound$Naming", "sizeWeight", "(I)I"⟩, 11), (⟨"WithEyesBound$Naming", "clothWeight", "(II)I"⟩, 11)]
theorem lw_r1 : ∀ q ∈ lw_privs_1, lw_okq q := List.forall_mem_cons.mpr ⟨lw_p0, List.forall_mem_cons.mpr ⟨lw_p1, List.forall_mem_cons.mpr ⟨lw_p2, List.forall_mem_cons.mpr ⟨lw_p3, List.forall_mem_cons.mpr ⟨lw_p4, List.forall_mem_cons.mpr ⟨lw_p5, List.forall_mem_cons.mpr ⟨lw_p6, List.forall_mem_cons.mpr ⟨lw_p7, List.forall_mem_cons.mpr ⟨lw_p8, List.forall_mem_cons.mpr ⟨lw_p9, List.forall_mem_cons.mpr ⟨lw_p10, List.forall_mem_cons.mpr ⟨lw_p11, List.forall_mem_cons.mpr ⟨lw_p12, List.forall_mem_cons.mpr ⟨lw_p13, List.forall_mem_cons.mpr ⟨lw_p14, List.forall_mem_cons.mpr ⟨lw_p15, fun _ h => absurd h List.not_mem_nil⟩⟩⟩⟩⟩⟩⟩⟩⟩⟩⟩⟩⟩⟩⟩⟩
theorem lw_p16 : lw_okq (⟨"WithEyesBound$Naming", "clothOf", "(I)I"⟩, 11) := ⟨⟨by decide +kernel, by decide +kernel⟩, List.mem_of_getElem? (i := 157) (by decide +kernel), List.mem_of_getElem? (i := 895) (by decide +kernel), List.mem_of_getElem? (i := 896) (by decide +kernel)⟩
theorem lw_p17 : lw_okq (⟨"WithEyesBoundModel", "readPage", "()V"⟩, 44) := ⟨⟨by decide +kernel, by decide +kernel⟩, List.mem_of_getElem? (i := 989) (by decide +kernel), List.mem_of_getElem? (i := 1141) (by decide +kernel), List.mem_of_getElem? (i := 1142) (by decide +kernel)⟩
theorem lw_p18 : lw_okq (⟨"WithEyesBoundModel", "layLost", "()I"⟩, 44) := ⟨⟨by decide +kernel, by decide +kernel⟩, List.mem_of_getElem? (i := 989) (by decide +kernel), List.mem_of_getElem? (i := 1152) (by decide +kernel), List.mem_of_getElem? (i := 1153) (by decide +kernel)⟩
theorem lw_p19 : lw_okq (⟨"WithEyesBoundModel", "isFree", "(I)Z"⟩, 44) := ⟨⟨by decide +kernel, by decide +kernel⟩, List.mem_of_getElem? (i := 989) (by decide +kernel), List.mem_of_getElem? (i := 1156) (by decide +kernel), List.mem_of_getElem? (i := 1157) (by decide +kernel)⟩
theorem lw_p20 : lw_okq (⟨"WithEyesBoundModel", "isCell", "(I)Z"⟩, 44) := ⟨⟨by decide +kernel, by decide +kernel⟩, List.mem_of_getElem? (i := 989) (by decide +kernel), List.mem_of_getElem? (i := 1160) (by decide +kernel), List.mem_of_getElem? (i := 1161) (by decide +kernel)⟩
theorem lw_p21 : lw_okq (⟨"WithEyesBoundModel", "cells", "()I"⟩, 44) := ⟨⟨by decide +kernel, by decide +kernel⟩, List.mem_of_getElem? (i := 989) (by decide +kernel), List.mem_of_getElem? (i := 1164) (by decide +kernel), List.mem_of_getElem? (i := 1165) (by decide +kernel)⟩
theorem lw_p22 : lw_okq (⟨"WithEyesBoundModel", "clear", "()V"⟩, 44) := ⟨⟨by decide +kernel, by decide +kernel⟩, List.mem_of_getElem? (i := 989) (by decide +kernel), List.mem_of_getElem? (i := 1190) (by decide +kernel), List.mem_of_getElem? (i := 1191) (by decide +kernel)⟩
theorem lw_p23 : lw_okq (⟨"WithEyesBoundModel", "take", "()I"⟩, 44) := ⟨⟨by decide +kernel, by decide +kernel⟩, List.mem_of_getElem? (i := 989) (by decide +kernel), List.mem_of_getElem? (i := 1194) (by decide +kernel), List.mem_of_getElem? (i := 1195) (by decide +kernel)⟩
theorem lw_p24 : lw_okq (⟨"WithEyesBoundModel", "above", "()I"⟩, 44) := ⟨⟨by decide +kernel, by decide +kernel⟩, List.mem_of_getElem? (i := 989) (by decide +kernel), List.mem_of_getElem? (i := 1201) (by decide +kernel), List.mem_of_getElem? (i := 1202) (by decide +kernel)⟩
theorem lw_p25 : lw_okq (⟨"WithEyesBoundModel", "layStep", "(III)V"⟩, 44) := ⟨⟨by decide +kernel, by decide +kernel⟩, List.mem_of_getElem? (i := 989) (by decide +kernel), List.mem_of_getElem? (i := 1209) (by decide +kernel), List.mem_of_getElem? (i := 1210) (by decide +kernel)⟩
theorem lw_p26 : lw_okq (⟨"WithEyesBoundModel", "stepOne", "(IIII)V"⟩, 44) := ⟨⟨by decide +kernel, by decide +kernel⟩, List.mem_of_getElem? (i := 989) (by decide +kernel), List.mem_of_getElem? (i := 1213) (by decide +kernel), List.mem_of_getElem? (i := 1214) (by decide +kernel)⟩
theorem lw_p27 : lw_okq (⟨"WithEyesBoundModel", "on", "(II)I"⟩, 44) := ⟨⟨by decide +kernel, by decide +kernel⟩, List.mem_of_getElem? (i := 989) (by decide +kernel), List.mem_of_getElem? (i := 1217) (by decide +kernel), List.mem_of_getElem? (i := 1218) (by decide +kernel)⟩
theorem lw_p28 : lw_okq (⟨"WithEyesBoundModel", "sortAt", "(I)I"⟩, 44) := ⟨⟨by decide +kernel, by decide +kernel⟩, List.mem_of_getElem? (i := 989) (by decide +kernel), List.mem_of_getElem? (i := 1221) (by decide +kernel), List.mem_of_getElem? (i := 1222) (by decide +kernel)⟩
theorem lw_p29 : lw_okq (⟨"WithEyesBoundModel", "layHeard", "(III)V"⟩, 44) := ⟨⟨by decide +kernel, by decide +kernel⟩, List.mem_of_getElem? (i := 989) (by decide +kernel), List.mem_of_getElem? (i := 1232) (by decide +kernel), List.mem_of_getElem? (i := 1233) (by decide +kernel)⟩
theorem lw_p30 : lw_okq (⟨"WithEyesBoundModel", "liesFrom", "(II)I"⟩, 44) := ⟨⟨by decide +kernel, by decide +kernel⟩, List.mem_of_getElem? (i := 989) (by decide +kernel), List.mem_of_getElem? (i := 1236) (by decide +kernel), List.mem_of_getElem? (i := 1237) (by decide +kernel)⟩
theorem lw_p31 : lw_okq (⟨"WithEyesBoundModel", "ofCell", "(I)J"⟩, 44) := ⟨⟨by decide +kernel, by decide +kernel⟩, List.mem_of_getElem? (i := 989) (by decide +kernel), List.mem_of_getElem? (i := 1251) (by decide +kernel), List.mem_of_getElem? (i := 1252) (by decide +kernel)⟩
def lw_privs_2 : List (MethodName × Nat) := [(⟨"WithEyesBound$Naming", "clothOf", "(I)I"⟩, 11), (⟨"WithEyesBoundModel", "readPage", "()V"⟩, 44), (⟨"WithEyesBoundModel", "layLost", "()I"⟩, 44), (⟨"WithEyesBoundModel", "isFree", "(I)Z"⟩, 44), (⟨"WithEyesBoundModel", "isCell", "(I)Z"⟩, 44), (⟨"WithEyesBoundModel", "cells", "()I"⟩, 44), (⟨"WithEyesBoundModel", "clear", "()V"⟩, 44), (⟨"WithEyesBoundModel", "take", "()I"⟩, 44), (⟨"WithEyesBoundModel", "above", "()I"⟩, 44), (⟨"WithEyesBoundModel", "layStep", "(III)V"⟩, 44), (⟨"WithEyesBoundModel", "stepOne", "(IIII)V"⟩, 44), (⟨"WithEyesBoundModel", "on", "(II)I"⟩, 44), (⟨"WithEyesBoundModel", "sortAt", "(I)I"⟩, 44), (⟨"WithEyesBoundModel", "layHeard", "(III)V"⟩, 44), (⟨"WithEyesBoundModel", "liesFrom", "(II)I"⟩, 44), (⟨"WithEyesBoundModel", "ofCell", "(I)J"⟩, 44)]
theorem lw_r2 : ∀ q ∈ lw_privs_2, lw_okq q := List.forall_mem_cons.mpr ⟨lw_p16, List.forall_mem_cons.mpr ⟨lw_p17, List.forall_mem_cons.mpr ⟨lw_p18, List.forall_mem_cons.mpr ⟨lw_p19, List.forall_mem_cons.mpr ⟨lw_p20, List.forall_mem_cons.mpr ⟨lw_p21, List.forall_mem_cons.mpr ⟨lw_p22, List.forall_mem_cons.mpr ⟨lw_p23, List.forall_mem_cons.mpr ⟨lw_p24, List.forall_mem_cons.mpr ⟨lw_p25, List.forall_mem_cons.mpr ⟨lw_p26, List.forall_mem_cons.mpr ⟨lw_p27, List.forall_mem_cons.mpr ⟨lw_p28, List.forall_mem_cons.mpr ⟨lw_p29, List.forall_mem_cons.mpr ⟨lw_p30, List.forall_mem_cons.mpr ⟨lw_p31, fun _ h => absurd h List.not_mem_nil⟩⟩⟩⟩⟩⟩⟩⟩⟩⟩⟩⟩⟩⟩⟩⟩
theorem lw_p32 : lw_okq (⟨"WithEyesBoundModel", "all", "()J"⟩, 44) := ⟨⟨by decide +kernel, by decide +kernel⟩, List.mem_of_getElem? (i := 989) (by decide +kernel), List.mem_of_getElem? (i := 1255) (by decide +kernel), List.mem_of_getElem? (i := 1256) (by decide +kernel)⟩
theorem lw_p33 : lw_okq (⟨"WithEyesBoundModel", "likeliestNow", "()I"⟩, 44) := ⟨⟨by decide +kernel, by decide +kernel⟩, List.mem_of_getElem? (i := 989) (by decide +kernel), List.mem_of_getElem? (i := 1272) (by decide +kernel), List.mem_of_getElem? (i := 1273) (by decide +kernel)⟩
theorem lw_p34 : lw_okq (⟨"WithEyesBoundModel", "areMany", "()Z"⟩, 44) := ⟨⟨by decide +kernel, by decide +kernel⟩, List.mem_of_getElem? (i := 989) (by decide +kernel), List.mem_of_getElem? (i := 1284) (by decide +kernel), List.mem_of_getElem? (i := 1285) (by decide +kernel)⟩
theorem lw_p35 : lw_okq (⟨"WithEyesBoundModel", "expectedNow", "(IIII)J"⟩, 44) := ⟨⟨by decide +kernel, by decide +kernel⟩, List.mem_of_getElem? (i := 989) (by decide +kernel), List.mem_of_getElem? (i := 1288) (by decide +kernel), List.mem_of_getElem? (i := 1289) (by decide +kernel)⟩
theorem lw_p36 : lw_okq (⟨"WithEyesBoundModel", "greatestThen", "()J"⟩, 44) := ⟨⟨by decide +kernel, by decide +kernel⟩, List.mem_of_getElem? (i := 989) (by decide +kernel), List.mem_of_getElem? (i := 1292) (by decide +kernel), List.mem_of_getElem? (i := 1293) (by decide +kernel)⟩
theorem lw_p37 : lw_okq (⟨"WithEyesBoundModel", "isPlayer", "(I)Z"⟩, 44) := ⟨⟨by decide +kernel, by decide +kernel⟩, List.mem_of_getElem? (i := 989) (by decide +kernel), List.mem_of_getElem? (i := 1318) (by decide +kernel), List.mem_of_getElem? (i := 1319) (by decide +kernel)⟩
theorem lw_p38 : lw_okq (⟨"WithEyesBoundModel", "playerTold", "(II)I"⟩, 44) := ⟨⟨by decide +kernel, by decide +kernel⟩, List.mem_of_getElem? (i := 989) (by decide +kernel), List.mem_of_getElem? (i := 1326) (by decide +kernel), List.mem_of_getElem? (i := 1327) (by decide +kernel)⟩
theorem lw_p39 : lw_okq (⟨"WithEyesBoundModel", "play", "(IIIII)V"⟩, 44) := ⟨⟨by decide +kernel, by decide +kernel⟩, List.mem_of_getElem? (i := 989) (by decide +kernel), List.mem_of_getElem? (i := 1338) (by decide +kernel), List.mem_of_getElem? (i := 1339) (by decide +kernel)⟩
theorem lw_p40 : lw_okq (⟨"WithEyesBoundModel", "goPlayers", "()V"⟩, 44) := ⟨⟨by decide +kernel, by decide +kernel⟩, List.mem_of_getElem? (i := 989) (by decide +kernel), List.mem_of_getElem? (i := 1342) (by decide +kernel), List.mem_of_getElem? (i := 1343) (by decide +kernel)⟩
theorem lw_p41 : lw_okq (⟨"WithEyesBoundModel", "goes", "(IIIZ)I"⟩, 44) := ⟨⟨by decide +kernel, by decide +kernel⟩, List.mem_of_getElem? (i := 989) (by decide +kernel), List.mem_of_getElem? (i := 1346) (by decide +kernel), List.mem_of_getElem? (i := 1347) (by decide +kernel)⟩
theorem lw_p42 : lw_okq (⟨"WithEyesBoundModel", "far", "(III)I"⟩, 44) := ⟨⟨by decide +kernel, by decide +kernel⟩, List.mem_of_getElem? (i := 989) (by decide +kernel), List.mem_of_getElem? (i := 1350) (by decide +kernel), List.mem_of_getElem? (i := 1351) (by decide +kernel)⟩
theorem lw_p43 : lw_okq (⟨"WithEyesBoundModel", "goHim", "(II)V"⟩, 44) := ⟨⟨by decide +kernel, by decide +kernel⟩, List.mem_of_getElem? (i := 989) (by decide +kernel), List.mem_of_getElem? (i := 1354) (by decide +kernel), List.mem_of_getElem? (i := 1355) (by decide +kernel)⟩
theorem lw_p44 : lw_okq (⟨"WithEyesBoundModel", "nearestCall", "()I"⟩, 44) := ⟨⟨by decide +kernel, by decide +kernel⟩, List.mem_of_getElem? (i := 989) (by decide +kernel), List.mem_of_getElem? (i := 1358) (by decide +kernel), List.mem_of_getElem? (i := 1359) (by decide +kernel)⟩
theorem lw_p45 : lw_okq (⟨"WithEyesBoundModel", "callOf", "(I)I"⟩, 44) := ⟨⟨by decide +kernel, by decide +kernel⟩, List.mem_of_getElem? (i := 989) (by decide +kernel), List.mem_of_getElem? (i := 1362) (by decide +kernel), List.mem_of_getElem? (i := 1363) (by decide +kernel)⟩
theorem lw_p46 : lw_okq (⟨"WithEyesBoundModel", "draw", "(I)I"⟩, 44) := ⟨⟨by decide +kernel, by decide +kernel⟩, List.mem_of_getElem? (i := 989) (by decide +kernel), List.mem_of_getElem? (i := 1366) (by decide +kernel), List.mem_of_getElem? (i := 1367) (by decide +kernel)⟩
theorem lw_p47 : lw_okq (⟨"WithEyesBoundModel", "touchedNow", "()I"⟩, 44) := ⟨⟨by decide +kernel, by decide +kernel⟩, List.mem_of_getElem? (i := 989) (by decide +kernel), List.mem_of_getElem? (i := 1374) (by decide +kernel), List.mem_of_getElem? (i := 1375) (by decide +kernel)⟩
def lw_privs_3 : List (MethodName × Nat) := [(⟨"WithEyesBoundModel", "all", "()J"⟩, 44), (⟨"WithEyesBoundModel", "likeliestNow", "()I"⟩, 44), (⟨"WithEyesBoundModel", "areMany", "()Z"⟩, 44), (⟨"WithEyesBoundModel", "expectedNow", "(IIII)J"⟩, 44), (⟨"WithEyesBoundModel", "greatestThen", "()J"⟩, 44), (⟨"WithEyesBoundModel", "isPlayer", "(I)Z"⟩, 44), (⟨"WithEyesBoundModel", "playerTold", "(II)I"⟩, 44), (⟨"WithEyesBoundModel", "play", "(IIIII)V"⟩, 44), (⟨"WithEyesBoundModel", "goPlayers", "()V"⟩, 44), (⟨"WithEyesBoundModel", "goes", "(IIIZ)I"⟩, 44), (⟨"WithEyesBoundModel", "far", "(III)I"⟩, 44), (⟨"WithEyesBoundModel", "goHim", "(II)V"⟩, 44), (⟨"WithEyesBoundModel", "nearestCall", "()I"⟩, 44), (⟨"WithEyesBoundModel", "callOf", "(I)I"⟩, 44), (⟨"WithEyesBoundModel", "draw", "(I)I"⟩, 44), (⟨"WithEyesBoundModel", "touchedNow", "()I"⟩, 44)]
theorem lw_r3 : ∀ q ∈ lw_privs_3, lw_okq q := List.forall_mem_cons.mpr ⟨lw_p32, List.forall_mem_cons.mpr ⟨lw_p33, List.forall_mem_cons.mpr ⟨lw_p34, List.forall_mem_cons.mpr ⟨lw_p35, List.forall_mem_cons.mpr ⟨lw_p36, List.forall_mem_cons.mpr ⟨lw_p37, List.forall_mem_cons.mpr ⟨lw_p38, List.forall_mem_cons.mpr ⟨lw_p39, List.forall_mem_cons.mpr ⟨lw_p40, List.forall_mem_cons.mpr ⟨lw_p41, List.forall_mem_cons.mpr ⟨lw_p42, List.forall_mem_cons.mpr ⟨lw_p43, List.forall_mem_cons.mpr ⟨lw_p44, List.forall_mem_cons.mpr ⟨lw_p45, List.forall_mem_cons.mpr ⟨lw_p46, List.forall_mem_cons.mpr ⟨lw_p47, fun _ h => absurd h List.not_mem_nil⟩⟩⟩⟩⟩⟩⟩⟩⟩⟩⟩⟩⟩⟩⟩⟩
theorem lw_p48 : lw_okq (⟨"WithEyesBoundModel", "likelyAll", "(III)I"⟩, 44) := ⟨⟨by decide +kernel, by decide +kernel⟩, List.mem_of_getElem? (i := 989) (by decide +kernel), List.mem_of_getElem? (i := 1402) (by decide +kernel), List.mem_of_getElem? (i := 1403) (by decide +kernel)⟩
theorem lw_p49 : lw_okq (⟨"WithEyesBoundModel", "likely", "(IIII)I"⟩, 44) := ⟨⟨by decide +kernel, by decide +kernel⟩, List.mem_of_getElem? (i := 989) (by decide +kernel), List.mem_of_getElem? (i := 1406) (by decide +kernel), List.mem_of_getElem? (i := 1407) (by decide +kernel)⟩
theorem lw_p50 : lw_okq (⟨"WithEyesBoundModel", "byCloth", "(II)I"⟩, 44) := ⟨⟨by decide +kernel, by decide +kernel⟩, List.mem_of_getElem? (i := 989) (by decide +kernel), List.mem_of_getElem? (i := 1410) (by decide +kernel), List.mem_of_getElem? (i := 1411) (by decide +kernel)⟩
theorem lw_p51 : lw_okq (⟨"WithEyesBoundModel", "saysNow", "(III)I"⟩, 44) := ⟨⟨by decide +kernel, by decide +kernel⟩, List.mem_of_getElem? (i := 989) (by decide +kernel), List.mem_of_getElem? (i := 1418) (by decide +kernel), List.mem_of_getElem? (i := 1419) (by decide +kernel)⟩
theorem lw_p52 : lw_okq (⟨"WithEyesBoundModel", "howMany", "(I)I"⟩, 44) := ⟨⟨by decide +kernel, by decide +kernel⟩, List.mem_of_getElem? (i := 989) (by decide +kernel), List.mem_of_getElem? (i := 1438) (by decide +kernel), List.mem_of_getElem? (i := 1439) (by decide +kernel)⟩
theorem lw_p53 : lw_okq (⟨"WithEyesBoundModel", "freeMany", "()I"⟩, 44) := ⟨⟨by decide +kernel, by decide +kernel⟩, List.mem_of_getElem? (i := 989) (by decide +kernel), List.mem_of_getElem? (i := 1442) (by decide +kernel), List.mem_of_getElem? (i := 1443) (by decide +kernel)⟩
theorem lw_p54 : lw_okq (⟨"WithEyesBoundModel", "mix", "(J)V"⟩, 44) := ⟨⟨by decide +kernel, by decide +kernel⟩, List.mem_of_getElem? (i := 989) (by decide +kernel), List.mem_of_getElem? (i := 1451) (by decide +kernel), List.mem_of_getElem? (i := 1452) (by decide +kernel)⟩
theorem lw_p55 : lw_okq (⟨"WithEyesBoundModel", "mixGame", "()V"⟩, 44) := ⟨⟨by decide +kernel, by decide +kernel⟩, List.mem_of_getElem? (i := 989) (by decide +kernel), List.mem_of_getElem? (i := 1456) (by decide +kernel), List.mem_of_getElem? (i := 1457) (by decide +kernel)⟩
def lw_privs_4 : List (MethodName × Nat) := [(⟨"WithEyesBoundModel", "likelyAll", "(III)I"⟩, 44), (⟨"WithEyesBoundModel", "likely", "(IIII)I"⟩, 44), (⟨"WithEyesBoundModel", "byCloth", "(II)I"⟩, 44), (⟨"WithEyesBoundModel", "saysNow", "(III)I"⟩, 44), (⟨"WithEyesBoundModel", "howMany", "(I)I"⟩, 44), (⟨"WithEyesBoundModel", "freeMany", "()I"⟩, 44), (⟨"WithEyesBoundModel", "mix", "(J)V"⟩, 44), (⟨"WithEyesBoundModel", "mixGame", "()V"⟩, 44)]
theorem lw_r4 : ∀ q ∈ lw_privs_4, lw_okq q := List.forall_mem_cons.mpr ⟨lw_p48, List.forall_mem_cons.mpr ⟨lw_p49, List.forall_mem_cons.mpr ⟨lw_p50, List.forall_mem_cons.mpr ⟨lw_p51, List.forall_mem_cons.mpr ⟨lw_p52, List.forall_mem_cons.mpr ⟨lw_p53, List.forall_mem_cons.mpr ⟨lw_p54, List.forall_mem_cons.mpr ⟨lw_p55, fun _ h => absurd h List.not_mem_nil⟩⟩⟩⟩⟩⟩⟩⟩
def lw_privs : List (MethodName × Nat) := lw_privs_1 ++ (lw_privs_2 ++ (lw_privs_3 ++ (lw_privs_4)))
def lw_tbl : List Cond := k2_sels lw_privs ++ tables_1
theorem lw_privs_ok : ∀ q ∈ lw_privs, lw_okq q := by
  show ∀ q ∈ lw_privs_1 ++ (lw_privs_2 ++ (lw_privs_3 ++ (lw_privs_4))), lw_okq q
  exact List.forall_mem_append.mpr ⟨lw_r1, List.forall_mem_append.mpr ⟨lw_r2, List.forall_mem_append.mpr ⟨lw_r3, lw_r4⟩⟩⟩
end
section
/-! ===== BEGIN words of one list among another's, by their places ===== -/
theorem goodIn_r {big : List Cond} (ws : List Cond) (ps : List Nat) (hp : ws = ps.filterMap (fun i => big[i]?)) (h : ws.all goodWord = true) : GoodIn big ws := by
  intro w hw
  have h1 := List.all_eq_true.mp h w hw
  rw [hp] at hw
  obtain ⟨i, -, hi⟩ := List.mem_filterMap.mp hw
  have hm : w ∈ big := by first | exact List.mem_of_getElem? hi | exact List.getElem?_mem hi
  exact ⟨hm, good_of_word h1⟩
theorem goodIn_app {big a b : List Cond} (ha : GoodIn big a) (hb : GoodIn big b) : GoodIn big (a ++ b) := fun w h => (List.mem_append.mp h).elim (ha w) (hb w)
theorem goodIn_ca {big a b : List Cond} {c : Cond} (ha : GoodIn big (c :: a)) (hb : GoodIn big b) : GoodIn big (c :: (a ++ b)) := fun w h => (List.mem_cons.mp h).elim (fun e => ha w (List.mem_cons.mpr (Or.inl e))) (fun h => (List.mem_append.mp h).elim (fun h => ha w (List.mem_cons.mpr (Or.inr h))) (hb w))
theorem goodIn_sub {big ws : List Cond} (hm : ∀ w ∈ ws, w ∈ big) (h : ws.all goodWord = true) : GoodIn big ws := fun w hw => ⟨hm w hw, good_of_word (List.all_eq_true.mp h w hw)⟩
/-! ===== END ===== -/
/-! ===== BEGIN printed: names, fields, word lists, decode rows ===== -/
def RX0 : String := "WithEyesBound$Behind"
def TX0 : u_T := fun k => match k with
  | 0 => ("WithEyesBound$Player", "told", "I", false)
  | 1 => ("WithEyesBound$Player", "kept", "I", false)
  | 2 => ("WithEyesBound$Player", "at", "I", false)
  | 3 => ("WithEyesBound$Player", "size", "I", false)
  | 4 => ("WithEyesBound$Player", "cloth", "I", false)
  | _ => ("WithEyesBound$Player", "giggle", "I", false)
def tyX0 : Nat → FieldType := fun k => match k with
  | 0 => .int
  | 1 => .int
  | 2 => .int
  | 3 => .int
  | 4 => .int
  | _ => .int
abbrev wsX00 : List Cond := u_ws RX0 TX0 6
theorem nmX0 : ∀ a, a < 6 → ∀ b, b < 6 → a ≠ b → (TX0 a).2.1 ≠ (TX0 b).2.1 := by decide +kernel
theorem tyX0_ok : ∀ k, k < 6 → parseFieldDescriptor (TX0 k).2.2.1 = some (tyX0 k) := by decide +kernel
abbrev cX0_init : ByteArray := prog_2_method_1_code
def yX0_init : MethodName := ⟨RX0, "<init>", "()V"⟩
abbrev cX0_kind : ByteArray := prog_2_method_2_code
def yX0_kind : MethodName := ⟨RX0, "kind", "()I"⟩
abbrev cX0_goOn : ByteArray := prog_2_method_3_code
def yX0_goOn : MethodName := ⟨RX0, "goOn", "(LWithEyesBound$Ring;III)V"⟩
def RX1 : String := "WithEyesBound$Caller"
def TX1 : u_T := fun k => match k with
  | 0 => ("WithEyesBound$Player", "told", "I", false)
  | 1 => ("WithEyesBound$Player", "kept", "I", false)
  | 2 => ("WithEyesBound$Player", "at", "I", false)
  | 3 => ("WithEyesBound$Player", "size", "I", false)
  | 4 => ("WithEyesBound$Player", "cloth", "I", false)
  | _ => ("WithEyesBound$Player", "giggle", "I", false)
def tyX1 : Nat → FieldType := fun k => match k with
  | 0 => .int
  | 1 => .int
  | 2 => .int
  | 3 => .int
  | 4 => .int
  | _ => .int
abbrev wsX10 : List Cond := u_ws RX1 TX1 6
theorem nmX1 : ∀ a, a < 6 → ∀ b, b < 6 → a ≠ b → (TX1 a).2.1 ≠ (TX1 b).2.1 := by decide +kernel
theorem tyX1_ok : ∀ k, k < 6 → parseFieldDescriptor (TX1 k).2.2.1 = some (tyX1 k) := by decide +kernel
abbrev cX1_init : ByteArray := prog_3_method_1_code
def yX1_init : MethodName := ⟨RX1, "<init>", "()V"⟩
abbrev cX1_kind : ByteArray := prog_3_method_2_code
def yX1_kind : MethodName := ⟨RX1, "kind", "()I"⟩
abbrev cX1_callsFrom : ByteArray := prog_3_method_3_code
def yX1_callsFrom : MethodName := ⟨RX1, "callsFrom", "(LWithEyesBound$Ring;)I"⟩
def RX2 : String := "WithEyesBound$Feigned"
def TX2 : u_T := fun k => match k with
  | 0 => ("WithEyesBound$Player", "told", "I", false)
  | 1 => ("WithEyesBound$Player", "kept", "I", false)
  | 2 => ("WithEyesBound$Player", "at", "I", false)
  | 3 => ("WithEyesBound$Player", "size", "I", false)
  | 4 => ("WithEyesBound$Player", "cloth", "I", false)
  | _ => ("WithEyesBound$Player", "giggle", "I", false)
def tyX2 : Nat → FieldType := fun k => match k with
  | 0 => .int
  | 1 => .int
  | 2 => .int
  | 3 => .int
  | 4 => .int
  | _ => .int
abbrev wsX20 : List Cond := u_ws RX2 TX2 6
theorem nmX2 : ∀ a, a < 6 → ∀ b, b < 6 → a ≠ b → (TX2 a).2.1 ≠ (TX2 b).2.1 := by decide +kernel
theorem tyX2_ok : ∀ k, k < 6 → parseFieldDescriptor (TX2 k).2.2.1 = some (tyX2 k) := by decide +kernel
abbrev cX2_init : ByteArray := prog_4_method_1_code
def yX2_init : MethodName := ⟨RX2, "<init>", "()V"⟩
abbrev cX2_kind : ByteArray := prog_4_method_2_code
def yX2_kind : MethodName := ⟨RX2, "kind", "()I"⟩
abbrev cX2_callsFrom : ByteArray := prog_4_method_3_code
def yX2_callsFrom : MethodName := ⟨RX2, "callsFrom", "(LWithEyesBound$Ring;)I"⟩
def RX3 : String := "WithEyesBound$Naming"
def TX3 : u_T := fun k => match k with
  | 0 => ("WithEyesBound$Naming", "players", "[LWithEyesBound$Player;", true)
  | 1 => ("WithEyesBound$Naming", "weights", "[I", true)
  | 2 => ("WithEyesBound$Naming", "sizeOff", "I", false)
  | 3 => ("WithEyesBound$Naming", "clothRight", "I", false)
  | 4 => ("WithEyesBound$Naming", "giggleRight", "I", false)
  | 5 => ("WithEyesBound$Naming", "first", "I", false)
  | 6 => ("WithEyesBound$Naming", "second", "I", false)
  | 7 => ("WithEyesBound$Naming", "changed", "I", false)
  | 8 => ("WithEyesBound$Naming", "keptFirst", "I", false)
  | 9 => ("WithEyesBound$Naming", "keptSecond", "I", false)
  | _ => ("WithEyesBound$Naming", "keptChanged", "I", false)
def tyX3 : Nat → FieldType := fun k => match k with
  | 0 => .array (.object "WithEyesBound$Player")
  | 1 => .array .int
  | 2 => .int
  | 3 => .int
  | 4 => .int
  | 5 => .int
  | 6 => .int
  | 7 => .int
  | 8 => .int
  | 9 => .int
  | _ => .int
abbrev wsX30 : List Cond := u_ws RX3 TX3 11
theorem nmX3 : ∀ a, a < 11 → ∀ b, b < 11 → a ≠ b → (TX3 a).2.1 ≠ (TX3 b).2.1 := by decide +kernel
theorem tyX3_ok : ∀ k, k < 11 → parseFieldDescriptor (TX3 k).2.2.1 = some (tyX3 k) := by decide +kernel
abbrev cX3_init : ByteArray := prog_5_method_1_code
def yX3_init : MethodName := ⟨RX3, "<init>", "([LWithEyesBound$Player;)V"⟩
abbrev cX3_changeJackets : ByteArray := prog_5_method_2_code
def yX3_changeJackets : MethodName := ⟨RX3, "changeJackets", "(III)V"⟩
abbrev cX3_forgetJackets : ByteArray := prog_5_method_3_code
def yX3_forgetJackets : MethodName := ⟨RX3, "forgetJackets", "()V"⟩
abbrev cX3_keep : ByteArray := prog_5_method_4_code
def yX3_keep : MethodName := ⟨RX3, "keep", "()V"⟩
abbrev cX3_takeKept : ByteArray := prog_5_method_5_code
def yX3_takeKept : MethodName := ⟨RX3, "takeKept", "()V"⟩
abbrev cX3_weigh : ByteArray := prog_5_method_6_code
def yX3_weigh : MethodName := ⟨RX3, "weigh", "(III)V"⟩
abbrev cX3_sizeWeight : ByteArray := prog_5_method_7_code
def yX3_sizeWeight : MethodName := ⟨RX3, "sizeWeight", "(I)I"⟩
abbrev cX3_likeWeight : ByteArray := prog_5_method_8_code
def yX3_likeWeight : MethodName := ⟨RX3, "likeWeight", "(ZI)I"⟩
abbrev cX3_clothWeight : ByteArray := prog_5_method_9_code
def yX3_clothWeight : MethodName := ⟨RX3, "clothWeight", "(II)I"⟩
abbrev cX3_clothOf : ByteArray := prog_5_method_10_code
def yX3_clothOf : MethodName := ⟨RX3, "clothOf", "(I)I"⟩
abbrev cX3_weightOf : ByteArray := prog_5_method_11_code
def yX3_weightOf : MethodName := ⟨RX3, "weightOf", "(I)J"⟩
abbrev cX3_total : ByteArray := prog_5_method_12_code
def yX3_total : MethodName := ⟨RX3, "total", "()J"⟩
abbrev cX3_likeliestPlayer : ByteArray := prog_5_method_13_code
def yX3_likeliestPlayer : MethodName := ⟨RX3, "likeliestPlayer", "()I"⟩
abbrev cX3_mixInto : ByteArray := prog_5_method_14_code
def yX3_mixInto : MethodName := ⟨RX3, "mixInto", "(J)J"⟩
def RX4 : String := "WithEyesBound$Odds"
def TX4 : u_T := fun k => match k with
  | 0 => ("WithEyesBound$Odds", "ring", "LWithEyesBound$Ring;", true)
  | 1 => ("WithEyesBound$Odds", "weights", "[J", true)
  | 2 => ("WithEyesBound$Odds", "kept", "[J", true)
  | 3 => ("WithEyesBound$Odds", "outcomes", "[[J", true)
  | 4 => ("WithEyesBound$Odds", "updates", "I", false)
  | _ => ("WithEyesBound$Odds", "keptUpdates", "I", false)
def tyX4 : Nat → FieldType := fun k => match k with
  | 0 => .object "WithEyesBound$Ring"
  | 1 => .array .long
  | 2 => .array .long
  | 3 => .array (.array .long)
  | 4 => .int
  | _ => .int
abbrev wsX40 : List Cond := u_ws RX4 TX4 6
theorem nmX4 : ∀ a, a < 6 → ∀ b, b < 6 → a ≠ b → (TX4 a).2.1 ≠ (TX4 b).2.1 := by decide +kernel
theorem tyX4_ok : ∀ k, k < 6 → parseFieldDescriptor (TX4 k).2.2.1 = some (tyX4 k) := by decide +kernel
abbrev cX4_init : ByteArray := prog_6_method_1_code
def yX4_init : MethodName := ⟨RX4, "<init>", "(LWithEyesBound$Ring;)V"⟩
abbrev cX4_putHim : ByteArray := prog_6_method_2_code
def yX4_putHim : MethodName := ⟨RX4, "putHim", "(II)V"⟩
abbrev cX4_loseHim : ByteArray := prog_6_method_3_code
def yX4_loseHim : MethodName := ⟨RX4, "loseHim", "()V"⟩
abbrev cX4_keep : ByteArray := prog_6_method_4_code
def yX4_keep : MethodName := ⟨RX4, "keep", "()V"⟩
abbrev cX4_takeKept : ByteArray := prog_6_method_5_code
def yX4_takeKept : MethodName := ⟨RX4, "takeKept", "()V"⟩
abbrev cX4_aboveNought : ByteArray := prog_6_method_6_code
def yX4_aboveNought : MethodName := ⟨RX4, "aboveNought", "()I"⟩
abbrev cX4_total : ByteArray := prog_6_method_7_code
def yX4_total : MethodName := ⟨RX4, "total", "()J"⟩
abbrev cX4_ofCell : ByteArray := prog_6_method_8_code
def yX4_ofCell : MethodName := ⟨RX4, "ofCell", "(I)J"⟩
abbrev cX4_sumOfCell : ByteArray := prog_6_method_9_code
def yX4_sumOfCell : MethodName := ⟨RX4, "sumOfCell", "([JI)J"⟩
abbrev cX4_ofWay : ByteArray := prog_6_method_10_code
def yX4_ofWay : MethodName := ⟨RX4, "ofWay", "(I)J"⟩
abbrev cX4_bestCell : ByteArray := prog_6_method_11_code
def yX4_bestCell : MethodName := ⟨RX4, "bestCell", "()I"⟩
abbrev cX4_foretellTurn : ByteArray := prog_6_method_12_code
def yX4_foretellTurn : MethodName := ⟨RX4, "foretellTurn", "(I)V"⟩
abbrev cX4_foretellStep : ByteArray := prog_6_method_13_code
def yX4_foretellStep : MethodName := ⟨RX4, "foretellStep", "(III)V"⟩
abbrev cX4_walk : ByteArray := prog_6_method_14_code
def yX4_walk : MethodName := ⟨RX4, "walk", "(IIJI)V"⟩
abbrev cX4_foretellCall : ByteArray := prog_6_method_15_code
def yX4_foretellCall : MethodName := ⟨RX4, "foretellCall", "(II)V"⟩
abbrev cX4_hearFrom : ByteArray := prog_6_method_16_code
def yX4_hearFrom : MethodName := ⟨RX4, "hearFrom", "(IIIJ)V"⟩
abbrev cX4_clearOutcomes : ByteArray := prog_6_method_17_code
def yX4_clearOutcomes : MethodName := ⟨RX4, "clearOutcomes", "()V"⟩
abbrev cX4_add : ByteArray := prog_6_method_18_code
def yX4_add : MethodName := ⟨RX4, "add", "(IIIJ)V"⟩
abbrev cX4_narrowTo : ByteArray := prog_6_method_19_code
def yX4_narrowTo : MethodName := ⟨RX4, "narrowTo", "(I)I"⟩
abbrev cX4_likeliestOfAll : ByteArray := prog_6_method_20_code
def yX4_likeliestOfAll : MethodName := ⟨RX4, "likeliestOfAll", "()J"⟩
abbrev cX4_mixInto : ByteArray := prog_6_method_21_code
def yX4_mixInto : MethodName := ⟨RX4, "mixInto", "(J)J"⟩
def RX5 : String := "WithEyesBound$Page"
def TX5 : u_T := fun k => match k with
  | 0 => ("WithEyesBound$Page", "signs", "[C", true)
  | 1 => ("WithEyesBound$Page", "length", "I", false)
  | 2 => ("WithEyesBound$Page", "row", "I", false)
  | 3 => ("WithEyesBound$Page", "column", "I", false)
  | _ => ("WithEyesBound$Page", "width", "I", false)
def tyX5 : Nat → FieldType := fun k => match k with
  | 0 => .array .char
  | 1 => .int
  | 2 => .int
  | 3 => .int
  | _ => .int
abbrev wsX50 : List Cond := u_ws RX5 TX5 5
theorem nmX5 : ∀ a, a < 5 → ∀ b, b < 5 → a ≠ b → (TX5 a).2.1 ≠ (TX5 b).2.1 := by decide +kernel
theorem tyX5_ok : ∀ k, k < 5 → parseFieldDescriptor (TX5 k).2.2.1 = some (tyX5 k) := by decide +kernel
abbrev cX5_init : ByteArray := prog_7_method_1_code
def yX5_init : MethodName := ⟨RX5, "<init>", "()V"⟩
abbrev cX5_lettersIn : ByteArray := prog_7_method_2_code
def yX5_lettersIn : MethodName := ⟨RX5, "lettersIn", "(J)I"⟩
abbrev cX5_codeAt : ByteArray := prog_7_method_3_code
def yX5_codeAt : MethodName := ⟨RX5, "codeAt", "(JI)I"⟩
abbrev cX5_write : ByteArray := prog_7_method_4_code
def yX5_write : MethodName := ⟨RX5, "write", "(JI)V"⟩
abbrev cX5_kindAt : ByteArray := prog_7_method_5_code
def yX5_kindAt : MethodName := ⟨RX5, "kindAt", "(I)I"⟩
abbrev cX5_readOn : ByteArray := prog_7_method_6_code
def yX5_readOn : MethodName := ⟨RX5, "readOn", "()I"⟩
abbrev cX5_mayEndRow : ByteArray := prog_7_method_7_code
def yX5_mayEndRow : MethodName := ⟨RX5, "mayEndRow", "()Z"⟩
abbrev cX5_isWhole : ByteArray := prog_7_method_8_code
def yX5_isWhole : MethodName := ⟨RX5, "isWhole", "()Z"⟩
abbrev cX5_hasFree : ByteArray := prog_7_method_9_code
def yX5_hasFree : MethodName := ⟨RX5, "hasFree", "()Z"⟩
abbrev cX5_mixInto : ByteArray := prog_7_method_10_code
def yX5_mixInto : MethodName := ⟨RX5, "mixInto", "(J)J"⟩
def RX6 : String := "WithEyesBound$Player"
def TX6 : u_T := fun k => match k with
  | 0 => ("WithEyesBound$Player", "told", "I", false)
  | 1 => ("WithEyesBound$Player", "kept", "I", false)
  | 2 => ("WithEyesBound$Player", "at", "I", false)
  | 3 => ("WithEyesBound$Player", "size", "I", false)
  | 4 => ("WithEyesBound$Player", "cloth", "I", false)
  | _ => ("WithEyesBound$Player", "giggle", "I", false)
def tyX6 : Nat → FieldType := fun k => match k with
  | 0 => .int
  | 1 => .int
  | 2 => .int
  | 3 => .int
  | 4 => .int
  | _ => .int
abbrev wsX60 : List Cond := u_ws RX6 TX6 6
theorem nmX6 : ∀ a, a < 6 → ∀ b, b < 6 → a ≠ b → (TX6 a).2.1 ≠ (TX6 b).2.1 := by decide +kernel
theorem tyX6_ok : ∀ k, k < 6 → parseFieldDescriptor (TX6 k).2.2.1 = some (tyX6 k) := by decide +kernel
abbrev cX6_init : ByteArray := prog_8_method_1_code
def yX6_init : MethodName := ⟨RX6, "<init>", "()V"⟩
abbrev cX6_kind : ByteArray := prog_8_method_2_code
def yX6_kind : MethodName := ⟨RX6, "kind", "()I"⟩
abbrev cX6_goOn : ByteArray := prog_8_method_3_code
def yX6_goOn : MethodName := ⟨RX6, "goOn", "(LWithEyesBound$Ring;III)V"⟩
abbrev cX6_callsFrom : ByteArray := prog_8_method_4_code
def yX6_callsFrom : MethodName := ⟨RX6, "callsFrom", "(LWithEyesBound$Ring;)I"⟩
abbrev cX6_isCaught : ByteArray := prog_8_method_5_code
def yX6_isCaught : MethodName := ⟨RX6, "isCaught", "(LWithEyesBound$Round;)Z"⟩
abbrev cX6_detail : ByteArray := prog_8_method_6_code
def yX6_detail : MethodName := ⟨RX6, "detail", "(I)I"⟩
def RX7 : String := "WithEyesBound$Ring"
def TX7 : u_T := fun k => match k with
  | 0 => ("WithEyesBound$Ring", "kinds", "[I", true)
  | 1 => ("WithEyesBound$Ring", "rows", "[I", true)
  | 2 => ("WithEyesBound$Ring", "columns", "[I", true)
  | 3 => ("WithEyesBound$Ring", "beside", "[I", true)
  | 4 => ("WithEyesBound$Ring", "size", "I", false)
  | _ => ("WithEyesBound$Ring", "free", "I", false)
def tyX7 : Nat → FieldType := fun k => match k with
  | 0 => .array .int
  | 1 => .array .int
  | 2 => .array .int
  | 3 => .array .int
  | 4 => .int
  | _ => .int
abbrev wsX70 : List Cond := u_ws RX7 TX7 6
theorem nmX7 : ∀ a, a < 6 → ∀ b, b < 6 → a ≠ b → (TX7 a).2.1 ≠ (TX7 b).2.1 := by decide +kernel
theorem tyX7_ok : ∀ k, k < 6 → parseFieldDescriptor (TX7 k).2.2.1 = some (tyX7 k) := by decide +kernel
abbrev cX7_init : ByteArray := prog_9_method_1_code
def yX7_init : MethodName := ⟨RX7, "<init>", "()V"⟩
abbrev cX7_readFrom : ByteArray := prog_9_method_2_code
def yX7_readFrom : MethodName := ⟨RX7, "readFrom", "(LWithEyesBound$Page;)V"⟩
abbrev cX7_put : ByteArray := prog_9_method_3_code
def yX7_put : MethodName := ⟨RX7, "put", "(III)V"⟩
abbrev cX7_findBeside : ByteArray := prog_9_method_4_code
def yX7_findBeside : MethodName := ⟨RX7, "findBeside", "(II)V"⟩
abbrev cX7_isRead : ByteArray := prog_9_method_5_code
def yX7_isRead : MethodName := ⟨RX7, "isRead", "()Z"⟩
abbrev cX7_has : ByteArray := prog_9_method_6_code
def yX7_has : MethodName := ⟨RX7, "has", "(I)Z"⟩
abbrev cX7_kindOf : ByteArray := prog_9_method_7_code
def yX7_kindOf : MethodName := ⟨RX7, "kindOf", "(I)I"⟩
abbrev cX7_isFree : ByteArray := prog_9_method_8_code
def yX7_isFree : MethodName := ⟨RX7, "isFree", "(I)Z"⟩
abbrev cX7_firstFree : ByteArray := prog_9_method_9_code
def yX7_firstFree : MethodName := ⟨RX7, "firstFree", "()I"⟩
abbrev cX7_ahead : ByteArray := prog_9_method_10_code
def yX7_ahead : MethodName := ⟨RX7, "ahead", "(II)I"⟩
abbrev cX7_rowOf : ByteArray := prog_9_method_11_code
def yX7_rowOf : MethodName := ⟨RX7, "rowOf", "(I)I"⟩
abbrev cX7_columnOf : ByteArray := prog_9_method_12_code
def yX7_columnOf : MethodName := ⟨RX7, "columnOf", "(I)I"⟩
abbrev cX7_apart : ByteArray := prog_9_method_13_code
def yX7_apart : MethodName := ⟨RX7, "apart", "(III)I"⟩
abbrev cX7_wayTo : ByteArray := prog_9_method_14_code
def yX7_wayTo : MethodName := ⟨RX7, "wayTo", "(II)I"⟩
abbrev cX7_choose : ByteArray := prog_9_method_15_code
def yX7_choose : MethodName := ⟨RX7, "choose", "(IIII)I"⟩
abbrev cX7_mixInto : ByteArray := prog_9_method_16_code
def yX7_mixInto : MethodName := ⟨RX7, "mixInto", "(J)J"⟩
def RX8 : String := "WithEyesBound$Round"
def TX8 : u_T := fun k => match k with
  | 0 => ("WithEyesBound$Round", "ring", "LWithEyesBound$Ring;", true)
  | 1 => ("WithEyesBound$Round", "players", "[LWithEyesBound$Player;", true)
  | 2 => ("WithEyesBound$Round", "firstCell", "I", false)
  | 3 => ("WithEyesBound$Round", "firstWay", "I", false)
  | 4 => ("WithEyesBound$Round", "drift", "I", false)
  | 5 => ("WithEyesBound$Round", "tenths", "I", false)
  | 6 => ("WithEyesBound$Round", "hisCell", "I", false)
  | 7 => ("WithEyesBound$Round", "hisWay", "I", false)
  | 8 => ("WithEyesBound$Round", "tenth", "I", false)
  | 9 => ("WithEyesBound$Round", "touched", "I", false)
  | _ => ("WithEyesBound$Round", "seed", "J", false)
def tyX8 : Nat → FieldType := fun k => match k with
  | 0 => .object "WithEyesBound$Ring"
  | 1 => .array (.object "WithEyesBound$Player")
  | 2 => .int
  | 3 => .int
  | 4 => .int
  | 5 => .int
  | 6 => .int
  | 7 => .int
  | 8 => .int
  | 9 => .int
  | _ => .long
abbrev wsX80 : List Cond := u_ws RX8 TX8 11
theorem nmX8 : ∀ a, a < 11 → ∀ b, b < 11 → a ≠ b → (TX8 a).2.1 ≠ (TX8 b).2.1 := by decide +kernel
theorem tyX8_ok : ∀ k, k < 11 → parseFieldDescriptor (TX8 k).2.2.1 = some (tyX8 k) := by decide +kernel
abbrev cX8_init : ByteArray := prog_10_method_1_code
def yX8_init : MethodName := ⟨RX8, "<init>", "(LWithEyesBound$Ring;[LWithEyesBound$Player;)V"⟩
abbrev cX8_begin : ByteArray := prog_10_method_2_code
def yX8_begin : MethodName := ⟨RX8, "begin", "(IIII)V"⟩
abbrev cX8_play : ByteArray := prog_10_method_3_code
def yX8_play : MethodName := ⟨RX8, "play", "(I)V"⟩
abbrev cX8_outcome : ByteArray := prog_10_method_4_code
def yX8_outcome : MethodName := ⟨RX8, "outcome", "(I)I"⟩
abbrev cX8_seedsThatTouch : ByteArray := prog_10_method_5_code
def yX8_seedsThatTouch : MethodName := ⟨RX8, "seedsThatTouch", "(III)I"⟩
abbrev cX8_draw : ByteArray := prog_10_method_6_code
def yX8_draw : MethodName := ⟨RX8, "draw", "()I"⟩
abbrev cX8_playersGo : ByteArray := prog_10_method_7_code
def yX8_playersGo : MethodName := ⟨RX8, "playersGo", "()V"⟩
abbrev cX8_lookToCall : ByteArray := prog_10_method_8_code
def yX8_lookToCall : MethodName := ⟨RX8, "lookToCall", "()V"⟩
abbrev cX8_heGoes : ByteArray := prog_10_method_9_code
def yX8_heGoes : MethodName := ⟨RX8, "heGoes", "()V"⟩
abbrev cX8_touch : ByteArray := prog_10_method_10_code
def yX8_touch : MethodName := ⟨RX8, "touch", "()V"⟩
def RX9 : String := "WithEyesBound$Shy"
def TX9 : u_T := fun k => match k with
  | 0 => ("WithEyesBound$Player", "told", "I", false)
  | 1 => ("WithEyesBound$Player", "kept", "I", false)
  | 2 => ("WithEyesBound$Player", "at", "I", false)
  | 3 => ("WithEyesBound$Player", "size", "I", false)
  | 4 => ("WithEyesBound$Player", "cloth", "I", false)
  | _ => ("WithEyesBound$Player", "giggle", "I", false)
def tyX9 : Nat → FieldType := fun k => match k with
  | 0 => .int
  | 1 => .int
  | 2 => .int
  | 3 => .int
  | 4 => .int
  | _ => .int
abbrev wsX90 : List Cond := u_ws RX9 TX9 6
theorem nmX9 : ∀ a, a < 6 → ∀ b, b < 6 → a ≠ b → (TX9 a).2.1 ≠ (TX9 b).2.1 := by decide +kernel
theorem tyX9_ok : ∀ k, k < 6 → parseFieldDescriptor (TX9 k).2.2.1 = some (tyX9 k) := by decide +kernel
abbrev cX9_init : ByteArray := prog_11_method_1_code
def yX9_init : MethodName := ⟨RX9, "<init>", "()V"⟩
abbrev cX9_kind : ByteArray := prog_11_method_2_code
def yX9_kind : MethodName := ⟨RX9, "kind", "()I"⟩
abbrev cX9_goOn : ByteArray := prog_11_method_3_code
def yX9_goOn : MethodName := ⟨RX9, "goOn", "(LWithEyesBound$Ring;III)V"⟩
def RX10 : String := "WithEyesBound$Small"
def TX10 : u_T := fun k => match k with
  | 0 => ("WithEyesBound$Player", "told", "I", false)
  | 1 => ("WithEyesBound$Player", "kept", "I", false)
  | 2 => ("WithEyesBound$Player", "at", "I", false)
  | 3 => ("WithEyesBound$Player", "size", "I", false)
  | 4 => ("WithEyesBound$Player", "cloth", "I", false)
  | _ => ("WithEyesBound$Player", "giggle", "I", false)
def tyX10 : Nat → FieldType := fun k => match k with
  | 0 => .int
  | 1 => .int
  | 2 => .int
  | 3 => .int
  | 4 => .int
  | _ => .int
abbrev wsX100 : List Cond := u_ws RX10 TX10 6
theorem nmX10 : ∀ a, a < 6 → ∀ b, b < 6 → a ≠ b → (TX10 a).2.1 ≠ (TX10 b).2.1 := by decide +kernel
theorem tyX10_ok : ∀ k, k < 6 → parseFieldDescriptor (TX10 k).2.2.1 = some (tyX10 k) := by decide +kernel
abbrev cX10_init : ByteArray := prog_12_method_1_code
def yX10_init : MethodName := ⟨RX10, "<init>", "()V"⟩
abbrev cX10_kind : ByteArray := prog_12_method_2_code
def yX10_kind : MethodName := ⟨RX10, "kind", "()I"⟩
abbrev cX10_isCaught : ByteArray := prog_12_method_3_code
def yX10_isCaught : MethodName := ⟨RX10, "isCaught", "(LWithEyesBound$Round;)Z"⟩
def RX11 : String := "WithEyesBound"
def TX11 : u_T := fun k => match k with
  | 0 => ("WithEyesBound", "page", "LWithEyesBound$Page;", true)
  | 1 => ("WithEyesBound", "ring", "LWithEyesBound$Ring;", true)
  | 2 => ("WithEyesBound", "odds", "LWithEyesBound$Odds;", true)
  | 3 => ("WithEyesBound", "players", "[LWithEyesBound$Player;", true)
  | 4 => ("WithEyesBound", "round", "LWithEyesBound$Round;", true)
  | 5 => ("WithEyesBound", "naming", "LWithEyesBound$Naming;", true)
  | 6 => ("WithEyesBound", "playing", "I", false)
  | 7 => ("WithEyesBound", "ringsRead", "I", false)
  | 8 => ("WithEyesBound", "standsDone", "I", false)
  | _ => ("WithEyesBound", "imageKept", "Z", false)
def tyX11 : Nat → FieldType := fun k => match k with
  | 0 => .object "WithEyesBound$Page"
  | 1 => .object "WithEyesBound$Ring"
  | 2 => .object "WithEyesBound$Odds"
  | 3 => .array (.object "WithEyesBound$Player")
  | 4 => .object "WithEyesBound$Round"
  | 5 => .object "WithEyesBound$Naming"
  | 6 => .int
  | 7 => .int
  | 8 => .int
  | _ => .boolean
abbrev wsX110 : List Cond := u_ws RX11 TX11 10
theorem nmX11 : ∀ a, a < 10 → ∀ b, b < 10 → a ≠ b → (TX11 a).2.1 ≠ (TX11 b).2.1 := by decide +kernel
theorem tyX11_ok : ∀ k, k < 10 → parseFieldDescriptor (TX11 k).2.2.1 = some (tyX11 k) := by decide +kernel
abbrev cX11_init : ByteArray := prog_1_method_1_code
def yX11_init : MethodName := ⟨RX11, "<init>", "()V"⟩
abbrev cX11_letters : ByteArray := prog_1_method_2_code
def yX11_letters : MethodName := ⟨RX11, "letters", "(J)I"⟩
abbrev cX11_blank : ByteArray := prog_1_method_3_code
def yX11_blank : MethodName := ⟨RX11, "blank", "()I"⟩
abbrev cX11_fault : ByteArray := prog_1_method_4_code
def yX11_fault : MethodName := ⟨RX11, "fault", "()I"⟩
abbrev cX11_ring : ByteArray := prog_1_method_5_code
def yX11_ring : MethodName := ⟨RX11, "ring", "()I"⟩
abbrev cX11_cell : ByteArray := prog_1_method_6_code
def yX11_cell : MethodName := ⟨RX11, "cell", "(I)I"⟩
abbrev cX11_set : ByteArray := prog_1_method_7_code
def yX11_set : MethodName := ⟨RX11, "set", "(II)I"⟩
abbrev cX11_lost : ByteArray := prog_1_method_8_code
def yX11_lost : MethodName := ⟨RX11, "lost", "()I"⟩
abbrev cX11_turned : ByteArray := prog_1_method_9_code
def yX11_turned : MethodName := ⟨RX11, "turned", "(I)I"⟩
abbrev cX11_step : ByteArray := prog_1_method_10_code
def yX11_step : MethodName := ⟨RX11, "step", "(II)I"⟩
abbrev cX11_heard : ByteArray := prog_1_method_11_code
def yX11_heard : MethodName := ⟨RX11, "heard", "(III)I"⟩
abbrev cX11_odds : ByteArray := prog_1_method_12_code
def yX11_odds : MethodName := ⟨RX11, "odds", "(II)J"⟩
abbrev cX11_ways : ByteArray := prog_1_method_13_code
def yX11_ways : MethodName := ⟨RX11, "ways", "(II)J"⟩
abbrev cX11_likeliest : ByteArray := prog_1_method_14_code
def yX11_likeliest : MethodName := ⟨RX11, "likeliest", "()I"⟩
abbrev cX11_knows : ByteArray := prog_1_method_15_code
def yX11_knows : MethodName := ⟨RX11, "knows", "(I)J"⟩
abbrev cX11_expected : ByteArray := prog_1_method_16_code
def yX11_expected : MethodName := ⟨RX11, "expected", "(IIIII)J"⟩
abbrev cX11_next : ByteArray := prog_1_method_17_code
def yX11_next : MethodName := ⟨RX11, "next", "(III)I"⟩
abbrev cX11_post : ByteArray := prog_1_method_18_code
def yX11_post : MethodName := ⟨RX11, "post", "(III)J"⟩
abbrev cX11_player : ByteArray := prog_1_method_19_code
def yX11_player : MethodName := ⟨RX11, "player", "(IIIII)I"⟩
abbrev cX11_as : ByteArray := prog_1_method_20_code
def yX11_as : MethodName := ⟨RX11, "as", "(II)I"⟩
abbrev cX11_about : ByteArray := prog_1_method_21_code
def yX11_about : MethodName := ⟨RX11, "about", "(II)I"⟩
abbrev cX11_move : ByteArray := prog_1_method_22_code
def yX11_move : MethodName := ⟨RX11, "move", "(II)I"⟩
abbrev cX11_game : ByteArray := prog_1_method_23_code
def yX11_game : MethodName := ⟨RX11, "game", "(IIIIII)I"⟩
abbrev cX11_lasts : ByteArray := prog_1_method_24_code
def yX11_lasts : MethodName := ⟨RX11, "lasts", "(IIIII)I"⟩
abbrev cX11_stand : ByteArray := prog_1_method_25_code
def yX11_stand : MethodName := ⟨RX11, "stand", "(IIIIII)I"⟩
abbrev cX11_feels : ByteArray := prog_1_method_26_code
def yX11_feels : MethodName := ⟨RX11, "feels", "(III)I"⟩
abbrev cX11_jackets : ByteArray := prog_1_method_27_code
def yX11_jackets : MethodName := ⟨RX11, "jackets", "(III)I"⟩
abbrev cX11_named : ByteArray := prog_1_method_28_code
def yX11_named : MethodName := ⟨RX11, "named", "(IIIII)I"⟩
abbrev cX11_says : ByteArray := prog_1_method_29_code
def yX11_says : MethodName := ⟨RX11, "says", "(III)I"⟩
abbrev cX11_when : ByteArray := prog_1_method_30_code
def yX11_when : MethodName := ⟨RX11, "when", "(IIIII)I"⟩
abbrev cX11_image : ByteArray := prog_1_method_31_code
def yX11_image : MethodName := ⟨RX11, "image", "()I"⟩
abbrev cX11_restore : ByteArray := prog_1_method_32_code
def yX11_restore : MethodName := ⟨RX11, "restore", "()I"⟩
abbrev cX11_count : ByteArray := prog_1_method_33_code
def yX11_count : MethodName := ⟨RX11, "count", "(I)I"⟩
abbrev cX11_digest : ByteArray := prog_1_method_34_code
def yX11_digest : MethodName := ⟨RX11, "digest", "()J"⟩
abbrev cX11_isWithin : ByteArray := prog_1_method_35_code
def yX11_isWithin : MethodName := ⟨RX11, "isWithin", "(II)Z"⟩
abbrev cX11_mayStart : ByteArray := prog_1_method_36_code
def yX11_mayStart : MethodName := ⟨RX11, "mayStart", "(IIII)Z"⟩
abbrev cX11_couldBeFelt : ByteArray := prog_1_method_37_code
def yX11_couldBeFelt : MethodName := ⟨RX11, "couldBeFelt", "(III)Z"⟩
abbrev cX11_mixed : ByteArray := prog_1_method_38_code
def yX11_mixed : MethodName := ⟨RX11, "mixed", "(JJ)J"⟩
abbrev cX11_commonDivisor : ByteArray := prog_1_method_39_code
def yX11_commonDivisor : MethodName := ⟨RX11, "commonDivisor", "(JJ)J"⟩
abbrev cX11_term : ByteArray := prog_1_method_40_code
def yX11_term : MethodName := ⟨RX11, "term", "(JJI)J"⟩
abbrev cX11_sixtiethsExpected : ByteArray := prog_1_method_41_code
def yX11_sixtiethsExpected : MethodName := ⟨RX11, "sixtiethsExpected", "(IIII)J"⟩
abbrev cX11_bestDoing : ByteArray := prog_1_method_42_code
def yX11_bestDoing : MethodName := ⟨RX11, "bestDoing", "(III)I"⟩
abbrev cX11_playerOf : ByteArray := prog_1_method_43_code
def yX11_playerOf : MethodName := ⟨RX11, "playerOf", "(I)LWithEyesBound$Player;"⟩
abbrev cX11_playerOfKind : ByteArray := prog_1_method_44_code
def yX11_playerOfKind : MethodName := ⟨RX11, "playerOfKind", "(I)LWithEyesBound$Player;"⟩
abbrev cX11_isOfKind : ByteArray := prog_1_method_45_code
def yX11_isOfKind : MethodName := ⟨RX11, "isOfKind", "(LWithEyesBound$Player;I)Z"⟩
def RX12 : String := "WithEyesBoundModel"
def TX12 : u_T := fun k => match k with
  | 0 => ("WithEyesBoundModel", "rows", "I", false)
  | 1 => ("WithEyesBoundModel", "columns", "I", false)
  | 2 => ("WithEyesBoundModel", "rings", "I", false)
  | 3 => ("WithEyesBoundModel", "cellOf", "[I", true)
  | 4 => ("WithEyesBoundModel", "weight", "[J", true)
  | 5 => ("WithEyesBoundModel", "then", "[J", true)
  | 6 => ("WithEyesBoundModel", "updates", "I", false)
  | 7 => ("WithEyesBoundModel", "players", "I", false)
  | 8 => ("WithEyesBoundModel", "kindOf", "[I", true)
  | 9 => ("WithEyesBoundModel", "placeOf", "[I", true)
  | 10 => ("WithEyesBoundModel", "sizeOf", "[I", true)
  | 11 => ("WithEyesBoundModel", "clothOf", "[I", true)
  | 12 => ("WithEyesBoundModel", "giggleOf", "[I", true)
  | 13 => ("WithEyesBoundModel", "unsure", "I", false)
  | 14 => ("WithEyesBoundModel", "clothRight", "I", false)
  | 15 => ("WithEyesBoundModel", "giggleRight", "I", false)
  | 16 => ("WithEyesBoundModel", "jacketA", "I", false)
  | 17 => ("WithEyesBoundModel", "jacketB", "I", false)
  | 18 => ("WithEyesBoundModel", "jacketTenths", "I", false)
  | 19 => ("WithEyesBoundModel", "asks", "I", false)
  | 20 => ("WithEyesBoundModel", "pageLength", "I", false)
  | 21 => ("WithEyesBoundModel", "page", "[B", true)
  | 22 => ("WithEyesBoundModel", "isKept", "Z", false)
  | 23 => ("WithEyesBoundModel", "keptRing", "I", false)
  | 24 => ("WithEyesBoundModel", "keptPlayers", "I", false)
  | 25 => ("WithEyesBoundModel", "keptUpdates", "I", false)
  | 26 => ("WithEyesBoundModel", "keptA", "I", false)
  | 27 => ("WithEyesBoundModel", "keptB", "I", false)
  | 28 => ("WithEyesBoundModel", "keptTenths", "I", false)
  | 29 => ("WithEyesBoundModel", "keptWeight", "[J", true)
  | 30 => ("WithEyesBoundModel", "keptPlace", "[I", true)
  | 31 => ("WithEyesBoundModel", "faultAt", "I", false)
  | 32 => ("WithEyesBoundModel", "isWhole", "Z", false)
  | 33 => ("WithEyesBoundModel", "newRows", "I", false)
  | 34 => ("WithEyesBoundModel", "newColumns", "I", false)
  | 35 => ("WithEyesBoundModel", "newCell", "[I", true)
  | 36 => ("WithEyesBoundModel", "gonePost", "I", false)
  | 37 => ("WithEyesBoundModel", "his", "I", false)
  | 38 => ("WithEyesBoundModel", "looks", "I", false)
  | 39 => ("WithEyesBoundModel", "seedNow", "J", false)
  | 40 => ("WithEyesBoundModel", "place", "[I", true)
  | 41 => ("WithEyesBoundModel", "touched", "I", false)
  | 42 => ("WithEyesBoundModel", "touchedAt", "I", false)
  | _ => ("WithEyesBoundModel", "h", "J", false)
def tyX12 : Nat → FieldType := fun k => match k with
  | 0 => .int
  | 1 => .int
  | 2 => .int
  | 3 => .array .int
  | 4 => .array .long
  | 5 => .array .long
  | 6 => .int
  | 7 => .int
  | 8 => .array .int
  | 9 => .array .int
  | 10 => .array .int
  | 11 => .array .int
  | 12 => .array .int
  | 13 => .int
  | 14 => .int
  | 15 => .int
  | 16 => .int
  | 17 => .int
  | 18 => .int
  | 19 => .int
  | 20 => .int
  | 21 => .array .byte
  | 22 => .boolean
  | 23 => .int
  | 24 => .int
  | 25 => .int
  | 26 => .int
  | 27 => .int
  | 28 => .int
  | 29 => .array .long
  | 30 => .array .int
  | 31 => .int
  | 32 => .boolean
  | 33 => .int
  | 34 => .int
  | 35 => .array .int
  | 36 => .int
  | 37 => .int
  | 38 => .int
  | 39 => .long
  | 40 => .array .int
  | 41 => .int
  | 42 => .int
  | _ => .long
abbrev wsX120 : List Cond := u_ws RX12 TX12 44
theorem nmX12 : ∀ a, a < 44 → ∀ b, b < 44 → a ≠ b → (TX12 a).2.1 ≠ (TX12 b).2.1 := by decide +kernel
theorem tyX12_ok : ∀ k, k < 44 → parseFieldDescriptor (TX12 k).2.2.1 = some (tyX12 k) := by decide +kernel
abbrev cX12_init : ByteArray := prog_14_method_1_code
def yX12_init : MethodName := ⟨RX12, "<init>", "()V"⟩
abbrev cX12_within : ByteArray := prog_14_method_3_code
def yX12_within : MethodName := ⟨RX12, "within", "(III)Z"⟩
abbrev cX12_size : ByteArray := prog_14_method_4_code
def yX12_size : MethodName := ⟨RX12, "size", "(I)I"⟩
abbrev cX12_divisor : ByteArray := prog_14_method_5_code
def yX12_divisor : MethodName := ⟨RX12, "divisor", "(JJ)J"⟩
abbrev cX12_lowest : ByteArray := prog_14_method_6_code
def yX12_lowest : MethodName := ⟨RX12, "lowest", "(JJI)J"⟩
abbrev cX12_letters : ByteArray := prog_14_method_7_code
def yX12_letters : MethodName := ⟨RX12, "letters", "(J)I"⟩
abbrev cX12_blank : ByteArray := prog_14_method_8_code
def yX12_blank : MethodName := ⟨RX12, "blank", "()I"⟩
abbrev cX12_sortOf : ByteArray := prog_14_method_9_code
def yX12_sortOf : MethodName := ⟨RX12, "sortOf", "(I)I"⟩
abbrev cX12_readPage : ByteArray := prog_14_method_10_code
def yX12_readPage : MethodName := ⟨RX12, "readPage", "()V"⟩
abbrev cX12_fault : ByteArray := prog_14_method_11_code
def yX12_fault : MethodName := ⟨RX12, "fault", "()I"⟩
abbrev cX12_ring : ByteArray := prog_14_method_12_code
def yX12_ring : MethodName := ⟨RX12, "ring", "()I"⟩
abbrev cX12_cells : ByteArray := prog_14_method_13_code
def yX12_cells : MethodName := ⟨RX12, "cells", "()I"⟩
abbrev cX12_isCell : ByteArray := prog_14_method_14_code
def yX12_isCell : MethodName := ⟨RX12, "isCell", "(I)Z"⟩
abbrev cX12_isFree : ByteArray := prog_14_method_15_code
def yX12_isFree : MethodName := ⟨RX12, "isFree", "(I)Z"⟩
abbrev cX12_cell : ByteArray := prog_14_method_16_code
def yX12_cell : MethodName := ⟨RX12, "cell", "(I)I"⟩
abbrev cX12_on : ByteArray := prog_14_method_17_code
def yX12_on : MethodName := ⟨RX12, "on", "(II)I"⟩
abbrev cX12_isWay : ByteArray := prog_14_method_18_code
def yX12_isWay : MethodName := ⟨RX12, "isWay", "(I)Z"⟩
abbrev cX12_clear : ByteArray := prog_14_method_19_code
def yX12_clear : MethodName := ⟨RX12, "clear", "()V"⟩
abbrev cX12_layLost : ByteArray := prog_14_method_20_code
def yX12_layLost : MethodName := ⟨RX12, "layLost", "()I"⟩
abbrev cX12_set : ByteArray := prog_14_method_21_code
def yX12_set : MethodName := ⟨RX12, "set", "(II)I"⟩
abbrev cX12_lost : ByteArray := prog_14_method_22_code
def yX12_lost : MethodName := ⟨RX12, "lost", "()I"⟩
abbrev cX12_above : ByteArray := prog_14_method_23_code
def yX12_above : MethodName := ⟨RX12, "above", "()I"⟩
abbrev cX12_take : ByteArray := prog_14_method_24_code
def yX12_take : MethodName := ⟨RX12, "take", "()I"⟩
abbrev cX12_turned : ByteArray := prog_14_method_25_code
def yX12_turned : MethodName := ⟨RX12, "turned", "(I)I"⟩
abbrev cX12_sortAt : ByteArray := prog_14_method_26_code
def yX12_sortAt : MethodName := ⟨RX12, "sortAt", "(I)I"⟩
abbrev cX12_feltOf : ByteArray := prog_14_method_27_code
def yX12_feltOf : MethodName := ⟨RX12, "feltOf", "(I)I"⟩
abbrev cX12_stepOne : ByteArray := prog_14_method_28_code
def yX12_stepOne : MethodName := ⟨RX12, "stepOne", "(IIII)V"⟩
abbrev cX12_layStep : ByteArray := prog_14_method_29_code
def yX12_layStep : MethodName := ⟨RX12, "layStep", "(III)V"⟩
abbrev cX12_step : ByteArray := prog_14_method_30_code
def yX12_step : MethodName := ⟨RX12, "step", "(II)I"⟩
abbrev cX12_liesFrom : ByteArray := prog_14_method_31_code
def yX12_liesFrom : MethodName := ⟨RX12, "liesFrom", "(II)I"⟩
abbrev cX12_layHeard : ByteArray := prog_14_method_32_code
def yX12_layHeard : MethodName := ⟨RX12, "layHeard", "(III)V"⟩
abbrev cX12_heard : ByteArray := prog_14_method_33_code
def yX12_heard : MethodName := ⟨RX12, "heard", "(III)I"⟩
abbrev cX12_all : ByteArray := prog_14_method_34_code
def yX12_all : MethodName := ⟨RX12, "all", "()J"⟩
abbrev cX12_ofCell : ByteArray := prog_14_method_35_code
def yX12_ofCell : MethodName := ⟨RX12, "ofCell", "(I)J"⟩
abbrev cX12_isPart : ByteArray := prog_14_method_36_code
def yX12_isPart : MethodName := ⟨RX12, "isPart", "(I)Z"⟩
abbrev cX12_odds : ByteArray := prog_14_method_37_code
def yX12_odds : MethodName := ⟨RX12, "odds", "(II)J"⟩
abbrev cX12_ways : ByteArray := prog_14_method_38_code
def yX12_ways : MethodName := ⟨RX12, "ways", "(II)J"⟩
abbrev cX12_likeliestNow : ByteArray := prog_14_method_39_code
def yX12_likeliestNow : MethodName := ⟨RX12, "likeliestNow", "()I"⟩
abbrev cX12_likeliest : ByteArray := prog_14_method_40_code
def yX12_likeliest : MethodName := ⟨RX12, "likeliest", "()I"⟩
abbrev cX12_knows : ByteArray := prog_14_method_41_code
def yX12_knows : MethodName := ⟨RX12, "knows", "(I)J"⟩
abbrev cX12_greatestThen : ByteArray := prog_14_method_42_code
def yX12_greatestThen : MethodName := ⟨RX12, "greatestThen", "()J"⟩
abbrev cX12_expectedNow : ByteArray := prog_14_method_43_code
def yX12_expectedNow : MethodName := ⟨RX12, "expectedNow", "(IIII)J"⟩
abbrev cX12_areMany : ByteArray := prog_14_method_44_code
def yX12_areMany : MethodName := ⟨RX12, "areMany", "()Z"⟩
abbrev cX12_expected : ByteArray := prog_14_method_45_code
def yX12_expected : MethodName := ⟨RX12, "expected", "(IIIII)J"⟩
abbrev cX12_next : ByteArray := prog_14_method_46_code
def yX12_next : MethodName := ⟨RX12, "next", "(III)I"⟩
abbrev cX12_post : ByteArray := prog_14_method_47_code
def yX12_post : MethodName := ⟨RX12, "post", "(III)J"⟩
abbrev cX12_isPlayer : ByteArray := prog_14_method_48_code
def yX12_isPlayer : MethodName := ⟨RX12, "isPlayer", "(I)Z"⟩
abbrev cX12_player : ByteArray := prog_14_method_49_code
def yX12_player : MethodName := ⟨RX12, "player", "(IIIII)I"⟩
abbrev cX12_as : ByteArray := prog_14_method_50_code
def yX12_as : MethodName := ⟨RX12, "as", "(II)I"⟩
abbrev cX12_playerTold : ByteArray := prog_14_method_51_code
def yX12_playerTold : MethodName := ⟨RX12, "playerTold", "(II)I"⟩
abbrev cX12_about : ByteArray := prog_14_method_52_code
def yX12_about : MethodName := ⟨RX12, "about", "(II)I"⟩
abbrev cX12_move : ByteArray := prog_14_method_53_code
def yX12_move : MethodName := ⟨RX12, "move", "(II)I"⟩
abbrev cX12_draw : ByteArray := prog_14_method_54_code
def yX12_draw : MethodName := ⟨RX12, "draw", "(I)I"⟩
abbrev cX12_far : ByteArray := prog_14_method_55_code
def yX12_far : MethodName := ⟨RX12, "far", "(III)I"⟩
abbrev cX12_goes : ByteArray := prog_14_method_56_code
def yX12_goes : MethodName := ⟨RX12, "goes", "(IIIZ)I"⟩
abbrev cX12_goPlayers : ByteArray := prog_14_method_57_code
def yX12_goPlayers : MethodName := ⟨RX12, "goPlayers", "()V"⟩
abbrev cX12_callOf : ByteArray := prog_14_method_58_code
def yX12_callOf : MethodName := ⟨RX12, "callOf", "(I)I"⟩
abbrev cX12_nearestCall : ByteArray := prog_14_method_59_code
def yX12_nearestCall : MethodName := ⟨RX12, "nearestCall", "()I"⟩
abbrev cX12_goHim : ByteArray := prog_14_method_60_code
def yX12_goHim : MethodName := ⟨RX12, "goHim", "(II)V"⟩
abbrev cX12_touchedNow : ByteArray := prog_14_method_61_code
def yX12_touchedNow : MethodName := ⟨RX12, "touchedNow", "()I"⟩
abbrev cX12_play : ByteArray := prog_14_method_62_code
def yX12_play : MethodName := ⟨RX12, "play", "(IIIII)V"⟩
abbrev cX12_game : ByteArray := prog_14_method_63_code
def yX12_game : MethodName := ⟨RX12, "game", "(IIIIII)I"⟩
abbrev cX12_lasts : ByteArray := prog_14_method_64_code
def yX12_lasts : MethodName := ⟨RX12, "lasts", "(IIIII)I"⟩
abbrev cX12_stand : ByteArray := prog_14_method_65_code
def yX12_stand : MethodName := ⟨RX12, "stand", "(IIIIII)I"⟩
abbrev cX12_feels : ByteArray := prog_14_method_66_code
def yX12_feels : MethodName := ⟨RX12, "feels", "(III)I"⟩
abbrev cX12_jackets : ByteArray := prog_14_method_67_code
def yX12_jackets : MethodName := ⟨RX12, "jackets", "(III)I"⟩
abbrev cX12_byCloth : ByteArray := prog_14_method_68_code
def yX12_byCloth : MethodName := ⟨RX12, "byCloth", "(II)I"⟩
abbrev cX12_likely : ByteArray := prog_14_method_69_code
def yX12_likely : MethodName := ⟨RX12, "likely", "(IIII)I"⟩
abbrev cX12_likelyAll : ByteArray := prog_14_method_70_code
def yX12_likelyAll : MethodName := ⟨RX12, "likelyAll", "(III)I"⟩
abbrev cX12_isFelt : ByteArray := prog_14_method_71_code
def yX12_isFelt : MethodName := ⟨RX12, "isFelt", "(III)Z"⟩
abbrev cX12_named : ByteArray := prog_14_method_72_code
def yX12_named : MethodName := ⟨RX12, "named", "(IIIII)I"⟩
abbrev cX12_saysNow : ByteArray := prog_14_method_73_code
def yX12_saysNow : MethodName := ⟨RX12, "saysNow", "(III)I"⟩
abbrev cX12_says : ByteArray := prog_14_method_74_code
def yX12_says : MethodName := ⟨RX12, "says", "(III)I"⟩
abbrev cX12_when : ByteArray := prog_14_method_75_code
def yX12_when : MethodName := ⟨RX12, "when", "(IIIII)I"⟩
abbrev cX12_image : ByteArray := prog_14_method_76_code
def yX12_image : MethodName := ⟨RX12, "image", "()I"⟩
abbrev cX12_restore : ByteArray := prog_14_method_77_code
def yX12_restore : MethodName := ⟨RX12, "restore", "()I"⟩
abbrev cX12_freeMany : ByteArray := prog_14_method_78_code
def yX12_freeMany : MethodName := ⟨RX12, "freeMany", "()I"⟩
abbrev cX12_howMany : ByteArray := prog_14_method_79_code
def yX12_howMany : MethodName := ⟨RX12, "howMany", "(I)I"⟩
abbrev cX12_count : ByteArray := prog_14_method_80_code
def yX12_count : MethodName := ⟨RX12, "count", "(I)I"⟩
abbrev cX12_mix : ByteArray := prog_14_method_81_code
def yX12_mix : MethodName := ⟨RX12, "mix", "(J)V"⟩
abbrev cX12_mixGame : ByteArray := prog_14_method_82_code
def yX12_mixGame : MethodName := ⟨RX12, "mixGame", "()V"⟩
abbrev cX12_digest : ByteArray := prog_14_method_83_code
def yX12_digest : MethodName := ⟨RX12, "digest", "()J"⟩
def RJx145de : String := "java/io/Serializable"
def TJx145de : u_T := fun k => match k with
  | _ => ("", "", "", false)
def tyJx145de : Nat → FieldType := fun k => match k with
  | _ => .int
abbrev wsJx145de0 : List Cond := u_ws RJx145de TJx145de 0
theorem nmJx145de : ∀ a, a < 0 → ∀ b, b < 0 → a ≠ b → (TJx145de a).2.1 ≠ (TJx145de b).2.1 := by decide +kernel
theorem tyJx145de_ok : ∀ k, k < 0 → parseFieldDescriptor (TJx145de k).2.2.1 = some (tyJx145de k) := by decide +kernel
def RJx9f9b0 : String := "java/lang/CharSequence"
def TJx9f9b0 : u_T := fun k => match k with
  | _ => ("", "", "", false)
def tyJx9f9b0 : Nat → FieldType := fun k => match k with
  | _ => .int
abbrev wsJx9f9b00 : List Cond := u_ws RJx9f9b0 TJx9f9b0 0
theorem nmJx9f9b0 : ∀ a, a < 0 → ∀ b, b < 0 → a ≠ b → (TJx9f9b0 a).2.1 ≠ (TJx9f9b0 b).2.1 := by decide +kernel
theorem tyJx9f9b0_ok : ∀ k, k < 0 → parseFieldDescriptor (TJx9f9b0 k).2.2.1 = some (tyJx9f9b0 k) := by decide +kernel
def RJ11 : String := "java/lang/Character"
def TJ11 : u_T := fun k => match k with
  | _ => ("", "", "", false)
def tyJ11 : Nat → FieldType := fun k => match k with
  | _ => .int
abbrev wsJ110 : List Cond := u_ws RJ11 TJ11 0
theorem nmJ11 : ∀ a, a < 0 → ∀ b, b < 0 → a ≠ b → (TJ11 a).2.1 ≠ (TJ11 b).2.1 := by decide +kernel
theorem tyJ11_ok : ∀ k, k < 0 → parseFieldDescriptor (TJ11 k).2.2.1 = some (tyJ11 k) := by decide +kernel
abbrev cJ11_isValidCodePoint_9a6ad : ByteArray := prog_15_method_11_code
def yJ11_isValidCodePoint_9a6ad : MethodName := ⟨RJ11, "isValidCodePoint", "(I)Z"⟩
abbrev cJ11_highSurrogate_5068e : ByteArray := prog_15_method_28_code
def yJ11_highSurrogate_5068e : MethodName := ⟨RJ11, "highSurrogate", "(I)C"⟩
abbrev cJ11_lowSurrogate_5068e : ByteArray := prog_15_method_29_code
def yJ11_lowSurrogate_5068e : MethodName := ⟨RJ11, "lowSurrogate", "(I)C"⟩
def RJxb160c : String := "java/lang/Comparable"
def TJxb160c : u_T := fun k => match k with
  | _ => ("", "", "", false)
def tyJxb160c : Nat → FieldType := fun k => match k with
  | _ => .int
abbrev wsJxb160c0 : List Cond := u_ws RJxb160c TJxb160c 0
theorem nmJxb160c : ∀ a, a < 0 → ∀ b, b < 0 → a ≠ b → (TJxb160c a).2.1 ≠ (TJxb160c b).2.1 := by decide +kernel
theorem tyJxb160c_ok : ∀ k, k < 0 → parseFieldDescriptor (TJxb160c k).2.2.1 = some (tyJxb160c k) := by decide +kernel
def RJ9 : String := "java/lang/Math"
def TJ9 : u_T := fun k => match k with
  | _ => ("", "", "", false)
def tyJ9 : Nat → FieldType := fun k => match k with
  | _ => .int
abbrev wsJ90 : List Cond := u_ws RJ9 TJ9 0
theorem nmJ9 : ∀ a, a < 0 → ∀ b, b < 0 → a ≠ b → (TJ9 a).2.1 ≠ (TJ9 b).2.1 := by decide +kernel
theorem tyJ9_ok : ∀ k, k < 0 → parseFieldDescriptor (TJ9 k).2.2.1 = some (tyJ9 k) := by decide +kernel
abbrev cJ9_abs_0f7a4 : ByteArray := prog_16_method_59_code
def yJ9_abs_0f7a4 : MethodName := ⟨RJ9, "abs", "(I)I"⟩
abbrev cJ9_max_7cf53 : ByteArray := prog_16_method_65_code
def yJ9_max_7cf53 : MethodName := ⟨RJ9, "max", "(II)I"⟩
abbrev cJ9_max_f86c9 : ByteArray := prog_16_method_66_code
def yJ9_max_f86c9 : MethodName := ⟨RJ9, "max", "(JJ)J"⟩
abbrev cJ9_min_7cf53 : ByteArray := prog_16_method_69_code
def yJ9_min_7cf53 : MethodName := ⟨RJ9, "min", "(II)I"⟩
def RJ0 : String := "java/lang/String"
def TJ0 : u_T := fun k => match k with
  | _ => ("", "", "", false)
def tyJ0 : Nat → FieldType := fun k => match k with
  | _ => .int
abbrev wsJ00 : List Cond := u_ws RJ0 TJ0 0
theorem nmJ0 : ∀ a, a < 0 → ∀ b, b < 0 → a ≠ b → (TJ0 a).2.1 ≠ (TJ0 b).2.1 := by decide +kernel
theorem tyJ0_ok : ∀ k, k < 0 → parseFieldDescriptor (TJ0 k).2.2.1 = some (tyJ0 k) := by decide +kernel
abbrev cJ0_length_8abf5 : ByteArray := prog_17_method_54_code
def yJ0_length_8abf5 : MethodName := ⟨RJ0, "length", "()I"⟩
abbrev cJ0_indexOf_0f7a4 : ByteArray := prog_17_method_79_code
def yJ0_indexOf_0f7a4 : MethodName := ⟨RJ0, "indexOf", "(I)I"⟩
abbrev cJ0_indexOf_7cf53 : ByteArray := prog_17_method_80_code
def yJ0_indexOf_7cf53 : MethodName := ⟨RJ0, "indexOf", "(II)I"⟩
abbrev cJ0_coder_7d493 : ByteArray := prog_17_method_152_code
def yJ0_coder_7d493 : MethodName := ⟨RJ0, "coder", "()B"⟩
abbrev cJ0_isLatin1_aae02 : ByteArray := prog_17_method_154_code
def yJ0_isLatin1_aae02 : MethodName := ⟨RJ0, "isLatin1", "()Z"⟩
abbrev cJ0_checkBoundsBeginEnd_23922 : ByteArray := prog_17_method_158_code
def yJ0_checkBoundsBeginEnd_23922 : MethodName := ⟨RJ0, "checkBoundsBeginEnd", "(III)V"⟩
def RJ1 : String := "java/lang/StringLatin1"
def TJ1 : u_T := fun k => match k with
  | _ => ("", "", "", false)
def tyJ1 : Nat → FieldType := fun k => match k with
  | _ => .int
abbrev wsJ10 : List Cond := u_ws RJ1 TJ1 0
theorem nmJ1 : ∀ a, a < 0 → ∀ b, b < 0 → a ≠ b → (TJ1 a).2.1 ≠ (TJ1 b).2.1 := by decide +kernel
theorem tyJ1_ok : ∀ k, k < 0 → parseFieldDescriptor (TJ1 k).2.2.1 = some (tyJ1 k) := by decide +kernel
abbrev cJ1_canEncode_9a6ad : ByteArray := prog_18_method_4_code
def yJ1_canEncode_9a6ad : MethodName := ⟨RJ1, "canEncode", "(I)Z"⟩
abbrev cJ1_indexOf_4cfef : ByteArray := prog_18_method_22_code
def yJ1_indexOf_4cfef : MethodName := ⟨RJ1, "indexOf", "([BIII)I"⟩
abbrev cJ1_indexOfChar_4cfef : ByteArray := prog_18_method_23_code
def yJ1_indexOfChar_4cfef : MethodName := ⟨RJ1, "indexOfChar", "([BIII)I"⟩
def RJ2 : String := "java/lang/StringUTF16"
def TJ2 : u_T := fun k => match k with
  | _ => ("", "", "", false)
def tyJ2 : Nat → FieldType := fun k => match k with
  | _ => .int
abbrev wsJ20 : List Cond := u_ws RJ2 TJ2 0
theorem nmJ2 : ∀ a, a < 0 → ∀ b, b < 0 → a ≠ b → (TJ2 a).2.1 ≠ (TJ2 b).2.1 := by decide +kernel
theorem tyJ2_ok : ∀ k, k < 0 → parseFieldDescriptor (TJ2 k).2.2.1 = some (tyJ2 k) := by decide +kernel
abbrev cJ2_getChar_3b067 : ByteArray := prog_19_method_5_code
def yJ2_getChar_3b067 : MethodName := ⟨RJ2, "getChar", "([BI)C"⟩
abbrev cJ2_length_9d52b : ByteArray := prog_19_method_6_code
def yJ2_length_9d52b : MethodName := ⟨RJ2, "length", "([B)I"⟩
abbrev cJ2_indexOf_4cfef : ByteArray := prog_19_method_40_code
def yJ2_indexOf_4cfef : MethodName := ⟨RJ2, "indexOf", "([BIII)I"⟩
abbrev cJ2_indexOfChar_4cfef : ByteArray := prog_19_method_47_code
def yJ2_indexOfChar_4cfef : MethodName := ⟨RJ2, "indexOfChar", "([BIII)I"⟩
abbrev cJ2_indexOfCharUnsafe_4cfef : ByteArray := prog_19_method_48_code
def yJ2_indexOfCharUnsafe_4cfef : MethodName := ⟨RJ2, "indexOfCharUnsafe", "([BIII)I"⟩
abbrev cJ2_indexOfSupplementary_4cfef : ByteArray := prog_19_method_49_code
def yJ2_indexOfSupplementary_4cfef : MethodName := ⟨RJ2, "indexOfSupplementary", "([BIII)I"⟩
abbrev cJ2_checkBoundsBeginEnd_d044e : ByteArray := prog_19_method_93_code
def yJ2_checkBoundsBeginEnd_d044e : MethodName := ⟨RJ2, "checkBoundsBeginEnd", "(II[B)V"⟩
def RJ10 : String := "java/lang/System"
def TJ10 : u_T := fun k => match k with
  | _ => ("", "", "", false)
def tyJ10 : Nat → FieldType := fun k => match k with
  | _ => .int
abbrev wsJ100 : List Cond := u_ws RJ10 TJ10 0
theorem nmJ10 : ∀ a, a < 0 → ∀ b, b < 0 → a ≠ b → (TJ10 a).2.1 ≠ (TJ10 b).2.1 := by decide +kernel
theorem tyJ10_ok : ∀ k, k < 0 → parseFieldDescriptor (TJ10 k).2.2.1 = some (tyJ10 k) := by decide +kernel
def RJxfd54e : String := "java/lang/constant/Constable"
def TJxfd54e : u_T := fun k => match k with
  | _ => ("", "", "", false)
def tyJxfd54e : Nat → FieldType := fun k => match k with
  | _ => .int
abbrev wsJxfd54e0 : List Cond := u_ws RJxfd54e TJxfd54e 0
theorem nmJxfd54e : ∀ a, a < 0 → ∀ b, b < 0 → a ≠ b → (TJxfd54e a).2.1 ≠ (TJxfd54e b).2.1 := by decide +kernel
theorem tyJxfd54e_ok : ∀ k, k < 0 → parseFieldDescriptor (TJxfd54e k).2.2.1 = some (tyJxfd54e k) := by decide +kernel
def RJx3cf43 : String := "java/lang/constant/ConstantDesc"
def TJx3cf43 : u_T := fun k => match k with
  | _ => ("", "", "", false)
def tyJx3cf43 : Nat → FieldType := fun k => match k with
  | _ => .int
abbrev wsJx3cf430 : List Cond := u_ws RJx3cf43 TJx3cf43 0
theorem nmJx3cf43 : ∀ a, a < 0 → ∀ b, b < 0 → a ≠ b → (TJx3cf43 a).2.1 ≠ (TJx3cf43 b).2.1 := by decide +kernel
theorem tyJx3cf43_ok : ∀ k, k < 0 → parseFieldDescriptor (TJx3cf43 k).2.2.1 = some (tyJx3cf43 k) := by decide +kernel
def RJ7 : String := "java/util/Arrays"
def TJ7 : u_T := fun k => match k with
  | _ => ("", "", "", false)
def tyJ7 : Nat → FieldType := fun k => match k with
  | _ => .int
abbrev wsJ70 : List Cond := u_ws RJ7 TJ7 0
theorem nmJ7 : ∀ a, a < 0 → ∀ b, b < 0 → a ≠ b → (TJ7 a).2.1 ≠ (TJ7 b).2.1 := by decide +kernel
theorem tyJ7_ok : ∀ k, k < 0 → parseFieldDescriptor (TJ7 k).2.2.1 = some (tyJ7 k) := by decide +kernel
abbrev cJ7_fill_d0a16 : ByteArray := prog_21_method_101_code
def yJ7_fill_d0a16 : MethodName := ⟨RJ7, "fill", "([JJ)V"⟩
def RJ3 : String := "jdk/internal/util/Preconditions"
def TJ3 : u_T := fun k => match k with
  | _ => ("", "", "", false)
def tyJ3 : Nat → FieldType := fun k => match k with
  | _ => .int
abbrev wsJ30 : List Cond := u_ws RJ3 TJ3 0
theorem nmJ3 : ∀ a, a < 0 → ∀ b, b < 0 → a ≠ b → (TJ3 a).2.1 ≠ (TJ3 b).2.1 := by decide +kernel
theorem tyJ3_ok : ∀ k, k < 0 → parseFieldDescriptor (TJ3 k).2.2.1 = some (tyJ3 k) := by decide +kernel
abbrev cJ3_checkFromToIndex_8c36e : ByteArray := prog_22_method_12_code
def yJ3_checkFromToIndex_8c36e : MethodName := ⟨RJ3, "checkFromToIndex", "(IIILjava/util/function/BiFunction;)I"⟩
def RL : String := "WithEyesBoundLaw"
abbrev cL_law : ByteArray := code
def yL_law : MethodName := ⟨RL, "law", "([I)Z"⟩
abbrev vwCl : List vw_C := [(RX0, TX0, 6), (RX1, TX1, 6), (RX2, TX2, 6), (RX3, TX3, 11), (RX4, TX4, 6), (RX5, TX5, 5), (RX6, TX6, 6), (RX7, TX7, 6), (RX8, TX8, 11), (RX9, TX9, 6), (RX10, TX10, 6), (RX11, TX11, 10), (RX12, TX12, 44)]
end
section
/-! ===== THE ABSTRACT MACHINE: places instead of addresses, a heap as a list of cells, one function an instruction ===== -/
/-- a cell: an array (kind of its class, its length and contents) or an object (number of its class in vwCl, its fields) -/
abbrev ev_C : Type := (Nat × vp_A) ⊕ (Nat × List Value)
abbrev ev_H : Type := List (Option ev_C)
abbrev ev_L : Type := List (Option Value)
abbrev ev_S : Type := Nat × ev_L × List Value × ev_H
/-- an answer and the heap behind it -/
abbrev ev_Z : Type := Option Value × ev_H
/-- pc, instruction, length, operand, target, constant, classes with what belongs to each, places of words -/
abbrev ev_E : Type := Nat × Instr × Nat × Nat × Nat × Value × List (Nat × Nat) × List Nat
def ev_ld (ls : ev_L) (x : Nat) : Option Value := match ls[x]? with
  | some (some v) => some v
  | _ => none
def ev_kl (ls : ev_L) (x : Nat) : ev_L := match x with
  | 0 => ls
  | j + 1 => match ls[j]? with
    | some (some v) => if v.category = 2 then ls.set j none else ls
    | _ => ls
def ev_s1 (ls : ev_L) (x : Nat) (v : Value) : ev_L := (ev_kl ls x).set x (some v)
def ev_s2 (ls : ev_L) (x : Nat) (v : Value) : ev_L := ((ev_kl ls x).set x (some v)).set (x + 1) none
def ev_get (h : ev_H) (a : Nat) : Option ev_C := match h[a]? with
  | some (some c) => some c
  | _ => none
def ev_if (k : Jvm.ClassFile.Cond) (a b : Int32) (t n : Nat) : Nat := match k with
  | .eq => if a = b then t else n
  | .ne => if a = b then n else t
  | .lt => if a < b then t else n
  | .ge => if a < b then n else t
  | .gt => if b < a then t else n
  | .le => if b < a then n else t
def ev_sw (D : List (Nat × Nat)) (a : Int32) (t : Nat) : Nat := match D with
  | [] => t
  | (k, u) :: r => if a = Int32.ofNat k then u else ev_sw r a t
/-- what is kept outside the heap: three arrays of numbers (1000 on), a text's bytes (2001) -/
def ev_sta (a : Nat) : Nat × List Int32 := match a with
  | 1000 => (4, [0, 3, 2, 1])
  | 1001 => (4, [-1, 0, 1, 0])
  | 1002 => (4, [0, 1, 0, -1])
  | 2001 => (4, [46, 98, 112, 120])
  | _ => (0, [])
def ev_sn (a : Nat) : Nat := (ev_sta a).1
def ev_sf (a : Nat) (j : Nat) : Int32 := (ev_sta a).2.getD j 0
def ev_fit (t : Nat) (v : Value) : Bool := match t, v with
  | 0, .int _ => true
  | 1, .long _ => true
  | 2, .int x => decide (x = 0 ∨ x = 1)
  | _, _ => false
def ev_cat (st : List Value) : Nat := (st.map fun v => v.category).sum
abbrev ev_j (pc : Nat) (ls : ev_L) (st : List Value) (h : ev_H) : Option (ev_S ⊕ ev_Z) := some (.inl (pc, ls, st, h))
/-- pushes, loads, stores -/
def ev_o1 (e : ev_E) (ls : ev_L) (st : List Value) (h : ev_H) : Option (ev_S ⊕ ev_Z) := match e with
  | (pc, i, len, x, _, cst, _, _) => match i with
    | .iconst _ | .bipush _ | .sipush _ | .lconst _ | .ldc _ | .ldc_w _ | .ldc2_w _ | .aconst_null | .getstatic _ => ev_j (pc + len) ls (cst :: st) h
    | .iload _ | .iload_n _ => match ev_ld ls x with
      | some (.int v) => ev_j (pc + len) ls (.int v :: st) h
      | _ => none
    | .lload _ | .lload_n _ => match ev_ld ls x with
      | some (.long v) => ev_j (pc + len) ls (.long v :: st) h
      | _ => none
    | .aload _ | .aload_n _ => match ev_ld ls x with
      | some (.ref a) => ev_j (pc + len) ls (.ref a :: st) h
      | some .null => ev_j (pc + len) ls (.null :: st) h
      | _ => none
    | .istore _ | .istore_n _ => match st with
      | .int v :: r => if x < ls.length then ev_j (pc + len) (ev_s1 ls x (.int v)) r h else none
      | _ => none
    | .lstore _ | .lstore_n _ => match st with
      | .long v :: r => if x + 1 < ls.length then ev_j (pc + len) (ev_s2 ls x (.long v)) r h else none
      | _ => none
    | .astore _ | .astore_n _ => match st with
      | .ref a :: r => if x < ls.length then ev_j (pc + len) (ev_s1 ls x (.ref a)) r h else none
      | .null :: r => if x < ls.length then ev_j (pc + len) (ev_s1 ls x .null) r h else none
      | _ => none
    | .iinc _ _ => match ev_ld ls x, cst with
      | some (.int v), .int k => if x < ls.length then ev_j (pc + len) (ev_s1 ls x (.int (v + k))) st h else none
      | _, _ => none
    | _ => none
/-- arithmetic, and the stack -/
def ev_o2 (e : ev_E) (ls : ev_L) (st : List Value) (h : ev_H) : Option (ev_S ⊕ ev_Z) := match e with
  | (pc, i, len, _, _, _, _, _) => match i with
    | .iadd => match st with
      | .int b :: .int a :: r => ev_j (pc + len) ls (.int (a + b) :: r) h
      | _ => none
    | .isub => match st with
      | .int b :: .int a :: r => ev_j (pc + len) ls (.int (a - b) :: r) h
      | _ => none
    | .imul => match st with
      | .int b :: .int a :: r => ev_j (pc + len) ls (.int (a * b) :: r) h
      | _ => none
    | .iand => match st with
      | .int b :: .int a :: r => ev_j (pc + len) ls (.int (a &&& b) :: r) h
      | _ => none
    | .ineg => match st with
      | .int a :: r => ev_j (pc + len) ls (.int (-a) :: r) h
      | _ => none
    | .idiv => match st with
      | .int b :: .int a :: r => if ¬ b = 0 then ev_j (pc + len) ls (.int (a / b) :: r) h else none
      | _ => none
    | .irem => match st with
      | .int b :: .int a :: r => if ¬ b = 0 then ev_j (pc + len) ls (.int (a - a / b * b) :: r) h else none
      | _ => none
    | .ishr => match st with
      | .int b :: .int a :: r => ev_j (pc + len) ls (.int (a >>> (b &&& 31)) :: r) h
      | _ => none
    | .iushr => match st with
      | .int b :: .int a :: r => ev_j (pc + len) ls (.int (a.toUInt32 >>> (b.toUInt32 &&& Int32.toUInt32 31)).toInt32 :: r) h
      | _ => none
    | .ladd => match st with
      | .long b :: .long a :: r => ev_j (pc + len) ls (.long (a + b) :: r) h
      | _ => none
    | .lsub => match st with
      | .long b :: .long a :: r => ev_j (pc + len) ls (.long (a - b) :: r) h
      | _ => none
    | .lmul => match st with
      | .long b :: .long a :: r => ev_j (pc + len) ls (.long (a * b) :: r) h
      | _ => none
    | .land => match st with
      | .long b :: .long a :: r => ev_j (pc + len) ls (.long (a &&& b) :: r) h
      | _ => none
    | .lneg => match st with
      | .long a :: r => ev_j (pc + len) ls (.long (-a) :: r) h
      | _ => none
    | .ldiv => match st with
      | .long b :: .long a :: r => if ¬ b = 0 then ev_j (pc + len) ls (.long (a / b) :: r) h else none
      | _ => none
    | .lrem => match st with
      | .long b :: .long a :: r => if ¬ b = 0 then ev_j (pc + len) ls (.long (a - a / b * b) :: r) h else none
      | _ => none
    | .lshr => match st with
      | .int b :: .long a :: r => ev_j (pc + len) ls (.long (a >>> (b.toInt64 &&& 63)) :: r) h
      | _ => none
    | .lushr => match st with
      | .int b :: .long a :: r => ev_j (pc + len) ls (.long (a.toUInt64 >>> (b.toInt64.toUInt64 &&& Int64.toUInt64 63)).toInt64 :: r) h
      | _ => none
    | .i2l => match st with
      | .int a :: r => ev_j (pc + len) ls (.long a.toInt64 :: r) h
      | _ => none
    | .l2i => match st with
      | .long a :: r => ev_j (pc + len) ls (.int a.toInt32 :: r) h
      | _ => none
    | .i2b => match st with
      | .int a :: r => ev_j (pc + len) ls (.int a.toInt8.toInt32 :: r) h
      | _ => none
    | .i2c => match st with
      | .int a :: r => ev_j (pc + len) ls (.int (a.toUInt32 % 65536).toInt32 :: r) h
      | _ => none
    | .lcmp => match st with
      | .long b :: .long a :: r => ev_j (pc + len) ls (.int (lg_cmp a b) :: r) h
      | _ => none
    | .dup => match st with
      | v :: r => if v.category = 1 then ev_j (pc + len) ls (v :: v :: r) h else none
      | _ => none
    | .pop => match st with
      | v :: r => if v.category = 1 then ev_j (pc + len) ls r h else none
      | _ => none
    | .dup2 => match st with
      | v :: w :: r => if v.category = 1 ∧ w.category = 1 then ev_j (pc + len) ls (v :: w :: v :: w :: r) h else none
      | _ => none
    | _ => none
/-- branches -/
def ev_o3 (e : ev_E) (ls : ev_L) (st : List Value) (h : ev_H) : Option (ev_S ⊕ ev_Z) := match e with
  | (pc, i, len, _, tgt, _, D, _) => match i with
    | .goto _ => ev_j tgt ls st h
    | .ifCond k _ => match st with
      | .int a :: r => ev_j (ev_if k a 0 tgt (pc + len)) ls r h
      | _ => none
    | .if_icmp k _ => match st with
      | .int b :: .int a :: r => ev_j (ev_if k a b tgt (pc + len)) ls r h
      | _ => none
    | .ifnull _ => match st with
      | .null :: r => ev_j tgt ls r h
      | .ref _ :: r => ev_j (pc + len) ls r h
      | _ => none
    | .ifnonnull _ => match st with
      | .null :: r => ev_j (pc + len) ls r h
      | .ref _ :: r => ev_j tgt ls r h
      | _ => none
    | .tableswitch _ _ _ _ => match st with
      | .int a :: r => ev_j (ev_sw D a tgt) ls r h
      | _ => none
    | _ => none
/-- fields and arrays -/
def ev_o4 (e : ev_E) (ls : ev_L) (st : List Value) (h : ev_H) : Option (ev_S ⊕ ev_Z) := match e with
  | (pc, i, len, x, tgt, cst, D, _) => match i with
    | .getfield _ => match st with
      | .ref a :: r => if a = 2000 then (if tgt = 7 then ev_j (pc + len) ls (cst :: r) h else none) else match ev_get h a with
        | some (.inr (ci, fs)) => if D.any (fun q => q.1 == ci) = true then (match fs[x]? with
          | some v => ev_j (pc + len) ls (v :: r) h
          | none => none) else none
        | _ => none
      | _ => none
    | .putfield _ => match st with
      | v :: .ref a :: r => match ev_get h a with
        | some (.inr (ci, fs)) => if D.any (fun q => q.1 == ci) = true ∧ x < fs.length ∧ ev_fit tgt v = true then ev_j (pc + len) ls r (h.set a (some (.inr (ci, fs.set x v)))) else none
        | _ => none
      | _ => none
    | .arraylength => match st with
      | .ref a :: r => if x = 1 then (if a = 2001 then ev_j (pc + len) ls (.int (Int32.ofNat (ev_sn a)) :: r) h else none) else match ev_get h a with
        | some (.inl (t, n, _)) => if t < 6 then ev_j (pc + len) ls (.int (Int32.ofNat n) :: r) h else none
        | _ => none
      | _ => none
    | .iaload => match st with
      | .int j :: .ref a :: r => if x = 1 then (if ¬ (j < 0 ∨ ev_sn a ≤ j.toNatClampNeg) then (if 1000 ≤ a ∧ a < 1003 then ev_j (pc + len) ls (.int (ev_sf a j.toNatClampNeg) :: r) h else none) else none) else match ev_get h a with
        | some (.inl (0, n, .inl f)) => if ¬ (j < 0 ∨ n ≤ j.toNatClampNeg) then ev_j (pc + len) ls (.int (f j.toNatClampNeg) :: r) h else none
        | _ => none
      | _ => none
    | .laload => match st with
      | .int j :: .ref a :: r => match ev_get h a with
        | some (.inl (1, n, .inr (.inl f))) => if ¬ (j < 0 ∨ n ≤ j.toNatClampNeg) then ev_j (pc + len) ls (.long (f j.toNatClampNeg) :: r) h else none
        | _ => none
      | _ => none
    | .caload => match st with
      | .int j :: .ref a :: r => match ev_get h a with
        | some (.inl (2, n, .inl f)) => if ¬ (j < 0 ∨ n ≤ j.toNatClampNeg) then ev_j (pc + len) ls (.int (f j.toNatClampNeg) :: r) h else none
        | _ => none
      | _ => none
    | .baload => match st with
      | .int j :: .ref a :: r => if x = 1 then (if ¬ (j < 0 ∨ ev_sn a ≤ j.toNatClampNeg) then (if a = 2001 then ev_j (pc + len) ls (.int (ev_sf a j.toNatClampNeg) :: r) h else none) else none) else match ev_get h a with
        | some (.inl (3, n, .inl f)) => if ¬ (j < 0 ∨ n ≤ j.toNatClampNeg) then ev_j (pc + len) ls (.int (f j.toNatClampNeg) :: r) h else none
        | _ => none
      | _ => none
    | .aaload => match st with
      | .int j :: .ref a :: r => match ev_get h a with
        | some (.inl (t, n, .inr (.inr (.inr (.inr f))))) => if ¬ (j < 0 ∨ n ≤ j.toNatClampNeg) then (if t = 4 ∨ t = 5 then ev_j (pc + len) ls (va_rf (f j.toNatClampNeg) :: r) h else none) else none
        | _ => none
      | _ => none
    | .iastore => match st with
      | .int v :: .int j :: .ref a :: r => match ev_get h a with
        | some (.inl (0, n, .inl f)) => if ¬ (j < 0 ∨ n ≤ j.toNatClampNeg) then ev_j (pc + len) ls r (h.set a (some (.inl (0, n, .inl (upd f j.toNatClampNeg v))))) else none
        | _ => none
      | _ => none
    | .lastore => match st with
      | .long v :: .int j :: .ref a :: r => match ev_get h a with
        | some (.inl (1, n, .inr (.inl f))) => if ¬ (j < 0 ∨ n ≤ j.toNatClampNeg) then ev_j (pc + len) ls r (h.set a (some (.inl (1, n, .inr (.inl (vp_updL f j.toNatClampNeg v)))))) else none
        | _ => none
      | _ => none
    | .castore => match st with
      | .int v :: .int j :: .ref a :: r => match ev_get h a with
        | some (.inl (2, n, .inl f)) => if ¬ (j < 0 ∨ n ≤ j.toNatClampNeg) then ev_j (pc + len) ls r (h.set a (some (.inl (2, n, .inl (upd f j.toNatClampNeg (vp_nar .char v)))))) else none
        | _ => none
      | _ => none
    | .bastore => match st with
      | .int v :: .int j :: .ref a :: r => match ev_get h a with
        | some (.inl (3, n, .inl f)) => if ¬ (j < 0 ∨ n ≤ j.toNatClampNeg) then ev_j (pc + len) ls r (h.set a (some (.inl (3, n, .inl (upd f j.toNatClampNeg (vp_nar .byte v)))))) else none
        | _ => none
      | _ => none
    | .aastore => match st with
      | .null :: .int j :: .ref a :: r => match ev_get h a with
        | some (.inl (4, n, .inr (.inr (.inr (.inr f))))) => if ¬ (j < 0 ∨ n ≤ j.toNatClampNeg) then ev_j (pc + len) ls r (h.set a (some (.inl (4, n, .inr (.inr (.inr (.inr (va_up f j.toNatClampNeg none)))))))) else none
        | _ => none
      | _ => none
    | .instanceof _ => match st with
      | .ref a :: r => match ev_get h a with
        | some (.inr (ci, _)) => match D.lookup ci with
          | some 0 => ev_j (pc + len) ls (.int 0 :: r) h
          | some 1 => ev_j (pc + len) ls (.int 1 :: r) h
          | _ => none
        | _ => none
      | _ => none
    | _ => none
/-- returns, and the library's own functions -/
def ev_o5 (rt : Option FieldType) (e : ev_E) (ls : ev_L) (st : List Value) (h : ev_H) : Option (ev_S ⊕ ev_Z) := match e with
  | (pc, i, len, x, _, _, _, _) => match i with
    | .return_ => match st, rt with
      | [], none => some (.inr (none, h))
      | _, _ => none
    | .ireturn => match st, rt with
      | [.int v], some .int => some (.inr (some (.int v), h))
      | [.int v], some .boolean => if v = 0 ∨ v = 1 then some (.inr (some (.int v), h)) else none
      | [.int v], some .byte => if v = 0 then some (.inr (some (.int v), h)) else none
      | _, _ => none
    | .lreturn => match st, rt with
      | [.long v], some .long => some (.inr (some (.long v), h))
      | _, _ => none
    | .areturn => match st, rt with
      | [.ref a], some (.object _) => some (.inr (some (.ref a), h))
      | [.null], some (.object _) => some (.inr (some .null, h))
      | _, _ => none
    | .invokestatic _ => match x, st with
      | 101, .int b :: .int a :: r => if ev_cat r ≤ 8 then ev_j (pc + len) ls (.int (if b < a then b else a) :: r) h else none
      | 102, .long b :: .long a :: r => if ev_cat r ≤ 8 then ev_j (pc + len) ls (.long (if b < a then a else b) :: r) h else none
      | 103, .int a :: r => if ev_cat r ≤ 8 then ev_j (pc + len) ls (.int (if 0 ≤ a then a else 0 - a) :: r) h else none
      | 104, .int n :: .int dp :: .ref b :: .int sp :: .ref a :: r => match ev_get h a, ev_get h b with
        | some (.inl (1, n0, .inr (.inl f))), some (.inl (1, n1, .inr (.inl g))) => if ev_cat r ≤ 8 ∧ ¬ sp < 0 ∧ ¬ dp < 0 ∧ ¬ n < 0 ∧ sp.toNatClampNeg + n.toNatClampNeg ≤ n0 ∧ dp.toNatClampNeg + n.toNatClampNeg ≤ n1 then ev_j (pc + len) ls r (h.set b (some (.inl (1, n1, .inr (.inl (va_cpy f g sp.toNatClampNeg dp.toNatClampNeg n.toNatClampNeg)))))) else none
        | _, _ => none
      | 105, .int b :: .int a :: r => if ev_cat r ≤ 8 then ev_j (pc + len) ls (.int (if a < b then b else a) :: r) h else none
      | _, _ => none
    | _ => none
/-- one instruction that is no call -/
def ev_one (rt : Option FieldType) (e : ev_E) (ls : ev_L) (st : List Value) (h : ev_H) : Option (ev_S ⊕ ev_Z) := match e.2.1 with
  | .iconst _ | .bipush _ | .sipush _ | .lconst _ | .ldc _ | .ldc_w _ | .ldc2_w _ | .aconst_null | .getstatic _ | .iload _ | .iload_n _ | .lload _ | .lload_n _ | .aload _ | .aload_n _ | .istore _ | .istore_n _ | .lstore _ | .lstore_n _ | .astore _ | .astore_n _ | .iinc _ _ => ev_o1 e ls st h
  | .goto _ | .ifCond _ _ | .if_icmp _ _ | .ifnull _ | .ifnonnull _ | .tableswitch _ _ _ _ => ev_o3 e ls st h
  | .getfield _ | .putfield _ | .arraylength | .iaload | .laload | .caload | .baload | .aaload | .iastore | .lastore | .castore | .bastore | .aastore | .instanceof _ => ev_o4 e ls st h
  | .return_ | .ireturn | .lreturn | .areturn | .invokestatic _ => ev_o5 rt e ls st h
  | _ => ev_o2 e ls st h
/-- a call: the method's number, its arguments, what stays on the stack -/
def ev_inv (e : ev_E) (st : List Value) (h : ev_H) : Option (Nat × List Value × List Value) := match e with
  | (_, i, _, x, _, _, D, _) => match i with
    | .invokestatic _ => if x ≤ st.length ∧ x < 100 ∧ ev_cat (st.drop x) ≤ 8 then (match D.lookup 0 with
      | some k => some (k, (st.take x).reverse, st.drop x)
      | none => none) else none
    | .invokevirtual _ => match st.drop x with
      | .ref a :: r => if x ≤ st.length ∧ x < 100 ∧ ev_cat r ≤ 8 then (if a = 2000 then (match D.lookup 2000 with
          | some k => some (k, .ref a :: (st.take x).reverse, r)
          | none => none) else match ev_get h a with
        | some (.inr (ci, _)) => (match D.lookup ci with
          | some k => some (k, .ref a :: (st.take x).reverse, r)
          | none => none)
        | _ => none) else none
      | _ => none
    | _ => none
def ev_find (I : List ev_E) (pc : Nat) : Option ev_E := match I with
  | [] => none
  | e :: r => if e.1 = pc then some e else ev_find r pc
/-- n steps of a body from a state to an answer; cf says what a call answers -/
def ev_R (cf : Nat → List Value → ev_H → ev_Z → Prop) (rt : Option FieldType) (I : List ev_E) : Nat → ev_S → ev_Z → Prop
  | 0, _, _ => False
  | n + 1, (pc, ls, st, h), r => ∃ e, ev_find I pc = some e ∧ ((∃ c', ev_one rt e ls st h = some (.inl c') ∧ ev_R cf rt I n c' r) ∨ ev_one rt e ls st h = some (.inr r) ∨ ∃ k as rest z, ev_inv e st h = some (k, as, rest) ∧ cf k as h z ∧ ev_R cf rt I n (pc + 3, ls, z.1.toList ++ rest, z.2) r)
end
section
/-! ===== THE ABSTRACT MACHINE AND THE REAL ONE: values, cells, locals ===== -/
def ev_tb : List Cond := lw_tbl.filter goodWord
theorem ev_goodIn {ws : List Cond} (h : ∀ w ∈ ws, w ∈ ev_tb) : GoodIn ev_tb ws := fun w hw => ⟨h w hw, good_of_word (List.mem_filter.mp (h w hw)).2⟩
/-- the word w stands at the place p of the tables -/
def ev_w (P : List Nat) (j : Nat) (w : Cond) : Bool := match P[j]? with
  | some p => decide (lw_tbl[p]? = some w) && goodWord w
  | none => false
theorem ev_w_in {P : List Nat} {j : Nat} {w : Cond} (h : ev_w P j w = true) : w ∈ ev_tb := by
  unfold ev_w at h
  split at h
  · rw [Bool.and_eq_true, decide_eq_true_eq] at h
    exact List.mem_filter.mpr ⟨List.mem_of_getElem? h.1, h.2⟩
  · cases h
def ev_cv (ρ : Nat → Nat) (v : Value) : Value := match v with
  | .ref a => .ref (ρ a)
  | v => v
theorem ev_cv_cat (ρ : Nat → Nat) (v : Value) : (ev_cv ρ v).category = v.category := by cases v <;> rfl
theorem ev_cv_rf (ρ : Nat → Nat) (r : Option Nat) : ev_cv ρ (va_rf r) = va_rf (r.map ρ) := by cases r <;> rfl
theorem ev_cat_cv (ρ : Nat → Nat) (st : List Value) : ((st.map (ev_cv ρ)).map fun v => v.category).sum = ev_cat st := by
  unfold ev_cat
  rw [List.map_map]
  congr 1
  exact List.map_congr_left (fun v _ => ev_cv_cat ρ v)
def ev_cd (ρ : Nat → Nat) (d : (Nat → Int32) ⊕ (Nat → Int64) ⊕ (Nat → UInt32) ⊕ (Nat → UInt64) ⊕ (Nat → Option Nat)) : (Nat → Int32) ⊕ (Nat → Int64) ⊕ (Nat → UInt32) ⊕ (Nat → UInt64) ⊕ (Nat → Option Nat) := match d with
  | .inr (.inr (.inr (.inr f))) => .inr (.inr (.inr (.inr (fun i => (f i).map ρ))))
  | d => d
def ev_ce (ρ : Nat → Nat) (cA : Nat → ClassId) (c : ev_C) : va_E := match c with
  | .inl (t, n, d) => .inl (cA t, n, ev_cd ρ d)
  | .inr (ci, fs) => .inr (ci, fs.map (ev_cv ρ))
def ev_cw (ρ : Nat → Nat) (cA : Nat → ClassId) : Nat → ev_H → va_W
  | _, [] => []
  | k, none :: t => ev_cw ρ cA (k + 1) t
  | k, some c :: t => (ρ k, ev_ce ρ cA c) :: ev_cw ρ cA (k + 1) t
theorem ev_cw_at (ρ : Nat → Nat) (cA : Nat → ClassId) : ∀ (h : ev_H) (k a : Nat) (c : ev_C), h[a]? = some (some c) → ∃ j, (ev_cw ρ cA k h)[j]? = some (ρ (k + a), ev_ce ρ cA c) ∧ ∀ c', (ev_cw ρ cA k h).set j (ρ (k + a), ev_ce ρ cA c') = ev_cw ρ cA k (h.set a (some c'))
  | [], _, a, c, h => by simp at h
  | o :: t, k, 0, c, h => by
    simp only [List.getElem?_cons_zero, Option.some.injEq] at h
    subst h
    exact ⟨0, rfl, fun c' => rfl⟩
  | o :: t, k, a + 1, c, h => by
    have h' : t[a]? = some (some c) := by simpa using h
    obtain ⟨j, h1, h2⟩ := ev_cw_at ρ cA t (k + 1) a c h'
    have e : k + 1 + a = k + (a + 1) := by omega
    rw [e] at h1 h2
    cases o with
    | none => exact ⟨j, h1, fun c' => h2 c'⟩
    | some q =>
      refine ⟨j + 1, ?_, fun c' => ?_⟩
      · show ((ρ k, ev_ce ρ cA q) :: ev_cw ρ cA (k + 1) t)[j + 1]? = _
        rw [List.getElem?_cons_succ]; exact h1
      · show ((ρ k, ev_ce ρ cA q) :: ev_cw ρ cA (k + 1) t).set (j + 1) _ = (ρ k, ev_ce ρ cA q) :: ev_cw ρ cA (k + 1) (t.set a (some c'))
        rw [List.set_cons_succ, h2 c']
theorem ev_get_at {h : ev_H} {a : Nat} {c : ev_C} (hg : ev_get h a = some c) : h[a]? = some (some c) := by
  unfold ev_get at hg
  split at hg
  · cases hg; assumption
  · cases hg
theorem ev_at (ρ : Nat → Nat) (cA : Nat → ClassId) {h : ev_H} {a : Nat} {c : ev_C} (hg : ev_get h a = some c) : ∃ j, (ev_cw ρ cA 0 h)[j]? = some (ρ a, ev_ce ρ cA c) ∧ ∀ c', (ev_cw ρ cA 0 h).set j (ρ a, ev_ce ρ cA c') = ev_cw ρ cA 0 (h.set a (some c')) := by
  obtain ⟨j, h1, h2⟩ := ev_cw_at ρ cA h 0 a c (ev_get_at hg)
  rw [Nat.zero_add] at h1 h2
  exact ⟨j, h1, h2⟩
/-- locals -/
def ev_la (ρ : Nat → Nat) : Nat → ev_L → List (Nat × Value)
  | _, [] => []
  | k, none :: t => ev_la ρ (k + 1) t
  | k, some v :: t => (k, ev_cv ρ v) :: ev_la ρ (k + 1) t
theorem ev_la_mem {ρ : Nat → Nat} : ∀ {ls : ev_L} {k : Nat} {q : Nat × Value}, q ∈ ev_la ρ k ls ↔ ∃ x v, ls[x]? = some (some v) ∧ q = (k + x, ev_cv ρ v)
  | [], k, q => by simp [ev_la]
  | none :: t, k, q => by
    show q ∈ ev_la ρ (k + 1) t ↔ _
    rw [ev_la_mem]
    constructor
    · rintro ⟨x, v, h1, h2⟩
      exact ⟨x + 1, v, by simpa using h1, by rw [h2]; congr 1; omega⟩
    · rintro ⟨x, v, h1, h2⟩
      cases x with
      | zero => simp at h1
      | succ x => exact ⟨x, v, by simpa using h1, by rw [h2]; congr 1; omega⟩
  | some w :: t, k, q => by
    show q ∈ (k, ev_cv ρ w) :: ev_la ρ (k + 1) t ↔ _
    rw [List.mem_cons, ev_la_mem]
    constructor
    · rintro (h | ⟨x, v, h1, h2⟩)
      · exact ⟨0, w, rfl, h⟩
      · exact ⟨x + 1, v, by simpa using h1, by rw [h2]; congr 1; omega⟩
    · rintro ⟨x, v, h1, h2⟩
      cases x with
      | zero =>
        simp at h1
        subst h1
        exact Or.inl h2
      | succ x => exact Or.inr ⟨x, v, by simpa using h1, by rw [h2]; congr 1; omega⟩
theorem ev_has_mono {lr : Array Slot} {nL : Nat} {l l' : List (Nat × Value)} (h : lv_has lr nL l) (hs : ∀ q ∈ l', q ∈ l) : lv_has lr nL l' := ⟨h.1, h.2.1, fun q hq => h.2.2 q (hs q hq)⟩
theorem ev_ld_has {ρ : Nat → Nat} {lr : Array Slot} {nL : Nat} {ls : ev_L} {x : Nat} {v : Value} (h : lv_has lr nL (ev_la ρ 0 ls)) (hv : ev_ld ls x = some v) : lr[x]? = some (.val (ev_cv ρ v)) := by
  unfold ev_ld at hv
  split at hv
  · rename_i w hw
    obtain rfl : w = v := Option.some.inj hv
    exact h.2.2 (x, ev_cv ρ w) (ev_la_mem.mpr ⟨x, w, hw, by rw [Nat.zero_add]⟩)
  · cases hv
theorem ev_kl_get {ls : ev_L} {x j : Nat} {v : Value} (h : (ev_kl ls x)[j]? = some (some v)) : ls[j]? = some (some v) ∧ ¬ (j + 1 = x ∧ v.category = 2) := by
  unfold ev_kl at h
  split at h
  · exact ⟨h, fun q => by omega⟩
  · rename_i i
    split at h
    · rename_i w hw
      split at h
      · by_cases e : j = i
        · subst e
          rw [List.getElem?_set] at h
          simp at h
        · rw [List.getElem?_set_ne (fun q => e q.symm)] at h
          exact ⟨h, fun q => by omega⟩
      · rename_i hc
        refine ⟨h, fun q => ?_⟩
        obtain ⟨q1, q2⟩ := q
        have : j = i := by omega
        subst this
        rw [hw] at h
        cases h
        exact hc q2
    · rename_i hn
      refine ⟨h, fun q => ?_⟩
      have : j = i := by omega
      subst this
      exact hn v h
theorem ev_s1_sub (ρ : Nat → Nat) {ls : ev_L} {x : Nat} {v : Value} : ∀ q ∈ ev_la ρ 0 (ev_s1 ls x v), q ∈ (x, ev_cv ρ v) :: (ev_la ρ 0 ls).filter (fun q => !(q.1 == x) && !(q.1 + 1 == x && q.2.category == 2)) := by
  intro q hq
  obtain ⟨j, w, h1, h2⟩ := ev_la_mem.mp hq
  rw [Nat.zero_add] at h2
  unfold ev_s1 at h1
  by_cases e : j = x
  · subst e
    rw [List.getElem?_set] at h1
    simp only [if_true] at h1
    split at h1
    · cases h1
      rw [h2]
      exact List.mem_cons_self
    · cases h1
  · rw [List.getElem?_set_ne (fun q => e q.symm)] at h1
    obtain ⟨h3, h4⟩ := ev_kl_get h1
    refine List.mem_cons_of_mem _ (List.mem_filter.mpr ⟨ev_la_mem.mpr ⟨j, w, h3, by rw [Nat.zero_add]; exact h2⟩, ?_⟩)
    rw [h2]
    simp only [Bool.and_eq_true, Bool.not_eq_true', beq_eq_false_iff_ne, ne_eq, Bool.and_eq_false_iff, ev_cv_cat]
    refine ⟨e, ?_⟩
    by_cases g : j + 1 = x
    · exact Or.inr (fun z => h4 ⟨g, z⟩)
    · exact Or.inl g
theorem ev_s2_sub (ρ : Nat → Nat) {ls : ev_L} {x : Nat} {v : Value} : ∀ q ∈ ev_la ρ 0 (ev_s2 ls x v), q ∈ (x, ev_cv ρ v) :: (ev_la ρ 0 ls).filter (fun q => !(q.1 == x) && (!(q.1 == x + 1) && !(q.1 + 1 == x && q.2.category == 2))) := by
  intro q hq
  obtain ⟨j, w, h1, h2⟩ := ev_la_mem.mp hq
  rw [Nat.zero_add] at h2
  unfold ev_s2 at h1
  by_cases e1 : j = x + 1
  · subst e1
    rw [List.getElem?_set] at h1
    simp at h1
  · rw [List.getElem?_set_ne (fun q => e1 q.symm)] at h1
    by_cases e : j = x
    · subst e
      rw [List.getElem?_set] at h1
      simp only [if_true] at h1
      split at h1
      · cases h1
        rw [h2]
        exact List.mem_cons_self
      · cases h1
    · rw [List.getElem?_set_ne (fun q => e q.symm)] at h1
      obtain ⟨h3, h4⟩ := ev_kl_get h1
      refine List.mem_cons_of_mem _ (List.mem_filter.mpr ⟨ev_la_mem.mpr ⟨j, w, h3, by rw [Nat.zero_add]; exact h2⟩, ?_⟩)
      rw [h2]
      simp only [Bool.and_eq_true, Bool.not_eq_true', beq_eq_false_iff_ne, ne_eq, Bool.and_eq_false_iff, ev_cv_cat]
      refine ⟨e, e1, ?_⟩
      by_cases g : j + 1 = x
      · exact Or.inr (fun z => h4 ⟨g, z⟩)
      · exact Or.inl g
/-- the locals at the entry -/
def ev_sl (as : List Value) : ev_L := match as with
  | [] => []
  | v :: r => if v.category = 2 then some v :: none :: ev_sl r else some v :: ev_sl r
def ev_ent (nL : Nat) (as : List Value) : ev_L := ev_sl as ++ List.replicate (nL - (ev_sl as).length) none
theorem ev_sl_mem (ρ : Nat → Nat) : ∀ (as : List Value) (k : Nat), ∀ q ∈ ev_la ρ k (ev_sl as), q ∈ lv_args k (as.map (ev_cv ρ))
  | [], k, q, h => by simp [ev_sl, ev_la] at h
  | v :: r, k, q, h => by
    unfold ev_sl at h
    show q ∈ (k, ev_cv ρ v) :: lv_args (if (ev_cv ρ v).category = 2 then k + 2 else k + 1) (r.map (ev_cv ρ))
    rw [ev_cv_cat]
    split at h
    · rename_i hc
      rw [if_pos hc]
      have h' : q ∈ (k, ev_cv ρ v) :: ev_la ρ (k + 1 + 1) (ev_sl r) := h
      rcases List.mem_cons.mp h' with e | h2
      · rw [e]; exact List.mem_cons_self
      · exact List.mem_cons_of_mem _ (ev_sl_mem ρ r (k + 2) q h2)
    · rename_i hc
      rw [if_neg hc]
      have h' : q ∈ (k, ev_cv ρ v) :: ev_la ρ (k + 1) (ev_sl r) := h
      rcases List.mem_cons.mp h' with e | h2
      · rw [e]; exact List.mem_cons_self
      · exact List.mem_cons_of_mem _ (ev_sl_mem ρ r (k + 1) q h2)
theorem ev_sl_len (ρ : Nat → Nat) : ∀ as : List Value, (lg_sl (as.map (ev_cv ρ))).length = (ev_sl as).length
  | [] => rfl
  | v :: r => by
    have ih := ev_sl_len ρ r
    unfold lg_sl at ih ⊢
    rw [List.map_cons, List.flatMap_cons, List.length_append, ih, ev_cv_cat]
    rw [ev_sl]
    split <;> simp <;> omega
theorem ev_ent_sub (ρ : Nat → Nat) (nL : Nat) (as : List Value) : ∀ q ∈ ev_la ρ 0 (ev_ent nL as), q ∈ lv_args 0 (as.map (ev_cv ρ)) := by
  intro q hq
  obtain ⟨x, v, h1, h2⟩ := ev_la_mem.mp hq
  refine ev_sl_mem ρ as 0 q (ev_la_mem.mpr ⟨x, v, ?_, h2⟩)
  unfold ev_ent at h1
  by_cases hl : x < (ev_sl as).length
  · rw [List.getElem?_append_left hl] at h1; exact h1
  · rw [List.getElem?_append_right (by omega), List.getElem?_replicate] at h1
    split at h1 <;> simp at h1
theorem ev_ent_len {nL : Nat} {as : List Value} (h : (ev_sl as).length ≤ nL) : (ev_ent nL as).length = nL := by
  unfold ev_ent
  rw [List.length_append, List.length_replicate]
  omega
theorem ev_kl_len (ls : ev_L) (x : Nat) : (ev_kl ls x).length = ls.length := by
  unfold ev_kl
  split
  · rfl
  · split
    · split
      · rw [List.length_set]
      · rfl
    · rfl
theorem ev_s1_len (ls : ev_L) (x : Nat) (v : Value) : (ev_s1 ls x v).length = ls.length := by unfold ev_s1; rw [List.length_set, ev_kl_len]
theorem ev_s2_len (ls : ev_L) (x : Nat) (v : Value) : (ev_s2 ls x v).length = ls.length := by unfold ev_s2; rw [List.length_set, List.length_set, ev_kl_len]
/-- links within the nest; casts that go, casts that don't -/
def ev_nm : List (String × Nat × MethodName × String) := [("WithEyesBound$Ring", 64, yX11_isWithin, "WithEyesBound"), ("WithEyesBound$Odds", 92, yX11_commonDivisor, "WithEyesBound"), ("WithEyesBound$Ring", 87, yX11_mixed, "WithEyesBound"), ("WithEyesBound$Odds", 105, yX11_mixed, "WithEyesBound"), ("WithEyesBound$Naming", 81, yX11_mixed, "WithEyesBound"), ("WithEyesBound$Page", 51, yX11_mixed, "WithEyesBound")]
def ev_nf : List (String × Nat × String × String) := [("WithEyesBound$Ring", 51, "ROW_STEP", "[I"), ("WithEyesBound$Ring", 57, "COLUMN_STEP", "[I"), ("WithEyesBound$Odds", 82, "FELT", "[I"), ("WithEyesBound$Behind", 15, "ROW_STEP", "[I"), ("WithEyesBound$Behind", 19, "COLUMN_STEP", "[I")]
def ev_cy : List (String × String) := [(RX10, RX9), (RX2, RX1)]
def ev_cn : List (String × String) := [(RX6, RX9), (RX6, RX10), (RX6, RX1), (RX6, RX2), (RX6, RX0), (RX9, RX10), (RX9, RX1), (RX9, RX2), (RX9, RX0), (RX10, RX1), (RX10, RX2), (RX10, RX0), (RX1, RX9), (RX1, RX10), (RX1, RX2), (RX1, RX0), (RX2, RX9), (RX2, RX10), (RX2, RX0), (RX0, RX9), (RX0, RX10), (RX0, RX1), (RX0, RX2)]
/-- what lies outside the heap of the abstract machine -/
def ev_G (ρ : Nat → Nat) (A : Nat → Prop) (U : State) (H : Heap) : Prop :=
  (va_Z "WithEyesBound" "FELT" "[I" (.ref (ρ 1000)) A U H ∧ va_Z "WithEyesBound" "ROW_STEP" "[I" (.ref (ρ 1001)) A U H ∧ va_Z "WithEyesBound" "COLUMN_STEP" "[I" (.ref (ρ 1002)) A U H ∧
  (∀ a, 1000 ≤ a → a < 1003 → va_T .int (ρ a) (ev_sn a) (fun j => .int (ev_sf a j)) A U H)) ∧ (vk_R "WithEyesBound$Page" 23 ".bpx" (ρ 2000) U ∧
  va_O "java/lang/String" (ρ 2000) A U H ∧ va_OF "java/lang/String" "coder" "B" (.int 0) (ρ 2000) A U H ∧ va_OF "java/lang/String" "value" "[B" (.ref (ρ 2001)) (ρ 2000) A U H ∧ va_T .byte (ρ 2001) (ev_sn 2001) (fun j => .int (ev_sf 2001 j)) A U H ∧
  va_Z "java/lang/String" "COMPACT_STRINGS" "Z" (.int 1) A U H) ∧
  ((∀ q ∈ ev_nm, va_Nw (.methodLinkNest q.1 q.2.1 q.2.2.1 q.2.2.2) U) ∧ (∀ q ∈ ev_nf, va_Nw (.fieldLinkNest q.1 q.2.1 "WithEyesBound" q.2.2.1 q.2.2.2 "WithEyesBound") U) ∧ (∀ q ∈ ev_cy, va_Nw (.castable q.1 q.2) U) ∧ ∀ q ∈ ev_cn, va_Nc q.1 q.2 U)
theorem ev_G.warm {ρ : Nat → Nat} {A : Nat → Prop} {s U : State} {H : Heap} (hW : s.WarmedH U.vm) (h : ev_G ρ A s H) : ev_G ρ A U H := by
  obtain ⟨⟨h1, h2, h3, h4⟩, ⟨h5, h6, h7, h8, h9, h10⟩, g1, g2, g3, g4⟩ := h
  exact ⟨⟨h1.moved hW.alike, h2.moved hW.alike, h3.moved hW.alike, fun a x y => (h4 a x y).moved hW.alike⟩, ⟨h5.warm hW, va_O.moved hW.alike h6, va_OF.moved hW.alike h7, va_OF.moved hW.alike h8, h9.moved hW.alike, h10.moved hW.alike⟩, fun q hq => (g1 q hq).warmM hW, fun q hq => (g2 q hq).warmF hW, fun q hq => (g3 q hq).warmC hW, fun q hq => (g4 q hq).moved hW.alike⟩
theorem ev_G.same {ρ : Nat → Nat} {A : Nat → Prop} {s U : State} {H : Heap} (hv : U.vm = s.vm) (h : ev_G ρ A s H) : ev_G ρ A U H := by
  obtain ⟨⟨h1, h2, h3, h4⟩, ⟨h5, h6, h7, h8, h9, h10⟩, g1, g2, g3, g4⟩ := h
  have hA : s.vm.Alike U.vm := by rw [hv]; exact Vm.Alike.refl s.vm
  exact ⟨⟨h1.moved hA, h2.moved hA, h3.moved hA, fun a x y => (h4 a x y).moved hA⟩, ⟨h5.same hv, va_O.moved hA h6, va_OF.moved hA h7, va_OF.moved hA h8, h9.moved hA, h10.moved hA⟩, fun q hq => va_Nw.same rfl hv.symm (g1 q hq), fun q hq => va_Nw.same rfl hv.symm (g2 q hq), fun q hq => va_Nw.same rfl hv.symm (g3 q hq), fun q hq => (g4 q hq).moved hA⟩
theorem ev_G.kept {ρ : Nat → Nat} {A : Nat → Prop} {U : State} {H H1 : Heap} (h : ev_G ρ A U H) (hq : ∀ a : Nat, a < H.size → ¬ A a → H1[a]? = H[a]?) : ev_G ρ A U H1 := by
  obtain ⟨⟨h1, h2, h3, h4⟩, ⟨h5, h6, h7, h8, h9, h10⟩, g⟩ := h
  exact ⟨⟨h1.kept hq, h2.kept hq, h3.kept hq, fun a x y => (h4 a x y).kept hq⟩, ⟨h5, h6.kept hq, h7.kept hq, h8.kept hq, h9.kept hq, h10.kept hq⟩, g⟩
theorem ev_G.narrow {ρ : Nat → Nat} {A B : Nat → Prop} {U : State} {H : Heap} (h : ev_G ρ A U H) (hAB : ∀ q, B q → A q) : ev_G ρ B U H := by
  obtain ⟨⟨h1, h2, h3, h4⟩, ⟨h5, h6, h7, h8, h9, h10⟩, g⟩ := h
  exact ⟨⟨h1.narrow hAB, h2.narrow hAB, h3.narrow hAB, fun a x y => (h4 a x y).narrow hAB⟩, ⟨h5, h6.narrow hAB, h7.narrow hAB, h8.narrow hAB, h9.narrow hAB, h10.narrow hAB⟩, g⟩
end
section
/-! ===== WHAT AN ENTRY OF A METHOD'S TABLE MUST BE ===== -/
/-- the class that it is of, name, bytes, locals, answer, entries, places of words (its code, its class initialised) -/
abbrev ev_MI : Type := String × MethodName × ByteArray × Nat × Option FieldType × List ev_E × List Nat
def ev_wd (P : List Nat) (j : Nat) : Option Cond := match P[j]? with
  | some p => lw_tbl[p]?
  | none => none
def ev_pn (y : MethodName) (n : Nat) : Bool := decide (y.cls ≠ "java/lang/invoke/MethodHandle" ∧ y.cls ≠ "java/lang/invoke/VarHandle" ∧ (parseMethodDescriptor y.desc).map (fun d => d.parameters.length) = some n)
/-- the name of a class by its number -/
def ev_cl (ci : Nat) : Option String := if ci = 2000 then some "java/lang/String" else (vwCl[ci]?).map (fun q => q.1)
def ev_okF (own : String) (idx x : Nat) (P : List Nat) (q : Nat × Nat) : Bool := match vwCl[q.1]? with
  | some (_, T, N) => decide (x < N) && (match P with
    | [_] => ev_w P 0 (.fieldLink own idx (T x).1 (T x).2.1 (T x).2.2.1)
    | [p, _] => (match lw_tbl[p]? with
      | some (.fieldLink _ _ ref _ _) => ev_w P 0 (.fieldLink own idx ref (T x).2.1 (T x).2.2.1) && ev_w P 1 (.sameField ref (T x).1 (T x).2.1 (T x).2.2.1)
      | _ => false)
    | _ => false)
  | none => false
def ev_dsc (t : Nat) : String := match t with
  | 0 => "I"
  | 1 => "J"
  | _ => "Z"
def ev_okP (x t : Nat) (q : Nat × Nat) : Bool := match vwCl[q.1]? with
  | some (_, T, _) => decide ((T x).2.2.2 = false ∧ (T x).2.2.1 = ev_dsc t ∧ t < 3)
  | none => false
def ev_okS (mt : List ev_MI) (own : String) (idx n : Nat) (D : List (Nat × Nat)) (P : List Nat) : Bool := match D with
  | [(0, k)] => (match mt[k]? with
    | some (_, y, cc, nL, rt, _, PM) => ev_pn y n && (ev_w PM 0 (.code y cc nL rt) && (decide (nL ≤ 21) && (ev_w P 1 (.static y) && (ev_w P 2 (.initialized y.cls) && (ev_w P 0 (.methodLink own idx y) || decide ((own, idx, y, "WithEyesBound") ∈ ev_nm))))))
    | none => false)
  | _ => false
def ev_okV1 (mt : List ev_MI) (own : String) (idx n : Nat) (C : String) (k : Nat) (P : List Nat) : Bool := match mt[k]? with
  | some (_, y, cc, nL, rt, _, PM) => ev_pn y n && (ev_w PM 0 (.code y cc nL rt) && (decide (nL ≤ 21) && (if y.cls = C ∧ ev_w P 0 (.methodLink own idx y) = true then ev_w P 1 (.instanceMethod y) && (ev_w P 2 (.selects C y y) && ev_w P 3 (.initialized C)) else (match ev_wd P 0 with
    | some (.methodLink _ _ x) => ev_w P 0 (.methodLink own idx x) && (ev_w P 1 (.sameMethod x.cls x.cls x.name x.desc) && (ev_w P 2 (.selects C x y) && (ev_w P 3 (.instanceMethod y) && (ev_w P 4 (.initialized y.cls) && (ev_pn x n && (decide (x = y) || (ev_w P 5 (.instanceMethod x) && (match ev_wd P 6 with
      | some (.code _ b m0 r0) => ev_w P 6 (.code x b m0 r0)
      | _ => false))))))))
    | _ => false))))
  | none => false
def ev_okV (mt : List ev_MI) (own : String) (idx n : Nat) : List (Nat × Nat) → List Nat → Bool
  | [], _ => true
  | (ci, k) :: r, P => (match ev_cl ci with
    | some C => ev_okV1 mt own idx n C k (P.take 8)
    | none => false) && ev_okV mt own idx n r (P.drop 8)
def ev_okI (own : String) (idx : Nat) (P : List Nat) (q : Nat × Nat) : Bool := match vwCl[q.1]?, ev_wd P 0 with
  | some (C, _, _), some (.classLink _ _ nm) => ev_w P 0 (.classLink own idx nm) && (match q.2 with
    | 0 => decide ((C, nm) ∈ ev_cn)
    | 1 => decide (C = nm) || decide ((C, nm) ∈ ev_cy)
    | _ => false)
  | _, _ => false
def ev_okT (pc : Nat) (offs : List Int) : Nat → List (Nat × Nat) → Bool
  | _, [] => decide (offs = [])
  | k, (j, t) :: r => (match offs with
    | o :: os => decide (j = k ∧ k < 1000 ∧ (pc : Int) + o = (t : Int)) && ev_okT pc os (k + 1) r
    | [] => false)
def ev_ok (mt : List ev_MI) (own : String) (cc : ByteArray) (e : ev_E) : Bool := match e with
  | (pc, i, len, x, tgt, cst, D, P) => decide (decode cc pc = .ok (i, len)) && (match i with
    | .iconst n => decide (len = 1 ∧ cst = .int (Int32.ofInt n))
    | .bipush n => decide (len = 2 ∧ cst = .int (Int8.ofInt n).toInt32)
    | .sipush n => decide (len = 3 ∧ cst = .int (Int16.ofInt n).toInt32)
    | .lconst n => decide (len = 1 ∧ cst = .long (Int64.ofNat n.val))
    | .aconst_null => decide (len = 1 ∧ cst = .null)
    | .ldc k => decide (len = 2) && (match cst with
      | .int v => ev_w P 0 (.constant own k v)
      | .ref a => decide (a = 2000 ∧ own = "WithEyesBound$Page" ∧ k = 23)
      | _ => false)
    | .ldc_w k => decide (len = 3) && (match cst with
      | .int v => ev_w P 0 (.constant own k v)
      | _ => false)
    | .ldc2_w k => decide (len = 3) && (match cst with
      | .long v => ev_w P 0 (.constantLong own k v)
      | _ => false)
    | .getstatic k => decide (len = 3) && (decide (cst = .ref 1000 ∧ (own, k, "FELT", "[I") ∈ ev_nf) || (decide (cst = .ref 1001 ∧ (own, k, "ROW_STEP", "[I") ∈ ev_nf) || (decide (cst = .ref 1002 ∧ (own, k, "COLUMN_STEP", "[I") ∈ ev_nf) || (decide (cst = .int 1) && ev_w P 0 (.fieldLink own k "java/lang/String" "COMPACT_STRINGS" "Z")))))
    | .iload k | .lload k | .aload k | .istore k | .lstore k | .astore k => decide (len = 2 ∧ k = x)
    | .iload_n k | .lload_n k | .aload_n k | .istore_n k | .lstore_n k | .astore_n k => decide (len = 1 ∧ k.val = x)
    | .iinc k n => decide (len = 3 ∧ k = x ∧ cst = .int (Int32.ofInt n))
    | .goto off | .ifCond _ off | .if_icmp _ off | .ifnull off | .ifnonnull off => decide (len = 3 ∧ (pc : Int) + off = (tgt : Int))
    | .tableswitch d lo hi offs => decide ((pc : Int) + d = (tgt : Int) ∧ 0 ≤ lo ∧ hi = lo + D.length - 1 ∧ lo < 1000) && ev_okT pc offs.toList lo.toNat D
    | .getfield k => decide (len = 3) && (D.all (ev_okF own k x P) && (if tgt = 7 then (decide (cst = .int 0) && ev_w P 0 (.fieldLink own k "java/lang/String" "coder" "B")) || (decide (cst = .ref 2001) && ev_w P 0 (.fieldLink own k "java/lang/String" "value" "[B")) else true))
    | .putfield k => decide (len = 3) && (D.all (ev_okF own k x P) && D.all (ev_okP x tgt))
    | .instanceof k => decide (len = 3) && D.all (ev_okI own k P)
    | .invokestatic k => decide (len = 3) && (match x with
      | 101 => ev_w P 0 (.methodLink own k Lib.Math.min.name) && (ev_w P 1 (.static Lib.Math.min.name) && (ev_w P 2 (.initialized "java/lang/Math") && ev_w P 3 (.code Lib.Math.min.name Lib.Math.min.code 2 (some .int))))
      | 102 => ev_w P 0 (.methodLink own k Lib.MathLoose.max_long.x) && (ev_w P 1 (.static Lib.MathLoose.max_long.x) && (ev_w P 2 (.initialized "java/lang/Math") && ev_w P 3 (.code Lib.MathLoose.max_long.x Lib.MathLoose.max_long.code 4 (some .long))))
      | 103 => ev_w P 0 (.methodLink own k Lib.Math.abs.name) && (ev_w P 1 (.static Lib.Math.abs.name) && (ev_w P 2 (.initialized "java/lang/Math") && ev_w P 3 (.code Lib.Math.abs.name Lib.Math.abs.code 1 (some .int))))
      | 104 => ev_w P 0 (.methodLink own k arraycopyName) && (ev_w P 1 (.static arraycopyName) && (ev_w P 2 (.initialized "java/lang/System") && ev_w P 3 (.native arraycopyName)))
      | 105 => ev_w P 0 (.methodLink own k Lib.Math.max.name) && (ev_w P 1 (.static Lib.Math.max.name) && (ev_w P 2 (.initialized "java/lang/Math") && ev_w P 3 (.code Lib.Math.max.name Lib.Math.max.code 2 (some .int))))
      | _ => ev_okS mt own k x D P)
    | .invokevirtual k => decide (len = 3) && ev_okV mt own k x D P
    | _ => decide (len = 1))
/-- a method: its entries are as they must be, and it may be called -/
def ev_okM (mt : List ev_MI) (q : ev_MI) : Bool := match q with
  | (own, y, cc, nL, rt, I, P) => decide (y.cls = own) && (ev_w P 0 (.code y cc nL rt) && (decide (plainName y.cls = true) && I.all (ev_ok mt own cc)))
/-- the classes: their layouts stand in the tables -/
theorem ev_lay : ∀ q ∈ vwCl, ∀ w ∈ u_ws q.1 q.2.1 q.2.2, w ∈ ev_tb := by
  have h : vwCl.all (fun q => (u_ws q.1 q.2.1 q.2.2).all (fun w => decide (w ∈ lw_tbl) && goodWord w)) = true := by decide +kernel
  intro q hq w hw
  have h1 := List.all_eq_true.mp (List.all_eq_true.mp h q hq) w hw
  rw [Bool.and_eq_true, decide_eq_true_eq] at h1
  exact List.mem_filter.mpr h1
theorem ev_typ : ∀ q ∈ vwCl, ∃ ty : Nat → FieldType, (∀ k, k < q.2.2 → parseFieldDescriptor (q.2.1 k).2.2.1 = some (ty k)) ∧ ∀ a, a < q.2.2 → ∀ b, b < q.2.2 → a ≠ b → (q.2.1 a).2.1 ≠ (q.2.1 b).2.1 := by
  intro q hq
  simp only [vwCl, List.mem_cons, List.not_mem_nil, or_false] at hq
  rcases hq with rfl | rfl | rfl | rfl | rfl | rfl | rfl | rfl | rfl | rfl | rfl | rfl | rfl
  · exact ⟨tyX0, tyX0_ok, nmX0⟩
  · exact ⟨tyX1, tyX1_ok, nmX1⟩
  · exact ⟨tyX2, tyX2_ok, nmX2⟩
  · exact ⟨tyX3, tyX3_ok, nmX3⟩
  · exact ⟨tyX4, tyX4_ok, nmX4⟩
  · exact ⟨tyX5, tyX5_ok, nmX5⟩
  · exact ⟨tyX6, tyX6_ok, nmX6⟩
  · exact ⟨tyX7, tyX7_ok, nmX7⟩
  · exact ⟨tyX8, tyX8_ok, nmX8⟩
  · exact ⟨tyX9, tyX9_ok, nmX9⟩
  · exact ⟨tyX10, tyX10_ok, nmX10⟩
  · exact ⟨tyX11, tyX11_ok, nmX11⟩
  · exact ⟨tyX12, tyX12_ok, nmX12⟩
end
section
/-! ===== SOUNDNESS, instruction by instruction ===== -/
abbrev ev_ty (cA : Nat → ClassId) : List (ClassId × FieldType) := [(cA 0, .int), (cA 1, .long), (cA 2, .char), (cA 3, .byte), (cA 4, .object "WithEyesBound$Player"), (cA 5, .array .long)]
/-- what stays over a method's run -/
def ev_Fx (p : Program) (s : State) (m : MethodId) (args : Array Value) (c : Code) (own : String) (cc : ByteArray) (nL : Nat) (ρ : Nat → Nat) (cA : Nat → ClassId) (dC : Nat → ClassId) (dI : Nat → Nat → Nat) (A : Nat → Prop) : Prop :=
  p.tables.exec = Jvm.exec ∧ c.code = cc ∧ c.maxLocals = nL ∧ s.vm.findClass own = some m.cls ∧ (∀ w ∈ ev_tb, w.before args s = true) ∧ va_K (dC, dI) vwCl (ev_ty cA) s ∧ ev_G ρ A s s.heap ∧ ∀ q, s.heap.size ≤ q → A q
/-- the real machine stands where the abstract one does -/
def ev_Wc (p : Program) (l : Launch) (e : Env) (R : Room) (s : State) (m : MethodId) (args : Array Value) (below : List Frame) (meth : Method) (c : Code) (Q : State → Prop) (nL : Nat) (ρ : Nat → Nat) (cA : Nat → ClassId) (dC : Nat → ClassId) (dI : Nat → Nat → Nat) (A : Nat → Prop) (t : ev_S) : Prop :=
  ∀ (H : Heap) (locs : List Loc) (lr : Array Slot), va_P (dC, dI) vwCl (ev_cw ρ cA 0 t.2.2.2) H → va_D A (ev_cw ρ cA 0 t.2.2.2) → va_S A s.heap H locs → lv_has lr nL (ev_la ρ 0 t.2.1) → t.2.1.length = nL →
    W p l e R s m args below meth c H locs 0 0 Q (F0 m t.1 lr (t.2.2.1.map (ev_cv ρ)))
section EVS
variable {p : Program} {l : Launch} {e : Env} {R : Room} {s : State} {m : MethodId} {args : Array Value} {below : List Frame} {meth : Method} {c : Code} {Q : State → Prop} {own : String} {cc : ByteArray} {nL : Nat} {ρ : Nat → Nat} {cA : Nat → ClassId} {dC : Nat → ClassId} {dI : Nat → Nat → Nat} {A : Nat → Prop} {mt : List ev_MI}
set_option maxHeartbeats 4000000 in
theorem ev_snd1 (F : ev_Fx p s m args c own cc nL ρ cA dC dI A) {en : ev_E} (hok : ev_ok mt own cc en = true) {ls : ev_L} {st : List Value} {h : ev_H} {t : ev_S} (ho : ev_o1 en ls st h = some (.inl t)) (k : ev_Wc p l e R s m args below meth c Q nL ρ cA dC dI A t) : ev_Wc p l e R s m args below meth c Q nL ρ cA dC dI A (en.1, ls, st, h) := by
  obtain ⟨hx, hb, hml, hown, hts, hK, hG, hA⟩ := F
  obtain ⟨pc, i, len, x, tgt, cst, D, P⟩ := en
  intro H locs lr hP hD hS hl hlen
  change va_P (dC, dI) vwCl (ev_cw ρ cA 0 h) H at hP
  change va_D A (ev_cw ρ cA 0 h) at hD
  change lv_has lr nL (ev_la ρ 0 ls) at hl
  change ls.length = nL at hlen
  change W p l e R s m args below meth c H locs 0 0 Q (F0 m pc lr (st.map (ev_cv ρ)))
  cases i with
  | iconst n =>
    simp only [ev_ok, Bool.and_eq_true, decide_eq_true_eq] at hok
    obtain ⟨hd, rfl, rfl⟩ := hok
    simp only [ev_o1, ev_j, Option.some.injEq, Sum.inl.injEq] at ho
    subst ho
    exact lv_iconst hx hb hd rfl (k H locs lr hP hD hS hl hlen)
  | bipush n =>
    simp only [ev_ok, Bool.and_eq_true, decide_eq_true_eq] at hok
    obtain ⟨hd, rfl, rfl⟩ := hok
    simp only [ev_o1, ev_j, Option.some.injEq, Sum.inl.injEq] at ho
    subst ho
    exact lv_bipush hx hb hd rfl (k H locs lr hP hD hS hl hlen)
  | sipush n =>
    simp only [ev_ok, Bool.and_eq_true, decide_eq_true_eq] at hok
    obtain ⟨hd, rfl, rfl⟩ := hok
    simp only [ev_o1, ev_j, Option.some.injEq, Sum.inl.injEq] at ho
    subst ho
    exact lv_sipush hx hb hd rfl (k H locs lr hP hD hS hl hlen)
  | lconst n =>
    simp only [ev_ok, Bool.and_eq_true, decide_eq_true_eq] at hok
    obtain ⟨hd, rfl, rfl⟩ := hok
    simp only [ev_o1, ev_j, Option.some.injEq, Sum.inl.injEq] at ho
    subst ho
    exact lv_lconst hx hb hd rfl (k H locs lr hP hD hS hl hlen)
  | aconst_null =>
    simp only [ev_ok, Bool.and_eq_true, decide_eq_true_eq] at hok
    obtain ⟨hd, rfl, rfl⟩ := hok
    simp only [ev_o1, ev_j, Option.some.injEq, Sum.inl.injEq] at ho
    subst ho
    exact lv_null hx hb hd (k H locs lr hP hD hS hl hlen)
  | ldc n =>
    simp only [ev_ok, Bool.and_eq_true, decide_eq_true_eq] at hok
    obtain ⟨hd, rfl, hw⟩ := hok
    simp only [ev_o1, ev_j, Option.some.injEq, Sum.inl.injEq] at ho
    subst ho
    split at hw
    · exact lv_ldc hx hb hown (hts _ (ev_w_in hw)) hd (k H locs lr hP hD hS hl hlen)
    · rw [decide_eq_true_eq] at hw
      obtain ⟨rfl, rfl, rfl⟩ := hw
      exact va_ldcS hx hb hown hG.2.1.1 hd (k H locs lr hP hD hS hl hlen)
    · cases hw
  | ldc_w n =>
    simp only [ev_ok, Bool.and_eq_true, decide_eq_true_eq] at hok
    obtain ⟨hd, rfl, hw⟩ := hok
    simp only [ev_o1, ev_j, Option.some.injEq, Sum.inl.injEq] at ho
    subst ho
    split at hw
    · exact lv_ldcw hx hb hown (hts _ (ev_w_in hw)) hd (k H locs lr hP hD hS hl hlen)
    · cases hw
  | ldc2_w n =>
    simp only [ev_ok, Bool.and_eq_true, decide_eq_true_eq] at hok
    obtain ⟨hd, rfl, hw⟩ := hok
    simp only [ev_o1, ev_j, Option.some.injEq, Sum.inl.injEq] at ho
    subst ho
    split at hw
    · exact lv_ldc2 hx hb hown (hts _ (ev_w_in hw)) hd (k H locs lr hP hD hS hl hlen)
    · cases hw
  | getstatic n =>
    simp only [ev_ok, Bool.and_eq_true, Bool.or_eq_true, decide_eq_true_eq] at hok
    obtain ⟨hd, rfl, hw⟩ := hok
    simp only [ev_o1, ev_j, Option.some.injEq, Sum.inl.injEq] at ho
    subst ho
    rcases hw with ⟨rfl, hw⟩ | ⟨rfl, hw⟩ | ⟨rfl, hw⟩ | ⟨rfl, hw⟩
    · exact va_getsN hx hb hG.1.1 hS hown (va_Nw.use rfl (hG.2.2.2.1 _ hw)) (fun _ h => h) hd (k H locs lr hP hD hS hl hlen)
    · exact va_getsN hx hb hG.1.2.1 hS hown (va_Nw.use rfl (hG.2.2.2.1 _ hw)) (fun _ h => h) hd (k H locs lr hP hD hS hl hlen)
    · exact va_getsN hx hb hG.1.2.2.1 hS hown (va_Nw.use rfl (hG.2.2.2.1 _ hw)) (fun _ h => h) hd (k H locs lr hP hD hS hl hlen)
    · exact va_gets hx hb hG.2.1.2.2.2.2.2 hS hown (hts _ (ev_w_in hw)) (fun _ h => h) hd (k H locs lr hP hD hS hl hlen)
  | iload n =>
    simp only [ev_ok, Bool.and_eq_true, decide_eq_true_eq] at hok
    obtain ⟨hd, rfl, rfl⟩ := hok
    simp only [ev_o1] at ho
    split at ho
    · rename_i v hv
      simp only [ev_j, Option.some.injEq, Sum.inl.injEq] at ho
      subst ho
      exact lv_iload hx hb hd (ev_ld_has hl hv) (k H locs lr hP hD hS hl hlen)
    · cases ho
  | iload_n n =>
    simp only [ev_ok, Bool.and_eq_true, decide_eq_true_eq] at hok
    obtain ⟨hd, rfl, rfl⟩ := hok
    simp only [ev_o1] at ho
    split at ho
    · rename_i v hv
      simp only [ev_j, Option.some.injEq, Sum.inl.injEq] at ho
      subst ho
      exact lv_iload_n hx hb hd rfl (ev_ld_has hl hv) (k H locs lr hP hD hS hl hlen)
    · cases ho
  | lload n =>
    simp only [ev_ok, Bool.and_eq_true, decide_eq_true_eq] at hok
    obtain ⟨hd, rfl, rfl⟩ := hok
    simp only [ev_o1] at ho
    split at ho
    · rename_i v hv
      simp only [ev_j, Option.some.injEq, Sum.inl.injEq] at ho
      subst ho
      exact lv_lload hx hb hd (ev_ld_has hl hv) (k H locs lr hP hD hS hl hlen)
    · cases ho
  | lload_n n =>
    simp only [ev_ok, Bool.and_eq_true, decide_eq_true_eq] at hok
    obtain ⟨hd, rfl, rfl⟩ := hok
    simp only [ev_o1] at ho
    split at ho
    · rename_i v hv
      simp only [ev_j, Option.some.injEq, Sum.inl.injEq] at ho
      subst ho
      exact lv_lload_n hx hb hd rfl (ev_ld_has hl hv) (k H locs lr hP hD hS hl hlen)
    · cases ho
  | aload n =>
    simp only [ev_ok, Bool.and_eq_true, decide_eq_true_eq] at hok
    obtain ⟨hd, rfl, rfl⟩ := hok
    simp only [ev_o1] at ho
    split at ho
    · rename_i v hv
      simp only [ev_j, Option.some.injEq, Sum.inl.injEq] at ho
      subst ho
      exact lv_aload hx hb hd (ev_ld_has hl hv) (k H locs lr hP hD hS hl hlen)
    · rename_i hv
      simp only [ev_j, Option.some.injEq, Sum.inl.injEq] at ho
      subst ho
      exact lv_aloadN hx hb hd (ev_ld_has hl hv) (k H locs lr hP hD hS hl hlen)
    · cases ho
  | aload_n n =>
    simp only [ev_ok, Bool.and_eq_true, decide_eq_true_eq] at hok
    obtain ⟨hd, rfl, rfl⟩ := hok
    simp only [ev_o1] at ho
    split at ho
    · rename_i v hv
      simp only [ev_j, Option.some.injEq, Sum.inl.injEq] at ho
      subst ho
      exact lv_aload_n hx hb hd rfl (ev_ld_has hl hv) (k H locs lr hP hD hS hl hlen)
    · rename_i hv
      simp only [ev_j, Option.some.injEq, Sum.inl.injEq] at ho
      subst ho
      exact lv_aload_nN hx hb hd rfl (ev_ld_has hl hv) (k H locs lr hP hD hS hl hlen)
    · cases ho
  | istore n =>
    simp only [ev_ok, Bool.and_eq_true, decide_eq_true_eq] at hok
    obtain ⟨hd, rfl, rfl⟩ := hok
    simp only [ev_o1] at ho
    split at ho
    · split at ho
      · rename_i hlt
        simp only [ev_j, Option.some.injEq, Sum.inl.injEq] at ho
        subst ho
        exact lv_istore hx hb hd hl (hlen ▸ hlt) rfl (fun lr hl => k H locs lr hP hD hS (ev_has_mono hl (ev_s1_sub ρ)) ((ev_s1_len _ _ _).trans hlen))
      · cases ho
    · cases ho
  | istore_n n =>
    simp only [ev_ok, Bool.and_eq_true, decide_eq_true_eq] at hok
    obtain ⟨hd, rfl, rfl⟩ := hok
    simp only [ev_o1] at ho
    split at ho
    · split at ho
      · rename_i hlt
        simp only [ev_j, Option.some.injEq, Sum.inl.injEq] at ho
        subst ho
        exact lv_istore_n hx hb hd rfl hl (hlen ▸ hlt) rfl (fun lr hl => k H locs lr hP hD hS (ev_has_mono hl (ev_s1_sub ρ)) ((ev_s1_len _ _ _).trans hlen))
      · cases ho
    · cases ho
  | lstore n =>
    simp only [ev_ok, Bool.and_eq_true, decide_eq_true_eq] at hok
    obtain ⟨hd, rfl, rfl⟩ := hok
    simp only [ev_o1] at ho
    split at ho
    · split at ho
      · rename_i hlt
        simp only [ev_j, Option.some.injEq, Sum.inl.injEq] at ho
        subst ho
        exact lv_lstore hx hb hd hl (hlen ▸ hlt) rfl (fun lr hl => k H locs lr hP hD hS (ev_has_mono hl (ev_s2_sub ρ)) ((ev_s2_len _ _ _).trans hlen))
      · cases ho
    · cases ho
  | lstore_n n =>
    simp only [ev_ok, Bool.and_eq_true, decide_eq_true_eq] at hok
    obtain ⟨hd, rfl, rfl⟩ := hok
    simp only [ev_o1] at ho
    split at ho
    · split at ho
      · rename_i hlt
        simp only [ev_j, Option.some.injEq, Sum.inl.injEq] at ho
        subst ho
        exact lv_lstore_n hx hb hd rfl hl (hlen ▸ hlt) rfl (fun lr hl => k H locs lr hP hD hS (ev_has_mono hl (ev_s2_sub ρ)) ((ev_s2_len _ _ _).trans hlen))
      · cases ho
    · cases ho
  | astore n =>
    simp only [ev_ok, Bool.and_eq_true, decide_eq_true_eq] at hok
    obtain ⟨hd, rfl, rfl⟩ := hok
    simp only [ev_o1] at ho
    split at ho
    · split at ho
      · rename_i hlt
        simp only [ev_j, Option.some.injEq, Sum.inl.injEq] at ho
        subst ho
        exact lv_astore hx hb hd hl (hlen ▸ hlt) rfl (fun lr hl => k H locs lr hP hD hS (ev_has_mono hl (ev_s1_sub ρ)) ((ev_s1_len _ _ _).trans hlen))
      · cases ho
    · split at ho
      · rename_i hlt
        simp only [ev_j, Option.some.injEq, Sum.inl.injEq] at ho
        subst ho
        exact lv_astoreN hx hb hd hl (hlen ▸ hlt) rfl (fun lr hl => k H locs lr hP hD hS (ev_has_mono hl (ev_s1_sub ρ)) ((ev_s1_len _ _ _).trans hlen))
      · cases ho
    · cases ho
  | astore_n n =>
    simp only [ev_ok, Bool.and_eq_true, decide_eq_true_eq] at hok
    obtain ⟨hd, rfl, rfl⟩ := hok
    simp only [ev_o1] at ho
    split at ho
    · split at ho
      · rename_i hlt
        simp only [ev_j, Option.some.injEq, Sum.inl.injEq] at ho
        subst ho
        exact lv_astore_n hx hb hd rfl hl (hlen ▸ hlt) rfl (fun lr hl => k H locs lr hP hD hS (ev_has_mono hl (ev_s1_sub ρ)) ((ev_s1_len _ _ _).trans hlen))
      · cases ho
    · split at ho
      · rename_i hlt
        simp only [ev_j, Option.some.injEq, Sum.inl.injEq] at ho
        subst ho
        exact lv_astore_nN hx hb hd rfl hl (hlen ▸ hlt) rfl (fun lr hl => k H locs lr hP hD hS (ev_has_mono hl (ev_s1_sub ρ)) ((ev_s1_len _ _ _).trans hlen))
      · cases ho
    · cases ho
  | iinc n q =>
    simp only [ev_ok, Bool.and_eq_true, decide_eq_true_eq] at hok
    obtain ⟨hd, rfl, rfl, rfl⟩ := hok
    simp only [ev_o1] at ho
    split at ho
    · rename_i v w hv hw
      cases hw
      split at ho
      · rename_i hlt
        simp only [ev_j, Option.some.injEq, Sum.inl.injEq] at ho
        subst ho
        have hm : (n, Value.int v) ∈ ev_la ρ 0 ls := by
          unfold ev_ld at hv
          split at hv
          · rename_i w0 hw0
            cases hv
            exact ev_la_mem.mpr ⟨n, _, hw0, by rw [Nat.zero_add]; rfl⟩
          · cases hv
        obtain ⟨j, hj⟩ := List.mem_iff_getElem?.mp hm
        exact lv_iinc hx hb hd hl (k := j) hj rfl (hlen ▸ hlt) rfl (fun lr hl => k H locs lr hP hD hS (ev_has_mono hl (ev_s1_sub ρ)) ((ev_s1_len _ _ _).trans hlen))
      · cases ho
    · cases ho
  | _ => simp [ev_o1] at ho
end EVS
end
section
section EVS
variable {p : Program} {l : Launch} {e : Env} {R : Room} {s : State} {m : MethodId} {args : Array Value} {below : List Frame} {meth : Method} {c : Code} {Q : State → Prop} {own : String} {cc : ByteArray} {nL : Nat} {ρ : Nat → Nat} {cA : Nat → ClassId} {dC : Nat → ClassId} {dI : Nat → Nat → Nat} {A : Nat → Prop} {mt : List ev_MI}
set_option maxHeartbeats 4000000 in
theorem ev_snd2 (F : ev_Fx p s m args c own cc nL ρ cA dC dI A) {en : ev_E} (hok : ev_ok mt own cc en = true) {ls : ev_L} {st : List Value} {h : ev_H} {t : ev_S} (ho : ev_o2 en ls st h = some (.inl t)) (k : ev_Wc p l e R s m args below meth c Q nL ρ cA dC dI A t) : ev_Wc p l e R s m args below meth c Q nL ρ cA dC dI A (en.1, ls, st, h) := by
  obtain ⟨hx, hb, hml, hown, hts, hK, hG, hA⟩ := F
  obtain ⟨pc, i, len, x, tgt, cst, D, P⟩ := en
  intro H locs lr hP hD hS hl hlen
  change va_P (dC, dI) vwCl (ev_cw ρ cA 0 h) H at hP
  change va_D A (ev_cw ρ cA 0 h) at hD
  change lv_has lr nL (ev_la ρ 0 ls) at hl
  change ls.length = nL at hlen
  change W p l e R s m args below meth c H locs 0 0 Q (F0 m pc lr (st.map (ev_cv ρ)))
  cases i with
  | iadd =>
    simp only [ev_ok, Bool.and_eq_true, decide_eq_true_eq] at hok
    obtain ⟨hd, rfl⟩ := hok
    simp only [ev_o2] at ho
    split at ho
    · simp only [ev_j, Option.some.injEq, Sum.inl.injEq] at ho
      subst ho
      exact lv_iadd hx hb hd (k H locs lr hP hD hS hl hlen)
    · cases ho
  | isub =>
    simp only [ev_ok, Bool.and_eq_true, decide_eq_true_eq] at hok
    obtain ⟨hd, rfl⟩ := hok
    simp only [ev_o2] at ho
    split at ho
    · simp only [ev_j, Option.some.injEq, Sum.inl.injEq] at ho
      subst ho
      exact lv_isub hx hb hd (k H locs lr hP hD hS hl hlen)
    · cases ho
  | imul =>
    simp only [ev_ok, Bool.and_eq_true, decide_eq_true_eq] at hok
    obtain ⟨hd, rfl⟩ := hok
    simp only [ev_o2] at ho
    split at ho
    · simp only [ev_j, Option.some.injEq, Sum.inl.injEq] at ho
      subst ho
      exact lv_imul hx hb hd (k H locs lr hP hD hS hl hlen)
    · cases ho
  | iand =>
    simp only [ev_ok, Bool.and_eq_true, decide_eq_true_eq] at hok
    obtain ⟨hd, rfl⟩ := hok
    simp only [ev_o2] at ho
    split at ho
    · simp only [ev_j, Option.some.injEq, Sum.inl.injEq] at ho
      subst ho
      exact lv_iand hx hb hd (k H locs lr hP hD hS hl hlen)
    · cases ho
  | ineg =>
    simp only [ev_ok, Bool.and_eq_true, decide_eq_true_eq] at hok
    obtain ⟨hd, rfl⟩ := hok
    simp only [ev_o2] at ho
    split at ho
    · simp only [ev_j, Option.some.injEq, Sum.inl.injEq] at ho
      subst ho
      exact lv_ineg hx hb hd (k H locs lr hP hD hS hl hlen)
    · cases ho
  | ishr =>
    simp only [ev_ok, Bool.and_eq_true, decide_eq_true_eq] at hok
    obtain ⟨hd, rfl⟩ := hok
    simp only [ev_o2] at ho
    split at ho
    · simp only [ev_j, Option.some.injEq, Sum.inl.injEq] at ho
      subst ho
      exact lv_ishr hx hb hd (k H locs lr hP hD hS hl hlen)
    · cases ho
  | ladd =>
    simp only [ev_ok, Bool.and_eq_true, decide_eq_true_eq] at hok
    obtain ⟨hd, rfl⟩ := hok
    simp only [ev_o2] at ho
    split at ho
    · simp only [ev_j, Option.some.injEq, Sum.inl.injEq] at ho
      subst ho
      exact lv_ladd hx hb hd (k H locs lr hP hD hS hl hlen)
    · cases ho
  | lsub =>
    simp only [ev_ok, Bool.and_eq_true, decide_eq_true_eq] at hok
    obtain ⟨hd, rfl⟩ := hok
    simp only [ev_o2] at ho
    split at ho
    · simp only [ev_j, Option.some.injEq, Sum.inl.injEq] at ho
      subst ho
      exact lv_lsub hx hb hd (k H locs lr hP hD hS hl hlen)
    · cases ho
  | lmul =>
    simp only [ev_ok, Bool.and_eq_true, decide_eq_true_eq] at hok
    obtain ⟨hd, rfl⟩ := hok
    simp only [ev_o2] at ho
    split at ho
    · simp only [ev_j, Option.some.injEq, Sum.inl.injEq] at ho
      subst ho
      exact lv_lmul hx hb hd (k H locs lr hP hD hS hl hlen)
    · cases ho
  | land =>
    simp only [ev_ok, Bool.and_eq_true, decide_eq_true_eq] at hok
    obtain ⟨hd, rfl⟩ := hok
    simp only [ev_o2] at ho
    split at ho
    · simp only [ev_j, Option.some.injEq, Sum.inl.injEq] at ho
      subst ho
      exact lv_land hx hb hd (k H locs lr hP hD hS hl hlen)
    · cases ho
  | lneg =>
    simp only [ev_ok, Bool.and_eq_true, decide_eq_true_eq] at hok
    obtain ⟨hd, rfl⟩ := hok
    simp only [ev_o2] at ho
    split at ho
    · simp only [ev_j, Option.some.injEq, Sum.inl.injEq] at ho
      subst ho
      exact lv_lneg hx hb hd (k H locs lr hP hD hS hl hlen)
    · cases ho
  | iushr =>
    simp only [ev_ok, Bool.and_eq_true, decide_eq_true_eq] at hok
    obtain ⟨hd, rfl⟩ := hok
    simp only [ev_o2] at ho
    split at ho
    · simp only [ev_j, Option.some.injEq, Sum.inl.injEq] at ho
      subst ho
      exact lv_iushr hx hb hd rfl (k H locs lr hP hD hS hl hlen)
    · cases ho
  | lshr =>
    simp only [ev_ok, Bool.and_eq_true, decide_eq_true_eq] at hok
    obtain ⟨hd, rfl⟩ := hok
    simp only [ev_o2] at ho
    split at ho
    · simp only [ev_j, Option.some.injEq, Sum.inl.injEq] at ho
      subst ho
      exact lv_lshr hx hb hd rfl (k H locs lr hP hD hS hl hlen)
    · cases ho
  | lushr =>
    simp only [ev_ok, Bool.and_eq_true, decide_eq_true_eq] at hok
    obtain ⟨hd, rfl⟩ := hok
    simp only [ev_o2] at ho
    split at ho
    · simp only [ev_j, Option.some.injEq, Sum.inl.injEq] at ho
      subst ho
      exact lv_lushr hx hb hd rfl (k H locs lr hP hD hS hl hlen)
    · cases ho
  | i2l =>
    simp only [ev_ok, Bool.and_eq_true, decide_eq_true_eq] at hok
    obtain ⟨hd, rfl⟩ := hok
    simp only [ev_o2] at ho
    split at ho
    · simp only [ev_j, Option.some.injEq, Sum.inl.injEq] at ho
      subst ho
      exact lv_i2l hx hb hd rfl (k H locs lr hP hD hS hl hlen)
    · cases ho
  | l2i =>
    simp only [ev_ok, Bool.and_eq_true, decide_eq_true_eq] at hok
    obtain ⟨hd, rfl⟩ := hok
    simp only [ev_o2] at ho
    split at ho
    · simp only [ev_j, Option.some.injEq, Sum.inl.injEq] at ho
      subst ho
      exact lv_l2i hx hb hd rfl (k H locs lr hP hD hS hl hlen)
    · cases ho
  | i2b =>
    simp only [ev_ok, Bool.and_eq_true, decide_eq_true_eq] at hok
    obtain ⟨hd, rfl⟩ := hok
    simp only [ev_o2] at ho
    split at ho
    · simp only [ev_j, Option.some.injEq, Sum.inl.injEq] at ho
      subst ho
      exact lv_i2b hx hb hd rfl (k H locs lr hP hD hS hl hlen)
    · cases ho
  | i2c =>
    simp only [ev_ok, Bool.and_eq_true, decide_eq_true_eq] at hok
    obtain ⟨hd, rfl⟩ := hok
    simp only [ev_o2] at ho
    split at ho
    · simp only [ev_j, Option.some.injEq, Sum.inl.injEq] at ho
      subst ho
      exact lv_i2c hx hb hd rfl (k H locs lr hP hD hS hl hlen)
    · cases ho
  | lcmp =>
    simp only [ev_ok, Bool.and_eq_true, decide_eq_true_eq] at hok
    obtain ⟨hd, rfl⟩ := hok
    simp only [ev_o2] at ho
    split at ho
    · simp only [ev_j, Option.some.injEq, Sum.inl.injEq] at ho
      subst ho
      exact W.lcmp hx hb hd (k H locs lr hP hD hS hl hlen)
    · cases ho
  | idiv =>
    simp only [ev_ok, Bool.and_eq_true, decide_eq_true_eq] at hok
    obtain ⟨hd, rfl⟩ := hok
    simp only [ev_o2] at ho
    split at ho
    · split at ho
      · rename_i hg
        simp only [ev_j, Option.some.injEq, Sum.inl.injEq] at ho
        subst ho
        exact lv_idiv hx hb hd hg (k H locs lr hP hD hS hl hlen)
      · cases ho
    · cases ho
  | irem =>
    simp only [ev_ok, Bool.and_eq_true, decide_eq_true_eq] at hok
    obtain ⟨hd, rfl⟩ := hok
    simp only [ev_o2] at ho
    split at ho
    · split at ho
      · rename_i hg
        simp only [ev_j, Option.some.injEq, Sum.inl.injEq] at ho
        subst ho
        exact lv_irem hx hb hd hg (k H locs lr hP hD hS hl hlen)
      · cases ho
    · cases ho
  | ldiv =>
    simp only [ev_ok, Bool.and_eq_true, decide_eq_true_eq] at hok
    obtain ⟨hd, rfl⟩ := hok
    simp only [ev_o2] at ho
    split at ho
    · split at ho
      · rename_i hg
        simp only [ev_j, Option.some.injEq, Sum.inl.injEq] at ho
        subst ho
        exact lv_ldiv hx hb hd hg (k H locs lr hP hD hS hl hlen)
      · cases ho
    · cases ho
  | lrem =>
    simp only [ev_ok, Bool.and_eq_true, decide_eq_true_eq] at hok
    obtain ⟨hd, rfl⟩ := hok
    simp only [ev_o2] at ho
    split at ho
    · split at ho
      · rename_i hg
        simp only [ev_j, Option.some.injEq, Sum.inl.injEq] at ho
        subst ho
        exact lv_lrem hx hb hd hg (k H locs lr hP hD hS hl hlen)
      · cases ho
    · cases ho
  | dup =>
    simp only [ev_ok, Bool.and_eq_true, decide_eq_true_eq] at hok
    obtain ⟨hd, rfl⟩ := hok
    simp only [ev_o2] at ho
    split at ho
    · split at ho
      · rename_i hg
        simp only [ev_j, Option.some.injEq, Sum.inl.injEq] at ho
        subst ho
        exact lv_dup hx hb hd ((ev_cv_cat ρ _).trans hg) (k H locs lr hP hD hS hl hlen)
      · cases ho
    · cases ho
  | pop =>
    simp only [ev_ok, Bool.and_eq_true, decide_eq_true_eq] at hok
    obtain ⟨hd, rfl⟩ := hok
    simp only [ev_o2] at ho
    split at ho
    · split at ho
      · rename_i hg
        simp only [ev_j, Option.some.injEq, Sum.inl.injEq] at ho
        subst ho
        exact lv_pop hx hb hd ((ev_cv_cat ρ _).trans hg) (k H locs lr hP hD hS hl hlen)
      · cases ho
    · cases ho
  | dup2 =>
    simp only [ev_ok, Bool.and_eq_true, decide_eq_true_eq] at hok
    obtain ⟨hd, rfl⟩ := hok
    simp only [ev_o2] at ho
    split at ho
    · split at ho
      · rename_i hg
        simp only [ev_j, Option.some.injEq, Sum.inl.injEq] at ho
        subst ho
        exact lv_dup2_11 hx hb hd ((ev_cv_cat ρ _).trans hg.1) ((ev_cv_cat ρ _).trans hg.2) (k H locs lr hP hD hS hl hlen)
      · cases ho
    · cases ho
  | _ => simp [ev_o2] at ho
end EVS
end
section
theorem ev_swOut {pc : Nat} {a : Int32} {t : Nat} : ∀ {offs : List Int} {lo : Nat} {D : List (Nat × Nat)}, ev_okT pc offs lo D = true → (a.toInt < lo ∨ (lo : Int) + D.length ≤ a.toInt) → ev_sw D a t = t
  | _, _, [], _, _ => rfl
  | offs, lo, (j, u) :: r, h, ha => by
    unfold ev_okT at h
    split at h
    · rw [Bool.and_eq_true, decide_eq_true_eq] at h
      obtain ⟨⟨rfl, hk, -⟩, h2⟩ := h
      unfold ev_sw
      rw [if_neg]
      · exact ev_swOut h2 (by simp only [List.length_cons] at ha; omega)
      · intro q
        have e : a.toInt = (j : Int) := by rw [q]; exact nI_toInt (by omega)
        simp only [List.length_cons] at ha
        omega
    · cases h
theorem ev_swIn {pc : Nat} {a : Int32} {t : Nat} : ∀ {offs : List Int} {lo : Nat} {D : List (Nat × Nat)}, ev_okT pc offs lo D = true → (lo : Int) ≤ a.toInt → a.toInt < (lo : Int) + D.length → ∃ u, ev_sw D a t = u ∧ ∃ o, offs[(a.toInt - lo).toNat]? = some o ∧ (pc : Int) + o = (u : Int)
  | _, _, [], _, h1, h2 => by simp only [List.length_nil] at h2; omega
  | offs, lo, (j, u) :: r, h, h1, h2 => by
    unfold ev_okT at h
    split at h
    · rename_i o os
      rw [Bool.and_eq_true, decide_eq_true_eq] at h
      obtain ⟨⟨rfl, hk, hu⟩, h3⟩ := h
      by_cases q : a = Int32.ofNat j
      · have e : a.toInt = (j : Int) := by rw [q]; exact nI_toInt (by omega)
        refine ⟨u, by unfold ev_sw; rw [if_pos q], o, ?_, hu⟩
        rw [show (a.toInt - (j : Int)).toNat = 0 by omega]
        rfl
      · have ne : a.toInt ≠ (j : Int) := fun z => q (Int32.toInt_inj.mp (by rw [z]; exact (nI_toInt (by omega)).symm))
        simp only [List.length_cons] at h2
        obtain ⟨u', e1, o', e2, e3⟩ := ev_swIn (a := a) (t := t) h3 (by omega) (by omega)
        refine ⟨u', by unfold ev_sw; rw [if_neg q]; exact e1, o', ?_, e3⟩
        rw [show (a.toInt - (j : Int)).toNat = (a.toInt - ((j + 1 : Nat) : Int)).toNat + 1 by omega, List.getElem?_cons_succ]
        exact e2
    · cases h
section EVS
variable {p : Program} {l : Launch} {e : Env} {R : Room} {s : State} {m : MethodId} {args : Array Value} {below : List Frame} {meth : Method} {c : Code} {Q : State → Prop} {own : String} {cc : ByteArray} {nL : Nat} {ρ : Nat → Nat} {cA : Nat → ClassId} {dC : Nat → ClassId} {dI : Nat → Nat → Nat} {A : Nat → Prop} {mt : List ev_MI}
set_option maxHeartbeats 4000000 in
theorem ev_snd3 (F : ev_Fx p s m args c own cc nL ρ cA dC dI A) {en : ev_E} (hok : ev_ok mt own cc en = true) {ls : ev_L} {st : List Value} {h : ev_H} {t : ev_S} (ho : ev_o3 en ls st h = some (.inl t)) (k : ev_Wc p l e R s m args below meth c Q nL ρ cA dC dI A t) : ev_Wc p l e R s m args below meth c Q nL ρ cA dC dI A (en.1, ls, st, h) := by
  obtain ⟨hx, hb, hml, hown, hts, hK, hG, hA⟩ := F
  obtain ⟨pc, i, len, x, tgt, cst, D, P⟩ := en
  intro H locs lr hP hD hS hl hlen
  change va_P (dC, dI) vwCl (ev_cw ρ cA 0 h) H at hP
  change va_D A (ev_cw ρ cA 0 h) at hD
  change lv_has lr nL (ev_la ρ 0 ls) at hl
  change ls.length = nL at hlen
  change W p l e R s m args below meth c H locs 0 0 Q (F0 m pc lr (st.map (ev_cv ρ)))
  cases i with
  | goto off =>
    simp only [ev_ok, Bool.and_eq_true, decide_eq_true_eq] at hok
    obtain ⟨hd, rfl, ht⟩ := hok
    simp only [ev_o3, ev_j, Option.some.injEq, Sum.inl.injEq] at ho
    subst ho
    exact lv_goto hx hb hd ht (k H locs lr hP hD hS hl hlen)
  | ifCond k0 off =>
    simp only [ev_ok, Bool.and_eq_true, decide_eq_true_eq] at hok
    obtain ⟨hd, rfl, ht⟩ := hok
    simp only [ev_o3] at ho
    split at ho
    · simp only [ev_j, Option.some.injEq, Sum.inl.injEq] at ho
      subst ho
      have k1 := k H locs lr hP hD hS hl hlen
      cases k0 with
      | eq => exact lv_if_eq hx hb hd ht (fun q => W.eq (congrArg (fun z => F0 m z lr _) (by unfold ev_if; first | exact (if_pos q).symm | exact (if_neg q).symm | exact (if_neg (Int32.not_lt.mpr q)).symm | exact (if_pos (Int32.not_le.mp q)).symm | exact (if_pos (Classical.not_not.mp q)).symm)) k1) (fun q => W.eq (congrArg (fun z => F0 m z lr _) (by unfold ev_if; first | exact (if_pos q).symm | exact (if_neg q).symm | exact (if_neg (Int32.not_lt.mpr q)).symm | exact (if_pos (Int32.not_le.mp q)).symm | exact (if_pos (Classical.not_not.mp q)).symm)) k1)
      | ne => exact lv_if_ne hx hb hd ht (fun q => W.eq (congrArg (fun z => F0 m z lr _) (by unfold ev_if; first | exact (if_pos q).symm | exact (if_neg q).symm | exact (if_neg (Int32.not_lt.mpr q)).symm | exact (if_pos (Int32.not_le.mp q)).symm | exact (if_pos (Classical.not_not.mp q)).symm)) k1) (fun q => W.eq (congrArg (fun z => F0 m z lr _) (by unfold ev_if; first | exact (if_pos q).symm | exact (if_neg q).symm | exact (if_neg (Int32.not_lt.mpr q)).symm | exact (if_pos (Int32.not_le.mp q)).symm | exact (if_pos (Classical.not_not.mp q)).symm)) k1)
      | lt => exact lv_if_lt hx hb hd ht (fun q => W.eq (congrArg (fun z => F0 m z lr _) (by unfold ev_if; first | exact (if_pos q).symm | exact (if_neg q).symm | exact (if_neg (Int32.not_lt.mpr q)).symm | exact (if_pos (Int32.not_le.mp q)).symm | exact (if_pos (Classical.not_not.mp q)).symm)) k1) (fun q => W.eq (congrArg (fun z => F0 m z lr _) (by unfold ev_if; first | exact (if_pos q).symm | exact (if_neg q).symm | exact (if_neg (Int32.not_lt.mpr q)).symm | exact (if_pos (Int32.not_le.mp q)).symm | exact (if_pos (Classical.not_not.mp q)).symm)) k1)
      | ge => exact lv_if_ge hx hb hd ht (fun q => W.eq (congrArg (fun z => F0 m z lr _) (by unfold ev_if; first | exact (if_pos q).symm | exact (if_neg q).symm | exact (if_neg (Int32.not_lt.mpr q)).symm | exact (if_pos (Int32.not_le.mp q)).symm | exact (if_pos (Classical.not_not.mp q)).symm)) k1) (fun q => W.eq (congrArg (fun z => F0 m z lr _) (by unfold ev_if; first | exact (if_pos q).symm | exact (if_neg q).symm | exact (if_neg (Int32.not_lt.mpr q)).symm | exact (if_pos (Int32.not_le.mp q)).symm | exact (if_pos (Classical.not_not.mp q)).symm)) k1)
      | gt => exact lv_if_gt hx hb hd ht (fun q => W.eq (congrArg (fun z => F0 m z lr _) (by unfold ev_if; first | exact (if_pos q).symm | exact (if_neg q).symm | exact (if_neg (Int32.not_lt.mpr q)).symm | exact (if_pos (Int32.not_le.mp q)).symm | exact (if_pos (Classical.not_not.mp q)).symm)) k1) (fun q => W.eq (congrArg (fun z => F0 m z lr _) (by unfold ev_if; first | exact (if_pos q).symm | exact (if_neg q).symm | exact (if_neg (Int32.not_lt.mpr q)).symm | exact (if_pos (Int32.not_le.mp q)).symm | exact (if_pos (Classical.not_not.mp q)).symm)) k1)
      | le => exact lv_if_le hx hb hd ht (fun q => W.eq (congrArg (fun z => F0 m z lr _) (by unfold ev_if; first | exact (if_pos q).symm | exact (if_neg q).symm | exact (if_neg (Int32.not_lt.mpr q)).symm | exact (if_pos (Int32.not_le.mp q)).symm | exact (if_pos (Classical.not_not.mp q)).symm)) k1) (fun q => W.eq (congrArg (fun z => F0 m z lr _) (by unfold ev_if; first | exact (if_pos q).symm | exact (if_neg q).symm | exact (if_neg (Int32.not_lt.mpr q)).symm | exact (if_pos (Int32.not_le.mp q)).symm | exact (if_pos (Classical.not_not.mp q)).symm)) k1)
    · cases ho
  | if_icmp k0 off =>
    simp only [ev_ok, Bool.and_eq_true, decide_eq_true_eq] at hok
    obtain ⟨hd, rfl, ht⟩ := hok
    simp only [ev_o3] at ho
    split at ho
    · simp only [ev_j, Option.some.injEq, Sum.inl.injEq] at ho
      subst ho
      have k1 := k H locs lr hP hD hS hl hlen
      cases k0 with
      | eq => exact lv_icmp_eq hx hb hd ht (fun q => W.eq (congrArg (fun z => F0 m z lr _) (by unfold ev_if; first | exact (if_pos q).symm | exact (if_neg q).symm | exact (if_neg (Int32.not_lt.mpr q)).symm | exact (if_pos (Int32.not_le.mp q)).symm | exact (if_pos (Classical.not_not.mp q)).symm)) k1) (fun q => W.eq (congrArg (fun z => F0 m z lr _) (by unfold ev_if; first | exact (if_pos q).symm | exact (if_neg q).symm | exact (if_neg (Int32.not_lt.mpr q)).symm | exact (if_pos (Int32.not_le.mp q)).symm | exact (if_pos (Classical.not_not.mp q)).symm)) k1)
      | ne => exact lv_icmp_ne hx hb hd ht (fun q => W.eq (congrArg (fun z => F0 m z lr _) (by unfold ev_if; first | exact (if_pos q).symm | exact (if_neg q).symm | exact (if_neg (Int32.not_lt.mpr q)).symm | exact (if_pos (Int32.not_le.mp q)).symm | exact (if_pos (Classical.not_not.mp q)).symm)) k1) (fun q => W.eq (congrArg (fun z => F0 m z lr _) (by unfold ev_if; first | exact (if_pos q).symm | exact (if_neg q).symm | exact (if_neg (Int32.not_lt.mpr q)).symm | exact (if_pos (Int32.not_le.mp q)).symm | exact (if_pos (Classical.not_not.mp q)).symm)) k1)
      | lt => exact lv_icmp_lt hx hb hd ht (fun q => W.eq (congrArg (fun z => F0 m z lr _) (by unfold ev_if; first | exact (if_pos q).symm | exact (if_neg q).symm | exact (if_neg (Int32.not_lt.mpr q)).symm | exact (if_pos (Int32.not_le.mp q)).symm | exact (if_pos (Classical.not_not.mp q)).symm)) k1) (fun q => W.eq (congrArg (fun z => F0 m z lr _) (by unfold ev_if; first | exact (if_pos q).symm | exact (if_neg q).symm | exact (if_neg (Int32.not_lt.mpr q)).symm | exact (if_pos (Int32.not_le.mp q)).symm | exact (if_pos (Classical.not_not.mp q)).symm)) k1)
      | ge => exact lv_icmp_ge hx hb hd ht (fun q => W.eq (congrArg (fun z => F0 m z lr _) (by unfold ev_if; first | exact (if_pos q).symm | exact (if_neg q).symm | exact (if_neg (Int32.not_lt.mpr q)).symm | exact (if_pos (Int32.not_le.mp q)).symm | exact (if_pos (Classical.not_not.mp q)).symm)) k1) (fun q => W.eq (congrArg (fun z => F0 m z lr _) (by unfold ev_if; first | exact (if_pos q).symm | exact (if_neg q).symm | exact (if_neg (Int32.not_lt.mpr q)).symm | exact (if_pos (Int32.not_le.mp q)).symm | exact (if_pos (Classical.not_not.mp q)).symm)) k1)
      | gt => exact lv_icmp_gt hx hb hd ht (fun q => W.eq (congrArg (fun z => F0 m z lr _) (by unfold ev_if; first | exact (if_pos q).symm | exact (if_neg q).symm | exact (if_neg (Int32.not_lt.mpr q)).symm | exact (if_pos (Int32.not_le.mp q)).symm | exact (if_pos (Classical.not_not.mp q)).symm)) k1) (fun q => W.eq (congrArg (fun z => F0 m z lr _) (by unfold ev_if; first | exact (if_pos q).symm | exact (if_neg q).symm | exact (if_neg (Int32.not_lt.mpr q)).symm | exact (if_pos (Int32.not_le.mp q)).symm | exact (if_pos (Classical.not_not.mp q)).symm)) k1)
      | le => exact lv_icmp_le hx hb hd ht (fun q => W.eq (congrArg (fun z => F0 m z lr _) (by unfold ev_if; first | exact (if_pos q).symm | exact (if_neg q).symm | exact (if_neg (Int32.not_lt.mpr q)).symm | exact (if_pos (Int32.not_le.mp q)).symm | exact (if_pos (Classical.not_not.mp q)).symm)) k1) (fun q => W.eq (congrArg (fun z => F0 m z lr _) (by unfold ev_if; first | exact (if_pos q).symm | exact (if_neg q).symm | exact (if_neg (Int32.not_lt.mpr q)).symm | exact (if_pos (Int32.not_le.mp q)).symm | exact (if_pos (Classical.not_not.mp q)).symm)) k1)
    · cases ho
  | ifnull off =>
    simp only [ev_ok, Bool.and_eq_true, decide_eq_true_eq] at hok
    obtain ⟨hd, rfl, ht⟩ := hok
    simp only [ev_o3] at ho
    split at ho
    · simp only [ev_j, Option.some.injEq, Sum.inl.injEq] at ho
      subst ho
      exact lv_ifnullN hx hb hd ht (k H locs lr hP hD hS hl hlen)
    · simp only [ev_j, Option.some.injEq, Sum.inl.injEq] at ho
      subst ho
      exact lv_ifnull hx hb hd (k H locs lr hP hD hS hl hlen)
    · cases ho
  | ifnonnull off =>
    simp only [ev_ok, Bool.and_eq_true, decide_eq_true_eq] at hok
    obtain ⟨hd, rfl, ht⟩ := hok
    simp only [ev_o3] at ho
    split at ho
    · simp only [ev_j, Option.some.injEq, Sum.inl.injEq] at ho
      subst ho
      exact lv_ifnonnullN hx hb hd (k H locs lr hP hD hS hl hlen)
    · simp only [ev_j, Option.some.injEq, Sum.inl.injEq] at ho
      subst ho
      exact lv_ifnonnull hx hb hd ht (k H locs lr hP hD hS hl hlen)
    · cases ho
  | tableswitch d lo hi offs =>
    simp only [ev_ok, Bool.and_eq_true, decide_eq_true_eq] at hok
    obtain ⟨hd, ⟨ht, h0, hh, hlo⟩, hT⟩ := hok
    simp only [ev_o3] at ho
    split at ho
    · rename_i a r
      simp only [ev_j, Option.some.injEq, Sum.inl.injEq] at ho
      subst ho
      have k1 := k H locs lr hP hD hS hl hlen
      have hn : ((lo.toNat : Nat) : Int) = lo := Int.toNat_of_nonneg h0
      by_cases ho : a.toInt < lo ∨ hi < a.toInt
      · refine lv_tableOut hx hb hd ho ht ?_
        rw [ev_swOut hT (by rw [hn]; rcases ho with q | q; exact Or.inl q; exact Or.inr (by omega))] at k1
        exact k1
      · obtain ⟨t1, e1, o1, e2, e3⟩ := ev_swIn (a := a) (t := tgt) hT (by rw [hn]; omega) (by rw [hn]; omega)
        rw [e1] at k1
        refine lv_tableIn hx hb hd (fun q => ho (Or.inl q)) (fun q => ho (Or.inr q)) (off := o1) ?_ e3 k1
        rw [← Array.getElem?_toList]
        rw [hn] at e2
        exact e2
    · cases ho
  | _ => simp [ev_o3] at ho
end EVS
end
section
theorem ev_lk {D : List (Nat × Nat)} {ci k : Nat} (h : D.lookup ci = some k) : (ci, k) ∈ D := by
  induction D with
  | nil => cases h
  | cons q r ih =>
    obtain ⟨a, b⟩ := q
    rw [List.lookup_cons] at h
    split at h
    · rename_i e
      cases h
      rw [beq_iff_eq.mp e]
      exact List.mem_cons_self
    · exact List.mem_cons_of_mem _ (ih h)
theorem ev_ins {own : String} {idx : Nat} {P : List Nat} {q : Nat × Nat} (h : ev_okI own idx P q = true) : ∃ C T N nm, vwCl[q.1]? = some (C, T, N) ∧ Cond.classLink own idx nm ∈ ev_tb ∧ (match q.2 with
    | 0 => decide ((C, nm) ∈ ev_cn)
    | 1 => decide (C = nm) || decide ((C, nm) ∈ ev_cy)
    | _ => false) = true := by
  unfold ev_okI at h
  split at h
  · rename_i C T N u1 u2 nm h1 h2
    rw [Bool.and_eq_true] at h
    exact ⟨C, T, N, nm, h1, ev_w_in h.1, h.2⟩
  · cases h
theorem ev_tyAt (cA : Nat → ClassId) {t : Nat} (h : t < 6) : ∃ ty, (ev_ty cA)[t]? = some (cA t, ty) := by
  rcases (show t = 0 ∨ t = 1 ∨ t = 2 ∨ t = 3 ∨ t = 4 ∨ t = 5 by omega) with rfl | rfl | rfl | rfl | rfl | rfl <;> exact ⟨_, rfl⟩
theorem ev_fits (ρ : Nat → Nat) {t : Nat} {v : Value} (ht : t < 3) (h : ev_fit t v = true) : ∃ ty, parseFieldDescriptor (ev_dsc t) = some ty ∧ narrow ty (ev_cv ρ v) = ev_cv ρ v ∧ fits ty (ev_cv ρ v) = true := by
  unfold ev_fit at h
  split at h
  · exact ⟨.int, by decide +kernel, rfl, rfl⟩
  · exact ⟨.long, by decide +kernel, rfl, rfl⟩
  · rw [decide_eq_true_eq] at h
    rcases h with rfl | rfl
    · exact ⟨.boolean, by decide +kernel, (by decide +kernel : narrow .boolean (.int 0) = .int 0), (by decide +kernel : fits .boolean (.int 0) = true)⟩
    · exact ⟨.boolean, by decide +kernel, (by decide +kernel : narrow .boolean (.int 1) = .int 1), (by decide +kernel : fits .boolean (.int 1) = true)⟩
  · cases h
section EVF
variable {s : State} {args : Array Value}
theorem ev_fld (hts : ∀ w ∈ ev_tb, w.before args s = true) {own : String} {idx x : Nat} {P : List Nat} {q : Nat × Nat} (h : ev_okF own idx x P q = true) : ∃ C T N ref, vwCl[q.1]? = some (C, T, N) ∧ x < N ∧ (Cond.fieldLink own idx ref (T x).2.1 (T x).2.2.1).before args s = true ∧ ∀ z, s.fieldFound? (T x).1 (T x).2.1 (T x).2.2.1 = some z → s.fieldFound? ref (T x).2.1 (T x).2.2.1 = some z := by
  unfold ev_okF at h
  split at h
  · rename_i C T N h1
    rw [Bool.and_eq_true, decide_eq_true_eq] at h
    obtain ⟨h2, h3⟩ := h
    split at h3
    · exact ⟨C, T, N, _, h1, h2, hts _ (ev_w_in h3), fun _ z => z⟩
    · split at h3
      · rename_i ref _ _ _
        rw [Bool.and_eq_true] at h3
        exact ⟨C, T, N, ref, h1, h2, hts _ (ev_w_in h3.1), u_same (hts _ (ev_w_in h3.2))⟩
      · cases h3
    · cases h3
  · cases h
end EVF
section EVS
variable {p : Program} {l : Launch} {e : Env} {R : Room} {s : State} {m : MethodId} {args : Array Value} {below : List Frame} {meth : Method} {c : Code} {Q : State → Prop} {own : String} {cc : ByteArray} {nL : Nat} {ρ : Nat → Nat} {cA : Nat → ClassId} {dC : Nat → ClassId} {dI : Nat → Nat → Nat} {A : Nat → Prop} {mt : List ev_MI}
theorem ev_aldg {H : Heap} {locs : List Loc} {D : va_G} {cl : List vw_C} {tys : List (ClassId × FieldType)} {ws : va_W} {a pc : Nat} {lr : Array Slot} {rest : List Value} (hexec : p.tables.exec = Jvm.exec) (hb : c.code = cc) (hK : va_K D cl tys s) (hP : va_P D cl ws H) (q0 t0 : Nat) {cA : ClassId} {ty : FieldType} {n : Nat} {f : Nat → Option Nat} (ha : ws[q0]? = some (a, .inl (cA, n, .inr (.inr (.inr (.inr f)))))) (ht : tys[t0]? = some (cA, .array ty)) {i : Int32} (hin : vp_in i n) (hdg : decode cc pc = .ok (.aaload, 1))
    (kk : W p l e R s m args below meth c H locs 0 0 Q (F0 m (pc + 1) lr (va_rf (f i.toNatClampNeg) :: rest))) : W p l e R s m args below meth c H locs 0 0 Q (F0 m pc lr (.int i :: .ref a :: rest)) := by
  have hlt : i.toNatClampNeg < n := Nat.not_le.mp fun q => hin (Or.inr q)
  exact W.aald (v := va_rf (f i.toNatClampNeg)) (ty := .array ty) hexec hb (hP q0 _ ha) ((hK.2 t0 _ ht).1 n (fun j => va_rf (f j))) rfl (fun q => by cases q) (by show ¬ (i < 0 ∨ (arrV _ _ _).slots.size ≤ _); rw [arrV_size]; exact hin) (by show (arrV _ _ _).slots[_]? = _; rw [arrV_read _ _ hlt]) rfl rfl hdg kk
set_option maxHeartbeats 4000000 in
theorem ev_snd4 (F : ev_Fx p s m args c own cc nL ρ cA dC dI A) {en : ev_E} (hok : ev_ok mt own cc en = true) {ls : ev_L} {st : List Value} {h : ev_H} {t : ev_S} (ho : ev_o4 en ls st h = some (.inl t)) (k : ev_Wc p l e R s m args below meth c Q nL ρ cA dC dI A t) : ev_Wc p l e R s m args below meth c Q nL ρ cA dC dI A (en.1, ls, st, h) := by
  obtain ⟨hx, hb, hml, hown, hts, hK, hG, hA⟩ := F
  obtain ⟨pc, i, len, x, tgt, cst, D, P⟩ := en
  intro H locs lr hP hD hS hl hlen
  change va_P (dC, dI) vwCl (ev_cw ρ cA 0 h) H at hP
  change va_D A (ev_cw ρ cA 0 h) at hD
  change lv_has lr nL (ev_la ρ 0 ls) at hl
  change ls.length = nL at hlen
  change W p l e R s m args below meth c H locs 0 0 Q (F0 m pc lr (st.map (ev_cv ρ)))
  cases i with
  | getfield n =>
    simp only [ev_ok, Bool.and_eq_true, decide_eq_true_eq] at hok
    obtain ⟨hd, rfl, hF, hT⟩ := hok
    simp only [ev_o4] at ho
    split at ho
    · rename_i a r
      split at ho
      · rename_i ha
        subst ha
        split at ho
        · rename_i ht
          rw [if_pos ht, Bool.or_eq_true, Bool.and_eq_true, Bool.and_eq_true, decide_eq_true_eq, decide_eq_true_eq] at hT
          simp only [ev_j, Option.some.injEq, Sum.inl.injEq] at ho
          subst ho
          rcases hT with ⟨rfl, hw⟩ | ⟨rfl, hw⟩
          · exact vk_getf hx hb hG.2.1.2.2.1 hS hown (hts _ (ev_w_in hw)) (fun _ h => h) hd (k H locs lr hP hD hS hl hlen)
          · exact vk_getf hx hb hG.2.1.2.2.2.1 hS hown (hts _ (ev_w_in hw)) (fun _ h => h) hd (k H locs lr hP hD hS hl hlen)
        · cases ho
      · split at ho
        · rename_i ci fs hg
          split at ho
          · rename_i hD0
            split at ho
            · rename_i v hv
              simp only [ev_j, Option.some.injEq, Sum.inl.injEq] at ho
              subst ho
              obtain ⟨j, hj, -⟩ := ev_at ρ cA hg
              obtain ⟨q, hq, hqe⟩ := List.any_eq_true.mp hD0
              have hqc : q.1 = ci := beq_iff_eq.mp hqe
              obtain ⟨C, T, N, ref, h1, h2, h3, h4⟩ := ev_fld hts (List.all_eq_true.mp hF q hq)
              rw [hqc] at h1
              exact va_get (D := (dC, dI)) hx hb hts (ev_lay _ (List.mem_of_getElem? h1)) hown hK hP j hj h1 x h2 h3 h4 (by rw [List.getElem?_map, hv]; rfl) hd (k H locs lr hP hD hS hl hlen)
            · cases ho
          · cases ho
        · cases ho
    · cases ho
  | putfield n =>
    simp only [ev_ok, Bool.and_eq_true, decide_eq_true_eq] at hok
    obtain ⟨hd, rfl, hF, hPu⟩ := hok
    simp only [ev_o4] at ho
    split at ho
    · rename_i v a r
      split at ho
      · rename_i ci fs hg
        split at ho
        · rename_i hc
          obtain ⟨hD0, hxl, hfit⟩ := hc
          simp only [ev_j, Option.some.injEq, Sum.inl.injEq] at ho
          subst ho
          obtain ⟨j, hj, hset⟩ := ev_at ρ cA hg
          obtain ⟨q, hq, hqe⟩ := List.any_eq_true.mp hD0
          have hqc : q.1 = ci := beq_iff_eq.mp hqe
          obtain ⟨C, T, N, ref, h1, h2, h3, h4⟩ := ev_fld hts (List.all_eq_true.mp hF q hq)
          have hp1 := List.all_eq_true.mp hPu q hq
          simp only [ev_okP, h1, decide_eq_true_eq] at hp1
          obtain ⟨p1, p2, p3⟩ := hp1
          rw [hqc] at h1
          obtain ⟨ty0, hty, hnm⟩ := ev_typ _ (List.mem_of_getElem? h1)
          obtain ⟨ty, q1, q2, q3⟩ := ev_fits ρ p3 hfit
          refine va_put (D := (dC, dI)) hx hb hts (ev_lay _ (List.mem_of_getElem? h1)) ty0 hty hnm hown hK hP hD hS j hj h1 x h2 h3 h4 p1 (by rw [p2]; exact q1) q2 q3 (by rw [List.length_map]; exact hxl) hd (fun H1 locs1 hP1 hD1 hS1 => ?_)
          have hs : (ev_cw ρ cA 0 h).set j (ρ a, .inr (ci, (fs.map (ev_cv ρ)).set x (ev_cv ρ v))) = ev_cw ρ cA 0 (h.set a (some (.inr (ci, fs.set x v)))) := by
            rw [← List.map_set]
            exact hset (.inr (ci, fs.set x v))
          rw [hs] at hP1 hD1
          exact k H1 locs1 lr hP1 hD1 hS1 hl hlen
        · cases ho
      · cases ho
    · cases ho
  | arraylength =>
    simp only [ev_ok, Bool.and_eq_true, decide_eq_true_eq] at hok
    obtain ⟨hd, rfl⟩ := hok
    simp only [ev_o4] at ho
    split at ho
    · rename_i a r
      split at ho
      · split at ho
        · rename_i h2
          subst h2
          simp only [ev_j, Option.some.injEq, Sum.inl.injEq] at ho
          subst ho
          exact va_tlen hx hb hG.2.1.2.2.2.2.1 hS rfl hd (k H locs lr hP hD hS hl hlen)
        · cases ho
      · split at ho
        · rename_i tt n d hg
          split at ho
          · rename_i ht6
            simp only [ev_j, Option.some.injEq, Sum.inl.injEq] at ho
            subst ho
            obtain ⟨j, hj, -⟩ := ev_at ρ cA hg
            obtain ⟨ty, hty⟩ := ev_tyAt cA ht6
            exact va_alen hx hb hK hP j tt hj hty rfl hd (k H locs lr hP hD hS hl hlen)
          · cases ho
        · cases ho
    · cases ho
  | iaload =>
    simp only [ev_ok, Bool.and_eq_true, decide_eq_true_eq] at hok
    obtain ⟨hd, rfl⟩ := hok
    simp only [ev_o4] at ho
    split at ho
    · split at ho
      · split at ho
        · rename_i hin
          split at ho
          · rename_i hr
            simp only [ev_j, Option.some.injEq, Sum.inl.injEq] at ho
            subst ho
            exact va_ti hx hb (hG.1.2.2.2 _ hr.1 hr.2) hS hin rfl hd (k H locs lr hP hD hS hl hlen)
          · cases ho
        · cases ho
      · split at ho
        · rename_i n f hg
          split at ho
          · rename_i hin
            simp only [ev_j, Option.some.injEq, Sum.inl.injEq] at ho
            subst ho
            obtain ⟨j, hj, -⟩ := ev_at ρ cA hg
            exact va_iald hx hb hK hP j 0 hj rfl hin hd (k H locs lr hP hD hS hl hlen)
          · cases ho
        · cases ho
    · cases ho
  | baload =>
    simp only [ev_ok, Bool.and_eq_true, decide_eq_true_eq] at hok
    obtain ⟨hd, rfl⟩ := hok
    simp only [ev_o4] at ho
    split at ho
    · split at ho
      · split at ho
        · rename_i hin
          split at ho
          · rename_i hr
            subst hr
            simp only [ev_j, Option.some.injEq, Sum.inl.injEq] at ho
            subst ho
            exact va_tb hx hb hG.2.1.2.2.2.2.1 hS hin rfl hd (k H locs lr hP hD hS hl hlen)
          · cases ho
        · cases ho
      · split at ho
        · rename_i n f hg
          split at ho
          · rename_i hin
            simp only [ev_j, Option.some.injEq, Sum.inl.injEq] at ho
            subst ho
            obtain ⟨j, hj, -⟩ := ev_at ρ cA hg
            exact va_bald hx hb hK hP j 3 hj rfl hin hd (k H locs lr hP hD hS hl hlen)
          · cases ho
        · cases ho
    · cases ho
  | laload =>
    simp only [ev_ok, Bool.and_eq_true, decide_eq_true_eq] at hok
    obtain ⟨hd, rfl⟩ := hok
    simp only [ev_o4] at ho
    split at ho
    · split at ho
      · rename_i n f hg
        split at ho
        · rename_i hin
          simp only [ev_j, Option.some.injEq, Sum.inl.injEq] at ho
          subst ho
          obtain ⟨j, hj, -⟩ := ev_at ρ cA hg
          exact va_lald hx hb hK hP j 1 hj rfl hin hd (k H locs lr hP hD hS hl hlen)
        · cases ho
      · cases ho
    · cases ho
  | caload =>
    simp only [ev_ok, Bool.and_eq_true, decide_eq_true_eq] at hok
    obtain ⟨hd, rfl⟩ := hok
    simp only [ev_o4] at ho
    split at ho
    · split at ho
      · rename_i n f hg
        split at ho
        · rename_i hin
          simp only [ev_j, Option.some.injEq, Sum.inl.injEq] at ho
          subst ho
          obtain ⟨j, hj, -⟩ := ev_at ρ cA hg
          exact va_cald hx hb hK hP j 2 hj rfl hin hd (k H locs lr hP hD hS hl hlen)
        · cases ho
      · cases ho
    · cases ho
  | aaload =>
    simp only [ev_ok, Bool.and_eq_true, decide_eq_true_eq] at hok
    obtain ⟨hd, rfl⟩ := hok
    simp only [ev_o4] at ho
    split at ho
    · split at ho
      · rename_i tt n f hg
        split at ho
        · rename_i hin
          split at ho
          · rename_i htt
            simp only [ev_j, Option.some.injEq, Sum.inl.injEq] at ho
            subst ho
            obtain ⟨j, hj, -⟩ := ev_at ρ cA hg
            have k1 := k H locs lr hP hD hS hl hlen
            have k2 := W.eq (g := F0 m (pc + 1) lr (va_rf ((f _).map ρ) :: _)) (by rw [← ev_cv_rf]; rfl) k1
            rcases htt with rfl | rfl
            · exact va_aldq hx hb hK hP j 4 hj rfl hin hd k2
            · exact ev_aldg hx hb hK hP j 5 hj rfl hin hd k2
          · cases ho
        · cases ho
      · cases ho
    · cases ho
  | iastore =>
    simp only [ev_ok, Bool.and_eq_true, decide_eq_true_eq] at hok
    obtain ⟨hd, rfl⟩ := hok
    simp only [ev_o4] at ho
    split at ho
    · rename_i v0 j0 a0 r0
      split at ho
      · rename_i n f hg
        split at ho
        · rename_i hin
          simp only [ev_j, Option.some.injEq, Sum.inl.injEq] at ho
          subst ho
          obtain ⟨j, hj, hset⟩ := ev_at ρ cA hg
          refine va_iast hx hb hK hP hD hS j 0 hj rfl hin hd (fun H1 locs1 hP1 hD1 hS1 => ?_)
          refine k H1 locs1 lr ?_ ?_ hS1 hl hlen
          · have h9 := hset (.inl (0, n, .inl (upd f j0.toNatClampNeg v0)))
            exact h9 ▸ hP1
          · have h9 := hset (.inl (0, n, .inl (upd f j0.toNatClampNeg v0)))
            exact h9 ▸ hD1
        · cases ho
      · cases ho
    · cases ho
  | lastore =>
    simp only [ev_ok, Bool.and_eq_true, decide_eq_true_eq] at hok
    obtain ⟨hd, rfl⟩ := hok
    simp only [ev_o4] at ho
    split at ho
    · rename_i v0 j0 a0 r0
      split at ho
      · rename_i n f hg
        split at ho
        · rename_i hin
          simp only [ev_j, Option.some.injEq, Sum.inl.injEq] at ho
          subst ho
          obtain ⟨j, hj, hset⟩ := ev_at ρ cA hg
          refine va_last hx hb hK hP hD hS j 1 hj rfl hin hd (fun H1 locs1 hP1 hD1 hS1 => ?_)
          refine k H1 locs1 lr ?_ ?_ hS1 hl hlen
          · have h9 := hset (.inl (1, n, .inr (.inl (vp_updL f j0.toNatClampNeg v0))))
            exact h9 ▸ hP1
          · have h9 := hset (.inl (1, n, .inr (.inl (vp_updL f j0.toNatClampNeg v0))))
            exact h9 ▸ hD1
        · cases ho
      · cases ho
    · cases ho
  | castore =>
    simp only [ev_ok, Bool.and_eq_true, decide_eq_true_eq] at hok
    obtain ⟨hd, rfl⟩ := hok
    simp only [ev_o4] at ho
    split at ho
    · rename_i v0 j0 a0 r0
      split at ho
      · rename_i n f hg
        split at ho
        · rename_i hin
          simp only [ev_j, Option.some.injEq, Sum.inl.injEq] at ho
          subst ho
          obtain ⟨j, hj, hset⟩ := ev_at ρ cA hg
          refine va_cast hx hb hK hP hD hS j 2 hj rfl hin hd (fun H1 locs1 hP1 hD1 hS1 => ?_)
          refine k H1 locs1 lr ?_ ?_ hS1 hl hlen
          · have h9 := hset (.inl (2, n, .inl (upd f j0.toNatClampNeg (vp_nar .char v0))))
            exact h9 ▸ hP1
          · have h9 := hset (.inl (2, n, .inl (upd f j0.toNatClampNeg (vp_nar .char v0))))
            exact h9 ▸ hD1
        · cases ho
      · cases ho
    · cases ho
  | bastore =>
    simp only [ev_ok, Bool.and_eq_true, decide_eq_true_eq] at hok
    obtain ⟨hd, rfl⟩ := hok
    simp only [ev_o4] at ho
    split at ho
    · rename_i v0 j0 a0 r0
      split at ho
      · rename_i n f hg
        split at ho
        · rename_i hin
          simp only [ev_j, Option.some.injEq, Sum.inl.injEq] at ho
          subst ho
          obtain ⟨j, hj, hset⟩ := ev_at ρ cA hg
          refine va_bast hx hb hK hP hD hS j 3 hj rfl hin hd (fun H1 locs1 hP1 hD1 hS1 => ?_)
          refine k H1 locs1 lr ?_ ?_ hS1 hl hlen
          · have h9 := hset (.inl (3, n, .inl (upd f j0.toNatClampNeg (vp_nar .byte v0))))
            exact h9 ▸ hP1
          · have h9 := hset (.inl (3, n, .inl (upd f j0.toNatClampNeg (vp_nar .byte v0))))
            exact h9 ▸ hD1
        · cases ho
      · cases ho
    · cases ho
  | aastore =>
    simp only [ev_ok, Bool.and_eq_true, decide_eq_true_eq] at hok
    obtain ⟨hd, rfl⟩ := hok
    simp only [ev_o4] at ho
    split at ho
    · rename_i i0 a r
      split at ho
      · rename_i n f hg
        split at ho
        · rename_i hin
          simp only [ev_j, Option.some.injEq, Sum.inl.injEq] at ho
          subst ho
          obtain ⟨j, hj, hset⟩ := ev_at ρ cA hg
          refine va_astqN hx hb hK hP hD hS j 4 hj rfl hin hd (fun H1 locs1 hP1 hD1 hS1 => ?_)
          have h9 := hset (.inl (4, n, .inr (.inr (.inr (.inr (va_up f i0.toNatClampNeg none))))))
          have h8 : (fun i => (va_up f i0.toNatClampNeg none i).map ρ) = va_up (fun i => (f i).map ρ) i0.toNatClampNeg none := by
            funext i
            unfold va_up
            split <;> rfl
          simp only [ev_ce, ev_cd, h8] at h9
          refine k H1 locs1 lr ?_ ?_ hS1 hl hlen
          · exact h9 ▸ hP1
          · exact h9 ▸ hD1
        · cases ho
      · cases ho
    · cases ho
  | instanceof n =>
    simp only [ev_ok, Bool.and_eq_true, decide_eq_true_eq] at hok
    obtain ⟨hd, rfl, hI⟩ := hok
    simp only [ev_o4] at ho
    split at ho
    · split at ho
      · rename_i ci fs hg
        obtain ⟨j, hj, -⟩ := ev_at ρ cA hg
        split at ho
        · rename_i hlk
          simp only [ev_j, Option.some.injEq, Sum.inl.injEq] at ho
          subst ho
          obtain ⟨C, T, N, nm, h1, h2, h3⟩ := ev_ins (List.all_eq_true.mp hI _ (ev_lk hlk))
          have h4 : (C, nm) ∈ ev_cn := by simpa using h3
          exact va_instNo hx hb hown (hts _ h2) (hG.2.2.2.2.2 _ h4) (va_recv hK hP h1 hj) hd (k H locs lr hP hD hS hl hlen)
        · rename_i hlk
          simp only [ev_j, Option.some.injEq, Sum.inl.injEq] at ho
          subst ho
          obtain ⟨C, T, N, nm, h1, h2, h3⟩ := ev_ins (List.all_eq_true.mp hI _ (ev_lk hlk))
          have h4 : C = nm ∨ (C, nm) ∈ ev_cy := by simpa using h3
          rcases h4 with rfl | h4
          · exact va_instS hx hb hown (hts _ h2) (hK.1 _ _ h1).2 (va_recv hK hP h1 hj) hd (k H locs lr hP hD hS hl hlen)
          · exact va_instY hx hb hown (hts _ h2) (hG.2.2.2.2.1 _ h4) (va_recv hK hP h1 hj) hd (k H locs lr hP hD hS hl hlen)
        · cases ho
      · cases ho
    · cases ho
  | _ => simp [ev_o4] at ho
end EVS
end
section
/-! ===== returns, the library's functions, calls ===== -/
def ev_rm (d : Nat) : Room := { frames := d, cells := 0, slots := 0, locals := 40 * d }
def ev_Pc (ρ : Nat → Nat) (cA : Nat → ClassId) (dC : Nat → ClassId) (dI : Nat → Nat → Nat) (as : List Value) (h : ev_H) (sz : Nat) : Array Value → State → Prop := va_Pc (as.map (ev_cv ρ)) (fun U => U.heap.size = sz ∧ va_P (dC, dI) vwCl (ev_cw ρ cA 0 h) U.heap ∧ va_K (dC, dI) vwCl (ev_ty cA) U ∧ va_D (fun _ => True) (ev_cw ρ cA 0 h) ∧ ev_G ρ (va_A (ev_cw ρ cA 0 h) sz) U U.heap)
def ev_Qc (ρ : Nat → Nat) (cA : Nat → ClassId) (dC : Nat → ClassId) (dI : Nat → Nat → Nat) (h : ev_H) (sz : Nat) (z : ev_Z) : Array Value → State → Outcome → State → Prop := fun _ st oc t => (oc = .returned (z.1.map (ev_cv ρ)) ∧ va_P (dC, dI) vwCl (ev_cw ρ cA 0 z.2) t.heap ∧ va_D (va_A (ev_cw ρ cA 0 h) sz) (ev_cw ρ cA 0 z.2)) ∧ va_F (va_A (ev_cw ρ cA 0 h) sz) st t
theorem ev_Pc_blind {ρ : Nat → Nat} {cA : Nat → ClassId} {dC : Nat → ClassId} {dI : Nat → Nat → Nat} {as : List Value} {h : ev_H} {sz : Nat} : FrameBlind (ev_Pc ρ cA dC dI as h sz) := by
  intro a U g mk hq
  obtain ⟨e1, e2, e3, e4, e5, e6⟩ := hq
  exact ⟨e1, e2, e3, va_K.moved (u := U) (U := U.calling g mk a) (Vm.Alike.refl U.vm) e4, e5, ev_G.same (s := U) (U := U.calling g mk a) rfl e6⟩
theorem ev_okV_at {mt : List ev_MI} {own : String} {idx n : Nat} : ∀ {D : List (Nat × Nat)} {P : List Nat} {ci k : Nat}, ev_okV mt own idx n D P = true → D.lookup ci = some k → ∃ C P', ev_cl ci = some C ∧ ev_okV1 mt own idx n C k P' = true
  | [], _, _, _, _, h => by cases h
  | (a, b) :: r, P, ci, k, h, hl => by
    unfold ev_okV at h
    rw [Bool.and_eq_true] at h
    rw [List.lookup_cons] at hl
    split at hl
    · rename_i e
      cases hl
      have e1 := beq_iff_eq.mp e
      subst e1
      have h1 := h.1
      split at h1
      · rename_i C hC
        exact ⟨C, _, hC, h1⟩
      · cases h1
    · exact ev_okV_at h.2 hl
section EVS
variable {p : Program} {l : Launch} {e : Env} {R : Room} {s : State} {m : MethodId} {args : Array Value} {below : List Frame} {meth : Method} {c : Code} {Q : State → Prop} {own : String} {cc : ByteArray} {nL : Nat} {ρ : Nat → Nat} {cA : Nat → ClassId} {dC : Nat → ClassId} {dI : Nat → Nat → Nat} {A : Nat → Prop} {mt : List ev_MI}
set_option maxHeartbeats 4000000 in
theorem ev_sndR (F : ev_Fx p s m args c own cc nL ρ cA dC dI A) {rt : Option FieldType} (hr : meth.sig.returnType = rt) (hlocks : meth.locks = false) {h0 : ev_H} (hAe : va_A (ev_cw ρ cA 0 h0) s.heap.size = A) {en : ev_E} (hok : ev_ok mt own cc en = true) {ls : ev_L} {st : List Value} {h : ev_H} {z : ev_Z} (ho : ev_o5 rt en ls st h = some (.inr z)) : ev_Wc p l e R s m args below meth c (MQ below (ev_Qc ρ cA dC dI h0 s.heap.size z) args s 0 0 A) nL ρ cA dC dI A (en.1, ls, st, h) := by
  obtain ⟨hx, hb, hml, hown, hts, hK, hG, hA⟩ := F
  obtain ⟨pc, i, len, x, tgt, cst, D, P⟩ := en
  intro H locs lr hP hD hS hl hlen
  change va_P (dC, dI) vwCl (ev_cw ρ cA 0 h) H at hP
  change va_D A (ev_cw ρ cA 0 h) at hD
  change W p l e R s m args below meth c H locs 0 0 _ (F0 m pc lr (st.map (ev_cv ρ)))
  have fin : ∀ (v : Option Value) (t : State), t.heap = H → ev_Qc ρ cA dC dI h0 s.heap.size (v, h) args s (.returned (v.map (ev_cv ρ))) t := by
    intro v t ht
    refine ⟨⟨rfl, by rw [ht]; exact hP, ?_⟩, ?_⟩
    · rw [hAe]; exact hD
    · rw [hAe]; exact hS.F ht
  cases i with
  | return_ =>
    simp only [ev_ok, Bool.and_eq_true, decide_eq_true_eq] at hok
    obtain ⟨hd, rfl⟩ := hok
    simp only [ev_o5] at ho
    split at ho
    · cases ho
      exact W.vret hx hb hr (fun t ht _ => fin none t ht) hS.2.2 hd
    · cases ho
  | ireturn =>
    simp only [ev_ok, Bool.and_eq_true, decide_eq_true_eq] at hok
    obtain ⟨hd, rfl⟩ := hok
    simp only [ev_o5] at ho
    split at ho
    · rename_i v
      cases ho
      exact W.iret (v := v) hx hb hr (fun t ht _ => fin (some (.int v)) t ht) hS.2.2 hd
    · rename_i v
      split at ho
      · rename_i hv
        cases ho
        exact W.zret (v := v) (ty := .boolean) hx hb hr (by rcases hv with rfl | rfl <;> decide +kernel) (fun t ht _ => fin (some (.int v)) t ht) hS.2.2 hd
      · cases ho
    · rename_i v
      split at ho
      · rename_i hv
        cases ho
        exact W.zret (v := v) (ty := .byte) hx hb hr (by subst hv; decide +kernel) (fun t ht _ => fin (some (.int v)) t ht) hS.2.2 hd
      · cases ho
    · cases ho
  | lreturn =>
    simp only [ev_ok, Bool.and_eq_true, decide_eq_true_eq] at hok
    obtain ⟨hd, rfl⟩ := hok
    simp only [ev_o5] at ho
    split at ho
    · rename_i v
      cases ho
      exact W.lret (v := v) hx hb hr (fun t ht _ => fin (some (.long v)) t ht) hS.2.2 hd
    · cases ho
  | areturn =>
    simp only [ev_ok, Bool.and_eq_true, decide_eq_true_eq] at hok
    obtain ⟨hd, rfl⟩ := hok
    simp only [ev_o5] at ho
    split at ho
    · rename_i a nm
      cases ho
      exact W.aret (v := .ref (ρ a)) hx hb hr (Or.inl ⟨_, rfl⟩) (Or.inr ⟨_, rfl⟩) (fun t ht _ => fin (some (.ref a)) t ht) hS.2.2 hd
    · cases ho
      exact W.aret (v := .null) hx hb hr (Or.inl ⟨_, rfl⟩) (Or.inl rfl) (fun t ht _ => fin (some .null) t ht) hS.2.2 hd
    · cases ho
  | invokestatic n =>
    simp only [ev_o5] at ho
    split at ho
    · split at ho <;> cases ho
    · split at ho <;> cases ho
    · split at ho <;> cases ho
    · split at ho
      · split at ho <;> cases ho
      · cases ho
    · split at ho <;> cases ho
    · cases ho
  | _ => simp [ev_o5] at ho
theorem ev_natw : nativeFrameWords "java/lang/System" "arraycopy" 5 + 11 ≤ 32 := by decide +kernel
set_option maxHeartbeats 4000000 in
theorem ev_snd5 (F : ev_Fx p s m args c own cc nL ρ cA dC dI A) (hR : 1 ≤ R.frames ∧ 40 ≤ R.locals) {rt : Option FieldType} {en : ev_E} (hok : ev_ok mt own cc en = true) {ls : ev_L} {st : List Value} {h : ev_H} {t : ev_S} (ho : ev_o5 rt en ls st h = some (.inl t)) (k : ev_Wc p l e R s m args below meth c Q nL ρ cA dC dI A t) : ev_Wc p l e R s m args below meth c Q nL ρ cA dC dI A (en.1, ls, st, h) := by
  obtain ⟨hx, hb, hml, hown, hts, hK, hG, hA⟩ := F
  obtain ⟨pc, i, len, x, tgt, cst, D, P⟩ := en
  intro H locs lr hP hD hS hl hlen
  change va_P (dC, dI) vwCl (ev_cw ρ cA 0 h) H at hP
  change va_D A (ev_cw ρ cA 0 h) at hD
  change lv_has lr nL (ev_la ρ 0 ls) at hl
  change ls.length = nL at hlen
  change W p l e R s m args below meth c H locs 0 0 Q (F0 m pc lr (st.map (ev_cv ρ)))
  have hsz : c.maxLocals = lr.size := hml.trans hl.1.symm
  cases i with
  | invokestatic n =>
    simp only [ev_o5] at ho
    split at ho
    · rename_i b a r
      simp only [ev_ok, Bool.and_eq_true, decide_eq_true_eq] at hok
      obtain ⟨hd, rfl, w1, w2, w3, w4⟩ := hok
      split at ho
      · rename_i hc
        simp only [ev_j, Option.some.injEq, Sum.inl.injEq] at ho
        subst ho
        exact va_mmin hx hb hsz hown (hts _ (ev_w_in w1)) (hts _ (ev_w_in w2)) (hts _ (ev_w_in w3)) (hts _ (ev_w_in w4)) hR.1 (by rw [ev_cat_cv]; omega) (Nat.zero_le _) (Nat.zero_le _) hd (k H locs lr hP hD hS hl hlen)
      · cases ho
    · rename_i b a r
      simp only [ev_ok, Bool.and_eq_true, decide_eq_true_eq] at hok
      obtain ⟨hd, rfl, w1, w2, w3, w4⟩ := hok
      split at ho
      · rename_i hc
        simp only [ev_j, Option.some.injEq, Sum.inl.injEq] at ho
        subst ho
        exact va_mmax_long hx hb hsz hown (hts _ (ev_w_in w1)) (hts _ (ev_w_in w2)) (hts _ (ev_w_in w3)) (hts _ (ev_w_in w4)) hR.1 (by rw [ev_cat_cv]; omega) (Nat.zero_le _) (Nat.zero_le _) hd (k H locs lr hP hD hS hl hlen)
      · cases ho
    · rename_i a r
      simp only [ev_ok, Bool.and_eq_true, decide_eq_true_eq] at hok
      obtain ⟨hd, rfl, w1, w2, w3, w4⟩ := hok
      split at ho
      · rename_i hc
        simp only [ev_j, Option.some.injEq, Sum.inl.injEq] at ho
        subst ho
        exact va_mabs hx hb hsz hown (hts _ (ev_w_in w1)) (hts _ (ev_w_in w2)) (hts _ (ev_w_in w3)) (hts _ (ev_w_in w4)) hR.1 (by rw [ev_cat_cv]; omega) (Nat.zero_le _) (Nat.zero_le _) hd (k H locs lr hP hD hS hl hlen)
      · cases ho
    · rename_i n' dp b sp a r
      simp only [ev_ok, Bool.and_eq_true, decide_eq_true_eq] at hok
      obtain ⟨hd, rfl, w1, w2, w3, w4⟩ := hok
      split at ho
      · rename_i n0 f n1 g hga hgb
        split at ho
        · rename_i hc
          obtain ⟨c1, c2, c3, c4, c5, c6⟩ := hc
          simp only [ev_j, Option.some.injEq, Sum.inl.injEq] at ho
          subst ho
          obtain ⟨ja, hja, -⟩ := ev_at ρ cA hga
          obtain ⟨jb, hjb, hset⟩ := ev_at ρ cA hgb
          refine va_copyl (ty := .long) hx hb hsz hown (hts _ (ev_w_in w1)) (hts _ (ev_w_in w4)) (hts _ (ev_w_in w2)) (hts _ (ev_w_in w3)) hK hP hD hS ja jb 1 1 hja hjb rfl rfl rfl c2 c3 c4 c5 c6 (fun _ _ => rfl) hR.1 (by rw [ev_cat_cv]; have := ev_natw; omega) hd (fun H1 locs1 hP1 hD1 hS1 => ?_)
          refine k H1 locs1 lr ?_ ?_ hS1 hl hlen
          · have h9 := hset (.inl (1, n1, .inr (.inl (va_cpy f g sp.toNatClampNeg dp.toNatClampNeg n'.toNatClampNeg))))
            exact h9 ▸ hP1
          · have h9 := hset (.inl (1, n1, .inr (.inl (va_cpy f g sp.toNatClampNeg dp.toNatClampNeg n'.toNatClampNeg))))
            exact h9 ▸ hD1
        · cases ho
      · cases ho
    · rename_i b a r
      simp only [ev_ok, Bool.and_eq_true, decide_eq_true_eq] at hok
      obtain ⟨hd, rfl, w1, w2, w3, w4⟩ := hok
      split at ho
      · rename_i hc
        simp only [ev_j, Option.some.injEq, Sum.inl.injEq] at ho
        subst ho
        exact va_mmax hx hb hsz hown (hts _ (ev_w_in w1)) (hts _ (ev_w_in w2)) (hts _ (ev_w_in w3)) (hts _ (ev_w_in w4)) hR.1 (by rw [ev_cat_cv]; omega) (Nat.zero_le _) (Nat.zero_le _) hd (k H locs lr hP hD hS hl hlen)
      · cases ho
    · cases ho
  | return_ => simp only [ev_o5] at ho; split at ho <;> cases ho
  | ireturn =>
    simp only [ev_o5] at ho
    split at ho
    · cases ho
    · split at ho <;> cases ho
    · split at ho <;> cases ho
    · cases ho
  | lreturn => simp only [ev_o5] at ho; split at ho <;> cases ho
  | areturn => simp only [ev_o5] at ho; split at ho <;> cases ho
  | _ => simp [ev_o5] at ho
end EVS
end
section
section EVS
variable {p : Program} {l : Launch} {e : Env} {R : Room} {s : State} {m : MethodId} {args : Array Value} {below : List Frame} {meth : Method} {c : Code} {Q : State → Prop} {own : String} {cc : ByteArray} {nL : Nat} {ρ : Nat → Nat} {cA : Nat → ClassId} {dC : Nat → ClassId} {dI : Nat → Nat → Nat} {A : Nat → Prop} {mt : List ev_MI}
/-- behind a call, whatever it answers -/
theorem ev_callg {H H0 : Heap} {locs : List Loc} {pc : Nat} {ls : Array Slot} {st0 rest : List Value} {A0 A1 free : Nat → Prop} {B : State → Prop} {v : Option Value} (hr : va_Run p l e R s m args below meth c H locs 0 0 0 0 (F0 m pc ls st0) rest (fun st oc t => (oc = .returned v ∧ B t) ∧ va_F A1 st t) free) (hS : va_S A0 H0 H locs) (hA : ∀ q, q < H.size → A1 q → A0 q) (hf : ∀ q, free q → A0 q)
    (kk : ∀ (t : State) (H1 : Heap) (locs1 : List Loc), t.heap = H1 → B t → va_S A0 H0 H1 locs1 → W p l e R s m args below meth c H1 locs1 0 0 Q (F0 m (pc + 3) ls (v.toList ++ rest))) : W p l e R s m args below meth c H locs 0 0 Q (F0 m pc ls st0) := by
  intro T hT X
  obtain ⟨v', st₀, t, T', L, h0, X', hL, e1, e2, ⟨⟨hv, hb⟩, hz, hk⟩, st⟩ := hr T hT X
  cases hv
  rw [h0] at hz hk
  obtain ⟨t2, a1, b1⟩ := kk t T'.heap (locs ++ L) e1.symm hb
    ⟨Nat.le_trans hS.1 (by rw [e1]; exact hz), fun q h1 h2 => by rw [e1, hk q (Nat.lt_of_lt_of_le h1 hS.1) (fun z => h2 (hA q (Nat.lt_of_lt_of_le h1 hS.1) z))]; exact hS.2.1 q h1 h2, fun q hq => by
      rcases List.mem_append.mp hq with h | h
      · exact hS.2.2 q h
      · exact hf _ (hL q h)⟩ T' rfl X'
  exact ⟨t2, st t2 a1, b1⟩
theorem ev_room1 {d nY : Nat} (h : nY ≤ 21) : (ev_rm d).frames + 1 ≤ (ev_rm (d + 1)).frames ∧ 8 + (nY + 11) + (ev_rm d).locals ≤ (ev_rm (d + 1)).locals := by
  unfold ev_rm
  exact ⟨Nat.le_refl _, by dsimp only; omega⟩
set_option maxHeartbeats 4000000 in
theorem ev_sndC {d : Nat} (F : ev_Fx p s m args c own cc nL ρ cA dC dI A) {en : ev_E} (hok : ev_ok mt own cc en = true) {ls : ev_L} {st : List Value} {h : ev_H} {k : Nat} {as rest : List Value} {z : ev_Z} (ho : ev_inv en st h = some (k, as, rest))
    (hM : ∀ (o : String) (y : MethodName) (cY : ByteArray) (nY : Nat) (rY : Option FieldType) (I : List ev_E) (PM : List Nat), mt[k]? = some (o, y, cY, nY, rY, I, PM) → ∀ sz, Met l y (Cond.code y cY nY rY :: ev_tb) (ev_rm d) (ev_Pc ρ cA dC dI as h sz) (ev_Qc ρ cA dC dI h sz z) 0 0 (va_A (ev_cw ρ cA 0 h) sz))
    (next : ev_Wc p l e (ev_rm (d + 1)) s m args below meth c Q nL ρ cA dC dI A (en.1 + 3, ls, z.1.toList ++ rest, z.2)) : ev_Wc p l e (ev_rm (d + 1)) s m args below meth c Q nL ρ cA dC dI A (en.1, ls, st, h) := by
  obtain ⟨hx, hb, hml, hown, hts, hK, hG, hA⟩ := F
  obtain ⟨pc, i, len, x, tgt, cst, D, P⟩ := en
  intro H locs lr hP hD hS hl hlen
  change va_P (dC, dI) vwCl (ev_cw ρ cA 0 h) H at hP
  change va_D A (ev_cw ρ cA 0 h) at hD
  change lv_has lr nL (ev_la ρ 0 ls) at hl
  change ls.length = nL at hlen
  change W p l e (ev_rm (d + 1)) s m args below meth c H locs 0 0 Q (F0 m pc lr (st.map (ev_cv ρ)))
  have hsub : ∀ q, va_A (ev_cw ρ cA 0 h) H.size q → A q := by
    intro q hq
    rcases hq with ⟨j, e0, hj⟩ | hq
    · exact hD.2 j _ hj
    · exact hA q (Nat.le_trans hS.1 hq)
  have hG2 : ∀ U : State, U.heap = H → s.WarmedH U.vm → ev_G ρ (va_A (ev_cw ρ cA 0 h) H.size) U U.heap := fun U hU hW => by
    rw [hU]
    exact ((hG.kept hS.2.1).warm hW).narrow hsub
  have hpre : ∀ U : State, U.heap = H → s.WarmedH U.vm → ev_Pc ρ cA dC dI as h H.size (as.map (ev_cv ρ)).toArray U := fun U hU hW =>
    ⟨rfl, by rw [hU], by rw [hU]; exact hP, va_K.moved hW.alike hK, hD.weaken (fun _ _ _ _ => trivial), hG2 U hU hW⟩
  have after : ∀ (st0 rest' : List Value), rest' = rest.map (ev_cv ρ) → va_Run p l e (ev_rm (d + 1)) s m args below meth c H locs 0 0 0 0 (F0 m pc lr st0) rest' (ev_Qc ρ cA dC dI h H.size z (as.map (ev_cv ρ)).toArray) (va_A (ev_cw ρ cA 0 h) H.size) → W p l e (ev_rm (d + 1)) s m args below meth c H locs 0 0 Q (F0 m pc lr st0) := by
    intro st0 rest' hrest hrun
    subst hrest
    refine ev_callg (A1 := va_A (ev_cw ρ cA 0 h) H.size) (B := fun t => va_P (dC, dI) vwCl (ev_cw ρ cA 0 z.2) t.heap ∧ va_D (va_A (ev_cw ρ cA 0 h) H.size) (ev_cw ρ cA 0 z.2)) (v := z.1.map (ev_cv ρ)) hrun hS (fun q _ => hsub q) hsub (fun t H1 locs1 ht hB hS1 => ?_)
    have n1 := next H1 locs1 lr (by rw [← ht]; exact hB.1) (hB.2.weaken (fun _ q _ hq => hsub q.1 hq)) hS1 hl hlen
    refine W.eq ?_ n1
    show F0 m (pc + 3) lr _ = F0 m (pc + 3) lr _
    congr 1
    show (z.1.map (ev_cv ρ)).toList ++ rest.map (ev_cv ρ) = (z.1.toList ++ rest).map (ev_cv ρ)
    rw [List.map_append]
    congr 1
    cases z.1 <;> rfl
  cases i with
  | invokestatic n =>
    simp only [ev_inv] at ho
    split at ho
    · rename_i hc
      obtain ⟨c1, c2, c3⟩ := hc
      split at ho
      · rename_i k' hk
        simp only [Option.some.injEq, Prod.mk.injEq] at ho
        obtain ⟨rfl, rfl, rfl⟩ := ho
        have hok2 : decode cc pc = .ok (.invokestatic n, len) ∧ len = 3 ∧ ev_okS mt own n x D P = true := by
          simp only [ev_ok, Bool.and_eq_true, decide_eq_true_eq] at hok
          refine ⟨hok.1, hok.2.1, ?_⟩
          have h3 := hok.2.2
          split at h3
          all_goals first | exact h3 | omega
        obtain ⟨hd, rfl, hS1⟩ := hok2
        unfold ev_okS at hS1
        split at hS1
        · rename_i k2
          have e2 : k2 = k' := by
            simp only [List.lookup_cons_self, Option.some.injEq] at hk
            exact hk
          subst e2
          split at hS1
          · rename_i o y cY nY rY I PM hmi
            simp only [Bool.and_eq_true, Bool.or_eq_true, decide_eq_true_eq, ev_pn] at hS1
            obtain ⟨hpn, w0, hnl, w1, w2, w3⟩ := hS1
            have hMt := hM o y cY nY rY I PM hmi H.size
            have hlen2 : ((List.take x st).reverse.map (ev_cv ρ)).length = x := by simp; omega
            have hst : st.map (ev_cv ρ) = ((List.take x st).reverse.map (ev_cv ρ)).reverse ++ (List.drop x st).map (ev_cv ρ) := by
              rw [← List.map_reverse, List.reverse_reverse, ← List.map_append, List.take_append_drop]
            have hcat : 2 * (F0 m pc lr (st.map (ev_cv ρ))).monitorRoom + (((List.drop x st).map (ev_cv ρ)).map fun v => v.category).sum ≤ 8 := lv_room (by rw [ev_cat_cv]; exact c3)
            have hgi : ∀ w ∈ Cond.code y cY nY rY :: ev_tb, w ∈ ev_tb := by
              intro w hw
              rcases List.mem_cons.mp hw with rfl | hw
              · exact ev_w_in w0
              · exact hw
            refine after _ _ rfl ?_
            rcases w3 with w3 | w3
            · have hgood : GoodIn ev_tb (va_wsS own n y (Cond.code y cY nY rY :: ev_tb)) := ev_goodIn (by
                intro w hw
                unfold va_wsS at hw
                rcases List.mem_append.mp hw with hw | hw
                · simp only [List.mem_cons, List.not_mem_nil, or_false] at hw
                  rcases hw with rfl | rfl | rfl
                  · exact ev_w_in w3
                  · exact ev_w_in w1
                  · exact ev_w_in w2
                · exact hgi w hw)
              exact va_runS (As := (List.take x st).reverse.map (ev_cv ρ)) ⟨hx, hb, hml, hown, hts⟩ hMt (va_cwS x hts hgood rfl rfl rfl hpn (ev_room1 hnl)) ⟨ev_Pc_blind, hpre⟩ rfl hlen2 hl.1 hst hcat hd ⟨Nat.le_refl _, Nat.le_refl _⟩
            · have hnw := hG.2.2.1 _ w3
              exact va_runSN (host := "WithEyesBound") (As := (List.take x st).reverse.map (ev_cv ρ)) ⟨hx, hb, hml, hown, hts⟩ hMt ⟨va_cnB x hts (ev_goodIn hgi) rfl rfl rfl hnw (hts _ (ev_w_in w2)) hpn (ev_room1 hnl), hts _ (ev_w_in w1), trivial⟩ ⟨ev_Pc_blind, hpre⟩ rfl hlen2 hl.1 hst hcat hd ⟨Nat.le_refl _, Nat.le_refl _⟩
          · cases hS1
        · cases hS1
      · cases ho
    · cases ho
  | invokevirtual n =>
    simp only [ev_ok, Bool.and_eq_true, decide_eq_true_eq] at hok
    obtain ⟨hd, rfl, hV⟩ := hok
    have key : ∀ (ci k' a : Nat) (r : List Value), st.drop x = .ref a :: r → x ≤ st.length → ev_cat r ≤ 8 → D.lookup ci = some k' → (∀ C, ev_cl ci = some C → ∃ cell : Cell, H[ρ a]? = some cell ∧ cell.vm.isStatics = false ∧ s.vm.findClass C = some cell.cls) → k = k' → as = .ref a :: (List.take x st).reverse → rest = r → W p l e (ev_rm (d + 1)) s m args below meth c H locs 0 0 Q (F0 m pc lr (st.map (ev_cv ρ))) := by
      intro ci k' a r hdrop c1 c3 hlk hrecv ek eas er
      subst ek
      subst er
      obtain ⟨C, P', hC, hV1⟩ := ev_okV_at hV hlk
      have hrc := hrecv C hC
      unfold ev_okV1 at hV1
      split at hV1
      · rename_i o y cY nY rY I PM hmi
        simp only [Bool.and_eq_true, decide_eq_true_eq, ev_pn] at hV1
        obtain ⟨hpn, w0, hnl, hV2⟩ := hV1
        have hMt := hM o y cY nY rY I PM hmi H.size
        have hlen2 : ((List.take x st).reverse.map (ev_cv ρ)).length = x := by simp; omega
        have hst : st.map (ev_cv ρ) = ((List.take x st).reverse.map (ev_cv ρ)).reverse ++ .ref (ρ a) :: rest.map (ev_cv ρ) := by
          rw [← List.map_reverse, List.reverse_reverse]
          show _ = (List.take x st).map (ev_cv ρ) ++ ((.ref a :: rest).map (ev_cv ρ))
          rw [← hdrop, ← List.map_append, List.take_append_drop]
        have hcat : 2 * (F0 m pc lr (st.map (ev_cv ρ))).monitorRoom + ((rest.map (ev_cv ρ)).map fun v => v.category).sum ≤ 8 := lv_room (by rw [ev_cat_cv]; exact c3)
        have hgi : ∀ w ∈ Cond.code y cY nY rY :: ev_tb, w ∈ ev_tb := by
          intro w hw
          rcases List.mem_cons.mp hw with rfl | hw
          · exact ev_w_in w0
          · exact hw
        have hpreV : PreV s H C (ρ a) (ev_Pc ρ cA dC dI as h H.size) ((List.take x st).reverse.map (ev_cv ρ)) := ⟨ev_Pc_blind, hrc, fun U hU hW => by
          have := hpre U hU hW
          rw [eas] at this
          rw [eas]
          exact this⟩
        refine after _ _ rfl ?_
        have eas2 : (as.map (ev_cv ρ)).toArray = (Value.ref (ρ a) :: (List.take x st).reverse.map (ev_cv ρ)).toArray := by rw [eas]; rfl
        rw [eas2]
        split at hV2
        · rename_i hcond
          obtain ⟨hyC, w1⟩ := hcond
          simp only [Bool.and_eq_true] at hV2
          obtain ⟨w2, w3, w4⟩ := hV2
          have hgood : GoodIn ev_tb (wsV own n C y (Cond.code y cY nY rY :: ev_tb)) := ev_goodIn (by
            intro w hw
            unfold wsV at hw
            rcases List.mem_append.mp hw with hw | hw
            · simp only [List.mem_cons, List.not_mem_nil, or_false] at hw
              rcases hw with rfl | rfl | rfl | rfl
              · exact ev_w_in w1
              · exact ev_w_in w2
              · exact ev_w_in w3
              · exact ev_w_in w4
            · exact hgi w hw)
          exact va_runV ⟨hx, hb, hml, hown, hts⟩ hMt (cwV x hts hgood rfl rfl rfl ⟨hyC, hpn⟩ (ev_room1 hnl)) hpreV rfl hlen2 hl.1 hst hcat hd ⟨Nat.le_refl _, Nat.le_refl _⟩
        · split at hV2
          · rename_i u1 u2 x0 hx0
            simp only [Bool.and_eq_true, Bool.or_eq_true, decide_eq_true_eq, ev_pn] at hV2
            obtain ⟨w1, w2, w3, w4, w5, hpx, hV3⟩ := hV2
            rcases hV3 with rfl | ⟨w6, hV4⟩
            · have hgood : GoodIn ev_tb (va_wsU own n C x0.cls x0 x0 (Cond.code x0 cY nY rY :: ev_tb)) := ev_goodIn (by
                intro w hw
                unfold va_wsU at hw
                rcases List.mem_append.mp hw with hw | hw
                · simp only [List.mem_cons, List.not_mem_nil, or_false] at hw
                  rcases hw with rfl | rfl | rfl | rfl | rfl
                  · exact ev_w_in w1
                  · exact ev_w_in w2
                  · exact ev_w_in w3
                  · exact ev_w_in w4
                  · exact ev_w_in w5
                · exact hgi w hw)
              exact va_runU ⟨hx, hb, hml, hown, hts⟩ hMt (va_cwU x hts hgood rfl rfl rfl rfl hpx (ev_room1 hnl)) hpreV rfl hlen2 hl.1 hst hcat hd ⟨Nat.le_refl _, Nat.le_refl _⟩
            · split at hV4
              · rename_i u3 b0 m0 r0 hcx
                have hgood : GoodIn ev_tb (va_wsO own n C x0.cls x0 y (Cond.code y cY nY rY :: ev_tb)) := ev_goodIn (by
                  intro w hw
                  unfold va_wsO at hw
                  rcases List.mem_append.mp hw with hw | hw
                  · simp only [List.mem_cons, List.not_mem_nil, or_false] at hw
                    rcases hw with rfl | rfl | rfl | rfl | rfl | rfl
                    · exact ev_w_in w1
                    · exact ev_w_in w2
                    · exact ev_w_in w6
                    · exact ev_w_in w3
                    · exact ev_w_in w4
                    · exact ev_w_in w5
                  · exact hgi w hw)
                exact va_runU ⟨hx, hb, hml, hown, hts⟩ hMt (va_cwO x hts hgood rfl rfl rfl (ev_w_in hV4) hpx (ev_room1 hnl)) hpreV rfl hlen2 hl.1 hst hcat hd ⟨Nat.le_refl _, Nat.le_refl _⟩
              · cases hV4
          · cases hV2
      · cases hV1
    simp only [ev_inv] at ho
    split at ho
    · rename_i a r hdrop
      split at ho
      · rename_i hc
        obtain ⟨c1, c2, c3⟩ := hc
        split at ho
        · rename_i ha
          split at ho
          · rename_i k' hk
            simp only [Option.some.injEq, Prod.mk.injEq] at ho
            refine key 2000 k' a r hdrop c1 c3 hk (fun C hC => ?_) ho.1.symm ho.2.1.symm ho.2.2.symm
            simp only [ev_cl, if_true, Option.some.injEq] at hC
            subst hC
            subst ha
            obtain ⟨cell, h1, h2, h3, -⟩ := hG.2.1.2.1.kept hS.2.1
            exact ⟨cell, h1, h2, h3⟩
          · cases ho
        · split at ho
          · rename_i ci fs hg
            split at ho
            · rename_i k' hk
              simp only [Option.some.injEq, Prod.mk.injEq] at ho
              refine key ci k' a r hdrop c1 c3 hk (fun C hC => ?_) ho.1.symm ho.2.1.symm ho.2.2.symm
              obtain ⟨j, hj, -⟩ := ev_at ρ cA hg
              unfold ev_cl at hC
              split at hC
              · rename_i h2000
                obtain ⟨q, hq, -⟩ := (hP j _ hj)
                rw [show (ev_ce ρ cA (Sum.inr (ci, fs)) : va_E) = Sum.inr (ci, fs.map (ev_cv ρ)) from rfl] at hj
                have : vwCl[ci]? = some q := hq
                rw [h2000] at this
                simp [vwCl] at this
              · rw [Option.map_eq_some_iff] at hC
                obtain ⟨q, hq, rfl⟩ := hC
                exact va_recv hK hP hq hj
            · cases ho
          · cases ho
      · cases ho
    · cases ho
  | _ => simp [ev_inv] at ho
end EVS
end
section
/-! ===== a method's run in the abstract machine; the whole soundness ===== -/
def ev_M (mt : List ev_MI) : Nat → Nat → List Value → ev_H → ev_Z → Prop
  | 0, _, _, _, _ => False
  | d + 1, k, as, h, z => ∃ (o : String) (y : MethodName) (cc : ByteArray) (nL : Nat) (rt : Option FieldType) (I : List ev_E) (PM : List Nat), mt[k]? = some (o, y, cc, nL, rt, I, PM) ∧ (ev_sl as).length ≤ nL ∧ ∃ n, ev_R (ev_M mt d) rt I n (0, ev_ent nL as, [], h) z
theorem ev_n1 {e : ev_E} {ls : ev_L} {st : List Value} {h : ev_H} {z : ev_Z} : ev_o1 e ls st h ≠ some (.inr z) := by
  intro q
  unfold ev_o1 at q
  repeat' split at q
  all_goals first | cases q | (simp [ev_j] at q; done)
theorem ev_n2 {e : ev_E} {ls : ev_L} {st : List Value} {h : ev_H} {z : ev_Z} : ev_o2 e ls st h ≠ some (.inr z) := by
  intro q
  unfold ev_o2 at q
  repeat' split at q
  all_goals first | cases q | (simp [ev_j] at q; done)
theorem ev_n3 {e : ev_E} {ls : ev_L} {st : List Value} {h : ev_H} {z : ev_Z} : ev_o3 e ls st h ≠ some (.inr z) := by
  intro q
  unfold ev_o3 at q
  repeat' split at q
  all_goals first | cases q | (simp [ev_j] at q; done)
theorem ev_n4 {e : ev_E} {ls : ev_L} {st : List Value} {h : ev_H} {z : ev_Z} : ev_o4 e ls st h ≠ some (.inr z) := by
  intro q
  unfold ev_o4 at q
  repeat' split at q
  all_goals first | cases q | (simp [ev_j] at q; done)
theorem ev_one_of {rt : Option FieldType} {e : ev_E} {ls : ev_L} {st : List Value} {h : ev_H} {r : ev_S ⊕ ev_Z} (q : ev_one rt e ls st h = some r) : ev_o1 e ls st h = some r ∨ ev_o2 e ls st h = some r ∨ ev_o3 e ls st h = some r ∨ ev_o4 e ls st h = some r ∨ ev_o5 rt e ls st h = some r := by
  unfold ev_one at q
  split at q
  all_goals first | exact Or.inl q | exact Or.inr (Or.inl q) | exact Or.inr (Or.inr (Or.inl q)) | exact Or.inr (Or.inr (Or.inr (Or.inl q))) | exact Or.inr (Or.inr (Or.inr (Or.inr q)))
theorem ev_find_in : ∀ {I : List ev_E} {pc : Nat} {e : ev_E}, ev_find I pc = some e → e ∈ I ∧ e.1 = pc
  | [], _, _, h => by cases h
  | a :: r, pc, e, h => by
    unfold ev_find at h
    split at h
    · rename_i hp
      cases h
      exact ⟨List.mem_cons_self, hp⟩
    · exact ⟨List.mem_cons_of_mem _ (ev_find_in h).1, (ev_find_in h).2⟩
section EVS
variable {p : Program} {l : Launch} {e : Env} {s : State} {m : MethodId} {args : Array Value} {below : List Frame} {meth : Method} {c : Code} {own : String} {cc : ByteArray} {nL : Nat} {ρ : Nat → Nat} {cA : Nat → ClassId} {dC : Nat → ClassId} {dI : Nat → Nat → Nat} {A : Nat → Prop} {mt : List ev_MI}
theorem ev_sndN {d : Nat} (F : ev_Fx p s m args c own cc nL ρ cA dC dI A) {rt : Option FieldType} (hr : meth.sig.returnType = rt) (hlocks : meth.locks = false) {h0 : ev_H} (hAe : va_A (ev_cw ρ cA 0 h0) s.heap.size = A) {I : List ev_E} (hI : ∀ en ∈ I, ev_ok mt own cc en = true)
    (ih : ∀ k as h z, ev_M mt d k as h z → ∀ (o : String) (y : MethodName) (cY : ByteArray) (nY : Nat) (rY : Option FieldType) (I : List ev_E) (PM : List Nat), mt[k]? = some (o, y, cY, nY, rY, I, PM) → ∀ sz, Met l y (Cond.code y cY nY rY :: ev_tb) (ev_rm d) (ev_Pc ρ cA dC dI as h sz) (ev_Qc ρ cA dC dI h sz z) 0 0 (va_A (ev_cw ρ cA 0 h) sz)) :
    ∀ (n : Nat) (t : ev_S) (z : ev_Z), ev_R (ev_M mt d) rt I n t z → ev_Wc p l e (ev_rm (d + 1)) s m args below meth c (MQ below (ev_Qc ρ cA dC dI h0 s.heap.size z) args s 0 0 A) nL ρ cA dC dI A t
  | 0, t, z, h => by cases h
  | n + 1, (pc, ls, st, h), z, hrun => by
    obtain ⟨en, hf, hcase⟩ := hrun
    obtain ⟨hin, hpc⟩ := ev_find_in hf
    subst hpc
    have hok := hI en hin
    rcases hcase with ⟨t', h1, h2⟩ | h1 | ⟨k, as, rest, z', h1, h2, h3⟩
    · have hnext := ev_sndN F hr hlocks hAe hI ih n t' z h2
      rcases ev_one_of h1 with q | q | q | q | q
      · exact ev_snd1 F hok q hnext
      · exact ev_snd2 F hok q hnext
      · exact ev_snd3 F hok q hnext
      · exact ev_snd4 F hok q hnext
      · exact ev_snd5 F ⟨by unfold ev_rm; exact Nat.succ_le_succ (Nat.zero_le _), by unfold ev_rm; dsimp only; omega⟩ hok q hnext
    · rcases ev_one_of h1 with q | q | q | q | q
      · exact absurd q ev_n1
      · exact absurd q ev_n2
      · exact absurd q ev_n3
      · exact absurd q ev_n4
      · exact ev_sndR F hr hlocks hAe hok q
    · exact ev_sndC F hok h1 (fun o y cY nY rY I PM hmi sz => ih k as h z' h2 o y cY nY rY I PM hmi sz) (ev_sndN F hr hlocks hAe hI ih n _ z h3)
theorem ev_sound (hmt : mt.all (ev_okM mt) = true) (l : Launch) (ρ : Nat → Nat) (cA : Nat → ClassId) (dC : Nat → ClassId) (dI : Nat → Nat → Nat) : ∀ (d k : Nat) (as : List Value) (h : ev_H) (z : ev_Z), ev_M mt d k as h z → ∀ (o : String) (y : MethodName) (cY : ByteArray) (nY : Nat) (rY : Option FieldType) (I : List ev_E) (PM : List Nat), mt[k]? = some (o, y, cY, nY, rY, I, PM) → ∀ sz, Met l y (Cond.code y cY nY rY :: ev_tb) (ev_rm d) (ev_Pc ρ cA dC dI as h sz) (ev_Qc ρ cA dC dI h sz z) 0 0 (va_A (ev_cw ρ cA 0 h) sz)
  | 0, k, as, h, z, hm => by cases hm
  | d + 1, k, as, h, z, hm => by
    intro o y cY nY rY I PM hmi sz
    obtain ⟨o', y', cY', nY', rY', I', PM', hmi', hlen, n, hrun⟩ := hm
    rw [hmi] at hmi'
    cases hmi'
    have hq := List.all_eq_true.mp hmt _ (List.mem_of_getElem? hmi)
    simp only [ev_okM, Bool.and_eq_true, decide_eq_true_eq] at hq
    obtain ⟨hyo, hcode, hplain, hI⟩ := hq
    refine Met.ofW (cc := cY) (maxL := nY) (ret := rY) hplain rfl ?_
    intro p e s m args below meth c s₁ B hml hv
    obtain ⟨rfl, hsz, hP, hK, hD0, hG⟩ := hv
    subst hsz
    have hts := atoms_spec (ws := Cond.code y cY nY rY :: ev_tb) B.pre
    have hown : s.vm.findClass o = some m.cls := by rw [← hyo]; exact findClass_of_methodNamed B.named
    have hD := hD0.self (sz := s.heap.size)
    have F : ev_Fx p s m (as.map (ev_cv ρ)).toArray c o cY nY ρ cA dC dI (va_A (ev_cw ρ cA 0 h) s.heap.size) := ⟨B.exec, B.bytes, hml, hown, fun w hw => hts w (List.mem_cons_of_mem _ hw), hK, hG, fun q hq => Or.inr hq⟩
    have hl := lv_entry (as.map (ev_cv ρ)) (n := nY) (by rw [ev_sl_len]; exact hlen)
    rw [lg_entry_eq]
    have key := ev_sndN (below := below) (e := e) F B.returns B.notSynchronized rfl (fun en hin => List.all_eq_true.mp hI en hin) (fun k as h z hm => ev_sound hmt l ρ cA dC dI d k as h z hm) n _ z hrun
    exact key s.heap [] _ hP hD va_S.rf (ev_has_mono hl (ev_ent_sub ρ nY as)) (ev_ent_len hlen)
end EVS
end
section
/-! ===== THE METHODS as tables (by program) ===== -/
def eiX0_kind : List ev_E := [(0, .iconst 5, 1, 0, 0, .int (5), [], []),
  (1, .ireturn, 1, 0, 0, .null, [], [])]
def miX0_kind : ev_MI := (RX0, yX0_kind, cX0_kind, 1, (some .int), eiX0_kind, [789])
def eiX0_goOn : List ev_E := [(0, .aload_n 0, 1, 0, 0, .null, [], []),
  (1, .aload_n 1, 1, 1, 0, .null, [], []),
  (2, .aload_n 0, 1, 0, 0, .null, [], []),
  (3, .getfield 9, 3, 2, 0, .null, [(0, 0), (1, 0), (2, 0), (6, 0), (9, 0), (10, 0)], [668, 669]),
  (6, .iload_n 2, 1, 2, 0, .null, [], []),
  (7, .getstatic 15, 3, 0, 0, .ref 1001, [], []),
  (10, .iload 4, 2, 4, 0, .null, [], []),
  (12, .iconst 3, 1, 0, 0, .int (3), [], []),
  (13, .iand, 1, 0, 0, .null, [], []),
  (14, .iaload, 1, 1, 0, .null, [], []),
  (15, .isub, 1, 0, 0, .null, [], []),
  (16, .iload_n 3, 1, 3, 0, .null, [], []),
  (17, .getstatic 19, 3, 0, 0, .ref 1002, [], []),
  (20, .iload 4, 2, 4, 0, .null, [], []),
  (22, .iconst 3, 1, 0, 0, .int (3), [], []),
  (23, .iand, 1, 0, 0, .null, [], []),
  (24, .iaload, 1, 1, 0, .null, [], []),
  (25, .isub, 1, 0, 0, .null, [], []),
  (26, .iconst 1, 1, 0, 0, .int (1), [], []),
  (27, .invokevirtual 22, 3, 4, 0, .null, [(7, 66)], [837, 838, 839, 59, 0, 0, 0, 0]),
  (30, .putfield 9, 3, 2, 0, .null, [(0, 0), (1, 0), (2, 0), (6, 0), (9, 0), (10, 0)], [668, 669]),
  (33, .return_, 1, 0, 0, .null, [], [])]
def miX0_goOn : ev_MI := (RX0, yX0_goOn, cX0_goOn, 5, none, eiX0_goOn, [834])
def eiX1_kind : List ev_E := [(0, .iconst 3, 1, 0, 0, .int (3), [], []),
  (1, .ireturn, 1, 0, 0, .null, [], [])]
def miX1_kind : ev_MI := (RX1, yX1_kind, cX1_kind, 1, (some .int), eiX1_kind, [792])
def eiX1_callsFrom : List ev_E := [(0, .aload_n 0, 1, 0, 0, .null, [], []),
  (1, .getfield 9, 3, 2, 0, .null, [(0, 0), (1, 0), (2, 0), (6, 0), (9, 0), (10, 0)], [666, 667]),
  (4, .ireturn, 1, 0, 0, .null, [], [])]
def miX1_callsFrom : ev_MI := (RX1, yX1_callsFrom, cX1_callsFrom, 2, (some .int), eiX1_callsFrom, [866])
def eiX2_kind : List ev_E := [(0, .iconst 4, 1, 0, 0, .int (4), [], []),
  (1, .ireturn, 1, 0, 0, .null, [], [])]
def miX2_kind : ev_MI := (RX2, yX2_kind, cX2_kind, 1, (some .int), eiX2_kind, [795])
def eiX2_callsFrom : List ev_E := [(0, .aload_n 1, 1, 1, 0, .null, [], []),
  (1, .getfield 9, 3, 4, 0, .null, [(7, 0)], [122]),
  (4, .iconst 1, 1, 0, 0, .int (1), [], []),
  (5, .isub, 1, 0, 0, .null, [], []),
  (6, .aload_n 0, 1, 0, 0, .null, [], []),
  (7, .getfield 15, 3, 2, 0, .null, [(0, 0), (1, 0), (2, 0), (6, 0), (9, 0), (10, 0)], [672, 673]),
  (10, .isub, 1, 0, 0, .null, [], []),
  (11, .ireturn, 1, 0, 0, .null, [], [])]
def miX2_callsFrom : ev_MI := (RX2, yX2_callsFrom, cX2_callsFrom, 2, (some .int), eiX2_callsFrom, [869])
def eiX3_changeJackets : List ev_E := [(0, .aload_n 0, 1, 0, 0, .null, [], []),
  (1, .iload_n 1, 1, 1, 0, .null, [], []),
  (2, .putfield 22, 3, 5, 0, .null, [(3, 0)], [226]),
  (5, .aload_n 0, 1, 0, 0, .null, [], []),
  (6, .iload_n 2, 1, 2, 0, .null, [], []),
  (7, .putfield 25, 3, 6, 0, .null, [(3, 0)], [227]),
  (10, .aload_n 0, 1, 0, 0, .null, [], []),
  (11, .iload_n 3, 1, 3, 0, .null, [], []),
  (12, .putfield 38, 3, 7, 0, .null, [(3, 0)], [228]),
  (15, .return_, 1, 0, 0, .null, [], [])]
def miX3_changeJackets : ev_MI := (RX3, yX3_changeJackets, cX3_changeJackets, 4, none, eiX3_changeJackets, [460])
def eiX3_forgetJackets : List ev_E := [(0, .aload_n 0, 1, 0, 0, .null, [], []),
  (1, .iconst (-1), 1, 0, 0, .int (-1), [], []),
  (2, .iconst (-1), 1, 0, 0, .int (-1), [], []),
  (3, .iconst 0, 1, 0, 0, .int (0), [], []),
  (4, .invokevirtual 41, 3, 3, 0, .null, [(3, 6)], [457, 458, 459, 62, 0, 0, 0, 0]),
  (7, .return_, 1, 0, 0, .null, [], [])]
def miX3_forgetJackets : ev_MI := (RX3, yX3_forgetJackets, cX3_forgetJackets, 1, none, eiX3_forgetJackets, [456])
def eiX3_keep : List ev_E := [(0, .aload_n 0, 1, 0, 0, .null, [], []),
  (1, .aload_n 0, 1, 0, 0, .null, [], []),
  (2, .getfield 22, 3, 5, 0, .null, [(3, 0)], [226]),
  (5, .putfield 28, 3, 8, 0, .null, [(3, 0)], [229]),
  (8, .aload_n 0, 1, 0, 0, .null, [], []),
  (9, .aload_n 0, 1, 0, 0, .null, [], []),
  (10, .getfield 25, 3, 6, 0, .null, [(3, 0)], [227]),
  (13, .putfield 31, 3, 9, 0, .null, [(3, 0)], [230]),
  (16, .aload_n 0, 1, 0, 0, .null, [], []),
  (17, .aload_n 0, 1, 0, 0, .null, [], []),
  (18, .getfield 38, 3, 7, 0, .null, [(3, 0)], [228]),
  (21, .putfield 45, 3, 10, 0, .null, [(3, 0)], [231]),
  (24, .return_, 1, 0, 0, .null, [], [])]
def miX3_keep : ev_MI := (RX3, yX3_keep, cX3_keep, 1, none, eiX3_keep, [992])
def eiX3_takeKept : List ev_E := [(0, .aload_n 0, 1, 0, 0, .null, [], []),
  (1, .aload_n 0, 1, 0, 0, .null, [], []),
  (2, .getfield 28, 3, 8, 0, .null, [(3, 0)], [229]),
  (5, .aload_n 0, 1, 0, 0, .null, [], []),
  (6, .getfield 31, 3, 9, 0, .null, [(3, 0)], [230]),
  (9, .aload_n 0, 1, 0, 0, .null, [], []),
  (10, .getfield 45, 3, 10, 0, .null, [(3, 0)], [231]),
  (13, .invokevirtual 41, 3, 3, 0, .null, [(3, 6)], [457, 458, 459, 62, 0, 0, 0, 0]),
  (16, .return_, 1, 0, 0, .null, [], [])]
def miX3_takeKept : ev_MI := (RX3, yX3_takeKept, cX3_takeKept, 1, none, eiX3_takeKept, [1004])
def eiX3_weigh : List ev_E := [(0, .iconst 0, 1, 0, 0, .int (0), [], []),
  (1, .istore 4, 2, 4, 0, .null, [], []),
  (3, .iload 4, 2, 4, 0, .null, [], []),
  (5, .aload_n 0, 1, 0, 0, .null, [], []),
  (6, .getfield 9, 3, 1, 0, .null, [(3, 0)], [219]),
  (9, .arraylength, 1, 0, 0, .null, [], []),
  (10, .if_icmp .ge 85, 3, 0, 95, .null, [], []),
  (13, .iload 4, 2, 4, 0, .null, [], []),
  (15, .aload_n 0, 1, 0, 0, .null, [], []),
  (16, .getfield 34, 3, 0, 0, .null, [(3, 0)], [218]),
  (19, .arraylength, 1, 0, 0, .null, [], []),
  (20, .if_icmp .ge 75, 3, 0, 95, .null, [], []),
  (23, .aload_n 0, 1, 0, 0, .null, [], []),
  (24, .getfield 34, 3, 0, 0, .null, [(3, 0)], [218]),
  (27, .iload 4, 2, 4, 0, .null, [], []),
  (29, .aaload, 1, 0, 0, .null, [], []),
  (30, .astore 5, 2, 5, 0, .null, [], []),
  (32, .aload_n 0, 1, 0, 0, .null, [], []),
  (33, .getfield 9, 3, 1, 0, .null, [(3, 0)], [219]),
  (36, .iload 4, 2, 4, 0, .null, [], []),
  (38, .aload 5, 2, 5, 0, .null, [], []),
  (40, .ifnonnull 7, 3, 0, 47, .null, [], []),
  (43, .iconst 0, 1, 0, 0, .int (0), [], []),
  (44, .goto 44, 3, 0, 88, .null, [], []),
  (47, .aload_n 0, 1, 0, 0, .null, [], []),
  (48, .iload_n 1, 1, 1, 0, .null, [], []),
  (49, .aload 5, 2, 5, 0, .null, [], []),
  (51, .getfield 48, 3, 3, 0, .null, [(0, 0), (1, 0), (2, 0), (6, 0), (9, 0), (10, 0)], [676]),
  (54, .isub, 1, 0, 0, .null, [], []),
  (55, .invokevirtual 53, 3, 1, 0, .null, [(3, 11)], [942, 944, 14, 62, 0, 0, 0, 0]),
  (58, .aload_n 0, 1, 0, 0, .null, [], []),
  (59, .iload 4, 2, 4, 0, .null, [], []),
  (61, .iload_n 2, 1, 2, 0, .null, [], []),
  (62, .invokevirtual 57, 3, 2, 0, .null, [(3, 13)], [946, 948, 15, 62, 0, 0, 0, 0]),
  (65, .imul, 1, 0, 0, .null, [], []),
  (66, .iload_n 3, 1, 3, 0, .null, [], []),
  (67, .aload 5, 2, 5, 0, .null, [], []),
  (69, .getfield 61, 3, 5, 0, .null, [(0, 0), (1, 0), (2, 0), (6, 0), (9, 0), (10, 0)], [682]),
  (72, .if_icmp .ne 7, 3, 0, 79, .null, [], []),
  (75, .iconst 1, 1, 0, 0, .int (1), [], []),
  (76, .goto 4, 3, 0, 80, .null, [], []),
  (79, .iconst 0, 1, 0, 0, .int (0), [], []),
  (80, .aload_n 0, 1, 0, 0, .null, [], []),
  (81, .getfield 19, 3, 4, 0, .null, [(3, 0)], [224]),
  (84, .invokestatic 64, 3, 2, 0, .null, [(0, 12)], [954, 955, 62]),
  (87, .imul, 1, 0, 0, .null, [], []),
  (88, .iastore, 1, 0, 0, .null, [], []),
  (89, .iinc 4 1, 3, 4, 0, .int (1), [], []),
  (92, .goto (-89), 3, 0, 3, .null, [], []),
  (95, .return_, 1, 0, 0, .null, [], [])]
def miX3_weigh : ev_MI := (RX3, yX3_weigh, cX3_weigh, 6, none, eiX3_weigh, [941])
def eiX3_sizeWeight : List ev_E := [(0, .iload_n 1, 1, 1, 0, .null, [], []),
  (1, .ifCond .ne 15, 3, 0, 16, .null, [], []),
  (4, .bipush 10, 2, 0, 0, .int (10), [], []),
  (6, .iconst 2, 1, 0, 0, .int (2), [], []),
  (7, .aload_n 0, 1, 0, 0, .null, [], []),
  (8, .getfield 68, 3, 2, 0, .null, [(3, 0)], [220]),
  (11, .imul, 1, 0, 0, .null, [], []),
  (12, .isub, 1, 0, 0, .null, [], []),
  (13, .goto 21, 3, 0, 34, .null, [], []),
  (16, .iload_n 1, 1, 1, 0, .null, [], []),
  (17, .iconst 1, 1, 0, 0, .int (1), [], []),
  (18, .if_icmp .eq 8, 3, 0, 26, .null, [], []),
  (21, .iload_n 1, 1, 1, 0, .null, [], []),
  (22, .iconst (-1), 1, 0, 0, .int (-1), [], []),
  (23, .if_icmp .ne 10, 3, 0, 33, .null, [], []),
  (26, .aload_n 0, 1, 0, 0, .null, [], []),
  (27, .getfield 68, 3, 2, 0, .null, [(3, 0)], [220]),
  (30, .goto 4, 3, 0, 34, .null, [], []),
  (33, .iconst 0, 1, 0, 0, .int (0), [], []),
  (34, .ireturn, 1, 0, 0, .null, [], [])]
def miX3_sizeWeight : ev_MI := (RX3, yX3_sizeWeight, cX3_sizeWeight, 2, (some .int), eiX3_sizeWeight, [945])
def eiX3_likeWeight : List ev_E := [(0, .iload_n 0, 1, 0, 0, .null, [], []),
  (1, .ifCond .eq 9, 3, 0, 10, .null, [], []),
  (4, .iconst 4, 1, 0, 0, .int (4), [], []),
  (5, .iload_n 1, 1, 1, 0, .null, [], []),
  (6, .imul, 1, 0, 0, .null, [], []),
  (7, .goto 7, 3, 0, 14, .null, [], []),
  (10, .bipush 10, 2, 0, 0, .int (10), [], []),
  (12, .iload_n 1, 1, 1, 0, .null, [], []),
  (13, .isub, 1, 0, 0, .null, [], []),
  (14, .ireturn, 1, 0, 0, .null, [], [])]
def miX3_likeWeight : ev_MI := (RX3, yX3_likeWeight, cX3_likeWeight, 2, (some .int), eiX3_likeWeight, [956])
def eiX3_clothWeight : List ev_E := [(0, .iload_n 2, 1, 2, 0, .null, [], []),
  (1, .aload_n 0, 1, 0, 0, .null, [], []),
  (2, .iload_n 1, 1, 1, 0, .null, [], []),
  (3, .invokevirtual 71, 3, 1, 0, .null, [(3, 14)], [950, 952, 16, 62, 0, 0, 0, 0]),
  (6, .if_icmp .ne 7, 3, 0, 13, .null, [], []),
  (9, .iconst 1, 1, 0, 0, .int (1), [], []),
  (10, .goto 4, 3, 0, 14, .null, [], []),
  (13, .iconst 0, 1, 0, 0, .int (0), [], []),
  (14, .aload_n 0, 1, 0, 0, .null, [], []),
  (15, .getfield 15, 3, 3, 0, .null, [(3, 0)], [222]),
  (18, .invokestatic 64, 3, 2, 0, .null, [(0, 12)], [954, 955, 62]),
  (21, .istore_n 3, 1, 3, 0, .null, [], []),
  (22, .iload_n 1, 1, 1, 0, .null, [], []),
  (23, .aload_n 0, 1, 0, 0, .null, [], []),
  (24, .getfield 22, 3, 5, 0, .null, [(3, 0)], [226]),
  (27, .if_icmp .eq 16, 3, 0, 43, .null, [], []),
  (30, .iload_n 1, 1, 1, 0, .null, [], []),
  (31, .aload_n 0, 1, 0, 0, .null, [], []),
  (32, .getfield 25, 3, 6, 0, .null, [(3, 0)], [227]),
  (35, .if_icmp .eq 8, 3, 0, 43, .null, [], []),
  (38, .bipush 10, 2, 0, 0, .int (10), [], []),
  (40, .iload_n 3, 1, 3, 0, .null, [], []),
  (41, .imul, 1, 0, 0, .null, [], []),
  (42, .ireturn, 1, 0, 0, .null, [], []),
  (43, .iload_n 2, 1, 2, 0, .null, [], []),
  (44, .aload_n 0, 1, 0, 0, .null, [], []),
  (45, .iload_n 1, 1, 1, 0, .null, [], []),
  (46, .aload_n 0, 1, 0, 0, .null, [], []),
  (47, .getfield 22, 3, 5, 0, .null, [(3, 0)], [226]),
  (50, .if_icmp .ne 10, 3, 0, 60, .null, [], []),
  (53, .aload_n 0, 1, 0, 0, .null, [], []),
  (54, .getfield 25, 3, 6, 0, .null, [(3, 0)], [227]),
  (57, .goto 7, 3, 0, 64, .null, [], []),
  (60, .aload_n 0, 1, 0, 0, .null, [], []),
  (61, .getfield 22, 3, 5, 0, .null, [(3, 0)], [226]),
  (64, .invokevirtual 71, 3, 1, 0, .null, [(3, 14)], [950, 952, 16, 62, 0, 0, 0, 0]),
  (67, .if_icmp .ne 7, 3, 0, 74, .null, [], []),
  (70, .iconst 1, 1, 0, 0, .int (1), [], []),
  (71, .goto 4, 3, 0, 75, .null, [], []),
  (74, .iconst 0, 1, 0, 0, .int (0), [], []),
  (75, .aload_n 0, 1, 0, 0, .null, [], []),
  (76, .getfield 15, 3, 3, 0, .null, [(3, 0)], [222]),
  (79, .invokestatic 64, 3, 2, 0, .null, [(0, 12)], [954, 955, 62]),
  (82, .istore 4, 2, 4, 0, .null, [], []),
  (84, .bipush 10, 2, 0, 0, .int (10), [], []),
  (86, .aload_n 0, 1, 0, 0, .null, [], []),
  (87, .getfield 38, 3, 7, 0, .null, [(3, 0)], [228]),
  (90, .isub, 1, 0, 0, .null, [], []),
  (91, .iload_n 3, 1, 3, 0, .null, [], []),
  (92, .imul, 1, 0, 0, .null, [], []),
  (93, .aload_n 0, 1, 0, 0, .null, [], []),
  (94, .getfield 38, 3, 7, 0, .null, [(3, 0)], [228]),
  (97, .iload 4, 2, 4, 0, .null, [], []),
  (99, .imul, 1, 0, 0, .null, [], []),
  (100, .iadd, 1, 0, 0, .null, [], []),
  (101, .ireturn, 1, 0, 0, .null, [], [])]
def miX3_clothWeight : ev_MI := (RX3, yX3_clothWeight, cX3_clothWeight, 5, (some .int), eiX3_clothWeight, [949])
def eiX3_clothOf : List ev_E := [(0, .iload_n 1, 1, 1, 0, .null, [], []),
  (1, .ifCond .lt 21, 3, 0, 22, .null, [], []),
  (4, .iload_n 1, 1, 1, 0, .null, [], []),
  (5, .aload_n 0, 1, 0, 0, .null, [], []),
  (6, .getfield 34, 3, 0, 0, .null, [(3, 0)], [218]),
  (9, .arraylength, 1, 0, 0, .null, [], []),
  (10, .if_icmp .ge 12, 3, 0, 22, .null, [], []),
  (13, .aload_n 0, 1, 0, 0, .null, [], []),
  (14, .getfield 34, 3, 0, 0, .null, [(3, 0)], [218]),
  (17, .iload_n 1, 1, 1, 0, .null, [], []),
  (18, .aaload, 1, 0, 0, .null, [], []),
  (19, .goto 4, 3, 0, 23, .null, [], []),
  (22, .aconst_null, 1, 0, 0, .null, [], []),
  (23, .astore_n 2, 1, 2, 0, .null, [], []),
  (24, .aload_n 2, 1, 2, 0, .null, [], []),
  (25, .ifnonnull 7, 3, 0, 32, .null, [], []),
  (28, .iconst (-1), 1, 0, 0, .int (-1), [], []),
  (29, .goto 7, 3, 0, 36, .null, [], []),
  (32, .aload_n 2, 1, 2, 0, .null, [], []),
  (33, .getfield 74, 3, 4, 0, .null, [(0, 0), (1, 0), (2, 0), (6, 0), (9, 0), (10, 0)], [679]),
  (36, .ireturn, 1, 0, 0, .null, [], [])]
def miX3_clothOf : ev_MI := (RX3, yX3_clothOf, cX3_clothOf, 3, (some .int), eiX3_clothOf, [953])
def eiX3_weightOf : List ev_E := [(0, .iload_n 1, 1, 1, 0, .null, [], []),
  (1, .ifCond .lt 22, 3, 0, 23, .null, [], []),
  (4, .iload_n 1, 1, 1, 0, .null, [], []),
  (5, .aload_n 0, 1, 0, 0, .null, [], []),
  (6, .getfield 9, 3, 1, 0, .null, [(3, 0)], [219]),
  (9, .arraylength, 1, 0, 0, .null, [], []),
  (10, .if_icmp .ge 13, 3, 0, 23, .null, [], []),
  (13, .aload_n 0, 1, 0, 0, .null, [], []),
  (14, .getfield 9, 3, 1, 0, .null, [(3, 0)], [219]),
  (17, .iload_n 1, 1, 1, 0, .null, [], []),
  (18, .iaload, 1, 0, 0, .null, [], []),
  (19, .i2l, 1, 0, 0, .null, [], []),
  (20, .goto 4, 3, 0, 24, .null, [], []),
  (23, .lconst 0, 1, 0, 0, .long (0), [], []),
  (24, .lreturn, 1, 0, 0, .null, [], [])]
def miX3_weightOf : ev_MI := (RX3, yX3_weightOf, cX3_weightOf, 2, (some .long), eiX3_weightOf, [964])
def eiX3_total : List ev_E := [(0, .lconst 0, 1, 0, 0, .long (0), [], []),
  (1, .lstore_n 1, 1, 1, 0, .null, [], []),
  (2, .aload_n 0, 1, 0, 0, .null, [], []),
  (3, .getfield 9, 3, 1, 0, .null, [(3, 0)], [219]),
  (6, .astore_n 3, 1, 3, 0, .null, [], []),
  (7, .aload_n 3, 1, 3, 0, .null, [], []),
  (8, .arraylength, 1, 0, 0, .null, [], []),
  (9, .istore 4, 2, 4, 0, .null, [], []),
  (11, .iconst 0, 1, 0, 0, .int (0), [], []),
  (12, .istore 5, 2, 5, 0, .null, [], []),
  (14, .iload 5, 2, 5, 0, .null, [], []),
  (16, .iload 4, 2, 4, 0, .null, [], []),
  (18, .if_icmp .ge 21, 3, 0, 39, .null, [], []),
  (21, .aload_n 3, 1, 3, 0, .null, [], []),
  (22, .iload 5, 2, 5, 0, .null, [], []),
  (24, .iaload, 1, 0, 0, .null, [], []),
  (25, .istore 6, 2, 6, 0, .null, [], []),
  (27, .lload_n 1, 1, 1, 0, .null, [], []),
  (28, .iload 6, 2, 6, 0, .null, [], []),
  (30, .i2l, 1, 0, 0, .null, [], []),
  (31, .ladd, 1, 0, 0, .null, [], []),
  (32, .lstore_n 1, 1, 1, 0, .null, [], []),
  (33, .iinc 5 1, 3, 5, 0, .int (1), [], []),
  (36, .goto (-22), 3, 0, 14, .null, [], []),
  (39, .lload_n 1, 1, 1, 0, .null, [], []),
  (40, .lreturn, 1, 0, 0, .null, [], [])]
def miX3_total : ev_MI := (RX3, yX3_total, cX3_total, 7, (some .long), eiX3_total, [960])
def eiX3_likeliestPlayer : List ev_E := [(0, .iconst (-1), 1, 0, 0, .int (-1), [], []),
  (1, .istore_n 1, 1, 1, 0, .null, [], []),
  (2, .iconst 0, 1, 0, 0, .int (0), [], []),
  (3, .istore_n 2, 1, 2, 0, .null, [], []),
  (4, .iload_n 2, 1, 2, 0, .null, [], []),
  (5, .aload_n 0, 1, 0, 0, .null, [], []),
  (6, .getfield 9, 3, 1, 0, .null, [(3, 0)], [219]),
  (9, .arraylength, 1, 0, 0, .null, [], []),
  (10, .if_icmp .ge 25, 3, 0, 35, .null, [], []),
  (13, .aload_n 0, 1, 0, 0, .null, [], []),
  (14, .iload_n 2, 1, 2, 0, .null, [], []),
  (15, .invokevirtual 77, 3, 1, 0, .null, [(3, 15)], [973, 962, 963, 62, 0, 0, 0, 0]),
  (18, .aload_n 0, 1, 0, 0, .null, [], []),
  (19, .iload_n 1, 1, 1, 0, .null, [], []),
  (20, .invokevirtual 77, 3, 1, 0, .null, [(3, 15)], [973, 962, 963, 62, 0, 0, 0, 0]),
  (23, .lcmp, 1, 0, 0, .null, [], []),
  (24, .ifCond .le 5, 3, 0, 29, .null, [], []),
  (27, .iload_n 2, 1, 2, 0, .null, [], []),
  (28, .istore_n 1, 1, 1, 0, .null, [], []),
  (29, .iinc 2 1, 3, 2, 0, .int (1), [], []),
  (32, .goto (-28), 3, 0, 4, .null, [], []),
  (35, .iload_n 1, 1, 1, 0, .null, [], []),
  (36, .ireturn, 1, 0, 0, .null, [], [])]
def miX3_likeliestPlayer : ev_MI := (RX3, yX3_likeliestPlayer, cX3_likeliestPlayer, 3, (some .int), eiX3_likeliestPlayer, [972])
def eiX3_mixInto : List ev_E := [(0, .lload_n 1, 1, 1, 0, .null, [], []),
  (1, .aload_n 0, 1, 0, 0, .null, [], []),
  (2, .getfield 68, 3, 2, 0, .null, [(3, 0)], [220]),
  (5, .i2l, 1, 0, 0, .null, [], []),
  (6, .invokestatic 81, 3, 2, 0, .null, [(0, 116)], [1033, 1020, 57]),
  (9, .aload_n 0, 1, 0, 0, .null, [], []),
  (10, .getfield 15, 3, 3, 0, .null, [(3, 0)], [222]),
  (13, .i2l, 1, 0, 0, .null, [], []),
  (14, .invokestatic 81, 3, 2, 0, .null, [(0, 116)], [1033, 1020, 57]),
  (17, .aload_n 0, 1, 0, 0, .null, [], []),
  (18, .getfield 19, 3, 4, 0, .null, [(3, 0)], [224]),
  (21, .i2l, 1, 0, 0, .null, [], []),
  (22, .invokestatic 81, 3, 2, 0, .null, [(0, 116)], [1033, 1020, 57]),
  (25, .lstore_n 3, 1, 3, 0, .null, [], []),
  (26, .lload_n 3, 1, 3, 0, .null, [], []),
  (27, .aload_n 0, 1, 0, 0, .null, [], []),
  (28, .getfield 22, 3, 5, 0, .null, [(3, 0)], [226]),
  (31, .i2l, 1, 0, 0, .null, [], []),
  (32, .invokestatic 81, 3, 2, 0, .null, [(0, 116)], [1033, 1020, 57]),
  (35, .aload_n 0, 1, 0, 0, .null, [], []),
  (36, .getfield 25, 3, 6, 0, .null, [(3, 0)], [227]),
  (39, .i2l, 1, 0, 0, .null, [], []),
  (40, .invokestatic 81, 3, 2, 0, .null, [(0, 116)], [1033, 1020, 57]),
  (43, .aload_n 0, 1, 0, 0, .null, [], []),
  (44, .getfield 38, 3, 7, 0, .null, [(3, 0)], [228]),
  (47, .i2l, 1, 0, 0, .null, [], []),
  (48, .invokestatic 81, 3, 2, 0, .null, [(0, 116)], [1033, 1020, 57]),
  (51, .lreturn, 1, 0, 0, .null, [], [])]
def miX3_mixInto : ev_MI := (RX3, yX3_mixInto, cX3_mixInto, 5, (some .long), eiX3_mixInto, [1032])
def eiX4_putHim : List ev_E := [(0, .aload_n 0, 1, 0, 0, .null, [], []),
  (1, .getfield 9, 3, 1, 0, .null, [(4, 0)], [150]),
  (4, .lconst 0, 1, 0, 0, .long (0), [], []),
  (5, .invokestatic 27, 3, 2, 0, .null, [(0, 204)], [488, 489, 70]),
  (8, .iload_n 1, 1, 1, 0, .null, [], []),
  (9, .iconst 4, 1, 0, 0, .int (4), [], []),
  (10, .imul, 1, 0, 0, .null, [], []),
  (11, .iload_n 2, 1, 2, 0, .null, [], []),
  (12, .iadd, 1, 0, 0, .null, [], []),
  (13, .istore_n 3, 1, 3, 0, .null, [], []),
  (14, .iload_n 3, 1, 3, 0, .null, [], []),
  (15, .ifCond .lt 19, 3, 0, 34, .null, [], []),
  (18, .iload_n 3, 1, 3, 0, .null, [], []),
  (19, .aload_n 0, 1, 0, 0, .null, [], []),
  (20, .getfield 9, 3, 1, 0, .null, [(4, 0)], [150]),
  (23, .arraylength, 1, 0, 0, .null, [], []),
  (24, .if_icmp .ge 10, 3, 0, 34, .null, [], []),
  (27, .aload_n 0, 1, 0, 0, .null, [], []),
  (28, .getfield 9, 3, 1, 0, .null, [(4, 0)], [150]),
  (31, .iload_n 3, 1, 3, 0, .null, [], []),
  (32, .lconst 1, 1, 0, 0, .long (1), [], []),
  (33, .lastore, 1, 0, 0, .null, [], []),
  (34, .aload_n 0, 1, 0, 0, .null, [], []),
  (35, .iconst 0, 1, 0, 0, .int (0), [], []),
  (36, .putfield 33, 3, 4, 0, .null, [(4, 0)], [153]),
  (39, .return_, 1, 0, 0, .null, [], [])]
def miX4_putHim : ev_MI := (RX4, yX4_putHim, cX4_putHim, 4, none, eiX4_putHim, [487])
def eiX4_loseHim : List ev_E := [(0, .iconst 0, 1, 0, 0, .int (0), [], []),
  (1, .istore_n 1, 1, 1, 0, .null, [], []),
  (2, .iload_n 1, 1, 1, 0, .null, [], []),
  (3, .aload_n 0, 1, 0, 0, .null, [], []),
  (4, .getfield 9, 3, 1, 0, .null, [(4, 0)], [150]),
  (7, .arraylength, 1, 0, 0, .null, [], []),
  (8, .if_icmp .ge 33, 3, 0, 41, .null, [], []),
  (11, .aload_n 0, 1, 0, 0, .null, [], []),
  (12, .getfield 9, 3, 1, 0, .null, [(4, 0)], [150]),
  (15, .iload_n 1, 1, 1, 0, .null, [], []),
  (16, .aload_n 0, 1, 0, 0, .null, [], []),
  (17, .getfield 23, 3, 0, 0, .null, [(4, 0)], [149]),
  (20, .iload_n 1, 1, 1, 0, .null, [], []),
  (21, .iconst 4, 1, 0, 0, .int (4), [], []),
  (22, .idiv, 1, 0, 0, .null, [], []),
  (23, .invokevirtual 37, 3, 1, 0, .null, [(7, 59)], [465, 466, 467, 59, 0, 0, 0, 0]),
  (26, .ifCond .eq 7, 3, 0, 33, .null, [], []),
  (29, .lconst 1, 1, 0, 0, .long (1), [], []),
  (30, .goto 4, 3, 0, 34, .null, [], []),
  (33, .lconst 0, 1, 0, 0, .long (0), [], []),
  (34, .lastore, 1, 0, 0, .null, [], []),
  (35, .iinc 1 1, 3, 1, 0, .int (1), [], []),
  (38, .goto (-36), 3, 0, 2, .null, [], []),
  (41, .aload_n 0, 1, 0, 0, .null, [], []),
  (42, .iconst 0, 1, 0, 0, .int (0), [], []),
  (43, .putfield 33, 3, 4, 0, .null, [(4, 0)], [153]),
  (46, .return_, 1, 0, 0, .null, [], [])]
def miX4_loseHim : ev_MI := (RX4, yX4_loseHim, cX4_loseHim, 2, none, eiX4_loseHim, [464])
def eiX4_keep : List ev_E := [(0, .aload_n 0, 1, 0, 0, .null, [], []),
  (1, .getfield 9, 3, 1, 0, .null, [(4, 0)], [150]),
  (4, .iconst 0, 1, 0, 0, .int (0), [], []),
  (5, .aload_n 0, 1, 0, 0, .null, [], []),
  (6, .getfield 15, 3, 2, 0, .null, [(4, 0)], [151]),
  (9, .iconst 0, 1, 0, 0, .int (0), [], []),
  (10, .sipush 144, 3, 0, 0, .int (144), [], []),
  (13, .invokestatic 43, 3, 104, 0, .null, [], [986, 987, 77, 988]),
  (16, .aload_n 0, 1, 0, 0, .null, [], []),
  (17, .aload_n 0, 1, 0, 0, .null, [], []),
  (18, .getfield 33, 3, 4, 0, .null, [(4, 0)], [153]),
  (21, .putfield 49, 3, 5, 0, .null, [(4, 0)], [155]),
  (24, .return_, 1, 0, 0, .null, [], [])]
def miX4_keep : ev_MI := (RX4, yX4_keep, cX4_keep, 1, none, eiX4_keep, [985])
def eiX4_takeKept : List ev_E := [(0, .aload_n 0, 1, 0, 0, .null, [], []),
  (1, .getfield 15, 3, 2, 0, .null, [(4, 0)], [151]),
  (4, .iconst 0, 1, 0, 0, .int (0), [], []),
  (5, .aload_n 0, 1, 0, 0, .null, [], []),
  (6, .getfield 9, 3, 1, 0, .null, [(4, 0)], [150]),
  (9, .iconst 0, 1, 0, 0, .int (0), [], []),
  (10, .sipush 144, 3, 0, 0, .int (144), [], []),
  (13, .invokestatic 43, 3, 104, 0, .null, [], [986, 987, 77, 988]),
  (16, .aload_n 0, 1, 0, 0, .null, [], []),
  (17, .aload_n 0, 1, 0, 0, .null, [], []),
  (18, .getfield 49, 3, 5, 0, .null, [(4, 0)], [155]),
  (21, .putfield 33, 3, 4, 0, .null, [(4, 0)], [153]),
  (24, .return_, 1, 0, 0, .null, [], [])]
def miX4_takeKept : ev_MI := (RX4, yX4_takeKept, cX4_takeKept, 1, none, eiX4_takeKept, [1000])
def eiX4_aboveNought : List ev_E := [(0, .iconst 0, 1, 0, 0, .int (0), [], []),
  (1, .istore_n 1, 1, 1, 0, .null, [], []),
  (2, .aload_n 0, 1, 0, 0, .null, [], []),
  (3, .getfield 9, 3, 1, 0, .null, [(4, 0)], [150]),
  (6, .astore_n 2, 1, 2, 0, .null, [], []),
  (7, .aload_n 2, 1, 2, 0, .null, [], []),
  (8, .arraylength, 1, 0, 0, .null, [], []),
  (9, .istore_n 3, 1, 3, 0, .null, [], []),
  (10, .iconst 0, 1, 0, 0, .int (0), [], []),
  (11, .istore 4, 2, 4, 0, .null, [], []),
  (13, .iload 4, 2, 4, 0, .null, [], []),
  (15, .iload_n 3, 1, 3, 0, .null, [], []),
  (16, .if_icmp .ge 30, 3, 0, 46, .null, [], []),
  (19, .aload_n 2, 1, 2, 0, .null, [], []),
  (20, .iload 4, 2, 4, 0, .null, [], []),
  (22, .laload, 1, 0, 0, .null, [], []),
  (23, .lstore 5, 2, 5, 0, .null, [], []),
  (25, .iload_n 1, 1, 1, 0, .null, [], []),
  (26, .lload 5, 2, 5, 0, .null, [], []),
  (28, .lconst 0, 1, 0, 0, .long (0), [], []),
  (29, .lcmp, 1, 0, 0, .null, [], []),
  (30, .ifCond .le 7, 3, 0, 37, .null, [], []),
  (33, .iconst 1, 1, 0, 0, .int (1), [], []),
  (34, .goto 4, 3, 0, 38, .null, [], []),
  (37, .iconst 0, 1, 0, 0, .int (0), [], []),
  (38, .iadd, 1, 0, 0, .null, [], []),
  (39, .istore_n 1, 1, 1, 0, .null, [], []),
  (40, .iinc 4 1, 3, 4, 0, .int (1), [], []),
  (43, .goto (-30), 3, 0, 13, .null, [], []),
  (46, .iload_n 1, 1, 1, 0, .null, [], []),
  (47, .ireturn, 1, 0, 0, .null, [], [])]
def miX4_aboveNought : ev_MI := (RX4, yX4_aboveNought, cX4_aboveNought, 7, (some .int), eiX4_aboveNought, [502])
def eiX4_total : List ev_E := [(0, .lconst 0, 1, 0, 0, .long (0), [], []),
  (1, .lstore_n 1, 1, 1, 0, .null, [], []),
  (2, .aload_n 0, 1, 0, 0, .null, [], []),
  (3, .getfield 9, 3, 1, 0, .null, [(4, 0)], [150]),
  (6, .astore_n 3, 1, 3, 0, .null, [], []),
  (7, .aload_n 3, 1, 3, 0, .null, [], []),
  (8, .arraylength, 1, 0, 0, .null, [], []),
  (9, .istore 4, 2, 4, 0, .null, [], []),
  (11, .iconst 0, 1, 0, 0, .int (0), [], []),
  (12, .istore 5, 2, 5, 0, .null, [], []),
  (14, .iload 5, 2, 5, 0, .null, [], []),
  (16, .iload 4, 2, 4, 0, .null, [], []),
  (18, .if_icmp .ge 20, 3, 0, 38, .null, [], []),
  (21, .aload_n 3, 1, 3, 0, .null, [], []),
  (22, .iload 5, 2, 5, 0, .null, [], []),
  (24, .laload, 1, 0, 0, .null, [], []),
  (25, .lstore 6, 2, 6, 0, .null, [], []),
  (27, .lload_n 1, 1, 1, 0, .null, [], []),
  (28, .lload 6, 2, 6, 0, .null, [], []),
  (30, .ladd, 1, 0, 0, .null, [], []),
  (31, .lstore_n 1, 1, 1, 0, .null, [], []),
  (32, .iinc 5 1, 3, 5, 0, .int (1), [], []),
  (35, .goto (-21), 3, 0, 14, .null, [], []),
  (38, .lload_n 1, 1, 1, 0, .null, [], []),
  (39, .lreturn, 1, 0, 0, .null, [], [])]
def miX4_total : ev_MI := (RX4, yX4_total, cX4_total, 8, (some .long), eiX4_total, [581])
def eiX4_ofCell : List ev_E := [(0, .aload_n 0, 1, 0, 0, .null, [], []),
  (1, .getfield 9, 3, 1, 0, .null, [(4, 0)], [150]),
  (4, .iload_n 1, 1, 1, 0, .null, [], []),
  (5, .iconst 4, 1, 0, 0, .int (4), [], []),
  (6, .imul, 1, 0, 0, .null, [], []),
  (7, .invokestatic 52, 3, 2, 0, .null, [(0, 26)], [575, 576, 60]),
  (10, .lreturn, 1, 0, 0, .null, [], [])]
def miX4_ofCell : ev_MI := (RX4, yX4_ofCell, cX4_ofCell, 2, (some .long), eiX4_ofCell, [574])
def eiX4_sumOfCell : List ev_E := [(0, .iload_n 1, 1, 1, 0, .null, [], []),
  (1, .ifCond .lt 11, 3, 0, 12, .null, [], []),
  (4, .iload_n 1, 1, 1, 0, .null, [], []),
  (5, .iconst 3, 1, 0, 0, .int (3), [], []),
  (6, .iadd, 1, 0, 0, .null, [], []),
  (7, .aload_n 0, 1, 0, 0, .null, [], []),
  (8, .arraylength, 1, 0, 0, .null, [], []),
  (9, .if_icmp .lt 5, 3, 0, 14, .null, [], []),
  (12, .lconst 0, 1, 0, 0, .long (0), [], []),
  (13, .lreturn, 1, 0, 0, .null, [], []),
  (14, .aload_n 0, 1, 0, 0, .null, [], []),
  (15, .iload_n 1, 1, 1, 0, .null, [], []),
  (16, .laload, 1, 0, 0, .null, [], []),
  (17, .aload_n 0, 1, 0, 0, .null, [], []),
  (18, .iload_n 1, 1, 1, 0, .null, [], []),
  (19, .iconst 1, 1, 0, 0, .int (1), [], []),
  (20, .iadd, 1, 0, 0, .null, [], []),
  (21, .laload, 1, 0, 0, .null, [], []),
  (22, .ladd, 1, 0, 0, .null, [], []),
  (23, .aload_n 0, 1, 0, 0, .null, [], []),
  (24, .iload_n 1, 1, 1, 0, .null, [], []),
  (25, .iconst 2, 1, 0, 0, .int (2), [], []),
  (26, .iadd, 1, 0, 0, .null, [], []),
  (27, .laload, 1, 0, 0, .null, [], []),
  (28, .ladd, 1, 0, 0, .null, [], []),
  (29, .aload_n 0, 1, 0, 0, .null, [], []),
  (30, .iload_n 1, 1, 1, 0, .null, [], []),
  (31, .iconst 3, 1, 0, 0, .int (3), [], []),
  (32, .iadd, 1, 0, 0, .null, [], []),
  (33, .laload, 1, 0, 0, .null, [], []),
  (34, .ladd, 1, 0, 0, .null, [], []),
  (35, .lreturn, 1, 0, 0, .null, [], [])]
def miX4_sumOfCell : ev_MI := (RX4, yX4_sumOfCell, cX4_sumOfCell, 2, (some .long), eiX4_sumOfCell, [577])
def eiX4_ofWay : List ev_E := [(0, .lconst 0, 1, 0, 0, .long (0), [], []),
  (1, .lstore_n 2, 1, 2, 0, .null, [], []),
  (2, .iconst 0, 1, 0, 0, .int (0), [], []),
  (3, .istore 4, 2, 4, 0, .null, [], []),
  (5, .iload 4, 2, 4, 0, .null, [], []),
  (7, .aload_n 0, 1, 0, 0, .null, [], []),
  (8, .getfield 9, 3, 1, 0, .null, [(4, 0)], [150]),
  (11, .arraylength, 1, 0, 0, .null, [], []),
  (12, .if_icmp .ge 31, 3, 0, 43, .null, [], []),
  (15, .lload_n 2, 1, 2, 0, .null, [], []),
  (16, .iload 4, 2, 4, 0, .null, [], []),
  (18, .iconst 3, 1, 0, 0, .int (3), [], []),
  (19, .iand, 1, 0, 0, .null, [], []),
  (20, .iload_n 1, 1, 1, 0, .null, [], []),
  (21, .if_icmp .ne 13, 3, 0, 34, .null, [], []),
  (24, .aload_n 0, 1, 0, 0, .null, [], []),
  (25, .getfield 9, 3, 1, 0, .null, [(4, 0)], [150]),
  (28, .iload 4, 2, 4, 0, .null, [], []),
  (30, .laload, 1, 0, 0, .null, [], []),
  (31, .goto 4, 3, 0, 35, .null, [], []),
  (34, .lconst 0, 1, 0, 0, .long (0), [], []),
  (35, .ladd, 1, 0, 0, .null, [], []),
  (36, .lstore_n 2, 1, 2, 0, .null, [], []),
  (37, .iinc 4 1, 3, 4, 0, .int (1), [], []),
  (40, .goto (-35), 3, 0, 5, .null, [], []),
  (43, .lload_n 2, 1, 2, 0, .null, [], []),
  (44, .lreturn, 1, 0, 0, .null, [], [])]
def miX4_ofWay : ev_MI := (RX4, yX4_ofWay, cX4_ofWay, 5, (some .long), eiX4_ofWay, [594])
def eiX4_bestCell : List ev_E := [(0, .iconst 0, 1, 0, 0, .int (0), [], []),
  (1, .istore_n 1, 1, 1, 0, .null, [], []),
  (2, .iconst 1, 1, 0, 0, .int (1), [], []),
  (3, .istore_n 2, 1, 2, 0, .null, [], []),
  (4, .iload_n 2, 1, 2, 0, .null, [], []),
  (5, .aload_n 0, 1, 0, 0, .null, [], []),
  (6, .getfield 23, 3, 0, 0, .null, [(4, 0)], [149]),
  (9, .getfield 56, 3, 4, 0, .null, [(7, 0)], [124]),
  (12, .if_icmp .ge 25, 3, 0, 37, .null, [], []),
  (15, .aload_n 0, 1, 0, 0, .null, [], []),
  (16, .iload_n 2, 1, 2, 0, .null, [], []),
  (17, .invokevirtual 59, 3, 1, 0, .null, [(4, 25)], [603, 572, 573, 60, 0, 0, 0, 0]),
  (20, .aload_n 0, 1, 0, 0, .null, [], []),
  (21, .iload_n 1, 1, 1, 0, .null, [], []),
  (22, .invokevirtual 59, 3, 1, 0, .null, [(4, 25)], [603, 572, 573, 60, 0, 0, 0, 0]),
  (25, .lcmp, 1, 0, 0, .null, [], []),
  (26, .ifCond .le 5, 3, 0, 31, .null, [], []),
  (29, .iload_n 2, 1, 2, 0, .null, [], []),
  (30, .istore_n 1, 1, 1, 0, .null, [], []),
  (31, .iinc 2 1, 3, 2, 0, .int (1), [], []),
  (34, .goto (-30), 3, 0, 4, .null, [], []),
  (37, .iload_n 1, 1, 1, 0, .null, [], []),
  (38, .ireturn, 1, 0, 0, .null, [], [])]
def miX4_bestCell : ev_MI := (RX4, yX4_bestCell, cX4_bestCell, 3, (some .int), eiX4_bestCell, [602])
def eiX4_foretellTurn : List ev_E := [(0, .aload_n 0, 1, 0, 0, .null, [], []),
  (1, .invokevirtual 63, 3, 0, 0, .null, [(4, 34)], [511, 513, 3, 60, 0, 0, 0, 0]),
  (4, .iconst 0, 1, 0, 0, .int (0), [], []),
  (5, .istore_n 2, 1, 2, 0, .null, [], []),
  (6, .iload_n 2, 1, 2, 0, .null, [], []),
  (7, .aload_n 0, 1, 0, 0, .null, [], []),
  (8, .getfield 9, 3, 1, 0, .null, [(4, 0)], [150]),
  (11, .arraylength, 1, 0, 0, .null, [], []),
  (12, .if_icmp .ge 72, 3, 0, 84, .null, [], []),
  (15, .aload_n 0, 1, 0, 0, .null, [], []),
  (16, .getfield 9, 3, 1, 0, .null, [(4, 0)], [150]),
  (19, .iload_n 2, 1, 2, 0, .null, [], []),
  (20, .laload, 1, 0, 0, .null, [], []),
  (21, .lstore_n 3, 1, 3, 0, .null, [], []),
  (22, .lload_n 3, 1, 3, 0, .null, [], []),
  (23, .lconst 0, 1, 0, 0, .long (0), [], []),
  (24, .lcmp, 1, 0, 0, .null, [], []),
  (25, .ifCond .le 53, 3, 0, 78, .null, [], []),
  (28, .iload_n 2, 1, 2, 0, .null, [], []),
  (29, .iconst 4, 1, 0, 0, .int (4), [], []),
  (30, .idiv, 1, 0, 0, .null, [], []),
  (31, .istore 5, 2, 5, 0, .null, [], []),
  (33, .aload_n 0, 1, 0, 0, .null, [], []),
  (34, .iconst 0, 1, 0, 0, .int (0), [], []),
  (35, .iload 5, 2, 5, 0, .null, [], []),
  (37, .iload_n 2, 1, 2, 0, .null, [], []),
  (38, .iconst 3, 1, 0, 0, .int (3), [], []),
  (39, .iadd, 1, 0, 0, .null, [], []),
  (40, .iload_n 1, 1, 1, 0, .null, [], []),
  (41, .i2l, 1, 0, 0, .null, [], []),
  (42, .lload_n 3, 1, 3, 0, .null, [], []),
  (43, .lmul, 1, 0, 0, .null, [], []),
  (44, .invokevirtual 66, 3, 4, 0, .null, [(4, 35)], [515, 517, 4, 60, 0, 0, 0, 0]),
  (47, .aload_n 0, 1, 0, 0, .null, [], []),
  (48, .iconst 0, 1, 0, 0, .int (0), [], []),
  (49, .iload 5, 2, 5, 0, .null, [], []),
  (51, .iload_n 2, 1, 2, 0, .null, [], []),
  (52, .bipush 10, 2, 0, 0, .int (10), [], []),
  (54, .iconst 2, 1, 0, 0, .int (2), [], []),
  (55, .iload_n 1, 1, 1, 0, .null, [], []),
  (56, .imul, 1, 0, 0, .null, [], []),
  (57, .isub, 1, 0, 0, .null, [], []),
  (58, .i2l, 1, 0, 0, .null, [], []),
  (59, .lload_n 3, 1, 3, 0, .null, [], []),
  (60, .lmul, 1, 0, 0, .null, [], []),
  (61, .invokevirtual 66, 3, 4, 0, .null, [(4, 35)], [515, 517, 4, 60, 0, 0, 0, 0]),
  (64, .aload_n 0, 1, 0, 0, .null, [], []),
  (65, .iconst 0, 1, 0, 0, .int (0), [], []),
  (66, .iload 5, 2, 5, 0, .null, [], []),
  (68, .iload_n 2, 1, 2, 0, .null, [], []),
  (69, .iconst 1, 1, 0, 0, .int (1), [], []),
  (70, .iadd, 1, 0, 0, .null, [], []),
  (71, .iload_n 1, 1, 1, 0, .null, [], []),
  (72, .i2l, 1, 0, 0, .null, [], []),
  (73, .lload_n 3, 1, 3, 0, .null, [], []),
  (74, .lmul, 1, 0, 0, .null, [], []),
  (75, .invokevirtual 66, 3, 4, 0, .null, [(4, 35)], [515, 517, 4, 60, 0, 0, 0, 0]),
  (78, .iinc 2 1, 3, 2, 0, .int (1), [], []),
  (81, .goto (-75), 3, 0, 6, .null, [], []),
  (84, .return_, 1, 0, 0, .null, [], [])]
def miX4_foretellTurn : ev_MI := (RX4, yX4_foretellTurn, cX4_foretellTurn, 6, none, eiX4_foretellTurn, [510])
def eiX4_foretellStep : List ev_E := [(0, .aload_n 0, 1, 0, 0, .null, [], []),
  (1, .invokevirtual 63, 3, 0, 0, .null, [(4, 34)], [511, 513, 3, 60, 0, 0, 0, 0]),
  (4, .iconst 0, 1, 0, 0, .int (0), [], []),
  (5, .istore 4, 2, 4, 0, .null, [], []),
  (7, .iload 4, 2, 4, 0, .null, [], []),
  (9, .aload_n 0, 1, 0, 0, .null, [], []),
  (10, .getfield 9, 3, 1, 0, .null, [(4, 0)], [150]),
  (13, .arraylength, 1, 0, 0, .null, [], []),
  (14, .if_icmp .ge 88, 3, 0, 102, .null, [], []),
  (17, .aload_n 0, 1, 0, 0, .null, [], []),
  (18, .getfield 9, 3, 1, 0, .null, [(4, 0)], [150]),
  (21, .iload 4, 2, 4, 0, .null, [], []),
  (23, .laload, 1, 0, 0, .null, [], []),
  (24, .lstore 5, 2, 5, 0, .null, [], []),
  (26, .lload 5, 2, 5, 0, .null, [], []),
  (28, .lconst 0, 1, 0, 0, .long (0), [], []),
  (29, .lcmp, 1, 0, 0, .null, [], []),
  (30, .ifCond .le 66, 3, 0, 96, .null, [], []),
  (33, .iload 4, 2, 4, 0, .null, [], []),
  (35, .iconst 4, 1, 0, 0, .int (4), [], []),
  (36, .idiv, 1, 0, 0, .null, [], []),
  (37, .istore 7, 2, 7, 0, .null, [], []),
  (39, .iload 4, 2, 4, 0, .null, [], []),
  (41, .iload_n 1, 1, 1, 0, .null, [], []),
  (42, .iadd, 1, 0, 0, .null, [], []),
  (43, .istore 8, 2, 8, 0, .null, [], []),
  (45, .aload_n 0, 1, 0, 0, .null, [], []),
  (46, .iload 7, 2, 7, 0, .null, [], []),
  (48, .iload 8, 2, 8, 0, .null, [], []),
  (50, .iconst 3, 1, 0, 0, .int (3), [], []),
  (51, .iadd, 1, 0, 0, .null, [], []),
  (52, .iload_n 2, 1, 2, 0, .null, [], []),
  (53, .i2l, 1, 0, 0, .null, [], []),
  (54, .lload 5, 2, 5, 0, .null, [], []),
  (56, .lmul, 1, 0, 0, .null, [], []),
  (57, .iload_n 3, 1, 3, 0, .null, [], []),
  (58, .invokevirtual 70, 3, 4, 0, .null, [(4, 31)], [535, 537, 5, 60, 0, 0, 0, 0]),
  (61, .aload_n 0, 1, 0, 0, .null, [], []),
  (62, .iload 7, 2, 7, 0, .null, [], []),
  (64, .iload 8, 2, 8, 0, .null, [], []),
  (66, .bipush 10, 2, 0, 0, .int (10), [], []),
  (68, .iconst 2, 1, 0, 0, .int (2), [], []),
  (69, .iload_n 2, 1, 2, 0, .null, [], []),
  (70, .imul, 1, 0, 0, .null, [], []),
  (71, .isub, 1, 0, 0, .null, [], []),
  (72, .i2l, 1, 0, 0, .null, [], []),
  (73, .lload 5, 2, 5, 0, .null, [], []),
  (75, .lmul, 1, 0, 0, .null, [], []),
  (76, .iload_n 3, 1, 3, 0, .null, [], []),
  (77, .invokevirtual 70, 3, 4, 0, .null, [(4, 31)], [535, 537, 5, 60, 0, 0, 0, 0]),
  (80, .aload_n 0, 1, 0, 0, .null, [], []),
  (81, .iload 7, 2, 7, 0, .null, [], []),
  (83, .iload 8, 2, 8, 0, .null, [], []),
  (85, .iconst 1, 1, 0, 0, .int (1), [], []),
  (86, .iadd, 1, 0, 0, .null, [], []),
  (87, .iload_n 2, 1, 2, 0, .null, [], []),
  (88, .i2l, 1, 0, 0, .null, [], []),
  (89, .lload 5, 2, 5, 0, .null, [], []),
  (91, .lmul, 1, 0, 0, .null, [], []),
  (92, .iload_n 3, 1, 3, 0, .null, [], []),
  (93, .invokevirtual 70, 3, 4, 0, .null, [(4, 31)], [535, 537, 5, 60, 0, 0, 0, 0]),
  (96, .iinc 4 1, 3, 4, 0, .int (1), [], []),
  (99, .goto (-92), 3, 0, 7, .null, [], []),
  (102, .return_, 1, 0, 0, .null, [], [])]
def miX4_foretellStep : ev_MI := (RX4, yX4_foretellStep, cX4_foretellStep, 9, none, eiX4_foretellStep, [534])
def eiX4_walk : List ev_E := [(0, .aload_n 0, 1, 0, 0, .null, [], []),
  (1, .getfield 23, 3, 0, 0, .null, [(4, 0)], [149]),
  (4, .iload_n 1, 1, 1, 0, .null, [], []),
  (5, .iload_n 2, 1, 2, 0, .null, [], []),
  (6, .invokevirtual 74, 3, 2, 0, .null, [(7, 61)], [539, 540, 541, 59, 0, 0, 0, 0]),
  (9, .istore 6, 2, 6, 0, .null, [], []),
  (11, .iload 6, 2, 6, 0, .null, [], []),
  (13, .iload 5, 2, 5, 0, .null, [], []),
  (15, .if_icmp .ne 7, 3, 0, 22, .null, [], []),
  (18, .iconst 3, 1, 0, 0, .int (3), [], []),
  (19, .goto 12, 3, 0, 31, .null, [], []),
  (22, .aload_n 0, 1, 0, 0, .null, [], []),
  (23, .getfield 23, 3, 0, 0, .null, [(4, 0)], [149]),
  (26, .iload 6, 2, 6, 0, .null, [], []),
  (28, .invokevirtual 78, 3, 1, 0, .null, [(7, 58)], [543, 475, 476, 59, 0, 0, 0, 0]),
  (31, .istore 7, 2, 7, 0, .null, [], []),
  (33, .getstatic 82, 3, 0, 0, .ref 1000, [], []),
  (36, .iload 7, 2, 7, 0, .null, [], []),
  (38, .iconst 3, 1, 0, 0, .int (3), [], []),
  (39, .iand, 1, 0, 0, .null, [], []),
  (40, .iaload, 1, 1, 0, .null, [], []),
  (41, .istore 8, 2, 8, 0, .null, [], []),
  (43, .aload_n 0, 1, 0, 0, .null, [], []),
  (44, .iload 8, 2, 8, 0, .null, [], []),
  (46, .iload 7, 2, 7, 0, .null, [], []),
  (48, .iconst 1, 1, 0, 0, .int (1), [], []),
  (49, .if_icmp .gt 8, 3, 0, 57, .null, [], []),
  (52, .iload 6, 2, 6, 0, .null, [], []),
  (54, .goto 4, 3, 0, 58, .null, [], []),
  (57, .iload_n 1, 1, 1, 0, .null, [], []),
  (58, .iload_n 2, 1, 2, 0, .null, [], []),
  (59, .lload_n 3, 1, 3, 0, .null, [], []),
  (60, .invokevirtual 66, 3, 4, 0, .null, [(4, 35)], [515, 517, 4, 60, 0, 0, 0, 0]),
  (63, .return_, 1, 0, 0, .null, [], [])]
def miX4_walk : ev_MI := (RX4, yX4_walk, cX4_walk, 9, none, eiX4_walk, [538])
def eiX4_foretellCall : List ev_E := [(0, .aload_n 0, 1, 0, 0, .null, [], []),
  (1, .invokevirtual 63, 3, 0, 0, .null, [(4, 34)], [511, 513, 3, 60, 0, 0, 0, 0]),
  (4, .iconst 0, 1, 0, 0, .int (0), [], []),
  (5, .istore_n 3, 1, 3, 0, .null, [], []),
  (6, .iload_n 3, 1, 3, 0, .null, [], []),
  (7, .aload_n 0, 1, 0, 0, .null, [], []),
  (8, .getfield 9, 3, 1, 0, .null, [(4, 0)], [150]),
  (11, .arraylength, 1, 0, 0, .null, [], []),
  (12, .if_icmp .ge 33, 3, 0, 45, .null, [], []),
  (15, .aload_n 0, 1, 0, 0, .null, [], []),
  (16, .getfield 9, 3, 1, 0, .null, [(4, 0)], [150]),
  (19, .iload_n 3, 1, 3, 0, .null, [], []),
  (20, .laload, 1, 0, 0, .null, [], []),
  (21, .lstore 4, 2, 4, 0, .null, [], []),
  (23, .lload 4, 2, 4, 0, .null, [], []),
  (25, .lconst 0, 1, 0, 0, .long (0), [], []),
  (26, .lcmp, 1, 0, 0, .null, [], []),
  (27, .ifCond .le 12, 3, 0, 39, .null, [], []),
  (30, .aload_n 0, 1, 0, 0, .null, [], []),
  (31, .iload_n 1, 1, 1, 0, .null, [], []),
  (32, .iload_n 2, 1, 2, 0, .null, [], []),
  (33, .iload_n 3, 1, 3, 0, .null, [], []),
  (34, .lload 4, 2, 4, 0, .null, [], []),
  (36, .invokevirtual 86, 3, 4, 0, .null, [(4, 33)], [554, 556, 6, 60, 0, 0, 0, 0]),
  (39, .iinc 3 1, 3, 3, 0, .int (1), [], []),
  (42, .goto (-36), 3, 0, 6, .null, [], []),
  (45, .return_, 1, 0, 0, .null, [], [])]
def miX4_foretellCall : ev_MI := (RX4, yX4_foretellCall, cX4_foretellCall, 6, none, eiX4_foretellCall, [553])
def eiX4_hearFrom : List ev_E := [(0, .iload_n 3, 1, 3, 0, .null, [], []),
  (1, .iconst 4, 1, 0, 0, .int (4), [], []),
  (2, .idiv, 1, 0, 0, .null, [], []),
  (3, .istore 6, 2, 6, 0, .null, [], []),
  (5, .aload_n 0, 1, 0, 0, .null, [], []),
  (6, .getfield 23, 3, 0, 0, .null, [(4, 0)], [149]),
  (9, .iload 6, 2, 6, 0, .null, [], []),
  (11, .iload_n 1, 1, 1, 0, .null, [], []),
  (12, .invokevirtual 89, 3, 2, 0, .null, [(7, 65)], [558, 559, 560, 59, 0, 0, 0, 0]),
  (15, .iload_n 3, 1, 3, 0, .null, [], []),
  (16, .isub, 1, 0, 0, .null, [], []),
  (17, .iconst 3, 1, 0, 0, .int (3), [], []),
  (18, .iand, 1, 0, 0, .null, [], []),
  (19, .istore 7, 2, 7, 0, .null, [], []),
  (21, .iconst 0, 1, 0, 0, .int (0), [], []),
  (22, .istore 8, 2, 8, 0, .null, [], []),
  (24, .iload 8, 2, 8, 0, .null, [], []),
  (26, .iconst 4, 1, 0, 0, .int (4), [], []),
  (27, .if_icmp .ge 57, 3, 0, 84, .null, [], []),
  (30, .iload 6, 2, 6, 0, .null, [], []),
  (32, .iload_n 1, 1, 1, 0, .null, [], []),
  (33, .if_icmp .ne 8, 3, 0, 41, .null, [], []),
  (36, .bipush 15, 2, 0, 0, .int (15), [], []),
  (38, .goto 23, 3, 0, 61, .null, [], []),
  (41, .iload 8, 2, 8, 0, .null, [], []),
  (43, .iload 7, 2, 7, 0, .null, [], []),
  (45, .if_icmp .ne 10, 3, 0, 55, .null, [], []),
  (48, .bipush 6, 2, 0, 0, .int (6), [], []),
  (50, .iload_n 2, 1, 2, 0, .null, [], []),
  (51, .imul, 1, 0, 0, .null, [], []),
  (52, .goto 9, 3, 0, 61, .null, [], []),
  (55, .iconst 2, 1, 0, 0, .int (2), [], []),
  (56, .bipush 10, 2, 0, 0, .int (10), [], []),
  (58, .iload_n 2, 1, 2, 0, .null, [], []),
  (59, .isub, 1, 0, 0, .null, [], []),
  (60, .imul, 1, 0, 0, .null, [], []),
  (61, .istore 9, 2, 9, 0, .null, [], []),
  (63, .aload_n 0, 1, 0, 0, .null, [], []),
  (64, .iload 8, 2, 8, 0, .null, [], []),
  (66, .iload 6, 2, 6, 0, .null, [], []),
  (68, .iload_n 3, 1, 3, 0, .null, [], []),
  (69, .iload 9, 2, 9, 0, .null, [], []),
  (71, .i2l, 1, 0, 0, .null, [], []),
  (72, .lload 4, 2, 4, 0, .null, [], []),
  (74, .lmul, 1, 0, 0, .null, [], []),
  (75, .invokevirtual 66, 3, 4, 0, .null, [(4, 35)], [515, 517, 4, 60, 0, 0, 0, 0]),
  (78, .iinc 8 1, 3, 8, 0, .int (1), [], []),
  (81, .goto (-57), 3, 0, 24, .null, [], []),
  (84, .return_, 1, 0, 0, .null, [], [])]
def miX4_hearFrom : ev_MI := (RX4, yX4_hearFrom, cX4_hearFrom, 10, none, eiX4_hearFrom, [557])
def eiX4_clearOutcomes : List ev_E := [(0, .iconst 0, 1, 0, 0, .int (0), [], []),
  (1, .istore_n 1, 1, 1, 0, .null, [], []),
  (2, .iload_n 1, 1, 1, 0, .null, [], []),
  (3, .iconst 4, 1, 0, 0, .int (4), [], []),
  (4, .if_icmp .ge 19, 3, 0, 23, .null, [], []),
  (7, .aload_n 0, 1, 0, 0, .null, [], []),
  (8, .getfield 20, 3, 3, 0, .null, [(4, 0)], [152]),
  (11, .iload_n 1, 1, 1, 0, .null, [], []),
  (12, .aaload, 1, 0, 0, .null, [], []),
  (13, .lconst 0, 1, 0, 0, .long (0), [], []),
  (14, .invokestatic 27, 3, 2, 0, .null, [(0, 204)], [488, 489, 70]),
  (17, .iinc 1 1, 3, 1, 0, .int (1), [], []),
  (20, .goto (-18), 3, 0, 2, .null, [], []),
  (23, .return_, 1, 0, 0, .null, [], [])]
def miX4_clearOutcomes : ev_MI := (RX4, yX4_clearOutcomes, cX4_clearOutcomes, 2, none, eiX4_clearOutcomes, [514])
def eiX4_add : List ev_E := [(0, .iload_n 2, 1, 2, 0, .null, [], []),
  (1, .iconst 4, 1, 0, 0, .int (4), [], []),
  (2, .imul, 1, 0, 0, .null, [], []),
  (3, .iload_n 3, 1, 3, 0, .null, [], []),
  (4, .iconst 3, 1, 0, 0, .int (3), [], []),
  (5, .iand, 1, 0, 0, .null, [], []),
  (6, .iadd, 1, 0, 0, .null, [], []),
  (7, .istore 6, 2, 6, 0, .null, [], []),
  (9, .iload 6, 2, 6, 0, .null, [], []),
  (11, .ifCond .lt 27, 3, 0, 38, .null, [], []),
  (14, .iload 6, 2, 6, 0, .null, [], []),
  (16, .sipush 144, 3, 0, 0, .int (144), [], []),
  (19, .if_icmp .ge 19, 3, 0, 38, .null, [], []),
  (22, .aload_n 0, 1, 0, 0, .null, [], []),
  (23, .getfield 20, 3, 3, 0, .null, [(4, 0)], [152]),
  (26, .iload_n 1, 1, 1, 0, .null, [], []),
  (27, .iconst 3, 1, 0, 0, .int (3), [], []),
  (28, .iand, 1, 0, 0, .null, [], []),
  (29, .aaload, 1, 0, 0, .null, [], []),
  (30, .iload 6, 2, 6, 0, .null, [], []),
  (32, .dup2, 1, 0, 0, .null, [], []),
  (33, .laload, 1, 0, 0, .null, [], []),
  (34, .lload 4, 2, 4, 0, .null, [], []),
  (36, .ladd, 1, 0, 0, .null, [], []),
  (37, .lastore, 1, 0, 0, .null, [], []),
  (38, .return_, 1, 0, 0, .null, [], [])]
def miX4_add : ev_MI := (RX4, yX4_add, cX4_add, 7, none, eiX4_add, [518])
def eiX4_narrowTo : List ev_E := [(0, .aload_n 0, 1, 0, 0, .null, [], []),
  (1, .getfield 20, 3, 3, 0, .null, [(4, 0)], [152]),
  (4, .iload_n 1, 1, 1, 0, .null, [], []),
  (5, .iconst 3, 1, 0, 0, .int (3), [], []),
  (6, .iand, 1, 0, 0, .null, [], []),
  (7, .aaload, 1, 0, 0, .null, [], []),
  (8, .astore_n 2, 1, 2, 0, .null, [], []),
  (9, .lconst 0, 1, 0, 0, .long (0), [], []),
  (10, .lstore_n 3, 1, 3, 0, .null, [], []),
  (11, .iconst 0, 1, 0, 0, .int (0), [], []),
  (12, .istore 5, 2, 5, 0, .null, [], []),
  (14, .iload 5, 2, 5, 0, .null, [], []),
  (16, .aload_n 2, 1, 2, 0, .null, [], []),
  (17, .arraylength, 1, 0, 0, .null, [], []),
  (18, .if_icmp .ge 24, 3, 0, 42, .null, [], []),
  (21, .lload_n 3, 1, 3, 0, .null, [], []),
  (22, .lconst 1, 1, 0, 0, .long (1), [], []),
  (23, .lcmp, 1, 0, 0, .null, [], []),
  (24, .ifCond .eq 18, 3, 0, 42, .null, [], []),
  (27, .aload_n 2, 1, 2, 0, .null, [], []),
  (28, .iload 5, 2, 5, 0, .null, [], []),
  (30, .laload, 1, 0, 0, .null, [], []),
  (31, .lload_n 3, 1, 3, 0, .null, [], []),
  (32, .invokestatic 92, 3, 2, 0, .null, [(0, 117)], [523, 524, 57]),
  (35, .lstore_n 3, 1, 3, 0, .null, [], []),
  (36, .iinc 5 1, 3, 5, 0, .int (1), [], []),
  (39, .goto (-25), 3, 0, 14, .null, [], []),
  (42, .lload_n 3, 1, 3, 0, .null, [], []),
  (43, .lconst 0, 1, 0, 0, .long (0), [], []),
  (44, .lcmp, 1, 0, 0, .null, [], []),
  (45, .ifCond .ne 6, 3, 0, 51, .null, [], []),
  (48, .bipush (-103), 2, 0, 0, .int (-103), [], []),
  (50, .ireturn, 1, 0, 0, .null, [], []),
  (51, .iconst 0, 1, 0, 0, .int (0), [], []),
  (52, .istore 5, 2, 5, 0, .null, [], []),
  (54, .iload 5, 2, 5, 0, .null, [], []),
  (56, .aload_n 0, 1, 0, 0, .null, [], []),
  (57, .getfield 9, 3, 1, 0, .null, [(4, 0)], [150]),
  (60, .arraylength, 1, 0, 0, .null, [], []),
  (61, .if_icmp .ge 29, 3, 0, 90, .null, [], []),
  (64, .iload 5, 2, 5, 0, .null, [], []),
  (66, .aload_n 2, 1, 2, 0, .null, [], []),
  (67, .arraylength, 1, 0, 0, .null, [], []),
  (68, .if_icmp .ge 22, 3, 0, 90, .null, [], []),
  (71, .aload_n 0, 1, 0, 0, .null, [], []),
  (72, .getfield 9, 3, 1, 0, .null, [(4, 0)], [150]),
  (75, .iload 5, 2, 5, 0, .null, [], []),
  (77, .aload_n 2, 1, 2, 0, .null, [], []),
  (78, .iload 5, 2, 5, 0, .null, [], []),
  (80, .laload, 1, 0, 0, .null, [], []),
  (81, .lload_n 3, 1, 3, 0, .null, [], []),
  (82, .ldiv, 1, 0, 0, .null, [], []),
  (83, .lastore, 1, 0, 0, .null, [], []),
  (84, .iinc 5 1, 3, 5, 0, .int (1), [], []),
  (87, .goto (-33), 3, 0, 54, .null, [], []),
  (90, .aload_n 0, 1, 0, 0, .null, [], []),
  (91, .dup, 1, 0, 0, .null, [], []),
  (92, .getfield 33, 3, 4, 0, .null, [(4, 0)], [153]),
  (95, .iconst 1, 1, 0, 0, .int (1), [], []),
  (96, .iadd, 1, 0, 0, .null, [], []),
  (97, .putfield 33, 3, 4, 0, .null, [(4, 0)], [153]),
  (100, .aload_n 0, 1, 0, 0, .null, [], []),
  (101, .invokevirtual 96, 3, 0, 0, .null, [(4, 23)], [526, 500, 501, 60, 0, 0, 0, 0]),
  (104, .ireturn, 1, 0, 0, .null, [], [])]
def miX4_narrowTo : ev_MI := (RX4, yX4_narrowTo, cX4_narrowTo, 6, (some .int), eiX4_narrowTo, [522])
def eiX4_likeliestOfAll : List ev_E := [(0, .lconst 0, 1, 0, 0, .long (0), [], []),
  (1, .lstore_n 1, 1, 1, 0, .null, [], []),
  (2, .iconst 0, 1, 0, 0, .int (0), [], []),
  (3, .istore_n 3, 1, 3, 0, .null, [], []),
  (4, .iload_n 3, 1, 3, 0, .null, [], []),
  (5, .iconst 4, 1, 0, 0, .int (4), [], []),
  (6, .if_icmp .ge 52, 3, 0, 58, .null, [], []),
  (9, .lconst 0, 1, 0, 0, .long (0), [], []),
  (10, .lstore 4, 2, 4, 0, .null, [], []),
  (12, .iconst 0, 1, 0, 0, .int (0), [], []),
  (13, .istore 6, 2, 6, 0, .null, [], []),
  (15, .iload 6, 2, 6, 0, .null, [], []),
  (17, .sipush 144, 3, 0, 0, .int (144), [], []),
  (20, .if_icmp .ge 27, 3, 0, 47, .null, [], []),
  (23, .lload 4, 2, 4, 0, .null, [], []),
  (25, .aload_n 0, 1, 0, 0, .null, [], []),
  (26, .getfield 20, 3, 3, 0, .null, [(4, 0)], [152]),
  (29, .iload_n 3, 1, 3, 0, .null, [], []),
  (30, .aaload, 1, 0, 0, .null, [], []),
  (31, .iload 6, 2, 6, 0, .null, [], []),
  (33, .invokestatic 52, 3, 2, 0, .null, [(0, 26)], [575, 576, 60]),
  (36, .invokestatic 100, 3, 102, 0, .null, [], [620, 621, 66, 622]),
  (39, .lstore 4, 2, 4, 0, .null, [], []),
  (41, .iinc 6 4, 3, 6, 0, .int (4), [], []),
  (44, .goto (-29), 3, 0, 15, .null, [], []),
  (47, .lload_n 1, 1, 1, 0, .null, [], []),
  (48, .lload 4, 2, 4, 0, .null, [], []),
  (50, .ladd, 1, 0, 0, .null, [], []),
  (51, .lstore_n 1, 1, 1, 0, .null, [], []),
  (52, .iinc 3 1, 3, 3, 0, .int (1), [], []),
  (55, .goto (-51), 3, 0, 4, .null, [], []),
  (58, .lload_n 1, 1, 1, 0, .null, [], []),
  (59, .lreturn, 1, 0, 0, .null, [], [])]
def miX4_likeliestOfAll : ev_MI := (RX4, yX4_likeliestOfAll, cX4_likeliestOfAll, 7, (some .long), eiX4_likeliestOfAll, [619])
def eiX4_mixInto : List ev_E := [(0, .lload_n 1, 1, 1, 0, .null, [], []),
  (1, .lstore_n 3, 1, 3, 0, .null, [], []),
  (2, .iconst 0, 1, 0, 0, .int (0), [], []),
  (3, .istore 5, 2, 5, 0, .null, [], []),
  (5, .iload 5, 2, 5, 0, .null, [], []),
  (7, .aload_n 0, 1, 0, 0, .null, [], []),
  (8, .getfield 23, 3, 0, 0, .null, [(4, 0)], [149]),
  (11, .getfield 56, 3, 4, 0, .null, [(7, 0)], [124]),
  (14, .iconst 4, 1, 0, 0, .int (4), [], []),
  (15, .imul, 1, 0, 0, .null, [], []),
  (16, .if_icmp .ge 31, 3, 0, 47, .null, [], []),
  (19, .iload 5, 2, 5, 0, .null, [], []),
  (21, .aload_n 0, 1, 0, 0, .null, [], []),
  (22, .getfield 9, 3, 1, 0, .null, [(4, 0)], [150]),
  (25, .arraylength, 1, 0, 0, .null, [], []),
  (26, .if_icmp .ge 21, 3, 0, 47, .null, [], []),
  (29, .lload_n 3, 1, 3, 0, .null, [], []),
  (30, .aload_n 0, 1, 0, 0, .null, [], []),
  (31, .getfield 9, 3, 1, 0, .null, [(4, 0)], [150]),
  (34, .iload 5, 2, 5, 0, .null, [], []),
  (36, .laload, 1, 0, 0, .null, [], []),
  (37, .invokestatic 105, 3, 2, 0, .null, [(0, 116)], [1027, 1020, 57]),
  (40, .lstore_n 3, 1, 3, 0, .null, [], []),
  (41, .iinc 5 1, 3, 5, 0, .int (1), [], []),
  (44, .goto (-39), 3, 0, 5, .null, [], []),
  (47, .lload_n 3, 1, 3, 0, .null, [], []),
  (48, .lreturn, 1, 0, 0, .null, [], [])]
def miX4_mixInto : ev_MI := (RX4, yX4_mixInto, cX4_mixInto, 6, (some .long), eiX4_mixInto, [1026])
def eiX5_lettersIn : List ev_E := [(0, .iconst 0, 1, 0, 0, .int (0), [], []),
  (1, .istore_n 2, 1, 2, 0, .null, [], []),
  (2, .iconst 0, 1, 0, 0, .int (0), [], []),
  (3, .istore_n 3, 1, 3, 0, .null, [], []),
  (4, .iload_n 3, 1, 3, 0, .null, [], []),
  (5, .bipush 8, 2, 0, 0, .int (8), [], []),
  (7, .if_icmp .ge 44, 3, 0, 51, .null, [], []),
  (10, .lload_n 0, 1, 0, 0, .null, [], []),
  (11, .iload_n 3, 1, 3, 0, .null, [], []),
  (12, .invokestatic 15, 3, 2, 0, .null, [(0, 40)], [293, 294, 58]),
  (15, .istore 4, 2, 4, 0, .null, [], []),
  (17, .iload 4, 2, 4, 0, .null, [], []),
  (19, .bipush 126, 2, 0, 0, .int (126), [], []),
  (21, .if_icmp .gt 13, 3, 0, 34, .null, [], []),
  (24, .iload 4, 2, 4, 0, .null, [], []),
  (26, .ifCond .eq 11, 3, 0, 37, .null, [], []),
  (29, .iload_n 2, 1, 2, 0, .null, [], []),
  (30, .iload_n 3, 1, 3, 0, .null, [], []),
  (31, .if_icmp .ge 6, 3, 0, 37, .null, [], []),
  (34, .bipush (-102), 2, 0, 0, .int (-102), [], []),
  (36, .ireturn, 1, 0, 0, .null, [], []),
  (37, .iload 4, 2, 4, 0, .null, [], []),
  (39, .ifCond .eq 6, 3, 0, 45, .null, [], []),
  (42, .iinc 2 1, 3, 2, 0, .int (1), [], []),
  (45, .iinc 3 1, 3, 3, 0, .int (1), [], []),
  (48, .goto (-44), 3, 0, 4, .null, [], []),
  (51, .iload_n 2, 1, 2, 0, .null, [], []),
  (52, .ireturn, 1, 0, 0, .null, [], [])]
def miX5_lettersIn : ev_MI := (RX5, yX5_lettersIn, cX5_lettersIn, 5, (some .int), eiX5_lettersIn, [292])
def eiX5_codeAt : List ev_E := [(0, .lload_n 0, 1, 0, 0, .null, [], []),
  (1, .bipush 8, 2, 0, 0, .int (8), [], []),
  (3, .iload_n 2, 1, 2, 0, .null, [], []),
  (4, .imul, 1, 0, 0, .null, [], []),
  (5, .lushr, 1, 0, 0, .null, [], []),
  (6, .l2i, 1, 0, 0, .null, [], []),
  (7, .sipush 255, 3, 0, 0, .int (255), [], []),
  (10, .iand, 1, 0, 0, .null, [], []),
  (11, .ireturn, 1, 0, 0, .null, [], [])]
def miX5_codeAt : ev_MI := (RX5, yX5_codeAt, cX5_codeAt, 3, (some .int), eiX5_codeAt, [295])
def eiX5_write : List ev_E := [(0, .iconst 0, 1, 0, 0, .int (0), [], []),
  (1, .istore 4, 2, 4, 0, .null, [], []),
  (3, .iload 4, 2, 4, 0, .null, [], []),
  (5, .iload_n 3, 1, 3, 0, .null, [], []),
  (6, .if_icmp .ge 47, 3, 0, 53, .null, [], []),
  (9, .aload_n 0, 1, 0, 0, .null, [], []),
  (10, .getfield 19, 3, 1, 0, .null, [(5, 0)], [95]),
  (13, .aload_n 0, 1, 0, 0, .null, [], []),
  (14, .getfield 9, 3, 0, 0, .null, [(5, 0)], [92]),
  (17, .arraylength, 1, 0, 0, .null, [], []),
  (18, .if_icmp .ge 35, 3, 0, 53, .null, [], []),
  (21, .aload_n 0, 1, 0, 0, .null, [], []),
  (22, .getfield 9, 3, 0, 0, .null, [(5, 0)], [92]),
  (25, .aload_n 0, 1, 0, 0, .null, [], []),
  (26, .getfield 19, 3, 1, 0, .null, [(5, 0)], [95]),
  (29, .lload_n 1, 1, 1, 0, .null, [], []),
  (30, .iload 4, 2, 4, 0, .null, [], []),
  (32, .invokestatic 15, 3, 2, 0, .null, [(0, 40)], [293, 294, 58]),
  (35, .i2c, 1, 0, 0, .null, [], []),
  (36, .castore, 1, 0, 0, .null, [], []),
  (37, .aload_n 0, 1, 0, 0, .null, [], []),
  (38, .dup, 1, 0, 0, .null, [], []),
  (39, .getfield 19, 3, 1, 0, .null, [(5, 0)], [95]),
  (42, .iconst 1, 1, 0, 0, .int (1), [], []),
  (43, .iadd, 1, 0, 0, .null, [], []),
  (44, .putfield 19, 3, 1, 0, .null, [(5, 0)], [95]),
  (47, .iinc 4 1, 3, 4, 0, .int (1), [], []),
  (50, .goto (-47), 3, 0, 3, .null, [], []),
  (53, .return_, 1, 0, 0, .null, [], [])]
def miX5_write : ev_MI := (RX5, yX5_write, cX5_write, 5, none, eiX5_write, [299])
def eiX5_kindAt : List ev_E := [(0, .iload_n 1, 1, 1, 0, .null, [], []),
  (1, .ifCond .lt 26, 3, 0, 27, .null, [], []),
  (4, .iload_n 1, 1, 1, 0, .null, [], []),
  (5, .aload_n 0, 1, 0, 0, .null, [], []),
  (6, .getfield 9, 3, 0, 0, .null, [(5, 0)], [92]),
  (9, .arraylength, 1, 0, 0, .null, [], []),
  (10, .if_icmp .ge 17, 3, 0, 27, .null, [], []),
  (13, .ldc 23, 2, 0, 0, .ref 2000, [], []),
  (15, .aload_n 0, 1, 0, 0, .null, [], []),
  (16, .getfield 9, 3, 0, 0, .null, [(5, 0)], [92]),
  (19, .iload_n 1, 1, 1, 0, .null, [], []),
  (20, .caload, 1, 0, 0, .null, [], []),
  (21, .invokevirtual 25, 3, 1, 0, .null, [(2000, 205)], [321, 322, 323, 64, 0, 0, 0, 0]),
  (24, .goto 4, 3, 0, 28, .null, [], []),
  (27, .iconst (-1), 1, 0, 0, .int (-1), [], []),
  (28, .ireturn, 1, 0, 0, .null, [], [])]
def miX5_kindAt : ev_MI := (RX5, yX5_kindAt, cX5_kindAt, 2, (some .int), eiX5_kindAt, [319])
def eiX5_readOn : List ev_E := [(0, .aload_n 0, 1, 0, 0, .null, [], []),
  (1, .iconst 0, 1, 0, 0, .int (0), [], []),
  (2, .putfield 31, 3, 2, 0, .null, [(5, 0)], [96]),
  (5, .aload_n 0, 1, 0, 0, .null, [], []),
  (6, .iconst 0, 1, 0, 0, .int (0), [], []),
  (7, .putfield 34, 3, 3, 0, .null, [(5, 0)], [97]),
  (10, .aload_n 0, 1, 0, 0, .null, [], []),
  (11, .iconst 0, 1, 0, 0, .int (0), [], []),
  (12, .putfield 37, 3, 4, 0, .null, [(5, 0)], [98]),
  (15, .iconst 0, 1, 0, 0, .int (0), [], []),
  (16, .istore_n 1, 1, 1, 0, .null, [], []),
  (17, .iload_n 1, 1, 1, 0, .null, [], []),
  (18, .aload_n 0, 1, 0, 0, .null, [], []),
  (19, .getfield 19, 3, 1, 0, .null, [(5, 0)], [95]),
  (22, .if_icmp .ge 108, 3, 0, 130, .null, [], []),
  (25, .iload_n 1, 1, 1, 0, .null, [], []),
  (26, .aload_n 0, 1, 0, 0, .null, [], []),
  (27, .getfield 9, 3, 0, 0, .null, [(5, 0)], [92]),
  (30, .arraylength, 1, 0, 0, .null, [], []),
  (31, .if_icmp .ge 99, 3, 0, 130, .null, [], []),
  (34, .aload_n 0, 1, 0, 0, .null, [], []),
  (35, .getfield 9, 3, 0, 0, .null, [(5, 0)], [92]),
  (38, .iload_n 1, 1, 1, 0, .null, [], []),
  (39, .caload, 1, 0, 0, .null, [], []),
  (40, .bipush 47, 2, 0, 0, .int (47), [], []),
  (42, .if_icmp .ne 38, 3, 0, 80, .null, [], []),
  (45, .aload_n 0, 1, 0, 0, .null, [], []),
  (46, .invokevirtual 40, 3, 0, 0, .null, [(5, 44)], [312, 314, 0, 58, 0, 0, 0, 0]),
  (49, .ifCond .ne 5, 3, 0, 54, .null, [], []),
  (52, .iload_n 1, 1, 1, 0, .null, [], []),
  (53, .ireturn, 1, 0, 0, .null, [], []),
  (54, .aload_n 0, 1, 0, 0, .null, [], []),
  (55, .aload_n 0, 1, 0, 0, .null, [], []),
  (56, .getfield 34, 3, 3, 0, .null, [(5, 0)], [97]),
  (59, .putfield 37, 3, 4, 0, .null, [(5, 0)], [98]),
  (62, .aload_n 0, 1, 0, 0, .null, [], []),
  (63, .iconst 0, 1, 0, 0, .int (0), [], []),
  (64, .putfield 34, 3, 3, 0, .null, [(5, 0)], [97]),
  (67, .aload_n 0, 1, 0, 0, .null, [], []),
  (68, .dup, 1, 0, 0, .null, [], []),
  (69, .getfield 31, 3, 2, 0, .null, [(5, 0)], [96]),
  (72, .iconst 1, 1, 0, 0, .int (1), [], []),
  (73, .iadd, 1, 0, 0, .null, [], []),
  (74, .putfield 31, 3, 2, 0, .null, [(5, 0)], [96]),
  (77, .goto 47, 3, 0, 124, .null, [], []),
  (80, .aload_n 0, 1, 0, 0, .null, [], []),
  (81, .iload_n 1, 1, 1, 0, .null, [], []),
  (82, .invokevirtual 44, 3, 1, 0, .null, [(5, 42)], [316, 317, 318, 58, 0, 0, 0, 0]),
  (85, .iconst (-1), 1, 0, 0, .int (-1), [], []),
  (86, .if_icmp .eq 26, 3, 0, 112, .null, [], []),
  (89, .aload_n 0, 1, 0, 0, .null, [], []),
  (90, .getfield 34, 3, 3, 0, .null, [(5, 0)], [97]),
  (93, .aload_n 0, 1, 0, 0, .null, [], []),
  (94, .getfield 31, 3, 2, 0, .null, [(5, 0)], [96]),
  (97, .ifCond .ne 8, 3, 0, 105, .null, [], []),
  (100, .bipush 6, 2, 0, 0, .int (6), [], []),
  (102, .goto 7, 3, 0, 109, .null, [], []),
  (105, .aload_n 0, 1, 0, 0, .null, [], []),
  (106, .getfield 37, 3, 4, 0, .null, [(5, 0)], [98]),
  (109, .if_icmp .lt 5, 3, 0, 114, .null, [], []),
  (112, .iload_n 1, 1, 1, 0, .null, [], []),
  (113, .ireturn, 1, 0, 0, .null, [], []),
  (114, .aload_n 0, 1, 0, 0, .null, [], []),
  (115, .dup, 1, 0, 0, .null, [], []),
  (116, .getfield 34, 3, 3, 0, .null, [(5, 0)], [97]),
  (119, .iconst 1, 1, 0, 0, .int (1), [], []),
  (120, .iadd, 1, 0, 0, .null, [], []),
  (121, .putfield 34, 3, 3, 0, .null, [(5, 0)], [97]),
  (124, .iinc 1 1, 3, 1, 0, .int (1), [], []),
  (127, .goto (-110), 3, 0, 17, .null, [], []),
  (130, .aload_n 0, 1, 0, 0, .null, [], []),
  (131, .getfield 19, 3, 1, 0, .null, [(5, 0)], [95]),
  (134, .ireturn, 1, 0, 0, .null, [], [])]
def miX5_readOn : ev_MI := (RX5, yX5_readOn, cX5_readOn, 2, (some .int), eiX5_readOn, [311])
def eiX5_mayEndRow : List ev_E := [(0, .aload_n 0, 1, 0, 0, .null, [], []),
  (1, .getfield 31, 3, 2, 0, .null, [(5, 0)], [96]),
  (4, .iconst 5, 1, 0, 0, .int (5), [], []),
  (5, .if_icmp .ge 36, 3, 0, 41, .null, [], []),
  (8, .aload_n 0, 1, 0, 0, .null, [], []),
  (9, .getfield 31, 3, 2, 0, .null, [(5, 0)], [96]),
  (12, .ifCond .ne 14, 3, 0, 26, .null, [], []),
  (15, .aload_n 0, 1, 0, 0, .null, [], []),
  (16, .getfield 34, 3, 3, 0, .null, [(5, 0)], [97]),
  (19, .iconst 2, 1, 0, 0, .int (2), [], []),
  (20, .if_icmp .lt 21, 3, 0, 41, .null, [], []),
  (23, .goto 14, 3, 0, 37, .null, [], []),
  (26, .aload_n 0, 1, 0, 0, .null, [], []),
  (27, .getfield 34, 3, 3, 0, .null, [(5, 0)], [97]),
  (30, .aload_n 0, 1, 0, 0, .null, [], []),
  (31, .getfield 37, 3, 4, 0, .null, [(5, 0)], [98]),
  (34, .if_icmp .ne 7, 3, 0, 41, .null, [], []),
  (37, .iconst 1, 1, 0, 0, .int (1), [], []),
  (38, .goto 4, 3, 0, 42, .null, [], []),
  (41, .iconst 0, 1, 0, 0, .int (0), [], []),
  (42, .ireturn, 1, 0, 0, .null, [], [])]
def miX5_mayEndRow : ev_MI := (RX5, yX5_mayEndRow, cX5_mayEndRow, 1, (some .boolean), eiX5_mayEndRow, [315])
def eiX5_isWhole : List ev_E := [(0, .aload_n 0, 1, 0, 0, .null, [], []),
  (1, .invokevirtual 47, 3, 0, 0, .null, [(5, 43)], [416, 309, 310, 58, 0, 0, 0, 0]),
  (4, .aload_n 0, 1, 0, 0, .null, [], []),
  (5, .getfield 19, 3, 1, 0, .null, [(5, 0)], [95]),
  (8, .if_icmp .ne 25, 3, 0, 33, .null, [], []),
  (11, .aload_n 0, 1, 0, 0, .null, [], []),
  (12, .getfield 31, 3, 2, 0, .null, [(5, 0)], [96]),
  (15, .ifCond .le 18, 3, 0, 33, .null, [], []),
  (18, .aload_n 0, 1, 0, 0, .null, [], []),
  (19, .getfield 34, 3, 3, 0, .null, [(5, 0)], [97]),
  (22, .aload_n 0, 1, 0, 0, .null, [], []),
  (23, .getfield 37, 3, 4, 0, .null, [(5, 0)], [98]),
  (26, .if_icmp .ne 7, 3, 0, 33, .null, [], []),
  (29, .iconst 1, 1, 0, 0, .int (1), [], []),
  (30, .goto 4, 3, 0, 34, .null, [], []),
  (33, .iconst 0, 1, 0, 0, .int (0), [], []),
  (34, .ireturn, 1, 0, 0, .null, [], [])]
def miX5_isWhole : ev_MI := (RX5, yX5_isWhole, cX5_isWhole, 1, (some .boolean), eiX5_isWhole, [415])
def eiX5_hasFree : List ev_E := [(0, .iconst 0, 1, 0, 0, .int (0), [], []),
  (1, .istore_n 1, 1, 1, 0, .null, [], []),
  (2, .iload_n 1, 1, 1, 0, .null, [], []),
  (3, .aload_n 0, 1, 0, 0, .null, [], []),
  (4, .getfield 19, 3, 1, 0, .null, [(5, 0)], [95]),
  (7, .if_icmp .ge 26, 3, 0, 33, .null, [], []),
  (10, .aload_n 0, 1, 0, 0, .null, [], []),
  (11, .iload_n 1, 1, 1, 0, .null, [], []),
  (12, .invokevirtual 44, 3, 1, 0, .null, [(5, 42)], [316, 317, 318, 58, 0, 0, 0, 0]),
  (15, .istore_n 2, 1, 2, 0, .null, [], []),
  (16, .iload_n 2, 1, 2, 0, .null, [], []),
  (17, .ifCond .eq 8, 3, 0, 25, .null, [], []),
  (20, .iload_n 2, 1, 2, 0, .null, [], []),
  (21, .iconst 1, 1, 0, 0, .int (1), [], []),
  (22, .if_icmp .ne 5, 3, 0, 27, .null, [], []),
  (25, .iconst 1, 1, 0, 0, .int (1), [], []),
  (26, .ireturn, 1, 0, 0, .null, [], []),
  (27, .iinc 1 1, 3, 1, 0, .int (1), [], []),
  (30, .goto (-28), 3, 0, 2, .null, [], []),
  (33, .iconst 0, 1, 0, 0, .int (0), [], []),
  (34, .ireturn, 1, 0, 0, .null, [], [])]
def miX5_hasFree : ev_MI := (RX5, yX5_hasFree, cX5_hasFree, 3, (some .boolean), eiX5_hasFree, [420])
def eiX5_mixInto : List ev_E := [(0, .lload_n 1, 1, 1, 0, .null, [], []),
  (1, .lstore_n 3, 1, 3, 0, .null, [], []),
  (2, .iconst 0, 1, 0, 0, .int (0), [], []),
  (3, .istore 5, 2, 5, 0, .null, [], []),
  (5, .iload 5, 2, 5, 0, .null, [], []),
  (7, .aload_n 0, 1, 0, 0, .null, [], []),
  (8, .getfield 19, 3, 1, 0, .null, [(5, 0)], [95]),
  (11, .if_icmp .ge 32, 3, 0, 43, .null, [], []),
  (14, .iload 5, 2, 5, 0, .null, [], []),
  (16, .aload_n 0, 1, 0, 0, .null, [], []),
  (17, .getfield 9, 3, 0, 0, .null, [(5, 0)], [92]),
  (20, .arraylength, 1, 0, 0, .null, [], []),
  (21, .if_icmp .ge 22, 3, 0, 43, .null, [], []),
  (24, .lload_n 3, 1, 3, 0, .null, [], []),
  (25, .aload_n 0, 1, 0, 0, .null, [], []),
  (26, .getfield 9, 3, 0, 0, .null, [(5, 0)], [92]),
  (29, .iload 5, 2, 5, 0, .null, [], []),
  (31, .caload, 1, 0, 0, .null, [], []),
  (32, .i2l, 1, 0, 0, .null, [], []),
  (33, .invokestatic 51, 3, 2, 0, .null, [(0, 116)], [1042, 1020, 57]),
  (36, .lstore_n 3, 1, 3, 0, .null, [], []),
  (37, .iinc 5 1, 3, 5, 0, .int (1), [], []),
  (40, .goto (-35), 3, 0, 5, .null, [], []),
  (43, .lload_n 3, 1, 3, 0, .null, [], []),
  (44, .lreturn, 1, 0, 0, .null, [], [])]
def miX5_mixInto : ev_MI := (RX5, yX5_mixInto, cX5_mixInto, 6, (some .long), eiX5_mixInto, [1041])
def eiX6_kind : List ev_E := [(0, .iconst 0, 1, 0, 0, .int (0), [], []),
  (1, .ireturn, 1, 0, 0, .null, [], [])]
def miX6_kind : ev_MI := (RX6, yX6_kind, cX6_kind, 1, (some .int), eiX6_kind, [802])
def eiX6_goOn : List ev_E := [(0, .return_, 1, 0, 0, .null, [], [])]
def miX6_goOn : ev_MI := (RX6, yX6_goOn, cX6_goOn, 5, none, eiX6_goOn, [854])
def eiX6_callsFrom : List ev_E := [(0, .iconst (-1), 1, 0, 0, .int (-1), [], []),
  (1, .ireturn, 1, 0, 0, .null, [], [])]
def miX6_callsFrom : ev_MI := (RX6, yX6_callsFrom, cX6_callsFrom, 2, (some .int), eiX6_callsFrom, [872])
def eiX6_isCaught : List ev_E := [(0, .iconst 1, 1, 0, 0, .int (1), [], []),
  (1, .ireturn, 1, 0, 0, .null, [], [])]
def miX6_isCaught : ev_MI := (RX6, yX6_isCaught, cX6_isCaught, 2, (some .boolean), eiX6_isCaught, [906])
def eiX6_detail : List ev_E := [(0, .iload_n 1, 1, 1, 0, .null, [], []),
  (1, .tableswitch 51 0 3 #[31, 36, 41, 46], 31, 0, 52, .null, [(0, 32), (1, 37), (2, 42), (3, 47)], []),
  (32, .aload_n 0, 1, 0, 0, .null, [], []),
  (33, .invokevirtual 15, 3, 0, 0, .null, [(0, 0), (1, 2), (2, 4), (6, 48), (9, 77), (10, 79)], [783, 786, 787, 788, 76, 784, 802, 0, 783, 786, 790, 791, 74, 784, 802, 0, 783, 786, 793, 794, 75, 784, 802, 0, 783, 784, 785, 71, 0, 0, 0, 0, 783, 786, 796, 797, 72, 784, 802, 0, 783, 786, 799, 800, 73, 784, 802, 0]),
  (36, .ireturn, 1, 0, 0, .null, [], []),
  (37, .aload_n 0, 1, 0, 0, .null, [], []),
  (38, .getfield 19, 3, 0, 0, .null, [(0, 0), (1, 0), (2, 0), (6, 0), (9, 0), (10, 0)], [662]),
  (41, .ireturn, 1, 0, 0, .null, [], []),
  (42, .aload_n 0, 1, 0, 0, .null, [], []),
  (43, .getfield 22, 3, 3, 0, .null, [(0, 0), (1, 0), (2, 0), (6, 0), (9, 0), (10, 0)], [675]),
  (46, .ireturn, 1, 0, 0, .null, [], []),
  (47, .aload_n 0, 1, 0, 0, .null, [], []),
  (48, .getfield 25, 3, 4, 0, .null, [(0, 0), (1, 0), (2, 0), (6, 0), (9, 0), (10, 0)], [678]),
  (51, .ireturn, 1, 0, 0, .null, [], []),
  (52, .aload_n 0, 1, 0, 0, .null, [], []),
  (53, .getfield 28, 3, 5, 0, .null, [(0, 0), (1, 0), (2, 0), (6, 0), (9, 0), (10, 0)], [681]),
  (56, .ireturn, 1, 0, 0, .null, [], [])]
def miX6_detail : ev_MI := (RX6, yX6_detail, cX6_detail, 2, (some .int), eiX6_detail, [782])
def eiX7_readFrom : List ev_E := [(0, .aload_n 0, 1, 0, 0, .null, [], []),
  (1, .iconst 0, 1, 0, 0, .int (0), [], []),
  (2, .putfield 24, 3, 4, 0, .null, [(7, 0)], [121]),
  (5, .aload_n 0, 1, 0, 0, .null, [], []),
  (6, .iconst 0, 1, 0, 0, .int (0), [], []),
  (7, .putfield 28, 3, 5, 0, .null, [(7, 0)], [125]),
  (10, .iconst 0, 1, 0, 0, .int (0), [], []),
  (11, .istore_n 2, 1, 2, 0, .null, [], []),
  (12, .iconst 0, 1, 0, 0, .int (0), [], []),
  (13, .istore_n 3, 1, 3, 0, .null, [], []),
  (14, .iconst 0, 1, 0, 0, .int (0), [], []),
  (15, .istore 4, 2, 4, 0, .null, [], []),
  (17, .iload 4, 2, 4, 0, .null, [], []),
  (19, .aload_n 1, 1, 1, 0, .null, [], []),
  (20, .getfield 31, 3, 1, 0, .null, [(5, 0)], [94]),
  (23, .if_icmp .ge 42, 3, 0, 65, .null, [], []),
  (26, .aload_n 1, 1, 1, 0, .null, [], []),
  (27, .iload 4, 2, 4, 0, .null, [], []),
  (29, .invokevirtual 36, 3, 1, 0, .null, [(5, 42)], [425, 317, 318, 58, 0, 0, 0, 0]),
  (32, .istore 5, 2, 5, 0, .null, [], []),
  (34, .iload 5, 2, 5, 0, .null, [], []),
  (36, .iconst (-1), 1, 0, 0, .int (-1), [], []),
  (37, .if_icmp .ne 11, 3, 0, 48, .null, [], []),
  (40, .iinc 2 1, 3, 2, 0, .int (1), [], []),
  (43, .iconst 0, 1, 0, 0, .int (0), [], []),
  (44, .istore_n 3, 1, 3, 0, .null, [], []),
  (45, .goto 14, 3, 0, 59, .null, [], []),
  (48, .aload_n 0, 1, 0, 0, .null, [], []),
  (49, .iload 5, 2, 5, 0, .null, [], []),
  (51, .iload_n 2, 1, 2, 0, .null, [], []),
  (52, .iload_n 3, 1, 3, 0, .null, [], []),
  (53, .invokevirtual 40, 3, 3, 0, .null, [(7, 54)], [426, 428, 1, 59, 0, 0, 0, 0]),
  (56, .iinc 3 1, 3, 3, 0, .int (1), [], []),
  (59, .iinc 4 1, 3, 4, 0, .int (1), [], []),
  (62, .goto (-45), 3, 0, 17, .null, [], []),
  (65, .aload_n 0, 1, 0, 0, .null, [], []),
  (66, .iload_n 2, 1, 2, 0, .null, [], []),
  (67, .iconst 1, 1, 0, 0, .int (1), [], []),
  (68, .iadd, 1, 0, 0, .null, [], []),
  (69, .iload_n 3, 1, 3, 0, .null, [], []),
  (70, .invokevirtual 44, 3, 2, 0, .null, [(7, 55)], [430, 432, 2, 59, 0, 0, 0, 0]),
  (73, .return_, 1, 0, 0, .null, [], [])]
def miX7_readFrom : ev_MI := (RX7, yX7_readFrom, cX7_readFrom, 6, none, eiX7_readFrom, [424])
def eiX7_put : List ev_E := [(0, .aload_n 0, 1, 0, 0, .null, [], []),
  (1, .getfield 24, 3, 4, 0, .null, [(7, 0)], [121]),
  (4, .aload_n 0, 1, 0, 0, .null, [], []),
  (5, .getfield 9, 3, 0, 0, .null, [(7, 0)], [117]),
  (8, .arraylength, 1, 0, 0, .null, [], []),
  (9, .if_icmp .ge 66, 3, 0, 75, .null, [], []),
  (12, .aload_n 0, 1, 0, 0, .null, [], []),
  (13, .getfield 9, 3, 0, 0, .null, [(7, 0)], [117]),
  (16, .aload_n 0, 1, 0, 0, .null, [], []),
  (17, .getfield 24, 3, 4, 0, .null, [(7, 0)], [121]),
  (20, .iload_n 1, 1, 1, 0, .null, [], []),
  (21, .iastore, 1, 0, 0, .null, [], []),
  (22, .aload_n 0, 1, 0, 0, .null, [], []),
  (23, .getfield 15, 3, 1, 0, .null, [(7, 0)], [118]),
  (26, .aload_n 0, 1, 0, 0, .null, [], []),
  (27, .getfield 24, 3, 4, 0, .null, [(7, 0)], [121]),
  (30, .iload_n 2, 1, 2, 0, .null, [], []),
  (31, .iastore, 1, 0, 0, .null, [], []),
  (32, .aload_n 0, 1, 0, 0, .null, [], []),
  (33, .getfield 18, 3, 2, 0, .null, [(7, 0)], [119]),
  (36, .aload_n 0, 1, 0, 0, .null, [], []),
  (37, .getfield 24, 3, 4, 0, .null, [(7, 0)], [121]),
  (40, .iload_n 3, 1, 3, 0, .null, [], []),
  (41, .iastore, 1, 0, 0, .null, [], []),
  (42, .aload_n 0, 1, 0, 0, .null, [], []),
  (43, .dup, 1, 0, 0, .null, [], []),
  (44, .getfield 24, 3, 4, 0, .null, [(7, 0)], [121]),
  (47, .iconst 1, 1, 0, 0, .int (1), [], []),
  (48, .iadd, 1, 0, 0, .null, [], []),
  (49, .putfield 24, 3, 4, 0, .null, [(7, 0)], [121]),
  (52, .aload_n 0, 1, 0, 0, .null, [], []),
  (53, .dup, 1, 0, 0, .null, [], []),
  (54, .getfield 28, 3, 5, 0, .null, [(7, 0)], [125]),
  (57, .iload_n 1, 1, 1, 0, .null, [], []),
  (58, .ifCond .eq 8, 3, 0, 66, .null, [], []),
  (61, .iload_n 1, 1, 1, 0, .null, [], []),
  (62, .iconst 1, 1, 0, 0, .int (1), [], []),
  (63, .if_icmp .ne 7, 3, 0, 70, .null, [], []),
  (66, .iconst 1, 1, 0, 0, .int (1), [], []),
  (67, .goto 4, 3, 0, 71, .null, [], []),
  (70, .iconst 0, 1, 0, 0, .int (0), [], []),
  (71, .iadd, 1, 0, 0, .null, [], []),
  (72, .putfield 28, 3, 5, 0, .null, [(7, 0)], [125]),
  (75, .return_, 1, 0, 0, .null, [], [])]
def miX7_put : ev_MI := (RX7, yX7_put, cX7_put, 4, none, eiX7_put, [429])
def eiX7_findBeside : List ev_E := [(0, .iconst 0, 1, 0, 0, .int (0), [], []),
  (1, .istore_n 3, 1, 3, 0, .null, [], []),
  (2, .iload_n 3, 1, 3, 0, .null, [], []),
  (3, .aload_n 0, 1, 0, 0, .null, [], []),
  (4, .getfield 21, 3, 3, 0, .null, [(7, 0)], [120]),
  (7, .arraylength, 1, 0, 0, .null, [], []),
  (8, .if_icmp .ge 106, 3, 0, 114, .null, [], []),
  (11, .iload_n 3, 1, 3, 0, .null, [], []),
  (12, .iconst 4, 1, 0, 0, .int (4), [], []),
  (13, .idiv, 1, 0, 0, .null, [], []),
  (14, .istore 4, 2, 4, 0, .null, [], []),
  (16, .aload_n 0, 1, 0, 0, .null, [], []),
  (17, .iload 4, 2, 4, 0, .null, [], []),
  (19, .invokevirtual 48, 3, 1, 0, .null, [(7, 62)], [434, 435, 436, 59, 0, 0, 0, 0]),
  (22, .getstatic 51, 3, 0, 0, .ref 1001, [], []),
  (25, .iload_n 3, 1, 3, 0, .null, [], []),
  (26, .iconst 3, 1, 0, 0, .int (3), [], []),
  (27, .iand, 1, 0, 0, .null, [], []),
  (28, .iaload, 1, 1, 0, .null, [], []),
  (29, .iadd, 1, 0, 0, .null, [], []),
  (30, .istore 5, 2, 5, 0, .null, [], []),
  (32, .aload_n 0, 1, 0, 0, .null, [], []),
  (33, .iload 4, 2, 4, 0, .null, [], []),
  (35, .invokevirtual 54, 3, 1, 0, .null, [(7, 63)], [440, 441, 442, 59, 0, 0, 0, 0]),
  (38, .getstatic 57, 3, 0, 0, .ref 1002, [], []),
  (41, .iload_n 3, 1, 3, 0, .null, [], []),
  (42, .iconst 3, 1, 0, 0, .int (3), [], []),
  (43, .iand, 1, 0, 0, .null, [], []),
  (44, .iaload, 1, 1, 0, .null, [], []),
  (45, .iadd, 1, 0, 0, .null, [], []),
  (46, .istore 6, 2, 6, 0, .null, [], []),
  (48, .aload_n 0, 1, 0, 0, .null, [], []),
  (49, .iload 4, 2, 4, 0, .null, [], []),
  (51, .invokevirtual 60, 3, 1, 0, .null, [(7, 57)], [446, 447, 448, 59, 0, 0, 0, 0]),
  (54, .ifCond .eq 29, 3, 0, 83, .null, [], []),
  (57, .iload 5, 2, 5, 0, .null, [], []),
  (59, .iload_n 1, 1, 1, 0, .null, [], []),
  (60, .iconst 1, 1, 0, 0, .int (1), [], []),
  (61, .isub, 1, 0, 0, .null, [], []),
  (62, .invokestatic 64, 3, 2, 0, .null, [(0, 113)], [450, 451, 57]),
  (65, .ifCond .eq 18, 3, 0, 83, .null, [], []),
  (68, .iload 6, 2, 6, 0, .null, [], []),
  (70, .iload_n 2, 1, 2, 0, .null, [], []),
  (71, .iconst 1, 1, 0, 0, .int (1), [], []),
  (72, .isub, 1, 0, 0, .null, [], []),
  (73, .invokestatic 64, 3, 2, 0, .null, [(0, 113)], [450, 451, 57]),
  (76, .ifCond .eq 7, 3, 0, 83, .null, [], []),
  (79, .iconst 1, 1, 0, 0, .int (1), [], []),
  (80, .goto 4, 3, 0, 84, .null, [], []),
  (83, .iconst 0, 1, 0, 0, .int (0), [], []),
  (84, .istore 7, 2, 7, 0, .null, [], []),
  (86, .aload_n 0, 1, 0, 0, .null, [], []),
  (87, .getfield 21, 3, 3, 0, .null, [(7, 0)], [120]),
  (90, .iload_n 3, 1, 3, 0, .null, [], []),
  (91, .iload 7, 2, 7, 0, .null, [], []),
  (93, .ifCond .eq 13, 3, 0, 106, .null, [], []),
  (96, .iload 5, 2, 5, 0, .null, [], []),
  (98, .iload_n 2, 1, 2, 0, .null, [], []),
  (99, .imul, 1, 0, 0, .null, [], []),
  (100, .iload 6, 2, 6, 0, .null, [], []),
  (102, .iadd, 1, 0, 0, .null, [], []),
  (103, .goto 4, 3, 0, 107, .null, [], []),
  (106, .iconst (-1), 1, 0, 0, .int (-1), [], []),
  (107, .iastore, 1, 0, 0, .null, [], []),
  (108, .iinc 3 1, 3, 3, 0, .int (1), [], []),
  (111, .goto (-109), 3, 0, 2, .null, [], []),
  (114, .return_, 1, 0, 0, .null, [], [])]
def miX7_findBeside : ev_MI := (RX7, yX7_findBeside, cX7_findBeside, 8, none, eiX7_findBeside, [433])
def eiX7_isRead : List ev_E := [(0, .aload_n 0, 1, 0, 0, .null, [], []),
  (1, .getfield 24, 3, 4, 0, .null, [(7, 0)], [121]),
  (4, .ifCond .le 7, 3, 0, 11, .null, [], []),
  (7, .iconst 1, 1, 0, 0, .int (1), [], []),
  (8, .goto 4, 3, 0, 12, .null, [], []),
  (11, .iconst 0, 1, 0, 0, .int (0), [], []),
  (12, .ireturn, 1, 0, 0, .null, [], [])]
def miX7_isRead : ev_MI := (RX7, yX7_isRead, cX7_isRead, 1, (some .boolean), eiX7_isRead, [498])
def eiX7_has : List ev_E := [(0, .iload_n 1, 1, 1, 0, .null, [], []),
  (1, .ifCond .lt 15, 3, 0, 16, .null, [], []),
  (4, .iload_n 1, 1, 1, 0, .null, [], []),
  (5, .aload_n 0, 1, 0, 0, .null, [], []),
  (6, .getfield 24, 3, 4, 0, .null, [(7, 0)], [121]),
  (9, .if_icmp .ge 7, 3, 0, 16, .null, [], []),
  (12, .iconst 1, 1, 0, 0, .int (1), [], []),
  (13, .goto 4, 3, 0, 17, .null, [], []),
  (16, .iconst 0, 1, 0, 0, .int (0), [], []),
  (17, .ireturn, 1, 0, 0, .null, [], [])]
def miX7_has : ev_MI := (RX7, yX7_has, cX7_has, 2, (some .boolean), eiX7_has, [449])
def eiX7_kindOf : List ev_E := [(0, .iload_n 1, 1, 1, 0, .null, [], []),
  (1, .ifCond .lt 29, 3, 0, 30, .null, [], []),
  (4, .iload_n 1, 1, 1, 0, .null, [], []),
  (5, .aload_n 0, 1, 0, 0, .null, [], []),
  (6, .getfield 24, 3, 4, 0, .null, [(7, 0)], [121]),
  (9, .if_icmp .ge 21, 3, 0, 30, .null, [], []),
  (12, .iload_n 1, 1, 1, 0, .null, [], []),
  (13, .aload_n 0, 1, 0, 0, .null, [], []),
  (14, .getfield 9, 3, 0, 0, .null, [(7, 0)], [117]),
  (17, .arraylength, 1, 0, 0, .null, [], []),
  (18, .if_icmp .ge 12, 3, 0, 30, .null, [], []),
  (21, .aload_n 0, 1, 0, 0, .null, [], []),
  (22, .getfield 9, 3, 0, 0, .null, [(7, 0)], [117]),
  (25, .iload_n 1, 1, 1, 0, .null, [], []),
  (26, .iaload, 1, 0, 0, .null, [], []),
  (27, .goto 4, 3, 0, 31, .null, [], []),
  (30, .iconst 3, 1, 0, 0, .int (3), [], []),
  (31, .ireturn, 1, 0, 0, .null, [], [])]
def miX7_kindOf : ev_MI := (RX7, yX7_kindOf, cX7_kindOf, 2, (some .int), eiX7_kindOf, [477])
def eiX7_isFree : List ev_E := [(0, .iload_n 1, 1, 1, 0, .null, [], []),
  (1, .ifCond .lt 34, 3, 0, 35, .null, [], []),
  (4, .iload_n 1, 1, 1, 0, .null, [], []),
  (5, .aload_n 0, 1, 0, 0, .null, [], []),
  (6, .getfield 24, 3, 4, 0, .null, [(7, 0)], [121]),
  (9, .if_icmp .ge 26, 3, 0, 35, .null, [], []),
  (12, .iload_n 1, 1, 1, 0, .null, [], []),
  (13, .aload_n 0, 1, 0, 0, .null, [], []),
  (14, .getfield 9, 3, 0, 0, .null, [(7, 0)], [117]),
  (17, .arraylength, 1, 0, 0, .null, [], []),
  (18, .if_icmp .ge 17, 3, 0, 35, .null, [], []),
  (21, .aload_n 0, 1, 0, 0, .null, [], []),
  (22, .getfield 9, 3, 0, 0, .null, [(7, 0)], [117]),
  (25, .iload_n 1, 1, 1, 0, .null, [], []),
  (26, .iaload, 1, 0, 0, .null, [], []),
  (27, .iconst 1, 1, 0, 0, .int (1), [], []),
  (28, .if_icmp .gt 7, 3, 0, 35, .null, [], []),
  (31, .iconst 1, 1, 0, 0, .int (1), [], []),
  (32, .goto 4, 3, 0, 36, .null, [], []),
  (35, .iconst 0, 1, 0, 0, .int (0), [], []),
  (36, .ireturn, 1, 0, 0, .null, [], [])]
def miX7_isFree : ev_MI := (RX7, yX7_isFree, cX7_isFree, 2, (some .boolean), eiX7_isFree, [468])
def eiX7_firstFree : List ev_E := [(0, .iconst 0, 1, 0, 0, .int (0), [], []),
  (1, .istore_n 1, 1, 1, 0, .null, [], []),
  (2, .iload_n 1, 1, 1, 0, .null, [], []),
  (3, .aload_n 0, 1, 0, 0, .null, [], []),
  (4, .getfield 24, 3, 4, 0, .null, [(7, 0)], [121]),
  (7, .if_icmp .ge 19, 3, 0, 26, .null, [], []),
  (10, .aload_n 0, 1, 0, 0, .null, [], []),
  (11, .iload_n 1, 1, 1, 0, .null, [], []),
  (12, .invokevirtual 68, 3, 1, 0, .null, [(7, 59)], [846, 466, 467, 59, 0, 0, 0, 0]),
  (15, .ifCond .eq 5, 3, 0, 20, .null, [], []),
  (18, .iload_n 1, 1, 1, 0, .null, [], []),
  (19, .ireturn, 1, 0, 0, .null, [], []),
  (20, .iinc 1 1, 3, 1, 0, .int (1), [], []),
  (23, .goto (-21), 3, 0, 2, .null, [], []),
  (26, .iconst (-1), 1, 0, 0, .int (-1), [], []),
  (27, .ireturn, 1, 0, 0, .null, [], [])]
def miX7_firstFree : ev_MI := (RX7, yX7_firstFree, cX7_firstFree, 2, (some .int), eiX7_firstFree, [1037])
def eiX7_ahead : List ev_E := [(0, .iload_n 1, 1, 1, 0, .null, [], []),
  (1, .iconst 4, 1, 0, 0, .int (4), [], []),
  (2, .imul, 1, 0, 0, .null, [], []),
  (3, .iload_n 2, 1, 2, 0, .null, [], []),
  (4, .iconst 3, 1, 0, 0, .int (3), [], []),
  (5, .iand, 1, 0, 0, .null, [], []),
  (6, .iadd, 1, 0, 0, .null, [], []),
  (7, .istore_n 3, 1, 3, 0, .null, [], []),
  (8, .iload_n 3, 1, 3, 0, .null, [], []),
  (9, .ifCond .lt 21, 3, 0, 30, .null, [], []),
  (12, .iload_n 3, 1, 3, 0, .null, [], []),
  (13, .aload_n 0, 1, 0, 0, .null, [], []),
  (14, .getfield 21, 3, 3, 0, .null, [(7, 0)], [120]),
  (17, .arraylength, 1, 0, 0, .null, [], []),
  (18, .if_icmp .ge 12, 3, 0, 30, .null, [], []),
  (21, .aload_n 0, 1, 0, 0, .null, [], []),
  (22, .getfield 21, 3, 3, 0, .null, [(7, 0)], [120]),
  (25, .iload_n 3, 1, 3, 0, .null, [], []),
  (26, .iaload, 1, 0, 0, .null, [], []),
  (27, .goto 4, 3, 0, 31, .null, [], []),
  (30, .iconst (-1), 1, 0, 0, .int (-1), [], []),
  (31, .ireturn, 1, 0, 0, .null, [], [])]
def miX7_ahead : ev_MI := (RX7, yX7_ahead, cX7_ahead, 4, (some .int), eiX7_ahead, [542])
def eiX7_rowOf : List ev_E := [(0, .iload_n 1, 1, 1, 0, .null, [], []),
  (1, .ifCond .lt 21, 3, 0, 22, .null, [], []),
  (4, .iload_n 1, 1, 1, 0, .null, [], []),
  (5, .aload_n 0, 1, 0, 0, .null, [], []),
  (6, .getfield 15, 3, 1, 0, .null, [(7, 0)], [118]),
  (9, .arraylength, 1, 0, 0, .null, [], []),
  (10, .if_icmp .ge 12, 3, 0, 22, .null, [], []),
  (13, .aload_n 0, 1, 0, 0, .null, [], []),
  (14, .getfield 15, 3, 1, 0, .null, [(7, 0)], [118]),
  (17, .iload_n 1, 1, 1, 0, .null, [], []),
  (18, .iaload, 1, 0, 0, .null, [], []),
  (19, .goto 4, 3, 0, 23, .null, [], []),
  (22, .iconst 0, 1, 0, 0, .int (0), [], []),
  (23, .ireturn, 1, 0, 0, .null, [], [])]
def miX7_rowOf : ev_MI := (RX7, yX7_rowOf, cX7_rowOf, 2, (some .int), eiX7_rowOf, [437])
def eiX7_columnOf : List ev_E := [(0, .iload_n 1, 1, 1, 0, .null, [], []),
  (1, .ifCond .lt 21, 3, 0, 22, .null, [], []),
  (4, .iload_n 1, 1, 1, 0, .null, [], []),
  (5, .aload_n 0, 1, 0, 0, .null, [], []),
  (6, .getfield 18, 3, 2, 0, .null, [(7, 0)], [119]),
  (9, .arraylength, 1, 0, 0, .null, [], []),
  (10, .if_icmp .ge 12, 3, 0, 22, .null, [], []),
  (13, .aload_n 0, 1, 0, 0, .null, [], []),
  (14, .getfield 18, 3, 2, 0, .null, [(7, 0)], [119]),
  (17, .iload_n 1, 1, 1, 0, .null, [], []),
  (18, .iaload, 1, 0, 0, .null, [], []),
  (19, .goto 4, 3, 0, 23, .null, [], []),
  (22, .iconst 0, 1, 0, 0, .int (0), [], []),
  (23, .ireturn, 1, 0, 0, .null, [], [])]
def miX7_columnOf : ev_MI := (RX7, yX7_columnOf, cX7_columnOf, 2, (some .int), eiX7_columnOf, [443])
def eiX7_apart : List ev_E := [(0, .iload_n 1, 1, 1, 0, .null, [], []),
  (1, .ifCond .lt 21, 3, 0, 22, .null, [], []),
  (4, .iload_n 1, 1, 1, 0, .null, [], []),
  (5, .aload_n 0, 1, 0, 0, .null, [], []),
  (6, .getfield 15, 3, 1, 0, .null, [(7, 0)], [118]),
  (9, .arraylength, 1, 0, 0, .null, [], []),
  (10, .if_icmp .ge 12, 3, 0, 22, .null, [], []),
  (13, .iload_n 1, 1, 1, 0, .null, [], []),
  (14, .aload_n 0, 1, 0, 0, .null, [], []),
  (15, .getfield 18, 3, 2, 0, .null, [(7, 0)], [119]),
  (18, .arraylength, 1, 0, 0, .null, [], []),
  (19, .if_icmp .lt 5, 3, 0, 24, .null, [], []),
  (22, .iconst 0, 1, 0, 0, .int (0), [], []),
  (23, .ireturn, 1, 0, 0, .null, [], []),
  (24, .aload_n 0, 1, 0, 0, .null, [], []),
  (25, .getfield 15, 3, 1, 0, .null, [(7, 0)], [118]),
  (28, .iload_n 1, 1, 1, 0, .null, [], []),
  (29, .iaload, 1, 0, 0, .null, [], []),
  (30, .iload_n 2, 1, 2, 0, .null, [], []),
  (31, .isub, 1, 0, 0, .null, [], []),
  (32, .istore 4, 2, 4, 0, .null, [], []),
  (34, .aload_n 0, 1, 0, 0, .null, [], []),
  (35, .getfield 18, 3, 2, 0, .null, [(7, 0)], [119]),
  (38, .iload_n 1, 1, 1, 0, .null, [], []),
  (39, .iaload, 1, 0, 0, .null, [], []),
  (40, .iload_n 3, 1, 3, 0, .null, [], []),
  (41, .isub, 1, 0, 0, .null, [], []),
  (42, .istore 5, 2, 5, 0, .null, [], []),
  (44, .iload 4, 2, 4, 0, .null, [], []),
  (46, .ifCond .ge 9, 3, 0, 55, .null, [], []),
  (49, .iload 4, 2, 4, 0, .null, [], []),
  (51, .ineg, 1, 0, 0, .null, [], []),
  (52, .goto 5, 3, 0, 57, .null, [], []),
  (55, .iload 4, 2, 4, 0, .null, [], []),
  (57, .iload 5, 2, 5, 0, .null, [], []),
  (59, .ifCond .ge 9, 3, 0, 68, .null, [], []),
  (62, .iload 5, 2, 5, 0, .null, [], []),
  (64, .ineg, 1, 0, 0, .null, [], []),
  (65, .goto 5, 3, 0, 70, .null, [], []),
  (68, .iload 5, 2, 5, 0, .null, [], []),
  (70, .iadd, 1, 0, 0, .null, [], []),
  (71, .ireturn, 1, 0, 0, .null, [], [])]
def miX7_apart : ev_MI := (RX7, yX7_apart, cX7_apart, 6, (some .int), eiX7_apart, [844])
def eiX7_wayTo : List ev_E := [(0, .aload_n 0, 1, 0, 0, .null, [], []),
  (1, .iload_n 2, 1, 2, 0, .null, [], []),
  (2, .invokevirtual 48, 3, 1, 0, .null, [(7, 62)], [434, 435, 436, 59, 0, 0, 0, 0]),
  (5, .aload_n 0, 1, 0, 0, .null, [], []),
  (6, .iload_n 1, 1, 1, 0, .null, [], []),
  (7, .invokevirtual 48, 3, 1, 0, .null, [(7, 62)], [434, 435, 436, 59, 0, 0, 0, 0]),
  (10, .isub, 1, 0, 0, .null, [], []),
  (11, .istore_n 3, 1, 3, 0, .null, [], []),
  (12, .aload_n 0, 1, 0, 0, .null, [], []),
  (13, .iload_n 2, 1, 2, 0, .null, [], []),
  (14, .invokevirtual 54, 3, 1, 0, .null, [(7, 63)], [440, 441, 442, 59, 0, 0, 0, 0]),
  (17, .aload_n 0, 1, 0, 0, .null, [], []),
  (18, .iload_n 1, 1, 1, 0, .null, [], []),
  (19, .invokevirtual 54, 3, 1, 0, .null, [(7, 63)], [440, 441, 442, 59, 0, 0, 0, 0]),
  (22, .isub, 1, 0, 0, .null, [], []),
  (23, .istore 4, 2, 4, 0, .null, [], []),
  (25, .iload_n 3, 1, 3, 0, .null, [], []),
  (26, .ifCond .eq 25, 3, 0, 51, .null, [], []),
  (29, .iload_n 3, 1, 3, 0, .null, [], []),
  (30, .invokestatic 71, 3, 103, 0, .null, [], [562, 563, 66, 564]),
  (33, .iload 4, 2, 4, 0, .null, [], []),
  (35, .invokestatic 71, 3, 103, 0, .null, [], [562, 563, 66, 564]),
  (38, .if_icmp .lt 13, 3, 0, 51, .null, [], []),
  (41, .iload_n 3, 1, 3, 0, .null, [], []),
  (42, .ifCond .ge 7, 3, 0, 49, .null, [], []),
  (45, .iconst 0, 1, 0, 0, .int (0), [], []),
  (46, .goto 4, 3, 0, 50, .null, [], []),
  (49, .iconst 2, 1, 0, 0, .int (2), [], []),
  (50, .ireturn, 1, 0, 0, .null, [], []),
  (51, .iload 4, 2, 4, 0, .null, [], []),
  (53, .ifCond .le 7, 3, 0, 60, .null, [], []),
  (56, .iconst 1, 1, 0, 0, .int (1), [], []),
  (57, .goto 4, 3, 0, 61, .null, [], []),
  (60, .iconst 3, 1, 0, 0, .int (3), [], []),
  (61, .ireturn, 1, 0, 0, .null, [], [])]
def miX7_wayTo : ev_MI := (RX7, yX7_wayTo, cX7_wayTo, 5, (some .int), eiX7_wayTo, [561])
def eiX7_choose : List ev_E := [(0, .iload_n 1, 1, 1, 0, .null, [], []),
  (1, .istore 5, 2, 5, 0, .null, [], []),
  (3, .iload 4, 2, 4, 0, .null, [], []),
  (5, .aload_n 0, 1, 0, 0, .null, [], []),
  (6, .iload_n 1, 1, 1, 0, .null, [], []),
  (7, .iload_n 2, 1, 2, 0, .null, [], []),
  (8, .iload_n 3, 1, 3, 0, .null, [], []),
  (9, .invokevirtual 76, 3, 3, 0, .null, [(7, 64)], [841, 842, 843, 59, 0, 0, 0, 0]),
  (12, .imul, 1, 0, 0, .null, [], []),
  (13, .istore 6, 2, 6, 0, .null, [], []),
  (15, .iconst 0, 1, 0, 0, .int (0), [], []),
  (16, .istore 7, 2, 7, 0, .null, [], []),
  (18, .iload 7, 2, 7, 0, .null, [], []),
  (20, .iconst 4, 1, 0, 0, .int (4), [], []),
  (21, .if_icmp .ge 55, 3, 0, 76, .null, [], []),
  (24, .aload_n 0, 1, 0, 0, .null, [], []),
  (25, .iload_n 1, 1, 1, 0, .null, [], []),
  (26, .iload 7, 2, 7, 0, .null, [], []),
  (28, .invokevirtual 80, 3, 2, 0, .null, [(7, 61)], [845, 540, 541, 59, 0, 0, 0, 0]),
  (31, .istore 8, 2, 8, 0, .null, [], []),
  (33, .aload_n 0, 1, 0, 0, .null, [], []),
  (34, .iload 8, 2, 8, 0, .null, [], []),
  (36, .invokevirtual 68, 3, 1, 0, .null, [(7, 59)], [846, 466, 467, 59, 0, 0, 0, 0]),
  (39, .ifCond .eq 31, 3, 0, 70, .null, [], []),
  (42, .iload 4, 2, 4, 0, .null, [], []),
  (44, .aload_n 0, 1, 0, 0, .null, [], []),
  (45, .iload 8, 2, 8, 0, .null, [], []),
  (47, .iload_n 2, 1, 2, 0, .null, [], []),
  (48, .iload_n 3, 1, 3, 0, .null, [], []),
  (49, .invokevirtual 76, 3, 3, 0, .null, [(7, 64)], [841, 842, 843, 59, 0, 0, 0, 0]),
  (52, .imul, 1, 0, 0, .null, [], []),
  (53, .istore 9, 2, 9, 0, .null, [], []),
  (55, .iload 9, 2, 9, 0, .null, [], []),
  (57, .iload 6, 2, 6, 0, .null, [], []),
  (59, .if_icmp .ge 11, 3, 0, 70, .null, [], []),
  (62, .iload 9, 2, 9, 0, .null, [], []),
  (64, .istore 6, 2, 6, 0, .null, [], []),
  (66, .iload 8, 2, 8, 0, .null, [], []),
  (68, .istore 5, 2, 5, 0, .null, [], []),
  (70, .iinc 7 1, 3, 7, 0, .int (1), [], []),
  (73, .goto (-55), 3, 0, 18, .null, [], []),
  (76, .iload 5, 2, 5, 0, .null, [], []),
  (78, .ireturn, 1, 0, 0, .null, [], [])]
def miX7_choose : ev_MI := (RX7, yX7_choose, cX7_choose, 10, (some .int), eiX7_choose, [840])
def eiX7_mixInto : List ev_E := [(0, .lload_n 1, 1, 1, 0, .null, [], []),
  (1, .lstore_n 3, 1, 3, 0, .null, [], []),
  (2, .iconst 0, 1, 0, 0, .int (0), [], []),
  (3, .istore 5, 2, 5, 0, .null, [], []),
  (5, .iload 5, 2, 5, 0, .null, [], []),
  (7, .aload_n 0, 1, 0, 0, .null, [], []),
  (8, .getfield 24, 3, 4, 0, .null, [(7, 0)], [121]),
  (11, .if_icmp .ge 21, 3, 0, 32, .null, [], []),
  (14, .lload_n 3, 1, 3, 0, .null, [], []),
  (15, .aload_n 0, 1, 0, 0, .null, [], []),
  (16, .iload 5, 2, 5, 0, .null, [], []),
  (18, .invokevirtual 84, 3, 1, 0, .null, [(7, 58)], [1018, 475, 476, 59, 0, 0, 0, 0]),
  (21, .i2l, 1, 0, 0, .null, [], []),
  (22, .invokestatic 87, 3, 2, 0, .null, [(0, 116)], [1019, 1020, 57]),
  (25, .lstore_n 3, 1, 3, 0, .null, [], []),
  (26, .iinc 5 1, 3, 5, 0, .int (1), [], []),
  (29, .goto (-24), 3, 0, 5, .null, [], []),
  (32, .lload_n 3, 1, 3, 0, .null, [], []),
  (33, .lreturn, 1, 0, 0, .null, [], [])]
def miX7_mixInto : ev_MI := (RX7, yX7_mixInto, cX7_mixInto, 6, (some .long), eiX7_mixInto, [1017])
def eiX8_begin : List ev_E := [(0, .aload_n 0, 1, 0, 0, .null, [], []),
  (1, .iload_n 1, 1, 1, 0, .null, [], []),
  (2, .putfield 19, 3, 2, 0, .null, [(8, 0)], [180]),
  (5, .aload_n 0, 1, 0, 0, .null, [], []),
  (6, .iload_n 2, 1, 2, 0, .null, [], []),
  (7, .putfield 23, 3, 3, 0, .null, [(8, 0)], [181]),
  (10, .aload_n 0, 1, 0, 0, .null, [], []),
  (11, .iload_n 3, 1, 3, 0, .null, [], []),
  (12, .putfield 26, 3, 4, 0, .null, [(8, 0)], [182]),
  (15, .aload_n 0, 1, 0, 0, .null, [], []),
  (16, .iload 4, 2, 4, 0, .null, [], []),
  (18, .putfield 29, 3, 5, 0, .null, [(8, 0)], [183]),
  (21, .return_, 1, 0, 0, .null, [], [])]
def miX8_begin : ev_MI := (RX8, yX8_begin, cX8_begin, 5, none, eiX8_begin, [817])
def eiX8_play : List ev_E := [(0, .aload_n 0, 1, 0, 0, .null, [], []),
  (1, .iload_n 1, 1, 1, 0, .null, [], []),
  (2, .i2l, 1, 0, 0, .null, [], []),
  (3, .putfield 32, 3, 10, 1, .null, [(8, 0)], [188]),
  (6, .aload_n 0, 1, 0, 0, .null, [], []),
  (7, .aload_n 0, 1, 0, 0, .null, [], []),
  (8, .getfield 19, 3, 2, 0, .null, [(8, 0)], [180]),
  (11, .putfield 36, 3, 6, 0, .null, [(8, 0)], [184]),
  (14, .aload_n 0, 1, 0, 0, .null, [], []),
  (15, .aload_n 0, 1, 0, 0, .null, [], []),
  (16, .getfield 23, 3, 3, 0, .null, [(8, 0)], [181]),
  (19, .putfield 39, 3, 7, 0, .null, [(8, 0)], [185]),
  (22, .aload_n 0, 1, 0, 0, .null, [], []),
  (23, .iconst (-1), 1, 0, 0, .int (-1), [], []),
  (24, .putfield 42, 3, 9, 0, .null, [(8, 0)], [187]),
  (27, .aload_n 0, 1, 0, 0, .null, [], []),
  (28, .getfield 15, 3, 1, 0, .null, [(8, 0)], [179]),
  (31, .astore_n 2, 1, 2, 0, .null, [], []),
  (32, .aload_n 2, 1, 2, 0, .null, [], []),
  (33, .arraylength, 1, 0, 0, .null, [], []),
  (34, .istore_n 3, 1, 3, 0, .null, [], []),
  (35, .iconst 0, 1, 0, 0, .int (0), [], []),
  (36, .istore 4, 2, 4, 0, .null, [], []),
  (38, .iload 4, 2, 4, 0, .null, [], []),
  (40, .iload_n 3, 1, 3, 0, .null, [], []),
  (41, .if_icmp .ge 30, 3, 0, 71, .null, [], []),
  (44, .aload_n 2, 1, 2, 0, .null, [], []),
  (45, .iload 4, 2, 4, 0, .null, [], []),
  (47, .aaload, 1, 0, 0, .null, [], []),
  (48, .astore 5, 2, 5, 0, .null, [], []),
  (50, .aload 5, 2, 5, 0, .null, [], []),
  (52, .ifnull 13, 3, 0, 65, .null, [], []),
  (55, .aload 5, 2, 5, 0, .null, [], []),
  (57, .aload 5, 2, 5, 0, .null, [], []),
  (59, .getfield 45, 3, 0, 0, .null, [(0, 0), (1, 0), (2, 0), (6, 0), (9, 0), (10, 0)], [661]),
  (62, .putfield 50, 3, 2, 0, .null, [(0, 0), (1, 0), (2, 0), (6, 0), (9, 0), (10, 0)], [674]),
  (65, .iinc 4 1, 3, 4, 0, .int (1), [], []),
  (68, .goto (-30), 3, 0, 38, .null, [], []),
  (71, .iconst 0, 1, 0, 0, .int (0), [], []),
  (72, .istore_n 2, 1, 2, 0, .null, [], []),
  (73, .iload_n 2, 1, 2, 0, .null, [], []),
  (74, .aload_n 0, 1, 0, 0, .null, [], []),
  (75, .getfield 29, 3, 5, 0, .null, [(8, 0)], [183]),
  (78, .if_icmp .ge 58, 3, 0, 136, .null, [], []),
  (81, .aload_n 0, 1, 0, 0, .null, [], []),
  (82, .getfield 42, 3, 9, 0, .null, [(8, 0)], [187]),
  (85, .iconst (-1), 1, 0, 0, .int (-1), [], []),
  (86, .if_icmp .ne 50, 3, 0, 136, .null, [], []),
  (89, .aload_n 0, 1, 0, 0, .null, [], []),
  (90, .invokevirtual 53, 3, 0, 0, .null, [(8, 73)], [822, 824, 10, 61, 0, 0, 0, 0]),
  (93, .iload_n 2, 1, 2, 0, .null, [], []),
  (94, .iconst 3, 1, 0, 0, .int (3), [], []),
  (95, .irem, 1, 0, 0, .null, [], []),
  (96, .ifCond .ne 7, 3, 0, 103, .null, [], []),
  (99, .aload_n 0, 1, 0, 0, .null, [], []),
  (100, .invokevirtual 56, 3, 0, 0, .null, [(8, 74)], [855, 857, 11, 61, 0, 0, 0, 0]),
  (103, .aload_n 0, 1, 0, 0, .null, [], []),
  (104, .invokevirtual 59, 3, 0, 0, .null, [(8, 75)], [875, 877, 12, 61, 0, 0, 0, 0]),
  (107, .aload_n 0, 1, 0, 0, .null, [], []),
  (108, .invokevirtual 62, 3, 0, 0, .null, [(8, 76)], [890, 892, 13, 61, 0, 0, 0, 0]),
  (111, .aload_n 0, 1, 0, 0, .null, [], []),
  (112, .aload_n 0, 1, 0, 0, .null, [], []),
  (113, .getfield 42, 3, 9, 0, .null, [(8, 0)], [187]),
  (116, .iconst (-1), 1, 0, 0, .int (-1), [], []),
  (117, .if_icmp .ne 9, 3, 0, 126, .null, [], []),
  (120, .iload_n 2, 1, 2, 0, .null, [], []),
  (121, .iconst 1, 1, 0, 0, .int (1), [], []),
  (122, .iadd, 1, 0, 0, .null, [], []),
  (123, .goto 4, 3, 0, 127, .null, [], []),
  (126, .iload_n 2, 1, 2, 0, .null, [], []),
  (127, .putfield 65, 3, 8, 0, .null, [(8, 0)], [186]),
  (130, .iinc 2 1, 3, 2, 0, .int (1), [], []),
  (133, .goto (-60), 3, 0, 73, .null, [], []),
  (136, .return_, 1, 0, 0, .null, [], [])]
def miX8_play : ev_MI := (RX8, yX8_play, cX8_play, 6, none, eiX8_play, [821])
def eiX8_outcome : List ev_E := [(0, .iload_n 1, 1, 1, 0, .null, [], []),
  (1, .tableswitch 42 0 2 #[27, 32, 37], 27, 0, 43, .null, [(0, 28), (1, 33), (2, 38)], []),
  (28, .aload_n 0, 1, 0, 0, .null, [], []),
  (29, .getfield 42, 3, 9, 0, .null, [(8, 0)], [187]),
  (32, .ireturn, 1, 0, 0, .null, [], []),
  (33, .aload_n 0, 1, 0, 0, .null, [], []),
  (34, .getfield 65, 3, 8, 0, .null, [(8, 0)], [186]),
  (37, .ireturn, 1, 0, 0, .null, [], []),
  (38, .aload_n 0, 1, 0, 0, .null, [], []),
  (39, .getfield 36, 3, 6, 0, .null, [(8, 0)], [184]),
  (42, .ireturn, 1, 0, 0, .null, [], []),
  (43, .aload_n 0, 1, 0, 0, .null, [], []),
  (44, .getfield 32, 3, 10, 0, .null, [(8, 0)], [188]),
  (47, .l2i, 1, 0, 0, .null, [], []),
  (48, .ireturn, 1, 0, 0, .null, [], [])]
def miX8_outcome : ev_MI := (RX8, yX8_outcome, cX8_outcome, 2, (some .int), eiX8_outcome, [910])
def eiX8_seedsThatTouch : List ev_E := [(0, .iconst 0, 1, 0, 0, .int (0), [], []),
  (1, .istore 4, 2, 4, 0, .null, [], []),
  (3, .iconst 0, 1, 0, 0, .int (0), [], []),
  (4, .istore 5, 2, 5, 0, .null, [], []),
  (6, .iload 5, 2, 5, 0, .null, [], []),
  (8, .iload_n 2, 1, 2, 0, .null, [], []),
  (9, .if_icmp .ge 39, 3, 0, 48, .null, [], []),
  (12, .iload 4, 2, 4, 0, .null, [], []),
  (14, .iload_n 3, 1, 3, 0, .null, [], []),
  (15, .if_icmp .ge 33, 3, 0, 48, .null, [], []),
  (18, .aload_n 0, 1, 0, 0, .null, [], []),
  (19, .iload 5, 2, 5, 0, .null, [], []),
  (21, .invokevirtual 68, 3, 1, 0, .null, [(8, 69)], [919, 819, 820, 61, 0, 0, 0, 0]),
  (24, .iload 4, 2, 4, 0, .null, [], []),
  (26, .aload_n 0, 1, 0, 0, .null, [], []),
  (27, .getfield 42, 3, 9, 0, .null, [(8, 0)], [187]),
  (30, .iload_n 1, 1, 1, 0, .null, [], []),
  (31, .if_icmp .ne 7, 3, 0, 38, .null, [], []),
  (34, .iconst 1, 1, 0, 0, .int (1), [], []),
  (35, .goto 4, 3, 0, 39, .null, [], []),
  (38, .iconst 0, 1, 0, 0, .int (0), [], []),
  (39, .iadd, 1, 0, 0, .null, [], []),
  (40, .istore 4, 2, 4, 0, .null, [], []),
  (42, .iinc 5 1, 3, 5, 0, .int (1), [], []),
  (45, .goto (-39), 3, 0, 6, .null, [], []),
  (48, .iload 4, 2, 4, 0, .null, [], []),
  (50, .ireturn, 1, 0, 0, .null, [], [])]
def miX8_seedsThatTouch : ev_MI := (RX8, yX8_seedsThatTouch, cX8_seedsThatTouch, 6, (some .int), eiX8_seedsThatTouch, [918])
def eiX8_draw : List ev_E := [(0, .aload_n 0, 1, 0, 0, .null, [], []),
  (1, .ldc2_w 72, 3, 0, 0, .long (1103515245), [], [883]),
  (4, .aload_n 0, 1, 0, 0, .null, [], []),
  (5, .getfield 32, 3, 10, 0, .null, [(8, 0)], [188]),
  (8, .lmul, 1, 0, 0, .null, [], []),
  (9, .ldc2_w 74, 3, 0, 0, .long (12345), [], [884]),
  (12, .ladd, 1, 0, 0, .null, [], []),
  (13, .ldc2_w 76, 3, 0, 0, .long (2147483647), [], [885]),
  (16, .land, 1, 0, 0, .null, [], []),
  (17, .putfield 32, 3, 10, 1, .null, [(8, 0)], [188]),
  (20, .aload_n 0, 1, 0, 0, .null, [], []),
  (21, .getfield 32, 3, 10, 0, .null, [(8, 0)], [188]),
  (24, .ldc2_w 78, 3, 0, 0, .long (65536), [], [886]),
  (27, .ldiv, 1, 0, 0, .null, [], []),
  (28, .ldc2_w 80, 3, 0, 0, .long (10), [], [887]),
  (31, .lrem, 1, 0, 0, .null, [], []),
  (32, .l2i, 1, 0, 0, .null, [], []),
  (33, .ireturn, 1, 0, 0, .null, [], [])]
def miX8_draw : ev_MI := (RX8, yX8_draw, cX8_draw, 1, (some .int), eiX8_draw, [882])
def eiX8_playersGo : List ev_E := [(0, .aload_n 0, 1, 0, 0, .null, [], []),
  (1, .getfield 9, 3, 0, 0, .null, [(8, 0)], [178]),
  (4, .aload_n 0, 1, 0, 0, .null, [], []),
  (5, .getfield 36, 3, 6, 0, .null, [(8, 0)], [184]),
  (8, .invokevirtual 82, 3, 1, 0, .null, [(7, 62)], [826, 435, 436, 59, 0, 0, 0, 0]),
  (11, .istore_n 1, 1, 1, 0, .null, [], []),
  (12, .aload_n 0, 1, 0, 0, .null, [], []),
  (13, .getfield 9, 3, 0, 0, .null, [(8, 0)], [178]),
  (16, .aload_n 0, 1, 0, 0, .null, [], []),
  (17, .getfield 36, 3, 6, 0, .null, [(8, 0)], [184]),
  (20, .invokevirtual 88, 3, 1, 0, .null, [(7, 63)], [827, 441, 442, 59, 0, 0, 0, 0]),
  (23, .istore_n 2, 1, 2, 0, .null, [], []),
  (24, .aload_n 0, 1, 0, 0, .null, [], []),
  (25, .getfield 15, 3, 1, 0, .null, [(8, 0)], [179]),
  (28, .astore_n 3, 1, 3, 0, .null, [], []),
  (29, .aload_n 3, 1, 3, 0, .null, [], []),
  (30, .arraylength, 1, 0, 0, .null, [], []),
  (31, .istore 4, 2, 4, 0, .null, [], []),
  (33, .iconst 0, 1, 0, 0, .int (0), [], []),
  (34, .istore 5, 2, 5, 0, .null, [], []),
  (36, .iload 5, 2, 5, 0, .null, [], []),
  (38, .iload 4, 2, 4, 0, .null, [], []),
  (40, .if_icmp .ge 35, 3, 0, 75, .null, [], []),
  (43, .aload_n 3, 1, 3, 0, .null, [], []),
  (44, .iload 5, 2, 5, 0, .null, [], []),
  (46, .aaload, 1, 0, 0, .null, [], []),
  (47, .astore 6, 2, 6, 0, .null, [], []),
  (49, .aload 6, 2, 6, 0, .null, [], []),
  (51, .ifnull 18, 3, 0, 69, .null, [], []),
  (54, .aload 6, 2, 6, 0, .null, [], []),
  (56, .aload_n 0, 1, 0, 0, .null, [], []),
  (57, .getfield 9, 3, 0, 0, .null, [(8, 0)], [178]),
  (60, .iload_n 1, 1, 1, 0, .null, [], []),
  (61, .iload_n 2, 1, 2, 0, .null, [], []),
  (62, .aload_n 0, 1, 0, 0, .null, [], []),
  (63, .getfield 39, 3, 7, 0, .null, [(8, 0)], [185]),
  (66, .invokevirtual 91, 3, 4, 0, .null, [(0, 1), (1, 49), (2, 49), (6, 49), (9, 78), (10, 78)], [828, 831, 832, 833, 76, 829, 854, 0, 828, 831, 847, 829, 71, 0, 0, 0, 828, 831, 848, 829, 71, 0, 0, 0, 828, 829, 830, 71, 0, 0, 0, 0, 828, 831, 849, 850, 72, 829, 854, 0, 828, 831, 853, 850, 72, 829, 854, 0]),
  (69, .iinc 5 1, 3, 5, 0, .int (1), [], []),
  (72, .goto (-36), 3, 0, 36, .null, [], []),
  (75, .return_, 1, 0, 0, .null, [], [])]
def miX8_playersGo : ev_MI := (RX8, yX8_playersGo, cX8_playersGo, 7, none, eiX8_playersGo, [825])
def eiX8_lookToCall : List ev_E := [(0, .iconst (-1), 1, 0, 0, .int (-1), [], []),
  (1, .istore_n 1, 1, 1, 0, .null, [], []),
  (2, .iconst 0, 1, 0, 0, .int (0), [], []),
  (3, .istore_n 2, 1, 2, 0, .null, [], []),
  (4, .aload_n 0, 1, 0, 0, .null, [], []),
  (5, .getfield 15, 3, 1, 0, .null, [(8, 0)], [179]),
  (8, .astore_n 3, 1, 3, 0, .null, [], []),
  (9, .aload_n 3, 1, 3, 0, .null, [], []),
  (10, .arraylength, 1, 0, 0, .null, [], []),
  (11, .istore 4, 2, 4, 0, .null, [], []),
  (13, .iconst 0, 1, 0, 0, .int (0), [], []),
  (14, .istore 5, 2, 5, 0, .null, [], []),
  (16, .iload 5, 2, 5, 0, .null, [], []),
  (18, .iload 4, 2, 4, 0, .null, [], []),
  (20, .if_icmp .ge 91, 3, 0, 111, .null, [], []),
  (23, .aload_n 3, 1, 3, 0, .null, [], []),
  (24, .iload 5, 2, 5, 0, .null, [], []),
  (26, .aaload, 1, 0, 0, .null, [], []),
  (27, .astore 6, 2, 6, 0, .null, [], []),
  (29, .aload 6, 2, 6, 0, .null, [], []),
  (31, .ifnonnull 7, 3, 0, 38, .null, [], []),
  (34, .iconst (-1), 1, 0, 0, .int (-1), [], []),
  (35, .goto 12, 3, 0, 47, .null, [], []),
  (38, .aload 6, 2, 6, 0, .null, [], []),
  (40, .aload_n 0, 1, 0, 0, .null, [], []),
  (41, .getfield 9, 3, 0, 0, .null, [(8, 0)], [178]),
  (44, .invokevirtual 95, 3, 1, 0, .null, [(0, 50), (1, 3), (2, 5), (6, 50), (9, 50), (10, 50)], [859, 862, 863, 860, 71, 0, 0, 0, 859, 862, 864, 865, 74, 860, 872, 0, 859, 862, 867, 868, 75, 860, 872, 0, 859, 860, 861, 71, 0, 0, 0, 0, 859, 862, 870, 860, 71, 0, 0, 0, 859, 862, 871, 860, 71, 0, 0, 0]),
  (47, .istore 7, 2, 7, 0, .null, [], []),
  (49, .iload 7, 2, 7, 0, .null, [], []),
  (51, .iconst (-1), 1, 0, 0, .int (-1), [], []),
  (52, .if_icmp .eq 53, 3, 0, 105, .null, [], []),
  (55, .aload_n 0, 1, 0, 0, .null, [], []),
  (56, .getfield 9, 3, 0, 0, .null, [(8, 0)], [178]),
  (59, .iload 7, 2, 7, 0, .null, [], []),
  (61, .aload_n 0, 1, 0, 0, .null, [], []),
  (62, .getfield 9, 3, 0, 0, .null, [(8, 0)], [178]),
  (65, .aload_n 0, 1, 0, 0, .null, [], []),
  (66, .getfield 36, 3, 6, 0, .null, [(8, 0)], [184]),
  (69, .invokevirtual 82, 3, 1, 0, .null, [(7, 62)], [826, 435, 436, 59, 0, 0, 0, 0]),
  (72, .aload_n 0, 1, 0, 0, .null, [], []),
  (73, .getfield 9, 3, 0, 0, .null, [(8, 0)], [178]),
  (76, .aload_n 0, 1, 0, 0, .null, [], []),
  (77, .getfield 36, 3, 6, 0, .null, [(8, 0)], [184]),
  (80, .invokevirtual 88, 3, 1, 0, .null, [(7, 63)], [827, 441, 442, 59, 0, 0, 0, 0]),
  (83, .invokevirtual 99, 3, 3, 0, .null, [(7, 64)], [873, 842, 843, 59, 0, 0, 0, 0]),
  (86, .istore 8, 2, 8, 0, .null, [], []),
  (88, .iload_n 1, 1, 1, 0, .null, [], []),
  (89, .iconst (-1), 1, 0, 0, .int (-1), [], []),
  (90, .if_icmp .eq 9, 3, 0, 99, .null, [], []),
  (93, .iload 8, 2, 8, 0, .null, [], []),
  (95, .iload_n 2, 1, 2, 0, .null, [], []),
  (96, .if_icmp .ge 9, 3, 0, 105, .null, [], []),
  (99, .iload 7, 2, 7, 0, .null, [], []),
  (101, .istore_n 1, 1, 1, 0, .null, [], []),
  (102, .iload 8, 2, 8, 0, .null, [], []),
  (104, .istore_n 2, 1, 2, 0, .null, [], []),
  (105, .iinc 5 1, 3, 5, 0, .int (1), [], []),
  (108, .goto (-92), 3, 0, 16, .null, [], []),
  (111, .iload_n 1, 1, 1, 0, .null, [], []),
  (112, .iconst (-1), 1, 0, 0, .int (-1), [], []),
  (113, .if_icmp .eq 27, 3, 0, 140, .null, [], []),
  (116, .iload_n 1, 1, 1, 0, .null, [], []),
  (117, .aload_n 0, 1, 0, 0, .null, [], []),
  (118, .getfield 36, 3, 6, 0, .null, [(8, 0)], [184]),
  (121, .if_icmp .eq 19, 3, 0, 140, .null, [], []),
  (124, .aload_n 0, 1, 0, 0, .null, [], []),
  (125, .aload_n 0, 1, 0, 0, .null, [], []),
  (126, .getfield 9, 3, 0, 0, .null, [(8, 0)], [178]),
  (129, .aload_n 0, 1, 0, 0, .null, [], []),
  (130, .getfield 36, 3, 6, 0, .null, [(8, 0)], [184]),
  (133, .iload_n 1, 1, 1, 0, .null, [], []),
  (134, .invokevirtual 103, 3, 2, 0, .null, [(7, 65)], [874, 559, 560, 59, 0, 0, 0, 0]),
  (137, .putfield 39, 3, 7, 0, .null, [(8, 0)], [185]),
  (140, .return_, 1, 0, 0, .null, [], [])]
def miX8_lookToCall : ev_MI := (RX8, yX8_lookToCall, cX8_lookToCall, 9, none, eiX8_lookToCall, [858])
def eiX8_heGoes : List ev_E := [(0, .aload_n 0, 1, 0, 0, .null, [], []),
  (1, .invokevirtual 107, 3, 0, 0, .null, [(8, 72)], [879, 880, 881, 61, 0, 0, 0, 0]),
  (4, .aload_n 0, 1, 0, 0, .null, [], []),
  (5, .getfield 26, 3, 4, 0, .null, [(8, 0)], [182]),
  (8, .if_icmp .ge 15, 3, 0, 23, .null, [], []),
  (11, .aload_n 0, 1, 0, 0, .null, [], []),
  (12, .aload_n 0, 1, 0, 0, .null, [], []),
  (13, .getfield 39, 3, 7, 0, .null, [(8, 0)], [185]),
  (16, .iconst 1, 1, 0, 0, .int (1), [], []),
  (17, .iadd, 1, 0, 0, .null, [], []),
  (18, .iconst 3, 1, 0, 0, .int (3), [], []),
  (19, .iand, 1, 0, 0, .null, [], []),
  (20, .putfield 39, 3, 7, 0, .null, [(8, 0)], [185]),
  (23, .aload_n 0, 1, 0, 0, .null, [], []),
  (24, .getfield 9, 3, 0, 0, .null, [(8, 0)], [178]),
  (27, .aload_n 0, 1, 0, 0, .null, [], []),
  (28, .getfield 36, 3, 6, 0, .null, [(8, 0)], [184]),
  (31, .aload_n 0, 1, 0, 0, .null, [], []),
  (32, .getfield 39, 3, 7, 0, .null, [(8, 0)], [185]),
  (35, .invokevirtual 111, 3, 2, 0, .null, [(7, 61)], [888, 540, 541, 59, 0, 0, 0, 0]),
  (38, .istore_n 1, 1, 1, 0, .null, [], []),
  (39, .aload_n 0, 1, 0, 0, .null, [], []),
  (40, .getfield 9, 3, 0, 0, .null, [(8, 0)], [178]),
  (43, .iload_n 1, 1, 1, 0, .null, [], []),
  (44, .invokevirtual 114, 3, 1, 0, .null, [(7, 59)], [889, 466, 467, 59, 0, 0, 0, 0]),
  (47, .ifCond .eq 11, 3, 0, 58, .null, [], []),
  (50, .aload_n 0, 1, 0, 0, .null, [], []),
  (51, .iload_n 1, 1, 1, 0, .null, [], []),
  (52, .putfield 36, 3, 6, 0, .null, [(8, 0)], [184]),
  (55, .goto 15, 3, 0, 70, .null, [], []),
  (58, .aload_n 0, 1, 0, 0, .null, [], []),
  (59, .aload_n 0, 1, 0, 0, .null, [], []),
  (60, .getfield 39, 3, 7, 0, .null, [(8, 0)], [185]),
  (63, .iconst 1, 1, 0, 0, .int (1), [], []),
  (64, .iadd, 1, 0, 0, .null, [], []),
  (65, .iconst 3, 1, 0, 0, .int (3), [], []),
  (66, .iand, 1, 0, 0, .null, [], []),
  (67, .putfield 39, 3, 7, 0, .null, [(8, 0)], [185]),
  (70, .return_, 1, 0, 0, .null, [], [])]
def miX8_heGoes : ev_MI := (RX8, yX8_heGoes, cX8_heGoes, 2, none, eiX8_heGoes, [878])
def eiX8_touch : List ev_E := [(0, .iconst 0, 1, 0, 0, .int (0), [], []),
  (1, .istore_n 1, 1, 1, 0, .null, [], []),
  (2, .iload_n 1, 1, 1, 0, .null, [], []),
  (3, .aload_n 0, 1, 0, 0, .null, [], []),
  (4, .getfield 15, 3, 1, 0, .null, [(8, 0)], [179]),
  (7, .arraylength, 1, 0, 0, .null, [], []),
  (8, .if_icmp .ge 52, 3, 0, 60, .null, [], []),
  (11, .aload_n 0, 1, 0, 0, .null, [], []),
  (12, .getfield 42, 3, 9, 0, .null, [(8, 0)], [187]),
  (15, .iconst (-1), 1, 0, 0, .int (-1), [], []),
  (16, .if_icmp .ne 44, 3, 0, 60, .null, [], []),
  (19, .aload_n 0, 1, 0, 0, .null, [], []),
  (20, .getfield 15, 3, 1, 0, .null, [(8, 0)], [179]),
  (23, .iload_n 1, 1, 1, 0, .null, [], []),
  (24, .aaload, 1, 0, 0, .null, [], []),
  (25, .astore_n 2, 1, 2, 0, .null, [], []),
  (26, .aload_n 2, 1, 2, 0, .null, [], []),
  (27, .ifnull 27, 3, 0, 54, .null, [], []),
  (30, .aload_n 2, 1, 2, 0, .null, [], []),
  (31, .getfield 50, 3, 2, 0, .null, [(0, 0), (1, 0), (2, 0), (6, 0), (9, 0), (10, 0)], [674]),
  (34, .aload_n 0, 1, 0, 0, .null, [], []),
  (35, .getfield 36, 3, 6, 0, .null, [(8, 0)], [184]),
  (38, .if_icmp .ne 16, 3, 0, 54, .null, [], []),
  (41, .aload_n 2, 1, 2, 0, .null, [], []),
  (42, .aload_n 0, 1, 0, 0, .null, [], []),
  (43, .invokevirtual 118, 3, 1, 0, .null, [(0, 51), (1, 51), (2, 51), (6, 51), (9, 51), (10, 80)], [894, 897, 898, 895, 71, 0, 0, 0, 894, 897, 899, 895, 71, 0, 0, 0, 894, 897, 900, 895, 71, 0, 0, 0, 894, 895, 896, 71, 0, 0, 0, 0, 894, 897, 901, 895, 71, 0, 0, 0, 894, 897, 902, 903, 73, 895, 906, 0]),
  (46, .ifCond .eq 8, 3, 0, 54, .null, [], []),
  (49, .aload_n 0, 1, 0, 0, .null, [], []),
  (50, .iload_n 1, 1, 1, 0, .null, [], []),
  (51, .putfield 42, 3, 9, 0, .null, [(8, 0)], [187]),
  (54, .iinc 1 1, 3, 1, 0, .int (1), [], []),
  (57, .goto (-55), 3, 0, 2, .null, [], []),
  (60, .return_, 1, 0, 0, .null, [], [])]
def miX8_touch : ev_MI := (RX8, yX8_touch, cX8_touch, 3, none, eiX8_touch, [893])
def eiX9_kind : List ev_E := [(0, .iconst 1, 1, 0, 0, .int (1), [], []),
  (1, .ireturn, 1, 0, 0, .null, [], [])]
def miX9_kind : ev_MI := (RX9, yX9_kind, cX9_kind, 1, (some .int), eiX9_kind, [798])
def eiX9_goOn : List ev_E := [(0, .aload_n 0, 1, 0, 0, .null, [], []),
  (1, .aload_n 1, 1, 1, 0, .null, [], []),
  (2, .aload_n 0, 1, 0, 0, .null, [], []),
  (3, .getfield 9, 3, 2, 0, .null, [(0, 0), (1, 0), (2, 0), (6, 0), (9, 0), (10, 0)], [670, 671]),
  (6, .iload_n 2, 1, 2, 0, .null, [], []),
  (7, .iload_n 3, 1, 3, 0, .null, [], []),
  (8, .iconst (-1), 1, 0, 0, .int (-1), [], []),
  (9, .invokevirtual 15, 3, 4, 0, .null, [(7, 66)], [852, 838, 839, 59, 0, 0, 0, 0]),
  (12, .putfield 9, 3, 2, 0, .null, [(0, 0), (1, 0), (2, 0), (6, 0), (9, 0), (10, 0)], [670, 671]),
  (15, .return_, 1, 0, 0, .null, [], [])]
def miX9_goOn : ev_MI := (RX9, yX9_goOn, cX9_goOn, 5, none, eiX9_goOn, [851])
def eiX10_kind : List ev_E := [(0, .iconst 2, 1, 0, 0, .int (2), [], []),
  (1, .ireturn, 1, 0, 0, .null, [], [])]
def miX10_kind : ev_MI := (RX10, yX10_kind, cX10_kind, 1, (some .int), eiX10_kind, [801])
def eiX10_isCaught : List ev_E := [(0, .aload_n 1, 1, 1, 0, .null, [], []),
  (1, .invokevirtual 9, 3, 0, 0, .null, [(8, 72)], [905, 880, 881, 61, 0, 0, 0, 0]),
  (4, .iconst 5, 1, 0, 0, .int (5), [], []),
  (5, .if_icmp .lt 7, 3, 0, 12, .null, [], []),
  (8, .iconst 1, 1, 0, 0, .int (1), [], []),
  (9, .goto 4, 3, 0, 13, .null, [], []),
  (12, .iconst 0, 1, 0, 0, .int (0), [], []),
  (13, .ireturn, 1, 0, 0, .null, [], [])]
def miX10_isCaught : ev_MI := (RX10, yX10_isCaught, cX10_isCaught, 2, (some .boolean), eiX10_isCaught, [904])
def eiX11_letters : List ev_E := [(0, .lload_n 1, 1, 1, 0, .null, [], []),
  (1, .invokestatic 56, 3, 1, 0, .null, [(0, 39)], [290, 291, 58]),
  (4, .istore_n 3, 1, 3, 0, .null, [], []),
  (5, .iload_n 3, 1, 3, 0, .null, [], []),
  (6, .ifCond .ge 6, 3, 0, 12, .null, [], []),
  (9, .bipush (-102), 2, 0, 0, .int (-102), [], []),
  (11, .ireturn, 1, 0, 0, .null, [], []),
  (12, .aload_n 0, 1, 0, 0, .null, [], []),
  (13, .getfield 10, 3, 0, 0, .null, [(11, 0)], [255]),
  (16, .getfield 60, 3, 1, 0, .null, [(5, 0)], [93]),
  (19, .iload_n 3, 1, 3, 0, .null, [], []),
  (20, .iadd, 1, 0, 0, .null, [], []),
  (21, .bipush 45, 2, 0, 0, .int (45), [], []),
  (23, .if_icmp .le 6, 3, 0, 29, .null, [], []),
  (26, .bipush (-104), 2, 0, 0, .int (-104), [], []),
  (28, .ireturn, 1, 0, 0, .null, [], []),
  (29, .aload_n 0, 1, 0, 0, .null, [], []),
  (30, .getfield 10, 3, 0, 0, .null, [(11, 0)], [255]),
  (33, .lload_n 1, 1, 1, 0, .null, [], []),
  (34, .iload_n 3, 1, 3, 0, .null, [], []),
  (35, .invokevirtual 64, 3, 2, 0, .null, [(5, 41)], [296, 297, 298, 58, 0, 0, 0, 0]),
  (38, .aload_n 0, 1, 0, 0, .null, [], []),
  (39, .getfield 10, 3, 0, 0, .null, [(11, 0)], [255]),
  (42, .getfield 60, 3, 1, 0, .null, [(5, 0)], [93]),
  (45, .ireturn, 1, 0, 0, .null, [], [])]
def miX11_letters : ev_MI := (RX11, yX11_letters, cX11_letters, 4, (some .int), eiX11_letters, [289])
def eiX11_blank : List ev_E := [(0, .aload_n 0, 1, 0, 0, .null, [], []),
  (1, .getfield 10, 3, 0, 0, .null, [(11, 0)], [255]),
  (4, .getfield 60, 3, 1, 0, .null, [(5, 0)], [93]),
  (7, .istore_n 1, 1, 1, 0, .null, [], []),
  (8, .aload_n 0, 1, 0, 0, .null, [], []),
  (9, .getfield 10, 3, 0, 0, .null, [(11, 0)], [255]),
  (12, .iconst 0, 1, 0, 0, .int (0), [], []),
  (13, .putfield 60, 3, 1, 0, .null, [(5, 0)], [93]),
  (16, .iload_n 1, 1, 1, 0, .null, [], []),
  (17, .ireturn, 1, 0, 0, .null, [], [])]
def miX11_blank : ev_MI := (RX11, yX11_blank, cX11_blank, 2, (some .int), eiX11_blank, [303])
def eiX11_fault : List ev_E := [(0, .aload_n 0, 1, 0, 0, .null, [], []),
  (1, .getfield 10, 3, 0, 0, .null, [(11, 0)], [255]),
  (4, .invokevirtual 68, 3, 0, 0, .null, [(5, 43)], [308, 309, 310, 58, 0, 0, 0, 0]),
  (7, .ireturn, 1, 0, 0, .null, [], [])]
def miX11_fault : ev_MI := (RX11, yX11_fault, cX11_fault, 1, (some .int), eiX11_fault, [307])
def eiX11_ring : List ev_E := [(0, .aload_n 0, 1, 0, 0, .null, [], []),
  (1, .getfield 10, 3, 0, 0, .null, [(11, 0)], [255]),
  (4, .invokevirtual 72, 3, 0, 0, .null, [(5, 45)], [412, 413, 414, 58, 0, 0, 0, 0]),
  (7, .ifCond .eq 13, 3, 0, 20, .null, [], []),
  (10, .aload_n 0, 1, 0, 0, .null, [], []),
  (11, .getfield 10, 3, 0, 0, .null, [(11, 0)], [255]),
  (14, .invokevirtual 76, 3, 0, 0, .null, [(5, 46)], [417, 418, 419, 58, 0, 0, 0, 0]),
  (17, .ifCond .ne 6, 3, 0, 23, .null, [], []),
  (20, .bipush (-103), 2, 0, 0, .int (-103), [], []),
  (22, .ireturn, 1, 0, 0, .null, [], []),
  (23, .aload_n 0, 1, 0, 0, .null, [], []),
  (24, .getfield 19, 3, 1, 0, .null, [(11, 0)], [256]),
  (27, .aload_n 0, 1, 0, 0, .null, [], []),
  (28, .getfield 10, 3, 0, 0, .null, [(11, 0)], [255]),
  (31, .invokevirtual 79, 3, 1, 0, .null, [(7, 53)], [421, 422, 423, 59, 0, 0, 0, 0]),
  (34, .aload_n 0, 1, 0, 0, .null, [], []),
  (35, .getfield 10, 3, 0, 0, .null, [(11, 0)], [255]),
  (38, .iconst 0, 1, 0, 0, .int (0), [], []),
  (39, .putfield 60, 3, 1, 0, .null, [(5, 0)], [93]),
  (42, .iconst 0, 1, 0, 0, .int (0), [], []),
  (43, .istore_n 1, 1, 1, 0, .null, [], []),
  (44, .iload_n 1, 1, 1, 0, .null, [], []),
  (45, .aload_n 0, 1, 0, 0, .null, [], []),
  (46, .getfield 34, 3, 3, 0, .null, [(11, 0)], [258]),
  (49, .arraylength, 1, 0, 0, .null, [], []),
  (50, .if_icmp .ge 16, 3, 0, 66, .null, [], []),
  (53, .aload_n 0, 1, 0, 0, .null, [], []),
  (54, .getfield 34, 3, 3, 0, .null, [(11, 0)], [258]),
  (57, .iload_n 1, 1, 1, 0, .null, [], []),
  (58, .aconst_null, 1, 0, 0, .null, [], []),
  (59, .aastore, 1, 0, 0, .null, [], []),
  (60, .iinc 1 1, 3, 1, 0, .int (1), [], []),
  (63, .goto (-19), 3, 0, 44, .null, [], []),
  (66, .aload_n 0, 1, 0, 0, .null, [], []),
  (67, .iconst 0, 1, 0, 0, .int (0), [], []),
  (68, .putfield 83, 3, 6, 0, .null, [(11, 0)], [261]),
  (71, .aload_n 0, 1, 0, 0, .null, [], []),
  (72, .getfield 52, 3, 5, 0, .null, [(11, 0)], [260]),
  (75, .invokevirtual 86, 3, 0, 0, .null, [(3, 7)], [453, 454, 455, 62, 0, 0, 0, 0]),
  (78, .aload_n 0, 1, 0, 0, .null, [], []),
  (79, .getfield 28, 3, 2, 0, .null, [(11, 0)], [257]),
  (82, .invokevirtual 89, 3, 0, 0, .null, [(4, 20)], [461, 462, 463, 60, 0, 0, 0, 0]),
  (85, .aload_n 0, 1, 0, 0, .null, [], []),
  (86, .iconst 0, 1, 0, 0, .int (0), [], []),
  (87, .putfield 92, 3, 9, 2, .null, [(11, 0)], [264]),
  (90, .aload_n 0, 1, 0, 0, .null, [], []),
  (91, .dup, 1, 0, 0, .null, [], []),
  (92, .getfield 96, 3, 7, 0, .null, [(11, 0)], [262]),
  (95, .iconst 1, 1, 0, 0, .int (1), [], []),
  (96, .iadd, 1, 0, 0, .null, [], []),
  (97, .putfield 96, 3, 7, 0, .null, [(11, 0)], [262]),
  (100, .aload_n 0, 1, 0, 0, .null, [], []),
  (101, .getfield 19, 3, 1, 0, .null, [(11, 0)], [256]),
  (104, .getfield 99, 3, 4, 0, .null, [(7, 0)], [123]),
  (107, .ireturn, 1, 0, 0, .null, [], [])]
def miX11_ring : ev_MI := (RX11, yX11_ring, cX11_ring, 2, (some .int), eiX11_ring, [411])
def eiX11_cell : List ev_E := [(0, .aload_n 0, 1, 0, 0, .null, [], []),
  (1, .getfield 19, 3, 1, 0, .null, [(11, 0)], [256]),
  (4, .iload_n 1, 1, 1, 0, .null, [], []),
  (5, .invokevirtual 102, 3, 1, 0, .null, [(7, 57)], [473, 447, 448, 59, 0, 0, 0, 0]),
  (8, .ifCond .eq 14, 3, 0, 22, .null, [], []),
  (11, .aload_n 0, 1, 0, 0, .null, [], []),
  (12, .getfield 19, 3, 1, 0, .null, [(11, 0)], [256]),
  (15, .iload_n 1, 1, 1, 0, .null, [], []),
  (16, .invokevirtual 106, 3, 1, 0, .null, [(7, 58)], [474, 475, 476, 59, 0, 0, 0, 0]),
  (19, .goto 5, 3, 0, 24, .null, [], []),
  (22, .bipush (-101), 2, 0, 0, .int (-101), [], []),
  (24, .ireturn, 1, 0, 0, .null, [], [])]
def miX11_cell : ev_MI := (RX11, yX11_cell, cX11_cell, 2, (some .int), eiX11_cell, [472])
def eiX11_set : List ev_E := [(0, .aload_n 0, 1, 0, 0, .null, [], []),
  (1, .getfield 19, 3, 1, 0, .null, [(11, 0)], [256]),
  (4, .iload_n 1, 1, 1, 0, .null, [], []),
  (5, .invokevirtual 110, 3, 1, 0, .null, [(7, 59)], [482, 466, 467, 59, 0, 0, 0, 0]),
  (8, .ifCond .ne 6, 3, 0, 14, .null, [], []),
  (11, .bipush (-101), 2, 0, 0, .int (-101), [], []),
  (13, .ireturn, 1, 0, 0, .null, [], []),
  (14, .iload_n 2, 1, 2, 0, .null, [], []),
  (15, .iconst 3, 1, 0, 0, .int (3), [], []),
  (16, .invokestatic 113, 3, 2, 0, .null, [(0, 113)], [483, 451, 57]),
  (19, .ifCond .ne 6, 3, 0, 25, .null, [], []),
  (22, .bipush (-102), 2, 0, 0, .int (-102), [], []),
  (24, .ireturn, 1, 0, 0, .null, [], []),
  (25, .aload_n 0, 1, 0, 0, .null, [], []),
  (26, .getfield 28, 3, 2, 0, .null, [(11, 0)], [257]),
  (29, .iload_n 1, 1, 1, 0, .null, [], []),
  (30, .iload_n 2, 1, 2, 0, .null, [], []),
  (31, .invokevirtual 117, 3, 2, 0, .null, [(4, 19)], [484, 485, 486, 60, 0, 0, 0, 0]),
  (34, .iconst 1, 1, 0, 0, .int (1), [], []),
  (35, .ireturn, 1, 0, 0, .null, [], [])]
def miX11_set : ev_MI := (RX11, yX11_set, cX11_set, 3, (some .int), eiX11_set, [481])
def eiX11_lost : List ev_E := [(0, .aload_n 0, 1, 0, 0, .null, [], []),
  (1, .getfield 19, 3, 1, 0, .null, [(11, 0)], [256]),
  (4, .invokevirtual 121, 3, 0, 0, .null, [(7, 56)], [495, 496, 497, 59, 0, 0, 0, 0]),
  (7, .ifCond .ne 6, 3, 0, 13, .null, [], []),
  (10, .bipush (-103), 2, 0, 0, .int (-103), [], []),
  (12, .ireturn, 1, 0, 0, .null, [], []),
  (13, .aload_n 0, 1, 0, 0, .null, [], []),
  (14, .getfield 28, 3, 2, 0, .null, [(11, 0)], [257]),
  (17, .invokevirtual 89, 3, 0, 0, .null, [(4, 20)], [461, 462, 463, 60, 0, 0, 0, 0]),
  (20, .aload_n 0, 1, 0, 0, .null, [], []),
  (21, .getfield 28, 3, 2, 0, .null, [(11, 0)], [257]),
  (24, .invokevirtual 124, 3, 0, 0, .null, [(4, 23)], [499, 500, 501, 60, 0, 0, 0, 0]),
  (27, .ireturn, 1, 0, 0, .null, [], [])]
def miX11_lost : ev_MI := (RX11, yX11_lost, cX11_lost, 1, (some .int), eiX11_lost, [494])
def eiX11_turned : List ev_E := [(0, .aload_n 0, 1, 0, 0, .null, [], []),
  (1, .getfield 19, 3, 1, 0, .null, [(11, 0)], [256]),
  (4, .invokevirtual 121, 3, 0, 0, .null, [(7, 56)], [495, 496, 497, 59, 0, 0, 0, 0]),
  (7, .ifCond .ne 6, 3, 0, 13, .null, [], []),
  (10, .bipush (-103), 2, 0, 0, .int (-103), [], []),
  (12, .ireturn, 1, 0, 0, .null, [], []),
  (13, .iload_n 1, 1, 1, 0, .null, [], []),
  (14, .iconst 5, 1, 0, 0, .int (5), [], []),
  (15, .invokestatic 113, 3, 2, 0, .null, [(0, 113)], [483, 451, 57]),
  (18, .ifCond .ne 6, 3, 0, 24, .null, [], []),
  (21, .bipush (-102), 2, 0, 0, .int (-102), [], []),
  (23, .ireturn, 1, 0, 0, .null, [], []),
  (24, .aload_n 0, 1, 0, 0, .null, [], []),
  (25, .getfield 28, 3, 2, 0, .null, [(11, 0)], [257]),
  (28, .getfield 127, 3, 4, 0, .null, [(4, 0)], [154]),
  (31, .bipush 9, 2, 0, 0, .int (9), [], []),
  (33, .if_icmp .lt 6, 3, 0, 39, .null, [], []),
  (36, .bipush (-104), 2, 0, 0, .int (-104), [], []),
  (38, .ireturn, 1, 0, 0, .null, [], []),
  (39, .aload_n 0, 1, 0, 0, .null, [], []),
  (40, .getfield 28, 3, 2, 0, .null, [(11, 0)], [257]),
  (43, .iload_n 1, 1, 1, 0, .null, [], []),
  (44, .invokevirtual 130, 3, 1, 0, .null, [(4, 29)], [507, 508, 509, 60, 0, 0, 0, 0]),
  (47, .aload_n 0, 1, 0, 0, .null, [], []),
  (48, .getfield 28, 3, 2, 0, .null, [(11, 0)], [257]),
  (51, .iconst 0, 1, 0, 0, .int (0), [], []),
  (52, .invokevirtual 134, 3, 1, 0, .null, [(4, 36)], [519, 520, 521, 60, 0, 0, 0, 0]),
  (55, .ireturn, 1, 0, 0, .null, [], [])]
def miX11_turned : ev_MI := (RX11, yX11_turned, cX11_turned, 2, (some .int), eiX11_turned, [506])
def eiX11_step : List ev_E := [(0, .aload_n 0, 1, 0, 0, .null, [], []),
  (1, .getfield 19, 3, 1, 0, .null, [(11, 0)], [256]),
  (4, .invokevirtual 121, 3, 0, 0, .null, [(7, 56)], [495, 496, 497, 59, 0, 0, 0, 0]),
  (7, .ifCond .ne 6, 3, 0, 13, .null, [], []),
  (10, .bipush (-103), 2, 0, 0, .int (-103), [], []),
  (12, .ireturn, 1, 0, 0, .null, [], []),
  (13, .iload_n 1, 1, 1, 0, .null, [], []),
  (14, .iconst 5, 1, 0, 0, .int (5), [], []),
  (15, .invokestatic 113, 3, 2, 0, .null, [(0, 113)], [483, 451, 57]),
  (18, .ifCond .eq 11, 3, 0, 29, .null, [], []),
  (21, .iload_n 2, 1, 2, 0, .null, [], []),
  (22, .iconst 3, 1, 0, 0, .int (3), [], []),
  (23, .invokestatic 113, 3, 2, 0, .null, [(0, 113)], [483, 451, 57]),
  (26, .ifCond .ne 6, 3, 0, 32, .null, [], []),
  (29, .bipush (-102), 2, 0, 0, .int (-102), [], []),
  (31, .ireturn, 1, 0, 0, .null, [], []),
  (32, .aload_n 0, 1, 0, 0, .null, [], []),
  (33, .getfield 28, 3, 2, 0, .null, [(11, 0)], [257]),
  (36, .getfield 127, 3, 4, 0, .null, [(4, 0)], [154]),
  (39, .bipush 9, 2, 0, 0, .int (9), [], []),
  (41, .if_icmp .lt 6, 3, 0, 47, .null, [], []),
  (44, .bipush (-104), 2, 0, 0, .int (-104), [], []),
  (46, .ireturn, 1, 0, 0, .null, [], []),
  (47, .aload_n 0, 1, 0, 0, .null, [], []),
  (48, .getfield 28, 3, 2, 0, .null, [(11, 0)], [257]),
  (51, .iconst 0, 1, 0, 0, .int (0), [], []),
  (52, .iload_n 1, 1, 1, 0, .null, [], []),
  (53, .iconst (-1), 1, 0, 0, .int (-1), [], []),
  (54, .invokevirtual 137, 3, 3, 0, .null, [(4, 30)], [531, 532, 533, 60, 0, 0, 0, 0]),
  (57, .aload_n 0, 1, 0, 0, .null, [], []),
  (58, .getfield 28, 3, 2, 0, .null, [(11, 0)], [257]),
  (61, .iload_n 2, 1, 2, 0, .null, [], []),
  (62, .invokevirtual 134, 3, 1, 0, .null, [(4, 36)], [519, 520, 521, 60, 0, 0, 0, 0]),
  (65, .ireturn, 1, 0, 0, .null, [], [])]
def miX11_step : ev_MI := (RX11, yX11_step, cX11_step, 3, (some .int), eiX11_step, [530])
def eiX11_heard : List ev_E := [(0, .aload_n 0, 1, 0, 0, .null, [], []),
  (1, .getfield 19, 3, 1, 0, .null, [(11, 0)], [256]),
  (4, .iload_n 1, 1, 1, 0, .null, [], []),
  (5, .invokevirtual 110, 3, 1, 0, .null, [(7, 59)], [482, 466, 467, 59, 0, 0, 0, 0]),
  (8, .ifCond .ne 6, 3, 0, 14, .null, [], []),
  (11, .bipush (-101), 2, 0, 0, .int (-101), [], []),
  (13, .ireturn, 1, 0, 0, .null, [], []),
  (14, .iload_n 2, 1, 2, 0, .null, [], []),
  (15, .iconst 3, 1, 0, 0, .int (3), [], []),
  (16, .invokestatic 113, 3, 2, 0, .null, [(0, 113)], [483, 451, 57]),
  (19, .ifCond .eq 12, 3, 0, 31, .null, [], []),
  (22, .iload_n 3, 1, 3, 0, .null, [], []),
  (23, .bipush 10, 2, 0, 0, .int (10), [], []),
  (25, .invokestatic 113, 3, 2, 0, .null, [(0, 113)], [483, 451, 57]),
  (28, .ifCond .ne 6, 3, 0, 34, .null, [], []),
  (31, .bipush (-102), 2, 0, 0, .int (-102), [], []),
  (33, .ireturn, 1, 0, 0, .null, [], []),
  (34, .aload_n 0, 1, 0, 0, .null, [], []),
  (35, .getfield 28, 3, 2, 0, .null, [(11, 0)], [257]),
  (38, .getfield 127, 3, 4, 0, .null, [(4, 0)], [154]),
  (41, .bipush 9, 2, 0, 0, .int (9), [], []),
  (43, .if_icmp .lt 6, 3, 0, 49, .null, [], []),
  (46, .bipush (-104), 2, 0, 0, .int (-104), [], []),
  (48, .ireturn, 1, 0, 0, .null, [], []),
  (49, .aload_n 0, 1, 0, 0, .null, [], []),
  (50, .getfield 28, 3, 2, 0, .null, [(11, 0)], [257]),
  (53, .iload_n 1, 1, 1, 0, .null, [], []),
  (54, .iload_n 3, 1, 3, 0, .null, [], []),
  (55, .invokevirtual 141, 3, 2, 0, .null, [(4, 32)], [550, 551, 552, 60, 0, 0, 0, 0]),
  (58, .aload_n 0, 1, 0, 0, .null, [], []),
  (59, .getfield 28, 3, 2, 0, .null, [(11, 0)], [257]),
  (62, .iload_n 2, 1, 2, 0, .null, [], []),
  (63, .invokevirtual 134, 3, 1, 0, .null, [(4, 36)], [519, 520, 521, 60, 0, 0, 0, 0]),
  (66, .ireturn, 1, 0, 0, .null, [], [])]
def miX11_heard : ev_MI := (RX11, yX11_heard, cX11_heard, 4, (some .int), eiX11_heard, [549])
def eiX11_odds : List ev_E := [(0, .aload_n 0, 1, 0, 0, .null, [], []),
  (1, .getfield 19, 3, 1, 0, .null, [(11, 0)], [256]),
  (4, .iload_n 1, 1, 1, 0, .null, [], []),
  (5, .invokevirtual 102, 3, 1, 0, .null, [(7, 57)], [473, 447, 448, 59, 0, 0, 0, 0]),
  (8, .ifCond .ne 7, 3, 0, 15, .null, [], []),
  (11, .ldc2_w 144, 3, 0, 0, .long (-101), [], [569]),
  (14, .lreturn, 1, 0, 0, .null, [], []),
  (15, .iload_n 2, 1, 2, 0, .null, [], []),
  (16, .iconst 1, 1, 0, 0, .int (1), [], []),
  (17, .invokestatic 113, 3, 2, 0, .null, [(0, 113)], [483, 451, 57]),
  (20, .ifCond .ne 7, 3, 0, 27, .null, [], []),
  (23, .ldc2_w 146, 3, 0, 0, .long (-102), [], [570]),
  (26, .lreturn, 1, 0, 0, .null, [], []),
  (27, .aload_n 0, 1, 0, 0, .null, [], []),
  (28, .getfield 28, 3, 2, 0, .null, [(11, 0)], [257]),
  (31, .iload_n 1, 1, 1, 0, .null, [], []),
  (32, .invokevirtual 148, 3, 1, 0, .null, [(4, 25)], [571, 572, 573, 60, 0, 0, 0, 0]),
  (35, .aload_n 0, 1, 0, 0, .null, [], []),
  (36, .getfield 28, 3, 2, 0, .null, [(11, 0)], [257]),
  (39, .invokevirtual 152, 3, 0, 0, .null, [(4, 24)], [578, 579, 580, 60, 0, 0, 0, 0]),
  (42, .iload_n 2, 1, 2, 0, .null, [], []),
  (43, .invokestatic 156, 3, 3, 0, .null, [(0, 118)], [582, 583, 57]),
  (46, .lreturn, 1, 0, 0, .null, [], [])]
def miX11_odds : ev_MI := (RX11, yX11_odds, cX11_odds, 3, (some .long), eiX11_odds, [568])
def eiX11_ways : List ev_E := [(0, .aload_n 0, 1, 0, 0, .null, [], []),
  (1, .getfield 19, 3, 1, 0, .null, [(11, 0)], [256]),
  (4, .invokevirtual 121, 3, 0, 0, .null, [(7, 56)], [495, 496, 497, 59, 0, 0, 0, 0]),
  (7, .ifCond .ne 7, 3, 0, 14, .null, [], []),
  (10, .ldc2_w 160, 3, 0, 0, .long (-103), [], [590]),
  (13, .lreturn, 1, 0, 0, .null, [], []),
  (14, .iload_n 1, 1, 1, 0, .null, [], []),
  (15, .iconst 3, 1, 0, 0, .int (3), [], []),
  (16, .invokestatic 113, 3, 2, 0, .null, [(0, 113)], [483, 451, 57]),
  (19, .ifCond .eq 11, 3, 0, 30, .null, [], []),
  (22, .iload_n 2, 1, 2, 0, .null, [], []),
  (23, .iconst 1, 1, 0, 0, .int (1), [], []),
  (24, .invokestatic 113, 3, 2, 0, .null, [(0, 113)], [483, 451, 57]),
  (27, .ifCond .ne 7, 3, 0, 34, .null, [], []),
  (30, .ldc2_w 146, 3, 0, 0, .long (-102), [], [570]),
  (33, .lreturn, 1, 0, 0, .null, [], []),
  (34, .aload_n 0, 1, 0, 0, .null, [], []),
  (35, .getfield 28, 3, 2, 0, .null, [(11, 0)], [257]),
  (38, .iload_n 1, 1, 1, 0, .null, [], []),
  (39, .invokevirtual 162, 3, 1, 0, .null, [(4, 27)], [591, 592, 593, 60, 0, 0, 0, 0]),
  (42, .aload_n 0, 1, 0, 0, .null, [], []),
  (43, .getfield 28, 3, 2, 0, .null, [(11, 0)], [257]),
  (46, .invokevirtual 152, 3, 0, 0, .null, [(4, 24)], [578, 579, 580, 60, 0, 0, 0, 0]),
  (49, .iload_n 2, 1, 2, 0, .null, [], []),
  (50, .invokestatic 156, 3, 3, 0, .null, [(0, 118)], [582, 583, 57]),
  (53, .lreturn, 1, 0, 0, .null, [], [])]
def miX11_ways : ev_MI := (RX11, yX11_ways, cX11_ways, 3, (some .long), eiX11_ways, [589])
def eiX11_likeliest : List ev_E := [(0, .aload_n 0, 1, 0, 0, .null, [], []),
  (1, .getfield 19, 3, 1, 0, .null, [(11, 0)], [256]),
  (4, .invokevirtual 121, 3, 0, 0, .null, [(7, 56)], [495, 496, 497, 59, 0, 0, 0, 0]),
  (7, .ifCond .eq 13, 3, 0, 20, .null, [], []),
  (10, .aload_n 0, 1, 0, 0, .null, [], []),
  (11, .getfield 28, 3, 2, 0, .null, [(11, 0)], [257]),
  (14, .invokevirtual 165, 3, 0, 0, .null, [(4, 28)], [599, 600, 601, 60, 0, 0, 0, 0]),
  (17, .goto 5, 3, 0, 22, .null, [], []),
  (20, .bipush (-103), 2, 0, 0, .int (-103), [], []),
  (22, .ireturn, 1, 0, 0, .null, [], [])]
def miX11_likeliest : ev_MI := (RX11, yX11_likeliest, cX11_likeliest, 1, (some .int), eiX11_likeliest, [598])
def eiX11_knows : List ev_E := [(0, .aload_n 0, 1, 0, 0, .null, [], []),
  (1, .getfield 19, 3, 1, 0, .null, [(11, 0)], [256]),
  (4, .invokevirtual 121, 3, 0, 0, .null, [(7, 56)], [495, 496, 497, 59, 0, 0, 0, 0]),
  (7, .ifCond .ne 7, 3, 0, 14, .null, [], []),
  (10, .ldc2_w 160, 3, 0, 0, .long (-103), [], [590]),
  (13, .lreturn, 1, 0, 0, .null, [], []),
  (14, .iload_n 1, 1, 1, 0, .null, [], []),
  (15, .iconst 1, 1, 0, 0, .int (1), [], []),
  (16, .invokestatic 113, 3, 2, 0, .null, [(0, 113)], [483, 451, 57]),
  (19, .ifCond .ne 7, 3, 0, 26, .null, [], []),
  (22, .ldc2_w 146, 3, 0, 0, .long (-102), [], [570]),
  (25, .lreturn, 1, 0, 0, .null, [], []),
  (26, .aload_n 0, 1, 0, 0, .null, [], []),
  (27, .getfield 28, 3, 2, 0, .null, [(11, 0)], [257]),
  (30, .aload_n 0, 1, 0, 0, .null, [], []),
  (31, .getfield 28, 3, 2, 0, .null, [(11, 0)], [257]),
  (34, .invokevirtual 165, 3, 0, 0, .null, [(4, 28)], [599, 600, 601, 60, 0, 0, 0, 0]),
  (37, .invokevirtual 148, 3, 1, 0, .null, [(4, 25)], [571, 572, 573, 60, 0, 0, 0, 0]),
  (40, .aload_n 0, 1, 0, 0, .null, [], []),
  (41, .getfield 28, 3, 2, 0, .null, [(11, 0)], [257]),
  (44, .invokevirtual 152, 3, 0, 0, .null, [(4, 24)], [578, 579, 580, 60, 0, 0, 0, 0]),
  (47, .iload_n 1, 1, 1, 0, .null, [], []),
  (48, .invokestatic 156, 3, 3, 0, .null, [(0, 118)], [582, 583, 57]),
  (51, .lreturn, 1, 0, 0, .null, [], [])]
def miX11_knows : ev_MI := (RX11, yX11_knows, cX11_knows, 2, (some .long), eiX11_knows, [607])
def eiX11_expected : List ev_E := [(0, .aload_n 0, 1, 0, 0, .null, [], []),
  (1, .getfield 19, 3, 1, 0, .null, [(11, 0)], [256]),
  (4, .invokevirtual 121, 3, 0, 0, .null, [(7, 56)], [495, 496, 497, 59, 0, 0, 0, 0]),
  (7, .ifCond .ne 7, 3, 0, 14, .null, [], []),
  (10, .ldc2_w 160, 3, 0, 0, .long (-103), [], [590]),
  (13, .lreturn, 1, 0, 0, .null, [], []),
  (14, .iload_n 1, 1, 1, 0, .null, [], []),
  (15, .iconst 3, 1, 0, 0, .int (3), [], []),
  (16, .invokestatic 113, 3, 2, 0, .null, [(0, 113)], [483, 451, 57]),
  (19, .ifCond .eq 20, 3, 0, 39, .null, [], []),
  (22, .iload_n 2, 1, 2, 0, .null, [], []),
  (23, .iconst 5, 1, 0, 0, .int (5), [], []),
  (24, .invokestatic 113, 3, 2, 0, .null, [(0, 113)], [483, 451, 57]),
  (27, .ifCond .eq 12, 3, 0, 39, .null, [], []),
  (30, .iload 5, 2, 5, 0, .null, [], []),
  (32, .iconst 1, 1, 0, 0, .int (1), [], []),
  (33, .invokestatic 113, 3, 2, 0, .null, [(0, 113)], [483, 451, 57]),
  (36, .ifCond .ne 7, 3, 0, 43, .null, [], []),
  (39, .ldc2_w 146, 3, 0, 0, .long (-102), [], [570]),
  (42, .lreturn, 1, 0, 0, .null, [], []),
  (43, .iload_n 1, 1, 1, 0, .null, [], []),
  (44, .iconst 3, 1, 0, 0, .int (3), [], []),
  (45, .if_icmp .ne 18, 3, 0, 63, .null, [], []),
  (48, .aload_n 0, 1, 0, 0, .null, [], []),
  (49, .getfield 19, 3, 1, 0, .null, [(11, 0)], [256]),
  (52, .iload_n 3, 1, 3, 0, .null, [], []),
  (53, .invokevirtual 110, 3, 1, 0, .null, [(7, 59)], [482, 466, 467, 59, 0, 0, 0, 0]),
  (56, .ifCond .ne 7, 3, 0, 63, .null, [], []),
  (59, .ldc2_w 144, 3, 0, 0, .long (-101), [], [569]),
  (62, .lreturn, 1, 0, 0, .null, [], []),
  (63, .iload_n 1, 1, 1, 0, .null, [], []),
  (64, .iconst 3, 1, 0, 0, .int (3), [], []),
  (65, .if_icmp .ne 17, 3, 0, 82, .null, [], []),
  (68, .iload 4, 2, 4, 0, .null, [], []),
  (70, .bipush 10, 2, 0, 0, .int (10), [], []),
  (72, .invokestatic 113, 3, 2, 0, .null, [(0, 113)], [483, 451, 57]),
  (75, .ifCond .ne 7, 3, 0, 82, .null, [], []),
  (78, .ldc2_w 146, 3, 0, 0, .long (-102), [], [570]),
  (81, .lreturn, 1, 0, 0, .null, [], []),
  (82, .aload_n 0, 1, 0, 0, .null, [], []),
  (83, .getfield 28, 3, 2, 0, .null, [(11, 0)], [257]),
  (86, .getfield 127, 3, 4, 0, .null, [(4, 0)], [154]),
  (89, .bipush 7, 2, 0, 0, .int (7), [], []),
  (91, .if_icmp .le 7, 3, 0, 98, .null, [], []),
  (94, .ldc2_w 160, 3, 0, 0, .long (-103), [], [590]),
  (97, .lreturn, 1, 0, 0, .null, [], []),
  (98, .aload_n 0, 1, 0, 0, .null, [], []),
  (99, .iload_n 1, 1, 1, 0, .null, [], []),
  (100, .iload_n 2, 1, 2, 0, .null, [], []),
  (101, .iload_n 3, 1, 3, 0, .null, [], []),
  (102, .iload 4, 2, 4, 0, .null, [], []),
  (104, .invokevirtual 168, 3, 4, 0, .null, [(11, 119)], [612, 614, 7, 57, 0, 0, 0, 0]),
  (107, .ldc2_w 172, 3, 0, 0, .long (60), [], [624]),
  (110, .aload_n 0, 1, 0, 0, .null, [], []),
  (111, .getfield 28, 3, 2, 0, .null, [(11, 0)], [257]),
  (114, .invokevirtual 152, 3, 0, 0, .null, [(4, 24)], [578, 579, 580, 60, 0, 0, 0, 0]),
  (117, .lmul, 1, 0, 0, .null, [], []),
  (118, .iload 5, 2, 5, 0, .null, [], []),
  (120, .invokestatic 156, 3, 3, 0, .null, [(0, 118)], [582, 583, 57]),
  (123, .lreturn, 1, 0, 0, .null, [], [])]
def miX11_expected : ev_MI := (RX11, yX11_expected, cX11_expected, 6, (some .long), eiX11_expected, [611])
def eiX11_next : List ev_E := [(0, .aload_n 0, 1, 0, 0, .null, [], []),
  (1, .getfield 19, 3, 1, 0, .null, [(11, 0)], [256]),
  (4, .invokevirtual 121, 3, 0, 0, .null, [(7, 56)], [495, 496, 497, 59, 0, 0, 0, 0]),
  (7, .ifCond .ne 6, 3, 0, 13, .null, [], []),
  (10, .bipush (-103), 2, 0, 0, .int (-103), [], []),
  (12, .ireturn, 1, 0, 0, .null, [], []),
  (13, .iload_n 1, 1, 1, 0, .null, [], []),
  (14, .iconst 5, 1, 0, 0, .int (5), [], []),
  (15, .invokestatic 113, 3, 2, 0, .null, [(0, 113)], [483, 451, 57]),
  (18, .ifCond .ne 6, 3, 0, 24, .null, [], []),
  (21, .bipush (-102), 2, 0, 0, .int (-102), [], []),
  (23, .ireturn, 1, 0, 0, .null, [], []),
  (24, .aload_n 0, 1, 0, 0, .null, [], []),
  (25, .getfield 19, 3, 1, 0, .null, [(11, 0)], [256]),
  (28, .iload_n 2, 1, 2, 0, .null, [], []),
  (29, .invokevirtual 110, 3, 1, 0, .null, [(7, 59)], [482, 466, 467, 59, 0, 0, 0, 0]),
  (32, .ifCond .ne 6, 3, 0, 38, .null, [], []),
  (35, .bipush (-101), 2, 0, 0, .int (-101), [], []),
  (37, .ireturn, 1, 0, 0, .null, [], []),
  (38, .iload_n 3, 1, 3, 0, .null, [], []),
  (39, .bipush 10, 2, 0, 0, .int (10), [], []),
  (41, .invokestatic 113, 3, 2, 0, .null, [(0, 113)], [483, 451, 57]),
  (44, .ifCond .ne 6, 3, 0, 50, .null, [], []),
  (47, .bipush (-102), 2, 0, 0, .int (-102), [], []),
  (49, .ireturn, 1, 0, 0, .null, [], []),
  (50, .aload_n 0, 1, 0, 0, .null, [], []),
  (51, .getfield 28, 3, 2, 0, .null, [(11, 0)], [257]),
  (54, .getfield 127, 3, 4, 0, .null, [(4, 0)], [154]),
  (57, .bipush 7, 2, 0, 0, .int (7), [], []),
  (59, .if_icmp .le 6, 3, 0, 65, .null, [], []),
  (62, .bipush (-103), 2, 0, 0, .int (-103), [], []),
  (64, .ireturn, 1, 0, 0, .null, [], []),
  (65, .aload_n 0, 1, 0, 0, .null, [], []),
  (66, .iload_n 1, 1, 1, 0, .null, [], []),
  (67, .iload_n 2, 1, 2, 0, .null, [], []),
  (68, .iload_n 3, 1, 3, 0, .null, [], []),
  (69, .invokevirtual 174, 3, 3, 0, .null, [(11, 120)], [629, 631, 8, 57, 0, 0, 0, 0]),
  (72, .ireturn, 1, 0, 0, .null, [], [])]
def miX11_next : ev_MI := (RX11, yX11_next, cX11_next, 4, (some .int), eiX11_next, [628])
def eiX11_post : List ev_E := [(0, .aload_n 0, 1, 0, 0, .null, [], []),
  (1, .getfield 19, 3, 1, 0, .null, [(11, 0)], [256]),
  (4, .iload_n 1, 1, 1, 0, .null, [], []),
  (5, .invokevirtual 102, 3, 1, 0, .null, [(7, 57)], [473, 447, 448, 59, 0, 0, 0, 0]),
  (8, .ifCond .eq 15, 3, 0, 23, .null, [], []),
  (11, .aload_n 0, 1, 0, 0, .null, [], []),
  (12, .getfield 19, 3, 1, 0, .null, [(11, 0)], [256]),
  (15, .iload_n 1, 1, 1, 0, .null, [], []),
  (16, .invokevirtual 106, 3, 1, 0, .null, [(7, 58)], [474, 475, 476, 59, 0, 0, 0, 0]),
  (19, .iconst 2, 1, 0, 0, .int (2), [], []),
  (20, .if_icmp .eq 7, 3, 0, 27, .null, [], []),
  (23, .ldc2_w 178, 3, 0, 0, .long (-1000000000000000001), [], [638]),
  (26, .lreturn, 1, 0, 0, .null, [], []),
  (27, .iload_n 2, 1, 2, 0, .null, [], []),
  (28, .iconst 5, 1, 0, 0, .int (5), [], []),
  (29, .invokestatic 113, 3, 2, 0, .null, [(0, 113)], [483, 451, 57]),
  (32, .ifCond .eq 11, 3, 0, 43, .null, [], []),
  (35, .iload_n 3, 1, 3, 0, .null, [], []),
  (36, .iconst 1, 1, 0, 0, .int (1), [], []),
  (37, .invokestatic 113, 3, 2, 0, .null, [(0, 113)], [483, 451, 57]),
  (40, .ifCond .ne 7, 3, 0, 47, .null, [], []),
  (43, .ldc2_w 180, 3, 0, 0, .long (-1000000000000000002), [], [639]),
  (46, .lreturn, 1, 0, 0, .null, [], []),
  (47, .aload_n 0, 1, 0, 0, .null, [], []),
  (48, .getfield 28, 3, 2, 0, .null, [(11, 0)], [257]),
  (51, .getfield 127, 3, 4, 0, .null, [(4, 0)], [154]),
  (54, .bipush 7, 2, 0, 0, .int (7), [], []),
  (56, .if_icmp .le 7, 3, 0, 63, .null, [], []),
  (59, .ldc2_w 182, 3, 0, 0, .long (-1000000000000000003), [], [640]),
  (62, .lreturn, 1, 0, 0, .null, [], []),
  (63, .aload_n 0, 1, 0, 0, .null, [], []),
  (64, .getfield 28, 3, 2, 0, .null, [(11, 0)], [257]),
  (67, .iconst 0, 1, 0, 0, .int (0), [], []),
  (68, .iload_n 2, 1, 2, 0, .null, [], []),
  (69, .iconst (-1), 1, 0, 0, .int (-1), [], []),
  (70, .invokevirtual 137, 3, 3, 0, .null, [(4, 30)], [531, 532, 533, 60, 0, 0, 0, 0]),
  (73, .aload_n 0, 1, 0, 0, .null, [], []),
  (74, .getfield 28, 3, 2, 0, .null, [(11, 0)], [257]),
  (77, .invokevirtual 184, 3, 0, 0, .null, [(4, 37)], [616, 617, 618, 60, 0, 0, 0, 0]),
  (80, .lstore 4, 2, 4, 0, .null, [], []),
  (82, .aload_n 0, 1, 0, 0, .null, [], []),
  (83, .getfield 28, 3, 2, 0, .null, [(11, 0)], [257]),
  (86, .iconst 0, 1, 0, 0, .int (0), [], []),
  (87, .iload_n 2, 1, 2, 0, .null, [], []),
  (88, .iload_n 1, 1, 1, 0, .null, [], []),
  (89, .invokevirtual 137, 3, 3, 0, .null, [(4, 30)], [531, 532, 533, 60, 0, 0, 0, 0]),
  (92, .aload_n 0, 1, 0, 0, .null, [], []),
  (93, .getfield 28, 3, 2, 0, .null, [(11, 0)], [257]),
  (96, .invokevirtual 184, 3, 0, 0, .null, [(4, 37)], [616, 617, 618, 60, 0, 0, 0, 0]),
  (99, .lstore 6, 2, 6, 0, .null, [], []),
  (101, .lload 4, 2, 4, 0, .null, [], []),
  (103, .lload 6, 2, 6, 0, .null, [], []),
  (105, .lsub, 1, 0, 0, .null, [], []),
  (106, .ldc2_w 187, 3, 0, 0, .long (10), [], [641]),
  (109, .aload_n 0, 1, 0, 0, .null, [], []),
  (110, .getfield 28, 3, 2, 0, .null, [(11, 0)], [257]),
  (113, .invokevirtual 152, 3, 0, 0, .null, [(4, 24)], [578, 579, 580, 60, 0, 0, 0, 0]),
  (116, .lmul, 1, 0, 0, .null, [], []),
  (117, .iload_n 3, 1, 3, 0, .null, [], []),
  (118, .invokestatic 156, 3, 3, 0, .null, [(0, 118)], [582, 583, 57]),
  (121, .lreturn, 1, 0, 0, .null, [], [])]
def miX11_post : ev_MI := (RX11, yX11_post, cX11_post, 8, (some .long), eiX11_post, [637])
def eiX11_as : List ev_E := [(0, .aload_n 0, 1, 0, 0, .null, [], []),
  (1, .iload_n 1, 1, 1, 0, .null, [], []),
  (2, .invokevirtual 207, 3, 1, 0, .null, [(11, 121)], [762, 764, 9, 57, 0, 0, 0, 0]),
  (5, .astore_n 3, 1, 3, 0, .null, [], []),
  (6, .aload_n 3, 1, 3, 0, .null, [], []),
  (7, .ifnonnull 6, 3, 0, 13, .null, [], []),
  (10, .bipush (-101), 2, 0, 0, .int (-101), [], []),
  (12, .ireturn, 1, 0, 0, .null, [], []),
  (13, .iload_n 2, 1, 2, 0, .null, [], []),
  (14, .iconst 5, 1, 0, 0, .int (5), [], []),
  (15, .invokestatic 113, 3, 2, 0, .null, [(0, 113)], [483, 451, 57]),
  (18, .ifCond .ne 6, 3, 0, 24, .null, [], []),
  (21, .bipush (-102), 2, 0, 0, .int (-102), [], []),
  (23, .ireturn, 1, 0, 0, .null, [], []),
  (24, .aload_n 3, 1, 3, 0, .null, [], []),
  (25, .iload_n 2, 1, 2, 0, .null, [], []),
  (26, .invokestatic 210, 3, 2, 0, .null, [(0, 122)], [766, 767, 57]),
  (29, .ifCond .eq 7, 3, 0, 36, .null, [], []),
  (32, .iload_n 1, 1, 1, 0, .null, [], []),
  (33, .goto 4, 3, 0, 37, .null, [], []),
  (36, .iconst (-1), 1, 0, 0, .int (-1), [], []),
  (37, .ireturn, 1, 0, 0, .null, [], [])]
def miX11_as : ev_MI := (RX11, yX11_as, cX11_as, 4, (some .int), eiX11_as, [761])
def eiX11_about : List ev_E := [(0, .aload_n 0, 1, 0, 0, .null, [], []),
  (1, .iload_n 1, 1, 1, 0, .null, [], []),
  (2, .invokevirtual 207, 3, 1, 0, .null, [(11, 121)], [762, 764, 9, 57, 0, 0, 0, 0]),
  (5, .astore_n 3, 1, 3, 0, .null, [], []),
  (6, .aload_n 3, 1, 3, 0, .null, [], []),
  (7, .ifnonnull 6, 3, 0, 13, .null, [], []),
  (10, .bipush (-101), 2, 0, 0, .int (-101), [], []),
  (12, .ireturn, 1, 0, 0, .null, [], []),
  (13, .iload_n 2, 1, 2, 0, .null, [], []),
  (14, .iconst 4, 1, 0, 0, .int (4), [], []),
  (15, .invokestatic 113, 3, 2, 0, .null, [(0, 113)], [483, 451, 57]),
  (18, .ifCond .eq 11, 3, 0, 29, .null, [], []),
  (21, .aload_n 3, 1, 3, 0, .null, [], []),
  (22, .iload_n 2, 1, 2, 0, .null, [], []),
  (23, .invokevirtual 214, 3, 1, 0, .null, [(0, 52), (1, 52), (2, 52), (6, 52), (9, 52), (10, 52)], [773, 776, 777, 774, 71, 0, 0, 0, 773, 776, 778, 774, 71, 0, 0, 0, 773, 776, 779, 774, 71, 0, 0, 0, 773, 774, 775, 71, 0, 0, 0, 0, 773, 776, 780, 774, 71, 0, 0, 0, 773, 776, 781, 774, 71, 0, 0, 0]),
  (26, .goto 5, 3, 0, 31, .null, [], []),
  (29, .bipush (-102), 2, 0, 0, .int (-102), [], []),
  (31, .ireturn, 1, 0, 0, .null, [], [])]
def miX11_about : ev_MI := (RX11, yX11_about, cX11_about, 4, (some .int), eiX11_about, [772])
def eiX11_move : List ev_E := [(0, .aload_n 0, 1, 0, 0, .null, [], []),
  (1, .iload_n 1, 1, 1, 0, .null, [], []),
  (2, .invokevirtual 207, 3, 1, 0, .null, [(11, 121)], [762, 764, 9, 57, 0, 0, 0, 0]),
  (5, .astore_n 3, 1, 3, 0, .null, [], []),
  (6, .aload_n 3, 1, 3, 0, .null, [], []),
  (7, .ifnull 14, 3, 0, 21, .null, [], []),
  (10, .aload_n 0, 1, 0, 0, .null, [], []),
  (11, .getfield 19, 3, 1, 0, .null, [(11, 0)], [256]),
  (14, .iload_n 2, 1, 2, 0, .null, [], []),
  (15, .invokevirtual 110, 3, 1, 0, .null, [(7, 59)], [482, 466, 467, 59, 0, 0, 0, 0]),
  (18, .ifCond .ne 6, 3, 0, 24, .null, [], []),
  (21, .bipush (-101), 2, 0, 0, .int (-101), [], []),
  (23, .ireturn, 1, 0, 0, .null, [], []),
  (24, .aload_n 3, 1, 3, 0, .null, [], []),
  (25, .getfield 197, 3, 0, 0, .null, [(0, 0), (1, 0), (2, 0), (6, 0), (9, 0), (10, 0)], [663]),
  (28, .istore 4, 2, 4, 0, .null, [], []),
  (30, .aload_n 3, 1, 3, 0, .null, [], []),
  (31, .iload_n 2, 1, 2, 0, .null, [], []),
  (32, .putfield 197, 3, 0, 0, .null, [(0, 0), (1, 0), (2, 0), (6, 0), (9, 0), (10, 0)], [663]),
  (35, .iload 4, 2, 4, 0, .null, [], []),
  (37, .ireturn, 1, 0, 0, .null, [], [])]
def miX11_move : ev_MI := (RX11, yX11_move, cX11_move, 5, (some .int), eiX11_move, [806])
def eiX11_game : List ev_E := [(0, .aload_n 0, 1, 0, 0, .null, [], []),
  (1, .getfield 19, 3, 1, 0, .null, [(11, 0)], [256]),
  (4, .iload_n 1, 1, 1, 0, .null, [], []),
  (5, .invokevirtual 110, 3, 1, 0, .null, [(7, 59)], [482, 466, 467, 59, 0, 0, 0, 0]),
  (8, .ifCond .ne 6, 3, 0, 14, .null, [], []),
  (11, .bipush (-101), 2, 0, 0, .int (-101), [], []),
  (13, .ireturn, 1, 0, 0, .null, [], []),
  (14, .iload_n 2, 1, 2, 0, .null, [], []),
  (15, .iload_n 3, 1, 3, 0, .null, [], []),
  (16, .iload 5, 2, 5, 0, .null, [], []),
  (18, .sipush 200, 3, 0, 0, .int (200), [], []),
  (21, .invokestatic 217, 3, 4, 0, .null, [(0, 114)], [811, 812, 57]),
  (24, .ifCond .eq 17, 3, 0, 41, .null, [], []),
  (27, .iload 4, 2, 4, 0, .null, [], []),
  (29, .ifCond .lt 12, 3, 0, 41, .null, [], []),
  (32, .iload 6, 2, 6, 0, .null, [], []),
  (34, .iconst 3, 1, 0, 0, .int (3), [], []),
  (35, .invokestatic 113, 3, 2, 0, .null, [(0, 113)], [483, 451, 57]),
  (38, .ifCond .ne 6, 3, 0, 44, .null, [], []),
  (41, .bipush (-102), 2, 0, 0, .int (-102), [], []),
  (43, .ireturn, 1, 0, 0, .null, [], []),
  (44, .aload_n 0, 1, 0, 0, .null, [], []),
  (45, .getfield 43, 3, 4, 0, .null, [(11, 0)], [259]),
  (48, .iload_n 1, 1, 1, 0, .null, [], []),
  (49, .iload_n 2, 1, 2, 0, .null, [], []),
  (50, .iload_n 3, 1, 3, 0, .null, [], []),
  (51, .iload 5, 2, 5, 0, .null, [], []),
  (53, .invokevirtual 221, 3, 4, 0, .null, [(8, 68)], [814, 815, 816, 61, 0, 0, 0, 0]),
  (56, .aload_n 0, 1, 0, 0, .null, [], []),
  (57, .getfield 43, 3, 4, 0, .null, [(11, 0)], [259]),
  (60, .iload 4, 2, 4, 0, .null, [], []),
  (62, .invokevirtual 225, 3, 1, 0, .null, [(8, 69)], [818, 819, 820, 61, 0, 0, 0, 0]),
  (65, .aload_n 0, 1, 0, 0, .null, [], []),
  (66, .getfield 43, 3, 4, 0, .null, [(11, 0)], [259]),
  (69, .iload 6, 2, 6, 0, .null, [], []),
  (71, .invokevirtual 228, 3, 1, 0, .null, [(8, 70)], [907, 908, 909, 61, 0, 0, 0, 0]),
  (74, .ireturn, 1, 0, 0, .null, [], [])]
def miX11_game : ev_MI := (RX11, yX11_game, cX11_game, 7, (some .int), eiX11_game, [810])
def eiX11_lasts : List ev_E := [(0, .aload_n 0, 1, 0, 0, .null, [], []),
  (1, .getfield 19, 3, 1, 0, .null, [(11, 0)], [256]),
  (4, .iload_n 1, 1, 1, 0, .null, [], []),
  (5, .invokevirtual 110, 3, 1, 0, .null, [(7, 59)], [482, 466, 467, 59, 0, 0, 0, 0]),
  (8, .ifCond .ne 6, 3, 0, 14, .null, [], []),
  (11, .bipush (-101), 2, 0, 0, .int (-101), [], []),
  (13, .ireturn, 1, 0, 0, .null, [], []),
  (14, .iload_n 2, 1, 2, 0, .null, [], []),
  (15, .iload_n 3, 1, 3, 0, .null, [], []),
  (16, .iload 4, 2, 4, 0, .null, [], []),
  (18, .sipush 200, 3, 0, 0, .int (200), [], []),
  (21, .invokestatic 217, 3, 4, 0, .null, [(0, 114)], [811, 812, 57]),
  (24, .ifCond .eq 16, 3, 0, 40, .null, [], []),
  (27, .iload 5, 2, 5, 0, .null, [], []),
  (29, .iconst 1, 1, 0, 0, .int (1), [], []),
  (30, .if_icmp .lt 10, 3, 0, 40, .null, [], []),
  (33, .iload 5, 2, 5, 0, .null, [], []),
  (35, .bipush 20, 2, 0, 0, .int (20), [], []),
  (37, .if_icmp .le 6, 3, 0, 43, .null, [], []),
  (40, .bipush (-102), 2, 0, 0, .int (-102), [], []),
  (42, .ireturn, 1, 0, 0, .null, [], []),
  (43, .aload_n 0, 1, 0, 0, .null, [], []),
  (44, .getfield 43, 3, 4, 0, .null, [(11, 0)], [259]),
  (47, .iload_n 1, 1, 1, 0, .null, [], []),
  (48, .iload_n 2, 1, 2, 0, .null, [], []),
  (49, .iload_n 3, 1, 3, 0, .null, [], []),
  (50, .iload 4, 2, 4, 0, .null, [], []),
  (52, .invokevirtual 221, 3, 4, 0, .null, [(8, 68)], [814, 815, 816, 61, 0, 0, 0, 0]),
  (55, .aload_n 0, 1, 0, 0, .null, [], []),
  (56, .getfield 43, 3, 4, 0, .null, [(11, 0)], [259]),
  (59, .iconst (-1), 1, 0, 0, .int (-1), [], []),
  (60, .iload 5, 2, 5, 0, .null, [], []),
  (62, .iload 5, 2, 5, 0, .null, [], []),
  (64, .invokevirtual 231, 3, 3, 0, .null, [(8, 71)], [915, 916, 917, 61, 0, 0, 0, 0]),
  (67, .ireturn, 1, 0, 0, .null, [], [])]
def miX11_lasts : ev_MI := (RX11, yX11_lasts, cX11_lasts, 6, (some .int), eiX11_lasts, [914])
def eiX11_stand : List ev_E := [(0, .aload_n 0, 1, 0, 0, .null, [], []),
  (1, .iload_n 1, 1, 1, 0, .null, [], []),
  (2, .invokevirtual 207, 3, 1, 0, .null, [(11, 121)], [762, 764, 9, 57, 0, 0, 0, 0]),
  (5, .astore 7, 2, 7, 0, .null, [], []),
  (7, .aload 7, 2, 7, 0, .null, [], []),
  (9, .ifnull 14, 3, 0, 23, .null, [], []),
  (12, .aload_n 0, 1, 0, 0, .null, [], []),
  (13, .getfield 19, 3, 1, 0, .null, [(11, 0)], [256]),
  (16, .iload_n 2, 1, 2, 0, .null, [], []),
  (17, .invokevirtual 110, 3, 1, 0, .null, [(7, 59)], [482, 466, 467, 59, 0, 0, 0, 0]),
  (20, .ifCond .ne 6, 3, 0, 26, .null, [], []),
  (23, .bipush (-101), 2, 0, 0, .int (-101), [], []),
  (25, .ireturn, 1, 0, 0, .null, [], []),
  (26, .iload_n 3, 1, 3, 0, .null, [], []),
  (27, .iload 4, 2, 4, 0, .null, [], []),
  (29, .iload 5, 2, 5, 0, .null, [], []),
  (31, .bipush 50, 2, 0, 0, .int (50), [], []),
  (33, .invokestatic 217, 3, 4, 0, .null, [(0, 114)], [811, 812, 57]),
  (36, .ifCond .eq 16, 3, 0, 52, .null, [], []),
  (39, .iload 6, 2, 6, 0, .null, [], []),
  (41, .iconst 1, 1, 0, 0, .int (1), [], []),
  (42, .if_icmp .lt 10, 3, 0, 52, .null, [], []),
  (45, .iload 6, 2, 6, 0, .null, [], []),
  (47, .bipush 9, 2, 0, 0, .int (9), [], []),
  (49, .if_icmp .le 6, 3, 0, 55, .null, [], []),
  (52, .bipush (-102), 2, 0, 0, .int (-102), [], []),
  (54, .ireturn, 1, 0, 0, .null, [], []),
  (55, .aload_n 0, 1, 0, 0, .null, [], []),
  (56, .getfield 234, 3, 8, 0, .null, [(11, 0)], [263]),
  (59, .bipush 20, 2, 0, 0, .int (20), [], []),
  (61, .if_icmp .lt 6, 3, 0, 67, .null, [], []),
  (64, .bipush (-103), 2, 0, 0, .int (-103), [], []),
  (66, .ireturn, 1, 0, 0, .null, [], []),
  (67, .aload_n 0, 1, 0, 0, .null, [], []),
  (68, .dup, 1, 0, 0, .null, [], []),
  (69, .getfield 234, 3, 8, 0, .null, [(11, 0)], [263]),
  (72, .iconst 1, 1, 0, 0, .int (1), [], []),
  (73, .iadd, 1, 0, 0, .null, [], []),
  (74, .putfield 234, 3, 8, 0, .null, [(11, 0)], [263]),
  (77, .aload_n 0, 1, 0, 0, .null, [], []),
  (78, .getfield 43, 3, 4, 0, .null, [(11, 0)], [259]),
  (81, .iload_n 2, 1, 2, 0, .null, [], []),
  (82, .iload_n 3, 1, 3, 0, .null, [], []),
  (83, .iload 4, 2, 4, 0, .null, [], []),
  (85, .iload 5, 2, 5, 0, .null, [], []),
  (87, .invokevirtual 221, 3, 4, 0, .null, [(8, 68)], [814, 815, 816, 61, 0, 0, 0, 0]),
  (90, .aload 7, 2, 7, 0, .null, [], []),
  (92, .getfield 197, 3, 0, 0, .null, [(0, 0), (1, 0), (2, 0), (6, 0), (9, 0), (10, 0)], [663]),
  (95, .istore 8, 2, 8, 0, .null, [], []),
  (97, .iconst (-1), 1, 0, 0, .int (-1), [], []),
  (98, .istore 9, 2, 9, 0, .null, [], []),
  (100, .iload 6, 2, 6, 0, .null, [], []),
  (102, .iconst 1, 1, 0, 0, .int (1), [], []),
  (103, .iadd, 1, 0, 0, .null, [], []),
  (104, .istore 10, 2, 10, 0, .null, [], []),
  (106, .iconst 0, 1, 0, 0, .int (0), [], []),
  (107, .istore 11, 2, 11, 0, .null, [], []),
  (109, .iload 11, 2, 11, 0, .null, [], []),
  (111, .aload_n 0, 1, 0, 0, .null, [], []),
  (112, .getfield 19, 3, 1, 0, .null, [(11, 0)], [256]),
  (115, .getfield 99, 3, 4, 0, .null, [(7, 0)], [123]),
  (118, .if_icmp .ge 72, 3, 0, 190, .null, [], []),
  (121, .iload 10, 2, 10, 0, .null, [], []),
  (123, .ifCond .le 67, 3, 0, 190, .null, [], []),
  (126, .aload_n 0, 1, 0, 0, .null, [], []),
  (127, .getfield 19, 3, 1, 0, .null, [(11, 0)], [256]),
  (130, .iload 11, 2, 11, 0, .null, [], []),
  (132, .invokevirtual 110, 3, 1, 0, .null, [(7, 59)], [482, 466, 467, 59, 0, 0, 0, 0]),
  (135, .ifCond .eq 49, 3, 0, 184, .null, [], []),
  (138, .aload 7, 2, 7, 0, .null, [], []),
  (140, .iload 11, 2, 11, 0, .null, [], []),
  (142, .putfield 197, 3, 0, 0, .null, [(0, 0), (1, 0), (2, 0), (6, 0), (9, 0), (10, 0)], [663]),
  (145, .aload_n 0, 1, 0, 0, .null, [], []),
  (146, .getfield 43, 3, 4, 0, .null, [(11, 0)], [259]),
  (149, .iload_n 1, 1, 1, 0, .null, [], []),
  (150, .iload 6, 2, 6, 0, .null, [], []),
  (152, .iload 10, 2, 10, 0, .null, [], []),
  (154, .invokevirtual 231, 3, 3, 0, .null, [(8, 71)], [915, 916, 917, 61, 0, 0, 0, 0]),
  (157, .istore 12, 2, 12, 0, .null, [], []),
  (159, .iload 12, 2, 12, 0, .null, [], []),
  (161, .iload 10, 2, 10, 0, .null, [], []),
  (163, .if_icmp .ge 8, 3, 0, 171, .null, [], []),
  (166, .iload 11, 2, 11, 0, .null, [], []),
  (168, .goto 5, 3, 0, 173, .null, [], []),
  (171, .iload 9, 2, 9, 0, .null, [], []),
  (173, .istore 9, 2, 9, 0, .null, [], []),
  (175, .iload 12, 2, 12, 0, .null, [], []),
  (177, .iload 10, 2, 10, 0, .null, [], []),
  (179, .invokestatic 237, 3, 101, 0, .null, [], [924, 353, 66, 354]),
  (182, .istore 10, 2, 10, 0, .null, [], []),
  (184, .iinc 11 1, 3, 11, 0, .int (1), [], []),
  (187, .goto (-78), 3, 0, 109, .null, [], []),
  (190, .aload 7, 2, 7, 0, .null, [], []),
  (192, .iload 8, 2, 8, 0, .null, [], []),
  (194, .putfield 197, 3, 0, 0, .null, [(0, 0), (1, 0), (2, 0), (6, 0), (9, 0), (10, 0)], [663]),
  (197, .iload 9, 2, 9, 0, .null, [], []),
  (199, .ireturn, 1, 0, 0, .null, [], [])]
def miX11_stand : ev_MI := (RX11, yX11_stand, cX11_stand, 13, (some .int), eiX11_stand, [923])
def eiX11_feels : List ev_E := [(0, .iload_n 1, 1, 1, 0, .null, [], []),
  (1, .iconst 5, 1, 0, 0, .int (5), [], []),
  (2, .invokestatic 113, 3, 2, 0, .null, [(0, 113)], [483, 451, 57]),
  (5, .ifCond .eq 21, 3, 0, 26, .null, [], []),
  (8, .iload_n 2, 1, 2, 0, .null, [], []),
  (9, .bipush 10, 2, 0, 0, .int (10), [], []),
  (11, .invokestatic 113, 3, 2, 0, .null, [(0, 113)], [483, 451, 57]),
  (14, .ifCond .eq 12, 3, 0, 26, .null, [], []),
  (17, .iload_n 3, 1, 3, 0, .null, [], []),
  (18, .bipush 10, 2, 0, 0, .int (10), [], []),
  (20, .invokestatic 113, 3, 2, 0, .null, [(0, 113)], [483, 451, 57]),
  (23, .ifCond .ne 6, 3, 0, 29, .null, [], []),
  (26, .bipush (-102), 2, 0, 0, .int (-102), [], []),
  (28, .ireturn, 1, 0, 0, .null, [], []),
  (29, .aload_n 0, 1, 0, 0, .null, [], []),
  (30, .getfield 52, 3, 5, 0, .null, [(11, 0)], [260]),
  (33, .iload_n 1, 1, 1, 0, .null, [], []),
  (34, .putfield 243, 3, 2, 0, .null, [(3, 0)], [221]),
  (37, .aload_n 0, 1, 0, 0, .null, [], []),
  (38, .getfield 52, 3, 5, 0, .null, [(11, 0)], [260]),
  (41, .iload_n 2, 1, 2, 0, .null, [], []),
  (42, .putfield 246, 3, 3, 0, .null, [(3, 0)], [223]),
  (45, .aload_n 0, 1, 0, 0, .null, [], []),
  (46, .getfield 52, 3, 5, 0, .null, [(11, 0)], [260]),
  (49, .iload_n 3, 1, 3, 0, .null, [], []),
  (50, .putfield 249, 3, 4, 0, .null, [(3, 0)], [225]),
  (53, .iconst 1, 1, 0, 0, .int (1), [], []),
  (54, .ireturn, 1, 0, 0, .null, [], [])]
def miX11_feels : ev_MI := (RX11, yX11_feels, cX11_feels, 4, (some .int), eiX11_feels, [928])
def eiX11_jackets : List ev_E := [(0, .aload_n 0, 1, 0, 0, .null, [], []),
  (1, .iload_n 1, 1, 1, 0, .null, [], []),
  (2, .invokevirtual 207, 3, 1, 0, .null, [(11, 121)], [762, 764, 9, 57, 0, 0, 0, 0]),
  (5, .ifnull 16, 3, 0, 21, .null, [], []),
  (8, .aload_n 0, 1, 0, 0, .null, [], []),
  (9, .iload_n 2, 1, 2, 0, .null, [], []),
  (10, .invokevirtual 207, 3, 1, 0, .null, [(11, 121)], [762, 764, 9, 57, 0, 0, 0, 0]),
  (13, .ifnull 8, 3, 0, 21, .null, [], []),
  (16, .iload_n 1, 1, 1, 0, .null, [], []),
  (17, .iload_n 2, 1, 2, 0, .null, [], []),
  (18, .if_icmp .ne 6, 3, 0, 24, .null, [], []),
  (21, .bipush (-101), 2, 0, 0, .int (-101), [], []),
  (23, .ireturn, 1, 0, 0, .null, [], []),
  (24, .iload_n 3, 1, 3, 0, .null, [], []),
  (25, .bipush 10, 2, 0, 0, .int (10), [], []),
  (27, .invokestatic 113, 3, 2, 0, .null, [(0, 113)], [483, 451, 57]),
  (30, .ifCond .ne 6, 3, 0, 36, .null, [], []),
  (33, .bipush (-102), 2, 0, 0, .int (-102), [], []),
  (35, .ireturn, 1, 0, 0, .null, [], []),
  (36, .aload_n 0, 1, 0, 0, .null, [], []),
  (37, .getfield 52, 3, 5, 0, .null, [(11, 0)], [260]),
  (40, .iload_n 1, 1, 1, 0, .null, [], []),
  (41, .iload_n 2, 1, 2, 0, .null, [], []),
  (42, .iload_n 3, 1, 3, 0, .null, [], []),
  (43, .invokevirtual 252, 3, 3, 0, .null, [(3, 6)], [933, 458, 459, 62, 0, 0, 0, 0]),
  (46, .iconst 1, 1, 0, 0, .int (1), [], []),
  (47, .ireturn, 1, 0, 0, .null, [], [])]
def miX11_jackets : ev_MI := (RX11, yX11_jackets, cX11_jackets, 4, (some .int), eiX11_jackets, [932])
def eiX11_named : List ev_E := [(0, .aload_n 0, 1, 0, 0, .null, [], []),
  (1, .iload_n 1, 1, 1, 0, .null, [], []),
  (2, .invokevirtual 207, 3, 1, 0, .null, [(11, 121)], [762, 764, 9, 57, 0, 0, 0, 0]),
  (5, .ifnonnull 6, 3, 0, 11, .null, [], []),
  (8, .bipush (-101), 2, 0, 0, .int (-101), [], []),
  (10, .ireturn, 1, 0, 0, .null, [], []),
  (11, .iload_n 2, 1, 2, 0, .null, [], []),
  (12, .iload_n 3, 1, 3, 0, .null, [], []),
  (13, .iload 4, 2, 4, 0, .null, [], []),
  (15, .invokestatic 189, 3, 3, 0, .null, [(0, 115)], [646, 647, 57]),
  (18, .ifCond .eq 12, 3, 0, 30, .null, [], []),
  (21, .iload 5, 2, 5, 0, .null, [], []),
  (23, .iconst 1, 1, 0, 0, .int (1), [], []),
  (24, .invokestatic 113, 3, 2, 0, .null, [(0, 113)], [483, 451, 57]),
  (27, .ifCond .ne 6, 3, 0, 33, .null, [], []),
  (30, .bipush (-102), 2, 0, 0, .int (-102), [], []),
  (32, .ireturn, 1, 0, 0, .null, [], []),
  (33, .aload_n 0, 1, 0, 0, .null, [], []),
  (34, .getfield 52, 3, 5, 0, .null, [(11, 0)], [260]),
  (37, .iload_n 2, 1, 2, 0, .null, [], []),
  (38, .iload_n 3, 1, 3, 0, .null, [], []),
  (39, .iload 4, 2, 4, 0, .null, [], []),
  (41, .invokevirtual 255, 3, 3, 0, .null, [(3, 10)], [938, 939, 940, 62, 0, 0, 0, 0]),
  (44, .aload_n 0, 1, 0, 0, .null, [], []),
  (45, .getfield 52, 3, 5, 0, .null, [(11, 0)], [260]),
  (48, .invokevirtual 258, 3, 0, 0, .null, [(3, 16)], [957, 958, 959, 62, 0, 0, 0, 0]),
  (51, .lstore 6, 2, 6, 0, .null, [], []),
  (53, .lload 6, 2, 6, 0, .null, [], []),
  (55, .lconst 0, 1, 0, 0, .long (0), [], []),
  (56, .lcmp, 1, 0, 0, .null, [], []),
  (57, .ifCond .ne 7, 3, 0, 64, .null, [], []),
  (60, .iconst (-1), 1, 0, 0, .int (-1), [], []),
  (61, .goto 19, 3, 0, 80, .null, [], []),
  (64, .aload_n 0, 1, 0, 0, .null, [], []),
  (65, .getfield 52, 3, 5, 0, .null, [(11, 0)], [260]),
  (68, .iload_n 1, 1, 1, 0, .null, [], []),
  (69, .invokevirtual 259, 3, 1, 0, .null, [(3, 15)], [961, 962, 963, 62, 0, 0, 0, 0]),
  (72, .lload 6, 2, 6, 0, .null, [], []),
  (74, .iload 5, 2, 5, 0, .null, [], []),
  (76, .invokestatic 156, 3, 3, 0, .null, [(0, 118)], [582, 583, 57]),
  (79, .l2i, 1, 0, 0, .null, [], []),
  (80, .ireturn, 1, 0, 0, .null, [], [])]
def miX11_named : ev_MI := (RX11, yX11_named, cX11_named, 8, (some .int), eiX11_named, [937])
def eiX11_says : List ev_E := [(0, .iload_n 1, 1, 1, 0, .null, [], []),
  (1, .iload_n 2, 1, 2, 0, .null, [], []),
  (2, .iload_n 3, 1, 3, 0, .null, [], []),
  (3, .invokestatic 189, 3, 3, 0, .null, [(0, 115)], [646, 647, 57]),
  (6, .ifCond .ne 6, 3, 0, 12, .null, [], []),
  (9, .bipush (-102), 2, 0, 0, .int (-102), [], []),
  (11, .ireturn, 1, 0, 0, .null, [], []),
  (12, .aload_n 0, 1, 0, 0, .null, [], []),
  (13, .getfield 52, 3, 5, 0, .null, [(11, 0)], [260]),
  (16, .iload_n 1, 1, 1, 0, .null, [], []),
  (17, .iload_n 2, 1, 2, 0, .null, [], []),
  (18, .iload_n 3, 1, 3, 0, .null, [], []),
  (19, .invokevirtual 255, 3, 3, 0, .null, [(3, 10)], [938, 939, 940, 62, 0, 0, 0, 0]),
  (22, .aload_n 0, 1, 0, 0, .null, [], []),
  (23, .getfield 52, 3, 5, 0, .null, [(11, 0)], [260]),
  (26, .invokevirtual 262, 3, 0, 0, .null, [(3, 17)], [969, 970, 971, 62, 0, 0, 0, 0]),
  (29, .ireturn, 1, 0, 0, .null, [], [])]
def miX11_says : ev_MI := (RX11, yX11_says, cX11_says, 4, (some .int), eiX11_says, [968])
def eiX11_when : List ev_E := [(0, .iload_n 1, 1, 1, 0, .null, [], []),
  (1, .iload_n 2, 1, 2, 0, .null, [], []),
  (2, .iload_n 3, 1, 3, 0, .null, [], []),
  (3, .invokestatic 189, 3, 3, 0, .null, [(0, 115)], [646, 647, 57]),
  (6, .ifCond .eq 23, 3, 0, 29, .null, [], []),
  (9, .iload 4, 2, 4, 0, .null, [], []),
  (11, .bipush 99, 2, 0, 0, .int (99), [], []),
  (13, .invokestatic 113, 3, 2, 0, .null, [(0, 113)], [483, 451, 57]),
  (16, .ifCond .eq 13, 3, 0, 29, .null, [], []),
  (19, .iload 5, 2, 5, 0, .null, [], []),
  (21, .bipush 99, 2, 0, 0, .int (99), [], []),
  (23, .invokestatic 113, 3, 2, 0, .null, [(0, 113)], [483, 451, 57]),
  (26, .ifCond .ne 6, 3, 0, 32, .null, [], []),
  (29, .bipush (-102), 2, 0, 0, .int (-102), [], []),
  (31, .ireturn, 1, 0, 0, .null, [], []),
  (32, .aload_n 0, 1, 0, 0, .null, [], []),
  (33, .getfield 52, 3, 5, 0, .null, [(11, 0)], [260]),
  (36, .iload_n 1, 1, 1, 0, .null, [], []),
  (37, .iload_n 2, 1, 2, 0, .null, [], []),
  (38, .iload_n 3, 1, 3, 0, .null, [], []),
  (39, .invokevirtual 255, 3, 3, 0, .null, [(3, 10)], [938, 939, 940, 62, 0, 0, 0, 0]),
  (42, .aload_n 0, 1, 0, 0, .null, [], []),
  (43, .getfield 52, 3, 5, 0, .null, [(11, 0)], [260]),
  (46, .aload_n 0, 1, 0, 0, .null, [], []),
  (47, .getfield 52, 3, 5, 0, .null, [(11, 0)], [260]),
  (50, .invokevirtual 262, 3, 0, 0, .null, [(3, 17)], [969, 970, 971, 62, 0, 0, 0, 0]),
  (53, .invokevirtual 259, 3, 1, 0, .null, [(3, 15)], [961, 962, 963, 62, 0, 0, 0, 0]),
  (56, .lstore 6, 2, 6, 0, .null, [], []),
  (58, .aload_n 0, 1, 0, 0, .null, [], []),
  (59, .getfield 52, 3, 5, 0, .null, [(11, 0)], [260]),
  (62, .invokevirtual 258, 3, 0, 0, .null, [(3, 16)], [957, 958, 959, 62, 0, 0, 0, 0]),
  (65, .lload 6, 2, 6, 0, .null, [], []),
  (67, .lsub, 1, 0, 0, .null, [], []),
  (68, .lstore 8, 2, 8, 0, .null, [], []),
  (70, .iload 4, 2, 4, 0, .null, [], []),
  (72, .i2l, 1, 0, 0, .null, [], []),
  (73, .lload 6, 2, 6, 0, .null, [], []),
  (75, .lmul, 1, 0, 0, .null, [], []),
  (76, .iload 5, 2, 5, 0, .null, [], []),
  (78, .i2l, 1, 0, 0, .null, [], []),
  (79, .lload 8, 2, 8, 0, .null, [], []),
  (81, .lmul, 1, 0, 0, .null, [], []),
  (82, .lcmp, 1, 0, 0, .null, [], []),
  (83, .ifCond .le 7, 3, 0, 90, .null, [], []),
  (86, .iconst 1, 1, 0, 0, .int (1), [], []),
  (87, .goto 4, 3, 0, 91, .null, [], []),
  (90, .iconst 0, 1, 0, 0, .int (0), [], []),
  (91, .ireturn, 1, 0, 0, .null, [], [])]
def miX11_when : ev_MI := (RX11, yX11_when, cX11_when, 10, (some .int), eiX11_when, [977])
def eiX11_image : List ev_E := [(0, .aload_n 0, 1, 0, 0, .null, [], []),
  (1, .getfield 19, 3, 1, 0, .null, [(11, 0)], [256]),
  (4, .invokevirtual 121, 3, 0, 0, .null, [(7, 56)], [495, 496, 497, 59, 0, 0, 0, 0]),
  (7, .ifCond .ne 6, 3, 0, 13, .null, [], []),
  (10, .bipush (-103), 2, 0, 0, .int (-103), [], []),
  (12, .ireturn, 1, 0, 0, .null, [], []),
  (13, .aload_n 0, 1, 0, 0, .null, [], []),
  (14, .getfield 28, 3, 2, 0, .null, [(11, 0)], [257]),
  (17, .invokevirtual 265, 3, 0, 0, .null, [(4, 21)], [982, 983, 984, 60, 0, 0, 0, 0]),
  (20, .aload_n 0, 1, 0, 0, .null, [], []),
  (21, .getfield 52, 3, 5, 0, .null, [(11, 0)], [260]),
  (24, .invokevirtual 268, 3, 0, 0, .null, [(3, 8)], [989, 990, 991, 62, 0, 0, 0, 0]),
  (27, .aload_n 0, 1, 0, 0, .null, [], []),
  (28, .getfield 34, 3, 3, 0, .null, [(11, 0)], [258]),
  (31, .astore_n 1, 1, 1, 0, .null, [], []),
  (32, .aload_n 1, 1, 1, 0, .null, [], []),
  (33, .arraylength, 1, 0, 0, .null, [], []),
  (34, .istore_n 2, 1, 2, 0, .null, [], []),
  (35, .iconst 0, 1, 0, 0, .int (0), [], []),
  (36, .istore_n 3, 1, 3, 0, .null, [], []),
  (37, .iload_n 3, 1, 3, 0, .null, [], []),
  (38, .iload_n 2, 1, 2, 0, .null, [], []),
  (39, .if_icmp .ge 29, 3, 0, 68, .null, [], []),
  (42, .aload_n 1, 1, 1, 0, .null, [], []),
  (43, .iload_n 3, 1, 3, 0, .null, [], []),
  (44, .aaload, 1, 0, 0, .null, [], []),
  (45, .astore 4, 2, 4, 0, .null, [], []),
  (47, .aload 4, 2, 4, 0, .null, [], []),
  (49, .ifnull 13, 3, 0, 62, .null, [], []),
  (52, .aload 4, 2, 4, 0, .null, [], []),
  (54, .aload 4, 2, 4, 0, .null, [], []),
  (56, .getfield 197, 3, 0, 0, .null, [(0, 0), (1, 0), (2, 0), (6, 0), (9, 0), (10, 0)], [663]),
  (59, .putfield 269, 3, 1, 0, .null, [(0, 0), (1, 0), (2, 0), (6, 0), (9, 0), (10, 0)], [665]),
  (62, .iinc 3 1, 3, 3, 0, .int (1), [], []),
  (65, .goto (-28), 3, 0, 37, .null, [], []),
  (68, .aload_n 0, 1, 0, 0, .null, [], []),
  (69, .iconst 1, 1, 0, 0, .int (1), [], []),
  (70, .putfield 92, 3, 9, 2, .null, [(11, 0)], [264]),
  (73, .aload_n 0, 1, 0, 0, .null, [], []),
  (74, .getfield 83, 3, 6, 0, .null, [(11, 0)], [261]),
  (77, .ireturn, 1, 0, 0, .null, [], [])]
def miX11_image : ev_MI := (RX11, yX11_image, cX11_image, 5, (some .int), eiX11_image, [981])
def eiX11_restore : List ev_E := [(0, .aload_n 0, 1, 0, 0, .null, [], []),
  (1, .getfield 92, 3, 9, 0, .null, [(11, 0)], [264]),
  (4, .ifCond .ne 6, 3, 0, 10, .null, [], []),
  (7, .bipush (-103), 2, 0, 0, .int (-103), [], []),
  (9, .ireturn, 1, 0, 0, .null, [], []),
  (10, .aload_n 0, 1, 0, 0, .null, [], []),
  (11, .getfield 28, 3, 2, 0, .null, [(11, 0)], [257]),
  (14, .invokevirtual 272, 3, 0, 0, .null, [(4, 22)], [997, 998, 999, 60, 0, 0, 0, 0]),
  (17, .aload_n 0, 1, 0, 0, .null, [], []),
  (18, .getfield 52, 3, 5, 0, .null, [(11, 0)], [260]),
  (21, .invokevirtual 275, 3, 0, 0, .null, [(3, 9)], [1001, 1002, 1003, 62, 0, 0, 0, 0]),
  (24, .aload_n 0, 1, 0, 0, .null, [], []),
  (25, .getfield 34, 3, 3, 0, .null, [(11, 0)], [258]),
  (28, .astore_n 1, 1, 1, 0, .null, [], []),
  (29, .aload_n 1, 1, 1, 0, .null, [], []),
  (30, .arraylength, 1, 0, 0, .null, [], []),
  (31, .istore_n 2, 1, 2, 0, .null, [], []),
  (32, .iconst 0, 1, 0, 0, .int (0), [], []),
  (33, .istore_n 3, 1, 3, 0, .null, [], []),
  (34, .iload_n 3, 1, 3, 0, .null, [], []),
  (35, .iload_n 2, 1, 2, 0, .null, [], []),
  (36, .if_icmp .ge 38, 3, 0, 74, .null, [], []),
  (39, .aload_n 1, 1, 1, 0, .null, [], []),
  (40, .iload_n 3, 1, 3, 0, .null, [], []),
  (41, .aaload, 1, 0, 0, .null, [], []),
  (42, .astore 4, 2, 4, 0, .null, [], []),
  (44, .aload 4, 2, 4, 0, .null, [], []),
  (46, .ifnull 22, 3, 0, 68, .null, [], []),
  (49, .aload 4, 2, 4, 0, .null, [], []),
  (51, .getfield 269, 3, 1, 0, .null, [(0, 0), (1, 0), (2, 0), (6, 0), (9, 0), (10, 0)], [665]),
  (54, .iconst (-1), 1, 0, 0, .int (-1), [], []),
  (55, .if_icmp .eq 13, 3, 0, 68, .null, [], []),
  (58, .aload 4, 2, 4, 0, .null, [], []),
  (60, .aload 4, 2, 4, 0, .null, [], []),
  (62, .getfield 269, 3, 1, 0, .null, [(0, 0), (1, 0), (2, 0), (6, 0), (9, 0), (10, 0)], [665]),
  (65, .putfield 197, 3, 0, 0, .null, [(0, 0), (1, 0), (2, 0), (6, 0), (9, 0), (10, 0)], [663]),
  (68, .iinc 3 1, 3, 3, 0, .int (1), [], []),
  (71, .goto (-37), 3, 0, 34, .null, [], []),
  (74, .aload_n 0, 1, 0, 0, .null, [], []),
  (75, .getfield 83, 3, 6, 0, .null, [(11, 0)], [261]),
  (78, .ireturn, 1, 0, 0, .null, [], [])]
def miX11_restore : ev_MI := (RX11, yX11_restore, cX11_restore, 5, (some .int), eiX11_restore, [996])
def eiX11_count : List ev_E := [(0, .iload_n 1, 1, 1, 0, .null, [], []),
  (1, .tableswitch 102 0 7 #[47, 55, 63, 68, 76, 84, 92, 97], 47, 0, 103, .null, [(0, 48), (1, 56), (2, 64), (3, 69), (4, 77), (5, 85), (6, 93), (7, 98)], []),
  (48, .aload_n 0, 1, 0, 0, .null, [], []),
  (49, .getfield 19, 3, 1, 0, .null, [(11, 0)], [256]),
  (52, .getfield 99, 3, 4, 0, .null, [(7, 0)], [123]),
  (55, .ireturn, 1, 0, 0, .null, [], []),
  (56, .aload_n 0, 1, 0, 0, .null, [], []),
  (57, .getfield 19, 3, 1, 0, .null, [(11, 0)], [256]),
  (60, .getfield 276, 3, 5, 0, .null, [(7, 0)], [126]),
  (63, .ireturn, 1, 0, 0, .null, [], []),
  (64, .aload_n 0, 1, 0, 0, .null, [], []),
  (65, .getfield 83, 3, 6, 0, .null, [(11, 0)], [261]),
  (68, .ireturn, 1, 0, 0, .null, [], []),
  (69, .aload_n 0, 1, 0, 0, .null, [], []),
  (70, .getfield 28, 3, 2, 0, .null, [(11, 0)], [257]),
  (73, .getfield 127, 3, 4, 0, .null, [(4, 0)], [154]),
  (76, .ireturn, 1, 0, 0, .null, [], []),
  (77, .aload_n 0, 1, 0, 0, .null, [], []),
  (78, .getfield 28, 3, 2, 0, .null, [(11, 0)], [257]),
  (81, .invokevirtual 124, 3, 0, 0, .null, [(4, 23)], [499, 500, 501, 60, 0, 0, 0, 0]),
  (84, .ireturn, 1, 0, 0, .null, [], []),
  (85, .aload_n 0, 1, 0, 0, .null, [], []),
  (86, .getfield 10, 3, 0, 0, .null, [(11, 0)], [255]),
  (89, .getfield 60, 3, 1, 0, .null, [(5, 0)], [93]),
  (92, .ireturn, 1, 0, 0, .null, [], []),
  (93, .aload_n 0, 1, 0, 0, .null, [], []),
  (94, .getfield 96, 3, 7, 0, .null, [(11, 0)], [262]),
  (97, .ireturn, 1, 0, 0, .null, [], []),
  (98, .aload_n 0, 1, 0, 0, .null, [], []),
  (99, .getfield 234, 3, 8, 0, .null, [(11, 0)], [263]),
  (102, .ireturn, 1, 0, 0, .null, [], []),
  (103, .bipush (-102), 2, 0, 0, .int (-102), [], []),
  (105, .ireturn, 1, 0, 0, .null, [], [])]
def miX11_count : ev_MI := (RX11, yX11_count, cX11_count, 2, (some .int), eiX11_count, [1008])
def eiX11_digest : List ev_E := [(0, .aload_n 0, 1, 0, 0, .null, [], []),
  (1, .getfield 28, 3, 2, 0, .null, [(11, 0)], [257]),
  (4, .aload_n 0, 1, 0, 0, .null, [], []),
  (5, .getfield 19, 3, 1, 0, .null, [(11, 0)], [256]),
  (8, .ldc2_w 279, 3, 0, 0, .long (457), [], [1013]),
  (11, .invokevirtual 281, 3, 1, 0, .null, [(7, 67)], [1014, 1015, 1016, 59, 0, 0, 0, 0]),
  (14, .invokevirtual 285, 3, 1, 0, .null, [(4, 38)], [1023, 1024, 1025, 60, 0, 0, 0, 0]),
  (17, .lstore_n 1, 1, 1, 0, .null, [], []),
  (18, .aload_n 0, 1, 0, 0, .null, [], []),
  (19, .getfield 34, 3, 3, 0, .null, [(11, 0)], [258]),
  (22, .astore_n 3, 1, 3, 0, .null, [], []),
  (23, .aload_n 3, 1, 3, 0, .null, [], []),
  (24, .arraylength, 1, 0, 0, .null, [], []),
  (25, .istore 4, 2, 4, 0, .null, [], []),
  (27, .iconst 0, 1, 0, 0, .int (0), [], []),
  (28, .istore 5, 2, 5, 0, .null, [], []),
  (30, .iload 5, 2, 5, 0, .null, [], []),
  (32, .iload 4, 2, 4, 0, .null, [], []),
  (34, .if_icmp .ge 48, 3, 0, 82, .null, [], []),
  (37, .aload_n 3, 1, 3, 0, .null, [], []),
  (38, .iload 5, 2, 5, 0, .null, [], []),
  (40, .aaload, 1, 0, 0, .null, [], []),
  (41, .astore 6, 2, 6, 0, .null, [], []),
  (43, .iconst 0, 1, 0, 0, .int (0), [], []),
  (44, .istore 7, 2, 7, 0, .null, [], []),
  (46, .aload 6, 2, 6, 0, .null, [], []),
  (48, .ifnull 28, 3, 0, 76, .null, [], []),
  (51, .iload 7, 2, 7, 0, .null, [], []),
  (53, .iconst 4, 1, 0, 0, .int (4), [], []),
  (54, .if_icmp .gt 22, 3, 0, 76, .null, [], []),
  (57, .lload_n 1, 1, 1, 0, .null, [], []),
  (58, .aload 6, 2, 6, 0, .null, [], []),
  (60, .iload 7, 2, 7, 0, .null, [], []),
  (62, .invokevirtual 214, 3, 1, 0, .null, [(0, 52), (1, 52), (2, 52), (6, 52), (9, 52), (10, 52)], [773, 776, 777, 774, 71, 0, 0, 0, 773, 776, 778, 774, 71, 0, 0, 0, 773, 776, 779, 774, 71, 0, 0, 0, 773, 774, 775, 71, 0, 0, 0, 0, 773, 776, 780, 774, 71, 0, 0, 0, 773, 776, 781, 774, 71, 0, 0, 0]),
  (65, .i2l, 1, 0, 0, .null, [], []),
  (66, .invokestatic 286, 3, 2, 0, .null, [(0, 116)], [1028, 1020, 57]),
  (69, .lstore_n 1, 1, 1, 0, .null, [], []),
  (70, .iinc 7 1, 3, 7, 0, .int (1), [], []),
  (73, .goto (-27), 3, 0, 46, .null, [], []),
  (76, .iinc 5 1, 3, 5, 0, .int (1), [], []),
  (79, .goto (-49), 3, 0, 30, .null, [], []),
  (82, .aload_n 0, 1, 0, 0, .null, [], []),
  (83, .getfield 52, 3, 5, 0, .null, [(11, 0)], [260]),
  (86, .lload_n 1, 1, 1, 0, .null, [], []),
  (87, .invokevirtual 290, 3, 1, 0, .null, [(3, 18)], [1029, 1030, 1031, 62, 0, 0, 0, 0]),
  (90, .lstore_n 1, 1, 1, 0, .null, [], []),
  (91, .aload_n 0, 1, 0, 0, .null, [], []),
  (92, .getfield 83, 3, 6, 0, .null, [(11, 0)], [261]),
  (95, .ifCond .le 55, 3, 0, 150, .null, [], []),
  (98, .aload_n 0, 1, 0, 0, .null, [], []),
  (99, .getfield 43, 3, 4, 0, .null, [(11, 0)], [259]),
  (102, .aload_n 0, 1, 0, 0, .null, [], []),
  (103, .getfield 19, 3, 1, 0, .null, [(11, 0)], [256]),
  (106, .invokevirtual 291, 3, 0, 0, .null, [(7, 60)], [1034, 1035, 1036, 59, 0, 0, 0, 0]),
  (109, .iconst 0, 1, 0, 0, .int (0), [], []),
  (110, .iconst 2, 1, 0, 0, .int (2), [], []),
  (111, .bipush 20, 2, 0, 0, .int (20), [], []),
  (113, .invokevirtual 221, 3, 4, 0, .null, [(8, 68)], [814, 815, 816, 61, 0, 0, 0, 0]),
  (116, .aload_n 0, 1, 0, 0, .null, [], []),
  (117, .getfield 43, 3, 4, 0, .null, [(11, 0)], [259]),
  (120, .iconst 1, 1, 0, 0, .int (1), [], []),
  (121, .invokevirtual 225, 3, 1, 0, .null, [(8, 69)], [818, 819, 820, 61, 0, 0, 0, 0]),
  (124, .lload_n 1, 1, 1, 0, .null, [], []),
  (125, .aload_n 0, 1, 0, 0, .null, [], []),
  (126, .getfield 43, 3, 4, 0, .null, [(11, 0)], [259]),
  (129, .iconst 0, 1, 0, 0, .int (0), [], []),
  (130, .invokevirtual 228, 3, 1, 0, .null, [(8, 70)], [907, 908, 909, 61, 0, 0, 0, 0]),
  (133, .i2l, 1, 0, 0, .null, [], []),
  (134, .invokestatic 286, 3, 2, 0, .null, [(0, 116)], [1028, 1020, 57]),
  (137, .aload_n 0, 1, 0, 0, .null, [], []),
  (138, .getfield 43, 3, 4, 0, .null, [(11, 0)], [259]),
  (141, .iconst 1, 1, 0, 0, .int (1), [], []),
  (142, .invokevirtual 228, 3, 1, 0, .null, [(8, 70)], [907, 908, 909, 61, 0, 0, 0, 0]),
  (145, .i2l, 1, 0, 0, .null, [], []),
  (146, .invokestatic 286, 3, 2, 0, .null, [(0, 116)], [1028, 1020, 57]),
  (149, .lstore_n 1, 1, 1, 0, .null, [], []),
  (150, .aload_n 0, 1, 0, 0, .null, [], []),
  (151, .getfield 10, 3, 0, 0, .null, [(11, 0)], [255]),
  (154, .lload_n 1, 1, 1, 0, .null, [], []),
  (155, .invokevirtual 294, 3, 1, 0, .null, [(5, 47)], [1038, 1039, 1040, 58, 0, 0, 0, 0]),
  (158, .lstore_n 1, 1, 1, 0, .null, [], []),
  (159, .iconst 0, 1, 0, 0, .int (0), [], []),
  (160, .istore_n 3, 1, 3, 0, .null, [], []),
  (161, .iload_n 3, 1, 3, 0, .null, [], []),
  (162, .bipush 7, 2, 0, 0, .int (7), [], []),
  (164, .if_icmp .gt 20, 3, 0, 184, .null, [], []),
  (167, .lload_n 1, 1, 1, 0, .null, [], []),
  (168, .aload_n 0, 1, 0, 0, .null, [], []),
  (169, .iload_n 3, 1, 3, 0, .null, [], []),
  (170, .invokevirtual 295, 3, 1, 0, .null, [(11, 111)], [1043, 1006, 1007, 57, 0, 0, 0, 0]),
  (173, .i2l, 1, 0, 0, .null, [], []),
  (174, .invokestatic 286, 3, 2, 0, .null, [(0, 116)], [1028, 1020, 57]),
  (177, .lstore_n 1, 1, 1, 0, .null, [], []),
  (178, .iinc 3 1, 3, 3, 0, .int (1), [], []),
  (181, .goto (-20), 3, 0, 161, .null, [], []),
  (184, .lload_n 1, 1, 1, 0, .null, [], []),
  (185, .lreturn, 1, 0, 0, .null, [], [])]
def miX11_digest : ev_MI := (RX11, yX11_digest, cX11_digest, 8, (some .long), eiX11_digest, [1012])
def eiX11_isWithin : List ev_E := [(0, .iload_n 0, 1, 0, 0, .null, [], []),
  (1, .ifCond .lt 12, 3, 0, 13, .null, [], []),
  (4, .iload_n 0, 1, 0, 0, .null, [], []),
  (5, .iload_n 1, 1, 1, 0, .null, [], []),
  (6, .if_icmp .gt 7, 3, 0, 13, .null, [], []),
  (9, .iconst 1, 1, 0, 0, .int (1), [], []),
  (10, .goto 4, 3, 0, 14, .null, [], []),
  (13, .iconst 0, 1, 0, 0, .int (0), [], []),
  (14, .ireturn, 1, 0, 0, .null, [], [])]
def miX11_isWithin : ev_MI := (RX11, yX11_isWithin, cX11_isWithin, 2, (some .boolean), eiX11_isWithin, [452])
def eiX11_mayStart : List ev_E := [(0, .iload_n 0, 1, 0, 0, .null, [], []),
  (1, .iconst 3, 1, 0, 0, .int (3), [], []),
  (2, .invokestatic 113, 3, 2, 0, .null, [(0, 113)], [483, 451, 57]),
  (5, .ifCond .eq 26, 3, 0, 31, .null, [], []),
  (8, .iload_n 1, 1, 1, 0, .null, [], []),
  (9, .bipush 9, 2, 0, 0, .int (9), [], []),
  (11, .invokestatic 113, 3, 2, 0, .null, [(0, 113)], [483, 451, 57]),
  (14, .ifCond .eq 17, 3, 0, 31, .null, [], []),
  (17, .iload_n 2, 1, 2, 0, .null, [], []),
  (18, .iconst 1, 1, 0, 0, .int (1), [], []),
  (19, .if_icmp .lt 12, 3, 0, 31, .null, [], []),
  (22, .iload_n 2, 1, 2, 0, .null, [], []),
  (23, .iload_n 3, 1, 3, 0, .null, [], []),
  (24, .if_icmp .gt 7, 3, 0, 31, .null, [], []),
  (27, .iconst 1, 1, 0, 0, .int (1), [], []),
  (28, .goto 4, 3, 0, 32, .null, [], []),
  (31, .iconst 0, 1, 0, 0, .int (0), [], []),
  (32, .ireturn, 1, 0, 0, .null, [], [])]
def miX11_mayStart : ev_MI := (RX11, yX11_mayStart, cX11_mayStart, 4, (some .boolean), eiX11_mayStart, [813])
def eiX11_couldBeFelt : List ev_E := [(0, .iload_n 0, 1, 0, 0, .null, [], []),
  (1, .bipush 9, 2, 0, 0, .int (9), [], []),
  (3, .invokestatic 113, 3, 2, 0, .null, [(0, 113)], [483, 451, 57]),
  (6, .ifCond .eq 23, 3, 0, 29, .null, [], []),
  (9, .iload_n 1, 1, 1, 0, .null, [], []),
  (10, .iconst 4, 1, 0, 0, .int (4), [], []),
  (11, .invokestatic 113, 3, 2, 0, .null, [(0, 113)], [483, 451, 57]),
  (14, .ifCond .eq 15, 3, 0, 29, .null, [], []),
  (17, .iload_n 2, 1, 2, 0, .null, [], []),
  (18, .iconst 4, 1, 0, 0, .int (4), [], []),
  (19, .invokestatic 113, 3, 2, 0, .null, [(0, 113)], [483, 451, 57]),
  (22, .ifCond .eq 7, 3, 0, 29, .null, [], []),
  (25, .iconst 1, 1, 0, 0, .int (1), [], []),
  (26, .goto 4, 3, 0, 30, .null, [], []),
  (29, .iconst 0, 1, 0, 0, .int (0), [], []),
  (30, .ireturn, 1, 0, 0, .null, [], [])]
def miX11_couldBeFelt : ev_MI := (RX11, yX11_couldBeFelt, cX11_couldBeFelt, 3, (some .boolean), eiX11_couldBeFelt, [648])
def eiX11_mixed : List ev_E := [(0, .ldc2_w 298, 3, 0, 0, .long (31), [], [1022]),
  (3, .lload_n 0, 1, 0, 0, .null, [], []),
  (4, .lmul, 1, 0, 0, .null, [], []),
  (5, .lload_n 2, 1, 2, 0, .null, [], []),
  (6, .ladd, 1, 0, 0, .null, [], []),
  (7, .lreturn, 1, 0, 0, .null, [], [])]
def miX11_mixed : ev_MI := (RX11, yX11_mixed, cX11_mixed, 4, (some .long), eiX11_mixed, [1021])
def eiX11_commonDivisor : List ev_E := [(0, .lload_n 0, 1, 0, 0, .null, [], []),
  (1, .lconst 0, 1, 0, 0, .long (0), [], []),
  (2, .lcmp, 1, 0, 0, .null, [], []),
  (3, .ifCond .ge 8, 3, 0, 11, .null, [], []),
  (6, .lload_n 0, 1, 0, 0, .null, [], []),
  (7, .lneg, 1, 0, 0, .null, [], []),
  (8, .goto 4, 3, 0, 12, .null, [], []),
  (11, .lload_n 0, 1, 0, 0, .null, [], []),
  (12, .lstore 4, 2, 4, 0, .null, [], []),
  (14, .lload_n 2, 1, 2, 0, .null, [], []),
  (15, .lconst 0, 1, 0, 0, .long (0), [], []),
  (16, .lcmp, 1, 0, 0, .null, [], []),
  (17, .ifCond .ge 8, 3, 0, 25, .null, [], []),
  (20, .lload_n 2, 1, 2, 0, .null, [], []),
  (21, .lneg, 1, 0, 0, .null, [], []),
  (22, .goto 4, 3, 0, 26, .null, [], []),
  (25, .lload_n 2, 1, 2, 0, .null, [], []),
  (26, .lstore 6, 2, 6, 0, .null, [], []),
  (28, .iconst 0, 1, 0, 0, .int (0), [], []),
  (29, .istore 8, 2, 8, 0, .null, [], []),
  (31, .iload 8, 2, 8, 0, .null, [], []),
  (33, .bipush 100, 2, 0, 0, .int (100), [], []),
  (35, .if_icmp .ge 31, 3, 0, 66, .null, [], []),
  (38, .lload 6, 2, 6, 0, .null, [], []),
  (40, .lconst 0, 1, 0, 0, .long (0), [], []),
  (41, .lcmp, 1, 0, 0, .null, [], []),
  (42, .ifCond .eq 24, 3, 0, 66, .null, [], []),
  (45, .lload 4, 2, 4, 0, .null, [], []),
  (47, .lload 6, 2, 6, 0, .null, [], []),
  (49, .lrem, 1, 0, 0, .null, [], []),
  (50, .lstore 9, 2, 9, 0, .null, [], []),
  (52, .lload 6, 2, 6, 0, .null, [], []),
  (54, .lstore 4, 2, 4, 0, .null, [], []),
  (56, .lload 9, 2, 9, 0, .null, [], []),
  (58, .lstore 6, 2, 6, 0, .null, [], []),
  (60, .iinc 8 1, 3, 8, 0, .int (1), [], []),
  (63, .goto (-32), 3, 0, 31, .null, [], []),
  (66, .lload 4, 2, 4, 0, .null, [], []),
  (68, .lreturn, 1, 0, 0, .null, [], [])]
def miX11_commonDivisor : ev_MI := (RX11, yX11_commonDivisor, cX11_commonDivisor, 11, (some .long), eiX11_commonDivisor, [525])
def eiX11_term : List ev_E := [(0, .lload_n 0, 1, 0, 0, .null, [], []),
  (1, .lload_n 2, 1, 2, 0, .null, [], []),
  (2, .invokestatic 300, 3, 2, 0, .null, [(0, 117)], [585, 524, 57]),
  (5, .lstore 5, 2, 5, 0, .null, [], []),
  (7, .iload 4, 2, 4, 0, .null, [], []),
  (9, .ifCond .ne 7, 3, 0, 16, .null, [], []),
  (12, .lload_n 0, 1, 0, 0, .null, [], []),
  (13, .goto 4, 3, 0, 17, .null, [], []),
  (16, .lload_n 2, 1, 2, 0, .null, [], []),
  (17, .lstore 7, 2, 7, 0, .null, [], []),
  (19, .lload 5, 2, 5, 0, .null, [], []),
  (21, .lconst 0, 1, 0, 0, .long (0), [], []),
  (22, .lcmp, 1, 0, 0, .null, [], []),
  (23, .ifCond .ne 8, 3, 0, 31, .null, [], []),
  (26, .lload 7, 2, 7, 0, .null, [], []),
  (28, .goto 8, 3, 0, 36, .null, [], []),
  (31, .lload 7, 2, 7, 0, .null, [], []),
  (33, .lload 5, 2, 5, 0, .null, [], []),
  (35, .ldiv, 1, 0, 0, .null, [], []),
  (36, .lreturn, 1, 0, 0, .null, [], [])]
def miX11_term : ev_MI := (RX11, yX11_term, cX11_term, 9, (some .long), eiX11_term, [584])
def eiX11_sixtiethsExpected : List ev_E := [(0, .iload_n 1, 1, 1, 0, .null, [], []),
  (1, .iconst 3, 1, 0, 0, .int (3), [], []),
  (2, .if_icmp .ne 21, 3, 0, 23, .null, [], []),
  (5, .aload_n 0, 1, 0, 0, .null, [], []),
  (6, .getfield 28, 3, 2, 0, .null, [(11, 0)], [257]),
  (9, .iload_n 3, 1, 3, 0, .null, [], []),
  (10, .iload 4, 2, 4, 0, .null, [], []),
  (12, .invokevirtual 141, 3, 2, 0, .null, [(4, 32)], [550, 551, 552, 60, 0, 0, 0, 0]),
  (15, .aload_n 0, 1, 0, 0, .null, [], []),
  (16, .getfield 28, 3, 2, 0, .null, [(11, 0)], [257]),
  (19, .invokevirtual 184, 3, 0, 0, .null, [(4, 37)], [616, 617, 618, 60, 0, 0, 0, 0]),
  (22, .lreturn, 1, 0, 0, .null, [], []),
  (23, .iload_n 1, 1, 1, 0, .null, [], []),
  (24, .iconst 1, 1, 0, 0, .int (1), [], []),
  (25, .if_icmp .ne 7, 3, 0, 32, .null, [], []),
  (28, .iconst 3, 1, 0, 0, .int (3), [], []),
  (29, .goto 13, 3, 0, 42, .null, [], []),
  (32, .iload_n 1, 1, 1, 0, .null, [], []),
  (33, .iconst 2, 1, 0, 0, .int (2), [], []),
  (34, .if_icmp .ne 7, 3, 0, 41, .null, [], []),
  (37, .iconst 1, 1, 0, 0, .int (1), [], []),
  (38, .goto 4, 3, 0, 42, .null, [], []),
  (41, .iconst 0, 1, 0, 0, .int (0), [], []),
  (42, .istore 5, 2, 5, 0, .null, [], []),
  (44, .aload_n 0, 1, 0, 0, .null, [], []),
  (45, .getfield 28, 3, 2, 0, .null, [(11, 0)], [257]),
  (48, .iload 5, 2, 5, 0, .null, [], []),
  (50, .iload_n 2, 1, 2, 0, .null, [], []),
  (51, .iconst (-1), 1, 0, 0, .int (-1), [], []),
  (52, .invokevirtual 137, 3, 3, 0, .null, [(4, 30)], [531, 532, 533, 60, 0, 0, 0, 0]),
  (55, .ldc2_w 303, 3, 0, 0, .long (6), [], [623]),
  (58, .aload_n 0, 1, 0, 0, .null, [], []),
  (59, .getfield 28, 3, 2, 0, .null, [(11, 0)], [257]),
  (62, .invokevirtual 184, 3, 0, 0, .null, [(4, 37)], [616, 617, 618, 60, 0, 0, 0, 0]),
  (65, .lmul, 1, 0, 0, .null, [], []),
  (66, .lreturn, 1, 0, 0, .null, [], [])]
def miX11_sixtiethsExpected : ev_MI := (RX11, yX11_sixtiethsExpected, cX11_sixtiethsExpected, 6, (some .long), eiX11_sixtiethsExpected, [615])
def eiX11_bestDoing : List ev_E := [(0, .iconst 0, 1, 0, 0, .int (0), [], []),
  (1, .istore 4, 2, 4, 0, .null, [], []),
  (3, .ldc2_w 305, 3, 0, 0, .long (-1), [], [633]),
  (6, .lstore 5, 2, 5, 0, .null, [], []),
  (8, .iconst 0, 1, 0, 0, .int (0), [], []),
  (9, .istore 7, 2, 7, 0, .null, [], []),
  (11, .iload 7, 2, 7, 0, .null, [], []),
  (13, .iconst 3, 1, 0, 0, .int (3), [], []),
  (14, .if_icmp .gt 36, 3, 0, 50, .null, [], []),
  (17, .aload_n 0, 1, 0, 0, .null, [], []),
  (18, .iload 7, 2, 7, 0, .null, [], []),
  (20, .iload_n 1, 1, 1, 0, .null, [], []),
  (21, .iload_n 2, 1, 2, 0, .null, [], []),
  (22, .iload_n 3, 1, 3, 0, .null, [], []),
  (23, .invokevirtual 168, 3, 4, 0, .null, [(11, 119)], [612, 614, 7, 57, 0, 0, 0, 0]),
  (26, .lstore 8, 2, 8, 0, .null, [], []),
  (28, .lload 8, 2, 8, 0, .null, [], []),
  (30, .lload 5, 2, 5, 0, .null, [], []),
  (32, .lcmp, 1, 0, 0, .null, [], []),
  (33, .ifCond .le 11, 3, 0, 44, .null, [], []),
  (36, .lload 8, 2, 8, 0, .null, [], []),
  (38, .lstore 5, 2, 5, 0, .null, [], []),
  (40, .iload 7, 2, 7, 0, .null, [], []),
  (42, .istore 4, 2, 4, 0, .null, [], []),
  (44, .iinc 7 1, 3, 7, 0, .int (1), [], []),
  (47, .goto (-36), 3, 0, 11, .null, [], []),
  (50, .iload 4, 2, 4, 0, .null, [], []),
  (52, .ireturn, 1, 0, 0, .null, [], [])]
def miX11_bestDoing : ev_MI := (RX11, yX11_bestDoing, cX11_bestDoing, 10, (some .int), eiX11_bestDoing, [632])
def eiX11_playerOf : List ev_E := [(0, .iload_n 1, 1, 1, 0, .null, [], []),
  (1, .ifCond .lt 21, 3, 0, 22, .null, [], []),
  (4, .iload_n 1, 1, 1, 0, .null, [], []),
  (5, .aload_n 0, 1, 0, 0, .null, [], []),
  (6, .getfield 34, 3, 3, 0, .null, [(11, 0)], [258]),
  (9, .arraylength, 1, 0, 0, .null, [], []),
  (10, .if_icmp .ge 12, 3, 0, 22, .null, [], []),
  (13, .aload_n 0, 1, 0, 0, .null, [], []),
  (14, .getfield 34, 3, 3, 0, .null, [(11, 0)], [258]),
  (17, .iload_n 1, 1, 1, 0, .null, [], []),
  (18, .aaload, 1, 0, 0, .null, [], []),
  (19, .goto 4, 3, 0, 23, .null, [], []),
  (22, .aconst_null, 1, 0, 0, .null, [], []),
  (23, .areturn, 1, 0, 0, .null, [], [])]
def miX11_playerOf : ev_MI := (RX11, yX11_playerOf, cX11_playerOf, 2, (some (.object "WithEyesBound$Player")), eiX11_playerOf, [765])
def eiX11_isOfKind : List ev_E := [(0, .iload_n 1, 1, 1, 0, .null, [], []),
  (1, .tableswitch 60 1 5 #[35, 40, 45, 50, 55], 35, 0, 61, .null, [(1, 36), (2, 41), (3, 46), (4, 51), (5, 56)], []),
  (36, .aload_n 0, 1, 0, 0, .null, [], []),
  (37, .instanceof 307, 3, 0, 0, .null, [(0, 0), (1, 0), (2, 0), (6, 0), (9, 1), (10, 1)], [652]),
  (40, .ireturn, 1, 0, 0, .null, [], []),
  (41, .aload_n 0, 1, 0, 0, .null, [], []),
  (42, .instanceof 310, 3, 0, 0, .null, [(0, 0), (1, 0), (2, 0), (6, 0), (9, 0), (10, 1)], [697]),
  (45, .ireturn, 1, 0, 0, .null, [], []),
  (46, .aload_n 0, 1, 0, 0, .null, [], []),
  (47, .instanceof 313, 3, 0, 0, .null, [(0, 0), (1, 1), (2, 1), (6, 0), (9, 0), (10, 0)], [710]),
  (50, .ireturn, 1, 0, 0, .null, [], []),
  (51, .aload_n 0, 1, 0, 0, .null, [], []),
  (52, .instanceof 316, 3, 0, 0, .null, [(0, 0), (1, 0), (2, 1), (6, 0), (9, 0), (10, 0)], [723]),
  (55, .ireturn, 1, 0, 0, .null, [], []),
  (56, .aload_n 0, 1, 0, 0, .null, [], []),
  (57, .instanceof 319, 3, 0, 0, .null, [(0, 1), (1, 0), (2, 0), (6, 0), (9, 0), (10, 0)], [736]),
  (60, .ireturn, 1, 0, 0, .null, [], []),
  (61, .iconst 1, 1, 0, 0, .int (1), [], []),
  (62, .ireturn, 1, 0, 0, .null, [], [])]
def miX11_isOfKind : ev_MI := (RX11, yX11_isOfKind, cX11_isOfKind, 2, (some .boolean), eiX11_isOfKind, [768])
def eiX12_within : List ev_E := [(0, .iload_n 0, 1, 0, 0, .null, [], []),
  (1, .iload_n 1, 1, 1, 0, .null, [], []),
  (2, .if_icmp .lt 12, 3, 0, 14, .null, [], []),
  (5, .iload_n 0, 1, 0, 0, .null, [], []),
  (6, .iload_n 2, 1, 2, 0, .null, [], []),
  (7, .if_icmp .gt 7, 3, 0, 14, .null, [], []),
  (10, .iconst 1, 1, 0, 0, .int (1), [], []),
  (11, .goto 4, 3, 0, 15, .null, [], []),
  (14, .iconst 0, 1, 0, 0, .int (0), [], []),
  (15, .ireturn, 1, 0, 0, .null, [], [])]
def miX12_within : ev_MI := (RX12, yX12_within, cX12_within, 3, (some .boolean), eiX12_within, [1225])
def eiX12_size : List ev_E := [(0, .iload_n 0, 1, 0, 0, .null, [], []),
  (1, .ifCond .ge 8, 3, 0, 9, .null, [], []),
  (4, .iload_n 0, 1, 0, 0, .null, [], []),
  (5, .ineg, 1, 0, 0, .null, [], []),
  (6, .goto 4, 3, 0, 10, .null, [], []),
  (9, .iload_n 0, 1, 0, 0, .null, [], []),
  (10, .ireturn, 1, 0, 0, .null, [], [])]
def miX12_size : ev_MI := (RX12, yX12_size, cX12_size, 1, (some .int), eiX12_size, [1297])
def eiX12_divisor : List ev_E := [(0, .lload_n 0, 1, 0, 0, .null, [], []),
  (1, .lconst 0, 1, 0, 0, .long (0), [], []),
  (2, .lcmp, 1, 0, 0, .null, [], []),
  (3, .ifCond .ge 8, 3, 0, 11, .null, [], []),
  (6, .lload_n 0, 1, 0, 0, .null, [], []),
  (7, .lneg, 1, 0, 0, .null, [], []),
  (8, .goto 4, 3, 0, 12, .null, [], []),
  (11, .lload_n 0, 1, 0, 0, .null, [], []),
  (12, .lstore 4, 2, 4, 0, .null, [], []),
  (14, .lload_n 2, 1, 2, 0, .null, [], []),
  (15, .lstore 6, 2, 6, 0, .null, [], []),
  (17, .lload 6, 2, 6, 0, .null, [], []),
  (19, .lconst 0, 1, 0, 0, .long (0), [], []),
  (20, .lcmp, 1, 0, 0, .null, [], []),
  (21, .ifCond .eq 21, 3, 0, 42, .null, [], []),
  (24, .lload 4, 2, 4, 0, .null, [], []),
  (26, .lload 6, 2, 6, 0, .null, [], []),
  (28, .lrem, 1, 0, 0, .null, [], []),
  (29, .lstore 8, 2, 8, 0, .null, [], []),
  (31, .lload 6, 2, 6, 0, .null, [], []),
  (33, .lstore 4, 2, 4, 0, .null, [], []),
  (35, .lload 8, 2, 8, 0, .null, [], []),
  (37, .lstore 6, 2, 6, 0, .null, [], []),
  (39, .goto (-22), 3, 0, 17, .null, [], []),
  (42, .lload 4, 2, 4, 0, .null, [], []),
  (44, .lreturn, 1, 0, 0, .null, [], [])]
def miX12_divisor : ev_MI := (RX12, yX12_divisor, cX12_divisor, 10, (some .long), eiX12_divisor, [1255])
def eiX12_lowest : List ev_E := [(0, .lload_n 0, 1, 0, 0, .null, [], []),
  (1, .lload_n 2, 1, 2, 0, .null, [], []),
  (2, .invokestatic 67, 3, 2, 0, .null, [(0, 125)], [1253, 1254, 63]),
  (5, .lstore 5, 2, 5, 0, .null, [], []),
  (7, .iload 4, 2, 4, 0, .null, [], []),
  (9, .ifCond .ne 10, 3, 0, 19, .null, [], []),
  (12, .lload_n 0, 1, 0, 0, .null, [], []),
  (13, .lload 5, 2, 5, 0, .null, [], []),
  (15, .ldiv, 1, 0, 0, .null, [], []),
  (16, .goto 7, 3, 0, 23, .null, [], []),
  (19, .lload_n 2, 1, 2, 0, .null, [], []),
  (20, .lload 5, 2, 5, 0, .null, [], []),
  (22, .ldiv, 1, 0, 0, .null, [], []),
  (23, .lreturn, 1, 0, 0, .null, [], [])]
def miX12_lowest : ev_MI := (RX12, yX12_lowest, cX12_lowest, 7, (some .long), eiX12_lowest, [1316])
def eiX12_letters : List ev_E := [(0, .iconst 0, 1, 0, 0, .int (0), [], []),
  (1, .istore_n 3, 1, 3, 0, .null, [], []),
  (2, .iconst 0, 1, 0, 0, .int (0), [], []),
  (3, .istore 4, 2, 4, 0, .null, [], []),
  (5, .iconst 0, 1, 0, 0, .int (0), [], []),
  (6, .istore 5, 2, 5, 0, .null, [], []),
  (8, .iload 5, 2, 5, 0, .null, [], []),
  (10, .bipush 8, 2, 0, 0, .int (8), [], []),
  (12, .if_icmp .ge 73, 3, 0, 85, .null, [], []),
  (15, .lload_n 1, 1, 1, 0, .null, [], []),
  (16, .bipush 8, 2, 0, 0, .int (8), [], []),
  (18, .iload 5, 2, 5, 0, .null, [], []),
  (20, .imul, 1, 0, 0, .null, [], []),
  (21, .lshr, 1, 0, 0, .null, [], []),
  (22, .ldc2_w 71, 3, 0, 0, .long (255), [], [1187]),
  (25, .land, 1, 0, 0, .null, [], []),
  (26, .l2i, 1, 0, 0, .null, [], []),
  (27, .istore 6, 2, 6, 0, .null, [], []),
  (29, .iload 6, 2, 6, 0, .null, [], []),
  (31, .bipush 126, 2, 0, 0, .int (126), [], []),
  (33, .if_icmp .gt 13, 3, 0, 46, .null, [], []),
  (36, .iload 4, 2, 4, 0, .null, [], []),
  (38, .ifCond .eq 11, 3, 0, 49, .null, [], []),
  (41, .iload 6, 2, 6, 0, .null, [], []),
  (43, .ifCond .eq 6, 3, 0, 49, .null, [], []),
  (46, .bipush (-102), 2, 0, 0, .int (-102), [], []),
  (48, .ireturn, 1, 0, 0, .null, [], []),
  (49, .iload 4, 2, 4, 0, .null, [], []),
  (51, .ifCond .ne 8, 3, 0, 59, .null, [], []),
  (54, .iload 6, 2, 6, 0, .null, [], []),
  (56, .ifCond .ne 7, 3, 0, 63, .null, [], []),
  (59, .iconst 1, 1, 0, 0, .int (1), [], []),
  (60, .goto 4, 3, 0, 64, .null, [], []),
  (63, .iconst 0, 1, 0, 0, .int (0), [], []),
  (64, .istore 4, 2, 4, 0, .null, [], []),
  (66, .iload_n 3, 1, 3, 0, .null, [], []),
  (67, .iload 6, 2, 6, 0, .null, [], []),
  (69, .ifCond .ne 7, 3, 0, 76, .null, [], []),
  (72, .iconst 0, 1, 0, 0, .int (0), [], []),
  (73, .goto 4, 3, 0, 77, .null, [], []),
  (76, .iconst 1, 1, 0, 0, .int (1), [], []),
  (77, .iadd, 1, 0, 0, .null, [], []),
  (78, .istore_n 3, 1, 3, 0, .null, [], []),
  (79, .iinc 5 1, 3, 5, 0, .int (1), [], []),
  (82, .goto (-74), 3, 0, 8, .null, [], []),
  (85, .aload_n 0, 1, 0, 0, .null, [], []),
  (86, .getfield 73, 3, 20, 0, .null, [(12, 0)], [1070]),
  (89, .iload_n 3, 1, 3, 0, .null, [], []),
  (90, .iadd, 1, 0, 0, .null, [], []),
  (91, .bipush 45, 2, 0, 0, .int (45), [], []),
  (93, .if_icmp .le 6, 3, 0, 99, .null, [], []),
  (96, .bipush (-104), 2, 0, 0, .int (-104), [], []),
  (98, .ireturn, 1, 0, 0, .null, [], []),
  (99, .iconst 0, 1, 0, 0, .int (0), [], []),
  (100, .istore 5, 2, 5, 0, .null, [], []),
  (102, .iload 5, 2, 5, 0, .null, [], []),
  (104, .iload_n 3, 1, 3, 0, .null, [], []),
  (105, .if_icmp .ge 30, 3, 0, 135, .null, [], []),
  (108, .aload_n 0, 1, 0, 0, .null, [], []),
  (109, .getfield 48, 3, 21, 0, .null, [(12, 0)], [1071]),
  (112, .aload_n 0, 1, 0, 0, .null, [], []),
  (113, .getfield 73, 3, 20, 0, .null, [(12, 0)], [1070]),
  (116, .iload 5, 2, 5, 0, .null, [], []),
  (118, .iadd, 1, 0, 0, .null, [], []),
  (119, .lload_n 1, 1, 1, 0, .null, [], []),
  (120, .bipush 8, 2, 0, 0, .int (8), [], []),
  (122, .iload 5, 2, 5, 0, .null, [], []),
  (124, .imul, 1, 0, 0, .null, [], []),
  (125, .lshr, 1, 0, 0, .null, [], []),
  (126, .l2i, 1, 0, 0, .null, [], []),
  (127, .i2b, 1, 0, 0, .null, [], []),
  (128, .bastore, 1, 0, 0, .null, [], []),
  (129, .iinc 5 1, 3, 5, 0, .int (1), [], []),
  (132, .goto (-30), 3, 0, 102, .null, [], []),
  (135, .aload_n 0, 1, 0, 0, .null, [], []),
  (136, .dup, 1, 0, 0, .null, [], []),
  (137, .getfield 73, 3, 20, 0, .null, [(12, 0)], [1070]),
  (140, .iload_n 3, 1, 3, 0, .null, [], []),
  (141, .iadd, 1, 0, 0, .null, [], []),
  (142, .putfield 73, 3, 20, 0, .null, [(12, 0)], [1070]),
  (145, .aload_n 0, 1, 0, 0, .null, [], []),
  (146, .getfield 73, 3, 20, 0, .null, [(12, 0)], [1070]),
  (149, .ireturn, 1, 0, 0, .null, [], [])]
def miX12_letters : ev_MI := (RX12, yX12_letters, cX12_letters, 7, (some .int), eiX12_letters, [1186])
def eiX12_blank : List ev_E := [(0, .aload_n 0, 1, 0, 0, .null, [], []),
  (1, .getfield 73, 3, 20, 0, .null, [(12, 0)], [1070]),
  (4, .istore_n 1, 1, 1, 0, .null, [], []),
  (5, .aload_n 0, 1, 0, 0, .null, [], []),
  (6, .iconst 0, 1, 0, 0, .int (0), [], []),
  (7, .putfield 73, 3, 20, 0, .null, [(12, 0)], [1070]),
  (10, .iload_n 1, 1, 1, 0, .null, [], []),
  (11, .ireturn, 1, 0, 0, .null, [], [])]
def miX12_blank : ev_MI := (RX12, yX12_blank, cX12_blank, 2, (some .int), eiX12_blank, [1191])
def eiX12_sortOf : List ev_E := [(0, .iload_n 0, 1, 0, 0, .null, [], []),
  (1, .bipush 46, 2, 0, 0, .int (46), [], []),
  (3, .if_icmp .ne 7, 3, 0, 10, .null, [], []),
  (6, .iconst 0, 1, 0, 0, .int (0), [], []),
  (7, .goto 34, 3, 0, 41, .null, [], []),
  (10, .iload_n 0, 1, 0, 0, .null, [], []),
  (11, .bipush 98, 2, 0, 0, .int (98), [], []),
  (13, .if_icmp .ne 7, 3, 0, 20, .null, [], []),
  (16, .iconst 1, 1, 0, 0, .int (1), [], []),
  (17, .goto 24, 3, 0, 41, .null, [], []),
  (20, .iload_n 0, 1, 0, 0, .null, [], []),
  (21, .bipush 112, 2, 0, 0, .int (112), [], []),
  (23, .if_icmp .ne 7, 3, 0, 30, .null, [], []),
  (26, .iconst 2, 1, 0, 0, .int (2), [], []),
  (27, .goto 14, 3, 0, 41, .null, [], []),
  (30, .iload_n 0, 1, 0, 0, .null, [], []),
  (31, .bipush 120, 2, 0, 0, .int (120), [], []),
  (33, .if_icmp .ne 7, 3, 0, 40, .null, [], []),
  (36, .iconst 3, 1, 0, 0, .int (3), [], []),
  (37, .goto 4, 3, 0, 41, .null, [], []),
  (40, .iconst (-1), 1, 0, 0, .int (-1), [], []),
  (41, .ireturn, 1, 0, 0, .null, [], [])]
def miX12_sortOf : ev_MI := (RX12, yX12_sortOf, cX12_sortOf, 1, (some .int), eiX12_sortOf, [1202])
def eiX12_readPage : List ev_E := [(0, .aload_n 0, 1, 0, 0, .null, [], []),
  (1, .iconst 0, 1, 0, 0, .int (0), [], []),
  (2, .putfield 76, 3, 33, 0, .null, [(12, 0)], [1083]),
  (5, .aload_n 0, 1, 0, 0, .null, [], []),
  (6, .iconst 0, 1, 0, 0, .int (0), [], []),
  (7, .putfield 79, 3, 34, 0, .null, [(12, 0)], [1084]),
  (10, .iconst 0, 1, 0, 0, .int (0), [], []),
  (11, .istore_n 1, 1, 1, 0, .null, [], []),
  (12, .iconst 0, 1, 0, 0, .int (0), [], []),
  (13, .istore_n 2, 1, 2, 0, .null, [], []),
  (14, .iconst 1, 1, 0, 0, .int (1), [], []),
  (15, .istore_n 3, 1, 3, 0, .null, [], []),
  (16, .iload_n 2, 1, 2, 0, .null, [], []),
  (17, .aload_n 0, 1, 0, 0, .null, [], []),
  (18, .getfield 73, 3, 20, 0, .null, [(12, 0)], [1070]),
  (21, .if_icmp .ge 151, 3, 0, 172, .null, [], []),
  (24, .iload_n 3, 1, 3, 0, .null, [], []),
  (25, .ifCond .eq 147, 3, 0, 172, .null, [], []),
  (28, .aload_n 0, 1, 0, 0, .null, [], []),
  (29, .getfield 48, 3, 21, 0, .null, [(12, 0)], [1071]),
  (32, .iload_n 2, 1, 2, 0, .null, [], []),
  (33, .baload, 1, 0, 0, .null, [], []),
  (34, .invokestatic 82, 3, 1, 0, .null, [(0, 129)], [1200, 1201, 63]),
  (37, .istore 4, 2, 4, 0, .null, [], []),
  (39, .aload_n 0, 1, 0, 0, .null, [], []),
  (40, .getfield 76, 3, 33, 0, .null, [(12, 0)], [1083]),
  (43, .ifCond .ne 8, 3, 0, 51, .null, [], []),
  (46, .bipush 6, 2, 0, 0, .int (6), [], []),
  (48, .goto 7, 3, 0, 55, .null, [], []),
  (51, .aload_n 0, 1, 0, 0, .null, [], []),
  (52, .getfield 79, 3, 34, 0, .null, [(12, 0)], [1084]),
  (55, .istore 5, 2, 5, 0, .null, [], []),
  (57, .iload 4, 2, 4, 0, .null, [], []),
  (59, .iconst (-1), 1, 0, 0, .int (-1), [], []),
  (60, .if_icmp .eq 33, 3, 0, 93, .null, [], []),
  (63, .iload_n 1, 1, 1, 0, .null, [], []),
  (64, .iload 5, 2, 5, 0, .null, [], []),
  (66, .if_icmp .ge 27, 3, 0, 93, .null, [], []),
  (69, .aload_n 0, 1, 0, 0, .null, [], []),
  (70, .getfield 58, 3, 35, 0, .null, [(12, 0)], [1085]),
  (73, .aload_n 0, 1, 0, 0, .null, [], []),
  (74, .getfield 76, 3, 33, 0, .null, [(12, 0)], [1083]),
  (77, .aload_n 0, 1, 0, 0, .null, [], []),
  (78, .getfield 79, 3, 34, 0, .null, [(12, 0)], [1084]),
  (81, .imul, 1, 0, 0, .null, [], []),
  (82, .iload_n 1, 1, 1, 0, .null, [], []),
  (83, .iadd, 1, 0, 0, .null, [], []),
  (84, .iload 4, 2, 4, 0, .null, [], []),
  (86, .iastore, 1, 0, 0, .null, [], []),
  (87, .iinc 1 1, 3, 1, 0, .int (1), [], []),
  (90, .goto 67, 3, 0, 157, .null, [], []),
  (93, .aload_n 0, 1, 0, 0, .null, [], []),
  (94, .getfield 48, 3, 21, 0, .null, [(12, 0)], [1071]),
  (97, .iload_n 2, 1, 2, 0, .null, [], []),
  (98, .baload, 1, 0, 0, .null, [], []),
  (99, .bipush 47, 2, 0, 0, .int (47), [], []),
  (101, .if_icmp .ne 54, 3, 0, 155, .null, [], []),
  (104, .aload_n 0, 1, 0, 0, .null, [], []),
  (105, .getfield 76, 3, 33, 0, .null, [(12, 0)], [1083]),
  (108, .iconst 5, 1, 0, 0, .int (5), [], []),
  (109, .if_icmp .ge 46, 3, 0, 155, .null, [], []),
  (112, .aload_n 0, 1, 0, 0, .null, [], []),
  (113, .getfield 76, 3, 33, 0, .null, [(12, 0)], [1083]),
  (116, .ifCond .ne 11, 3, 0, 127, .null, [], []),
  (119, .iload_n 1, 1, 1, 0, .null, [], []),
  (120, .iconst 1, 1, 0, 0, .int (1), [], []),
  (121, .if_icmp .le 34, 3, 0, 155, .null, [], []),
  (124, .goto 11, 3, 0, 135, .null, [], []),
  (127, .iload_n 1, 1, 1, 0, .null, [], []),
  (128, .aload_n 0, 1, 0, 0, .null, [], []),
  (129, .getfield 79, 3, 34, 0, .null, [(12, 0)], [1084]),
  (132, .if_icmp .ne 23, 3, 0, 155, .null, [], []),
  (135, .aload_n 0, 1, 0, 0, .null, [], []),
  (136, .iload_n 1, 1, 1, 0, .null, [], []),
  (137, .putfield 79, 3, 34, 0, .null, [(12, 0)], [1084]),
  (140, .aload_n 0, 1, 0, 0, .null, [], []),
  (141, .dup, 1, 0, 0, .null, [], []),
  (142, .getfield 76, 3, 33, 0, .null, [(12, 0)], [1083]),
  (145, .iconst 1, 1, 0, 0, .int (1), [], []),
  (146, .iadd, 1, 0, 0, .null, [], []),
  (147, .putfield 76, 3, 33, 0, .null, [(12, 0)], [1083]),
  (150, .iconst 0, 1, 0, 0, .int (0), [], []),
  (151, .istore_n 1, 1, 1, 0, .null, [], []),
  (152, .goto 5, 3, 0, 157, .null, [], []),
  (155, .iconst 0, 1, 0, 0, .int (0), [], []),
  (156, .istore_n 3, 1, 3, 0, .null, [], []),
  (157, .iload_n 2, 1, 2, 0, .null, [], []),
  (158, .iload_n 3, 1, 3, 0, .null, [], []),
  (159, .ifCond .eq 7, 3, 0, 166, .null, [], []),
  (162, .iconst 1, 1, 0, 0, .int (1), [], []),
  (163, .goto 4, 3, 0, 167, .null, [], []),
  (166, .iconst 0, 1, 0, 0, .int (0), [], []),
  (167, .iadd, 1, 0, 0, .null, [], []),
  (168, .istore_n 2, 1, 2, 0, .null, [], []),
  (169, .goto (-153), 3, 0, 16, .null, [], []),
  (172, .aload_n 0, 1, 0, 0, .null, [], []),
  (173, .iload_n 2, 1, 2, 0, .null, [], []),
  (174, .putfield 86, 3, 31, 0, .null, [(12, 0)], [1081]),
  (177, .aload_n 0, 1, 0, 0, .null, [], []),
  (178, .iload_n 2, 1, 2, 0, .null, [], []),
  (179, .aload_n 0, 1, 0, 0, .null, [], []),
  (180, .getfield 73, 3, 20, 0, .null, [(12, 0)], [1070]),
  (183, .if_icmp .ne 22, 3, 0, 205, .null, [], []),
  (186, .aload_n 0, 1, 0, 0, .null, [], []),
  (187, .getfield 76, 3, 33, 0, .null, [(12, 0)], [1083]),
  (190, .ifCond .le 15, 3, 0, 205, .null, [], []),
  (193, .iload_n 1, 1, 1, 0, .null, [], []),
  (194, .aload_n 0, 1, 0, 0, .null, [], []),
  (195, .getfield 79, 3, 34, 0, .null, [(12, 0)], [1084]),
  (198, .if_icmp .ne 7, 3, 0, 205, .null, [], []),
  (201, .iconst 1, 1, 0, 0, .int (1), [], []),
  (202, .goto 4, 3, 0, 206, .null, [], []),
  (205, .iconst 0, 1, 0, 0, .int (0), [], []),
  (206, .putfield 89, 3, 32, 2, .null, [(12, 0)], [1082]),
  (209, .return_, 1, 0, 0, .null, [], [])]
def miX12_readPage : ev_MI := (RX12, yX12_readPage, cX12_readPage, 6, none, eiX12_readPage, [1199])
def eiX12_fault : List ev_E := [(0, .aload_n 0, 1, 0, 0, .null, [], []),
  (1, .invokevirtual 93, 3, 0, 0, .null, [(12, 130)], [1196, 1198, 17, 63, 0, 0, 0, 0]),
  (4, .aload_n 0, 1, 0, 0, .null, [], []),
  (5, .getfield 86, 3, 31, 0, .null, [(12, 0)], [1081]),
  (8, .ireturn, 1, 0, 0, .null, [], [])]
def miX12_fault : ev_MI := (RX12, yX12_fault, cX12_fault, 1, (some .int), eiX12_fault, [1195])
def eiX12_ring : List ev_E := [(0, .aload_n 0, 1, 0, 0, .null, [], []),
  (1, .invokevirtual 93, 3, 0, 0, .null, [(12, 130)], [1196, 1198, 17, 63, 0, 0, 0, 0]),
  (4, .iconst 0, 1, 0, 0, .int (0), [], []),
  (5, .istore_n 1, 1, 1, 0, .null, [], []),
  (6, .iconst 0, 1, 0, 0, .int (0), [], []),
  (7, .istore_n 2, 1, 2, 0, .null, [], []),
  (8, .aload_n 0, 1, 0, 0, .null, [], []),
  (9, .getfield 89, 3, 32, 0, .null, [(12, 0)], [1082]),
  (12, .ifCond .eq 42, 3, 0, 54, .null, [], []),
  (15, .iload_n 2, 1, 2, 0, .null, [], []),
  (16, .aload_n 0, 1, 0, 0, .null, [], []),
  (17, .getfield 76, 3, 33, 0, .null, [(12, 0)], [1083]),
  (20, .iconst 1, 1, 0, 0, .int (1), [], []),
  (21, .iadd, 1, 0, 0, .null, [], []),
  (22, .aload_n 0, 1, 0, 0, .null, [], []),
  (23, .getfield 79, 3, 34, 0, .null, [(12, 0)], [1084]),
  (26, .imul, 1, 0, 0, .null, [], []),
  (27, .if_icmp .ge 27, 3, 0, 54, .null, [], []),
  (30, .iload_n 1, 1, 1, 0, .null, [], []),
  (31, .aload_n 0, 1, 0, 0, .null, [], []),
  (32, .getfield 58, 3, 35, 0, .null, [(12, 0)], [1085]),
  (35, .iload_n 2, 1, 2, 0, .null, [], []),
  (36, .iaload, 1, 0, 0, .null, [], []),
  (37, .iconst 2, 1, 0, 0, .int (2), [], []),
  (38, .if_icmp .ge 7, 3, 0, 45, .null, [], []),
  (41, .iconst 1, 1, 0, 0, .int (1), [], []),
  (42, .goto 4, 3, 0, 46, .null, [], []),
  (45, .iconst 0, 1, 0, 0, .int (0), [], []),
  (46, .iadd, 1, 0, 0, .null, [], []),
  (47, .istore_n 1, 1, 1, 0, .null, [], []),
  (48, .iinc 2 1, 3, 2, 0, .int (1), [], []),
  (51, .goto (-43), 3, 0, 8, .null, [], []),
  (54, .iload_n 1, 1, 1, 0, .null, [], []),
  (55, .ifCond .ne 6, 3, 0, 61, .null, [], []),
  (58, .bipush (-103), 2, 0, 0, .int (-103), [], []),
  (60, .ireturn, 1, 0, 0, .null, [], []),
  (61, .aload_n 0, 1, 0, 0, .null, [], []),
  (62, .aload_n 0, 1, 0, 0, .null, [], []),
  (63, .getfield 76, 3, 33, 0, .null, [(12, 0)], [1083]),
  (66, .iconst 1, 1, 0, 0, .int (1), [], []),
  (67, .iadd, 1, 0, 0, .null, [], []),
  (68, .putfield 96, 3, 0, 0, .null, [(12, 0)], [1050]),
  (71, .aload_n 0, 1, 0, 0, .null, [], []),
  (72, .aload_n 0, 1, 0, 0, .null, [], []),
  (73, .getfield 79, 3, 34, 0, .null, [(12, 0)], [1084]),
  (76, .putfield 99, 3, 1, 0, .null, [(12, 0)], [1051]),
  (79, .iconst 0, 1, 0, 0, .int (0), [], []),
  (80, .istore_n 2, 1, 2, 0, .null, [], []),
  (81, .iload_n 2, 1, 2, 0, .null, [], []),
  (82, .aload_n 0, 1, 0, 0, .null, [], []),
  (83, .getfield 96, 3, 0, 0, .null, [(12, 0)], [1050]),
  (86, .aload_n 0, 1, 0, 0, .null, [], []),
  (87, .getfield 99, 3, 1, 0, .null, [(12, 0)], [1051]),
  (90, .imul, 1, 0, 0, .null, [], []),
  (91, .if_icmp .ge 21, 3, 0, 112, .null, [], []),
  (94, .aload_n 0, 1, 0, 0, .null, [], []),
  (95, .getfield 7, 3, 3, 0, .null, [(12, 0)], [1053]),
  (98, .iload_n 2, 1, 2, 0, .null, [], []),
  (99, .aload_n 0, 1, 0, 0, .null, [], []),
  (100, .getfield 58, 3, 35, 0, .null, [(12, 0)], [1085]),
  (103, .iload_n 2, 1, 2, 0, .null, [], []),
  (104, .iaload, 1, 0, 0, .null, [], []),
  (105, .iastore, 1, 0, 0, .null, [], []),
  (106, .iinc 2 1, 3, 2, 0, .int (1), [], []),
  (109, .goto (-28), 3, 0, 81, .null, [], []),
  (112, .aload_n 0, 1, 0, 0, .null, [], []),
  (113, .dup, 1, 0, 0, .null, [], []),
  (114, .getfield 102, 3, 2, 0, .null, [(12, 0)], [1052]),
  (117, .iconst 1, 1, 0, 0, .int (1), [], []),
  (118, .iadd, 1, 0, 0, .null, [], []),
  (119, .putfield 102, 3, 2, 0, .null, [(12, 0)], [1052]),
  (122, .aload_n 0, 1, 0, 0, .null, [], []),
  (123, .iconst 0, 1, 0, 0, .int (0), [], []),
  (124, .putfield 105, 3, 7, 0, .null, [(12, 0)], [1057]),
  (127, .aload_n 0, 1, 0, 0, .null, [], []),
  (128, .iconst (-1), 1, 0, 0, .int (-1), [], []),
  (129, .putfield 42, 3, 16, 0, .null, [(12, 0)], [1066]),
  (132, .aload_n 0, 1, 0, 0, .null, [], []),
  (133, .iconst (-1), 1, 0, 0, .int (-1), [], []),
  (134, .putfield 45, 3, 17, 0, .null, [(12, 0)], [1067]),
  (137, .aload_n 0, 1, 0, 0, .null, [], []),
  (138, .iconst 0, 1, 0, 0, .int (0), [], []),
  (139, .putfield 108, 3, 18, 0, .null, [(12, 0)], [1068]),
  (142, .aload_n 0, 1, 0, 0, .null, [], []),
  (143, .invokevirtual 111, 3, 0, 0, .null, [(12, 140)], [1207, 1209, 18, 63, 0, 0, 0, 0]),
  (146, .pop, 1, 0, 0, .null, [], []),
  (147, .aload_n 0, 1, 0, 0, .null, [], []),
  (148, .iconst 0, 1, 0, 0, .int (0), [], []),
  (149, .putfield 73, 3, 20, 0, .null, [(12, 0)], [1070]),
  (152, .aload_n 0, 1, 0, 0, .null, [], []),
  (153, .getfield 96, 3, 0, 0, .null, [(12, 0)], [1050]),
  (156, .aload_n 0, 1, 0, 0, .null, [], []),
  (157, .getfield 99, 3, 1, 0, .null, [(12, 0)], [1051]),
  (160, .imul, 1, 0, 0, .null, [], []),
  (161, .ireturn, 1, 0, 0, .null, [], [])]
def miX12_ring : ev_MI := (RX12, yX12_ring, cX12_ring, 3, (some .int), eiX12_ring, [1206])
def eiX12_cells : List ev_E := [(0, .aload_n 0, 1, 0, 0, .null, [], []),
  (1, .getfield 96, 3, 0, 0, .null, [(12, 0)], [1050]),
  (4, .aload_n 0, 1, 0, 0, .null, [], []),
  (5, .getfield 99, 3, 1, 0, .null, [(12, 0)], [1051]),
  (8, .imul, 1, 0, 0, .null, [], []),
  (9, .ireturn, 1, 0, 0, .null, [], [])]
def miX12_cells : ev_MI := (RX12, yX12_cells, cX12_cells, 1, (some .int), eiX12_cells, [1222])
def eiX12_isCell : List ev_E := [(0, .iload_n 1, 1, 1, 0, .null, [], []),
  (1, .iconst 0, 1, 0, 0, .int (0), [], []),
  (2, .aload_n 0, 1, 0, 0, .null, [], []),
  (3, .invokevirtual 115, 3, 0, 0, .null, [(12, 133)], [1219, 1221, 21, 63, 0, 0, 0, 0]),
  (6, .iconst 1, 1, 0, 0, .int (1), [], []),
  (7, .isub, 1, 0, 0, .null, [], []),
  (8, .invokestatic 118, 3, 3, 0, .null, [(0, 123)], [1223, 1224, 63]),
  (11, .ireturn, 1, 0, 0, .null, [], [])]
def miX12_isCell : ev_MI := (RX12, yX12_isCell, cX12_isCell, 2, (some .boolean), eiX12_isCell, [1218])
def eiX12_isFree : List ev_E := [(0, .aload_n 0, 1, 0, 0, .null, [], []),
  (1, .iload_n 1, 1, 1, 0, .null, [], []),
  (2, .invokevirtual 122, 3, 1, 0, .null, [(12, 134)], [1215, 1217, 20, 63, 0, 0, 0, 0]),
  (5, .ifCond .eq 17, 3, 0, 22, .null, [], []),
  (8, .aload_n 0, 1, 0, 0, .null, [], []),
  (9, .getfield 7, 3, 3, 0, .null, [(12, 0)], [1053]),
  (12, .iload_n 1, 1, 1, 0, .null, [], []),
  (13, .iaload, 1, 0, 0, .null, [], []),
  (14, .iconst 2, 1, 0, 0, .int (2), [], []),
  (15, .if_icmp .ge 7, 3, 0, 22, .null, [], []),
  (18, .iconst 1, 1, 0, 0, .int (1), [], []),
  (19, .goto 4, 3, 0, 23, .null, [], []),
  (22, .iconst 0, 1, 0, 0, .int (0), [], []),
  (23, .ireturn, 1, 0, 0, .null, [], [])]
def miX12_isFree : ev_MI := (RX12, yX12_isFree, cX12_isFree, 2, (some .boolean), eiX12_isFree, [1214])
def eiX12_cell : List ev_E := [(0, .aload_n 0, 1, 0, 0, .null, [], []),
  (1, .iload_n 1, 1, 1, 0, .null, [], []),
  (2, .invokevirtual 122, 3, 1, 0, .null, [(12, 134)], [1215, 1217, 20, 63, 0, 0, 0, 0]),
  (5, .ifCond .eq 12, 3, 0, 17, .null, [], []),
  (8, .aload_n 0, 1, 0, 0, .null, [], []),
  (9, .getfield 7, 3, 3, 0, .null, [(12, 0)], [1053]),
  (12, .iload_n 1, 1, 1, 0, .null, [], []),
  (13, .iaload, 1, 0, 0, .null, [], []),
  (14, .goto 5, 3, 0, 19, .null, [], []),
  (17, .bipush (-101), 2, 0, 0, .int (-101), [], []),
  (19, .ireturn, 1, 0, 0, .null, [], [])]
def miX12_cell : ev_MI := (RX12, yX12_cell, cX12_cell, 2, (some .int), eiX12_cell, [1229])
def eiX12_on : List ev_E := [(0, .iload_n 1, 1, 1, 0, .null, [], []),
  (1, .aload_n 0, 1, 0, 0, .null, [], []),
  (2, .getfield 99, 3, 1, 0, .null, [(12, 0)], [1051]),
  (5, .idiv, 1, 0, 0, .null, [], []),
  (6, .iload_n 2, 1, 2, 0, .null, [], []),
  (7, .ifCond .ne 7, 3, 0, 14, .null, [], []),
  (10, .iconst (-1), 1, 0, 0, .int (-1), [], []),
  (11, .goto 13, 3, 0, 24, .null, [], []),
  (14, .iload_n 2, 1, 2, 0, .null, [], []),
  (15, .iconst 2, 1, 0, 0, .int (2), [], []),
  (16, .if_icmp .ne 7, 3, 0, 23, .null, [], []),
  (19, .iconst 1, 1, 0, 0, .int (1), [], []),
  (20, .goto 4, 3, 0, 24, .null, [], []),
  (23, .iconst 0, 1, 0, 0, .int (0), [], []),
  (24, .iadd, 1, 0, 0, .null, [], []),
  (25, .istore_n 3, 1, 3, 0, .null, [], []),
  (26, .iload_n 1, 1, 1, 0, .null, [], []),
  (27, .aload_n 0, 1, 0, 0, .null, [], []),
  (28, .getfield 99, 3, 1, 0, .null, [(12, 0)], [1051]),
  (31, .irem, 1, 0, 0, .null, [], []),
  (32, .iload_n 2, 1, 2, 0, .null, [], []),
  (33, .iconst 1, 1, 0, 0, .int (1), [], []),
  (34, .if_icmp .ne 7, 3, 0, 41, .null, [], []),
  (37, .iconst 1, 1, 0, 0, .int (1), [], []),
  (38, .goto 13, 3, 0, 51, .null, [], []),
  (41, .iload_n 2, 1, 2, 0, .null, [], []),
  (42, .iconst 3, 1, 0, 0, .int (3), [], []),
  (43, .if_icmp .ne 7, 3, 0, 50, .null, [], []),
  (46, .iconst (-1), 1, 0, 0, .int (-1), [], []),
  (47, .goto 4, 3, 0, 51, .null, [], []),
  (50, .iconst 0, 1, 0, 0, .int (0), [], []),
  (51, .iadd, 1, 0, 0, .null, [], []),
  (52, .istore 4, 2, 4, 0, .null, [], []),
  (54, .iload_n 3, 1, 3, 0, .null, [], []),
  (55, .iconst 0, 1, 0, 0, .int (0), [], []),
  (56, .aload_n 0, 1, 0, 0, .null, [], []),
  (57, .getfield 96, 3, 0, 0, .null, [(12, 0)], [1050]),
  (60, .iconst 1, 1, 0, 0, .int (1), [], []),
  (61, .isub, 1, 0, 0, .null, [], []),
  (62, .invokestatic 118, 3, 3, 0, .null, [(0, 123)], [1223, 1224, 63]),
  (65, .ifCond .eq 30, 3, 0, 95, .null, [], []),
  (68, .iload 4, 2, 4, 0, .null, [], []),
  (70, .iconst 0, 1, 0, 0, .int (0), [], []),
  (71, .aload_n 0, 1, 0, 0, .null, [], []),
  (72, .getfield 99, 3, 1, 0, .null, [(12, 0)], [1051]),
  (75, .iconst 1, 1, 0, 0, .int (1), [], []),
  (76, .isub, 1, 0, 0, .null, [], []),
  (77, .invokestatic 118, 3, 3, 0, .null, [(0, 123)], [1223, 1224, 63]),
  (80, .ifCond .eq 15, 3, 0, 95, .null, [], []),
  (83, .iload_n 3, 1, 3, 0, .null, [], []),
  (84, .aload_n 0, 1, 0, 0, .null, [], []),
  (85, .getfield 99, 3, 1, 0, .null, [(12, 0)], [1051]),
  (88, .imul, 1, 0, 0, .null, [], []),
  (89, .iload 4, 2, 4, 0, .null, [], []),
  (91, .iadd, 1, 0, 0, .null, [], []),
  (92, .goto 4, 3, 0, 96, .null, [], []),
  (95, .iconst (-1), 1, 0, 0, .int (-1), [], []),
  (96, .ireturn, 1, 0, 0, .null, [], [])]
def miX12_on : ev_MI := (RX12, yX12_on, cX12_on, 5, (some .int), eiX12_on, [1275])
def eiX12_isWay : List ev_E := [(0, .iload_n 0, 1, 0, 0, .null, [], []),
  (1, .iconst 0, 1, 0, 0, .int (0), [], []),
  (2, .iconst 3, 1, 0, 0, .int (3), [], []),
  (3, .invokestatic 118, 3, 3, 0, .null, [(0, 123)], [1223, 1224, 63]),
  (6, .ireturn, 1, 0, 0, .null, [], [])]
def miX12_isWay : ev_MI := (RX12, yX12_isWay, cX12_isWay, 1, (some .boolean), eiX12_isWay, [1236])
def eiX12_clear : List ev_E := [(0, .iconst 0, 1, 0, 0, .int (0), [], []),
  (1, .istore_n 1, 1, 1, 0, .null, [], []),
  (2, .iload_n 1, 1, 1, 0, .null, [], []),
  (3, .sipush 144, 3, 0, 0, .int (144), [], []),
  (6, .if_icmp .ge 16, 3, 0, 22, .null, [], []),
  (9, .aload_n 0, 1, 0, 0, .null, [], []),
  (10, .getfield 17, 3, 5, 0, .null, [(12, 0)], [1055]),
  (13, .iload_n 1, 1, 1, 0, .null, [], []),
  (14, .lconst 0, 1, 0, 0, .long (0), [], []),
  (15, .lastore, 1, 0, 0, .null, [], []),
  (16, .iinc 1 1, 3, 1, 0, .int (1), [], []),
  (19, .goto (-17), 3, 0, 2, .null, [], []),
  (22, .return_, 1, 0, 0, .null, [], [])]
def miX12_clear : ev_MI := (RX12, yX12_clear, cX12_clear, 2, none, eiX12_clear, [1248])
def eiX12_layLost : List ev_E := [(0, .iconst 0, 1, 0, 0, .int (0), [], []),
  (1, .istore_n 1, 1, 1, 0, .null, [], []),
  (2, .iconst 0, 1, 0, 0, .int (0), [], []),
  (3, .istore_n 2, 1, 2, 0, .null, [], []),
  (4, .iload_n 2, 1, 2, 0, .null, [], []),
  (5, .sipush 144, 3, 0, 0, .int (144), [], []),
  (8, .if_icmp .ge 44, 3, 0, 52, .null, [], []),
  (11, .aload_n 0, 1, 0, 0, .null, [], []),
  (12, .iload_n 2, 1, 2, 0, .null, [], []),
  (13, .iconst 4, 1, 0, 0, .int (4), [], []),
  (14, .idiv, 1, 0, 0, .null, [], []),
  (15, .invokevirtual 126, 3, 1, 0, .null, [(12, 135)], [1211, 1213, 19, 63, 0, 0, 0, 0]),
  (18, .istore_n 3, 1, 3, 0, .null, [], []),
  (19, .aload_n 0, 1, 0, 0, .null, [], []),
  (20, .getfield 13, 3, 4, 0, .null, [(12, 0)], [1054]),
  (23, .iload_n 2, 1, 2, 0, .null, [], []),
  (24, .iload_n 3, 1, 3, 0, .null, [], []),
  (25, .ifCond .eq 7, 3, 0, 32, .null, [], []),
  (28, .lconst 1, 1, 0, 0, .long (1), [], []),
  (29, .goto 4, 3, 0, 33, .null, [], []),
  (32, .lconst 0, 1, 0, 0, .long (0), [], []),
  (33, .lastore, 1, 0, 0, .null, [], []),
  (34, .iload_n 1, 1, 1, 0, .null, [], []),
  (35, .iload_n 3, 1, 3, 0, .null, [], []),
  (36, .ifCond .eq 7, 3, 0, 43, .null, [], []),
  (39, .iconst 1, 1, 0, 0, .int (1), [], []),
  (40, .goto 4, 3, 0, 44, .null, [], []),
  (43, .iconst 0, 1, 0, 0, .int (0), [], []),
  (44, .iadd, 1, 0, 0, .null, [], []),
  (45, .istore_n 1, 1, 1, 0, .null, [], []),
  (46, .iinc 2 1, 3, 2, 0, .int (1), [], []),
  (49, .goto (-45), 3, 0, 4, .null, [], []),
  (52, .aload_n 0, 1, 0, 0, .null, [], []),
  (53, .iconst 0, 1, 0, 0, .int (0), [], []),
  (54, .putfield 129, 3, 6, 0, .null, [(12, 0)], [1056]),
  (57, .iload_n 1, 1, 1, 0, .null, [], []),
  (58, .ireturn, 1, 0, 0, .null, [], [])]
def miX12_layLost : ev_MI := (RX12, yX12_layLost, cX12_layLost, 4, (some .int), eiX12_layLost, [1210])
def eiX12_set : List ev_E := [(0, .aload_n 0, 1, 0, 0, .null, [], []),
  (1, .iload_n 1, 1, 1, 0, .null, [], []),
  (2, .invokevirtual 126, 3, 1, 0, .null, [(12, 135)], [1211, 1213, 19, 63, 0, 0, 0, 0]),
  (5, .ifCond .ne 6, 3, 0, 11, .null, [], []),
  (8, .bipush (-101), 2, 0, 0, .int (-101), [], []),
  (10, .ireturn, 1, 0, 0, .null, [], []),
  (11, .iload_n 2, 1, 2, 0, .null, [], []),
  (12, .invokestatic 132, 3, 1, 0, .null, [(0, 138)], [1234, 1235, 63]),
  (15, .ifCond .ne 6, 3, 0, 21, .null, [], []),
  (18, .bipush (-102), 2, 0, 0, .int (-102), [], []),
  (20, .ireturn, 1, 0, 0, .null, [], []),
  (21, .iconst 0, 1, 0, 0, .int (0), [], []),
  (22, .istore_n 3, 1, 3, 0, .null, [], []),
  (23, .iload_n 3, 1, 3, 0, .null, [], []),
  (24, .sipush 144, 3, 0, 0, .int (144), [], []),
  (27, .if_icmp .ge 29, 3, 0, 56, .null, [], []),
  (30, .aload_n 0, 1, 0, 0, .null, [], []),
  (31, .getfield 13, 3, 4, 0, .null, [(12, 0)], [1054]),
  (34, .iload_n 3, 1, 3, 0, .null, [], []),
  (35, .iload_n 3, 1, 3, 0, .null, [], []),
  (36, .iconst 4, 1, 0, 0, .int (4), [], []),
  (37, .iload_n 1, 1, 1, 0, .null, [], []),
  (38, .imul, 1, 0, 0, .null, [], []),
  (39, .iload_n 2, 1, 2, 0, .null, [], []),
  (40, .iadd, 1, 0, 0, .null, [], []),
  (41, .if_icmp .ne 7, 3, 0, 48, .null, [], []),
  (44, .lconst 1, 1, 0, 0, .long (1), [], []),
  (45, .goto 4, 3, 0, 49, .null, [], []),
  (48, .lconst 0, 1, 0, 0, .long (0), [], []),
  (49, .lastore, 1, 0, 0, .null, [], []),
  (50, .iinc 3 1, 3, 3, 0, .int (1), [], []),
  (53, .goto (-30), 3, 0, 23, .null, [], []),
  (56, .aload_n 0, 1, 0, 0, .null, [], []),
  (57, .iconst 0, 1, 0, 0, .int (0), [], []),
  (58, .putfield 129, 3, 6, 0, .null, [(12, 0)], [1056]),
  (61, .iconst 1, 1, 0, 0, .int (1), [], []),
  (62, .ireturn, 1, 0, 0, .null, [], [])]
def miX12_set : ev_MI := (RX12, yX12_set, cX12_set, 4, (some .int), eiX12_set, [1233])
def eiX12_lost : List ev_E := [(0, .aload_n 0, 1, 0, 0, .null, [], []),
  (1, .getfield 102, 3, 2, 0, .null, [(12, 0)], [1052]),
  (4, .ifCond .ne 8, 3, 0, 12, .null, [], []),
  (7, .bipush (-103), 2, 0, 0, .int (-103), [], []),
  (9, .goto 7, 3, 0, 16, .null, [], []),
  (12, .aload_n 0, 1, 0, 0, .null, [], []),
  (13, .invokevirtual 111, 3, 0, 0, .null, [(12, 140)], [1207, 1209, 18, 63, 0, 0, 0, 0]),
  (16, .ireturn, 1, 0, 0, .null, [], [])]
def miX12_lost : ev_MI := (RX12, yX12_lost, cX12_lost, 1, (some .int), eiX12_lost, [1240])
def eiX12_above : List ev_E := [(0, .iconst 0, 1, 0, 0, .int (0), [], []),
  (1, .istore_n 1, 1, 1, 0, .null, [], []),
  (2, .iconst 0, 1, 0, 0, .int (0), [], []),
  (3, .istore_n 2, 1, 2, 0, .null, [], []),
  (4, .iload_n 2, 1, 2, 0, .null, [], []),
  (5, .sipush 144, 3, 0, 0, .int (144), [], []),
  (8, .if_icmp .ge 28, 3, 0, 36, .null, [], []),
  (11, .iload_n 1, 1, 1, 0, .null, [], []),
  (12, .aload_n 0, 1, 0, 0, .null, [], []),
  (13, .getfield 13, 3, 4, 0, .null, [(12, 0)], [1054]),
  (16, .iload_n 2, 1, 2, 0, .null, [], []),
  (17, .laload, 1, 0, 0, .null, [], []),
  (18, .lconst 0, 1, 0, 0, .long (0), [], []),
  (19, .lcmp, 1, 0, 0, .null, [], []),
  (20, .ifCond .le 7, 3, 0, 27, .null, [], []),
  (23, .iconst 1, 1, 0, 0, .int (1), [], []),
  (24, .goto 4, 3, 0, 28, .null, [], []),
  (27, .iconst 0, 1, 0, 0, .int (0), [], []),
  (28, .iadd, 1, 0, 0, .null, [], []),
  (29, .istore_n 1, 1, 1, 0, .null, [], []),
  (30, .iinc 2 1, 3, 2, 0, .int (1), [], []),
  (33, .goto (-29), 3, 0, 4, .null, [], []),
  (36, .iload_n 1, 1, 1, 0, .null, [], []),
  (37, .ireturn, 1, 0, 0, .null, [], [])]
def miX12_above : ev_MI := (RX12, yX12_above, cX12_above, 3, (some .int), eiX12_above, [1259])
def eiX12_take : List ev_E := [(0, .lconst 0, 1, 0, 0, .long (0), [], []),
  (1, .lstore_n 1, 1, 1, 0, .null, [], []),
  (2, .iconst 0, 1, 0, 0, .int (0), [], []),
  (3, .istore_n 3, 1, 3, 0, .null, [], []),
  (4, .iload_n 3, 1, 3, 0, .null, [], []),
  (5, .sipush 144, 3, 0, 0, .int (144), [], []),
  (8, .if_icmp .ge 20, 3, 0, 28, .null, [], []),
  (11, .lload_n 1, 1, 1, 0, .null, [], []),
  (12, .aload_n 0, 1, 0, 0, .null, [], []),
  (13, .getfield 17, 3, 5, 0, .null, [(12, 0)], [1055]),
  (16, .iload_n 3, 1, 3, 0, .null, [], []),
  (17, .laload, 1, 0, 0, .null, [], []),
  (18, .invokestatic 67, 3, 2, 0, .null, [(0, 125)], [1253, 1254, 63]),
  (21, .lstore_n 1, 1, 1, 0, .null, [], []),
  (22, .iinc 3 1, 3, 3, 0, .int (1), [], []),
  (25, .goto (-21), 3, 0, 4, .null, [], []),
  (28, .lload_n 1, 1, 1, 0, .null, [], []),
  (29, .lconst 0, 1, 0, 0, .long (0), [], []),
  (30, .lcmp, 1, 0, 0, .null, [], []),
  (31, .ifCond .ne 5, 3, 0, 36, .null, [], []),
  (34, .iconst (-1), 1, 0, 0, .int (-1), [], []),
  (35, .ireturn, 1, 0, 0, .null, [], []),
  (36, .iconst 0, 1, 0, 0, .int (0), [], []),
  (37, .istore_n 3, 1, 3, 0, .null, [], []),
  (38, .iload_n 3, 1, 3, 0, .null, [], []),
  (39, .sipush 144, 3, 0, 0, .int (144), [], []),
  (42, .if_icmp .ge 23, 3, 0, 65, .null, [], []),
  (45, .aload_n 0, 1, 0, 0, .null, [], []),
  (46, .getfield 13, 3, 4, 0, .null, [(12, 0)], [1054]),
  (49, .iload_n 3, 1, 3, 0, .null, [], []),
  (50, .aload_n 0, 1, 0, 0, .null, [], []),
  (51, .getfield 17, 3, 5, 0, .null, [(12, 0)], [1055]),
  (54, .iload_n 3, 1, 3, 0, .null, [], []),
  (55, .laload, 1, 0, 0, .null, [], []),
  (56, .lload_n 1, 1, 1, 0, .null, [], []),
  (57, .ldiv, 1, 0, 0, .null, [], []),
  (58, .lastore, 1, 0, 0, .null, [], []),
  (59, .iinc 3 1, 3, 3, 0, .int (1), [], []),
  (62, .goto (-24), 3, 0, 38, .null, [], []),
  (65, .aload_n 0, 1, 0, 0, .null, [], []),
  (66, .dup, 1, 0, 0, .null, [], []),
  (67, .getfield 129, 3, 6, 0, .null, [(12, 0)], [1056]),
  (70, .iconst 1, 1, 0, 0, .int (1), [], []),
  (71, .iadd, 1, 0, 0, .null, [], []),
  (72, .putfield 129, 3, 6, 0, .null, [(12, 0)], [1056]),
  (75, .aload_n 0, 1, 0, 0, .null, [], []),
  (76, .invokevirtual 135, 3, 0, 0, .null, [(12, 143)], [1256, 1258, 24, 63, 0, 0, 0, 0]),
  (79, .ireturn, 1, 0, 0, .null, [], [])]
def miX12_take : ev_MI := (RX12, yX12_take, cX12_take, 4, (some .int), eiX12_take, [1252])
def eiX12_turned : List ev_E := [(0, .aload_n 0, 1, 0, 0, .null, [], []),
  (1, .getfield 102, 3, 2, 0, .null, [(12, 0)], [1052]),
  (4, .ifCond .ne 6, 3, 0, 10, .null, [], []),
  (7, .bipush (-103), 2, 0, 0, .int (-103), [], []),
  (9, .ireturn, 1, 0, 0, .null, [], []),
  (10, .iload_n 1, 1, 1, 0, .null, [], []),
  (11, .iconst 0, 1, 0, 0, .int (0), [], []),
  (12, .iconst 5, 1, 0, 0, .int (5), [], []),
  (13, .invokestatic 118, 3, 3, 0, .null, [(0, 123)], [1223, 1224, 63]),
  (16, .ifCond .ne 6, 3, 0, 22, .null, [], []),
  (19, .bipush (-102), 2, 0, 0, .int (-102), [], []),
  (21, .ireturn, 1, 0, 0, .null, [], []),
  (22, .aload_n 0, 1, 0, 0, .null, [], []),
  (23, .getfield 129, 3, 6, 0, .null, [(12, 0)], [1056]),
  (26, .bipush 9, 2, 0, 0, .int (9), [], []),
  (28, .if_icmp .ne 6, 3, 0, 34, .null, [], []),
  (31, .bipush (-104), 2, 0, 0, .int (-104), [], []),
  (33, .ireturn, 1, 0, 0, .null, [], []),
  (34, .aload_n 0, 1, 0, 0, .null, [], []),
  (35, .invokevirtual 138, 3, 0, 0, .null, [(12, 139)], [1245, 1247, 22, 63, 0, 0, 0, 0]),
  (38, .iconst 0, 1, 0, 0, .int (0), [], []),
  (39, .istore_n 2, 1, 2, 0, .null, [], []),
  (40, .iload_n 2, 1, 2, 0, .null, [], []),
  (41, .sipush 144, 3, 0, 0, .int (144), [], []),
  (44, .if_icmp .ge 93, 3, 0, 137, .null, [], []),
  (47, .iload_n 2, 1, 2, 0, .null, [], []),
  (48, .iconst 4, 1, 0, 0, .int (4), [], []),
  (49, .idiv, 1, 0, 0, .null, [], []),
  (50, .iconst 4, 1, 0, 0, .int (4), [], []),
  (51, .imul, 1, 0, 0, .null, [], []),
  (52, .istore_n 3, 1, 3, 0, .null, [], []),
  (53, .iload_n 2, 1, 2, 0, .null, [], []),
  (54, .iconst 4, 1, 0, 0, .int (4), [], []),
  (55, .irem, 1, 0, 0, .null, [], []),
  (56, .istore 4, 2, 4, 0, .null, [], []),
  (58, .aload_n 0, 1, 0, 0, .null, [], []),
  (59, .getfield 17, 3, 5, 0, .null, [(12, 0)], [1055]),
  (62, .iload_n 2, 1, 2, 0, .null, [], []),
  (63, .dup2, 1, 0, 0, .null, [], []),
  (64, .laload, 1, 0, 0, .null, [], []),
  (65, .bipush 10, 2, 0, 0, .int (10), [], []),
  (67, .iconst 2, 1, 0, 0, .int (2), [], []),
  (68, .iload_n 1, 1, 1, 0, .null, [], []),
  (69, .imul, 1, 0, 0, .null, [], []),
  (70, .isub, 1, 0, 0, .null, [], []),
  (71, .i2l, 1, 0, 0, .null, [], []),
  (72, .aload_n 0, 1, 0, 0, .null, [], []),
  (73, .getfield 13, 3, 4, 0, .null, [(12, 0)], [1054]),
  (76, .iload_n 2, 1, 2, 0, .null, [], []),
  (77, .laload, 1, 0, 0, .null, [], []),
  (78, .lmul, 1, 0, 0, .null, [], []),
  (79, .ladd, 1, 0, 0, .null, [], []),
  (80, .lastore, 1, 0, 0, .null, [], []),
  (81, .aload_n 0, 1, 0, 0, .null, [], []),
  (82, .getfield 17, 3, 5, 0, .null, [(12, 0)], [1055]),
  (85, .iload_n 3, 1, 3, 0, .null, [], []),
  (86, .iload 4, 2, 4, 0, .null, [], []),
  (88, .iconst 1, 1, 0, 0, .int (1), [], []),
  (89, .iadd, 1, 0, 0, .null, [], []),
  (90, .iconst 4, 1, 0, 0, .int (4), [], []),
  (91, .irem, 1, 0, 0, .null, [], []),
  (92, .iadd, 1, 0, 0, .null, [], []),
  (93, .dup2, 1, 0, 0, .null, [], []),
  (94, .laload, 1, 0, 0, .null, [], []),
  (95, .iload_n 1, 1, 1, 0, .null, [], []),
  (96, .i2l, 1, 0, 0, .null, [], []),
  (97, .aload_n 0, 1, 0, 0, .null, [], []),
  (98, .getfield 13, 3, 4, 0, .null, [(12, 0)], [1054]),
  (101, .iload_n 2, 1, 2, 0, .null, [], []),
  (102, .laload, 1, 0, 0, .null, [], []),
  (103, .lmul, 1, 0, 0, .null, [], []),
  (104, .ladd, 1, 0, 0, .null, [], []),
  (105, .lastore, 1, 0, 0, .null, [], []),
  (106, .aload_n 0, 1, 0, 0, .null, [], []),
  (107, .getfield 17, 3, 5, 0, .null, [(12, 0)], [1055]),
  (110, .iload_n 3, 1, 3, 0, .null, [], []),
  (111, .iload 4, 2, 4, 0, .null, [], []),
  (113, .iconst 3, 1, 0, 0, .int (3), [], []),
  (114, .iadd, 1, 0, 0, .null, [], []),
  (115, .iconst 4, 1, 0, 0, .int (4), [], []),
  (116, .irem, 1, 0, 0, .null, [], []),
  (117, .iadd, 1, 0, 0, .null, [], []),
  (118, .dup2, 1, 0, 0, .null, [], []),
  (119, .laload, 1, 0, 0, .null, [], []),
  (120, .iload_n 1, 1, 1, 0, .null, [], []),
  (121, .i2l, 1, 0, 0, .null, [], []),
  (122, .aload_n 0, 1, 0, 0, .null, [], []),
  (123, .getfield 13, 3, 4, 0, .null, [(12, 0)], [1054]),
  (126, .iload_n 2, 1, 2, 0, .null, [], []),
  (127, .laload, 1, 0, 0, .null, [], []),
  (128, .lmul, 1, 0, 0, .null, [], []),
  (129, .ladd, 1, 0, 0, .null, [], []),
  (130, .lastore, 1, 0, 0, .null, [], []),
  (131, .iinc 2 1, 3, 2, 0, .int (1), [], []),
  (134, .goto (-94), 3, 0, 40, .null, [], []),
  (137, .aload_n 0, 1, 0, 0, .null, [], []),
  (138, .invokevirtual 141, 3, 0, 0, .null, [(12, 144)], [1249, 1251, 23, 63, 0, 0, 0, 0]),
  (141, .ireturn, 1, 0, 0, .null, [], [])]
def miX12_turned : ev_MI := (RX12, yX12_turned, cX12_turned, 5, (some .int), eiX12_turned, [1244])
def eiX12_sortAt : List ev_E := [(0, .iload_n 1, 1, 1, 0, .null, [], []),
  (1, .iconst (-1), 1, 0, 0, .int (-1), [], []),
  (2, .if_icmp .eq 11, 3, 0, 13, .null, [], []),
  (5, .iload_n 1, 1, 1, 0, .null, [], []),
  (6, .aload_n 0, 1, 0, 0, .null, [], []),
  (7, .getfield 61, 3, 36, 0, .null, [(12, 0)], [1086]),
  (10, .if_icmp .ne 7, 3, 0, 17, .null, [], []),
  (13, .iconst 3, 1, 0, 0, .int (3), [], []),
  (14, .goto 9, 3, 0, 23, .null, [], []),
  (17, .aload_n 0, 1, 0, 0, .null, [], []),
  (18, .getfield 7, 3, 3, 0, .null, [(12, 0)], [1053]),
  (21, .iload_n 1, 1, 1, 0, .null, [], []),
  (22, .iaload, 1, 0, 0, .null, [], []),
  (23, .ireturn, 1, 0, 0, .null, [], [])]
def miX12_sortAt : ev_MI := (RX12, yX12_sortAt, cX12_sortAt, 2, (some .int), eiX12_sortAt, [1279])
def eiX12_feltOf : List ev_E := [(0, .iload_n 0, 1, 0, 0, .null, [], []),
  (1, .ifCond .ne 7, 3, 0, 8, .null, [], []),
  (4, .iconst 0, 1, 0, 0, .int (0), [], []),
  (5, .goto 22, 3, 0, 27, .null, [], []),
  (8, .iload_n 0, 1, 0, 0, .null, [], []),
  (9, .iconst 3, 1, 0, 0, .int (3), [], []),
  (10, .if_icmp .ne 7, 3, 0, 17, .null, [], []),
  (13, .iconst 1, 1, 0, 0, .int (1), [], []),
  (14, .goto 13, 3, 0, 27, .null, [], []),
  (17, .iload_n 0, 1, 0, 0, .null, [], []),
  (18, .iconst 2, 1, 0, 0, .int (2), [], []),
  (19, .if_icmp .ne 7, 3, 0, 26, .null, [], []),
  (22, .iconst 2, 1, 0, 0, .int (2), [], []),
  (23, .goto 4, 3, 0, 27, .null, [], []),
  (26, .iconst 3, 1, 0, 0, .int (3), [], []),
  (27, .ireturn, 1, 0, 0, .null, [], [])]
def miX12_feltOf : ev_MI := (RX12, yX12_feltOf, cX12_feltOf, 1, (some .int), eiX12_feltOf, [1282])
def eiX12_stepOne : List ev_E := [(0, .aload_n 0, 1, 0, 0, .null, [], []),
  (1, .iload_n 1, 1, 1, 0, .null, [], []),
  (2, .iconst 4, 1, 0, 0, .int (4), [], []),
  (3, .idiv, 1, 0, 0, .null, [], []),
  (4, .iload_n 2, 1, 2, 0, .null, [], []),
  (5, .invokevirtual 144, 3, 2, 0, .null, [(12, 137)], [1272, 1274, 27, 63, 0, 0, 0, 0]),
  (8, .istore 5, 2, 5, 0, .null, [], []),
  (10, .aload_n 0, 1, 0, 0, .null, [], []),
  (11, .iload 5, 2, 5, 0, .null, [], []),
  (13, .invokevirtual 148, 3, 1, 0, .null, [(12, 146)], [1276, 1278, 28, 63, 0, 0, 0, 0]),
  (16, .istore 6, 2, 6, 0, .null, [], []),
  (18, .iload 6, 2, 6, 0, .null, [], []),
  (20, .invokestatic 151, 3, 1, 0, .null, [(0, 147)], [1280, 1281, 63]),
  (23, .iload 4, 2, 4, 0, .null, [], []),
  (25, .if_icmp .ne 42, 3, 0, 67, .null, [], []),
  (28, .iload 6, 2, 6, 0, .null, [], []),
  (30, .iconst 2, 1, 0, 0, .int (2), [], []),
  (31, .if_icmp .ge 8, 3, 0, 39, .null, [], []),
  (34, .iload 5, 2, 5, 0, .null, [], []),
  (36, .goto 6, 3, 0, 42, .null, [], []),
  (39, .iload_n 1, 1, 1, 0, .null, [], []),
  (40, .iconst 4, 1, 0, 0, .int (4), [], []),
  (41, .idiv, 1, 0, 0, .null, [], []),
  (42, .istore 7, 2, 7, 0, .null, [], []),
  (44, .aload_n 0, 1, 0, 0, .null, [], []),
  (45, .getfield 17, 3, 5, 0, .null, [(12, 0)], [1055]),
  (48, .iconst 4, 1, 0, 0, .int (4), [], []),
  (49, .iload 7, 2, 7, 0, .null, [], []),
  (51, .imul, 1, 0, 0, .null, [], []),
  (52, .iload_n 2, 1, 2, 0, .null, [], []),
  (53, .iadd, 1, 0, 0, .null, [], []),
  (54, .dup2, 1, 0, 0, .null, [], []),
  (55, .laload, 1, 0, 0, .null, [], []),
  (56, .iload_n 3, 1, 3, 0, .null, [], []),
  (57, .i2l, 1, 0, 0, .null, [], []),
  (58, .aload_n 0, 1, 0, 0, .null, [], []),
  (59, .getfield 13, 3, 4, 0, .null, [(12, 0)], [1054]),
  (62, .iload_n 1, 1, 1, 0, .null, [], []),
  (63, .laload, 1, 0, 0, .null, [], []),
  (64, .lmul, 1, 0, 0, .null, [], []),
  (65, .ladd, 1, 0, 0, .null, [], []),
  (66, .lastore, 1, 0, 0, .null, [], []),
  (67, .return_, 1, 0, 0, .null, [], [])]
def miX12_stepOne : ev_MI := (RX12, yX12_stepOne, cX12_stepOne, 8, none, eiX12_stepOne, [1271])
def eiX12_layStep : List ev_E := [(0, .aload_n 0, 1, 0, 0, .null, [], []),
  (1, .invokevirtual 138, 3, 0, 0, .null, [(12, 139)], [1245, 1247, 22, 63, 0, 0, 0, 0]),
  (4, .iconst 0, 1, 0, 0, .int (0), [], []),
  (5, .istore 4, 2, 4, 0, .null, [], []),
  (7, .iload 4, 2, 4, 0, .null, [], []),
  (9, .iconst 4, 1, 0, 0, .int (4), [], []),
  (10, .aload_n 0, 1, 0, 0, .null, [], []),
  (11, .invokevirtual 115, 3, 0, 0, .null, [(12, 133)], [1219, 1221, 21, 63, 0, 0, 0, 0]),
  (14, .imul, 1, 0, 0, .null, [], []),
  (15, .if_icmp .ge 72, 3, 0, 87, .null, [], []),
  (18, .aload_n 0, 1, 0, 0, .null, [], []),
  (19, .getfield 13, 3, 4, 0, .null, [(12, 0)], [1054]),
  (22, .iload 4, 2, 4, 0, .null, [], []),
  (24, .laload, 1, 0, 0, .null, [], []),
  (25, .lconst 0, 1, 0, 0, .long (0), [], []),
  (26, .lcmp, 1, 0, 0, .null, [], []),
  (27, .ifCond .le 54, 3, 0, 81, .null, [], []),
  (30, .iload 4, 2, 4, 0, .null, [], []),
  (32, .iload_n 1, 1, 1, 0, .null, [], []),
  (33, .iadd, 1, 0, 0, .null, [], []),
  (34, .iconst 4, 1, 0, 0, .int (4), [], []),
  (35, .irem, 1, 0, 0, .null, [], []),
  (36, .istore 5, 2, 5, 0, .null, [], []),
  (38, .aload_n 0, 1, 0, 0, .null, [], []),
  (39, .iload 4, 2, 4, 0, .null, [], []),
  (41, .iload 5, 2, 5, 0, .null, [], []),
  (43, .bipush 10, 2, 0, 0, .int (10), [], []),
  (45, .iconst 2, 1, 0, 0, .int (2), [], []),
  (46, .iload_n 2, 1, 2, 0, .null, [], []),
  (47, .imul, 1, 0, 0, .null, [], []),
  (48, .isub, 1, 0, 0, .null, [], []),
  (49, .iload_n 3, 1, 3, 0, .null, [], []),
  (50, .invokevirtual 154, 3, 4, 0, .null, [(12, 148)], [1268, 1270, 26, 63, 0, 0, 0, 0]),
  (53, .aload_n 0, 1, 0, 0, .null, [], []),
  (54, .iload 4, 2, 4, 0, .null, [], []),
  (56, .iload 5, 2, 5, 0, .null, [], []),
  (58, .iconst 3, 1, 0, 0, .int (3), [], []),
  (59, .iadd, 1, 0, 0, .null, [], []),
  (60, .iconst 4, 1, 0, 0, .int (4), [], []),
  (61, .irem, 1, 0, 0, .null, [], []),
  (62, .iload_n 2, 1, 2, 0, .null, [], []),
  (63, .iload_n 3, 1, 3, 0, .null, [], []),
  (64, .invokevirtual 154, 3, 4, 0, .null, [(12, 148)], [1268, 1270, 26, 63, 0, 0, 0, 0]),
  (67, .aload_n 0, 1, 0, 0, .null, [], []),
  (68, .iload 4, 2, 4, 0, .null, [], []),
  (70, .iload 5, 2, 5, 0, .null, [], []),
  (72, .iconst 1, 1, 0, 0, .int (1), [], []),
  (73, .iadd, 1, 0, 0, .null, [], []),
  (74, .iconst 4, 1, 0, 0, .int (4), [], []),
  (75, .irem, 1, 0, 0, .null, [], []),
  (76, .iload_n 2, 1, 2, 0, .null, [], []),
  (77, .iload_n 3, 1, 3, 0, .null, [], []),
  (78, .invokevirtual 154, 3, 4, 0, .null, [(12, 148)], [1268, 1270, 26, 63, 0, 0, 0, 0]),
  (81, .iinc 4 1, 3, 4, 0, .int (1), [], []),
  (84, .goto (-77), 3, 0, 7, .null, [], []),
  (87, .return_, 1, 0, 0, .null, [], [])]
def miX12_layStep : ev_MI := (RX12, yX12_layStep, cX12_layStep, 6, none, eiX12_layStep, [1267])
def eiX12_step : List ev_E := [(0, .aload_n 0, 1, 0, 0, .null, [], []),
  (1, .getfield 102, 3, 2, 0, .null, [(12, 0)], [1052]),
  (4, .ifCond .ne 6, 3, 0, 10, .null, [], []),
  (7, .bipush (-103), 2, 0, 0, .int (-103), [], []),
  (9, .ireturn, 1, 0, 0, .null, [], []),
  (10, .iload_n 1, 1, 1, 0, .null, [], []),
  (11, .iconst 0, 1, 0, 0, .int (0), [], []),
  (12, .iconst 5, 1, 0, 0, .int (5), [], []),
  (13, .invokestatic 118, 3, 3, 0, .null, [(0, 123)], [1223, 1224, 63]),
  (16, .ifCond .eq 12, 3, 0, 28, .null, [], []),
  (19, .iload_n 2, 1, 2, 0, .null, [], []),
  (20, .iconst 0, 1, 0, 0, .int (0), [], []),
  (21, .iconst 3, 1, 0, 0, .int (3), [], []),
  (22, .invokestatic 118, 3, 3, 0, .null, [(0, 123)], [1223, 1224, 63]),
  (25, .ifCond .ne 6, 3, 0, 31, .null, [], []),
  (28, .bipush (-102), 2, 0, 0, .int (-102), [], []),
  (30, .ireturn, 1, 0, 0, .null, [], []),
  (31, .aload_n 0, 1, 0, 0, .null, [], []),
  (32, .getfield 129, 3, 6, 0, .null, [(12, 0)], [1056]),
  (35, .bipush 9, 2, 0, 0, .int (9), [], []),
  (37, .if_icmp .ne 6, 3, 0, 43, .null, [], []),
  (40, .bipush (-104), 2, 0, 0, .int (-104), [], []),
  (42, .ireturn, 1, 0, 0, .null, [], []),
  (43, .aload_n 0, 1, 0, 0, .null, [], []),
  (44, .iconst 0, 1, 0, 0, .int (0), [], []),
  (45, .iload_n 1, 1, 1, 0, .null, [], []),
  (46, .iload_n 2, 1, 2, 0, .null, [], []),
  (47, .invokevirtual 158, 3, 3, 0, .null, [(12, 149)], [1264, 1266, 25, 63, 0, 0, 0, 0]),
  (50, .aload_n 0, 1, 0, 0, .null, [], []),
  (51, .invokevirtual 141, 3, 0, 0, .null, [(12, 144)], [1249, 1251, 23, 63, 0, 0, 0, 0]),
  (54, .istore_n 3, 1, 3, 0, .null, [], []),
  (55, .iload_n 3, 1, 3, 0, .null, [], []),
  (56, .iconst (-1), 1, 0, 0, .int (-1), [], []),
  (57, .if_icmp .ne 8, 3, 0, 65, .null, [], []),
  (60, .bipush (-103), 2, 0, 0, .int (-103), [], []),
  (62, .goto 4, 3, 0, 66, .null, [], []),
  (65, .iload_n 3, 1, 3, 0, .null, [], []),
  (66, .ireturn, 1, 0, 0, .null, [], [])]
def miX12_step : ev_MI := (RX12, yX12_step, cX12_step, 4, (some .int), eiX12_step, [1263])
def eiX12_liesFrom : List ev_E := [(0, .iload_n 2, 1, 2, 0, .null, [], []),
  (1, .aload_n 0, 1, 0, 0, .null, [], []),
  (2, .getfield 99, 3, 1, 0, .null, [(12, 0)], [1051]),
  (5, .idiv, 1, 0, 0, .null, [], []),
  (6, .iload_n 1, 1, 1, 0, .null, [], []),
  (7, .aload_n 0, 1, 0, 0, .null, [], []),
  (8, .getfield 99, 3, 1, 0, .null, [(12, 0)], [1051]),
  (11, .idiv, 1, 0, 0, .null, [], []),
  (12, .isub, 1, 0, 0, .null, [], []),
  (13, .istore_n 3, 1, 3, 0, .null, [], []),
  (14, .iload_n 2, 1, 2, 0, .null, [], []),
  (15, .aload_n 0, 1, 0, 0, .null, [], []),
  (16, .getfield 99, 3, 1, 0, .null, [(12, 0)], [1051]),
  (19, .irem, 1, 0, 0, .null, [], []),
  (20, .iload_n 1, 1, 1, 0, .null, [], []),
  (21, .aload_n 0, 1, 0, 0, .null, [], []),
  (22, .getfield 99, 3, 1, 0, .null, [(12, 0)], [1051]),
  (25, .irem, 1, 0, 0, .null, [], []),
  (26, .isub, 1, 0, 0, .null, [], []),
  (27, .istore 4, 2, 4, 0, .null, [], []),
  (29, .iload_n 3, 1, 3, 0, .null, [], []),
  (30, .ifCond .ne 10, 3, 0, 40, .null, [], []),
  (33, .iload 4, 2, 4, 0, .null, [], []),
  (35, .ifCond .ne 5, 3, 0, 40, .null, [], []),
  (38, .iconst (-1), 1, 0, 0, .int (-1), [], []),
  (39, .ireturn, 1, 0, 0, .null, [], []),
  (40, .iload_n 3, 1, 3, 0, .null, [], []),
  (41, .invokestatic 162, 3, 1, 0, .null, [(0, 124)], [1295, 1296, 63]),
  (44, .iload 4, 2, 4, 0, .null, [], []),
  (46, .invokestatic 162, 3, 1, 0, .null, [(0, 124)], [1295, 1296, 63]),
  (49, .if_icmp .lt 15, 3, 0, 64, .null, [], []),
  (52, .iload_n 3, 1, 3, 0, .null, [], []),
  (53, .ifCond .ge 7, 3, 0, 60, .null, [], []),
  (56, .iconst 0, 1, 0, 0, .int (0), [], []),
  (57, .goto 17, 3, 0, 74, .null, [], []),
  (60, .iconst 2, 1, 0, 0, .int (2), [], []),
  (61, .goto 13, 3, 0, 74, .null, [], []),
  (64, .iload 4, 2, 4, 0, .null, [], []),
  (66, .ifCond .le 7, 3, 0, 73, .null, [], []),
  (69, .iconst 1, 1, 0, 0, .int (1), [], []),
  (70, .goto 4, 3, 0, 74, .null, [], []),
  (73, .iconst 3, 1, 0, 0, .int (3), [], []),
  (74, .ireturn, 1, 0, 0, .null, [], [])]
def miX12_liesFrom : ev_MI := (RX12, yX12_liesFrom, cX12_liesFrom, 5, (some .int), eiX12_liesFrom, [1294])
def eiX12_layHeard : List ev_E := [(0, .aload_n 0, 1, 0, 0, .null, [], []),
  (1, .invokevirtual 138, 3, 0, 0, .null, [(12, 139)], [1245, 1247, 22, 63, 0, 0, 0, 0]),
  (4, .iconst 0, 1, 0, 0, .int (0), [], []),
  (5, .istore 4, 2, 4, 0, .null, [], []),
  (7, .iload 4, 2, 4, 0, .null, [], []),
  (9, .iconst 4, 1, 0, 0, .int (4), [], []),
  (10, .aload_n 0, 1, 0, 0, .null, [], []),
  (11, .invokevirtual 115, 3, 0, 0, .null, [(12, 133)], [1219, 1221, 21, 63, 0, 0, 0, 0]),
  (14, .imul, 1, 0, 0, .null, [], []),
  (15, .if_icmp .ge 79, 3, 0, 94, .null, [], []),
  (18, .aload_n 0, 1, 0, 0, .null, [], []),
  (19, .iload 4, 2, 4, 0, .null, [], []),
  (21, .iconst 4, 1, 0, 0, .int (4), [], []),
  (22, .idiv, 1, 0, 0, .null, [], []),
  (23, .iload_n 1, 1, 1, 0, .null, [], []),
  (24, .invokevirtual 165, 3, 2, 0, .null, [(12, 151)], [1291, 1293, 30, 63, 0, 0, 0, 0]),
  (27, .istore 5, 2, 5, 0, .null, [], []),
  (29, .iload 5, 2, 5, 0, .null, [], []),
  (31, .iconst (-1), 1, 0, 0, .int (-1), [], []),
  (32, .if_icmp .ne 8, 3, 0, 40, .null, [], []),
  (35, .bipush 15, 2, 0, 0, .int (15), [], []),
  (37, .goto 31, 3, 0, 68, .null, [], []),
  (40, .iload 5, 2, 5, 0, .null, [], []),
  (42, .iconst 4, 1, 0, 0, .int (4), [], []),
  (43, .iadd, 1, 0, 0, .null, [], []),
  (44, .iload 4, 2, 4, 0, .null, [], []),
  (46, .iconst 4, 1, 0, 0, .int (4), [], []),
  (47, .irem, 1, 0, 0, .null, [], []),
  (48, .isub, 1, 0, 0, .null, [], []),
  (49, .iconst 4, 1, 0, 0, .int (4), [], []),
  (50, .irem, 1, 0, 0, .null, [], []),
  (51, .iload_n 2, 1, 2, 0, .null, [], []),
  (52, .if_icmp .ne 10, 3, 0, 62, .null, [], []),
  (55, .bipush 6, 2, 0, 0, .int (6), [], []),
  (57, .iload_n 3, 1, 3, 0, .null, [], []),
  (58, .imul, 1, 0, 0, .null, [], []),
  (59, .goto 9, 3, 0, 68, .null, [], []),
  (62, .iconst 2, 1, 0, 0, .int (2), [], []),
  (63, .bipush 10, 2, 0, 0, .int (10), [], []),
  (65, .iload_n 3, 1, 3, 0, .null, [], []),
  (66, .isub, 1, 0, 0, .null, [], []),
  (67, .imul, 1, 0, 0, .null, [], []),
  (68, .istore 6, 2, 6, 0, .null, [], []),
  (70, .aload_n 0, 1, 0, 0, .null, [], []),
  (71, .getfield 17, 3, 5, 0, .null, [(12, 0)], [1055]),
  (74, .iload 4, 2, 4, 0, .null, [], []),
  (76, .iload 6, 2, 6, 0, .null, [], []),
  (78, .i2l, 1, 0, 0, .null, [], []),
  (79, .aload_n 0, 1, 0, 0, .null, [], []),
  (80, .getfield 13, 3, 4, 0, .null, [(12, 0)], [1054]),
  (83, .iload 4, 2, 4, 0, .null, [], []),
  (85, .laload, 1, 0, 0, .null, [], []),
  (86, .lmul, 1, 0, 0, .null, [], []),
  (87, .lastore, 1, 0, 0, .null, [], []),
  (88, .iinc 4 1, 3, 4, 0, .int (1), [], []),
  (91, .goto (-84), 3, 0, 7, .null, [], []),
  (94, .return_, 1, 0, 0, .null, [], [])]
def miX12_layHeard : ev_MI := (RX12, yX12_layHeard, cX12_layHeard, 7, none, eiX12_layHeard, [1290])
def eiX12_heard : List ev_E := [(0, .aload_n 0, 1, 0, 0, .null, [], []),
  (1, .iload_n 1, 1, 1, 0, .null, [], []),
  (2, .invokevirtual 126, 3, 1, 0, .null, [(12, 135)], [1211, 1213, 19, 63, 0, 0, 0, 0]),
  (5, .ifCond .ne 6, 3, 0, 11, .null, [], []),
  (8, .bipush (-101), 2, 0, 0, .int (-101), [], []),
  (10, .ireturn, 1, 0, 0, .null, [], []),
  (11, .iload_n 2, 1, 2, 0, .null, [], []),
  (12, .invokestatic 132, 3, 1, 0, .null, [(0, 138)], [1234, 1235, 63]),
  (15, .ifCond .eq 13, 3, 0, 28, .null, [], []),
  (18, .iload_n 3, 1, 3, 0, .null, [], []),
  (19, .iconst 0, 1, 0, 0, .int (0), [], []),
  (20, .bipush 10, 2, 0, 0, .int (10), [], []),
  (22, .invokestatic 118, 3, 3, 0, .null, [(0, 123)], [1223, 1224, 63]),
  (25, .ifCond .ne 6, 3, 0, 31, .null, [], []),
  (28, .bipush (-102), 2, 0, 0, .int (-102), [], []),
  (30, .ireturn, 1, 0, 0, .null, [], []),
  (31, .aload_n 0, 1, 0, 0, .null, [], []),
  (32, .getfield 129, 3, 6, 0, .null, [(12, 0)], [1056]),
  (35, .bipush 9, 2, 0, 0, .int (9), [], []),
  (37, .if_icmp .ne 6, 3, 0, 43, .null, [], []),
  (40, .bipush (-104), 2, 0, 0, .int (-104), [], []),
  (42, .ireturn, 1, 0, 0, .null, [], []),
  (43, .aload_n 0, 1, 0, 0, .null, [], []),
  (44, .iload_n 1, 1, 1, 0, .null, [], []),
  (45, .iload_n 2, 1, 2, 0, .null, [], []),
  (46, .iload_n 3, 1, 3, 0, .null, [], []),
  (47, .invokevirtual 168, 3, 3, 0, .null, [(12, 152)], [1287, 1289, 29, 63, 0, 0, 0, 0]),
  (50, .aload_n 0, 1, 0, 0, .null, [], []),
  (51, .invokevirtual 141, 3, 0, 0, .null, [(12, 144)], [1249, 1251, 23, 63, 0, 0, 0, 0]),
  (54, .istore 4, 2, 4, 0, .null, [], []),
  (56, .iload 4, 2, 4, 0, .null, [], []),
  (58, .iconst (-1), 1, 0, 0, .int (-1), [], []),
  (59, .if_icmp .ne 8, 3, 0, 67, .null, [], []),
  (62, .bipush (-103), 2, 0, 0, .int (-103), [], []),
  (64, .goto 5, 3, 0, 69, .null, [], []),
  (67, .iload 4, 2, 4, 0, .null, [], []),
  (69, .ireturn, 1, 0, 0, .null, [], [])]
def miX12_heard : ev_MI := (RX12, yX12_heard, cX12_heard, 5, (some .int), eiX12_heard, [1286])
def eiX12_all : List ev_E := [(0, .lconst 0, 1, 0, 0, .long (0), [], []),
  (1, .lstore_n 1, 1, 1, 0, .null, [], []),
  (2, .iconst 0, 1, 0, 0, .int (0), [], []),
  (3, .istore_n 3, 1, 3, 0, .null, [], []),
  (4, .iload_n 3, 1, 3, 0, .null, [], []),
  (5, .sipush 144, 3, 0, 0, .int (144), [], []),
  (8, .if_icmp .ge 18, 3, 0, 26, .null, [], []),
  (11, .lload_n 1, 1, 1, 0, .null, [], []),
  (12, .aload_n 0, 1, 0, 0, .null, [], []),
  (13, .getfield 13, 3, 4, 0, .null, [(12, 0)], [1054]),
  (16, .iload_n 3, 1, 3, 0, .null, [], []),
  (17, .laload, 1, 0, 0, .null, [], []),
  (18, .ladd, 1, 0, 0, .null, [], []),
  (19, .lstore_n 1, 1, 1, 0, .null, [], []),
  (20, .iinc 3 1, 3, 3, 0, .int (1), [], []),
  (23, .goto (-19), 3, 0, 4, .null, [], []),
  (26, .lload_n 1, 1, 1, 0, .null, [], []),
  (27, .lreturn, 1, 0, 0, .null, [], [])]
def miX12_all : ev_MI := (RX12, yX12_all, cX12_all, 4, (some .long), eiX12_all, [1313])
def eiX12_ofCell : List ev_E := [(0, .aload_n 0, 1, 0, 0, .null, [], []),
  (1, .getfield 13, 3, 4, 0, .null, [(12, 0)], [1054]),
  (4, .iconst 4, 1, 0, 0, .int (4), [], []),
  (5, .iload_n 1, 1, 1, 0, .null, [], []),
  (6, .imul, 1, 0, 0, .null, [], []),
  (7, .laload, 1, 0, 0, .null, [], []),
  (8, .aload_n 0, 1, 0, 0, .null, [], []),
  (9, .getfield 13, 3, 4, 0, .null, [(12, 0)], [1054]),
  (12, .iconst 4, 1, 0, 0, .int (4), [], []),
  (13, .iload_n 1, 1, 1, 0, .null, [], []),
  (14, .imul, 1, 0, 0, .null, [], []),
  (15, .iconst 1, 1, 0, 0, .int (1), [], []),
  (16, .iadd, 1, 0, 0, .null, [], []),
  (17, .laload, 1, 0, 0, .null, [], []),
  (18, .ladd, 1, 0, 0, .null, [], []),
  (19, .aload_n 0, 1, 0, 0, .null, [], []),
  (20, .getfield 13, 3, 4, 0, .null, [(12, 0)], [1054]),
  (23, .iconst 4, 1, 0, 0, .int (4), [], []),
  (24, .iload_n 1, 1, 1, 0, .null, [], []),
  (25, .imul, 1, 0, 0, .null, [], []),
  (26, .iconst 2, 1, 0, 0, .int (2), [], []),
  (27, .iadd, 1, 0, 0, .null, [], []),
  (28, .laload, 1, 0, 0, .null, [], []),
  (29, .ladd, 1, 0, 0, .null, [], []),
  (30, .aload_n 0, 1, 0, 0, .null, [], []),
  (31, .getfield 13, 3, 4, 0, .null, [(12, 0)], [1054]),
  (34, .iconst 4, 1, 0, 0, .int (4), [], []),
  (35, .iload_n 1, 1, 1, 0, .null, [], []),
  (36, .imul, 1, 0, 0, .null, [], []),
  (37, .iconst 3, 1, 0, 0, .int (3), [], []),
  (38, .iadd, 1, 0, 0, .null, [], []),
  (39, .laload, 1, 0, 0, .null, [], []),
  (40, .ladd, 1, 0, 0, .null, [], []),
  (41, .lreturn, 1, 0, 0, .null, [], [])]
def miX12_ofCell : ev_MI := (RX12, yX12_ofCell, cX12_ofCell, 2, (some .long), eiX12_ofCell, [1309])
def eiX12_isPart : List ev_E := [(0, .iload_n 0, 1, 0, 0, .null, [], []),
  (1, .iconst 0, 1, 0, 0, .int (0), [], []),
  (2, .iconst 1, 1, 0, 0, .int (1), [], []),
  (3, .invokestatic 118, 3, 3, 0, .null, [(0, 123)], [1223, 1224, 63]),
  (6, .ireturn, 1, 0, 0, .null, [], [])]
def miX12_isPart : ev_MI := (RX12, yX12_isPart, cX12_isPart, 1, (some .boolean), eiX12_isPart, [1305])
def eiX12_odds : List ev_E := [(0, .aload_n 0, 1, 0, 0, .null, [], []),
  (1, .iload_n 1, 1, 1, 0, .null, [], []),
  (2, .invokevirtual 122, 3, 1, 0, .null, [(12, 134)], [1215, 1217, 20, 63, 0, 0, 0, 0]),
  (5, .ifCond .ne 7, 3, 0, 12, .null, [], []),
  (8, .ldc2_w 171, 3, 0, 0, .long (-101), [], [1302]),
  (11, .lreturn, 1, 0, 0, .null, [], []),
  (12, .iload_n 2, 1, 2, 0, .null, [], []),
  (13, .invokestatic 173, 3, 1, 0, .null, [(0, 156)], [1303, 1304, 63]),
  (16, .ifCond .eq 19, 3, 0, 35, .null, [], []),
  (19, .aload_n 0, 1, 0, 0, .null, [], []),
  (20, .iload_n 1, 1, 1, 0, .null, [], []),
  (21, .invokevirtual 176, 3, 1, 0, .null, [(12, 155)], [1306, 1308, 31, 63, 0, 0, 0, 0]),
  (24, .aload_n 0, 1, 0, 0, .null, [], []),
  (25, .invokevirtual 180, 3, 0, 0, .null, [(12, 154)], [1310, 1312, 32, 63, 0, 0, 0, 0]),
  (28, .iload_n 2, 1, 2, 0, .null, [], []),
  (29, .invokestatic 184, 3, 3, 0, .null, [(0, 126)], [1314, 1315, 63]),
  (32, .goto 6, 3, 0, 38, .null, [], []),
  (35, .ldc2_w 188, 3, 0, 0, .long (-102), [], [1317]),
  (38, .lreturn, 1, 0, 0, .null, [], [])]
def miX12_odds : ev_MI := (RX12, yX12_odds, cX12_odds, 3, (some .long), eiX12_odds, [1301])
def eiX12_ways : List ev_E := [(0, .aload_n 0, 1, 0, 0, .null, [], []),
  (1, .getfield 102, 3, 2, 0, .null, [(12, 0)], [1052]),
  (4, .ifCond .ne 7, 3, 0, 11, .null, [], []),
  (7, .ldc2_w 190, 3, 0, 0, .long (-103), [], [1322]),
  (10, .lreturn, 1, 0, 0, .null, [], []),
  (11, .iload_n 1, 1, 1, 0, .null, [], []),
  (12, .invokestatic 132, 3, 1, 0, .null, [(0, 138)], [1234, 1235, 63]),
  (15, .ifCond .eq 10, 3, 0, 25, .null, [], []),
  (18, .iload_n 2, 1, 2, 0, .null, [], []),
  (19, .invokestatic 173, 3, 1, 0, .null, [(0, 156)], [1303, 1304, 63]),
  (22, .ifCond .ne 7, 3, 0, 29, .null, [], []),
  (25, .ldc2_w 188, 3, 0, 0, .long (-102), [], [1317]),
  (28, .lreturn, 1, 0, 0, .null, [], []),
  (29, .lconst 0, 1, 0, 0, .long (0), [], []),
  (30, .lstore_n 3, 1, 3, 0, .null, [], []),
  (31, .iconst 0, 1, 0, 0, .int (0), [], []),
  (32, .istore 5, 2, 5, 0, .null, [], []),
  (34, .iload 5, 2, 5, 0, .null, [], []),
  (36, .aload_n 0, 1, 0, 0, .null, [], []),
  (37, .invokevirtual 115, 3, 0, 0, .null, [(12, 133)], [1219, 1221, 21, 63, 0, 0, 0, 0]),
  (40, .if_icmp .ge 23, 3, 0, 63, .null, [], []),
  (43, .lload_n 3, 1, 3, 0, .null, [], []),
  (44, .aload_n 0, 1, 0, 0, .null, [], []),
  (45, .getfield 13, 3, 4, 0, .null, [(12, 0)], [1054]),
  (48, .iconst 4, 1, 0, 0, .int (4), [], []),
  (49, .iload 5, 2, 5, 0, .null, [], []),
  (51, .imul, 1, 0, 0, .null, [], []),
  (52, .iload_n 1, 1, 1, 0, .null, [], []),
  (53, .iadd, 1, 0, 0, .null, [], []),
  (54, .laload, 1, 0, 0, .null, [], []),
  (55, .ladd, 1, 0, 0, .null, [], []),
  (56, .lstore_n 3, 1, 3, 0, .null, [], []),
  (57, .iinc 5 1, 3, 5, 0, .int (1), [], []),
  (60, .goto (-26), 3, 0, 34, .null, [], []),
  (63, .lload_n 3, 1, 3, 0, .null, [], []),
  (64, .aload_n 0, 1, 0, 0, .null, [], []),
  (65, .invokevirtual 180, 3, 0, 0, .null, [(12, 154)], [1310, 1312, 32, 63, 0, 0, 0, 0]),
  (68, .iload_n 2, 1, 2, 0, .null, [], []),
  (69, .invokestatic 184, 3, 3, 0, .null, [(0, 126)], [1314, 1315, 63]),
  (72, .lreturn, 1, 0, 0, .null, [], [])]
def miX12_ways : ev_MI := (RX12, yX12_ways, cX12_ways, 6, (some .long), eiX12_ways, [1321])
def eiX12_likeliestNow : List ev_E := [(0, .iconst 0, 1, 0, 0, .int (0), [], []),
  (1, .istore_n 1, 1, 1, 0, .null, [], []),
  (2, .iconst 1, 1, 0, 0, .int (1), [], []),
  (3, .istore_n 2, 1, 2, 0, .null, [], []),
  (4, .iload_n 2, 1, 2, 0, .null, [], []),
  (5, .aload_n 0, 1, 0, 0, .null, [], []),
  (6, .invokevirtual 115, 3, 0, 0, .null, [(12, 133)], [1219, 1221, 21, 63, 0, 0, 0, 0]),
  (9, .if_icmp .ge 29, 3, 0, 38, .null, [], []),
  (12, .aload_n 0, 1, 0, 0, .null, [], []),
  (13, .iload_n 2, 1, 2, 0, .null, [], []),
  (14, .invokevirtual 176, 3, 1, 0, .null, [(12, 155)], [1306, 1308, 31, 63, 0, 0, 0, 0]),
  (17, .aload_n 0, 1, 0, 0, .null, [], []),
  (18, .iload_n 1, 1, 1, 0, .null, [], []),
  (19, .invokevirtual 176, 3, 1, 0, .null, [(12, 155)], [1306, 1308, 31, 63, 0, 0, 0, 0]),
  (22, .lcmp, 1, 0, 0, .null, [], []),
  (23, .ifCond .le 7, 3, 0, 30, .null, [], []),
  (26, .iload_n 2, 1, 2, 0, .null, [], []),
  (27, .goto 4, 3, 0, 31, .null, [], []),
  (30, .iload_n 1, 1, 1, 0, .null, [], []),
  (31, .istore_n 1, 1, 1, 0, .null, [], []),
  (32, .iinc 2 1, 3, 2, 0, .int (1), [], []),
  (35, .goto (-31), 3, 0, 4, .null, [], []),
  (38, .iload_n 1, 1, 1, 0, .null, [], []),
  (39, .ireturn, 1, 0, 0, .null, [], [])]
def miX12_likeliestNow : ev_MI := (RX12, yX12_likeliestNow, cX12_likeliestNow, 3, (some .int), eiX12_likeliestNow, [1330])
def eiX12_likeliest : List ev_E := [(0, .aload_n 0, 1, 0, 0, .null, [], []),
  (1, .getfield 102, 3, 2, 0, .null, [(12, 0)], [1052]),
  (4, .ifCond .ne 8, 3, 0, 12, .null, [], []),
  (7, .bipush (-103), 2, 0, 0, .int (-103), [], []),
  (9, .goto 7, 3, 0, 16, .null, [], []),
  (12, .aload_n 0, 1, 0, 0, .null, [], []),
  (13, .invokevirtual 192, 3, 0, 0, .null, [(12, 159)], [1327, 1329, 33, 63, 0, 0, 0, 0]),
  (16, .ireturn, 1, 0, 0, .null, [], [])]
def miX12_likeliest : ev_MI := (RX12, yX12_likeliest, cX12_likeliest, 1, (some .int), eiX12_likeliest, [1326])
def eiX12_knows : List ev_E := [(0, .aload_n 0, 1, 0, 0, .null, [], []),
  (1, .getfield 102, 3, 2, 0, .null, [(12, 0)], [1052]),
  (4, .ifCond .ne 7, 3, 0, 11, .null, [], []),
  (7, .ldc2_w 190, 3, 0, 0, .long (-103), [], [1322]),
  (10, .lreturn, 1, 0, 0, .null, [], []),
  (11, .iload_n 1, 1, 1, 0, .null, [], []),
  (12, .invokestatic 173, 3, 1, 0, .null, [(0, 156)], [1303, 1304, 63]),
  (15, .ifCond .eq 22, 3, 0, 37, .null, [], []),
  (18, .aload_n 0, 1, 0, 0, .null, [], []),
  (19, .aload_n 0, 1, 0, 0, .null, [], []),
  (20, .invokevirtual 192, 3, 0, 0, .null, [(12, 159)], [1327, 1329, 33, 63, 0, 0, 0, 0]),
  (23, .invokevirtual 176, 3, 1, 0, .null, [(12, 155)], [1306, 1308, 31, 63, 0, 0, 0, 0]),
  (26, .aload_n 0, 1, 0, 0, .null, [], []),
  (27, .invokevirtual 180, 3, 0, 0, .null, [(12, 154)], [1310, 1312, 32, 63, 0, 0, 0, 0]),
  (30, .iload_n 1, 1, 1, 0, .null, [], []),
  (31, .invokestatic 184, 3, 3, 0, .null, [(0, 126)], [1314, 1315, 63]),
  (34, .goto 6, 3, 0, 40, .null, [], []),
  (37, .ldc2_w 188, 3, 0, 0, .long (-102), [], [1317]),
  (40, .lreturn, 1, 0, 0, .null, [], [])]
def miX12_knows : ev_MI := (RX12, yX12_knows, cX12_knows, 2, (some .long), eiX12_knows, [1334])
def eiX12_greatestThen : List ev_E := [(0, .lconst 0, 1, 0, 0, .long (0), [], []),
  (1, .lstore_n 1, 1, 1, 0, .null, [], []),
  (2, .iconst 0, 1, 0, 0, .int (0), [], []),
  (3, .istore_n 3, 1, 3, 0, .null, [], []),
  (4, .iload_n 3, 1, 3, 0, .null, [], []),
  (5, .aload_n 0, 1, 0, 0, .null, [], []),
  (6, .invokevirtual 115, 3, 0, 0, .null, [(12, 133)], [1219, 1221, 21, 63, 0, 0, 0, 0]),
  (9, .if_icmp .ge 66, 3, 0, 75, .null, [], []),
  (12, .aload_n 0, 1, 0, 0, .null, [], []),
  (13, .getfield 17, 3, 5, 0, .null, [(12, 0)], [1055]),
  (16, .iconst 4, 1, 0, 0, .int (4), [], []),
  (17, .iload_n 3, 1, 3, 0, .null, [], []),
  (18, .imul, 1, 0, 0, .null, [], []),
  (19, .laload, 1, 0, 0, .null, [], []),
  (20, .aload_n 0, 1, 0, 0, .null, [], []),
  (21, .getfield 17, 3, 5, 0, .null, [(12, 0)], [1055]),
  (24, .iconst 4, 1, 0, 0, .int (4), [], []),
  (25, .iload_n 3, 1, 3, 0, .null, [], []),
  (26, .imul, 1, 0, 0, .null, [], []),
  (27, .iconst 1, 1, 0, 0, .int (1), [], []),
  (28, .iadd, 1, 0, 0, .null, [], []),
  (29, .laload, 1, 0, 0, .null, [], []),
  (30, .ladd, 1, 0, 0, .null, [], []),
  (31, .aload_n 0, 1, 0, 0, .null, [], []),
  (32, .getfield 17, 3, 5, 0, .null, [(12, 0)], [1055]),
  (35, .iconst 4, 1, 0, 0, .int (4), [], []),
  (36, .iload_n 3, 1, 3, 0, .null, [], []),
  (37, .imul, 1, 0, 0, .null, [], []),
  (38, .iconst 2, 1, 0, 0, .int (2), [], []),
  (39, .iadd, 1, 0, 0, .null, [], []),
  (40, .laload, 1, 0, 0, .null, [], []),
  (41, .ladd, 1, 0, 0, .null, [], []),
  (42, .aload_n 0, 1, 0, 0, .null, [], []),
  (43, .getfield 17, 3, 5, 0, .null, [(12, 0)], [1055]),
  (46, .iconst 4, 1, 0, 0, .int (4), [], []),
  (47, .iload_n 3, 1, 3, 0, .null, [], []),
  (48, .imul, 1, 0, 0, .null, [], []),
  (49, .iconst 3, 1, 0, 0, .int (3), [], []),
  (50, .iadd, 1, 0, 0, .null, [], []),
  (51, .laload, 1, 0, 0, .null, [], []),
  (52, .ladd, 1, 0, 0, .null, [], []),
  (53, .lstore 4, 2, 4, 0, .null, [], []),
  (55, .lload 4, 2, 4, 0, .null, [], []),
  (57, .lload_n 1, 1, 1, 0, .null, [], []),
  (58, .lcmp, 1, 0, 0, .null, [], []),
  (59, .ifCond .le 8, 3, 0, 67, .null, [], []),
  (62, .lload 4, 2, 4, 0, .null, [], []),
  (64, .goto 4, 3, 0, 68, .null, [], []),
  (67, .lload_n 1, 1, 1, 0, .null, [], []),
  (68, .lstore_n 1, 1, 1, 0, .null, [], []),
  (69, .iinc 3 1, 3, 3, 0, .int (1), [], []),
  (72, .goto (-68), 3, 0, 4, .null, [], []),
  (75, .lload_n 1, 1, 1, 0, .null, [], []),
  (76, .lreturn, 1, 0, 0, .null, [], [])]
def miX12_greatestThen : ev_MI := (RX12, yX12_greatestThen, cX12_greatestThen, 6, (some .long), eiX12_greatestThen, [1350])
def eiX12_expectedNow : List ev_E := [(0, .lconst 0, 1, 0, 0, .long (0), [], []),
  (1, .lstore 5, 2, 5, 0, .null, [], []),
  (3, .iconst 0, 1, 0, 0, .int (0), [], []),
  (4, .istore 7, 2, 7, 0, .null, [], []),
  (6, .iload 7, 2, 7, 0, .null, [], []),
  (8, .iconst 4, 1, 0, 0, .int (4), [], []),
  (9, .if_icmp .ge 60, 3, 0, 69, .null, [], []),
  (12, .iload_n 1, 1, 1, 0, .null, [], []),
  (13, .iconst 3, 1, 0, 0, .int (3), [], []),
  (14, .if_icmp .ne 15, 3, 0, 29, .null, [], []),
  (17, .aload_n 0, 1, 0, 0, .null, [], []),
  (18, .iload_n 3, 1, 3, 0, .null, [], []),
  (19, .iload 7, 2, 7, 0, .null, [], []),
  (21, .iload 4, 2, 4, 0, .null, [], []),
  (23, .invokevirtual 168, 3, 3, 0, .null, [(12, 152)], [1287, 1289, 29, 63, 0, 0, 0, 0]),
  (26, .goto 28, 3, 0, 54, .null, [], []),
  (29, .aload_n 0, 1, 0, 0, .null, [], []),
  (30, .iload_n 1, 1, 1, 0, .null, [], []),
  (31, .ifCond .ne 7, 3, 0, 38, .null, [], []),
  (34, .iconst 0, 1, 0, 0, .int (0), [], []),
  (35, .goto 13, 3, 0, 48, .null, [], []),
  (38, .iload_n 1, 1, 1, 0, .null, [], []),
  (39, .iconst 1, 1, 0, 0, .int (1), [], []),
  (40, .if_icmp .ne 7, 3, 0, 47, .null, [], []),
  (43, .iconst 3, 1, 0, 0, .int (3), [], []),
  (44, .goto 4, 3, 0, 48, .null, [], []),
  (47, .iconst 1, 1, 0, 0, .int (1), [], []),
  (48, .iload_n 2, 1, 2, 0, .null, [], []),
  (49, .iload 7, 2, 7, 0, .null, [], []),
  (51, .invokevirtual 158, 3, 3, 0, .null, [(12, 149)], [1264, 1266, 25, 63, 0, 0, 0, 0]),
  (54, .lload 5, 2, 5, 0, .null, [], []),
  (56, .aload_n 0, 1, 0, 0, .null, [], []),
  (57, .invokevirtual 195, 3, 0, 0, .null, [(12, 162)], [1347, 1349, 36, 63, 0, 0, 0, 0]),
  (60, .ladd, 1, 0, 0, .null, [], []),
  (61, .lstore 5, 2, 5, 0, .null, [], []),
  (63, .iinc 7 1, 3, 7, 0, .int (1), [], []),
  (66, .goto (-60), 3, 0, 6, .null, [], []),
  (69, .lload 5, 2, 5, 0, .null, [], []),
  (71, .lreturn, 1, 0, 0, .null, [], [])]
def miX12_expectedNow : ev_MI := (RX12, yX12_expectedNow, cX12_expectedNow, 8, (some .long), eiX12_expectedNow, [1346])
def eiX12_areMany : List ev_E := [(0, .aload_n 0, 1, 0, 0, .null, [], []),
  (1, .getfield 129, 3, 6, 0, .null, [(12, 0)], [1056]),
  (4, .bipush 7, 2, 0, 0, .int (7), [], []),
  (6, .if_icmp .le 7, 3, 0, 13, .null, [], []),
  (9, .iconst 1, 1, 0, 0, .int (1), [], []),
  (10, .goto 4, 3, 0, 14, .null, [], []),
  (13, .iconst 0, 1, 0, 0, .int (0), [], []),
  (14, .ireturn, 1, 0, 0, .null, [], [])]
def miX12_areMany : ev_MI := (RX12, yX12_areMany, cX12_areMany, 1, (some .boolean), eiX12_areMany, [1342])
def eiX12_expected : List ev_E := [(0, .aload_n 0, 1, 0, 0, .null, [], []),
  (1, .getfield 102, 3, 2, 0, .null, [(12, 0)], [1052]),
  (4, .ifCond .ne 7, 3, 0, 11, .null, [], []),
  (7, .ldc2_w 190, 3, 0, 0, .long (-103), [], [1322]),
  (10, .lreturn, 1, 0, 0, .null, [], []),
  (11, .iload_n 1, 1, 1, 0, .null, [], []),
  (12, .iconst 0, 1, 0, 0, .int (0), [], []),
  (13, .iconst 3, 1, 0, 0, .int (3), [], []),
  (14, .invokestatic 118, 3, 3, 0, .null, [(0, 123)], [1223, 1224, 63]),
  (17, .ifCond .eq 20, 3, 0, 37, .null, [], []),
  (20, .iload_n 2, 1, 2, 0, .null, [], []),
  (21, .iconst 0, 1, 0, 0, .int (0), [], []),
  (22, .iconst 5, 1, 0, 0, .int (5), [], []),
  (23, .invokestatic 118, 3, 3, 0, .null, [(0, 123)], [1223, 1224, 63]),
  (26, .ifCond .eq 11, 3, 0, 37, .null, [], []),
  (29, .iload 5, 2, 5, 0, .null, [], []),
  (31, .invokestatic 173, 3, 1, 0, .null, [(0, 156)], [1303, 1304, 63]),
  (34, .ifCond .ne 7, 3, 0, 41, .null, [], []),
  (37, .ldc2_w 188, 3, 0, 0, .long (-102), [], [1317]),
  (40, .lreturn, 1, 0, 0, .null, [], []),
  (41, .iload_n 1, 1, 1, 0, .null, [], []),
  (42, .iconst 3, 1, 0, 0, .int (3), [], []),
  (43, .if_icmp .ne 15, 3, 0, 58, .null, [], []),
  (46, .aload_n 0, 1, 0, 0, .null, [], []),
  (47, .iload_n 3, 1, 3, 0, .null, [], []),
  (48, .invokevirtual 126, 3, 1, 0, .null, [(12, 135)], [1211, 1213, 19, 63, 0, 0, 0, 0]),
  (51, .ifCond .ne 7, 3, 0, 58, .null, [], []),
  (54, .ldc2_w 171, 3, 0, 0, .long (-101), [], [1302]),
  (57, .lreturn, 1, 0, 0, .null, [], []),
  (58, .iload_n 1, 1, 1, 0, .null, [], []),
  (59, .iconst 3, 1, 0, 0, .int (3), [], []),
  (60, .if_icmp .ne 18, 3, 0, 78, .null, [], []),
  (63, .iload 4, 2, 4, 0, .null, [], []),
  (65, .iconst 0, 1, 0, 0, .int (0), [], []),
  (66, .bipush 10, 2, 0, 0, .int (10), [], []),
  (68, .invokestatic 118, 3, 3, 0, .null, [(0, 123)], [1223, 1224, 63]),
  (71, .ifCond .ne 7, 3, 0, 78, .null, [], []),
  (74, .ldc2_w 188, 3, 0, 0, .long (-102), [], [1317]),
  (77, .lreturn, 1, 0, 0, .null, [], []),
  (78, .aload_n 0, 1, 0, 0, .null, [], []),
  (79, .invokevirtual 198, 3, 0, 0, .null, [(12, 164)], [1339, 1341, 34, 63, 0, 0, 0, 0]),
  (82, .ifCond .eq 7, 3, 0, 89, .null, [], []),
  (85, .ldc2_w 190, 3, 0, 0, .long (-103), [], [1322]),
  (88, .lreturn, 1, 0, 0, .null, [], []),
  (89, .aload_n 0, 1, 0, 0, .null, [], []),
  (90, .iload_n 1, 1, 1, 0, .null, [], []),
  (91, .iload_n 2, 1, 2, 0, .null, [], []),
  (92, .iload_n 3, 1, 3, 0, .null, [], []),
  (93, .iload 4, 2, 4, 0, .null, [], []),
  (95, .invokevirtual 202, 3, 4, 0, .null, [(12, 163)], [1343, 1345, 35, 63, 0, 0, 0, 0]),
  (98, .iload_n 1, 1, 1, 0, .null, [], []),
  (99, .iconst 3, 1, 0, 0, .int (3), [], []),
  (100, .if_icmp .ne 9, 3, 0, 109, .null, [], []),
  (103, .ldc2_w 206, 3, 0, 0, .long (60), [], [1351]),
  (106, .goto 6, 3, 0, 112, .null, [], []),
  (109, .ldc2_w 208, 3, 0, 0, .long (10), [], [1352]),
  (112, .aload_n 0, 1, 0, 0, .null, [], []),
  (113, .invokevirtual 180, 3, 0, 0, .null, [(12, 154)], [1310, 1312, 32, 63, 0, 0, 0, 0]),
  (116, .lmul, 1, 0, 0, .null, [], []),
  (117, .iload 5, 2, 5, 0, .null, [], []),
  (119, .invokestatic 184, 3, 3, 0, .null, [(0, 126)], [1314, 1315, 63]),
  (122, .lreturn, 1, 0, 0, .null, [], [])]
def miX12_expected : ev_MI := (RX12, yX12_expected, cX12_expected, 6, (some .long), eiX12_expected, [1338])
def eiX12_next : List ev_E := [(0, .aload_n 0, 1, 0, 0, .null, [], []),
  (1, .getfield 102, 3, 2, 0, .null, [(12, 0)], [1052]),
  (4, .ifCond .ne 6, 3, 0, 10, .null, [], []),
  (7, .bipush (-103), 2, 0, 0, .int (-103), [], []),
  (9, .ireturn, 1, 0, 0, .null, [], []),
  (10, .iload_n 1, 1, 1, 0, .null, [], []),
  (11, .iconst 0, 1, 0, 0, .int (0), [], []),
  (12, .iconst 5, 1, 0, 0, .int (5), [], []),
  (13, .invokestatic 118, 3, 3, 0, .null, [(0, 123)], [1223, 1224, 63]),
  (16, .ifCond .ne 6, 3, 0, 22, .null, [], []),
  (19, .bipush (-102), 2, 0, 0, .int (-102), [], []),
  (21, .ireturn, 1, 0, 0, .null, [], []),
  (22, .aload_n 0, 1, 0, 0, .null, [], []),
  (23, .iload_n 2, 1, 2, 0, .null, [], []),
  (24, .invokevirtual 126, 3, 1, 0, .null, [(12, 135)], [1211, 1213, 19, 63, 0, 0, 0, 0]),
  (27, .ifCond .ne 6, 3, 0, 33, .null, [], []),
  (30, .bipush (-101), 2, 0, 0, .int (-101), [], []),
  (32, .ireturn, 1, 0, 0, .null, [], []),
  (33, .iload_n 3, 1, 3, 0, .null, [], []),
  (34, .iconst 0, 1, 0, 0, .int (0), [], []),
  (35, .bipush 10, 2, 0, 0, .int (10), [], []),
  (37, .invokestatic 118, 3, 3, 0, .null, [(0, 123)], [1223, 1224, 63]),
  (40, .ifCond .ne 6, 3, 0, 46, .null, [], []),
  (43, .bipush (-102), 2, 0, 0, .int (-102), [], []),
  (45, .ireturn, 1, 0, 0, .null, [], []),
  (46, .aload_n 0, 1, 0, 0, .null, [], []),
  (47, .invokevirtual 198, 3, 0, 0, .null, [(12, 164)], [1339, 1341, 34, 63, 0, 0, 0, 0]),
  (50, .ifCond .eq 6, 3, 0, 56, .null, [], []),
  (53, .bipush (-103), 2, 0, 0, .int (-103), [], []),
  (55, .ireturn, 1, 0, 0, .null, [], []),
  (56, .iconst (-1), 1, 0, 0, .int (-1), [], []),
  (57, .istore 4, 2, 4, 0, .null, [], []),
  (59, .lconst 0, 1, 0, 0, .long (0), [], []),
  (60, .lstore 5, 2, 5, 0, .null, [], []),
  (62, .iconst 0, 1, 0, 0, .int (0), [], []),
  (63, .istore 7, 2, 7, 0, .null, [], []),
  (65, .iload 7, 2, 7, 0, .null, [], []),
  (67, .iconst 4, 1, 0, 0, .int (4), [], []),
  (68, .if_icmp .ge 83, 3, 0, 151, .null, [], []),
  (71, .aload_n 0, 1, 0, 0, .null, [], []),
  (72, .iload 7, 2, 7, 0, .null, [], []),
  (74, .iload_n 1, 1, 1, 0, .null, [], []),
  (75, .iload_n 2, 1, 2, 0, .null, [], []),
  (76, .iload_n 3, 1, 3, 0, .null, [], []),
  (77, .invokevirtual 202, 3, 4, 0, .null, [(12, 163)], [1343, 1345, 35, 63, 0, 0, 0, 0]),
  (80, .iload 7, 2, 7, 0, .null, [], []),
  (82, .iconst 3, 1, 0, 0, .int (3), [], []),
  (83, .if_icmp .ne 7, 3, 0, 90, .null, [], []),
  (86, .lconst 1, 1, 0, 0, .long (1), [], []),
  (87, .goto 6, 3, 0, 93, .null, [], []),
  (90, .ldc2_w 210, 3, 0, 0, .long (6), [], [1357]),
  (93, .lmul, 1, 0, 0, .null, [], []),
  (94, .lstore 8, 2, 8, 0, .null, [], []),
  (96, .iload 4, 2, 4, 0, .null, [], []),
  (98, .iconst (-1), 1, 0, 0, .int (-1), [], []),
  (99, .if_icmp .eq 11, 3, 0, 110, .null, [], []),
  (102, .lload 8, 2, 8, 0, .null, [], []),
  (104, .lload 5, 2, 5, 0, .null, [], []),
  (106, .lcmp, 1, 0, 0, .null, [], []),
  (107, .ifCond .le 7, 3, 0, 114, .null, [], []),
  (110, .iconst 1, 1, 0, 0, .int (1), [], []),
  (111, .goto 4, 3, 0, 115, .null, [], []),
  (114, .iconst 0, 1, 0, 0, .int (0), [], []),
  (115, .istore 10, 2, 10, 0, .null, [], []),
  (117, .iload 10, 2, 10, 0, .null, [], []),
  (119, .ifCond .eq 8, 3, 0, 127, .null, [], []),
  (122, .iload 7, 2, 7, 0, .null, [], []),
  (124, .goto 5, 3, 0, 129, .null, [], []),
  (127, .iload 4, 2, 4, 0, .null, [], []),
  (129, .istore 4, 2, 4, 0, .null, [], []),
  (131, .iload 10, 2, 10, 0, .null, [], []),
  (133, .ifCond .eq 8, 3, 0, 141, .null, [], []),
  (136, .lload 8, 2, 8, 0, .null, [], []),
  (138, .goto 5, 3, 0, 143, .null, [], []),
  (141, .lload 5, 2, 5, 0, .null, [], []),
  (143, .lstore 5, 2, 5, 0, .null, [], []),
  (145, .iinc 7 1, 3, 7, 0, .int (1), [], []),
  (148, .goto (-83), 3, 0, 65, .null, [], []),
  (151, .iload 4, 2, 4, 0, .null, [], []),
  (153, .ireturn, 1, 0, 0, .null, [], [])]
def miX12_next : ev_MI := (RX12, yX12_next, cX12_next, 11, (some .int), eiX12_next, [1356])
def eiX12_post : List ev_E := [(0, .aload_n 0, 1, 0, 0, .null, [], []),
  (1, .iload_n 1, 1, 1, 0, .null, [], []),
  (2, .invokevirtual 122, 3, 1, 0, .null, [(12, 134)], [1215, 1217, 20, 63, 0, 0, 0, 0]),
  (5, .ifCond .eq 13, 3, 0, 18, .null, [], []),
  (8, .aload_n 0, 1, 0, 0, .null, [], []),
  (9, .getfield 7, 3, 3, 0, .null, [(12, 0)], [1053]),
  (12, .iload_n 1, 1, 1, 0, .null, [], []),
  (13, .iaload, 1, 0, 0, .null, [], []),
  (14, .iconst 2, 1, 0, 0, .int (2), [], []),
  (15, .if_icmp .eq 7, 3, 0, 22, .null, [], []),
  (18, .ldc2_w 212, 3, 0, 0, .long (-1000000000000000001), [], [1362]),
  (21, .lreturn, 1, 0, 0, .null, [], []),
  (22, .iload_n 2, 1, 2, 0, .null, [], []),
  (23, .iconst 0, 1, 0, 0, .int (0), [], []),
  (24, .iconst 5, 1, 0, 0, .int (5), [], []),
  (25, .invokestatic 118, 3, 3, 0, .null, [(0, 123)], [1223, 1224, 63]),
  (28, .ifCond .eq 10, 3, 0, 38, .null, [], []),
  (31, .iload_n 3, 1, 3, 0, .null, [], []),
  (32, .invokestatic 173, 3, 1, 0, .null, [(0, 156)], [1303, 1304, 63]),
  (35, .ifCond .ne 7, 3, 0, 42, .null, [], []),
  (38, .ldc2_w 214, 3, 0, 0, .long (-1000000000000000002), [], [1363]),
  (41, .lreturn, 1, 0, 0, .null, [], []),
  (42, .aload_n 0, 1, 0, 0, .null, [], []),
  (43, .invokevirtual 198, 3, 0, 0, .null, [(12, 164)], [1339, 1341, 34, 63, 0, 0, 0, 0]),
  (46, .ifCond .eq 7, 3, 0, 53, .null, [], []),
  (49, .ldc2_w 216, 3, 0, 0, .long (-1000000000000000003), [], [1364]),
  (52, .lreturn, 1, 0, 0, .null, [], []),
  (53, .aload_n 0, 1, 0, 0, .null, [], []),
  (54, .iconst 0, 1, 0, 0, .int (0), [], []),
  (55, .iload_n 2, 1, 2, 0, .null, [], []),
  (56, .iconst 0, 1, 0, 0, .int (0), [], []),
  (57, .iconst 0, 1, 0, 0, .int (0), [], []),
  (58, .invokevirtual 202, 3, 4, 0, .null, [(12, 163)], [1343, 1345, 35, 63, 0, 0, 0, 0]),
  (61, .lstore 4, 2, 4, 0, .null, [], []),
  (63, .aload_n 0, 1, 0, 0, .null, [], []),
  (64, .iload_n 1, 1, 1, 0, .null, [], []),
  (65, .putfield 61, 3, 36, 0, .null, [(12, 0)], [1086]),
  (68, .aload_n 0, 1, 0, 0, .null, [], []),
  (69, .iconst 0, 1, 0, 0, .int (0), [], []),
  (70, .iload_n 2, 1, 2, 0, .null, [], []),
  (71, .iconst 0, 1, 0, 0, .int (0), [], []),
  (72, .iconst 0, 1, 0, 0, .int (0), [], []),
  (73, .invokevirtual 202, 3, 4, 0, .null, [(12, 163)], [1343, 1345, 35, 63, 0, 0, 0, 0]),
  (76, .lstore 6, 2, 6, 0, .null, [], []),
  (78, .aload_n 0, 1, 0, 0, .null, [], []),
  (79, .iconst (-1), 1, 0, 0, .int (-1), [], []),
  (80, .putfield 61, 3, 36, 0, .null, [(12, 0)], [1086]),
  (83, .lload 4, 2, 4, 0, .null, [], []),
  (85, .lload 6, 2, 6, 0, .null, [], []),
  (87, .lsub, 1, 0, 0, .null, [], []),
  (88, .ldc2_w 208, 3, 0, 0, .long (10), [], [1352]),
  (91, .aload_n 0, 1, 0, 0, .null, [], []),
  (92, .invokevirtual 180, 3, 0, 0, .null, [(12, 154)], [1310, 1312, 32, 63, 0, 0, 0, 0]),
  (95, .lmul, 1, 0, 0, .null, [], []),
  (96, .iload_n 3, 1, 3, 0, .null, [], []),
  (97, .invokestatic 184, 3, 3, 0, .null, [(0, 126)], [1314, 1315, 63]),
  (100, .lreturn, 1, 0, 0, .null, [], [])]
def miX12_post : ev_MI := (RX12, yX12_post, cX12_post, 8, (some .long), eiX12_post, [1361])
def eiX12_isPlayer : List ev_E := [(0, .iload_n 1, 1, 1, 0, .null, [], []),
  (1, .iconst 0, 1, 0, 0, .int (0), [], []),
  (2, .aload_n 0, 1, 0, 0, .null, [], []),
  (3, .getfield 105, 3, 7, 0, .null, [(12, 0)], [1057]),
  (6, .iconst 1, 1, 0, 0, .int (1), [], []),
  (7, .isub, 1, 0, 0, .null, [], []),
  (8, .invokestatic 118, 3, 3, 0, .null, [(0, 123)], [1223, 1224, 63]),
  (11, .ireturn, 1, 0, 0, .null, [], [])]
def miX12_isPlayer : ev_MI := (RX12, yX12_isPlayer, cX12_isPlayer, 2, (some .boolean), eiX12_isPlayer, [1376])
def eiX12_player : List ev_E := [(0, .iload_n 1, 1, 1, 0, .null, [], []),
  (1, .iconst 0, 1, 0, 0, .int (0), [], []),
  (2, .iconst 5, 1, 0, 0, .int (5), [], []),
  (3, .invokestatic 118, 3, 3, 0, .null, [(0, 123)], [1223, 1224, 63]),
  (6, .ifCond .ne 6, 3, 0, 12, .null, [], []),
  (9, .bipush (-102), 2, 0, 0, .int (-102), [], []),
  (11, .ireturn, 1, 0, 0, .null, [], []),
  (12, .aload_n 0, 1, 0, 0, .null, [], []),
  (13, .iload_n 2, 1, 2, 0, .null, [], []),
  (14, .invokevirtual 126, 3, 1, 0, .null, [(12, 135)], [1211, 1213, 19, 63, 0, 0, 0, 0]),
  (17, .ifCond .ne 6, 3, 0, 23, .null, [], []),
  (20, .bipush (-101), 2, 0, 0, .int (-101), [], []),
  (22, .ireturn, 1, 0, 0, .null, [], []),
  (23, .iload_n 3, 1, 3, 0, .null, [], []),
  (24, .iconst 0, 1, 0, 0, .int (0), [], []),
  (25, .bipush 9, 2, 0, 0, .int (9), [], []),
  (27, .invokestatic 118, 3, 3, 0, .null, [(0, 123)], [1223, 1224, 63]),
  (30, .ifCond .eq 23, 3, 0, 53, .null, [], []),
  (33, .iload 4, 2, 4, 0, .null, [], []),
  (35, .iconst 0, 1, 0, 0, .int (0), [], []),
  (36, .iconst 4, 1, 0, 0, .int (4), [], []),
  (37, .invokestatic 118, 3, 3, 0, .null, [(0, 123)], [1223, 1224, 63]),
  (40, .ifCond .eq 13, 3, 0, 53, .null, [], []),
  (43, .iload 5, 2, 5, 0, .null, [], []),
  (45, .iconst 0, 1, 0, 0, .int (0), [], []),
  (46, .iconst 4, 1, 0, 0, .int (4), [], []),
  (47, .invokestatic 118, 3, 3, 0, .null, [(0, 123)], [1223, 1224, 63]),
  (50, .ifCond .ne 6, 3, 0, 56, .null, [], []),
  (53, .bipush (-102), 2, 0, 0, .int (-102), [], []),
  (55, .ireturn, 1, 0, 0, .null, [], []),
  (56, .aload_n 0, 1, 0, 0, .null, [], []),
  (57, .getfield 105, 3, 7, 0, .null, [(12, 0)], [1057]),
  (60, .bipush 6, 2, 0, 0, .int (6), [], []),
  (62, .if_icmp .ne 6, 3, 0, 68, .null, [], []),
  (65, .bipush (-104), 2, 0, 0, .int (-104), [], []),
  (67, .ireturn, 1, 0, 0, .null, [], []),
  (68, .aload_n 0, 1, 0, 0, .null, [], []),
  (69, .getfield 20, 3, 8, 0, .null, [(12, 0)], [1058]),
  (72, .aload_n 0, 1, 0, 0, .null, [], []),
  (73, .getfield 105, 3, 7, 0, .null, [(12, 0)], [1057]),
  (76, .iload_n 1, 1, 1, 0, .null, [], []),
  (77, .iastore, 1, 0, 0, .null, [], []),
  (78, .aload_n 0, 1, 0, 0, .null, [], []),
  (79, .getfield 23, 3, 9, 0, .null, [(12, 0)], [1059]),
  (82, .aload_n 0, 1, 0, 0, .null, [], []),
  (83, .getfield 105, 3, 7, 0, .null, [(12, 0)], [1057]),
  (86, .iload_n 2, 1, 2, 0, .null, [], []),
  (87, .iastore, 1, 0, 0, .null, [], []),
  (88, .aload_n 0, 1, 0, 0, .null, [], []),
  (89, .getfield 26, 3, 10, 0, .null, [(12, 0)], [1060]),
  (92, .aload_n 0, 1, 0, 0, .null, [], []),
  (93, .getfield 105, 3, 7, 0, .null, [(12, 0)], [1057]),
  (96, .iload_n 3, 1, 3, 0, .null, [], []),
  (97, .iastore, 1, 0, 0, .null, [], []),
  (98, .aload_n 0, 1, 0, 0, .null, [], []),
  (99, .getfield 29, 3, 11, 0, .null, [(12, 0)], [1061]),
  (102, .aload_n 0, 1, 0, 0, .null, [], []),
  (103, .getfield 105, 3, 7, 0, .null, [(12, 0)], [1057]),
  (106, .iload 4, 2, 4, 0, .null, [], []),
  (108, .iastore, 1, 0, 0, .null, [], []),
  (109, .aload_n 0, 1, 0, 0, .null, [], []),
  (110, .getfield 32, 3, 12, 0, .null, [(12, 0)], [1062]),
  (113, .aload_n 0, 1, 0, 0, .null, [], []),
  (114, .getfield 105, 3, 7, 0, .null, [(12, 0)], [1057]),
  (117, .iload 5, 2, 5, 0, .null, [], []),
  (119, .iastore, 1, 0, 0, .null, [], []),
  (120, .aload_n 0, 1, 0, 0, .null, [], []),
  (121, .dup, 1, 0, 0, .null, [], []),
  (122, .getfield 105, 3, 7, 0, .null, [(12, 0)], [1057]),
  (125, .iconst 1, 1, 0, 0, .int (1), [], []),
  (126, .iadd, 1, 0, 0, .null, [], []),
  (127, .putfield 105, 3, 7, 0, .null, [(12, 0)], [1057]),
  (130, .aload_n 0, 1, 0, 0, .null, [], []),
  (131, .getfield 105, 3, 7, 0, .null, [(12, 0)], [1057]),
  (134, .iconst 1, 1, 0, 0, .int (1), [], []),
  (135, .isub, 1, 0, 0, .null, [], []),
  (136, .ireturn, 1, 0, 0, .null, [], [])]
def miX12_player : ev_MI := (RX12, yX12_player, cX12_player, 6, (some .int), eiX12_player, [1368])
def eiX12_as : List ev_E := [(0, .aload_n 0, 1, 0, 0, .null, [], []),
  (1, .iload_n 1, 1, 1, 0, .null, [], []),
  (2, .invokevirtual 218, 3, 1, 0, .null, [(12, 168)], [1373, 1375, 37, 63, 0, 0, 0, 0]),
  (5, .ifCond .ne 6, 3, 0, 11, .null, [], []),
  (8, .bipush (-101), 2, 0, 0, .int (-101), [], []),
  (10, .ireturn, 1, 0, 0, .null, [], []),
  (11, .iload_n 2, 1, 2, 0, .null, [], []),
  (12, .iconst 0, 1, 0, 0, .int (0), [], []),
  (13, .iconst 5, 1, 0, 0, .int (5), [], []),
  (14, .invokestatic 118, 3, 3, 0, .null, [(0, 123)], [1223, 1224, 63]),
  (17, .ifCond .ne 6, 3, 0, 23, .null, [], []),
  (20, .bipush (-102), 2, 0, 0, .int (-102), [], []),
  (22, .ireturn, 1, 0, 0, .null, [], []),
  (23, .aload_n 0, 1, 0, 0, .null, [], []),
  (24, .getfield 20, 3, 8, 0, .null, [(12, 0)], [1058]),
  (27, .iload_n 1, 1, 1, 0, .null, [], []),
  (28, .iaload, 1, 0, 0, .null, [], []),
  (29, .istore_n 3, 1, 3, 0, .null, [], []),
  (30, .iload_n 2, 1, 2, 0, .null, [], []),
  (31, .ifCond .eq 28, 3, 0, 59, .null, [], []),
  (34, .iload_n 3, 1, 3, 0, .null, [], []),
  (35, .iload_n 2, 1, 2, 0, .null, [], []),
  (36, .if_icmp .eq 23, 3, 0, 59, .null, [], []),
  (39, .iload_n 2, 1, 2, 0, .null, [], []),
  (40, .iconst 1, 1, 0, 0, .int (1), [], []),
  (41, .if_icmp .ne 8, 3, 0, 49, .null, [], []),
  (44, .iload_n 3, 1, 3, 0, .null, [], []),
  (45, .iconst 2, 1, 0, 0, .int (2), [], []),
  (46, .if_icmp .eq 13, 3, 0, 59, .null, [], []),
  (49, .iload_n 2, 1, 2, 0, .null, [], []),
  (50, .iconst 3, 1, 0, 0, .int (3), [], []),
  (51, .if_icmp .ne 12, 3, 0, 63, .null, [], []),
  (54, .iload_n 3, 1, 3, 0, .null, [], []),
  (55, .iconst 4, 1, 0, 0, .int (4), [], []),
  (56, .if_icmp .ne 7, 3, 0, 63, .null, [], []),
  (59, .iload_n 1, 1, 1, 0, .null, [], []),
  (60, .goto 4, 3, 0, 64, .null, [], []),
  (63, .iconst (-1), 1, 0, 0, .int (-1), [], []),
  (64, .ireturn, 1, 0, 0, .null, [], [])]
def miX12_as : ev_MI := (RX12, yX12_as, cX12_as, 4, (some .int), eiX12_as, [1372])
def eiX12_playerTold : List ev_E := [(0, .iload_n 2, 1, 2, 0, .null, [], []),
  (1, .tableswitch 59 0 3 #[31, 38, 45, 52], 31, 0, 60, .null, [(0, 32), (1, 39), (2, 46), (3, 53)], []),
  (32, .aload_n 0, 1, 0, 0, .null, [], []),
  (33, .getfield 20, 3, 8, 0, .null, [(12, 0)], [1058]),
  (36, .iload_n 1, 1, 1, 0, .null, [], []),
  (37, .iaload, 1, 0, 0, .null, [], []),
  (38, .ireturn, 1, 0, 0, .null, [], []),
  (39, .aload_n 0, 1, 0, 0, .null, [], []),
  (40, .getfield 23, 3, 9, 0, .null, [(12, 0)], [1059]),
  (43, .iload_n 1, 1, 1, 0, .null, [], []),
  (44, .iaload, 1, 0, 0, .null, [], []),
  (45, .ireturn, 1, 0, 0, .null, [], []),
  (46, .aload_n 0, 1, 0, 0, .null, [], []),
  (47, .getfield 26, 3, 10, 0, .null, [(12, 0)], [1060]),
  (50, .iload_n 1, 1, 1, 0, .null, [], []),
  (51, .iaload, 1, 0, 0, .null, [], []),
  (52, .ireturn, 1, 0, 0, .null, [], []),
  (53, .aload_n 0, 1, 0, 0, .null, [], []),
  (54, .getfield 29, 3, 11, 0, .null, [(12, 0)], [1061]),
  (57, .iload_n 1, 1, 1, 0, .null, [], []),
  (58, .iaload, 1, 0, 0, .null, [], []),
  (59, .ireturn, 1, 0, 0, .null, [], []),
  (60, .aload_n 0, 1, 0, 0, .null, [], []),
  (61, .getfield 32, 3, 12, 0, .null, [(12, 0)], [1062]),
  (64, .iload_n 1, 1, 1, 0, .null, [], []),
  (65, .iaload, 1, 0, 0, .null, [], []),
  (66, .ireturn, 1, 0, 0, .null, [], [])]
def miX12_playerTold : ev_MI := (RX12, yX12_playerTold, cX12_playerTold, 3, (some .int), eiX12_playerTold, [1384])
def eiX12_about : List ev_E := [(0, .aload_n 0, 1, 0, 0, .null, [], []),
  (1, .iload_n 1, 1, 1, 0, .null, [], []),
  (2, .invokevirtual 218, 3, 1, 0, .null, [(12, 168)], [1373, 1375, 37, 63, 0, 0, 0, 0]),
  (5, .ifCond .ne 8, 3, 0, 13, .null, [], []),
  (8, .bipush (-101), 2, 0, 0, .int (-101), [], []),
  (10, .goto 23, 3, 0, 33, .null, [], []),
  (13, .iload_n 2, 1, 2, 0, .null, [], []),
  (14, .iconst 0, 1, 0, 0, .int (0), [], []),
  (15, .iconst 4, 1, 0, 0, .int (4), [], []),
  (16, .invokestatic 118, 3, 3, 0, .null, [(0, 123)], [1223, 1224, 63]),
  (19, .ifCond .eq 12, 3, 0, 31, .null, [], []),
  (22, .aload_n 0, 1, 0, 0, .null, [], []),
  (23, .iload_n 1, 1, 1, 0, .null, [], []),
  (24, .iload_n 2, 1, 2, 0, .null, [], []),
  (25, .invokevirtual 221, 3, 2, 0, .null, [(12, 171)], [1381, 1383, 38, 63, 0, 0, 0, 0]),
  (28, .goto 5, 3, 0, 33, .null, [], []),
  (31, .bipush (-102), 2, 0, 0, .int (-102), [], []),
  (33, .ireturn, 1, 0, 0, .null, [], [])]
def miX12_about : ev_MI := (RX12, yX12_about, cX12_about, 3, (some .int), eiX12_about, [1380])
def eiX12_move : List ev_E := [(0, .aload_n 0, 1, 0, 0, .null, [], []),
  (1, .iload_n 1, 1, 1, 0, .null, [], []),
  (2, .invokevirtual 218, 3, 1, 0, .null, [(12, 168)], [1373, 1375, 37, 63, 0, 0, 0, 0]),
  (5, .ifCond .eq 11, 3, 0, 16, .null, [], []),
  (8, .aload_n 0, 1, 0, 0, .null, [], []),
  (9, .iload_n 2, 1, 2, 0, .null, [], []),
  (10, .invokevirtual 126, 3, 1, 0, .null, [(12, 135)], [1211, 1213, 19, 63, 0, 0, 0, 0]),
  (13, .ifCond .ne 6, 3, 0, 19, .null, [], []),
  (16, .bipush (-101), 2, 0, 0, .int (-101), [], []),
  (18, .ireturn, 1, 0, 0, .null, [], []),
  (19, .aload_n 0, 1, 0, 0, .null, [], []),
  (20, .getfield 23, 3, 9, 0, .null, [(12, 0)], [1059]),
  (23, .iload_n 1, 1, 1, 0, .null, [], []),
  (24, .iaload, 1, 0, 0, .null, [], []),
  (25, .istore_n 3, 1, 3, 0, .null, [], []),
  (26, .aload_n 0, 1, 0, 0, .null, [], []),
  (27, .getfield 23, 3, 9, 0, .null, [(12, 0)], [1059]),
  (30, .iload_n 1, 1, 1, 0, .null, [], []),
  (31, .iload_n 2, 1, 2, 0, .null, [], []),
  (32, .iastore, 1, 0, 0, .null, [], []),
  (33, .iload_n 3, 1, 3, 0, .null, [], []),
  (34, .ireturn, 1, 0, 0, .null, [], [])]
def miX12_move : ev_MI := (RX12, yX12_move, cX12_move, 4, (some .int), eiX12_move, [1388])
def eiX12_draw : List ev_E := [(0, .aload_n 0, 1, 0, 0, .null, [], []),
  (1, .ldc2_w 224, 3, 0, 0, .long (1103515245), [], [1425]),
  (4, .aload_n 0, 1, 0, 0, .null, [], []),
  (5, .getfield 226, 3, 39, 0, .null, [(12, 0)], [1089]),
  (8, .lmul, 1, 0, 0, .null, [], []),
  (9, .ldc2_w 230, 3, 0, 0, .long (12345), [], [1426]),
  (12, .ladd, 1, 0, 0, .null, [], []),
  (13, .ldc2_w 232, 3, 0, 0, .long (2147483647), [], [1427]),
  (16, .land, 1, 0, 0, .null, [], []),
  (17, .putfield 226, 3, 39, 1, .null, [(12, 0)], [1089]),
  (20, .aload_n 0, 1, 0, 0, .null, [], []),
  (21, .getfield 226, 3, 39, 0, .null, [(12, 0)], [1089]),
  (24, .ldc2_w 234, 3, 0, 0, .long (65536), [], [1428]),
  (27, .ldiv, 1, 0, 0, .null, [], []),
  (28, .iload_n 1, 1, 1, 0, .null, [], []),
  (29, .i2l, 1, 0, 0, .null, [], []),
  (30, .lrem, 1, 0, 0, .null, [], []),
  (31, .l2i, 1, 0, 0, .null, [], []),
  (32, .ireturn, 1, 0, 0, .null, [], [])]
def miX12_draw : ev_MI := (RX12, yX12_draw, cX12_draw, 2, (some .int), eiX12_draw, [1424])
def eiX12_far : List ev_E := [(0, .iload_n 1, 1, 1, 0, .null, [], []),
  (1, .aload_n 0, 1, 0, 0, .null, [], []),
  (2, .getfield 99, 3, 1, 0, .null, [(12, 0)], [1051]),
  (5, .idiv, 1, 0, 0, .null, [], []),
  (6, .iload_n 2, 1, 2, 0, .null, [], []),
  (7, .isub, 1, 0, 0, .null, [], []),
  (8, .invokestatic 162, 3, 1, 0, .null, [(0, 124)], [1295, 1296, 63]),
  (11, .iload_n 1, 1, 1, 0, .null, [], []),
  (12, .aload_n 0, 1, 0, 0, .null, [], []),
  (13, .getfield 99, 3, 1, 0, .null, [(12, 0)], [1051]),
  (16, .irem, 1, 0, 0, .null, [], []),
  (17, .iload_n 3, 1, 3, 0, .null, [], []),
  (18, .isub, 1, 0, 0, .null, [], []),
  (19, .invokestatic 162, 3, 1, 0, .null, [(0, 124)], [1295, 1296, 63]),
  (22, .iadd, 1, 0, 0, .null, [], []),
  (23, .ireturn, 1, 0, 0, .null, [], [])]
def miX12_far : ev_MI := (RX12, yX12_far, cX12_far, 4, (some .int), eiX12_far, [1408])
def eiX12_goes : List ev_E := [(0, .iload_n 1, 1, 1, 0, .null, [], []),
  (1, .istore 5, 2, 5, 0, .null, [], []),
  (3, .iconst 0, 1, 0, 0, .int (0), [], []),
  (4, .istore 6, 2, 6, 0, .null, [], []),
  (6, .iload 6, 2, 6, 0, .null, [], []),
  (8, .iconst 4, 1, 0, 0, .int (4), [], []),
  (9, .if_icmp .ge 94, 3, 0, 103, .null, [], []),
  (12, .aload_n 0, 1, 0, 0, .null, [], []),
  (13, .iload_n 1, 1, 1, 0, .null, [], []),
  (14, .iload 6, 2, 6, 0, .null, [], []),
  (16, .invokevirtual 144, 3, 2, 0, .null, [(12, 137)], [1272, 1274, 27, 63, 0, 0, 0, 0]),
  (19, .istore 7, 2, 7, 0, .null, [], []),
  (21, .iload 7, 2, 7, 0, .null, [], []),
  (23, .iconst (-1), 1, 0, 0, .int (-1), [], []),
  (24, .if_icmp .ne 7, 3, 0, 31, .null, [], []),
  (27, .iconst 0, 1, 0, 0, .int (0), [], []),
  (28, .goto 11, 3, 0, 39, .null, [], []),
  (31, .aload_n 0, 1, 0, 0, .null, [], []),
  (32, .iload 7, 2, 7, 0, .null, [], []),
  (34, .iload_n 2, 1, 2, 0, .null, [], []),
  (35, .iload_n 3, 1, 3, 0, .null, [], []),
  (36, .invokevirtual 236, 3, 3, 0, .null, [(12, 175)], [1405, 1407, 42, 63, 0, 0, 0, 0]),
  (39, .istore 8, 2, 8, 0, .null, [], []),
  (41, .aload_n 0, 1, 0, 0, .null, [], []),
  (42, .iload 5, 2, 5, 0, .null, [], []),
  (44, .iload_n 2, 1, 2, 0, .null, [], []),
  (45, .iload_n 3, 1, 3, 0, .null, [], []),
  (46, .invokevirtual 236, 3, 3, 0, .null, [(12, 175)], [1405, 1407, 42, 63, 0, 0, 0, 0]),
  (49, .istore 9, 2, 9, 0, .null, [], []),
  (51, .iload 7, 2, 7, 0, .null, [], []),
  (53, .iconst (-1), 1, 0, 0, .int (-1), [], []),
  (54, .if_icmp .eq 39, 3, 0, 93, .null, [], []),
  (57, .aload_n 0, 1, 0, 0, .null, [], []),
  (58, .iload 7, 2, 7, 0, .null, [], []),
  (60, .invokevirtual 126, 3, 1, 0, .null, [(12, 135)], [1211, 1213, 19, 63, 0, 0, 0, 0]),
  (63, .ifCond .eq 30, 3, 0, 93, .null, [], []),
  (66, .iload 4, 2, 4, 0, .null, [], []),
  (68, .ifCond .eq 13, 3, 0, 81, .null, [], []),
  (71, .iload 8, 2, 8, 0, .null, [], []),
  (73, .iload 9, 2, 9, 0, .null, [], []),
  (75, .if_icmp .le 18, 3, 0, 93, .null, [], []),
  (78, .goto 10, 3, 0, 88, .null, [], []),
  (81, .iload 8, 2, 8, 0, .null, [], []),
  (83, .iload 9, 2, 9, 0, .null, [], []),
  (85, .if_icmp .ge 8, 3, 0, 93, .null, [], []),
  (88, .iload 7, 2, 7, 0, .null, [], []),
  (90, .goto 5, 3, 0, 95, .null, [], []),
  (93, .iload 5, 2, 5, 0, .null, [], []),
  (95, .istore 5, 2, 5, 0, .null, [], []),
  (97, .iinc 6 1, 3, 6, 0, .int (1), [], []),
  (100, .goto (-94), 3, 0, 6, .null, [], []),
  (103, .iload 5, 2, 5, 0, .null, [], []),
  (105, .ireturn, 1, 0, 0, .null, [], [])]
def miX12_goes : ev_MI := (RX12, yX12_goes, cX12_goes, 10, (some .int), eiX12_goes, [1404])
def eiX12_goPlayers : List ev_E := [(0, .aload_n 0, 1, 0, 0, .null, [], []),
  (1, .getfield 240, 3, 37, 0, .null, [(12, 0)], [1087]),
  (4, .aload_n 0, 1, 0, 0, .null, [], []),
  (5, .getfield 99, 3, 1, 0, .null, [(12, 0)], [1051]),
  (8, .idiv, 1, 0, 0, .null, [], []),
  (9, .istore_n 1, 1, 1, 0, .null, [], []),
  (10, .aload_n 0, 1, 0, 0, .null, [], []),
  (11, .getfield 240, 3, 37, 0, .null, [(12, 0)], [1087]),
  (14, .aload_n 0, 1, 0, 0, .null, [], []),
  (15, .getfield 99, 3, 1, 0, .null, [(12, 0)], [1051]),
  (18, .irem, 1, 0, 0, .null, [], []),
  (19, .istore_n 2, 1, 2, 0, .null, [], []),
  (20, .iload_n 1, 1, 1, 0, .null, [], []),
  (21, .aload_n 0, 1, 0, 0, .null, [], []),
  (22, .getfield 243, 3, 38, 0, .null, [(12, 0)], [1088]),
  (25, .ifCond .ne 7, 3, 0, 32, .null, [], []),
  (28, .iconst 1, 1, 0, 0, .int (1), [], []),
  (29, .goto 16, 3, 0, 45, .null, [], []),
  (32, .aload_n 0, 1, 0, 0, .null, [], []),
  (33, .getfield 243, 3, 38, 0, .null, [(12, 0)], [1088]),
  (36, .iconst 2, 1, 0, 0, .int (2), [], []),
  (37, .if_icmp .ne 7, 3, 0, 44, .null, [], []),
  (40, .iconst (-1), 1, 0, 0, .int (-1), [], []),
  (41, .goto 4, 3, 0, 45, .null, [], []),
  (44, .iconst 0, 1, 0, 0, .int (0), [], []),
  (45, .iadd, 1, 0, 0, .null, [], []),
  (46, .istore_n 3, 1, 3, 0, .null, [], []),
  (47, .iload_n 2, 1, 2, 0, .null, [], []),
  (48, .aload_n 0, 1, 0, 0, .null, [], []),
  (49, .getfield 243, 3, 38, 0, .null, [(12, 0)], [1088]),
  (52, .iconst 1, 1, 0, 0, .int (1), [], []),
  (53, .if_icmp .ne 7, 3, 0, 60, .null, [], []),
  (56, .iconst (-1), 1, 0, 0, .int (-1), [], []),
  (57, .goto 16, 3, 0, 73, .null, [], []),
  (60, .aload_n 0, 1, 0, 0, .null, [], []),
  (61, .getfield 243, 3, 38, 0, .null, [(12, 0)], [1088]),
  (64, .iconst 3, 1, 0, 0, .int (3), [], []),
  (65, .if_icmp .ne 7, 3, 0, 72, .null, [], []),
  (68, .iconst 1, 1, 0, 0, .int (1), [], []),
  (69, .goto 4, 3, 0, 73, .null, [], []),
  (72, .iconst 0, 1, 0, 0, .int (0), [], []),
  (73, .iadd, 1, 0, 0, .null, [], []),
  (74, .istore 4, 2, 4, 0, .null, [], []),
  (76, .iconst 0, 1, 0, 0, .int (0), [], []),
  (77, .istore 5, 2, 5, 0, .null, [], []),
  (79, .iload 5, 2, 5, 0, .null, [], []),
  (81, .aload_n 0, 1, 0, 0, .null, [], []),
  (82, .getfield 105, 3, 7, 0, .null, [(12, 0)], [1057]),
  (85, .if_icmp .ge 88, 3, 0, 173, .null, [], []),
  (88, .aload_n 0, 1, 0, 0, .null, [], []),
  (89, .getfield 20, 3, 8, 0, .null, [(12, 0)], [1058]),
  (92, .iload 5, 2, 5, 0, .null, [], []),
  (94, .iaload, 1, 0, 0, .null, [], []),
  (95, .iconst 1, 1, 0, 0, .int (1), [], []),
  (96, .if_icmp .eq 14, 3, 0, 110, .null, [], []),
  (99, .aload_n 0, 1, 0, 0, .null, [], []),
  (100, .getfield 20, 3, 8, 0, .null, [(12, 0)], [1058]),
  (103, .iload 5, 2, 5, 0, .null, [], []),
  (105, .iaload, 1, 0, 0, .null, [], []),
  (106, .iconst 2, 1, 0, 0, .int (2), [], []),
  (107, .if_icmp .ne 27, 3, 0, 134, .null, [], []),
  (110, .aload_n 0, 1, 0, 0, .null, [], []),
  (111, .getfield 64, 3, 40, 0, .null, [(12, 0)], [1090]),
  (114, .iload 5, 2, 5, 0, .null, [], []),
  (116, .aload_n 0, 1, 0, 0, .null, [], []),
  (117, .aload_n 0, 1, 0, 0, .null, [], []),
  (118, .getfield 64, 3, 40, 0, .null, [(12, 0)], [1090]),
  (121, .iload 5, 2, 5, 0, .null, [], []),
  (123, .iaload, 1, 0, 0, .null, [], []),
  (124, .iload_n 1, 1, 1, 0, .null, [], []),
  (125, .iload_n 2, 1, 2, 0, .null, [], []),
  (126, .iconst 1, 1, 0, 0, .int (1), [], []),
  (127, .invokevirtual 246, 3, 4, 0, .null, [(12, 176)], [1401, 1403, 41, 63, 0, 0, 0, 0]),
  (130, .iastore, 1, 0, 0, .null, [], []),
  (131, .goto 36, 3, 0, 167, .null, [], []),
  (134, .aload_n 0, 1, 0, 0, .null, [], []),
  (135, .getfield 20, 3, 8, 0, .null, [(12, 0)], [1058]),
  (138, .iload 5, 2, 5, 0, .null, [], []),
  (140, .iaload, 1, 0, 0, .null, [], []),
  (141, .iconst 5, 1, 0, 0, .int (5), [], []),
  (142, .if_icmp .ne 25, 3, 0, 167, .null, [], []),
  (145, .aload_n 0, 1, 0, 0, .null, [], []),
  (146, .getfield 64, 3, 40, 0, .null, [(12, 0)], [1090]),
  (149, .iload 5, 2, 5, 0, .null, [], []),
  (151, .aload_n 0, 1, 0, 0, .null, [], []),
  (152, .aload_n 0, 1, 0, 0, .null, [], []),
  (153, .getfield 64, 3, 40, 0, .null, [(12, 0)], [1090]),
  (156, .iload 5, 2, 5, 0, .null, [], []),
  (158, .iaload, 1, 0, 0, .null, [], []),
  (159, .iload_n 3, 1, 3, 0, .null, [], []),
  (160, .iload 4, 2, 4, 0, .null, [], []),
  (162, .iconst 0, 1, 0, 0, .int (0), [], []),
  (163, .invokevirtual 246, 3, 4, 0, .null, [(12, 176)], [1401, 1403, 41, 63, 0, 0, 0, 0]),
  (166, .iastore, 1, 0, 0, .null, [], []),
  (167, .iinc 5 1, 3, 5, 0, .int (1), [], []),
  (170, .goto (-91), 3, 0, 79, .null, [], []),
  (173, .return_, 1, 0, 0, .null, [], [])]
def miX12_goPlayers : ev_MI := (RX12, yX12_goPlayers, cX12_goPlayers, 6, none, eiX12_goPlayers, [1400])
def eiX12_callOf : List ev_E := [(0, .aload_n 0, 1, 0, 0, .null, [], []),
  (1, .getfield 64, 3, 40, 0, .null, [(12, 0)], [1090]),
  (4, .iload_n 1, 1, 1, 0, .null, [], []),
  (5, .iaload, 1, 0, 0, .null, [], []),
  (6, .aload_n 0, 1, 0, 0, .null, [], []),
  (7, .getfield 99, 3, 1, 0, .null, [(12, 0)], [1051]),
  (10, .idiv, 1, 0, 0, .null, [], []),
  (11, .istore_n 2, 1, 2, 0, .null, [], []),
  (12, .aload_n 0, 1, 0, 0, .null, [], []),
  (13, .getfield 64, 3, 40, 0, .null, [(12, 0)], [1090]),
  (16, .iload_n 1, 1, 1, 0, .null, [], []),
  (17, .iaload, 1, 0, 0, .null, [], []),
  (18, .aload_n 0, 1, 0, 0, .null, [], []),
  (19, .getfield 99, 3, 1, 0, .null, [(12, 0)], [1051]),
  (22, .irem, 1, 0, 0, .null, [], []),
  (23, .istore_n 3, 1, 3, 0, .null, [], []),
  (24, .aload_n 0, 1, 0, 0, .null, [], []),
  (25, .getfield 20, 3, 8, 0, .null, [(12, 0)], [1058]),
  (28, .iload_n 1, 1, 1, 0, .null, [], []),
  (29, .iaload, 1, 0, 0, .null, [], []),
  (30, .iconst 4, 1, 0, 0, .int (4), [], []),
  (31, .if_icmp .ne 28, 3, 0, 59, .null, [], []),
  (34, .aload_n 0, 1, 0, 0, .null, [], []),
  (35, .getfield 96, 3, 0, 0, .null, [(12, 0)], [1050]),
  (38, .iconst 1, 1, 0, 0, .int (1), [], []),
  (39, .isub, 1, 0, 0, .null, [], []),
  (40, .iload_n 2, 1, 2, 0, .null, [], []),
  (41, .isub, 1, 0, 0, .null, [], []),
  (42, .aload_n 0, 1, 0, 0, .null, [], []),
  (43, .getfield 99, 3, 1, 0, .null, [(12, 0)], [1051]),
  (46, .imul, 1, 0, 0, .null, [], []),
  (47, .aload_n 0, 1, 0, 0, .null, [], []),
  (48, .getfield 99, 3, 1, 0, .null, [(12, 0)], [1051]),
  (51, .iadd, 1, 0, 0, .null, [], []),
  (52, .iconst 1, 1, 0, 0, .int (1), [], []),
  (53, .isub, 1, 0, 0, .null, [], []),
  (54, .iload_n 3, 1, 3, 0, .null, [], []),
  (55, .isub, 1, 0, 0, .null, [], []),
  (56, .goto 9, 3, 0, 65, .null, [], []),
  (59, .aload_n 0, 1, 0, 0, .null, [], []),
  (60, .getfield 64, 3, 40, 0, .null, [(12, 0)], [1090]),
  (63, .iload_n 1, 1, 1, 0, .null, [], []),
  (64, .iaload, 1, 0, 0, .null, [], []),
  (65, .ireturn, 1, 0, 0, .null, [], [])]
def miX12_callOf : ev_MI := (RX12, yX12_callOf, cX12_callOf, 4, (some .int), eiX12_callOf, [1420])
def eiX12_nearestCall : List ev_E := [(0, .iconst (-1), 1, 0, 0, .int (-1), [], []),
  (1, .istore_n 1, 1, 1, 0, .null, [], []),
  (2, .iconst 0, 1, 0, 0, .int (0), [], []),
  (3, .istore_n 2, 1, 2, 0, .null, [], []),
  (4, .iload_n 2, 1, 2, 0, .null, [], []),
  (5, .aload_n 0, 1, 0, 0, .null, [], []),
  (6, .getfield 105, 3, 7, 0, .null, [(12, 0)], [1057]),
  (9, .if_icmp .ge 95, 3, 0, 104, .null, [], []),
  (12, .aload_n 0, 1, 0, 0, .null, [], []),
  (13, .getfield 20, 3, 8, 0, .null, [(12, 0)], [1058]),
  (16, .iload_n 2, 1, 2, 0, .null, [], []),
  (17, .iaload, 1, 0, 0, .null, [], []),
  (18, .iconst 3, 1, 0, 0, .int (3), [], []),
  (19, .if_icmp .eq 13, 3, 0, 32, .null, [], []),
  (22, .aload_n 0, 1, 0, 0, .null, [], []),
  (23, .getfield 20, 3, 8, 0, .null, [(12, 0)], [1058]),
  (26, .iload_n 2, 1, 2, 0, .null, [], []),
  (27, .iaload, 1, 0, 0, .null, [], []),
  (28, .iconst 4, 1, 0, 0, .int (4), [], []),
  (29, .if_icmp .ne 69, 3, 0, 98, .null, [], []),
  (32, .aload_n 0, 1, 0, 0, .null, [], []),
  (33, .iload_n 2, 1, 2, 0, .null, [], []),
  (34, .invokevirtual 250, 3, 1, 0, .null, [(12, 178)], [1417, 1419, 45, 63, 0, 0, 0, 0]),
  (37, .istore_n 3, 1, 3, 0, .null, [], []),
  (38, .iload_n 1, 1, 1, 0, .null, [], []),
  (39, .iconst (-1), 1, 0, 0, .int (-1), [], []),
  (40, .if_icmp .eq 52, 3, 0, 92, .null, [], []),
  (43, .aload_n 0, 1, 0, 0, .null, [], []),
  (44, .iload_n 3, 1, 3, 0, .null, [], []),
  (45, .aload_n 0, 1, 0, 0, .null, [], []),
  (46, .getfield 240, 3, 37, 0, .null, [(12, 0)], [1087]),
  (49, .aload_n 0, 1, 0, 0, .null, [], []),
  (50, .getfield 99, 3, 1, 0, .null, [(12, 0)], [1051]),
  (53, .idiv, 1, 0, 0, .null, [], []),
  (54, .aload_n 0, 1, 0, 0, .null, [], []),
  (55, .getfield 240, 3, 37, 0, .null, [(12, 0)], [1087]),
  (58, .aload_n 0, 1, 0, 0, .null, [], []),
  (59, .getfield 99, 3, 1, 0, .null, [(12, 0)], [1051]),
  (62, .irem, 1, 0, 0, .null, [], []),
  (63, .invokevirtual 236, 3, 3, 0, .null, [(12, 175)], [1405, 1407, 42, 63, 0, 0, 0, 0]),
  (66, .aload_n 0, 1, 0, 0, .null, [], []),
  (67, .iload_n 1, 1, 1, 0, .null, [], []),
  (68, .aload_n 0, 1, 0, 0, .null, [], []),
  (69, .getfield 240, 3, 37, 0, .null, [(12, 0)], [1087]),
  (72, .aload_n 0, 1, 0, 0, .null, [], []),
  (73, .getfield 99, 3, 1, 0, .null, [(12, 0)], [1051]),
  (76, .idiv, 1, 0, 0, .null, [], []),
  (77, .aload_n 0, 1, 0, 0, .null, [], []),
  (78, .getfield 240, 3, 37, 0, .null, [(12, 0)], [1087]),
  (81, .aload_n 0, 1, 0, 0, .null, [], []),
  (82, .getfield 99, 3, 1, 0, .null, [(12, 0)], [1051]),
  (85, .irem, 1, 0, 0, .null, [], []),
  (86, .invokevirtual 236, 3, 3, 0, .null, [(12, 175)], [1405, 1407, 42, 63, 0, 0, 0, 0]),
  (89, .if_icmp .ge 7, 3, 0, 96, .null, [], []),
  (92, .iload_n 3, 1, 3, 0, .null, [], []),
  (93, .goto 4, 3, 0, 97, .null, [], []),
  (96, .iload_n 1, 1, 1, 0, .null, [], []),
  (97, .istore_n 1, 1, 1, 0, .null, [], []),
  (98, .iinc 2 1, 3, 2, 0, .int (1), [], []),
  (101, .goto (-97), 3, 0, 4, .null, [], []),
  (104, .iload_n 1, 1, 1, 0, .null, [], []),
  (105, .ireturn, 1, 0, 0, .null, [], [])]
def miX12_nearestCall : ev_MI := (RX12, yX12_nearestCall, cX12_nearestCall, 4, (some .int), eiX12_nearestCall, [1416])
def eiX12_goHim : List ev_E := [(0, .iload_n 1, 1, 1, 0, .null, [], []),
  (1, .iconst 3, 1, 0, 0, .int (3), [], []),
  (2, .irem, 1, 0, 0, .null, [], []),
  (3, .ifCond .ne 10, 3, 0, 13, .null, [], []),
  (6, .aload_n 0, 1, 0, 0, .null, [], []),
  (7, .invokevirtual 253, 3, 0, 0, .null, [(12, 179)], [1413, 1415, 44, 63, 0, 0, 0, 0]),
  (10, .goto 4, 3, 0, 14, .null, [], []),
  (13, .iconst (-1), 1, 0, 0, .int (-1), [], []),
  (14, .istore_n 3, 1, 3, 0, .null, [], []),
  (15, .iload_n 3, 1, 3, 0, .null, [], []),
  (16, .iconst (-1), 1, 0, 0, .int (-1), [], []),
  (17, .if_icmp .eq 24, 3, 0, 41, .null, [], []),
  (20, .iload_n 3, 1, 3, 0, .null, [], []),
  (21, .aload_n 0, 1, 0, 0, .null, [], []),
  (22, .getfield 240, 3, 37, 0, .null, [(12, 0)], [1087]),
  (25, .if_icmp .eq 16, 3, 0, 41, .null, [], []),
  (28, .aload_n 0, 1, 0, 0, .null, [], []),
  (29, .aload_n 0, 1, 0, 0, .null, [], []),
  (30, .aload_n 0, 1, 0, 0, .null, [], []),
  (31, .getfield 240, 3, 37, 0, .null, [(12, 0)], [1087]),
  (34, .iload_n 3, 1, 3, 0, .null, [], []),
  (35, .invokevirtual 165, 3, 2, 0, .null, [(12, 151)], [1291, 1293, 30, 63, 0, 0, 0, 0]),
  (38, .putfield 243, 3, 38, 0, .null, [(12, 0)], [1088]),
  (41, .aload_n 0, 1, 0, 0, .null, [], []),
  (42, .aload_n 0, 1, 0, 0, .null, [], []),
  (43, .bipush 10, 2, 0, 0, .int (10), [], []),
  (45, .invokevirtual 256, 3, 1, 0, .null, [(12, 174)], [1421, 1423, 46, 63, 0, 0, 0, 0]),
  (48, .iload_n 2, 1, 2, 0, .null, [], []),
  (49, .if_icmp .ge 14, 3, 0, 63, .null, [], []),
  (52, .aload_n 0, 1, 0, 0, .null, [], []),
  (53, .getfield 243, 3, 38, 0, .null, [(12, 0)], [1088]),
  (56, .iconst 1, 1, 0, 0, .int (1), [], []),
  (57, .iadd, 1, 0, 0, .null, [], []),
  (58, .iconst 4, 1, 0, 0, .int (4), [], []),
  (59, .irem, 1, 0, 0, .null, [], []),
  (60, .goto 7, 3, 0, 67, .null, [], []),
  (63, .aload_n 0, 1, 0, 0, .null, [], []),
  (64, .getfield 243, 3, 38, 0, .null, [(12, 0)], [1088]),
  (67, .putfield 243, 3, 38, 0, .null, [(12, 0)], [1088]),
  (70, .aload_n 0, 1, 0, 0, .null, [], []),
  (71, .aload_n 0, 1, 0, 0, .null, [], []),
  (72, .getfield 240, 3, 37, 0, .null, [(12, 0)], [1087]),
  (75, .aload_n 0, 1, 0, 0, .null, [], []),
  (76, .getfield 243, 3, 38, 0, .null, [(12, 0)], [1088]),
  (79, .invokevirtual 144, 3, 2, 0, .null, [(12, 137)], [1272, 1274, 27, 63, 0, 0, 0, 0]),
  (82, .istore 4, 2, 4, 0, .null, [], []),
  (84, .aload_n 0, 1, 0, 0, .null, [], []),
  (85, .iload 4, 2, 4, 0, .null, [], []),
  (87, .invokevirtual 126, 3, 1, 0, .null, [(12, 135)], [1211, 1213, 19, 63, 0, 0, 0, 0]),
  (90, .ifCond .eq 12, 3, 0, 102, .null, [], []),
  (93, .aload_n 0, 1, 0, 0, .null, [], []),
  (94, .iload 4, 2, 4, 0, .null, [], []),
  (96, .putfield 240, 3, 37, 0, .null, [(12, 0)], [1087]),
  (99, .goto 15, 3, 0, 114, .null, [], []),
  (102, .aload_n 0, 1, 0, 0, .null, [], []),
  (103, .aload_n 0, 1, 0, 0, .null, [], []),
  (104, .getfield 243, 3, 38, 0, .null, [(12, 0)], [1088]),
  (107, .iconst 1, 1, 0, 0, .int (1), [], []),
  (108, .iadd, 1, 0, 0, .null, [], []),
  (109, .iconst 4, 1, 0, 0, .int (4), [], []),
  (110, .irem, 1, 0, 0, .null, [], []),
  (111, .putfield 243, 3, 38, 0, .null, [(12, 0)], [1088]),
  (114, .return_, 1, 0, 0, .null, [], [])]
def miX12_goHim : ev_MI := (RX12, yX12_goHim, cX12_goHim, 5, none, eiX12_goHim, [1412])
def eiX12_touchedNow : List ev_E := [(0, .iconst 0, 1, 0, 0, .int (0), [], []),
  (1, .istore_n 1, 1, 1, 0, .null, [], []),
  (2, .iload_n 1, 1, 1, 0, .null, [], []),
  (3, .aload_n 0, 1, 0, 0, .null, [], []),
  (4, .getfield 105, 3, 7, 0, .null, [(12, 0)], [1057]),
  (7, .if_icmp .ge 44, 3, 0, 51, .null, [], []),
  (10, .aload_n 0, 1, 0, 0, .null, [], []),
  (11, .getfield 64, 3, 40, 0, .null, [(12, 0)], [1090]),
  (14, .iload_n 1, 1, 1, 0, .null, [], []),
  (15, .iaload, 1, 0, 0, .null, [], []),
  (16, .aload_n 0, 1, 0, 0, .null, [], []),
  (17, .getfield 240, 3, 37, 0, .null, [(12, 0)], [1087]),
  (20, .if_icmp .ne 25, 3, 0, 45, .null, [], []),
  (23, .aload_n 0, 1, 0, 0, .null, [], []),
  (24, .getfield 20, 3, 8, 0, .null, [(12, 0)], [1058]),
  (27, .iload_n 1, 1, 1, 0, .null, [], []),
  (28, .iaload, 1, 0, 0, .null, [], []),
  (29, .iconst 2, 1, 0, 0, .int (2), [], []),
  (30, .if_icmp .ne 13, 3, 0, 43, .null, [], []),
  (33, .aload_n 0, 1, 0, 0, .null, [], []),
  (34, .bipush 10, 2, 0, 0, .int (10), [], []),
  (36, .invokevirtual 256, 3, 1, 0, .null, [(12, 174)], [1421, 1423, 46, 63, 0, 0, 0, 0]),
  (39, .iconst 4, 1, 0, 0, .int (4), [], []),
  (40, .if_icmp .le 5, 3, 0, 45, .null, [], []),
  (43, .iload_n 1, 1, 1, 0, .null, [], []),
  (44, .ireturn, 1, 0, 0, .null, [], []),
  (45, .iinc 1 1, 3, 1, 0, .int (1), [], []),
  (48, .goto (-46), 3, 0, 2, .null, [], []),
  (51, .iconst (-1), 1, 0, 0, .int (-1), [], []),
  (52, .ireturn, 1, 0, 0, .null, [], [])]
def miX12_touchedNow : ev_MI := (RX12, yX12_touchedNow, cX12_touchedNow, 2, (some .int), eiX12_touchedNow, [1432])
def eiX12_play : List ev_E := [(0, .aload_n 0, 1, 0, 0, .null, [], []),
  (1, .iload_n 1, 1, 1, 0, .null, [], []),
  (2, .putfield 240, 3, 37, 0, .null, [(12, 0)], [1087]),
  (5, .aload_n 0, 1, 0, 0, .null, [], []),
  (6, .iload_n 2, 1, 2, 0, .null, [], []),
  (7, .putfield 243, 3, 38, 0, .null, [(12, 0)], [1088]),
  (10, .aload_n 0, 1, 0, 0, .null, [], []),
  (11, .iload 4, 2, 4, 0, .null, [], []),
  (13, .i2l, 1, 0, 0, .null, [], []),
  (14, .putfield 226, 3, 39, 1, .null, [(12, 0)], [1089]),
  (17, .aload_n 0, 1, 0, 0, .null, [], []),
  (18, .iconst (-1), 1, 0, 0, .int (-1), [], []),
  (19, .putfield 259, 3, 41, 0, .null, [(12, 0)], [1091]),
  (22, .aload_n 0, 1, 0, 0, .null, [], []),
  (23, .iload 5, 2, 5, 0, .null, [], []),
  (25, .putfield 262, 3, 42, 0, .null, [(12, 0)], [1092]),
  (28, .iconst 0, 1, 0, 0, .int (0), [], []),
  (29, .istore 6, 2, 6, 0, .null, [], []),
  (31, .iload 6, 2, 6, 0, .null, [], []),
  (33, .aload_n 0, 1, 0, 0, .null, [], []),
  (34, .getfield 105, 3, 7, 0, .null, [(12, 0)], [1057]),
  (37, .if_icmp .ge 23, 3, 0, 60, .null, [], []),
  (40, .aload_n 0, 1, 0, 0, .null, [], []),
  (41, .getfield 64, 3, 40, 0, .null, [(12, 0)], [1090]),
  (44, .iload 6, 2, 6, 0, .null, [], []),
  (46, .aload_n 0, 1, 0, 0, .null, [], []),
  (47, .getfield 23, 3, 9, 0, .null, [(12, 0)], [1059]),
  (50, .iload 6, 2, 6, 0, .null, [], []),
  (52, .iaload, 1, 0, 0, .null, [], []),
  (53, .iastore, 1, 0, 0, .null, [], []),
  (54, .iinc 6 1, 3, 6, 0, .int (1), [], []),
  (57, .goto (-26), 3, 0, 31, .null, [], []),
  (60, .iconst 0, 1, 0, 0, .int (0), [], []),
  (61, .istore 6, 2, 6, 0, .null, [], []),
  (63, .iload 6, 2, 6, 0, .null, [], []),
  (65, .iload 5, 2, 5, 0, .null, [], []),
  (67, .if_icmp .ge 55, 3, 0, 122, .null, [], []),
  (70, .aload_n 0, 1, 0, 0, .null, [], []),
  (71, .getfield 259, 3, 41, 0, .null, [(12, 0)], [1091]),
  (74, .iconst (-1), 1, 0, 0, .int (-1), [], []),
  (75, .if_icmp .ne 47, 3, 0, 122, .null, [], []),
  (78, .aload_n 0, 1, 0, 0, .null, [], []),
  (79, .invokevirtual 265, 3, 0, 0, .null, [(12, 177)], [1397, 1399, 40, 63, 0, 0, 0, 0]),
  (82, .aload_n 0, 1, 0, 0, .null, [], []),
  (83, .iload 6, 2, 6, 0, .null, [], []),
  (85, .iload_n 3, 1, 3, 0, .null, [], []),
  (86, .invokevirtual 268, 3, 2, 0, .null, [(12, 180)], [1409, 1411, 43, 63, 0, 0, 0, 0]),
  (89, .aload_n 0, 1, 0, 0, .null, [], []),
  (90, .aload_n 0, 1, 0, 0, .null, [], []),
  (91, .invokevirtual 272, 3, 0, 0, .null, [(12, 181)], [1429, 1431, 47, 63, 0, 0, 0, 0]),
  (94, .putfield 259, 3, 41, 0, .null, [(12, 0)], [1091]),
  (97, .aload_n 0, 1, 0, 0, .null, [], []),
  (98, .aload_n 0, 1, 0, 0, .null, [], []),
  (99, .getfield 259, 3, 41, 0, .null, [(12, 0)], [1091]),
  (102, .iconst (-1), 1, 0, 0, .int (-1), [], []),
  (103, .if_icmp .ne 8, 3, 0, 111, .null, [], []),
  (106, .iload 5, 2, 5, 0, .null, [], []),
  (108, .goto 5, 3, 0, 113, .null, [], []),
  (111, .iload 6, 2, 6, 0, .null, [], []),
  (113, .putfield 262, 3, 42, 0, .null, [(12, 0)], [1092]),
  (116, .iinc 6 1, 3, 6, 0, .int (1), [], []),
  (119, .goto (-56), 3, 0, 63, .null, [], []),
  (122, .return_, 1, 0, 0, .null, [], [])]
def miX12_play : ev_MI := (RX12, yX12_play, cX12_play, 7, none, eiX12_play, [1396])
def eiX12_game : List ev_E := [(0, .aload_n 0, 1, 0, 0, .null, [], []),
  (1, .iload_n 1, 1, 1, 0, .null, [], []),
  (2, .invokevirtual 126, 3, 1, 0, .null, [(12, 135)], [1211, 1213, 19, 63, 0, 0, 0, 0]),
  (5, .ifCond .ne 6, 3, 0, 11, .null, [], []),
  (8, .bipush (-101), 2, 0, 0, .int (-101), [], []),
  (10, .ireturn, 1, 0, 0, .null, [], []),
  (11, .iload_n 2, 1, 2, 0, .null, [], []),
  (12, .invokestatic 132, 3, 1, 0, .null, [(0, 138)], [1234, 1235, 63]),
  (15, .ifCond .eq 40, 3, 0, 55, .null, [], []),
  (18, .iload_n 3, 1, 3, 0, .null, [], []),
  (19, .iconst 0, 1, 0, 0, .int (0), [], []),
  (20, .bipush 9, 2, 0, 0, .int (9), [], []),
  (22, .invokestatic 118, 3, 3, 0, .null, [(0, 123)], [1223, 1224, 63]),
  (25, .ifCond .eq 30, 3, 0, 55, .null, [], []),
  (28, .iload 4, 2, 4, 0, .null, [], []),
  (30, .ifCond .lt 25, 3, 0, 55, .null, [], []),
  (33, .iload 5, 2, 5, 0, .null, [], []),
  (35, .iconst 1, 1, 0, 0, .int (1), [], []),
  (36, .sipush 200, 3, 0, 0, .int (200), [], []),
  (39, .invokestatic 118, 3, 3, 0, .null, [(0, 123)], [1223, 1224, 63]),
  (42, .ifCond .eq 13, 3, 0, 55, .null, [], []),
  (45, .iload 6, 2, 6, 0, .null, [], []),
  (47, .iconst 0, 1, 0, 0, .int (0), [], []),
  (48, .iconst 3, 1, 0, 0, .int (3), [], []),
  (49, .invokestatic 118, 3, 3, 0, .null, [(0, 123)], [1223, 1224, 63]),
  (52, .ifCond .ne 6, 3, 0, 58, .null, [], []),
  (55, .bipush (-102), 2, 0, 0, .int (-102), [], []),
  (57, .ireturn, 1, 0, 0, .null, [], []),
  (58, .aload_n 0, 1, 0, 0, .null, [], []),
  (59, .iload_n 1, 1, 1, 0, .null, [], []),
  (60, .iload_n 2, 1, 2, 0, .null, [], []),
  (61, .iload_n 3, 1, 3, 0, .null, [], []),
  (62, .iload 4, 2, 4, 0, .null, [], []),
  (64, .iload 5, 2, 5, 0, .null, [], []),
  (66, .invokevirtual 275, 3, 5, 0, .null, [(12, 182)], [1393, 1395, 39, 63, 0, 0, 0, 0]),
  (69, .iload 6, 2, 6, 0, .null, [], []),
  (71, .ifCond .ne 10, 3, 0, 81, .null, [], []),
  (74, .aload_n 0, 1, 0, 0, .null, [], []),
  (75, .getfield 259, 3, 41, 0, .null, [(12, 0)], [1091]),
  (78, .goto 34, 3, 0, 112, .null, [], []),
  (81, .iload 6, 2, 6, 0, .null, [], []),
  (83, .iconst 1, 1, 0, 0, .int (1), [], []),
  (84, .if_icmp .ne 10, 3, 0, 94, .null, [], []),
  (87, .aload_n 0, 1, 0, 0, .null, [], []),
  (88, .getfield 262, 3, 42, 0, .null, [(12, 0)], [1092]),
  (91, .goto 21, 3, 0, 112, .null, [], []),
  (94, .iload 6, 2, 6, 0, .null, [], []),
  (96, .iconst 2, 1, 0, 0, .int (2), [], []),
  (97, .if_icmp .ne 10, 3, 0, 107, .null, [], []),
  (100, .aload_n 0, 1, 0, 0, .null, [], []),
  (101, .getfield 240, 3, 37, 0, .null, [(12, 0)], [1087]),
  (104, .goto 8, 3, 0, 112, .null, [], []),
  (107, .aload_n 0, 1, 0, 0, .null, [], []),
  (108, .getfield 226, 3, 39, 0, .null, [(12, 0)], [1089]),
  (111, .l2i, 1, 0, 0, .null, [], []),
  (112, .ireturn, 1, 0, 0, .null, [], [])]
def miX12_game : ev_MI := (RX12, yX12_game, cX12_game, 7, (some .int), eiX12_game, [1392])
def eiX12_lasts : List ev_E := [(0, .aload_n 0, 1, 0, 0, .null, [], []),
  (1, .iload_n 1, 1, 1, 0, .null, [], []),
  (2, .invokevirtual 126, 3, 1, 0, .null, [(12, 135)], [1211, 1213, 19, 63, 0, 0, 0, 0]),
  (5, .ifCond .ne 6, 3, 0, 11, .null, [], []),
  (8, .bipush (-101), 2, 0, 0, .int (-101), [], []),
  (10, .ireturn, 1, 0, 0, .null, [], []),
  (11, .iload_n 2, 1, 2, 0, .null, [], []),
  (12, .invokestatic 132, 3, 1, 0, .null, [(0, 138)], [1234, 1235, 63]),
  (15, .ifCond .eq 36, 3, 0, 51, .null, [], []),
  (18, .iload_n 3, 1, 3, 0, .null, [], []),
  (19, .iconst 0, 1, 0, 0, .int (0), [], []),
  (20, .bipush 9, 2, 0, 0, .int (9), [], []),
  (22, .invokestatic 118, 3, 3, 0, .null, [(0, 123)], [1223, 1224, 63]),
  (25, .ifCond .eq 26, 3, 0, 51, .null, [], []),
  (28, .iload 4, 2, 4, 0, .null, [], []),
  (30, .iconst 1, 1, 0, 0, .int (1), [], []),
  (31, .sipush 200, 3, 0, 0, .int (200), [], []),
  (34, .invokestatic 118, 3, 3, 0, .null, [(0, 123)], [1223, 1224, 63]),
  (37, .ifCond .eq 14, 3, 0, 51, .null, [], []),
  (40, .iload 5, 2, 5, 0, .null, [], []),
  (42, .iconst 1, 1, 0, 0, .int (1), [], []),
  (43, .bipush 20, 2, 0, 0, .int (20), [], []),
  (45, .invokestatic 118, 3, 3, 0, .null, [(0, 123)], [1223, 1224, 63]),
  (48, .ifCond .ne 6, 3, 0, 54, .null, [], []),
  (51, .bipush (-102), 2, 0, 0, .int (-102), [], []),
  (53, .ireturn, 1, 0, 0, .null, [], []),
  (54, .iconst 0, 1, 0, 0, .int (0), [], []),
  (55, .istore 6, 2, 6, 0, .null, [], []),
  (57, .iconst 0, 1, 0, 0, .int (0), [], []),
  (58, .istore 7, 2, 7, 0, .null, [], []),
  (60, .iload 7, 2, 7, 0, .null, [], []),
  (62, .iload 5, 2, 5, 0, .null, [], []),
  (64, .if_icmp .ge 38, 3, 0, 102, .null, [], []),
  (67, .aload_n 0, 1, 0, 0, .null, [], []),
  (68, .iload_n 1, 1, 1, 0, .null, [], []),
  (69, .iload_n 2, 1, 2, 0, .null, [], []),
  (70, .iload_n 3, 1, 3, 0, .null, [], []),
  (71, .iload 7, 2, 7, 0, .null, [], []),
  (73, .iload 4, 2, 4, 0, .null, [], []),
  (75, .invokevirtual 275, 3, 5, 0, .null, [(12, 182)], [1393, 1395, 39, 63, 0, 0, 0, 0]),
  (78, .iload 6, 2, 6, 0, .null, [], []),
  (80, .aload_n 0, 1, 0, 0, .null, [], []),
  (81, .getfield 259, 3, 41, 0, .null, [(12, 0)], [1091]),
  (84, .iconst (-1), 1, 0, 0, .int (-1), [], []),
  (85, .if_icmp .ne 7, 3, 0, 92, .null, [], []),
  (88, .iconst 1, 1, 0, 0, .int (1), [], []),
  (89, .goto 4, 3, 0, 93, .null, [], []),
  (92, .iconst 0, 1, 0, 0, .int (0), [], []),
  (93, .iadd, 1, 0, 0, .null, [], []),
  (94, .istore 6, 2, 6, 0, .null, [], []),
  (96, .iinc 7 1, 3, 7, 0, .int (1), [], []),
  (99, .goto (-39), 3, 0, 60, .null, [], []),
  (102, .iload 6, 2, 6, 0, .null, [], []),
  (104, .ireturn, 1, 0, 0, .null, [], [])]
def miX12_lasts : ev_MI := (RX12, yX12_lasts, cX12_lasts, 8, (some .int), eiX12_lasts, [1436])
def eiX12_stand : List ev_E := [(0, .aload_n 0, 1, 0, 0, .null, [], []),
  (1, .iload_n 1, 1, 1, 0, .null, [], []),
  (2, .invokevirtual 218, 3, 1, 0, .null, [(12, 168)], [1373, 1375, 37, 63, 0, 0, 0, 0]),
  (5, .ifCond .eq 11, 3, 0, 16, .null, [], []),
  (8, .aload_n 0, 1, 0, 0, .null, [], []),
  (9, .iload_n 2, 1, 2, 0, .null, [], []),
  (10, .invokevirtual 126, 3, 1, 0, .null, [(12, 135)], [1211, 1213, 19, 63, 0, 0, 0, 0]),
  (13, .ifCond .ne 6, 3, 0, 19, .null, [], []),
  (16, .bipush (-101), 2, 0, 0, .int (-101), [], []),
  (18, .ireturn, 1, 0, 0, .null, [], []),
  (19, .iload_n 3, 1, 3, 0, .null, [], []),
  (20, .invokestatic 132, 3, 1, 0, .null, [(0, 138)], [1234, 1235, 63]),
  (23, .ifCond .eq 36, 3, 0, 59, .null, [], []),
  (26, .iload 4, 2, 4, 0, .null, [], []),
  (28, .iconst 0, 1, 0, 0, .int (0), [], []),
  (29, .bipush 9, 2, 0, 0, .int (9), [], []),
  (31, .invokestatic 118, 3, 3, 0, .null, [(0, 123)], [1223, 1224, 63]),
  (34, .ifCond .eq 25, 3, 0, 59, .null, [], []),
  (37, .iload 5, 2, 5, 0, .null, [], []),
  (39, .iconst 1, 1, 0, 0, .int (1), [], []),
  (40, .bipush 50, 2, 0, 0, .int (50), [], []),
  (42, .invokestatic 118, 3, 3, 0, .null, [(0, 123)], [1223, 1224, 63]),
  (45, .ifCond .eq 14, 3, 0, 59, .null, [], []),
  (48, .iload 6, 2, 6, 0, .null, [], []),
  (50, .iconst 1, 1, 0, 0, .int (1), [], []),
  (51, .bipush 9, 2, 0, 0, .int (9), [], []),
  (53, .invokestatic 118, 3, 3, 0, .null, [(0, 123)], [1223, 1224, 63]),
  (56, .ifCond .ne 6, 3, 0, 62, .null, [], []),
  (59, .bipush (-102), 2, 0, 0, .int (-102), [], []),
  (61, .ireturn, 1, 0, 0, .null, [], []),
  (62, .aload_n 0, 1, 0, 0, .null, [], []),
  (63, .getfield 279, 3, 19, 0, .null, [(12, 0)], [1069]),
  (66, .bipush 20, 2, 0, 0, .int (20), [], []),
  (68, .if_icmp .ne 6, 3, 0, 74, .null, [], []),
  (71, .bipush (-103), 2, 0, 0, .int (-103), [], []),
  (73, .ireturn, 1, 0, 0, .null, [], []),
  (74, .aload_n 0, 1, 0, 0, .null, [], []),
  (75, .dup, 1, 0, 0, .null, [], []),
  (76, .getfield 279, 3, 19, 0, .null, [(12, 0)], [1069]),
  (79, .iconst 1, 1, 0, 0, .int (1), [], []),
  (80, .iadd, 1, 0, 0, .null, [], []),
  (81, .putfield 279, 3, 19, 0, .null, [(12, 0)], [1069]),
  (84, .aload_n 0, 1, 0, 0, .null, [], []),
  (85, .getfield 23, 3, 9, 0, .null, [(12, 0)], [1059]),
  (88, .iload_n 1, 1, 1, 0, .null, [], []),
  (89, .iaload, 1, 0, 0, .null, [], []),
  (90, .istore 7, 2, 7, 0, .null, [], []),
  (92, .iconst (-1), 1, 0, 0, .int (-1), [], []),
  (93, .istore 8, 2, 8, 0, .null, [], []),
  (95, .ldc_w 282, 3, 0, 0, .int (268435456), [], [1441]),
  (98, .istore 9, 2, 9, 0, .null, [], []),
  (100, .iconst 0, 1, 0, 0, .int (0), [], []),
  (101, .istore 10, 2, 10, 0, .null, [], []),
  (103, .iload 10, 2, 10, 0, .null, [], []),
  (105, .aload_n 0, 1, 0, 0, .null, [], []),
  (106, .invokevirtual 115, 3, 0, 0, .null, [(12, 133)], [1219, 1221, 21, 63, 0, 0, 0, 0]),
  (109, .if_icmp .ge 107, 3, 0, 216, .null, [], []),
  (112, .aload_n 0, 1, 0, 0, .null, [], []),
  (113, .iload 10, 2, 10, 0, .null, [], []),
  (115, .invokevirtual 126, 3, 1, 0, .null, [(12, 135)], [1211, 1213, 19, 63, 0, 0, 0, 0]),
  (118, .ifCond .eq 92, 3, 0, 210, .null, [], []),
  (121, .aload_n 0, 1, 0, 0, .null, [], []),
  (122, .getfield 23, 3, 9, 0, .null, [(12, 0)], [1059]),
  (125, .iload_n 1, 1, 1, 0, .null, [], []),
  (126, .iload 10, 2, 10, 0, .null, [], []),
  (128, .iastore, 1, 0, 0, .null, [], []),
  (129, .iconst 0, 1, 0, 0, .int (0), [], []),
  (130, .istore 11, 2, 11, 0, .null, [], []),
  (132, .iconst 0, 1, 0, 0, .int (0), [], []),
  (133, .istore 12, 2, 12, 0, .null, [], []),
  (135, .iload 12, 2, 12, 0, .null, [], []),
  (137, .iload 6, 2, 6, 0, .null, [], []),
  (139, .if_icmp .ge 39, 3, 0, 178, .null, [], []),
  (142, .aload_n 0, 1, 0, 0, .null, [], []),
  (143, .iload_n 2, 1, 2, 0, .null, [], []),
  (144, .iload_n 3, 1, 3, 0, .null, [], []),
  (145, .iload 4, 2, 4, 0, .null, [], []),
  (147, .iload 12, 2, 12, 0, .null, [], []),
  (149, .iload 5, 2, 5, 0, .null, [], []),
  (151, .invokevirtual 275, 3, 5, 0, .null, [(12, 182)], [1393, 1395, 39, 63, 0, 0, 0, 0]),
  (154, .iload 11, 2, 11, 0, .null, [], []),
  (156, .aload_n 0, 1, 0, 0, .null, [], []),
  (157, .getfield 259, 3, 41, 0, .null, [(12, 0)], [1091]),
  (160, .iload_n 1, 1, 1, 0, .null, [], []),
  (161, .if_icmp .ne 7, 3, 0, 168, .null, [], []),
  (164, .iconst 1, 1, 0, 0, .int (1), [], []),
  (165, .goto 4, 3, 0, 169, .null, [], []),
  (168, .iconst 0, 1, 0, 0, .int (0), [], []),
  (169, .iadd, 1, 0, 0, .null, [], []),
  (170, .istore 11, 2, 11, 0, .null, [], []),
  (172, .iinc 12 1, 3, 12, 0, .int (1), [], []),
  (175, .goto (-40), 3, 0, 135, .null, [], []),
  (178, .iload 11, 2, 11, 0, .null, [], []),
  (180, .iload 9, 2, 9, 0, .null, [], []),
  (182, .if_icmp .ge 8, 3, 0, 190, .null, [], []),
  (185, .iload 10, 2, 10, 0, .null, [], []),
  (187, .goto 5, 3, 0, 192, .null, [], []),
  (190, .iload 8, 2, 8, 0, .null, [], []),
  (192, .istore 8, 2, 8, 0, .null, [], []),
  (194, .iload 11, 2, 11, 0, .null, [], []),
  (196, .iload 9, 2, 9, 0, .null, [], []),
  (198, .if_icmp .ge 8, 3, 0, 206, .null, [], []),
  (201, .iload 11, 2, 11, 0, .null, [], []),
  (203, .goto 5, 3, 0, 208, .null, [], []),
  (206, .iload 9, 2, 9, 0, .null, [], []),
  (208, .istore 9, 2, 9, 0, .null, [], []),
  (210, .iinc 10 1, 3, 10, 0, .int (1), [], []),
  (213, .goto (-110), 3, 0, 103, .null, [], []),
  (216, .aload_n 0, 1, 0, 0, .null, [], []),
  (217, .getfield 23, 3, 9, 0, .null, [(12, 0)], [1059]),
  (220, .iload_n 1, 1, 1, 0, .null, [], []),
  (221, .iload 7, 2, 7, 0, .null, [], []),
  (223, .iastore, 1, 0, 0, .null, [], []),
  (224, .iload 8, 2, 8, 0, .null, [], []),
  (226, .ireturn, 1, 0, 0, .null, [], [])]
def miX12_stand : ev_MI := (RX12, yX12_stand, cX12_stand, 13, (some .int), eiX12_stand, [1440])
def eiX12_feels : List ev_E := [(0, .iload_n 1, 1, 1, 0, .null, [], []),
  (1, .iconst 0, 1, 0, 0, .int (0), [], []),
  (2, .iconst 5, 1, 0, 0, .int (5), [], []),
  (3, .invokestatic 118, 3, 3, 0, .null, [(0, 123)], [1223, 1224, 63]),
  (6, .ifCond .eq 23, 3, 0, 29, .null, [], []),
  (9, .iload_n 2, 1, 2, 0, .null, [], []),
  (10, .iconst 0, 1, 0, 0, .int (0), [], []),
  (11, .bipush 10, 2, 0, 0, .int (10), [], []),
  (13, .invokestatic 118, 3, 3, 0, .null, [(0, 123)], [1223, 1224, 63]),
  (16, .ifCond .eq 13, 3, 0, 29, .null, [], []),
  (19, .iload_n 3, 1, 3, 0, .null, [], []),
  (20, .iconst 0, 1, 0, 0, .int (0), [], []),
  (21, .bipush 10, 2, 0, 0, .int (10), [], []),
  (23, .invokestatic 118, 3, 3, 0, .null, [(0, 123)], [1223, 1224, 63]),
  (26, .ifCond .ne 6, 3, 0, 32, .null, [], []),
  (29, .bipush (-102), 2, 0, 0, .int (-102), [], []),
  (31, .ireturn, 1, 0, 0, .null, [], []),
  (32, .aload_n 0, 1, 0, 0, .null, [], []),
  (33, .iload_n 1, 1, 1, 0, .null, [], []),
  (34, .putfield 283, 3, 13, 0, .null, [(12, 0)], [1063]),
  (37, .aload_n 0, 1, 0, 0, .null, [], []),
  (38, .iload_n 2, 1, 2, 0, .null, [], []),
  (39, .putfield 35, 3, 14, 0, .null, [(12, 0)], [1064]),
  (42, .aload_n 0, 1, 0, 0, .null, [], []),
  (43, .iload_n 3, 1, 3, 0, .null, [], []),
  (44, .putfield 39, 3, 15, 0, .null, [(12, 0)], [1065]),
  (47, .iconst 1, 1, 0, 0, .int (1), [], []),
  (48, .ireturn, 1, 0, 0, .null, [], [])]
def miX12_feels : ev_MI := (RX12, yX12_feels, cX12_feels, 4, (some .int), eiX12_feels, [1445])
def eiX12_jackets : List ev_E := [(0, .aload_n 0, 1, 0, 0, .null, [], []),
  (1, .iload_n 1, 1, 1, 0, .null, [], []),
  (2, .invokevirtual 218, 3, 1, 0, .null, [(12, 168)], [1373, 1375, 37, 63, 0, 0, 0, 0]),
  (5, .ifCond .eq 16, 3, 0, 21, .null, [], []),
  (8, .aload_n 0, 1, 0, 0, .null, [], []),
  (9, .iload_n 2, 1, 2, 0, .null, [], []),
  (10, .invokevirtual 218, 3, 1, 0, .null, [(12, 168)], [1373, 1375, 37, 63, 0, 0, 0, 0]),
  (13, .ifCond .eq 8, 3, 0, 21, .null, [], []),
  (16, .iload_n 1, 1, 1, 0, .null, [], []),
  (17, .iload_n 2, 1, 2, 0, .null, [], []),
  (18, .if_icmp .ne 6, 3, 0, 24, .null, [], []),
  (21, .bipush (-101), 2, 0, 0, .int (-101), [], []),
  (23, .ireturn, 1, 0, 0, .null, [], []),
  (24, .iload_n 3, 1, 3, 0, .null, [], []),
  (25, .iconst 0, 1, 0, 0, .int (0), [], []),
  (26, .bipush 10, 2, 0, 0, .int (10), [], []),
  (28, .invokestatic 118, 3, 3, 0, .null, [(0, 123)], [1223, 1224, 63]),
  (31, .ifCond .ne 6, 3, 0, 37, .null, [], []),
  (34, .bipush (-102), 2, 0, 0, .int (-102), [], []),
  (36, .ireturn, 1, 0, 0, .null, [], []),
  (37, .aload_n 0, 1, 0, 0, .null, [], []),
  (38, .iload_n 1, 1, 1, 0, .null, [], []),
  (39, .putfield 42, 3, 16, 0, .null, [(12, 0)], [1066]),
  (42, .aload_n 0, 1, 0, 0, .null, [], []),
  (43, .iload_n 2, 1, 2, 0, .null, [], []),
  (44, .putfield 45, 3, 17, 0, .null, [(12, 0)], [1067]),
  (47, .aload_n 0, 1, 0, 0, .null, [], []),
  (48, .iload_n 3, 1, 3, 0, .null, [], []),
  (49, .putfield 108, 3, 18, 0, .null, [(12, 0)], [1068]),
  (52, .iconst 1, 1, 0, 0, .int (1), [], []),
  (53, .ireturn, 1, 0, 0, .null, [], [])]
def miX12_jackets : ev_MI := (RX12, yX12_jackets, cX12_jackets, 4, (some .int), eiX12_jackets, [1449])
def eiX12_byCloth : List ev_E := [(0, .aload_n 0, 1, 0, 0, .null, [], []),
  (1, .getfield 29, 3, 11, 0, .null, [(12, 0)], [1061]),
  (4, .iload_n 1, 1, 1, 0, .null, [], []),
  (5, .iaload, 1, 0, 0, .null, [], []),
  (6, .iload_n 2, 1, 2, 0, .null, [], []),
  (7, .if_icmp .ne 12, 3, 0, 19, .null, [], []),
  (10, .iconst 4, 1, 0, 0, .int (4), [], []),
  (11, .aload_n 0, 1, 0, 0, .null, [], []),
  (12, .getfield 35, 3, 14, 0, .null, [(12, 0)], [1064]),
  (15, .imul, 1, 0, 0, .null, [], []),
  (16, .goto 10, 3, 0, 26, .null, [], []),
  (19, .bipush 10, 2, 0, 0, .int (10), [], []),
  (21, .aload_n 0, 1, 0, 0, .null, [], []),
  (22, .getfield 35, 3, 14, 0, .null, [(12, 0)], [1064]),
  (25, .isub, 1, 0, 0, .null, [], []),
  (26, .ireturn, 1, 0, 0, .null, [], [])]
def miX12_byCloth : ev_MI := (RX12, yX12_byCloth, cX12_byCloth, 3, (some .int), eiX12_byCloth, [1468])
def eiX12_likely : List ev_E := [(0, .aload_n 0, 1, 0, 0, .null, [], []),
  (1, .getfield 26, 3, 10, 0, .null, [(12, 0)], [1060]),
  (4, .iload_n 1, 1, 1, 0, .null, [], []),
  (5, .iaload, 1, 0, 0, .null, [], []),
  (6, .iload_n 2, 1, 2, 0, .null, [], []),
  (7, .isub, 1, 0, 0, .null, [], []),
  (8, .invokestatic 162, 3, 1, 0, .null, [(0, 124)], [1295, 1296, 63]),
  (11, .istore 5, 2, 5, 0, .null, [], []),
  (13, .iload 5, 2, 5, 0, .null, [], []),
  (15, .ifCond .ne 15, 3, 0, 30, .null, [], []),
  (18, .bipush 10, 2, 0, 0, .int (10), [], []),
  (20, .iconst 2, 1, 0, 0, .int (2), [], []),
  (21, .aload_n 0, 1, 0, 0, .null, [], []),
  (22, .getfield 283, 3, 13, 0, .null, [(12, 0)], [1063]),
  (25, .imul, 1, 0, 0, .null, [], []),
  (26, .isub, 1, 0, 0, .null, [], []),
  (27, .goto 17, 3, 0, 44, .null, [], []),
  (30, .iload 5, 2, 5, 0, .null, [], []),
  (32, .iconst 1, 1, 0, 0, .int (1), [], []),
  (33, .if_icmp .ne 10, 3, 0, 43, .null, [], []),
  (36, .aload_n 0, 1, 0, 0, .null, [], []),
  (37, .getfield 283, 3, 13, 0, .null, [(12, 0)], [1063]),
  (40, .goto 4, 3, 0, 44, .null, [], []),
  (43, .iconst 0, 1, 0, 0, .int (0), [], []),
  (44, .istore 6, 2, 6, 0, .null, [], []),
  (46, .aload_n 0, 1, 0, 0, .null, [], []),
  (47, .getfield 32, 3, 12, 0, .null, [(12, 0)], [1062]),
  (50, .iload_n 1, 1, 1, 0, .null, [], []),
  (51, .iaload, 1, 0, 0, .null, [], []),
  (52, .iload 4, 2, 4, 0, .null, [], []),
  (54, .if_icmp .ne 12, 3, 0, 66, .null, [], []),
  (57, .iconst 4, 1, 0, 0, .int (4), [], []),
  (58, .aload_n 0, 1, 0, 0, .null, [], []),
  (59, .getfield 39, 3, 15, 0, .null, [(12, 0)], [1065]),
  (62, .imul, 1, 0, 0, .null, [], []),
  (63, .goto 10, 3, 0, 73, .null, [], []),
  (66, .bipush 10, 2, 0, 0, .int (10), [], []),
  (68, .aload_n 0, 1, 0, 0, .null, [], []),
  (69, .getfield 39, 3, 15, 0, .null, [(12, 0)], [1065]),
  (72, .isub, 1, 0, 0, .null, [], []),
  (73, .istore 7, 2, 7, 0, .null, [], []),
  (75, .iload_n 1, 1, 1, 0, .null, [], []),
  (76, .aload_n 0, 1, 0, 0, .null, [], []),
  (77, .getfield 42, 3, 16, 0, .null, [(12, 0)], [1066]),
  (80, .if_icmp .ne 10, 3, 0, 90, .null, [], []),
  (83, .aload_n 0, 1, 0, 0, .null, [], []),
  (84, .getfield 45, 3, 17, 0, .null, [(12, 0)], [1067]),
  (87, .goto 19, 3, 0, 106, .null, [], []),
  (90, .iload_n 1, 1, 1, 0, .null, [], []),
  (91, .aload_n 0, 1, 0, 0, .null, [], []),
  (92, .getfield 45, 3, 17, 0, .null, [(12, 0)], [1067]),
  (95, .if_icmp .ne 10, 3, 0, 105, .null, [], []),
  (98, .aload_n 0, 1, 0, 0, .null, [], []),
  (99, .getfield 42, 3, 16, 0, .null, [(12, 0)], [1066]),
  (102, .goto 4, 3, 0, 106, .null, [], []),
  (105, .iload_n 1, 1, 1, 0, .null, [], []),
  (106, .istore 8, 2, 8, 0, .null, [], []),
  (108, .iload 8, 2, 8, 0, .null, [], []),
  (110, .iload_n 1, 1, 1, 0, .null, [], []),
  (111, .if_icmp .ne 7, 3, 0, 118, .null, [], []),
  (114, .iconst 0, 1, 0, 0, .int (0), [], []),
  (115, .goto 7, 3, 0, 122, .null, [], []),
  (118, .aload_n 0, 1, 0, 0, .null, [], []),
  (119, .getfield 108, 3, 18, 0, .null, [(12, 0)], [1068]),
  (122, .istore 9, 2, 9, 0, .null, [], []),
  (124, .iload 6, 2, 6, 0, .null, [], []),
  (126, .iload 7, 2, 7, 0, .null, [], []),
  (128, .imul, 1, 0, 0, .null, [], []),
  (129, .bipush 10, 2, 0, 0, .int (10), [], []),
  (131, .iload 9, 2, 9, 0, .null, [], []),
  (133, .isub, 1, 0, 0, .null, [], []),
  (134, .aload_n 0, 1, 0, 0, .null, [], []),
  (135, .iload_n 1, 1, 1, 0, .null, [], []),
  (136, .iload_n 3, 1, 3, 0, .null, [], []),
  (137, .invokevirtual 286, 3, 2, 0, .null, [(12, 188)], [1465, 1467, 50, 63, 0, 0, 0, 0]),
  (140, .imul, 1, 0, 0, .null, [], []),
  (141, .iload 9, 2, 9, 0, .null, [], []),
  (143, .aload_n 0, 1, 0, 0, .null, [], []),
  (144, .iload 8, 2, 8, 0, .null, [], []),
  (146, .iload_n 3, 1, 3, 0, .null, [], []),
  (147, .invokevirtual 286, 3, 2, 0, .null, [(12, 188)], [1465, 1467, 50, 63, 0, 0, 0, 0]),
  (150, .imul, 1, 0, 0, .null, [], []),
  (151, .iadd, 1, 0, 0, .null, [], []),
  (152, .imul, 1, 0, 0, .null, [], []),
  (153, .ireturn, 1, 0, 0, .null, [], [])]
def miX12_likely : ev_MI := (RX12, yX12_likely, cX12_likely, 10, (some .int), eiX12_likely, [1464])
def eiX12_likelyAll : List ev_E := [(0, .iconst 0, 1, 0, 0, .int (0), [], []),
  (1, .istore 4, 2, 4, 0, .null, [], []),
  (3, .iconst 0, 1, 0, 0, .int (0), [], []),
  (4, .istore 5, 2, 5, 0, .null, [], []),
  (6, .iload 5, 2, 5, 0, .null, [], []),
  (8, .aload_n 0, 1, 0, 0, .null, [], []),
  (9, .getfield 105, 3, 7, 0, .null, [(12, 0)], [1057]),
  (12, .if_icmp .ge 23, 3, 0, 35, .null, [], []),
  (15, .iload 4, 2, 4, 0, .null, [], []),
  (17, .aload_n 0, 1, 0, 0, .null, [], []),
  (18, .iload 5, 2, 5, 0, .null, [], []),
  (20, .iload_n 1, 1, 1, 0, .null, [], []),
  (21, .iload_n 2, 1, 2, 0, .null, [], []),
  (22, .iload_n 3, 1, 3, 0, .null, [], []),
  (23, .invokevirtual 289, 3, 4, 0, .null, [(12, 189)], [1461, 1463, 49, 63, 0, 0, 0, 0]),
  (26, .iadd, 1, 0, 0, .null, [], []),
  (27, .istore 4, 2, 4, 0, .null, [], []),
  (29, .iinc 5 1, 3, 5, 0, .int (1), [], []),
  (32, .goto (-26), 3, 0, 6, .null, [], []),
  (35, .iload 4, 2, 4, 0, .null, [], []),
  (37, .ireturn, 1, 0, 0, .null, [], [])]
def miX12_likelyAll : ev_MI := (RX12, yX12_likelyAll, cX12_likelyAll, 6, (some .int), eiX12_likelyAll, [1460])
def eiX12_isFelt : List ev_E := [(0, .iload_n 0, 1, 0, 0, .null, [], []),
  (1, .iconst 0, 1, 0, 0, .int (0), [], []),
  (2, .bipush 9, 2, 0, 0, .int (9), [], []),
  (4, .invokestatic 118, 3, 3, 0, .null, [(0, 123)], [1223, 1224, 63]),
  (7, .ifCond .eq 25, 3, 0, 32, .null, [], []),
  (10, .iload_n 1, 1, 1, 0, .null, [], []),
  (11, .iconst 0, 1, 0, 0, .int (0), [], []),
  (12, .iconst 4, 1, 0, 0, .int (4), [], []),
  (13, .invokestatic 118, 3, 3, 0, .null, [(0, 123)], [1223, 1224, 63]),
  (16, .ifCond .eq 16, 3, 0, 32, .null, [], []),
  (19, .iload_n 2, 1, 2, 0, .null, [], []),
  (20, .iconst 0, 1, 0, 0, .int (0), [], []),
  (21, .iconst 4, 1, 0, 0, .int (4), [], []),
  (22, .invokestatic 118, 3, 3, 0, .null, [(0, 123)], [1223, 1224, 63]),
  (25, .ifCond .eq 7, 3, 0, 32, .null, [], []),
  (28, .iconst 1, 1, 0, 0, .int (1), [], []),
  (29, .goto 4, 3, 0, 33, .null, [], []),
  (32, .iconst 0, 1, 0, 0, .int (0), [], []),
  (33, .ireturn, 1, 0, 0, .null, [], [])]
def miX12_isFelt : ev_MI := (RX12, yX12_isFelt, cX12_isFelt, 3, (some .boolean), eiX12_isFelt, [1456])
def eiX12_named : List ev_E := [(0, .aload_n 0, 1, 0, 0, .null, [], []),
  (1, .iload_n 1, 1, 1, 0, .null, [], []),
  (2, .invokevirtual 218, 3, 1, 0, .null, [(12, 168)], [1373, 1375, 37, 63, 0, 0, 0, 0]),
  (5, .ifCond .ne 6, 3, 0, 11, .null, [], []),
  (8, .bipush (-101), 2, 0, 0, .int (-101), [], []),
  (10, .ireturn, 1, 0, 0, .null, [], []),
  (11, .iload_n 2, 1, 2, 0, .null, [], []),
  (12, .iload_n 3, 1, 3, 0, .null, [], []),
  (13, .iload 4, 2, 4, 0, .null, [], []),
  (15, .invokestatic 293, 3, 3, 0, .null, [(0, 191)], [1454, 1455, 63]),
  (18, .ifCond .eq 11, 3, 0, 29, .null, [], []),
  (21, .iload 5, 2, 5, 0, .null, [], []),
  (23, .invokestatic 173, 3, 1, 0, .null, [(0, 156)], [1303, 1304, 63]),
  (26, .ifCond .ne 6, 3, 0, 32, .null, [], []),
  (29, .bipush (-102), 2, 0, 0, .int (-102), [], []),
  (31, .ireturn, 1, 0, 0, .null, [], []),
  (32, .aload_n 0, 1, 0, 0, .null, [], []),
  (33, .iload_n 2, 1, 2, 0, .null, [], []),
  (34, .iload_n 3, 1, 3, 0, .null, [], []),
  (35, .iload 4, 2, 4, 0, .null, [], []),
  (37, .invokevirtual 296, 3, 3, 0, .null, [(12, 190)], [1457, 1459, 48, 63, 0, 0, 0, 0]),
  (40, .istore 6, 2, 6, 0, .null, [], []),
  (42, .iload 6, 2, 6, 0, .null, [], []),
  (44, .ifCond .ne 7, 3, 0, 51, .null, [], []),
  (47, .iconst (-1), 1, 0, 0, .int (-1), [], []),
  (48, .goto 22, 3, 0, 70, .null, [], []),
  (51, .aload_n 0, 1, 0, 0, .null, [], []),
  (52, .iload_n 1, 1, 1, 0, .null, [], []),
  (53, .iload_n 2, 1, 2, 0, .null, [], []),
  (54, .iload_n 3, 1, 3, 0, .null, [], []),
  (55, .iload 4, 2, 4, 0, .null, [], []),
  (57, .invokevirtual 289, 3, 4, 0, .null, [(12, 189)], [1461, 1463, 49, 63, 0, 0, 0, 0]),
  (60, .i2l, 1, 0, 0, .null, [], []),
  (61, .iload 6, 2, 6, 0, .null, [], []),
  (63, .i2l, 1, 0, 0, .null, [], []),
  (64, .iload 5, 2, 5, 0, .null, [], []),
  (66, .invokestatic 184, 3, 3, 0, .null, [(0, 126)], [1314, 1315, 63]),
  (69, .l2i, 1, 0, 0, .null, [], []),
  (70, .ireturn, 1, 0, 0, .null, [], [])]
def miX12_named : ev_MI := (RX12, yX12_named, cX12_named, 7, (some .int), eiX12_named, [1453])
def eiX12_saysNow : List ev_E := [(0, .iconst (-1), 1, 0, 0, .int (-1), [], []),
  (1, .istore 4, 2, 4, 0, .null, [], []),
  (3, .iconst 0, 1, 0, 0, .int (0), [], []),
  (4, .istore 5, 2, 5, 0, .null, [], []),
  (6, .iconst 0, 1, 0, 0, .int (0), [], []),
  (7, .istore 6, 2, 6, 0, .null, [], []),
  (9, .iload 6, 2, 6, 0, .null, [], []),
  (11, .aload_n 0, 1, 0, 0, .null, [], []),
  (12, .getfield 105, 3, 7, 0, .null, [(12, 0)], [1057]),
  (15, .if_icmp .ge 52, 3, 0, 67, .null, [], []),
  (18, .aload_n 0, 1, 0, 0, .null, [], []),
  (19, .iload 6, 2, 6, 0, .null, [], []),
  (21, .iload_n 1, 1, 1, 0, .null, [], []),
  (22, .iload_n 2, 1, 2, 0, .null, [], []),
  (23, .iload_n 3, 1, 3, 0, .null, [], []),
  (24, .invokevirtual 289, 3, 4, 0, .null, [(12, 189)], [1461, 1463, 49, 63, 0, 0, 0, 0]),
  (27, .istore 7, 2, 7, 0, .null, [], []),
  (29, .iload 7, 2, 7, 0, .null, [], []),
  (31, .iload 5, 2, 5, 0, .null, [], []),
  (33, .if_icmp .le 8, 3, 0, 41, .null, [], []),
  (36, .iload 6, 2, 6, 0, .null, [], []),
  (38, .goto 5, 3, 0, 43, .null, [], []),
  (41, .iload 4, 2, 4, 0, .null, [], []),
  (43, .istore 4, 2, 4, 0, .null, [], []),
  (45, .iload 7, 2, 7, 0, .null, [], []),
  (47, .iload 5, 2, 5, 0, .null, [], []),
  (49, .if_icmp .le 8, 3, 0, 57, .null, [], []),
  (52, .iload 7, 2, 7, 0, .null, [], []),
  (54, .goto 5, 3, 0, 59, .null, [], []),
  (57, .iload 5, 2, 5, 0, .null, [], []),
  (59, .istore 5, 2, 5, 0, .null, [], []),
  (61, .iinc 6 1, 3, 6, 0, .int (1), [], []),
  (64, .goto (-55), 3, 0, 9, .null, [], []),
  (67, .iload 4, 2, 4, 0, .null, [], []),
  (69, .ireturn, 1, 0, 0, .null, [], [])]
def miX12_saysNow : ev_MI := (RX12, yX12_saysNow, cX12_saysNow, 8, (some .int), eiX12_saysNow, [1476])
def eiX12_says : List ev_E := [(0, .iload_n 1, 1, 1, 0, .null, [], []),
  (1, .iload_n 2, 1, 2, 0, .null, [], []),
  (2, .iload_n 3, 1, 3, 0, .null, [], []),
  (3, .invokestatic 293, 3, 3, 0, .null, [(0, 191)], [1454, 1455, 63]),
  (6, .ifCond .eq 13, 3, 0, 19, .null, [], []),
  (9, .aload_n 0, 1, 0, 0, .null, [], []),
  (10, .iload_n 1, 1, 1, 0, .null, [], []),
  (11, .iload_n 2, 1, 2, 0, .null, [], []),
  (12, .iload_n 3, 1, 3, 0, .null, [], []),
  (13, .invokevirtual 299, 3, 3, 0, .null, [(12, 193)], [1473, 1475, 51, 63, 0, 0, 0, 0]),
  (16, .goto 5, 3, 0, 21, .null, [], []),
  (19, .bipush (-102), 2, 0, 0, .int (-102), [], []),
  (21, .ireturn, 1, 0, 0, .null, [], [])]
def miX12_says : ev_MI := (RX12, yX12_says, cX12_says, 4, (some .int), eiX12_says, [1472])
def eiX12_when : List ev_E := [(0, .iload_n 1, 1, 1, 0, .null, [], []),
  (1, .iload_n 2, 1, 2, 0, .null, [], []),
  (2, .iload_n 3, 1, 3, 0, .null, [], []),
  (3, .invokestatic 293, 3, 3, 0, .null, [(0, 191)], [1454, 1455, 63]),
  (6, .ifCond .eq 25, 3, 0, 31, .null, [], []),
  (9, .iload 4, 2, 4, 0, .null, [], []),
  (11, .iconst 0, 1, 0, 0, .int (0), [], []),
  (12, .bipush 99, 2, 0, 0, .int (99), [], []),
  (14, .invokestatic 118, 3, 3, 0, .null, [(0, 123)], [1223, 1224, 63]),
  (17, .ifCond .eq 14, 3, 0, 31, .null, [], []),
  (20, .iload 5, 2, 5, 0, .null, [], []),
  (22, .iconst 0, 1, 0, 0, .int (0), [], []),
  (23, .bipush 99, 2, 0, 0, .int (99), [], []),
  (25, .invokestatic 118, 3, 3, 0, .null, [(0, 123)], [1223, 1224, 63]),
  (28, .ifCond .ne 6, 3, 0, 34, .null, [], []),
  (31, .bipush (-102), 2, 0, 0, .int (-102), [], []),
  (33, .ireturn, 1, 0, 0, .null, [], []),
  (34, .aload_n 0, 1, 0, 0, .null, [], []),
  (35, .iload_n 1, 1, 1, 0, .null, [], []),
  (36, .iload_n 2, 1, 2, 0, .null, [], []),
  (37, .iload_n 3, 1, 3, 0, .null, [], []),
  (38, .invokevirtual 299, 3, 3, 0, .null, [(12, 193)], [1473, 1475, 51, 63, 0, 0, 0, 0]),
  (41, .istore 6, 2, 6, 0, .null, [], []),
  (43, .iload 6, 2, 6, 0, .null, [], []),
  (45, .iconst (-1), 1, 0, 0, .int (-1), [], []),
  (46, .if_icmp .ne 5, 3, 0, 51, .null, [], []),
  (49, .iconst 0, 1, 0, 0, .int (0), [], []),
  (50, .ireturn, 1, 0, 0, .null, [], []),
  (51, .aload_n 0, 1, 0, 0, .null, [], []),
  (52, .iload 6, 2, 6, 0, .null, [], []),
  (54, .iload_n 1, 1, 1, 0, .null, [], []),
  (55, .iload_n 2, 1, 2, 0, .null, [], []),
  (56, .iload_n 3, 1, 3, 0, .null, [], []),
  (57, .invokevirtual 289, 3, 4, 0, .null, [(12, 189)], [1461, 1463, 49, 63, 0, 0, 0, 0]),
  (60, .istore 7, 2, 7, 0, .null, [], []),
  (62, .iload 4, 2, 4, 0, .null, [], []),
  (64, .iload 7, 2, 7, 0, .null, [], []),
  (66, .imul, 1, 0, 0, .null, [], []),
  (67, .iload 5, 2, 5, 0, .null, [], []),
  (69, .aload_n 0, 1, 0, 0, .null, [], []),
  (70, .iload_n 1, 1, 1, 0, .null, [], []),
  (71, .iload_n 2, 1, 2, 0, .null, [], []),
  (72, .iload_n 3, 1, 3, 0, .null, [], []),
  (73, .invokevirtual 296, 3, 3, 0, .null, [(12, 190)], [1457, 1459, 48, 63, 0, 0, 0, 0]),
  (76, .iload 7, 2, 7, 0, .null, [], []),
  (78, .isub, 1, 0, 0, .null, [], []),
  (79, .imul, 1, 0, 0, .null, [], []),
  (80, .if_icmp .le 7, 3, 0, 87, .null, [], []),
  (83, .iconst 1, 1, 0, 0, .int (1), [], []),
  (84, .goto 4, 3, 0, 88, .null, [], []),
  (87, .iconst 0, 1, 0, 0, .int (0), [], []),
  (88, .ireturn, 1, 0, 0, .null, [], [])]
def miX12_when : ev_MI := (RX12, yX12_when, cX12_when, 8, (some .int), eiX12_when, [1480])
def eiX12_image : List ev_E := [(0, .aload_n 0, 1, 0, 0, .null, [], []),
  (1, .getfield 102, 3, 2, 0, .null, [(12, 0)], [1052]),
  (4, .ifCond .ne 6, 3, 0, 10, .null, [], []),
  (7, .bipush (-103), 2, 0, 0, .int (-103), [], []),
  (9, .ireturn, 1, 0, 0, .null, [], []),
  (10, .aload_n 0, 1, 0, 0, .null, [], []),
  (11, .iconst 1, 1, 0, 0, .int (1), [], []),
  (12, .putfield 302, 3, 22, 2, .null, [(12, 0)], [1072]),
  (15, .aload_n 0, 1, 0, 0, .null, [], []),
  (16, .aload_n 0, 1, 0, 0, .null, [], []),
  (17, .getfield 102, 3, 2, 0, .null, [(12, 0)], [1052]),
  (20, .putfield 305, 3, 23, 0, .null, [(12, 0)], [1073]),
  (23, .aload_n 0, 1, 0, 0, .null, [], []),
  (24, .aload_n 0, 1, 0, 0, .null, [], []),
  (25, .getfield 105, 3, 7, 0, .null, [(12, 0)], [1057]),
  (28, .putfield 308, 3, 24, 0, .null, [(12, 0)], [1074]),
  (31, .aload_n 0, 1, 0, 0, .null, [], []),
  (32, .aload_n 0, 1, 0, 0, .null, [], []),
  (33, .getfield 129, 3, 6, 0, .null, [(12, 0)], [1056]),
  (36, .putfield 311, 3, 25, 0, .null, [(12, 0)], [1075]),
  (39, .aload_n 0, 1, 0, 0, .null, [], []),
  (40, .aload_n 0, 1, 0, 0, .null, [], []),
  (41, .getfield 42, 3, 16, 0, .null, [(12, 0)], [1066]),
  (44, .putfield 314, 3, 26, 0, .null, [(12, 0)], [1076]),
  (47, .aload_n 0, 1, 0, 0, .null, [], []),
  (48, .aload_n 0, 1, 0, 0, .null, [], []),
  (49, .getfield 45, 3, 17, 0, .null, [(12, 0)], [1067]),
  (52, .putfield 317, 3, 27, 0, .null, [(12, 0)], [1077]),
  (55, .aload_n 0, 1, 0, 0, .null, [], []),
  (56, .aload_n 0, 1, 0, 0, .null, [], []),
  (57, .getfield 108, 3, 18, 0, .null, [(12, 0)], [1068]),
  (60, .putfield 320, 3, 28, 0, .null, [(12, 0)], [1078]),
  (63, .iconst 0, 1, 0, 0, .int (0), [], []),
  (64, .istore_n 1, 1, 1, 0, .null, [], []),
  (65, .iload_n 1, 1, 1, 0, .null, [], []),
  (66, .sipush 144, 3, 0, 0, .int (144), [], []),
  (69, .if_icmp .ge 21, 3, 0, 90, .null, [], []),
  (72, .aload_n 0, 1, 0, 0, .null, [], []),
  (73, .getfield 52, 3, 29, 0, .null, [(12, 0)], [1079]),
  (76, .iload_n 1, 1, 1, 0, .null, [], []),
  (77, .aload_n 0, 1, 0, 0, .null, [], []),
  (78, .getfield 13, 3, 4, 0, .null, [(12, 0)], [1054]),
  (81, .iload_n 1, 1, 1, 0, .null, [], []),
  (82, .laload, 1, 0, 0, .null, [], []),
  (83, .lastore, 1, 0, 0, .null, [], []),
  (84, .iinc 1 1, 3, 1, 0, .int (1), [], []),
  (87, .goto (-22), 3, 0, 65, .null, [], []),
  (90, .iconst 0, 1, 0, 0, .int (0), [], []),
  (91, .istore_n 1, 1, 1, 0, .null, [], []),
  (92, .iload_n 1, 1, 1, 0, .null, [], []),
  (93, .aload_n 0, 1, 0, 0, .null, [], []),
  (94, .getfield 105, 3, 7, 0, .null, [(12, 0)], [1057]),
  (97, .if_icmp .ge 21, 3, 0, 118, .null, [], []),
  (100, .aload_n 0, 1, 0, 0, .null, [], []),
  (101, .getfield 55, 3, 30, 0, .null, [(12, 0)], [1080]),
  (104, .iload_n 1, 1, 1, 0, .null, [], []),
  (105, .aload_n 0, 1, 0, 0, .null, [], []),
  (106, .getfield 23, 3, 9, 0, .null, [(12, 0)], [1059]),
  (109, .iload_n 1, 1, 1, 0, .null, [], []),
  (110, .iaload, 1, 0, 0, .null, [], []),
  (111, .iastore, 1, 0, 0, .null, [], []),
  (112, .iinc 1 1, 3, 1, 0, .int (1), [], []),
  (115, .goto (-23), 3, 0, 92, .null, [], []),
  (118, .aload_n 0, 1, 0, 0, .null, [], []),
  (119, .getfield 105, 3, 7, 0, .null, [(12, 0)], [1057]),
  (122, .ireturn, 1, 0, 0, .null, [], [])]
def miX12_image : ev_MI := (RX12, yX12_image, cX12_image, 2, (some .int), eiX12_image, [1484])
def eiX12_restore : List ev_E := [(0, .aload_n 0, 1, 0, 0, .null, [], []),
  (1, .getfield 302, 3, 22, 0, .null, [(12, 0)], [1072]),
  (4, .ifCond .eq 14, 3, 0, 18, .null, [], []),
  (7, .aload_n 0, 1, 0, 0, .null, [], []),
  (8, .getfield 305, 3, 23, 0, .null, [(12, 0)], [1073]),
  (11, .aload_n 0, 1, 0, 0, .null, [], []),
  (12, .getfield 102, 3, 2, 0, .null, [(12, 0)], [1052]),
  (15, .if_icmp .eq 6, 3, 0, 21, .null, [], []),
  (18, .bipush (-103), 2, 0, 0, .int (-103), [], []),
  (20, .ireturn, 1, 0, 0, .null, [], []),
  (21, .aload_n 0, 1, 0, 0, .null, [], []),
  (22, .aload_n 0, 1, 0, 0, .null, [], []),
  (23, .getfield 311, 3, 25, 0, .null, [(12, 0)], [1075]),
  (26, .putfield 129, 3, 6, 0, .null, [(12, 0)], [1056]),
  (29, .aload_n 0, 1, 0, 0, .null, [], []),
  (30, .aload_n 0, 1, 0, 0, .null, [], []),
  (31, .getfield 314, 3, 26, 0, .null, [(12, 0)], [1076]),
  (34, .putfield 42, 3, 16, 0, .null, [(12, 0)], [1066]),
  (37, .aload_n 0, 1, 0, 0, .null, [], []),
  (38, .aload_n 0, 1, 0, 0, .null, [], []),
  (39, .getfield 317, 3, 27, 0, .null, [(12, 0)], [1077]),
  (42, .putfield 45, 3, 17, 0, .null, [(12, 0)], [1067]),
  (45, .aload_n 0, 1, 0, 0, .null, [], []),
  (46, .aload_n 0, 1, 0, 0, .null, [], []),
  (47, .getfield 320, 3, 28, 0, .null, [(12, 0)], [1078]),
  (50, .putfield 108, 3, 18, 0, .null, [(12, 0)], [1068]),
  (53, .iconst 0, 1, 0, 0, .int (0), [], []),
  (54, .istore_n 1, 1, 1, 0, .null, [], []),
  (55, .iload_n 1, 1, 1, 0, .null, [], []),
  (56, .sipush 144, 3, 0, 0, .int (144), [], []),
  (59, .if_icmp .ge 21, 3, 0, 80, .null, [], []),
  (62, .aload_n 0, 1, 0, 0, .null, [], []),
  (63, .getfield 13, 3, 4, 0, .null, [(12, 0)], [1054]),
  (66, .iload_n 1, 1, 1, 0, .null, [], []),
  (67, .aload_n 0, 1, 0, 0, .null, [], []),
  (68, .getfield 52, 3, 29, 0, .null, [(12, 0)], [1079]),
  (71, .iload_n 1, 1, 1, 0, .null, [], []),
  (72, .laload, 1, 0, 0, .null, [], []),
  (73, .lastore, 1, 0, 0, .null, [], []),
  (74, .iinc 1 1, 3, 1, 0, .int (1), [], []),
  (77, .goto (-22), 3, 0, 55, .null, [], []),
  (80, .iconst 0, 1, 0, 0, .int (0), [], []),
  (81, .istore_n 1, 1, 1, 0, .null, [], []),
  (82, .iload_n 1, 1, 1, 0, .null, [], []),
  (83, .aload_n 0, 1, 0, 0, .null, [], []),
  (84, .getfield 308, 3, 24, 0, .null, [(12, 0)], [1074]),
  (87, .if_icmp .ge 21, 3, 0, 108, .null, [], []),
  (90, .aload_n 0, 1, 0, 0, .null, [], []),
  (91, .getfield 23, 3, 9, 0, .null, [(12, 0)], [1059]),
  (94, .iload_n 1, 1, 1, 0, .null, [], []),
  (95, .aload_n 0, 1, 0, 0, .null, [], []),
  (96, .getfield 55, 3, 30, 0, .null, [(12, 0)], [1080]),
  (99, .iload_n 1, 1, 1, 0, .null, [], []),
  (100, .iaload, 1, 0, 0, .null, [], []),
  (101, .iastore, 1, 0, 0, .null, [], []),
  (102, .iinc 1 1, 3, 1, 0, .int (1), [], []),
  (105, .goto (-23), 3, 0, 82, .null, [], []),
  (108, .aload_n 0, 1, 0, 0, .null, [], []),
  (109, .getfield 105, 3, 7, 0, .null, [(12, 0)], [1057]),
  (112, .ireturn, 1, 0, 0, .null, [], [])]
def miX12_restore : ev_MI := (RX12, yX12_restore, cX12_restore, 2, (some .int), eiX12_restore, [1488])
def eiX12_freeMany : List ev_E := [(0, .iconst 0, 1, 0, 0, .int (0), [], []),
  (1, .istore_n 1, 1, 1, 0, .null, [], []),
  (2, .iconst 0, 1, 0, 0, .int (0), [], []),
  (3, .istore_n 2, 1, 2, 0, .null, [], []),
  (4, .iload_n 2, 1, 2, 0, .null, [], []),
  (5, .aload_n 0, 1, 0, 0, .null, [], []),
  (6, .invokevirtual 115, 3, 0, 0, .null, [(12, 133)], [1219, 1221, 21, 63, 0, 0, 0, 0]),
  (9, .if_icmp .ge 25, 3, 0, 34, .null, [], []),
  (12, .iload_n 1, 1, 1, 0, .null, [], []),
  (13, .aload_n 0, 1, 0, 0, .null, [], []),
  (14, .iload_n 2, 1, 2, 0, .null, [], []),
  (15, .invokevirtual 126, 3, 1, 0, .null, [(12, 135)], [1211, 1213, 19, 63, 0, 0, 0, 0]),
  (18, .ifCond .eq 7, 3, 0, 25, .null, [], []),
  (21, .iconst 1, 1, 0, 0, .int (1), [], []),
  (22, .goto 4, 3, 0, 26, .null, [], []),
  (25, .iconst 0, 1, 0, 0, .int (0), [], []),
  (26, .iadd, 1, 0, 0, .null, [], []),
  (27, .istore_n 1, 1, 1, 0, .null, [], []),
  (28, .iinc 2 1, 3, 2, 0, .int (1), [], []),
  (31, .goto (-27), 3, 0, 4, .null, [], []),
  (34, .iload_n 1, 1, 1, 0, .null, [], []),
  (35, .ireturn, 1, 0, 0, .null, [], [])]
def miX12_freeMany : ev_MI := (RX12, yX12_freeMany, cX12_freeMany, 3, (some .int), eiX12_freeMany, [1500])
def eiX12_howMany : List ev_E := [(0, .iload_n 1, 1, 1, 0, .null, [], []),
  (1, .tableswitch 87 0 7 #[47, 52, 57, 62, 67, 72, 77, 82], 47, 0, 88, .null, [(0, 48), (1, 53), (2, 58), (3, 63), (4, 68), (5, 73), (6, 78), (7, 83)], []),
  (48, .aload_n 0, 1, 0, 0, .null, [], []),
  (49, .invokevirtual 115, 3, 0, 0, .null, [(12, 133)], [1219, 1221, 21, 63, 0, 0, 0, 0]),
  (52, .ireturn, 1, 0, 0, .null, [], []),
  (53, .aload_n 0, 1, 0, 0, .null, [], []),
  (54, .invokevirtual 323, 3, 0, 0, .null, [(12, 198)], [1497, 1499, 53, 63, 0, 0, 0, 0]),
  (57, .ireturn, 1, 0, 0, .null, [], []),
  (58, .aload_n 0, 1, 0, 0, .null, [], []),
  (59, .getfield 105, 3, 7, 0, .null, [(12, 0)], [1057]),
  (62, .ireturn, 1, 0, 0, .null, [], []),
  (63, .aload_n 0, 1, 0, 0, .null, [], []),
  (64, .getfield 129, 3, 6, 0, .null, [(12, 0)], [1056]),
  (67, .ireturn, 1, 0, 0, .null, [], []),
  (68, .aload_n 0, 1, 0, 0, .null, [], []),
  (69, .invokevirtual 135, 3, 0, 0, .null, [(12, 143)], [1256, 1258, 24, 63, 0, 0, 0, 0]),
  (72, .ireturn, 1, 0, 0, .null, [], []),
  (73, .aload_n 0, 1, 0, 0, .null, [], []),
  (74, .getfield 73, 3, 20, 0, .null, [(12, 0)], [1070]),
  (77, .ireturn, 1, 0, 0, .null, [], []),
  (78, .aload_n 0, 1, 0, 0, .null, [], []),
  (79, .getfield 102, 3, 2, 0, .null, [(12, 0)], [1052]),
  (82, .ireturn, 1, 0, 0, .null, [], []),
  (83, .aload_n 0, 1, 0, 0, .null, [], []),
  (84, .getfield 279, 3, 19, 0, .null, [(12, 0)], [1069]),
  (87, .ireturn, 1, 0, 0, .null, [], []),
  (88, .bipush (-102), 2, 0, 0, .int (-102), [], []),
  (90, .ireturn, 1, 0, 0, .null, [], [])]
def miX12_howMany : ev_MI := (RX12, yX12_howMany, cX12_howMany, 2, (some .int), eiX12_howMany, [1496])
def eiX12_count : List ev_E := [(0, .aload_n 0, 1, 0, 0, .null, [], []),
  (1, .iload_n 1, 1, 1, 0, .null, [], []),
  (2, .invokevirtual 326, 3, 1, 0, .null, [(12, 199)], [1493, 1495, 52, 63, 0, 0, 0, 0]),
  (5, .ireturn, 1, 0, 0, .null, [], [])]
def miX12_count : ev_MI := (RX12, yX12_count, cX12_count, 2, (some .int), eiX12_count, [1492])
def eiX12_mix : List ev_E := [(0, .aload_n 0, 1, 0, 0, .null, [], []),
  (1, .ldc2_w 329, 3, 0, 0, .long (31), [], [1510]),
  (4, .aload_n 0, 1, 0, 0, .null, [], []),
  (5, .getfield 331, 3, 43, 0, .null, [(12, 0)], [1093]),
  (8, .lmul, 1, 0, 0, .null, [], []),
  (9, .lload_n 1, 1, 1, 0, .null, [], []),
  (10, .ladd, 1, 0, 0, .null, [], []),
  (11, .putfield 331, 3, 43, 1, .null, [(12, 0)], [1093]),
  (14, .return_, 1, 0, 0, .null, [], [])]
def miX12_mix : ev_MI := (RX12, yX12_mix, cX12_mix, 3, none, eiX12_mix, [1509])
def eiX12_mixGame : List ev_E := [(0, .iconst 0, 1, 0, 0, .int (0), [], []),
  (1, .istore_n 1, 1, 1, 0, .null, [], []),
  (2, .aload_n 0, 1, 0, 0, .null, [], []),
  (3, .iload_n 1, 1, 1, 0, .null, [], []),
  (4, .invokevirtual 126, 3, 1, 0, .null, [(12, 135)], [1211, 1213, 19, 63, 0, 0, 0, 0]),
  (7, .ifCond .ne 9, 3, 0, 16, .null, [], []),
  (10, .iinc 1 1, 3, 1, 0, .int (1), [], []),
  (13, .goto (-11), 3, 0, 2, .null, [], []),
  (16, .aload_n 0, 1, 0, 0, .null, [], []),
  (17, .iload_n 1, 1, 1, 0, .null, [], []),
  (18, .iconst 0, 1, 0, 0, .int (0), [], []),
  (19, .iconst 2, 1, 0, 0, .int (2), [], []),
  (20, .iconst 1, 1, 0, 0, .int (1), [], []),
  (21, .bipush 20, 2, 0, 0, .int (20), [], []),
  (23, .invokevirtual 275, 3, 5, 0, .null, [(12, 182)], [1393, 1395, 39, 63, 0, 0, 0, 0]),
  (26, .aload_n 0, 1, 0, 0, .null, [], []),
  (27, .aload_n 0, 1, 0, 0, .null, [], []),
  (28, .getfield 259, 3, 41, 0, .null, [(12, 0)], [1091]),
  (31, .i2l, 1, 0, 0, .null, [], []),
  (32, .invokevirtual 334, 3, 1, 0, .null, [(12, 201)], [1506, 1508, 54, 63, 0, 0, 0, 0]),
  (35, .aload_n 0, 1, 0, 0, .null, [], []),
  (36, .aload_n 0, 1, 0, 0, .null, [], []),
  (37, .getfield 262, 3, 42, 0, .null, [(12, 0)], [1092]),
  (40, .i2l, 1, 0, 0, .null, [], []),
  (41, .invokevirtual 334, 3, 1, 0, .null, [(12, 201)], [1506, 1508, 54, 63, 0, 0, 0, 0]),
  (44, .return_, 1, 0, 0, .null, [], [])]
def miX12_mixGame : ev_MI := (RX12, yX12_mixGame, cX12_mixGame, 2, none, eiX12_mixGame, [1514])
def eiX12_digest : List ev_E := [(0, .aload_n 0, 1, 0, 0, .null, [], []),
  (1, .ldc2_w 338, 3, 0, 0, .long (457), [], [1505]),
  (4, .putfield 331, 3, 43, 1, .null, [(12, 0)], [1093]),
  (7, .iconst 0, 1, 0, 0, .int (0), [], []),
  (8, .istore_n 1, 1, 1, 0, .null, [], []),
  (9, .iload_n 1, 1, 1, 0, .null, [], []),
  (10, .aload_n 0, 1, 0, 0, .null, [], []),
  (11, .invokevirtual 115, 3, 0, 0, .null, [(12, 133)], [1219, 1221, 21, 63, 0, 0, 0, 0]),
  (14, .if_icmp .ge 20, 3, 0, 34, .null, [], []),
  (17, .aload_n 0, 1, 0, 0, .null, [], []),
  (18, .aload_n 0, 1, 0, 0, .null, [], []),
  (19, .getfield 7, 3, 3, 0, .null, [(12, 0)], [1053]),
  (22, .iload_n 1, 1, 1, 0, .null, [], []),
  (23, .iaload, 1, 0, 0, .null, [], []),
  (24, .i2l, 1, 0, 0, .null, [], []),
  (25, .invokevirtual 334, 3, 1, 0, .null, [(12, 201)], [1506, 1508, 54, 63, 0, 0, 0, 0]),
  (28, .iinc 1 1, 3, 1, 0, .int (1), [], []),
  (31, .goto (-22), 3, 0, 9, .null, [], []),
  (34, .iconst 0, 1, 0, 0, .int (0), [], []),
  (35, .istore_n 1, 1, 1, 0, .null, [], []),
  (36, .iload_n 1, 1, 1, 0, .null, [], []),
  (37, .iconst 4, 1, 0, 0, .int (4), [], []),
  (38, .aload_n 0, 1, 0, 0, .null, [], []),
  (39, .invokevirtual 115, 3, 0, 0, .null, [(12, 133)], [1219, 1221, 21, 63, 0, 0, 0, 0]),
  (42, .imul, 1, 0, 0, .null, [], []),
  (43, .if_icmp .ge 19, 3, 0, 62, .null, [], []),
  (46, .aload_n 0, 1, 0, 0, .null, [], []),
  (47, .aload_n 0, 1, 0, 0, .null, [], []),
  (48, .getfield 13, 3, 4, 0, .null, [(12, 0)], [1054]),
  (51, .iload_n 1, 1, 1, 0, .null, [], []),
  (52, .laload, 1, 0, 0, .null, [], []),
  (53, .invokevirtual 334, 3, 1, 0, .null, [(12, 201)], [1506, 1508, 54, 63, 0, 0, 0, 0]),
  (56, .iinc 1 1, 3, 1, 0, .int (1), [], []),
  (59, .goto (-23), 3, 0, 36, .null, [], []),
  (62, .iconst 0, 1, 0, 0, .int (0), [], []),
  (63, .istore_n 1, 1, 1, 0, .null, [], []),
  (64, .iload_n 1, 1, 1, 0, .null, [], []),
  (65, .aload_n 0, 1, 0, 0, .null, [], []),
  (66, .getfield 105, 3, 7, 0, .null, [(12, 0)], [1057]),
  (69, .if_icmp .ge 33, 3, 0, 102, .null, [], []),
  (72, .iconst 0, 1, 0, 0, .int (0), [], []),
  (73, .istore_n 2, 1, 2, 0, .null, [], []),
  (74, .iload_n 2, 1, 2, 0, .null, [], []),
  (75, .iconst 5, 1, 0, 0, .int (5), [], []),
  (76, .if_icmp .ge 20, 3, 0, 96, .null, [], []),
  (79, .aload_n 0, 1, 0, 0, .null, [], []),
  (80, .aload_n 0, 1, 0, 0, .null, [], []),
  (81, .iload_n 1, 1, 1, 0, .null, [], []),
  (82, .iload_n 2, 1, 2, 0, .null, [], []),
  (83, .invokevirtual 221, 3, 2, 0, .null, [(12, 171)], [1381, 1383, 38, 63, 0, 0, 0, 0]),
  (86, .i2l, 1, 0, 0, .null, [], []),
  (87, .invokevirtual 334, 3, 1, 0, .null, [(12, 201)], [1506, 1508, 54, 63, 0, 0, 0, 0]),
  (90, .iinc 2 1, 3, 2, 0, .int (1), [], []),
  (93, .goto (-19), 3, 0, 74, .null, [], []),
  (96, .iinc 1 1, 3, 1, 0, .int (1), [], []),
  (99, .goto (-35), 3, 0, 64, .null, [], []),
  (102, .aload_n 0, 1, 0, 0, .null, [], []),
  (103, .aload_n 0, 1, 0, 0, .null, [], []),
  (104, .getfield 283, 3, 13, 0, .null, [(12, 0)], [1063]),
  (107, .i2l, 1, 0, 0, .null, [], []),
  (108, .invokevirtual 334, 3, 1, 0, .null, [(12, 201)], [1506, 1508, 54, 63, 0, 0, 0, 0]),
  (111, .aload_n 0, 1, 0, 0, .null, [], []),
  (112, .aload_n 0, 1, 0, 0, .null, [], []),
  (113, .getfield 35, 3, 14, 0, .null, [(12, 0)], [1064]),
  (116, .i2l, 1, 0, 0, .null, [], []),
  (117, .invokevirtual 334, 3, 1, 0, .null, [(12, 201)], [1506, 1508, 54, 63, 0, 0, 0, 0]),
  (120, .aload_n 0, 1, 0, 0, .null, [], []),
  (121, .aload_n 0, 1, 0, 0, .null, [], []),
  (122, .getfield 39, 3, 15, 0, .null, [(12, 0)], [1065]),
  (125, .i2l, 1, 0, 0, .null, [], []),
  (126, .invokevirtual 334, 3, 1, 0, .null, [(12, 201)], [1506, 1508, 54, 63, 0, 0, 0, 0]),
  (129, .aload_n 0, 1, 0, 0, .null, [], []),
  (130, .aload_n 0, 1, 0, 0, .null, [], []),
  (131, .getfield 42, 3, 16, 0, .null, [(12, 0)], [1066]),
  (134, .i2l, 1, 0, 0, .null, [], []),
  (135, .invokevirtual 334, 3, 1, 0, .null, [(12, 201)], [1506, 1508, 54, 63, 0, 0, 0, 0]),
  (138, .aload_n 0, 1, 0, 0, .null, [], []),
  (139, .aload_n 0, 1, 0, 0, .null, [], []),
  (140, .getfield 45, 3, 17, 0, .null, [(12, 0)], [1067]),
  (143, .i2l, 1, 0, 0, .null, [], []),
  (144, .invokevirtual 334, 3, 1, 0, .null, [(12, 201)], [1506, 1508, 54, 63, 0, 0, 0, 0]),
  (147, .aload_n 0, 1, 0, 0, .null, [], []),
  (148, .aload_n 0, 1, 0, 0, .null, [], []),
  (149, .getfield 108, 3, 18, 0, .null, [(12, 0)], [1068]),
  (152, .i2l, 1, 0, 0, .null, [], []),
  (153, .invokevirtual 334, 3, 1, 0, .null, [(12, 201)], [1506, 1508, 54, 63, 0, 0, 0, 0]),
  (156, .aload_n 0, 1, 0, 0, .null, [], []),
  (157, .getfield 102, 3, 2, 0, .null, [(12, 0)], [1052]),
  (160, .ifCond .le 14, 3, 0, 174, .null, [], []),
  (163, .aload_n 0, 1, 0, 0, .null, [], []),
  (164, .getfield 105, 3, 7, 0, .null, [(12, 0)], [1057]),
  (167, .ifCond .le 7, 3, 0, 174, .null, [], []),
  (170, .aload_n 0, 1, 0, 0, .null, [], []),
  (171, .invokevirtual 340, 3, 0, 0, .null, [(12, 202)], [1511, 1513, 55, 63, 0, 0, 0, 0]),
  (174, .iconst 0, 1, 0, 0, .int (0), [], []),
  (175, .istore_n 1, 1, 1, 0, .null, [], []),
  (176, .iload_n 1, 1, 1, 0, .null, [], []),
  (177, .aload_n 0, 1, 0, 0, .null, [], []),
  (178, .getfield 73, 3, 20, 0, .null, [(12, 0)], [1070]),
  (181, .if_icmp .ge 20, 3, 0, 201, .null, [], []),
  (184, .aload_n 0, 1, 0, 0, .null, [], []),
  (185, .aload_n 0, 1, 0, 0, .null, [], []),
  (186, .getfield 48, 3, 21, 0, .null, [(12, 0)], [1071]),
  (189, .iload_n 1, 1, 1, 0, .null, [], []),
  (190, .baload, 1, 0, 0, .null, [], []),
  (191, .i2l, 1, 0, 0, .null, [], []),
  (192, .invokevirtual 334, 3, 1, 0, .null, [(12, 201)], [1506, 1508, 54, 63, 0, 0, 0, 0]),
  (195, .iinc 1 1, 3, 1, 0, .int (1), [], []),
  (198, .goto (-22), 3, 0, 176, .null, [], []),
  (201, .iconst 0, 1, 0, 0, .int (0), [], []),
  (202, .istore_n 1, 1, 1, 0, .null, [], []),
  (203, .iload_n 1, 1, 1, 0, .null, [], []),
  (204, .bipush 8, 2, 0, 0, .int (8), [], []),
  (206, .if_icmp .ge 19, 3, 0, 225, .null, [], []),
  (209, .aload_n 0, 1, 0, 0, .null, [], []),
  (210, .aload_n 0, 1, 0, 0, .null, [], []),
  (211, .iload_n 1, 1, 1, 0, .null, [], []),
  (212, .invokevirtual 326, 3, 1, 0, .null, [(12, 199)], [1493, 1495, 52, 63, 0, 0, 0, 0]),
  (215, .i2l, 1, 0, 0, .null, [], []),
  (216, .invokevirtual 334, 3, 1, 0, .null, [(12, 201)], [1506, 1508, 54, 63, 0, 0, 0, 0]),
  (219, .iinc 1 1, 3, 1, 0, .int (1), [], []),
  (222, .goto (-19), 3, 0, 203, .null, [], []),
  (225, .aload_n 0, 1, 0, 0, .null, [], []),
  (226, .getfield 331, 3, 43, 0, .null, [(12, 0)], [1093]),
  (229, .lreturn, 1, 0, 0, .null, [], [])]
def miX12_digest : ev_MI := (RX12, yX12_digest, cX12_digest, 3, (some .long), eiX12_digest, [1504])
def eiJ7_fill_d0a16 : List ev_E := [(0, .iconst 0, 1, 0, 0, .int (0), [], []),
  (1, .istore_n 3, 1, 3, 0, .null, [], []),
  (2, .aload_n 0, 1, 0, 0, .null, [], []),
  (3, .arraylength, 1, 0, 0, .null, [], []),
  (4, .istore 4, 2, 4, 0, .null, [], []),
  (6, .iload_n 3, 1, 3, 0, .null, [], []),
  (7, .iload 4, 2, 4, 0, .null, [], []),
  (9, .if_icmp .ge 13, 3, 0, 22, .null, [], []),
  (12, .aload_n 0, 1, 0, 0, .null, [], []),
  (13, .iload_n 3, 1, 3, 0, .null, [], []),
  (14, .lload_n 1, 1, 1, 0, .null, [], []),
  (15, .lastore, 1, 0, 0, .null, [], []),
  (16, .iinc 3 1, 3, 3, 0, .int (1), [], []),
  (19, .goto (-13), 3, 0, 6, .null, [], []),
  (22, .return_, 1, 0, 0, .null, [], [])]
def miJ7_fill_d0a16 : ev_MI := (RJ7, yJ7_fill_d0a16, cJ7_fill_d0a16, 5, none, eiJ7_fill_d0a16, [490])
def eiJ0_indexOf_0f7a4 : List ev_E := [(0, .aload_n 0, 1, 0, 0, .null, [], []),
  (1, .iload_n 1, 1, 1, 0, .null, [], []),
  (2, .iconst 0, 1, 0, 0, .int (0), [], []),
  (3, .invokevirtual 633, 3, 2, 0, .null, [(2000, 206)], [325, 326, 327, 64, 0, 0, 0, 0]),
  (6, .ireturn, 1, 0, 0, .null, [], [])]
def miJ0_indexOf_0f7a4 : ev_MI := (RJ0, yJ0_indexOf_0f7a4, cJ0_indexOf_0f7a4, 2, (some .int), eiJ0_indexOf_0f7a4, [324])
def eiJ0_indexOf_7cf53 : List ev_E := [(0, .aload_n 0, 1, 0, 0, .null, [], []),
  (1, .invokevirtual 492, 3, 0, 0, .null, [(2000, 207)], [329, 330, 331, 64, 0, 0, 0, 0]),
  (4, .ifCond .eq 19, 3, 0, 23, .null, [], []),
  (7, .aload_n 0, 1, 0, 0, .null, [], []),
  (8, .getfield 9, 3, 0, 7, .ref 2001, [], [1524]),
  (11, .iload_n 1, 1, 1, 0, .null, [], []),
  (12, .iload_n 2, 1, 2, 0, .null, [], []),
  (13, .aload_n 0, 1, 0, 0, .null, [], []),
  (14, .invokevirtual 505, 3, 0, 0, .null, [(2000, 208)], [335, 336, 337, 64, 0, 0, 0, 0]),
  (17, .invokestatic 637, 3, 4, 0, .null, [(0, 210)], [343, 344, 65]),
  (20, .goto 16, 3, 0, 36, .null, [], []),
  (23, .aload_n 0, 1, 0, 0, .null, [], []),
  (24, .getfield 9, 3, 0, 7, .ref 2001, [], [1524]),
  (27, .iload_n 1, 1, 1, 0, .null, [], []),
  (28, .iload_n 2, 1, 2, 0, .null, [], []),
  (29, .aload_n 0, 1, 0, 0, .null, [], []),
  (30, .invokevirtual 505, 3, 0, 0, .null, [(2000, 208)], [335, 336, 337, 64, 0, 0, 0, 0]),
  (36, .ireturn, 1, 0, 0, .null, [], [])]
def miJ0_indexOf_7cf53 : ev_MI := (RJ0, yJ0_indexOf_7cf53, cJ0_indexOf_7cf53, 3, (some .int), eiJ0_indexOf_7cf53, [328])
def eiJ0_isLatin1_aae02 : List ev_E := [(0, .getstatic 38, 3, 0, 0, .int 1, [], [333]),
  (3, .ifCond .eq 14, 3, 0, 17, .null, [], []),
  (6, .aload_n 0, 1, 0, 0, .null, [], []),
  (7, .getfield 15, 3, 0, 7, .int 0, [], [1523]),
  (10, .ifCond .ne 7, 3, 0, 17, .null, [], []),
  (13, .iconst 1, 1, 0, 0, .int (1), [], []),
  (14, .goto 4, 3, 0, 18, .null, [], []),
  (17, .iconst 0, 1, 0, 0, .int (0), [], []),
  (18, .ireturn, 1, 0, 0, .null, [], [])]
def miJ0_isLatin1_aae02 : ev_MI := (RJ0, yJ0_isLatin1_aae02, cJ0_isLatin1_aae02, 1, (some .boolean), eiJ0_isLatin1_aae02, [332])
def eiJ0_length_8abf5 : List ev_E := [(0, .aload_n 0, 1, 0, 0, .null, [], []),
  (1, .getfield 9, 3, 0, 7, .ref 2001, [], [1524]),
  (4, .arraylength, 1, 1, 0, .null, [], []),
  (5, .aload_n 0, 1, 0, 0, .null, [], []),
  (6, .invokevirtual 335, 3, 0, 0, .null, [(2000, 209)], [339, 340, 341, 64, 0, 0, 0, 0]),
  (9, .ishr, 1, 0, 0, .null, [], []),
  (10, .ireturn, 1, 0, 0, .null, [], [])]
def miJ0_length_8abf5 : ev_MI := (RJ0, yJ0_length_8abf5, cJ0_length_8abf5, 1, (some .int), eiJ0_length_8abf5, [338])
def eiJ0_coder_7d493 : List ev_E := [(0, .getstatic 38, 3, 0, 0, .int 1, [], [333]),
  (3, .ifCond .eq 10, 3, 0, 13, .null, [], []),
  (6, .aload_n 0, 1, 0, 0, .null, [], []),
  (7, .getfield 15, 3, 0, 7, .int 0, [], [1523]),
  (10, .goto 4, 3, 0, 14, .null, [], []),
  (13, .iconst 1, 1, 0, 0, .int (1), [], []),
  (14, .ireturn, 1, 0, 0, .null, [], [])]
def miJ0_coder_7d493 : ev_MI := (RJ0, yJ0_coder_7d493, cJ0_coder_7d493, 1, (some .byte), eiJ0_coder_7d493, [342])
def eiJ1_indexOf_4cfef : List ev_E := [(0, .iload_n 1, 1, 1, 0, .null, [], []),
  (1, .invokestatic 88, 3, 1, 0, .null, [(0, 211)], [346, 347, 65]),
  (4, .ifCond .ne 5, 3, 0, 9, .null, [], []),
  (7, .iconst (-1), 1, 0, 0, .int (-1), [], []),
  (8, .ireturn, 1, 0, 0, .null, [], []),
  (9, .iload_n 2, 1, 2, 0, .null, [], []),
  (10, .iconst 0, 1, 0, 0, .int (0), [], []),
  (11, .invokestatic 92, 3, 105, 0, .null, [], [349, 350, 66, 351]),
  (14, .istore_n 2, 1, 2, 0, .null, [], []),
  (15, .iload_n 3, 1, 3, 0, .null, [], []),
  (16, .aload_n 0, 1, 0, 0, .null, [], []),
  (17, .arraylength, 1, 1, 0, .null, [], []),
  (18, .invokestatic 38, 3, 101, 0, .null, [], [352, 353, 66, 354]),
  (21, .istore_n 3, 1, 3, 0, .null, [], []),
  (22, .iload_n 2, 1, 2, 0, .null, [], []),
  (23, .iload_n 3, 1, 3, 0, .null, [], []),
  (24, .if_icmp .lt 5, 3, 0, 29, .null, [], []),
  (27, .iconst (-1), 1, 0, 0, .int (-1), [], []),
  (28, .ireturn, 1, 0, 0, .null, [], []),
  (29, .aload_n 0, 1, 0, 0, .null, [], []),
  (30, .iload_n 1, 1, 1, 0, .null, [], []),
  (31, .iload_n 2, 1, 2, 0, .null, [], []),
  (32, .iload_n 3, 1, 3, 0, .null, [], []),
  (33, .invokestatic 95, 3, 4, 0, .null, [(0, 212)], [355, 356, 65]),
  (36, .ireturn, 1, 0, 0, .null, [], [])]
def miJ1_indexOf_4cfef : ev_MI := (RJ1, yJ1_indexOf_4cfef, cJ1_indexOf_4cfef, 4, (some .int), eiJ1_indexOf_4cfef, [345])
def eiJ1_canEncode_9a6ad : List ev_E := [(0, .iload_n 0, 1, 0, 0, .null, [], []),
  (1, .ifCond .lt 14, 3, 0, 15, .null, [], []),
  (4, .iload_n 0, 1, 0, 0, .null, [], []),
  (5, .sipush 255, 3, 0, 0, .int (255), [], []),
  (8, .if_icmp .gt 7, 3, 0, 15, .null, [], []),
  (11, .iconst 1, 1, 0, 0, .int (1), [], []),
  (12, .goto 4, 3, 0, 16, .null, [], []),
  (15, .iconst 0, 1, 0, 0, .int (0), [], []),
  (16, .ireturn, 1, 0, 0, .null, [], [])]
def miJ1_canEncode_9a6ad : ev_MI := (RJ1, yJ1_canEncode_9a6ad, cJ1_canEncode_9a6ad, 1, (some .boolean), eiJ1_canEncode_9a6ad, [348])
def eiJ1_indexOfChar_4cfef : List ev_E := [(0, .iload_n 1, 1, 1, 0, .null, [], []),
  (1, .i2b, 1, 0, 0, .null, [], []),
  (2, .istore 4, 2, 4, 0, .null, [], []),
  (4, .iload_n 2, 1, 2, 0, .null, [], []),
  (5, .istore 5, 2, 5, 0, .null, [], []),
  (7, .iload 5, 2, 5, 0, .null, [], []),
  (9, .iload_n 3, 1, 3, 0, .null, [], []),
  (10, .if_icmp .ge 21, 3, 0, 31, .null, [], []),
  (13, .aload_n 0, 1, 0, 0, .null, [], []),
  (14, .iload 5, 2, 5, 0, .null, [], []),
  (16, .baload, 1, 1, 0, .null, [], []),
  (17, .iload 4, 2, 4, 0, .null, [], []),
  (19, .if_icmp .ne 6, 3, 0, 25, .null, [], []),
  (22, .iload 5, 2, 5, 0, .null, [], []),
  (24, .ireturn, 1, 0, 0, .null, [], []),
  (25, .iinc 5 1, 3, 5, 0, .int (1), [], []),
  (28, .goto (-21), 3, 0, 7, .null, [], []),
  (31, .iconst (-1), 1, 0, 0, .int (-1), [], []),
  (32, .ireturn, 1, 0, 0, .null, [], [])]
def miJ1_indexOfChar_4cfef : ev_MI := (RJ1, yJ1_indexOfChar_4cfef, cJ1_indexOfChar_4cfef, 6, (some .int), eiJ1_indexOfChar_4cfef, [357])
def ev_mt : List ev_MI := [miX0_kind, miX0_goOn, miX1_kind, miX1_callsFrom, miX2_kind, miX2_callsFrom, miX3_changeJackets, miX3_forgetJackets, miX3_keep, miX3_takeKept, miX3_weigh, miX3_sizeWeight, miX3_likeWeight, miX3_clothWeight, miX3_clothOf, miX3_weightOf, miX3_total, miX3_likeliestPlayer, miX3_mixInto, miX4_putHim, miX4_loseHim, miX4_keep, miX4_takeKept, miX4_aboveNought, miX4_total, miX4_ofCell, miX4_sumOfCell, miX4_ofWay, miX4_bestCell, miX4_foretellTurn, miX4_foretellStep, miX4_walk, miX4_foretellCall, miX4_hearFrom, miX4_clearOutcomes, miX4_add, miX4_narrowTo, miX4_likeliestOfAll, miX4_mixInto, miX5_lettersIn, miX5_codeAt, miX5_write, miX5_kindAt, miX5_readOn, miX5_mayEndRow, miX5_isWhole, miX5_hasFree, miX5_mixInto, miX6_kind, miX6_goOn, miX6_callsFrom, miX6_isCaught, miX6_detail, miX7_readFrom, miX7_put, miX7_findBeside, miX7_isRead, miX7_has, miX7_kindOf, miX7_isFree, miX7_firstFree, miX7_ahead, miX7_rowOf, miX7_columnOf, miX7_apart, miX7_wayTo, miX7_choose, miX7_mixInto, miX8_begin, miX8_play, miX8_outcome, miX8_seedsThatTouch, miX8_draw, miX8_playersGo, miX8_lookToCall, miX8_heGoes, miX8_touch, miX9_kind, miX9_goOn, miX10_kind, miX10_isCaught, miX11_letters, miX11_blank, miX11_fault, miX11_ring, miX11_cell, miX11_set, miX11_lost, miX11_turned, miX11_step, miX11_heard, miX11_odds, miX11_ways, miX11_likeliest, miX11_knows, miX11_expected, miX11_next, miX11_post, miX11_as, miX11_about, miX11_move, miX11_game, miX11_lasts, miX11_stand, miX11_feels, miX11_jackets, miX11_named, miX11_says, miX11_when, miX11_image, miX11_restore, miX11_count, miX11_digest, miX11_isWithin, miX11_mayStart, miX11_couldBeFelt, miX11_mixed, miX11_commonDivisor, miX11_term, miX11_sixtiethsExpected, miX11_bestDoing, miX11_playerOf, miX11_isOfKind, miX12_within, miX12_size, miX12_divisor, miX12_lowest, miX12_letters, miX12_blank, miX12_sortOf, miX12_readPage, miX12_fault, miX12_ring, miX12_cells, miX12_isCell, miX12_isFree, miX12_cell, miX12_on, miX12_isWay, miX12_clear, miX12_layLost, miX12_set, miX12_lost, miX12_above, miX12_take, miX12_turned, miX12_sortAt, miX12_feltOf, miX12_stepOne, miX12_layStep, miX12_step, miX12_liesFrom, miX12_layHeard, miX12_heard, miX12_all, miX12_ofCell, miX12_isPart, miX12_odds, miX12_ways, miX12_likeliestNow, miX12_likeliest, miX12_knows, miX12_greatestThen, miX12_expectedNow, miX12_areMany, miX12_expected, miX12_next, miX12_post, miX12_isPlayer, miX12_player, miX12_as, miX12_playerTold, miX12_about, miX12_move, miX12_draw, miX12_far, miX12_goes, miX12_goPlayers, miX12_callOf, miX12_nearestCall, miX12_goHim, miX12_touchedNow, miX12_play, miX12_game, miX12_lasts, miX12_stand, miX12_feels, miX12_jackets, miX12_byCloth, miX12_likely, miX12_likelyAll, miX12_isFelt, miX12_named, miX12_saysNow, miX12_says, miX12_when, miX12_image, miX12_restore, miX12_freeMany, miX12_howMany, miX12_count, miX12_mix, miX12_mixGame, miX12_digest, miJ7_fill_d0a16, miJ0_indexOf_0f7a4, miJ0_indexOf_7cf53, miJ0_isLatin1_aae02, miJ0_length_8abf5, miJ0_coder_7d493, miJ1_indexOf_4cfef, miJ1_canEncode_9a6ad, miJ1_indexOfChar_4cfef]
end
section
theorem okX0_kind : ev_okM ev_mt miX0_kind = true := by decide +kernel
theorem okX0_goOn : ev_okM ev_mt miX0_goOn = true := by decide +kernel
theorem okX1_kind : ev_okM ev_mt miX1_kind = true := by decide +kernel
theorem okX1_callsFrom : ev_okM ev_mt miX1_callsFrom = true := by decide +kernel
theorem okX2_kind : ev_okM ev_mt miX2_kind = true := by decide +kernel
theorem okX2_callsFrom : ev_okM ev_mt miX2_callsFrom = true := by decide +kernel
theorem okX3_changeJackets : ev_okM ev_mt miX3_changeJackets = true := by decide +kernel
theorem okX3_forgetJackets : ev_okM ev_mt miX3_forgetJackets = true := by decide +kernel
theorem okX3_keep : ev_okM ev_mt miX3_keep = true := by decide +kernel
theorem okX3_takeKept : ev_okM ev_mt miX3_takeKept = true := by decide +kernel
theorem okX3_weigh : ev_okM ev_mt miX3_weigh = true := by decide +kernel
theorem okX3_sizeWeight : ev_okM ev_mt miX3_sizeWeight = true := by decide +kernel
theorem okX3_likeWeight : ev_okM ev_mt miX3_likeWeight = true := by decide +kernel
theorem okX3_clothWeight : ev_okM ev_mt miX3_clothWeight = true := by decide +kernel
theorem okX3_clothOf : ev_okM ev_mt miX3_clothOf = true := by decide +kernel
theorem okX3_weightOf : ev_okM ev_mt miX3_weightOf = true := by decide +kernel
theorem okX3_total : ev_okM ev_mt miX3_total = true := by decide +kernel
theorem okX3_likeliestPlayer : ev_okM ev_mt miX3_likeliestPlayer = true := by decide +kernel
theorem okX3_mixInto : ev_okM ev_mt miX3_mixInto = true := by decide +kernel
theorem okX4_putHim : ev_okM ev_mt miX4_putHim = true := by decide +kernel
theorem okX4_loseHim : ev_okM ev_mt miX4_loseHim = true := by decide +kernel
theorem okX4_keep : ev_okM ev_mt miX4_keep = true := by decide +kernel
theorem okX4_takeKept : ev_okM ev_mt miX4_takeKept = true := by decide +kernel
theorem okX4_aboveNought : ev_okM ev_mt miX4_aboveNought = true := by decide +kernel
theorem okX4_total : ev_okM ev_mt miX4_total = true := by decide +kernel
theorem okX4_ofCell : ev_okM ev_mt miX4_ofCell = true := by decide +kernel
theorem okX4_sumOfCell : ev_okM ev_mt miX4_sumOfCell = true := by decide +kernel
theorem okX4_ofWay : ev_okM ev_mt miX4_ofWay = true := by decide +kernel
end
section
theorem okX4_bestCell : ev_okM ev_mt miX4_bestCell = true := by decide +kernel
theorem okX4_foretellTurn : ev_okM ev_mt miX4_foretellTurn = true := by decide +kernel
theorem okX4_foretellStep : ev_okM ev_mt miX4_foretellStep = true := by decide +kernel
theorem okX4_walk : ev_okM ev_mt miX4_walk = true := by decide +kernel
theorem okX4_foretellCall : ev_okM ev_mt miX4_foretellCall = true := by decide +kernel
theorem okX4_hearFrom : ev_okM ev_mt miX4_hearFrom = true := by decide +kernel
theorem okX4_clearOutcomes : ev_okM ev_mt miX4_clearOutcomes = true := by decide +kernel
theorem okX4_add : ev_okM ev_mt miX4_add = true := by decide +kernel
theorem okX4_narrowTo : ev_okM ev_mt miX4_narrowTo = true := by decide +kernel
theorem okX4_likeliestOfAll : ev_okM ev_mt miX4_likeliestOfAll = true := by decide +kernel
theorem okX4_mixInto : ev_okM ev_mt miX4_mixInto = true := by decide +kernel
theorem okX5_lettersIn : ev_okM ev_mt miX5_lettersIn = true := by decide +kernel
theorem okX5_codeAt : ev_okM ev_mt miX5_codeAt = true := by decide +kernel
theorem okX5_write : ev_okM ev_mt miX5_write = true := by decide +kernel
theorem okX5_kindAt : ev_okM ev_mt miX5_kindAt = true := by decide +kernel
end
section
theorem okX5_readOn : ev_okM ev_mt miX5_readOn = true := by decide +kernel
theorem okX5_mayEndRow : ev_okM ev_mt miX5_mayEndRow = true := by decide +kernel
theorem okX5_isWhole : ev_okM ev_mt miX5_isWhole = true := by decide +kernel
theorem okX5_hasFree : ev_okM ev_mt miX5_hasFree = true := by decide +kernel
theorem okX5_mixInto : ev_okM ev_mt miX5_mixInto = true := by decide +kernel
theorem okX6_kind : ev_okM ev_mt miX6_kind = true := by decide +kernel
theorem okX6_goOn : ev_okM ev_mt miX6_goOn = true := by decide +kernel
theorem okX6_callsFrom : ev_okM ev_mt miX6_callsFrom = true := by decide +kernel
theorem okX6_isCaught : ev_okM ev_mt miX6_isCaught = true := by decide +kernel
theorem okX6_detail : ev_okM ev_mt miX6_detail = true := by decide +kernel
theorem okX7_readFrom : ev_okM ev_mt miX7_readFrom = true := by decide +kernel
theorem okX7_put : ev_okM ev_mt miX7_put = true := by decide +kernel
theorem okX7_findBeside : ev_okM ev_mt miX7_findBeside = true := by decide +kernel
theorem okX7_isRead : ev_okM ev_mt miX7_isRead = true := by decide +kernel
theorem okX7_has : ev_okM ev_mt miX7_has = true := by decide +kernel
theorem okX7_kindOf : ev_okM ev_mt miX7_kindOf = true := by decide +kernel
theorem okX7_isFree : ev_okM ev_mt miX7_isFree = true := by decide +kernel
theorem okX7_firstFree : ev_okM ev_mt miX7_firstFree = true := by decide +kernel
theorem okX7_ahead : ev_okM ev_mt miX7_ahead = true := by decide +kernel
theorem okX7_rowOf : ev_okM ev_mt miX7_rowOf = true := by decide +kernel
theorem okX7_columnOf : ev_okM ev_mt miX7_columnOf = true := by decide +kernel
theorem okX7_apart : ev_okM ev_mt miX7_apart = true := by decide +kernel
theorem okX7_wayTo : ev_okM ev_mt miX7_wayTo = true := by decide +kernel
end
section
theorem okX7_choose : ev_okM ev_mt miX7_choose = true := by decide +kernel
theorem okX7_mixInto : ev_okM ev_mt miX7_mixInto = true := by decide +kernel
theorem okX8_begin : ev_okM ev_mt miX8_begin = true := by decide +kernel
theorem okX8_play : ev_okM ev_mt miX8_play = true := by decide +kernel
theorem okX8_outcome : ev_okM ev_mt miX8_outcome = true := by decide +kernel
theorem okX8_seedsThatTouch : ev_okM ev_mt miX8_seedsThatTouch = true := by decide +kernel
theorem okX8_draw : ev_okM ev_mt miX8_draw = true := by decide +kernel
theorem okX8_playersGo : ev_okM ev_mt miX8_playersGo = true := by decide +kernel
theorem okX8_lookToCall : ev_okM ev_mt miX8_lookToCall = true := by decide +kernel
theorem okX8_heGoes : ev_okM ev_mt miX8_heGoes = true := by decide +kernel
theorem okX8_touch : ev_okM ev_mt miX8_touch = true := by decide +kernel
theorem okX9_kind : ev_okM ev_mt miX9_kind = true := by decide +kernel
theorem okX9_goOn : ev_okM ev_mt miX9_goOn = true := by decide +kernel
theorem okX10_kind : ev_okM ev_mt miX10_kind = true := by decide +kernel
theorem okX10_isCaught : ev_okM ev_mt miX10_isCaught = true := by decide +kernel
theorem okX11_letters : ev_okM ev_mt miX11_letters = true := by decide +kernel
theorem okX11_blank : ev_okM ev_mt miX11_blank = true := by decide +kernel
theorem okX11_fault : ev_okM ev_mt miX11_fault = true := by decide +kernel
theorem okX11_ring : ev_okM ev_mt miX11_ring = true := by decide +kernel
end
section
theorem okX11_cell : ev_okM ev_mt miX11_cell = true := by decide +kernel
theorem okX11_set : ev_okM ev_mt miX11_set = true := by decide +kernel
theorem okX11_lost : ev_okM ev_mt miX11_lost = true := by decide +kernel
theorem okX11_turned : ev_okM ev_mt miX11_turned = true := by decide +kernel
theorem okX11_step : ev_okM ev_mt miX11_step = true := by decide +kernel
theorem okX11_heard : ev_okM ev_mt miX11_heard = true := by decide +kernel
theorem okX11_odds : ev_okM ev_mt miX11_odds = true := by decide +kernel
theorem okX11_ways : ev_okM ev_mt miX11_ways = true := by decide +kernel
theorem okX11_likeliest : ev_okM ev_mt miX11_likeliest = true := by decide +kernel
theorem okX11_knows : ev_okM ev_mt miX11_knows = true := by decide +kernel
theorem okX11_expected : ev_okM ev_mt miX11_expected = true := by decide +kernel
theorem okX11_next : ev_okM ev_mt miX11_next = true := by decide +kernel
theorem okX11_post : ev_okM ev_mt miX11_post = true := by decide +kernel
theorem okX11_as : ev_okM ev_mt miX11_as = true := by decide +kernel
theorem okX11_about : ev_okM ev_mt miX11_about = true := by decide +kernel
theorem okX11_move : ev_okM ev_mt miX11_move = true := by decide +kernel
theorem okX11_game : ev_okM ev_mt miX11_game = true := by decide +kernel
theorem okX11_lasts : ev_okM ev_mt miX11_lasts = true := by decide +kernel
end
section
theorem okX11_stand : ev_okM ev_mt miX11_stand = true := by decide +kernel
theorem okX11_feels : ev_okM ev_mt miX11_feels = true := by decide +kernel
theorem okX11_jackets : ev_okM ev_mt miX11_jackets = true := by decide +kernel
theorem okX11_named : ev_okM ev_mt miX11_named = true := by decide +kernel
theorem okX11_says : ev_okM ev_mt miX11_says = true := by decide +kernel
theorem okX11_when : ev_okM ev_mt miX11_when = true := by decide +kernel
theorem okX11_image : ev_okM ev_mt miX11_image = true := by decide +kernel
theorem okX11_restore : ev_okM ev_mt miX11_restore = true := by decide +kernel
theorem okX11_count : ev_okM ev_mt miX11_count = true := by decide +kernel
theorem okX11_digest : ev_okM ev_mt miX11_digest = true := by decide +kernel
theorem okX11_isWithin : ev_okM ev_mt miX11_isWithin = true := by decide +kernel
theorem okX11_mayStart : ev_okM ev_mt miX11_mayStart = true := by decide +kernel
theorem okX11_couldBeFelt : ev_okM ev_mt miX11_couldBeFelt = true := by decide +kernel
end
section
theorem okX11_mixed : ev_okM ev_mt miX11_mixed = true := by decide +kernel
theorem okX11_commonDivisor : ev_okM ev_mt miX11_commonDivisor = true := by decide +kernel
theorem okX11_term : ev_okM ev_mt miX11_term = true := by decide +kernel
theorem okX11_sixtiethsExpected : ev_okM ev_mt miX11_sixtiethsExpected = true := by decide +kernel
theorem okX11_bestDoing : ev_okM ev_mt miX11_bestDoing = true := by decide +kernel
theorem okX11_playerOf : ev_okM ev_mt miX11_playerOf = true := by decide +kernel
theorem okX11_isOfKind : ev_okM ev_mt miX11_isOfKind = true := by decide +kernel
theorem okX12_within : ev_okM ev_mt miX12_within = true := by decide +kernel
theorem okX12_size : ev_okM ev_mt miX12_size = true := by decide +kernel
theorem okX12_divisor : ev_okM ev_mt miX12_divisor = true := by decide +kernel
theorem okX12_lowest : ev_okM ev_mt miX12_lowest = true := by decide +kernel
theorem okX12_letters : ev_okM ev_mt miX12_letters = true := by decide +kernel
theorem okX12_blank : ev_okM ev_mt miX12_blank = true := by decide +kernel
theorem okX12_sortOf : ev_okM ev_mt miX12_sortOf = true := by decide +kernel
theorem okX12_readPage : ev_okM ev_mt miX12_readPage = true := by decide +kernel
theorem okX12_fault : ev_okM ev_mt miX12_fault = true := by decide +kernel
theorem okX12_ring : ev_okM ev_mt miX12_ring = true := by decide +kernel
end
section
theorem okX12_cells : ev_okM ev_mt miX12_cells = true := by decide +kernel
theorem okX12_isCell : ev_okM ev_mt miX12_isCell = true := by decide +kernel
theorem okX12_isFree : ev_okM ev_mt miX12_isFree = true := by decide +kernel
theorem okX12_cell : ev_okM ev_mt miX12_cell = true := by decide +kernel
theorem okX12_on : ev_okM ev_mt miX12_on = true := by decide +kernel
theorem okX12_isWay : ev_okM ev_mt miX12_isWay = true := by decide +kernel
theorem okX12_clear : ev_okM ev_mt miX12_clear = true := by decide +kernel
theorem okX12_layLost : ev_okM ev_mt miX12_layLost = true := by decide +kernel
theorem okX12_set : ev_okM ev_mt miX12_set = true := by decide +kernel
theorem okX12_lost : ev_okM ev_mt miX12_lost = true := by decide +kernel
theorem okX12_above : ev_okM ev_mt miX12_above = true := by decide +kernel
theorem okX12_take : ev_okM ev_mt miX12_take = true := by decide +kernel
theorem okX12_turned : ev_okM ev_mt miX12_turned = true := by decide +kernel
theorem okX12_sortAt : ev_okM ev_mt miX12_sortAt = true := by decide +kernel
theorem okX12_feltOf : ev_okM ev_mt miX12_feltOf = true := by decide +kernel
theorem okX12_stepOne : ev_okM ev_mt miX12_stepOne = true := by decide +kernel
theorem okX12_layStep : ev_okM ev_mt miX12_layStep = true := by decide +kernel
theorem okX12_step : ev_okM ev_mt miX12_step = true := by decide +kernel
end
section
theorem okX12_liesFrom : ev_okM ev_mt miX12_liesFrom = true := by decide +kernel
theorem okX12_layHeard : ev_okM ev_mt miX12_layHeard = true := by decide +kernel
theorem okX12_heard : ev_okM ev_mt miX12_heard = true := by decide +kernel
theorem okX12_all : ev_okM ev_mt miX12_all = true := by decide +kernel
theorem okX12_ofCell : ev_okM ev_mt miX12_ofCell = true := by decide +kernel
theorem okX12_isPart : ev_okM ev_mt miX12_isPart = true := by decide +kernel
theorem okX12_odds : ev_okM ev_mt miX12_odds = true := by decide +kernel
theorem okX12_ways : ev_okM ev_mt miX12_ways = true := by decide +kernel
theorem okX12_likeliestNow : ev_okM ev_mt miX12_likeliestNow = true := by decide +kernel
theorem okX12_likeliest : ev_okM ev_mt miX12_likeliest = true := by decide +kernel
theorem okX12_knows : ev_okM ev_mt miX12_knows = true := by decide +kernel
theorem okX12_greatestThen : ev_okM ev_mt miX12_greatestThen = true := by decide +kernel
theorem okX12_expectedNow : ev_okM ev_mt miX12_expectedNow = true := by decide +kernel
theorem okX12_areMany : ev_okM ev_mt miX12_areMany = true := by decide +kernel
theorem okX12_expected : ev_okM ev_mt miX12_expected = true := by decide +kernel
theorem okX12_next : ev_okM ev_mt miX12_next = true := by decide +kernel
end
section
theorem okX12_post : ev_okM ev_mt miX12_post = true := by decide +kernel
theorem okX12_isPlayer : ev_okM ev_mt miX12_isPlayer = true := by decide +kernel
theorem okX12_player : ev_okM ev_mt miX12_player = true := by decide +kernel
theorem okX12_as : ev_okM ev_mt miX12_as = true := by decide +kernel
theorem okX12_playerTold : ev_okM ev_mt miX12_playerTold = true := by decide +kernel
theorem okX12_about : ev_okM ev_mt miX12_about = true := by decide +kernel
theorem okX12_move : ev_okM ev_mt miX12_move = true := by decide +kernel
theorem okX12_draw : ev_okM ev_mt miX12_draw = true := by decide +kernel
theorem okX12_far : ev_okM ev_mt miX12_far = true := by decide +kernel
theorem okX12_goes : ev_okM ev_mt miX12_goes = true := by decide +kernel
theorem okX12_goPlayers : ev_okM ev_mt miX12_goPlayers = true := by decide +kernel
theorem okX12_callOf : ev_okM ev_mt miX12_callOf = true := by decide +kernel
theorem okX12_nearestCall : ev_okM ev_mt miX12_nearestCall = true := by decide +kernel
end
section
theorem okX12_goHim : ev_okM ev_mt miX12_goHim = true := by decide +kernel
theorem okX12_touchedNow : ev_okM ev_mt miX12_touchedNow = true := by decide +kernel
theorem okX12_play : ev_okM ev_mt miX12_play = true := by decide +kernel
theorem okX12_game : ev_okM ev_mt miX12_game = true := by decide +kernel
theorem okX12_lasts : ev_okM ev_mt miX12_lasts = true := by decide +kernel
theorem okX12_stand : ev_okM ev_mt miX12_stand = true := by decide +kernel
theorem okX12_feels : ev_okM ev_mt miX12_feels = true := by decide +kernel
theorem okX12_jackets : ev_okM ev_mt miX12_jackets = true := by decide +kernel
theorem okX12_byCloth : ev_okM ev_mt miX12_byCloth = true := by decide +kernel
theorem okX12_likely : ev_okM ev_mt miX12_likely = true := by decide +kernel
end
section
theorem okX12_likelyAll : ev_okM ev_mt miX12_likelyAll = true := by decide +kernel
theorem okX12_isFelt : ev_okM ev_mt miX12_isFelt = true := by decide +kernel
theorem okX12_named : ev_okM ev_mt miX12_named = true := by decide +kernel
theorem okX12_saysNow : ev_okM ev_mt miX12_saysNow = true := by decide +kernel
theorem okX12_says : ev_okM ev_mt miX12_says = true := by decide +kernel
theorem okX12_when : ev_okM ev_mt miX12_when = true := by decide +kernel
theorem okX12_image : ev_okM ev_mt miX12_image = true := by decide +kernel
theorem okX12_restore : ev_okM ev_mt miX12_restore = true := by decide +kernel
theorem okX12_freeMany : ev_okM ev_mt miX12_freeMany = true := by decide +kernel
theorem okX12_howMany : ev_okM ev_mt miX12_howMany = true := by decide +kernel
theorem okX12_count : ev_okM ev_mt miX12_count = true := by decide +kernel
theorem okX12_mix : ev_okM ev_mt miX12_mix = true := by decide +kernel
theorem okX12_mixGame : ev_okM ev_mt miX12_mixGame = true := by decide +kernel
theorem okX12_digest : ev_okM ev_mt miX12_digest = true := by decide +kernel
end
section
theorem okJ7_fill_d0a16 : ev_okM ev_mt miJ7_fill_d0a16 = true := by decide +kernel
theorem okJ0_indexOf_0f7a4 : ev_okM ev_mt miJ0_indexOf_0f7a4 = true := by decide +kernel
theorem okJ0_indexOf_7cf53 : ev_okM ev_mt miJ0_indexOf_7cf53 = true := by decide +kernel
theorem okJ0_isLatin1_aae02 : ev_okM ev_mt miJ0_isLatin1_aae02 = true := by decide +kernel
theorem okJ0_length_8abf5 : ev_okM ev_mt miJ0_length_8abf5 = true := by decide +kernel
theorem okJ0_coder_7d493 : ev_okM ev_mt miJ0_coder_7d493 = true := by decide +kernel
theorem okJ1_indexOf_4cfef : ev_okM ev_mt miJ1_indexOf_4cfef = true := by decide +kernel
theorem okJ1_canEncode_9a6ad : ev_okM ev_mt miJ1_canEncode_9a6ad = true := by decide +kernel
theorem okJ1_indexOfChar_4cfef : ev_okM ev_mt miJ1_indexOfChar_4cfef = true := by decide +kernel
end
section
set_option maxRecDepth 100000 in
theorem ev_mt_ok : ev_mt.all (ev_okM ev_mt) = true := List.all_eq_true.mpr (List.forall_mem_cons.mpr ⟨okX0_kind, List.forall_mem_cons.mpr ⟨okX0_goOn, List.forall_mem_cons.mpr ⟨okX1_kind, List.forall_mem_cons.mpr ⟨okX1_callsFrom, List.forall_mem_cons.mpr ⟨okX2_kind, List.forall_mem_cons.mpr ⟨okX2_callsFrom, List.forall_mem_cons.mpr ⟨okX3_changeJackets, List.forall_mem_cons.mpr ⟨okX3_forgetJackets, List.forall_mem_cons.mpr ⟨okX3_keep, List.forall_mem_cons.mpr ⟨okX3_takeKept, List.forall_mem_cons.mpr ⟨okX3_weigh, List.forall_mem_cons.mpr ⟨okX3_sizeWeight, List.forall_mem_cons.mpr ⟨okX3_likeWeight, List.forall_mem_cons.mpr ⟨okX3_clothWeight, List.forall_mem_cons.mpr ⟨okX3_clothOf, List.forall_mem_cons.mpr ⟨okX3_weightOf, List.forall_mem_cons.mpr ⟨okX3_total, List.forall_mem_cons.mpr ⟨okX3_likeliestPlayer, List.forall_mem_cons.mpr ⟨okX3_mixInto, List.forall_mem_cons.mpr ⟨okX4_putHim, List.forall_mem_cons.mpr ⟨okX4_loseHim, List.forall_mem_cons.mpr ⟨okX4_keep, List.forall_mem_cons.mpr ⟨okX4_takeKept, List.forall_mem_cons.mpr ⟨okX4_aboveNought, List.forall_mem_cons.mpr ⟨okX4_total, List.forall_mem_cons.mpr ⟨okX4_ofCell, List.forall_mem_cons.mpr ⟨okX4_sumOfCell, List.forall_mem_cons.mpr ⟨okX4_ofWay, List.forall_mem_cons.mpr ⟨okX4_bestCell, List.forall_mem_cons.mpr ⟨okX4_foretellTurn, List.forall_mem_cons.mpr ⟨okX4_foretellStep, List.forall_mem_cons.mpr ⟨okX4_walk, List.forall_mem_cons.mpr ⟨okX4_foretellCall, List.forall_mem_cons.mpr ⟨okX4_hearFrom, List.forall_mem_cons.mpr ⟨okX4_clearOutcomes, List.forall_mem_cons.mpr ⟨okX4_add, List.forall_mem_cons.mpr ⟨okX4_narrowTo, List.forall_mem_cons.mpr ⟨okX4_likeliestOfAll, List.forall_mem_cons.mpr ⟨okX4_mixInto, List.forall_mem_cons.mpr ⟨okX5_lettersIn, List.forall_mem_cons.mpr ⟨okX5_codeAt, List.forall_mem_cons.mpr ⟨okX5_write, List.forall_mem_cons.mpr ⟨okX5_kindAt, List.forall_mem_cons.mpr ⟨okX5_readOn, List.forall_mem_cons.mpr ⟨okX5_mayEndRow, List.forall_mem_cons.mpr ⟨okX5_isWhole, List.forall_mem_cons.mpr ⟨okX5_hasFree, List.forall_mem_cons.mpr ⟨okX5_mixInto, List.forall_mem_cons.mpr ⟨okX6_kind, List.forall_mem_cons.mpr ⟨okX6_goOn, List.forall_mem_cons.mpr ⟨okX6_callsFrom, List.forall_mem_cons.mpr ⟨okX6_isCaught, List.forall_mem_cons.mpr ⟨okX6_detail, List.forall_mem_cons.mpr ⟨okX7_readFrom, List.forall_mem_cons.mpr ⟨okX7_put, List.forall_mem_cons.mpr ⟨okX7_findBeside, List.forall_mem_cons.mpr ⟨okX7_isRead, List.forall_mem_cons.mpr ⟨okX7_has, List.forall_mem_cons.mpr ⟨okX7_kindOf, List.forall_mem_cons.mpr ⟨okX7_isFree, List.forall_mem_cons.mpr ⟨okX7_firstFree, List.forall_mem_cons.mpr ⟨okX7_ahead, List.forall_mem_cons.mpr ⟨okX7_rowOf, List.forall_mem_cons.mpr ⟨okX7_columnOf, List.forall_mem_cons.mpr ⟨okX7_apart, List.forall_mem_cons.mpr ⟨okX7_wayTo, List.forall_mem_cons.mpr ⟨okX7_choose, List.forall_mem_cons.mpr ⟨okX7_mixInto, List.forall_mem_cons.mpr ⟨okX8_begin, List.forall_mem_cons.mpr ⟨okX8_play, List.forall_mem_cons.mpr ⟨okX8_outcome, List.forall_mem_cons.mpr ⟨okX8_seedsThatTouch, List.forall_mem_cons.mpr ⟨okX8_draw, List.forall_mem_cons.mpr ⟨okX8_playersGo, List.forall_mem_cons.mpr ⟨okX8_lookToCall, List.forall_mem_cons.mpr ⟨okX8_heGoes, List.forall_mem_cons.mpr ⟨okX8_touch, List.forall_mem_cons.mpr ⟨okX9_kind, List.forall_mem_cons.mpr ⟨okX9_goOn, List.forall_mem_cons.mpr ⟨okX10_kind, List.forall_mem_cons.mpr ⟨okX10_isCaught, List.forall_mem_cons.mpr ⟨okX11_letters, List.forall_mem_cons.mpr ⟨okX11_blank, List.forall_mem_cons.mpr ⟨okX11_fault, List.forall_mem_cons.mpr ⟨okX11_ring, List.forall_mem_cons.mpr ⟨okX11_cell, List.forall_mem_cons.mpr ⟨okX11_set, List.forall_mem_cons.mpr ⟨okX11_lost, List.forall_mem_cons.mpr ⟨okX11_turned, List.forall_mem_cons.mpr ⟨okX11_step, List.forall_mem_cons.mpr ⟨okX11_heard, List.forall_mem_cons.mpr ⟨okX11_odds, List.forall_mem_cons.mpr ⟨okX11_ways, List.forall_mem_cons.mpr ⟨okX11_likeliest, List.forall_mem_cons.mpr ⟨okX11_knows, List.forall_mem_cons.mpr ⟨okX11_expected, List.forall_mem_cons.mpr ⟨okX11_next, List.forall_mem_cons.mpr ⟨okX11_post, List.forall_mem_cons.mpr ⟨okX11_as, List.forall_mem_cons.mpr ⟨okX11_about, List.forall_mem_cons.mpr ⟨okX11_move, List.forall_mem_cons.mpr ⟨okX11_game, List.forall_mem_cons.mpr ⟨okX11_lasts, List.forall_mem_cons.mpr ⟨okX11_stand, List.forall_mem_cons.mpr ⟨okX11_feels, List.forall_mem_cons.mpr ⟨okX11_jackets, List.forall_mem_cons.mpr ⟨okX11_named, List.forall_mem_cons.mpr ⟨okX11_says, List.forall_mem_cons.mpr ⟨okX11_when, List.forall_mem_cons.mpr ⟨okX11_image, List.forall_mem_cons.mpr ⟨okX11_restore, List.forall_mem_cons.mpr ⟨okX11_count, List.forall_mem_cons.mpr ⟨okX11_digest, List.forall_mem_cons.mpr ⟨okX11_isWithin, List.forall_mem_cons.mpr ⟨okX11_mayStart, List.forall_mem_cons.mpr ⟨okX11_couldBeFelt, List.forall_mem_cons.mpr ⟨okX11_mixed, List.forall_mem_cons.mpr ⟨okX11_commonDivisor, List.forall_mem_cons.mpr ⟨okX11_term, List.forall_mem_cons.mpr ⟨okX11_sixtiethsExpected, List.forall_mem_cons.mpr ⟨okX11_bestDoing, List.forall_mem_cons.mpr ⟨okX11_playerOf, List.forall_mem_cons.mpr ⟨okX11_isOfKind, List.forall_mem_cons.mpr ⟨okX12_within, List.forall_mem_cons.mpr ⟨okX12_size, List.forall_mem_cons.mpr ⟨okX12_divisor, List.forall_mem_cons.mpr ⟨okX12_lowest, List.forall_mem_cons.mpr ⟨okX12_letters, List.forall_mem_cons.mpr ⟨okX12_blank, List.forall_mem_cons.mpr ⟨okX12_sortOf, List.forall_mem_cons.mpr ⟨okX12_readPage, List.forall_mem_cons.mpr ⟨okX12_fault, List.forall_mem_cons.mpr ⟨okX12_ring, List.forall_mem_cons.mpr ⟨okX12_cells, List.forall_mem_cons.mpr ⟨okX12_isCell, List.forall_mem_cons.mpr ⟨okX12_isFree, List.forall_mem_cons.mpr ⟨okX12_cell, List.forall_mem_cons.mpr ⟨okX12_on, List.forall_mem_cons.mpr ⟨okX12_isWay, List.forall_mem_cons.mpr ⟨okX12_clear, List.forall_mem_cons.mpr ⟨okX12_layLost, List.forall_mem_cons.mpr ⟨okX12_set, List.forall_mem_cons.mpr ⟨okX12_lost, List.forall_mem_cons.mpr ⟨okX12_above, List.forall_mem_cons.mpr ⟨okX12_take, List.forall_mem_cons.mpr ⟨okX12_turned, List.forall_mem_cons.mpr ⟨okX12_sortAt, List.forall_mem_cons.mpr ⟨okX12_feltOf, List.forall_mem_cons.mpr ⟨okX12_stepOne, List.forall_mem_cons.mpr ⟨okX12_layStep, List.forall_mem_cons.mpr ⟨okX12_step, List.forall_mem_cons.mpr ⟨okX12_liesFrom, List.forall_mem_cons.mpr ⟨okX12_layHeard, List.forall_mem_cons.mpr ⟨okX12_heard, List.forall_mem_cons.mpr ⟨okX12_all, List.forall_mem_cons.mpr ⟨okX12_ofCell, List.forall_mem_cons.mpr ⟨okX12_isPart, List.forall_mem_cons.mpr ⟨okX12_odds, List.forall_mem_cons.mpr ⟨okX12_ways, List.forall_mem_cons.mpr ⟨okX12_likeliestNow, List.forall_mem_cons.mpr ⟨okX12_likeliest, List.forall_mem_cons.mpr ⟨okX12_knows, List.forall_mem_cons.mpr ⟨okX12_greatestThen, List.forall_mem_cons.mpr ⟨okX12_expectedNow, List.forall_mem_cons.mpr ⟨okX12_areMany, List.forall_mem_cons.mpr ⟨okX12_expected, List.forall_mem_cons.mpr ⟨okX12_next, List.forall_mem_cons.mpr ⟨okX12_post, List.forall_mem_cons.mpr ⟨okX12_isPlayer, List.forall_mem_cons.mpr ⟨okX12_player, List.forall_mem_cons.mpr ⟨okX12_as, List.forall_mem_cons.mpr ⟨okX12_playerTold, List.forall_mem_cons.mpr ⟨okX12_about, List.forall_mem_cons.mpr ⟨okX12_move, List.forall_mem_cons.mpr ⟨okX12_draw, List.forall_mem_cons.mpr ⟨okX12_far, List.forall_mem_cons.mpr ⟨okX12_goes, List.forall_mem_cons.mpr ⟨okX12_goPlayers, List.forall_mem_cons.mpr ⟨okX12_callOf, List.forall_mem_cons.mpr ⟨okX12_nearestCall, List.forall_mem_cons.mpr ⟨okX12_goHim, List.forall_mem_cons.mpr ⟨okX12_touchedNow, List.forall_mem_cons.mpr ⟨okX12_play, List.forall_mem_cons.mpr ⟨okX12_game, List.forall_mem_cons.mpr ⟨okX12_lasts, List.forall_mem_cons.mpr ⟨okX12_stand, List.forall_mem_cons.mpr ⟨okX12_feels, List.forall_mem_cons.mpr ⟨okX12_jackets, List.forall_mem_cons.mpr ⟨okX12_byCloth, List.forall_mem_cons.mpr ⟨okX12_likely, List.forall_mem_cons.mpr ⟨okX12_likelyAll, List.forall_mem_cons.mpr ⟨okX12_isFelt, List.forall_mem_cons.mpr ⟨okX12_named, List.forall_mem_cons.mpr ⟨okX12_saysNow, List.forall_mem_cons.mpr ⟨okX12_says, List.forall_mem_cons.mpr ⟨okX12_when, List.forall_mem_cons.mpr ⟨okX12_image, List.forall_mem_cons.mpr ⟨okX12_restore, List.forall_mem_cons.mpr ⟨okX12_freeMany, List.forall_mem_cons.mpr ⟨okX12_howMany, List.forall_mem_cons.mpr ⟨okX12_count, List.forall_mem_cons.mpr ⟨okX12_mix, List.forall_mem_cons.mpr ⟨okX12_mixGame, List.forall_mem_cons.mpr ⟨okX12_digest, List.forall_mem_cons.mpr ⟨okJ7_fill_d0a16, List.forall_mem_cons.mpr ⟨okJ0_indexOf_0f7a4, List.forall_mem_cons.mpr ⟨okJ0_indexOf_7cf53, List.forall_mem_cons.mpr ⟨okJ0_isLatin1_aae02, List.forall_mem_cons.mpr ⟨okJ0_length_8abf5, List.forall_mem_cons.mpr ⟨okJ0_coder_7d493, List.forall_mem_cons.mpr ⟨okJ1_indexOf_4cfef, List.forall_mem_cons.mpr ⟨okJ1_canEncode_9a6ad, List.forall_mem_cons.mpr ⟨okJ1_indexOfChar_4cfef, fun _ h => absurd h List.not_mem_nil⟩⟩⟩⟩⟩⟩⟩⟩⟩⟩⟩⟩⟩⟩⟩⟩⟩⟩⟩⟩⟩⟩⟩⟩⟩⟩⟩⟩⟩⟩⟩⟩⟩⟩⟩⟩⟩⟩⟩⟩⟩⟩⟩⟩⟩⟩⟩⟩⟩⟩⟩⟩⟩⟩⟩⟩⟩⟩⟩⟩⟩⟩⟩⟩⟩⟩⟩⟩⟩⟩⟩⟩⟩⟩⟩⟩⟩⟩⟩⟩⟩⟩⟩⟩⟩⟩⟩⟩⟩⟩⟩⟩⟩⟩⟩⟩⟩⟩⟩⟩⟩⟩⟩⟩⟩⟩⟩⟩⟩⟩⟩⟩⟩⟩⟩⟩⟩⟩⟩⟩⟩⟩⟩⟩⟩⟩⟩⟩⟩⟩⟩⟩⟩⟩⟩⟩⟩⟩⟩⟩⟩⟩⟩⟩⟩⟩⟩⟩⟩⟩⟩⟩⟩⟩⟩⟩⟩⟩⟩⟩⟩⟩⟩⟩⟩⟩⟩⟩⟩⟩⟩⟩⟩⟩⟩⟩⟩⟩⟩⟩⟩⟩⟩⟩⟩⟩⟩⟩⟩⟩⟩⟩⟩⟩⟩⟩⟩⟩⟩⟩⟩⟩⟩⟩⟩⟩⟩⟩⟩⟩⟩⟩⟩)
end
section
/-! ===== RULES for runs of the abstract machine ===== -/
abbrev ev_X (d : Nat) (rt : Option FieldType) (I : List ev_E) (c : ev_S) (z : ev_Z) : Prop := ∃ n, ev_R (ev_M ev_mt d) rt I n c z
/-- what the instruction behind k plain ones gives -/
def ev_nx (rt : Option FieldType) (I : List ev_E) : Nat → ev_S → Option (ev_S ⊕ ev_Z)
  | 0, (pc, ls, st, h) => match ev_find I pc with
    | some e => ev_one rt e ls st h
    | none => none
  | k + 1, (pc, ls, st, h) => match ev_find I pc with
    | some e => (match ev_one rt e ls st h with
      | some (.inl c') => ev_nx rt I k c'
      | _ => none)
    | none => none
/-- the call behind k plain instructions -/
def ev_ci (rt : Option FieldType) (I : List ev_E) : Nat → ev_S → Option (Nat × List Value × List Value × ev_S)
  | 0, (pc, ls, st, h) => match ev_find I pc with
    | some e => (match ev_inv e st h with
      | some (k, as, rest) => some (k, as, rest, (pc, ls, st, h))
      | none => none)
    | none => none
  | k + 1, (pc, ls, st, h) => match ev_find I pc with
    | some e => (match ev_one rt e ls st h with
      | some (.inl c') => ev_ci rt I k c'
      | _ => none)
    | none => none
section RUL
variable {d : Nat} {rt : Option FieldType} {I : List ev_E} {c c' : ev_S} {z : ev_Z}
theorem ev_st1 {pc : Nat} {ls : ev_L} {st : List Value} {h : ev_H} {e : ev_E} (hf : ev_find I pc = some e) (ho : ev_one rt e ls st h = some (.inl c')) (n : ev_X d rt I c' z) : ev_X d rt I (pc, ls, st, h) z := by
  obtain ⟨n, hn⟩ := n
  exact ⟨n + 1, e, hf, Or.inl ⟨c', ho, hn⟩⟩
theorem ev_go : ∀ (k : Nat) {c : ev_S}, ev_nx rt I k c = some (.inl c') → ev_X d rt I c' z → ev_X d rt I c z
  | 0, (pc, ls, st, h), q, n => by
    unfold ev_nx at q
    split at q
    · rename_i e he
      exact ev_st1 he q n
    · cases q
  | k + 1, (pc, ls, st, h), q, n => by
    unfold ev_nx at q
    split at q
    · rename_i e he
      split at q
      · rename_i c1 h1
        exact ev_st1 he h1 (ev_go k q n)
      · cases q
    · cases q
theorem ev_ck (k : Nat) {P : Prop} {hd : Decidable P} (q : ev_nx rt I k c = if P then some (.inl c') else none) (hP : P) (n : ev_X d rt I c' z) : ev_X d rt I c z := ev_go k (q.trans (if_pos hP)) n
theorem ev_br (k : Nat) {P : Prop} {hd : Decidable P} {a b : Nat} {ls : ev_L} {st : List Value} {h : ev_H} (q : ev_nx rt I k c = some (.inl ((if P then a else b), ls, st, h))) (t : P → ev_X d rt I (a, ls, st, h) z) (f : ¬ P → ev_X d rt I (b, ls, st, h) z) : ev_X d rt I c z := by
  by_cases hp : P
  · rw [if_pos hp] at q; exact ev_go k q (t hp)
  · rw [if_neg hp] at q; exact ev_go k q (f hp)
theorem ev_bi (k : Nat) {P P' : Prop} (hi : P ↔ P') {hd : Decidable P} {a b : Nat} {ls : ev_L} {st : List Value} {h : ev_H} (q : ev_nx rt I k c = some (.inl ((if P then a else b), ls, st, h))) (t : P' → ev_X d rt I (a, ls, st, h) z) (f : ¬ P' → ev_X d rt I (b, ls, st, h) z) : ev_X d rt I c z :=
  ev_br k q (fun h => t (hi.mp h)) (fun h => f (fun x => h (hi.mpr x)))
theorem ev_rt : ∀ (k : Nat) {c : ev_S}, ev_nx rt I k c = some (.inr z) → ev_X d rt I c z
  | 0, (pc, ls, st, h), q => by
    unfold ev_nx at q
    split at q
    · rename_i e he
      exact ⟨1, e, he, Or.inr (Or.inl q)⟩
    · cases q
  | k + 1, (pc, ls, st, h), q => by
    unfold ev_nx at q
    split at q
    · rename_i e he
      split at q
      · rename_i c1 h1
        exact ev_st1 he h1 (ev_rt k q)
      · cases q
    · cases q
theorem ev_rk (k : Nat) {P : Prop} {hd : Decidable P} (q : ev_nx rt I k c = if P then some (.inr z) else none) (hP : P) : ev_X d rt I c z := ev_rt k (q.trans (if_pos hP))
theorem ev_cl1 {pc : Nat} {ls : ev_L} {st : List Value} {h : ev_H} {e : ev_E} {kk : Nat} {as rest : List Value} {w : ev_Z} (hf : ev_find I pc = some e) (hi : ev_inv e st h = some (kk, as, rest)) (hm : ev_M ev_mt d kk as h w) (n : ev_X d rt I (pc + 3, ls, w.1.toList ++ rest, w.2) z) : ev_X d rt I (pc, ls, st, h) z := by
  obtain ⟨n, hn⟩ := n
  exact ⟨n + 1, e, hf, Or.inr (Or.inr ⟨kk, as, rest, w, hi, hm, hn⟩)⟩
theorem ev_cal : ∀ (k : Nat) {c : ev_S} {kk : Nat} {as rest : List Value} {pc : Nat} {ls : ev_L} {st : List Value} {h : ev_H} {w : ev_Z}, ev_ci rt I k c = some (kk, as, rest, (pc, ls, st, h)) → ev_M ev_mt d kk as h w → ev_X d rt I (pc + 3, ls, w.1.toList ++ rest, w.2) z → ev_X d rt I c z
  | 0, (pc, ls, st, h), kk, as, rest, pc', ls', st', h', w, q, hm, n => by
    unfold ev_ci at q
    split at q
    · rename_i e he
      split at q
      · rename_i k1 as1 rest1 hi
        simp only [Option.some.injEq, Prod.mk.injEq] at q
        obtain ⟨rfl, rfl, rfl, rfl, rfl, rfl, rfl⟩ := q
        exact ev_cl1 he hi hm n
      · cases q
    · cases q
  | k + 1, (pc, ls, st, h), kk, as, rest, pc', ls', st', h', w, q, hm, n => by
    unfold ev_ci at q
    split at q
    · rename_i e he
      split at q
      · rename_i c1 h1
        exact ev_st1 he h1 (ev_cal k q hm n)
      · cases q
    · cases q
theorem ev_cli (k : Nat) {kk : Nat} {as rest : List Value} {pc : Nat} {ls : ev_L} {st : List Value} {h h' : ev_H} {r : Int32} (q : ev_ci rt I k c = some (kk, as, rest, (pc, ls, st, h))) (hm : ev_M ev_mt d kk as h (some (.int r), h')) (n : ev_X d rt I (pc + 3, ls, .int r :: rest, h') z) : ev_X d rt I c z := ev_cal k q hm n
theorem ev_cll (k : Nat) {kk : Nat} {as rest : List Value} {pc : Nat} {ls : ev_L} {st : List Value} {h h' : ev_H} {r : Int64} (q : ev_ci rt I k c = some (kk, as, rest, (pc, ls, st, h))) (hm : ev_M ev_mt d kk as h (some (.long r), h')) (n : ev_X d rt I (pc + 3, ls, .long r :: rest, h') z) : ev_X d rt I c z := ev_cal k q hm n
theorem ev_clv (k : Nat) {kk : Nat} {as rest : List Value} {pc : Nat} {ls : ev_L} {st : List Value} {h h' : ev_H} (q : ev_ci rt I k c = some (kk, as, rest, (pc, ls, st, h))) (hm : ev_M ev_mt d kk as h (none, h')) (n : ev_X d rt I (pc + 3, ls, rest, h') z) : ev_X d rt I c z := ev_cal k q hm n
theorem ev_clq (k : Nat) {kk : Nat} {as rest : List Value} {pc : Nat} {ls : ev_L} {st : List Value} {h h' : ev_H} {r : Option Nat} (q : ev_ci rt I k c = some (kk, as, rest, (pc, ls, st, h))) (hm : ev_M ev_mt d kk as h (some (va_rf r), h')) (n : ev_X d rt I (pc + 3, ls, va_rf r :: rest, h') z) : ev_X d rt I c z := ev_cal k q hm n
theorem ev_en {k : Nat} {o : String} {y : MethodName} {cc : ByteArray} {nL : Nat} {PM : List Nat} {as : List Value} {h : ev_H} (hk : ev_mt[k]? = some (o, y, cc, nL, rt, I, PM)) (hl : (ev_sl as).length ≤ nL) (n : ev_X d rt I (0, ev_ent nL as, [], h) z) : ev_M ev_mt (d + 1) k as h z := ⟨o, y, cc, nL, rt, I, PM, hk, hl, n⟩
end RUL
/-- fewer locals known -/
def ev_le : ev_L → ev_L → Prop
  | [], [] => True
  | none :: a, _ :: b => ev_le a b
  | some v :: a, some w :: b => v = w ∧ ev_le a b
  | _, _ => False
theorem ev_le_len : ∀ {a b : ev_L}, ev_le a b → a.length = b.length
  | [], [], _ => rfl
  | none :: a, _ :: b, h => congrArg Nat.succ (ev_le_len (a := a) (b := b) h)
  | some v :: a, some w :: b, h => congrArg Nat.succ (ev_le_len h.2)
  | [], _ :: _, h => by cases h
  | none :: _, [], h => by cases h
  | some _ :: _, [], h => by cases h
  | some _ :: _, none :: _, h => by cases h
theorem ev_le_at : ∀ {a b : ev_L}, ev_le a b → ∀ {i : Nat} {v : Value}, a[i]? = some (some v) → b[i]? = some (some v)
  | [], [], _, i, v, h => by simp at h
  | none :: a, _ :: b, hl, i, v, h => by
    cases i with
    | zero => simp at h
    | succ i => simpa using ev_le_at (a := a) (b := b) hl (i := i) (by simpa using h)
  | some x :: a, some w :: b, hl, i, v, h => by
    cases i with
    | zero => rw [← hl.1]; simpa using h
    | succ i => simpa using ev_le_at hl.2 (i := i) (by simpa using h)
  | [], _ :: _, hl, _, _, _ => by cases hl
  | none :: _, [], hl, _, _, _ => by cases hl
  | some _ :: _, [], hl, _, _, _ => by cases hl
  | some _ :: _, none :: _, hl, _, _, _ => by cases hl
theorem ev_le_of : ∀ {a b : ev_L}, a.length = b.length → (∀ (i : Nat) (v : Value), a[i]? = some (some v) → b[i]? = some (some v)) → ev_le a b
  | [], [], _, _ => trivial
  | [], _ :: _, h, _ => by simp at h
  | _ :: _, [], h, _ => by simp at h
  | none :: a, x :: b, h, hq => ev_le_of (a := a) (b := b) (by simpa using h) (fun i v hi => by simpa using hq (i + 1) v (by simpa using hi))
  | some v :: a, x :: b, h, hq => by
    have h0 := hq 0 v rfl
    simp only [List.getElem?_cons_zero, Option.some.injEq] at h0
    subst h0
    exact ⟨rfl, ev_le_of (by simpa using h) (fun i v hi => by simpa using hq (i + 1) v (by simpa using hi))⟩
theorem ev_le_ld {a b : ev_L} (hl : ev_le a b) {x : Nat} {v : Value} (h : ev_ld a x = some v) : ev_ld b x = some v := by
  unfold ev_ld at h
  split at h
  · rename_i w hw
    cases h
    unfold ev_ld
    rw [ev_le_at hl hw]
  · cases h
theorem ev_kl_keep {ls : ev_L} {x i : Nat} {v : Value} (h : ls[i]? = some (some v)) (hn : ¬ (i + 1 = x ∧ v.category = 2)) : (ev_kl ls x)[i]? = some (some v) := by
  unfold ev_kl
  split
  · exact h
  · rename_i j
    split
    · rename_i w hw
      split
      · rename_i hc
        by_cases e : i = j
        · subst e
          rw [hw] at h
          cases h
          exact absurd ⟨rfl, hc⟩ hn
        · rw [List.getElem?_set_ne (fun q => e q.symm)]
          exact h
      · exact h
    · exact h
theorem ev_le_s1 {a b : ev_L} (hl : ev_le a b) (x : Nat) (v : Value) : ev_le (ev_s1 a x v) (ev_s1 b x v) := by
  refine ev_le_of (by rw [ev_s1_len, ev_s1_len, ev_le_len hl]) (fun i w h => ?_)
  unfold ev_s1 at h ⊢
  have hlen : (ev_kl a x).length = (ev_kl b x).length := by rw [ev_kl_len, ev_kl_len, ev_le_len hl]
  by_cases e : i = x
  · subst e
    rw [List.getElem?_set] at h ⊢
    simp only [if_true] at h ⊢
    rw [← hlen]
    exact h
  · rw [List.getElem?_set_ne (fun q => e q.symm)] at h ⊢
    obtain ⟨h1, h2⟩ := ev_kl_get h
    exact ev_kl_keep (ev_le_at hl h1) h2
theorem ev_le_s2 {a b : ev_L} (hl : ev_le a b) (x : Nat) (v : Value) : ev_le (ev_s2 a x v) (ev_s2 b x v) := by
  have h1 := ev_le_s1 hl x v
  refine ev_le_of (by rw [ev_s2_len, ev_s2_len]; exact ev_le_len hl) (fun i w h => ?_)
  unfold ev_s2 at h ⊢
  by_cases e : i = x + 1
  · subst e
    rw [List.getElem?_set] at h
    simp at h
  · rw [List.getElem?_set_ne (fun q => e q.symm)] at h ⊢
    exact ev_le_at h1 h
theorem ev_le_o1 {e : ev_E} {a b : ev_L} (hl : ev_le a b) {st : List Value} {h : ev_H} {pc : Nat} {a' : ev_L} {st' : List Value} {h' : ev_H} (q : ev_o1 e a st h = some (.inl (pc, a', st', h'))) : ∃ b', ev_o1 e b st h = some (.inl (pc, b', st', h')) ∧ ev_le a' b' := by
  obtain ⟨pc0, i, len, x, tgt, cst, D, P⟩ := e
  cases i with
  | iconst _ | bipush _ | sipush _ | lconst _ | ldc _ | ldc_w _ | ldc2_w _ | aconst_null | getstatic _ =>
    simp only [ev_o1, ev_j, Option.some.injEq, Sum.inl.injEq, Prod.mk.injEq] at q ⊢
    obtain ⟨rfl, rfl, rfl, rfl⟩ := q
    exact ⟨b, ⟨rfl, rfl, rfl, rfl⟩, hl⟩
  | iload _ | iload_n _ | lload _ | lload_n _ =>
    simp only [ev_o1] at q ⊢
    split at q
    · rename_i v hv
      rw [ev_le_ld hl hv]
      simp only [ev_j, Option.some.injEq, Sum.inl.injEq, Prod.mk.injEq] at q ⊢
      obtain ⟨rfl, rfl, rfl, rfl⟩ := q
      exact ⟨b, ⟨rfl, rfl, rfl, rfl⟩, hl⟩
    · cases q
  | aload _ | aload_n _ =>
    simp only [ev_o1] at q ⊢
    split at q
    · rename_i v hv
      rw [ev_le_ld hl hv]
      simp only [ev_j, Option.some.injEq, Sum.inl.injEq, Prod.mk.injEq] at q ⊢
      obtain ⟨rfl, rfl, rfl, rfl⟩ := q
      exact ⟨b, ⟨rfl, rfl, rfl, rfl⟩, hl⟩
    · rename_i hv
      rw [ev_le_ld hl hv]
      simp only [ev_j, Option.some.injEq, Sum.inl.injEq, Prod.mk.injEq] at q ⊢
      obtain ⟨rfl, rfl, rfl, rfl⟩ := q
      exact ⟨b, ⟨rfl, rfl, rfl, rfl⟩, hl⟩
    · cases q
  | istore _ | istore_n _ =>
    simp only [ev_o1] at q ⊢
    split at q
    · split at q
      · rename_i hx
        rw [if_pos (ev_le_len hl ▸ hx)]
        simp only [ev_j, Option.some.injEq, Sum.inl.injEq, Prod.mk.injEq] at q ⊢
        obtain ⟨rfl, rfl, rfl, rfl⟩ := q
        exact ⟨_, ⟨rfl, rfl, rfl, rfl⟩, ev_le_s1 hl _ _⟩
      · cases q
    · cases q
  | lstore _ | lstore_n _ =>
    simp only [ev_o1] at q ⊢
    split at q
    · split at q
      · rename_i hx
        rw [if_pos (ev_le_len hl ▸ hx)]
        simp only [ev_j, Option.some.injEq, Sum.inl.injEq, Prod.mk.injEq] at q ⊢
        obtain ⟨rfl, rfl, rfl, rfl⟩ := q
        exact ⟨_, ⟨rfl, rfl, rfl, rfl⟩, ev_le_s2 hl _ _⟩
      · cases q
    · cases q
  | astore _ | astore_n _ =>
    simp only [ev_o1] at q ⊢
    split at q
    · split at q
      · rename_i hx
        rw [if_pos (ev_le_len hl ▸ hx)]
        simp only [ev_j, Option.some.injEq, Sum.inl.injEq, Prod.mk.injEq] at q ⊢
        obtain ⟨rfl, rfl, rfl, rfl⟩ := q
        exact ⟨_, ⟨rfl, rfl, rfl, rfl⟩, ev_le_s1 hl _ _⟩
      · cases q
    · split at q
      · rename_i hx
        rw [if_pos (ev_le_len hl ▸ hx)]
        simp only [ev_j, Option.some.injEq, Sum.inl.injEq, Prod.mk.injEq] at q ⊢
        obtain ⟨rfl, rfl, rfl, rfl⟩ := q
        exact ⟨_, ⟨rfl, rfl, rfl, rfl⟩, ev_le_s1 hl _ _⟩
      · cases q
    · cases q
  | iinc _ _ =>
    simp only [ev_o1] at q ⊢
    split at q
    · rename_i v w hv
      split at q
      · rename_i hx
        rw [ev_le_ld hl hv]
        dsimp only
        rw [if_pos (ev_le_len hl ▸ hx)]
        simp only [ev_j, Option.some.injEq, Sum.inl.injEq, Prod.mk.injEq] at q ⊢
        obtain ⟨rfl, rfl, rfl, rfl⟩ := q
        exact ⟨_, ⟨rfl, rfl, rfl, rfl⟩, ev_le_s1 hl _ _⟩
      · cases q
    · cases q
  | _ => simp [ev_o1] at q
def ev_put (ls : ev_L) (r : ev_S ⊕ ev_Z) : ev_S ⊕ ev_Z := match r with
  | .inl (pc, _, st, h) => .inl (pc, ls, st, h)
  | .inr z => .inr z
theorem ev_nat2 (e : ev_E) (ls : ev_L) (st : List Value) (h : ev_H) : ev_o2 e ls st h = (ev_o2 e [] st h).map (ev_put ls) := by
  obtain ⟨pc, i, len, x, tgt, cst, D, P⟩ := e
  unfold ev_o2
  dsimp only
  repeat' split
  all_goals first | rfl | contradiction | (simp_all; done)
theorem ev_nat3 (e : ev_E) (ls : ev_L) (st : List Value) (h : ev_H) : ev_o3 e ls st h = (ev_o3 e [] st h).map (ev_put ls) := by
  obtain ⟨pc, i, len, x, tgt, cst, D, P⟩ := e
  unfold ev_o3
  dsimp only
  repeat' split
  all_goals first | rfl | contradiction | (simp_all; done)
set_option maxHeartbeats 4000000 in
theorem ev_nat4 (e : ev_E) (ls : ev_L) (st : List Value) (h : ev_H) : ev_o4 e ls st h = (ev_o4 e [] st h).map (ev_put ls) := by
  obtain ⟨pc, i, len, x, tgt, cst, D, P⟩ := e
  unfold ev_o4
  dsimp only
  repeat' split
  all_goals first | rfl | contradiction | (simp_all; done)
set_option maxHeartbeats 4000000 in
theorem ev_nat5 (rt : Option FieldType) (e : ev_E) (ls : ev_L) (st : List Value) (h : ev_H) : ev_o5 rt e ls st h = (ev_o5 rt e [] st h).map (ev_put ls) := by
  obtain ⟨pc, i, len, x, tgt, cst, D, P⟩ := e
  unfold ev_o5
  dsimp only
  repeat' split
  all_goals first | rfl | contradiction | (simp_all; done)
theorem ev_one_nat {rt : Option FieldType} {e : ev_E} {ls : ev_L} {st : List Value} {h : ev_H} : ev_one rt e ls st h = ev_o1 e ls st h ∧ (∀ b, ev_one rt e b st h = ev_o1 e b st h) ∨ ∃ f : ev_L → Option (ev_S ⊕ ev_Z), (∀ b, ev_one rt e b st h = f b) ∧ ∀ b, f b = (f []).map (ev_put b) := by
  unfold ev_one
  split
  all_goals first
    | exact Or.inl ⟨rfl, fun _ => rfl⟩
    | exact Or.inr ⟨fun b => ev_o2 e b st h, fun _ => rfl, fun b => ev_nat2 e b st h⟩
    | exact Or.inr ⟨fun b => ev_o3 e b st h, fun _ => rfl, fun b => ev_nat3 e b st h⟩
    | exact Or.inr ⟨fun b => ev_o4 e b st h, fun _ => rfl, fun b => ev_nat4 e b st h⟩
    | exact Or.inr ⟨fun b => ev_o5 rt e b st h, fun _ => rfl, fun b => ev_nat5 rt e b st h⟩
theorem ev_le_one {rt : Option FieldType} {e : ev_E} {a b : ev_L} (hl : ev_le a b) {st : List Value} {h : ev_H} {t : ev_S} (q : ev_one rt e a st h = some (.inl t)) : ∃ b', ev_one rt e b st h = some (.inl (t.1, b', t.2.2.1, t.2.2.2)) ∧ ev_le t.2.1 b' := by
  obtain ⟨pc, a', st', h'⟩ := t
  rcases ev_one_nat (rt := rt) (e := e) (ls := a) (st := st) (h := h) with ⟨h1, h2⟩ | ⟨f, h1, h2⟩
  · rw [h1] at q
    rw [h2 b]
    exact ev_le_o1 hl q
  · rw [h1 a, h2 a] at q
    rw [h1 b, h2 b]
    cases hf : f [] with
    | none => rw [hf] at q; cases q
    | some r =>
      rw [hf] at q
      cases r with
      | inl t =>
        obtain ⟨p1, l1, s1, g1⟩ := t
        simp only [Option.map_some, ev_put, Option.some.injEq, Sum.inl.injEq, Prod.mk.injEq] at q ⊢
        obtain ⟨rfl, rfl, rfl, rfl⟩ := q
        exact ⟨b, ⟨rfl, rfl, rfl, rfl⟩, hl⟩
      | inr z => simp [ev_put] at q
theorem ev_le_ret {rt : Option FieldType} {e : ev_E} {a b : ev_L} {st : List Value} {h : ev_H} {z : ev_Z} (q : ev_one rt e a st h = some (.inr z)) : ev_one rt e b st h = some (.inr z) := by
  rcases ev_one_nat (rt := rt) (e := e) (ls := a) (st := st) (h := h) with ⟨h1, h2⟩ | ⟨f, h1, h2⟩
  · rw [h1] at q
    exact absurd q ev_n1
  · rw [h1 a, h2 a] at q
    rw [h1 b, h2 b]
    cases hf : f [] with
    | none => rw [hf] at q; cases q
    | some r =>
      rw [hf] at q
      cases r with
      | inl t => simp [ev_put] at q
      | inr z => simpa [ev_put] using q
theorem ev_le_R {cf : Nat → List Value → ev_H → ev_Z → Prop} {rt : Option FieldType} {I : List ev_E} : ∀ (n : Nat) {pc : Nat} {a b : ev_L} {st : List Value} {h : ev_H} {z : ev_Z}, ev_le a b → ev_R cf rt I n (pc, a, st, h) z → ev_R cf rt I n (pc, b, st, h) z
  | 0, _, _, _, _, _, _, _, q => by cases q
  | n + 1, pc, a, b, st, h, z, hl, q => by
    obtain ⟨e, hf, q⟩ := q
    refine ⟨e, hf, ?_⟩
    rcases q with ⟨t, h1, h2⟩ | h1 | ⟨k, as, rest, w, h1, h2, h3⟩
    · obtain ⟨b', g1, g2⟩ := ev_le_one hl h1
      exact Or.inl ⟨_, g1, ev_le_R n g2 h2⟩
    · exact Or.inr (Or.inl (ev_le_ret h1))
    · exact Or.inr (Or.inr ⟨k, as, rest, w, h1, h2, ev_le_R n hl h3⟩)
theorem ev_dr {d : Nat} {rt : Option FieldType} {I : List ev_E} {pc : Nat} {a b : ev_L} {st : List Value} {h : ev_H} {z : ev_Z} (hl : ev_le a b) (n : ev_X d rt I (pc, a, st, h) z) : ev_X d rt I (pc, b, st, h) z := by
  obtain ⟨n, hn⟩ := n
  exact ⟨n, ev_le_R n hl hn⟩
end
section
/-! ===== THE STATES of the class and of the reference, and their heaps (by program) ===== -/
abbrev SX_pg : Type := (Nat → Int32) × Int32 × Int32 × Int32 × Int32
abbrev SX_rg : Type := (Nat → Int32) × (Nat → Int32) × (Nat → Int32) × (Nat → Int32) × Int32 × Int32
abbrev SX_od : Type := (Nat → Int64) × (Nat → Int64) × (Nat → Nat → Int64) × Int32 × Int32
abbrev SX_pl : Type := (Nat → Option Nat) × (Nat → Bool) × (Nat → Nat) × (Nat → Int32) × (Nat → Int32) × (Nat → Int32) × (Nat → Int32) × (Nat → Int32) × (Nat → Int32)
abbrev SX_rd : Type := Int32 × Int32 × Int32 × Int32 × Int32 × Int32 × Int32 × Int32 × Int64
abbrev SX_nm : Type := (Nat → Int32) × Int32 × Int32 × Int32 × Int32 × Int32 × Int32 × Int32 × Int32 × Int32
abbrev SX_tp : Type := Int32 × Int32 × Int32 × Int32
abbrev SX : Type := SX_pg × SX_rg × SX_od × SX_pl × SX_rd × SX_nm × SX_tp
def gx_pg_signs (σ : SX) : Nat → Int32 := σ.1.1
def sx_pg_signs (σ : SX) (v : Nat → Int32) : SX := ((v, σ.1.2.1, σ.1.2.2.1, σ.1.2.2.2.1, σ.1.2.2.2.2), σ.2.1, σ.2.2.1, σ.2.2.2.1, σ.2.2.2.2.1, σ.2.2.2.2.2.1, σ.2.2.2.2.2.2)
def gx_pg_length (σ : SX) : Int32 := σ.1.2.1
def sx_pg_length (σ : SX) (v : Int32) : SX := ((σ.1.1, v, σ.1.2.2.1, σ.1.2.2.2.1, σ.1.2.2.2.2), σ.2.1, σ.2.2.1, σ.2.2.2.1, σ.2.2.2.2.1, σ.2.2.2.2.2.1, σ.2.2.2.2.2.2)
def gx_pg_row (σ : SX) : Int32 := σ.1.2.2.1
def sx_pg_row (σ : SX) (v : Int32) : SX := ((σ.1.1, σ.1.2.1, v, σ.1.2.2.2.1, σ.1.2.2.2.2), σ.2.1, σ.2.2.1, σ.2.2.2.1, σ.2.2.2.2.1, σ.2.2.2.2.2.1, σ.2.2.2.2.2.2)
def gx_pg_column (σ : SX) : Int32 := σ.1.2.2.2.1
def sx_pg_column (σ : SX) (v : Int32) : SX := ((σ.1.1, σ.1.2.1, σ.1.2.2.1, v, σ.1.2.2.2.2), σ.2.1, σ.2.2.1, σ.2.2.2.1, σ.2.2.2.2.1, σ.2.2.2.2.2.1, σ.2.2.2.2.2.2)
def gx_pg_width (σ : SX) : Int32 := σ.1.2.2.2.2
def sx_pg_width (σ : SX) (v : Int32) : SX := ((σ.1.1, σ.1.2.1, σ.1.2.2.1, σ.1.2.2.2.1, v), σ.2.1, σ.2.2.1, σ.2.2.2.1, σ.2.2.2.2.1, σ.2.2.2.2.2.1, σ.2.2.2.2.2.2)
def gx_rg_kinds (σ : SX) : Nat → Int32 := σ.2.1.1
def sx_rg_kinds (σ : SX) (v : Nat → Int32) : SX := (σ.1, (v, σ.2.1.2.1, σ.2.1.2.2.1, σ.2.1.2.2.2.1, σ.2.1.2.2.2.2.1, σ.2.1.2.2.2.2.2), σ.2.2.1, σ.2.2.2.1, σ.2.2.2.2.1, σ.2.2.2.2.2.1, σ.2.2.2.2.2.2)
def gx_rg_rows (σ : SX) : Nat → Int32 := σ.2.1.2.1
def sx_rg_rows (σ : SX) (v : Nat → Int32) : SX := (σ.1, (σ.2.1.1, v, σ.2.1.2.2.1, σ.2.1.2.2.2.1, σ.2.1.2.2.2.2.1, σ.2.1.2.2.2.2.2), σ.2.2.1, σ.2.2.2.1, σ.2.2.2.2.1, σ.2.2.2.2.2.1, σ.2.2.2.2.2.2)
def gx_rg_columns (σ : SX) : Nat → Int32 := σ.2.1.2.2.1
def sx_rg_columns (σ : SX) (v : Nat → Int32) : SX := (σ.1, (σ.2.1.1, σ.2.1.2.1, v, σ.2.1.2.2.2.1, σ.2.1.2.2.2.2.1, σ.2.1.2.2.2.2.2), σ.2.2.1, σ.2.2.2.1, σ.2.2.2.2.1, σ.2.2.2.2.2.1, σ.2.2.2.2.2.2)
def gx_rg_beside (σ : SX) : Nat → Int32 := σ.2.1.2.2.2.1
def sx_rg_beside (σ : SX) (v : Nat → Int32) : SX := (σ.1, (σ.2.1.1, σ.2.1.2.1, σ.2.1.2.2.1, v, σ.2.1.2.2.2.2.1, σ.2.1.2.2.2.2.2), σ.2.2.1, σ.2.2.2.1, σ.2.2.2.2.1, σ.2.2.2.2.2.1, σ.2.2.2.2.2.2)
def gx_rg_size (σ : SX) : Int32 := σ.2.1.2.2.2.2.1
def sx_rg_size (σ : SX) (v : Int32) : SX := (σ.1, (σ.2.1.1, σ.2.1.2.1, σ.2.1.2.2.1, σ.2.1.2.2.2.1, v, σ.2.1.2.2.2.2.2), σ.2.2.1, σ.2.2.2.1, σ.2.2.2.2.1, σ.2.2.2.2.2.1, σ.2.2.2.2.2.2)
def gx_rg_free (σ : SX) : Int32 := σ.2.1.2.2.2.2.2
def sx_rg_free (σ : SX) (v : Int32) : SX := (σ.1, (σ.2.1.1, σ.2.1.2.1, σ.2.1.2.2.1, σ.2.1.2.2.2.1, σ.2.1.2.2.2.2.1, v), σ.2.2.1, σ.2.2.2.1, σ.2.2.2.2.1, σ.2.2.2.2.2.1, σ.2.2.2.2.2.2)
def gx_od_weights (σ : SX) : Nat → Int64 := σ.2.2.1.1
def sx_od_weights (σ : SX) (v : Nat → Int64) : SX := (σ.1, σ.2.1, (v, σ.2.2.1.2.1, σ.2.2.1.2.2.1, σ.2.2.1.2.2.2.1, σ.2.2.1.2.2.2.2), σ.2.2.2.1, σ.2.2.2.2.1, σ.2.2.2.2.2.1, σ.2.2.2.2.2.2)
def gx_od_kept (σ : SX) : Nat → Int64 := σ.2.2.1.2.1
def sx_od_kept (σ : SX) (v : Nat → Int64) : SX := (σ.1, σ.2.1, (σ.2.2.1.1, v, σ.2.2.1.2.2.1, σ.2.2.1.2.2.2.1, σ.2.2.1.2.2.2.2), σ.2.2.2.1, σ.2.2.2.2.1, σ.2.2.2.2.2.1, σ.2.2.2.2.2.2)
def gx_od_outs (σ : SX) : Nat → Nat → Int64 := σ.2.2.1.2.2.1
def sx_od_outs (σ : SX) (v : Nat → Nat → Int64) : SX := (σ.1, σ.2.1, (σ.2.2.1.1, σ.2.2.1.2.1, v, σ.2.2.1.2.2.2.1, σ.2.2.1.2.2.2.2), σ.2.2.2.1, σ.2.2.2.2.1, σ.2.2.2.2.2.1, σ.2.2.2.2.2.2)
def gx_od_updates (σ : SX) : Int32 := σ.2.2.1.2.2.2.1
def sx_od_updates (σ : SX) (v : Int32) : SX := (σ.1, σ.2.1, (σ.2.2.1.1, σ.2.2.1.2.1, σ.2.2.1.2.2.1, v, σ.2.2.1.2.2.2.2), σ.2.2.2.1, σ.2.2.2.2.1, σ.2.2.2.2.2.1, σ.2.2.2.2.2.2)
def gx_od_keptUpdates (σ : SX) : Int32 := σ.2.2.1.2.2.2.2
def sx_od_keptUpdates (σ : SX) (v : Int32) : SX := (σ.1, σ.2.1, (σ.2.2.1.1, σ.2.2.1.2.1, σ.2.2.1.2.2.1, σ.2.2.1.2.2.2.1, v), σ.2.2.2.1, σ.2.2.2.2.1, σ.2.2.2.2.2.1, σ.2.2.2.2.2.2)
def gx_pl_arr (σ : SX) : Nat → Option Nat := σ.2.2.2.1.1
def sx_pl_arr (σ : SX) (v : Nat → Option Nat) : SX := (σ.1, σ.2.1, σ.2.2.1, (v, σ.2.2.2.1.2.1, σ.2.2.2.1.2.2.1, σ.2.2.2.1.2.2.2.1, σ.2.2.2.1.2.2.2.2.1, σ.2.2.2.1.2.2.2.2.2.1, σ.2.2.2.1.2.2.2.2.2.2.1, σ.2.2.2.1.2.2.2.2.2.2.2.1, σ.2.2.2.1.2.2.2.2.2.2.2.2), σ.2.2.2.2.1, σ.2.2.2.2.2.1, σ.2.2.2.2.2.2)
def gx_pl_ex (σ : SX) : Nat → Bool := σ.2.2.2.1.2.1
def sx_pl_ex (σ : SX) (v : Nat → Bool) : SX := (σ.1, σ.2.1, σ.2.2.1, (σ.2.2.2.1.1, v, σ.2.2.2.1.2.2.1, σ.2.2.2.1.2.2.2.1, σ.2.2.2.1.2.2.2.2.1, σ.2.2.2.1.2.2.2.2.2.1, σ.2.2.2.1.2.2.2.2.2.2.1, σ.2.2.2.1.2.2.2.2.2.2.2.1, σ.2.2.2.1.2.2.2.2.2.2.2.2), σ.2.2.2.2.1, σ.2.2.2.2.2.1, σ.2.2.2.2.2.2)
def gx_pl_kd (σ : SX) : Nat → Nat := σ.2.2.2.1.2.2.1
def sx_pl_kd (σ : SX) (v : Nat → Nat) : SX := (σ.1, σ.2.1, σ.2.2.1, (σ.2.2.2.1.1, σ.2.2.2.1.2.1, v, σ.2.2.2.1.2.2.2.1, σ.2.2.2.1.2.2.2.2.1, σ.2.2.2.1.2.2.2.2.2.1, σ.2.2.2.1.2.2.2.2.2.2.1, σ.2.2.2.1.2.2.2.2.2.2.2.1, σ.2.2.2.1.2.2.2.2.2.2.2.2), σ.2.2.2.2.1, σ.2.2.2.2.2.1, σ.2.2.2.2.2.2)
def gx_pl_told (σ : SX) : Nat → Int32 := σ.2.2.2.1.2.2.2.1
def sx_pl_told (σ : SX) (v : Nat → Int32) : SX := (σ.1, σ.2.1, σ.2.2.1, (σ.2.2.2.1.1, σ.2.2.2.1.2.1, σ.2.2.2.1.2.2.1, v, σ.2.2.2.1.2.2.2.2.1, σ.2.2.2.1.2.2.2.2.2.1, σ.2.2.2.1.2.2.2.2.2.2.1, σ.2.2.2.1.2.2.2.2.2.2.2.1, σ.2.2.2.1.2.2.2.2.2.2.2.2), σ.2.2.2.2.1, σ.2.2.2.2.2.1, σ.2.2.2.2.2.2)
def gx_pl_kept (σ : SX) : Nat → Int32 := σ.2.2.2.1.2.2.2.2.1
def sx_pl_kept (σ : SX) (v : Nat → Int32) : SX := (σ.1, σ.2.1, σ.2.2.1, (σ.2.2.2.1.1, σ.2.2.2.1.2.1, σ.2.2.2.1.2.2.1, σ.2.2.2.1.2.2.2.1, v, σ.2.2.2.1.2.2.2.2.2.1, σ.2.2.2.1.2.2.2.2.2.2.1, σ.2.2.2.1.2.2.2.2.2.2.2.1, σ.2.2.2.1.2.2.2.2.2.2.2.2), σ.2.2.2.2.1, σ.2.2.2.2.2.1, σ.2.2.2.2.2.2)
def gx_pl_at (σ : SX) : Nat → Int32 := σ.2.2.2.1.2.2.2.2.2.1
def sx_pl_at (σ : SX) (v : Nat → Int32) : SX := (σ.1, σ.2.1, σ.2.2.1, (σ.2.2.2.1.1, σ.2.2.2.1.2.1, σ.2.2.2.1.2.2.1, σ.2.2.2.1.2.2.2.1, σ.2.2.2.1.2.2.2.2.1, v, σ.2.2.2.1.2.2.2.2.2.2.1, σ.2.2.2.1.2.2.2.2.2.2.2.1, σ.2.2.2.1.2.2.2.2.2.2.2.2), σ.2.2.2.2.1, σ.2.2.2.2.2.1, σ.2.2.2.2.2.2)
def gx_pl_size (σ : SX) : Nat → Int32 := σ.2.2.2.1.2.2.2.2.2.2.1
def sx_pl_size (σ : SX) (v : Nat → Int32) : SX := (σ.1, σ.2.1, σ.2.2.1, (σ.2.2.2.1.1, σ.2.2.2.1.2.1, σ.2.2.2.1.2.2.1, σ.2.2.2.1.2.2.2.1, σ.2.2.2.1.2.2.2.2.1, σ.2.2.2.1.2.2.2.2.2.1, v, σ.2.2.2.1.2.2.2.2.2.2.2.1, σ.2.2.2.1.2.2.2.2.2.2.2.2), σ.2.2.2.2.1, σ.2.2.2.2.2.1, σ.2.2.2.2.2.2)
def gx_pl_cloth (σ : SX) : Nat → Int32 := σ.2.2.2.1.2.2.2.2.2.2.2.1
def sx_pl_cloth (σ : SX) (v : Nat → Int32) : SX := (σ.1, σ.2.1, σ.2.2.1, (σ.2.2.2.1.1, σ.2.2.2.1.2.1, σ.2.2.2.1.2.2.1, σ.2.2.2.1.2.2.2.1, σ.2.2.2.1.2.2.2.2.1, σ.2.2.2.1.2.2.2.2.2.1, σ.2.2.2.1.2.2.2.2.2.2.1, v, σ.2.2.2.1.2.2.2.2.2.2.2.2), σ.2.2.2.2.1, σ.2.2.2.2.2.1, σ.2.2.2.2.2.2)
def gx_pl_giggle (σ : SX) : Nat → Int32 := σ.2.2.2.1.2.2.2.2.2.2.2.2
def sx_pl_giggle (σ : SX) (v : Nat → Int32) : SX := (σ.1, σ.2.1, σ.2.2.1, (σ.2.2.2.1.1, σ.2.2.2.1.2.1, σ.2.2.2.1.2.2.1, σ.2.2.2.1.2.2.2.1, σ.2.2.2.1.2.2.2.2.1, σ.2.2.2.1.2.2.2.2.2.1, σ.2.2.2.1.2.2.2.2.2.2.1, σ.2.2.2.1.2.2.2.2.2.2.2.1, v), σ.2.2.2.2.1, σ.2.2.2.2.2.1, σ.2.2.2.2.2.2)
def gx_rd_firstCell (σ : SX) : Int32 := σ.2.2.2.2.1.1
def sx_rd_firstCell (σ : SX) (v : Int32) : SX := (σ.1, σ.2.1, σ.2.2.1, σ.2.2.2.1, (v, σ.2.2.2.2.1.2.1, σ.2.2.2.2.1.2.2.1, σ.2.2.2.2.1.2.2.2.1, σ.2.2.2.2.1.2.2.2.2.1, σ.2.2.2.2.1.2.2.2.2.2.1, σ.2.2.2.2.1.2.2.2.2.2.2.1, σ.2.2.2.2.1.2.2.2.2.2.2.2.1, σ.2.2.2.2.1.2.2.2.2.2.2.2.2), σ.2.2.2.2.2.1, σ.2.2.2.2.2.2)
def gx_rd_firstWay (σ : SX) : Int32 := σ.2.2.2.2.1.2.1
def sx_rd_firstWay (σ : SX) (v : Int32) : SX := (σ.1, σ.2.1, σ.2.2.1, σ.2.2.2.1, (σ.2.2.2.2.1.1, v, σ.2.2.2.2.1.2.2.1, σ.2.2.2.2.1.2.2.2.1, σ.2.2.2.2.1.2.2.2.2.1, σ.2.2.2.2.1.2.2.2.2.2.1, σ.2.2.2.2.1.2.2.2.2.2.2.1, σ.2.2.2.2.1.2.2.2.2.2.2.2.1, σ.2.2.2.2.1.2.2.2.2.2.2.2.2), σ.2.2.2.2.2.1, σ.2.2.2.2.2.2)
def gx_rd_drift (σ : SX) : Int32 := σ.2.2.2.2.1.2.2.1
def sx_rd_drift (σ : SX) (v : Int32) : SX := (σ.1, σ.2.1, σ.2.2.1, σ.2.2.2.1, (σ.2.2.2.2.1.1, σ.2.2.2.2.1.2.1, v, σ.2.2.2.2.1.2.2.2.1, σ.2.2.2.2.1.2.2.2.2.1, σ.2.2.2.2.1.2.2.2.2.2.1, σ.2.2.2.2.1.2.2.2.2.2.2.1, σ.2.2.2.2.1.2.2.2.2.2.2.2.1, σ.2.2.2.2.1.2.2.2.2.2.2.2.2), σ.2.2.2.2.2.1, σ.2.2.2.2.2.2)
def gx_rd_tenths (σ : SX) : Int32 := σ.2.2.2.2.1.2.2.2.1
def sx_rd_tenths (σ : SX) (v : Int32) : SX := (σ.1, σ.2.1, σ.2.2.1, σ.2.2.2.1, (σ.2.2.2.2.1.1, σ.2.2.2.2.1.2.1, σ.2.2.2.2.1.2.2.1, v, σ.2.2.2.2.1.2.2.2.2.1, σ.2.2.2.2.1.2.2.2.2.2.1, σ.2.2.2.2.1.2.2.2.2.2.2.1, σ.2.2.2.2.1.2.2.2.2.2.2.2.1, σ.2.2.2.2.1.2.2.2.2.2.2.2.2), σ.2.2.2.2.2.1, σ.2.2.2.2.2.2)
def gx_rd_hisCell (σ : SX) : Int32 := σ.2.2.2.2.1.2.2.2.2.1
def sx_rd_hisCell (σ : SX) (v : Int32) : SX := (σ.1, σ.2.1, σ.2.2.1, σ.2.2.2.1, (σ.2.2.2.2.1.1, σ.2.2.2.2.1.2.1, σ.2.2.2.2.1.2.2.1, σ.2.2.2.2.1.2.2.2.1, v, σ.2.2.2.2.1.2.2.2.2.2.1, σ.2.2.2.2.1.2.2.2.2.2.2.1, σ.2.2.2.2.1.2.2.2.2.2.2.2.1, σ.2.2.2.2.1.2.2.2.2.2.2.2.2), σ.2.2.2.2.2.1, σ.2.2.2.2.2.2)
def gx_rd_hisWay (σ : SX) : Int32 := σ.2.2.2.2.1.2.2.2.2.2.1
def sx_rd_hisWay (σ : SX) (v : Int32) : SX := (σ.1, σ.2.1, σ.2.2.1, σ.2.2.2.1, (σ.2.2.2.2.1.1, σ.2.2.2.2.1.2.1, σ.2.2.2.2.1.2.2.1, σ.2.2.2.2.1.2.2.2.1, σ.2.2.2.2.1.2.2.2.2.1, v, σ.2.2.2.2.1.2.2.2.2.2.2.1, σ.2.2.2.2.1.2.2.2.2.2.2.2.1, σ.2.2.2.2.1.2.2.2.2.2.2.2.2), σ.2.2.2.2.2.1, σ.2.2.2.2.2.2)
def gx_rd_tenth (σ : SX) : Int32 := σ.2.2.2.2.1.2.2.2.2.2.2.1
def sx_rd_tenth (σ : SX) (v : Int32) : SX := (σ.1, σ.2.1, σ.2.2.1, σ.2.2.2.1, (σ.2.2.2.2.1.1, σ.2.2.2.2.1.2.1, σ.2.2.2.2.1.2.2.1, σ.2.2.2.2.1.2.2.2.1, σ.2.2.2.2.1.2.2.2.2.1, σ.2.2.2.2.1.2.2.2.2.2.1, v, σ.2.2.2.2.1.2.2.2.2.2.2.2.1, σ.2.2.2.2.1.2.2.2.2.2.2.2.2), σ.2.2.2.2.2.1, σ.2.2.2.2.2.2)
def gx_rd_touched (σ : SX) : Int32 := σ.2.2.2.2.1.2.2.2.2.2.2.2.1
def sx_rd_touched (σ : SX) (v : Int32) : SX := (σ.1, σ.2.1, σ.2.2.1, σ.2.2.2.1, (σ.2.2.2.2.1.1, σ.2.2.2.2.1.2.1, σ.2.2.2.2.1.2.2.1, σ.2.2.2.2.1.2.2.2.1, σ.2.2.2.2.1.2.2.2.2.1, σ.2.2.2.2.1.2.2.2.2.2.1, σ.2.2.2.2.1.2.2.2.2.2.2.1, v, σ.2.2.2.2.1.2.2.2.2.2.2.2.2), σ.2.2.2.2.2.1, σ.2.2.2.2.2.2)
def gx_rd_seed (σ : SX) : Int64 := σ.2.2.2.2.1.2.2.2.2.2.2.2.2
def sx_rd_seed (σ : SX) (v : Int64) : SX := (σ.1, σ.2.1, σ.2.2.1, σ.2.2.2.1, (σ.2.2.2.2.1.1, σ.2.2.2.2.1.2.1, σ.2.2.2.2.1.2.2.1, σ.2.2.2.2.1.2.2.2.1, σ.2.2.2.2.1.2.2.2.2.1, σ.2.2.2.2.1.2.2.2.2.2.1, σ.2.2.2.2.1.2.2.2.2.2.2.1, σ.2.2.2.2.1.2.2.2.2.2.2.2.1, v), σ.2.2.2.2.2.1, σ.2.2.2.2.2.2)
def gx_nm_weights (σ : SX) : Nat → Int32 := σ.2.2.2.2.2.1.1
def sx_nm_weights (σ : SX) (v : Nat → Int32) : SX := (σ.1, σ.2.1, σ.2.2.1, σ.2.2.2.1, σ.2.2.2.2.1, (v, σ.2.2.2.2.2.1.2.1, σ.2.2.2.2.2.1.2.2.1, σ.2.2.2.2.2.1.2.2.2.1, σ.2.2.2.2.2.1.2.2.2.2.1, σ.2.2.2.2.2.1.2.2.2.2.2.1, σ.2.2.2.2.2.1.2.2.2.2.2.2.1, σ.2.2.2.2.2.1.2.2.2.2.2.2.2.1, σ.2.2.2.2.2.1.2.2.2.2.2.2.2.2.1, σ.2.2.2.2.2.1.2.2.2.2.2.2.2.2.2), σ.2.2.2.2.2.2)
def gx_nm_sizeOff (σ : SX) : Int32 := σ.2.2.2.2.2.1.2.1
def sx_nm_sizeOff (σ : SX) (v : Int32) : SX := (σ.1, σ.2.1, σ.2.2.1, σ.2.2.2.1, σ.2.2.2.2.1, (σ.2.2.2.2.2.1.1, v, σ.2.2.2.2.2.1.2.2.1, σ.2.2.2.2.2.1.2.2.2.1, σ.2.2.2.2.2.1.2.2.2.2.1, σ.2.2.2.2.2.1.2.2.2.2.2.1, σ.2.2.2.2.2.1.2.2.2.2.2.2.1, σ.2.2.2.2.2.1.2.2.2.2.2.2.2.1, σ.2.2.2.2.2.1.2.2.2.2.2.2.2.2.1, σ.2.2.2.2.2.1.2.2.2.2.2.2.2.2.2), σ.2.2.2.2.2.2)
def gx_nm_clothRight (σ : SX) : Int32 := σ.2.2.2.2.2.1.2.2.1
def sx_nm_clothRight (σ : SX) (v : Int32) : SX := (σ.1, σ.2.1, σ.2.2.1, σ.2.2.2.1, σ.2.2.2.2.1, (σ.2.2.2.2.2.1.1, σ.2.2.2.2.2.1.2.1, v, σ.2.2.2.2.2.1.2.2.2.1, σ.2.2.2.2.2.1.2.2.2.2.1, σ.2.2.2.2.2.1.2.2.2.2.2.1, σ.2.2.2.2.2.1.2.2.2.2.2.2.1, σ.2.2.2.2.2.1.2.2.2.2.2.2.2.1, σ.2.2.2.2.2.1.2.2.2.2.2.2.2.2.1, σ.2.2.2.2.2.1.2.2.2.2.2.2.2.2.2), σ.2.2.2.2.2.2)
def gx_nm_giggleRight (σ : SX) : Int32 := σ.2.2.2.2.2.1.2.2.2.1
def sx_nm_giggleRight (σ : SX) (v : Int32) : SX := (σ.1, σ.2.1, σ.2.2.1, σ.2.2.2.1, σ.2.2.2.2.1, (σ.2.2.2.2.2.1.1, σ.2.2.2.2.2.1.2.1, σ.2.2.2.2.2.1.2.2.1, v, σ.2.2.2.2.2.1.2.2.2.2.1, σ.2.2.2.2.2.1.2.2.2.2.2.1, σ.2.2.2.2.2.1.2.2.2.2.2.2.1, σ.2.2.2.2.2.1.2.2.2.2.2.2.2.1, σ.2.2.2.2.2.1.2.2.2.2.2.2.2.2.1, σ.2.2.2.2.2.1.2.2.2.2.2.2.2.2.2), σ.2.2.2.2.2.2)
def gx_nm_first (σ : SX) : Int32 := σ.2.2.2.2.2.1.2.2.2.2.1
def sx_nm_first (σ : SX) (v : Int32) : SX := (σ.1, σ.2.1, σ.2.2.1, σ.2.2.2.1, σ.2.2.2.2.1, (σ.2.2.2.2.2.1.1, σ.2.2.2.2.2.1.2.1, σ.2.2.2.2.2.1.2.2.1, σ.2.2.2.2.2.1.2.2.2.1, v, σ.2.2.2.2.2.1.2.2.2.2.2.1, σ.2.2.2.2.2.1.2.2.2.2.2.2.1, σ.2.2.2.2.2.1.2.2.2.2.2.2.2.1, σ.2.2.2.2.2.1.2.2.2.2.2.2.2.2.1, σ.2.2.2.2.2.1.2.2.2.2.2.2.2.2.2), σ.2.2.2.2.2.2)
def gx_nm_second (σ : SX) : Int32 := σ.2.2.2.2.2.1.2.2.2.2.2.1
def sx_nm_second (σ : SX) (v : Int32) : SX := (σ.1, σ.2.1, σ.2.2.1, σ.2.2.2.1, σ.2.2.2.2.1, (σ.2.2.2.2.2.1.1, σ.2.2.2.2.2.1.2.1, σ.2.2.2.2.2.1.2.2.1, σ.2.2.2.2.2.1.2.2.2.1, σ.2.2.2.2.2.1.2.2.2.2.1, v, σ.2.2.2.2.2.1.2.2.2.2.2.2.1, σ.2.2.2.2.2.1.2.2.2.2.2.2.2.1, σ.2.2.2.2.2.1.2.2.2.2.2.2.2.2.1, σ.2.2.2.2.2.1.2.2.2.2.2.2.2.2.2), σ.2.2.2.2.2.2)
def gx_nm_changed (σ : SX) : Int32 := σ.2.2.2.2.2.1.2.2.2.2.2.2.1
def sx_nm_changed (σ : SX) (v : Int32) : SX := (σ.1, σ.2.1, σ.2.2.1, σ.2.2.2.1, σ.2.2.2.2.1, (σ.2.2.2.2.2.1.1, σ.2.2.2.2.2.1.2.1, σ.2.2.2.2.2.1.2.2.1, σ.2.2.2.2.2.1.2.2.2.1, σ.2.2.2.2.2.1.2.2.2.2.1, σ.2.2.2.2.2.1.2.2.2.2.2.1, v, σ.2.2.2.2.2.1.2.2.2.2.2.2.2.1, σ.2.2.2.2.2.1.2.2.2.2.2.2.2.2.1, σ.2.2.2.2.2.1.2.2.2.2.2.2.2.2.2), σ.2.2.2.2.2.2)
def gx_nm_keptFirst (σ : SX) : Int32 := σ.2.2.2.2.2.1.2.2.2.2.2.2.2.1
def sx_nm_keptFirst (σ : SX) (v : Int32) : SX := (σ.1, σ.2.1, σ.2.2.1, σ.2.2.2.1, σ.2.2.2.2.1, (σ.2.2.2.2.2.1.1, σ.2.2.2.2.2.1.2.1, σ.2.2.2.2.2.1.2.2.1, σ.2.2.2.2.2.1.2.2.2.1, σ.2.2.2.2.2.1.2.2.2.2.1, σ.2.2.2.2.2.1.2.2.2.2.2.1, σ.2.2.2.2.2.1.2.2.2.2.2.2.1, v, σ.2.2.2.2.2.1.2.2.2.2.2.2.2.2.1, σ.2.2.2.2.2.1.2.2.2.2.2.2.2.2.2), σ.2.2.2.2.2.2)
def gx_nm_keptSecond (σ : SX) : Int32 := σ.2.2.2.2.2.1.2.2.2.2.2.2.2.2.1
def sx_nm_keptSecond (σ : SX) (v : Int32) : SX := (σ.1, σ.2.1, σ.2.2.1, σ.2.2.2.1, σ.2.2.2.2.1, (σ.2.2.2.2.2.1.1, σ.2.2.2.2.2.1.2.1, σ.2.2.2.2.2.1.2.2.1, σ.2.2.2.2.2.1.2.2.2.1, σ.2.2.2.2.2.1.2.2.2.2.1, σ.2.2.2.2.2.1.2.2.2.2.2.1, σ.2.2.2.2.2.1.2.2.2.2.2.2.1, σ.2.2.2.2.2.1.2.2.2.2.2.2.2.1, v, σ.2.2.2.2.2.1.2.2.2.2.2.2.2.2.2), σ.2.2.2.2.2.2)
def gx_nm_keptChanged (σ : SX) : Int32 := σ.2.2.2.2.2.1.2.2.2.2.2.2.2.2.2
def sx_nm_keptChanged (σ : SX) (v : Int32) : SX := (σ.1, σ.2.1, σ.2.2.1, σ.2.2.2.1, σ.2.2.2.2.1, (σ.2.2.2.2.2.1.1, σ.2.2.2.2.2.1.2.1, σ.2.2.2.2.2.1.2.2.1, σ.2.2.2.2.2.1.2.2.2.1, σ.2.2.2.2.2.1.2.2.2.2.1, σ.2.2.2.2.2.1.2.2.2.2.2.1, σ.2.2.2.2.2.1.2.2.2.2.2.2.1, σ.2.2.2.2.2.1.2.2.2.2.2.2.2.1, σ.2.2.2.2.2.1.2.2.2.2.2.2.2.2.1, v), σ.2.2.2.2.2.2)
def gx_tp_playing (σ : SX) : Int32 := σ.2.2.2.2.2.2.1
def sx_tp_playing (σ : SX) (v : Int32) : SX := (σ.1, σ.2.1, σ.2.2.1, σ.2.2.2.1, σ.2.2.2.2.1, σ.2.2.2.2.2.1, (v, σ.2.2.2.2.2.2.2.1, σ.2.2.2.2.2.2.2.2.1, σ.2.2.2.2.2.2.2.2.2))
def gx_tp_ringsRead (σ : SX) : Int32 := σ.2.2.2.2.2.2.2.1
def sx_tp_ringsRead (σ : SX) (v : Int32) : SX := (σ.1, σ.2.1, σ.2.2.1, σ.2.2.2.1, σ.2.2.2.2.1, σ.2.2.2.2.2.1, (σ.2.2.2.2.2.2.1, v, σ.2.2.2.2.2.2.2.2.1, σ.2.2.2.2.2.2.2.2.2))
def gx_tp_standsDone (σ : SX) : Int32 := σ.2.2.2.2.2.2.2.2.1
def sx_tp_standsDone (σ : SX) (v : Int32) : SX := (σ.1, σ.2.1, σ.2.2.1, σ.2.2.2.1, σ.2.2.2.2.1, σ.2.2.2.2.2.1, (σ.2.2.2.2.2.2.1, σ.2.2.2.2.2.2.2.1, v, σ.2.2.2.2.2.2.2.2.2))
def gx_tp_imageKept (σ : SX) : Int32 := σ.2.2.2.2.2.2.2.2.2
def sx_tp_imageKept (σ : SX) (v : Int32) : SX := (σ.1, σ.2.1, σ.2.2.1, σ.2.2.2.1, σ.2.2.2.2.1, σ.2.2.2.2.2.1, (σ.2.2.2.2.2.2.1, σ.2.2.2.2.2.2.2.1, σ.2.2.2.2.2.2.2.2.1, v))
abbrev SM_rg : Type := Int32 × Int32 × Int32 × (Nat → Int32)
abbrev SM_od : Type := (Nat → Int64) × (Nat → Int64) × Int32
abbrev SM_pl : Type := Int32 × (Nat → Int32) × (Nat → Int32) × (Nat → Int32) × (Nat → Int32) × (Nat → Int32)
abbrev SM_nm : Type := Int32 × Int32 × Int32 × Int32 × Int32 × Int32 × Int32
abbrev SM_pg : Type := Int32 × (Nat → Int32)
abbrev SM_kp : Type := Int32 × Int32 × Int32 × Int32 × Int32 × Int32 × Int32 × (Nat → Int64) × (Nat → Int32)
abbrev SM_rp : Type := Int32 × Int32 × Int32 × Int32 × (Nat → Int32) × Int32
abbrev SM_gm : Type := Int32 × Int32 × Int64 × (Nat → Int32) × Int32 × Int32 × Int64
abbrev SM : Type := SM_rg × SM_od × SM_pl × SM_nm × SM_pg × SM_kp × SM_rp × SM_gm
def gm_rg_rows (σ : SM) : Int32 := σ.1.1
def sm_rg_rows (σ : SM) (v : Int32) : SM := ((v, σ.1.2.1, σ.1.2.2.1, σ.1.2.2.2), σ.2.1, σ.2.2.1, σ.2.2.2.1, σ.2.2.2.2.1, σ.2.2.2.2.2.1, σ.2.2.2.2.2.2.1, σ.2.2.2.2.2.2.2)
def gm_rg_columns (σ : SM) : Int32 := σ.1.2.1
def sm_rg_columns (σ : SM) (v : Int32) : SM := ((σ.1.1, v, σ.1.2.2.1, σ.1.2.2.2), σ.2.1, σ.2.2.1, σ.2.2.2.1, σ.2.2.2.2.1, σ.2.2.2.2.2.1, σ.2.2.2.2.2.2.1, σ.2.2.2.2.2.2.2)
def gm_rg_rings (σ : SM) : Int32 := σ.1.2.2.1
def sm_rg_rings (σ : SM) (v : Int32) : SM := ((σ.1.1, σ.1.2.1, v, σ.1.2.2.2), σ.2.1, σ.2.2.1, σ.2.2.2.1, σ.2.2.2.2.1, σ.2.2.2.2.2.1, σ.2.2.2.2.2.2.1, σ.2.2.2.2.2.2.2)
def gm_rg_cellOf (σ : SM) : Nat → Int32 := σ.1.2.2.2
def sm_rg_cellOf (σ : SM) (v : Nat → Int32) : SM := ((σ.1.1, σ.1.2.1, σ.1.2.2.1, v), σ.2.1, σ.2.2.1, σ.2.2.2.1, σ.2.2.2.2.1, σ.2.2.2.2.2.1, σ.2.2.2.2.2.2.1, σ.2.2.2.2.2.2.2)
def gm_od_weight (σ : SM) : Nat → Int64 := σ.2.1.1
def sm_od_weight (σ : SM) (v : Nat → Int64) : SM := (σ.1, (v, σ.2.1.2.1, σ.2.1.2.2), σ.2.2.1, σ.2.2.2.1, σ.2.2.2.2.1, σ.2.2.2.2.2.1, σ.2.2.2.2.2.2.1, σ.2.2.2.2.2.2.2)
def gm_od_then (σ : SM) : Nat → Int64 := σ.2.1.2.1
def sm_od_then (σ : SM) (v : Nat → Int64) : SM := (σ.1, (σ.2.1.1, v, σ.2.1.2.2), σ.2.2.1, σ.2.2.2.1, σ.2.2.2.2.1, σ.2.2.2.2.2.1, σ.2.2.2.2.2.2.1, σ.2.2.2.2.2.2.2)
def gm_od_updates (σ : SM) : Int32 := σ.2.1.2.2
def sm_od_updates (σ : SM) (v : Int32) : SM := (σ.1, (σ.2.1.1, σ.2.1.2.1, v), σ.2.2.1, σ.2.2.2.1, σ.2.2.2.2.1, σ.2.2.2.2.2.1, σ.2.2.2.2.2.2.1, σ.2.2.2.2.2.2.2)
def gm_pl_players (σ : SM) : Int32 := σ.2.2.1.1
def sm_pl_players (σ : SM) (v : Int32) : SM := (σ.1, σ.2.1, (v, σ.2.2.1.2.1, σ.2.2.1.2.2.1, σ.2.2.1.2.2.2.1, σ.2.2.1.2.2.2.2.1, σ.2.2.1.2.2.2.2.2), σ.2.2.2.1, σ.2.2.2.2.1, σ.2.2.2.2.2.1, σ.2.2.2.2.2.2.1, σ.2.2.2.2.2.2.2)
def gm_pl_kindOf (σ : SM) : Nat → Int32 := σ.2.2.1.2.1
def sm_pl_kindOf (σ : SM) (v : Nat → Int32) : SM := (σ.1, σ.2.1, (σ.2.2.1.1, v, σ.2.2.1.2.2.1, σ.2.2.1.2.2.2.1, σ.2.2.1.2.2.2.2.1, σ.2.2.1.2.2.2.2.2), σ.2.2.2.1, σ.2.2.2.2.1, σ.2.2.2.2.2.1, σ.2.2.2.2.2.2.1, σ.2.2.2.2.2.2.2)
def gm_pl_placeOf (σ : SM) : Nat → Int32 := σ.2.2.1.2.2.1
def sm_pl_placeOf (σ : SM) (v : Nat → Int32) : SM := (σ.1, σ.2.1, (σ.2.2.1.1, σ.2.2.1.2.1, v, σ.2.2.1.2.2.2.1, σ.2.2.1.2.2.2.2.1, σ.2.2.1.2.2.2.2.2), σ.2.2.2.1, σ.2.2.2.2.1, σ.2.2.2.2.2.1, σ.2.2.2.2.2.2.1, σ.2.2.2.2.2.2.2)
def gm_pl_sizeOf (σ : SM) : Nat → Int32 := σ.2.2.1.2.2.2.1
def sm_pl_sizeOf (σ : SM) (v : Nat → Int32) : SM := (σ.1, σ.2.1, (σ.2.2.1.1, σ.2.2.1.2.1, σ.2.2.1.2.2.1, v, σ.2.2.1.2.2.2.2.1, σ.2.2.1.2.2.2.2.2), σ.2.2.2.1, σ.2.2.2.2.1, σ.2.2.2.2.2.1, σ.2.2.2.2.2.2.1, σ.2.2.2.2.2.2.2)
def gm_pl_clothOf (σ : SM) : Nat → Int32 := σ.2.2.1.2.2.2.2.1
def sm_pl_clothOf (σ : SM) (v : Nat → Int32) : SM := (σ.1, σ.2.1, (σ.2.2.1.1, σ.2.2.1.2.1, σ.2.2.1.2.2.1, σ.2.2.1.2.2.2.1, v, σ.2.2.1.2.2.2.2.2), σ.2.2.2.1, σ.2.2.2.2.1, σ.2.2.2.2.2.1, σ.2.2.2.2.2.2.1, σ.2.2.2.2.2.2.2)
def gm_pl_giggleOf (σ : SM) : Nat → Int32 := σ.2.2.1.2.2.2.2.2
def sm_pl_giggleOf (σ : SM) (v : Nat → Int32) : SM := (σ.1, σ.2.1, (σ.2.2.1.1, σ.2.2.1.2.1, σ.2.2.1.2.2.1, σ.2.2.1.2.2.2.1, σ.2.2.1.2.2.2.2.1, v), σ.2.2.2.1, σ.2.2.2.2.1, σ.2.2.2.2.2.1, σ.2.2.2.2.2.2.1, σ.2.2.2.2.2.2.2)
def gm_nm_unsure (σ : SM) : Int32 := σ.2.2.2.1.1
def sm_nm_unsure (σ : SM) (v : Int32) : SM := (σ.1, σ.2.1, σ.2.2.1, (v, σ.2.2.2.1.2.1, σ.2.2.2.1.2.2.1, σ.2.2.2.1.2.2.2.1, σ.2.2.2.1.2.2.2.2.1, σ.2.2.2.1.2.2.2.2.2.1, σ.2.2.2.1.2.2.2.2.2.2), σ.2.2.2.2.1, σ.2.2.2.2.2.1, σ.2.2.2.2.2.2.1, σ.2.2.2.2.2.2.2)
def gm_nm_clothRight (σ : SM) : Int32 := σ.2.2.2.1.2.1
def sm_nm_clothRight (σ : SM) (v : Int32) : SM := (σ.1, σ.2.1, σ.2.2.1, (σ.2.2.2.1.1, v, σ.2.2.2.1.2.2.1, σ.2.2.2.1.2.2.2.1, σ.2.2.2.1.2.2.2.2.1, σ.2.2.2.1.2.2.2.2.2.1, σ.2.2.2.1.2.2.2.2.2.2), σ.2.2.2.2.1, σ.2.2.2.2.2.1, σ.2.2.2.2.2.2.1, σ.2.2.2.2.2.2.2)
def gm_nm_giggleRight (σ : SM) : Int32 := σ.2.2.2.1.2.2.1
def sm_nm_giggleRight (σ : SM) (v : Int32) : SM := (σ.1, σ.2.1, σ.2.2.1, (σ.2.2.2.1.1, σ.2.2.2.1.2.1, v, σ.2.2.2.1.2.2.2.1, σ.2.2.2.1.2.2.2.2.1, σ.2.2.2.1.2.2.2.2.2.1, σ.2.2.2.1.2.2.2.2.2.2), σ.2.2.2.2.1, σ.2.2.2.2.2.1, σ.2.2.2.2.2.2.1, σ.2.2.2.2.2.2.2)
def gm_nm_jacketA (σ : SM) : Int32 := σ.2.2.2.1.2.2.2.1
def sm_nm_jacketA (σ : SM) (v : Int32) : SM := (σ.1, σ.2.1, σ.2.2.1, (σ.2.2.2.1.1, σ.2.2.2.1.2.1, σ.2.2.2.1.2.2.1, v, σ.2.2.2.1.2.2.2.2.1, σ.2.2.2.1.2.2.2.2.2.1, σ.2.2.2.1.2.2.2.2.2.2), σ.2.2.2.2.1, σ.2.2.2.2.2.1, σ.2.2.2.2.2.2.1, σ.2.2.2.2.2.2.2)
def gm_nm_jacketB (σ : SM) : Int32 := σ.2.2.2.1.2.2.2.2.1
def sm_nm_jacketB (σ : SM) (v : Int32) : SM := (σ.1, σ.2.1, σ.2.2.1, (σ.2.2.2.1.1, σ.2.2.2.1.2.1, σ.2.2.2.1.2.2.1, σ.2.2.2.1.2.2.2.1, v, σ.2.2.2.1.2.2.2.2.2.1, σ.2.2.2.1.2.2.2.2.2.2), σ.2.2.2.2.1, σ.2.2.2.2.2.1, σ.2.2.2.2.2.2.1, σ.2.2.2.2.2.2.2)
def gm_nm_jacketTenths (σ : SM) : Int32 := σ.2.2.2.1.2.2.2.2.2.1
def sm_nm_jacketTenths (σ : SM) (v : Int32) : SM := (σ.1, σ.2.1, σ.2.2.1, (σ.2.2.2.1.1, σ.2.2.2.1.2.1, σ.2.2.2.1.2.2.1, σ.2.2.2.1.2.2.2.1, σ.2.2.2.1.2.2.2.2.1, v, σ.2.2.2.1.2.2.2.2.2.2), σ.2.2.2.2.1, σ.2.2.2.2.2.1, σ.2.2.2.2.2.2.1, σ.2.2.2.2.2.2.2)
def gm_nm_asks (σ : SM) : Int32 := σ.2.2.2.1.2.2.2.2.2.2
def sm_nm_asks (σ : SM) (v : Int32) : SM := (σ.1, σ.2.1, σ.2.2.1, (σ.2.2.2.1.1, σ.2.2.2.1.2.1, σ.2.2.2.1.2.2.1, σ.2.2.2.1.2.2.2.1, σ.2.2.2.1.2.2.2.2.1, σ.2.2.2.1.2.2.2.2.2.1, v), σ.2.2.2.2.1, σ.2.2.2.2.2.1, σ.2.2.2.2.2.2.1, σ.2.2.2.2.2.2.2)
def gm_pg_pageLength (σ : SM) : Int32 := σ.2.2.2.2.1.1
def sm_pg_pageLength (σ : SM) (v : Int32) : SM := (σ.1, σ.2.1, σ.2.2.1, σ.2.2.2.1, (v, σ.2.2.2.2.1.2), σ.2.2.2.2.2.1, σ.2.2.2.2.2.2.1, σ.2.2.2.2.2.2.2)
def gm_pg_page (σ : SM) : Nat → Int32 := σ.2.2.2.2.1.2
def sm_pg_page (σ : SM) (v : Nat → Int32) : SM := (σ.1, σ.2.1, σ.2.2.1, σ.2.2.2.1, (σ.2.2.2.2.1.1, v), σ.2.2.2.2.2.1, σ.2.2.2.2.2.2.1, σ.2.2.2.2.2.2.2)
def gm_kp_isKept (σ : SM) : Int32 := σ.2.2.2.2.2.1.1
def sm_kp_isKept (σ : SM) (v : Int32) : SM := (σ.1, σ.2.1, σ.2.2.1, σ.2.2.2.1, σ.2.2.2.2.1, (v, σ.2.2.2.2.2.1.2.1, σ.2.2.2.2.2.1.2.2.1, σ.2.2.2.2.2.1.2.2.2.1, σ.2.2.2.2.2.1.2.2.2.2.1, σ.2.2.2.2.2.1.2.2.2.2.2.1, σ.2.2.2.2.2.1.2.2.2.2.2.2.1, σ.2.2.2.2.2.1.2.2.2.2.2.2.2.1, σ.2.2.2.2.2.1.2.2.2.2.2.2.2.2), σ.2.2.2.2.2.2.1, σ.2.2.2.2.2.2.2)
def gm_kp_keptRing (σ : SM) : Int32 := σ.2.2.2.2.2.1.2.1
def sm_kp_keptRing (σ : SM) (v : Int32) : SM := (σ.1, σ.2.1, σ.2.2.1, σ.2.2.2.1, σ.2.2.2.2.1, (σ.2.2.2.2.2.1.1, v, σ.2.2.2.2.2.1.2.2.1, σ.2.2.2.2.2.1.2.2.2.1, σ.2.2.2.2.2.1.2.2.2.2.1, σ.2.2.2.2.2.1.2.2.2.2.2.1, σ.2.2.2.2.2.1.2.2.2.2.2.2.1, σ.2.2.2.2.2.1.2.2.2.2.2.2.2.1, σ.2.2.2.2.2.1.2.2.2.2.2.2.2.2), σ.2.2.2.2.2.2.1, σ.2.2.2.2.2.2.2)
def gm_kp_keptPlayers (σ : SM) : Int32 := σ.2.2.2.2.2.1.2.2.1
def sm_kp_keptPlayers (σ : SM) (v : Int32) : SM := (σ.1, σ.2.1, σ.2.2.1, σ.2.2.2.1, σ.2.2.2.2.1, (σ.2.2.2.2.2.1.1, σ.2.2.2.2.2.1.2.1, v, σ.2.2.2.2.2.1.2.2.2.1, σ.2.2.2.2.2.1.2.2.2.2.1, σ.2.2.2.2.2.1.2.2.2.2.2.1, σ.2.2.2.2.2.1.2.2.2.2.2.2.1, σ.2.2.2.2.2.1.2.2.2.2.2.2.2.1, σ.2.2.2.2.2.1.2.2.2.2.2.2.2.2), σ.2.2.2.2.2.2.1, σ.2.2.2.2.2.2.2)
def gm_kp_keptUpdates (σ : SM) : Int32 := σ.2.2.2.2.2.1.2.2.2.1
def sm_kp_keptUpdates (σ : SM) (v : Int32) : SM := (σ.1, σ.2.1, σ.2.2.1, σ.2.2.2.1, σ.2.2.2.2.1, (σ.2.2.2.2.2.1.1, σ.2.2.2.2.2.1.2.1, σ.2.2.2.2.2.1.2.2.1, v, σ.2.2.2.2.2.1.2.2.2.2.1, σ.2.2.2.2.2.1.2.2.2.2.2.1, σ.2.2.2.2.2.1.2.2.2.2.2.2.1, σ.2.2.2.2.2.1.2.2.2.2.2.2.2.1, σ.2.2.2.2.2.1.2.2.2.2.2.2.2.2), σ.2.2.2.2.2.2.1, σ.2.2.2.2.2.2.2)
def gm_kp_keptA (σ : SM) : Int32 := σ.2.2.2.2.2.1.2.2.2.2.1
def sm_kp_keptA (σ : SM) (v : Int32) : SM := (σ.1, σ.2.1, σ.2.2.1, σ.2.2.2.1, σ.2.2.2.2.1, (σ.2.2.2.2.2.1.1, σ.2.2.2.2.2.1.2.1, σ.2.2.2.2.2.1.2.2.1, σ.2.2.2.2.2.1.2.2.2.1, v, σ.2.2.2.2.2.1.2.2.2.2.2.1, σ.2.2.2.2.2.1.2.2.2.2.2.2.1, σ.2.2.2.2.2.1.2.2.2.2.2.2.2.1, σ.2.2.2.2.2.1.2.2.2.2.2.2.2.2), σ.2.2.2.2.2.2.1, σ.2.2.2.2.2.2.2)
def gm_kp_keptB (σ : SM) : Int32 := σ.2.2.2.2.2.1.2.2.2.2.2.1
def sm_kp_keptB (σ : SM) (v : Int32) : SM := (σ.1, σ.2.1, σ.2.2.1, σ.2.2.2.1, σ.2.2.2.2.1, (σ.2.2.2.2.2.1.1, σ.2.2.2.2.2.1.2.1, σ.2.2.2.2.2.1.2.2.1, σ.2.2.2.2.2.1.2.2.2.1, σ.2.2.2.2.2.1.2.2.2.2.1, v, σ.2.2.2.2.2.1.2.2.2.2.2.2.1, σ.2.2.2.2.2.1.2.2.2.2.2.2.2.1, σ.2.2.2.2.2.1.2.2.2.2.2.2.2.2), σ.2.2.2.2.2.2.1, σ.2.2.2.2.2.2.2)
def gm_kp_keptTenths (σ : SM) : Int32 := σ.2.2.2.2.2.1.2.2.2.2.2.2.1
def sm_kp_keptTenths (σ : SM) (v : Int32) : SM := (σ.1, σ.2.1, σ.2.2.1, σ.2.2.2.1, σ.2.2.2.2.1, (σ.2.2.2.2.2.1.1, σ.2.2.2.2.2.1.2.1, σ.2.2.2.2.2.1.2.2.1, σ.2.2.2.2.2.1.2.2.2.1, σ.2.2.2.2.2.1.2.2.2.2.1, σ.2.2.2.2.2.1.2.2.2.2.2.1, v, σ.2.2.2.2.2.1.2.2.2.2.2.2.2.1, σ.2.2.2.2.2.1.2.2.2.2.2.2.2.2), σ.2.2.2.2.2.2.1, σ.2.2.2.2.2.2.2)
def gm_kp_keptWeight (σ : SM) : Nat → Int64 := σ.2.2.2.2.2.1.2.2.2.2.2.2.2.1
def sm_kp_keptWeight (σ : SM) (v : Nat → Int64) : SM := (σ.1, σ.2.1, σ.2.2.1, σ.2.2.2.1, σ.2.2.2.2.1, (σ.2.2.2.2.2.1.1, σ.2.2.2.2.2.1.2.1, σ.2.2.2.2.2.1.2.2.1, σ.2.2.2.2.2.1.2.2.2.1, σ.2.2.2.2.2.1.2.2.2.2.1, σ.2.2.2.2.2.1.2.2.2.2.2.1, σ.2.2.2.2.2.1.2.2.2.2.2.2.1, v, σ.2.2.2.2.2.1.2.2.2.2.2.2.2.2), σ.2.2.2.2.2.2.1, σ.2.2.2.2.2.2.2)
def gm_kp_keptPlace (σ : SM) : Nat → Int32 := σ.2.2.2.2.2.1.2.2.2.2.2.2.2.2
def sm_kp_keptPlace (σ : SM) (v : Nat → Int32) : SM := (σ.1, σ.2.1, σ.2.2.1, σ.2.2.2.1, σ.2.2.2.2.1, (σ.2.2.2.2.2.1.1, σ.2.2.2.2.2.1.2.1, σ.2.2.2.2.2.1.2.2.1, σ.2.2.2.2.2.1.2.2.2.1, σ.2.2.2.2.2.1.2.2.2.2.1, σ.2.2.2.2.2.1.2.2.2.2.2.1, σ.2.2.2.2.2.1.2.2.2.2.2.2.1, σ.2.2.2.2.2.1.2.2.2.2.2.2.2.1, v), σ.2.2.2.2.2.2.1, σ.2.2.2.2.2.2.2)
def gm_rp_faultAt (σ : SM) : Int32 := σ.2.2.2.2.2.2.1.1
def sm_rp_faultAt (σ : SM) (v : Int32) : SM := (σ.1, σ.2.1, σ.2.2.1, σ.2.2.2.1, σ.2.2.2.2.1, σ.2.2.2.2.2.1, (v, σ.2.2.2.2.2.2.1.2.1, σ.2.2.2.2.2.2.1.2.2.1, σ.2.2.2.2.2.2.1.2.2.2.1, σ.2.2.2.2.2.2.1.2.2.2.2.1, σ.2.2.2.2.2.2.1.2.2.2.2.2), σ.2.2.2.2.2.2.2)
def gm_rp_isWhole (σ : SM) : Int32 := σ.2.2.2.2.2.2.1.2.1
def sm_rp_isWhole (σ : SM) (v : Int32) : SM := (σ.1, σ.2.1, σ.2.2.1, σ.2.2.2.1, σ.2.2.2.2.1, σ.2.2.2.2.2.1, (σ.2.2.2.2.2.2.1.1, v, σ.2.2.2.2.2.2.1.2.2.1, σ.2.2.2.2.2.2.1.2.2.2.1, σ.2.2.2.2.2.2.1.2.2.2.2.1, σ.2.2.2.2.2.2.1.2.2.2.2.2), σ.2.2.2.2.2.2.2)
def gm_rp_newRows (σ : SM) : Int32 := σ.2.2.2.2.2.2.1.2.2.1
def sm_rp_newRows (σ : SM) (v : Int32) : SM := (σ.1, σ.2.1, σ.2.2.1, σ.2.2.2.1, σ.2.2.2.2.1, σ.2.2.2.2.2.1, (σ.2.2.2.2.2.2.1.1, σ.2.2.2.2.2.2.1.2.1, v, σ.2.2.2.2.2.2.1.2.2.2.1, σ.2.2.2.2.2.2.1.2.2.2.2.1, σ.2.2.2.2.2.2.1.2.2.2.2.2), σ.2.2.2.2.2.2.2)
def gm_rp_newColumns (σ : SM) : Int32 := σ.2.2.2.2.2.2.1.2.2.2.1
def sm_rp_newColumns (σ : SM) (v : Int32) : SM := (σ.1, σ.2.1, σ.2.2.1, σ.2.2.2.1, σ.2.2.2.2.1, σ.2.2.2.2.2.1, (σ.2.2.2.2.2.2.1.1, σ.2.2.2.2.2.2.1.2.1, σ.2.2.2.2.2.2.1.2.2.1, v, σ.2.2.2.2.2.2.1.2.2.2.2.1, σ.2.2.2.2.2.2.1.2.2.2.2.2), σ.2.2.2.2.2.2.2)
def gm_rp_newCell (σ : SM) : Nat → Int32 := σ.2.2.2.2.2.2.1.2.2.2.2.1
def sm_rp_newCell (σ : SM) (v : Nat → Int32) : SM := (σ.1, σ.2.1, σ.2.2.1, σ.2.2.2.1, σ.2.2.2.2.1, σ.2.2.2.2.2.1, (σ.2.2.2.2.2.2.1.1, σ.2.2.2.2.2.2.1.2.1, σ.2.2.2.2.2.2.1.2.2.1, σ.2.2.2.2.2.2.1.2.2.2.1, v, σ.2.2.2.2.2.2.1.2.2.2.2.2), σ.2.2.2.2.2.2.2)
def gm_rp_gonePost (σ : SM) : Int32 := σ.2.2.2.2.2.2.1.2.2.2.2.2
def sm_rp_gonePost (σ : SM) (v : Int32) : SM := (σ.1, σ.2.1, σ.2.2.1, σ.2.2.2.1, σ.2.2.2.2.1, σ.2.2.2.2.2.1, (σ.2.2.2.2.2.2.1.1, σ.2.2.2.2.2.2.1.2.1, σ.2.2.2.2.2.2.1.2.2.1, σ.2.2.2.2.2.2.1.2.2.2.1, σ.2.2.2.2.2.2.1.2.2.2.2.1, v), σ.2.2.2.2.2.2.2)
def gm_gm_his (σ : SM) : Int32 := σ.2.2.2.2.2.2.2.1
def sm_gm_his (σ : SM) (v : Int32) : SM := (σ.1, σ.2.1, σ.2.2.1, σ.2.2.2.1, σ.2.2.2.2.1, σ.2.2.2.2.2.1, σ.2.2.2.2.2.2.1, (v, σ.2.2.2.2.2.2.2.2.1, σ.2.2.2.2.2.2.2.2.2.1, σ.2.2.2.2.2.2.2.2.2.2.1, σ.2.2.2.2.2.2.2.2.2.2.2.1, σ.2.2.2.2.2.2.2.2.2.2.2.2.1, σ.2.2.2.2.2.2.2.2.2.2.2.2.2))
def gm_gm_looks (σ : SM) : Int32 := σ.2.2.2.2.2.2.2.2.1
def sm_gm_looks (σ : SM) (v : Int32) : SM := (σ.1, σ.2.1, σ.2.2.1, σ.2.2.2.1, σ.2.2.2.2.1, σ.2.2.2.2.2.1, σ.2.2.2.2.2.2.1, (σ.2.2.2.2.2.2.2.1, v, σ.2.2.2.2.2.2.2.2.2.1, σ.2.2.2.2.2.2.2.2.2.2.1, σ.2.2.2.2.2.2.2.2.2.2.2.1, σ.2.2.2.2.2.2.2.2.2.2.2.2.1, σ.2.2.2.2.2.2.2.2.2.2.2.2.2))
def gm_gm_seedNow (σ : SM) : Int64 := σ.2.2.2.2.2.2.2.2.2.1
def sm_gm_seedNow (σ : SM) (v : Int64) : SM := (σ.1, σ.2.1, σ.2.2.1, σ.2.2.2.1, σ.2.2.2.2.1, σ.2.2.2.2.2.1, σ.2.2.2.2.2.2.1, (σ.2.2.2.2.2.2.2.1, σ.2.2.2.2.2.2.2.2.1, v, σ.2.2.2.2.2.2.2.2.2.2.1, σ.2.2.2.2.2.2.2.2.2.2.2.1, σ.2.2.2.2.2.2.2.2.2.2.2.2.1, σ.2.2.2.2.2.2.2.2.2.2.2.2.2))
def gm_gm_place (σ : SM) : Nat → Int32 := σ.2.2.2.2.2.2.2.2.2.2.1
def sm_gm_place (σ : SM) (v : Nat → Int32) : SM := (σ.1, σ.2.1, σ.2.2.1, σ.2.2.2.1, σ.2.2.2.2.1, σ.2.2.2.2.2.1, σ.2.2.2.2.2.2.1, (σ.2.2.2.2.2.2.2.1, σ.2.2.2.2.2.2.2.2.1, σ.2.2.2.2.2.2.2.2.2.1, v, σ.2.2.2.2.2.2.2.2.2.2.2.1, σ.2.2.2.2.2.2.2.2.2.2.2.2.1, σ.2.2.2.2.2.2.2.2.2.2.2.2.2))
def gm_gm_touched (σ : SM) : Int32 := σ.2.2.2.2.2.2.2.2.2.2.2.1
def sm_gm_touched (σ : SM) (v : Int32) : SM := (σ.1, σ.2.1, σ.2.2.1, σ.2.2.2.1, σ.2.2.2.2.1, σ.2.2.2.2.2.1, σ.2.2.2.2.2.2.1, (σ.2.2.2.2.2.2.2.1, σ.2.2.2.2.2.2.2.2.1, σ.2.2.2.2.2.2.2.2.2.1, σ.2.2.2.2.2.2.2.2.2.2.1, v, σ.2.2.2.2.2.2.2.2.2.2.2.2.1, σ.2.2.2.2.2.2.2.2.2.2.2.2.2))
def gm_gm_touchedAt (σ : SM) : Int32 := σ.2.2.2.2.2.2.2.2.2.2.2.2.1
def sm_gm_touchedAt (σ : SM) (v : Int32) : SM := (σ.1, σ.2.1, σ.2.2.1, σ.2.2.2.1, σ.2.2.2.2.1, σ.2.2.2.2.2.1, σ.2.2.2.2.2.2.1, (σ.2.2.2.2.2.2.2.1, σ.2.2.2.2.2.2.2.2.1, σ.2.2.2.2.2.2.2.2.2.1, σ.2.2.2.2.2.2.2.2.2.2.1, σ.2.2.2.2.2.2.2.2.2.2.2.1, v, σ.2.2.2.2.2.2.2.2.2.2.2.2.2))
def gm_gm_h (σ : SM) : Int64 := σ.2.2.2.2.2.2.2.2.2.2.2.2.2
def sm_gm_h (σ : SM) (v : Int64) : SM := (σ.1, σ.2.1, σ.2.2.1, σ.2.2.2.1, σ.2.2.2.2.1, σ.2.2.2.2.2.1, σ.2.2.2.2.2.2.1, (σ.2.2.2.2.2.2.2.1, σ.2.2.2.2.2.2.2.2.1, σ.2.2.2.2.2.2.2.2.2.1, σ.2.2.2.2.2.2.2.2.2.2.1, σ.2.2.2.2.2.2.2.2.2.2.2.1, σ.2.2.2.2.2.2.2.2.2.2.2.2.1, v))
def ev_kc (k : Nat) : Nat := match k with
  | 0 => 6
  | 1 => 9
  | 2 => 10
  | 3 => 1
  | 4 => 2
  | _ => 0
def gx_pc (σ : SX) (i : Nat) : Option ev_C := if gx_pl_ex σ i = true then some (.inr (ev_kc (gx_pl_kd σ i), [.int (gx_pl_told σ i), .int (gx_pl_kept σ i), .int (gx_pl_at σ i), .int (gx_pl_size σ i), .int (gx_pl_cloth σ i), .int (gx_pl_giggle σ i)])) else none
def hX (σ : SX) : ev_H := [some (.inr (11, [.ref 1, .ref 3, .ref 8, .ref 16, .ref 17, .ref 18, .int (gx_tp_playing σ), .int (gx_tp_ringsRead σ), .int (gx_tp_standsDone σ), .int (gx_tp_imageKept σ)])),
  some (.inr (5, [.ref 2, .int (gx_pg_length σ), .int (gx_pg_row σ), .int (gx_pg_column σ), .int (gx_pg_width σ)])),
  some (.inl (2, 45, .inl (gx_pg_signs σ))),
  some (.inr (7, [.ref 4, .ref 5, .ref 6, .ref 7, .int (gx_rg_size σ), .int (gx_rg_free σ)])),
  some (.inl (0, 36, .inl (gx_rg_kinds σ))),
  some (.inl (0, 36, .inl (gx_rg_rows σ))),
  some (.inl (0, 36, .inl (gx_rg_columns σ))),
  some (.inl (0, 144, .inl (gx_rg_beside σ))),
  some (.inr (4, [.ref 3, .ref 9, .ref 10, .ref 11, .int (gx_od_updates σ), .int (gx_od_keptUpdates σ)])),
  some (.inl (1, 144, .inr (.inl (gx_od_weights σ)))),
  some (.inl (1, 144, .inr (.inl (gx_od_kept σ)))),
  some (.inl (5, 4, .inr (.inr (.inr (.inr (fun i => some (i + 12))))))),
  some (.inl (1, 144, .inr (.inl (gx_od_outs σ 0)))),
  some (.inl (1, 144, .inr (.inl (gx_od_outs σ 1)))),
  some (.inl (1, 144, .inr (.inl (gx_od_outs σ 2)))),
  some (.inl (1, 144, .inr (.inl (gx_od_outs σ 3)))),
  some (.inl (4, 6, .inr (.inr (.inr (.inr (gx_pl_arr σ)))))),
  some (.inr (8, [.ref 3, .ref 16, .int (gx_rd_firstCell σ), .int (gx_rd_firstWay σ), .int (gx_rd_drift σ), .int (gx_rd_tenths σ), .int (gx_rd_hisCell σ), .int (gx_rd_hisWay σ), .int (gx_rd_tenth σ), .int (gx_rd_touched σ), .long (gx_rd_seed σ)])),
  some (.inr (3, [.ref 16, .ref 19, .int (gx_nm_sizeOff σ), .int (gx_nm_clothRight σ), .int (gx_nm_giggleRight σ), .int (gx_nm_first σ), .int (gx_nm_second σ), .int (gx_nm_changed σ), .int (gx_nm_keptFirst σ), .int (gx_nm_keptSecond σ), .int (gx_nm_keptChanged σ)])),
  some (.inl (0, 6, .inl (gx_nm_weights σ))),
  gx_pc σ 0,
  gx_pc σ 1,
  gx_pc σ 2,
  gx_pc σ 3,
  gx_pc σ 4,
  gx_pc σ 5]
def hM (σ : SM) : ev_H := [some (.inr (12, [.int (gm_rg_rows σ), .int (gm_rg_columns σ), .int (gm_rg_rings σ), .ref 1, .ref 2, .ref 3, .int (gm_od_updates σ), .int (gm_pl_players σ), .ref 4, .ref 5, .ref 6, .ref 7, .ref 8, .int (gm_nm_unsure σ), .int (gm_nm_clothRight σ), .int (gm_nm_giggleRight σ), .int (gm_nm_jacketA σ), .int (gm_nm_jacketB σ), .int (gm_nm_jacketTenths σ), .int (gm_nm_asks σ), .int (gm_pg_pageLength σ), .ref 9, .int (gm_kp_isKept σ), .int (gm_kp_keptRing σ), .int (gm_kp_keptPlayers σ), .int (gm_kp_keptUpdates σ), .int (gm_kp_keptA σ), .int (gm_kp_keptB σ), .int (gm_kp_keptTenths σ), .ref 10, .ref 11, .int (gm_rp_faultAt σ), .int (gm_rp_isWhole σ), .int (gm_rp_newRows σ), .int (gm_rp_newColumns σ), .ref 12, .int (gm_rp_gonePost σ), .int (gm_gm_his σ), .int (gm_gm_looks σ), .long (gm_gm_seedNow σ), .ref 13, .int (gm_gm_touched σ), .int (gm_gm_touchedAt σ), .long (gm_gm_h σ)])),
  some (.inl (0, 36, .inl (gm_rg_cellOf σ))),
  some (.inl (1, 144, .inr (.inl (gm_od_weight σ)))),
  some (.inl (1, 144, .inr (.inl (gm_od_then σ)))),
  some (.inl (0, 6, .inl (gm_pl_kindOf σ))),
  some (.inl (0, 6, .inl (gm_pl_placeOf σ))),
  some (.inl (0, 6, .inl (gm_pl_sizeOf σ))),
  some (.inl (0, 6, .inl (gm_pl_clothOf σ))),
  some (.inl (0, 6, .inl (gm_pl_giggleOf σ))),
  some (.inl (3, 45, .inl (gm_pg_page σ))),
  some (.inl (1, 144, .inr (.inl (gm_kp_keptWeight σ)))),
  some (.inl (0, 6, .inl (gm_kp_keptPlace σ))),
  some (.inl (0, 36, .inl (gm_rp_newCell σ))),
  some (.inl (0, 6, .inl (gm_gm_place σ)))]
/-- a player's place -/
def gx_pok (σ : SX) (a : Nat) : Bool := decide (20 ≤ a ∧ a < 26) && gx_pl_ex σ (a - 20) && decide (gx_pl_kd σ (a - 20) < 6)
end
section
/-! ===== players and rows of outcomes at places that a number tells ===== -/
def ev_q {α : Type} (e : Option Nat) (a : Option α) (b : Nat → Option α) : Option α := match e with
  | none => a
  | some x => b x
theorem ev_hp {α : Type} {P : Prop} {hd : Decidable P} {a : Option α} {q : α} (h : (if P then a else none) = some q) : P ∧ a = some q := by
  by_cases hp : P
  · rw [if_pos hp] at h; exact ⟨hp, h⟩
  · rw [if_neg hp] at h; cases h
def ox_up (O : Nat → Nat → Int64) (s j : Nat) (v : Int64) : Nat → Nat → Int64 := fun t => if t = s then vp_updL (O s) j v else O t
theorem ox_geto {σ : SX} {s : Nat} (hs : s < 4) : ev_get (hX σ) (s + 12) = some (.inl (1, 144, .inr (.inl (gx_od_outs σ s)))) := by
  rcases (show s = 0 ∨ s = 1 ∨ s = 2 ∨ s = 3 by omega) with rfl | rfl | rfl | rfl <;> rfl
theorem ox_seto {σ : SX} {s : Nat} (hs : s < 4) (j : Nat) (v : Int64) : (hX σ).set (s + 12) (some (.inl (1, 144, .inr (.inl (vp_updL (gx_od_outs σ s) j v))))) = hX (sx_od_outs σ (ox_up (gx_od_outs σ) s j v)) := by
  rcases (show s = 0 ∨ s = 1 ∨ s = 2 ∨ s = 3 by omega) with rfl | rfl | rfl | rfl <;> rfl
theorem ox_old {rt : Option FieldType} {pc : Nat} {ls : ev_L} {r : List Value} {σ : SX} {s : Nat} {j : Int32} {D : List (Nat × Nat)} {P : List Nat} (hs : s < 4) (hin : ¬ (j < 0 ∨ 144 ≤ j.toNatClampNeg)) : ev_one rt (pc, .laload, 1, 0, 0, .null, D, P) ls (.int j :: .ref (s + 12) :: r) (hX σ) = some (.inl (pc + 1, ls, .long (gx_od_outs σ s j.toNatClampNeg) :: r, hX σ)) := by
  simp only [ev_one, ev_o4, ox_geto hs]
  rw [if_pos hin]
theorem ox_ost {rt : Option FieldType} {pc : Nat} {ls : ev_L} {r : List Value} {σ : SX} {s : Nat} {j : Int32} {v : Int64} {D : List (Nat × Nat)} {P : List Nat} (hs : s < 4) (hin : ¬ (j < 0 ∨ 144 ≤ j.toNatClampNeg)) : ev_one rt (pc, .lastore, 1, 0, 0, .null, D, P) ls (.long v :: .int j :: .ref (s + 12) :: r) (hX σ) = some (.inl (pc + 1, ls, r, hX (sx_od_outs σ (ox_up (gx_od_outs σ) s j.toNatClampNeg v)))) := by
  simp only [ev_one, ev_o4, ox_geto hs]
  rw [if_pos hin, ox_seto hs]
theorem ox_olen {rt : Option FieldType} {pc : Nat} {ls : ev_L} {r : List Value} {σ : SX} {s : Nat} {D : List (Nat × Nat)} {P : List Nat} (hs : s < 4) : ev_one rt (pc, .arraylength, 1, 0, 0, .null, D, P) ls (.ref (s + 12) :: r) (hX σ) = some (.inl (pc + 1, ls, .int 144 :: r, hX σ)) := by
  simp only [ev_one, ev_o4, ox_geto hs]
  rfl
theorem ox_pk {σ : SX} {a : Nat} (h : gx_pok σ a = true) : ∃ i, i < 6 ∧ a = 20 + i ∧ gx_pl_ex σ i = true ∧ gx_pl_kd σ i < 6 := by
  unfold gx_pok at h
  simp only [Bool.and_eq_true, decide_eq_true_eq] at h
  obtain ⟨⟨⟨h1, h2⟩, h3⟩, h4⟩ := h
  exact ⟨a - 20, by omega, by omega, h3, h4⟩
theorem ox_kd {σ : SX} {a : Nat} (h : gx_pok σ a = true) : gx_pl_kd σ (a - 20) < 6 := by
  unfold gx_pok at h
  simp only [Bool.and_eq_true, decide_eq_true_eq] at h
  exact h.2
abbrev ox_fs (σ : SX) (i : Nat) : List Value := [.int (gx_pl_told σ i), .int (gx_pl_kept σ i), .int (gx_pl_at σ i), .int (gx_pl_size σ i), .int (gx_pl_cloth σ i), .int (gx_pl_giggle σ i)]
theorem ox_getp {σ : SX} {a : Nat} (h : gx_pok σ a = true) : ev_get (hX σ) a = some (.inr (ev_kc (gx_pl_kd σ (a - 20)), ox_fs σ (a - 20))) := by
  obtain ⟨i, hi, rfl, he, hk⟩ := ox_pk h
  rw [Nat.add_sub_cancel_left]
  have hp : gx_pc σ i = some (.inr (ev_kc (gx_pl_kd σ i), ox_fs σ i)) := by unfold gx_pc; rw [if_pos he]
  have hl : (hX σ)[20 + i]? = some (gx_pc σ i) := by
    rcases (show i = 0 ∨ i = 1 ∨ i = 2 ∨ i = 3 ∨ i = 4 ∨ i = 5 by omega) with rfl | rfl | rfl | rfl | rfl | rfl <;> rfl
  unfold ev_get
  rw [hl, hp]
theorem ox_any {k : Nat} (h : k < 6) : ([(0, 0), (1, 0), (2, 0), (6, 0), (9, 0), (10, 0)] : List (Nat × Nat)).any (fun q => q.1 == ev_kc k) = true := by
  rcases (show k = 0 ∨ k = 1 ∨ k = 2 ∨ k = 3 ∨ k = 4 ∨ k = 5 by omega) with rfl | rfl | rfl | rfl | rfl | rfl <;> rfl
theorem ox_lk {k n : Nat} (h : k < 6) : List.lookup (ev_kc k) [(0, n), (1, n), (2, n), (6, n), (9, n), (10, n)] = some n := by
  rcases (show k = 0 ∨ k = 1 ∨ k = 2 ∨ k = 3 ∨ k = 4 ∨ k = 5 by omega) with rfl | rfl | rfl | rfl | rfl | rfl <;> rfl
theorem ox_n2 {σ : SX} {a : Nat} (h : gx_pok σ a = true) : ¬ a = 2000 := by
  obtain ⟨i, hi, rfl, -⟩ := ox_pk h
  omega
/-- does an object of that kind answer to the class of an 'instanceof' -/
def ox_ins (D : List (Nat × Nat)) (k : Nat) : Int32 := match D.lookup (ev_kc k) with
  | some 1 => 1
  | _ => 0
theorem ox_pins {rt : Option FieldType} {pc idx : Nat} {ls : ev_L} {r : List Value} {σ : SX} {a : Nat} {b0 b1 b2 b6 b9 b10 : Nat} {P : List Nat} (h : gx_pok σ a = true) (hb : (b0 < 2 ∧ b1 < 2 ∧ b2 < 2 ∧ b6 < 2 ∧ b9 < 2 ∧ b10 < 2) := by decide) : ev_one rt (pc, .instanceof idx, 3, 0, 0, .null, [(0, b0), (1, b1), (2, b2), (6, b6), (9, b9), (10, b10)], P) ls (.ref a :: r) (hX σ) = some (.inl (pc + 3, ls, .int (ox_ins [(0, b0), (1, b1), (2, b2), (6, b6), (9, b9), (10, b10)] (gx_pl_kd σ (a - 20))) :: r, hX σ)) := by
  have hk := ox_kd h
  simp only [ev_one, ev_o4, ox_getp h, ox_ins]
  generalize gx_pl_kd σ (a - 20) = k at hk ⊢
  obtain ⟨h0, h1, h2, h6, h9, h10⟩ := hb
  have tw : ∀ b : Nat, b < 2 → b = 0 ∨ b = 1 := fun b hb => by omega
  rcases (show k = 0 ∨ k = 1 ∨ k = 2 ∨ k = 3 ∨ k = 4 ∨ k = 5 by omega) with rfl | rfl | rfl | rfl | rfl | rfl
  · rcases tw b6 h6 with rfl | rfl <;> rfl
  · rcases tw b9 h9 with rfl | rfl <;> rfl
  · rcases tw b10 h10 with rfl | rfl <;> rfl
  · rcases tw b1 h1 with rfl | rfl <;> rfl
  · rcases tw b2 h2 with rfl | rfl <;> rfl
  · rcases tw b0 h0 with rfl | rfl <;> rfl
theorem ox_pget0 {rt : Option FieldType} {pc idx : Nat} {ls : ev_L} {r : List Value} {σ : SX} {a : Nat} {P : List Nat} (h : gx_pok σ a = true) : ev_one rt (pc, .getfield idx, 3, 0, 0, .null, [(0, 0), (1, 0), (2, 0), (6, 0), (9, 0), (10, 0)], P) ls (.ref a :: r) (hX σ) = some (.inl (pc + 3, ls, .int (gx_pl_told σ (a - 20)) :: r, hX σ)) := by
  simp only [ev_one, ev_o4, ox_getp h]
  rw [if_neg (ox_n2 h), if_pos (ox_any (ox_kd h))]
  rfl
theorem ox_pset0 {σ : SX} {a : Nat} (h : gx_pok σ a = true) (v : Int32) : (hX σ).set a (some (.inr (ev_kc (gx_pl_kd σ (a - 20)), (ox_fs σ (a - 20)).set 0 (.int v)))) = hX (sx_pl_told σ (upd (gx_pl_told σ) (a - 20) v)) := by
  obtain ⟨i, hi, rfl, he, hk⟩ := ox_pk h
  rw [Nat.add_sub_cancel_left]
  have hc : ∀ j : Nat, gx_pc (sx_pl_told σ (upd (gx_pl_told σ) i v)) j = if j = i then some (.inr (ev_kc (gx_pl_kd σ i), (ox_fs σ i).set 0 (.int v))) else gx_pc σ j := by
    intro j
    by_cases e : j = i
    · subst e
      rw [if_pos rfl]
      unfold gx_pc
      rw [if_pos (show gx_pl_ex (sx_pl_told σ (upd (gx_pl_told σ) j v)) j = true from he)]
      show some (Sum.inr (ev_kc (gx_pl_kd σ j), _)) = _
      congr 3
      simp [ox_fs, gx_pl_told, gx_pl_kept, gx_pl_at, gx_pl_size, gx_pl_cloth, gx_pl_giggle, sx_pl_told, upd]
    · rw [if_neg e]
      unfold gx_pc
      show (if gx_pl_ex σ j = true then _ else _) = _
      have hu : upd (gx_pl_told σ) i v j = gx_pl_told σ j := by simp [upd, e]
      congr 4
      simp [ox_fs, gx_pl_told, gx_pl_kept, gx_pl_at, gx_pl_size, gx_pl_cloth, gx_pl_giggle, sx_pl_told, upd, e]
  have hl : hX (sx_pl_told σ (upd (gx_pl_told σ) i v)) = (hX σ).take 20 ++ (List.range 6).map (fun j => gx_pc (sx_pl_told σ (upd (gx_pl_told σ) i v)) j) := rfl
  rw [hl]
  simp only [hc]
  rcases (show i = 0 ∨ i = 1 ∨ i = 2 ∨ i = 3 ∨ i = 4 ∨ i = 5 by omega) with rfl | rfl | rfl | rfl | rfl | rfl <;> rfl
theorem ox_pput0 {rt : Option FieldType} {pc idx : Nat} {ls : ev_L} {r : List Value} {σ : SX} {a : Nat} {v : Int32} {P : List Nat} (h : gx_pok σ a = true) : ev_one rt (pc, .putfield idx, 3, 0, 0, .null, [(0, 0), (1, 0), (2, 0), (6, 0), (9, 0), (10, 0)], P) ls (.int v :: .ref a :: r) (hX σ) = some (.inl (pc + 3, ls, r, hX (sx_pl_told σ (upd (gx_pl_told σ) (a - 20) v)))) := by
  simp only [ev_one, ev_o4, ox_getp h]
  rw [if_pos ⟨ox_any (ox_kd h), by show 0 < 6; omega, rfl⟩, ox_pset0 h]
theorem ox_pget1 {rt : Option FieldType} {pc idx : Nat} {ls : ev_L} {r : List Value} {σ : SX} {a : Nat} {P : List Nat} (h : gx_pok σ a = true) : ev_one rt (pc, .getfield idx, 3, 1, 0, .null, [(0, 0), (1, 0), (2, 0), (6, 0), (9, 0), (10, 0)], P) ls (.ref a :: r) (hX σ) = some (.inl (pc + 3, ls, .int (gx_pl_kept σ (a - 20)) :: r, hX σ)) := by
  simp only [ev_one, ev_o4, ox_getp h]
  rw [if_neg (ox_n2 h), if_pos (ox_any (ox_kd h))]
  rfl
theorem ox_pset1 {σ : SX} {a : Nat} (h : gx_pok σ a = true) (v : Int32) : (hX σ).set a (some (.inr (ev_kc (gx_pl_kd σ (a - 20)), (ox_fs σ (a - 20)).set 1 (.int v)))) = hX (sx_pl_kept σ (upd (gx_pl_kept σ) (a - 20) v)) := by
  obtain ⟨i, hi, rfl, he, hk⟩ := ox_pk h
  rw [Nat.add_sub_cancel_left]
  have hc : ∀ j : Nat, gx_pc (sx_pl_kept σ (upd (gx_pl_kept σ) i v)) j = if j = i then some (.inr (ev_kc (gx_pl_kd σ i), (ox_fs σ i).set 1 (.int v))) else gx_pc σ j := by
    intro j
    by_cases e : j = i
    · subst e
      rw [if_pos rfl]
      unfold gx_pc
      rw [if_pos (show gx_pl_ex (sx_pl_kept σ (upd (gx_pl_kept σ) j v)) j = true from he)]
      show some (Sum.inr (ev_kc (gx_pl_kd σ j), _)) = _
      congr 3
      simp [ox_fs, gx_pl_told, gx_pl_kept, gx_pl_at, gx_pl_size, gx_pl_cloth, gx_pl_giggle, sx_pl_kept, upd]
    · rw [if_neg e]
      unfold gx_pc
      show (if gx_pl_ex σ j = true then _ else _) = _
      have hu : upd (gx_pl_kept σ) i v j = gx_pl_kept σ j := by simp [upd, e]
      congr 4
      simp [ox_fs, gx_pl_told, gx_pl_kept, gx_pl_at, gx_pl_size, gx_pl_cloth, gx_pl_giggle, sx_pl_kept, upd, e]
  have hl : hX (sx_pl_kept σ (upd (gx_pl_kept σ) i v)) = (hX σ).take 20 ++ (List.range 6).map (fun j => gx_pc (sx_pl_kept σ (upd (gx_pl_kept σ) i v)) j) := rfl
  rw [hl]
  simp only [hc]
  rcases (show i = 0 ∨ i = 1 ∨ i = 2 ∨ i = 3 ∨ i = 4 ∨ i = 5 by omega) with rfl | rfl | rfl | rfl | rfl | rfl <;> rfl
theorem ox_pput1 {rt : Option FieldType} {pc idx : Nat} {ls : ev_L} {r : List Value} {σ : SX} {a : Nat} {v : Int32} {P : List Nat} (h : gx_pok σ a = true) : ev_one rt (pc, .putfield idx, 3, 1, 0, .null, [(0, 0), (1, 0), (2, 0), (6, 0), (9, 0), (10, 0)], P) ls (.int v :: .ref a :: r) (hX σ) = some (.inl (pc + 3, ls, r, hX (sx_pl_kept σ (upd (gx_pl_kept σ) (a - 20) v)))) := by
  simp only [ev_one, ev_o4, ox_getp h]
  rw [if_pos ⟨ox_any (ox_kd h), by show 1 < 6; omega, rfl⟩, ox_pset1 h]
theorem ox_pget2 {rt : Option FieldType} {pc idx : Nat} {ls : ev_L} {r : List Value} {σ : SX} {a : Nat} {P : List Nat} (h : gx_pok σ a = true) : ev_one rt (pc, .getfield idx, 3, 2, 0, .null, [(0, 0), (1, 0), (2, 0), (6, 0), (9, 0), (10, 0)], P) ls (.ref a :: r) (hX σ) = some (.inl (pc + 3, ls, .int (gx_pl_at σ (a - 20)) :: r, hX σ)) := by
  simp only [ev_one, ev_o4, ox_getp h]
  rw [if_neg (ox_n2 h), if_pos (ox_any (ox_kd h))]
  rfl
theorem ox_pset2 {σ : SX} {a : Nat} (h : gx_pok σ a = true) (v : Int32) : (hX σ).set a (some (.inr (ev_kc (gx_pl_kd σ (a - 20)), (ox_fs σ (a - 20)).set 2 (.int v)))) = hX (sx_pl_at σ (upd (gx_pl_at σ) (a - 20) v)) := by
  obtain ⟨i, hi, rfl, he, hk⟩ := ox_pk h
  rw [Nat.add_sub_cancel_left]
  have hc : ∀ j : Nat, gx_pc (sx_pl_at σ (upd (gx_pl_at σ) i v)) j = if j = i then some (.inr (ev_kc (gx_pl_kd σ i), (ox_fs σ i).set 2 (.int v))) else gx_pc σ j := by
    intro j
    by_cases e : j = i
    · subst e
      rw [if_pos rfl]
      unfold gx_pc
      rw [if_pos (show gx_pl_ex (sx_pl_at σ (upd (gx_pl_at σ) j v)) j = true from he)]
      show some (Sum.inr (ev_kc (gx_pl_kd σ j), _)) = _
      congr 3
      simp [ox_fs, gx_pl_told, gx_pl_kept, gx_pl_at, gx_pl_size, gx_pl_cloth, gx_pl_giggle, sx_pl_at, upd]
    · rw [if_neg e]
      unfold gx_pc
      show (if gx_pl_ex σ j = true then _ else _) = _
      have hu : upd (gx_pl_at σ) i v j = gx_pl_at σ j := by simp [upd, e]
      congr 4
      simp [ox_fs, gx_pl_told, gx_pl_kept, gx_pl_at, gx_pl_size, gx_pl_cloth, gx_pl_giggle, sx_pl_at, upd, e]
  have hl : hX (sx_pl_at σ (upd (gx_pl_at σ) i v)) = (hX σ).take 20 ++ (List.range 6).map (fun j => gx_pc (sx_pl_at σ (upd (gx_pl_at σ) i v)) j) := rfl
  rw [hl]
  simp only [hc]
  rcases (show i = 0 ∨ i = 1 ∨ i = 2 ∨ i = 3 ∨ i = 4 ∨ i = 5 by omega) with rfl | rfl | rfl | rfl | rfl | rfl <;> rfl
theorem ox_pput2 {rt : Option FieldType} {pc idx : Nat} {ls : ev_L} {r : List Value} {σ : SX} {a : Nat} {v : Int32} {P : List Nat} (h : gx_pok σ a = true) : ev_one rt (pc, .putfield idx, 3, 2, 0, .null, [(0, 0), (1, 0), (2, 0), (6, 0), (9, 0), (10, 0)], P) ls (.int v :: .ref a :: r) (hX σ) = some (.inl (pc + 3, ls, r, hX (sx_pl_at σ (upd (gx_pl_at σ) (a - 20) v)))) := by
  simp only [ev_one, ev_o4, ox_getp h]
  rw [if_pos ⟨ox_any (ox_kd h), by show 2 < 6; omega, rfl⟩, ox_pset2 h]
theorem ox_pget3 {rt : Option FieldType} {pc idx : Nat} {ls : ev_L} {r : List Value} {σ : SX} {a : Nat} {P : List Nat} (h : gx_pok σ a = true) : ev_one rt (pc, .getfield idx, 3, 3, 0, .null, [(0, 0), (1, 0), (2, 0), (6, 0), (9, 0), (10, 0)], P) ls (.ref a :: r) (hX σ) = some (.inl (pc + 3, ls, .int (gx_pl_size σ (a - 20)) :: r, hX σ)) := by
  simp only [ev_one, ev_o4, ox_getp h]
  rw [if_neg (ox_n2 h), if_pos (ox_any (ox_kd h))]
  rfl
theorem ox_pset3 {σ : SX} {a : Nat} (h : gx_pok σ a = true) (v : Int32) : (hX σ).set a (some (.inr (ev_kc (gx_pl_kd σ (a - 20)), (ox_fs σ (a - 20)).set 3 (.int v)))) = hX (sx_pl_size σ (upd (gx_pl_size σ) (a - 20) v)) := by
  obtain ⟨i, hi, rfl, he, hk⟩ := ox_pk h
  rw [Nat.add_sub_cancel_left]
  have hc : ∀ j : Nat, gx_pc (sx_pl_size σ (upd (gx_pl_size σ) i v)) j = if j = i then some (.inr (ev_kc (gx_pl_kd σ i), (ox_fs σ i).set 3 (.int v))) else gx_pc σ j := by
    intro j
    by_cases e : j = i
    · subst e
      rw [if_pos rfl]
      unfold gx_pc
      rw [if_pos (show gx_pl_ex (sx_pl_size σ (upd (gx_pl_size σ) j v)) j = true from he)]
      show some (Sum.inr (ev_kc (gx_pl_kd σ j), _)) = _
      congr 3
      simp [ox_fs, gx_pl_told, gx_pl_kept, gx_pl_at, gx_pl_size, gx_pl_cloth, gx_pl_giggle, sx_pl_size, upd]
    · rw [if_neg e]
      unfold gx_pc
      show (if gx_pl_ex σ j = true then _ else _) = _
      have hu : upd (gx_pl_size σ) i v j = gx_pl_size σ j := by simp [upd, e]
      congr 4
      simp [ox_fs, gx_pl_told, gx_pl_kept, gx_pl_at, gx_pl_size, gx_pl_cloth, gx_pl_giggle, sx_pl_size, upd, e]
  have hl : hX (sx_pl_size σ (upd (gx_pl_size σ) i v)) = (hX σ).take 20 ++ (List.range 6).map (fun j => gx_pc (sx_pl_size σ (upd (gx_pl_size σ) i v)) j) := rfl
  rw [hl]
  simp only [hc]
  rcases (show i = 0 ∨ i = 1 ∨ i = 2 ∨ i = 3 ∨ i = 4 ∨ i = 5 by omega) with rfl | rfl | rfl | rfl | rfl | rfl <;> rfl
theorem ox_pput3 {rt : Option FieldType} {pc idx : Nat} {ls : ev_L} {r : List Value} {σ : SX} {a : Nat} {v : Int32} {P : List Nat} (h : gx_pok σ a = true) : ev_one rt (pc, .putfield idx, 3, 3, 0, .null, [(0, 0), (1, 0), (2, 0), (6, 0), (9, 0), (10, 0)], P) ls (.int v :: .ref a :: r) (hX σ) = some (.inl (pc + 3, ls, r, hX (sx_pl_size σ (upd (gx_pl_size σ) (a - 20) v)))) := by
  simp only [ev_one, ev_o4, ox_getp h]
  rw [if_pos ⟨ox_any (ox_kd h), by show 3 < 6; omega, rfl⟩, ox_pset3 h]
theorem ox_pget4 {rt : Option FieldType} {pc idx : Nat} {ls : ev_L} {r : List Value} {σ : SX} {a : Nat} {P : List Nat} (h : gx_pok σ a = true) : ev_one rt (pc, .getfield idx, 3, 4, 0, .null, [(0, 0), (1, 0), (2, 0), (6, 0), (9, 0), (10, 0)], P) ls (.ref a :: r) (hX σ) = some (.inl (pc + 3, ls, .int (gx_pl_cloth σ (a - 20)) :: r, hX σ)) := by
  simp only [ev_one, ev_o4, ox_getp h]
  rw [if_neg (ox_n2 h), if_pos (ox_any (ox_kd h))]
  rfl
theorem ox_pset4 {σ : SX} {a : Nat} (h : gx_pok σ a = true) (v : Int32) : (hX σ).set a (some (.inr (ev_kc (gx_pl_kd σ (a - 20)), (ox_fs σ (a - 20)).set 4 (.int v)))) = hX (sx_pl_cloth σ (upd (gx_pl_cloth σ) (a - 20) v)) := by
  obtain ⟨i, hi, rfl, he, hk⟩ := ox_pk h
  rw [Nat.add_sub_cancel_left]
  have hc : ∀ j : Nat, gx_pc (sx_pl_cloth σ (upd (gx_pl_cloth σ) i v)) j = if j = i then some (.inr (ev_kc (gx_pl_kd σ i), (ox_fs σ i).set 4 (.int v))) else gx_pc σ j := by
    intro j
    by_cases e : j = i
    · subst e
      rw [if_pos rfl]
      unfold gx_pc
      rw [if_pos (show gx_pl_ex (sx_pl_cloth σ (upd (gx_pl_cloth σ) j v)) j = true from he)]
      show some (Sum.inr (ev_kc (gx_pl_kd σ j), _)) = _
      congr 3
      simp [ox_fs, gx_pl_told, gx_pl_kept, gx_pl_at, gx_pl_size, gx_pl_cloth, gx_pl_giggle, sx_pl_cloth, upd]
    · rw [if_neg e]
      unfold gx_pc
      show (if gx_pl_ex σ j = true then _ else _) = _
      have hu : upd (gx_pl_cloth σ) i v j = gx_pl_cloth σ j := by simp [upd, e]
      congr 4
      simp [ox_fs, gx_pl_told, gx_pl_kept, gx_pl_at, gx_pl_size, gx_pl_cloth, gx_pl_giggle, sx_pl_cloth, upd, e]
  have hl : hX (sx_pl_cloth σ (upd (gx_pl_cloth σ) i v)) = (hX σ).take 20 ++ (List.range 6).map (fun j => gx_pc (sx_pl_cloth σ (upd (gx_pl_cloth σ) i v)) j) := rfl
  rw [hl]
  simp only [hc]
  rcases (show i = 0 ∨ i = 1 ∨ i = 2 ∨ i = 3 ∨ i = 4 ∨ i = 5 by omega) with rfl | rfl | rfl | rfl | rfl | rfl <;> rfl
theorem ox_pput4 {rt : Option FieldType} {pc idx : Nat} {ls : ev_L} {r : List Value} {σ : SX} {a : Nat} {v : Int32} {P : List Nat} (h : gx_pok σ a = true) : ev_one rt (pc, .putfield idx, 3, 4, 0, .null, [(0, 0), (1, 0), (2, 0), (6, 0), (9, 0), (10, 0)], P) ls (.int v :: .ref a :: r) (hX σ) = some (.inl (pc + 3, ls, r, hX (sx_pl_cloth σ (upd (gx_pl_cloth σ) (a - 20) v)))) := by
  simp only [ev_one, ev_o4, ox_getp h]
  rw [if_pos ⟨ox_any (ox_kd h), by show 4 < 6; omega, rfl⟩, ox_pset4 h]
theorem ox_pget5 {rt : Option FieldType} {pc idx : Nat} {ls : ev_L} {r : List Value} {σ : SX} {a : Nat} {P : List Nat} (h : gx_pok σ a = true) : ev_one rt (pc, .getfield idx, 3, 5, 0, .null, [(0, 0), (1, 0), (2, 0), (6, 0), (9, 0), (10, 0)], P) ls (.ref a :: r) (hX σ) = some (.inl (pc + 3, ls, .int (gx_pl_giggle σ (a - 20)) :: r, hX σ)) := by
  simp only [ev_one, ev_o4, ox_getp h]
  rw [if_neg (ox_n2 h), if_pos (ox_any (ox_kd h))]
  rfl
theorem ox_pset5 {σ : SX} {a : Nat} (h : gx_pok σ a = true) (v : Int32) : (hX σ).set a (some (.inr (ev_kc (gx_pl_kd σ (a - 20)), (ox_fs σ (a - 20)).set 5 (.int v)))) = hX (sx_pl_giggle σ (upd (gx_pl_giggle σ) (a - 20) v)) := by
  obtain ⟨i, hi, rfl, he, hk⟩ := ox_pk h
  rw [Nat.add_sub_cancel_left]
  have hc : ∀ j : Nat, gx_pc (sx_pl_giggle σ (upd (gx_pl_giggle σ) i v)) j = if j = i then some (.inr (ev_kc (gx_pl_kd σ i), (ox_fs σ i).set 5 (.int v))) else gx_pc σ j := by
    intro j
    by_cases e : j = i
    · subst e
      rw [if_pos rfl]
      unfold gx_pc
      rw [if_pos (show gx_pl_ex (sx_pl_giggle σ (upd (gx_pl_giggle σ) j v)) j = true from he)]
      show some (Sum.inr (ev_kc (gx_pl_kd σ j), _)) = _
      congr 3
      simp [ox_fs, gx_pl_told, gx_pl_kept, gx_pl_at, gx_pl_size, gx_pl_cloth, gx_pl_giggle, sx_pl_giggle, upd]
    · rw [if_neg e]
      unfold gx_pc
      show (if gx_pl_ex σ j = true then _ else _) = _
      have hu : upd (gx_pl_giggle σ) i v j = gx_pl_giggle σ j := by simp [upd, e]
      congr 4
      simp [ox_fs, gx_pl_told, gx_pl_kept, gx_pl_at, gx_pl_size, gx_pl_cloth, gx_pl_giggle, sx_pl_giggle, upd, e]
  have hl : hX (sx_pl_giggle σ (upd (gx_pl_giggle σ) i v)) = (hX σ).take 20 ++ (List.range 6).map (fun j => gx_pc (sx_pl_giggle σ (upd (gx_pl_giggle σ) i v)) j) := rfl
  rw [hl]
  simp only [hc]
  rcases (show i = 0 ∨ i = 1 ∨ i = 2 ∨ i = 3 ∨ i = 4 ∨ i = 5 by omega) with rfl | rfl | rfl | rfl | rfl | rfl <;> rfl
theorem ox_pput5 {rt : Option FieldType} {pc idx : Nat} {ls : ev_L} {r : List Value} {σ : SX} {a : Nat} {v : Int32} {P : List Nat} (h : gx_pok σ a = true) : ev_one rt (pc, .putfield idx, 3, 5, 0, .null, [(0, 0), (1, 0), (2, 0), (6, 0), (9, 0), (10, 0)], P) ls (.int v :: .ref a :: r) (hX σ) = some (.inl (pc + 3, ls, r, hX (sx_pl_giggle σ (upd (gx_pl_giggle σ) (a - 20) v)))) := by
  simp only [ev_one, ev_o4, ox_getp h]
  rw [if_pos ⟨ox_any (ox_kd h), by show 5 < 6; omega, rfl⟩, ox_pset5 h]
theorem ox_inv0 {pc idx : Nat} {r : List Value} {σ : SX} {a kk : Nat} {D : List (Nat × Nat)} {P : List Nat}  (ev_cat_ok : ev_cat r ≤ 8) (h : gx_pok σ a = true) (hk : List.lookup (ev_kc (gx_pl_kd σ (a - 20))) D = some kk) : ev_inv (pc, .invokevirtual idx, 3, 0, 0, .null, D, P) (.ref a :: r) (hX σ) = some (kk, .ref a :: [], r) := by
  show (if 0 ≤ r.length + 1 + 0 ∧ 0 < 100 ∧ ev_cat r ≤ 8 then _ else none) = _
  rw [if_pos ⟨by omega, by omega, ev_cat_ok⟩, if_neg (ox_n2 h)]
  simp only [ox_getp h, hk]
  rfl
theorem ox_inv1 {pc idx : Nat} {r : List Value} {σ : SX} {a kk : Nat} {D : List (Nat × Nat)} {P : List Nat} {w0 : Value} (ev_cat_ok : ev_cat r ≤ 8) (h : gx_pok σ a = true) (hk : List.lookup (ev_kc (gx_pl_kd σ (a - 20))) D = some kk) : ev_inv (pc, .invokevirtual idx, 3, 1, 0, .null, D, P) (w0 :: .ref a :: r) (hX σ) = some (kk, .ref a :: [w0], r) := by
  show (if 1 ≤ r.length + 1 + 1 ∧ 1 < 100 ∧ ev_cat r ≤ 8 then _ else none) = _
  rw [if_pos ⟨by omega, by omega, ev_cat_ok⟩, if_neg (ox_n2 h)]
  simp only [ox_getp h, hk]
  rfl
theorem ox_inv2 {pc idx : Nat} {r : List Value} {σ : SX} {a kk : Nat} {D : List (Nat × Nat)} {P : List Nat} {w0 w1 : Value} (ev_cat_ok : ev_cat r ≤ 8) (h : gx_pok σ a = true) (hk : List.lookup (ev_kc (gx_pl_kd σ (a - 20))) D = some kk) : ev_inv (pc, .invokevirtual idx, 3, 2, 0, .null, D, P) (w0 :: w1 :: .ref a :: r) (hX σ) = some (kk, .ref a :: [w1, w0], r) := by
  show (if 2 ≤ r.length + 1 + 2 ∧ 2 < 100 ∧ ev_cat r ≤ 8 then _ else none) = _
  rw [if_pos ⟨by omega, by omega, ev_cat_ok⟩, if_neg (ox_n2 h)]
  simp only [ox_getp h, hk]
  rfl
theorem ox_inv3 {pc idx : Nat} {r : List Value} {σ : SX} {a kk : Nat} {D : List (Nat × Nat)} {P : List Nat} {w0 w1 w2 : Value} (ev_cat_ok : ev_cat r ≤ 8) (h : gx_pok σ a = true) (hk : List.lookup (ev_kc (gx_pl_kd σ (a - 20))) D = some kk) : ev_inv (pc, .invokevirtual idx, 3, 3, 0, .null, D, P) (w0 :: w1 :: w2 :: .ref a :: r) (hX σ) = some (kk, .ref a :: [w2, w1, w0], r) := by
  show (if 3 ≤ r.length + 1 + 3 ∧ 3 < 100 ∧ ev_cat r ≤ 8 then _ else none) = _
  rw [if_pos ⟨by omega, by omega, ev_cat_ok⟩, if_neg (ox_n2 h)]
  simp only [ox_getp h, hk]
  rfl
theorem ox_inv4 {pc idx : Nat} {r : List Value} {σ : SX} {a kk : Nat} {D : List (Nat × Nat)} {P : List Nat} {w0 w1 w2 w3 : Value} (ev_cat_ok : ev_cat r ≤ 8) (h : gx_pok σ a = true) (hk : List.lookup (ev_kc (gx_pl_kd σ (a - 20))) D = some kk) : ev_inv (pc, .invokevirtual idx, 3, 4, 0, .null, D, P) (w0 :: w1 :: w2 :: w3 :: .ref a :: r) (hX σ) = some (kk, .ref a :: [w3, w2, w1, w0], r) := by
  show (if 4 ≤ r.length + 1 + 4 ∧ 4 < 100 ∧ ev_cat r ≤ 8 then _ else none) = _
  rw [if_pos ⟨by omega, by omega, ev_cat_ok⟩, if_neg (ox_n2 h)]
  simp only [ox_getp h, hk]
  rfl
end
section
/-! ===== stores, each by one row (by program) ===== -/
theorem oy_put_x_tp_playing {rt : Option FieldType} {pc idx : Nat} {ls : ev_L} {r : List Value} {σ : SX} {v : Int32} {P : List Nat} : ev_one rt (pc, .putfield idx, 3, 6, 0, .null, [(11, 0)], P) ls (.int v :: .ref 0 :: r) (hX σ) = some (.inl (pc + 3, ls, r, hX (sx_tp_playing σ v))) := rfl
theorem oy_put_x_tp_ringsRead {rt : Option FieldType} {pc idx : Nat} {ls : ev_L} {r : List Value} {σ : SX} {v : Int32} {P : List Nat} : ev_one rt (pc, .putfield idx, 3, 7, 0, .null, [(11, 0)], P) ls (.int v :: .ref 0 :: r) (hX σ) = some (.inl (pc + 3, ls, r, hX (sx_tp_ringsRead σ v))) := rfl
theorem oy_put_x_tp_standsDone {rt : Option FieldType} {pc idx : Nat} {ls : ev_L} {r : List Value} {σ : SX} {v : Int32} {P : List Nat} : ev_one rt (pc, .putfield idx, 3, 8, 0, .null, [(11, 0)], P) ls (.int v :: .ref 0 :: r) (hX σ) = some (.inl (pc + 3, ls, r, hX (sx_tp_standsDone σ v))) := rfl
theorem oy_put_x_tp_imageKept {rt : Option FieldType} {pc idx : Nat} {ls : ev_L} {r : List Value} {σ : SX} {v : Int32} {P : List Nat} (hb : v = 0 ∨ v = 1) : ev_one rt (pc, .putfield idx, 3, 9, 2, .null, [(11, 0)], P) ls (.int v :: .ref 0 :: r) (hX σ) = some (.inl (pc + 3, ls, r, hX (sx_tp_imageKept σ v))) := by
  show (if _ ∧ _ ∧ ev_fit 2 (.int v) = true then _ else none) = _
  rw [if_pos ⟨rfl, Nat.le_of_ble_eq_true rfl, decide_eq_true hb⟩]
  rfl
theorem oy_put_x_pg_length {rt : Option FieldType} {pc idx : Nat} {ls : ev_L} {r : List Value} {σ : SX} {v : Int32} {P : List Nat} : ev_one rt (pc, .putfield idx, 3, 1, 0, .null, [(5, 0)], P) ls (.int v :: .ref 1 :: r) (hX σ) = some (.inl (pc + 3, ls, r, hX (sx_pg_length σ v))) := rfl
theorem oy_put_x_pg_row {rt : Option FieldType} {pc idx : Nat} {ls : ev_L} {r : List Value} {σ : SX} {v : Int32} {P : List Nat} : ev_one rt (pc, .putfield idx, 3, 2, 0, .null, [(5, 0)], P) ls (.int v :: .ref 1 :: r) (hX σ) = some (.inl (pc + 3, ls, r, hX (sx_pg_row σ v))) := rfl
theorem oy_put_x_pg_column {rt : Option FieldType} {pc idx : Nat} {ls : ev_L} {r : List Value} {σ : SX} {v : Int32} {P : List Nat} : ev_one rt (pc, .putfield idx, 3, 3, 0, .null, [(5, 0)], P) ls (.int v :: .ref 1 :: r) (hX σ) = some (.inl (pc + 3, ls, r, hX (sx_pg_column σ v))) := rfl
theorem oy_put_x_pg_width {rt : Option FieldType} {pc idx : Nat} {ls : ev_L} {r : List Value} {σ : SX} {v : Int32} {P : List Nat} : ev_one rt (pc, .putfield idx, 3, 4, 0, .null, [(5, 0)], P) ls (.int v :: .ref 1 :: r) (hX σ) = some (.inl (pc + 3, ls, r, hX (sx_pg_width σ v))) := rfl
theorem oy_ast_x_pg_signs {rt : Option FieldType} {pc : Nat} {ls : ev_L} {r : List Value} {σ : SX} {j : Int32} {v : Int32} {D : List (Nat × Nat)} {P : List Nat} (hin : ¬ (j < 0 ∨ 45 ≤ j.toNatClampNeg)) : ev_one rt (pc, .castore, 1, 0, 0, .null, D, P) ls (.int v :: .int j :: .ref 2 :: r) (hX σ) = some (.inl (pc + 1, ls, r, hX (sx_pg_signs σ (upd (gx_pg_signs σ) j.toNatClampNeg (vp_nar .char v))))) := by
  show (if ¬ (j < 0 ∨ 45 ≤ j.toNatClampNeg) then _ else none) = _
  rw [if_pos hin]
  rfl
theorem oy_put_x_rg_size {rt : Option FieldType} {pc idx : Nat} {ls : ev_L} {r : List Value} {σ : SX} {v : Int32} {P : List Nat} : ev_one rt (pc, .putfield idx, 3, 4, 0, .null, [(7, 0)], P) ls (.int v :: .ref 3 :: r) (hX σ) = some (.inl (pc + 3, ls, r, hX (sx_rg_size σ v))) := rfl
theorem oy_put_x_rg_free {rt : Option FieldType} {pc idx : Nat} {ls : ev_L} {r : List Value} {σ : SX} {v : Int32} {P : List Nat} : ev_one rt (pc, .putfield idx, 3, 5, 0, .null, [(7, 0)], P) ls (.int v :: .ref 3 :: r) (hX σ) = some (.inl (pc + 3, ls, r, hX (sx_rg_free σ v))) := rfl
theorem oy_ast_x_rg_kinds {rt : Option FieldType} {pc : Nat} {ls : ev_L} {r : List Value} {σ : SX} {j : Int32} {v : Int32} {D : List (Nat × Nat)} {P : List Nat} (hin : ¬ (j < 0 ∨ 36 ≤ j.toNatClampNeg)) : ev_one rt (pc, .iastore, 1, 0, 0, .null, D, P) ls (.int v :: .int j :: .ref 4 :: r) (hX σ) = some (.inl (pc + 1, ls, r, hX (sx_rg_kinds σ (upd (gx_rg_kinds σ) j.toNatClampNeg v)))) := by
  show (if ¬ (j < 0 ∨ 36 ≤ j.toNatClampNeg) then _ else none) = _
  rw [if_pos hin]
  rfl
theorem oy_ast_x_rg_rows {rt : Option FieldType} {pc : Nat} {ls : ev_L} {r : List Value} {σ : SX} {j : Int32} {v : Int32} {D : List (Nat × Nat)} {P : List Nat} (hin : ¬ (j < 0 ∨ 36 ≤ j.toNatClampNeg)) : ev_one rt (pc, .iastore, 1, 0, 0, .null, D, P) ls (.int v :: .int j :: .ref 5 :: r) (hX σ) = some (.inl (pc + 1, ls, r, hX (sx_rg_rows σ (upd (gx_rg_rows σ) j.toNatClampNeg v)))) := by
  show (if ¬ (j < 0 ∨ 36 ≤ j.toNatClampNeg) then _ else none) = _
  rw [if_pos hin]
  rfl
theorem oy_ast_x_rg_columns {rt : Option FieldType} {pc : Nat} {ls : ev_L} {r : List Value} {σ : SX} {j : Int32} {v : Int32} {D : List (Nat × Nat)} {P : List Nat} (hin : ¬ (j < 0 ∨ 36 ≤ j.toNatClampNeg)) : ev_one rt (pc, .iastore, 1, 0, 0, .null, D, P) ls (.int v :: .int j :: .ref 6 :: r) (hX σ) = some (.inl (pc + 1, ls, r, hX (sx_rg_columns σ (upd (gx_rg_columns σ) j.toNatClampNeg v)))) := by
  show (if ¬ (j < 0 ∨ 36 ≤ j.toNatClampNeg) then _ else none) = _
  rw [if_pos hin]
  rfl
theorem oy_ast_x_rg_beside {rt : Option FieldType} {pc : Nat} {ls : ev_L} {r : List Value} {σ : SX} {j : Int32} {v : Int32} {D : List (Nat × Nat)} {P : List Nat} (hin : ¬ (j < 0 ∨ 144 ≤ j.toNatClampNeg)) : ev_one rt (pc, .iastore, 1, 0, 0, .null, D, P) ls (.int v :: .int j :: .ref 7 :: r) (hX σ) = some (.inl (pc + 1, ls, r, hX (sx_rg_beside σ (upd (gx_rg_beside σ) j.toNatClampNeg v)))) := by
  show (if ¬ (j < 0 ∨ 144 ≤ j.toNatClampNeg) then _ else none) = _
  rw [if_pos hin]
  rfl
theorem oy_put_x_od_updates {rt : Option FieldType} {pc idx : Nat} {ls : ev_L} {r : List Value} {σ : SX} {v : Int32} {P : List Nat} : ev_one rt (pc, .putfield idx, 3, 4, 0, .null, [(4, 0)], P) ls (.int v :: .ref 8 :: r) (hX σ) = some (.inl (pc + 3, ls, r, hX (sx_od_updates σ v))) := rfl
theorem oy_put_x_od_keptUpdates {rt : Option FieldType} {pc idx : Nat} {ls : ev_L} {r : List Value} {σ : SX} {v : Int32} {P : List Nat} : ev_one rt (pc, .putfield idx, 3, 5, 0, .null, [(4, 0)], P) ls (.int v :: .ref 8 :: r) (hX σ) = some (.inl (pc + 3, ls, r, hX (sx_od_keptUpdates σ v))) := rfl
theorem oy_ast_x_od_weights {rt : Option FieldType} {pc : Nat} {ls : ev_L} {r : List Value} {σ : SX} {j : Int32} {v : Int64} {D : List (Nat × Nat)} {P : List Nat} (hin : ¬ (j < 0 ∨ 144 ≤ j.toNatClampNeg)) : ev_one rt (pc, .lastore, 1, 0, 0, .null, D, P) ls (.long v :: .int j :: .ref 9 :: r) (hX σ) = some (.inl (pc + 1, ls, r, hX (sx_od_weights σ (vp_updL (gx_od_weights σ) j.toNatClampNeg v)))) := by
  show (if ¬ (j < 0 ∨ 144 ≤ j.toNatClampNeg) then _ else none) = _
  rw [if_pos hin]
  rfl
theorem oy_ast_x_od_kept {rt : Option FieldType} {pc : Nat} {ls : ev_L} {r : List Value} {σ : SX} {j : Int32} {v : Int64} {D : List (Nat × Nat)} {P : List Nat} (hin : ¬ (j < 0 ∨ 144 ≤ j.toNatClampNeg)) : ev_one rt (pc, .lastore, 1, 0, 0, .null, D, P) ls (.long v :: .int j :: .ref 10 :: r) (hX σ) = some (.inl (pc + 1, ls, r, hX (sx_od_kept σ (vp_updL (gx_od_kept σ) j.toNatClampNeg v)))) := by
  show (if ¬ (j < 0 ∨ 144 ≤ j.toNatClampNeg) then _ else none) = _
  rw [if_pos hin]
  rfl
theorem oy_ast_x_pl_arr {rt : Option FieldType} {pc : Nat} {ls : ev_L} {r : List Value} {σ : SX} {j : Int32} {D : List (Nat × Nat)} {P : List Nat} (hin : ¬ (j < 0 ∨ 6 ≤ j.toNatClampNeg)) : ev_one rt (pc, .aastore, 1, 0, 0, .null, D, P) ls (.null :: .int j :: .ref 16 :: r) (hX σ) = some (.inl (pc + 1, ls, r, hX (sx_pl_arr σ (va_up (gx_pl_arr σ) j.toNatClampNeg none)))) := by
  show (if ¬ (j < 0 ∨ 6 ≤ j.toNatClampNeg) then _ else none) = _
  rw [if_pos hin]
  rfl
theorem oy_put_x_rd_firstCell {rt : Option FieldType} {pc idx : Nat} {ls : ev_L} {r : List Value} {σ : SX} {v : Int32} {P : List Nat} : ev_one rt (pc, .putfield idx, 3, 2, 0, .null, [(8, 0)], P) ls (.int v :: .ref 17 :: r) (hX σ) = some (.inl (pc + 3, ls, r, hX (sx_rd_firstCell σ v))) := rfl
theorem oy_put_x_rd_firstWay {rt : Option FieldType} {pc idx : Nat} {ls : ev_L} {r : List Value} {σ : SX} {v : Int32} {P : List Nat} : ev_one rt (pc, .putfield idx, 3, 3, 0, .null, [(8, 0)], P) ls (.int v :: .ref 17 :: r) (hX σ) = some (.inl (pc + 3, ls, r, hX (sx_rd_firstWay σ v))) := rfl
theorem oy_put_x_rd_drift {rt : Option FieldType} {pc idx : Nat} {ls : ev_L} {r : List Value} {σ : SX} {v : Int32} {P : List Nat} : ev_one rt (pc, .putfield idx, 3, 4, 0, .null, [(8, 0)], P) ls (.int v :: .ref 17 :: r) (hX σ) = some (.inl (pc + 3, ls, r, hX (sx_rd_drift σ v))) := rfl
theorem oy_put_x_rd_tenths {rt : Option FieldType} {pc idx : Nat} {ls : ev_L} {r : List Value} {σ : SX} {v : Int32} {P : List Nat} : ev_one rt (pc, .putfield idx, 3, 5, 0, .null, [(8, 0)], P) ls (.int v :: .ref 17 :: r) (hX σ) = some (.inl (pc + 3, ls, r, hX (sx_rd_tenths σ v))) := rfl
theorem oy_put_x_rd_hisCell {rt : Option FieldType} {pc idx : Nat} {ls : ev_L} {r : List Value} {σ : SX} {v : Int32} {P : List Nat} : ev_one rt (pc, .putfield idx, 3, 6, 0, .null, [(8, 0)], P) ls (.int v :: .ref 17 :: r) (hX σ) = some (.inl (pc + 3, ls, r, hX (sx_rd_hisCell σ v))) := rfl
theorem oy_put_x_rd_hisWay {rt : Option FieldType} {pc idx : Nat} {ls : ev_L} {r : List Value} {σ : SX} {v : Int32} {P : List Nat} : ev_one rt (pc, .putfield idx, 3, 7, 0, .null, [(8, 0)], P) ls (.int v :: .ref 17 :: r) (hX σ) = some (.inl (pc + 3, ls, r, hX (sx_rd_hisWay σ v))) := rfl
theorem oy_put_x_rd_tenth {rt : Option FieldType} {pc idx : Nat} {ls : ev_L} {r : List Value} {σ : SX} {v : Int32} {P : List Nat} : ev_one rt (pc, .putfield idx, 3, 8, 0, .null, [(8, 0)], P) ls (.int v :: .ref 17 :: r) (hX σ) = some (.inl (pc + 3, ls, r, hX (sx_rd_tenth σ v))) := rfl
theorem oy_put_x_rd_touched {rt : Option FieldType} {pc idx : Nat} {ls : ev_L} {r : List Value} {σ : SX} {v : Int32} {P : List Nat} : ev_one rt (pc, .putfield idx, 3, 9, 0, .null, [(8, 0)], P) ls (.int v :: .ref 17 :: r) (hX σ) = some (.inl (pc + 3, ls, r, hX (sx_rd_touched σ v))) := rfl
theorem oy_put_x_rd_seed {rt : Option FieldType} {pc idx : Nat} {ls : ev_L} {r : List Value} {σ : SX} {v : Int64} {P : List Nat} : ev_one rt (pc, .putfield idx, 3, 10, 1, .null, [(8, 0)], P) ls (.long v :: .ref 17 :: r) (hX σ) = some (.inl (pc + 3, ls, r, hX (sx_rd_seed σ v))) := rfl
theorem oy_put_x_nm_sizeOff {rt : Option FieldType} {pc idx : Nat} {ls : ev_L} {r : List Value} {σ : SX} {v : Int32} {P : List Nat} : ev_one rt (pc, .putfield idx, 3, 2, 0, .null, [(3, 0)], P) ls (.int v :: .ref 18 :: r) (hX σ) = some (.inl (pc + 3, ls, r, hX (sx_nm_sizeOff σ v))) := rfl
theorem oy_put_x_nm_clothRight {rt : Option FieldType} {pc idx : Nat} {ls : ev_L} {r : List Value} {σ : SX} {v : Int32} {P : List Nat} : ev_one rt (pc, .putfield idx, 3, 3, 0, .null, [(3, 0)], P) ls (.int v :: .ref 18 :: r) (hX σ) = some (.inl (pc + 3, ls, r, hX (sx_nm_clothRight σ v))) := rfl
theorem oy_put_x_nm_giggleRight {rt : Option FieldType} {pc idx : Nat} {ls : ev_L} {r : List Value} {σ : SX} {v : Int32} {P : List Nat} : ev_one rt (pc, .putfield idx, 3, 4, 0, .null, [(3, 0)], P) ls (.int v :: .ref 18 :: r) (hX σ) = some (.inl (pc + 3, ls, r, hX (sx_nm_giggleRight σ v))) := rfl
theorem oy_put_x_nm_first {rt : Option FieldType} {pc idx : Nat} {ls : ev_L} {r : List Value} {σ : SX} {v : Int32} {P : List Nat} : ev_one rt (pc, .putfield idx, 3, 5, 0, .null, [(3, 0)], P) ls (.int v :: .ref 18 :: r) (hX σ) = some (.inl (pc + 3, ls, r, hX (sx_nm_first σ v))) := rfl
theorem oy_put_x_nm_second {rt : Option FieldType} {pc idx : Nat} {ls : ev_L} {r : List Value} {σ : SX} {v : Int32} {P : List Nat} : ev_one rt (pc, .putfield idx, 3, 6, 0, .null, [(3, 0)], P) ls (.int v :: .ref 18 :: r) (hX σ) = some (.inl (pc + 3, ls, r, hX (sx_nm_second σ v))) := rfl
theorem oy_put_x_nm_changed {rt : Option FieldType} {pc idx : Nat} {ls : ev_L} {r : List Value} {σ : SX} {v : Int32} {P : List Nat} : ev_one rt (pc, .putfield idx, 3, 7, 0, .null, [(3, 0)], P) ls (.int v :: .ref 18 :: r) (hX σ) = some (.inl (pc + 3, ls, r, hX (sx_nm_changed σ v))) := rfl
theorem oy_put_x_nm_keptFirst {rt : Option FieldType} {pc idx : Nat} {ls : ev_L} {r : List Value} {σ : SX} {v : Int32} {P : List Nat} : ev_one rt (pc, .putfield idx, 3, 8, 0, .null, [(3, 0)], P) ls (.int v :: .ref 18 :: r) (hX σ) = some (.inl (pc + 3, ls, r, hX (sx_nm_keptFirst σ v))) := rfl
theorem oy_put_x_nm_keptSecond {rt : Option FieldType} {pc idx : Nat} {ls : ev_L} {r : List Value} {σ : SX} {v : Int32} {P : List Nat} : ev_one rt (pc, .putfield idx, 3, 9, 0, .null, [(3, 0)], P) ls (.int v :: .ref 18 :: r) (hX σ) = some (.inl (pc + 3, ls, r, hX (sx_nm_keptSecond σ v))) := rfl
theorem oy_put_x_nm_keptChanged {rt : Option FieldType} {pc idx : Nat} {ls : ev_L} {r : List Value} {σ : SX} {v : Int32} {P : List Nat} : ev_one rt (pc, .putfield idx, 3, 10, 0, .null, [(3, 0)], P) ls (.int v :: .ref 18 :: r) (hX σ) = some (.inl (pc + 3, ls, r, hX (sx_nm_keptChanged σ v))) := rfl
theorem oy_ast_x_nm_weights {rt : Option FieldType} {pc : Nat} {ls : ev_L} {r : List Value} {σ : SX} {j : Int32} {v : Int32} {D : List (Nat × Nat)} {P : List Nat} (hin : ¬ (j < 0 ∨ 6 ≤ j.toNatClampNeg)) : ev_one rt (pc, .iastore, 1, 0, 0, .null, D, P) ls (.int v :: .int j :: .ref 19 :: r) (hX σ) = some (.inl (pc + 1, ls, r, hX (sx_nm_weights σ (upd (gx_nm_weights σ) j.toNatClampNeg v)))) := by
  show (if ¬ (j < 0 ∨ 6 ≤ j.toNatClampNeg) then _ else none) = _
  rw [if_pos hin]
  rfl
theorem oy_put_m_rg_rows {rt : Option FieldType} {pc idx : Nat} {ls : ev_L} {r : List Value} {σ : SM} {v : Int32} {P : List Nat} : ev_one rt (pc, .putfield idx, 3, 0, 0, .null, [(12, 0)], P) ls (.int v :: .ref 0 :: r) (hM σ) = some (.inl (pc + 3, ls, r, hM (sm_rg_rows σ v))) := rfl
theorem oy_put_m_rg_columns {rt : Option FieldType} {pc idx : Nat} {ls : ev_L} {r : List Value} {σ : SM} {v : Int32} {P : List Nat} : ev_one rt (pc, .putfield idx, 3, 1, 0, .null, [(12, 0)], P) ls (.int v :: .ref 0 :: r) (hM σ) = some (.inl (pc + 3, ls, r, hM (sm_rg_columns σ v))) := rfl
theorem oy_put_m_rg_rings {rt : Option FieldType} {pc idx : Nat} {ls : ev_L} {r : List Value} {σ : SM} {v : Int32} {P : List Nat} : ev_one rt (pc, .putfield idx, 3, 2, 0, .null, [(12, 0)], P) ls (.int v :: .ref 0 :: r) (hM σ) = some (.inl (pc + 3, ls, r, hM (sm_rg_rings σ v))) := rfl
theorem oy_put_m_od_updates {rt : Option FieldType} {pc idx : Nat} {ls : ev_L} {r : List Value} {σ : SM} {v : Int32} {P : List Nat} : ev_one rt (pc, .putfield idx, 3, 6, 0, .null, [(12, 0)], P) ls (.int v :: .ref 0 :: r) (hM σ) = some (.inl (pc + 3, ls, r, hM (sm_od_updates σ v))) := rfl
theorem oy_put_m_pl_players {rt : Option FieldType} {pc idx : Nat} {ls : ev_L} {r : List Value} {σ : SM} {v : Int32} {P : List Nat} : ev_one rt (pc, .putfield idx, 3, 7, 0, .null, [(12, 0)], P) ls (.int v :: .ref 0 :: r) (hM σ) = some (.inl (pc + 3, ls, r, hM (sm_pl_players σ v))) := rfl
theorem oy_put_m_nm_unsure {rt : Option FieldType} {pc idx : Nat} {ls : ev_L} {r : List Value} {σ : SM} {v : Int32} {P : List Nat} : ev_one rt (pc, .putfield idx, 3, 13, 0, .null, [(12, 0)], P) ls (.int v :: .ref 0 :: r) (hM σ) = some (.inl (pc + 3, ls, r, hM (sm_nm_unsure σ v))) := rfl
theorem oy_put_m_nm_clothRight {rt : Option FieldType} {pc idx : Nat} {ls : ev_L} {r : List Value} {σ : SM} {v : Int32} {P : List Nat} : ev_one rt (pc, .putfield idx, 3, 14, 0, .null, [(12, 0)], P) ls (.int v :: .ref 0 :: r) (hM σ) = some (.inl (pc + 3, ls, r, hM (sm_nm_clothRight σ v))) := rfl
theorem oy_put_m_nm_giggleRight {rt : Option FieldType} {pc idx : Nat} {ls : ev_L} {r : List Value} {σ : SM} {v : Int32} {P : List Nat} : ev_one rt (pc, .putfield idx, 3, 15, 0, .null, [(12, 0)], P) ls (.int v :: .ref 0 :: r) (hM σ) = some (.inl (pc + 3, ls, r, hM (sm_nm_giggleRight σ v))) := rfl
theorem oy_put_m_nm_jacketA {rt : Option FieldType} {pc idx : Nat} {ls : ev_L} {r : List Value} {σ : SM} {v : Int32} {P : List Nat} : ev_one rt (pc, .putfield idx, 3, 16, 0, .null, [(12, 0)], P) ls (.int v :: .ref 0 :: r) (hM σ) = some (.inl (pc + 3, ls, r, hM (sm_nm_jacketA σ v))) := rfl
theorem oy_put_m_nm_jacketB {rt : Option FieldType} {pc idx : Nat} {ls : ev_L} {r : List Value} {σ : SM} {v : Int32} {P : List Nat} : ev_one rt (pc, .putfield idx, 3, 17, 0, .null, [(12, 0)], P) ls (.int v :: .ref 0 :: r) (hM σ) = some (.inl (pc + 3, ls, r, hM (sm_nm_jacketB σ v))) := rfl
theorem oy_put_m_nm_jacketTenths {rt : Option FieldType} {pc idx : Nat} {ls : ev_L} {r : List Value} {σ : SM} {v : Int32} {P : List Nat} : ev_one rt (pc, .putfield idx, 3, 18, 0, .null, [(12, 0)], P) ls (.int v :: .ref 0 :: r) (hM σ) = some (.inl (pc + 3, ls, r, hM (sm_nm_jacketTenths σ v))) := rfl
theorem oy_put_m_nm_asks {rt : Option FieldType} {pc idx : Nat} {ls : ev_L} {r : List Value} {σ : SM} {v : Int32} {P : List Nat} : ev_one rt (pc, .putfield idx, 3, 19, 0, .null, [(12, 0)], P) ls (.int v :: .ref 0 :: r) (hM σ) = some (.inl (pc + 3, ls, r, hM (sm_nm_asks σ v))) := rfl
theorem oy_put_m_pg_pageLength {rt : Option FieldType} {pc idx : Nat} {ls : ev_L} {r : List Value} {σ : SM} {v : Int32} {P : List Nat} : ev_one rt (pc, .putfield idx, 3, 20, 0, .null, [(12, 0)], P) ls (.int v :: .ref 0 :: r) (hM σ) = some (.inl (pc + 3, ls, r, hM (sm_pg_pageLength σ v))) := rfl
theorem oy_put_m_kp_isKept {rt : Option FieldType} {pc idx : Nat} {ls : ev_L} {r : List Value} {σ : SM} {v : Int32} {P : List Nat} (hb : v = 0 ∨ v = 1) : ev_one rt (pc, .putfield idx, 3, 22, 2, .null, [(12, 0)], P) ls (.int v :: .ref 0 :: r) (hM σ) = some (.inl (pc + 3, ls, r, hM (sm_kp_isKept σ v))) := by
  show (if _ ∧ _ ∧ ev_fit 2 (.int v) = true then _ else none) = _
  rw [if_pos ⟨rfl, Nat.le_of_ble_eq_true rfl, decide_eq_true hb⟩]
  rfl
theorem oy_put_m_kp_keptRing {rt : Option FieldType} {pc idx : Nat} {ls : ev_L} {r : List Value} {σ : SM} {v : Int32} {P : List Nat} : ev_one rt (pc, .putfield idx, 3, 23, 0, .null, [(12, 0)], P) ls (.int v :: .ref 0 :: r) (hM σ) = some (.inl (pc + 3, ls, r, hM (sm_kp_keptRing σ v))) := rfl
theorem oy_put_m_kp_keptPlayers {rt : Option FieldType} {pc idx : Nat} {ls : ev_L} {r : List Value} {σ : SM} {v : Int32} {P : List Nat} : ev_one rt (pc, .putfield idx, 3, 24, 0, .null, [(12, 0)], P) ls (.int v :: .ref 0 :: r) (hM σ) = some (.inl (pc + 3, ls, r, hM (sm_kp_keptPlayers σ v))) := rfl
theorem oy_put_m_kp_keptUpdates {rt : Option FieldType} {pc idx : Nat} {ls : ev_L} {r : List Value} {σ : SM} {v : Int32} {P : List Nat} : ev_one rt (pc, .putfield idx, 3, 25, 0, .null, [(12, 0)], P) ls (.int v :: .ref 0 :: r) (hM σ) = some (.inl (pc + 3, ls, r, hM (sm_kp_keptUpdates σ v))) := rfl
theorem oy_put_m_kp_keptA {rt : Option FieldType} {pc idx : Nat} {ls : ev_L} {r : List Value} {σ : SM} {v : Int32} {P : List Nat} : ev_one rt (pc, .putfield idx, 3, 26, 0, .null, [(12, 0)], P) ls (.int v :: .ref 0 :: r) (hM σ) = some (.inl (pc + 3, ls, r, hM (sm_kp_keptA σ v))) := rfl
theorem oy_put_m_kp_keptB {rt : Option FieldType} {pc idx : Nat} {ls : ev_L} {r : List Value} {σ : SM} {v : Int32} {P : List Nat} : ev_one rt (pc, .putfield idx, 3, 27, 0, .null, [(12, 0)], P) ls (.int v :: .ref 0 :: r) (hM σ) = some (.inl (pc + 3, ls, r, hM (sm_kp_keptB σ v))) := rfl
theorem oy_put_m_kp_keptTenths {rt : Option FieldType} {pc idx : Nat} {ls : ev_L} {r : List Value} {σ : SM} {v : Int32} {P : List Nat} : ev_one rt (pc, .putfield idx, 3, 28, 0, .null, [(12, 0)], P) ls (.int v :: .ref 0 :: r) (hM σ) = some (.inl (pc + 3, ls, r, hM (sm_kp_keptTenths σ v))) := rfl
theorem oy_put_m_rp_faultAt {rt : Option FieldType} {pc idx : Nat} {ls : ev_L} {r : List Value} {σ : SM} {v : Int32} {P : List Nat} : ev_one rt (pc, .putfield idx, 3, 31, 0, .null, [(12, 0)], P) ls (.int v :: .ref 0 :: r) (hM σ) = some (.inl (pc + 3, ls, r, hM (sm_rp_faultAt σ v))) := rfl
theorem oy_put_m_rp_isWhole {rt : Option FieldType} {pc idx : Nat} {ls : ev_L} {r : List Value} {σ : SM} {v : Int32} {P : List Nat} (hb : v = 0 ∨ v = 1) : ev_one rt (pc, .putfield idx, 3, 32, 2, .null, [(12, 0)], P) ls (.int v :: .ref 0 :: r) (hM σ) = some (.inl (pc + 3, ls, r, hM (sm_rp_isWhole σ v))) := by
  show (if _ ∧ _ ∧ ev_fit 2 (.int v) = true then _ else none) = _
  rw [if_pos ⟨rfl, Nat.le_of_ble_eq_true rfl, decide_eq_true hb⟩]
  rfl
theorem oy_put_m_rp_newRows {rt : Option FieldType} {pc idx : Nat} {ls : ev_L} {r : List Value} {σ : SM} {v : Int32} {P : List Nat} : ev_one rt (pc, .putfield idx, 3, 33, 0, .null, [(12, 0)], P) ls (.int v :: .ref 0 :: r) (hM σ) = some (.inl (pc + 3, ls, r, hM (sm_rp_newRows σ v))) := rfl
theorem oy_put_m_rp_newColumns {rt : Option FieldType} {pc idx : Nat} {ls : ev_L} {r : List Value} {σ : SM} {v : Int32} {P : List Nat} : ev_one rt (pc, .putfield idx, 3, 34, 0, .null, [(12, 0)], P) ls (.int v :: .ref 0 :: r) (hM σ) = some (.inl (pc + 3, ls, r, hM (sm_rp_newColumns σ v))) := rfl
theorem oy_put_m_rp_gonePost {rt : Option FieldType} {pc idx : Nat} {ls : ev_L} {r : List Value} {σ : SM} {v : Int32} {P : List Nat} : ev_one rt (pc, .putfield idx, 3, 36, 0, .null, [(12, 0)], P) ls (.int v :: .ref 0 :: r) (hM σ) = some (.inl (pc + 3, ls, r, hM (sm_rp_gonePost σ v))) := rfl
theorem oy_put_m_gm_his {rt : Option FieldType} {pc idx : Nat} {ls : ev_L} {r : List Value} {σ : SM} {v : Int32} {P : List Nat} : ev_one rt (pc, .putfield idx, 3, 37, 0, .null, [(12, 0)], P) ls (.int v :: .ref 0 :: r) (hM σ) = some (.inl (pc + 3, ls, r, hM (sm_gm_his σ v))) := rfl
theorem oy_put_m_gm_looks {rt : Option FieldType} {pc idx : Nat} {ls : ev_L} {r : List Value} {σ : SM} {v : Int32} {P : List Nat} : ev_one rt (pc, .putfield idx, 3, 38, 0, .null, [(12, 0)], P) ls (.int v :: .ref 0 :: r) (hM σ) = some (.inl (pc + 3, ls, r, hM (sm_gm_looks σ v))) := rfl
theorem oy_put_m_gm_seedNow {rt : Option FieldType} {pc idx : Nat} {ls : ev_L} {r : List Value} {σ : SM} {v : Int64} {P : List Nat} : ev_one rt (pc, .putfield idx, 3, 39, 1, .null, [(12, 0)], P) ls (.long v :: .ref 0 :: r) (hM σ) = some (.inl (pc + 3, ls, r, hM (sm_gm_seedNow σ v))) := rfl
theorem oy_put_m_gm_touched {rt : Option FieldType} {pc idx : Nat} {ls : ev_L} {r : List Value} {σ : SM} {v : Int32} {P : List Nat} : ev_one rt (pc, .putfield idx, 3, 41, 0, .null, [(12, 0)], P) ls (.int v :: .ref 0 :: r) (hM σ) = some (.inl (pc + 3, ls, r, hM (sm_gm_touched σ v))) := rfl
theorem oy_put_m_gm_touchedAt {rt : Option FieldType} {pc idx : Nat} {ls : ev_L} {r : List Value} {σ : SM} {v : Int32} {P : List Nat} : ev_one rt (pc, .putfield idx, 3, 42, 0, .null, [(12, 0)], P) ls (.int v :: .ref 0 :: r) (hM σ) = some (.inl (pc + 3, ls, r, hM (sm_gm_touchedAt σ v))) := rfl
theorem oy_put_m_gm_h {rt : Option FieldType} {pc idx : Nat} {ls : ev_L} {r : List Value} {σ : SM} {v : Int64} {P : List Nat} : ev_one rt (pc, .putfield idx, 3, 43, 1, .null, [(12, 0)], P) ls (.long v :: .ref 0 :: r) (hM σ) = some (.inl (pc + 3, ls, r, hM (sm_gm_h σ v))) := rfl
theorem oy_ast_m_rg_cellOf {rt : Option FieldType} {pc : Nat} {ls : ev_L} {r : List Value} {σ : SM} {j : Int32} {v : Int32} {D : List (Nat × Nat)} {P : List Nat} (hin : ¬ (j < 0 ∨ 36 ≤ j.toNatClampNeg)) : ev_one rt (pc, .iastore, 1, 0, 0, .null, D, P) ls (.int v :: .int j :: .ref 1 :: r) (hM σ) = some (.inl (pc + 1, ls, r, hM (sm_rg_cellOf σ (upd (gm_rg_cellOf σ) j.toNatClampNeg v)))) := by
  show (if ¬ (j < 0 ∨ 36 ≤ j.toNatClampNeg) then _ else none) = _
  rw [if_pos hin]
  rfl
theorem oy_ast_m_od_weight {rt : Option FieldType} {pc : Nat} {ls : ev_L} {r : List Value} {σ : SM} {j : Int32} {v : Int64} {D : List (Nat × Nat)} {P : List Nat} (hin : ¬ (j < 0 ∨ 144 ≤ j.toNatClampNeg)) : ev_one rt (pc, .lastore, 1, 0, 0, .null, D, P) ls (.long v :: .int j :: .ref 2 :: r) (hM σ) = some (.inl (pc + 1, ls, r, hM (sm_od_weight σ (vp_updL (gm_od_weight σ) j.toNatClampNeg v)))) := by
  show (if ¬ (j < 0 ∨ 144 ≤ j.toNatClampNeg) then _ else none) = _
  rw [if_pos hin]
  rfl
theorem oy_ast_m_od_then {rt : Option FieldType} {pc : Nat} {ls : ev_L} {r : List Value} {σ : SM} {j : Int32} {v : Int64} {D : List (Nat × Nat)} {P : List Nat} (hin : ¬ (j < 0 ∨ 144 ≤ j.toNatClampNeg)) : ev_one rt (pc, .lastore, 1, 0, 0, .null, D, P) ls (.long v :: .int j :: .ref 3 :: r) (hM σ) = some (.inl (pc + 1, ls, r, hM (sm_od_then σ (vp_updL (gm_od_then σ) j.toNatClampNeg v)))) := by
  show (if ¬ (j < 0 ∨ 144 ≤ j.toNatClampNeg) then _ else none) = _
  rw [if_pos hin]
  rfl
theorem oy_ast_m_pl_kindOf {rt : Option FieldType} {pc : Nat} {ls : ev_L} {r : List Value} {σ : SM} {j : Int32} {v : Int32} {D : List (Nat × Nat)} {P : List Nat} (hin : ¬ (j < 0 ∨ 6 ≤ j.toNatClampNeg)) : ev_one rt (pc, .iastore, 1, 0, 0, .null, D, P) ls (.int v :: .int j :: .ref 4 :: r) (hM σ) = some (.inl (pc + 1, ls, r, hM (sm_pl_kindOf σ (upd (gm_pl_kindOf σ) j.toNatClampNeg v)))) := by
  show (if ¬ (j < 0 ∨ 6 ≤ j.toNatClampNeg) then _ else none) = _
  rw [if_pos hin]
  rfl
theorem oy_ast_m_pl_placeOf {rt : Option FieldType} {pc : Nat} {ls : ev_L} {r : List Value} {σ : SM} {j : Int32} {v : Int32} {D : List (Nat × Nat)} {P : List Nat} (hin : ¬ (j < 0 ∨ 6 ≤ j.toNatClampNeg)) : ev_one rt (pc, .iastore, 1, 0, 0, .null, D, P) ls (.int v :: .int j :: .ref 5 :: r) (hM σ) = some (.inl (pc + 1, ls, r, hM (sm_pl_placeOf σ (upd (gm_pl_placeOf σ) j.toNatClampNeg v)))) := by
  show (if ¬ (j < 0 ∨ 6 ≤ j.toNatClampNeg) then _ else none) = _
  rw [if_pos hin]
  rfl
theorem oy_ast_m_pl_sizeOf {rt : Option FieldType} {pc : Nat} {ls : ev_L} {r : List Value} {σ : SM} {j : Int32} {v : Int32} {D : List (Nat × Nat)} {P : List Nat} (hin : ¬ (j < 0 ∨ 6 ≤ j.toNatClampNeg)) : ev_one rt (pc, .iastore, 1, 0, 0, .null, D, P) ls (.int v :: .int j :: .ref 6 :: r) (hM σ) = some (.inl (pc + 1, ls, r, hM (sm_pl_sizeOf σ (upd (gm_pl_sizeOf σ) j.toNatClampNeg v)))) := by
  show (if ¬ (j < 0 ∨ 6 ≤ j.toNatClampNeg) then _ else none) = _
  rw [if_pos hin]
  rfl
theorem oy_ast_m_pl_clothOf {rt : Option FieldType} {pc : Nat} {ls : ev_L} {r : List Value} {σ : SM} {j : Int32} {v : Int32} {D : List (Nat × Nat)} {P : List Nat} (hin : ¬ (j < 0 ∨ 6 ≤ j.toNatClampNeg)) : ev_one rt (pc, .iastore, 1, 0, 0, .null, D, P) ls (.int v :: .int j :: .ref 7 :: r) (hM σ) = some (.inl (pc + 1, ls, r, hM (sm_pl_clothOf σ (upd (gm_pl_clothOf σ) j.toNatClampNeg v)))) := by
  show (if ¬ (j < 0 ∨ 6 ≤ j.toNatClampNeg) then _ else none) = _
  rw [if_pos hin]
  rfl
theorem oy_ast_m_pl_giggleOf {rt : Option FieldType} {pc : Nat} {ls : ev_L} {r : List Value} {σ : SM} {j : Int32} {v : Int32} {D : List (Nat × Nat)} {P : List Nat} (hin : ¬ (j < 0 ∨ 6 ≤ j.toNatClampNeg)) : ev_one rt (pc, .iastore, 1, 0, 0, .null, D, P) ls (.int v :: .int j :: .ref 8 :: r) (hM σ) = some (.inl (pc + 1, ls, r, hM (sm_pl_giggleOf σ (upd (gm_pl_giggleOf σ) j.toNatClampNeg v)))) := by
  show (if ¬ (j < 0 ∨ 6 ≤ j.toNatClampNeg) then _ else none) = _
  rw [if_pos hin]
  rfl
theorem oy_ast_m_pg_page {rt : Option FieldType} {pc : Nat} {ls : ev_L} {r : List Value} {σ : SM} {j : Int32} {v : Int32} {D : List (Nat × Nat)} {P : List Nat} (hin : ¬ (j < 0 ∨ 45 ≤ j.toNatClampNeg)) : ev_one rt (pc, .bastore, 1, 0, 0, .null, D, P) ls (.int v :: .int j :: .ref 9 :: r) (hM σ) = some (.inl (pc + 1, ls, r, hM (sm_pg_page σ (upd (gm_pg_page σ) j.toNatClampNeg (vp_nar .byte v))))) := by
  show (if ¬ (j < 0 ∨ 45 ≤ j.toNatClampNeg) then _ else none) = _
  rw [if_pos hin]
  rfl
theorem oy_ast_m_kp_keptWeight {rt : Option FieldType} {pc : Nat} {ls : ev_L} {r : List Value} {σ : SM} {j : Int32} {v : Int64} {D : List (Nat × Nat)} {P : List Nat} (hin : ¬ (j < 0 ∨ 144 ≤ j.toNatClampNeg)) : ev_one rt (pc, .lastore, 1, 0, 0, .null, D, P) ls (.long v :: .int j :: .ref 10 :: r) (hM σ) = some (.inl (pc + 1, ls, r, hM (sm_kp_keptWeight σ (vp_updL (gm_kp_keptWeight σ) j.toNatClampNeg v)))) := by
  show (if ¬ (j < 0 ∨ 144 ≤ j.toNatClampNeg) then _ else none) = _
  rw [if_pos hin]
  rfl
theorem oy_ast_m_kp_keptPlace {rt : Option FieldType} {pc : Nat} {ls : ev_L} {r : List Value} {σ : SM} {j : Int32} {v : Int32} {D : List (Nat × Nat)} {P : List Nat} (hin : ¬ (j < 0 ∨ 6 ≤ j.toNatClampNeg)) : ev_one rt (pc, .iastore, 1, 0, 0, .null, D, P) ls (.int v :: .int j :: .ref 11 :: r) (hM σ) = some (.inl (pc + 1, ls, r, hM (sm_kp_keptPlace σ (upd (gm_kp_keptPlace σ) j.toNatClampNeg v)))) := by
  show (if ¬ (j < 0 ∨ 6 ≤ j.toNatClampNeg) then _ else none) = _
  rw [if_pos hin]
  rfl
theorem oy_ast_m_rp_newCell {rt : Option FieldType} {pc : Nat} {ls : ev_L} {r : List Value} {σ : SM} {j : Int32} {v : Int32} {D : List (Nat × Nat)} {P : List Nat} (hin : ¬ (j < 0 ∨ 36 ≤ j.toNatClampNeg)) : ev_one rt (pc, .iastore, 1, 0, 0, .null, D, P) ls (.int v :: .int j :: .ref 12 :: r) (hM σ) = some (.inl (pc + 1, ls, r, hM (sm_rp_newCell σ (upd (gm_rp_newCell σ) j.toNatClampNeg v)))) := by
  show (if ¬ (j < 0 ∨ 36 ≤ j.toNatClampNeg) then _ else none) = _
  rw [if_pos hin]
  rfl
theorem oy_ast_m_gm_place {rt : Option FieldType} {pc : Nat} {ls : ev_L} {r : List Value} {σ : SM} {j : Int32} {v : Int32} {D : List (Nat × Nat)} {P : List Nat} (hin : ¬ (j < 0 ∨ 6 ≤ j.toNatClampNeg)) : ev_one rt (pc, .iastore, 1, 0, 0, .null, D, P) ls (.int v :: .int j :: .ref 13 :: r) (hM σ) = some (.inl (pc + 1, ls, r, hM (sm_gm_place σ (upd (gm_gm_place σ) j.toNatClampNeg v)))) := by
  show (if ¬ (j < 0 ∨ 6 ≤ j.toNatClampNeg) then _ else none) = _
  rw [if_pos hin]
  rfl
theorem oy_cpy_x_od_weights_od_kept {rt : Option FieldType} {pc idx : Nat} {ls : ev_L} {r : List Value} {σ : SX} {D : List (Nat × Nat)} {P : List Nat} (hc : ev_cat r ≤ 8 := by decide) : ev_one rt (pc, .invokestatic idx, 3, 104, 0, .null, D, P) ls (.int 144 :: .int 0 :: .ref 10 :: .int 0 :: .ref 9 :: r) (hX σ) = some (.inl (pc + 3, ls, r, hX (sx_od_kept σ (va_cpy (gx_od_weights σ) (gx_od_kept σ) 0 0 144)))) := by
  show (if ev_cat r ≤ 8 ∧ _ then _ else none) = _
  rw [if_pos ⟨hc, by decide, by decide, by decide, by decide, by decide⟩]
  rfl
theorem oy_cpy_x_od_kept_od_weights {rt : Option FieldType} {pc idx : Nat} {ls : ev_L} {r : List Value} {σ : SX} {D : List (Nat × Nat)} {P : List Nat} (hc : ev_cat r ≤ 8 := by decide) : ev_one rt (pc, .invokestatic idx, 3, 104, 0, .null, D, P) ls (.int 144 :: .int 0 :: .ref 9 :: .int 0 :: .ref 10 :: r) (hX σ) = some (.inl (pc + 3, ls, r, hX (sx_od_weights σ (va_cpy (gx_od_kept σ) (gx_od_weights σ) 0 0 144)))) := by
  show (if ev_cat r ≤ 8 ∧ _ then _ else none) = _
  rw [if_pos ⟨hc, by decide, by decide, by decide, by decide, by decide⟩]
  rfl
end
section
/-! ===== THE METHODS AS FUNCTIONS (by program) ===== -/
def fX0_kind (σ : SX) (v0 : Nat) : Option (Int32) :=
  some ((5 : Int32))
def fX7_apart_b70 (σ : SX) (w0 : Int32) (w1 : Int32) : Option (Int32) :=
  some ((w1 + w0))
def fX7_apart_b57 (σ : SX) (v5 : Int32) (w0 : Int32) : Option (Int32) :=
  (if v5 < 0 then
    fX7_apart_b70 σ (-v5) w0
  else
    fX7_apart_b70 σ v5 w0)
def fX7_apart_b22 (σ : SX) : Option (Int32) :=
  some ((0 : Int32))
def fX7_apart (σ : SX) (v1 : Int32) (v2 : Int32) (v3 : Int32) : Option (Int32) :=
  (if v1 < 0 then
    fX7_apart_b22 σ
  else
    (if v1 < (36 : Int32) then
      (if v1 < (36 : Int32) then
        (if ¬ (v1 < 0 ∨ 36 ≤ v1.toNatClampNeg) then
          (if ¬ (v1 < 0 ∨ 36 ≤ v1.toNatClampNeg) then
            (if (((gx_rg_rows σ) v1.toNatClampNeg) - v2) < 0 then
              fX7_apart_b57 σ (((gx_rg_columns σ) v1.toNatClampNeg) - v3) (-(((gx_rg_rows σ) v1.toNatClampNeg) - v2))
            else
              fX7_apart_b57 σ (((gx_rg_columns σ) v1.toNatClampNeg) - v3) (((gx_rg_rows σ) v1.toNatClampNeg) - v2))
          else none)
        else none)
      else
        fX7_apart_b22 σ)
    else
      fX7_apart_b22 σ))
def fX7_ahead_b31 (σ : SX) (w0 : Int32) : Option (Int32) :=
  some (w0)
def fX7_ahead_b30 (σ : SX) : Option (Int32) :=
  fX7_ahead_b31 σ (-1 : Int32)
def fX7_ahead (σ : SX) (v1 : Int32) (v2 : Int32) : Option (Int32) :=
  (if ((v1 * (4 : Int32)) + (v2 &&& (3 : Int32))) < 0 then
    fX7_ahead_b30 σ
  else
    (if ((v1 * (4 : Int32)) + (v2 &&& (3 : Int32))) < (144 : Int32) then
      (if ¬ (((v1 * (4 : Int32)) + (v2 &&& (3 : Int32))) < 0 ∨ 144 ≤ ((v1 * (4 : Int32)) + (v2 &&& (3 : Int32))).toNatClampNeg) then
        fX7_ahead_b31 σ ((gx_rg_beside σ) ((v1 * (4 : Int32)) + (v2 &&& (3 : Int32))).toNatClampNeg)
      else none)
    else
      fX7_ahead_b30 σ))
def fX7_isFree_b36 (σ : SX) (w0 : Int32) : Option (Int32) :=
  (if w0 = 0 ∨ w0 = 1 then some (w0) else none)
def fX7_isFree_b35 (σ : SX) : Option (Int32) :=
  fX7_isFree_b36 σ (0 : Int32)
def fX7_isFree (σ : SX) (v1 : Int32) : Option (Int32) :=
  (if v1 < 0 then
    fX7_isFree_b35 σ
  else
    (if v1 < (gx_rg_size σ) then
      (if v1 < (36 : Int32) then
        (if ¬ (v1 < 0 ∨ 36 ≤ v1.toNatClampNeg) then
          (if (1 : Int32) < ((gx_rg_kinds σ) v1.toNatClampNeg) then
            fX7_isFree_b35 σ
          else
            fX7_isFree_b36 σ (1 : Int32))
        else none)
      else
        fX7_isFree_b35 σ)
    else
      fX7_isFree_b35 σ))
def fX7_choose_b70 (σ : SX) (k18 : Int32 → Int32 → Int32 → Int32 → Int32 → Int32 → Int32 → Option (Int32)) (v1 : Int32) (v2 : Int32) (v3 : Int32) (v4 : Int32) (v5 : Int32) (v6 : Int32) (v7 : Int32) : Option (Int32) :=
  k18 v1 v2 v3 v4 v5 v6 (v7 + (1 : Int32))
def fX7_choose_b18 (σ : SX) (k18 : Int32 → Int32 → Int32 → Int32 → Int32 → Int32 → Int32 → Option (Int32)) (v1 : Int32) (v2 : Int32) (v3 : Int32) (v4 : Int32) (v5 : Int32) (v6 : Int32) (v7 : Int32) : Option (Int32) :=
  (if v7 < (4 : Int32) then
    ((fX7_ahead σ v1 v7).bind (fun r2 =>
      ((fX7_isFree σ r2).bind (fun r3 =>
        (if r3 = 0 then
          fX7_choose_b70 σ k18 v1 v2 v3 v4 v5 v6 v7
        else
          ((fX7_apart σ r2 v2 v3).bind (fun r4 =>
            (if (v4 * r4) < v6 then
              fX7_choose_b70 σ k18 v1 v2 v3 v4 r2 (v4 * r4) v7
            else
              fX7_choose_b70 σ k18 v1 v2 v3 v4 v5 v6 v7))))))))
  else
    some (v5))
def fX7_choose_l18 (σ : SX) : Nat → Int32 → Int32 → Int32 → Int32 → Int32 → Int32 → Int32 → Option (Int32)
  | 0, _, _, _, _, _, _, _ => none
  | n + 1, v1, v2, v3, v4, v5, v6, v7 => fX7_choose_b18 σ (fX7_choose_l18 σ n) v1 v2 v3 v4 v5 v6 v7
def fX7_choose (σ : SX) (v1 : Int32) (v2 : Int32) (v3 : Int32) (v4 : Int32) : Option (Int32) :=
  ((fX7_apart σ v1 v2 v3).bind (fun r1 =>
    fX7_choose_l18 σ 1000 v1 v2 v3 v4 v1 (v4 * r1) (0 : Int32)))
def fX0_goOn (σ : SX) (v0 : Nat) (v2 : Int32) (v3 : Int32) (v4 : Int32) : Option (SX) :=
  (if gx_pok σ v0 = true then
    (if ¬ ((v4 &&& (3 : Int32)) < 0 ∨ 4 ≤ (v4 &&& (3 : Int32)).toNatClampNeg) then
      (if ¬ ((v4 &&& (3 : Int32)) < 0 ∨ 4 ≤ (v4 &&& (3 : Int32)).toNatClampNeg) then
        ((fX7_choose σ ((gx_pl_at σ) (v0 - 20)) (v2 - (ev_sf 1001 (v4 &&& (3 : Int32)).toNatClampNeg)) (v3 - (ev_sf 1002 (v4 &&& (3 : Int32)).toNatClampNeg)) (1 : Int32)).bind (fun r1 =>
          (if gx_pok σ v0 = true then
            some ((sx_pl_at σ (upd (gx_pl_at σ) (v0 - 20) r1)))
          else none)))
      else none)
    else none)
  else none)
def fX1_kind (σ : SX) (v0 : Nat) : Option (Int32) :=
  some ((3 : Int32))
def fX1_callsFrom (σ : SX) (v0 : Nat) : Option (Int32) :=
  (if gx_pok σ v0 = true then
    some (((gx_pl_at σ) (v0 - 20)))
  else none)
def fX2_kind (σ : SX) (v0 : Nat) : Option (Int32) :=
  some ((4 : Int32))
def fX2_callsFrom (σ : SX) (v0 : Nat) : Option (Int32) :=
  (if gx_pok σ v0 = true then
    some ((((gx_rg_size σ) - (1 : Int32)) - ((gx_pl_at σ) (v0 - 20))))
  else none)
def fX3_changeJackets (σ : SX) (v1 : Int32) (v2 : Int32) (v3 : Int32) : Option (SX) :=
  some ((sx_nm_changed (sx_nm_second (sx_nm_first σ v1) v2) v3))
def fX3_forgetJackets (σ : SX) : Option (SX) :=
  ((fX3_changeJackets σ (-1 : Int32) (-1 : Int32) (0 : Int32)).bind (fun r1 =>
    some (r1)))
def fX3_keep (σ : SX) : Option (SX) :=
  some ((sx_nm_keptChanged (sx_nm_keptSecond (sx_nm_keptFirst σ (gx_nm_first σ)) (gx_nm_second σ)) (gx_nm_changed σ)))
def fX3_takeKept (σ : SX) : Option (SX) :=
  ((fX3_changeJackets σ (gx_nm_keptFirst σ) (gx_nm_keptSecond σ) (gx_nm_keptChanged σ)).bind (fun r1 =>
    some (r1)))
def fX3_sizeWeight_b34 (σ : SX) (w0 : Int32) : Option (Int32) :=
  some (w0)
def fX3_sizeWeight_b26 (σ : SX) : Option (Int32) :=
  fX3_sizeWeight_b34 σ (gx_nm_sizeOff σ)
def fX3_sizeWeight (σ : SX) (v1 : Int32) : Option (Int32) :=
  (if v1 = 0 then
    fX3_sizeWeight_b34 σ ((10 : Int32) - ((2 : Int32) * (gx_nm_sizeOff σ)))
  else
    (if v1 = (1 : Int32) then
      fX3_sizeWeight_b26 σ
    else
      (if v1 = (-1 : Int32) then
        fX3_sizeWeight_b26 σ
      else
        fX3_sizeWeight_b34 σ (0 : Int32))))
def fX3_clothOf_b36 (σ : SX) (w0 : Int32) : Option (Int32) :=
  some (w0)
def fX3_clothOf_b23 (σ : SX) (w0 : Option Nat) : Option (Int32) :=
  (ev_q w0
    (fX3_clothOf_b36 σ (-1 : Int32))
    (fun a1 =>
    (if gx_pok σ a1 = true then
      fX3_clothOf_b36 σ ((gx_pl_cloth σ) (a1 - 20))
    else none)))
def fX3_clothOf_b22 (σ : SX) : Option (Int32) :=
  fX3_clothOf_b23 σ none
def fX3_clothOf (σ : SX) (v1 : Int32) : Option (Int32) :=
  (if v1 < 0 then
    fX3_clothOf_b22 σ
  else
    (if v1 < (6 : Int32) then
      (if ¬ (v1 < 0 ∨ 6 ≤ v1.toNatClampNeg) then
        fX3_clothOf_b23 σ ((gx_pl_arr σ) v1.toNatClampNeg)
      else none)
    else
      fX3_clothOf_b22 σ))
def fX3_likeWeight_b14 (w0 : Int32) : Option (Int32) :=
  some (w0)
def fX3_likeWeight (v0 : Int32) (v1 : Int32) : Option (Int32) :=
  (if v0 = 0 then
    fX3_likeWeight_b14 ((10 : Int32) - v1)
  else
    fX3_likeWeight_b14 ((4 : Int32) * v1))
def fX3_clothWeight_b75 (σ : SX) (v3 : Int32) (w0 : Int32) : Option (Int32) :=
  ((fX3_likeWeight w0 (gx_nm_clothRight σ)).bind (fun r2 =>
    some (((((10 : Int32) - (gx_nm_changed σ)) * v3) + ((gx_nm_changed σ) * r2)))))
def fX3_clothWeight_b64 (σ : SX) (v3 : Int32) (w0 : Int32) (w2 : Int32) : Option (Int32) :=
  ((fX3_clothOf σ w0).bind (fun r3 =>
    (if w2 = r3 then
      fX3_clothWeight_b75 σ v3 (1 : Int32)
    else
      fX3_clothWeight_b75 σ v3 (0 : Int32))))
def fX3_clothWeight_b43 (σ : SX) (v1 : Int32) (v2 : Int32) (v3 : Int32) : Option (Int32) :=
  (if v1 = (gx_nm_first σ) then
    fX3_clothWeight_b64 σ v3 (gx_nm_second σ) v2
  else
    fX3_clothWeight_b64 σ v3 (gx_nm_first σ) v2)
def fX3_clothWeight_b14 (σ : SX) (v1 : Int32) (v2 : Int32) (w0 : Int32) : Option (Int32) :=
  ((fX3_likeWeight w0 (gx_nm_clothRight σ)).bind (fun r4 =>
    (if v1 = (gx_nm_first σ) then
      fX3_clothWeight_b43 σ v1 v2 r4
    else
      (if v1 = (gx_nm_second σ) then
        fX3_clothWeight_b43 σ v1 v2 r4
      else
        some (((10 : Int32) * r4))))))
def fX3_clothWeight (σ : SX) (v1 : Int32) (v2 : Int32) : Option (Int32) :=
  ((fX3_clothOf σ v1).bind (fun r1 =>
    (if v2 = r1 then
      fX3_clothWeight_b14 σ v1 v2 (1 : Int32)
    else
      fX3_clothWeight_b14 σ v1 v2 (0 : Int32))))
def fX3_weigh_b95 (σ : SX) : Option (SX) :=
  some (σ)
def fX3_weigh_b88 (k3 : SX → Int32 → Int32 → Int32 → Int32 → Option (SX)) (σ : SX) (v1 : Int32) (v2 : Int32) (v3 : Int32) (v4 : Int32) (w0 : Int32) (w1 : Int32) : Option (SX) :=
  (if ¬ (w1 < 0 ∨ 6 ≤ w1.toNatClampNeg) then
    k3 (sx_nm_weights σ (upd (gx_nm_weights σ) w1.toNatClampNeg w0)) v1 v2 v3 (v4 + (1 : Int32))
  else none)
def fX3_weigh_b80 (k3 : SX → Int32 → Int32 → Int32 → Int32 → Option (SX)) (σ : SX) (v1 : Int32) (v2 : Int32) (v3 : Int32) (v4 : Int32) (w0 : Int32) (w1 : Int32) (w2 : Int32) : Option (SX) :=
  ((fX3_likeWeight w0 (gx_nm_giggleRight σ)).bind (fun r1 =>
    fX3_weigh_b88 k3 σ v1 v2 v3 v4 (w1 * r1) w2))
def fX3_weigh_b3 (k3 : SX → Int32 → Int32 → Int32 → Int32 → Option (SX)) (σ : SX) (v1 : Int32) (v2 : Int32) (v3 : Int32) (v4 : Int32) : Option (SX) :=
  (if v4 < (6 : Int32) then
    (if v4 < (6 : Int32) then
      (if ¬ (v4 < 0 ∨ 6 ≤ v4.toNatClampNeg) then
        (ev_q ((gx_pl_arr σ) v4.toNatClampNeg)
          (fX3_weigh_b88 k3 σ v1 v2 v3 v4 (0 : Int32) v4)
          (fun a2 =>
          (if gx_pok σ a2 = true then
            ((fX3_sizeWeight σ (v1 - ((gx_pl_size σ) (a2 - 20)))).bind (fun r3 =>
              ((fX3_clothWeight σ v4 v2).bind (fun r4 =>
                (if gx_pok σ a2 = true then
                  (if v3 = ((gx_pl_giggle σ) (a2 - 20)) then
                    fX3_weigh_b80 k3 σ v1 v2 v3 v4 (1 : Int32) (r3 * r4) v4
                  else
                    fX3_weigh_b80 k3 σ v1 v2 v3 v4 (0 : Int32) (r3 * r4) v4)
                else none)))))
          else none)))
      else none)
    else
      fX3_weigh_b95 σ)
  else
    fX3_weigh_b95 σ)
def fX3_weigh_l3 : Nat → SX → Int32 → Int32 → Int32 → Int32 → Option (SX)
  | 0, _, _, _, _, _ => none
  | n + 1, σ, v1, v2, v3, v4 => fX3_weigh_b3 (fX3_weigh_l3 n) σ v1 v2 v3 v4
def fX3_weigh (σ : SX) (v1 : Int32) (v2 : Int32) (v3 : Int32) : Option (SX) :=
  fX3_weigh_l3 1000 σ v1 v2 v3 (0 : Int32)
def fX3_weightOf_b24 (σ : SX) (w0 : Int64) : Option (Int64) :=
  some (w0)
def fX3_weightOf_b23 (σ : SX) : Option (Int64) :=
  fX3_weightOf_b24 σ (0 : Int64)
def fX3_weightOf (σ : SX) (v1 : Int32) : Option (Int64) :=
  (if v1 < 0 then
    fX3_weightOf_b23 σ
  else
    (if v1 < (6 : Int32) then
      (if ¬ (v1 < 0 ∨ 6 ≤ v1.toNatClampNeg) then
        fX3_weightOf_b24 σ (((gx_nm_weights σ) v1.toNatClampNeg).toInt64)
      else none)
    else
      fX3_weightOf_b23 σ))
def fX3_total_b14 (σ : SX) (k14 : Int64 → Int32 → Option (Int64)) (v1 : Int64) (v5 : Int32) : Option (Int64) :=
  (if v5 < (6 : Int32) then
    (if ¬ (v5 < 0 ∨ 6 ≤ v5.toNatClampNeg) then
      k14 (v1 + ((gx_nm_weights σ) v5.toNatClampNeg).toInt64) (v5 + (1 : Int32))
    else none)
  else
    some (v1))
def fX3_total_l14 (σ : SX) : Nat → Int64 → Int32 → Option (Int64)
  | 0, _, _ => none
  | n + 1, v1, v5 => fX3_total_b14 σ (fX3_total_l14 σ n) v1 v5
def fX3_total (σ : SX) : Option (Int64) :=
  fX3_total_l14 σ 1000 (0 : Int64) (0 : Int32)
def fX3_likeliestPlayer_b29 (σ : SX) (k4 : Int32 → Int32 → Option (Int32)) (v1 : Int32) (v2 : Int32) : Option (Int32) :=
  k4 v1 (v2 + (1 : Int32))
def fX3_likeliestPlayer_b4 (σ : SX) (k4 : Int32 → Int32 → Option (Int32)) (v1 : Int32) (v2 : Int32) : Option (Int32) :=
  (if v2 < (6 : Int32) then
    ((fX3_weightOf σ v2).bind (fun r1 =>
      ((fX3_weightOf σ v1).bind (fun r2 =>
        (if r2 < r1 then
          fX3_likeliestPlayer_b29 σ k4 v2 v2
        else
          fX3_likeliestPlayer_b29 σ k4 v1 v2)))))
  else
    some (v1))
def fX3_likeliestPlayer_l4 (σ : SX) : Nat → Int32 → Int32 → Option (Int32)
  | 0, _, _ => none
  | n + 1, v1, v2 => fX3_likeliestPlayer_b4 σ (fX3_likeliestPlayer_l4 σ n) v1 v2
def fX3_likeliestPlayer (σ : SX) : Option (Int32) :=
  fX3_likeliestPlayer_l4 σ 1000 (-1 : Int32) (0 : Int32)
def fX11_mixed (v0 : Int64) (v2 : Int64) : Option (Int64) :=
  some ((((31 : Int64) * v0) + v2))
def fX3_mixInto (σ : SX) (v1 : Int64) : Option (Int64) :=
  ((fX11_mixed v1 ((gx_nm_sizeOff σ).toInt64)).bind (fun r1 =>
    ((fX11_mixed r1 ((gx_nm_clothRight σ).toInt64)).bind (fun r2 =>
      ((fX11_mixed r2 ((gx_nm_giggleRight σ).toInt64)).bind (fun r3 =>
        ((fX11_mixed r3 ((gx_nm_first σ).toInt64)).bind (fun r4 =>
          ((fX11_mixed r4 ((gx_nm_second σ).toInt64)).bind (fun r5 =>
            ((fX11_mixed r5 ((gx_nm_changed σ).toInt64)).bind (fun r6 =>
              some (r6)))))))))))))
def fJ7_fill_w_b6 (k6 : SX → Int64 → Int32 → Option (SX)) (σ : SX) (v1 : Int64) (v3 : Int32) : Option (SX) :=
  (if v3 < (144 : Int32) then
    (if ¬ (v3 < 0 ∨ 144 ≤ v3.toNatClampNeg) then
      k6 (sx_od_weights σ (vp_updL (gx_od_weights σ) v3.toNatClampNeg v1)) v1 (v3 + (1 : Int32))
    else none)
  else
    some (σ))
def fJ7_fill_w_l6 : Nat → SX → Int64 → Int32 → Option (SX)
  | 0, _, _, _ => none
  | n + 1, σ, v1, v3 => fJ7_fill_w_b6 (fJ7_fill_w_l6 n) σ v1 v3
def fJ7_fill_w (σ : SX) (v1 : Int64) : Option (SX) :=
  fJ7_fill_w_l6 1000 σ v1 (0 : Int32)
def fX4_putHim_b34 (σ : SX) : Option (SX) :=
  some ((sx_od_updates σ (0 : Int32)))
def fX4_putHim (σ : SX) (v1 : Int32) (v2 : Int32) : Option (SX) :=
  ((fJ7_fill_w σ (0 : Int64)).bind (fun r1 =>
    (if ((v1 * (4 : Int32)) + v2) < 0 then
      fX4_putHim_b34 r1
    else
      (if ((v1 * (4 : Int32)) + v2) < (144 : Int32) then
        (if ¬ (((v1 * (4 : Int32)) + v2) < 0 ∨ 144 ≤ ((v1 * (4 : Int32)) + v2).toNatClampNeg) then
          fX4_putHim_b34 (sx_od_weights r1 (vp_updL (gx_od_weights r1) ((v1 * (4 : Int32)) + v2).toNatClampNeg (1 : Int64)))
        else none)
      else
        fX4_putHim_b34 r1))))
def fX4_loseHim_b34 (k2 : SX → Int32 → Option (SX)) (σ : SX) (v1 : Int32) (w0 : Int64) (w1 : Int32) : Option (SX) :=
  (if ¬ (w1 < 0 ∨ 144 ≤ w1.toNatClampNeg) then
    k2 (sx_od_weights σ (vp_updL (gx_od_weights σ) w1.toNatClampNeg w0)) (v1 + (1 : Int32))
  else none)
def fX4_loseHim_b2 (k2 : SX → Int32 → Option (SX)) (σ : SX) (v1 : Int32) : Option (SX) :=
  (if v1 < (144 : Int32) then
    ((fX7_isFree σ (v1 / (4 : Int32))).bind (fun r1 =>
      (if r1 = 0 then
        fX4_loseHim_b34 k2 σ v1 (0 : Int64) v1
      else
        fX4_loseHim_b34 k2 σ v1 (1 : Int64) v1)))
  else
    some ((sx_od_updates σ (0 : Int32))))
def fX4_loseHim_l2 : Nat → SX → Int32 → Option (SX)
  | 0, _, _ => none
  | n + 1, σ, v1 => fX4_loseHim_b2 (fX4_loseHim_l2 n) σ v1
def fX4_loseHim (σ : SX) : Option (SX) :=
  fX4_loseHim_l2 1000 σ (0 : Int32)
def fX4_keep (σ : SX) : Option (SX) :=
  some ((sx_od_keptUpdates (sx_od_kept σ (va_cpy (gx_od_weights σ) (gx_od_kept σ) 0 0 144)) (gx_od_updates σ)))
def fX4_takeKept (σ : SX) : Option (SX) :=
  some ((sx_od_updates (sx_od_weights σ (va_cpy (gx_od_kept σ) (gx_od_weights σ) 0 0 144)) (gx_od_keptUpdates σ)))
def fX4_aboveNought_b38 (σ : SX) (k13 : Int32 → Int32 → Option (Int32)) (v4 : Int32) (w0 : Int32) (w1 : Int32) : Option (Int32) :=
  k13 (w1 + w0) (v4 + (1 : Int32))
def fX4_aboveNought_b13 (σ : SX) (k13 : Int32 → Int32 → Option (Int32)) (v1 : Int32) (v4 : Int32) : Option (Int32) :=
  (if v4 < (144 : Int32) then
    (if ¬ (v4 < 0 ∨ 144 ≤ v4.toNatClampNeg) then
      (if (0 : Int64) < ((gx_od_weights σ) v4.toNatClampNeg) then
        fX4_aboveNought_b38 σ k13 v4 (1 : Int32) v1
      else
        fX4_aboveNought_b38 σ k13 v4 (0 : Int32) v1)
    else none)
  else
    some (v1))
def fX4_aboveNought_l13 (σ : SX) : Nat → Int32 → Int32 → Option (Int32)
  | 0, _, _ => none
  | n + 1, v1, v4 => fX4_aboveNought_b13 σ (fX4_aboveNought_l13 σ n) v1 v4
def fX4_aboveNought (σ : SX) : Option (Int32) :=
  fX4_aboveNought_l13 σ 1000 (0 : Int32) (0 : Int32)
def fX4_total_b14 (σ : SX) (k14 : Int64 → Int32 → Option (Int64)) (v1 : Int64) (v5 : Int32) : Option (Int64) :=
  (if v5 < (144 : Int32) then
    (if ¬ (v5 < 0 ∨ 144 ≤ v5.toNatClampNeg) then
      k14 (v1 + ((gx_od_weights σ) v5.toNatClampNeg)) (v5 + (1 : Int32))
    else none)
  else
    some (v1))
def fX4_total_l14 (σ : SX) : Nat → Int64 → Int32 → Option (Int64)
  | 0, _, _ => none
  | n + 1, v1, v5 => fX4_total_b14 σ (fX4_total_l14 σ n) v1 v5
def fX4_total (σ : SX) : Option (Int64) :=
  fX4_total_l14 σ 1000 (0 : Int64) (0 : Int32)
def fX4_sumOfCell_w_b12 (σ : SX) : Option (Int64) :=
  some ((0 : Int64))
def fX4_sumOfCell_w (σ : SX) (v1 : Int32) : Option (Int64) :=
  (if v1 < 0 then
    fX4_sumOfCell_w_b12 σ
  else
    (if (v1 + (3 : Int32)) < (144 : Int32) then
      (if ¬ (v1 < 0 ∨ 144 ≤ v1.toNatClampNeg) then
        (if ¬ ((v1 + (1 : Int32)) < 0 ∨ 144 ≤ (v1 + (1 : Int32)).toNatClampNeg) then
          (if ¬ ((v1 + (2 : Int32)) < 0 ∨ 144 ≤ (v1 + (2 : Int32)).toNatClampNeg) then
            (if ¬ ((v1 + (3 : Int32)) < 0 ∨ 144 ≤ (v1 + (3 : Int32)).toNatClampNeg) then
              some ((((((gx_od_weights σ) v1.toNatClampNeg) + ((gx_od_weights σ) (v1 + (1 : Int32)).toNatClampNeg)) + ((gx_od_weights σ) (v1 + (2 : Int32)).toNatClampNeg)) + ((gx_od_weights σ) (v1 + (3 : Int32)).toNatClampNeg)))
            else none)
          else none)
        else none)
      else none)
    else
      fX4_sumOfCell_w_b12 σ))
def fX4_ofCell (σ : SX) (v1 : Int32) : Option (Int64) :=
  ((fX4_sumOfCell_w σ (v1 * (4 : Int32))).bind (fun r1 =>
    some (r1)))
def fX4_ofWay_b35 (σ : SX) (k5 : Int32 → Int64 → Int32 → Option (Int64)) (v1 : Int32) (v4 : Int32) (w0 : Int64) (w1 : Int64) : Option (Int64) :=
  k5 v1 (w1 + w0) (v4 + (1 : Int32))
def fX4_ofWay_b5 (σ : SX) (k5 : Int32 → Int64 → Int32 → Option (Int64)) (v1 : Int32) (v2 : Int64) (v4 : Int32) : Option (Int64) :=
  (if v4 < (144 : Int32) then
    (if (v4 &&& (3 : Int32)) = v1 then
      (if ¬ (v4 < 0 ∨ 144 ≤ v4.toNatClampNeg) then
        fX4_ofWay_b35 σ k5 v1 v4 ((gx_od_weights σ) v4.toNatClampNeg) v2
      else none)
    else
      fX4_ofWay_b35 σ k5 v1 v4 (0 : Int64) v2)
  else
    some (v2))
def fX4_ofWay_l5 (σ : SX) : Nat → Int32 → Int64 → Int32 → Option (Int64)
  | 0, _, _, _ => none
  | n + 1, v1, v2, v4 => fX4_ofWay_b5 σ (fX4_ofWay_l5 σ n) v1 v2 v4
def fX4_ofWay (σ : SX) (v1 : Int32) : Option (Int64) :=
  fX4_ofWay_l5 σ 1000 v1 (0 : Int64) (0 : Int32)
def fX4_bestCell_b31 (σ : SX) (k4 : Int32 → Int32 → Option (Int32)) (v1 : Int32) (v2 : Int32) : Option (Int32) :=
  k4 v1 (v2 + (1 : Int32))
def fX4_bestCell_b4 (σ : SX) (k4 : Int32 → Int32 → Option (Int32)) (v1 : Int32) (v2 : Int32) : Option (Int32) :=
  (if v2 < (gx_rg_size σ) then
    ((fX4_ofCell σ v2).bind (fun r1 =>
      ((fX4_ofCell σ v1).bind (fun r2 =>
        (if r2 < r1 then
          fX4_bestCell_b31 σ k4 v2 v2
        else
          fX4_bestCell_b31 σ k4 v1 v2)))))
  else
    some (v1))
def fX4_bestCell_l4 (σ : SX) : Nat → Int32 → Int32 → Option (Int32)
  | 0, _, _ => none
  | n + 1, v1, v2 => fX4_bestCell_b4 σ (fX4_bestCell_l4 σ n) v1 v2
def fX4_bestCell (σ : SX) : Option (Int32) :=
  fX4_bestCell_l4 σ 1000 (0 : Int32) (1 : Int32)
def fJ7_fill_o_b6 (k6 : SX → Nat → Int64 → Int32 → Option (SX)) (σ : SX) (v0 : Nat) (v1 : Int64) (v3 : Int32) : Option (SX) :=
  (if v3 < (144 : Int32) then
    (if v0 < 4 then (if ¬ (v3 < 0 ∨ 144 ≤ v3.toNatClampNeg) then
      k6 (sx_od_outs σ (ox_up (gx_od_outs σ) v0 v3.toNatClampNeg v1)) v0 v1 (v3 + (1 : Int32))
    else none) else none)
  else
    some (σ))
def fJ7_fill_o_l6 : Nat → SX → Nat → Int64 → Int32 → Option (SX)
  | 0, _, _, _, _ => none
  | n + 1, σ, v0, v1, v3 => fJ7_fill_o_b6 (fJ7_fill_o_l6 n) σ v0 v1 v3
def fJ7_fill_o (σ : SX) (v0 : Nat) (v1 : Int64) : Option (SX) :=
  (if v0 < 4 then
    fJ7_fill_o_l6 1000 σ v0 v1 (0 : Int32)
  else none)
def fX4_clearOutcomes_b2 (k2 : SX → Int32 → Option (SX)) (σ : SX) (v1 : Int32) : Option (SX) :=
  (if v1 < (4 : Int32) then
    (if ¬ (v1 < 0 ∨ 4 ≤ v1.toNatClampNeg) then
      ((fJ7_fill_o σ v1.toNatClampNeg (0 : Int64)).bind (fun r1 =>
        k2 r1 (v1 + (1 : Int32))))
    else none)
  else
    some (σ))
def fX4_clearOutcomes_l2 : Nat → SX → Int32 → Option (SX)
  | 0, _, _ => none
  | n + 1, σ, v1 => fX4_clearOutcomes_b2 (fX4_clearOutcomes_l2 n) σ v1
def fX4_clearOutcomes (σ : SX) : Option (SX) :=
  fX4_clearOutcomes_l2 1000 σ (0 : Int32)
def fX4_add_b38 (σ : SX) : Option (SX) :=
  some (σ)
def fX4_add (σ : SX) (v1 : Int32) (v2 : Int32) (v3 : Int32) (v4 : Int64) : Option (SX) :=
  (if ((v2 * (4 : Int32)) + (v3 &&& (3 : Int32))) < 0 then
    fX4_add_b38 σ
  else
    (if ((v2 * (4 : Int32)) + (v3 &&& (3 : Int32))) < (144 : Int32) then
      (if ¬ ((v1 &&& (3 : Int32)) < 0 ∨ 4 ≤ (v1 &&& (3 : Int32)).toNatClampNeg) then
        (if (v1 &&& (3 : Int32)).toNatClampNeg < 4 then (if ¬ (((v2 * (4 : Int32)) + (v3 &&& (3 : Int32))) < 0 ∨ 144 ≤ ((v2 * (4 : Int32)) + (v3 &&& (3 : Int32))).toNatClampNeg) then
          (if (v1 &&& (3 : Int32)).toNatClampNeg < 4 then (if ¬ (((v2 * (4 : Int32)) + (v3 &&& (3 : Int32))) < 0 ∨ 144 ≤ ((v2 * (4 : Int32)) + (v3 &&& (3 : Int32))).toNatClampNeg) then
            fX4_add_b38 (sx_od_outs σ (ox_up (gx_od_outs σ) (v1 &&& (3 : Int32)).toNatClampNeg ((v2 * (4 : Int32)) + (v3 &&& (3 : Int32))).toNatClampNeg (((gx_od_outs σ) (v1 &&& (3 : Int32)).toNatClampNeg ((v2 * (4 : Int32)) + (v3 &&& (3 : Int32))).toNatClampNeg) + v4)))
          else none) else none)
        else none) else none)
      else none)
    else
      fX4_add_b38 σ))
def fX4_foretellTurn_b78 (k6 : SX → Int32 → Int32 → Option (SX)) (σ : SX) (v1 : Int32) (v2 : Int32) : Option (SX) :=
  k6 σ v1 (v2 + (1 : Int32))
def fX4_foretellTurn_b6 (k6 : SX → Int32 → Int32 → Option (SX)) (σ : SX) (v1 : Int32) (v2 : Int32) : Option (SX) :=
  (if v2 < (144 : Int32) then
    (if ¬ (v2 < 0 ∨ 144 ≤ v2.toNatClampNeg) then
      (if (0 : Int64) < ((gx_od_weights σ) v2.toNatClampNeg) then
        ((fX4_add σ (0 : Int32) (v2 / (4 : Int32)) (v2 + (3 : Int32)) (v1.toInt64 * ((gx_od_weights σ) v2.toNatClampNeg))).bind (fun r2 =>
          ((fX4_add r2 (0 : Int32) (v2 / (4 : Int32)) v2 (((10 : Int32) - ((2 : Int32) * v1)).toInt64 * ((gx_od_weights σ) v2.toNatClampNeg))).bind (fun r3 =>
            ((fX4_add r3 (0 : Int32) (v2 / (4 : Int32)) (v2 + (1 : Int32)) (v1.toInt64 * ((gx_od_weights σ) v2.toNatClampNeg))).bind (fun r4 =>
              fX4_foretellTurn_b78 k6 r4 v1 v2))))))
      else
        fX4_foretellTurn_b78 k6 σ v1 v2)
    else none)
  else
    some (σ))
def fX4_foretellTurn_l6 : Nat → SX → Int32 → Int32 → Option (SX)
  | 0, _, _, _ => none
  | n + 1, σ, v1, v2 => fX4_foretellTurn_b6 (fX4_foretellTurn_l6 n) σ v1 v2
def fX4_foretellTurn (σ : SX) (v1 : Int32) : Option (SX) :=
  ((fX4_clearOutcomes σ).bind (fun r1 =>
    fX4_foretellTurn_l6 1000 r1 v1 (0 : Int32)))
def fX7_kindOf_b31 (σ : SX) (w0 : Int32) : Option (Int32) :=
  some (w0)
def fX7_kindOf_b30 (σ : SX) : Option (Int32) :=
  fX7_kindOf_b31 σ (3 : Int32)
def fX7_kindOf (σ : SX) (v1 : Int32) : Option (Int32) :=
  (if v1 < 0 then
    fX7_kindOf_b30 σ
  else
    (if v1 < (gx_rg_size σ) then
      (if v1 < (36 : Int32) then
        (if ¬ (v1 < 0 ∨ 36 ≤ v1.toNatClampNeg) then
          fX7_kindOf_b31 σ ((gx_rg_kinds σ) v1.toNatClampNeg)
        else none)
      else
        fX7_kindOf_b30 σ)
    else
      fX7_kindOf_b30 σ))
def fX4_walk_b58 (σ : SX) (v2 : Int32) (v3 : Int64) (w0 : Int32) (w1 : Int32) : Option (SX) :=
  ((fX4_add σ w1 w0 v2 v3).bind (fun r3 =>
    some (r3)))
def fX4_walk_b31 (σ : SX) (v1 : Int32) (v2 : Int32) (v3 : Int64) (v6 : Int32) (w0 : Int32) : Option (SX) :=
  (if ¬ ((w0 &&& (3 : Int32)) < 0 ∨ 4 ≤ (w0 &&& (3 : Int32)).toNatClampNeg) then
    (if (1 : Int32) < w0 then
      fX4_walk_b58 σ v2 v3 v1 (ev_sf 1000 (w0 &&& (3 : Int32)).toNatClampNeg)
    else
      fX4_walk_b58 σ v2 v3 v6 (ev_sf 1000 (w0 &&& (3 : Int32)).toNatClampNeg))
  else none)
def fX4_walk (σ : SX) (v1 : Int32) (v2 : Int32) (v3 : Int64) (v5 : Int32) : Option (SX) :=
  ((fX7_ahead σ v1 v2).bind (fun r1 =>
    (if r1 = v5 then
      fX4_walk_b31 σ v1 v2 v3 r1 (3 : Int32)
    else
      ((fX7_kindOf σ r1).bind (fun r2 =>
        fX4_walk_b31 σ v1 v2 v3 r1 r2)))))
def fX4_foretellStep_b96 (k7 : SX → Int32 → Int32 → Int32 → Int32 → Option (SX)) (σ : SX) (v1 : Int32) (v2 : Int32) (v3 : Int32) (v4 : Int32) : Option (SX) :=
  k7 σ v1 v2 v3 (v4 + (1 : Int32))
def fX4_foretellStep_b7 (k7 : SX → Int32 → Int32 → Int32 → Int32 → Option (SX)) (σ : SX) (v1 : Int32) (v2 : Int32) (v3 : Int32) (v4 : Int32) : Option (SX) :=
  (if v4 < (144 : Int32) then
    (if ¬ (v4 < 0 ∨ 144 ≤ v4.toNatClampNeg) then
      (if (0 : Int64) < ((gx_od_weights σ) v4.toNatClampNeg) then
        ((fX4_walk σ (v4 / (4 : Int32)) ((v4 + v1) + (3 : Int32)) (v2.toInt64 * ((gx_od_weights σ) v4.toNatClampNeg)) v3).bind (fun r2 =>
          ((fX4_walk r2 (v4 / (4 : Int32)) (v4 + v1) (((10 : Int32) - ((2 : Int32) * v2)).toInt64 * ((gx_od_weights σ) v4.toNatClampNeg)) v3).bind (fun r3 =>
            ((fX4_walk r3 (v4 / (4 : Int32)) ((v4 + v1) + (1 : Int32)) (v2.toInt64 * ((gx_od_weights σ) v4.toNatClampNeg)) v3).bind (fun r4 =>
              fX4_foretellStep_b96 k7 r4 v1 v2 v3 v4))))))
      else
        fX4_foretellStep_b96 k7 σ v1 v2 v3 v4)
    else none)
  else
    some (σ))
def fX4_foretellStep_l7 : Nat → SX → Int32 → Int32 → Int32 → Int32 → Option (SX)
  | 0, _, _, _, _, _ => none
  | n + 1, σ, v1, v2, v3, v4 => fX4_foretellStep_b7 (fX4_foretellStep_l7 n) σ v1 v2 v3 v4
def fX4_foretellStep (σ : SX) (v1 : Int32) (v2 : Int32) (v3 : Int32) : Option (SX) :=
  ((fX4_clearOutcomes σ).bind (fun r1 =>
    fX4_foretellStep_l7 1000 r1 v1 v2 v3 (0 : Int32)))
def fX7_rowOf_b23 (σ : SX) (w0 : Int32) : Option (Int32) :=
  some (w0)
def fX7_rowOf_b22 (σ : SX) : Option (Int32) :=
  fX7_rowOf_b23 σ (0 : Int32)
def fX7_rowOf (σ : SX) (v1 : Int32) : Option (Int32) :=
  (if v1 < 0 then
    fX7_rowOf_b22 σ
  else
    (if v1 < (36 : Int32) then
      (if ¬ (v1 < 0 ∨ 36 ≤ v1.toNatClampNeg) then
        fX7_rowOf_b23 σ ((gx_rg_rows σ) v1.toNatClampNeg)
      else none)
    else
      fX7_rowOf_b22 σ))
def fX7_columnOf_b23 (σ : SX) (w0 : Int32) : Option (Int32) :=
  some (w0)
def fX7_columnOf_b22 (σ : SX) : Option (Int32) :=
  fX7_columnOf_b23 σ (0 : Int32)
def fX7_columnOf (σ : SX) (v1 : Int32) : Option (Int32) :=
  (if v1 < 0 then
    fX7_columnOf_b22 σ
  else
    (if v1 < (36 : Int32) then
      (if ¬ (v1 < 0 ∨ 36 ≤ v1.toNatClampNeg) then
        fX7_columnOf_b23 σ ((gx_rg_columns σ) v1.toNatClampNeg)
      else none)
    else
      fX7_columnOf_b22 σ))
def fX7_wayTo_b61 (σ : SX) (w0 : Int32) : Option (Int32) :=
  some (w0)
def fX7_wayTo_b51 (σ : SX) (v4 : Int32) : Option (Int32) :=
  (if 0 < v4 then
    fX7_wayTo_b61 σ (1 : Int32)
  else
    fX7_wayTo_b61 σ (3 : Int32))
def fX7_wayTo_b50 (σ : SX) (w0 : Int32) : Option (Int32) :=
  some (w0)
def fX7_wayTo (σ : SX) (v1 : Int32) (v2 : Int32) : Option (Int32) :=
  ((fX7_rowOf σ v2).bind (fun r1 =>
    ((fX7_rowOf σ v1).bind (fun r2 =>
      ((fX7_columnOf σ v2).bind (fun r3 =>
        ((fX7_columnOf σ v1).bind (fun r4 =>
          (if (r1 - r2) = 0 then
            fX7_wayTo_b51 σ (r3 - r4)
          else
            (if (if 0 ≤ (r1 - r2) then (r1 - r2) else 0 - (r1 - r2)) < (if 0 ≤ (r3 - r4) then (r3 - r4) else 0 - (r3 - r4)) then
              fX7_wayTo_b51 σ (r3 - r4)
            else
              (if (r1 - r2) < 0 then
                fX7_wayTo_b50 σ (0 : Int32)
              else
                fX7_wayTo_b50 σ (2 : Int32))))))))))))
def fX4_hearFrom_b61 (k24 : SX → Int32 → Int32 → Int32 → Int64 → Int32 → Int32 → Int32 → Option (SX)) (σ : SX) (v1 : Int32) (v2 : Int32) (v3 : Int32) (v4 : Int64) (v6 : Int32) (v7 : Int32) (v8 : Int32) (w0 : Int32) : Option (SX) :=
  ((fX4_add σ v8 v6 v3 (w0.toInt64 * v4)).bind (fun r2 =>
    k24 r2 v1 v2 v3 v4 v6 v7 (v8 + (1 : Int32))))
def fX4_hearFrom_b24 (k24 : SX → Int32 → Int32 → Int32 → Int64 → Int32 → Int32 → Int32 → Option (SX)) (σ : SX) (v1 : Int32) (v2 : Int32) (v3 : Int32) (v4 : Int64) (v6 : Int32) (v7 : Int32) (v8 : Int32) : Option (SX) :=
  (if v8 < (4 : Int32) then
    (if v6 = v1 then
      fX4_hearFrom_b61 k24 σ v1 v2 v3 v4 v6 v7 v8 (15 : Int32)
    else
      (if v8 = v7 then
        fX4_hearFrom_b61 k24 σ v1 v2 v3 v4 v6 v7 v8 ((6 : Int32) * v2)
      else
        fX4_hearFrom_b61 k24 σ v1 v2 v3 v4 v6 v7 v8 ((2 : Int32) * ((10 : Int32) - v2))))
  else
    some (σ))
def fX4_hearFrom_l24 : Nat → SX → Int32 → Int32 → Int32 → Int64 → Int32 → Int32 → Int32 → Option (SX)
  | 0, _, _, _, _, _, _, _, _ => none
  | n + 1, σ, v1, v2, v3, v4, v6, v7, v8 => fX4_hearFrom_b24 (fX4_hearFrom_l24 n) σ v1 v2 v3 v4 v6 v7 v8
def fX4_hearFrom (σ : SX) (v1 : Int32) (v2 : Int32) (v3 : Int32) (v4 : Int64) : Option (SX) :=
  ((fX7_wayTo σ (v3 / (4 : Int32)) v1).bind (fun r1 =>
    fX4_hearFrom_l24 1000 σ v1 v2 v3 v4 (v3 / (4 : Int32)) ((r1 - v3) &&& (3 : Int32)) (0 : Int32)))
def fX4_foretellCall_b39 (k6 : SX → Int32 → Int32 → Int32 → Option (SX)) (σ : SX) (v1 : Int32) (v2 : Int32) (v3 : Int32) : Option (SX) :=
  k6 σ v1 v2 (v3 + (1 : Int32))
def fX4_foretellCall_b6 (k6 : SX → Int32 → Int32 → Int32 → Option (SX)) (σ : SX) (v1 : Int32) (v2 : Int32) (v3 : Int32) : Option (SX) :=
  (if v3 < (144 : Int32) then
    (if ¬ (v3 < 0 ∨ 144 ≤ v3.toNatClampNeg) then
      (if (0 : Int64) < ((gx_od_weights σ) v3.toNatClampNeg) then
        ((fX4_hearFrom σ v1 v2 v3 ((gx_od_weights σ) v3.toNatClampNeg)).bind (fun r2 =>
          fX4_foretellCall_b39 k6 r2 v1 v2 v3))
      else
        fX4_foretellCall_b39 k6 σ v1 v2 v3)
    else none)
  else
    some (σ))
def fX4_foretellCall_l6 : Nat → SX → Int32 → Int32 → Int32 → Option (SX)
  | 0, _, _, _, _ => none
  | n + 1, σ, v1, v2, v3 => fX4_foretellCall_b6 (fX4_foretellCall_l6 n) σ v1 v2 v3
def fX4_foretellCall (σ : SX) (v1 : Int32) (v2 : Int32) : Option (SX) :=
  ((fX4_clearOutcomes σ).bind (fun r1 =>
    fX4_foretellCall_l6 1000 r1 v1 v2 (0 : Int32)))
def fX11_commonDivisor_b66 (v4 : Int64) : Option (Int64) :=
  some (v4)
def fX11_commonDivisor_b31 (k31 : Int64 → Int64 → Int32 → Option (Int64)) (v4 : Int64) (v6 : Int64) (v8 : Int32) : Option (Int64) :=
  (if v8 < (100 : Int32) then
    (if v6 = (0 : Int64) then
      fX11_commonDivisor_b66 v4
    else
      (if ¬ v6 = 0 then
        k31 v6 (v4 - v4 / v6 * v6) (v8 + (1 : Int32))
      else none))
  else
    fX11_commonDivisor_b66 v4)
def fX11_commonDivisor_l31 : Nat → Int64 → Int64 → Int32 → Option (Int64)
  | 0, _, _, _ => none
  | n + 1, v4, v6, v8 => fX11_commonDivisor_b31 (fX11_commonDivisor_l31 n) v4 v6 v8
def fX11_commonDivisor_b26 (v4 : Int64) (w0 : Int64) : Option (Int64) :=
  fX11_commonDivisor_l31 1000 v4 w0 (0 : Int32)
def fX11_commonDivisor_b12 (v2 : Int64) (w0 : Int64) : Option (Int64) :=
  (if v2 < (0 : Int64) then
    fX11_commonDivisor_b26 w0 (-v2)
  else
    fX11_commonDivisor_b26 w0 v2)
def fX11_commonDivisor (v0 : Int64) (v2 : Int64) : Option (Int64) :=
  (if v0 < (0 : Int64) then
    fX11_commonDivisor_b12 v2 (-v0)
  else
    fX11_commonDivisor_b12 v2 v0)
def fX4_narrowTo_b90 (σ : SX) : Option (Int32 × SX) :=
  ((fX4_aboveNought (sx_od_updates σ ((gx_od_updates σ) + (1 : Int32)))).bind (fun r1 =>
    some (r1, (sx_od_updates σ ((gx_od_updates σ) + (1 : Int32))))))
def fX4_narrowTo_b54 (k54 : SX → Nat → Int64 → Int32 → Option (Int32 × SX)) (σ : SX) (v2 : Nat) (v3 : Int64) (v5 : Int32) : Option (Int32 × SX) :=
  (if v5 < (144 : Int32) then
    (if v2 < 4 then
      (if v5 < (144 : Int32) then
        (if v2 < 4 then (if ¬ (v5 < 0 ∨ 144 ≤ v5.toNatClampNeg) then
          (if ¬ v3 = 0 then
            (if ¬ (v5 < 0 ∨ 144 ≤ v5.toNatClampNeg) then
              k54 (sx_od_weights σ (vp_updL (gx_od_weights σ) v5.toNatClampNeg (((gx_od_outs σ) v2 v5.toNatClampNeg) / v3))) v2 v3 (v5 + (1 : Int32))
            else none)
          else none)
        else none) else none)
      else
        fX4_narrowTo_b90 σ)
    else none)
  else
    fX4_narrowTo_b90 σ)
def fX4_narrowTo_l54 : Nat → SX → Nat → Int64 → Int32 → Option (Int32 × SX)
  | 0, _, _, _, _ => none
  | n + 1, σ, v2, v3, v5 => fX4_narrowTo_b54 (fX4_narrowTo_l54 n) σ v2 v3 v5
def fX4_narrowTo_b42 (σ : SX) (v2 : Nat) (v3 : Int64) : Option (Int32 × SX) :=
  (if v3 = (0 : Int64) then
    some ((-103 : Int32), σ)
  else
    fX4_narrowTo_l54 1000 σ v2 v3 (0 : Int32))
def fX4_narrowTo_b14 (k14 : SX → Nat → Int64 → Int32 → Option (Int32 × SX)) (σ : SX) (v2 : Nat) (v3 : Int64) (v5 : Int32) : Option (Int32 × SX) :=
  (if v2 < 4 then
    (if v5 < (144 : Int32) then
      (if v3 = (1 : Int64) then
        fX4_narrowTo_b42 σ v2 v3
      else
        (if v2 < 4 then (if ¬ (v5 < 0 ∨ 144 ≤ v5.toNatClampNeg) then
          ((fX11_commonDivisor ((gx_od_outs σ) v2 v5.toNatClampNeg) v3).bind (fun r2 =>
            k14 σ v2 r2 (v5 + (1 : Int32))))
        else none) else none))
    else
      fX4_narrowTo_b42 σ v2 v3)
  else none)
def fX4_narrowTo_l14 : Nat → SX → Nat → Int64 → Int32 → Option (Int32 × SX)
  | 0, _, _, _, _ => none
  | n + 1, σ, v2, v3, v5 => fX4_narrowTo_b14 (fX4_narrowTo_l14 n) σ v2 v3 v5
def fX4_narrowTo (σ : SX) (v1 : Int32) : Option (Int32 × SX) :=
  (if ¬ ((v1 &&& (3 : Int32)) < 0 ∨ 4 ≤ (v1 &&& (3 : Int32)).toNatClampNeg) then
    fX4_narrowTo_l14 1000 σ ((v1 &&& (3 : Int32)).toNatClampNeg) (0 : Int64) (0 : Int32)
  else none)
def fX4_sumOfCell_o_b12 (σ : SX) : Option (Int64) :=
  some ((0 : Int64))
def fX4_sumOfCell_o (σ : SX) (v0 : Nat) (v1 : Int32) : Option (Int64) :=
  (if v1 < 0 then
    fX4_sumOfCell_o_b12 σ
  else
    (if v0 < 4 then
      (if (v1 + (3 : Int32)) < (144 : Int32) then
        (if v0 < 4 then (if ¬ (v1 < 0 ∨ 144 ≤ v1.toNatClampNeg) then
          (if v0 < 4 then (if ¬ ((v1 + (1 : Int32)) < 0 ∨ 144 ≤ (v1 + (1 : Int32)).toNatClampNeg) then
            (if v0 < 4 then (if ¬ ((v1 + (2 : Int32)) < 0 ∨ 144 ≤ (v1 + (2 : Int32)).toNatClampNeg) then
              (if v0 < 4 then (if ¬ ((v1 + (3 : Int32)) < 0 ∨ 144 ≤ (v1 + (3 : Int32)).toNatClampNeg) then
                some ((((((gx_od_outs σ) v0 v1.toNatClampNeg) + ((gx_od_outs σ) v0 (v1 + (1 : Int32)).toNatClampNeg)) + ((gx_od_outs σ) v0 (v1 + (2 : Int32)).toNatClampNeg)) + ((gx_od_outs σ) v0 (v1 + (3 : Int32)).toNatClampNeg)))
              else none) else none)
            else none) else none)
          else none) else none)
        else none) else none)
      else
        fX4_sumOfCell_o_b12 σ)
    else none))
def fX4_likeliestOfAll_b15 (σ : SX) (k4 : Int64 → Int32 → Option (Int64)) (k15 : Int64 → Int32 → Int64 → Int32 → Option (Int64)) (v1 : Int64) (v3 : Int32) (v4 : Int64) (v6 : Int32) : Option (Int64) :=
  (if v6 < (144 : Int32) then
    (if ¬ (v3 < 0 ∨ 4 ≤ v3.toNatClampNeg) then
      ((fX4_sumOfCell_o σ v3.toNatClampNeg v6).bind (fun r1 =>
        k15 v1 v3 (if r1 < v4 then v4 else r1) (v6 + (4 : Int32))))
    else none)
  else
    k4 (v1 + v4) (v3 + (1 : Int32)))
def fX4_likeliestOfAll_l15 (σ : SX) (k4 : Int64 → Int32 → Option (Int64)) : Nat → Int64 → Int32 → Int64 → Int32 → Option (Int64)
  | 0, _, _, _, _ => none
  | n + 1, v1, v3, v4, v6 => fX4_likeliestOfAll_b15 σ k4 (fX4_likeliestOfAll_l15 σ k4 n) v1 v3 v4 v6
def fX4_likeliestOfAll_b4 (σ : SX) (k4 : Int64 → Int32 → Option (Int64)) (v1 : Int64) (v3 : Int32) : Option (Int64) :=
  (if v3 < (4 : Int32) then
    fX4_likeliestOfAll_l15 σ k4 1000 v1 v3 (0 : Int64) (0 : Int32)
  else
    some (v1))
def fX4_likeliestOfAll_l4 (σ : SX) : Nat → Int64 → Int32 → Option (Int64)
  | 0, _, _ => none
  | n + 1, v1, v3 => fX4_likeliestOfAll_b4 σ (fX4_likeliestOfAll_l4 σ n) v1 v3
def fX4_likeliestOfAll (σ : SX) : Option (Int64) :=
  fX4_likeliestOfAll_l4 σ 1000 (0 : Int64) (0 : Int32)
def fX4_mixInto_b47 (σ : SX) (v3 : Int64) : Option (Int64) :=
  some (v3)
def fX4_mixInto_b5 (σ : SX) (k5 : Int64 → Int32 → Option (Int64)) (v3 : Int64) (v5 : Int32) : Option (Int64) :=
  (if v5 < ((gx_rg_size σ) * (4 : Int32)) then
    (if v5 < (144 : Int32) then
      (if ¬ (v5 < 0 ∨ 144 ≤ v5.toNatClampNeg) then
        ((fX11_mixed v3 ((gx_od_weights σ) v5.toNatClampNeg)).bind (fun r1 =>
          k5 r1 (v5 + (1 : Int32))))
      else none)
    else
      fX4_mixInto_b47 σ v3)
  else
    fX4_mixInto_b47 σ v3)
def fX4_mixInto_l5 (σ : SX) : Nat → Int64 → Int32 → Option (Int64)
  | 0, _, _ => none
  | n + 1, v3, v5 => fX4_mixInto_b5 σ (fX4_mixInto_l5 σ n) v3 v5
def fX4_mixInto (σ : SX) (v1 : Int64) : Option (Int64) :=
  fX4_mixInto_l5 σ 1000 v1 (0 : Int32)
def fX5_codeAt (v0 : Int64) (v2 : Int32) : Option (Int32) :=
  some (((v0.toUInt64 >>> (((8 : Int32) * v2).toInt64.toUInt64 &&& Int64.toUInt64 63)).toInt64.toInt32 &&& (255 : Int32)))
def fX5_lettersIn_b45 (k4 : Int64 → Int32 → Int32 → Option (Int32)) (v0 : Int64) (v2 : Int32) (v3 : Int32) : Option (Int32) :=
  k4 v0 v2 (v3 + (1 : Int32))
def fX5_lettersIn_b37 (k4 : Int64 → Int32 → Int32 → Option (Int32)) (v0 : Int64) (v2 : Int32) (v3 : Int32) (v4 : Int32) : Option (Int32) :=
  (if v4 = 0 then
    fX5_lettersIn_b45 k4 v0 v2 v3
  else
    fX5_lettersIn_b45 k4 v0 (v2 + (1 : Int32)) v3)
def fX5_lettersIn_b34 : Option (Int32) :=
  some ((-102 : Int32))
def fX5_lettersIn_b4 (k4 : Int64 → Int32 → Int32 → Option (Int32)) (v0 : Int64) (v2 : Int32) (v3 : Int32) : Option (Int32) :=
  (if v3 < (8 : Int32) then
    ((fX5_codeAt v0 v3).bind (fun r1 =>
      (if (126 : Int32) < r1 then
        fX5_lettersIn_b34
      else
        (if r1 = 0 then
          fX5_lettersIn_b37 k4 v0 v2 v3 r1
        else
          (if v2 < v3 then
            fX5_lettersIn_b34
          else
            fX5_lettersIn_b37 k4 v0 v2 v3 r1)))))
  else
    some (v2))
def fX5_lettersIn_l4 : Nat → Int64 → Int32 → Int32 → Option (Int32)
  | 0, _, _, _ => none
  | n + 1, v0, v2, v3 => fX5_lettersIn_b4 (fX5_lettersIn_l4 n) v0 v2 v3
def fX5_lettersIn (v0 : Int64) : Option (Int32) :=
  fX5_lettersIn_l4 1000 v0 (0 : Int32) (0 : Int32)
def fX5_write_b53 (σ : SX) : Option (SX) :=
  some (σ)
def fX5_write_b3 (k3 : SX → Int64 → Int32 → Int32 → Option (SX)) (σ : SX) (v1 : Int64) (v3 : Int32) (v4 : Int32) : Option (SX) :=
  (if v4 < v3 then
    (if (gx_pg_length σ) < (45 : Int32) then
      ((fX5_codeAt v1 v4).bind (fun r1 =>
        (if ¬ ((gx_pg_length σ) < 0 ∨ 45 ≤ (gx_pg_length σ).toNatClampNeg) then
          k3 (sx_pg_length (sx_pg_signs σ (upd (gx_pg_signs σ) (gx_pg_length σ).toNatClampNeg (vp_nar .char (r1.toUInt32 % 65536).toInt32))) ((gx_pg_length σ) + (1 : Int32))) v1 v3 (v4 + (1 : Int32))
        else none)))
    else
      fX5_write_b53 σ)
  else
    fX5_write_b53 σ)
def fX5_write_l3 : Nat → SX → Int64 → Int32 → Int32 → Option (SX)
  | 0, _, _, _, _ => none
  | n + 1, σ, v1, v3, v4 => fX5_write_b3 (fX5_write_l3 n) σ v1 v3 v4
def fX5_write (σ : SX) (v1 : Int64) (v3 : Int32) : Option (SX) :=
  fX5_write_l3 1000 σ v1 v3 (0 : Int32)
def fJ0_isLatin1_b18 (w0 : Int32) : Option (Int32) :=
  (if w0 = 0 ∨ w0 = 1 then some (w0) else none)
def fJ0_isLatin1_b17 : Option (Int32) :=
  fJ0_isLatin1_b18 (0 : Int32)
def fJ0_isLatin1 : Option (Int32) :=
  (if (1 : Int32) = 0 then
    fJ0_isLatin1_b17
  else
    (if (0 : Int32) = 0 then
      fJ0_isLatin1_b18 (1 : Int32)
    else
      fJ0_isLatin1_b17))
def fJ0_coder_b14 (w0 : Int32) : Option (Int32) :=
  (if w0 = 0 then some (w0) else none)
def fJ0_coder : Option (Int32) :=
  (if (1 : Int32) = 0 then
    fJ0_coder_b14 (1 : Int32)
  else
    fJ0_coder_b14 (0 : Int32))
def fJ0_length : Option (Int32) :=
  ((fJ0_coder).bind (fun r1 =>
    some (((4 : Int32) >>> (r1 &&& 31)))))
def fJ1_canEncode_b16 (w0 : Int32) : Option (Int32) :=
  (if w0 = 0 ∨ w0 = 1 then some (w0) else none)
def fJ1_canEncode_b15 : Option (Int32) :=
  fJ1_canEncode_b16 (0 : Int32)
def fJ1_canEncode (v0 : Int32) : Option (Int32) :=
  (if v0 < 0 then
    fJ1_canEncode_b15
  else
    (if (255 : Int32) < v0 then
      fJ1_canEncode_b15
    else
      fJ1_canEncode_b16 (1 : Int32)))
def fJ1_indexOfChar_b7 (k7 : Int32 → Int32 → Int32 → Option (Int32)) (v3 : Int32) (v4 : Int32) (v5 : Int32) : Option (Int32) :=
  (if v5 < v3 then
    (if ¬ (v5 < 0 ∨ 4 ≤ v5.toNatClampNeg) then
      (if (ev_sf 2001 v5.toNatClampNeg) = v4 then
        some (v5)
      else
        k7 v3 v4 (v5 + (1 : Int32)))
    else none)
  else
    some ((-1 : Int32)))
def fJ1_indexOfChar_l7 : Nat → Int32 → Int32 → Int32 → Option (Int32)
  | 0, _, _, _ => none
  | n + 1, v3, v4, v5 => fJ1_indexOfChar_b7 (fJ1_indexOfChar_l7 n) v3 v4 v5
def fJ1_indexOfChar (v1 : Int32) (v2 : Int32) (v3 : Int32) : Option (Int32) :=
  fJ1_indexOfChar_l7 1000 v3 v1.toInt8.toInt32 v2
def fJ1_indexOf (v1 : Int32) (v2 : Int32) (v3 : Int32) : Option (Int32) :=
  ((fJ1_canEncode v1).bind (fun r1 =>
    (if r1 = 0 then
      some ((-1 : Int32))
    else
      (if (if v2 < (0 : Int32) then (0 : Int32) else v2) < (if (4 : Int32) < v3 then (4 : Int32) else v3) then
        ((fJ1_indexOfChar v1 (if v2 < (0 : Int32) then (0 : Int32) else v2) (if (4 : Int32) < v3 then (4 : Int32) else v3)).bind (fun r2 =>
          some (r2)))
      else
        some ((-1 : Int32))))))
def fJ0_indexOf2 (v1 : Int32) (v2 : Int32) : Option (Int32) :=
  ((fJ0_isLatin1).bind (fun r1 =>
    (if r1 = 0 then
      ((fJ0_length).bind (fun r2 =>
        none))
    else
      ((fJ0_length).bind (fun r3 =>
        ((fJ1_indexOf v1 v2 r3).bind (fun r4 =>
          some (r4))))))))
def fJ0_indexOf1 (v1 : Int32) : Option (Int32) :=
  ((fJ0_indexOf2 v1 (0 : Int32)).bind (fun r1 =>
    some (r1)))
def fX5_kindAt_b28 (σ : SX) (w0 : Int32) : Option (Int32) :=
  some (w0)
def fX5_kindAt_b27 (σ : SX) : Option (Int32) :=
  fX5_kindAt_b28 σ (-1 : Int32)
def fX5_kindAt (σ : SX) (v1 : Int32) : Option (Int32) :=
  (if v1 < 0 then
    fX5_kindAt_b27 σ
  else
    (if v1 < (45 : Int32) then
      (if ¬ (v1 < 0 ∨ 45 ≤ v1.toNatClampNeg) then
        ((fJ0_indexOf1 ((gx_pg_signs σ) v1.toNatClampNeg)).bind (fun r1 =>
          fX5_kindAt_b28 σ r1))
      else none)
    else
      fX5_kindAt_b27 σ))
def fX5_mayEndRow_b42 (σ : SX) (w0 : Int32) : Option (Int32) :=
  (if w0 = 0 ∨ w0 = 1 then some (w0) else none)
def fX5_mayEndRow_b41 (σ : SX) : Option (Int32) :=
  fX5_mayEndRow_b42 σ (0 : Int32)
def fX5_mayEndRow_b37 (σ : SX) : Option (Int32) :=
  fX5_mayEndRow_b42 σ (1 : Int32)
def fX5_mayEndRow (σ : SX) : Option (Int32) :=
  (if (gx_pg_row σ) < (5 : Int32) then
    (if (gx_pg_row σ) = 0 then
      (if (gx_pg_column σ) < (2 : Int32) then
        fX5_mayEndRow_b41 σ
      else
        fX5_mayEndRow_b37 σ)
    else
      (if (gx_pg_column σ) = (gx_pg_width σ) then
        fX5_mayEndRow_b37 σ
      else
        fX5_mayEndRow_b41 σ))
  else
    fX5_mayEndRow_b41 σ)
def fX5_readOn_b130 (σ : SX) : Option (Int32 × SX) :=
  some ((gx_pg_length σ), σ)
def fX5_readOn_b124 (k17 : SX → Int32 → Option (Int32 × SX)) (σ : SX) (v1 : Int32) : Option (Int32 × SX) :=
  k17 σ (v1 + (1 : Int32))
def fX5_readOn_b112 (σ : SX) (v1 : Int32) : Option (Int32 × SX) :=
  some (v1, σ)
def fX5_readOn_b109 (k17 : SX → Int32 → Option (Int32 × SX)) (σ : SX) (v1 : Int32) (w0 : Int32) (w1 : Int32) : Option (Int32 × SX) :=
  (if w1 < w0 then
    fX5_readOn_b124 k17 (sx_pg_column σ ((gx_pg_column σ) + (1 : Int32))) v1
  else
    fX5_readOn_b112 σ v1)
def fX5_readOn_b17 (k17 : SX → Int32 → Option (Int32 × SX)) (σ : SX) (v1 : Int32) : Option (Int32 × SX) :=
  (if v1 < (gx_pg_length σ) then
    (if v1 < (45 : Int32) then
      (if ¬ (v1 < 0 ∨ 45 ≤ v1.toNatClampNeg) then
        (if ((gx_pg_signs σ) v1.toNatClampNeg) = (47 : Int32) then
          ((fX5_mayEndRow σ).bind (fun r1 =>
            (if r1 = 0 then
              some (v1, σ)
            else
              fX5_readOn_b124 k17 (sx_pg_row (sx_pg_column (sx_pg_width σ (gx_pg_column σ)) (0 : Int32)) ((gx_pg_row σ) + (1 : Int32))) v1)))
        else
          ((fX5_kindAt σ v1).bind (fun r2 =>
            (if r2 = (-1 : Int32) then
              fX5_readOn_b112 σ v1
            else
              (if (gx_pg_row σ) = 0 then
                fX5_readOn_b109 k17 σ v1 (6 : Int32) (gx_pg_column σ)
              else
                fX5_readOn_b109 k17 σ v1 (gx_pg_width σ) (gx_pg_column σ))))))
      else none)
    else
      fX5_readOn_b130 σ)
  else
    fX5_readOn_b130 σ)
def fX5_readOn_l17 : Nat → SX → Int32 → Option (Int32 × SX)
  | 0, _, _ => none
  | n + 1, σ, v1 => fX5_readOn_b17 (fX5_readOn_l17 n) σ v1
def fX5_readOn (σ : SX) : Option (Int32 × SX) :=
  fX5_readOn_l17 1000 (sx_pg_width (sx_pg_column (sx_pg_row σ (0 : Int32)) (0 : Int32)) (0 : Int32)) (0 : Int32)
def fX5_isWhole_b34 (σ : SX) (w0 : Int32) : Option (Int32 × SX) :=
  (if w0 = 0 ∨ w0 = 1 then some (w0, σ) else none)
def fX5_isWhole_b33 (σ : SX) : Option (Int32 × SX) :=
  fX5_isWhole_b34 σ (0 : Int32)
def fX5_isWhole (σ : SX) : Option (Int32 × SX) :=
  ((fX5_readOn σ).bind (fun r1 =>
    (if r1.1 = (gx_pg_length r1.2) then
      (if 0 < (gx_pg_row r1.2) then
        (if (gx_pg_column r1.2) = (gx_pg_width r1.2) then
          fX5_isWhole_b34 r1.2 (1 : Int32)
        else
          fX5_isWhole_b33 r1.2)
      else
        fX5_isWhole_b33 r1.2)
    else
      fX5_isWhole_b33 r1.2)))
def fX5_hasFree_b25 (σ : SX) : Option (Int32) :=
  some ((1 : Int32))
def fX5_hasFree_b2 (σ : SX) (k2 : Int32 → Option (Int32)) (v1 : Int32) : Option (Int32) :=
  (if v1 < (gx_pg_length σ) then
    ((fX5_kindAt σ v1).bind (fun r1 =>
      (if r1 = 0 then
        fX5_hasFree_b25 σ
      else
        (if r1 = (1 : Int32) then
          fX5_hasFree_b25 σ
        else
          k2 (v1 + (1 : Int32))))))
  else
    some ((0 : Int32)))
def fX5_hasFree_l2 (σ : SX) : Nat → Int32 → Option (Int32)
  | 0, _ => none
  | n + 1, v1 => fX5_hasFree_b2 σ (fX5_hasFree_l2 σ n) v1
def fX5_hasFree (σ : SX) : Option (Int32) :=
  fX5_hasFree_l2 σ 1000 (0 : Int32)
def fX5_mixInto_b43 (σ : SX) (v3 : Int64) : Option (Int64) :=
  some (v3)
def fX5_mixInto_b5 (σ : SX) (k5 : Int64 → Int32 → Option (Int64)) (v3 : Int64) (v5 : Int32) : Option (Int64) :=
  (if v5 < (gx_pg_length σ) then
    (if v5 < (45 : Int32) then
      (if ¬ (v5 < 0 ∨ 45 ≤ v5.toNatClampNeg) then
        ((fX11_mixed v3 (((gx_pg_signs σ) v5.toNatClampNeg).toInt64)).bind (fun r1 =>
          k5 r1 (v5 + (1 : Int32))))
      else none)
    else
      fX5_mixInto_b43 σ v3)
  else
    fX5_mixInto_b43 σ v3)
def fX5_mixInto_l5 (σ : SX) : Nat → Int64 → Int32 → Option (Int64)
  | 0, _, _ => none
  | n + 1, v3, v5 => fX5_mixInto_b5 σ (fX5_mixInto_l5 σ n) v3 v5
def fX5_mixInto (σ : SX) (v1 : Int64) : Option (Int64) :=
  fX5_mixInto_l5 σ 1000 v1 (0 : Int32)
def fX6_kind (σ : SX) (v0 : Nat) : Option (Int32) :=
  some ((0 : Int32))
def fX6_goOn (σ : SX) (v0 : Nat) (v2 : Int32) (v3 : Int32) (v4 : Int32) : Option (Unit) :=
  some ()
def fX6_callsFrom (σ : SX) (v0 : Nat) : Option (Int32) :=
  some ((-1 : Int32))
def fX6_isCaught (σ : SX) (v0 : Nat) : Option (Int32) :=
  some ((1 : Int32))
def fX9_kind (σ : SX) (v0 : Nat) : Option (Int32) :=
  some ((1 : Int32))
def fX10_kind (σ : SX) (v0 : Nat) : Option (Int32) :=
  some ((2 : Int32))
def d_kind (σ : SX) (v0 : Nat) : Option (Int32) :=
  if gx_pl_kd σ (v0 - 20) = 0 then fX6_kind σ v0 else if gx_pl_kd σ (v0 - 20) = 1 then fX9_kind σ v0 else if gx_pl_kd σ (v0 - 20) = 2 then fX10_kind σ v0 else if gx_pl_kd σ (v0 - 20) = 3 then fX1_kind σ v0 else if gx_pl_kd σ (v0 - 20) = 4 then fX2_kind σ v0 else fX0_kind σ v0
def fX6_detail (σ : SX) (v0 : Nat) (v1 : Int32) : Option (Int32) :=
  (if v1 = (0 : Int32) then
    (if gx_pok σ v0 = true then
      ((d_kind σ v0).bind (fun r1 =>
      some (r1)))
    else none)
  else (if v1 = (1 : Int32) then
    (if gx_pok σ v0 = true then
      some (((gx_pl_told σ) (v0 - 20)))
    else none)
  else (if v1 = (2 : Int32) then
    (if gx_pok σ v0 = true then
      some (((gx_pl_size σ) (v0 - 20)))
    else none)
  else (if v1 = (3 : Int32) then
    (if gx_pok σ v0 = true then
      some (((gx_pl_cloth σ) (v0 - 20)))
    else none)
  else (if gx_pok σ v0 = true then
      some (((gx_pl_giggle σ) (v0 - 20)))
    else none)))))
def fX7_put_b75 (σ : SX) : Option (SX) :=
  some (σ)
def fX7_put_b71 (σ : SX) (w0 : Int32) (w1 : Int32) : Option (SX) :=
  fX7_put_b75 (sx_rg_free σ (w1 + w0))
def fX7_put_b66 (σ : SX) (w0 : Int32) : Option (SX) :=
  fX7_put_b71 σ (1 : Int32) w0
def fX7_put (σ : SX) (v1 : Int32) (v2 : Int32) (v3 : Int32) : Option (SX) :=
  (if (gx_rg_size σ) < (36 : Int32) then
    (if ¬ ((gx_rg_size σ) < 0 ∨ 36 ≤ (gx_rg_size σ).toNatClampNeg) then
      (if ¬ ((gx_rg_size σ) < 0 ∨ 36 ≤ (gx_rg_size σ).toNatClampNeg) then
        (if ¬ ((gx_rg_size σ) < 0 ∨ 36 ≤ (gx_rg_size σ).toNatClampNeg) then
          (if v1 = 0 then
            fX7_put_b66 (sx_rg_size (sx_rg_columns (sx_rg_rows (sx_rg_kinds σ (upd (gx_rg_kinds σ) (gx_rg_size σ).toNatClampNeg v1)) (upd (gx_rg_rows σ) (gx_rg_size σ).toNatClampNeg v2)) (upd (gx_rg_columns σ) (gx_rg_size σ).toNatClampNeg v3)) ((gx_rg_size σ) + (1 : Int32))) (gx_rg_free σ)
          else
            (if v1 = (1 : Int32) then
              fX7_put_b66 (sx_rg_size (sx_rg_columns (sx_rg_rows (sx_rg_kinds σ (upd (gx_rg_kinds σ) (gx_rg_size σ).toNatClampNeg v1)) (upd (gx_rg_rows σ) (gx_rg_size σ).toNatClampNeg v2)) (upd (gx_rg_columns σ) (gx_rg_size σ).toNatClampNeg v3)) ((gx_rg_size σ) + (1 : Int32))) (gx_rg_free σ)
            else
              fX7_put_b71 (sx_rg_size (sx_rg_columns (sx_rg_rows (sx_rg_kinds σ (upd (gx_rg_kinds σ) (gx_rg_size σ).toNatClampNeg v1)) (upd (gx_rg_rows σ) (gx_rg_size σ).toNatClampNeg v2)) (upd (gx_rg_columns σ) (gx_rg_size σ).toNatClampNeg v3)) ((gx_rg_size σ) + (1 : Int32))) (0 : Int32) (gx_rg_free σ)))
        else none)
      else none)
    else none)
  else
    fX7_put_b75 σ)
def fX7_has_b17 (σ : SX) (w0 : Int32) : Option (Int32) :=
  (if w0 = 0 ∨ w0 = 1 then some (w0) else none)
def fX7_has_b16 (σ : SX) : Option (Int32) :=
  fX7_has_b17 σ (0 : Int32)
def fX7_has (σ : SX) (v1 : Int32) : Option (Int32) :=
  (if v1 < 0 then
    fX7_has_b16 σ
  else
    (if v1 < (gx_rg_size σ) then
      fX7_has_b17 σ (1 : Int32)
    else
      fX7_has_b16 σ))
def fX11_isWithin_b14 (w0 : Int32) : Option (Int32) :=
  (if w0 = 0 ∨ w0 = 1 then some (w0) else none)
def fX11_isWithin_b13 : Option (Int32) :=
  fX11_isWithin_b14 (0 : Int32)
def fX11_isWithin (v0 : Int32) (v1 : Int32) : Option (Int32) :=
  (if v0 < 0 then
    fX11_isWithin_b13
  else
    (if v1 < v0 then
      fX11_isWithin_b13
    else
      fX11_isWithin_b14 (1 : Int32)))
def fX7_findBeside_b107 (k2 : SX → Int32 → Int32 → Int32 → Option (SX)) (σ : SX) (v1 : Int32) (v2 : Int32) (v3 : Int32) (w0 : Int32) (w1 : Int32) : Option (SX) :=
  (if ¬ (w1 < 0 ∨ 144 ≤ w1.toNatClampNeg) then
    k2 (sx_rg_beside σ (upd (gx_rg_beside σ) w1.toNatClampNeg w0)) v1 v2 (v3 + (1 : Int32))
  else none)
def fX7_findBeside_b84 (k2 : SX → Int32 → Int32 → Int32 → Option (SX)) (σ : SX) (v1 : Int32) (v2 : Int32) (v3 : Int32) (v5 : Int32) (v6 : Int32) (w0 : Int32) : Option (SX) :=
  (if w0 = 0 then
    fX7_findBeside_b107 k2 σ v1 v2 v3 (-1 : Int32) v3
  else
    fX7_findBeside_b107 k2 σ v1 v2 v3 ((v5 * v2) + v6) v3)
def fX7_findBeside_b83 (k2 : SX → Int32 → Int32 → Int32 → Option (SX)) (σ : SX) (v1 : Int32) (v2 : Int32) (v3 : Int32) (v5 : Int32) (v6 : Int32) : Option (SX) :=
  fX7_findBeside_b84 k2 σ v1 v2 v3 v5 v6 (0 : Int32)
def fX7_findBeside_b2 (k2 : SX → Int32 → Int32 → Int32 → Option (SX)) (σ : SX) (v1 : Int32) (v2 : Int32) (v3 : Int32) : Option (SX) :=
  (if v3 < (144 : Int32) then
    ((fX7_rowOf σ (v3 / (4 : Int32))).bind (fun r1 =>
      (if ¬ ((v3 &&& (3 : Int32)) < 0 ∨ 4 ≤ (v3 &&& (3 : Int32)).toNatClampNeg) then
        ((fX7_columnOf σ (v3 / (4 : Int32))).bind (fun r2 =>
          (if ¬ ((v3 &&& (3 : Int32)) < 0 ∨ 4 ≤ (v3 &&& (3 : Int32)).toNatClampNeg) then
            ((fX7_has σ (v3 / (4 : Int32))).bind (fun r3 =>
              (if r3 = 0 then
                fX7_findBeside_b83 k2 σ v1 v2 v3 (r1 + (ev_sf 1001 (v3 &&& (3 : Int32)).toNatClampNeg)) (r2 + (ev_sf 1002 (v3 &&& (3 : Int32)).toNatClampNeg))
              else
                ((fX11_isWithin (r1 + (ev_sf 1001 (v3 &&& (3 : Int32)).toNatClampNeg)) (v1 - (1 : Int32))).bind (fun r4 =>
                  (if r4 = 0 then
                    fX7_findBeside_b83 k2 σ v1 v2 v3 (r1 + (ev_sf 1001 (v3 &&& (3 : Int32)).toNatClampNeg)) (r2 + (ev_sf 1002 (v3 &&& (3 : Int32)).toNatClampNeg))
                  else
                    ((fX11_isWithin (r2 + (ev_sf 1002 (v3 &&& (3 : Int32)).toNatClampNeg)) (v2 - (1 : Int32))).bind (fun r5 =>
                      (if r5 = 0 then
                        fX7_findBeside_b83 k2 σ v1 v2 v3 (r1 + (ev_sf 1001 (v3 &&& (3 : Int32)).toNatClampNeg)) (r2 + (ev_sf 1002 (v3 &&& (3 : Int32)).toNatClampNeg))
                      else
                        fX7_findBeside_b84 k2 σ v1 v2 v3 (r1 + (ev_sf 1001 (v3 &&& (3 : Int32)).toNatClampNeg)) (r2 + (ev_sf 1002 (v3 &&& (3 : Int32)).toNatClampNeg)) (1 : Int32))))))))))
          else none)))
      else none)))
  else
    some (σ))
def fX7_findBeside_l2 : Nat → SX → Int32 → Int32 → Int32 → Option (SX)
  | 0, _, _, _, _ => none
  | n + 1, σ, v1, v2, v3 => fX7_findBeside_b2 (fX7_findBeside_l2 n) σ v1 v2 v3
def fX7_findBeside (σ : SX) (v1 : Int32) (v2 : Int32) : Option (SX) :=
  fX7_findBeside_l2 1000 σ v1 v2 (0 : Int32)
def fX7_readFrom_b59 (k17 : SX → Int32 → Int32 → Int32 → Option (SX)) (σ : SX) (v2 : Int32) (v3 : Int32) (v4 : Int32) : Option (SX) :=
  k17 σ v2 v3 (v4 + (1 : Int32))
def fX7_readFrom_b17 (k17 : SX → Int32 → Int32 → Int32 → Option (SX)) (σ : SX) (v2 : Int32) (v3 : Int32) (v4 : Int32) : Option (SX) :=
  (if v4 < (gx_pg_length σ) then
    ((fX5_kindAt σ v4).bind (fun r1 =>
      (if r1 = (-1 : Int32) then
        fX7_readFrom_b59 k17 σ (v2 + (1 : Int32)) (0 : Int32) v4
      else
        ((fX7_put σ r1 v2 v3).bind (fun r2 =>
          fX7_readFrom_b59 k17 r2 v2 (v3 + (1 : Int32)) v4)))))
  else
    ((fX7_findBeside σ (v2 + (1 : Int32)) v3).bind (fun r3 =>
      some (r3))))
def fX7_readFrom_l17 : Nat → SX → Int32 → Int32 → Int32 → Option (SX)
  | 0, _, _, _, _ => none
  | n + 1, σ, v2, v3, v4 => fX7_readFrom_b17 (fX7_readFrom_l17 n) σ v2 v3 v4
def fX7_readFrom (σ : SX) : Option (SX) :=
  fX7_readFrom_l17 1000 (sx_rg_free (sx_rg_size σ (0 : Int32)) (0 : Int32)) (0 : Int32) (0 : Int32) (0 : Int32)
def fX7_isRead_b12 (σ : SX) (w0 : Int32) : Option (Int32) :=
  (if w0 = 0 ∨ w0 = 1 then some (w0) else none)
def fX7_isRead (σ : SX) : Option (Int32) :=
  (if 0 < (gx_rg_size σ) then
    fX7_isRead_b12 σ (1 : Int32)
  else
    fX7_isRead_b12 σ (0 : Int32))
def fX7_firstFree_b2 (σ : SX) (k2 : Int32 → Option (Int32)) (v1 : Int32) : Option (Int32) :=
  (if v1 < (gx_rg_size σ) then
    ((fX7_isFree σ v1).bind (fun r1 =>
      (if r1 = 0 then
        k2 (v1 + (1 : Int32))
      else
        some (v1))))
  else
    some ((-1 : Int32)))
def fX7_firstFree_l2 (σ : SX) : Nat → Int32 → Option (Int32)
  | 0, _ => none
  | n + 1, v1 => fX7_firstFree_b2 σ (fX7_firstFree_l2 σ n) v1
def fX7_firstFree (σ : SX) : Option (Int32) :=
  fX7_firstFree_l2 σ 1000 (0 : Int32)
def fX7_mixInto_b5 (σ : SX) (k5 : Int64 → Int32 → Option (Int64)) (v3 : Int64) (v5 : Int32) : Option (Int64) :=
  (if v5 < (gx_rg_size σ) then
    ((fX7_kindOf σ v5).bind (fun r1 =>
      ((fX11_mixed v3 r1.toInt64).bind (fun r2 =>
        k5 r2 (v5 + (1 : Int32))))))
  else
    some (v3))
def fX7_mixInto_l5 (σ : SX) : Nat → Int64 → Int32 → Option (Int64)
  | 0, _, _ => none
  | n + 1, v3, v5 => fX7_mixInto_b5 σ (fX7_mixInto_l5 σ n) v3 v5
def fX7_mixInto (σ : SX) (v1 : Int64) : Option (Int64) :=
  fX7_mixInto_l5 σ 1000 v1 (0 : Int32)
def fX8_begin (σ : SX) (v1 : Int32) (v2 : Int32) (v3 : Int32) (v4 : Int32) : Option (SX) :=
  some ((sx_rd_tenths (sx_rd_drift (sx_rd_firstWay (sx_rd_firstCell σ v1) v2) v3) v4))
def fX9_goOn (σ : SX) (v0 : Nat) (v2 : Int32) (v3 : Int32) (v4 : Int32) : Option (SX) :=
  (if gx_pok σ v0 = true then
    ((fX7_choose σ ((gx_pl_at σ) (v0 - 20)) v2 v3 (-1 : Int32)).bind (fun r1 =>
      (if gx_pok σ v0 = true then
        some ((sx_pl_at σ (upd (gx_pl_at σ) (v0 - 20) r1)))
      else none)))
  else none)
def d_goOn (σ : SX) (v0 : Nat) (v2 : Int32) (v3 : Int32) (v4 : Int32) : Option (SX) :=
  if gx_pl_kd σ (v0 - 20) = 0 then (fX6_goOn σ v0 v2 v3 v4).map (fun _ => σ) else if gx_pl_kd σ (v0 - 20) = 1 then fX9_goOn σ v0 v2 v3 v4 else if gx_pl_kd σ (v0 - 20) = 2 then fX9_goOn σ v0 v2 v3 v4 else if gx_pl_kd σ (v0 - 20) = 3 then (fX6_goOn σ v0 v2 v3 v4).map (fun _ => σ) else if gx_pl_kd σ (v0 - 20) = 4 then (fX6_goOn σ v0 v2 v3 v4).map (fun _ => σ) else fX0_goOn σ v0 v2 v3 v4
def fX8_playersGo_b69 (k36 : SX → Int32 → Int32 → Int32 → Option (SX)) (σ : SX) (v1 : Int32) (v2 : Int32) (v5 : Int32) : Option (SX) :=
  k36 σ v1 v2 (v5 + (1 : Int32))
def fX8_playersGo_b36 (k36 : SX → Int32 → Int32 → Int32 → Option (SX)) (σ : SX) (v1 : Int32) (v2 : Int32) (v5 : Int32) : Option (SX) :=
  (if v5 < (6 : Int32) then
    (if ¬ (v5 < 0 ∨ 6 ≤ v5.toNatClampNeg) then
      (ev_q ((gx_pl_arr σ) v5.toNatClampNeg)
        (fX8_playersGo_b69 k36 σ v1 v2 v5)
        (fun a3 =>
        (if gx_pok σ a3 = true then
          ((d_goOn σ a3 v1 v2 (gx_rd_hisWay σ)).bind (fun r4 =>
          fX8_playersGo_b69 k36 r4 v1 v2 v5))
        else none)))
    else none)
  else
    some (σ))
def fX8_playersGo_l36 : Nat → SX → Int32 → Int32 → Int32 → Option (SX)
  | 0, _, _, _, _ => none
  | n + 1, σ, v1, v2, v5 => fX8_playersGo_b36 (fX8_playersGo_l36 n) σ v1 v2 v5
def fX8_playersGo (σ : SX) : Option (SX) :=
  ((fX7_rowOf σ (gx_rd_hisCell σ)).bind (fun r1 =>
    ((fX7_columnOf σ (gx_rd_hisCell σ)).bind (fun r2 =>
      fX8_playersGo_l36 1000 σ r1 r2 (0 : Int32)))))
def d_callsFrom (σ : SX) (v0 : Nat) : Option (Int32) :=
  if gx_pl_kd σ (v0 - 20) = 0 then fX6_callsFrom σ v0 else if gx_pl_kd σ (v0 - 20) = 1 then fX6_callsFrom σ v0 else if gx_pl_kd σ (v0 - 20) = 2 then fX6_callsFrom σ v0 else if gx_pl_kd σ (v0 - 20) = 3 then fX1_callsFrom σ v0 else if gx_pl_kd σ (v0 - 20) = 4 then fX2_callsFrom σ v0 else fX6_callsFrom σ v0
def fX8_lookToCall_b140 (σ : SX) : Option (SX) :=
  some (σ)
def fX8_lookToCall_b105 (k16 : SX → Int32 → Int32 → Int32 → Option (SX)) (σ : SX) (v1 : Int32) (v2 : Int32) (v5 : Int32) : Option (SX) :=
  k16 σ v1 v2 (v5 + (1 : Int32))
def fX8_lookToCall_b99 (k16 : SX → Int32 → Int32 → Int32 → Option (SX)) (σ : SX) (v5 : Int32) (v7 : Int32) (v8 : Int32) : Option (SX) :=
  fX8_lookToCall_b105 k16 σ v7 v8 v5
def fX8_lookToCall_b47 (k16 : SX → Int32 → Int32 → Int32 → Option (SX)) (σ : SX) (v1 : Int32) (v2 : Int32) (v5 : Int32) (w0 : Int32) : Option (SX) :=
  (if w0 = (-1 : Int32) then
    fX8_lookToCall_b105 k16 σ v1 v2 v5
  else
    ((fX7_rowOf σ (gx_rd_hisCell σ)).bind (fun r1 =>
      ((fX7_columnOf σ (gx_rd_hisCell σ)).bind (fun r2 =>
        ((fX7_apart σ w0 r1 r2).bind (fun r3 =>
          (if v1 = (-1 : Int32) then
            fX8_lookToCall_b99 k16 σ v5 w0 r3
          else
            (if r3 < v2 then
              fX8_lookToCall_b99 k16 σ v5 w0 r3
            else
              fX8_lookToCall_b105 k16 σ v1 v2 v5)))))))))
def fX8_lookToCall_b16 (k16 : SX → Int32 → Int32 → Int32 → Option (SX)) (σ : SX) (v1 : Int32) (v2 : Int32) (v5 : Int32) : Option (SX) :=
  (if v5 < (6 : Int32) then
    (if ¬ (v5 < 0 ∨ 6 ≤ v5.toNatClampNeg) then
      (ev_q ((gx_pl_arr σ) v5.toNatClampNeg)
        (fX8_lookToCall_b47 k16 σ v1 v2 v5 (-1 : Int32))
        (fun a4 =>
        (if gx_pok σ a4 = true then
          ((d_callsFrom σ a4).bind (fun r5 =>
          fX8_lookToCall_b47 k16 σ v1 v2 v5 r5))
        else none)))
    else none)
  else
    (if v1 = (-1 : Int32) then
      fX8_lookToCall_b140 σ
    else
      (if v1 = (gx_rd_hisCell σ) then
        fX8_lookToCall_b140 σ
      else
        ((fX7_wayTo σ (gx_rd_hisCell σ) v1).bind (fun r6 =>
          fX8_lookToCall_b140 (sx_rd_hisWay σ r6))))))
def fX8_lookToCall_l16 : Nat → SX → Int32 → Int32 → Int32 → Option (SX)
  | 0, _, _, _, _ => none
  | n + 1, σ, v1, v2, v5 => fX8_lookToCall_b16 (fX8_lookToCall_l16 n) σ v1 v2 v5
def fX8_lookToCall (σ : SX) : Option (SX) :=
  fX8_lookToCall_l16 1000 σ (-1 : Int32) (0 : Int32) (0 : Int32)
def fX8_draw (σ : SX) : Option (Int32 × SX) :=
  some (((((((1103515245 : Int64) * (gx_rd_seed σ)) + (12345 : Int64)) &&& (2147483647 : Int64)) / (65536 : Int64)) - (((((1103515245 : Int64) * (gx_rd_seed σ)) + (12345 : Int64)) &&& (2147483647 : Int64)) / (65536 : Int64)) / (10 : Int64) * (10 : Int64)).toInt32, (sx_rd_seed σ ((((1103515245 : Int64) * (gx_rd_seed σ)) + (12345 : Int64)) &&& (2147483647 : Int64))))
def fX8_heGoes_b70 (σ : SX) : Option (SX) :=
  some (σ)
def fX8_heGoes_b23 (σ : SX) : Option (SX) :=
  ((fX7_ahead σ (gx_rd_hisCell σ) (gx_rd_hisWay σ)).bind (fun r2 =>
    ((fX7_isFree σ r2).bind (fun r3 =>
      (if r3 = 0 then
        fX8_heGoes_b70 (sx_rd_hisWay σ (((gx_rd_hisWay σ) + (1 : Int32)) &&& (3 : Int32)))
      else
        fX8_heGoes_b70 (sx_rd_hisCell σ r2))))))
def fX8_heGoes (σ : SX) : Option (SX) :=
  ((fX8_draw σ).bind (fun r1 =>
    (if r1.1 < (gx_rd_drift r1.2) then
      fX8_heGoes_b23 (sx_rd_hisWay r1.2 (((gx_rd_hisWay r1.2) + (1 : Int32)) &&& (3 : Int32)))
    else
      fX8_heGoes_b23 r1.2)))
def fX10_isCaught_b13 (σ : SX) (w0 : Int32) : Option (Int32 × SX) :=
  (if w0 = 0 ∨ w0 = 1 then some (w0, σ) else none)
def fX10_isCaught (σ : SX) (v0 : Nat) : Option (Int32 × SX) :=
  ((fX8_draw σ).bind (fun r1 =>
    (if r1.1 < (5 : Int32) then
      fX10_isCaught_b13 r1.2 (0 : Int32)
    else
      fX10_isCaught_b13 r1.2 (1 : Int32))))
def d_isCaught (σ : SX) (v0 : Nat) : Option (Int32 × SX) :=
  if gx_pl_kd σ (v0 - 20) = 0 then (fX6_isCaught σ v0).map (fun r => (r, σ)) else if gx_pl_kd σ (v0 - 20) = 1 then (fX6_isCaught σ v0).map (fun r => (r, σ)) else if gx_pl_kd σ (v0 - 20) = 2 then fX10_isCaught σ v0 else if gx_pl_kd σ (v0 - 20) = 3 then (fX6_isCaught σ v0).map (fun r => (r, σ)) else if gx_pl_kd σ (v0 - 20) = 4 then (fX6_isCaught σ v0).map (fun r => (r, σ)) else (fX6_isCaught σ v0).map (fun r => (r, σ))
def fX8_touch_b60 (σ : SX) : Option (SX) :=
  some (σ)
def fX8_touch_b54 (k2 : SX → Int32 → Option (SX)) (σ : SX) (v1 : Int32) : Option (SX) :=
  k2 σ (v1 + (1 : Int32))
def fX8_touch_b2 (k2 : SX → Int32 → Option (SX)) (σ : SX) (v1 : Int32) : Option (SX) :=
  (if v1 < (6 : Int32) then
    (if (gx_rd_touched σ) = (-1 : Int32) then
      (if ¬ (v1 < 0 ∨ 6 ≤ v1.toNatClampNeg) then
        (ev_q ((gx_pl_arr σ) v1.toNatClampNeg)
          (fX8_touch_b54 k2 σ v1)
          (fun a1 =>
          (if gx_pok σ a1 = true then
            (if ((gx_pl_at σ) (a1 - 20)) = (gx_rd_hisCell σ) then
              (if gx_pok σ a1 = true then
                ((d_isCaught σ a1).bind (fun r2 =>
                (if r2.1 = 0 then
                  fX8_touch_b54 k2 r2.2 v1
                else
                  fX8_touch_b54 k2 (sx_rd_touched r2.2 v1) v1)))
              else none)
            else
              fX8_touch_b54 k2 σ v1)
          else none)))
      else none)
    else
      fX8_touch_b60 σ)
  else
    fX8_touch_b60 σ)
def fX8_touch_l2 : Nat → SX → Int32 → Option (SX)
  | 0, _, _ => none
  | n + 1, σ, v1 => fX8_touch_b2 (fX8_touch_l2 n) σ v1
def fX8_touch (σ : SX) : Option (SX) :=
  fX8_touch_l2 1000 σ (0 : Int32)
def fX8_play_b136 (σ : SX) : Option (SX) :=
  some (σ)
def fX8_play_b127 (k73 : SX → Int32 → Option (SX)) (σ : SX) (v2 : Int32) (w0 : Int32) : Option (SX) :=
  k73 (sx_rd_tenth σ w0) (v2 + (1 : Int32))
def fX8_play_b103 (k73 : SX → Int32 → Option (SX)) (σ : SX) (v2 : Int32) : Option (SX) :=
  ((fX8_heGoes σ).bind (fun r1 =>
    ((fX8_touch r1).bind (fun r2 =>
      (if (gx_rd_touched r2) = (-1 : Int32) then
        fX8_play_b127 k73 r2 v2 (v2 + (1 : Int32))
      else
        fX8_play_b127 k73 r2 v2 v2)))))
def fX8_play_b73 (k73 : SX → Int32 → Option (SX)) (σ : SX) (v2 : Int32) : Option (SX) :=
  (if v2 < (gx_rd_tenths σ) then
    (if (gx_rd_touched σ) = (-1 : Int32) then
      ((fX8_playersGo σ).bind (fun r3 =>
        (if (v2 - v2 / (3 : Int32) * (3 : Int32)) = 0 then
          ((fX8_lookToCall r3).bind (fun r4 =>
            fX8_play_b103 k73 r4 v2))
        else
          fX8_play_b103 k73 r3 v2)))
    else
      fX8_play_b136 σ)
  else
    fX8_play_b136 σ)
def fX8_play_l73 : Nat → SX → Int32 → Option (SX)
  | 0, _, _ => none
  | n + 1, σ, v2 => fX8_play_b73 (fX8_play_l73 n) σ v2
def fX8_play_b65 (k38 : SX → Int32 → Option (SX)) (σ : SX) (v4 : Int32) : Option (SX) :=
  k38 σ (v4 + (1 : Int32))
def fX8_play_b38 (k38 : SX → Int32 → Option (SX)) (σ : SX) (v4 : Int32) : Option (SX) :=
  (if v4 < (6 : Int32) then
    (if ¬ (v4 < 0 ∨ 6 ≤ v4.toNatClampNeg) then
      (ev_q ((gx_pl_arr σ) v4.toNatClampNeg)
        (fX8_play_b65 k38 σ v4)
        (fun a5 =>
        (if gx_pok σ a5 = true then
          (if gx_pok σ a5 = true then
            fX8_play_b65 k38 (sx_pl_at σ (upd (gx_pl_at σ) (a5 - 20) ((gx_pl_told σ) (a5 - 20)))) v4
          else none)
        else none)))
    else none)
  else
    fX8_play_l73 1000 σ (0 : Int32))
def fX8_play_l38 : Nat → SX → Int32 → Option (SX)
  | 0, _, _ => none
  | n + 1, σ, v4 => fX8_play_b38 (fX8_play_l38 n) σ v4
def fX8_play (σ : SX) (v1 : Int32) : Option (SX) :=
  fX8_play_l38 1000 (sx_rd_touched (sx_rd_hisWay (sx_rd_hisCell (sx_rd_seed σ v1.toInt64) (gx_rd_firstCell σ)) (gx_rd_firstWay σ)) (-1 : Int32)) (0 : Int32)
def fX8_outcome (σ : SX) (v1 : Int32) : Option (Int32) :=
  (if v1 = (0 : Int32) then
    some ((gx_rd_touched σ))
  else (if v1 = (1 : Int32) then
    some ((gx_rd_tenth σ))
  else (if v1 = (2 : Int32) then
    some ((gx_rd_hisCell σ))
  else some ((gx_rd_seed σ).toInt32))))
def fX8_seedsThatTouch_b48 (σ : SX) (v4 : Int32) : Option (Int32 × SX) :=
  some (v4, σ)
def fX8_seedsThatTouch_b39 (k6 : SX → Int32 → Int32 → Int32 → Int32 → Int32 → Option (Int32 × SX)) (σ : SX) (v1 : Int32) (v2 : Int32) (v3 : Int32) (v5 : Int32) (w0 : Int32) (w1 : Int32) : Option (Int32 × SX) :=
  k6 σ v1 v2 v3 (w1 + w0) (v5 + (1 : Int32))
def fX8_seedsThatTouch_b6 (k6 : SX → Int32 → Int32 → Int32 → Int32 → Int32 → Option (Int32 × SX)) (σ : SX) (v1 : Int32) (v2 : Int32) (v3 : Int32) (v4 : Int32) (v5 : Int32) : Option (Int32 × SX) :=
  (if v5 < v2 then
    (if v4 < v3 then
      ((fX8_play σ v5).bind (fun r1 =>
        (if (gx_rd_touched r1) = v1 then
          fX8_seedsThatTouch_b39 k6 r1 v1 v2 v3 v5 (1 : Int32) v4
        else
          fX8_seedsThatTouch_b39 k6 r1 v1 v2 v3 v5 (0 : Int32) v4)))
    else
      fX8_seedsThatTouch_b48 σ v4)
  else
    fX8_seedsThatTouch_b48 σ v4)
def fX8_seedsThatTouch_l6 : Nat → SX → Int32 → Int32 → Int32 → Int32 → Int32 → Option (Int32 × SX)
  | 0, _, _, _, _, _, _ => none
  | n + 1, σ, v1, v2, v3, v4, v5 => fX8_seedsThatTouch_b6 (fX8_seedsThatTouch_l6 n) σ v1 v2 v3 v4 v5
def fX8_seedsThatTouch (σ : SX) (v1 : Int32) (v2 : Int32) (v3 : Int32) : Option (Int32 × SX) :=
  fX8_seedsThatTouch_l6 1000 σ v1 v2 v3 (0 : Int32) (0 : Int32)
def fX11_letters (σ : SX) (v1 : Int64) : Option (Int32 × SX) :=
  ((fX5_lettersIn v1).bind (fun r1 =>
    (if r1 < 0 then
      some ((-102 : Int32), σ)
    else
      (if (45 : Int32) < ((gx_pg_length σ) + r1) then
        some ((-104 : Int32), σ)
      else
        ((fX5_write σ v1 r1).bind (fun r2 =>
          some ((gx_pg_length r2), r2)))))))
def fX11_blank (σ : SX) : Option (Int32 × SX) :=
  some ((gx_pg_length σ), (sx_pg_length σ (0 : Int32)))
def fX11_fault (σ : SX) : Option (Int32 × SX) :=
  ((fX5_readOn σ).bind (fun r1 =>
    some (r1.1, r1.2)))
def fX11_ring_b44 (k44 : SX → Int32 → Option (Int32 × SX)) (σ : SX) (v1 : Int32) : Option (Int32 × SX) :=
  (if v1 < (6 : Int32) then
    (if ¬ (v1 < 0 ∨ 6 ≤ v1.toNatClampNeg) then
      k44 (sx_pl_arr σ (va_up (gx_pl_arr σ) v1.toNatClampNeg none)) (v1 + (1 : Int32))
    else none)
  else
    ((fX3_forgetJackets (sx_tp_playing σ (0 : Int32))).bind (fun r4 =>
      ((fX4_loseHim r4).bind (fun r5 =>
        some ((gx_rg_size r5), (sx_tp_ringsRead (sx_tp_imageKept r5 (0 : Int32)) ((gx_tp_ringsRead r5) + (1 : Int32)))))))))
def fX11_ring_l44 : Nat → SX → Int32 → Option (Int32 × SX)
  | 0, _, _ => none
  | n + 1, σ, v1 => fX11_ring_b44 (fX11_ring_l44 n) σ v1
def fX11_ring_b20 (σ : SX) : Option (Int32 × SX) :=
  some ((-103 : Int32), σ)
def fX11_ring (σ : SX) : Option (Int32 × SX) :=
  ((fX5_isWhole σ).bind (fun r1 =>
    (if r1.1 = 0 then
      fX11_ring_b20 r1.2
    else
      ((fX5_hasFree r1.2).bind (fun r2 =>
        (if r2 = 0 then
          fX11_ring_b20 r1.2
        else
          ((fX7_readFrom r1.2).bind (fun r3 =>
            fX11_ring_l44 1000 (sx_pg_length r3 (0 : Int32)) (0 : Int32)))))))))
def fX11_cell_b24 (σ : SX) (w0 : Int32) : Option (Int32) :=
  some (w0)
def fX11_cell (σ : SX) (v1 : Int32) : Option (Int32) :=
  ((fX7_has σ v1).bind (fun r1 =>
    (if r1 = 0 then
      fX11_cell_b24 σ (-101 : Int32)
    else
      ((fX7_kindOf σ v1).bind (fun r2 =>
        fX11_cell_b24 σ r2)))))
def fX11_set (σ : SX) (v1 : Int32) (v2 : Int32) : Option (Int32 × SX) :=
  ((fX7_isFree σ v1).bind (fun r1 =>
    (if r1 = 0 then
      some ((-101 : Int32), σ)
    else
      ((fX11_isWithin v2 (3 : Int32)).bind (fun r2 =>
        (if r2 = 0 then
          some ((-102 : Int32), σ)
        else
          ((fX4_putHim σ v1 v2).bind (fun r3 =>
            some ((1 : Int32), r3)))))))))
def fX11_lost (σ : SX) : Option (Int32 × SX) :=
  ((fX7_isRead σ).bind (fun r1 =>
    (if r1 = 0 then
      some ((-103 : Int32), σ)
    else
      ((fX4_loseHim σ).bind (fun r2 =>
        ((fX4_aboveNought r2).bind (fun r3 =>
          some (r3, r2))))))))
def fX11_turned (σ : SX) (v1 : Int32) : Option (Int32 × SX) :=
  ((fX7_isRead σ).bind (fun r1 =>
    (if r1 = 0 then
      some ((-103 : Int32), σ)
    else
      ((fX11_isWithin v1 (5 : Int32)).bind (fun r2 =>
        (if r2 = 0 then
          some ((-102 : Int32), σ)
        else
          (if (gx_od_updates σ) < (9 : Int32) then
            ((fX4_foretellTurn σ v1).bind (fun r3 =>
              ((fX4_narrowTo r3 (0 : Int32)).bind (fun r4 =>
                some (r4.1, r4.2)))))
          else
            some ((-104 : Int32), σ))))))))
def fX11_step_b29 (σ : SX) : Option (Int32 × SX) :=
  some ((-102 : Int32), σ)
def fX11_step (σ : SX) (v1 : Int32) (v2 : Int32) : Option (Int32 × SX) :=
  ((fX7_isRead σ).bind (fun r1 =>
    (if r1 = 0 then
      some ((-103 : Int32), σ)
    else
      ((fX11_isWithin v1 (5 : Int32)).bind (fun r2 =>
        (if r2 = 0 then
          fX11_step_b29 σ
        else
          ((fX11_isWithin v2 (3 : Int32)).bind (fun r3 =>
            (if r3 = 0 then
              fX11_step_b29 σ
            else
              (if (gx_od_updates σ) < (9 : Int32) then
                ((fX4_foretellStep σ (0 : Int32) v1 (-1 : Int32)).bind (fun r4 =>
                  ((fX4_narrowTo r4 v2).bind (fun r5 =>
                    some (r5.1, r5.2)))))
              else
                some ((-104 : Int32), σ)))))))))))
def fX11_heard_b31 (σ : SX) : Option (Int32 × SX) :=
  some ((-102 : Int32), σ)
def fX11_heard (σ : SX) (v1 : Int32) (v2 : Int32) (v3 : Int32) : Option (Int32 × SX) :=
  ((fX7_isFree σ v1).bind (fun r1 =>
    (if r1 = 0 then
      some ((-101 : Int32), σ)
    else
      ((fX11_isWithin v2 (3 : Int32)).bind (fun r2 =>
        (if r2 = 0 then
          fX11_heard_b31 σ
        else
          ((fX11_isWithin v3 (10 : Int32)).bind (fun r3 =>
            (if r3 = 0 then
              fX11_heard_b31 σ
            else
              (if (gx_od_updates σ) < (9 : Int32) then
                ((fX4_foretellCall σ v1 v3).bind (fun r4 =>
                  ((fX4_narrowTo r4 v2).bind (fun r5 =>
                    some (r5.1, r5.2)))))
              else
                some ((-104 : Int32), σ)))))))))))
def fX11_term_b36 (w0 : Int64) : Option (Int64) :=
  some (w0)
def fX11_term_b17 (v5 : Int64) (w0 : Int64) : Option (Int64) :=
  (if v5 = (0 : Int64) then
    fX11_term_b36 w0
  else
    (if ¬ v5 = 0 then
      fX11_term_b36 (w0 / v5)
    else none))
def fX11_term (v0 : Int64) (v2 : Int64) (v4 : Int32) : Option (Int64) :=
  ((fX11_commonDivisor v0 v2).bind (fun r1 =>
    (if v4 = 0 then
      fX11_term_b17 r1 v0
    else
      fX11_term_b17 r1 v2)))
def fX11_odds (σ : SX) (v1 : Int32) (v2 : Int32) : Option (Int64) :=
  ((fX7_has σ v1).bind (fun r1 =>
    (if r1 = 0 then
      some ((-101 : Int64))
    else
      ((fX11_isWithin v2 (1 : Int32)).bind (fun r2 =>
        (if r2 = 0 then
          some ((-102 : Int64))
        else
          ((fX4_ofCell σ v1).bind (fun r3 =>
            ((fX4_total σ).bind (fun r4 =>
              ((fX11_term r3 r4 v2).bind (fun r5 =>
                some (r5)))))))))))))
def fX11_ways_b30 (σ : SX) : Option (Int64) :=
  some ((-102 : Int64))
def fX11_ways (σ : SX) (v1 : Int32) (v2 : Int32) : Option (Int64) :=
  ((fX7_isRead σ).bind (fun r1 =>
    (if r1 = 0 then
      some ((-103 : Int64))
    else
      ((fX11_isWithin v1 (3 : Int32)).bind (fun r2 =>
        (if r2 = 0 then
          fX11_ways_b30 σ
        else
          ((fX11_isWithin v2 (1 : Int32)).bind (fun r3 =>
            (if r3 = 0 then
              fX11_ways_b30 σ
            else
              ((fX4_ofWay σ v1).bind (fun r4 =>
                ((fX4_total σ).bind (fun r5 =>
                  ((fX11_term r4 r5 v2).bind (fun r6 =>
                    some (r6))))))))))))))))
def fX11_likeliest_b22 (σ : SX) (w0 : Int32) : Option (Int32) :=
  some (w0)
def fX11_likeliest (σ : SX) : Option (Int32) :=
  ((fX7_isRead σ).bind (fun r1 =>
    (if r1 = 0 then
      fX11_likeliest_b22 σ (-103 : Int32)
    else
      ((fX4_bestCell σ).bind (fun r2 =>
        fX11_likeliest_b22 σ r2)))))
def fX11_knows (σ : SX) (v1 : Int32) : Option (Int64) :=
  ((fX7_isRead σ).bind (fun r1 =>
    (if r1 = 0 then
      some ((-103 : Int64))
    else
      ((fX11_isWithin v1 (1 : Int32)).bind (fun r2 =>
        (if r2 = 0 then
          some ((-102 : Int64))
        else
          ((fX4_bestCell σ).bind (fun r3 =>
            ((fX4_ofCell σ r3).bind (fun r4 =>
              ((fX4_total σ).bind (fun r5 =>
                ((fX11_term r4 r5 v1).bind (fun r6 =>
                  some (r6)))))))))))))))
def fX11_sixtiethsExpected_b42 (σ : SX) (v2 : Int32) (w0 : Int32) : Option (Int64 × SX) :=
  ((fX4_foretellStep σ w0 v2 (-1 : Int32)).bind (fun r3 =>
    ((fX4_likeliestOfAll r3).bind (fun r4 =>
      some (((6 : Int64) * r4), r3)))))
def fX11_sixtiethsExpected (σ : SX) (v1 : Int32) (v2 : Int32) (v3 : Int32) (v4 : Int32) : Option (Int64 × SX) :=
  (if v1 = (3 : Int32) then
    ((fX4_foretellCall σ v3 v4).bind (fun r1 =>
      ((fX4_likeliestOfAll r1).bind (fun r2 =>
        some (r2, r1)))))
  else
    (if v1 = (1 : Int32) then
      fX11_sixtiethsExpected_b42 σ v2 (3 : Int32)
    else
      (if v1 = (2 : Int32) then
        fX11_sixtiethsExpected_b42 σ v2 (1 : Int32)
      else
        fX11_sixtiethsExpected_b42 σ v2 (0 : Int32))))
def fX11_expected_b82 (σ : SX) (v1 : Int32) (v2 : Int32) (v3 : Int32) (v4 : Int32) (v5 : Int32) : Option (Int64 × SX) :=
  (if (7 : Int32) < (gx_od_updates σ) then
    some ((-103 : Int64), σ)
  else
    ((fX11_sixtiethsExpected σ v1 v2 v3 v4).bind (fun r6 =>
      ((fX4_total r6.2).bind (fun r7 =>
        ((fX11_term r6.1 ((60 : Int64) * r7) v5).bind (fun r8 =>
          some (r8, r6.2))))))))
def fX11_expected_b63 (σ : SX) (v1 : Int32) (v2 : Int32) (v3 : Int32) (v4 : Int32) (v5 : Int32) : Option (Int64 × SX) :=
  (if v1 = (3 : Int32) then
    ((fX11_isWithin v4 (10 : Int32)).bind (fun r9 =>
      (if r9 = 0 then
        some ((-102 : Int64), σ)
      else
        fX11_expected_b82 σ v1 v2 v3 v4 v5)))
  else
    fX11_expected_b82 σ v1 v2 v3 v4 v5)
def fX11_expected_b39 (σ : SX) : Option (Int64 × SX) :=
  some ((-102 : Int64), σ)
def fX11_expected (σ : SX) (v1 : Int32) (v2 : Int32) (v3 : Int32) (v4 : Int32) (v5 : Int32) : Option (Int64 × SX) :=
  ((fX7_isRead σ).bind (fun r1 =>
    (if r1 = 0 then
      some ((-103 : Int64), σ)
    else
      ((fX11_isWithin v1 (3 : Int32)).bind (fun r2 =>
        (if r2 = 0 then
          fX11_expected_b39 σ
        else
          ((fX11_isWithin v2 (5 : Int32)).bind (fun r3 =>
            (if r3 = 0 then
              fX11_expected_b39 σ
            else
              ((fX11_isWithin v5 (1 : Int32)).bind (fun r4 =>
                (if r4 = 0 then
                  fX11_expected_b39 σ
                else
                  (if v1 = (3 : Int32) then
                    ((fX7_isFree σ v3).bind (fun r5 =>
                      (if r5 = 0 then
                        some ((-101 : Int64), σ)
                      else
                        fX11_expected_b63 σ v1 v2 v3 v4 v5)))
                  else
                    fX11_expected_b63 σ v1 v2 v3 v4 v5)))))))))))))
def fX11_bestDoing_b44 (k11 : SX → Int32 → Int32 → Int32 → Int32 → Int64 → Int32 → Option (Int32 × SX)) (σ : SX) (v1 : Int32) (v2 : Int32) (v3 : Int32) (v4 : Int32) (v5 : Int64) (v7 : Int32) : Option (Int32 × SX) :=
  k11 σ v1 v2 v3 v4 v5 (v7 + (1 : Int32))
def fX11_bestDoing_b11 (k11 : SX → Int32 → Int32 → Int32 → Int32 → Int64 → Int32 → Option (Int32 × SX)) (σ : SX) (v1 : Int32) (v2 : Int32) (v3 : Int32) (v4 : Int32) (v5 : Int64) (v7 : Int32) : Option (Int32 × SX) :=
  (if (3 : Int32) < v7 then
    some (v4, σ)
  else
    ((fX11_sixtiethsExpected σ v7 v1 v2 v3).bind (fun r1 =>
      (if v5 < r1.1 then
        fX11_bestDoing_b44 k11 r1.2 v1 v2 v3 v7 r1.1 v7
      else
        fX11_bestDoing_b44 k11 r1.2 v1 v2 v3 v4 v5 v7))))
def fX11_bestDoing_l11 : Nat → SX → Int32 → Int32 → Int32 → Int32 → Int64 → Int32 → Option (Int32 × SX)
  | 0, _, _, _, _, _, _, _ => none
  | n + 1, σ, v1, v2, v3, v4, v5, v7 => fX11_bestDoing_b11 (fX11_bestDoing_l11 n) σ v1 v2 v3 v4 v5 v7
def fX11_bestDoing (σ : SX) (v1 : Int32) (v2 : Int32) (v3 : Int32) : Option (Int32 × SX) :=
  fX11_bestDoing_l11 1000 σ v1 v2 v3 (0 : Int32) (-1 : Int64) (0 : Int32)
def fX11_next (σ : SX) (v1 : Int32) (v2 : Int32) (v3 : Int32) : Option (Int32 × SX) :=
  ((fX7_isRead σ).bind (fun r1 =>
    (if r1 = 0 then
      some ((-103 : Int32), σ)
    else
      ((fX11_isWithin v1 (5 : Int32)).bind (fun r2 =>
        (if r2 = 0 then
          some ((-102 : Int32), σ)
        else
          ((fX7_isFree σ v2).bind (fun r3 =>
            (if r3 = 0 then
              some ((-101 : Int32), σ)
            else
              ((fX11_isWithin v3 (10 : Int32)).bind (fun r4 =>
                (if r4 = 0 then
                  some ((-102 : Int32), σ)
                else
                  (if (7 : Int32) < (gx_od_updates σ) then
                    some ((-103 : Int32), σ)
                  else
                    ((fX11_bestDoing σ v1 v2 v3).bind (fun r5 =>
                      some (r5.1, r5.2))))))))))))))))
def fX11_post_b43 (σ : SX) : Option (Int64 × SX) :=
  some ((-1000000000000000002 : Int64), σ)
def fX11_post_b23 (σ : SX) : Option (Int64 × SX) :=
  some ((-1000000000000000001 : Int64), σ)
def fX11_post (σ : SX) (v1 : Int32) (v2 : Int32) (v3 : Int32) : Option (Int64 × SX) :=
  ((fX7_has σ v1).bind (fun r1 =>
    (if r1 = 0 then
      fX11_post_b23 σ
    else
      ((fX7_kindOf σ v1).bind (fun r2 =>
        (if r2 = (2 : Int32) then
          ((fX11_isWithin v2 (5 : Int32)).bind (fun r3 =>
            (if r3 = 0 then
              fX11_post_b43 σ
            else
              ((fX11_isWithin v3 (1 : Int32)).bind (fun r4 =>
                (if r4 = 0 then
                  fX11_post_b43 σ
                else
                  (if (7 : Int32) < (gx_od_updates σ) then
                    some ((-1000000000000000003 : Int64), σ)
                  else
                    ((fX4_foretellStep σ (0 : Int32) v2 (-1 : Int32)).bind (fun r5 =>
                      ((fX4_likeliestOfAll r5).bind (fun r6 =>
                        ((fX4_foretellStep r5 (0 : Int32) v2 v1).bind (fun r7 =>
                          ((fX4_likeliestOfAll r7).bind (fun r8 =>
                            ((fX4_total r7).bind (fun r9 =>
                              ((fX11_term (r6 - r8) ((10 : Int64) * r9) v3).bind (fun r10 =>
                                some (r10, r7))))))))))))))))))))
        else
          fX11_post_b23 σ))))))
def fX11_playerOf_b23 (σ : SX) (w0 : Option Nat) : Option (Option Nat) :=
  (ev_q w0
    (some (none))
    (fun a1 =>
    some ((some a1))))
def fX11_playerOf_b22 (σ : SX) : Option (Option Nat) :=
  fX11_playerOf_b23 σ none
def fX11_playerOf (σ : SX) (v1 : Int32) : Option (Option Nat) :=
  (if v1 < 0 then
    fX11_playerOf_b22 σ
  else
    (if v1 < (6 : Int32) then
      (if ¬ (v1 < 0 ∨ 6 ≤ v1.toNatClampNeg) then
        fX11_playerOf_b23 σ ((gx_pl_arr σ) v1.toNatClampNeg)
      else none)
    else
      fX11_playerOf_b22 σ))
def fX11_isOfKind (σ : SX) (v0 : Nat) (v1 : Int32) : Option (Int32) :=
  (if v1 = (1 : Int32) then
    (if gx_pok σ v0 = true then
      (if (ox_ins [(0, 0), (1, 0), (2, 0), (6, 0), (9, 1), (10, 1)] (gx_pl_kd σ (v0 - 20))) = 0 ∨ (ox_ins [(0, 0), (1, 0), (2, 0), (6, 0), (9, 1), (10, 1)] (gx_pl_kd σ (v0 - 20))) = 1 then some ((ox_ins [(0, 0), (1, 0), (2, 0), (6, 0), (9, 1), (10, 1)] (gx_pl_kd σ (v0 - 20)))) else none)
    else none)
  else (if v1 = (2 : Int32) then
    (if gx_pok σ v0 = true then
      (if (ox_ins [(0, 0), (1, 0), (2, 0), (6, 0), (9, 0), (10, 1)] (gx_pl_kd σ (v0 - 20))) = 0 ∨ (ox_ins [(0, 0), (1, 0), (2, 0), (6, 0), (9, 0), (10, 1)] (gx_pl_kd σ (v0 - 20))) = 1 then some ((ox_ins [(0, 0), (1, 0), (2, 0), (6, 0), (9, 0), (10, 1)] (gx_pl_kd σ (v0 - 20)))) else none)
    else none)
  else (if v1 = (3 : Int32) then
    (if gx_pok σ v0 = true then
      (if (ox_ins [(0, 0), (1, 1), (2, 1), (6, 0), (9, 0), (10, 0)] (gx_pl_kd σ (v0 - 20))) = 0 ∨ (ox_ins [(0, 0), (1, 1), (2, 1), (6, 0), (9, 0), (10, 0)] (gx_pl_kd σ (v0 - 20))) = 1 then some ((ox_ins [(0, 0), (1, 1), (2, 1), (6, 0), (9, 0), (10, 0)] (gx_pl_kd σ (v0 - 20)))) else none)
    else none)
  else (if v1 = (4 : Int32) then
    (if gx_pok σ v0 = true then
      (if (ox_ins [(0, 0), (1, 0), (2, 1), (6, 0), (9, 0), (10, 0)] (gx_pl_kd σ (v0 - 20))) = 0 ∨ (ox_ins [(0, 0), (1, 0), (2, 1), (6, 0), (9, 0), (10, 0)] (gx_pl_kd σ (v0 - 20))) = 1 then some ((ox_ins [(0, 0), (1, 0), (2, 1), (6, 0), (9, 0), (10, 0)] (gx_pl_kd σ (v0 - 20)))) else none)
    else none)
  else (if v1 = (5 : Int32) then
    (if gx_pok σ v0 = true then
      (if (ox_ins [(0, 1), (1, 0), (2, 0), (6, 0), (9, 0), (10, 0)] (gx_pl_kd σ (v0 - 20))) = 0 ∨ (ox_ins [(0, 1), (1, 0), (2, 0), (6, 0), (9, 0), (10, 0)] (gx_pl_kd σ (v0 - 20))) = 1 then some ((ox_ins [(0, 1), (1, 0), (2, 0), (6, 0), (9, 0), (10, 0)] (gx_pl_kd σ (v0 - 20)))) else none)
    else none)
  else some ((1 : Int32)))))))
def fX11_as_b37 (σ : SX) (w0 : Int32) : Option (Int32) :=
  some (w0)
def fX11_as (σ : SX) (v1 : Int32) (v2 : Int32) : Option (Int32) :=
  ((fX11_playerOf σ v1).bind (fun r1 =>
    (ev_q r1
      (some ((-101 : Int32)))
      (fun a2 =>
      ((fX11_isWithin v2 (5 : Int32)).bind (fun r3 =>
        (if r3 = 0 then
          some ((-102 : Int32))
        else
          ((fX11_isOfKind σ a2 v2).bind (fun r4 =>
            (if r4 = 0 then
              fX11_as_b37 σ (-1 : Int32)
            else
              fX11_as_b37 σ v1))))))))))
def fX11_about_b31 (σ : SX) (w0 : Int32) : Option (Int32) :=
  some (w0)
def fX11_about (σ : SX) (v1 : Int32) (v2 : Int32) : Option (Int32) :=
  ((fX11_playerOf σ v1).bind (fun r1 =>
    (ev_q r1
      (some ((-101 : Int32)))
      (fun a2 =>
      ((fX11_isWithin v2 (4 : Int32)).bind (fun r3 =>
        (if r3 = 0 then
          fX11_about_b31 σ (-102 : Int32)
        else
          (if gx_pok σ a2 = true then
            ((fX6_detail σ a2 v2).bind (fun r4 =>
            fX11_about_b31 σ r4))
          else none))))))))
def fX11_move_b21 (σ : SX) : Option (Int32 × SX) :=
  some ((-101 : Int32), σ)
def fX11_move (σ : SX) (v1 : Int32) (v2 : Int32) : Option (Int32 × SX) :=
  ((fX11_playerOf σ v1).bind (fun r1 =>
    (ev_q r1
      (fX11_move_b21 σ)
      (fun a2 =>
      ((fX7_isFree σ v2).bind (fun r3 =>
        (if r3 = 0 then
          fX11_move_b21 σ
        else
          (if gx_pok σ a2 = true then
            (if gx_pok σ a2 = true then
              some (((gx_pl_told σ) (a2 - 20)), (sx_pl_told σ (upd (gx_pl_told σ) (a2 - 20) v2)))
            else none)
          else none))))))))
def fX11_mayStart_b32 (w0 : Int32) : Option (Int32) :=
  (if w0 = 0 ∨ w0 = 1 then some (w0) else none)
def fX11_mayStart_b31 : Option (Int32) :=
  fX11_mayStart_b32 (0 : Int32)
def fX11_mayStart (v0 : Int32) (v1 : Int32) (v2 : Int32) (v3 : Int32) : Option (Int32) :=
  ((fX11_isWithin v0 (3 : Int32)).bind (fun r1 =>
    (if r1 = 0 then
      fX11_mayStart_b31
    else
      ((fX11_isWithin v1 (9 : Int32)).bind (fun r2 =>
        (if r2 = 0 then
          fX11_mayStart_b31
        else
          (if v2 < (1 : Int32) then
            fX11_mayStart_b31
          else
            (if v3 < v2 then
              fX11_mayStart_b31
            else
              fX11_mayStart_b32 (1 : Int32)))))))))
def fX11_game_b41 (σ : SX) : Option (Int32 × SX) :=
  some ((-102 : Int32), σ)
def fX11_game (σ : SX) (v1 : Int32) (v2 : Int32) (v3 : Int32) (v4 : Int32) (v5 : Int32) (v6 : Int32) : Option (Int32 × SX) :=
  ((fX7_isFree σ v1).bind (fun r1 =>
    (if r1 = 0 then
      some ((-101 : Int32), σ)
    else
      ((fX11_mayStart v2 v3 v5 (200 : Int32)).bind (fun r2 =>
        (if r2 = 0 then
          fX11_game_b41 σ
        else
          (if v4 < 0 then
            fX11_game_b41 σ
          else
            ((fX11_isWithin v6 (3 : Int32)).bind (fun r3 =>
              (if r3 = 0 then
                fX11_game_b41 σ
              else
                ((fX8_begin σ v1 v2 v3 v5).bind (fun r4 =>
                  ((fX8_play r4 v4).bind (fun r5 =>
                    ((fX8_outcome r5 v6).bind (fun r6 =>
                      some (r6, r5)))))))))))))))))
def fX11_lasts_b40 (σ : SX) : Option (Int32 × SX) :=
  some ((-102 : Int32), σ)
def fX11_lasts (σ : SX) (v1 : Int32) (v2 : Int32) (v3 : Int32) (v4 : Int32) (v5 : Int32) : Option (Int32 × SX) :=
  ((fX7_isFree σ v1).bind (fun r1 =>
    (if r1 = 0 then
      some ((-101 : Int32), σ)
    else
      ((fX11_mayStart v2 v3 v4 (200 : Int32)).bind (fun r2 =>
        (if r2 = 0 then
          fX11_lasts_b40 σ
        else
          (if v5 < (1 : Int32) then
            fX11_lasts_b40 σ
          else
            (if (20 : Int32) < v5 then
              fX11_lasts_b40 σ
            else
              ((fX8_begin σ v1 v2 v3 v4).bind (fun r3 =>
                ((fX8_seedsThatTouch r3 (-1 : Int32) v5 v5).bind (fun r4 =>
                  some (r4.1, r4.2)))))))))))))
def fX11_stand_b190 (σ : SX) (v7 : Nat) (v8 : Int32) (v9 : Int32) : Option (Int32 × SX) :=
  (if gx_pok σ v7 = true then
    some (v9, (sx_pl_told σ (upd (gx_pl_told σ) (v7 - 20) v8)))
  else none)
def fX11_stand_b184 (k109 : SX → Int32 → Int32 → Nat → Int32 → Int32 → Int32 → Int32 → Option (Int32 × SX)) (σ : SX) (v1 : Int32) (v6 : Int32) (v7 : Nat) (v8 : Int32) (v9 : Int32) (v10 : Int32) (v11 : Int32) : Option (Int32 × SX) :=
  k109 σ v1 v6 v7 v8 v9 v10 (v11 + (1 : Int32))
def fX11_stand_b173 (k109 : SX → Int32 → Int32 → Nat → Int32 → Int32 → Int32 → Int32 → Option (Int32 × SX)) (σ : SX) (v1 : Int32) (v6 : Int32) (v7 : Nat) (v8 : Int32) (v10 : Int32) (v11 : Int32) (v12 : Int32) (w0 : Int32) : Option (Int32 × SX) :=
  fX11_stand_b184 k109 σ v1 v6 v7 v8 w0 (if v10 < v12 then v10 else v12) v11
def fX11_stand_b109 (k109 : SX → Int32 → Int32 → Nat → Int32 → Int32 → Int32 → Int32 → Option (Int32 × SX)) (σ : SX) (v1 : Int32) (v6 : Int32) (v7 : Nat) (v8 : Int32) (v9 : Int32) (v10 : Int32) (v11 : Int32) : Option (Int32 × SX) :=
  (if v11 < (gx_rg_size σ) then
    (if 0 < v10 then
      ((fX7_isFree σ v11).bind (fun r6 =>
        (if r6 = 0 then
          fX11_stand_b184 k109 σ v1 v6 v7 v8 v9 v10 v11
        else
          (if gx_pok σ v7 = true then
            ((fX8_seedsThatTouch (sx_pl_told σ (upd (gx_pl_told σ) (v7 - 20) v11)) v1 v6 v10).bind (fun r7 =>
              (if r7.1 < v10 then
                fX11_stand_b173 k109 r7.2 v1 v6 v7 v8 v10 v11 r7.1 v11
              else
                fX11_stand_b173 k109 r7.2 v1 v6 v7 v8 v10 v11 r7.1 v9)))
          else none))))
    else
      fX11_stand_b190 σ v7 v8 v9)
  else
    fX11_stand_b190 σ v7 v8 v9)
def fX11_stand_l109 : Nat → SX → Int32 → Int32 → Nat → Int32 → Int32 → Int32 → Int32 → Option (Int32 × SX)
  | 0, _, _, _, _, _, _, _, _ => none
  | n + 1, σ, v1, v6, v7, v8, v9, v10, v11 => fX11_stand_b109 (fX11_stand_l109 n) σ v1 v6 v7 v8 v9 v10 v11
def fX11_stand_b52 (σ : SX) : Option (Int32 × SX) :=
  some ((-102 : Int32), σ)
def fX11_stand_b23 (σ : SX) : Option (Int32 × SX) :=
  some ((-101 : Int32), σ)
def fX11_stand (σ : SX) (v1 : Int32) (v2 : Int32) (v3 : Int32) (v4 : Int32) (v5 : Int32) (v6 : Int32) : Option (Int32 × SX) :=
  ((fX11_playerOf σ v1).bind (fun r1 =>
    (ev_q r1
      (fX11_stand_b23 σ)
      (fun a2 =>
      ((fX7_isFree σ v2).bind (fun r3 =>
        (if r3 = 0 then
          fX11_stand_b23 σ
        else
          ((fX11_mayStart v3 v4 v5 (50 : Int32)).bind (fun r4 =>
            (if r4 = 0 then
              fX11_stand_b52 σ
            else
              (if v6 < (1 : Int32) then
                fX11_stand_b52 σ
              else
                (if (9 : Int32) < v6 then
                  fX11_stand_b52 σ
                else
                  (if (gx_tp_standsDone σ) < (20 : Int32) then
                    ((fX8_begin (sx_tp_standsDone σ ((gx_tp_standsDone σ) + (1 : Int32))) v2 v3 v4 v5).bind (fun r5 =>
                      (if gx_pok r5 a2 = true then
                        fX11_stand_l109 1000 r5 v1 v6 a2 ((gx_pl_told r5) (a2 - 20)) (-1 : Int32) (v6 + (1 : Int32)) (0 : Int32)
                      else none)))
                  else
                    some ((-103 : Int32), σ))))))))))))))
def fX11_feels_b26 (σ : SX) : Option (Int32 × SX) :=
  some ((-102 : Int32), σ)
def fX11_feels (σ : SX) (v1 : Int32) (v2 : Int32) (v3 : Int32) : Option (Int32 × SX) :=
  ((fX11_isWithin v1 (5 : Int32)).bind (fun r1 =>
    (if r1 = 0 then
      fX11_feels_b26 σ
    else
      ((fX11_isWithin v2 (10 : Int32)).bind (fun r2 =>
        (if r2 = 0 then
          fX11_feels_b26 σ
        else
          ((fX11_isWithin v3 (10 : Int32)).bind (fun r3 =>
            (if r3 = 0 then
              fX11_feels_b26 σ
            else
              some ((1 : Int32), (sx_nm_giggleRight (sx_nm_clothRight (sx_nm_sizeOff σ v1) v2) v3)))))))))))
def fX11_jackets_b21 (σ : SX) : Option (Int32 × SX) :=
  some ((-101 : Int32), σ)
def fX11_jackets (σ : SX) (v1 : Int32) (v2 : Int32) (v3 : Int32) : Option (Int32 × SX) :=
  ((fX11_playerOf σ v1).bind (fun r1 =>
    (ev_q r1
      (fX11_jackets_b21 σ)
      (fun a2 =>
      ((fX11_playerOf σ v2).bind (fun r3 =>
        (ev_q r3
          (fX11_jackets_b21 σ)
          (fun a4 =>
          (if v1 = v2 then
            fX11_jackets_b21 σ
          else
            ((fX11_isWithin v3 (10 : Int32)).bind (fun r5 =>
              (if r5 = 0 then
                some ((-102 : Int32), σ)
              else
                ((fX3_changeJackets σ v1 v2 v3).bind (fun r6 =>
                  some ((1 : Int32), r6)))))))))))))))
def fX11_couldBeFelt_b30 (w0 : Int32) : Option (Int32) :=
  (if w0 = 0 ∨ w0 = 1 then some (w0) else none)
def fX11_couldBeFelt_b29 : Option (Int32) :=
  fX11_couldBeFelt_b30 (0 : Int32)
def fX11_couldBeFelt (v0 : Int32) (v1 : Int32) (v2 : Int32) : Option (Int32) :=
  ((fX11_isWithin v0 (9 : Int32)).bind (fun r1 =>
    (if r1 = 0 then
      fX11_couldBeFelt_b29
    else
      ((fX11_isWithin v1 (4 : Int32)).bind (fun r2 =>
        (if r2 = 0 then
          fX11_couldBeFelt_b29
        else
          ((fX11_isWithin v2 (4 : Int32)).bind (fun r3 =>
            (if r3 = 0 then
              fX11_couldBeFelt_b29
            else
              fX11_couldBeFelt_b30 (1 : Int32))))))))))
def fX11_named_b80 (σ : SX) (w0 : Int32) : Option (Int32 × SX) :=
  some (w0, σ)
def fX11_named_b30 (σ : SX) : Option (Int32 × SX) :=
  some ((-102 : Int32), σ)
def fX11_named (σ : SX) (v1 : Int32) (v2 : Int32) (v3 : Int32) (v4 : Int32) (v5 : Int32) : Option (Int32 × SX) :=
  ((fX11_playerOf σ v1).bind (fun r1 =>
    (ev_q r1
      (some ((-101 : Int32), σ))
      (fun a2 =>
      ((fX11_couldBeFelt v2 v3 v4).bind (fun r3 =>
        (if r3 = 0 then
          fX11_named_b30 σ
        else
          ((fX11_isWithin v5 (1 : Int32)).bind (fun r4 =>
            (if r4 = 0 then
              fX11_named_b30 σ
            else
              ((fX3_weigh σ v2 v3 v4).bind (fun r5 =>
                ((fX3_total r5).bind (fun r6 =>
                  (if r6 = (0 : Int64) then
                    fX11_named_b80 r5 (-1 : Int32)
                  else
                    ((fX3_weightOf r5 v1).bind (fun r7 =>
                      ((fX11_term r7 r6 v5).bind (fun r8 =>
                        fX11_named_b80 r5 r8.toInt32)))))))))))))))))))
def fX11_says (σ : SX) (v1 : Int32) (v2 : Int32) (v3 : Int32) : Option (Int32 × SX) :=
  ((fX11_couldBeFelt v1 v2 v3).bind (fun r1 =>
    (if r1 = 0 then
      some ((-102 : Int32), σ)
    else
      ((fX3_weigh σ v1 v2 v3).bind (fun r2 =>
        ((fX3_likeliestPlayer r2).bind (fun r3 =>
          some (r3, r2))))))))
def fX11_when_b91 (σ : SX) (w0 : Int32) : Option (Int32 × SX) :=
  some (w0, σ)
def fX11_when_b29 (σ : SX) : Option (Int32 × SX) :=
  some ((-102 : Int32), σ)
def fX11_when (σ : SX) (v1 : Int32) (v2 : Int32) (v3 : Int32) (v4 : Int32) (v5 : Int32) : Option (Int32 × SX) :=
  ((fX11_couldBeFelt v1 v2 v3).bind (fun r1 =>
    (if r1 = 0 then
      fX11_when_b29 σ
    else
      ((fX11_isWithin v4 (99 : Int32)).bind (fun r2 =>
        (if r2 = 0 then
          fX11_when_b29 σ
        else
          ((fX11_isWithin v5 (99 : Int32)).bind (fun r3 =>
            (if r3 = 0 then
              fX11_when_b29 σ
            else
              ((fX3_weigh σ v1 v2 v3).bind (fun r4 =>
                ((fX3_likeliestPlayer r4).bind (fun r5 =>
                  ((fX3_weightOf r4 r5).bind (fun r6 =>
                    ((fX3_total r4).bind (fun r7 =>
                      (if (v5.toInt64 * (r7 - r6)) < (v4.toInt64 * r6) then
                        fX11_when_b91 r4 (1 : Int32)
                      else
                        fX11_when_b91 r4 (0 : Int32)))))))))))))))))))
def fX11_image_b62 (k37 : SX → Int32 → Option (Int32 × SX)) (σ : SX) (v3 : Int32) : Option (Int32 × SX) :=
  k37 σ (v3 + (1 : Int32))
def fX11_image_b37 (k37 : SX → Int32 → Option (Int32 × SX)) (σ : SX) (v3 : Int32) : Option (Int32 × SX) :=
  (if v3 < (6 : Int32) then
    (if ¬ (v3 < 0 ∨ 6 ≤ v3.toNatClampNeg) then
      (ev_q ((gx_pl_arr σ) v3.toNatClampNeg)
        (fX11_image_b62 k37 σ v3)
        (fun a4 =>
        (if gx_pok σ a4 = true then
          (if gx_pok σ a4 = true then
            fX11_image_b62 k37 (sx_pl_kept σ (upd (gx_pl_kept σ) (a4 - 20) ((gx_pl_told σ) (a4 - 20)))) v3
          else none)
        else none)))
    else none)
  else
    some ((gx_tp_playing σ), (sx_tp_imageKept σ (1 : Int32))))
def fX11_image_l37 : Nat → SX → Int32 → Option (Int32 × SX)
  | 0, _, _ => none
  | n + 1, σ, v3 => fX11_image_b37 (fX11_image_l37 n) σ v3
def fX11_image (σ : SX) : Option (Int32 × SX) :=
  ((fX7_isRead σ).bind (fun r1 =>
    (if r1 = 0 then
      some ((-103 : Int32), σ)
    else
      ((fX4_keep σ).bind (fun r2 =>
        ((fX3_keep r2).bind (fun r3 =>
          fX11_image_l37 1000 r3 (0 : Int32))))))))
def fX11_restore_b68 (k34 : SX → Int32 → Option (Int32 × SX)) (σ : SX) (v3 : Int32) : Option (Int32 × SX) :=
  k34 σ (v3 + (1 : Int32))
def fX11_restore_b34 (k34 : SX → Int32 → Option (Int32 × SX)) (σ : SX) (v3 : Int32) : Option (Int32 × SX) :=
  (if v3 < (6 : Int32) then
    (if ¬ (v3 < 0 ∨ 6 ≤ v3.toNatClampNeg) then
      (ev_q ((gx_pl_arr σ) v3.toNatClampNeg)
        (fX11_restore_b68 k34 σ v3)
        (fun a3 =>
        (if gx_pok σ a3 = true then
          (if ((gx_pl_kept σ) (a3 - 20)) = (-1 : Int32) then
            fX11_restore_b68 k34 σ v3
          else
            (if gx_pok σ a3 = true then
              (if gx_pok σ a3 = true then
                fX11_restore_b68 k34 (sx_pl_told σ (upd (gx_pl_told σ) (a3 - 20) ((gx_pl_kept σ) (a3 - 20)))) v3
              else none)
            else none))
        else none)))
    else none)
  else
    some ((gx_tp_playing σ), σ))
def fX11_restore_l34 : Nat → SX → Int32 → Option (Int32 × SX)
  | 0, _, _ => none
  | n + 1, σ, v3 => fX11_restore_b34 (fX11_restore_l34 n) σ v3
def fX11_restore (σ : SX) : Option (Int32 × SX) :=
  (if (gx_tp_imageKept σ) = 0 then
    some ((-103 : Int32), σ)
  else
    ((fX4_takeKept σ).bind (fun r1 =>
      ((fX3_takeKept r1).bind (fun r2 =>
        fX11_restore_l34 1000 r2 (0 : Int32))))))
def fX11_count (σ : SX) (v1 : Int32) : Option (Int32) :=
  (if v1 = (0 : Int32) then
    some ((gx_rg_size σ))
  else (if v1 = (1 : Int32) then
    some ((gx_rg_free σ))
  else (if v1 = (2 : Int32) then
    some ((gx_tp_playing σ))
  else (if v1 = (3 : Int32) then
    some ((gx_od_updates σ))
  else (if v1 = (4 : Int32) then
    ((fX4_aboveNought σ).bind (fun r1 =>
      some (r1)))
  else (if v1 = (5 : Int32) then
    some ((gx_pg_length σ))
  else (if v1 = (6 : Int32) then
    some ((gx_tp_ringsRead σ))
  else (if v1 = (7 : Int32) then
    some ((gx_tp_standsDone σ))
  else some ((-102 : Int32))))))))))
def fX11_digest_b161 (k161 : SX → Int64 → Int32 → Option (Int64 × SX)) (σ : SX) (v1 : Int64) (v3 : Int32) : Option (Int64 × SX) :=
  (if (7 : Int32) < v3 then
    some (v1, σ)
  else
    ((fX11_count σ v3).bind (fun r3 =>
      ((fX11_mixed v1 r3.toInt64).bind (fun r4 =>
        k161 σ r4 (v3 + (1 : Int32)))))))
def fX11_digest_l161 : Nat → SX → Int64 → Int32 → Option (Int64 × SX)
  | 0, _, _, _ => none
  | n + 1, σ, v1, v3 => fX11_digest_b161 (fX11_digest_l161 n) σ v1 v3
def fX11_digest_b150 (σ : SX) (v1 : Int64) : Option (Int64 × SX) :=
  ((fX5_mixInto σ v1).bind (fun r5 =>
    fX11_digest_l161 1000 σ r5 (0 : Int32)))
def fX11_digest_b76 (k30 : SX → Int64 → Int32 → Option (Int64 × SX)) (σ : SX) (v1 : Int64) (v5 : Int32) : Option (Int64 × SX) :=
  k30 σ v1 (v5 + (1 : Int32))
def fX11_digest_b46 (k30 : SX → Int64 → Int32 → Option (Int64 × SX)) (k46 : SX → Int64 → Int32 → (Option Nat) → Int32 → Option (Int64 × SX)) (σ : SX) (v1 : Int64) (v5 : Int32) (v6 : Option Nat) (v7 : Int32) : Option (Int64 × SX) :=
  (ev_q v6
    (fX11_digest_b76 k30 σ v1 v5)
    (fun a6 =>
    (if (4 : Int32) < v7 then
      fX11_digest_b76 k30 σ v1 v5
    else
      (if gx_pok σ a6 = true then
        ((fX6_detail σ a6 v7).bind (fun r7 =>
        ((fX11_mixed v1 r7.toInt64).bind (fun r8 =>
          k46 σ r8 v5 (some a6) (v7 + (1 : Int32))))))
      else none))))
def fX11_digest_l46 (k30 : SX → Int64 → Int32 → Option (Int64 × SX)) : Nat → SX → Int64 → Int32 → (Option Nat) → Int32 → Option (Int64 × SX)
  | 0, _, _, _, _, _ => none
  | n + 1, σ, v1, v5, v6, v7 => fX11_digest_b46 k30 (fX11_digest_l46 k30 n) σ v1 v5 v6 v7
def fX11_digest_b30 (k30 : SX → Int64 → Int32 → Option (Int64 × SX)) (σ : SX) (v1 : Int64) (v5 : Int32) : Option (Int64 × SX) :=
  (if v5 < (6 : Int32) then
    (if ¬ (v5 < 0 ∨ 6 ≤ v5.toNatClampNeg) then
      (ev_q ((gx_pl_arr σ) v5.toNatClampNeg)
        (fX11_digest_l46 k30 1000 σ v1 v5 none (0 : Int32))
        (fun a9 =>
        fX11_digest_l46 k30 1000 σ v1 v5 (some a9) (0 : Int32)))
    else none)
  else
    ((fX3_mixInto σ v1).bind (fun r10 =>
      (if 0 < (gx_tp_playing σ) then
        ((fX7_firstFree σ).bind (fun r11 =>
          ((fX8_begin σ r11 (0 : Int32) (2 : Int32) (20 : Int32)).bind (fun r12 =>
            ((fX8_play r12 (1 : Int32)).bind (fun r13 =>
              ((fX8_outcome r13 (0 : Int32)).bind (fun r14 =>
                ((fX11_mixed r10 r14.toInt64).bind (fun r15 =>
                  ((fX8_outcome r13 (1 : Int32)).bind (fun r16 =>
                    ((fX11_mixed r15 r16.toInt64).bind (fun r17 =>
                      fX11_digest_b150 r13 r17))))))))))))))
      else
        fX11_digest_b150 σ r10))))
def fX11_digest_l30 : Nat → SX → Int64 → Int32 → Option (Int64 × SX)
  | 0, _, _, _ => none
  | n + 1, σ, v1, v5 => fX11_digest_b30 (fX11_digest_l30 n) σ v1 v5
def fX11_digest (σ : SX) : Option (Int64 × SX) :=
  ((fX7_mixInto σ (457 : Int64)).bind (fun r1 =>
    ((fX4_mixInto σ r1).bind (fun r2 =>
      fX11_digest_l30 1000 σ r2 (0 : Int32)))))
def fX12_within_b15 (w0 : Int32) : Option (Int32) :=
  (if w0 = 0 ∨ w0 = 1 then some (w0) else none)
def fX12_within_b14 : Option (Int32) :=
  fX12_within_b15 (0 : Int32)
def fX12_within (v0 : Int32) (v1 : Int32) (v2 : Int32) : Option (Int32) :=
  (if v0 < v1 then
    fX12_within_b14
  else
    (if v2 < v0 then
      fX12_within_b14
    else
      fX12_within_b15 (1 : Int32)))
def fX12_size_b10 (w0 : Int32) : Option (Int32) :=
  some (w0)
def fX12_size (v0 : Int32) : Option (Int32) :=
  (if v0 < 0 then
    fX12_size_b10 (-v0)
  else
    fX12_size_b10 v0)
def fX12_divisor_b17 (k17 : Int64 → Int64 → Option (Int64)) (v4 : Int64) (v6 : Int64) : Option (Int64) :=
  (if v6 = (0 : Int64) then
    some (v4)
  else
    (if ¬ v6 = 0 then
      k17 v6 (v4 - v4 / v6 * v6)
    else none))
def fX12_divisor_l17 : Nat → Int64 → Int64 → Option (Int64)
  | 0, _, _ => none
  | n + 1, v4, v6 => fX12_divisor_b17 (fX12_divisor_l17 n) v4 v6
def fX12_divisor_b12 (v2 : Int64) (w0 : Int64) : Option (Int64) :=
  fX12_divisor_l17 1000 w0 v2
def fX12_divisor (v0 : Int64) (v2 : Int64) : Option (Int64) :=
  (if v0 < (0 : Int64) then
    fX12_divisor_b12 v2 (-v0)
  else
    fX12_divisor_b12 v2 v0)
def fX12_lowest_b23 (w0 : Int64) : Option (Int64) :=
  some (w0)
def fX12_lowest (v0 : Int64) (v2 : Int64) (v4 : Int32) : Option (Int64) :=
  ((fX12_divisor v0 v2).bind (fun r1 =>
    (if v4 = 0 then
      (if ¬ r1 = 0 then
        fX12_lowest_b23 (v0 / r1)
      else none)
    else
      (if ¬ r1 = 0 then
        fX12_lowest_b23 (v2 / r1)
      else none))))
def fX12_letters_b102 (k102 : SM → Int64 → Int32 → Int32 → Option (Int32 × SM)) (σ : SM) (v1 : Int64) (v3 : Int32) (v5 : Int32) : Option (Int32 × SM) :=
  (if v5 < v3 then
    (if ¬ (((gm_pg_pageLength σ) + v5) < 0 ∨ 45 ≤ ((gm_pg_pageLength σ) + v5).toNatClampNeg) then
      k102 (sm_pg_page σ (upd (gm_pg_page σ) ((gm_pg_pageLength σ) + v5).toNatClampNeg (vp_nar .byte (v1 >>> (((8 : Int32) * v5).toInt64 &&& 63)).toInt32.toInt8.toInt32))) v1 v3 (v5 + (1 : Int32))
    else none)
  else
    some (((gm_pg_pageLength σ) + v3), (sm_pg_pageLength σ ((gm_pg_pageLength σ) + v3))))
def fX12_letters_l102 : Nat → SM → Int64 → Int32 → Int32 → Option (Int32 × SM)
  | 0, _, _, _, _ => none
  | n + 1, σ, v1, v3, v5 => fX12_letters_b102 (fX12_letters_l102 n) σ v1 v3 v5
def fX12_letters_b77 (k8 : SM → Int64 → Int32 → Int32 → Int32 → Option (Int32 × SM)) (σ : SM) (v1 : Int64) (v4 : Int32) (v5 : Int32) (w0 : Int32) (w1 : Int32) : Option (Int32 × SM) :=
  k8 σ v1 (w1 + w0) v4 (v5 + (1 : Int32))
def fX12_letters_b64 (k8 : SM → Int64 → Int32 → Int32 → Int32 → Option (Int32 × SM)) (σ : SM) (v1 : Int64) (v3 : Int32) (v5 : Int32) (v6 : Int32) (w0 : Int32) : Option (Int32 × SM) :=
  (if v6 = 0 then
    fX12_letters_b77 k8 σ v1 w0 v5 (0 : Int32) v3
  else
    fX12_letters_b77 k8 σ v1 w0 v5 (1 : Int32) v3)
def fX12_letters_b59 (k8 : SM → Int64 → Int32 → Int32 → Int32 → Option (Int32 × SM)) (σ : SM) (v1 : Int64) (v3 : Int32) (v5 : Int32) (v6 : Int32) : Option (Int32 × SM) :=
  fX12_letters_b64 k8 σ v1 v3 v5 v6 (1 : Int32)
def fX12_letters_b49 (k8 : SM → Int64 → Int32 → Int32 → Int32 → Option (Int32 × SM)) (σ : SM) (v1 : Int64) (v3 : Int32) (v4 : Int32) (v5 : Int32) (v6 : Int32) : Option (Int32 × SM) :=
  (if v4 = 0 then
    (if v6 = 0 then
      fX12_letters_b59 k8 σ v1 v3 v5 v6
    else
      fX12_letters_b64 k8 σ v1 v3 v5 v6 (0 : Int32))
  else
    fX12_letters_b59 k8 σ v1 v3 v5 v6)
def fX12_letters_b46 (σ : SM) : Option (Int32 × SM) :=
  some ((-102 : Int32), σ)
def fX12_letters_b8 (k8 : SM → Int64 → Int32 → Int32 → Int32 → Option (Int32 × SM)) (σ : SM) (v1 : Int64) (v3 : Int32) (v4 : Int32) (v5 : Int32) : Option (Int32 × SM) :=
  (if v5 < (8 : Int32) then
    (if (126 : Int32) < ((v1 >>> (((8 : Int32) * v5).toInt64 &&& 63)) &&& (255 : Int64)).toInt32 then
      fX12_letters_b46 σ
    else
      (if v4 = 0 then
        fX12_letters_b49 k8 σ v1 v3 v4 v5 (((v1 >>> (((8 : Int32) * v5).toInt64 &&& 63)) &&& (255 : Int64)).toInt32)
      else
        (if ((v1 >>> (((8 : Int32) * v5).toInt64 &&& 63)) &&& (255 : Int64)).toInt32 = 0 then
          fX12_letters_b49 k8 σ v1 v3 v4 v5 (((v1 >>> (((8 : Int32) * v5).toInt64 &&& 63)) &&& (255 : Int64)).toInt32)
        else
          fX12_letters_b46 σ)))
  else
    (if (45 : Int32) < ((gm_pg_pageLength σ) + v3) then
      some ((-104 : Int32), σ)
    else
      fX12_letters_l102 1000 σ v1 v3 (0 : Int32)))
def fX12_letters_l8 : Nat → SM → Int64 → Int32 → Int32 → Int32 → Option (Int32 × SM)
  | 0, _, _, _, _, _ => none
  | n + 1, σ, v1, v3, v4, v5 => fX12_letters_b8 (fX12_letters_l8 n) σ v1 v3 v4 v5
def fX12_letters (σ : SM) (v1 : Int64) : Option (Int32 × SM) :=
  fX12_letters_l8 1000 σ v1 (0 : Int32) (0 : Int32) (0 : Int32)
def fX12_blank (σ : SM) : Option (Int32 × SM) :=
  some ((gm_pg_pageLength σ), (sm_pg_pageLength σ (0 : Int32)))
def fX12_sortOf_b41 (w0 : Int32) : Option (Int32) :=
  some (w0)
def fX12_sortOf (v0 : Int32) : Option (Int32) :=
  (if v0 = (46 : Int32) then
    fX12_sortOf_b41 (0 : Int32)
  else
    (if v0 = (98 : Int32) then
      fX12_sortOf_b41 (1 : Int32)
    else
      (if v0 = (112 : Int32) then
        fX12_sortOf_b41 (2 : Int32)
      else
        (if v0 = (120 : Int32) then
          fX12_sortOf_b41 (3 : Int32)
        else
          fX12_sortOf_b41 (-1 : Int32)))))
def fX12_readPage_b206 (σ : SM) (w0 : Int32) : Option (SM) :=
  (if w0 = 0 ∨ w0 = 1 then
    some ((sm_rp_isWhole σ w0))
  else none)
def fX12_readPage_b205 (σ : SM) : Option (SM) :=
  fX12_readPage_b206 σ (0 : Int32)
def fX12_readPage_b172 (σ : SM) (v1 : Int32) (v2 : Int32) : Option (SM) :=
  (if v2 = (gm_pg_pageLength σ) then
    (if 0 < (gm_rp_newRows σ) then
      (if v1 = (gm_rp_newColumns σ) then
        fX12_readPage_b206 (sm_rp_faultAt σ v2) (1 : Int32)
      else
        fX12_readPage_b205 (sm_rp_faultAt σ v2))
    else
      fX12_readPage_b205 (sm_rp_faultAt σ v2))
  else
    fX12_readPage_b205 (sm_rp_faultAt σ v2))
def fX12_readPage_b167 (k16 : SM → Int32 → Int32 → Int32 → Option (SM)) (σ : SM) (v1 : Int32) (v3 : Int32) (w0 : Int32) (w1 : Int32) : Option (SM) :=
  k16 σ v1 (w1 + w0) v3
def fX12_readPage_b157 (k16 : SM → Int32 → Int32 → Int32 → Option (SM)) (σ : SM) (v1 : Int32) (v2 : Int32) (v3 : Int32) : Option (SM) :=
  (if v3 = 0 then
    fX12_readPage_b167 k16 σ v1 v3 (0 : Int32) v2
  else
    fX12_readPage_b167 k16 σ v1 v3 (1 : Int32) v2)
def fX12_readPage_b155 (k16 : SM → Int32 → Int32 → Int32 → Option (SM)) (σ : SM) (v1 : Int32) (v2 : Int32) : Option (SM) :=
  fX12_readPage_b157 k16 σ v1 v2 (0 : Int32)
def fX12_readPage_b135 (k16 : SM → Int32 → Int32 → Int32 → Option (SM)) (σ : SM) (v1 : Int32) (v2 : Int32) (v3 : Int32) : Option (SM) :=
  fX12_readPage_b157 k16 (sm_rp_newRows (sm_rp_newColumns σ v1) ((gm_rp_newRows σ) + (1 : Int32))) (0 : Int32) v2 v3
def fX12_readPage_b93 (k16 : SM → Int32 → Int32 → Int32 → Option (SM)) (σ : SM) (v1 : Int32) (v2 : Int32) (v3 : Int32) : Option (SM) :=
  (if ¬ (v2 < 0 ∨ 45 ≤ v2.toNatClampNeg) then
    (if ((gm_pg_page σ) v2.toNatClampNeg) = (47 : Int32) then
      (if (gm_rp_newRows σ) < (5 : Int32) then
        (if (gm_rp_newRows σ) = 0 then
          (if (1 : Int32) < v1 then
            fX12_readPage_b135 k16 σ v1 v2 v3
          else
            fX12_readPage_b155 k16 σ v1 v2)
        else
          (if v1 = (gm_rp_newColumns σ) then
            fX12_readPage_b135 k16 σ v1 v2 v3
          else
            fX12_readPage_b155 k16 σ v1 v2))
      else
        fX12_readPage_b155 k16 σ v1 v2)
    else
      fX12_readPage_b155 k16 σ v1 v2)
  else none)
def fX12_readPage_b55 (k16 : SM → Int32 → Int32 → Int32 → Option (SM)) (σ : SM) (v1 : Int32) (v2 : Int32) (v3 : Int32) (v4 : Int32) (w0 : Int32) : Option (SM) :=
  (if v4 = (-1 : Int32) then
    fX12_readPage_b93 k16 σ v1 v2 v3
  else
    (if v1 < w0 then
      (if ¬ ((((gm_rp_newRows σ) * (gm_rp_newColumns σ)) + v1) < 0 ∨ 36 ≤ (((gm_rp_newRows σ) * (gm_rp_newColumns σ)) + v1).toNatClampNeg) then
        fX12_readPage_b157 k16 (sm_rp_newCell σ (upd (gm_rp_newCell σ) (((gm_rp_newRows σ) * (gm_rp_newColumns σ)) + v1).toNatClampNeg v4)) (v1 + (1 : Int32)) v2 v3
      else none)
    else
      fX12_readPage_b93 k16 σ v1 v2 v3))
def fX12_readPage_b16 (k16 : SM → Int32 → Int32 → Int32 → Option (SM)) (σ : SM) (v1 : Int32) (v2 : Int32) (v3 : Int32) : Option (SM) :=
  (if v2 < (gm_pg_pageLength σ) then
    (if v3 = 0 then
      fX12_readPage_b172 σ v1 v2
    else
      (if ¬ (v2 < 0 ∨ 45 ≤ v2.toNatClampNeg) then
        ((fX12_sortOf ((gm_pg_page σ) v2.toNatClampNeg)).bind (fun r1 =>
          (if (gm_rp_newRows σ) = 0 then
            fX12_readPage_b55 k16 σ v1 v2 v3 r1 (6 : Int32)
          else
            fX12_readPage_b55 k16 σ v1 v2 v3 r1 (gm_rp_newColumns σ))))
      else none))
  else
    fX12_readPage_b172 σ v1 v2)
def fX12_readPage_l16 : Nat → SM → Int32 → Int32 → Int32 → Option (SM)
  | 0, _, _, _, _ => none
  | n + 1, σ, v1, v2, v3 => fX12_readPage_b16 (fX12_readPage_l16 n) σ v1 v2 v3
def fX12_readPage (σ : SM) : Option (SM) :=
  fX12_readPage_l16 1000 (sm_rp_newColumns (sm_rp_newRows σ (0 : Int32)) (0 : Int32)) (0 : Int32) (0 : Int32) (1 : Int32)
def fX12_fault (σ : SM) : Option (Int32 × SM) :=
  ((fX12_readPage σ).bind (fun r1 =>
    some ((gm_rp_faultAt r1), r1)))
def fX12_cells (σ : SM) : Option (Int32) :=
  some (((gm_rg_rows σ) * (gm_rg_columns σ)))
def fX12_isCell (σ : SM) (v1 : Int32) : Option (Int32) :=
  ((fX12_cells σ).bind (fun r1 =>
    ((fX12_within v1 (0 : Int32) (r1 - (1 : Int32))).bind (fun r2 =>
      (if r2 = 0 ∨ r2 = 1 then some (r2) else none)))))
def fX12_isFree_b23 (σ : SM) (w0 : Int32) : Option (Int32) :=
  (if w0 = 0 ∨ w0 = 1 then some (w0) else none)
def fX12_isFree_b22 (σ : SM) : Option (Int32) :=
  fX12_isFree_b23 σ (0 : Int32)
def fX12_isFree (σ : SM) (v1 : Int32) : Option (Int32) :=
  ((fX12_isCell σ v1).bind (fun r1 =>
    (if r1 = 0 then
      fX12_isFree_b22 σ
    else
      (if ¬ (v1 < 0 ∨ 36 ≤ v1.toNatClampNeg) then
        (if ((gm_rg_cellOf σ) v1.toNatClampNeg) < (2 : Int32) then
          fX12_isFree_b23 σ (1 : Int32)
        else
          fX12_isFree_b22 σ)
      else none))))
def fX12_layLost_b44 (k4 : SM → Int32 → Int32 → Option (Int32 × SM)) (σ : SM) (v2 : Int32) (w0 : Int32) (w1 : Int32) : Option (Int32 × SM) :=
  k4 σ (w1 + w0) (v2 + (1 : Int32))
def fX12_layLost_b33 (k4 : SM → Int32 → Int32 → Option (Int32 × SM)) (σ : SM) (v1 : Int32) (v2 : Int32) (v3 : Int32) (w0 : Int64) (w1 : Int32) : Option (Int32 × SM) :=
  (if ¬ (w1 < 0 ∨ 144 ≤ w1.toNatClampNeg) then
    (if v3 = 0 then
      fX12_layLost_b44 k4 (sm_od_weight σ (vp_updL (gm_od_weight σ) w1.toNatClampNeg w0)) v2 (0 : Int32) v1
    else
      fX12_layLost_b44 k4 (sm_od_weight σ (vp_updL (gm_od_weight σ) w1.toNatClampNeg w0)) v2 (1 : Int32) v1)
  else none)
def fX12_layLost_b4 (k4 : SM → Int32 → Int32 → Option (Int32 × SM)) (σ : SM) (v1 : Int32) (v2 : Int32) : Option (Int32 × SM) :=
  (if v2 < (144 : Int32) then
    ((fX12_isFree σ (v2 / (4 : Int32))).bind (fun r1 =>
      (if r1 = 0 then
        fX12_layLost_b33 k4 σ v1 v2 r1 (0 : Int64) v2
      else
        fX12_layLost_b33 k4 σ v1 v2 r1 (1 : Int64) v2)))
  else
    some (v1, (sm_od_updates σ (0 : Int32))))
def fX12_layLost_l4 : Nat → SM → Int32 → Int32 → Option (Int32 × SM)
  | 0, _, _, _ => none
  | n + 1, σ, v1, v2 => fX12_layLost_b4 (fX12_layLost_l4 n) σ v1 v2
def fX12_layLost (σ : SM) : Option (Int32 × SM) :=
  fX12_layLost_l4 1000 σ (0 : Int32) (0 : Int32)
def fX12_ring_b81 (k81 : SM → Int32 → Option (Int32 × SM)) (σ : SM) (v2 : Int32) : Option (Int32 × SM) :=
  (if v2 < ((gm_rg_rows σ) * (gm_rg_columns σ)) then
    (if ¬ (v2 < 0 ∨ 36 ≤ v2.toNatClampNeg) then
      (if ¬ (v2 < 0 ∨ 36 ≤ v2.toNatClampNeg) then
        k81 (sm_rg_cellOf σ (upd (gm_rg_cellOf σ) v2.toNatClampNeg ((gm_rp_newCell σ) v2.toNatClampNeg))) (v2 + (1 : Int32))
      else none)
    else none)
  else
    ((fX12_layLost (sm_nm_jacketTenths (sm_nm_jacketB (sm_nm_jacketA (sm_pl_players (sm_rg_rings σ ((gm_rg_rings σ) + (1 : Int32))) (0 : Int32)) (-1 : Int32)) (-1 : Int32)) (0 : Int32))).bind (fun r2 =>
      some (((gm_rg_rows r2.2) * (gm_rg_columns r2.2)), (sm_pg_pageLength r2.2 (0 : Int32))))))
def fX12_ring_l81 : Nat → SM → Int32 → Option (Int32 × SM)
  | 0, _, _ => none
  | n + 1, σ, v2 => fX12_ring_b81 (fX12_ring_l81 n) σ v2
def fX12_ring_b54 (σ : SM) (v1 : Int32) : Option (Int32 × SM) :=
  (if v1 = 0 then
    some ((-103 : Int32), σ)
  else
    fX12_ring_l81 1000 (sm_rg_columns (sm_rg_rows σ ((gm_rp_newRows σ) + (1 : Int32))) (gm_rp_newColumns σ)) (0 : Int32))
def fX12_ring_b46 (k8 : SM → Int32 → Int32 → Option (Int32 × SM)) (σ : SM) (v2 : Int32) (w0 : Int32) (w1 : Int32) : Option (Int32 × SM) :=
  k8 σ (w1 + w0) (v2 + (1 : Int32))
def fX12_ring_b8 (k8 : SM → Int32 → Int32 → Option (Int32 × SM)) (σ : SM) (v1 : Int32) (v2 : Int32) : Option (Int32 × SM) :=
  (if (gm_rp_isWhole σ) = 0 then
    fX12_ring_b54 σ v1
  else
    (if v2 < (((gm_rp_newRows σ) + (1 : Int32)) * (gm_rp_newColumns σ)) then
      (if ¬ (v2 < 0 ∨ 36 ≤ v2.toNatClampNeg) then
        (if ((gm_rp_newCell σ) v2.toNatClampNeg) < (2 : Int32) then
          fX12_ring_b46 k8 σ v2 (1 : Int32) v1
        else
          fX12_ring_b46 k8 σ v2 (0 : Int32) v1)
      else none)
    else
      fX12_ring_b54 σ v1))
def fX12_ring_l8 : Nat → SM → Int32 → Int32 → Option (Int32 × SM)
  | 0, _, _, _ => none
  | n + 1, σ, v1, v2 => fX12_ring_b8 (fX12_ring_l8 n) σ v1 v2
def fX12_ring (σ : SM) : Option (Int32 × SM) :=
  ((fX12_readPage σ).bind (fun r1 =>
    fX12_ring_l8 1000 r1 (0 : Int32) (0 : Int32)))
def fX12_cell_b19 (σ : SM) (w0 : Int32) : Option (Int32) :=
  some (w0)
def fX12_cell (σ : SM) (v1 : Int32) : Option (Int32) :=
  ((fX12_isCell σ v1).bind (fun r1 =>
    (if r1 = 0 then
      fX12_cell_b19 σ (-101 : Int32)
    else
      (if ¬ (v1 < 0 ∨ 36 ≤ v1.toNatClampNeg) then
        fX12_cell_b19 σ ((gm_rg_cellOf σ) v1.toNatClampNeg)
      else none))))
def fX12_on_b96 (σ : SM) (w0 : Int32) : Option (Int32) :=
  some (w0)
def fX12_on_b95 (σ : SM) : Option (Int32) :=
  fX12_on_b96 σ (-1 : Int32)
def fX12_on_b51 (σ : SM) (v3 : Int32) (w0 : Int32) (w1 : Int32) : Option (Int32) :=
  ((fX12_within v3 (0 : Int32) ((gm_rg_rows σ) - (1 : Int32))).bind (fun r1 =>
    (if r1 = 0 then
      fX12_on_b95 σ
    else
      ((fX12_within (w1 + w0) (0 : Int32) ((gm_rg_columns σ) - (1 : Int32))).bind (fun r2 =>
        (if r2 = 0 then
          fX12_on_b95 σ
        else
          fX12_on_b96 σ ((v3 * (gm_rg_columns σ)) + (w1 + w0))))))))
def fX12_on_b24 (σ : SM) (v1 : Int32) (v2 : Int32) (w0 : Int32) (w1 : Int32) : Option (Int32) :=
  (if ¬ (gm_rg_columns σ) = 0 then
    (if v2 = (1 : Int32) then
      fX12_on_b51 σ (w1 + w0) (1 : Int32) (v1 - v1 / (gm_rg_columns σ) * (gm_rg_columns σ))
    else
      (if v2 = (3 : Int32) then
        fX12_on_b51 σ (w1 + w0) (-1 : Int32) (v1 - v1 / (gm_rg_columns σ) * (gm_rg_columns σ))
      else
        fX12_on_b51 σ (w1 + w0) (0 : Int32) (v1 - v1 / (gm_rg_columns σ) * (gm_rg_columns σ))))
  else none)
def fX12_on (σ : SM) (v1 : Int32) (v2 : Int32) : Option (Int32) :=
  (if ¬ (gm_rg_columns σ) = 0 then
    (if v2 = 0 then
      fX12_on_b24 σ v1 v2 (-1 : Int32) (v1 / (gm_rg_columns σ))
    else
      (if v2 = (2 : Int32) then
        fX12_on_b24 σ v1 v2 (1 : Int32) (v1 / (gm_rg_columns σ))
      else
        fX12_on_b24 σ v1 v2 (0 : Int32) (v1 / (gm_rg_columns σ))))
  else none)
def fX12_isWay (v0 : Int32) : Option (Int32) :=
  ((fX12_within v0 (0 : Int32) (3 : Int32)).bind (fun r1 =>
    (if r1 = 0 ∨ r1 = 1 then some (r1) else none)))
def fX12_clear_b2 (k2 : SM → Int32 → Option (SM)) (σ : SM) (v1 : Int32) : Option (SM) :=
  (if v1 < (144 : Int32) then
    (if ¬ (v1 < 0 ∨ 144 ≤ v1.toNatClampNeg) then
      k2 (sm_od_then σ (vp_updL (gm_od_then σ) v1.toNatClampNeg (0 : Int64))) (v1 + (1 : Int32))
    else none)
  else
    some (σ))
def fX12_clear_l2 : Nat → SM → Int32 → Option (SM)
  | 0, _, _ => none
  | n + 1, σ, v1 => fX12_clear_b2 (fX12_clear_l2 n) σ v1
def fX12_clear (σ : SM) : Option (SM) :=
  fX12_clear_l2 1000 σ (0 : Int32)
def fX12_set_b49 (k23 : SM → Int32 → Int32 → Int32 → Option (Int32 × SM)) (σ : SM) (v1 : Int32) (v2 : Int32) (v3 : Int32) (w0 : Int64) (w1 : Int32) : Option (Int32 × SM) :=
  (if ¬ (w1 < 0 ∨ 144 ≤ w1.toNatClampNeg) then
    k23 (sm_od_weight σ (vp_updL (gm_od_weight σ) w1.toNatClampNeg w0)) v1 v2 (v3 + (1 : Int32))
  else none)
def fX12_set_b23 (k23 : SM → Int32 → Int32 → Int32 → Option (Int32 × SM)) (σ : SM) (v1 : Int32) (v2 : Int32) (v3 : Int32) : Option (Int32 × SM) :=
  (if v3 < (144 : Int32) then
    (if v3 = (((4 : Int32) * v1) + v2) then
      fX12_set_b49 k23 σ v1 v2 v3 (1 : Int64) v3
    else
      fX12_set_b49 k23 σ v1 v2 v3 (0 : Int64) v3)
  else
    some ((1 : Int32), (sm_od_updates σ (0 : Int32))))
def fX12_set_l23 : Nat → SM → Int32 → Int32 → Int32 → Option (Int32 × SM)
  | 0, _, _, _, _ => none
  | n + 1, σ, v1, v2, v3 => fX12_set_b23 (fX12_set_l23 n) σ v1 v2 v3
def fX12_set (σ : SM) (v1 : Int32) (v2 : Int32) : Option (Int32 × SM) :=
  ((fX12_isFree σ v1).bind (fun r1 =>
    (if r1 = 0 then
      some ((-101 : Int32), σ)
    else
      ((fX12_isWay v2).bind (fun r2 =>
        (if r2 = 0 then
          some ((-102 : Int32), σ)
        else
          fX12_set_l23 1000 σ v1 v2 (0 : Int32)))))))
def fX12_lost_b16 (σ : SM) (w0 : Int32) : Option (Int32 × SM) :=
  some (w0, σ)
def fX12_lost (σ : SM) : Option (Int32 × SM) :=
  (if (gm_rg_rings σ) = 0 then
    fX12_lost_b16 σ (-103 : Int32)
  else
    ((fX12_layLost σ).bind (fun r1 =>
      fX12_lost_b16 r1.2 r1.1)))
def fX12_above_b28 (σ : SM) (k4 : Int32 → Int32 → Option (Int32)) (v2 : Int32) (w0 : Int32) (w1 : Int32) : Option (Int32) :=
  k4 (w1 + w0) (v2 + (1 : Int32))
def fX12_above_b4 (σ : SM) (k4 : Int32 → Int32 → Option (Int32)) (v1 : Int32) (v2 : Int32) : Option (Int32) :=
  (if v2 < (144 : Int32) then
    (if ¬ (v2 < 0 ∨ 144 ≤ v2.toNatClampNeg) then
      (if (0 : Int64) < ((gm_od_weight σ) v2.toNatClampNeg) then
        fX12_above_b28 σ k4 v2 (1 : Int32) v1
      else
        fX12_above_b28 σ k4 v2 (0 : Int32) v1)
    else none)
  else
    some (v1))
def fX12_above_l4 (σ : SM) : Nat → Int32 → Int32 → Option (Int32)
  | 0, _, _ => none
  | n + 1, v1, v2 => fX12_above_b4 σ (fX12_above_l4 σ n) v1 v2
def fX12_above (σ : SM) : Option (Int32) :=
  fX12_above_l4 σ 1000 (0 : Int32) (0 : Int32)
def fX12_take_b38 (k38 : SM → Int64 → Int32 → Option (Int32 × SM)) (σ : SM) (v1 : Int64) (v3 : Int32) : Option (Int32 × SM) :=
  (if v3 < (144 : Int32) then
    (if ¬ (v3 < 0 ∨ 144 ≤ v3.toNatClampNeg) then
      (if ¬ v1 = 0 then
        (if ¬ (v3 < 0 ∨ 144 ≤ v3.toNatClampNeg) then
          k38 (sm_od_weight σ (vp_updL (gm_od_weight σ) v3.toNatClampNeg (((gm_od_then σ) v3.toNatClampNeg) / v1))) v1 (v3 + (1 : Int32))
        else none)
      else none)
    else none)
  else
    ((fX12_above (sm_od_updates σ ((gm_od_updates σ) + (1 : Int32)))).bind (fun r1 =>
      some (r1, (sm_od_updates σ ((gm_od_updates σ) + (1 : Int32)))))))
def fX12_take_l38 : Nat → SM → Int64 → Int32 → Option (Int32 × SM)
  | 0, _, _, _ => none
  | n + 1, σ, v1, v3 => fX12_take_b38 (fX12_take_l38 n) σ v1 v3
def fX12_take_b4 (k4 : SM → Int64 → Int32 → Option (Int32 × SM)) (σ : SM) (v1 : Int64) (v3 : Int32) : Option (Int32 × SM) :=
  (if v3 < (144 : Int32) then
    (if ¬ (v3 < 0 ∨ 144 ≤ v3.toNatClampNeg) then
      ((fX12_divisor v1 ((gm_od_then σ) v3.toNatClampNeg)).bind (fun r2 =>
        k4 σ r2 (v3 + (1 : Int32))))
    else none)
  else
    (if v1 = (0 : Int64) then
      some ((-1 : Int32), σ)
    else
      fX12_take_l38 1000 σ v1 (0 : Int32)))
def fX12_take_l4 : Nat → SM → Int64 → Int32 → Option (Int32 × SM)
  | 0, _, _, _ => none
  | n + 1, σ, v1, v3 => fX12_take_b4 (fX12_take_l4 n) σ v1 v3
def fX12_take (σ : SM) : Option (Int32 × SM) :=
  fX12_take_l4 1000 σ (0 : Int64) (0 : Int32)
def fX12_turned_b40 (k40 : SM → Int32 → Int32 → Option (Int32 × SM)) (σ : SM) (v1 : Int32) (v2 : Int32) : Option (Int32 × SM) :=
  (if v2 < (144 : Int32) then
    (if ¬ (v2 < 0 ∨ 144 ≤ v2.toNatClampNeg) then
      (if ¬ (v2 < 0 ∨ 144 ≤ v2.toNatClampNeg) then
        (if ¬ (v2 < 0 ∨ 144 ≤ v2.toNatClampNeg) then
          (if ¬ ((((v2 / (4 : Int32)) * (4 : Int32)) + (((v2 - v2 / (4 : Int32) * (4 : Int32)) + (1 : Int32)) - ((v2 - v2 / (4 : Int32) * (4 : Int32)) + (1 : Int32)) / (4 : Int32) * (4 : Int32))) < 0 ∨ 144 ≤ (((v2 / (4 : Int32)) * (4 : Int32)) + (((v2 - v2 / (4 : Int32) * (4 : Int32)) + (1 : Int32)) - ((v2 - v2 / (4 : Int32) * (4 : Int32)) + (1 : Int32)) / (4 : Int32) * (4 : Int32))).toNatClampNeg) then
            (if ¬ (v2 < 0 ∨ 144 ≤ v2.toNatClampNeg) then
              (if ¬ ((((v2 / (4 : Int32)) * (4 : Int32)) + (((v2 - v2 / (4 : Int32) * (4 : Int32)) + (1 : Int32)) - ((v2 - v2 / (4 : Int32) * (4 : Int32)) + (1 : Int32)) / (4 : Int32) * (4 : Int32))) < 0 ∨ 144 ≤ (((v2 / (4 : Int32)) * (4 : Int32)) + (((v2 - v2 / (4 : Int32) * (4 : Int32)) + (1 : Int32)) - ((v2 - v2 / (4 : Int32) * (4 : Int32)) + (1 : Int32)) / (4 : Int32) * (4 : Int32))).toNatClampNeg) then
                (if ¬ ((((v2 / (4 : Int32)) * (4 : Int32)) + (((v2 - v2 / (4 : Int32) * (4 : Int32)) + (3 : Int32)) - ((v2 - v2 / (4 : Int32) * (4 : Int32)) + (3 : Int32)) / (4 : Int32) * (4 : Int32))) < 0 ∨ 144 ≤ (((v2 / (4 : Int32)) * (4 : Int32)) + (((v2 - v2 / (4 : Int32) * (4 : Int32)) + (3 : Int32)) - ((v2 - v2 / (4 : Int32) * (4 : Int32)) + (3 : Int32)) / (4 : Int32) * (4 : Int32))).toNatClampNeg) then
                  (if ¬ (v2 < 0 ∨ 144 ≤ v2.toNatClampNeg) then
                    (if ¬ ((((v2 / (4 : Int32)) * (4 : Int32)) + (((v2 - v2 / (4 : Int32) * (4 : Int32)) + (3 : Int32)) - ((v2 - v2 / (4 : Int32) * (4 : Int32)) + (3 : Int32)) / (4 : Int32) * (4 : Int32))) < 0 ∨ 144 ≤ (((v2 / (4 : Int32)) * (4 : Int32)) + (((v2 - v2 / (4 : Int32) * (4 : Int32)) + (3 : Int32)) - ((v2 - v2 / (4 : Int32) * (4 : Int32)) + (3 : Int32)) / (4 : Int32) * (4 : Int32))).toNatClampNeg) then
                      k40 (sm_od_then (sm_od_then (sm_od_then σ (vp_updL (gm_od_then σ) v2.toNatClampNeg (((gm_od_then σ) v2.toNatClampNeg) + (((10 : Int32) - ((2 : Int32) * v1)).toInt64 * ((gm_od_weight σ) v2.toNatClampNeg))))) (vp_updL (vp_updL (gm_od_then σ) v2.toNatClampNeg (((gm_od_then σ) v2.toNatClampNeg) + (((10 : Int32) - ((2 : Int32) * v1)).toInt64 * ((gm_od_weight σ) v2.toNatClampNeg)))) (((v2 / (4 : Int32)) * (4 : Int32)) + (((v2 - v2 / (4 : Int32) * (4 : Int32)) + (1 : Int32)) - ((v2 - v2 / (4 : Int32) * (4 : Int32)) + (1 : Int32)) / (4 : Int32) * (4 : Int32))).toNatClampNeg (((vp_updL (gm_od_then σ) v2.toNatClampNeg (((gm_od_then σ) v2.toNatClampNeg) + (((10 : Int32) - ((2 : Int32) * v1)).toInt64 * ((gm_od_weight σ) v2.toNatClampNeg)))) (((v2 / (4 : Int32)) * (4 : Int32)) + (((v2 - v2 / (4 : Int32) * (4 : Int32)) + (1 : Int32)) - ((v2 - v2 / (4 : Int32) * (4 : Int32)) + (1 : Int32)) / (4 : Int32) * (4 : Int32))).toNatClampNeg) + (v1.toInt64 * ((gm_od_weight σ) v2.toNatClampNeg))))) (vp_updL (vp_updL (vp_updL (gm_od_then σ) v2.toNatClampNeg (((gm_od_then σ) v2.toNatClampNeg) + (((10 : Int32) - ((2 : Int32) * v1)).toInt64 * ((gm_od_weight σ) v2.toNatClampNeg)))) (((v2 / (4 : Int32)) * (4 : Int32)) + (((v2 - v2 / (4 : Int32) * (4 : Int32)) + (1 : Int32)) - ((v2 - v2 / (4 : Int32) * (4 : Int32)) + (1 : Int32)) / (4 : Int32) * (4 : Int32))).toNatClampNeg (((vp_updL (gm_od_then σ) v2.toNatClampNeg (((gm_od_then σ) v2.toNatClampNeg) + (((10 : Int32) - ((2 : Int32) * v1)).toInt64 * ((gm_od_weight σ) v2.toNatClampNeg)))) (((v2 / (4 : Int32)) * (4 : Int32)) + (((v2 - v2 / (4 : Int32) * (4 : Int32)) + (1 : Int32)) - ((v2 - v2 / (4 : Int32) * (4 : Int32)) + (1 : Int32)) / (4 : Int32) * (4 : Int32))).toNatClampNeg) + (v1.toInt64 * ((gm_od_weight σ) v2.toNatClampNeg)))) (((v2 / (4 : Int32)) * (4 : Int32)) + (((v2 - v2 / (4 : Int32) * (4 : Int32)) + (3 : Int32)) - ((v2 - v2 / (4 : Int32) * (4 : Int32)) + (3 : Int32)) / (4 : Int32) * (4 : Int32))).toNatClampNeg (((vp_updL (vp_updL (gm_od_then σ) v2.toNatClampNeg (((gm_od_then σ) v2.toNatClampNeg) + (((10 : Int32) - ((2 : Int32) * v1)).toInt64 * ((gm_od_weight σ) v2.toNatClampNeg)))) (((v2 / (4 : Int32)) * (4 : Int32)) + (((v2 - v2 / (4 : Int32) * (4 : Int32)) + (1 : Int32)) - ((v2 - v2 / (4 : Int32) * (4 : Int32)) + (1 : Int32)) / (4 : Int32) * (4 : Int32))).toNatClampNeg (((vp_updL (gm_od_then σ) v2.toNatClampNeg (((gm_od_then σ) v2.toNatClampNeg) + (((10 : Int32) - ((2 : Int32) * v1)).toInt64 * ((gm_od_weight σ) v2.toNatClampNeg)))) (((v2 / (4 : Int32)) * (4 : Int32)) + (((v2 - v2 / (4 : Int32) * (4 : Int32)) + (1 : Int32)) - ((v2 - v2 / (4 : Int32) * (4 : Int32)) + (1 : Int32)) / (4 : Int32) * (4 : Int32))).toNatClampNeg) + (v1.toInt64 * ((gm_od_weight σ) v2.toNatClampNeg)))) (((v2 / (4 : Int32)) * (4 : Int32)) + (((v2 - v2 / (4 : Int32) * (4 : Int32)) + (3 : Int32)) - ((v2 - v2 / (4 : Int32) * (4 : Int32)) + (3 : Int32)) / (4 : Int32) * (4 : Int32))).toNatClampNeg) + (v1.toInt64 * ((gm_od_weight σ) v2.toNatClampNeg))))) v1 (v2 + (1 : Int32))
                    else none)
                  else none)
                else none)
              else none)
            else none)
          else none)
        else none)
      else none)
    else none)
  else
    ((fX12_take σ).bind (fun r3 =>
      some (r3.1, r3.2))))
def fX12_turned_l40 : Nat → SM → Int32 → Int32 → Option (Int32 × SM)
  | 0, _, _, _ => none
  | n + 1, σ, v1, v2 => fX12_turned_b40 (fX12_turned_l40 n) σ v1 v2
def fX12_turned (σ : SM) (v1 : Int32) : Option (Int32 × SM) :=
  (if (gm_rg_rings σ) = 0 then
    some ((-103 : Int32), σ)
  else
    ((fX12_within v1 (0 : Int32) (5 : Int32)).bind (fun r1 =>
      (if r1 = 0 then
        some ((-102 : Int32), σ)
      else
        (if (gm_od_updates σ) = (9 : Int32) then
          some ((-104 : Int32), σ)
        else
          ((fX12_clear σ).bind (fun r2 =>
            fX12_turned_l40 1000 r2 v1 (0 : Int32))))))))
def fX12_sortAt_b23 (σ : SM) (w0 : Int32) : Option (Int32) :=
  some (w0)
def fX12_sortAt_b13 (σ : SM) : Option (Int32) :=
  fX12_sortAt_b23 σ (3 : Int32)
def fX12_sortAt (σ : SM) (v1 : Int32) : Option (Int32) :=
  (if v1 = (-1 : Int32) then
    fX12_sortAt_b13 σ
  else
    (if v1 = (gm_rp_gonePost σ) then
      fX12_sortAt_b13 σ
    else
      (if ¬ (v1 < 0 ∨ 36 ≤ v1.toNatClampNeg) then
        fX12_sortAt_b23 σ ((gm_rg_cellOf σ) v1.toNatClampNeg)
      else none)))
def fX12_feltOf_b27 (w0 : Int32) : Option (Int32) :=
  some (w0)
def fX12_feltOf (v0 : Int32) : Option (Int32) :=
  (if v0 = 0 then
    fX12_feltOf_b27 (0 : Int32)
  else
    (if v0 = (3 : Int32) then
      fX12_feltOf_b27 (1 : Int32)
    else
      (if v0 = (2 : Int32) then
        fX12_feltOf_b27 (2 : Int32)
      else
        fX12_feltOf_b27 (3 : Int32))))
def fX12_stepOne_b67 (σ : SM) : Option (SM) :=
  some (σ)
def fX12_stepOne_b42 (σ : SM) (v1 : Int32) (v2 : Int32) (v3 : Int32) (w0 : Int32) : Option (SM) :=
  (if ¬ ((((4 : Int32) * w0) + v2) < 0 ∨ 144 ≤ (((4 : Int32) * w0) + v2).toNatClampNeg) then
    (if ¬ (v1 < 0 ∨ 144 ≤ v1.toNatClampNeg) then
      (if ¬ ((((4 : Int32) * w0) + v2) < 0 ∨ 144 ≤ (((4 : Int32) * w0) + v2).toNatClampNeg) then
        fX12_stepOne_b67 (sm_od_then σ (vp_updL (gm_od_then σ) (((4 : Int32) * w0) + v2).toNatClampNeg (((gm_od_then σ) (((4 : Int32) * w0) + v2).toNatClampNeg) + (v3.toInt64 * ((gm_od_weight σ) v1.toNatClampNeg)))))
      else none)
    else none)
  else none)
def fX12_stepOne (σ : SM) (v1 : Int32) (v2 : Int32) (v3 : Int32) (v4 : Int32) : Option (SM) :=
  ((fX12_on σ (v1 / (4 : Int32)) v2).bind (fun r1 =>
    ((fX12_sortAt σ r1).bind (fun r2 =>
      ((fX12_feltOf r2).bind (fun r3 =>
        (if r3 = v4 then
          (if r2 < (2 : Int32) then
            fX12_stepOne_b42 σ v1 v2 v3 r1
          else
            fX12_stepOne_b42 σ v1 v2 v3 (v1 / (4 : Int32)))
        else
          fX12_stepOne_b67 σ)))))))
def fX12_layStep_b81 (k7 : SM → Int32 → Int32 → Int32 → Int32 → Option (SM)) (σ : SM) (v1 : Int32) (v2 : Int32) (v3 : Int32) (v4 : Int32) : Option (SM) :=
  k7 σ v1 v2 v3 (v4 + (1 : Int32))
def fX12_layStep_b7 (k7 : SM → Int32 → Int32 → Int32 → Int32 → Option (SM)) (σ : SM) (v1 : Int32) (v2 : Int32) (v3 : Int32) (v4 : Int32) : Option (SM) :=
  ((fX12_cells σ).bind (fun r2 =>
    (if v4 < ((4 : Int32) * r2) then
      (if ¬ (v4 < 0 ∨ 144 ≤ v4.toNatClampNeg) then
        (if (0 : Int64) < ((gm_od_weight σ) v4.toNatClampNeg) then
          ((fX12_stepOne σ v4 ((v4 + v1) - (v4 + v1) / (4 : Int32) * (4 : Int32)) ((10 : Int32) - ((2 : Int32) * v2)) v3).bind (fun r3 =>
            ((fX12_stepOne r3 v4 ((((v4 + v1) - (v4 + v1) / (4 : Int32) * (4 : Int32)) + (3 : Int32)) - (((v4 + v1) - (v4 + v1) / (4 : Int32) * (4 : Int32)) + (3 : Int32)) / (4 : Int32) * (4 : Int32)) v2 v3).bind (fun r4 =>
              ((fX12_stepOne r4 v4 ((((v4 + v1) - (v4 + v1) / (4 : Int32) * (4 : Int32)) + (1 : Int32)) - (((v4 + v1) - (v4 + v1) / (4 : Int32) * (4 : Int32)) + (1 : Int32)) / (4 : Int32) * (4 : Int32)) v2 v3).bind (fun r5 =>
                fX12_layStep_b81 k7 r5 v1 v2 v3 v4))))))
        else
          fX12_layStep_b81 k7 σ v1 v2 v3 v4)
      else none)
    else
      some (σ))))
def fX12_layStep_l7 : Nat → SM → Int32 → Int32 → Int32 → Int32 → Option (SM)
  | 0, _, _, _, _, _ => none
  | n + 1, σ, v1, v2, v3, v4 => fX12_layStep_b7 (fX12_layStep_l7 n) σ v1 v2 v3 v4
def fX12_layStep (σ : SM) (v1 : Int32) (v2 : Int32) (v3 : Int32) : Option (SM) :=
  ((fX12_clear σ).bind (fun r1 =>
    fX12_layStep_l7 1000 r1 v1 v2 v3 (0 : Int32)))
def fX12_step_b66 (σ : SM) (w0 : Int32) : Option (Int32 × SM) :=
  some (w0, σ)
def fX12_step_b28 (σ : SM) : Option (Int32 × SM) :=
  some ((-102 : Int32), σ)
def fX12_step (σ : SM) (v1 : Int32) (v2 : Int32) : Option (Int32 × SM) :=
  (if (gm_rg_rings σ) = 0 then
    some ((-103 : Int32), σ)
  else
    ((fX12_within v1 (0 : Int32) (5 : Int32)).bind (fun r1 =>
      (if r1 = 0 then
        fX12_step_b28 σ
      else
        ((fX12_within v2 (0 : Int32) (3 : Int32)).bind (fun r2 =>
          (if r2 = 0 then
            fX12_step_b28 σ
          else
            (if (gm_od_updates σ) = (9 : Int32) then
              some ((-104 : Int32), σ)
            else
              ((fX12_layStep σ (0 : Int32) v1 v2).bind (fun r3 =>
                ((fX12_take r3).bind (fun r4 =>
                  (if r4.1 = (-1 : Int32) then
                    fX12_step_b66 r4.2 (-103 : Int32)
                  else
                    fX12_step_b66 r4.2 r4.1)))))))))))))
def fX12_liesFrom_b74 (σ : SM) (w0 : Int32) : Option (Int32) :=
  some (w0)
def fX12_liesFrom_b40 (σ : SM) (v3 : Int32) (v4 : Int32) : Option (Int32) :=
  ((fX12_size v3).bind (fun r1 =>
    ((fX12_size v4).bind (fun r2 =>
      (if r1 < r2 then
        (if 0 < v4 then
          fX12_liesFrom_b74 σ (1 : Int32)
        else
          fX12_liesFrom_b74 σ (3 : Int32))
      else
        (if v3 < 0 then
          fX12_liesFrom_b74 σ (0 : Int32)
        else
          fX12_liesFrom_b74 σ (2 : Int32)))))))
def fX12_liesFrom (σ : SM) (v1 : Int32) (v2 : Int32) : Option (Int32) :=
  (if ¬ (gm_rg_columns σ) = 0 then
    (if ¬ (gm_rg_columns σ) = 0 then
      (if ¬ (gm_rg_columns σ) = 0 then
        (if ¬ (gm_rg_columns σ) = 0 then
          (if ((v2 / (gm_rg_columns σ)) - (v1 / (gm_rg_columns σ))) = 0 then
            (if ((v2 - v2 / (gm_rg_columns σ) * (gm_rg_columns σ)) - (v1 - v1 / (gm_rg_columns σ) * (gm_rg_columns σ))) = 0 then
              some ((-1 : Int32))
            else
              fX12_liesFrom_b40 σ ((v2 / (gm_rg_columns σ)) - (v1 / (gm_rg_columns σ))) ((v2 - v2 / (gm_rg_columns σ) * (gm_rg_columns σ)) - (v1 - v1 / (gm_rg_columns σ) * (gm_rg_columns σ))))
          else
            fX12_liesFrom_b40 σ ((v2 / (gm_rg_columns σ)) - (v1 / (gm_rg_columns σ))) ((v2 - v2 / (gm_rg_columns σ) * (gm_rg_columns σ)) - (v1 - v1 / (gm_rg_columns σ) * (gm_rg_columns σ))))
        else none)
      else none)
    else none)
  else none)
def fX12_layHeard_b68 (k7 : SM → Int32 → Int32 → Int32 → Int32 → Option (SM)) (σ : SM) (v1 : Int32) (v2 : Int32) (v3 : Int32) (v4 : Int32) (w0 : Int32) : Option (SM) :=
  (if ¬ (v4 < 0 ∨ 144 ≤ v4.toNatClampNeg) then
    (if ¬ (v4 < 0 ∨ 144 ≤ v4.toNatClampNeg) then
      k7 (sm_od_then σ (vp_updL (gm_od_then σ) v4.toNatClampNeg (w0.toInt64 * ((gm_od_weight σ) v4.toNatClampNeg)))) v1 v2 v3 (v4 + (1 : Int32))
    else none)
  else none)
def fX12_layHeard_b7 (k7 : SM → Int32 → Int32 → Int32 → Int32 → Option (SM)) (σ : SM) (v1 : Int32) (v2 : Int32) (v3 : Int32) (v4 : Int32) : Option (SM) :=
  ((fX12_cells σ).bind (fun r2 =>
    (if v4 < ((4 : Int32) * r2) then
      ((fX12_liesFrom σ (v4 / (4 : Int32)) v1).bind (fun r3 =>
        (if r3 = (-1 : Int32) then
          fX12_layHeard_b68 k7 σ v1 v2 v3 v4 (15 : Int32)
        else
          (if (((r3 + (4 : Int32)) - (v4 - v4 / (4 : Int32) * (4 : Int32))) - ((r3 + (4 : Int32)) - (v4 - v4 / (4 : Int32) * (4 : Int32))) / (4 : Int32) * (4 : Int32)) = v2 then
            fX12_layHeard_b68 k7 σ v1 v2 v3 v4 ((6 : Int32) * v3)
          else
            fX12_layHeard_b68 k7 σ v1 v2 v3 v4 ((2 : Int32) * ((10 : Int32) - v3))))))
    else
      some (σ))))
def fX12_layHeard_l7 : Nat → SM → Int32 → Int32 → Int32 → Int32 → Option (SM)
  | 0, _, _, _, _, _ => none
  | n + 1, σ, v1, v2, v3, v4 => fX12_layHeard_b7 (fX12_layHeard_l7 n) σ v1 v2 v3 v4
def fX12_layHeard (σ : SM) (v1 : Int32) (v2 : Int32) (v3 : Int32) : Option (SM) :=
  ((fX12_clear σ).bind (fun r1 =>
    fX12_layHeard_l7 1000 r1 v1 v2 v3 (0 : Int32)))
def fX12_heard_b69 (σ : SM) (w0 : Int32) : Option (Int32 × SM) :=
  some (w0, σ)
def fX12_heard_b28 (σ : SM) : Option (Int32 × SM) :=
  some ((-102 : Int32), σ)
def fX12_heard (σ : SM) (v1 : Int32) (v2 : Int32) (v3 : Int32) : Option (Int32 × SM) :=
  ((fX12_isFree σ v1).bind (fun r1 =>
    (if r1 = 0 then
      some ((-101 : Int32), σ)
    else
      ((fX12_isWay v2).bind (fun r2 =>
        (if r2 = 0 then
          fX12_heard_b28 σ
        else
          ((fX12_within v3 (0 : Int32) (10 : Int32)).bind (fun r3 =>
            (if r3 = 0 then
              fX12_heard_b28 σ
            else
              (if (gm_od_updates σ) = (9 : Int32) then
                some ((-104 : Int32), σ)
              else
                ((fX12_layHeard σ v1 v2 v3).bind (fun r4 =>
                  ((fX12_take r4).bind (fun r5 =>
                    (if r5.1 = (-1 : Int32) then
                      fX12_heard_b69 r5.2 (-103 : Int32)
                    else
                      fX12_heard_b69 r5.2 r5.1)))))))))))))))
def fX12_all_b4 (σ : SM) (k4 : Int64 → Int32 → Option (Int64)) (v1 : Int64) (v3 : Int32) : Option (Int64) :=
  (if v3 < (144 : Int32) then
    (if ¬ (v3 < 0 ∨ 144 ≤ v3.toNatClampNeg) then
      k4 (v1 + ((gm_od_weight σ) v3.toNatClampNeg)) (v3 + (1 : Int32))
    else none)
  else
    some (v1))
def fX12_all_l4 (σ : SM) : Nat → Int64 → Int32 → Option (Int64)
  | 0, _, _ => none
  | n + 1, v1, v3 => fX12_all_b4 σ (fX12_all_l4 σ n) v1 v3
def fX12_all (σ : SM) : Option (Int64) :=
  fX12_all_l4 σ 1000 (0 : Int64) (0 : Int32)
def fX12_ofCell (σ : SM) (v1 : Int32) : Option (Int64) :=
  (if ¬ (((4 : Int32) * v1) < 0 ∨ 144 ≤ ((4 : Int32) * v1).toNatClampNeg) then
    (if ¬ ((((4 : Int32) * v1) + (1 : Int32)) < 0 ∨ 144 ≤ (((4 : Int32) * v1) + (1 : Int32)).toNatClampNeg) then
      (if ¬ ((((4 : Int32) * v1) + (2 : Int32)) < 0 ∨ 144 ≤ (((4 : Int32) * v1) + (2 : Int32)).toNatClampNeg) then
        (if ¬ ((((4 : Int32) * v1) + (3 : Int32)) < 0 ∨ 144 ≤ (((4 : Int32) * v1) + (3 : Int32)).toNatClampNeg) then
          some ((((((gm_od_weight σ) ((4 : Int32) * v1).toNatClampNeg) + ((gm_od_weight σ) (((4 : Int32) * v1) + (1 : Int32)).toNatClampNeg)) + ((gm_od_weight σ) (((4 : Int32) * v1) + (2 : Int32)).toNatClampNeg)) + ((gm_od_weight σ) (((4 : Int32) * v1) + (3 : Int32)).toNatClampNeg)))
        else none)
      else none)
    else none)
  else none)
def fX12_isPart (v0 : Int32) : Option (Int32) :=
  ((fX12_within v0 (0 : Int32) (1 : Int32)).bind (fun r1 =>
    (if r1 = 0 ∨ r1 = 1 then some (r1) else none)))
def fX12_odds_b38 (σ : SM) (w0 : Int64) : Option (Int64) :=
  some (w0)
def fX12_odds (σ : SM) (v1 : Int32) (v2 : Int32) : Option (Int64) :=
  ((fX12_isCell σ v1).bind (fun r1 =>
    (if r1 = 0 then
      some ((-101 : Int64))
    else
      ((fX12_isPart v2).bind (fun r2 =>
        (if r2 = 0 then
          fX12_odds_b38 σ (-102 : Int64)
        else
          ((fX12_ofCell σ v1).bind (fun r3 =>
            ((fX12_all σ).bind (fun r4 =>
              ((fX12_lowest r3 r4 v2).bind (fun r5 =>
                fX12_odds_b38 σ r5))))))))))))
def fX12_ways_b34 (σ : SM) (k34 : Int32 → Int32 → Int64 → Int32 → Option (Int64)) (v1 : Int32) (v2 : Int32) (v3 : Int64) (v5 : Int32) : Option (Int64) :=
  ((fX12_cells σ).bind (fun r3 =>
    (if v5 < r3 then
      (if ¬ ((((4 : Int32) * v5) + v1) < 0 ∨ 144 ≤ (((4 : Int32) * v5) + v1).toNatClampNeg) then
        k34 v1 v2 (v3 + ((gm_od_weight σ) (((4 : Int32) * v5) + v1).toNatClampNeg)) (v5 + (1 : Int32))
      else none)
    else
      ((fX12_all σ).bind (fun r4 =>
        ((fX12_lowest v3 r4 v2).bind (fun r5 =>
          some (r5))))))))
def fX12_ways_l34 (σ : SM) : Nat → Int32 → Int32 → Int64 → Int32 → Option (Int64)
  | 0, _, _, _, _ => none
  | n + 1, v1, v2, v3, v5 => fX12_ways_b34 σ (fX12_ways_l34 σ n) v1 v2 v3 v5
def fX12_ways_b25 (σ : SM) : Option (Int64) :=
  some ((-102 : Int64))
def fX12_ways (σ : SM) (v1 : Int32) (v2 : Int32) : Option (Int64) :=
  (if (gm_rg_rings σ) = 0 then
    some ((-103 : Int64))
  else
    ((fX12_isWay v1).bind (fun r1 =>
      (if r1 = 0 then
        fX12_ways_b25 σ
      else
        ((fX12_isPart v2).bind (fun r2 =>
          (if r2 = 0 then
            fX12_ways_b25 σ
          else
            fX12_ways_l34 σ 1000 v1 v2 (0 : Int64) (0 : Int32))))))))
def fX12_likeliestNow_b31 (σ : SM) (k4 : Int32 → Int32 → Option (Int32)) (v2 : Int32) (w0 : Int32) : Option (Int32) :=
  k4 w0 (v2 + (1 : Int32))
def fX12_likeliestNow_b4 (σ : SM) (k4 : Int32 → Int32 → Option (Int32)) (v1 : Int32) (v2 : Int32) : Option (Int32) :=
  ((fX12_cells σ).bind (fun r1 =>
    (if v2 < r1 then
      ((fX12_ofCell σ v2).bind (fun r2 =>
        ((fX12_ofCell σ v1).bind (fun r3 =>
          (if r3 < r2 then
            fX12_likeliestNow_b31 σ k4 v2 v2
          else
            fX12_likeliestNow_b31 σ k4 v2 v1)))))
    else
      some (v1))))
def fX12_likeliestNow_l4 (σ : SM) : Nat → Int32 → Int32 → Option (Int32)
  | 0, _, _ => none
  | n + 1, v1, v2 => fX12_likeliestNow_b4 σ (fX12_likeliestNow_l4 σ n) v1 v2
def fX12_likeliestNow (σ : SM) : Option (Int32) :=
  fX12_likeliestNow_l4 σ 1000 (0 : Int32) (1 : Int32)
def fX12_likeliest_b16 (σ : SM) (w0 : Int32) : Option (Int32) :=
  some (w0)
def fX12_likeliest (σ : SM) : Option (Int32) :=
  (if (gm_rg_rings σ) = 0 then
    fX12_likeliest_b16 σ (-103 : Int32)
  else
    ((fX12_likeliestNow σ).bind (fun r1 =>
      fX12_likeliest_b16 σ r1)))
def fX12_knows_b40 (σ : SM) (w0 : Int64) : Option (Int64) :=
  some (w0)
def fX12_knows (σ : SM) (v1 : Int32) : Option (Int64) :=
  (if (gm_rg_rings σ) = 0 then
    some ((-103 : Int64))
  else
    ((fX12_isPart v1).bind (fun r1 =>
      (if r1 = 0 then
        fX12_knows_b40 σ (-102 : Int64)
      else
        ((fX12_likeliestNow σ).bind (fun r2 =>
          ((fX12_ofCell σ r2).bind (fun r3 =>
            ((fX12_all σ).bind (fun r4 =>
              ((fX12_lowest r3 r4 v1).bind (fun r5 =>
                fX12_knows_b40 σ r5))))))))))))
def fX12_greatestThen_b68 (σ : SM) (k4 : Int64 → Int32 → Option (Int64)) (v3 : Int32) (w0 : Int64) : Option (Int64) :=
  k4 w0 (v3 + (1 : Int32))
def fX12_greatestThen_b4 (σ : SM) (k4 : Int64 → Int32 → Option (Int64)) (v1 : Int64) (v3 : Int32) : Option (Int64) :=
  ((fX12_cells σ).bind (fun r1 =>
    (if v3 < r1 then
      (if ¬ (((4 : Int32) * v3) < 0 ∨ 144 ≤ ((4 : Int32) * v3).toNatClampNeg) then
        (if ¬ ((((4 : Int32) * v3) + (1 : Int32)) < 0 ∨ 144 ≤ (((4 : Int32) * v3) + (1 : Int32)).toNatClampNeg) then
          (if ¬ ((((4 : Int32) * v3) + (2 : Int32)) < 0 ∨ 144 ≤ (((4 : Int32) * v3) + (2 : Int32)).toNatClampNeg) then
            (if ¬ ((((4 : Int32) * v3) + (3 : Int32)) < 0 ∨ 144 ≤ (((4 : Int32) * v3) + (3 : Int32)).toNatClampNeg) then
              (if v1 < (((((gm_od_then σ) ((4 : Int32) * v3).toNatClampNeg) + ((gm_od_then σ) (((4 : Int32) * v3) + (1 : Int32)).toNatClampNeg)) + ((gm_od_then σ) (((4 : Int32) * v3) + (2 : Int32)).toNatClampNeg)) + ((gm_od_then σ) (((4 : Int32) * v3) + (3 : Int32)).toNatClampNeg)) then
                fX12_greatestThen_b68 σ k4 v3 (((((gm_od_then σ) ((4 : Int32) * v3).toNatClampNeg) + ((gm_od_then σ) (((4 : Int32) * v3) + (1 : Int32)).toNatClampNeg)) + ((gm_od_then σ) (((4 : Int32) * v3) + (2 : Int32)).toNatClampNeg)) + ((gm_od_then σ) (((4 : Int32) * v3) + (3 : Int32)).toNatClampNeg))
              else
                fX12_greatestThen_b68 σ k4 v3 v1)
            else none)
          else none)
        else none)
      else none)
    else
      some (v1))))
def fX12_greatestThen_l4 (σ : SM) : Nat → Int64 → Int32 → Option (Int64)
  | 0, _, _ => none
  | n + 1, v1, v3 => fX12_greatestThen_b4 σ (fX12_greatestThen_l4 σ n) v1 v3
def fX12_greatestThen (σ : SM) : Option (Int64) :=
  fX12_greatestThen_l4 σ 1000 (0 : Int64) (0 : Int32)
def fX12_expectedNow_b54 (k6 : SM → Int32 → Int32 → Int32 → Int32 → Int64 → Int32 → Option (Int64 × SM)) (σ : SM) (v1 : Int32) (v2 : Int32) (v3 : Int32) (v4 : Int32) (v5 : Int64) (v7 : Int32) : Option (Int64 × SM) :=
  ((fX12_greatestThen σ).bind (fun r1 =>
    k6 σ v1 v2 v3 v4 (v5 + r1) (v7 + (1 : Int32))))
def fX12_expectedNow_b48 (k6 : SM → Int32 → Int32 → Int32 → Int32 → Int64 → Int32 → Option (Int64 × SM)) (σ : SM) (v1 : Int32) (v2 : Int32) (v3 : Int32) (v4 : Int32) (v5 : Int64) (v7 : Int32) (w0 : Int32) : Option (Int64 × SM) :=
  ((fX12_layStep σ w0 v2 v7).bind (fun r2 =>
    fX12_expectedNow_b54 k6 r2 v1 v2 v3 v4 v5 v7))
def fX12_expectedNow_b6 (k6 : SM → Int32 → Int32 → Int32 → Int32 → Int64 → Int32 → Option (Int64 × SM)) (σ : SM) (v1 : Int32) (v2 : Int32) (v3 : Int32) (v4 : Int32) (v5 : Int64) (v7 : Int32) : Option (Int64 × SM) :=
  (if v7 < (4 : Int32) then
    (if v1 = (3 : Int32) then
      ((fX12_layHeard σ v3 v7 v4).bind (fun r3 =>
        fX12_expectedNow_b54 k6 r3 v1 v2 v3 v4 v5 v7))
    else
      (if v1 = 0 then
        fX12_expectedNow_b48 k6 σ v1 v2 v3 v4 v5 v7 (0 : Int32)
      else
        (if v1 = (1 : Int32) then
          fX12_expectedNow_b48 k6 σ v1 v2 v3 v4 v5 v7 (3 : Int32)
        else
          fX12_expectedNow_b48 k6 σ v1 v2 v3 v4 v5 v7 (1 : Int32))))
  else
    some (v5, σ))
def fX12_expectedNow_l6 : Nat → SM → Int32 → Int32 → Int32 → Int32 → Int64 → Int32 → Option (Int64 × SM)
  | 0, _, _, _, _, _, _, _ => none
  | n + 1, σ, v1, v2, v3, v4, v5, v7 => fX12_expectedNow_b6 (fX12_expectedNow_l6 n) σ v1 v2 v3 v4 v5 v7
def fX12_expectedNow (σ : SM) (v1 : Int32) (v2 : Int32) (v3 : Int32) (v4 : Int32) : Option (Int64 × SM) :=
  fX12_expectedNow_l6 1000 σ v1 v2 v3 v4 (0 : Int64) (0 : Int32)
def fX12_areMany_b14 (σ : SM) (w0 : Int32) : Option (Int32) :=
  (if w0 = 0 ∨ w0 = 1 then some (w0) else none)
def fX12_areMany (σ : SM) : Option (Int32) :=
  (if (7 : Int32) < (gm_od_updates σ) then
    fX12_areMany_b14 σ (1 : Int32)
  else
    fX12_areMany_b14 σ (0 : Int32))
def fX12_expected_b112 (σ : SM) (v5 : Int32) (w0 : Int64) (w1 : Int64) : Option (Int64 × SM) :=
  ((fX12_all σ).bind (fun r5 =>
    ((fX12_lowest w1 (w0 * r5) v5).bind (fun r6 =>
      some (r6, σ)))))
def fX12_expected_b78 (σ : SM) (v1 : Int32) (v2 : Int32) (v3 : Int32) (v4 : Int32) (v5 : Int32) : Option (Int64 × SM) :=
  ((fX12_areMany σ).bind (fun r7 =>
    (if r7 = 0 then
      ((fX12_expectedNow σ v1 v2 v3 v4).bind (fun r8 =>
        (if v1 = (3 : Int32) then
          fX12_expected_b112 r8.2 v5 (60 : Int64) r8.1
        else
          fX12_expected_b112 r8.2 v5 (10 : Int64) r8.1)))
    else
      some ((-103 : Int64), σ))))
def fX12_expected_b58 (σ : SM) (v1 : Int32) (v2 : Int32) (v3 : Int32) (v4 : Int32) (v5 : Int32) : Option (Int64 × SM) :=
  (if v1 = (3 : Int32) then
    ((fX12_within v4 (0 : Int32) (10 : Int32)).bind (fun r9 =>
      (if r9 = 0 then
        some ((-102 : Int64), σ)
      else
        fX12_expected_b78 σ v1 v2 v3 v4 v5)))
  else
    fX12_expected_b78 σ v1 v2 v3 v4 v5)
def fX12_expected_b37 (σ : SM) : Option (Int64 × SM) :=
  some ((-102 : Int64), σ)
def fX12_expected (σ : SM) (v1 : Int32) (v2 : Int32) (v3 : Int32) (v4 : Int32) (v5 : Int32) : Option (Int64 × SM) :=
  (if (gm_rg_rings σ) = 0 then
    some ((-103 : Int64), σ)
  else
    ((fX12_within v1 (0 : Int32) (3 : Int32)).bind (fun r1 =>
      (if r1 = 0 then
        fX12_expected_b37 σ
      else
        ((fX12_within v2 (0 : Int32) (5 : Int32)).bind (fun r2 =>
          (if r2 = 0 then
            fX12_expected_b37 σ
          else
            ((fX12_isPart v5).bind (fun r3 =>
              (if r3 = 0 then
                fX12_expected_b37 σ
              else
                (if v1 = (3 : Int32) then
                  ((fX12_isFree σ v3).bind (fun r4 =>
                    (if r4 = 0 then
                      some ((-101 : Int64), σ)
                    else
                      fX12_expected_b58 σ v1 v2 v3 v4 v5)))
                else
                  fX12_expected_b58 σ v1 v2 v3 v4 v5)))))))))))
def fX12_next_b143 (k65 : SM → Int32 → Int32 → Int32 → Int32 → Int64 → Int32 → Option (Int32 × SM)) (σ : SM) (v1 : Int32) (v2 : Int32) (v3 : Int32) (v4 : Int32) (v7 : Int32) (w0 : Int64) : Option (Int32 × SM) :=
  k65 σ v1 v2 v3 v4 w0 (v7 + (1 : Int32))
def fX12_next_b129 (k65 : SM → Int32 → Int32 → Int32 → Int32 → Int64 → Int32 → Option (Int32 × SM)) (σ : SM) (v1 : Int32) (v2 : Int32) (v3 : Int32) (v5 : Int64) (v7 : Int32) (v8 : Int64) (v10 : Int32) (w0 : Int32) : Option (Int32 × SM) :=
  (if v10 = 0 then
    fX12_next_b143 k65 σ v1 v2 v3 w0 v7 v5
  else
    fX12_next_b143 k65 σ v1 v2 v3 w0 v7 v8)
def fX12_next_b115 (k65 : SM → Int32 → Int32 → Int32 → Int32 → Int64 → Int32 → Option (Int32 × SM)) (σ : SM) (v1 : Int32) (v2 : Int32) (v3 : Int32) (v4 : Int32) (v5 : Int64) (v7 : Int32) (v8 : Int64) (w0 : Int32) : Option (Int32 × SM) :=
  (if w0 = 0 then
    fX12_next_b129 k65 σ v1 v2 v3 v5 v7 v8 w0 v4
  else
    fX12_next_b129 k65 σ v1 v2 v3 v5 v7 v8 w0 v7)
def fX12_next_b110 (k65 : SM → Int32 → Int32 → Int32 → Int32 → Int64 → Int32 → Option (Int32 × SM)) (σ : SM) (v1 : Int32) (v2 : Int32) (v3 : Int32) (v4 : Int32) (v5 : Int64) (v7 : Int32) (v8 : Int64) : Option (Int32 × SM) :=
  fX12_next_b115 k65 σ v1 v2 v3 v4 v5 v7 v8 (1 : Int32)
def fX12_next_b93 (k65 : SM → Int32 → Int32 → Int32 → Int32 → Int64 → Int32 → Option (Int32 × SM)) (σ : SM) (v1 : Int32) (v2 : Int32) (v3 : Int32) (v4 : Int32) (v5 : Int64) (v7 : Int32) (w0 : Int64) (w1 : Int64) : Option (Int32 × SM) :=
  (if v4 = (-1 : Int32) then
    fX12_next_b110 k65 σ v1 v2 v3 v4 v5 v7 (w1 * w0)
  else
    (if v5 < (w1 * w0) then
      fX12_next_b110 k65 σ v1 v2 v3 v4 v5 v7 (w1 * w0)
    else
      fX12_next_b115 k65 σ v1 v2 v3 v4 v5 v7 (w1 * w0) (0 : Int32)))
def fX12_next_b65 (k65 : SM → Int32 → Int32 → Int32 → Int32 → Int64 → Int32 → Option (Int32 × SM)) (σ : SM) (v1 : Int32) (v2 : Int32) (v3 : Int32) (v4 : Int32) (v5 : Int64) (v7 : Int32) : Option (Int32 × SM) :=
  (if v7 < (4 : Int32) then
    ((fX12_expectedNow σ v7 v1 v2 v3).bind (fun r5 =>
      (if v7 = (3 : Int32) then
        fX12_next_b93 k65 r5.2 v1 v2 v3 v4 v5 v7 (1 : Int64) r5.1
      else
        fX12_next_b93 k65 r5.2 v1 v2 v3 v4 v5 v7 (6 : Int64) r5.1)))
  else
    some (v4, σ))
def fX12_next_l65 : Nat → SM → Int32 → Int32 → Int32 → Int32 → Int64 → Int32 → Option (Int32 × SM)
  | 0, _, _, _, _, _, _, _ => none
  | n + 1, σ, v1, v2, v3, v4, v5, v7 => fX12_next_b65 (fX12_next_l65 n) σ v1 v2 v3 v4 v5 v7
def fX12_next (σ : SM) (v1 : Int32) (v2 : Int32) (v3 : Int32) : Option (Int32 × SM) :=
  (if (gm_rg_rings σ) = 0 then
    some ((-103 : Int32), σ)
  else
    ((fX12_within v1 (0 : Int32) (5 : Int32)).bind (fun r1 =>
      (if r1 = 0 then
        some ((-102 : Int32), σ)
      else
        ((fX12_isFree σ v2).bind (fun r2 =>
          (if r2 = 0 then
            some ((-101 : Int32), σ)
          else
            ((fX12_within v3 (0 : Int32) (10 : Int32)).bind (fun r3 =>
              (if r3 = 0 then
                some ((-102 : Int32), σ)
              else
                ((fX12_areMany σ).bind (fun r4 =>
                  (if r4 = 0 then
                    fX12_next_l65 1000 σ v1 v2 v3 (-1 : Int32) (0 : Int64) (0 : Int32)
                  else
                    some ((-103 : Int32), σ))))))))))))))
def fX12_post_b38 (σ : SM) : Option (Int64 × SM) :=
  some ((-1000000000000000002 : Int64), σ)
def fX12_post_b18 (σ : SM) : Option (Int64 × SM) :=
  some ((-1000000000000000001 : Int64), σ)
def fX12_post (σ : SM) (v1 : Int32) (v2 : Int32) (v3 : Int32) : Option (Int64 × SM) :=
  ((fX12_isCell σ v1).bind (fun r1 =>
    (if r1 = 0 then
      fX12_post_b18 σ
    else
      (if ¬ (v1 < 0 ∨ 36 ≤ v1.toNatClampNeg) then
        (if ((gm_rg_cellOf σ) v1.toNatClampNeg) = (2 : Int32) then
          ((fX12_within v2 (0 : Int32) (5 : Int32)).bind (fun r2 =>
            (if r2 = 0 then
              fX12_post_b38 σ
            else
              ((fX12_isPart v3).bind (fun r3 =>
                (if r3 = 0 then
                  fX12_post_b38 σ
                else
                  ((fX12_areMany σ).bind (fun r4 =>
                    (if r4 = 0 then
                      ((fX12_expectedNow σ (0 : Int32) v2 (0 : Int32) (0 : Int32)).bind (fun r5 =>
                        ((fX12_expectedNow (sm_rp_gonePost r5.2 v1) (0 : Int32) v2 (0 : Int32) (0 : Int32)).bind (fun r6 =>
                          ((fX12_all (sm_rp_gonePost r6.2 (-1 : Int32))).bind (fun r7 =>
                            ((fX12_lowest (r5.1 - r6.1) ((10 : Int64) * r7) v3).bind (fun r8 =>
                              some (r8, (sm_rp_gonePost r6.2 (-1 : Int32)))))))))))
                    else
                      some ((-1000000000000000003 : Int64), σ))))))))))
        else
          fX12_post_b18 σ)
      else none))))
def fX12_isPlayer (σ : SM) (v1 : Int32) : Option (Int32) :=
  ((fX12_within v1 (0 : Int32) ((gm_pl_players σ) - (1 : Int32))).bind (fun r1 =>
    (if r1 = 0 ∨ r1 = 1 then some (r1) else none)))
def fX12_player_b53 (σ : SM) : Option (Int32 × SM) :=
  some ((-102 : Int32), σ)
def fX12_player (σ : SM) (v1 : Int32) (v2 : Int32) (v3 : Int32) (v4 : Int32) (v5 : Int32) : Option (Int32 × SM) :=
  ((fX12_within v1 (0 : Int32) (5 : Int32)).bind (fun r1 =>
    (if r1 = 0 then
      some ((-102 : Int32), σ)
    else
      ((fX12_isFree σ v2).bind (fun r2 =>
        (if r2 = 0 then
          some ((-101 : Int32), σ)
        else
          ((fX12_within v3 (0 : Int32) (9 : Int32)).bind (fun r3 =>
            (if r3 = 0 then
              fX12_player_b53 σ
            else
              ((fX12_within v4 (0 : Int32) (4 : Int32)).bind (fun r4 =>
                (if r4 = 0 then
                  fX12_player_b53 σ
                else
                  ((fX12_within v5 (0 : Int32) (4 : Int32)).bind (fun r5 =>
                    (if r5 = 0 then
                      fX12_player_b53 σ
                    else
                      (if (gm_pl_players σ) = (6 : Int32) then
                        some ((-104 : Int32), σ)
                      else
                        (if ¬ ((gm_pl_players σ) < 0 ∨ 6 ≤ (gm_pl_players σ).toNatClampNeg) then
                          (if ¬ ((gm_pl_players σ) < 0 ∨ 6 ≤ (gm_pl_players σ).toNatClampNeg) then
                            (if ¬ ((gm_pl_players σ) < 0 ∨ 6 ≤ (gm_pl_players σ).toNatClampNeg) then
                              (if ¬ ((gm_pl_players σ) < 0 ∨ 6 ≤ (gm_pl_players σ).toNatClampNeg) then
                                (if ¬ ((gm_pl_players σ) < 0 ∨ 6 ≤ (gm_pl_players σ).toNatClampNeg) then
                                  some ((((gm_pl_players σ) + (1 : Int32)) - (1 : Int32)), (sm_pl_players (sm_pl_giggleOf (sm_pl_clothOf (sm_pl_sizeOf (sm_pl_placeOf (sm_pl_kindOf σ (upd (gm_pl_kindOf σ) (gm_pl_players σ).toNatClampNeg v1)) (upd (gm_pl_placeOf σ) (gm_pl_players σ).toNatClampNeg v2)) (upd (gm_pl_sizeOf σ) (gm_pl_players σ).toNatClampNeg v3)) (upd (gm_pl_clothOf σ) (gm_pl_players σ).toNatClampNeg v4)) (upd (gm_pl_giggleOf σ) (gm_pl_players σ).toNatClampNeg v5)) ((gm_pl_players σ) + (1 : Int32))))
                                else none)
                              else none)
                            else none)
                          else none)
                        else none)))))))))))))))))
def fX12_as_b64 (σ : SM) (w0 : Int32) : Option (Int32) :=
  some (w0)
def fX12_as_b63 (σ : SM) : Option (Int32) :=
  fX12_as_b64 σ (-1 : Int32)
def fX12_as_b59 (σ : SM) (v1 : Int32) : Option (Int32) :=
  fX12_as_b64 σ v1
def fX12_as_b49 (σ : SM) (v1 : Int32) (v2 : Int32) (v3 : Int32) : Option (Int32) :=
  (if v2 = (3 : Int32) then
    (if v3 = (4 : Int32) then
      fX12_as_b59 σ v1
    else
      fX12_as_b63 σ)
  else
    fX12_as_b63 σ)
def fX12_as (σ : SM) (v1 : Int32) (v2 : Int32) : Option (Int32) :=
  ((fX12_isPlayer σ v1).bind (fun r1 =>
    (if r1 = 0 then
      some ((-101 : Int32))
    else
      ((fX12_within v2 (0 : Int32) (5 : Int32)).bind (fun r2 =>
        (if r2 = 0 then
          some ((-102 : Int32))
        else
          (if ¬ (v1 < 0 ∨ 6 ≤ v1.toNatClampNeg) then
            (if v2 = 0 then
              fX12_as_b59 σ v1
            else
              (if ((gm_pl_kindOf σ) v1.toNatClampNeg) = v2 then
                fX12_as_b59 σ v1
              else
                (if v2 = (1 : Int32) then
                  (if ((gm_pl_kindOf σ) v1.toNatClampNeg) = (2 : Int32) then
                    fX12_as_b59 σ v1
                  else
                    fX12_as_b49 σ v1 v2 ((gm_pl_kindOf σ) v1.toNatClampNeg))
                else
                  fX12_as_b49 σ v1 v2 ((gm_pl_kindOf σ) v1.toNatClampNeg))))
          else none)))))))
def fX12_playerTold (σ : SM) (v1 : Int32) (v2 : Int32) : Option (Int32) :=
  (if v2 = (0 : Int32) then
    (if ¬ (v1 < 0 ∨ 6 ≤ v1.toNatClampNeg) then
      some (((gm_pl_kindOf σ) v1.toNatClampNeg))
    else none)
  else (if v2 = (1 : Int32) then
    (if ¬ (v1 < 0 ∨ 6 ≤ v1.toNatClampNeg) then
      some (((gm_pl_placeOf σ) v1.toNatClampNeg))
    else none)
  else (if v2 = (2 : Int32) then
    (if ¬ (v1 < 0 ∨ 6 ≤ v1.toNatClampNeg) then
      some (((gm_pl_sizeOf σ) v1.toNatClampNeg))
    else none)
  else (if v2 = (3 : Int32) then
    (if ¬ (v1 < 0 ∨ 6 ≤ v1.toNatClampNeg) then
      some (((gm_pl_clothOf σ) v1.toNatClampNeg))
    else none)
  else (if ¬ (v1 < 0 ∨ 6 ≤ v1.toNatClampNeg) then
      some (((gm_pl_giggleOf σ) v1.toNatClampNeg))
    else none)))))
def fX12_about_b33 (σ : SM) (w0 : Int32) : Option (Int32) :=
  some (w0)
def fX12_about (σ : SM) (v1 : Int32) (v2 : Int32) : Option (Int32) :=
  ((fX12_isPlayer σ v1).bind (fun r1 =>
    (if r1 = 0 then
      fX12_about_b33 σ (-101 : Int32)
    else
      ((fX12_within v2 (0 : Int32) (4 : Int32)).bind (fun r2 =>
        (if r2 = 0 then
          fX12_about_b33 σ (-102 : Int32)
        else
          ((fX12_playerTold σ v1 v2).bind (fun r3 =>
            fX12_about_b33 σ r3))))))))
def fX12_move_b16 (σ : SM) : Option (Int32 × SM) :=
  some ((-101 : Int32), σ)
def fX12_move (σ : SM) (v1 : Int32) (v2 : Int32) : Option (Int32 × SM) :=
  ((fX12_isPlayer σ v1).bind (fun r1 =>
    (if r1 = 0 then
      fX12_move_b16 σ
    else
      ((fX12_isFree σ v2).bind (fun r2 =>
        (if r2 = 0 then
          fX12_move_b16 σ
        else
          (if ¬ (v1 < 0 ∨ 6 ≤ v1.toNatClampNeg) then
            (if ¬ (v1 < 0 ∨ 6 ≤ v1.toNatClampNeg) then
              some (((gm_pl_placeOf σ) v1.toNatClampNeg), (sm_pl_placeOf σ (upd (gm_pl_placeOf σ) v1.toNatClampNeg v2)))
            else none)
          else none)))))))
def fX12_draw (σ : SM) (v1 : Int32) : Option (Int32 × SM) :=
  (if ¬ v1.toInt64 = 0 then
    some (((((((1103515245 : Int64) * (gm_gm_seedNow σ)) + (12345 : Int64)) &&& (2147483647 : Int64)) / (65536 : Int64)) - (((((1103515245 : Int64) * (gm_gm_seedNow σ)) + (12345 : Int64)) &&& (2147483647 : Int64)) / (65536 : Int64)) / v1.toInt64 * v1.toInt64).toInt32, (sm_gm_seedNow σ ((((1103515245 : Int64) * (gm_gm_seedNow σ)) + (12345 : Int64)) &&& (2147483647 : Int64))))
  else none)
def fX12_far (σ : SM) (v1 : Int32) (v2 : Int32) (v3 : Int32) : Option (Int32) :=
  (if ¬ (gm_rg_columns σ) = 0 then
    ((fX12_size ((v1 / (gm_rg_columns σ)) - v2)).bind (fun r1 =>
      (if ¬ (gm_rg_columns σ) = 0 then
        ((fX12_size ((v1 - v1 / (gm_rg_columns σ) * (gm_rg_columns σ)) - v3)).bind (fun r2 =>
          some ((r1 + r2))))
      else none)))
  else none)
def fX12_goes_b95 (σ : SM) (k6 : Int32 → Int32 → Int32 → Int32 → Int32 → Int32 → Option (Int32)) (v1 : Int32) (v2 : Int32) (v3 : Int32) (v4 : Int32) (v6 : Int32) (w0 : Int32) : Option (Int32) :=
  k6 v1 v2 v3 v4 w0 (v6 + (1 : Int32))
def fX12_goes_b93 (σ : SM) (k6 : Int32 → Int32 → Int32 → Int32 → Int32 → Int32 → Option (Int32)) (v1 : Int32) (v2 : Int32) (v3 : Int32) (v4 : Int32) (v5 : Int32) (v6 : Int32) : Option (Int32) :=
  fX12_goes_b95 σ k6 v1 v2 v3 v4 v6 v5
def fX12_goes_b88 (σ : SM) (k6 : Int32 → Int32 → Int32 → Int32 → Int32 → Int32 → Option (Int32)) (v1 : Int32) (v2 : Int32) (v3 : Int32) (v4 : Int32) (v6 : Int32) (v7 : Int32) : Option (Int32) :=
  fX12_goes_b95 σ k6 v1 v2 v3 v4 v6 v7
def fX12_goes_b39 (σ : SM) (k6 : Int32 → Int32 → Int32 → Int32 → Int32 → Int32 → Option (Int32)) (v1 : Int32) (v2 : Int32) (v3 : Int32) (v4 : Int32) (v5 : Int32) (v6 : Int32) (v7 : Int32) (w0 : Int32) : Option (Int32) :=
  ((fX12_far σ v5 v2 v3).bind (fun r1 =>
    (if v7 = (-1 : Int32) then
      fX12_goes_b93 σ k6 v1 v2 v3 v4 v5 v6
    else
      ((fX12_isFree σ v7).bind (fun r2 =>
        (if r2 = 0 then
          fX12_goes_b93 σ k6 v1 v2 v3 v4 v5 v6
        else
          (if v4 = 0 then
            (if w0 < r1 then
              fX12_goes_b88 σ k6 v1 v2 v3 v4 v6 v7
            else
              fX12_goes_b93 σ k6 v1 v2 v3 v4 v5 v6)
          else
            (if r1 < w0 then
              fX12_goes_b88 σ k6 v1 v2 v3 v4 v6 v7
            else
              fX12_goes_b93 σ k6 v1 v2 v3 v4 v5 v6))))))))
def fX12_goes_b6 (σ : SM) (k6 : Int32 → Int32 → Int32 → Int32 → Int32 → Int32 → Option (Int32)) (v1 : Int32) (v2 : Int32) (v3 : Int32) (v4 : Int32) (v5 : Int32) (v6 : Int32) : Option (Int32) :=
  (if v6 < (4 : Int32) then
    ((fX12_on σ v1 v6).bind (fun r3 =>
      (if r3 = (-1 : Int32) then
        fX12_goes_b39 σ k6 v1 v2 v3 v4 v5 v6 r3 (0 : Int32)
      else
        ((fX12_far σ r3 v2 v3).bind (fun r4 =>
          fX12_goes_b39 σ k6 v1 v2 v3 v4 v5 v6 r3 r4)))))
  else
    some (v5))
def fX12_goes_l6 (σ : SM) : Nat → Int32 → Int32 → Int32 → Int32 → Int32 → Int32 → Option (Int32)
  | 0, _, _, _, _, _, _ => none
  | n + 1, v1, v2, v3, v4, v5, v6 => fX12_goes_b6 σ (fX12_goes_l6 σ n) v1 v2 v3 v4 v5 v6
def fX12_goes (σ : SM) (v1 : Int32) (v2 : Int32) (v3 : Int32) (v4 : Int32) : Option (Int32) :=
  fX12_goes_l6 σ 1000 v1 v2 v3 v4 v1 (0 : Int32)
def fX12_goPlayers_b167 (k79 : SM → Int32 → Int32 → Int32 → Int32 → Int32 → Option (SM)) (σ : SM) (v1 : Int32) (v2 : Int32) (v3 : Int32) (v4 : Int32) (v5 : Int32) : Option (SM) :=
  k79 σ v1 v2 v3 v4 (v5 + (1 : Int32))
def fX12_goPlayers_b110 (k79 : SM → Int32 → Int32 → Int32 → Int32 → Int32 → Option (SM)) (σ : SM) (v1 : Int32) (v2 : Int32) (v3 : Int32) (v4 : Int32) (v5 : Int32) : Option (SM) :=
  (if ¬ (v5 < 0 ∨ 6 ≤ v5.toNatClampNeg) then
    ((fX12_goes σ ((gm_gm_place σ) v5.toNatClampNeg) v1 v2 (1 : Int32)).bind (fun r1 =>
      (if ¬ (v5 < 0 ∨ 6 ≤ v5.toNatClampNeg) then
        fX12_goPlayers_b167 k79 (sm_gm_place σ (upd (gm_gm_place σ) v5.toNatClampNeg r1)) v1 v2 v3 v4 v5
      else none)))
  else none)
def fX12_goPlayers_b79 (k79 : SM → Int32 → Int32 → Int32 → Int32 → Int32 → Option (SM)) (σ : SM) (v1 : Int32) (v2 : Int32) (v3 : Int32) (v4 : Int32) (v5 : Int32) : Option (SM) :=
  (if v5 < (gm_pl_players σ) then
    (if ¬ (v5 < 0 ∨ 6 ≤ v5.toNatClampNeg) then
      (if ((gm_pl_kindOf σ) v5.toNatClampNeg) = (1 : Int32) then
        fX12_goPlayers_b110 k79 σ v1 v2 v3 v4 v5
      else
        (if ¬ (v5 < 0 ∨ 6 ≤ v5.toNatClampNeg) then
          (if ((gm_pl_kindOf σ) v5.toNatClampNeg) = (2 : Int32) then
            fX12_goPlayers_b110 k79 σ v1 v2 v3 v4 v5
          else
            (if ¬ (v5 < 0 ∨ 6 ≤ v5.toNatClampNeg) then
              (if ((gm_pl_kindOf σ) v5.toNatClampNeg) = (5 : Int32) then
                (if ¬ (v5 < 0 ∨ 6 ≤ v5.toNatClampNeg) then
                  ((fX12_goes σ ((gm_gm_place σ) v5.toNatClampNeg) v3 v4 (0 : Int32)).bind (fun r2 =>
                    (if ¬ (v5 < 0 ∨ 6 ≤ v5.toNatClampNeg) then
                      fX12_goPlayers_b167 k79 (sm_gm_place σ (upd (gm_gm_place σ) v5.toNatClampNeg r2)) v1 v2 v3 v4 v5
                    else none)))
                else none)
              else
                fX12_goPlayers_b167 k79 σ v1 v2 v3 v4 v5)
            else none))
        else none))
    else none)
  else
    some (σ))
def fX12_goPlayers_l79 : Nat → SM → Int32 → Int32 → Int32 → Int32 → Int32 → Option (SM)
  | 0, _, _, _, _, _, _ => none
  | n + 1, σ, v1, v2, v3, v4, v5 => fX12_goPlayers_b79 (fX12_goPlayers_l79 n) σ v1 v2 v3 v4 v5
def fX12_goPlayers_b73 (σ : SM) (v1 : Int32) (v2 : Int32) (v3 : Int32) (w0 : Int32) (w1 : Int32) : Option (SM) :=
  fX12_goPlayers_l79 1000 σ v1 v2 v3 (w1 + w0) (0 : Int32)
def fX12_goPlayers_b45 (σ : SM) (v1 : Int32) (v2 : Int32) (w0 : Int32) (w1 : Int32) : Option (SM) :=
  (if (gm_gm_looks σ) = (1 : Int32) then
    fX12_goPlayers_b73 σ v1 v2 (w1 + w0) (-1 : Int32) v2
  else
    (if (gm_gm_looks σ) = (3 : Int32) then
      fX12_goPlayers_b73 σ v1 v2 (w1 + w0) (1 : Int32) v2
    else
      fX12_goPlayers_b73 σ v1 v2 (w1 + w0) (0 : Int32) v2))
def fX12_goPlayers (σ : SM) : Option (SM) :=
  (if ¬ (gm_rg_columns σ) = 0 then
    (if ¬ (gm_rg_columns σ) = 0 then
      (if (gm_gm_looks σ) = 0 then
        fX12_goPlayers_b45 σ ((gm_gm_his σ) / (gm_rg_columns σ)) ((gm_gm_his σ) - (gm_gm_his σ) / (gm_rg_columns σ) * (gm_rg_columns σ)) (1 : Int32) ((gm_gm_his σ) / (gm_rg_columns σ))
      else
        (if (gm_gm_looks σ) = (2 : Int32) then
          fX12_goPlayers_b45 σ ((gm_gm_his σ) / (gm_rg_columns σ)) ((gm_gm_his σ) - (gm_gm_his σ) / (gm_rg_columns σ) * (gm_rg_columns σ)) (-1 : Int32) ((gm_gm_his σ) / (gm_rg_columns σ))
        else
          fX12_goPlayers_b45 σ ((gm_gm_his σ) / (gm_rg_columns σ)) ((gm_gm_his σ) - (gm_gm_his σ) / (gm_rg_columns σ) * (gm_rg_columns σ)) (0 : Int32) ((gm_gm_his σ) / (gm_rg_columns σ))))
    else none)
  else none)
def fX12_callOf_b65 (σ : SM) (w0 : Int32) : Option (Int32) :=
  some (w0)
def fX12_callOf (σ : SM) (v1 : Int32) : Option (Int32) :=
  (if ¬ (v1 < 0 ∨ 6 ≤ v1.toNatClampNeg) then
    (if ¬ (gm_rg_columns σ) = 0 then
      (if ¬ (v1 < 0 ∨ 6 ≤ v1.toNatClampNeg) then
        (if ¬ (gm_rg_columns σ) = 0 then
          (if ¬ (v1 < 0 ∨ 6 ≤ v1.toNatClampNeg) then
            (if ((gm_pl_kindOf σ) v1.toNatClampNeg) = (4 : Int32) then
              fX12_callOf_b65 σ (((((((gm_rg_rows σ) - (1 : Int32)) - (((gm_gm_place σ) v1.toNatClampNeg) / (gm_rg_columns σ))) * (gm_rg_columns σ)) + (gm_rg_columns σ)) - (1 : Int32)) - (((gm_gm_place σ) v1.toNatClampNeg) - ((gm_gm_place σ) v1.toNatClampNeg) / (gm_rg_columns σ) * (gm_rg_columns σ)))
            else
              (if ¬ (v1 < 0 ∨ 6 ≤ v1.toNatClampNeg) then
                fX12_callOf_b65 σ ((gm_gm_place σ) v1.toNatClampNeg)
              else none))
          else none)
        else none)
      else none)
    else none)
  else none)
def fX12_nearestCall_b98 (σ : SM) (k4 : Int32 → Int32 → Option (Int32)) (v1 : Int32) (v2 : Int32) : Option (Int32) :=
  k4 v1 (v2 + (1 : Int32))
def fX12_nearestCall_b97 (σ : SM) (k4 : Int32 → Int32 → Option (Int32)) (v2 : Int32) (w0 : Int32) : Option (Int32) :=
  fX12_nearestCall_b98 σ k4 w0 v2
def fX12_nearestCall_b92 (σ : SM) (k4 : Int32 → Int32 → Option (Int32)) (v2 : Int32) (v3 : Int32) : Option (Int32) :=
  fX12_nearestCall_b97 σ k4 v2 v3
def fX12_nearestCall_b32 (σ : SM) (k4 : Int32 → Int32 → Option (Int32)) (v1 : Int32) (v2 : Int32) : Option (Int32) :=
  ((fX12_callOf σ v2).bind (fun r1 =>
    (if v1 = (-1 : Int32) then
      fX12_nearestCall_b92 σ k4 v2 r1
    else
      (if ¬ (gm_rg_columns σ) = 0 then
        (if ¬ (gm_rg_columns σ) = 0 then
          ((fX12_far σ r1 ((gm_gm_his σ) / (gm_rg_columns σ)) ((gm_gm_his σ) - (gm_gm_his σ) / (gm_rg_columns σ) * (gm_rg_columns σ))).bind (fun r2 =>
            (if ¬ (gm_rg_columns σ) = 0 then
              (if ¬ (gm_rg_columns σ) = 0 then
                ((fX12_far σ v1 ((gm_gm_his σ) / (gm_rg_columns σ)) ((gm_gm_his σ) - (gm_gm_his σ) / (gm_rg_columns σ) * (gm_rg_columns σ))).bind (fun r3 =>
                  (if r2 < r3 then
                    fX12_nearestCall_b92 σ k4 v2 r1
                  else
                    fX12_nearestCall_b97 σ k4 v2 v1)))
              else none)
            else none)))
        else none)
      else none))))
def fX12_nearestCall_b4 (σ : SM) (k4 : Int32 → Int32 → Option (Int32)) (v1 : Int32) (v2 : Int32) : Option (Int32) :=
  (if v2 < (gm_pl_players σ) then
    (if ¬ (v2 < 0 ∨ 6 ≤ v2.toNatClampNeg) then
      (if ((gm_pl_kindOf σ) v2.toNatClampNeg) = (3 : Int32) then
        fX12_nearestCall_b32 σ k4 v1 v2
      else
        (if ¬ (v2 < 0 ∨ 6 ≤ v2.toNatClampNeg) then
          (if ((gm_pl_kindOf σ) v2.toNatClampNeg) = (4 : Int32) then
            fX12_nearestCall_b32 σ k4 v1 v2
          else
            fX12_nearestCall_b98 σ k4 v1 v2)
        else none))
    else none)
  else
    some (v1))
def fX12_nearestCall_l4 (σ : SM) : Nat → Int32 → Int32 → Option (Int32)
  | 0, _, _ => none
  | n + 1, v1, v2 => fX12_nearestCall_b4 σ (fX12_nearestCall_l4 σ n) v1 v2
def fX12_nearestCall (σ : SM) : Option (Int32) :=
  fX12_nearestCall_l4 σ 1000 (-1 : Int32) (0 : Int32)
def fX12_goHim_b114 (σ : SM) : Option (SM) :=
  some (σ)
def fX12_goHim_b67 (σ : SM) (w0 : Int32) : Option (SM) :=
  ((fX12_on (sm_gm_looks σ w0) (gm_gm_his σ) w0).bind (fun r2 =>
    ((fX12_isFree (sm_gm_looks σ w0) r2).bind (fun r3 =>
      (if r3 = 0 then
        fX12_goHim_b114 (sm_gm_looks (sm_gm_looks σ w0) ((w0 + (1 : Int32)) - (w0 + (1 : Int32)) / (4 : Int32) * (4 : Int32)))
      else
        fX12_goHim_b114 (sm_gm_his (sm_gm_looks σ w0) r2))))))
def fX12_goHim_b41 (σ : SM) (v2 : Int32) : Option (SM) :=
  ((fX12_draw σ (10 : Int32)).bind (fun r4 =>
    (if r4.1 < v2 then
      fX12_goHim_b67 r4.2 (((gm_gm_looks r4.2) + (1 : Int32)) - ((gm_gm_looks r4.2) + (1 : Int32)) / (4 : Int32) * (4 : Int32))
    else
      fX12_goHim_b67 r4.2 (gm_gm_looks r4.2))))
def fX12_goHim_b14 (σ : SM) (v2 : Int32) (w0 : Int32) : Option (SM) :=
  (if w0 = (-1 : Int32) then
    fX12_goHim_b41 σ v2
  else
    (if w0 = (gm_gm_his σ) then
      fX12_goHim_b41 σ v2
    else
      ((fX12_liesFrom σ (gm_gm_his σ) w0).bind (fun r5 =>
        fX12_goHim_b41 (sm_gm_looks σ r5) v2))))
def fX12_goHim (σ : SM) (v1 : Int32) (v2 : Int32) : Option (SM) :=
  (if (v1 - v1 / (3 : Int32) * (3 : Int32)) = 0 then
    ((fX12_nearestCall σ).bind (fun r1 =>
      fX12_goHim_b14 σ v2 r1))
  else
    fX12_goHim_b14 σ v2 (-1 : Int32))
def fX12_touchedNow_b45 (k2 : SM → Int32 → Option (Int32 × SM)) (σ : SM) (v1 : Int32) : Option (Int32 × SM) :=
  k2 σ (v1 + (1 : Int32))
def fX12_touchedNow_b43 (σ : SM) (v1 : Int32) : Option (Int32 × SM) :=
  some (v1, σ)
def fX12_touchedNow_b2 (k2 : SM → Int32 → Option (Int32 × SM)) (σ : SM) (v1 : Int32) : Option (Int32 × SM) :=
  (if v1 < (gm_pl_players σ) then
    (if ¬ (v1 < 0 ∨ 6 ≤ v1.toNatClampNeg) then
      (if ((gm_gm_place σ) v1.toNatClampNeg) = (gm_gm_his σ) then
        (if ¬ (v1 < 0 ∨ 6 ≤ v1.toNatClampNeg) then
          (if ((gm_pl_kindOf σ) v1.toNatClampNeg) = (2 : Int32) then
            ((fX12_draw σ (10 : Int32)).bind (fun r1 =>
              (if (4 : Int32) < r1.1 then
                fX12_touchedNow_b43 r1.2 v1
              else
                fX12_touchedNow_b45 k2 r1.2 v1)))
          else
            fX12_touchedNow_b43 σ v1)
        else none)
      else
        fX12_touchedNow_b45 k2 σ v1)
    else none)
  else
    some ((-1 : Int32), σ))
def fX12_touchedNow_l2 : Nat → SM → Int32 → Option (Int32 × SM)
  | 0, _, _ => none
  | n + 1, σ, v1 => fX12_touchedNow_b2 (fX12_touchedNow_l2 n) σ v1
def fX12_touchedNow (σ : SM) : Option (Int32 × SM) :=
  fX12_touchedNow_l2 1000 σ (0 : Int32)
def fX12_play_b122 (σ : SM) : Option (SM) :=
  some (σ)
def fX12_play_b113 (k63 : SM → Int32 → Int32 → Int32 → Option (SM)) (σ : SM) (v3 : Int32) (v5 : Int32) (v6 : Int32) (w0 : Int32) : Option (SM) :=
  k63 (sm_gm_touchedAt σ w0) v3 v5 (v6 + (1 : Int32))
def fX12_play_b63 (k63 : SM → Int32 → Int32 → Int32 → Option (SM)) (σ : SM) (v3 : Int32) (v5 : Int32) (v6 : Int32) : Option (SM) :=
  (if v6 < v5 then
    (if (gm_gm_touched σ) = (-1 : Int32) then
      ((fX12_goPlayers σ).bind (fun r1 =>
        ((fX12_goHim r1 v6 v3).bind (fun r2 =>
          ((fX12_touchedNow r2).bind (fun r3 =>
            (if r3.1 = (-1 : Int32) then
              fX12_play_b113 k63 (sm_gm_touched r3.2 r3.1) v3 v5 v6 v5
            else
              fX12_play_b113 k63 (sm_gm_touched r3.2 r3.1) v3 v5 v6 v6)))))))
    else
      fX12_play_b122 σ)
  else
    fX12_play_b122 σ)
def fX12_play_l63 : Nat → SM → Int32 → Int32 → Int32 → Option (SM)
  | 0, _, _, _, _ => none
  | n + 1, σ, v3, v5, v6 => fX12_play_b63 (fX12_play_l63 n) σ v3 v5 v6
def fX12_play_b31 (k31 : SM → Int32 → Int32 → Int32 → Option (SM)) (σ : SM) (v3 : Int32) (v5 : Int32) (v6 : Int32) : Option (SM) :=
  (if v6 < (gm_pl_players σ) then
    (if ¬ (v6 < 0 ∨ 6 ≤ v6.toNatClampNeg) then
      (if ¬ (v6 < 0 ∨ 6 ≤ v6.toNatClampNeg) then
        k31 (sm_gm_place σ (upd (gm_gm_place σ) v6.toNatClampNeg ((gm_pl_placeOf σ) v6.toNatClampNeg))) v3 v5 (v6 + (1 : Int32))
      else none)
    else none)
  else
    fX12_play_l63 1000 σ v3 v5 (0 : Int32))
def fX12_play_l31 : Nat → SM → Int32 → Int32 → Int32 → Option (SM)
  | 0, _, _, _, _ => none
  | n + 1, σ, v3, v5, v6 => fX12_play_b31 (fX12_play_l31 n) σ v3 v5 v6
def fX12_play (σ : SM) (v1 : Int32) (v2 : Int32) (v3 : Int32) (v4 : Int32) (v5 : Int32) : Option (SM) :=
  fX12_play_l31 1000 (sm_gm_touchedAt (sm_gm_touched (sm_gm_seedNow (sm_gm_looks (sm_gm_his σ v1) v2) v4.toInt64) (-1 : Int32)) v5) v3 v5 (0 : Int32)
def fX12_game_b112 (σ : SM) (w0 : Int32) : Option (Int32 × SM) :=
  some (w0, σ)
def fX12_game_b55 (σ : SM) : Option (Int32 × SM) :=
  some ((-102 : Int32), σ)
def fX12_game (σ : SM) (v1 : Int32) (v2 : Int32) (v3 : Int32) (v4 : Int32) (v5 : Int32) (v6 : Int32) : Option (Int32 × SM) :=
  ((fX12_isFree σ v1).bind (fun r1 =>
    (if r1 = 0 then
      some ((-101 : Int32), σ)
    else
      ((fX12_isWay v2).bind (fun r2 =>
        (if r2 = 0 then
          fX12_game_b55 σ
        else
          ((fX12_within v3 (0 : Int32) (9 : Int32)).bind (fun r3 =>
            (if r3 = 0 then
              fX12_game_b55 σ
            else
              (if v4 < 0 then
                fX12_game_b55 σ
              else
                ((fX12_within v5 (1 : Int32) (200 : Int32)).bind (fun r4 =>
                  (if r4 = 0 then
                    fX12_game_b55 σ
                  else
                    ((fX12_within v6 (0 : Int32) (3 : Int32)).bind (fun r5 =>
                      (if r5 = 0 then
                        fX12_game_b55 σ
                      else
                        ((fX12_play σ v1 v2 v3 v4 v5).bind (fun r6 =>
                          (if v6 = 0 then
                            fX12_game_b112 r6 (gm_gm_touched r6)
                          else
                            (if v6 = (1 : Int32) then
                              fX12_game_b112 r6 (gm_gm_touchedAt r6)
                            else
                              (if v6 = (2 : Int32) then
                                fX12_game_b112 r6 (gm_gm_his r6)
                              else
                                fX12_game_b112 r6 ((gm_gm_seedNow r6).toInt32))))))))))))))))))))))
def fX12_lasts_b93 (k60 : SM → Int32 → Int32 → Int32 → Int32 → Int32 → Int32 → Int32 → Option (Int32 × SM)) (σ : SM) (v1 : Int32) (v2 : Int32) (v3 : Int32) (v4 : Int32) (v5 : Int32) (v7 : Int32) (w0 : Int32) (w1 : Int32) : Option (Int32 × SM) :=
  k60 σ v1 v2 v3 v4 v5 (w1 + w0) (v7 + (1 : Int32))
def fX12_lasts_b60 (k60 : SM → Int32 → Int32 → Int32 → Int32 → Int32 → Int32 → Int32 → Option (Int32 × SM)) (σ : SM) (v1 : Int32) (v2 : Int32) (v3 : Int32) (v4 : Int32) (v5 : Int32) (v6 : Int32) (v7 : Int32) : Option (Int32 × SM) :=
  (if v7 < v5 then
    ((fX12_play σ v1 v2 v3 v7 v4).bind (fun r6 =>
      (if (gm_gm_touched r6) = (-1 : Int32) then
        fX12_lasts_b93 k60 r6 v1 v2 v3 v4 v5 v7 (1 : Int32) v6
      else
        fX12_lasts_b93 k60 r6 v1 v2 v3 v4 v5 v7 (0 : Int32) v6)))
  else
    some (v6, σ))
def fX12_lasts_l60 : Nat → SM → Int32 → Int32 → Int32 → Int32 → Int32 → Int32 → Int32 → Option (Int32 × SM)
  | 0, _, _, _, _, _, _, _, _ => none
  | n + 1, σ, v1, v2, v3, v4, v5, v6, v7 => fX12_lasts_b60 (fX12_lasts_l60 n) σ v1 v2 v3 v4 v5 v6 v7
def fX12_lasts_b51 (σ : SM) : Option (Int32 × SM) :=
  some ((-102 : Int32), σ)
def fX12_lasts (σ : SM) (v1 : Int32) (v2 : Int32) (v3 : Int32) (v4 : Int32) (v5 : Int32) : Option (Int32 × SM) :=
  ((fX12_isFree σ v1).bind (fun r1 =>
    (if r1 = 0 then
      some ((-101 : Int32), σ)
    else
      ((fX12_isWay v2).bind (fun r2 =>
        (if r2 = 0 then
          fX12_lasts_b51 σ
        else
          ((fX12_within v3 (0 : Int32) (9 : Int32)).bind (fun r3 =>
            (if r3 = 0 then
              fX12_lasts_b51 σ
            else
              ((fX12_within v4 (1 : Int32) (200 : Int32)).bind (fun r4 =>
                (if r4 = 0 then
                  fX12_lasts_b51 σ
                else
                  ((fX12_within v5 (1 : Int32) (20 : Int32)).bind (fun r5 =>
                    (if r5 = 0 then
                      fX12_lasts_b51 σ
                    else
                      fX12_lasts_l60 1000 σ v1 v2 v3 v4 v5 (0 : Int32) (0 : Int32))))))))))))))))
def fX12_stand_b210 (k103 : SM → Int32 → Int32 → Int32 → Int32 → Int32 → Int32 → Int32 → Int32 → Int32 → Int32 → Option (Int32 × SM)) (σ : SM) (v1 : Int32) (v2 : Int32) (v3 : Int32) (v4 : Int32) (v5 : Int32) (v6 : Int32) (v7 : Int32) (v8 : Int32) (v9 : Int32) (v10 : Int32) : Option (Int32 × SM) :=
  k103 σ v1 v2 v3 v4 v5 v6 v7 v8 v9 (v10 + (1 : Int32))
def fX12_stand_b208 (k103 : SM → Int32 → Int32 → Int32 → Int32 → Int32 → Int32 → Int32 → Int32 → Int32 → Int32 → Option (Int32 × SM)) (σ : SM) (v1 : Int32) (v2 : Int32) (v3 : Int32) (v4 : Int32) (v5 : Int32) (v6 : Int32) (v7 : Int32) (v8 : Int32) (v10 : Int32) (w0 : Int32) : Option (Int32 × SM) :=
  fX12_stand_b210 k103 σ v1 v2 v3 v4 v5 v6 v7 v8 w0 v10
def fX12_stand_b192 (k103 : SM → Int32 → Int32 → Int32 → Int32 → Int32 → Int32 → Int32 → Int32 → Int32 → Int32 → Option (Int32 × SM)) (σ : SM) (v1 : Int32) (v2 : Int32) (v3 : Int32) (v4 : Int32) (v5 : Int32) (v6 : Int32) (v7 : Int32) (v9 : Int32) (v10 : Int32) (v11 : Int32) (w0 : Int32) : Option (Int32 × SM) :=
  (if v11 < v9 then
    fX12_stand_b208 k103 σ v1 v2 v3 v4 v5 v6 v7 w0 v10 v11
  else
    fX12_stand_b208 k103 σ v1 v2 v3 v4 v5 v6 v7 w0 v10 v9)
def fX12_stand_b169 (k103 : SM → Int32 → Int32 → Int32 → Int32 → Int32 → Int32 → Int32 → Int32 → Int32 → Int32 → Option (Int32 × SM)) (k135 : SM → Int32 → Int32 → Int32 → Int32 → Int32 → Int32 → Int32 → Int32 → Int32 → Int32 → Int32 → Int32 → Option (Int32 × SM)) (σ : SM) (v1 : Int32) (v2 : Int32) (v3 : Int32) (v4 : Int32) (v5 : Int32) (v6 : Int32) (v7 : Int32) (v8 : Int32) (v9 : Int32) (v10 : Int32) (v12 : Int32) (w0 : Int32) (w1 : Int32) : Option (Int32 × SM) :=
  k135 σ v1 v2 v3 v4 v5 v6 v7 v8 v9 v10 (w1 + w0) (v12 + (1 : Int32))
def fX12_stand_b135 (k103 : SM → Int32 → Int32 → Int32 → Int32 → Int32 → Int32 → Int32 → Int32 → Int32 → Int32 → Option (Int32 × SM)) (k135 : SM → Int32 → Int32 → Int32 → Int32 → Int32 → Int32 → Int32 → Int32 → Int32 → Int32 → Int32 → Int32 → Option (Int32 × SM)) (σ : SM) (v1 : Int32) (v2 : Int32) (v3 : Int32) (v4 : Int32) (v5 : Int32) (v6 : Int32) (v7 : Int32) (v8 : Int32) (v9 : Int32) (v10 : Int32) (v11 : Int32) (v12 : Int32) : Option (Int32 × SM) :=
  (if v12 < v6 then
    ((fX12_play σ v2 v3 v4 v12 v5).bind (fun r7 =>
      (if (gm_gm_touched r7) = v1 then
        fX12_stand_b169 k103 k135 r7 v1 v2 v3 v4 v5 v6 v7 v8 v9 v10 v12 (1 : Int32) v11
      else
        fX12_stand_b169 k103 k135 r7 v1 v2 v3 v4 v5 v6 v7 v8 v9 v10 v12 (0 : Int32) v11)))
  else
    (if v11 < v9 then
      fX12_stand_b192 k103 σ v1 v2 v3 v4 v5 v6 v7 v9 v10 v11 v10
    else
      fX12_stand_b192 k103 σ v1 v2 v3 v4 v5 v6 v7 v9 v10 v11 v8))
def fX12_stand_l135 (k103 : SM → Int32 → Int32 → Int32 → Int32 → Int32 → Int32 → Int32 → Int32 → Int32 → Int32 → Option (Int32 × SM)) : Nat → SM → Int32 → Int32 → Int32 → Int32 → Int32 → Int32 → Int32 → Int32 → Int32 → Int32 → Int32 → Int32 → Option (Int32 × SM)
  | 0, _, _, _, _, _, _, _, _, _, _, _, _, _ => none
  | n + 1, σ, v1, v2, v3, v4, v5, v6, v7, v8, v9, v10, v11, v12 => fX12_stand_b135 k103 (fX12_stand_l135 k103 n) σ v1 v2 v3 v4 v5 v6 v7 v8 v9 v10 v11 v12
def fX12_stand_b103 (k103 : SM → Int32 → Int32 → Int32 → Int32 → Int32 → Int32 → Int32 → Int32 → Int32 → Int32 → Option (Int32 × SM)) (σ : SM) (v1 : Int32) (v2 : Int32) (v3 : Int32) (v4 : Int32) (v5 : Int32) (v6 : Int32) (v7 : Int32) (v8 : Int32) (v9 : Int32) (v10 : Int32) : Option (Int32 × SM) :=
  ((fX12_cells σ).bind (fun r8 =>
    (if v10 < r8 then
      ((fX12_isFree σ v10).bind (fun r9 =>
        (if r9 = 0 then
          fX12_stand_b210 k103 σ v1 v2 v3 v4 v5 v6 v7 v8 v9 v10
        else
          (if ¬ (v1 < 0 ∨ 6 ≤ v1.toNatClampNeg) then
            fX12_stand_l135 k103 1000 (sm_pl_placeOf σ (upd (gm_pl_placeOf σ) v1.toNatClampNeg v10)) v1 v2 v3 v4 v5 v6 v7 v8 v9 v10 (0 : Int32) (0 : Int32)
          else none))))
    else
      (if ¬ (v1 < 0 ∨ 6 ≤ v1.toNatClampNeg) then
        some (v8, (sm_pl_placeOf σ (upd (gm_pl_placeOf σ) v1.toNatClampNeg v7)))
      else none))))
def fX12_stand_l103 : Nat → SM → Int32 → Int32 → Int32 → Int32 → Int32 → Int32 → Int32 → Int32 → Int32 → Int32 → Option (Int32 × SM)
  | 0, _, _, _, _, _, _, _, _, _, _, _ => none
  | n + 1, σ, v1, v2, v3, v4, v5, v6, v7, v8, v9, v10 => fX12_stand_b103 (fX12_stand_l103 n) σ v1 v2 v3 v4 v5 v6 v7 v8 v9 v10
def fX12_stand_b59 (σ : SM) : Option (Int32 × SM) :=
  some ((-102 : Int32), σ)
def fX12_stand_b16 (σ : SM) : Option (Int32 × SM) :=
  some ((-101 : Int32), σ)
def fX12_stand (σ : SM) (v1 : Int32) (v2 : Int32) (v3 : Int32) (v4 : Int32) (v5 : Int32) (v6 : Int32) : Option (Int32 × SM) :=
  ((fX12_isPlayer σ v1).bind (fun r1 =>
    (if r1 = 0 then
      fX12_stand_b16 σ
    else
      ((fX12_isFree σ v2).bind (fun r2 =>
        (if r2 = 0 then
          fX12_stand_b16 σ
        else
          ((fX12_isWay v3).bind (fun r3 =>
            (if r3 = 0 then
              fX12_stand_b59 σ
            else
              ((fX12_within v4 (0 : Int32) (9 : Int32)).bind (fun r4 =>
                (if r4 = 0 then
                  fX12_stand_b59 σ
                else
                  ((fX12_within v5 (1 : Int32) (50 : Int32)).bind (fun r5 =>
                    (if r5 = 0 then
                      fX12_stand_b59 σ
                    else
                      ((fX12_within v6 (1 : Int32) (9 : Int32)).bind (fun r6 =>
                        (if r6 = 0 then
                          fX12_stand_b59 σ
                        else
                          (if (gm_nm_asks σ) = (20 : Int32) then
                            some ((-103 : Int32), σ)
                          else
                            (if ¬ (v1 < 0 ∨ 6 ≤ v1.toNatClampNeg) then
                              fX12_stand_l103 1000 (sm_nm_asks σ ((gm_nm_asks σ) + (1 : Int32))) v1 v2 v3 v4 v5 v6 ((gm_pl_placeOf σ) v1.toNatClampNeg) (-1 : Int32) (268435456 : Int32) (0 : Int32)
                            else none))))))))))))))))))))
def fX12_feels_b29 (σ : SM) : Option (Int32 × SM) :=
  some ((-102 : Int32), σ)
def fX12_feels (σ : SM) (v1 : Int32) (v2 : Int32) (v3 : Int32) : Option (Int32 × SM) :=
  ((fX12_within v1 (0 : Int32) (5 : Int32)).bind (fun r1 =>
    (if r1 = 0 then
      fX12_feels_b29 σ
    else
      ((fX12_within v2 (0 : Int32) (10 : Int32)).bind (fun r2 =>
        (if r2 = 0 then
          fX12_feels_b29 σ
        else
          ((fX12_within v3 (0 : Int32) (10 : Int32)).bind (fun r3 =>
            (if r3 = 0 then
              fX12_feels_b29 σ
            else
              some ((1 : Int32), (sm_nm_giggleRight (sm_nm_clothRight (sm_nm_unsure σ v1) v2) v3)))))))))))
def fX12_jackets_b21 (σ : SM) : Option (Int32 × SM) :=
  some ((-101 : Int32), σ)
def fX12_jackets (σ : SM) (v1 : Int32) (v2 : Int32) (v3 : Int32) : Option (Int32 × SM) :=
  ((fX12_isPlayer σ v1).bind (fun r1 =>
    (if r1 = 0 then
      fX12_jackets_b21 σ
    else
      ((fX12_isPlayer σ v2).bind (fun r2 =>
        (if r2 = 0 then
          fX12_jackets_b21 σ
        else
          (if v1 = v2 then
            fX12_jackets_b21 σ
          else
            ((fX12_within v3 (0 : Int32) (10 : Int32)).bind (fun r3 =>
              (if r3 = 0 then
                some ((-102 : Int32), σ)
              else
                some ((1 : Int32), (sm_nm_jacketTenths (sm_nm_jacketB (sm_nm_jacketA σ v1) v2) v3))))))))))))
def fX12_byCloth_b26 (σ : SM) (w0 : Int32) : Option (Int32) :=
  some (w0)
def fX12_byCloth (σ : SM) (v1 : Int32) (v2 : Int32) : Option (Int32) :=
  (if ¬ (v1 < 0 ∨ 6 ≤ v1.toNatClampNeg) then
    (if ((gm_pl_clothOf σ) v1.toNatClampNeg) = v2 then
      fX12_byCloth_b26 σ ((4 : Int32) * (gm_nm_clothRight σ))
    else
      fX12_byCloth_b26 σ ((10 : Int32) - (gm_nm_clothRight σ)))
  else none)
def fX12_likely_b122 (σ : SM) (v1 : Int32) (v3 : Int32) (v6 : Int32) (v7 : Int32) (v8 : Int32) (w0 : Int32) : Option (Int32) :=
  ((fX12_byCloth σ v1 v3).bind (fun r2 =>
    ((fX12_byCloth σ v8 v3).bind (fun r3 =>
      some (((v6 * v7) * ((((10 : Int32) - w0) * r2) + (w0 * r3))))))))
def fX12_likely_b106 (σ : SM) (v1 : Int32) (v3 : Int32) (v6 : Int32) (v7 : Int32) (w0 : Int32) : Option (Int32) :=
  (if w0 = v1 then
    fX12_likely_b122 σ v1 v3 v6 v7 w0 (0 : Int32)
  else
    fX12_likely_b122 σ v1 v3 v6 v7 w0 (gm_nm_jacketTenths σ))
def fX12_likely_b73 (σ : SM) (v1 : Int32) (v3 : Int32) (v6 : Int32) (w0 : Int32) : Option (Int32) :=
  (if v1 = (gm_nm_jacketA σ) then
    fX12_likely_b106 σ v1 v3 v6 w0 (gm_nm_jacketB σ)
  else
    (if v1 = (gm_nm_jacketB σ) then
      fX12_likely_b106 σ v1 v3 v6 w0 (gm_nm_jacketA σ)
    else
      fX12_likely_b106 σ v1 v3 v6 w0 v1))
def fX12_likely_b44 (σ : SM) (v1 : Int32) (v3 : Int32) (v4 : Int32) (w0 : Int32) : Option (Int32) :=
  (if ¬ (v1 < 0 ∨ 6 ≤ v1.toNatClampNeg) then
    (if ((gm_pl_giggleOf σ) v1.toNatClampNeg) = v4 then
      fX12_likely_b73 σ v1 v3 w0 ((4 : Int32) * (gm_nm_giggleRight σ))
    else
      fX12_likely_b73 σ v1 v3 w0 ((10 : Int32) - (gm_nm_giggleRight σ)))
  else none)
def fX12_likely (σ : SM) (v1 : Int32) (v2 : Int32) (v3 : Int32) (v4 : Int32) : Option (Int32) :=
  (if ¬ (v1 < 0 ∨ 6 ≤ v1.toNatClampNeg) then
    ((fX12_size (((gm_pl_sizeOf σ) v1.toNatClampNeg) - v2)).bind (fun r1 =>
      (if r1 = 0 then
        fX12_likely_b44 σ v1 v3 v4 ((10 : Int32) - ((2 : Int32) * (gm_nm_unsure σ)))
      else
        (if r1 = (1 : Int32) then
          fX12_likely_b44 σ v1 v3 v4 (gm_nm_unsure σ)
        else
          fX12_likely_b44 σ v1 v3 v4 (0 : Int32)))))
  else none)
def fX12_likelyAll_b6 (σ : SM) (k6 : Int32 → Int32 → Int32 → Int32 → Int32 → Option (Int32)) (v1 : Int32) (v2 : Int32) (v3 : Int32) (v4 : Int32) (v5 : Int32) : Option (Int32) :=
  (if v5 < (gm_pl_players σ) then
    ((fX12_likely σ v5 v1 v2 v3).bind (fun r1 =>
      k6 v1 v2 v3 (v4 + r1) (v5 + (1 : Int32))))
  else
    some (v4))
def fX12_likelyAll_l6 (σ : SM) : Nat → Int32 → Int32 → Int32 → Int32 → Int32 → Option (Int32)
  | 0, _, _, _, _, _ => none
  | n + 1, v1, v2, v3, v4, v5 => fX12_likelyAll_b6 σ (fX12_likelyAll_l6 σ n) v1 v2 v3 v4 v5
def fX12_likelyAll (σ : SM) (v1 : Int32) (v2 : Int32) (v3 : Int32) : Option (Int32) :=
  fX12_likelyAll_l6 σ 1000 v1 v2 v3 (0 : Int32) (0 : Int32)
def fX12_isFelt_b33 (w0 : Int32) : Option (Int32) :=
  (if w0 = 0 ∨ w0 = 1 then some (w0) else none)
def fX12_isFelt_b32 : Option (Int32) :=
  fX12_isFelt_b33 (0 : Int32)
def fX12_isFelt (v0 : Int32) (v1 : Int32) (v2 : Int32) : Option (Int32) :=
  ((fX12_within v0 (0 : Int32) (9 : Int32)).bind (fun r1 =>
    (if r1 = 0 then
      fX12_isFelt_b32
    else
      ((fX12_within v1 (0 : Int32) (4 : Int32)).bind (fun r2 =>
        (if r2 = 0 then
          fX12_isFelt_b32
        else
          ((fX12_within v2 (0 : Int32) (4 : Int32)).bind (fun r3 =>
            (if r3 = 0 then
              fX12_isFelt_b32
            else
              fX12_isFelt_b33 (1 : Int32))))))))))
def fX12_named_b70 (σ : SM) (w0 : Int32) : Option (Int32) :=
  some (w0)
def fX12_named_b29 (σ : SM) : Option (Int32) :=
  some ((-102 : Int32))
def fX12_named (σ : SM) (v1 : Int32) (v2 : Int32) (v3 : Int32) (v4 : Int32) (v5 : Int32) : Option (Int32) :=
  ((fX12_isPlayer σ v1).bind (fun r1 =>
    (if r1 = 0 then
      some ((-101 : Int32))
    else
      ((fX12_isFelt v2 v3 v4).bind (fun r2 =>
        (if r2 = 0 then
          fX12_named_b29 σ
        else
          ((fX12_isPart v5).bind (fun r3 =>
            (if r3 = 0 then
              fX12_named_b29 σ
            else
              ((fX12_likelyAll σ v2 v3 v4).bind (fun r4 =>
                (if r4 = 0 then
                  fX12_named_b70 σ (-1 : Int32)
                else
                  ((fX12_likely σ v1 v2 v3 v4).bind (fun r5 =>
                    ((fX12_lowest r5.toInt64 r4.toInt64 v5).bind (fun r6 =>
                      fX12_named_b70 σ r6.toInt32))))))))))))))))
def fX12_saysNow_b59 (σ : SM) (k9 : Int32 → Int32 → Int32 → Int32 → Int32 → Int32 → Option (Int32)) (v1 : Int32) (v2 : Int32) (v3 : Int32) (v4 : Int32) (v6 : Int32) (w0 : Int32) : Option (Int32) :=
  k9 v1 v2 v3 v4 w0 (v6 + (1 : Int32))
def fX12_saysNow_b43 (σ : SM) (k9 : Int32 → Int32 → Int32 → Int32 → Int32 → Int32 → Option (Int32)) (v1 : Int32) (v2 : Int32) (v3 : Int32) (v5 : Int32) (v6 : Int32) (v7 : Int32) (w0 : Int32) : Option (Int32) :=
  (if v5 < v7 then
    fX12_saysNow_b59 σ k9 v1 v2 v3 w0 v6 v7
  else
    fX12_saysNow_b59 σ k9 v1 v2 v3 w0 v6 v5)
def fX12_saysNow_b9 (σ : SM) (k9 : Int32 → Int32 → Int32 → Int32 → Int32 → Int32 → Option (Int32)) (v1 : Int32) (v2 : Int32) (v3 : Int32) (v4 : Int32) (v5 : Int32) (v6 : Int32) : Option (Int32) :=
  (if v6 < (gm_pl_players σ) then
    ((fX12_likely σ v6 v1 v2 v3).bind (fun r1 =>
      (if v5 < r1 then
        fX12_saysNow_b43 σ k9 v1 v2 v3 v5 v6 r1 v6
      else
        fX12_saysNow_b43 σ k9 v1 v2 v3 v5 v6 r1 v4)))
  else
    some (v4))
def fX12_saysNow_l9 (σ : SM) : Nat → Int32 → Int32 → Int32 → Int32 → Int32 → Int32 → Option (Int32)
  | 0, _, _, _, _, _, _ => none
  | n + 1, v1, v2, v3, v4, v5, v6 => fX12_saysNow_b9 σ (fX12_saysNow_l9 σ n) v1 v2 v3 v4 v5 v6
def fX12_saysNow (σ : SM) (v1 : Int32) (v2 : Int32) (v3 : Int32) : Option (Int32) :=
  fX12_saysNow_l9 σ 1000 v1 v2 v3 (-1 : Int32) (0 : Int32) (0 : Int32)
def fX12_says_b21 (σ : SM) (w0 : Int32) : Option (Int32) :=
  some (w0)
def fX12_says (σ : SM) (v1 : Int32) (v2 : Int32) (v3 : Int32) : Option (Int32) :=
  ((fX12_isFelt v1 v2 v3).bind (fun r1 =>
    (if r1 = 0 then
      fX12_says_b21 σ (-102 : Int32)
    else
      ((fX12_saysNow σ v1 v2 v3).bind (fun r2 =>
        fX12_says_b21 σ r2)))))
def fX12_when_b88 (σ : SM) (w0 : Int32) : Option (Int32) :=
  some (w0)
def fX12_when_b31 (σ : SM) : Option (Int32) :=
  some ((-102 : Int32))
def fX12_when (σ : SM) (v1 : Int32) (v2 : Int32) (v3 : Int32) (v4 : Int32) (v5 : Int32) : Option (Int32) :=
  ((fX12_isFelt v1 v2 v3).bind (fun r1 =>
    (if r1 = 0 then
      fX12_when_b31 σ
    else
      ((fX12_within v4 (0 : Int32) (99 : Int32)).bind (fun r2 =>
        (if r2 = 0 then
          fX12_when_b31 σ
        else
          ((fX12_within v5 (0 : Int32) (99 : Int32)).bind (fun r3 =>
            (if r3 = 0 then
              fX12_when_b31 σ
            else
              ((fX12_saysNow σ v1 v2 v3).bind (fun r4 =>
                (if r4 = (-1 : Int32) then
                  some ((0 : Int32))
                else
                  ((fX12_likely σ r4 v1 v2 v3).bind (fun r5 =>
                    ((fX12_likelyAll σ v1 v2 v3).bind (fun r6 =>
                      (if (v5 * (r6 - r5)) < (v4 * r5) then
                        fX12_when_b88 σ (1 : Int32)
                      else
                        fX12_when_b88 σ (0 : Int32))))))))))))))))))
def fX12_image_b92 (k92 : SM → Int32 → Option (Int32 × SM)) (σ : SM) (v1 : Int32) : Option (Int32 × SM) :=
  (if v1 < (gm_pl_players σ) then
    (if ¬ (v1 < 0 ∨ 6 ≤ v1.toNatClampNeg) then
      (if ¬ (v1 < 0 ∨ 6 ≤ v1.toNatClampNeg) then
        k92 (sm_kp_keptPlace σ (upd (gm_kp_keptPlace σ) v1.toNatClampNeg ((gm_pl_placeOf σ) v1.toNatClampNeg))) (v1 + (1 : Int32))
      else none)
    else none)
  else
    some ((gm_pl_players σ), σ))
def fX12_image_l92 : Nat → SM → Int32 → Option (Int32 × SM)
  | 0, _, _ => none
  | n + 1, σ, v1 => fX12_image_b92 (fX12_image_l92 n) σ v1
def fX12_image_b65 (k65 : SM → Int32 → Option (Int32 × SM)) (σ : SM) (v1 : Int32) : Option (Int32 × SM) :=
  (if v1 < (144 : Int32) then
    (if ¬ (v1 < 0 ∨ 144 ≤ v1.toNatClampNeg) then
      (if ¬ (v1 < 0 ∨ 144 ≤ v1.toNatClampNeg) then
        k65 (sm_kp_keptWeight σ (vp_updL (gm_kp_keptWeight σ) v1.toNatClampNeg ((gm_od_weight σ) v1.toNatClampNeg))) (v1 + (1 : Int32))
      else none)
    else none)
  else
    fX12_image_l92 1000 σ (0 : Int32))
def fX12_image_l65 : Nat → SM → Int32 → Option (Int32 × SM)
  | 0, _, _ => none
  | n + 1, σ, v1 => fX12_image_b65 (fX12_image_l65 n) σ v1
def fX12_image (σ : SM) : Option (Int32 × SM) :=
  (if (gm_rg_rings σ) = 0 then
    some ((-103 : Int32), σ)
  else
    fX12_image_l65 1000 (sm_kp_keptTenths (sm_kp_keptB (sm_kp_keptA (sm_kp_keptUpdates (sm_kp_keptPlayers (sm_kp_keptRing (sm_kp_isKept σ (1 : Int32)) (gm_rg_rings σ)) (gm_pl_players σ)) (gm_od_updates σ)) (gm_nm_jacketA σ)) (gm_nm_jacketB σ)) (gm_nm_jacketTenths σ)) (0 : Int32))
def fX12_restore_b82 (k82 : SM → Int32 → Option (Int32 × SM)) (σ : SM) (v1 : Int32) : Option (Int32 × SM) :=
  (if v1 < (gm_kp_keptPlayers σ) then
    (if ¬ (v1 < 0 ∨ 6 ≤ v1.toNatClampNeg) then
      (if ¬ (v1 < 0 ∨ 6 ≤ v1.toNatClampNeg) then
        k82 (sm_pl_placeOf σ (upd (gm_pl_placeOf σ) v1.toNatClampNeg ((gm_kp_keptPlace σ) v1.toNatClampNeg))) (v1 + (1 : Int32))
      else none)
    else none)
  else
    some ((gm_pl_players σ), σ))
def fX12_restore_l82 : Nat → SM → Int32 → Option (Int32 × SM)
  | 0, _, _ => none
  | n + 1, σ, v1 => fX12_restore_b82 (fX12_restore_l82 n) σ v1
def fX12_restore_b55 (k55 : SM → Int32 → Option (Int32 × SM)) (σ : SM) (v1 : Int32) : Option (Int32 × SM) :=
  (if v1 < (144 : Int32) then
    (if ¬ (v1 < 0 ∨ 144 ≤ v1.toNatClampNeg) then
      (if ¬ (v1 < 0 ∨ 144 ≤ v1.toNatClampNeg) then
        k55 (sm_od_weight σ (vp_updL (gm_od_weight σ) v1.toNatClampNeg ((gm_kp_keptWeight σ) v1.toNatClampNeg))) (v1 + (1 : Int32))
      else none)
    else none)
  else
    fX12_restore_l82 1000 σ (0 : Int32))
def fX12_restore_l55 : Nat → SM → Int32 → Option (Int32 × SM)
  | 0, _, _ => none
  | n + 1, σ, v1 => fX12_restore_b55 (fX12_restore_l55 n) σ v1
def fX12_restore_b18 (σ : SM) : Option (Int32 × SM) :=
  some ((-103 : Int32), σ)
def fX12_restore (σ : SM) : Option (Int32 × SM) :=
  (if (gm_kp_isKept σ) = 0 then
    fX12_restore_b18 σ
  else
    (if (gm_kp_keptRing σ) = (gm_rg_rings σ) then
      fX12_restore_l55 1000 (sm_nm_jacketTenths (sm_nm_jacketB (sm_nm_jacketA (sm_od_updates σ (gm_kp_keptUpdates σ)) (gm_kp_keptA σ)) (gm_kp_keptB σ)) (gm_kp_keptTenths σ)) (0 : Int32)
    else
      fX12_restore_b18 σ))
def fX12_freeMany_b26 (σ : SM) (k4 : Int32 → Int32 → Option (Int32)) (v2 : Int32) (w0 : Int32) (w1 : Int32) : Option (Int32) :=
  k4 (w1 + w0) (v2 + (1 : Int32))
def fX12_freeMany_b4 (σ : SM) (k4 : Int32 → Int32 → Option (Int32)) (v1 : Int32) (v2 : Int32) : Option (Int32) :=
  ((fX12_cells σ).bind (fun r1 =>
    (if v2 < r1 then
      ((fX12_isFree σ v2).bind (fun r2 =>
        (if r2 = 0 then
          fX12_freeMany_b26 σ k4 v2 (0 : Int32) v1
        else
          fX12_freeMany_b26 σ k4 v2 (1 : Int32) v1)))
    else
      some (v1))))
def fX12_freeMany_l4 (σ : SM) : Nat → Int32 → Int32 → Option (Int32)
  | 0, _, _ => none
  | n + 1, v1, v2 => fX12_freeMany_b4 σ (fX12_freeMany_l4 σ n) v1 v2
def fX12_freeMany (σ : SM) : Option (Int32) :=
  fX12_freeMany_l4 σ 1000 (0 : Int32) (0 : Int32)
def fX12_howMany (σ : SM) (v1 : Int32) : Option (Int32) :=
  (if v1 = (0 : Int32) then
    ((fX12_cells σ).bind (fun r1 =>
      some (r1)))
  else (if v1 = (1 : Int32) then
    ((fX12_freeMany σ).bind (fun r2 =>
      some (r2)))
  else (if v1 = (2 : Int32) then
    some ((gm_pl_players σ))
  else (if v1 = (3 : Int32) then
    some ((gm_od_updates σ))
  else (if v1 = (4 : Int32) then
    ((fX12_above σ).bind (fun r3 =>
      some (r3)))
  else (if v1 = (5 : Int32) then
    some ((gm_pg_pageLength σ))
  else (if v1 = (6 : Int32) then
    some ((gm_rg_rings σ))
  else (if v1 = (7 : Int32) then
    some ((gm_nm_asks σ))
  else some ((-102 : Int32))))))))))
def fX12_count (σ : SM) (v1 : Int32) : Option (Int32) :=
  ((fX12_howMany σ v1).bind (fun r1 =>
    some (r1)))
def fX12_mix (σ : SM) (v1 : Int64) : Option (SM) :=
  some ((sm_gm_h σ (((31 : Int64) * (gm_gm_h σ)) + v1)))
def fX12_mixGame_b2 (k2 : SM → Int32 → Option (SM)) (σ : SM) (v1 : Int32) : Option (SM) :=
  ((fX12_isFree σ v1).bind (fun r1 =>
    (if r1 = 0 then
      k2 σ (v1 + (1 : Int32))
    else
      ((fX12_play σ v1 (0 : Int32) (2 : Int32) (1 : Int32) (20 : Int32)).bind (fun r2 =>
        ((fX12_mix r2 ((gm_gm_touched r2).toInt64)).bind (fun r3 =>
          ((fX12_mix r3 ((gm_gm_touchedAt r3).toInt64)).bind (fun r4 =>
            some (r4))))))))))
def fX12_mixGame_l2 : Nat → SM → Int32 → Option (SM)
  | 0, _, _ => none
  | n + 1, σ, v1 => fX12_mixGame_b2 (fX12_mixGame_l2 n) σ v1
def fX12_mixGame (σ : SM) : Option (SM) :=
  fX12_mixGame_l2 1000 σ (0 : Int32)
def fX12_digest_b203 (k203 : SM → Int32 → Option (Int64 × SM)) (σ : SM) (v1 : Int32) : Option (Int64 × SM) :=
  (if v1 < (8 : Int32) then
    ((fX12_howMany σ v1).bind (fun r1 =>
      ((fX12_mix σ r1.toInt64).bind (fun r2 =>
        k203 r2 (v1 + (1 : Int32))))))
  else
    some ((gm_gm_h σ), σ))
def fX12_digest_l203 : Nat → SM → Int32 → Option (Int64 × SM)
  | 0, _, _ => none
  | n + 1, σ, v1 => fX12_digest_b203 (fX12_digest_l203 n) σ v1
def fX12_digest_b176 (k176 : SM → Int32 → Option (Int64 × SM)) (σ : SM) (v1 : Int32) : Option (Int64 × SM) :=
  (if v1 < (gm_pg_pageLength σ) then
    (if ¬ (v1 < 0 ∨ 45 ≤ v1.toNatClampNeg) then
      ((fX12_mix σ (((gm_pg_page σ) v1.toNatClampNeg).toInt64)).bind (fun r3 =>
        k176 r3 (v1 + (1 : Int32))))
    else none)
  else
    fX12_digest_l203 1000 σ (0 : Int32))
def fX12_digest_l176 : Nat → SM → Int32 → Option (Int64 × SM)
  | 0, _, _ => none
  | n + 1, σ, v1 => fX12_digest_b176 (fX12_digest_l176 n) σ v1
def fX12_digest_b174 (σ : SM) : Option (Int64 × SM) :=
  fX12_digest_l176 1000 σ (0 : Int32)
def fX12_digest_b74 (k64 : SM → Int32 → Option (Int64 × SM)) (k74 : SM → Int32 → Int32 → Option (Int64 × SM)) (σ : SM) (v1 : Int32) (v2 : Int32) : Option (Int64 × SM) :=
  (if v2 < (5 : Int32) then
    ((fX12_playerTold σ v1 v2).bind (fun r4 =>
      ((fX12_mix σ r4.toInt64).bind (fun r5 =>
        k74 r5 v1 (v2 + (1 : Int32))))))
  else
    k64 σ (v1 + (1 : Int32)))
def fX12_digest_l74 (k64 : SM → Int32 → Option (Int64 × SM)) : Nat → SM → Int32 → Int32 → Option (Int64 × SM)
  | 0, _, _, _ => none
  | n + 1, σ, v1, v2 => fX12_digest_b74 k64 (fX12_digest_l74 k64 n) σ v1 v2
def fX12_digest_b64 (k64 : SM → Int32 → Option (Int64 × SM)) (σ : SM) (v1 : Int32) : Option (Int64 × SM) :=
  (if v1 < (gm_pl_players σ) then
    fX12_digest_l74 k64 1000 σ v1 (0 : Int32)
  else
    ((fX12_mix σ ((gm_nm_unsure σ).toInt64)).bind (fun r6 =>
      ((fX12_mix r6 ((gm_nm_clothRight r6).toInt64)).bind (fun r7 =>
        ((fX12_mix r7 ((gm_nm_giggleRight r7).toInt64)).bind (fun r8 =>
          ((fX12_mix r8 ((gm_nm_jacketA r8).toInt64)).bind (fun r9 =>
            ((fX12_mix r9 ((gm_nm_jacketB r9).toInt64)).bind (fun r10 =>
              ((fX12_mix r10 ((gm_nm_jacketTenths r10).toInt64)).bind (fun r11 =>
                (if 0 < (gm_rg_rings r11) then
                  (if 0 < (gm_pl_players r11) then
                    ((fX12_mixGame r11).bind (fun r12 =>
                      fX12_digest_b174 r12))
                  else
                    fX12_digest_b174 r11)
                else
                  fX12_digest_b174 r11))))))))))))))
def fX12_digest_l64 : Nat → SM → Int32 → Option (Int64 × SM)
  | 0, _, _ => none
  | n + 1, σ, v1 => fX12_digest_b64 (fX12_digest_l64 n) σ v1
def fX12_digest_b36 (k36 : SM → Int32 → Option (Int64 × SM)) (σ : SM) (v1 : Int32) : Option (Int64 × SM) :=
  ((fX12_cells σ).bind (fun r13 =>
    (if v1 < ((4 : Int32) * r13) then
      (if ¬ (v1 < 0 ∨ 144 ≤ v1.toNatClampNeg) then
        ((fX12_mix σ ((gm_od_weight σ) v1.toNatClampNeg)).bind (fun r14 =>
          k36 r14 (v1 + (1 : Int32))))
      else none)
    else
      fX12_digest_l64 1000 σ (0 : Int32))))
def fX12_digest_l36 : Nat → SM → Int32 → Option (Int64 × SM)
  | 0, _, _ => none
  | n + 1, σ, v1 => fX12_digest_b36 (fX12_digest_l36 n) σ v1
def fX12_digest_b9 (k9 : SM → Int32 → Option (Int64 × SM)) (σ : SM) (v1 : Int32) : Option (Int64 × SM) :=
  ((fX12_cells σ).bind (fun r15 =>
    (if v1 < r15 then
      (if ¬ (v1 < 0 ∨ 36 ≤ v1.toNatClampNeg) then
        ((fX12_mix σ (((gm_rg_cellOf σ) v1.toNatClampNeg).toInt64)).bind (fun r16 =>
          k9 r16 (v1 + (1 : Int32))))
      else none)
    else
      fX12_digest_l36 1000 σ (0 : Int32))))
def fX12_digest_l9 : Nat → SM → Int32 → Option (Int64 × SM)
  | 0, _, _ => none
  | n + 1, σ, v1 => fX12_digest_b9 (fX12_digest_l9 n) σ v1
def fX12_digest (σ : SM) : Option (Int64 × SM) :=
  fX12_digest_l9 1000 (sm_gm_h σ (457 : Int64)) (0 : Int32)
end
section
/-! X0_kind X7_apart X7_ahead X7_isFree X7_choose X0_goOn X1_kind X1_callsFrom X2_kind X2_callsFrom X3_changeJackets X3_forgetJackets X3_keep X3_takeKept X3_sizeWeight X3_clothOf X3_likeWeight X3_clothWeight X3_weigh X3_weightOf X3_total X3_likeliestPlayer X11_mixed X3_mixInto J7_fill_w X4_putHim X4_loseHim X4_keep X4_takeKept X4_aboveNought X4_total X4_sumOfCell_w -/
set_option maxRecDepth 20000 in
set_option maxHeartbeats 4000000 in
theorem tX0_kind (d : Nat) (σ : SX) (v0 : Nat) (q : Int32) (hf : fX0_kind σ v0 = some q) : ev_M ev_mt (d + 1) 0 [.ref v0] (hX σ) (some (.int q), hX σ) := by
  refine ev_en (rt := (some .int)) (I := eiX0_kind) rfl (Nat.le_of_ble_eq_true rfl) ?_
  change ev_X d _ _ (0, [some (.ref v0)], [], hX σ) _
  unfold fX0_kind at hf
  cases hf
  exact ev_rt 1 rfl
set_option maxRecDepth 20000 in
set_option maxHeartbeats 4000000 in
theorem tX7_apart_b70 (d : Nat) (σ : SX) (w0 : Int32) (w1 : Int32) (q : Int32) (hf : fX7_apart_b70 σ w0 w1 = some q) : ev_X d (some .int) eiX7_apart (70, [none, none, none, none, none, none], [.int (w0), .int (w1)], hX σ) (some (.int q), hX σ) := by
  unfold fX7_apart_b70 at hf
  cases hf
  exact ev_rt 1 rfl
set_option maxRecDepth 20000 in
set_option maxHeartbeats 4000000 in
theorem tX7_apart_b57 (d : Nat) (σ : SX) (v5 : Int32) (w0 : Int32) (q : Int32) (hf : fX7_apart_b57 σ v5 w0 = some q) : ev_X d (some .int) eiX7_apart (57, [none, none, none, none, none, some (.int (v5))], [.int (w0)], hX σ) (some (.int q), hX σ) := by
  unfold fX7_apart_b57 at hf
  refine ev_br 1 (P := v5 < 0) (a := 62) (b := 68) (ls := [none, none, none, none, none, some (.int (v5))]) (st := [.int (w0)]) (h := hX σ) rfl (fun c1 => ?_) (fun c1 => ?_)
  · rw [if_pos c1] at hf
    refine ev_go (c' := (70, [none, none, none, none, none, some (.int (v5))], [.int ((-v5)), .int (w0)], hX σ)) 2 rfl ?_
    exact ev_dr (a := [none, none, none, none, none, none]) trivial (tX7_apart_b70 d σ (-v5) w0 _ hf)
  · rw [if_neg c1] at hf
    refine ev_go (c' := (70, [none, none, none, none, none, some (.int (v5))], [.int (v5), .int (w0)], hX σ)) 0 rfl ?_
    exact ev_dr (a := [none, none, none, none, none, none]) trivial (tX7_apart_b70 d σ v5 w0 _ hf)
set_option maxRecDepth 20000 in
set_option maxHeartbeats 4000000 in
theorem tX7_apart_b22 (d : Nat) (σ : SX) (q : Int32) (hf : fX7_apart_b22 σ = some q) : ev_X d (some .int) eiX7_apart (22, [none, none, none, none, none, none], [], hX σ) (some (.int q), hX σ) := by
  unfold fX7_apart_b22 at hf
  cases hf
  exact ev_rt 1 rfl
set_option maxRecDepth 20000 in
set_option maxHeartbeats 4000000 in
theorem tX7_apart (d : Nat) (σ : SX) (v1 : Int32) (v2 : Int32) (v3 : Int32) (q : Int32) (hf : fX7_apart σ v1 v2 v3 = some q) : ev_M ev_mt (d + 1) 64 [.ref 3, .int (v1), .int (v2), .int (v3)] (hX σ) (some (.int q), hX σ) := by
  refine ev_en (rt := (some .int)) (I := eiX7_apart) rfl (Nat.le_of_ble_eq_true rfl) ?_
  change ev_X d _ _ (0, [some (.ref 3), some (.int (v1)), some (.int (v2)), some (.int (v3)), none, none], [], hX σ) _
  unfold fX7_apart at hf
  refine ev_br 1 (P := v1 < 0) (a := 22) (b := 4) (ls := [some (.ref 3), some (.int (v1)), some (.int (v2)), some (.int (v3)), none, none]) (st := []) (h := hX σ) rfl (fun c1 => ?_) (fun c1 => ?_)
  · rw [if_pos c1] at hf
    exact ev_dr (a := [none, none, none, none, none, none]) trivial (tX7_apart_b22 d σ  _ hf)
  · rw [if_neg c1] at hf
    refine ev_br 4 (P := v1 < (36 : Int32)) (a := 13) (b := 22) (ls := [some (.ref 3), some (.int (v1)), some (.int (v2)), some (.int (v3)), none, none]) (st := []) (h := hX σ) rfl (fun c2 => ?_) (fun c2 => ?_)
    · rw [if_pos c2] at hf
      refine ev_br 4 (P := v1 < (36 : Int32)) (a := 24) (b := 22) (ls := [some (.ref 3), some (.int (v1)), some (.int (v2)), some (.int (v3)), none, none]) (st := []) (h := hX σ) rfl (fun c3 => ?_) (fun c3 => ?_)
      · rw [if_pos c3] at hf
        obtain ⟨c4, hf⟩ := ev_hp hf
        refine ev_ck 3 (P := ¬ (v1 < 0 ∨ 36 ≤ v1.toNatClampNeg)) (c' := (30, [some (.ref 3), some (.int (v1)), some (.int (v2)), some (.int (v3)), none, none], [.int (((gx_rg_rows σ) v1.toNatClampNeg))], hX σ)) rfl c4 ?_
        obtain ⟨c5, hf⟩ := ev_hp hf
        refine ev_ck 6 (P := ¬ (v1 < 0 ∨ 36 ≤ v1.toNatClampNeg)) (c' := (40, [some (.ref 3), some (.int (v1)), some (.int (v2)), some (.int (v3)), some (.int ((((gx_rg_rows σ) v1.toNatClampNeg) - v2))), none], [.int (((gx_rg_columns σ) v1.toNatClampNeg))], hX σ)) rfl c5 ?_
        refine ev_br 4 (P := (((gx_rg_rows σ) v1.toNatClampNeg) - v2) < 0) (a := 49) (b := 55) (ls := [some (.ref 3), some (.int (v1)), some (.int (v2)), some (.int (v3)), some (.int ((((gx_rg_rows σ) v1.toNatClampNeg) - v2))), some (.int ((((gx_rg_columns σ) v1.toNatClampNeg) - v3)))]) (st := []) (h := hX σ) rfl (fun c6 => ?_) (fun c6 => ?_)
        · rw [if_pos c6] at hf
          refine ev_go (c' := (57, [some (.ref 3), some (.int (v1)), some (.int (v2)), some (.int (v3)), some (.int ((((gx_rg_rows σ) v1.toNatClampNeg) - v2))), some (.int ((((gx_rg_columns σ) v1.toNatClampNeg) - v3)))], [.int ((-(((gx_rg_rows σ) v1.toNatClampNeg) - v2)))], hX σ)) 2 rfl ?_
          exact ev_dr (a := [none, none, none, none, none, some (.int ((((gx_rg_columns σ) v1.toNatClampNeg) - v3)))]) ⟨rfl, trivial⟩ (tX7_apart_b57 d σ (((gx_rg_columns σ) v1.toNatClampNeg) - v3) (-(((gx_rg_rows σ) v1.toNatClampNeg) - v2)) _ hf)
        · rw [if_neg c6] at hf
          refine ev_go (c' := (57, [some (.ref 3), some (.int (v1)), some (.int (v2)), some (.int (v3)), some (.int ((((gx_rg_rows σ) v1.toNatClampNeg) - v2))), some (.int ((((gx_rg_columns σ) v1.toNatClampNeg) - v3)))], [.int ((((gx_rg_rows σ) v1.toNatClampNeg) - v2))], hX σ)) 0 rfl ?_
          exact ev_dr (a := [none, none, none, none, none, some (.int ((((gx_rg_columns σ) v1.toNatClampNeg) - v3)))]) ⟨rfl, trivial⟩ (tX7_apart_b57 d σ (((gx_rg_columns σ) v1.toNatClampNeg) - v3) (((gx_rg_rows σ) v1.toNatClampNeg) - v2) _ hf)
      · rw [if_neg c3] at hf
        exact ev_dr (a := [none, none, none, none, none, none]) trivial (tX7_apart_b22 d σ  _ hf)
    · rw [if_neg c2] at hf
      exact ev_dr (a := [none, none, none, none, none, none]) trivial (tX7_apart_b22 d σ  _ hf)
set_option maxRecDepth 20000 in
set_option maxHeartbeats 4000000 in
theorem tX7_ahead_b31 (d : Nat) (σ : SX) (w0 : Int32) (q : Int32) (hf : fX7_ahead_b31 σ w0 = some q) : ev_X d (some .int) eiX7_ahead (31, [none, none, none, none], [.int (w0)], hX σ) (some (.int q), hX σ) := by
  unfold fX7_ahead_b31 at hf
  cases hf
  exact ev_rt 0 rfl
set_option maxRecDepth 20000 in
set_option maxHeartbeats 4000000 in
theorem tX7_ahead_b30 (d : Nat) (σ : SX) (q : Int32) (hf : fX7_ahead_b30 σ = some q) : ev_X d (some .int) eiX7_ahead (30, [none, none, none, none], [], hX σ) (some (.int q), hX σ) := by
  unfold fX7_ahead_b30 at hf
  refine ev_go (c' := (31, [none, none, none, none], [.int ((-1 : Int32))], hX σ)) 0 rfl ?_
  exact ev_dr (a := [none, none, none, none]) trivial (tX7_ahead_b31 d σ (-1 : Int32) _ hf)
set_option maxRecDepth 20000 in
set_option maxHeartbeats 4000000 in
theorem tX7_ahead (d : Nat) (σ : SX) (v1 : Int32) (v2 : Int32) (q : Int32) (hf : fX7_ahead σ v1 v2 = some q) : ev_M ev_mt (d + 1) 61 [.ref 3, .int (v1), .int (v2)] (hX σ) (some (.int q), hX σ) := by
  refine ev_en (rt := (some .int)) (I := eiX7_ahead) rfl (Nat.le_of_ble_eq_true rfl) ?_
  change ev_X d _ _ (0, [some (.ref 3), some (.int (v1)), some (.int (v2)), none], [], hX σ) _
  unfold fX7_ahead at hf
  refine ev_br 9 (P := ((v1 * (4 : Int32)) + (v2 &&& (3 : Int32))) < 0) (a := 30) (b := 12) (ls := [some (.ref 3), some (.int (v1)), some (.int (v2)), some (.int (((v1 * (4 : Int32)) + (v2 &&& (3 : Int32)))))]) (st := []) (h := hX σ) rfl (fun c1 => ?_) (fun c1 => ?_)
  · rw [if_pos c1] at hf
    exact ev_dr (a := [none, none, none, none]) trivial (tX7_ahead_b30 d σ  _ hf)
  · rw [if_neg c1] at hf
    refine ev_br 4 (P := ((v1 * (4 : Int32)) + (v2 &&& (3 : Int32))) < (144 : Int32)) (a := 21) (b := 30) (ls := [some (.ref 3), some (.int (v1)), some (.int (v2)), some (.int (((v1 * (4 : Int32)) + (v2 &&& (3 : Int32)))))]) (st := []) (h := hX σ) rfl (fun c2 => ?_) (fun c2 => ?_)
    · rw [if_pos c2] at hf
      obtain ⟨c3, hf⟩ := ev_hp hf
      refine ev_ck 3 (P := ¬ (((v1 * (4 : Int32)) + (v2 &&& (3 : Int32))) < 0 ∨ 144 ≤ ((v1 * (4 : Int32)) + (v2 &&& (3 : Int32))).toNatClampNeg)) (c' := (27, [some (.ref 3), some (.int (v1)), some (.int (v2)), some (.int (((v1 * (4 : Int32)) + (v2 &&& (3 : Int32)))))], [.int (((gx_rg_beside σ) ((v1 * (4 : Int32)) + (v2 &&& (3 : Int32))).toNatClampNeg))], hX σ)) rfl c3 ?_
      refine ev_go (c' := (31, [some (.ref 3), some (.int (v1)), some (.int (v2)), some (.int (((v1 * (4 : Int32)) + (v2 &&& (3 : Int32)))))], [.int (((gx_rg_beside σ) ((v1 * (4 : Int32)) + (v2 &&& (3 : Int32))).toNatClampNeg))], hX σ)) 0 rfl ?_
      exact ev_dr (a := [none, none, none, none]) trivial (tX7_ahead_b31 d σ ((gx_rg_beside σ) ((v1 * (4 : Int32)) + (v2 &&& (3 : Int32))).toNatClampNeg) _ hf)
    · rw [if_neg c2] at hf
      exact ev_dr (a := [none, none, none, none]) trivial (tX7_ahead_b30 d σ  _ hf)
set_option maxRecDepth 20000 in
set_option maxHeartbeats 4000000 in
theorem tX7_isFree_b36 (d : Nat) (σ : SX) (w0 : Int32) (q : Int32) (hf : fX7_isFree_b36 σ w0 = some q) : ev_X d (some .boolean) eiX7_isFree (36, [none, none], [.int (w0)], hX σ) (some (.int q), hX σ) := by
  unfold fX7_isFree_b36 at hf
  obtain ⟨c1, hf⟩ := ev_hp hf
  cases hf
  exact ev_rk 0 rfl c1
set_option maxRecDepth 20000 in
set_option maxHeartbeats 4000000 in
theorem tX7_isFree_b35 (d : Nat) (σ : SX) (q : Int32) (hf : fX7_isFree_b35 σ = some q) : ev_X d (some .boolean) eiX7_isFree (35, [none, none], [], hX σ) (some (.int q), hX σ) := by
  unfold fX7_isFree_b35 at hf
  refine ev_go (c' := (36, [none, none], [.int ((0 : Int32))], hX σ)) 0 rfl ?_
  exact ev_dr (a := [none, none]) trivial (tX7_isFree_b36 d σ (0 : Int32) _ hf)
set_option maxRecDepth 20000 in
set_option maxHeartbeats 4000000 in
theorem tX7_isFree (d : Nat) (σ : SX) (v1 : Int32) (q : Int32) (hf : fX7_isFree σ v1 = some q) : ev_M ev_mt (d + 1) 59 [.ref 3, .int (v1)] (hX σ) (some (.int q), hX σ) := by
  refine ev_en (rt := (some .boolean)) (I := eiX7_isFree) rfl (Nat.le_of_ble_eq_true rfl) ?_
  change ev_X d _ _ (0, [some (.ref 3), some (.int (v1))], [], hX σ) _
  unfold fX7_isFree at hf
  refine ev_br 1 (P := v1 < 0) (a := 35) (b := 4) (ls := [some (.ref 3), some (.int (v1))]) (st := []) (h := hX σ) rfl (fun c1 => ?_) (fun c1 => ?_)
  · rw [if_pos c1] at hf
    exact ev_dr (a := [none, none]) trivial (tX7_isFree_b35 d σ  _ hf)
  · rw [if_neg c1] at hf
    refine ev_br 3 (P := v1 < (gx_rg_size σ)) (a := 12) (b := 35) (ls := [some (.ref 3), some (.int (v1))]) (st := []) (h := hX σ) rfl (fun c2 => ?_) (fun c2 => ?_)
    · rw [if_pos c2] at hf
      refine ev_br 4 (P := v1 < (36 : Int32)) (a := 21) (b := 35) (ls := [some (.ref 3), some (.int (v1))]) (st := []) (h := hX σ) rfl (fun c3 => ?_) (fun c3 => ?_)
      · rw [if_pos c3] at hf
        obtain ⟨c4, hf⟩ := ev_hp hf
        refine ev_ck 3 (P := ¬ (v1 < 0 ∨ 36 ≤ v1.toNatClampNeg)) (c' := (27, [some (.ref 3), some (.int (v1))], [.int (((gx_rg_kinds σ) v1.toNatClampNeg))], hX σ)) rfl c4 ?_
        refine ev_br 1 (P := (1 : Int32) < ((gx_rg_kinds σ) v1.toNatClampNeg)) (a := 35) (b := 31) (ls := [some (.ref 3), some (.int (v1))]) (st := []) (h := hX σ) rfl (fun c5 => ?_) (fun c5 => ?_)
        · rw [if_pos c5] at hf
          exact ev_dr (a := [none, none]) trivial (tX7_isFree_b35 d σ  _ hf)
        · rw [if_neg c5] at hf
          refine ev_go (c' := (36, [some (.ref 3), some (.int (v1))], [.int ((1 : Int32))], hX σ)) 1 rfl ?_
          exact ev_dr (a := [none, none]) trivial (tX7_isFree_b36 d σ (1 : Int32) _ hf)
      · rw [if_neg c3] at hf
        exact ev_dr (a := [none, none]) trivial (tX7_isFree_b35 d σ  _ hf)
    · rw [if_neg c2] at hf
      exact ev_dr (a := [none, none]) trivial (tX7_isFree_b35 d σ  _ hf)
set_option maxRecDepth 20000 in
set_option maxHeartbeats 4000000 in
theorem tX7_choose_b70 (d : Nat) (σ : SX) (k18 : Int32 → Int32 → Int32 → Int32 → Int32 → Int32 → Int32 → Option (Int32)) (hk18 : ∀ (v1 : Int32) (v2 : Int32) (v3 : Int32) (v4 : Int32) (v5 : Int32) (v6 : Int32) (v7 : Int32) (q : Int32), k18 v1 v2 v3 v4 v5 v6 v7 = some q → ev_X (d + 1) (some .int) eiX7_choose (18, [some (.ref 3), some (.int (v1)), some (.int (v2)), some (.int (v3)), some (.int (v4)), some (.int (v5)), some (.int (v6)), some (.int (v7)), none, none], [], hX σ) (some (.int q), hX σ)) (v1 : Int32) (v2 : Int32) (v3 : Int32) (v4 : Int32) (v5 : Int32) (v6 : Int32) (v7 : Int32) (q : Int32) (hf : fX7_choose_b70 σ k18 v1 v2 v3 v4 v5 v6 v7 = some q) : ev_X (d + 1) (some .int) eiX7_choose (70, [some (.ref 3), some (.int (v1)), some (.int (v2)), some (.int (v3)), some (.int (v4)), some (.int (v5)), some (.int (v6)), some (.int (v7)), none, none], [], hX σ) (some (.int q), hX σ) := by
  unfold fX7_choose_b70 at hf
  refine ev_go (c' := (18, [some (.ref 3), some (.int (v1)), some (.int (v2)), some (.int (v3)), some (.int (v4)), some (.int (v5)), some (.int (v6)), some (.int ((v7 + (1 : Int32)))), none, none], [], hX σ)) 1 rfl ?_
  exact ev_dr (a := [some (.ref 3), some (.int (v1)), some (.int (v2)), some (.int (v3)), some (.int (v4)), some (.int (v5)), some (.int (v6)), some (.int ((v7 + (1 : Int32)))), none, none]) ⟨rfl, ⟨rfl, ⟨rfl, ⟨rfl, ⟨rfl, ⟨rfl, ⟨rfl, ⟨rfl, trivial⟩⟩⟩⟩⟩⟩⟩⟩ (hk18 v1 v2 v3 v4 v5 v6 (v7 + (1 : Int32)) _ hf)
set_option maxRecDepth 20000 in
set_option maxHeartbeats 4000000 in
theorem tX7_choose_b18 (d : Nat) (σ : SX) (k18 : Int32 → Int32 → Int32 → Int32 → Int32 → Int32 → Int32 → Option (Int32)) (hk18 : ∀ (v1 : Int32) (v2 : Int32) (v3 : Int32) (v4 : Int32) (v5 : Int32) (v6 : Int32) (v7 : Int32) (q : Int32), k18 v1 v2 v3 v4 v5 v6 v7 = some q → ev_X (d + 1) (some .int) eiX7_choose (18, [some (.ref 3), some (.int (v1)), some (.int (v2)), some (.int (v3)), some (.int (v4)), some (.int (v5)), some (.int (v6)), some (.int (v7)), none, none], [], hX σ) (some (.int q), hX σ)) (v1 : Int32) (v2 : Int32) (v3 : Int32) (v4 : Int32) (v5 : Int32) (v6 : Int32) (v7 : Int32) (q : Int32) (hf : fX7_choose_b18 σ k18 v1 v2 v3 v4 v5 v6 v7 = some q) : ev_X (d + 1) (some .int) eiX7_choose (18, [some (.ref 3), some (.int (v1)), some (.int (v2)), some (.int (v3)), some (.int (v4)), some (.int (v5)), some (.int (v6)), some (.int (v7)), none, none], [], hX σ) (some (.int q), hX σ) := by
  unfold fX7_choose_b18 at hf
  refine ev_br 2 (P := v7 < (4 : Int32)) (a := 24) (b := 76) (ls := [some (.ref 3), some (.int (v1)), some (.int (v2)), some (.int (v3)), some (.int (v4)), some (.int (v5)), some (.int (v6)), some (.int (v7)), none, none]) (st := []) (h := hX σ) rfl (fun c1 => ?_) (fun c1 => ?_)
  · rw [if_pos c1] at hf
    obtain ⟨r2, hr2, hf⟩ := Option.bind_eq_some_iff.mp hf
    refine ev_cli 3 (kk := 61) (as := [.ref 3, .int (v1), .int (v7)]) (rest := []) (pc := 28) (ls := [some (.ref 3), some (.int (v1)), some (.int (v2)), some (.int (v3)), some (.int (v4)), some (.int (v5)), some (.int (v6)), some (.int (v7)), none, none]) (st := [.int (v7), .int (v1), .ref 3]) (h := hX σ) rfl (tX7_ahead d σ v1 v7 r2 hr2) ?_
    obtain ⟨r3, hr3, hf⟩ := Option.bind_eq_some_iff.mp hf
    refine ev_cli 3 (kk := 59) (as := [.ref 3, .int (r2)]) (rest := []) (pc := 36) (ls := [some (.ref 3), some (.int (v1)), some (.int (v2)), some (.int (v3)), some (.int (v4)), some (.int (v5)), some (.int (v6)), some (.int (v7)), some (.int (r2)), none]) (st := [.int (r2), .ref 3]) (h := hX σ) rfl (tX7_isFree d σ r2 r3 hr3) ?_
    refine ev_br 0 (P := r3 = 0) (a := 70) (b := 42) (ls := [some (.ref 3), some (.int (v1)), some (.int (v2)), some (.int (v3)), some (.int (v4)), some (.int (v5)), some (.int (v6)), some (.int (v7)), some (.int (r2)), none]) (st := []) (h := hX σ) rfl (fun c2 => ?_) (fun c2 => ?_)
    · rw [if_pos c2] at hf
      exact ev_dr (a := [some (.ref 3), some (.int (v1)), some (.int (v2)), some (.int (v3)), some (.int (v4)), some (.int (v5)), some (.int (v6)), some (.int (v7)), none, none]) ⟨rfl, ⟨rfl, ⟨rfl, ⟨rfl, ⟨rfl, ⟨rfl, ⟨rfl, ⟨rfl, trivial⟩⟩⟩⟩⟩⟩⟩⟩ (tX7_choose_b70 d σ k18 hk18 v1 v2 v3 v4 v5 v6 v7 _ hf)
    · rw [if_neg c2] at hf
      obtain ⟨r4, hr4, hf⟩ := Option.bind_eq_some_iff.mp hf
      refine ev_cli 5 (kk := 64) (as := [.ref 3, .int (r2), .int (v2), .int (v3)]) (rest := [.int (v4)]) (pc := 49) (ls := [some (.ref 3), some (.int (v1)), some (.int (v2)), some (.int (v3)), some (.int (v4)), some (.int (v5)), some (.int (v6)), some (.int (v7)), some (.int (r2)), none]) (st := [.int (v3), .int (v2), .int (r2), .ref 3, .int (v4)]) (h := hX σ) rfl (tX7_apart d σ r2 v2 v3 r4 hr4) ?_
      refine ev_br 4 (P := (v4 * r4) < v6) (a := 62) (b := 70) (ls := [some (.ref 3), some (.int (v1)), some (.int (v2)), some (.int (v3)), some (.int (v4)), some (.int (v5)), some (.int (v6)), some (.int (v7)), some (.int (r2)), some (.int ((v4 * r4)))]) (st := []) (h := hX σ) rfl (fun c3 => ?_) (fun c3 => ?_)
      · rw [if_pos c3] at hf
        refine ev_go (c' := (70, [some (.ref 3), some (.int (v1)), some (.int (v2)), some (.int (v3)), some (.int (v4)), some (.int (r2)), some (.int ((v4 * r4))), some (.int (v7)), some (.int (r2)), some (.int ((v4 * r4)))], [], hX σ)) 3 rfl ?_
        exact ev_dr (a := [some (.ref 3), some (.int (v1)), some (.int (v2)), some (.int (v3)), some (.int (v4)), some (.int (r2)), some (.int ((v4 * r4))), some (.int (v7)), none, none]) ⟨rfl, ⟨rfl, ⟨rfl, ⟨rfl, ⟨rfl, ⟨rfl, ⟨rfl, ⟨rfl, trivial⟩⟩⟩⟩⟩⟩⟩⟩ (tX7_choose_b70 d σ k18 hk18 v1 v2 v3 v4 r2 (v4 * r4) v7 _ hf)
      · rw [if_neg c3] at hf
        exact ev_dr (a := [some (.ref 3), some (.int (v1)), some (.int (v2)), some (.int (v3)), some (.int (v4)), some (.int (v5)), some (.int (v6)), some (.int (v7)), none, none]) ⟨rfl, ⟨rfl, ⟨rfl, ⟨rfl, ⟨rfl, ⟨rfl, ⟨rfl, ⟨rfl, trivial⟩⟩⟩⟩⟩⟩⟩⟩ (tX7_choose_b70 d σ k18 hk18 v1 v2 v3 v4 v5 v6 v7 _ hf)
  · rw [if_neg c1] at hf
    cases hf
    exact ev_rt 1 rfl
theorem tX7_choose_l18 (d : Nat) (σ : SX) : ∀ (n : Nat) (v1 : Int32) (v2 : Int32) (v3 : Int32) (v4 : Int32) (v5 : Int32) (v6 : Int32) (v7 : Int32) (q : Int32), fX7_choose_l18 σ n v1 v2 v3 v4 v5 v6 v7 = some q → ev_X (d + 1) (some .int) eiX7_choose (18, [some (.ref 3), some (.int (v1)), some (.int (v2)), some (.int (v3)), some (.int (v4)), some (.int (v5)), some (.int (v6)), some (.int (v7)), none, none], [], hX σ) (some (.int q), hX σ)
  | 0, _, _, _, _, _, _, _, _, hf => by cases hf
  | n + 1, v1, v2, v3, v4, v5, v6, v7, q, hf => tX7_choose_b18 d σ (fX7_choose_l18 σ n) (fun v1 v2 v3 v4 v5 v6 v7 q h9 => tX7_choose_l18 d σ n v1 v2 v3 v4 v5 v6 v7 q h9) v1 v2 v3 v4 v5 v6 v7 q hf
set_option maxRecDepth 20000 in
set_option maxHeartbeats 4000000 in
theorem tX7_choose (d : Nat) (σ : SX) (v1 : Int32) (v2 : Int32) (v3 : Int32) (v4 : Int32) (q : Int32) (hf : fX7_choose σ v1 v2 v3 v4 = some q) : ev_M ev_mt (d + 2) 66 [.ref 3, .int (v1), .int (v2), .int (v3), .int (v4)] (hX σ) (some (.int q), hX σ) := by
  refine ev_en (rt := (some .int)) (I := eiX7_choose) rfl (Nat.le_of_ble_eq_true rfl) ?_
  change ev_X (d + 1) _ _ (0, [some (.ref 3), some (.int (v1)), some (.int (v2)), some (.int (v3)), some (.int (v4)), none, none, none, none, none], [], hX σ) _
  unfold fX7_choose at hf
  obtain ⟨r1, hr1, hf⟩ := Option.bind_eq_some_iff.mp hf
  refine ev_cli 7 (kk := 64) (as := [.ref 3, .int (v1), .int (v2), .int (v3)]) (rest := [.int (v4)]) (pc := 9) (ls := [some (.ref 3), some (.int (v1)), some (.int (v2)), some (.int (v3)), some (.int (v4)), some (.int (v1)), none, none, none, none]) (st := [.int (v3), .int (v2), .int (v1), .ref 3, .int (v4)]) (h := hX σ) rfl (tX7_apart d σ v1 v2 v3 r1 hr1) ?_
  refine ev_go (c' := (18, [some (.ref 3), some (.int (v1)), some (.int (v2)), some (.int (v3)), some (.int (v4)), some (.int (v1)), some (.int ((v4 * r1))), some (.int ((0 : Int32))), none, none], [], hX σ)) 3 rfl ?_
  exact ev_dr (a := [some (.ref 3), some (.int (v1)), some (.int (v2)), some (.int (v3)), some (.int (v4)), some (.int (v1)), some (.int ((v4 * r1))), some (.int ((0 : Int32))), none, none]) ⟨rfl, ⟨rfl, ⟨rfl, ⟨rfl, ⟨rfl, ⟨rfl, ⟨rfl, ⟨rfl, trivial⟩⟩⟩⟩⟩⟩⟩⟩ (tX7_choose_l18 d σ 1000 v1 v2 v3 v4 v1 (v4 * r1) (0 : Int32) _ hf)
set_option maxRecDepth 20000 in
set_option maxHeartbeats 4000000 in
theorem tX0_goOn (d : Nat) (σ : SX) (v0 : Nat) (v2 : Int32) (v3 : Int32) (v4 : Int32) (q : SX) (hf : fX0_goOn σ v0 v2 v3 v4 = some q) : ev_M ev_mt (d + 3) 1 [.ref v0, .ref 3, .int (v2), .int (v3), .int (v4)] (hX σ) (none, hX q) := by
  refine ev_en (rt := none) (I := eiX0_goOn) rfl (Nat.le_of_ble_eq_true rfl) ?_
  change ev_X (d + 2) _ _ (0, [some (.ref v0), some (.ref 3), some (.int (v2)), some (.int (v3)), some (.int (v4))], [], hX σ) _
  unfold fX0_goOn at hf
  obtain ⟨c1, hf⟩ := ev_hp hf
  refine ev_go (c' := (3, [some (.ref v0), some (.ref 3), some (.int (v2)), some (.int (v3)), some (.int (v4))], [.ref v0, .ref 3, .ref v0], hX σ)) 2 rfl ?_
  refine ev_st1 (e := (3, .getfield 9, 3, 2, 0, .null, [(0, 0), (1, 0), (2, 0), (6, 0), (9, 0), (10, 0)], [668, 669])) (c' := (6, [some (.ref v0), some (.ref 3), some (.int (v2)), some (.int (v3)), some (.int (v4))], [.int (((gx_pl_at σ) (v0 - 20))), .ref 3, .ref v0], hX σ)) rfl (ox_pget2 c1) ?_
  obtain ⟨c2, hf⟩ := ev_hp hf
  refine ev_ck 5 (P := ¬ ((v4 &&& (3 : Int32)) < 0 ∨ 4 ≤ (v4 &&& (3 : Int32)).toNatClampNeg)) (c' := (15, [some (.ref v0), some (.ref 3), some (.int (v2)), some (.int (v3)), some (.int (v4))], [.int ((ev_sf 1001 (v4 &&& (3 : Int32)).toNatClampNeg)), .int (v2), .int (((gx_pl_at σ) (v0 - 20))), .ref 3, .ref v0], hX σ)) rfl c2 ?_
  obtain ⟨c3, hf⟩ := ev_hp hf
  refine ev_ck 6 (P := ¬ ((v4 &&& (3 : Int32)) < 0 ∨ 4 ≤ (v4 &&& (3 : Int32)).toNatClampNeg)) (c' := (25, [some (.ref v0), some (.ref 3), some (.int (v2)), some (.int (v3)), some (.int (v4))], [.int ((ev_sf 1002 (v4 &&& (3 : Int32)).toNatClampNeg)), .int (v3), .int ((v2 - (ev_sf 1001 (v4 &&& (3 : Int32)).toNatClampNeg))), .int (((gx_pl_at σ) (v0 - 20))), .ref 3, .ref v0], hX σ)) rfl c3 ?_
  obtain ⟨r1, hr1, hf⟩ := Option.bind_eq_some_iff.mp hf
  refine ev_cli 2 (kk := 66) (as := [.ref 3, .int (((gx_pl_at σ) (v0 - 20))), .int ((v2 - (ev_sf 1001 (v4 &&& (3 : Int32)).toNatClampNeg))), .int ((v3 - (ev_sf 1002 (v4 &&& (3 : Int32)).toNatClampNeg))), .int ((1 : Int32))]) (rest := [.ref v0]) (pc := 27) (ls := [some (.ref v0), some (.ref 3), some (.int (v2)), some (.int (v3)), some (.int (v4))]) (st := [.int ((1 : Int32)), .int ((v3 - (ev_sf 1002 (v4 &&& (3 : Int32)).toNatClampNeg))), .int ((v2 - (ev_sf 1001 (v4 &&& (3 : Int32)).toNatClampNeg))), .int (((gx_pl_at σ) (v0 - 20))), .ref 3, .ref v0]) (h := hX σ) rfl (tX7_choose d σ ((gx_pl_at σ) (v0 - 20)) (v2 - (ev_sf 1001 (v4 &&& (3 : Int32)).toNatClampNeg)) (v3 - (ev_sf 1002 (v4 &&& (3 : Int32)).toNatClampNeg)) (1 : Int32) r1 hr1) ?_
  obtain ⟨c4, hf⟩ := ev_hp hf
  refine ev_st1 (e := (30, .putfield 9, 3, 2, 0, .null, [(0, 0), (1, 0), (2, 0), (6, 0), (9, 0), (10, 0)], [668, 669])) (c' := (33, [some (.ref v0), some (.ref 3), some (.int (v2)), some (.int (v3)), some (.int (v4))], [], hX (sx_pl_at σ (upd (gx_pl_at σ) (v0 - 20) r1)))) rfl (ox_pput2 c4) ?_
  cases hf
  exact ev_rt 0 rfl
set_option maxRecDepth 20000 in
set_option maxHeartbeats 4000000 in
theorem tX1_kind (d : Nat) (σ : SX) (v0 : Nat) (q : Int32) (hf : fX1_kind σ v0 = some q) : ev_M ev_mt (d + 1) 2 [.ref v0] (hX σ) (some (.int q), hX σ) := by
  refine ev_en (rt := (some .int)) (I := eiX1_kind) rfl (Nat.le_of_ble_eq_true rfl) ?_
  change ev_X d _ _ (0, [some (.ref v0)], [], hX σ) _
  unfold fX1_kind at hf
  cases hf
  exact ev_rt 1 rfl
set_option maxRecDepth 20000 in
set_option maxHeartbeats 4000000 in
theorem tX1_callsFrom (d : Nat) (σ : SX) (v0 : Nat) (q : Int32) (hf : fX1_callsFrom σ v0 = some q) : ev_M ev_mt (d + 1) 3 [.ref v0, .ref 3] (hX σ) (some (.int q), hX σ) := by
  refine ev_en (rt := (some .int)) (I := eiX1_callsFrom) rfl (Nat.le_of_ble_eq_true rfl) ?_
  change ev_X d _ _ (0, [some (.ref v0), some (.ref 3)], [], hX σ) _
  unfold fX1_callsFrom at hf
  obtain ⟨c1, hf⟩ := ev_hp hf
  refine ev_go (c' := (1, [some (.ref v0), some (.ref 3)], [.ref v0], hX σ)) 0 rfl ?_
  refine ev_st1 (e := (1, .getfield 9, 3, 2, 0, .null, [(0, 0), (1, 0), (2, 0), (6, 0), (9, 0), (10, 0)], [666, 667])) (c' := (4, [some (.ref v0), some (.ref 3)], [.int (((gx_pl_at σ) (v0 - 20)))], hX σ)) rfl (ox_pget2 c1) ?_
  cases hf
  exact ev_rt 0 rfl
set_option maxRecDepth 20000 in
set_option maxHeartbeats 4000000 in
theorem tX2_kind (d : Nat) (σ : SX) (v0 : Nat) (q : Int32) (hf : fX2_kind σ v0 = some q) : ev_M ev_mt (d + 1) 4 [.ref v0] (hX σ) (some (.int q), hX σ) := by
  refine ev_en (rt := (some .int)) (I := eiX2_kind) rfl (Nat.le_of_ble_eq_true rfl) ?_
  change ev_X d _ _ (0, [some (.ref v0)], [], hX σ) _
  unfold fX2_kind at hf
  cases hf
  exact ev_rt 1 rfl
set_option maxRecDepth 20000 in
set_option maxHeartbeats 4000000 in
theorem tX2_callsFrom (d : Nat) (σ : SX) (v0 : Nat) (q : Int32) (hf : fX2_callsFrom σ v0 = some q) : ev_M ev_mt (d + 1) 5 [.ref v0, .ref 3] (hX σ) (some (.int q), hX σ) := by
  refine ev_en (rt := (some .int)) (I := eiX2_callsFrom) rfl (Nat.le_of_ble_eq_true rfl) ?_
  change ev_X d _ _ (0, [some (.ref v0), some (.ref 3)], [], hX σ) _
  unfold fX2_callsFrom at hf
  obtain ⟨c1, hf⟩ := ev_hp hf
  refine ev_go (c' := (7, [some (.ref v0), some (.ref 3)], [.ref v0, .int (((gx_rg_size σ) - (1 : Int32)))], hX σ)) 4 rfl ?_
  refine ev_st1 (e := (7, .getfield 15, 3, 2, 0, .null, [(0, 0), (1, 0), (2, 0), (6, 0), (9, 0), (10, 0)], [672, 673])) (c' := (10, [some (.ref v0), some (.ref 3)], [.int (((gx_pl_at σ) (v0 - 20))), .int (((gx_rg_size σ) - (1 : Int32)))], hX σ)) rfl (ox_pget2 c1) ?_
  cases hf
  exact ev_rt 1 rfl
set_option maxRecDepth 20000 in
set_option maxHeartbeats 4000000 in
theorem tX3_changeJackets (d : Nat) (σ : SX) (v1 : Int32) (v2 : Int32) (v3 : Int32) (q : SX) (hf : fX3_changeJackets σ v1 v2 v3 = some q) : ev_M ev_mt (d + 1) 6 [.ref 18, .int (v1), .int (v2), .int (v3)] (hX σ) (none, hX q) := by
  refine ev_en (rt := none) (I := eiX3_changeJackets) rfl (Nat.le_of_ble_eq_true rfl) ?_
  change ev_X d _ _ (0, [some (.ref 18), some (.int (v1)), some (.int (v2)), some (.int (v3))], [], hX σ) _
  unfold fX3_changeJackets at hf
  refine ev_go (c' := (2, [some (.ref 18), some (.int (v1)), some (.int (v2)), some (.int (v3))], [.int (v1), .ref 18], hX σ)) 1 rfl ?_
  refine ev_st1 (e := (2, .putfield 22, 3, 5, 0, .null, [(3, 0)], [226])) (c' := (5, [some (.ref 18), some (.int (v1)), some (.int (v2)), some (.int (v3))], [], hX (sx_nm_first σ v1))) rfl oy_put_x_nm_first ?_
  refine ev_go (c' := (7, [some (.ref 18), some (.int (v1)), some (.int (v2)), some (.int (v3))], [.int (v2), .ref 18], hX (sx_nm_first σ v1))) 1 rfl ?_
  refine ev_st1 (e := (7, .putfield 25, 3, 6, 0, .null, [(3, 0)], [227])) (c' := (10, [some (.ref 18), some (.int (v1)), some (.int (v2)), some (.int (v3))], [], hX (sx_nm_second (sx_nm_first σ v1) v2))) rfl oy_put_x_nm_second ?_
  refine ev_go (c' := (12, [some (.ref 18), some (.int (v1)), some (.int (v2)), some (.int (v3))], [.int (v3), .ref 18], hX (sx_nm_second (sx_nm_first σ v1) v2))) 1 rfl ?_
  refine ev_st1 (e := (12, .putfield 38, 3, 7, 0, .null, [(3, 0)], [228])) (c' := (15, [some (.ref 18), some (.int (v1)), some (.int (v2)), some (.int (v3))], [], hX (sx_nm_changed (sx_nm_second (sx_nm_first σ v1) v2) v3))) rfl oy_put_x_nm_changed ?_
  cases hf
  exact ev_rt 0 rfl
set_option maxRecDepth 20000 in
set_option maxHeartbeats 4000000 in
theorem tX3_forgetJackets (d : Nat) (σ : SX) (q : SX) (hf : fX3_forgetJackets σ = some q) : ev_M ev_mt (d + 2) 7 [.ref 18] (hX σ) (none, hX q) := by
  refine ev_en (rt := none) (I := eiX3_forgetJackets) rfl (Nat.le_of_ble_eq_true rfl) ?_
  change ev_X (d + 1) _ _ (0, [some (.ref 18)], [], hX σ) _
  unfold fX3_forgetJackets at hf
  obtain ⟨r1, hr1, hf⟩ := Option.bind_eq_some_iff.mp hf
  refine ev_clv 4 (kk := 6) (as := [.ref 18, .int ((-1 : Int32)), .int ((-1 : Int32)), .int ((0 : Int32))]) (rest := []) (pc := 4) (ls := [some (.ref 18)]) (st := [.int ((0 : Int32)), .int ((-1 : Int32)), .int ((-1 : Int32)), .ref 18]) (h := hX σ) rfl (tX3_changeJackets d σ (-1 : Int32) (-1 : Int32) (0 : Int32) r1 hr1) ?_
  cases hf
  exact ev_rt 0 rfl
set_option maxRecDepth 20000 in
set_option maxHeartbeats 4000000 in
theorem tX3_keep (d : Nat) (σ : SX) (q : SX) (hf : fX3_keep σ = some q) : ev_M ev_mt (d + 1) 8 [.ref 18] (hX σ) (none, hX q) := by
  refine ev_en (rt := none) (I := eiX3_keep) rfl (Nat.le_of_ble_eq_true rfl) ?_
  change ev_X d _ _ (0, [some (.ref 18)], [], hX σ) _
  unfold fX3_keep at hf
  refine ev_go (c' := (5, [some (.ref 18)], [.int ((gx_nm_first σ)), .ref 18], hX σ)) 2 rfl ?_
  refine ev_st1 (e := (5, .putfield 28, 3, 8, 0, .null, [(3, 0)], [229])) (c' := (8, [some (.ref 18)], [], hX (sx_nm_keptFirst σ (gx_nm_first σ)))) rfl oy_put_x_nm_keptFirst ?_
  refine ev_go (c' := (13, [some (.ref 18)], [.int ((gx_nm_second σ)), .ref 18], hX (sx_nm_keptFirst σ (gx_nm_first σ)))) 2 rfl ?_
  refine ev_st1 (e := (13, .putfield 31, 3, 9, 0, .null, [(3, 0)], [230])) (c' := (16, [some (.ref 18)], [], hX (sx_nm_keptSecond (sx_nm_keptFirst σ (gx_nm_first σ)) (gx_nm_second σ)))) rfl oy_put_x_nm_keptSecond ?_
  refine ev_go (c' := (21, [some (.ref 18)], [.int ((gx_nm_changed σ)), .ref 18], hX (sx_nm_keptSecond (sx_nm_keptFirst σ (gx_nm_first σ)) (gx_nm_second σ)))) 2 rfl ?_
  refine ev_st1 (e := (21, .putfield 45, 3, 10, 0, .null, [(3, 0)], [231])) (c' := (24, [some (.ref 18)], [], hX (sx_nm_keptChanged (sx_nm_keptSecond (sx_nm_keptFirst σ (gx_nm_first σ)) (gx_nm_second σ)) (gx_nm_changed σ)))) rfl oy_put_x_nm_keptChanged ?_
  cases hf
  exact ev_rt 0 rfl
set_option maxRecDepth 20000 in
set_option maxHeartbeats 4000000 in
theorem tX3_takeKept (d : Nat) (σ : SX) (q : SX) (hf : fX3_takeKept σ = some q) : ev_M ev_mt (d + 2) 9 [.ref 18] (hX σ) (none, hX q) := by
  refine ev_en (rt := none) (I := eiX3_takeKept) rfl (Nat.le_of_ble_eq_true rfl) ?_
  change ev_X (d + 1) _ _ (0, [some (.ref 18)], [], hX σ) _
  unfold fX3_takeKept at hf
  obtain ⟨r1, hr1, hf⟩ := Option.bind_eq_some_iff.mp hf
  refine ev_clv 7 (kk := 6) (as := [.ref 18, .int ((gx_nm_keptFirst σ)), .int ((gx_nm_keptSecond σ)), .int ((gx_nm_keptChanged σ))]) (rest := []) (pc := 13) (ls := [some (.ref 18)]) (st := [.int ((gx_nm_keptChanged σ)), .int ((gx_nm_keptSecond σ)), .int ((gx_nm_keptFirst σ)), .ref 18]) (h := hX σ) rfl (tX3_changeJackets d σ (gx_nm_keptFirst σ) (gx_nm_keptSecond σ) (gx_nm_keptChanged σ) r1 hr1) ?_
  cases hf
  exact ev_rt 0 rfl
set_option maxRecDepth 20000 in
set_option maxHeartbeats 4000000 in
theorem tX3_sizeWeight_b34 (d : Nat) (σ : SX) (w0 : Int32) (q : Int32) (hf : fX3_sizeWeight_b34 σ w0 = some q) : ev_X d (some .int) eiX3_sizeWeight (34, [none, none], [.int (w0)], hX σ) (some (.int q), hX σ) := by
  unfold fX3_sizeWeight_b34 at hf
  cases hf
  exact ev_rt 0 rfl
set_option maxRecDepth 20000 in
set_option maxHeartbeats 4000000 in
theorem tX3_sizeWeight_b26 (d : Nat) (σ : SX) (q : Int32) (hf : fX3_sizeWeight_b26 σ = some q) : ev_X d (some .int) eiX3_sizeWeight (26, [some (.ref 18), none], [], hX σ) (some (.int q), hX σ) := by
  unfold fX3_sizeWeight_b26 at hf
  refine ev_go (c' := (34, [some (.ref 18), none], [.int ((gx_nm_sizeOff σ))], hX σ)) 2 rfl ?_
  exact ev_dr (a := [none, none]) trivial (tX3_sizeWeight_b34 d σ (gx_nm_sizeOff σ) _ hf)
set_option maxRecDepth 20000 in
set_option maxHeartbeats 4000000 in
theorem tX3_sizeWeight (d : Nat) (σ : SX) (v1 : Int32) (q : Int32) (hf : fX3_sizeWeight σ v1 = some q) : ev_M ev_mt (d + 1) 11 [.ref 18, .int (v1)] (hX σ) (some (.int q), hX σ) := by
  refine ev_en (rt := (some .int)) (I := eiX3_sizeWeight) rfl (Nat.le_of_ble_eq_true rfl) ?_
  change ev_X d _ _ (0, [some (.ref 18), some (.int (v1))], [], hX σ) _
  unfold fX3_sizeWeight at hf
  refine ev_br 1 (P := v1 = 0) (a := 4) (b := 16) (ls := [some (.ref 18), some (.int (v1))]) (st := []) (h := hX σ) rfl (fun c1 => ?_) (fun c1 => ?_)
  · rw [if_pos c1] at hf
    refine ev_go (c' := (34, [some (.ref 18), some (.int (v1))], [.int (((10 : Int32) - ((2 : Int32) * (gx_nm_sizeOff σ))))], hX σ)) 6 rfl ?_
    exact ev_dr (a := [none, none]) trivial (tX3_sizeWeight_b34 d σ ((10 : Int32) - ((2 : Int32) * (gx_nm_sizeOff σ))) _ hf)
  · rw [if_neg c1] at hf
    refine ev_br 2 (P := v1 = (1 : Int32)) (a := 26) (b := 21) (ls := [some (.ref 18), some (.int (v1))]) (st := []) (h := hX σ) rfl (fun c2 => ?_) (fun c2 => ?_)
    · rw [if_pos c2] at hf
      exact ev_dr (a := [some (.ref 18), none]) ⟨rfl, trivial⟩ (tX3_sizeWeight_b26 d σ  _ hf)
    · rw [if_neg c2] at hf
      refine ev_br 2 (P := v1 = (-1 : Int32)) (a := 26) (b := 33) (ls := [some (.ref 18), some (.int (v1))]) (st := []) (h := hX σ) rfl (fun c3 => ?_) (fun c3 => ?_)
      · rw [if_pos c3] at hf
        exact ev_dr (a := [some (.ref 18), none]) ⟨rfl, trivial⟩ (tX3_sizeWeight_b26 d σ  _ hf)
      · rw [if_neg c3] at hf
        refine ev_go (c' := (34, [some (.ref 18), some (.int (v1))], [.int ((0 : Int32))], hX σ)) 0 rfl ?_
        exact ev_dr (a := [none, none]) trivial (tX3_sizeWeight_b34 d σ (0 : Int32) _ hf)
set_option maxRecDepth 20000 in
set_option maxHeartbeats 4000000 in
theorem tX3_clothOf_b36 (d : Nat) (σ : SX) (w0 : Int32) (q : Int32) (hf : fX3_clothOf_b36 σ w0 = some q) : ev_X d (some .int) eiX3_clothOf (36, [none, none, none], [.int (w0)], hX σ) (some (.int q), hX σ) := by
  unfold fX3_clothOf_b36 at hf
  cases hf
  exact ev_rt 0 rfl
set_option maxRecDepth 20000 in
set_option maxHeartbeats 4000000 in
theorem tX3_clothOf_b23 (d : Nat) (σ : SX) (w0 : Option Nat) (q : Int32) (hf : fX3_clothOf_b23 σ w0 = some q) : ev_X d (some .int) eiX3_clothOf (23, [none, none, none], [va_rf (w0)], hX σ) (some (.int q), hX σ) := by
  unfold fX3_clothOf_b23 at hf
  rcases hc1 : w0 with _ | a1
  · rw [hc1] at hf
    simp only [ev_q] at hf
    change ev_X d _ _ (23, [none, none, none], [.null], hX σ) _
    refine ev_go (c' := (36, [none, none, some (.null)], [.int ((-1 : Int32))], hX σ)) 4 rfl ?_
    exact ev_dr (a := [none, none, none]) trivial (tX3_clothOf_b36 d σ (-1 : Int32) _ hf)
  · rw [hc1] at hf
    simp only [ev_q] at hf
    change ev_X d _ _ (23, [none, none, none], [.ref a1], hX σ) _
    obtain ⟨c2, hf⟩ := ev_hp hf
    refine ev_go (c' := (33, [none, none, some (.ref a1)], [.ref a1], hX σ)) 3 rfl ?_
    refine ev_st1 (e := (33, .getfield 74, 3, 4, 0, .null, [(0, 0), (1, 0), (2, 0), (6, 0), (9, 0), (10, 0)], [679])) (c' := (36, [none, none, some (.ref a1)], [.int (((gx_pl_cloth σ) (a1 - 20)))], hX σ)) rfl (ox_pget4 c2) ?_
    exact ev_dr (a := [none, none, none]) trivial (tX3_clothOf_b36 d σ ((gx_pl_cloth σ) (a1 - 20)) _ hf)
set_option maxRecDepth 20000 in
set_option maxHeartbeats 4000000 in
theorem tX3_clothOf_b22 (d : Nat) (σ : SX) (q : Int32) (hf : fX3_clothOf_b22 σ = some q) : ev_X d (some .int) eiX3_clothOf (22, [none, none, none], [], hX σ) (some (.int q), hX σ) := by
  unfold fX3_clothOf_b22 at hf
  refine ev_go (c' := (23, [none, none, none], [.null], hX σ)) 0 rfl ?_
  exact ev_dr (a := [none, none, none]) trivial (tX3_clothOf_b23 d σ none _ hf)
set_option maxRecDepth 20000 in
set_option maxHeartbeats 4000000 in
theorem tX3_clothOf (d : Nat) (σ : SX) (v1 : Int32) (q : Int32) (hf : fX3_clothOf σ v1 = some q) : ev_M ev_mt (d + 1) 14 [.ref 18, .int (v1)] (hX σ) (some (.int q), hX σ) := by
  refine ev_en (rt := (some .int)) (I := eiX3_clothOf) rfl (Nat.le_of_ble_eq_true rfl) ?_
  change ev_X d _ _ (0, [some (.ref 18), some (.int (v1)), none], [], hX σ) _
  unfold fX3_clothOf at hf
  refine ev_br 1 (P := v1 < 0) (a := 22) (b := 4) (ls := [some (.ref 18), some (.int (v1)), none]) (st := []) (h := hX σ) rfl (fun c1 => ?_) (fun c1 => ?_)
  · rw [if_pos c1] at hf
    exact ev_dr (a := [none, none, none]) trivial (tX3_clothOf_b22 d σ  _ hf)
  · rw [if_neg c1] at hf
    refine ev_br 4 (P := v1 < (6 : Int32)) (a := 13) (b := 22) (ls := [some (.ref 18), some (.int (v1)), none]) (st := []) (h := hX σ) rfl (fun c2 => ?_) (fun c2 => ?_)
    · rw [if_pos c2] at hf
      obtain ⟨c3, hf⟩ := ev_hp hf
      refine ev_ck 3 (P := ¬ (v1 < 0 ∨ 6 ≤ v1.toNatClampNeg)) (c' := (19, [some (.ref 18), some (.int (v1)), none], [va_rf (((gx_pl_arr σ) v1.toNatClampNeg))], hX σ)) rfl c3 ?_
      refine ev_go (c' := (23, [some (.ref 18), some (.int (v1)), none], [va_rf (((gx_pl_arr σ) v1.toNatClampNeg))], hX σ)) 0 rfl ?_
      exact ev_dr (a := [none, none, none]) trivial (tX3_clothOf_b23 d σ ((gx_pl_arr σ) v1.toNatClampNeg) _ hf)
    · rw [if_neg c2] at hf
      exact ev_dr (a := [none, none, none]) trivial (tX3_clothOf_b22 d σ  _ hf)
set_option maxRecDepth 20000 in
set_option maxHeartbeats 4000000 in
theorem tX3_likeWeight_b14 (d : Nat) (h : ev_H) (w0 : Int32) (q : Int32) (hf : fX3_likeWeight_b14 w0 = some q) : ev_X d (some .int) eiX3_likeWeight (14, [none, none], [.int (w0)], h) (some (.int q), h) := by
  unfold fX3_likeWeight_b14 at hf
  cases hf
  exact ev_rt 0 rfl
set_option maxRecDepth 20000 in
set_option maxHeartbeats 4000000 in
theorem tX3_likeWeight (d : Nat) (h : ev_H) (v0 : Int32) (v1 : Int32) (q : Int32) (hf : fX3_likeWeight v0 v1 = some q) : ev_M ev_mt (d + 1) 12 [.int (v0), .int (v1)] (h) (some (.int q), h) := by
  refine ev_en (rt := (some .int)) (I := eiX3_likeWeight) rfl (Nat.le_of_ble_eq_true rfl) ?_
  change ev_X d _ _ (0, [some (.int (v0)), some (.int (v1))], [], h) _
  unfold fX3_likeWeight at hf
  refine ev_br 1 (P := v0 = 0) (a := 10) (b := 4) (ls := [some (.int (v0)), some (.int (v1))]) (st := []) (h := h) rfl (fun c1 => ?_) (fun c1 => ?_)
  · rw [if_pos c1] at hf
    refine ev_go (c' := (14, [some (.int (v0)), some (.int (v1))], [.int (((10 : Int32) - v1))], h)) 2 rfl ?_
    exact ev_dr (a := [none, none]) trivial (tX3_likeWeight_b14 d h ((10 : Int32) - v1) _ hf)
  · rw [if_neg c1] at hf
    refine ev_go (c' := (14, [some (.int (v0)), some (.int (v1))], [.int (((4 : Int32) * v1))], h)) 3 rfl ?_
    exact ev_dr (a := [none, none]) trivial (tX3_likeWeight_b14 d h ((4 : Int32) * v1) _ hf)
set_option maxRecDepth 20000 in
set_option maxHeartbeats 4000000 in
theorem tX3_clothWeight_b75 (d : Nat) (σ : SX) (v3 : Int32) (w0 : Int32) (q : Int32) (hf : fX3_clothWeight_b75 σ v3 w0 = some q) : ev_X (d + 1) (some .int) eiX3_clothWeight (75, [some (.ref 18), none, none, some (.int (v3)), none], [.int (w0)], hX σ) (some (.int q), hX σ) := by
  unfold fX3_clothWeight_b75 at hf
  obtain ⟨r2, hr2, hf⟩ := Option.bind_eq_some_iff.mp hf
  refine ev_cli 2 (kk := 12) (as := [.int (w0), .int ((gx_nm_clothRight σ))]) (rest := []) (pc := 79) (ls := [some (.ref 18), none, none, some (.int (v3)), none]) (st := [.int ((gx_nm_clothRight σ)), .int (w0)]) (h := hX σ) rfl (tX3_likeWeight d (hX σ) w0 (gx_nm_clothRight σ) r2 hr2) ?_
  cases hf
  exact ev_rt 12 rfl
set_option maxRecDepth 20000 in
set_option maxHeartbeats 4000000 in
theorem tX3_clothWeight_b64 (d : Nat) (σ : SX) (v3 : Int32) (w0 : Int32) (w2 : Int32) (q : Int32) (hf : fX3_clothWeight_b64 σ v3 w0 w2 = some q) : ev_X (d + 1) (some .int) eiX3_clothWeight (64, [some (.ref 18), none, none, some (.int (v3)), none], [.int (w0), .ref 18, .int (w2)], hX σ) (some (.int q), hX σ) := by
  unfold fX3_clothWeight_b64 at hf
  obtain ⟨r3, hr3, hf⟩ := Option.bind_eq_some_iff.mp hf
  refine ev_cli 0 (kk := 14) (as := [.ref 18, .int (w0)]) (rest := [.int (w2)]) (pc := 64) (ls := [some (.ref 18), none, none, some (.int (v3)), none]) (st := [.int (w0), .ref 18, .int (w2)]) (h := hX σ) rfl (tX3_clothOf d σ w0 r3 hr3) ?_
  refine ev_br 0 (P := w2 = r3) (a := 70) (b := 74) (ls := [some (.ref 18), none, none, some (.int (v3)), none]) (st := []) (h := hX σ) rfl (fun c1 => ?_) (fun c1 => ?_)
  · rw [if_pos c1] at hf
    refine ev_go (c' := (75, [some (.ref 18), none, none, some (.int (v3)), none], [.int ((1 : Int32))], hX σ)) 1 rfl ?_
    exact ev_dr (a := [some (.ref 18), none, none, some (.int (v3)), none]) ⟨rfl, ⟨rfl, trivial⟩⟩ (tX3_clothWeight_b75 d σ v3 (1 : Int32) _ hf)
  · rw [if_neg c1] at hf
    refine ev_go (c' := (75, [some (.ref 18), none, none, some (.int (v3)), none], [.int ((0 : Int32))], hX σ)) 0 rfl ?_
    exact ev_dr (a := [some (.ref 18), none, none, some (.int (v3)), none]) ⟨rfl, ⟨rfl, trivial⟩⟩ (tX3_clothWeight_b75 d σ v3 (0 : Int32) _ hf)
set_option maxRecDepth 20000 in
set_option maxHeartbeats 4000000 in
theorem tX3_clothWeight_b43 (d : Nat) (σ : SX) (v1 : Int32) (v2 : Int32) (v3 : Int32) (q : Int32) (hf : fX3_clothWeight_b43 σ v1 v2 v3 = some q) : ev_X (d + 1) (some .int) eiX3_clothWeight (43, [some (.ref 18), some (.int (v1)), some (.int (v2)), some (.int (v3)), none], [], hX σ) (some (.int q), hX σ) := by
  unfold fX3_clothWeight_b43 at hf
  refine ev_br 5 (P := v1 = (gx_nm_first σ)) (a := 53) (b := 60) (ls := [some (.ref 18), some (.int (v1)), some (.int (v2)), some (.int (v3)), none]) (st := [.ref 18, .int (v2)]) (h := hX σ) rfl (fun c1 => ?_) (fun c1 => ?_)
  · rw [if_pos c1] at hf
    refine ev_go (c' := (64, [some (.ref 18), some (.int (v1)), some (.int (v2)), some (.int (v3)), none], [.int ((gx_nm_second σ)), .ref 18, .int (v2)], hX σ)) 2 rfl ?_
    exact ev_dr (a := [some (.ref 18), none, none, some (.int (v3)), none]) ⟨rfl, ⟨rfl, trivial⟩⟩ (tX3_clothWeight_b64 d σ v3 (gx_nm_second σ) v2 _ hf)
  · rw [if_neg c1] at hf
    refine ev_go (c' := (64, [some (.ref 18), some (.int (v1)), some (.int (v2)), some (.int (v3)), none], [.int ((gx_nm_first σ)), .ref 18, .int (v2)], hX σ)) 1 rfl ?_
    exact ev_dr (a := [some (.ref 18), none, none, some (.int (v3)), none]) ⟨rfl, ⟨rfl, trivial⟩⟩ (tX3_clothWeight_b64 d σ v3 (gx_nm_first σ) v2 _ hf)
set_option maxRecDepth 20000 in
set_option maxHeartbeats 4000000 in
theorem tX3_clothWeight_b14 (d : Nat) (σ : SX) (v1 : Int32) (v2 : Int32) (w0 : Int32) (q : Int32) (hf : fX3_clothWeight_b14 σ v1 v2 w0 = some q) : ev_X (d + 1) (some .int) eiX3_clothWeight (14, [some (.ref 18), some (.int (v1)), some (.int (v2)), none, none], [.int (w0)], hX σ) (some (.int q), hX σ) := by
  unfold fX3_clothWeight_b14 at hf
  obtain ⟨r4, hr4, hf⟩ := Option.bind_eq_some_iff.mp hf
  refine ev_cli 2 (kk := 12) (as := [.int (w0), .int ((gx_nm_clothRight σ))]) (rest := []) (pc := 18) (ls := [some (.ref 18), some (.int (v1)), some (.int (v2)), none, none]) (st := [.int ((gx_nm_clothRight σ)), .int (w0)]) (h := hX σ) rfl (tX3_likeWeight d (hX σ) w0 (gx_nm_clothRight σ) r4 hr4) ?_
  refine ev_br 4 (P := v1 = (gx_nm_first σ)) (a := 43) (b := 30) (ls := [some (.ref 18), some (.int (v1)), some (.int (v2)), some (.int (r4)), none]) (st := []) (h := hX σ) rfl (fun c1 => ?_) (fun c1 => ?_)
  · rw [if_pos c1] at hf
    exact ev_dr (a := [some (.ref 18), some (.int (v1)), some (.int (v2)), some (.int (r4)), none]) ⟨rfl, ⟨rfl, ⟨rfl, ⟨rfl, trivial⟩⟩⟩⟩ (tX3_clothWeight_b43 d σ v1 v2 r4 _ hf)
  · rw [if_neg c1] at hf
    refine ev_br 3 (P := v1 = (gx_nm_second σ)) (a := 43) (b := 38) (ls := [some (.ref 18), some (.int (v1)), some (.int (v2)), some (.int (r4)), none]) (st := []) (h := hX σ) rfl (fun c2 => ?_) (fun c2 => ?_)
    · rw [if_pos c2] at hf
      exact ev_dr (a := [some (.ref 18), some (.int (v1)), some (.int (v2)), some (.int (r4)), none]) ⟨rfl, ⟨rfl, ⟨rfl, ⟨rfl, trivial⟩⟩⟩⟩ (tX3_clothWeight_b43 d σ v1 v2 r4 _ hf)
    · rw [if_neg c2] at hf
      cases hf
      exact ev_rt 3 rfl
set_option maxRecDepth 20000 in
set_option maxHeartbeats 4000000 in
theorem tX3_clothWeight (d : Nat) (σ : SX) (v1 : Int32) (v2 : Int32) (q : Int32) (hf : fX3_clothWeight σ v1 v2 = some q) : ev_M ev_mt (d + 2) 13 [.ref 18, .int (v1), .int (v2)] (hX σ) (some (.int q), hX σ) := by
  refine ev_en (rt := (some .int)) (I := eiX3_clothWeight) rfl (Nat.le_of_ble_eq_true rfl) ?_
  change ev_X (d + 1) _ _ (0, [some (.ref 18), some (.int (v1)), some (.int (v2)), none, none], [], hX σ) _
  unfold fX3_clothWeight at hf
  obtain ⟨r1, hr1, hf⟩ := Option.bind_eq_some_iff.mp hf
  refine ev_cli 3 (kk := 14) (as := [.ref 18, .int (v1)]) (rest := [.int (v2)]) (pc := 3) (ls := [some (.ref 18), some (.int (v1)), some (.int (v2)), none, none]) (st := [.int (v1), .ref 18, .int (v2)]) (h := hX σ) rfl (tX3_clothOf d σ v1 r1 hr1) ?_
  refine ev_br 0 (P := v2 = r1) (a := 9) (b := 13) (ls := [some (.ref 18), some (.int (v1)), some (.int (v2)), none, none]) (st := []) (h := hX σ) rfl (fun c1 => ?_) (fun c1 => ?_)
  · rw [if_pos c1] at hf
    refine ev_go (c' := (14, [some (.ref 18), some (.int (v1)), some (.int (v2)), none, none], [.int ((1 : Int32))], hX σ)) 1 rfl ?_
    exact ev_dr (a := [some (.ref 18), some (.int (v1)), some (.int (v2)), none, none]) ⟨rfl, ⟨rfl, ⟨rfl, trivial⟩⟩⟩ (tX3_clothWeight_b14 d σ v1 v2 (1 : Int32) _ hf)
  · rw [if_neg c1] at hf
    refine ev_go (c' := (14, [some (.ref 18), some (.int (v1)), some (.int (v2)), none, none], [.int ((0 : Int32))], hX σ)) 0 rfl ?_
    exact ev_dr (a := [some (.ref 18), some (.int (v1)), some (.int (v2)), none, none]) ⟨rfl, ⟨rfl, ⟨rfl, trivial⟩⟩⟩ (tX3_clothWeight_b14 d σ v1 v2 (0 : Int32) _ hf)
set_option maxRecDepth 20000 in
set_option maxHeartbeats 4000000 in
theorem tX3_weigh_b95 (d : Nat) (σ : SX) (q : SX) (hf : fX3_weigh_b95 σ = some q) : ev_X (d + 2) none eiX3_weigh (95, [none, none, none, none, none, none], [], hX σ) (none, hX q) := by
  unfold fX3_weigh_b95 at hf
  cases hf
  exact ev_rt 0 rfl
set_option maxRecDepth 20000 in
set_option maxHeartbeats 4000000 in
theorem tX3_weigh_b88 (d : Nat) (k3 : SX → Int32 → Int32 → Int32 → Int32 → Option (SX)) (hk3 : ∀ (σ : SX) (v1 : Int32) (v2 : Int32) (v3 : Int32) (v4 : Int32) (q : SX), k3 σ v1 v2 v3 v4 = some q → ev_X (d + 2) none eiX3_weigh (3, [some (.ref 18), some (.int (v1)), some (.int (v2)), some (.int (v3)), some (.int (v4)), none], [], hX σ) (none, hX q)) (σ : SX) (v1 : Int32) (v2 : Int32) (v3 : Int32) (v4 : Int32) (w0 : Int32) (w1 : Int32) (q : SX) (hf : fX3_weigh_b88 k3 σ v1 v2 v3 v4 w0 w1 = some q) : ev_X (d + 2) none eiX3_weigh (88, [some (.ref 18), some (.int (v1)), some (.int (v2)), some (.int (v3)), some (.int (v4)), none], [.int (w0), .int (w1), .ref 19], hX σ) (none, hX q) := by
  unfold fX3_weigh_b88 at hf
  obtain ⟨c1, hf⟩ := ev_hp hf
  refine ev_st1 (e := (88, .iastore, 1, 0, 0, .null, [], [])) (c' := (89, [some (.ref 18), some (.int (v1)), some (.int (v2)), some (.int (v3)), some (.int (v4)), none], [], hX (sx_nm_weights σ (upd (gx_nm_weights σ) w1.toNatClampNeg w0)))) rfl (oy_ast_x_nm_weights c1) ?_
  refine ev_go (c' := (3, [some (.ref 18), some (.int (v1)), some (.int (v2)), some (.int (v3)), some (.int ((v4 + (1 : Int32)))), none], [], hX (sx_nm_weights σ (upd (gx_nm_weights σ) w1.toNatClampNeg w0)))) 1 rfl ?_
  exact ev_dr (a := [some (.ref 18), some (.int (v1)), some (.int (v2)), some (.int (v3)), some (.int ((v4 + (1 : Int32)))), none]) ⟨rfl, ⟨rfl, ⟨rfl, ⟨rfl, ⟨rfl, trivial⟩⟩⟩⟩⟩ (hk3 (sx_nm_weights σ (upd (gx_nm_weights σ) w1.toNatClampNeg w0)) v1 v2 v3 (v4 + (1 : Int32)) _ hf)
set_option maxRecDepth 20000 in
set_option maxHeartbeats 4000000 in
theorem tX3_weigh_b80 (d : Nat) (k3 : SX → Int32 → Int32 → Int32 → Int32 → Option (SX)) (hk3 : ∀ (σ : SX) (v1 : Int32) (v2 : Int32) (v3 : Int32) (v4 : Int32) (q : SX), k3 σ v1 v2 v3 v4 = some q → ev_X (d + 2) none eiX3_weigh (3, [some (.ref 18), some (.int (v1)), some (.int (v2)), some (.int (v3)), some (.int (v4)), none], [], hX σ) (none, hX q)) (σ : SX) (v1 : Int32) (v2 : Int32) (v3 : Int32) (v4 : Int32) (w0 : Int32) (w1 : Int32) (w2 : Int32) (q : SX) (hf : fX3_weigh_b80 k3 σ v1 v2 v3 v4 w0 w1 w2 = some q) : ev_X (d + 2) none eiX3_weigh (80, [some (.ref 18), some (.int (v1)), some (.int (v2)), some (.int (v3)), some (.int (v4)), none], [.int (w0), .int (w1), .int (w2), .ref 19], hX σ) (none, hX q) := by
  unfold fX3_weigh_b80 at hf
  obtain ⟨r1, hr1, hf⟩ := Option.bind_eq_some_iff.mp hf
  refine ev_cli 2 (kk := 12) (as := [.int (w0), .int ((gx_nm_giggleRight σ))]) (rest := [.int (w1), .int (w2), .ref 19]) (pc := 84) (ls := [some (.ref 18), some (.int (v1)), some (.int (v2)), some (.int (v3)), some (.int (v4)), none]) (st := [.int ((gx_nm_giggleRight σ)), .int (w0), .int (w1), .int (w2), .ref 19]) (h := hX σ) rfl (tX3_likeWeight (d + 1) (hX σ) w0 (gx_nm_giggleRight σ) r1 hr1) ?_
  refine ev_go (c' := (88, [some (.ref 18), some (.int (v1)), some (.int (v2)), some (.int (v3)), some (.int (v4)), none], [.int ((w1 * r1)), .int (w2), .ref 19], hX σ)) 0 rfl ?_
  exact ev_dr (a := [some (.ref 18), some (.int (v1)), some (.int (v2)), some (.int (v3)), some (.int (v4)), none]) ⟨rfl, ⟨rfl, ⟨rfl, ⟨rfl, ⟨rfl, trivial⟩⟩⟩⟩⟩ (tX3_weigh_b88 d k3 hk3 σ v1 v2 v3 v4 (w1 * r1) w2 _ hf)
set_option maxRecDepth 20000 in
set_option maxHeartbeats 4000000 in
theorem tX3_weigh_b3 (d : Nat) (k3 : SX → Int32 → Int32 → Int32 → Int32 → Option (SX)) (hk3 : ∀ (σ : SX) (v1 : Int32) (v2 : Int32) (v3 : Int32) (v4 : Int32) (q : SX), k3 σ v1 v2 v3 v4 = some q → ev_X (d + 2) none eiX3_weigh (3, [some (.ref 18), some (.int (v1)), some (.int (v2)), some (.int (v3)), some (.int (v4)), none], [], hX σ) (none, hX q)) (σ : SX) (v1 : Int32) (v2 : Int32) (v3 : Int32) (v4 : Int32) (q : SX) (hf : fX3_weigh_b3 k3 σ v1 v2 v3 v4 = some q) : ev_X (d + 2) none eiX3_weigh (3, [some (.ref 18), some (.int (v1)), some (.int (v2)), some (.int (v3)), some (.int (v4)), none], [], hX σ) (none, hX q) := by
  unfold fX3_weigh_b3 at hf
  refine ev_br 4 (P := v4 < (6 : Int32)) (a := 13) (b := 95) (ls := [some (.ref 18), some (.int (v1)), some (.int (v2)), some (.int (v3)), some (.int (v4)), none]) (st := []) (h := hX σ) rfl (fun c1 => ?_) (fun c1 => ?_)
  · rw [if_pos c1] at hf
    refine ev_br 4 (P := v4 < (6 : Int32)) (a := 23) (b := 95) (ls := [some (.ref 18), some (.int (v1)), some (.int (v2)), some (.int (v3)), some (.int (v4)), none]) (st := []) (h := hX σ) rfl (fun c2 => ?_) (fun c2 => ?_)
    · rw [if_pos c2] at hf
      obtain ⟨c3, hf⟩ := ev_hp hf
      refine ev_ck 3 (P := ¬ (v4 < 0 ∨ 6 ≤ v4.toNatClampNeg)) (c' := (30, [some (.ref 18), some (.int (v1)), some (.int (v2)), some (.int (v3)), some (.int (v4)), none], [va_rf (((gx_pl_arr σ) v4.toNatClampNeg))], hX σ)) rfl c3 ?_
      rcases hc4 : ((gx_pl_arr σ) v4.toNatClampNeg) with _ | a2
      · rw [hc4] at hf
        simp only [ev_q] at hf
        change ev_X (d + 2) _ _ (30, [some (.ref 18), some (.int (v1)), some (.int (v2)), some (.int (v3)), some (.int (v4)), none], [.null], hX σ) _
        refine ev_go (c' := (88, [some (.ref 18), some (.int (v1)), some (.int (v2)), some (.int (v3)), some (.int (v4)), some (.null)], [.int ((0 : Int32)), .int (v4), .ref 19], hX σ)) 7 rfl ?_
        exact ev_dr (a := [some (.ref 18), some (.int (v1)), some (.int (v2)), some (.int (v3)), some (.int (v4)), none]) ⟨rfl, ⟨rfl, ⟨rfl, ⟨rfl, ⟨rfl, trivial⟩⟩⟩⟩⟩ (tX3_weigh_b88 d k3 hk3 σ v1 v2 v3 v4 (0 : Int32) v4 _ hf)
      · rw [hc4] at hf
        simp only [ev_q] at hf
        change ev_X (d + 2) _ _ (30, [some (.ref 18), some (.int (v1)), some (.int (v2)), some (.int (v3)), some (.int (v4)), none], [.ref a2], hX σ) _
        obtain ⟨c5, hf⟩ := ev_hp hf
        refine ev_go (c' := (51, [some (.ref 18), some (.int (v1)), some (.int (v2)), some (.int (v3)), some (.int (v4)), some (.ref a2)], [.ref a2, .int (v1), .ref 18, .int (v4), .ref 19], hX σ)) 8 rfl ?_
        refine ev_st1 (e := (51, .getfield 48, 3, 3, 0, .null, [(0, 0), (1, 0), (2, 0), (6, 0), (9, 0), (10, 0)], [676])) (c' := (54, [some (.ref 18), some (.int (v1)), some (.int (v2)), some (.int (v3)), some (.int (v4)), some (.ref a2)], [.int (((gx_pl_size σ) (a2 - 20))), .int (v1), .ref 18, .int (v4), .ref 19], hX σ)) rfl (ox_pget3 c5) ?_
        obtain ⟨r3, hr3, hf⟩ := Option.bind_eq_some_iff.mp hf
        refine ev_cli 1 (kk := 11) (as := [.ref 18, .int ((v1 - ((gx_pl_size σ) (a2 - 20))))]) (rest := [.int (v4), .ref 19]) (pc := 55) (ls := [some (.ref 18), some (.int (v1)), some (.int (v2)), some (.int (v3)), some (.int (v4)), some (.ref a2)]) (st := [.int ((v1 - ((gx_pl_size σ) (a2 - 20)))), .ref 18, .int (v4), .ref 19]) (h := hX σ) rfl (tX3_sizeWeight (d + 1) σ (v1 - ((gx_pl_size σ) (a2 - 20))) r3 hr3) ?_
        obtain ⟨r4, hr4, hf⟩ := Option.bind_eq_some_iff.mp hf
        refine ev_cli 3 (kk := 13) (as := [.ref 18, .int (v4), .int (v2)]) (rest := [.int (r3), .int (v4), .ref 19]) (pc := 62) (ls := [some (.ref 18), some (.int (v1)), some (.int (v2)), some (.int (v3)), some (.int (v4)), some (.ref a2)]) (st := [.int (v2), .int (v4), .ref 18, .int (r3), .int (v4), .ref 19]) (h := hX σ) rfl (tX3_clothWeight d σ v4 v2 r4 hr4) ?_
        obtain ⟨c6, hf⟩ := ev_hp hf
        refine ev_go (c' := (69, [some (.ref 18), some (.int (v1)), some (.int (v2)), some (.int (v3)), some (.int (v4)), some (.ref a2)], [.ref a2, .int (v3), .int ((r3 * r4)), .int (v4), .ref 19], hX σ)) 2 rfl ?_
        refine ev_st1 (e := (69, .getfield 61, 3, 5, 0, .null, [(0, 0), (1, 0), (2, 0), (6, 0), (9, 0), (10, 0)], [682])) (c' := (72, [some (.ref 18), some (.int (v1)), some (.int (v2)), some (.int (v3)), some (.int (v4)), some (.ref a2)], [.int (((gx_pl_giggle σ) (a2 - 20))), .int (v3), .int ((r3 * r4)), .int (v4), .ref 19], hX σ)) rfl (ox_pget5 c6) ?_
        refine ev_br 0 (P := v3 = ((gx_pl_giggle σ) (a2 - 20))) (a := 75) (b := 79) (ls := [some (.ref 18), some (.int (v1)), some (.int (v2)), some (.int (v3)), some (.int (v4)), some (.ref a2)]) (st := [.int ((r3 * r4)), .int (v4), .ref 19]) (h := hX σ) rfl (fun c7 => ?_) (fun c7 => ?_)
        · rw [if_pos c7] at hf
          refine ev_go (c' := (80, [some (.ref 18), some (.int (v1)), some (.int (v2)), some (.int (v3)), some (.int (v4)), some (.ref a2)], [.int ((1 : Int32)), .int ((r3 * r4)), .int (v4), .ref 19], hX σ)) 1 rfl ?_
          exact ev_dr (a := [some (.ref 18), some (.int (v1)), some (.int (v2)), some (.int (v3)), some (.int (v4)), none]) ⟨rfl, ⟨rfl, ⟨rfl, ⟨rfl, ⟨rfl, trivial⟩⟩⟩⟩⟩ (tX3_weigh_b80 d k3 hk3 σ v1 v2 v3 v4 (1 : Int32) (r3 * r4) v4 _ hf)
        · rw [if_neg c7] at hf
          refine ev_go (c' := (80, [some (.ref 18), some (.int (v1)), some (.int (v2)), some (.int (v3)), some (.int (v4)), some (.ref a2)], [.int ((0 : Int32)), .int ((r3 * r4)), .int (v4), .ref 19], hX σ)) 0 rfl ?_
          exact ev_dr (a := [some (.ref 18), some (.int (v1)), some (.int (v2)), some (.int (v3)), some (.int (v4)), none]) ⟨rfl, ⟨rfl, ⟨rfl, ⟨rfl, ⟨rfl, trivial⟩⟩⟩⟩⟩ (tX3_weigh_b80 d k3 hk3 σ v1 v2 v3 v4 (0 : Int32) (r3 * r4) v4 _ hf)
    · rw [if_neg c2] at hf
      exact ev_dr (a := [none, none, none, none, none, none]) trivial (tX3_weigh_b95 d σ  _ hf)
  · rw [if_neg c1] at hf
    exact ev_dr (a := [none, none, none, none, none, none]) trivial (tX3_weigh_b95 d σ  _ hf)
theorem tX3_weigh_l3 (d : Nat) : ∀ (n : Nat) (σ : SX) (v1 : Int32) (v2 : Int32) (v3 : Int32) (v4 : Int32) (q : SX), fX3_weigh_l3 n σ v1 v2 v3 v4 = some q → ev_X (d + 2) none eiX3_weigh (3, [some (.ref 18), some (.int (v1)), some (.int (v2)), some (.int (v3)), some (.int (v4)), none], [], hX σ) (none, hX q)
  | 0, _, _, _, _, _, _, hf => by cases hf
  | n + 1, σ, v1, v2, v3, v4, q, hf => tX3_weigh_b3 d (fX3_weigh_l3 n) (fun σ v1 v2 v3 v4 q h9 => tX3_weigh_l3 d n σ v1 v2 v3 v4 q h9) σ v1 v2 v3 v4 q hf
set_option maxRecDepth 20000 in
set_option maxHeartbeats 4000000 in
theorem tX3_weigh (d : Nat) (σ : SX) (v1 : Int32) (v2 : Int32) (v3 : Int32) (q : SX) (hf : fX3_weigh σ v1 v2 v3 = some q) : ev_M ev_mt (d + 3) 10 [.ref 18, .int (v1), .int (v2), .int (v3)] (hX σ) (none, hX q) := by
  refine ev_en (rt := none) (I := eiX3_weigh) rfl (Nat.le_of_ble_eq_true rfl) ?_
  change ev_X (d + 2) _ _ (0, [some (.ref 18), some (.int (v1)), some (.int (v2)), some (.int (v3)), none, none], [], hX σ) _
  unfold fX3_weigh at hf
  refine ev_go (c' := (3, [some (.ref 18), some (.int (v1)), some (.int (v2)), some (.int (v3)), some (.int ((0 : Int32))), none], [], hX σ)) 1 rfl ?_
  exact ev_dr (a := [some (.ref 18), some (.int (v1)), some (.int (v2)), some (.int (v3)), some (.int ((0 : Int32))), none]) ⟨rfl, ⟨rfl, ⟨rfl, ⟨rfl, ⟨rfl, trivial⟩⟩⟩⟩⟩ (tX3_weigh_l3 d 1000 σ v1 v2 v3 (0 : Int32) _ hf)
set_option maxRecDepth 20000 in
set_option maxHeartbeats 4000000 in
theorem tX3_weightOf_b24 (d : Nat) (σ : SX) (w0 : Int64) (q : Int64) (hf : fX3_weightOf_b24 σ w0 = some q) : ev_X d (some .long) eiX3_weightOf (24, [none, none], [.long (w0)], hX σ) (some (.long q), hX σ) := by
  unfold fX3_weightOf_b24 at hf
  cases hf
  exact ev_rt 0 rfl
set_option maxRecDepth 20000 in
set_option maxHeartbeats 4000000 in
theorem tX3_weightOf_b23 (d : Nat) (σ : SX) (q : Int64) (hf : fX3_weightOf_b23 σ = some q) : ev_X d (some .long) eiX3_weightOf (23, [none, none], [], hX σ) (some (.long q), hX σ) := by
  unfold fX3_weightOf_b23 at hf
  refine ev_go (c' := (24, [none, none], [.long ((0 : Int64))], hX σ)) 0 rfl ?_
  exact ev_dr (a := [none, none]) trivial (tX3_weightOf_b24 d σ (0 : Int64) _ hf)
set_option maxRecDepth 20000 in
set_option maxHeartbeats 4000000 in
theorem tX3_weightOf (d : Nat) (σ : SX) (v1 : Int32) (q : Int64) (hf : fX3_weightOf σ v1 = some q) : ev_M ev_mt (d + 1) 15 [.ref 18, .int (v1)] (hX σ) (some (.long q), hX σ) := by
  refine ev_en (rt := (some .long)) (I := eiX3_weightOf) rfl (Nat.le_of_ble_eq_true rfl) ?_
  change ev_X d _ _ (0, [some (.ref 18), some (.int (v1))], [], hX σ) _
  unfold fX3_weightOf at hf
  refine ev_br 1 (P := v1 < 0) (a := 23) (b := 4) (ls := [some (.ref 18), some (.int (v1))]) (st := []) (h := hX σ) rfl (fun c1 => ?_) (fun c1 => ?_)
  · rw [if_pos c1] at hf
    exact ev_dr (a := [none, none]) trivial (tX3_weightOf_b23 d σ  _ hf)
  · rw [if_neg c1] at hf
    refine ev_br 4 (P := v1 < (6 : Int32)) (a := 13) (b := 23) (ls := [some (.ref 18), some (.int (v1))]) (st := []) (h := hX σ) rfl (fun c2 => ?_) (fun c2 => ?_)
    · rw [if_pos c2] at hf
      obtain ⟨c3, hf⟩ := ev_hp hf
      refine ev_ck 3 (P := ¬ (v1 < 0 ∨ 6 ≤ v1.toNatClampNeg)) (c' := (19, [some (.ref 18), some (.int (v1))], [.int (((gx_nm_weights σ) v1.toNatClampNeg))], hX σ)) rfl c3 ?_
      refine ev_go (c' := (24, [some (.ref 18), some (.int (v1))], [.long (((gx_nm_weights σ) v1.toNatClampNeg).toInt64)], hX σ)) 1 rfl ?_
      exact ev_dr (a := [none, none]) trivial (tX3_weightOf_b24 d σ (((gx_nm_weights σ) v1.toNatClampNeg).toInt64) _ hf)
    · rw [if_neg c2] at hf
      exact ev_dr (a := [none, none]) trivial (tX3_weightOf_b23 d σ  _ hf)
set_option maxRecDepth 20000 in
set_option maxHeartbeats 4000000 in
theorem tX3_total_b14 (d : Nat) (σ : SX) (k14 : Int64 → Int32 → Option (Int64)) (hk14 : ∀ (v1 : Int64) (v5 : Int32) (q : Int64), k14 v1 v5 = some q → ev_X d (some .long) eiX3_total (14, [none, some (.long (v1)), none, some (.ref 19), some (.int ((6 : Int32))), some (.int (v5)), none], [], hX σ) (some (.long q), hX σ)) (v1 : Int64) (v5 : Int32) (q : Int64) (hf : fX3_total_b14 σ k14 v1 v5 = some q) : ev_X d (some .long) eiX3_total (14, [none, some (.long (v1)), none, some (.ref 19), some (.int ((6 : Int32))), some (.int (v5)), none], [], hX σ) (some (.long q), hX σ) := by
  unfold fX3_total_b14 at hf
  refine ev_br 2 (P := v5 < (6 : Int32)) (a := 21) (b := 39) (ls := [none, some (.long (v1)), none, some (.ref 19), some (.int ((6 : Int32))), some (.int (v5)), none]) (st := []) (h := hX σ) rfl (fun c1 => ?_) (fun c1 => ?_)
  · rw [if_pos c1] at hf
    obtain ⟨c2, hf⟩ := ev_hp hf
    refine ev_ck 2 (P := ¬ (v5 < 0 ∨ 6 ≤ v5.toNatClampNeg)) (c' := (25, [none, some (.long (v1)), none, some (.ref 19), some (.int ((6 : Int32))), some (.int (v5)), none], [.int (((gx_nm_weights σ) v5.toNatClampNeg))], hX σ)) rfl c2 ?_
    refine ev_go (c' := (14, [none, some (.long ((v1 + ((gx_nm_weights σ) v5.toNatClampNeg).toInt64))), none, some (.ref 19), some (.int ((6 : Int32))), some (.int ((v5 + (1 : Int32)))), some (.int (((gx_nm_weights σ) v5.toNatClampNeg)))], [], hX σ)) 7 rfl ?_
    exact ev_dr (a := [none, some (.long ((v1 + ((gx_nm_weights σ) v5.toNatClampNeg).toInt64))), none, some (.ref 19), some (.int ((6 : Int32))), some (.int ((v5 + (1 : Int32)))), none]) ⟨rfl, ⟨rfl, ⟨rfl, ⟨rfl, trivial⟩⟩⟩⟩ (hk14 (v1 + ((gx_nm_weights σ) v5.toNatClampNeg).toInt64) (v5 + (1 : Int32)) _ hf)
  · rw [if_neg c1] at hf
    cases hf
    exact ev_rt 1 rfl
theorem tX3_total_l14 (d : Nat) (σ : SX) : ∀ (n : Nat) (v1 : Int64) (v5 : Int32) (q : Int64), fX3_total_l14 σ n v1 v5 = some q → ev_X d (some .long) eiX3_total (14, [none, some (.long (v1)), none, some (.ref 19), some (.int ((6 : Int32))), some (.int (v5)), none], [], hX σ) (some (.long q), hX σ)
  | 0, _, _, _, hf => by cases hf
  | n + 1, v1, v5, q, hf => tX3_total_b14 d σ (fX3_total_l14 σ n) (fun v1 v5 q h9 => tX3_total_l14 d σ n v1 v5 q h9) v1 v5 q hf
set_option maxRecDepth 20000 in
set_option maxHeartbeats 4000000 in
theorem tX3_total (d : Nat) (σ : SX) (q : Int64) (hf : fX3_total σ = some q) : ev_M ev_mt (d + 1) 16 [.ref 18] (hX σ) (some (.long q), hX σ) := by
  refine ev_en (rt := (some .long)) (I := eiX3_total) rfl (Nat.le_of_ble_eq_true rfl) ?_
  change ev_X d _ _ (0, [some (.ref 18), none, none, none, none, none, none], [], hX σ) _
  unfold fX3_total at hf
  refine ev_go (c' := (14, [some (.ref 18), some (.long ((0 : Int64))), none, some (.ref 19), some (.int ((6 : Int32))), some (.int ((0 : Int32))), none], [], hX σ)) 9 rfl ?_
  exact ev_dr (a := [none, some (.long ((0 : Int64))), none, some (.ref 19), some (.int ((6 : Int32))), some (.int ((0 : Int32))), none]) ⟨rfl, ⟨rfl, ⟨rfl, ⟨rfl, trivial⟩⟩⟩⟩ (tX3_total_l14 d σ 1000 (0 : Int64) (0 : Int32) _ hf)
set_option maxRecDepth 20000 in
set_option maxHeartbeats 4000000 in
theorem tX3_likeliestPlayer_b29 (d : Nat) (σ : SX) (k4 : Int32 → Int32 → Option (Int32)) (hk4 : ∀ (v1 : Int32) (v2 : Int32) (q : Int32), k4 v1 v2 = some q → ev_X (d + 1) (some .int) eiX3_likeliestPlayer (4, [some (.ref 18), some (.int (v1)), some (.int (v2))], [], hX σ) (some (.int q), hX σ)) (v1 : Int32) (v2 : Int32) (q : Int32) (hf : fX3_likeliestPlayer_b29 σ k4 v1 v2 = some q) : ev_X (d + 1) (some .int) eiX3_likeliestPlayer (29, [some (.ref 18), some (.int (v1)), some (.int (v2))], [], hX σ) (some (.int q), hX σ) := by
  unfold fX3_likeliestPlayer_b29 at hf
  refine ev_go (c' := (4, [some (.ref 18), some (.int (v1)), some (.int ((v2 + (1 : Int32))))], [], hX σ)) 1 rfl ?_
  exact ev_dr (a := [some (.ref 18), some (.int (v1)), some (.int ((v2 + (1 : Int32))))]) ⟨rfl, ⟨rfl, ⟨rfl, trivial⟩⟩⟩ (hk4 v1 (v2 + (1 : Int32)) _ hf)
set_option maxRecDepth 20000 in
set_option maxHeartbeats 4000000 in
theorem tX3_likeliestPlayer_b4 (d : Nat) (σ : SX) (k4 : Int32 → Int32 → Option (Int32)) (hk4 : ∀ (v1 : Int32) (v2 : Int32) (q : Int32), k4 v1 v2 = some q → ev_X (d + 1) (some .int) eiX3_likeliestPlayer (4, [some (.ref 18), some (.int (v1)), some (.int (v2))], [], hX σ) (some (.int q), hX σ)) (v1 : Int32) (v2 : Int32) (q : Int32) (hf : fX3_likeliestPlayer_b4 σ k4 v1 v2 = some q) : ev_X (d + 1) (some .int) eiX3_likeliestPlayer (4, [some (.ref 18), some (.int (v1)), some (.int (v2))], [], hX σ) (some (.int q), hX σ) := by
  unfold fX3_likeliestPlayer_b4 at hf
  refine ev_br 4 (P := v2 < (6 : Int32)) (a := 13) (b := 35) (ls := [some (.ref 18), some (.int (v1)), some (.int (v2))]) (st := []) (h := hX σ) rfl (fun c1 => ?_) (fun c1 => ?_)
  · rw [if_pos c1] at hf
    obtain ⟨r1, hr1, hf⟩ := Option.bind_eq_some_iff.mp hf
    refine ev_cll 2 (kk := 15) (as := [.ref 18, .int (v2)]) (rest := []) (pc := 15) (ls := [some (.ref 18), some (.int (v1)), some (.int (v2))]) (st := [.int (v2), .ref 18]) (h := hX σ) rfl (tX3_weightOf d σ v2 r1 hr1) ?_
    obtain ⟨r2, hr2, hf⟩ := Option.bind_eq_some_iff.mp hf
    refine ev_cll 2 (kk := 15) (as := [.ref 18, .int (v1)]) (rest := [.long (r1)]) (pc := 20) (ls := [some (.ref 18), some (.int (v1)), some (.int (v2))]) (st := [.int (v1), .ref 18, .long (r1)]) (h := hX σ) rfl (tX3_weightOf d σ v1 r2 hr2) ?_
    refine ev_bi 1 (lg_cmp_gt r1 r2) (a := 27) (b := 29) (ls := [some (.ref 18), some (.int (v1)), some (.int (v2))]) (st := []) (h := hX σ) rfl (fun c2 => ?_) (fun c2 => ?_)
    · rw [if_pos c2] at hf
      refine ev_go (c' := (29, [some (.ref 18), some (.int (v2)), some (.int (v2))], [], hX σ)) 1 rfl ?_
      exact ev_dr (a := [some (.ref 18), some (.int (v2)), some (.int (v2))]) ⟨rfl, ⟨rfl, ⟨rfl, trivial⟩⟩⟩ (tX3_likeliestPlayer_b29 d σ k4 hk4 v2 v2 _ hf)
    · rw [if_neg c2] at hf
      exact ev_dr (a := [some (.ref 18), some (.int (v1)), some (.int (v2))]) ⟨rfl, ⟨rfl, ⟨rfl, trivial⟩⟩⟩ (tX3_likeliestPlayer_b29 d σ k4 hk4 v1 v2 _ hf)
  · rw [if_neg c1] at hf
    cases hf
    exact ev_rt 1 rfl
theorem tX3_likeliestPlayer_l4 (d : Nat) (σ : SX) : ∀ (n : Nat) (v1 : Int32) (v2 : Int32) (q : Int32), fX3_likeliestPlayer_l4 σ n v1 v2 = some q → ev_X (d + 1) (some .int) eiX3_likeliestPlayer (4, [some (.ref 18), some (.int (v1)), some (.int (v2))], [], hX σ) (some (.int q), hX σ)
  | 0, _, _, _, hf => by cases hf
  | n + 1, v1, v2, q, hf => tX3_likeliestPlayer_b4 d σ (fX3_likeliestPlayer_l4 σ n) (fun v1 v2 q h9 => tX3_likeliestPlayer_l4 d σ n v1 v2 q h9) v1 v2 q hf
set_option maxRecDepth 20000 in
set_option maxHeartbeats 4000000 in
theorem tX3_likeliestPlayer (d : Nat) (σ : SX) (q : Int32) (hf : fX3_likeliestPlayer σ = some q) : ev_M ev_mt (d + 2) 17 [.ref 18] (hX σ) (some (.int q), hX σ) := by
  refine ev_en (rt := (some .int)) (I := eiX3_likeliestPlayer) rfl (Nat.le_of_ble_eq_true rfl) ?_
  change ev_X (d + 1) _ _ (0, [some (.ref 18), none, none], [], hX σ) _
  unfold fX3_likeliestPlayer at hf
  refine ev_go (c' := (4, [some (.ref 18), some (.int ((-1 : Int32))), some (.int ((0 : Int32)))], [], hX σ)) 3 rfl ?_
  exact ev_dr (a := [some (.ref 18), some (.int ((-1 : Int32))), some (.int ((0 : Int32)))]) ⟨rfl, ⟨rfl, ⟨rfl, trivial⟩⟩⟩ (tX3_likeliestPlayer_l4 d σ 1000 (-1 : Int32) (0 : Int32) _ hf)
set_option maxRecDepth 20000 in
set_option maxHeartbeats 4000000 in
theorem tX11_mixed (d : Nat) (h : ev_H) (v0 : Int64) (v2 : Int64) (q : Int64) (hf : fX11_mixed v0 v2 = some q) : ev_M ev_mt (d + 1) 116 [.long (v0), .long (v2)] (h) (some (.long q), h) := by
  refine ev_en (rt := (some .long)) (I := eiX11_mixed) rfl (Nat.le_of_ble_eq_true rfl) ?_
  change ev_X d _ _ (0, [some (.long (v0)), none, some (.long (v2)), none], [], h) _
  unfold fX11_mixed at hf
  cases hf
  exact ev_rt 5 rfl
set_option maxRecDepth 20000 in
set_option maxHeartbeats 4000000 in
theorem tX3_mixInto (d : Nat) (σ : SX) (v1 : Int64) (q : Int64) (hf : fX3_mixInto σ v1 = some q) : ev_M ev_mt (d + 2) 18 [.ref 18, .long (v1)] (hX σ) (some (.long q), hX σ) := by
  refine ev_en (rt := (some .long)) (I := eiX3_mixInto) rfl (Nat.le_of_ble_eq_true rfl) ?_
  change ev_X (d + 1) _ _ (0, [some (.ref 18), some (.long (v1)), none, none, none], [], hX σ) _
  unfold fX3_mixInto at hf
  obtain ⟨r1, hr1, hf⟩ := Option.bind_eq_some_iff.mp hf
  refine ev_cll 4 (kk := 116) (as := [.long (v1), .long ((gx_nm_sizeOff σ).toInt64)]) (rest := []) (pc := 6) (ls := [some (.ref 18), some (.long (v1)), none, none, none]) (st := [.long ((gx_nm_sizeOff σ).toInt64), .long (v1)]) (h := hX σ) rfl (tX11_mixed d (hX σ) v1 ((gx_nm_sizeOff σ).toInt64) r1 hr1) ?_
  obtain ⟨r2, hr2, hf⟩ := Option.bind_eq_some_iff.mp hf
  refine ev_cll 3 (kk := 116) (as := [.long (r1), .long ((gx_nm_clothRight σ).toInt64)]) (rest := []) (pc := 14) (ls := [some (.ref 18), some (.long (v1)), none, none, none]) (st := [.long ((gx_nm_clothRight σ).toInt64), .long (r1)]) (h := hX σ) rfl (tX11_mixed d (hX σ) r1 ((gx_nm_clothRight σ).toInt64) r2 hr2) ?_
  obtain ⟨r3, hr3, hf⟩ := Option.bind_eq_some_iff.mp hf
  refine ev_cll 3 (kk := 116) (as := [.long (r2), .long ((gx_nm_giggleRight σ).toInt64)]) (rest := []) (pc := 22) (ls := [some (.ref 18), some (.long (v1)), none, none, none]) (st := [.long ((gx_nm_giggleRight σ).toInt64), .long (r2)]) (h := hX σ) rfl (tX11_mixed d (hX σ) r2 ((gx_nm_giggleRight σ).toInt64) r3 hr3) ?_
  obtain ⟨r4, hr4, hf⟩ := Option.bind_eq_some_iff.mp hf
  refine ev_cll 5 (kk := 116) (as := [.long (r3), .long ((gx_nm_first σ).toInt64)]) (rest := []) (pc := 32) (ls := [some (.ref 18), some (.long (v1)), none, some (.long (r3)), none]) (st := [.long ((gx_nm_first σ).toInt64), .long (r3)]) (h := hX σ) rfl (tX11_mixed d (hX σ) r3 ((gx_nm_first σ).toInt64) r4 hr4) ?_
  obtain ⟨r5, hr5, hf⟩ := Option.bind_eq_some_iff.mp hf
  refine ev_cll 3 (kk := 116) (as := [.long (r4), .long ((gx_nm_second σ).toInt64)]) (rest := []) (pc := 40) (ls := [some (.ref 18), some (.long (v1)), none, some (.long (r3)), none]) (st := [.long ((gx_nm_second σ).toInt64), .long (r4)]) (h := hX σ) rfl (tX11_mixed d (hX σ) r4 ((gx_nm_second σ).toInt64) r5 hr5) ?_
  obtain ⟨r6, hr6, hf⟩ := Option.bind_eq_some_iff.mp hf
  refine ev_cll 3 (kk := 116) (as := [.long (r5), .long ((gx_nm_changed σ).toInt64)]) (rest := []) (pc := 48) (ls := [some (.ref 18), some (.long (v1)), none, some (.long (r3)), none]) (st := [.long ((gx_nm_changed σ).toInt64), .long (r5)]) (h := hX σ) rfl (tX11_mixed d (hX σ) r5 ((gx_nm_changed σ).toInt64) r6 hr6) ?_
  cases hf
  exact ev_rt 0 rfl
set_option maxRecDepth 20000 in
set_option maxHeartbeats 4000000 in
theorem tJ7_fill_w_b6 (d : Nat) (k6 : SX → Int64 → Int32 → Option (SX)) (hk6 : ∀ (σ : SX) (v1 : Int64) (v3 : Int32) (q : SX), k6 σ v1 v3 = some q → ev_X d none eiJ7_fill_d0a16 (6, [some (.ref 9), some (.long (v1)), none, some (.int (v3)), some (.int ((144 : Int32)))], [], hX σ) (none, hX q)) (σ : SX) (v1 : Int64) (v3 : Int32) (q : SX) (hf : fJ7_fill_w_b6 k6 σ v1 v3 = some q) : ev_X d none eiJ7_fill_d0a16 (6, [some (.ref 9), some (.long (v1)), none, some (.int (v3)), some (.int ((144 : Int32)))], [], hX σ) (none, hX q) := by
  unfold fJ7_fill_w_b6 at hf
  refine ev_br 2 (P := v3 < (144 : Int32)) (a := 12) (b := 22) (ls := [some (.ref 9), some (.long (v1)), none, some (.int (v3)), some (.int ((144 : Int32)))]) (st := []) (h := hX σ) rfl (fun c1 => ?_) (fun c1 => ?_)
  · rw [if_pos c1] at hf
    obtain ⟨c2, hf⟩ := ev_hp hf
    refine ev_go (c' := (15, [some (.ref 9), some (.long (v1)), none, some (.int (v3)), some (.int ((144 : Int32)))], [.long (v1), .int (v3), .ref 9], hX σ)) 2 rfl ?_
    refine ev_st1 (e := (15, .lastore, 1, 0, 0, .null, [], [])) (c' := (16, [some (.ref 9), some (.long (v1)), none, some (.int (v3)), some (.int ((144 : Int32)))], [], hX (sx_od_weights σ (vp_updL (gx_od_weights σ) v3.toNatClampNeg v1)))) rfl (oy_ast_x_od_weights c2) ?_
    refine ev_go (c' := (6, [some (.ref 9), some (.long (v1)), none, some (.int ((v3 + (1 : Int32)))), some (.int ((144 : Int32)))], [], hX (sx_od_weights σ (vp_updL (gx_od_weights σ) v3.toNatClampNeg v1)))) 1 rfl ?_
    exact ev_dr (a := [some (.ref 9), some (.long (v1)), none, some (.int ((v3 + (1 : Int32)))), some (.int ((144 : Int32)))]) ⟨rfl, ⟨rfl, ⟨rfl, ⟨rfl, trivial⟩⟩⟩⟩ (hk6 (sx_od_weights σ (vp_updL (gx_od_weights σ) v3.toNatClampNeg v1)) v1 (v3 + (1 : Int32)) _ hf)
  · rw [if_neg c1] at hf
    cases hf
    exact ev_rt 0 rfl
theorem tJ7_fill_w_l6 (d : Nat) : ∀ (n : Nat) (σ : SX) (v1 : Int64) (v3 : Int32) (q : SX), fJ7_fill_w_l6 n σ v1 v3 = some q → ev_X d none eiJ7_fill_d0a16 (6, [some (.ref 9), some (.long (v1)), none, some (.int (v3)), some (.int ((144 : Int32)))], [], hX σ) (none, hX q)
  | 0, _, _, _, _, hf => by cases hf
  | n + 1, σ, v1, v3, q, hf => tJ7_fill_w_b6 d (fJ7_fill_w_l6 n) (fun σ v1 v3 q h9 => tJ7_fill_w_l6 d n σ v1 v3 q h9) σ v1 v3 q hf
set_option maxRecDepth 20000 in
set_option maxHeartbeats 4000000 in
theorem tJ7_fill_w (d : Nat) (σ : SX) (v1 : Int64) (q : SX) (hf : fJ7_fill_w σ v1 = some q) : ev_M ev_mt (d + 1) 204 [.ref 9, .long (v1)] (hX σ) (none, hX q) := by
  refine ev_en (rt := none) (I := eiJ7_fill_d0a16) rfl (Nat.le_of_ble_eq_true rfl) ?_
  change ev_X d _ _ (0, [some (.ref 9), some (.long (v1)), none, none, none], [], hX σ) _
  unfold fJ7_fill_w at hf
  refine ev_go (c' := (6, [some (.ref 9), some (.long (v1)), none, some (.int ((0 : Int32))), some (.int ((144 : Int32)))], [], hX σ)) 4 rfl ?_
  exact ev_dr (a := [some (.ref 9), some (.long (v1)), none, some (.int ((0 : Int32))), some (.int ((144 : Int32)))]) ⟨rfl, ⟨rfl, ⟨rfl, ⟨rfl, trivial⟩⟩⟩⟩ (tJ7_fill_w_l6 d 1000 σ v1 (0 : Int32) _ hf)
set_option maxRecDepth 20000 in
set_option maxHeartbeats 4000000 in
theorem tX4_putHim_b34 (d : Nat) (σ : SX) (q : SX) (hf : fX4_putHim_b34 σ = some q) : ev_X (d + 1) none eiX4_putHim (34, [some (.ref 8), none, none, none], [], hX σ) (none, hX q) := by
  unfold fX4_putHim_b34 at hf
  refine ev_go (c' := (36, [some (.ref 8), none, none, none], [.int ((0 : Int32)), .ref 8], hX σ)) 1 rfl ?_
  refine ev_st1 (e := (36, .putfield 33, 3, 4, 0, .null, [(4, 0)], [153])) (c' := (39, [some (.ref 8), none, none, none], [], hX (sx_od_updates σ (0 : Int32)))) rfl oy_put_x_od_updates ?_
  cases hf
  exact ev_rt 0 rfl
set_option maxRecDepth 20000 in
set_option maxHeartbeats 4000000 in
theorem tX4_putHim (d : Nat) (σ : SX) (v1 : Int32) (v2 : Int32) (q : SX) (hf : fX4_putHim σ v1 v2 = some q) : ev_M ev_mt (d + 2) 19 [.ref 8, .int (v1), .int (v2)] (hX σ) (none, hX q) := by
  refine ev_en (rt := none) (I := eiX4_putHim) rfl (Nat.le_of_ble_eq_true rfl) ?_
  change ev_X (d + 1) _ _ (0, [some (.ref 8), some (.int (v1)), some (.int (v2)), none], [], hX σ) _
  unfold fX4_putHim at hf
  obtain ⟨r1, hr1, hf⟩ := Option.bind_eq_some_iff.mp hf
  refine ev_clv 3 (kk := 204) (as := [.ref 9, .long ((0 : Int64))]) (rest := []) (pc := 5) (ls := [some (.ref 8), some (.int (v1)), some (.int (v2)), none]) (st := [.long ((0 : Int64)), .ref 9]) (h := hX σ) rfl (tJ7_fill_w d σ (0 : Int64) r1 hr1) ?_
  refine ev_br 7 (P := ((v1 * (4 : Int32)) + v2) < 0) (a := 34) (b := 18) (ls := [some (.ref 8), some (.int (v1)), some (.int (v2)), some (.int (((v1 * (4 : Int32)) + v2)))]) (st := []) (h := hX r1) rfl (fun c1 => ?_) (fun c1 => ?_)
  · rw [if_pos c1] at hf
    exact ev_dr (a := [some (.ref 8), none, none, none]) ⟨rfl, trivial⟩ (tX4_putHim_b34 d r1  _ hf)
  · rw [if_neg c1] at hf
    refine ev_br 4 (P := ((v1 * (4 : Int32)) + v2) < (144 : Int32)) (a := 27) (b := 34) (ls := [some (.ref 8), some (.int (v1)), some (.int (v2)), some (.int (((v1 * (4 : Int32)) + v2)))]) (st := []) (h := hX r1) rfl (fun c2 => ?_) (fun c2 => ?_)
    · rw [if_pos c2] at hf
      obtain ⟨c3, hf⟩ := ev_hp hf
      refine ev_go (c' := (33, [some (.ref 8), some (.int (v1)), some (.int (v2)), some (.int (((v1 * (4 : Int32)) + v2)))], [.long ((1 : Int64)), .int (((v1 * (4 : Int32)) + v2)), .ref 9], hX r1)) 3 rfl ?_
      refine ev_st1 (e := (33, .lastore, 1, 0, 0, .null, [], [])) (c' := (34, [some (.ref 8), some (.int (v1)), some (.int (v2)), some (.int (((v1 * (4 : Int32)) + v2)))], [], hX (sx_od_weights r1 (vp_updL (gx_od_weights r1) ((v1 * (4 : Int32)) + v2).toNatClampNeg (1 : Int64))))) rfl (oy_ast_x_od_weights c3) ?_
      exact ev_dr (a := [some (.ref 8), none, none, none]) ⟨rfl, trivial⟩ (tX4_putHim_b34 d (sx_od_weights r1 (vp_updL (gx_od_weights r1) ((v1 * (4 : Int32)) + v2).toNatClampNeg (1 : Int64)))  _ hf)
    · rw [if_neg c2] at hf
      exact ev_dr (a := [some (.ref 8), none, none, none]) ⟨rfl, trivial⟩ (tX4_putHim_b34 d r1  _ hf)
set_option maxRecDepth 20000 in
set_option maxHeartbeats 4000000 in
theorem tX4_loseHim_b34 (d : Nat) (k2 : SX → Int32 → Option (SX)) (hk2 : ∀ (σ : SX) (v1 : Int32) (q : SX), k2 σ v1 = some q → ev_X (d + 1) none eiX4_loseHim (2, [some (.ref 8), some (.int (v1))], [], hX σ) (none, hX q)) (σ : SX) (v1 : Int32) (w0 : Int64) (w1 : Int32) (q : SX) (hf : fX4_loseHim_b34 k2 σ v1 w0 w1 = some q) : ev_X (d + 1) none eiX4_loseHim (34, [some (.ref 8), some (.int (v1))], [.long (w0), .int (w1), .ref 9], hX σ) (none, hX q) := by
  unfold fX4_loseHim_b34 at hf
  obtain ⟨c1, hf⟩ := ev_hp hf
  refine ev_st1 (e := (34, .lastore, 1, 0, 0, .null, [], [])) (c' := (35, [some (.ref 8), some (.int (v1))], [], hX (sx_od_weights σ (vp_updL (gx_od_weights σ) w1.toNatClampNeg w0)))) rfl (oy_ast_x_od_weights c1) ?_
  refine ev_go (c' := (2, [some (.ref 8), some (.int ((v1 + (1 : Int32))))], [], hX (sx_od_weights σ (vp_updL (gx_od_weights σ) w1.toNatClampNeg w0)))) 1 rfl ?_
  exact ev_dr (a := [some (.ref 8), some (.int ((v1 + (1 : Int32))))]) ⟨rfl, ⟨rfl, trivial⟩⟩ (hk2 (sx_od_weights σ (vp_updL (gx_od_weights σ) w1.toNatClampNeg w0)) (v1 + (1 : Int32)) _ hf)
set_option maxRecDepth 20000 in
set_option maxHeartbeats 4000000 in
theorem tX4_loseHim_b2 (d : Nat) (k2 : SX → Int32 → Option (SX)) (hk2 : ∀ (σ : SX) (v1 : Int32) (q : SX), k2 σ v1 = some q → ev_X (d + 1) none eiX4_loseHim (2, [some (.ref 8), some (.int (v1))], [], hX σ) (none, hX q)) (σ : SX) (v1 : Int32) (q : SX) (hf : fX4_loseHim_b2 k2 σ v1 = some q) : ev_X (d + 1) none eiX4_loseHim (2, [some (.ref 8), some (.int (v1))], [], hX σ) (none, hX q) := by
  unfold fX4_loseHim_b2 at hf
  refine ev_br 4 (P := v1 < (144 : Int32)) (a := 11) (b := 41) (ls := [some (.ref 8), some (.int (v1))]) (st := []) (h := hX σ) rfl (fun c1 => ?_) (fun c1 => ?_)
  · rw [if_pos c1] at hf
    obtain ⟨r1, hr1, hf⟩ := Option.bind_eq_some_iff.mp hf
    refine ev_cli 8 (kk := 59) (as := [.ref 3, .int ((v1 / (4 : Int32)))]) (rest := [.int (v1), .ref 9]) (pc := 23) (ls := [some (.ref 8), some (.int (v1))]) (st := [.int ((v1 / (4 : Int32))), .ref 3, .int (v1), .ref 9]) (h := hX σ) rfl (tX7_isFree d σ (v1 / (4 : Int32)) r1 hr1) ?_
    refine ev_br 0 (P := r1 = 0) (a := 33) (b := 29) (ls := [some (.ref 8), some (.int (v1))]) (st := [.int (v1), .ref 9]) (h := hX σ) rfl (fun c2 => ?_) (fun c2 => ?_)
    · rw [if_pos c2] at hf
      refine ev_go (c' := (34, [some (.ref 8), some (.int (v1))], [.long ((0 : Int64)), .int (v1), .ref 9], hX σ)) 0 rfl ?_
      exact ev_dr (a := [some (.ref 8), some (.int (v1))]) ⟨rfl, ⟨rfl, trivial⟩⟩ (tX4_loseHim_b34 d k2 hk2 σ v1 (0 : Int64) v1 _ hf)
    · rw [if_neg c2] at hf
      refine ev_go (c' := (34, [some (.ref 8), some (.int (v1))], [.long ((1 : Int64)), .int (v1), .ref 9], hX σ)) 1 rfl ?_
      exact ev_dr (a := [some (.ref 8), some (.int (v1))]) ⟨rfl, ⟨rfl, trivial⟩⟩ (tX4_loseHim_b34 d k2 hk2 σ v1 (1 : Int64) v1 _ hf)
  · rw [if_neg c1] at hf
    refine ev_go (c' := (43, [some (.ref 8), some (.int (v1))], [.int ((0 : Int32)), .ref 8], hX σ)) 1 rfl ?_
    refine ev_st1 (e := (43, .putfield 33, 3, 4, 0, .null, [(4, 0)], [153])) (c' := (46, [some (.ref 8), some (.int (v1))], [], hX (sx_od_updates σ (0 : Int32)))) rfl oy_put_x_od_updates ?_
    cases hf
    exact ev_rt 0 rfl
theorem tX4_loseHim_l2 (d : Nat) : ∀ (n : Nat) (σ : SX) (v1 : Int32) (q : SX), fX4_loseHim_l2 n σ v1 = some q → ev_X (d + 1) none eiX4_loseHim (2, [some (.ref 8), some (.int (v1))], [], hX σ) (none, hX q)
  | 0, _, _, _, hf => by cases hf
  | n + 1, σ, v1, q, hf => tX4_loseHim_b2 d (fX4_loseHim_l2 n) (fun σ v1 q h9 => tX4_loseHim_l2 d n σ v1 q h9) σ v1 q hf
set_option maxRecDepth 20000 in
set_option maxHeartbeats 4000000 in
theorem tX4_loseHim (d : Nat) (σ : SX) (q : SX) (hf : fX4_loseHim σ = some q) : ev_M ev_mt (d + 2) 20 [.ref 8] (hX σ) (none, hX q) := by
  refine ev_en (rt := none) (I := eiX4_loseHim) rfl (Nat.le_of_ble_eq_true rfl) ?_
  change ev_X (d + 1) _ _ (0, [some (.ref 8), none], [], hX σ) _
  unfold fX4_loseHim at hf
  refine ev_go (c' := (2, [some (.ref 8), some (.int ((0 : Int32)))], [], hX σ)) 1 rfl ?_
  exact ev_dr (a := [some (.ref 8), some (.int ((0 : Int32)))]) ⟨rfl, ⟨rfl, trivial⟩⟩ (tX4_loseHim_l2 d 1000 σ (0 : Int32) _ hf)
set_option maxRecDepth 20000 in
set_option maxHeartbeats 4000000 in
theorem tX4_keep (d : Nat) (σ : SX) (q : SX) (hf : fX4_keep σ = some q) : ev_M ev_mt (d + 1) 21 [.ref 8] (hX σ) (none, hX q) := by
  refine ev_en (rt := none) (I := eiX4_keep) rfl (Nat.le_of_ble_eq_true rfl) ?_
  change ev_X d _ _ (0, [some (.ref 8)], [], hX σ) _
  unfold fX4_keep at hf
  refine ev_go (c' := (13, [some (.ref 8)], [.int ((144 : Int32)), .int ((0 : Int32)), .ref 10, .int ((0 : Int32)), .ref 9], hX σ)) 6 rfl ?_
  refine ev_st1 (e := (13, .invokestatic 43, 3, 104, 0, .null, [], [986, 987, 77, 988])) (c' := (16, [some (.ref 8)], [], hX (sx_od_kept σ (va_cpy (gx_od_weights σ) (gx_od_kept σ) 0 0 144)))) rfl oy_cpy_x_od_weights_od_kept ?_
  refine ev_go (c' := (21, [some (.ref 8)], [.int ((gx_od_updates σ)), .ref 8], hX (sx_od_kept σ (va_cpy (gx_od_weights σ) (gx_od_kept σ) 0 0 144)))) 2 rfl ?_
  refine ev_st1 (e := (21, .putfield 49, 3, 5, 0, .null, [(4, 0)], [155])) (c' := (24, [some (.ref 8)], [], hX (sx_od_keptUpdates (sx_od_kept σ (va_cpy (gx_od_weights σ) (gx_od_kept σ) 0 0 144)) (gx_od_updates σ)))) rfl oy_put_x_od_keptUpdates ?_
  cases hf
  exact ev_rt 0 rfl
set_option maxRecDepth 20000 in
set_option maxHeartbeats 4000000 in
theorem tX4_takeKept (d : Nat) (σ : SX) (q : SX) (hf : fX4_takeKept σ = some q) : ev_M ev_mt (d + 1) 22 [.ref 8] (hX σ) (none, hX q) := by
  refine ev_en (rt := none) (I := eiX4_takeKept) rfl (Nat.le_of_ble_eq_true rfl) ?_
  change ev_X d _ _ (0, [some (.ref 8)], [], hX σ) _
  unfold fX4_takeKept at hf
  refine ev_go (c' := (13, [some (.ref 8)], [.int ((144 : Int32)), .int ((0 : Int32)), .ref 9, .int ((0 : Int32)), .ref 10], hX σ)) 6 rfl ?_
  refine ev_st1 (e := (13, .invokestatic 43, 3, 104, 0, .null, [], [986, 987, 77, 988])) (c' := (16, [some (.ref 8)], [], hX (sx_od_weights σ (va_cpy (gx_od_kept σ) (gx_od_weights σ) 0 0 144)))) rfl oy_cpy_x_od_kept_od_weights ?_
  refine ev_go (c' := (21, [some (.ref 8)], [.int ((gx_od_keptUpdates σ)), .ref 8], hX (sx_od_weights σ (va_cpy (gx_od_kept σ) (gx_od_weights σ) 0 0 144)))) 2 rfl ?_
  refine ev_st1 (e := (21, .putfield 33, 3, 4, 0, .null, [(4, 0)], [153])) (c' := (24, [some (.ref 8)], [], hX (sx_od_updates (sx_od_weights σ (va_cpy (gx_od_kept σ) (gx_od_weights σ) 0 0 144)) (gx_od_keptUpdates σ)))) rfl oy_put_x_od_updates ?_
  cases hf
  exact ev_rt 0 rfl
set_option maxRecDepth 20000 in
set_option maxHeartbeats 4000000 in
theorem tX4_aboveNought_b38 (d : Nat) (σ : SX) (k13 : Int32 → Int32 → Option (Int32)) (hk13 : ∀ (v1 : Int32) (v4 : Int32) (q : Int32), k13 v1 v4 = some q → ev_X d (some .int) eiX4_aboveNought (13, [none, some (.int (v1)), some (.ref 9), some (.int ((144 : Int32))), some (.int (v4)), none, none], [], hX σ) (some (.int q), hX σ)) (v4 : Int32) (w0 : Int32) (w1 : Int32) (q : Int32) (hf : fX4_aboveNought_b38 σ k13 v4 w0 w1 = some q) : ev_X d (some .int) eiX4_aboveNought (38, [none, none, some (.ref 9), some (.int ((144 : Int32))), some (.int (v4)), none, none], [.int (w0), .int (w1)], hX σ) (some (.int q), hX σ) := by
  unfold fX4_aboveNought_b38 at hf
  refine ev_go (c' := (13, [none, some (.int ((w1 + w0))), some (.ref 9), some (.int ((144 : Int32))), some (.int ((v4 + (1 : Int32)))), none, none], [], hX σ)) 3 rfl ?_
  exact ev_dr (a := [none, some (.int ((w1 + w0))), some (.ref 9), some (.int ((144 : Int32))), some (.int ((v4 + (1 : Int32)))), none, none]) ⟨rfl, ⟨rfl, ⟨rfl, ⟨rfl, trivial⟩⟩⟩⟩ (hk13 (w1 + w0) (v4 + (1 : Int32)) _ hf)
set_option maxRecDepth 20000 in
set_option maxHeartbeats 4000000 in
theorem tX4_aboveNought_b13 (d : Nat) (σ : SX) (k13 : Int32 → Int32 → Option (Int32)) (hk13 : ∀ (v1 : Int32) (v4 : Int32) (q : Int32), k13 v1 v4 = some q → ev_X d (some .int) eiX4_aboveNought (13, [none, some (.int (v1)), some (.ref 9), some (.int ((144 : Int32))), some (.int (v4)), none, none], [], hX σ) (some (.int q), hX σ)) (v1 : Int32) (v4 : Int32) (q : Int32) (hf : fX4_aboveNought_b13 σ k13 v1 v4 = some q) : ev_X d (some .int) eiX4_aboveNought (13, [none, some (.int (v1)), some (.ref 9), some (.int ((144 : Int32))), some (.int (v4)), none, none], [], hX σ) (some (.int q), hX σ) := by
  unfold fX4_aboveNought_b13 at hf
  refine ev_br 2 (P := v4 < (144 : Int32)) (a := 19) (b := 46) (ls := [none, some (.int (v1)), some (.ref 9), some (.int ((144 : Int32))), some (.int (v4)), none, none]) (st := []) (h := hX σ) rfl (fun c1 => ?_) (fun c1 => ?_)
  · rw [if_pos c1] at hf
    obtain ⟨c2, hf⟩ := ev_hp hf
    refine ev_ck 2 (P := ¬ (v4 < 0 ∨ 144 ≤ v4.toNatClampNeg)) (c' := (23, [none, some (.int (v1)), some (.ref 9), some (.int ((144 : Int32))), some (.int (v4)), none, none], [.long (((gx_od_weights σ) v4.toNatClampNeg))], hX σ)) rfl c2 ?_
    refine ev_bi 5 (lg_cmp_gt ((gx_od_weights σ) v4.toNatClampNeg) (0 : Int64)) (a := 33) (b := 37) (ls := [none, some (.int (v1)), some (.ref 9), some (.int ((144 : Int32))), some (.int (v4)), some (.long (((gx_od_weights σ) v4.toNatClampNeg))), none]) (st := [.int (v1)]) (h := hX σ) rfl (fun c3 => ?_) (fun c3 => ?_)
    · rw [if_pos c3] at hf
      refine ev_go (c' := (38, [none, some (.int (v1)), some (.ref 9), some (.int ((144 : Int32))), some (.int (v4)), some (.long (((gx_od_weights σ) v4.toNatClampNeg))), none], [.int ((1 : Int32)), .int (v1)], hX σ)) 1 rfl ?_
      exact ev_dr (a := [none, none, some (.ref 9), some (.int ((144 : Int32))), some (.int (v4)), none, none]) ⟨rfl, ⟨rfl, ⟨rfl, trivial⟩⟩⟩ (tX4_aboveNought_b38 d σ k13 hk13 v4 (1 : Int32) v1 _ hf)
    · rw [if_neg c3] at hf
      refine ev_go (c' := (38, [none, some (.int (v1)), some (.ref 9), some (.int ((144 : Int32))), some (.int (v4)), some (.long (((gx_od_weights σ) v4.toNatClampNeg))), none], [.int ((0 : Int32)), .int (v1)], hX σ)) 0 rfl ?_
      exact ev_dr (a := [none, none, some (.ref 9), some (.int ((144 : Int32))), some (.int (v4)), none, none]) ⟨rfl, ⟨rfl, ⟨rfl, trivial⟩⟩⟩ (tX4_aboveNought_b38 d σ k13 hk13 v4 (0 : Int32) v1 _ hf)
  · rw [if_neg c1] at hf
    cases hf
    exact ev_rt 1 rfl
theorem tX4_aboveNought_l13 (d : Nat) (σ : SX) : ∀ (n : Nat) (v1 : Int32) (v4 : Int32) (q : Int32), fX4_aboveNought_l13 σ n v1 v4 = some q → ev_X d (some .int) eiX4_aboveNought (13, [none, some (.int (v1)), some (.ref 9), some (.int ((144 : Int32))), some (.int (v4)), none, none], [], hX σ) (some (.int q), hX σ)
  | 0, _, _, _, hf => by cases hf
  | n + 1, v1, v4, q, hf => tX4_aboveNought_b13 d σ (fX4_aboveNought_l13 σ n) (fun v1 v4 q h9 => tX4_aboveNought_l13 d σ n v1 v4 q h9) v1 v4 q hf
set_option maxRecDepth 20000 in
set_option maxHeartbeats 4000000 in
theorem tX4_aboveNought (d : Nat) (σ : SX) (q : Int32) (hf : fX4_aboveNought σ = some q) : ev_M ev_mt (d + 1) 23 [.ref 8] (hX σ) (some (.int q), hX σ) := by
  refine ev_en (rt := (some .int)) (I := eiX4_aboveNought) rfl (Nat.le_of_ble_eq_true rfl) ?_
  change ev_X d _ _ (0, [some (.ref 8), none, none, none, none, none, none], [], hX σ) _
  unfold fX4_aboveNought at hf
  refine ev_go (c' := (13, [some (.ref 8), some (.int ((0 : Int32))), some (.ref 9), some (.int ((144 : Int32))), some (.int ((0 : Int32))), none, none], [], hX σ)) 9 rfl ?_
  exact ev_dr (a := [none, some (.int ((0 : Int32))), some (.ref 9), some (.int ((144 : Int32))), some (.int ((0 : Int32))), none, none]) ⟨rfl, ⟨rfl, ⟨rfl, ⟨rfl, trivial⟩⟩⟩⟩ (tX4_aboveNought_l13 d σ 1000 (0 : Int32) (0 : Int32) _ hf)
set_option maxRecDepth 20000 in
set_option maxHeartbeats 4000000 in
theorem tX4_total_b14 (d : Nat) (σ : SX) (k14 : Int64 → Int32 → Option (Int64)) (hk14 : ∀ (v1 : Int64) (v5 : Int32) (q : Int64), k14 v1 v5 = some q → ev_X d (some .long) eiX4_total (14, [none, some (.long (v1)), none, some (.ref 9), some (.int ((144 : Int32))), some (.int (v5)), none, none], [], hX σ) (some (.long q), hX σ)) (v1 : Int64) (v5 : Int32) (q : Int64) (hf : fX4_total_b14 σ k14 v1 v5 = some q) : ev_X d (some .long) eiX4_total (14, [none, some (.long (v1)), none, some (.ref 9), some (.int ((144 : Int32))), some (.int (v5)), none, none], [], hX σ) (some (.long q), hX σ) := by
  unfold fX4_total_b14 at hf
  refine ev_br 2 (P := v5 < (144 : Int32)) (a := 21) (b := 38) (ls := [none, some (.long (v1)), none, some (.ref 9), some (.int ((144 : Int32))), some (.int (v5)), none, none]) (st := []) (h := hX σ) rfl (fun c1 => ?_) (fun c1 => ?_)
  · rw [if_pos c1] at hf
    obtain ⟨c2, hf⟩ := ev_hp hf
    refine ev_ck 2 (P := ¬ (v5 < 0 ∨ 144 ≤ v5.toNatClampNeg)) (c' := (25, [none, some (.long (v1)), none, some (.ref 9), some (.int ((144 : Int32))), some (.int (v5)), none, none], [.long (((gx_od_weights σ) v5.toNatClampNeg))], hX σ)) rfl c2 ?_
    refine ev_go (c' := (14, [none, some (.long ((v1 + ((gx_od_weights σ) v5.toNatClampNeg)))), none, some (.ref 9), some (.int ((144 : Int32))), some (.int ((v5 + (1 : Int32)))), some (.long (((gx_od_weights σ) v5.toNatClampNeg))), none], [], hX σ)) 6 rfl ?_
    exact ev_dr (a := [none, some (.long ((v1 + ((gx_od_weights σ) v5.toNatClampNeg)))), none, some (.ref 9), some (.int ((144 : Int32))), some (.int ((v5 + (1 : Int32)))), none, none]) ⟨rfl, ⟨rfl, ⟨rfl, ⟨rfl, trivial⟩⟩⟩⟩ (hk14 (v1 + ((gx_od_weights σ) v5.toNatClampNeg)) (v5 + (1 : Int32)) _ hf)
  · rw [if_neg c1] at hf
    cases hf
    exact ev_rt 1 rfl
theorem tX4_total_l14 (d : Nat) (σ : SX) : ∀ (n : Nat) (v1 : Int64) (v5 : Int32) (q : Int64), fX4_total_l14 σ n v1 v5 = some q → ev_X d (some .long) eiX4_total (14, [none, some (.long (v1)), none, some (.ref 9), some (.int ((144 : Int32))), some (.int (v5)), none, none], [], hX σ) (some (.long q), hX σ)
  | 0, _, _, _, hf => by cases hf
  | n + 1, v1, v5, q, hf => tX4_total_b14 d σ (fX4_total_l14 σ n) (fun v1 v5 q h9 => tX4_total_l14 d σ n v1 v5 q h9) v1 v5 q hf
set_option maxRecDepth 20000 in
set_option maxHeartbeats 4000000 in
theorem tX4_total (d : Nat) (σ : SX) (q : Int64) (hf : fX4_total σ = some q) : ev_M ev_mt (d + 1) 24 [.ref 8] (hX σ) (some (.long q), hX σ) := by
  refine ev_en (rt := (some .long)) (I := eiX4_total) rfl (Nat.le_of_ble_eq_true rfl) ?_
  change ev_X d _ _ (0, [some (.ref 8), none, none, none, none, none, none, none], [], hX σ) _
  unfold fX4_total at hf
  refine ev_go (c' := (14, [some (.ref 8), some (.long ((0 : Int64))), none, some (.ref 9), some (.int ((144 : Int32))), some (.int ((0 : Int32))), none, none], [], hX σ)) 9 rfl ?_
  exact ev_dr (a := [none, some (.long ((0 : Int64))), none, some (.ref 9), some (.int ((144 : Int32))), some (.int ((0 : Int32))), none, none]) ⟨rfl, ⟨rfl, ⟨rfl, ⟨rfl, trivial⟩⟩⟩⟩ (tX4_total_l14 d σ 1000 (0 : Int64) (0 : Int32) _ hf)
set_option maxRecDepth 20000 in
set_option maxHeartbeats 4000000 in
theorem tX4_sumOfCell_w_b12 (d : Nat) (σ : SX) (q : Int64) (hf : fX4_sumOfCell_w_b12 σ = some q) : ev_X d (some .long) eiX4_sumOfCell (12, [none, none], [], hX σ) (some (.long q), hX σ) := by
  unfold fX4_sumOfCell_w_b12 at hf
  cases hf
  exact ev_rt 1 rfl
set_option maxRecDepth 20000 in
set_option maxHeartbeats 4000000 in
theorem tX4_sumOfCell_w (d : Nat) (σ : SX) (v1 : Int32) (q : Int64) (hf : fX4_sumOfCell_w σ v1 = some q) : ev_M ev_mt (d + 1) 26 [.ref 9, .int (v1)] (hX σ) (some (.long q), hX σ) := by
  refine ev_en (rt := (some .long)) (I := eiX4_sumOfCell) rfl (Nat.le_of_ble_eq_true rfl) ?_
  change ev_X d _ _ (0, [some (.ref 9), some (.int (v1))], [], hX σ) _
  unfold fX4_sumOfCell_w at hf
  refine ev_br 1 (P := v1 < 0) (a := 12) (b := 4) (ls := [some (.ref 9), some (.int (v1))]) (st := []) (h := hX σ) rfl (fun c1 => ?_) (fun c1 => ?_)
  · rw [if_pos c1] at hf
    exact ev_dr (a := [none, none]) trivial (tX4_sumOfCell_w_b12 d σ  _ hf)
  · rw [if_neg c1] at hf
    refine ev_br 5 (P := (v1 + (3 : Int32)) < (144 : Int32)) (a := 14) (b := 12) (ls := [some (.ref 9), some (.int (v1))]) (st := []) (h := hX σ) rfl (fun c2 => ?_) (fun c2 => ?_)
    · rw [if_pos c2] at hf
      obtain ⟨c3, hf⟩ := ev_hp hf
      refine ev_ck 2 (P := ¬ (v1 < 0 ∨ 144 ≤ v1.toNatClampNeg)) (c' := (17, [some (.ref 9), some (.int (v1))], [.long (((gx_od_weights σ) v1.toNatClampNeg))], hX σ)) rfl c3 ?_
      obtain ⟨c4, hf⟩ := ev_hp hf
      refine ev_ck 4 (P := ¬ ((v1 + (1 : Int32)) < 0 ∨ 144 ≤ (v1 + (1 : Int32)).toNatClampNeg)) (c' := (22, [some (.ref 9), some (.int (v1))], [.long (((gx_od_weights σ) (v1 + (1 : Int32)).toNatClampNeg)), .long (((gx_od_weights σ) v1.toNatClampNeg))], hX σ)) rfl c4 ?_
      obtain ⟨c5, hf⟩ := ev_hp hf
      refine ev_ck 5 (P := ¬ ((v1 + (2 : Int32)) < 0 ∨ 144 ≤ (v1 + (2 : Int32)).toNatClampNeg)) (c' := (28, [some (.ref 9), some (.int (v1))], [.long (((gx_od_weights σ) (v1 + (2 : Int32)).toNatClampNeg)), .long ((((gx_od_weights σ) v1.toNatClampNeg) + ((gx_od_weights σ) (v1 + (1 : Int32)).toNatClampNeg)))], hX σ)) rfl c5 ?_
      obtain ⟨c6, hf⟩ := ev_hp hf
      refine ev_ck 5 (P := ¬ ((v1 + (3 : Int32)) < 0 ∨ 144 ≤ (v1 + (3 : Int32)).toNatClampNeg)) (c' := (34, [some (.ref 9), some (.int (v1))], [.long (((gx_od_weights σ) (v1 + (3 : Int32)).toNatClampNeg)), .long (((((gx_od_weights σ) v1.toNatClampNeg) + ((gx_od_weights σ) (v1 + (1 : Int32)).toNatClampNeg)) + ((gx_od_weights σ) (v1 + (2 : Int32)).toNatClampNeg)))], hX σ)) rfl c6 ?_
      cases hf
      exact ev_rt 1 rfl
    · rw [if_neg c2] at hf
      exact ev_dr (a := [none, none]) trivial (tX4_sumOfCell_w_b12 d σ  _ hf)
end
