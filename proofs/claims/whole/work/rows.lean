section
-- ===== PART A: goes FIRST, ahead of the names: the tables' words, and 'selects' of the private methods out of them =====
/-- a private method of a class that the tables say can be made, by its rows of tables_1 -/
def lw_okq (q : MethodName × Nat) : Prop := (q.1.cls ≠ "java/lang/invoke/MethodHandle" ∧ q.1.cls ≠ "java/lang/invoke/VarHandle") ∧ Cond.instantiable q.1.cls q.2 ∈ tables_1 ∧ Cond.privateMethod q.1 ∈ tables_1 ∧ Cond.instanceMethod q.1 ∈ tables_1
theorem lw_p0 : lw_okq (⟨"WithEyesBound$Page", "mayEndRow", "()Z"⟩, 5) := ⟨⟨by decide +kernel, by decide +kernel⟩, List.mem_of_getElem? (i := 31) (by decide +kernel), List.mem_of_getElem? (i := 257) (by decide +kernel), List.mem_of_getElem? (i := 258) (by decide +kernel)⟩
theorem lw_p1 : lw_okq (⟨"WithEyesBound$Ring", "put", "(III)V"⟩, 6) := ⟨⟨by decide +kernel, by decide +kernel⟩, List.mem_of_getElem? (i := 56) (by decide +kernel), List.mem_of_getElem? (i := 371) (by decide +kernel), List.mem_of_getElem? (i := 372) (by decide +kernel)⟩
theorem lw_p2 : lw_okq (⟨"WithEyesBound$Ring", "findBeside", "(II)V"⟩, 6) := ⟨⟨by decide +kernel, by decide +kernel⟩, List.mem_of_getElem? (i := 56) (by decide +kernel), List.mem_of_getElem? (i := 375) (by decide +kernel), List.mem_of_getElem? (i := 376) (by decide +kernel)⟩
theorem lw_p3 : lw_okq (⟨"WithEyesBound$Odds", "clearOutcomes", "()V"⟩, 6) := ⟨⟨by decide +kernel, by decide +kernel⟩, List.mem_of_getElem? (i := 86) (by decide +kernel), List.mem_of_getElem? (i := 456) (by decide +kernel), List.mem_of_getElem? (i := 457) (by decide +kernel)⟩
theorem lw_p4 : lw_okq (⟨"WithEyesBound$Odds", "add", "(IIIJ)V"⟩, 6) := ⟨⟨by decide +kernel, by decide +kernel⟩, List.mem_of_getElem? (i := 86) (by decide +kernel), List.mem_of_getElem? (i := 460) (by decide +kernel), List.mem_of_getElem? (i := 461) (by decide +kernel)⟩
theorem lw_p5 : lw_okq (⟨"WithEyesBound$Odds", "walk", "(IIJI)V"⟩, 6) := ⟨⟨by decide +kernel, by decide +kernel⟩, List.mem_of_getElem? (i := 86) (by decide +kernel), List.mem_of_getElem? (i := 480) (by decide +kernel), List.mem_of_getElem? (i := 481) (by decide +kernel)⟩
theorem lw_p6 : lw_okq (⟨"WithEyesBound$Odds", "hearFrom", "(IIIJ)V"⟩, 6) := ⟨⟨by decide +kernel, by decide +kernel⟩, List.mem_of_getElem? (i := 86) (by decide +kernel), List.mem_of_getElem? (i := 499) (by decide +kernel), List.mem_of_getElem? (i := 500) (by decide +kernel)⟩
theorem lw_p7 : lw_okq (⟨"WithEyesBound", "sixtiethsExpected", "(IIII)J"⟩, 10) := ⟨⟨by decide +kernel, by decide +kernel⟩, List.mem_of_getElem? (i := 23) (by decide +kernel), List.mem_of_getElem? (i := 557) (by decide +kernel), List.mem_of_getElem? (i := 558) (by decide +kernel)⟩
theorem lw_p8 : lw_okq (⟨"WithEyesBound", "bestDoing", "(III)I"⟩, 10) := ⟨⟨by decide +kernel, by decide +kernel⟩, List.mem_of_getElem? (i := 23) (by decide +kernel), List.mem_of_getElem? (i := 574) (by decide +kernel), List.mem_of_getElem? (i := 575) (by decide +kernel)⟩
theorem lw_p9 : lw_okq (⟨"WithEyesBound", "playerOf", "(I)LWithEyesBound$Player;"⟩, 10) := ⟨⟨by decide +kernel, by decide +kernel⟩, List.mem_of_getElem? (i := 23) (by decide +kernel), List.mem_of_getElem? (i := 707) (by decide +kernel), List.mem_of_getElem? (i := 708) (by decide +kernel)⟩
theorem lw_p10 : lw_okq (⟨"WithEyesBound$Round", "playersGo", "()V"⟩, 11) := ⟨⟨by decide +kernel, by decide +kernel⟩, List.mem_of_getElem? (i := 117) (by decide +kernel), List.mem_of_getElem? (i := 767) (by decide +kernel), List.mem_of_getElem? (i := 768) (by decide +kernel)⟩
theorem lw_p11 : lw_okq (⟨"WithEyesBound$Round", "lookToCall", "()V"⟩, 11) := ⟨⟨by decide +kernel, by decide +kernel⟩, List.mem_of_getElem? (i := 117) (by decide +kernel), List.mem_of_getElem? (i := 800) (by decide +kernel), List.mem_of_getElem? (i := 801) (by decide +kernel)⟩
theorem lw_p12 : lw_okq (⟨"WithEyesBound$Round", "heGoes", "()V"⟩, 11) := ⟨⟨by decide +kernel, by decide +kernel⟩, List.mem_of_getElem? (i := 117) (by decide +kernel), List.mem_of_getElem? (i := 820) (by decide +kernel), List.mem_of_getElem? (i := 821) (by decide +kernel)⟩
theorem lw_p13 : lw_okq (⟨"WithEyesBound$Round", "touch", "()V"⟩, 11) := ⟨⟨by decide +kernel, by decide +kernel⟩, List.mem_of_getElem? (i := 117) (by decide +kernel), List.mem_of_getElem? (i := 835) (by decide +kernel), List.mem_of_getElem? (i := 836) (by decide +kernel)⟩
theorem lw_p14 : lw_okq (⟨"WithEyesBound$Naming", "sizeWeight", "(I)I"⟩, 11) := ⟨⟨by decide +kernel, by decide +kernel⟩, List.mem_of_getElem? (i := 157) (by decide +kernel), List.mem_of_getElem? (i := 887) (by decide +kernel), List.mem_of_getElem? (i := 888) (by decide +kernel)⟩
theorem lw_p15 : lw_okq (⟨"WithEyesBound$Naming", "clothWeight", "(II)I"⟩, 11) := ⟨⟨by decide +kernel, by decide +kernel⟩, List.mem_of_getElem? (i := 157) (by decide +kernel), List.mem_of_getElem? (i := 891) (by decide +kernel), List.mem_of_getElem? (i := 892) (by decide +kernel)⟩
def lw_privs_1 : List (MethodName × Nat) := [(⟨"WithEyesBound$Page", "mayEndRow", "()Z"⟩, 5), (⟨"WithEyesBound$Ring", "put", "(III)V"⟩, 6), (⟨"WithEyesBound$Ring", "findBeside", "(II)V"⟩, 6), (⟨"WithEyesBound$Odds", "clearOutcomes", "()V"⟩, 6), (⟨"WithEyesBound$Odds", "add", "(IIIJ)V"⟩, 6), (⟨"WithEyesBound$Odds", "walk", "(IIJI)V"⟩, 6), (⟨"WithEyesBound$Odds", "hearFrom", "(IIIJ)V"⟩, 6), (⟨"WithEyesBound", "sixtiethsExpected", "(IIII)J"⟩, 10), (⟨"WithEyesBound", "bestDoing", "(III)I"⟩, 10), (⟨"WithEyesBound", "playerOf", "(I)LWithEyesBound$Player;"⟩, 10), (⟨"WithEyesBound$Round", "playersGo", "()V"⟩, 11), (⟨"WithEyesBound$Round", "lookToCall", "()V"⟩, 11), (⟨"WithEyesBound$Round", "heGoes", "()V"⟩, 11), (⟨"WithEyesBound$Round", "touch", "()V"⟩, 11), (⟨"WithEyesBound$Naming", "sizeWeight", "(I)I"⟩, 11), (⟨"WithEyesBound$Naming", "clothWeight", "(II)I"⟩, 11)]
theorem lw_r1 : ∀ q ∈ lw_privs_1, lw_okq q := List.forall_mem_cons.mpr ⟨lw_p0, List.forall_mem_cons.mpr ⟨lw_p1, List.forall_mem_cons.mpr ⟨lw_p2, List.forall_mem_cons.mpr ⟨lw_p3, List.forall_mem_cons.mpr ⟨lw_p4, List.forall_mem_cons.mpr ⟨lw_p5, List.forall_mem_cons.mpr ⟨lw_p6, List.forall_mem_cons.mpr ⟨lw_p7, List.forall_mem_cons.mpr ⟨lw_p8, List.forall_mem_cons.mpr ⟨lw_p9, List.forall_mem_cons.mpr ⟨lw_p10, List.forall_mem_cons.mpr ⟨lw_p11, List.forall_mem_cons.mpr ⟨lw_p12, List.forall_mem_cons.mpr ⟨lw_p13, List.forall_mem_cons.mpr ⟨lw_p14, List.forall_mem_cons.mpr ⟨lw_p15, fun _ h => absurd h List.not_mem_nil⟩⟩⟩⟩⟩⟩⟩⟩⟩⟩⟩⟩⟩⟩⟩⟩
theorem lw_p16 : lw_okq (⟨"WithEyesBound$Naming", "clothOf", "(I)I"⟩, 11) := ⟨⟨by decide +kernel, by decide +kernel⟩, List.mem_of_getElem? (i := 157) (by decide +kernel), List.mem_of_getElem? (i := 895) (by decide +kernel), List.mem_of_getElem? (i := 896) (by decide +kernel)⟩
theorem lw_p17 : lw_okq (⟨"WithEyesBoundModel", "readPage", "()V"⟩, 44) := ⟨⟨by decide +kernel, by decide +kernel⟩, List.mem_of_getElem? (i := 989) (by decide +kernel), List.mem_of_getElem? (i := 1141) (by decide +kernel), List.mem_of_getElem? (i := 1142) (by decide +kernel)⟩
theorem lw_p18 : lw_okq (⟨"WithEyesBoundModel", "layLost", "()I"⟩, 44) := ⟨⟨by decide +kernel, by decide +kernel⟩, List.mem_of_getElem? (i := 989) (by decide +kernel), List.mem_of_getElem? (i := 1152) (by decide +kernel), List.mem_of_getElem? (i := 1153) (by decide +kernel)⟩
theorem lw_p19 : lw_okq (⟨"WithEyesBoundModel", "isFree", "(I)Z"⟩, 44) := ⟨⟨by decide +kernel, by decide +kernel⟩, List.mem_of_getElem? (i := 989) (by decide +kernel), List.mem_of_getElem? (i := 1156) (by decide +kernel), List.mem_of_getElem? (i := 1157) (by decide +kernel)⟩
theorem lw_p20 : lw_okq (⟨"WithEyesBoundModel", "isCell", "(I)Z"⟩, 44) := ⟨⟨by decide +kernel, by decide +kernel⟩, List.mem_of_getElem? (i := 989) (by decide +kernel), List.mem_of_getElem? (i := 1160) (by decide +kernel), List.mem_of_getElem? (i := 1161) (by decide +kernel)⟩
theorem lw_p21 : lw_okq (⟨"WithEyesBoundModel", "cells", "()I"⟩, 44) := ⟨⟨by decide +kernel, by decide +kernel⟩, List.mem_of_getElem? (i := 989) (by decide +kernel), List.mem_of_getElem? (i := 1164) (by decide +kernel), List.mem_of_getElem? (i := 1165) (by decide +kernel)⟩
theorem lw_p22 : lw_okq (⟨"WithEyesBoundModel", "clear", "()V"⟩, 44) := ⟨⟨by decide +kernel, by decide +kernel⟩, List.mem_of_getElem? (i := 989) (by decide +kernel), List.mem_of_getElem? (i := 1190) (by decide +kernel), List.mem_of_getElem? (i := 1191) (by decide +kernel)⟩
theorem lw_p23 : lw_okq (⟨"WithEyesBoundModel", "take", "()I"⟩, 44) := ⟨⟨by decide +kernel, by decide +kernel⟩, List.mem_of_getElem? (i := 989) (by decide +kernel), List.mem_of_getElem? (i := 1194) (by decide +kernel), List.mem_of_getElem? (i := 1195) (by decide +kernel)⟩
theorem lw_p24 : lw_okq (⟨"WithEyesBoundModel", "above", "()I"⟩, 44) := ⟨⟨by decide +kernel, by decide +kernel⟩, List.mem_of_getElem? (i := 989) (by decide +kernel), List.mem_of_getElem? (i := 1201) (by decide +kernel), List.mem_of_getElem? (i := 1202) (by decide +kernel)⟩
theorem lw_p25 : lw_okq (⟨"WithEyesBoundModel", "layStep", "(III)V"⟩, 44) := ⟨⟨by decide +kernel, by decide +kernel⟩, List.mem_of_getElem? (i := 989) (by decide +kernel), List.mem_of_getElem? (i := 1209) (by decide +kernel), List.mem_of_getElem? (i := 1210) (by decide +kernel)⟩
theorem lw_p26 : lw_okq (⟨"WithEyesBoundModel", "stepOne", "(IIII)V"⟩, 44) := ⟨⟨by decide +kernel, by decide +kernel⟩, List.mem_of_getElem? (i := 989) (by decide +kernel), List.mem_of_getElem? (i := 1213) (by decide +kernel), List.mem_of_getElem? (i := 1214) (by decide +kernel)⟩
theorem lw_p27 : lw_okq (⟨"WithEyesBoundModel", "on", "(II)I"⟩, 44) := ⟨⟨by decide +kernel, by decide +kernel⟩, List.mem_of_getElem? (i := 989) (by decide +kernel), List.mem_of_getElem? (i := 1217) (by decide +kernel), List.mem_of_getElem? (i := 1218) (by decide +kernel)⟩
theorem lw_p28 : lw_okq (⟨"WithEyesBoundModel", "sortAt", "(I)I"⟩, 44) := ⟨⟨by decide +kernel, by decide +kernel⟩, List.mem_of_getElem? (i := 989) (by decide +kernel), List.mem_of_getElem? (i := 1221) (by decide +kernel), List.mem_of_getElem? (i := 1222) (by decide +kernel)⟩
theorem lw_p29 : lw_okq (⟨"WithEyesBoundModel", "layHeard", "(III)V"⟩, 44) := ⟨⟨by decide +kernel, by decide +kernel⟩, List.mem_of_getElem? (i := 989) (by decide +kernel), List.mem_of_getElem? (i := 1232) (by decide +kernel), List.mem_of_getElem? (i := 1233) (by decide +kernel)⟩
theorem lw_p30 : lw_okq (⟨"WithEyesBoundModel", "liesFrom", "(II)I"⟩, 44) := ⟨⟨by decide +kernel, by decide +kernel⟩, List.mem_of_getElem? (i := 989) (by decide +kernel), List.mem_of_getElem? (i := 1236) (by decide +kernel), List.mem_of_getElem? (i := 1237) (by decide +kernel)⟩
theorem lw_p31 : lw_okq (⟨"WithEyesBoundModel", "ofCell", "(I)J"⟩, 44) := ⟨⟨by decide +kernel, by decide +kernel⟩, List.mem_of_getElem? (i := 989) (by decide +kernel), List.mem_of_getElem? (i := 1251) (by decide +kernel), List.mem_of_getElem? (i := 1252) (by decide +kernel)⟩
def lw_privs_2 : List (MethodName × Nat) := [(⟨"WithEyesBound$Naming", "clothOf", "(I)I"⟩, 11), (⟨"WithEyesBoundModel", "readPage", "()V"⟩, 44), (⟨"WithEyesBoundModel", "layLost", "()I"⟩, 44), (⟨"WithEyesBoundModel", "isFree", "(I)Z"⟩, 44), (⟨"WithEyesBoundModel", "isCell", "(I)Z"⟩, 44), (⟨"WithEyesBoundModel", "cells", "()I"⟩, 44), (⟨"WithEyesBoundModel", "clear", "()V"⟩, 44), (⟨"WithEyesBoundModel", "take", "()I"⟩, 44), (⟨"WithEyesBoundModel", "above", "()I"⟩, 44), (⟨"WithEyesBoundModel", "layStep", "(III)V"⟩, 44), (⟨"WithEyesBoundModel", "stepOne", "(IIII)V"⟩, 44), (⟨"WithEyesBoundModel", "on", "(II)I"⟩, 44), (⟨"WithEyesBoundModel", "sortAt", "(I)I"⟩, 44), (⟨"WithEyesBoundModel", "layHeard", "(III)V"⟩, 44), (⟨"WithEyesBoundModel", "liesFrom", "(II)I"⟩, 44), (⟨"WithEyesBoundModel", "ofCell", "(I)J"⟩, 44)]
theorem lw_r2 : ∀ q ∈ lw_privs_2, lw_okq q := List.forall_mem_cons.mpr ⟨lw_p16, List.forall_mem_cons.mpr ⟨lw_p17, List.forall_mem_cons.mpr ⟨lw_p18, List.forall_mem_cons.mpr ⟨lw_p19, List.forall_mem_cons.mpr ⟨lw_p20, List.forall_mem_cons.mpr ⟨lw_p21, List.forall_mem_cons.mpr ⟨lw_p22, List.forall_mem_cons.mpr ⟨lw_p23, List.forall_mem_cons.mpr ⟨lw_p24, List.forall_mem_cons.mpr ⟨lw_p25, List.forall_mem_cons.mpr ⟨lw_p26, List.forall_mem_cons.mpr ⟨lw_p27, List.forall_mem_cons.mpr ⟨lw_p28, List.forall_mem_cons.mpr ⟨lw_p29, List.forall_mem_cons.mpr ⟨lw_p30, List.forall_mem_cons.mpr ⟨lw_p31, fun _ h => absurd h List.not_mem_nil⟩⟩⟩⟩⟩⟩⟩⟩⟩⟩⟩⟩⟩⟩⟩⟩
theorem lw_p32 : lw_okq (⟨"WithEyesBoundModel", "all", "()J"⟩, 44) := ⟨⟨by decide +kernel, by decide +kernel⟩, List.mem_of_getElem? (i := 989) (by decide +kernel), List.mem_of_getElem? (i := 1255) (by decide +kernel), List.mem_of_getElem? (i := 1256) (by decide +kernel)⟩
theorem lw_p33 : lw_okq (⟨"WithEyesBoundModel", "likeliestNow", "()I"⟩, 44) := ⟨⟨by decide +kernel, by decide +kernel⟩, List.mem_of_getElem? (i := 989) (by decide +kernel), List.mem_of_getElem? (i := 1272) (by decide +kernel), List.mem_of_getElem? (i := 1273) (by decide +kernel)⟩
theorem lw_p34 : lw_okq (⟨"WithEyesBoundModel", "areMany", "()Z"⟩, 44) := ⟨⟨by decide +kernel, by decide +kernel⟩, List.mem_of_getElem? (i := 989) (by decide +kernel), List.mem_of_getElem? (i := 1284) (by decide +kernel), List.mem_of_getElem? (i := 1285) (by decide +kernel)⟩
theorem lw_p35 : lw_okq (⟨"WithEyesBoundModel", "expectedNow", "(IIII)J"⟩, 44) := ⟨⟨by decide +kernel, by decide +kernel⟩, List.mem_of_getElem? (i := 989) (by decide +kernel), List.mem_of_getElem? (i := 1288) (by decide +kernel), List.mem_of_getElem? (i := 1289) (by decide +kernel)⟩
theorem lw_p36 : lw_okq (⟨"WithEyesBoundModel", "greatestThen", "()J"⟩, 44) := ⟨⟨by decide +kernel, by decide +kernel⟩, List.mem_of_getElem? (i := 989) (by decide +kernel), List.mem_of_getElem? (i := 1292) (by decide +kernel), List.mem_of_getElem? (i := 1293) (by decide +kernel)⟩
theorem lw_p37 : lw_okq (⟨"WithEyesBoundModel", "isPlayer", "(I)Z"⟩, 44) := ⟨⟨by decide +kernel, by decide +kernel⟩, List.mem_of_getElem? (i := 989) (by decide +kernel), List.mem_of_getElem? (i := 1318) (by decide +kernel), List.mem_of_getElem? (i := 1319) (by decide +kernel)⟩
theorem lw_p38 : lw_okq (⟨"WithEyesBoundModel", "playerTold", "(II)I"⟩, 44) := ⟨⟨by decide +kernel, by decide +kernel⟩, List.mem_of_getElem? (i := 989) (by decide +kernel), List.mem_of_getElem? (i := 1326) (by decide +kernel), List.mem_of_getElem? (i := 1327) (by decide +kernel)⟩
theorem lw_p39 : lw_okq (⟨"WithEyesBoundModel", "play", "(IIIII)V"⟩, 44) := ⟨⟨by decide +kernel, by decide +kernel⟩, List.mem_of_getElem? (i := 989) (by decide +kernel), List.mem_of_getElem? (i := 1338) (by decide +kernel), List.mem_of_getElem? (i := 1339) (by decide +kernel)⟩
theorem lw_p40 : lw_okq (⟨"WithEyesBoundModel", "goPlayers", "()V"⟩, 44) := ⟨⟨by decide +kernel, by decide +kernel⟩, List.mem_of_getElem? (i := 989) (by decide +kernel), List.mem_of_getElem? (i := 1342) (by decide +kernel), List.mem_of_getElem? (i := 1343) (by decide +kernel)⟩
theorem lw_p41 : lw_okq (⟨"WithEyesBoundModel", "goes", "(IIIZ)I"⟩, 44) := ⟨⟨by decide +kernel, by decide +kernel⟩, List.mem_of_getElem? (i := 989) (by decide +kernel), List.mem_of_getElem? (i := 1346) (by decide +kernel), List.mem_of_getElem? (i := 1347) (by decide +kernel)⟩
theorem lw_p42 : lw_okq (⟨"WithEyesBoundModel", "far", "(III)I"⟩, 44) := ⟨⟨by decide +kernel, by decide +kernel⟩, List.mem_of_getElem? (i := 989) (by decide +kernel), List.mem_of_getElem? (i := 1350) (by decide +kernel), List.mem_of_getElem? (i := 1351) (by decide +kernel)⟩
theorem lw_p43 : lw_okq (⟨"WithEyesBoundModel", "goHim", "(II)V"⟩, 44) := ⟨⟨by decide +kernel, by decide +kernel⟩, List.mem_of_getElem? (i := 989) (by decide +kernel), List.mem_of_getElem? (i := 1354) (by decide +kernel), List.mem_of_getElem? (i := 1355) (by decide +kernel)⟩
theorem lw_p44 : lw_okq (⟨"WithEyesBoundModel", "nearestCall", "()I"⟩, 44) := ⟨⟨by decide +kernel, by decide +kernel⟩, List.mem_of_getElem? (i := 989) (by decide +kernel), List.mem_of_getElem? (i := 1358) (by decide +kernel), List.mem_of_getElem? (i := 1359) (by decide +kernel)⟩
theorem lw_p45 : lw_okq (⟨"WithEyesBoundModel", "callOf", "(I)I"⟩, 44) := ⟨⟨by decide +kernel, by decide +kernel⟩, List.mem_of_getElem? (i := 989) (by decide +kernel), List.mem_of_getElem? (i := 1362) (by decide +kernel), List.mem_of_getElem? (i := 1363) (by decide +kernel)⟩
theorem lw_p46 : lw_okq (⟨"WithEyesBoundModel", "draw", "(I)I"⟩, 44) := ⟨⟨by decide +kernel, by decide +kernel⟩, List.mem_of_getElem? (i := 989) (by decide +kernel), List.mem_of_getElem? (i := 1366) (by decide +kernel), List.mem_of_getElem? (i := 1367) (by decide +kernel)⟩
theorem lw_p47 : lw_okq (⟨"WithEyesBoundModel", "touchedNow", "()I"⟩, 44) := ⟨⟨by decide +kernel, by decide +kernel⟩, List.mem_of_getElem? (i := 989) (by decide +kernel), List.mem_of_getElem? (i := 1374) (by decide +kernel), List.mem_of_getElem? (i := 1375) (by decide +kernel)⟩
def lw_privs_3 : List (MethodName × Nat) := [(⟨"WithEyesBoundModel", "all", "()J"⟩, 44), (⟨"WithEyesBoundModel", "likeliestNow", "()I"⟩, 44), (⟨"WithEyesBoundModel", "areMany", "()Z"⟩, 44), (⟨"WithEyesBoundModel", "expectedNow", "(IIII)J"⟩, 44), (⟨"WithEyesBoundModel", "greatestThen", "()J"⟩, 44), (⟨"WithEyesBoundModel", "isPlayer", "(I)Z"⟩, 44), (⟨"WithEyesBoundModel", "playerTold", "(II)I"⟩, 44), (⟨"WithEyesBoundModel", "play", "(IIIII)V"⟩, 44), (⟨"WithEyesBoundModel", "goPlayers", "()V"⟩, 44), (⟨"WithEyesBoundModel", "goes", "(IIIZ)I"⟩, 44), (⟨"WithEyesBoundModel", "far", "(III)I"⟩, 44), (⟨"WithEyesBoundModel", "goHim", "(II)V"⟩, 44), (⟨"WithEyesBoundModel", "nearestCall", "()I"⟩, 44), (⟨"WithEyesBoundModel", "callOf", "(I)I"⟩, 44), (⟨"WithEyesBoundModel", "draw", "(I)I"⟩, 44), (⟨"WithEyesBoundModel", "touchedNow", "()I"⟩, 44)]
theorem lw_r3 : ∀ q ∈ lw_privs_3, lw_okq q := List.forall_mem_cons.mpr ⟨lw_p32, List.forall_mem_cons.mpr ⟨lw_p33, List.forall_mem_cons.mpr ⟨lw_p34, List.forall_mem_cons.mpr ⟨lw_p35, List.forall_mem_cons.mpr ⟨lw_p36, List.forall_mem_cons.mpr ⟨lw_p37, List.forall_mem_cons.mpr ⟨lw_p38, List.forall_mem_cons.mpr ⟨lw_p39, List.forall_mem_cons.mpr ⟨lw_p40, List.forall_mem_cons.mpr ⟨lw_p41, List.forall_mem_cons.mpr ⟨lw_p42, List.forall_mem_cons.mpr ⟨lw_p43, List.forall_mem_cons.mpr ⟨lw_p44, List.forall_mem_cons.mpr ⟨lw_p45, List.forall_mem_cons.mpr ⟨lw_p46, List.forall_mem_cons.mpr ⟨lw_p47, fun _ h => absurd h List.not_mem_nil⟩⟩⟩⟩⟩⟩⟩⟩⟩⟩⟩⟩⟩⟩⟩⟩
theorem lw_p48 : lw_okq (⟨"WithEyesBoundModel", "likelyAll", "(III)I"⟩, 44) := ⟨⟨by decide +kernel, by decide +kernel⟩, List.mem_of_getElem? (i := 989) (by decide +kernel), List.mem_of_getElem? (i := 1402) (by decide +kernel), List.mem_of_getElem? (i := 1403) (by decide +kernel)⟩
theorem lw_p49 : lw_okq (⟨"WithEyesBoundModel", "likely", "(IIII)I"⟩, 44) := ⟨⟨by decide +kernel, by decide +kernel⟩, List.mem_of_getElem? (i := 989) (by decide +kernel), List.mem_of_getElem? (i := 1406) (by decide +kernel), List.mem_of_getElem? (i := 1407) (by decide +kernel)⟩
theorem lw_p50 : lw_okq (⟨"WithEyesBoundModel", "byCloth", "(II)I"⟩, 44) := ⟨⟨by decide +kernel, by decide +kernel⟩, List.mem_of_getElem? (i := 989) (by decide +kernel), List.mem_of_getElem? (i := 1410) (by decide +kernel), List.mem_of_getElem? (i := 1411) (by decide +kernel)⟩
theorem lw_p51 : lw_okq (⟨"WithEyesBoundModel", "saysNow", "(III)I"⟩, 44) := ⟨⟨by decide +kernel, by decide +kernel⟩, List.mem_of_getElem? (i := 989) (by decide +kernel), List.mem_of_getElem? (i := 1418) (by decide +kernel), List.mem_of_getElem? (i := 1419) (by decide +kernel)⟩
theorem lw_p52 : lw_okq (⟨"WithEyesBoundModel", "howMany", "(I)I"⟩, 44) := ⟨⟨by decide +kernel, by decide +kernel⟩, List.mem_of_getElem? (i := 989) (by decide +kernel), List.mem_of_getElem? (i := 1438) (by decide +kernel), List.mem_of_getElem? (i := 1439) (by decide +kernel)⟩
theorem lw_p53 : lw_okq (⟨"WithEyesBoundModel", "freeMany", "()I"⟩, 44) := ⟨⟨by decide +kernel, by decide +kernel⟩, List.mem_of_getElem? (i := 989) (by decide +kernel), List.mem_of_getElem? (i := 1442) (by decide +kernel), List.mem_of_getElem? (i := 1443) (by decide +kernel)⟩
theorem lw_p54 : lw_okq (⟨"WithEyesBoundModel", "mix", "(J)V"⟩, 44) := ⟨⟨by decide +kernel, by decide +kernel⟩, List.mem_of_getElem? (i := 989) (by decide +kernel), List.mem_of_getElem? (i := 1451) (by decide +kernel), List.mem_of_getElem? (i := 1452) (by decide +kernel)⟩
theorem lw_p55 : lw_okq (⟨"WithEyesBoundModel", "mixGame", "()V"⟩, 44) := ⟨⟨by decide +kernel, by decide +kernel⟩, List.mem_of_getElem? (i := 989) (by decide +kernel), List.mem_of_getElem? (i := 1456) (by decide +kernel), List.mem_of_getElem? (i := 1457) (by decide +kernel)⟩
def lw_privs_4 : List (MethodName × Nat) := [(⟨"WithEyesBoundModel", "likelyAll", "(III)I"⟩, 44), (⟨"WithEyesBoundModel", "likely", "(IIII)I"⟩, 44), (⟨"WithEyesBoundModel", "byCloth", "(II)I"⟩, 44), (⟨"WithEyesBoundModel", "saysNow", "(III)I"⟩, 44), (⟨"WithEyesBoundModel", "howMany", "(I)I"⟩, 44), (⟨"WithEyesBoundModel", "freeMany", "()I"⟩, 44), (⟨"WithEyesBoundModel", "mix", "(J)V"⟩, 44), (⟨"WithEyesBoundModel", "mixGame", "()V"⟩, 44)]
theorem lw_r4 : ∀ q ∈ lw_privs_4, lw_okq q := List.forall_mem_cons.mpr ⟨lw_p48, List.forall_mem_cons.mpr ⟨lw_p49, List.forall_mem_cons.mpr ⟨lw_p50, List.forall_mem_cons.mpr ⟨lw_p51, List.forall_mem_cons.mpr ⟨lw_p52, List.forall_mem_cons.mpr ⟨lw_p53, List.forall_mem_cons.mpr ⟨lw_p54, List.forall_mem_cons.mpr ⟨lw_p55, fun _ h => absurd h List.not_mem_nil⟩⟩⟩⟩⟩⟩⟩⟩
def lw_privs : List (MethodName × Nat) := lw_privs_1 ++ (lw_privs_2 ++ (lw_privs_3 ++ (lw_privs_4)))
def lw_tbl : List Cond := k2_sels lw_privs ++ tables_1
theorem lw_privs_ok : ∀ q ∈ lw_privs, lw_okq q := by
  show ∀ q ∈ lw_privs_1 ++ (lw_privs_2 ++ (lw_privs_3 ++ (lw_privs_4))), lw_okq q
  exact List.forall_mem_append.mpr ⟨lw_r1, List.forall_mem_append.mpr ⟨lw_r2, List.forall_mem_append.mpr ⟨lw_r3, lw_r4⟩⟩⟩
end
section
/-! ===== BEGIN words of one list among another's, by their places ===== -/
theorem goodIn_r {big : List Cond} (ws : List Cond) (ps : List Nat) (hp : ws = ps.filterMap (fun i => big[i]?)) (h : ws.all goodWord = true) : GoodIn big ws := by
  intro w hw
  have h1 := List.all_eq_true.mp h w hw
  rw [hp] at hw
  obtain ⟨i, -, hi⟩ := List.mem_filterMap.mp hw
  have hm : w ∈ big := by first | exact List.mem_of_getElem? hi | exact List.getElem?_mem hi
  exact ⟨hm, good_of_word h1⟩
theorem goodIn_app {big a b : List Cond} (ha : GoodIn big a) (hb : GoodIn big b) : GoodIn big (a ++ b) := fun w h => (List.mem_append.mp h).elim (ha w) (hb w)
theorem goodIn_ca {big a b : List Cond} {c : Cond} (ha : GoodIn big (c :: a)) (hb : GoodIn big b) : GoodIn big (c :: (a ++ b)) := fun w h => (List.mem_cons.mp h).elim (fun e => ha w (List.mem_cons.mpr (Or.inl e))) (fun h => (List.mem_append.mp h).elim (fun h => ha w (List.mem_cons.mpr (Or.inr h))) (hb w))
theorem goodIn_sub {big ws : List Cond} (hm : ∀ w ∈ ws, w ∈ big) (h : ws.all goodWord = true) : GoodIn big ws := fun w hw => ⟨hm w hw, good_of_word (List.all_eq_true.mp h w hw)⟩
/-! ===== END ===== -/
/-! ===== BEGIN printed: names, fields, word lists, decode rows ===== -/
def RX0 : String := "WithEyesBound$Behind"
def TX0 : u_T := fun k => match k with
  | 0 => ("WithEyesBound$Player", "told", "I", false)
  | 1 => ("WithEyesBound$Player", "kept", "I", false)
  | 2 => ("WithEyesBound$Player", "at", "I", false)
  | 3 => ("WithEyesBound$Player", "size", "I", false)
  | 4 => ("WithEyesBound$Player", "cloth", "I", false)
  | _ => ("WithEyesBound$Player", "giggle", "I", false)
def tyX0 : Nat → FieldType := fun k => match k with
  | 0 => .int
  | 1 => .int
  | 2 => .int
  | 3 => .int
  | 4 => .int
  | _ => .int
abbrev wsX00 : List Cond := u_ws RX0 TX0 6
theorem nmX0 : ∀ a, a < 6 → ∀ b, b < 6 → a ≠ b → (TX0 a).2.1 ≠ (TX0 b).2.1 := by decide +kernel
theorem tyX0_ok : ∀ k, k < 6 → parseFieldDescriptor (TX0 k).2.2.1 = some (tyX0 k) := by decide +kernel
abbrev cX0_init : ByteArray := prog_2_method_1_code
def yX0_init : MethodName := ⟨RX0, "<init>", "()V"⟩
abbrev cX0_kind : ByteArray := prog_2_method_2_code
def yX0_kind : MethodName := ⟨RX0, "kind", "()I"⟩
abbrev cX0_goOn : ByteArray := prog_2_method_3_code
def yX0_goOn : MethodName := ⟨RX0, "goOn", "(LWithEyesBound$Ring;III)V"⟩
def RX1 : String := "WithEyesBound$Caller"
def TX1 : u_T := fun k => match k with
  | 0 => ("WithEyesBound$Player", "told", "I", false)
  | 1 => ("WithEyesBound$Player", "kept", "I", false)
  | 2 => ("WithEyesBound$Player", "at", "I", false)
  | 3 => ("WithEyesBound$Player", "size", "I", false)
  | 4 => ("WithEyesBound$Player", "cloth", "I", false)
  | _ => ("WithEyesBound$Player", "giggle", "I", false)
def tyX1 : Nat → FieldType := fun k => match k with
  | 0 => .int
  | 1 => .int
  | 2 => .int
  | 3 => .int
  | 4 => .int
  | _ => .int
abbrev wsX10 : List Cond := u_ws RX1 TX1 6
theorem nmX1 : ∀ a, a < 6 → ∀ b, b < 6 → a ≠ b → (TX1 a).2.1 ≠ (TX1 b).2.1 := by decide +kernel
theorem tyX1_ok : ∀ k, k < 6 → parseFieldDescriptor (TX1 k).2.2.1 = some (tyX1 k) := by decide +kernel
abbrev cX1_init : ByteArray := prog_3_method_1_code
def yX1_init : MethodName := ⟨RX1, "<init>", "()V"⟩
abbrev cX1_kind : ByteArray := prog_3_method_2_code
def yX1_kind : MethodName := ⟨RX1, "kind", "()I"⟩
abbrev cX1_callsFrom : ByteArray := prog_3_method_3_code
def yX1_callsFrom : MethodName := ⟨RX1, "callsFrom", "(LWithEyesBound$Ring;)I"⟩
def RX2 : String := "WithEyesBound$Feigned"
def TX2 : u_T := fun k => match k with
  | 0 => ("WithEyesBound$Player", "told", "I", false)
  | 1 => ("WithEyesBound$Player", "kept", "I", false)
  | 2 => ("WithEyesBound$Player", "at", "I", false)
  | 3 => ("WithEyesBound$Player", "size", "I", false)
  | 4 => ("WithEyesBound$Player", "cloth", "I", false)
  | _ => ("WithEyesBound$Player", "giggle", "I", false)
def tyX2 : Nat → FieldType := fun k => match k with
  | 0 => .int
  | 1 => .int
  | 2 => .int
  | 3 => .int
  | 4 => .int
  | _ => .int
abbrev wsX20 : List Cond := u_ws RX2 TX2 6
theorem nmX2 : ∀ a, a < 6 → ∀ b, b < 6 → a ≠ b → (TX2 a).2.1 ≠ (TX2 b).2.1 := by decide +kernel
theorem tyX2_ok : ∀ k, k < 6 → parseFieldDescriptor (TX2 k).2.2.1 = some (tyX2 k) := by decide +kernel
abbrev cX2_init : ByteArray := prog_4_method_1_code
def yX2_init : MethodName := ⟨RX2, "<init>", "()V"⟩
abbrev cX2_kind : ByteArray := prog_4_method_2_code
def yX2_kind : MethodName := ⟨RX2, "kind", "()I"⟩
abbrev cX2_callsFrom : ByteArray := prog_4_method_3_code
def yX2_callsFrom : MethodName := ⟨RX2, "callsFrom", "(LWithEyesBound$Ring;)I"⟩
def RX3 : String := "WithEyesBound$Naming"
def TX3 : u_T := fun k => match k with
  | 0 => ("WithEyesBound$Naming", "players", "[LWithEyesBound$Player;", true)
  | 1 => ("WithEyesBound$Naming", "weights", "[I", true)
  | 2 => ("WithEyesBound$Naming", "sizeOff", "I", false)
  | 3 => ("WithEyesBound$Naming", "clothRight", "I", false)
  | 4 => ("WithEyesBound$Naming", "giggleRight", "I", false)
  | 5 => ("WithEyesBound$Naming", "first", "I", false)
  | 6 => ("WithEyesBound$Naming", "second", "I", false)
  | 7 => ("WithEyesBound$Naming", "changed", "I", false)
  | 8 => ("WithEyesBound$Naming", "keptFirst", "I", false)
  | 9 => ("WithEyesBound$Naming", "keptSecond", "I", false)
  | _ => ("WithEyesBound$Naming", "keptChanged", "I", false)
def tyX3 : Nat → FieldType := fun k => match k with
  | 0 => .array (.object "WithEyesBound$Player")
  | 1 => .array .int
  | 2 => .int
  | 3 => .int
  | 4 => .int
  | 5 => .int
  | 6 => .int
  | 7 => .int
  | 8 => .int
  | 9 => .int
  | _ => .int
abbrev wsX30 : List Cond := u_ws RX3 TX3 11
theorem nmX3 : ∀ a, a < 11 → ∀ b, b < 11 → a ≠ b → (TX3 a).2.1 ≠ (TX3 b).2.1 := by decide +kernel
theorem tyX3_ok : ∀ k, k < 11 → parseFieldDescriptor (TX3 k).2.2.1 = some (tyX3 k) := by decide +kernel
abbrev cX3_init : ByteArray := prog_5_method_1_code
def yX3_init : MethodName := ⟨RX3, "<init>", "([LWithEyesBound$Player;)V"⟩
abbrev cX3_changeJackets : ByteArray := prog_5_method_2_code
def yX3_changeJackets : MethodName := ⟨RX3, "changeJackets", "(III)V"⟩
abbrev cX3_forgetJackets : ByteArray := prog_5_method_3_code
def yX3_forgetJackets : MethodName := ⟨RX3, "forgetJackets", "()V"⟩
abbrev cX3_keep : ByteArray := prog_5_method_4_code
def yX3_keep : MethodName := ⟨RX3, "keep", "()V"⟩
abbrev cX3_takeKept : ByteArray := prog_5_method_5_code
def yX3_takeKept : MethodName := ⟨RX3, "takeKept", "()V"⟩
abbrev cX3_weigh : ByteArray := prog_5_method_6_code
def yX3_weigh : MethodName := ⟨RX3, "weigh", "(III)V"⟩
abbrev cX3_sizeWeight : ByteArray := prog_5_method_7_code
def yX3_sizeWeight : MethodName := ⟨RX3, "sizeWeight", "(I)I"⟩
abbrev cX3_likeWeight : ByteArray := prog_5_method_8_code
def yX3_likeWeight : MethodName := ⟨RX3, "likeWeight", "(ZI)I"⟩
abbrev cX3_clothWeight : ByteArray := prog_5_method_9_code
def yX3_clothWeight : MethodName := ⟨RX3, "clothWeight", "(II)I"⟩
abbrev cX3_clothOf : ByteArray := prog_5_method_10_code
def yX3_clothOf : MethodName := ⟨RX3, "clothOf", "(I)I"⟩
abbrev cX3_weightOf : ByteArray := prog_5_method_11_code
def yX3_weightOf : MethodName := ⟨RX3, "weightOf", "(I)J"⟩
abbrev cX3_total : ByteArray := prog_5_method_12_code
def yX3_total : MethodName := ⟨RX3, "total", "()J"⟩
abbrev cX3_likeliestPlayer : ByteArray := prog_5_method_13_code
def yX3_likeliestPlayer : MethodName := ⟨RX3, "likeliestPlayer", "()I"⟩
abbrev cX3_mixInto : ByteArray := prog_5_method_14_code
def yX3_mixInto : MethodName := ⟨RX3, "mixInto", "(J)J"⟩
def RX4 : String := "WithEyesBound$Odds"
def TX4 : u_T := fun k => match k with
  | 0 => ("WithEyesBound$Odds", "ring", "LWithEyesBound$Ring;", true)
  | 1 => ("WithEyesBound$Odds", "weights", "[J", true)
  | 2 => ("WithEyesBound$Odds", "kept", "[J", true)
  | 3 => ("WithEyesBound$Odds", "outcomes", "[[J", true)
  | 4 => ("WithEyesBound$Odds", "updates", "I", false)
  | _ => ("WithEyesBound$Odds", "keptUpdates", "I", false)
def tyX4 : Nat → FieldType := fun k => match k with
  | 0 => .object "WithEyesBound$Ring"
  | 1 => .array .long
  | 2 => .array .long
  | 3 => .array (.array .long)
  | 4 => .int
  | _ => .int
abbrev wsX40 : List Cond := u_ws RX4 TX4 6
theorem nmX4 : ∀ a, a < 6 → ∀ b, b < 6 → a ≠ b → (TX4 a).2.1 ≠ (TX4 b).2.1 := by decide +kernel
theorem tyX4_ok : ∀ k, k < 6 → parseFieldDescriptor (TX4 k).2.2.1 = some (tyX4 k) := by decide +kernel
abbrev cX4_init : ByteArray := prog_6_method_1_code
def yX4_init : MethodName := ⟨RX4, "<init>", "(LWithEyesBound$Ring;)V"⟩
abbrev cX4_putHim : ByteArray := prog_6_method_2_code
def yX4_putHim : MethodName := ⟨RX4, "putHim", "(II)V"⟩
abbrev cX4_loseHim : ByteArray := prog_6_method_3_code
def yX4_loseHim : MethodName := ⟨RX4, "loseHim", "()V"⟩
abbrev cX4_keep : ByteArray := prog_6_method_4_code
def yX4_keep : MethodName := ⟨RX4, "keep", "()V"⟩
abbrev cX4_takeKept : ByteArray := prog_6_method_5_code
def yX4_takeKept : MethodName := ⟨RX4, "takeKept", "()V"⟩
abbrev cX4_aboveNought : ByteArray := prog_6_method_6_code
def yX4_aboveNought : MethodName := ⟨RX4, "aboveNought", "()I"⟩
abbrev cX4_total : ByteArray := prog_6_method_7_code
def yX4_total : MethodName := ⟨RX4, "total", "()J"⟩
abbrev cX4_ofCell : ByteArray := prog_6_method_8_code
def yX4_ofCell : MethodName := ⟨RX4, "ofCell", "(I)J"⟩
abbrev cX4_sumOfCell : ByteArray := prog_6_method_9_code
def yX4_sumOfCell : MethodName := ⟨RX4, "sumOfCell", "([JI)J"⟩
abbrev cX4_ofWay : ByteArray := prog_6_method_10_code
def yX4_ofWay : MethodName := ⟨RX4, "ofWay", "(I)J"⟩
abbrev cX4_bestCell : ByteArray := prog_6_method_11_code
def yX4_bestCell : MethodName := ⟨RX4, "bestCell", "()I"⟩
abbrev cX4_foretellTurn : ByteArray := prog_6_method_12_code
def yX4_foretellTurn : MethodName := ⟨RX4, "foretellTurn", "(I)V"⟩
abbrev cX4_foretellStep : ByteArray := prog_6_method_13_code
def yX4_foretellStep : MethodName := ⟨RX4, "foretellStep", "(III)V"⟩
abbrev cX4_walk : ByteArray := prog_6_method_14_code
def yX4_walk : MethodName := ⟨RX4, "walk", "(IIJI)V"⟩
abbrev cX4_foretellCall : ByteArray := prog_6_method_15_code
def yX4_foretellCall : MethodName := ⟨RX4, "foretellCall", "(II)V"⟩
abbrev cX4_hearFrom : ByteArray := prog_6_method_16_code
def yX4_hearFrom : MethodName := ⟨RX4, "hearFrom", "(IIIJ)V"⟩
abbrev cX4_clearOutcomes : ByteArray := prog_6_method_17_code
def yX4_clearOutcomes : MethodName := ⟨RX4, "clearOutcomes", "()V"⟩
abbrev cX4_add : ByteArray := prog_6_method_18_code
def yX4_add : MethodName := ⟨RX4, "add", "(IIIJ)V"⟩
abbrev cX4_narrowTo : ByteArray := prog_6_method_19_code
def yX4_narrowTo : MethodName := ⟨RX4, "narrowTo", "(I)I"⟩
abbrev cX4_likeliestOfAll : ByteArray := prog_6_method_20_code
def yX4_likeliestOfAll : MethodName := ⟨RX4, "likeliestOfAll", "()J"⟩
abbrev cX4_mixInto : ByteArray := prog_6_method_21_code
def yX4_mixInto : MethodName := ⟨RX4, "mixInto", "(J)J"⟩
def RX5 : String := "WithEyesBound$Page"
def TX5 : u_T := fun k => match k with
  | 0 => ("WithEyesBound$Page", "signs", "[C", true)
  | 1 => ("WithEyesBound$Page", "length", "I", false)
  | 2 => ("WithEyesBound$Page", "row", "I", false)
  | 3 => ("WithEyesBound$Page", "column", "I", false)
  | _ => ("WithEyesBound$Page", "width", "I", false)
def tyX5 : Nat → FieldType := fun k => match k with
  | 0 => .array .char
  | 1 => .int
  | 2 => .int
  | 3 => .int
  | _ => .int
abbrev wsX50 : List Cond := u_ws RX5 TX5 5
theorem nmX5 : ∀ a, a < 5 → ∀ b, b < 5 → a ≠ b → (TX5 a).2.1 ≠ (TX5 b).2.1 := by decide +kernel
theorem tyX5_ok : ∀ k, k < 5 → parseFieldDescriptor (TX5 k).2.2.1 = some (tyX5 k) := by decide +kernel
abbrev cX5_init : ByteArray := prog_7_method_1_code
def yX5_init : MethodName := ⟨RX5, "<init>", "()V"⟩
abbrev cX5_lettersIn : ByteArray := prog_7_method_2_code
def yX5_lettersIn : MethodName := ⟨RX5, "lettersIn", "(J)I"⟩
abbrev cX5_codeAt : ByteArray := prog_7_method_3_code
def yX5_codeAt : MethodName := ⟨RX5, "codeAt", "(JI)I"⟩
abbrev cX5_write : ByteArray := prog_7_method_4_code
def yX5_write : MethodName := ⟨RX5, "write", "(JI)V"⟩
abbrev cX5_kindAt : ByteArray := prog_7_method_5_code
def yX5_kindAt : MethodName := ⟨RX5, "kindAt", "(I)I"⟩
abbrev cX5_readOn : ByteArray := prog_7_method_6_code
def yX5_readOn : MethodName := ⟨RX5, "readOn", "()I"⟩
abbrev cX5_mayEndRow : ByteArray := prog_7_method_7_code
def yX5_mayEndRow : MethodName := ⟨RX5, "mayEndRow", "()Z"⟩
abbrev cX5_isWhole : ByteArray := prog_7_method_8_code
def yX5_isWhole : MethodName := ⟨RX5, "isWhole", "()Z"⟩
abbrev cX5_hasFree : ByteArray := prog_7_method_9_code
def yX5_hasFree : MethodName := ⟨RX5, "hasFree", "()Z"⟩
abbrev cX5_mixInto : ByteArray := prog_7_method_10_code
def yX5_mixInto : MethodName := ⟨RX5, "mixInto", "(J)J"⟩
def RX6 : String := "WithEyesBound$Player"
def TX6 : u_T := fun k => match k with
  | 0 => ("WithEyesBound$Player", "told", "I", false)
  | 1 => ("WithEyesBound$Player", "kept", "I", false)
  | 2 => ("WithEyesBound$Player", "at", "I", false)
  | 3 => ("WithEyesBound$Player", "size", "I", false)
  | 4 => ("WithEyesBound$Player", "cloth", "I", false)
  | _ => ("WithEyesBound$Player", "giggle", "I", false)
def tyX6 : Nat → FieldType := fun k => match k with
  | 0 => .int
  | 1 => .int
  | 2 => .int
  | 3 => .int
  | 4 => .int
  | _ => .int
abbrev wsX60 : List Cond := u_ws RX6 TX6 6
theorem nmX6 : ∀ a, a < 6 → ∀ b, b < 6 → a ≠ b → (TX6 a).2.1 ≠ (TX6 b).2.1 := by decide +kernel
theorem tyX6_ok : ∀ k, k < 6 → parseFieldDescriptor (TX6 k).2.2.1 = some (tyX6 k) := by decide +kernel
abbrev cX6_init : ByteArray := prog_8_method_1_code
def yX6_init : MethodName := ⟨RX6, "<init>", "()V"⟩
abbrev cX6_kind : ByteArray := prog_8_method_2_code
def yX6_kind : MethodName := ⟨RX6, "kind", "()I"⟩
abbrev cX6_goOn : ByteArray := prog_8_method_3_code
def yX6_goOn : MethodName := ⟨RX6, "goOn", "(LWithEyesBound$Ring;III)V"⟩
abbrev cX6_callsFrom : ByteArray := prog_8_method_4_code
def yX6_callsFrom : MethodName := ⟨RX6, "callsFrom", "(LWithEyesBound$Ring;)I"⟩
abbrev cX6_isCaught : ByteArray := prog_8_method_5_code
def yX6_isCaught : MethodName := ⟨RX6, "isCaught", "(LWithEyesBound$Round;)Z"⟩
abbrev cX6_detail : ByteArray := prog_8_method_6_code
def yX6_detail : MethodName := ⟨RX6, "detail", "(I)I"⟩
def RX7 : String := "WithEyesBound$Ring"
def TX7 : u_T := fun k => match k with
  | 0 => ("WithEyesBound$Ring", "kinds", "[I", true)
  | 1 => ("WithEyesBound$Ring", "rows", "[I", true)
  | 2 => ("WithEyesBound$Ring", "columns", "[I", true)
  | 3 => ("WithEyesBound$Ring", "beside", "[I", true)
  | 4 => ("WithEyesBound$Ring", "size", "I", false)
  | _ => ("WithEyesBound$Ring", "free", "I", false)
def tyX7 : Nat → FieldType := fun k => match k with
  | 0 => .array .int
  | 1 => .array .int
  | 2 => .array .int
  | 3 => .array .int
  | 4 => .int
  | _ => .int
abbrev wsX70 : List Cond := u_ws RX7 TX7 6
theorem nmX7 : ∀ a, a < 6 → ∀ b, b < 6 → a ≠ b → (TX7 a).2.1 ≠ (TX7 b).2.1 := by decide +kernel
theorem tyX7_ok : ∀ k, k < 6 → parseFieldDescriptor (TX7 k).2.2.1 = some (tyX7 k) := by decide +kernel
abbrev cX7_init : ByteArray := prog_9_method_1_code
def yX7_init : MethodName := ⟨RX7, "<init>", "()V"⟩
abbrev cX7_readFrom : ByteArray := prog_9_method_2_code
def yX7_readFrom : MethodName := ⟨RX7, "readFrom", "(LWithEyesBound$Page;)V"⟩
abbrev cX7_put : ByteArray := prog_9_method_3_code
def yX7_put : MethodName := ⟨RX7, "put", "(III)V"⟩
abbrev cX7_findBeside : ByteArray := prog_9_method_4_code
def yX7_findBeside : MethodName := ⟨RX7, "findBeside", "(II)V"⟩
abbrev cX7_isRead : ByteArray := prog_9_method_5_code
def yX7_isRead : MethodName := ⟨RX7, "isRead", "()Z"⟩
abbrev cX7_has : ByteArray := prog_9_method_6_code
def yX7_has : MethodName := ⟨RX7, "has", "(I)Z"⟩
abbrev cX7_kindOf : ByteArray := prog_9_method_7_code
def yX7_kindOf : MethodName := ⟨RX7, "kindOf", "(I)I"⟩
abbrev cX7_isFree : ByteArray := prog_9_method_8_code
def yX7_isFree : MethodName := ⟨RX7, "isFree", "(I)Z"⟩
abbrev cX7_firstFree : ByteArray := prog_9_method_9_code
def yX7_firstFree : MethodName := ⟨RX7, "firstFree", "()I"⟩
abbrev cX7_ahead : ByteArray := prog_9_method_10_code
def yX7_ahead : MethodName := ⟨RX7, "ahead", "(II)I"⟩
abbrev cX7_rowOf : ByteArray := prog_9_method_11_code
def yX7_rowOf : MethodName := ⟨RX7, "rowOf", "(I)I"⟩
abbrev cX7_columnOf : ByteArray := prog_9_method_12_code
def yX7_columnOf : MethodName := ⟨RX7, "columnOf", "(I)I"⟩
abbrev cX7_apart : ByteArray := prog_9_method_13_code
def yX7_apart : MethodName := ⟨RX7, "apart", "(III)I"⟩
abbrev cX7_wayTo : ByteArray := prog_9_method_14_code
def yX7_wayTo : MethodName := ⟨RX7, "wayTo", "(II)I"⟩
abbrev cX7_choose : ByteArray := prog_9_method_15_code
def yX7_choose : MethodName := ⟨RX7, "choose", "(IIII)I"⟩
abbrev cX7_mixInto : ByteArray := prog_9_method_16_code
def yX7_mixInto : MethodName := ⟨RX7, "mixInto", "(J)J"⟩
def RX8 : String := "WithEyesBound$Round"
def TX8 : u_T := fun k => match k with
  | 0 => ("WithEyesBound$Round", "ring", "LWithEyesBound$Ring;", true)
  | 1 => ("WithEyesBound$Round", "players", "[LWithEyesBound$Player;", true)
  | 2 => ("WithEyesBound$Round", "firstCell", "I", false)
  | 3 => ("WithEyesBound$Round", "firstWay", "I", false)
  | 4 => ("WithEyesBound$Round", "drift", "I", false)
  | 5 => ("WithEyesBound$Round", "tenths", "I", false)
  | 6 => ("WithEyesBound$Round", "hisCell", "I", false)
  | 7 => ("WithEyesBound$Round", "hisWay", "I", false)
  | 8 => ("WithEyesBound$Round", "tenth", "I", false)
  | 9 => ("WithEyesBound$Round", "touched", "I", false)
  | _ => ("WithEyesBound$Round", "seed", "J", false)
def tyX8 : Nat → FieldType := fun k => match k with
  | 0 => .object "WithEyesBound$Ring"
  | 1 => .array (.object "WithEyesBound$Player")
  | 2 => .int
  | 3 => .int
  | 4 => .int
  | 5 => .int
  | 6 => .int
  | 7 => .int
  | 8 => .int
  | 9 => .int
  | _ => .long
abbrev wsX80 : List Cond := u_ws RX8 TX8 11
theorem nmX8 : ∀ a, a < 11 → ∀ b, b < 11 → a ≠ b → (TX8 a).2.1 ≠ (TX8 b).2.1 := by decide +kernel
theorem tyX8_ok : ∀ k, k < 11 → parseFieldDescriptor (TX8 k).2.2.1 = some (tyX8 k) := by decide +kernel
abbrev cX8_init : ByteArray := prog_10_method_1_code
def yX8_init : MethodName := ⟨RX8, "<init>", "(LWithEyesBound$Ring;[LWithEyesBound$Player;)V"⟩
abbrev cX8_begin : ByteArray := prog_10_method_2_code
def yX8_begin : MethodName := ⟨RX8, "begin", "(IIII)V"⟩
abbrev cX8_play : ByteArray := prog_10_method_3_code
def yX8_play : MethodName := ⟨RX8, "play", "(I)V"⟩
abbrev cX8_outcome : ByteArray := prog_10_method_4_code
def yX8_outcome : MethodName := ⟨RX8, "outcome", "(I)I"⟩
abbrev cX8_seedsThatTouch : ByteArray := prog_10_method_5_code
def yX8_seedsThatTouch : MethodName := ⟨RX8, "seedsThatTouch", "(III)I"⟩
abbrev cX8_draw : ByteArray := prog_10_method_6_code
def yX8_draw : MethodName := ⟨RX8, "draw", "()I"⟩
abbrev cX8_playersGo : ByteArray := prog_10_method_7_code
def yX8_playersGo : MethodName := ⟨RX8, "playersGo", "()V"⟩
abbrev cX8_lookToCall : ByteArray := prog_10_method_8_code
def yX8_lookToCall : MethodName := ⟨RX8, "lookToCall", "()V"⟩
abbrev cX8_heGoes : ByteArray := prog_10_method_9_code
def yX8_heGoes : MethodName := ⟨RX8, "heGoes", "()V"⟩
abbrev cX8_touch : ByteArray := prog_10_method_10_code
def yX8_touch : MethodName := ⟨RX8, "touch", "()V"⟩
def RX9 : String := "WithEyesBound$Shy"
def TX9 : u_T := fun k => match k with
  | 0 => ("WithEyesBound$Player", "told", "I", false)
  | 1 => ("WithEyesBound$Player", "kept", "I", false)
  | 2 => ("WithEyesBound$Player", "at", "I", false)
  | 3 => ("WithEyesBound$Player", "size", "I", false)
  | 4 => ("WithEyesBound$Player", "cloth", "I", false)
  | _ => ("WithEyesBound$Player", "giggle", "I", false)
def tyX9 : Nat → FieldType := fun k => match k with
  | 0 => .int
  | 1 => .int
  | 2 => .int
  | 3 => .int
  | 4 => .int
  | _ => .int
abbrev wsX90 : List Cond := u_ws RX9 TX9 6
theorem nmX9 : ∀ a, a < 6 → ∀ b, b < 6 → a ≠ b → (TX9 a).2.1 ≠ (TX9 b).2.1 := by decide +kernel
theorem tyX9_ok : ∀ k, k < 6 → parseFieldDescriptor (TX9 k).2.2.1 = some (tyX9 k) := by decide +kernel
abbrev cX9_init : ByteArray := prog_11_method_1_code
def yX9_init : MethodName := ⟨RX9, "<init>", "()V"⟩
abbrev cX9_kind : ByteArray := prog_11_method_2_code
def yX9_kind : MethodName := ⟨RX9, "kind", "()I"⟩
abbrev cX9_goOn : ByteArray := prog_11_method_3_code
def yX9_goOn : MethodName := ⟨RX9, "goOn", "(LWithEyesBound$Ring;III)V"⟩
def RX10 : String := "WithEyesBound$Small"
def TX10 : u_T := fun k => match k with
  | 0 => ("WithEyesBound$Player", "told", "I", false)
  | 1 => ("WithEyesBound$Player", "kept", "I", false)
  | 2 => ("WithEyesBound$Player", "at", "I", false)
  | 3 => ("WithEyesBound$Player", "size", "I", false)
  | 4 => ("WithEyesBound$Player", "cloth", "I", false)
  | _ => ("WithEyesBound$Player", "giggle", "I", false)
def tyX10 : Nat → FieldType := fun k => match k with
  | 0 => .int
  | 1 => .int
  | 2 => .int
  | 3 => .int
  | 4 => .int
  | _ => .int
abbrev wsX100 : List Cond := u_ws RX10 TX10 6
theorem nmX10 : ∀ a, a < 6 → ∀ b, b < 6 → a ≠ b → (TX10 a).2.1 ≠ (TX10 b).2.1 := by decide +kernel
theorem tyX10_ok : ∀ k, k < 6 → parseFieldDescriptor (TX10 k).2.2.1 = some (tyX10 k) := by decide +kernel
abbrev cX10_init : ByteArray := prog_12_method_1_code
def yX10_init : MethodName := ⟨RX10, "<init>", "()V"⟩
abbrev cX10_kind : ByteArray := prog_12_method_2_code
def yX10_kind : MethodName := ⟨RX10, "kind", "()I"⟩
abbrev cX10_isCaught : ByteArray := prog_12_method_3_code
def yX10_isCaught : MethodName := ⟨RX10, "isCaught", "(LWithEyesBound$Round;)Z"⟩
def RX11 : String := "WithEyesBound"
def TX11 : u_T := fun k => match k with
  | 0 => ("WithEyesBound", "page", "LWithEyesBound$Page;", true)
  | 1 => ("WithEyesBound", "ring", "LWithEyesBound$Ring;", true)
  | 2 => ("WithEyesBound", "odds", "LWithEyesBound$Odds;", true)
  | 3 => ("WithEyesBound", "players", "[LWithEyesBound$Player;", true)
  | 4 => ("WithEyesBound", "round", "LWithEyesBound$Round;", true)
  | 5 => ("WithEyesBound", "naming", "LWithEyesBound$Naming;", true)
  | 6 => ("WithEyesBound", "playing", "I", false)
  | 7 => ("WithEyesBound", "ringsRead", "I", false)
  | 8 => ("WithEyesBound", "standsDone", "I", false)
  | _ => ("WithEyesBound", "imageKept", "Z", false)
def tyX11 : Nat → FieldType := fun k => match k with
  | 0 => .object "WithEyesBound$Page"
  | 1 => .object "WithEyesBound$Ring"
  | 2 => .object "WithEyesBound$Odds"
  | 3 => .array (.object "WithEyesBound$Player")
  | 4 => .object "WithEyesBound$Round"
  | 5 => .object "WithEyesBound$Naming"
  | 6 => .int
  | 7 => .int
  | 8 => .int
  | _ => .boolean
abbrev wsX110 : List Cond := u_ws RX11 TX11 10
theorem nmX11 : ∀ a, a < 10 → ∀ b, b < 10 → a ≠ b → (TX11 a).2.1 ≠ (TX11 b).2.1 := by decide +kernel
theorem tyX11_ok : ∀ k, k < 10 → parseFieldDescriptor (TX11 k).2.2.1 = some (tyX11 k) := by decide +kernel
abbrev cX11_init : ByteArray := prog_1_method_1_code
def yX11_init : MethodName := ⟨RX11, "<init>", "()V"⟩
abbrev cX11_letters : ByteArray := prog_1_method_2_code
def yX11_letters : MethodName := ⟨RX11, "letters", "(J)I"⟩
abbrev cX11_blank : ByteArray := prog_1_method_3_code
def yX11_blank : MethodName := ⟨RX11, "blank", "()I"⟩
abbrev cX11_fault : ByteArray := prog_1_method_4_code
def yX11_fault : MethodName := ⟨RX11, "fault", "()I"⟩
abbrev cX11_ring : ByteArray := prog_1_method_5_code
def yX11_ring : MethodName := ⟨RX11, "ring", "()I"⟩
abbrev cX11_cell : ByteArray := prog_1_method_6_code
def yX11_cell : MethodName := ⟨RX11, "cell", "(I)I"⟩
abbrev cX11_set : ByteArray := prog_1_method_7_code
def yX11_set : MethodName := ⟨RX11, "set", "(II)I"⟩
abbrev cX11_lost : ByteArray := prog_1_method_8_code
def yX11_lost : MethodName := ⟨RX11, "lost", "()I"⟩
abbrev cX11_turned : ByteArray := prog_1_method_9_code
def yX11_turned : MethodName := ⟨RX11, "turned", "(I)I"⟩
abbrev cX11_step : ByteArray := prog_1_method_10_code
def yX11_step : MethodName := ⟨RX11, "step", "(II)I"⟩
abbrev cX11_heard : ByteArray := prog_1_method_11_code
def yX11_heard : MethodName := ⟨RX11, "heard", "(III)I"⟩
abbrev cX11_odds : ByteArray := prog_1_method_12_code
def yX11_odds : MethodName := ⟨RX11, "odds", "(II)J"⟩
abbrev cX11_ways : ByteArray := prog_1_method_13_code
def yX11_ways : MethodName := ⟨RX11, "ways", "(II)J"⟩
abbrev cX11_likeliest : ByteArray := prog_1_method_14_code
def yX11_likeliest : MethodName := ⟨RX11, "likeliest", "()I"⟩
abbrev cX11_knows : ByteArray := prog_1_method_15_code
def yX11_knows : MethodName := ⟨RX11, "knows", "(I)J"⟩
abbrev cX11_expected : ByteArray := prog_1_method_16_code
def yX11_expected : MethodName := ⟨RX11, "expected", "(IIIII)J"⟩
abbrev cX11_next : ByteArray := prog_1_method_17_code
def yX11_next : MethodName := ⟨RX11, "next", "(III)I"⟩
abbrev cX11_post : ByteArray := prog_1_method_18_code
def yX11_post : MethodName := ⟨RX11, "post", "(III)J"⟩
abbrev cX11_player : ByteArray := prog_1_method_19_code
def yX11_player : MethodName := ⟨RX11, "player", "(IIIII)I"⟩
abbrev cX11_as : ByteArray := prog_1_method_20_code
def yX11_as : MethodName := ⟨RX11, "as", "(II)I"⟩
abbrev cX11_about : ByteArray := prog_1_method_21_code
def yX11_about : MethodName := ⟨RX11, "about", "(II)I"⟩
abbrev cX11_move : ByteArray := prog_1_method_22_code
def yX11_move : MethodName := ⟨RX11, "move", "(II)I"⟩
abbrev cX11_game : ByteArray := prog_1_method_23_code
def yX11_game : MethodName := ⟨RX11, "game", "(IIIIII)I"⟩
abbrev cX11_lasts : ByteArray := prog_1_method_24_code
def yX11_lasts : MethodName := ⟨RX11, "lasts", "(IIIII)I"⟩
abbrev cX11_stand : ByteArray := prog_1_method_25_code
def yX11_stand : MethodName := ⟨RX11, "stand", "(IIIIII)I"⟩
abbrev cX11_feels : ByteArray := prog_1_method_26_code
def yX11_feels : MethodName := ⟨RX11, "feels", "(III)I"⟩
abbrev cX11_jackets : ByteArray := prog_1_method_27_code
def yX11_jackets : MethodName := ⟨RX11, "jackets", "(III)I"⟩
abbrev cX11_named : ByteArray := prog_1_method_28_code
def yX11_named : MethodName := ⟨RX11, "named", "(IIIII)I"⟩
abbrev cX11_says : ByteArray := prog_1_method_29_code
def yX11_says : MethodName := ⟨RX11, "says", "(III)I"⟩
abbrev cX11_when : ByteArray := prog_1_method_30_code
def yX11_when : MethodName := ⟨RX11, "when", "(IIIII)I"⟩
abbrev cX11_image : ByteArray := prog_1_method_31_code
def yX11_image : MethodName := ⟨RX11, "image", "()I"⟩
abbrev cX11_restore : ByteArray := prog_1_method_32_code
def yX11_restore : MethodName := ⟨RX11, "restore", "()I"⟩
abbrev cX11_count : ByteArray := prog_1_method_33_code
def yX11_count : MethodName := ⟨RX11, "count", "(I)I"⟩
abbrev cX11_digest : ByteArray := prog_1_method_34_code
def yX11_digest : MethodName := ⟨RX11, "digest", "()J"⟩
abbrev cX11_isWithin : ByteArray := prog_1_method_35_code
def yX11_isWithin : MethodName := ⟨RX11, "isWithin", "(II)Z"⟩
abbrev cX11_mayStart : ByteArray := prog_1_method_36_code
def yX11_mayStart : MethodName := ⟨RX11, "mayStart", "(IIII)Z"⟩
abbrev cX11_couldBeFelt : ByteArray := prog_1_method_37_code
def yX11_couldBeFelt : MethodName := ⟨RX11, "couldBeFelt", "(III)Z"⟩
abbrev cX11_mixed : ByteArray := prog_1_method_38_code
def yX11_mixed : MethodName := ⟨RX11, "mixed", "(JJ)J"⟩
abbrev cX11_commonDivisor : ByteArray := prog_1_method_39_code
def yX11_commonDivisor : MethodName := ⟨RX11, "commonDivisor", "(JJ)J"⟩
abbrev cX11_term : ByteArray := prog_1_method_40_code
def yX11_term : MethodName := ⟨RX11, "term", "(JJI)J"⟩
abbrev cX11_sixtiethsExpected : ByteArray := prog_1_method_41_code
def yX11_sixtiethsExpected : MethodName := ⟨RX11, "sixtiethsExpected", "(IIII)J"⟩
abbrev cX11_bestDoing : ByteArray := prog_1_method_42_code
def yX11_bestDoing : MethodName := ⟨RX11, "bestDoing", "(III)I"⟩
abbrev cX11_playerOf : ByteArray := prog_1_method_43_code
def yX11_playerOf : MethodName := ⟨RX11, "playerOf", "(I)LWithEyesBound$Player;"⟩
abbrev cX11_playerOfKind : ByteArray := prog_1_method_44_code
def yX11_playerOfKind : MethodName := ⟨RX11, "playerOfKind", "(I)LWithEyesBound$Player;"⟩
abbrev cX11_isOfKind : ByteArray := prog_1_method_45_code
def yX11_isOfKind : MethodName := ⟨RX11, "isOfKind", "(LWithEyesBound$Player;I)Z"⟩
def RX12 : String := "WithEyesBoundModel"
def TX12 : u_T := fun k => match k with
  | 0 => ("WithEyesBoundModel", "rows", "I", false)
  | 1 => ("WithEyesBoundModel", "columns", "I", false)
  | 2 => ("WithEyesBoundModel", "rings", "I", false)
  | 3 => ("WithEyesBoundModel", "cellOf", "[I", true)
  | 4 => ("WithEyesBoundModel", "weight", "[J", true)
  | 5 => ("WithEyesBoundModel", "then", "[J", true)
  | 6 => ("WithEyesBoundModel", "updates", "I", false)
  | 7 => ("WithEyesBoundModel", "players", "I", false)
  | 8 => ("WithEyesBoundModel", "kindOf", "[I", true)
  | 9 => ("WithEyesBoundModel", "placeOf", "[I", true)
  | 10 => ("WithEyesBoundModel", "sizeOf", "[I", true)
  | 11 => ("WithEyesBoundModel", "clothOf", "[I", true)
  | 12 => ("WithEyesBoundModel", "giggleOf", "[I", true)
  | 13 => ("WithEyesBoundModel", "unsure", "I", false)
  | 14 => ("WithEyesBoundModel", "clothRight", "I", false)
  | 15 => ("WithEyesBoundModel", "giggleRight", "I", false)
  | 16 => ("WithEyesBoundModel", "jacketA", "I", false)
  | 17 => ("WithEyesBoundModel", "jacketB", "I", false)
  | 18 => ("WithEyesBoundModel", "jacketTenths", "I", false)
  | 19 => ("WithEyesBoundModel", "asks", "I", false)
  | 20 => ("WithEyesBoundModel", "pageLength", "I", false)
  | 21 => ("WithEyesBoundModel", "page", "[B", true)
  | 22 => ("WithEyesBoundModel", "isKept", "Z", false)
  | 23 => ("WithEyesBoundModel", "keptRing", "I", false)
  | 24 => ("WithEyesBoundModel", "keptPlayers", "I", false)
  | 25 => ("WithEyesBoundModel", "keptUpdates", "I", false)
  | 26 => ("WithEyesBoundModel", "keptA", "I", false)
  | 27 => ("WithEyesBoundModel", "keptB", "I", false)
  | 28 => ("WithEyesBoundModel", "keptTenths", "I", false)
  | 29 => ("WithEyesBoundModel", "keptWeight", "[J", true)
  | 30 => ("WithEyesBoundModel", "keptPlace", "[I", true)
  | 31 => ("WithEyesBoundModel", "faultAt", "I", false)
  | 32 => ("WithEyesBoundModel", "isWhole", "Z", false)
  | 33 => ("WithEyesBoundModel", "newRows", "I", false)
  | 34 => ("WithEyesBoundModel", "newColumns", "I", false)
  | 35 => ("WithEyesBoundModel", "newCell", "[I", true)
  | 36 => ("WithEyesBoundModel", "gonePost", "I", false)
  | 37 => ("WithEyesBoundModel", "his", "I", false)
  | 38 => ("WithEyesBoundModel", "looks", "I", false)
  | 39 => ("WithEyesBoundModel", "seedNow", "J", false)
  | 40 => ("WithEyesBoundModel", "place", "[I", true)
  | 41 => ("WithEyesBoundModel", "touched", "I", false)
  | 42 => ("WithEyesBoundModel", "touchedAt", "I", false)
  | _ => ("WithEyesBoundModel", "h", "J", false)
def tyX12 : Nat → FieldType := fun k => match k with
  | 0 => .int
  | 1 => .int
  | 2 => .int
  | 3 => .array .int
  | 4 => .array .long
  | 5 => .array .long
  | 6 => .int
  | 7 => .int
  | 8 => .array .int
  | 9 => .array .int
  | 10 => .array .int
  | 11 => .array .int
  | 12 => .array .int
  | 13 => .int
  | 14 => .int
  | 15 => .int
  | 16 => .int
  | 17 => .int
  | 18 => .int
  | 19 => .int
  | 20 => .int
  | 21 => .array .byte
  | 22 => .boolean
  | 23 => .int
  | 24 => .int
  | 25 => .int
  | 26 => .int
  | 27 => .int
  | 28 => .int
  | 29 => .array .long
  | 30 => .array .int
  | 31 => .int
  | 32 => .boolean
  | 33 => .int
  | 34 => .int
  | 35 => .array .int
  | 36 => .int
  | 37 => .int
  | 38 => .int
  | 39 => .long
  | 40 => .array .int
  | 41 => .int
  | 42 => .int
  | _ => .long
abbrev wsX120 : List Cond := u_ws RX12 TX12 44
theorem nmX12 : ∀ a, a < 44 → ∀ b, b < 44 → a ≠ b → (TX12 a).2.1 ≠ (TX12 b).2.1 := by decide +kernel
theorem tyX12_ok : ∀ k, k < 44 → parseFieldDescriptor (TX12 k).2.2.1 = some (tyX12 k) := by decide +kernel
abbrev cX12_init : ByteArray := prog_14_method_1_code
def yX12_init : MethodName := ⟨RX12, "<init>", "()V"⟩
abbrev cX12_within : ByteArray := prog_14_method_3_code
def yX12_within : MethodName := ⟨RX12, "within", "(III)Z"⟩
abbrev cX12_size : ByteArray := prog_14_method_4_code
def yX12_size : MethodName := ⟨RX12, "size", "(I)I"⟩
abbrev cX12_divisor : ByteArray := prog_14_method_5_code
def yX12_divisor : MethodName := ⟨RX12, "divisor", "(JJ)J"⟩
abbrev cX12_lowest : ByteArray := prog_14_method_6_code
def yX12_lowest : MethodName := ⟨RX12, "lowest", "(JJI)J"⟩
abbrev cX12_letters : ByteArray := prog_14_method_7_code
def yX12_letters : MethodName := ⟨RX12, "letters", "(J)I"⟩
abbrev cX12_blank : ByteArray := prog_14_method_8_code
def yX12_blank : MethodName := ⟨RX12, "blank", "()I"⟩
abbrev cX12_sortOf : ByteArray := prog_14_method_9_code
def yX12_sortOf : MethodName := ⟨RX12, "sortOf", "(I)I"⟩
abbrev cX12_readPage : ByteArray := prog_14_method_10_code
def yX12_readPage : MethodName := ⟨RX12, "readPage", "()V"⟩
abbrev cX12_fault : ByteArray := prog_14_method_11_code
def yX12_fault : MethodName := ⟨RX12, "fault", "()I"⟩
abbrev cX12_ring : ByteArray := prog_14_method_12_code
def yX12_ring : MethodName := ⟨RX12, "ring", "()I"⟩
abbrev cX12_cells : ByteArray := prog_14_method_13_code
def yX12_cells : MethodName := ⟨RX12, "cells", "()I"⟩
abbrev cX12_isCell : ByteArray := prog_14_method_14_code
def yX12_isCell : MethodName := ⟨RX12, "isCell", "(I)Z"⟩
abbrev cX12_isFree : ByteArray := prog_14_method_15_code
def yX12_isFree : MethodName := ⟨RX12, "isFree", "(I)Z"⟩
abbrev cX12_cell : ByteArray := prog_14_method_16_code
def yX12_cell : MethodName := ⟨RX12, "cell", "(I)I"⟩
abbrev cX12_on : ByteArray := prog_14_method_17_code
def yX12_on : MethodName := ⟨RX12, "on", "(II)I"⟩
abbrev cX12_isWay : ByteArray := prog_14_method_18_code
def yX12_isWay : MethodName := ⟨RX12, "isWay", "(I)Z"⟩
abbrev cX12_clear : ByteArray := prog_14_method_19_code
def yX12_clear : MethodName := ⟨RX12, "clear", "()V"⟩
abbrev cX12_layLost : ByteArray := prog_14_method_20_code
def yX12_layLost : MethodName := ⟨RX12, "layLost", "()I"⟩
abbrev cX12_set : ByteArray := prog_14_method_21_code
def yX12_set : MethodName := ⟨RX12, "set", "(II)I"⟩
abbrev cX12_lost : ByteArray := prog_14_method_22_code
def yX12_lost : MethodName := ⟨RX12, "lost", "()I"⟩
abbrev cX12_above : ByteArray := prog_14_method_23_code
def yX12_above : MethodName := ⟨RX12, "above", "()I"⟩
abbrev cX12_take : ByteArray := prog_14_method_24_code
def yX12_take : MethodName := ⟨RX12, "take", "()I"⟩
abbrev cX12_turned : ByteArray := prog_14_method_25_code
def yX12_turned : MethodName := ⟨RX12, "turned", "(I)I"⟩
abbrev cX12_sortAt : ByteArray := prog_14_method_26_code
def yX12_sortAt : MethodName := ⟨RX12, "sortAt", "(I)I"⟩
abbrev cX12_feltOf : ByteArray := prog_14_method_27_code
def yX12_feltOf : MethodName := ⟨RX12, "feltOf", "(I)I"⟩
abbrev cX12_stepOne : ByteArray := prog_14_method_28_code
def yX12_stepOne : MethodName := ⟨RX12, "stepOne", "(IIII)V"⟩
abbrev cX12_layStep : ByteArray := prog_14_method_29_code
def yX12_layStep : MethodName := ⟨RX12, "layStep", "(III)V"⟩
abbrev cX12_step : ByteArray := prog_14_method_30_code
def yX12_step : MethodName := ⟨RX12, "step", "(II)I"⟩
abbrev cX12_liesFrom : ByteArray := prog_14_method_31_code
def yX12_liesFrom : MethodName := ⟨RX12, "liesFrom", "(II)I"⟩
abbrev cX12_layHeard : ByteArray := prog_14_method_32_code
def yX12_layHeard : MethodName := ⟨RX12, "layHeard", "(III)V"⟩
abbrev cX12_heard : ByteArray := prog_14_method_33_code
def yX12_heard : MethodName := ⟨RX12, "heard", "(III)I"⟩
abbrev cX12_all : ByteArray := prog_14_method_34_code
def yX12_all : MethodName := ⟨RX12, "all", "()J"⟩
abbrev cX12_ofCell : ByteArray := prog_14_method_35_code
def yX12_ofCell : MethodName := ⟨RX12, "ofCell", "(I)J"⟩
abbrev cX12_isPart : ByteArray := prog_14_method_36_code
def yX12_isPart : MethodName := ⟨RX12, "isPart", "(I)Z"⟩
abbrev cX12_odds : ByteArray := prog_14_method_37_code
def yX12_odds : MethodName := ⟨RX12, "odds", "(II)J"⟩
abbrev cX12_ways : ByteArray := prog_14_method_38_code
def yX12_ways : MethodName := ⟨RX12, "ways", "(II)J"⟩
abbrev cX12_likeliestNow : ByteArray := prog_14_method_39_code
def yX12_likeliestNow : MethodName := ⟨RX12, "likeliestNow", "()I"⟩
abbrev cX12_likeliest : ByteArray := prog_14_method_40_code
def yX12_likeliest : MethodName := ⟨RX12, "likeliest", "()I"⟩
abbrev cX12_knows : ByteArray := prog_14_method_41_code
def yX12_knows : MethodName := ⟨RX12, "knows", "(I)J"⟩
abbrev cX12_greatestThen : ByteArray := prog_14_method_42_code
def yX12_greatestThen : MethodName := ⟨RX12, "greatestThen", "()J"⟩
abbrev cX12_expectedNow : ByteArray := prog_14_method_43_code
def yX12_expectedNow : MethodName := ⟨RX12, "expectedNow", "(IIII)J"⟩
abbrev cX12_areMany : ByteArray := prog_14_method_44_code
def yX12_areMany : MethodName := ⟨RX12, "areMany", "()Z"⟩
abbrev cX12_expected : ByteArray := prog_14_method_45_code
def yX12_expected : MethodName := ⟨RX12, "expected", "(IIIII)J"⟩
abbrev cX12_next : ByteArray := prog_14_method_46_code
def yX12_next : MethodName := ⟨RX12, "next", "(III)I"⟩
abbrev cX12_post : ByteArray := prog_14_method_47_code
def yX12_post : MethodName := ⟨RX12, "post", "(III)J"⟩
abbrev cX12_isPlayer : ByteArray := prog_14_method_48_code
def yX12_isPlayer : MethodName := ⟨RX12, "isPlayer", "(I)Z"⟩
abbrev cX12_player : ByteArray := prog_14_method_49_code
def yX12_player : MethodName := ⟨RX12, "player", "(IIIII)I"⟩
abbrev cX12_as : ByteArray := prog_14_method_50_code
def yX12_as : MethodName := ⟨RX12, "as", "(II)I"⟩
abbrev cX12_playerTold : ByteArray := prog_14_method_51_code
def yX12_playerTold : MethodName := ⟨RX12, "playerTold", "(II)I"⟩
abbrev cX12_about : ByteArray := prog_14_method_52_code
def yX12_about : MethodName := ⟨RX12, "about", "(II)I"⟩
abbrev cX12_move : ByteArray := prog_14_method_53_code
def yX12_move : MethodName := ⟨RX12, "move", "(II)I"⟩
abbrev cX12_draw : ByteArray := prog_14_method_54_code
def yX12_draw : MethodName := ⟨RX12, "draw", "(I)I"⟩
abbrev cX12_far : ByteArray := prog_14_method_55_code
def yX12_far : MethodName := ⟨RX12, "far", "(III)I"⟩
abbrev cX12_goes : ByteArray := prog_14_method_56_code
def yX12_goes : MethodName := ⟨RX12, "goes", "(IIIZ)I"⟩
abbrev cX12_goPlayers : ByteArray := prog_14_method_57_code
def yX12_goPlayers : MethodName := ⟨RX12, "goPlayers", "()V"⟩
abbrev cX12_callOf : ByteArray := prog_14_method_58_code
def yX12_callOf : MethodName := ⟨RX12, "callOf", "(I)I"⟩
abbrev cX12_nearestCall : ByteArray := prog_14_method_59_code
def yX12_nearestCall : MethodName := ⟨RX12, "nearestCall", "()I"⟩
abbrev cX12_goHim : ByteArray := prog_14_method_60_code
def yX12_goHim : MethodName := ⟨RX12, "goHim", "(II)V"⟩
abbrev cX12_touchedNow : ByteArray := prog_14_method_61_code
def yX12_touchedNow : MethodName := ⟨RX12, "touchedNow", "()I"⟩
abbrev cX12_play : ByteArray := prog_14_method_62_code
def yX12_play : MethodName := ⟨RX12, "play", "(IIIII)V"⟩
abbrev cX12_game : ByteArray := prog_14_method_63_code
def yX12_game : MethodName := ⟨RX12, "game", "(IIIIII)I"⟩
abbrev cX12_lasts : ByteArray := prog_14_method_64_code
def yX12_lasts : MethodName := ⟨RX12, "lasts", "(IIIII)I"⟩
abbrev cX12_stand : ByteArray := prog_14_method_65_code
def yX12_stand : MethodName := ⟨RX12, "stand", "(IIIIII)I"⟩
abbrev cX12_feels : ByteArray := prog_14_method_66_code
def yX12_feels : MethodName := ⟨RX12, "feels", "(III)I"⟩
abbrev cX12_jackets : ByteArray := prog_14_method_67_code
def yX12_jackets : MethodName := ⟨RX12, "jackets", "(III)I"⟩
abbrev cX12_byCloth : ByteArray := prog_14_method_68_code
def yX12_byCloth : MethodName := ⟨RX12, "byCloth", "(II)I"⟩
abbrev cX12_likely : ByteArray := prog_14_method_69_code
def yX12_likely : MethodName := ⟨RX12, "likely", "(IIII)I"⟩
abbrev cX12_likelyAll : ByteArray := prog_14_method_70_code
def yX12_likelyAll : MethodName := ⟨RX12, "likelyAll", "(III)I"⟩
abbrev cX12_isFelt : ByteArray := prog_14_method_71_code
def yX12_isFelt : MethodName := ⟨RX12, "isFelt", "(III)Z"⟩
abbrev cX12_named : ByteArray := prog_14_method_72_code
def yX12_named : MethodName := ⟨RX12, "named", "(IIIII)I"⟩
abbrev cX12_saysNow : ByteArray := prog_14_method_73_code
def yX12_saysNow : MethodName := ⟨RX12, "saysNow", "(III)I"⟩
abbrev cX12_says : ByteArray := prog_14_method_74_code
def yX12_says : MethodName := ⟨RX12, "says", "(III)I"⟩
abbrev cX12_when : ByteArray := prog_14_method_75_code
def yX12_when : MethodName := ⟨RX12, "when", "(IIIII)I"⟩
abbrev cX12_image : ByteArray := prog_14_method_76_code
def yX12_image : MethodName := ⟨RX12, "image", "()I"⟩
abbrev cX12_restore : ByteArray := prog_14_method_77_code
def yX12_restore : MethodName := ⟨RX12, "restore", "()I"⟩
abbrev cX12_freeMany : ByteArray := prog_14_method_78_code
def yX12_freeMany : MethodName := ⟨RX12, "freeMany", "()I"⟩
abbrev cX12_howMany : ByteArray := prog_14_method_79_code
def yX12_howMany : MethodName := ⟨RX12, "howMany", "(I)I"⟩
abbrev cX12_count : ByteArray := prog_14_method_80_code
def yX12_count : MethodName := ⟨RX12, "count", "(I)I"⟩
abbrev cX12_mix : ByteArray := prog_14_method_81_code
def yX12_mix : MethodName := ⟨RX12, "mix", "(J)V"⟩
abbrev cX12_mixGame : ByteArray := prog_14_method_82_code
def yX12_mixGame : MethodName := ⟨RX12, "mixGame", "()V"⟩
abbrev cX12_digest : ByteArray := prog_14_method_83_code
def yX12_digest : MethodName := ⟨RX12, "digest", "()J"⟩
def RJx145de : String := "java/io/Serializable"
def TJx145de : u_T := fun k => match k with
  | _ => ("", "", "", false)
def tyJx145de : Nat → FieldType := fun k => match k with
  | _ => .int
abbrev wsJx145de0 : List Cond := u_ws RJx145de TJx145de 0
theorem nmJx145de : ∀ a, a < 0 → ∀ b, b < 0 → a ≠ b → (TJx145de a).2.1 ≠ (TJx145de b).2.1 := by decide +kernel
theorem tyJx145de_ok : ∀ k, k < 0 → parseFieldDescriptor (TJx145de k).2.2.1 = some (tyJx145de k) := by decide +kernel
def RJx9f9b0 : String := "java/lang/CharSequence"
def TJx9f9b0 : u_T := fun k => match k with
  | _ => ("", "", "", false)
def tyJx9f9b0 : Nat → FieldType := fun k => match k with
  | _ => .int
abbrev wsJx9f9b00 : List Cond := u_ws RJx9f9b0 TJx9f9b0 0
theorem nmJx9f9b0 : ∀ a, a < 0 → ∀ b, b < 0 → a ≠ b → (TJx9f9b0 a).2.1 ≠ (TJx9f9b0 b).2.1 := by decide +kernel
theorem tyJx9f9b0_ok : ∀ k, k < 0 → parseFieldDescriptor (TJx9f9b0 k).2.2.1 = some (tyJx9f9b0 k) := by decide +kernel
def RJ11 : String := "java/lang/Character"
def TJ11 : u_T := fun k => match k with
  | _ => ("", "", "", false)
def tyJ11 : Nat → FieldType := fun k => match k with
  | _ => .int
abbrev wsJ110 : List Cond := u_ws RJ11 TJ11 0
theorem nmJ11 : ∀ a, a < 0 → ∀ b, b < 0 → a ≠ b → (TJ11 a).2.1 ≠ (TJ11 b).2.1 := by decide +kernel
theorem tyJ11_ok : ∀ k, k < 0 → parseFieldDescriptor (TJ11 k).2.2.1 = some (tyJ11 k) := by decide +kernel
abbrev cJ11_isValidCodePoint_9a6ad : ByteArray := prog_15_method_11_code
def yJ11_isValidCodePoint_9a6ad : MethodName := ⟨RJ11, "isValidCodePoint", "(I)Z"⟩
abbrev cJ11_highSurrogate_5068e : ByteArray := prog_15_method_28_code
def yJ11_highSurrogate_5068e : MethodName := ⟨RJ11, "highSurrogate", "(I)C"⟩
abbrev cJ11_lowSurrogate_5068e : ByteArray := prog_15_method_29_code
def yJ11_lowSurrogate_5068e : MethodName := ⟨RJ11, "lowSurrogate", "(I)C"⟩
def RJxb160c : String := "java/lang/Comparable"
def TJxb160c : u_T := fun k => match k with
  | _ => ("", "", "", false)
def tyJxb160c : Nat → FieldType := fun k => match k with
  | _ => .int
abbrev wsJxb160c0 : List Cond := u_ws RJxb160c TJxb160c 0
theorem nmJxb160c : ∀ a, a < 0 → ∀ b, b < 0 → a ≠ b → (TJxb160c a).2.1 ≠ (TJxb160c b).2.1 := by decide +kernel
theorem tyJxb160c_ok : ∀ k, k < 0 → parseFieldDescriptor (TJxb160c k).2.2.1 = some (tyJxb160c k) := by decide +kernel
def RJ9 : String := "java/lang/Math"
def TJ9 : u_T := fun k => match k with
  | _ => ("", "", "", false)
def tyJ9 : Nat → FieldType := fun k => match k with
  | _ => .int
abbrev wsJ90 : List Cond := u_ws RJ9 TJ9 0
theorem nmJ9 : ∀ a, a < 0 → ∀ b, b < 0 → a ≠ b → (TJ9 a).2.1 ≠ (TJ9 b).2.1 := by decide +kernel
theorem tyJ9_ok : ∀ k, k < 0 → parseFieldDescriptor (TJ9 k).2.2.1 = some (tyJ9 k) := by decide +kernel
abbrev cJ9_abs_0f7a4 : ByteArray := prog_16_method_59_code
def yJ9_abs_0f7a4 : MethodName := ⟨RJ9, "abs", "(I)I"⟩
abbrev cJ9_max_7cf53 : ByteArray := prog_16_method_65_code
def yJ9_max_7cf53 : MethodName := ⟨RJ9, "max", "(II)I"⟩
abbrev cJ9_max_f86c9 : ByteArray := prog_16_method_66_code
def yJ9_max_f86c9 : MethodName := ⟨RJ9, "max", "(JJ)J"⟩
abbrev cJ9_min_7cf53 : ByteArray := prog_16_method_69_code
def yJ9_min_7cf53 : MethodName := ⟨RJ9, "min", "(II)I"⟩
def RJ0 : String := "java/lang/String"
def TJ0 : u_T := fun k => match k with
  | _ => ("", "", "", false)
def tyJ0 : Nat → FieldType := fun k => match k with
  | _ => .int
abbrev wsJ00 : List Cond := u_ws RJ0 TJ0 0
theorem nmJ0 : ∀ a, a < 0 → ∀ b, b < 0 → a ≠ b → (TJ0 a).2.1 ≠ (TJ0 b).2.1 := by decide +kernel
theorem tyJ0_ok : ∀ k, k < 0 → parseFieldDescriptor (TJ0 k).2.2.1 = some (tyJ0 k) := by decide +kernel
abbrev cJ0_length_8abf5 : ByteArray := prog_17_method_54_code
def yJ0_length_8abf5 : MethodName := ⟨RJ0, "length", "()I"⟩
abbrev cJ0_indexOf_0f7a4 : ByteArray := prog_17_method_79_code
def yJ0_indexOf_0f7a4 : MethodName := ⟨RJ0, "indexOf", "(I)I"⟩
abbrev cJ0_indexOf_7cf53 : ByteArray := prog_17_method_80_code
def yJ0_indexOf_7cf53 : MethodName := ⟨RJ0, "indexOf", "(II)I"⟩
abbrev cJ0_coder_7d493 : ByteArray := prog_17_method_152_code
def yJ0_coder_7d493 : MethodName := ⟨RJ0, "coder", "()B"⟩
abbrev cJ0_isLatin1_aae02 : ByteArray := prog_17_method_154_code
def yJ0_isLatin1_aae02 : MethodName := ⟨RJ0, "isLatin1", "()Z"⟩
abbrev cJ0_checkBoundsBeginEnd_23922 : ByteArray := prog_17_method_158_code
def yJ0_checkBoundsBeginEnd_23922 : MethodName := ⟨RJ0, "checkBoundsBeginEnd", "(III)V"⟩
def RJ1 : String := "java/lang/StringLatin1"
def TJ1 : u_T := fun k => match k with
  | _ => ("", "", "", false)
def tyJ1 : Nat → FieldType := fun k => match k with
  | _ => .int
abbrev wsJ10 : List Cond := u_ws RJ1 TJ1 0
theorem nmJ1 : ∀ a, a < 0 → ∀ b, b < 0 → a ≠ b → (TJ1 a).2.1 ≠ (TJ1 b).2.1 := by decide +kernel
theorem tyJ1_ok : ∀ k, k < 0 → parseFieldDescriptor (TJ1 k).2.2.1 = some (tyJ1 k) := by decide +kernel
abbrev cJ1_canEncode_9a6ad : ByteArray := prog_18_method_4_code
def yJ1_canEncode_9a6ad : MethodName := ⟨RJ1, "canEncode", "(I)Z"⟩
abbrev cJ1_indexOf_4cfef : ByteArray := prog_18_method_22_code
def yJ1_indexOf_4cfef : MethodName := ⟨RJ1, "indexOf", "([BIII)I"⟩
abbrev cJ1_indexOfChar_4cfef : ByteArray := prog_18_method_23_code
def yJ1_indexOfChar_4cfef : MethodName := ⟨RJ1, "indexOfChar", "([BIII)I"⟩
def RJ2 : String := "java/lang/StringUTF16"
def TJ2 : u_T := fun k => match k with
  | _ => ("", "", "", false)
def tyJ2 : Nat → FieldType := fun k => match k with
  | _ => .int
abbrev wsJ20 : List Cond := u_ws RJ2 TJ2 0
theorem nmJ2 : ∀ a, a < 0 → ∀ b, b < 0 → a ≠ b → (TJ2 a).2.1 ≠ (TJ2 b).2.1 := by decide +kernel
theorem tyJ2_ok : ∀ k, k < 0 → parseFieldDescriptor (TJ2 k).2.2.1 = some (tyJ2 k) := by decide +kernel
abbrev cJ2_getChar_3b067 : ByteArray := prog_19_method_5_code
def yJ2_getChar_3b067 : MethodName := ⟨RJ2, "getChar", "([BI)C"⟩
abbrev cJ2_length_9d52b : ByteArray := prog_19_method_6_code
def yJ2_length_9d52b : MethodName := ⟨RJ2, "length", "([B)I"⟩
abbrev cJ2_indexOf_4cfef : ByteArray := prog_19_method_40_code
def yJ2_indexOf_4cfef : MethodName := ⟨RJ2, "indexOf", "([BIII)I"⟩
abbrev cJ2_indexOfChar_4cfef : ByteArray := prog_19_method_47_code
def yJ2_indexOfChar_4cfef : MethodName := ⟨RJ2, "indexOfChar", "([BIII)I"⟩
abbrev cJ2_indexOfCharUnsafe_4cfef : ByteArray := prog_19_method_48_code
def yJ2_indexOfCharUnsafe_4cfef : MethodName := ⟨RJ2, "indexOfCharUnsafe", "([BIII)I"⟩
abbrev cJ2_indexOfSupplementary_4cfef : ByteArray := prog_19_method_49_code
def yJ2_indexOfSupplementary_4cfef : MethodName := ⟨RJ2, "indexOfSupplementary", "([BIII)I"⟩
abbrev cJ2_checkBoundsBeginEnd_d044e : ByteArray := prog_19_method_93_code
def yJ2_checkBoundsBeginEnd_d044e : MethodName := ⟨RJ2, "checkBoundsBeginEnd", "(II[B)V"⟩
def RJ10 : String := "java/lang/System"
def TJ10 : u_T := fun k => match k with
  | _ => ("", "", "", false)
def tyJ10 : Nat → FieldType := fun k => match k with
  | _ => .int
abbrev wsJ100 : List Cond := u_ws RJ10 TJ10 0
theorem nmJ10 : ∀ a, a < 0 → ∀ b, b < 0 → a ≠ b → (TJ10 a).2.1 ≠ (TJ10 b).2.1 := by decide +kernel
theorem tyJ10_ok : ∀ k, k < 0 → parseFieldDescriptor (TJ10 k).2.2.1 = some (tyJ10 k) := by decide +kernel
def RJxfd54e : String := "java/lang/constant/Constable"
def TJxfd54e : u_T := fun k => match k with
  | _ => ("", "", "", false)
def tyJxfd54e : Nat → FieldType := fun k => match k with
  | _ => .int
abbrev wsJxfd54e0 : List Cond := u_ws RJxfd54e TJxfd54e 0
theorem nmJxfd54e : ∀ a, a < 0 → ∀ b, b < 0 → a ≠ b → (TJxfd54e a).2.1 ≠ (TJxfd54e b).2.1 := by decide +kernel
theorem tyJxfd54e_ok : ∀ k, k < 0 → parseFieldDescriptor (TJxfd54e k).2.2.1 = some (tyJxfd54e k) := by decide +kernel
def RJx3cf43 : String := "java/lang/constant/ConstantDesc"
def TJx3cf43 : u_T := fun k => match k with
  | _ => ("", "", "", false)
def tyJx3cf43 : Nat → FieldType := fun k => match k with
  | _ => .int
abbrev wsJx3cf430 : List Cond := u_ws RJx3cf43 TJx3cf43 0
theorem nmJx3cf43 : ∀ a, a < 0 → ∀ b, b < 0 → a ≠ b → (TJx3cf43 a).2.1 ≠ (TJx3cf43 b).2.1 := by decide +kernel
theorem tyJx3cf43_ok : ∀ k, k < 0 → parseFieldDescriptor (TJx3cf43 k).2.2.1 = some (tyJx3cf43 k) := by decide +kernel
def RJ7 : String := "java/util/Arrays"
def TJ7 : u_T := fun k => match k with
  | _ => ("", "", "", false)
def tyJ7 : Nat → FieldType := fun k => match k with
  | _ => .int
abbrev wsJ70 : List Cond := u_ws RJ7 TJ7 0
theorem nmJ7 : ∀ a, a < 0 → ∀ b, b < 0 → a ≠ b → (TJ7 a).2.1 ≠ (TJ7 b).2.1 := by decide +kernel
theorem tyJ7_ok : ∀ k, k < 0 → parseFieldDescriptor (TJ7 k).2.2.1 = some (tyJ7 k) := by decide +kernel
abbrev cJ7_fill_d0a16 : ByteArray := prog_21_method_101_code
def yJ7_fill_d0a16 : MethodName := ⟨RJ7, "fill", "([JJ)V"⟩
def RJ3 : String := "jdk/internal/util/Preconditions"
def TJ3 : u_T := fun k => match k with
  | _ => ("", "", "", false)
def tyJ3 : Nat → FieldType := fun k => match k with
  | _ => .int
abbrev wsJ30 : List Cond := u_ws RJ3 TJ3 0
theorem nmJ3 : ∀ a, a < 0 → ∀ b, b < 0 → a ≠ b → (TJ3 a).2.1 ≠ (TJ3 b).2.1 := by decide +kernel
theorem tyJ3_ok : ∀ k, k < 0 → parseFieldDescriptor (TJ3 k).2.2.1 = some (tyJ3 k) := by decide +kernel
abbrev cJ3_checkFromToIndex_8c36e : ByteArray := prog_22_method_12_code
def yJ3_checkFromToIndex_8c36e : MethodName := ⟨RJ3, "checkFromToIndex", "(IIILjava/util/function/BiFunction;)I"⟩
def RL : String := "WithEyesBoundLaw"
abbrev cL_law : ByteArray := code
def yL_law : MethodName := ⟨RL, "law", "([I)Z"⟩
abbrev vwCl : List vw_C := [(RX0, TX0, 6), (RX1, TX1, 6), (RX2, TX2, 6), (RX3, TX3, 11), (RX4, TX4, 6), (RX5, TX5, 5), (RX6, TX6, 6), (RX7, TX7, 6), (RX8, TX8, 11), (RX9, TX9, 6), (RX10, TX10, 6), (RX11, TX11, 10), (RX12, TX12, 44)]
end
section
/-! ===== THE ABSTRACT MACHINE: places instead of addresses, a heap as a list of cells, one function an instruction ===== -/
/-- a cell: an array (kind of its class, its length and contents) or an object (number of its class in vwCl, its fields) -/
abbrev ev_C : Type := (Nat × vp_A) ⊕ (Nat × List Value)
abbrev ev_H : Type := List (Option ev_C)
abbrev ev_L : Type := List (Option Value)
abbrev ev_S : Type := Nat × ev_L × List Value × ev_H
/-- an answer and the heap behind it -/
abbrev ev_Z : Type := Option Value × ev_H
/-- pc, instruction, length, operand, target, constant, classes with what belongs to each, places of words -/
abbrev ev_E : Type := Nat × Instr × Nat × Nat × Nat × Value × List (Nat × Nat) × List Nat
def ev_ld (ls : ev_L) (x : Nat) : Option Value := match ls[x]? with
  | some (some v) => some v
  | _ => none
def ev_kl (ls : ev_L) (x : Nat) : ev_L := match x with
  | 0 => ls
  | j + 1 => match ls[j]? with
    | some (some v) => if v.category = 2 then ls.set j none else ls
    | _ => ls
def ev_s1 (ls : ev_L) (x : Nat) (v : Value) : ev_L := (ev_kl ls x).set x (some v)
def ev_s2 (ls : ev_L) (x : Nat) (v : Value) : ev_L := ((ev_kl ls x).set x (some v)).set (x + 1) none
def ev_get (h : ev_H) (a : Nat) : Option ev_C := match h[a]? with
  | some (some c) => some c
  | _ => none
def ev_if (k : Jvm.ClassFile.Cond) (a b : Int32) (t n : Nat) : Nat := match k with
  | .eq => if a = b then t else n
  | .ne => if a = b then n else t
  | .lt => if a < b then t else n
  | .ge => if a < b then n else t
  | .gt => if b < a then t else n
  | .le => if b < a then n else t
def ev_sw (D : List (Nat × Nat)) (a : Int32) (t : Nat) : Nat := match D with
  | [] => t
  | (k, u) :: r => if a = Int32.ofNat k then u else ev_sw r a t
/-- what is kept outside the heap: three arrays of numbers (1000 on), a text's bytes (2001) -/
def ev_sta (a : Nat) : Nat × List Int32 := match a with
  | 1000 => (4, [0, 3, 2, 1])
  | 1001 => (4, [-1, 0, 1, 0])
  | 1002 => (4, [0, 1, 0, -1])
  | 2001 => (4, [46, 98, 112, 120])
  | _ => (0, [])
def ev_sn (a : Nat) : Nat := (ev_sta a).1
def ev_sf (a : Nat) (j : Nat) : Int32 := (ev_sta a).2.getD j 0
def ev_fit (t : Nat) (v : Value) : Bool := match t, v with
  | 0, .int _ => true
  | 1, .long _ => true
  | 2, .int x => decide (x = 0 ∨ x = 1)
  | _, _ => false
def ev_cat (st : List Value) : Nat := (st.map fun v => v.category).sum
abbrev ev_j (pc : Nat) (ls : ev_L) (st : List Value) (h : ev_H) : Option (ev_S ⊕ ev_Z) := some (.inl (pc, ls, st, h))
/-- pushes, loads, stores -/
def ev_o1 (e : ev_E) (ls : ev_L) (st : List Value) (h : ev_H) : Option (ev_S ⊕ ev_Z) := match e with
  | (pc, i, len, x, _, cst, _, _) => match i with
    | .iconst _ | .bipush _ | .sipush _ | .lconst _ | .ldc _ | .ldc_w _ | .ldc2_w _ | .aconst_null | .getstatic _ => ev_j (pc + len) ls (cst :: st) h
    | .iload _ | .iload_n _ => match ev_ld ls x with
      | some (.int v) => ev_j (pc + len) ls (.int v :: st) h
      | _ => none
    | .lload _ | .lload_n _ => match ev_ld ls x with
      | some (.long v) => ev_j (pc + len) ls (.long v :: st) h
      | _ => none
    | .aload _ | .aload_n _ => match ev_ld ls x with
      | some (.ref a) => ev_j (pc + len) ls (.ref a :: st) h
      | some .null => ev_j (pc + len) ls (.null :: st) h
      | _ => none
    | .istore _ | .istore_n _ => match st with
      | .int v :: r => if x < ls.length then ev_j (pc + len) (ev_s1 ls x (.int v)) r h else none
      | _ => none
    | .lstore _ | .lstore_n _ => match st with
      | .long v :: r => if x + 1 < ls.length then ev_j (pc + len) (ev_s2 ls x (.long v)) r h else none
      | _ => none
    | .astore _ | .astore_n _ => match st with
      | .ref a :: r => if x < ls.length then ev_j (pc + len) (ev_s1 ls x (.ref a)) r h else none
      | .null :: r => if x < ls.length then ev_j (pc + len) (ev_s1 ls x .null) r h else none
      | _ => none
    | .iinc _ _ => match ev_ld ls x, cst with
      | some (.int v), .int k => if x < ls.length then ev_j (pc + len) (ev_s1 ls x (.int (v + k))) st h else none
      | _, _ => none
    | _ => none
/-- arithmetic, and the stack -/
def ev_o2 (e : ev_E) (ls : ev_L) (st : List Value) (h : ev_H) : Option (ev_S ⊕ ev_Z) := match e with
  | (pc, i, len, _, _, _, _, _) => match i with
    | .iadd => match st with
      | .int b :: .int a :: r => ev_j (pc + len) ls (.int (a + b) :: r) h
      | _ => none
    | .isub => match st with
      | .int b :: .int a :: r => ev_j (pc + len) ls (.int (a - b) :: r) h
      | _ => none
    | .imul => match st with
      | .int b :: .int a :: r => ev_j (pc + len) ls (.int (a * b) :: r) h
      | _ => none
    | .iand => match st with
      | .int b :: .int a :: r => ev_j (pc + len) ls (.int (a &&& b) :: r) h
      | _ => none
    | .ineg => match st with
      | .int a :: r => ev_j (pc + len) ls (.int (-a) :: r) h
      | _ => none
    | .idiv => match st with
      | .int b :: .int a :: r => if ¬ b = 0 then ev_j (pc + len) ls (.int (a / b) :: r) h else none
      | _ => none
    | .irem => match st with
      | .int b :: .int a :: r => if ¬ b = 0 then ev_j (pc + len) ls (.int (a - a / b * b) :: r) h else none
      | _ => none
    | .ishr => match st with
      | .int b :: .int a :: r => ev_j (pc + len) ls (.int (a >>> (b &&& 31)) :: r) h
      | _ => none
    | .iushr => match st with
      | .int b :: .int a :: r => ev_j (pc + len) ls (.int (a.toUInt32 >>> (b.toUInt32 &&& Int32.toUInt32 31)).toInt32 :: r) h
      | _ => none
    | .ladd => match st with
      | .long b :: .long a :: r => ev_j (pc + len) ls (.long (a + b) :: r) h
      | _ => none
    | .lsub => match st with
      | .long b :: .long a :: r => ev_j (pc + len) ls (.long (a - b) :: r) h
      | _ => none
    | .lmul => match st with
      | .long b :: .long a :: r => ev_j (pc + len) ls (.long (a * b) :: r) h
      | _ => none
    | .land => match st with
      | .long b :: .long a :: r => ev_j (pc + len) ls (.long (a &&& b) :: r) h
      | _ => none
    | .lneg => match st with
      | .long a :: r => ev_j (pc + len) ls (.long (-a) :: r) h
      | _ => none
    | .ldiv => match st with
      | .long b :: .long a :: r => if ¬ b = 0 then ev_j (pc + len) ls (.long (a / b) :: r) h else none
      | _ => none
    | .lrem => match st with
      | .long b :: .long a :: r => if ¬ b = 0 then ev_j (pc + len) ls (.long (a - a / b * b) :: r) h else none
      | _ => none
    | .lshr => match st with
      | .int b :: .long a :: r => ev_j (pc + len) ls (.long (a >>> (b.toInt64 &&& 63)) :: r) h
      | _ => none
    | .lushr => match st with
      | .int b :: .long a :: r => ev_j (pc + len) ls (.long (a.toUInt64 >>> (b.toInt64.toUInt64 &&& Int64.toUInt64 63)).toInt64 :: r) h
      | _ => none
    | .i2l => match st with
      | .int a :: r => ev_j (pc + len) ls (.long a.toInt64 :: r) h
      | _ => none
    | .l2i => match st with
      | .long a :: r => ev_j (pc + len) ls (.int a.toInt32 :: r) h
      | _ => none
    | .i2b => match st with
      | .int a :: r => ev_j (pc + len) ls (.int a.toInt8.toInt32 :: r) h
      | _ => none
    | .i2c => match st with
      | .int a :: r => ev_j (pc + len) ls (.int (a.toUInt32 % 65536).toInt32 :: r) h
      | _ => none
    | .lcmp => match st with
      | .long b :: .long a :: r => ev_j (pc + len) ls (.int (lg_cmp a b) :: r) h
      | _ => none
    | .dup => match st with
      | v :: r => if v.category = 1 then ev_j (pc + len) ls (v :: v :: r) h else none
      | _ => none
    | .pop => match st with
      | v :: r => if v.category = 1 then ev_j (pc + len) ls r h else none
      | _ => none
    | .dup2 => match st with
      | v :: w :: r => if v.category = 1 ∧ w.category = 1 then ev_j (pc + len) ls (v :: w :: v :: w :: r) h else none
      | _ => none
    | _ => none
/-- branches -/
def ev_o3 (e : ev_E) (ls : ev_L) (st : List Value) (h : ev_H) : Option (ev_S ⊕ ev_Z) := match e with
  | (pc, i, len, _, tgt, _, D, _) => match i with
    | .goto _ => ev_j tgt ls st h
    | .ifCond k _ => match st with
      | .int a :: r => ev_j (ev_if k a 0 tgt (pc + len)) ls r h
      | _ => none
    | .if_icmp k _ => match st with
      | .int b :: .int a :: r => ev_j (ev_if k a b tgt (pc + len)) ls r h
      | _ => none
    | .ifnull _ => match st with
      | .null :: r => ev_j tgt ls r h
      | .ref _ :: r => ev_j (pc + len) ls r h
      | _ => none
    | .ifnonnull _ => match st with
      | .null :: r => ev_j (pc + len) ls r h
      | .ref _ :: r => ev_j tgt ls r h
      | _ => none
    | .tableswitch _ _ _ _ => match st with
      | .int a :: r => ev_j (ev_sw D a tgt) ls r h
      | _ => none
    | _ => none
/-- fields and arrays -/
def ev_o4 (e : ev_E) (ls : ev_L) (st : List Value) (h : ev_H) : Option (ev_S ⊕ ev_Z) := match e with
  | (pc, i, len, x, tgt, cst, D, _) => match i with
    | .getfield _ => match st with
      | .ref a :: r => if a = 2000 then (if tgt = 7 then ev_j (pc + len) ls (cst :: r) h else none) else match ev_get h a with
        | some (.inr (ci, fs)) => if D.any (fun q => q.1 == ci) = true then (match fs[x]? with
          | some v => ev_j (pc + len) ls (v :: r) h
          | none => none) else none
        | _ => none
      | _ => none
    | .putfield _ => match st with
      | v :: .ref a :: r => match ev_get h a with
        | some (.inr (ci, fs)) => if D.any (fun q => q.1 == ci) = true ∧ x < fs.length ∧ ev_fit tgt v = true then ev_j (pc + len) ls r (h.set a (some (.inr (ci, fs.set x v)))) else none
        | _ => none
      | _ => none
    | .arraylength => match st with
      | .ref a :: r => if x = 1 then (if a = 2001 then ev_j (pc + len) ls (.int (Int32.ofNat (ev_sn a)) :: r) h else none) else match ev_get h a with
        | some (.inl (t, n, _)) => if t < 6 then ev_j (pc + len) ls (.int (Int32.ofNat n) :: r) h else none
        | _ => none
      | _ => none
    | .iaload => match st with
      | .int j :: .ref a :: r => if x = 1 then (if ¬ (j < 0 ∨ ev_sn a ≤ j.toNatClampNeg) then (if 1000 ≤ a ∧ a < 1003 then ev_j (pc + len) ls (.int (ev_sf a j.toNatClampNeg) :: r) h else none) else none) else match ev_get h a with
        | some (.inl (0, n, .inl f)) => if ¬ (j < 0 ∨ n ≤ j.toNatClampNeg) then ev_j (pc + len) ls (.int (f j.toNatClampNeg) :: r) h else none
        | _ => none
      | _ => none
    | .laload => match st with
      | .int j :: .ref a :: r => match ev_get h a with
        | some (.inl (1, n, .inr (.inl f))) => if ¬ (j < 0 ∨ n ≤ j.toNatClampNeg) then ev_j (pc + len) ls (.long (f j.toNatClampNeg) :: r) h else none
        | _ => none
      | _ => none
    | .caload => match st with
      | .int j :: .ref a :: r => match ev_get h a with
        | some (.inl (2, n, .inl f)) => if ¬ (j < 0 ∨ n ≤ j.toNatClampNeg) then ev_j (pc + len) ls (.int (f j.toNatClampNeg) :: r) h else none
        | _ => none
      | _ => none
    | .baload => match st with
      | .int j :: .ref a :: r => if x = 1 then (if ¬ (j < 0 ∨ ev_sn a ≤ j.toNatClampNeg) then (if a = 2001 then ev_j (pc + len) ls (.int (ev_sf a j.toNatClampNeg) :: r) h else none) else none) else match ev_get h a with
        | some (.inl (3, n, .inl f)) => if ¬ (j < 0 ∨ n ≤ j.toNatClampNeg) then ev_j (pc + len) ls (.int (f j.toNatClampNeg) :: r) h else none
        | _ => none
      | _ => none
    | .aaload => match st with
      | .int j :: .ref a :: r => match ev_get h a with
        | some (.inl (t, n, .inr (.inr (.inr (.inr f))))) => if ¬ (j < 0 ∨ n ≤ j.toNatClampNeg) then (if t = 4 ∨ t = 5 then ev_j (pc + len) ls (va_rf (f j.toNatClampNeg) :: r) h else none) else none
        | _ => none
      | _ => none
    | .iastore => match st with
      | .int v :: .int j :: .ref a :: r => match ev_get h a with
        | some (.inl (0, n, .inl f)) => if ¬ (j < 0 ∨ n ≤ j.toNatClampNeg) then ev_j (pc + len) ls r (h.set a (some (.inl (0, n, .inl (upd f j.toNatClampNeg v))))) else none
        | _ => none
      | _ => none
    | .lastore => match st with
      | .long v :: .int j :: .ref a :: r => match ev_get h a with
        | some (.inl (1, n, .inr (.inl f))) => if ¬ (j < 0 ∨ n ≤ j.toNatClampNeg) then ev_j (pc + len) ls r (h.set a (some (.inl (1, n, .inr (.inl (vp_updL f j.toNatClampNeg v)))))) else none
        | _ => none
      | _ => none
    | .castore => match st with
      | .int v :: .int j :: .ref a :: r => match ev_get h a with
        | some (.inl (2, n, .inl f)) => if ¬ (j < 0 ∨ n ≤ j.toNatClampNeg) then ev_j (pc + len) ls r (h.set a (some (.inl (2, n, .inl (upd f j.toNatClampNeg (vp_nar .char v)))))) else none
        | _ => none
      | _ => none
    | .bastore => match st with
      | .int v :: .int j :: .ref a :: r => match ev_get h a with
        | some (.inl (3, n, .inl f)) => if ¬ (j < 0 ∨ n ≤ j.toNatClampNeg) then ev_j (pc + len) ls r (h.set a (some (.inl (3, n, .inl (upd f j.toNatClampNeg (vp_nar .byte v)))))) else none
        | _ => none
      | _ => none
    | .aastore => match st with
      | .null :: .int j :: .ref a :: r => match ev_get h a with
        | some (.inl (4, n, .inr (.inr (.inr (.inr f))))) => if ¬ (j < 0 ∨ n ≤ j.toNatClampNeg) then ev_j (pc + len) ls r (h.set a (some (.inl (4, n, .inr (.inr (.inr (.inr (va_up f j.toNatClampNeg none)))))))) else none
        | _ => none
      | _ => none
    | .instanceof _ => match st with
      | .ref a :: r => match ev_get h a with
        | some (.inr (ci, _)) => match D.lookup ci with
          | some 0 => ev_j (pc + len) ls (.int 0 :: r) h
          | some 1 => ev_j (pc + len) ls (.int 1 :: r) h
          | _ => none
        | _ => none
      | _ => none
    | _ => none
/-- returns, and the library's own functions -/
def ev_o5 (rt : Option FieldType) (e : ev_E) (ls : ev_L) (st : List Value) (h : ev_H) : Option (ev_S ⊕ ev_Z) := match e with
  | (pc, i, len, x, _, _, _, _) => match i with
    | .return_ => match st, rt with
      | [], none => some (.inr (none, h))
      | _, _ => none
    | .ireturn => match st, rt with
      | [.int v], some .int => some (.inr (some (.int v), h))
      | [.int v], some .boolean => if v = 0 ∨ v = 1 then some (.inr (some (.int v), h)) else none
      | [.int v], some .byte => if v = 0 then some (.inr (some (.int v), h)) else none
      | _, _ => none
    | .lreturn => match st, rt with
      | [.long v], some .long => some (.inr (some (.long v), h))
      | _, _ => none
    | .areturn => match st, rt with
      | [.ref a], some (.object _) => some (.inr (some (.ref a), h))
      | [.null], some (.object _) => some (.inr (some .null, h))
      | _, _ => none
    | .invokestatic _ => match x, st with
      | 101, .int b :: .int a :: r => if ev_cat r ≤ 8 then ev_j (pc + len) ls (.int (if b < a then b else a) :: r) h else none
      | 102, .long b :: .long a :: r => if ev_cat r ≤ 8 then ev_j (pc + len) ls (.long (if b < a then a else b) :: r) h else none
      | 103, .int a :: r => if ev_cat r ≤ 8 then ev_j (pc + len) ls (.int (if 0 ≤ a then a else 0 - a) :: r) h else none
      | 104, .int n :: .int dp :: .ref b :: .int sp :: .ref a :: r => match ev_get h a, ev_get h b with
        | some (.inl (1, n0, .inr (.inl f))), some (.inl (1, n1, .inr (.inl g))) => if ev_cat r ≤ 8 ∧ ¬ sp < 0 ∧ ¬ dp < 0 ∧ ¬ n < 0 ∧ sp.toNatClampNeg + n.toNatClampNeg ≤ n0 ∧ dp.toNatClampNeg + n.toNatClampNeg ≤ n1 then ev_j (pc + len) ls r (h.set b (some (.inl (1, n1, .inr (.inl (va_cpy f g sp.toNatClampNeg dp.toNatClampNeg n.toNatClampNeg)))))) else none
        | _, _ => none
      | 105, .int b :: .int a :: r => if ev_cat r ≤ 8 then ev_j (pc + len) ls (.int (if a < b then b else a) :: r) h else none
      | _, _ => none
    | _ => none
/-- one instruction that is no call -/
def ev_one (rt : Option FieldType) (e : ev_E) (ls : ev_L) (st : List Value) (h : ev_H) : Option (ev_S ⊕ ev_Z) := match e.2.1 with
  | .iconst _ | .bipush _ | .sipush _ | .lconst _ | .ldc _ | .ldc_w _ | .ldc2_w _ | .aconst_null | .getstatic _ | .iload _ | .iload_n _ | .lload _ | .lload_n _ | .aload _ | .aload_n _ | .istore _ | .istore_n _ | .lstore _ | .lstore_n _ | .astore _ | .astore_n _ | .iinc _ _ => ev_o1 e ls st h
  | .goto _ | .ifCond _ _ | .if_icmp _ _ | .ifnull _ | .ifnonnull _ | .tableswitch _ _ _ _ => ev_o3 e ls st h
  | .getfield _ | .putfield _ | .arraylength | .iaload | .laload | .caload | .baload | .aaload | .iastore | .lastore | .castore | .bastore | .aastore | .instanceof _ => ev_o4 e ls st h
  | .return_ | .ireturn | .lreturn | .areturn | .invokestatic _ => ev_o5 rt e ls st h
  | _ => ev_o2 e ls st h
/-- a call: the method's number, its arguments, what stays on the stack -/
def ev_inv (e : ev_E) (st : List Value) (h : ev_H) : Option (Nat × List Value × List Value) := match e with
  | (_, i, _, x, _, _, D, _) => match i with
    | .invokestatic _ => if x ≤ st.length ∧ x < 100 ∧ ev_cat (st.drop x) ≤ 8 then (match D.lookup 0 with
      | some k => some (k, (st.take x).reverse, st.drop x)
      | none => none) else none
    | .invokevirtual _ => match st.drop x with
      | .ref a :: r => if x ≤ st.length ∧ x < 100 ∧ ev_cat r ≤ 8 then (if a = 2000 then (match D.lookup 2000 with
          | some k => some (k, .ref a :: (st.take x).reverse, r)
          | none => none) else match ev_get h a with
        | some (.inr (ci, _)) => (match D.lookup ci with
          | some k => some (k, .ref a :: (st.take x).reverse, r)
          | none => none)
        | _ => none) else none
      | _ => none
    | _ => none
def ev_find (I : List ev_E) (pc : Nat) : Option ev_E := match I with
  | [] => none
  | e :: r => if e.1 = pc then some e else ev_find r pc
/-- n steps of a body from a state to an answer; cf says what a call answers -/
def ev_R (cf : Nat → List Value → ev_H → ev_Z → Prop) (rt : Option FieldType) (I : List ev_E) : Nat → ev_S → ev_Z → Prop
  | 0, _, _ => False
  | n + 1, (pc, ls, st, h), r => ∃ e, ev_find I pc = some e ∧ ((∃ c', ev_one rt e ls st h = some (.inl c') ∧ ev_R cf rt I n c' r) ∨ ev_one rt e ls st h = some (.inr r) ∨ ∃ k as rest z, ev_inv e st h = some (k, as, rest) ∧ cf k as h z ∧ ev_R cf rt I n (pc + 3, ls, z.1.toList ++ rest, z.2) r)
end
section
/-! ===== THE ABSTRACT MACHINE AND THE REAL ONE: values, cells, locals ===== -/
def ev_tb : List Cond := lw_tbl.filter goodWord
theorem ev_goodIn {ws : List Cond} (h : ∀ w ∈ ws, w ∈ ev_tb) : GoodIn ev_tb ws := fun w hw => ⟨h w hw, good_of_word (List.mem_filter.mp (h w hw)).2⟩
/-- the word w stands at the place p of the tables -/
def ev_w (P : List Nat) (j : Nat) (w : Cond) : Bool := match P[j]? with
  | some p => decide (lw_tbl[p]? = some w) && goodWord w
  | none => false
theorem ev_w_in {P : List Nat} {j : Nat} {w : Cond} (h : ev_w P j w = true) : w ∈ ev_tb := by
  unfold ev_w at h
  split at h
  · rw [Bool.and_eq_true, decide_eq_true_eq] at h
    exact List.mem_filter.mpr ⟨List.mem_of_getElem? h.1, h.2⟩
  · cases h
def ev_cv (ρ : Nat → Nat) (v : Value) : Value := match v with
  | .ref a => .ref (ρ a)
  | v => v
theorem ev_cv_cat (ρ : Nat → Nat) (v : Value) : (ev_cv ρ v).category = v.category := by cases v <;> rfl
theorem ev_cv_rf (ρ : Nat → Nat) (r : Option Nat) : ev_cv ρ (va_rf r) = va_rf (r.map ρ) := by cases r <;> rfl
theorem ev_cat_cv (ρ : Nat → Nat) (st : List Value) : ((st.map (ev_cv ρ)).map fun v => v.category).sum = ev_cat st := by
  unfold ev_cat
  rw [List.map_map]
  congr 1
  exact List.map_congr_left (fun v _ => ev_cv_cat ρ v)
def ev_cd (ρ : Nat → Nat) (d : (Nat → Int32) ⊕ (Nat → Int64) ⊕ (Nat → UInt32) ⊕ (Nat → UInt64) ⊕ (Nat → Option Nat)) : (Nat → Int32) ⊕ (Nat → Int64) ⊕ (Nat → UInt32) ⊕ (Nat → UInt64) ⊕ (Nat → Option Nat) := match d with
  | .inr (.inr (.inr (.inr f))) => .inr (.inr (.inr (.inr (fun i => (f i).map ρ))))
  | d => d
def ev_ce (ρ : Nat → Nat) (cA : Nat → ClassId) (c : ev_C) : va_E := match c with
  | .inl (t, n, d) => .inl (cA t, n, ev_cd ρ d)
  | .inr (ci, fs) => .inr (ci, fs.map (ev_cv ρ))
def ev_cw (ρ : Nat → Nat) (cA : Nat → ClassId) : Nat → ev_H → va_W
  | _, [] => []
  | k, none :: t => ev_cw ρ cA (k + 1) t
  | k, some c :: t => (ρ k, ev_ce ρ cA c) :: ev_cw ρ cA (k + 1) t
theorem ev_cw_at (ρ : Nat → Nat) (cA : Nat → ClassId) : ∀ (h : ev_H) (k a : Nat) (c : ev_C), h[a]? = some (some c) → ∃ j, (ev_cw ρ cA k h)[j]? = some (ρ (k + a), ev_ce ρ cA c) ∧ ∀ c', (ev_cw ρ cA k h).set j (ρ (k + a), ev_ce ρ cA c') = ev_cw ρ cA k (h.set a (some c'))
  | [], _, a, c, h => by simp at h
  | o :: t, k, 0, c, h => by
    simp only [List.getElem?_cons_zero, Option.some.injEq] at h
    subst h
    exact ⟨0, rfl, fun c' => rfl⟩
  | o :: t, k, a + 1, c, h => by
    have h' : t[a]? = some (some c) := by simpa using h
    obtain ⟨j, h1, h2⟩ := ev_cw_at ρ cA t (k + 1) a c h'
    have e : k + 1 + a = k + (a + 1) := by omega
    rw [e] at h1 h2
    cases o with
    | none => exact ⟨j, h1, fun c' => h2 c'⟩
    | some q =>
      refine ⟨j + 1, ?_, fun c' => ?_⟩
      · show ((ρ k, ev_ce ρ cA q) :: ev_cw ρ cA (k + 1) t)[j + 1]? = _
        rw [List.getElem?_cons_succ]; exact h1
      · show ((ρ k, ev_ce ρ cA q) :: ev_cw ρ cA (k + 1) t).set (j + 1) _ = (ρ k, ev_ce ρ cA q) :: ev_cw ρ cA (k + 1) (t.set a (some c'))
        rw [List.set_cons_succ, h2 c']
theorem ev_get_at {h : ev_H} {a : Nat} {c : ev_C} (hg : ev_get h a = some c) : h[a]? = some (some c) := by
  unfold ev_get at hg
  split at hg
  · cases hg; assumption
  · cases hg
theorem ev_at (ρ : Nat → Nat) (cA : Nat → ClassId) {h : ev_H} {a : Nat} {c : ev_C} (hg : ev_get h a = some c) : ∃ j, (ev_cw ρ cA 0 h)[j]? = some (ρ a, ev_ce ρ cA c) ∧ ∀ c', (ev_cw ρ cA 0 h).set j (ρ a, ev_ce ρ cA c') = ev_cw ρ cA 0 (h.set a (some c')) := by
  obtain ⟨j, h1, h2⟩ := ev_cw_at ρ cA h 0 a c (ev_get_at hg)
  rw [Nat.zero_add] at h1 h2
  exact ⟨j, h1, h2⟩
/-- locals -/
def ev_la (ρ : Nat → Nat) : Nat → ev_L → List (Nat × Value)
  | _, [] => []
  | k, none :: t => ev_la ρ (k + 1) t
  | k, some v :: t => (k, ev_cv ρ v) :: ev_la ρ (k + 1) t
theorem ev_la_mem {ρ : Nat → Nat} : ∀ {ls : ev_L} {k : Nat} {q : Nat × Value}, q ∈ ev_la ρ k ls ↔ ∃ x v, ls[x]? = some (some v) ∧ q = (k + x, ev_cv ρ v)
  | [], k, q => by simp [ev_la]
  | none :: t, k, q => by
    show q ∈ ev_la ρ (k + 1) t ↔ _
    rw [ev_la_mem]
    constructor
    · rintro ⟨x, v, h1, h2⟩
      exact ⟨x + 1, v, by simpa using h1, by rw [h2]; congr 1; omega⟩
    · rintro ⟨x, v, h1, h2⟩
      cases x with
      | zero => simp at h1
      | succ x => exact ⟨x, v, by simpa using h1, by rw [h2]; congr 1; omega⟩
  | some w :: t, k, q => by
    show q ∈ (k, ev_cv ρ w) :: ev_la ρ (k + 1) t ↔ _
    rw [List.mem_cons, ev_la_mem]
    constructor
    · rintro (h | ⟨x, v, h1, h2⟩)
      · exact ⟨0, w, rfl, h⟩
      · exact ⟨x + 1, v, by simpa using h1, by rw [h2]; congr 1; omega⟩
    · rintro ⟨x, v, h1, h2⟩
      cases x with
      | zero =>
        simp at h1
        subst h1
        exact Or.inl h2
      | succ x => exact Or.inr ⟨x, v, by simpa using h1, by rw [h2]; congr 1; omega⟩
theorem ev_has_mono {lr : Array Slot} {nL : Nat} {l l' : List (Nat × Value)} (h : lv_has lr nL l) (hs : ∀ q ∈ l', q ∈ l) : lv_has lr nL l' := ⟨h.1, h.2.1, fun q hq => h.2.2 q (hs q hq)⟩
theorem ev_ld_has {ρ : Nat → Nat} {lr : Array Slot} {nL : Nat} {ls : ev_L} {x : Nat} {v : Value} (h : lv_has lr nL (ev_la ρ 0 ls)) (hv : ev_ld ls x = some v) : lr[x]? = some (.val (ev_cv ρ v)) := by
  unfold ev_ld at hv
  split at hv
  · rename_i w hw
    obtain rfl : w = v := Option.some.inj hv
    exact h.2.2 (x, ev_cv ρ w) (ev_la_mem.mpr ⟨x, w, hw, by rw [Nat.zero_add]⟩)
  · cases hv
theorem ev_kl_get {ls : ev_L} {x j : Nat} {v : Value} (h : (ev_kl ls x)[j]? = some (some v)) : ls[j]? = some (some v) ∧ ¬ (j + 1 = x ∧ v.category = 2) := by
  unfold ev_kl at h
  split at h
  · exact ⟨h, fun q => by omega⟩
  · rename_i i
    split at h
    · rename_i w hw
      split at h
      · by_cases e : j = i
        · subst e
          rw [List.getElem?_set] at h
          simp at h
        · rw [List.getElem?_set_ne (fun q => e q.symm)] at h
          exact ⟨h, fun q => by omega⟩
      · rename_i hc
        refine ⟨h, fun q => ?_⟩
        obtain ⟨q1, q2⟩ := q
        have : j = i := by omega
        subst this
        rw [hw] at h
        cases h
        exact hc q2
    · rename_i hn
      refine ⟨h, fun q => ?_⟩
      have : j = i := by omega
      subst this
      exact hn v h
theorem ev_s1_sub (ρ : Nat → Nat) {ls : ev_L} {x : Nat} {v : Value} : ∀ q ∈ ev_la ρ 0 (ev_s1 ls x v), q ∈ (x, ev_cv ρ v) :: (ev_la ρ 0 ls).filter (fun q => !(q.1 == x) && !(q.1 + 1 == x && q.2.category == 2)) := by
  intro q hq
  obtain ⟨j, w, h1, h2⟩ := ev_la_mem.mp hq
  rw [Nat.zero_add] at h2
  unfold ev_s1 at h1
  by_cases e : j = x
  · subst e
    rw [List.getElem?_set] at h1
    simp only [if_true] at h1
    split at h1
    · cases h1
      rw [h2]
      exact List.mem_cons_self
    · cases h1
  · rw [List.getElem?_set_ne (fun q => e q.symm)] at h1
    obtain ⟨h3, h4⟩ := ev_kl_get h1
    refine List.mem_cons_of_mem _ (List.mem_filter.mpr ⟨ev_la_mem.mpr ⟨j, w, h3, by rw [Nat.zero_add]; exact h2⟩, ?_⟩)
    rw [h2]
    simp only [Bool.and_eq_true, Bool.not_eq_true', beq_eq_false_iff_ne, ne_eq, Bool.and_eq_false_iff, ev_cv_cat]
    refine ⟨e, ?_⟩
    by_cases g : j + 1 = x
    · exact Or.inr (fun z => h4 ⟨g, z⟩)
    · exact Or.inl g
theorem ev_s2_sub (ρ : Nat → Nat) {ls : ev_L} {x : Nat} {v : Value} : ∀ q ∈ ev_la ρ 0 (ev_s2 ls x v), q ∈ (x, ev_cv ρ v) :: (ev_la ρ 0 ls).filter (fun q => !(q.1 == x) && (!(q.1 == x + 1) && !(q.1 + 1 == x && q.2.category == 2))) := by
  intro q hq
  obtain ⟨j, w, h1, h2⟩ := ev_la_mem.mp hq
  rw [Nat.zero_add] at h2
  unfold ev_s2 at h1
  by_cases e1 : j = x + 1
  · subst e1
    rw [List.getElem?_set] at h1
    simp at h1
  · rw [List.getElem?_set_ne (fun q => e1 q.symm)] at h1
    by_cases e : j = x
    · subst e
      rw [List.getElem?_set] at h1
      simp only [if_true] at h1
      split at h1
      · cases h1
        rw [h2]
        exact List.mem_cons_self
      · cases h1
    · rw [List.getElem?_set_ne (fun q => e q.symm)] at h1
      obtain ⟨h3, h4⟩ := ev_kl_get h1
      refine List.mem_cons_of_mem _ (List.mem_filter.mpr ⟨ev_la_mem.mpr ⟨j, w, h3, by rw [Nat.zero_add]; exact h2⟩, ?_⟩)
      rw [h2]
      simp only [Bool.and_eq_true, Bool.not_eq_true', beq_eq_false_iff_ne, ne_eq, Bool.and_eq_false_iff, ev_cv_cat]
      refine ⟨e, e1, ?_⟩
      by_cases g : j + 1 = x
      · exact Or.inr (fun z => h4 ⟨g, z⟩)
      · exact Or.inl g
/-- the locals at the entry -/
def ev_sl (as : List Value) : ev_L := match as with
  | [] => []
  | v :: r => if v.category = 2 then some v :: none :: ev_sl r else some v :: ev_sl r
def ev_ent (nL : Nat) (as : List Value) : ev_L := ev_sl as ++ List.replicate (nL - (ev_sl as).length) none
theorem ev_sl_mem (ρ : Nat → Nat) : ∀ (as : List Value) (k : Nat), ∀ q ∈ ev_la ρ k (ev_sl as), q ∈ lv_args k (as.map (ev_cv ρ))
  | [], k, q, h => by simp [ev_sl, ev_la] at h
  | v :: r, k, q, h => by
    unfold ev_sl at h
    show q ∈ (k, ev_cv ρ v) :: lv_args (if (ev_cv ρ v).category = 2 then k + 2 else k + 1) (r.map (ev_cv ρ))
    rw [ev_cv_cat]
    split at h
    · rename_i hc
      rw [if_pos hc]
      have h' : q ∈ (k, ev_cv ρ v) :: ev_la ρ (k + 1 + 1) (ev_sl r) := h
      rcases List.mem_cons.mp h' with e | h2
      · rw [e]; exact List.mem_cons_self
      · exact List.mem_cons_of_mem _ (ev_sl_mem ρ r (k + 2) q h2)
    · rename_i hc
      rw [if_neg hc]
      have h' : q ∈ (k, ev_cv ρ v) :: ev_la ρ (k + 1) (ev_sl r) := h
      rcases List.mem_cons.mp h' with e | h2
      · rw [e]; exact List.mem_cons_self
      · exact List.mem_cons_of_mem _ (ev_sl_mem ρ r (k + 1) q h2)
theorem ev_sl_len (ρ : Nat → Nat) : ∀ as : List Value, (lg_sl (as.map (ev_cv ρ))).length = (ev_sl as).length
  | [] => rfl
  | v :: r => by
    have ih := ev_sl_len ρ r
    unfold lg_sl at ih ⊢
    rw [List.map_cons, List.flatMap_cons, List.length_append, ih, ev_cv_cat]
    rw [ev_sl]
    split <;> simp <;> omega
theorem ev_ent_sub (ρ : Nat → Nat) (nL : Nat) (as : List Value) : ∀ q ∈ ev_la ρ 0 (ev_ent nL as), q ∈ lv_args 0 (as.map (ev_cv ρ)) := by
  intro q hq
  obtain ⟨x, v, h1, h2⟩ := ev_la_mem.mp hq
  refine ev_sl_mem ρ as 0 q (ev_la_mem.mpr ⟨x, v, ?_, h2⟩)
  unfold ev_ent at h1
  by_cases hl : x < (ev_sl as).length
  · rw [List.getElem?_append_left hl] at h1; exact h1
  · rw [List.getElem?_append_right (by omega), List.getElem?_replicate] at h1
    split at h1 <;> simp at h1
theorem ev_ent_len {nL : Nat} {as : List Value} (h : (ev_sl as).length ≤ nL) : (ev_ent nL as).length = nL := by
  unfold ev_ent
  rw [List.length_append, List.length_replicate]
  omega
theorem ev_kl_len (ls : ev_L) (x : Nat) : (ev_kl ls x).length = ls.length := by
  unfold ev_kl
  split
  · rfl
  · split
    · split
      · rw [List.length_set]
      · rfl
    · rfl
theorem ev_s1_len (ls : ev_L) (x : Nat) (v : Value) : (ev_s1 ls x v).length = ls.length := by unfold ev_s1; rw [List.length_set, ev_kl_len]
theorem ev_s2_len (ls : ev_L) (x : Nat) (v : Value) : (ev_s2 ls x v).length = ls.length := by unfold ev_s2; rw [List.length_set, List.length_set, ev_kl_len]
/-- links within the nest; casts that go, casts that don't -/
def ev_nm : List (String × Nat × MethodName × String) := [("WithEyesBound$Ring", 64, yX11_isWithin, "WithEyesBound"), ("WithEyesBound$Odds", 92, yX11_commonDivisor, "WithEyesBound"), ("WithEyesBound$Ring", 87, yX11_mixed, "WithEyesBound"), ("WithEyesBound$Odds", 105, yX11_mixed, "WithEyesBound"), ("WithEyesBound$Naming", 81, yX11_mixed, "WithEyesBound"), ("WithEyesBound$Page", 51, yX11_mixed, "WithEyesBound")]
def ev_nf : List (String × Nat × String × String) := [("WithEyesBound$Ring", 51, "ROW_STEP", "[I"), ("WithEyesBound$Ring", 57, "COLUMN_STEP", "[I"), ("WithEyesBound$Odds", 82, "FELT", "[I"), ("WithEyesBound$Behind", 15, "ROW_STEP", "[I"), ("WithEyesBound$Behind", 19, "COLUMN_STEP", "[I")]
def ev_cy : List (String × String) := [(RX10, RX9), (RX2, RX1)]
def ev_cn : List (String × String) := [(RX6, RX9), (RX6, RX10), (RX6, RX1), (RX6, RX2), (RX6, RX0), (RX9, RX10), (RX9, RX1), (RX9, RX2), (RX9, RX0), (RX10, RX1), (RX10, RX2), (RX10, RX0), (RX1, RX9), (RX1, RX10), (RX1, RX2), (RX1, RX0), (RX2, RX9), (RX2, RX10), (RX2, RX0), (RX0, RX9), (RX0, RX10), (RX0, RX1), (RX0, RX2)]
/-- what lies outside the heap of the abstract machine -/
def ev_G (ρ : Nat → Nat) (A : Nat → Prop) (U : State) (H : Heap) : Prop :=
  (va_Z "WithEyesBound" "FELT" "[I" (.ref (ρ 1000)) A U H ∧ va_Z "WithEyesBound" "ROW_STEP" "[I" (.ref (ρ 1001)) A U H ∧ va_Z "WithEyesBound" "COLUMN_STEP" "[I" (.ref (ρ 1002)) A U H ∧
  (∀ a, 1000 ≤ a → a < 1003 → va_T .int (ρ a) (ev_sn a) (fun j => .int (ev_sf a j)) A U H)) ∧ (vk_R "WithEyesBound$Page" 23 ".bpx" (ρ 2000) U ∧
  va_O "java/lang/String" (ρ 2000) A U H ∧ va_OF "java/lang/String" "coder" "B" (.int 0) (ρ 2000) A U H ∧ va_OF "java/lang/String" "value" "[B" (.ref (ρ 2001)) (ρ 2000) A U H ∧ va_T .byte (ρ 2001) (ev_sn 2001) (fun j => .int (ev_sf 2001 j)) A U H ∧
  va_Z "java/lang/String" "COMPACT_STRINGS" "Z" (.int 1) A U H) ∧
  ((∀ q ∈ ev_nm, va_Nw (.methodLinkNest q.1 q.2.1 q.2.2.1 q.2.2.2) U) ∧ (∀ q ∈ ev_nf, va_Nw (.fieldLinkNest q.1 q.2.1 "WithEyesBound" q.2.2.1 q.2.2.2 "WithEyesBound") U) ∧ (∀ q ∈ ev_cy, va_Nw (.castable q.1 q.2) U) ∧ ∀ q ∈ ev_cn, va_Nc q.1 q.2 U)
theorem ev_G.warm {ρ : Nat → Nat} {A : Nat → Prop} {s U : State} {H : Heap} (hW : s.WarmedH U.vm) (h : ev_G ρ A s H) : ev_G ρ A U H := by
  obtain ⟨⟨h1, h2, h3, h4⟩, ⟨h5, h6, h7, h8, h9, h10⟩, g1, g2, g3, g4⟩ := h
  exact ⟨⟨h1.moved hW.alike, h2.moved hW.alike, h3.moved hW.alike, fun a x y => (h4 a x y).moved hW.alike⟩, ⟨h5.warm hW, va_O.moved hW.alike h6, va_OF.moved hW.alike h7, va_OF.moved hW.alike h8, h9.moved hW.alike, h10.moved hW.alike⟩, fun q hq => (g1 q hq).warmM hW, fun q hq => (g2 q hq).warmF hW, fun q hq => (g3 q hq).warmC hW, fun q hq => (g4 q hq).moved hW.alike⟩
theorem ev_G.same {ρ : Nat → Nat} {A : Nat → Prop} {s U : State} {H : Heap} (hv : U.vm = s.vm) (h : ev_G ρ A s H) : ev_G ρ A U H := by
  obtain ⟨⟨h1, h2, h3, h4⟩, ⟨h5, h6, h7, h8, h9, h10⟩, g1, g2, g3, g4⟩ := h
  have hA : s.vm.Alike U.vm := by rw [hv]; exact Vm.Alike.refl s.vm
  exact ⟨⟨h1.moved hA, h2.moved hA, h3.moved hA, fun a x y => (h4 a x y).moved hA⟩, ⟨h5.same hv, va_O.moved hA h6, va_OF.moved hA h7, va_OF.moved hA h8, h9.moved hA, h10.moved hA⟩, fun q hq => va_Nw.same rfl hv.symm (g1 q hq), fun q hq => va_Nw.same rfl hv.symm (g2 q hq), fun q hq => va_Nw.same rfl hv.symm (g3 q hq), fun q hq => (g4 q hq).moved hA⟩
theorem ev_G.kept {ρ : Nat → Nat} {A : Nat → Prop} {U : State} {H H1 : Heap} (h : ev_G ρ A U H) (hq : ∀ a : Nat, a < H.size → ¬ A a → H1[a]? = H[a]?) : ev_G ρ A U H1 := by
  obtain ⟨⟨h1, h2, h3, h4⟩, ⟨h5, h6, h7, h8, h9, h10⟩, g⟩ := h
  exact ⟨⟨h1.kept hq, h2.kept hq, h3.kept hq, fun a x y => (h4 a x y).kept hq⟩, ⟨h5, h6.kept hq, h7.kept hq, h8.kept hq, h9.kept hq, h10.kept hq⟩, g⟩
theorem ev_G.narrow {ρ : Nat → Nat} {A B : Nat → Prop} {U : State} {H : Heap} (h : ev_G ρ A U H) (hAB : ∀ q, B q → A q) : ev_G ρ B U H := by
  obtain ⟨⟨h1, h2, h3, h4⟩, ⟨h5, h6, h7, h8, h9, h10⟩, g⟩ := h
  exact ⟨⟨h1.narrow hAB, h2.narrow hAB, h3.narrow hAB, fun a x y => (h4 a x y).narrow hAB⟩, ⟨h5, h6.narrow hAB, h7.narrow hAB, h8.narrow hAB, h9.narrow hAB, h10.narrow hAB⟩, g⟩
end
section
/-! ===== WHAT AN ENTRY OF A METHOD'S TABLE MUST BE ===== -/
/-- the class that it is of, name, bytes, locals, answer, entries, places of words (its code, its class initialised) -/
abbrev ev_MI : Type := String × MethodName × ByteArray × Nat × Option FieldType × List ev_E × List Nat
def ev_wd (P : List Nat) (j : Nat) : Option Cond := match P[j]? with
  | some p => lw_tbl[p]?
  | none => none
def ev_pn (y : MethodName) (n : Nat) : Bool := decide (y.cls ≠ "java/lang/invoke/MethodHandle" ∧ y.cls ≠ "java/lang/invoke/VarHandle" ∧ (parseMethodDescriptor y.desc).map (fun d => d.parameters.length) = some n)
/-- the name of a class by its number -/
def ev_cl (ci : Nat) : Option String := if ci = 2000 then some "java/lang/String" else (vwCl[ci]?).map (fun q => q.1)
def ev_okF (own : String) (idx x : Nat) (P : List Nat) (q : Nat × Nat) : Bool := match vwCl[q.1]? with
  | some (_, T, N) => decide (x < N) && (match P with
    | [_] => ev_w P 0 (.fieldLink own idx (T x).1 (T x).2.1 (T x).2.2.1)
    | [p, _] => (match lw_tbl[p]? with
      | some (.fieldLink _ _ ref _ _) => ev_w P 0 (.fieldLink own idx ref (T x).2.1 (T x).2.2.1) && ev_w P 1 (.sameField ref (T x).1 (T x).2.1 (T x).2.2.1)
      | _ => false)
    | _ => false)
  | none => false
def ev_dsc (t : Nat) : String := match t with
  | 0 => "I"
  | 1 => "J"
  | _ => "Z"
def ev_okP (x t : Nat) (q : Nat × Nat) : Bool := match vwCl[q.1]? with
  | some (_, T, _) => decide ((T x).2.2.2 = false ∧ (T x).2.2.1 = ev_dsc t ∧ t < 3)
  | none => false
def ev_okS (mt : List ev_MI) (own : String) (idx n : Nat) (D : List (Nat × Nat)) (P : List Nat) : Bool := match D with
  | [(0, k)] => (match mt[k]? with
    | some (_, y, cc, nL, rt, _, PM) => ev_pn y n && (ev_w PM 0 (.code y cc nL rt) && (decide (nL ≤ 21) && (ev_w P 1 (.static y) && (ev_w P 2 (.initialized y.cls) && (ev_w P 0 (.methodLink own idx y) || decide ((own, idx, y, "WithEyesBound") ∈ ev_nm))))))
    | none => false)
  | _ => false
def ev_okV1 (mt : List ev_MI) (own : String) (idx n : Nat) (C : String) (k : Nat) (P : List Nat) : Bool := match mt[k]? with
  | some (_, y, cc, nL, rt, _, PM) => ev_pn y n && (ev_w PM 0 (.code y cc nL rt) && (decide (nL ≤ 21) && (if y.cls = C ∧ ev_w P 0 (.methodLink own idx y) = true then ev_w P 1 (.instanceMethod y) && (ev_w P 2 (.selects C y y) && ev_w P 3 (.initialized C)) else (match ev_wd P 0 with
    | some (.methodLink _ _ x) => ev_w P 0 (.methodLink own idx x) && (ev_w P 1 (.sameMethod x.cls x.cls x.name x.desc) && (ev_w P 2 (.selects C x y) && (ev_w P 3 (.instanceMethod y) && (ev_w P 4 (.initialized y.cls) && (ev_pn x n && (decide (x = y) || (ev_w P 5 (.instanceMethod x) && (match ev_wd P 6 with
      | some (.code _ b m0 r0) => ev_w P 6 (.code x b m0 r0)
      | _ => false))))))))
    | _ => false))))
  | none => false
def ev_okV (mt : List ev_MI) (own : String) (idx n : Nat) : List (Nat × Nat) → List Nat → Bool
  | [], _ => true
  | (ci, k) :: r, P => (match ev_cl ci with
    | some C => ev_okV1 mt own idx n C k (P.take 8)
    | none => false) && ev_okV mt own idx n r (P.drop 8)
def ev_okI (own : String) (idx : Nat) (P : List Nat) (q : Nat × Nat) : Bool := match vwCl[q.1]?, ev_wd P 0 with
  | some (C, _, _), some (.classLink _ _ nm) => ev_w P 0 (.classLink own idx nm) && (match q.2 with
    | 0 => decide ((C, nm) ∈ ev_cn)
    | 1 => decide (C = nm) || decide ((C, nm) ∈ ev_cy)
    | _ => false)
  | _, _ => false
def ev_okT (pc : Nat) (offs : List Int) : Nat → List (Nat × Nat) → Bool
  | _, [] => decide (offs = [])
  | k, (j, t) :: r => (match offs with
    | o :: os => decide (j = k ∧ k < 1000 ∧ (pc : Int) + o = (t : Int)) && ev_okT pc os (k + 1) r
    | [] => false)
def ev_ok (mt : List ev_MI) (own : String) (cc : ByteArray) (e : ev_E) : Bool := match e with
  | (pc, i, len, x, tgt, cst, D, P) => decide (decode cc pc = .ok (i, len)) && (match i with
    | .iconst n => decide (len = 1 ∧ cst = .int (Int32.ofInt n))
    | .bipush n => decide (len = 2 ∧ cst = .int (Int8.ofInt n).toInt32)
    | .sipush n => decide (len = 3 ∧ cst = .int (Int16.ofInt n).toInt32)
    | .lconst n => decide (len = 1 ∧ cst = .long (Int64.ofNat n.val))
    | .aconst_null => decide (len = 1 ∧ cst = .null)
    | .ldc k => decide (len = 2) && (match cst with
      | .int v => ev_w P 0 (.constant own k v)
      | .ref a => decide (a = 2000 ∧ own = "WithEyesBound$Page" ∧ k = 23)
      | _ => false)
    | .ldc_w k => decide (len = 3) && (match cst with
      | .int v => ev_w P 0 (.constant own k v)
      | _ => false)
    | .ldc2_w k => decide (len = 3) && (match cst with
      | .long v => ev_w P 0 (.constantLong own k v)
      | _ => false)
    | .getstatic k => decide (len = 3) && (decide (cst = .ref 1000 ∧ (own, k, "FELT", "[I") ∈ ev_nf) || (decide (cst = .ref 1001 ∧ (own, k, "ROW_STEP", "[I") ∈ ev_nf) || (decide (cst = .ref 1002 ∧ (own, k, "COLUMN_STEP", "[I") ∈ ev_nf) || (decide (cst = .int 1) && ev_w P 0 (.fieldLink own k "java/lang/String" "COMPACT_STRINGS" "Z")))))
    | .iload k | .lload k | .aload k | .istore k | .lstore k | .astore k => decide (len = 2 ∧ k = x)
    | .iload_n k | .lload_n k | .aload_n k | .istore_n k | .lstore_n k | .astore_n k => decide (len = 1 ∧ k.val = x)
    | .iinc k n => decide (len = 3 ∧ k = x ∧ cst = .int (Int32.ofInt n))
    | .goto off | .ifCond _ off | .if_icmp _ off | .ifnull off | .ifnonnull off => decide (len = 3 ∧ (pc : Int) + off = (tgt : Int))
    | .tableswitch d lo hi offs => decide ((pc : Int) + d = (tgt : Int) ∧ 0 ≤ lo ∧ hi = lo + D.length - 1 ∧ lo < 1000) && ev_okT pc offs.toList lo.toNat D
    | .getfield k => decide (len = 3) && (D.all (ev_okF own k x P) && (if tgt = 7 then (decide (cst = .int 0) && ev_w P 0 (.fieldLink own k "java/lang/String" "coder" "B")) || (decide (cst = .ref 2001) && ev_w P 0 (.fieldLink own k "java/lang/String" "value" "[B")) else true))
    | .putfield k => decide (len = 3) && (D.all (ev_okF own k x P) && D.all (ev_okP x tgt))
    | .instanceof k => decide (len = 3) && D.all (ev_okI own k P)
    | .invokestatic k => decide (len = 3) && (match x with
      | 101 => ev_w P 0 (.methodLink own k Lib.Math.min.name) && (ev_w P 1 (.static Lib.Math.min.name) && (ev_w P 2 (.initialized "java/lang/Math") && ev_w P 3 (.code Lib.Math.min.name Lib.Math.min.code 2 (some .int))))
      | 102 => ev_w P 0 (.methodLink own k Lib.MathLoose.max_long.x) && (ev_w P 1 (.static Lib.MathLoose.max_long.x) && (ev_w P 2 (.initialized "java/lang/Math") && ev_w P 3 (.code Lib.MathLoose.max_long.x Lib.MathLoose.max_long.code 4 (some .long))))
      | 103 => ev_w P 0 (.methodLink own k Lib.Math.abs.name) && (ev_w P 1 (.static Lib.Math.abs.name) && (ev_w P 2 (.initialized "java/lang/Math") && ev_w P 3 (.code Lib.Math.abs.name Lib.Math.abs.code 1 (some .int))))
      | 104 => ev_w P 0 (.methodLink own k arraycopyName) && (ev_w P 1 (.static arraycopyName) && (ev_w P 2 (.initialized "java/lang/System") && ev_w P 3 (.native arraycopyName)))
      | 105 => ev_w P 0 (.methodLink own k Lib.Math.max.name) && (ev_w P 1 (.static Lib.Math.max.name) && (ev_w P 2 (.initialized "java/lang/Math") && ev_w P 3 (.code Lib.Math.max.name Lib.Math.max.code 2 (some .int))))
      | _ => ev_okS mt own k x D P)
    | .invokevirtual k => decide (len = 3) && ev_okV mt own k x D P
    | _ => decide (len = 1))
/-- a method: its entries are as they must be, and it may be called -/
def ev_okM (mt : List ev_MI) (q : ev_MI) : Bool := match q with
  | (own, y, cc, nL, rt, I, P) => decide (y.cls = own) && (ev_w P 0 (.code y cc nL rt) && (decide (plainName y.cls = true) && I.all (ev_ok mt own cc)))
/-- the classes: their layouts stand in the tables -/
theorem ev_lay : ∀ q ∈ vwCl, ∀ w ∈ u_ws q.1 q.2.1 q.2.2, w ∈ ev_tb := by
  have h : vwCl.all (fun q => (u_ws q.1 q.2.1 q.2.2).all (fun w => decide (w ∈ lw_tbl) && goodWord w)) = true := by decide +kernel
  intro q hq w hw
  have h1 := List.all_eq_true.mp (List.all_eq_true.mp h q hq) w hw
  rw [Bool.and_eq_true, decide_eq_true_eq] at h1
  exact List.mem_filter.mpr h1
theorem ev_typ : ∀ q ∈ vwCl, ∃ ty : Nat → FieldType, (∀ k, k < q.2.2 → parseFieldDescriptor (q.2.1 k).2.2.1 = some (ty k)) ∧ ∀ a, a < q.2.2 → ∀ b, b < q.2.2 → a ≠ b → (q.2.1 a).2.1 ≠ (q.2.1 b).2.1 := by
  intro q hq
  simp only [vwCl, List.mem_cons, List.not_mem_nil, or_false] at hq
  rcases hq with rfl | rfl | rfl | rfl | rfl | rfl | rfl | rfl | rfl | rfl | rfl | rfl | rfl
  · exact ⟨tyX0, tyX0_ok, nmX0⟩
  · exact ⟨tyX1, tyX1_ok, nmX1⟩
  · exact ⟨tyX2, tyX2_ok, nmX2⟩
  · exact ⟨tyX3, tyX3_ok, nmX3⟩
  · exact ⟨tyX4, tyX4_ok, nmX4⟩
  · exact ⟨tyX5, tyX5_ok, nmX5⟩
  · exact ⟨tyX6, tyX6_ok, nmX6⟩
  · exact ⟨tyX7, tyX7_ok, nmX7⟩
  · exact ⟨tyX8, tyX8_ok, nmX8⟩
  · exact ⟨tyX9, tyX9_ok, nmX9⟩
  · exact ⟨tyX10, tyX10_ok, nmX10⟩
  · exact ⟨tyX11, tyX11_ok, nmX11⟩
  · exact ⟨tyX12, tyX12_ok, nmX12⟩
end
section
/-! ===== SOUNDNESS, instruction by instruction ===== -/
abbrev ev_ty (cA : Nat → ClassId) : List (ClassId × FieldType) := [(cA 0, .int), (cA 1, .long), (cA 2, .char), (cA 3, .byte), (cA 4, .object "WithEyesBound$Player"), (cA 5, .array .long)]
/-- what stays over a method's run -/
def ev_Fx (p : Program) (s : State) (m : MethodId) (args : Array Value) (c : Code) (own : String) (cc : ByteArray) (nL : Nat) (ρ : Nat → Nat) (cA : Nat → ClassId) (dC : Nat → ClassId) (dI : Nat → Nat → Nat) (A : Nat → Prop) : Prop :=
  p.tables.exec = Jvm.exec ∧ c.code = cc ∧ c.maxLocals = nL ∧ s.vm.findClass own = some m.cls ∧ (∀ w ∈ ev_tb, w.before args s = true) ∧ va_K (dC, dI) vwCl (ev_ty cA) s ∧ ev_G ρ A s s.heap ∧ ∀ q, s.heap.size ≤ q → A q
/-- the real machine stands where the abstract one does -/
def ev_Wc (p : Program) (l : Launch) (e : Env) (R : Room) (s : State) (m : MethodId) (args : Array Value) (below : List Frame) (meth : Method) (c : Code) (Q : State → Prop) (nL : Nat) (ρ : Nat → Nat) (cA : Nat → ClassId) (dC : Nat → ClassId) (dI : Nat → Nat → Nat) (A : Nat → Prop) (t : ev_S) : Prop :=
  ∀ (H : Heap) (locs : List Loc) (lr : Array Slot), va_P (dC, dI) vwCl (ev_cw ρ cA 0 t.2.2.2) H → va_D A (ev_cw ρ cA 0 t.2.2.2) → va_S A s.heap H locs → lv_has lr nL (ev_la ρ 0 t.2.1) → t.2.1.length = nL →
    W p l e R s m args below meth c H locs 0 0 Q (F0 m t.1 lr (t.2.2.1.map (ev_cv ρ)))
section EVS
variable {p : Program} {l : Launch} {e : Env} {R : Room} {s : State} {m : MethodId} {args : Array Value} {below : List Frame} {meth : Method} {c : Code} {Q : State → Prop} {own : String} {cc : ByteArray} {nL : Nat} {ρ : Nat → Nat} {cA : Nat → ClassId} {dC : Nat → ClassId} {dI : Nat → Nat → Nat} {A : Nat → Prop} {mt : List ev_MI}
set_option maxHeartbeats 4000000 in
theorem ev_snd1 (F : ev_Fx p s m args c own cc nL ρ cA dC dI A) {en : ev_E} (hok : ev_ok mt own cc en = true) {ls : ev_L} {st : List Value} {h : ev_H} {t : ev_S} (ho : ev_o1 en ls st h = some (.inl t)) (k : ev_Wc p l e R s m args below meth c Q nL ρ cA dC dI A t) : ev_Wc p l e R s m args below meth c Q nL ρ cA dC dI A (en.1, ls, st, h) := by
  obtain ⟨hx, hb, hml, hown, hts, hK, hG, hA⟩ := F
  obtain ⟨pc, i, len, x, tgt, cst, D, P⟩ := en
  intro H locs lr hP hD hS hl hlen
  change va_P (dC, dI) vwCl (ev_cw ρ cA 0 h) H at hP
  change va_D A (ev_cw ρ cA 0 h) at hD
  change lv_has lr nL (ev_la ρ 0 ls) at hl
  change ls.length = nL at hlen
  change W p l e R s m args below meth c H locs 0 0 Q (F0 m pc lr (st.map (ev_cv ρ)))
  cases i with
  | iconst n =>
    simp only [ev_ok, Bool.and_eq_true, decide_eq_true_eq] at hok
    obtain ⟨hd, rfl, rfl⟩ := hok
    simp only [ev_o1, ev_j, Option.some.injEq, Sum.inl.injEq] at ho
    subst ho
    exact lv_iconst hx hb hd rfl (k H locs lr hP hD hS hl hlen)
  | bipush n =>
    simp only [ev_ok, Bool.and_eq_true, decide_eq_true_eq] at hok
    obtain ⟨hd, rfl, rfl⟩ := hok
    simp only [ev_o1, ev_j, Option.some.injEq, Sum.inl.injEq] at ho
    subst ho
    exact lv_bipush hx hb hd rfl (k H locs lr hP hD hS hl hlen)
  | sipush n =>
    simp only [ev_ok, Bool.and_eq_true, decide_eq_true_eq] at hok
    obtain ⟨hd, rfl, rfl⟩ := hok
    simp only [ev_o1, ev_j, Option.some.injEq, Sum.inl.injEq] at ho
    subst ho
    exact lv_sipush hx hb hd rfl (k H locs lr hP hD hS hl hlen)
  | lconst n =>
    simp only [ev_ok, Bool.and_eq_true, decide_eq_true_eq] at hok
    obtain ⟨hd, rfl, rfl⟩ := hok
    simp only [ev_o1, ev_j, Option.some.injEq, Sum.inl.injEq] at ho
    subst ho
    exact lv_lconst hx hb hd rfl (k H locs lr hP hD hS hl hlen)
  | aconst_null =>
    simp only [ev_ok, Bool.and_eq_true, decide_eq_true_eq] at hok
    obtain ⟨hd, rfl, rfl⟩ := hok
    simp only [ev_o1, ev_j, Option.some.injEq, Sum.inl.injEq] at ho
    subst ho
    exact lv_null hx hb hd (k H locs lr hP hD hS hl hlen)
  | ldc n =>
    simp only [ev_ok, Bool.and_eq_true, decide_eq_true_eq] at hok
    obtain ⟨hd, rfl, hw⟩ := hok
    simp only [ev_o1, ev_j, Option.some.injEq, Sum.inl.injEq] at ho
    subst ho
    split at hw
    · exact lv_ldc hx hb hown (hts _ (ev_w_in hw)) hd (k H locs lr hP hD hS hl hlen)
    · rw [decide_eq_true_eq] at hw
      obtain ⟨rfl, rfl, rfl⟩ := hw
      exact va_ldcS hx hb hown hG.2.1.1 hd (k H locs lr hP hD hS hl hlen)
    · cases hw
  | ldc_w n =>
    simp only [ev_ok, Bool.and_eq_true, decide_eq_true_eq] at hok
    obtain ⟨hd, rfl, hw⟩ := hok
    simp only [ev_o1, ev_j, Option.some.injEq, Sum.inl.injEq] at ho
    subst ho
    split at hw
    · exact lv_ldcw hx hb hown (hts _ (ev_w_in hw)) hd (k H locs lr hP hD hS hl hlen)
    · cases hw
  | ldc2_w n =>
    simp only [ev_ok, Bool.and_eq_true, decide_eq_true_eq] at hok
    obtain ⟨hd, rfl, hw⟩ := hok
    simp only [ev_o1, ev_j, Option.some.injEq, Sum.inl.injEq] at ho
    subst ho
    split at hw
    · exact lv_ldc2 hx hb hown (hts _ (ev_w_in hw)) hd (k H locs lr hP hD hS hl hlen)
    · cases hw
  | getstatic n =>
    simp only [ev_ok, Bool.and_eq_true, Bool.or_eq_true, decide_eq_true_eq] at hok
    obtain ⟨hd, rfl, hw⟩ := hok
    simp only [ev_o1, ev_j, Option.some.injEq, Sum.inl.injEq] at ho
    subst ho
    rcases hw with ⟨rfl, hw⟩ | ⟨rfl, hw⟩ | ⟨rfl, hw⟩ | ⟨rfl, hw⟩
    · exact va_getsN hx hb hG.1.1 hS hown (va_Nw.use rfl (hG.2.2.2.1 _ hw)) (fun _ h => h) hd (k H locs lr hP hD hS hl hlen)
    · exact va_getsN hx hb hG.1.2.1 hS hown (va_Nw.use rfl (hG.2.2.2.1 _ hw)) (fun _ h => h) hd (k H locs lr hP hD hS hl hlen)
    · exact va_getsN hx hb hG.1.2.2.1 hS hown (va_Nw.use rfl (hG.2.2.2.1 _ hw)) (fun _ h => h) hd (k H locs lr hP hD hS hl hlen)
    · exact va_gets hx hb hG.2.1.2.2.2.2.2 hS hown (hts _ (ev_w_in hw)) (fun _ h => h) hd (k H locs lr hP hD hS hl hlen)
  | iload n =>
    simp only [ev_ok, Bool.and_eq_true, decide_eq_true_eq] at hok
    obtain ⟨hd, rfl, rfl⟩ := hok
    simp only [ev_o1] at ho
    split at ho
    · rename_i v hv
      simp only [ev_j, Option.some.injEq, Sum.inl.injEq] at ho
      subst ho
      exact lv_iload hx hb hd (ev_ld_has hl hv) (k H locs lr hP hD hS hl hlen)
    · cases ho
  | iload_n n =>
    simp only [ev_ok, Bool.and_eq_true, decide_eq_true_eq] at hok
    obtain ⟨hd, rfl, rfl⟩ := hok
    simp only [ev_o1] at ho
    split at ho
    · rename_i v hv
      simp only [ev_j, Option.some.injEq, Sum.inl.injEq] at ho
      subst ho
      exact lv_iload_n hx hb hd rfl (ev_ld_has hl hv) (k H locs lr hP hD hS hl hlen)
    · cases ho
  | lload n =>
    simp only [ev_ok, Bool.and_eq_true, decide_eq_true_eq] at hok
    obtain ⟨hd, rfl, rfl⟩ := hok
    simp only [ev_o1] at ho
    split at ho
    · rename_i v hv
      simp only [ev_j, Option.some.injEq, Sum.inl.injEq] at ho
      subst ho
      exact lv_lload hx hb hd (ev_ld_has hl hv) (k H locs lr hP hD hS hl hlen)
    · cases ho
  | lload_n n =>
    simp only [ev_ok, Bool.and_eq_true, decide_eq_true_eq] at hok
    obtain ⟨hd, rfl, rfl⟩ := hok
    simp only [ev_o1] at ho
    split at ho
    · rename_i v hv
      simp only [ev_j, Option.some.injEq, Sum.inl.injEq] at ho
      subst ho
      exact lv_lload_n hx hb hd rfl (ev_ld_has hl hv) (k H locs lr hP hD hS hl hlen)
    · cases ho
  | aload n =>
    simp only [ev_ok, Bool.and_eq_true, decide_eq_true_eq] at hok
    obtain ⟨hd, rfl, rfl⟩ := hok
    simp only [ev_o1] at ho
    split at ho
    · rename_i v hv
      simp only [ev_j, Option.some.injEq, Sum.inl.injEq] at ho
      subst ho
      exact lv_aload hx hb hd (ev_ld_has hl hv) (k H locs lr hP hD hS hl hlen)
    · rename_i hv
      simp only [ev_j, Option.some.injEq, Sum.inl.injEq] at ho
      subst ho
      exact lv_aloadN hx hb hd (ev_ld_has hl hv) (k H locs lr hP hD hS hl hlen)
    · cases ho
  | aload_n n =>
    simp only [ev_ok, Bool.and_eq_true, decide_eq_true_eq] at hok
    obtain ⟨hd, rfl, rfl⟩ := hok
    simp only [ev_o1] at ho
    split at ho
    · rename_i v hv
      simp only [ev_j, Option.some.injEq, Sum.inl.injEq] at ho
      subst ho
      exact lv_aload_n hx hb hd rfl (ev_ld_has hl hv) (k H locs lr hP hD hS hl hlen)
    · rename_i hv
      simp only [ev_j, Option.some.injEq, Sum.inl.injEq] at ho
      subst ho
      exact lv_aload_nN hx hb hd rfl (ev_ld_has hl hv) (k H locs lr hP hD hS hl hlen)
    · cases ho
  | istore n =>
    simp only [ev_ok, Bool.and_eq_true, decide_eq_true_eq] at hok
    obtain ⟨hd, rfl, rfl⟩ := hok
    simp only [ev_o1] at ho
    split at ho
    · split at ho
      · rename_i hlt
        simp only [ev_j, Option.some.injEq, Sum.inl.injEq] at ho
        subst ho
        exact lv_istore hx hb hd hl (hlen ▸ hlt) rfl (fun lr hl => k H locs lr hP hD hS (ev_has_mono hl (ev_s1_sub ρ)) ((ev_s1_len _ _ _).trans hlen))
      · cases ho
    · cases ho
  | istore_n n =>
    simp only [ev_ok, Bool.and_eq_true, decide_eq_true_eq] at hok
    obtain ⟨hd, rfl, rfl⟩ := hok
    simp only [ev_o1] at ho
    split at ho
    · split at ho
      · rename_i hlt
        simp only [ev_j, Option.some.injEq, Sum.inl.injEq] at ho
        subst ho
        exact lv_istore_n hx hb hd rfl hl (hlen ▸ hlt) rfl (fun lr hl => k H locs lr hP hD hS (ev_has_mono hl (ev_s1_sub ρ)) ((ev_s1_len _ _ _).trans hlen))
      · cases ho
    · cases ho
  | lstore n =>
    simp only [ev_ok, Bool.and_eq_true, decide_eq_true_eq] at hok
    obtain ⟨hd, rfl, rfl⟩ := hok
    simp only [ev_o1] at ho
    split at ho
    · split at ho
      · rename_i hlt
        simp only [ev_j, Option.some.injEq, Sum.inl.injEq] at ho
        subst ho
        exact lv_lstore hx hb hd hl (hlen ▸ hlt) rfl (fun lr hl => k H locs lr hP hD hS (ev_has_mono hl (ev_s2_sub ρ)) ((ev_s2_len _ _ _).trans hlen))
      · cases ho
    · cases ho
  | lstore_n n =>
    simp only [ev_ok, Bool.and_eq_true, decide_eq_true_eq] at hok
    obtain ⟨hd, rfl, rfl⟩ := hok
    simp only [ev_o1] at ho
    split at ho
    · split at ho
      · rename_i hlt
        simp only [ev_j, Option.some.injEq, Sum.inl.injEq] at ho
        subst ho
        exact lv_lstore_n hx hb hd rfl hl (hlen ▸ hlt) rfl (fun lr hl => k H locs lr hP hD hS (ev_has_mono hl (ev_s2_sub ρ)) ((ev_s2_len _ _ _).trans hlen))
      · cases ho
    · cases ho
  | astore n =>
    simp only [ev_ok, Bool.and_eq_true, decide_eq_true_eq] at hok
    obtain ⟨hd, rfl, rfl⟩ := hok
    simp only [ev_o1] at ho
    split at ho
    · split at ho
      · rename_i hlt
        simp only [ev_j, Option.some.injEq, Sum.inl.injEq] at ho
        subst ho
        exact lv_astore hx hb hd hl (hlen ▸ hlt) rfl (fun lr hl => k H locs lr hP hD hS (ev_has_mono hl (ev_s1_sub ρ)) ((ev_s1_len _ _ _).trans hlen))
      · cases ho
    · split at ho
      · rename_i hlt
        simp only [ev_j, Option.some.injEq, Sum.inl.injEq] at ho
        subst ho
        exact lv_astoreN hx hb hd hl (hlen ▸ hlt) rfl (fun lr hl => k H locs lr hP hD hS (ev_has_mono hl (ev_s1_sub ρ)) ((ev_s1_len _ _ _).trans hlen))
      · cases ho
    · cases ho
  | astore_n n =>
    simp only [ev_ok, Bool.and_eq_true, decide_eq_true_eq] at hok
    obtain ⟨hd, rfl, rfl⟩ := hok
    simp only [ev_o1] at ho
    split at ho
    · split at ho
      · rename_i hlt
        simp only [ev_j, Option.some.injEq, Sum.inl.injEq] at ho
        subst ho
        exact lv_astore_n hx hb hd rfl hl (hlen ▸ hlt) rfl (fun lr hl => k H locs lr hP hD hS (ev_has_mono hl (ev_s1_sub ρ)) ((ev_s1_len _ _ _).trans hlen))
      · cases ho
    · split at ho
      · rename_i hlt
        simp only [ev_j, Option.some.injEq, Sum.inl.injEq] at ho
        subst ho
        exact lv_astore_nN hx hb hd rfl hl (hlen ▸ hlt) rfl (fun lr hl => k H locs lr hP hD hS (ev_has_mono hl (ev_s1_sub ρ)) ((ev_s1_len _ _ _).trans hlen))
      · cases ho
    · cases ho
  | iinc n q =>
    simp only [ev_ok, Bool.and_eq_true, decide_eq_true_eq] at hok
    obtain ⟨hd, rfl, rfl, rfl⟩ := hok
    simp only [ev_o1] at ho
    split at ho
    · rename_i v w hv hw
      cases hw
      split at ho
      · rename_i hlt
        simp only [ev_j, Option.some.injEq, Sum.inl.injEq] at ho
        subst ho
        have hm : (n, Value.int v) ∈ ev_la ρ 0 ls := by
          unfold ev_ld at hv
          split at hv
          · rename_i w0 hw0
            cases hv
            exact ev_la_mem.mpr ⟨n, _, hw0, by rw [Nat.zero_add]; rfl⟩
          · cases hv
        obtain ⟨j, hj⟩ := List.mem_iff_getElem?.mp hm
        exact lv_iinc hx hb hd hl (k := j) hj rfl (hlen ▸ hlt) rfl (fun lr hl => k H locs lr hP hD hS (ev_has_mono hl (ev_s1_sub ρ)) ((ev_s1_len _ _ _).trans hlen))
      · cases ho
    · cases ho
  | _ => simp [ev_o1] at ho
end EVS
end
section
section EVS
variable {p : Program} {l : Launch} {e : Env} {R : Room} {s : State} {m : MethodId} {args : Array Value} {below : List Frame} {meth : Method} {c : Code} {Q : State → Prop} {own : String} {cc : ByteArray} {nL : Nat} {ρ : Nat → Nat} {cA : Nat → ClassId} {dC : Nat → ClassId} {dI : Nat → Nat → Nat} {A : Nat → Prop} {mt : List ev_MI}
set_option maxHeartbeats 4000000 in
theorem ev_snd2 (F : ev_Fx p s m args c own cc nL ρ cA dC dI A) {en : ev_E} (hok : ev_ok mt own cc en = true) {ls : ev_L} {st : List Value} {h : ev_H} {t : ev_S} (ho : ev_o2 en ls st h = some (.inl t)) (k : ev_Wc p l e R s m args below meth c Q nL ρ cA dC dI A t) : ev_Wc p l e R s m args below meth c Q nL ρ cA dC dI A (en.1, ls, st, h) := by
  obtain ⟨hx, hb, hml, hown, hts, hK, hG, hA⟩ := F
  obtain ⟨pc, i, len, x, tgt, cst, D, P⟩ := en
  intro H locs lr hP hD hS hl hlen
  change va_P (dC, dI) vwCl (ev_cw ρ cA 0 h) H at hP
  change va_D A (ev_cw ρ cA 0 h) at hD
  change lv_has lr nL (ev_la ρ 0 ls) at hl
  change ls.length = nL at hlen
  change W p l e R s m args below meth c H locs 0 0 Q (F0 m pc lr (st.map (ev_cv ρ)))
  cases i with
  | iadd =>
    simp only [ev_ok, Bool.and_eq_true, decide_eq_true_eq] at hok
    obtain ⟨hd, rfl⟩ := hok
    simp only [ev_o2] at ho
    split at ho
    · simp only [ev_j, Option.some.injEq, Sum.inl.injEq] at ho
      subst ho
      exact lv_iadd hx hb hd (k H locs lr hP hD hS hl hlen)
    · cases ho
  | isub =>
    simp only [ev_ok, Bool.and_eq_true, decide_eq_true_eq] at hok
    obtain ⟨hd, rfl⟩ := hok
    simp only [ev_o2] at ho
    split at ho
    · simp only [ev_j, Option.some.injEq, Sum.inl.injEq] at ho
      subst ho
      exact lv_isub hx hb hd (k H locs lr hP hD hS hl hlen)
    · cases ho
  | imul =>
    simp only [ev_ok, Bool.and_eq_true, decide_eq_true_eq] at hok
    obtain ⟨hd, rfl⟩ := hok
    simp only [ev_o2] at ho
    split at ho
    · simp only [ev_j, Option.some.injEq, Sum.inl.injEq] at ho
      subst ho
      exact lv_imul hx hb hd (k H locs lr hP hD hS hl hlen)
    · cases ho
  | iand =>
    simp only [ev_ok, Bool.and_eq_true, decide_eq_true_eq] at hok
    obtain ⟨hd, rfl⟩ := hok
    simp only [ev_o2] at ho
    split at ho
    · simp only [ev_j, Option.some.injEq, Sum.inl.injEq] at ho
      subst ho
      exact lv_iand hx hb hd (k H locs lr hP hD hS hl hlen)
    · cases ho
  | ineg =>
    simp only [ev_ok, Bool.and_eq_true, decide_eq_true_eq] at hok
    obtain ⟨hd, rfl⟩ := hok
    simp only [ev_o2] at ho
    split at ho
    · simp only [ev_j, Option.some.injEq, Sum.inl.injEq] at ho
      subst ho
      exact lv_ineg hx hb hd (k H locs lr hP hD hS hl hlen)
    · cases ho
  | ishr =>
    simp only [ev_ok, Bool.and_eq_true, decide_eq_true_eq] at hok
    obtain ⟨hd, rfl⟩ := hok
    simp only [ev_o2] at ho
    split at ho
    · simp only [ev_j, Option.some.injEq, Sum.inl.injEq] at ho
      subst ho
      exact lv_ishr hx hb hd (k H locs lr hP hD hS hl hlen)
    · cases ho
  | ladd =>
    simp only [ev_ok, Bool.and_eq_true, decide_eq_true_eq] at hok
    obtain ⟨hd, rfl⟩ := hok
    simp only [ev_o2] at ho
    split at ho
    · simp only [ev_j, Option.some.injEq, Sum.inl.injEq] at ho
      subst ho
      exact lv_ladd hx hb hd (k H locs lr hP hD hS hl hlen)
    · cases ho
  | lsub =>
    simp only [ev_ok, Bool.and_eq_true, decide_eq_true_eq] at hok
    obtain ⟨hd, rfl⟩ := hok
    simp only [ev_o2] at ho
    split at ho
    · simp only [ev_j, Option.some.injEq, Sum.inl.injEq] at ho
      subst ho
      exact lv_lsub hx hb hd (k H locs lr hP hD hS hl hlen)
    · cases ho
  | lmul =>
    simp only [ev_ok, Bool.and_eq_true, decide_eq_true_eq] at hok
    obtain ⟨hd, rfl⟩ := hok
    simp only [ev_o2] at ho
    split at ho
    · simp only [ev_j, Option.some.injEq, Sum.inl.injEq] at ho
      subst ho
      exact lv_lmul hx hb hd (k H locs lr hP hD hS hl hlen)
    · cases ho
  | land =>
    simp only [ev_ok, Bool.and_eq_true, decide_eq_true_eq] at hok
    obtain ⟨hd, rfl⟩ := hok
    simp only [ev_o2] at ho
    split at ho
    · simp only [ev_j, Option.some.injEq, Sum.inl.injEq] at ho
      subst ho
      exact lv_land hx hb hd (k H locs lr hP hD hS hl hlen)
    · cases ho
  | lneg =>
    simp only [ev_ok, Bool.and_eq_true, decide_eq_true_eq] at hok
    obtain ⟨hd, rfl⟩ := hok
    simp only [ev_o2] at ho
    split at ho
    · simp only [ev_j, Option.some.injEq, Sum.inl.injEq] at ho
      subst ho
      exact lv_lneg hx hb hd (k H locs lr hP hD hS hl hlen)
    · cases ho
  | iushr =>
    simp only [ev_ok, Bool.and_eq_true, decide_eq_true_eq] at hok
    obtain ⟨hd, rfl⟩ := hok
    simp only [ev_o2] at ho
    split at ho
    · simp only [ev_j, Option.some.injEq, Sum.inl.injEq] at ho
      subst ho
      exact lv_iushr hx hb hd rfl (k H locs lr hP hD hS hl hlen)
    · cases ho
  | lshr =>
    simp only [ev_ok, Bool.and_eq_true, decide_eq_true_eq] at hok
    obtain ⟨hd, rfl⟩ := hok
    simp only [ev_o2] at ho
    split at ho
    · simp only [ev_j, Option.some.injEq, Sum.inl.injEq] at ho
      subst ho
      exact lv_lshr hx hb hd rfl (k H locs lr hP hD hS hl hlen)
    · cases ho
  | lushr =>
    simp only [ev_ok, Bool.and_eq_true, decide_eq_true_eq] at hok
    obtain ⟨hd, rfl⟩ := hok
    simp only [ev_o2] at ho
    split at ho
    · simp only [ev_j, Option.some.injEq, Sum.inl.injEq] at ho
      subst ho
      exact lv_lushr hx hb hd rfl (k H locs lr hP hD hS hl hlen)
    · cases ho
  | i2l =>
    simp only [ev_ok, Bool.and_eq_true, decide_eq_true_eq] at hok
    obtain ⟨hd, rfl⟩ := hok
    simp only [ev_o2] at ho
    split at ho
    · simp only [ev_j, Option.some.injEq, Sum.inl.injEq] at ho
      subst ho
      exact lv_i2l hx hb hd rfl (k H locs lr hP hD hS hl hlen)
    · cases ho
  | l2i =>
    simp only [ev_ok, Bool.and_eq_true, decide_eq_true_eq] at hok
    obtain ⟨hd, rfl⟩ := hok
    simp only [ev_o2] at ho
    split at ho
    · simp only [ev_j, Option.some.injEq, Sum.inl.injEq] at ho
      subst ho
      exact lv_l2i hx hb hd rfl (k H locs lr hP hD hS hl hlen)
    · cases ho
  | i2b =>
    simp only [ev_ok, Bool.and_eq_true, decide_eq_true_eq] at hok
    obtain ⟨hd, rfl⟩ := hok
    simp only [ev_o2] at ho
    split at ho
    · simp only [ev_j, Option.some.injEq, Sum.inl.injEq] at ho
      subst ho
      exact lv_i2b hx hb hd rfl (k H locs lr hP hD hS hl hlen)
    · cases ho
  | i2c =>
    simp only [ev_ok, Bool.and_eq_true, decide_eq_true_eq] at hok
    obtain ⟨hd, rfl⟩ := hok
    simp only [ev_o2] at ho
    split at ho
    · simp only [ev_j, Option.some.injEq, Sum.inl.injEq] at ho
      subst ho
      exact lv_i2c hx hb hd rfl (k H locs lr hP hD hS hl hlen)
    · cases ho
  | lcmp =>
    simp only [ev_ok, Bool.and_eq_true, decide_eq_true_eq] at hok
    obtain ⟨hd, rfl⟩ := hok
    simp only [ev_o2] at ho
    split at ho
    · simp only [ev_j, Option.some.injEq, Sum.inl.injEq] at ho
      subst ho
      exact W.lcmp hx hb hd (k H locs lr hP hD hS hl hlen)
    · cases ho
  | idiv =>
    simp only [ev_ok, Bool.and_eq_true, decide_eq_true_eq] at hok
    obtain ⟨hd, rfl⟩ := hok
    simp only [ev_o2] at ho
    split at ho
    · split at ho
      · rename_i hg
        simp only [ev_j, Option.some.injEq, Sum.inl.injEq] at ho
        subst ho
        exact lv_idiv hx hb hd hg (k H locs lr hP hD hS hl hlen)
      · cases ho
    · cases ho
  | irem =>
    simp only [ev_ok, Bool.and_eq_true, decide_eq_true_eq] at hok
    obtain ⟨hd, rfl⟩ := hok
    simp only [ev_o2] at ho
    split at ho
    · split at ho
      · rename_i hg
        simp only [ev_j, Option.some.injEq, Sum.inl.injEq] at ho
        subst ho
        exact lv_irem hx hb hd hg (k H locs lr hP hD hS hl hlen)
      · cases ho
    · cases ho
  | ldiv =>
    simp only [ev_ok, Bool.and_eq_true, decide_eq_true_eq] at hok
    obtain ⟨hd, rfl⟩ := hok
    simp only [ev_o2] at ho
    split at ho
    · split at ho
      · rename_i hg
        simp only [ev_j, Option.some.injEq, Sum.inl.injEq] at ho
        subst ho
        exact lv_ldiv hx hb hd hg (k H locs lr hP hD hS hl hlen)
      · cases ho
    · cases ho
  | lrem =>
    simp only [ev_ok, Bool.and_eq_true, decide_eq_true_eq] at hok
    obtain ⟨hd, rfl⟩ := hok
    simp only [ev_o2] at ho
    split at ho
    · split at ho
      · rename_i hg
        simp only [ev_j, Option.some.injEq, Sum.inl.injEq] at ho
        subst ho
        exact lv_lrem hx hb hd hg (k H locs lr hP hD hS hl hlen)
      · cases ho
    · cases ho
  | dup =>
    simp only [ev_ok, Bool.and_eq_true, decide_eq_true_eq] at hok
    obtain ⟨hd, rfl⟩ := hok
    simp only [ev_o2] at ho
    split at ho
    · split at ho
      · rename_i hg
        simp only [ev_j, Option.some.injEq, Sum.inl.injEq] at ho
        subst ho
        exact lv_dup hx hb hd ((ev_cv_cat ρ _).trans hg) (k H locs lr hP hD hS hl hlen)
      · cases ho
    · cases ho
  | pop =>
    simp only [ev_ok, Bool.and_eq_true, decide_eq_true_eq] at hok
    obtain ⟨hd, rfl⟩ := hok
    simp only [ev_o2] at ho
    split at ho
    · split at ho
      · rename_i hg
        simp only [ev_j, Option.some.injEq, Sum.inl.injEq] at ho
        subst ho
        exact lv_pop hx hb hd ((ev_cv_cat ρ _).trans hg) (k H locs lr hP hD hS hl hlen)
      · cases ho
    · cases ho
  | dup2 =>
    simp only [ev_ok, Bool.and_eq_true, decide_eq_true_eq] at hok
    obtain ⟨hd, rfl⟩ := hok
    simp only [ev_o2] at ho
    split at ho
    · split at ho
      · rename_i hg
        simp only [ev_j, Option.some.injEq, Sum.inl.injEq] at ho
        subst ho
        exact lv_dup2_11 hx hb hd ((ev_cv_cat ρ _).trans hg.1) ((ev_cv_cat ρ _).trans hg.2) (k H locs lr hP hD hS hl hlen)
      · cases ho
    · cases ho
  | _ => simp [ev_o2] at ho
end EVS
end
section
theorem ev_swOut {pc : Nat} {a : Int32} {t : Nat} : ∀ {offs : List Int} {lo : Nat} {D : List (Nat × Nat)}, ev_okT pc offs lo D = true → (a.toInt < lo ∨ (lo : Int) + D.length ≤ a.toInt) → ev_sw D a t = t
  | _, _, [], _, _ => rfl
  | offs, lo, (j, u) :: r, h, ha => by
    unfold ev_okT at h
    split at h
    · rw [Bool.and_eq_true, decide_eq_true_eq] at h
      obtain ⟨⟨rfl, hk, -⟩, h2⟩ := h
      unfold ev_sw
      rw [if_neg]
      · exact ev_swOut h2 (by simp only [List.length_cons] at ha; omega)
      · intro q
        have e : a.toInt = (j : Int) := by rw [q]; exact nI_toInt (by omega)
        simp only [List.length_cons] at ha
        omega
    · cases h
theorem ev_swIn {pc : Nat} {a : Int32} {t : Nat} : ∀ {offs : List Int} {lo : Nat} {D : List (Nat × Nat)}, ev_okT pc offs lo D = true → (lo : Int) ≤ a.toInt → a.toInt < (lo : Int) + D.length → ∃ u, ev_sw D a t = u ∧ ∃ o, offs[(a.toInt - lo).toNat]? = some o ∧ (pc : Int) + o = (u : Int)
  | _, _, [], _, h1, h2 => by simp only [List.length_nil] at h2; omega
  | offs, lo, (j, u) :: r, h, h1, h2 => by
    unfold ev_okT at h
    split at h
    · rename_i o os
      rw [Bool.and_eq_true, decide_eq_true_eq] at h
      obtain ⟨⟨rfl, hk, hu⟩, h3⟩ := h
      by_cases q : a = Int32.ofNat j
      · have e : a.toInt = (j : Int) := by rw [q]; exact nI_toInt (by omega)
        refine ⟨u, by unfold ev_sw; rw [if_pos q], o, ?_, hu⟩
        rw [show (a.toInt - (j : Int)).toNat = 0 by omega]
        rfl
      · have ne : a.toInt ≠ (j : Int) := fun z => q (Int32.toInt_inj.mp (by rw [z]; exact (nI_toInt (by omega)).symm))
        simp only [List.length_cons] at h2
        obtain ⟨u', e1, o', e2, e3⟩ := ev_swIn (a := a) (t := t) h3 (by omega) (by omega)
        refine ⟨u', by unfold ev_sw; rw [if_neg q]; exact e1, o', ?_, e3⟩
        rw [show (a.toInt - (j : Int)).toNat = (a.toInt - ((j + 1 : Nat) : Int)).toNat + 1 by omega, List.getElem?_cons_succ]
        exact e2
    · cases h
section EVS
variable {p : Program} {l : Launch} {e : Env} {R : Room} {s : State} {m : MethodId} {args : Array Value} {below : List Frame} {meth : Method} {c : Code} {Q : State → Prop} {own : String} {cc : ByteArray} {nL : Nat} {ρ : Nat → Nat} {cA : Nat → ClassId} {dC : Nat → ClassId} {dI : Nat → Nat → Nat} {A : Nat → Prop} {mt : List ev_MI}
set_option maxHeartbeats 4000000 in
theorem ev_snd3 (F : ev_Fx p s m args c own cc nL ρ cA dC dI A) {en : ev_E} (hok : ev_ok mt own cc en = true) {ls : ev_L} {st : List Value} {h : ev_H} {t : ev_S} (ho : ev_o3 en ls st h = some (.inl t)) (k : ev_Wc p l e R s m args below meth c Q nL ρ cA dC dI A t) : ev_Wc p l e R s m args below meth c Q nL ρ cA dC dI A (en.1, ls, st, h) := by
  obtain ⟨hx, hb, hml, hown, hts, hK, hG, hA⟩ := F
  obtain ⟨pc, i, len, x, tgt, cst, D, P⟩ := en
  intro H locs lr hP hD hS hl hlen
  change va_P (dC, dI) vwCl (ev_cw ρ cA 0 h) H at hP
  change va_D A (ev_cw ρ cA 0 h) at hD
  change lv_has lr nL (ev_la ρ 0 ls) at hl
  change ls.length = nL at hlen
  change W p l e R s m args below meth c H locs 0 0 Q (F0 m pc lr (st.map (ev_cv ρ)))
  cases i with
  | goto off =>
    simp only [ev_ok, Bool.and_eq_true, decide_eq_true_eq] at hok
    obtain ⟨hd, rfl, ht⟩ := hok
    simp only [ev_o3, ev_j, Option.some.injEq, Sum.inl.injEq] at ho
    subst ho
    exact lv_goto hx hb hd ht (k H locs lr hP hD hS hl hlen)
  | ifCond k0 off =>
    simp only [ev_ok, Bool.and_eq_true, decide_eq_true_eq] at hok
    obtain ⟨hd, rfl, ht⟩ := hok
    simp only [ev_o3] at ho
    split at ho
    · simp only [ev_j, Option.some.injEq, Sum.inl.injEq] at ho
      subst ho
      have k1 := k H locs lr hP hD hS hl hlen
      cases k0 with
      | eq => exact lv_if_eq hx hb hd ht (fun q => W.eq (congrArg (fun z => F0 m z lr _) (by unfold ev_if; first | exact (if_pos q).symm | exact (if_neg q).symm | exact (if_neg (Int32.not_lt.mpr q)).symm | exact (if_pos (Int32.not_le.mp q)).symm | exact (if_pos (Classical.not_not.mp q)).symm)) k1) (fun q => W.eq (congrArg (fun z => F0 m z lr _) (by unfold ev_if; first | exact (if_pos q).symm | exact (if_neg q).symm | exact (if_neg (Int32.not_lt.mpr q)).symm | exact (if_pos (Int32.not_le.mp q)).symm | exact (if_pos (Classical.not_not.mp q)).symm)) k1)
      | ne => exact lv_if_ne hx hb hd ht (fun q => W.eq (congrArg (fun z => F0 m z lr _) (by unfold ev_if; first | exact (if_pos q).symm | exact (if_neg q).symm | exact (if_neg (Int32.not_lt.mpr q)).symm | exact (if_pos (Int32.not_le.mp q)).symm | exact (if_pos (Classical.not_not.mp q)).symm)) k1) (fun q => W.eq (congrArg (fun z => F0 m z lr _) (by unfold ev_if; first | exact (if_pos q).symm | exact (if_neg q).symm | exact (if_neg (Int32.not_lt.mpr q)).symm | exact (if_pos (Int32.not_le.mp q)).symm | exact (if_pos (Classical.not_not.mp q)).symm)) k1)
      | lt => exact lv_if_lt hx hb hd ht (fun q => W.eq (congrArg (fun z => F0 m z lr _) (by unfold ev_if; first | exact (if_pos q).symm | exact (if_neg q).symm | exact (if_neg (Int32.not_lt.mpr q)).symm | exact (if_pos (Int32.not_le.mp q)).symm | exact (if_pos (Classical.not_not.mp q)).symm)) k1) (fun q => W.eq (congrArg (fun z => F0 m z lr _) (by unfold ev_if; first | exact (if_pos q).symm | exact (if_neg q).symm | exact (if_neg (Int32.not_lt.mpr q)).symm | exact (if_pos (Int32.not_le.mp q)).symm | exact (if_pos (Classical.not_not.mp q)).symm)) k1)
      | ge => exact lv_if_ge hx hb hd ht (fun q => W.eq (congrArg (fun z => F0 m z lr _) (by unfold ev_if; first | exact (if_pos q).symm | exact (if_neg q).symm | exact (if_neg (Int32.not_lt.mpr q)).symm | exact (if_pos (Int32.not_le.mp q)).symm | exact (if_pos (Classical.not_not.mp q)).symm)) k1) (fun q => W.eq (congrArg (fun z => F0 m z lr _) (by unfold ev_if; first | exact (if_pos q).symm | exact (if_neg q).symm | exact (if_neg (Int32.not_lt.mpr q)).symm | exact (if_pos (Int32.not_le.mp q)).symm | exact (if_pos (Classical.not_not.mp q)).symm)) k1)
      | gt => exact lv_if_gt hx hb hd ht (fun q => W.eq (congrArg (fun z => F0 m z lr _) (by unfold ev_if; first | exact (if_pos q).symm | exact (if_neg q).symm | exact (if_neg (Int32.not_lt.mpr q)).symm | exact (if_pos (Int32.not_le.mp q)).symm | exact (if_pos (Classical.not_not.mp q)).symm)) k1) (fun q => W.eq (congrArg (fun z => F0 m z lr _) (by unfold ev_if; first | exact (if_pos q).symm | exact (if_neg q).symm | exact (if_neg (Int32.not_lt.mpr q)).symm | exact (if_pos (Int32.not_le.mp q)).symm | exact (if_pos (Classical.not_not.mp q)).symm)) k1)
      | le => exact lv_if_le hx hb hd ht (fun q => W.eq (congrArg (fun z => F0 m z lr _) (by unfold ev_if; first | exact (if_pos q).symm | exact (if_neg q).symm | exact (if_neg (Int32.not_lt.mpr q)).symm | exact (if_pos (Int32.not_le.mp q)).symm | exact (if_pos (Classical.not_not.mp q)).symm)) k1) (fun q => W.eq (congrArg (fun z => F0 m z lr _) (by unfold ev_if; first | exact (if_pos q).symm | exact (if_neg q).symm | exact (if_neg (Int32.not_lt.mpr q)).symm | exact (if_pos (Int32.not_le.mp q)).symm | exact (if_pos (Classical.not_not.mp q)).symm)) k1)
    · cases ho
  | if_icmp k0 off =>
    simp only [ev_ok, Bool.and_eq_true, decide_eq_true_eq] at hok
    obtain ⟨hd, rfl, ht⟩ := hok
    simp only [ev_o3] at ho
    split at ho
    · simp only [ev_j, Option.some.injEq, Sum.inl.injEq] at ho
      subst ho
      have k1 := k H locs lr hP hD hS hl hlen
      cases k0 with
      | eq => exact lv_icmp_eq hx hb hd ht (fun q => W.eq (congrArg (fun z => F0 m z lr _) (by unfold ev_if; first | exact (if_pos q).symm | exact (if_neg q).symm | exact (if_neg (Int32.not_lt.mpr q)).symm | exact (if_pos (Int32.not_le.mp q)).symm | exact (if_pos (Classical.not_not.mp q)).symm)) k1) (fun q => W.eq (congrArg (fun z => F0 m z lr _) (by unfold ev_if; first | exact (if_pos q).symm | exact (if_neg q).symm | exact (if_neg (Int32.not_lt.mpr q)).symm | exact (if_pos (Int32.not_le.mp q)).symm | exact (if_pos (Classical.not_not.mp q)).symm)) k1)
      | ne => exact lv_icmp_ne hx hb hd ht (fun q => W.eq (congrArg (fun z => F0 m z lr _) (by unfold ev_if; first | exact (if_pos q).symm | exact (if_neg q).symm | exact (if_neg (Int32.not_lt.mpr q)).symm | exact (if_pos (Int32.not_le.mp q)).symm | exact (if_pos (Classical.not_not.mp q)).symm)) k1) (fun q => W.eq (congrArg (fun z => F0 m z lr _) (by unfold ev_if; first | exact (if_pos q).symm | exact (if_neg q).symm | exact (if_neg (Int32.not_lt.mpr q)).symm | exact (if_pos (Int32.not_le.mp q)).symm | exact (if_pos (Classical.not_not.mp q)).symm)) k1)
      | lt => exact lv_icmp_lt hx hb hd ht (fun q => W.eq (congrArg (fun z => F0 m z lr _) (by unfold ev_if; first | exact (if_pos q).symm | exact (if_neg q).symm | exact (if_neg (Int32.not_lt.mpr q)).symm | exact (if_pos (Int32.not_le.mp q)).symm | exact (if_pos (Classical.not_not.mp q)).symm)) k1) (fun q => W.eq (congrArg (fun z => F0 m z lr _) (by unfold ev_if; first | exact (if_pos q).symm | exact (if_neg q).symm | exact (if_neg (Int32.not_lt.mpr q)).symm | exact (if_pos (Int32.not_le.mp q)).symm | exact (if_pos (Classical.not_not.mp q)).symm)) k1)
      | ge => exact lv_icmp_ge hx hb hd ht (fun q => W.eq (congrArg (fun z => F0 m z lr _) (by unfold ev_if; first | exact (if_pos q).symm | exact (if_neg q).symm | exact (if_neg (Int32.not_lt.mpr q)).symm | exact (if_pos (Int32.not_le.mp q)).symm | exact (if_pos (Classical.not_not.mp q)).symm)) k1) (fun q => W.eq (congrArg (fun z => F0 m z lr _) (by unfold ev_if; first | exact (if_pos q).symm | exact (if_neg q).symm | exact (if_neg (Int32.not_lt.mpr q)).symm | exact (if_pos (Int32.not_le.mp q)).symm | exact (if_pos (Classical.not_not.mp q)).symm)) k1)
      | gt => exact lv_icmp_gt hx hb hd ht (fun q => W.eq (congrArg (fun z => F0 m z lr _) (by unfold ev_if; first | exact (if_pos q).symm | exact (if_neg q).symm | exact (if_neg (Int32.not_lt.mpr q)).symm | exact (if_pos (Int32.not_le.mp q)).symm | exact (if_pos (Classical.not_not.mp q)).symm)) k1) (fun q => W.eq (congrArg (fun z => F0 m z lr _) (by unfold ev_if; first | exact (if_pos q).symm | exact (if_neg q).symm | exact (if_neg (Int32.not_lt.mpr q)).symm | exact (if_pos (Int32.not_le.mp q)).symm | exact (if_pos (Classical.not_not.mp q)).symm)) k1)
      | le => exact lv_icmp_le hx hb hd ht (fun q => W.eq (congrArg (fun z => F0 m z lr _) (by unfold ev_if; first | exact (if_pos q).symm | exact (if_neg q).symm | exact (if_neg (Int32.not_lt.mpr q)).symm | exact (if_pos (Int32.not_le.mp q)).symm | exact (if_pos (Classical.not_not.mp q)).symm)) k1) (fun q => W.eq (congrArg (fun z => F0 m z lr _) (by unfold ev_if; first | exact (if_pos q).symm | exact (if_neg q).symm | exact (if_neg (Int32.not_lt.mpr q)).symm | exact (if_pos (Int32.not_le.mp q)).symm | exact (if_pos (Classical.not_not.mp q)).symm)) k1)
    · cases ho
  | ifnull off =>
    simp only [ev_ok, Bool.and_eq_true, decide_eq_true_eq] at hok
    obtain ⟨hd, rfl, ht⟩ := hok
    simp only [ev_o3] at ho
    split at ho
    · simp only [ev_j, Option.some.injEq, Sum.inl.injEq] at ho
      subst ho
      exact lv_ifnullN hx hb hd ht (k H locs lr hP hD hS hl hlen)
    · simp only [ev_j, Option.some.injEq, Sum.inl.injEq] at ho
      subst ho
      exact lv_ifnull hx hb hd (k H locs lr hP hD hS hl hlen)
    · cases ho
  | ifnonnull off =>
    simp only [ev_ok, Bool.and_eq_true, decide_eq_true_eq] at hok
    obtain ⟨hd, rfl, ht⟩ := hok
    simp only [ev_o3] at ho
    split at ho
    · simp only [ev_j, Option.some.injEq, Sum.inl.injEq] at ho
      subst ho
      exact lv_ifnonnullN hx hb hd (k H locs lr hP hD hS hl hlen)
    · simp only [ev_j, Option.some.injEq, Sum.inl.injEq] at ho
      subst ho
      exact lv_ifnonnull hx hb hd ht (k H locs lr hP hD hS hl hlen)
    · cases ho
  | tableswitch d lo hi offs =>
    simp only [ev_ok, Bool.and_eq_true, decide_eq_true_eq] at hok
    obtain ⟨hd, ⟨ht, h0, hh, hlo⟩, hT⟩ := hok
    simp only [ev_o3] at ho
    split at ho
    · rename_i a r
      simp only [ev_j, Option.some.injEq, Sum.inl.injEq] at ho
      subst ho
      have k1 := k H locs lr hP hD hS hl hlen
      have hn : ((lo.toNat : Nat) : Int) = lo := Int.toNat_of_nonneg h0
      by_cases ho : a.toInt < lo ∨ hi < a.toInt
      · refine lv_tableOut hx hb hd ho ht ?_
        rw [ev_swOut hT (by rw [hn]; rcases ho with q | q; exact Or.inl q; exact Or.inr (by omega))] at k1
        exact k1
      · obtain ⟨t1, e1, o1, e2, e3⟩ := ev_swIn (a := a) (t := tgt) hT (by rw [hn]; omega) (by rw [hn]; omega)
        rw [e1] at k1
        refine lv_tableIn hx hb hd (fun q => ho (Or.inl q)) (fun q => ho (Or.inr q)) (off := o1) ?_ e3 k1
        rw [← Array.getElem?_toList]
        rw [hn] at e2
        exact e2
    · cases ho
  | _ => simp [ev_o3] at ho
end EVS
end
section
theorem ev_lk {D : List (Nat × Nat)} {ci k : Nat} (h : D.lookup ci = some k) : (ci, k) ∈ D := by
  induction D with
  | nil => cases h
  | cons q r ih =>
    obtain ⟨a, b⟩ := q
    rw [List.lookup_cons] at h
    split at h
    · rename_i e
      cases h
      rw [beq_iff_eq.mp e]
      exact List.mem_cons_self
    · exact List.mem_cons_of_mem _ (ih h)
theorem ev_ins {own : String} {idx : Nat} {P : List Nat} {q : Nat × Nat} (h : ev_okI own idx P q = true) : ∃ C T N nm, vwCl[q.1]? = some (C, T, N) ∧ Cond.classLink own idx nm ∈ ev_tb ∧ (match q.2 with
    | 0 => decide ((C, nm) ∈ ev_cn)
    | 1 => decide (C = nm) || decide ((C, nm) ∈ ev_cy)
    | _ => false) = true := by
  unfold ev_okI at h
  split at h
  · rename_i C T N u1 u2 nm h1 h2
    rw [Bool.and_eq_true] at h
    exact ⟨C, T, N, nm, h1, ev_w_in h.1, h.2⟩
  · cases h
theorem ev_tyAt (cA : Nat → ClassId) {t : Nat} (h : t < 6) : ∃ ty, (ev_ty cA)[t]? = some (cA t, ty) := by
  rcases (show t = 0 ∨ t = 1 ∨ t = 2 ∨ t = 3 ∨ t = 4 ∨ t = 5 by omega) with rfl | rfl | rfl | rfl | rfl | rfl <;> exact ⟨_, rfl⟩
theorem ev_fits (ρ : Nat → Nat) {t : Nat} {v : Value} (ht : t < 3) (h : ev_fit t v = true) : ∃ ty, parseFieldDescriptor (ev_dsc t) = some ty ∧ narrow ty (ev_cv ρ v) = ev_cv ρ v ∧ fits ty (ev_cv ρ v) = true := by
  unfold ev_fit at h
  split at h
  · exact ⟨.int, by decide +kernel, rfl, rfl⟩
  · exact ⟨.long, by decide +kernel, rfl, rfl⟩
  · rw [decide_eq_true_eq] at h
    rcases h with rfl | rfl
    · exact ⟨.boolean, by decide +kernel, (by decide +kernel : narrow .boolean (.int 0) = .int 0), (by decide +kernel : fits .boolean (.int 0) = true)⟩
    · exact ⟨.boolean, by decide +kernel, (by decide +kernel : narrow .boolean (.int 1) = .int 1), (by decide +kernel : fits .boolean (.int 1) = true)⟩
  · cases h
section EVF
variable {s : State} {args : Array Value}
theorem ev_fld (hts : ∀ w ∈ ev_tb, w.before args s = true) {own : String} {idx x : Nat} {P : List Nat} {q : Nat × Nat} (h : ev_okF own idx x P q = true) : ∃ C T N ref, vwCl[q.1]? = some (C, T, N) ∧ x < N ∧ (Cond.fieldLink own idx ref (T x).2.1 (T x).2.2.1).before args s = true ∧ ∀ z, s.fieldFound? (T x).1 (T x).2.1 (T x).2.2.1 = some z → s.fieldFound? ref (T x).2.1 (T x).2.2.1 = some z := by
  unfold ev_okF at h
  split at h
  · rename_i C T N h1
    rw [Bool.and_eq_true, decide_eq_true_eq] at h
    obtain ⟨h2, h3⟩ := h
    split at h3
    · exact ⟨C, T, N, _, h1, h2, hts _ (ev_w_in h3), fun _ z => z⟩
    · split at h3
      · rename_i ref _ _ _
        rw [Bool.and_eq_true] at h3
        exact ⟨C, T, N, ref, h1, h2, hts _ (ev_w_in h3.1), u_same (hts _ (ev_w_in h3.2))⟩
      · cases h3
    · cases h3
  · cases h
end EVF
section EVS
variable {p : Program} {l : Launch} {e : Env} {R : Room} {s : State} {m : MethodId} {args : Array Value} {below : List Frame} {meth : Method} {c : Code} {Q : State → Prop} {own : String} {cc : ByteArray} {nL : Nat} {ρ : Nat → Nat} {cA : Nat → ClassId} {dC : Nat → ClassId} {dI : Nat → Nat → Nat} {A : Nat → Prop} {mt : List ev_MI}
theorem ev_aldg {H : Heap} {locs : List Loc} {D : va_G} {cl : List vw_C} {tys : List (ClassId × FieldType)} {ws : va_W} {a pc : Nat} {lr : Array Slot} {rest : List Value} (hexec : p.tables.exec = Jvm.exec) (hb : c.code = cc) (hK : va_K D cl tys s) (hP : va_P D cl ws H) (q0 t0 : Nat) {cA : ClassId} {ty : FieldType} {n : Nat} {f : Nat → Option Nat} (ha : ws[q0]? = some (a, .inl (cA, n, .inr (.inr (.inr (.inr f)))))) (ht : tys[t0]? = some (cA, .array ty)) {i : Int32} (hin : vp_in i n) (hdg : decode cc pc = .ok (.aaload, 1))
    (kk : W p l e R s m args below meth c H locs 0 0 Q (F0 m (pc + 1) lr (va_rf (f i.toNatClampNeg) :: rest))) : W p l e R s m args below meth c H locs 0 0 Q (F0 m pc lr (.int i :: .ref a :: rest)) := by
  have hlt : i.toNatClampNeg < n := Nat.not_le.mp fun q => hin (Or.inr q)
  exact W.aald (v := va_rf (f i.toNatClampNeg)) (ty := .array ty) hexec hb (hP q0 _ ha) ((hK.2 t0 _ ht).1 n (fun j => va_rf (f j))) rfl (fun q => by cases q) (by show ¬ (i < 0 ∨ (arrV _ _ _).slots.size ≤ _); rw [arrV_size]; exact hin) (by show (arrV _ _ _).slots[_]? = _; rw [arrV_read _ _ hlt]) rfl rfl hdg kk
set_option maxHeartbeats 4000000 in
theorem ev_snd4 (F : ev_Fx p s m args c own cc nL ρ cA dC dI A) {en : ev_E} (hok : ev_ok mt own cc en = true) {ls : ev_L} {st : List Value} {h : ev_H} {t : ev_S} (ho : ev_o4 en ls st h = some (.inl t)) (k : ev_Wc p l e R s m args below meth c Q nL ρ cA dC dI A t) : ev_Wc p l e R s m args below meth c Q nL ρ cA dC dI A (en.1, ls, st, h) := by
  obtain ⟨hx, hb, hml, hown, hts, hK, hG, hA⟩ := F
  obtain ⟨pc, i, len, x, tgt, cst, D, P⟩ := en
  intro H locs lr hP hD hS hl hlen
  change va_P (dC, dI) vwCl (ev_cw ρ cA 0 h) H at hP
  change va_D A (ev_cw ρ cA 0 h) at hD
  change lv_has lr nL (ev_la ρ 0 ls) at hl
  change ls.length = nL at hlen
  change W p l e R s m args below meth c H locs 0 0 Q (F0 m pc lr (st.map (ev_cv ρ)))
  cases i with
  | getfield n =>
    simp only [ev_ok, Bool.and_eq_true, decide_eq_true_eq] at hok
    obtain ⟨hd, rfl, hF, hT⟩ := hok
    simp only [ev_o4] at ho
    split at ho
    · rename_i a r
      split at ho
      · rename_i ha
        subst ha
        split at ho
        · rename_i ht
          rw [if_pos ht, Bool.or_eq_true, Bool.and_eq_true, Bool.and_eq_true, decide_eq_true_eq, decide_eq_true_eq] at hT
          simp only [ev_j, Option.some.injEq, Sum.inl.injEq] at ho
          subst ho
          rcases hT with ⟨rfl, hw⟩ | ⟨rfl, hw⟩
          · exact vk_getf hx hb hG.2.1.2.2.1 hS hown (hts _ (ev_w_in hw)) (fun _ h => h) hd (k H locs lr hP hD hS hl hlen)
          · exact vk_getf hx hb hG.2.1.2.2.2.1 hS hown (hts _ (ev_w_in hw)) (fun _ h => h) hd (k H locs lr hP hD hS hl hlen)
        · cases ho
      · split at ho
        · rename_i ci fs hg
          split at ho
          · rename_i hD0
            split at ho
            · rename_i v hv
              simp only [ev_j, Option.some.injEq, Sum.inl.injEq] at ho
              subst ho
              obtain ⟨j, hj, -⟩ := ev_at ρ cA hg
              obtain ⟨q, hq, hqe⟩ := List.any_eq_true.mp hD0
              have hqc : q.1 = ci := beq_iff_eq.mp hqe
              obtain ⟨C, T, N, ref, h1, h2, h3, h4⟩ := ev_fld hts (List.all_eq_true.mp hF q hq)
              rw [hqc] at h1
              exact va_get (D := (dC, dI)) hx hb hts (ev_lay _ (List.mem_of_getElem? h1)) hown hK hP j hj h1 x h2 h3 h4 (by rw [List.getElem?_map, hv]; rfl) hd (k H locs lr hP hD hS hl hlen)
            · cases ho
          · cases ho
        · cases ho
    · cases ho
  | putfield n =>
    simp only [ev_ok, Bool.and_eq_true, decide_eq_true_eq] at hok
    obtain ⟨hd, rfl, hF, hPu⟩ := hok
    simp only [ev_o4] at ho
    split at ho
    · rename_i v a r
      split at ho
      · rename_i ci fs hg
        split at ho
        · rename_i hc
          obtain ⟨hD0, hxl, hfit⟩ := hc
          simp only [ev_j, Option.some.injEq, Sum.inl.injEq] at ho
          subst ho
          obtain ⟨j, hj, hset⟩ := ev_at ρ cA hg
          obtain ⟨q, hq, hqe⟩ := List.any_eq_true.mp hD0
          have hqc : q.1 = ci := beq_iff_eq.mp hqe
          obtain ⟨C, T, N, ref, h1, h2, h3, h4⟩ := ev_fld hts (List.all_eq_true.mp hF q hq)
          have hp1 := List.all_eq_true.mp hPu q hq
          simp only [ev_okP, h1, decide_eq_true_eq] at hp1
          obtain ⟨p1, p2, p3⟩ := hp1
          rw [hqc] at h1
          obtain ⟨ty0, hty, hnm⟩ := ev_typ _ (List.mem_of_getElem? h1)
          obtain ⟨ty, q1, q2, q3⟩ := ev_fits ρ p3 hfit
          refine va_put (D := (dC, dI)) hx hb hts (ev_lay _ (List.mem_of_getElem? h1)) ty0 hty hnm hown hK hP hD hS j hj h1 x h2 h3 h4 p1 (by rw [p2]; exact q1) q2 q3 (by rw [List.length_map]; exact hxl) hd (fun H1 locs1 hP1 hD1 hS1 => ?_)
          have hs : (ev_cw ρ cA 0 h).set j (ρ a, .inr (ci, (fs.map (ev_cv ρ)).set x (ev_cv ρ v))) = ev_cw ρ cA 0 (h.set a (some (.inr (ci, fs.set x v)))) := by
            rw [← List.map_set]
            exact hset (.inr (ci, fs.set x v))
          rw [hs] at hP1 hD1
          exact k H1 locs1 lr hP1 hD1 hS1 hl hlen
        · cases ho
      · cases ho
    · cases ho
  | arraylength =>
    simp only [ev_ok, Bool.and_eq_true, decide_eq_true_eq] at hok
    obtain ⟨hd, rfl⟩ := hok
    simp only [ev_o4] at ho
    split at ho
    · rename_i a r
      split at ho
      · split at ho
        · rename_i h2
          subst h2
          simp only [ev_j, Option.some.injEq, Sum.inl.injEq] at ho
          subst ho
          exact va_tlen hx hb hG.2.1.2.2.2.2.1 hS rfl hd (k H locs lr hP hD hS hl hlen)
        · cases ho
      · split at ho
        · rename_i tt n d hg
          split at ho
          · rename_i ht6
            simp only [ev_j, Option.some.injEq, Sum.inl.injEq] at ho
            subst ho
            obtain ⟨j, hj, -⟩ := ev_at ρ cA hg
            obtain ⟨ty, hty⟩ := ev_tyAt cA ht6
            exact va_alen hx hb hK hP j tt hj hty rfl hd (k H locs lr hP hD hS hl hlen)
          · cases ho
        · cases ho
    · cases ho
  | iaload =>
    simp only [ev_ok, Bool.and_eq_true, decide_eq_true_eq] at hok
    obtain ⟨hd, rfl⟩ := hok
    simp only [ev_o4] at ho
    split at ho
    · split at ho
      · split at ho
        · rename_i hin
          split at ho
          · rename_i hr
            simp only [ev_j, Option.some.injEq, Sum.inl.injEq] at ho
            subst ho
            exact va_ti hx hb (hG.1.2.2.2 _ hr.1 hr.2) hS hin rfl hd (k H locs lr hP hD hS hl hlen)
          · cases ho
        · cases ho
      · split at ho
        · rename_i n f hg
          split at ho
          · rename_i hin
            simp only [ev_j, Option.some.injEq, Sum.inl.injEq] at ho
            subst ho
            obtain ⟨j, hj, -⟩ := ev_at ρ cA hg
            exact va_iald hx hb hK hP j 0 hj rfl hin hd (k H locs lr hP hD hS hl hlen)
          · cases ho
        · cases ho
    · cases ho
  | baload =>
    simp only [ev_ok, Bool.and_eq_true, decide_eq_true_eq] at hok
    obtain ⟨hd, rfl⟩ := hok
    simp only [ev_o4] at ho
    split at ho
    · split at ho
      · split at ho
        · rename_i hin
          split at ho
          · rename_i hr
            subst hr
            simp only [ev_j, Option.some.injEq, Sum.inl.injEq] at ho
            subst ho
            exact va_tb hx hb hG.2.1.2.2.2.2.1 hS hin rfl hd (k H locs lr hP hD hS hl hlen)
          · cases ho
        · cases ho
      · split at ho
        · rename_i n f hg
          split at ho
          · rename_i hin
            simp only [ev_j, Option.some.injEq, Sum.inl.injEq] at ho
            subst ho
            obtain ⟨j, hj, -⟩ := ev_at ρ cA hg
            exact va_bald hx hb hK hP j 3 hj rfl hin hd (k H locs lr hP hD hS hl hlen)
          · cases ho
        · cases ho
    · cases ho
  | laload =>
    simp only [ev_ok, Bool.and_eq_true, decide_eq_true_eq] at hok
    obtain ⟨hd, rfl⟩ := hok
    simp only [ev_o4] at ho
    split at ho
    · split at ho
      · rename_i n f hg
        split at ho
        · rename_i hin
          simp only [ev_j, Option.some.injEq, Sum.inl.injEq] at ho
          subst ho
          obtain ⟨j, hj, -⟩ := ev_at ρ cA hg
          exact va_lald hx hb hK hP j 1 hj rfl hin hd (k H locs lr hP hD hS hl hlen)
        · cases ho
      · cases ho
    · cases ho
  | caload =>
    simp only [ev_ok, Bool.and_eq_true, decide_eq_true_eq] at hok
    obtain ⟨hd, rfl⟩ := hok
    simp only [ev_o4] at ho
    split at ho
    · split at ho
      · rename_i n f hg
        split at ho
        · rename_i hin
          simp only [ev_j, Option.some.injEq, Sum.inl.injEq] at ho
          subst ho
          obtain ⟨j, hj, -⟩ := ev_at ρ cA hg
          exact va_cald hx hb hK hP j 2 hj rfl hin hd (k H locs lr hP hD hS hl hlen)
        · cases ho
      · cases ho
    · cases ho
  | aaload =>
    simp only [ev_ok, Bool.and_eq_true, decide_eq_true_eq] at hok
    obtain ⟨hd, rfl⟩ := hok
    simp only [ev_o4] at ho
    split at ho
    · split at ho
      · rename_i tt n f hg
        split at ho
        · rename_i hin
          split at ho
          · rename_i htt
            simp only [ev_j, Option.some.injEq, Sum.inl.injEq] at ho
            subst ho
            obtain ⟨j, hj, -⟩ := ev_at ρ cA hg
            have k1 := k H locs lr hP hD hS hl hlen
            have k2 := W.eq (g := F0 m (pc + 1) lr (va_rf ((f _).map ρ) :: _)) (by rw [← ev_cv_rf]; rfl) k1
            rcases htt with rfl | rfl
            · exact va_aldq hx hb hK hP j 4 hj rfl hin hd k2
            · exact ev_aldg hx hb hK hP j 5 hj rfl hin hd k2
          · cases ho
        · cases ho
      · cases ho
    · cases ho
  | iastore =>
    simp only [ev_ok, Bool.and_eq_true, decide_eq_true_eq] at hok
    obtain ⟨hd, rfl⟩ := hok
    simp only [ev_o4] at ho
    split at ho
    · rename_i v0 j0 a0 r0
      split at ho
      · rename_i n f hg
        split at ho
        · rename_i hin
          simp only [ev_j, Option.some.injEq, Sum.inl.injEq] at ho
          subst ho
          obtain ⟨j, hj, hset⟩ := ev_at ρ cA hg
          refine va_iast hx hb hK hP hD hS j 0 hj rfl hin hd (fun H1 locs1 hP1 hD1 hS1 => ?_)
          refine k H1 locs1 lr ?_ ?_ hS1 hl hlen
          · have h9 := hset (.inl (0, n, .inl (upd f j0.toNatClampNeg v0)))
            exact h9 ▸ hP1
          · have h9 := hset (.inl (0, n, .inl (upd f j0.toNatClampNeg v0)))
            exact h9 ▸ hD1
        · cases ho
      · cases ho
    · cases ho
  | lastore =>
    simp only [ev_ok, Bool.and_eq_true, decide_eq_true_eq] at hok
    obtain ⟨hd, rfl⟩ := hok
    simp only [ev_o4] at ho
    split at ho
    · rename_i v0 j0 a0 r0
      split at ho
      · rename_i n f hg
        split at ho
        · rename_i hin
          simp only [ev_j, Option.some.injEq, Sum.inl.injEq] at ho
          subst ho
          obtain ⟨j, hj, hset⟩ := ev_at ρ cA hg
          refine va_last hx hb hK hP hD hS j 1 hj rfl hin hd (fun H1 locs1 hP1 hD1 hS1 => ?_)
          refine k H1 locs1 lr ?_ ?_ hS1 hl hlen
          · have h9 := hset (.inl (1, n, .inr (.inl (vp_updL f j0.toNatClampNeg v0))))
            exact h9 ▸ hP1
          · have h9 := hset (.inl (1, n, .inr (.inl (vp_updL f j0.toNatClampNeg v0))))
            exact h9 ▸ hD1
        · cases ho
      · cases ho
    · cases ho
  | castore =>
    simp only [ev_ok, Bool.and_eq_true, decide_eq_true_eq] at hok
    obtain ⟨hd, rfl⟩ := hok
    simp only [ev_o4] at ho
    split at ho
    · rename_i v0 j0 a0 r0
      split at ho
      · rename_i n f hg
        split at ho
        · rename_i hin
          simp only [ev_j, Option.some.injEq, Sum.inl.injEq] at ho
          subst ho
          obtain ⟨j, hj, hset⟩ := ev_at ρ cA hg
          refine va_cast hx hb hK hP hD hS j 2 hj rfl hin hd (fun H1 locs1 hP1 hD1 hS1 => ?_)
          refine k H1 locs1 lr ?_ ?_ hS1 hl hlen
          · have h9 := hset (.inl (2, n, .inl (upd f j0.toNatClampNeg (vp_nar .char v0))))
            exact h9 ▸ hP1
          · have h9 := hset (.inl (2, n, .inl (upd f j0.toNatClampNeg (vp_nar .char v0))))
            exact h9 ▸ hD1
        · cases ho
      · cases ho
    · cases ho
  | bastore =>
    simp only [ev_ok, Bool.and_eq_true, decide_eq_true_eq] at hok
    obtain ⟨hd, rfl⟩ := hok
    simp only [ev_o4] at ho
    split at ho
    · rename_i v0 j0 a0 r0
      split at ho
      · rename_i n f hg
        split at ho
        · rename_i hin
          simp only [ev_j, Option.some.injEq, Sum.inl.injEq] at ho
          subst ho
          obtain ⟨j, hj, hset⟩ := ev_at ρ cA hg
          refine va_bast hx hb hK hP hD hS j 3 hj rfl hin hd (fun H1 locs1 hP1 hD1 hS1 => ?_)
          refine k H1 locs1 lr ?_ ?_ hS1 hl hlen
          · have h9 := hset (.inl (3, n, .inl (upd f j0.toNatClampNeg (vp_nar .byte v0))))
            exact h9 ▸ hP1
          · have h9 := hset (.inl (3, n, .inl (upd f j0.toNatClampNeg (vp_nar .byte v0))))
            exact h9 ▸ hD1
        · cases ho
      · cases ho
    · cases ho
  | aastore =>
    simp only [ev_ok, Bool.and_eq_true, decide_eq_true_eq] at hok
    obtain ⟨hd, rfl⟩ := hok
    simp only [ev_o4] at ho
    split at ho
    · rename_i i0 a r
      split at ho
      · rename_i n f hg
        split at ho
        · rename_i hin
          simp only [ev_j, Option.some.injEq, Sum.inl.injEq] at ho
          subst ho
          obtain ⟨j, hj, hset⟩ := ev_at ρ cA hg
          refine va_astqN hx hb hK hP hD hS j 4 hj rfl hin hd (fun H1 locs1 hP1 hD1 hS1 => ?_)
          have h9 := hset (.inl (4, n, .inr (.inr (.inr (.inr (va_up f i0.toNatClampNeg none))))))
          have h8 : (fun i => (va_up f i0.toNatClampNeg none i).map ρ) = va_up (fun i => (f i).map ρ) i0.toNatClampNeg none := by
            funext i
            unfold va_up
            split <;> rfl
          simp only [ev_ce, ev_cd, h8] at h9
          refine k H1 locs1 lr ?_ ?_ hS1 hl hlen
          · exact h9 ▸ hP1
          · exact h9 ▸ hD1
        · cases ho
      · cases ho
    · cases ho
  | instanceof n =>
    simp only [ev_ok, Bool.and_eq_true, decide_eq_true_eq] at hok
    obtain ⟨hd, rfl, hI⟩ := hok
    simp only [ev_o4] at ho
    split at ho
    · split at ho
      · rename_i ci fs hg
        obtain ⟨j, hj, -⟩ := ev_at ρ cA hg
        split at ho
        · rename_i hlk
          simp only [ev_j, Option.some.injEq, Sum.inl.injEq] at ho
          subst ho
          obtain ⟨C, T, N, nm, h1, h2, h3⟩ := ev_ins (List.all_eq_true.mp hI _ (ev_lk hlk))
          have h4 : (C, nm) ∈ ev_cn := by simpa using h3
          exact va_instNo hx hb hown (hts _ h2) (hG.2.2.2.2.2 _ h4) (va_recv hK hP h1 hj) hd (k H locs lr hP hD hS hl hlen)
        · rename_i hlk
          simp only [ev_j, Option.some.injEq, Sum.inl.injEq] at ho
          subst ho
          obtain ⟨C, T, N, nm, h1, h2, h3⟩ := ev_ins (List.all_eq_true.mp hI _ (ev_lk hlk))
          have h4 : C = nm ∨ (C, nm) ∈ ev_cy := by simpa using h3
          rcases h4 with rfl | h4
          · exact va_instS hx hb hown (hts _ h2) (hK.1 _ _ h1).2 (va_recv hK hP h1 hj) hd (k H locs lr hP hD hS hl hlen)
          · exact va_instY hx hb hown (hts _ h2) (hG.2.2.2.2.1 _ h4) (va_recv hK hP h1 hj) hd (k H locs lr hP hD hS hl hlen)
        · cases ho
      · cases ho
    · cases ho
  | _ => simp [ev_o4] at ho
end EVS
end
section
/-! ===== returns, the library's functions, calls ===== -/
def ev_rm (d : Nat) : Room := { frames := d, cells := 0, slots := 0, locals := 40 * d }
def ev_Pc (ρ : Nat → Nat) (cA : Nat → ClassId) (dC : Nat → ClassId) (dI : Nat → Nat → Nat) (as : List Value) (h : ev_H) (sz : Nat) : Array Value → State → Prop := va_Pc (as.map (ev_cv ρ)) (fun U => U.heap.size = sz ∧ va_P (dC, dI) vwCl (ev_cw ρ cA 0 h) U.heap ∧ va_K (dC, dI) vwCl (ev_ty cA) U ∧ va_D (fun _ => True) (ev_cw ρ cA 0 h) ∧ ev_G ρ (va_A (ev_cw ρ cA 0 h) sz) U U.heap)
def ev_Qc (ρ : Nat → Nat) (cA : Nat → ClassId) (dC : Nat → ClassId) (dI : Nat → Nat → Nat) (h : ev_H) (sz : Nat) (z : ev_Z) : Array Value → State → Outcome → State → Prop := fun _ st oc t => (oc = .returned (z.1.map (ev_cv ρ)) ∧ va_P (dC, dI) vwCl (ev_cw ρ cA 0 z.2) t.heap ∧ va_D (va_A (ev_cw ρ cA 0 h) sz) (ev_cw ρ cA 0 z.2)) ∧ va_F (va_A (ev_cw ρ cA 0 h) sz) st t
theorem ev_Pc_blind {ρ : Nat → Nat} {cA : Nat → ClassId} {dC : Nat → ClassId} {dI : Nat → Nat → Nat} {as : List Value} {h : ev_H} {sz : Nat} : FrameBlind (ev_Pc ρ cA dC dI as h sz) := by
  intro a U g mk hq
  obtain ⟨e1, e2, e3, e4, e5, e6⟩ := hq
  exact ⟨e1, e2, e3, va_K.moved (u := U) (U := U.calling g mk a) (Vm.Alike.refl U.vm) e4, e5, ev_G.same (s := U) (U := U.calling g mk a) rfl e6⟩
theorem ev_okV_at {mt : List ev_MI} {own : String} {idx n : Nat} : ∀ {D : List (Nat × Nat)} {P : List Nat} {ci k : Nat}, ev_okV mt own idx n D P = true → D.lookup ci = some k → ∃ C P', ev_cl ci = some C ∧ ev_okV1 mt own idx n C k P' = true
  | [], _, _, _, _, h => by cases h
  | (a, b) :: r, P, ci, k, h, hl => by
    unfold ev_okV at h
    rw [Bool.and_eq_true] at h
    rw [List.lookup_cons] at hl
    split at hl
    · rename_i e
      cases hl
      have e1 := beq_iff_eq.mp e
      subst e1
      have h1 := h.1
      split at h1
      · rename_i C hC
        exact ⟨C, _, hC, h1⟩
      · cases h1
    · exact ev_okV_at h.2 hl
section EVS
variable {p : Program} {l : Launch} {e : Env} {R : Room} {s : State} {m : MethodId} {args : Array Value} {below : List Frame} {meth : Method} {c : Code} {Q : State → Prop} {own : String} {cc : ByteArray} {nL : Nat} {ρ : Nat → Nat} {cA : Nat → ClassId} {dC : Nat → ClassId} {dI : Nat → Nat → Nat} {A : Nat → Prop} {mt : List ev_MI}
set_option maxHeartbeats 4000000 in
theorem ev_sndR (F : ev_Fx p s m args c own cc nL ρ cA dC dI A) {rt : Option FieldType} (hr : meth.sig.returnType = rt) (hlocks : meth.locks = false) {h0 : ev_H} (hAe : va_A (ev_cw ρ cA 0 h0) s.heap.size = A) {en : ev_E} (hok : ev_ok mt own cc en = true) {ls : ev_L} {st : List Value} {h : ev_H} {z : ev_Z} (ho : ev_o5 rt en ls st h = some (.inr z)) : ev_Wc p l e R s m args below meth c (MQ below (ev_Qc ρ cA dC dI h0 s.heap.size z) args s 0 0 A) nL ρ cA dC dI A (en.1, ls, st, h) := by
  obtain ⟨hx, hb, hml, hown, hts, hK, hG, hA⟩ := F
  obtain ⟨pc, i, len, x, tgt, cst, D, P⟩ := en
  intro H locs lr hP hD hS hl hlen
  change va_P (dC, dI) vwCl (ev_cw ρ cA 0 h) H at hP
  change va_D A (ev_cw ρ cA 0 h) at hD
  change W p l e R s m args below meth c H locs 0 0 _ (F0 m pc lr (st.map (ev_cv ρ)))
  have fin : ∀ (v : Option Value) (t : State), t.heap = H → ev_Qc ρ cA dC dI h0 s.heap.size (v, h) args s (.returned (v.map (ev_cv ρ))) t := by
    intro v t ht
    refine ⟨⟨rfl, by rw [ht]; exact hP, ?_⟩, ?_⟩
    · rw [hAe]; exact hD
    · rw [hAe]; exact hS.F ht
  cases i with
  | return_ =>
    simp only [ev_ok, Bool.and_eq_true, decide_eq_true_eq] at hok
    obtain ⟨hd, rfl⟩ := hok
    simp only [ev_o5] at ho
    split at ho
    · cases ho
      exact W.vret hx hb hr (fun t ht _ => fin none t ht) hS.2.2 hd
    · cases ho
  | ireturn =>
    simp only [ev_ok, Bool.and_eq_true, decide_eq_true_eq] at hok
    obtain ⟨hd, rfl⟩ := hok
    simp only [ev_o5] at ho
    split at ho
    · rename_i v
      cases ho
      exact W.iret (v := v) hx hb hr (fun t ht _ => fin (some (.int v)) t ht) hS.2.2 hd
    · rename_i v
      split at ho
      · rename_i hv
        cases ho
        exact W.zret (v := v) (ty := .boolean) hx hb hr (by rcases hv with rfl | rfl <;> decide +kernel) (fun t ht _ => fin (some (.int v)) t ht) hS.2.2 hd
      · cases ho
    · rename_i v
      split at ho
      · rename_i hv
        cases ho
        exact W.zret (v := v) (ty := .byte) hx hb hr (by subst hv; decide +kernel) (fun t ht _ => fin (some (.int v)) t ht) hS.2.2 hd
      · cases ho
    · cases ho
  | lreturn =>
    simp only [ev_ok, Bool.and_eq_true, decide_eq_true_eq] at hok
    obtain ⟨hd, rfl⟩ := hok
    simp only [ev_o5] at ho
    split at ho
    · rename_i v
      cases ho
      exact W.lret (v := v) hx hb hr (fun t ht _ => fin (some (.long v)) t ht) hS.2.2 hd
    · cases ho
  | areturn =>
    simp only [ev_ok, Bool.and_eq_true, decide_eq_true_eq] at hok
    obtain ⟨hd, rfl⟩ := hok
    simp only [ev_o5] at ho
    split at ho
    · rename_i a nm
      cases ho
      exact W.aret (v := .ref (ρ a)) hx hb hr (Or.inl ⟨_, rfl⟩) (Or.inr ⟨_, rfl⟩) (fun t ht _ => fin (some (.ref a)) t ht) hS.2.2 hd
    · cases ho
      exact W.aret (v := .null) hx hb hr (Or.inl ⟨_, rfl⟩) (Or.inl rfl) (fun t ht _ => fin (some .null) t ht) hS.2.2 hd
    · cases ho
  | invokestatic n =>
    simp only [ev_o5] at ho
    split at ho
    · split at ho <;> cases ho
    · split at ho <;> cases ho
    · split at ho <;> cases ho
    · split at ho
      · split at ho <;> cases ho
      · cases ho
    · split at ho <;> cases ho
    · cases ho
  | _ => simp [ev_o5] at ho
theorem ev_natw : nativeFrameWords "java/lang/System" "arraycopy" 5 + 11 ≤ 32 := by decide +kernel
set_option maxHeartbeats 4000000 in
theorem ev_snd5 (F : ev_Fx p s m args c own cc nL ρ cA dC dI A) (hR : 1 ≤ R.frames ∧ 40 ≤ R.locals) {rt : Option FieldType} {en : ev_E} (hok : ev_ok mt own cc en = true) {ls : ev_L} {st : List Value} {h : ev_H} {t : ev_S} (ho : ev_o5 rt en ls st h = some (.inl t)) (k : ev_Wc p l e R s m args below meth c Q nL ρ cA dC dI A t) : ev_Wc p l e R s m args below meth c Q nL ρ cA dC dI A (en.1, ls, st, h) := by
  obtain ⟨hx, hb, hml, hown, hts, hK, hG, hA⟩ := F
  obtain ⟨pc, i, len, x, tgt, cst, D, P⟩ := en
  intro H locs lr hP hD hS hl hlen
  change va_P (dC, dI) vwCl (ev_cw ρ cA 0 h) H at hP
  change va_D A (ev_cw ρ cA 0 h) at hD
  change lv_has lr nL (ev_la ρ 0 ls) at hl
  change ls.length = nL at hlen
  change W p l e R s m args below meth c H locs 0 0 Q (F0 m pc lr (st.map (ev_cv ρ)))
  have hsz : c.maxLocals = lr.size := hml.trans hl.1.symm
  cases i with
  | invokestatic n =>
    simp only [ev_o5] at ho
    split at ho
    · rename_i b a r
      simp only [ev_ok, Bool.and_eq_true, decide_eq_true_eq] at hok
      obtain ⟨hd, rfl, w1, w2, w3, w4⟩ := hok
      split at ho
      · rename_i hc
        simp only [ev_j, Option.some.injEq, Sum.inl.injEq] at ho
        subst ho
        exact va_mmin hx hb hsz hown (hts _ (ev_w_in w1)) (hts _ (ev_w_in w2)) (hts _ (ev_w_in w3)) (hts _ (ev_w_in w4)) hR.1 (by rw [ev_cat_cv]; omega) (Nat.zero_le _) (Nat.zero_le _) hd (k H locs lr hP hD hS hl hlen)
      · cases ho
    · rename_i b a r
      simp only [ev_ok, Bool.and_eq_true, decide_eq_true_eq] at hok
      obtain ⟨hd, rfl, w1, w2, w3, w4⟩ := hok
      split at ho
      · rename_i hc
        simp only [ev_j, Option.some.injEq, Sum.inl.injEq] at ho
        subst ho
        exact va_mmax_long hx hb hsz hown (hts _ (ev_w_in w1)) (hts _ (ev_w_in w2)) (hts _ (ev_w_in w3)) (hts _ (ev_w_in w4)) hR.1 (by rw [ev_cat_cv]; omega) (Nat.zero_le _) (Nat.zero_le _) hd (k H locs lr hP hD hS hl hlen)
      · cases ho
    · rename_i a r
      simp only [ev_ok, Bool.and_eq_true, decide_eq_true_eq] at hok
      obtain ⟨hd, rfl, w1, w2, w3, w4⟩ := hok
      split at ho
      · rename_i hc
        simp only [ev_j, Option.some.injEq, Sum.inl.injEq] at ho
        subst ho
        exact va_mabs hx hb hsz hown (hts _ (ev_w_in w1)) (hts _ (ev_w_in w2)) (hts _ (ev_w_in w3)) (hts _ (ev_w_in w4)) hR.1 (by rw [ev_cat_cv]; omega) (Nat.zero_le _) (Nat.zero_le _) hd (k H locs lr hP hD hS hl hlen)
      · cases ho
    · rename_i n' dp b sp a r
      simp only [ev_ok, Bool.and_eq_true, decide_eq_true_eq] at hok
      obtain ⟨hd, rfl, w1, w2, w3, w4⟩ := hok
      split at ho
      · rename_i n0 f n1 g hga hgb
        split at ho
        · rename_i hc
          obtain ⟨c1, c2, c3, c4, c5, c6⟩ := hc
          simp only [ev_j, Option.some.injEq, Sum.inl.injEq] at ho
          subst ho
          obtain ⟨ja, hja, -⟩ := ev_at ρ cA hga
          obtain ⟨jb, hjb, hset⟩ := ev_at ρ cA hgb
          refine va_copyl (ty := .long) hx hb hsz hown (hts _ (ev_w_in w1)) (hts _ (ev_w_in w4)) (hts _ (ev_w_in w2)) (hts _ (ev_w_in w3)) hK hP hD hS ja jb 1 1 hja hjb rfl rfl rfl c2 c3 c4 c5 c6 (fun _ _ => rfl) hR.1 (by rw [ev_cat_cv]; have := ev_natw; omega) hd (fun H1 locs1 hP1 hD1 hS1 => ?_)
          refine k H1 locs1 lr ?_ ?_ hS1 hl hlen
          · have h9 := hset (.inl (1, n1, .inr (.inl (va_cpy f g sp.toNatClampNeg dp.toNatClampNeg n'.toNatClampNeg))))
            exact h9 ▸ hP1
          · have h9 := hset (.inl (1, n1, .inr (.inl (va_cpy f g sp.toNatClampNeg dp.toNatClampNeg n'.toNatClampNeg))))
            exact h9 ▸ hD1
        · cases ho
      · cases ho
    · rename_i b a r
      simp only [ev_ok, Bool.and_eq_true, decide_eq_true_eq] at hok
      obtain ⟨hd, rfl, w1, w2, w3, w4⟩ := hok
      split at ho
      · rename_i hc
        simp only [ev_j, Option.some.injEq, Sum.inl.injEq] at ho
        subst ho
        exact va_mmax hx hb hsz hown (hts _ (ev_w_in w1)) (hts _ (ev_w_in w2)) (hts _ (ev_w_in w3)) (hts _ (ev_w_in w4)) hR.1 (by rw [ev_cat_cv]; omega) (Nat.zero_le _) (Nat.zero_le _) hd (k H locs lr hP hD hS hl hlen)
      · cases ho
    · cases ho
  | return_ => simp only [ev_o5] at ho; split at ho <;> cases ho
  | ireturn =>
    simp only [ev_o5] at ho
    split at ho
    · cases ho
    · split at ho <;> cases ho
    · split at ho <;> cases ho
    · cases ho
  | lreturn => simp only [ev_o5] at ho; split at ho <;> cases ho
  | areturn => simp only [ev_o5] at ho; split at ho <;> cases ho
  | _ => simp [ev_o5] at ho
end EVS
end
section
section EVS
variable {p : Program} {l : Launch} {e : Env} {R : Room} {s : State} {m : MethodId} {args : Array Value} {below : List Frame} {meth : Method} {c : Code} {Q : State → Prop} {own : String} {cc : ByteArray} {nL : Nat} {ρ : Nat → Nat} {cA : Nat → ClassId} {dC : Nat → ClassId} {dI : Nat → Nat → Nat} {A : Nat → Prop} {mt : List ev_MI}
/-- behind a call, whatever it answers -/
theorem ev_callg {H H0 : Heap} {locs : List Loc} {pc : Nat} {ls : Array Slot} {st0 rest : List Value} {A0 A1 free : Nat → Prop} {B : State → Prop} {v : Option Value} (hr : va_Run p l e R s m args below meth c H locs 0 0 0 0 (F0 m pc ls st0) rest (fun st oc t => (oc = .returned v ∧ B t) ∧ va_F A1 st t) free) (hS : va_S A0 H0 H locs) (hA : ∀ q, q < H.size → A1 q → A0 q) (hf : ∀ q, free q → A0 q)
    (kk : ∀ (t : State) (H1 : Heap) (locs1 : List Loc), t.heap = H1 → B t → va_S A0 H0 H1 locs1 → W p l e R s m args below meth c H1 locs1 0 0 Q (F0 m (pc + 3) ls (v.toList ++ rest))) : W p l e R s m args below meth c H locs 0 0 Q (F0 m pc ls st0) := by
  intro T hT X
  obtain ⟨v', st₀, t, T', L, h0, X', hL, e1, e2, ⟨⟨hv, hb⟩, hz, hk⟩, st⟩ := hr T hT X
  cases hv
  rw [h0] at hz hk
  obtain ⟨t2, a1, b1⟩ := kk t T'.heap (locs ++ L) e1.symm hb
    ⟨Nat.le_trans hS.1 (by rw [e1]; exact hz), fun q h1 h2 => by rw [e1, hk q (Nat.lt_of_lt_of_le h1 hS.1) (fun z => h2 (hA q (Nat.lt_of_lt_of_le h1 hS.1) z))]; exact hS.2.1 q h1 h2, fun q hq => by
      rcases List.mem_append.mp hq with h | h
      · exact hS.2.2 q h
      · exact hf _ (hL q h)⟩ T' rfl X'
  exact ⟨t2, st t2 a1, b1⟩
theorem ev_room1 {d nY : Nat} (h : nY ≤ 21) : (ev_rm d).frames + 1 ≤ (ev_rm (d + 1)).frames ∧ 8 + (nY + 11) + (ev_rm d).locals ≤ (ev_rm (d + 1)).locals := by
  unfold ev_rm
  exact ⟨Nat.le_refl _, by dsimp only; omega⟩
set_option maxHeartbeats 4000000 in
theorem ev_sndC {d : Nat} (F : ev_Fx p s m args c own cc nL ρ cA dC dI A) {en : ev_E} (hok : ev_ok mt own cc en = true) {ls : ev_L} {st : List Value} {h : ev_H} {k : Nat} {as rest : List Value} {z : ev_Z} (ho : ev_inv en st h = some (k, as, rest))
    (hM : ∀ (o : String) (y : MethodName) (cY : ByteArray) (nY : Nat) (rY : Option FieldType) (I : List ev_E) (PM : List Nat), mt[k]? = some (o, y, cY, nY, rY, I, PM) → ∀ sz, Met l y (Cond.code y cY nY rY :: ev_tb) (ev_rm d) (ev_Pc ρ cA dC dI as h sz) (ev_Qc ρ cA dC dI h sz z) 0 0 (va_A (ev_cw ρ cA 0 h) sz))
    (next : ev_Wc p l e (ev_rm (d + 1)) s m args below meth c Q nL ρ cA dC dI A (en.1 + 3, ls, z.1.toList ++ rest, z.2)) : ev_Wc p l e (ev_rm (d + 1)) s m args below meth c Q nL ρ cA dC dI A (en.1, ls, st, h) := by
  obtain ⟨hx, hb, hml, hown, hts, hK, hG, hA⟩ := F
  obtain ⟨pc, i, len, x, tgt, cst, D, P⟩ := en
  intro H locs lr hP hD hS hl hlen
  change va_P (dC, dI) vwCl (ev_cw ρ cA 0 h) H at hP
  change va_D A (ev_cw ρ cA 0 h) at hD
  change lv_has lr nL (ev_la ρ 0 ls) at hl
  change ls.length = nL at hlen
  change W p l e (ev_rm (d + 1)) s m args below meth c H locs 0 0 Q (F0 m pc lr (st.map (ev_cv ρ)))
  have hsub : ∀ q, va_A (ev_cw ρ cA 0 h) H.size q → A q := by
    intro q hq
    rcases hq with ⟨j, e0, hj⟩ | hq
    · exact hD.2 j _ hj
    · exact hA q (Nat.le_trans hS.1 hq)
  have hG2 : ∀ U : State, U.heap = H → s.WarmedH U.vm → ev_G ρ (va_A (ev_cw ρ cA 0 h) H.size) U U.heap := fun U hU hW => by
    rw [hU]
    exact ((hG.kept hS.2.1).warm hW).narrow hsub
  have hpre : ∀ U : State, U.heap = H → s.WarmedH U.vm → ev_Pc ρ cA dC dI as h H.size (as.map (ev_cv ρ)).toArray U := fun U hU hW =>
    ⟨rfl, by rw [hU], by rw [hU]; exact hP, va_K.moved hW.alike hK, hD.weaken (fun _ _ _ _ => trivial), hG2 U hU hW⟩
  have after : ∀ (st0 rest' : List Value), rest' = rest.map (ev_cv ρ) → va_Run p l e (ev_rm (d + 1)) s m args below meth c H locs 0 0 0 0 (F0 m pc lr st0) rest' (ev_Qc ρ cA dC dI h H.size z (as.map (ev_cv ρ)).toArray) (va_A (ev_cw ρ cA 0 h) H.size) → W p l e (ev_rm (d + 1)) s m args below meth c H locs 0 0 Q (F0 m pc lr st0) := by
    intro st0 rest' hrest hrun
    subst hrest
    refine ev_callg (A1 := va_A (ev_cw ρ cA 0 h) H.size) (B := fun t => va_P (dC, dI) vwCl (ev_cw ρ cA 0 z.2) t.heap ∧ va_D (va_A (ev_cw ρ cA 0 h) H.size) (ev_cw ρ cA 0 z.2)) (v := z.1.map (ev_cv ρ)) hrun hS (fun q _ => hsub q) hsub (fun t H1 locs1 ht hB hS1 => ?_)
    have n1 := next H1 locs1 lr (by rw [← ht]; exact hB.1) (hB.2.weaken (fun _ q _ hq => hsub q.1 hq)) hS1 hl hlen
    refine W.eq ?_ n1
    show F0 m (pc + 3) lr _ = F0 m (pc + 3) lr _
    congr 1
    show (z.1.map (ev_cv ρ)).toList ++ rest.map (ev_cv ρ) = (z.1.toList ++ rest).map (ev_cv ρ)
    rw [List.map_append]
    congr 1
    cases z.1 <;> rfl
  cases i with
  | invokestatic n =>
    simp only [ev_inv] at ho
    split at ho
    · rename_i hc
      obtain ⟨c1, c2, c3⟩ := hc
      split at ho
      · rename_i k' hk
        simp only [Option.some.injEq, Prod.mk.injEq] at ho
        obtain ⟨rfl, rfl, rfl⟩ := ho
        have hok2 : decode cc pc = .ok (.invokestatic n, len) ∧ len = 3 ∧ ev_okS mt own n x D P = true := by
          simp only [ev_ok, Bool.and_eq_true, decide_eq_true_eq] at hok
          refine ⟨hok.1, hok.2.1, ?_⟩
          have h3 := hok.2.2
          split at h3
          all_goals first | exact h3 | omega
        obtain ⟨hd, rfl, hS1⟩ := hok2
        unfold ev_okS at hS1
        split at hS1
        · rename_i k2
          have e2 : k2 = k' := by
            simp only [List.lookup_cons_self, Option.some.injEq] at hk
            exact hk
          subst e2
          split at hS1
          · rename_i o y cY nY rY I PM hmi
            simp only [Bool.and_eq_true, Bool.or_eq_true, decide_eq_true_eq, ev_pn] at hS1
            obtain ⟨hpn, w0, hnl, w1, w2, w3⟩ := hS1
            have hMt := hM o y cY nY rY I PM hmi H.size
            have hlen2 : ((List.take x st).reverse.map (ev_cv ρ)).length = x := by simp; omega
            have hst : st.map (ev_cv ρ) = ((List.take x st).reverse.map (ev_cv ρ)).reverse ++ (List.drop x st).map (ev_cv ρ) := by
              rw [← List.map_reverse, List.reverse_reverse, ← List.map_append, List.take_append_drop]
            have hcat : 2 * (F0 m pc lr (st.map (ev_cv ρ))).monitorRoom + (((List.drop x st).map (ev_cv ρ)).map fun v => v.category).sum ≤ 8 := lv_room (by rw [ev_cat_cv]; exact c3)
            have hgi : ∀ w ∈ Cond.code y cY nY rY :: ev_tb, w ∈ ev_tb := by
              intro w hw
              rcases List.mem_cons.mp hw with rfl | hw
              · exact ev_w_in w0
              · exact hw
            refine after _ _ rfl ?_
            rcases w3 with w3 | w3
            · have hgood : GoodIn ev_tb (va_wsS own n y (Cond.code y cY nY rY :: ev_tb)) := ev_goodIn (by
                intro w hw
                unfold va_wsS at hw
                rcases List.mem_append.mp hw with hw | hw
                · simp only [List.mem_cons, List.not_mem_nil, or_false] at hw
                  rcases hw with rfl | rfl | rfl
                  · exact ev_w_in w3
                  · exact ev_w_in w1
                  · exact ev_w_in w2
                · exact hgi w hw)
              exact va_runS (As := (List.take x st).reverse.map (ev_cv ρ)) ⟨hx, hb, hml, hown, hts⟩ hMt (va_cwS x hts hgood rfl rfl rfl hpn (ev_room1 hnl)) ⟨ev_Pc_blind, hpre⟩ rfl hlen2 hl.1 hst hcat hd ⟨Nat.le_refl _, Nat.le_refl _⟩
            · have hnw := hG.2.2.1 _ w3
              exact va_runSN (host := "WithEyesBound") (As := (List.take x st).reverse.map (ev_cv ρ)) ⟨hx, hb, hml, hown, hts⟩ hMt ⟨va_cnB x hts (ev_goodIn hgi) rfl rfl rfl hnw (hts _ (ev_w_in w2)) hpn (ev_room1 hnl), hts _ (ev_w_in w1), trivial⟩ ⟨ev_Pc_blind, hpre⟩ rfl hlen2 hl.1 hst hcat hd ⟨Nat.le_refl _, Nat.le_refl _⟩
          · cases hS1
        · cases hS1
      · cases ho
    · cases ho
  | invokevirtual n =>
    simp only [ev_ok, Bool.and_eq_true, decide_eq_true_eq] at hok
    obtain ⟨hd, rfl, hV⟩ := hok
    have key : ∀ (ci k' a : Nat) (r : List Value), st.drop x = .ref a :: r → x ≤ st.length → ev_cat r ≤ 8 → D.lookup ci = some k' → (∀ C, ev_cl ci = some C → ∃ cell : Cell, H[ρ a]? = some cell ∧ cell.vm.isStatics = false ∧ s.vm.findClass C = some cell.cls) → k = k' → as = .ref a :: (List.take x st).reverse → rest = r → W p l e (ev_rm (d + 1)) s m args below meth c H locs 0 0 Q (F0 m pc lr (st.map (ev_cv ρ))) := by
      intro ci k' a r hdrop c1 c3 hlk hrecv ek eas er
      subst ek
      subst er
      obtain ⟨C, P', hC, hV1⟩ := ev_okV_at hV hlk
      have hrc := hrecv C hC
      unfold ev_okV1 at hV1
      split at hV1
      · rename_i o y cY nY rY I PM hmi
        simp only [Bool.and_eq_true, decide_eq_true_eq, ev_pn] at hV1
        obtain ⟨hpn, w0, hnl, hV2⟩ := hV1
        have hMt := hM o y cY nY rY I PM hmi H.size
        have hlen2 : ((List.take x st).reverse.map (ev_cv ρ)).length = x := by simp; omega
        have hst : st.map (ev_cv ρ) = ((List.take x st).reverse.map (ev_cv ρ)).reverse ++ .ref (ρ a) :: rest.map (ev_cv ρ) := by
          rw [← List.map_reverse, List.reverse_reverse]
          show _ = (List.take x st).map (ev_cv ρ) ++ ((.ref a :: rest).map (ev_cv ρ))
          rw [← hdrop, ← List.map_append, List.take_append_drop]
        have hcat : 2 * (F0 m pc lr (st.map (ev_cv ρ))).monitorRoom + ((rest.map (ev_cv ρ)).map fun v => v.category).sum ≤ 8 := lv_room (by rw [ev_cat_cv]; exact c3)
        have hgi : ∀ w ∈ Cond.code y cY nY rY :: ev_tb, w ∈ ev_tb := by
          intro w hw
          rcases List.mem_cons.mp hw with rfl | hw
          · exact ev_w_in w0
          · exact hw
        have hpreV : PreV s H C (ρ a) (ev_Pc ρ cA dC dI as h H.size) ((List.take x st).reverse.map (ev_cv ρ)) := ⟨ev_Pc_blind, hrc, fun U hU hW => by
          have := hpre U hU hW
          rw [eas] at this
          rw [eas]
          exact this⟩
        refine after _ _ rfl ?_
        have eas2 : (as.map (ev_cv ρ)).toArray = (Value.ref (ρ a) :: (List.take x st).reverse.map (ev_cv ρ)).toArray := by rw [eas]; rfl
        rw [eas2]
        split at hV2
        · rename_i hcond
          obtain ⟨hyC, w1⟩ := hcond
          simp only [Bool.and_eq_true] at hV2
          obtain ⟨w2, w3, w4⟩ := hV2
          have hgood : GoodIn ev_tb (wsV own n C y (Cond.code y cY nY rY :: ev_tb)) := ev_goodIn (by
            intro w hw
            unfold wsV at hw
            rcases List.mem_append.mp hw with hw | hw
            · simp only [List.mem_cons, List.not_mem_nil, or_false] at hw
              rcases hw with rfl | rfl | rfl | rfl
              · exact ev_w_in w1
              · exact ev_w_in w2
              · exact ev_w_in w3
              · exact ev_w_in w4
            · exact hgi w hw)
          exact va_runV ⟨hx, hb, hml, hown, hts⟩ hMt (cwV x hts hgood rfl rfl rfl ⟨hyC, hpn⟩ (ev_room1 hnl)) hpreV rfl hlen2 hl.1 hst hcat hd ⟨Nat.le_refl _, Nat.le_refl _⟩
        · split at hV2
          · rename_i u1 u2 x0 hx0
            simp only [Bool.and_eq_true, Bool.or_eq_true, decide_eq_true_eq, ev_pn] at hV2
            obtain ⟨w1, w2, w3, w4, w5, hpx, hV3⟩ := hV2
            rcases hV3 with rfl | ⟨w6, hV4⟩
            · have hgood : GoodIn ev_tb (va_wsU own n C x0.cls x0 x0 (Cond.code x0 cY nY rY :: ev_tb)) := ev_goodIn (by
                intro w hw
                unfold va_wsU at hw
                rcases List.mem_append.mp hw with hw | hw
                · simp only [List.mem_cons, List.not_mem_nil, or_false] at hw
                  rcases hw with rfl | rfl | rfl | rfl | rfl
                  · exact ev_w_in w1
                  · exact ev_w_in w2
                  · exact ev_w_in w3
                  · exact ev_w_in w4
                  · exact ev_w_in w5
                · exact hgi w hw)
              exact va_runU ⟨hx, hb, hml, hown, hts⟩ hMt (va_cwU x hts hgood rfl rfl rfl rfl hpx (ev_room1 hnl)) hpreV rfl hlen2 hl.1 hst hcat hd ⟨Nat.le_refl _, Nat.le_refl _⟩
            · split at hV4
              · rename_i u3 b0 m0 r0 hcx
                have hgood : GoodIn ev_tb (va_wsO own n C x0.cls x0 y (Cond.code y cY nY rY :: ev_tb)) := ev_goodIn (by
                  intro w hw
                  unfold va_wsO at hw
                  rcases List.mem_append.mp hw with hw | hw
                  · simp only [List.mem_cons, List.not_mem_nil, or_false] at hw
                    rcases hw with rfl | rfl | rfl | rfl | rfl | rfl
                    · exact ev_w_in w1
                    · exact ev_w_in w2
                    · exact ev_w_in w6
                    · exact ev_w_in w3
                    · exact ev_w_in w4
                    · exact ev_w_in w5
                  · exact hgi w hw)
                exact va_runU ⟨hx, hb, hml, hown, hts⟩ hMt (va_cwO x hts hgood rfl rfl rfl (ev_w_in hV4) hpx (ev_room1 hnl)) hpreV rfl hlen2 hl.1 hst hcat hd ⟨Nat.le_refl _, Nat.le_refl _⟩
              · cases hV4
          · cases hV2
      · cases hV1
    simp only [ev_inv] at ho
    split at ho
    · rename_i a r hdrop
      split at ho
      · rename_i hc
        obtain ⟨c1, c2, c3⟩ := hc
        split at ho
        · rename_i ha
          split at ho
          · rename_i k' hk
            simp only [Option.some.injEq, Prod.mk.injEq] at ho
            refine key 2000 k' a r hdrop c1 c3 hk (fun C hC => ?_) ho.1.symm ho.2.1.symm ho.2.2.symm
            simp only [ev_cl, if_true, Option.some.injEq] at hC
            subst hC
            subst ha
            obtain ⟨cell, h1, h2, h3, -⟩ := hG.2.1.2.1.kept hS.2.1
            exact ⟨cell, h1, h2, h3⟩
          · cases ho
        · split at ho
          · rename_i ci fs hg
            split at ho
            · rename_i k' hk
              simp only [Option.some.injEq, Prod.mk.injEq] at ho
              refine key ci k' a r hdrop c1 c3 hk (fun C hC => ?_) ho.1.symm ho.2.1.symm ho.2.2.symm
              obtain ⟨j, hj, -⟩ := ev_at ρ cA hg
              unfold ev_cl at hC
              split at hC
              · rename_i h2000
                obtain ⟨q, hq, -⟩ := (hP j _ hj)
                rw [show (ev_ce ρ cA (Sum.inr (ci, fs)) : va_E) = Sum.inr (ci, fs.map (ev_cv ρ)) from rfl] at hj
                have : vwCl[ci]? = some q := hq
                rw [h2000] at this
                simp [vwCl] at this
              · rw [Option.map_eq_some_iff] at hC
                obtain ⟨q, hq, rfl⟩ := hC
                exact va_recv hK hP hq hj
            · cases ho
          · cases ho
      · cases ho
    · cases ho
  | _ => simp [ev_inv] at ho
end EVS
end
section
/-! ===== a method's run in the abstract machine; the whole soundness ===== -/
def ev_M (mt : List ev_MI) : Nat → Nat → List Value → ev_H → ev_Z → Prop
  | 0, _, _, _, _ => False
  | d + 1, k, as, h, z => ∃ (o : String) (y : MethodName) (cc : ByteArray) (nL : Nat) (rt : Option FieldType) (I : List ev_E) (PM : List Nat), mt[k]? = some (o, y, cc, nL, rt, I, PM) ∧ (ev_sl as).length ≤ nL ∧ ∃ n, ev_R (ev_M mt d) rt I n (0, ev_ent nL as, [], h) z
theorem ev_n1 {e : ev_E} {ls : ev_L} {st : List Value} {h : ev_H} {z : ev_Z} : ev_o1 e ls st h ≠ some (.inr z) := by
  intro q
  unfold ev_o1 at q
  repeat' split at q
  all_goals first | cases q | (simp [ev_j] at q; done)
theorem ev_n2 {e : ev_E} {ls : ev_L} {st : List Value} {h : ev_H} {z : ev_Z} : ev_o2 e ls st h ≠ some (.inr z) := by
  intro q
  unfold ev_o2 at q
  repeat' split at q
  all_goals first | cases q | (simp [ev_j] at q; done)
theorem ev_n3 {e : ev_E} {ls : ev_L} {st : List Value} {h : ev_H} {z : ev_Z} : ev_o3 e ls st h ≠ some (.inr z) := by
  intro q
  unfold ev_o3 at q
  repeat' split at q
  all_goals first | cases q | (simp [ev_j] at q; done)
theorem ev_n4 {e : ev_E} {ls : ev_L} {st : List Value} {h : ev_H} {z : ev_Z} : ev_o4 e ls st h ≠ some (.inr z) := by
  intro q
  unfold ev_o4 at q
  repeat' split at q
  all_goals first | cases q | (simp [ev_j] at q; done)
theorem ev_one_of {rt : Option FieldType} {e : ev_E} {ls : ev_L} {st : List Value} {h : ev_H} {r : ev_S ⊕ ev_Z} (q : ev_one rt e ls st h = some r) : ev_o1 e ls st h = some r ∨ ev_o2 e ls st h = some r ∨ ev_o3 e ls st h = some r ∨ ev_o4 e ls st h = some r ∨ ev_o5 rt e ls st h = some r := by
  unfold ev_one at q
  split at q
  all_goals first | exact Or.inl q | exact Or.inr (Or.inl q) | exact Or.inr (Or.inr (Or.inl q)) | exact Or.inr (Or.inr (Or.inr (Or.inl q))) | exact Or.inr (Or.inr (Or.inr (Or.inr q)))
theorem ev_find_in : ∀ {I : List ev_E} {pc : Nat} {e : ev_E}, ev_find I pc = some e → e ∈ I ∧ e.1 = pc
  | [], _, _, h => by cases h
  | a :: r, pc, e, h => by
    unfold ev_find at h
    split at h
    · rename_i hp
      cases h
      exact ⟨List.mem_cons_self, hp⟩
    · exact ⟨List.mem_cons_of_mem _ (ev_find_in h).1, (ev_find_in h).2⟩
section EVS
variable {p : Program} {l : Launch} {e : Env} {s : State} {m : MethodId} {args : Array Value} {below : List Frame} {meth : Method} {c : Code} {own : String} {cc : ByteArray} {nL : Nat} {ρ : Nat → Nat} {cA : Nat → ClassId} {dC : Nat → ClassId} {dI : Nat → Nat → Nat} {A : Nat → Prop} {mt : List ev_MI}
theorem ev_sndN {d : Nat} (F : ev_Fx p s m args c own cc nL ρ cA dC dI A) {rt : Option FieldType} (hr : meth.sig.returnType = rt) (hlocks : meth.locks = false) {h0 : ev_H} (hAe : va_A (ev_cw ρ cA 0 h0) s.heap.size = A) {I : List ev_E} (hI : ∀ en ∈ I, ev_ok mt own cc en = true)
    (ih : ∀ k as h z, ev_M mt d k as h z → ∀ (o : String) (y : MethodName) (cY : ByteArray) (nY : Nat) (rY : Option FieldType) (I : List ev_E) (PM : List Nat), mt[k]? = some (o, y, cY, nY, rY, I, PM) → ∀ sz, Met l y (Cond.code y cY nY rY :: ev_tb) (ev_rm d) (ev_Pc ρ cA dC dI as h sz) (ev_Qc ρ cA dC dI h sz z) 0 0 (va_A (ev_cw ρ cA 0 h) sz)) :
    ∀ (n : Nat) (t : ev_S) (z : ev_Z), ev_R (ev_M mt d) rt I n t z → ev_Wc p l e (ev_rm (d + 1)) s m args below meth c (MQ below (ev_Qc ρ cA dC dI h0 s.heap.size z) args s 0 0 A) nL ρ cA dC dI A t
  | 0, t, z, h => by cases h
  | n + 1, (pc, ls, st, h), z, hrun => by
    obtain ⟨en, hf, hcase⟩ := hrun
    obtain ⟨hin, hpc⟩ := ev_find_in hf
    subst hpc
    have hok := hI en hin
    rcases hcase with ⟨t', h1, h2⟩ | h1 | ⟨k, as, rest, z', h1, h2, h3⟩
    · have hnext := ev_sndN F hr hlocks hAe hI ih n t' z h2
      rcases ev_one_of h1 with q | q | q | q | q
      · exact ev_snd1 F hok q hnext
      · exact ev_snd2 F hok q hnext
      · exact ev_snd3 F hok q hnext
      · exact ev_snd4 F hok q hnext
      · exact ev_snd5 F ⟨by unfold ev_rm; exact Nat.succ_le_succ (Nat.zero_le _), by unfold ev_rm; dsimp only; omega⟩ hok q hnext
    · rcases ev_one_of h1 with q | q | q | q | q
      · exact absurd q ev_n1
      · exact absurd q ev_n2
      · exact absurd q ev_n3
      · exact absurd q ev_n4
      · exact ev_sndR F hr hlocks hAe hok q
    · exact ev_sndC F hok h1 (fun o y cY nY rY I PM hmi sz => ih k as h z' h2 o y cY nY rY I PM hmi sz) (ev_sndN F hr hlocks hAe hI ih n _ z h3)
theorem ev_sound (hmt : mt.all (ev_okM mt) = true) (l : Launch) (ρ : Nat → Nat) (cA : Nat → ClassId) (dC : Nat → ClassId) (dI : Nat → Nat → Nat) : ∀ (d k : Nat) (as : List Value) (h : ev_H) (z : ev_Z), ev_M mt d k as h z → ∀ (o : String) (y : MethodName) (cY : ByteArray) (nY : Nat) (rY : Option FieldType) (I : List ev_E) (PM : List Nat), mt[k]? = some (o, y, cY, nY, rY, I, PM) → ∀ sz, Met l y (Cond.code y cY nY rY :: ev_tb) (ev_rm d) (ev_Pc ρ cA dC dI as h sz) (ev_Qc ρ cA dC dI h sz z) 0 0 (va_A (ev_cw ρ cA 0 h) sz)
  | 0, k, as, h, z, hm => by cases hm
  | d + 1, k, as, h, z, hm => by
    intro o y cY nY rY I PM hmi sz
    obtain ⟨o', y', cY', nY', rY', I', PM', hmi', hlen, n, hrun⟩ := hm
    rw [hmi] at hmi'
    cases hmi'
    have hq := List.all_eq_true.mp hmt _ (List.mem_of_getElem? hmi)
    simp only [ev_okM, Bool.and_eq_true, decide_eq_true_eq] at hq
    obtain ⟨hyo, hcode, hplain, hI⟩ := hq
    refine Met.ofW (cc := cY) (maxL := nY) (ret := rY) hplain rfl ?_
    intro p e s m args below meth c s₁ B hml hv
    obtain ⟨rfl, hsz, hP, hK, hD0, hG⟩ := hv
    subst hsz
    have hts := atoms_spec (ws := Cond.code y cY nY rY :: ev_tb) B.pre
    have hown : s.vm.findClass o = some m.cls := by rw [← hyo]; exact findClass_of_methodNamed B.named
    have hD := hD0.self (sz := s.heap.size)
    have F : ev_Fx p s m (as.map (ev_cv ρ)).toArray c o cY nY ρ cA dC dI (va_A (ev_cw ρ cA 0 h) s.heap.size) := ⟨B.exec, B.bytes, hml, hown, fun w hw => hts w (List.mem_cons_of_mem _ hw), hK, hG, fun q hq => Or.inr hq⟩
    have hl := lv_entry (as.map (ev_cv ρ)) (n := nY) (by rw [ev_sl_len]; exact hlen)
    rw [lg_entry_eq]
    have key := ev_sndN (below := below) (e := e) F B.returns B.notSynchronized rfl (fun en hin => List.all_eq_true.mp hI en hin) (fun k as h z hm => ev_sound hmt l ρ cA dC dI d k as h z hm) n _ z hrun
    exact key s.heap [] _ hP hD va_S.rf (ev_has_mono hl (ev_ent_sub ρ nY as)) (ev_ent_len hlen)
end EVS
end
