section
-- ===== PART A: goes FIRST, ahead of the names: the tables' words, and 'selects' of the private methods out of them =====
/-- a private method of a class that the tables say can be made, by its rows of tables_1 -/
def lw_okq (q : MethodName × Nat) : Prop := (q.1.cls ≠ "java/lang/invoke/MethodHandle" ∧ q.1.cls ≠ "java/lang/invoke/VarHandle") ∧ Cond.instantiable q.1.cls q.2 ∈ tables_1 ∧ Cond.privateMethod q.1 ∈ tables_1 ∧ Cond.instanceMethod q.1 ∈ tables_1
theorem lw_p0 : lw_okq (⟨"WithEyesBound$Page", "mayEndRow", "()Z"⟩, 5) := ⟨⟨by decide +kernel, by decide +kernel⟩, List.mem_of_getElem? (i := 31) (by decide +kernel), List.mem_of_getElem? (i := 257) (by decide +kernel), List.mem_of_getElem? (i := 258) (by decide +kernel)⟩
theorem lw_p1 : lw_okq (⟨"WithEyesBound$Ring", "put", "(III)V"⟩, 6) := ⟨⟨by decide +kernel, by decide +kernel⟩, List.mem_of_getElem? (i := 56) (by decide +kernel), List.mem_of_getElem? (i := 371) (by decide +kernel), List.mem_of_getElem? (i := 372) (by decide +kernel)⟩
theorem lw_p2 : lw_okq (⟨"WithEyesBound$Ring", "findBeside", "(II)V"⟩, 6) := ⟨⟨by decide +kernel, by decide +kernel⟩, List.mem_of_getElem? (i := 56) (by decide +kernel), List.mem_of_getElem? (i := 375) (by decide +kernel), List.mem_of_getElem? (i := 376) (by decide +kernel)⟩
theorem lw_p3 : lw_okq (⟨"WithEyesBound$Odds", "clearOutcomes", "()V"⟩, 6) := ⟨⟨by decide +kernel, by decide +kernel⟩, List.mem_of_getElem? (i := 86) (by decide +kernel), List.mem_of_getElem? (i := 456) (by decide +kernel), List.mem_of_getElem? (i := 457) (by decide +kernel)⟩
theorem lw_p4 : lw_okq (⟨"WithEyesBound$Odds", "add", "(IIIJ)V"⟩, 6) := ⟨⟨by decide +kernel, by decide +kernel⟩, List.mem_of_getElem? (i := 86) (by decide +kernel), List.mem_of_getElem? (i := 460) (by decide +kernel), List.mem_of_getElem? (i := 461) (by decide +kernel)⟩
theorem lw_p5 : lw_okq (⟨"WithEyesBound$Odds", "walk", "(IIJI)V"⟩, 6) := ⟨⟨by decide +kernel, by decide +kernel⟩, List.mem_of_getElem? (i := 86) (by decide +kernel), List.mem_of_getElem? (i := 480) (by decide +kernel), List.mem_of_getElem? (i := 481) (by decide +kernel)⟩
theorem lw_p6 : lw_okq (⟨"WithEyesBound$Odds", "hearFrom", "(IIIJ)V"⟩, 6) := ⟨⟨by decide +kernel, by decide +kernel⟩, List.mem_of_getElem? (i := 86) (by decide +kernel), List.mem_of_getElem? (i := 499) (by decide +kernel), List.mem_of_getElem? (i := 500) (by decide +kernel)⟩
theorem lw_p7 : lw_okq (⟨"WithEyesBound", "sixtiethsExpected", "(IIII)J"⟩, 10) := ⟨⟨by decide +kernel, by decide +kernel⟩, List.mem_of_getElem? (i := 23) (by decide +kernel), List.mem_of_getElem? (i := 557) (by decide +kernel), List.mem_of_getElem? (i := 558) (by decide +kernel)⟩
theorem lw_p8 : lw_okq (⟨"WithEyesBound", "bestDoing", "(III)I"⟩, 10) := ⟨⟨by decide +kernel, by decide +kernel⟩, List.mem_of_getElem? (i := 23) (by decide +kernel), List.mem_of_getElem? (i := 574) (by decide +kernel), List.mem_of_getElem? (i := 575) (by decide +kernel)⟩
theorem lw_p9 : lw_okq (⟨"WithEyesBound", "playerOf", "(I)LWithEyesBound$Player;"⟩, 10) := ⟨⟨by decide +kernel, by decide +kernel⟩, List.mem_of_getElem? (i := 23) (by decide +kernel), List.mem_of_getElem? (i := 707) (by decide +kernel), List.mem_of_getElem? (i := 708) (by decide +kernel)⟩
theorem lw_p10 : lw_okq (⟨"WithEyesBound$Round", "playersGo", "()V"⟩, 11) := ⟨⟨by decide +kernel, by decide +kernel⟩, List.mem_of_getElem? (i := 117) (by decide +kernel), List.mem_of_getElem? (i := 767) (by decide +kernel), List.mem_of_getElem? (i := 768) (by decide +kernel)⟩
theorem lw_p11 : lw_okq (⟨"WithEyesBound$Round", "lookToCall", "()V"⟩, 11) := ⟨⟨by decide +kernel, by decide +kernel⟩, List.mem_of_getElem? (i := 117) (by decide +kernel), List.mem_of_getElem? (i := 800) (by decide +kernel), List.mem_of_getElem? (i := 801) (by decide +kernel)⟩
theorem lw_p12 : lw_okq (⟨"WithEyesBound$Round", "heGoes", "()V"⟩, 11) := ⟨⟨by decide +kernel, by decide +kernel⟩, List.mem_of_getElem? (i := 117) (by decide +kernel), List.mem_of_getElem? (i := 820) (by decide +kernel), List.mem_of_getElem? (i := 821) (by decide +kernel)⟩
theorem lw_p13 : lw_okq (⟨"WithEyesBound$Round", "touch", "()V"⟩, 11) := ⟨⟨by decide +kernel, by decide +kernel⟩, List.mem_of_getElem? (i := 117) (by decide +kernel), List.mem_of_getElem? (i := 835) (by decide +kernel), List.mem_of_getElem? (i := 836) (by decide +kernel)⟩
theorem lw_p14 : lw_okq (⟨"WithEyesBound$Naming", "sizeWeight", "(I)I"⟩, 11) := ⟨⟨by decide +kernel, by decide +kernel⟩, List.mem_of_getElem? (i := 157) (by decide +kernel), List.mem_of_getElem? (i := 887) (by decide +kernel), List.mem_of_getElem? (i := 888) (by decide +kernel)⟩
theorem lw_p15 : lw_okq (⟨"WithEyesBound$Naming", "clothWeight", "(II)I"⟩, 11) := ⟨⟨by decide +kernel, by decide +kernel⟩, List.mem_of_getElem? (i := 157) (by decide +kernel), List.mem_of_getElem? (i := 891) (by decide +kernel), List.mem_of_getElem? (i := 892) (by decide +kernel)⟩
def lw_privs_1 : List (MethodName × Nat) := [(⟨"WithEyesBound$Page", "mayEndRow", "()Z"⟩, 5), (⟨"WithEyesBound$Ring", "put", "(III)V"⟩, 6), (⟨"WithEyesBound$Ring", "findBeside", "(II)V"⟩, 6), (⟨"WithEyesBound$Odds", "clearOutcomes", "()V"⟩, 6), (⟨"WithEyesBound$Odds", "add", "(IIIJ)V"⟩, 6), (⟨"WithEyesBound$Odds", "walk", "(IIJI)V"⟩, 6), (⟨"WithEyesBound$Odds", "hearFrom", "(IIIJ)V"⟩, 6), (⟨"WithEyesBound", "sixtiethsExpected", "(IIII)J"⟩, 10), (⟨"WithEyesBound", "bestDoing", "(III)I"⟩, 10), (⟨"WithEyesBound", "playerOf", "(I)LWithEyesBound$Player;"⟩, 10), (⟨"WithEyesBound$Round", "playersGo", "()V"⟩, 11), (⟨"WithEyesBound$Round", "lookToCall", "()V"⟩, 11), (⟨"WithEyesBound$Round", "heGoes", "()V"⟩, 11), (⟨"WithEyesBound$Round", "touch", "()V"⟩, 11), (⟨"WithEyesBound$Naming", "sizeWeight", "(I)I"⟩, 11), (⟨"WithEyesBound$Naming", "clothWeight", "(II)I"⟩, 11)]
theorem lw_r1 : ∀ q ∈ lw_privs_1, lw_okq q := List.forall_mem_cons.mpr ⟨lw_p0, List.forall_mem_cons.mpr ⟨lw_p1, List.forall_mem_cons.mpr ⟨lw_p2, List.forall_mem_cons.mpr ⟨lw_p3, List.forall_mem_cons.mpr ⟨lw_p4, List.forall_mem_cons.mpr ⟨lw_p5, List.forall_mem_cons.mpr ⟨lw_p6, List.forall_mem_cons.mpr ⟨lw_p7, List.forall_mem_cons.mpr ⟨lw_p8, List.forall_mem_cons.mpr ⟨lw_p9, List.forall_mem_cons.mpr ⟨lw_p10, List.forall_mem_cons.mpr ⟨lw_p11, List.forall_mem_cons.mpr ⟨lw_p12, List.forall_mem_cons.mpr ⟨lw_p13, List.forall_mem_cons.mpr ⟨lw_p14, List.forall_mem_cons.mpr ⟨lw_p15, fun _ h => absurd h List.not_mem_nil⟩⟩⟩⟩⟩⟩⟩⟩⟩⟩⟩⟩⟩⟩⟩⟩
theorem lw_p16 : lw_okq (⟨"WithEyesBound$Naming", "clothOf", "(I)I"⟩, 11) := ⟨⟨by decide +kernel, by decide +kernel⟩, List.mem_of_getElem? (i := 157) (by decide +kernel), List.mem_of_getElem? (i := 895) (by decide +kernel), List.mem_of_getElem? (i := 896) (by decide +kernel)⟩
theorem lw_p17 : lw_okq (⟨"WithEyesBoundModel", "readPage", "()V"⟩, 44) := ⟨⟨by decide +kernel, by decide +kernel⟩, List.mem_of_getElem? (i := 989) (by decide +kernel), List.mem_of_getElem? (i := 1141) (by decide +kernel), List.mem_of_getElem? (i := 1142) (by decide +kernel)⟩
theorem lw_p18 : lw_okq (⟨"WithEyesBoundModel", "layLost", "()I"⟩, 44) := ⟨⟨by decide +kernel, by decide +kernel⟩, List.mem_of_getElem? (i := 989) (by decide +kernel), List.mem_of_getElem? (i := 1152) (by decide +kernel), List.mem_of_getElem? (i := 1153) (by decide +kernel)⟩
theorem lw_p19 : lw_okq (⟨"WithEyesBoundModel", "isFree", "(I)Z"⟩, 44) := ⟨⟨by decide +kernel, by decide +kernel⟩, List.mem_of_getElem? (i := 989) (by decide +kernel), List.mem_of_getElem? (i := 1156) (by decide +kernel), List.mem_of_getElem? (i := 1157) (by decide +kernel)⟩
theorem lw_p20 : lw_okq (⟨"WithEyesBoundModel", "isCell", "(I)Z"⟩, 44) := ⟨⟨by decide +kernel, by decide +kernel⟩, List.mem_of_getElem? (i := 989) (by decide +kernel), List.mem_of_getElem? (i := 1160) (by decide +kernel), List.mem_of_getElem? (i := 1161) (by decide +kernel)⟩
theorem lw_p21 : lw_okq (⟨"WithEyesBoundModel", "cells", "()I"⟩, 44) := ⟨⟨by decide +kernel, by decide +kernel⟩, List.mem_of_getElem? (i := 989) (by decide +kernel), List.mem_of_getElem? (i := 1164) (by decide +kernel), List.mem_of_getElem? (i := 1165) (by decide +kernel)⟩
theorem lw_p22 : lw_okq (⟨"WithEyesBoundModel", "clear", "()V"⟩, 44) := ⟨⟨by decide +kernel, by decide +kernel⟩, List.mem_of_getElem? (i := 989) (by decide +kernel), List.mem_of_getElem? (i := 1190) (by decide +kernel), List.mem_of_getElem? (i := 1191) (by decide +kernel)⟩
theorem lw_p23 : lw_okq (⟨"WithEyesBoundModel", "take", "()I"⟩, 44) := ⟨⟨by decide +kernel, by decide +kernel⟩, List.mem_of_getElem? (i := 989) (by decide +kernel), List.mem_of_getElem? (i := 1194) (by decide +kernel), List.mem_of_getElem? (i := 1195) (by decide +kernel)⟩
theorem lw_p24 : lw_okq (⟨"WithEyesBoundModel", "above", "()I"⟩, 44) := ⟨⟨by decide +kernel, by decide +kernel⟩, List.mem_of_getElem? (i := 989) (by decide +kernel), List.mem_of_getElem? (i := 1201) (by decide +kernel), List.mem_of_getElem? (i := 1202) (by decide +kernel)⟩
theorem lw_p25 : lw_okq (⟨"WithEyesBoundModel", "layStep", "(III)V"⟩, 44) := ⟨⟨by decide +kernel, by decide +kernel⟩, List.mem_of_getElem? (i := 989) (by decide +kernel), List.mem_of_getElem? (i := 1209) (by decide +kernel), List.mem_of_getElem? (i := 1210) (by decide +kernel)⟩
theorem lw_p26 : lw_okq (⟨"WithEyesBoundModel", "stepOne", "(IIII)V"⟩, 44) := ⟨⟨by decide +kernel, by decide +kernel⟩, List.mem_of_getElem? (i := 989) (by decide +kernel), List.mem_of_getElem? (i := 1213) (by decide +kernel), List.mem_of_getElem? (i := 1214) (by decide +kernel)⟩
theorem lw_p27 : lw_okq (⟨"WithEyesBoundModel", "on", "(II)I"⟩, 44) := ⟨⟨by decide +kernel, by decide +kernel⟩, List.mem_of_getElem? (i := 989) (by decide +kernel), List.mem_of_getElem? (i := 1217) (by decide +kernel), List.mem_of_getElem? (i := 1218) (by decide +kernel)⟩
theorem lw_p28 : lw_okq (⟨"WithEyesBoundModel", "sortAt", "(I)I"⟩, 44) := ⟨⟨by decide +kernel, by decide +kernel⟩, List.mem_of_getElem? (i := 989) (by decide +kernel), List.mem_of_getElem? (i := 1221) (by decide +kernel), List.mem_of_getElem? (i := 1222) (by decide +kernel)⟩
theorem lw_p29 : lw_okq (⟨"WithEyesBoundModel", "layHeard", "(III)V"⟩, 44) := ⟨⟨by decide +kernel, by decide +kernel⟩, List.mem_of_getElem? (i := 989) (by decide +kernel), List.mem_of_getElem? (i := 1232) (by decide +kernel), List.mem_of_getElem? (i := 1233) (by decide +kernel)⟩
theorem lw_p30 : lw_okq (⟨"WithEyesBoundModel", "liesFrom", "(II)I"⟩, 44) := ⟨⟨by decide +kernel, by decide +kernel⟩, List.mem_of_getElem? (i := 989) (by decide +kernel), List.mem_of_getElem? (i := 1236) (by decide +kernel), List.mem_of_getElem? (i := 1237) (by decide +kernel)⟩
theorem lw_p31 : lw_okq (⟨"WithEyesBoundModel", "ofCell", "(I)J"⟩, 44) := ⟨⟨by decide +kernel, by decide +kernel⟩, List.mem_of_getElem? (i := 989) (by decide +kernel), List.mem_of_getElem? (i := 1251) (by decide +kernel), List.mem_of_getElem? (i := 1252) (by decide +kernel)⟩
def lw_privs_2 : List (MethodName × Nat) := [(⟨"WithEyesBound$Naming", "clothOf", "(I)I"⟩, 11), (⟨"WithEyesBoundModel", "readPage", "()V"⟩, 44), (⟨"WithEyesBoundModel", "layLost", "()I"⟩, 44), (⟨"WithEyesBoundModel", "isFree", "(I)Z"⟩, 44), (⟨"WithEyesBoundModel", "isCell", "(I)Z"⟩, 44), (⟨"WithEyesBoundModel", "cells", "()I"⟩, 44), (⟨"WithEyesBoundModel", "clear", "()V"⟩, 44), (⟨"WithEyesBoundModel", "take", "()I"⟩, 44), (⟨"WithEyesBoundModel", "above", "()I"⟩, 44), (⟨"WithEyesBoundModel", "layStep", "(III)V"⟩, 44), (⟨"WithEyesBoundModel", "stepOne", "(IIII)V"⟩, 44), (⟨"WithEyesBoundModel", "on", "(II)I"⟩, 44), (⟨"WithEyesBoundModel", "sortAt", "(I)I"⟩, 44), (⟨"WithEyesBoundModel", "layHeard", "(III)V"⟩, 44), (⟨"WithEyesBoundModel", "liesFrom", "(II)I"⟩, 44), (⟨"WithEyesBoundModel", "ofCell", "(I)J"⟩, 44)]
theorem lw_r2 : ∀ q ∈ lw_privs_2, lw_okq q := List.forall_mem_cons.mpr ⟨lw_p16, List.forall_mem_cons.mpr ⟨lw_p17, List.forall_mem_cons.mpr ⟨lw_p18, List.forall_mem_cons.mpr ⟨lw_p19, List.forall_mem_cons.mpr ⟨lw_p20, List.forall_mem_cons.mpr ⟨lw_p21, List.forall_mem_cons.mpr ⟨lw_p22, List.forall_mem_cons.mpr ⟨lw_p23, List.forall_mem_cons.mpr ⟨lw_p24, List.forall_mem_cons.mpr ⟨lw_p25, List.forall_mem_cons.mpr ⟨lw_p26, List.forall_mem_cons.mpr ⟨lw_p27, List.forall_mem_cons.mpr ⟨lw_p28, List.forall_mem_cons.mpr ⟨lw_p29, List.forall_mem_cons.mpr ⟨lw_p30, List.forall_mem_cons.mpr ⟨lw_p31, fun _ h => absurd h List.not_mem_nil⟩⟩⟩⟩⟩⟩⟩⟩⟩⟩⟩⟩⟩⟩⟩⟩
theorem lw_p32 : lw_okq (⟨"WithEyesBoundModel", "all", "()J"⟩, 44) := ⟨⟨by decide +kernel, by decide +kernel⟩, List.mem_of_getElem? (i := 989) (by decide +kernel), List.mem_of_getElem? (i := 1255) (by decide +kernel), List.mem_of_getElem? (i := 1256) (by decide +kernel)⟩
theorem lw_p33 : lw_okq (⟨"WithEyesBoundModel", "likeliestNow", "()I"⟩, 44) := ⟨⟨by decide +kernel, by decide +kernel⟩, List.mem_of_getElem? (i := 989) (by decide +kernel), List.mem_of_getElem? (i := 1272) (by decide +kernel), List.mem_of_getElem? (i := 1273) (by decide +kernel)⟩
theorem lw_p34 : lw_okq (⟨"WithEyesBoundModel", "areMany", "()Z"⟩, 44) := ⟨⟨by decide +kernel, by decide +kernel⟩, List.mem_of_getElem? (i := 989) (by decide +kernel), List.mem_of_getElem? (i := 1284) (by decide +kernel), List.mem_of_getElem? (i := 1285) (by decide +kernel)⟩
theorem lw_p35 : lw_okq (⟨"WithEyesBoundModel", "expectedNow", "(IIII)J"⟩, 44) := ⟨⟨by decide +kernel, by decide +kernel⟩, List.mem_of_getElem? (i := 989) (by decide +kernel), List.mem_of_getElem? (i := 1288) (by decide +kernel), List.mem_of_getElem? (i := 1289) (by decide +kernel)⟩
theorem lw_p36 : lw_okq (⟨"WithEyesBoundModel", "greatestThen", "()J"⟩, 44) := ⟨⟨by decide +kernel, by decide +kernel⟩, List.mem_of_getElem? (i := 989) (by decide +kernel), List.mem_of_getElem? (i := 1292) (by decide +kernel), List.mem_of_getElem? (i := 1293) (by decide +kernel)⟩
theorem lw_p37 : lw_okq (⟨"WithEyesBoundModel", "isPlayer", "(I)Z"⟩, 44) := ⟨⟨by decide +kernel, by decide +kernel⟩, List.mem_of_getElem? (i := 989) (by decide +kernel), List.mem_of_getElem? (i := 1318) (by decide +kernel), List.mem_of_getElem? (i := 1319) (by decide +kernel)⟩
theorem lw_p38 : lw_okq (⟨"WithEyesBoundModel", "playerTold", "(II)I"⟩, 44) := ⟨⟨by decide +kernel, by decide +kernel⟩, List.mem_of_getElem? (i := 989) (by decide +kernel), List.mem_of_getElem? (i := 1326) (by decide +kernel), List.mem_of_getElem? (i := 1327) (by decide +kernel)⟩
theorem lw_p39 : lw_okq (⟨"WithEyesBoundModel", "play", "(IIIII)V"⟩, 44) := ⟨⟨by decide +kernel, by decide +kernel⟩, List.mem_of_getElem? (i := 989) (by decide +kernel), List.mem_of_getElem? (i := 1338) (by decide +kernel), List.mem_of_getElem? (i := 1339) (by decide +kernel)⟩
theorem lw_p40 : lw_okq (⟨"WithEyesBoundModel", "goPlayers", "()V"⟩, 44) := ⟨⟨by decide +kernel, by decide +kernel⟩, List.mem_of_getElem? (i := 989) (by decide +kernel), List.mem_of_getElem? (i := 1342) (by decide +kernel), List.mem_of_getElem? (i := 1343) (by decide +kernel)⟩
theorem lw_p41 : lw_okq (⟨"WithEyesBoundModel", "goes", "(IIIZ)I"⟩, 44) := ⟨⟨by decide +kernel, by decide +kernel⟩, List.mem_of_getElem? (i := 989) (by decide +kernel), List.mem_of_getElem? (i := 1346) (by decide +kernel), List.mem_of_getElem? (i := 1347) (by decide +kernel)⟩
theorem lw_p42 : lw_okq (⟨"WithEyesBoundModel", "far", "(III)I"⟩, 44) := ⟨⟨by decide +kernel, by decide +kernel⟩, List.mem_of_getElem? (i := 989) (by decide +kernel), List.mem_of_getElem? (i := 1350) (by decide +kernel), List.mem_of_getElem? (i := 1351) (by decide +kernel)⟩
theorem lw_p43 : lw_okq (⟨"WithEyesBoundModel", "goHim", "(II)V"⟩, 44) := ⟨⟨by decide +kernel, by decide +kernel⟩, List.mem_of_getElem? (i := 989) (by decide +kernel), List.mem_of_getElem? (i := 1354) (by decide +kernel), List.mem_of_getElem? (i := 1355) (by decide +kernel)⟩
theorem lw_p44 : lw_okq (⟨"WithEyesBoundModel", "nearestCall", "()I"⟩, 44) := ⟨⟨by decide +kernel, by decide +kernel⟩, List.mem_of_getElem? (i := 989) (by decide +kernel), List.mem_of_getElem? (i := 1358) (by decide +kernel), List.mem_of_getElem? (i := 1359) (by decide +kernel)⟩
theorem lw_p45 : lw_okq (⟨"WithEyesBoundModel", "callOf", "(I)I"⟩, 44) := ⟨⟨by decide +kernel, by decide +kernel⟩, List.mem_of_getElem? (i := 989) (by decide +kernel), List.mem_of_getElem? (i := 1362) (by decide +kernel), List.mem_of_getElem? (i := 1363) (by decide +kernel)⟩
theorem lw_p46 : lw_okq (⟨"WithEyesBoundModel", "draw", "(I)I"⟩, 44) := ⟨⟨by decide +kernel, by decide +kernel⟩, List.mem_of_getElem? (i := 989) (by decide +kernel), List.mem_of_getElem? (i := 1366) (by decide +kernel), List.mem_of_getElem? (i := 1367) (by decide +kernel)⟩
theorem lw_p47 : lw_okq (⟨"WithEyesBoundModel", "touchedNow", "()I"⟩, 44) := ⟨⟨by decide +kernel, by decide +kernel⟩, List.mem_of_getElem? (i := 989) (by decide +kernel), List.mem_of_getElem? (i := 1374) (by decide +kernel), List.mem_of_getElem? (i := 1375) (by decide +kernel)⟩
def lw_privs_3 : List (MethodName × Nat) := [(⟨"WithEyesBoundModel", "all", "()J"⟩, 44), (⟨"WithEyesBoundModel", "likeliestNow", "()I"⟩, 44), (⟨"WithEyesBoundModel", "areMany", "()Z"⟩, 44), (⟨"WithEyesBoundModel", "expectedNow", "(IIII)J"⟩, 44), (⟨"WithEyesBoundModel", "greatestThen", "()J"⟩, 44), (⟨"WithEyesBoundModel", "isPlayer", "(I)Z"⟩, 44), (⟨"WithEyesBoundModel", "playerTold", "(II)I"⟩, 44), (⟨"WithEyesBoundModel", "play", "(IIIII)V"⟩, 44), (⟨"WithEyesBoundModel", "goPlayers", "()V"⟩, 44), (⟨"WithEyesBoundModel", "goes", "(IIIZ)I"⟩, 44), (⟨"WithEyesBoundModel", "far", "(III)I"⟩, 44), (⟨"WithEyesBoundModel", "goHim", "(II)V"⟩, 44), (⟨"WithEyesBoundModel", "nearestCall", "()I"⟩, 44), (⟨"WithEyesBoundModel", "callOf", "(I)I"⟩, 44), (⟨"WithEyesBoundModel", "draw", "(I)I"⟩, 44), (⟨"WithEyesBoundModel", "touchedNow", "()I"⟩, 44)]
theorem lw_r3 : ∀ q ∈ lw_privs_3, lw_okq q := List.forall_mem_cons.mpr ⟨lw_p32, List.forall_mem_cons.mpr ⟨lw_p33, List.forall_mem_cons.mpr ⟨lw_p34, List.forall_mem_cons.mpr ⟨lw_p35, List.forall_mem_cons.mpr ⟨lw_p36, List.forall_mem_cons.mpr ⟨lw_p37, List.forall_mem_cons.mpr ⟨lw_p38, List.forall_mem_cons.mpr ⟨lw_p39, List.forall_mem_cons.mpr ⟨lw_p40, List.forall_mem_cons.mpr ⟨lw_p41, List.forall_mem_cons.mpr ⟨lw_p42, List.forall_mem_cons.mpr ⟨lw_p43, List.forall_mem_cons.mpr ⟨lw_p44, List.forall_mem_cons.mpr ⟨lw_p45, List.forall_mem_cons.mpr ⟨lw_p46, List.forall_mem_cons.mpr ⟨lw_p47, fun _ h => absurd h List.not_mem_nil⟩⟩⟩⟩⟩⟩⟩⟩⟩⟩⟩⟩⟩⟩⟩⟩
theorem lw_p48 : lw_okq (⟨"WithEyesBoundModel", "likelyAll", "(III)I"⟩, 44) := ⟨⟨by decide +kernel, by decide +kernel⟩, List.mem_of_getElem? (i := 989) (by decide +kernel), List.mem_of_getElem? (i := 1402) (by decide +kernel), List.mem_of_getElem? (i := 1403) (by decide +kernel)⟩
theorem lw_p49 : lw_okq (⟨"WithEyesBoundModel", "likely", "(IIII)I"⟩, 44) := ⟨⟨by decide +kernel, by decide +kernel⟩, List.mem_of_getElem? (i := 989) (by decide +kernel), List.mem_of_getElem? (i := 1406) (by decide +kernel), List.mem_of_getElem? (i := 1407) (by decide +kernel)⟩
theorem lw_p50 : lw_okq (⟨"WithEyesBoundModel", "byCloth", "(II)I"⟩, 44) := ⟨⟨by decide +kernel, by decide +kernel⟩, List.mem_of_getElem? (i := 989) (by decide +kernel), List.mem_of_getElem? (i := 1410) (by decide +kernel), List.mem_of_getElem? (i := 1411) (by decide +kernel)⟩
theorem lw_p51 : lw_okq (⟨"WithEyesBoundModel", "saysNow", "(III)I"⟩, 44) := ⟨⟨by decide +kernel, by decide +kernel⟩, List.mem_of_getElem? (i := 989) (by decide +kernel), List.mem_of_getElem? (i := 1418) (by decide +kernel), List.mem_of_getElem? (i := 1419) (by decide +kernel)⟩
theorem lw_p52 : lw_okq (⟨"WithEyesBoundModel", "howMany", "(I)I"⟩, 44) := ⟨⟨by decide +kernel, by decide +kernel⟩, List.mem_of_getElem? (i := 989) (by decide +kernel), List.mem_of_getElem? (i := 1438) (by decide +kernel), List.mem_of_getElem? (i := 1439) (by decide +kernel)⟩
theorem lw_p53 : lw_okq (⟨"WithEyesBoundModel", "freeMany", "()I"⟩, 44) := ⟨⟨by decide +kernel, by decide +kernel⟩, List.mem_of_getElem? (i := 989) (by decide +kernel), List.mem_of_getElem? (i := 1442) (by decide +kernel), List.mem_of_getElem? (i := 1443) (by decide +kernel)⟩
theorem lw_p54 : lw_okq (⟨"WithEyesBoundModel", "mix", "(J)V"⟩, 44) := ⟨⟨by decide +kernel, by decide +kernel⟩, List.mem_of_getElem? (i := 989) (by decide +kernel), List.mem_of_getElem? (i := 1451) (by decide +kernel), List.mem_of_getElem? (i := 1452) (by decide +kernel)⟩
theorem lw_p55 : lw_okq (⟨"WithEyesBoundModel", "mixGame", "()V"⟩, 44) := ⟨⟨by decide +kernel, by decide +kernel⟩, List.mem_of_getElem? (i := 989) (by decide +kernel), List.mem_of_getElem? (i := 1456) (by decide +kernel), List.mem_of_getElem? (i := 1457) (by decide +kernel)⟩
def lw_privs_4 : List (MethodName × Nat) := [(⟨"WithEyesBoundModel", "likelyAll", "(III)I"⟩, 44), (⟨"WithEyesBoundModel", "likely", "(IIII)I"⟩, 44), (⟨"WithEyesBoundModel", "byCloth", "(II)I"⟩, 44), (⟨"WithEyesBoundModel", "saysNow", "(III)I"⟩, 44), (⟨"WithEyesBoundModel", "howMany", "(I)I"⟩, 44), (⟨"WithEyesBoundModel", "freeMany", "()I"⟩, 44), (⟨"WithEyesBoundModel", "mix", "(J)V"⟩, 44), (⟨"WithEyesBoundModel", "mixGame", "()V"⟩, 44)]
theorem lw_r4 : ∀ q ∈ lw_privs_4, lw_okq q := List.forall_mem_cons.mpr ⟨lw_p48, List.forall_mem_cons.mpr ⟨lw_p49, List.forall_mem_cons.mpr ⟨lw_p50, List.forall_mem_cons.mpr ⟨lw_p51, List.forall_mem_cons.mpr ⟨lw_p52, List.forall_mem_cons.mpr ⟨lw_p53, List.forall_mem_cons.mpr ⟨lw_p54, List.forall_mem_cons.mpr ⟨lw_p55, fun _ h => absurd h List.not_mem_nil⟩⟩⟩⟩⟩⟩⟩⟩
def lw_privs : List (MethodName × Nat) := lw_privs_1 ++ (lw_privs_2 ++ (lw_privs_3 ++ (lw_privs_4)))
def lw_tbl : List Cond := k2_sels lw_privs ++ tables_1
theorem lw_privs_ok : ∀ q ∈ lw_privs, lw_okq q := by
  show ∀ q ∈ lw_privs_1 ++ (lw_privs_2 ++ (lw_privs_3 ++ (lw_privs_4))), lw_okq q
  exact List.forall_mem_append.mpr ⟨lw_r1, List.forall_mem_append.mpr ⟨lw_r2, List.forall_mem_append.mpr ⟨lw_r3, lw_r4⟩⟩⟩
end
section
/-! ===== BEGIN words of one list among another's, by their places ===== -/
theorem goodIn_r {big : List Cond} (ws : List Cond) (ps : List Nat) (hp : ws = ps.filterMap (fun i => big[i]?)) (h : ws.all goodWord = true) : GoodIn big ws := by
  intro w hw
  have h1 := List.all_eq_true.mp h w hw
  rw [hp] at hw
  obtain ⟨i, -, hi⟩ := List.mem_filterMap.mp hw
  have hm : w ∈ big := by first | exact List.mem_of_getElem? hi | exact List.getElem?_mem hi
  exact ⟨hm, good_of_word h1⟩
theorem goodIn_app {big a b : List Cond} (ha : GoodIn big a) (hb : GoodIn big b) : GoodIn big (a ++ b) := fun w h => (List.mem_append.mp h).elim (ha w) (hb w)
theorem goodIn_ca {big a b : List Cond} {c : Cond} (ha : GoodIn big (c :: a)) (hb : GoodIn big b) : GoodIn big (c :: (a ++ b)) := fun w h => (List.mem_cons.mp h).elim (fun e => ha w (List.mem_cons.mpr (Or.inl e))) (fun h => (List.mem_append.mp h).elim (fun h => ha w (List.mem_cons.mpr (Or.inr h))) (hb w))
theorem goodIn_sub {big ws : List Cond} (hm : ∀ w ∈ ws, w ∈ big) (h : ws.all goodWord = true) : GoodIn big ws := fun w hw => ⟨hm w hw, good_of_word (List.all_eq_true.mp h w hw)⟩
/-! ===== END ===== -/
/-! ===== BEGIN printed: names, fields, word lists, decode rows ===== -/
def RX0 : String := "WithEyesBound$Behind"
def TX0 : u_T := fun k => match k with
  | 0 => ("WithEyesBound$Player", "told", "I", false)
  | 1 => ("WithEyesBound$Player", "kept", "I", false)
  | 2 => ("WithEyesBound$Player", "at", "I", false)
  | 3 => ("WithEyesBound$Player", "size", "I", false)
  | 4 => ("WithEyesBound$Player", "cloth", "I", false)
  | _ => ("WithEyesBound$Player", "giggle", "I", false)
def tyX0 : Nat → FieldType := fun k => match k with
  | 0 => .int
  | 1 => .int
  | 2 => .int
  | 3 => .int
  | 4 => .int
  | _ => .int
abbrev wsX00 : List Cond := u_ws RX0 TX0 6
theorem nmX0 : ∀ a, a < 6 → ∀ b, b < 6 → a ≠ b → (TX0 a).2.1 ≠ (TX0 b).2.1 := by decide +kernel
theorem tyX0_ok : ∀ k, k < 6 → parseFieldDescriptor (TX0 k).2.2.1 = some (tyX0 k) := by decide +kernel
abbrev cX0_init : ByteArray := prog_2_method_1_code
def yX0_init : MethodName := ⟨RX0, "<init>", "()V"⟩
abbrev cX0_kind : ByteArray := prog_2_method_2_code
def yX0_kind : MethodName := ⟨RX0, "kind", "()I"⟩
abbrev cX0_goOn : ByteArray := prog_2_method_3_code
def yX0_goOn : MethodName := ⟨RX0, "goOn", "(LWithEyesBound$Ring;III)V"⟩
def RX1 : String := "WithEyesBound$Caller"
def TX1 : u_T := fun k => match k with
  | 0 => ("WithEyesBound$Player", "told", "I", false)
  | 1 => ("WithEyesBound$Player", "kept", "I", false)
  | 2 => ("WithEyesBound$Player", "at", "I", false)
  | 3 => ("WithEyesBound$Player", "size", "I", false)
  | 4 => ("WithEyesBound$Player", "cloth", "I", false)
  | _ => ("WithEyesBound$Player", "giggle", "I", false)
def tyX1 : Nat → FieldType := fun k => match k with
  | 0 => .int
  | 1 => .int
  | 2 => .int
  | 3 => .int
  | 4 => .int
  | _ => .int
abbrev wsX10 : List Cond := u_ws RX1 TX1 6
theorem nmX1 : ∀ a, a < 6 → ∀ b, b < 6 → a ≠ b → (TX1 a).2.1 ≠ (TX1 b).2.1 := by decide +kernel
theorem tyX1_ok : ∀ k, k < 6 → parseFieldDescriptor (TX1 k).2.2.1 = some (tyX1 k) := by decide +kernel
abbrev cX1_init : ByteArray := prog_3_method_1_code
def yX1_init : MethodName := ⟨RX1, "<init>", "()V"⟩
abbrev cX1_kind : ByteArray := prog_3_method_2_code
def yX1_kind : MethodName := ⟨RX1, "kind", "()I"⟩
abbrev cX1_callsFrom : ByteArray := prog_3_method_3_code
def yX1_callsFrom : MethodName := ⟨RX1, "callsFrom", "(LWithEyesBound$Ring;)I"⟩
def RX2 : String := "WithEyesBound$Feigned"
def TX2 : u_T := fun k => match k with
  | 0 => ("WithEyesBound$Player", "told", "I", false)
  | 1 => ("WithEyesBound$Player", "kept", "I", false)
  | 2 => ("WithEyesBound$Player", "at", "I", false)
  | 3 => ("WithEyesBound$Player", "size", "I", false)
  | 4 => ("WithEyesBound$Player", "cloth", "I", false)
  | _ => ("WithEyesBound$Player", "giggle", "I", false)
def tyX2 : Nat → FieldType := fun k => match k with
  | 0 => .int
  | 1 => .int
  | 2 => .int
  | 3 => .int
  | 4 => .int
  | _ => .int
abbrev wsX20 : List Cond := u_ws RX2 TX2 6
theorem nmX2 : ∀ a, a < 6 → ∀ b, b < 6 → a ≠ b → (TX2 a).2.1 ≠ (TX2 b).2.1 := by decide +kernel
theorem tyX2_ok : ∀ k, k < 6 → parseFieldDescriptor (TX2 k).2.2.1 = some (tyX2 k) := by decide +kernel
abbrev cX2_init : ByteArray := prog_4_method_1_code
def yX2_init : MethodName := ⟨RX2, "<init>", "()V"⟩
abbrev cX2_kind : ByteArray := prog_4_method_2_code
def yX2_kind : MethodName := ⟨RX2, "kind", "()I"⟩
abbrev cX2_callsFrom : ByteArray := prog_4_method_3_code
def yX2_callsFrom : MethodName := ⟨RX2, "callsFrom", "(LWithEyesBound$Ring;)I"⟩
def RX3 : String := "WithEyesBound$Naming"
def TX3 : u_T := fun k => match k with
  | 0 => ("WithEyesBound$Naming", "players", "[LWithEyesBound$Player;", true)
  | 1 => ("WithEyesBound$Naming", "weights", "[I", true)
  | 2 => ("WithEyesBound$Naming", "sizeOff", "I", false)
  | 3 => ("WithEyesBound$Naming", "clothRight", "I", false)
  | 4 => ("WithEyesBound$Naming", "giggleRight", "I", false)
  | 5 => ("WithEyesBound$Naming", "first", "I", false)
  | 6 => ("WithEyesBound$Naming", "second", "I", false)
  | 7 => ("WithEyesBound$Naming", "changed", "I", false)
  | 8 => ("WithEyesBound$Naming", "keptFirst", "I", false)
  | 9 => ("WithEyesBound$Naming", "keptSecond", "I", false)
  | _ => ("WithEyesBound$Naming", "keptChanged", "I", false)
def tyX3 : Nat → FieldType := fun k => match k with
  | 0 => .array (.object "WithEyesBound$Player")
  | 1 => .array .int
  | 2 => .int
  | 3 => .int
  | 4 => .int
  | 5 => .int
  | 6 => .int
  | 7 => .int
  | 8 => .int
  | 9 => .int
  | _ => .int
abbrev wsX30 : List Cond := u_ws RX3 TX3 11
theorem nmX3 : ∀ a, a < 11 → ∀ b, b < 11 → a ≠ b → (TX3 a).2.1 ≠ (TX3 b).2.1 := by decide +kernel
theorem tyX3_ok : ∀ k, k < 11 → parseFieldDescriptor (TX3 k).2.2.1 = some (tyX3 k) := by decide +kernel
abbrev cX3_init : ByteArray := prog_5_method_1_code
def yX3_init : MethodName := ⟨RX3, "<init>", "([LWithEyesBound$Player;)V"⟩
abbrev cX3_changeJackets : ByteArray := prog_5_method_2_code
def yX3_changeJackets : MethodName := ⟨RX3, "changeJackets", "(III)V"⟩
abbrev cX3_forgetJackets : ByteArray := prog_5_method_3_code
def yX3_forgetJackets : MethodName := ⟨RX3, "forgetJackets", "()V"⟩
abbrev cX3_keep : ByteArray := prog_5_method_4_code
def yX3_keep : MethodName := ⟨RX3, "keep", "()V"⟩
abbrev cX3_takeKept : ByteArray := prog_5_method_5_code
def yX3_takeKept : MethodName := ⟨RX3, "takeKept", "()V"⟩
abbrev cX3_weigh : ByteArray := prog_5_method_6_code
def yX3_weigh : MethodName := ⟨RX3, "weigh", "(III)V"⟩
abbrev cX3_sizeWeight : ByteArray := prog_5_method_7_code
def yX3_sizeWeight : MethodName := ⟨RX3, "sizeWeight", "(I)I"⟩
abbrev cX3_likeWeight : ByteArray := prog_5_method_8_code
def yX3_likeWeight : MethodName := ⟨RX3, "likeWeight", "(ZI)I"⟩
abbrev cX3_clothWeight : ByteArray := prog_5_method_9_code
def yX3_clothWeight : MethodName := ⟨RX3, "clothWeight", "(II)I"⟩
abbrev cX3_clothOf : ByteArray := prog_5_method_10_code
def yX3_clothOf : MethodName := ⟨RX3, "clothOf", "(I)I"⟩
abbrev cX3_weightOf : ByteArray := prog_5_method_11_code
def yX3_weightOf : MethodName := ⟨RX3, "weightOf", "(I)J"⟩
abbrev cX3_total : ByteArray := prog_5_method_12_code
def yX3_total : MethodName := ⟨RX3, "total", "()J"⟩
abbrev cX3_likeliestPlayer : ByteArray := prog_5_method_13_code
def yX3_likeliestPlayer : MethodName := ⟨RX3, "likeliestPlayer", "()I"⟩
abbrev cX3_mixInto : ByteArray := prog_5_method_14_code
def yX3_mixInto : MethodName := ⟨RX3, "mixInto", "(J)J"⟩
def RX4 : String := "WithEyesBound$Odds"
def TX4 : u_T := fun k => match k with
  | 0 => ("WithEyesBound$Odds", "ring", "LWithEyesBound$Ring;", true)
  | 1 => ("WithEyesBound$Odds", "weights", "[J", true)
  | 2 => ("WithEyesBound$Odds", "kept", "[J", true)
  | 3 => ("WithEyesBound$Odds", "outcomes", "[[J", true)
  | 4 => ("WithEyesBound$Odds", "updates", "I", false)
  | _ => ("WithEyesBound$Odds", "keptUpdates", "I", false)
def tyX4 : Nat → FieldType := fun k => match k with
  | 0 => .object "WithEyesBound$Ring"
  | 1 => .array .long
  | 2 => .array .long
  | 3 => .array (.array .long)
  | 4 => .int
  | _ => .int
abbrev wsX40 : List Cond := u_ws RX4 TX4 6
theorem nmX4 : ∀ a, a < 6 → ∀ b, b < 6 → a ≠ b → (TX4 a).2.1 ≠ (TX4 b).2.1 := by decide +kernel
theorem tyX4_ok : ∀ k, k < 6 → parseFieldDescriptor (TX4 k).2.2.1 = some (tyX4 k) := by decide +kernel
abbrev cX4_init : ByteArray := prog_6_method_1_code
def yX4_init : MethodName := ⟨RX4, "<init>", "(LWithEyesBound$Ring;)V"⟩
abbrev cX4_putHim : ByteArray := prog_6_method_2_code
def yX4_putHim : MethodName := ⟨RX4, "putHim", "(II)V"⟩
abbrev cX4_loseHim : ByteArray := prog_6_method_3_code
def yX4_loseHim : MethodName := ⟨RX4, "loseHim", "()V"⟩
abbrev cX4_keep : ByteArray := prog_6_method_4_code
def yX4_keep : MethodName := ⟨RX4, "keep", "()V"⟩
abbrev cX4_takeKept : ByteArray := prog_6_method_5_code
def yX4_takeKept : MethodName := ⟨RX4, "takeKept", "()V"⟩
abbrev cX4_aboveNought : ByteArray := prog_6_method_6_code
def yX4_aboveNought : MethodName := ⟨RX4, "aboveNought", "()I"⟩
abbrev cX4_total : ByteArray := prog_6_method_7_code
def yX4_total : MethodName := ⟨RX4, "total", "()J"⟩
abbrev cX4_ofCell : ByteArray := prog_6_method_8_code
def yX4_ofCell : MethodName := ⟨RX4, "ofCell", "(I)J"⟩
abbrev cX4_sumOfCell : ByteArray := prog_6_method_9_code
def yX4_sumOfCell : MethodName := ⟨RX4, "sumOfCell", "([JI)J"⟩
abbrev cX4_ofWay : ByteArray := prog_6_method_10_code
def yX4_ofWay : MethodName := ⟨RX4, "ofWay", "(I)J"⟩
abbrev cX4_bestCell : ByteArray := prog_6_method_11_code
def yX4_bestCell : MethodName := ⟨RX4, "bestCell", "()I"⟩
abbrev cX4_foretellTurn : ByteArray := prog_6_method_12_code
def yX4_foretellTurn : MethodName := ⟨RX4, "foretellTurn", "(I)V"⟩
abbrev cX4_foretellStep : ByteArray := prog_6_method_13_code
def yX4_foretellStep : MethodName := ⟨RX4, "foretellStep", "(III)V"⟩
abbrev cX4_walk : ByteArray := prog_6_method_14_code
def yX4_walk : MethodName := ⟨RX4, "walk", "(IIJI)V"⟩
abbrev cX4_foretellCall : ByteArray := prog_6_method_15_code
def yX4_foretellCall : MethodName := ⟨RX4, "foretellCall", "(II)V"⟩
abbrev cX4_hearFrom : ByteArray := prog_6_method_16_code
def yX4_hearFrom : MethodName := ⟨RX4, "hearFrom", "(IIIJ)V"⟩
abbrev cX4_clearOutcomes : ByteArray := prog_6_method_17_code
def yX4_clearOutcomes : MethodName := ⟨RX4, "clearOutcomes", "()V"⟩
abbrev cX4_add : ByteArray := prog_6_method_18_code
def yX4_add : MethodName := ⟨RX4, "add", "(IIIJ)V"⟩
abbrev cX4_narrowTo : ByteArray := prog_6_method_19_code
def yX4_narrowTo : MethodName := ⟨RX4, "narrowTo", "(I)I"⟩
abbrev cX4_likeliestOfAll : ByteArray := prog_6_method_20_code
def yX4_likeliestOfAll : MethodName := ⟨RX4, "likeliestOfAll", "()J"⟩
abbrev cX4_mixInto : ByteArray := prog_6_method_21_code
def yX4_mixInto : MethodName := ⟨RX4, "mixInto", "(J)J"⟩
def RX5 : String := "WithEyesBound$Page"
def TX5 : u_T := fun k => match k with
  | 0 => ("WithEyesBound$Page", "signs", "[C", true)
  | 1 => ("WithEyesBound$Page", "length", "I", false)
  | 2 => ("WithEyesBound$Page", "row", "I", false)
  | 3 => ("WithEyesBound$Page", "column", "I", false)
  | _ => ("WithEyesBound$Page", "width", "I", false)
def tyX5 : Nat → FieldType := fun k => match k with
  | 0 => .array .char
  | 1 => .int
  | 2 => .int
  | 3 => .int
  | _ => .int
abbrev wsX50 : List Cond := u_ws RX5 TX5 5
theorem nmX5 : ∀ a, a < 5 → ∀ b, b < 5 → a ≠ b → (TX5 a).2.1 ≠ (TX5 b).2.1 := by decide +kernel
theorem tyX5_ok : ∀ k, k < 5 → parseFieldDescriptor (TX5 k).2.2.1 = some (tyX5 k) := by decide +kernel
abbrev cX5_init : ByteArray := prog_7_method_1_code
def yX5_init : MethodName := ⟨RX5, "<init>", "()V"⟩
abbrev cX5_lettersIn : ByteArray := prog_7_method_2_code
def yX5_lettersIn : MethodName := ⟨RX5, "lettersIn", "(J)I"⟩
abbrev cX5_codeAt : ByteArray := prog_7_method_3_code
def yX5_codeAt : MethodName := ⟨RX5, "codeAt", "(JI)I"⟩
abbrev cX5_write : ByteArray := prog_7_method_4_code
def yX5_write : MethodName := ⟨RX5, "write", "(JI)V"⟩
abbrev cX5_kindAt : ByteArray := prog_7_method_5_code
def yX5_kindAt : MethodName := ⟨RX5, "kindAt", "(I)I"⟩
abbrev cX5_readOn : ByteArray := prog_7_method_6_code
def yX5_readOn : MethodName := ⟨RX5, "readOn", "()I"⟩
abbrev cX5_mayEndRow : ByteArray := prog_7_method_7_code
def yX5_mayEndRow : MethodName := ⟨RX5, "mayEndRow", "()Z"⟩
abbrev cX5_isWhole : ByteArray := prog_7_method_8_code
def yX5_isWhole : MethodName := ⟨RX5, "isWhole", "()Z"⟩
abbrev cX5_hasFree : ByteArray := prog_7_method_9_code
def yX5_hasFree : MethodName := ⟨RX5, "hasFree", "()Z"⟩
abbrev cX5_mixInto : ByteArray := prog_7_method_10_code
def yX5_mixInto : MethodName := ⟨RX5, "mixInto", "(J)J"⟩
def RX6 : String := "WithEyesBound$Player"
def TX6 : u_T := fun k => match k with
  | 0 => ("WithEyesBound$Player", "told", "I", false)
  | 1 => ("WithEyesBound$Player", "kept", "I", false)
  | 2 => ("WithEyesBound$Player", "at", "I", false)
  | 3 => ("WithEyesBound$Player", "size", "I", false)
  | 4 => ("WithEyesBound$Player", "cloth", "I", false)
  | _ => ("WithEyesBound$Player", "giggle", "I", false)
def tyX6 : Nat → FieldType := fun k => match k with
  | 0 => .int
  | 1 => .int
  | 2 => .int
  | 3 => .int
  | 4 => .int
  | _ => .int
abbrev wsX60 : List Cond := u_ws RX6 TX6 6
theorem nmX6 : ∀ a, a < 6 → ∀ b, b < 6 → a ≠ b → (TX6 a).2.1 ≠ (TX6 b).2.1 := by decide +kernel
theorem tyX6_ok : ∀ k, k < 6 → parseFieldDescriptor (TX6 k).2.2.1 = some (tyX6 k) := by decide +kernel
abbrev cX6_init : ByteArray := prog_8_method_1_code
def yX6_init : MethodName := ⟨RX6, "<init>", "()V"⟩
abbrev cX6_kind : ByteArray := prog_8_method_2_code
def yX6_kind : MethodName := ⟨RX6, "kind", "()I"⟩
abbrev cX6_goOn : ByteArray := prog_8_method_3_code
def yX6_goOn : MethodName := ⟨RX6, "goOn", "(LWithEyesBound$Ring;III)V"⟩
abbrev cX6_callsFrom : ByteArray := prog_8_method_4_code
def yX6_callsFrom : MethodName := ⟨RX6, "callsFrom", "(LWithEyesBound$Ring;)I"⟩
abbrev cX6_isCaught : ByteArray := prog_8_method_5_code
def yX6_isCaught : MethodName := ⟨RX6, "isCaught", "(LWithEyesBound$Round;)Z"⟩
abbrev cX6_detail : ByteArray := prog_8_method_6_code
def yX6_detail : MethodName := ⟨RX6, "detail", "(I)I"⟩
def RX7 : String := "WithEyesBound$Ring"
def TX7 : u_T := fun k => match k with
  | 0 => ("WithEyesBound$Ring", "kinds", "[I", true)
  | 1 => ("WithEyesBound$Ring", "rows", "[I", true)
  | 2 => ("WithEyesBound$Ring", "columns", "[I", true)
  | 3 => ("WithEyesBound$Ring", "beside", "[I", true)
  | 4 => ("WithEyesBound$Ring", "size", "I", false)
  | _ => ("WithEyesBound$Ring", "free", "I", false)
def tyX7 : Nat → FieldType := fun k => match k with
  | 0 => .array .int
  | 1 => .array .int
  | 2 => .array .int
  | 3 => .array .int
  | 4 => .int
  | _ => .int
abbrev wsX70 : List Cond := u_ws RX7 TX7 6
theorem nmX7 : ∀ a, a < 6 → ∀ b, b < 6 → a ≠ b → (TX7 a).2.1 ≠ (TX7 b).2.1 := by decide +kernel
theorem tyX7_ok : ∀ k, k < 6 → parseFieldDescriptor (TX7 k).2.2.1 = some (tyX7 k) := by decide +kernel
abbrev cX7_init : ByteArray := prog_9_method_1_code
def yX7_init : MethodName := ⟨RX7, "<init>", "()V"⟩
abbrev cX7_readFrom : ByteArray := prog_9_method_2_code
def yX7_readFrom : MethodName := ⟨RX7, "readFrom", "(LWithEyesBound$Page;)V"⟩
abbrev cX7_put : ByteArray := prog_9_method_3_code
def yX7_put : MethodName := ⟨RX7, "put", "(III)V"⟩
abbrev cX7_findBeside : ByteArray := prog_9_method_4_code
def yX7_findBeside : MethodName := ⟨RX7, "findBeside", "(II)V"⟩
abbrev cX7_isRead : ByteArray := prog_9_method_5_code
def yX7_isRead : MethodName := ⟨RX7, "isRead", "()Z"⟩
abbrev cX7_has : ByteArray := prog_9_method_6_code
def yX7_has : MethodName := ⟨RX7, "has", "(I)Z"⟩
abbrev cX7_kindOf : ByteArray := prog_9_method_7_code
def yX7_kindOf : MethodName := ⟨RX7, "kindOf", "(I)I"⟩
abbrev cX7_isFree : ByteArray := prog_9_method_8_code
def yX7_isFree : MethodName := ⟨RX7, "isFree", "(I)Z"⟩
abbrev cX7_firstFree : ByteArray := prog_9_method_9_code
def yX7_firstFree : MethodName := ⟨RX7, "firstFree", "()I"⟩
abbrev cX7_ahead : ByteArray := prog_9_method_10_code
def yX7_ahead : MethodName := ⟨RX7, "ahead", "(II)I"⟩
abbrev cX7_rowOf : ByteArray := prog_9_method_11_code
def yX7_rowOf : MethodName := ⟨RX7, "rowOf", "(I)I"⟩
abbrev cX7_columnOf : ByteArray := prog_9_method_12_code
def yX7_columnOf : MethodName := ⟨RX7, "columnOf", "(I)I"⟩
abbrev cX7_apart : ByteArray := prog_9_method_13_code
def yX7_apart : MethodName := ⟨RX7, "apart", "(III)I"⟩
abbrev cX7_wayTo : ByteArray := prog_9_method_14_code
def yX7_wayTo : MethodName := ⟨RX7, "wayTo", "(II)I"⟩
abbrev cX7_choose : ByteArray := prog_9_method_15_code
def yX7_choose : MethodName := ⟨RX7, "choose", "(IIII)I"⟩
abbrev cX7_mixInto : ByteArray := prog_9_method_16_code
def yX7_mixInto : MethodName := ⟨RX7, "mixInto", "(J)J"⟩
def RX8 : String := "WithEyesBound$Round"
def TX8 : u_T := fun k => match k with
  | 0 => ("WithEyesBound$Round", "ring", "LWithEyesBound$Ring;", true)
  | 1 => ("WithEyesBound$Round", "players", "[LWithEyesBound$Player;", true)
  | 2 => ("WithEyesBound$Round", "firstCell", "I", false)
  | 3 => ("WithEyesBound$Round", "firstWay", "I", false)
  | 4 => ("WithEyesBound$Round", "drift", "I", false)
  | 5 => ("WithEyesBound$Round", "tenths", "I", false)
  | 6 => ("WithEyesBound$Round", "hisCell", "I", false)
  | 7 => ("WithEyesBound$Round", "hisWay", "I", false)
  | 8 => ("WithEyesBound$Round", "tenth", "I", false)
  | 9 => ("WithEyesBound$Round", "touched", "I", false)
  | _ => ("WithEyesBound$Round", "seed", "J", false)
def tyX8 : Nat → FieldType := fun k => match k with
  | 0 => .object "WithEyesBound$Ring"
  | 1 => .array (.object "WithEyesBound$Player")
  | 2 => .int
  | 3 => .int
  | 4 => .int
  | 5 => .int
  | 6 => .int
  | 7 => .int
  | 8 => .int
  | 9 => .int
  | _ => .long
abbrev wsX80 : List Cond := u_ws RX8 TX8 11
theorem nmX8 : ∀ a, a < 11 → ∀ b, b < 11 → a ≠ b → (TX8 a).2.1 ≠ (TX8 b).2.1 := by decide +kernel
theorem tyX8_ok : ∀ k, k < 11 → parseFieldDescriptor (TX8 k).2.2.1 = some (tyX8 k) := by decide +kernel
abbrev cX8_init : ByteArray := prog_10_method_1_code
def yX8_init : MethodName := ⟨RX8, "<init>", "(LWithEyesBound$Ring;[LWithEyesBound$Player;)V"⟩
abbrev cX8_begin : ByteArray := prog_10_method_2_code
def yX8_begin : MethodName := ⟨RX8, "begin", "(IIII)V"⟩
abbrev cX8_play : ByteArray := prog_10_method_3_code
def yX8_play : MethodName := ⟨RX8, "play", "(I)V"⟩
abbrev cX8_outcome : ByteArray := prog_10_method_4_code
def yX8_outcome : MethodName := ⟨RX8, "outcome", "(I)I"⟩
abbrev cX8_seedsThatTouch : ByteArray := prog_10_method_5_code
def yX8_seedsThatTouch : MethodName := ⟨RX8, "seedsThatTouch", "(III)I"⟩
abbrev cX8_draw : ByteArray := prog_10_method_6_code
def yX8_draw : MethodName := ⟨RX8, "draw", "()I"⟩
abbrev cX8_playersGo : ByteArray := prog_10_method_7_code
def yX8_playersGo : MethodName := ⟨RX8, "playersGo", "()V"⟩
abbrev cX8_lookToCall : ByteArray := prog_10_method_8_code
def yX8_lookToCall : MethodName := ⟨RX8, "lookToCall", "()V"⟩
abbrev cX8_heGoes : ByteArray := prog_10_method_9_code
def yX8_heGoes : MethodName := ⟨RX8, "heGoes", "()V"⟩
abbrev cX8_touch : ByteArray := prog_10_method_10_code
def yX8_touch : MethodName := ⟨RX8, "touch", "()V"⟩
def RX9 : String := "WithEyesBound$Shy"
def TX9 : u_T := fun k => match k with
  | 0 => ("WithEyesBound$Player", "told", "I", false)
  | 1 => ("WithEyesBound$Player", "kept", "I", false)
  | 2 => ("WithEyesBound$Player", "at", "I", false)
  | 3 => ("WithEyesBound$Player", "size", "I", false)
  | 4 => ("WithEyesBound$Player", "cloth", "I", false)
  | _ => ("WithEyesBound$Player", "giggle", "I", false)
def tyX9 : Nat → FieldType := fun k => match k with
  | 0 => .int
  | 1 => .int
  | 2 => .int
  | 3 => .int
  | 4 => .int
  | _ => .int
abbrev wsX90 : List Cond := u_ws RX9 TX9 6
theorem nmX9 : ∀ a, a < 6 → ∀ b, b < 6 → a ≠ b → (TX9 a).2.1 ≠ (TX9 b).2.1 := by decide +kernel
theorem tyX9_ok : ∀ k, k < 6 → parseFieldDescriptor (TX9 k).2.2.1 = some (tyX9 k) := by decide +kernel
abbrev cX9_init : ByteArray := prog_11_method_1_code
def yX9_init : MethodName := ⟨RX9, "<init>", "()V"⟩
abbrev cX9_kind : ByteArray := prog_11_method_2_code
def yX9_kind : MethodName := ⟨RX9, "kind", "()I"⟩
abbrev cX9_goOn : ByteArray := prog_11_method_3_code
def yX9_goOn : MethodName := ⟨RX9, "goOn", "(LWithEyesBound$Ring;III)V"⟩
def RX10 : String := "WithEyesBound$Small"
def TX10 : u_T := fun k => match k with
  | 0 => ("WithEyesBound$Player", "told", "I", false)
  | 1 => ("WithEyesBound$Player", "kept", "I", false)
  | 2 => ("WithEyesBound$Player", "at", "I", false)
  | 3 => ("WithEyesBound$Player", "size", "I", false)
  | 4 => ("WithEyesBound$Player", "cloth", "I", false)
  | _ => ("WithEyesBound$Player", "giggle", "I", false)
def tyX10 : Nat → FieldType := fun k => match k with
  | 0 => .int
  | 1 => .int
  | 2 => .int
  | 3 => .int
  | 4 => .int
  | _ => .int
abbrev wsX100 : List Cond := u_ws RX10 TX10 6
theorem nmX10 : ∀ a, a < 6 → ∀ b, b < 6 → a ≠ b → (TX10 a).2.1 ≠ (TX10 b).2.1 := by decide +kernel
theorem tyX10_ok : ∀ k, k < 6 → parseFieldDescriptor (TX10 k).2.2.1 = some (tyX10 k) := by decide +kernel
abbrev cX10_init : ByteArray := prog_12_method_1_code
def yX10_init : MethodName := ⟨RX10, "<init>", "()V"⟩
abbrev cX10_kind : ByteArray := prog_12_method_2_code
def yX10_kind : MethodName := ⟨RX10, "kind", "()I"⟩
abbrev cX10_isCaught : ByteArray := prog_12_method_3_code
def yX10_isCaught : MethodName := ⟨RX10, "isCaught", "(LWithEyesBound$Round;)Z"⟩
def RX11 : String := "WithEyesBound"
def TX11 : u_T := fun k => match k with
  | 0 => ("WithEyesBound", "page", "LWithEyesBound$Page;", true)
  | 1 => ("WithEyesBound", "ring", "LWithEyesBound$Ring;", true)
  | 2 => ("WithEyesBound", "odds", "LWithEyesBound$Odds;", true)
  | 3 => ("WithEyesBound", "players", "[LWithEyesBound$Player;", true)
  | 4 => ("WithEyesBound", "round", "LWithEyesBound$Round;", true)
  | 5 => ("WithEyesBound", "naming", "LWithEyesBound$Naming;", true)
  | 6 => ("WithEyesBound", "playing", "I", false)
  | 7 => ("WithEyesBound", "ringsRead", "I", false)
  | 8 => ("WithEyesBound", "standsDone", "I", false)
  | _ => ("WithEyesBound", "imageKept", "Z", false)
def tyX11 : Nat → FieldType := fun k => match k with
  | 0 => .object "WithEyesBound$Page"
  | 1 => .object "WithEyesBound$Ring"
  | 2 => .object "WithEyesBound$Odds"
  | 3 => .array (.object "WithEyesBound$Player")
  | 4 => .object "WithEyesBound$Round"
  | 5 => .object "WithEyesBound$Naming"
  | 6 => .int
  | 7 => .int
  | 8 => .int
  | _ => .boolean
abbrev wsX110 : List Cond := u_ws RX11 TX11 10
theorem nmX11 : ∀ a, a < 10 → ∀ b, b < 10 → a ≠ b → (TX11 a).2.1 ≠ (TX11 b).2.1 := by decide +kernel
theorem tyX11_ok : ∀ k, k < 10 → parseFieldDescriptor (TX11 k).2.2.1 = some (tyX11 k) := by decide +kernel
abbrev cX11_init : ByteArray := prog_1_method_1_code
def yX11_init : MethodName := ⟨RX11, "<init>", "()V"⟩
abbrev cX11_letters : ByteArray := prog_1_method_2_code
def yX11_letters : MethodName := ⟨RX11, "letters", "(J)I"⟩
abbrev cX11_blank : ByteArray := prog_1_method_3_code
def yX11_blank : MethodName := ⟨RX11, "blank", "()I"⟩
abbrev cX11_fault : ByteArray := prog_1_method_4_code
def yX11_fault : MethodName := ⟨RX11, "fault", "()I"⟩
abbrev cX11_ring : ByteArray := prog_1_method_5_code
def yX11_ring : MethodName := ⟨RX11, "ring", "()I"⟩
abbrev cX11_cell : ByteArray := prog_1_method_6_code
def yX11_cell : MethodName := ⟨RX11, "cell", "(I)I"⟩
abbrev cX11_set : ByteArray := prog_1_method_7_code
def yX11_set : MethodName := ⟨RX11, "set", "(II)I"⟩
abbrev cX11_lost : ByteArray := prog_1_method_8_code
def yX11_lost : MethodName := ⟨RX11, "lost", "()I"⟩
abbrev cX11_turned : ByteArray := prog_1_method_9_code
def yX11_turned : MethodName := ⟨RX11, "turned", "(I)I"⟩
abbrev cX11_step : ByteArray := prog_1_method_10_code
def yX11_step : MethodName := ⟨RX11, "step", "(II)I"⟩
abbrev cX11_heard : ByteArray := prog_1_method_11_code
def yX11_heard : MethodName := ⟨RX11, "heard", "(III)I"⟩
abbrev cX11_odds : ByteArray := prog_1_method_12_code
def yX11_odds : MethodName := ⟨RX11, "odds", "(II)J"⟩
abbrev cX11_ways : ByteArray := prog_1_method_13_code
def yX11_ways : MethodName := ⟨RX11, "ways", "(II)J"⟩
abbrev cX11_likeliest : ByteArray := prog_1_method_14_code
def yX11_likeliest : MethodName := ⟨RX11, "likeliest", "()I"⟩
abbrev cX11_knows : ByteArray := prog_1_method_15_code
def yX11_knows : MethodName := ⟨RX11, "knows", "(I)J"⟩
abbrev cX11_expected : ByteArray := prog_1_method_16_code
def yX11_expected : MethodName := ⟨RX11, "expected", "(IIIII)J"⟩
abbrev cX11_next : ByteArray := prog_1_method_17_code
def yX11_next : MethodName := ⟨RX11, "next", "(III)I"⟩
abbrev cX11_post : ByteArray := prog_1_method_18_code
def yX11_post : MethodName := ⟨RX11, "post", "(III)J"⟩
abbrev cX11_player : ByteArray := prog_1_method_19_code
def yX11_player : MethodName := ⟨RX11, "player", "(IIIII)I"⟩
abbrev cX11_as : ByteArray := prog_1_method_20_code
def yX11_as : MethodName := ⟨RX11, "as", "(II)I"⟩
abbrev cX11_about : ByteArray := prog_1_method_21_code
def yX11_about : MethodName := ⟨RX11, "about", "(II)I"⟩
abbrev cX11_move : ByteArray := prog_1_method_22_code
def yX11_move : MethodName := ⟨RX11, "move", "(II)I"⟩
abbrev cX11_game : ByteArray := prog_1_method_23_code
def yX11_game : MethodName := ⟨RX11, "game", "(IIIIII)I"⟩
abbrev cX11_lasts : ByteArray := prog_1_method_24_code
def yX11_lasts : MethodName := ⟨RX11, "lasts", "(IIIII)I"⟩
abbrev cX11_stand : ByteArray := prog_1_method_25_code
def yX11_stand : MethodName := ⟨RX11, "stand", "(IIIIII)I"⟩
abbrev cX11_feels : ByteArray := prog_1_method_26_code
def yX11_feels : MethodName := ⟨RX11, "feels", "(III)I"⟩
abbrev cX11_jackets : ByteArray := prog_1_method_27_code
def yX11_jackets : MethodName := ⟨RX11, "jackets", "(III)I"⟩
abbrev cX11_named : ByteArray := prog_1_method_28_code
def yX11_named : MethodName := ⟨RX11, "named", "(IIIII)I"⟩
abbrev cX11_says : ByteArray := prog_1_method_29_code
def yX11_says : MethodName := ⟨RX11, "says", "(III)I"⟩
abbrev cX11_when : ByteArray := prog_1_method_30_code
def yX11_when : MethodName := ⟨RX11, "when", "(IIIII)I"⟩
abbrev cX11_image : ByteArray := prog_1_method_31_code
def yX11_image : MethodName := ⟨RX11, "image", "()I"⟩
abbrev cX11_restore : ByteArray := prog_1_method_32_code
def yX11_restore : MethodName := ⟨RX11, "restore", "()I"⟩
abbrev cX11_count : ByteArray := prog_1_method_33_code
def yX11_count : MethodName := ⟨RX11, "count", "(I)I"⟩
abbrev cX11_digest : ByteArray := prog_1_method_34_code
def yX11_digest : MethodName := ⟨RX11, "digest", "()J"⟩
abbrev cX11_isWithin : ByteArray := prog_1_method_35_code
def yX11_isWithin : MethodName := ⟨RX11, "isWithin", "(II)Z"⟩
abbrev cX11_mayStart : ByteArray := prog_1_method_36_code
def yX11_mayStart : MethodName := ⟨RX11, "mayStart", "(IIII)Z"⟩
abbrev cX11_couldBeFelt : ByteArray := prog_1_method_37_code
def yX11_couldBeFelt : MethodName := ⟨RX11, "couldBeFelt", "(III)Z"⟩
abbrev cX11_mixed : ByteArray := prog_1_method_38_code
def yX11_mixed : MethodName := ⟨RX11, "mixed", "(JJ)J"⟩
abbrev cX11_commonDivisor : ByteArray := prog_1_method_39_code
def yX11_commonDivisor : MethodName := ⟨RX11, "commonDivisor", "(JJ)J"⟩
abbrev cX11_term : ByteArray := prog_1_method_40_code
def yX11_term : MethodName := ⟨RX11, "term", "(JJI)J"⟩
abbrev cX11_sixtiethsExpected : ByteArray := prog_1_method_41_code
def yX11_sixtiethsExpected : MethodName := ⟨RX11, "sixtiethsExpected", "(IIII)J"⟩
abbrev cX11_bestDoing : ByteArray := prog_1_method_42_code
def yX11_bestDoing : MethodName := ⟨RX11, "bestDoing", "(III)I"⟩
abbrev cX11_playerOf : ByteArray := prog_1_method_43_code
def yX11_playerOf : MethodName := ⟨RX11, "playerOf", "(I)LWithEyesBound$Player;"⟩
abbrev cX11_playerOfKind : ByteArray := prog_1_method_44_code
def yX11_playerOfKind : MethodName := ⟨RX11, "playerOfKind", "(I)LWithEyesBound$Player;"⟩
abbrev cX11_isOfKind : ByteArray := prog_1_method_45_code
def yX11_isOfKind : MethodName := ⟨RX11, "isOfKind", "(LWithEyesBound$Player;I)Z"⟩
def RX12 : String := "WithEyesBoundModel"
def TX12 : u_T := fun k => match k with
  | 0 => ("WithEyesBoundModel", "rows", "I", false)
  | 1 => ("WithEyesBoundModel", "columns", "I", false)
  | 2 => ("WithEyesBoundModel", "rings", "I", false)
  | 3 => ("WithEyesBoundModel", "cellOf", "[I", true)
  | 4 => ("WithEyesBoundModel", "weight", "[J", true)
  | 5 => ("WithEyesBoundModel", "then", "[J", true)
  | 6 => ("WithEyesBoundModel", "updates", "I", false)
  | 7 => ("WithEyesBoundModel", "players", "I", false)
  | 8 => ("WithEyesBoundModel", "kindOf", "[I", true)
  | 9 => ("WithEyesBoundModel", "placeOf", "[I", true)
  | 10 => ("WithEyesBoundModel", "sizeOf", "[I", true)
  | 11 => ("WithEyesBoundModel", "clothOf", "[I", true)
  | 12 => ("WithEyesBoundModel", "giggleOf", "[I", true)
  | 13 => ("WithEyesBoundModel", "unsure", "I", false)
  | 14 => ("WithEyesBoundModel", "clothRight", "I", false)
  | 15 => ("WithEyesBoundModel", "giggleRight", "I", false)
  | 16 => ("WithEyesBoundModel", "jacketA", "I", false)
  | 17 => ("WithEyesBoundModel", "jacketB", "I", false)
  | 18 => ("WithEyesBoundModel", "jacketTenths", "I", false)
  | 19 => ("WithEyesBoundModel", "asks", "I", false)
  | 20 => ("WithEyesBoundModel", "pageLength", "I", false)
  | 21 => ("WithEyesBoundModel", "page", "[B", true)
  | 22 => ("WithEyesBoundModel", "isKept", "Z", false)
  | 23 => ("WithEyesBoundModel", "keptRing", "I", false)
  | 24 => ("WithEyesBoundModel", "keptPlayers", "I", false)
  | 25 => ("WithEyesBoundModel", "keptUpdates", "I", false)
  | 26 => ("WithEyesBoundModel", "keptA", "I", false)
  | 27 => ("WithEyesBoundModel", "keptB", "I", false)
  | 28 => ("WithEyesBoundModel", "keptTenths", "I", false)
  | 29 => ("WithEyesBoundModel", "keptWeight", "[J", true)
  | 30 => ("WithEyesBoundModel", "keptPlace", "[I", true)
  | 31 => ("WithEyesBoundModel", "faultAt", "I", false)
  | 32 => ("WithEyesBoundModel", "isWhole", "Z", false)
  | 33 => ("WithEyesBoundModel", "newRows", "I", false)
  | 34 => ("WithEyesBoundModel", "newColumns", "I", false)
  | 35 => ("WithEyesBoundModel", "newCell", "[I", true)
  | 36 => ("WithEyesBoundModel", "gonePost", "I", false)
  | 37 => ("WithEyesBoundModel", "his", "I", false)
  | 38 => ("WithEyesBoundModel", "looks", "I", false)
  | 39 => ("WithEyesBoundModel", "seedNow", "J", false)
  | 40 => ("WithEyesBoundModel", "place", "[I", true)
  | 41 => ("WithEyesBoundModel", "touched", "I", false)
  | 42 => ("WithEyesBoundModel", "touchedAt", "I", false)
  | _ => ("WithEyesBoundModel", "h", "J", false)
def tyX12 : Nat → FieldType := fun k => match k with
  | 0 => .int
  | 1 => .int
  | 2 => .int
  | 3 => .array .int
  | 4 => .array .long
  | 5 => .array .long
  | 6 => .int
  | 7 => .int
  | 8 => .array .int
  | 9 => .array .int
  | 10 => .array .int
  | 11 => .array .int
  | 12 => .array .int
  | 13 => .int
  | 14 => .int
  | 15 => .int
  | 16 => .int
  | 17 => .int
  | 18 => .int
  | 19 => .int
  | 20 => .int
  | 21 => .array .byte
  | 22 => .boolean
  | 23 => .int
  | 24 => .int
  | 25 => .int
  | 26 => .int
  | 27 => .int
  | 28 => .int
  | 29 => .array .long
  | 30 => .array .int
  | 31 => .int
  | 32 => .boolean
  | 33 => .int
  | 34 => .int
  | 35 => .array .int
  | 36 => .int
  | 37 => .int
  | 38 => .int
  | 39 => .long
  | 40 => .array .int
  | 41 => .int
  | 42 => .int
  | _ => .long
abbrev wsX120 : List Cond := u_ws RX12 TX12 44
theorem nmX12 : ∀ a, a < 44 → ∀ b, b < 44 → a ≠ b → (TX12 a).2.1 ≠ (TX12 b).2.1 := by decide +kernel
theorem tyX12_ok : ∀ k, k < 44 → parseFieldDescriptor (TX12 k).2.2.1 = some (tyX12 k) := by decide +kernel
abbrev cX12_init : ByteArray := prog_14_method_1_code
def yX12_init : MethodName := ⟨RX12, "<init>", "()V"⟩
abbrev cX12_within : ByteArray := prog_14_method_3_code
def yX12_within : MethodName := ⟨RX12, "within", "(III)Z"⟩
abbrev cX12_size : ByteArray := prog_14_method_4_code
def yX12_size : MethodName := ⟨RX12, "size", "(I)I"⟩
abbrev cX12_divisor : ByteArray := prog_14_method_5_code
def yX12_divisor : MethodName := ⟨RX12, "divisor", "(JJ)J"⟩
abbrev cX12_lowest : ByteArray := prog_14_method_6_code
def yX12_lowest : MethodName := ⟨RX12, "lowest", "(JJI)J"⟩
abbrev cX12_letters : ByteArray := prog_14_method_7_code
def yX12_letters : MethodName := ⟨RX12, "letters", "(J)I"⟩
abbrev cX12_blank : ByteArray := prog_14_method_8_code
def yX12_blank : MethodName := ⟨RX12, "blank", "()I"⟩
abbrev cX12_sortOf : ByteArray := prog_14_method_9_code
def yX12_sortOf : MethodName := ⟨RX12, "sortOf", "(I)I"⟩
abbrev cX12_readPage : ByteArray := prog_14_method_10_code
def yX12_readPage : MethodName := ⟨RX12, "readPage", "()V"⟩
abbrev cX12_fault : ByteArray := prog_14_method_11_code
def yX12_fault : MethodName := ⟨RX12, "fault", "()I"⟩
abbrev cX12_ring : ByteArray := prog_14_method_12_code
def yX12_ring : MethodName := ⟨RX12, "ring", "()I"⟩
abbrev cX12_cells : ByteArray := prog_14_method_13_code
def yX12_cells : MethodName := ⟨RX12, "cells", "()I"⟩
abbrev cX12_isCell : ByteArray := prog_14_method_14_code
def yX12_isCell : MethodName := ⟨RX12, "isCell", "(I)Z"⟩
abbrev cX12_isFree : ByteArray := prog_14_method_15_code
def yX12_isFree : MethodName := ⟨RX12, "isFree", "(I)Z"⟩
abbrev cX12_cell : ByteArray := prog_14_method_16_code
def yX12_cell : MethodName := ⟨RX12, "cell", "(I)I"⟩
abbrev cX12_on : ByteArray := prog_14_method_17_code
def yX12_on : MethodName := ⟨RX12, "on", "(II)I"⟩
abbrev cX12_isWay : ByteArray := prog_14_method_18_code
def yX12_isWay : MethodName := ⟨RX12, "isWay", "(I)Z"⟩
abbrev cX12_clear : ByteArray := prog_14_method_19_code
def yX12_clear : MethodName := ⟨RX12, "clear", "()V"⟩
abbrev cX12_layLost : ByteArray := prog_14_method_20_code
def yX12_layLost : MethodName := ⟨RX12, "layLost", "()I"⟩
abbrev cX12_set : ByteArray := prog_14_method_21_code
def yX12_set : MethodName := ⟨RX12, "set", "(II)I"⟩
abbrev cX12_lost : ByteArray := prog_14_method_22_code
def yX12_lost : MethodName := ⟨RX12, "lost", "()I"⟩
abbrev cX12_above : ByteArray := prog_14_method_23_code
def yX12_above : MethodName := ⟨RX12, "above", "()I"⟩
abbrev cX12_take : ByteArray := prog_14_method_24_code
def yX12_take : MethodName := ⟨RX12, "take", "()I"⟩
abbrev cX12_turned : ByteArray := prog_14_method_25_code
def yX12_turned : MethodName := ⟨RX12, "turned", "(I)I"⟩
abbrev cX12_sortAt : ByteArray := prog_14_method_26_code
def yX12_sortAt : MethodName := ⟨RX12, "sortAt", "(I)I"⟩
abbrev cX12_feltOf : ByteArray := prog_14_method_27_code
def yX12_feltOf : MethodName := ⟨RX12, "feltOf", "(I)I"⟩
abbrev cX12_stepOne : ByteArray := prog_14_method_28_code
def yX12_stepOne : MethodName := ⟨RX12, "stepOne", "(IIII)V"⟩
abbrev cX12_layStep : ByteArray := prog_14_method_29_code
def yX12_layStep : MethodName := ⟨RX12, "layStep", "(III)V"⟩
abbrev cX12_step : ByteArray := prog_14_method_30_code
def yX12_step : MethodName := ⟨RX12, "step", "(II)I"⟩
abbrev cX12_liesFrom : ByteArray := prog_14_method_31_code
def yX12_liesFrom : MethodName := ⟨RX12, "liesFrom", "(II)I"⟩
abbrev cX12_layHeard : ByteArray := prog_14_method_32_code
def yX12_layHeard : MethodName := ⟨RX12, "layHeard", "(III)V"⟩
abbrev cX12_heard : ByteArray := prog_14_method_33_code
def yX12_heard : MethodName := ⟨RX12, "heard", "(III)I"⟩
abbrev cX12_all : ByteArray := prog_14_method_34_code
def yX12_all : MethodName := ⟨RX12, "all", "()J"⟩
abbrev cX12_ofCell : ByteArray := prog_14_method_35_code
def yX12_ofCell : MethodName := ⟨RX12, "ofCell", "(I)J"⟩
abbrev cX12_isPart : ByteArray := prog_14_method_36_code
def yX12_isPart : MethodName := ⟨RX12, "isPart", "(I)Z"⟩
abbrev cX12_odds : ByteArray := prog_14_method_37_code
def yX12_odds : MethodName := ⟨RX12, "odds", "(II)J"⟩
abbrev cX12_ways : ByteArray := prog_14_method_38_code
def yX12_ways : MethodName := ⟨RX12, "ways", "(II)J"⟩
abbrev cX12_likeliestNow : ByteArray := prog_14_method_39_code
def yX12_likeliestNow : MethodName := ⟨RX12, "likeliestNow", "()I"⟩
abbrev cX12_likeliest : ByteArray := prog_14_method_40_code
def yX12_likeliest : MethodName := ⟨RX12, "likeliest", "()I"⟩
abbrev cX12_knows : ByteArray := prog_14_method_41_code
def yX12_knows : MethodName := ⟨RX12, "knows", "(I)J"⟩
abbrev cX12_greatestThen : ByteArray := prog_14_method_42_code
def yX12_greatestThen : MethodName := ⟨RX12, "greatestThen", "()J"⟩
abbrev cX12_expectedNow : ByteArray := prog_14_method_43_code
def yX12_expectedNow : MethodName := ⟨RX12, "expectedNow", "(IIII)J"⟩
abbrev cX12_areMany : ByteArray := prog_14_method_44_code
def yX12_areMany : MethodName := ⟨RX12, "areMany", "()Z"⟩
abbrev cX12_expected : ByteArray := prog_14_method_45_code
def yX12_expected : MethodName := ⟨RX12, "expected", "(IIIII)J"⟩
abbrev cX12_next : ByteArray := prog_14_method_46_code
def yX12_next : MethodName := ⟨RX12, "next", "(III)I"⟩
abbrev cX12_post : ByteArray := prog_14_method_47_code
def yX12_post : MethodName := ⟨RX12, "post", "(III)J"⟩
abbrev cX12_isPlayer : ByteArray := prog_14_method_48_code
def yX12_isPlayer : MethodName := ⟨RX12, "isPlayer", "(I)Z"⟩
abbrev cX12_player : ByteArray := prog_14_method_49_code
def yX12_player : MethodName := ⟨RX12, "player", "(IIIII)I"⟩
abbrev cX12_as : ByteArray := prog_14_method_50_code
def yX12_as : MethodName := ⟨RX12, "as", "(II)I"⟩
abbrev cX12_playerTold : ByteArray := prog_14_method_51_code
def yX12_playerTold : MethodName := ⟨RX12, "playerTold", "(II)I"⟩
abbrev cX12_about : ByteArray := prog_14_method_52_code
def yX12_about : MethodName := ⟨RX12, "about", "(II)I"⟩
abbrev cX12_move : ByteArray := prog_14_method_53_code
def yX12_move : MethodName := ⟨RX12, "move", "(II)I"⟩
abbrev cX12_draw : ByteArray := prog_14_method_54_code
def yX12_draw : MethodName := ⟨RX12, "draw", "(I)I"⟩
abbrev cX12_far : ByteArray := prog_14_method_55_code
def yX12_far : MethodName := ⟨RX12, "far", "(III)I"⟩
abbrev cX12_goes : ByteArray := prog_14_method_56_code
def yX12_goes : MethodName := ⟨RX12, "goes", "(IIIZ)I"⟩
abbrev cX12_goPlayers : ByteArray := prog_14_method_57_code
def yX12_goPlayers : MethodName := ⟨RX12, "goPlayers", "()V"⟩
abbrev cX12_callOf : ByteArray := prog_14_method_58_code
def yX12_callOf : MethodName := ⟨RX12, "callOf", "(I)I"⟩
abbrev cX12_nearestCall : ByteArray := prog_14_method_59_code
def yX12_nearestCall : MethodName := ⟨RX12, "nearestCall", "()I"⟩
abbrev cX12_goHim : ByteArray := prog_14_method_60_code
def yX12_goHim : MethodName := ⟨RX12, "goHim", "(II)V"⟩
abbrev cX12_touchedNow : ByteArray := prog_14_method_61_code
def yX12_touchedNow : MethodName := ⟨RX12, "touchedNow", "()I"⟩
abbrev cX12_play : ByteArray := prog_14_method_62_code
def yX12_play : MethodName := ⟨RX12, "play", "(IIIII)V"⟩
abbrev cX12_game : ByteArray := prog_14_method_63_code
def yX12_game : MethodName := ⟨RX12, "game", "(IIIIII)I"⟩
abbrev cX12_lasts : ByteArray := prog_14_method_64_code
def yX12_lasts : MethodName := ⟨RX12, "lasts", "(IIIII)I"⟩
abbrev cX12_stand : ByteArray := prog_14_method_65_code
def yX12_stand : MethodName := ⟨RX12, "stand", "(IIIIII)I"⟩
abbrev cX12_feels : ByteArray := prog_14_method_66_code
def yX12_feels : MethodName := ⟨RX12, "feels", "(III)I"⟩
abbrev cX12_jackets : ByteArray := prog_14_method_67_code
def yX12_jackets : MethodName := ⟨RX12, "jackets", "(III)I"⟩
abbrev cX12_byCloth : ByteArray := prog_14_method_68_code
def yX12_byCloth : MethodName := ⟨RX12, "byCloth", "(II)I"⟩
abbrev cX12_likely : ByteArray := prog_14_method_69_code
def yX12_likely : MethodName := ⟨RX12, "likely", "(IIII)I"⟩
abbrev cX12_likelyAll : ByteArray := prog_14_method_70_code
def yX12_likelyAll : MethodName := ⟨RX12, "likelyAll", "(III)I"⟩
abbrev cX12_isFelt : ByteArray := prog_14_method_71_code
def yX12_isFelt : MethodName := ⟨RX12, "isFelt", "(III)Z"⟩
abbrev cX12_named : ByteArray := prog_14_method_72_code
def yX12_named : MethodName := ⟨RX12, "named", "(IIIII)I"⟩
abbrev cX12_saysNow : ByteArray := prog_14_method_73_code
def yX12_saysNow : MethodName := ⟨RX12, "saysNow", "(III)I"⟩
abbrev cX12_says : ByteArray := prog_14_method_74_code
def yX12_says : MethodName := ⟨RX12, "says", "(III)I"⟩
abbrev cX12_when : ByteArray := prog_14_method_75_code
def yX12_when : MethodName := ⟨RX12, "when", "(IIIII)I"⟩
abbrev cX12_image : ByteArray := prog_14_method_76_code
def yX12_image : MethodName := ⟨RX12, "image", "()I"⟩
abbrev cX12_restore : ByteArray := prog_14_method_77_code
def yX12_restore : MethodName := ⟨RX12, "restore", "()I"⟩
abbrev cX12_freeMany : ByteArray := prog_14_method_78_code
def yX12_freeMany : MethodName := ⟨RX12, "freeMany", "()I"⟩
abbrev cX12_howMany : ByteArray := prog_14_method_79_code
def yX12_howMany : MethodName := ⟨RX12, "howMany", "(I)I"⟩
abbrev cX12_count : ByteArray := prog_14_method_80_code
def yX12_count : MethodName := ⟨RX12, "count", "(I)I"⟩
abbrev cX12_mix : ByteArray := prog_14_method_81_code
def yX12_mix : MethodName := ⟨RX12, "mix", "(J)V"⟩
abbrev cX12_mixGame : ByteArray := prog_14_method_82_code
def yX12_mixGame : MethodName := ⟨RX12, "mixGame", "()V"⟩
abbrev cX12_digest : ByteArray := prog_14_method_83_code
def yX12_digest : MethodName := ⟨RX12, "digest", "()J"⟩
def RJx145de : String := "java/io/Serializable"
def TJx145de : u_T := fun k => match k with
  | _ => ("", "", "", false)
def tyJx145de : Nat → FieldType := fun k => match k with
  | _ => .int
abbrev wsJx145de0 : List Cond := u_ws RJx145de TJx145de 0
theorem nmJx145de : ∀ a, a < 0 → ∀ b, b < 0 → a ≠ b → (TJx145de a).2.1 ≠ (TJx145de b).2.1 := by decide +kernel
theorem tyJx145de_ok : ∀ k, k < 0 → parseFieldDescriptor (TJx145de k).2.2.1 = some (tyJx145de k) := by decide +kernel
def RJx9f9b0 : String := "java/lang/CharSequence"
def TJx9f9b0 : u_T := fun k => match k with
  | _ => ("", "", "", false)
def tyJx9f9b0 : Nat → FieldType := fun k => match k with
  | _ => .int
abbrev wsJx9f9b00 : List Cond := u_ws RJx9f9b0 TJx9f9b0 0
theorem nmJx9f9b0 : ∀ a, a < 0 → ∀ b, b < 0 → a ≠ b → (TJx9f9b0 a).2.1 ≠ (TJx9f9b0 b).2.1 := by decide +kernel
theorem tyJx9f9b0_ok : ∀ k, k < 0 → parseFieldDescriptor (TJx9f9b0 k).2.2.1 = some (tyJx9f9b0 k) := by decide +kernel
def RJ11 : String := "java/lang/Character"
def TJ11 : u_T := fun k => match k with
  | _ => ("", "", "", false)
def tyJ11 : Nat → FieldType := fun k => match k with
  | _ => .int
abbrev wsJ110 : List Cond := u_ws RJ11 TJ11 0
theorem nmJ11 : ∀ a, a < 0 → ∀ b, b < 0 → a ≠ b → (TJ11 a).2.1 ≠ (TJ11 b).2.1 := by decide +kernel
theorem tyJ11_ok : ∀ k, k < 0 → parseFieldDescriptor (TJ11 k).2.2.1 = some (tyJ11 k) := by decide +kernel
abbrev cJ11_isValidCodePoint_9a6ad : ByteArray := prog_15_method_11_code
def yJ11_isValidCodePoint_9a6ad : MethodName := ⟨RJ11, "isValidCodePoint", "(I)Z"⟩
abbrev cJ11_highSurrogate_5068e : ByteArray := prog_15_method_28_code
def yJ11_highSurrogate_5068e : MethodName := ⟨RJ11, "highSurrogate", "(I)C"⟩
abbrev cJ11_lowSurrogate_5068e : ByteArray := prog_15_method_29_code
def yJ11_lowSurrogate_5068e : MethodName := ⟨RJ11, "lowSurrogate", "(I)C"⟩
def RJxb160c : String := "java/lang/Comparable"
def TJxb160c : u_T := fun k => match k with
  | _ => ("", "", "", false)
def tyJxb160c : Nat → FieldType := fun k => match k with
  | _ => .int
abbrev wsJxb160c0 : List Cond := u_ws RJxb160c TJxb160c 0
theorem nmJxb160c : ∀ a, a < 0 → ∀ b, b < 0 → a ≠ b → (TJxb160c a).2.1 ≠ (TJxb160c b).2.1 := by decide +kernel
theorem tyJxb160c_ok : ∀ k, k < 0 → parseFieldDescriptor (TJxb160c k).2.2.1 = some (tyJxb160c k) := by decide +kernel
def RJ9 : String := "java/lang/Math"
def TJ9 : u_T := fun k => match k with
  | _ => ("", "", "", false)
def tyJ9 : Nat → FieldType := fun k => match k with
  | _ => .int
abbrev wsJ90 : List Cond := u_ws RJ9 TJ9 0
theorem nmJ9 : ∀ a, a < 0 → ∀ b, b < 0 → a ≠ b → (TJ9 a).2.1 ≠ (TJ9 b).2.1 := by decide +kernel
theorem tyJ9_ok : ∀ k, k < 0 → parseFieldDescriptor (TJ9 k).2.2.1 = some (tyJ9 k) := by decide +kernel
abbrev cJ9_abs_0f7a4 : ByteArray := prog_16_method_59_code
def yJ9_abs_0f7a4 : MethodName := ⟨RJ9, "abs", "(I)I"⟩
abbrev cJ9_max_7cf53 : ByteArray := prog_16_method_65_code
def yJ9_max_7cf53 : MethodName := ⟨RJ9, "max", "(II)I"⟩
abbrev cJ9_max_f86c9 : ByteArray := prog_16_method_66_code
def yJ9_max_f86c9 : MethodName := ⟨RJ9, "max", "(JJ)J"⟩
abbrev cJ9_min_7cf53 : ByteArray := prog_16_method_69_code
def yJ9_min_7cf53 : MethodName := ⟨RJ9, "min", "(II)I"⟩
def RJ0 : String := "java/lang/String"
def TJ0 : u_T := fun k => match k with
  | _ => ("", "", "", false)
def tyJ0 : Nat → FieldType := fun k => match k with
  | _ => .int
abbrev wsJ00 : List Cond := u_ws RJ0 TJ0 0
theorem nmJ0 : ∀ a, a < 0 → ∀ b, b < 0 → a ≠ b → (TJ0 a).2.1 ≠ (TJ0 b).2.1 := by decide +kernel
theorem tyJ0_ok : ∀ k, k < 0 → parseFieldDescriptor (TJ0 k).2.2.1 = some (tyJ0 k) := by decide +kernel
abbrev cJ0_length_8abf5 : ByteArray := prog_17_method_54_code
def yJ0_length_8abf5 : MethodName := ⟨RJ0, "length", "()I"⟩
abbrev cJ0_indexOf_0f7a4 : ByteArray := prog_17_method_79_code
def yJ0_indexOf_0f7a4 : MethodName := ⟨RJ0, "indexOf", "(I)I"⟩
abbrev cJ0_indexOf_7cf53 : ByteArray := prog_17_method_80_code
def yJ0_indexOf_7cf53 : MethodName := ⟨RJ0, "indexOf", "(II)I"⟩
abbrev cJ0_coder_7d493 : ByteArray := prog_17_method_152_code
def yJ0_coder_7d493 : MethodName := ⟨RJ0, "coder", "()B"⟩
abbrev cJ0_isLatin1_aae02 : ByteArray := prog_17_method_154_code
def yJ0_isLatin1_aae02 : MethodName := ⟨RJ0, "isLatin1", "()Z"⟩
abbrev cJ0_checkBoundsBeginEnd_23922 : ByteArray := prog_17_method_158_code
def yJ0_checkBoundsBeginEnd_23922 : MethodName := ⟨RJ0, "checkBoundsBeginEnd", "(III)V"⟩
def RJ1 : String := "java/lang/StringLatin1"
def TJ1 : u_T := fun k => match k with
  | _ => ("", "", "", false)
def tyJ1 : Nat → FieldType := fun k => match k with
  | _ => .int
abbrev wsJ10 : List Cond := u_ws RJ1 TJ1 0
theorem nmJ1 : ∀ a, a < 0 → ∀ b, b < 0 → a ≠ b → (TJ1 a).2.1 ≠ (TJ1 b).2.1 := by decide +kernel
theorem tyJ1_ok : ∀ k, k < 0 → parseFieldDescriptor (TJ1 k).2.2.1 = some (tyJ1 k) := by decide +kernel
abbrev cJ1_canEncode_9a6ad : ByteArray := prog_18_method_4_code
def yJ1_canEncode_9a6ad : MethodName := ⟨RJ1, "canEncode", "(I)Z"⟩
abbrev cJ1_indexOf_4cfef : ByteArray := prog_18_method_22_code
def yJ1_indexOf_4cfef : MethodName := ⟨RJ1, "indexOf", "([BIII)I"⟩
abbrev cJ1_indexOfChar_4cfef : ByteArray := prog_18_method_23_code
def yJ1_indexOfChar_4cfef : MethodName := ⟨RJ1, "indexOfChar", "([BIII)I"⟩
def RJ2 : String := "java/lang/StringUTF16"
def TJ2 : u_T := fun k => match k with
  | _ => ("", "", "", false)
def tyJ2 : Nat → FieldType := fun k => match k with
  | _ => .int
abbrev wsJ20 : List Cond := u_ws RJ2 TJ2 0
theorem nmJ2 : ∀ a, a < 0 → ∀ b, b < 0 → a ≠ b → (TJ2 a).2.1 ≠ (TJ2 b).2.1 := by decide +kernel
theorem tyJ2_ok : ∀ k, k < 0 → parseFieldDescriptor (TJ2 k).2.2.1 = some (tyJ2 k) := by decide +kernel
abbrev cJ2_getChar_3b067 : ByteArray := prog_19_method_5_code
def yJ2_getChar_3b067 : MethodName := ⟨RJ2, "getChar", "([BI)C"⟩
abbrev cJ2_length_9d52b : ByteArray := prog_19_method_6_code
def yJ2_length_9d52b : MethodName := ⟨RJ2, "length", "([B)I"⟩
abbrev cJ2_indexOf_4cfef : ByteArray := prog_19_method_40_code
def yJ2_indexOf_4cfef : MethodName := ⟨RJ2, "indexOf", "([BIII)I"⟩
abbrev cJ2_indexOfChar_4cfef : ByteArray := prog_19_method_47_code
def yJ2_indexOfChar_4cfef : MethodName := ⟨RJ2, "indexOfChar", "([BIII)I"⟩
abbrev cJ2_indexOfCharUnsafe_4cfef : ByteArray := prog_19_method_48_code
def yJ2_indexOfCharUnsafe_4cfef : MethodName := ⟨RJ2, "indexOfCharUnsafe", "([BIII)I"⟩
abbrev cJ2_indexOfSupplementary_4cfef : ByteArray := prog_19_method_49_code
def yJ2_indexOfSupplementary_4cfef : MethodName := ⟨RJ2, "indexOfSupplementary", "([BIII)I"⟩
abbrev cJ2_checkBoundsBeginEnd_d044e : ByteArray := prog_19_method_93_code
def yJ2_checkBoundsBeginEnd_d044e : MethodName := ⟨RJ2, "checkBoundsBeginEnd", "(II[B)V"⟩
def RJ10 : String := "java/lang/System"
def TJ10 : u_T := fun k => match k with
  | _ => ("", "", "", false)
def tyJ10 : Nat → FieldType := fun k => match k with
  | _ => .int
abbrev wsJ100 : List Cond := u_ws RJ10 TJ10 0
theorem nmJ10 : ∀ a, a < 0 → ∀ b, b < 0 → a ≠ b → (TJ10 a).2.1 ≠ (TJ10 b).2.1 := by decide +kernel
theorem tyJ10_ok : ∀ k, k < 0 → parseFieldDescriptor (TJ10 k).2.2.1 = some (tyJ10 k) := by decide +kernel
def RJxfd54e : String := "java/lang/constant/Constable"
def TJxfd54e : u_T := fun k => match k with
  | _ => ("", "", "", false)
def tyJxfd54e : Nat → FieldType := fun k => match k with
  | _ => .int
abbrev wsJxfd54e0 : List Cond := u_ws RJxfd54e TJxfd54e 0
theorem nmJxfd54e : ∀ a, a < 0 → ∀ b, b < 0 → a ≠ b → (TJxfd54e a).2.1 ≠ (TJxfd54e b).2.1 := by decide +kernel
theorem tyJxfd54e_ok : ∀ k, k < 0 → parseFieldDescriptor (TJxfd54e k).2.2.1 = some (tyJxfd54e k) := by decide +kernel
def RJx3cf43 : String := "java/lang/constant/ConstantDesc"
def TJx3cf43 : u_T := fun k => match k with
  | _ => ("", "", "", false)
def tyJx3cf43 : Nat → FieldType := fun k => match k with
  | _ => .int
abbrev wsJx3cf430 : List Cond := u_ws RJx3cf43 TJx3cf43 0
theorem nmJx3cf43 : ∀ a, a < 0 → ∀ b, b < 0 → a ≠ b → (TJx3cf43 a).2.1 ≠ (TJx3cf43 b).2.1 := by decide +kernel
theorem tyJx3cf43_ok : ∀ k, k < 0 → parseFieldDescriptor (TJx3cf43 k).2.2.1 = some (tyJx3cf43 k) := by decide +kernel
def RJ7 : String := "java/util/Arrays"
def TJ7 : u_T := fun k => match k with
  | _ => ("", "", "", false)
def tyJ7 : Nat → FieldType := fun k => match k with
  | _ => .int
abbrev wsJ70 : List Cond := u_ws RJ7 TJ7 0
theorem nmJ7 : ∀ a, a < 0 → ∀ b, b < 0 → a ≠ b → (TJ7 a).2.1 ≠ (TJ7 b).2.1 := by decide +kernel
theorem tyJ7_ok : ∀ k, k < 0 → parseFieldDescriptor (TJ7 k).2.2.1 = some (tyJ7 k) := by decide +kernel
abbrev cJ7_fill_d0a16 : ByteArray := prog_21_method_101_code
def yJ7_fill_d0a16 : MethodName := ⟨RJ7, "fill", "([JJ)V"⟩
def RJ3 : String := "jdk/internal/util/Preconditions"
def TJ3 : u_T := fun k => match k with
  | _ => ("", "", "", false)
def tyJ3 : Nat → FieldType := fun k => match k with
  | _ => .int
abbrev wsJ30 : List Cond := u_ws RJ3 TJ3 0
theorem nmJ3 : ∀ a, a < 0 → ∀ b, b < 0 → a ≠ b → (TJ3 a).2.1 ≠ (TJ3 b).2.1 := by decide +kernel
theorem tyJ3_ok : ∀ k, k < 0 → parseFieldDescriptor (TJ3 k).2.2.1 = some (tyJ3 k) := by decide +kernel
abbrev cJ3_checkFromToIndex_8c36e : ByteArray := prog_22_method_12_code
def yJ3_checkFromToIndex_8c36e : MethodName := ⟨RJ3, "checkFromToIndex", "(IIILjava/util/function/BiFunction;)I"⟩
def RL : String := "WithEyesBoundLaw"
abbrev cL_law : ByteArray := code
def yL_law : MethodName := ⟨RL, "law", "([I)Z"⟩
abbrev vwCl : List vw_C := [(RX0, TX0, 6), (RX1, TX1, 6), (RX2, TX2, 6), (RX3, TX3, 11), (RX4, TX4, 6), (RX5, TX5, 5), (RX6, TX6, 6), (RX7, TX7, 6), (RX8, TX8, 11), (RX9, TX9, 6), (RX10, TX10, 6), (RX11, TX11, 10), (RX12, TX12, 44)]
end
section
/-! ===== THE ABSTRACT MACHINE: places instead of addresses, a heap as a list of cells, one function an instruction ===== -/
/-- a cell: an array (kind of its class, its length and contents) or an object (number of its class in vwCl, its fields) -/
abbrev ev_C : Type := (Nat × vp_A) ⊕ (Nat × List Value)
abbrev ev_H : Type := List (Option ev_C)
abbrev ev_L : Type := List (Option Value)
abbrev ev_S : Type := Nat × ev_L × List Value × ev_H
/-- an answer and the heap behind it -/
abbrev ev_Z : Type := Option Value × ev_H
/-- pc, instruction, length, operand, target, constant, classes with what belongs to each, places of words -/
abbrev ev_E : Type := Nat × Instr × Nat × Nat × Nat × Value × List (Nat × Nat) × List Nat
def ev_ld (ls : ev_L) (x : Nat) : Option Value := match ls[x]? with
  | some (some v) => some v
  | _ => none
def ev_kl (ls : ev_L) (x : Nat) : ev_L := match x with
  | 0 => ls
  | j + 1 => match ls[j]? with
    | some (some v) => if v.category = 2 then ls.set j none else ls
    | _ => ls
def ev_s1 (ls : ev_L) (x : Nat) (v : Value) : ev_L := (ev_kl ls x).set x (some v)
def ev_s2 (ls : ev_L) (x : Nat) (v : Value) : ev_L := ((ev_kl ls x).set x (some v)).set (x + 1) none
def ev_get (h : ev_H) (a : Nat) : Option ev_C := match h[a]? with
  | some (some c) => some c
  | _ => none
def ev_if (k : Jvm.ClassFile.Cond) (a b : Int32) (t n : Nat) : Nat := match k with
  | .eq => if a = b then t else n
  | .ne => if a = b then n else t
  | .lt => if a < b then t else n
  | .ge => if a < b then n else t
  | .gt => if b < a then t else n
  | .le => if b < a then n else t
def ev_sw (D : List (Nat × Nat)) (a : Int32) (t : Nat) : Nat := match D with
  | [] => t
  | (k, u) :: r => if a = Int32.ofNat k then u else ev_sw r a t
/-- what is kept outside the heap: three arrays of numbers (1000 on), a text's bytes (2001) -/
def ev_sta (a : Nat) : Nat × List Int32 := match a with
  | 1000 => (4, [0, 3, 2, 1])
  | 1001 => (4, [-1, 0, 1, 0])
  | 1002 => (4, [0, 1, 0, -1])
  | 2001 => (4, [46, 98, 112, 120])
  | _ => (0, [])
def ev_sn (a : Nat) : Nat := (ev_sta a).1
def ev_sf (a : Nat) (j : Nat) : Int32 := (ev_sta a).2.getD j 0
def ev_fit (t : Nat) (v : Value) : Bool := match t, v with
  | 0, .int _ => true
  | 1, .long _ => true
  | 2, .int x => decide (x = 0 ∨ x = 1)
  | _, _ => false
def ev_cat (st : List Value) : Nat := (st.map fun v => v.category).sum
abbrev ev_j (pc : Nat) (ls : ev_L) (st : List Value) (h : ev_H) : Option (ev_S ⊕ ev_Z) := some (.inl (pc, ls, st, h))
/-- pushes, loads, stores -/
def ev_o1 (e : ev_E) (ls : ev_L) (st : List Value) (h : ev_H) : Option (ev_S ⊕ ev_Z) := match e with
  | (pc, i, len, x, _, cst, _, _) => match i with
    | .iconst _ | .bipush _ | .sipush _ | .lconst _ | .ldc _ | .ldc_w _ | .ldc2_w _ | .aconst_null | .getstatic _ => ev_j (pc + len) ls (cst :: st) h
    | .iload _ | .iload_n _ => match ev_ld ls x with
      | some (.int v) => ev_j (pc + len) ls (.int v :: st) h
      | _ => none
    | .lload _ | .lload_n _ => match ev_ld ls x with
      | some (.long v) => ev_j (pc + len) ls (.long v :: st) h
      | _ => none
    | .aload _ | .aload_n _ => match ev_ld ls x with
      | some (.ref a) => ev_j (pc + len) ls (.ref a :: st) h
      | some .null => ev_j (pc + len) ls (.null :: st) h
      | _ => none
    | .istore _ | .istore_n _ => match st with
      | .int v :: r => if x < ls.length then ev_j (pc + len) (ev_s1 ls x (.int v)) r h else none
      | _ => none
    | .lstore _ | .lstore_n _ => match st with
      | .long v :: r => if x + 1 < ls.length then ev_j (pc + len) (ev_s2 ls x (.long v)) r h else none
      | _ => none
    | .astore _ | .astore_n _ => match st with
      | .ref a :: r => if x < ls.length then ev_j (pc + len) (ev_s1 ls x (.ref a)) r h else none
      | .null :: r => if x < ls.length then ev_j (pc + len) (ev_s1 ls x .null) r h else none
      | _ => none
    | .iinc _ _ => match ev_ld ls x, cst with
      | some (.int v), .int k => if x < ls.length then ev_j (pc + len) (ev_s1 ls x (.int (v + k))) st h else none
      | _, _ => none
    | _ => none
/-- arithmetic, and the stack -/
def ev_o2 (e : ev_E) (ls : ev_L) (st : List Value) (h : ev_H) : Option (ev_S ⊕ ev_Z) := match e with
  | (pc, i, len, _, _, _, _, _) => match i with
    | .iadd => match st with
      | .int b :: .int a :: r => ev_j (pc + len) ls (.int (a + b) :: r) h
      | _ => none
    | .isub => match st with
      | .int b :: .int a :: r => ev_j (pc + len) ls (.int (a - b) :: r) h
      | _ => none
    | .imul => match st with
      | .int b :: .int a :: r => ev_j (pc + len) ls (.int (a * b) :: r) h
      | _ => none
    | .iand => match st with
      | .int b :: .int a :: r => ev_j (pc + len) ls (.int (a &&& b) :: r) h
      | _ => none
    | .ineg => match st with
      | .int a :: r => ev_j (pc + len) ls (.int (-a) :: r) h
      | _ => none
    | .idiv => match st with
      | .int b :: .int a :: r => if ¬ b = 0 then ev_j (pc + len) ls (.int (a / b) :: r) h else none
      | _ => none
    | .irem => match st with
      | .int b :: .int a :: r => if ¬ b = 0 then ev_j (pc + len) ls (.int (a - a / b * b) :: r) h else none
      | _ => none
    | .ishr => match st with
      | .int b :: .int a :: r => ev_j (pc + len) ls (.int (a >>> (b &&& 31)) :: r) h
      | _ => none
    | .iushr => match st with
      | .int b :: .int a :: r => ev_j (pc + len) ls (.int (a.toUInt32 >>> (b.toUInt32 &&& Int32.toUInt32 31)).toInt32 :: r) h
      | _ => none
    | .ladd => match st with
      | .long b :: .long a :: r => ev_j (pc + len) ls (.long (a + b) :: r) h
      | _ => none
    | .lsub => match st with
      | .long b :: .long a :: r => ev_j (pc + len) ls (.long (a - b) :: r) h
      | _ => none
    | .lmul => match st with
      | .long b :: .long a :: r => ev_j (pc + len) ls (.long (a * b) :: r) h
      | _ => none
    | .land => match st with
      | .long b :: .long a :: r => ev_j (pc + len) ls (.long (a &&& b) :: r) h
      | _ => none
    | .lneg => match st with
      | .long a :: r => ev_j (pc + len) ls (.long (-a) :: r) h
      | _ => none
    | .ldiv => match st with
      | .long b :: .long a :: r => if ¬ b = 0 then ev_j (pc + len) ls (.long (a / b) :: r) h else none
      | _ => none
    | .lrem => match st with
      | .long b :: .long a :: r => if ¬ b = 0 then ev_j (pc + len) ls (.long (a - a / b * b) :: r) h else none
      | _ => none
    | .lshr => match st with
      | .int b :: .long a :: r => ev_j (pc + len) ls (.long (a >>> (b.toInt64 &&& 63)) :: r) h
      | _ => none
    | .lushr => match st with
      | .int b :: .long a :: r => ev_j (pc + len) ls (.long (a.toUInt64 >>> (b.toInt64.toUInt64 &&& Int64.toUInt64 63)).toInt64 :: r) h
      | _ => none
    | .i2l => match st with
      | .int a :: r => ev_j (pc + len) ls (.long a.toInt64 :: r) h
      | _ => none
    | .l2i => match st with
      | .long a :: r => ev_j (pc + len) ls (.int a.toInt32 :: r) h
      | _ => none
    | .i2b => match st with
      | .int a :: r => ev_j (pc + len) ls (.int a.toInt8.toInt32 :: r) h
      | _ => none
    | .i2c => match st with
      | .int a :: r => ev_j (pc + len) ls (.int (a.toUInt32 % 65536).toInt32 :: r) h
      | _ => none
    | .lcmp => match st with
      | .long b :: .long a :: r => ev_j (pc + len) ls (.int (lg_cmp a b) :: r) h
      | _ => none
    | .dup => match st with
      | v :: r => if v.category = 1 then ev_j (pc + len) ls (v :: v :: r) h else none
      | _ => none
    | .pop => match st with
      | v :: r => if v.category = 1 then ev_j (pc + len) ls r h else none
      | _ => none
    | .dup2 => match st with
      | v :: w :: r => if v.category = 1 ∧ w.category = 1 then ev_j (pc + len) ls (v :: w :: v :: w :: r) h else none
      | _ => none
    | _ => none
/-- branches -/
def ev_o3 (e : ev_E) (ls : ev_L) (st : List Value) (h : ev_H) : Option (ev_S ⊕ ev_Z) := match e with
  | (pc, i, len, _, tgt, _, D, _) => match i with
    | .goto _ => ev_j tgt ls st h
    | .ifCond k _ => match st with
      | .int a :: r => ev_j (ev_if k a 0 tgt (pc + len)) ls r h
      | _ => none
    | .if_icmp k _ => match st with
      | .int b :: .int a :: r => ev_j (ev_if k a b tgt (pc + len)) ls r h
      | _ => none
    | .ifnull _ => match st with
      | .null :: r => ev_j tgt ls r h
      | .ref _ :: r => ev_j (pc + len) ls r h
      | _ => none
    | .ifnonnull _ => match st with
      | .null :: r => ev_j (pc + len) ls r h
      | .ref _ :: r => ev_j tgt ls r h
      | _ => none
    | .tableswitch _ _ _ _ => match st with
      | .int a :: r => ev_j (ev_sw D a tgt) ls r h
      | _ => none
    | _ => none
/-- fields and arrays -/
def ev_o4 (e : ev_E) (ls : ev_L) (st : List Value) (h : ev_H) : Option (ev_S ⊕ ev_Z) := match e with
  | (pc, i, len, x, tgt, cst, D, _) => match i with
    | .getfield _ => match st with
      | .ref a :: r => if a = 2000 then (if tgt = 7 then ev_j (pc + len) ls (cst :: r) h else none) else match ev_get h a with
        | some (.inr (ci, fs)) => if D.any (fun q => q.1 == ci) = true then (match fs[x]? with
          | some v => ev_j (pc + len) ls (v :: r) h
          | none => none) else none
        | _ => none
      | _ => none
    | .putfield _ => match st with
      | v :: .ref a :: r => match ev_get h a with
        | some (.inr (ci, fs)) => if D.any (fun q => q.1 == ci) = true ∧ x < fs.length ∧ ev_fit tgt v = true then ev_j (pc + len) ls r (h.set a (some (.inr (ci, fs.set x v)))) else none
        | _ => none
      | _ => none
    | .arraylength => match st with
      | .ref a :: r => if x = 1 then ev_j (pc + len) ls (.int (Int32.ofNat (ev_sn a)) :: r) h else match ev_get h a with
        | some (.inl (t, n, _)) => if t < 6 then ev_j (pc + len) ls (.int (Int32.ofNat n) :: r) h else none
        | _ => none
      | _ => none
    | .iaload => match st with
      | .int j :: .ref a :: r => if x = 1 then (if ¬ (j < 0 ∨ ev_sn a ≤ j.toNatClampNeg) then (if 1000 ≤ a ∧ a < 1003 then ev_j (pc + len) ls (.int (ev_sf a j.toNatClampNeg) :: r) h else none) else none) else match ev_get h a with
        | some (.inl (0, n, .inl f)) => if ¬ (j < 0 ∨ n ≤ j.toNatClampNeg) then ev_j (pc + len) ls (.int (f j.toNatClampNeg) :: r) h else none
        | _ => none
      | _ => none
    | .laload => match st with
      | .int j :: .ref a :: r => match ev_get h a with
        | some (.inl (1, n, .inr (.inl f))) => if ¬ (j < 0 ∨ n ≤ j.toNatClampNeg) then ev_j (pc + len) ls (.long (f j.toNatClampNeg) :: r) h else none
        | _ => none
      | _ => none
    | .caload => match st with
      | .int j :: .ref a :: r => match ev_get h a with
        | some (.inl (2, n, .inl f)) => if ¬ (j < 0 ∨ n ≤ j.toNatClampNeg) then ev_j (pc + len) ls (.int (f j.toNatClampNeg) :: r) h else none
        | _ => none
      | _ => none
    | .baload => match st with
      | .int j :: .ref a :: r => if x = 1 then (if ¬ (j < 0 ∨ ev_sn a ≤ j.toNatClampNeg) then (if a = 2001 then ev_j (pc + len) ls (.int (ev_sf a j.toNatClampNeg) :: r) h else none) else none) else match ev_get h a with
        | some (.inl (3, n, .inl f)) => if ¬ (j < 0 ∨ n ≤ j.toNatClampNeg) then ev_j (pc + len) ls (.int (f j.toNatClampNeg) :: r) h else none
        | _ => none
      | _ => none
    | .aaload => match st with
      | .int j :: .ref a :: r => match ev_get h a with
        | some (.inl (t, n, .inr (.inr (.inr (.inr f))))) => if ¬ (j < 0 ∨ n ≤ j.toNatClampNeg) then (if t = 4 ∨ t = 5 then ev_j (pc + len) ls (va_rf (f j.toNatClampNeg) :: r) h else none) else none
        | _ => none
      | _ => none
    | .iastore => match st with
      | .int v :: .int j :: .ref a :: r => match ev_get h a with
        | some (.inl (0, n, .inl f)) => if ¬ (j < 0 ∨ n ≤ j.toNatClampNeg) then ev_j (pc + len) ls r (h.set a (some (.inl (0, n, .inl (upd f j.toNatClampNeg v))))) else none
        | _ => none
      | _ => none
    | .lastore => match st with
      | .long v :: .int j :: .ref a :: r => match ev_get h a with
        | some (.inl (1, n, .inr (.inl f))) => if ¬ (j < 0 ∨ n ≤ j.toNatClampNeg) then ev_j (pc + len) ls r (h.set a (some (.inl (1, n, .inr (.inl (vp_updL f j.toNatClampNeg v)))))) else none
        | _ => none
      | _ => none
    | .castore => match st with
      | .int v :: .int j :: .ref a :: r => match ev_get h a with
        | some (.inl (2, n, .inl f)) => if ¬ (j < 0 ∨ n ≤ j.toNatClampNeg) then ev_j (pc + len) ls r (h.set a (some (.inl (2, n, .inl (upd f j.toNatClampNeg (vp_nar .char v)))))) else none
        | _ => none
      | _ => none
    | .bastore => match st with
      | .int v :: .int j :: .ref a :: r => match ev_get h a with
        | some (.inl (3, n, .inl f)) => if ¬ (j < 0 ∨ n ≤ j.toNatClampNeg) then ev_j (pc + len) ls r (h.set a (some (.inl (3, n, .inl (upd f j.toNatClampNeg (vp_nar .byte v)))))) else none
        | _ => none
      | _ => none
    | .aastore => match st with
      | .null :: .int j :: .ref a :: r => match ev_get h a with
        | some (.inl (4, n, .inr (.inr (.inr (.inr f))))) => if ¬ (j < 0 ∨ n ≤ j.toNatClampNeg) then ev_j (pc + len) ls r (h.set a (some (.inl (4, n, .inr (.inr (.inr (.inr (va_up f j.toNatClampNeg none)))))))) else none
        | _ => none
      | _ => none
    | .instanceof _ => match st with
      | .ref a :: r => match ev_get h a with
        | some (.inr (ci, _)) => match D.lookup ci with
          | some 0 => ev_j (pc + len) ls (.int 0 :: r) h
          | some 1 => ev_j (pc + len) ls (.int 1 :: r) h
          | _ => none
        | _ => none
      | _ => none
    | _ => none
/-- returns, and the library's own functions -/
def ev_o5 (rt : Option FieldType) (e : ev_E) (ls : ev_L) (st : List Value) (h : ev_H) : Option (ev_S ⊕ ev_Z) := match e with
  | (pc, i, len, x, _, _, _, _) => match i with
    | .return_ => match st, rt with
      | [], none => some (.inr (none, h))
      | _, _ => none
    | .ireturn => match st, rt with
      | [.int v], some .int => some (.inr (some (.int v), h))
      | [.int v], some .boolean => if v = 0 ∨ v = 1 then some (.inr (some (.int v), h)) else none
      | [.int v], some .byte => if v = 0 then some (.inr (some (.int v), h)) else none
      | _, _ => none
    | .lreturn => match st, rt with
      | [.long v], some .long => some (.inr (some (.long v), h))
      | _, _ => none
    | .areturn => match st, rt with
      | [.ref a], some (.object _) => some (.inr (some (.ref a), h))
      | [.null], some (.object _) => some (.inr (some .null, h))
      | _, _ => none
    | .invokestatic _ => match x, st with
      | 101, .int b :: .int a :: r => if ev_cat r ≤ 8 then ev_j (pc + len) ls (.int (if b < a then b else a) :: r) h else none
      | 102, .long b :: .long a :: r => if ev_cat r ≤ 8 then ev_j (pc + len) ls (.long (if b < a then a else b) :: r) h else none
      | 103, .int a :: r => if ev_cat r ≤ 8 then ev_j (pc + len) ls (.int (if 0 ≤ a then a else 0 - a) :: r) h else none
      | 104, .int n :: .int dp :: .ref b :: .int sp :: .ref a :: r => match ev_get h a, ev_get h b with
        | some (.inl (1, n0, .inr (.inl f))), some (.inl (1, n1, .inr (.inl g))) => if ev_cat r ≤ 8 ∧ ¬ sp < 0 ∧ ¬ dp < 0 ∧ ¬ n < 0 ∧ sp.toNatClampNeg + n.toNatClampNeg ≤ n0 ∧ dp.toNatClampNeg + n.toNatClampNeg ≤ n1 then ev_j (pc + len) ls r (h.set b (some (.inl (1, n1, .inr (.inl (va_cpy f g sp.toNatClampNeg dp.toNatClampNeg n.toNatClampNeg)))))) else none
        | _, _ => none
      | 105, .int b :: .int a :: r => if ev_cat r ≤ 8 then ev_j (pc + len) ls (.int (if b < a then a else b) :: r) h else none
      | _, _ => none
    | _ => none
/-- one instruction that is no call -/
def ev_one (rt : Option FieldType) (e : ev_E) (ls : ev_L) (st : List Value) (h : ev_H) : Option (ev_S ⊕ ev_Z) := match e.2.1 with
  | .iconst _ | .bipush _ | .sipush _ | .lconst _ | .ldc _ | .ldc_w _ | .ldc2_w _ | .aconst_null | .getstatic _ | .iload _ | .iload_n _ | .lload _ | .lload_n _ | .aload _ | .aload_n _ | .istore _ | .istore_n _ | .lstore _ | .lstore_n _ | .astore _ | .astore_n _ | .iinc _ _ => ev_o1 e ls st h
  | .goto _ | .ifCond _ _ | .if_icmp _ _ | .ifnull _ | .ifnonnull _ | .tableswitch _ _ _ _ => ev_o3 e ls st h
  | .getfield _ | .putfield _ | .arraylength | .iaload | .laload | .caload | .baload | .aaload | .iastore | .lastore | .castore | .bastore | .aastore | .instanceof _ => ev_o4 e ls st h
  | .return_ | .ireturn | .lreturn | .areturn | .invokestatic _ => ev_o5 rt e ls st h
  | _ => ev_o2 e ls st h
/-- a call: the method's number, its arguments, what stays on the stack -/
def ev_inv (e : ev_E) (st : List Value) (h : ev_H) : Option (Nat × List Value × List Value) := match e with
  | (_, i, _, x, _, _, D, _) => match i with
    | .invokestatic _ => if x ≤ st.length ∧ x < 100 ∧ ev_cat (st.drop x) ≤ 8 then (match D.lookup 0 with
      | some k => some (k, (st.take x).reverse, st.drop x)
      | none => none) else none
    | .invokevirtual _ => match st.drop x with
      | .ref a :: r => if x ≤ st.length ∧ x < 100 ∧ ev_cat r ≤ 8 then (if a = 2000 then (match D.lookup 2000 with
          | some k => some (k, .ref a :: (st.take x).reverse, r)
          | none => none) else match ev_get h a with
        | some (.inr (ci, _)) => (match D.lookup ci with
          | some k => some (k, .ref a :: (st.take x).reverse, r)
          | none => none)
        | _ => none) else none
      | _ => none
    | _ => none
def ev_find (I : List ev_E) (pc : Nat) : Option ev_E := match I with
  | [] => none
  | e :: r => if e.1 = pc then some e else ev_find r pc
/-- n steps of a body from a state to an answer; cf says what a call answers -/
def ev_R (cf : Nat → List Value → ev_H → ev_Z → Prop) (rt : Option FieldType) (I : List ev_E) : Nat → ev_S → ev_Z → Prop
  | 0, _, _ => False
  | n + 1, (pc, ls, st, h), r => ∃ e, ev_find I pc = some e ∧ ((∃ c', ev_one rt e ls st h = some (.inl c') ∧ ev_R cf rt I n c' r) ∨ ev_one rt e ls st h = some (.inr r) ∨ ∃ k as rest z, ev_inv e st h = some (k, as, rest) ∧ cf k as h z ∧ ev_R cf rt I n (pc + 3, ls, z.1.toList ++ rest, z.2) r)
end
