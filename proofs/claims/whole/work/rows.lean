section
-- ===== PART A: goes FIRST, ahead of the names: the tables' words, and 'selects' of the private methods out of them =====
/-- a private method of a class that the tables say can be made, by its rows of tables_1 -/
def lw_okq (q : MethodName × Nat) : Prop := (q.1.cls ≠ "java/lang/invoke/MethodHandle" ∧ q.1.cls ≠ "java/lang/invoke/VarHandle") ∧ Cond.instantiable q.1.cls q.2 ∈ tables_1 ∧ Cond.privateMethod q.1 ∈ tables_1 ∧ Cond.instanceMethod q.1 ∈ tables_1
theorem lw_p0 : lw_okq (⟨"QuoitFeast", "sheetOf", "(I)LQuoitFeast$Sheet;"⟩, 10) := ⟨⟨by decide +kernel, by decide +kernel⟩, List.mem_of_getElem? (i := 15) (by decide +kernel), List.mem_of_getElem? (i := 242) (by decide +kernel), List.mem_of_getElem? (i := 243) (by decide +kernel)⟩
theorem lw_p1 : lw_okq (⟨"QuoitFeast", "comeTo", "(I)I"⟩, 10) := ⟨⟨by decide +kernel, by decide +kernel⟩, List.mem_of_getElem? (i := 15) (by decide +kernel), List.mem_of_getElem? (i := 264) (by decide +kernel), List.mem_of_getElem? (i := 265) (by decide +kernel)⟩
theorem lw_p2 : lw_okq (⟨"QuoitFeast", "makeAnew", "()V"⟩, 10) := ⟨⟨by decide +kernel, by decide +kernel⟩, List.mem_of_getElem? (i := 15) (by decide +kernel), List.mem_of_getElem? (i := 319) (by decide +kernel), List.mem_of_getElem? (i := 320) (by decide +kernel)⟩
theorem lw_p3 : lw_okq (⟨"QuoitFeast", "throwerOf", "(I)LQuoitFeast$Right;"⟩, 10) := ⟨⟨by decide +kernel, by decide +kernel⟩, List.mem_of_getElem? (i := 15) (by decide +kernel), List.mem_of_getElem? (i := 420) (by decide +kernel), List.mem_of_getElem? (i := 421) (by decide +kernel)⟩
theorem lw_p4 : lw_okq (⟨"QuoitFeast", "refusalOfPairs", "(LQuoitFeast$Sheet;II)I"⟩, 10) := ⟨⟨by decide +kernel, by decide +kernel⟩, List.mem_of_getElem? (i := 15) (by decide +kernel), List.mem_of_getElem? (i := 524) (by decide +kernel), List.mem_of_getElem? (i := 525) (by decide +kernel)⟩
theorem lw_p5 : lw_okq (⟨"QuoitFeast", "refusalOfPair", "(II)I"⟩, 10) := ⟨⟨by decide +kernel, by decide +kernel⟩, List.mem_of_getElem? (i := 15) (by decide +kernel), List.mem_of_getElem? (i := 529) (by decide +kernel), List.mem_of_getElem? (i := 530) (by decide +kernel)⟩
theorem lw_p6 : lw_okq (⟨"QuoitFeast", "tellFeast", "(LQuoitFeast$Sheet;II)V"⟩, 10) := ⟨⟨by decide +kernel, by decide +kernel⟩, List.mem_of_getElem? (i := 15) (by decide +kernel), List.mem_of_getElem? (i := 533) (by decide +kernel), List.mem_of_getElem? (i := 534) (by decide +kernel)⟩
theorem lw_p7 : lw_okq (⟨"QuoitFeast", "canAct", "(II)Z"⟩, 10) := ⟨⟨by decide +kernel, by decide +kernel⟩, List.mem_of_getElem? (i := 15) (by decide +kernel), List.mem_of_getElem? (i := 551) (by decide +kernel), List.mem_of_getElem? (i := 552) (by decide +kernel)⟩
theorem lw_p8 : lw_okq (⟨"QuoitFeast", "winsOf", "(LQuoitFeast$Right;)I"⟩, 10) := ⟨⟨by decide +kernel, by decide +kernel⟩, List.mem_of_getElem? (i := 15) (by decide +kernel), List.mem_of_getElem? (i := 582) (by decide +kernel), List.mem_of_getElem? (i := 583) (by decide +kernel)⟩
theorem lw_p9 : lw_okq (⟨"QuoitFeast", "preparePairing", "()V"⟩, 10) := ⟨⟨by decide +kernel, by decide +kernel⟩, List.mem_of_getElem? (i := 15) (by decide +kernel), List.mem_of_getElem? (i := 597) (by decide +kernel), List.mem_of_getElem? (i := 598) (by decide +kernel)⟩
theorem lw_p10 : lw_okq (⟨"QuoitFeast", "noteNearness", "(LQuoitFeast$Right;)V"⟩, 10) := ⟨⟨by decide +kernel, by decide +kernel⟩, List.mem_of_getElem? (i := 15) (by decide +kernel), List.mem_of_getElem? (i := 609) (by decide +kernel), List.mem_of_getElem? (i := 610) (by decide +kernel)⟩
theorem lw_p11 : lw_okq (⟨"QuoitFeast", "allSoWith", "(IIII)Z"⟩, 10) := ⟨⟨by decide +kernel, by decide +kernel⟩, List.mem_of_getElem? (i := 15) (by decide +kernel), List.mem_of_getElem? (i := 727) (by decide +kernel), List.mem_of_getElem? (i := 728) (by decide +kernel)⟩
theorem lw_p12 : lw_okq (⟨"QuoitFeastModel", "against", "(IIII)I"⟩, 38) := ⟨⟨by decide +kernel, by decide +kernel⟩, List.mem_of_getElem? (i := 867) (by decide +kernel), List.mem_of_getElem? (i := 1001) (by decide +kernel), List.mem_of_getElem? (i := 1002) (by decide +kernel)⟩
theorem lw_p13 : lw_okq (⟨"QuoitFeastModel", "fails", "(I)I"⟩, 38) := ⟨⟨by decide +kernel, by decide +kernel⟩, List.mem_of_getElem? (i := 867) (by decide +kernel), List.mem_of_getElem? (i := 1005) (by decide +kernel), List.mem_of_getElem? (i := 1006) (by decide +kernel)⟩
theorem lw_p14 : lw_okq (⟨"QuoitFeastModel", "readDale", "(I)Z"⟩, 38) := ⟨⟨by decide +kernel, by decide +kernel⟩, List.mem_of_getElem? (i := 867) (by decide +kernel), List.mem_of_getElem? (i := 1009) (by decide +kernel), List.mem_of_getElem? (i := 1010) (by decide +kernel)⟩
theorem lw_p15 : lw_okq (⟨"QuoitFeastModel", "isSign", "(II)Z"⟩, 38) := ⟨⟨by decide +kernel, by decide +kernel⟩, List.mem_of_getElem? (i := 867) (by decide +kernel), List.mem_of_getElem? (i := 1013) (by decide +kernel), List.mem_of_getElem? (i := 1014) (by decide +kernel)⟩
def lw_privs_1 : List (MethodName × Nat) := [(⟨"QuoitFeast", "sheetOf", "(I)LQuoitFeast$Sheet;"⟩, 10), (⟨"QuoitFeast", "comeTo", "(I)I"⟩, 10), (⟨"QuoitFeast", "makeAnew", "()V"⟩, 10), (⟨"QuoitFeast", "throwerOf", "(I)LQuoitFeast$Right;"⟩, 10), (⟨"QuoitFeast", "refusalOfPairs", "(LQuoitFeast$Sheet;II)I"⟩, 10), (⟨"QuoitFeast", "refusalOfPair", "(II)I"⟩, 10), (⟨"QuoitFeast", "tellFeast", "(LQuoitFeast$Sheet;II)V"⟩, 10), (⟨"QuoitFeast", "canAct", "(II)Z"⟩, 10), (⟨"QuoitFeast", "winsOf", "(LQuoitFeast$Right;)I"⟩, 10), (⟨"QuoitFeast", "preparePairing", "()V"⟩, 10), (⟨"QuoitFeast", "noteNearness", "(LQuoitFeast$Right;)V"⟩, 10), (⟨"QuoitFeast", "allSoWith", "(IIII)Z"⟩, 10), (⟨"QuoitFeastModel", "against", "(IIII)I"⟩, 38), (⟨"QuoitFeastModel", "fails", "(I)I"⟩, 38), (⟨"QuoitFeastModel", "readDale", "(I)Z"⟩, 38), (⟨"QuoitFeastModel", "isSign", "(II)Z"⟩, 38)]
theorem lw_r1 : ∀ q ∈ lw_privs_1, lw_okq q := List.forall_mem_cons.mpr ⟨lw_p0, List.forall_mem_cons.mpr ⟨lw_p1, List.forall_mem_cons.mpr ⟨lw_p2, List.forall_mem_cons.mpr ⟨lw_p3, List.forall_mem_cons.mpr ⟨lw_p4, List.forall_mem_cons.mpr ⟨lw_p5, List.forall_mem_cons.mpr ⟨lw_p6, List.forall_mem_cons.mpr ⟨lw_p7, List.forall_mem_cons.mpr ⟨lw_p8, List.forall_mem_cons.mpr ⟨lw_p9, List.forall_mem_cons.mpr ⟨lw_p10, List.forall_mem_cons.mpr ⟨lw_p11, List.forall_mem_cons.mpr ⟨lw_p12, List.forall_mem_cons.mpr ⟨lw_p13, List.forall_mem_cons.mpr ⟨lw_p14, List.forall_mem_cons.mpr ⟨lw_p15, fun _ h => absurd h List.not_mem_nil⟩⟩⟩⟩⟩⟩⟩⟩⟩⟩⟩⟩⟩⟩⟩⟩
theorem lw_p16 : lw_okq (⟨"QuoitFeastModel", "isNext", "(II)Z"⟩, 38) := ⟨⟨by decide +kernel, by decide +kernel⟩, List.mem_of_getElem? (i := 867) (by decide +kernel), List.mem_of_getElem? (i := 1017) (by decide +kernel), List.mem_of_getElem? (i := 1018) (by decide +kernel)⟩
theorem lw_p17 : lw_okq (⟨"QuoitFeastModel", "digit", "(III)I"⟩, 38) := ⟨⟨by decide +kernel, by decide +kernel⟩, List.mem_of_getElem? (i := 867) (by decide +kernel), List.mem_of_getElem? (i := 1021) (by decide +kernel), List.mem_of_getElem? (i := 1022) (by decide +kernel)⟩
theorem lw_p18 : lw_okq (⟨"QuoitFeastModel", "readTheGirl", "(I)Z"⟩, 38) := ⟨⟨by decide +kernel, by decide +kernel⟩, List.mem_of_getElem? (i := 867) (by decide +kernel), List.mem_of_getElem? (i := 1025) (by decide +kernel), List.mem_of_getElem? (i := 1026) (by decide +kernel)⟩
theorem lw_p19 : lw_okq (⟨"QuoitFeastModel", "readTheThrower", "(I)Z"⟩, 38) := ⟨⟨by decide +kernel, by decide +kernel⟩, List.mem_of_getElem? (i := 867) (by decide +kernel), List.mem_of_getElem? (i := 1029) (by decide +kernel), List.mem_of_getElem? (i := 1030) (by decide +kernel)⟩
theorem lw_p20 : lw_okq (⟨"QuoitFeastModel", "takeDale", "()V"⟩, 38) := ⟨⟨by decide +kernel, by decide +kernel⟩, List.mem_of_getElem? (i := 867) (by decide +kernel), List.mem_of_getElem? (i := 1033) (by decide +kernel), List.mem_of_getElem? (i := 1034) (by decide +kernel)⟩
theorem lw_p21 : lw_okq (⟨"QuoitFeastModel", "isGirl", "(I)Z"⟩, 38) := ⟨⟨by decide +kernel, by decide +kernel⟩, List.mem_of_getElem? (i := 867) (by decide +kernel), List.mem_of_getElem? (i := 1041) (by decide +kernel), List.mem_of_getElem? (i := 1042) (by decide +kernel)⟩
theorem lw_p22 : lw_okq (⟨"QuoitFeastModel", "hasHer", "(I)I"⟩, 38) := ⟨⟨by decide +kernel, by decide +kernel⟩, List.mem_of_getElem? (i := 867) (by decide +kernel), List.mem_of_getElem? (i := 1045) (by decide +kernel), List.mem_of_getElem? (i := 1046) (by decide +kernel)⟩
theorem lw_p23 : lw_okq (⟨"QuoitFeastModel", "bestRing", "(I)I"⟩, 38) := ⟨⟨by decide +kernel, by decide +kernel⟩, List.mem_of_getElem? (i := 867) (by decide +kernel), List.mem_of_getElem? (i := 1049) (by decide +kernel), List.mem_of_getElem? (i := 1050) (by decide +kernel)⟩
theorem lw_p24 : lw_okq (⟨"QuoitFeastModel", "ringers", "(I)I"⟩, 38) := ⟨⟨by decide +kernel, by decide +kernel⟩, List.mem_of_getElem? (i := 867) (by decide +kernel), List.mem_of_getElem? (i := 1053) (by decide +kernel), List.mem_of_getElem? (i := 1054) (by decide +kernel)⟩
theorem lw_p25 : lw_okq (⟨"QuoitFeastModel", "isThrower", "(I)Z"⟩, 38) := ⟨⟨by decide +kernel, by decide +kernel⟩, List.mem_of_getElem? (i := 867) (by decide +kernel), List.mem_of_getElem? (i := 1061) (by decide +kernel), List.mem_of_getElem? (i := 1062) (by decide +kernel)⟩
theorem lw_p26 : lw_okq (⟨"QuoitFeastModel", "reachOf", "(I)I"⟩, 38) := ⟨⟨by decide +kernel, by decide +kernel⟩, List.mem_of_getElem? (i := 867) (by decide +kernel), List.mem_of_getElem? (i := 1065) (by decide +kernel), List.mem_of_getElem? (i := 1066) (by decide +kernel)⟩
theorem lw_p27 : lw_okq (⟨"QuoitFeastModel", "hasSet", "(I)I"⟩, 38) := ⟨⟨by decide +kernel, by decide +kernel⟩, List.mem_of_getElem? (i := 867) (by decide +kernel), List.mem_of_getElem? (i := 1069) (by decide +kernel), List.mem_of_getElem? (i := 1070) (by decide +kernel)⟩
theorem lw_p28 : lw_okq (⟨"QuoitFeastModel", "ringsOf", "(I)I"⟩, 38) := ⟨⟨by decide +kernel, by decide +kernel⟩, List.mem_of_getElem? (i := 867) (by decide +kernel), List.mem_of_getElem? (i := 1073) (by decide +kernel), List.mem_of_getElem? (i := 1074) (by decide +kernel)⟩
theorem lw_p29 : lw_okq (⟨"QuoitFeastModel", "measureOf", "(II)I"⟩, 38) := ⟨⟨by decide +kernel, by decide +kernel⟩, List.mem_of_getElem? (i := 867) (by decide +kernel), List.mem_of_getElem? (i := 1097) (by decide +kernel), List.mem_of_getElem? (i := 1098) (by decide +kernel)⟩
theorem lw_p30 : lw_okq (⟨"QuoitFeastModel", "measureBy", "(II)I"⟩, 38) := ⟨⟨by decide +kernel, by decide +kernel⟩, List.mem_of_getElem? (i := 867) (by decide +kernel), List.mem_of_getElem? (i := 1101) (by decide +kernel), List.mem_of_getElem? (i := 1102) (by decide +kernel)⟩
theorem lw_p31 : lw_okq (⟨"QuoitFeastModel", "layOn", "(III)V"⟩, 38) := ⟨⟨by decide +kernel, by decide +kernel⟩, List.mem_of_getElem? (i := 867) (by decide +kernel), List.mem_of_getElem? (i := 1109) (by decide +kernel), List.mem_of_getElem? (i := 1110) (by decide +kernel)⟩
def lw_privs_2 : List (MethodName × Nat) := [(⟨"QuoitFeastModel", "isNext", "(II)Z"⟩, 38), (⟨"QuoitFeastModel", "digit", "(III)I"⟩, 38), (⟨"QuoitFeastModel", "readTheGirl", "(I)Z"⟩, 38), (⟨"QuoitFeastModel", "readTheThrower", "(I)Z"⟩, 38), (⟨"QuoitFeastModel", "takeDale", "()V"⟩, 38), (⟨"QuoitFeastModel", "isGirl", "(I)Z"⟩, 38), (⟨"QuoitFeastModel", "hasHer", "(I)I"⟩, 38), (⟨"QuoitFeastModel", "bestRing", "(I)I"⟩, 38), (⟨"QuoitFeastModel", "ringers", "(I)I"⟩, 38), (⟨"QuoitFeastModel", "isThrower", "(I)Z"⟩, 38), (⟨"QuoitFeastModel", "reachOf", "(I)I"⟩, 38), (⟨"QuoitFeastModel", "hasSet", "(I)I"⟩, 38), (⟨"QuoitFeastModel", "ringsOf", "(I)I"⟩, 38), (⟨"QuoitFeastModel", "measureOf", "(II)I"⟩, 38), (⟨"QuoitFeastModel", "measureBy", "(II)I"⟩, 38), (⟨"QuoitFeastModel", "layOn", "(III)V"⟩, 38)]
theorem lw_r2 : ∀ q ∈ lw_privs_2, lw_okq q := List.forall_mem_cons.mpr ⟨lw_p16, List.forall_mem_cons.mpr ⟨lw_p17, List.forall_mem_cons.mpr ⟨lw_p18, List.forall_mem_cons.mpr ⟨lw_p19, List.forall_mem_cons.mpr ⟨lw_p20, List.forall_mem_cons.mpr ⟨lw_p21, List.forall_mem_cons.mpr ⟨lw_p22, List.forall_mem_cons.mpr ⟨lw_p23, List.forall_mem_cons.mpr ⟨lw_p24, List.forall_mem_cons.mpr ⟨lw_p25, List.forall_mem_cons.mpr ⟨lw_p26, List.forall_mem_cons.mpr ⟨lw_p27, List.forall_mem_cons.mpr ⟨lw_p28, List.forall_mem_cons.mpr ⟨lw_p29, List.forall_mem_cons.mpr ⟨lw_p30, List.forall_mem_cons.mpr ⟨lw_p31, fun _ h => absurd h List.not_mem_nil⟩⟩⟩⟩⟩⟩⟩⟩⟩⟩⟩⟩⟩⟩⟩⟩
theorem lw_p32 : lw_okq (⟨"QuoitFeastModel", "refusesPair", "(II)I"⟩, 38) := ⟨⟨by decide +kernel, by decide +kernel⟩, List.mem_of_getElem? (i := 867) (by decide +kernel), List.mem_of_getElem? (i := 1125) (by decide +kernel), List.mem_of_getElem? (i := 1126) (by decide +kernel)⟩
theorem lw_p33 : lw_okq (⟨"QuoitFeastModel", "keep", "()V"⟩, 38) := ⟨⟨by decide +kernel, by decide +kernel⟩, List.mem_of_getElem? (i := 867) (by decide +kernel), List.mem_of_getElem? (i := 1129) (by decide +kernel), List.mem_of_getElem? (i := 1130) (by decide +kernel)⟩
theorem lw_p34 : lw_okq (⟨"QuoitFeastModel", "goFeast", "(II)I"⟩, 38) := ⟨⟨by decide +kernel, by decide +kernel⟩, List.mem_of_getElem? (i := 867) (by decide +kernel), List.mem_of_getElem? (i := 1133) (by decide +kernel), List.mem_of_getElem? (i := 1134) (by decide +kernel)⟩
theorem lw_p35 : lw_okq (⟨"QuoitFeastModel", "does", "(II)Z"⟩, 38) := ⟨⟨by decide +kernel, by decide +kernel⟩, List.mem_of_getElem? (i := 867) (by decide +kernel), List.mem_of_getElem? (i := 1137) (by decide +kernel), List.mem_of_getElem? (i := 1138) (by decide +kernel)⟩
theorem lw_p36 : lw_okq (⟨"QuoitFeastModel", "tellFeast", "(I)I"⟩, 38) := ⟨⟨by decide +kernel, by decide +kernel⟩, List.mem_of_getElem? (i := 867) (by decide +kernel), List.mem_of_getElem? (i := 1141) (by decide +kernel), List.mem_of_getElem? (i := 1142) (by decide +kernel)⟩
theorem lw_p37 : lw_okq (⟨"QuoitFeastModel", "putBack", "()V"⟩, 38) := ⟨⟨by decide +kernel, by decide +kernel⟩, List.mem_of_getElem? (i := 867) (by decide +kernel), List.mem_of_getElem? (i := 1145) (by decide +kernel), List.mem_of_getElem? (i := 1146) (by decide +kernel)⟩
theorem lw_p38 : lw_okq (⟨"QuoitFeastModel", "winsHer", "(II)Z"⟩, 38) := ⟨⟨by decide +kernel, by decide +kernel⟩, List.mem_of_getElem? (i := 867) (by decide +kernel), List.mem_of_getElem? (i := 1153) (by decide +kernel), List.mem_of_getElem? (i := 1154) (by decide +kernel)⟩
theorem lw_p39 : lw_okq (⟨"QuoitFeastModel", "hasBy", "(III)Z"⟩, 38) := ⟨⟨by decide +kernel, by decide +kernel⟩, List.mem_of_getElem? (i := 867) (by decide +kernel), List.mem_of_getElem? (i := 1157) (by decide +kernel), List.mem_of_getElem? (i := 1158) (by decide +kernel)⟩
theorem lw_p40 : lw_okq (⟨"QuoitFeastModel", "isRow", "(I)Z"⟩, 38) := ⟨⟨by decide +kernel, by decide +kernel⟩, List.mem_of_getElem? (i := 867) (by decide +kernel), List.mem_of_getElem? (i := 1165) (by decide +kernel), List.mem_of_getElem? (i := 1166) (by decide +kernel)⟩
theorem lw_p41 : lw_okq (⟨"QuoitFeastModel", "tryRow", "()V"⟩, 38) := ⟨⟨by decide +kernel, by decide +kernel⟩, List.mem_of_getElem? (i := 867) (by decide +kernel), List.mem_of_getElem? (i := 1169) (by decide +kernel), List.mem_of_getElem? (i := 1170) (by decide +kernel)⟩
theorem lw_p42 : lw_okq (⟨"QuoitFeastModel", "nextFor", "(I)I"⟩, 38) := ⟨⟨by decide +kernel, by decide +kernel⟩, List.mem_of_getElem? (i := 867) (by decide +kernel), List.mem_of_getElem? (i := 1177) (by decide +kernel), List.mem_of_getElem? (i := 1178) (by decide +kernel)⟩
theorem lw_p43 : lw_okq (⟨"QuoitFeastModel", "asks", "(II)V"⟩, 38) := ⟨⟨by decide +kernel, by decide +kernel⟩, List.mem_of_getElem? (i := 867) (by decide +kernel), List.mem_of_getElem? (i := 1181) (by decide +kernel), List.mem_of_getElem? (i := 1182) (by decide +kernel)⟩
theorem lw_p44 : lw_okq (⟨"QuoitFeastModel", "wouldRather", "(II)Z"⟩, 38) := ⟨⟨by decide +kernel, by decide +kernel⟩, List.mem_of_getElem? (i := 867) (by decide +kernel), List.mem_of_getElem? (i := 1185) (by decide +kernel), List.mem_of_getElem? (i := 1186) (by decide +kernel)⟩
theorem lw_p45 : lw_okq (⟨"QuoitFeastModel", "areSo", "()Z"⟩, 38) := ⟨⟨by decide +kernel, by decide +kernel⟩, List.mem_of_getElem? (i := 867) (by decide +kernel), List.mem_of_getElem? (i := 1205) (by decide +kernel), List.mem_of_getElem? (i := 1206) (by decide +kernel)⟩
theorem lw_p46 : lw_okq (⟨"QuoitFeastModel", "lost", "(I)J"⟩, 38) := ⟨⟨by decide +kernel, by decide +kernel⟩, List.mem_of_getElem? (i := 867) (by decide +kernel), List.mem_of_getElem? (i := 1242) (by decide +kernel), List.mem_of_getElem? (i := 1243) (by decide +kernel)⟩
theorem lw_p47 : lw_okq (⟨"QuoitFeastModel", "begins", "(I)V"⟩, 38) := ⟨⟨by decide +kernel, by decide +kernel⟩, List.mem_of_getElem? (i := 867) (by decide +kernel), List.mem_of_getElem? (i := 1254) (by decide +kernel), List.mem_of_getElem? (i := 1255) (by decide +kernel)⟩
def lw_privs_3 : List (MethodName × Nat) := [(⟨"QuoitFeastModel", "refusesPair", "(II)I"⟩, 38), (⟨"QuoitFeastModel", "keep", "()V"⟩, 38), (⟨"QuoitFeastModel", "goFeast", "(II)I"⟩, 38), (⟨"QuoitFeastModel", "does", "(II)Z"⟩, 38), (⟨"QuoitFeastModel", "tellFeast", "(I)I"⟩, 38), (⟨"QuoitFeastModel", "putBack", "()V"⟩, 38), (⟨"QuoitFeastModel", "winsHer", "(II)Z"⟩, 38), (⟨"QuoitFeastModel", "hasBy", "(III)Z"⟩, 38), (⟨"QuoitFeastModel", "isRow", "(I)Z"⟩, 38), (⟨"QuoitFeastModel", "tryRow", "()V"⟩, 38), (⟨"QuoitFeastModel", "nextFor", "(I)I"⟩, 38), (⟨"QuoitFeastModel", "asks", "(II)V"⟩, 38), (⟨"QuoitFeastModel", "wouldRather", "(II)Z"⟩, 38), (⟨"QuoitFeastModel", "areSo", "()Z"⟩, 38), (⟨"QuoitFeastModel", "lost", "(I)J"⟩, 38), (⟨"QuoitFeastModel", "begins", "(I)V"⟩, 38)]
theorem lw_r3 : ∀ q ∈ lw_privs_3, lw_okq q := List.forall_mem_cons.mpr ⟨lw_p32, List.forall_mem_cons.mpr ⟨lw_p33, List.forall_mem_cons.mpr ⟨lw_p34, List.forall_mem_cons.mpr ⟨lw_p35, List.forall_mem_cons.mpr ⟨lw_p36, List.forall_mem_cons.mpr ⟨lw_p37, List.forall_mem_cons.mpr ⟨lw_p38, List.forall_mem_cons.mpr ⟨lw_p39, List.forall_mem_cons.mpr ⟨lw_p40, List.forall_mem_cons.mpr ⟨lw_p41, List.forall_mem_cons.mpr ⟨lw_p42, List.forall_mem_cons.mpr ⟨lw_p43, List.forall_mem_cons.mpr ⟨lw_p44, List.forall_mem_cons.mpr ⟨lw_p45, List.forall_mem_cons.mpr ⟨lw_p46, List.forall_mem_cons.mpr ⟨lw_p47, fun _ h => absurd h List.not_mem_nil⟩⟩⟩⟩⟩⟩⟩⟩⟩⟩⟩⟩⟩⟩⟩⟩
def lw_privs : List (MethodName × Nat) := lw_privs_1 ++ (lw_privs_2 ++ (lw_privs_3))
def lw_tbl : List Cond := k2_sels lw_privs ++ tables_1
theorem lw_privs_ok : ∀ q ∈ lw_privs, lw_okq q := by
  show ∀ q ∈ lw_privs_1 ++ (lw_privs_2 ++ (lw_privs_3)), lw_okq q
  exact List.forall_mem_append.mpr ⟨lw_r1, List.forall_mem_append.mpr ⟨lw_r2, lw_r3⟩⟩
end
section
def RX0 : String := "QuoitFeast$Clay"
def TX0 : u_T := fun k => match k with
  | 0 => ("QuoitFeast$Clay", "frost", "I", false)
  | 1 => ("QuoitFeast$Clay", "girlCount", "I", false)
  | _ => ("QuoitFeast$Clay", "girls", "[LQuoitFeast$Girl;", true)
def tyX0 : Nat → FieldType := fun k => match k with
  | 0 => .int
  | 1 => .int
  | _ => .array (.object "QuoitFeast$Girl")
theorem nmX0 : ∀ a, a < 3 → ∀ b, b < 3 → a ≠ b → (TX0 a).2.1 ≠ (TX0 b).2.1 := by decide +kernel
theorem tyX0_ok : ∀ k, k < 3 → parseFieldDescriptor (TX0 k).2.2.1 = some (tyX0 k) := by decide +kernel
abbrev cX0_init : ByteArray := prog_2_method_1_code
def yX0_init : MethodName := ⟨RX0, "<init>", "()V"⟩
abbrev cX0_girlAt : ByteArray := prog_2_method_2_code
def yX0_girlAt : MethodName := ⟨RX0, "girlAt", "(I)LQuoitFeast$Girl;"⟩
abbrev cX0_standAs : ByteArray := prog_2_method_3_code
def yX0_standAs : MethodName := ⟨RX0, "standAs", "(LQuoitFeast$Text;)V"⟩
abbrev cX0_becomeLike : ByteArray := prog_2_method_4_code
def yX0_becomeLike : MethodName := ⟨RX0, "becomeLike", "(LQuoitFeast$Clay;)V"⟩
abbrev cX0_ringsInAll : ByteArray := prog_2_method_5_code
def yX0_ringsInAll : MethodName := ⟨RX0, "ringsInAll", "()I"⟩
abbrev cX0_ringsOf : ByteArray := prog_2_method_6_code
def yX0_ringsOf : MethodName := ⟨RX0, "ringsOf", "(I)I"⟩
abbrev cX0_heldBy : ByteArray := prog_2_method_7_code
def yX0_heldBy : MethodName := ⟨RX0, "heldBy", "(I)I"⟩
abbrev cX0_holderOf : ByteArray := prog_2_method_8_code
def yX0_holderOf : MethodName := ⟨RX0, "holderOf", "(I)I"⟩
abbrev cX0_girlsHeld : ByteArray := prog_2_method_9_code
def yX0_girlsHeld : MethodName := ⟨RX0, "girlsHeld", "()I"⟩
def RX1 : String := "QuoitFeast$Feast"
def TX1 : u_T := fun k => match k with
  | 0 => ("QuoitFeast$Feast", "clay", "LQuoitFeast$Clay;", true)
  | 1 => ("QuoitFeast$Feast", "firstWrong", "I", false)
  | 2 => ("QuoitFeast$Feast", "ringers", "I", false)
  | _ => ("QuoitFeast$Feast", "topping", "I", false)
def tyX1 : Nat → FieldType := fun k => match k with
  | 0 => .object "QuoitFeast$Clay"
  | 1 => .int
  | 2 => .int
  | _ => .int
theorem nmX1 : ∀ a, a < 4 → ∀ b, b < 4 → a ≠ b → (TX1 a).2.1 ≠ (TX1 b).2.1 := by decide +kernel
theorem tyX1_ok : ∀ k, k < 4 → parseFieldDescriptor (TX1 k).2.2.1 = some (tyX1 k) := by decide +kernel
abbrev cX1_init : ByteArray := prog_3_method_1_code
def yX1_init : MethodName := ⟨RX1, "<init>", "()V"⟩
abbrev cX1_begin : ByteArray := prog_3_method_2_code
def yX1_begin : MethodName := ⟨RX1, "begin", "(LQuoitFeast$Clay;)V"⟩
abbrev cX1_throwsAt : ByteArray := prog_3_method_3_code
def yX1_throwsAt : MethodName := ⟨RX1, "throwsAt", "(LQuoitFeast$Right;I)Z"⟩
abbrev cX1_clears : ByteArray := prog_3_method_4_code
def yX1_clears : MethodName := ⟨RX1, "clears", "(I)Z"⟩
abbrev cX1_answer : ByteArray := prog_3_method_5_code
def yX1_answer : MethodName := ⟨RX1, "answer", "(I)I"⟩
def RX2 : String := "QuoitFeast$Girl"
def TX2 : u_T := fun k => match k with
  | 0 => ("QuoitFeast$Girl", "yards", "I", false)
  | 1 => ("QuoitFeast$Girl", "leaning", "I", false)
  | 2 => ("QuoitFeast$Girl", "rings", "I", false)
  | 3 => ("QuoitFeast$Girl", "thrownBy", "[I", true)
  | _ => ("QuoitFeast$Girl", "nears", "[I", true)
def tyX2 : Nat → FieldType := fun k => match k with
  | 0 => .int
  | 1 => .int
  | 2 => .int
  | 3 => .array .int
  | _ => .array .int
theorem nmX2 : ∀ a, a < 5 → ∀ b, b < 5 → a ≠ b → (TX2 a).2.1 ≠ (TX2 b).2.1 := by decide +kernel
theorem tyX2_ok : ∀ k, k < 5 → parseFieldDescriptor (TX2 k).2.2.1 = some (tyX2 k) := by decide +kernel
abbrev cX2_init : ByteArray := prog_4_method_1_code
def yX2_init : MethodName := ⟨RX2, "<init>", "()V"⟩
abbrev cX2_stand : ByteArray := prog_4_method_2_code
def yX2_stand : MethodName := ⟨RX2, "stand", "(II)V"⟩
abbrev cX2_becomeLike : ByteArray := prog_4_method_3_code
def yX2_becomeLike : MethodName := ⟨RX2, "becomeLike", "(LQuoitFeast$Girl;)V"⟩
abbrev cX2_nearness : ByteArray := prog_4_method_4_code
def yX2_nearness : MethodName := ⟨RX2, "nearness", "(II)I"⟩
abbrev cX2_isFull : ByteArray := prog_4_method_5_code
def yX2_isFull : MethodName := ⟨RX2, "isFull", "()Z"⟩
abbrev cX2_throwerAt : ByteArray := prog_4_method_6_code
def yX2_throwerAt : MethodName := ⟨RX2, "throwerAt", "(I)I"⟩
abbrev cX2_nearAt : ByteArray := prog_4_method_7_code
def yX2_nearAt : MethodName := ⟨RX2, "nearAt", "(I)I"⟩
abbrev cX2_lay : ByteArray := prog_4_method_8_code
def yX2_lay : MethodName := ⟨RX2, "lay", "(II)V"⟩
abbrev cX2_takeLast : ByteArray := prog_4_method_9_code
def yX2_takeLast : MethodName := ⟨RX2, "takeLast", "()I"⟩
abbrev cX2_holdingRing : ByteArray := prog_4_method_10_code
def yX2_holdingRing : MethodName := ⟨RX2, "holdingRing", "()I"⟩
abbrev cX2_holder : ByteArray := prog_4_method_11_code
def yX2_holder : MethodName := ⟨RX2, "holder", "()I"⟩
abbrev cX2_holdersNearness : ByteArray := prog_4_method_12_code
def yX2_holdersNearness : MethodName := ⟨RX2, "holdersNearness", "()I"⟩
abbrev cX2_ringers : ByteArray := prog_4_method_13_code
def yX2_ringers : MethodName := ⟨RX2, "ringers", "()I"⟩
abbrev cX2_ringsOf : ByteArray := prog_4_method_14_code
def yX2_ringsOf : MethodName := ⟨RX2, "ringsOf", "(I)I"⟩
abbrev cX2_isHadBy : ByteArray := prog_4_method_15_code
def yX2_isHadBy : MethodName := ⟨RX2, "isHadBy", "(II)Z"⟩
def RX3 : String := "QuoitFeast$Left"
def TX3 : u_T := fun k => match k with
  | 0 => ("QuoitFeast$Right", "number", "I", true)
  | _ => ("QuoitFeast$Right", "arm", "I", false)
def tyX3 : Nat → FieldType := fun k => match k with
  | 0 => .int
  | _ => .int
theorem nmX3 : ∀ a, a < 2 → ∀ b, b < 2 → a ≠ b → (TX3 a).2.1 ≠ (TX3 b).2.1 := by decide +kernel
theorem tyX3_ok : ∀ k, k < 2 → parseFieldDescriptor (TX3 k).2.2.1 = some (tyX3 k) := by decide +kernel
abbrev cX3_init : ByteArray := prog_5_method_1_code
def yX3_init : MethodName := ⟨RX3, "<init>", "(II)V"⟩
abbrev cX3_kind : ByteArray := prog_5_method_2_code
def yX3_kind : MethodName := ⟨RX3, "kind", "()I"⟩
abbrev cX3_telling : ByteArray := prog_5_method_3_code
def yX3_telling : MethodName := ⟨RX3, "telling", "(LQuoitFeast$Trace;)I"⟩
def RX4 : String := "QuoitFeast$Pairing"
def TX4 : u_T := fun k => match k with
  | 0 => ("QuoitFeast$Pairing", "throwers", "I", false)
  | 1 => ("QuoitFeast$Pairing", "girls", "I", false)
  | 2 => ("QuoitFeast$Pairing", "nears", "[I", true)
  | 3 => ("QuoitFeast$Pairing", "winSets", "[I", true)
  | 4 => ("QuoitFeast$Pairing", "girlsGiven", "[I", true)
  | 5 => ("QuoitFeast$Pairing", "refusedBy", "[I", true)
  | _ => ("QuoitFeast$Pairing", "worths", "[I", true)
def tyX4 : Nat → FieldType := fun k => match k with
  | 0 => .int
  | 1 => .int
  | 2 => .array .int
  | 3 => .array .int
  | 4 => .array .int
  | 5 => .array .int
  | _ => .array .int
theorem nmX4 : ∀ a, a < 7 → ∀ b, b < 7 → a ≠ b → (TX4 a).2.1 ≠ (TX4 b).2.1 := by decide +kernel
theorem tyX4_ok : ∀ k, k < 7 → parseFieldDescriptor (TX4 k).2.2.1 = some (tyX4 k) := by decide +kernel
abbrev cX4_init : ByteArray := prog_6_method_1_code
def yX4_init : MethodName := ⟨RX4, "<init>", "()V"⟩
abbrev cX4_begin : ByteArray := prog_6_method_2_code
def yX4_begin : MethodName := ⟨RX4, "begin", "(II)V"⟩
abbrev cX4_noteWins : ByteArray := prog_6_method_3_code
def yX4_noteWins : MethodName := ⟨RX4, "noteWins", "(II)V"⟩
abbrev cX4_noteNearness : ByteArray := prog_6_method_4_code
def yX4_noteNearness : MethodName := ⟨RX4, "noteNearness", "(III)V"⟩
abbrev cX4_nearness : ByteArray := prog_6_method_5_code
def yX4_nearness : MethodName := ⟨RX4, "nearness", "(II)I"⟩
abbrev cX4_isInTable : ByteArray := prog_6_method_6_code
def yX4_isInTable : MethodName := ⟨RX4, "isInTable", "(II)Z"⟩
abbrev cX4_girlOf : ByteArray := prog_6_method_7_code
def yX4_girlOf : MethodName := ⟨RX4, "girlOf", "(I)I"⟩
abbrev cX4_giveGirl : ByteArray := prog_6_method_8_code
def yX4_giveGirl : MethodName := ⟨RX4, "giveGirl", "(II)V"⟩
abbrev cX4_pairs : ByteArray := prog_6_method_9_code
def yX4_pairs : MethodName := ⟨RX4, "pairs", "()I"⟩
abbrev cX4_nearnessTogether : ByteArray := prog_6_method_10_code
def yX4_nearnessTogether : MethodName := ⟨RX4, "nearnessTogether", "()I"⟩
abbrev cX4_matchUp : ByteArray := prog_6_method_11_code
def yX4_matchUp : MethodName := ⟨RX4, "matchUp", "()V"⟩
abbrev cX4_firstBest : ByteArray := prog_6_method_12_code
def yX4_firstBest : MethodName := ⟨RX4, "firstBest", "(II)I"⟩
abbrev cX4_isFreeToWin : ByteArray := prog_6_method_13_code
def yX4_isFreeToWin : MethodName := ⟨RX4, "isFreeToWin", "(III)Z"⟩
abbrev cX4_worthWith : ByteArray := prog_6_method_14_code
def yX4_worthWith : MethodName := ⟨RX4, "worthWith", "(III)I"⟩
abbrev cX4_worthFrom : ByteArray := prog_6_method_15_code
def yX4_worthFrom : MethodName := ⟨RX4, "worthFrom", "(II)I"⟩
abbrev cX4_noteWorth : ByteArray := prog_6_method_16_code
def yX4_noteWorth : MethodName := ⟨RX4, "noteWorth", "(III)V"⟩
abbrev cX4_wedAll : ByteArray := prog_6_method_17_code
def yX4_wedAll : MethodName := ⟨RX4, "wedAll", "()V"⟩
abbrev cX4_firstWhoAsks : ByteArray := prog_6_method_18_code
def yX4_firstWhoAsks : MethodName := ⟨RX4, "firstWhoAsks", "()I"⟩
abbrev cX4_dearest : ByteArray := prog_6_method_19_code
def yX4_dearest : MethodName := ⟨RX4, "dearest", "(I)I"⟩
abbrev cX4_ask : ByteArray := prog_6_method_20_code
def yX4_ask : MethodName := ⟨RX4, "ask", "(II)V"⟩
abbrev cX4_throwerWith : ByteArray := prog_6_method_21_code
def yX4_throwerWith : MethodName := ⟨RX4, "throwerWith", "(I)I"⟩
abbrev cX4_wouldRather : ByteArray := prog_6_method_22_code
def yX4_wouldRather : MethodName := ⟨RX4, "wouldRather", "(III)Z"⟩
abbrev cX4_isRefused : ByteArray := prog_6_method_23_code
def yX4_isRefused : MethodName := ⟨RX4, "isRefused", "(II)Z"⟩
abbrev cX4_refuse : ByteArray := prog_6_method_24_code
def yX4_refuse : MethodName := ⟨RX4, "refuse", "(II)V"⟩
def RX5 : String := "QuoitFeast$Readings"
def TX5 : u_T := fun k => match k with
  | 0 => ("QuoitFeast$Readings", "count", "I", false)
  | 1 => ("QuoitFeast$Readings", "throwersRead", "[I", true)
  | 2 => ("QuoitFeast$Readings", "girlsRead", "[I", true)
  | _ => ("QuoitFeast$Readings", "nears", "[I", true)
def tyX5 : Nat → FieldType := fun k => match k with
  | 0 => .int
  | 1 => .array .int
  | 2 => .array .int
  | _ => .array .int
theorem nmX5 : ∀ a, a < 4 → ∀ b, b < 4 → a ≠ b → (TX5 a).2.1 ≠ (TX5 b).2.1 := by decide +kernel
theorem tyX5_ok : ∀ k, k < 4 → parseFieldDescriptor (TX5 k).2.2.1 = some (tyX5 k) := by decide +kernel
abbrev cX5_init : ByteArray := prog_7_method_1_code
def yX5_init : MethodName := ⟨RX5, "<init>", "()V"⟩
abbrev cX5_isFull : ByteArray := prog_7_method_2_code
def yX5_isFull : MethodName := ⟨RX5, "isFull", "()Z"⟩
abbrev cX5_take : ByteArray := prog_7_method_3_code
def yX5_take : MethodName := ⟨RX5, "take", "(III)I"⟩
abbrev cX5_throwerAt : ByteArray := prog_7_method_4_code
def yX5_throwerAt : MethodName := ⟨RX5, "throwerAt", "(I)I"⟩
abbrev cX5_girlAt : ByteArray := prog_7_method_5_code
def yX5_girlAt : MethodName := ⟨RX5, "girlAt", "(I)I"⟩
abbrev cX5_nearAt : ByteArray := prog_7_method_6_code
def yX5_nearAt : MethodName := ⟨RX5, "nearAt", "(I)I"⟩
def RX6 : String := "QuoitFeast$Right"
def TX6 : u_T := fun k => match k with
  | 0 => ("QuoitFeast$Right", "number", "I", true)
  | _ => ("QuoitFeast$Right", "arm", "I", false)
def tyX6 : Nat → FieldType := fun k => match k with
  | 0 => .int
  | _ => .int
theorem nmX6 : ∀ a, a < 2 → ∀ b, b < 2 → a ≠ b → (TX6 a).2.1 ≠ (TX6 b).2.1 := by decide +kernel
theorem tyX6_ok : ∀ k, k < 2 → parseFieldDescriptor (TX6 k).2.2.1 = some (tyX6 k) := by decide +kernel
abbrev cX6_init : ByteArray := prog_8_method_1_code
def yX6_init : MethodName := ⟨RX6, "<init>", "(II)V"⟩
abbrev cX6_kind : ByteArray := prog_8_method_2_code
def yX6_kind : MethodName := ⟨RX6, "kind", "()I"⟩
abbrev cX6_reach : ByteArray := prog_8_method_3_code
def yX6_reach : MethodName := ⟨RX6, "reach", "()I"⟩
abbrev cX6_telling : ByteArray := prog_8_method_4_code
def yX6_telling : MethodName := ⟨RX6, "telling", "(LQuoitFeast$Trace;)I"⟩
abbrev cX6_plainTelling : ByteArray := prog_8_method_5_code
def yX6_plainTelling : MethodName := ⟨RX6, "plainTelling", "(LQuoitFeast$Trace;)I"⟩
abbrev cX6_cheering : ByteArray := prog_8_method_6_code
def yX6_cheering : MethodName := ⟨RX6, "cheering", "(LQuoitFeast$Trace;)I"⟩
def RX7 : String := "QuoitFeast$Sheet"
def TX7 : u_T := fun k => match k with
  | 0 => ("QuoitFeast$Sheet", "lane", "I", false)
  | 1 => ("QuoitFeast$Sheet", "length", "I", false)
  | _ => ("QuoitFeast$Sheet", "cells", "[I", true)
def tyX7 : Nat → FieldType := fun k => match k with
  | 0 => .int
  | 1 => .int
  | _ => .array .int
theorem nmX7 : ∀ a, a < 3 → ∀ b, b < 3 → a ≠ b → (TX7 a).2.1 ≠ (TX7 b).2.1 := by decide +kernel
theorem tyX7_ok : ∀ k, k < 3 → parseFieldDescriptor (TX7 k).2.2.1 = some (tyX7 k) := by decide +kernel
abbrev cX7_init : ByteArray := prog_9_method_1_code
def yX7_init : MethodName := ⟨RX7, "<init>", "()V"⟩
abbrev cX7_hasNothing : ByteArray := prog_9_method_2_code
def yX7_hasNothing : MethodName := ⟨RX7, "hasNothing", "()Z"⟩
abbrev cX7_forget : ByteArray := prog_9_method_3_code
def yX7_forget : MethodName := ⟨RX7, "forget", "()V"⟩
abbrev cX7_renew : ByteArray := prog_9_method_4_code
def yX7_renew : MethodName := ⟨RX7, "renew", "(II)V"⟩
abbrev cX7_faultAs : ByteArray := prog_9_method_5_code
def yX7_faultAs : MethodName := ⟨RX7, "faultAs", "(I)I"⟩
abbrev cX7_hasCell : ByteArray := prog_9_method_6_code
def yX7_hasCell : MethodName := ⟨RX7, "hasCell", "(I)Z"⟩
abbrev cX7_reaches : ByteArray := prog_9_method_7_code
def yX7_reaches : MethodName := ⟨RX7, "reaches", "(II)Z"⟩
abbrev cX7_at : ByteArray := prog_9_method_8_code
def yX7_at : MethodName := ⟨RX7, "at", "(I)I"⟩
abbrev cX7_store : ByteArray := prog_9_method_9_code
def yX7_store : MethodName := ⟨RX7, "store", "(II)V"⟩
abbrev cX7_cut : ByteArray := prog_9_method_10_code
def yX7_cut : MethodName := ⟨RX7, "cut", "(I)I"⟩
abbrev cX7_takeCells : ByteArray := prog_9_method_11_code
def yX7_takeCells : MethodName := ⟨RX7, "takeCells", "(LQuoitFeast$Sheet;III)V"⟩
def RX8 : String := "QuoitFeast$Stranger"
def TX8 : u_T := fun k => match k with
  | 0 => ("QuoitFeast$Right", "number", "I", true)
  | _ => ("QuoitFeast$Right", "arm", "I", false)
def tyX8 : Nat → FieldType := fun k => match k with
  | 0 => .int
  | _ => .int
theorem nmX8 : ∀ a, a < 2 → ∀ b, b < 2 → a ≠ b → (TX8 a).2.1 ≠ (TX8 b).2.1 := by decide +kernel
theorem tyX8_ok : ∀ k, k < 2 → parseFieldDescriptor (TX8 k).2.2.1 = some (tyX8 k) := by decide +kernel
abbrev cX8_init : ByteArray := prog_10_method_1_code
def yX8_init : MethodName := ⟨RX8, "<init>", "(II)V"⟩
abbrev cX8_kind : ByteArray := prog_10_method_2_code
def yX8_kind : MethodName := ⟨RX8, "kind", "()I"⟩
abbrev cX8_telling : ByteArray := prog_10_method_3_code
def yX8_telling : MethodName := ⟨RX8, "telling", "(LQuoitFeast$Trace;)I"⟩
abbrev cX8_cheering : ByteArray := prog_10_method_4_code
def yX8_cheering : MethodName := ⟨RX8, "cheering", "(LQuoitFeast$Trace;)I"⟩
def RX9 : String := "QuoitFeast$Text"
def TX9 : u_T := fun k => match k with
  | 0 => ("QuoitFeast$Text", "awaited", "I", false)
  | 1 => ("QuoitFeast$Text", "frost", "I", false)
  | 2 => ("QuoitFeast$Text", "girls", "I", false)
  | 3 => ("QuoitFeast$Text", "throwers", "I", false)
  | 4 => ("QuoitFeast$Text", "yards", "[I", true)
  | 5 => ("QuoitFeast$Text", "leanings", "[I", true)
  | 6 => ("QuoitFeast$Text", "letters", "[I", true)
  | _ => ("QuoitFeast$Text", "armsRead", "[I", true)
def tyX9 : Nat → FieldType := fun k => match k with
  | 0 => .int
  | 1 => .int
  | 2 => .int
  | 3 => .int
  | 4 => .array .int
  | 5 => .array .int
  | 6 => .array .int
  | _ => .array .int
theorem nmX9 : ∀ a, a < 8 → ∀ b, b < 8 → a ≠ b → (TX9 a).2.1 ≠ (TX9 b).2.1 := by decide +kernel
theorem tyX9_ok : ∀ k, k < 8 → parseFieldDescriptor (TX9 k).2.2.1 = some (tyX9 k) := by decide +kernel
abbrev cX9_init : ByteArray := prog_11_method_1_code
def yX9_init : MethodName := ⟨RX9, "<init>", "()V"⟩
abbrev cX9_firstFault : ByteArray := prog_11_method_2_code
def yX9_firstFault : MethodName := ⟨RX9, "firstFault", "(LQuoitFeast$Sheet;II)I"⟩
abbrev cX9_goesOnWith : ByteArray := prog_11_method_3_code
def yX9_goesOnWith : MethodName := ⟨RX9, "goesOnWith", "(I)Z"⟩
abbrev cX9_thenAwait : ByteArray := prog_11_method_4_code
def yX9_thenAwait : MethodName := ⟨RX9, "thenAwait", "(IZ)Z"⟩
abbrev cX9_takesFrost : ByteArray := prog_11_method_5_code
def yX9_takesFrost : MethodName := ⟨RX9, "takesFrost", "(I)Z"⟩
abbrev cX9_takesMark : ByteArray := prog_11_method_6_code
def yX9_takesMark : MethodName := ⟨RX9, "takesMark", "(I)Z"⟩
abbrev cX9_takesYards : ByteArray := prog_11_method_7_code
def yX9_takesYards : MethodName := ⟨RX9, "takesYards", "(I)Z"⟩
abbrev cX9_takesLeaning : ByteArray := prog_11_method_8_code
def yX9_takesLeaning : MethodName := ⟨RX9, "takesLeaning", "(I)Z"⟩
abbrev cX9_takesLetter : ByteArray := prog_11_method_9_code
def yX9_takesLetter : MethodName := ⟨RX9, "takesLetter", "(I)Z"⟩
abbrev cX9_takesArm : ByteArray := prog_11_method_10_code
def yX9_takesArm : MethodName := ⟨RX9, "takesArm", "(I)Z"⟩
abbrev cX9_digit : ByteArray := prog_11_method_11_code
def yX9_digit : MethodName := ⟨RX9, "digit", "(I)I"⟩
abbrev cX9_kindBy : ByteArray := prog_11_method_12_code
def yX9_kindBy : MethodName := ⟨RX9, "kindBy", "(I)I"⟩
abbrev cX9_yardsAt : ByteArray := prog_11_method_13_code
def yX9_yardsAt : MethodName := ⟨RX9, "yardsAt", "(I)I"⟩
abbrev cX9_leaningAt : ByteArray := prog_11_method_14_code
def yX9_leaningAt : MethodName := ⟨RX9, "leaningAt", "(I)I"⟩
abbrev cX9_kindAt : ByteArray := prog_11_method_15_code
def yX9_kindAt : MethodName := ⟨RX9, "kindAt", "(I)I"⟩
abbrev cX9_armAt : ByteArray := prog_11_method_16_code
def yX9_armAt : MethodName := ⟨RX9, "armAt", "(I)I"⟩
def RX10 : String := "QuoitFeast$Trace"
def TX10 : u_T := fun k => match k with
  | _ => ("QuoitFeast$Trace", "left", "I", false)
def tyX10 : Nat → FieldType := fun k => match k with
  | _ => .int
theorem nmX10 : ∀ a, a < 1 → ∀ b, b < 1 → a ≠ b → (TX10 a).2.1 ≠ (TX10 b).2.1 := by decide +kernel
theorem tyX10_ok : ∀ k, k < 1 → parseFieldDescriptor (TX10 k).2.2.1 = some (tyX10 k) := by decide +kernel
abbrev cX10_init : ByteArray := prog_12_method_1_code
def yX10_init : MethodName := ⟨RX10, "<init>", "()V"⟩
abbrev cX10_leave : ByteArray := prog_12_method_2_code
def yX10_leave : MethodName := ⟨RX10, "leave", "(I)V"⟩
def RX11 : String := "QuoitFeast"
def TX11 : u_T := fun k => match k with
  | 0 => ("QuoitFeast", "clay", "LQuoitFeast$Clay;", true)
  | 1 => ("QuoitFeast", "throwers", "[LQuoitFeast$Right;", true)
  | 2 => ("QuoitFeast", "readings", "LQuoitFeast$Readings;", true)
  | 3 => ("QuoitFeast", "sheets", "[LQuoitFeast$Sheet;", true)
  | 4 => ("QuoitFeast", "steps", "LQuoitFeast$Trace;", true)
  | 5 => ("QuoitFeast", "text", "LQuoitFeast$Text;", true)
  | 6 => ("QuoitFeast", "told", "LQuoitFeast$Feast;", true)
  | 7 => ("QuoitFeast", "pairing", "LQuoitFeast$Pairing;", true)
  | 8 => ("QuoitFeast", "throwerCount", "I", false)
  | _ => ("QuoitFeast", "lastFault", "I", false)
def tyX11 : Nat → FieldType := fun k => match k with
  | 0 => .object "QuoitFeast$Clay"
  | 1 => .array (.object "QuoitFeast$Right")
  | 2 => .object "QuoitFeast$Readings"
  | 3 => .array (.object "QuoitFeast$Sheet")
  | 4 => .object "QuoitFeast$Trace"
  | 5 => .object "QuoitFeast$Text"
  | 6 => .object "QuoitFeast$Feast"
  | 7 => .object "QuoitFeast$Pairing"
  | 8 => .int
  | _ => .int
theorem nmX11 : ∀ a, a < 10 → ∀ b, b < 10 → a ≠ b → (TX11 a).2.1 ≠ (TX11 b).2.1 := by decide +kernel
theorem tyX11_ok : ∀ k, k < 10 → parseFieldDescriptor (TX11 k).2.2.1 = some (tyX11 k) := by decide +kernel
abbrev cX11_init : ByteArray := prog_1_method_1_code
def yX11_init : MethodName := ⟨RX11, "<init>", "()V"⟩
abbrev cX11_dale : ByteArray := prog_1_method_2_code
def yX11_dale : MethodName := ⟨RX11, "dale", "(IIII)I"⟩
abbrev cX11_ofGirl : ByteArray := prog_1_method_3_code
def yX11_ofGirl : MethodName := ⟨RX11, "ofGirl", "(II)I"⟩
abbrev cX11_ofThrower : ByteArray := prog_1_method_4_code
def yX11_ofThrower : MethodName := ⟨RX11, "ofThrower", "(II)I"⟩
abbrev cX11_freeze : ByteArray := prog_1_method_5_code
def yX11_freeze : MethodName := ⟨RX11, "freeze", "(I)I"⟩
abbrev cX11_lean : ByteArray := prog_1_method_6_code
def yX11_lean : MethodName := ⟨RX11, "lean", "(II)I"⟩
abbrev cX11_place : ByteArray := prog_1_method_7_code
def yX11_place : MethodName := ⟨RX11, "place", "(II)I"⟩
abbrev cX11_train : ByteArray := prog_1_method_8_code
def yX11_train : MethodName := ⟨RX11, "train", "(II)I"⟩
abbrev cX11_measure : ByteArray := prog_1_method_9_code
def yX11_measure : MethodName := ⟨RX11, "measure", "(II)I"⟩
abbrev cX11_hurl : ByteArray := prog_1_method_10_code
def yX11_hurl : MethodName := ⟨RX11, "hurl", "(II)I"⟩
abbrev cX11_lift : ByteArray := prog_1_method_11_code
def yX11_lift : MethodName := ⟨RX11, "lift", "(I)I"⟩
abbrev cX11_clear : ByteArray := prog_1_method_12_code
def yX11_clear : MethodName := ⟨RX11, "clear", "(I)I"⟩
abbrev cX11_feast : ByteArray := prog_1_method_13_code
def yX11_feast : MethodName := ⟨RX11, "feast", "(IIIII)I"⟩
abbrev cX11_wins : ByteArray := prog_1_method_14_code
def yX11_wins : MethodName := ⟨RX11, "wins", "(I)I"⟩
abbrev cX11_match : ByteArray := prog_1_method_15_code
def yX11_match : MethodName := ⟨RX11, "match", "(I)I"⟩
abbrev cX11_weds : ByteArray := prog_1_method_16_code
def yX11_weds : MethodName := ⟨RX11, "weds", "(I)I"⟩
abbrev cX11_even : ByteArray := prog_1_method_17_code
def yX11_even : MethodName := ⟨RX11, "even", "(III)I"⟩
abbrev cX11_reading : ByteArray := prog_1_method_18_code
def yX11_reading : MethodName := ⟨RX11, "reading", "(III)I"⟩
abbrev cX11_back : ByteArray := prog_1_method_19_code
def yX11_back : MethodName := ⟨RX11, "back", "(I)I"⟩
abbrev cX11_leans : ByteArray := prog_1_method_20_code
def yX11_leans : MethodName := ⟨RX11, "leans", "(I)I"⟩
abbrev cX11_arms : ByteArray := prog_1_method_21_code
def yX11_arms : MethodName := ⟨RX11, "arms", "(I)I"⟩
abbrev cX11_kinds : ByteArray := prog_1_method_22_code
def yX11_kinds : MethodName := ⟨RX11, "kinds", "(I)I"⟩
abbrev cX11_odds : ByteArray := prog_1_method_23_code
def yX11_odds : MethodName := ⟨RX11, "odds", "(III)J"⟩
abbrev cX11_sheet : ByteArray := prog_1_method_24_code
def yX11_sheet : MethodName := ⟨RX11, "sheet", "(III)I"⟩
abbrev cX11_lose : ByteArray := prog_1_method_25_code
def yX11_lose : MethodName := ⟨RX11, "lose", "(I)I"⟩
abbrev cX11_put : ByteArray := prog_1_method_26_code
def yX11_put : MethodName := ⟨RX11, "put", "(III)I"⟩
abbrev cX11_cell : ByteArray := prog_1_method_27_code
def yX11_cell : MethodName := ⟨RX11, "cell", "(III)J"⟩
abbrev cX11_copy : ByteArray := prog_1_method_28_code
def yX11_copy : MethodName := ⟨RX11, "copy", "(IIIII)I"⟩
abbrev cX11_tell : ByteArray := prog_1_method_29_code
def yX11_tell : MethodName := ⟨RX11, "tell", "(I)I"⟩
abbrev cX11_cheer : ByteArray := prog_1_method_30_code
def yX11_cheer : MethodName := ⟨RX11, "cheer", "(I)I"⟩
abbrev cX11_as : ByteArray := prog_1_method_31_code
def yX11_as : MethodName := ⟨RX11, "as", "(II)I"⟩
abbrev cX11_trace : ByteArray := prog_1_method_32_code
def yX11_trace : MethodName := ⟨RX11, "trace", "()I"⟩
abbrev cX11_fault : ByteArray := prog_1_method_33_code
def yX11_fault : MethodName := ⟨RX11, "fault", "()I"⟩
abbrev cX11_many : ByteArray := prog_1_method_34_code
def yX11_many : MethodName := ⟨RX11, "many", "(I)I"⟩
abbrev cX11_sheetOf : ByteArray := prog_1_method_35_code
def yX11_sheetOf : MethodName := ⟨RX11, "sheetOf", "(I)LQuoitFeast$Sheet;"⟩
abbrev cX11_throwerOf : ByteArray := prog_1_method_36_code
def yX11_throwerOf : MethodName := ⟨RX11, "throwerOf", "(I)LQuoitFeast$Right;"⟩
abbrev cX11_comeTo : ByteArray := prog_1_method_37_code
def yX11_comeTo : MethodName := ⟨RX11, "comeTo", "(I)I"⟩
abbrev cX11_makeAnew : ByteArray := prog_1_method_38_code
def yX11_makeAnew : MethodName := ⟨RX11, "makeAnew", "()V"⟩
abbrev cX11_newThrower : ByteArray := prog_1_method_39_code
def yX11_newThrower : MethodName := ⟨RX11, "newThrower", "(III)LQuoitFeast$Right;"⟩
abbrev cX11_isOfKind : ByteArray := prog_1_method_40_code
def yX11_isOfKind : MethodName := ⟨RX11, "isOfKind", "(LQuoitFeast$Right;I)Z"⟩
abbrev cX11_isLane : ByteArray := prog_1_method_41_code
def yX11_isLane : MethodName := ⟨RX11, "isLane", "(I)Z"⟩
abbrev cX11_isWithin : ByteArray := prog_1_method_42_code
def yX11_isWithin : MethodName := ⟨RX11, "isWithin", "(III)Z"⟩
abbrev cX11_isAskedOfFeasts : ByteArray := prog_1_method_43_code
def yX11_isAskedOfFeasts : MethodName := ⟨RX11, "isAskedOfFeasts", "(I)Z"⟩
abbrev cX11_refusalOfPairs : ByteArray := prog_1_method_44_code
def yX11_refusalOfPairs : MethodName := ⟨RX11, "refusalOfPairs", "(LQuoitFeast$Sheet;II)I"⟩
abbrev cX11_refusalOfPair : ByteArray := prog_1_method_45_code
def yX11_refusalOfPair : MethodName := ⟨RX11, "refusalOfPair", "(II)I"⟩
abbrev cX11_tellFeast : ByteArray := prog_1_method_46_code
def yX11_tellFeast : MethodName := ⟨RX11, "tellFeast", "(LQuoitFeast$Sheet;II)V"⟩
abbrev cX11_canAct : ByteArray := prog_1_method_47_code
def yX11_canAct : MethodName := ⟨RX11, "canAct", "(II)Z"⟩
abbrev cX11_winsOf : ByteArray := prog_1_method_48_code
def yX11_winsOf : MethodName := ⟨RX11, "winsOf", "(LQuoitFeast$Right;)I"⟩
abbrev cX11_preparePairing : ByteArray := prog_1_method_49_code
def yX11_preparePairing : MethodName := ⟨RX11, "preparePairing", "()V"⟩
abbrev cX11_noteNearness : ByteArray := prog_1_method_50_code
def yX11_noteNearness : MethodName := ⟨RX11, "noteNearness", "(LQuoitFeast$Right;)V"⟩
abbrev cX11_allSoWith : ByteArray := prog_1_method_51_code
def yX11_allSoWith : MethodName := ⟨RX11, "allSoWith", "(IIII)Z"⟩
abbrev cX11_apart : ByteArray := prog_1_method_52_code
def yX11_apart : MethodName := ⟨RX11, "apart", "(II)I"⟩
abbrev cX11_nearnessBy : ByteArray := prog_1_method_53_code
def yX11_nearnessBy : MethodName := ⟨RX11, "nearnessBy", "(IIII)I"⟩
abbrev cX11_reachOf : ByteArray := prog_1_method_54_code
def yX11_reachOf : MethodName := ⟨RX11, "reachOf", "(II)I"⟩
def RX12 : String := "QuoitFeastModel"
def TX12 : u_T := fun k => match k with
  | 0 => ("QuoitFeastModel", "fault", "I", false)
  | 1 => ("QuoitFeastModel", "trace", "I", false)
  | 2 => ("QuoitFeastModel", "sorts", "[I", true)
  | 3 => ("QuoitFeastModel", "sheetLong", "[I", true)
  | 4 => ("QuoitFeastModel", "cells", "[I", true)
  | 5 => ("QuoitFeastModel", "frost", "I", false)
  | 6 => ("QuoitFeastModel", "girls", "I", false)
  | 7 => ("QuoitFeastModel", "throwers", "I", false)
  | 8 => ("QuoitFeastModel", "yards", "[I", true)
  | 9 => ("QuoitFeastModel", "lean", "[I", true)
  | 10 => ("QuoitFeastModel", "kind", "[I", true)
  | 11 => ("QuoitFeastModel", "arm", "[I", true)
  | 12 => ("QuoitFeastModel", "lies", "[I", true)
  | 13 => ("QuoitFeastModel", "whose", "[I", true)
  | 14 => ("QuoitFeastModel", "measures", "[I", true)
  | 15 => ("QuoitFeastModel", "at", "I", false)
  | 16 => ("QuoitFeastModel", "readFrost", "I", false)
  | 17 => ("QuoitFeastModel", "readGirls", "I", false)
  | 18 => ("QuoitFeastModel", "readThrowers", "I", false)
  | 19 => ("QuoitFeastModel", "readGirl", "[I", true)
  | 20 => ("QuoitFeastModel", "readThrower", "[I", true)
  | 21 => ("QuoitFeastModel", "keptFrost", "I", false)
  | 22 => ("QuoitFeastModel", "keptLies", "[I", true)
  | 23 => ("QuoitFeastModel", "keptWhose", "[I", true)
  | 24 => ("QuoitFeastModel", "keptMeasures", "[I", true)
  | 25 => ("QuoitFeastModel", "ringersThrown", "I", false)
  | 26 => ("QuoitFeastModel", "ringersOn", "I", false)
  | 27 => ("QuoitFeastModel", "row", "[I", true)
  | 28 => ("QuoitFeastModel", "best", "[I", true)
  | 29 => ("QuoitFeastModel", "bestGirls", "I", false)
  | 30 => ("QuoitFeastModel", "bestSum", "I", false)
  | 31 => ("QuoitFeastModel", "wedTo", "[I", true)
  | 32 => ("QuoitFeastModel", "wedBy", "[I", true)
  | 33 => ("QuoitFeastModel", "askedSet", "[I", true)
  | 34 => ("QuoitFeastModel", "readings", "I", false)
  | 35 => ("QuoitFeastModel", "readWho", "[I", true)
  | 36 => ("QuoitFeastModel", "readWhom", "[I", true)
  | _ => ("QuoitFeastModel", "readMeasure", "[I", true)
def tyX12 : Nat → FieldType := fun k => match k with
  | 0 => .int
  | 1 => .int
  | 2 => .array .int
  | 3 => .array .int
  | 4 => .array .int
  | 5 => .int
  | 6 => .int
  | 7 => .int
  | 8 => .array .int
  | 9 => .array .int
  | 10 => .array .int
  | 11 => .array .int
  | 12 => .array .int
  | 13 => .array .int
  | 14 => .array .int
  | 15 => .int
  | 16 => .int
  | 17 => .int
  | 18 => .int
  | 19 => .array .int
  | 20 => .array .int
  | 21 => .int
  | 22 => .array .int
  | 23 => .array .int
  | 24 => .array .int
  | 25 => .int
  | 26 => .int
  | 27 => .array .int
  | 28 => .array .int
  | 29 => .int
  | 30 => .int
  | 31 => .array .int
  | 32 => .array .int
  | 33 => .array .int
  | 34 => .int
  | 35 => .array .int
  | 36 => .array .int
  | _ => .array .int
theorem nmX12 : ∀ a, a < 38 → ∀ b, b < 38 → a ≠ b → (TX12 a).2.1 ≠ (TX12 b).2.1 := by decide +kernel
theorem tyX12_ok : ∀ k, k < 38 → parseFieldDescriptor (TX12 k).2.2.1 = some (tyX12 k) := by decide +kernel
abbrev cX12_init : ByteArray := prog_14_method_1_code
def yX12_init : MethodName := ⟨RX12, "<init>", "()V"⟩
abbrev cX12_fails : ByteArray := prog_14_method_3_code
def yX12_fails : MethodName := ⟨RX12, "fails", "(I)I"⟩
abbrev cX12_lost : ByteArray := prog_14_method_4_code
def yX12_lost : MethodName := ⟨RX12, "lost", "(I)J"⟩
abbrev cX12_within : ByteArray := prog_14_method_5_code
def yX12_within : MethodName := ⟨RX12, "within", "(III)Z"⟩
abbrev cX12_isSheet : ByteArray := prog_14_method_6_code
def yX12_isSheet : MethodName := ⟨RX12, "isSheet", "(I)Z"⟩
abbrev cX12_isSort : ByteArray := prog_14_method_7_code
def yX12_isSort : MethodName := ⟨RX12, "isSort", "(I)Z"⟩
abbrev cX12_against : ByteArray := prog_14_method_8_code
def yX12_against : MethodName := ⟨RX12, "against", "(IIII)I"⟩
abbrev cX12_isGirl : ByteArray := prog_14_method_9_code
def yX12_isGirl : MethodName := ⟨RX12, "isGirl", "(I)Z"⟩
abbrev cX12_isThrower : ByteArray := prog_14_method_10_code
def yX12_isThrower : MethodName := ⟨RX12, "isThrower", "(I)Z"⟩
abbrev cX12_digit : ByteArray := prog_14_method_11_code
def yX12_digit : MethodName := ⟨RX12, "digit", "(III)I"⟩
abbrev cX12_isNext : ByteArray := prog_14_method_12_code
def yX12_isNext : MethodName := ⟨RX12, "isNext", "(II)Z"⟩
abbrev cX12_isSign : ByteArray := prog_14_method_13_code
def yX12_isSign : MethodName := ⟨RX12, "isSign", "(II)Z"⟩
abbrev cX12_dale : ByteArray := prog_14_method_14_code
def yX12_dale : MethodName := ⟨RX12, "dale", "(IIII)I"⟩
abbrev cX12_takeDale : ByteArray := prog_14_method_15_code
def yX12_takeDale : MethodName := ⟨RX12, "takeDale", "()V"⟩
abbrev cX12_readDale : ByteArray := prog_14_method_16_code
def yX12_readDale : MethodName := ⟨RX12, "readDale", "(I)Z"⟩
abbrev cX12_readTheGirl : ByteArray := prog_14_method_17_code
def yX12_readTheGirl : MethodName := ⟨RX12, "readTheGirl", "(I)Z"⟩
abbrev cX12_readTheThrower : ByteArray := prog_14_method_18_code
def yX12_readTheThrower : MethodName := ⟨RX12, "readTheThrower", "(I)Z"⟩
abbrev cX12_reachOf : ByteArray := prog_14_method_19_code
def yX12_reachOf : MethodName := ⟨RX12, "reachOf", "(I)I"⟩
abbrev cX12_measureBy : ByteArray := prog_14_method_20_code
def yX12_measureBy : MethodName := ⟨RX12, "measureBy", "(II)I"⟩
abbrev cX12_measureOf : ByteArray := prog_14_method_21_code
def yX12_measureOf : MethodName := ⟨RX12, "measureOf", "(II)I"⟩
abbrev cX12_bestRing : ByteArray := prog_14_method_22_code
def yX12_bestRing : MethodName := ⟨RX12, "bestRing", "(I)I"⟩
abbrev cX12_hasHer : ByteArray := prog_14_method_23_code
def yX12_hasHer : MethodName := ⟨RX12, "hasHer", "(I)I"⟩
abbrev cX12_ringers : ByteArray := prog_14_method_24_code
def yX12_ringers : MethodName := ⟨RX12, "ringers", "(I)I"⟩
abbrev cX12_ofGirl : ByteArray := prog_14_method_25_code
def yX12_ofGirl : MethodName := ⟨RX12, "ofGirl", "(II)I"⟩
abbrev cX12_hasSet : ByteArray := prog_14_method_26_code
def yX12_hasSet : MethodName := ⟨RX12, "hasSet", "(I)I"⟩
abbrev cX12_ringsOf : ByteArray := prog_14_method_27_code
def yX12_ringsOf : MethodName := ⟨RX12, "ringsOf", "(I)I"⟩
abbrev cX12_ofThrower : ByteArray := prog_14_method_28_code
def yX12_ofThrower : MethodName := ⟨RX12, "ofThrower", "(II)I"⟩
abbrev cX12_freeze : ByteArray := prog_14_method_29_code
def yX12_freeze : MethodName := ⟨RX12, "freeze", "(I)I"⟩
abbrev cX12_lean : ByteArray := prog_14_method_30_code
def yX12_lean : MethodName := ⟨RX12, "lean", "(II)I"⟩
abbrev cX12_place : ByteArray := prog_14_method_31_code
def yX12_place : MethodName := ⟨RX12, "place", "(II)I"⟩
abbrev cX12_train : ByteArray := prog_14_method_32_code
def yX12_train : MethodName := ⟨RX12, "train", "(II)I"⟩
abbrev cX12_measure : ByteArray := prog_14_method_33_code
def yX12_measure : MethodName := ⟨RX12, "measure", "(II)I"⟩
abbrev cX12_layOn : ByteArray := prog_14_method_34_code
def yX12_layOn : MethodName := ⟨RX12, "layOn", "(III)V"⟩
abbrev cX12_hurl : ByteArray := prog_14_method_35_code
def yX12_hurl : MethodName := ⟨RX12, "hurl", "(II)I"⟩
abbrev cX12_lift : ByteArray := prog_14_method_36_code
def yX12_lift : MethodName := ⟨RX12, "lift", "(I)I"⟩
abbrev cX12_clear : ByteArray := prog_14_method_37_code
def yX12_clear : MethodName := ⟨RX12, "clear", "(I)I"⟩
abbrev cX12_keep : ByteArray := prog_14_method_38_code
def yX12_keep : MethodName := ⟨RX12, "keep", "()V"⟩
abbrev cX12_putBack : ByteArray := prog_14_method_39_code
def yX12_putBack : MethodName := ⟨RX12, "putBack", "()V"⟩
abbrev cX12_does : ByteArray := prog_14_method_40_code
def yX12_does : MethodName := ⟨RX12, "does", "(II)Z"⟩
abbrev cX12_goFeast : ByteArray := prog_14_method_41_code
def yX12_goFeast : MethodName := ⟨RX12, "goFeast", "(II)I"⟩
abbrev cX12_refusesPair : ByteArray := prog_14_method_42_code
def yX12_refusesPair : MethodName := ⟨RX12, "refusesPair", "(II)I"⟩
abbrev cX12_feast : ByteArray := prog_14_method_43_code
def yX12_feast : MethodName := ⟨RX12, "feast", "(IIIII)I"⟩
abbrev cX12_tellFeast : ByteArray := prog_14_method_44_code
def yX12_tellFeast : MethodName := ⟨RX12, "tellFeast", "(I)I"⟩
abbrev cX12_hasBy : ByteArray := prog_14_method_45_code
def yX12_hasBy : MethodName := ⟨RX12, "hasBy", "(III)Z"⟩
abbrev cX12_winsHer : ByteArray := prog_14_method_46_code
def yX12_winsHer : MethodName := ⟨RX12, "winsHer", "(II)Z"⟩
abbrev cX12_wins : ByteArray := prog_14_method_47_code
def yX12_wins : MethodName := ⟨RX12, "wins", "(I)I"⟩
abbrev cX12_isRow : ByteArray := prog_14_method_48_code
def yX12_isRow : MethodName := ⟨RX12, "isRow", "(I)Z"⟩
abbrev cX12_tryRow : ByteArray := prog_14_method_49_code
def yX12_tryRow : MethodName := ⟨RX12, "tryRow", "()V"⟩
abbrev cX12_match : ByteArray := prog_14_method_50_code
def yX12_match : MethodName := ⟨RX12, "match", "(I)I"⟩
abbrev cX12_nextFor : ByteArray := prog_14_method_51_code
def yX12_nextFor : MethodName := ⟨RX12, "nextFor", "(I)I"⟩
abbrev cX12_wouldRather : ByteArray := prog_14_method_52_code
def yX12_wouldRather : MethodName := ⟨RX12, "wouldRather", "(II)Z"⟩
abbrev cX12_asks : ByteArray := prog_14_method_53_code
def yX12_asks : MethodName := ⟨RX12, "asks", "(II)V"⟩
abbrev cX12_weds : ByteArray := prog_14_method_54_code
def yX12_weds : MethodName := ⟨RX12, "weds", "(I)I"⟩
abbrev cX12_even : ByteArray := prog_14_method_55_code
def yX12_even : MethodName := ⟨RX12, "even", "(III)I"⟩
abbrev cX12_reading : ByteArray := prog_14_method_56_code
def yX12_reading : MethodName := ⟨RX12, "reading", "(III)I"⟩
abbrev cX12_back : ByteArray := prog_14_method_57_code
def yX12_back : MethodName := ⟨RX12, "back", "(I)I"⟩
abbrev cX12_areSo : ByteArray := prog_14_method_58_code
def yX12_areSo : MethodName := ⟨RX12, "areSo", "()Z"⟩
abbrev cX12_leans : ByteArray := prog_14_method_59_code
def yX12_leans : MethodName := ⟨RX12, "leans", "(I)I"⟩
abbrev cX12_arms : ByteArray := prog_14_method_60_code
def yX12_arms : MethodName := ⟨RX12, "arms", "(I)I"⟩
abbrev cX12_kinds : ByteArray := prog_14_method_61_code
def yX12_kinds : MethodName := ⟨RX12, "kinds", "(I)I"⟩
abbrev cX12_inLeastTerms : ByteArray := prog_14_method_62_code
def yX12_inLeastTerms : MethodName := ⟨RX12, "inLeastTerms", "(JJI)J"⟩
abbrev cX12_odds : ByteArray := prog_14_method_63_code
def yX12_odds : MethodName := ⟨RX12, "odds", "(III)J"⟩
abbrev cX12_sheet : ByteArray := prog_14_method_64_code
def yX12_sheet : MethodName := ⟨RX12, "sheet", "(III)I"⟩
abbrev cX12_lose : ByteArray := prog_14_method_65_code
def yX12_lose : MethodName := ⟨RX12, "lose", "(I)I"⟩
abbrev cX12_put : ByteArray := prog_14_method_66_code
def yX12_put : MethodName := ⟨RX12, "put", "(III)I"⟩
abbrev cX12_cell : ByteArray := prog_14_method_67_code
def yX12_cell : MethodName := ⟨RX12, "cell", "(III)J"⟩
abbrev cX12_copy : ByteArray := prog_14_method_68_code
def yX12_copy : MethodName := ⟨RX12, "copy", "(IIIII)I"⟩
abbrev cX12_begins : ByteArray := prog_14_method_69_code
def yX12_begins : MethodName := ⟨RX12, "begins", "(I)V"⟩
abbrev cX12_tell : ByteArray := prog_14_method_70_code
def yX12_tell : MethodName := ⟨RX12, "tell", "(I)I"⟩
abbrev cX12_cheer : ByteArray := prog_14_method_71_code
def yX12_cheer : MethodName := ⟨RX12, "cheer", "(I)I"⟩
abbrev cX12_as : ByteArray := prog_14_method_72_code
def yX12_as : MethodName := ⟨RX12, "as", "(II)I"⟩
abbrev cX12_trace : ByteArray := prog_14_method_73_code
def yX12_trace : MethodName := ⟨RX12, "trace", "()I"⟩
abbrev cX12_fault : ByteArray := prog_14_method_74_code
def yX12_fault : MethodName := ⟨RX12, "fault", "()I"⟩
abbrev cX12_many : ByteArray := prog_14_method_75_code
def yX12_many : MethodName := ⟨RX12, "many", "(I)I"⟩
def RL : String := "QuoitFeastLaw"
abbrev cL_law : ByteArray := code
def yL_law : MethodName := ⟨RL, "law", "([I)Z"⟩
abbrev vwCl : List vw_C := [(RX0, TX0, 3), (RX1, TX1, 4), (RX2, TX2, 5), (RX3, TX3, 2), (RX4, TX4, 7), (RX5, TX5, 4), (RX6, TX6, 2), (RX7, TX7, 3), (RX8, TX8, 2), (RX9, TX9, 8), (RX10, TX10, 1), (RX11, TX11, 10), (RX12, TX12, 38)]

theorem wx_tbl {w : Cond} (h : w ∈ tables_1) : w ∈ lw_tbl := List.mem_append_right _ h
def WALL : List Cond := lw_tbl.filter goodWord
theorem wx_all {w : Cond} (h : w ∈ tables_1) (g : goodWord w = true) : w ∈ WALL := List.mem_filter.mpr ⟨List.mem_append_right _ h, g⟩
theorem wx_prv {w : Cond} (h : w ∈ k2_sels lw_privs) (g : goodWord w = true) : w ∈ WALL := List.mem_filter.mpr ⟨List.mem_append_left _ h, g⟩
def NWL : List Cond := [Cond.arrayOver (.object RX2), Cond.methodLinkNest RX0 17 yX2_init RX11, Cond.arrayOver (.object RX6), Cond.methodLinkNest RX11 26 yX5_init RX11, Cond.arrayOver (.object RX7), Cond.methodLinkNest RX11 39 yX10_init RX11, Cond.methodLinkNest RX11 46 yX9_init RX11, Cond.methodLinkNest RX11 53 yX1_init RX11, Cond.methodLinkNest RX11 60 yX4_init RX11, Cond.methodLinkNest RX11 65 yX7_init RX11, Cond.methodLinkNest RX9 75 yX11_isWithin RX11, Cond.methodLinkNest RX6 22 yX11_reachOf RX11, Cond.methodLinkNest RX2 42 yX11_nearnessBy RX11, Cond.methodLinkNest RX4 38 yX11_isWithin RX11, Cond.castable RX8 RX3, Cond.castable RX3 RX6, Cond.castable RX8 RX6]
end
section
theorem wz_RL : Cond.initialized RL ∈ WALL := wx_all (List.mem_append_left _ (List.mem_of_getElem? (i := 0) (by rfl))) rfl
theorem wz_RX11 : Cond.initialized RX11 ∈ WALL := wx_all (List.mem_append_left _ (List.mem_of_getElem? (i := 1) (by rfl))) rfl
theorem wz_RX0 : Cond.initialized RX0 ∈ WALL := wx_all (List.mem_append_left _ (List.mem_of_getElem? (i := 2) (by rfl))) rfl
theorem wz_RX2 : Cond.initialized RX2 ∈ WALL := wx_all (List.mem_append_left _ (List.mem_of_getElem? (i := 3) (by rfl))) rfl
theorem wz_RX5 : Cond.initialized RX5 ∈ WALL := wx_all (List.mem_append_left _ (List.mem_of_getElem? (i := 4) (by rfl))) rfl
theorem wz_RX10 : Cond.initialized RX10 ∈ WALL := wx_all (List.mem_append_left _ (List.mem_of_getElem? (i := 5) (by rfl))) rfl
theorem wz_RX9 : Cond.initialized RX9 ∈ WALL := wx_all (List.mem_append_left _ (List.mem_of_getElem? (i := 6) (by rfl))) rfl
theorem wz_RX1 : Cond.initialized RX1 ∈ WALL := wx_all (List.mem_append_left _ (List.mem_of_getElem? (i := 7) (by rfl))) rfl
theorem wz_RX4 : Cond.initialized RX4 ∈ WALL := wx_all (List.mem_append_left _ (List.mem_of_getElem? (i := 8) (by rfl))) rfl
theorem wz_RX7 : Cond.initialized RX7 ∈ WALL := wx_all (List.mem_append_left _ (List.mem_of_getElem? (i := 9) (by rfl))) rfl
theorem wz_RX12 : Cond.initialized RX12 ∈ WALL := wx_all (List.mem_append_left _ (List.mem_of_getElem? (i := 10) (by rfl))) rfl
theorem wz_RX6 : Cond.initialized RX6 ∈ WALL := wx_all (List.mem_append_left _ (List.mem_of_getElem? (i := 11) (by rfl))) rfl
theorem wz_RX3 : Cond.initialized RX3 ∈ WALL := wx_all (List.mem_append_left _ (List.mem_of_getElem? (i := 12) (by rfl))) rfl
theorem wz_RX8 : Cond.initialized RX8 ∈ WALL := wx_all (List.mem_append_left _ (List.mem_of_getElem? (i := 13) (by rfl))) rfl
theorem wl_RL_7_c : Cond.classLink RL 7 RX11 ∈ WALL := wx_all (List.mem_append_left _ (List.mem_of_getElem? (i := 14) (by rfl))) rfl
theorem wk_RX11 : Cond.instantiable RX11 10 ∈ WALL := wx_all (List.mem_append_left _ (List.mem_of_getElem? (i := 15) (by rfl))) rfl
theorem wl_RL_9 : Cond.methodLink RL 9 yX11_init ∈ WALL := wx_all (List.mem_append_left _ (List.mem_of_getElem? (i := 16) (by rfl))) rfl
theorem wi_X11_init : Cond.instanceMethod yX11_init ∈ WALL := wx_all (List.mem_append_left _ (List.mem_of_getElem? (i := 17) (by rfl))) rfl
theorem wc_X11_init : Cond.code yX11_init prog_1_method_1_code 2 (Option.none : Option Jvm.ClassFile.FieldType) ∈ WALL := wx_all (List.mem_append_left _ (List.mem_of_getElem? (i := 18) (by rfl))) rfl
theorem wl_RX11_3 : Cond.methodLink RX11 3 objectInit ∈ WALL := wx_all (List.mem_append_left _ (List.mem_of_getElem? (i := 19) (by rfl))) rfl
theorem wi_Oinit : Cond.instanceMethod objectInit ∈ WALL := wx_all (List.mem_append_left _ (List.mem_of_getElem? (i := 20) (by rfl))) rfl
theorem wc_Oinit : Cond.code objectInit object_method_1_code 1 (Option.none : Option Jvm.ClassFile.FieldType) ∈ WALL := wx_all (List.mem_append_left _ (List.mem_of_getElem? (i := 21) (by rfl))) rfl
theorem wl_RX11_9_c : Cond.classLink RX11 9 RX0 ∈ WALL := wx_all (List.mem_append_left _ (List.mem_of_getElem? (i := 22) (by rfl))) rfl
theorem wk_RX0 : Cond.instantiable RX0 3 ∈ WALL := wx_all (List.mem_append_left _ (List.mem_of_getElem? (i := 23) (by rfl))) rfl
theorem wl_RX11_11 : Cond.methodLink RX11 11 yX0_init ∈ WALL := wx_all (List.mem_append_left _ (List.mem_of_getElem? (i := 24) (by rfl))) rfl
theorem wi_X0_init : Cond.instanceMethod yX0_init ∈ WALL := wx_all (List.mem_append_left _ (List.mem_of_getElem? (i := 25) (by rfl))) rfl
theorem wc_X0_init : Cond.code yX0_init prog_2_method_1_code 2 (Option.none : Option Jvm.ClassFile.FieldType) ∈ WALL := wx_all (List.mem_append_left _ (List.mem_of_getElem? (i := 26) (by rfl))) rfl
theorem wl_RX0_3 : Cond.methodLink RX0 3 objectInit ∈ WALL := wx_all (List.mem_append_left _ (List.mem_of_getElem? (i := 27) (by rfl))) rfl
theorem wl_RX0_9_c : Cond.classLink RX0 9 RX2 ∈ WALL := wx_all (List.mem_append_left _ (List.mem_of_getElem? (i := 28) (by rfl))) rfl
theorem wo_RX2 : Cond.arrayOver (.object RX2) ∈ tables_1 := (List.mem_append_left _ (List.mem_of_getElem? (i := 29) (by rfl)))
theorem wk_RX2 : Cond.instantiable RX2 5 ∈ WALL := wx_all (List.mem_append_left _ (List.mem_of_getElem? (i := 30) (by rfl))) rfl
theorem wn_RX0_17 : Cond.methodLinkNest RX0 17 yX2_init RX11 ∈ tables_1 := (List.mem_append_left _ (List.mem_of_getElem? (i := 31) (by rfl)))
theorem wi_X2_init : Cond.instanceMethod yX2_init ∈ WALL := wx_all (List.mem_append_left _ (List.mem_of_getElem? (i := 32) (by rfl))) rfl
theorem wc_X2_init : Cond.code yX2_init prog_4_method_1_code 1 (Option.none : Option Jvm.ClassFile.FieldType) ∈ WALL := wx_all (List.mem_append_left _ (List.mem_of_getElem? (i := 33) (by rfl))) rfl
theorem wl_RX2_3 : Cond.methodLink RX2 3 objectInit ∈ WALL := wx_all (List.mem_append_left _ (List.mem_of_getElem? (i := 34) (by rfl))) rfl
theorem wl_RX2_18 : Cond.fieldLink RX2 18 RX2 "yards" "I" ∈ WALL := wx_all (List.mem_append_left _ (List.mem_of_getElem? (i := 35) (by rfl))) rfl
theorem wl_RX11_103 : Cond.fieldLink RX11 103 RX2 "yards" "I" ∈ WALL := wx_all (List.mem_append_left _ (List.mem_of_getElem? (i := 36) (by rfl))) rfl
theorem wl_RX2_22 : Cond.fieldLink RX2 22 RX2 "leaning" "I" ∈ WALL := wx_all (List.mem_append_left _ (List.mem_of_getElem? (i := 37) (by rfl))) rfl
theorem wl_RX11_108 : Cond.fieldLink RX11 108 RX2 "leaning" "I" ∈ WALL := wx_all (List.mem_append_left _ (List.mem_of_getElem? (i := 38) (by rfl))) rfl
theorem wl_RX2_25 : Cond.fieldLink RX2 25 RX2 "rings" "I" ∈ WALL := wx_all (List.mem_append_left _ (List.mem_of_getElem? (i := 39) (by rfl))) rfl
theorem wl_RX11_111 : Cond.fieldLink RX11 111 RX2 "rings" "I" ∈ WALL := wx_all (List.mem_append_left _ (List.mem_of_getElem? (i := 40) (by rfl))) rfl
theorem wl_RX1_64 : Cond.fieldLink RX1 64 RX2 "rings" "I" ∈ WALL := wx_all (List.mem_append_left _ (List.mem_of_getElem? (i := 41) (by rfl))) rfl
theorem wl_RX0_49 : Cond.fieldLink RX0 49 RX2 "rings" "I" ∈ WALL := wx_all (List.mem_append_left _ (List.mem_of_getElem? (i := 42) (by rfl))) rfl
theorem wl_RX2_9 : Cond.fieldLink RX2 9 RX2 "thrownBy" "[I" ∈ WALL := wx_all (List.mem_append_left _ (List.mem_of_getElem? (i := 43) (by rfl))) rfl
theorem wl_RX2_15 : Cond.fieldLink RX2 15 RX2 "nears" "[I" ∈ WALL := wx_all (List.mem_append_left _ (List.mem_of_getElem? (i := 44) (by rfl))) rfl
theorem wa_int : Cond.arrayClass .int ∈ WALL := wx_all (List.mem_append_left _ (List.mem_of_getElem? (i := 56) (by rfl))) rfl
theorem wl_RX0_27 : Cond.fieldLink RX0 27 RX0 "frost" "I" ∈ WALL := wx_all (List.mem_append_left _ (List.mem_of_getElem? (i := 57) (by rfl))) rfl
theorem wl_RX1_48 : Cond.fieldLink RX1 48 RX0 "frost" "I" ∈ WALL := wx_all (List.mem_append_left _ (List.mem_of_getElem? (i := 58) (by rfl))) rfl
theorem wl_RX11_147 : Cond.fieldLink RX11 147 RX0 "frost" "I" ∈ WALL := wx_all (List.mem_append_left _ (List.mem_of_getElem? (i := 59) (by rfl))) rfl
theorem wl_RX0_18 : Cond.fieldLink RX0 18 RX0 "girlCount" "I" ∈ WALL := wx_all (List.mem_append_left _ (List.mem_of_getElem? (i := 60) (by rfl))) rfl
theorem wl_RX11_266 : Cond.fieldLink RX11 266 RX0 "girlCount" "I" ∈ WALL := wx_all (List.mem_append_left _ (List.mem_of_getElem? (i := 61) (by rfl))) rfl
theorem wl_RX0_11 : Cond.fieldLink RX0 11 RX0 "girls" "[LQuoitFeast$Girl;" ∈ WALL := wx_all (List.mem_append_left _ (List.mem_of_getElem? (i := 62) (by rfl))) rfl
theorem wl_RX11_18_c : Cond.classLink RX11 18 RX6 ∈ WALL := wx_all (List.mem_append_left _ (List.mem_of_getElem? (i := 70) (by rfl))) rfl
theorem wo_RX6 : Cond.arrayOver (.object RX6) ∈ tables_1 := (List.mem_append_left _ (List.mem_of_getElem? (i := 71) (by rfl)))
theorem wl_RX11_24_c : Cond.classLink RX11 24 RX5 ∈ WALL := wx_all (List.mem_append_left _ (List.mem_of_getElem? (i := 72) (by rfl))) rfl
theorem wk_RX5 : Cond.instantiable RX5 4 ∈ WALL := wx_all (List.mem_append_left _ (List.mem_of_getElem? (i := 73) (by rfl))) rfl
theorem wn_RX11_26 : Cond.methodLinkNest RX11 26 yX5_init RX11 ∈ tables_1 := (List.mem_append_left _ (List.mem_of_getElem? (i := 74) (by rfl)))
theorem wi_X5_init : Cond.instanceMethod yX5_init ∈ WALL := wx_all (List.mem_append_left _ (List.mem_of_getElem? (i := 75) (by rfl))) rfl
theorem wc_X5_init : Cond.code yX5_init prog_7_method_1_code 1 (Option.none : Option Jvm.ClassFile.FieldType) ∈ WALL := wx_all (List.mem_append_left _ (List.mem_of_getElem? (i := 76) (by rfl))) rfl
theorem wl_RX5_3 : Cond.methodLink RX5 3 objectInit ∈ WALL := wx_all (List.mem_append_left _ (List.mem_of_getElem? (i := 77) (by rfl))) rfl
theorem wl_RX5_21 : Cond.fieldLink RX5 21 RX5 "count" "I" ∈ WALL := wx_all (List.mem_append_left _ (List.mem_of_getElem? (i := 78) (by rfl))) rfl
theorem wl_RX11_212 : Cond.fieldLink RX11 212 RX5 "count" "I" ∈ WALL := wx_all (List.mem_append_left _ (List.mem_of_getElem? (i := 79) (by rfl))) rfl
theorem wl_RX5_9 : Cond.fieldLink RX5 9 RX5 "throwersRead" "[I" ∈ WALL := wx_all (List.mem_append_left _ (List.mem_of_getElem? (i := 80) (by rfl))) rfl
theorem wl_RX5_15 : Cond.fieldLink RX5 15 RX5 "girlsRead" "[I" ∈ WALL := wx_all (List.mem_append_left _ (List.mem_of_getElem? (i := 81) (by rfl))) rfl
theorem wl_RX5_18 : Cond.fieldLink RX5 18 RX5 "nears" "[I" ∈ WALL := wx_all (List.mem_append_left _ (List.mem_of_getElem? (i := 82) (by rfl))) rfl
theorem wl_RX11_31_c : Cond.classLink RX11 31 RX7 ∈ WALL := wx_all (List.mem_append_left _ (List.mem_of_getElem? (i := 92) (by rfl))) rfl
theorem wo_RX7 : Cond.arrayOver (.object RX7) ∈ tables_1 := (List.mem_append_left _ (List.mem_of_getElem? (i := 93) (by rfl)))
theorem wl_RX11_37_c : Cond.classLink RX11 37 RX10 ∈ WALL := wx_all (List.mem_append_left _ (List.mem_of_getElem? (i := 94) (by rfl))) rfl
theorem wk_RX10 : Cond.instantiable RX10 1 ∈ WALL := wx_all (List.mem_append_left _ (List.mem_of_getElem? (i := 95) (by rfl))) rfl
theorem wn_RX11_39 : Cond.methodLinkNest RX11 39 yX10_init RX11 ∈ tables_1 := (List.mem_append_left _ (List.mem_of_getElem? (i := 96) (by rfl)))
theorem wi_X10_init : Cond.instanceMethod yX10_init ∈ WALL := wx_all (List.mem_append_left _ (List.mem_of_getElem? (i := 97) (by rfl))) rfl
theorem wc_X10_init : Cond.code yX10_init prog_12_method_1_code 1 (Option.none : Option Jvm.ClassFile.FieldType) ∈ WALL := wx_all (List.mem_append_left _ (List.mem_of_getElem? (i := 98) (by rfl))) rfl
theorem wl_RX10_1 : Cond.methodLink RX10 1 objectInit ∈ WALL := wx_all (List.mem_append_left _ (List.mem_of_getElem? (i := 99) (by rfl))) rfl
theorem wl_RX10_7 : Cond.fieldLink RX10 7 RX10 "left" "I" ∈ WALL := wx_all (List.mem_append_left _ (List.mem_of_getElem? (i := 100) (by rfl))) rfl
theorem wl_RX11_263 : Cond.fieldLink RX11 263 RX10 "left" "I" ∈ WALL := wx_all (List.mem_append_left _ (List.mem_of_getElem? (i := 101) (by rfl))) rfl
theorem wl_RX11_44_c : Cond.classLink RX11 44 RX9 ∈ WALL := wx_all (List.mem_append_left _ (List.mem_of_getElem? (i := 105) (by rfl))) rfl
theorem wk_RX9 : Cond.instantiable RX9 8 ∈ WALL := wx_all (List.mem_append_left _ (List.mem_of_getElem? (i := 106) (by rfl))) rfl
theorem wn_RX11_46 : Cond.methodLinkNest RX11 46 yX9_init RX11 ∈ tables_1 := (List.mem_append_left _ (List.mem_of_getElem? (i := 107) (by rfl)))
theorem wi_X9_init : Cond.instanceMethod yX9_init ∈ WALL := wx_all (List.mem_append_left _ (List.mem_of_getElem? (i := 108) (by rfl))) rfl
theorem wc_X9_init : Cond.code yX9_init prog_11_method_1_code 1 (Option.none : Option Jvm.ClassFile.FieldType) ∈ WALL := wx_all (List.mem_append_left _ (List.mem_of_getElem? (i := 109) (by rfl))) rfl
theorem wl_RX9_3 : Cond.methodLink RX9 3 objectInit ∈ WALL := wx_all (List.mem_append_left _ (List.mem_of_getElem? (i := 110) (by rfl))) rfl
theorem wl_RX9_24 : Cond.fieldLink RX9 24 RX9 "awaited" "I" ∈ WALL := wx_all (List.mem_append_left _ (List.mem_of_getElem? (i := 111) (by rfl))) rfl
theorem wl_RX0_22 : Cond.fieldLink RX0 22 RX9 "frost" "I" ∈ WALL := wx_all (List.mem_append_left _ (List.mem_of_getElem? (i := 112) (by rfl))) rfl
theorem wl_RX9_72 : Cond.fieldLink RX9 72 RX9 "frost" "I" ∈ WALL := wx_all (List.mem_append_left _ (List.mem_of_getElem? (i := 113) (by rfl))) rfl
theorem wl_RX9_28 : Cond.fieldLink RX9 28 RX9 "girls" "I" ∈ WALL := wx_all (List.mem_append_left _ (List.mem_of_getElem? (i := 114) (by rfl))) rfl
theorem wl_RX0_28 : Cond.fieldLink RX0 28 RX9 "girls" "I" ∈ WALL := wx_all (List.mem_append_left _ (List.mem_of_getElem? (i := 115) (by rfl))) rfl
theorem wl_RX9_31 : Cond.fieldLink RX9 31 RX9 "throwers" "I" ∈ WALL := wx_all (List.mem_append_left _ (List.mem_of_getElem? (i := 116) (by rfl))) rfl
theorem wl_RX11_276 : Cond.fieldLink RX11 276 RX9 "throwers" "I" ∈ WALL := wx_all (List.mem_append_left _ (List.mem_of_getElem? (i := 117) (by rfl))) rfl
theorem wl_RX9_9 : Cond.fieldLink RX9 9 RX9 "yards" "[I" ∈ WALL := wx_all (List.mem_append_left _ (List.mem_of_getElem? (i := 118) (by rfl))) rfl
theorem wl_RX9_15 : Cond.fieldLink RX9 15 RX9 "leanings" "[I" ∈ WALL := wx_all (List.mem_append_left _ (List.mem_of_getElem? (i := 119) (by rfl))) rfl
theorem wl_RX9_18 : Cond.fieldLink RX9 18 RX9 "letters" "[I" ∈ WALL := wx_all (List.mem_append_left _ (List.mem_of_getElem? (i := 120) (by rfl))) rfl
theorem wl_RX9_21 : Cond.fieldLink RX9 21 RX9 "armsRead" "[I" ∈ WALL := wx_all (List.mem_append_left _ (List.mem_of_getElem? (i := 121) (by rfl))) rfl
theorem wl_RX11_51_c : Cond.classLink RX11 51 RX1 ∈ WALL := wx_all (List.mem_append_left _ (List.mem_of_getElem? (i := 139) (by rfl))) rfl
theorem wk_RX1 : Cond.instantiable RX1 4 ∈ WALL := wx_all (List.mem_append_left _ (List.mem_of_getElem? (i := 140) (by rfl))) rfl
theorem wn_RX11_53 : Cond.methodLinkNest RX11 53 yX1_init RX11 ∈ tables_1 := (List.mem_append_left _ (List.mem_of_getElem? (i := 141) (by rfl)))
theorem wi_X1_init : Cond.instanceMethod yX1_init ∈ WALL := wx_all (List.mem_append_left _ (List.mem_of_getElem? (i := 142) (by rfl))) rfl
theorem wc_X1_init : Cond.code yX1_init prog_3_method_1_code 1 (Option.none : Option Jvm.ClassFile.FieldType) ∈ WALL := wx_all (List.mem_append_left _ (List.mem_of_getElem? (i := 143) (by rfl))) rfl
theorem wl_RX1_3 : Cond.methodLink RX1 3 objectInit ∈ WALL := wx_all (List.mem_append_left _ (List.mem_of_getElem? (i := 144) (by rfl))) rfl
theorem wl_RX1_9_c : Cond.classLink RX1 9 RX0 ∈ WALL := wx_all (List.mem_append_left _ (List.mem_of_getElem? (i := 145) (by rfl))) rfl
theorem wl_RX1_11 : Cond.methodLink RX1 11 yX0_init ∈ WALL := wx_all (List.mem_append_left _ (List.mem_of_getElem? (i := 146) (by rfl))) rfl
theorem wl_RX1_12 : Cond.fieldLink RX1 12 RX1 "clay" "LQuoitFeast$Clay;" ∈ WALL := wx_all (List.mem_append_left _ (List.mem_of_getElem? (i := 147) (by rfl))) rfl
theorem wl_RX11_309 : Cond.fieldLink RX11 309 RX1 "clay" "LQuoitFeast$Clay;" ∈ WALL := wx_all (List.mem_append_left _ (List.mem_of_getElem? (i := 148) (by rfl))) rfl
theorem wl_RX1_22 : Cond.fieldLink RX1 22 RX1 "firstWrong" "I" ∈ WALL := wx_all (List.mem_append_left _ (List.mem_of_getElem? (i := 149) (by rfl))) rfl
theorem wl_RX11_303 : Cond.fieldLink RX11 303 RX1 "firstWrong" "I" ∈ WALL := wx_all (List.mem_append_left _ (List.mem_of_getElem? (i := 150) (by rfl))) rfl
theorem wl_RX1_26 : Cond.fieldLink RX1 26 RX1 "ringers" "I" ∈ WALL := wx_all (List.mem_append_left _ (List.mem_of_getElem? (i := 151) (by rfl))) rfl
theorem wl_RX1_29 : Cond.fieldLink RX1 29 RX1 "topping" "I" ∈ WALL := wx_all (List.mem_append_left _ (List.mem_of_getElem? (i := 152) (by rfl))) rfl
theorem wl_RX11_58_c : Cond.classLink RX11 58 RX4 ∈ WALL := wx_all (List.mem_append_left _ (List.mem_of_getElem? (i := 162) (by rfl))) rfl
theorem wk_RX4 : Cond.instantiable RX4 7 ∈ WALL := wx_all (List.mem_append_left _ (List.mem_of_getElem? (i := 163) (by rfl))) rfl
theorem wn_RX11_60 : Cond.methodLinkNest RX11 60 yX4_init RX11 ∈ tables_1 := (List.mem_append_left _ (List.mem_of_getElem? (i := 164) (by rfl)))
theorem wi_X4_init : Cond.instanceMethod yX4_init ∈ WALL := wx_all (List.mem_append_left _ (List.mem_of_getElem? (i := 165) (by rfl))) rfl
theorem wc_X4_init : Cond.code yX4_init prog_6_method_1_code 1 (Option.none : Option Jvm.ClassFile.FieldType) ∈ WALL := wx_all (List.mem_append_left _ (List.mem_of_getElem? (i := 166) (by rfl))) rfl
theorem wl_RX4_3 : Cond.methodLink RX4 3 objectInit ∈ WALL := wx_all (List.mem_append_left _ (List.mem_of_getElem? (i := 167) (by rfl))) rfl
theorem wl_RX4_27 : Cond.fieldLink RX4 27 RX4 "throwers" "I" ∈ WALL := wx_all (List.mem_append_left _ (List.mem_of_getElem? (i := 168) (by rfl))) rfl
theorem wl_RX4_31 : Cond.fieldLink RX4 31 RX4 "girls" "I" ∈ WALL := wx_all (List.mem_append_left _ (List.mem_of_getElem? (i := 169) (by rfl))) rfl
theorem wl_RX4_9 : Cond.fieldLink RX4 9 RX4 "nears" "[I" ∈ WALL := wx_all (List.mem_append_left _ (List.mem_of_getElem? (i := 170) (by rfl))) rfl
theorem wl_RX4_15 : Cond.fieldLink RX4 15 RX4 "winSets" "[I" ∈ WALL := wx_all (List.mem_append_left _ (List.mem_of_getElem? (i := 171) (by rfl))) rfl
theorem wl_RX4_18 : Cond.fieldLink RX4 18 RX4 "girlsGiven" "[I" ∈ WALL := wx_all (List.mem_append_left _ (List.mem_of_getElem? (i := 172) (by rfl))) rfl
theorem wl_RX4_21 : Cond.fieldLink RX4 21 RX4 "refusedBy" "[I" ∈ WALL := wx_all (List.mem_append_left _ (List.mem_of_getElem? (i := 173) (by rfl))) rfl
theorem wl_RX4_24 : Cond.fieldLink RX4 24 RX4 "worths" "[I" ∈ WALL := wx_all (List.mem_append_left _ (List.mem_of_getElem? (i := 174) (by rfl))) rfl
theorem wk_RX7 : Cond.instantiable RX7 3 ∈ WALL := wx_all (List.mem_append_left _ (List.mem_of_getElem? (i := 190) (by rfl))) rfl
theorem wn_RX11_65 : Cond.methodLinkNest RX11 65 yX7_init RX11 ∈ tables_1 := (List.mem_append_left _ (List.mem_of_getElem? (i := 191) (by rfl)))
theorem wi_X7_init : Cond.instanceMethod yX7_init ∈ WALL := wx_all (List.mem_append_left _ (List.mem_of_getElem? (i := 192) (by rfl))) rfl
theorem wc_X7_init : Cond.code yX7_init prog_9_method_1_code 1 (Option.none : Option Jvm.ClassFile.FieldType) ∈ WALL := wx_all (List.mem_append_left _ (List.mem_of_getElem? (i := 193) (by rfl))) rfl
theorem wl_RX7_3 : Cond.methodLink RX7 3 objectInit ∈ WALL := wx_all (List.mem_append_left _ (List.mem_of_getElem? (i := 194) (by rfl))) rfl
theorem wl_RX7_11 : Cond.fieldLink RX7 11 RX7 "lane" "I" ∈ WALL := wx_all (List.mem_append_left _ (List.mem_of_getElem? (i := 195) (by rfl))) rfl
theorem wl_RX11_245 : Cond.fieldLink RX11 245 RX7 "lane" "I" ∈ WALL := wx_all (List.mem_append_left _ (List.mem_of_getElem? (i := 196) (by rfl))) rfl
theorem wl_RX7_19 : Cond.fieldLink RX7 19 RX7 "length" "I" ∈ WALL := wx_all (List.mem_append_left _ (List.mem_of_getElem? (i := 197) (by rfl))) rfl
theorem wl_RX7_15 : Cond.fieldLink RX7 15 RX7 "cells" "[I" ∈ WALL := wx_all (List.mem_append_left _ (List.mem_of_getElem? (i := 198) (by rfl))) rfl
theorem wl_RX11_12 : Cond.fieldLink RX11 12 RX11 "clay" "LQuoitFeast$Clay;" ∈ WALL := wx_all (List.mem_append_left _ (List.mem_of_getElem? (i := 206) (by rfl))) rfl
theorem wl_RX11_20 : Cond.fieldLink RX11 20 RX11 "throwers" "[LQuoitFeast$Right;" ∈ WALL := wx_all (List.mem_append_left _ (List.mem_of_getElem? (i := 207) (by rfl))) rfl
theorem wl_RX11_27 : Cond.fieldLink RX11 27 RX11 "readings" "LQuoitFeast$Readings;" ∈ WALL := wx_all (List.mem_append_left _ (List.mem_of_getElem? (i := 208) (by rfl))) rfl
theorem wl_RX11_33 : Cond.fieldLink RX11 33 RX11 "sheets" "[LQuoitFeast$Sheet;" ∈ WALL := wx_all (List.mem_append_left _ (List.mem_of_getElem? (i := 209) (by rfl))) rfl
theorem wl_RX11_40 : Cond.fieldLink RX11 40 RX11 "steps" "LQuoitFeast$Trace;" ∈ WALL := wx_all (List.mem_append_left _ (List.mem_of_getElem? (i := 210) (by rfl))) rfl
theorem wl_RX11_47 : Cond.fieldLink RX11 47 RX11 "text" "LQuoitFeast$Text;" ∈ WALL := wx_all (List.mem_append_left _ (List.mem_of_getElem? (i := 211) (by rfl))) rfl
theorem wl_RX11_54 : Cond.fieldLink RX11 54 RX11 "told" "LQuoitFeast$Feast;" ∈ WALL := wx_all (List.mem_append_left _ (List.mem_of_getElem? (i := 212) (by rfl))) rfl
theorem wl_RX11_61 : Cond.fieldLink RX11 61 RX11 "pairing" "LQuoitFeast$Pairing;" ∈ WALL := wx_all (List.mem_append_left _ (List.mem_of_getElem? (i := 213) (by rfl))) rfl
theorem wl_RX11_96 : Cond.fieldLink RX11 96 RX11 "throwerCount" "I" ∈ WALL := wx_all (List.mem_append_left _ (List.mem_of_getElem? (i := 214) (by rfl))) rfl
theorem wl_RX11_66 : Cond.fieldLink RX11 66 RX11 "lastFault" "I" ∈ WALL := wx_all (List.mem_append_left _ (List.mem_of_getElem? (i := 215) (by rfl))) rfl
theorem wl_RL_13 : Cond.methodLink RL 13 yX11_dale ∈ WALL := wx_all (List.mem_append_left _ (List.mem_of_getElem? (i := 237) (by rfl))) rfl
theorem wi_X11_dale : Cond.instanceMethod yX11_dale ∈ WALL := wx_all (List.mem_append_left _ (List.mem_of_getElem? (i := 238) (by rfl))) rfl
theorem ws_RX11_X11_dale : Cond.selects RX11 yX11_dale yX11_dale ∈ WALL := wx_all (List.mem_append_left _ (List.mem_of_getElem? (i := 239) (by rfl))) rfl
theorem wc_X11_dale : Cond.code yX11_dale prog_1_method_2_code 8 (Option.some Jvm.ClassFile.FieldType.int) ∈ WALL := wx_all (List.mem_append_right _ (List.mem_append_left _ (List.mem_of_getElem? (i := 0) (by rfl)))) rfl
theorem wl_RX11_70 : Cond.methodLink RX11 70 yX11_sheetOf ∈ WALL := wx_all (List.mem_append_right _ (List.mem_append_left _ (List.mem_of_getElem? (i := 1) (by rfl)))) rfl
theorem wi_X11_sheetOf : Cond.instanceMethod yX11_sheetOf ∈ WALL := wx_all (List.mem_append_right _ (List.mem_append_left _ (List.mem_of_getElem? (i := 3) (by rfl)))) rfl
theorem wc_X11_sheetOf : Cond.code yX11_sheetOf prog_1_method_35_code 2 (Option.some (Jvm.ClassFile.FieldType.object "QuoitFeast$Sheet")) ∈ WALL := wx_all (List.mem_append_right _ (List.mem_append_left _ (List.mem_of_getElem? (i := 4) (by rfl)))) rfl
theorem wl_RX11_74 : Cond.methodLink RX11 74 yX11_isLane ∈ WALL := wx_all (List.mem_append_right _ (List.mem_append_left _ (List.mem_of_getElem? (i := 5) (by rfl)))) rfl
theorem wt_X11_isLane : Cond.static yX11_isLane ∈ WALL := wx_all (List.mem_append_right _ (List.mem_append_left _ (List.mem_of_getElem? (i := 6) (by rfl)))) rfl
theorem wc_X11_isLane : Cond.code yX11_isLane prog_1_method_41_code 1 (Option.some Jvm.ClassFile.FieldType.boolean) ∈ WALL := wx_all (List.mem_append_right _ (List.mem_append_left _ (List.mem_of_getElem? (i := 7) (by rfl)))) rfl
theorem wl_RX11_143 : Cond.methodLink RX11 143 yX11_isWithin ∈ WALL := wx_all (List.mem_append_right _ (List.mem_append_left _ (List.mem_of_getElem? (i := 8) (by rfl)))) rfl
theorem wt_X11_isWithin : Cond.static yX11_isWithin ∈ WALL := wx_all (List.mem_append_right _ (List.mem_append_left _ (List.mem_of_getElem? (i := 9) (by rfl)))) rfl
theorem wc_X11_isWithin : Cond.code yX11_isWithin prog_1_method_42_code 3 (Option.some Jvm.ClassFile.FieldType.boolean) ∈ WALL := wx_all (List.mem_append_right _ (List.mem_append_left _ (List.mem_of_getElem? (i := 10) (by rfl)))) rfl
theorem wl_RX11_78 : Cond.methodLink RX11 78 yX7_faultAs ∈ WALL := wx_all (List.mem_append_right _ (List.mem_append_left _ (List.mem_of_getElem? (i := 11) (by rfl)))) rfl
theorem wi_X7_faultAs : Cond.instanceMethod yX7_faultAs ∈ WALL := wx_all (List.mem_append_right _ (List.mem_append_left _ (List.mem_of_getElem? (i := 12) (by rfl)))) rfl
theorem ws_RX7_X7_faultAs : Cond.selects RX7 yX7_faultAs yX7_faultAs ∈ WALL := wx_all (List.mem_append_right _ (List.mem_append_left _ (List.mem_of_getElem? (i := 13) (by rfl)))) rfl
theorem wc_X7_faultAs : Cond.code yX7_faultAs prog_9_method_5_code 2 (Option.some Jvm.ClassFile.FieldType.int) ∈ WALL := wx_all (List.mem_append_right _ (List.mem_append_left _ (List.mem_of_getElem? (i := 14) (by rfl)))) rfl
theorem wl_RX7_22 : Cond.methodLink RX7 22 yX7_hasNothing ∈ WALL := wx_all (List.mem_append_right _ (List.mem_append_left _ (List.mem_of_getElem? (i := 15) (by rfl)))) rfl
theorem wi_X7_hasNothing : Cond.instanceMethod yX7_hasNothing ∈ WALL := wx_all (List.mem_append_right _ (List.mem_append_left _ (List.mem_of_getElem? (i := 16) (by rfl)))) rfl
theorem ws_RX7_X7_hasNothing : Cond.selects RX7 yX7_hasNothing yX7_hasNothing ∈ WALL := wx_all (List.mem_append_right _ (List.mem_append_left _ (List.mem_of_getElem? (i := 17) (by rfl)))) rfl
theorem wc_X7_hasNothing : Cond.code yX7_hasNothing prog_9_method_2_code 1 (Option.some Jvm.ClassFile.FieldType.boolean) ∈ WALL := wx_all (List.mem_append_right _ (List.mem_append_left _ (List.mem_of_getElem? (i := 18) (by rfl)))) rfl
theorem wl_RX11_82 : Cond.methodLink RX11 82 yX7_reaches ∈ WALL := wx_all (List.mem_append_right _ (List.mem_append_left _ (List.mem_of_getElem? (i := 19) (by rfl)))) rfl
theorem wi_X7_reaches : Cond.instanceMethod yX7_reaches ∈ WALL := wx_all (List.mem_append_right _ (List.mem_append_left _ (List.mem_of_getElem? (i := 20) (by rfl)))) rfl
theorem ws_RX7_X7_reaches : Cond.selects RX7 yX7_reaches yX7_reaches ∈ WALL := wx_all (List.mem_append_right _ (List.mem_append_left _ (List.mem_of_getElem? (i := 21) (by rfl)))) rfl
theorem wc_X7_reaches : Cond.code yX7_reaches prog_9_method_7_code 3 (Option.some Jvm.ClassFile.FieldType.boolean) ∈ WALL := wx_all (List.mem_append_right _ (List.mem_append_left _ (List.mem_of_getElem? (i := 22) (by rfl)))) rfl
theorem wl_RX11_86 : Cond.methodLink RX11 86 yX11_comeTo ∈ WALL := wx_all (List.mem_append_right _ (List.mem_append_left _ (List.mem_of_getElem? (i := 23) (by rfl)))) rfl
theorem wi_X11_comeTo : Cond.instanceMethod yX11_comeTo ∈ WALL := wx_all (List.mem_append_right _ (List.mem_append_left _ (List.mem_of_getElem? (i := 25) (by rfl)))) rfl
theorem wc_X11_comeTo : Cond.code yX11_comeTo prog_1_method_37_code 2 (Option.some Jvm.ClassFile.FieldType.int) ∈ WALL := wx_all (List.mem_append_right _ (List.mem_append_left _ (List.mem_of_getElem? (i := 26) (by rfl)))) rfl
theorem wl_RX11_89 : Cond.methodLink RX11 89 yX9_firstFault ∈ WALL := wx_all (List.mem_append_right _ (List.mem_append_left _ (List.mem_of_getElem? (i := 27) (by rfl)))) rfl
theorem wi_X9_firstFault : Cond.instanceMethod yX9_firstFault ∈ WALL := wx_all (List.mem_append_right _ (List.mem_append_left _ (List.mem_of_getElem? (i := 28) (by rfl)))) rfl
theorem ws_RX9_X9_firstFault : Cond.selects RX9 yX9_firstFault yX9_firstFault ∈ WALL := wx_all (List.mem_append_right _ (List.mem_append_left _ (List.mem_of_getElem? (i := 29) (by rfl)))) rfl
theorem wc_X9_firstFault : Cond.code yX9_firstFault prog_11_method_2_code 5 (Option.some Jvm.ClassFile.FieldType.int) ∈ WALL := wx_all (List.mem_append_right _ (List.mem_append_left _ (List.mem_of_getElem? (i := 30) (by rfl)))) rfl
theorem wl_RX9_34 : Cond.methodLink RX9 34 yX7_at ∈ WALL := wx_all (List.mem_append_right _ (List.mem_append_left _ (List.mem_of_getElem? (i := 31) (by rfl)))) rfl
theorem wi_X7_at : Cond.instanceMethod yX7_at ∈ WALL := wx_all (List.mem_append_right _ (List.mem_append_left _ (List.mem_of_getElem? (i := 32) (by rfl)))) rfl
theorem ws_RX7_X7_at : Cond.selects RX7 yX7_at yX7_at ∈ WALL := wx_all (List.mem_append_right _ (List.mem_append_left _ (List.mem_of_getElem? (i := 33) (by rfl)))) rfl
theorem wc_X7_at : Cond.code yX7_at prog_9_method_8_code 2 (Option.some Jvm.ClassFile.FieldType.int) ∈ WALL := wx_all (List.mem_append_right _ (List.mem_append_left _ (List.mem_of_getElem? (i := 34) (by rfl)))) rfl
theorem wl_RX7_26 : Cond.methodLink RX7 26 yX7_hasCell ∈ WALL := wx_all (List.mem_append_right _ (List.mem_append_left _ (List.mem_of_getElem? (i := 35) (by rfl)))) rfl
theorem wi_X7_hasCell : Cond.instanceMethod yX7_hasCell ∈ WALL := wx_all (List.mem_append_right _ (List.mem_append_left _ (List.mem_of_getElem? (i := 36) (by rfl)))) rfl
theorem ws_RX7_X7_hasCell : Cond.selects RX7 yX7_hasCell yX7_hasCell ∈ WALL := wx_all (List.mem_append_right _ (List.mem_append_left _ (List.mem_of_getElem? (i := 37) (by rfl)))) rfl
theorem wc_X7_hasCell : Cond.code yX7_hasCell prog_9_method_6_code 2 (Option.some Jvm.ClassFile.FieldType.boolean) ∈ WALL := wx_all (List.mem_append_right _ (List.mem_append_left _ (List.mem_of_getElem? (i := 38) (by rfl)))) rfl
theorem wl_RX9_40 : Cond.methodLink RX9 40 yX9_goesOnWith ∈ WALL := wx_all (List.mem_append_right _ (List.mem_append_left _ (List.mem_of_getElem? (i := 39) (by rfl)))) rfl
theorem wi_X9_goesOnWith : Cond.instanceMethod yX9_goesOnWith ∈ WALL := wx_all (List.mem_append_right _ (List.mem_append_left _ (List.mem_of_getElem? (i := 40) (by rfl)))) rfl
theorem ws_RX9_X9_goesOnWith : Cond.selects RX9 yX9_goesOnWith yX9_goesOnWith ∈ WALL := wx_all (List.mem_append_right _ (List.mem_append_left _ (List.mem_of_getElem? (i := 41) (by rfl)))) rfl
theorem wc_X9_goesOnWith : Cond.code yX9_goesOnWith prog_11_method_3_code 2 (Option.some Jvm.ClassFile.FieldType.boolean) ∈ WALL := wx_all (List.mem_append_right _ (List.mem_append_left _ (List.mem_of_getElem? (i := 42) (by rfl)))) rfl
theorem wl_RX9_44 : Cond.methodLink RX9 44 yX9_thenAwait ∈ WALL := wx_all (List.mem_append_right _ (List.mem_append_left _ (List.mem_of_getElem? (i := 43) (by rfl)))) rfl
theorem wi_X9_thenAwait : Cond.instanceMethod yX9_thenAwait ∈ WALL := wx_all (List.mem_append_right _ (List.mem_append_left _ (List.mem_of_getElem? (i := 44) (by rfl)))) rfl
theorem ws_RX9_X9_thenAwait : Cond.selects RX9 yX9_thenAwait yX9_thenAwait ∈ WALL := wx_all (List.mem_append_right _ (List.mem_append_left _ (List.mem_of_getElem? (i := 45) (by rfl)))) rfl
theorem wc_X9_thenAwait : Cond.code yX9_thenAwait prog_11_method_4_code 3 (Option.some Jvm.ClassFile.FieldType.boolean) ∈ WALL := wx_all (List.mem_append_right _ (List.mem_append_left _ (List.mem_of_getElem? (i := 46) (by rfl)))) rfl
theorem wl_RX9_48 : Cond.methodLink RX9 48 yX9_digit ∈ WALL := wx_all (List.mem_append_right _ (List.mem_append_left _ (List.mem_of_getElem? (i := 47) (by rfl)))) rfl
theorem wt_X9_digit : Cond.static yX9_digit ∈ WALL := wx_all (List.mem_append_right _ (List.mem_append_left _ (List.mem_of_getElem? (i := 48) (by rfl)))) rfl
theorem wc_X9_digit : Cond.code yX9_digit prog_11_method_11_code 1 (Option.some Jvm.ClassFile.FieldType.int) ∈ WALL := wx_all (List.mem_append_right _ (List.mem_append_left _ (List.mem_of_getElem? (i := 49) (by rfl)))) rfl
theorem wl_RX9_51 : Cond.methodLink RX9 51 yX9_takesFrost ∈ WALL := wx_all (List.mem_append_right _ (List.mem_append_left _ (List.mem_of_getElem? (i := 50) (by rfl)))) rfl
theorem wi_X9_takesFrost : Cond.instanceMethod yX9_takesFrost ∈ WALL := wx_all (List.mem_append_right _ (List.mem_append_left _ (List.mem_of_getElem? (i := 51) (by rfl)))) rfl
theorem ws_RX9_X9_takesFrost : Cond.selects RX9 yX9_takesFrost yX9_takesFrost ∈ WALL := wx_all (List.mem_append_right _ (List.mem_append_left _ (List.mem_of_getElem? (i := 52) (by rfl)))) rfl
theorem wc_X9_takesFrost : Cond.code yX9_takesFrost prog_11_method_5_code 2 (Option.some Jvm.ClassFile.FieldType.boolean) ∈ WALL := wx_all (List.mem_append_right _ (List.mem_append_left _ (List.mem_of_getElem? (i := 53) (by rfl)))) rfl
theorem wn_RX9_75 : Cond.methodLinkNest RX9 75 yX11_isWithin RX11 ∈ tables_1 := (List.mem_append_right _ (List.mem_append_left _ (List.mem_of_getElem? (i := 54) (by rfl))))
theorem wl_RX9_54 : Cond.methodLink RX9 54 yX9_takesMark ∈ WALL := wx_all (List.mem_append_right _ (List.mem_append_left _ (List.mem_of_getElem? (i := 55) (by rfl)))) rfl
theorem wi_X9_takesMark : Cond.instanceMethod yX9_takesMark ∈ WALL := wx_all (List.mem_append_right _ (List.mem_append_left _ (List.mem_of_getElem? (i := 56) (by rfl)))) rfl
theorem ws_RX9_X9_takesMark : Cond.selects RX9 yX9_takesMark yX9_takesMark ∈ WALL := wx_all (List.mem_append_right _ (List.mem_append_left _ (List.mem_of_getElem? (i := 57) (by rfl)))) rfl
theorem wc_X9_takesMark : Cond.code yX9_takesMark prog_11_method_6_code 2 (Option.some Jvm.ClassFile.FieldType.boolean) ∈ WALL := wx_all (List.mem_append_right _ (List.mem_append_left _ (List.mem_of_getElem? (i := 58) (by rfl)))) rfl
theorem wl_RX9_57 : Cond.methodLink RX9 57 yX9_takesYards ∈ WALL := wx_all (List.mem_append_right _ (List.mem_append_left _ (List.mem_of_getElem? (i := 59) (by rfl)))) rfl
theorem wi_X9_takesYards : Cond.instanceMethod yX9_takesYards ∈ WALL := wx_all (List.mem_append_right _ (List.mem_append_left _ (List.mem_of_getElem? (i := 60) (by rfl)))) rfl
theorem ws_RX9_X9_takesYards : Cond.selects RX9 yX9_takesYards yX9_takesYards ∈ WALL := wx_all (List.mem_append_right _ (List.mem_append_left _ (List.mem_of_getElem? (i := 61) (by rfl)))) rfl
theorem wc_X9_takesYards : Cond.code yX9_takesYards prog_11_method_7_code 2 (Option.some Jvm.ClassFile.FieldType.boolean) ∈ WALL := wx_all (List.mem_append_right _ (List.mem_append_left _ (List.mem_of_getElem? (i := 62) (by rfl)))) rfl
theorem wl_RX9_60 : Cond.methodLink RX9 60 yX9_takesLeaning ∈ WALL := wx_all (List.mem_append_right _ (List.mem_append_left _ (List.mem_of_getElem? (i := 63) (by rfl)))) rfl
theorem wi_X9_takesLeaning : Cond.instanceMethod yX9_takesLeaning ∈ WALL := wx_all (List.mem_append_right _ (List.mem_append_left _ (List.mem_of_getElem? (i := 64) (by rfl)))) rfl
theorem ws_RX9_X9_takesLeaning : Cond.selects RX9 yX9_takesLeaning yX9_takesLeaning ∈ WALL := wx_all (List.mem_append_right _ (List.mem_append_left _ (List.mem_of_getElem? (i := 65) (by rfl)))) rfl
theorem wc_X9_takesLeaning : Cond.code yX9_takesLeaning prog_11_method_8_code 2 (Option.some Jvm.ClassFile.FieldType.boolean) ∈ WALL := wx_all (List.mem_append_right _ (List.mem_append_left _ (List.mem_of_getElem? (i := 66) (by rfl)))) rfl
theorem wl_RX9_63 : Cond.methodLink RX9 63 yX9_kindBy ∈ WALL := wx_all (List.mem_append_right _ (List.mem_append_left _ (List.mem_of_getElem? (i := 67) (by rfl)))) rfl
theorem wt_X9_kindBy : Cond.static yX9_kindBy ∈ WALL := wx_all (List.mem_append_right _ (List.mem_append_left _ (List.mem_of_getElem? (i := 68) (by rfl)))) rfl
theorem wc_X9_kindBy : Cond.code yX9_kindBy prog_11_method_12_code 1 (Option.some Jvm.ClassFile.FieldType.int) ∈ WALL := wx_all (List.mem_append_right _ (List.mem_append_left _ (List.mem_of_getElem? (i := 69) (by rfl)))) rfl
theorem wl_RX9_66 : Cond.methodLink RX9 66 yX9_takesLetter ∈ WALL := wx_all (List.mem_append_right _ (List.mem_append_left _ (List.mem_of_getElem? (i := 70) (by rfl)))) rfl
theorem wi_X9_takesLetter : Cond.instanceMethod yX9_takesLetter ∈ WALL := wx_all (List.mem_append_right _ (List.mem_append_left _ (List.mem_of_getElem? (i := 71) (by rfl)))) rfl
theorem ws_RX9_X9_takesLetter : Cond.selects RX9 yX9_takesLetter yX9_takesLetter ∈ WALL := wx_all (List.mem_append_right _ (List.mem_append_left _ (List.mem_of_getElem? (i := 72) (by rfl)))) rfl
theorem wc_X9_takesLetter : Cond.code yX9_takesLetter prog_11_method_9_code 2 (Option.some Jvm.ClassFile.FieldType.boolean) ∈ WALL := wx_all (List.mem_append_right _ (List.mem_append_left _ (List.mem_of_getElem? (i := 73) (by rfl)))) rfl
theorem wl_RX9_69 : Cond.methodLink RX9 69 yX9_takesArm ∈ WALL := wx_all (List.mem_append_right _ (List.mem_append_left _ (List.mem_of_getElem? (i := 74) (by rfl)))) rfl
theorem wi_X9_takesArm : Cond.instanceMethod yX9_takesArm ∈ WALL := wx_all (List.mem_append_right _ (List.mem_append_left _ (List.mem_of_getElem? (i := 75) (by rfl)))) rfl
theorem ws_RX9_X9_takesArm : Cond.selects RX9 yX9_takesArm yX9_takesArm ∈ WALL := wx_all (List.mem_append_right _ (List.mem_append_left _ (List.mem_of_getElem? (i := 76) (by rfl)))) rfl
theorem wc_X9_takesArm : Cond.code yX9_takesArm prog_11_method_10_code 2 (Option.some Jvm.ClassFile.FieldType.boolean) ∈ WALL := wx_all (List.mem_append_right _ (List.mem_append_left _ (List.mem_of_getElem? (i := 77) (by rfl)))) rfl
theorem wl_RX11_93 : Cond.methodLink RX11 93 yX11_makeAnew ∈ WALL := wx_all (List.mem_append_right _ (List.mem_append_left _ (List.mem_of_getElem? (i := 78) (by rfl)))) rfl
theorem wi_X11_makeAnew : Cond.instanceMethod yX11_makeAnew ∈ WALL := wx_all (List.mem_append_right _ (List.mem_append_left _ (List.mem_of_getElem? (i := 80) (by rfl)))) rfl
theorem wc_X11_makeAnew : Cond.code yX11_makeAnew prog_1_method_38_code 2 (Option.none : Option Jvm.ClassFile.FieldType) ∈ WALL := wx_all (List.mem_append_right _ (List.mem_append_left _ (List.mem_of_getElem? (i := 81) (by rfl)))) rfl
theorem wl_RX11_272 : Cond.methodLink RX11 272 yX0_standAs ∈ WALL := wx_all (List.mem_append_right _ (List.mem_append_left _ (List.mem_of_getElem? (i := 82) (by rfl)))) rfl
theorem wi_X0_standAs : Cond.instanceMethod yX0_standAs ∈ WALL := wx_all (List.mem_append_right _ (List.mem_append_left _ (List.mem_of_getElem? (i := 83) (by rfl)))) rfl
theorem ws_RX0_X0_standAs : Cond.selects RX0 yX0_standAs yX0_standAs ∈ WALL := wx_all (List.mem_append_right _ (List.mem_append_left _ (List.mem_of_getElem? (i := 84) (by rfl)))) rfl
theorem wc_X0_standAs : Cond.code yX0_standAs prog_2_method_3_code 4 (Option.none : Option Jvm.ClassFile.FieldType) ∈ WALL := wx_all (List.mem_append_right _ (List.mem_append_left _ (List.mem_of_getElem? (i := 85) (by rfl)))) rfl
theorem wl_RX0_30 : Cond.methodLink RX0 30 yX0_girlAt ∈ WALL := wx_all (List.mem_append_right _ (List.mem_append_left _ (List.mem_of_getElem? (i := 86) (by rfl)))) rfl
theorem wi_X0_girlAt : Cond.instanceMethod yX0_girlAt ∈ WALL := wx_all (List.mem_append_right _ (List.mem_append_left _ (List.mem_of_getElem? (i := 87) (by rfl)))) rfl
theorem ws_RX0_X0_girlAt : Cond.selects RX0 yX0_girlAt yX0_girlAt ∈ WALL := wx_all (List.mem_append_right _ (List.mem_append_left _ (List.mem_of_getElem? (i := 88) (by rfl)))) rfl
theorem wc_X0_girlAt : Cond.code yX0_girlAt prog_2_method_2_code 2 (Option.some (Jvm.ClassFile.FieldType.object "QuoitFeast$Girl")) ∈ WALL := wx_all (List.mem_append_right _ (List.mem_append_left _ (List.mem_of_getElem? (i := 89) (by rfl)))) rfl
theorem wl_RX0_34 : Cond.methodLink RX0 34 yX9_yardsAt ∈ WALL := wx_all (List.mem_append_right _ (List.mem_append_left _ (List.mem_of_getElem? (i := 90) (by rfl)))) rfl
theorem wi_X9_yardsAt : Cond.instanceMethod yX9_yardsAt ∈ WALL := wx_all (List.mem_append_right _ (List.mem_append_left _ (List.mem_of_getElem? (i := 91) (by rfl)))) rfl
theorem ws_RX9_X9_yardsAt : Cond.selects RX9 yX9_yardsAt yX9_yardsAt ∈ WALL := wx_all (List.mem_append_right _ (List.mem_append_left _ (List.mem_of_getElem? (i := 92) (by rfl)))) rfl
theorem wc_X9_yardsAt : Cond.code yX9_yardsAt prog_11_method_13_code 2 (Option.some Jvm.ClassFile.FieldType.int) ∈ WALL := wx_all (List.mem_append_right _ (List.mem_append_left _ (List.mem_of_getElem? (i := 93) (by rfl)))) rfl
theorem wl_RX0_38 : Cond.methodLink RX0 38 yX9_leaningAt ∈ WALL := wx_all (List.mem_append_right _ (List.mem_append_left _ (List.mem_of_getElem? (i := 94) (by rfl)))) rfl
theorem wi_X9_leaningAt : Cond.instanceMethod yX9_leaningAt ∈ WALL := wx_all (List.mem_append_right _ (List.mem_append_left _ (List.mem_of_getElem? (i := 95) (by rfl)))) rfl
theorem ws_RX9_X9_leaningAt : Cond.selects RX9 yX9_leaningAt yX9_leaningAt ∈ WALL := wx_all (List.mem_append_right _ (List.mem_append_left _ (List.mem_of_getElem? (i := 96) (by rfl)))) rfl
theorem wc_X9_leaningAt : Cond.code yX9_leaningAt prog_11_method_14_code 2 (Option.some Jvm.ClassFile.FieldType.int) ∈ WALL := wx_all (List.mem_append_right _ (List.mem_append_left _ (List.mem_of_getElem? (i := 97) (by rfl)))) rfl
theorem wl_RX0_41 : Cond.methodLink RX0 41 yX2_stand ∈ WALL := wx_all (List.mem_append_right _ (List.mem_append_left _ (List.mem_of_getElem? (i := 98) (by rfl)))) rfl
theorem wi_X2_stand : Cond.instanceMethod yX2_stand ∈ WALL := wx_all (List.mem_append_right _ (List.mem_append_left _ (List.mem_of_getElem? (i := 99) (by rfl)))) rfl
theorem ws_RX2_X2_stand : Cond.selects RX2 yX2_stand yX2_stand ∈ WALL := wx_all (List.mem_append_right _ (List.mem_append_left _ (List.mem_of_getElem? (i := 100) (by rfl)))) rfl
theorem wc_X2_stand : Cond.code yX2_stand prog_4_method_2_code 3 (Option.none : Option Jvm.ClassFile.FieldType) ∈ WALL := wx_all (List.mem_append_right _ (List.mem_append_left _ (List.mem_of_getElem? (i := 101) (by rfl)))) rfl
theorem wl_RX11_278 : Cond.methodLink RX11 278 yX9_kindAt ∈ WALL := wx_all (List.mem_append_right _ (List.mem_append_left _ (List.mem_of_getElem? (i := 102) (by rfl)))) rfl
theorem wi_X9_kindAt : Cond.instanceMethod yX9_kindAt ∈ WALL := wx_all (List.mem_append_right _ (List.mem_append_left _ (List.mem_of_getElem? (i := 103) (by rfl)))) rfl
theorem ws_RX9_X9_kindAt : Cond.selects RX9 yX9_kindAt yX9_kindAt ∈ WALL := wx_all (List.mem_append_right _ (List.mem_append_left _ (List.mem_of_getElem? (i := 104) (by rfl)))) rfl
theorem wc_X9_kindAt : Cond.code yX9_kindAt prog_11_method_15_code 2 (Option.some Jvm.ClassFile.FieldType.int) ∈ WALL := wx_all (List.mem_append_right _ (List.mem_append_left _ (List.mem_of_getElem? (i := 105) (by rfl)))) rfl
theorem wl_RX11_281 : Cond.methodLink RX11 281 yX9_armAt ∈ WALL := wx_all (List.mem_append_right _ (List.mem_append_left _ (List.mem_of_getElem? (i := 106) (by rfl)))) rfl
theorem wi_X9_armAt : Cond.instanceMethod yX9_armAt ∈ WALL := wx_all (List.mem_append_right _ (List.mem_append_left _ (List.mem_of_getElem? (i := 107) (by rfl)))) rfl
theorem ws_RX9_X9_armAt : Cond.selects RX9 yX9_armAt yX9_armAt ∈ WALL := wx_all (List.mem_append_right _ (List.mem_append_left _ (List.mem_of_getElem? (i := 108) (by rfl)))) rfl
theorem wc_X9_armAt : Cond.code yX9_armAt prog_11_method_16_code 2 (Option.some Jvm.ClassFile.FieldType.int) ∈ WALL := wx_all (List.mem_append_right _ (List.mem_append_left _ (List.mem_of_getElem? (i := 109) (by rfl)))) rfl
theorem wl_RX11_284 : Cond.methodLink RX11 284 yX11_newThrower ∈ WALL := wx_all (List.mem_append_right _ (List.mem_append_left _ (List.mem_of_getElem? (i := 110) (by rfl)))) rfl
theorem wt_X11_newThrower : Cond.static yX11_newThrower ∈ WALL := wx_all (List.mem_append_right _ (List.mem_append_left _ (List.mem_of_getElem? (i := 111) (by rfl)))) rfl
theorem wc_X11_newThrower : Cond.code yX11_newThrower prog_1_method_39_code 3 (Option.some (Jvm.ClassFile.FieldType.object "QuoitFeast$Right")) ∈ WALL := wx_all (List.mem_append_right _ (List.mem_append_left _ (List.mem_of_getElem? (i := 112) (by rfl)))) rfl
theorem wl_RX11_288_c : Cond.classLink RX11 288 RX3 ∈ WALL := wx_all (List.mem_append_right _ (List.mem_append_left _ (List.mem_of_getElem? (i := 113) (by rfl)))) rfl
theorem wk_RX3 : Cond.instantiable RX3 2 ∈ WALL := wx_all (List.mem_append_right _ (List.mem_append_left _ (List.mem_of_getElem? (i := 114) (by rfl)))) rfl
theorem wl_RX11_290 : Cond.methodLink RX11 290 yX3_init ∈ WALL := wx_all (List.mem_append_right _ (List.mem_append_left _ (List.mem_of_getElem? (i := 115) (by rfl)))) rfl
theorem wi_X3_init : Cond.instanceMethod yX3_init ∈ WALL := wx_all (List.mem_append_right _ (List.mem_append_left _ (List.mem_of_getElem? (i := 116) (by rfl)))) rfl
theorem wc_X3_init : Cond.code yX3_init prog_5_method_1_code 3 (Option.none : Option Jvm.ClassFile.FieldType) ∈ WALL := wx_all (List.mem_append_right _ (List.mem_append_left _ (List.mem_of_getElem? (i := 117) (by rfl)))) rfl
theorem wl_RX3_3 : Cond.methodLink RX3 3 yX6_init ∈ WALL := wx_all (List.mem_append_right _ (List.mem_append_left _ (List.mem_of_getElem? (i := 118) (by rfl)))) rfl
theorem wi_X6_init : Cond.instanceMethod yX6_init ∈ WALL := wx_all (List.mem_append_right _ (List.mem_append_left _ (List.mem_of_getElem? (i := 119) (by rfl)))) rfl
theorem wc_X6_init : Cond.code yX6_init prog_8_method_1_code 3 (Option.none : Option Jvm.ClassFile.FieldType) ∈ WALL := wx_all (List.mem_append_right _ (List.mem_append_left _ (List.mem_of_getElem? (i := 120) (by rfl)))) rfl
theorem wl_RX6_3 : Cond.methodLink RX6 3 objectInit ∈ WALL := wx_all (List.mem_append_right _ (List.mem_append_left _ (List.mem_of_getElem? (i := 121) (by rfl)))) rfl
theorem wl_RX6_9 : Cond.fieldLink RX6 9 RX6 "number" "I" ∈ WALL := wx_all (List.mem_append_right _ (List.mem_append_left _ (List.mem_of_getElem? (i := 122) (by rfl)))) rfl
theorem wl_RX1_57 : Cond.fieldLink RX1 57 RX6 "number" "I" ∈ WALL := wx_all (List.mem_append_right _ (List.mem_append_left _ (List.mem_of_getElem? (i := 123) (by rfl)))) rfl
theorem wl_RX11_316 : Cond.fieldLink RX11 316 RX6 "number" "I" ∈ WALL := wx_all (List.mem_append_right _ (List.mem_append_left _ (List.mem_of_getElem? (i := 124) (by rfl)))) rfl
theorem wl_RX6_15 : Cond.fieldLink RX6 15 RX6 "arm" "I" ∈ WALL := wx_all (List.mem_append_right _ (List.mem_append_left _ (List.mem_of_getElem? (i := 125) (by rfl)))) rfl
theorem wl_RX11_131 : Cond.fieldLink RX11 131 RX6 "arm" "I" ∈ WALL := wx_all (List.mem_append_right _ (List.mem_append_left _ (List.mem_of_getElem? (i := 126) (by rfl)))) rfl
theorem wl_RX11_292_c : Cond.classLink RX11 292 RX8 ∈ WALL := wx_all (List.mem_append_right _ (List.mem_append_left _ (List.mem_of_getElem? (i := 132) (by rfl)))) rfl
theorem wk_RX8 : Cond.instantiable RX8 2 ∈ WALL := wx_all (List.mem_append_right _ (List.mem_append_left _ (List.mem_of_getElem? (i := 133) (by rfl)))) rfl
theorem wl_RX11_294 : Cond.methodLink RX11 294 yX8_init ∈ WALL := wx_all (List.mem_append_right _ (List.mem_append_left _ (List.mem_of_getElem? (i := 134) (by rfl)))) rfl
theorem wi_X8_init : Cond.instanceMethod yX8_init ∈ WALL := wx_all (List.mem_append_right _ (List.mem_append_left _ (List.mem_of_getElem? (i := 135) (by rfl)))) rfl
theorem wc_X8_init : Cond.code yX8_init prog_10_method_1_code 3 (Option.none : Option Jvm.ClassFile.FieldType) ∈ WALL := wx_all (List.mem_append_right _ (List.mem_append_left _ (List.mem_of_getElem? (i := 136) (by rfl)))) rfl
theorem wl_RX8_3 : Cond.methodLink RX8 3 yX3_init ∈ WALL := wx_all (List.mem_append_right _ (List.mem_append_left _ (List.mem_of_getElem? (i := 137) (by rfl)))) rfl
theorem wk_RX6 : Cond.instantiable RX6 2 ∈ WALL := wx_all (List.mem_append_right _ (List.mem_append_left _ (List.mem_of_getElem? (i := 141) (by rfl)))) rfl
theorem wl_RX11_295 : Cond.methodLink RX11 295 yX6_init ∈ WALL := wx_all (List.mem_append_right _ (List.mem_append_left _ (List.mem_of_getElem? (i := 142) (by rfl)))) rfl
theorem wl_RL_18 : Cond.methodLink RL 18 yX11_ofGirl ∈ WALL := wx_all (List.mem_append_right _ (List.mem_append_left _ (List.mem_of_getElem? (i := 146) (by rfl)))) rfl
theorem wi_X11_ofGirl : Cond.instanceMethod yX11_ofGirl ∈ WALL := wx_all (List.mem_append_right _ (List.mem_append_left _ (List.mem_of_getElem? (i := 147) (by rfl)))) rfl
theorem ws_RX11_X11_ofGirl : Cond.selects RX11 yX11_ofGirl yX11_ofGirl ∈ WALL := wx_all (List.mem_append_right _ (List.mem_append_left _ (List.mem_of_getElem? (i := 148) (by rfl)))) rfl
theorem wc_X11_ofGirl : Cond.code yX11_ofGirl prog_1_method_3_code 4 (Option.some Jvm.ClassFile.FieldType.int) ∈ WALL := wx_all (List.mem_append_right _ (List.mem_append_left _ (List.mem_of_getElem? (i := 149) (by rfl)))) rfl
theorem wl_RX11_99 : Cond.methodLink RX11 99 yX0_girlAt ∈ WALL := wx_all (List.mem_append_right _ (List.mem_append_left _ (List.mem_of_getElem? (i := 150) (by rfl)))) rfl
theorem wl_RX11_114 : Cond.methodLink RX11 114 yX2_holder ∈ WALL := wx_all (List.mem_append_right _ (List.mem_append_left _ (List.mem_of_getElem? (i := 151) (by rfl)))) rfl
theorem wi_X2_holder : Cond.instanceMethod yX2_holder ∈ WALL := wx_all (List.mem_append_right _ (List.mem_append_left _ (List.mem_of_getElem? (i := 152) (by rfl)))) rfl
theorem ws_RX2_X2_holder : Cond.selects RX2 yX2_holder yX2_holder ∈ WALL := wx_all (List.mem_append_right _ (List.mem_append_left _ (List.mem_of_getElem? (i := 153) (by rfl)))) rfl
theorem wc_X2_holder : Cond.code yX2_holder prog_4_method_11_code 1 (Option.some Jvm.ClassFile.FieldType.int) ∈ WALL := wx_all (List.mem_append_right _ (List.mem_append_left _ (List.mem_of_getElem? (i := 154) (by rfl)))) rfl
theorem wl_RX2_46 : Cond.methodLink RX2 46 yX2_holdingRing ∈ WALL := wx_all (List.mem_append_right _ (List.mem_append_left _ (List.mem_of_getElem? (i := 155) (by rfl)))) rfl
theorem wi_X2_holdingRing : Cond.instanceMethod yX2_holdingRing ∈ WALL := wx_all (List.mem_append_right _ (List.mem_append_left _ (List.mem_of_getElem? (i := 156) (by rfl)))) rfl
theorem ws_RX2_X2_holdingRing : Cond.selects RX2 yX2_holdingRing yX2_holdingRing ∈ WALL := wx_all (List.mem_append_right _ (List.mem_append_left _ (List.mem_of_getElem? (i := 157) (by rfl)))) rfl
theorem wc_X2_holdingRing : Cond.code yX2_holdingRing prog_4_method_10_code 4 (Option.some Jvm.ClassFile.FieldType.int) ∈ WALL := wx_all (List.mem_append_right _ (List.mem_append_left _ (List.mem_of_getElem? (i := 158) (by rfl)))) rfl
theorem wl_RX2_36 : Cond.methodLink RX2 36 yX2_nearAt ∈ WALL := wx_all (List.mem_append_right _ (List.mem_append_left _ (List.mem_of_getElem? (i := 159) (by rfl)))) rfl
theorem wi_X2_nearAt : Cond.instanceMethod yX2_nearAt ∈ WALL := wx_all (List.mem_append_right _ (List.mem_append_left _ (List.mem_of_getElem? (i := 160) (by rfl)))) rfl
theorem ws_RX2_X2_nearAt : Cond.selects RX2 yX2_nearAt yX2_nearAt ∈ WALL := wx_all (List.mem_append_right _ (List.mem_append_left _ (List.mem_of_getElem? (i := 161) (by rfl)))) rfl
theorem wc_X2_nearAt : Cond.code yX2_nearAt prog_4_method_7_code 2 (Option.some Jvm.ClassFile.FieldType.int) ∈ WALL := wx_all (List.mem_append_right _ (List.mem_append_left _ (List.mem_of_getElem? (i := 162) (by rfl)))) rfl
theorem wl_RX2_32 : Cond.methodLink RX2 32 yX2_throwerAt ∈ WALL := wx_all (List.mem_append_right _ (List.mem_append_left _ (List.mem_of_getElem? (i := 163) (by rfl)))) rfl
theorem wi_X2_throwerAt : Cond.instanceMethod yX2_throwerAt ∈ WALL := wx_all (List.mem_append_right _ (List.mem_append_left _ (List.mem_of_getElem? (i := 164) (by rfl)))) rfl
theorem ws_RX2_X2_throwerAt : Cond.selects RX2 yX2_throwerAt yX2_throwerAt ∈ WALL := wx_all (List.mem_append_right _ (List.mem_append_left _ (List.mem_of_getElem? (i := 165) (by rfl)))) rfl
theorem wc_X2_throwerAt : Cond.code yX2_throwerAt prog_4_method_6_code 2 (Option.some Jvm.ClassFile.FieldType.int) ∈ WALL := wx_all (List.mem_append_right _ (List.mem_append_left _ (List.mem_of_getElem? (i := 166) (by rfl)))) rfl
theorem wl_RX11_118 : Cond.methodLink RX11 118 yX2_holdersNearness ∈ WALL := wx_all (List.mem_append_right _ (List.mem_append_left _ (List.mem_of_getElem? (i := 167) (by rfl)))) rfl
theorem wi_X2_holdersNearness : Cond.instanceMethod yX2_holdersNearness ∈ WALL := wx_all (List.mem_append_right _ (List.mem_append_left _ (List.mem_of_getElem? (i := 168) (by rfl)))) rfl
theorem ws_RX2_X2_holdersNearness : Cond.selects RX2 yX2_holdersNearness yX2_holdersNearness ∈ WALL := wx_all (List.mem_append_right _ (List.mem_append_left _ (List.mem_of_getElem? (i := 169) (by rfl)))) rfl
theorem wc_X2_holdersNearness : Cond.code yX2_holdersNearness prog_4_method_12_code 1 (Option.some Jvm.ClassFile.FieldType.int) ∈ WALL := wx_all (List.mem_append_right _ (List.mem_append_left _ (List.mem_of_getElem? (i := 170) (by rfl)))) rfl
theorem wl_RX11_121 : Cond.methodLink RX11 121 yX2_ringers ∈ WALL := wx_all (List.mem_append_right _ (List.mem_append_left _ (List.mem_of_getElem? (i := 171) (by rfl)))) rfl
theorem wi_X2_ringers : Cond.instanceMethod yX2_ringers ∈ WALL := wx_all (List.mem_append_right _ (List.mem_append_left _ (List.mem_of_getElem? (i := 172) (by rfl)))) rfl
theorem ws_RX2_X2_ringers : Cond.selects RX2 yX2_ringers yX2_ringers ∈ WALL := wx_all (List.mem_append_right _ (List.mem_append_left _ (List.mem_of_getElem? (i := 173) (by rfl)))) rfl
theorem wc_X2_ringers : Cond.code yX2_ringers prog_4_method_13_code 3 (Option.some Jvm.ClassFile.FieldType.int) ∈ WALL := wx_all (List.mem_append_right _ (List.mem_append_left _ (List.mem_of_getElem? (i := 174) (by rfl)))) rfl
theorem wl_RL_23 : Cond.methodLink RL 23 yX11_ofThrower ∈ WALL := wx_all (List.mem_append_right _ (List.mem_append_left _ (List.mem_of_getElem? (i := 175) (by rfl)))) rfl
theorem wi_X11_ofThrower : Cond.instanceMethod yX11_ofThrower ∈ WALL := wx_all (List.mem_append_right _ (List.mem_append_left _ (List.mem_of_getElem? (i := 176) (by rfl)))) rfl
theorem ws_RX11_X11_ofThrower : Cond.selects RX11 yX11_ofThrower yX11_ofThrower ∈ WALL := wx_all (List.mem_append_right _ (List.mem_append_left _ (List.mem_of_getElem? (i := 177) (by rfl)))) rfl
theorem wc_X11_ofThrower : Cond.code yX11_ofThrower prog_1_method_4_code 4 (Option.some Jvm.ClassFile.FieldType.int) ∈ WALL := wx_all (List.mem_append_right _ (List.mem_append_left _ (List.mem_of_getElem? (i := 178) (by rfl)))) rfl
theorem wl_RX11_124 : Cond.methodLink RX11 124 yX11_throwerOf ∈ WALL := wx_all (List.mem_append_right _ (List.mem_append_left _ (List.mem_of_getElem? (i := 179) (by rfl)))) rfl
theorem wi_X11_throwerOf : Cond.instanceMethod yX11_throwerOf ∈ WALL := wx_all (List.mem_append_right _ (List.mem_append_left _ (List.mem_of_getElem? (i := 181) (by rfl)))) rfl
theorem wc_X11_throwerOf : Cond.code yX11_throwerOf prog_1_method_36_code 2 (Option.some (Jvm.ClassFile.FieldType.object "QuoitFeast$Right")) ∈ WALL := wx_all (List.mem_append_right _ (List.mem_append_left _ (List.mem_of_getElem? (i := 182) (by rfl)))) rfl
theorem wl_RX11_128 : Cond.methodLink RX11 128 yX6_kind ∈ WALL := wx_all (List.mem_append_right _ (List.mem_append_left _ (List.mem_of_getElem? (i := 183) (by rfl)))) rfl
theorem wi_X6_kind : Cond.instanceMethod yX6_kind ∈ WALL := wx_all (List.mem_append_right _ (List.mem_append_left _ (List.mem_of_getElem? (i := 184) (by rfl)))) rfl
theorem ws_RX6_X6_kind : Cond.selects RX6 yX6_kind yX6_kind ∈ WALL := wx_all (List.mem_append_right _ (List.mem_append_left _ (List.mem_of_getElem? (i := 185) (by rfl)))) rfl
theorem wm_RX6_RX6_kind : Cond.sameMethod RX6 RX6 "kind" "()I" ∈ WALL := wx_all (List.mem_append_right _ (List.mem_append_left _ (List.mem_of_getElem? (i := 186) (by rfl)))) rfl
theorem ws_RX3_X6_kind : Cond.selects RX3 yX6_kind yX3_kind ∈ WALL := wx_all (List.mem_append_right _ (List.mem_append_left _ (List.mem_of_getElem? (i := 187) (by rfl)))) rfl
theorem wi_X3_kind : Cond.instanceMethod yX3_kind ∈ WALL := wx_all (List.mem_append_right _ (List.mem_append_left _ (List.mem_of_getElem? (i := 188) (by rfl)))) rfl
theorem wc_X3_kind : Cond.code yX3_kind prog_5_method_2_code 1 (Option.some Jvm.ClassFile.FieldType.int) ∈ WALL := wx_all (List.mem_append_right _ (List.mem_append_left _ (List.mem_of_getElem? (i := 189) (by rfl)))) rfl
theorem ws_RX8_X6_kind : Cond.selects RX8 yX6_kind yX8_kind ∈ WALL := wx_all (List.mem_append_right _ (List.mem_append_left _ (List.mem_of_getElem? (i := 190) (by rfl)))) rfl
theorem wi_X8_kind : Cond.instanceMethod yX8_kind ∈ WALL := wx_all (List.mem_append_right _ (List.mem_append_left _ (List.mem_of_getElem? (i := 191) (by rfl)))) rfl
theorem wc_X8_kind : Cond.code yX8_kind prog_10_method_2_code 1 (Option.some Jvm.ClassFile.FieldType.int) ∈ WALL := wx_all (List.mem_append_right _ (List.mem_append_left _ (List.mem_of_getElem? (i := 192) (by rfl)))) rfl
theorem wc_X6_kind : Cond.code yX6_kind prog_8_method_2_code 1 (Option.some Jvm.ClassFile.FieldType.int) ∈ WALL := wx_all (List.mem_append_right _ (List.mem_append_left _ (List.mem_of_getElem? (i := 193) (by rfl)))) rfl
theorem wl_RX11_134 : Cond.methodLink RX11 134 yX6_reach ∈ WALL := wx_all (List.mem_append_right _ (List.mem_append_left _ (List.mem_of_getElem? (i := 194) (by rfl)))) rfl
theorem wi_X6_reach : Cond.instanceMethod yX6_reach ∈ WALL := wx_all (List.mem_append_right _ (List.mem_append_left _ (List.mem_of_getElem? (i := 195) (by rfl)))) rfl
theorem ws_RX6_X6_reach : Cond.selects RX6 yX6_reach yX6_reach ∈ WALL := wx_all (List.mem_append_right _ (List.mem_append_left _ (List.mem_of_getElem? (i := 196) (by rfl)))) rfl
theorem wm_RX6_RX6_reach : Cond.sameMethod RX6 RX6 "reach" "()I" ∈ WALL := wx_all (List.mem_append_right _ (List.mem_append_left _ (List.mem_of_getElem? (i := 197) (by rfl)))) rfl
theorem ws_RX3_X6_reach : Cond.selects RX3 yX6_reach yX6_reach ∈ WALL := wx_all (List.mem_append_right _ (List.mem_append_left _ (List.mem_of_getElem? (i := 198) (by rfl)))) rfl
theorem ws_RX8_X6_reach : Cond.selects RX8 yX6_reach yX6_reach ∈ WALL := wx_all (List.mem_append_right _ (List.mem_append_left _ (List.mem_of_getElem? (i := 199) (by rfl)))) rfl
theorem wc_X6_reach : Cond.code yX6_reach prog_8_method_3_code 1 (Option.some Jvm.ClassFile.FieldType.int) ∈ WALL := wx_all (List.mem_append_right _ (List.mem_append_left _ (List.mem_of_getElem? (i := 200) (by rfl)))) rfl
theorem wl_RX6_18 : Cond.methodLink RX6 18 yX6_kind ∈ WALL := wx_all (List.mem_append_right _ (List.mem_append_left _ (List.mem_of_getElem? (i := 201) (by rfl)))) rfl
theorem wn_RX6_22 : Cond.methodLinkNest RX6 22 yX11_reachOf RX11 ∈ tables_1 := (List.mem_append_right _ (List.mem_append_left _ (List.mem_of_getElem? (i := 202) (by rfl))))
theorem wt_X11_reachOf : Cond.static yX11_reachOf ∈ WALL := wx_all (List.mem_append_right _ (List.mem_append_left _ (List.mem_of_getElem? (i := 203) (by rfl)))) rfl
theorem wc_X11_reachOf : Cond.code yX11_reachOf prog_1_method_54_code 2 (Option.some Jvm.ClassFile.FieldType.int) ∈ WALL := wx_all (List.mem_append_right _ (List.mem_append_left _ (List.mem_of_getElem? (i := 204) (by rfl)))) rfl
theorem wl_RX11_137 : Cond.methodLink RX11 137 yX0_heldBy ∈ WALL := wx_all (List.mem_append_right _ (List.mem_append_left _ (List.mem_of_getElem? (i := 205) (by rfl)))) rfl
theorem wi_X0_heldBy : Cond.instanceMethod yX0_heldBy ∈ WALL := wx_all (List.mem_append_right _ (List.mem_append_left _ (List.mem_of_getElem? (i := 206) (by rfl)))) rfl
theorem ws_RX0_X0_heldBy : Cond.selects RX0 yX0_heldBy yX0_heldBy ∈ WALL := wx_all (List.mem_append_right _ (List.mem_append_left _ (List.mem_of_getElem? (i := 207) (by rfl)))) rfl
theorem wc_X0_heldBy : Cond.code yX0_heldBy prog_2_method_7_code 4 (Option.some Jvm.ClassFile.FieldType.int) ∈ WALL := wx_all (List.mem_append_right _ (List.mem_append_left _ (List.mem_of_getElem? (i := 208) (by rfl)))) rfl
theorem wl_RX0_55 : Cond.methodLink RX0 55 yX0_holderOf ∈ WALL := wx_all (List.mem_append_right _ (List.mem_append_left _ (List.mem_of_getElem? (i := 209) (by rfl)))) rfl
theorem wi_X0_holderOf : Cond.instanceMethod yX0_holderOf ∈ WALL := wx_all (List.mem_append_right _ (List.mem_append_left _ (List.mem_of_getElem? (i := 210) (by rfl)))) rfl
theorem ws_RX0_X0_holderOf : Cond.selects RX0 yX0_holderOf yX0_holderOf ∈ WALL := wx_all (List.mem_append_right _ (List.mem_append_left _ (List.mem_of_getElem? (i := 211) (by rfl)))) rfl
theorem wc_X0_holderOf : Cond.code yX0_holderOf prog_2_method_8_code 3 (Option.some Jvm.ClassFile.FieldType.int) ∈ WALL := wx_all (List.mem_append_right _ (List.mem_append_left _ (List.mem_of_getElem? (i := 212) (by rfl)))) rfl
theorem wl_RX0_58 : Cond.methodLink RX0 58 yX2_holder ∈ WALL := wx_all (List.mem_append_right _ (List.mem_append_left _ (List.mem_of_getElem? (i := 213) (by rfl)))) rfl
theorem wl_RX11_140 : Cond.methodLink RX11 140 yX0_ringsOf ∈ WALL := wx_all (List.mem_append_right _ (List.mem_append_left _ (List.mem_of_getElem? (i := 214) (by rfl)))) rfl
theorem wi_X0_ringsOf : Cond.instanceMethod yX0_ringsOf ∈ WALL := wx_all (List.mem_append_right _ (List.mem_append_left _ (List.mem_of_getElem? (i := 215) (by rfl)))) rfl
theorem ws_RX0_X0_ringsOf : Cond.selects RX0 yX0_ringsOf yX0_ringsOf ∈ WALL := wx_all (List.mem_append_right _ (List.mem_append_left _ (List.mem_of_getElem? (i := 216) (by rfl)))) rfl
theorem wc_X0_ringsOf : Cond.code yX0_ringsOf prog_2_method_6_code 5 (Option.some Jvm.ClassFile.FieldType.int) ∈ WALL := wx_all (List.mem_append_right _ (List.mem_append_left _ (List.mem_of_getElem? (i := 217) (by rfl)))) rfl
theorem wl_RX0_52 : Cond.methodLink RX0 52 yX2_ringsOf ∈ WALL := wx_all (List.mem_append_right _ (List.mem_append_left _ (List.mem_of_getElem? (i := 218) (by rfl)))) rfl
theorem wi_X2_ringsOf : Cond.instanceMethod yX2_ringsOf ∈ WALL := wx_all (List.mem_append_right _ (List.mem_append_left _ (List.mem_of_getElem? (i := 219) (by rfl)))) rfl
theorem ws_RX2_X2_ringsOf : Cond.selects RX2 yX2_ringsOf yX2_ringsOf ∈ WALL := wx_all (List.mem_append_right _ (List.mem_append_left _ (List.mem_of_getElem? (i := 220) (by rfl)))) rfl
theorem wc_X2_ringsOf : Cond.code yX2_ringsOf prog_4_method_14_code 4 (Option.some Jvm.ClassFile.FieldType.int) ∈ WALL := wx_all (List.mem_append_right _ (List.mem_append_left _ (List.mem_of_getElem? (i := 221) (by rfl)))) rfl
theorem wl_RL_27 : Cond.methodLink RL 27 yX11_freeze ∈ WALL := wx_all (List.mem_append_right _ (List.mem_append_left _ (List.mem_of_getElem? (i := 222) (by rfl)))) rfl
theorem wi_X11_freeze : Cond.instanceMethod yX11_freeze ∈ WALL := wx_all (List.mem_append_right _ (List.mem_append_left _ (List.mem_of_getElem? (i := 223) (by rfl)))) rfl
theorem ws_RX11_X11_freeze : Cond.selects RX11 yX11_freeze yX11_freeze ∈ WALL := wx_all (List.mem_append_right _ (List.mem_append_left _ (List.mem_of_getElem? (i := 224) (by rfl)))) rfl
theorem wc_X11_freeze : Cond.code yX11_freeze prog_1_method_5_code 3 (Option.some Jvm.ClassFile.FieldType.int) ∈ WALL := wx_all (List.mem_append_right _ (List.mem_append_left _ (List.mem_of_getElem? (i := 225) (by rfl)))) rfl
theorem wl_RL_32 : Cond.methodLink RL 32 yX11_lean ∈ WALL := wx_all (List.mem_append_right _ (List.mem_append_left _ (List.mem_of_getElem? (i := 226) (by rfl)))) rfl
theorem wi_X11_lean : Cond.instanceMethod yX11_lean ∈ WALL := wx_all (List.mem_append_right _ (List.mem_append_left _ (List.mem_of_getElem? (i := 227) (by rfl)))) rfl
theorem ws_RX11_X11_lean : Cond.selects RX11 yX11_lean yX11_lean ∈ WALL := wx_all (List.mem_append_right _ (List.mem_append_left _ (List.mem_of_getElem? (i := 228) (by rfl)))) rfl
theorem wc_X11_lean : Cond.code yX11_lean prog_1_method_6_code 5 (Option.some Jvm.ClassFile.FieldType.int) ∈ WALL := wx_all (List.mem_append_right _ (List.mem_append_left _ (List.mem_of_getElem? (i := 229) (by rfl)))) rfl
theorem wl_RL_36 : Cond.methodLink RL 36 yX11_place ∈ WALL := wx_all (List.mem_append_right _ (List.mem_append_left _ (List.mem_of_getElem? (i := 230) (by rfl)))) rfl
theorem wi_X11_place : Cond.instanceMethod yX11_place ∈ WALL := wx_all (List.mem_append_right _ (List.mem_append_left _ (List.mem_of_getElem? (i := 231) (by rfl)))) rfl
theorem ws_RX11_X11_place : Cond.selects RX11 yX11_place yX11_place ∈ WALL := wx_all (List.mem_append_right _ (List.mem_append_left _ (List.mem_of_getElem? (i := 232) (by rfl)))) rfl
theorem wc_X11_place : Cond.code yX11_place prog_1_method_7_code 5 (Option.some Jvm.ClassFile.FieldType.int) ∈ WALL := wx_all (List.mem_append_right _ (List.mem_append_left _ (List.mem_of_getElem? (i := 233) (by rfl)))) rfl
theorem wl_RL_40 : Cond.methodLink RL 40 yX11_train ∈ WALL := wx_all (List.mem_append_right _ (List.mem_append_left _ (List.mem_of_getElem? (i := 234) (by rfl)))) rfl
theorem wi_X11_train : Cond.instanceMethod yX11_train ∈ WALL := wx_all (List.mem_append_right _ (List.mem_append_left _ (List.mem_of_getElem? (i := 235) (by rfl)))) rfl
theorem ws_RX11_X11_train : Cond.selects RX11 yX11_train yX11_train ∈ WALL := wx_all (List.mem_append_right _ (List.mem_append_left _ (List.mem_of_getElem? (i := 236) (by rfl)))) rfl
theorem wc_X11_train : Cond.code yX11_train prog_1_method_8_code 5 (Option.some Jvm.ClassFile.FieldType.int) ∈ WALL := wx_all (List.mem_append_right _ (List.mem_append_left _ (List.mem_of_getElem? (i := 237) (by rfl)))) rfl
theorem wl_RL_44 : Cond.methodLink RL 44 yX11_measure ∈ WALL := wx_all (List.mem_append_right _ (List.mem_append_left _ (List.mem_of_getElem? (i := 238) (by rfl)))) rfl
theorem wi_X11_measure : Cond.instanceMethod yX11_measure ∈ WALL := wx_all (List.mem_append_right _ (List.mem_append_left _ (List.mem_of_getElem? (i := 239) (by rfl)))) rfl
theorem ws_RX11_X11_measure : Cond.selects RX11 yX11_measure yX11_measure ∈ WALL := wx_all (List.mem_append_right _ (List.mem_append_right _ (List.mem_append_left _ (List.mem_of_getElem? (i := 0) (by rfl))))) rfl
theorem wc_X11_measure : Cond.code yX11_measure prog_1_method_9_code 5 (Option.some Jvm.ClassFile.FieldType.int) ∈ WALL := wx_all (List.mem_append_right _ (List.mem_append_right _ (List.mem_append_left _ (List.mem_of_getElem? (i := 1) (by rfl))))) rfl
theorem wl_RX11_150 : Cond.methodLink RX11 150 yX2_nearness ∈ WALL := wx_all (List.mem_append_right _ (List.mem_append_right _ (List.mem_append_left _ (List.mem_of_getElem? (i := 2) (by rfl))))) rfl
theorem wi_X2_nearness : Cond.instanceMethod yX2_nearness ∈ WALL := wx_all (List.mem_append_right _ (List.mem_append_right _ (List.mem_append_left _ (List.mem_of_getElem? (i := 3) (by rfl))))) rfl
theorem ws_RX2_X2_nearness : Cond.selects RX2 yX2_nearness yX2_nearness ∈ WALL := wx_all (List.mem_append_right _ (List.mem_append_right _ (List.mem_append_left _ (List.mem_of_getElem? (i := 4) (by rfl))))) rfl
theorem wc_X2_nearness : Cond.code yX2_nearness prog_4_method_4_code 3 (Option.some Jvm.ClassFile.FieldType.int) ∈ WALL := wx_all (List.mem_append_right _ (List.mem_append_right _ (List.mem_append_left _ (List.mem_of_getElem? (i := 5) (by rfl))))) rfl
theorem wn_RX2_42 : Cond.methodLinkNest RX2 42 yX11_nearnessBy RX11 ∈ tables_1 := (List.mem_append_right _ (List.mem_append_right _ (List.mem_append_left _ (List.mem_of_getElem? (i := 6) (by rfl)))))
theorem wt_X11_nearnessBy : Cond.static yX11_nearnessBy ∈ WALL := wx_all (List.mem_append_right _ (List.mem_append_right _ (List.mem_append_left _ (List.mem_of_getElem? (i := 7) (by rfl))))) rfl
theorem wc_X11_nearnessBy : Cond.code yX11_nearnessBy prog_1_method_53_code 5 (Option.some Jvm.ClassFile.FieldType.int) ∈ WALL := wx_all (List.mem_append_right _ (List.mem_append_right _ (List.mem_append_left _ (List.mem_of_getElem? (i := 8) (by rfl))))) rfl
theorem wl_RX11_204 : Cond.methodLink RX11 204 yX11_apart ∈ WALL := wx_all (List.mem_append_right _ (List.mem_append_right _ (List.mem_append_left _ (List.mem_of_getElem? (i := 9) (by rfl))))) rfl
theorem wt_X11_apart : Cond.static yX11_apart ∈ WALL := wx_all (List.mem_append_right _ (List.mem_append_right _ (List.mem_append_left _ (List.mem_of_getElem? (i := 10) (by rfl))))) rfl
theorem wc_X11_apart : Cond.code yX11_apart prog_1_method_52_code 2 (Option.some Jvm.ClassFile.FieldType.int) ∈ WALL := wx_all (List.mem_append_right _ (List.mem_append_right _ (List.mem_append_left _ (List.mem_of_getElem? (i := 11) (by rfl))))) rfl
theorem wl_RL_48 : Cond.methodLink RL 48 yX11_hurl ∈ WALL := wx_all (List.mem_append_right _ (List.mem_append_right _ (List.mem_append_left _ (List.mem_of_getElem? (i := 12) (by rfl))))) rfl
theorem wi_X11_hurl : Cond.instanceMethod yX11_hurl ∈ WALL := wx_all (List.mem_append_right _ (List.mem_append_right _ (List.mem_append_left _ (List.mem_of_getElem? (i := 13) (by rfl))))) rfl
theorem ws_RX11_X11_hurl : Cond.selects RX11 yX11_hurl yX11_hurl ∈ WALL := wx_all (List.mem_append_right _ (List.mem_append_right _ (List.mem_append_left _ (List.mem_of_getElem? (i := 14) (by rfl))))) rfl
theorem wc_X11_hurl : Cond.code yX11_hurl prog_1_method_10_code 6 (Option.some Jvm.ClassFile.FieldType.int) ∈ WALL := wx_all (List.mem_append_right _ (List.mem_append_right _ (List.mem_append_left _ (List.mem_of_getElem? (i := 15) (by rfl))))) rfl
theorem wl_RX11_154 : Cond.methodLink RX11 154 yX2_isFull ∈ WALL := wx_all (List.mem_append_right _ (List.mem_append_right _ (List.mem_append_left _ (List.mem_of_getElem? (i := 16) (by rfl))))) rfl
theorem wi_X2_isFull : Cond.instanceMethod yX2_isFull ∈ WALL := wx_all (List.mem_append_right _ (List.mem_append_right _ (List.mem_append_left _ (List.mem_of_getElem? (i := 17) (by rfl))))) rfl
theorem ws_RX2_X2_isFull : Cond.selects RX2 yX2_isFull yX2_isFull ∈ WALL := wx_all (List.mem_append_right _ (List.mem_append_right _ (List.mem_append_left _ (List.mem_of_getElem? (i := 18) (by rfl))))) rfl
theorem wc_X2_isFull : Cond.code yX2_isFull prog_4_method_5_code 1 (Option.some Jvm.ClassFile.FieldType.boolean) ∈ WALL := wx_all (List.mem_append_right _ (List.mem_append_right _ (List.mem_append_left _ (List.mem_of_getElem? (i := 19) (by rfl))))) rfl
theorem wl_RX11_158 : Cond.methodLink RX11 158 yX2_lay ∈ WALL := wx_all (List.mem_append_right _ (List.mem_append_right _ (List.mem_append_left _ (List.mem_of_getElem? (i := 20) (by rfl))))) rfl
theorem wi_X2_lay : Cond.instanceMethod yX2_lay ∈ WALL := wx_all (List.mem_append_right _ (List.mem_append_right _ (List.mem_append_left _ (List.mem_of_getElem? (i := 21) (by rfl))))) rfl
theorem ws_RX2_X2_lay : Cond.selects RX2 yX2_lay yX2_lay ∈ WALL := wx_all (List.mem_append_right _ (List.mem_append_right _ (List.mem_append_left _ (List.mem_of_getElem? (i := 22) (by rfl))))) rfl
theorem wc_X2_lay : Cond.code yX2_lay prog_4_method_8_code 3 (Option.none : Option Jvm.ClassFile.FieldType) ∈ WALL := wx_all (List.mem_append_right _ (List.mem_append_right _ (List.mem_append_left _ (List.mem_of_getElem? (i := 23) (by rfl))))) rfl
theorem wl_RL_52 : Cond.methodLink RL 52 yX11_lift ∈ WALL := wx_all (List.mem_append_right _ (List.mem_append_right _ (List.mem_append_left _ (List.mem_of_getElem? (i := 24) (by rfl))))) rfl
theorem wi_X11_lift : Cond.instanceMethod yX11_lift ∈ WALL := wx_all (List.mem_append_right _ (List.mem_append_right _ (List.mem_append_left _ (List.mem_of_getElem? (i := 25) (by rfl))))) rfl
theorem ws_RX11_X11_lift : Cond.selects RX11 yX11_lift yX11_lift ∈ WALL := wx_all (List.mem_append_right _ (List.mem_append_right _ (List.mem_append_left _ (List.mem_of_getElem? (i := 26) (by rfl))))) rfl
theorem wc_X11_lift : Cond.code yX11_lift prog_1_method_11_code 3 (Option.some Jvm.ClassFile.FieldType.int) ∈ WALL := wx_all (List.mem_append_right _ (List.mem_append_right _ (List.mem_append_left _ (List.mem_of_getElem? (i := 27) (by rfl))))) rfl
theorem wl_RX11_162 : Cond.methodLink RX11 162 yX2_takeLast ∈ WALL := wx_all (List.mem_append_right _ (List.mem_append_right _ (List.mem_append_left _ (List.mem_of_getElem? (i := 28) (by rfl))))) rfl
theorem wi_X2_takeLast : Cond.instanceMethod yX2_takeLast ∈ WALL := wx_all (List.mem_append_right _ (List.mem_append_right _ (List.mem_append_left _ (List.mem_of_getElem? (i := 29) (by rfl))))) rfl
theorem ws_RX2_X2_takeLast : Cond.selects RX2 yX2_takeLast yX2_takeLast ∈ WALL := wx_all (List.mem_append_right _ (List.mem_append_right _ (List.mem_append_left _ (List.mem_of_getElem? (i := 30) (by rfl))))) rfl
theorem wc_X2_takeLast : Cond.code yX2_takeLast prog_4_method_9_code 2 (Option.some Jvm.ClassFile.FieldType.int) ∈ WALL := wx_all (List.mem_append_right _ (List.mem_append_right _ (List.mem_append_left _ (List.mem_of_getElem? (i := 31) (by rfl))))) rfl
theorem wl_RL_56 : Cond.methodLink RL 56 yX11_clear ∈ WALL := wx_all (List.mem_append_right _ (List.mem_append_right _ (List.mem_append_left _ (List.mem_of_getElem? (i := 32) (by rfl))))) rfl
theorem wi_X11_clear : Cond.instanceMethod yX11_clear ∈ WALL := wx_all (List.mem_append_right _ (List.mem_append_right _ (List.mem_append_left _ (List.mem_of_getElem? (i := 33) (by rfl))))) rfl
theorem ws_RX11_X11_clear : Cond.selects RX11 yX11_clear yX11_clear ∈ WALL := wx_all (List.mem_append_right _ (List.mem_append_right _ (List.mem_append_left _ (List.mem_of_getElem? (i := 34) (by rfl))))) rfl
theorem wc_X11_clear : Cond.code yX11_clear prog_1_method_12_code 4 (Option.some Jvm.ClassFile.FieldType.int) ∈ WALL := wx_all (List.mem_append_right _ (List.mem_append_right _ (List.mem_append_left _ (List.mem_of_getElem? (i := 35) (by rfl))))) rfl
theorem wl_RL_60 : Cond.methodLink RL 60 yX11_feast ∈ WALL := wx_all (List.mem_append_right _ (List.mem_append_right _ (List.mem_append_left _ (List.mem_of_getElem? (i := 36) (by rfl))))) rfl
theorem wi_X11_feast : Cond.instanceMethod yX11_feast ∈ WALL := wx_all (List.mem_append_right _ (List.mem_append_right _ (List.mem_append_left _ (List.mem_of_getElem? (i := 37) (by rfl))))) rfl
theorem ws_RX11_X11_feast : Cond.selects RX11 yX11_feast yX11_feast ∈ WALL := wx_all (List.mem_append_right _ (List.mem_append_right _ (List.mem_append_left _ (List.mem_of_getElem? (i := 38) (by rfl))))) rfl
theorem wc_X11_feast : Cond.code yX11_feast prog_1_method_13_code 9 (Option.some Jvm.ClassFile.FieldType.int) ∈ WALL := wx_all (List.mem_append_right _ (List.mem_append_right _ (List.mem_append_left _ (List.mem_of_getElem? (i := 39) (by rfl))))) rfl
theorem wl_RX11_165 : Cond.methodLink RX11 165 yX11_isAskedOfFeasts ∈ WALL := wx_all (List.mem_append_right _ (List.mem_append_right _ (List.mem_append_left _ (List.mem_of_getElem? (i := 40) (by rfl))))) rfl
theorem wt_X11_isAskedOfFeasts : Cond.static yX11_isAskedOfFeasts ∈ WALL := wx_all (List.mem_append_right _ (List.mem_append_right _ (List.mem_append_left _ (List.mem_of_getElem? (i := 41) (by rfl))))) rfl
theorem wc_X11_isAskedOfFeasts : Cond.code yX11_isAskedOfFeasts prog_1_method_43_code 1 (Option.some Jvm.ClassFile.FieldType.boolean) ∈ WALL := wx_all (List.mem_append_right _ (List.mem_append_right _ (List.mem_append_left _ (List.mem_of_getElem? (i := 42) (by rfl))))) rfl
theorem wl_RX11_168 : Cond.methodLink RX11 168 yX11_refusalOfPairs ∈ WALL := wx_all (List.mem_append_right _ (List.mem_append_right _ (List.mem_append_left _ (List.mem_of_getElem? (i := 43) (by rfl))))) rfl
theorem wi_X11_refusalOfPairs : Cond.instanceMethod yX11_refusalOfPairs ∈ WALL := wx_all (List.mem_append_right _ (List.mem_append_right _ (List.mem_append_left _ (List.mem_of_getElem? (i := 45) (by rfl))))) rfl
theorem wc_X11_refusalOfPairs : Cond.code yX11_refusalOfPairs prog_1_method_44_code 6 (Option.some Jvm.ClassFile.FieldType.int) ∈ WALL := wx_all (List.mem_append_right _ (List.mem_append_right _ (List.mem_append_left _ (List.mem_of_getElem? (i := 46) (by rfl))))) rfl
theorem wl_RX11_242 : Cond.methodLink RX11 242 yX7_at ∈ WALL := wx_all (List.mem_append_right _ (List.mem_append_right _ (List.mem_append_left _ (List.mem_of_getElem? (i := 47) (by rfl))))) rfl
theorem wl_RX11_296 : Cond.methodLink RX11 296 yX11_refusalOfPair ∈ WALL := wx_all (List.mem_append_right _ (List.mem_append_right _ (List.mem_append_left _ (List.mem_of_getElem? (i := 48) (by rfl))))) rfl
theorem wi_X11_refusalOfPair : Cond.instanceMethod yX11_refusalOfPair ∈ WALL := wx_all (List.mem_append_right _ (List.mem_append_right _ (List.mem_append_left _ (List.mem_of_getElem? (i := 50) (by rfl))))) rfl
theorem wc_X11_refusalOfPair : Cond.code yX11_refusalOfPair prog_1_method_45_code 3 (Option.some Jvm.ClassFile.FieldType.int) ∈ WALL := wx_all (List.mem_append_right _ (List.mem_append_right _ (List.mem_append_left _ (List.mem_of_getElem? (i := 51) (by rfl))))) rfl
theorem wl_RX11_171 : Cond.methodLink RX11 171 yX11_tellFeast ∈ WALL := wx_all (List.mem_append_right _ (List.mem_append_right _ (List.mem_append_left _ (List.mem_of_getElem? (i := 52) (by rfl))))) rfl
theorem wi_X11_tellFeast : Cond.instanceMethod yX11_tellFeast ∈ WALL := wx_all (List.mem_append_right _ (List.mem_append_right _ (List.mem_append_left _ (List.mem_of_getElem? (i := 54) (by rfl))))) rfl
theorem wc_X11_tellFeast : Cond.code yX11_tellFeast prog_1_method_46_code 5 (Option.none : Option Jvm.ClassFile.FieldType) ∈ WALL := wx_all (List.mem_append_right _ (List.mem_append_right _ (List.mem_append_left _ (List.mem_of_getElem? (i := 55) (by rfl))))) rfl
theorem wl_RX11_299 : Cond.methodLink RX11 299 yX1_begin ∈ WALL := wx_all (List.mem_append_right _ (List.mem_append_right _ (List.mem_append_left _ (List.mem_of_getElem? (i := 56) (by rfl))))) rfl
theorem wi_X1_begin : Cond.instanceMethod yX1_begin ∈ WALL := wx_all (List.mem_append_right _ (List.mem_append_right _ (List.mem_append_left _ (List.mem_of_getElem? (i := 57) (by rfl))))) rfl
theorem ws_RX1_X1_begin : Cond.selects RX1 yX1_begin yX1_begin ∈ WALL := wx_all (List.mem_append_right _ (List.mem_append_right _ (List.mem_append_left _ (List.mem_of_getElem? (i := 58) (by rfl))))) rfl
theorem wc_X1_begin : Cond.code yX1_begin prog_3_method_2_code 2 (Option.none : Option Jvm.ClassFile.FieldType) ∈ WALL := wx_all (List.mem_append_right _ (List.mem_append_right _ (List.mem_append_left _ (List.mem_of_getElem? (i := 59) (by rfl))))) rfl
theorem wl_RX1_18 : Cond.methodLink RX1 18 yX0_becomeLike ∈ WALL := wx_all (List.mem_append_right _ (List.mem_append_right _ (List.mem_append_left _ (List.mem_of_getElem? (i := 60) (by rfl))))) rfl
theorem wi_X0_becomeLike : Cond.instanceMethod yX0_becomeLike ∈ WALL := wx_all (List.mem_append_right _ (List.mem_append_right _ (List.mem_append_left _ (List.mem_of_getElem? (i := 61) (by rfl))))) rfl
theorem ws_RX0_X0_becomeLike : Cond.selects RX0 yX0_becomeLike yX0_becomeLike ∈ WALL := wx_all (List.mem_append_right _ (List.mem_append_right _ (List.mem_append_left _ (List.mem_of_getElem? (i := 62) (by rfl))))) rfl
theorem wc_X0_becomeLike : Cond.code yX0_becomeLike prog_2_method_4_code 5 (Option.none : Option Jvm.ClassFile.FieldType) ∈ WALL := wx_all (List.mem_append_right _ (List.mem_append_right _ (List.mem_append_left _ (List.mem_of_getElem? (i := 63) (by rfl))))) rfl
theorem wl_RX0_45 : Cond.methodLink RX0 45 yX2_becomeLike ∈ WALL := wx_all (List.mem_append_right _ (List.mem_append_right _ (List.mem_append_left _ (List.mem_of_getElem? (i := 64) (by rfl))))) rfl
theorem wi_X2_becomeLike : Cond.instanceMethod yX2_becomeLike ∈ WALL := wx_all (List.mem_append_right _ (List.mem_append_right _ (List.mem_append_left _ (List.mem_of_getElem? (i := 65) (by rfl))))) rfl
theorem ws_RX2_X2_becomeLike : Cond.selects RX2 yX2_becomeLike yX2_becomeLike ∈ WALL := wx_all (List.mem_append_right _ (List.mem_append_right _ (List.mem_append_left _ (List.mem_of_getElem? (i := 66) (by rfl))))) rfl
theorem wc_X2_becomeLike : Cond.code yX2_becomeLike prog_4_method_3_code 3 (Option.none : Option Jvm.ClassFile.FieldType) ∈ WALL := wx_all (List.mem_append_right _ (List.mem_append_right _ (List.mem_append_left _ (List.mem_of_getElem? (i := 67) (by rfl))))) rfl
theorem wl_RX2_28 : Cond.methodLink RX2 28 yX2_stand ∈ WALL := wx_all (List.mem_append_right _ (List.mem_append_right _ (List.mem_append_left _ (List.mem_of_getElem? (i := 68) (by rfl))))) rfl
theorem wl_RX2_39 : Cond.methodLink RX2 39 yX2_lay ∈ WALL := wx_all (List.mem_append_right _ (List.mem_append_right _ (List.mem_append_left _ (List.mem_of_getElem? (i := 69) (by rfl))))) rfl
theorem wl_RX11_306 : Cond.methodLink RX11 306 yX11_canAct ∈ WALL := wx_all (List.mem_append_right _ (List.mem_append_right _ (List.mem_append_left _ (List.mem_of_getElem? (i := 70) (by rfl))))) rfl
theorem wi_X11_canAct : Cond.instanceMethod yX11_canAct ∈ WALL := wx_all (List.mem_append_right _ (List.mem_append_right _ (List.mem_append_left _ (List.mem_of_getElem? (i := 72) (by rfl))))) rfl
theorem wc_X11_canAct : Cond.code yX11_canAct prog_1_method_47_code 4 (Option.some Jvm.ClassFile.FieldType.boolean) ∈ WALL := wx_all (List.mem_append_right _ (List.mem_append_right _ (List.mem_append_left _ (List.mem_of_getElem? (i := 73) (by rfl))))) rfl
theorem wl_RX11_310 : Cond.methodLink RX11 310 yX1_clears ∈ WALL := wx_all (List.mem_append_right _ (List.mem_append_right _ (List.mem_append_left _ (List.mem_of_getElem? (i := 74) (by rfl))))) rfl
theorem wi_X1_clears : Cond.instanceMethod yX1_clears ∈ WALL := wx_all (List.mem_append_right _ (List.mem_append_right _ (List.mem_append_left _ (List.mem_of_getElem? (i := 75) (by rfl))))) rfl
theorem ws_RX1_X1_clears : Cond.selects RX1 yX1_clears yX1_clears ∈ WALL := wx_all (List.mem_append_right _ (List.mem_append_right _ (List.mem_append_left _ (List.mem_of_getElem? (i := 76) (by rfl))))) rfl
theorem wc_X1_clears : Cond.code yX1_clears prog_3_method_4_code 3 (Option.some Jvm.ClassFile.FieldType.boolean) ∈ WALL := wx_all (List.mem_append_right _ (List.mem_append_right _ (List.mem_append_left _ (List.mem_of_getElem? (i := 77) (by rfl))))) rfl
theorem wl_RX1_32 : Cond.methodLink RX1 32 yX0_girlAt ∈ WALL := wx_all (List.mem_append_right _ (List.mem_append_right _ (List.mem_append_left _ (List.mem_of_getElem? (i := 78) (by rfl))))) rfl
theorem wl_RX11_313 : Cond.methodLink RX11 313 yX1_throwsAt ∈ WALL := wx_all (List.mem_append_right _ (List.mem_append_right _ (List.mem_append_left _ (List.mem_of_getElem? (i := 79) (by rfl))))) rfl
theorem wi_X1_throwsAt : Cond.instanceMethod yX1_throwsAt ∈ WALL := wx_all (List.mem_append_right _ (List.mem_append_right _ (List.mem_append_left _ (List.mem_of_getElem? (i := 80) (by rfl))))) rfl
theorem ws_RX1_X1_throwsAt : Cond.selects RX1 yX1_throwsAt yX1_throwsAt ∈ WALL := wx_all (List.mem_append_right _ (List.mem_append_right _ (List.mem_append_left _ (List.mem_of_getElem? (i := 81) (by rfl))))) rfl
theorem wc_X1_throwsAt : Cond.code yX1_throwsAt prog_3_method_3_code 5 (Option.some Jvm.ClassFile.FieldType.boolean) ∈ WALL := wx_all (List.mem_append_right _ (List.mem_append_right _ (List.mem_append_left _ (List.mem_of_getElem? (i := 82) (by rfl))))) rfl
theorem wl_RX1_36 : Cond.methodLink RX1 36 yX2_isFull ∈ WALL := wx_all (List.mem_append_right _ (List.mem_append_right _ (List.mem_append_left _ (List.mem_of_getElem? (i := 83) (by rfl))))) rfl
theorem wl_RX1_42 : Cond.methodLink RX1 42 yX6_reach ∈ WALL := wx_all (List.mem_append_right _ (List.mem_append_right _ (List.mem_append_left _ (List.mem_of_getElem? (i := 84) (by rfl))))) rfl
theorem wl_RX1_51 : Cond.methodLink RX1 51 yX2_nearness ∈ WALL := wx_all (List.mem_append_right _ (List.mem_append_right _ (List.mem_append_left _ (List.mem_of_getElem? (i := 85) (by rfl))))) rfl
theorem wl_RX1_55 : Cond.methodLink RX1 55 yX2_ringers ∈ WALL := wx_all (List.mem_append_right _ (List.mem_append_right _ (List.mem_append_left _ (List.mem_of_getElem? (i := 86) (by rfl))))) rfl
theorem wl_RX1_60 : Cond.methodLink RX1 60 yX2_lay ∈ WALL := wx_all (List.mem_append_right _ (List.mem_append_right _ (List.mem_append_left _ (List.mem_of_getElem? (i := 87) (by rfl))))) rfl
theorem wl_RX11_175 : Cond.methodLink RX11 175 yX1_answer ∈ WALL := wx_all (List.mem_append_right _ (List.mem_append_right _ (List.mem_append_left _ (List.mem_of_getElem? (i := 88) (by rfl))))) rfl
theorem wi_X1_answer : Cond.instanceMethod yX1_answer ∈ WALL := wx_all (List.mem_append_right _ (List.mem_append_right _ (List.mem_append_left _ (List.mem_of_getElem? (i := 89) (by rfl))))) rfl
theorem ws_RX1_X1_answer : Cond.selects RX1 yX1_answer yX1_answer ∈ WALL := wx_all (List.mem_append_right _ (List.mem_append_right _ (List.mem_append_left _ (List.mem_of_getElem? (i := 90) (by rfl))))) rfl
theorem wc_X1_answer : Cond.code yX1_answer prog_3_method_5_code 2 (Option.some Jvm.ClassFile.FieldType.int) ∈ WALL := wx_all (List.mem_append_right _ (List.mem_append_right _ (List.mem_append_left _ (List.mem_of_getElem? (i := 91) (by rfl))))) rfl
theorem wl_RX1_67 : Cond.methodLink RX1 67 yX0_girlsHeld ∈ WALL := wx_all (List.mem_append_right _ (List.mem_append_right _ (List.mem_append_left _ (List.mem_of_getElem? (i := 92) (by rfl))))) rfl
theorem wi_X0_girlsHeld : Cond.instanceMethod yX0_girlsHeld ∈ WALL := wx_all (List.mem_append_right _ (List.mem_append_right _ (List.mem_append_left _ (List.mem_of_getElem? (i := 93) (by rfl))))) rfl
theorem ws_RX0_X0_girlsHeld : Cond.selects RX0 yX0_girlsHeld yX0_girlsHeld ∈ WALL := wx_all (List.mem_append_right _ (List.mem_append_right _ (List.mem_append_left _ (List.mem_of_getElem? (i := 94) (by rfl))))) rfl
theorem wc_X0_girlsHeld : Cond.code yX0_girlsHeld prog_2_method_9_code 3 (Option.some Jvm.ClassFile.FieldType.int) ∈ WALL := wx_all (List.mem_append_right _ (List.mem_append_right _ (List.mem_append_left _ (List.mem_of_getElem? (i := 95) (by rfl))))) rfl
theorem wl_RX1_70 : Cond.methodLink RX1 70 yX0_holderOf ∈ WALL := wx_all (List.mem_append_right _ (List.mem_append_right _ (List.mem_append_left _ (List.mem_of_getElem? (i := 96) (by rfl))))) rfl
theorem wl_RL_65 : Cond.methodLink RL 65 yX11_wins ∈ WALL := wx_all (List.mem_append_right _ (List.mem_append_right _ (List.mem_append_left _ (List.mem_of_getElem? (i := 97) (by rfl))))) rfl
theorem wi_X11_wins : Cond.instanceMethod yX11_wins ∈ WALL := wx_all (List.mem_append_right _ (List.mem_append_right _ (List.mem_append_left _ (List.mem_of_getElem? (i := 98) (by rfl))))) rfl
theorem ws_RX11_X11_wins : Cond.selects RX11 yX11_wins yX11_wins ∈ WALL := wx_all (List.mem_append_right _ (List.mem_append_right _ (List.mem_append_left _ (List.mem_of_getElem? (i := 99) (by rfl))))) rfl
theorem wc_X11_wins : Cond.code yX11_wins prog_1_method_14_code 3 (Option.some Jvm.ClassFile.FieldType.int) ∈ WALL := wx_all (List.mem_append_right _ (List.mem_append_right _ (List.mem_append_left _ (List.mem_of_getElem? (i := 100) (by rfl))))) rfl
theorem wl_RX11_178 : Cond.methodLink RX11 178 yX11_winsOf ∈ WALL := wx_all (List.mem_append_right _ (List.mem_append_right _ (List.mem_append_left _ (List.mem_of_getElem? (i := 101) (by rfl))))) rfl
theorem wi_X11_winsOf : Cond.instanceMethod yX11_winsOf ∈ WALL := wx_all (List.mem_append_right _ (List.mem_append_right _ (List.mem_append_left _ (List.mem_of_getElem? (i := 103) (by rfl))))) rfl
theorem wc_X11_winsOf : Cond.code yX11_winsOf prog_1_method_48_code 5 (Option.some Jvm.ClassFile.FieldType.int) ∈ WALL := wx_all (List.mem_append_right _ (List.mem_append_right _ (List.mem_append_left _ (List.mem_of_getElem? (i := 104) (by rfl))))) rfl
theorem wl_RX11_224 : Cond.methodLink RX11 224 yX2_isHadBy ∈ WALL := wx_all (List.mem_append_right _ (List.mem_append_right _ (List.mem_append_left _ (List.mem_of_getElem? (i := 105) (by rfl))))) rfl
theorem wi_X2_isHadBy : Cond.instanceMethod yX2_isHadBy ∈ WALL := wx_all (List.mem_append_right _ (List.mem_append_right _ (List.mem_append_left _ (List.mem_of_getElem? (i := 106) (by rfl))))) rfl
theorem ws_RX2_X2_isHadBy : Cond.selects RX2 yX2_isHadBy yX2_isHadBy ∈ WALL := wx_all (List.mem_append_right _ (List.mem_append_right _ (List.mem_append_left _ (List.mem_of_getElem? (i := 107) (by rfl))))) rfl
theorem wc_X2_isHadBy : Cond.code yX2_isHadBy prog_4_method_15_code 4 (Option.some Jvm.ClassFile.FieldType.boolean) ∈ WALL := wx_all (List.mem_append_right _ (List.mem_append_right _ (List.mem_append_left _ (List.mem_of_getElem? (i := 108) (by rfl))))) rfl
theorem wl_RX2_50 : Cond.methodLink RX2 50 yX2_isFull ∈ WALL := wx_all (List.mem_append_right _ (List.mem_append_right _ (List.mem_append_left _ (List.mem_of_getElem? (i := 109) (by rfl))))) rfl
theorem wl_RX2_54 : Cond.methodLink RX2 54 yX2_holder ∈ WALL := wx_all (List.mem_append_right _ (List.mem_append_right _ (List.mem_append_left _ (List.mem_of_getElem? (i := 110) (by rfl))))) rfl
theorem wl_RX2_57 : Cond.methodLink RX2 57 yX2_takeLast ∈ WALL := wx_all (List.mem_append_right _ (List.mem_append_right _ (List.mem_append_left _ (List.mem_of_getElem? (i := 111) (by rfl))))) rfl
theorem wl_RL_69 : Cond.methodLink RL 69 yX11_match ∈ WALL := wx_all (List.mem_append_right _ (List.mem_append_right _ (List.mem_append_left _ (List.mem_of_getElem? (i := 112) (by rfl))))) rfl
theorem wi_X11_match : Cond.instanceMethod yX11_match ∈ WALL := wx_all (List.mem_append_right _ (List.mem_append_right _ (List.mem_append_left _ (List.mem_of_getElem? (i := 113) (by rfl))))) rfl
theorem ws_RX11_X11_match : Cond.selects RX11 yX11_match yX11_match ∈ WALL := wx_all (List.mem_append_right _ (List.mem_append_right _ (List.mem_append_left _ (List.mem_of_getElem? (i := 114) (by rfl))))) rfl
theorem wc_X11_match : Cond.code yX11_match prog_1_method_15_code 2 (Option.some Jvm.ClassFile.FieldType.int) ∈ WALL := wx_all (List.mem_append_right _ (List.mem_append_right _ (List.mem_append_left _ (List.mem_of_getElem? (i := 115) (by rfl))))) rfl
theorem wl_RX11_182 : Cond.methodLink RX11 182 yX11_preparePairing ∈ WALL := wx_all (List.mem_append_right _ (List.mem_append_right _ (List.mem_append_left _ (List.mem_of_getElem? (i := 116) (by rfl))))) rfl
theorem wi_X11_preparePairing : Cond.instanceMethod yX11_preparePairing ∈ WALL := wx_all (List.mem_append_right _ (List.mem_append_right _ (List.mem_append_left _ (List.mem_of_getElem? (i := 118) (by rfl))))) rfl
theorem wc_X11_preparePairing : Cond.code yX11_preparePairing prog_1_method_49_code 3 (Option.none : Option Jvm.ClassFile.FieldType) ∈ WALL := wx_all (List.mem_append_right _ (List.mem_append_right _ (List.mem_append_left _ (List.mem_of_getElem? (i := 119) (by rfl))))) rfl
theorem wl_RX11_319 : Cond.methodLink RX11 319 yX4_begin ∈ WALL := wx_all (List.mem_append_right _ (List.mem_append_right _ (List.mem_append_left _ (List.mem_of_getElem? (i := 120) (by rfl))))) rfl
theorem wi_X4_begin : Cond.instanceMethod yX4_begin ∈ WALL := wx_all (List.mem_append_right _ (List.mem_append_right _ (List.mem_append_left _ (List.mem_of_getElem? (i := 121) (by rfl))))) rfl
theorem ws_RX4_X4_begin : Cond.selects RX4 yX4_begin yX4_begin ∈ WALL := wx_all (List.mem_append_right _ (List.mem_append_right _ (List.mem_append_left _ (List.mem_of_getElem? (i := 122) (by rfl))))) rfl
theorem wc_X4_begin : Cond.code yX4_begin prog_6_method_2_code 4 (Option.none : Option Jvm.ClassFile.FieldType) ∈ WALL := wx_all (List.mem_append_right _ (List.mem_append_right _ (List.mem_append_left _ (List.mem_of_getElem? (i := 123) (by rfl))))) rfl
theorem wl_RX11_321 : Cond.methodLink RX11 321 yX4_noteWins ∈ WALL := wx_all (List.mem_append_right _ (List.mem_append_right _ (List.mem_append_left _ (List.mem_of_getElem? (i := 124) (by rfl))))) rfl
theorem wi_X4_noteWins : Cond.instanceMethod yX4_noteWins ∈ WALL := wx_all (List.mem_append_right _ (List.mem_append_right _ (List.mem_append_left _ (List.mem_of_getElem? (i := 125) (by rfl))))) rfl
theorem ws_RX4_X4_noteWins : Cond.selects RX4 yX4_noteWins yX4_noteWins ∈ WALL := wx_all (List.mem_append_right _ (List.mem_append_right _ (List.mem_append_left _ (List.mem_of_getElem? (i := 126) (by rfl))))) rfl
theorem wc_X4_noteWins : Cond.code yX4_noteWins prog_6_method_3_code 3 (Option.none : Option Jvm.ClassFile.FieldType) ∈ WALL := wx_all (List.mem_append_right _ (List.mem_append_right _ (List.mem_append_left _ (List.mem_of_getElem? (i := 127) (by rfl))))) rfl
theorem wl_RX11_324 : Cond.methodLink RX11 324 yX11_noteNearness ∈ WALL := wx_all (List.mem_append_right _ (List.mem_append_right _ (List.mem_append_left _ (List.mem_of_getElem? (i := 128) (by rfl))))) rfl
theorem wi_X11_noteNearness : Cond.instanceMethod yX11_noteNearness ∈ WALL := wx_all (List.mem_append_right _ (List.mem_append_right _ (List.mem_append_left _ (List.mem_of_getElem? (i := 130) (by rfl))))) rfl
theorem wc_X11_noteNearness : Cond.code yX11_noteNearness prog_1_method_50_code 4 (Option.none : Option Jvm.ClassFile.FieldType) ∈ WALL := wx_all (List.mem_append_right _ (List.mem_append_right _ (List.mem_append_left _ (List.mem_of_getElem? (i := 131) (by rfl))))) rfl
theorem wl_RX11_328 : Cond.methodLink RX11 328 yX4_noteNearness ∈ WALL := wx_all (List.mem_append_right _ (List.mem_append_right _ (List.mem_append_left _ (List.mem_of_getElem? (i := 132) (by rfl))))) rfl
theorem wi_X4_noteNearness : Cond.instanceMethod yX4_noteNearness ∈ WALL := wx_all (List.mem_append_right _ (List.mem_append_right _ (List.mem_append_left _ (List.mem_of_getElem? (i := 133) (by rfl))))) rfl
theorem ws_RX4_X4_noteNearness : Cond.selects RX4 yX4_noteNearness yX4_noteNearness ∈ WALL := wx_all (List.mem_append_right _ (List.mem_append_right _ (List.mem_append_left _ (List.mem_of_getElem? (i := 134) (by rfl))))) rfl
theorem wc_X4_noteNearness : Cond.code yX4_noteNearness prog_6_method_4_code 4 (Option.none : Option Jvm.ClassFile.FieldType) ∈ WALL := wx_all (List.mem_append_right _ (List.mem_append_right _ (List.mem_append_left _ (List.mem_of_getElem? (i := 135) (by rfl))))) rfl
theorem wl_RX4_34 : Cond.methodLink RX4 34 yX4_isInTable ∈ WALL := wx_all (List.mem_append_right _ (List.mem_append_right _ (List.mem_append_left _ (List.mem_of_getElem? (i := 136) (by rfl))))) rfl
theorem wt_X4_isInTable : Cond.static yX4_isInTable ∈ WALL := wx_all (List.mem_append_right _ (List.mem_append_right _ (List.mem_append_left _ (List.mem_of_getElem? (i := 137) (by rfl))))) rfl
theorem wc_X4_isInTable : Cond.code yX4_isInTable prog_6_method_6_code 2 (Option.some Jvm.ClassFile.FieldType.boolean) ∈ WALL := wx_all (List.mem_append_right _ (List.mem_append_right _ (List.mem_append_left _ (List.mem_of_getElem? (i := 138) (by rfl))))) rfl
theorem wn_RX4_38 : Cond.methodLinkNest RX4 38 yX11_isWithin RX11 ∈ tables_1 := (List.mem_append_right _ (List.mem_append_right _ (List.mem_append_left _ (List.mem_of_getElem? (i := 139) (by rfl)))))
theorem wl_RX11_185 : Cond.methodLink RX11 185 yX4_matchUp ∈ WALL := wx_all (List.mem_append_right _ (List.mem_append_right _ (List.mem_append_left _ (List.mem_of_getElem? (i := 140) (by rfl))))) rfl
theorem wi_X4_matchUp : Cond.instanceMethod yX4_matchUp ∈ WALL := wx_all (List.mem_append_right _ (List.mem_append_right _ (List.mem_append_left _ (List.mem_of_getElem? (i := 141) (by rfl))))) rfl
theorem ws_RX4_X4_matchUp : Cond.selects RX4 yX4_matchUp yX4_matchUp ∈ WALL := wx_all (List.mem_append_right _ (List.mem_append_right _ (List.mem_append_left _ (List.mem_of_getElem? (i := 142) (by rfl))))) rfl
theorem wc_X4_matchUp : Cond.code yX4_matchUp prog_6_method_11_code 4 (Option.none : Option Jvm.ClassFile.FieldType) ∈ WALL := wx_all (List.mem_append_right _ (List.mem_append_right _ (List.mem_append_left _ (List.mem_of_getElem? (i := 143) (by rfl))))) rfl
theorem wl_RX4_50 : Cond.methodLink RX4 50 yX4_firstBest ∈ WALL := wx_all (List.mem_append_right _ (List.mem_append_right _ (List.mem_append_left _ (List.mem_of_getElem? (i := 144) (by rfl))))) rfl
theorem wi_X4_firstBest : Cond.instanceMethod yX4_firstBest ∈ WALL := wx_all (List.mem_append_right _ (List.mem_append_right _ (List.mem_append_left _ (List.mem_of_getElem? (i := 145) (by rfl))))) rfl
theorem ws_RX4_X4_firstBest : Cond.selects RX4 yX4_firstBest yX4_firstBest ∈ WALL := wx_all (List.mem_append_right _ (List.mem_append_right _ (List.mem_append_left _ (List.mem_of_getElem? (i := 146) (by rfl))))) rfl
theorem wc_X4_firstBest : Cond.code yX4_firstBest prog_6_method_12_code 7 (Option.some Jvm.ClassFile.FieldType.int) ∈ WALL := wx_all (List.mem_append_right _ (List.mem_append_right _ (List.mem_append_left _ (List.mem_of_getElem? (i := 147) (by rfl))))) rfl
theorem wl_RX4_65 : Cond.methodLink RX4 65 yX4_isFreeToWin ∈ WALL := wx_all (List.mem_append_right _ (List.mem_append_right _ (List.mem_append_left _ (List.mem_of_getElem? (i := 148) (by rfl))))) rfl
theorem wi_X4_isFreeToWin : Cond.instanceMethod yX4_isFreeToWin ∈ WALL := wx_all (List.mem_append_right _ (List.mem_append_right _ (List.mem_append_left _ (List.mem_of_getElem? (i := 149) (by rfl))))) rfl
theorem ws_RX4_X4_isFreeToWin : Cond.selects RX4 yX4_isFreeToWin yX4_isFreeToWin ∈ WALL := wx_all (List.mem_append_right _ (List.mem_append_right _ (List.mem_append_left _ (List.mem_of_getElem? (i := 150) (by rfl))))) rfl
theorem wc_X4_isFreeToWin : Cond.code yX4_isFreeToWin prog_6_method_13_code 5 (Option.some Jvm.ClassFile.FieldType.boolean) ∈ WALL := wx_all (List.mem_append_right _ (List.mem_append_right _ (List.mem_append_left _ (List.mem_of_getElem? (i := 151) (by rfl))))) rfl
theorem wl_RX4_53 : Cond.methodLink RX4 53 yX4_worthWith ∈ WALL := wx_all (List.mem_append_right _ (List.mem_append_right _ (List.mem_append_left _ (List.mem_of_getElem? (i := 152) (by rfl))))) rfl
theorem wi_X4_worthWith : Cond.instanceMethod yX4_worthWith ∈ WALL := wx_all (List.mem_append_right _ (List.mem_append_right _ (List.mem_append_left _ (List.mem_of_getElem? (i := 153) (by rfl))))) rfl
theorem ws_RX4_X4_worthWith : Cond.selects RX4 yX4_worthWith yX4_worthWith ∈ WALL := wx_all (List.mem_append_right _ (List.mem_append_right _ (List.mem_append_left _ (List.mem_of_getElem? (i := 154) (by rfl))))) rfl
theorem wc_X4_worthWith : Cond.code yX4_worthWith prog_6_method_14_code 4 (Option.some Jvm.ClassFile.FieldType.int) ∈ WALL := wx_all (List.mem_append_right _ (List.mem_append_right _ (List.mem_append_left _ (List.mem_of_getElem? (i := 155) (by rfl))))) rfl
theorem wl_RX4_68 : Cond.methodLink RX4 68 yX4_worthFrom ∈ WALL := wx_all (List.mem_append_right _ (List.mem_append_right _ (List.mem_append_left _ (List.mem_of_getElem? (i := 156) (by rfl))))) rfl
theorem wi_X4_worthFrom : Cond.instanceMethod yX4_worthFrom ∈ WALL := wx_all (List.mem_append_right _ (List.mem_append_right _ (List.mem_append_left _ (List.mem_of_getElem? (i := 157) (by rfl))))) rfl
theorem ws_RX4_X4_worthFrom : Cond.selects RX4 yX4_worthFrom yX4_worthFrom ∈ WALL := wx_all (List.mem_append_right _ (List.mem_append_right _ (List.mem_append_left _ (List.mem_of_getElem? (i := 158) (by rfl))))) rfl
theorem wc_X4_worthFrom : Cond.code yX4_worthFrom prog_6_method_15_code 5 (Option.some Jvm.ClassFile.FieldType.int) ∈ WALL := wx_all (List.mem_append_right _ (List.mem_append_right _ (List.mem_append_left _ (List.mem_of_getElem? (i := 159) (by rfl))))) rfl
theorem wl_RX4_46 : Cond.methodLink RX4 46 yX4_nearness ∈ WALL := wx_all (List.mem_append_right _ (List.mem_append_right _ (List.mem_append_left _ (List.mem_of_getElem? (i := 160) (by rfl))))) rfl
theorem wi_X4_nearness : Cond.instanceMethod yX4_nearness ∈ WALL := wx_all (List.mem_append_right _ (List.mem_append_right _ (List.mem_append_left _ (List.mem_of_getElem? (i := 161) (by rfl))))) rfl
theorem ws_RX4_X4_nearness : Cond.selects RX4 yX4_nearness yX4_nearness ∈ WALL := wx_all (List.mem_append_right _ (List.mem_append_right _ (List.mem_append_left _ (List.mem_of_getElem? (i := 162) (by rfl))))) rfl
theorem wc_X4_nearness : Cond.code yX4_nearness prog_6_method_5_code 3 (Option.some Jvm.ClassFile.FieldType.int) ∈ WALL := wx_all (List.mem_append_right _ (List.mem_append_right _ (List.mem_append_left _ (List.mem_of_getElem? (i := 163) (by rfl))))) rfl
theorem wl_RX4_57 : Cond.methodLink RX4 57 yX4_noteWorth ∈ WALL := wx_all (List.mem_append_right _ (List.mem_append_right _ (List.mem_append_left _ (List.mem_of_getElem? (i := 164) (by rfl))))) rfl
theorem wi_X4_noteWorth : Cond.instanceMethod yX4_noteWorth ∈ WALL := wx_all (List.mem_append_right _ (List.mem_append_right _ (List.mem_append_left _ (List.mem_of_getElem? (i := 165) (by rfl))))) rfl
theorem ws_RX4_X4_noteWorth : Cond.selects RX4 yX4_noteWorth yX4_noteWorth ∈ WALL := wx_all (List.mem_append_right _ (List.mem_append_right _ (List.mem_append_left _ (List.mem_of_getElem? (i := 166) (by rfl))))) rfl
theorem wc_X4_noteWorth : Cond.code yX4_noteWorth prog_6_method_16_code 5 (Option.none : Option Jvm.ClassFile.FieldType) ∈ WALL := wx_all (List.mem_append_right _ (List.mem_append_right _ (List.mem_append_left _ (List.mem_of_getElem? (i := 167) (by rfl))))) rfl
theorem wl_RX4_61 : Cond.methodLink RX4 61 yX4_giveGirl ∈ WALL := wx_all (List.mem_append_right _ (List.mem_append_right _ (List.mem_append_left _ (List.mem_of_getElem? (i := 168) (by rfl))))) rfl
theorem wi_X4_giveGirl : Cond.instanceMethod yX4_giveGirl ∈ WALL := wx_all (List.mem_append_right _ (List.mem_append_right _ (List.mem_append_left _ (List.mem_of_getElem? (i := 169) (by rfl))))) rfl
theorem ws_RX4_X4_giveGirl : Cond.selects RX4 yX4_giveGirl yX4_giveGirl ∈ WALL := wx_all (List.mem_append_right _ (List.mem_append_right _ (List.mem_append_left _ (List.mem_of_getElem? (i := 170) (by rfl))))) rfl
theorem wc_X4_giveGirl : Cond.code yX4_giveGirl prog_6_method_8_code 3 (Option.none : Option Jvm.ClassFile.FieldType) ∈ WALL := wx_all (List.mem_append_right _ (List.mem_append_right _ (List.mem_append_left _ (List.mem_of_getElem? (i := 171) (by rfl))))) rfl
theorem wl_RX11_188 : Cond.methodLink RX11 188 yX4_pairs ∈ WALL := wx_all (List.mem_append_right _ (List.mem_append_right _ (List.mem_append_left _ (List.mem_of_getElem? (i := 172) (by rfl))))) rfl
theorem wi_X4_pairs : Cond.instanceMethod yX4_pairs ∈ WALL := wx_all (List.mem_append_right _ (List.mem_append_right _ (List.mem_append_left _ (List.mem_of_getElem? (i := 173) (by rfl))))) rfl
theorem ws_RX4_X4_pairs : Cond.selects RX4 yX4_pairs yX4_pairs ∈ WALL := wx_all (List.mem_append_right _ (List.mem_append_right _ (List.mem_append_left _ (List.mem_of_getElem? (i := 174) (by rfl))))) rfl
theorem wc_X4_pairs : Cond.code yX4_pairs prog_6_method_9_code 3 (Option.some Jvm.ClassFile.FieldType.int) ∈ WALL := wx_all (List.mem_append_right _ (List.mem_append_right _ (List.mem_append_left _ (List.mem_of_getElem? (i := 175) (by rfl))))) rfl
theorem wl_RX4_42 : Cond.methodLink RX4 42 yX4_girlOf ∈ WALL := wx_all (List.mem_append_right _ (List.mem_append_right _ (List.mem_append_left _ (List.mem_of_getElem? (i := 176) (by rfl))))) rfl
theorem wi_X4_girlOf : Cond.instanceMethod yX4_girlOf ∈ WALL := wx_all (List.mem_append_right _ (List.mem_append_right _ (List.mem_append_left _ (List.mem_of_getElem? (i := 177) (by rfl))))) rfl
theorem ws_RX4_X4_girlOf : Cond.selects RX4 yX4_girlOf yX4_girlOf ∈ WALL := wx_all (List.mem_append_right _ (List.mem_append_right _ (List.mem_append_left _ (List.mem_of_getElem? (i := 178) (by rfl))))) rfl
theorem wc_X4_girlOf : Cond.code yX4_girlOf prog_6_method_7_code 2 (Option.some Jvm.ClassFile.FieldType.int) ∈ WALL := wx_all (List.mem_append_right _ (List.mem_append_right _ (List.mem_append_left _ (List.mem_of_getElem? (i := 179) (by rfl))))) rfl
theorem wl_RX11_191 : Cond.methodLink RX11 191 yX4_nearnessTogether ∈ WALL := wx_all (List.mem_append_right _ (List.mem_append_right _ (List.mem_append_left _ (List.mem_of_getElem? (i := 180) (by rfl))))) rfl
theorem wi_X4_nearnessTogether : Cond.instanceMethod yX4_nearnessTogether ∈ WALL := wx_all (List.mem_append_right _ (List.mem_append_right _ (List.mem_append_left _ (List.mem_of_getElem? (i := 181) (by rfl))))) rfl
theorem ws_RX4_X4_nearnessTogether : Cond.selects RX4 yX4_nearnessTogether yX4_nearnessTogether ∈ WALL := wx_all (List.mem_append_right _ (List.mem_append_right _ (List.mem_append_left _ (List.mem_of_getElem? (i := 182) (by rfl))))) rfl
theorem wc_X4_nearnessTogether : Cond.code yX4_nearnessTogether prog_6_method_10_code 3 (Option.some Jvm.ClassFile.FieldType.int) ∈ WALL := wx_all (List.mem_append_right _ (List.mem_append_right _ (List.mem_append_left _ (List.mem_of_getElem? (i := 183) (by rfl))))) rfl
theorem wl_RX11_194 : Cond.methodLink RX11 194 yX4_girlOf ∈ WALL := wx_all (List.mem_append_right _ (List.mem_append_right _ (List.mem_append_left _ (List.mem_of_getElem? (i := 184) (by rfl))))) rfl
theorem wl_RL_73 : Cond.methodLink RL 73 yX11_weds ∈ WALL := wx_all (List.mem_append_right _ (List.mem_append_right _ (List.mem_append_left _ (List.mem_of_getElem? (i := 185) (by rfl))))) rfl
theorem wi_X11_weds : Cond.instanceMethod yX11_weds ∈ WALL := wx_all (List.mem_append_right _ (List.mem_append_right _ (List.mem_append_left _ (List.mem_of_getElem? (i := 186) (by rfl))))) rfl
theorem ws_RX11_X11_weds : Cond.selects RX11 yX11_weds yX11_weds ∈ WALL := wx_all (List.mem_append_right _ (List.mem_append_right _ (List.mem_append_left _ (List.mem_of_getElem? (i := 187) (by rfl))))) rfl
theorem wc_X11_weds : Cond.code yX11_weds prog_1_method_16_code 2 (Option.some Jvm.ClassFile.FieldType.int) ∈ WALL := wx_all (List.mem_append_right _ (List.mem_append_right _ (List.mem_append_left _ (List.mem_of_getElem? (i := 188) (by rfl))))) rfl
theorem wl_RX11_197 : Cond.methodLink RX11 197 yX4_wedAll ∈ WALL := wx_all (List.mem_append_right _ (List.mem_append_right _ (List.mem_append_left _ (List.mem_of_getElem? (i := 189) (by rfl))))) rfl
theorem wi_X4_wedAll : Cond.instanceMethod yX4_wedAll ∈ WALL := wx_all (List.mem_append_right _ (List.mem_append_right _ (List.mem_append_left _ (List.mem_of_getElem? (i := 190) (by rfl))))) rfl
theorem ws_RX4_X4_wedAll : Cond.selects RX4 yX4_wedAll yX4_wedAll ∈ WALL := wx_all (List.mem_append_right _ (List.mem_append_right _ (List.mem_append_left _ (List.mem_of_getElem? (i := 191) (by rfl))))) rfl
theorem wc_X4_wedAll : Cond.code yX4_wedAll prog_6_method_17_code 3 (Option.none : Option Jvm.ClassFile.FieldType) ∈ WALL := wx_all (List.mem_append_right _ (List.mem_append_right _ (List.mem_append_left _ (List.mem_of_getElem? (i := 192) (by rfl))))) rfl
theorem wl_RX4_71 : Cond.methodLink RX4 71 yX4_firstWhoAsks ∈ WALL := wx_all (List.mem_append_right _ (List.mem_append_right _ (List.mem_append_left _ (List.mem_of_getElem? (i := 193) (by rfl))))) rfl
theorem wi_X4_firstWhoAsks : Cond.instanceMethod yX4_firstWhoAsks ∈ WALL := wx_all (List.mem_append_right _ (List.mem_append_right _ (List.mem_append_left _ (List.mem_of_getElem? (i := 194) (by rfl))))) rfl
theorem ws_RX4_X4_firstWhoAsks : Cond.selects RX4 yX4_firstWhoAsks yX4_firstWhoAsks ∈ WALL := wx_all (List.mem_append_right _ (List.mem_append_right _ (List.mem_append_left _ (List.mem_of_getElem? (i := 195) (by rfl))))) rfl
theorem wc_X4_firstWhoAsks : Cond.code yX4_firstWhoAsks prog_6_method_18_code 2 (Option.some Jvm.ClassFile.FieldType.int) ∈ WALL := wx_all (List.mem_append_right _ (List.mem_append_right _ (List.mem_append_left _ (List.mem_of_getElem? (i := 196) (by rfl))))) rfl
theorem wl_RX4_75 : Cond.methodLink RX4 75 yX4_dearest ∈ WALL := wx_all (List.mem_append_right _ (List.mem_append_right _ (List.mem_append_left _ (List.mem_of_getElem? (i := 197) (by rfl))))) rfl
theorem wi_X4_dearest : Cond.instanceMethod yX4_dearest ∈ WALL := wx_all (List.mem_append_right _ (List.mem_append_right _ (List.mem_append_left _ (List.mem_of_getElem? (i := 198) (by rfl))))) rfl
theorem ws_RX4_X4_dearest : Cond.selects RX4 yX4_dearest yX4_dearest ∈ WALL := wx_all (List.mem_append_right _ (List.mem_append_right _ (List.mem_append_left _ (List.mem_of_getElem? (i := 199) (by rfl))))) rfl
theorem wc_X4_dearest : Cond.code yX4_dearest prog_6_method_19_code 4 (Option.some Jvm.ClassFile.FieldType.int) ∈ WALL := wx_all (List.mem_append_right _ (List.mem_append_right _ (List.mem_append_left _ (List.mem_of_getElem? (i := 200) (by rfl))))) rfl
theorem wl_RX4_81 : Cond.methodLink RX4 81 yX4_isRefused ∈ WALL := wx_all (List.mem_append_right _ (List.mem_append_right _ (List.mem_append_left _ (List.mem_of_getElem? (i := 201) (by rfl))))) rfl
theorem wi_X4_isRefused : Cond.instanceMethod yX4_isRefused ∈ WALL := wx_all (List.mem_append_right _ (List.mem_append_right _ (List.mem_append_left _ (List.mem_of_getElem? (i := 202) (by rfl))))) rfl
theorem ws_RX4_X4_isRefused : Cond.selects RX4 yX4_isRefused yX4_isRefused ∈ WALL := wx_all (List.mem_append_right _ (List.mem_append_right _ (List.mem_append_left _ (List.mem_of_getElem? (i := 203) (by rfl))))) rfl
theorem wc_X4_isRefused : Cond.code yX4_isRefused prog_6_method_23_code 3 (Option.some Jvm.ClassFile.FieldType.boolean) ∈ WALL := wx_all (List.mem_append_right _ (List.mem_append_right _ (List.mem_append_left _ (List.mem_of_getElem? (i := 204) (by rfl))))) rfl
theorem wl_RX4_78 : Cond.methodLink RX4 78 yX4_ask ∈ WALL := wx_all (List.mem_append_right _ (List.mem_append_right _ (List.mem_append_left _ (List.mem_of_getElem? (i := 205) (by rfl))))) rfl
theorem wi_X4_ask : Cond.instanceMethod yX4_ask ∈ WALL := wx_all (List.mem_append_right _ (List.mem_append_right _ (List.mem_append_left _ (List.mem_of_getElem? (i := 206) (by rfl))))) rfl
theorem ws_RX4_X4_ask : Cond.selects RX4 yX4_ask yX4_ask ∈ WALL := wx_all (List.mem_append_right _ (List.mem_append_right _ (List.mem_append_left _ (List.mem_of_getElem? (i := 207) (by rfl))))) rfl
theorem wc_X4_ask : Cond.code yX4_ask prog_6_method_20_code 4 (Option.none : Option Jvm.ClassFile.FieldType) ∈ WALL := wx_all (List.mem_append_right _ (List.mem_append_right _ (List.mem_append_left _ (List.mem_of_getElem? (i := 208) (by rfl))))) rfl
theorem wl_RX4_84 : Cond.methodLink RX4 84 yX4_throwerWith ∈ WALL := wx_all (List.mem_append_right _ (List.mem_append_right _ (List.mem_append_left _ (List.mem_of_getElem? (i := 209) (by rfl))))) rfl
theorem wi_X4_throwerWith : Cond.instanceMethod yX4_throwerWith ∈ WALL := wx_all (List.mem_append_right _ (List.mem_append_right _ (List.mem_append_left _ (List.mem_of_getElem? (i := 210) (by rfl))))) rfl
theorem ws_RX4_X4_throwerWith : Cond.selects RX4 yX4_throwerWith yX4_throwerWith ∈ WALL := wx_all (List.mem_append_right _ (List.mem_append_right _ (List.mem_append_left _ (List.mem_of_getElem? (i := 211) (by rfl))))) rfl
theorem wc_X4_throwerWith : Cond.code yX4_throwerWith prog_6_method_21_code 3 (Option.some Jvm.ClassFile.FieldType.int) ∈ WALL := wx_all (List.mem_append_right _ (List.mem_append_right _ (List.mem_append_left _ (List.mem_of_getElem? (i := 212) (by rfl))))) rfl
theorem wl_RX4_87 : Cond.methodLink RX4 87 yX4_wouldRather ∈ WALL := wx_all (List.mem_append_right _ (List.mem_append_right _ (List.mem_append_left _ (List.mem_of_getElem? (i := 213) (by rfl))))) rfl
theorem wi_X4_wouldRather : Cond.instanceMethod yX4_wouldRather ∈ WALL := wx_all (List.mem_append_right _ (List.mem_append_right _ (List.mem_append_left _ (List.mem_of_getElem? (i := 214) (by rfl))))) rfl
theorem ws_RX4_X4_wouldRather : Cond.selects RX4 yX4_wouldRather yX4_wouldRather ∈ WALL := wx_all (List.mem_append_right _ (List.mem_append_right _ (List.mem_append_left _ (List.mem_of_getElem? (i := 215) (by rfl))))) rfl
theorem wc_X4_wouldRather : Cond.code yX4_wouldRather prog_6_method_22_code 6 (Option.some Jvm.ClassFile.FieldType.boolean) ∈ WALL := wx_all (List.mem_append_right _ (List.mem_append_right _ (List.mem_append_left _ (List.mem_of_getElem? (i := 216) (by rfl))))) rfl
theorem wl_RX4_90 : Cond.methodLink RX4 90 yX4_refuse ∈ WALL := wx_all (List.mem_append_right _ (List.mem_append_right _ (List.mem_append_left _ (List.mem_of_getElem? (i := 217) (by rfl))))) rfl
theorem wi_X4_refuse : Cond.instanceMethod yX4_refuse ∈ WALL := wx_all (List.mem_append_right _ (List.mem_append_right _ (List.mem_append_left _ (List.mem_of_getElem? (i := 218) (by rfl))))) rfl
theorem ws_RX4_X4_refuse : Cond.selects RX4 yX4_refuse yX4_refuse ∈ WALL := wx_all (List.mem_append_right _ (List.mem_append_right _ (List.mem_append_left _ (List.mem_of_getElem? (i := 219) (by rfl))))) rfl
theorem wc_X4_refuse : Cond.code yX4_refuse prog_6_method_24_code 3 (Option.none : Option Jvm.ClassFile.FieldType) ∈ WALL := wx_all (List.mem_append_right _ (List.mem_append_right _ (List.mem_append_left _ (List.mem_of_getElem? (i := 220) (by rfl))))) rfl
theorem wl_RL_77 : Cond.methodLink RL 77 yX11_even ∈ WALL := wx_all (List.mem_append_right _ (List.mem_append_right _ (List.mem_append_left _ (List.mem_of_getElem? (i := 221) (by rfl))))) rfl
theorem wi_X11_even : Cond.instanceMethod yX11_even ∈ WALL := wx_all (List.mem_append_right _ (List.mem_append_right _ (List.mem_append_left _ (List.mem_of_getElem? (i := 222) (by rfl))))) rfl
theorem ws_RX11_X11_even : Cond.selects RX11 yX11_even yX11_even ∈ WALL := wx_all (List.mem_append_right _ (List.mem_append_right _ (List.mem_append_left _ (List.mem_of_getElem? (i := 223) (by rfl))))) rfl
theorem wc_X11_even : Cond.code yX11_even prog_1_method_17_code 12 (Option.some Jvm.ClassFile.FieldType.int) ∈ WALL := wx_all (List.mem_append_right _ (List.mem_append_right _ (List.mem_append_left _ (List.mem_of_getElem? (i := 224) (by rfl))))) rfl
theorem wl_RX11_200 : Cond.methodLink RX11 200 yX11_nearnessBy ∈ WALL := wx_all (List.mem_append_right _ (List.mem_append_right _ (List.mem_append_left _ (List.mem_of_getElem? (i := 225) (by rfl))))) rfl
theorem wl_RL_82 : Cond.methodLink RL 82 yX11_reading ∈ WALL := wx_all (List.mem_append_right _ (List.mem_append_right _ (List.mem_append_left _ (List.mem_of_getElem? (i := 226) (by rfl))))) rfl
theorem wi_X11_reading : Cond.instanceMethod yX11_reading ∈ WALL := wx_all (List.mem_append_right _ (List.mem_append_right _ (List.mem_append_left _ (List.mem_of_getElem? (i := 227) (by rfl))))) rfl
theorem ws_RX11_X11_reading : Cond.selects RX11 yX11_reading yX11_reading ∈ WALL := wx_all (List.mem_append_right _ (List.mem_append_right _ (List.mem_append_left _ (List.mem_of_getElem? (i := 228) (by rfl))))) rfl
theorem wc_X11_reading : Cond.code yX11_reading prog_1_method_18_code 4 (Option.some Jvm.ClassFile.FieldType.int) ∈ WALL := wx_all (List.mem_append_right _ (List.mem_append_right _ (List.mem_append_left _ (List.mem_of_getElem? (i := 229) (by rfl))))) rfl
theorem wl_RX11_207 : Cond.methodLink RX11 207 yX5_isFull ∈ WALL := wx_all (List.mem_append_right _ (List.mem_append_right _ (List.mem_append_left _ (List.mem_of_getElem? (i := 230) (by rfl))))) rfl
theorem wi_X5_isFull : Cond.instanceMethod yX5_isFull ∈ WALL := wx_all (List.mem_append_right _ (List.mem_append_right _ (List.mem_append_left _ (List.mem_of_getElem? (i := 231) (by rfl))))) rfl
theorem ws_RX5_X5_isFull : Cond.selects RX5 yX5_isFull yX5_isFull ∈ WALL := wx_all (List.mem_append_right _ (List.mem_append_right _ (List.mem_append_left _ (List.mem_of_getElem? (i := 232) (by rfl))))) rfl
theorem wc_X5_isFull : Cond.code yX5_isFull prog_7_method_2_code 1 (Option.some Jvm.ClassFile.FieldType.boolean) ∈ WALL := wx_all (List.mem_append_right _ (List.mem_append_right _ (List.mem_append_left _ (List.mem_of_getElem? (i := 233) (by rfl))))) rfl
theorem wl_RX11_208 : Cond.methodLink RX11 208 yX5_take ∈ WALL := wx_all (List.mem_append_right _ (List.mem_append_right _ (List.mem_append_left _ (List.mem_of_getElem? (i := 234) (by rfl))))) rfl
theorem wi_X5_take : Cond.instanceMethod yX5_take ∈ WALL := wx_all (List.mem_append_right _ (List.mem_append_right _ (List.mem_append_left _ (List.mem_of_getElem? (i := 235) (by rfl))))) rfl
theorem ws_RX5_X5_take : Cond.selects RX5 yX5_take yX5_take ∈ WALL := wx_all (List.mem_append_right _ (List.mem_append_right _ (List.mem_append_left _ (List.mem_of_getElem? (i := 236) (by rfl))))) rfl
theorem wc_X5_take : Cond.code yX5_take prog_7_method_3_code 5 (Option.some Jvm.ClassFile.FieldType.int) ∈ WALL := wx_all (List.mem_append_right _ (List.mem_append_right _ (List.mem_append_left _ (List.mem_of_getElem? (i := 237) (by rfl))))) rfl
theorem wl_RL_86 : Cond.methodLink RL 86 yX11_back ∈ WALL := wx_all (List.mem_append_right _ (List.mem_append_right _ (List.mem_append_left _ (List.mem_of_getElem? (i := 238) (by rfl))))) rfl
theorem wi_X11_back : Cond.instanceMethod yX11_back ∈ WALL := wx_all (List.mem_append_right _ (List.mem_append_right _ (List.mem_append_left _ (List.mem_of_getElem? (i := 239) (by rfl))))) rfl
theorem ws_RX11_X11_back : Cond.selects RX11 yX11_back yX11_back ∈ WALL := wx_all (List.mem_append_right _ (List.mem_append_right _ (List.mem_append_right _ (List.mem_append_left _ (List.mem_of_getElem? (i := 0) (by rfl)))))) rfl
theorem wc_X11_back : Cond.code yX11_back prog_1_method_19_code 2 (Option.some Jvm.ClassFile.FieldType.int) ∈ WALL := wx_all (List.mem_append_right _ (List.mem_append_right _ (List.mem_append_right _ (List.mem_append_left _ (List.mem_of_getElem? (i := 1) (by rfl)))))) rfl
theorem wl_RL_90 : Cond.methodLink RL 90 yX11_leans ∈ WALL := wx_all (List.mem_append_right _ (List.mem_append_right _ (List.mem_append_right _ (List.mem_append_left _ (List.mem_of_getElem? (i := 2) (by rfl)))))) rfl
theorem wi_X11_leans : Cond.instanceMethod yX11_leans ∈ WALL := wx_all (List.mem_append_right _ (List.mem_append_right _ (List.mem_append_right _ (List.mem_append_left _ (List.mem_of_getElem? (i := 3) (by rfl)))))) rfl
theorem ws_RX11_X11_leans : Cond.selects RX11 yX11_leans yX11_leans ∈ WALL := wx_all (List.mem_append_right _ (List.mem_append_right _ (List.mem_append_right _ (List.mem_append_left _ (List.mem_of_getElem? (i := 4) (by rfl)))))) rfl
theorem wc_X11_leans : Cond.code yX11_leans prog_1_method_20_code 4 (Option.some Jvm.ClassFile.FieldType.int) ∈ WALL := wx_all (List.mem_append_right _ (List.mem_append_right _ (List.mem_append_right _ (List.mem_append_left _ (List.mem_of_getElem? (i := 5) (by rfl)))))) rfl
theorem wl_RX11_215 : Cond.methodLink RX11 215 yX11_allSoWith ∈ WALL := wx_all (List.mem_append_right _ (List.mem_append_right _ (List.mem_append_right _ (List.mem_append_left _ (List.mem_of_getElem? (i := 6) (by rfl)))))) rfl
theorem wi_X11_allSoWith : Cond.instanceMethod yX11_allSoWith ∈ WALL := wx_all (List.mem_append_right _ (List.mem_append_right _ (List.mem_append_right _ (List.mem_append_left _ (List.mem_of_getElem? (i := 8) (by rfl)))))) rfl
theorem wc_X11_allSoWith : Cond.code yX11_allSoWith prog_1_method_51_code 10 (Option.some Jvm.ClassFile.FieldType.boolean) ∈ WALL := wx_all (List.mem_append_right _ (List.mem_append_right _ (List.mem_append_right _ (List.mem_append_left _ (List.mem_of_getElem? (i := 9) (by rfl)))))) rfl
theorem wl_RX11_331 : Cond.methodLink RX11 331 yX5_throwerAt ∈ WALL := wx_all (List.mem_append_right _ (List.mem_append_right _ (List.mem_append_right _ (List.mem_append_left _ (List.mem_of_getElem? (i := 10) (by rfl)))))) rfl
theorem wi_X5_throwerAt : Cond.instanceMethod yX5_throwerAt ∈ WALL := wx_all (List.mem_append_right _ (List.mem_append_right _ (List.mem_append_right _ (List.mem_append_left _ (List.mem_of_getElem? (i := 11) (by rfl)))))) rfl
theorem ws_RX5_X5_throwerAt : Cond.selects RX5 yX5_throwerAt yX5_throwerAt ∈ WALL := wx_all (List.mem_append_right _ (List.mem_append_right _ (List.mem_append_right _ (List.mem_append_left _ (List.mem_of_getElem? (i := 12) (by rfl)))))) rfl
theorem wc_X5_throwerAt : Cond.code yX5_throwerAt prog_7_method_4_code 2 (Option.some Jvm.ClassFile.FieldType.int) ∈ WALL := wx_all (List.mem_append_right _ (List.mem_append_right _ (List.mem_append_right _ (List.mem_append_left _ (List.mem_of_getElem? (i := 13) (by rfl)))))) rfl
theorem wl_RX11_334 : Cond.methodLink RX11 334 yX5_girlAt ∈ WALL := wx_all (List.mem_append_right _ (List.mem_append_right _ (List.mem_append_right _ (List.mem_append_left _ (List.mem_of_getElem? (i := 14) (by rfl)))))) rfl
theorem wi_X5_girlAt : Cond.instanceMethod yX5_girlAt ∈ WALL := wx_all (List.mem_append_right _ (List.mem_append_right _ (List.mem_append_right _ (List.mem_append_left _ (List.mem_of_getElem? (i := 15) (by rfl)))))) rfl
theorem ws_RX5_X5_girlAt : Cond.selects RX5 yX5_girlAt yX5_girlAt ∈ WALL := wx_all (List.mem_append_right _ (List.mem_append_right _ (List.mem_append_right _ (List.mem_append_left _ (List.mem_of_getElem? (i := 16) (by rfl)))))) rfl
theorem wc_X5_girlAt : Cond.code yX5_girlAt prog_7_method_5_code 2 (Option.some Jvm.ClassFile.FieldType.int) ∈ WALL := wx_all (List.mem_append_right _ (List.mem_append_right _ (List.mem_append_right _ (List.mem_append_left _ (List.mem_of_getElem? (i := 17) (by rfl)))))) rfl
theorem wl_RX11_336 : Cond.methodLink RX11 336 yX5_nearAt ∈ WALL := wx_all (List.mem_append_right _ (List.mem_append_right _ (List.mem_append_right _ (List.mem_append_left _ (List.mem_of_getElem? (i := 18) (by rfl)))))) rfl
theorem wi_X5_nearAt : Cond.instanceMethod yX5_nearAt ∈ WALL := wx_all (List.mem_append_right _ (List.mem_append_right _ (List.mem_append_right _ (List.mem_append_left _ (List.mem_of_getElem? (i := 19) (by rfl)))))) rfl
theorem ws_RX5_X5_nearAt : Cond.selects RX5 yX5_nearAt yX5_nearAt ∈ WALL := wx_all (List.mem_append_right _ (List.mem_append_right _ (List.mem_append_right _ (List.mem_append_left _ (List.mem_of_getElem? (i := 20) (by rfl)))))) rfl
theorem wc_X5_nearAt : Cond.code yX5_nearAt prog_7_method_6_code 2 (Option.some Jvm.ClassFile.FieldType.int) ∈ WALL := wx_all (List.mem_append_right _ (List.mem_append_right _ (List.mem_append_right _ (List.mem_append_left _ (List.mem_of_getElem? (i := 21) (by rfl)))))) rfl
theorem wl_RL_94 : Cond.methodLink RL 94 yX11_arms ∈ WALL := wx_all (List.mem_append_right _ (List.mem_append_right _ (List.mem_append_right _ (List.mem_append_left _ (List.mem_of_getElem? (i := 22) (by rfl)))))) rfl
theorem wi_X11_arms : Cond.instanceMethod yX11_arms ∈ WALL := wx_all (List.mem_append_right _ (List.mem_append_right _ (List.mem_append_right _ (List.mem_append_left _ (List.mem_of_getElem? (i := 23) (by rfl)))))) rfl
theorem ws_RX11_X11_arms : Cond.selects RX11 yX11_arms yX11_arms ∈ WALL := wx_all (List.mem_append_right _ (List.mem_append_right _ (List.mem_append_right _ (List.mem_append_left _ (List.mem_of_getElem? (i := 24) (by rfl)))))) rfl
theorem wc_X11_arms : Cond.code yX11_arms prog_1_method_21_code 5 (Option.some Jvm.ClassFile.FieldType.int) ∈ WALL := wx_all (List.mem_append_right _ (List.mem_append_right _ (List.mem_append_right _ (List.mem_append_left _ (List.mem_of_getElem? (i := 25) (by rfl)))))) rfl
theorem wl_RX11_219 : Cond.methodLink RX11 219 yX11_reachOf ∈ WALL := wx_all (List.mem_append_right _ (List.mem_append_right _ (List.mem_append_right _ (List.mem_append_left _ (List.mem_of_getElem? (i := 26) (by rfl)))))) rfl
theorem wl_RL_98 : Cond.methodLink RL 98 yX11_kinds ∈ WALL := wx_all (List.mem_append_right _ (List.mem_append_right _ (List.mem_append_right _ (List.mem_append_left _ (List.mem_of_getElem? (i := 27) (by rfl)))))) rfl
theorem wi_X11_kinds : Cond.instanceMethod yX11_kinds ∈ WALL := wx_all (List.mem_append_right _ (List.mem_append_right _ (List.mem_append_right _ (List.mem_append_left _ (List.mem_of_getElem? (i := 28) (by rfl)))))) rfl
theorem ws_RX11_X11_kinds : Cond.selects RX11 yX11_kinds yX11_kinds ∈ WALL := wx_all (List.mem_append_right _ (List.mem_append_right _ (List.mem_append_right _ (List.mem_append_left _ (List.mem_of_getElem? (i := 29) (by rfl)))))) rfl
theorem wc_X11_kinds : Cond.code yX11_kinds prog_1_method_22_code 5 (Option.some Jvm.ClassFile.FieldType.int) ∈ WALL := wx_all (List.mem_append_right _ (List.mem_append_right _ (List.mem_append_right _ (List.mem_append_left _ (List.mem_of_getElem? (i := 30) (by rfl)))))) rfl
theorem wl_RL_102 : Cond.methodLink RL 102 yX11_odds ∈ WALL := wx_all (List.mem_append_right _ (List.mem_append_right _ (List.mem_append_right _ (List.mem_append_left _ (List.mem_of_getElem? (i := 31) (by rfl)))))) rfl
theorem wi_X11_odds : Cond.instanceMethod yX11_odds ∈ WALL := wx_all (List.mem_append_right _ (List.mem_append_right _ (List.mem_append_right _ (List.mem_append_left _ (List.mem_of_getElem? (i := 32) (by rfl)))))) rfl
theorem ws_RX11_X11_odds : Cond.selects RX11 yX11_odds yX11_odds ∈ WALL := wx_all (List.mem_append_right _ (List.mem_append_right _ (List.mem_append_right _ (List.mem_append_left _ (List.mem_of_getElem? (i := 33) (by rfl)))))) rfl
theorem wc_X11_odds : Cond.code yX11_odds prog_1_method_23_code 10 (Option.some Jvm.ClassFile.FieldType.long) ∈ WALL := wx_all (List.mem_append_right _ (List.mem_append_right _ (List.mem_append_right _ (List.mem_append_left _ (List.mem_of_getElem? (i := 34) (by rfl)))))) rfl
theorem wj_RX11_222 : Cond.constantLong RX11 222 (-9223372036854775808 : Int64) ∈ WALL := wx_all (List.mem_append_right _ (List.mem_append_right _ (List.mem_append_right _ (List.mem_append_left _ (List.mem_of_getElem? (i := 35) (by rfl)))))) rfl
theorem wl_RL_107 : Cond.methodLink RL 107 yX11_sheet ∈ WALL := wx_all (List.mem_append_right _ (List.mem_append_right _ (List.mem_append_right _ (List.mem_append_left _ (List.mem_of_getElem? (i := 36) (by rfl)))))) rfl
theorem wi_X11_sheet : Cond.instanceMethod yX11_sheet ∈ WALL := wx_all (List.mem_append_right _ (List.mem_append_right _ (List.mem_append_right _ (List.mem_append_left _ (List.mem_of_getElem? (i := 37) (by rfl)))))) rfl
theorem ws_RX11_X11_sheet : Cond.selects RX11 yX11_sheet yX11_sheet ∈ WALL := wx_all (List.mem_append_right _ (List.mem_append_right _ (List.mem_append_right _ (List.mem_append_left _ (List.mem_of_getElem? (i := 38) (by rfl)))))) rfl
theorem wc_X11_sheet : Cond.code yX11_sheet prog_1_method_24_code 5 (Option.some Jvm.ClassFile.FieldType.int) ∈ WALL := wx_all (List.mem_append_right _ (List.mem_append_right _ (List.mem_append_right _ (List.mem_append_left _ (List.mem_of_getElem? (i := 39) (by rfl)))))) rfl
theorem wl_RX11_227 : Cond.methodLink RX11 227 yX7_renew ∈ WALL := wx_all (List.mem_append_right _ (List.mem_append_right _ (List.mem_append_right _ (List.mem_append_left _ (List.mem_of_getElem? (i := 40) (by rfl)))))) rfl
theorem wi_X7_renew : Cond.instanceMethod yX7_renew ∈ WALL := wx_all (List.mem_append_right _ (List.mem_append_right _ (List.mem_append_right _ (List.mem_append_left _ (List.mem_of_getElem? (i := 41) (by rfl)))))) rfl
theorem ws_RX7_X7_renew : Cond.selects RX7 yX7_renew yX7_renew ∈ WALL := wx_all (List.mem_append_right _ (List.mem_append_right _ (List.mem_append_right _ (List.mem_append_left _ (List.mem_of_getElem? (i := 42) (by rfl)))))) rfl
theorem wc_X7_renew : Cond.code yX7_renew prog_9_method_4_code 4 (Option.none : Option Jvm.ClassFile.FieldType) ∈ WALL := wx_all (List.mem_append_right _ (List.mem_append_right _ (List.mem_append_right _ (List.mem_append_left _ (List.mem_of_getElem? (i := 43) (by rfl)))))) rfl
theorem wl_RL_111 : Cond.methodLink RL 111 yX11_lose ∈ WALL := wx_all (List.mem_append_right _ (List.mem_append_right _ (List.mem_append_right _ (List.mem_append_left _ (List.mem_of_getElem? (i := 44) (by rfl)))))) rfl
theorem wi_X11_lose : Cond.instanceMethod yX11_lose ∈ WALL := wx_all (List.mem_append_right _ (List.mem_append_right _ (List.mem_append_right _ (List.mem_append_left _ (List.mem_of_getElem? (i := 45) (by rfl)))))) rfl
theorem ws_RX11_X11_lose : Cond.selects RX11 yX11_lose yX11_lose ∈ WALL := wx_all (List.mem_append_right _ (List.mem_append_right _ (List.mem_append_right _ (List.mem_append_left _ (List.mem_of_getElem? (i := 46) (by rfl)))))) rfl
theorem wc_X11_lose : Cond.code yX11_lose prog_1_method_25_code 3 (Option.some Jvm.ClassFile.FieldType.int) ∈ WALL := wx_all (List.mem_append_right _ (List.mem_append_right _ (List.mem_append_right _ (List.mem_append_left _ (List.mem_of_getElem? (i := 47) (by rfl)))))) rfl
theorem wl_RX11_230 : Cond.methodLink RX11 230 yX7_hasNothing ∈ WALL := wx_all (List.mem_append_right _ (List.mem_append_right _ (List.mem_append_right _ (List.mem_append_left _ (List.mem_of_getElem? (i := 48) (by rfl)))))) rfl
theorem wl_RX11_233 : Cond.methodLink RX11 233 yX7_forget ∈ WALL := wx_all (List.mem_append_right _ (List.mem_append_right _ (List.mem_append_right _ (List.mem_append_left _ (List.mem_of_getElem? (i := 49) (by rfl)))))) rfl
theorem wi_X7_forget : Cond.instanceMethod yX7_forget ∈ WALL := wx_all (List.mem_append_right _ (List.mem_append_right _ (List.mem_append_right _ (List.mem_append_left _ (List.mem_of_getElem? (i := 50) (by rfl)))))) rfl
theorem ws_RX7_X7_forget : Cond.selects RX7 yX7_forget yX7_forget ∈ WALL := wx_all (List.mem_append_right _ (List.mem_append_right _ (List.mem_append_right _ (List.mem_append_left _ (List.mem_of_getElem? (i := 51) (by rfl)))))) rfl
theorem wc_X7_forget : Cond.code yX7_forget prog_9_method_3_code 1 (Option.none : Option Jvm.ClassFile.FieldType) ∈ WALL := wx_all (List.mem_append_right _ (List.mem_append_right _ (List.mem_append_right _ (List.mem_append_left _ (List.mem_of_getElem? (i := 52) (by rfl)))))) rfl
theorem wl_RL_115 : Cond.methodLink RL 115 yX11_put ∈ WALL := wx_all (List.mem_append_right _ (List.mem_append_right _ (List.mem_append_right _ (List.mem_append_left _ (List.mem_of_getElem? (i := 53) (by rfl)))))) rfl
theorem wi_X11_put : Cond.instanceMethod yX11_put ∈ WALL := wx_all (List.mem_append_right _ (List.mem_append_right _ (List.mem_append_right _ (List.mem_append_left _ (List.mem_of_getElem? (i := 54) (by rfl)))))) rfl
theorem ws_RX11_X11_put : Cond.selects RX11 yX11_put yX11_put ∈ WALL := wx_all (List.mem_append_right _ (List.mem_append_right _ (List.mem_append_right _ (List.mem_append_left _ (List.mem_of_getElem? (i := 55) (by rfl)))))) rfl
theorem wc_X11_put : Cond.code yX11_put prog_1_method_26_code 5 (Option.some Jvm.ClassFile.FieldType.int) ∈ WALL := wx_all (List.mem_append_right _ (List.mem_append_right _ (List.mem_append_right _ (List.mem_append_left _ (List.mem_of_getElem? (i := 56) (by rfl)))))) rfl
theorem wl_RX11_236 : Cond.methodLink RX11 236 yX7_hasCell ∈ WALL := wx_all (List.mem_append_right _ (List.mem_append_right _ (List.mem_append_right _ (List.mem_append_left _ (List.mem_of_getElem? (i := 57) (by rfl)))))) rfl
theorem wl_RX11_239 : Cond.methodLink RX11 239 yX7_store ∈ WALL := wx_all (List.mem_append_right _ (List.mem_append_right _ (List.mem_append_right _ (List.mem_append_left _ (List.mem_of_getElem? (i := 58) (by rfl)))))) rfl
theorem wi_X7_store : Cond.instanceMethod yX7_store ∈ WALL := wx_all (List.mem_append_right _ (List.mem_append_right _ (List.mem_append_right _ (List.mem_append_left _ (List.mem_of_getElem? (i := 59) (by rfl)))))) rfl
theorem ws_RX7_X7_store : Cond.selects RX7 yX7_store yX7_store ∈ WALL := wx_all (List.mem_append_right _ (List.mem_append_right _ (List.mem_append_right _ (List.mem_append_left _ (List.mem_of_getElem? (i := 60) (by rfl)))))) rfl
theorem wc_X7_store : Cond.code yX7_store prog_9_method_9_code 3 (Option.none : Option Jvm.ClassFile.FieldType) ∈ WALL := wx_all (List.mem_append_right _ (List.mem_append_right _ (List.mem_append_right _ (List.mem_append_left _ (List.mem_of_getElem? (i := 61) (by rfl)))))) rfl
theorem wl_RX7_30 : Cond.methodLink RX7 30 yX7_cut ∈ WALL := wx_all (List.mem_append_right _ (List.mem_append_right _ (List.mem_append_right _ (List.mem_append_left _ (List.mem_of_getElem? (i := 62) (by rfl)))))) rfl
theorem wi_X7_cut : Cond.instanceMethod yX7_cut ∈ WALL := wx_all (List.mem_append_right _ (List.mem_append_right _ (List.mem_append_right _ (List.mem_append_left _ (List.mem_of_getElem? (i := 63) (by rfl)))))) rfl
theorem ws_RX7_X7_cut : Cond.selects RX7 yX7_cut yX7_cut ∈ WALL := wx_all (List.mem_append_right _ (List.mem_append_right _ (List.mem_append_right _ (List.mem_append_left _ (List.mem_of_getElem? (i := 64) (by rfl)))))) rfl
theorem wc_X7_cut : Cond.code yX7_cut prog_9_method_10_code 2 (Option.some Jvm.ClassFile.FieldType.int) ∈ WALL := wx_all (List.mem_append_right _ (List.mem_append_right _ (List.mem_append_right _ (List.mem_append_left _ (List.mem_of_getElem? (i := 65) (by rfl)))))) rfl
theorem wl_RL_119 : Cond.methodLink RL 119 yX11_cell ∈ WALL := wx_all (List.mem_append_right _ (List.mem_append_right _ (List.mem_append_right _ (List.mem_append_left _ (List.mem_of_getElem? (i := 66) (by rfl)))))) rfl
theorem wi_X11_cell : Cond.instanceMethod yX11_cell ∈ WALL := wx_all (List.mem_append_right _ (List.mem_append_right _ (List.mem_append_right _ (List.mem_append_left _ (List.mem_of_getElem? (i := 67) (by rfl)))))) rfl
theorem ws_RX11_X11_cell : Cond.selects RX11 yX11_cell yX11_cell ∈ WALL := wx_all (List.mem_append_right _ (List.mem_append_right _ (List.mem_append_right _ (List.mem_append_left _ (List.mem_of_getElem? (i := 68) (by rfl)))))) rfl
theorem wc_X11_cell : Cond.code yX11_cell prog_1_method_27_code 6 (Option.some Jvm.ClassFile.FieldType.long) ∈ WALL := wx_all (List.mem_append_right _ (List.mem_append_right _ (List.mem_append_right _ (List.mem_append_left _ (List.mem_of_getElem? (i := 69) (by rfl)))))) rfl
theorem wl_RL_123 : Cond.methodLink RL 123 yX11_copy ∈ WALL := wx_all (List.mem_append_right _ (List.mem_append_right _ (List.mem_append_right _ (List.mem_append_left _ (List.mem_of_getElem? (i := 70) (by rfl)))))) rfl
theorem wi_X11_copy : Cond.instanceMethod yX11_copy ∈ WALL := wx_all (List.mem_append_right _ (List.mem_append_right _ (List.mem_append_right _ (List.mem_append_left _ (List.mem_of_getElem? (i := 71) (by rfl)))))) rfl
theorem ws_RX11_X11_copy : Cond.selects RX11 yX11_copy yX11_copy ∈ WALL := wx_all (List.mem_append_right _ (List.mem_append_right _ (List.mem_append_right _ (List.mem_append_left _ (List.mem_of_getElem? (i := 72) (by rfl)))))) rfl
theorem wc_X11_copy : Cond.code yX11_copy prog_1_method_28_code 8 (Option.some Jvm.ClassFile.FieldType.int) ∈ WALL := wx_all (List.mem_append_right _ (List.mem_append_right _ (List.mem_append_right _ (List.mem_append_left _ (List.mem_of_getElem? (i := 73) (by rfl)))))) rfl
theorem wl_RX11_248 : Cond.methodLink RX11 248 yX7_takeCells ∈ WALL := wx_all (List.mem_append_right _ (List.mem_append_right _ (List.mem_append_right _ (List.mem_append_left _ (List.mem_of_getElem? (i := 74) (by rfl)))))) rfl
theorem wi_X7_takeCells : Cond.instanceMethod yX7_takeCells ∈ WALL := wx_all (List.mem_append_right _ (List.mem_append_right _ (List.mem_append_right _ (List.mem_append_left _ (List.mem_of_getElem? (i := 75) (by rfl)))))) rfl
theorem ws_RX7_X7_takeCells : Cond.selects RX7 yX7_takeCells yX7_takeCells ∈ WALL := wx_all (List.mem_append_right _ (List.mem_append_right _ (List.mem_append_right _ (List.mem_append_left _ (List.mem_of_getElem? (i := 76) (by rfl)))))) rfl
theorem wc_X7_takeCells : Cond.code yX7_takeCells prog_9_method_11_code 6 (Option.none : Option Jvm.ClassFile.FieldType) ∈ WALL := wx_all (List.mem_append_right _ (List.mem_append_right _ (List.mem_append_right _ (List.mem_append_left _ (List.mem_of_getElem? (i := 77) (by rfl)))))) rfl
theorem wl_RX7_34 : Cond.methodLink RX7 34 yX7_at ∈ WALL := wx_all (List.mem_append_right _ (List.mem_append_right _ (List.mem_append_right _ (List.mem_append_left _ (List.mem_of_getElem? (i := 78) (by rfl)))))) rfl
theorem wl_RX7_37 : Cond.methodLink RX7 37 yX7_store ∈ WALL := wx_all (List.mem_append_right _ (List.mem_append_right _ (List.mem_append_right _ (List.mem_append_left _ (List.mem_of_getElem? (i := 79) (by rfl)))))) rfl
theorem wl_RL_127 : Cond.methodLink RL 127 yX11_tell ∈ WALL := wx_all (List.mem_append_right _ (List.mem_append_right _ (List.mem_append_right _ (List.mem_append_left _ (List.mem_of_getElem? (i := 80) (by rfl)))))) rfl
theorem wi_X11_tell : Cond.instanceMethod yX11_tell ∈ WALL := wx_all (List.mem_append_right _ (List.mem_append_right _ (List.mem_append_right _ (List.mem_append_left _ (List.mem_of_getElem? (i := 81) (by rfl)))))) rfl
theorem ws_RX11_X11_tell : Cond.selects RX11 yX11_tell yX11_tell ∈ WALL := wx_all (List.mem_append_right _ (List.mem_append_right _ (List.mem_append_right _ (List.mem_append_left _ (List.mem_of_getElem? (i := 82) (by rfl)))))) rfl
theorem wc_X11_tell : Cond.code yX11_tell prog_1_method_29_code 3 (Option.some Jvm.ClassFile.FieldType.int) ∈ WALL := wx_all (List.mem_append_right _ (List.mem_append_right _ (List.mem_append_right _ (List.mem_append_left _ (List.mem_of_getElem? (i := 83) (by rfl)))))) rfl
theorem wl_RX11_252 : Cond.methodLink RX11 252 yX6_telling ∈ WALL := wx_all (List.mem_append_right _ (List.mem_append_right _ (List.mem_append_right _ (List.mem_append_left _ (List.mem_of_getElem? (i := 84) (by rfl)))))) rfl
theorem wi_X6_telling : Cond.instanceMethod yX6_telling ∈ WALL := wx_all (List.mem_append_right _ (List.mem_append_right _ (List.mem_append_right _ (List.mem_append_left _ (List.mem_of_getElem? (i := 85) (by rfl)))))) rfl
theorem ws_RX6_X6_telling : Cond.selects RX6 yX6_telling yX6_telling ∈ WALL := wx_all (List.mem_append_right _ (List.mem_append_right _ (List.mem_append_right _ (List.mem_append_left _ (List.mem_of_getElem? (i := 86) (by rfl)))))) rfl
theorem wm_RX6_RX6_telling : Cond.sameMethod RX6 RX6 "telling" "(LQuoitFeast$Trace;)I" ∈ WALL := wx_all (List.mem_append_right _ (List.mem_append_right _ (List.mem_append_right _ (List.mem_append_left _ (List.mem_of_getElem? (i := 87) (by rfl)))))) rfl
theorem ws_RX3_X6_telling : Cond.selects RX3 yX6_telling yX3_telling ∈ WALL := wx_all (List.mem_append_right _ (List.mem_append_right _ (List.mem_append_right _ (List.mem_append_left _ (List.mem_of_getElem? (i := 88) (by rfl)))))) rfl
theorem wi_X3_telling : Cond.instanceMethod yX3_telling ∈ WALL := wx_all (List.mem_append_right _ (List.mem_append_right _ (List.mem_append_right _ (List.mem_append_left _ (List.mem_of_getElem? (i := 89) (by rfl)))))) rfl
theorem wc_X3_telling : Cond.code yX3_telling prog_5_method_3_code 2 (Option.some Jvm.ClassFile.FieldType.int) ∈ WALL := wx_all (List.mem_append_right _ (List.mem_append_right _ (List.mem_append_right _ (List.mem_append_left _ (List.mem_of_getElem? (i := 90) (by rfl)))))) rfl
theorem wl_RX3_9 : Cond.methodLink RX3 9 yX10_leave ∈ WALL := wx_all (List.mem_append_right _ (List.mem_append_right _ (List.mem_append_right _ (List.mem_append_left _ (List.mem_of_getElem? (i := 91) (by rfl)))))) rfl
theorem wi_X10_leave : Cond.instanceMethod yX10_leave ∈ WALL := wx_all (List.mem_append_right _ (List.mem_append_right _ (List.mem_append_right _ (List.mem_append_left _ (List.mem_of_getElem? (i := 92) (by rfl)))))) rfl
theorem ws_RX10_X10_leave : Cond.selects RX10 yX10_leave yX10_leave ∈ WALL := wx_all (List.mem_append_right _ (List.mem_append_right _ (List.mem_append_right _ (List.mem_append_left _ (List.mem_of_getElem? (i := 93) (by rfl)))))) rfl
theorem wc_X10_leave : Cond.code yX10_leave prog_12_method_2_code 2 (Option.none : Option Jvm.ClassFile.FieldType) ∈ WALL := wx_all (List.mem_append_right _ (List.mem_append_right _ (List.mem_append_right _ (List.mem_append_left _ (List.mem_of_getElem? (i := 94) (by rfl)))))) rfl
theorem wl_RX3_15 : Cond.methodLink RX3 15 yX6_telling ∈ WALL := wx_all (List.mem_append_right _ (List.mem_append_right _ (List.mem_append_right _ (List.mem_append_left _ (List.mem_of_getElem? (i := 95) (by rfl)))))) rfl
theorem ws_RX8_X6_telling : Cond.selects RX8 yX6_telling yX8_telling ∈ WALL := wx_all (List.mem_append_right _ (List.mem_append_right _ (List.mem_append_right _ (List.mem_append_left _ (List.mem_of_getElem? (i := 96) (by rfl)))))) rfl
theorem wi_X8_telling : Cond.instanceMethod yX8_telling ∈ WALL := wx_all (List.mem_append_right _ (List.mem_append_right _ (List.mem_append_right _ (List.mem_append_left _ (List.mem_of_getElem? (i := 97) (by rfl)))))) rfl
theorem wc_X8_telling : Cond.code yX8_telling prog_10_method_3_code 3 (Option.some Jvm.ClassFile.FieldType.int) ∈ WALL := wx_all (List.mem_append_right _ (List.mem_append_right _ (List.mem_append_right _ (List.mem_append_left _ (List.mem_of_getElem? (i := 98) (by rfl)))))) rfl
theorem wl_RX8_9 : Cond.methodLink RX8 9 yX10_leave ∈ WALL := wx_all (List.mem_append_right _ (List.mem_append_right _ (List.mem_append_right _ (List.mem_append_left _ (List.mem_of_getElem? (i := 99) (by rfl)))))) rfl
theorem wl_RX8_15 : Cond.methodLink RX8 15 yX3_telling ∈ WALL := wx_all (List.mem_append_right _ (List.mem_append_right _ (List.mem_append_right _ (List.mem_append_left _ (List.mem_of_getElem? (i := 100) (by rfl)))))) rfl
theorem wl_RX8_19 : Cond.methodLink RX8 19 ⟨"QuoitFeast$Stranger", "plainTelling", "(LQuoitFeast$Trace;)I"⟩ ∈ WALL := wx_all (List.mem_append_right _ (List.mem_append_right _ (List.mem_append_right _ (List.mem_append_left _ (List.mem_of_getElem? (i := 101) (by rfl)))))) rfl
theorem wm_RX8_RX6_plainTelling : Cond.sameMethod RX8 RX6 "plainTelling" "(LQuoitFeast$Trace;)I" ∈ WALL := wx_all (List.mem_append_right _ (List.mem_append_right _ (List.mem_append_right _ (List.mem_append_left _ (List.mem_of_getElem? (i := 102) (by rfl)))))) rfl
theorem ws_RX8_RX8_plainTelling_LQuoitFeastTraceI : Cond.selects RX8 ⟨"QuoitFeast$Stranger", "plainTelling", "(LQuoitFeast$Trace;)I"⟩ yX6_plainTelling ∈ WALL := wx_all (List.mem_append_right _ (List.mem_append_right _ (List.mem_append_right _ (List.mem_append_left _ (List.mem_of_getElem? (i := 104) (by rfl)))))) rfl
theorem wi_X6_plainTelling : Cond.instanceMethod yX6_plainTelling ∈ WALL := wx_all (List.mem_append_right _ (List.mem_append_right _ (List.mem_append_right _ (List.mem_append_left _ (List.mem_of_getElem? (i := 105) (by rfl)))))) rfl
theorem wc_X6_plainTelling : Cond.code yX6_plainTelling prog_8_method_5_code 2 (Option.some Jvm.ClassFile.FieldType.int) ∈ WALL := wx_all (List.mem_append_right _ (List.mem_append_right _ (List.mem_append_right _ (List.mem_append_left _ (List.mem_of_getElem? (i := 106) (by rfl)))))) rfl
theorem wl_RX6_30 : Cond.methodLink RX6 30 yX10_leave ∈ WALL := wx_all (List.mem_append_right _ (List.mem_append_right _ (List.mem_append_right _ (List.mem_append_left _ (List.mem_of_getElem? (i := 107) (by rfl)))))) rfl
theorem wc_X6_telling : Cond.code yX6_telling prog_8_method_4_code 2 (Option.some Jvm.ClassFile.FieldType.int) ∈ WALL := wx_all (List.mem_append_right _ (List.mem_append_right _ (List.mem_append_right _ (List.mem_append_left _ (List.mem_of_getElem? (i := 108) (by rfl)))))) rfl
theorem wl_RX6_26 : Cond.methodLink RX6 26 yX6_plainTelling ∈ WALL := wx_all (List.mem_append_right _ (List.mem_append_right _ (List.mem_append_right _ (List.mem_append_left _ (List.mem_of_getElem? (i := 109) (by rfl)))))) rfl
theorem wl_RL_131 : Cond.methodLink RL 131 yX11_cheer ∈ WALL := wx_all (List.mem_append_right _ (List.mem_append_right _ (List.mem_append_right _ (List.mem_append_left _ (List.mem_of_getElem? (i := 110) (by rfl)))))) rfl
theorem wi_X11_cheer : Cond.instanceMethod yX11_cheer ∈ WALL := wx_all (List.mem_append_right _ (List.mem_append_right _ (List.mem_append_right _ (List.mem_append_left _ (List.mem_of_getElem? (i := 111) (by rfl)))))) rfl
theorem ws_RX11_X11_cheer : Cond.selects RX11 yX11_cheer yX11_cheer ∈ WALL := wx_all (List.mem_append_right _ (List.mem_append_right _ (List.mem_append_right _ (List.mem_append_left _ (List.mem_of_getElem? (i := 112) (by rfl)))))) rfl
theorem wc_X11_cheer : Cond.code yX11_cheer prog_1_method_30_code 3 (Option.some Jvm.ClassFile.FieldType.int) ∈ WALL := wx_all (List.mem_append_right _ (List.mem_append_right _ (List.mem_append_right _ (List.mem_append_left _ (List.mem_of_getElem? (i := 113) (by rfl)))))) rfl
theorem wl_RX11_256 : Cond.methodLink RX11 256 yX6_cheering ∈ WALL := wx_all (List.mem_append_right _ (List.mem_append_right _ (List.mem_append_right _ (List.mem_append_left _ (List.mem_of_getElem? (i := 114) (by rfl)))))) rfl
theorem wi_X6_cheering : Cond.instanceMethod yX6_cheering ∈ WALL := wx_all (List.mem_append_right _ (List.mem_append_right _ (List.mem_append_right _ (List.mem_append_left _ (List.mem_of_getElem? (i := 115) (by rfl)))))) rfl
theorem ws_RX6_X6_cheering : Cond.selects RX6 yX6_cheering yX6_cheering ∈ WALL := wx_all (List.mem_append_right _ (List.mem_append_right _ (List.mem_append_right _ (List.mem_append_left _ (List.mem_of_getElem? (i := 116) (by rfl)))))) rfl
theorem wm_RX6_RX6_cheering : Cond.sameMethod RX6 RX6 "cheering" "(LQuoitFeast$Trace;)I" ∈ WALL := wx_all (List.mem_append_right _ (List.mem_append_right _ (List.mem_append_right _ (List.mem_append_left _ (List.mem_of_getElem? (i := 117) (by rfl)))))) rfl
theorem ws_RX3_X6_cheering : Cond.selects RX3 yX6_cheering yX6_cheering ∈ WALL := wx_all (List.mem_append_right _ (List.mem_append_right _ (List.mem_append_right _ (List.mem_append_left _ (List.mem_of_getElem? (i := 118) (by rfl)))))) rfl
theorem ws_RX8_X6_cheering : Cond.selects RX8 yX6_cheering yX8_cheering ∈ WALL := wx_all (List.mem_append_right _ (List.mem_append_right _ (List.mem_append_right _ (List.mem_append_left _ (List.mem_of_getElem? (i := 119) (by rfl)))))) rfl
theorem wi_X8_cheering : Cond.instanceMethod yX8_cheering ∈ WALL := wx_all (List.mem_append_right _ (List.mem_append_right _ (List.mem_append_right _ (List.mem_append_left _ (List.mem_of_getElem? (i := 120) (by rfl)))))) rfl
theorem wc_X8_cheering : Cond.code yX8_cheering prog_10_method_4_code 2 (Option.some Jvm.ClassFile.FieldType.int) ∈ WALL := wx_all (List.mem_append_right _ (List.mem_append_right _ (List.mem_append_right _ (List.mem_append_left _ (List.mem_of_getElem? (i := 121) (by rfl)))))) rfl
theorem wc_X6_cheering : Cond.code yX6_cheering prog_8_method_6_code 2 (Option.some Jvm.ClassFile.FieldType.int) ∈ WALL := wx_all (List.mem_append_right _ (List.mem_append_right _ (List.mem_append_right _ (List.mem_append_left _ (List.mem_of_getElem? (i := 122) (by rfl)))))) rfl
theorem wl_RL_135 : Cond.methodLink RL 135 yX11_as ∈ WALL := wx_all (List.mem_append_right _ (List.mem_append_right _ (List.mem_append_right _ (List.mem_append_left _ (List.mem_of_getElem? (i := 123) (by rfl)))))) rfl
theorem wi_X11_as : Cond.instanceMethod yX11_as ∈ WALL := wx_all (List.mem_append_right _ (List.mem_append_right _ (List.mem_append_right _ (List.mem_append_left _ (List.mem_of_getElem? (i := 124) (by rfl)))))) rfl
theorem ws_RX11_X11_as : Cond.selects RX11 yX11_as yX11_as ∈ WALL := wx_all (List.mem_append_right _ (List.mem_append_right _ (List.mem_append_right _ (List.mem_append_left _ (List.mem_of_getElem? (i := 125) (by rfl)))))) rfl
theorem wc_X11_as : Cond.code yX11_as prog_1_method_31_code 4 (Option.some Jvm.ClassFile.FieldType.int) ∈ WALL := wx_all (List.mem_append_right _ (List.mem_append_right _ (List.mem_append_right _ (List.mem_append_left _ (List.mem_of_getElem? (i := 126) (by rfl)))))) rfl
theorem wl_RX11_259 : Cond.methodLink RX11 259 yX11_isOfKind ∈ WALL := wx_all (List.mem_append_right _ (List.mem_append_right _ (List.mem_append_right _ (List.mem_append_left _ (List.mem_of_getElem? (i := 127) (by rfl)))))) rfl
theorem wt_X11_isOfKind : Cond.static yX11_isOfKind ∈ WALL := wx_all (List.mem_append_right _ (List.mem_append_right _ (List.mem_append_right _ (List.mem_append_left _ (List.mem_of_getElem? (i := 128) (by rfl)))))) rfl
theorem wc_X11_isOfKind : Cond.code yX11_isOfKind prog_1_method_40_code 2 (Option.some Jvm.ClassFile.FieldType.boolean) ∈ WALL := wx_all (List.mem_append_right _ (List.mem_append_right _ (List.mem_append_right _ (List.mem_append_left _ (List.mem_of_getElem? (i := 129) (by rfl)))))) rfl
theorem wl_RL_139 : Cond.methodLink RL 139 yX11_trace ∈ WALL := wx_all (List.mem_append_right _ (List.mem_append_right _ (List.mem_append_right _ (List.mem_append_left _ (List.mem_of_getElem? (i := 130) (by rfl)))))) rfl
theorem wi_X11_trace : Cond.instanceMethod yX11_trace ∈ WALL := wx_all (List.mem_append_right _ (List.mem_append_right _ (List.mem_append_right _ (List.mem_append_left _ (List.mem_of_getElem? (i := 131) (by rfl)))))) rfl
theorem ws_RX11_X11_trace : Cond.selects RX11 yX11_trace yX11_trace ∈ WALL := wx_all (List.mem_append_right _ (List.mem_append_right _ (List.mem_append_right _ (List.mem_append_left _ (List.mem_of_getElem? (i := 132) (by rfl)))))) rfl
theorem wc_X11_trace : Cond.code yX11_trace prog_1_method_32_code 1 (Option.some Jvm.ClassFile.FieldType.int) ∈ WALL := wx_all (List.mem_append_right _ (List.mem_append_right _ (List.mem_append_right _ (List.mem_append_left _ (List.mem_of_getElem? (i := 133) (by rfl)))))) rfl
theorem wl_RL_144 : Cond.methodLink RL 144 yX11_fault ∈ WALL := wx_all (List.mem_append_right _ (List.mem_append_right _ (List.mem_append_right _ (List.mem_append_left _ (List.mem_of_getElem? (i := 134) (by rfl)))))) rfl
theorem wi_X11_fault : Cond.instanceMethod yX11_fault ∈ WALL := wx_all (List.mem_append_right _ (List.mem_append_right _ (List.mem_append_right _ (List.mem_append_left _ (List.mem_of_getElem? (i := 135) (by rfl)))))) rfl
theorem ws_RX11_X11_fault : Cond.selects RX11 yX11_fault yX11_fault ∈ WALL := wx_all (List.mem_append_right _ (List.mem_append_right _ (List.mem_append_right _ (List.mem_append_left _ (List.mem_of_getElem? (i := 136) (by rfl)))))) rfl
theorem wc_X11_fault : Cond.code yX11_fault prog_1_method_33_code 1 (Option.some Jvm.ClassFile.FieldType.int) ∈ WALL := wx_all (List.mem_append_right _ (List.mem_append_right _ (List.mem_append_right _ (List.mem_append_left _ (List.mem_of_getElem? (i := 137) (by rfl)))))) rfl
theorem wl_RL_148 : Cond.methodLink RL 148 yX11_many ∈ WALL := wx_all (List.mem_append_right _ (List.mem_append_right _ (List.mem_append_right _ (List.mem_append_left _ (List.mem_of_getElem? (i := 138) (by rfl)))))) rfl
theorem wi_X11_many : Cond.instanceMethod yX11_many ∈ WALL := wx_all (List.mem_append_right _ (List.mem_append_right _ (List.mem_append_right _ (List.mem_append_left _ (List.mem_of_getElem? (i := 139) (by rfl)))))) rfl
theorem ws_RX11_X11_many : Cond.selects RX11 yX11_many yX11_many ∈ WALL := wx_all (List.mem_append_right _ (List.mem_append_right _ (List.mem_append_right _ (List.mem_append_left _ (List.mem_of_getElem? (i := 140) (by rfl)))))) rfl
theorem wc_X11_many : Cond.code yX11_many prog_1_method_34_code 2 (Option.some Jvm.ClassFile.FieldType.int) ∈ WALL := wx_all (List.mem_append_right _ (List.mem_append_right _ (List.mem_append_right _ (List.mem_append_left _ (List.mem_of_getElem? (i := 141) (by rfl)))))) rfl
theorem wl_RX11_269 : Cond.methodLink RX11 269 yX0_ringsInAll ∈ WALL := wx_all (List.mem_append_right _ (List.mem_append_right _ (List.mem_append_right _ (List.mem_append_left _ (List.mem_of_getElem? (i := 142) (by rfl)))))) rfl
theorem wi_X0_ringsInAll : Cond.instanceMethod yX0_ringsInAll ∈ WALL := wx_all (List.mem_append_right _ (List.mem_append_right _ (List.mem_append_right _ (List.mem_append_left _ (List.mem_of_getElem? (i := 143) (by rfl)))))) rfl
theorem ws_RX0_X0_ringsInAll : Cond.selects RX0 yX0_ringsInAll yX0_ringsInAll ∈ WALL := wx_all (List.mem_append_right _ (List.mem_append_right _ (List.mem_append_right _ (List.mem_append_left _ (List.mem_of_getElem? (i := 144) (by rfl)))))) rfl
theorem wc_X0_ringsInAll : Cond.code yX0_ringsInAll prog_2_method_5_code 4 (Option.some Jvm.ClassFile.FieldType.int) ∈ WALL := wx_all (List.mem_append_right _ (List.mem_append_right _ (List.mem_append_right _ (List.mem_append_left _ (List.mem_of_getElem? (i := 145) (by rfl)))))) rfl
theorem wl_RL_10_c : Cond.classLink RL 10 RX12 ∈ WALL := wx_all (List.mem_append_right _ (List.mem_append_right _ (List.mem_append_right _ (List.mem_append_left _ (List.mem_of_getElem? (i := 146) (by rfl)))))) rfl
theorem wk_RX12 : Cond.instantiable RX12 38 ∈ WALL := wx_all (List.mem_append_right _ (List.mem_append_right _ (List.mem_append_right _ (List.mem_append_left _ (List.mem_of_getElem? (i := 147) (by rfl)))))) rfl
theorem wl_RL_12 : Cond.methodLink RL 12 yX12_init ∈ WALL := wx_all (List.mem_append_right _ (List.mem_append_right _ (List.mem_append_right _ (List.mem_append_left _ (List.mem_of_getElem? (i := 148) (by rfl)))))) rfl
theorem wi_X12_init : Cond.instanceMethod yX12_init ∈ WALL := wx_all (List.mem_append_right _ (List.mem_append_right _ (List.mem_append_right _ (List.mem_append_left _ (List.mem_of_getElem? (i := 149) (by rfl)))))) rfl
theorem wc_X12_init : Cond.code yX12_init prog_14_method_1_code 1 (Option.none : Option Jvm.ClassFile.FieldType) ∈ WALL := wx_all (List.mem_append_right _ (List.mem_append_right _ (List.mem_append_right _ (List.mem_append_left _ (List.mem_of_getElem? (i := 150) (by rfl)))))) rfl
theorem wl_RX12_1 : Cond.methodLink RX12 1 objectInit ∈ WALL := wx_all (List.mem_append_right _ (List.mem_append_right _ (List.mem_append_right _ (List.mem_append_left _ (List.mem_of_getElem? (i := 151) (by rfl)))))) rfl
theorem wl_RX12_79 : Cond.fieldLink RX12 79 RX12 "fault" "I" ∈ WALL := wx_all (List.mem_append_right _ (List.mem_append_right _ (List.mem_append_right _ (List.mem_append_left _ (List.mem_of_getElem? (i := 152) (by rfl)))))) rfl
theorem wl_RX12_255 : Cond.fieldLink RX12 255 RX12 "trace" "I" ∈ WALL := wx_all (List.mem_append_right _ (List.mem_append_right _ (List.mem_append_right _ (List.mem_append_left _ (List.mem_of_getElem? (i := 153) (by rfl)))))) rfl
theorem wl_RX12_9 : Cond.fieldLink RX12 9 RX12 "sorts" "[I" ∈ WALL := wx_all (List.mem_append_right _ (List.mem_append_right _ (List.mem_append_right _ (List.mem_append_left _ (List.mem_of_getElem? (i := 154) (by rfl)))))) rfl
theorem wl_RX12_13 : Cond.fieldLink RX12 13 RX12 "sheetLong" "[I" ∈ WALL := wx_all (List.mem_append_right _ (List.mem_append_right _ (List.mem_append_right _ (List.mem_append_left _ (List.mem_of_getElem? (i := 155) (by rfl)))))) rfl
theorem wl_RX12_16 : Cond.fieldLink RX12 16 RX12 "cells" "[I" ∈ WALL := wx_all (List.mem_append_right _ (List.mem_append_right _ (List.mem_append_right _ (List.mem_append_left _ (List.mem_of_getElem? (i := 156) (by rfl)))))) rfl
theorem wl_RX12_126 : Cond.fieldLink RX12 126 RX12 "frost" "I" ∈ WALL := wx_all (List.mem_append_right _ (List.mem_append_right _ (List.mem_append_right _ (List.mem_append_left _ (List.mem_of_getElem? (i := 157) (by rfl)))))) rfl
theorem wl_RX12_89 : Cond.fieldLink RX12 89 RX12 "girls" "I" ∈ WALL := wx_all (List.mem_append_right _ (List.mem_append_right _ (List.mem_append_right _ (List.mem_append_left _ (List.mem_of_getElem? (i := 158) (by rfl)))))) rfl
theorem wl_RX12_92 : Cond.fieldLink RX12 92 RX12 "throwers" "I" ∈ WALL := wx_all (List.mem_append_right _ (List.mem_append_right _ (List.mem_append_right _ (List.mem_append_left _ (List.mem_of_getElem? (i := 159) (by rfl)))))) rfl
theorem wl_RX12_19 : Cond.fieldLink RX12 19 RX12 "yards" "[I" ∈ WALL := wx_all (List.mem_append_right _ (List.mem_append_right _ (List.mem_append_right _ (List.mem_append_left _ (List.mem_of_getElem? (i := 160) (by rfl)))))) rfl
theorem wl_RX12_22 : Cond.fieldLink RX12 22 RX12 "lean" "[I" ∈ WALL := wx_all (List.mem_append_right _ (List.mem_append_right _ (List.mem_append_right _ (List.mem_append_left _ (List.mem_of_getElem? (i := 161) (by rfl)))))) rfl
theorem wl_RX12_25 : Cond.fieldLink RX12 25 RX12 "kind" "[I" ∈ WALL := wx_all (List.mem_append_right _ (List.mem_append_right _ (List.mem_append_right _ (List.mem_append_left _ (List.mem_of_getElem? (i := 162) (by rfl)))))) rfl
theorem wl_RX12_28 : Cond.fieldLink RX12 28 RX12 "arm" "[I" ∈ WALL := wx_all (List.mem_append_right _ (List.mem_append_right _ (List.mem_append_right _ (List.mem_append_left _ (List.mem_of_getElem? (i := 163) (by rfl)))))) rfl
theorem wl_RX12_31 : Cond.fieldLink RX12 31 RX12 "lies" "[I" ∈ WALL := wx_all (List.mem_append_right _ (List.mem_append_right _ (List.mem_append_right _ (List.mem_append_left _ (List.mem_of_getElem? (i := 164) (by rfl)))))) rfl
theorem wl_RX12_34 : Cond.fieldLink RX12 34 RX12 "whose" "[I" ∈ WALL := wx_all (List.mem_append_right _ (List.mem_append_right _ (List.mem_append_right _ (List.mem_append_left _ (List.mem_of_getElem? (i := 165) (by rfl)))))) rfl
theorem wl_RX12_37 : Cond.fieldLink RX12 37 RX12 "measures" "[I" ∈ WALL := wx_all (List.mem_append_right _ (List.mem_append_right _ (List.mem_append_right _ (List.mem_append_left _ (List.mem_of_getElem? (i := 166) (by rfl)))))) rfl
theorem wl_RX12_95 : Cond.fieldLink RX12 95 RX12 "at" "I" ∈ WALL := wx_all (List.mem_append_right _ (List.mem_append_right _ (List.mem_append_right _ (List.mem_append_left _ (List.mem_of_getElem? (i := 167) (by rfl)))))) rfl
theorem wl_RX12_123 : Cond.fieldLink RX12 123 RX12 "readFrost" "I" ∈ WALL := wx_all (List.mem_append_right _ (List.mem_append_right _ (List.mem_append_right _ (List.mem_append_left _ (List.mem_of_getElem? (i := 168) (by rfl)))))) rfl
theorem wl_RX12_129 : Cond.fieldLink RX12 129 RX12 "readGirls" "I" ∈ WALL := wx_all (List.mem_append_right _ (List.mem_append_right _ (List.mem_append_right _ (List.mem_append_left _ (List.mem_of_getElem? (i := 169) (by rfl)))))) rfl
theorem wl_RX12_132 : Cond.fieldLink RX12 132 RX12 "readThrowers" "I" ∈ WALL := wx_all (List.mem_append_right _ (List.mem_append_right _ (List.mem_append_right _ (List.mem_append_left _ (List.mem_of_getElem? (i := 170) (by rfl)))))) rfl
theorem wl_RX12_40 : Cond.fieldLink RX12 40 RX12 "readGirl" "[I" ∈ WALL := wx_all (List.mem_append_right _ (List.mem_append_right _ (List.mem_append_right _ (List.mem_append_left _ (List.mem_of_getElem? (i := 171) (by rfl)))))) rfl
theorem wl_RX12_43 : Cond.fieldLink RX12 43 RX12 "readThrower" "[I" ∈ WALL := wx_all (List.mem_append_right _ (List.mem_append_right _ (List.mem_append_right _ (List.mem_append_left _ (List.mem_of_getElem? (i := 172) (by rfl)))))) rfl
theorem wl_RX12_186 : Cond.fieldLink RX12 186 RX12 "keptFrost" "I" ∈ WALL := wx_all (List.mem_append_right _ (List.mem_append_right _ (List.mem_append_right _ (List.mem_append_left _ (List.mem_of_getElem? (i := 173) (by rfl)))))) rfl
theorem wl_RX12_46 : Cond.fieldLink RX12 46 RX12 "keptLies" "[I" ∈ WALL := wx_all (List.mem_append_right _ (List.mem_append_right _ (List.mem_append_right _ (List.mem_append_left _ (List.mem_of_getElem? (i := 174) (by rfl)))))) rfl
theorem wl_RX12_49 : Cond.fieldLink RX12 49 RX12 "keptWhose" "[I" ∈ WALL := wx_all (List.mem_append_right _ (List.mem_append_right _ (List.mem_append_right _ (List.mem_append_left _ (List.mem_of_getElem? (i := 175) (by rfl)))))) rfl
theorem wl_RX12_52 : Cond.fieldLink RX12 52 RX12 "keptMeasures" "[I" ∈ WALL := wx_all (List.mem_append_right _ (List.mem_append_right _ (List.mem_append_right _ (List.mem_append_left _ (List.mem_of_getElem? (i := 176) (by rfl)))))) rfl
theorem wl_RX12_189 : Cond.fieldLink RX12 189 RX12 "ringersThrown" "I" ∈ WALL := wx_all (List.mem_append_right _ (List.mem_append_right _ (List.mem_append_right _ (List.mem_append_left _ (List.mem_of_getElem? (i := 177) (by rfl)))))) rfl
theorem wl_RX12_192 : Cond.fieldLink RX12 192 RX12 "ringersOn" "I" ∈ WALL := wx_all (List.mem_append_right _ (List.mem_append_right _ (List.mem_append_right _ (List.mem_append_left _ (List.mem_of_getElem? (i := 178) (by rfl)))))) rfl
theorem wl_RX12_55 : Cond.fieldLink RX12 55 RX12 "row" "[I" ∈ WALL := wx_all (List.mem_append_right _ (List.mem_append_right _ (List.mem_append_right _ (List.mem_append_left _ (List.mem_of_getElem? (i := 179) (by rfl)))))) rfl
theorem wl_RX12_58 : Cond.fieldLink RX12 58 RX12 "best" "[I" ∈ WALL := wx_all (List.mem_append_right _ (List.mem_append_right _ (List.mem_append_right _ (List.mem_append_left _ (List.mem_of_getElem? (i := 180) (by rfl)))))) rfl
theorem wl_RX12_219 : Cond.fieldLink RX12 219 RX12 "bestGirls" "I" ∈ WALL := wx_all (List.mem_append_right _ (List.mem_append_right _ (List.mem_append_right _ (List.mem_append_left _ (List.mem_of_getElem? (i := 181) (by rfl)))))) rfl
theorem wl_RX12_222 : Cond.fieldLink RX12 222 RX12 "bestSum" "I" ∈ WALL := wx_all (List.mem_append_right _ (List.mem_append_right _ (List.mem_append_right _ (List.mem_append_left _ (List.mem_of_getElem? (i := 182) (by rfl)))))) rfl
theorem wl_RX12_61 : Cond.fieldLink RX12 61 RX12 "wedTo" "[I" ∈ WALL := wx_all (List.mem_append_right _ (List.mem_append_right _ (List.mem_append_right _ (List.mem_append_left _ (List.mem_of_getElem? (i := 183) (by rfl)))))) rfl
theorem wl_RX12_64 : Cond.fieldLink RX12 64 RX12 "wedBy" "[I" ∈ WALL := wx_all (List.mem_append_right _ (List.mem_append_right _ (List.mem_append_right _ (List.mem_append_left _ (List.mem_of_getElem? (i := 184) (by rfl)))))) rfl
theorem wl_RX12_67 : Cond.fieldLink RX12 67 RX12 "askedSet" "[I" ∈ WALL := wx_all (List.mem_append_right _ (List.mem_append_right _ (List.mem_append_right _ (List.mem_append_left _ (List.mem_of_getElem? (i := 185) (by rfl)))))) rfl
theorem wl_RX12_135 : Cond.fieldLink RX12 135 RX12 "readings" "I" ∈ WALL := wx_all (List.mem_append_right _ (List.mem_append_right _ (List.mem_append_right _ (List.mem_append_left _ (List.mem_of_getElem? (i := 186) (by rfl)))))) rfl
theorem wl_RX12_70 : Cond.fieldLink RX12 70 RX12 "readWho" "[I" ∈ WALL := wx_all (List.mem_append_right _ (List.mem_append_right _ (List.mem_append_right _ (List.mem_append_left _ (List.mem_of_getElem? (i := 187) (by rfl)))))) rfl
theorem wl_RX12_73 : Cond.fieldLink RX12 73 RX12 "readWhom" "[I" ∈ WALL := wx_all (List.mem_append_right _ (List.mem_append_right _ (List.mem_append_right _ (List.mem_append_left _ (List.mem_of_getElem? (i := 188) (by rfl)))))) rfl
theorem wl_RX12_76 : Cond.fieldLink RX12 76 RX12 "readMeasure" "[I" ∈ WALL := wx_all (List.mem_append_right _ (List.mem_append_right _ (List.mem_append_right _ (List.mem_append_left _ (List.mem_of_getElem? (i := 189) (by rfl)))))) rfl
theorem wl_RL_17 : Cond.methodLink RL 17 yX12_dale ∈ WALL := wx_all (List.mem_append_right _ (List.mem_append_right _ (List.mem_append_right _ (List.mem_append_right _ (List.mem_append_left _ (List.mem_of_getElem? (i := 27) (by rfl))))))) rfl
theorem wi_X12_dale : Cond.instanceMethod yX12_dale ∈ WALL := wx_all (List.mem_append_right _ (List.mem_append_right _ (List.mem_append_right _ (List.mem_append_right _ (List.mem_append_left _ (List.mem_of_getElem? (i := 28) (by rfl))))))) rfl
theorem ws_RX12_X12_dale : Cond.selects RX12 yX12_dale yX12_dale ∈ WALL := wx_all (List.mem_append_right _ (List.mem_append_right _ (List.mem_append_right _ (List.mem_append_right _ (List.mem_append_left _ (List.mem_of_getElem? (i := 29) (by rfl))))))) rfl
theorem wc_X12_dale : Cond.code yX12_dale prog_14_method_14_code 7 (Option.some Jvm.ClassFile.FieldType.int) ∈ WALL := wx_all (List.mem_append_right _ (List.mem_append_right _ (List.mem_append_right _ (List.mem_append_right _ (List.mem_append_left _ (List.mem_of_getElem? (i := 30) (by rfl))))))) rfl
theorem wl_RX12_102 : Cond.methodLink RX12 102 yX12_isSheet ∈ WALL := wx_all (List.mem_append_right _ (List.mem_append_right _ (List.mem_append_right _ (List.mem_append_right _ (List.mem_append_left _ (List.mem_of_getElem? (i := 31) (by rfl))))))) rfl
theorem wt_X12_isSheet : Cond.static yX12_isSheet ∈ WALL := wx_all (List.mem_append_right _ (List.mem_append_right _ (List.mem_append_right _ (List.mem_append_right _ (List.mem_append_left _ (List.mem_of_getElem? (i := 32) (by rfl))))))) rfl
theorem wc_X12_isSheet : Cond.code yX12_isSheet prog_14_method_6_code 1 (Option.some Jvm.ClassFile.FieldType.boolean) ∈ WALL := wx_all (List.mem_append_right _ (List.mem_append_right _ (List.mem_append_right _ (List.mem_append_right _ (List.mem_append_left _ (List.mem_of_getElem? (i := 33) (by rfl))))))) rfl
theorem wl_RX12_85 : Cond.methodLink RX12 85 yX12_within ∈ WALL := wx_all (List.mem_append_right _ (List.mem_append_right _ (List.mem_append_right _ (List.mem_append_right _ (List.mem_append_left _ (List.mem_of_getElem? (i := 34) (by rfl))))))) rfl
theorem wt_X12_within : Cond.static yX12_within ∈ WALL := wx_all (List.mem_append_right _ (List.mem_append_right _ (List.mem_append_right _ (List.mem_append_right _ (List.mem_append_left _ (List.mem_of_getElem? (i := 35) (by rfl))))))) rfl
theorem wc_X12_within : Cond.code yX12_within prog_14_method_5_code 3 (Option.some Jvm.ClassFile.FieldType.boolean) ∈ WALL := wx_all (List.mem_append_right _ (List.mem_append_right _ (List.mem_append_right _ (List.mem_append_right _ (List.mem_append_left _ (List.mem_of_getElem? (i := 36) (by rfl))))))) rfl
theorem wl_RX12_106 : Cond.methodLink RX12 106 yX12_isSort ∈ WALL := wx_all (List.mem_append_right _ (List.mem_append_right _ (List.mem_append_right _ (List.mem_append_right _ (List.mem_append_left _ (List.mem_of_getElem? (i := 37) (by rfl))))))) rfl
theorem wt_X12_isSort : Cond.static yX12_isSort ∈ WALL := wx_all (List.mem_append_right _ (List.mem_append_right _ (List.mem_append_right _ (List.mem_append_right _ (List.mem_append_left _ (List.mem_of_getElem? (i := 38) (by rfl))))))) rfl
theorem wc_X12_isSort : Cond.code yX12_isSort prog_14_method_7_code 1 (Option.some Jvm.ClassFile.FieldType.boolean) ∈ WALL := wx_all (List.mem_append_right _ (List.mem_append_right _ (List.mem_append_right _ (List.mem_append_right _ (List.mem_append_left _ (List.mem_of_getElem? (i := 39) (by rfl))))))) rfl
theorem wl_RX12_109 : Cond.methodLink RX12 109 yX12_against ∈ WALL := wx_all (List.mem_append_right _ (List.mem_append_right _ (List.mem_append_right _ (List.mem_append_right _ (List.mem_append_left _ (List.mem_of_getElem? (i := 40) (by rfl))))))) rfl
theorem wi_X12_against : Cond.instanceMethod yX12_against ∈ WALL := wx_all (List.mem_append_right _ (List.mem_append_right _ (List.mem_append_right _ (List.mem_append_right _ (List.mem_append_left _ (List.mem_of_getElem? (i := 42) (by rfl))))))) rfl
theorem wc_X12_against : Cond.code yX12_against prog_14_method_8_code 5 (Option.some Jvm.ClassFile.FieldType.int) ∈ WALL := wx_all (List.mem_append_right _ (List.mem_append_right _ (List.mem_append_right _ (List.mem_append_right _ (List.mem_append_left _ (List.mem_of_getElem? (i := 43) (by rfl))))))) rfl
theorem wl_RX12_113 : Cond.methodLink RX12 113 yX12_fails ∈ WALL := wx_all (List.mem_append_right _ (List.mem_append_right _ (List.mem_append_right _ (List.mem_append_right _ (List.mem_append_left _ (List.mem_of_getElem? (i := 44) (by rfl))))))) rfl
theorem wi_X12_fails : Cond.instanceMethod yX12_fails ∈ WALL := wx_all (List.mem_append_right _ (List.mem_append_right _ (List.mem_append_right _ (List.mem_append_right _ (List.mem_append_left _ (List.mem_of_getElem? (i := 46) (by rfl))))))) rfl
theorem wc_X12_fails : Cond.code yX12_fails prog_14_method_3_code 2 (Option.some Jvm.ClassFile.FieldType.int) ∈ WALL := wx_all (List.mem_append_right _ (List.mem_append_right _ (List.mem_append_right _ (List.mem_append_right _ (List.mem_append_left _ (List.mem_of_getElem? (i := 47) (by rfl))))))) rfl
theorem wl_RX12_117 : Cond.methodLink RX12 117 yX12_readDale ∈ WALL := wx_all (List.mem_append_right _ (List.mem_append_right _ (List.mem_append_right _ (List.mem_append_right _ (List.mem_append_left _ (List.mem_of_getElem? (i := 48) (by rfl))))))) rfl
theorem wi_X12_readDale : Cond.instanceMethod yX12_readDale ∈ WALL := wx_all (List.mem_append_right _ (List.mem_append_right _ (List.mem_append_right _ (List.mem_append_right _ (List.mem_append_left _ (List.mem_of_getElem? (i := 50) (by rfl))))))) rfl
theorem wc_X12_readDale : Cond.code yX12_readDale prog_14_method_16_code 2 (Option.some Jvm.ClassFile.FieldType.boolean) ∈ WALL := wx_all (List.mem_append_right _ (List.mem_append_right _ (List.mem_append_right _ (List.mem_append_right _ (List.mem_append_left _ (List.mem_of_getElem? (i := 51) (by rfl))))))) rfl
theorem wl_RX12_138 : Cond.methodLink RX12 138 yX12_isSign ∈ WALL := wx_all (List.mem_append_right _ (List.mem_append_right _ (List.mem_append_right _ (List.mem_append_right _ (List.mem_append_left _ (List.mem_of_getElem? (i := 52) (by rfl))))))) rfl
theorem wi_X12_isSign : Cond.instanceMethod yX12_isSign ∈ WALL := wx_all (List.mem_append_right _ (List.mem_append_right _ (List.mem_append_right _ (List.mem_append_right _ (List.mem_append_left _ (List.mem_of_getElem? (i := 54) (by rfl))))))) rfl
theorem wc_X12_isSign : Cond.code yX12_isSign prog_14_method_13_code 3 (Option.some Jvm.ClassFile.FieldType.boolean) ∈ WALL := wx_all (List.mem_append_right _ (List.mem_append_right _ (List.mem_append_right _ (List.mem_append_right _ (List.mem_append_left _ (List.mem_of_getElem? (i := 55) (by rfl))))))) rfl
theorem wl_RX12_98 : Cond.methodLink RX12 98 yX12_isNext ∈ WALL := wx_all (List.mem_append_right _ (List.mem_append_right _ (List.mem_append_right _ (List.mem_append_right _ (List.mem_append_left _ (List.mem_of_getElem? (i := 56) (by rfl))))))) rfl
theorem wi_X12_isNext : Cond.instanceMethod yX12_isNext ∈ WALL := wx_all (List.mem_append_right _ (List.mem_append_right _ (List.mem_append_right _ (List.mem_append_right _ (List.mem_append_left _ (List.mem_of_getElem? (i := 58) (by rfl))))))) rfl
theorem wc_X12_isNext : Cond.code yX12_isNext prog_14_method_12_code 3 (Option.some Jvm.ClassFile.FieldType.boolean) ∈ WALL := wx_all (List.mem_append_right _ (List.mem_append_right _ (List.mem_append_right _ (List.mem_append_right _ (List.mem_append_left _ (List.mem_of_getElem? (i := 59) (by rfl))))))) rfl
theorem wl_RX12_141 : Cond.methodLink RX12 141 yX12_digit ∈ WALL := wx_all (List.mem_append_right _ (List.mem_append_right _ (List.mem_append_right _ (List.mem_append_right _ (List.mem_append_left _ (List.mem_of_getElem? (i := 60) (by rfl))))))) rfl
theorem wi_X12_digit : Cond.instanceMethod yX12_digit ∈ WALL := wx_all (List.mem_append_right _ (List.mem_append_right _ (List.mem_append_right _ (List.mem_append_right _ (List.mem_append_left _ (List.mem_of_getElem? (i := 62) (by rfl))))))) rfl
theorem wc_X12_digit : Cond.code yX12_digit prog_14_method_11_code 4 (Option.some Jvm.ClassFile.FieldType.int) ∈ WALL := wx_all (List.mem_append_right _ (List.mem_append_right _ (List.mem_append_right _ (List.mem_append_right _ (List.mem_append_left _ (List.mem_of_getElem? (i := 63) (by rfl))))))) rfl
theorem wl_RX12_145 : Cond.methodLink RX12 145 yX12_readTheGirl ∈ WALL := wx_all (List.mem_append_right _ (List.mem_append_right _ (List.mem_append_right _ (List.mem_append_right _ (List.mem_append_left _ (List.mem_of_getElem? (i := 64) (by rfl))))))) rfl
theorem wi_X12_readTheGirl : Cond.instanceMethod yX12_readTheGirl ∈ WALL := wx_all (List.mem_append_right _ (List.mem_append_right _ (List.mem_append_right _ (List.mem_append_right _ (List.mem_append_left _ (List.mem_of_getElem? (i := 66) (by rfl))))))) rfl
theorem wc_X12_readTheGirl : Cond.code yX12_readTheGirl prog_14_method_17_code 3 (Option.some Jvm.ClassFile.FieldType.boolean) ∈ WALL := wx_all (List.mem_append_right _ (List.mem_append_right _ (List.mem_append_right _ (List.mem_append_right _ (List.mem_append_left _ (List.mem_of_getElem? (i := 67) (by rfl))))))) rfl
theorem wl_RX12_148 : Cond.methodLink RX12 148 yX12_readTheThrower ∈ WALL := wx_all (List.mem_append_right _ (List.mem_append_right _ (List.mem_append_right _ (List.mem_append_right _ (List.mem_append_left _ (List.mem_of_getElem? (i := 68) (by rfl))))))) rfl
theorem wi_X12_readTheThrower : Cond.instanceMethod yX12_readTheThrower ∈ WALL := wx_all (List.mem_append_right _ (List.mem_append_right _ (List.mem_append_right _ (List.mem_append_right _ (List.mem_append_left _ (List.mem_of_getElem? (i := 70) (by rfl))))))) rfl
theorem wc_X12_readTheThrower : Cond.code yX12_readTheThrower prog_14_method_18_code 4 (Option.some Jvm.ClassFile.FieldType.boolean) ∈ WALL := wx_all (List.mem_append_right _ (List.mem_append_right _ (List.mem_append_right _ (List.mem_append_right _ (List.mem_append_left _ (List.mem_of_getElem? (i := 71) (by rfl))))))) rfl
theorem wl_RX12_120 : Cond.methodLink RX12 120 yX12_takeDale ∈ WALL := wx_all (List.mem_append_right _ (List.mem_append_right _ (List.mem_append_right _ (List.mem_append_right _ (List.mem_append_left _ (List.mem_of_getElem? (i := 72) (by rfl))))))) rfl
theorem wi_X12_takeDale : Cond.instanceMethod yX12_takeDale ∈ WALL := wx_all (List.mem_append_right _ (List.mem_append_right _ (List.mem_append_right _ (List.mem_append_right _ (List.mem_append_left _ (List.mem_of_getElem? (i := 74) (by rfl))))))) rfl
theorem wc_X12_takeDale : Cond.code yX12_takeDale prog_14_method_15_code 2 (Option.none : Option Jvm.ClassFile.FieldType) ∈ WALL := wx_all (List.mem_append_right _ (List.mem_append_right _ (List.mem_append_right _ (List.mem_append_right _ (List.mem_append_left _ (List.mem_of_getElem? (i := 75) (by rfl))))))) rfl
theorem wl_RL_22 : Cond.methodLink RL 22 yX12_ofGirl ∈ WALL := wx_all (List.mem_append_right _ (List.mem_append_right _ (List.mem_append_right _ (List.mem_append_right _ (List.mem_append_left _ (List.mem_of_getElem? (i := 76) (by rfl))))))) rfl
theorem wi_X12_ofGirl : Cond.instanceMethod yX12_ofGirl ∈ WALL := wx_all (List.mem_append_right _ (List.mem_append_right _ (List.mem_append_right _ (List.mem_append_right _ (List.mem_append_left _ (List.mem_of_getElem? (i := 77) (by rfl))))))) rfl
theorem ws_RX12_X12_ofGirl : Cond.selects RX12 yX12_ofGirl yX12_ofGirl ∈ WALL := wx_all (List.mem_append_right _ (List.mem_append_right _ (List.mem_append_right _ (List.mem_append_right _ (List.mem_append_left _ (List.mem_of_getElem? (i := 78) (by rfl))))))) rfl
theorem wc_X12_ofGirl : Cond.code yX12_ofGirl prog_14_method_25_code 3 (Option.some Jvm.ClassFile.FieldType.int) ∈ WALL := wx_all (List.mem_append_right _ (List.mem_append_right _ (List.mem_append_right _ (List.mem_append_right _ (List.mem_append_left _ (List.mem_of_getElem? (i := 79) (by rfl))))))) rfl
theorem wl_RX12_161 : Cond.methodLink RX12 161 yX12_isGirl ∈ WALL := wx_all (List.mem_append_right _ (List.mem_append_right _ (List.mem_append_right _ (List.mem_append_right _ (List.mem_append_left _ (List.mem_of_getElem? (i := 80) (by rfl))))))) rfl
theorem wi_X12_isGirl : Cond.instanceMethod yX12_isGirl ∈ WALL := wx_all (List.mem_append_right _ (List.mem_append_right _ (List.mem_append_right _ (List.mem_append_right _ (List.mem_append_left _ (List.mem_of_getElem? (i := 82) (by rfl))))))) rfl
theorem wc_X12_isGirl : Cond.code yX12_isGirl prog_14_method_9_code 2 (Option.some Jvm.ClassFile.FieldType.boolean) ∈ WALL := wx_all (List.mem_append_right _ (List.mem_append_right _ (List.mem_append_right _ (List.mem_append_right _ (List.mem_append_left _ (List.mem_of_getElem? (i := 83) (by rfl))))))) rfl
theorem wl_RX12_164 : Cond.methodLink RX12 164 yX12_hasHer ∈ WALL := wx_all (List.mem_append_right _ (List.mem_append_right _ (List.mem_append_right _ (List.mem_append_right _ (List.mem_append_left _ (List.mem_of_getElem? (i := 84) (by rfl))))))) rfl
theorem wi_X12_hasHer : Cond.instanceMethod yX12_hasHer ∈ WALL := wx_all (List.mem_append_right _ (List.mem_append_right _ (List.mem_append_right _ (List.mem_append_right _ (List.mem_append_left _ (List.mem_of_getElem? (i := 86) (by rfl))))))) rfl
theorem wc_X12_hasHer : Cond.code yX12_hasHer prog_14_method_23_code 3 (Option.some Jvm.ClassFile.FieldType.int) ∈ WALL := wx_all (List.mem_append_right _ (List.mem_append_right _ (List.mem_append_right _ (List.mem_append_right _ (List.mem_append_left _ (List.mem_of_getElem? (i := 87) (by rfl))))))) rfl
theorem wl_RX12_158 : Cond.methodLink RX12 158 yX12_bestRing ∈ WALL := wx_all (List.mem_append_right _ (List.mem_append_right _ (List.mem_append_right _ (List.mem_append_right _ (List.mem_append_left _ (List.mem_of_getElem? (i := 88) (by rfl))))))) rfl
theorem wi_X12_bestRing : Cond.instanceMethod yX12_bestRing ∈ WALL := wx_all (List.mem_append_right _ (List.mem_append_right _ (List.mem_append_right _ (List.mem_append_right _ (List.mem_append_left _ (List.mem_of_getElem? (i := 90) (by rfl))))))) rfl
theorem wc_X12_bestRing : Cond.code yX12_bestRing prog_14_method_22_code 5 (Option.some Jvm.ClassFile.FieldType.int) ∈ WALL := wx_all (List.mem_append_right _ (List.mem_append_right _ (List.mem_append_right _ (List.mem_append_right _ (List.mem_append_left _ (List.mem_of_getElem? (i := 91) (by rfl))))))) rfl
theorem wl_RX12_167 : Cond.methodLink RX12 167 yX12_ringers ∈ WALL := wx_all (List.mem_append_right _ (List.mem_append_right _ (List.mem_append_right _ (List.mem_append_right _ (List.mem_append_left _ (List.mem_of_getElem? (i := 92) (by rfl))))))) rfl
theorem wi_X12_ringers : Cond.instanceMethod yX12_ringers ∈ WALL := wx_all (List.mem_append_right _ (List.mem_append_right _ (List.mem_append_right _ (List.mem_append_right _ (List.mem_append_left _ (List.mem_of_getElem? (i := 94) (by rfl))))))) rfl
theorem wc_X12_ringers : Cond.code yX12_ringers prog_14_method_24_code 4 (Option.some Jvm.ClassFile.FieldType.int) ∈ WALL := wx_all (List.mem_append_right _ (List.mem_append_right _ (List.mem_append_right _ (List.mem_append_right _ (List.mem_append_left _ (List.mem_of_getElem? (i := 95) (by rfl))))))) rfl
theorem wl_RL_26 : Cond.methodLink RL 26 yX12_ofThrower ∈ WALL := wx_all (List.mem_append_right _ (List.mem_append_right _ (List.mem_append_right _ (List.mem_append_right _ (List.mem_append_left _ (List.mem_of_getElem? (i := 96) (by rfl))))))) rfl
theorem wi_X12_ofThrower : Cond.instanceMethod yX12_ofThrower ∈ WALL := wx_all (List.mem_append_right _ (List.mem_append_right _ (List.mem_append_right _ (List.mem_append_right _ (List.mem_append_left _ (List.mem_of_getElem? (i := 97) (by rfl))))))) rfl
theorem ws_RX12_X12_ofThrower : Cond.selects RX12 yX12_ofThrower yX12_ofThrower ∈ WALL := wx_all (List.mem_append_right _ (List.mem_append_right _ (List.mem_append_right _ (List.mem_append_right _ (List.mem_append_left _ (List.mem_of_getElem? (i := 98) (by rfl))))))) rfl
theorem wc_X12_ofThrower : Cond.code yX12_ofThrower prog_14_method_28_code 3 (Option.some Jvm.ClassFile.FieldType.int) ∈ WALL := wx_all (List.mem_append_right _ (List.mem_append_right _ (List.mem_append_right _ (List.mem_append_right _ (List.mem_append_left _ (List.mem_of_getElem? (i := 99) (by rfl))))))) rfl
theorem wl_RX12_170 : Cond.methodLink RX12 170 yX12_isThrower ∈ WALL := wx_all (List.mem_append_right _ (List.mem_append_right _ (List.mem_append_right _ (List.mem_append_right _ (List.mem_append_left _ (List.mem_of_getElem? (i := 100) (by rfl))))))) rfl
theorem wi_X12_isThrower : Cond.instanceMethod yX12_isThrower ∈ WALL := wx_all (List.mem_append_right _ (List.mem_append_right _ (List.mem_append_right _ (List.mem_append_right _ (List.mem_append_left _ (List.mem_of_getElem? (i := 102) (by rfl))))))) rfl
theorem wc_X12_isThrower : Cond.code yX12_isThrower prog_14_method_10_code 2 (Option.some Jvm.ClassFile.FieldType.boolean) ∈ WALL := wx_all (List.mem_append_right _ (List.mem_append_right _ (List.mem_append_right _ (List.mem_append_right _ (List.mem_append_left _ (List.mem_of_getElem? (i := 103) (by rfl))))))) rfl
theorem wl_RX12_151 : Cond.methodLink RX12 151 yX12_reachOf ∈ WALL := wx_all (List.mem_append_right _ (List.mem_append_right _ (List.mem_append_right _ (List.mem_append_right _ (List.mem_append_left _ (List.mem_of_getElem? (i := 104) (by rfl))))))) rfl
theorem wi_X12_reachOf : Cond.instanceMethod yX12_reachOf ∈ WALL := wx_all (List.mem_append_right _ (List.mem_append_right _ (List.mem_append_right _ (List.mem_append_right _ (List.mem_append_left _ (List.mem_of_getElem? (i := 106) (by rfl))))))) rfl
theorem wc_X12_reachOf : Cond.code yX12_reachOf prog_14_method_19_code 2 (Option.some Jvm.ClassFile.FieldType.int) ∈ WALL := wx_all (List.mem_append_right _ (List.mem_append_right _ (List.mem_append_right _ (List.mem_append_right _ (List.mem_append_left _ (List.mem_of_getElem? (i := 107) (by rfl))))))) rfl
theorem wl_RX12_173 : Cond.methodLink RX12 173 yX12_hasSet ∈ WALL := wx_all (List.mem_append_right _ (List.mem_append_right _ (List.mem_append_right _ (List.mem_append_right _ (List.mem_append_left _ (List.mem_of_getElem? (i := 108) (by rfl))))))) rfl
theorem wi_X12_hasSet : Cond.instanceMethod yX12_hasSet ∈ WALL := wx_all (List.mem_append_right _ (List.mem_append_right _ (List.mem_append_right _ (List.mem_append_right _ (List.mem_append_left _ (List.mem_of_getElem? (i := 110) (by rfl))))))) rfl
theorem wc_X12_hasSet : Cond.code yX12_hasSet prog_14_method_26_code 4 (Option.some Jvm.ClassFile.FieldType.int) ∈ WALL := wx_all (List.mem_append_right _ (List.mem_append_right _ (List.mem_append_right _ (List.mem_append_right _ (List.mem_append_left _ (List.mem_of_getElem? (i := 111) (by rfl))))))) rfl
theorem wl_RX12_176 : Cond.methodLink RX12 176 yX12_ringsOf ∈ WALL := wx_all (List.mem_append_right _ (List.mem_append_right _ (List.mem_append_right _ (List.mem_append_right _ (List.mem_append_left _ (List.mem_of_getElem? (i := 112) (by rfl))))))) rfl
theorem wi_X12_ringsOf : Cond.instanceMethod yX12_ringsOf ∈ WALL := wx_all (List.mem_append_right _ (List.mem_append_right _ (List.mem_append_right _ (List.mem_append_right _ (List.mem_append_left _ (List.mem_of_getElem? (i := 114) (by rfl))))))) rfl
theorem wc_X12_ringsOf : Cond.code yX12_ringsOf prog_14_method_27_code 5 (Option.some Jvm.ClassFile.FieldType.int) ∈ WALL := wx_all (List.mem_append_right _ (List.mem_append_right _ (List.mem_append_right _ (List.mem_append_right _ (List.mem_append_left _ (List.mem_of_getElem? (i := 115) (by rfl))))))) rfl
theorem wl_RL_31 : Cond.methodLink RL 31 yX12_freeze ∈ WALL := wx_all (List.mem_append_right _ (List.mem_append_right _ (List.mem_append_right _ (List.mem_append_right _ (List.mem_append_left _ (List.mem_of_getElem? (i := 116) (by rfl))))))) rfl
theorem wi_X12_freeze : Cond.instanceMethod yX12_freeze ∈ WALL := wx_all (List.mem_append_right _ (List.mem_append_right _ (List.mem_append_right _ (List.mem_append_right _ (List.mem_append_left _ (List.mem_of_getElem? (i := 117) (by rfl))))))) rfl
theorem ws_RX12_X12_freeze : Cond.selects RX12 yX12_freeze yX12_freeze ∈ WALL := wx_all (List.mem_append_right _ (List.mem_append_right _ (List.mem_append_right _ (List.mem_append_right _ (List.mem_append_left _ (List.mem_of_getElem? (i := 118) (by rfl))))))) rfl
theorem wc_X12_freeze : Cond.code yX12_freeze prog_14_method_29_code 3 (Option.some Jvm.ClassFile.FieldType.int) ∈ WALL := wx_all (List.mem_append_right _ (List.mem_append_right _ (List.mem_append_right _ (List.mem_append_right _ (List.mem_append_left _ (List.mem_of_getElem? (i := 119) (by rfl))))))) rfl
theorem wl_RL_35 : Cond.methodLink RL 35 yX12_lean ∈ WALL := wx_all (List.mem_append_right _ (List.mem_append_right _ (List.mem_append_right _ (List.mem_append_right _ (List.mem_append_left _ (List.mem_of_getElem? (i := 120) (by rfl))))))) rfl
theorem wi_X12_lean : Cond.instanceMethod yX12_lean ∈ WALL := wx_all (List.mem_append_right _ (List.mem_append_right _ (List.mem_append_right _ (List.mem_append_right _ (List.mem_append_left _ (List.mem_of_getElem? (i := 121) (by rfl))))))) rfl
theorem ws_RX12_X12_lean : Cond.selects RX12 yX12_lean yX12_lean ∈ WALL := wx_all (List.mem_append_right _ (List.mem_append_right _ (List.mem_append_right _ (List.mem_append_right _ (List.mem_append_left _ (List.mem_of_getElem? (i := 122) (by rfl))))))) rfl
theorem wc_X12_lean : Cond.code yX12_lean prog_14_method_30_code 4 (Option.some Jvm.ClassFile.FieldType.int) ∈ WALL := wx_all (List.mem_append_right _ (List.mem_append_right _ (List.mem_append_right _ (List.mem_append_right _ (List.mem_append_left _ (List.mem_of_getElem? (i := 123) (by rfl))))))) rfl
theorem wl_RL_39 : Cond.methodLink RL 39 yX12_place ∈ WALL := wx_all (List.mem_append_right _ (List.mem_append_right _ (List.mem_append_right _ (List.mem_append_right _ (List.mem_append_left _ (List.mem_of_getElem? (i := 124) (by rfl))))))) rfl
theorem wi_X12_place : Cond.instanceMethod yX12_place ∈ WALL := wx_all (List.mem_append_right _ (List.mem_append_right _ (List.mem_append_right _ (List.mem_append_right _ (List.mem_append_left _ (List.mem_of_getElem? (i := 125) (by rfl))))))) rfl
theorem ws_RX12_X12_place : Cond.selects RX12 yX12_place yX12_place ∈ WALL := wx_all (List.mem_append_right _ (List.mem_append_right _ (List.mem_append_right _ (List.mem_append_right _ (List.mem_append_left _ (List.mem_of_getElem? (i := 126) (by rfl))))))) rfl
theorem wc_X12_place : Cond.code yX12_place prog_14_method_31_code 4 (Option.some Jvm.ClassFile.FieldType.int) ∈ WALL := wx_all (List.mem_append_right _ (List.mem_append_right _ (List.mem_append_right _ (List.mem_append_right _ (List.mem_append_left _ (List.mem_of_getElem? (i := 127) (by rfl))))))) rfl
theorem wl_RL_43 : Cond.methodLink RL 43 yX12_train ∈ WALL := wx_all (List.mem_append_right _ (List.mem_append_right _ (List.mem_append_right _ (List.mem_append_right _ (List.mem_append_left _ (List.mem_of_getElem? (i := 128) (by rfl))))))) rfl
theorem wi_X12_train : Cond.instanceMethod yX12_train ∈ WALL := wx_all (List.mem_append_right _ (List.mem_append_right _ (List.mem_append_right _ (List.mem_append_right _ (List.mem_append_left _ (List.mem_of_getElem? (i := 129) (by rfl))))))) rfl
theorem ws_RX12_X12_train : Cond.selects RX12 yX12_train yX12_train ∈ WALL := wx_all (List.mem_append_right _ (List.mem_append_right _ (List.mem_append_right _ (List.mem_append_right _ (List.mem_append_left _ (List.mem_of_getElem? (i := 130) (by rfl))))))) rfl
theorem wc_X12_train : Cond.code yX12_train prog_14_method_32_code 4 (Option.some Jvm.ClassFile.FieldType.int) ∈ WALL := wx_all (List.mem_append_right _ (List.mem_append_right _ (List.mem_append_right _ (List.mem_append_right _ (List.mem_append_left _ (List.mem_of_getElem? (i := 131) (by rfl))))))) rfl
theorem wl_RL_47 : Cond.methodLink RL 47 yX12_measure ∈ WALL := wx_all (List.mem_append_right _ (List.mem_append_right _ (List.mem_append_right _ (List.mem_append_right _ (List.mem_append_left _ (List.mem_of_getElem? (i := 132) (by rfl))))))) rfl
theorem wi_X12_measure : Cond.instanceMethod yX12_measure ∈ WALL := wx_all (List.mem_append_right _ (List.mem_append_right _ (List.mem_append_right _ (List.mem_append_right _ (List.mem_append_left _ (List.mem_of_getElem? (i := 133) (by rfl))))))) rfl
theorem ws_RX12_X12_measure : Cond.selects RX12 yX12_measure yX12_measure ∈ WALL := wx_all (List.mem_append_right _ (List.mem_append_right _ (List.mem_append_right _ (List.mem_append_right _ (List.mem_append_left _ (List.mem_of_getElem? (i := 134) (by rfl))))))) rfl
theorem wc_X12_measure : Cond.code yX12_measure prog_14_method_33_code 3 (Option.some Jvm.ClassFile.FieldType.int) ∈ WALL := wx_all (List.mem_append_right _ (List.mem_append_right _ (List.mem_append_right _ (List.mem_append_right _ (List.mem_append_left _ (List.mem_of_getElem? (i := 135) (by rfl))))))) rfl
theorem wl_RX12_179 : Cond.methodLink RX12 179 yX12_measureOf ∈ WALL := wx_all (List.mem_append_right _ (List.mem_append_right _ (List.mem_append_right _ (List.mem_append_right _ (List.mem_append_left _ (List.mem_of_getElem? (i := 136) (by rfl))))))) rfl
theorem wi_X12_measureOf : Cond.instanceMethod yX12_measureOf ∈ WALL := wx_all (List.mem_append_right _ (List.mem_append_right _ (List.mem_append_right _ (List.mem_append_right _ (List.mem_append_left _ (List.mem_of_getElem? (i := 138) (by rfl))))))) rfl
theorem wc_X12_measureOf : Cond.code yX12_measureOf prog_14_method_21_code 3 (Option.some Jvm.ClassFile.FieldType.int) ∈ WALL := wx_all (List.mem_append_right _ (List.mem_append_right _ (List.mem_append_right _ (List.mem_append_right _ (List.mem_append_left _ (List.mem_of_getElem? (i := 139) (by rfl))))))) rfl
theorem wl_RX12_154 : Cond.methodLink RX12 154 yX12_measureBy ∈ WALL := wx_all (List.mem_append_right _ (List.mem_append_right _ (List.mem_append_right _ (List.mem_append_right _ (List.mem_append_left _ (List.mem_of_getElem? (i := 140) (by rfl))))))) rfl
theorem wi_X12_measureBy : Cond.instanceMethod yX12_measureBy ∈ WALL := wx_all (List.mem_append_right _ (List.mem_append_right _ (List.mem_append_right _ (List.mem_append_right _ (List.mem_append_left _ (List.mem_of_getElem? (i := 142) (by rfl))))))) rfl
theorem wc_X12_measureBy : Cond.code yX12_measureBy prog_14_method_20_code 4 (Option.some Jvm.ClassFile.FieldType.int) ∈ WALL := wx_all (List.mem_append_right _ (List.mem_append_right _ (List.mem_append_right _ (List.mem_append_right _ (List.mem_append_left _ (List.mem_of_getElem? (i := 143) (by rfl))))))) rfl
theorem wl_RL_51 : Cond.methodLink RL 51 yX12_hurl ∈ WALL := wx_all (List.mem_append_right _ (List.mem_append_right _ (List.mem_append_right _ (List.mem_append_right _ (List.mem_append_left _ (List.mem_of_getElem? (i := 144) (by rfl))))))) rfl
theorem wi_X12_hurl : Cond.instanceMethod yX12_hurl ∈ WALL := wx_all (List.mem_append_right _ (List.mem_append_right _ (List.mem_append_right _ (List.mem_append_right _ (List.mem_append_left _ (List.mem_of_getElem? (i := 145) (by rfl))))))) rfl
theorem ws_RX12_X12_hurl : Cond.selects RX12 yX12_hurl yX12_hurl ∈ WALL := wx_all (List.mem_append_right _ (List.mem_append_right _ (List.mem_append_right _ (List.mem_append_right _ (List.mem_append_left _ (List.mem_of_getElem? (i := 146) (by rfl))))))) rfl
theorem wc_X12_hurl : Cond.code yX12_hurl prog_14_method_35_code 4 (Option.some Jvm.ClassFile.FieldType.int) ∈ WALL := wx_all (List.mem_append_right _ (List.mem_append_right _ (List.mem_append_right _ (List.mem_append_right _ (List.mem_append_left _ (List.mem_of_getElem? (i := 147) (by rfl))))))) rfl
theorem wl_RX12_182 : Cond.methodLink RX12 182 yX12_layOn ∈ WALL := wx_all (List.mem_append_right _ (List.mem_append_right _ (List.mem_append_right _ (List.mem_append_right _ (List.mem_append_left _ (List.mem_of_getElem? (i := 148) (by rfl))))))) rfl
theorem wi_X12_layOn : Cond.instanceMethod yX12_layOn ∈ WALL := wx_all (List.mem_append_right _ (List.mem_append_right _ (List.mem_append_right _ (List.mem_append_right _ (List.mem_append_left _ (List.mem_of_getElem? (i := 150) (by rfl))))))) rfl
theorem wc_X12_layOn : Cond.code yX12_layOn prog_14_method_34_code 4 (Option.none : Option Jvm.ClassFile.FieldType) ∈ WALL := wx_all (List.mem_append_right _ (List.mem_append_right _ (List.mem_append_right _ (List.mem_append_right _ (List.mem_append_left _ (List.mem_of_getElem? (i := 151) (by rfl))))))) rfl
theorem wl_RL_55 : Cond.methodLink RL 55 yX12_lift ∈ WALL := wx_all (List.mem_append_right _ (List.mem_append_right _ (List.mem_append_right _ (List.mem_append_right _ (List.mem_append_left _ (List.mem_of_getElem? (i := 152) (by rfl))))))) rfl
theorem wi_X12_lift : Cond.instanceMethod yX12_lift ∈ WALL := wx_all (List.mem_append_right _ (List.mem_append_right _ (List.mem_append_right _ (List.mem_append_right _ (List.mem_append_left _ (List.mem_of_getElem? (i := 153) (by rfl))))))) rfl
theorem ws_RX12_X12_lift : Cond.selects RX12 yX12_lift yX12_lift ∈ WALL := wx_all (List.mem_append_right _ (List.mem_append_right _ (List.mem_append_right _ (List.mem_append_right _ (List.mem_append_left _ (List.mem_of_getElem? (i := 154) (by rfl))))))) rfl
theorem wc_X12_lift : Cond.code yX12_lift prog_14_method_36_code 2 (Option.some Jvm.ClassFile.FieldType.int) ∈ WALL := wx_all (List.mem_append_right _ (List.mem_append_right _ (List.mem_append_right _ (List.mem_append_right _ (List.mem_append_left _ (List.mem_of_getElem? (i := 155) (by rfl))))))) rfl
theorem wl_RL_59 : Cond.methodLink RL 59 yX12_clear ∈ WALL := wx_all (List.mem_append_right _ (List.mem_append_right _ (List.mem_append_right _ (List.mem_append_right _ (List.mem_append_left _ (List.mem_of_getElem? (i := 156) (by rfl))))))) rfl
theorem wi_X12_clear : Cond.instanceMethod yX12_clear ∈ WALL := wx_all (List.mem_append_right _ (List.mem_append_right _ (List.mem_append_right _ (List.mem_append_right _ (List.mem_append_left _ (List.mem_of_getElem? (i := 157) (by rfl))))))) rfl
theorem ws_RX12_X12_clear : Cond.selects RX12 yX12_clear yX12_clear ∈ WALL := wx_all (List.mem_append_right _ (List.mem_append_right _ (List.mem_append_right _ (List.mem_append_right _ (List.mem_append_left _ (List.mem_of_getElem? (i := 158) (by rfl))))))) rfl
theorem wc_X12_clear : Cond.code yX12_clear prog_14_method_37_code 3 (Option.some Jvm.ClassFile.FieldType.int) ∈ WALL := wx_all (List.mem_append_right _ (List.mem_append_right _ (List.mem_append_right _ (List.mem_append_right _ (List.mem_append_left _ (List.mem_of_getElem? (i := 159) (by rfl))))))) rfl
theorem wl_RL_64 : Cond.methodLink RL 64 yX12_feast ∈ WALL := wx_all (List.mem_append_right _ (List.mem_append_right _ (List.mem_append_right _ (List.mem_append_right _ (List.mem_append_left _ (List.mem_of_getElem? (i := 160) (by rfl))))))) rfl
theorem wi_X12_feast : Cond.instanceMethod yX12_feast ∈ WALL := wx_all (List.mem_append_right _ (List.mem_append_right _ (List.mem_append_right _ (List.mem_append_right _ (List.mem_append_left _ (List.mem_of_getElem? (i := 161) (by rfl))))))) rfl
theorem ws_RX12_X12_feast : Cond.selects RX12 yX12_feast yX12_feast ∈ WALL := wx_all (List.mem_append_right _ (List.mem_append_right _ (List.mem_append_right _ (List.mem_append_right _ (List.mem_append_left _ (List.mem_of_getElem? (i := 162) (by rfl))))))) rfl
theorem wc_X12_feast : Cond.code yX12_feast prog_14_method_43_code 10 (Option.some Jvm.ClassFile.FieldType.int) ∈ WALL := wx_all (List.mem_append_right _ (List.mem_append_right _ (List.mem_append_right _ (List.mem_append_right _ (List.mem_append_left _ (List.mem_of_getElem? (i := 163) (by rfl))))))) rfl
theorem wl_RX12_198 : Cond.methodLink RX12 198 yX12_refusesPair ∈ WALL := wx_all (List.mem_append_right _ (List.mem_append_right _ (List.mem_append_right _ (List.mem_append_right _ (List.mem_append_left _ (List.mem_of_getElem? (i := 164) (by rfl))))))) rfl
theorem wi_X12_refusesPair : Cond.instanceMethod yX12_refusesPair ∈ WALL := wx_all (List.mem_append_right _ (List.mem_append_right _ (List.mem_append_right _ (List.mem_append_right _ (List.mem_append_left _ (List.mem_of_getElem? (i := 166) (by rfl))))))) rfl
theorem wc_X12_refusesPair : Cond.code yX12_refusesPair prog_14_method_42_code 4 (Option.some Jvm.ClassFile.FieldType.int) ∈ WALL := wx_all (List.mem_append_right _ (List.mem_append_right _ (List.mem_append_right _ (List.mem_append_right _ (List.mem_append_left _ (List.mem_of_getElem? (i := 167) (by rfl))))))) rfl
theorem wl_RX12_201 : Cond.methodLink RX12 201 yX12_keep ∈ WALL := wx_all (List.mem_append_right _ (List.mem_append_right _ (List.mem_append_right _ (List.mem_append_right _ (List.mem_append_left _ (List.mem_of_getElem? (i := 168) (by rfl))))))) rfl
theorem wi_X12_keep : Cond.instanceMethod yX12_keep ∈ WALL := wx_all (List.mem_append_right _ (List.mem_append_right _ (List.mem_append_right _ (List.mem_append_right _ (List.mem_append_left _ (List.mem_of_getElem? (i := 170) (by rfl))))))) rfl
theorem wc_X12_keep : Cond.code yX12_keep prog_14_method_38_code 2 (Option.none : Option Jvm.ClassFile.FieldType) ∈ WALL := wx_all (List.mem_append_right _ (List.mem_append_right _ (List.mem_append_right _ (List.mem_append_right _ (List.mem_append_left _ (List.mem_of_getElem? (i := 171) (by rfl))))))) rfl
theorem wl_RX12_204 : Cond.methodLink RX12 204 yX12_goFeast ∈ WALL := wx_all (List.mem_append_right _ (List.mem_append_right _ (List.mem_append_right _ (List.mem_append_right _ (List.mem_append_left _ (List.mem_of_getElem? (i := 172) (by rfl))))))) rfl
theorem wi_X12_goFeast : Cond.instanceMethod yX12_goFeast ∈ WALL := wx_all (List.mem_append_right _ (List.mem_append_right _ (List.mem_append_right _ (List.mem_append_right _ (List.mem_append_left _ (List.mem_of_getElem? (i := 174) (by rfl))))))) rfl
theorem wc_X12_goFeast : Cond.code yX12_goFeast prog_14_method_41_code 4 (Option.some Jvm.ClassFile.FieldType.int) ∈ WALL := wx_all (List.mem_append_right _ (List.mem_append_right _ (List.mem_append_right _ (List.mem_append_right _ (List.mem_append_left _ (List.mem_of_getElem? (i := 175) (by rfl))))))) rfl
theorem wl_RX12_195 : Cond.methodLink RX12 195 yX12_does ∈ WALL := wx_all (List.mem_append_right _ (List.mem_append_right _ (List.mem_append_right _ (List.mem_append_right _ (List.mem_append_left _ (List.mem_of_getElem? (i := 176) (by rfl))))))) rfl
theorem wi_X12_does : Cond.instanceMethod yX12_does ∈ WALL := wx_all (List.mem_append_right _ (List.mem_append_right _ (List.mem_append_right _ (List.mem_append_right _ (List.mem_append_left _ (List.mem_of_getElem? (i := 178) (by rfl))))))) rfl
theorem wc_X12_does : Cond.code yX12_does prog_14_method_40_code 5 (Option.some Jvm.ClassFile.FieldType.boolean) ∈ WALL := wx_all (List.mem_append_right _ (List.mem_append_right _ (List.mem_append_right _ (List.mem_append_right _ (List.mem_append_left _ (List.mem_of_getElem? (i := 179) (by rfl))))))) rfl
theorem wl_RX12_207 : Cond.methodLink RX12 207 yX12_tellFeast ∈ WALL := wx_all (List.mem_append_right _ (List.mem_append_right _ (List.mem_append_right _ (List.mem_append_right _ (List.mem_append_left _ (List.mem_of_getElem? (i := 180) (by rfl))))))) rfl
theorem wi_X12_tellFeast : Cond.instanceMethod yX12_tellFeast ∈ WALL := wx_all (List.mem_append_right _ (List.mem_append_right _ (List.mem_append_right _ (List.mem_append_right _ (List.mem_append_left _ (List.mem_of_getElem? (i := 182) (by rfl))))))) rfl
theorem wc_X12_tellFeast : Cond.code yX12_tellFeast prog_14_method_44_code 4 (Option.some Jvm.ClassFile.FieldType.int) ∈ WALL := wx_all (List.mem_append_right _ (List.mem_append_right _ (List.mem_append_right _ (List.mem_append_right _ (List.mem_append_left _ (List.mem_of_getElem? (i := 183) (by rfl))))))) rfl
theorem wl_RX12_210 : Cond.methodLink RX12 210 yX12_putBack ∈ WALL := wx_all (List.mem_append_right _ (List.mem_append_right _ (List.mem_append_right _ (List.mem_append_right _ (List.mem_append_left _ (List.mem_of_getElem? (i := 184) (by rfl))))))) rfl
theorem wi_X12_putBack : Cond.instanceMethod yX12_putBack ∈ WALL := wx_all (List.mem_append_right _ (List.mem_append_right _ (List.mem_append_right _ (List.mem_append_right _ (List.mem_append_left _ (List.mem_of_getElem? (i := 186) (by rfl))))))) rfl
theorem wc_X12_putBack : Cond.code yX12_putBack prog_14_method_39_code 2 (Option.none : Option Jvm.ClassFile.FieldType) ∈ WALL := wx_all (List.mem_append_right _ (List.mem_append_right _ (List.mem_append_right _ (List.mem_append_right _ (List.mem_append_left _ (List.mem_of_getElem? (i := 187) (by rfl))))))) rfl
theorem wl_RL_68 : Cond.methodLink RL 68 yX12_wins ∈ WALL := wx_all (List.mem_append_right _ (List.mem_append_right _ (List.mem_append_right _ (List.mem_append_right _ (List.mem_append_left _ (List.mem_of_getElem? (i := 188) (by rfl))))))) rfl
theorem wi_X12_wins : Cond.instanceMethod yX12_wins ∈ WALL := wx_all (List.mem_append_right _ (List.mem_append_right _ (List.mem_append_right _ (List.mem_append_right _ (List.mem_append_left _ (List.mem_of_getElem? (i := 189) (by rfl))))))) rfl
theorem ws_RX12_X12_wins : Cond.selects RX12 yX12_wins yX12_wins ∈ WALL := wx_all (List.mem_append_right _ (List.mem_append_right _ (List.mem_append_right _ (List.mem_append_right _ (List.mem_append_left _ (List.mem_of_getElem? (i := 190) (by rfl))))))) rfl
theorem wc_X12_wins : Cond.code yX12_wins prog_14_method_47_code 4 (Option.some Jvm.ClassFile.FieldType.int) ∈ WALL := wx_all (List.mem_append_right _ (List.mem_append_right _ (List.mem_append_right _ (List.mem_append_right _ (List.mem_append_left _ (List.mem_of_getElem? (i := 191) (by rfl))))))) rfl
theorem wl_RX12_216 : Cond.methodLink RX12 216 yX12_winsHer ∈ WALL := wx_all (List.mem_append_right _ (List.mem_append_right _ (List.mem_append_right _ (List.mem_append_right _ (List.mem_append_left _ (List.mem_of_getElem? (i := 192) (by rfl))))))) rfl
theorem wi_X12_winsHer : Cond.instanceMethod yX12_winsHer ∈ WALL := wx_all (List.mem_append_right _ (List.mem_append_right _ (List.mem_append_right _ (List.mem_append_right _ (List.mem_append_left _ (List.mem_of_getElem? (i := 194) (by rfl))))))) rfl
theorem wc_X12_winsHer : Cond.code yX12_winsHer prog_14_method_46_code 3 (Option.some Jvm.ClassFile.FieldType.boolean) ∈ WALL := wx_all (List.mem_append_right _ (List.mem_append_right _ (List.mem_append_right _ (List.mem_append_right _ (List.mem_append_left _ (List.mem_of_getElem? (i := 195) (by rfl))))))) rfl
theorem wl_RX12_213 : Cond.methodLink RX12 213 yX12_hasBy ∈ WALL := wx_all (List.mem_append_right _ (List.mem_append_right _ (List.mem_append_right _ (List.mem_append_right _ (List.mem_append_left _ (List.mem_of_getElem? (i := 196) (by rfl))))))) rfl
theorem wi_X12_hasBy : Cond.instanceMethod yX12_hasBy ∈ WALL := wx_all (List.mem_append_right _ (List.mem_append_right _ (List.mem_append_right _ (List.mem_append_right _ (List.mem_append_left _ (List.mem_of_getElem? (i := 198) (by rfl))))))) rfl
theorem wc_X12_hasBy : Cond.code yX12_hasBy prog_14_method_45_code 5 (Option.some Jvm.ClassFile.FieldType.boolean) ∈ WALL := wx_all (List.mem_append_right _ (List.mem_append_right _ (List.mem_append_right _ (List.mem_append_right _ (List.mem_append_left _ (List.mem_of_getElem? (i := 199) (by rfl))))))) rfl
theorem wl_RL_72 : Cond.methodLink RL 72 yX12_match ∈ WALL := wx_all (List.mem_append_right _ (List.mem_append_right _ (List.mem_append_right _ (List.mem_append_right _ (List.mem_append_left _ (List.mem_of_getElem? (i := 200) (by rfl))))))) rfl
theorem wi_X12_match : Cond.instanceMethod yX12_match ∈ WALL := wx_all (List.mem_append_right _ (List.mem_append_right _ (List.mem_append_right _ (List.mem_append_right _ (List.mem_append_left _ (List.mem_of_getElem? (i := 201) (by rfl))))))) rfl
theorem ws_RX12_X12_match : Cond.selects RX12 yX12_match yX12_match ∈ WALL := wx_all (List.mem_append_right _ (List.mem_append_right _ (List.mem_append_right _ (List.mem_append_right _ (List.mem_append_left _ (List.mem_of_getElem? (i := 202) (by rfl))))))) rfl
theorem wc_X12_match : Cond.code yX12_match prog_14_method_50_code 4 (Option.some Jvm.ClassFile.FieldType.int) ∈ WALL := wx_all (List.mem_append_right _ (List.mem_append_right _ (List.mem_append_right _ (List.mem_append_right _ (List.mem_append_left _ (List.mem_of_getElem? (i := 203) (by rfl))))))) rfl
theorem wl_RX12_225 : Cond.methodLink RX12 225 yX12_isRow ∈ WALL := wx_all (List.mem_append_right _ (List.mem_append_right _ (List.mem_append_right _ (List.mem_append_right _ (List.mem_append_left _ (List.mem_of_getElem? (i := 204) (by rfl))))))) rfl
theorem wi_X12_isRow : Cond.instanceMethod yX12_isRow ∈ WALL := wx_all (List.mem_append_right _ (List.mem_append_right _ (List.mem_append_right _ (List.mem_append_right _ (List.mem_append_left _ (List.mem_of_getElem? (i := 206) (by rfl))))))) rfl
theorem wc_X12_isRow : Cond.code yX12_isRow prog_14_method_48_code 5 (Option.some Jvm.ClassFile.FieldType.boolean) ∈ WALL := wx_all (List.mem_append_right _ (List.mem_append_right _ (List.mem_append_right _ (List.mem_append_right _ (List.mem_append_left _ (List.mem_of_getElem? (i := 207) (by rfl))))))) rfl
theorem wl_RX12_228 : Cond.methodLink RX12 228 yX12_tryRow ∈ WALL := wx_all (List.mem_append_right _ (List.mem_append_right _ (List.mem_append_right _ (List.mem_append_right _ (List.mem_append_left _ (List.mem_of_getElem? (i := 208) (by rfl))))))) rfl
theorem wi_X12_tryRow : Cond.instanceMethod yX12_tryRow ∈ WALL := wx_all (List.mem_append_right _ (List.mem_append_right _ (List.mem_append_right _ (List.mem_append_right _ (List.mem_append_left _ (List.mem_of_getElem? (i := 210) (by rfl))))))) rfl
theorem wc_X12_tryRow : Cond.code yX12_tryRow prog_14_method_49_code 4 (Option.none : Option Jvm.ClassFile.FieldType) ∈ WALL := wx_all (List.mem_append_right _ (List.mem_append_right _ (List.mem_append_right _ (List.mem_append_right _ (List.mem_append_left _ (List.mem_of_getElem? (i := 211) (by rfl))))))) rfl
theorem wl_RL_76 : Cond.methodLink RL 76 yX12_weds ∈ WALL := wx_all (List.mem_append_right _ (List.mem_append_right _ (List.mem_append_right _ (List.mem_append_right _ (List.mem_append_left _ (List.mem_of_getElem? (i := 212) (by rfl))))))) rfl
theorem wi_X12_weds : Cond.instanceMethod yX12_weds ∈ WALL := wx_all (List.mem_append_right _ (List.mem_append_right _ (List.mem_append_right _ (List.mem_append_right _ (List.mem_append_left _ (List.mem_of_getElem? (i := 213) (by rfl))))))) rfl
theorem ws_RX12_X12_weds : Cond.selects RX12 yX12_weds yX12_weds ∈ WALL := wx_all (List.mem_append_right _ (List.mem_append_right _ (List.mem_append_right _ (List.mem_append_right _ (List.mem_append_left _ (List.mem_of_getElem? (i := 214) (by rfl))))))) rfl
theorem wc_X12_weds : Cond.code yX12_weds prog_14_method_54_code 4 (Option.some Jvm.ClassFile.FieldType.int) ∈ WALL := wx_all (List.mem_append_right _ (List.mem_append_right _ (List.mem_append_right _ (List.mem_append_right _ (List.mem_append_left _ (List.mem_of_getElem? (i := 215) (by rfl))))))) rfl
theorem wl_RX12_234 : Cond.methodLink RX12 234 yX12_nextFor ∈ WALL := wx_all (List.mem_append_right _ (List.mem_append_right _ (List.mem_append_right _ (List.mem_append_right _ (List.mem_append_left _ (List.mem_of_getElem? (i := 216) (by rfl))))))) rfl
theorem wi_X12_nextFor : Cond.instanceMethod yX12_nextFor ∈ WALL := wx_all (List.mem_append_right _ (List.mem_append_right _ (List.mem_append_right _ (List.mem_append_right _ (List.mem_append_left _ (List.mem_of_getElem? (i := 218) (by rfl))))))) rfl
theorem wc_X12_nextFor : Cond.code yX12_nextFor prog_14_method_51_code 5 (Option.some Jvm.ClassFile.FieldType.int) ∈ WALL := wx_all (List.mem_append_right _ (List.mem_append_right _ (List.mem_append_right _ (List.mem_append_right _ (List.mem_append_left _ (List.mem_of_getElem? (i := 219) (by rfl))))))) rfl
theorem wl_RX12_237 : Cond.methodLink RX12 237 yX12_asks ∈ WALL := wx_all (List.mem_append_right _ (List.mem_append_right _ (List.mem_append_right _ (List.mem_append_right _ (List.mem_append_left _ (List.mem_of_getElem? (i := 220) (by rfl))))))) rfl
theorem wi_X12_asks : Cond.instanceMethod yX12_asks ∈ WALL := wx_all (List.mem_append_right _ (List.mem_append_right _ (List.mem_append_right _ (List.mem_append_right _ (List.mem_append_left _ (List.mem_of_getElem? (i := 222) (by rfl))))))) rfl
theorem wc_X12_asks : Cond.code yX12_asks prog_14_method_53_code 3 (Option.none : Option Jvm.ClassFile.FieldType) ∈ WALL := wx_all (List.mem_append_right _ (List.mem_append_right _ (List.mem_append_right _ (List.mem_append_right _ (List.mem_append_left _ (List.mem_of_getElem? (i := 223) (by rfl))))))) rfl
theorem wl_RX12_231 : Cond.methodLink RX12 231 yX12_wouldRather ∈ WALL := wx_all (List.mem_append_right _ (List.mem_append_right _ (List.mem_append_right _ (List.mem_append_right _ (List.mem_append_left _ (List.mem_of_getElem? (i := 224) (by rfl))))))) rfl
theorem wi_X12_wouldRather : Cond.instanceMethod yX12_wouldRather ∈ WALL := wx_all (List.mem_append_right _ (List.mem_append_right _ (List.mem_append_right _ (List.mem_append_right _ (List.mem_append_left _ (List.mem_of_getElem? (i := 226) (by rfl))))))) rfl
theorem wc_X12_wouldRather : Cond.code yX12_wouldRather prog_14_method_52_code 4 (Option.some Jvm.ClassFile.FieldType.boolean) ∈ WALL := wx_all (List.mem_append_right _ (List.mem_append_right _ (List.mem_append_right _ (List.mem_append_right _ (List.mem_append_left _ (List.mem_of_getElem? (i := 227) (by rfl))))))) rfl
theorem wl_RL_81 : Cond.methodLink RL 81 yX12_even ∈ WALL := wx_all (List.mem_append_right _ (List.mem_append_right _ (List.mem_append_right _ (List.mem_append_right _ (List.mem_append_left _ (List.mem_of_getElem? (i := 228) (by rfl))))))) rfl
theorem wi_X12_even : Cond.instanceMethod yX12_even ∈ WALL := wx_all (List.mem_append_right _ (List.mem_append_right _ (List.mem_append_right _ (List.mem_append_right _ (List.mem_append_left _ (List.mem_of_getElem? (i := 229) (by rfl))))))) rfl
theorem ws_RX12_X12_even : Cond.selects RX12 yX12_even yX12_even ∈ WALL := wx_all (List.mem_append_right _ (List.mem_append_right _ (List.mem_append_right _ (List.mem_append_right _ (List.mem_append_left _ (List.mem_of_getElem? (i := 230) (by rfl))))))) rfl
theorem wc_X12_even : Cond.code yX12_even prog_14_method_55_code 9 (Option.some Jvm.ClassFile.FieldType.int) ∈ WALL := wx_all (List.mem_append_right _ (List.mem_append_right _ (List.mem_append_right _ (List.mem_append_right _ (List.mem_append_left _ (List.mem_of_getElem? (i := 231) (by rfl))))))) rfl
theorem wl_RL_85 : Cond.methodLink RL 85 yX12_reading ∈ WALL := wx_all (List.mem_append_right _ (List.mem_append_right _ (List.mem_append_right _ (List.mem_append_right _ (List.mem_append_left _ (List.mem_of_getElem? (i := 232) (by rfl))))))) rfl
theorem wi_X12_reading : Cond.instanceMethod yX12_reading ∈ WALL := wx_all (List.mem_append_right _ (List.mem_append_right _ (List.mem_append_right _ (List.mem_append_right _ (List.mem_append_left _ (List.mem_of_getElem? (i := 233) (by rfl))))))) rfl
theorem ws_RX12_X12_reading : Cond.selects RX12 yX12_reading yX12_reading ∈ WALL := wx_all (List.mem_append_right _ (List.mem_append_right _ (List.mem_append_right _ (List.mem_append_right _ (List.mem_append_left _ (List.mem_of_getElem? (i := 234) (by rfl))))))) rfl
theorem wc_X12_reading : Cond.code yX12_reading prog_14_method_56_code 4 (Option.some Jvm.ClassFile.FieldType.int) ∈ WALL := wx_all (List.mem_append_right _ (List.mem_append_right _ (List.mem_append_right _ (List.mem_append_right _ (List.mem_append_left _ (List.mem_of_getElem? (i := 235) (by rfl))))))) rfl
theorem wl_RL_89 : Cond.methodLink RL 89 yX12_back ∈ WALL := wx_all (List.mem_append_right _ (List.mem_append_right _ (List.mem_append_right _ (List.mem_append_right _ (List.mem_append_left _ (List.mem_of_getElem? (i := 236) (by rfl))))))) rfl
theorem wi_X12_back : Cond.instanceMethod yX12_back ∈ WALL := wx_all (List.mem_append_right _ (List.mem_append_right _ (List.mem_append_right _ (List.mem_append_right _ (List.mem_append_left _ (List.mem_of_getElem? (i := 237) (by rfl))))))) rfl
theorem ws_RX12_X12_back : Cond.selects RX12 yX12_back yX12_back ∈ WALL := wx_all (List.mem_append_right _ (List.mem_append_right _ (List.mem_append_right _ (List.mem_append_right _ (List.mem_append_left _ (List.mem_of_getElem? (i := 238) (by rfl))))))) rfl
theorem wc_X12_back : Cond.code yX12_back prog_14_method_57_code 2 (Option.some Jvm.ClassFile.FieldType.int) ∈ WALL := wx_all (List.mem_append_right _ (List.mem_append_right _ (List.mem_append_right _ (List.mem_append_right _ (List.mem_append_left _ (List.mem_of_getElem? (i := 239) (by rfl))))))) rfl
theorem wl_RL_93 : Cond.methodLink RL 93 yX12_leans ∈ WALL := wx_all (List.mem_append_right _ (List.mem_append_right _ (List.mem_append_right _ (List.mem_append_right _ (List.mem_append_right _ (List.mem_of_getElem? (i := 0) (by rfl))))))) rfl
theorem wi_X12_leans : Cond.instanceMethod yX12_leans ∈ WALL := wx_all (List.mem_append_right _ (List.mem_append_right _ (List.mem_append_right _ (List.mem_append_right _ (List.mem_append_right _ (List.mem_of_getElem? (i := 1) (by rfl))))))) rfl
theorem ws_RX12_X12_leans : Cond.selects RX12 yX12_leans yX12_leans ∈ WALL := wx_all (List.mem_append_right _ (List.mem_append_right _ (List.mem_append_right _ (List.mem_append_right _ (List.mem_append_right _ (List.mem_of_getElem? (i := 2) (by rfl))))))) rfl
theorem wc_X12_leans : Cond.code yX12_leans prog_14_method_59_code 5 (Option.some Jvm.ClassFile.FieldType.int) ∈ WALL := wx_all (List.mem_append_right _ (List.mem_append_right _ (List.mem_append_right _ (List.mem_append_right _ (List.mem_append_right _ (List.mem_of_getElem? (i := 3) (by rfl))))))) rfl
theorem wl_RX12_241 : Cond.methodLink RX12 241 yX12_areSo ∈ WALL := wx_all (List.mem_append_right _ (List.mem_append_right _ (List.mem_append_right _ (List.mem_append_right _ (List.mem_append_right _ (List.mem_of_getElem? (i := 4) (by rfl))))))) rfl
theorem wi_X12_areSo : Cond.instanceMethod yX12_areSo ∈ WALL := wx_all (List.mem_append_right _ (List.mem_append_right _ (List.mem_append_right _ (List.mem_append_right _ (List.mem_append_right _ (List.mem_of_getElem? (i := 6) (by rfl))))))) rfl
theorem wc_X12_areSo : Cond.code yX12_areSo prog_14_method_58_code 2 (Option.some Jvm.ClassFile.FieldType.boolean) ∈ WALL := wx_all (List.mem_append_right _ (List.mem_append_right _ (List.mem_append_right _ (List.mem_append_right _ (List.mem_append_right _ (List.mem_of_getElem? (i := 7) (by rfl))))))) rfl
theorem wl_RL_97 : Cond.methodLink RL 97 yX12_arms ∈ WALL := wx_all (List.mem_append_right _ (List.mem_append_right _ (List.mem_append_right _ (List.mem_append_right _ (List.mem_append_right _ (List.mem_of_getElem? (i := 8) (by rfl))))))) rfl
theorem wi_X12_arms : Cond.instanceMethod yX12_arms ∈ WALL := wx_all (List.mem_append_right _ (List.mem_append_right _ (List.mem_append_right _ (List.mem_append_right _ (List.mem_append_right _ (List.mem_of_getElem? (i := 9) (by rfl))))))) rfl
theorem ws_RX12_X12_arms : Cond.selects RX12 yX12_arms yX12_arms ∈ WALL := wx_all (List.mem_append_right _ (List.mem_append_right _ (List.mem_append_right _ (List.mem_append_right _ (List.mem_append_right _ (List.mem_of_getElem? (i := 10) (by rfl))))))) rfl
theorem wc_X12_arms : Cond.code yX12_arms prog_14_method_60_code 5 (Option.some Jvm.ClassFile.FieldType.int) ∈ WALL := wx_all (List.mem_append_right _ (List.mem_append_right _ (List.mem_append_right _ (List.mem_append_right _ (List.mem_append_right _ (List.mem_of_getElem? (i := 11) (by rfl))))))) rfl
theorem wl_RL_101 : Cond.methodLink RL 101 yX12_kinds ∈ WALL := wx_all (List.mem_append_right _ (List.mem_append_right _ (List.mem_append_right _ (List.mem_append_right _ (List.mem_append_right _ (List.mem_of_getElem? (i := 12) (by rfl))))))) rfl
theorem wi_X12_kinds : Cond.instanceMethod yX12_kinds ∈ WALL := wx_all (List.mem_append_right _ (List.mem_append_right _ (List.mem_append_right _ (List.mem_append_right _ (List.mem_append_right _ (List.mem_of_getElem? (i := 13) (by rfl))))))) rfl
theorem ws_RX12_X12_kinds : Cond.selects RX12 yX12_kinds yX12_kinds ∈ WALL := wx_all (List.mem_append_right _ (List.mem_append_right _ (List.mem_append_right _ (List.mem_append_right _ (List.mem_append_right _ (List.mem_of_getElem? (i := 14) (by rfl))))))) rfl
theorem wc_X12_kinds : Cond.code yX12_kinds prog_14_method_61_code 5 (Option.some Jvm.ClassFile.FieldType.int) ∈ WALL := wx_all (List.mem_append_right _ (List.mem_append_right _ (List.mem_append_right _ (List.mem_append_right _ (List.mem_append_right _ (List.mem_of_getElem? (i := 15) (by rfl))))))) rfl
theorem wl_RL_106 : Cond.methodLink RL 106 yX12_odds ∈ WALL := wx_all (List.mem_append_right _ (List.mem_append_right _ (List.mem_append_right _ (List.mem_append_right _ (List.mem_append_right _ (List.mem_of_getElem? (i := 16) (by rfl))))))) rfl
theorem wi_X12_odds : Cond.instanceMethod yX12_odds ∈ WALL := wx_all (List.mem_append_right _ (List.mem_append_right _ (List.mem_append_right _ (List.mem_append_right _ (List.mem_append_right _ (List.mem_of_getElem? (i := 17) (by rfl))))))) rfl
theorem ws_RX12_X12_odds : Cond.selects RX12 yX12_odds yX12_odds ∈ WALL := wx_all (List.mem_append_right _ (List.mem_append_right _ (List.mem_append_right _ (List.mem_append_right _ (List.mem_append_right _ (List.mem_of_getElem? (i := 18) (by rfl))))))) rfl
theorem wc_X12_odds : Cond.code yX12_odds prog_14_method_63_code 6 (Option.some Jvm.ClassFile.FieldType.long) ∈ WALL := wx_all (List.mem_append_right _ (List.mem_append_right _ (List.mem_append_right _ (List.mem_append_right _ (List.mem_append_right _ (List.mem_of_getElem? (i := 19) (by rfl))))))) rfl
theorem wj_RX12_83 : Cond.constantLong RX12 83 (-9223372036854775808 : Int64) ∈ WALL := wx_all (List.mem_append_right _ (List.mem_append_right _ (List.mem_append_right _ (List.mem_append_right _ (List.mem_append_right _ (List.mem_of_getElem? (i := 20) (by rfl))))))) rfl
theorem wj_RX12_245 : Cond.constantLong RX12 245 (3 : Int64) ∈ WALL := wx_all (List.mem_append_right _ (List.mem_append_right _ (List.mem_append_right _ (List.mem_append_right _ (List.mem_append_right _ (List.mem_of_getElem? (i := 21) (by rfl))))))) rfl
theorem wl_RX12_247 : Cond.methodLink RX12 247 yX12_inLeastTerms ∈ WALL := wx_all (List.mem_append_right _ (List.mem_append_right _ (List.mem_append_right _ (List.mem_append_right _ (List.mem_append_right _ (List.mem_of_getElem? (i := 22) (by rfl))))))) rfl
theorem wt_X12_inLeastTerms : Cond.static yX12_inLeastTerms ∈ WALL := wx_all (List.mem_append_right _ (List.mem_append_right _ (List.mem_append_right _ (List.mem_append_right _ (List.mem_append_right _ (List.mem_of_getElem? (i := 23) (by rfl))))))) rfl
theorem wc_X12_inLeastTerms : Cond.code yX12_inLeastTerms prog_14_method_62_code 11 (Option.some Jvm.ClassFile.FieldType.long) ∈ WALL := wx_all (List.mem_append_right _ (List.mem_append_right _ (List.mem_append_right _ (List.mem_append_right _ (List.mem_append_right _ (List.mem_of_getElem? (i := 24) (by rfl))))))) rfl
theorem wl_RL_110 : Cond.methodLink RL 110 yX12_sheet ∈ WALL := wx_all (List.mem_append_right _ (List.mem_append_right _ (List.mem_append_right _ (List.mem_append_right _ (List.mem_append_right _ (List.mem_of_getElem? (i := 25) (by rfl))))))) rfl
theorem wi_X12_sheet : Cond.instanceMethod yX12_sheet ∈ WALL := wx_all (List.mem_append_right _ (List.mem_append_right _ (List.mem_append_right _ (List.mem_append_right _ (List.mem_append_right _ (List.mem_of_getElem? (i := 26) (by rfl))))))) rfl
theorem ws_RX12_X12_sheet : Cond.selects RX12 yX12_sheet yX12_sheet ∈ WALL := wx_all (List.mem_append_right _ (List.mem_append_right _ (List.mem_append_right _ (List.mem_append_right _ (List.mem_append_right _ (List.mem_of_getElem? (i := 27) (by rfl))))))) rfl
theorem wc_X12_sheet : Cond.code yX12_sheet prog_14_method_64_code 5 (Option.some Jvm.ClassFile.FieldType.int) ∈ WALL := wx_all (List.mem_append_right _ (List.mem_append_right _ (List.mem_append_right _ (List.mem_append_right _ (List.mem_append_right _ (List.mem_of_getElem? (i := 28) (by rfl))))))) rfl
theorem wl_RL_114 : Cond.methodLink RL 114 yX12_lose ∈ WALL := wx_all (List.mem_append_right _ (List.mem_append_right _ (List.mem_append_right _ (List.mem_append_right _ (List.mem_append_right _ (List.mem_of_getElem? (i := 29) (by rfl))))))) rfl
theorem wi_X12_lose : Cond.instanceMethod yX12_lose ∈ WALL := wx_all (List.mem_append_right _ (List.mem_append_right _ (List.mem_append_right _ (List.mem_append_right _ (List.mem_append_right _ (List.mem_of_getElem? (i := 30) (by rfl))))))) rfl
theorem ws_RX12_X12_lose : Cond.selects RX12 yX12_lose yX12_lose ∈ WALL := wx_all (List.mem_append_right _ (List.mem_append_right _ (List.mem_append_right _ (List.mem_append_right _ (List.mem_append_right _ (List.mem_of_getElem? (i := 31) (by rfl))))))) rfl
theorem wc_X12_lose : Cond.code yX12_lose prog_14_method_65_code 3 (Option.some Jvm.ClassFile.FieldType.int) ∈ WALL := wx_all (List.mem_append_right _ (List.mem_append_right _ (List.mem_append_right _ (List.mem_append_right _ (List.mem_append_right _ (List.mem_of_getElem? (i := 32) (by rfl))))))) rfl
theorem wl_RL_118 : Cond.methodLink RL 118 yX12_put ∈ WALL := wx_all (List.mem_append_right _ (List.mem_append_right _ (List.mem_append_right _ (List.mem_append_right _ (List.mem_append_right _ (List.mem_of_getElem? (i := 33) (by rfl))))))) rfl
theorem wi_X12_put : Cond.instanceMethod yX12_put ∈ WALL := wx_all (List.mem_append_right _ (List.mem_append_right _ (List.mem_append_right _ (List.mem_append_right _ (List.mem_append_right _ (List.mem_of_getElem? (i := 34) (by rfl))))))) rfl
theorem ws_RX12_X12_put : Cond.selects RX12 yX12_put yX12_put ∈ WALL := wx_all (List.mem_append_right _ (List.mem_append_right _ (List.mem_append_right _ (List.mem_append_right _ (List.mem_append_right _ (List.mem_of_getElem? (i := 35) (by rfl))))))) rfl
theorem wc_X12_put : Cond.code yX12_put prog_14_method_66_code 4 (Option.some Jvm.ClassFile.FieldType.int) ∈ WALL := wx_all (List.mem_append_right _ (List.mem_append_right _ (List.mem_append_right _ (List.mem_append_right _ (List.mem_append_right _ (List.mem_of_getElem? (i := 36) (by rfl))))))) rfl
theorem wl_RL_122 : Cond.methodLink RL 122 yX12_cell ∈ WALL := wx_all (List.mem_append_right _ (List.mem_append_right _ (List.mem_append_right _ (List.mem_append_right _ (List.mem_append_right _ (List.mem_of_getElem? (i := 37) (by rfl))))))) rfl
theorem wi_X12_cell : Cond.instanceMethod yX12_cell ∈ WALL := wx_all (List.mem_append_right _ (List.mem_append_right _ (List.mem_append_right _ (List.mem_append_right _ (List.mem_append_right _ (List.mem_of_getElem? (i := 38) (by rfl))))))) rfl
theorem ws_RX12_X12_cell : Cond.selects RX12 yX12_cell yX12_cell ∈ WALL := wx_all (List.mem_append_right _ (List.mem_append_right _ (List.mem_append_right _ (List.mem_append_right _ (List.mem_append_right _ (List.mem_of_getElem? (i := 39) (by rfl))))))) rfl
theorem wc_X12_cell : Cond.code yX12_cell prog_14_method_67_code 4 (Option.some Jvm.ClassFile.FieldType.long) ∈ WALL := wx_all (List.mem_append_right _ (List.mem_append_right _ (List.mem_append_right _ (List.mem_append_right _ (List.mem_append_right _ (List.mem_of_getElem? (i := 40) (by rfl))))))) rfl
theorem wl_RX12_251 : Cond.methodLink RX12 251 yX12_lost ∈ WALL := wx_all (List.mem_append_right _ (List.mem_append_right _ (List.mem_append_right _ (List.mem_append_right _ (List.mem_append_right _ (List.mem_of_getElem? (i := 41) (by rfl))))))) rfl
theorem wi_X12_lost : Cond.instanceMethod yX12_lost ∈ WALL := wx_all (List.mem_append_right _ (List.mem_append_right _ (List.mem_append_right _ (List.mem_append_right _ (List.mem_append_right _ (List.mem_of_getElem? (i := 43) (by rfl))))))) rfl
theorem wc_X12_lost : Cond.code yX12_lost prog_14_method_4_code 2 (Option.some Jvm.ClassFile.FieldType.long) ∈ WALL := wx_all (List.mem_append_right _ (List.mem_append_right _ (List.mem_append_right _ (List.mem_append_right _ (List.mem_append_right _ (List.mem_of_getElem? (i := 44) (by rfl))))))) rfl
theorem wl_RL_126 : Cond.methodLink RL 126 yX12_copy ∈ WALL := wx_all (List.mem_append_right _ (List.mem_append_right _ (List.mem_append_right _ (List.mem_append_right _ (List.mem_append_right _ (List.mem_of_getElem? (i := 45) (by rfl))))))) rfl
theorem wi_X12_copy : Cond.instanceMethod yX12_copy ∈ WALL := wx_all (List.mem_append_right _ (List.mem_append_right _ (List.mem_append_right _ (List.mem_append_right _ (List.mem_append_right _ (List.mem_of_getElem? (i := 46) (by rfl))))))) rfl
theorem ws_RX12_X12_copy : Cond.selects RX12 yX12_copy yX12_copy ∈ WALL := wx_all (List.mem_append_right _ (List.mem_append_right _ (List.mem_append_right _ (List.mem_append_right _ (List.mem_append_right _ (List.mem_of_getElem? (i := 47) (by rfl))))))) rfl
theorem wc_X12_copy : Cond.code yX12_copy prog_14_method_68_code 10 (Option.some Jvm.ClassFile.FieldType.int) ∈ WALL := wx_all (List.mem_append_right _ (List.mem_append_right _ (List.mem_append_right _ (List.mem_append_right _ (List.mem_append_right _ (List.mem_of_getElem? (i := 48) (by rfl))))))) rfl
theorem wl_RL_130 : Cond.methodLink RL 130 yX12_tell ∈ WALL := wx_all (List.mem_append_right _ (List.mem_append_right _ (List.mem_append_right _ (List.mem_append_right _ (List.mem_append_right _ (List.mem_of_getElem? (i := 49) (by rfl))))))) rfl
theorem wi_X12_tell : Cond.instanceMethod yX12_tell ∈ WALL := wx_all (List.mem_append_right _ (List.mem_append_right _ (List.mem_append_right _ (List.mem_append_right _ (List.mem_append_right _ (List.mem_of_getElem? (i := 50) (by rfl))))))) rfl
theorem ws_RX12_X12_tell : Cond.selects RX12 yX12_tell yX12_tell ∈ WALL := wx_all (List.mem_append_right _ (List.mem_append_right _ (List.mem_append_right _ (List.mem_append_right _ (List.mem_append_right _ (List.mem_of_getElem? (i := 51) (by rfl))))))) rfl
theorem wc_X12_tell : Cond.code yX12_tell prog_14_method_70_code 3 (Option.some Jvm.ClassFile.FieldType.int) ∈ WALL := wx_all (List.mem_append_right _ (List.mem_append_right _ (List.mem_append_right _ (List.mem_append_right _ (List.mem_append_right _ (List.mem_of_getElem? (i := 52) (by rfl))))))) rfl
theorem wl_RX12_258 : Cond.methodLink RX12 258 yX12_begins ∈ WALL := wx_all (List.mem_append_right _ (List.mem_append_right _ (List.mem_append_right _ (List.mem_append_right _ (List.mem_append_right _ (List.mem_of_getElem? (i := 53) (by rfl))))))) rfl
theorem wi_X12_begins : Cond.instanceMethod yX12_begins ∈ WALL := wx_all (List.mem_append_right _ (List.mem_append_right _ (List.mem_append_right _ (List.mem_append_right _ (List.mem_append_right _ (List.mem_of_getElem? (i := 55) (by rfl))))))) rfl
theorem wc_X12_begins : Cond.code yX12_begins prog_14_method_69_code 2 (Option.none : Option Jvm.ClassFile.FieldType) ∈ WALL := wx_all (List.mem_append_right _ (List.mem_append_right _ (List.mem_append_right _ (List.mem_append_right _ (List.mem_append_right _ (List.mem_of_getElem? (i := 56) (by rfl))))))) rfl
theorem wl_RL_134 : Cond.methodLink RL 134 yX12_cheer ∈ WALL := wx_all (List.mem_append_right _ (List.mem_append_right _ (List.mem_append_right _ (List.mem_append_right _ (List.mem_append_right _ (List.mem_of_getElem? (i := 57) (by rfl))))))) rfl
theorem wi_X12_cheer : Cond.instanceMethod yX12_cheer ∈ WALL := wx_all (List.mem_append_right _ (List.mem_append_right _ (List.mem_append_right _ (List.mem_append_right _ (List.mem_append_right _ (List.mem_of_getElem? (i := 58) (by rfl))))))) rfl
theorem ws_RX12_X12_cheer : Cond.selects RX12 yX12_cheer yX12_cheer ∈ WALL := wx_all (List.mem_append_right _ (List.mem_append_right _ (List.mem_append_right _ (List.mem_append_right _ (List.mem_append_right _ (List.mem_of_getElem? (i := 59) (by rfl))))))) rfl
theorem wc_X12_cheer : Cond.code yX12_cheer prog_14_method_71_code 2 (Option.some Jvm.ClassFile.FieldType.int) ∈ WALL := wx_all (List.mem_append_right _ (List.mem_append_right _ (List.mem_append_right _ (List.mem_append_right _ (List.mem_append_right _ (List.mem_of_getElem? (i := 60) (by rfl))))))) rfl
theorem wl_RL_138 : Cond.methodLink RL 138 yX12_as ∈ WALL := wx_all (List.mem_append_right _ (List.mem_append_right _ (List.mem_append_right _ (List.mem_append_right _ (List.mem_append_right _ (List.mem_of_getElem? (i := 61) (by rfl))))))) rfl
theorem wi_X12_as : Cond.instanceMethod yX12_as ∈ WALL := wx_all (List.mem_append_right _ (List.mem_append_right _ (List.mem_append_right _ (List.mem_append_right _ (List.mem_append_right _ (List.mem_of_getElem? (i := 62) (by rfl))))))) rfl
theorem ws_RX12_X12_as : Cond.selects RX12 yX12_as yX12_as ∈ WALL := wx_all (List.mem_append_right _ (List.mem_append_right _ (List.mem_append_right _ (List.mem_append_right _ (List.mem_append_right _ (List.mem_of_getElem? (i := 63) (by rfl))))))) rfl
theorem wc_X12_as : Cond.code yX12_as prog_14_method_72_code 3 (Option.some Jvm.ClassFile.FieldType.int) ∈ WALL := wx_all (List.mem_append_right _ (List.mem_append_right _ (List.mem_append_right _ (List.mem_append_right _ (List.mem_append_right _ (List.mem_of_getElem? (i := 64) (by rfl))))))) rfl
theorem wl_RL_143 : Cond.methodLink RL 143 yX12_trace ∈ WALL := wx_all (List.mem_append_right _ (List.mem_append_right _ (List.mem_append_right _ (List.mem_append_right _ (List.mem_append_right _ (List.mem_of_getElem? (i := 65) (by rfl))))))) rfl
theorem wi_X12_trace : Cond.instanceMethod yX12_trace ∈ WALL := wx_all (List.mem_append_right _ (List.mem_append_right _ (List.mem_append_right _ (List.mem_append_right _ (List.mem_append_right _ (List.mem_of_getElem? (i := 66) (by rfl))))))) rfl
theorem ws_RX12_X12_trace : Cond.selects RX12 yX12_trace yX12_trace ∈ WALL := wx_all (List.mem_append_right _ (List.mem_append_right _ (List.mem_append_right _ (List.mem_append_right _ (List.mem_append_right _ (List.mem_of_getElem? (i := 67) (by rfl))))))) rfl
theorem wc_X12_trace : Cond.code yX12_trace prog_14_method_73_code 1 (Option.some Jvm.ClassFile.FieldType.int) ∈ WALL := wx_all (List.mem_append_right _ (List.mem_append_right _ (List.mem_append_right _ (List.mem_append_right _ (List.mem_append_right _ (List.mem_of_getElem? (i := 68) (by rfl))))))) rfl
theorem wl_RL_147 : Cond.methodLink RL 147 yX12_fault ∈ WALL := wx_all (List.mem_append_right _ (List.mem_append_right _ (List.mem_append_right _ (List.mem_append_right _ (List.mem_append_right _ (List.mem_of_getElem? (i := 69) (by rfl))))))) rfl
theorem wi_X12_fault : Cond.instanceMethod yX12_fault ∈ WALL := wx_all (List.mem_append_right _ (List.mem_append_right _ (List.mem_append_right _ (List.mem_append_right _ (List.mem_append_right _ (List.mem_of_getElem? (i := 70) (by rfl))))))) rfl
theorem ws_RX12_X12_fault : Cond.selects RX12 yX12_fault yX12_fault ∈ WALL := wx_all (List.mem_append_right _ (List.mem_append_right _ (List.mem_append_right _ (List.mem_append_right _ (List.mem_append_right _ (List.mem_of_getElem? (i := 71) (by rfl))))))) rfl
theorem wc_X12_fault : Cond.code yX12_fault prog_14_method_74_code 1 (Option.some Jvm.ClassFile.FieldType.int) ∈ WALL := wx_all (List.mem_append_right _ (List.mem_append_right _ (List.mem_append_right _ (List.mem_append_right _ (List.mem_append_right _ (List.mem_of_getElem? (i := 72) (by rfl))))))) rfl
theorem wl_RL_151 : Cond.methodLink RL 151 yX12_many ∈ WALL := wx_all (List.mem_append_right _ (List.mem_append_right _ (List.mem_append_right _ (List.mem_append_right _ (List.mem_append_right _ (List.mem_of_getElem? (i := 73) (by rfl))))))) rfl
theorem wi_X12_many : Cond.instanceMethod yX12_many ∈ WALL := wx_all (List.mem_append_right _ (List.mem_append_right _ (List.mem_append_right _ (List.mem_append_right _ (List.mem_append_right _ (List.mem_of_getElem? (i := 74) (by rfl))))))) rfl
theorem ws_RX12_X12_many : Cond.selects RX12 yX12_many yX12_many ∈ WALL := wx_all (List.mem_append_right _ (List.mem_append_right _ (List.mem_append_right _ (List.mem_append_right _ (List.mem_append_right _ (List.mem_of_getElem? (i := 75) (by rfl))))))) rfl
theorem wc_X12_many : Cond.code yX12_many prog_14_method_75_code 4 (Option.some Jvm.ClassFile.FieldType.int) ∈ WALL := wx_all (List.mem_append_right _ (List.mem_append_right _ (List.mem_append_right _ (List.mem_append_right _ (List.mem_append_right _ (List.mem_of_getElem? (i := 76) (by rfl))))))) rfl
theorem wm_RX3_RX3_telling : Cond.sameMethod RX3 RX3 "telling" "(LQuoitFeast$Trace;)I" ∈ WALL := wx_all (List.mem_append_right _ (List.mem_append_right _ (List.mem_append_right _ (List.mem_append_right _ (List.mem_append_right _ (List.mem_of_getElem? (i := 77) (by rfl))))))) rfl
theorem wm_RX6_RX6_plainTelling : Cond.sameMethod RX6 RX6 "plainTelling" "(LQuoitFeast$Trace;)I" ∈ WALL := wx_all (List.mem_append_right _ (List.mem_append_right _ (List.mem_append_right _ (List.mem_append_right _ (List.mem_append_right _ (List.mem_of_getElem? (i := 78) (by rfl))))))) rfl
theorem ws_RX3_X6_plainTelling : Cond.selects RX3 yX6_plainTelling yX6_plainTelling ∈ WALL := wx_all (List.mem_append_right _ (List.mem_append_right _ (List.mem_append_right _ (List.mem_append_right _ (List.mem_append_right _ (List.mem_of_getElem? (i := 79) (by rfl))))))) rfl
theorem ws_RX6_X6_plainTelling : Cond.selects RX6 yX6_plainTelling yX6_plainTelling ∈ WALL := wx_all (List.mem_append_right _ (List.mem_append_right _ (List.mem_append_right _ (List.mem_append_right _ (List.mem_append_right _ (List.mem_of_getElem? (i := 80) (by rfl))))))) rfl
theorem ws_RX8_X6_plainTelling : Cond.selects RX8 yX6_plainTelling yX6_plainTelling ∈ WALL := wx_all (List.mem_append_right _ (List.mem_append_right _ (List.mem_append_right _ (List.mem_append_right _ (List.mem_append_right _ (List.mem_of_getElem? (i := 81) (by rfl))))))) rfl
theorem wb_RX8_RX3 : Cond.castable RX8 RX3 ∈ tables_1 := (List.mem_append_right _ (List.mem_append_right _ (List.mem_append_right _ (List.mem_append_right _ (List.mem_append_right _ (List.mem_of_getElem? (i := 82) (by rfl)))))))
theorem wb_RX3_RX6 : Cond.castable RX3 RX6 ∈ tables_1 := (List.mem_append_right _ (List.mem_append_right _ (List.mem_append_right _ (List.mem_append_right _ (List.mem_append_right _ (List.mem_of_getElem? (i := 83) (by rfl)))))))
theorem wb_RX8_RX6 : Cond.castable RX8 RX6 ∈ tables_1 := (List.mem_append_right _ (List.mem_append_right _ (List.mem_append_right _ (List.mem_append_right _ (List.mem_append_right _ (List.mem_of_getElem? (i := 84) (by rfl)))))))
theorem ws_RX11_X11_sheetOf : Cond.selects RX11 yX11_sheetOf yX11_sheetOf ∈ WALL := wx_prv (List.mem_map.mpr ⟨(⟨"QuoitFeast", "sheetOf", "(I)LQuoitFeast$Sheet;"⟩, 10), List.mem_of_getElem? (i := 0) (by rfl), rfl⟩) rfl
theorem ws_RX11_X11_comeTo : Cond.selects RX11 yX11_comeTo yX11_comeTo ∈ WALL := wx_prv (List.mem_map.mpr ⟨(⟨"QuoitFeast", "comeTo", "(I)I"⟩, 10), List.mem_of_getElem? (i := 1) (by rfl), rfl⟩) rfl
theorem ws_RX11_X11_makeAnew : Cond.selects RX11 yX11_makeAnew yX11_makeAnew ∈ WALL := wx_prv (List.mem_map.mpr ⟨(⟨"QuoitFeast", "makeAnew", "()V"⟩, 10), List.mem_of_getElem? (i := 2) (by rfl), rfl⟩) rfl
theorem ws_RX11_X11_throwerOf : Cond.selects RX11 yX11_throwerOf yX11_throwerOf ∈ WALL := wx_prv (List.mem_map.mpr ⟨(⟨"QuoitFeast", "throwerOf", "(I)LQuoitFeast$Right;"⟩, 10), List.mem_of_getElem? (i := 3) (by rfl), rfl⟩) rfl
theorem ws_RX11_X11_refusalOfPairs : Cond.selects RX11 yX11_refusalOfPairs yX11_refusalOfPairs ∈ WALL := wx_prv (List.mem_map.mpr ⟨(⟨"QuoitFeast", "refusalOfPairs", "(LQuoitFeast$Sheet;II)I"⟩, 10), List.mem_of_getElem? (i := 4) (by rfl), rfl⟩) rfl
theorem ws_RX11_X11_refusalOfPair : Cond.selects RX11 yX11_refusalOfPair yX11_refusalOfPair ∈ WALL := wx_prv (List.mem_map.mpr ⟨(⟨"QuoitFeast", "refusalOfPair", "(II)I"⟩, 10), List.mem_of_getElem? (i := 5) (by rfl), rfl⟩) rfl
theorem ws_RX11_X11_tellFeast : Cond.selects RX11 yX11_tellFeast yX11_tellFeast ∈ WALL := wx_prv (List.mem_map.mpr ⟨(⟨"QuoitFeast", "tellFeast", "(LQuoitFeast$Sheet;II)V"⟩, 10), List.mem_of_getElem? (i := 6) (by rfl), rfl⟩) rfl
theorem ws_RX11_X11_canAct : Cond.selects RX11 yX11_canAct yX11_canAct ∈ WALL := wx_prv (List.mem_map.mpr ⟨(⟨"QuoitFeast", "canAct", "(II)Z"⟩, 10), List.mem_of_getElem? (i := 7) (by rfl), rfl⟩) rfl
theorem ws_RX11_X11_winsOf : Cond.selects RX11 yX11_winsOf yX11_winsOf ∈ WALL := wx_prv (List.mem_map.mpr ⟨(⟨"QuoitFeast", "winsOf", "(LQuoitFeast$Right;)I"⟩, 10), List.mem_of_getElem? (i := 8) (by rfl), rfl⟩) rfl
theorem ws_RX11_X11_preparePairing : Cond.selects RX11 yX11_preparePairing yX11_preparePairing ∈ WALL := wx_prv (List.mem_map.mpr ⟨(⟨"QuoitFeast", "preparePairing", "()V"⟩, 10), List.mem_of_getElem? (i := 9) (by rfl), rfl⟩) rfl
theorem ws_RX11_X11_noteNearness : Cond.selects RX11 yX11_noteNearness yX11_noteNearness ∈ WALL := wx_prv (List.mem_map.mpr ⟨(⟨"QuoitFeast", "noteNearness", "(LQuoitFeast$Right;)V"⟩, 10), List.mem_of_getElem? (i := 10) (by rfl), rfl⟩) rfl
theorem ws_RX11_X11_allSoWith : Cond.selects RX11 yX11_allSoWith yX11_allSoWith ∈ WALL := wx_prv (List.mem_map.mpr ⟨(⟨"QuoitFeast", "allSoWith", "(IIII)Z"⟩, 10), List.mem_of_getElem? (i := 11) (by rfl), rfl⟩) rfl
theorem ws_RX12_X12_against : Cond.selects RX12 yX12_against yX12_against ∈ WALL := wx_prv (List.mem_map.mpr ⟨(⟨"QuoitFeastModel", "against", "(IIII)I"⟩, 38), List.mem_of_getElem? (i := 12) (by rfl), rfl⟩) rfl
theorem ws_RX12_X12_fails : Cond.selects RX12 yX12_fails yX12_fails ∈ WALL := wx_prv (List.mem_map.mpr ⟨(⟨"QuoitFeastModel", "fails", "(I)I"⟩, 38), List.mem_of_getElem? (i := 13) (by rfl), rfl⟩) rfl
theorem ws_RX12_X12_readDale : Cond.selects RX12 yX12_readDale yX12_readDale ∈ WALL := wx_prv (List.mem_map.mpr ⟨(⟨"QuoitFeastModel", "readDale", "(I)Z"⟩, 38), List.mem_of_getElem? (i := 14) (by rfl), rfl⟩) rfl
theorem ws_RX12_X12_isSign : Cond.selects RX12 yX12_isSign yX12_isSign ∈ WALL := wx_prv (List.mem_map.mpr ⟨(⟨"QuoitFeastModel", "isSign", "(II)Z"⟩, 38), List.mem_of_getElem? (i := 15) (by rfl), rfl⟩) rfl
theorem ws_RX12_X12_isNext : Cond.selects RX12 yX12_isNext yX12_isNext ∈ WALL := wx_prv (List.mem_map.mpr ⟨(⟨"QuoitFeastModel", "isNext", "(II)Z"⟩, 38), List.mem_of_getElem? (i := 16) (by rfl), rfl⟩) rfl
theorem ws_RX12_X12_digit : Cond.selects RX12 yX12_digit yX12_digit ∈ WALL := wx_prv (List.mem_map.mpr ⟨(⟨"QuoitFeastModel", "digit", "(III)I"⟩, 38), List.mem_of_getElem? (i := 17) (by rfl), rfl⟩) rfl
theorem ws_RX12_X12_readTheGirl : Cond.selects RX12 yX12_readTheGirl yX12_readTheGirl ∈ WALL := wx_prv (List.mem_map.mpr ⟨(⟨"QuoitFeastModel", "readTheGirl", "(I)Z"⟩, 38), List.mem_of_getElem? (i := 18) (by rfl), rfl⟩) rfl
theorem ws_RX12_X12_readTheThrower : Cond.selects RX12 yX12_readTheThrower yX12_readTheThrower ∈ WALL := wx_prv (List.mem_map.mpr ⟨(⟨"QuoitFeastModel", "readTheThrower", "(I)Z"⟩, 38), List.mem_of_getElem? (i := 19) (by rfl), rfl⟩) rfl
theorem ws_RX12_X12_takeDale : Cond.selects RX12 yX12_takeDale yX12_takeDale ∈ WALL := wx_prv (List.mem_map.mpr ⟨(⟨"QuoitFeastModel", "takeDale", "()V"⟩, 38), List.mem_of_getElem? (i := 20) (by rfl), rfl⟩) rfl
theorem ws_RX12_X12_isGirl : Cond.selects RX12 yX12_isGirl yX12_isGirl ∈ WALL := wx_prv (List.mem_map.mpr ⟨(⟨"QuoitFeastModel", "isGirl", "(I)Z"⟩, 38), List.mem_of_getElem? (i := 21) (by rfl), rfl⟩) rfl
theorem ws_RX12_X12_hasHer : Cond.selects RX12 yX12_hasHer yX12_hasHer ∈ WALL := wx_prv (List.mem_map.mpr ⟨(⟨"QuoitFeastModel", "hasHer", "(I)I"⟩, 38), List.mem_of_getElem? (i := 22) (by rfl), rfl⟩) rfl
theorem ws_RX12_X12_bestRing : Cond.selects RX12 yX12_bestRing yX12_bestRing ∈ WALL := wx_prv (List.mem_map.mpr ⟨(⟨"QuoitFeastModel", "bestRing", "(I)I"⟩, 38), List.mem_of_getElem? (i := 23) (by rfl), rfl⟩) rfl
theorem ws_RX12_X12_ringers : Cond.selects RX12 yX12_ringers yX12_ringers ∈ WALL := wx_prv (List.mem_map.mpr ⟨(⟨"QuoitFeastModel", "ringers", "(I)I"⟩, 38), List.mem_of_getElem? (i := 24) (by rfl), rfl⟩) rfl
theorem ws_RX12_X12_isThrower : Cond.selects RX12 yX12_isThrower yX12_isThrower ∈ WALL := wx_prv (List.mem_map.mpr ⟨(⟨"QuoitFeastModel", "isThrower", "(I)Z"⟩, 38), List.mem_of_getElem? (i := 25) (by rfl), rfl⟩) rfl
theorem ws_RX12_X12_reachOf : Cond.selects RX12 yX12_reachOf yX12_reachOf ∈ WALL := wx_prv (List.mem_map.mpr ⟨(⟨"QuoitFeastModel", "reachOf", "(I)I"⟩, 38), List.mem_of_getElem? (i := 26) (by rfl), rfl⟩) rfl
theorem ws_RX12_X12_hasSet : Cond.selects RX12 yX12_hasSet yX12_hasSet ∈ WALL := wx_prv (List.mem_map.mpr ⟨(⟨"QuoitFeastModel", "hasSet", "(I)I"⟩, 38), List.mem_of_getElem? (i := 27) (by rfl), rfl⟩) rfl
theorem ws_RX12_X12_ringsOf : Cond.selects RX12 yX12_ringsOf yX12_ringsOf ∈ WALL := wx_prv (List.mem_map.mpr ⟨(⟨"QuoitFeastModel", "ringsOf", "(I)I"⟩, 38), List.mem_of_getElem? (i := 28) (by rfl), rfl⟩) rfl
theorem ws_RX12_X12_measureOf : Cond.selects RX12 yX12_measureOf yX12_measureOf ∈ WALL := wx_prv (List.mem_map.mpr ⟨(⟨"QuoitFeastModel", "measureOf", "(II)I"⟩, 38), List.mem_of_getElem? (i := 29) (by rfl), rfl⟩) rfl
theorem ws_RX12_X12_measureBy : Cond.selects RX12 yX12_measureBy yX12_measureBy ∈ WALL := wx_prv (List.mem_map.mpr ⟨(⟨"QuoitFeastModel", "measureBy", "(II)I"⟩, 38), List.mem_of_getElem? (i := 30) (by rfl), rfl⟩) rfl
theorem ws_RX12_X12_layOn : Cond.selects RX12 yX12_layOn yX12_layOn ∈ WALL := wx_prv (List.mem_map.mpr ⟨(⟨"QuoitFeastModel", "layOn", "(III)V"⟩, 38), List.mem_of_getElem? (i := 31) (by rfl), rfl⟩) rfl
theorem ws_RX12_X12_refusesPair : Cond.selects RX12 yX12_refusesPair yX12_refusesPair ∈ WALL := wx_prv (List.mem_map.mpr ⟨(⟨"QuoitFeastModel", "refusesPair", "(II)I"⟩, 38), List.mem_of_getElem? (i := 32) (by rfl), rfl⟩) rfl
theorem ws_RX12_X12_keep : Cond.selects RX12 yX12_keep yX12_keep ∈ WALL := wx_prv (List.mem_map.mpr ⟨(⟨"QuoitFeastModel", "keep", "()V"⟩, 38), List.mem_of_getElem? (i := 33) (by rfl), rfl⟩) rfl
theorem ws_RX12_X12_goFeast : Cond.selects RX12 yX12_goFeast yX12_goFeast ∈ WALL := wx_prv (List.mem_map.mpr ⟨(⟨"QuoitFeastModel", "goFeast", "(II)I"⟩, 38), List.mem_of_getElem? (i := 34) (by rfl), rfl⟩) rfl
theorem ws_RX12_X12_does : Cond.selects RX12 yX12_does yX12_does ∈ WALL := wx_prv (List.mem_map.mpr ⟨(⟨"QuoitFeastModel", "does", "(II)Z"⟩, 38), List.mem_of_getElem? (i := 35) (by rfl), rfl⟩) rfl
theorem ws_RX12_X12_tellFeast : Cond.selects RX12 yX12_tellFeast yX12_tellFeast ∈ WALL := wx_prv (List.mem_map.mpr ⟨(⟨"QuoitFeastModel", "tellFeast", "(I)I"⟩, 38), List.mem_of_getElem? (i := 36) (by rfl), rfl⟩) rfl
theorem ws_RX12_X12_putBack : Cond.selects RX12 yX12_putBack yX12_putBack ∈ WALL := wx_prv (List.mem_map.mpr ⟨(⟨"QuoitFeastModel", "putBack", "()V"⟩, 38), List.mem_of_getElem? (i := 37) (by rfl), rfl⟩) rfl
theorem ws_RX12_X12_winsHer : Cond.selects RX12 yX12_winsHer yX12_winsHer ∈ WALL := wx_prv (List.mem_map.mpr ⟨(⟨"QuoitFeastModel", "winsHer", "(II)Z"⟩, 38), List.mem_of_getElem? (i := 38) (by rfl), rfl⟩) rfl
theorem ws_RX12_X12_hasBy : Cond.selects RX12 yX12_hasBy yX12_hasBy ∈ WALL := wx_prv (List.mem_map.mpr ⟨(⟨"QuoitFeastModel", "hasBy", "(III)Z"⟩, 38), List.mem_of_getElem? (i := 39) (by rfl), rfl⟩) rfl
theorem ws_RX12_X12_isRow : Cond.selects RX12 yX12_isRow yX12_isRow ∈ WALL := wx_prv (List.mem_map.mpr ⟨(⟨"QuoitFeastModel", "isRow", "(I)Z"⟩, 38), List.mem_of_getElem? (i := 40) (by rfl), rfl⟩) rfl
theorem ws_RX12_X12_tryRow : Cond.selects RX12 yX12_tryRow yX12_tryRow ∈ WALL := wx_prv (List.mem_map.mpr ⟨(⟨"QuoitFeastModel", "tryRow", "()V"⟩, 38), List.mem_of_getElem? (i := 41) (by rfl), rfl⟩) rfl
theorem ws_RX12_X12_nextFor : Cond.selects RX12 yX12_nextFor yX12_nextFor ∈ WALL := wx_prv (List.mem_map.mpr ⟨(⟨"QuoitFeastModel", "nextFor", "(I)I"⟩, 38), List.mem_of_getElem? (i := 42) (by rfl), rfl⟩) rfl
theorem ws_RX12_X12_asks : Cond.selects RX12 yX12_asks yX12_asks ∈ WALL := wx_prv (List.mem_map.mpr ⟨(⟨"QuoitFeastModel", "asks", "(II)V"⟩, 38), List.mem_of_getElem? (i := 43) (by rfl), rfl⟩) rfl
theorem ws_RX12_X12_wouldRather : Cond.selects RX12 yX12_wouldRather yX12_wouldRather ∈ WALL := wx_prv (List.mem_map.mpr ⟨(⟨"QuoitFeastModel", "wouldRather", "(II)Z"⟩, 38), List.mem_of_getElem? (i := 44) (by rfl), rfl⟩) rfl
theorem ws_RX12_X12_areSo : Cond.selects RX12 yX12_areSo yX12_areSo ∈ WALL := wx_prv (List.mem_map.mpr ⟨(⟨"QuoitFeastModel", "areSo", "()Z"⟩, 38), List.mem_of_getElem? (i := 45) (by rfl), rfl⟩) rfl
theorem ws_RX12_X12_lost : Cond.selects RX12 yX12_lost yX12_lost ∈ WALL := wx_prv (List.mem_map.mpr ⟨(⟨"QuoitFeastModel", "lost", "(I)J"⟩, 38), List.mem_of_getElem? (i := 46) (by rfl), rfl⟩) rfl
theorem ws_RX12_X12_begins : Cond.selects RX12 yX12_begins yX12_begins ∈ WALL := wx_prv (List.mem_map.mpr ⟨(⟨"QuoitFeastModel", "begins", "(I)V"⟩, 38), List.mem_of_getElem? (i := 47) (by rfl), rfl⟩) rfl
theorem inW0 : ∀ w ∈ u_ws RX0 TX0 3, w ∈ WALL := fun w h => List.mem_filter.mpr (by revert w; decide +kernel)
theorem inW1 : ∀ w ∈ u_ws RX1 TX1 4, w ∈ WALL := fun w h => List.mem_filter.mpr (by revert w; decide +kernel)
theorem inW2 : ∀ w ∈ u_ws RX2 TX2 5, w ∈ WALL := fun w h => List.mem_filter.mpr (by revert w; decide +kernel)
theorem inW3 : ∀ w ∈ u_ws RX3 TX3 2, w ∈ WALL := fun w h => List.mem_filter.mpr (by revert w; decide +kernel)
theorem inW4 : ∀ w ∈ u_ws RX4 TX4 7, w ∈ WALL := fun w h => List.mem_filter.mpr (by revert w; decide +kernel)
theorem inW5 : ∀ w ∈ u_ws RX5 TX5 4, w ∈ WALL := fun w h => List.mem_filter.mpr (by revert w; decide +kernel)
theorem inW6 : ∀ w ∈ u_ws RX6 TX6 2, w ∈ WALL := fun w h => List.mem_filter.mpr (by revert w; decide +kernel)
theorem inW7 : ∀ w ∈ u_ws RX7 TX7 3, w ∈ WALL := fun w h => List.mem_filter.mpr (by revert w; decide +kernel)
theorem inW8 : ∀ w ∈ u_ws RX8 TX8 2, w ∈ WALL := fun w h => List.mem_filter.mpr (by revert w; decide +kernel)
theorem inW9 : ∀ w ∈ u_ws RX9 TX9 8, w ∈ WALL := fun w h => List.mem_filter.mpr (by revert w; decide +kernel)
theorem inW10 : ∀ w ∈ u_ws RX10 TX10 1, w ∈ WALL := fun w h => List.mem_filter.mpr (by revert w; decide +kernel)
theorem inW11 : ∀ w ∈ u_ws RX11 TX11 10, w ∈ WALL := fun w h => List.mem_filter.mpr (by revert w; decide +kernel)
theorem inW12 : ∀ w ∈ u_ws RX12 TX12 38, w ∈ WALL := fun w h => List.mem_filter.mpr (by revert w; decide +kernel)
end
section
theorem dX0_init_0 : decode cX0_init 0 = .ok (.aload_n 0, 1) := by decide +kernel
theorem dX0_init_1 : decode cX0_init 1 = .ok (.invokespecial 3, 3) := by decide +kernel
theorem dX0_init_4 : decode cX0_init 4 = .ok (.aload_n 0, 1) := by decide +kernel
theorem dX0_init_5 : decode cX0_init 5 = .ok (.iconst 4, 1) := by decide +kernel
theorem dX0_init_6 : decode cX0_init 6 = .ok (.anewarray 9, 3) := by decide +kernel
theorem dX0_init_9 : decode cX0_init 9 = .ok (.putfield 11, 3) := by decide +kernel
theorem dX0_init_12 : decode cX0_init 12 = .ok (.iconst 0, 1) := by decide +kernel
theorem dX0_init_13 : decode cX0_init 13 = .ok (.istore_n 1, 1) := by decide +kernel
theorem dX0_init_14 : decode cX0_init 14 = .ok (.iload_n 1, 1) := by decide +kernel
theorem dX0_init_15 : decode cX0_init 15 = .ok (.aload_n 0, 1) := by decide +kernel
theorem dX0_init_16 : decode cX0_init 16 = .ok (.getfield 11, 3) := by decide +kernel
theorem dX0_init_19 : decode cX0_init 19 = .ok (.arraylength, 1) := by decide +kernel
theorem dX0_init_20 : decode cX0_init 20 = .ok (.if_icmp .ge 22, 3) := by decide +kernel
theorem dX0_init_23 : decode cX0_init 23 = .ok (.aload_n 0, 1) := by decide +kernel
theorem dX0_init_24 : decode cX0_init 24 = .ok (.getfield 11, 3) := by decide +kernel
theorem dX0_init_27 : decode cX0_init 27 = .ok (.iload_n 1, 1) := by decide +kernel
theorem dX0_init_28 : decode cX0_init 28 = .ok (.new 9, 3) := by decide +kernel
theorem dX0_init_31 : decode cX0_init 31 = .ok (.dup, 1) := by decide +kernel
theorem dX0_init_32 : decode cX0_init 32 = .ok (.invokespecial 17, 3) := by decide +kernel
theorem dX0_init_35 : decode cX0_init 35 = .ok (.aastore, 1) := by decide +kernel
theorem dX0_init_36 : decode cX0_init 36 = .ok (.iinc 1 1, 3) := by decide +kernel
theorem dX0_init_39 : decode cX0_init 39 = .ok (.goto (-25), 3) := by decide +kernel
theorem dX0_init_42 : decode cX0_init 42 = .ok (.return_, 1) := by decide +kernel
theorem dX0_girlAt_0 : decode cX0_girlAt 0 = .ok (.iload_n 1, 1) := by decide +kernel
theorem dX0_girlAt_1 : decode cX0_girlAt 1 = .ok (.ifCond .lt 20, 3) := by decide +kernel
theorem dX0_girlAt_4 : decode cX0_girlAt 4 = .ok (.iload_n 1, 1) := by decide +kernel
theorem dX0_girlAt_5 : decode cX0_girlAt 5 = .ok (.aload_n 0, 1) := by decide +kernel
theorem dX0_girlAt_6 : decode cX0_girlAt 6 = .ok (.getfield 18, 3) := by decide +kernel
theorem dX0_girlAt_9 : decode cX0_girlAt 9 = .ok (.if_icmp .ge 12, 3) := by decide +kernel
theorem dX0_girlAt_12 : decode cX0_girlAt 12 = .ok (.iload_n 1, 1) := by decide +kernel
theorem dX0_girlAt_13 : decode cX0_girlAt 13 = .ok (.aload_n 0, 1) := by decide +kernel
theorem dX0_girlAt_14 : decode cX0_girlAt 14 = .ok (.getfield 11, 3) := by decide +kernel
theorem dX0_girlAt_17 : decode cX0_girlAt 17 = .ok (.arraylength, 1) := by decide +kernel
theorem dX0_girlAt_18 : decode cX0_girlAt 18 = .ok (.if_icmp .lt 7, 3) := by decide +kernel
theorem dX0_girlAt_21 : decode cX0_girlAt 21 = .ok (.aconst_null, 1) := by decide +kernel
theorem dX0_girlAt_22 : decode cX0_girlAt 22 = .ok (.goto 9, 3) := by decide +kernel
theorem dX0_girlAt_25 : decode cX0_girlAt 25 = .ok (.aload_n 0, 1) := by decide +kernel
theorem dX0_girlAt_26 : decode cX0_girlAt 26 = .ok (.getfield 11, 3) := by decide +kernel
theorem dX0_girlAt_29 : decode cX0_girlAt 29 = .ok (.iload_n 1, 1) := by decide +kernel
theorem dX0_girlAt_30 : decode cX0_girlAt 30 = .ok (.aaload, 1) := by decide +kernel
theorem dX0_girlAt_31 : decode cX0_girlAt 31 = .ok (.areturn, 1) := by decide +kernel
theorem dX0_standAs_0 : decode cX0_standAs 0 = .ok (.aload_n 0, 1) := by decide +kernel
theorem dX0_standAs_1 : decode cX0_standAs 1 = .ok (.aload_n 1, 1) := by decide +kernel
theorem dX0_standAs_2 : decode cX0_standAs 2 = .ok (.getfield 22, 3) := by decide +kernel
theorem dX0_standAs_5 : decode cX0_standAs 5 = .ok (.putfield 27, 3) := by decide +kernel
theorem dX0_standAs_8 : decode cX0_standAs 8 = .ok (.aload_n 0, 1) := by decide +kernel
theorem dX0_standAs_9 : decode cX0_standAs 9 = .ok (.aload_n 1, 1) := by decide +kernel
theorem dX0_standAs_10 : decode cX0_standAs 10 = .ok (.getfield 28, 3) := by decide +kernel
theorem dX0_standAs_13 : decode cX0_standAs 13 = .ok (.putfield 18, 3) := by decide +kernel
theorem dX0_standAs_16 : decode cX0_standAs 16 = .ok (.iconst 0, 1) := by decide +kernel
theorem dX0_standAs_17 : decode cX0_standAs 17 = .ok (.istore_n 2, 1) := by decide +kernel
theorem dX0_standAs_18 : decode cX0_standAs 18 = .ok (.iload_n 2, 1) := by decide +kernel
theorem dX0_standAs_19 : decode cX0_standAs 19 = .ok (.aload_n 0, 1) := by decide +kernel
theorem dX0_standAs_20 : decode cX0_standAs 20 = .ok (.getfield 18, 3) := by decide +kernel
theorem dX0_standAs_23 : decode cX0_standAs 23 = .ok (.if_icmp .ge 33, 3) := by decide +kernel
theorem dX0_standAs_26 : decode cX0_standAs 26 = .ok (.aload_n 0, 1) := by decide +kernel
theorem dX0_standAs_27 : decode cX0_standAs 27 = .ok (.iload_n 2, 1) := by decide +kernel
theorem dX0_standAs_28 : decode cX0_standAs 28 = .ok (.invokevirtual 30, 3) := by decide +kernel
theorem dX0_standAs_31 : decode cX0_standAs 31 = .ok (.astore_n 3, 1) := by decide +kernel
theorem dX0_standAs_32 : decode cX0_standAs 32 = .ok (.aload_n 3, 1) := by decide +kernel
theorem dX0_standAs_33 : decode cX0_standAs 33 = .ok (.ifnull 17, 3) := by decide +kernel
theorem dX0_standAs_36 : decode cX0_standAs 36 = .ok (.aload_n 3, 1) := by decide +kernel
theorem dX0_standAs_37 : decode cX0_standAs 37 = .ok (.aload_n 1, 1) := by decide +kernel
theorem dX0_standAs_38 : decode cX0_standAs 38 = .ok (.iload_n 2, 1) := by decide +kernel
theorem dX0_standAs_39 : decode cX0_standAs 39 = .ok (.invokevirtual 34, 3) := by decide +kernel
theorem dX0_standAs_42 : decode cX0_standAs 42 = .ok (.aload_n 1, 1) := by decide +kernel
theorem dX0_standAs_43 : decode cX0_standAs 43 = .ok (.iload_n 2, 1) := by decide +kernel
theorem dX0_standAs_44 : decode cX0_standAs 44 = .ok (.invokevirtual 38, 3) := by decide +kernel
theorem dX0_standAs_47 : decode cX0_standAs 47 = .ok (.invokevirtual 41, 3) := by decide +kernel
theorem dX0_standAs_50 : decode cX0_standAs 50 = .ok (.iinc 2 1, 3) := by decide +kernel
theorem dX0_standAs_53 : decode cX0_standAs 53 = .ok (.goto (-35), 3) := by decide +kernel
theorem dX0_standAs_56 : decode cX0_standAs 56 = .ok (.return_, 1) := by decide +kernel
theorem dX0_becomeLike_0 : decode cX0_becomeLike 0 = .ok (.aload_n 0, 1) := by decide +kernel
theorem dX0_becomeLike_1 : decode cX0_becomeLike 1 = .ok (.aload_n 1, 1) := by decide +kernel
theorem dX0_becomeLike_2 : decode cX0_becomeLike 2 = .ok (.getfield 27, 3) := by decide +kernel
theorem dX0_becomeLike_5 : decode cX0_becomeLike 5 = .ok (.putfield 27, 3) := by decide +kernel
theorem dX0_becomeLike_8 : decode cX0_becomeLike 8 = .ok (.aload_n 0, 1) := by decide +kernel
theorem dX0_becomeLike_9 : decode cX0_becomeLike 9 = .ok (.aload_n 1, 1) := by decide +kernel
theorem dX0_becomeLike_10 : decode cX0_becomeLike 10 = .ok (.getfield 18, 3) := by decide +kernel
theorem dX0_becomeLike_13 : decode cX0_becomeLike 13 = .ok (.putfield 18, 3) := by decide +kernel
theorem dX0_becomeLike_16 : decode cX0_becomeLike 16 = .ok (.iconst 0, 1) := by decide +kernel
theorem dX0_becomeLike_17 : decode cX0_becomeLike 17 = .ok (.istore_n 2, 1) := by decide +kernel
theorem dX0_becomeLike_18 : decode cX0_becomeLike 18 = .ok (.iload_n 2, 1) := by decide +kernel
theorem dX0_becomeLike_19 : decode cX0_becomeLike 19 = .ok (.aload_n 0, 1) := by decide +kernel
theorem dX0_becomeLike_20 : decode cX0_becomeLike 20 = .ok (.getfield 18, 3) := by decide +kernel
theorem dX0_becomeLike_23 : decode cX0_becomeLike 23 = .ok (.if_icmp .ge 37, 3) := by decide +kernel
theorem dX0_becomeLike_26 : decode cX0_becomeLike 26 = .ok (.aload_n 0, 1) := by decide +kernel
theorem dX0_becomeLike_27 : decode cX0_becomeLike 27 = .ok (.iload_n 2, 1) := by decide +kernel
theorem dX0_becomeLike_28 : decode cX0_becomeLike 28 = .ok (.invokevirtual 30, 3) := by decide +kernel
theorem dX0_becomeLike_31 : decode cX0_becomeLike 31 = .ok (.astore_n 3, 1) := by decide +kernel
theorem dX0_becomeLike_32 : decode cX0_becomeLike 32 = .ok (.aload_n 1, 1) := by decide +kernel
theorem dX0_becomeLike_33 : decode cX0_becomeLike 33 = .ok (.iload_n 2, 1) := by decide +kernel
theorem dX0_becomeLike_34 : decode cX0_becomeLike 34 = .ok (.invokevirtual 30, 3) := by decide +kernel
theorem dX0_becomeLike_37 : decode cX0_becomeLike 37 = .ok (.astore 4, 2) := by decide +kernel
theorem dX0_becomeLike_39 : decode cX0_becomeLike 39 = .ok (.aload_n 3, 1) := by decide +kernel
theorem dX0_becomeLike_40 : decode cX0_becomeLike 40 = .ok (.ifnull 14, 3) := by decide +kernel
theorem dX0_becomeLike_43 : decode cX0_becomeLike 43 = .ok (.aload 4, 2) := by decide +kernel
theorem dX0_becomeLike_45 : decode cX0_becomeLike 45 = .ok (.ifnull 9, 3) := by decide +kernel
theorem dX0_becomeLike_48 : decode cX0_becomeLike 48 = .ok (.aload_n 3, 1) := by decide +kernel
theorem dX0_becomeLike_49 : decode cX0_becomeLike 49 = .ok (.aload 4, 2) := by decide +kernel
theorem dX0_becomeLike_51 : decode cX0_becomeLike 51 = .ok (.invokevirtual 45, 3) := by decide +kernel
theorem dX0_becomeLike_54 : decode cX0_becomeLike 54 = .ok (.iinc 2 1, 3) := by decide +kernel
theorem dX0_becomeLike_57 : decode cX0_becomeLike 57 = .ok (.goto (-39), 3) := by decide +kernel
theorem dX0_becomeLike_60 : decode cX0_becomeLike 60 = .ok (.return_, 1) := by decide +kernel
theorem dX0_ringsInAll_0 : decode cX0_ringsInAll 0 = .ok (.iconst 0, 1) := by decide +kernel
theorem dX0_ringsInAll_1 : decode cX0_ringsInAll 1 = .ok (.istore_n 1, 1) := by decide +kernel
theorem dX0_ringsInAll_2 : decode cX0_ringsInAll 2 = .ok (.iconst 0, 1) := by decide +kernel
theorem dX0_ringsInAll_3 : decode cX0_ringsInAll 3 = .ok (.istore_n 2, 1) := by decide +kernel
theorem dX0_ringsInAll_4 : decode cX0_ringsInAll 4 = .ok (.iload_n 2, 1) := by decide +kernel
theorem dX0_ringsInAll_5 : decode cX0_ringsInAll 5 = .ok (.aload_n 0, 1) := by decide +kernel
theorem dX0_ringsInAll_6 : decode cX0_ringsInAll 6 = .ok (.getfield 18, 3) := by decide +kernel
theorem dX0_ringsInAll_9 : decode cX0_ringsInAll 9 = .ok (.if_icmp .ge 30, 3) := by decide +kernel
theorem dX0_ringsInAll_12 : decode cX0_ringsInAll 12 = .ok (.aload_n 0, 1) := by decide +kernel
theorem dX0_ringsInAll_13 : decode cX0_ringsInAll 13 = .ok (.iload_n 2, 1) := by decide +kernel
theorem dX0_ringsInAll_14 : decode cX0_ringsInAll 14 = .ok (.invokevirtual 30, 3) := by decide +kernel
theorem dX0_ringsInAll_17 : decode cX0_ringsInAll 17 = .ok (.astore_n 3, 1) := by decide +kernel
theorem dX0_ringsInAll_18 : decode cX0_ringsInAll 18 = .ok (.iload_n 1, 1) := by decide +kernel
theorem dX0_ringsInAll_19 : decode cX0_ringsInAll 19 = .ok (.aload_n 3, 1) := by decide +kernel
theorem dX0_ringsInAll_20 : decode cX0_ringsInAll 20 = .ok (.ifnonnull 7, 3) := by decide +kernel
theorem dX0_ringsInAll_23 : decode cX0_ringsInAll 23 = .ok (.iconst 0, 1) := by decide +kernel
theorem dX0_ringsInAll_24 : decode cX0_ringsInAll 24 = .ok (.goto 7, 3) := by decide +kernel
theorem dX0_ringsInAll_27 : decode cX0_ringsInAll 27 = .ok (.aload_n 3, 1) := by decide +kernel
theorem dX0_ringsInAll_28 : decode cX0_ringsInAll 28 = .ok (.getfield 49, 3) := by decide +kernel
theorem dX0_ringsInAll_31 : decode cX0_ringsInAll 31 = .ok (.iadd, 1) := by decide +kernel
theorem dX0_ringsInAll_32 : decode cX0_ringsInAll 32 = .ok (.istore_n 1, 1) := by decide +kernel
theorem dX0_ringsInAll_33 : decode cX0_ringsInAll 33 = .ok (.iinc 2 1, 3) := by decide +kernel
theorem dX0_ringsInAll_36 : decode cX0_ringsInAll 36 = .ok (.goto (-32), 3) := by decide +kernel
theorem dX0_ringsInAll_39 : decode cX0_ringsInAll 39 = .ok (.iload_n 1, 1) := by decide +kernel
theorem dX0_ringsInAll_40 : decode cX0_ringsInAll 40 = .ok (.ireturn, 1) := by decide +kernel
theorem dX0_ringsOf_0 : decode cX0_ringsOf 0 = .ok (.iconst 0, 1) := by decide +kernel
theorem dX0_ringsOf_1 : decode cX0_ringsOf 1 = .ok (.istore_n 2, 1) := by decide +kernel
theorem dX0_ringsOf_2 : decode cX0_ringsOf 2 = .ok (.iconst 0, 1) := by decide +kernel
theorem dX0_ringsOf_3 : decode cX0_ringsOf 3 = .ok (.istore_n 3, 1) := by decide +kernel
theorem dX0_ringsOf_4 : decode cX0_ringsOf 4 = .ok (.iload_n 3, 1) := by decide +kernel
theorem dX0_ringsOf_5 : decode cX0_ringsOf 5 = .ok (.aload_n 0, 1) := by decide +kernel
theorem dX0_ringsOf_6 : decode cX0_ringsOf 6 = .ok (.getfield 18, 3) := by decide +kernel
theorem dX0_ringsOf_9 : decode cX0_ringsOf 9 = .ok (.if_icmp .ge 34, 3) := by decide +kernel
theorem dX0_ringsOf_12 : decode cX0_ringsOf 12 = .ok (.aload_n 0, 1) := by decide +kernel
theorem dX0_ringsOf_13 : decode cX0_ringsOf 13 = .ok (.iload_n 3, 1) := by decide +kernel
theorem dX0_ringsOf_14 : decode cX0_ringsOf 14 = .ok (.invokevirtual 30, 3) := by decide +kernel
theorem dX0_ringsOf_17 : decode cX0_ringsOf 17 = .ok (.astore 4, 2) := by decide +kernel
theorem dX0_ringsOf_19 : decode cX0_ringsOf 19 = .ok (.iload_n 2, 1) := by decide +kernel
theorem dX0_ringsOf_20 : decode cX0_ringsOf 20 = .ok (.aload 4, 2) := by decide +kernel
theorem dX0_ringsOf_22 : decode cX0_ringsOf 22 = .ok (.ifnonnull 7, 3) := by decide +kernel
theorem dX0_ringsOf_25 : decode cX0_ringsOf 25 = .ok (.iconst 0, 1) := by decide +kernel
theorem dX0_ringsOf_26 : decode cX0_ringsOf 26 = .ok (.goto 9, 3) := by decide +kernel
theorem dX0_ringsOf_29 : decode cX0_ringsOf 29 = .ok (.aload 4, 2) := by decide +kernel
theorem dX0_ringsOf_31 : decode cX0_ringsOf 31 = .ok (.iload_n 1, 1) := by decide +kernel
theorem dX0_ringsOf_32 : decode cX0_ringsOf 32 = .ok (.invokevirtual 52, 3) := by decide +kernel
theorem dX0_ringsOf_35 : decode cX0_ringsOf 35 = .ok (.iadd, 1) := by decide +kernel
theorem dX0_ringsOf_36 : decode cX0_ringsOf 36 = .ok (.istore_n 2, 1) := by decide +kernel
theorem dX0_ringsOf_37 : decode cX0_ringsOf 37 = .ok (.iinc 3 1, 3) := by decide +kernel
theorem dX0_ringsOf_40 : decode cX0_ringsOf 40 = .ok (.goto (-36), 3) := by decide +kernel
theorem dX0_ringsOf_43 : decode cX0_ringsOf 43 = .ok (.iload_n 2, 1) := by decide +kernel
theorem dX0_ringsOf_44 : decode cX0_ringsOf 44 = .ok (.ireturn, 1) := by decide +kernel
theorem dX0_heldBy_0 : decode cX0_heldBy 0 = .ok (.iconst 0, 1) := by decide +kernel
theorem dX0_heldBy_1 : decode cX0_heldBy 1 = .ok (.istore_n 2, 1) := by decide +kernel
theorem dX0_heldBy_2 : decode cX0_heldBy 2 = .ok (.iconst 0, 1) := by decide +kernel
theorem dX0_heldBy_3 : decode cX0_heldBy 3 = .ok (.istore_n 3, 1) := by decide +kernel
theorem dX0_heldBy_4 : decode cX0_heldBy 4 = .ok (.iload_n 3, 1) := by decide +kernel
theorem dX0_heldBy_5 : decode cX0_heldBy 5 = .ok (.aload_n 0, 1) := by decide +kernel
theorem dX0_heldBy_6 : decode cX0_heldBy 6 = .ok (.getfield 18, 3) := by decide +kernel
theorem dX0_heldBy_9 : decode cX0_heldBy 9 = .ok (.if_icmp .ge 24, 3) := by decide +kernel
theorem dX0_heldBy_12 : decode cX0_heldBy 12 = .ok (.aload_n 0, 1) := by decide +kernel
theorem dX0_heldBy_13 : decode cX0_heldBy 13 = .ok (.iload_n 3, 1) := by decide +kernel
theorem dX0_heldBy_14 : decode cX0_heldBy 14 = .ok (.invokevirtual 55, 3) := by decide +kernel
theorem dX0_heldBy_17 : decode cX0_heldBy 17 = .ok (.iload_n 1, 1) := by decide +kernel
theorem dX0_heldBy_18 : decode cX0_heldBy 18 = .ok (.if_icmp .ne 9, 3) := by decide +kernel
theorem dX0_heldBy_21 : decode cX0_heldBy 21 = .ok (.iload_n 2, 1) := by decide +kernel
theorem dX0_heldBy_22 : decode cX0_heldBy 22 = .ok (.iconst 1, 1) := by decide +kernel
theorem dX0_heldBy_23 : decode cX0_heldBy 23 = .ok (.iload_n 3, 1) := by decide +kernel
theorem dX0_heldBy_24 : decode cX0_heldBy 24 = .ok (.ishl, 1) := by decide +kernel
theorem dX0_heldBy_25 : decode cX0_heldBy 25 = .ok (.ior, 1) := by decide +kernel
theorem dX0_heldBy_26 : decode cX0_heldBy 26 = .ok (.istore_n 2, 1) := by decide +kernel
theorem dX0_heldBy_27 : decode cX0_heldBy 27 = .ok (.iinc 3 1, 3) := by decide +kernel
theorem dX0_heldBy_30 : decode cX0_heldBy 30 = .ok (.goto (-26), 3) := by decide +kernel
theorem dX0_heldBy_33 : decode cX0_heldBy 33 = .ok (.iload_n 2, 1) := by decide +kernel
theorem dX0_heldBy_34 : decode cX0_heldBy 34 = .ok (.ireturn, 1) := by decide +kernel
theorem dX0_holderOf_0 : decode cX0_holderOf 0 = .ok (.aload_n 0, 1) := by decide +kernel
theorem dX0_holderOf_1 : decode cX0_holderOf 1 = .ok (.iload_n 1, 1) := by decide +kernel
theorem dX0_holderOf_2 : decode cX0_holderOf 2 = .ok (.invokevirtual 30, 3) := by decide +kernel
theorem dX0_holderOf_5 : decode cX0_holderOf 5 = .ok (.astore_n 2, 1) := by decide +kernel
theorem dX0_holderOf_6 : decode cX0_holderOf 6 = .ok (.aload_n 2, 1) := by decide +kernel
theorem dX0_holderOf_7 : decode cX0_holderOf 7 = .ok (.ifnonnull 8, 3) := by decide +kernel
theorem dX0_holderOf_10 : decode cX0_holderOf 10 = .ok (.bipush (-9), 2) := by decide +kernel
theorem dX0_holderOf_12 : decode cX0_holderOf 12 = .ok (.goto 7, 3) := by decide +kernel
theorem dX0_holderOf_15 : decode cX0_holderOf 15 = .ok (.aload_n 2, 1) := by decide +kernel
theorem dX0_holderOf_16 : decode cX0_holderOf 16 = .ok (.invokevirtual 58, 3) := by decide +kernel
theorem dX0_holderOf_19 : decode cX0_holderOf 19 = .ok (.ireturn, 1) := by decide +kernel
theorem dX0_girlsHeld_0 : decode cX0_girlsHeld 0 = .ok (.iconst 0, 1) := by decide +kernel
theorem dX0_girlsHeld_1 : decode cX0_girlsHeld 1 = .ok (.istore_n 1, 1) := by decide +kernel
theorem dX0_girlsHeld_2 : decode cX0_girlsHeld 2 = .ok (.iconst 0, 1) := by decide +kernel
theorem dX0_girlsHeld_3 : decode cX0_girlsHeld 3 = .ok (.istore_n 2, 1) := by decide +kernel
theorem dX0_girlsHeld_4 : decode cX0_girlsHeld 4 = .ok (.iload_n 2, 1) := by decide +kernel
theorem dX0_girlsHeld_5 : decode cX0_girlsHeld 5 = .ok (.aload_n 0, 1) := by decide +kernel
theorem dX0_girlsHeld_6 : decode cX0_girlsHeld 6 = .ok (.getfield 18, 3) := by decide +kernel
theorem dX0_girlsHeld_9 : decode cX0_girlsHeld 9 = .ok (.if_icmp .ge 22, 3) := by decide +kernel
theorem dX0_girlsHeld_12 : decode cX0_girlsHeld 12 = .ok (.aload_n 0, 1) := by decide +kernel
theorem dX0_girlsHeld_13 : decode cX0_girlsHeld 13 = .ok (.iload_n 2, 1) := by decide +kernel
theorem dX0_girlsHeld_14 : decode cX0_girlsHeld 14 = .ok (.invokevirtual 55, 3) := by decide +kernel
theorem dX0_girlsHeld_17 : decode cX0_girlsHeld 17 = .ok (.bipush (-9), 2) := by decide +kernel
theorem dX0_girlsHeld_19 : decode cX0_girlsHeld 19 = .ok (.if_icmp .eq 6, 3) := by decide +kernel
theorem dX0_girlsHeld_22 : decode cX0_girlsHeld 22 = .ok (.iinc 1 1, 3) := by decide +kernel
theorem dX0_girlsHeld_25 : decode cX0_girlsHeld 25 = .ok (.iinc 2 1, 3) := by decide +kernel
theorem dX0_girlsHeld_28 : decode cX0_girlsHeld 28 = .ok (.goto (-24), 3) := by decide +kernel
theorem dX0_girlsHeld_31 : decode cX0_girlsHeld 31 = .ok (.iload_n 1, 1) := by decide +kernel
theorem dX0_girlsHeld_32 : decode cX0_girlsHeld 32 = .ok (.ireturn, 1) := by decide +kernel
theorem dX1_init_0 : decode cX1_init 0 = .ok (.aload_n 0, 1) := by decide +kernel
theorem dX1_init_1 : decode cX1_init 1 = .ok (.invokespecial 3, 3) := by decide +kernel
theorem dX1_init_4 : decode cX1_init 4 = .ok (.aload_n 0, 1) := by decide +kernel
theorem dX1_init_5 : decode cX1_init 5 = .ok (.new 9, 3) := by decide +kernel
theorem dX1_init_8 : decode cX1_init 8 = .ok (.dup, 1) := by decide +kernel
theorem dX1_init_9 : decode cX1_init 9 = .ok (.invokespecial 11, 3) := by decide +kernel
theorem dX1_init_12 : decode cX1_init 12 = .ok (.putfield 12, 3) := by decide +kernel
theorem dX1_init_15 : decode cX1_init 15 = .ok (.return_, 1) := by decide +kernel
theorem dX1_begin_0 : decode cX1_begin 0 = .ok (.aload_n 0, 1) := by decide +kernel
theorem dX1_begin_1 : decode cX1_begin 1 = .ok (.getfield 12, 3) := by decide +kernel
theorem dX1_begin_4 : decode cX1_begin 4 = .ok (.aload_n 1, 1) := by decide +kernel
theorem dX1_begin_5 : decode cX1_begin 5 = .ok (.invokevirtual 18, 3) := by decide +kernel
theorem dX1_begin_8 : decode cX1_begin 8 = .ok (.aload_n 0, 1) := by decide +kernel
theorem dX1_begin_9 : decode cX1_begin 9 = .ok (.bipush (-9), 2) := by decide +kernel
theorem dX1_begin_11 : decode cX1_begin 11 = .ok (.putfield 22, 3) := by decide +kernel
theorem dX1_begin_14 : decode cX1_begin 14 = .ok (.aload_n 0, 1) := by decide +kernel
theorem dX1_begin_15 : decode cX1_begin 15 = .ok (.iconst 0, 1) := by decide +kernel
theorem dX1_begin_16 : decode cX1_begin 16 = .ok (.putfield 26, 3) := by decide +kernel
theorem dX1_begin_19 : decode cX1_begin 19 = .ok (.aload_n 0, 1) := by decide +kernel
theorem dX1_begin_20 : decode cX1_begin 20 = .ok (.iconst 0, 1) := by decide +kernel
theorem dX1_begin_21 : decode cX1_begin 21 = .ok (.putfield 29, 3) := by decide +kernel
theorem dX1_begin_24 : decode cX1_begin 24 = .ok (.return_, 1) := by decide +kernel
theorem dX1_throwsAt_0 : decode cX1_throwsAt 0 = .ok (.aload_n 0, 1) := by decide +kernel
theorem dX1_throwsAt_1 : decode cX1_throwsAt 1 = .ok (.getfield 12, 3) := by decide +kernel
theorem dX1_throwsAt_4 : decode cX1_throwsAt 4 = .ok (.iload_n 2, 1) := by decide +kernel
theorem dX1_throwsAt_5 : decode cX1_throwsAt 5 = .ok (.invokevirtual 32, 3) := by decide +kernel
theorem dX1_throwsAt_8 : decode cX1_throwsAt 8 = .ok (.astore_n 3, 1) := by decide +kernel
theorem dX1_throwsAt_9 : decode cX1_throwsAt 9 = .ok (.aload_n 3, 1) := by decide +kernel
theorem dX1_throwsAt_10 : decode cX1_throwsAt 10 = .ok (.ifnull 10, 3) := by decide +kernel
theorem dX1_throwsAt_13 : decode cX1_throwsAt 13 = .ok (.aload_n 3, 1) := by decide +kernel
theorem dX1_throwsAt_14 : decode cX1_throwsAt 14 = .ok (.invokevirtual 36, 3) := by decide +kernel
theorem dX1_throwsAt_17 : decode cX1_throwsAt 17 = .ok (.ifCond .eq 5, 3) := by decide +kernel
theorem dX1_throwsAt_20 : decode cX1_throwsAt 20 = .ok (.iconst 0, 1) := by decide +kernel
theorem dX1_throwsAt_21 : decode cX1_throwsAt 21 = .ok (.ireturn, 1) := by decide +kernel
theorem dX1_throwsAt_22 : decode cX1_throwsAt 22 = .ok (.aload_n 3, 1) := by decide +kernel
theorem dX1_throwsAt_23 : decode cX1_throwsAt 23 = .ok (.aload_n 1, 1) := by decide +kernel
theorem dX1_throwsAt_24 : decode cX1_throwsAt 24 = .ok (.invokevirtual 42, 3) := by decide +kernel
theorem dX1_throwsAt_27 : decode cX1_throwsAt 27 = .ok (.aload_n 0, 1) := by decide +kernel
theorem dX1_throwsAt_28 : decode cX1_throwsAt 28 = .ok (.getfield 12, 3) := by decide +kernel
theorem dX1_throwsAt_31 : decode cX1_throwsAt 31 = .ok (.getfield 48, 3) := by decide +kernel
theorem dX1_throwsAt_34 : decode cX1_throwsAt 34 = .ok (.invokevirtual 51, 3) := by decide +kernel
theorem dX1_throwsAt_37 : decode cX1_throwsAt 37 = .ok (.istore 4, 2) := by decide +kernel
theorem dX1_throwsAt_39 : decode cX1_throwsAt 39 = .ok (.iload 4, 2) := by decide +kernel
theorem dX1_throwsAt_41 : decode cX1_throwsAt 41 = .ok (.ifCond .ne 34, 3) := by decide +kernel
theorem dX1_throwsAt_44 : decode cX1_throwsAt 44 = .ok (.aload_n 0, 1) := by decide +kernel
theorem dX1_throwsAt_45 : decode cX1_throwsAt 45 = .ok (.dup, 1) := by decide +kernel
theorem dX1_throwsAt_46 : decode cX1_throwsAt 46 = .ok (.getfield 26, 3) := by decide +kernel
theorem dX1_throwsAt_49 : decode cX1_throwsAt 49 = .ok (.iconst 1, 1) := by decide +kernel
theorem dX1_throwsAt_50 : decode cX1_throwsAt 50 = .ok (.iadd, 1) := by decide +kernel
theorem dX1_throwsAt_51 : decode cX1_throwsAt 51 = .ok (.putfield 26, 3) := by decide +kernel
theorem dX1_throwsAt_54 : decode cX1_throwsAt 54 = .ok (.aload_n 0, 1) := by decide +kernel
theorem dX1_throwsAt_55 : decode cX1_throwsAt 55 = .ok (.dup, 1) := by decide +kernel
theorem dX1_throwsAt_56 : decode cX1_throwsAt 56 = .ok (.getfield 29, 3) := by decide +kernel
theorem dX1_throwsAt_59 : decode cX1_throwsAt 59 = .ok (.aload_n 3, 1) := by decide +kernel
theorem dX1_throwsAt_60 : decode cX1_throwsAt 60 = .ok (.invokevirtual 55, 3) := by decide +kernel
theorem dX1_throwsAt_63 : decode cX1_throwsAt 63 = .ok (.ifCond .le 7, 3) := by decide +kernel
theorem dX1_throwsAt_66 : decode cX1_throwsAt 66 = .ok (.iconst 1, 1) := by decide +kernel
theorem dX1_throwsAt_67 : decode cX1_throwsAt 67 = .ok (.goto 4, 3) := by decide +kernel
theorem dX1_throwsAt_70 : decode cX1_throwsAt 70 = .ok (.iconst 0, 1) := by decide +kernel
theorem dX1_throwsAt_71 : decode cX1_throwsAt 71 = .ok (.iadd, 1) := by decide +kernel
theorem dX1_throwsAt_72 : decode cX1_throwsAt 72 = .ok (.putfield 29, 3) := by decide +kernel
theorem dX1_throwsAt_75 : decode cX1_throwsAt 75 = .ok (.aload_n 3, 1) := by decide +kernel
theorem dX1_throwsAt_76 : decode cX1_throwsAt 76 = .ok (.aload_n 1, 1) := by decide +kernel
theorem dX1_throwsAt_77 : decode cX1_throwsAt 77 = .ok (.getfield 57, 3) := by decide +kernel
theorem dX1_throwsAt_80 : decode cX1_throwsAt 80 = .ok (.iload 4, 2) := by decide +kernel
theorem dX1_throwsAt_82 : decode cX1_throwsAt 82 = .ok (.invokevirtual 60, 3) := by decide +kernel
theorem dX1_throwsAt_85 : decode cX1_throwsAt 85 = .ok (.iconst 1, 1) := by decide +kernel
theorem dX1_throwsAt_86 : decode cX1_throwsAt 86 = .ok (.ireturn, 1) := by decide +kernel
theorem dX1_clears_0 : decode cX1_clears 0 = .ok (.aload_n 0, 1) := by decide +kernel
theorem dX1_clears_1 : decode cX1_clears 1 = .ok (.getfield 12, 3) := by decide +kernel
theorem dX1_clears_4 : decode cX1_clears 4 = .ok (.iload_n 1, 1) := by decide +kernel
theorem dX1_clears_5 : decode cX1_clears 5 = .ok (.invokevirtual 32, 3) := by decide +kernel
theorem dX1_clears_8 : decode cX1_clears 8 = .ok (.astore_n 2, 1) := by decide +kernel
theorem dX1_clears_9 : decode cX1_clears 9 = .ok (.aload_n 2, 1) := by decide +kernel
theorem dX1_clears_10 : decode cX1_clears 10 = .ok (.ifnonnull 5, 3) := by decide +kernel
theorem dX1_clears_13 : decode cX1_clears 13 = .ok (.iconst 0, 1) := by decide +kernel
theorem dX1_clears_14 : decode cX1_clears 14 = .ok (.ireturn, 1) := by decide +kernel
theorem dX1_clears_15 : decode cX1_clears 15 = .ok (.aload_n 2, 1) := by decide +kernel
theorem dX1_clears_16 : decode cX1_clears 16 = .ok (.iconst 0, 1) := by decide +kernel
theorem dX1_clears_17 : decode cX1_clears 17 = .ok (.putfield 64, 3) := by decide +kernel
theorem dX1_clears_20 : decode cX1_clears 20 = .ok (.iconst 1, 1) := by decide +kernel
theorem dX1_clears_21 : decode cX1_clears 21 = .ok (.ireturn, 1) := by decide +kernel
theorem dX1_answer_0 : decode cX1_answer 0 = .ok (.iload_n 1, 1) := by decide +kernel
theorem dX1_answer_1 : decode cX1_answer 1 = .ok (.iconst 1, 1) := by decide +kernel
theorem dX1_answer_2 : decode cX1_answer 2 = .ok (.if_icmp .ne 8, 3) := by decide +kernel
theorem dX1_answer_5 : decode cX1_answer 5 = .ok (.aload_n 0, 1) := by decide +kernel
theorem dX1_answer_6 : decode cX1_answer 6 = .ok (.getfield 22, 3) := by decide +kernel
theorem dX1_answer_9 : decode cX1_answer 9 = .ok (.ireturn, 1) := by decide +kernel
theorem dX1_answer_10 : decode cX1_answer 10 = .ok (.aload_n 0, 1) := by decide +kernel
theorem dX1_answer_11 : decode cX1_answer 11 = .ok (.getfield 22, 3) := by decide +kernel
theorem dX1_answer_14 : decode cX1_answer 14 = .ok (.bipush (-9), 2) := by decide +kernel
theorem dX1_answer_16 : decode cX1_answer 16 = .ok (.if_icmp .eq 11, 3) := by decide +kernel
theorem dX1_answer_19 : decode cX1_answer 19 = .ok (.bipush (-100), 2) := by decide +kernel
theorem dX1_answer_21 : decode cX1_answer 21 = .ok (.aload_n 0, 1) := by decide +kernel
theorem dX1_answer_22 : decode cX1_answer 22 = .ok (.getfield 22, 3) := by decide +kernel
theorem dX1_answer_25 : decode cX1_answer 25 = .ok (.isub, 1) := by decide +kernel
theorem dX1_answer_26 : decode cX1_answer 26 = .ok (.ireturn, 1) := by decide +kernel
theorem dX1_answer_27 : decode cX1_answer 27 = .ok (.iload_n 1, 1) := by decide +kernel
theorem dX1_answer_28 : decode cX1_answer 28 = .ok (.tableswitch 62 0 4 #[36, 62, 44, 49, 54], 36) := by decide +kernel
theorem dX1_answer_64 : decode cX1_answer 64 = .ok (.aload_n 0, 1) := by decide +kernel
theorem dX1_answer_65 : decode cX1_answer 65 = .ok (.getfield 12, 3) := by decide +kernel
theorem dX1_answer_68 : decode cX1_answer 68 = .ok (.invokevirtual 67, 3) := by decide +kernel
theorem dX1_answer_71 : decode cX1_answer 71 = .ok (.ireturn, 1) := by decide +kernel
theorem dX1_answer_72 : decode cX1_answer 72 = .ok (.aload_n 0, 1) := by decide +kernel
theorem dX1_answer_73 : decode cX1_answer 73 = .ok (.getfield 26, 3) := by decide +kernel
theorem dX1_answer_76 : decode cX1_answer 76 = .ok (.ireturn, 1) := by decide +kernel
theorem dX1_answer_77 : decode cX1_answer 77 = .ok (.aload_n 0, 1) := by decide +kernel
theorem dX1_answer_78 : decode cX1_answer 78 = .ok (.getfield 29, 3) := by decide +kernel
theorem dX1_answer_81 : decode cX1_answer 81 = .ok (.ireturn, 1) := by decide +kernel
theorem dX1_answer_82 : decode cX1_answer 82 = .ok (.aload_n 0, 1) := by decide +kernel
theorem dX1_answer_83 : decode cX1_answer 83 = .ok (.getfield 12, 3) := by decide +kernel
theorem dX1_answer_86 : decode cX1_answer 86 = .ok (.getfield 48, 3) := by decide +kernel
theorem dX1_answer_89 : decode cX1_answer 89 = .ok (.ireturn, 1) := by decide +kernel
theorem dX1_answer_90 : decode cX1_answer 90 = .ok (.aload_n 0, 1) := by decide +kernel
theorem dX1_answer_91 : decode cX1_answer 91 = .ok (.getfield 12, 3) := by decide +kernel
theorem dX1_answer_94 : decode cX1_answer 94 = .ok (.iload_n 1, 1) := by decide +kernel
theorem dX1_answer_95 : decode cX1_answer 95 = .ok (.bipush 10, 2) := by decide +kernel
theorem dX1_answer_97 : decode cX1_answer 97 = .ok (.isub, 1) := by decide +kernel
theorem dX1_answer_98 : decode cX1_answer 98 = .ok (.invokevirtual 70, 3) := by decide +kernel
theorem dX1_answer_101 : decode cX1_answer 101 = .ok (.ireturn, 1) := by decide +kernel
theorem dX2_init_0 : decode cX2_init 0 = .ok (.aload_n 0, 1) := by decide +kernel
theorem dX2_init_1 : decode cX2_init 1 = .ok (.invokespecial 3, 3) := by decide +kernel
theorem dX2_init_4 : decode cX2_init 4 = .ok (.aload_n 0, 1) := by decide +kernel
theorem dX2_init_5 : decode cX2_init 5 = .ok (.bipush 8, 2) := by decide +kernel
theorem dX2_init_7 : decode cX2_init 7 = .ok (.newarray .int, 2) := by decide +kernel
theorem dX2_init_9 : decode cX2_init 9 = .ok (.putfield 9, 3) := by decide +kernel
theorem dX2_init_12 : decode cX2_init 12 = .ok (.aload_n 0, 1) := by decide +kernel
theorem dX2_init_13 : decode cX2_init 13 = .ok (.bipush 8, 2) := by decide +kernel
theorem dX2_init_15 : decode cX2_init 15 = .ok (.newarray .int, 2) := by decide +kernel
theorem dX2_init_17 : decode cX2_init 17 = .ok (.putfield 15, 3) := by decide +kernel
theorem dX2_init_20 : decode cX2_init 20 = .ok (.return_, 1) := by decide +kernel
theorem dX2_stand_0 : decode cX2_stand 0 = .ok (.aload_n 0, 1) := by decide +kernel
theorem dX2_stand_1 : decode cX2_stand 1 = .ok (.iload_n 1, 1) := by decide +kernel
theorem dX2_stand_2 : decode cX2_stand 2 = .ok (.putfield 18, 3) := by decide +kernel
theorem dX2_stand_5 : decode cX2_stand 5 = .ok (.aload_n 0, 1) := by decide +kernel
theorem dX2_stand_6 : decode cX2_stand 6 = .ok (.iload_n 2, 1) := by decide +kernel
theorem dX2_stand_7 : decode cX2_stand 7 = .ok (.putfield 22, 3) := by decide +kernel
theorem dX2_stand_10 : decode cX2_stand 10 = .ok (.aload_n 0, 1) := by decide +kernel
theorem dX2_stand_11 : decode cX2_stand 11 = .ok (.iconst 0, 1) := by decide +kernel
theorem dX2_stand_12 : decode cX2_stand 12 = .ok (.putfield 25, 3) := by decide +kernel
theorem dX2_stand_15 : decode cX2_stand 15 = .ok (.return_, 1) := by decide +kernel
theorem dX2_becomeLike_0 : decode cX2_becomeLike 0 = .ok (.aload_n 0, 1) := by decide +kernel
theorem dX2_becomeLike_1 : decode cX2_becomeLike 1 = .ok (.aload_n 1, 1) := by decide +kernel
theorem dX2_becomeLike_2 : decode cX2_becomeLike 2 = .ok (.getfield 18, 3) := by decide +kernel
theorem dX2_becomeLike_5 : decode cX2_becomeLike 5 = .ok (.aload_n 1, 1) := by decide +kernel
theorem dX2_becomeLike_6 : decode cX2_becomeLike 6 = .ok (.getfield 22, 3) := by decide +kernel
theorem dX2_becomeLike_9 : decode cX2_becomeLike 9 = .ok (.invokevirtual 28, 3) := by decide +kernel
theorem dX2_becomeLike_12 : decode cX2_becomeLike 12 = .ok (.iconst 0, 1) := by decide +kernel
theorem dX2_becomeLike_13 : decode cX2_becomeLike 13 = .ok (.istore_n 2, 1) := by decide +kernel
theorem dX2_becomeLike_14 : decode cX2_becomeLike 14 = .ok (.iload_n 2, 1) := by decide +kernel
theorem dX2_becomeLike_15 : decode cX2_becomeLike 15 = .ok (.aload_n 1, 1) := by decide +kernel
theorem dX2_becomeLike_16 : decode cX2_becomeLike 16 = .ok (.getfield 25, 3) := by decide +kernel
theorem dX2_becomeLike_19 : decode cX2_becomeLike 19 = .ok (.if_icmp .ge 23, 3) := by decide +kernel
theorem dX2_becomeLike_22 : decode cX2_becomeLike 22 = .ok (.aload_n 0, 1) := by decide +kernel
theorem dX2_becomeLike_23 : decode cX2_becomeLike 23 = .ok (.aload_n 1, 1) := by decide +kernel
theorem dX2_becomeLike_24 : decode cX2_becomeLike 24 = .ok (.iload_n 2, 1) := by decide +kernel
theorem dX2_becomeLike_25 : decode cX2_becomeLike 25 = .ok (.invokevirtual 32, 3) := by decide +kernel
theorem dX2_becomeLike_28 : decode cX2_becomeLike 28 = .ok (.aload_n 1, 1) := by decide +kernel
theorem dX2_becomeLike_29 : decode cX2_becomeLike 29 = .ok (.iload_n 2, 1) := by decide +kernel
theorem dX2_becomeLike_30 : decode cX2_becomeLike 30 = .ok (.invokevirtual 36, 3) := by decide +kernel
theorem dX2_becomeLike_33 : decode cX2_becomeLike 33 = .ok (.invokevirtual 39, 3) := by decide +kernel
theorem dX2_becomeLike_36 : decode cX2_becomeLike 36 = .ok (.iinc 2 1, 3) := by decide +kernel
theorem dX2_becomeLike_39 : decode cX2_becomeLike 39 = .ok (.goto (-25), 3) := by decide +kernel
theorem dX2_becomeLike_42 : decode cX2_becomeLike 42 = .ok (.return_, 1) := by decide +kernel
theorem dX2_nearness_0 : decode cX2_nearness 0 = .ok (.iload_n 1, 1) := by decide +kernel
theorem dX2_nearness_1 : decode cX2_nearness 1 = .ok (.aload_n 0, 1) := by decide +kernel
theorem dX2_nearness_2 : decode cX2_nearness 2 = .ok (.getfield 18, 3) := by decide +kernel
theorem dX2_nearness_5 : decode cX2_nearness 5 = .ok (.aload_n 0, 1) := by decide +kernel
theorem dX2_nearness_6 : decode cX2_nearness 6 = .ok (.getfield 22, 3) := by decide +kernel
theorem dX2_nearness_9 : decode cX2_nearness 9 = .ok (.iload_n 2, 1) := by decide +kernel
theorem dX2_nearness_10 : decode cX2_nearness 10 = .ok (.invokestatic 42, 3) := by decide +kernel
theorem dX2_nearness_13 : decode cX2_nearness 13 = .ok (.ireturn, 1) := by decide +kernel
theorem dX2_isFull_0 : decode cX2_isFull 0 = .ok (.aload_n 0, 1) := by decide +kernel
theorem dX2_isFull_1 : decode cX2_isFull 1 = .ok (.getfield 25, 3) := by decide +kernel
theorem dX2_isFull_4 : decode cX2_isFull 4 = .ok (.bipush 8, 2) := by decide +kernel
theorem dX2_isFull_6 : decode cX2_isFull 6 = .ok (.if_icmp .lt 7, 3) := by decide +kernel
theorem dX2_isFull_9 : decode cX2_isFull 9 = .ok (.iconst 1, 1) := by decide +kernel
theorem dX2_isFull_10 : decode cX2_isFull 10 = .ok (.goto 4, 3) := by decide +kernel
theorem dX2_isFull_13 : decode cX2_isFull 13 = .ok (.iconst 0, 1) := by decide +kernel
theorem dX2_isFull_14 : decode cX2_isFull 14 = .ok (.ireturn, 1) := by decide +kernel
theorem dX2_throwerAt_0 : decode cX2_throwerAt 0 = .ok (.iload_n 1, 1) := by decide +kernel
theorem dX2_throwerAt_1 : decode cX2_throwerAt 1 = .ok (.ifCond .lt 20, 3) := by decide +kernel
theorem dX2_throwerAt_4 : decode cX2_throwerAt 4 = .ok (.iload_n 1, 1) := by decide +kernel
theorem dX2_throwerAt_5 : decode cX2_throwerAt 5 = .ok (.aload_n 0, 1) := by decide +kernel
theorem dX2_throwerAt_6 : decode cX2_throwerAt 6 = .ok (.getfield 25, 3) := by decide +kernel
theorem dX2_throwerAt_9 : decode cX2_throwerAt 9 = .ok (.if_icmp .ge 12, 3) := by decide +kernel
theorem dX2_throwerAt_12 : decode cX2_throwerAt 12 = .ok (.iload_n 1, 1) := by decide +kernel
theorem dX2_throwerAt_13 : decode cX2_throwerAt 13 = .ok (.aload_n 0, 1) := by decide +kernel
theorem dX2_throwerAt_14 : decode cX2_throwerAt 14 = .ok (.getfield 9, 3) := by decide +kernel
theorem dX2_throwerAt_17 : decode cX2_throwerAt 17 = .ok (.arraylength, 1) := by decide +kernel
theorem dX2_throwerAt_18 : decode cX2_throwerAt 18 = .ok (.if_icmp .lt 8, 3) := by decide +kernel
theorem dX2_throwerAt_21 : decode cX2_throwerAt 21 = .ok (.bipush (-9), 2) := by decide +kernel
theorem dX2_throwerAt_23 : decode cX2_throwerAt 23 = .ok (.goto 9, 3) := by decide +kernel
theorem dX2_throwerAt_26 : decode cX2_throwerAt 26 = .ok (.aload_n 0, 1) := by decide +kernel
theorem dX2_throwerAt_27 : decode cX2_throwerAt 27 = .ok (.getfield 9, 3) := by decide +kernel
theorem dX2_throwerAt_30 : decode cX2_throwerAt 30 = .ok (.iload_n 1, 1) := by decide +kernel
theorem dX2_throwerAt_31 : decode cX2_throwerAt 31 = .ok (.iaload, 1) := by decide +kernel
theorem dX2_throwerAt_32 : decode cX2_throwerAt 32 = .ok (.ireturn, 1) := by decide +kernel
theorem dX2_nearAt_0 : decode cX2_nearAt 0 = .ok (.iload_n 1, 1) := by decide +kernel
theorem dX2_nearAt_1 : decode cX2_nearAt 1 = .ok (.ifCond .lt 20, 3) := by decide +kernel
theorem dX2_nearAt_4 : decode cX2_nearAt 4 = .ok (.iload_n 1, 1) := by decide +kernel
theorem dX2_nearAt_5 : decode cX2_nearAt 5 = .ok (.aload_n 0, 1) := by decide +kernel
theorem dX2_nearAt_6 : decode cX2_nearAt 6 = .ok (.getfield 25, 3) := by decide +kernel
theorem dX2_nearAt_9 : decode cX2_nearAt 9 = .ok (.if_icmp .ge 12, 3) := by decide +kernel
theorem dX2_nearAt_12 : decode cX2_nearAt 12 = .ok (.iload_n 1, 1) := by decide +kernel
theorem dX2_nearAt_13 : decode cX2_nearAt 13 = .ok (.aload_n 0, 1) := by decide +kernel
theorem dX2_nearAt_14 : decode cX2_nearAt 14 = .ok (.getfield 15, 3) := by decide +kernel
theorem dX2_nearAt_17 : decode cX2_nearAt 17 = .ok (.arraylength, 1) := by decide +kernel
theorem dX2_nearAt_18 : decode cX2_nearAt 18 = .ok (.if_icmp .lt 8, 3) := by decide +kernel
theorem dX2_nearAt_21 : decode cX2_nearAt 21 = .ok (.bipush (-9), 2) := by decide +kernel
theorem dX2_nearAt_23 : decode cX2_nearAt 23 = .ok (.goto 9, 3) := by decide +kernel
theorem dX2_nearAt_26 : decode cX2_nearAt 26 = .ok (.aload_n 0, 1) := by decide +kernel
theorem dX2_nearAt_27 : decode cX2_nearAt 27 = .ok (.getfield 15, 3) := by decide +kernel
theorem dX2_nearAt_30 : decode cX2_nearAt 30 = .ok (.iload_n 1, 1) := by decide +kernel
theorem dX2_nearAt_31 : decode cX2_nearAt 31 = .ok (.iaload, 1) := by decide +kernel
theorem dX2_nearAt_32 : decode cX2_nearAt 32 = .ok (.ireturn, 1) := by decide +kernel
theorem dX2_lay_0 : decode cX2_lay 0 = .ok (.aload_n 0, 1) := by decide +kernel
theorem dX2_lay_1 : decode cX2_lay 1 = .ok (.getfield 25, 3) := by decide +kernel
theorem dX2_lay_4 : decode cX2_lay 4 = .ok (.ifCond .lt 57, 3) := by decide +kernel
theorem dX2_lay_7 : decode cX2_lay 7 = .ok (.aload_n 0, 1) := by decide +kernel
theorem dX2_lay_8 : decode cX2_lay 8 = .ok (.getfield 25, 3) := by decide +kernel
theorem dX2_lay_11 : decode cX2_lay 11 = .ok (.aload_n 0, 1) := by decide +kernel
theorem dX2_lay_12 : decode cX2_lay 12 = .ok (.getfield 9, 3) := by decide +kernel
theorem dX2_lay_15 : decode cX2_lay 15 = .ok (.arraylength, 1) := by decide +kernel
theorem dX2_lay_16 : decode cX2_lay 16 = .ok (.if_icmp .ge 45, 3) := by decide +kernel
theorem dX2_lay_19 : decode cX2_lay 19 = .ok (.aload_n 0, 1) := by decide +kernel
theorem dX2_lay_20 : decode cX2_lay 20 = .ok (.getfield 25, 3) := by decide +kernel
theorem dX2_lay_23 : decode cX2_lay 23 = .ok (.aload_n 0, 1) := by decide +kernel
theorem dX2_lay_24 : decode cX2_lay 24 = .ok (.getfield 15, 3) := by decide +kernel
theorem dX2_lay_27 : decode cX2_lay 27 = .ok (.arraylength, 1) := by decide +kernel
theorem dX2_lay_28 : decode cX2_lay 28 = .ok (.if_icmp .ge 33, 3) := by decide +kernel
theorem dX2_lay_31 : decode cX2_lay 31 = .ok (.aload_n 0, 1) := by decide +kernel
theorem dX2_lay_32 : decode cX2_lay 32 = .ok (.getfield 9, 3) := by decide +kernel
theorem dX2_lay_35 : decode cX2_lay 35 = .ok (.aload_n 0, 1) := by decide +kernel
theorem dX2_lay_36 : decode cX2_lay 36 = .ok (.getfield 25, 3) := by decide +kernel
theorem dX2_lay_39 : decode cX2_lay 39 = .ok (.iload_n 1, 1) := by decide +kernel
theorem dX2_lay_40 : decode cX2_lay 40 = .ok (.iastore, 1) := by decide +kernel
theorem dX2_lay_41 : decode cX2_lay 41 = .ok (.aload_n 0, 1) := by decide +kernel
theorem dX2_lay_42 : decode cX2_lay 42 = .ok (.getfield 15, 3) := by decide +kernel
theorem dX2_lay_45 : decode cX2_lay 45 = .ok (.aload_n 0, 1) := by decide +kernel
theorem dX2_lay_46 : decode cX2_lay 46 = .ok (.getfield 25, 3) := by decide +kernel
theorem dX2_lay_49 : decode cX2_lay 49 = .ok (.iload_n 2, 1) := by decide +kernel
theorem dX2_lay_50 : decode cX2_lay 50 = .ok (.iastore, 1) := by decide +kernel
theorem dX2_lay_51 : decode cX2_lay 51 = .ok (.aload_n 0, 1) := by decide +kernel
theorem dX2_lay_52 : decode cX2_lay 52 = .ok (.dup, 1) := by decide +kernel
theorem dX2_lay_53 : decode cX2_lay 53 = .ok (.getfield 25, 3) := by decide +kernel
theorem dX2_lay_56 : decode cX2_lay 56 = .ok (.iconst 1, 1) := by decide +kernel
theorem dX2_lay_57 : decode cX2_lay 57 = .ok (.iadd, 1) := by decide +kernel
theorem dX2_lay_58 : decode cX2_lay 58 = .ok (.putfield 25, 3) := by decide +kernel
theorem dX2_lay_61 : decode cX2_lay 61 = .ok (.return_, 1) := by decide +kernel
theorem dX2_takeLast_0 : decode cX2_takeLast 0 = .ok (.aload_n 0, 1) := by decide +kernel
theorem dX2_takeLast_1 : decode cX2_takeLast 1 = .ok (.aload_n 0, 1) := by decide +kernel
theorem dX2_takeLast_2 : decode cX2_takeLast 2 = .ok (.getfield 25, 3) := by decide +kernel
theorem dX2_takeLast_5 : decode cX2_takeLast 5 = .ok (.iconst 1, 1) := by decide +kernel
theorem dX2_takeLast_6 : decode cX2_takeLast 6 = .ok (.isub, 1) := by decide +kernel
theorem dX2_takeLast_7 : decode cX2_takeLast 7 = .ok (.invokevirtual 32, 3) := by decide +kernel
theorem dX2_takeLast_10 : decode cX2_takeLast 10 = .ok (.istore_n 1, 1) := by decide +kernel
theorem dX2_takeLast_11 : decode cX2_takeLast 11 = .ok (.aload_n 0, 1) := by decide +kernel
theorem dX2_takeLast_12 : decode cX2_takeLast 12 = .ok (.getfield 25, 3) := by decide +kernel
theorem dX2_takeLast_15 : decode cX2_takeLast 15 = .ok (.ifCond .le 13, 3) := by decide +kernel
theorem dX2_takeLast_18 : decode cX2_takeLast 18 = .ok (.aload_n 0, 1) := by decide +kernel
theorem dX2_takeLast_19 : decode cX2_takeLast 19 = .ok (.dup, 1) := by decide +kernel
theorem dX2_takeLast_20 : decode cX2_takeLast 20 = .ok (.getfield 25, 3) := by decide +kernel
theorem dX2_takeLast_23 : decode cX2_takeLast 23 = .ok (.iconst 1, 1) := by decide +kernel
theorem dX2_takeLast_24 : decode cX2_takeLast 24 = .ok (.isub, 1) := by decide +kernel
theorem dX2_takeLast_25 : decode cX2_takeLast 25 = .ok (.putfield 25, 3) := by decide +kernel
theorem dX2_takeLast_28 : decode cX2_takeLast 28 = .ok (.iload_n 1, 1) := by decide +kernel
theorem dX2_takeLast_29 : decode cX2_takeLast 29 = .ok (.ireturn, 1) := by decide +kernel
theorem dX2_holdingRing_0 : decode cX2_holdingRing 0 = .ok (.bipush (-9), 2) := by decide +kernel
theorem dX2_holdingRing_2 : decode cX2_holdingRing 2 = .ok (.istore_n 1, 1) := by decide +kernel
theorem dX2_holdingRing_3 : decode cX2_holdingRing 3 = .ok (.iconst 0, 1) := by decide +kernel
theorem dX2_holdingRing_4 : decode cX2_holdingRing 4 = .ok (.istore_n 2, 1) := by decide +kernel
theorem dX2_holdingRing_5 : decode cX2_holdingRing 5 = .ok (.iload_n 2, 1) := by decide +kernel
theorem dX2_holdingRing_6 : decode cX2_holdingRing 6 = .ok (.aload_n 0, 1) := by decide +kernel
theorem dX2_holdingRing_7 : decode cX2_holdingRing 7 = .ok (.getfield 25, 3) := by decide +kernel
theorem dX2_holdingRing_10 : decode cX2_holdingRing 10 = .ok (.if_icmp .ge 36, 3) := by decide +kernel
theorem dX2_holdingRing_13 : decode cX2_holdingRing 13 = .ok (.aload_n 0, 1) := by decide +kernel
theorem dX2_holdingRing_14 : decode cX2_holdingRing 14 = .ok (.iload_n 2, 1) := by decide +kernel
theorem dX2_holdingRing_15 : decode cX2_holdingRing 15 = .ok (.invokevirtual 36, 3) := by decide +kernel
theorem dX2_holdingRing_18 : decode cX2_holdingRing 18 = .ok (.istore_n 3, 1) := by decide +kernel
theorem dX2_holdingRing_19 : decode cX2_holdingRing 19 = .ok (.iload_n 1, 1) := by decide +kernel
theorem dX2_holdingRing_20 : decode cX2_holdingRing 20 = .ok (.bipush (-9), 2) := by decide +kernel
theorem dX2_holdingRing_22 : decode cX2_holdingRing 22 = .ok (.if_icmp .eq 16, 3) := by decide +kernel
theorem dX2_holdingRing_25 : decode cX2_holdingRing 25 = .ok (.iload_n 3, 1) := by decide +kernel
theorem dX2_holdingRing_26 : decode cX2_holdingRing 26 = .ok (.ifCond .eq 12, 3) := by decide +kernel
theorem dX2_holdingRing_29 : decode cX2_holdingRing 29 = .ok (.iload_n 3, 1) := by decide +kernel
theorem dX2_holdingRing_30 : decode cX2_holdingRing 30 = .ok (.aload_n 0, 1) := by decide +kernel
theorem dX2_holdingRing_31 : decode cX2_holdingRing 31 = .ok (.iload_n 1, 1) := by decide +kernel
theorem dX2_holdingRing_32 : decode cX2_holdingRing 32 = .ok (.invokevirtual 36, 3) := by decide +kernel
theorem dX2_holdingRing_35 : decode cX2_holdingRing 35 = .ok (.if_icmp .ge 5, 3) := by decide +kernel
theorem dX2_holdingRing_38 : decode cX2_holdingRing 38 = .ok (.iload_n 2, 1) := by decide +kernel
theorem dX2_holdingRing_39 : decode cX2_holdingRing 39 = .ok (.istore_n 1, 1) := by decide +kernel
theorem dX2_holdingRing_40 : decode cX2_holdingRing 40 = .ok (.iinc 2 1, 3) := by decide +kernel
theorem dX2_holdingRing_43 : decode cX2_holdingRing 43 = .ok (.goto (-38), 3) := by decide +kernel
theorem dX2_holdingRing_46 : decode cX2_holdingRing 46 = .ok (.iload_n 1, 1) := by decide +kernel
theorem dX2_holdingRing_47 : decode cX2_holdingRing 47 = .ok (.ireturn, 1) := by decide +kernel
theorem dX2_holder_0 : decode cX2_holder 0 = .ok (.aload_n 0, 1) := by decide +kernel
theorem dX2_holder_1 : decode cX2_holder 1 = .ok (.aload_n 0, 1) := by decide +kernel
theorem dX2_holder_2 : decode cX2_holder 2 = .ok (.invokevirtual 46, 3) := by decide +kernel
theorem dX2_holder_5 : decode cX2_holder 5 = .ok (.invokevirtual 32, 3) := by decide +kernel
theorem dX2_holder_8 : decode cX2_holder 8 = .ok (.ireturn, 1) := by decide +kernel
theorem dX2_holdersNearness_0 : decode cX2_holdersNearness 0 = .ok (.aload_n 0, 1) := by decide +kernel
theorem dX2_holdersNearness_1 : decode cX2_holdersNearness 1 = .ok (.aload_n 0, 1) := by decide +kernel
theorem dX2_holdersNearness_2 : decode cX2_holdersNearness 2 = .ok (.invokevirtual 46, 3) := by decide +kernel
theorem dX2_holdersNearness_5 : decode cX2_holdersNearness 5 = .ok (.invokevirtual 36, 3) := by decide +kernel
theorem dX2_holdersNearness_8 : decode cX2_holdersNearness 8 = .ok (.ireturn, 1) := by decide +kernel
theorem dX2_ringers_0 : decode cX2_ringers 0 = .ok (.iconst 0, 1) := by decide +kernel
theorem dX2_ringers_1 : decode cX2_ringers 1 = .ok (.istore_n 1, 1) := by decide +kernel
theorem dX2_ringers_2 : decode cX2_ringers 2 = .ok (.iconst 0, 1) := by decide +kernel
theorem dX2_ringers_3 : decode cX2_ringers 3 = .ok (.istore_n 2, 1) := by decide +kernel
theorem dX2_ringers_4 : decode cX2_ringers 4 = .ok (.iload_n 2, 1) := by decide +kernel
theorem dX2_ringers_5 : decode cX2_ringers 5 = .ok (.aload_n 0, 1) := by decide +kernel
theorem dX2_ringers_6 : decode cX2_ringers 6 = .ok (.getfield 25, 3) := by decide +kernel
theorem dX2_ringers_9 : decode cX2_ringers 9 = .ok (.if_icmp .ge 20, 3) := by decide +kernel
theorem dX2_ringers_12 : decode cX2_ringers 12 = .ok (.aload_n 0, 1) := by decide +kernel
theorem dX2_ringers_13 : decode cX2_ringers 13 = .ok (.iload_n 2, 1) := by decide +kernel
theorem dX2_ringers_14 : decode cX2_ringers 14 = .ok (.invokevirtual 36, 3) := by decide +kernel
theorem dX2_ringers_17 : decode cX2_ringers 17 = .ok (.ifCond .ne 6, 3) := by decide +kernel
theorem dX2_ringers_20 : decode cX2_ringers 20 = .ok (.iinc 1 1, 3) := by decide +kernel
theorem dX2_ringers_23 : decode cX2_ringers 23 = .ok (.iinc 2 1, 3) := by decide +kernel
theorem dX2_ringers_26 : decode cX2_ringers 26 = .ok (.goto (-22), 3) := by decide +kernel
theorem dX2_ringers_29 : decode cX2_ringers 29 = .ok (.iload_n 1, 1) := by decide +kernel
theorem dX2_ringers_30 : decode cX2_ringers 30 = .ok (.ireturn, 1) := by decide +kernel
theorem dX2_ringsOf_0 : decode cX2_ringsOf 0 = .ok (.iconst 0, 1) := by decide +kernel
theorem dX2_ringsOf_1 : decode cX2_ringsOf 1 = .ok (.istore_n 2, 1) := by decide +kernel
theorem dX2_ringsOf_2 : decode cX2_ringsOf 2 = .ok (.iconst 0, 1) := by decide +kernel
theorem dX2_ringsOf_3 : decode cX2_ringsOf 3 = .ok (.istore_n 3, 1) := by decide +kernel
theorem dX2_ringsOf_4 : decode cX2_ringsOf 4 = .ok (.iload_n 3, 1) := by decide +kernel
theorem dX2_ringsOf_5 : decode cX2_ringsOf 5 = .ok (.aload_n 0, 1) := by decide +kernel
theorem dX2_ringsOf_6 : decode cX2_ringsOf 6 = .ok (.getfield 25, 3) := by decide +kernel
theorem dX2_ringsOf_9 : decode cX2_ringsOf 9 = .ok (.if_icmp .ge 21, 3) := by decide +kernel
theorem dX2_ringsOf_12 : decode cX2_ringsOf 12 = .ok (.aload_n 0, 1) := by decide +kernel
theorem dX2_ringsOf_13 : decode cX2_ringsOf 13 = .ok (.iload_n 3, 1) := by decide +kernel
theorem dX2_ringsOf_14 : decode cX2_ringsOf 14 = .ok (.invokevirtual 32, 3) := by decide +kernel
theorem dX2_ringsOf_17 : decode cX2_ringsOf 17 = .ok (.iload_n 1, 1) := by decide +kernel
theorem dX2_ringsOf_18 : decode cX2_ringsOf 18 = .ok (.if_icmp .ne 6, 3) := by decide +kernel
theorem dX2_ringsOf_21 : decode cX2_ringsOf 21 = .ok (.iinc 2 1, 3) := by decide +kernel
theorem dX2_ringsOf_24 : decode cX2_ringsOf 24 = .ok (.iinc 3 1, 3) := by decide +kernel
theorem dX2_ringsOf_27 : decode cX2_ringsOf 27 = .ok (.goto (-23), 3) := by decide +kernel
theorem dX2_ringsOf_30 : decode cX2_ringsOf 30 = .ok (.iload_n 2, 1) := by decide +kernel
theorem dX2_ringsOf_31 : decode cX2_ringsOf 31 = .ok (.ireturn, 1) := by decide +kernel
theorem dX2_isHadBy_0 : decode cX2_isHadBy 0 = .ok (.aload_n 0, 1) := by decide +kernel
theorem dX2_isHadBy_1 : decode cX2_isHadBy 1 = .ok (.invokevirtual 50, 3) := by decide +kernel
theorem dX2_isHadBy_4 : decode cX2_isHadBy 4 = .ok (.ifCond .eq 5, 3) := by decide +kernel
theorem dX2_isHadBy_7 : decode cX2_isHadBy 7 = .ok (.iconst 0, 1) := by decide +kernel
theorem dX2_isHadBy_8 : decode cX2_isHadBy 8 = .ok (.ireturn, 1) := by decide +kernel
theorem dX2_isHadBy_9 : decode cX2_isHadBy 9 = .ok (.aload_n 0, 1) := by decide +kernel
theorem dX2_isHadBy_10 : decode cX2_isHadBy 10 = .ok (.iload_n 1, 1) := by decide +kernel
theorem dX2_isHadBy_11 : decode cX2_isHadBy 11 = .ok (.iload_n 2, 1) := by decide +kernel
theorem dX2_isHadBy_12 : decode cX2_isHadBy 12 = .ok (.invokevirtual 39, 3) := by decide +kernel
theorem dX2_isHadBy_15 : decode cX2_isHadBy 15 = .ok (.aload_n 0, 1) := by decide +kernel
theorem dX2_isHadBy_16 : decode cX2_isHadBy 16 = .ok (.invokevirtual 54, 3) := by decide +kernel
theorem dX2_isHadBy_19 : decode cX2_isHadBy 19 = .ok (.iload_n 1, 1) := by decide +kernel
theorem dX2_isHadBy_20 : decode cX2_isHadBy 20 = .ok (.if_icmp .ne 7, 3) := by decide +kernel
theorem dX2_isHadBy_23 : decode cX2_isHadBy 23 = .ok (.iconst 1, 1) := by decide +kernel
theorem dX2_isHadBy_24 : decode cX2_isHadBy 24 = .ok (.goto 4, 3) := by decide +kernel
theorem dX2_isHadBy_27 : decode cX2_isHadBy 27 = .ok (.iconst 0, 1) := by decide +kernel
theorem dX2_isHadBy_28 : decode cX2_isHadBy 28 = .ok (.istore_n 3, 1) := by decide +kernel
theorem dX2_isHadBy_29 : decode cX2_isHadBy 29 = .ok (.aload_n 0, 1) := by decide +kernel
theorem dX2_isHadBy_30 : decode cX2_isHadBy 30 = .ok (.invokevirtual 57, 3) := by decide +kernel
theorem dX2_isHadBy_33 : decode cX2_isHadBy 33 = .ok (.pop, 1) := by decide +kernel
theorem dX2_isHadBy_34 : decode cX2_isHadBy 34 = .ok (.iload_n 3, 1) := by decide +kernel
theorem dX2_isHadBy_35 : decode cX2_isHadBy 35 = .ok (.ireturn, 1) := by decide +kernel
theorem dX3_init_0 : decode cX3_init 0 = .ok (.aload_n 0, 1) := by decide +kernel
theorem dX3_init_1 : decode cX3_init 1 = .ok (.iload_n 1, 1) := by decide +kernel
theorem dX3_init_2 : decode cX3_init 2 = .ok (.iload_n 2, 1) := by decide +kernel
theorem dX3_init_3 : decode cX3_init 3 = .ok (.invokespecial 3, 3) := by decide +kernel
theorem dX3_init_6 : decode cX3_init 6 = .ok (.return_, 1) := by decide +kernel
theorem dX3_kind_0 : decode cX3_kind 0 = .ok (.iconst 1, 1) := by decide +kernel
theorem dX3_kind_1 : decode cX3_kind 1 = .ok (.ireturn, 1) := by decide +kernel
theorem dX3_telling_0 : decode cX3_telling 0 = .ok (.aload_n 1, 1) := by decide +kernel
theorem dX3_telling_1 : decode cX3_telling 1 = .ok (.iconst 2, 1) := by decide +kernel
theorem dX3_telling_2 : decode cX3_telling 2 = .ok (.invokevirtual 9, 3) := by decide +kernel
theorem dX3_telling_5 : decode cX3_telling 5 = .ok (.aload_n 0, 1) := by decide +kernel
theorem dX3_telling_6 : decode cX3_telling 6 = .ok (.aload_n 1, 1) := by decide +kernel
theorem dX3_telling_7 : decode cX3_telling 7 = .ok (.invokespecial 15, 3) := by decide +kernel
theorem dX3_telling_10 : decode cX3_telling 10 = .ok (.bipush 100, 2) := by decide +kernel
theorem dX3_telling_12 : decode cX3_telling 12 = .ok (.iadd, 1) := by decide +kernel
theorem dX3_telling_13 : decode cX3_telling 13 = .ok (.ireturn, 1) := by decide +kernel
theorem dX4_init_0 : decode cX4_init 0 = .ok (.aload_n 0, 1) := by decide +kernel
theorem dX4_init_1 : decode cX4_init 1 = .ok (.invokespecial 3, 3) := by decide +kernel
theorem dX4_init_4 : decode cX4_init 4 = .ok (.aload_n 0, 1) := by decide +kernel
theorem dX4_init_5 : decode cX4_init 5 = .ok (.bipush 20, 2) := by decide +kernel
theorem dX4_init_7 : decode cX4_init 7 = .ok (.newarray .int, 2) := by decide +kernel
theorem dX4_init_9 : decode cX4_init 9 = .ok (.putfield 9, 3) := by decide +kernel
theorem dX4_init_12 : decode cX4_init 12 = .ok (.aload_n 0, 1) := by decide +kernel
theorem dX4_init_13 : decode cX4_init 13 = .ok (.iconst 5, 1) := by decide +kernel
theorem dX4_init_14 : decode cX4_init 14 = .ok (.newarray .int, 2) := by decide +kernel
theorem dX4_init_16 : decode cX4_init 16 = .ok (.putfield 15, 3) := by decide +kernel
theorem dX4_init_19 : decode cX4_init 19 = .ok (.aload_n 0, 1) := by decide +kernel
theorem dX4_init_20 : decode cX4_init 20 = .ok (.iconst 5, 1) := by decide +kernel
theorem dX4_init_21 : decode cX4_init 21 = .ok (.newarray .int, 2) := by decide +kernel
theorem dX4_init_23 : decode cX4_init 23 = .ok (.putfield 18, 3) := by decide +kernel
theorem dX4_init_26 : decode cX4_init 26 = .ok (.aload_n 0, 1) := by decide +kernel
theorem dX4_init_27 : decode cX4_init 27 = .ok (.iconst 5, 1) := by decide +kernel
theorem dX4_init_28 : decode cX4_init 28 = .ok (.newarray .int, 2) := by decide +kernel
theorem dX4_init_30 : decode cX4_init 30 = .ok (.putfield 21, 3) := by decide +kernel
theorem dX4_init_33 : decode cX4_init 33 = .ok (.aload_n 0, 1) := by decide +kernel
theorem dX4_init_34 : decode cX4_init 34 = .ok (.bipush 80, 2) := by decide +kernel
theorem dX4_init_36 : decode cX4_init 36 = .ok (.newarray .int, 2) := by decide +kernel
theorem dX4_init_38 : decode cX4_init 38 = .ok (.putfield 24, 3) := by decide +kernel
theorem dX4_init_41 : decode cX4_init 41 = .ok (.return_, 1) := by decide +kernel
theorem dX4_begin_0 : decode cX4_begin 0 = .ok (.aload_n 0, 1) := by decide +kernel
theorem dX4_begin_1 : decode cX4_begin 1 = .ok (.iload_n 1, 1) := by decide +kernel
theorem dX4_begin_2 : decode cX4_begin 2 = .ok (.putfield 27, 3) := by decide +kernel
theorem dX4_begin_5 : decode cX4_begin 5 = .ok (.aload_n 0, 1) := by decide +kernel
theorem dX4_begin_6 : decode cX4_begin 6 = .ok (.iload_n 2, 1) := by decide +kernel
theorem dX4_begin_7 : decode cX4_begin 7 = .ok (.putfield 31, 3) := by decide +kernel
theorem dX4_begin_10 : decode cX4_begin 10 = .ok (.iconst 0, 1) := by decide +kernel
theorem dX4_begin_11 : decode cX4_begin 11 = .ok (.istore_n 3, 1) := by decide +kernel
theorem dX4_begin_12 : decode cX4_begin 12 = .ok (.iload_n 3, 1) := by decide +kernel
theorem dX4_begin_13 : decode cX4_begin 13 = .ok (.iconst 5, 1) := by decide +kernel
theorem dX4_begin_14 : decode cX4_begin 14 = .ok (.if_icmp .ge 31, 3) := by decide +kernel
theorem dX4_begin_17 : decode cX4_begin 17 = .ok (.aload_n 0, 1) := by decide +kernel
theorem dX4_begin_18 : decode cX4_begin 18 = .ok (.getfield 15, 3) := by decide +kernel
theorem dX4_begin_21 : decode cX4_begin 21 = .ok (.iload_n 3, 1) := by decide +kernel
theorem dX4_begin_22 : decode cX4_begin 22 = .ok (.iconst 0, 1) := by decide +kernel
theorem dX4_begin_23 : decode cX4_begin 23 = .ok (.iastore, 1) := by decide +kernel
theorem dX4_begin_24 : decode cX4_begin 24 = .ok (.aload_n 0, 1) := by decide +kernel
theorem dX4_begin_25 : decode cX4_begin 25 = .ok (.getfield 18, 3) := by decide +kernel
theorem dX4_begin_28 : decode cX4_begin 28 = .ok (.iload_n 3, 1) := by decide +kernel
theorem dX4_begin_29 : decode cX4_begin 29 = .ok (.bipush (-9), 2) := by decide +kernel
theorem dX4_begin_31 : decode cX4_begin 31 = .ok (.iastore, 1) := by decide +kernel
theorem dX4_begin_32 : decode cX4_begin 32 = .ok (.aload_n 0, 1) := by decide +kernel
theorem dX4_begin_33 : decode cX4_begin 33 = .ok (.getfield 21, 3) := by decide +kernel
theorem dX4_begin_36 : decode cX4_begin 36 = .ok (.iload_n 3, 1) := by decide +kernel
theorem dX4_begin_37 : decode cX4_begin 37 = .ok (.iconst 0, 1) := by decide +kernel
theorem dX4_begin_38 : decode cX4_begin 38 = .ok (.iastore, 1) := by decide +kernel
theorem dX4_begin_39 : decode cX4_begin 39 = .ok (.iinc 3 1, 3) := by decide +kernel
theorem dX4_begin_42 : decode cX4_begin 42 = .ok (.goto (-30), 3) := by decide +kernel
theorem dX4_begin_45 : decode cX4_begin 45 = .ok (.return_, 1) := by decide +kernel
theorem dX4_noteWins_0 : decode cX4_noteWins 0 = .ok (.iload_n 1, 1) := by decide +kernel
theorem dX4_noteWins_1 : decode cX4_noteWins 1 = .ok (.ifCond .lt 19, 3) := by decide +kernel
theorem dX4_noteWins_4 : decode cX4_noteWins 4 = .ok (.iload_n 1, 1) := by decide +kernel
theorem dX4_noteWins_5 : decode cX4_noteWins 5 = .ok (.aload_n 0, 1) := by decide +kernel
theorem dX4_noteWins_6 : decode cX4_noteWins 6 = .ok (.getfield 15, 3) := by decide +kernel
theorem dX4_noteWins_9 : decode cX4_noteWins 9 = .ok (.arraylength, 1) := by decide +kernel
theorem dX4_noteWins_10 : decode cX4_noteWins 10 = .ok (.if_icmp .ge 10, 3) := by decide +kernel
theorem dX4_noteWins_13 : decode cX4_noteWins 13 = .ok (.aload_n 0, 1) := by decide +kernel
theorem dX4_noteWins_14 : decode cX4_noteWins 14 = .ok (.getfield 15, 3) := by decide +kernel
theorem dX4_noteWins_17 : decode cX4_noteWins 17 = .ok (.iload_n 1, 1) := by decide +kernel
theorem dX4_noteWins_18 : decode cX4_noteWins 18 = .ok (.iload_n 2, 1) := by decide +kernel
theorem dX4_noteWins_19 : decode cX4_noteWins 19 = .ok (.iastore, 1) := by decide +kernel
theorem dX4_noteWins_20 : decode cX4_noteWins 20 = .ok (.return_, 1) := by decide +kernel
theorem dX4_noteNearness_0 : decode cX4_noteNearness 0 = .ok (.iload_n 1, 1) := by decide +kernel
theorem dX4_noteNearness_1 : decode cX4_noteNearness 1 = .ok (.iload_n 2, 1) := by decide +kernel
theorem dX4_noteNearness_2 : decode cX4_noteNearness 2 = .ok (.invokestatic 34, 3) := by decide +kernel
theorem dX4_noteNearness_5 : decode cX4_noteNearness 5 = .ok (.ifCond .eq 14, 3) := by decide +kernel
theorem dX4_noteNearness_8 : decode cX4_noteNearness 8 = .ok (.aload_n 0, 1) := by decide +kernel
theorem dX4_noteNearness_9 : decode cX4_noteNearness 9 = .ok (.getfield 9, 3) := by decide +kernel
theorem dX4_noteNearness_12 : decode cX4_noteNearness 12 = .ok (.iload_n 1, 1) := by decide +kernel
theorem dX4_noteNearness_13 : decode cX4_noteNearness 13 = .ok (.iconst 4, 1) := by decide +kernel
theorem dX4_noteNearness_14 : decode cX4_noteNearness 14 = .ok (.imul, 1) := by decide +kernel
theorem dX4_noteNearness_15 : decode cX4_noteNearness 15 = .ok (.iload_n 2, 1) := by decide +kernel
theorem dX4_noteNearness_16 : decode cX4_noteNearness 16 = .ok (.iadd, 1) := by decide +kernel
theorem dX4_noteNearness_17 : decode cX4_noteNearness 17 = .ok (.iload_n 3, 1) := by decide +kernel
theorem dX4_noteNearness_18 : decode cX4_noteNearness 18 = .ok (.iastore, 1) := by decide +kernel
theorem dX4_noteNearness_19 : decode cX4_noteNearness 19 = .ok (.return_, 1) := by decide +kernel
theorem dX4_nearness_0 : decode cX4_nearness 0 = .ok (.iload_n 1, 1) := by decide +kernel
theorem dX4_nearness_1 : decode cX4_nearness 1 = .ok (.iload_n 2, 1) := by decide +kernel
theorem dX4_nearness_2 : decode cX4_nearness 2 = .ok (.invokestatic 34, 3) := by decide +kernel
theorem dX4_nearness_5 : decode cX4_nearness 5 = .ok (.ifCond .eq 16, 3) := by decide +kernel
theorem dX4_nearness_8 : decode cX4_nearness 8 = .ok (.aload_n 0, 1) := by decide +kernel
theorem dX4_nearness_9 : decode cX4_nearness 9 = .ok (.getfield 9, 3) := by decide +kernel
theorem dX4_nearness_12 : decode cX4_nearness 12 = .ok (.iload_n 1, 1) := by decide +kernel
theorem dX4_nearness_13 : decode cX4_nearness 13 = .ok (.iconst 4, 1) := by decide +kernel
theorem dX4_nearness_14 : decode cX4_nearness 14 = .ok (.imul, 1) := by decide +kernel
theorem dX4_nearness_15 : decode cX4_nearness 15 = .ok (.iload_n 2, 1) := by decide +kernel
theorem dX4_nearness_16 : decode cX4_nearness 16 = .ok (.iadd, 1) := by decide +kernel
theorem dX4_nearness_17 : decode cX4_nearness 17 = .ok (.iaload, 1) := by decide +kernel
theorem dX4_nearness_18 : decode cX4_nearness 18 = .ok (.goto 4, 3) := by decide +kernel
theorem dX4_nearness_21 : decode cX4_nearness 21 = .ok (.iconst 0, 1) := by decide +kernel
theorem dX4_nearness_22 : decode cX4_nearness 22 = .ok (.ireturn, 1) := by decide +kernel
theorem dX4_isInTable_0 : decode cX4_isInTable 0 = .ok (.iload_n 0, 1) := by decide +kernel
theorem dX4_isInTable_1 : decode cX4_isInTable 1 = .ok (.iconst 0, 1) := by decide +kernel
theorem dX4_isInTable_2 : decode cX4_isInTable 2 = .ok (.iconst 4, 1) := by decide +kernel
theorem dX4_isInTable_3 : decode cX4_isInTable 3 = .ok (.invokestatic 38, 3) := by decide +kernel
theorem dX4_isInTable_6 : decode cX4_isInTable 6 = .ok (.ifCond .eq 16, 3) := by decide +kernel
theorem dX4_isInTable_9 : decode cX4_isInTable 9 = .ok (.iload_n 1, 1) := by decide +kernel
theorem dX4_isInTable_10 : decode cX4_isInTable 10 = .ok (.iconst 0, 1) := by decide +kernel
theorem dX4_isInTable_11 : decode cX4_isInTable 11 = .ok (.iconst 3, 1) := by decide +kernel
theorem dX4_isInTable_12 : decode cX4_isInTable 12 = .ok (.invokestatic 38, 3) := by decide +kernel
theorem dX4_isInTable_15 : decode cX4_isInTable 15 = .ok (.ifCond .eq 7, 3) := by decide +kernel
theorem dX4_isInTable_18 : decode cX4_isInTable 18 = .ok (.iconst 1, 1) := by decide +kernel
theorem dX4_isInTable_19 : decode cX4_isInTable 19 = .ok (.goto 4, 3) := by decide +kernel
theorem dX4_isInTable_22 : decode cX4_isInTable 22 = .ok (.iconst 0, 1) := by decide +kernel
theorem dX4_isInTable_23 : decode cX4_isInTable 23 = .ok (.ireturn, 1) := by decide +kernel
theorem dX4_girlOf_0 : decode cX4_girlOf 0 = .ok (.iload_n 1, 1) := by decide +kernel
theorem dX4_girlOf_1 : decode cX4_girlOf 1 = .ok (.ifCond .lt 20, 3) := by decide +kernel
theorem dX4_girlOf_4 : decode cX4_girlOf 4 = .ok (.iload_n 1, 1) := by decide +kernel
theorem dX4_girlOf_5 : decode cX4_girlOf 5 = .ok (.aload_n 0, 1) := by decide +kernel
theorem dX4_girlOf_6 : decode cX4_girlOf 6 = .ok (.getfield 27, 3) := by decide +kernel
theorem dX4_girlOf_9 : decode cX4_girlOf 9 = .ok (.if_icmp .ge 12, 3) := by decide +kernel
theorem dX4_girlOf_12 : decode cX4_girlOf 12 = .ok (.iload_n 1, 1) := by decide +kernel
theorem dX4_girlOf_13 : decode cX4_girlOf 13 = .ok (.aload_n 0, 1) := by decide +kernel
theorem dX4_girlOf_14 : decode cX4_girlOf 14 = .ok (.getfield 18, 3) := by decide +kernel
theorem dX4_girlOf_17 : decode cX4_girlOf 17 = .ok (.arraylength, 1) := by decide +kernel
theorem dX4_girlOf_18 : decode cX4_girlOf 18 = .ok (.if_icmp .lt 8, 3) := by decide +kernel
theorem dX4_girlOf_21 : decode cX4_girlOf 21 = .ok (.bipush (-9), 2) := by decide +kernel
theorem dX4_girlOf_23 : decode cX4_girlOf 23 = .ok (.goto 9, 3) := by decide +kernel
theorem dX4_girlOf_26 : decode cX4_girlOf 26 = .ok (.aload_n 0, 1) := by decide +kernel
theorem dX4_girlOf_27 : decode cX4_girlOf 27 = .ok (.getfield 18, 3) := by decide +kernel
theorem dX4_girlOf_30 : decode cX4_girlOf 30 = .ok (.iload_n 1, 1) := by decide +kernel
theorem dX4_girlOf_31 : decode cX4_girlOf 31 = .ok (.iaload, 1) := by decide +kernel
theorem dX4_girlOf_32 : decode cX4_girlOf 32 = .ok (.ireturn, 1) := by decide +kernel
theorem dX4_giveGirl_0 : decode cX4_giveGirl 0 = .ok (.iload_n 1, 1) := by decide +kernel
theorem dX4_giveGirl_1 : decode cX4_giveGirl 1 = .ok (.ifCond .lt 19, 3) := by decide +kernel
theorem dX4_giveGirl_4 : decode cX4_giveGirl 4 = .ok (.iload_n 1, 1) := by decide +kernel
theorem dX4_giveGirl_5 : decode cX4_giveGirl 5 = .ok (.aload_n 0, 1) := by decide +kernel
theorem dX4_giveGirl_6 : decode cX4_giveGirl 6 = .ok (.getfield 18, 3) := by decide +kernel
theorem dX4_giveGirl_9 : decode cX4_giveGirl 9 = .ok (.arraylength, 1) := by decide +kernel
theorem dX4_giveGirl_10 : decode cX4_giveGirl 10 = .ok (.if_icmp .ge 10, 3) := by decide +kernel
theorem dX4_giveGirl_13 : decode cX4_giveGirl 13 = .ok (.aload_n 0, 1) := by decide +kernel
theorem dX4_giveGirl_14 : decode cX4_giveGirl 14 = .ok (.getfield 18, 3) := by decide +kernel
theorem dX4_giveGirl_17 : decode cX4_giveGirl 17 = .ok (.iload_n 1, 1) := by decide +kernel
theorem dX4_giveGirl_18 : decode cX4_giveGirl 18 = .ok (.iload_n 2, 1) := by decide +kernel
theorem dX4_giveGirl_19 : decode cX4_giveGirl 19 = .ok (.iastore, 1) := by decide +kernel
theorem dX4_giveGirl_20 : decode cX4_giveGirl 20 = .ok (.return_, 1) := by decide +kernel
theorem dX4_pairs_0 : decode cX4_pairs 0 = .ok (.iconst 0, 1) := by decide +kernel
theorem dX4_pairs_1 : decode cX4_pairs 1 = .ok (.istore_n 1, 1) := by decide +kernel
theorem dX4_pairs_2 : decode cX4_pairs 2 = .ok (.iconst 0, 1) := by decide +kernel
theorem dX4_pairs_3 : decode cX4_pairs 3 = .ok (.istore_n 2, 1) := by decide +kernel
theorem dX4_pairs_4 : decode cX4_pairs 4 = .ok (.iload_n 2, 1) := by decide +kernel
theorem dX4_pairs_5 : decode cX4_pairs 5 = .ok (.aload_n 0, 1) := by decide +kernel
theorem dX4_pairs_6 : decode cX4_pairs 6 = .ok (.getfield 27, 3) := by decide +kernel
theorem dX4_pairs_9 : decode cX4_pairs 9 = .ok (.if_icmp .ge 22, 3) := by decide +kernel
theorem dX4_pairs_12 : decode cX4_pairs 12 = .ok (.aload_n 0, 1) := by decide +kernel
theorem dX4_pairs_13 : decode cX4_pairs 13 = .ok (.iload_n 2, 1) := by decide +kernel
theorem dX4_pairs_14 : decode cX4_pairs 14 = .ok (.invokevirtual 42, 3) := by decide +kernel
theorem dX4_pairs_17 : decode cX4_pairs 17 = .ok (.bipush (-9), 2) := by decide +kernel
theorem dX4_pairs_19 : decode cX4_pairs 19 = .ok (.if_icmp .eq 6, 3) := by decide +kernel
theorem dX4_pairs_22 : decode cX4_pairs 22 = .ok (.iinc 1 1, 3) := by decide +kernel
theorem dX4_pairs_25 : decode cX4_pairs 25 = .ok (.iinc 2 1, 3) := by decide +kernel
theorem dX4_pairs_28 : decode cX4_pairs 28 = .ok (.goto (-24), 3) := by decide +kernel
theorem dX4_pairs_31 : decode cX4_pairs 31 = .ok (.iload_n 1, 1) := by decide +kernel
theorem dX4_pairs_32 : decode cX4_pairs 32 = .ok (.ireturn, 1) := by decide +kernel
theorem dX4_nearnessTogether_0 : decode cX4_nearnessTogether 0 = .ok (.iconst 0, 1) := by decide +kernel
theorem dX4_nearnessTogether_1 : decode cX4_nearnessTogether 1 = .ok (.istore_n 1, 1) := by decide +kernel
theorem dX4_nearnessTogether_2 : decode cX4_nearnessTogether 2 = .ok (.iconst 0, 1) := by decide +kernel
theorem dX4_nearnessTogether_3 : decode cX4_nearnessTogether 3 = .ok (.istore_n 2, 1) := by decide +kernel
theorem dX4_nearnessTogether_4 : decode cX4_nearnessTogether 4 = .ok (.iload_n 2, 1) := by decide +kernel
theorem dX4_nearnessTogether_5 : decode cX4_nearnessTogether 5 = .ok (.aload_n 0, 1) := by decide +kernel
theorem dX4_nearnessTogether_6 : decode cX4_nearnessTogether 6 = .ok (.getfield 27, 3) := by decide +kernel
theorem dX4_nearnessTogether_9 : decode cX4_nearnessTogether 9 = .ok (.if_icmp .ge 36, 3) := by decide +kernel
theorem dX4_nearnessTogether_12 : decode cX4_nearnessTogether 12 = .ok (.iload_n 1, 1) := by decide +kernel
theorem dX4_nearnessTogether_13 : decode cX4_nearnessTogether 13 = .ok (.aload_n 0, 1) := by decide +kernel
theorem dX4_nearnessTogether_14 : decode cX4_nearnessTogether 14 = .ok (.iload_n 2, 1) := by decide +kernel
theorem dX4_nearnessTogether_15 : decode cX4_nearnessTogether 15 = .ok (.invokevirtual 42, 3) := by decide +kernel
theorem dX4_nearnessTogether_18 : decode cX4_nearnessTogether 18 = .ok (.bipush (-9), 2) := by decide +kernel
theorem dX4_nearnessTogether_20 : decode cX4_nearnessTogether 20 = .ok (.if_icmp .ne 7, 3) := by decide +kernel
theorem dX4_nearnessTogether_23 : decode cX4_nearnessTogether 23 = .ok (.iconst 0, 1) := by decide +kernel
theorem dX4_nearnessTogether_24 : decode cX4_nearnessTogether 24 = .ok (.goto 13, 3) := by decide +kernel
theorem dX4_nearnessTogether_27 : decode cX4_nearnessTogether 27 = .ok (.aload_n 0, 1) := by decide +kernel
theorem dX4_nearnessTogether_28 : decode cX4_nearnessTogether 28 = .ok (.iload_n 2, 1) := by decide +kernel
theorem dX4_nearnessTogether_29 : decode cX4_nearnessTogether 29 = .ok (.aload_n 0, 1) := by decide +kernel
theorem dX4_nearnessTogether_30 : decode cX4_nearnessTogether 30 = .ok (.iload_n 2, 1) := by decide +kernel
theorem dX4_nearnessTogether_31 : decode cX4_nearnessTogether 31 = .ok (.invokevirtual 42, 3) := by decide +kernel
theorem dX4_nearnessTogether_34 : decode cX4_nearnessTogether 34 = .ok (.invokevirtual 46, 3) := by decide +kernel
theorem dX4_nearnessTogether_37 : decode cX4_nearnessTogether 37 = .ok (.iadd, 1) := by decide +kernel
theorem dX4_nearnessTogether_38 : decode cX4_nearnessTogether 38 = .ok (.istore_n 1, 1) := by decide +kernel
theorem dX4_nearnessTogether_39 : decode cX4_nearnessTogether 39 = .ok (.iinc 2 1, 3) := by decide +kernel
theorem dX4_nearnessTogether_42 : decode cX4_nearnessTogether 42 = .ok (.goto (-38), 3) := by decide +kernel
theorem dX4_nearnessTogether_45 : decode cX4_nearnessTogether 45 = .ok (.iload_n 1, 1) := by decide +kernel
theorem dX4_nearnessTogether_46 : decode cX4_nearnessTogether 46 = .ok (.ireturn, 1) := by decide +kernel
theorem dX4_matchUp_0 : decode cX4_matchUp 0 = .ok (.aload_n 0, 1) := by decide +kernel
theorem dX4_matchUp_1 : decode cX4_matchUp 1 = .ok (.getfield 27, 3) := by decide +kernel
theorem dX4_matchUp_4 : decode cX4_matchUp 4 = .ok (.iconst 1, 1) := by decide +kernel
theorem dX4_matchUp_5 : decode cX4_matchUp 5 = .ok (.isub, 1) := by decide +kernel
theorem dX4_matchUp_6 : decode cX4_matchUp 6 = .ok (.istore_n 1, 1) := by decide +kernel
theorem dX4_matchUp_7 : decode cX4_matchUp 7 = .ok (.iload_n 1, 1) := by decide +kernel
theorem dX4_matchUp_8 : decode cX4_matchUp 8 = .ok (.ifCond .lt 45, 3) := by decide +kernel
theorem dX4_matchUp_11 : decode cX4_matchUp 11 = .ok (.iconst 0, 1) := by decide +kernel
theorem dX4_matchUp_12 : decode cX4_matchUp 12 = .ok (.istore_n 2, 1) := by decide +kernel
theorem dX4_matchUp_13 : decode cX4_matchUp 13 = .ok (.iload_n 2, 1) := by decide +kernel
theorem dX4_matchUp_14 : decode cX4_matchUp 14 = .ok (.iconst 1, 1) := by decide +kernel
theorem dX4_matchUp_15 : decode cX4_matchUp 15 = .ok (.aload_n 0, 1) := by decide +kernel
theorem dX4_matchUp_16 : decode cX4_matchUp 16 = .ok (.getfield 31, 3) := by decide +kernel
theorem dX4_matchUp_19 : decode cX4_matchUp 19 = .ok (.ishl, 1) := by decide +kernel
theorem dX4_matchUp_20 : decode cX4_matchUp 20 = .ok (.if_icmp .ge 27, 3) := by decide +kernel
theorem dX4_matchUp_23 : decode cX4_matchUp 23 = .ok (.aload_n 0, 1) := by decide +kernel
theorem dX4_matchUp_24 : decode cX4_matchUp 24 = .ok (.iload_n 1, 1) := by decide +kernel
theorem dX4_matchUp_25 : decode cX4_matchUp 25 = .ok (.iload_n 2, 1) := by decide +kernel
theorem dX4_matchUp_26 : decode cX4_matchUp 26 = .ok (.aload_n 0, 1) := by decide +kernel
theorem dX4_matchUp_27 : decode cX4_matchUp 27 = .ok (.iload_n 1, 1) := by decide +kernel
theorem dX4_matchUp_28 : decode cX4_matchUp 28 = .ok (.iload_n 2, 1) := by decide +kernel
theorem dX4_matchUp_29 : decode cX4_matchUp 29 = .ok (.aload_n 0, 1) := by decide +kernel
theorem dX4_matchUp_30 : decode cX4_matchUp 30 = .ok (.iload_n 1, 1) := by decide +kernel
theorem dX4_matchUp_31 : decode cX4_matchUp 31 = .ok (.iload_n 2, 1) := by decide +kernel
theorem dX4_matchUp_32 : decode cX4_matchUp 32 = .ok (.invokevirtual 50, 3) := by decide +kernel
theorem dX4_matchUp_35 : decode cX4_matchUp 35 = .ok (.invokevirtual 53, 3) := by decide +kernel
theorem dX4_matchUp_38 : decode cX4_matchUp 38 = .ok (.invokevirtual 57, 3) := by decide +kernel
theorem dX4_matchUp_41 : decode cX4_matchUp 41 = .ok (.iinc 2 1, 3) := by decide +kernel
theorem dX4_matchUp_44 : decode cX4_matchUp 44 = .ok (.goto (-31), 3) := by decide +kernel
theorem dX4_matchUp_47 : decode cX4_matchUp 47 = .ok (.iinc 1 (-1), 3) := by decide +kernel
theorem dX4_matchUp_50 : decode cX4_matchUp 50 = .ok (.goto (-43), 3) := by decide +kernel
theorem dX4_matchUp_53 : decode cX4_matchUp 53 = .ok (.iconst 0, 1) := by decide +kernel
theorem dX4_matchUp_54 : decode cX4_matchUp 54 = .ok (.istore_n 1, 1) := by decide +kernel
theorem dX4_matchUp_55 : decode cX4_matchUp 55 = .ok (.iconst 0, 1) := by decide +kernel
theorem dX4_matchUp_56 : decode cX4_matchUp 56 = .ok (.istore_n 2, 1) := by decide +kernel
theorem dX4_matchUp_57 : decode cX4_matchUp 57 = .ok (.iload_n 2, 1) := by decide +kernel
theorem dX4_matchUp_58 : decode cX4_matchUp 58 = .ok (.aload_n 0, 1) := by decide +kernel
theorem dX4_matchUp_59 : decode cX4_matchUp 59 = .ok (.getfield 27, 3) := by decide +kernel
theorem dX4_matchUp_62 : decode cX4_matchUp 62 = .ok (.if_icmp .ge 38, 3) := by decide +kernel
theorem dX4_matchUp_65 : decode cX4_matchUp 65 = .ok (.aload_n 0, 1) := by decide +kernel
theorem dX4_matchUp_66 : decode cX4_matchUp 66 = .ok (.iload_n 2, 1) := by decide +kernel
theorem dX4_matchUp_67 : decode cX4_matchUp 67 = .ok (.iload_n 1, 1) := by decide +kernel
theorem dX4_matchUp_68 : decode cX4_matchUp 68 = .ok (.invokevirtual 50, 3) := by decide +kernel
theorem dX4_matchUp_71 : decode cX4_matchUp 71 = .ok (.istore_n 3, 1) := by decide +kernel
theorem dX4_matchUp_72 : decode cX4_matchUp 72 = .ok (.aload_n 0, 1) := by decide +kernel
theorem dX4_matchUp_73 : decode cX4_matchUp 73 = .ok (.iload_n 2, 1) := by decide +kernel
theorem dX4_matchUp_74 : decode cX4_matchUp 74 = .ok (.iload_n 3, 1) := by decide +kernel
theorem dX4_matchUp_75 : decode cX4_matchUp 75 = .ok (.invokevirtual 61, 3) := by decide +kernel
theorem dX4_matchUp_78 : decode cX4_matchUp 78 = .ok (.iload_n 1, 1) := by decide +kernel
theorem dX4_matchUp_79 : decode cX4_matchUp 79 = .ok (.iload_n 3, 1) := by decide +kernel
theorem dX4_matchUp_80 : decode cX4_matchUp 80 = .ok (.bipush (-9), 2) := by decide +kernel
theorem dX4_matchUp_82 : decode cX4_matchUp 82 = .ok (.if_icmp .ne 7, 3) := by decide +kernel
theorem dX4_matchUp_85 : decode cX4_matchUp 85 = .ok (.iconst 0, 1) := by decide +kernel
theorem dX4_matchUp_86 : decode cX4_matchUp 86 = .ok (.goto 6, 3) := by decide +kernel
theorem dX4_matchUp_89 : decode cX4_matchUp 89 = .ok (.iconst 1, 1) := by decide +kernel
theorem dX4_matchUp_90 : decode cX4_matchUp 90 = .ok (.iload_n 3, 1) := by decide +kernel
theorem dX4_matchUp_91 : decode cX4_matchUp 91 = .ok (.ishl, 1) := by decide +kernel
theorem dX4_matchUp_92 : decode cX4_matchUp 92 = .ok (.ior, 1) := by decide +kernel
theorem dX4_matchUp_93 : decode cX4_matchUp 93 = .ok (.istore_n 1, 1) := by decide +kernel
theorem dX4_matchUp_94 : decode cX4_matchUp 94 = .ok (.iinc 2 1, 3) := by decide +kernel
theorem dX4_matchUp_97 : decode cX4_matchUp 97 = .ok (.goto (-40), 3) := by decide +kernel
theorem dX4_matchUp_100 : decode cX4_matchUp 100 = .ok (.return_, 1) := by decide +kernel
theorem dX4_firstBest_0 : decode cX4_firstBest 0 = .ok (.bipush (-9), 2) := by decide +kernel
theorem dX4_firstBest_2 : decode cX4_firstBest 2 = .ok (.istore_n 3, 1) := by decide +kernel
theorem dX4_firstBest_3 : decode cX4_firstBest 3 = .ok (.iconst (-1), 1) := by decide +kernel
theorem dX4_firstBest_4 : decode cX4_firstBest 4 = .ok (.istore 4, 2) := by decide +kernel
theorem dX4_firstBest_6 : decode cX4_firstBest 6 = .ok (.iconst 0, 1) := by decide +kernel
theorem dX4_firstBest_7 : decode cX4_firstBest 7 = .ok (.istore 5, 2) := by decide +kernel
theorem dX4_firstBest_9 : decode cX4_firstBest 9 = .ok (.iload 5, 2) := by decide +kernel
theorem dX4_firstBest_11 : decode cX4_firstBest 11 = .ok (.aload_n 0, 1) := by decide +kernel
theorem dX4_firstBest_12 : decode cX4_firstBest 12 = .ok (.getfield 31, 3) := by decide +kernel
theorem dX4_firstBest_15 : decode cX4_firstBest 15 = .ok (.if_icmp .ge 48, 3) := by decide +kernel
theorem dX4_firstBest_18 : decode cX4_firstBest 18 = .ok (.aload_n 0, 1) := by decide +kernel
theorem dX4_firstBest_19 : decode cX4_firstBest 19 = .ok (.iload_n 1, 1) := by decide +kernel
theorem dX4_firstBest_20 : decode cX4_firstBest 20 = .ok (.iload_n 2, 1) := by decide +kernel
theorem dX4_firstBest_21 : decode cX4_firstBest 21 = .ok (.iload 5, 2) := by decide +kernel
theorem dX4_firstBest_23 : decode cX4_firstBest 23 = .ok (.invokevirtual 65, 3) := by decide +kernel
theorem dX4_firstBest_26 : decode cX4_firstBest 26 = .ok (.ifCond .eq 14, 3) := by decide +kernel
theorem dX4_firstBest_29 : decode cX4_firstBest 29 = .ok (.aload_n 0, 1) := by decide +kernel
theorem dX4_firstBest_30 : decode cX4_firstBest 30 = .ok (.iload_n 1, 1) := by decide +kernel
theorem dX4_firstBest_31 : decode cX4_firstBest 31 = .ok (.iload_n 2, 1) := by decide +kernel
theorem dX4_firstBest_32 : decode cX4_firstBest 32 = .ok (.iload 5, 2) := by decide +kernel
theorem dX4_firstBest_34 : decode cX4_firstBest 34 = .ok (.invokevirtual 53, 3) := by decide +kernel
theorem dX4_firstBest_37 : decode cX4_firstBest 37 = .ok (.goto 4, 3) := by decide +kernel
theorem dX4_firstBest_40 : decode cX4_firstBest 40 = .ok (.iconst (-1), 1) := by decide +kernel
theorem dX4_firstBest_41 : decode cX4_firstBest 41 = .ok (.istore 6, 2) := by decide +kernel
theorem dX4_firstBest_43 : decode cX4_firstBest 43 = .ok (.iload 6, 2) := by decide +kernel
theorem dX4_firstBest_45 : decode cX4_firstBest 45 = .ok (.iload 4, 2) := by decide +kernel
theorem dX4_firstBest_47 : decode cX4_firstBest 47 = .ok (.if_icmp .le 10, 3) := by decide +kernel
theorem dX4_firstBest_50 : decode cX4_firstBest 50 = .ok (.iload 5, 2) := by decide +kernel
theorem dX4_firstBest_52 : decode cX4_firstBest 52 = .ok (.istore_n 3, 1) := by decide +kernel
theorem dX4_firstBest_53 : decode cX4_firstBest 53 = .ok (.iload 6, 2) := by decide +kernel
theorem dX4_firstBest_55 : decode cX4_firstBest 55 = .ok (.istore 4, 2) := by decide +kernel
theorem dX4_firstBest_57 : decode cX4_firstBest 57 = .ok (.iinc 5 1, 3) := by decide +kernel
theorem dX4_firstBest_60 : decode cX4_firstBest 60 = .ok (.goto (-51), 3) := by decide +kernel
theorem dX4_firstBest_63 : decode cX4_firstBest 63 = .ok (.aload_n 0, 1) := by decide +kernel
theorem dX4_firstBest_64 : decode cX4_firstBest 64 = .ok (.iload_n 1, 1) := by decide +kernel
theorem dX4_firstBest_65 : decode cX4_firstBest 65 = .ok (.iload_n 2, 1) := by decide +kernel
theorem dX4_firstBest_66 : decode cX4_firstBest 66 = .ok (.bipush (-9), 2) := by decide +kernel
theorem dX4_firstBest_68 : decode cX4_firstBest 68 = .ok (.invokevirtual 53, 3) := by decide +kernel
theorem dX4_firstBest_71 : decode cX4_firstBest 71 = .ok (.iload 4, 2) := by decide +kernel
theorem dX4_firstBest_73 : decode cX4_firstBest 73 = .ok (.if_icmp .le 8, 3) := by decide +kernel
theorem dX4_firstBest_76 : decode cX4_firstBest 76 = .ok (.bipush (-9), 2) := by decide +kernel
theorem dX4_firstBest_78 : decode cX4_firstBest 78 = .ok (.goto 4, 3) := by decide +kernel
theorem dX4_firstBest_81 : decode cX4_firstBest 81 = .ok (.iload_n 3, 1) := by decide +kernel
theorem dX4_firstBest_82 : decode cX4_firstBest 82 = .ok (.ireturn, 1) := by decide +kernel
theorem dX4_isFreeToWin_0 : decode cX4_isFreeToWin 0 = .ok (.iload_n 1, 1) := by decide +kernel
theorem dX4_isFreeToWin_1 : decode cX4_isFreeToWin 1 = .ok (.ifCond .lt 12, 3) := by decide +kernel
theorem dX4_isFreeToWin_4 : decode cX4_isFreeToWin 4 = .ok (.iload_n 1, 1) := by decide +kernel
theorem dX4_isFreeToWin_5 : decode cX4_isFreeToWin 5 = .ok (.aload_n 0, 1) := by decide +kernel
theorem dX4_isFreeToWin_6 : decode cX4_isFreeToWin 6 = .ok (.getfield 15, 3) := by decide +kernel
theorem dX4_isFreeToWin_9 : decode cX4_isFreeToWin 9 = .ok (.arraylength, 1) := by decide +kernel
theorem dX4_isFreeToWin_10 : decode cX4_isFreeToWin 10 = .ok (.if_icmp .lt 7, 3) := by decide +kernel
theorem dX4_isFreeToWin_13 : decode cX4_isFreeToWin 13 = .ok (.iconst 0, 1) := by decide +kernel
theorem dX4_isFreeToWin_14 : decode cX4_isFreeToWin 14 = .ok (.goto 9, 3) := by decide +kernel
theorem dX4_isFreeToWin_17 : decode cX4_isFreeToWin 17 = .ok (.aload_n 0, 1) := by decide +kernel
theorem dX4_isFreeToWin_18 : decode cX4_isFreeToWin 18 = .ok (.getfield 15, 3) := by decide +kernel
theorem dX4_isFreeToWin_21 : decode cX4_isFreeToWin 21 = .ok (.iload_n 1, 1) := by decide +kernel
theorem dX4_isFreeToWin_22 : decode cX4_isFreeToWin 22 = .ok (.iaload, 1) := by decide +kernel
theorem dX4_isFreeToWin_23 : decode cX4_isFreeToWin 23 = .ok (.istore 4, 2) := by decide +kernel
theorem dX4_isFreeToWin_25 : decode cX4_isFreeToWin 25 = .ok (.iload 4, 2) := by decide +kernel
theorem dX4_isFreeToWin_27 : decode cX4_isFreeToWin 27 = .ok (.iload_n 3, 1) := by decide +kernel
theorem dX4_isFreeToWin_28 : decode cX4_isFreeToWin 28 = .ok (.ishr, 1) := by decide +kernel
theorem dX4_isFreeToWin_29 : decode cX4_isFreeToWin 29 = .ok (.iconst 1, 1) := by decide +kernel
theorem dX4_isFreeToWin_30 : decode cX4_isFreeToWin 30 = .ok (.iand, 1) := by decide +kernel
theorem dX4_isFreeToWin_31 : decode cX4_isFreeToWin 31 = .ok (.iconst 1, 1) := by decide +kernel
theorem dX4_isFreeToWin_32 : decode cX4_isFreeToWin 32 = .ok (.if_icmp .ne 15, 3) := by decide +kernel
theorem dX4_isFreeToWin_35 : decode cX4_isFreeToWin 35 = .ok (.iload_n 2, 1) := by decide +kernel
theorem dX4_isFreeToWin_36 : decode cX4_isFreeToWin 36 = .ok (.iload_n 3, 1) := by decide +kernel
theorem dX4_isFreeToWin_37 : decode cX4_isFreeToWin 37 = .ok (.ishr, 1) := by decide +kernel
theorem dX4_isFreeToWin_38 : decode cX4_isFreeToWin 38 = .ok (.iconst 1, 1) := by decide +kernel
theorem dX4_isFreeToWin_39 : decode cX4_isFreeToWin 39 = .ok (.iand, 1) := by decide +kernel
theorem dX4_isFreeToWin_40 : decode cX4_isFreeToWin 40 = .ok (.ifCond .ne 7, 3) := by decide +kernel
theorem dX4_isFreeToWin_43 : decode cX4_isFreeToWin 43 = .ok (.iconst 1, 1) := by decide +kernel
theorem dX4_isFreeToWin_44 : decode cX4_isFreeToWin 44 = .ok (.goto 4, 3) := by decide +kernel
theorem dX4_isFreeToWin_47 : decode cX4_isFreeToWin 47 = .ok (.iconst 0, 1) := by decide +kernel
theorem dX4_isFreeToWin_48 : decode cX4_isFreeToWin 48 = .ok (.ireturn, 1) := by decide +kernel
theorem dX4_worthWith_0 : decode cX4_worthWith 0 = .ok (.iload_n 3, 1) := by decide +kernel
theorem dX4_worthWith_1 : decode cX4_worthWith 1 = .ok (.bipush (-9), 2) := by decide +kernel
theorem dX4_worthWith_3 : decode cX4_worthWith 3 = .ok (.if_icmp .ne 12, 3) := by decide +kernel
theorem dX4_worthWith_6 : decode cX4_worthWith 6 = .ok (.aload_n 0, 1) := by decide +kernel
theorem dX4_worthWith_7 : decode cX4_worthWith 7 = .ok (.iload_n 1, 1) := by decide +kernel
theorem dX4_worthWith_8 : decode cX4_worthWith 8 = .ok (.iconst 1, 1) := by decide +kernel
theorem dX4_worthWith_9 : decode cX4_worthWith 9 = .ok (.iadd, 1) := by decide +kernel
theorem dX4_worthWith_10 : decode cX4_worthWith 10 = .ok (.iload_n 2, 1) := by decide +kernel
theorem dX4_worthWith_11 : decode cX4_worthWith 11 = .ok (.invokevirtual 68, 3) := by decide +kernel
theorem dX4_worthWith_14 : decode cX4_worthWith 14 = .ok (.ireturn, 1) := by decide +kernel
theorem dX4_worthWith_15 : decode cX4_worthWith 15 = .ok (.sipush 1000, 3) := by decide +kernel
theorem dX4_worthWith_18 : decode cX4_worthWith 18 = .ok (.aload_n 0, 1) := by decide +kernel
theorem dX4_worthWith_19 : decode cX4_worthWith 19 = .ok (.iload_n 1, 1) := by decide +kernel
theorem dX4_worthWith_20 : decode cX4_worthWith 20 = .ok (.iload_n 3, 1) := by decide +kernel
theorem dX4_worthWith_21 : decode cX4_worthWith 21 = .ok (.invokevirtual 46, 3) := by decide +kernel
theorem dX4_worthWith_24 : decode cX4_worthWith 24 = .ok (.isub, 1) := by decide +kernel
theorem dX4_worthWith_25 : decode cX4_worthWith 25 = .ok (.aload_n 0, 1) := by decide +kernel
theorem dX4_worthWith_26 : decode cX4_worthWith 26 = .ok (.iload_n 1, 1) := by decide +kernel
theorem dX4_worthWith_27 : decode cX4_worthWith 27 = .ok (.iconst 1, 1) := by decide +kernel
theorem dX4_worthWith_28 : decode cX4_worthWith 28 = .ok (.iadd, 1) := by decide +kernel
theorem dX4_worthWith_29 : decode cX4_worthWith 29 = .ok (.iload_n 2, 1) := by decide +kernel
theorem dX4_worthWith_30 : decode cX4_worthWith 30 = .ok (.iconst 1, 1) := by decide +kernel
theorem dX4_worthWith_31 : decode cX4_worthWith 31 = .ok (.iload_n 3, 1) := by decide +kernel
theorem dX4_worthWith_32 : decode cX4_worthWith 32 = .ok (.ishl, 1) := by decide +kernel
theorem dX4_worthWith_33 : decode cX4_worthWith 33 = .ok (.ior, 1) := by decide +kernel
theorem dX4_worthWith_34 : decode cX4_worthWith 34 = .ok (.invokevirtual 68, 3) := by decide +kernel
theorem dX4_worthWith_37 : decode cX4_worthWith 37 = .ok (.iadd, 1) := by decide +kernel
theorem dX4_worthWith_38 : decode cX4_worthWith 38 = .ok (.ireturn, 1) := by decide +kernel
theorem dX4_worthFrom_0 : decode cX4_worthFrom 0 = .ok (.iload_n 1, 1) := by decide +kernel
theorem dX4_worthFrom_1 : decode cX4_worthFrom 1 = .ok (.ifCond .lt 25, 3) := by decide +kernel
theorem dX4_worthFrom_4 : decode cX4_worthFrom 4 = .ok (.iload_n 1, 1) := by decide +kernel
theorem dX4_worthFrom_5 : decode cX4_worthFrom 5 = .ok (.aload_n 0, 1) := by decide +kernel
theorem dX4_worthFrom_6 : decode cX4_worthFrom 6 = .ok (.getfield 27, 3) := by decide +kernel
theorem dX4_worthFrom_9 : decode cX4_worthFrom 9 = .ok (.if_icmp .ge 17, 3) := by decide +kernel
theorem dX4_worthFrom_12 : decode cX4_worthFrom 12 = .ok (.iload_n 2, 1) := by decide +kernel
theorem dX4_worthFrom_13 : decode cX4_worthFrom 13 = .ok (.ifCond .lt 13, 3) := by decide +kernel
theorem dX4_worthFrom_16 : decode cX4_worthFrom 16 = .ok (.iload_n 2, 1) := by decide +kernel
theorem dX4_worthFrom_17 : decode cX4_worthFrom 17 = .ok (.bipush 16, 2) := by decide +kernel
theorem dX4_worthFrom_19 : decode cX4_worthFrom 19 = .ok (.if_icmp .ge 7, 3) := by decide +kernel
theorem dX4_worthFrom_22 : decode cX4_worthFrom 22 = .ok (.iconst 1, 1) := by decide +kernel
theorem dX4_worthFrom_23 : decode cX4_worthFrom 23 = .ok (.goto 4, 3) := by decide +kernel
theorem dX4_worthFrom_26 : decode cX4_worthFrom 26 = .ok (.iconst 0, 1) := by decide +kernel
theorem dX4_worthFrom_27 : decode cX4_worthFrom 27 = .ok (.istore_n 3, 1) := by decide +kernel
theorem dX4_worthFrom_28 : decode cX4_worthFrom 28 = .ok (.iload_n 1, 1) := by decide +kernel
theorem dX4_worthFrom_29 : decode cX4_worthFrom 29 = .ok (.bipush 16, 2) := by decide +kernel
theorem dX4_worthFrom_31 : decode cX4_worthFrom 31 = .ok (.imul, 1) := by decide +kernel
theorem dX4_worthFrom_32 : decode cX4_worthFrom 32 = .ok (.iload_n 2, 1) := by decide +kernel
theorem dX4_worthFrom_33 : decode cX4_worthFrom 33 = .ok (.iadd, 1) := by decide +kernel
theorem dX4_worthFrom_34 : decode cX4_worthFrom 34 = .ok (.istore 4, 2) := by decide +kernel
theorem dX4_worthFrom_36 : decode cX4_worthFrom 36 = .ok (.iload_n 3, 1) := by decide +kernel
theorem dX4_worthFrom_37 : decode cX4_worthFrom 37 = .ok (.ifCond .eq 23, 3) := by decide +kernel
theorem dX4_worthFrom_40 : decode cX4_worthFrom 40 = .ok (.iload 4, 2) := by decide +kernel
theorem dX4_worthFrom_42 : decode cX4_worthFrom 42 = .ok (.aload_n 0, 1) := by decide +kernel
theorem dX4_worthFrom_43 : decode cX4_worthFrom 43 = .ok (.getfield 24, 3) := by decide +kernel
theorem dX4_worthFrom_46 : decode cX4_worthFrom 46 = .ok (.arraylength, 1) := by decide +kernel
theorem dX4_worthFrom_47 : decode cX4_worthFrom 47 = .ok (.if_icmp .ge 13, 3) := by decide +kernel
theorem dX4_worthFrom_50 : decode cX4_worthFrom 50 = .ok (.aload_n 0, 1) := by decide +kernel
theorem dX4_worthFrom_51 : decode cX4_worthFrom 51 = .ok (.getfield 24, 3) := by decide +kernel
theorem dX4_worthFrom_54 : decode cX4_worthFrom 54 = .ok (.iload 4, 2) := by decide +kernel
theorem dX4_worthFrom_56 : decode cX4_worthFrom 56 = .ok (.iaload, 1) := by decide +kernel
theorem dX4_worthFrom_57 : decode cX4_worthFrom 57 = .ok (.goto 4, 3) := by decide +kernel
theorem dX4_worthFrom_60 : decode cX4_worthFrom 60 = .ok (.iconst 0, 1) := by decide +kernel
theorem dX4_worthFrom_61 : decode cX4_worthFrom 61 = .ok (.ireturn, 1) := by decide +kernel
theorem dX4_noteWorth_0 : decode cX4_noteWorth 0 = .ok (.iload_n 1, 1) := by decide +kernel
theorem dX4_noteWorth_1 : decode cX4_noteWorth 1 = .ok (.bipush 16, 2) := by decide +kernel
theorem dX4_noteWorth_3 : decode cX4_noteWorth 3 = .ok (.imul, 1) := by decide +kernel
theorem dX4_noteWorth_4 : decode cX4_noteWorth 4 = .ok (.iload_n 2, 1) := by decide +kernel
theorem dX4_noteWorth_5 : decode cX4_noteWorth 5 = .ok (.iadd, 1) := by decide +kernel
theorem dX4_noteWorth_6 : decode cX4_noteWorth 6 = .ok (.istore 4, 2) := by decide +kernel
theorem dX4_noteWorth_8 : decode cX4_noteWorth 8 = .ok (.iload 4, 2) := by decide +kernel
theorem dX4_noteWorth_10 : decode cX4_noteWorth 10 = .ok (.ifCond .lt 21, 3) := by decide +kernel
theorem dX4_noteWorth_13 : decode cX4_noteWorth 13 = .ok (.iload 4, 2) := by decide +kernel
theorem dX4_noteWorth_15 : decode cX4_noteWorth 15 = .ok (.aload_n 0, 1) := by decide +kernel
theorem dX4_noteWorth_16 : decode cX4_noteWorth 16 = .ok (.getfield 24, 3) := by decide +kernel
theorem dX4_noteWorth_19 : decode cX4_noteWorth 19 = .ok (.arraylength, 1) := by decide +kernel
theorem dX4_noteWorth_20 : decode cX4_noteWorth 20 = .ok (.if_icmp .ge 11, 3) := by decide +kernel
theorem dX4_noteWorth_23 : decode cX4_noteWorth 23 = .ok (.aload_n 0, 1) := by decide +kernel
theorem dX4_noteWorth_24 : decode cX4_noteWorth 24 = .ok (.getfield 24, 3) := by decide +kernel
theorem dX4_noteWorth_27 : decode cX4_noteWorth 27 = .ok (.iload 4, 2) := by decide +kernel
theorem dX4_noteWorth_29 : decode cX4_noteWorth 29 = .ok (.iload_n 3, 1) := by decide +kernel
theorem dX4_noteWorth_30 : decode cX4_noteWorth 30 = .ok (.iastore, 1) := by decide +kernel
theorem dX4_noteWorth_31 : decode cX4_noteWorth 31 = .ok (.return_, 1) := by decide +kernel
theorem dX4_wedAll_0 : decode cX4_wedAll 0 = .ok (.iconst 0, 1) := by decide +kernel
theorem dX4_wedAll_1 : decode cX4_wedAll 1 = .ok (.istore_n 1, 1) := by decide +kernel
theorem dX4_wedAll_2 : decode cX4_wedAll 2 = .ok (.iload_n 1, 1) := by decide +kernel
theorem dX4_wedAll_3 : decode cX4_wedAll 3 = .ok (.bipush 24, 2) := by decide +kernel
theorem dX4_wedAll_5 : decode cX4_wedAll 5 = .ok (.if_icmp .ge 31, 3) := by decide +kernel
theorem dX4_wedAll_8 : decode cX4_wedAll 8 = .ok (.aload_n 0, 1) := by decide +kernel
theorem dX4_wedAll_9 : decode cX4_wedAll 9 = .ok (.invokevirtual 71, 3) := by decide +kernel
theorem dX4_wedAll_12 : decode cX4_wedAll 12 = .ok (.istore_n 2, 1) := by decide +kernel
theorem dX4_wedAll_13 : decode cX4_wedAll 13 = .ok (.iload_n 2, 1) := by decide +kernel
theorem dX4_wedAll_14 : decode cX4_wedAll 14 = .ok (.bipush (-9), 2) := by decide +kernel
theorem dX4_wedAll_16 : decode cX4_wedAll 16 = .ok (.if_icmp .ne 4, 3) := by decide +kernel
theorem dX4_wedAll_19 : decode cX4_wedAll 19 = .ok (.return_, 1) := by decide +kernel
theorem dX4_wedAll_20 : decode cX4_wedAll 20 = .ok (.aload_n 0, 1) := by decide +kernel
theorem dX4_wedAll_21 : decode cX4_wedAll 21 = .ok (.iload_n 2, 1) := by decide +kernel
theorem dX4_wedAll_22 : decode cX4_wedAll 22 = .ok (.aload_n 0, 1) := by decide +kernel
theorem dX4_wedAll_23 : decode cX4_wedAll 23 = .ok (.iload_n 2, 1) := by decide +kernel
theorem dX4_wedAll_24 : decode cX4_wedAll 24 = .ok (.invokevirtual 75, 3) := by decide +kernel
theorem dX4_wedAll_27 : decode cX4_wedAll 27 = .ok (.invokevirtual 78, 3) := by decide +kernel
theorem dX4_wedAll_30 : decode cX4_wedAll 30 = .ok (.iinc 1 1, 3) := by decide +kernel
theorem dX4_wedAll_33 : decode cX4_wedAll 33 = .ok (.goto (-31), 3) := by decide +kernel
theorem dX4_wedAll_36 : decode cX4_wedAll 36 = .ok (.return_, 1) := by decide +kernel
theorem dX4_firstWhoAsks_0 : decode cX4_firstWhoAsks 0 = .ok (.iconst 0, 1) := by decide +kernel
theorem dX4_firstWhoAsks_1 : decode cX4_firstWhoAsks 1 = .ok (.istore_n 1, 1) := by decide +kernel
theorem dX4_firstWhoAsks_2 : decode cX4_firstWhoAsks 2 = .ok (.iload_n 1, 1) := by decide +kernel
theorem dX4_firstWhoAsks_3 : decode cX4_firstWhoAsks 3 = .ok (.aload_n 0, 1) := by decide +kernel
theorem dX4_firstWhoAsks_4 : decode cX4_firstWhoAsks 4 = .ok (.getfield 27, 3) := by decide +kernel
theorem dX4_firstWhoAsks_7 : decode cX4_firstWhoAsks 7 = .ok (.if_icmp .ge 31, 3) := by decide +kernel
theorem dX4_firstWhoAsks_10 : decode cX4_firstWhoAsks 10 = .ok (.aload_n 0, 1) := by decide +kernel
theorem dX4_firstWhoAsks_11 : decode cX4_firstWhoAsks 11 = .ok (.iload_n 1, 1) := by decide +kernel
theorem dX4_firstWhoAsks_12 : decode cX4_firstWhoAsks 12 = .ok (.invokevirtual 42, 3) := by decide +kernel
theorem dX4_firstWhoAsks_15 : decode cX4_firstWhoAsks 15 = .ok (.bipush (-9), 2) := by decide +kernel
theorem dX4_firstWhoAsks_17 : decode cX4_firstWhoAsks 17 = .ok (.if_icmp .ne 15, 3) := by decide +kernel
theorem dX4_firstWhoAsks_20 : decode cX4_firstWhoAsks 20 = .ok (.aload_n 0, 1) := by decide +kernel
theorem dX4_firstWhoAsks_21 : decode cX4_firstWhoAsks 21 = .ok (.iload_n 1, 1) := by decide +kernel
theorem dX4_firstWhoAsks_22 : decode cX4_firstWhoAsks 22 = .ok (.invokevirtual 75, 3) := by decide +kernel
theorem dX4_firstWhoAsks_25 : decode cX4_firstWhoAsks 25 = .ok (.bipush (-9), 2) := by decide +kernel
theorem dX4_firstWhoAsks_27 : decode cX4_firstWhoAsks 27 = .ok (.if_icmp .eq 5, 3) := by decide +kernel
theorem dX4_firstWhoAsks_30 : decode cX4_firstWhoAsks 30 = .ok (.iload_n 1, 1) := by decide +kernel
theorem dX4_firstWhoAsks_31 : decode cX4_firstWhoAsks 31 = .ok (.ireturn, 1) := by decide +kernel
theorem dX4_firstWhoAsks_32 : decode cX4_firstWhoAsks 32 = .ok (.iinc 1 1, 3) := by decide +kernel
theorem dX4_firstWhoAsks_35 : decode cX4_firstWhoAsks 35 = .ok (.goto (-33), 3) := by decide +kernel
theorem dX4_firstWhoAsks_38 : decode cX4_firstWhoAsks 38 = .ok (.bipush (-9), 2) := by decide +kernel
theorem dX4_firstWhoAsks_40 : decode cX4_firstWhoAsks 40 = .ok (.ireturn, 1) := by decide +kernel
theorem dX4_dearest_0 : decode cX4_dearest 0 = .ok (.bipush (-9), 2) := by decide +kernel
theorem dX4_dearest_2 : decode cX4_dearest 2 = .ok (.istore_n 2, 1) := by decide +kernel
theorem dX4_dearest_3 : decode cX4_dearest 3 = .ok (.iconst 0, 1) := by decide +kernel
theorem dX4_dearest_4 : decode cX4_dearest 4 = .ok (.istore_n 3, 1) := by decide +kernel
theorem dX4_dearest_5 : decode cX4_dearest 5 = .ok (.iload_n 3, 1) := by decide +kernel
theorem dX4_dearest_6 : decode cX4_dearest 6 = .ok (.aload_n 0, 1) := by decide +kernel
theorem dX4_dearest_7 : decode cX4_dearest 7 = .ok (.getfield 31, 3) := by decide +kernel
theorem dX4_dearest_10 : decode cX4_dearest 10 = .ok (.if_icmp .ge 41, 3) := by decide +kernel
theorem dX4_dearest_13 : decode cX4_dearest 13 = .ok (.aload_n 0, 1) := by decide +kernel
theorem dX4_dearest_14 : decode cX4_dearest 14 = .ok (.iload_n 1, 1) := by decide +kernel
theorem dX4_dearest_15 : decode cX4_dearest 15 = .ok (.iload_n 3, 1) := by decide +kernel
theorem dX4_dearest_16 : decode cX4_dearest 16 = .ok (.invokevirtual 81, 3) := by decide +kernel
theorem dX4_dearest_19 : decode cX4_dearest 19 = .ok (.ifCond .ne 26, 3) := by decide +kernel
theorem dX4_dearest_22 : decode cX4_dearest 22 = .ok (.iload_n 2, 1) := by decide +kernel
theorem dX4_dearest_23 : decode cX4_dearest 23 = .ok (.bipush (-9), 2) := by decide +kernel
theorem dX4_dearest_25 : decode cX4_dearest 25 = .ok (.if_icmp .eq 18, 3) := by decide +kernel
theorem dX4_dearest_28 : decode cX4_dearest 28 = .ok (.aload_n 0, 1) := by decide +kernel
theorem dX4_dearest_29 : decode cX4_dearest 29 = .ok (.iload_n 1, 1) := by decide +kernel
theorem dX4_dearest_30 : decode cX4_dearest 30 = .ok (.iload_n 3, 1) := by decide +kernel
theorem dX4_dearest_31 : decode cX4_dearest 31 = .ok (.invokevirtual 46, 3) := by decide +kernel
theorem dX4_dearest_34 : decode cX4_dearest 34 = .ok (.aload_n 0, 1) := by decide +kernel
theorem dX4_dearest_35 : decode cX4_dearest 35 = .ok (.iload_n 1, 1) := by decide +kernel
theorem dX4_dearest_36 : decode cX4_dearest 36 = .ok (.iload_n 2, 1) := by decide +kernel
theorem dX4_dearest_37 : decode cX4_dearest 37 = .ok (.invokevirtual 46, 3) := by decide +kernel
theorem dX4_dearest_40 : decode cX4_dearest 40 = .ok (.if_icmp .ge 5, 3) := by decide +kernel
theorem dX4_dearest_43 : decode cX4_dearest 43 = .ok (.iload_n 3, 1) := by decide +kernel
theorem dX4_dearest_44 : decode cX4_dearest 44 = .ok (.istore_n 2, 1) := by decide +kernel
theorem dX4_dearest_45 : decode cX4_dearest 45 = .ok (.iinc 3 1, 3) := by decide +kernel
theorem dX4_dearest_48 : decode cX4_dearest 48 = .ok (.goto (-43), 3) := by decide +kernel
theorem dX4_dearest_51 : decode cX4_dearest 51 = .ok (.iload_n 2, 1) := by decide +kernel
theorem dX4_dearest_52 : decode cX4_dearest 52 = .ok (.ireturn, 1) := by decide +kernel
theorem dX4_ask_0 : decode cX4_ask 0 = .ok (.aload_n 0, 1) := by decide +kernel
theorem dX4_ask_1 : decode cX4_ask 1 = .ok (.iload_n 2, 1) := by decide +kernel
theorem dX4_ask_2 : decode cX4_ask 2 = .ok (.invokevirtual 84, 3) := by decide +kernel
theorem dX4_ask_5 : decode cX4_ask 5 = .ok (.istore_n 3, 1) := by decide +kernel
theorem dX4_ask_6 : decode cX4_ask 6 = .ok (.iload_n 3, 1) := by decide +kernel
theorem dX4_ask_7 : decode cX4_ask 7 = .ok (.bipush (-9), 2) := by decide +kernel
theorem dX4_ask_9 : decode cX4_ask 9 = .ok (.if_icmp .ne 12, 3) := by decide +kernel
theorem dX4_ask_12 : decode cX4_ask 12 = .ok (.aload_n 0, 1) := by decide +kernel
theorem dX4_ask_13 : decode cX4_ask 13 = .ok (.iload_n 1, 1) := by decide +kernel
theorem dX4_ask_14 : decode cX4_ask 14 = .ok (.iload_n 2, 1) := by decide +kernel
theorem dX4_ask_15 : decode cX4_ask 15 = .ok (.invokevirtual 61, 3) := by decide +kernel
theorem dX4_ask_18 : decode cX4_ask 18 = .ok (.goto 41, 3) := by decide +kernel
theorem dX4_ask_21 : decode cX4_ask 21 = .ok (.aload_n 0, 1) := by decide +kernel
theorem dX4_ask_22 : decode cX4_ask 22 = .ok (.iload_n 2, 1) := by decide +kernel
theorem dX4_ask_23 : decode cX4_ask 23 = .ok (.iload_n 1, 1) := by decide +kernel
theorem dX4_ask_24 : decode cX4_ask 24 = .ok (.iload_n 3, 1) := by decide +kernel
theorem dX4_ask_25 : decode cX4_ask 25 = .ok (.invokevirtual 87, 3) := by decide +kernel
theorem dX4_ask_28 : decode cX4_ask 28 = .ok (.ifCond .eq 25, 3) := by decide +kernel
theorem dX4_ask_31 : decode cX4_ask 31 = .ok (.aload_n 0, 1) := by decide +kernel
theorem dX4_ask_32 : decode cX4_ask 32 = .ok (.iload_n 3, 1) := by decide +kernel
theorem dX4_ask_33 : decode cX4_ask 33 = .ok (.bipush (-9), 2) := by decide +kernel
theorem dX4_ask_35 : decode cX4_ask 35 = .ok (.invokevirtual 61, 3) := by decide +kernel
theorem dX4_ask_38 : decode cX4_ask 38 = .ok (.aload_n 0, 1) := by decide +kernel
theorem dX4_ask_39 : decode cX4_ask 39 = .ok (.iload_n 3, 1) := by decide +kernel
theorem dX4_ask_40 : decode cX4_ask 40 = .ok (.iload_n 2, 1) := by decide +kernel
theorem dX4_ask_41 : decode cX4_ask 41 = .ok (.invokevirtual 90, 3) := by decide +kernel
theorem dX4_ask_44 : decode cX4_ask 44 = .ok (.aload_n 0, 1) := by decide +kernel
theorem dX4_ask_45 : decode cX4_ask 45 = .ok (.iload_n 1, 1) := by decide +kernel
theorem dX4_ask_46 : decode cX4_ask 46 = .ok (.iload_n 2, 1) := by decide +kernel
theorem dX4_ask_47 : decode cX4_ask 47 = .ok (.invokevirtual 61, 3) := by decide +kernel
theorem dX4_ask_50 : decode cX4_ask 50 = .ok (.goto 9, 3) := by decide +kernel
theorem dX4_ask_53 : decode cX4_ask 53 = .ok (.aload_n 0, 1) := by decide +kernel
theorem dX4_ask_54 : decode cX4_ask 54 = .ok (.iload_n 1, 1) := by decide +kernel
theorem dX4_ask_55 : decode cX4_ask 55 = .ok (.iload_n 2, 1) := by decide +kernel
theorem dX4_ask_56 : decode cX4_ask 56 = .ok (.invokevirtual 90, 3) := by decide +kernel
theorem dX4_ask_59 : decode cX4_ask 59 = .ok (.return_, 1) := by decide +kernel
theorem dX4_throwerWith_0 : decode cX4_throwerWith 0 = .ok (.iconst 0, 1) := by decide +kernel
theorem dX4_throwerWith_1 : decode cX4_throwerWith 1 = .ok (.istore_n 2, 1) := by decide +kernel
theorem dX4_throwerWith_2 : decode cX4_throwerWith 2 = .ok (.iload_n 2, 1) := by decide +kernel
theorem dX4_throwerWith_3 : decode cX4_throwerWith 3 = .ok (.aload_n 0, 1) := by decide +kernel
theorem dX4_throwerWith_4 : decode cX4_throwerWith 4 = .ok (.getfield 27, 3) := by decide +kernel
theorem dX4_throwerWith_7 : decode cX4_throwerWith 7 = .ok (.if_icmp .ge 20, 3) := by decide +kernel
theorem dX4_throwerWith_10 : decode cX4_throwerWith 10 = .ok (.aload_n 0, 1) := by decide +kernel
theorem dX4_throwerWith_11 : decode cX4_throwerWith 11 = .ok (.iload_n 2, 1) := by decide +kernel
theorem dX4_throwerWith_12 : decode cX4_throwerWith 12 = .ok (.invokevirtual 42, 3) := by decide +kernel
theorem dX4_throwerWith_15 : decode cX4_throwerWith 15 = .ok (.iload_n 1, 1) := by decide +kernel
theorem dX4_throwerWith_16 : decode cX4_throwerWith 16 = .ok (.if_icmp .ne 5, 3) := by decide +kernel
theorem dX4_throwerWith_19 : decode cX4_throwerWith 19 = .ok (.iload_n 2, 1) := by decide +kernel
theorem dX4_throwerWith_20 : decode cX4_throwerWith 20 = .ok (.ireturn, 1) := by decide +kernel
theorem dX4_throwerWith_21 : decode cX4_throwerWith 21 = .ok (.iinc 2 1, 3) := by decide +kernel
theorem dX4_throwerWith_24 : decode cX4_throwerWith 24 = .ok (.goto (-22), 3) := by decide +kernel
theorem dX4_throwerWith_27 : decode cX4_throwerWith 27 = .ok (.bipush (-9), 2) := by decide +kernel
theorem dX4_throwerWith_29 : decode cX4_throwerWith 29 = .ok (.ireturn, 1) := by decide +kernel
theorem dX4_wouldRather_0 : decode cX4_wouldRather 0 = .ok (.aload_n 0, 1) := by decide +kernel
theorem dX4_wouldRather_1 : decode cX4_wouldRather 1 = .ok (.iload_n 2, 1) := by decide +kernel
theorem dX4_wouldRather_2 : decode cX4_wouldRather 2 = .ok (.iload_n 1, 1) := by decide +kernel
theorem dX4_wouldRather_3 : decode cX4_wouldRather 3 = .ok (.invokevirtual 46, 3) := by decide +kernel
theorem dX4_wouldRather_6 : decode cX4_wouldRather 6 = .ok (.istore 4, 2) := by decide +kernel
theorem dX4_wouldRather_8 : decode cX4_wouldRather 8 = .ok (.aload_n 0, 1) := by decide +kernel
theorem dX4_wouldRather_9 : decode cX4_wouldRather 9 = .ok (.iload_n 3, 1) := by decide +kernel
theorem dX4_wouldRather_10 : decode cX4_wouldRather 10 = .ok (.iload_n 1, 1) := by decide +kernel
theorem dX4_wouldRather_11 : decode cX4_wouldRather 11 = .ok (.invokevirtual 46, 3) := by decide +kernel
theorem dX4_wouldRather_14 : decode cX4_wouldRather 14 = .ok (.istore 5, 2) := by decide +kernel
theorem dX4_wouldRather_16 : decode cX4_wouldRather 16 = .ok (.iload 4, 2) := by decide +kernel
theorem dX4_wouldRather_18 : decode cX4_wouldRather 18 = .ok (.iload 5, 2) := by decide +kernel
theorem dX4_wouldRather_20 : decode cX4_wouldRather 20 = .ok (.if_icmp .lt 15, 3) := by decide +kernel
theorem dX4_wouldRather_23 : decode cX4_wouldRather 23 = .ok (.iload 4, 2) := by decide +kernel
theorem dX4_wouldRather_25 : decode cX4_wouldRather 25 = .ok (.iload 5, 2) := by decide +kernel
theorem dX4_wouldRather_27 : decode cX4_wouldRather 27 = .ok (.if_icmp .ne 12, 3) := by decide +kernel
theorem dX4_wouldRather_30 : decode cX4_wouldRather 30 = .ok (.iload_n 2, 1) := by decide +kernel
theorem dX4_wouldRather_31 : decode cX4_wouldRather 31 = .ok (.iload_n 3, 1) := by decide +kernel
theorem dX4_wouldRather_32 : decode cX4_wouldRather 32 = .ok (.if_icmp .ge 7, 3) := by decide +kernel
theorem dX4_wouldRather_35 : decode cX4_wouldRather 35 = .ok (.iconst 1, 1) := by decide +kernel
theorem dX4_wouldRather_36 : decode cX4_wouldRather 36 = .ok (.goto 4, 3) := by decide +kernel
theorem dX4_wouldRather_39 : decode cX4_wouldRather 39 = .ok (.iconst 0, 1) := by decide +kernel
theorem dX4_wouldRather_40 : decode cX4_wouldRather 40 = .ok (.ireturn, 1) := by decide +kernel
theorem dX4_isRefused_0 : decode cX4_isRefused 0 = .ok (.iload_n 1, 1) := by decide +kernel
theorem dX4_isRefused_1 : decode cX4_isRefused 1 = .ok (.ifCond .lt 26, 3) := by decide +kernel
theorem dX4_isRefused_4 : decode cX4_isRefused 4 = .ok (.iload_n 1, 1) := by decide +kernel
theorem dX4_isRefused_5 : decode cX4_isRefused 5 = .ok (.aload_n 0, 1) := by decide +kernel
theorem dX4_isRefused_6 : decode cX4_isRefused 6 = .ok (.getfield 21, 3) := by decide +kernel
theorem dX4_isRefused_9 : decode cX4_isRefused 9 = .ok (.arraylength, 1) := by decide +kernel
theorem dX4_isRefused_10 : decode cX4_isRefused 10 = .ok (.if_icmp .ge 17, 3) := by decide +kernel
theorem dX4_isRefused_13 : decode cX4_isRefused 13 = .ok (.aload_n 0, 1) := by decide +kernel
theorem dX4_isRefused_14 : decode cX4_isRefused 14 = .ok (.getfield 21, 3) := by decide +kernel
theorem dX4_isRefused_17 : decode cX4_isRefused 17 = .ok (.iload_n 1, 1) := by decide +kernel
theorem dX4_isRefused_18 : decode cX4_isRefused 18 = .ok (.iaload, 1) := by decide +kernel
theorem dX4_isRefused_19 : decode cX4_isRefused 19 = .ok (.iload_n 2, 1) := by decide +kernel
theorem dX4_isRefused_20 : decode cX4_isRefused 20 = .ok (.ishr, 1) := by decide +kernel
theorem dX4_isRefused_21 : decode cX4_isRefused 21 = .ok (.iconst 1, 1) := by decide +kernel
theorem dX4_isRefused_22 : decode cX4_isRefused 22 = .ok (.iand, 1) := by decide +kernel
theorem dX4_isRefused_23 : decode cX4_isRefused 23 = .ok (.iconst 1, 1) := by decide +kernel
theorem dX4_isRefused_24 : decode cX4_isRefused 24 = .ok (.if_icmp .ne 7, 3) := by decide +kernel
theorem dX4_isRefused_27 : decode cX4_isRefused 27 = .ok (.iconst 1, 1) := by decide +kernel
theorem dX4_isRefused_28 : decode cX4_isRefused 28 = .ok (.goto 4, 3) := by decide +kernel
theorem dX4_isRefused_31 : decode cX4_isRefused 31 = .ok (.iconst 0, 1) := by decide +kernel
theorem dX4_isRefused_32 : decode cX4_isRefused 32 = .ok (.ireturn, 1) := by decide +kernel
theorem dX4_refuse_0 : decode cX4_refuse 0 = .ok (.iload_n 1, 1) := by decide +kernel
theorem dX4_refuse_1 : decode cX4_refuse 1 = .ok (.ifCond .lt 24, 3) := by decide +kernel
theorem dX4_refuse_4 : decode cX4_refuse 4 = .ok (.iload_n 1, 1) := by decide +kernel
theorem dX4_refuse_5 : decode cX4_refuse 5 = .ok (.aload_n 0, 1) := by decide +kernel
theorem dX4_refuse_6 : decode cX4_refuse 6 = .ok (.getfield 21, 3) := by decide +kernel
theorem dX4_refuse_9 : decode cX4_refuse 9 = .ok (.arraylength, 1) := by decide +kernel
theorem dX4_refuse_10 : decode cX4_refuse 10 = .ok (.if_icmp .ge 15, 3) := by decide +kernel
theorem dX4_refuse_13 : decode cX4_refuse 13 = .ok (.aload_n 0, 1) := by decide +kernel
theorem dX4_refuse_14 : decode cX4_refuse 14 = .ok (.getfield 21, 3) := by decide +kernel
theorem dX4_refuse_17 : decode cX4_refuse 17 = .ok (.iload_n 1, 1) := by decide +kernel
theorem dX4_refuse_18 : decode cX4_refuse 18 = .ok (.dup2, 1) := by decide +kernel
theorem dX4_refuse_19 : decode cX4_refuse 19 = .ok (.iaload, 1) := by decide +kernel
theorem dX4_refuse_20 : decode cX4_refuse 20 = .ok (.iconst 1, 1) := by decide +kernel
theorem dX4_refuse_21 : decode cX4_refuse 21 = .ok (.iload_n 2, 1) := by decide +kernel
theorem dX4_refuse_22 : decode cX4_refuse 22 = .ok (.ishl, 1) := by decide +kernel
theorem dX4_refuse_23 : decode cX4_refuse 23 = .ok (.ior, 1) := by decide +kernel
theorem dX4_refuse_24 : decode cX4_refuse 24 = .ok (.iastore, 1) := by decide +kernel
theorem dX4_refuse_25 : decode cX4_refuse 25 = .ok (.return_, 1) := by decide +kernel
theorem dX5_init_0 : decode cX5_init 0 = .ok (.aload_n 0, 1) := by decide +kernel
theorem dX5_init_1 : decode cX5_init 1 = .ok (.invokespecial 3, 3) := by decide +kernel
theorem dX5_init_4 : decode cX5_init 4 = .ok (.aload_n 0, 1) := by decide +kernel
theorem dX5_init_5 : decode cX5_init 5 = .ok (.bipush 8, 2) := by decide +kernel
theorem dX5_init_7 : decode cX5_init 7 = .ok (.newarray .int, 2) := by decide +kernel
theorem dX5_init_9 : decode cX5_init 9 = .ok (.putfield 9, 3) := by decide +kernel
theorem dX5_init_12 : decode cX5_init 12 = .ok (.aload_n 0, 1) := by decide +kernel
theorem dX5_init_13 : decode cX5_init 13 = .ok (.bipush 8, 2) := by decide +kernel
theorem dX5_init_15 : decode cX5_init 15 = .ok (.newarray .int, 2) := by decide +kernel
theorem dX5_init_17 : decode cX5_init 17 = .ok (.putfield 15, 3) := by decide +kernel
theorem dX5_init_20 : decode cX5_init 20 = .ok (.aload_n 0, 1) := by decide +kernel
theorem dX5_init_21 : decode cX5_init 21 = .ok (.bipush 8, 2) := by decide +kernel
theorem dX5_init_23 : decode cX5_init 23 = .ok (.newarray .int, 2) := by decide +kernel
theorem dX5_init_25 : decode cX5_init 25 = .ok (.putfield 18, 3) := by decide +kernel
theorem dX5_init_28 : decode cX5_init 28 = .ok (.return_, 1) := by decide +kernel
theorem dX5_isFull_0 : decode cX5_isFull 0 = .ok (.aload_n 0, 1) := by decide +kernel
theorem dX5_isFull_1 : decode cX5_isFull 1 = .ok (.getfield 21, 3) := by decide +kernel
theorem dX5_isFull_4 : decode cX5_isFull 4 = .ok (.bipush 8, 2) := by decide +kernel
theorem dX5_isFull_6 : decode cX5_isFull 6 = .ok (.if_icmp .lt 7, 3) := by decide +kernel
theorem dX5_isFull_9 : decode cX5_isFull 9 = .ok (.iconst 1, 1) := by decide +kernel
theorem dX5_isFull_10 : decode cX5_isFull 10 = .ok (.goto 4, 3) := by decide +kernel
theorem dX5_isFull_13 : decode cX5_isFull 13 = .ok (.iconst 0, 1) := by decide +kernel
theorem dX5_isFull_14 : decode cX5_isFull 14 = .ok (.ireturn, 1) := by decide +kernel
theorem dX5_take_0 : decode cX5_take 0 = .ok (.aload_n 0, 1) := by decide +kernel
theorem dX5_take_1 : decode cX5_take 1 = .ok (.getfield 21, 3) := by decide +kernel
theorem dX5_take_4 : decode cX5_take 4 = .ok (.istore 4, 2) := by decide +kernel
theorem dX5_take_6 : decode cX5_take 6 = .ok (.iload 4, 2) := by decide +kernel
theorem dX5_take_8 : decode cX5_take 8 = .ok (.ifCond .lt 44, 3) := by decide +kernel
theorem dX5_take_11 : decode cX5_take 11 = .ok (.iload 4, 2) := by decide +kernel
theorem dX5_take_13 : decode cX5_take 13 = .ok (.bipush 8, 2) := by decide +kernel
theorem dX5_take_15 : decode cX5_take 15 = .ok (.if_icmp .ge 37, 3) := by decide +kernel
theorem dX5_take_18 : decode cX5_take 18 = .ok (.aload_n 0, 1) := by decide +kernel
theorem dX5_take_19 : decode cX5_take 19 = .ok (.getfield 9, 3) := by decide +kernel
theorem dX5_take_22 : decode cX5_take 22 = .ok (.iload 4, 2) := by decide +kernel
theorem dX5_take_24 : decode cX5_take 24 = .ok (.iload_n 1, 1) := by decide +kernel
theorem dX5_take_25 : decode cX5_take 25 = .ok (.iastore, 1) := by decide +kernel
theorem dX5_take_26 : decode cX5_take 26 = .ok (.aload_n 0, 1) := by decide +kernel
theorem dX5_take_27 : decode cX5_take 27 = .ok (.getfield 15, 3) := by decide +kernel
theorem dX5_take_30 : decode cX5_take 30 = .ok (.iload 4, 2) := by decide +kernel
theorem dX5_take_32 : decode cX5_take 32 = .ok (.iload_n 2, 1) := by decide +kernel
theorem dX5_take_33 : decode cX5_take 33 = .ok (.iastore, 1) := by decide +kernel
theorem dX5_take_34 : decode cX5_take 34 = .ok (.aload_n 0, 1) := by decide +kernel
theorem dX5_take_35 : decode cX5_take 35 = .ok (.getfield 18, 3) := by decide +kernel
theorem dX5_take_38 : decode cX5_take 38 = .ok (.iload 4, 2) := by decide +kernel
theorem dX5_take_40 : decode cX5_take 40 = .ok (.iload_n 3, 1) := by decide +kernel
theorem dX5_take_41 : decode cX5_take 41 = .ok (.iastore, 1) := by decide +kernel
theorem dX5_take_42 : decode cX5_take 42 = .ok (.aload_n 0, 1) := by decide +kernel
theorem dX5_take_43 : decode cX5_take 43 = .ok (.dup, 1) := by decide +kernel
theorem dX5_take_44 : decode cX5_take 44 = .ok (.getfield 21, 3) := by decide +kernel
theorem dX5_take_47 : decode cX5_take 47 = .ok (.iconst 1, 1) := by decide +kernel
theorem dX5_take_48 : decode cX5_take 48 = .ok (.iadd, 1) := by decide +kernel
theorem dX5_take_49 : decode cX5_take 49 = .ok (.putfield 21, 3) := by decide +kernel
theorem dX5_take_52 : decode cX5_take 52 = .ok (.iload 4, 2) := by decide +kernel
theorem dX5_take_54 : decode cX5_take 54 = .ok (.ireturn, 1) := by decide +kernel
theorem dX5_throwerAt_0 : decode cX5_throwerAt 0 = .ok (.iload_n 1, 1) := by decide +kernel
theorem dX5_throwerAt_1 : decode cX5_throwerAt 1 = .ok (.ifCond .lt 12, 3) := by decide +kernel
theorem dX5_throwerAt_4 : decode cX5_throwerAt 4 = .ok (.iload_n 1, 1) := by decide +kernel
theorem dX5_throwerAt_5 : decode cX5_throwerAt 5 = .ok (.aload_n 0, 1) := by decide +kernel
theorem dX5_throwerAt_6 : decode cX5_throwerAt 6 = .ok (.getfield 9, 3) := by decide +kernel
theorem dX5_throwerAt_9 : decode cX5_throwerAt 9 = .ok (.arraylength, 1) := by decide +kernel
theorem dX5_throwerAt_10 : decode cX5_throwerAt 10 = .ok (.if_icmp .lt 8, 3) := by decide +kernel
theorem dX5_throwerAt_13 : decode cX5_throwerAt 13 = .ok (.bipush (-9), 2) := by decide +kernel
theorem dX5_throwerAt_15 : decode cX5_throwerAt 15 = .ok (.goto 9, 3) := by decide +kernel
theorem dX5_throwerAt_18 : decode cX5_throwerAt 18 = .ok (.aload_n 0, 1) := by decide +kernel
theorem dX5_throwerAt_19 : decode cX5_throwerAt 19 = .ok (.getfield 9, 3) := by decide +kernel
theorem dX5_throwerAt_22 : decode cX5_throwerAt 22 = .ok (.iload_n 1, 1) := by decide +kernel
theorem dX5_throwerAt_23 : decode cX5_throwerAt 23 = .ok (.iaload, 1) := by decide +kernel
theorem dX5_throwerAt_24 : decode cX5_throwerAt 24 = .ok (.ireturn, 1) := by decide +kernel
theorem dX5_girlAt_0 : decode cX5_girlAt 0 = .ok (.iload_n 1, 1) := by decide +kernel
theorem dX5_girlAt_1 : decode cX5_girlAt 1 = .ok (.ifCond .lt 12, 3) := by decide +kernel
theorem dX5_girlAt_4 : decode cX5_girlAt 4 = .ok (.iload_n 1, 1) := by decide +kernel
theorem dX5_girlAt_5 : decode cX5_girlAt 5 = .ok (.aload_n 0, 1) := by decide +kernel
theorem dX5_girlAt_6 : decode cX5_girlAt 6 = .ok (.getfield 15, 3) := by decide +kernel
theorem dX5_girlAt_9 : decode cX5_girlAt 9 = .ok (.arraylength, 1) := by decide +kernel
theorem dX5_girlAt_10 : decode cX5_girlAt 10 = .ok (.if_icmp .lt 8, 3) := by decide +kernel
theorem dX5_girlAt_13 : decode cX5_girlAt 13 = .ok (.bipush (-9), 2) := by decide +kernel
theorem dX5_girlAt_15 : decode cX5_girlAt 15 = .ok (.goto 9, 3) := by decide +kernel
theorem dX5_girlAt_18 : decode cX5_girlAt 18 = .ok (.aload_n 0, 1) := by decide +kernel
theorem dX5_girlAt_19 : decode cX5_girlAt 19 = .ok (.getfield 15, 3) := by decide +kernel
theorem dX5_girlAt_22 : decode cX5_girlAt 22 = .ok (.iload_n 1, 1) := by decide +kernel
theorem dX5_girlAt_23 : decode cX5_girlAt 23 = .ok (.iaload, 1) := by decide +kernel
theorem dX5_girlAt_24 : decode cX5_girlAt 24 = .ok (.ireturn, 1) := by decide +kernel
theorem dX5_nearAt_0 : decode cX5_nearAt 0 = .ok (.iload_n 1, 1) := by decide +kernel
theorem dX5_nearAt_1 : decode cX5_nearAt 1 = .ok (.ifCond .lt 12, 3) := by decide +kernel
theorem dX5_nearAt_4 : decode cX5_nearAt 4 = .ok (.iload_n 1, 1) := by decide +kernel
theorem dX5_nearAt_5 : decode cX5_nearAt 5 = .ok (.aload_n 0, 1) := by decide +kernel
theorem dX5_nearAt_6 : decode cX5_nearAt 6 = .ok (.getfield 18, 3) := by decide +kernel
theorem dX5_nearAt_9 : decode cX5_nearAt 9 = .ok (.arraylength, 1) := by decide +kernel
theorem dX5_nearAt_10 : decode cX5_nearAt 10 = .ok (.if_icmp .lt 8, 3) := by decide +kernel
theorem dX5_nearAt_13 : decode cX5_nearAt 13 = .ok (.bipush (-9), 2) := by decide +kernel
theorem dX5_nearAt_15 : decode cX5_nearAt 15 = .ok (.goto 9, 3) := by decide +kernel
theorem dX5_nearAt_18 : decode cX5_nearAt 18 = .ok (.aload_n 0, 1) := by decide +kernel
theorem dX5_nearAt_19 : decode cX5_nearAt 19 = .ok (.getfield 18, 3) := by decide +kernel
theorem dX5_nearAt_22 : decode cX5_nearAt 22 = .ok (.iload_n 1, 1) := by decide +kernel
theorem dX5_nearAt_23 : decode cX5_nearAt 23 = .ok (.iaload, 1) := by decide +kernel
theorem dX5_nearAt_24 : decode cX5_nearAt 24 = .ok (.ireturn, 1) := by decide +kernel
theorem dX6_init_0 : decode cX6_init 0 = .ok (.aload_n 0, 1) := by decide +kernel
theorem dX6_init_1 : decode cX6_init 1 = .ok (.invokespecial 3, 3) := by decide +kernel
theorem dX6_init_4 : decode cX6_init 4 = .ok (.aload_n 0, 1) := by decide +kernel
theorem dX6_init_5 : decode cX6_init 5 = .ok (.iload_n 1, 1) := by decide +kernel
theorem dX6_init_6 : decode cX6_init 6 = .ok (.putfield 9, 3) := by decide +kernel
theorem dX6_init_9 : decode cX6_init 9 = .ok (.aload_n 0, 1) := by decide +kernel
theorem dX6_init_10 : decode cX6_init 10 = .ok (.iload_n 2, 1) := by decide +kernel
theorem dX6_init_11 : decode cX6_init 11 = .ok (.putfield 15, 3) := by decide +kernel
theorem dX6_init_14 : decode cX6_init 14 = .ok (.return_, 1) := by decide +kernel
theorem dX6_kind_0 : decode cX6_kind 0 = .ok (.iconst 0, 1) := by decide +kernel
theorem dX6_kind_1 : decode cX6_kind 1 = .ok (.ireturn, 1) := by decide +kernel
theorem dX6_reach_0 : decode cX6_reach 0 = .ok (.aload_n 0, 1) := by decide +kernel
theorem dX6_reach_1 : decode cX6_reach 1 = .ok (.invokevirtual 18, 3) := by decide +kernel
theorem dX6_reach_4 : decode cX6_reach 4 = .ok (.aload_n 0, 1) := by decide +kernel
theorem dX6_reach_5 : decode cX6_reach 5 = .ok (.getfield 15, 3) := by decide +kernel
theorem dX6_reach_8 : decode cX6_reach 8 = .ok (.invokestatic 22, 3) := by decide +kernel
theorem dX6_reach_11 : decode cX6_reach 11 = .ok (.ireturn, 1) := by decide +kernel
theorem dX6_telling_0 : decode cX6_telling 0 = .ok (.aload_n 0, 1) := by decide +kernel
theorem dX6_telling_1 : decode cX6_telling 1 = .ok (.aload_n 1, 1) := by decide +kernel
theorem dX6_telling_2 : decode cX6_telling 2 = .ok (.invokevirtual 26, 3) := by decide +kernel
theorem dX6_telling_5 : decode cX6_telling 5 = .ok (.ireturn, 1) := by decide +kernel
theorem dX6_plainTelling_0 : decode cX6_plainTelling 0 = .ok (.aload_n 1, 1) := by decide +kernel
theorem dX6_plainTelling_1 : decode cX6_plainTelling 1 = .ok (.iconst 1, 1) := by decide +kernel
theorem dX6_plainTelling_2 : decode cX6_plainTelling 2 = .ok (.invokevirtual 30, 3) := by decide +kernel
theorem dX6_plainTelling_5 : decode cX6_plainTelling 5 = .ok (.aload_n 0, 1) := by decide +kernel
theorem dX6_plainTelling_6 : decode cX6_plainTelling 6 = .ok (.getfield 15, 3) := by decide +kernel
theorem dX6_plainTelling_9 : decode cX6_plainTelling 9 = .ok (.ireturn, 1) := by decide +kernel
theorem dX6_cheering_0 : decode cX6_cheering 0 = .ok (.aload_n 1, 1) := by decide +kernel
theorem dX6_cheering_1 : decode cX6_cheering 1 = .ok (.iconst 4, 1) := by decide +kernel
theorem dX6_cheering_2 : decode cX6_cheering 2 = .ok (.invokevirtual 30, 3) := by decide +kernel
theorem dX6_cheering_5 : decode cX6_cheering 5 = .ok (.aload_n 0, 1) := by decide +kernel
theorem dX6_cheering_6 : decode cX6_cheering 6 = .ok (.getfield 9, 3) := by decide +kernel
theorem dX6_cheering_9 : decode cX6_cheering 9 = .ok (.ireturn, 1) := by decide +kernel
theorem dX7_init_0 : decode cX7_init 0 = .ok (.aload_n 0, 1) := by decide +kernel
theorem dX7_init_1 : decode cX7_init 1 = .ok (.invokespecial 3, 3) := by decide +kernel
theorem dX7_init_4 : decode cX7_init 4 = .ok (.aload_n 0, 1) := by decide +kernel
theorem dX7_init_5 : decode cX7_init 5 = .ok (.iconst (-1), 1) := by decide +kernel
theorem dX7_init_6 : decode cX7_init 6 = .ok (.putfield 11, 3) := by decide +kernel
theorem dX7_init_9 : decode cX7_init 9 = .ok (.aload_n 0, 1) := by decide +kernel
theorem dX7_init_10 : decode cX7_init 10 = .ok (.bipush 60, 2) := by decide +kernel
theorem dX7_init_12 : decode cX7_init 12 = .ok (.newarray .int, 2) := by decide +kernel
theorem dX7_init_14 : decode cX7_init 14 = .ok (.putfield 15, 3) := by decide +kernel
theorem dX7_init_17 : decode cX7_init 17 = .ok (.return_, 1) := by decide +kernel
theorem dX7_hasNothing_0 : decode cX7_hasNothing 0 = .ok (.aload_n 0, 1) := by decide +kernel
theorem dX7_hasNothing_1 : decode cX7_hasNothing 1 = .ok (.getfield 11, 3) := by decide +kernel
theorem dX7_hasNothing_4 : decode cX7_hasNothing 4 = .ok (.iconst (-1), 1) := by decide +kernel
theorem dX7_hasNothing_5 : decode cX7_hasNothing 5 = .ok (.if_icmp .ne 7, 3) := by decide +kernel
theorem dX7_hasNothing_8 : decode cX7_hasNothing 8 = .ok (.iconst 1, 1) := by decide +kernel
theorem dX7_hasNothing_9 : decode cX7_hasNothing 9 = .ok (.goto 4, 3) := by decide +kernel
theorem dX7_hasNothing_12 : decode cX7_hasNothing 12 = .ok (.iconst 0, 1) := by decide +kernel
theorem dX7_hasNothing_13 : decode cX7_hasNothing 13 = .ok (.ireturn, 1) := by decide +kernel
theorem dX7_forget_0 : decode cX7_forget 0 = .ok (.aload_n 0, 1) := by decide +kernel
theorem dX7_forget_1 : decode cX7_forget 1 = .ok (.iconst (-1), 1) := by decide +kernel
theorem dX7_forget_2 : decode cX7_forget 2 = .ok (.putfield 11, 3) := by decide +kernel
theorem dX7_forget_5 : decode cX7_forget 5 = .ok (.aload_n 0, 1) := by decide +kernel
theorem dX7_forget_6 : decode cX7_forget 6 = .ok (.iconst 0, 1) := by decide +kernel
theorem dX7_forget_7 : decode cX7_forget 7 = .ok (.putfield 19, 3) := by decide +kernel
theorem dX7_forget_10 : decode cX7_forget 10 = .ok (.return_, 1) := by decide +kernel
theorem dX7_renew_0 : decode cX7_renew 0 = .ok (.aload_n 0, 1) := by decide +kernel
theorem dX7_renew_1 : decode cX7_renew 1 = .ok (.iload_n 1, 1) := by decide +kernel
theorem dX7_renew_2 : decode cX7_renew 2 = .ok (.putfield 11, 3) := by decide +kernel
theorem dX7_renew_5 : decode cX7_renew 5 = .ok (.aload_n 0, 1) := by decide +kernel
theorem dX7_renew_6 : decode cX7_renew 6 = .ok (.iload_n 2, 1) := by decide +kernel
theorem dX7_renew_7 : decode cX7_renew 7 = .ok (.putfield 19, 3) := by decide +kernel
theorem dX7_renew_10 : decode cX7_renew 10 = .ok (.iconst 0, 1) := by decide +kernel
theorem dX7_renew_11 : decode cX7_renew 11 = .ok (.istore_n 3, 1) := by decide +kernel
theorem dX7_renew_12 : decode cX7_renew 12 = .ok (.iload_n 3, 1) := by decide +kernel
theorem dX7_renew_13 : decode cX7_renew 13 = .ok (.aload_n 0, 1) := by decide +kernel
theorem dX7_renew_14 : decode cX7_renew 14 = .ok (.getfield 15, 3) := by decide +kernel
theorem dX7_renew_17 : decode cX7_renew 17 = .ok (.arraylength, 1) := by decide +kernel
theorem dX7_renew_18 : decode cX7_renew 18 = .ok (.if_icmp .ge 16, 3) := by decide +kernel
theorem dX7_renew_21 : decode cX7_renew 21 = .ok (.aload_n 0, 1) := by decide +kernel
theorem dX7_renew_22 : decode cX7_renew 22 = .ok (.getfield 15, 3) := by decide +kernel
theorem dX7_renew_25 : decode cX7_renew 25 = .ok (.iload_n 3, 1) := by decide +kernel
theorem dX7_renew_26 : decode cX7_renew 26 = .ok (.iconst 0, 1) := by decide +kernel
theorem dX7_renew_27 : decode cX7_renew 27 = .ok (.iastore, 1) := by decide +kernel
theorem dX7_renew_28 : decode cX7_renew 28 = .ok (.iinc 3 1, 3) := by decide +kernel
theorem dX7_renew_31 : decode cX7_renew 31 = .ok (.goto (-19), 3) := by decide +kernel
theorem dX7_renew_34 : decode cX7_renew 34 = .ok (.return_, 1) := by decide +kernel
theorem dX7_faultAs_0 : decode cX7_faultAs 0 = .ok (.aload_n 0, 1) := by decide +kernel
theorem dX7_faultAs_1 : decode cX7_faultAs 1 = .ok (.invokevirtual 22, 3) := by decide +kernel
theorem dX7_faultAs_4 : decode cX7_faultAs 4 = .ok (.ifCond .eq 5, 3) := by decide +kernel
theorem dX7_faultAs_7 : decode cX7_faultAs 7 = .ok (.iconst 1, 1) := by decide +kernel
theorem dX7_faultAs_8 : decode cX7_faultAs 8 = .ok (.ireturn, 1) := by decide +kernel
theorem dX7_faultAs_9 : decode cX7_faultAs 9 = .ok (.aload_n 0, 1) := by decide +kernel
theorem dX7_faultAs_10 : decode cX7_faultAs 10 = .ok (.getfield 11, 3) := by decide +kernel
theorem dX7_faultAs_13 : decode cX7_faultAs 13 = .ok (.iload_n 1, 1) := by decide +kernel
theorem dX7_faultAs_14 : decode cX7_faultAs 14 = .ok (.if_icmp .ne 7, 3) := by decide +kernel
theorem dX7_faultAs_17 : decode cX7_faultAs 17 = .ok (.iconst 0, 1) := by decide +kernel
theorem dX7_faultAs_18 : decode cX7_faultAs 18 = .ok (.goto 4, 3) := by decide +kernel
theorem dX7_faultAs_21 : decode cX7_faultAs 21 = .ok (.iconst 2, 1) := by decide +kernel
theorem dX7_faultAs_22 : decode cX7_faultAs 22 = .ok (.ireturn, 1) := by decide +kernel
theorem dX7_hasCell_0 : decode cX7_hasCell 0 = .ok (.iload_n 1, 1) := by decide +kernel
theorem dX7_hasCell_1 : decode cX7_hasCell 1 = .ok (.ifCond .lt 15, 3) := by decide +kernel
theorem dX7_hasCell_4 : decode cX7_hasCell 4 = .ok (.iload_n 1, 1) := by decide +kernel
theorem dX7_hasCell_5 : decode cX7_hasCell 5 = .ok (.aload_n 0, 1) := by decide +kernel
theorem dX7_hasCell_6 : decode cX7_hasCell 6 = .ok (.getfield 19, 3) := by decide +kernel
theorem dX7_hasCell_9 : decode cX7_hasCell 9 = .ok (.if_icmp .ge 7, 3) := by decide +kernel
theorem dX7_hasCell_12 : decode cX7_hasCell 12 = .ok (.iconst 1, 1) := by decide +kernel
theorem dX7_hasCell_13 : decode cX7_hasCell 13 = .ok (.goto 4, 3) := by decide +kernel
theorem dX7_hasCell_16 : decode cX7_hasCell 16 = .ok (.iconst 0, 1) := by decide +kernel
theorem dX7_hasCell_17 : decode cX7_hasCell 17 = .ok (.ireturn, 1) := by decide +kernel
theorem dX7_reaches_0 : decode cX7_reaches 0 = .ok (.iload_n 1, 1) := by decide +kernel
theorem dX7_reaches_1 : decode cX7_reaches 1 = .ok (.ifCond .lt 29, 3) := by decide +kernel
theorem dX7_reaches_4 : decode cX7_reaches 4 = .ok (.iload_n 1, 1) := by decide +kernel
theorem dX7_reaches_5 : decode cX7_reaches 5 = .ok (.aload_n 0, 1) := by decide +kernel
theorem dX7_reaches_6 : decode cX7_reaches 6 = .ok (.getfield 19, 3) := by decide +kernel
theorem dX7_reaches_9 : decode cX7_reaches 9 = .ok (.if_icmp .gt 21, 3) := by decide +kernel
theorem dX7_reaches_12 : decode cX7_reaches 12 = .ok (.iload_n 2, 1) := by decide +kernel
theorem dX7_reaches_13 : decode cX7_reaches 13 = .ok (.ifCond .lt 17, 3) := by decide +kernel
theorem dX7_reaches_16 : decode cX7_reaches 16 = .ok (.iload_n 2, 1) := by decide +kernel
theorem dX7_reaches_17 : decode cX7_reaches 17 = .ok (.aload_n 0, 1) := by decide +kernel
theorem dX7_reaches_18 : decode cX7_reaches 18 = .ok (.getfield 19, 3) := by decide +kernel
theorem dX7_reaches_21 : decode cX7_reaches 21 = .ok (.iload_n 1, 1) := by decide +kernel
theorem dX7_reaches_22 : decode cX7_reaches 22 = .ok (.isub, 1) := by decide +kernel
theorem dX7_reaches_23 : decode cX7_reaches 23 = .ok (.if_icmp .gt 7, 3) := by decide +kernel
theorem dX7_reaches_26 : decode cX7_reaches 26 = .ok (.iconst 1, 1) := by decide +kernel
theorem dX7_reaches_27 : decode cX7_reaches 27 = .ok (.goto 4, 3) := by decide +kernel
theorem dX7_reaches_30 : decode cX7_reaches 30 = .ok (.iconst 0, 1) := by decide +kernel
theorem dX7_reaches_31 : decode cX7_reaches 31 = .ok (.ireturn, 1) := by decide +kernel
theorem dX7_at_0 : decode cX7_at 0 = .ok (.aload_n 0, 1) := by decide +kernel
theorem dX7_at_1 : decode cX7_at 1 = .ok (.iload_n 1, 1) := by decide +kernel
theorem dX7_at_2 : decode cX7_at 2 = .ok (.invokevirtual 26, 3) := by decide +kernel
theorem dX7_at_5 : decode cX7_at 5 = .ok (.ifCond .eq 21, 3) := by decide +kernel
theorem dX7_at_8 : decode cX7_at 8 = .ok (.iload_n 1, 1) := by decide +kernel
theorem dX7_at_9 : decode cX7_at 9 = .ok (.aload_n 0, 1) := by decide +kernel
theorem dX7_at_10 : decode cX7_at 10 = .ok (.getfield 15, 3) := by decide +kernel
theorem dX7_at_13 : decode cX7_at 13 = .ok (.arraylength, 1) := by decide +kernel
theorem dX7_at_14 : decode cX7_at 14 = .ok (.if_icmp .ge 12, 3) := by decide +kernel
theorem dX7_at_17 : decode cX7_at 17 = .ok (.aload_n 0, 1) := by decide +kernel
theorem dX7_at_18 : decode cX7_at 18 = .ok (.getfield 15, 3) := by decide +kernel
theorem dX7_at_21 : decode cX7_at 21 = .ok (.iload_n 1, 1) := by decide +kernel
theorem dX7_at_22 : decode cX7_at 22 = .ok (.iaload, 1) := by decide +kernel
theorem dX7_at_23 : decode cX7_at 23 = .ok (.goto 4, 3) := by decide +kernel
theorem dX7_at_26 : decode cX7_at 26 = .ok (.iconst 0, 1) := by decide +kernel
theorem dX7_at_27 : decode cX7_at 27 = .ok (.ireturn, 1) := by decide +kernel
theorem dX7_store_0 : decode cX7_store 0 = .ok (.aload_n 0, 1) := by decide +kernel
theorem dX7_store_1 : decode cX7_store 1 = .ok (.iload_n 1, 1) := by decide +kernel
theorem dX7_store_2 : decode cX7_store 2 = .ok (.invokevirtual 26, 3) := by decide +kernel
theorem dX7_store_5 : decode cX7_store 5 = .ok (.ifCond .eq 23, 3) := by decide +kernel
theorem dX7_store_8 : decode cX7_store 8 = .ok (.iload_n 1, 1) := by decide +kernel
theorem dX7_store_9 : decode cX7_store 9 = .ok (.aload_n 0, 1) := by decide +kernel
theorem dX7_store_10 : decode cX7_store 10 = .ok (.getfield 15, 3) := by decide +kernel
theorem dX7_store_13 : decode cX7_store 13 = .ok (.arraylength, 1) := by decide +kernel
theorem dX7_store_14 : decode cX7_store 14 = .ok (.if_icmp .ge 14, 3) := by decide +kernel
theorem dX7_store_17 : decode cX7_store 17 = .ok (.aload_n 0, 1) := by decide +kernel
theorem dX7_store_18 : decode cX7_store 18 = .ok (.getfield 15, 3) := by decide +kernel
theorem dX7_store_21 : decode cX7_store 21 = .ok (.iload_n 1, 1) := by decide +kernel
theorem dX7_store_22 : decode cX7_store 22 = .ok (.aload_n 0, 1) := by decide +kernel
theorem dX7_store_23 : decode cX7_store 23 = .ok (.iload_n 2, 1) := by decide +kernel
theorem dX7_store_24 : decode cX7_store 24 = .ok (.invokevirtual 30, 3) := by decide +kernel
theorem dX7_store_27 : decode cX7_store 27 = .ok (.iastore, 1) := by decide +kernel
theorem dX7_store_28 : decode cX7_store 28 = .ok (.return_, 1) := by decide +kernel
theorem dX7_cut_0 : decode cX7_cut 0 = .ok (.aload_n 0, 1) := by decide +kernel
theorem dX7_cut_1 : decode cX7_cut 1 = .ok (.getfield 11, 3) := by decide +kernel
theorem dX7_cut_4 : decode cX7_cut 4 = .ok (.lookupswitch 34 #[(0, 28), (1, 31)], 28) := by decide +kernel
theorem dX7_cut_32 : decode cX7_cut 32 = .ok (.iload_n 1, 1) := by decide +kernel
theorem dX7_cut_33 : decode cX7_cut 33 = .ok (.i2b, 1) := by decide +kernel
theorem dX7_cut_34 : decode cX7_cut 34 = .ok (.ireturn, 1) := by decide +kernel
theorem dX7_cut_35 : decode cX7_cut 35 = .ok (.iload_n 1, 1) := by decide +kernel
theorem dX7_cut_36 : decode cX7_cut 36 = .ok (.i2s, 1) := by decide +kernel
theorem dX7_cut_37 : decode cX7_cut 37 = .ok (.ireturn, 1) := by decide +kernel
theorem dX7_cut_38 : decode cX7_cut 38 = .ok (.iload_n 1, 1) := by decide +kernel
theorem dX7_cut_39 : decode cX7_cut 39 = .ok (.ireturn, 1) := by decide +kernel
theorem dX7_takeCells_0 : decode cX7_takeCells 0 = .ok (.iload_n 2, 1) := by decide +kernel
theorem dX7_takeCells_1 : decode cX7_takeCells 1 = .ok (.iload_n 3, 1) := by decide +kernel
theorem dX7_takeCells_2 : decode cX7_takeCells 2 = .ok (.if_icmp .ge 39, 3) := by decide +kernel
theorem dX7_takeCells_5 : decode cX7_takeCells 5 = .ok (.iload 4, 2) := by decide +kernel
theorem dX7_takeCells_7 : decode cX7_takeCells 7 = .ok (.iconst 1, 1) := by decide +kernel
theorem dX7_takeCells_8 : decode cX7_takeCells 8 = .ok (.isub, 1) := by decide +kernel
theorem dX7_takeCells_9 : decode cX7_takeCells 9 = .ok (.istore 5, 2) := by decide +kernel
theorem dX7_takeCells_11 : decode cX7_takeCells 11 = .ok (.iload 5, 2) := by decide +kernel
theorem dX7_takeCells_13 : decode cX7_takeCells 13 = .ok (.ifCond .lt 25, 3) := by decide +kernel
theorem dX7_takeCells_16 : decode cX7_takeCells 16 = .ok (.aload_n 0, 1) := by decide +kernel
theorem dX7_takeCells_17 : decode cX7_takeCells 17 = .ok (.iload_n 3, 1) := by decide +kernel
theorem dX7_takeCells_18 : decode cX7_takeCells 18 = .ok (.iload 5, 2) := by decide +kernel
theorem dX7_takeCells_20 : decode cX7_takeCells 20 = .ok (.iadd, 1) := by decide +kernel
theorem dX7_takeCells_21 : decode cX7_takeCells 21 = .ok (.aload_n 1, 1) := by decide +kernel
theorem dX7_takeCells_22 : decode cX7_takeCells 22 = .ok (.iload_n 2, 1) := by decide +kernel
theorem dX7_takeCells_23 : decode cX7_takeCells 23 = .ok (.iload 5, 2) := by decide +kernel
theorem dX7_takeCells_25 : decode cX7_takeCells 25 = .ok (.iadd, 1) := by decide +kernel
theorem dX7_takeCells_26 : decode cX7_takeCells 26 = .ok (.invokevirtual 34, 3) := by decide +kernel
theorem dX7_takeCells_29 : decode cX7_takeCells 29 = .ok (.invokevirtual 37, 3) := by decide +kernel
theorem dX7_takeCells_32 : decode cX7_takeCells 32 = .ok (.iinc 5 (-1), 3) := by decide +kernel
theorem dX7_takeCells_35 : decode cX7_takeCells 35 = .ok (.goto (-24), 3) := by decide +kernel
theorem dX7_takeCells_38 : decode cX7_takeCells 38 = .ok (.goto 35, 3) := by decide +kernel
theorem dX7_takeCells_41 : decode cX7_takeCells 41 = .ok (.iconst 0, 1) := by decide +kernel
theorem dX7_takeCells_42 : decode cX7_takeCells 42 = .ok (.istore 5, 2) := by decide +kernel
theorem dX7_takeCells_44 : decode cX7_takeCells 44 = .ok (.iload 5, 2) := by decide +kernel
theorem dX7_takeCells_46 : decode cX7_takeCells 46 = .ok (.iload 4, 2) := by decide +kernel
theorem dX7_takeCells_48 : decode cX7_takeCells 48 = .ok (.if_icmp .ge 25, 3) := by decide +kernel
theorem dX7_takeCells_51 : decode cX7_takeCells 51 = .ok (.aload_n 0, 1) := by decide +kernel
theorem dX7_takeCells_52 : decode cX7_takeCells 52 = .ok (.iload_n 3, 1) := by decide +kernel
theorem dX7_takeCells_53 : decode cX7_takeCells 53 = .ok (.iload 5, 2) := by decide +kernel
theorem dX7_takeCells_55 : decode cX7_takeCells 55 = .ok (.iadd, 1) := by decide +kernel
theorem dX7_takeCells_56 : decode cX7_takeCells 56 = .ok (.aload_n 1, 1) := by decide +kernel
theorem dX7_takeCells_57 : decode cX7_takeCells 57 = .ok (.iload_n 2, 1) := by decide +kernel
theorem dX7_takeCells_58 : decode cX7_takeCells 58 = .ok (.iload 5, 2) := by decide +kernel
theorem dX7_takeCells_60 : decode cX7_takeCells 60 = .ok (.iadd, 1) := by decide +kernel
theorem dX7_takeCells_61 : decode cX7_takeCells 61 = .ok (.invokevirtual 34, 3) := by decide +kernel
theorem dX7_takeCells_64 : decode cX7_takeCells 64 = .ok (.invokevirtual 37, 3) := by decide +kernel
theorem dX7_takeCells_67 : decode cX7_takeCells 67 = .ok (.iinc 5 1, 3) := by decide +kernel
theorem dX7_takeCells_70 : decode cX7_takeCells 70 = .ok (.goto (-26), 3) := by decide +kernel
theorem dX7_takeCells_73 : decode cX7_takeCells 73 = .ok (.return_, 1) := by decide +kernel
theorem dX8_init_0 : decode cX8_init 0 = .ok (.aload_n 0, 1) := by decide +kernel
theorem dX8_init_1 : decode cX8_init 1 = .ok (.iload_n 1, 1) := by decide +kernel
theorem dX8_init_2 : decode cX8_init 2 = .ok (.iload_n 2, 1) := by decide +kernel
theorem dX8_init_3 : decode cX8_init 3 = .ok (.invokespecial 3, 3) := by decide +kernel
theorem dX8_init_6 : decode cX8_init 6 = .ok (.return_, 1) := by decide +kernel
theorem dX8_kind_0 : decode cX8_kind 0 = .ok (.iconst 2, 1) := by decide +kernel
theorem dX8_kind_1 : decode cX8_kind 1 = .ok (.ireturn, 1) := by decide +kernel
theorem dX8_telling_0 : decode cX8_telling 0 = .ok (.aload_n 1, 1) := by decide +kernel
theorem dX8_telling_1 : decode cX8_telling 1 = .ok (.iconst 3, 1) := by decide +kernel
theorem dX8_telling_2 : decode cX8_telling 2 = .ok (.invokevirtual 9, 3) := by decide +kernel
theorem dX8_telling_5 : decode cX8_telling 5 = .ok (.aload_n 0, 1) := by decide +kernel
theorem dX8_telling_6 : decode cX8_telling 6 = .ok (.aload_n 1, 1) := by decide +kernel
theorem dX8_telling_7 : decode cX8_telling 7 = .ok (.invokespecial 15, 3) := by decide +kernel
theorem dX8_telling_10 : decode cX8_telling 10 = .ok (.istore_n 2, 1) := by decide +kernel
theorem dX8_telling_11 : decode cX8_telling 11 = .ok (.iload_n 2, 1) := by decide +kernel
theorem dX8_telling_12 : decode cX8_telling 12 = .ok (.aload_n 0, 1) := by decide +kernel
theorem dX8_telling_13 : decode cX8_telling 13 = .ok (.aload_n 1, 1) := by decide +kernel
theorem dX8_telling_14 : decode cX8_telling 14 = .ok (.invokevirtual 19, 3) := by decide +kernel
theorem dX8_telling_17 : decode cX8_telling 17 = .ok (.iadd, 1) := by decide +kernel
theorem dX8_telling_18 : decode cX8_telling 18 = .ok (.ireturn, 1) := by decide +kernel
theorem dX8_cheering_0 : decode cX8_cheering 0 = .ok (.aload_n 1, 1) := by decide +kernel
theorem dX8_cheering_1 : decode cX8_cheering 1 = .ok (.iconst 5, 1) := by decide +kernel
theorem dX8_cheering_2 : decode cX8_cheering 2 = .ok (.invokevirtual 9, 3) := by decide +kernel
theorem dX8_cheering_5 : decode cX8_cheering 5 = .ok (.bipush 50, 2) := by decide +kernel
theorem dX8_cheering_7 : decode cX8_cheering 7 = .ok (.ireturn, 1) := by decide +kernel
theorem dX9_init_0 : decode cX9_init 0 = .ok (.aload_n 0, 1) := by decide +kernel
theorem dX9_init_1 : decode cX9_init 1 = .ok (.invokespecial 3, 3) := by decide +kernel
theorem dX9_init_4 : decode cX9_init 4 = .ok (.aload_n 0, 1) := by decide +kernel
theorem dX9_init_5 : decode cX9_init 5 = .ok (.iconst 4, 1) := by decide +kernel
theorem dX9_init_6 : decode cX9_init 6 = .ok (.newarray .int, 2) := by decide +kernel
theorem dX9_init_8 : decode cX9_init 8 = .ok (.putfield 9, 3) := by decide +kernel
theorem dX9_init_11 : decode cX9_init 11 = .ok (.aload_n 0, 1) := by decide +kernel
theorem dX9_init_12 : decode cX9_init 12 = .ok (.iconst 4, 1) := by decide +kernel
theorem dX9_init_13 : decode cX9_init 13 = .ok (.newarray .int, 2) := by decide +kernel
theorem dX9_init_15 : decode cX9_init 15 = .ok (.putfield 15, 3) := by decide +kernel
theorem dX9_init_18 : decode cX9_init 18 = .ok (.aload_n 0, 1) := by decide +kernel
theorem dX9_init_19 : decode cX9_init 19 = .ok (.iconst 5, 1) := by decide +kernel
theorem dX9_init_20 : decode cX9_init 20 = .ok (.newarray .int, 2) := by decide +kernel
theorem dX9_init_22 : decode cX9_init 22 = .ok (.putfield 18, 3) := by decide +kernel
theorem dX9_init_25 : decode cX9_init 25 = .ok (.aload_n 0, 1) := by decide +kernel
theorem dX9_init_26 : decode cX9_init 26 = .ok (.iconst 5, 1) := by decide +kernel
theorem dX9_init_27 : decode cX9_init 27 = .ok (.newarray .int, 2) := by decide +kernel
theorem dX9_init_29 : decode cX9_init 29 = .ok (.putfield 21, 3) := by decide +kernel
theorem dX9_init_32 : decode cX9_init 32 = .ok (.return_, 1) := by decide +kernel
theorem dX9_firstFault_0 : decode cX9_firstFault 0 = .ok (.aload_n 0, 1) := by decide +kernel
theorem dX9_firstFault_1 : decode cX9_firstFault 1 = .ok (.iconst 0, 1) := by decide +kernel
theorem dX9_firstFault_2 : decode cX9_firstFault 2 = .ok (.putfield 24, 3) := by decide +kernel
theorem dX9_firstFault_5 : decode cX9_firstFault 5 = .ok (.aload_n 0, 1) := by decide +kernel
theorem dX9_firstFault_6 : decode cX9_firstFault 6 = .ok (.iconst 0, 1) := by decide +kernel
theorem dX9_firstFault_7 : decode cX9_firstFault 7 = .ok (.putfield 28, 3) := by decide +kernel
theorem dX9_firstFault_10 : decode cX9_firstFault 10 = .ok (.aload_n 0, 1) := by decide +kernel
theorem dX9_firstFault_11 : decode cX9_firstFault 11 = .ok (.iconst 0, 1) := by decide +kernel
theorem dX9_firstFault_12 : decode cX9_firstFault 12 = .ok (.putfield 31, 3) := by decide +kernel
theorem dX9_firstFault_15 : decode cX9_firstFault 15 = .ok (.iconst 0, 1) := by decide +kernel
theorem dX9_firstFault_16 : decode cX9_firstFault 16 = .ok (.istore 4, 2) := by decide +kernel
theorem dX9_firstFault_18 : decode cX9_firstFault 18 = .ok (.iload 4, 2) := by decide +kernel
theorem dX9_firstFault_20 : decode cX9_firstFault 20 = .ok (.iload_n 3, 1) := by decide +kernel
theorem dX9_firstFault_21 : decode cX9_firstFault 21 = .ok (.if_icmp .ge 27, 3) := by decide +kernel
theorem dX9_firstFault_24 : decode cX9_firstFault 24 = .ok (.aload_n 0, 1) := by decide +kernel
theorem dX9_firstFault_25 : decode cX9_firstFault 25 = .ok (.aload_n 1, 1) := by decide +kernel
theorem dX9_firstFault_26 : decode cX9_firstFault 26 = .ok (.iload_n 2, 1) := by decide +kernel
theorem dX9_firstFault_27 : decode cX9_firstFault 27 = .ok (.iload 4, 2) := by decide +kernel
theorem dX9_firstFault_29 : decode cX9_firstFault 29 = .ok (.iadd, 1) := by decide +kernel
theorem dX9_firstFault_30 : decode cX9_firstFault 30 = .ok (.invokevirtual 34, 3) := by decide +kernel
theorem dX9_firstFault_33 : decode cX9_firstFault 33 = .ok (.invokevirtual 40, 3) := by decide +kernel
theorem dX9_firstFault_36 : decode cX9_firstFault 36 = .ok (.ifCond .ne 6, 3) := by decide +kernel
theorem dX9_firstFault_39 : decode cX9_firstFault 39 = .ok (.iload 4, 2) := by decide +kernel
theorem dX9_firstFault_41 : decode cX9_firstFault 41 = .ok (.ireturn, 1) := by decide +kernel
theorem dX9_firstFault_42 : decode cX9_firstFault 42 = .ok (.iinc 4 1, 3) := by decide +kernel
theorem dX9_firstFault_45 : decode cX9_firstFault 45 = .ok (.goto (-27), 3) := by decide +kernel
theorem dX9_firstFault_48 : decode cX9_firstFault 48 = .ok (.aload_n 0, 1) := by decide +kernel
theorem dX9_firstFault_49 : decode cX9_firstFault 49 = .ok (.getfield 24, 3) := by decide +kernel
theorem dX9_firstFault_52 : decode cX9_firstFault 52 = .ok (.bipush 7, 2) := by decide +kernel
theorem dX9_firstFault_54 : decode cX9_firstFault 54 = .ok (.if_icmp .ne 8, 3) := by decide +kernel
theorem dX9_firstFault_57 : decode cX9_firstFault 57 = .ok (.bipush (-9), 2) := by decide +kernel
theorem dX9_firstFault_59 : decode cX9_firstFault 59 = .ok (.goto 4, 3) := by decide +kernel
theorem dX9_firstFault_62 : decode cX9_firstFault 62 = .ok (.iload_n 3, 1) := by decide +kernel
theorem dX9_firstFault_63 : decode cX9_firstFault 63 = .ok (.ireturn, 1) := by decide +kernel
theorem dX9_goesOnWith_0 : decode cX9_goesOnWith 0 = .ok (.aload_n 0, 1) := by decide +kernel
theorem dX9_goesOnWith_1 : decode cX9_goesOnWith 1 = .ok (.getfield 24, 3) := by decide +kernel
theorem dX9_goesOnWith_4 : decode cX9_goesOnWith 4 = .ok (.tableswitch 112 0 6 #[44, 61, 70, 76, 85, 94, 103], 44) := by decide +kernel
theorem dX9_goesOnWith_48 : decode cX9_goesOnWith 48 = .ok (.aload_n 0, 1) := by decide +kernel
theorem dX9_goesOnWith_49 : decode cX9_goesOnWith 49 = .ok (.iconst 1, 1) := by decide +kernel
theorem dX9_goesOnWith_50 : decode cX9_goesOnWith 50 = .ok (.iload_n 1, 1) := by decide +kernel
theorem dX9_goesOnWith_51 : decode cX9_goesOnWith 51 = .ok (.bipush 113, 2) := by decide +kernel
theorem dX9_goesOnWith_53 : decode cX9_goesOnWith 53 = .ok (.if_icmp .ne 7, 3) := by decide +kernel
theorem dX9_goesOnWith_56 : decode cX9_goesOnWith 56 = .ok (.iconst 1, 1) := by decide +kernel
theorem dX9_goesOnWith_57 : decode cX9_goesOnWith 57 = .ok (.goto 4, 3) := by decide +kernel
theorem dX9_goesOnWith_60 : decode cX9_goesOnWith 60 = .ok (.iconst 0, 1) := by decide +kernel
theorem dX9_goesOnWith_61 : decode cX9_goesOnWith 61 = .ok (.invokevirtual 44, 3) := by decide +kernel
theorem dX9_goesOnWith_64 : decode cX9_goesOnWith 64 = .ok (.ireturn, 1) := by decide +kernel
theorem dX9_goesOnWith_65 : decode cX9_goesOnWith 65 = .ok (.aload_n 0, 1) := by decide +kernel
theorem dX9_goesOnWith_66 : decode cX9_goesOnWith 66 = .ok (.iload_n 1, 1) := by decide +kernel
theorem dX9_goesOnWith_67 : decode cX9_goesOnWith 67 = .ok (.invokestatic 48, 3) := by decide +kernel
theorem dX9_goesOnWith_70 : decode cX9_goesOnWith 70 = .ok (.invokevirtual 51, 3) := by decide +kernel
theorem dX9_goesOnWith_73 : decode cX9_goesOnWith 73 = .ok (.ireturn, 1) := by decide +kernel
theorem dX9_goesOnWith_74 : decode cX9_goesOnWith 74 = .ok (.aload_n 0, 1) := by decide +kernel
theorem dX9_goesOnWith_75 : decode cX9_goesOnWith 75 = .ok (.iload_n 1, 1) := by decide +kernel
theorem dX9_goesOnWith_76 : decode cX9_goesOnWith 76 = .ok (.invokevirtual 54, 3) := by decide +kernel
theorem dX9_goesOnWith_79 : decode cX9_goesOnWith 79 = .ok (.ireturn, 1) := by decide +kernel
theorem dX9_goesOnWith_80 : decode cX9_goesOnWith 80 = .ok (.aload_n 0, 1) := by decide +kernel
theorem dX9_goesOnWith_81 : decode cX9_goesOnWith 81 = .ok (.iload_n 1, 1) := by decide +kernel
theorem dX9_goesOnWith_82 : decode cX9_goesOnWith 82 = .ok (.invokestatic 48, 3) := by decide +kernel
theorem dX9_goesOnWith_85 : decode cX9_goesOnWith 85 = .ok (.invokevirtual 57, 3) := by decide +kernel
theorem dX9_goesOnWith_88 : decode cX9_goesOnWith 88 = .ok (.ireturn, 1) := by decide +kernel
theorem dX9_goesOnWith_89 : decode cX9_goesOnWith 89 = .ok (.aload_n 0, 1) := by decide +kernel
theorem dX9_goesOnWith_90 : decode cX9_goesOnWith 90 = .ok (.iload_n 1, 1) := by decide +kernel
theorem dX9_goesOnWith_91 : decode cX9_goesOnWith 91 = .ok (.invokestatic 48, 3) := by decide +kernel
theorem dX9_goesOnWith_94 : decode cX9_goesOnWith 94 = .ok (.invokevirtual 60, 3) := by decide +kernel
theorem dX9_goesOnWith_97 : decode cX9_goesOnWith 97 = .ok (.ireturn, 1) := by decide +kernel
theorem dX9_goesOnWith_98 : decode cX9_goesOnWith 98 = .ok (.aload_n 0, 1) := by decide +kernel
theorem dX9_goesOnWith_99 : decode cX9_goesOnWith 99 = .ok (.iload_n 1, 1) := by decide +kernel
theorem dX9_goesOnWith_100 : decode cX9_goesOnWith 100 = .ok (.invokestatic 63, 3) := by decide +kernel
theorem dX9_goesOnWith_103 : decode cX9_goesOnWith 103 = .ok (.invokevirtual 66, 3) := by decide +kernel
theorem dX9_goesOnWith_106 : decode cX9_goesOnWith 106 = .ok (.ireturn, 1) := by decide +kernel
theorem dX9_goesOnWith_107 : decode cX9_goesOnWith 107 = .ok (.aload_n 0, 1) := by decide +kernel
theorem dX9_goesOnWith_108 : decode cX9_goesOnWith 108 = .ok (.iload_n 1, 1) := by decide +kernel
theorem dX9_goesOnWith_109 : decode cX9_goesOnWith 109 = .ok (.invokestatic 48, 3) := by decide +kernel
theorem dX9_goesOnWith_112 : decode cX9_goesOnWith 112 = .ok (.invokevirtual 69, 3) := by decide +kernel
theorem dX9_goesOnWith_115 : decode cX9_goesOnWith 115 = .ok (.ireturn, 1) := by decide +kernel
theorem dX9_goesOnWith_116 : decode cX9_goesOnWith 116 = .ok (.aload_n 0, 1) := by decide +kernel
theorem dX9_goesOnWith_117 : decode cX9_goesOnWith 117 = .ok (.iconst 5, 1) := by decide +kernel
theorem dX9_goesOnWith_118 : decode cX9_goesOnWith 118 = .ok (.iload_n 1, 1) := by decide +kernel
theorem dX9_goesOnWith_119 : decode cX9_goesOnWith 119 = .ok (.bipush 59, 2) := by decide +kernel
theorem dX9_goesOnWith_121 : decode cX9_goesOnWith 121 = .ok (.if_icmp .ne 15, 3) := by decide +kernel
theorem dX9_goesOnWith_124 : decode cX9_goesOnWith 124 = .ok (.aload_n 0, 1) := by decide +kernel
theorem dX9_goesOnWith_125 : decode cX9_goesOnWith 125 = .ok (.getfield 31, 3) := by decide +kernel
theorem dX9_goesOnWith_128 : decode cX9_goesOnWith 128 = .ok (.iconst 5, 1) := by decide +kernel
theorem dX9_goesOnWith_129 : decode cX9_goesOnWith 129 = .ok (.if_icmp .ge 7, 3) := by decide +kernel
theorem dX9_goesOnWith_132 : decode cX9_goesOnWith 132 = .ok (.iconst 1, 1) := by decide +kernel
theorem dX9_goesOnWith_133 : decode cX9_goesOnWith 133 = .ok (.goto 4, 3) := by decide +kernel
theorem dX9_goesOnWith_136 : decode cX9_goesOnWith 136 = .ok (.iconst 0, 1) := by decide +kernel
theorem dX9_goesOnWith_137 : decode cX9_goesOnWith 137 = .ok (.invokevirtual 44, 3) := by decide +kernel
theorem dX9_goesOnWith_140 : decode cX9_goesOnWith 140 = .ok (.ireturn, 1) := by decide +kernel
theorem dX9_thenAwait_0 : decode cX9_thenAwait 0 = .ok (.aload_n 0, 1) := by decide +kernel
theorem dX9_thenAwait_1 : decode cX9_thenAwait 1 = .ok (.iload_n 1, 1) := by decide +kernel
theorem dX9_thenAwait_2 : decode cX9_thenAwait 2 = .ok (.putfield 24, 3) := by decide +kernel
theorem dX9_thenAwait_5 : decode cX9_thenAwait 5 = .ok (.iload_n 2, 1) := by decide +kernel
theorem dX9_thenAwait_6 : decode cX9_thenAwait 6 = .ok (.ireturn, 1) := by decide +kernel
theorem dX9_takesFrost_0 : decode cX9_takesFrost 0 = .ok (.aload_n 0, 1) := by decide +kernel
theorem dX9_takesFrost_1 : decode cX9_takesFrost 1 = .ok (.iload_n 1, 1) := by decide +kernel
theorem dX9_takesFrost_2 : decode cX9_takesFrost 2 = .ok (.putfield 72, 3) := by decide +kernel
theorem dX9_takesFrost_5 : decode cX9_takesFrost 5 = .ok (.aload_n 0, 1) := by decide +kernel
theorem dX9_takesFrost_6 : decode cX9_takesFrost 6 = .ok (.iconst 2, 1) := by decide +kernel
theorem dX9_takesFrost_7 : decode cX9_takesFrost 7 = .ok (.iload_n 1, 1) := by decide +kernel
theorem dX9_takesFrost_8 : decode cX9_takesFrost 8 = .ok (.iconst 0, 1) := by decide +kernel
theorem dX9_takesFrost_9 : decode cX9_takesFrost 9 = .ok (.iconst 3, 1) := by decide +kernel
theorem dX9_takesFrost_10 : decode cX9_takesFrost 10 = .ok (.invokestatic 75, 3) := by decide +kernel
theorem dX9_takesFrost_13 : decode cX9_takesFrost 13 = .ok (.invokevirtual 44, 3) := by decide +kernel
theorem dX9_takesFrost_16 : decode cX9_takesFrost 16 = .ok (.ireturn, 1) := by decide +kernel
theorem dX9_takesMark_0 : decode cX9_takesMark 0 = .ok (.iload_n 1, 1) := by decide +kernel
theorem dX9_takesMark_1 : decode cX9_takesMark 1 = .ok (.bipush 44, 2) := by decide +kernel
theorem dX9_takesMark_3 : decode cX9_takesMark 3 = .ok (.if_icmp .ne 22, 3) := by decide +kernel
theorem dX9_takesMark_6 : decode cX9_takesMark 6 = .ok (.aload_n 0, 1) := by decide +kernel
theorem dX9_takesMark_7 : decode cX9_takesMark 7 = .ok (.iconst 3, 1) := by decide +kernel
theorem dX9_takesMark_8 : decode cX9_takesMark 8 = .ok (.aload_n 0, 1) := by decide +kernel
theorem dX9_takesMark_9 : decode cX9_takesMark 9 = .ok (.getfield 28, 3) := by decide +kernel
theorem dX9_takesMark_12 : decode cX9_takesMark 12 = .ok (.iconst 4, 1) := by decide +kernel
theorem dX9_takesMark_13 : decode cX9_takesMark 13 = .ok (.if_icmp .ge 7, 3) := by decide +kernel
theorem dX9_takesMark_16 : decode cX9_takesMark 16 = .ok (.iconst 1, 1) := by decide +kernel
theorem dX9_takesMark_17 : decode cX9_takesMark 17 = .ok (.goto 4, 3) := by decide +kernel
theorem dX9_takesMark_20 : decode cX9_takesMark 20 = .ok (.iconst 0, 1) := by decide +kernel
theorem dX9_takesMark_21 : decode cX9_takesMark 21 = .ok (.invokevirtual 44, 3) := by decide +kernel
theorem dX9_takesMark_24 : decode cX9_takesMark 24 = .ok (.ireturn, 1) := by decide +kernel
theorem dX9_takesMark_25 : decode cX9_takesMark 25 = .ok (.aload_n 0, 1) := by decide +kernel
theorem dX9_takesMark_26 : decode cX9_takesMark 26 = .ok (.iconst 5, 1) := by decide +kernel
theorem dX9_takesMark_27 : decode cX9_takesMark 27 = .ok (.iload_n 1, 1) := by decide +kernel
theorem dX9_takesMark_28 : decode cX9_takesMark 28 = .ok (.bipush 59, 2) := by decide +kernel
theorem dX9_takesMark_30 : decode cX9_takesMark 30 = .ok (.if_icmp .ne 14, 3) := by decide +kernel
theorem dX9_takesMark_33 : decode cX9_takesMark 33 = .ok (.aload_n 0, 1) := by decide +kernel
theorem dX9_takesMark_34 : decode cX9_takesMark 34 = .ok (.getfield 28, 3) := by decide +kernel
theorem dX9_takesMark_37 : decode cX9_takesMark 37 = .ok (.ifCond .le 7, 3) := by decide +kernel
theorem dX9_takesMark_40 : decode cX9_takesMark 40 = .ok (.iconst 1, 1) := by decide +kernel
theorem dX9_takesMark_41 : decode cX9_takesMark 41 = .ok (.goto 4, 3) := by decide +kernel
theorem dX9_takesMark_44 : decode cX9_takesMark 44 = .ok (.iconst 0, 1) := by decide +kernel
theorem dX9_takesMark_45 : decode cX9_takesMark 45 = .ok (.invokevirtual 44, 3) := by decide +kernel
theorem dX9_takesMark_48 : decode cX9_takesMark 48 = .ok (.ireturn, 1) := by decide +kernel
theorem dX9_takesYards_0 : decode cX9_takesYards 0 = .ok (.aload_n 0, 1) := by decide +kernel
theorem dX9_takesYards_1 : decode cX9_takesYards 1 = .ok (.getfield 28, 3) := by decide +kernel
theorem dX9_takesYards_4 : decode cX9_takesYards 4 = .ok (.ifCond .lt 25, 3) := by decide +kernel
theorem dX9_takesYards_7 : decode cX9_takesYards 7 = .ok (.aload_n 0, 1) := by decide +kernel
theorem dX9_takesYards_8 : decode cX9_takesYards 8 = .ok (.getfield 28, 3) := by decide +kernel
theorem dX9_takesYards_11 : decode cX9_takesYards 11 = .ok (.aload_n 0, 1) := by decide +kernel
theorem dX9_takesYards_12 : decode cX9_takesYards 12 = .ok (.getfield 9, 3) := by decide +kernel
theorem dX9_takesYards_15 : decode cX9_takesYards 15 = .ok (.arraylength, 1) := by decide +kernel
theorem dX9_takesYards_16 : decode cX9_takesYards 16 = .ok (.if_icmp .ge 13, 3) := by decide +kernel
theorem dX9_takesYards_19 : decode cX9_takesYards 19 = .ok (.aload_n 0, 1) := by decide +kernel
theorem dX9_takesYards_20 : decode cX9_takesYards 20 = .ok (.getfield 9, 3) := by decide +kernel
theorem dX9_takesYards_23 : decode cX9_takesYards 23 = .ok (.aload_n 0, 1) := by decide +kernel
theorem dX9_takesYards_24 : decode cX9_takesYards 24 = .ok (.getfield 28, 3) := by decide +kernel
theorem dX9_takesYards_27 : decode cX9_takesYards 27 = .ok (.iload_n 1, 1) := by decide +kernel
theorem dX9_takesYards_28 : decode cX9_takesYards 28 = .ok (.iastore, 1) := by decide +kernel
theorem dX9_takesYards_29 : decode cX9_takesYards 29 = .ok (.aload_n 0, 1) := by decide +kernel
theorem dX9_takesYards_30 : decode cX9_takesYards 30 = .ok (.iconst 4, 1) := by decide +kernel
theorem dX9_takesYards_31 : decode cX9_takesYards 31 = .ok (.iload_n 1, 1) := by decide +kernel
theorem dX9_takesYards_32 : decode cX9_takesYards 32 = .ok (.iconst 1, 1) := by decide +kernel
theorem dX9_takesYards_33 : decode cX9_takesYards 33 = .ok (.bipush 9, 2) := by decide +kernel
theorem dX9_takesYards_35 : decode cX9_takesYards 35 = .ok (.invokestatic 75, 3) := by decide +kernel
theorem dX9_takesYards_38 : decode cX9_takesYards 38 = .ok (.invokevirtual 44, 3) := by decide +kernel
theorem dX9_takesYards_41 : decode cX9_takesYards 41 = .ok (.ireturn, 1) := by decide +kernel
theorem dX9_takesLeaning_0 : decode cX9_takesLeaning 0 = .ok (.aload_n 0, 1) := by decide +kernel
theorem dX9_takesLeaning_1 : decode cX9_takesLeaning 1 = .ok (.getfield 28, 3) := by decide +kernel
theorem dX9_takesLeaning_4 : decode cX9_takesLeaning 4 = .ok (.ifCond .lt 25, 3) := by decide +kernel
theorem dX9_takesLeaning_7 : decode cX9_takesLeaning 7 = .ok (.aload_n 0, 1) := by decide +kernel
theorem dX9_takesLeaning_8 : decode cX9_takesLeaning 8 = .ok (.getfield 28, 3) := by decide +kernel
theorem dX9_takesLeaning_11 : decode cX9_takesLeaning 11 = .ok (.aload_n 0, 1) := by decide +kernel
theorem dX9_takesLeaning_12 : decode cX9_takesLeaning 12 = .ok (.getfield 15, 3) := by decide +kernel
theorem dX9_takesLeaning_15 : decode cX9_takesLeaning 15 = .ok (.arraylength, 1) := by decide +kernel
theorem dX9_takesLeaning_16 : decode cX9_takesLeaning 16 = .ok (.if_icmp .ge 13, 3) := by decide +kernel
theorem dX9_takesLeaning_19 : decode cX9_takesLeaning 19 = .ok (.aload_n 0, 1) := by decide +kernel
theorem dX9_takesLeaning_20 : decode cX9_takesLeaning 20 = .ok (.getfield 15, 3) := by decide +kernel
theorem dX9_takesLeaning_23 : decode cX9_takesLeaning 23 = .ok (.aload_n 0, 1) := by decide +kernel
theorem dX9_takesLeaning_24 : decode cX9_takesLeaning 24 = .ok (.getfield 28, 3) := by decide +kernel
theorem dX9_takesLeaning_27 : decode cX9_takesLeaning 27 = .ok (.iload_n 1, 1) := by decide +kernel
theorem dX9_takesLeaning_28 : decode cX9_takesLeaning 28 = .ok (.iastore, 1) := by decide +kernel
theorem dX9_takesLeaning_29 : decode cX9_takesLeaning 29 = .ok (.aload_n 0, 1) := by decide +kernel
theorem dX9_takesLeaning_30 : decode cX9_takesLeaning 30 = .ok (.dup, 1) := by decide +kernel
theorem dX9_takesLeaning_31 : decode cX9_takesLeaning 31 = .ok (.getfield 28, 3) := by decide +kernel
theorem dX9_takesLeaning_34 : decode cX9_takesLeaning 34 = .ok (.iconst 1, 1) := by decide +kernel
theorem dX9_takesLeaning_35 : decode cX9_takesLeaning 35 = .ok (.iadd, 1) := by decide +kernel
theorem dX9_takesLeaning_36 : decode cX9_takesLeaning 36 = .ok (.putfield 28, 3) := by decide +kernel
theorem dX9_takesLeaning_39 : decode cX9_takesLeaning 39 = .ok (.aload_n 0, 1) := by decide +kernel
theorem dX9_takesLeaning_40 : decode cX9_takesLeaning 40 = .ok (.iconst 2, 1) := by decide +kernel
theorem dX9_takesLeaning_41 : decode cX9_takesLeaning 41 = .ok (.iload_n 1, 1) := by decide +kernel
theorem dX9_takesLeaning_42 : decode cX9_takesLeaning 42 = .ok (.iconst 0, 1) := by decide +kernel
theorem dX9_takesLeaning_43 : decode cX9_takesLeaning 43 = .ok (.bipush 9, 2) := by decide +kernel
theorem dX9_takesLeaning_45 : decode cX9_takesLeaning 45 = .ok (.invokestatic 75, 3) := by decide +kernel
theorem dX9_takesLeaning_48 : decode cX9_takesLeaning 48 = .ok (.invokevirtual 44, 3) := by decide +kernel
theorem dX9_takesLeaning_51 : decode cX9_takesLeaning 51 = .ok (.ireturn, 1) := by decide +kernel
theorem dX9_takesLetter_0 : decode cX9_takesLetter 0 = .ok (.aload_n 0, 1) := by decide +kernel
theorem dX9_takesLetter_1 : decode cX9_takesLetter 1 = .ok (.getfield 31, 3) := by decide +kernel
theorem dX9_takesLetter_4 : decode cX9_takesLetter 4 = .ok (.ifCond .lt 25, 3) := by decide +kernel
theorem dX9_takesLetter_7 : decode cX9_takesLetter 7 = .ok (.aload_n 0, 1) := by decide +kernel
theorem dX9_takesLetter_8 : decode cX9_takesLetter 8 = .ok (.getfield 31, 3) := by decide +kernel
theorem dX9_takesLetter_11 : decode cX9_takesLetter 11 = .ok (.aload_n 0, 1) := by decide +kernel
theorem dX9_takesLetter_12 : decode cX9_takesLetter 12 = .ok (.getfield 18, 3) := by decide +kernel
theorem dX9_takesLetter_15 : decode cX9_takesLetter 15 = .ok (.arraylength, 1) := by decide +kernel
theorem dX9_takesLetter_16 : decode cX9_takesLetter 16 = .ok (.if_icmp .ge 13, 3) := by decide +kernel
theorem dX9_takesLetter_19 : decode cX9_takesLetter 19 = .ok (.aload_n 0, 1) := by decide +kernel
theorem dX9_takesLetter_20 : decode cX9_takesLetter 20 = .ok (.getfield 18, 3) := by decide +kernel
theorem dX9_takesLetter_23 : decode cX9_takesLetter 23 = .ok (.aload_n 0, 1) := by decide +kernel
theorem dX9_takesLetter_24 : decode cX9_takesLetter 24 = .ok (.getfield 31, 3) := by decide +kernel
theorem dX9_takesLetter_27 : decode cX9_takesLetter 27 = .ok (.iload_n 1, 1) := by decide +kernel
theorem dX9_takesLetter_28 : decode cX9_takesLetter 28 = .ok (.iastore, 1) := by decide +kernel
theorem dX9_takesLetter_29 : decode cX9_takesLetter 29 = .ok (.aload_n 0, 1) := by decide +kernel
theorem dX9_takesLetter_30 : decode cX9_takesLetter 30 = .ok (.bipush 6, 2) := by decide +kernel
theorem dX9_takesLetter_32 : decode cX9_takesLetter 32 = .ok (.iload_n 1, 1) := by decide +kernel
theorem dX9_takesLetter_33 : decode cX9_takesLetter 33 = .ok (.iconst 0, 1) := by decide +kernel
theorem dX9_takesLetter_34 : decode cX9_takesLetter 34 = .ok (.iconst 2, 1) := by decide +kernel
theorem dX9_takesLetter_35 : decode cX9_takesLetter 35 = .ok (.invokestatic 75, 3) := by decide +kernel
theorem dX9_takesLetter_38 : decode cX9_takesLetter 38 = .ok (.invokevirtual 44, 3) := by decide +kernel
theorem dX9_takesLetter_41 : decode cX9_takesLetter 41 = .ok (.ireturn, 1) := by decide +kernel
theorem dX9_takesArm_0 : decode cX9_takesArm 0 = .ok (.aload_n 0, 1) := by decide +kernel
theorem dX9_takesArm_1 : decode cX9_takesArm 1 = .ok (.getfield 31, 3) := by decide +kernel
theorem dX9_takesArm_4 : decode cX9_takesArm 4 = .ok (.ifCond .lt 25, 3) := by decide +kernel
theorem dX9_takesArm_7 : decode cX9_takesArm 7 = .ok (.aload_n 0, 1) := by decide +kernel
theorem dX9_takesArm_8 : decode cX9_takesArm 8 = .ok (.getfield 31, 3) := by decide +kernel
theorem dX9_takesArm_11 : decode cX9_takesArm 11 = .ok (.aload_n 0, 1) := by decide +kernel
theorem dX9_takesArm_12 : decode cX9_takesArm 12 = .ok (.getfield 21, 3) := by decide +kernel
theorem dX9_takesArm_15 : decode cX9_takesArm 15 = .ok (.arraylength, 1) := by decide +kernel
theorem dX9_takesArm_16 : decode cX9_takesArm 16 = .ok (.if_icmp .ge 13, 3) := by decide +kernel
theorem dX9_takesArm_19 : decode cX9_takesArm 19 = .ok (.aload_n 0, 1) := by decide +kernel
theorem dX9_takesArm_20 : decode cX9_takesArm 20 = .ok (.getfield 21, 3) := by decide +kernel
theorem dX9_takesArm_23 : decode cX9_takesArm 23 = .ok (.aload_n 0, 1) := by decide +kernel
theorem dX9_takesArm_24 : decode cX9_takesArm 24 = .ok (.getfield 31, 3) := by decide +kernel
theorem dX9_takesArm_27 : decode cX9_takesArm 27 = .ok (.iload_n 1, 1) := by decide +kernel
theorem dX9_takesArm_28 : decode cX9_takesArm 28 = .ok (.iastore, 1) := by decide +kernel
theorem dX9_takesArm_29 : decode cX9_takesArm 29 = .ok (.aload_n 0, 1) := by decide +kernel
theorem dX9_takesArm_30 : decode cX9_takesArm 30 = .ok (.dup, 1) := by decide +kernel
theorem dX9_takesArm_31 : decode cX9_takesArm 31 = .ok (.getfield 31, 3) := by decide +kernel
theorem dX9_takesArm_34 : decode cX9_takesArm 34 = .ok (.iconst 1, 1) := by decide +kernel
theorem dX9_takesArm_35 : decode cX9_takesArm 35 = .ok (.iadd, 1) := by decide +kernel
theorem dX9_takesArm_36 : decode cX9_takesArm 36 = .ok (.putfield 31, 3) := by decide +kernel
theorem dX9_takesArm_39 : decode cX9_takesArm 39 = .ok (.aload_n 0, 1) := by decide +kernel
theorem dX9_takesArm_40 : decode cX9_takesArm 40 = .ok (.bipush 7, 2) := by decide +kernel
theorem dX9_takesArm_42 : decode cX9_takesArm 42 = .ok (.iload_n 1, 1) := by decide +kernel
theorem dX9_takesArm_43 : decode cX9_takesArm 43 = .ok (.iconst 1, 1) := by decide +kernel
theorem dX9_takesArm_44 : decode cX9_takesArm 44 = .ok (.bipush 9, 2) := by decide +kernel
theorem dX9_takesArm_46 : decode cX9_takesArm 46 = .ok (.invokestatic 75, 3) := by decide +kernel
theorem dX9_takesArm_49 : decode cX9_takesArm 49 = .ok (.invokevirtual 44, 3) := by decide +kernel
theorem dX9_takesArm_52 : decode cX9_takesArm 52 = .ok (.ireturn, 1) := by decide +kernel
theorem dX9_digit_0 : decode cX9_digit 0 = .ok (.iload_n 0, 1) := by decide +kernel
theorem dX9_digit_1 : decode cX9_digit 1 = .ok (.bipush 48, 2) := by decide +kernel
theorem dX9_digit_3 : decode cX9_digit 3 = .ok (.if_icmp .lt 16, 3) := by decide +kernel
theorem dX9_digit_6 : decode cX9_digit 6 = .ok (.iload_n 0, 1) := by decide +kernel
theorem dX9_digit_7 : decode cX9_digit 7 = .ok (.bipush 57, 2) := by decide +kernel
theorem dX9_digit_9 : decode cX9_digit 9 = .ok (.if_icmp .gt 10, 3) := by decide +kernel
theorem dX9_digit_12 : decode cX9_digit 12 = .ok (.iload_n 0, 1) := by decide +kernel
theorem dX9_digit_13 : decode cX9_digit 13 = .ok (.bipush 48, 2) := by decide +kernel
theorem dX9_digit_15 : decode cX9_digit 15 = .ok (.isub, 1) := by decide +kernel
theorem dX9_digit_16 : decode cX9_digit 16 = .ok (.goto 5, 3) := by decide +kernel
theorem dX9_digit_19 : decode cX9_digit 19 = .ok (.bipush (-9), 2) := by decide +kernel
theorem dX9_digit_21 : decode cX9_digit 21 = .ok (.ireturn, 1) := by decide +kernel
theorem dX9_kindBy_0 : decode cX9_kindBy 0 = .ok (.iload_n 0, 1) := by decide +kernel
theorem dX9_kindBy_1 : decode cX9_kindBy 1 = .ok (.lookupswitch 41 #[(108, 37), (114, 35), (115, 39)], 35) := by decide +kernel
theorem dX9_kindBy_36 : decode cX9_kindBy 36 = .ok (.iconst 0, 1) := by decide +kernel
theorem dX9_kindBy_37 : decode cX9_kindBy 37 = .ok (.ireturn, 1) := by decide +kernel
theorem dX9_kindBy_38 : decode cX9_kindBy 38 = .ok (.iconst 1, 1) := by decide +kernel
theorem dX9_kindBy_39 : decode cX9_kindBy 39 = .ok (.ireturn, 1) := by decide +kernel
theorem dX9_kindBy_40 : decode cX9_kindBy 40 = .ok (.iconst 2, 1) := by decide +kernel
theorem dX9_kindBy_41 : decode cX9_kindBy 41 = .ok (.ireturn, 1) := by decide +kernel
theorem dX9_kindBy_42 : decode cX9_kindBy 42 = .ok (.bipush (-9), 2) := by decide +kernel
theorem dX9_kindBy_44 : decode cX9_kindBy 44 = .ok (.ireturn, 1) := by decide +kernel
theorem dX9_yardsAt_0 : decode cX9_yardsAt 0 = .ok (.iload_n 1, 1) := by decide +kernel
theorem dX9_yardsAt_1 : decode cX9_yardsAt 1 = .ok (.ifCond .lt 12, 3) := by decide +kernel
theorem dX9_yardsAt_4 : decode cX9_yardsAt 4 = .ok (.iload_n 1, 1) := by decide +kernel
theorem dX9_yardsAt_5 : decode cX9_yardsAt 5 = .ok (.aload_n 0, 1) := by decide +kernel
theorem dX9_yardsAt_6 : decode cX9_yardsAt 6 = .ok (.getfield 9, 3) := by decide +kernel
theorem dX9_yardsAt_9 : decode cX9_yardsAt 9 = .ok (.arraylength, 1) := by decide +kernel
theorem dX9_yardsAt_10 : decode cX9_yardsAt 10 = .ok (.if_icmp .lt 7, 3) := by decide +kernel
theorem dX9_yardsAt_13 : decode cX9_yardsAt 13 = .ok (.iconst 1, 1) := by decide +kernel
theorem dX9_yardsAt_14 : decode cX9_yardsAt 14 = .ok (.goto 9, 3) := by decide +kernel
theorem dX9_yardsAt_17 : decode cX9_yardsAt 17 = .ok (.aload_n 0, 1) := by decide +kernel
theorem dX9_yardsAt_18 : decode cX9_yardsAt 18 = .ok (.getfield 9, 3) := by decide +kernel
theorem dX9_yardsAt_21 : decode cX9_yardsAt 21 = .ok (.iload_n 1, 1) := by decide +kernel
theorem dX9_yardsAt_22 : decode cX9_yardsAt 22 = .ok (.iaload, 1) := by decide +kernel
theorem dX9_yardsAt_23 : decode cX9_yardsAt 23 = .ok (.ireturn, 1) := by decide +kernel
theorem dX9_leaningAt_0 : decode cX9_leaningAt 0 = .ok (.iload_n 1, 1) := by decide +kernel
theorem dX9_leaningAt_1 : decode cX9_leaningAt 1 = .ok (.ifCond .lt 12, 3) := by decide +kernel
theorem dX9_leaningAt_4 : decode cX9_leaningAt 4 = .ok (.iload_n 1, 1) := by decide +kernel
theorem dX9_leaningAt_5 : decode cX9_leaningAt 5 = .ok (.aload_n 0, 1) := by decide +kernel
theorem dX9_leaningAt_6 : decode cX9_leaningAt 6 = .ok (.getfield 15, 3) := by decide +kernel
theorem dX9_leaningAt_9 : decode cX9_leaningAt 9 = .ok (.arraylength, 1) := by decide +kernel
theorem dX9_leaningAt_10 : decode cX9_leaningAt 10 = .ok (.if_icmp .lt 7, 3) := by decide +kernel
theorem dX9_leaningAt_13 : decode cX9_leaningAt 13 = .ok (.iconst 0, 1) := by decide +kernel
theorem dX9_leaningAt_14 : decode cX9_leaningAt 14 = .ok (.goto 9, 3) := by decide +kernel
theorem dX9_leaningAt_17 : decode cX9_leaningAt 17 = .ok (.aload_n 0, 1) := by decide +kernel
theorem dX9_leaningAt_18 : decode cX9_leaningAt 18 = .ok (.getfield 15, 3) := by decide +kernel
theorem dX9_leaningAt_21 : decode cX9_leaningAt 21 = .ok (.iload_n 1, 1) := by decide +kernel
theorem dX9_leaningAt_22 : decode cX9_leaningAt 22 = .ok (.iaload, 1) := by decide +kernel
theorem dX9_leaningAt_23 : decode cX9_leaningAt 23 = .ok (.ireturn, 1) := by decide +kernel
theorem dX9_kindAt_0 : decode cX9_kindAt 0 = .ok (.iload_n 1, 1) := by decide +kernel
theorem dX9_kindAt_1 : decode cX9_kindAt 1 = .ok (.ifCond .lt 12, 3) := by decide +kernel
theorem dX9_kindAt_4 : decode cX9_kindAt 4 = .ok (.iload_n 1, 1) := by decide +kernel
theorem dX9_kindAt_5 : decode cX9_kindAt 5 = .ok (.aload_n 0, 1) := by decide +kernel
theorem dX9_kindAt_6 : decode cX9_kindAt 6 = .ok (.getfield 18, 3) := by decide +kernel
theorem dX9_kindAt_9 : decode cX9_kindAt 9 = .ok (.arraylength, 1) := by decide +kernel
theorem dX9_kindAt_10 : decode cX9_kindAt 10 = .ok (.if_icmp .lt 7, 3) := by decide +kernel
theorem dX9_kindAt_13 : decode cX9_kindAt 13 = .ok (.iconst 0, 1) := by decide +kernel
theorem dX9_kindAt_14 : decode cX9_kindAt 14 = .ok (.goto 9, 3) := by decide +kernel
theorem dX9_kindAt_17 : decode cX9_kindAt 17 = .ok (.aload_n 0, 1) := by decide +kernel
theorem dX9_kindAt_18 : decode cX9_kindAt 18 = .ok (.getfield 18, 3) := by decide +kernel
theorem dX9_kindAt_21 : decode cX9_kindAt 21 = .ok (.iload_n 1, 1) := by decide +kernel
theorem dX9_kindAt_22 : decode cX9_kindAt 22 = .ok (.iaload, 1) := by decide +kernel
theorem dX9_kindAt_23 : decode cX9_kindAt 23 = .ok (.ireturn, 1) := by decide +kernel
theorem dX9_armAt_0 : decode cX9_armAt 0 = .ok (.iload_n 1, 1) := by decide +kernel
theorem dX9_armAt_1 : decode cX9_armAt 1 = .ok (.ifCond .lt 12, 3) := by decide +kernel
theorem dX9_armAt_4 : decode cX9_armAt 4 = .ok (.iload_n 1, 1) := by decide +kernel
theorem dX9_armAt_5 : decode cX9_armAt 5 = .ok (.aload_n 0, 1) := by decide +kernel
theorem dX9_armAt_6 : decode cX9_armAt 6 = .ok (.getfield 21, 3) := by decide +kernel
theorem dX9_armAt_9 : decode cX9_armAt 9 = .ok (.arraylength, 1) := by decide +kernel
theorem dX9_armAt_10 : decode cX9_armAt 10 = .ok (.if_icmp .lt 7, 3) := by decide +kernel
theorem dX9_armAt_13 : decode cX9_armAt 13 = .ok (.iconst 1, 1) := by decide +kernel
theorem dX9_armAt_14 : decode cX9_armAt 14 = .ok (.goto 9, 3) := by decide +kernel
theorem dX9_armAt_17 : decode cX9_armAt 17 = .ok (.aload_n 0, 1) := by decide +kernel
theorem dX9_armAt_18 : decode cX9_armAt 18 = .ok (.getfield 21, 3) := by decide +kernel
theorem dX9_armAt_21 : decode cX9_armAt 21 = .ok (.iload_n 1, 1) := by decide +kernel
theorem dX9_armAt_22 : decode cX9_armAt 22 = .ok (.iaload, 1) := by decide +kernel
theorem dX9_armAt_23 : decode cX9_armAt 23 = .ok (.ireturn, 1) := by decide +kernel
theorem dX10_init_0 : decode cX10_init 0 = .ok (.aload_n 0, 1) := by decide +kernel
theorem dX10_init_1 : decode cX10_init 1 = .ok (.invokespecial 1, 3) := by decide +kernel
theorem dX10_init_4 : decode cX10_init 4 = .ok (.return_, 1) := by decide +kernel
theorem dX10_leave_0 : decode cX10_leave 0 = .ok (.aload_n 0, 1) := by decide +kernel
theorem dX10_leave_1 : decode cX10_leave 1 = .ok (.bipush 31, 2) := by decide +kernel
theorem dX10_leave_3 : decode cX10_leave 3 = .ok (.aload_n 0, 1) := by decide +kernel
theorem dX10_leave_4 : decode cX10_leave 4 = .ok (.getfield 7, 3) := by decide +kernel
theorem dX10_leave_7 : decode cX10_leave 7 = .ok (.imul, 1) := by decide +kernel
theorem dX10_leave_8 : decode cX10_leave 8 = .ok (.iload_n 1, 1) := by decide +kernel
theorem dX10_leave_9 : decode cX10_leave 9 = .ok (.iadd, 1) := by decide +kernel
theorem dX10_leave_10 : decode cX10_leave 10 = .ok (.putfield 7, 3) := by decide +kernel
theorem dX10_leave_13 : decode cX10_leave 13 = .ok (.return_, 1) := by decide +kernel
theorem dX11_init_0 : decode cX11_init 0 = .ok (.aload_n 0, 1) := by decide +kernel
theorem dX11_init_1 : decode cX11_init 1 = .ok (.invokespecial 3, 3) := by decide +kernel
theorem dX11_init_4 : decode cX11_init 4 = .ok (.aload_n 0, 1) := by decide +kernel
theorem dX11_init_5 : decode cX11_init 5 = .ok (.new 9, 3) := by decide +kernel
theorem dX11_init_8 : decode cX11_init 8 = .ok (.dup, 1) := by decide +kernel
theorem dX11_init_9 : decode cX11_init 9 = .ok (.invokespecial 11, 3) := by decide +kernel
theorem dX11_init_12 : decode cX11_init 12 = .ok (.putfield 12, 3) := by decide +kernel
theorem dX11_init_15 : decode cX11_init 15 = .ok (.aload_n 0, 1) := by decide +kernel
theorem dX11_init_16 : decode cX11_init 16 = .ok (.iconst 5, 1) := by decide +kernel
theorem dX11_init_17 : decode cX11_init 17 = .ok (.anewarray 18, 3) := by decide +kernel
theorem dX11_init_20 : decode cX11_init 20 = .ok (.putfield 20, 3) := by decide +kernel
theorem dX11_init_23 : decode cX11_init 23 = .ok (.aload_n 0, 1) := by decide +kernel
theorem dX11_init_24 : decode cX11_init 24 = .ok (.new 24, 3) := by decide +kernel
theorem dX11_init_27 : decode cX11_init 27 = .ok (.dup, 1) := by decide +kernel
theorem dX11_init_28 : decode cX11_init 28 = .ok (.invokespecial 26, 3) := by decide +kernel
theorem dX11_init_31 : decode cX11_init 31 = .ok (.putfield 27, 3) := by decide +kernel
theorem dX11_init_34 : decode cX11_init 34 = .ok (.aload_n 0, 1) := by decide +kernel
theorem dX11_init_35 : decode cX11_init 35 = .ok (.iconst 4, 1) := by decide +kernel
theorem dX11_init_36 : decode cX11_init 36 = .ok (.anewarray 31, 3) := by decide +kernel
theorem dX11_init_39 : decode cX11_init 39 = .ok (.putfield 33, 3) := by decide +kernel
theorem dX11_init_42 : decode cX11_init 42 = .ok (.aload_n 0, 1) := by decide +kernel
theorem dX11_init_43 : decode cX11_init 43 = .ok (.new 37, 3) := by decide +kernel
theorem dX11_init_46 : decode cX11_init 46 = .ok (.dup, 1) := by decide +kernel
theorem dX11_init_47 : decode cX11_init 47 = .ok (.invokespecial 39, 3) := by decide +kernel
theorem dX11_init_50 : decode cX11_init 50 = .ok (.putfield 40, 3) := by decide +kernel
theorem dX11_init_53 : decode cX11_init 53 = .ok (.aload_n 0, 1) := by decide +kernel
theorem dX11_init_54 : decode cX11_init 54 = .ok (.new 44, 3) := by decide +kernel
theorem dX11_init_57 : decode cX11_init 57 = .ok (.dup, 1) := by decide +kernel
theorem dX11_init_58 : decode cX11_init 58 = .ok (.invokespecial 46, 3) := by decide +kernel
theorem dX11_init_61 : decode cX11_init 61 = .ok (.putfield 47, 3) := by decide +kernel
theorem dX11_init_64 : decode cX11_init 64 = .ok (.aload_n 0, 1) := by decide +kernel
theorem dX11_init_65 : decode cX11_init 65 = .ok (.new 51, 3) := by decide +kernel
theorem dX11_init_68 : decode cX11_init 68 = .ok (.dup, 1) := by decide +kernel
theorem dX11_init_69 : decode cX11_init 69 = .ok (.invokespecial 53, 3) := by decide +kernel
theorem dX11_init_72 : decode cX11_init 72 = .ok (.putfield 54, 3) := by decide +kernel
theorem dX11_init_75 : decode cX11_init 75 = .ok (.aload_n 0, 1) := by decide +kernel
theorem dX11_init_76 : decode cX11_init 76 = .ok (.new 58, 3) := by decide +kernel
theorem dX11_init_79 : decode cX11_init 79 = .ok (.dup, 1) := by decide +kernel
theorem dX11_init_80 : decode cX11_init 80 = .ok (.invokespecial 60, 3) := by decide +kernel
theorem dX11_init_83 : decode cX11_init 83 = .ok (.putfield 61, 3) := by decide +kernel
theorem dX11_init_86 : decode cX11_init 86 = .ok (.iconst 0, 1) := by decide +kernel
theorem dX11_init_87 : decode cX11_init 87 = .ok (.istore_n 1, 1) := by decide +kernel
theorem dX11_init_88 : decode cX11_init 88 = .ok (.iload_n 1, 1) := by decide +kernel
theorem dX11_init_89 : decode cX11_init 89 = .ok (.aload_n 0, 1) := by decide +kernel
theorem dX11_init_90 : decode cX11_init 90 = .ok (.getfield 33, 3) := by decide +kernel
theorem dX11_init_93 : decode cX11_init 93 = .ok (.arraylength, 1) := by decide +kernel
theorem dX11_init_94 : decode cX11_init 94 = .ok (.if_icmp .ge 22, 3) := by decide +kernel
theorem dX11_init_97 : decode cX11_init 97 = .ok (.aload_n 0, 1) := by decide +kernel
theorem dX11_init_98 : decode cX11_init 98 = .ok (.getfield 33, 3) := by decide +kernel
theorem dX11_init_101 : decode cX11_init 101 = .ok (.iload_n 1, 1) := by decide +kernel
theorem dX11_init_102 : decode cX11_init 102 = .ok (.new 31, 3) := by decide +kernel
theorem dX11_init_105 : decode cX11_init 105 = .ok (.dup, 1) := by decide +kernel
theorem dX11_init_106 : decode cX11_init 106 = .ok (.invokespecial 65, 3) := by decide +kernel
theorem dX11_init_109 : decode cX11_init 109 = .ok (.aastore, 1) := by decide +kernel
theorem dX11_init_110 : decode cX11_init 110 = .ok (.iinc 1 1, 3) := by decide +kernel
theorem dX11_init_113 : decode cX11_init 113 = .ok (.goto (-25), 3) := by decide +kernel
theorem dX11_init_116 : decode cX11_init 116 = .ok (.return_, 1) := by decide +kernel
theorem dX11_dale_0 : decode cX11_dale 0 = .ok (.aload_n 0, 1) := by decide +kernel
theorem dX11_dale_1 : decode cX11_dale 1 = .ok (.iconst 0, 1) := by decide +kernel
theorem dX11_dale_2 : decode cX11_dale 2 = .ok (.putfield 66, 3) := by decide +kernel
theorem dX11_dale_5 : decode cX11_dale 5 = .ok (.aload_n 0, 1) := by decide +kernel
theorem dX11_dale_6 : decode cX11_dale 6 = .ok (.iload_n 1, 1) := by decide +kernel
theorem dX11_dale_7 : decode cX11_dale 7 = .ok (.invokevirtual 70, 3) := by decide +kernel
theorem dX11_dale_10 : decode cX11_dale 10 = .ok (.astore 5, 2) := by decide +kernel
theorem dX11_dale_12 : decode cX11_dale 12 = .ok (.aload 5, 2) := by decide +kernel
theorem dX11_dale_14 : decode cX11_dale 14 = .ok (.ifnonnull 5, 3) := by decide +kernel
theorem dX11_dale_17 : decode cX11_dale 17 = .ok (.iconst (-1), 1) := by decide +kernel
theorem dX11_dale_18 : decode cX11_dale 18 = .ok (.ireturn, 1) := by decide +kernel
theorem dX11_dale_19 : decode cX11_dale 19 = .ok (.iload_n 2, 1) := by decide +kernel
theorem dX11_dale_20 : decode cX11_dale 20 = .ok (.invokestatic 74, 3) := by decide +kernel
theorem dX11_dale_23 : decode cX11_dale 23 = .ok (.ifCond .ne 6, 3) := by decide +kernel
theorem dX11_dale_26 : decode cX11_dale 26 = .ok (.bipush (-2), 2) := by decide +kernel
theorem dX11_dale_28 : decode cX11_dale 28 = .ok (.ireturn, 1) := by decide +kernel
theorem dX11_dale_29 : decode cX11_dale 29 = .ok (.aload 5, 2) := by decide +kernel
theorem dX11_dale_31 : decode cX11_dale 31 = .ok (.iload_n 2, 1) := by decide +kernel
theorem dX11_dale_32 : decode cX11_dale 32 = .ok (.invokevirtual 78, 3) := by decide +kernel
theorem dX11_dale_35 : decode cX11_dale 35 = .ok (.istore 6, 2) := by decide +kernel
theorem dX11_dale_37 : decode cX11_dale 37 = .ok (.iload 6, 2) := by decide +kernel
theorem dX11_dale_39 : decode cX11_dale 39 = .ok (.ifCond .ne 11, 3) := by decide +kernel
theorem dX11_dale_42 : decode cX11_dale 42 = .ok (.iload 4, 2) := by decide +kernel
theorem dX11_dale_44 : decode cX11_dale 44 = .ok (.ifCond .ge 6, 3) := by decide +kernel
theorem dX11_dale_47 : decode cX11_dale 47 = .ok (.iconst 4, 1) := by decide +kernel
theorem dX11_dale_48 : decode cX11_dale 48 = .ok (.istore 6, 2) := by decide +kernel
theorem dX11_dale_50 : decode cX11_dale 50 = .ok (.iload 6, 2) := by decide +kernel
theorem dX11_dale_52 : decode cX11_dale 52 = .ok (.ifCond .ne 17, 3) := by decide +kernel
theorem dX11_dale_55 : decode cX11_dale 55 = .ok (.aload 5, 2) := by decide +kernel
theorem dX11_dale_57 : decode cX11_dale 57 = .ok (.iload_n 3, 1) := by decide +kernel
theorem dX11_dale_58 : decode cX11_dale 58 = .ok (.iload 4, 2) := by decide +kernel
theorem dX11_dale_60 : decode cX11_dale 60 = .ok (.invokevirtual 82, 3) := by decide +kernel
theorem dX11_dale_63 : decode cX11_dale 63 = .ok (.ifCond .ne 6, 3) := by decide +kernel
theorem dX11_dale_66 : decode cX11_dale 66 = .ok (.iconst 3, 1) := by decide +kernel
theorem dX11_dale_67 : decode cX11_dale 67 = .ok (.istore 6, 2) := by decide +kernel
theorem dX11_dale_69 : decode cX11_dale 69 = .ok (.iload 6, 2) := by decide +kernel
theorem dX11_dale_71 : decode cX11_dale 71 = .ok (.ifCond .eq 10, 3) := by decide +kernel
theorem dX11_dale_74 : decode cX11_dale 74 = .ok (.aload_n 0, 1) := by decide +kernel
theorem dX11_dale_75 : decode cX11_dale 75 = .ok (.iload 6, 2) := by decide +kernel
theorem dX11_dale_77 : decode cX11_dale 77 = .ok (.invokevirtual 86, 3) := by decide +kernel
theorem dX11_dale_80 : decode cX11_dale 80 = .ok (.ireturn, 1) := by decide +kernel
theorem dX11_dale_81 : decode cX11_dale 81 = .ok (.aload_n 0, 1) := by decide +kernel
theorem dX11_dale_82 : decode cX11_dale 82 = .ok (.getfield 47, 3) := by decide +kernel
theorem dX11_dale_85 : decode cX11_dale 85 = .ok (.aload 5, 2) := by decide +kernel
theorem dX11_dale_87 : decode cX11_dale 87 = .ok (.iload_n 3, 1) := by decide +kernel
theorem dX11_dale_88 : decode cX11_dale 88 = .ok (.iload 4, 2) := by decide +kernel
theorem dX11_dale_90 : decode cX11_dale 90 = .ok (.invokevirtual 89, 3) := by decide +kernel
theorem dX11_dale_93 : decode cX11_dale 93 = .ok (.istore 7, 2) := by decide +kernel
theorem dX11_dale_95 : decode cX11_dale 95 = .ok (.iload 7, 2) := by decide +kernel
theorem dX11_dale_97 : decode cX11_dale 97 = .ok (.bipush (-9), 2) := by decide +kernel
theorem dX11_dale_99 : decode cX11_dale 99 = .ok (.if_icmp .eq 9, 3) := by decide +kernel
theorem dX11_dale_102 : decode cX11_dale 102 = .ok (.bipush (-100), 2) := by decide +kernel
theorem dX11_dale_104 : decode cX11_dale 104 = .ok (.iload 7, 2) := by decide +kernel
theorem dX11_dale_106 : decode cX11_dale 106 = .ok (.isub, 1) := by decide +kernel
theorem dX11_dale_107 : decode cX11_dale 107 = .ok (.ireturn, 1) := by decide +kernel
theorem dX11_dale_108 : decode cX11_dale 108 = .ok (.aload_n 0, 1) := by decide +kernel
theorem dX11_dale_109 : decode cX11_dale 109 = .ok (.invokevirtual 93, 3) := by decide +kernel
theorem dX11_dale_112 : decode cX11_dale 112 = .ok (.aload_n 0, 1) := by decide +kernel
theorem dX11_dale_113 : decode cX11_dale 113 = .ok (.getfield 96, 3) := by decide +kernel
theorem dX11_dale_116 : decode cX11_dale 116 = .ok (.ireturn, 1) := by decide +kernel
theorem dX11_ofGirl_0 : decode cX11_ofGirl 0 = .ok (.aload_n 0, 1) := by decide +kernel
theorem dX11_ofGirl_1 : decode cX11_ofGirl 1 = .ok (.getfield 12, 3) := by decide +kernel
theorem dX11_ofGirl_4 : decode cX11_ofGirl 4 = .ok (.iload_n 1, 1) := by decide +kernel
theorem dX11_ofGirl_5 : decode cX11_ofGirl 5 = .ok (.invokevirtual 99, 3) := by decide +kernel
theorem dX11_ofGirl_8 : decode cX11_ofGirl 8 = .ok (.astore_n 3, 1) := by decide +kernel
theorem dX11_ofGirl_9 : decode cX11_ofGirl 9 = .ok (.aload_n 3, 1) := by decide +kernel
theorem dX11_ofGirl_10 : decode cX11_ofGirl 10 = .ok (.ifnonnull 5, 3) := by decide +kernel
theorem dX11_ofGirl_13 : decode cX11_ofGirl 13 = .ok (.iconst (-1), 1) := by decide +kernel
theorem dX11_ofGirl_14 : decode cX11_ofGirl 14 = .ok (.ireturn, 1) := by decide +kernel
theorem dX11_ofGirl_15 : decode cX11_ofGirl 15 = .ok (.iload_n 2, 1) := by decide +kernel
theorem dX11_ofGirl_16 : decode cX11_ofGirl 16 = .ok (.tableswitch 70 0 5 #[40, 45, 50, 55, 60, 65], 40) := by decide +kernel
theorem dX11_ofGirl_56 : decode cX11_ofGirl 56 = .ok (.aload_n 3, 1) := by decide +kernel
theorem dX11_ofGirl_57 : decode cX11_ofGirl 57 = .ok (.getfield 103, 3) := by decide +kernel
theorem dX11_ofGirl_60 : decode cX11_ofGirl 60 = .ok (.ireturn, 1) := by decide +kernel
theorem dX11_ofGirl_61 : decode cX11_ofGirl 61 = .ok (.aload_n 3, 1) := by decide +kernel
theorem dX11_ofGirl_62 : decode cX11_ofGirl 62 = .ok (.getfield 108, 3) := by decide +kernel
theorem dX11_ofGirl_65 : decode cX11_ofGirl 65 = .ok (.ireturn, 1) := by decide +kernel
theorem dX11_ofGirl_66 : decode cX11_ofGirl 66 = .ok (.aload_n 3, 1) := by decide +kernel
theorem dX11_ofGirl_67 : decode cX11_ofGirl 67 = .ok (.getfield 111, 3) := by decide +kernel
theorem dX11_ofGirl_70 : decode cX11_ofGirl 70 = .ok (.ireturn, 1) := by decide +kernel
theorem dX11_ofGirl_71 : decode cX11_ofGirl 71 = .ok (.aload_n 3, 1) := by decide +kernel
theorem dX11_ofGirl_72 : decode cX11_ofGirl 72 = .ok (.invokevirtual 114, 3) := by decide +kernel
theorem dX11_ofGirl_75 : decode cX11_ofGirl 75 = .ok (.ireturn, 1) := by decide +kernel
theorem dX11_ofGirl_76 : decode cX11_ofGirl 76 = .ok (.aload_n 3, 1) := by decide +kernel
theorem dX11_ofGirl_77 : decode cX11_ofGirl 77 = .ok (.invokevirtual 118, 3) := by decide +kernel
theorem dX11_ofGirl_80 : decode cX11_ofGirl 80 = .ok (.ireturn, 1) := by decide +kernel
theorem dX11_ofGirl_81 : decode cX11_ofGirl 81 = .ok (.aload_n 3, 1) := by decide +kernel
theorem dX11_ofGirl_82 : decode cX11_ofGirl 82 = .ok (.invokevirtual 121, 3) := by decide +kernel
theorem dX11_ofGirl_85 : decode cX11_ofGirl 85 = .ok (.ireturn, 1) := by decide +kernel
theorem dX11_ofGirl_86 : decode cX11_ofGirl 86 = .ok (.bipush (-2), 2) := by decide +kernel
theorem dX11_ofGirl_88 : decode cX11_ofGirl 88 = .ok (.ireturn, 1) := by decide +kernel
theorem dX11_ofThrower_0 : decode cX11_ofThrower 0 = .ok (.aload_n 0, 1) := by decide +kernel
theorem dX11_ofThrower_1 : decode cX11_ofThrower 1 = .ok (.iload_n 1, 1) := by decide +kernel
theorem dX11_ofThrower_2 : decode cX11_ofThrower 2 = .ok (.invokevirtual 124, 3) := by decide +kernel
theorem dX11_ofThrower_5 : decode cX11_ofThrower 5 = .ok (.astore_n 3, 1) := by decide +kernel
theorem dX11_ofThrower_6 : decode cX11_ofThrower 6 = .ok (.aload_n 3, 1) := by decide +kernel
theorem dX11_ofThrower_7 : decode cX11_ofThrower 7 = .ok (.ifnonnull 5, 3) := by decide +kernel
theorem dX11_ofThrower_10 : decode cX11_ofThrower 10 = .ok (.iconst (-1), 1) := by decide +kernel
theorem dX11_ofThrower_11 : decode cX11_ofThrower 11 = .ok (.ireturn, 1) := by decide +kernel
theorem dX11_ofThrower_12 : decode cX11_ofThrower 12 = .ok (.iload_n 2, 1) := by decide +kernel
theorem dX11_ofThrower_13 : decode cX11_ofThrower 13 = .ok (.tableswitch 68 0 4 #[35, 40, 45, 50, 59], 35) := by decide +kernel
theorem dX11_ofThrower_48 : decode cX11_ofThrower 48 = .ok (.aload_n 3, 1) := by decide +kernel
theorem dX11_ofThrower_49 : decode cX11_ofThrower 49 = .ok (.invokevirtual 128, 3) := by decide +kernel
theorem dX11_ofThrower_52 : decode cX11_ofThrower 52 = .ok (.ireturn, 1) := by decide +kernel
theorem dX11_ofThrower_53 : decode cX11_ofThrower 53 = .ok (.aload_n 3, 1) := by decide +kernel
theorem dX11_ofThrower_54 : decode cX11_ofThrower 54 = .ok (.getfield 131, 3) := by decide +kernel
theorem dX11_ofThrower_57 : decode cX11_ofThrower 57 = .ok (.ireturn, 1) := by decide +kernel
theorem dX11_ofThrower_58 : decode cX11_ofThrower 58 = .ok (.aload_n 3, 1) := by decide +kernel
theorem dX11_ofThrower_59 : decode cX11_ofThrower 59 = .ok (.invokevirtual 134, 3) := by decide +kernel
theorem dX11_ofThrower_62 : decode cX11_ofThrower 62 = .ok (.ireturn, 1) := by decide +kernel
theorem dX11_ofThrower_63 : decode cX11_ofThrower 63 = .ok (.aload_n 0, 1) := by decide +kernel
theorem dX11_ofThrower_64 : decode cX11_ofThrower 64 = .ok (.getfield 12, 3) := by decide +kernel
theorem dX11_ofThrower_67 : decode cX11_ofThrower 67 = .ok (.iload_n 1, 1) := by decide +kernel
theorem dX11_ofThrower_68 : decode cX11_ofThrower 68 = .ok (.invokevirtual 137, 3) := by decide +kernel
theorem dX11_ofThrower_71 : decode cX11_ofThrower 71 = .ok (.ireturn, 1) := by decide +kernel
theorem dX11_ofThrower_72 : decode cX11_ofThrower 72 = .ok (.aload_n 0, 1) := by decide +kernel
theorem dX11_ofThrower_73 : decode cX11_ofThrower 73 = .ok (.getfield 12, 3) := by decide +kernel
theorem dX11_ofThrower_76 : decode cX11_ofThrower 76 = .ok (.iload_n 1, 1) := by decide +kernel
theorem dX11_ofThrower_77 : decode cX11_ofThrower 77 = .ok (.invokevirtual 140, 3) := by decide +kernel
theorem dX11_ofThrower_80 : decode cX11_ofThrower 80 = .ok (.ireturn, 1) := by decide +kernel
theorem dX11_ofThrower_81 : decode cX11_ofThrower 81 = .ok (.bipush (-2), 2) := by decide +kernel
theorem dX11_ofThrower_83 : decode cX11_ofThrower 83 = .ok (.ireturn, 1) := by decide +kernel
theorem dX11_freeze_0 : decode cX11_freeze 0 = .ok (.iload_n 1, 1) := by decide +kernel
theorem dX11_freeze_1 : decode cX11_freeze 1 = .ok (.iconst 0, 1) := by decide +kernel
theorem dX11_freeze_2 : decode cX11_freeze 2 = .ok (.iconst 3, 1) := by decide +kernel
theorem dX11_freeze_3 : decode cX11_freeze 3 = .ok (.invokestatic 143, 3) := by decide +kernel
theorem dX11_freeze_6 : decode cX11_freeze 6 = .ok (.ifCond .ne 6, 3) := by decide +kernel
theorem dX11_freeze_9 : decode cX11_freeze 9 = .ok (.bipush (-2), 2) := by decide +kernel
theorem dX11_freeze_11 : decode cX11_freeze 11 = .ok (.ireturn, 1) := by decide +kernel
theorem dX11_freeze_12 : decode cX11_freeze 12 = .ok (.aload_n 0, 1) := by decide +kernel
theorem dX11_freeze_13 : decode cX11_freeze 13 = .ok (.getfield 96, 3) := by decide +kernel
theorem dX11_freeze_16 : decode cX11_freeze 16 = .ok (.ifCond .ne 6, 3) := by decide +kernel
theorem dX11_freeze_19 : decode cX11_freeze 19 = .ok (.bipush (-3), 2) := by decide +kernel
theorem dX11_freeze_21 : decode cX11_freeze 21 = .ok (.ireturn, 1) := by decide +kernel
theorem dX11_freeze_22 : decode cX11_freeze 22 = .ok (.aload_n 0, 1) := by decide +kernel
theorem dX11_freeze_23 : decode cX11_freeze 23 = .ok (.getfield 12, 3) := by decide +kernel
theorem dX11_freeze_26 : decode cX11_freeze 26 = .ok (.getfield 147, 3) := by decide +kernel
theorem dX11_freeze_29 : decode cX11_freeze 29 = .ok (.istore_n 2, 1) := by decide +kernel
theorem dX11_freeze_30 : decode cX11_freeze 30 = .ok (.aload_n 0, 1) := by decide +kernel
theorem dX11_freeze_31 : decode cX11_freeze 31 = .ok (.getfield 12, 3) := by decide +kernel
theorem dX11_freeze_34 : decode cX11_freeze 34 = .ok (.iload_n 1, 1) := by decide +kernel
theorem dX11_freeze_35 : decode cX11_freeze 35 = .ok (.putfield 147, 3) := by decide +kernel
theorem dX11_freeze_38 : decode cX11_freeze 38 = .ok (.iload_n 2, 1) := by decide +kernel
theorem dX11_freeze_39 : decode cX11_freeze 39 = .ok (.ireturn, 1) := by decide +kernel
theorem dX11_lean_0 : decode cX11_lean 0 = .ok (.aload_n 0, 1) := by decide +kernel
theorem dX11_lean_1 : decode cX11_lean 1 = .ok (.getfield 12, 3) := by decide +kernel
theorem dX11_lean_4 : decode cX11_lean 4 = .ok (.iload_n 1, 1) := by decide +kernel
theorem dX11_lean_5 : decode cX11_lean 5 = .ok (.invokevirtual 99, 3) := by decide +kernel
theorem dX11_lean_8 : decode cX11_lean 8 = .ok (.astore_n 3, 1) := by decide +kernel
theorem dX11_lean_9 : decode cX11_lean 9 = .ok (.aload_n 3, 1) := by decide +kernel
theorem dX11_lean_10 : decode cX11_lean 10 = .ok (.ifnonnull 5, 3) := by decide +kernel
theorem dX11_lean_13 : decode cX11_lean 13 = .ok (.iconst (-1), 1) := by decide +kernel
theorem dX11_lean_14 : decode cX11_lean 14 = .ok (.ireturn, 1) := by decide +kernel
theorem dX11_lean_15 : decode cX11_lean 15 = .ok (.iload_n 2, 1) := by decide +kernel
theorem dX11_lean_16 : decode cX11_lean 16 = .ok (.iconst 0, 1) := by decide +kernel
theorem dX11_lean_17 : decode cX11_lean 17 = .ok (.bipush 9, 2) := by decide +kernel
theorem dX11_lean_19 : decode cX11_lean 19 = .ok (.invokestatic 143, 3) := by decide +kernel
theorem dX11_lean_22 : decode cX11_lean 22 = .ok (.ifCond .ne 6, 3) := by decide +kernel
theorem dX11_lean_25 : decode cX11_lean 25 = .ok (.bipush (-2), 2) := by decide +kernel
theorem dX11_lean_27 : decode cX11_lean 27 = .ok (.ireturn, 1) := by decide +kernel
theorem dX11_lean_28 : decode cX11_lean 28 = .ok (.aload_n 3, 1) := by decide +kernel
theorem dX11_lean_29 : decode cX11_lean 29 = .ok (.getfield 108, 3) := by decide +kernel
theorem dX11_lean_32 : decode cX11_lean 32 = .ok (.istore 4, 2) := by decide +kernel
theorem dX11_lean_34 : decode cX11_lean 34 = .ok (.aload_n 3, 1) := by decide +kernel
theorem dX11_lean_35 : decode cX11_lean 35 = .ok (.iload_n 2, 1) := by decide +kernel
theorem dX11_lean_36 : decode cX11_lean 36 = .ok (.putfield 108, 3) := by decide +kernel
theorem dX11_lean_39 : decode cX11_lean 39 = .ok (.iload 4, 2) := by decide +kernel
theorem dX11_lean_41 : decode cX11_lean 41 = .ok (.ireturn, 1) := by decide +kernel
theorem dX11_place_0 : decode cX11_place 0 = .ok (.aload_n 0, 1) := by decide +kernel
theorem dX11_place_1 : decode cX11_place 1 = .ok (.getfield 12, 3) := by decide +kernel
theorem dX11_place_4 : decode cX11_place 4 = .ok (.iload_n 1, 1) := by decide +kernel
theorem dX11_place_5 : decode cX11_place 5 = .ok (.invokevirtual 99, 3) := by decide +kernel
theorem dX11_place_8 : decode cX11_place 8 = .ok (.astore_n 3, 1) := by decide +kernel
theorem dX11_place_9 : decode cX11_place 9 = .ok (.aload_n 3, 1) := by decide +kernel
theorem dX11_place_10 : decode cX11_place 10 = .ok (.ifnonnull 5, 3) := by decide +kernel
theorem dX11_place_13 : decode cX11_place 13 = .ok (.iconst (-1), 1) := by decide +kernel
theorem dX11_place_14 : decode cX11_place 14 = .ok (.ireturn, 1) := by decide +kernel
theorem dX11_place_15 : decode cX11_place 15 = .ok (.iload_n 2, 1) := by decide +kernel
theorem dX11_place_16 : decode cX11_place 16 = .ok (.iconst 1, 1) := by decide +kernel
theorem dX11_place_17 : decode cX11_place 17 = .ok (.bipush 9, 2) := by decide +kernel
theorem dX11_place_19 : decode cX11_place 19 = .ok (.invokestatic 143, 3) := by decide +kernel
theorem dX11_place_22 : decode cX11_place 22 = .ok (.ifCond .ne 6, 3) := by decide +kernel
theorem dX11_place_25 : decode cX11_place 25 = .ok (.bipush (-2), 2) := by decide +kernel
theorem dX11_place_27 : decode cX11_place 27 = .ok (.ireturn, 1) := by decide +kernel
theorem dX11_place_28 : decode cX11_place 28 = .ok (.aload_n 3, 1) := by decide +kernel
theorem dX11_place_29 : decode cX11_place 29 = .ok (.getfield 103, 3) := by decide +kernel
theorem dX11_place_32 : decode cX11_place 32 = .ok (.istore 4, 2) := by decide +kernel
theorem dX11_place_34 : decode cX11_place 34 = .ok (.aload_n 3, 1) := by decide +kernel
theorem dX11_place_35 : decode cX11_place 35 = .ok (.iload_n 2, 1) := by decide +kernel
theorem dX11_place_36 : decode cX11_place 36 = .ok (.putfield 103, 3) := by decide +kernel
theorem dX11_place_39 : decode cX11_place 39 = .ok (.iload 4, 2) := by decide +kernel
theorem dX11_place_41 : decode cX11_place 41 = .ok (.ireturn, 1) := by decide +kernel
theorem dX11_train_0 : decode cX11_train 0 = .ok (.aload_n 0, 1) := by decide +kernel
theorem dX11_train_1 : decode cX11_train 1 = .ok (.iload_n 1, 1) := by decide +kernel
theorem dX11_train_2 : decode cX11_train 2 = .ok (.invokevirtual 124, 3) := by decide +kernel
theorem dX11_train_5 : decode cX11_train 5 = .ok (.astore_n 3, 1) := by decide +kernel
theorem dX11_train_6 : decode cX11_train 6 = .ok (.aload_n 3, 1) := by decide +kernel
theorem dX11_train_7 : decode cX11_train 7 = .ok (.ifnonnull 5, 3) := by decide +kernel
theorem dX11_train_10 : decode cX11_train 10 = .ok (.iconst (-1), 1) := by decide +kernel
theorem dX11_train_11 : decode cX11_train 11 = .ok (.ireturn, 1) := by decide +kernel
theorem dX11_train_12 : decode cX11_train 12 = .ok (.iload_n 2, 1) := by decide +kernel
theorem dX11_train_13 : decode cX11_train 13 = .ok (.iconst 1, 1) := by decide +kernel
theorem dX11_train_14 : decode cX11_train 14 = .ok (.bipush 9, 2) := by decide +kernel
theorem dX11_train_16 : decode cX11_train 16 = .ok (.invokestatic 143, 3) := by decide +kernel
theorem dX11_train_19 : decode cX11_train 19 = .ok (.ifCond .ne 6, 3) := by decide +kernel
theorem dX11_train_22 : decode cX11_train 22 = .ok (.bipush (-2), 2) := by decide +kernel
theorem dX11_train_24 : decode cX11_train 24 = .ok (.ireturn, 1) := by decide +kernel
theorem dX11_train_25 : decode cX11_train 25 = .ok (.aload_n 3, 1) := by decide +kernel
theorem dX11_train_26 : decode cX11_train 26 = .ok (.getfield 131, 3) := by decide +kernel
theorem dX11_train_29 : decode cX11_train 29 = .ok (.istore 4, 2) := by decide +kernel
theorem dX11_train_31 : decode cX11_train 31 = .ok (.aload_n 3, 1) := by decide +kernel
theorem dX11_train_32 : decode cX11_train 32 = .ok (.iload_n 2, 1) := by decide +kernel
theorem dX11_train_33 : decode cX11_train 33 = .ok (.putfield 131, 3) := by decide +kernel
theorem dX11_train_36 : decode cX11_train 36 = .ok (.iload 4, 2) := by decide +kernel
theorem dX11_train_38 : decode cX11_train 38 = .ok (.ireturn, 1) := by decide +kernel
theorem dX11_measure_0 : decode cX11_measure 0 = .ok (.aload_n 0, 1) := by decide +kernel
theorem dX11_measure_1 : decode cX11_measure 1 = .ok (.iload_n 1, 1) := by decide +kernel
theorem dX11_measure_2 : decode cX11_measure 2 = .ok (.invokevirtual 124, 3) := by decide +kernel
theorem dX11_measure_5 : decode cX11_measure 5 = .ok (.astore_n 3, 1) := by decide +kernel
theorem dX11_measure_6 : decode cX11_measure 6 = .ok (.aload_n 0, 1) := by decide +kernel
theorem dX11_measure_7 : decode cX11_measure 7 = .ok (.getfield 12, 3) := by decide +kernel
theorem dX11_measure_10 : decode cX11_measure 10 = .ok (.iload_n 2, 1) := by decide +kernel
theorem dX11_measure_11 : decode cX11_measure 11 = .ok (.invokevirtual 99, 3) := by decide +kernel
theorem dX11_measure_14 : decode cX11_measure 14 = .ok (.astore 4, 2) := by decide +kernel
theorem dX11_measure_16 : decode cX11_measure 16 = .ok (.aload_n 3, 1) := by decide +kernel
theorem dX11_measure_17 : decode cX11_measure 17 = .ok (.ifnull 8, 3) := by decide +kernel
theorem dX11_measure_20 : decode cX11_measure 20 = .ok (.aload 4, 2) := by decide +kernel
theorem dX11_measure_22 : decode cX11_measure 22 = .ok (.ifnonnull 5, 3) := by decide +kernel
theorem dX11_measure_25 : decode cX11_measure 25 = .ok (.iconst (-1), 1) := by decide +kernel
theorem dX11_measure_26 : decode cX11_measure 26 = .ok (.ireturn, 1) := by decide +kernel
theorem dX11_measure_27 : decode cX11_measure 27 = .ok (.aload 4, 2) := by decide +kernel
theorem dX11_measure_29 : decode cX11_measure 29 = .ok (.aload_n 3, 1) := by decide +kernel
theorem dX11_measure_30 : decode cX11_measure 30 = .ok (.invokevirtual 134, 3) := by decide +kernel
theorem dX11_measure_33 : decode cX11_measure 33 = .ok (.aload_n 0, 1) := by decide +kernel
theorem dX11_measure_34 : decode cX11_measure 34 = .ok (.getfield 12, 3) := by decide +kernel
theorem dX11_measure_37 : decode cX11_measure 37 = .ok (.getfield 147, 3) := by decide +kernel
theorem dX11_measure_40 : decode cX11_measure 40 = .ok (.invokevirtual 150, 3) := by decide +kernel
theorem dX11_measure_43 : decode cX11_measure 43 = .ok (.ireturn, 1) := by decide +kernel
theorem dX11_hurl_0 : decode cX11_hurl 0 = .ok (.aload_n 0, 1) := by decide +kernel
theorem dX11_hurl_1 : decode cX11_hurl 1 = .ok (.iload_n 1, 1) := by decide +kernel
theorem dX11_hurl_2 : decode cX11_hurl 2 = .ok (.invokevirtual 124, 3) := by decide +kernel
theorem dX11_hurl_5 : decode cX11_hurl 5 = .ok (.astore_n 3, 1) := by decide +kernel
theorem dX11_hurl_6 : decode cX11_hurl 6 = .ok (.aload_n 0, 1) := by decide +kernel
theorem dX11_hurl_7 : decode cX11_hurl 7 = .ok (.getfield 12, 3) := by decide +kernel
theorem dX11_hurl_10 : decode cX11_hurl 10 = .ok (.iload_n 2, 1) := by decide +kernel
theorem dX11_hurl_11 : decode cX11_hurl 11 = .ok (.invokevirtual 99, 3) := by decide +kernel
theorem dX11_hurl_14 : decode cX11_hurl 14 = .ok (.astore 4, 2) := by decide +kernel
theorem dX11_hurl_16 : decode cX11_hurl 16 = .ok (.aload_n 3, 1) := by decide +kernel
theorem dX11_hurl_17 : decode cX11_hurl 17 = .ok (.ifnull 8, 3) := by decide +kernel
theorem dX11_hurl_20 : decode cX11_hurl 20 = .ok (.aload 4, 2) := by decide +kernel
theorem dX11_hurl_22 : decode cX11_hurl 22 = .ok (.ifnonnull 5, 3) := by decide +kernel
theorem dX11_hurl_25 : decode cX11_hurl 25 = .ok (.iconst (-1), 1) := by decide +kernel
theorem dX11_hurl_26 : decode cX11_hurl 26 = .ok (.ireturn, 1) := by decide +kernel
theorem dX11_hurl_27 : decode cX11_hurl 27 = .ok (.aload 4, 2) := by decide +kernel
theorem dX11_hurl_29 : decode cX11_hurl 29 = .ok (.invokevirtual 154, 3) := by decide +kernel
theorem dX11_hurl_32 : decode cX11_hurl 32 = .ok (.ifCond .eq 6, 3) := by decide +kernel
theorem dX11_hurl_35 : decode cX11_hurl 35 = .ok (.bipush (-4), 2) := by decide +kernel
theorem dX11_hurl_37 : decode cX11_hurl 37 = .ok (.ireturn, 1) := by decide +kernel
theorem dX11_hurl_38 : decode cX11_hurl 38 = .ok (.aload 4, 2) := by decide +kernel
theorem dX11_hurl_40 : decode cX11_hurl 40 = .ok (.aload_n 3, 1) := by decide +kernel
theorem dX11_hurl_41 : decode cX11_hurl 41 = .ok (.invokevirtual 134, 3) := by decide +kernel
theorem dX11_hurl_44 : decode cX11_hurl 44 = .ok (.aload_n 0, 1) := by decide +kernel
theorem dX11_hurl_45 : decode cX11_hurl 45 = .ok (.getfield 12, 3) := by decide +kernel
theorem dX11_hurl_48 : decode cX11_hurl 48 = .ok (.getfield 147, 3) := by decide +kernel
theorem dX11_hurl_51 : decode cX11_hurl 51 = .ok (.invokevirtual 150, 3) := by decide +kernel
theorem dX11_hurl_54 : decode cX11_hurl 54 = .ok (.istore 5, 2) := by decide +kernel
theorem dX11_hurl_56 : decode cX11_hurl 56 = .ok (.aload 4, 2) := by decide +kernel
theorem dX11_hurl_58 : decode cX11_hurl 58 = .ok (.iload_n 1, 1) := by decide +kernel
theorem dX11_hurl_59 : decode cX11_hurl 59 = .ok (.iload 5, 2) := by decide +kernel
theorem dX11_hurl_61 : decode cX11_hurl 61 = .ok (.invokevirtual 158, 3) := by decide +kernel
theorem dX11_hurl_64 : decode cX11_hurl 64 = .ok (.iload 5, 2) := by decide +kernel
theorem dX11_hurl_66 : decode cX11_hurl 66 = .ok (.ireturn, 1) := by decide +kernel
theorem dX11_lift_0 : decode cX11_lift 0 = .ok (.aload_n 0, 1) := by decide +kernel
theorem dX11_lift_1 : decode cX11_lift 1 = .ok (.getfield 12, 3) := by decide +kernel
theorem dX11_lift_4 : decode cX11_lift 4 = .ok (.iload_n 1, 1) := by decide +kernel
theorem dX11_lift_5 : decode cX11_lift 5 = .ok (.invokevirtual 99, 3) := by decide +kernel
theorem dX11_lift_8 : decode cX11_lift 8 = .ok (.astore_n 2, 1) := by decide +kernel
theorem dX11_lift_9 : decode cX11_lift 9 = .ok (.aload_n 2, 1) := by decide +kernel
theorem dX11_lift_10 : decode cX11_lift 10 = .ok (.ifnonnull 5, 3) := by decide +kernel
theorem dX11_lift_13 : decode cX11_lift 13 = .ok (.iconst (-1), 1) := by decide +kernel
theorem dX11_lift_14 : decode cX11_lift 14 = .ok (.ireturn, 1) := by decide +kernel
theorem dX11_lift_15 : decode cX11_lift 15 = .ok (.aload_n 2, 1) := by decide +kernel
theorem dX11_lift_16 : decode cX11_lift 16 = .ok (.getfield 111, 3) := by decide +kernel
theorem dX11_lift_19 : decode cX11_lift 19 = .ok (.ifCond .ne 6, 3) := by decide +kernel
theorem dX11_lift_22 : decode cX11_lift 22 = .ok (.bipush (-3), 2) := by decide +kernel
theorem dX11_lift_24 : decode cX11_lift 24 = .ok (.ireturn, 1) := by decide +kernel
theorem dX11_lift_25 : decode cX11_lift 25 = .ok (.aload_n 2, 1) := by decide +kernel
theorem dX11_lift_26 : decode cX11_lift 26 = .ok (.invokevirtual 162, 3) := by decide +kernel
theorem dX11_lift_29 : decode cX11_lift 29 = .ok (.ireturn, 1) := by decide +kernel
theorem dX11_clear_0 : decode cX11_clear 0 = .ok (.aload_n 0, 1) := by decide +kernel
theorem dX11_clear_1 : decode cX11_clear 1 = .ok (.getfield 12, 3) := by decide +kernel
theorem dX11_clear_4 : decode cX11_clear 4 = .ok (.iload_n 1, 1) := by decide +kernel
theorem dX11_clear_5 : decode cX11_clear 5 = .ok (.invokevirtual 99, 3) := by decide +kernel
theorem dX11_clear_8 : decode cX11_clear 8 = .ok (.astore_n 2, 1) := by decide +kernel
theorem dX11_clear_9 : decode cX11_clear 9 = .ok (.aload_n 2, 1) := by decide +kernel
theorem dX11_clear_10 : decode cX11_clear 10 = .ok (.ifnonnull 5, 3) := by decide +kernel
theorem dX11_clear_13 : decode cX11_clear 13 = .ok (.iconst (-1), 1) := by decide +kernel
theorem dX11_clear_14 : decode cX11_clear 14 = .ok (.ireturn, 1) := by decide +kernel
theorem dX11_clear_15 : decode cX11_clear 15 = .ok (.aload_n 2, 1) := by decide +kernel
theorem dX11_clear_16 : decode cX11_clear 16 = .ok (.getfield 111, 3) := by decide +kernel
theorem dX11_clear_19 : decode cX11_clear 19 = .ok (.istore_n 3, 1) := by decide +kernel
theorem dX11_clear_20 : decode cX11_clear 20 = .ok (.aload_n 2, 1) := by decide +kernel
theorem dX11_clear_21 : decode cX11_clear 21 = .ok (.iconst 0, 1) := by decide +kernel
theorem dX11_clear_22 : decode cX11_clear 22 = .ok (.putfield 111, 3) := by decide +kernel
theorem dX11_clear_25 : decode cX11_clear 25 = .ok (.iload_n 3, 1) := by decide +kernel
theorem dX11_clear_26 : decode cX11_clear 26 = .ok (.ireturn, 1) := by decide +kernel
theorem dX11_feast_0 : decode cX11_feast 0 = .ok (.aload_n 0, 1) := by decide +kernel
theorem dX11_feast_1 : decode cX11_feast 1 = .ok (.iconst 0, 1) := by decide +kernel
theorem dX11_feast_2 : decode cX11_feast 2 = .ok (.putfield 66, 3) := by decide +kernel
theorem dX11_feast_5 : decode cX11_feast 5 = .ok (.aload_n 0, 1) := by decide +kernel
theorem dX11_feast_6 : decode cX11_feast 6 = .ok (.iload_n 1, 1) := by decide +kernel
theorem dX11_feast_7 : decode cX11_feast 7 = .ok (.invokevirtual 70, 3) := by decide +kernel
theorem dX11_feast_10 : decode cX11_feast 10 = .ok (.astore 6, 2) := by decide +kernel
theorem dX11_feast_12 : decode cX11_feast 12 = .ok (.aload 6, 2) := by decide +kernel
theorem dX11_feast_14 : decode cX11_feast 14 = .ok (.ifnonnull 5, 3) := by decide +kernel
theorem dX11_feast_17 : decode cX11_feast 17 = .ok (.iconst (-1), 1) := by decide +kernel
theorem dX11_feast_18 : decode cX11_feast 18 = .ok (.ireturn, 1) := by decide +kernel
theorem dX11_feast_19 : decode cX11_feast 19 = .ok (.iload_n 2, 1) := by decide +kernel
theorem dX11_feast_20 : decode cX11_feast 20 = .ok (.invokestatic 74, 3) := by decide +kernel
theorem dX11_feast_23 : decode cX11_feast 23 = .ok (.ifCond .eq 22, 3) := by decide +kernel
theorem dX11_feast_26 : decode cX11_feast 26 = .ok (.iload 4, 2) := by decide +kernel
theorem dX11_feast_28 : decode cX11_feast 28 = .ok (.iconst 0, 1) := by decide +kernel
theorem dX11_feast_29 : decode cX11_feast 29 = .ok (.bipush 20, 2) := by decide +kernel
theorem dX11_feast_31 : decode cX11_feast 31 = .ok (.invokestatic 143, 3) := by decide +kernel
theorem dX11_feast_34 : decode cX11_feast 34 = .ok (.ifCond .eq 11, 3) := by decide +kernel
theorem dX11_feast_37 : decode cX11_feast 37 = .ok (.iload 5, 2) := by decide +kernel
theorem dX11_feast_39 : decode cX11_feast 39 = .ok (.invokestatic 165, 3) := by decide +kernel
theorem dX11_feast_42 : decode cX11_feast 42 = .ok (.ifCond .ne 6, 3) := by decide +kernel
theorem dX11_feast_45 : decode cX11_feast 45 = .ok (.bipush (-2), 2) := by decide +kernel
theorem dX11_feast_47 : decode cX11_feast 47 = .ok (.ireturn, 1) := by decide +kernel
theorem dX11_feast_48 : decode cX11_feast 48 = .ok (.aload 6, 2) := by decide +kernel
theorem dX11_feast_50 : decode cX11_feast 50 = .ok (.iload_n 2, 1) := by decide +kernel
theorem dX11_feast_51 : decode cX11_feast 51 = .ok (.invokevirtual 78, 3) := by decide +kernel
theorem dX11_feast_54 : decode cX11_feast 54 = .ok (.istore 7, 2) := by decide +kernel
theorem dX11_feast_56 : decode cX11_feast 56 = .ok (.iload 7, 2) := by decide +kernel
theorem dX11_feast_58 : decode cX11_feast 58 = .ok (.ifCond .ne 19, 3) := by decide +kernel
theorem dX11_feast_61 : decode cX11_feast 61 = .ok (.aload 6, 2) := by decide +kernel
theorem dX11_feast_63 : decode cX11_feast 63 = .ok (.iload_n 3, 1) := by decide +kernel
theorem dX11_feast_64 : decode cX11_feast 64 = .ok (.iconst 2, 1) := by decide +kernel
theorem dX11_feast_65 : decode cX11_feast 65 = .ok (.iload 4, 2) := by decide +kernel
theorem dX11_feast_67 : decode cX11_feast 67 = .ok (.imul, 1) := by decide +kernel
theorem dX11_feast_68 : decode cX11_feast 68 = .ok (.invokevirtual 82, 3) := by decide +kernel
theorem dX11_feast_71 : decode cX11_feast 71 = .ok (.ifCond .ne 6, 3) := by decide +kernel
theorem dX11_feast_74 : decode cX11_feast 74 = .ok (.iconst 3, 1) := by decide +kernel
theorem dX11_feast_75 : decode cX11_feast 75 = .ok (.istore 7, 2) := by decide +kernel
theorem dX11_feast_77 : decode cX11_feast 77 = .ok (.iload 7, 2) := by decide +kernel
theorem dX11_feast_79 : decode cX11_feast 79 = .ok (.ifCond .eq 10, 3) := by decide +kernel
theorem dX11_feast_82 : decode cX11_feast 82 = .ok (.aload_n 0, 1) := by decide +kernel
theorem dX11_feast_83 : decode cX11_feast 83 = .ok (.iload 7, 2) := by decide +kernel
theorem dX11_feast_85 : decode cX11_feast 85 = .ok (.invokevirtual 86, 3) := by decide +kernel
theorem dX11_feast_88 : decode cX11_feast 88 = .ok (.ireturn, 1) := by decide +kernel
theorem dX11_feast_89 : decode cX11_feast 89 = .ok (.aload_n 0, 1) := by decide +kernel
theorem dX11_feast_90 : decode cX11_feast 90 = .ok (.getfield 96, 3) := by decide +kernel
theorem dX11_feast_93 : decode cX11_feast 93 = .ok (.ifCond .ne 6, 3) := by decide +kernel
theorem dX11_feast_96 : decode cX11_feast 96 = .ok (.bipush (-3), 2) := by decide +kernel
theorem dX11_feast_98 : decode cX11_feast 98 = .ok (.ireturn, 1) := by decide +kernel
theorem dX11_feast_99 : decode cX11_feast 99 = .ok (.aload_n 0, 1) := by decide +kernel
theorem dX11_feast_100 : decode cX11_feast 100 = .ok (.aload 6, 2) := by decide +kernel
theorem dX11_feast_102 : decode cX11_feast 102 = .ok (.iload_n 3, 1) := by decide +kernel
theorem dX11_feast_103 : decode cX11_feast 103 = .ok (.iload 4, 2) := by decide +kernel
theorem dX11_feast_105 : decode cX11_feast 105 = .ok (.invokevirtual 168, 3) := by decide +kernel
theorem dX11_feast_108 : decode cX11_feast 108 = .ok (.istore 8, 2) := by decide +kernel
theorem dX11_feast_110 : decode cX11_feast 110 = .ok (.iload 8, 2) := by decide +kernel
theorem dX11_feast_112 : decode cX11_feast 112 = .ok (.ifCond .eq 6, 3) := by decide +kernel
theorem dX11_feast_115 : decode cX11_feast 115 = .ok (.iload 8, 2) := by decide +kernel
theorem dX11_feast_117 : decode cX11_feast 117 = .ok (.ireturn, 1) := by decide +kernel
theorem dX11_feast_118 : decode cX11_feast 118 = .ok (.aload_n 0, 1) := by decide +kernel
theorem dX11_feast_119 : decode cX11_feast 119 = .ok (.aload 6, 2) := by decide +kernel
theorem dX11_feast_121 : decode cX11_feast 121 = .ok (.iload_n 3, 1) := by decide +kernel
theorem dX11_feast_122 : decode cX11_feast 122 = .ok (.iload 4, 2) := by decide +kernel
theorem dX11_feast_124 : decode cX11_feast 124 = .ok (.invokevirtual 171, 3) := by decide +kernel
theorem dX11_feast_127 : decode cX11_feast 127 = .ok (.aload_n 0, 1) := by decide +kernel
theorem dX11_feast_128 : decode cX11_feast 128 = .ok (.getfield 54, 3) := by decide +kernel
theorem dX11_feast_131 : decode cX11_feast 131 = .ok (.iload 5, 2) := by decide +kernel
theorem dX11_feast_133 : decode cX11_feast 133 = .ok (.invokevirtual 175, 3) := by decide +kernel
theorem dX11_feast_136 : decode cX11_feast 136 = .ok (.ireturn, 1) := by decide +kernel
theorem dX11_wins_0 : decode cX11_wins 0 = .ok (.aload_n 0, 1) := by decide +kernel
theorem dX11_wins_1 : decode cX11_wins 1 = .ok (.iload_n 1, 1) := by decide +kernel
theorem dX11_wins_2 : decode cX11_wins 2 = .ok (.invokevirtual 124, 3) := by decide +kernel
theorem dX11_wins_5 : decode cX11_wins 5 = .ok (.astore_n 2, 1) := by decide +kernel
theorem dX11_wins_6 : decode cX11_wins 6 = .ok (.aload_n 2, 1) := by decide +kernel
theorem dX11_wins_7 : decode cX11_wins 7 = .ok (.ifnonnull 7, 3) := by decide +kernel
theorem dX11_wins_10 : decode cX11_wins 10 = .ok (.iconst (-1), 1) := by decide +kernel
theorem dX11_wins_11 : decode cX11_wins 11 = .ok (.goto 8, 3) := by decide +kernel
theorem dX11_wins_14 : decode cX11_wins 14 = .ok (.aload_n 0, 1) := by decide +kernel
theorem dX11_wins_15 : decode cX11_wins 15 = .ok (.aload_n 2, 1) := by decide +kernel
theorem dX11_wins_16 : decode cX11_wins 16 = .ok (.invokevirtual 178, 3) := by decide +kernel
theorem dX11_wins_19 : decode cX11_wins 19 = .ok (.ireturn, 1) := by decide +kernel
theorem dX11_match_0 : decode cX11_match 0 = .ok (.iload_n 1, 1) := by decide +kernel
theorem dX11_match_1 : decode cX11_match 1 = .ok (.bipush (-2), 2) := by decide +kernel
theorem dX11_match_3 : decode cX11_match 3 = .ok (.iconst 4, 1) := by decide +kernel
theorem dX11_match_4 : decode cX11_match 4 = .ok (.invokestatic 143, 3) := by decide +kernel
theorem dX11_match_7 : decode cX11_match 7 = .ok (.ifCond .ne 6, 3) := by decide +kernel
theorem dX11_match_10 : decode cX11_match 10 = .ok (.bipush (-2), 2) := by decide +kernel
theorem dX11_match_12 : decode cX11_match 12 = .ok (.ireturn, 1) := by decide +kernel
theorem dX11_match_13 : decode cX11_match 13 = .ok (.aload_n 0, 1) := by decide +kernel
theorem dX11_match_14 : decode cX11_match 14 = .ok (.getfield 96, 3) := by decide +kernel
theorem dX11_match_17 : decode cX11_match 17 = .ok (.ifCond .ne 6, 3) := by decide +kernel
theorem dX11_match_20 : decode cX11_match 20 = .ok (.bipush (-3), 2) := by decide +kernel
theorem dX11_match_22 : decode cX11_match 22 = .ok (.ireturn, 1) := by decide +kernel
theorem dX11_match_23 : decode cX11_match 23 = .ok (.aload_n 0, 1) := by decide +kernel
theorem dX11_match_24 : decode cX11_match 24 = .ok (.invokevirtual 182, 3) := by decide +kernel
theorem dX11_match_27 : decode cX11_match 27 = .ok (.aload_n 0, 1) := by decide +kernel
theorem dX11_match_28 : decode cX11_match 28 = .ok (.getfield 61, 3) := by decide +kernel
theorem dX11_match_31 : decode cX11_match 31 = .ok (.invokevirtual 185, 3) := by decide +kernel
theorem dX11_match_34 : decode cX11_match 34 = .ok (.iload_n 1, 1) := by decide +kernel
theorem dX11_match_35 : decode cX11_match 35 = .ok (.bipush (-2), 2) := by decide +kernel
theorem dX11_match_37 : decode cX11_match 37 = .ok (.if_icmp .ne 11, 3) := by decide +kernel
theorem dX11_match_40 : decode cX11_match 40 = .ok (.aload_n 0, 1) := by decide +kernel
theorem dX11_match_41 : decode cX11_match 41 = .ok (.getfield 61, 3) := by decide +kernel
theorem dX11_match_44 : decode cX11_match 44 = .ok (.invokevirtual 188, 3) := by decide +kernel
theorem dX11_match_47 : decode cX11_match 47 = .ok (.ireturn, 1) := by decide +kernel
theorem dX11_match_48 : decode cX11_match 48 = .ok (.iload_n 1, 1) := by decide +kernel
theorem dX11_match_49 : decode cX11_match 49 = .ok (.iconst (-1), 1) := by decide +kernel
theorem dX11_match_50 : decode cX11_match 50 = .ok (.if_icmp .ne 13, 3) := by decide +kernel
theorem dX11_match_53 : decode cX11_match 53 = .ok (.aload_n 0, 1) := by decide +kernel
theorem dX11_match_54 : decode cX11_match 54 = .ok (.getfield 61, 3) := by decide +kernel
theorem dX11_match_57 : decode cX11_match 57 = .ok (.invokevirtual 191, 3) := by decide +kernel
theorem dX11_match_60 : decode cX11_match 60 = .ok (.goto 11, 3) := by decide +kernel
theorem dX11_match_63 : decode cX11_match 63 = .ok (.aload_n 0, 1) := by decide +kernel
theorem dX11_match_64 : decode cX11_match 64 = .ok (.getfield 61, 3) := by decide +kernel
theorem dX11_match_67 : decode cX11_match 67 = .ok (.iload_n 1, 1) := by decide +kernel
theorem dX11_match_68 : decode cX11_match 68 = .ok (.invokevirtual 194, 3) := by decide +kernel
theorem dX11_match_71 : decode cX11_match 71 = .ok (.ireturn, 1) := by decide +kernel
theorem dX11_weds_0 : decode cX11_weds 0 = .ok (.aload_n 0, 1) := by decide +kernel
theorem dX11_weds_1 : decode cX11_weds 1 = .ok (.iload_n 1, 1) := by decide +kernel
theorem dX11_weds_2 : decode cX11_weds 2 = .ok (.invokevirtual 124, 3) := by decide +kernel
theorem dX11_weds_5 : decode cX11_weds 5 = .ok (.ifnonnull 5, 3) := by decide +kernel
theorem dX11_weds_8 : decode cX11_weds 8 = .ok (.iconst (-1), 1) := by decide +kernel
theorem dX11_weds_9 : decode cX11_weds 9 = .ok (.ireturn, 1) := by decide +kernel
theorem dX11_weds_10 : decode cX11_weds 10 = .ok (.aload_n 0, 1) := by decide +kernel
theorem dX11_weds_11 : decode cX11_weds 11 = .ok (.invokevirtual 182, 3) := by decide +kernel
theorem dX11_weds_14 : decode cX11_weds 14 = .ok (.aload_n 0, 1) := by decide +kernel
theorem dX11_weds_15 : decode cX11_weds 15 = .ok (.getfield 61, 3) := by decide +kernel
theorem dX11_weds_18 : decode cX11_weds 18 = .ok (.invokevirtual 197, 3) := by decide +kernel
theorem dX11_weds_21 : decode cX11_weds 21 = .ok (.aload_n 0, 1) := by decide +kernel
theorem dX11_weds_22 : decode cX11_weds 22 = .ok (.getfield 61, 3) := by decide +kernel
theorem dX11_weds_25 : decode cX11_weds 25 = .ok (.iload_n 1, 1) := by decide +kernel
theorem dX11_weds_26 : decode cX11_weds 26 = .ok (.invokevirtual 194, 3) := by decide +kernel
theorem dX11_weds_29 : decode cX11_weds 29 = .ok (.ireturn, 1) := by decide +kernel
theorem dX11_even_0 : decode cX11_even 0 = .ok (.aload_n 0, 1) := by decide +kernel
theorem dX11_even_1 : decode cX11_even 1 = .ok (.iload_n 1, 1) := by decide +kernel
theorem dX11_even_2 : decode cX11_even 2 = .ok (.invokevirtual 124, 3) := by decide +kernel
theorem dX11_even_5 : decode cX11_even 5 = .ok (.astore 4, 2) := by decide +kernel
theorem dX11_even_7 : decode cX11_even 7 = .ok (.aload_n 0, 1) := by decide +kernel
theorem dX11_even_8 : decode cX11_even 8 = .ok (.iload_n 2, 1) := by decide +kernel
theorem dX11_even_9 : decode cX11_even 9 = .ok (.invokevirtual 124, 3) := by decide +kernel
theorem dX11_even_12 : decode cX11_even 12 = .ok (.astore 5, 2) := by decide +kernel
theorem dX11_even_14 : decode cX11_even 14 = .ok (.aload_n 0, 1) := by decide +kernel
theorem dX11_even_15 : decode cX11_even 15 = .ok (.getfield 12, 3) := by decide +kernel
theorem dX11_even_18 : decode cX11_even 18 = .ok (.iload_n 3, 1) := by decide +kernel
theorem dX11_even_19 : decode cX11_even 19 = .ok (.invokevirtual 99, 3) := by decide +kernel
theorem dX11_even_22 : decode cX11_even 22 = .ok (.astore 6, 2) := by decide +kernel
theorem dX11_even_24 : decode cX11_even 24 = .ok (.aload 4, 2) := by decide +kernel
theorem dX11_even_26 : decode cX11_even 26 = .ok (.ifnull 18, 3) := by decide +kernel
theorem dX11_even_29 : decode cX11_even 29 = .ok (.aload 5, 2) := by decide +kernel
theorem dX11_even_31 : decode cX11_even 31 = .ok (.ifnull 13, 3) := by decide +kernel
theorem dX11_even_34 : decode cX11_even 34 = .ok (.iload_n 1, 1) := by decide +kernel
theorem dX11_even_35 : decode cX11_even 35 = .ok (.iload_n 2, 1) := by decide +kernel
theorem dX11_even_36 : decode cX11_even 36 = .ok (.if_icmp .eq 8, 3) := by decide +kernel
theorem dX11_even_39 : decode cX11_even 39 = .ok (.aload 6, 2) := by decide +kernel
theorem dX11_even_41 : decode cX11_even 41 = .ok (.ifnonnull 5, 3) := by decide +kernel
theorem dX11_even_44 : decode cX11_even 44 = .ok (.iconst (-1), 1) := by decide +kernel
theorem dX11_even_45 : decode cX11_even 45 = .ok (.ireturn, 1) := by decide +kernel
theorem dX11_even_46 : decode cX11_even 46 = .ok (.bipush (-9), 2) := by decide +kernel
theorem dX11_even_48 : decode cX11_even 48 = .ok (.istore 7, 2) := by decide +kernel
theorem dX11_even_50 : decode cX11_even 50 = .ok (.iconst 1, 1) := by decide +kernel
theorem dX11_even_51 : decode cX11_even 51 = .ok (.istore 8, 2) := by decide +kernel
theorem dX11_even_53 : decode cX11_even 53 = .ok (.iload 8, 2) := by decide +kernel
theorem dX11_even_55 : decode cX11_even 55 = .ok (.bipush 9, 2) := by decide +kernel
theorem dX11_even_57 : decode cX11_even 57 = .ok (.if_icmp .gt 110, 3) := by decide +kernel
theorem dX11_even_60 : decode cX11_even 60 = .ok (.aload 4, 2) := by decide +kernel
theorem dX11_even_62 : decode cX11_even 62 = .ok (.invokevirtual 134, 3) := by decide +kernel
theorem dX11_even_65 : decode cX11_even 65 = .ok (.iload 8, 2) := by decide +kernel
theorem dX11_even_67 : decode cX11_even 67 = .ok (.aload 6, 2) := by decide +kernel
theorem dX11_even_69 : decode cX11_even 69 = .ok (.getfield 108, 3) := by decide +kernel
theorem dX11_even_72 : decode cX11_even 72 = .ok (.aload_n 0, 1) := by decide +kernel
theorem dX11_even_73 : decode cX11_even 73 = .ok (.getfield 12, 3) := by decide +kernel
theorem dX11_even_76 : decode cX11_even 76 = .ok (.getfield 147, 3) := by decide +kernel
theorem dX11_even_79 : decode cX11_even 79 = .ok (.invokestatic 200, 3) := by decide +kernel
theorem dX11_even_82 : decode cX11_even 82 = .ok (.istore 9, 2) := by decide +kernel
theorem dX11_even_84 : decode cX11_even 84 = .ok (.aload 5, 2) := by decide +kernel
theorem dX11_even_86 : decode cX11_even 86 = .ok (.invokevirtual 134, 3) := by decide +kernel
theorem dX11_even_89 : decode cX11_even 89 = .ok (.iload 8, 2) := by decide +kernel
theorem dX11_even_91 : decode cX11_even 91 = .ok (.aload 6, 2) := by decide +kernel
theorem dX11_even_93 : decode cX11_even 93 = .ok (.getfield 108, 3) := by decide +kernel
theorem dX11_even_96 : decode cX11_even 96 = .ok (.aload_n 0, 1) := by decide +kernel
theorem dX11_even_97 : decode cX11_even 97 = .ok (.getfield 12, 3) := by decide +kernel
theorem dX11_even_100 : decode cX11_even 100 = .ok (.getfield 147, 3) := by decide +kernel
theorem dX11_even_103 : decode cX11_even 103 = .ok (.invokestatic 200, 3) := by decide +kernel
theorem dX11_even_106 : decode cX11_even 106 = .ok (.istore 10, 2) := by decide +kernel
theorem dX11_even_108 : decode cX11_even 108 = .ok (.iload 7, 2) := by decide +kernel
theorem dX11_even_110 : decode cX11_even 110 = .ok (.bipush (-9), 2) := by decide +kernel
theorem dX11_even_112 : decode cX11_even 112 = .ok (.if_icmp .eq 26, 3) := by decide +kernel
theorem dX11_even_115 : decode cX11_even 115 = .ok (.iload 8, 2) := by decide +kernel
theorem dX11_even_117 : decode cX11_even 117 = .ok (.aload 6, 2) := by decide +kernel
theorem dX11_even_119 : decode cX11_even 119 = .ok (.getfield 103, 3) := by decide +kernel
theorem dX11_even_122 : decode cX11_even 122 = .ok (.invokestatic 204, 3) := by decide +kernel
theorem dX11_even_125 : decode cX11_even 125 = .ok (.iload 7, 2) := by decide +kernel
theorem dX11_even_127 : decode cX11_even 127 = .ok (.aload 6, 2) := by decide +kernel
theorem dX11_even_129 : decode cX11_even 129 = .ok (.getfield 103, 3) := by decide +kernel
theorem dX11_even_132 : decode cX11_even 132 = .ok (.invokestatic 204, 3) := by decide +kernel
theorem dX11_even_135 : decode cX11_even 135 = .ok (.if_icmp .ge 7, 3) := by decide +kernel
theorem dX11_even_138 : decode cX11_even 138 = .ok (.iconst 1, 1) := by decide +kernel
theorem dX11_even_139 : decode cX11_even 139 = .ok (.goto 4, 3) := by decide +kernel
theorem dX11_even_142 : decode cX11_even 142 = .ok (.iconst 0, 1) := by decide +kernel
theorem dX11_even_143 : decode cX11_even 143 = .ok (.istore 11, 2) := by decide +kernel
theorem dX11_even_145 : decode cX11_even 145 = .ok (.iload 9, 2) := by decide +kernel
theorem dX11_even_147 : decode cX11_even 147 = .ok (.iload 10, 2) := by decide +kernel
theorem dX11_even_149 : decode cX11_even 149 = .ok (.if_icmp .ne 12, 3) := by decide +kernel
theorem dX11_even_152 : decode cX11_even 152 = .ok (.iload 11, 2) := by decide +kernel
theorem dX11_even_154 : decode cX11_even 154 = .ok (.ifCond .eq 7, 3) := by decide +kernel
theorem dX11_even_157 : decode cX11_even 157 = .ok (.iload 8, 2) := by decide +kernel
theorem dX11_even_159 : decode cX11_even 159 = .ok (.istore 7, 2) := by decide +kernel
theorem dX11_even_161 : decode cX11_even 161 = .ok (.iinc 8 1, 3) := by decide +kernel
theorem dX11_even_164 : decode cX11_even 164 = .ok (.goto (-111), 3) := by decide +kernel
theorem dX11_even_167 : decode cX11_even 167 = .ok (.iload 7, 2) := by decide +kernel
theorem dX11_even_169 : decode cX11_even 169 = .ok (.ireturn, 1) := by decide +kernel
theorem dX11_reading_0 : decode cX11_reading 0 = .ok (.aload_n 0, 1) := by decide +kernel
theorem dX11_reading_1 : decode cX11_reading 1 = .ok (.iload_n 1, 1) := by decide +kernel
theorem dX11_reading_2 : decode cX11_reading 2 = .ok (.invokevirtual 124, 3) := by decide +kernel
theorem dX11_reading_5 : decode cX11_reading 5 = .ok (.ifnull 14, 3) := by decide +kernel
theorem dX11_reading_8 : decode cX11_reading 8 = .ok (.aload_n 0, 1) := by decide +kernel
theorem dX11_reading_9 : decode cX11_reading 9 = .ok (.getfield 12, 3) := by decide +kernel
theorem dX11_reading_12 : decode cX11_reading 12 = .ok (.iload_n 2, 1) := by decide +kernel
theorem dX11_reading_13 : decode cX11_reading 13 = .ok (.invokevirtual 99, 3) := by decide +kernel
theorem dX11_reading_16 : decode cX11_reading 16 = .ok (.ifnonnull 5, 3) := by decide +kernel
theorem dX11_reading_19 : decode cX11_reading 19 = .ok (.iconst (-1), 1) := by decide +kernel
theorem dX11_reading_20 : decode cX11_reading 20 = .ok (.ireturn, 1) := by decide +kernel
theorem dX11_reading_21 : decode cX11_reading 21 = .ok (.iload_n 3, 1) := by decide +kernel
theorem dX11_reading_22 : decode cX11_reading 22 = .ok (.iconst 0, 1) := by decide +kernel
theorem dX11_reading_23 : decode cX11_reading 23 = .ok (.bipush 20, 2) := by decide +kernel
theorem dX11_reading_25 : decode cX11_reading 25 = .ok (.invokestatic 143, 3) := by decide +kernel
theorem dX11_reading_28 : decode cX11_reading 28 = .ok (.ifCond .ne 6, 3) := by decide +kernel
theorem dX11_reading_31 : decode cX11_reading 31 = .ok (.bipush (-2), 2) := by decide +kernel
theorem dX11_reading_33 : decode cX11_reading 33 = .ok (.ireturn, 1) := by decide +kernel
theorem dX11_reading_34 : decode cX11_reading 34 = .ok (.aload_n 0, 1) := by decide +kernel
theorem dX11_reading_35 : decode cX11_reading 35 = .ok (.getfield 27, 3) := by decide +kernel
theorem dX11_reading_38 : decode cX11_reading 38 = .ok (.invokevirtual 207, 3) := by decide +kernel
theorem dX11_reading_41 : decode cX11_reading 41 = .ok (.ifCond .eq 6, 3) := by decide +kernel
theorem dX11_reading_44 : decode cX11_reading 44 = .ok (.bipush (-4), 2) := by decide +kernel
theorem dX11_reading_46 : decode cX11_reading 46 = .ok (.ireturn, 1) := by decide +kernel
theorem dX11_reading_47 : decode cX11_reading 47 = .ok (.aload_n 0, 1) := by decide +kernel
theorem dX11_reading_48 : decode cX11_reading 48 = .ok (.getfield 27, 3) := by decide +kernel
theorem dX11_reading_51 : decode cX11_reading 51 = .ok (.iload_n 1, 1) := by decide +kernel
theorem dX11_reading_52 : decode cX11_reading 52 = .ok (.iload_n 2, 1) := by decide +kernel
theorem dX11_reading_53 : decode cX11_reading 53 = .ok (.iload_n 3, 1) := by decide +kernel
theorem dX11_reading_54 : decode cX11_reading 54 = .ok (.invokevirtual 208, 3) := by decide +kernel
theorem dX11_reading_57 : decode cX11_reading 57 = .ok (.ireturn, 1) := by decide +kernel
theorem dX11_back_0 : decode cX11_back 0 = .ok (.iload_n 1, 1) := by decide +kernel
theorem dX11_back_1 : decode cX11_back 1 = .ok (.iconst 0, 1) := by decide +kernel
theorem dX11_back_2 : decode cX11_back 2 = .ok (.aload_n 0, 1) := by decide +kernel
theorem dX11_back_3 : decode cX11_back 3 = .ok (.getfield 27, 3) := by decide +kernel
theorem dX11_back_6 : decode cX11_back 6 = .ok (.getfield 212, 3) := by decide +kernel
theorem dX11_back_9 : decode cX11_back 9 = .ok (.invokestatic 143, 3) := by decide +kernel
theorem dX11_back_12 : decode cX11_back 12 = .ok (.ifCond .ne 6, 3) := by decide +kernel
theorem dX11_back_15 : decode cX11_back 15 = .ok (.bipush (-2), 2) := by decide +kernel
theorem dX11_back_17 : decode cX11_back 17 = .ok (.ireturn, 1) := by decide +kernel
theorem dX11_back_18 : decode cX11_back 18 = .ok (.aload_n 0, 1) := by decide +kernel
theorem dX11_back_19 : decode cX11_back 19 = .ok (.getfield 27, 3) := by decide +kernel
theorem dX11_back_22 : decode cX11_back 22 = .ok (.dup, 1) := by decide +kernel
theorem dX11_back_23 : decode cX11_back 23 = .ok (.getfield 212, 3) := by decide +kernel
theorem dX11_back_26 : decode cX11_back 26 = .ok (.iload_n 1, 1) := by decide +kernel
theorem dX11_back_27 : decode cX11_back 27 = .ok (.isub, 1) := by decide +kernel
theorem dX11_back_28 : decode cX11_back 28 = .ok (.putfield 212, 3) := by decide +kernel
theorem dX11_back_31 : decode cX11_back 31 = .ok (.aload_n 0, 1) := by decide +kernel
theorem dX11_back_32 : decode cX11_back 32 = .ok (.getfield 27, 3) := by decide +kernel
theorem dX11_back_35 : decode cX11_back 35 = .ok (.getfield 212, 3) := by decide +kernel
theorem dX11_back_38 : decode cX11_back 38 = .ok (.ireturn, 1) := by decide +kernel
theorem dX11_leans_0 : decode cX11_leans 0 = .ok (.aload_n 0, 1) := by decide +kernel
theorem dX11_leans_1 : decode cX11_leans 1 = .ok (.getfield 12, 3) := by decide +kernel
theorem dX11_leans_4 : decode cX11_leans 4 = .ok (.iload_n 1, 1) := by decide +kernel
theorem dX11_leans_5 : decode cX11_leans 5 = .ok (.invokevirtual 99, 3) := by decide +kernel
theorem dX11_leans_8 : decode cX11_leans 8 = .ok (.ifnonnull 5, 3) := by decide +kernel
theorem dX11_leans_11 : decode cX11_leans 11 = .ok (.iconst (-1), 1) := by decide +kernel
theorem dX11_leans_12 : decode cX11_leans 12 = .ok (.ireturn, 1) := by decide +kernel
theorem dX11_leans_13 : decode cX11_leans 13 = .ok (.iconst 0, 1) := by decide +kernel
theorem dX11_leans_14 : decode cX11_leans 14 = .ok (.istore_n 2, 1) := by decide +kernel
theorem dX11_leans_15 : decode cX11_leans 15 = .ok (.iconst 0, 1) := by decide +kernel
theorem dX11_leans_16 : decode cX11_leans 16 = .ok (.istore_n 3, 1) := by decide +kernel
theorem dX11_leans_17 : decode cX11_leans 17 = .ok (.iload_n 3, 1) := by decide +kernel
theorem dX11_leans_18 : decode cX11_leans 18 = .ok (.bipush 9, 2) := by decide +kernel
theorem dX11_leans_20 : decode cX11_leans 20 = .ok (.if_icmp .gt 27, 3) := by decide +kernel
theorem dX11_leans_23 : decode cX11_leans 23 = .ok (.aload_n 0, 1) := by decide +kernel
theorem dX11_leans_24 : decode cX11_leans 24 = .ok (.bipush (-9), 2) := by decide +kernel
theorem dX11_leans_26 : decode cX11_leans 26 = .ok (.iconst 0, 1) := by decide +kernel
theorem dX11_leans_27 : decode cX11_leans 27 = .ok (.iload_n 1, 1) := by decide +kernel
theorem dX11_leans_28 : decode cX11_leans 28 = .ok (.iload_n 3, 1) := by decide +kernel
theorem dX11_leans_29 : decode cX11_leans 29 = .ok (.invokevirtual 215, 3) := by decide +kernel
theorem dX11_leans_32 : decode cX11_leans 32 = .ok (.ifCond .eq 9, 3) := by decide +kernel
theorem dX11_leans_35 : decode cX11_leans 35 = .ok (.iload_n 2, 1) := by decide +kernel
theorem dX11_leans_36 : decode cX11_leans 36 = .ok (.iconst 1, 1) := by decide +kernel
theorem dX11_leans_37 : decode cX11_leans 37 = .ok (.iload_n 3, 1) := by decide +kernel
theorem dX11_leans_38 : decode cX11_leans 38 = .ok (.ishl, 1) := by decide +kernel
theorem dX11_leans_39 : decode cX11_leans 39 = .ok (.ior, 1) := by decide +kernel
theorem dX11_leans_40 : decode cX11_leans 40 = .ok (.istore_n 2, 1) := by decide +kernel
theorem dX11_leans_41 : decode cX11_leans 41 = .ok (.iinc 3 1, 3) := by decide +kernel
theorem dX11_leans_44 : decode cX11_leans 44 = .ok (.goto (-27), 3) := by decide +kernel
theorem dX11_leans_47 : decode cX11_leans 47 = .ok (.iload_n 2, 1) := by decide +kernel
theorem dX11_leans_48 : decode cX11_leans 48 = .ok (.ireturn, 1) := by decide +kernel
theorem dX11_arms_0 : decode cX11_arms 0 = .ok (.aload_n 0, 1) := by decide +kernel
theorem dX11_arms_1 : decode cX11_arms 1 = .ok (.iload_n 1, 1) := by decide +kernel
theorem dX11_arms_2 : decode cX11_arms 2 = .ok (.invokevirtual 124, 3) := by decide +kernel
theorem dX11_arms_5 : decode cX11_arms 5 = .ok (.astore_n 2, 1) := by decide +kernel
theorem dX11_arms_6 : decode cX11_arms 6 = .ok (.aload_n 2, 1) := by decide +kernel
theorem dX11_arms_7 : decode cX11_arms 7 = .ok (.ifnonnull 5, 3) := by decide +kernel
theorem dX11_arms_10 : decode cX11_arms 10 = .ok (.iconst (-1), 1) := by decide +kernel
theorem dX11_arms_11 : decode cX11_arms 11 = .ok (.ireturn, 1) := by decide +kernel
theorem dX11_arms_12 : decode cX11_arms 12 = .ok (.iconst 0, 1) := by decide +kernel
theorem dX11_arms_13 : decode cX11_arms 13 = .ok (.istore_n 3, 1) := by decide +kernel
theorem dX11_arms_14 : decode cX11_arms 14 = .ok (.iconst 1, 1) := by decide +kernel
theorem dX11_arms_15 : decode cX11_arms 15 = .ok (.istore 4, 2) := by decide +kernel
theorem dX11_arms_17 : decode cX11_arms 17 = .ok (.iload 4, 2) := by decide +kernel
theorem dX11_arms_19 : decode cX11_arms 19 = .ok (.bipush 9, 2) := by decide +kernel
theorem dX11_arms_21 : decode cX11_arms 21 = .ok (.if_icmp .gt 36, 3) := by decide +kernel
theorem dX11_arms_24 : decode cX11_arms 24 = .ok (.aload_n 0, 1) := by decide +kernel
theorem dX11_arms_25 : decode cX11_arms 25 = .ok (.iload_n 1, 1) := by decide +kernel
theorem dX11_arms_26 : decode cX11_arms 26 = .ok (.aload_n 2, 1) := by decide +kernel
theorem dX11_arms_27 : decode cX11_arms 27 = .ok (.invokevirtual 128, 3) := by decide +kernel
theorem dX11_arms_30 : decode cX11_arms 30 = .ok (.iload 4, 2) := by decide +kernel
theorem dX11_arms_32 : decode cX11_arms 32 = .ok (.invokestatic 219, 3) := by decide +kernel
theorem dX11_arms_35 : decode cX11_arms 35 = .ok (.bipush (-9), 2) := by decide +kernel
theorem dX11_arms_37 : decode cX11_arms 37 = .ok (.iconst 0, 1) := by decide +kernel
theorem dX11_arms_38 : decode cX11_arms 38 = .ok (.invokevirtual 215, 3) := by decide +kernel
theorem dX11_arms_41 : decode cX11_arms 41 = .ok (.ifCond .eq 10, 3) := by decide +kernel
theorem dX11_arms_44 : decode cX11_arms 44 = .ok (.iload_n 3, 1) := by decide +kernel
theorem dX11_arms_45 : decode cX11_arms 45 = .ok (.iconst 1, 1) := by decide +kernel
theorem dX11_arms_46 : decode cX11_arms 46 = .ok (.iload 4, 2) := by decide +kernel
theorem dX11_arms_48 : decode cX11_arms 48 = .ok (.ishl, 1) := by decide +kernel
theorem dX11_arms_49 : decode cX11_arms 49 = .ok (.ior, 1) := by decide +kernel
theorem dX11_arms_50 : decode cX11_arms 50 = .ok (.istore_n 3, 1) := by decide +kernel
theorem dX11_arms_51 : decode cX11_arms 51 = .ok (.iinc 4 1, 3) := by decide +kernel
theorem dX11_arms_54 : decode cX11_arms 54 = .ok (.goto (-37), 3) := by decide +kernel
theorem dX11_arms_57 : decode cX11_arms 57 = .ok (.iload_n 3, 1) := by decide +kernel
theorem dX11_arms_58 : decode cX11_arms 58 = .ok (.ireturn, 1) := by decide +kernel
theorem dX11_kinds_0 : decode cX11_kinds 0 = .ok (.aload_n 0, 1) := by decide +kernel
theorem dX11_kinds_1 : decode cX11_kinds 1 = .ok (.iload_n 1, 1) := by decide +kernel
theorem dX11_kinds_2 : decode cX11_kinds 2 = .ok (.invokevirtual 124, 3) := by decide +kernel
theorem dX11_kinds_5 : decode cX11_kinds 5 = .ok (.astore_n 2, 1) := by decide +kernel
theorem dX11_kinds_6 : decode cX11_kinds 6 = .ok (.aload_n 2, 1) := by decide +kernel
theorem dX11_kinds_7 : decode cX11_kinds 7 = .ok (.ifnonnull 5, 3) := by decide +kernel
theorem dX11_kinds_10 : decode cX11_kinds 10 = .ok (.iconst (-1), 1) := by decide +kernel
theorem dX11_kinds_11 : decode cX11_kinds 11 = .ok (.ireturn, 1) := by decide +kernel
theorem dX11_kinds_12 : decode cX11_kinds 12 = .ok (.iconst 0, 1) := by decide +kernel
theorem dX11_kinds_13 : decode cX11_kinds 13 = .ok (.istore_n 3, 1) := by decide +kernel
theorem dX11_kinds_14 : decode cX11_kinds 14 = .ok (.iconst 0, 1) := by decide +kernel
theorem dX11_kinds_15 : decode cX11_kinds 15 = .ok (.istore 4, 2) := by decide +kernel
theorem dX11_kinds_17 : decode cX11_kinds 17 = .ok (.iload 4, 2) := by decide +kernel
theorem dX11_kinds_19 : decode cX11_kinds 19 = .ok (.iconst 2, 1) := by decide +kernel
theorem dX11_kinds_20 : decode cX11_kinds 20 = .ok (.if_icmp .gt 36, 3) := by decide +kernel
theorem dX11_kinds_23 : decode cX11_kinds 23 = .ok (.aload_n 0, 1) := by decide +kernel
theorem dX11_kinds_24 : decode cX11_kinds 24 = .ok (.iload_n 1, 1) := by decide +kernel
theorem dX11_kinds_25 : decode cX11_kinds 25 = .ok (.iload 4, 2) := by decide +kernel
theorem dX11_kinds_27 : decode cX11_kinds 27 = .ok (.aload_n 2, 1) := by decide +kernel
theorem dX11_kinds_28 : decode cX11_kinds 28 = .ok (.getfield 131, 3) := by decide +kernel
theorem dX11_kinds_31 : decode cX11_kinds 31 = .ok (.invokestatic 219, 3) := by decide +kernel
theorem dX11_kinds_34 : decode cX11_kinds 34 = .ok (.bipush (-9), 2) := by decide +kernel
theorem dX11_kinds_36 : decode cX11_kinds 36 = .ok (.iconst 0, 1) := by decide +kernel
theorem dX11_kinds_37 : decode cX11_kinds 37 = .ok (.invokevirtual 215, 3) := by decide +kernel
theorem dX11_kinds_40 : decode cX11_kinds 40 = .ok (.ifCond .eq 10, 3) := by decide +kernel
theorem dX11_kinds_43 : decode cX11_kinds 43 = .ok (.iload_n 3, 1) := by decide +kernel
theorem dX11_kinds_44 : decode cX11_kinds 44 = .ok (.iconst 1, 1) := by decide +kernel
theorem dX11_kinds_45 : decode cX11_kinds 45 = .ok (.iload 4, 2) := by decide +kernel
theorem dX11_kinds_47 : decode cX11_kinds 47 = .ok (.ishl, 1) := by decide +kernel
theorem dX11_kinds_48 : decode cX11_kinds 48 = .ok (.ior, 1) := by decide +kernel
theorem dX11_kinds_49 : decode cX11_kinds 49 = .ok (.istore_n 3, 1) := by decide +kernel
theorem dX11_kinds_50 : decode cX11_kinds 50 = .ok (.iinc 4 1, 3) := by decide +kernel
theorem dX11_kinds_53 : decode cX11_kinds 53 = .ok (.goto (-36), 3) := by decide +kernel
theorem dX11_kinds_56 : decode cX11_kinds 56 = .ok (.iload_n 3, 1) := by decide +kernel
theorem dX11_kinds_57 : decode cX11_kinds 57 = .ok (.ireturn, 1) := by decide +kernel
theorem dX11_odds_0 : decode cX11_odds 0 = .ok (.aload_n 0, 1) := by decide +kernel
theorem dX11_odds_1 : decode cX11_odds 1 = .ok (.iload_n 1, 1) := by decide +kernel
theorem dX11_odds_2 : decode cX11_odds 2 = .ok (.invokevirtual 124, 3) := by decide +kernel
theorem dX11_odds_5 : decode cX11_odds 5 = .ok (.astore 4, 2) := by decide +kernel
theorem dX11_odds_7 : decode cX11_odds 7 = .ok (.aload_n 0, 1) := by decide +kernel
theorem dX11_odds_8 : decode cX11_odds 8 = .ok (.getfield 12, 3) := by decide +kernel
theorem dX11_odds_11 : decode cX11_odds 11 = .ok (.iload_n 2, 1) := by decide +kernel
theorem dX11_odds_12 : decode cX11_odds 12 = .ok (.invokevirtual 99, 3) := by decide +kernel
theorem dX11_odds_15 : decode cX11_odds 15 = .ok (.astore 5, 2) := by decide +kernel
theorem dX11_odds_17 : decode cX11_odds 17 = .ok (.aload 4, 2) := by decide +kernel
theorem dX11_odds_19 : decode cX11_odds 19 = .ok (.ifnull 17, 3) := by decide +kernel
theorem dX11_odds_22 : decode cX11_odds 22 = .ok (.aload 5, 2) := by decide +kernel
theorem dX11_odds_24 : decode cX11_odds 24 = .ok (.ifnull 12, 3) := by decide +kernel
theorem dX11_odds_27 : decode cX11_odds 27 = .ok (.iload_n 3, 1) := by decide +kernel
theorem dX11_odds_28 : decode cX11_odds 28 = .ok (.iconst 0, 1) := by decide +kernel
theorem dX11_odds_29 : decode cX11_odds 29 = .ok (.iconst 1, 1) := by decide +kernel
theorem dX11_odds_30 : decode cX11_odds 30 = .ok (.invokestatic 143, 3) := by decide +kernel
theorem dX11_odds_33 : decode cX11_odds 33 = .ok (.ifCond .ne 7, 3) := by decide +kernel
theorem dX11_odds_36 : decode cX11_odds 36 = .ok (.ldc2_w 222, 3) := by decide +kernel
theorem dX11_odds_39 : decode cX11_odds 39 = .ok (.lreturn, 1) := by decide +kernel
theorem dX11_odds_40 : decode cX11_odds 40 = .ok (.iconst 0, 1) := by decide +kernel
theorem dX11_odds_41 : decode cX11_odds 41 = .ok (.istore 6, 2) := by decide +kernel
theorem dX11_odds_43 : decode cX11_odds 43 = .ok (.iconst (-1), 1) := by decide +kernel
theorem dX11_odds_44 : decode cX11_odds 44 = .ok (.istore 7, 2) := by decide +kernel
theorem dX11_odds_46 : decode cX11_odds 46 = .ok (.iload 7, 2) := by decide +kernel
theorem dX11_odds_48 : decode cX11_odds 48 = .ok (.iconst 1, 1) := by decide +kernel
theorem dX11_odds_49 : decode cX11_odds 49 = .ok (.if_icmp .gt 41, 3) := by decide +kernel
theorem dX11_odds_52 : decode cX11_odds 52 = .ok (.aload 5, 2) := by decide +kernel
theorem dX11_odds_54 : decode cX11_odds 54 = .ok (.iload_n 1, 1) := by decide +kernel
theorem dX11_odds_55 : decode cX11_odds 55 = .ok (.aload 5, 2) := by decide +kernel
theorem dX11_odds_57 : decode cX11_odds 57 = .ok (.aload 4, 2) := by decide +kernel
theorem dX11_odds_59 : decode cX11_odds 59 = .ok (.invokevirtual 134, 3) := by decide +kernel
theorem dX11_odds_62 : decode cX11_odds 62 = .ok (.iload 7, 2) := by decide +kernel
theorem dX11_odds_64 : decode cX11_odds 64 = .ok (.iadd, 1) := by decide +kernel
theorem dX11_odds_65 : decode cX11_odds 65 = .ok (.aload_n 0, 1) := by decide +kernel
theorem dX11_odds_66 : decode cX11_odds 66 = .ok (.getfield 12, 3) := by decide +kernel
theorem dX11_odds_69 : decode cX11_odds 69 = .ok (.getfield 147, 3) := by decide +kernel
theorem dX11_odds_72 : decode cX11_odds 72 = .ok (.invokevirtual 150, 3) := by decide +kernel
theorem dX11_odds_75 : decode cX11_odds 75 = .ok (.invokevirtual 224, 3) := by decide +kernel
theorem dX11_odds_78 : decode cX11_odds 78 = .ok (.ifCond .eq 6, 3) := by decide +kernel
theorem dX11_odds_81 : decode cX11_odds 81 = .ok (.iinc 6 1, 3) := by decide +kernel
theorem dX11_odds_84 : decode cX11_odds 84 = .ok (.iinc 7 1, 3) := by decide +kernel
theorem dX11_odds_87 : decode cX11_odds 87 = .ok (.goto (-41), 3) := by decide +kernel
theorem dX11_odds_90 : decode cX11_odds 90 = .ok (.iload 6, 2) := by decide +kernel
theorem dX11_odds_92 : decode cX11_odds 92 = .ok (.ifCond .eq 9, 3) := by decide +kernel
theorem dX11_odds_95 : decode cX11_odds 95 = .ok (.iload 6, 2) := by decide +kernel
theorem dX11_odds_97 : decode cX11_odds 97 = .ok (.iconst 3, 1) := by decide +kernel
theorem dX11_odds_98 : decode cX11_odds 98 = .ok (.if_icmp .ne 7, 3) := by decide +kernel
theorem dX11_odds_101 : decode cX11_odds 101 = .ok (.iconst 1, 1) := by decide +kernel
theorem dX11_odds_102 : decode cX11_odds 102 = .ok (.goto 4, 3) := by decide +kernel
theorem dX11_odds_105 : decode cX11_odds 105 = .ok (.iconst 0, 1) := by decide +kernel
theorem dX11_odds_106 : decode cX11_odds 106 = .ok (.istore 7, 2) := by decide +kernel
theorem dX11_odds_108 : decode cX11_odds 108 = .ok (.iload 6, 2) := by decide +kernel
theorem dX11_odds_110 : decode cX11_odds 110 = .ok (.iconst 3, 1) := by decide +kernel
theorem dX11_odds_111 : decode cX11_odds 111 = .ok (.if_icmp .ne 7, 3) := by decide +kernel
theorem dX11_odds_114 : decode cX11_odds 114 = .ok (.iconst 1, 1) := by decide +kernel
theorem dX11_odds_115 : decode cX11_odds 115 = .ok (.goto 5, 3) := by decide +kernel
theorem dX11_odds_118 : decode cX11_odds 118 = .ok (.iload 6, 2) := by decide +kernel
theorem dX11_odds_120 : decode cX11_odds 120 = .ok (.istore 8, 2) := by decide +kernel
theorem dX11_odds_122 : decode cX11_odds 122 = .ok (.iload 7, 2) := by decide +kernel
theorem dX11_odds_124 : decode cX11_odds 124 = .ok (.ifCond .eq 7, 3) := by decide +kernel
theorem dX11_odds_127 : decode cX11_odds 127 = .ok (.iconst 1, 1) := by decide +kernel
theorem dX11_odds_128 : decode cX11_odds 128 = .ok (.goto 4, 3) := by decide +kernel
theorem dX11_odds_131 : decode cX11_odds 131 = .ok (.iconst 3, 1) := by decide +kernel
theorem dX11_odds_132 : decode cX11_odds 132 = .ok (.istore 9, 2) := by decide +kernel
theorem dX11_odds_134 : decode cX11_odds 134 = .ok (.iload_n 3, 1) := by decide +kernel
theorem dX11_odds_135 : decode cX11_odds 135 = .ok (.ifCond .ne 9, 3) := by decide +kernel
theorem dX11_odds_138 : decode cX11_odds 138 = .ok (.iload 8, 2) := by decide +kernel
theorem dX11_odds_140 : decode cX11_odds 140 = .ok (.i2l, 1) := by decide +kernel
theorem dX11_odds_141 : decode cX11_odds 141 = .ok (.goto 6, 3) := by decide +kernel
theorem dX11_odds_144 : decode cX11_odds 144 = .ok (.iload 9, 2) := by decide +kernel
theorem dX11_odds_146 : decode cX11_odds 146 = .ok (.i2l, 1) := by decide +kernel
theorem dX11_odds_147 : decode cX11_odds 147 = .ok (.lreturn, 1) := by decide +kernel
theorem dX11_sheet_0 : decode cX11_sheet 0 = .ok (.aload_n 0, 1) := by decide +kernel
theorem dX11_sheet_1 : decode cX11_sheet 1 = .ok (.iconst 0, 1) := by decide +kernel
theorem dX11_sheet_2 : decode cX11_sheet 2 = .ok (.putfield 66, 3) := by decide +kernel
theorem dX11_sheet_5 : decode cX11_sheet 5 = .ok (.aload_n 0, 1) := by decide +kernel
theorem dX11_sheet_6 : decode cX11_sheet 6 = .ok (.iload_n 1, 1) := by decide +kernel
theorem dX11_sheet_7 : decode cX11_sheet 7 = .ok (.invokevirtual 70, 3) := by decide +kernel
theorem dX11_sheet_10 : decode cX11_sheet 10 = .ok (.astore 4, 2) := by decide +kernel
theorem dX11_sheet_12 : decode cX11_sheet 12 = .ok (.aload 4, 2) := by decide +kernel
theorem dX11_sheet_14 : decode cX11_sheet 14 = .ok (.ifnonnull 5, 3) := by decide +kernel
theorem dX11_sheet_17 : decode cX11_sheet 17 = .ok (.iconst (-1), 1) := by decide +kernel
theorem dX11_sheet_18 : decode cX11_sheet 18 = .ok (.ireturn, 1) := by decide +kernel
theorem dX11_sheet_19 : decode cX11_sheet 19 = .ok (.iload_n 2, 1) := by decide +kernel
theorem dX11_sheet_20 : decode cX11_sheet 20 = .ok (.invokestatic 74, 3) := by decide +kernel
theorem dX11_sheet_23 : decode cX11_sheet 23 = .ok (.ifCond .eq 9, 3) := by decide +kernel
theorem dX11_sheet_26 : decode cX11_sheet 26 = .ok (.iload_n 3, 1) := by decide +kernel
theorem dX11_sheet_27 : decode cX11_sheet 27 = .ok (.bipush 60, 2) := by decide +kernel
theorem dX11_sheet_29 : decode cX11_sheet 29 = .ok (.if_icmp .le 6, 3) := by decide +kernel
theorem dX11_sheet_32 : decode cX11_sheet 32 = .ok (.bipush (-2), 2) := by decide +kernel
theorem dX11_sheet_34 : decode cX11_sheet 34 = .ok (.ireturn, 1) := by decide +kernel
theorem dX11_sheet_35 : decode cX11_sheet 35 = .ok (.iload_n 3, 1) := by decide +kernel
theorem dX11_sheet_36 : decode cX11_sheet 36 = .ok (.ifCond .ge 9, 3) := by decide +kernel
theorem dX11_sheet_39 : decode cX11_sheet 39 = .ok (.aload_n 0, 1) := by decide +kernel
theorem dX11_sheet_40 : decode cX11_sheet 40 = .ok (.iconst 4, 1) := by decide +kernel
theorem dX11_sheet_41 : decode cX11_sheet 41 = .ok (.invokevirtual 86, 3) := by decide +kernel
theorem dX11_sheet_44 : decode cX11_sheet 44 = .ok (.ireturn, 1) := by decide +kernel
theorem dX11_sheet_45 : decode cX11_sheet 45 = .ok (.aload 4, 2) := by decide +kernel
theorem dX11_sheet_47 : decode cX11_sheet 47 = .ok (.iload_n 2, 1) := by decide +kernel
theorem dX11_sheet_48 : decode cX11_sheet 48 = .ok (.iload_n 3, 1) := by decide +kernel
theorem dX11_sheet_49 : decode cX11_sheet 49 = .ok (.invokevirtual 227, 3) := by decide +kernel
theorem dX11_sheet_52 : decode cX11_sheet 52 = .ok (.iconst 1, 1) := by decide +kernel
theorem dX11_sheet_53 : decode cX11_sheet 53 = .ok (.ireturn, 1) := by decide +kernel
theorem dX11_lose_0 : decode cX11_lose 0 = .ok (.aload_n 0, 1) := by decide +kernel
theorem dX11_lose_1 : decode cX11_lose 1 = .ok (.iload_n 1, 1) := by decide +kernel
theorem dX11_lose_2 : decode cX11_lose 2 = .ok (.invokevirtual 70, 3) := by decide +kernel
theorem dX11_lose_5 : decode cX11_lose 5 = .ok (.astore_n 2, 1) := by decide +kernel
theorem dX11_lose_6 : decode cX11_lose 6 = .ok (.aload_n 2, 1) := by decide +kernel
theorem dX11_lose_7 : decode cX11_lose 7 = .ok (.ifnonnull 5, 3) := by decide +kernel
theorem dX11_lose_10 : decode cX11_lose 10 = .ok (.iconst (-1), 1) := by decide +kernel
theorem dX11_lose_11 : decode cX11_lose 11 = .ok (.ireturn, 1) := by decide +kernel
theorem dX11_lose_12 : decode cX11_lose 12 = .ok (.aload_n 2, 1) := by decide +kernel
theorem dX11_lose_13 : decode cX11_lose 13 = .ok (.invokevirtual 230, 3) := by decide +kernel
theorem dX11_lose_16 : decode cX11_lose 16 = .ok (.ifCond .eq 5, 3) := by decide +kernel
theorem dX11_lose_19 : decode cX11_lose 19 = .ok (.iconst 0, 1) := by decide +kernel
theorem dX11_lose_20 : decode cX11_lose 20 = .ok (.ireturn, 1) := by decide +kernel
theorem dX11_lose_21 : decode cX11_lose 21 = .ok (.aload_n 2, 1) := by decide +kernel
theorem dX11_lose_22 : decode cX11_lose 22 = .ok (.invokevirtual 233, 3) := by decide +kernel
theorem dX11_lose_25 : decode cX11_lose 25 = .ok (.iconst 1, 1) := by decide +kernel
theorem dX11_lose_26 : decode cX11_lose 26 = .ok (.ireturn, 1) := by decide +kernel
theorem dX11_put_0 : decode cX11_put 0 = .ok (.aload_n 0, 1) := by decide +kernel
theorem dX11_put_1 : decode cX11_put 1 = .ok (.iconst 0, 1) := by decide +kernel
theorem dX11_put_2 : decode cX11_put 2 = .ok (.putfield 66, 3) := by decide +kernel
theorem dX11_put_5 : decode cX11_put 5 = .ok (.aload_n 0, 1) := by decide +kernel
theorem dX11_put_6 : decode cX11_put 6 = .ok (.iload_n 1, 1) := by decide +kernel
theorem dX11_put_7 : decode cX11_put 7 = .ok (.invokevirtual 70, 3) := by decide +kernel
theorem dX11_put_10 : decode cX11_put 10 = .ok (.astore 4, 2) := by decide +kernel
theorem dX11_put_12 : decode cX11_put 12 = .ok (.aload 4, 2) := by decide +kernel
theorem dX11_put_14 : decode cX11_put 14 = .ok (.ifnonnull 5, 3) := by decide +kernel
theorem dX11_put_17 : decode cX11_put 17 = .ok (.iconst (-1), 1) := by decide +kernel
theorem dX11_put_18 : decode cX11_put 18 = .ok (.ireturn, 1) := by decide +kernel
theorem dX11_put_19 : decode cX11_put 19 = .ok (.aload 4, 2) := by decide +kernel
theorem dX11_put_21 : decode cX11_put 21 = .ok (.invokevirtual 230, 3) := by decide +kernel
theorem dX11_put_24 : decode cX11_put 24 = .ok (.ifCond .eq 9, 3) := by decide +kernel
theorem dX11_put_27 : decode cX11_put 27 = .ok (.aload_n 0, 1) := by decide +kernel
theorem dX11_put_28 : decode cX11_put 28 = .ok (.iconst 1, 1) := by decide +kernel
theorem dX11_put_29 : decode cX11_put 29 = .ok (.invokevirtual 86, 3) := by decide +kernel
theorem dX11_put_32 : decode cX11_put 32 = .ok (.ireturn, 1) := by decide +kernel
theorem dX11_put_33 : decode cX11_put 33 = .ok (.aload 4, 2) := by decide +kernel
theorem dX11_put_35 : decode cX11_put 35 = .ok (.iload_n 2, 1) := by decide +kernel
theorem dX11_put_36 : decode cX11_put 36 = .ok (.invokevirtual 236, 3) := by decide +kernel
theorem dX11_put_39 : decode cX11_put 39 = .ok (.ifCond .ne 9, 3) := by decide +kernel
theorem dX11_put_42 : decode cX11_put 42 = .ok (.aload_n 0, 1) := by decide +kernel
theorem dX11_put_43 : decode cX11_put 43 = .ok (.iconst 3, 1) := by decide +kernel
theorem dX11_put_44 : decode cX11_put 44 = .ok (.invokevirtual 86, 3) := by decide +kernel
theorem dX11_put_47 : decode cX11_put 47 = .ok (.ireturn, 1) := by decide +kernel
theorem dX11_put_48 : decode cX11_put 48 = .ok (.aload 4, 2) := by decide +kernel
theorem dX11_put_50 : decode cX11_put 50 = .ok (.iload_n 2, 1) := by decide +kernel
theorem dX11_put_51 : decode cX11_put 51 = .ok (.iload_n 3, 1) := by decide +kernel
theorem dX11_put_52 : decode cX11_put 52 = .ok (.invokevirtual 239, 3) := by decide +kernel
theorem dX11_put_55 : decode cX11_put 55 = .ok (.iconst 1, 1) := by decide +kernel
theorem dX11_put_56 : decode cX11_put 56 = .ok (.ireturn, 1) := by decide +kernel
theorem dX11_cell_0 : decode cX11_cell 0 = .ok (.aload_n 0, 1) := by decide +kernel
theorem dX11_cell_1 : decode cX11_cell 1 = .ok (.iconst 0, 1) := by decide +kernel
theorem dX11_cell_2 : decode cX11_cell 2 = .ok (.putfield 66, 3) := by decide +kernel
theorem dX11_cell_5 : decode cX11_cell 5 = .ok (.aload_n 0, 1) := by decide +kernel
theorem dX11_cell_6 : decode cX11_cell 6 = .ok (.iload_n 1, 1) := by decide +kernel
theorem dX11_cell_7 : decode cX11_cell 7 = .ok (.invokevirtual 70, 3) := by decide +kernel
theorem dX11_cell_10 : decode cX11_cell 10 = .ok (.astore 4, 2) := by decide +kernel
theorem dX11_cell_12 : decode cX11_cell 12 = .ok (.aload 4, 2) := by decide +kernel
theorem dX11_cell_14 : decode cX11_cell 14 = .ok (.ifnull 10, 3) := by decide +kernel
theorem dX11_cell_17 : decode cX11_cell 17 = .ok (.iload_n 3, 1) := by decide +kernel
theorem dX11_cell_18 : decode cX11_cell 18 = .ok (.invokestatic 74, 3) := by decide +kernel
theorem dX11_cell_21 : decode cX11_cell 21 = .ok (.ifCond .ne 7, 3) := by decide +kernel
theorem dX11_cell_24 : decode cX11_cell 24 = .ok (.ldc2_w 222, 3) := by decide +kernel
theorem dX11_cell_27 : decode cX11_cell 27 = .ok (.lreturn, 1) := by decide +kernel
theorem dX11_cell_28 : decode cX11_cell 28 = .ok (.aload 4, 2) := by decide +kernel
theorem dX11_cell_30 : decode cX11_cell 30 = .ok (.iload_n 3, 1) := by decide +kernel
theorem dX11_cell_31 : decode cX11_cell 31 = .ok (.invokevirtual 78, 3) := by decide +kernel
theorem dX11_cell_34 : decode cX11_cell 34 = .ok (.istore 5, 2) := by decide +kernel
theorem dX11_cell_36 : decode cX11_cell 36 = .ok (.iload 5, 2) := by decide +kernel
theorem dX11_cell_38 : decode cX11_cell 38 = .ok (.ifCond .ne 15, 3) := by decide +kernel
theorem dX11_cell_41 : decode cX11_cell 41 = .ok (.aload 4, 2) := by decide +kernel
theorem dX11_cell_43 : decode cX11_cell 43 = .ok (.iload_n 2, 1) := by decide +kernel
theorem dX11_cell_44 : decode cX11_cell 44 = .ok (.invokevirtual 236, 3) := by decide +kernel
theorem dX11_cell_47 : decode cX11_cell 47 = .ok (.ifCond .ne 6, 3) := by decide +kernel
theorem dX11_cell_50 : decode cX11_cell 50 = .ok (.iconst 3, 1) := by decide +kernel
theorem dX11_cell_51 : decode cX11_cell 51 = .ok (.istore 5, 2) := by decide +kernel
theorem dX11_cell_53 : decode cX11_cell 53 = .ok (.aload_n 0, 1) := by decide +kernel
theorem dX11_cell_54 : decode cX11_cell 54 = .ok (.iload 5, 2) := by decide +kernel
theorem dX11_cell_56 : decode cX11_cell 56 = .ok (.putfield 66, 3) := by decide +kernel
theorem dX11_cell_59 : decode cX11_cell 59 = .ok (.iload 5, 2) := by decide +kernel
theorem dX11_cell_61 : decode cX11_cell 61 = .ok (.ifCond .ne 13, 3) := by decide +kernel
theorem dX11_cell_64 : decode cX11_cell 64 = .ok (.aload 4, 2) := by decide +kernel
theorem dX11_cell_66 : decode cX11_cell 66 = .ok (.iload_n 2, 1) := by decide +kernel
theorem dX11_cell_67 : decode cX11_cell 67 = .ok (.invokevirtual 242, 3) := by decide +kernel
theorem dX11_cell_70 : decode cX11_cell 70 = .ok (.i2l, 1) := by decide +kernel
theorem dX11_cell_71 : decode cX11_cell 71 = .ok (.goto 6, 3) := by decide +kernel
theorem dX11_cell_74 : decode cX11_cell 74 = .ok (.ldc2_w 222, 3) := by decide +kernel
theorem dX11_cell_77 : decode cX11_cell 77 = .ok (.lreturn, 1) := by decide +kernel
theorem dX11_copy_0 : decode cX11_copy 0 = .ok (.aload_n 0, 1) := by decide +kernel
theorem dX11_copy_1 : decode cX11_copy 1 = .ok (.iconst 0, 1) := by decide +kernel
theorem dX11_copy_2 : decode cX11_copy 2 = .ok (.putfield 66, 3) := by decide +kernel
theorem dX11_copy_5 : decode cX11_copy 5 = .ok (.aload_n 0, 1) := by decide +kernel
theorem dX11_copy_6 : decode cX11_copy 6 = .ok (.iload_n 1, 1) := by decide +kernel
theorem dX11_copy_7 : decode cX11_copy 7 = .ok (.invokevirtual 70, 3) := by decide +kernel
theorem dX11_copy_10 : decode cX11_copy 10 = .ok (.astore 6, 2) := by decide +kernel
theorem dX11_copy_12 : decode cX11_copy 12 = .ok (.aload_n 0, 1) := by decide +kernel
theorem dX11_copy_13 : decode cX11_copy 13 = .ok (.iload_n 3, 1) := by decide +kernel
theorem dX11_copy_14 : decode cX11_copy 14 = .ok (.invokevirtual 70, 3) := by decide +kernel
theorem dX11_copy_17 : decode cX11_copy 17 = .ok (.astore 7, 2) := by decide +kernel
theorem dX11_copy_19 : decode cX11_copy 19 = .ok (.aload 6, 2) := by decide +kernel
theorem dX11_copy_21 : decode cX11_copy 21 = .ok (.ifnull 8, 3) := by decide +kernel
theorem dX11_copy_24 : decode cX11_copy 24 = .ok (.aload 7, 2) := by decide +kernel
theorem dX11_copy_26 : decode cX11_copy 26 = .ok (.ifnonnull 5, 3) := by decide +kernel
theorem dX11_copy_29 : decode cX11_copy 29 = .ok (.iconst (-1), 1) := by decide +kernel
theorem dX11_copy_30 : decode cX11_copy 30 = .ok (.ireturn, 1) := by decide +kernel
theorem dX11_copy_31 : decode cX11_copy 31 = .ok (.aload 6, 2) := by decide +kernel
theorem dX11_copy_33 : decode cX11_copy 33 = .ok (.invokevirtual 230, 3) := by decide +kernel
theorem dX11_copy_36 : decode cX11_copy 36 = .ok (.ifCond .ne 11, 3) := by decide +kernel
theorem dX11_copy_39 : decode cX11_copy 39 = .ok (.aload 7, 2) := by decide +kernel
theorem dX11_copy_41 : decode cX11_copy 41 = .ok (.invokevirtual 230, 3) := by decide +kernel
theorem dX11_copy_44 : decode cX11_copy 44 = .ok (.ifCond .eq 9, 3) := by decide +kernel
theorem dX11_copy_47 : decode cX11_copy 47 = .ok (.aload_n 0, 1) := by decide +kernel
theorem dX11_copy_48 : decode cX11_copy 48 = .ok (.iconst 1, 1) := by decide +kernel
theorem dX11_copy_49 : decode cX11_copy 49 = .ok (.invokevirtual 86, 3) := by decide +kernel
theorem dX11_copy_52 : decode cX11_copy 52 = .ok (.ireturn, 1) := by decide +kernel
theorem dX11_copy_53 : decode cX11_copy 53 = .ok (.aload 6, 2) := by decide +kernel
theorem dX11_copy_55 : decode cX11_copy 55 = .ok (.getfield 245, 3) := by decide +kernel
theorem dX11_copy_58 : decode cX11_copy 58 = .ok (.aload 7, 2) := by decide +kernel
theorem dX11_copy_60 : decode cX11_copy 60 = .ok (.getfield 245, 3) := by decide +kernel
theorem dX11_copy_63 : decode cX11_copy 63 = .ok (.if_icmp .eq 9, 3) := by decide +kernel
theorem dX11_copy_66 : decode cX11_copy 66 = .ok (.aload_n 0, 1) := by decide +kernel
theorem dX11_copy_67 : decode cX11_copy 67 = .ok (.iconst 2, 1) := by decide +kernel
theorem dX11_copy_68 : decode cX11_copy 68 = .ok (.invokevirtual 86, 3) := by decide +kernel
theorem dX11_copy_71 : decode cX11_copy 71 = .ok (.ireturn, 1) := by decide +kernel
theorem dX11_copy_72 : decode cX11_copy 72 = .ok (.aload 6, 2) := by decide +kernel
theorem dX11_copy_74 : decode cX11_copy 74 = .ok (.iload_n 2, 1) := by decide +kernel
theorem dX11_copy_75 : decode cX11_copy 75 = .ok (.iload 5, 2) := by decide +kernel
theorem dX11_copy_77 : decode cX11_copy 77 = .ok (.invokevirtual 82, 3) := by decide +kernel
theorem dX11_copy_80 : decode cX11_copy 80 = .ok (.ifCond .eq 15, 3) := by decide +kernel
theorem dX11_copy_83 : decode cX11_copy 83 = .ok (.aload 7, 2) := by decide +kernel
theorem dX11_copy_85 : decode cX11_copy 85 = .ok (.iload 4, 2) := by decide +kernel
theorem dX11_copy_87 : decode cX11_copy 87 = .ok (.iload 5, 2) := by decide +kernel
theorem dX11_copy_89 : decode cX11_copy 89 = .ok (.invokevirtual 82, 3) := by decide +kernel
theorem dX11_copy_92 : decode cX11_copy 92 = .ok (.ifCond .ne 9, 3) := by decide +kernel
theorem dX11_copy_95 : decode cX11_copy 95 = .ok (.aload_n 0, 1) := by decide +kernel
theorem dX11_copy_96 : decode cX11_copy 96 = .ok (.iconst 3, 1) := by decide +kernel
theorem dX11_copy_97 : decode cX11_copy 97 = .ok (.invokevirtual 86, 3) := by decide +kernel
theorem dX11_copy_100 : decode cX11_copy 100 = .ok (.ireturn, 1) := by decide +kernel
theorem dX11_copy_101 : decode cX11_copy 101 = .ok (.aload 7, 2) := by decide +kernel
theorem dX11_copy_103 : decode cX11_copy 103 = .ok (.aload 6, 2) := by decide +kernel
theorem dX11_copy_105 : decode cX11_copy 105 = .ok (.iload_n 2, 1) := by decide +kernel
theorem dX11_copy_106 : decode cX11_copy 106 = .ok (.iload 4, 2) := by decide +kernel
theorem dX11_copy_108 : decode cX11_copy 108 = .ok (.iload 5, 2) := by decide +kernel
theorem dX11_copy_110 : decode cX11_copy 110 = .ok (.invokevirtual 248, 3) := by decide +kernel
theorem dX11_copy_113 : decode cX11_copy 113 = .ok (.iload 5, 2) := by decide +kernel
theorem dX11_copy_115 : decode cX11_copy 115 = .ok (.ireturn, 1) := by decide +kernel
theorem dX11_tell_0 : decode cX11_tell 0 = .ok (.aload_n 0, 1) := by decide +kernel
theorem dX11_tell_1 : decode cX11_tell 1 = .ok (.iload_n 1, 1) := by decide +kernel
theorem dX11_tell_2 : decode cX11_tell 2 = .ok (.invokevirtual 124, 3) := by decide +kernel
theorem dX11_tell_5 : decode cX11_tell 5 = .ok (.astore_n 2, 1) := by decide +kernel
theorem dX11_tell_6 : decode cX11_tell 6 = .ok (.aload_n 2, 1) := by decide +kernel
theorem dX11_tell_7 : decode cX11_tell 7 = .ok (.ifnonnull 7, 3) := by decide +kernel
theorem dX11_tell_10 : decode cX11_tell 10 = .ok (.iconst (-1), 1) := by decide +kernel
theorem dX11_tell_11 : decode cX11_tell 11 = .ok (.goto 11, 3) := by decide +kernel
theorem dX11_tell_14 : decode cX11_tell 14 = .ok (.aload_n 2, 1) := by decide +kernel
theorem dX11_tell_15 : decode cX11_tell 15 = .ok (.aload_n 0, 1) := by decide +kernel
theorem dX11_tell_16 : decode cX11_tell 16 = .ok (.getfield 40, 3) := by decide +kernel
theorem dX11_tell_19 : decode cX11_tell 19 = .ok (.invokevirtual 252, 3) := by decide +kernel
theorem dX11_tell_22 : decode cX11_tell 22 = .ok (.ireturn, 1) := by decide +kernel
theorem dX11_cheer_0 : decode cX11_cheer 0 = .ok (.aload_n 0, 1) := by decide +kernel
theorem dX11_cheer_1 : decode cX11_cheer 1 = .ok (.iload_n 1, 1) := by decide +kernel
theorem dX11_cheer_2 : decode cX11_cheer 2 = .ok (.invokevirtual 124, 3) := by decide +kernel
theorem dX11_cheer_5 : decode cX11_cheer 5 = .ok (.astore_n 2, 1) := by decide +kernel
theorem dX11_cheer_6 : decode cX11_cheer 6 = .ok (.aload_n 2, 1) := by decide +kernel
theorem dX11_cheer_7 : decode cX11_cheer 7 = .ok (.ifnonnull 7, 3) := by decide +kernel
theorem dX11_cheer_10 : decode cX11_cheer 10 = .ok (.iconst (-1), 1) := by decide +kernel
theorem dX11_cheer_11 : decode cX11_cheer 11 = .ok (.goto 11, 3) := by decide +kernel
theorem dX11_cheer_14 : decode cX11_cheer 14 = .ok (.aload_n 2, 1) := by decide +kernel
theorem dX11_cheer_15 : decode cX11_cheer 15 = .ok (.aload_n 0, 1) := by decide +kernel
theorem dX11_cheer_16 : decode cX11_cheer 16 = .ok (.getfield 40, 3) := by decide +kernel
theorem dX11_cheer_19 : decode cX11_cheer 19 = .ok (.invokevirtual 256, 3) := by decide +kernel
theorem dX11_cheer_22 : decode cX11_cheer 22 = .ok (.ireturn, 1) := by decide +kernel
theorem dX11_as_0 : decode cX11_as 0 = .ok (.aload_n 0, 1) := by decide +kernel
theorem dX11_as_1 : decode cX11_as 1 = .ok (.iconst 0, 1) := by decide +kernel
theorem dX11_as_2 : decode cX11_as 2 = .ok (.putfield 66, 3) := by decide +kernel
theorem dX11_as_5 : decode cX11_as 5 = .ok (.aload_n 0, 1) := by decide +kernel
theorem dX11_as_6 : decode cX11_as 6 = .ok (.iload_n 1, 1) := by decide +kernel
theorem dX11_as_7 : decode cX11_as 7 = .ok (.invokevirtual 124, 3) := by decide +kernel
theorem dX11_as_10 : decode cX11_as 10 = .ok (.astore_n 3, 1) := by decide +kernel
theorem dX11_as_11 : decode cX11_as 11 = .ok (.aload_n 3, 1) := by decide +kernel
theorem dX11_as_12 : decode cX11_as 12 = .ok (.ifnonnull 5, 3) := by decide +kernel
theorem dX11_as_15 : decode cX11_as 15 = .ok (.iconst (-1), 1) := by decide +kernel
theorem dX11_as_16 : decode cX11_as 16 = .ok (.ireturn, 1) := by decide +kernel
theorem dX11_as_17 : decode cX11_as 17 = .ok (.iload_n 2, 1) := by decide +kernel
theorem dX11_as_18 : decode cX11_as 18 = .ok (.iconst 0, 1) := by decide +kernel
theorem dX11_as_19 : decode cX11_as 19 = .ok (.iconst 2, 1) := by decide +kernel
theorem dX11_as_20 : decode cX11_as 20 = .ok (.invokestatic 143, 3) := by decide +kernel
theorem dX11_as_23 : decode cX11_as 23 = .ok (.ifCond .ne 6, 3) := by decide +kernel
theorem dX11_as_26 : decode cX11_as 26 = .ok (.bipush (-2), 2) := by decide +kernel
theorem dX11_as_28 : decode cX11_as 28 = .ok (.ireturn, 1) := by decide +kernel
theorem dX11_as_29 : decode cX11_as 29 = .ok (.aload_n 3, 1) := by decide +kernel
theorem dX11_as_30 : decode cX11_as 30 = .ok (.iload_n 2, 1) := by decide +kernel
theorem dX11_as_31 : decode cX11_as 31 = .ok (.invokestatic 259, 3) := by decide +kernel
theorem dX11_as_34 : decode cX11_as 34 = .ok (.ifCond .eq 7, 3) := by decide +kernel
theorem dX11_as_37 : decode cX11_as 37 = .ok (.iconst 1, 1) := by decide +kernel
theorem dX11_as_38 : decode cX11_as 38 = .ok (.goto 8, 3) := by decide +kernel
theorem dX11_as_41 : decode cX11_as 41 = .ok (.aload_n 0, 1) := by decide +kernel
theorem dX11_as_42 : decode cX11_as 42 = .ok (.iconst 2, 1) := by decide +kernel
theorem dX11_as_43 : decode cX11_as 43 = .ok (.invokevirtual 86, 3) := by decide +kernel
theorem dX11_as_46 : decode cX11_as 46 = .ok (.ireturn, 1) := by decide +kernel
theorem dX11_trace_0 : decode cX11_trace 0 = .ok (.aload_n 0, 1) := by decide +kernel
theorem dX11_trace_1 : decode cX11_trace 1 = .ok (.getfield 40, 3) := by decide +kernel
theorem dX11_trace_4 : decode cX11_trace 4 = .ok (.getfield 263, 3) := by decide +kernel
theorem dX11_trace_7 : decode cX11_trace 7 = .ok (.ireturn, 1) := by decide +kernel
theorem dX11_fault_0 : decode cX11_fault 0 = .ok (.aload_n 0, 1) := by decide +kernel
theorem dX11_fault_1 : decode cX11_fault 1 = .ok (.getfield 66, 3) := by decide +kernel
theorem dX11_fault_4 : decode cX11_fault 4 = .ok (.ireturn, 1) := by decide +kernel
theorem dX11_many_0 : decode cX11_many 0 = .ok (.iload_n 1, 1) := by decide +kernel
theorem dX11_many_1 : decode cX11_many 1 = .ok (.tableswitch 72 0 4 #[35, 43, 48, 56, 64], 35) := by decide +kernel
theorem dX11_many_36 : decode cX11_many 36 = .ok (.aload_n 0, 1) := by decide +kernel
theorem dX11_many_37 : decode cX11_many 37 = .ok (.getfield 12, 3) := by decide +kernel
theorem dX11_many_40 : decode cX11_many 40 = .ok (.getfield 266, 3) := by decide +kernel
theorem dX11_many_43 : decode cX11_many 43 = .ok (.ireturn, 1) := by decide +kernel
theorem dX11_many_44 : decode cX11_many 44 = .ok (.aload_n 0, 1) := by decide +kernel
theorem dX11_many_45 : decode cX11_many 45 = .ok (.getfield 96, 3) := by decide +kernel
theorem dX11_many_48 : decode cX11_many 48 = .ok (.ireturn, 1) := by decide +kernel
theorem dX11_many_49 : decode cX11_many 49 = .ok (.aload_n 0, 1) := by decide +kernel
theorem dX11_many_50 : decode cX11_many 50 = .ok (.getfield 12, 3) := by decide +kernel
theorem dX11_many_53 : decode cX11_many 53 = .ok (.getfield 147, 3) := by decide +kernel
theorem dX11_many_56 : decode cX11_many 56 = .ok (.ireturn, 1) := by decide +kernel
theorem dX11_many_57 : decode cX11_many 57 = .ok (.aload_n 0, 1) := by decide +kernel
theorem dX11_many_58 : decode cX11_many 58 = .ok (.getfield 12, 3) := by decide +kernel
theorem dX11_many_61 : decode cX11_many 61 = .ok (.invokevirtual 269, 3) := by decide +kernel
theorem dX11_many_64 : decode cX11_many 64 = .ok (.ireturn, 1) := by decide +kernel
theorem dX11_many_65 : decode cX11_many 65 = .ok (.aload_n 0, 1) := by decide +kernel
theorem dX11_many_66 : decode cX11_many 66 = .ok (.getfield 27, 3) := by decide +kernel
theorem dX11_many_69 : decode cX11_many 69 = .ok (.getfield 212, 3) := by decide +kernel
theorem dX11_many_72 : decode cX11_many 72 = .ok (.ireturn, 1) := by decide +kernel
theorem dX11_many_73 : decode cX11_many 73 = .ok (.bipush (-2), 2) := by decide +kernel
theorem dX11_many_75 : decode cX11_many 75 = .ok (.ireturn, 1) := by decide +kernel
theorem dX11_sheetOf_0 : decode cX11_sheetOf 0 = .ok (.iload_n 1, 1) := by decide +kernel
theorem dX11_sheetOf_1 : decode cX11_sheetOf 1 = .ok (.ifCond .lt 12, 3) := by decide +kernel
theorem dX11_sheetOf_4 : decode cX11_sheetOf 4 = .ok (.iload_n 1, 1) := by decide +kernel
theorem dX11_sheetOf_5 : decode cX11_sheetOf 5 = .ok (.aload_n 0, 1) := by decide +kernel
theorem dX11_sheetOf_6 : decode cX11_sheetOf 6 = .ok (.getfield 33, 3) := by decide +kernel
theorem dX11_sheetOf_9 : decode cX11_sheetOf 9 = .ok (.arraylength, 1) := by decide +kernel
theorem dX11_sheetOf_10 : decode cX11_sheetOf 10 = .ok (.if_icmp .lt 7, 3) := by decide +kernel
theorem dX11_sheetOf_13 : decode cX11_sheetOf 13 = .ok (.aconst_null, 1) := by decide +kernel
theorem dX11_sheetOf_14 : decode cX11_sheetOf 14 = .ok (.goto 9, 3) := by decide +kernel
theorem dX11_sheetOf_17 : decode cX11_sheetOf 17 = .ok (.aload_n 0, 1) := by decide +kernel
theorem dX11_sheetOf_18 : decode cX11_sheetOf 18 = .ok (.getfield 33, 3) := by decide +kernel
theorem dX11_sheetOf_21 : decode cX11_sheetOf 21 = .ok (.iload_n 1, 1) := by decide +kernel
theorem dX11_sheetOf_22 : decode cX11_sheetOf 22 = .ok (.aaload, 1) := by decide +kernel
theorem dX11_sheetOf_23 : decode cX11_sheetOf 23 = .ok (.areturn, 1) := by decide +kernel
theorem dX11_throwerOf_0 : decode cX11_throwerOf 0 = .ok (.iload_n 1, 1) := by decide +kernel
theorem dX11_throwerOf_1 : decode cX11_throwerOf 1 = .ok (.ifCond .lt 20, 3) := by decide +kernel
theorem dX11_throwerOf_4 : decode cX11_throwerOf 4 = .ok (.iload_n 1, 1) := by decide +kernel
theorem dX11_throwerOf_5 : decode cX11_throwerOf 5 = .ok (.aload_n 0, 1) := by decide +kernel
theorem dX11_throwerOf_6 : decode cX11_throwerOf 6 = .ok (.getfield 96, 3) := by decide +kernel
theorem dX11_throwerOf_9 : decode cX11_throwerOf 9 = .ok (.if_icmp .ge 12, 3) := by decide +kernel
theorem dX11_throwerOf_12 : decode cX11_throwerOf 12 = .ok (.iload_n 1, 1) := by decide +kernel
theorem dX11_throwerOf_13 : decode cX11_throwerOf 13 = .ok (.aload_n 0, 1) := by decide +kernel
theorem dX11_throwerOf_14 : decode cX11_throwerOf 14 = .ok (.getfield 20, 3) := by decide +kernel
theorem dX11_throwerOf_17 : decode cX11_throwerOf 17 = .ok (.arraylength, 1) := by decide +kernel
theorem dX11_throwerOf_18 : decode cX11_throwerOf 18 = .ok (.if_icmp .lt 7, 3) := by decide +kernel
theorem dX11_throwerOf_21 : decode cX11_throwerOf 21 = .ok (.aconst_null, 1) := by decide +kernel
theorem dX11_throwerOf_22 : decode cX11_throwerOf 22 = .ok (.goto 9, 3) := by decide +kernel
theorem dX11_throwerOf_25 : decode cX11_throwerOf 25 = .ok (.aload_n 0, 1) := by decide +kernel
theorem dX11_throwerOf_26 : decode cX11_throwerOf 26 = .ok (.getfield 20, 3) := by decide +kernel
theorem dX11_throwerOf_29 : decode cX11_throwerOf 29 = .ok (.iload_n 1, 1) := by decide +kernel
theorem dX11_throwerOf_30 : decode cX11_throwerOf 30 = .ok (.aaload, 1) := by decide +kernel
theorem dX11_throwerOf_31 : decode cX11_throwerOf 31 = .ok (.areturn, 1) := by decide +kernel
theorem dX11_comeTo_0 : decode cX11_comeTo 0 = .ok (.aload_n 0, 1) := by decide +kernel
theorem dX11_comeTo_1 : decode cX11_comeTo 1 = .ok (.iload_n 1, 1) := by decide +kernel
theorem dX11_comeTo_2 : decode cX11_comeTo 2 = .ok (.putfield 66, 3) := by decide +kernel
theorem dX11_comeTo_5 : decode cX11_comeTo 5 = .ok (.bipush (-10), 2) := by decide +kernel
theorem dX11_comeTo_7 : decode cX11_comeTo 7 = .ok (.iload_n 1, 1) := by decide +kernel
theorem dX11_comeTo_8 : decode cX11_comeTo 8 = .ok (.isub, 1) := by decide +kernel
theorem dX11_comeTo_9 : decode cX11_comeTo 9 = .ok (.ireturn, 1) := by decide +kernel
theorem dX11_makeAnew_0 : decode cX11_makeAnew 0 = .ok (.aload_n 0, 1) := by decide +kernel
theorem dX11_makeAnew_1 : decode cX11_makeAnew 1 = .ok (.getfield 12, 3) := by decide +kernel
theorem dX11_makeAnew_4 : decode cX11_makeAnew 4 = .ok (.aload_n 0, 1) := by decide +kernel
theorem dX11_makeAnew_5 : decode cX11_makeAnew 5 = .ok (.getfield 47, 3) := by decide +kernel
theorem dX11_makeAnew_8 : decode cX11_makeAnew 8 = .ok (.invokevirtual 272, 3) := by decide +kernel
theorem dX11_makeAnew_11 : decode cX11_makeAnew 11 = .ok (.iconst 0, 1) := by decide +kernel
theorem dX11_makeAnew_12 : decode cX11_makeAnew 12 = .ok (.istore_n 1, 1) := by decide +kernel
theorem dX11_makeAnew_13 : decode cX11_makeAnew 13 = .ok (.iload_n 1, 1) := by decide +kernel
theorem dX11_makeAnew_14 : decode cX11_makeAnew 14 = .ok (.aload_n 0, 1) := by decide +kernel
theorem dX11_makeAnew_15 : decode cX11_makeAnew 15 = .ok (.getfield 20, 3) := by decide +kernel
theorem dX11_makeAnew_18 : decode cX11_makeAnew 18 = .ok (.arraylength, 1) := by decide +kernel
theorem dX11_makeAnew_19 : decode cX11_makeAnew 19 = .ok (.if_icmp .ge 50, 3) := by decide +kernel
theorem dX11_makeAnew_22 : decode cX11_makeAnew 22 = .ok (.aload_n 0, 1) := by decide +kernel
theorem dX11_makeAnew_23 : decode cX11_makeAnew 23 = .ok (.getfield 20, 3) := by decide +kernel
theorem dX11_makeAnew_26 : decode cX11_makeAnew 26 = .ok (.iload_n 1, 1) := by decide +kernel
theorem dX11_makeAnew_27 : decode cX11_makeAnew 27 = .ok (.iload_n 1, 1) := by decide +kernel
theorem dX11_makeAnew_28 : decode cX11_makeAnew 28 = .ok (.aload_n 0, 1) := by decide +kernel
theorem dX11_makeAnew_29 : decode cX11_makeAnew 29 = .ok (.getfield 47, 3) := by decide +kernel
theorem dX11_makeAnew_32 : decode cX11_makeAnew 32 = .ok (.getfield 276, 3) := by decide +kernel
theorem dX11_makeAnew_35 : decode cX11_makeAnew 35 = .ok (.if_icmp .ge 26, 3) := by decide +kernel
theorem dX11_makeAnew_38 : decode cX11_makeAnew 38 = .ok (.aload_n 0, 1) := by decide +kernel
theorem dX11_makeAnew_39 : decode cX11_makeAnew 39 = .ok (.getfield 47, 3) := by decide +kernel
theorem dX11_makeAnew_42 : decode cX11_makeAnew 42 = .ok (.iload_n 1, 1) := by decide +kernel
theorem dX11_makeAnew_43 : decode cX11_makeAnew 43 = .ok (.invokevirtual 278, 3) := by decide +kernel
theorem dX11_makeAnew_46 : decode cX11_makeAnew 46 = .ok (.iload_n 1, 1) := by decide +kernel
theorem dX11_makeAnew_47 : decode cX11_makeAnew 47 = .ok (.aload_n 0, 1) := by decide +kernel
theorem dX11_makeAnew_48 : decode cX11_makeAnew 48 = .ok (.getfield 47, 3) := by decide +kernel
theorem dX11_makeAnew_51 : decode cX11_makeAnew 51 = .ok (.iload_n 1, 1) := by decide +kernel
theorem dX11_makeAnew_52 : decode cX11_makeAnew 52 = .ok (.invokevirtual 281, 3) := by decide +kernel
theorem dX11_makeAnew_55 : decode cX11_makeAnew 55 = .ok (.invokestatic 284, 3) := by decide +kernel
theorem dX11_makeAnew_58 : decode cX11_makeAnew 58 = .ok (.goto 4, 3) := by decide +kernel
theorem dX11_makeAnew_61 : decode cX11_makeAnew 61 = .ok (.aconst_null, 1) := by decide +kernel
theorem dX11_makeAnew_62 : decode cX11_makeAnew 62 = .ok (.aastore, 1) := by decide +kernel
theorem dX11_makeAnew_63 : decode cX11_makeAnew 63 = .ok (.iinc 1 1, 3) := by decide +kernel
theorem dX11_makeAnew_66 : decode cX11_makeAnew 66 = .ok (.goto (-53), 3) := by decide +kernel
theorem dX11_makeAnew_69 : decode cX11_makeAnew 69 = .ok (.aload_n 0, 1) := by decide +kernel
theorem dX11_makeAnew_70 : decode cX11_makeAnew 70 = .ok (.aload_n 0, 1) := by decide +kernel
theorem dX11_makeAnew_71 : decode cX11_makeAnew 71 = .ok (.getfield 47, 3) := by decide +kernel
theorem dX11_makeAnew_74 : decode cX11_makeAnew 74 = .ok (.getfield 276, 3) := by decide +kernel
theorem dX11_makeAnew_77 : decode cX11_makeAnew 77 = .ok (.putfield 96, 3) := by decide +kernel
theorem dX11_makeAnew_80 : decode cX11_makeAnew 80 = .ok (.aload_n 0, 1) := by decide +kernel
theorem dX11_makeAnew_81 : decode cX11_makeAnew 81 = .ok (.getfield 27, 3) := by decide +kernel
theorem dX11_makeAnew_84 : decode cX11_makeAnew 84 = .ok (.iconst 0, 1) := by decide +kernel
theorem dX11_makeAnew_85 : decode cX11_makeAnew 85 = .ok (.putfield 212, 3) := by decide +kernel
theorem dX11_makeAnew_88 : decode cX11_makeAnew 88 = .ok (.return_, 1) := by decide +kernel
theorem dX11_newThrower_0 : decode cX11_newThrower 0 = .ok (.iload_n 0, 1) := by decide +kernel
theorem dX11_newThrower_1 : decode cX11_newThrower 1 = .ok (.lookupswitch 47 #[(1, 27), (2, 37)], 27) := by decide +kernel
theorem dX11_newThrower_28 : decode cX11_newThrower 28 = .ok (.new 288, 3) := by decide +kernel
theorem dX11_newThrower_31 : decode cX11_newThrower 31 = .ok (.dup, 1) := by decide +kernel
theorem dX11_newThrower_32 : decode cX11_newThrower 32 = .ok (.iload_n 1, 1) := by decide +kernel
theorem dX11_newThrower_33 : decode cX11_newThrower 33 = .ok (.iload_n 2, 1) := by decide +kernel
theorem dX11_newThrower_34 : decode cX11_newThrower 34 = .ok (.invokespecial 290, 3) := by decide +kernel
theorem dX11_newThrower_37 : decode cX11_newThrower 37 = .ok (.areturn, 1) := by decide +kernel
theorem dX11_newThrower_38 : decode cX11_newThrower 38 = .ok (.new 292, 3) := by decide +kernel
theorem dX11_newThrower_41 : decode cX11_newThrower 41 = .ok (.dup, 1) := by decide +kernel
theorem dX11_newThrower_42 : decode cX11_newThrower 42 = .ok (.iload_n 1, 1) := by decide +kernel
theorem dX11_newThrower_43 : decode cX11_newThrower 43 = .ok (.iload_n 2, 1) := by decide +kernel
theorem dX11_newThrower_44 : decode cX11_newThrower 44 = .ok (.invokespecial 294, 3) := by decide +kernel
theorem dX11_newThrower_47 : decode cX11_newThrower 47 = .ok (.areturn, 1) := by decide +kernel
theorem dX11_newThrower_48 : decode cX11_newThrower 48 = .ok (.new 18, 3) := by decide +kernel
theorem dX11_newThrower_51 : decode cX11_newThrower 51 = .ok (.dup, 1) := by decide +kernel
theorem dX11_newThrower_52 : decode cX11_newThrower 52 = .ok (.iload_n 1, 1) := by decide +kernel
theorem dX11_newThrower_53 : decode cX11_newThrower 53 = .ok (.iload_n 2, 1) := by decide +kernel
theorem dX11_newThrower_54 : decode cX11_newThrower 54 = .ok (.invokespecial 295, 3) := by decide +kernel
theorem dX11_newThrower_57 : decode cX11_newThrower 57 = .ok (.areturn, 1) := by decide +kernel
theorem dX11_isOfKind_0 : decode cX11_isOfKind 0 = .ok (.iload_n 1, 1) := by decide +kernel
theorem dX11_isOfKind_1 : decode cX11_isOfKind 1 = .ok (.lookupswitch 37 #[(1, 27), (2, 32)], 27) := by decide +kernel
theorem dX11_isOfKind_28 : decode cX11_isOfKind 28 = .ok (.aload_n 0, 1) := by decide +kernel
theorem dX11_isOfKind_29 : decode cX11_isOfKind 29 = .ok (.instanceof 288, 3) := by decide +kernel
theorem dX11_isOfKind_32 : decode cX11_isOfKind 32 = .ok (.ireturn, 1) := by decide +kernel
theorem dX11_isOfKind_33 : decode cX11_isOfKind 33 = .ok (.aload_n 0, 1) := by decide +kernel
theorem dX11_isOfKind_34 : decode cX11_isOfKind 34 = .ok (.instanceof 292, 3) := by decide +kernel
theorem dX11_isOfKind_37 : decode cX11_isOfKind 37 = .ok (.ireturn, 1) := by decide +kernel
theorem dX11_isOfKind_38 : decode cX11_isOfKind 38 = .ok (.iconst 1, 1) := by decide +kernel
theorem dX11_isOfKind_39 : decode cX11_isOfKind 39 = .ok (.ireturn, 1) := by decide +kernel
theorem dX11_isLane_0 : decode cX11_isLane 0 = .ok (.iload_n 0, 1) := by decide +kernel
theorem dX11_isLane_1 : decode cX11_isLane 1 = .ok (.iconst 0, 1) := by decide +kernel
theorem dX11_isLane_2 : decode cX11_isLane 2 = .ok (.iconst 2, 1) := by decide +kernel
theorem dX11_isLane_3 : decode cX11_isLane 3 = .ok (.invokestatic 143, 3) := by decide +kernel
theorem dX11_isLane_6 : decode cX11_isLane 6 = .ok (.ireturn, 1) := by decide +kernel
theorem dX11_isWithin_0 : decode cX11_isWithin 0 = .ok (.iload_n 0, 1) := by decide +kernel
theorem dX11_isWithin_1 : decode cX11_isWithin 1 = .ok (.iload_n 1, 1) := by decide +kernel
theorem dX11_isWithin_2 : decode cX11_isWithin 2 = .ok (.if_icmp .lt 12, 3) := by decide +kernel
theorem dX11_isWithin_5 : decode cX11_isWithin 5 = .ok (.iload_n 0, 1) := by decide +kernel
theorem dX11_isWithin_6 : decode cX11_isWithin 6 = .ok (.iload_n 2, 1) := by decide +kernel
theorem dX11_isWithin_7 : decode cX11_isWithin 7 = .ok (.if_icmp .gt 7, 3) := by decide +kernel
theorem dX11_isWithin_10 : decode cX11_isWithin 10 = .ok (.iconst 1, 1) := by decide +kernel
theorem dX11_isWithin_11 : decode cX11_isWithin 11 = .ok (.goto 4, 3) := by decide +kernel
theorem dX11_isWithin_14 : decode cX11_isWithin 14 = .ok (.iconst 0, 1) := by decide +kernel
theorem dX11_isWithin_15 : decode cX11_isWithin 15 = .ok (.ireturn, 1) := by decide +kernel
theorem dX11_isAskedOfFeasts_0 : decode cX11_isAskedOfFeasts 0 = .ok (.iload_n 0, 1) := by decide +kernel
theorem dX11_isAskedOfFeasts_1 : decode cX11_isAskedOfFeasts 1 = .ok (.iconst 0, 1) := by decide +kernel
theorem dX11_isAskedOfFeasts_2 : decode cX11_isAskedOfFeasts 2 = .ok (.iconst 4, 1) := by decide +kernel
theorem dX11_isAskedOfFeasts_3 : decode cX11_isAskedOfFeasts 3 = .ok (.invokestatic 143, 3) := by decide +kernel
theorem dX11_isAskedOfFeasts_6 : decode cX11_isAskedOfFeasts 6 = .ok (.ifCond .ne 14, 3) := by decide +kernel
theorem dX11_isAskedOfFeasts_9 : decode cX11_isAskedOfFeasts 9 = .ok (.iload_n 0, 1) := by decide +kernel
theorem dX11_isAskedOfFeasts_10 : decode cX11_isAskedOfFeasts 10 = .ok (.bipush 10, 2) := by decide +kernel
theorem dX11_isAskedOfFeasts_12 : decode cX11_isAskedOfFeasts 12 = .ok (.bipush 13, 2) := by decide +kernel
theorem dX11_isAskedOfFeasts_14 : decode cX11_isAskedOfFeasts 14 = .ok (.invokestatic 143, 3) := by decide +kernel
theorem dX11_isAskedOfFeasts_17 : decode cX11_isAskedOfFeasts 17 = .ok (.ifCond .eq 7, 3) := by decide +kernel
theorem dX11_isAskedOfFeasts_20 : decode cX11_isAskedOfFeasts 20 = .ok (.iconst 1, 1) := by decide +kernel
theorem dX11_isAskedOfFeasts_21 : decode cX11_isAskedOfFeasts 21 = .ok (.goto 4, 3) := by decide +kernel
theorem dX11_isAskedOfFeasts_24 : decode cX11_isAskedOfFeasts 24 = .ok (.iconst 0, 1) := by decide +kernel
theorem dX11_isAskedOfFeasts_25 : decode cX11_isAskedOfFeasts 25 = .ok (.ireturn, 1) := by decide +kernel
theorem dX11_refusalOfPairs_0 : decode cX11_refusalOfPairs 0 = .ok (.iconst 0, 1) := by decide +kernel
theorem dX11_refusalOfPairs_1 : decode cX11_refusalOfPairs 1 = .ok (.istore 4, 2) := by decide +kernel
theorem dX11_refusalOfPairs_3 : decode cX11_refusalOfPairs 3 = .ok (.iload 4, 2) := by decide +kernel
theorem dX11_refusalOfPairs_5 : decode cX11_refusalOfPairs 5 = .ok (.iload_n 3, 1) := by decide +kernel
theorem dX11_refusalOfPairs_6 : decode cX11_refusalOfPairs 6 = .ok (.if_icmp .ge 45, 3) := by decide +kernel
theorem dX11_refusalOfPairs_9 : decode cX11_refusalOfPairs 9 = .ok (.aload_n 0, 1) := by decide +kernel
theorem dX11_refusalOfPairs_10 : decode cX11_refusalOfPairs 10 = .ok (.aload_n 1, 1) := by decide +kernel
theorem dX11_refusalOfPairs_11 : decode cX11_refusalOfPairs 11 = .ok (.iload_n 2, 1) := by decide +kernel
theorem dX11_refusalOfPairs_12 : decode cX11_refusalOfPairs 12 = .ok (.iconst 2, 1) := by decide +kernel
theorem dX11_refusalOfPairs_13 : decode cX11_refusalOfPairs 13 = .ok (.iload 4, 2) := by decide +kernel
theorem dX11_refusalOfPairs_15 : decode cX11_refusalOfPairs 15 = .ok (.imul, 1) := by decide +kernel
theorem dX11_refusalOfPairs_16 : decode cX11_refusalOfPairs 16 = .ok (.iadd, 1) := by decide +kernel
theorem dX11_refusalOfPairs_17 : decode cX11_refusalOfPairs 17 = .ok (.invokevirtual 242, 3) := by decide +kernel
theorem dX11_refusalOfPairs_20 : decode cX11_refusalOfPairs 20 = .ok (.aload_n 1, 1) := by decide +kernel
theorem dX11_refusalOfPairs_21 : decode cX11_refusalOfPairs 21 = .ok (.iload_n 2, 1) := by decide +kernel
theorem dX11_refusalOfPairs_22 : decode cX11_refusalOfPairs 22 = .ok (.iconst 2, 1) := by decide +kernel
theorem dX11_refusalOfPairs_23 : decode cX11_refusalOfPairs 23 = .ok (.iload 4, 2) := by decide +kernel
theorem dX11_refusalOfPairs_25 : decode cX11_refusalOfPairs 25 = .ok (.imul, 1) := by decide +kernel
theorem dX11_refusalOfPairs_26 : decode cX11_refusalOfPairs 26 = .ok (.iadd, 1) := by decide +kernel
theorem dX11_refusalOfPairs_27 : decode cX11_refusalOfPairs 27 = .ok (.iconst 1, 1) := by decide +kernel
theorem dX11_refusalOfPairs_28 : decode cX11_refusalOfPairs 28 = .ok (.iadd, 1) := by decide +kernel
theorem dX11_refusalOfPairs_29 : decode cX11_refusalOfPairs 29 = .ok (.invokevirtual 242, 3) := by decide +kernel
theorem dX11_refusalOfPairs_32 : decode cX11_refusalOfPairs 32 = .ok (.invokevirtual 296, 3) := by decide +kernel
theorem dX11_refusalOfPairs_35 : decode cX11_refusalOfPairs 35 = .ok (.istore 5, 2) := by decide +kernel
theorem dX11_refusalOfPairs_37 : decode cX11_refusalOfPairs 37 = .ok (.iload 5, 2) := by decide +kernel
theorem dX11_refusalOfPairs_39 : decode cX11_refusalOfPairs 39 = .ok (.ifCond .eq 6, 3) := by decide +kernel
theorem dX11_refusalOfPairs_42 : decode cX11_refusalOfPairs 42 = .ok (.iload 5, 2) := by decide +kernel
theorem dX11_refusalOfPairs_44 : decode cX11_refusalOfPairs 44 = .ok (.ireturn, 1) := by decide +kernel
theorem dX11_refusalOfPairs_45 : decode cX11_refusalOfPairs 45 = .ok (.iinc 4 1, 3) := by decide +kernel
theorem dX11_refusalOfPairs_48 : decode cX11_refusalOfPairs 48 = .ok (.goto (-45), 3) := by decide +kernel
theorem dX11_refusalOfPairs_51 : decode cX11_refusalOfPairs 51 = .ok (.iconst 0, 1) := by decide +kernel
theorem dX11_refusalOfPairs_52 : decode cX11_refusalOfPairs 52 = .ok (.ireturn, 1) := by decide +kernel
theorem dX11_refusalOfPair_0 : decode cX11_refusalOfPair 0 = .ok (.iload_n 2, 1) := by decide +kernel
theorem dX11_refusalOfPair_1 : decode cX11_refusalOfPair 1 = .ok (.bipush 10, 2) := by decide +kernel
theorem dX11_refusalOfPair_3 : decode cX11_refusalOfPair 3 = .ok (.if_icmp .eq 9, 3) := by decide +kernel
theorem dX11_refusalOfPair_6 : decode cX11_refusalOfPair 6 = .ok (.iload_n 2, 1) := by decide +kernel
theorem dX11_refusalOfPair_7 : decode cX11_refusalOfPair 7 = .ok (.bipush 11, 2) := by decide +kernel
theorem dX11_refusalOfPair_9 : decode cX11_refusalOfPair 9 = .ok (.if_icmp .ne 19, 3) := by decide +kernel
theorem dX11_refusalOfPair_12 : decode cX11_refusalOfPair 12 = .ok (.iload_n 1, 1) := by decide +kernel
theorem dX11_refusalOfPair_13 : decode cX11_refusalOfPair 13 = .ok (.iconst 0, 1) := by decide +kernel
theorem dX11_refusalOfPair_14 : decode cX11_refusalOfPair 14 = .ok (.iconst 3, 1) := by decide +kernel
theorem dX11_refusalOfPair_15 : decode cX11_refusalOfPair 15 = .ok (.invokestatic 143, 3) := by decide +kernel
theorem dX11_refusalOfPair_18 : decode cX11_refusalOfPair 18 = .ok (.ifCond .eq 7, 3) := by decide +kernel
theorem dX11_refusalOfPair_21 : decode cX11_refusalOfPair 21 = .ok (.iconst 0, 1) := by decide +kernel
theorem dX11_refusalOfPair_22 : decode cX11_refusalOfPair 22 = .ok (.goto 5, 3) := by decide +kernel
theorem dX11_refusalOfPair_25 : decode cX11_refusalOfPair 25 = .ok (.bipush (-2), 2) := by decide +kernel
theorem dX11_refusalOfPair_27 : decode cX11_refusalOfPair 27 = .ok (.ireturn, 1) := by decide +kernel
theorem dX11_refusalOfPair_28 : decode cX11_refusalOfPair 28 = .ok (.iload_n 2, 1) := by decide +kernel
theorem dX11_refusalOfPair_29 : decode cX11_refusalOfPair 29 = .ok (.iconst 0, 1) := by decide +kernel
theorem dX11_refusalOfPair_30 : decode cX11_refusalOfPair 30 = .ok (.iconst 3, 1) := by decide +kernel
theorem dX11_refusalOfPair_31 : decode cX11_refusalOfPair 31 = .ok (.invokestatic 143, 3) := by decide +kernel
theorem dX11_refusalOfPair_34 : decode cX11_refusalOfPair 34 = .ok (.ifCond .ne 6, 3) := by decide +kernel
theorem dX11_refusalOfPair_37 : decode cX11_refusalOfPair 37 = .ok (.bipush (-2), 2) := by decide +kernel
theorem dX11_refusalOfPair_39 : decode cX11_refusalOfPair 39 = .ok (.ireturn, 1) := by decide +kernel
theorem dX11_refusalOfPair_40 : decode cX11_refusalOfPair 40 = .ok (.aload_n 0, 1) := by decide +kernel
theorem dX11_refusalOfPair_41 : decode cX11_refusalOfPair 41 = .ok (.iload_n 1, 1) := by decide +kernel
theorem dX11_refusalOfPair_42 : decode cX11_refusalOfPair 42 = .ok (.invokevirtual 124, 3) := by decide +kernel
theorem dX11_refusalOfPair_45 : decode cX11_refusalOfPair 45 = .ok (.ifnonnull 7, 3) := by decide +kernel
theorem dX11_refusalOfPair_48 : decode cX11_refusalOfPair 48 = .ok (.iconst (-1), 1) := by decide +kernel
theorem dX11_refusalOfPair_49 : decode cX11_refusalOfPair 49 = .ok (.goto 4, 3) := by decide +kernel
theorem dX11_refusalOfPair_52 : decode cX11_refusalOfPair 52 = .ok (.iconst 0, 1) := by decide +kernel
theorem dX11_refusalOfPair_53 : decode cX11_refusalOfPair 53 = .ok (.ireturn, 1) := by decide +kernel
theorem dX11_tellFeast_0 : decode cX11_tellFeast 0 = .ok (.aload_n 0, 1) := by decide +kernel
theorem dX11_tellFeast_1 : decode cX11_tellFeast 1 = .ok (.getfield 54, 3) := by decide +kernel
theorem dX11_tellFeast_4 : decode cX11_tellFeast 4 = .ok (.aload_n 0, 1) := by decide +kernel
theorem dX11_tellFeast_5 : decode cX11_tellFeast 5 = .ok (.getfield 12, 3) := by decide +kernel
theorem dX11_tellFeast_8 : decode cX11_tellFeast 8 = .ok (.invokevirtual 299, 3) := by decide +kernel
theorem dX11_tellFeast_11 : decode cX11_tellFeast 11 = .ok (.iconst 0, 1) := by decide +kernel
theorem dX11_tellFeast_12 : decode cX11_tellFeast 12 = .ok (.istore 4, 2) := by decide +kernel
theorem dX11_tellFeast_14 : decode cX11_tellFeast 14 = .ok (.iload 4, 2) := by decide +kernel
theorem dX11_tellFeast_16 : decode cX11_tellFeast 16 = .ok (.iload_n 3, 1) := by decide +kernel
theorem dX11_tellFeast_17 : decode cX11_tellFeast 17 = .ok (.if_icmp .ge 59, 3) := by decide +kernel
theorem dX11_tellFeast_20 : decode cX11_tellFeast 20 = .ok (.aload_n 0, 1) := by decide +kernel
theorem dX11_tellFeast_21 : decode cX11_tellFeast 21 = .ok (.getfield 54, 3) := by decide +kernel
theorem dX11_tellFeast_24 : decode cX11_tellFeast 24 = .ok (.getfield 303, 3) := by decide +kernel
theorem dX11_tellFeast_27 : decode cX11_tellFeast 27 = .ok (.bipush (-9), 2) := by decide +kernel
theorem dX11_tellFeast_29 : decode cX11_tellFeast 29 = .ok (.if_icmp .ne 47, 3) := by decide +kernel
theorem dX11_tellFeast_32 : decode cX11_tellFeast 32 = .ok (.aload_n 0, 1) := by decide +kernel
theorem dX11_tellFeast_33 : decode cX11_tellFeast 33 = .ok (.aload_n 1, 1) := by decide +kernel
theorem dX11_tellFeast_34 : decode cX11_tellFeast 34 = .ok (.iload_n 2, 1) := by decide +kernel
theorem dX11_tellFeast_35 : decode cX11_tellFeast 35 = .ok (.iconst 2, 1) := by decide +kernel
theorem dX11_tellFeast_36 : decode cX11_tellFeast 36 = .ok (.iload 4, 2) := by decide +kernel
theorem dX11_tellFeast_38 : decode cX11_tellFeast 38 = .ok (.imul, 1) := by decide +kernel
theorem dX11_tellFeast_39 : decode cX11_tellFeast 39 = .ok (.iadd, 1) := by decide +kernel
theorem dX11_tellFeast_40 : decode cX11_tellFeast 40 = .ok (.invokevirtual 242, 3) := by decide +kernel
theorem dX11_tellFeast_43 : decode cX11_tellFeast 43 = .ok (.aload_n 1, 1) := by decide +kernel
theorem dX11_tellFeast_44 : decode cX11_tellFeast 44 = .ok (.iload_n 2, 1) := by decide +kernel
theorem dX11_tellFeast_45 : decode cX11_tellFeast 45 = .ok (.iconst 2, 1) := by decide +kernel
theorem dX11_tellFeast_46 : decode cX11_tellFeast 46 = .ok (.iload 4, 2) := by decide +kernel
theorem dX11_tellFeast_48 : decode cX11_tellFeast 48 = .ok (.imul, 1) := by decide +kernel
theorem dX11_tellFeast_49 : decode cX11_tellFeast 49 = .ok (.iadd, 1) := by decide +kernel
theorem dX11_tellFeast_50 : decode cX11_tellFeast 50 = .ok (.iconst 1, 1) := by decide +kernel
theorem dX11_tellFeast_51 : decode cX11_tellFeast 51 = .ok (.iadd, 1) := by decide +kernel
theorem dX11_tellFeast_52 : decode cX11_tellFeast 52 = .ok (.invokevirtual 242, 3) := by decide +kernel
theorem dX11_tellFeast_55 : decode cX11_tellFeast 55 = .ok (.invokevirtual 306, 3) := by decide +kernel
theorem dX11_tellFeast_58 : decode cX11_tellFeast 58 = .ok (.ifCond .ne 12, 3) := by decide +kernel
theorem dX11_tellFeast_61 : decode cX11_tellFeast 61 = .ok (.aload_n 0, 1) := by decide +kernel
theorem dX11_tellFeast_62 : decode cX11_tellFeast 62 = .ok (.getfield 54, 3) := by decide +kernel
theorem dX11_tellFeast_65 : decode cX11_tellFeast 65 = .ok (.iload 4, 2) := by decide +kernel
theorem dX11_tellFeast_67 : decode cX11_tellFeast 67 = .ok (.putfield 303, 3) := by decide +kernel
theorem dX11_tellFeast_70 : decode cX11_tellFeast 70 = .ok (.iinc 4 1, 3) := by decide +kernel
theorem dX11_tellFeast_73 : decode cX11_tellFeast 73 = .ok (.goto (-59), 3) := by decide +kernel
theorem dX11_tellFeast_76 : decode cX11_tellFeast 76 = .ok (.return_, 1) := by decide +kernel
theorem dX11_canAct_0 : decode cX11_canAct 0 = .ok (.iload_n 2, 1) := by decide +kernel
theorem dX11_canAct_1 : decode cX11_canAct 1 = .ok (.bipush 10, 2) := by decide +kernel
theorem dX11_canAct_3 : decode cX11_canAct 3 = .ok (.if_icmp .ne 16, 3) := by decide +kernel
theorem dX11_canAct_6 : decode cX11_canAct 6 = .ok (.aload_n 0, 1) := by decide +kernel
theorem dX11_canAct_7 : decode cX11_canAct 7 = .ok (.getfield 54, 3) := by decide +kernel
theorem dX11_canAct_10 : decode cX11_canAct 10 = .ok (.getfield 309, 3) := by decide +kernel
theorem dX11_canAct_13 : decode cX11_canAct 13 = .ok (.iload_n 1, 1) := by decide +kernel
theorem dX11_canAct_14 : decode cX11_canAct 14 = .ok (.putfield 147, 3) := by decide +kernel
theorem dX11_canAct_17 : decode cX11_canAct 17 = .ok (.iconst 1, 1) := by decide +kernel
theorem dX11_canAct_18 : decode cX11_canAct 18 = .ok (.ireturn, 1) := by decide +kernel
theorem dX11_canAct_19 : decode cX11_canAct 19 = .ok (.iload_n 2, 1) := by decide +kernel
theorem dX11_canAct_20 : decode cX11_canAct 20 = .ok (.bipush 11, 2) := by decide +kernel
theorem dX11_canAct_22 : decode cX11_canAct 22 = .ok (.if_icmp .ne 12, 3) := by decide +kernel
theorem dX11_canAct_25 : decode cX11_canAct 25 = .ok (.aload_n 0, 1) := by decide +kernel
theorem dX11_canAct_26 : decode cX11_canAct 26 = .ok (.getfield 54, 3) := by decide +kernel
theorem dX11_canAct_29 : decode cX11_canAct 29 = .ok (.iload_n 1, 1) := by decide +kernel
theorem dX11_canAct_30 : decode cX11_canAct 30 = .ok (.invokevirtual 310, 3) := by decide +kernel
theorem dX11_canAct_33 : decode cX11_canAct 33 = .ok (.ireturn, 1) := by decide +kernel
theorem dX11_canAct_34 : decode cX11_canAct 34 = .ok (.aload_n 0, 1) := by decide +kernel
theorem dX11_canAct_35 : decode cX11_canAct 35 = .ok (.iload_n 1, 1) := by decide +kernel
theorem dX11_canAct_36 : decode cX11_canAct 36 = .ok (.invokevirtual 124, 3) := by decide +kernel
theorem dX11_canAct_39 : decode cX11_canAct 39 = .ok (.astore_n 3, 1) := by decide +kernel
theorem dX11_canAct_40 : decode cX11_canAct 40 = .ok (.aload_n 3, 1) := by decide +kernel
theorem dX11_canAct_41 : decode cX11_canAct 41 = .ok (.ifnull 19, 3) := by decide +kernel
theorem dX11_canAct_44 : decode cX11_canAct 44 = .ok (.aload_n 0, 1) := by decide +kernel
theorem dX11_canAct_45 : decode cX11_canAct 45 = .ok (.getfield 54, 3) := by decide +kernel
theorem dX11_canAct_48 : decode cX11_canAct 48 = .ok (.aload_n 3, 1) := by decide +kernel
theorem dX11_canAct_49 : decode cX11_canAct 49 = .ok (.iload_n 2, 1) := by decide +kernel
theorem dX11_canAct_50 : decode cX11_canAct 50 = .ok (.invokevirtual 313, 3) := by decide +kernel
theorem dX11_canAct_53 : decode cX11_canAct 53 = .ok (.ifCond .eq 7, 3) := by decide +kernel
theorem dX11_canAct_56 : decode cX11_canAct 56 = .ok (.iconst 1, 1) := by decide +kernel
theorem dX11_canAct_57 : decode cX11_canAct 57 = .ok (.goto 4, 3) := by decide +kernel
theorem dX11_canAct_60 : decode cX11_canAct 60 = .ok (.iconst 0, 1) := by decide +kernel
theorem dX11_canAct_61 : decode cX11_canAct 61 = .ok (.ireturn, 1) := by decide +kernel
theorem dX11_winsOf_0 : decode cX11_winsOf 0 = .ok (.iconst 0, 1) := by decide +kernel
theorem dX11_winsOf_1 : decode cX11_winsOf 1 = .ok (.istore_n 2, 1) := by decide +kernel
theorem dX11_winsOf_2 : decode cX11_winsOf 2 = .ok (.iconst 0, 1) := by decide +kernel
theorem dX11_winsOf_3 : decode cX11_winsOf 3 = .ok (.istore_n 3, 1) := by decide +kernel
theorem dX11_winsOf_4 : decode cX11_winsOf 4 = .ok (.iload_n 3, 1) := by decide +kernel
theorem dX11_winsOf_5 : decode cX11_winsOf 5 = .ok (.aload_n 0, 1) := by decide +kernel
theorem dX11_winsOf_6 : decode cX11_winsOf 6 = .ok (.getfield 12, 3) := by decide +kernel
theorem dX11_winsOf_9 : decode cX11_winsOf 9 = .ok (.getfield 266, 3) := by decide +kernel
theorem dX11_winsOf_12 : decode cX11_winsOf 12 = .ok (.if_icmp .ge 58, 3) := by decide +kernel
theorem dX11_winsOf_15 : decode cX11_winsOf 15 = .ok (.aload_n 0, 1) := by decide +kernel
theorem dX11_winsOf_16 : decode cX11_winsOf 16 = .ok (.getfield 12, 3) := by decide +kernel
theorem dX11_winsOf_19 : decode cX11_winsOf 19 = .ok (.iload_n 3, 1) := by decide +kernel
theorem dX11_winsOf_20 : decode cX11_winsOf 20 = .ok (.invokevirtual 99, 3) := by decide +kernel
theorem dX11_winsOf_23 : decode cX11_winsOf 23 = .ok (.astore 4, 2) := by decide +kernel
theorem dX11_winsOf_25 : decode cX11_winsOf 25 = .ok (.aload 4, 2) := by decide +kernel
theorem dX11_winsOf_27 : decode cX11_winsOf 27 = .ok (.ifnull 37, 3) := by decide +kernel
theorem dX11_winsOf_30 : decode cX11_winsOf 30 = .ok (.aload 4, 2) := by decide +kernel
theorem dX11_winsOf_32 : decode cX11_winsOf 32 = .ok (.aload_n 1, 1) := by decide +kernel
theorem dX11_winsOf_33 : decode cX11_winsOf 33 = .ok (.getfield 316, 3) := by decide +kernel
theorem dX11_winsOf_36 : decode cX11_winsOf 36 = .ok (.aload 4, 2) := by decide +kernel
theorem dX11_winsOf_38 : decode cX11_winsOf 38 = .ok (.aload_n 1, 1) := by decide +kernel
theorem dX11_winsOf_39 : decode cX11_winsOf 39 = .ok (.invokevirtual 134, 3) := by decide +kernel
theorem dX11_winsOf_42 : decode cX11_winsOf 42 = .ok (.aload_n 0, 1) := by decide +kernel
theorem dX11_winsOf_43 : decode cX11_winsOf 43 = .ok (.getfield 12, 3) := by decide +kernel
theorem dX11_winsOf_46 : decode cX11_winsOf 46 = .ok (.getfield 147, 3) := by decide +kernel
theorem dX11_winsOf_49 : decode cX11_winsOf 49 = .ok (.invokevirtual 150, 3) := by decide +kernel
theorem dX11_winsOf_52 : decode cX11_winsOf 52 = .ok (.invokevirtual 224, 3) := by decide +kernel
theorem dX11_winsOf_55 : decode cX11_winsOf 55 = .ok (.ifCond .eq 9, 3) := by decide +kernel
theorem dX11_winsOf_58 : decode cX11_winsOf 58 = .ok (.iload_n 2, 1) := by decide +kernel
theorem dX11_winsOf_59 : decode cX11_winsOf 59 = .ok (.iconst 1, 1) := by decide +kernel
theorem dX11_winsOf_60 : decode cX11_winsOf 60 = .ok (.iload_n 3, 1) := by decide +kernel
theorem dX11_winsOf_61 : decode cX11_winsOf 61 = .ok (.ishl, 1) := by decide +kernel
theorem dX11_winsOf_62 : decode cX11_winsOf 62 = .ok (.ior, 1) := by decide +kernel
theorem dX11_winsOf_63 : decode cX11_winsOf 63 = .ok (.istore_n 2, 1) := by decide +kernel
theorem dX11_winsOf_64 : decode cX11_winsOf 64 = .ok (.iinc 3 1, 3) := by decide +kernel
theorem dX11_winsOf_67 : decode cX11_winsOf 67 = .ok (.goto (-63), 3) := by decide +kernel
theorem dX11_winsOf_70 : decode cX11_winsOf 70 = .ok (.iload_n 2, 1) := by decide +kernel
theorem dX11_winsOf_71 : decode cX11_winsOf 71 = .ok (.ireturn, 1) := by decide +kernel
theorem dX11_preparePairing_0 : decode cX11_preparePairing 0 = .ok (.aload_n 0, 1) := by decide +kernel
theorem dX11_preparePairing_1 : decode cX11_preparePairing 1 = .ok (.getfield 61, 3) := by decide +kernel
theorem dX11_preparePairing_4 : decode cX11_preparePairing 4 = .ok (.aload_n 0, 1) := by decide +kernel
theorem dX11_preparePairing_5 : decode cX11_preparePairing 5 = .ok (.getfield 96, 3) := by decide +kernel
theorem dX11_preparePairing_8 : decode cX11_preparePairing 8 = .ok (.aload_n 0, 1) := by decide +kernel
theorem dX11_preparePairing_9 : decode cX11_preparePairing 9 = .ok (.getfield 12, 3) := by decide +kernel
theorem dX11_preparePairing_12 : decode cX11_preparePairing 12 = .ok (.getfield 266, 3) := by decide +kernel
theorem dX11_preparePairing_15 : decode cX11_preparePairing 15 = .ok (.invokevirtual 319, 3) := by decide +kernel
theorem dX11_preparePairing_18 : decode cX11_preparePairing 18 = .ok (.iconst 0, 1) := by decide +kernel
theorem dX11_preparePairing_19 : decode cX11_preparePairing 19 = .ok (.istore_n 1, 1) := by decide +kernel
theorem dX11_preparePairing_20 : decode cX11_preparePairing 20 = .ok (.iload_n 1, 1) := by decide +kernel
theorem dX11_preparePairing_21 : decode cX11_preparePairing 21 = .ok (.aload_n 0, 1) := by decide +kernel
theorem dX11_preparePairing_22 : decode cX11_preparePairing 22 = .ok (.getfield 96, 3) := by decide +kernel
theorem dX11_preparePairing_25 : decode cX11_preparePairing 25 = .ok (.if_icmp .ge 37, 3) := by decide +kernel
theorem dX11_preparePairing_28 : decode cX11_preparePairing 28 = .ok (.aload_n 0, 1) := by decide +kernel
theorem dX11_preparePairing_29 : decode cX11_preparePairing 29 = .ok (.iload_n 1, 1) := by decide +kernel
theorem dX11_preparePairing_30 : decode cX11_preparePairing 30 = .ok (.invokevirtual 124, 3) := by decide +kernel
theorem dX11_preparePairing_33 : decode cX11_preparePairing 33 = .ok (.astore_n 2, 1) := by decide +kernel
theorem dX11_preparePairing_34 : decode cX11_preparePairing 34 = .ok (.aload_n 2, 1) := by decide +kernel
theorem dX11_preparePairing_35 : decode cX11_preparePairing 35 = .ok (.ifnull 21, 3) := by decide +kernel
theorem dX11_preparePairing_38 : decode cX11_preparePairing 38 = .ok (.aload_n 0, 1) := by decide +kernel
theorem dX11_preparePairing_39 : decode cX11_preparePairing 39 = .ok (.getfield 61, 3) := by decide +kernel
theorem dX11_preparePairing_42 : decode cX11_preparePairing 42 = .ok (.iload_n 1, 1) := by decide +kernel
theorem dX11_preparePairing_43 : decode cX11_preparePairing 43 = .ok (.aload_n 0, 1) := by decide +kernel
theorem dX11_preparePairing_44 : decode cX11_preparePairing 44 = .ok (.aload_n 2, 1) := by decide +kernel
theorem dX11_preparePairing_45 : decode cX11_preparePairing 45 = .ok (.invokevirtual 178, 3) := by decide +kernel
theorem dX11_preparePairing_48 : decode cX11_preparePairing 48 = .ok (.invokevirtual 321, 3) := by decide +kernel
theorem dX11_preparePairing_51 : decode cX11_preparePairing 51 = .ok (.aload_n 0, 1) := by decide +kernel
theorem dX11_preparePairing_52 : decode cX11_preparePairing 52 = .ok (.aload_n 2, 1) := by decide +kernel
theorem dX11_preparePairing_53 : decode cX11_preparePairing 53 = .ok (.invokevirtual 324, 3) := by decide +kernel
theorem dX11_preparePairing_56 : decode cX11_preparePairing 56 = .ok (.iinc 1 1, 3) := by decide +kernel
theorem dX11_preparePairing_59 : decode cX11_preparePairing 59 = .ok (.goto (-39), 3) := by decide +kernel
theorem dX11_preparePairing_62 : decode cX11_preparePairing 62 = .ok (.return_, 1) := by decide +kernel
theorem dX11_noteNearness_0 : decode cX11_noteNearness 0 = .ok (.iconst 0, 1) := by decide +kernel
theorem dX11_noteNearness_1 : decode cX11_noteNearness 1 = .ok (.istore_n 2, 1) := by decide +kernel
theorem dX11_noteNearness_2 : decode cX11_noteNearness 2 = .ok (.iload_n 2, 1) := by decide +kernel
theorem dX11_noteNearness_3 : decode cX11_noteNearness 3 = .ok (.aload_n 0, 1) := by decide +kernel
theorem dX11_noteNearness_4 : decode cX11_noteNearness 4 = .ok (.getfield 12, 3) := by decide +kernel
theorem dX11_noteNearness_7 : decode cX11_noteNearness 7 = .ok (.getfield 266, 3) := by decide +kernel
theorem dX11_noteNearness_10 : decode cX11_noteNearness 10 = .ok (.if_icmp .ge 49, 3) := by decide +kernel
theorem dX11_noteNearness_13 : decode cX11_noteNearness 13 = .ok (.aload_n 0, 1) := by decide +kernel
theorem dX11_noteNearness_14 : decode cX11_noteNearness 14 = .ok (.getfield 12, 3) := by decide +kernel
theorem dX11_noteNearness_17 : decode cX11_noteNearness 17 = .ok (.iload_n 2, 1) := by decide +kernel
theorem dX11_noteNearness_18 : decode cX11_noteNearness 18 = .ok (.invokevirtual 99, 3) := by decide +kernel
theorem dX11_noteNearness_21 : decode cX11_noteNearness 21 = .ok (.astore_n 3, 1) := by decide +kernel
theorem dX11_noteNearness_22 : decode cX11_noteNearness 22 = .ok (.aload_n 3, 1) := by decide +kernel
theorem dX11_noteNearness_23 : decode cX11_noteNearness 23 = .ok (.ifnull 30, 3) := by decide +kernel
theorem dX11_noteNearness_26 : decode cX11_noteNearness 26 = .ok (.aload_n 0, 1) := by decide +kernel
theorem dX11_noteNearness_27 : decode cX11_noteNearness 27 = .ok (.getfield 61, 3) := by decide +kernel
theorem dX11_noteNearness_30 : decode cX11_noteNearness 30 = .ok (.aload_n 1, 1) := by decide +kernel
theorem dX11_noteNearness_31 : decode cX11_noteNearness 31 = .ok (.getfield 316, 3) := by decide +kernel
theorem dX11_noteNearness_34 : decode cX11_noteNearness 34 = .ok (.iload_n 2, 1) := by decide +kernel
theorem dX11_noteNearness_35 : decode cX11_noteNearness 35 = .ok (.aload_n 3, 1) := by decide +kernel
theorem dX11_noteNearness_36 : decode cX11_noteNearness 36 = .ok (.aload_n 1, 1) := by decide +kernel
theorem dX11_noteNearness_37 : decode cX11_noteNearness 37 = .ok (.invokevirtual 134, 3) := by decide +kernel
theorem dX11_noteNearness_40 : decode cX11_noteNearness 40 = .ok (.aload_n 0, 1) := by decide +kernel
theorem dX11_noteNearness_41 : decode cX11_noteNearness 41 = .ok (.getfield 12, 3) := by decide +kernel
theorem dX11_noteNearness_44 : decode cX11_noteNearness 44 = .ok (.getfield 147, 3) := by decide +kernel
theorem dX11_noteNearness_47 : decode cX11_noteNearness 47 = .ok (.invokevirtual 150, 3) := by decide +kernel
theorem dX11_noteNearness_50 : decode cX11_noteNearness 50 = .ok (.invokevirtual 328, 3) := by decide +kernel
theorem dX11_noteNearness_53 : decode cX11_noteNearness 53 = .ok (.iinc 2 1, 3) := by decide +kernel
theorem dX11_noteNearness_56 : decode cX11_noteNearness 56 = .ok (.goto (-54), 3) := by decide +kernel
theorem dX11_noteNearness_59 : decode cX11_noteNearness 59 = .ok (.return_, 1) := by decide +kernel
theorem dX11_allSoWith_0 : decode cX11_allSoWith 0 = .ok (.iconst 0, 1) := by decide +kernel
theorem dX11_allSoWith_1 : decode cX11_allSoWith 1 = .ok (.istore 5, 2) := by decide +kernel
theorem dX11_allSoWith_3 : decode cX11_allSoWith 3 = .ok (.iload 5, 2) := by decide +kernel
theorem dX11_allSoWith_5 : decode cX11_allSoWith 5 = .ok (.aload_n 0, 1) := by decide +kernel
theorem dX11_allSoWith_6 : decode cX11_allSoWith 6 = .ok (.getfield 27, 3) := by decide +kernel
theorem dX11_allSoWith_9 : decode cX11_allSoWith 9 = .ok (.getfield 212, 3) := by decide +kernel
theorem dX11_allSoWith_12 : decode cX11_allSoWith 12 = .ok (.if_icmp .ge 132, 3) := by decide +kernel
theorem dX11_allSoWith_15 : decode cX11_allSoWith 15 = .ok (.aload_n 0, 1) := by decide +kernel
theorem dX11_allSoWith_16 : decode cX11_allSoWith 16 = .ok (.aload_n 0, 1) := by decide +kernel
theorem dX11_allSoWith_17 : decode cX11_allSoWith 17 = .ok (.getfield 27, 3) := by decide +kernel
theorem dX11_allSoWith_20 : decode cX11_allSoWith 20 = .ok (.iload 5, 2) := by decide +kernel
theorem dX11_allSoWith_22 : decode cX11_allSoWith 22 = .ok (.invokevirtual 331, 3) := by decide +kernel
theorem dX11_allSoWith_25 : decode cX11_allSoWith 25 = .ok (.invokevirtual 124, 3) := by decide +kernel
theorem dX11_allSoWith_28 : decode cX11_allSoWith 28 = .ok (.astore 6, 2) := by decide +kernel
theorem dX11_allSoWith_30 : decode cX11_allSoWith 30 = .ok (.aload_n 0, 1) := by decide +kernel
theorem dX11_allSoWith_31 : decode cX11_allSoWith 31 = .ok (.getfield 12, 3) := by decide +kernel
theorem dX11_allSoWith_34 : decode cX11_allSoWith 34 = .ok (.aload_n 0, 1) := by decide +kernel
theorem dX11_allSoWith_35 : decode cX11_allSoWith 35 = .ok (.getfield 27, 3) := by decide +kernel
theorem dX11_allSoWith_38 : decode cX11_allSoWith 38 = .ok (.iload 5, 2) := by decide +kernel
theorem dX11_allSoWith_40 : decode cX11_allSoWith 40 = .ok (.invokevirtual 334, 3) := by decide +kernel
theorem dX11_allSoWith_43 : decode cX11_allSoWith 43 = .ok (.invokevirtual 99, 3) := by decide +kernel
theorem dX11_allSoWith_46 : decode cX11_allSoWith 46 = .ok (.astore 7, 2) := by decide +kernel
theorem dX11_allSoWith_48 : decode cX11_allSoWith 48 = .ok (.aload 6, 2) := by decide +kernel
theorem dX11_allSoWith_50 : decode cX11_allSoWith 50 = .ok (.ifnull 8, 3) := by decide +kernel
theorem dX11_allSoWith_53 : decode cX11_allSoWith 53 = .ok (.aload 7, 2) := by decide +kernel
theorem dX11_allSoWith_55 : decode cX11_allSoWith 55 = .ok (.ifnonnull 5, 3) := by decide +kernel
theorem dX11_allSoWith_58 : decode cX11_allSoWith 58 = .ok (.iconst 0, 1) := by decide +kernel
theorem dX11_allSoWith_59 : decode cX11_allSoWith 59 = .ok (.ireturn, 1) := by decide +kernel
theorem dX11_allSoWith_60 : decode cX11_allSoWith 60 = .ok (.aload 6, 2) := by decide +kernel
theorem dX11_allSoWith_62 : decode cX11_allSoWith 62 = .ok (.getfield 316, 3) := by decide +kernel
theorem dX11_allSoWith_65 : decode cX11_allSoWith 65 = .ok (.iload_n 1, 1) := by decide +kernel
theorem dX11_allSoWith_66 : decode cX11_allSoWith 66 = .ok (.if_icmp .ne 7, 3) := by decide +kernel
theorem dX11_allSoWith_69 : decode cX11_allSoWith 69 = .ok (.iload_n 2, 1) := by decide +kernel
theorem dX11_allSoWith_70 : decode cX11_allSoWith 70 = .ok (.goto 8, 3) := by decide +kernel
theorem dX11_allSoWith_73 : decode cX11_allSoWith 73 = .ok (.aload 6, 2) := by decide +kernel
theorem dX11_allSoWith_75 : decode cX11_allSoWith 75 = .ok (.invokevirtual 134, 3) := by decide +kernel
theorem dX11_allSoWith_78 : decode cX11_allSoWith 78 = .ok (.istore 8, 2) := by decide +kernel
theorem dX11_allSoWith_80 : decode cX11_allSoWith 80 = .ok (.aload_n 0, 1) := by decide +kernel
theorem dX11_allSoWith_81 : decode cX11_allSoWith 81 = .ok (.getfield 27, 3) := by decide +kernel
theorem dX11_allSoWith_84 : decode cX11_allSoWith 84 = .ok (.iload 5, 2) := by decide +kernel
theorem dX11_allSoWith_86 : decode cX11_allSoWith 86 = .ok (.invokevirtual 334, 3) := by decide +kernel
theorem dX11_allSoWith_89 : decode cX11_allSoWith 89 = .ok (.iload_n 3, 1) := by decide +kernel
theorem dX11_allSoWith_90 : decode cX11_allSoWith 90 = .ok (.if_icmp .ne 8, 3) := by decide +kernel
theorem dX11_allSoWith_93 : decode cX11_allSoWith 93 = .ok (.iload 4, 2) := by decide +kernel
theorem dX11_allSoWith_95 : decode cX11_allSoWith 95 = .ok (.goto 8, 3) := by decide +kernel
theorem dX11_allSoWith_98 : decode cX11_allSoWith 98 = .ok (.aload 7, 2) := by decide +kernel
theorem dX11_allSoWith_100 : decode cX11_allSoWith 100 = .ok (.getfield 108, 3) := by decide +kernel
theorem dX11_allSoWith_103 : decode cX11_allSoWith 103 = .ok (.istore 9, 2) := by decide +kernel
theorem dX11_allSoWith_105 : decode cX11_allSoWith 105 = .ok (.iload 8, 2) := by decide +kernel
theorem dX11_allSoWith_107 : decode cX11_allSoWith 107 = .ok (.aload 7, 2) := by decide +kernel
theorem dX11_allSoWith_109 : decode cX11_allSoWith 109 = .ok (.getfield 103, 3) := by decide +kernel
theorem dX11_allSoWith_112 : decode cX11_allSoWith 112 = .ok (.iload 9, 2) := by decide +kernel
theorem dX11_allSoWith_114 : decode cX11_allSoWith 114 = .ok (.aload_n 0, 1) := by decide +kernel
theorem dX11_allSoWith_115 : decode cX11_allSoWith 115 = .ok (.getfield 12, 3) := by decide +kernel
theorem dX11_allSoWith_118 : decode cX11_allSoWith 118 = .ok (.getfield 147, 3) := by decide +kernel
theorem dX11_allSoWith_121 : decode cX11_allSoWith 121 = .ok (.invokestatic 200, 3) := by decide +kernel
theorem dX11_allSoWith_124 : decode cX11_allSoWith 124 = .ok (.aload_n 0, 1) := by decide +kernel
theorem dX11_allSoWith_125 : decode cX11_allSoWith 125 = .ok (.getfield 27, 3) := by decide +kernel
theorem dX11_allSoWith_128 : decode cX11_allSoWith 128 = .ok (.iload 5, 2) := by decide +kernel
theorem dX11_allSoWith_130 : decode cX11_allSoWith 130 = .ok (.invokevirtual 336, 3) := by decide +kernel
theorem dX11_allSoWith_133 : decode cX11_allSoWith 133 = .ok (.if_icmp .eq 5, 3) := by decide +kernel
theorem dX11_allSoWith_136 : decode cX11_allSoWith 136 = .ok (.iconst 0, 1) := by decide +kernel
theorem dX11_allSoWith_137 : decode cX11_allSoWith 137 = .ok (.ireturn, 1) := by decide +kernel
theorem dX11_allSoWith_138 : decode cX11_allSoWith 138 = .ok (.iinc 5 1, 3) := by decide +kernel
theorem dX11_allSoWith_141 : decode cX11_allSoWith 141 = .ok (.goto (-138), 3) := by decide +kernel
theorem dX11_allSoWith_144 : decode cX11_allSoWith 144 = .ok (.iconst 1, 1) := by decide +kernel
theorem dX11_allSoWith_145 : decode cX11_allSoWith 145 = .ok (.ireturn, 1) := by decide +kernel
theorem dX11_apart_0 : decode cX11_apart 0 = .ok (.iload_n 0, 1) := by decide +kernel
theorem dX11_apart_1 : decode cX11_apart 1 = .ok (.iload_n 1, 1) := by decide +kernel
theorem dX11_apart_2 : decode cX11_apart 2 = .ok (.if_icmp .ge 9, 3) := by decide +kernel
theorem dX11_apart_5 : decode cX11_apart 5 = .ok (.iload_n 1, 1) := by decide +kernel
theorem dX11_apart_6 : decode cX11_apart 6 = .ok (.iload_n 0, 1) := by decide +kernel
theorem dX11_apart_7 : decode cX11_apart 7 = .ok (.isub, 1) := by decide +kernel
theorem dX11_apart_8 : decode cX11_apart 8 = .ok (.goto 6, 3) := by decide +kernel
theorem dX11_apart_11 : decode cX11_apart 11 = .ok (.iload_n 0, 1) := by decide +kernel
theorem dX11_apart_12 : decode cX11_apart 12 = .ok (.iload_n 1, 1) := by decide +kernel
theorem dX11_apart_13 : decode cX11_apart 13 = .ok (.isub, 1) := by decide +kernel
theorem dX11_apart_14 : decode cX11_apart 14 = .ok (.ireturn, 1) := by decide +kernel
theorem dX11_nearnessBy_0 : decode cX11_nearnessBy 0 = .ok (.iload_n 0, 1) := by decide +kernel
theorem dX11_nearnessBy_1 : decode cX11_nearnessBy 1 = .ok (.iload_n 1, 1) := by decide +kernel
theorem dX11_nearnessBy_2 : decode cX11_nearnessBy 2 = .ok (.invokestatic 204, 3) := by decide +kernel
theorem dX11_nearnessBy_5 : decode cX11_nearnessBy 5 = .ok (.istore 4, 2) := by decide +kernel
theorem dX11_nearnessBy_7 : decode cX11_nearnessBy 7 = .ok (.iload 4, 2) := by decide +kernel
theorem dX11_nearnessBy_9 : decode cX11_nearnessBy 9 = .ok (.iload_n 2, 1) := by decide +kernel
theorem dX11_nearnessBy_10 : decode cX11_nearnessBy 10 = .ok (.if_icmp .gt 7, 3) := by decide +kernel
theorem dX11_nearnessBy_13 : decode cX11_nearnessBy 13 = .ok (.iconst 0, 1) := by decide +kernel
theorem dX11_nearnessBy_14 : decode cX11_nearnessBy 14 = .ok (.goto 7, 3) := by decide +kernel
theorem dX11_nearnessBy_17 : decode cX11_nearnessBy 17 = .ok (.iload 4, 2) := by decide +kernel
theorem dX11_nearnessBy_19 : decode cX11_nearnessBy 19 = .ok (.iload_n 3, 1) := by decide +kernel
theorem dX11_nearnessBy_20 : decode cX11_nearnessBy 20 = .ok (.iadd, 1) := by decide +kernel
theorem dX11_nearnessBy_21 : decode cX11_nearnessBy 21 = .ok (.ireturn, 1) := by decide +kernel
theorem dX11_reachOf_0 : decode cX11_reachOf 0 = .ok (.iload_n 0, 1) := by decide +kernel
theorem dX11_reachOf_1 : decode cX11_reachOf 1 = .ok (.lookupswitch 35 #[(1, 27), (2, 31)], 27) := by decide +kernel
theorem dX11_reachOf_28 : decode cX11_reachOf 28 = .ok (.iload_n 1, 1) := by decide +kernel
theorem dX11_reachOf_29 : decode cX11_reachOf 29 = .ok (.iconst 1, 1) := by decide +kernel
theorem dX11_reachOf_30 : decode cX11_reachOf 30 = .ok (.iadd, 1) := by decide +kernel
theorem dX11_reachOf_31 : decode cX11_reachOf 31 = .ok (.ireturn, 1) := by decide +kernel
theorem dX11_reachOf_32 : decode cX11_reachOf 32 = .ok (.iconst 2, 1) := by decide +kernel
theorem dX11_reachOf_33 : decode cX11_reachOf 33 = .ok (.iload_n 1, 1) := by decide +kernel
theorem dX11_reachOf_34 : decode cX11_reachOf 34 = .ok (.imul, 1) := by decide +kernel
theorem dX11_reachOf_35 : decode cX11_reachOf 35 = .ok (.ireturn, 1) := by decide +kernel
theorem dX11_reachOf_36 : decode cX11_reachOf 36 = .ok (.iload_n 1, 1) := by decide +kernel
theorem dX11_reachOf_37 : decode cX11_reachOf 37 = .ok (.ireturn, 1) := by decide +kernel
end
section
theorem dX12_init_0 : decode cX12_init 0 = .ok (.aload_n 0, 1) := by decide +kernel
theorem dX12_init_1 : decode cX12_init 1 = .ok (.invokespecial 1, 3) := by decide +kernel
theorem dX12_init_4 : decode cX12_init 4 = .ok (.aload_n 0, 1) := by decide +kernel
theorem dX12_init_5 : decode cX12_init 5 = .ok (.iconst 4, 1) := by decide +kernel
theorem dX12_init_6 : decode cX12_init 6 = .ok (.newarray .int, 2) := by decide +kernel
theorem dX12_init_8 : decode cX12_init 8 = .ok (.dup, 1) := by decide +kernel
theorem dX12_init_9 : decode cX12_init 9 = .ok (.iconst 0, 1) := by decide +kernel
theorem dX12_init_10 : decode cX12_init 10 = .ok (.bipush (-9), 2) := by decide +kernel
theorem dX12_init_12 : decode cX12_init 12 = .ok (.iastore, 1) := by decide +kernel
theorem dX12_init_13 : decode cX12_init 13 = .ok (.dup, 1) := by decide +kernel
theorem dX12_init_14 : decode cX12_init 14 = .ok (.iconst 1, 1) := by decide +kernel
theorem dX12_init_15 : decode cX12_init 15 = .ok (.bipush (-9), 2) := by decide +kernel
theorem dX12_init_17 : decode cX12_init 17 = .ok (.iastore, 1) := by decide +kernel
theorem dX12_init_18 : decode cX12_init 18 = .ok (.dup, 1) := by decide +kernel
theorem dX12_init_19 : decode cX12_init 19 = .ok (.iconst 2, 1) := by decide +kernel
theorem dX12_init_20 : decode cX12_init 20 = .ok (.bipush (-9), 2) := by decide +kernel
theorem dX12_init_22 : decode cX12_init 22 = .ok (.iastore, 1) := by decide +kernel
theorem dX12_init_23 : decode cX12_init 23 = .ok (.dup, 1) := by decide +kernel
theorem dX12_init_24 : decode cX12_init 24 = .ok (.iconst 3, 1) := by decide +kernel
theorem dX12_init_25 : decode cX12_init 25 = .ok (.bipush (-9), 2) := by decide +kernel
theorem dX12_init_27 : decode cX12_init 27 = .ok (.iastore, 1) := by decide +kernel
theorem dX12_init_28 : decode cX12_init 28 = .ok (.putfield 9, 3) := by decide +kernel
theorem dX12_init_31 : decode cX12_init 31 = .ok (.aload_n 0, 1) := by decide +kernel
theorem dX12_init_32 : decode cX12_init 32 = .ok (.iconst 4, 1) := by decide +kernel
theorem dX12_init_33 : decode cX12_init 33 = .ok (.newarray .int, 2) := by decide +kernel
theorem dX12_init_35 : decode cX12_init 35 = .ok (.putfield 13, 3) := by decide +kernel
theorem dX12_init_38 : decode cX12_init 38 = .ok (.aload_n 0, 1) := by decide +kernel
theorem dX12_init_39 : decode cX12_init 39 = .ok (.sipush 240, 3) := by decide +kernel
theorem dX12_init_42 : decode cX12_init 42 = .ok (.newarray .int, 2) := by decide +kernel
theorem dX12_init_44 : decode cX12_init 44 = .ok (.putfield 16, 3) := by decide +kernel
theorem dX12_init_47 : decode cX12_init 47 = .ok (.aload_n 0, 1) := by decide +kernel
theorem dX12_init_48 : decode cX12_init 48 = .ok (.iconst 4, 1) := by decide +kernel
theorem dX12_init_49 : decode cX12_init 49 = .ok (.newarray .int, 2) := by decide +kernel
theorem dX12_init_51 : decode cX12_init 51 = .ok (.putfield 19, 3) := by decide +kernel
theorem dX12_init_54 : decode cX12_init 54 = .ok (.aload_n 0, 1) := by decide +kernel
theorem dX12_init_55 : decode cX12_init 55 = .ok (.iconst 4, 1) := by decide +kernel
theorem dX12_init_56 : decode cX12_init 56 = .ok (.newarray .int, 2) := by decide +kernel
theorem dX12_init_58 : decode cX12_init 58 = .ok (.putfield 22, 3) := by decide +kernel
theorem dX12_init_61 : decode cX12_init 61 = .ok (.aload_n 0, 1) := by decide +kernel
theorem dX12_init_62 : decode cX12_init 62 = .ok (.iconst 5, 1) := by decide +kernel
theorem dX12_init_63 : decode cX12_init 63 = .ok (.newarray .int, 2) := by decide +kernel
theorem dX12_init_65 : decode cX12_init 65 = .ok (.putfield 25, 3) := by decide +kernel
theorem dX12_init_68 : decode cX12_init 68 = .ok (.aload_n 0, 1) := by decide +kernel
theorem dX12_init_69 : decode cX12_init 69 = .ok (.iconst 5, 1) := by decide +kernel
theorem dX12_init_70 : decode cX12_init 70 = .ok (.newarray .int, 2) := by decide +kernel
theorem dX12_init_72 : decode cX12_init 72 = .ok (.putfield 28, 3) := by decide +kernel
theorem dX12_init_75 : decode cX12_init 75 = .ok (.aload_n 0, 1) := by decide +kernel
theorem dX12_init_76 : decode cX12_init 76 = .ok (.iconst 4, 1) := by decide +kernel
theorem dX12_init_77 : decode cX12_init 77 = .ok (.newarray .int, 2) := by decide +kernel
theorem dX12_init_79 : decode cX12_init 79 = .ok (.putfield 31, 3) := by decide +kernel
theorem dX12_init_82 : decode cX12_init 82 = .ok (.aload_n 0, 1) := by decide +kernel
theorem dX12_init_83 : decode cX12_init 83 = .ok (.bipush 32, 2) := by decide +kernel
theorem dX12_init_85 : decode cX12_init 85 = .ok (.newarray .int, 2) := by decide +kernel
theorem dX12_init_87 : decode cX12_init 87 = .ok (.putfield 34, 3) := by decide +kernel
theorem dX12_init_90 : decode cX12_init 90 = .ok (.aload_n 0, 1) := by decide +kernel
theorem dX12_init_91 : decode cX12_init 91 = .ok (.bipush 32, 2) := by decide +kernel
theorem dX12_init_93 : decode cX12_init 93 = .ok (.newarray .int, 2) := by decide +kernel
theorem dX12_init_95 : decode cX12_init 95 = .ok (.putfield 37, 3) := by decide +kernel
theorem dX12_init_98 : decode cX12_init 98 = .ok (.aload_n 0, 1) := by decide +kernel
theorem dX12_init_99 : decode cX12_init 99 = .ok (.bipush 8, 2) := by decide +kernel
theorem dX12_init_101 : decode cX12_init 101 = .ok (.newarray .int, 2) := by decide +kernel
theorem dX12_init_103 : decode cX12_init 103 = .ok (.putfield 40, 3) := by decide +kernel
theorem dX12_init_106 : decode cX12_init 106 = .ok (.aload_n 0, 1) := by decide +kernel
theorem dX12_init_107 : decode cX12_init 107 = .ok (.bipush 10, 2) := by decide +kernel
theorem dX12_init_109 : decode cX12_init 109 = .ok (.newarray .int, 2) := by decide +kernel
theorem dX12_init_111 : decode cX12_init 111 = .ok (.putfield 43, 3) := by decide +kernel
theorem dX12_init_114 : decode cX12_init 114 = .ok (.aload_n 0, 1) := by decide +kernel
theorem dX12_init_115 : decode cX12_init 115 = .ok (.iconst 4, 1) := by decide +kernel
theorem dX12_init_116 : decode cX12_init 116 = .ok (.newarray .int, 2) := by decide +kernel
theorem dX12_init_118 : decode cX12_init 118 = .ok (.putfield 46, 3) := by decide +kernel
theorem dX12_init_121 : decode cX12_init 121 = .ok (.aload_n 0, 1) := by decide +kernel
theorem dX12_init_122 : decode cX12_init 122 = .ok (.bipush 32, 2) := by decide +kernel
theorem dX12_init_124 : decode cX12_init 124 = .ok (.newarray .int, 2) := by decide +kernel
theorem dX12_init_126 : decode cX12_init 126 = .ok (.putfield 49, 3) := by decide +kernel
theorem dX12_init_129 : decode cX12_init 129 = .ok (.aload_n 0, 1) := by decide +kernel
theorem dX12_init_130 : decode cX12_init 130 = .ok (.bipush 32, 2) := by decide +kernel
theorem dX12_init_132 : decode cX12_init 132 = .ok (.newarray .int, 2) := by decide +kernel
theorem dX12_init_134 : decode cX12_init 134 = .ok (.putfield 52, 3) := by decide +kernel
theorem dX12_init_137 : decode cX12_init 137 = .ok (.aload_n 0, 1) := by decide +kernel
theorem dX12_init_138 : decode cX12_init 138 = .ok (.iconst 5, 1) := by decide +kernel
theorem dX12_init_139 : decode cX12_init 139 = .ok (.newarray .int, 2) := by decide +kernel
theorem dX12_init_141 : decode cX12_init 141 = .ok (.putfield 55, 3) := by decide +kernel
theorem dX12_init_144 : decode cX12_init 144 = .ok (.aload_n 0, 1) := by decide +kernel
theorem dX12_init_145 : decode cX12_init 145 = .ok (.iconst 5, 1) := by decide +kernel
theorem dX12_init_146 : decode cX12_init 146 = .ok (.newarray .int, 2) := by decide +kernel
theorem dX12_init_148 : decode cX12_init 148 = .ok (.putfield 58, 3) := by decide +kernel
theorem dX12_init_151 : decode cX12_init 151 = .ok (.aload_n 0, 1) := by decide +kernel
theorem dX12_init_152 : decode cX12_init 152 = .ok (.iconst 5, 1) := by decide +kernel
theorem dX12_init_153 : decode cX12_init 153 = .ok (.newarray .int, 2) := by decide +kernel
theorem dX12_init_155 : decode cX12_init 155 = .ok (.putfield 61, 3) := by decide +kernel
theorem dX12_init_158 : decode cX12_init 158 = .ok (.aload_n 0, 1) := by decide +kernel
theorem dX12_init_159 : decode cX12_init 159 = .ok (.iconst 4, 1) := by decide +kernel
theorem dX12_init_160 : decode cX12_init 160 = .ok (.newarray .int, 2) := by decide +kernel
theorem dX12_init_162 : decode cX12_init 162 = .ok (.putfield 64, 3) := by decide +kernel
theorem dX12_init_165 : decode cX12_init 165 = .ok (.aload_n 0, 1) := by decide +kernel
theorem dX12_init_166 : decode cX12_init 166 = .ok (.iconst 5, 1) := by decide +kernel
theorem dX12_init_167 : decode cX12_init 167 = .ok (.newarray .int, 2) := by decide +kernel
theorem dX12_init_169 : decode cX12_init 169 = .ok (.putfield 67, 3) := by decide +kernel
theorem dX12_init_172 : decode cX12_init 172 = .ok (.aload_n 0, 1) := by decide +kernel
theorem dX12_init_173 : decode cX12_init 173 = .ok (.bipush 8, 2) := by decide +kernel
theorem dX12_init_175 : decode cX12_init 175 = .ok (.newarray .int, 2) := by decide +kernel
theorem dX12_init_177 : decode cX12_init 177 = .ok (.putfield 70, 3) := by decide +kernel
theorem dX12_init_180 : decode cX12_init 180 = .ok (.aload_n 0, 1) := by decide +kernel
theorem dX12_init_181 : decode cX12_init 181 = .ok (.bipush 8, 2) := by decide +kernel
theorem dX12_init_183 : decode cX12_init 183 = .ok (.newarray .int, 2) := by decide +kernel
theorem dX12_init_185 : decode cX12_init 185 = .ok (.putfield 73, 3) := by decide +kernel
theorem dX12_init_188 : decode cX12_init 188 = .ok (.aload_n 0, 1) := by decide +kernel
theorem dX12_init_189 : decode cX12_init 189 = .ok (.bipush 8, 2) := by decide +kernel
theorem dX12_init_191 : decode cX12_init 191 = .ok (.newarray .int, 2) := by decide +kernel
theorem dX12_init_193 : decode cX12_init 193 = .ok (.putfield 76, 3) := by decide +kernel
theorem dX12_init_196 : decode cX12_init 196 = .ok (.return_, 1) := by decide +kernel
theorem dX12_fails_0 : decode cX12_fails 0 = .ok (.aload_n 0, 1) := by decide +kernel
theorem dX12_fails_1 : decode cX12_fails 1 = .ok (.iload_n 1, 1) := by decide +kernel
theorem dX12_fails_2 : decode cX12_fails 2 = .ok (.putfield 79, 3) := by decide +kernel
theorem dX12_fails_5 : decode cX12_fails 5 = .ok (.bipush (-10), 2) := by decide +kernel
theorem dX12_fails_7 : decode cX12_fails 7 = .ok (.iload_n 1, 1) := by decide +kernel
theorem dX12_fails_8 : decode cX12_fails 8 = .ok (.isub, 1) := by decide +kernel
theorem dX12_fails_9 : decode cX12_fails 9 = .ok (.ireturn, 1) := by decide +kernel
theorem dX12_lost_0 : decode cX12_lost 0 = .ok (.aload_n 0, 1) := by decide +kernel
theorem dX12_lost_1 : decode cX12_lost 1 = .ok (.iload_n 1, 1) := by decide +kernel
theorem dX12_lost_2 : decode cX12_lost 2 = .ok (.putfield 79, 3) := by decide +kernel
theorem dX12_lost_5 : decode cX12_lost 5 = .ok (.ldc2_w 83, 3) := by decide +kernel
theorem dX12_lost_8 : decode cX12_lost 8 = .ok (.lreturn, 1) := by decide +kernel
theorem dX12_within_0 : decode cX12_within 0 = .ok (.iload_n 0, 1) := by decide +kernel
theorem dX12_within_1 : decode cX12_within 1 = .ok (.iload_n 1, 1) := by decide +kernel
theorem dX12_within_2 : decode cX12_within 2 = .ok (.if_icmp .lt 12, 3) := by decide +kernel
theorem dX12_within_5 : decode cX12_within 5 = .ok (.iload_n 0, 1) := by decide +kernel
theorem dX12_within_6 : decode cX12_within 6 = .ok (.iload_n 2, 1) := by decide +kernel
theorem dX12_within_7 : decode cX12_within 7 = .ok (.if_icmp .gt 7, 3) := by decide +kernel
theorem dX12_within_10 : decode cX12_within 10 = .ok (.iconst 1, 1) := by decide +kernel
theorem dX12_within_11 : decode cX12_within 11 = .ok (.goto 4, 3) := by decide +kernel
theorem dX12_within_14 : decode cX12_within 14 = .ok (.iconst 0, 1) := by decide +kernel
theorem dX12_within_15 : decode cX12_within 15 = .ok (.ireturn, 1) := by decide +kernel
theorem dX12_isSheet_0 : decode cX12_isSheet 0 = .ok (.iload_n 0, 1) := by decide +kernel
theorem dX12_isSheet_1 : decode cX12_isSheet 1 = .ok (.iconst 0, 1) := by decide +kernel
theorem dX12_isSheet_2 : decode cX12_isSheet 2 = .ok (.iconst 3, 1) := by decide +kernel
theorem dX12_isSheet_3 : decode cX12_isSheet 3 = .ok (.invokestatic 85, 3) := by decide +kernel
theorem dX12_isSheet_6 : decode cX12_isSheet 6 = .ok (.ireturn, 1) := by decide +kernel
theorem dX12_isSort_0 : decode cX12_isSort 0 = .ok (.iload_n 0, 1) := by decide +kernel
theorem dX12_isSort_1 : decode cX12_isSort 1 = .ok (.iconst 0, 1) := by decide +kernel
theorem dX12_isSort_2 : decode cX12_isSort 2 = .ok (.iconst 2, 1) := by decide +kernel
theorem dX12_isSort_3 : decode cX12_isSort 3 = .ok (.invokestatic 85, 3) := by decide +kernel
theorem dX12_isSort_6 : decode cX12_isSort 6 = .ok (.ireturn, 1) := by decide +kernel
theorem dX12_against_0 : decode cX12_against 0 = .ok (.aload_n 0, 1) := by decide +kernel
theorem dX12_against_1 : decode cX12_against 1 = .ok (.getfield 9, 3) := by decide +kernel
theorem dX12_against_4 : decode cX12_against 4 = .ok (.iload_n 1, 1) := by decide +kernel
theorem dX12_against_5 : decode cX12_against 5 = .ok (.iaload, 1) := by decide +kernel
theorem dX12_against_6 : decode cX12_against 6 = .ok (.bipush (-9), 2) := by decide +kernel
theorem dX12_against_8 : decode cX12_against 8 = .ok (.if_icmp .eq 15, 3) := by decide +kernel
theorem dX12_against_11 : decode cX12_against 11 = .ok (.aload_n 0, 1) := by decide +kernel
theorem dX12_against_12 : decode cX12_against 12 = .ok (.getfield 9, 3) := by decide +kernel
theorem dX12_against_15 : decode cX12_against 15 = .ok (.iload_n 1, 1) := by decide +kernel
theorem dX12_against_16 : decode cX12_against 16 = .ok (.iaload, 1) := by decide +kernel
theorem dX12_against_17 : decode cX12_against 17 = .ok (.iload_n 2, 1) := by decide +kernel
theorem dX12_against_18 : decode cX12_against 18 = .ok (.if_icmp .eq 5, 3) := by decide +kernel
theorem dX12_against_21 : decode cX12_against 21 = .ok (.iconst 2, 1) := by decide +kernel
theorem dX12_against_22 : decode cX12_against 22 = .ok (.ireturn, 1) := by decide +kernel
theorem dX12_against_23 : decode cX12_against 23 = .ok (.aload_n 0, 1) := by decide +kernel
theorem dX12_against_24 : decode cX12_against 24 = .ok (.getfield 9, 3) := by decide +kernel
theorem dX12_against_27 : decode cX12_against 27 = .ok (.iload_n 1, 1) := by decide +kernel
theorem dX12_against_28 : decode cX12_against 28 = .ok (.iaload, 1) := by decide +kernel
theorem dX12_against_29 : decode cX12_against 29 = .ok (.bipush (-9), 2) := by decide +kernel
theorem dX12_against_31 : decode cX12_against 31 = .ok (.if_icmp .ne 5, 3) := by decide +kernel
theorem dX12_against_34 : decode cX12_against 34 = .ok (.iconst 1, 1) := by decide +kernel
theorem dX12_against_35 : decode cX12_against 35 = .ok (.ireturn, 1) := by decide +kernel
theorem dX12_against_36 : decode cX12_against 36 = .ok (.iload 4, 2) := by decide +kernel
theorem dX12_against_38 : decode cX12_against 38 = .ok (.ifCond .ge 5, 3) := by decide +kernel
theorem dX12_against_41 : decode cX12_against 41 = .ok (.iconst 4, 1) := by decide +kernel
theorem dX12_against_42 : decode cX12_against 42 = .ok (.ireturn, 1) := by decide +kernel
theorem dX12_against_43 : decode cX12_against 43 = .ok (.iload_n 3, 1) := by decide +kernel
theorem dX12_against_44 : decode cX12_against 44 = .ok (.ifCond .lt 26, 3) := by decide +kernel
theorem dX12_against_47 : decode cX12_against 47 = .ok (.iload_n 3, 1) := by decide +kernel
theorem dX12_against_48 : decode cX12_against 48 = .ok (.aload_n 0, 1) := by decide +kernel
theorem dX12_against_49 : decode cX12_against 49 = .ok (.getfield 13, 3) := by decide +kernel
theorem dX12_against_52 : decode cX12_against 52 = .ok (.iload_n 1, 1) := by decide +kernel
theorem dX12_against_53 : decode cX12_against 53 = .ok (.iaload, 1) := by decide +kernel
theorem dX12_against_54 : decode cX12_against 54 = .ok (.if_icmp .gt 16, 3) := by decide +kernel
theorem dX12_against_57 : decode cX12_against 57 = .ok (.iload 4, 2) := by decide +kernel
theorem dX12_against_59 : decode cX12_against 59 = .ok (.aload_n 0, 1) := by decide +kernel
theorem dX12_against_60 : decode cX12_against 60 = .ok (.getfield 13, 3) := by decide +kernel
theorem dX12_against_63 : decode cX12_against 63 = .ok (.iload_n 1, 1) := by decide +kernel
theorem dX12_against_64 : decode cX12_against 64 = .ok (.iaload, 1) := by decide +kernel
theorem dX12_against_65 : decode cX12_against 65 = .ok (.iload_n 3, 1) := by decide +kernel
theorem dX12_against_66 : decode cX12_against 66 = .ok (.isub, 1) := by decide +kernel
theorem dX12_against_67 : decode cX12_against 67 = .ok (.if_icmp .le 7, 3) := by decide +kernel
theorem dX12_against_70 : decode cX12_against 70 = .ok (.iconst 3, 1) := by decide +kernel
theorem dX12_against_71 : decode cX12_against 71 = .ok (.goto 4, 3) := by decide +kernel
theorem dX12_against_74 : decode cX12_against 74 = .ok (.iconst 0, 1) := by decide +kernel
theorem dX12_against_75 : decode cX12_against 75 = .ok (.ireturn, 1) := by decide +kernel
theorem dX12_isGirl_0 : decode cX12_isGirl 0 = .ok (.iload_n 1, 1) := by decide +kernel
theorem dX12_isGirl_1 : decode cX12_isGirl 1 = .ok (.ifCond .lt 15, 3) := by decide +kernel
theorem dX12_isGirl_4 : decode cX12_isGirl 4 = .ok (.iload_n 1, 1) := by decide +kernel
theorem dX12_isGirl_5 : decode cX12_isGirl 5 = .ok (.aload_n 0, 1) := by decide +kernel
theorem dX12_isGirl_6 : decode cX12_isGirl 6 = .ok (.getfield 89, 3) := by decide +kernel
theorem dX12_isGirl_9 : decode cX12_isGirl 9 = .ok (.if_icmp .ge 7, 3) := by decide +kernel
theorem dX12_isGirl_12 : decode cX12_isGirl 12 = .ok (.iconst 1, 1) := by decide +kernel
theorem dX12_isGirl_13 : decode cX12_isGirl 13 = .ok (.goto 4, 3) := by decide +kernel
theorem dX12_isGirl_16 : decode cX12_isGirl 16 = .ok (.iconst 0, 1) := by decide +kernel
theorem dX12_isGirl_17 : decode cX12_isGirl 17 = .ok (.ireturn, 1) := by decide +kernel
theorem dX12_isThrower_0 : decode cX12_isThrower 0 = .ok (.iload_n 1, 1) := by decide +kernel
theorem dX12_isThrower_1 : decode cX12_isThrower 1 = .ok (.ifCond .lt 15, 3) := by decide +kernel
theorem dX12_isThrower_4 : decode cX12_isThrower 4 = .ok (.iload_n 1, 1) := by decide +kernel
theorem dX12_isThrower_5 : decode cX12_isThrower 5 = .ok (.aload_n 0, 1) := by decide +kernel
theorem dX12_isThrower_6 : decode cX12_isThrower 6 = .ok (.getfield 92, 3) := by decide +kernel
theorem dX12_isThrower_9 : decode cX12_isThrower 9 = .ok (.if_icmp .ge 7, 3) := by decide +kernel
theorem dX12_isThrower_12 : decode cX12_isThrower 12 = .ok (.iconst 1, 1) := by decide +kernel
theorem dX12_isThrower_13 : decode cX12_isThrower 13 = .ok (.goto 4, 3) := by decide +kernel
theorem dX12_isThrower_16 : decode cX12_isThrower 16 = .ok (.iconst 0, 1) := by decide +kernel
theorem dX12_isThrower_17 : decode cX12_isThrower 17 = .ok (.ireturn, 1) := by decide +kernel
theorem dX12_digit_0 : decode cX12_digit 0 = .ok (.aload_n 0, 1) := by decide +kernel
theorem dX12_digit_1 : decode cX12_digit 1 = .ok (.getfield 95, 3) := by decide +kernel
theorem dX12_digit_4 : decode cX12_digit 4 = .ok (.iload_n 1, 1) := by decide +kernel
theorem dX12_digit_5 : decode cX12_digit 5 = .ok (.if_icmp .ge 26, 3) := by decide +kernel
theorem dX12_digit_8 : decode cX12_digit 8 = .ok (.aload_n 0, 1) := by decide +kernel
theorem dX12_digit_9 : decode cX12_digit 9 = .ok (.getfield 16, 3) := by decide +kernel
theorem dX12_digit_12 : decode cX12_digit 12 = .ok (.aload_n 0, 1) := by decide +kernel
theorem dX12_digit_13 : decode cX12_digit 13 = .ok (.getfield 95, 3) := by decide +kernel
theorem dX12_digit_16 : decode cX12_digit 16 = .ok (.iaload, 1) := by decide +kernel
theorem dX12_digit_17 : decode cX12_digit 17 = .ok (.bipush 48, 2) := by decide +kernel
theorem dX12_digit_19 : decode cX12_digit 19 = .ok (.iload_n 2, 1) := by decide +kernel
theorem dX12_digit_20 : decode cX12_digit 20 = .ok (.iadd, 1) := by decide +kernel
theorem dX12_digit_21 : decode cX12_digit 21 = .ok (.bipush 48, 2) := by decide +kernel
theorem dX12_digit_23 : decode cX12_digit 23 = .ok (.iload_n 3, 1) := by decide +kernel
theorem dX12_digit_24 : decode cX12_digit 24 = .ok (.iadd, 1) := by decide +kernel
theorem dX12_digit_25 : decode cX12_digit 25 = .ok (.invokestatic 85, 3) := by decide +kernel
theorem dX12_digit_28 : decode cX12_digit 28 = .ok (.ifCond .ne 6, 3) := by decide +kernel
theorem dX12_digit_31 : decode cX12_digit 31 = .ok (.bipush (-9), 2) := by decide +kernel
theorem dX12_digit_33 : decode cX12_digit 33 = .ok (.ireturn, 1) := by decide +kernel
theorem dX12_digit_34 : decode cX12_digit 34 = .ok (.aload_n 0, 1) := by decide +kernel
theorem dX12_digit_35 : decode cX12_digit 35 = .ok (.dup, 1) := by decide +kernel
theorem dX12_digit_36 : decode cX12_digit 36 = .ok (.getfield 95, 3) := by decide +kernel
theorem dX12_digit_39 : decode cX12_digit 39 = .ok (.iconst 1, 1) := by decide +kernel
theorem dX12_digit_40 : decode cX12_digit 40 = .ok (.iadd, 1) := by decide +kernel
theorem dX12_digit_41 : decode cX12_digit 41 = .ok (.putfield 95, 3) := by decide +kernel
theorem dX12_digit_44 : decode cX12_digit 44 = .ok (.aload_n 0, 1) := by decide +kernel
theorem dX12_digit_45 : decode cX12_digit 45 = .ok (.getfield 16, 3) := by decide +kernel
theorem dX12_digit_48 : decode cX12_digit 48 = .ok (.aload_n 0, 1) := by decide +kernel
theorem dX12_digit_49 : decode cX12_digit 49 = .ok (.getfield 95, 3) := by decide +kernel
theorem dX12_digit_52 : decode cX12_digit 52 = .ok (.iconst 1, 1) := by decide +kernel
theorem dX12_digit_53 : decode cX12_digit 53 = .ok (.isub, 1) := by decide +kernel
theorem dX12_digit_54 : decode cX12_digit 54 = .ok (.iaload, 1) := by decide +kernel
theorem dX12_digit_55 : decode cX12_digit 55 = .ok (.bipush 48, 2) := by decide +kernel
theorem dX12_digit_57 : decode cX12_digit 57 = .ok (.isub, 1) := by decide +kernel
theorem dX12_digit_58 : decode cX12_digit 58 = .ok (.ireturn, 1) := by decide +kernel
theorem dX12_isNext_0 : decode cX12_isNext 0 = .ok (.aload_n 0, 1) := by decide +kernel
theorem dX12_isNext_1 : decode cX12_isNext 1 = .ok (.getfield 95, 3) := by decide +kernel
theorem dX12_isNext_4 : decode cX12_isNext 4 = .ok (.iload_n 1, 1) := by decide +kernel
theorem dX12_isNext_5 : decode cX12_isNext 5 = .ok (.if_icmp .ge 20, 3) := by decide +kernel
theorem dX12_isNext_8 : decode cX12_isNext 8 = .ok (.aload_n 0, 1) := by decide +kernel
theorem dX12_isNext_9 : decode cX12_isNext 9 = .ok (.getfield 16, 3) := by decide +kernel
theorem dX12_isNext_12 : decode cX12_isNext 12 = .ok (.aload_n 0, 1) := by decide +kernel
theorem dX12_isNext_13 : decode cX12_isNext 13 = .ok (.getfield 95, 3) := by decide +kernel
theorem dX12_isNext_16 : decode cX12_isNext 16 = .ok (.iaload, 1) := by decide +kernel
theorem dX12_isNext_17 : decode cX12_isNext 17 = .ok (.iload_n 2, 1) := by decide +kernel
theorem dX12_isNext_18 : decode cX12_isNext 18 = .ok (.if_icmp .ne 7, 3) := by decide +kernel
theorem dX12_isNext_21 : decode cX12_isNext 21 = .ok (.iconst 1, 1) := by decide +kernel
theorem dX12_isNext_22 : decode cX12_isNext 22 = .ok (.goto 4, 3) := by decide +kernel
theorem dX12_isNext_25 : decode cX12_isNext 25 = .ok (.iconst 0, 1) := by decide +kernel
theorem dX12_isNext_26 : decode cX12_isNext 26 = .ok (.ireturn, 1) := by decide +kernel
theorem dX12_isSign_0 : decode cX12_isSign 0 = .ok (.aload_n 0, 1) := by decide +kernel
theorem dX12_isSign_1 : decode cX12_isSign 1 = .ok (.iload_n 1, 1) := by decide +kernel
theorem dX12_isSign_2 : decode cX12_isSign 2 = .ok (.iload_n 2, 1) := by decide +kernel
theorem dX12_isSign_3 : decode cX12_isSign 3 = .ok (.invokevirtual 98, 3) := by decide +kernel
theorem dX12_isSign_6 : decode cX12_isSign 6 = .ok (.ifCond .ne 5, 3) := by decide +kernel
theorem dX12_isSign_9 : decode cX12_isSign 9 = .ok (.iconst 0, 1) := by decide +kernel
theorem dX12_isSign_10 : decode cX12_isSign 10 = .ok (.ireturn, 1) := by decide +kernel
theorem dX12_isSign_11 : decode cX12_isSign 11 = .ok (.aload_n 0, 1) := by decide +kernel
theorem dX12_isSign_12 : decode cX12_isSign 12 = .ok (.dup, 1) := by decide +kernel
theorem dX12_isSign_13 : decode cX12_isSign 13 = .ok (.getfield 95, 3) := by decide +kernel
theorem dX12_isSign_16 : decode cX12_isSign 16 = .ok (.iconst 1, 1) := by decide +kernel
theorem dX12_isSign_17 : decode cX12_isSign 17 = .ok (.iadd, 1) := by decide +kernel
theorem dX12_isSign_18 : decode cX12_isSign 18 = .ok (.putfield 95, 3) := by decide +kernel
theorem dX12_isSign_21 : decode cX12_isSign 21 = .ok (.iconst 1, 1) := by decide +kernel
theorem dX12_isSign_22 : decode cX12_isSign 22 = .ok (.ireturn, 1) := by decide +kernel
theorem dX12_dale_0 : decode cX12_dale 0 = .ok (.aload_n 0, 1) := by decide +kernel
theorem dX12_dale_1 : decode cX12_dale 1 = .ok (.iconst 0, 1) := by decide +kernel
theorem dX12_dale_2 : decode cX12_dale 2 = .ok (.putfield 79, 3) := by decide +kernel
theorem dX12_dale_5 : decode cX12_dale 5 = .ok (.iload_n 1, 1) := by decide +kernel
theorem dX12_dale_6 : decode cX12_dale 6 = .ok (.invokestatic 102, 3) := by decide +kernel
theorem dX12_dale_9 : decode cX12_dale 9 = .ok (.ifCond .ne 5, 3) := by decide +kernel
theorem dX12_dale_12 : decode cX12_dale 12 = .ok (.iconst (-1), 1) := by decide +kernel
theorem dX12_dale_13 : decode cX12_dale 13 = .ok (.ireturn, 1) := by decide +kernel
theorem dX12_dale_14 : decode cX12_dale 14 = .ok (.iload_n 2, 1) := by decide +kernel
theorem dX12_dale_15 : decode cX12_dale 15 = .ok (.invokestatic 106, 3) := by decide +kernel
theorem dX12_dale_18 : decode cX12_dale 18 = .ok (.ifCond .ne 6, 3) := by decide +kernel
theorem dX12_dale_21 : decode cX12_dale 21 = .ok (.bipush (-2), 2) := by decide +kernel
theorem dX12_dale_23 : decode cX12_dale 23 = .ok (.ireturn, 1) := by decide +kernel
theorem dX12_dale_24 : decode cX12_dale 24 = .ok (.aload_n 0, 1) := by decide +kernel
theorem dX12_dale_25 : decode cX12_dale 25 = .ok (.iload_n 1, 1) := by decide +kernel
theorem dX12_dale_26 : decode cX12_dale 26 = .ok (.iload_n 2, 1) := by decide +kernel
theorem dX12_dale_27 : decode cX12_dale 27 = .ok (.iload_n 3, 1) := by decide +kernel
theorem dX12_dale_28 : decode cX12_dale 28 = .ok (.iload 4, 2) := by decide +kernel
theorem dX12_dale_30 : decode cX12_dale 30 = .ok (.invokevirtual 109, 3) := by decide +kernel
theorem dX12_dale_33 : decode cX12_dale 33 = .ok (.istore 5, 2) := by decide +kernel
theorem dX12_dale_35 : decode cX12_dale 35 = .ok (.iload 5, 2) := by decide +kernel
theorem dX12_dale_37 : decode cX12_dale 37 = .ok (.ifCond .eq 10, 3) := by decide +kernel
theorem dX12_dale_40 : decode cX12_dale 40 = .ok (.aload_n 0, 1) := by decide +kernel
theorem dX12_dale_41 : decode cX12_dale 41 = .ok (.iload 5, 2) := by decide +kernel
theorem dX12_dale_43 : decode cX12_dale 43 = .ok (.invokevirtual 113, 3) := by decide +kernel
theorem dX12_dale_46 : decode cX12_dale 46 = .ok (.ireturn, 1) := by decide +kernel
theorem dX12_dale_47 : decode cX12_dale 47 = .ok (.bipush 60, 2) := by decide +kernel
theorem dX12_dale_49 : decode cX12_dale 49 = .ok (.iload_n 1, 1) := by decide +kernel
theorem dX12_dale_50 : decode cX12_dale 50 = .ok (.imul, 1) := by decide +kernel
theorem dX12_dale_51 : decode cX12_dale 51 = .ok (.iload_n 3, 1) := by decide +kernel
theorem dX12_dale_52 : decode cX12_dale 52 = .ok (.iadd, 1) := by decide +kernel
theorem dX12_dale_53 : decode cX12_dale 53 = .ok (.istore 6, 2) := by decide +kernel
theorem dX12_dale_55 : decode cX12_dale 55 = .ok (.aload_n 0, 1) := by decide +kernel
theorem dX12_dale_56 : decode cX12_dale 56 = .ok (.iload 6, 2) := by decide +kernel
theorem dX12_dale_58 : decode cX12_dale 58 = .ok (.putfield 95, 3) := by decide +kernel
theorem dX12_dale_61 : decode cX12_dale 61 = .ok (.aload_n 0, 1) := by decide +kernel
theorem dX12_dale_62 : decode cX12_dale 62 = .ok (.iload 6, 2) := by decide +kernel
theorem dX12_dale_64 : decode cX12_dale 64 = .ok (.iload 4, 2) := by decide +kernel
theorem dX12_dale_66 : decode cX12_dale 66 = .ok (.iadd, 1) := by decide +kernel
theorem dX12_dale_67 : decode cX12_dale 67 = .ok (.invokevirtual 117, 3) := by decide +kernel
theorem dX12_dale_70 : decode cX12_dale 70 = .ok (.ifCond .ne 14, 3) := by decide +kernel
theorem dX12_dale_73 : decode cX12_dale 73 = .ok (.bipush (-100), 2) := by decide +kernel
theorem dX12_dale_75 : decode cX12_dale 75 = .ok (.aload_n 0, 1) := by decide +kernel
theorem dX12_dale_76 : decode cX12_dale 76 = .ok (.getfield 95, 3) := by decide +kernel
theorem dX12_dale_79 : decode cX12_dale 79 = .ok (.iload 6, 2) := by decide +kernel
theorem dX12_dale_81 : decode cX12_dale 81 = .ok (.isub, 1) := by decide +kernel
theorem dX12_dale_82 : decode cX12_dale 82 = .ok (.isub, 1) := by decide +kernel
theorem dX12_dale_83 : decode cX12_dale 83 = .ok (.ireturn, 1) := by decide +kernel
theorem dX12_dale_84 : decode cX12_dale 84 = .ok (.aload_n 0, 1) := by decide +kernel
theorem dX12_dale_85 : decode cX12_dale 85 = .ok (.invokevirtual 120, 3) := by decide +kernel
theorem dX12_dale_88 : decode cX12_dale 88 = .ok (.aload_n 0, 1) := by decide +kernel
theorem dX12_dale_89 : decode cX12_dale 89 = .ok (.getfield 92, 3) := by decide +kernel
theorem dX12_dale_92 : decode cX12_dale 92 = .ok (.ireturn, 1) := by decide +kernel
theorem dX12_takeDale_0 : decode cX12_takeDale 0 = .ok (.aload_n 0, 1) := by decide +kernel
theorem dX12_takeDale_1 : decode cX12_takeDale 1 = .ok (.aload_n 0, 1) := by decide +kernel
theorem dX12_takeDale_2 : decode cX12_takeDale 2 = .ok (.getfield 123, 3) := by decide +kernel
theorem dX12_takeDale_5 : decode cX12_takeDale 5 = .ok (.putfield 126, 3) := by decide +kernel
theorem dX12_takeDale_8 : decode cX12_takeDale 8 = .ok (.aload_n 0, 1) := by decide +kernel
theorem dX12_takeDale_9 : decode cX12_takeDale 9 = .ok (.aload_n 0, 1) := by decide +kernel
theorem dX12_takeDale_10 : decode cX12_takeDale 10 = .ok (.getfield 129, 3) := by decide +kernel
theorem dX12_takeDale_13 : decode cX12_takeDale 13 = .ok (.putfield 89, 3) := by decide +kernel
theorem dX12_takeDale_16 : decode cX12_takeDale 16 = .ok (.iconst 0, 1) := by decide +kernel
theorem dX12_takeDale_17 : decode cX12_takeDale 17 = .ok (.istore_n 1, 1) := by decide +kernel
theorem dX12_takeDale_18 : decode cX12_takeDale 18 = .ok (.iload_n 1, 1) := by decide +kernel
theorem dX12_takeDale_19 : decode cX12_takeDale 19 = .ok (.aload_n 0, 1) := by decide +kernel
theorem dX12_takeDale_20 : decode cX12_takeDale 20 = .ok (.getfield 89, 3) := by decide +kernel
theorem dX12_takeDale_23 : decode cX12_takeDale 23 = .ok (.if_icmp .ge 46, 3) := by decide +kernel
theorem dX12_takeDale_26 : decode cX12_takeDale 26 = .ok (.aload_n 0, 1) := by decide +kernel
theorem dX12_takeDale_27 : decode cX12_takeDale 27 = .ok (.getfield 19, 3) := by decide +kernel
theorem dX12_takeDale_30 : decode cX12_takeDale 30 = .ok (.iload_n 1, 1) := by decide +kernel
theorem dX12_takeDale_31 : decode cX12_takeDale 31 = .ok (.aload_n 0, 1) := by decide +kernel
theorem dX12_takeDale_32 : decode cX12_takeDale 32 = .ok (.getfield 40, 3) := by decide +kernel
theorem dX12_takeDale_35 : decode cX12_takeDale 35 = .ok (.iconst 2, 1) := by decide +kernel
theorem dX12_takeDale_36 : decode cX12_takeDale 36 = .ok (.iload_n 1, 1) := by decide +kernel
theorem dX12_takeDale_37 : decode cX12_takeDale 37 = .ok (.imul, 1) := by decide +kernel
theorem dX12_takeDale_38 : decode cX12_takeDale 38 = .ok (.iaload, 1) := by decide +kernel
theorem dX12_takeDale_39 : decode cX12_takeDale 39 = .ok (.iastore, 1) := by decide +kernel
theorem dX12_takeDale_40 : decode cX12_takeDale 40 = .ok (.aload_n 0, 1) := by decide +kernel
theorem dX12_takeDale_41 : decode cX12_takeDale 41 = .ok (.getfield 22, 3) := by decide +kernel
theorem dX12_takeDale_44 : decode cX12_takeDale 44 = .ok (.iload_n 1, 1) := by decide +kernel
theorem dX12_takeDale_45 : decode cX12_takeDale 45 = .ok (.aload_n 0, 1) := by decide +kernel
theorem dX12_takeDale_46 : decode cX12_takeDale 46 = .ok (.getfield 40, 3) := by decide +kernel
theorem dX12_takeDale_49 : decode cX12_takeDale 49 = .ok (.iconst 2, 1) := by decide +kernel
theorem dX12_takeDale_50 : decode cX12_takeDale 50 = .ok (.iload_n 1, 1) := by decide +kernel
theorem dX12_takeDale_51 : decode cX12_takeDale 51 = .ok (.imul, 1) := by decide +kernel
theorem dX12_takeDale_52 : decode cX12_takeDale 52 = .ok (.iconst 1, 1) := by decide +kernel
theorem dX12_takeDale_53 : decode cX12_takeDale 53 = .ok (.iadd, 1) := by decide +kernel
theorem dX12_takeDale_54 : decode cX12_takeDale 54 = .ok (.iaload, 1) := by decide +kernel
theorem dX12_takeDale_55 : decode cX12_takeDale 55 = .ok (.iastore, 1) := by decide +kernel
theorem dX12_takeDale_56 : decode cX12_takeDale 56 = .ok (.aload_n 0, 1) := by decide +kernel
theorem dX12_takeDale_57 : decode cX12_takeDale 57 = .ok (.getfield 31, 3) := by decide +kernel
theorem dX12_takeDale_60 : decode cX12_takeDale 60 = .ok (.iload_n 1, 1) := by decide +kernel
theorem dX12_takeDale_61 : decode cX12_takeDale 61 = .ok (.iconst 0, 1) := by decide +kernel
theorem dX12_takeDale_62 : decode cX12_takeDale 62 = .ok (.iastore, 1) := by decide +kernel
theorem dX12_takeDale_63 : decode cX12_takeDale 63 = .ok (.iinc 1 1, 3) := by decide +kernel
theorem dX12_takeDale_66 : decode cX12_takeDale 66 = .ok (.goto (-48), 3) := by decide +kernel
theorem dX12_takeDale_69 : decode cX12_takeDale 69 = .ok (.aload_n 0, 1) := by decide +kernel
theorem dX12_takeDale_70 : decode cX12_takeDale 70 = .ok (.aload_n 0, 1) := by decide +kernel
theorem dX12_takeDale_71 : decode cX12_takeDale 71 = .ok (.getfield 132, 3) := by decide +kernel
theorem dX12_takeDale_74 : decode cX12_takeDale 74 = .ok (.putfield 92, 3) := by decide +kernel
theorem dX12_takeDale_77 : decode cX12_takeDale 77 = .ok (.iconst 0, 1) := by decide +kernel
theorem dX12_takeDale_78 : decode cX12_takeDale 78 = .ok (.istore_n 1, 1) := by decide +kernel
theorem dX12_takeDale_79 : decode cX12_takeDale 79 = .ok (.iload_n 1, 1) := by decide +kernel
theorem dX12_takeDale_80 : decode cX12_takeDale 80 = .ok (.aload_n 0, 1) := by decide +kernel
theorem dX12_takeDale_81 : decode cX12_takeDale 81 = .ok (.getfield 92, 3) := by decide +kernel
theorem dX12_takeDale_84 : decode cX12_takeDale 84 = .ok (.if_icmp .ge 39, 3) := by decide +kernel
theorem dX12_takeDale_87 : decode cX12_takeDale 87 = .ok (.aload_n 0, 1) := by decide +kernel
theorem dX12_takeDale_88 : decode cX12_takeDale 88 = .ok (.getfield 25, 3) := by decide +kernel
theorem dX12_takeDale_91 : decode cX12_takeDale 91 = .ok (.iload_n 1, 1) := by decide +kernel
theorem dX12_takeDale_92 : decode cX12_takeDale 92 = .ok (.aload_n 0, 1) := by decide +kernel
theorem dX12_takeDale_93 : decode cX12_takeDale 93 = .ok (.getfield 43, 3) := by decide +kernel
theorem dX12_takeDale_96 : decode cX12_takeDale 96 = .ok (.iconst 2, 1) := by decide +kernel
theorem dX12_takeDale_97 : decode cX12_takeDale 97 = .ok (.iload_n 1, 1) := by decide +kernel
theorem dX12_takeDale_98 : decode cX12_takeDale 98 = .ok (.imul, 1) := by decide +kernel
theorem dX12_takeDale_99 : decode cX12_takeDale 99 = .ok (.iaload, 1) := by decide +kernel
theorem dX12_takeDale_100 : decode cX12_takeDale 100 = .ok (.iastore, 1) := by decide +kernel
theorem dX12_takeDale_101 : decode cX12_takeDale 101 = .ok (.aload_n 0, 1) := by decide +kernel
theorem dX12_takeDale_102 : decode cX12_takeDale 102 = .ok (.getfield 28, 3) := by decide +kernel
theorem dX12_takeDale_105 : decode cX12_takeDale 105 = .ok (.iload_n 1, 1) := by decide +kernel
theorem dX12_takeDale_106 : decode cX12_takeDale 106 = .ok (.aload_n 0, 1) := by decide +kernel
theorem dX12_takeDale_107 : decode cX12_takeDale 107 = .ok (.getfield 43, 3) := by decide +kernel
theorem dX12_takeDale_110 : decode cX12_takeDale 110 = .ok (.iconst 2, 1) := by decide +kernel
theorem dX12_takeDale_111 : decode cX12_takeDale 111 = .ok (.iload_n 1, 1) := by decide +kernel
theorem dX12_takeDale_112 : decode cX12_takeDale 112 = .ok (.imul, 1) := by decide +kernel
theorem dX12_takeDale_113 : decode cX12_takeDale 113 = .ok (.iconst 1, 1) := by decide +kernel
theorem dX12_takeDale_114 : decode cX12_takeDale 114 = .ok (.iadd, 1) := by decide +kernel
theorem dX12_takeDale_115 : decode cX12_takeDale 115 = .ok (.iaload, 1) := by decide +kernel
theorem dX12_takeDale_116 : decode cX12_takeDale 116 = .ok (.iastore, 1) := by decide +kernel
theorem dX12_takeDale_117 : decode cX12_takeDale 117 = .ok (.iinc 1 1, 3) := by decide +kernel
theorem dX12_takeDale_120 : decode cX12_takeDale 120 = .ok (.goto (-41), 3) := by decide +kernel
theorem dX12_takeDale_123 : decode cX12_takeDale 123 = .ok (.aload_n 0, 1) := by decide +kernel
theorem dX12_takeDale_124 : decode cX12_takeDale 124 = .ok (.iconst 0, 1) := by decide +kernel
theorem dX12_takeDale_125 : decode cX12_takeDale 125 = .ok (.putfield 135, 3) := by decide +kernel
theorem dX12_takeDale_128 : decode cX12_takeDale 128 = .ok (.return_, 1) := by decide +kernel
theorem dX12_readDale_0 : decode cX12_readDale 0 = .ok (.aload_n 0, 1) := by decide +kernel
theorem dX12_readDale_1 : decode cX12_readDale 1 = .ok (.iconst 0, 1) := by decide +kernel
theorem dX12_readDale_2 : decode cX12_readDale 2 = .ok (.putfield 129, 3) := by decide +kernel
theorem dX12_readDale_5 : decode cX12_readDale 5 = .ok (.aload_n 0, 1) := by decide +kernel
theorem dX12_readDale_6 : decode cX12_readDale 6 = .ok (.iconst 0, 1) := by decide +kernel
theorem dX12_readDale_7 : decode cX12_readDale 7 = .ok (.putfield 132, 3) := by decide +kernel
theorem dX12_readDale_10 : decode cX12_readDale 10 = .ok (.aload_n 0, 1) := by decide +kernel
theorem dX12_readDale_11 : decode cX12_readDale 11 = .ok (.iload_n 1, 1) := by decide +kernel
theorem dX12_readDale_12 : decode cX12_readDale 12 = .ok (.bipush 113, 2) := by decide +kernel
theorem dX12_readDale_14 : decode cX12_readDale 14 = .ok (.invokevirtual 138, 3) := by decide +kernel
theorem dX12_readDale_17 : decode cX12_readDale 17 = .ok (.ifCond .ne 5, 3) := by decide +kernel
theorem dX12_readDale_20 : decode cX12_readDale 20 = .ok (.iconst 0, 1) := by decide +kernel
theorem dX12_readDale_21 : decode cX12_readDale 21 = .ok (.ireturn, 1) := by decide +kernel
theorem dX12_readDale_22 : decode cX12_readDale 22 = .ok (.aload_n 0, 1) := by decide +kernel
theorem dX12_readDale_23 : decode cX12_readDale 23 = .ok (.aload_n 0, 1) := by decide +kernel
theorem dX12_readDale_24 : decode cX12_readDale 24 = .ok (.iload_n 1, 1) := by decide +kernel
theorem dX12_readDale_25 : decode cX12_readDale 25 = .ok (.iconst 0, 1) := by decide +kernel
theorem dX12_readDale_26 : decode cX12_readDale 26 = .ok (.iconst 3, 1) := by decide +kernel
theorem dX12_readDale_27 : decode cX12_readDale 27 = .ok (.invokevirtual 141, 3) := by decide +kernel
theorem dX12_readDale_30 : decode cX12_readDale 30 = .ok (.putfield 123, 3) := by decide +kernel
theorem dX12_readDale_33 : decode cX12_readDale 33 = .ok (.aload_n 0, 1) := by decide +kernel
theorem dX12_readDale_34 : decode cX12_readDale 34 = .ok (.getfield 123, 3) := by decide +kernel
theorem dX12_readDale_37 : decode cX12_readDale 37 = .ok (.bipush (-9), 2) := by decide +kernel
theorem dX12_readDale_39 : decode cX12_readDale 39 = .ok (.if_icmp .ne 5, 3) := by decide +kernel
theorem dX12_readDale_42 : decode cX12_readDale 42 = .ok (.iconst 0, 1) := by decide +kernel
theorem dX12_readDale_43 : decode cX12_readDale 43 = .ok (.ireturn, 1) := by decide +kernel
theorem dX12_readDale_44 : decode cX12_readDale 44 = .ok (.aload_n 0, 1) := by decide +kernel
theorem dX12_readDale_45 : decode cX12_readDale 45 = .ok (.getfield 129, 3) := by decide +kernel
theorem dX12_readDale_48 : decode cX12_readDale 48 = .ok (.ifCond .eq 21, 3) := by decide +kernel
theorem dX12_readDale_51 : decode cX12_readDale 51 = .ok (.aload_n 0, 1) := by decide +kernel
theorem dX12_readDale_52 : decode cX12_readDale 52 = .ok (.getfield 129, 3) := by decide +kernel
theorem dX12_readDale_55 : decode cX12_readDale 55 = .ok (.iconst 4, 1) := by decide +kernel
theorem dX12_readDale_56 : decode cX12_readDale 56 = .ok (.if_icmp .ge 33, 3) := by decide +kernel
theorem dX12_readDale_59 : decode cX12_readDale 59 = .ok (.aload_n 0, 1) := by decide +kernel
theorem dX12_readDale_60 : decode cX12_readDale 60 = .ok (.iload_n 1, 1) := by decide +kernel
theorem dX12_readDale_61 : decode cX12_readDale 61 = .ok (.bipush 44, 2) := by decide +kernel
theorem dX12_readDale_63 : decode cX12_readDale 63 = .ok (.invokevirtual 98, 3) := by decide +kernel
theorem dX12_readDale_66 : decode cX12_readDale 66 = .ok (.ifCond .eq 23, 3) := by decide +kernel
theorem dX12_readDale_69 : decode cX12_readDale 69 = .ok (.aload_n 0, 1) := by decide +kernel
theorem dX12_readDale_70 : decode cX12_readDale 70 = .ok (.iload_n 1, 1) := by decide +kernel
theorem dX12_readDale_71 : decode cX12_readDale 71 = .ok (.bipush 44, 2) := by decide +kernel
theorem dX12_readDale_73 : decode cX12_readDale 73 = .ok (.invokevirtual 138, 3) := by decide +kernel
theorem dX12_readDale_76 : decode cX12_readDale 76 = .ok (.ifCond .eq 11, 3) := by decide +kernel
theorem dX12_readDale_79 : decode cX12_readDale 79 = .ok (.aload_n 0, 1) := by decide +kernel
theorem dX12_readDale_80 : decode cX12_readDale 80 = .ok (.iload_n 1, 1) := by decide +kernel
theorem dX12_readDale_81 : decode cX12_readDale 81 = .ok (.invokevirtual 145, 3) := by decide +kernel
theorem dX12_readDale_84 : decode cX12_readDale 84 = .ok (.ifCond .ne (-40), 3) := by decide +kernel
theorem dX12_readDale_87 : decode cX12_readDale 87 = .ok (.iconst 0, 1) := by decide +kernel
theorem dX12_readDale_88 : decode cX12_readDale 88 = .ok (.ireturn, 1) := by decide +kernel
theorem dX12_readDale_89 : decode cX12_readDale 89 = .ok (.aload_n 0, 1) := by decide +kernel
theorem dX12_readDale_90 : decode cX12_readDale 90 = .ok (.getfield 132, 3) := by decide +kernel
theorem dX12_readDale_93 : decode cX12_readDale 93 = .ok (.ifCond .eq 19, 3) := by decide +kernel
theorem dX12_readDale_96 : decode cX12_readDale 96 = .ok (.aload_n 0, 1) := by decide +kernel
theorem dX12_readDale_97 : decode cX12_readDale 97 = .ok (.getfield 132, 3) := by decide +kernel
theorem dX12_readDale_100 : decode cX12_readDale 100 = .ok (.iconst 5, 1) := by decide +kernel
theorem dX12_readDale_101 : decode cX12_readDale 101 = .ok (.if_icmp .ge 31, 3) := by decide +kernel
theorem dX12_readDale_104 : decode cX12_readDale 104 = .ok (.aload_n 0, 1) := by decide +kernel
theorem dX12_readDale_105 : decode cX12_readDale 105 = .ok (.getfield 95, 3) := by decide +kernel
theorem dX12_readDale_108 : decode cX12_readDale 108 = .ok (.iload_n 1, 1) := by decide +kernel
theorem dX12_readDale_109 : decode cX12_readDale 109 = .ok (.if_icmp .ge 23, 3) := by decide +kernel
theorem dX12_readDale_112 : decode cX12_readDale 112 = .ok (.aload_n 0, 1) := by decide +kernel
theorem dX12_readDale_113 : decode cX12_readDale 113 = .ok (.iload_n 1, 1) := by decide +kernel
theorem dX12_readDale_114 : decode cX12_readDale 114 = .ok (.bipush 59, 2) := by decide +kernel
theorem dX12_readDale_116 : decode cX12_readDale 116 = .ok (.invokevirtual 138, 3) := by decide +kernel
theorem dX12_readDale_119 : decode cX12_readDale 119 = .ok (.ifCond .eq 11, 3) := by decide +kernel
theorem dX12_readDale_122 : decode cX12_readDale 122 = .ok (.aload_n 0, 1) := by decide +kernel
theorem dX12_readDale_123 : decode cX12_readDale 123 = .ok (.iload_n 1, 1) := by decide +kernel
theorem dX12_readDale_124 : decode cX12_readDale 124 = .ok (.invokevirtual 148, 3) := by decide +kernel
theorem dX12_readDale_127 : decode cX12_readDale 127 = .ok (.ifCond .ne (-38), 3) := by decide +kernel
theorem dX12_readDale_130 : decode cX12_readDale 130 = .ok (.iconst 0, 1) := by decide +kernel
theorem dX12_readDale_131 : decode cX12_readDale 131 = .ok (.ireturn, 1) := by decide +kernel
theorem dX12_readDale_132 : decode cX12_readDale 132 = .ok (.aload_n 0, 1) := by decide +kernel
theorem dX12_readDale_133 : decode cX12_readDale 133 = .ok (.getfield 95, 3) := by decide +kernel
theorem dX12_readDale_136 : decode cX12_readDale 136 = .ok (.iload_n 1, 1) := by decide +kernel
theorem dX12_readDale_137 : decode cX12_readDale 137 = .ok (.if_icmp .ne 7, 3) := by decide +kernel
theorem dX12_readDale_140 : decode cX12_readDale 140 = .ok (.iconst 1, 1) := by decide +kernel
theorem dX12_readDale_141 : decode cX12_readDale 141 = .ok (.goto 4, 3) := by decide +kernel
theorem dX12_readDale_144 : decode cX12_readDale 144 = .ok (.iconst 0, 1) := by decide +kernel
theorem dX12_readDale_145 : decode cX12_readDale 145 = .ok (.ireturn, 1) := by decide +kernel
theorem dX12_readTheGirl_0 : decode cX12_readTheGirl 0 = .ok (.iconst 2, 1) := by decide +kernel
theorem dX12_readTheGirl_1 : decode cX12_readTheGirl 1 = .ok (.aload_n 0, 1) := by decide +kernel
theorem dX12_readTheGirl_2 : decode cX12_readTheGirl 2 = .ok (.getfield 129, 3) := by decide +kernel
theorem dX12_readTheGirl_5 : decode cX12_readTheGirl 5 = .ok (.imul, 1) := by decide +kernel
theorem dX12_readTheGirl_6 : decode cX12_readTheGirl 6 = .ok (.istore_n 2, 1) := by decide +kernel
theorem dX12_readTheGirl_7 : decode cX12_readTheGirl 7 = .ok (.aload_n 0, 1) := by decide +kernel
theorem dX12_readTheGirl_8 : decode cX12_readTheGirl 8 = .ok (.getfield 40, 3) := by decide +kernel
theorem dX12_readTheGirl_11 : decode cX12_readTheGirl 11 = .ok (.iload_n 2, 1) := by decide +kernel
theorem dX12_readTheGirl_12 : decode cX12_readTheGirl 12 = .ok (.aload_n 0, 1) := by decide +kernel
theorem dX12_readTheGirl_13 : decode cX12_readTheGirl 13 = .ok (.iload_n 1, 1) := by decide +kernel
theorem dX12_readTheGirl_14 : decode cX12_readTheGirl 14 = .ok (.iconst 1, 1) := by decide +kernel
theorem dX12_readTheGirl_15 : decode cX12_readTheGirl 15 = .ok (.bipush 9, 2) := by decide +kernel
theorem dX12_readTheGirl_17 : decode cX12_readTheGirl 17 = .ok (.invokevirtual 141, 3) := by decide +kernel
theorem dX12_readTheGirl_20 : decode cX12_readTheGirl 20 = .ok (.iastore, 1) := by decide +kernel
theorem dX12_readTheGirl_21 : decode cX12_readTheGirl 21 = .ok (.aload_n 0, 1) := by decide +kernel
theorem dX12_readTheGirl_22 : decode cX12_readTheGirl 22 = .ok (.getfield 40, 3) := by decide +kernel
theorem dX12_readTheGirl_25 : decode cX12_readTheGirl 25 = .ok (.iload_n 2, 1) := by decide +kernel
theorem dX12_readTheGirl_26 : decode cX12_readTheGirl 26 = .ok (.iaload, 1) := by decide +kernel
theorem dX12_readTheGirl_27 : decode cX12_readTheGirl 27 = .ok (.bipush (-9), 2) := by decide +kernel
theorem dX12_readTheGirl_29 : decode cX12_readTheGirl 29 = .ok (.if_icmp .ne 5, 3) := by decide +kernel
theorem dX12_readTheGirl_32 : decode cX12_readTheGirl 32 = .ok (.iconst 0, 1) := by decide +kernel
theorem dX12_readTheGirl_33 : decode cX12_readTheGirl 33 = .ok (.ireturn, 1) := by decide +kernel
theorem dX12_readTheGirl_34 : decode cX12_readTheGirl 34 = .ok (.aload_n 0, 1) := by decide +kernel
theorem dX12_readTheGirl_35 : decode cX12_readTheGirl 35 = .ok (.getfield 40, 3) := by decide +kernel
theorem dX12_readTheGirl_38 : decode cX12_readTheGirl 38 = .ok (.iload_n 2, 1) := by decide +kernel
theorem dX12_readTheGirl_39 : decode cX12_readTheGirl 39 = .ok (.iconst 1, 1) := by decide +kernel
theorem dX12_readTheGirl_40 : decode cX12_readTheGirl 40 = .ok (.iadd, 1) := by decide +kernel
theorem dX12_readTheGirl_41 : decode cX12_readTheGirl 41 = .ok (.aload_n 0, 1) := by decide +kernel
theorem dX12_readTheGirl_42 : decode cX12_readTheGirl 42 = .ok (.iload_n 1, 1) := by decide +kernel
theorem dX12_readTheGirl_43 : decode cX12_readTheGirl 43 = .ok (.iconst 0, 1) := by decide +kernel
theorem dX12_readTheGirl_44 : decode cX12_readTheGirl 44 = .ok (.bipush 9, 2) := by decide +kernel
theorem dX12_readTheGirl_46 : decode cX12_readTheGirl 46 = .ok (.invokevirtual 141, 3) := by decide +kernel
theorem dX12_readTheGirl_49 : decode cX12_readTheGirl 49 = .ok (.iastore, 1) := by decide +kernel
theorem dX12_readTheGirl_50 : decode cX12_readTheGirl 50 = .ok (.aload_n 0, 1) := by decide +kernel
theorem dX12_readTheGirl_51 : decode cX12_readTheGirl 51 = .ok (.dup, 1) := by decide +kernel
theorem dX12_readTheGirl_52 : decode cX12_readTheGirl 52 = .ok (.getfield 129, 3) := by decide +kernel
theorem dX12_readTheGirl_55 : decode cX12_readTheGirl 55 = .ok (.iconst 1, 1) := by decide +kernel
theorem dX12_readTheGirl_56 : decode cX12_readTheGirl 56 = .ok (.iadd, 1) := by decide +kernel
theorem dX12_readTheGirl_57 : decode cX12_readTheGirl 57 = .ok (.putfield 129, 3) := by decide +kernel
theorem dX12_readTheGirl_60 : decode cX12_readTheGirl 60 = .ok (.aload_n 0, 1) := by decide +kernel
theorem dX12_readTheGirl_61 : decode cX12_readTheGirl 61 = .ok (.getfield 40, 3) := by decide +kernel
theorem dX12_readTheGirl_64 : decode cX12_readTheGirl 64 = .ok (.iload_n 2, 1) := by decide +kernel
theorem dX12_readTheGirl_65 : decode cX12_readTheGirl 65 = .ok (.iconst 1, 1) := by decide +kernel
theorem dX12_readTheGirl_66 : decode cX12_readTheGirl 66 = .ok (.iadd, 1) := by decide +kernel
theorem dX12_readTheGirl_67 : decode cX12_readTheGirl 67 = .ok (.iaload, 1) := by decide +kernel
theorem dX12_readTheGirl_68 : decode cX12_readTheGirl 68 = .ok (.bipush (-9), 2) := by decide +kernel
theorem dX12_readTheGirl_70 : decode cX12_readTheGirl 70 = .ok (.if_icmp .eq 7, 3) := by decide +kernel
theorem dX12_readTheGirl_73 : decode cX12_readTheGirl 73 = .ok (.iconst 1, 1) := by decide +kernel
theorem dX12_readTheGirl_74 : decode cX12_readTheGirl 74 = .ok (.goto 4, 3) := by decide +kernel
theorem dX12_readTheGirl_77 : decode cX12_readTheGirl 77 = .ok (.iconst 0, 1) := by decide +kernel
theorem dX12_readTheGirl_78 : decode cX12_readTheGirl 78 = .ok (.ireturn, 1) := by decide +kernel
theorem dX12_readTheThrower_0 : decode cX12_readTheThrower 0 = .ok (.aload_n 0, 1) := by decide +kernel
theorem dX12_readTheThrower_1 : decode cX12_readTheThrower 1 = .ok (.getfield 95, 3) := by decide +kernel
theorem dX12_readTheThrower_4 : decode cX12_readTheThrower 4 = .ok (.iload_n 1, 1) := by decide +kernel
theorem dX12_readTheThrower_5 : decode cX12_readTheThrower 5 = .ok (.if_icmp .ge 15, 3) := by decide +kernel
theorem dX12_readTheThrower_8 : decode cX12_readTheThrower 8 = .ok (.aload_n 0, 1) := by decide +kernel
theorem dX12_readTheThrower_9 : decode cX12_readTheThrower 9 = .ok (.getfield 16, 3) := by decide +kernel
theorem dX12_readTheThrower_12 : decode cX12_readTheThrower 12 = .ok (.aload_n 0, 1) := by decide +kernel
theorem dX12_readTheThrower_13 : decode cX12_readTheThrower 13 = .ok (.getfield 95, 3) := by decide +kernel
theorem dX12_readTheThrower_16 : decode cX12_readTheThrower 16 = .ok (.iaload, 1) := by decide +kernel
theorem dX12_readTheThrower_17 : decode cX12_readTheThrower 17 = .ok (.goto 4, 3) := by decide +kernel
theorem dX12_readTheThrower_20 : decode cX12_readTheThrower 20 = .ok (.iconst 0, 1) := by decide +kernel
theorem dX12_readTheThrower_21 : decode cX12_readTheThrower 21 = .ok (.istore_n 2, 1) := by decide +kernel
theorem dX12_readTheThrower_22 : decode cX12_readTheThrower 22 = .ok (.iconst 2, 1) := by decide +kernel
theorem dX12_readTheThrower_23 : decode cX12_readTheThrower 23 = .ok (.aload_n 0, 1) := by decide +kernel
theorem dX12_readTheThrower_24 : decode cX12_readTheThrower 24 = .ok (.getfield 132, 3) := by decide +kernel
theorem dX12_readTheThrower_27 : decode cX12_readTheThrower 27 = .ok (.imul, 1) := by decide +kernel
theorem dX12_readTheThrower_28 : decode cX12_readTheThrower 28 = .ok (.istore_n 3, 1) := by decide +kernel
theorem dX12_readTheThrower_29 : decode cX12_readTheThrower 29 = .ok (.aload_n 0, 1) := by decide +kernel
theorem dX12_readTheThrower_30 : decode cX12_readTheThrower 30 = .ok (.getfield 43, 3) := by decide +kernel
theorem dX12_readTheThrower_33 : decode cX12_readTheThrower 33 = .ok (.iload_n 3, 1) := by decide +kernel
theorem dX12_readTheThrower_34 : decode cX12_readTheThrower 34 = .ok (.iload_n 2, 1) := by decide +kernel
theorem dX12_readTheThrower_35 : decode cX12_readTheThrower 35 = .ok (.bipush 114, 2) := by decide +kernel
theorem dX12_readTheThrower_37 : decode cX12_readTheThrower 37 = .ok (.if_icmp .ne 7, 3) := by decide +kernel
theorem dX12_readTheThrower_40 : decode cX12_readTheThrower 40 = .ok (.iconst 0, 1) := by decide +kernel
theorem dX12_readTheThrower_41 : decode cX12_readTheThrower 41 = .ok (.goto 25, 3) := by decide +kernel
theorem dX12_readTheThrower_44 : decode cX12_readTheThrower 44 = .ok (.iload_n 2, 1) := by decide +kernel
theorem dX12_readTheThrower_45 : decode cX12_readTheThrower 45 = .ok (.bipush 108, 2) := by decide +kernel
theorem dX12_readTheThrower_47 : decode cX12_readTheThrower 47 = .ok (.if_icmp .ne 7, 3) := by decide +kernel
theorem dX12_readTheThrower_50 : decode cX12_readTheThrower 50 = .ok (.iconst 1, 1) := by decide +kernel
theorem dX12_readTheThrower_51 : decode cX12_readTheThrower 51 = .ok (.goto 15, 3) := by decide +kernel
theorem dX12_readTheThrower_54 : decode cX12_readTheThrower 54 = .ok (.iload_n 2, 1) := by decide +kernel
theorem dX12_readTheThrower_55 : decode cX12_readTheThrower 55 = .ok (.bipush 115, 2) := by decide +kernel
theorem dX12_readTheThrower_57 : decode cX12_readTheThrower 57 = .ok (.if_icmp .ne 7, 3) := by decide +kernel
theorem dX12_readTheThrower_60 : decode cX12_readTheThrower 60 = .ok (.iconst 2, 1) := by decide +kernel
theorem dX12_readTheThrower_61 : decode cX12_readTheThrower 61 = .ok (.goto 5, 3) := by decide +kernel
theorem dX12_readTheThrower_64 : decode cX12_readTheThrower 64 = .ok (.bipush (-9), 2) := by decide +kernel
theorem dX12_readTheThrower_66 : decode cX12_readTheThrower 66 = .ok (.iastore, 1) := by decide +kernel
theorem dX12_readTheThrower_67 : decode cX12_readTheThrower 67 = .ok (.aload_n 0, 1) := by decide +kernel
theorem dX12_readTheThrower_68 : decode cX12_readTheThrower 68 = .ok (.getfield 43, 3) := by decide +kernel
theorem dX12_readTheThrower_71 : decode cX12_readTheThrower 71 = .ok (.iload_n 3, 1) := by decide +kernel
theorem dX12_readTheThrower_72 : decode cX12_readTheThrower 72 = .ok (.iaload, 1) := by decide +kernel
theorem dX12_readTheThrower_73 : decode cX12_readTheThrower 73 = .ok (.bipush (-9), 2) := by decide +kernel
theorem dX12_readTheThrower_75 : decode cX12_readTheThrower 75 = .ok (.if_icmp .ne 5, 3) := by decide +kernel
theorem dX12_readTheThrower_78 : decode cX12_readTheThrower 78 = .ok (.iconst 0, 1) := by decide +kernel
theorem dX12_readTheThrower_79 : decode cX12_readTheThrower 79 = .ok (.ireturn, 1) := by decide +kernel
theorem dX12_readTheThrower_80 : decode cX12_readTheThrower 80 = .ok (.aload_n 0, 1) := by decide +kernel
theorem dX12_readTheThrower_81 : decode cX12_readTheThrower 81 = .ok (.dup, 1) := by decide +kernel
theorem dX12_readTheThrower_82 : decode cX12_readTheThrower 82 = .ok (.getfield 95, 3) := by decide +kernel
theorem dX12_readTheThrower_85 : decode cX12_readTheThrower 85 = .ok (.iconst 1, 1) := by decide +kernel
theorem dX12_readTheThrower_86 : decode cX12_readTheThrower 86 = .ok (.iadd, 1) := by decide +kernel
theorem dX12_readTheThrower_87 : decode cX12_readTheThrower 87 = .ok (.putfield 95, 3) := by decide +kernel
theorem dX12_readTheThrower_90 : decode cX12_readTheThrower 90 = .ok (.aload_n 0, 1) := by decide +kernel
theorem dX12_readTheThrower_91 : decode cX12_readTheThrower 91 = .ok (.getfield 43, 3) := by decide +kernel
theorem dX12_readTheThrower_94 : decode cX12_readTheThrower 94 = .ok (.iload_n 3, 1) := by decide +kernel
theorem dX12_readTheThrower_95 : decode cX12_readTheThrower 95 = .ok (.iconst 1, 1) := by decide +kernel
theorem dX12_readTheThrower_96 : decode cX12_readTheThrower 96 = .ok (.iadd, 1) := by decide +kernel
theorem dX12_readTheThrower_97 : decode cX12_readTheThrower 97 = .ok (.aload_n 0, 1) := by decide +kernel
theorem dX12_readTheThrower_98 : decode cX12_readTheThrower 98 = .ok (.iload_n 1, 1) := by decide +kernel
theorem dX12_readTheThrower_99 : decode cX12_readTheThrower 99 = .ok (.iconst 1, 1) := by decide +kernel
theorem dX12_readTheThrower_100 : decode cX12_readTheThrower 100 = .ok (.bipush 9, 2) := by decide +kernel
theorem dX12_readTheThrower_102 : decode cX12_readTheThrower 102 = .ok (.invokevirtual 141, 3) := by decide +kernel
theorem dX12_readTheThrower_105 : decode cX12_readTheThrower 105 = .ok (.iastore, 1) := by decide +kernel
theorem dX12_readTheThrower_106 : decode cX12_readTheThrower 106 = .ok (.aload_n 0, 1) := by decide +kernel
theorem dX12_readTheThrower_107 : decode cX12_readTheThrower 107 = .ok (.dup, 1) := by decide +kernel
theorem dX12_readTheThrower_108 : decode cX12_readTheThrower 108 = .ok (.getfield 132, 3) := by decide +kernel
theorem dX12_readTheThrower_111 : decode cX12_readTheThrower 111 = .ok (.iconst 1, 1) := by decide +kernel
theorem dX12_readTheThrower_112 : decode cX12_readTheThrower 112 = .ok (.iadd, 1) := by decide +kernel
theorem dX12_readTheThrower_113 : decode cX12_readTheThrower 113 = .ok (.putfield 132, 3) := by decide +kernel
theorem dX12_readTheThrower_116 : decode cX12_readTheThrower 116 = .ok (.aload_n 0, 1) := by decide +kernel
theorem dX12_readTheThrower_117 : decode cX12_readTheThrower 117 = .ok (.getfield 43, 3) := by decide +kernel
theorem dX12_readTheThrower_120 : decode cX12_readTheThrower 120 = .ok (.iload_n 3, 1) := by decide +kernel
theorem dX12_readTheThrower_121 : decode cX12_readTheThrower 121 = .ok (.iconst 1, 1) := by decide +kernel
theorem dX12_readTheThrower_122 : decode cX12_readTheThrower 122 = .ok (.iadd, 1) := by decide +kernel
theorem dX12_readTheThrower_123 : decode cX12_readTheThrower 123 = .ok (.iaload, 1) := by decide +kernel
theorem dX12_readTheThrower_124 : decode cX12_readTheThrower 124 = .ok (.bipush (-9), 2) := by decide +kernel
theorem dX12_readTheThrower_126 : decode cX12_readTheThrower 126 = .ok (.if_icmp .eq 7, 3) := by decide +kernel
theorem dX12_readTheThrower_129 : decode cX12_readTheThrower 129 = .ok (.iconst 1, 1) := by decide +kernel
theorem dX12_readTheThrower_130 : decode cX12_readTheThrower 130 = .ok (.goto 4, 3) := by decide +kernel
theorem dX12_readTheThrower_133 : decode cX12_readTheThrower 133 = .ok (.iconst 0, 1) := by decide +kernel
theorem dX12_readTheThrower_134 : decode cX12_readTheThrower 134 = .ok (.ireturn, 1) := by decide +kernel
theorem dX12_reachOf_0 : decode cX12_reachOf 0 = .ok (.aload_n 0, 1) := by decide +kernel
theorem dX12_reachOf_1 : decode cX12_reachOf 1 = .ok (.getfield 25, 3) := by decide +kernel
theorem dX12_reachOf_4 : decode cX12_reachOf 4 = .ok (.iload_n 1, 1) := by decide +kernel
theorem dX12_reachOf_5 : decode cX12_reachOf 5 = .ok (.iaload, 1) := by decide +kernel
theorem dX12_reachOf_6 : decode cX12_reachOf 6 = .ok (.ifCond .ne 12, 3) := by decide +kernel
theorem dX12_reachOf_9 : decode cX12_reachOf 9 = .ok (.aload_n 0, 1) := by decide +kernel
theorem dX12_reachOf_10 : decode cX12_reachOf 10 = .ok (.getfield 28, 3) := by decide +kernel
theorem dX12_reachOf_13 : decode cX12_reachOf 13 = .ok (.iload_n 1, 1) := by decide +kernel
theorem dX12_reachOf_14 : decode cX12_reachOf 14 = .ok (.iaload, 1) := by decide +kernel
theorem dX12_reachOf_15 : decode cX12_reachOf 15 = .ok (.goto 32, 3) := by decide +kernel
theorem dX12_reachOf_18 : decode cX12_reachOf 18 = .ok (.aload_n 0, 1) := by decide +kernel
theorem dX12_reachOf_19 : decode cX12_reachOf 19 = .ok (.getfield 25, 3) := by decide +kernel
theorem dX12_reachOf_22 : decode cX12_reachOf 22 = .ok (.iload_n 1, 1) := by decide +kernel
theorem dX12_reachOf_23 : decode cX12_reachOf 23 = .ok (.iaload, 1) := by decide +kernel
theorem dX12_reachOf_24 : decode cX12_reachOf 24 = .ok (.iconst 1, 1) := by decide +kernel
theorem dX12_reachOf_25 : decode cX12_reachOf 25 = .ok (.if_icmp .ne 14, 3) := by decide +kernel
theorem dX12_reachOf_28 : decode cX12_reachOf 28 = .ok (.aload_n 0, 1) := by decide +kernel
theorem dX12_reachOf_29 : decode cX12_reachOf 29 = .ok (.getfield 28, 3) := by decide +kernel
theorem dX12_reachOf_32 : decode cX12_reachOf 32 = .ok (.iload_n 1, 1) := by decide +kernel
theorem dX12_reachOf_33 : decode cX12_reachOf 33 = .ok (.iaload, 1) := by decide +kernel
theorem dX12_reachOf_34 : decode cX12_reachOf 34 = .ok (.iconst 1, 1) := by decide +kernel
theorem dX12_reachOf_35 : decode cX12_reachOf 35 = .ok (.iadd, 1) := by decide +kernel
theorem dX12_reachOf_36 : decode cX12_reachOf 36 = .ok (.goto 11, 3) := by decide +kernel
theorem dX12_reachOf_39 : decode cX12_reachOf 39 = .ok (.iconst 2, 1) := by decide +kernel
theorem dX12_reachOf_40 : decode cX12_reachOf 40 = .ok (.aload_n 0, 1) := by decide +kernel
theorem dX12_reachOf_41 : decode cX12_reachOf 41 = .ok (.getfield 28, 3) := by decide +kernel
theorem dX12_reachOf_44 : decode cX12_reachOf 44 = .ok (.iload_n 1, 1) := by decide +kernel
theorem dX12_reachOf_45 : decode cX12_reachOf 45 = .ok (.iaload, 1) := by decide +kernel
theorem dX12_reachOf_46 : decode cX12_reachOf 46 = .ok (.imul, 1) := by decide +kernel
theorem dX12_reachOf_47 : decode cX12_reachOf 47 = .ok (.ireturn, 1) := by decide +kernel
theorem dX12_measureBy_0 : decode cX12_measureBy 0 = .ok (.iload_n 1, 1) := by decide +kernel
theorem dX12_measureBy_1 : decode cX12_measureBy 1 = .ok (.aload_n 0, 1) := by decide +kernel
theorem dX12_measureBy_2 : decode cX12_measureBy 2 = .ok (.getfield 19, 3) := by decide +kernel
theorem dX12_measureBy_5 : decode cX12_measureBy 5 = .ok (.iload_n 2, 1) := by decide +kernel
theorem dX12_measureBy_6 : decode cX12_measureBy 6 = .ok (.iaload, 1) := by decide +kernel
theorem dX12_measureBy_7 : decode cX12_measureBy 7 = .ok (.if_icmp .ge 14, 3) := by decide +kernel
theorem dX12_measureBy_10 : decode cX12_measureBy 10 = .ok (.aload_n 0, 1) := by decide +kernel
theorem dX12_measureBy_11 : decode cX12_measureBy 11 = .ok (.getfield 19, 3) := by decide +kernel
theorem dX12_measureBy_14 : decode cX12_measureBy 14 = .ok (.iload_n 2, 1) := by decide +kernel
theorem dX12_measureBy_15 : decode cX12_measureBy 15 = .ok (.iaload, 1) := by decide +kernel
theorem dX12_measureBy_16 : decode cX12_measureBy 16 = .ok (.iload_n 1, 1) := by decide +kernel
theorem dX12_measureBy_17 : decode cX12_measureBy 17 = .ok (.isub, 1) := by decide +kernel
theorem dX12_measureBy_18 : decode cX12_measureBy 18 = .ok (.goto 11, 3) := by decide +kernel
theorem dX12_measureBy_21 : decode cX12_measureBy 21 = .ok (.iload_n 1, 1) := by decide +kernel
theorem dX12_measureBy_22 : decode cX12_measureBy 22 = .ok (.aload_n 0, 1) := by decide +kernel
theorem dX12_measureBy_23 : decode cX12_measureBy 23 = .ok (.getfield 19, 3) := by decide +kernel
theorem dX12_measureBy_26 : decode cX12_measureBy 26 = .ok (.iload_n 2, 1) := by decide +kernel
theorem dX12_measureBy_27 : decode cX12_measureBy 27 = .ok (.iaload, 1) := by decide +kernel
theorem dX12_measureBy_28 : decode cX12_measureBy 28 = .ok (.isub, 1) := by decide +kernel
theorem dX12_measureBy_29 : decode cX12_measureBy 29 = .ok (.istore_n 3, 1) := by decide +kernel
theorem dX12_measureBy_30 : decode cX12_measureBy 30 = .ok (.iload_n 3, 1) := by decide +kernel
theorem dX12_measureBy_31 : decode cX12_measureBy 31 = .ok (.aload_n 0, 1) := by decide +kernel
theorem dX12_measureBy_32 : decode cX12_measureBy 32 = .ok (.getfield 22, 3) := by decide +kernel
theorem dX12_measureBy_35 : decode cX12_measureBy 35 = .ok (.iload_n 2, 1) := by decide +kernel
theorem dX12_measureBy_36 : decode cX12_measureBy 36 = .ok (.iaload, 1) := by decide +kernel
theorem dX12_measureBy_37 : decode cX12_measureBy 37 = .ok (.if_icmp .gt 7, 3) := by decide +kernel
theorem dX12_measureBy_40 : decode cX12_measureBy 40 = .ok (.iconst 0, 1) := by decide +kernel
theorem dX12_measureBy_41 : decode cX12_measureBy 41 = .ok (.goto 9, 3) := by decide +kernel
theorem dX12_measureBy_44 : decode cX12_measureBy 44 = .ok (.iload_n 3, 1) := by decide +kernel
theorem dX12_measureBy_45 : decode cX12_measureBy 45 = .ok (.aload_n 0, 1) := by decide +kernel
theorem dX12_measureBy_46 : decode cX12_measureBy 46 = .ok (.getfield 126, 3) := by decide +kernel
theorem dX12_measureBy_49 : decode cX12_measureBy 49 = .ok (.iadd, 1) := by decide +kernel
theorem dX12_measureBy_50 : decode cX12_measureBy 50 = .ok (.ireturn, 1) := by decide +kernel
theorem dX12_measureOf_0 : decode cX12_measureOf 0 = .ok (.aload_n 0, 1) := by decide +kernel
theorem dX12_measureOf_1 : decode cX12_measureOf 1 = .ok (.aload_n 0, 1) := by decide +kernel
theorem dX12_measureOf_2 : decode cX12_measureOf 2 = .ok (.iload_n 1, 1) := by decide +kernel
theorem dX12_measureOf_3 : decode cX12_measureOf 3 = .ok (.invokevirtual 151, 3) := by decide +kernel
theorem dX12_measureOf_6 : decode cX12_measureOf 6 = .ok (.iload_n 2, 1) := by decide +kernel
theorem dX12_measureOf_7 : decode cX12_measureOf 7 = .ok (.invokevirtual 154, 3) := by decide +kernel
theorem dX12_measureOf_10 : decode cX12_measureOf 10 = .ok (.ireturn, 1) := by decide +kernel
theorem dX12_bestRing_0 : decode cX12_bestRing 0 = .ok (.bipush (-9), 2) := by decide +kernel
theorem dX12_bestRing_2 : decode cX12_bestRing 2 = .ok (.istore_n 2, 1) := by decide +kernel
theorem dX12_bestRing_3 : decode cX12_bestRing 3 = .ok (.bipush 8, 2) := by decide +kernel
theorem dX12_bestRing_5 : decode cX12_bestRing 5 = .ok (.iload_n 1, 1) := by decide +kernel
theorem dX12_bestRing_6 : decode cX12_bestRing 6 = .ok (.imul, 1) := by decide +kernel
theorem dX12_bestRing_7 : decode cX12_bestRing 7 = .ok (.istore_n 3, 1) := by decide +kernel
theorem dX12_bestRing_8 : decode cX12_bestRing 8 = .ok (.iload_n 3, 1) := by decide +kernel
theorem dX12_bestRing_9 : decode cX12_bestRing 9 = .ok (.bipush 8, 2) := by decide +kernel
theorem dX12_bestRing_11 : decode cX12_bestRing 11 = .ok (.iload_n 1, 1) := by decide +kernel
theorem dX12_bestRing_12 : decode cX12_bestRing 12 = .ok (.imul, 1) := by decide +kernel
theorem dX12_bestRing_13 : decode cX12_bestRing 13 = .ok (.aload_n 0, 1) := by decide +kernel
theorem dX12_bestRing_14 : decode cX12_bestRing 14 = .ok (.getfield 31, 3) := by decide +kernel
theorem dX12_bestRing_17 : decode cX12_bestRing 17 = .ok (.iload_n 1, 1) := by decide +kernel
theorem dX12_bestRing_18 : decode cX12_bestRing 18 = .ok (.iaload, 1) := by decide +kernel
theorem dX12_bestRing_19 : decode cX12_bestRing 19 = .ok (.iadd, 1) := by decide +kernel
theorem dX12_bestRing_20 : decode cX12_bestRing 20 = .ok (.if_icmp .ge 57, 3) := by decide +kernel
theorem dX12_bestRing_23 : decode cX12_bestRing 23 = .ok (.iload_n 2, 1) := by decide +kernel
theorem dX12_bestRing_24 : decode cX12_bestRing 24 = .ok (.bipush (-9), 2) := by decide +kernel
theorem dX12_bestRing_26 : decode cX12_bestRing 26 = .ok (.if_icmp .eq 27, 3) := by decide +kernel
theorem dX12_bestRing_29 : decode cX12_bestRing 29 = .ok (.aload_n 0, 1) := by decide +kernel
theorem dX12_bestRing_30 : decode cX12_bestRing 30 = .ok (.getfield 37, 3) := by decide +kernel
theorem dX12_bestRing_33 : decode cX12_bestRing 33 = .ok (.iload_n 3, 1) := by decide +kernel
theorem dX12_bestRing_34 : decode cX12_bestRing 34 = .ok (.iaload, 1) := by decide +kernel
theorem dX12_bestRing_35 : decode cX12_bestRing 35 = .ok (.aload_n 0, 1) := by decide +kernel
theorem dX12_bestRing_36 : decode cX12_bestRing 36 = .ok (.getfield 37, 3) := by decide +kernel
theorem dX12_bestRing_39 : decode cX12_bestRing 39 = .ok (.iload_n 2, 1) := by decide +kernel
theorem dX12_bestRing_40 : decode cX12_bestRing 40 = .ok (.iaload, 1) := by decide +kernel
theorem dX12_bestRing_41 : decode cX12_bestRing 41 = .ok (.if_icmp .lt 12, 3) := by decide +kernel
theorem dX12_bestRing_44 : decode cX12_bestRing 44 = .ok (.aload_n 0, 1) := by decide +kernel
theorem dX12_bestRing_45 : decode cX12_bestRing 45 = .ok (.getfield 37, 3) := by decide +kernel
theorem dX12_bestRing_48 : decode cX12_bestRing 48 = .ok (.iload_n 3, 1) := by decide +kernel
theorem dX12_bestRing_49 : decode cX12_bestRing 49 = .ok (.iaload, 1) := by decide +kernel
theorem dX12_bestRing_50 : decode cX12_bestRing 50 = .ok (.ifCond .ne 7, 3) := by decide +kernel
theorem dX12_bestRing_53 : decode cX12_bestRing 53 = .ok (.iconst 1, 1) := by decide +kernel
theorem dX12_bestRing_54 : decode cX12_bestRing 54 = .ok (.goto 4, 3) := by decide +kernel
theorem dX12_bestRing_57 : decode cX12_bestRing 57 = .ok (.iconst 0, 1) := by decide +kernel
theorem dX12_bestRing_58 : decode cX12_bestRing 58 = .ok (.istore 4, 2) := by decide +kernel
theorem dX12_bestRing_60 : decode cX12_bestRing 60 = .ok (.iload 4, 2) := by decide +kernel
theorem dX12_bestRing_62 : decode cX12_bestRing 62 = .ok (.ifCond .eq 7, 3) := by decide +kernel
theorem dX12_bestRing_65 : decode cX12_bestRing 65 = .ok (.iload_n 3, 1) := by decide +kernel
theorem dX12_bestRing_66 : decode cX12_bestRing 66 = .ok (.goto 4, 3) := by decide +kernel
theorem dX12_bestRing_69 : decode cX12_bestRing 69 = .ok (.iload_n 2, 1) := by decide +kernel
theorem dX12_bestRing_70 : decode cX12_bestRing 70 = .ok (.istore_n 2, 1) := by decide +kernel
theorem dX12_bestRing_71 : decode cX12_bestRing 71 = .ok (.iinc 3 1, 3) := by decide +kernel
theorem dX12_bestRing_74 : decode cX12_bestRing 74 = .ok (.goto (-66), 3) := by decide +kernel
theorem dX12_bestRing_77 : decode cX12_bestRing 77 = .ok (.iload_n 2, 1) := by decide +kernel
theorem dX12_bestRing_78 : decode cX12_bestRing 78 = .ok (.ireturn, 1) := by decide +kernel
theorem dX12_hasHer_0 : decode cX12_hasHer 0 = .ok (.aload_n 0, 1) := by decide +kernel
theorem dX12_hasHer_1 : decode cX12_hasHer 1 = .ok (.iload_n 1, 1) := by decide +kernel
theorem dX12_hasHer_2 : decode cX12_hasHer 2 = .ok (.invokevirtual 158, 3) := by decide +kernel
theorem dX12_hasHer_5 : decode cX12_hasHer 5 = .ok (.istore_n 2, 1) := by decide +kernel
theorem dX12_hasHer_6 : decode cX12_hasHer 6 = .ok (.iload_n 2, 1) := by decide +kernel
theorem dX12_hasHer_7 : decode cX12_hasHer 7 = .ok (.bipush (-9), 2) := by decide +kernel
theorem dX12_hasHer_9 : decode cX12_hasHer 9 = .ok (.if_icmp .ne 8, 3) := by decide +kernel
theorem dX12_hasHer_12 : decode cX12_hasHer 12 = .ok (.bipush (-9), 2) := by decide +kernel
theorem dX12_hasHer_14 : decode cX12_hasHer 14 = .ok (.goto 9, 3) := by decide +kernel
theorem dX12_hasHer_17 : decode cX12_hasHer 17 = .ok (.aload_n 0, 1) := by decide +kernel
theorem dX12_hasHer_18 : decode cX12_hasHer 18 = .ok (.getfield 34, 3) := by decide +kernel
theorem dX12_hasHer_21 : decode cX12_hasHer 21 = .ok (.iload_n 2, 1) := by decide +kernel
theorem dX12_hasHer_22 : decode cX12_hasHer 22 = .ok (.iaload, 1) := by decide +kernel
theorem dX12_hasHer_23 : decode cX12_hasHer 23 = .ok (.ireturn, 1) := by decide +kernel
theorem dX12_ringers_0 : decode cX12_ringers 0 = .ok (.iconst 0, 1) := by decide +kernel
theorem dX12_ringers_1 : decode cX12_ringers 1 = .ok (.istore_n 2, 1) := by decide +kernel
theorem dX12_ringers_2 : decode cX12_ringers 2 = .ok (.bipush 8, 2) := by decide +kernel
theorem dX12_ringers_4 : decode cX12_ringers 4 = .ok (.iload_n 1, 1) := by decide +kernel
theorem dX12_ringers_5 : decode cX12_ringers 5 = .ok (.imul, 1) := by decide +kernel
theorem dX12_ringers_6 : decode cX12_ringers 6 = .ok (.istore_n 3, 1) := by decide +kernel
theorem dX12_ringers_7 : decode cX12_ringers 7 = .ok (.iload_n 3, 1) := by decide +kernel
theorem dX12_ringers_8 : decode cX12_ringers 8 = .ok (.bipush 8, 2) := by decide +kernel
theorem dX12_ringers_10 : decode cX12_ringers 10 = .ok (.iload_n 1, 1) := by decide +kernel
theorem dX12_ringers_11 : decode cX12_ringers 11 = .ok (.imul, 1) := by decide +kernel
theorem dX12_ringers_12 : decode cX12_ringers 12 = .ok (.aload_n 0, 1) := by decide +kernel
theorem dX12_ringers_13 : decode cX12_ringers 13 = .ok (.getfield 31, 3) := by decide +kernel
theorem dX12_ringers_16 : decode cX12_ringers 16 = .ok (.iload_n 1, 1) := by decide +kernel
theorem dX12_ringers_17 : decode cX12_ringers 17 = .ok (.iaload, 1) := by decide +kernel
theorem dX12_ringers_18 : decode cX12_ringers 18 = .ok (.iadd, 1) := by decide +kernel
theorem dX12_ringers_19 : decode cX12_ringers 19 = .ok (.if_icmp .ge 26, 3) := by decide +kernel
theorem dX12_ringers_22 : decode cX12_ringers 22 = .ok (.iload_n 2, 1) := by decide +kernel
theorem dX12_ringers_23 : decode cX12_ringers 23 = .ok (.aload_n 0, 1) := by decide +kernel
theorem dX12_ringers_24 : decode cX12_ringers 24 = .ok (.getfield 37, 3) := by decide +kernel
theorem dX12_ringers_27 : decode cX12_ringers 27 = .ok (.iload_n 3, 1) := by decide +kernel
theorem dX12_ringers_28 : decode cX12_ringers 28 = .ok (.iaload, 1) := by decide +kernel
theorem dX12_ringers_29 : decode cX12_ringers 29 = .ok (.ifCond .ne 7, 3) := by decide +kernel
theorem dX12_ringers_32 : decode cX12_ringers 32 = .ok (.iconst 1, 1) := by decide +kernel
theorem dX12_ringers_33 : decode cX12_ringers 33 = .ok (.goto 4, 3) := by decide +kernel
theorem dX12_ringers_36 : decode cX12_ringers 36 = .ok (.iconst 0, 1) := by decide +kernel
theorem dX12_ringers_37 : decode cX12_ringers 37 = .ok (.iadd, 1) := by decide +kernel
theorem dX12_ringers_38 : decode cX12_ringers 38 = .ok (.istore_n 2, 1) := by decide +kernel
theorem dX12_ringers_39 : decode cX12_ringers 39 = .ok (.iinc 3 1, 3) := by decide +kernel
theorem dX12_ringers_42 : decode cX12_ringers 42 = .ok (.goto (-35), 3) := by decide +kernel
theorem dX12_ringers_45 : decode cX12_ringers 45 = .ok (.iload_n 2, 1) := by decide +kernel
theorem dX12_ringers_46 : decode cX12_ringers 46 = .ok (.ireturn, 1) := by decide +kernel
theorem dX12_ofGirl_0 : decode cX12_ofGirl 0 = .ok (.aload_n 0, 1) := by decide +kernel
theorem dX12_ofGirl_1 : decode cX12_ofGirl 1 = .ok (.iload_n 1, 1) := by decide +kernel
theorem dX12_ofGirl_2 : decode cX12_ofGirl 2 = .ok (.invokevirtual 161, 3) := by decide +kernel
theorem dX12_ofGirl_5 : decode cX12_ofGirl 5 = .ok (.ifCond .ne 5, 3) := by decide +kernel
theorem dX12_ofGirl_8 : decode cX12_ofGirl 8 = .ok (.iconst (-1), 1) := by decide +kernel
theorem dX12_ofGirl_9 : decode cX12_ofGirl 9 = .ok (.ireturn, 1) := by decide +kernel
theorem dX12_ofGirl_10 : decode cX12_ofGirl 10 = .ok (.iload_n 2, 1) := by decide +kernel
theorem dX12_ofGirl_11 : decode cX12_ofGirl 11 = .ok (.tableswitch 96 0 5 #[37, 44, 51, 58, 64, 90], 37) := by decide +kernel
theorem dX12_ofGirl_48 : decode cX12_ofGirl 48 = .ok (.aload_n 0, 1) := by decide +kernel
theorem dX12_ofGirl_49 : decode cX12_ofGirl 49 = .ok (.getfield 19, 3) := by decide +kernel
theorem dX12_ofGirl_52 : decode cX12_ofGirl 52 = .ok (.iload_n 1, 1) := by decide +kernel
theorem dX12_ofGirl_53 : decode cX12_ofGirl 53 = .ok (.iaload, 1) := by decide +kernel
theorem dX12_ofGirl_54 : decode cX12_ofGirl 54 = .ok (.ireturn, 1) := by decide +kernel
theorem dX12_ofGirl_55 : decode cX12_ofGirl 55 = .ok (.aload_n 0, 1) := by decide +kernel
theorem dX12_ofGirl_56 : decode cX12_ofGirl 56 = .ok (.getfield 22, 3) := by decide +kernel
theorem dX12_ofGirl_59 : decode cX12_ofGirl 59 = .ok (.iload_n 1, 1) := by decide +kernel
theorem dX12_ofGirl_60 : decode cX12_ofGirl 60 = .ok (.iaload, 1) := by decide +kernel
theorem dX12_ofGirl_61 : decode cX12_ofGirl 61 = .ok (.ireturn, 1) := by decide +kernel
theorem dX12_ofGirl_62 : decode cX12_ofGirl 62 = .ok (.aload_n 0, 1) := by decide +kernel
theorem dX12_ofGirl_63 : decode cX12_ofGirl 63 = .ok (.getfield 31, 3) := by decide +kernel
theorem dX12_ofGirl_66 : decode cX12_ofGirl 66 = .ok (.iload_n 1, 1) := by decide +kernel
theorem dX12_ofGirl_67 : decode cX12_ofGirl 67 = .ok (.iaload, 1) := by decide +kernel
theorem dX12_ofGirl_68 : decode cX12_ofGirl 68 = .ok (.ireturn, 1) := by decide +kernel
theorem dX12_ofGirl_69 : decode cX12_ofGirl 69 = .ok (.aload_n 0, 1) := by decide +kernel
theorem dX12_ofGirl_70 : decode cX12_ofGirl 70 = .ok (.iload_n 1, 1) := by decide +kernel
theorem dX12_ofGirl_71 : decode cX12_ofGirl 71 = .ok (.invokevirtual 164, 3) := by decide +kernel
theorem dX12_ofGirl_74 : decode cX12_ofGirl 74 = .ok (.ireturn, 1) := by decide +kernel
theorem dX12_ofGirl_75 : decode cX12_ofGirl 75 = .ok (.aload_n 0, 1) := by decide +kernel
theorem dX12_ofGirl_76 : decode cX12_ofGirl 76 = .ok (.iload_n 1, 1) := by decide +kernel
theorem dX12_ofGirl_77 : decode cX12_ofGirl 77 = .ok (.invokevirtual 158, 3) := by decide +kernel
theorem dX12_ofGirl_80 : decode cX12_ofGirl 80 = .ok (.bipush (-9), 2) := by decide +kernel
theorem dX12_ofGirl_82 : decode cX12_ofGirl 82 = .ok (.if_icmp .ne 8, 3) := by decide +kernel
theorem dX12_ofGirl_85 : decode cX12_ofGirl 85 = .ok (.bipush (-9), 2) := by decide +kernel
theorem dX12_ofGirl_87 : decode cX12_ofGirl 87 = .ok (.goto 13, 3) := by decide +kernel
theorem dX12_ofGirl_90 : decode cX12_ofGirl 90 = .ok (.aload_n 0, 1) := by decide +kernel
theorem dX12_ofGirl_91 : decode cX12_ofGirl 91 = .ok (.getfield 37, 3) := by decide +kernel
theorem dX12_ofGirl_94 : decode cX12_ofGirl 94 = .ok (.aload_n 0, 1) := by decide +kernel
theorem dX12_ofGirl_95 : decode cX12_ofGirl 95 = .ok (.iload_n 1, 1) := by decide +kernel
theorem dX12_ofGirl_96 : decode cX12_ofGirl 96 = .ok (.invokevirtual 158, 3) := by decide +kernel
theorem dX12_ofGirl_99 : decode cX12_ofGirl 99 = .ok (.iaload, 1) := by decide +kernel
theorem dX12_ofGirl_100 : decode cX12_ofGirl 100 = .ok (.ireturn, 1) := by decide +kernel
theorem dX12_ofGirl_101 : decode cX12_ofGirl 101 = .ok (.aload_n 0, 1) := by decide +kernel
theorem dX12_ofGirl_102 : decode cX12_ofGirl 102 = .ok (.iload_n 1, 1) := by decide +kernel
theorem dX12_ofGirl_103 : decode cX12_ofGirl 103 = .ok (.invokevirtual 167, 3) := by decide +kernel
theorem dX12_ofGirl_106 : decode cX12_ofGirl 106 = .ok (.ireturn, 1) := by decide +kernel
theorem dX12_ofGirl_107 : decode cX12_ofGirl 107 = .ok (.bipush (-2), 2) := by decide +kernel
theorem dX12_ofGirl_109 : decode cX12_ofGirl 109 = .ok (.ireturn, 1) := by decide +kernel
theorem dX12_hasSet_0 : decode cX12_hasSet 0 = .ok (.iconst 0, 1) := by decide +kernel
theorem dX12_hasSet_1 : decode cX12_hasSet 1 = .ok (.istore_n 2, 1) := by decide +kernel
theorem dX12_hasSet_2 : decode cX12_hasSet 2 = .ok (.iconst 0, 1) := by decide +kernel
theorem dX12_hasSet_3 : decode cX12_hasSet 3 = .ok (.istore_n 3, 1) := by decide +kernel
theorem dX12_hasSet_4 : decode cX12_hasSet 4 = .ok (.iload_n 3, 1) := by decide +kernel
theorem dX12_hasSet_5 : decode cX12_hasSet 5 = .ok (.aload_n 0, 1) := by decide +kernel
theorem dX12_hasSet_6 : decode cX12_hasSet 6 = .ok (.getfield 89, 3) := by decide +kernel
theorem dX12_hasSet_9 : decode cX12_hasSet 9 = .ok (.if_icmp .ge 28, 3) := by decide +kernel
theorem dX12_hasSet_12 : decode cX12_hasSet 12 = .ok (.iload_n 2, 1) := by decide +kernel
theorem dX12_hasSet_13 : decode cX12_hasSet 13 = .ok (.aload_n 0, 1) := by decide +kernel
theorem dX12_hasSet_14 : decode cX12_hasSet 14 = .ok (.iload_n 3, 1) := by decide +kernel
theorem dX12_hasSet_15 : decode cX12_hasSet 15 = .ok (.invokevirtual 164, 3) := by decide +kernel
theorem dX12_hasSet_18 : decode cX12_hasSet 18 = .ok (.iload_n 1, 1) := by decide +kernel
theorem dX12_hasSet_19 : decode cX12_hasSet 19 = .ok (.if_icmp .ne 9, 3) := by decide +kernel
theorem dX12_hasSet_22 : decode cX12_hasSet 22 = .ok (.iconst 1, 1) := by decide +kernel
theorem dX12_hasSet_23 : decode cX12_hasSet 23 = .ok (.iload_n 3, 1) := by decide +kernel
theorem dX12_hasSet_24 : decode cX12_hasSet 24 = .ok (.ishl, 1) := by decide +kernel
theorem dX12_hasSet_25 : decode cX12_hasSet 25 = .ok (.goto 4, 3) := by decide +kernel
theorem dX12_hasSet_28 : decode cX12_hasSet 28 = .ok (.iconst 0, 1) := by decide +kernel
theorem dX12_hasSet_29 : decode cX12_hasSet 29 = .ok (.ior, 1) := by decide +kernel
theorem dX12_hasSet_30 : decode cX12_hasSet 30 = .ok (.istore_n 2, 1) := by decide +kernel
theorem dX12_hasSet_31 : decode cX12_hasSet 31 = .ok (.iinc 3 1, 3) := by decide +kernel
theorem dX12_hasSet_34 : decode cX12_hasSet 34 = .ok (.goto (-30), 3) := by decide +kernel
theorem dX12_hasSet_37 : decode cX12_hasSet 37 = .ok (.iload_n 2, 1) := by decide +kernel
theorem dX12_hasSet_38 : decode cX12_hasSet 38 = .ok (.ireturn, 1) := by decide +kernel
theorem dX12_ringsOf_0 : decode cX12_ringsOf 0 = .ok (.iconst 0, 1) := by decide +kernel
theorem dX12_ringsOf_1 : decode cX12_ringsOf 1 = .ok (.istore_n 2, 1) := by decide +kernel
theorem dX12_ringsOf_2 : decode cX12_ringsOf 2 = .ok (.iconst 0, 1) := by decide +kernel
theorem dX12_ringsOf_3 : decode cX12_ringsOf 3 = .ok (.istore_n 3, 1) := by decide +kernel
theorem dX12_ringsOf_4 : decode cX12_ringsOf 4 = .ok (.iload_n 3, 1) := by decide +kernel
theorem dX12_ringsOf_5 : decode cX12_ringsOf 5 = .ok (.aload_n 0, 1) := by decide +kernel
theorem dX12_ringsOf_6 : decode cX12_ringsOf 6 = .ok (.getfield 89, 3) := by decide +kernel
theorem dX12_ringsOf_9 : decode cX12_ringsOf 9 = .ok (.if_icmp .ge 53, 3) := by decide +kernel
theorem dX12_ringsOf_12 : decode cX12_ringsOf 12 = .ok (.iconst 0, 1) := by decide +kernel
theorem dX12_ringsOf_13 : decode cX12_ringsOf 13 = .ok (.istore 4, 2) := by decide +kernel
theorem dX12_ringsOf_15 : decode cX12_ringsOf 15 = .ok (.iload 4, 2) := by decide +kernel
theorem dX12_ringsOf_17 : decode cX12_ringsOf 17 = .ok (.aload_n 0, 1) := by decide +kernel
theorem dX12_ringsOf_18 : decode cX12_ringsOf 18 = .ok (.getfield 31, 3) := by decide +kernel
theorem dX12_ringsOf_21 : decode cX12_ringsOf 21 = .ok (.iload_n 3, 1) := by decide +kernel
theorem dX12_ringsOf_22 : decode cX12_ringsOf 22 = .ok (.iaload, 1) := by decide +kernel
theorem dX12_ringsOf_23 : decode cX12_ringsOf 23 = .ok (.if_icmp .ge 33, 3) := by decide +kernel
theorem dX12_ringsOf_26 : decode cX12_ringsOf 26 = .ok (.iload_n 2, 1) := by decide +kernel
theorem dX12_ringsOf_27 : decode cX12_ringsOf 27 = .ok (.aload_n 0, 1) := by decide +kernel
theorem dX12_ringsOf_28 : decode cX12_ringsOf 28 = .ok (.getfield 34, 3) := by decide +kernel
theorem dX12_ringsOf_31 : decode cX12_ringsOf 31 = .ok (.bipush 8, 2) := by decide +kernel
theorem dX12_ringsOf_33 : decode cX12_ringsOf 33 = .ok (.iload_n 3, 1) := by decide +kernel
theorem dX12_ringsOf_34 : decode cX12_ringsOf 34 = .ok (.imul, 1) := by decide +kernel
theorem dX12_ringsOf_35 : decode cX12_ringsOf 35 = .ok (.iload 4, 2) := by decide +kernel
theorem dX12_ringsOf_37 : decode cX12_ringsOf 37 = .ok (.iadd, 1) := by decide +kernel
theorem dX12_ringsOf_38 : decode cX12_ringsOf 38 = .ok (.iaload, 1) := by decide +kernel
theorem dX12_ringsOf_39 : decode cX12_ringsOf 39 = .ok (.iload_n 1, 1) := by decide +kernel
theorem dX12_ringsOf_40 : decode cX12_ringsOf 40 = .ok (.if_icmp .ne 7, 3) := by decide +kernel
theorem dX12_ringsOf_43 : decode cX12_ringsOf 43 = .ok (.iconst 1, 1) := by decide +kernel
theorem dX12_ringsOf_44 : decode cX12_ringsOf 44 = .ok (.goto 4, 3) := by decide +kernel
theorem dX12_ringsOf_47 : decode cX12_ringsOf 47 = .ok (.iconst 0, 1) := by decide +kernel
theorem dX12_ringsOf_48 : decode cX12_ringsOf 48 = .ok (.iadd, 1) := by decide +kernel
theorem dX12_ringsOf_49 : decode cX12_ringsOf 49 = .ok (.istore_n 2, 1) := by decide +kernel
theorem dX12_ringsOf_50 : decode cX12_ringsOf 50 = .ok (.iinc 4 1, 3) := by decide +kernel
theorem dX12_ringsOf_53 : decode cX12_ringsOf 53 = .ok (.goto (-38), 3) := by decide +kernel
theorem dX12_ringsOf_56 : decode cX12_ringsOf 56 = .ok (.iinc 3 1, 3) := by decide +kernel
theorem dX12_ringsOf_59 : decode cX12_ringsOf 59 = .ok (.goto (-55), 3) := by decide +kernel
theorem dX12_ringsOf_62 : decode cX12_ringsOf 62 = .ok (.iload_n 2, 1) := by decide +kernel
theorem dX12_ringsOf_63 : decode cX12_ringsOf 63 = .ok (.ireturn, 1) := by decide +kernel
theorem dX12_ofThrower_0 : decode cX12_ofThrower 0 = .ok (.aload_n 0, 1) := by decide +kernel
theorem dX12_ofThrower_1 : decode cX12_ofThrower 1 = .ok (.iload_n 1, 1) := by decide +kernel
theorem dX12_ofThrower_2 : decode cX12_ofThrower 2 = .ok (.invokevirtual 170, 3) := by decide +kernel
theorem dX12_ofThrower_5 : decode cX12_ofThrower 5 = .ok (.ifCond .ne 5, 3) := by decide +kernel
theorem dX12_ofThrower_8 : decode cX12_ofThrower 8 = .ok (.iconst (-1), 1) := by decide +kernel
theorem dX12_ofThrower_9 : decode cX12_ofThrower 9 = .ok (.ireturn, 1) := by decide +kernel
theorem dX12_ofThrower_10 : decode cX12_ofThrower 10 = .ok (.iload_n 2, 1) := by decide +kernel
theorem dX12_ofThrower_11 : decode cX12_ofThrower 11 = .ok (.tableswitch 65 0 4 #[33, 40, 47, 53, 59], 33) := by decide +kernel
theorem dX12_ofThrower_44 : decode cX12_ofThrower 44 = .ok (.aload_n 0, 1) := by decide +kernel
theorem dX12_ofThrower_45 : decode cX12_ofThrower 45 = .ok (.getfield 25, 3) := by decide +kernel
theorem dX12_ofThrower_48 : decode cX12_ofThrower 48 = .ok (.iload_n 1, 1) := by decide +kernel
theorem dX12_ofThrower_49 : decode cX12_ofThrower 49 = .ok (.iaload, 1) := by decide +kernel
theorem dX12_ofThrower_50 : decode cX12_ofThrower 50 = .ok (.ireturn, 1) := by decide +kernel
theorem dX12_ofThrower_51 : decode cX12_ofThrower 51 = .ok (.aload_n 0, 1) := by decide +kernel
theorem dX12_ofThrower_52 : decode cX12_ofThrower 52 = .ok (.getfield 28, 3) := by decide +kernel
theorem dX12_ofThrower_55 : decode cX12_ofThrower 55 = .ok (.iload_n 1, 1) := by decide +kernel
theorem dX12_ofThrower_56 : decode cX12_ofThrower 56 = .ok (.iaload, 1) := by decide +kernel
theorem dX12_ofThrower_57 : decode cX12_ofThrower 57 = .ok (.ireturn, 1) := by decide +kernel
theorem dX12_ofThrower_58 : decode cX12_ofThrower 58 = .ok (.aload_n 0, 1) := by decide +kernel
theorem dX12_ofThrower_59 : decode cX12_ofThrower 59 = .ok (.iload_n 1, 1) := by decide +kernel
theorem dX12_ofThrower_60 : decode cX12_ofThrower 60 = .ok (.invokevirtual 151, 3) := by decide +kernel
theorem dX12_ofThrower_63 : decode cX12_ofThrower 63 = .ok (.ireturn, 1) := by decide +kernel
theorem dX12_ofThrower_64 : decode cX12_ofThrower 64 = .ok (.aload_n 0, 1) := by decide +kernel
theorem dX12_ofThrower_65 : decode cX12_ofThrower 65 = .ok (.iload_n 1, 1) := by decide +kernel
theorem dX12_ofThrower_66 : decode cX12_ofThrower 66 = .ok (.invokevirtual 173, 3) := by decide +kernel
theorem dX12_ofThrower_69 : decode cX12_ofThrower 69 = .ok (.ireturn, 1) := by decide +kernel
theorem dX12_ofThrower_70 : decode cX12_ofThrower 70 = .ok (.aload_n 0, 1) := by decide +kernel
theorem dX12_ofThrower_71 : decode cX12_ofThrower 71 = .ok (.iload_n 1, 1) := by decide +kernel
theorem dX12_ofThrower_72 : decode cX12_ofThrower 72 = .ok (.invokevirtual 176, 3) := by decide +kernel
theorem dX12_ofThrower_75 : decode cX12_ofThrower 75 = .ok (.ireturn, 1) := by decide +kernel
theorem dX12_ofThrower_76 : decode cX12_ofThrower 76 = .ok (.bipush (-2), 2) := by decide +kernel
theorem dX12_ofThrower_78 : decode cX12_ofThrower 78 = .ok (.ireturn, 1) := by decide +kernel
theorem dX12_freeze_0 : decode cX12_freeze 0 = .ok (.iload_n 1, 1) := by decide +kernel
theorem dX12_freeze_1 : decode cX12_freeze 1 = .ok (.iconst 0, 1) := by decide +kernel
theorem dX12_freeze_2 : decode cX12_freeze 2 = .ok (.iconst 3, 1) := by decide +kernel
theorem dX12_freeze_3 : decode cX12_freeze 3 = .ok (.invokestatic 85, 3) := by decide +kernel
theorem dX12_freeze_6 : decode cX12_freeze 6 = .ok (.ifCond .ne 6, 3) := by decide +kernel
theorem dX12_freeze_9 : decode cX12_freeze 9 = .ok (.bipush (-2), 2) := by decide +kernel
theorem dX12_freeze_11 : decode cX12_freeze 11 = .ok (.ireturn, 1) := by decide +kernel
theorem dX12_freeze_12 : decode cX12_freeze 12 = .ok (.aload_n 0, 1) := by decide +kernel
theorem dX12_freeze_13 : decode cX12_freeze 13 = .ok (.getfield 89, 3) := by decide +kernel
theorem dX12_freeze_16 : decode cX12_freeze 16 = .ok (.ifCond .ne 6, 3) := by decide +kernel
theorem dX12_freeze_19 : decode cX12_freeze 19 = .ok (.bipush (-3), 2) := by decide +kernel
theorem dX12_freeze_21 : decode cX12_freeze 21 = .ok (.ireturn, 1) := by decide +kernel
theorem dX12_freeze_22 : decode cX12_freeze 22 = .ok (.aload_n 0, 1) := by decide +kernel
theorem dX12_freeze_23 : decode cX12_freeze 23 = .ok (.getfield 126, 3) := by decide +kernel
theorem dX12_freeze_26 : decode cX12_freeze 26 = .ok (.istore_n 2, 1) := by decide +kernel
theorem dX12_freeze_27 : decode cX12_freeze 27 = .ok (.aload_n 0, 1) := by decide +kernel
theorem dX12_freeze_28 : decode cX12_freeze 28 = .ok (.iload_n 1, 1) := by decide +kernel
theorem dX12_freeze_29 : decode cX12_freeze 29 = .ok (.putfield 126, 3) := by decide +kernel
theorem dX12_freeze_32 : decode cX12_freeze 32 = .ok (.iload_n 2, 1) := by decide +kernel
theorem dX12_freeze_33 : decode cX12_freeze 33 = .ok (.ireturn, 1) := by decide +kernel
theorem dX12_lean_0 : decode cX12_lean 0 = .ok (.aload_n 0, 1) := by decide +kernel
theorem dX12_lean_1 : decode cX12_lean 1 = .ok (.iload_n 1, 1) := by decide +kernel
theorem dX12_lean_2 : decode cX12_lean 2 = .ok (.invokevirtual 161, 3) := by decide +kernel
theorem dX12_lean_5 : decode cX12_lean 5 = .ok (.ifCond .ne 5, 3) := by decide +kernel
theorem dX12_lean_8 : decode cX12_lean 8 = .ok (.iconst (-1), 1) := by decide +kernel
theorem dX12_lean_9 : decode cX12_lean 9 = .ok (.ireturn, 1) := by decide +kernel
theorem dX12_lean_10 : decode cX12_lean 10 = .ok (.iload_n 2, 1) := by decide +kernel
theorem dX12_lean_11 : decode cX12_lean 11 = .ok (.iconst 0, 1) := by decide +kernel
theorem dX12_lean_12 : decode cX12_lean 12 = .ok (.bipush 9, 2) := by decide +kernel
theorem dX12_lean_14 : decode cX12_lean 14 = .ok (.invokestatic 85, 3) := by decide +kernel
theorem dX12_lean_17 : decode cX12_lean 17 = .ok (.ifCond .ne 6, 3) := by decide +kernel
theorem dX12_lean_20 : decode cX12_lean 20 = .ok (.bipush (-2), 2) := by decide +kernel
theorem dX12_lean_22 : decode cX12_lean 22 = .ok (.ireturn, 1) := by decide +kernel
theorem dX12_lean_23 : decode cX12_lean 23 = .ok (.aload_n 0, 1) := by decide +kernel
theorem dX12_lean_24 : decode cX12_lean 24 = .ok (.getfield 22, 3) := by decide +kernel
theorem dX12_lean_27 : decode cX12_lean 27 = .ok (.iload_n 1, 1) := by decide +kernel
theorem dX12_lean_28 : decode cX12_lean 28 = .ok (.iaload, 1) := by decide +kernel
theorem dX12_lean_29 : decode cX12_lean 29 = .ok (.istore_n 3, 1) := by decide +kernel
theorem dX12_lean_30 : decode cX12_lean 30 = .ok (.aload_n 0, 1) := by decide +kernel
theorem dX12_lean_31 : decode cX12_lean 31 = .ok (.getfield 22, 3) := by decide +kernel
theorem dX12_lean_34 : decode cX12_lean 34 = .ok (.iload_n 1, 1) := by decide +kernel
theorem dX12_lean_35 : decode cX12_lean 35 = .ok (.iload_n 2, 1) := by decide +kernel
theorem dX12_lean_36 : decode cX12_lean 36 = .ok (.iastore, 1) := by decide +kernel
theorem dX12_lean_37 : decode cX12_lean 37 = .ok (.iload_n 3, 1) := by decide +kernel
theorem dX12_lean_38 : decode cX12_lean 38 = .ok (.ireturn, 1) := by decide +kernel
theorem dX12_place_0 : decode cX12_place 0 = .ok (.aload_n 0, 1) := by decide +kernel
theorem dX12_place_1 : decode cX12_place 1 = .ok (.iload_n 1, 1) := by decide +kernel
theorem dX12_place_2 : decode cX12_place 2 = .ok (.invokevirtual 161, 3) := by decide +kernel
theorem dX12_place_5 : decode cX12_place 5 = .ok (.ifCond .ne 5, 3) := by decide +kernel
theorem dX12_place_8 : decode cX12_place 8 = .ok (.iconst (-1), 1) := by decide +kernel
theorem dX12_place_9 : decode cX12_place 9 = .ok (.ireturn, 1) := by decide +kernel
theorem dX12_place_10 : decode cX12_place 10 = .ok (.iload_n 2, 1) := by decide +kernel
theorem dX12_place_11 : decode cX12_place 11 = .ok (.iconst 1, 1) := by decide +kernel
theorem dX12_place_12 : decode cX12_place 12 = .ok (.bipush 9, 2) := by decide +kernel
theorem dX12_place_14 : decode cX12_place 14 = .ok (.invokestatic 85, 3) := by decide +kernel
theorem dX12_place_17 : decode cX12_place 17 = .ok (.ifCond .ne 6, 3) := by decide +kernel
theorem dX12_place_20 : decode cX12_place 20 = .ok (.bipush (-2), 2) := by decide +kernel
theorem dX12_place_22 : decode cX12_place 22 = .ok (.ireturn, 1) := by decide +kernel
theorem dX12_place_23 : decode cX12_place 23 = .ok (.aload_n 0, 1) := by decide +kernel
theorem dX12_place_24 : decode cX12_place 24 = .ok (.getfield 19, 3) := by decide +kernel
theorem dX12_place_27 : decode cX12_place 27 = .ok (.iload_n 1, 1) := by decide +kernel
theorem dX12_place_28 : decode cX12_place 28 = .ok (.iaload, 1) := by decide +kernel
theorem dX12_place_29 : decode cX12_place 29 = .ok (.istore_n 3, 1) := by decide +kernel
theorem dX12_place_30 : decode cX12_place 30 = .ok (.aload_n 0, 1) := by decide +kernel
theorem dX12_place_31 : decode cX12_place 31 = .ok (.getfield 19, 3) := by decide +kernel
theorem dX12_place_34 : decode cX12_place 34 = .ok (.iload_n 1, 1) := by decide +kernel
theorem dX12_place_35 : decode cX12_place 35 = .ok (.iload_n 2, 1) := by decide +kernel
theorem dX12_place_36 : decode cX12_place 36 = .ok (.iastore, 1) := by decide +kernel
theorem dX12_place_37 : decode cX12_place 37 = .ok (.iload_n 3, 1) := by decide +kernel
theorem dX12_place_38 : decode cX12_place 38 = .ok (.ireturn, 1) := by decide +kernel
theorem dX12_train_0 : decode cX12_train 0 = .ok (.aload_n 0, 1) := by decide +kernel
theorem dX12_train_1 : decode cX12_train 1 = .ok (.iload_n 1, 1) := by decide +kernel
theorem dX12_train_2 : decode cX12_train 2 = .ok (.invokevirtual 170, 3) := by decide +kernel
theorem dX12_train_5 : decode cX12_train 5 = .ok (.ifCond .ne 5, 3) := by decide +kernel
theorem dX12_train_8 : decode cX12_train 8 = .ok (.iconst (-1), 1) := by decide +kernel
theorem dX12_train_9 : decode cX12_train 9 = .ok (.ireturn, 1) := by decide +kernel
theorem dX12_train_10 : decode cX12_train 10 = .ok (.iload_n 2, 1) := by decide +kernel
theorem dX12_train_11 : decode cX12_train 11 = .ok (.iconst 1, 1) := by decide +kernel
theorem dX12_train_12 : decode cX12_train 12 = .ok (.bipush 9, 2) := by decide +kernel
theorem dX12_train_14 : decode cX12_train 14 = .ok (.invokestatic 85, 3) := by decide +kernel
theorem dX12_train_17 : decode cX12_train 17 = .ok (.ifCond .ne 6, 3) := by decide +kernel
theorem dX12_train_20 : decode cX12_train 20 = .ok (.bipush (-2), 2) := by decide +kernel
theorem dX12_train_22 : decode cX12_train 22 = .ok (.ireturn, 1) := by decide +kernel
theorem dX12_train_23 : decode cX12_train 23 = .ok (.aload_n 0, 1) := by decide +kernel
theorem dX12_train_24 : decode cX12_train 24 = .ok (.getfield 28, 3) := by decide +kernel
theorem dX12_train_27 : decode cX12_train 27 = .ok (.iload_n 1, 1) := by decide +kernel
theorem dX12_train_28 : decode cX12_train 28 = .ok (.iaload, 1) := by decide +kernel
theorem dX12_train_29 : decode cX12_train 29 = .ok (.istore_n 3, 1) := by decide +kernel
theorem dX12_train_30 : decode cX12_train 30 = .ok (.aload_n 0, 1) := by decide +kernel
theorem dX12_train_31 : decode cX12_train 31 = .ok (.getfield 28, 3) := by decide +kernel
theorem dX12_train_34 : decode cX12_train 34 = .ok (.iload_n 1, 1) := by decide +kernel
theorem dX12_train_35 : decode cX12_train 35 = .ok (.iload_n 2, 1) := by decide +kernel
theorem dX12_train_36 : decode cX12_train 36 = .ok (.iastore, 1) := by decide +kernel
theorem dX12_train_37 : decode cX12_train 37 = .ok (.iload_n 3, 1) := by decide +kernel
theorem dX12_train_38 : decode cX12_train 38 = .ok (.ireturn, 1) := by decide +kernel
theorem dX12_measure_0 : decode cX12_measure 0 = .ok (.aload_n 0, 1) := by decide +kernel
theorem dX12_measure_1 : decode cX12_measure 1 = .ok (.iload_n 1, 1) := by decide +kernel
theorem dX12_measure_2 : decode cX12_measure 2 = .ok (.invokevirtual 170, 3) := by decide +kernel
theorem dX12_measure_5 : decode cX12_measure 5 = .ok (.ifCond .eq 20, 3) := by decide +kernel
theorem dX12_measure_8 : decode cX12_measure 8 = .ok (.aload_n 0, 1) := by decide +kernel
theorem dX12_measure_9 : decode cX12_measure 9 = .ok (.iload_n 2, 1) := by decide +kernel
theorem dX12_measure_10 : decode cX12_measure 10 = .ok (.invokevirtual 161, 3) := by decide +kernel
theorem dX12_measure_13 : decode cX12_measure 13 = .ok (.ifCond .eq 12, 3) := by decide +kernel
theorem dX12_measure_16 : decode cX12_measure 16 = .ok (.aload_n 0, 1) := by decide +kernel
theorem dX12_measure_17 : decode cX12_measure 17 = .ok (.iload_n 1, 1) := by decide +kernel
theorem dX12_measure_18 : decode cX12_measure 18 = .ok (.iload_n 2, 1) := by decide +kernel
theorem dX12_measure_19 : decode cX12_measure 19 = .ok (.invokevirtual 179, 3) := by decide +kernel
theorem dX12_measure_22 : decode cX12_measure 22 = .ok (.goto 4, 3) := by decide +kernel
theorem dX12_measure_25 : decode cX12_measure 25 = .ok (.iconst (-1), 1) := by decide +kernel
theorem dX12_measure_26 : decode cX12_measure 26 = .ok (.ireturn, 1) := by decide +kernel
theorem dX12_layOn_0 : decode cX12_layOn 0 = .ok (.aload_n 0, 1) := by decide +kernel
theorem dX12_layOn_1 : decode cX12_layOn 1 = .ok (.getfield 34, 3) := by decide +kernel
theorem dX12_layOn_4 : decode cX12_layOn 4 = .ok (.bipush 8, 2) := by decide +kernel
theorem dX12_layOn_6 : decode cX12_layOn 6 = .ok (.iload_n 2, 1) := by decide +kernel
theorem dX12_layOn_7 : decode cX12_layOn 7 = .ok (.imul, 1) := by decide +kernel
theorem dX12_layOn_8 : decode cX12_layOn 8 = .ok (.aload_n 0, 1) := by decide +kernel
theorem dX12_layOn_9 : decode cX12_layOn 9 = .ok (.getfield 31, 3) := by decide +kernel
theorem dX12_layOn_12 : decode cX12_layOn 12 = .ok (.iload_n 2, 1) := by decide +kernel
theorem dX12_layOn_13 : decode cX12_layOn 13 = .ok (.iaload, 1) := by decide +kernel
theorem dX12_layOn_14 : decode cX12_layOn 14 = .ok (.iadd, 1) := by decide +kernel
theorem dX12_layOn_15 : decode cX12_layOn 15 = .ok (.iload_n 1, 1) := by decide +kernel
theorem dX12_layOn_16 : decode cX12_layOn 16 = .ok (.iastore, 1) := by decide +kernel
theorem dX12_layOn_17 : decode cX12_layOn 17 = .ok (.aload_n 0, 1) := by decide +kernel
theorem dX12_layOn_18 : decode cX12_layOn 18 = .ok (.getfield 37, 3) := by decide +kernel
theorem dX12_layOn_21 : decode cX12_layOn 21 = .ok (.bipush 8, 2) := by decide +kernel
theorem dX12_layOn_23 : decode cX12_layOn 23 = .ok (.iload_n 2, 1) := by decide +kernel
theorem dX12_layOn_24 : decode cX12_layOn 24 = .ok (.imul, 1) := by decide +kernel
theorem dX12_layOn_25 : decode cX12_layOn 25 = .ok (.aload_n 0, 1) := by decide +kernel
theorem dX12_layOn_26 : decode cX12_layOn 26 = .ok (.getfield 31, 3) := by decide +kernel
theorem dX12_layOn_29 : decode cX12_layOn 29 = .ok (.iload_n 2, 1) := by decide +kernel
theorem dX12_layOn_30 : decode cX12_layOn 30 = .ok (.iaload, 1) := by decide +kernel
theorem dX12_layOn_31 : decode cX12_layOn 31 = .ok (.iadd, 1) := by decide +kernel
theorem dX12_layOn_32 : decode cX12_layOn 32 = .ok (.iload_n 3, 1) := by decide +kernel
theorem dX12_layOn_33 : decode cX12_layOn 33 = .ok (.iastore, 1) := by decide +kernel
theorem dX12_layOn_34 : decode cX12_layOn 34 = .ok (.aload_n 0, 1) := by decide +kernel
theorem dX12_layOn_35 : decode cX12_layOn 35 = .ok (.getfield 31, 3) := by decide +kernel
theorem dX12_layOn_38 : decode cX12_layOn 38 = .ok (.iload_n 2, 1) := by decide +kernel
theorem dX12_layOn_39 : decode cX12_layOn 39 = .ok (.dup2, 1) := by decide +kernel
theorem dX12_layOn_40 : decode cX12_layOn 40 = .ok (.iaload, 1) := by decide +kernel
theorem dX12_layOn_41 : decode cX12_layOn 41 = .ok (.iconst 1, 1) := by decide +kernel
theorem dX12_layOn_42 : decode cX12_layOn 42 = .ok (.iadd, 1) := by decide +kernel
theorem dX12_layOn_43 : decode cX12_layOn 43 = .ok (.iastore, 1) := by decide +kernel
theorem dX12_layOn_44 : decode cX12_layOn 44 = .ok (.return_, 1) := by decide +kernel
theorem dX12_hurl_0 : decode cX12_hurl 0 = .ok (.aload_n 0, 1) := by decide +kernel
theorem dX12_hurl_1 : decode cX12_hurl 1 = .ok (.iload_n 1, 1) := by decide +kernel
theorem dX12_hurl_2 : decode cX12_hurl 2 = .ok (.invokevirtual 170, 3) := by decide +kernel
theorem dX12_hurl_5 : decode cX12_hurl 5 = .ok (.ifCond .eq 11, 3) := by decide +kernel
theorem dX12_hurl_8 : decode cX12_hurl 8 = .ok (.aload_n 0, 1) := by decide +kernel
theorem dX12_hurl_9 : decode cX12_hurl 9 = .ok (.iload_n 2, 1) := by decide +kernel
theorem dX12_hurl_10 : decode cX12_hurl 10 = .ok (.invokevirtual 161, 3) := by decide +kernel
theorem dX12_hurl_13 : decode cX12_hurl 13 = .ok (.ifCond .ne 5, 3) := by decide +kernel
theorem dX12_hurl_16 : decode cX12_hurl 16 = .ok (.iconst (-1), 1) := by decide +kernel
theorem dX12_hurl_17 : decode cX12_hurl 17 = .ok (.ireturn, 1) := by decide +kernel
theorem dX12_hurl_18 : decode cX12_hurl 18 = .ok (.aload_n 0, 1) := by decide +kernel
theorem dX12_hurl_19 : decode cX12_hurl 19 = .ok (.getfield 31, 3) := by decide +kernel
theorem dX12_hurl_22 : decode cX12_hurl 22 = .ok (.iload_n 2, 1) := by decide +kernel
theorem dX12_hurl_23 : decode cX12_hurl 23 = .ok (.iaload, 1) := by decide +kernel
theorem dX12_hurl_24 : decode cX12_hurl 24 = .ok (.bipush 8, 2) := by decide +kernel
theorem dX12_hurl_26 : decode cX12_hurl 26 = .ok (.if_icmp .ne 6, 3) := by decide +kernel
theorem dX12_hurl_29 : decode cX12_hurl 29 = .ok (.bipush (-4), 2) := by decide +kernel
theorem dX12_hurl_31 : decode cX12_hurl 31 = .ok (.ireturn, 1) := by decide +kernel
theorem dX12_hurl_32 : decode cX12_hurl 32 = .ok (.aload_n 0, 1) := by decide +kernel
theorem dX12_hurl_33 : decode cX12_hurl 33 = .ok (.iload_n 1, 1) := by decide +kernel
theorem dX12_hurl_34 : decode cX12_hurl 34 = .ok (.iload_n 2, 1) := by decide +kernel
theorem dX12_hurl_35 : decode cX12_hurl 35 = .ok (.invokevirtual 179, 3) := by decide +kernel
theorem dX12_hurl_38 : decode cX12_hurl 38 = .ok (.istore_n 3, 1) := by decide +kernel
theorem dX12_hurl_39 : decode cX12_hurl 39 = .ok (.aload_n 0, 1) := by decide +kernel
theorem dX12_hurl_40 : decode cX12_hurl 40 = .ok (.iload_n 1, 1) := by decide +kernel
theorem dX12_hurl_41 : decode cX12_hurl 41 = .ok (.iload_n 2, 1) := by decide +kernel
theorem dX12_hurl_42 : decode cX12_hurl 42 = .ok (.iload_n 3, 1) := by decide +kernel
theorem dX12_hurl_43 : decode cX12_hurl 43 = .ok (.invokevirtual 182, 3) := by decide +kernel
theorem dX12_hurl_46 : decode cX12_hurl 46 = .ok (.iload_n 3, 1) := by decide +kernel
theorem dX12_hurl_47 : decode cX12_hurl 47 = .ok (.ireturn, 1) := by decide +kernel
theorem dX12_lift_0 : decode cX12_lift 0 = .ok (.aload_n 0, 1) := by decide +kernel
theorem dX12_lift_1 : decode cX12_lift 1 = .ok (.iload_n 1, 1) := by decide +kernel
theorem dX12_lift_2 : decode cX12_lift 2 = .ok (.invokevirtual 161, 3) := by decide +kernel
theorem dX12_lift_5 : decode cX12_lift 5 = .ok (.ifCond .ne 5, 3) := by decide +kernel
theorem dX12_lift_8 : decode cX12_lift 8 = .ok (.iconst (-1), 1) := by decide +kernel
theorem dX12_lift_9 : decode cX12_lift 9 = .ok (.ireturn, 1) := by decide +kernel
theorem dX12_lift_10 : decode cX12_lift 10 = .ok (.aload_n 0, 1) := by decide +kernel
theorem dX12_lift_11 : decode cX12_lift 11 = .ok (.getfield 31, 3) := by decide +kernel
theorem dX12_lift_14 : decode cX12_lift 14 = .ok (.iload_n 1, 1) := by decide +kernel
theorem dX12_lift_15 : decode cX12_lift 15 = .ok (.iaload, 1) := by decide +kernel
theorem dX12_lift_16 : decode cX12_lift 16 = .ok (.ifCond .ne 6, 3) := by decide +kernel
theorem dX12_lift_19 : decode cX12_lift 19 = .ok (.bipush (-3), 2) := by decide +kernel
theorem dX12_lift_21 : decode cX12_lift 21 = .ok (.ireturn, 1) := by decide +kernel
theorem dX12_lift_22 : decode cX12_lift 22 = .ok (.aload_n 0, 1) := by decide +kernel
theorem dX12_lift_23 : decode cX12_lift 23 = .ok (.getfield 31, 3) := by decide +kernel
theorem dX12_lift_26 : decode cX12_lift 26 = .ok (.iload_n 1, 1) := by decide +kernel
theorem dX12_lift_27 : decode cX12_lift 27 = .ok (.dup2, 1) := by decide +kernel
theorem dX12_lift_28 : decode cX12_lift 28 = .ok (.iaload, 1) := by decide +kernel
theorem dX12_lift_29 : decode cX12_lift 29 = .ok (.iconst 1, 1) := by decide +kernel
theorem dX12_lift_30 : decode cX12_lift 30 = .ok (.isub, 1) := by decide +kernel
theorem dX12_lift_31 : decode cX12_lift 31 = .ok (.iastore, 1) := by decide +kernel
theorem dX12_lift_32 : decode cX12_lift 32 = .ok (.aload_n 0, 1) := by decide +kernel
theorem dX12_lift_33 : decode cX12_lift 33 = .ok (.getfield 34, 3) := by decide +kernel
theorem dX12_lift_36 : decode cX12_lift 36 = .ok (.bipush 8, 2) := by decide +kernel
theorem dX12_lift_38 : decode cX12_lift 38 = .ok (.iload_n 1, 1) := by decide +kernel
theorem dX12_lift_39 : decode cX12_lift 39 = .ok (.imul, 1) := by decide +kernel
theorem dX12_lift_40 : decode cX12_lift 40 = .ok (.aload_n 0, 1) := by decide +kernel
theorem dX12_lift_41 : decode cX12_lift 41 = .ok (.getfield 31, 3) := by decide +kernel
theorem dX12_lift_44 : decode cX12_lift 44 = .ok (.iload_n 1, 1) := by decide +kernel
theorem dX12_lift_45 : decode cX12_lift 45 = .ok (.iaload, 1) := by decide +kernel
theorem dX12_lift_46 : decode cX12_lift 46 = .ok (.iadd, 1) := by decide +kernel
theorem dX12_lift_47 : decode cX12_lift 47 = .ok (.iaload, 1) := by decide +kernel
theorem dX12_lift_48 : decode cX12_lift 48 = .ok (.ireturn, 1) := by decide +kernel
theorem dX12_clear_0 : decode cX12_clear 0 = .ok (.aload_n 0, 1) := by decide +kernel
theorem dX12_clear_1 : decode cX12_clear 1 = .ok (.iload_n 1, 1) := by decide +kernel
theorem dX12_clear_2 : decode cX12_clear 2 = .ok (.invokevirtual 161, 3) := by decide +kernel
theorem dX12_clear_5 : decode cX12_clear 5 = .ok (.ifCond .ne 5, 3) := by decide +kernel
theorem dX12_clear_8 : decode cX12_clear 8 = .ok (.iconst (-1), 1) := by decide +kernel
theorem dX12_clear_9 : decode cX12_clear 9 = .ok (.ireturn, 1) := by decide +kernel
theorem dX12_clear_10 : decode cX12_clear 10 = .ok (.aload_n 0, 1) := by decide +kernel
theorem dX12_clear_11 : decode cX12_clear 11 = .ok (.getfield 31, 3) := by decide +kernel
theorem dX12_clear_14 : decode cX12_clear 14 = .ok (.iload_n 1, 1) := by decide +kernel
theorem dX12_clear_15 : decode cX12_clear 15 = .ok (.iaload, 1) := by decide +kernel
theorem dX12_clear_16 : decode cX12_clear 16 = .ok (.istore_n 2, 1) := by decide +kernel
theorem dX12_clear_17 : decode cX12_clear 17 = .ok (.aload_n 0, 1) := by decide +kernel
theorem dX12_clear_18 : decode cX12_clear 18 = .ok (.getfield 31, 3) := by decide +kernel
theorem dX12_clear_21 : decode cX12_clear 21 = .ok (.iload_n 1, 1) := by decide +kernel
theorem dX12_clear_22 : decode cX12_clear 22 = .ok (.iconst 0, 1) := by decide +kernel
theorem dX12_clear_23 : decode cX12_clear 23 = .ok (.iastore, 1) := by decide +kernel
theorem dX12_clear_24 : decode cX12_clear 24 = .ok (.iload_n 2, 1) := by decide +kernel
theorem dX12_clear_25 : decode cX12_clear 25 = .ok (.ireturn, 1) := by decide +kernel
theorem dX12_keep_0 : decode cX12_keep 0 = .ok (.aload_n 0, 1) := by decide +kernel
theorem dX12_keep_1 : decode cX12_keep 1 = .ok (.aload_n 0, 1) := by decide +kernel
theorem dX12_keep_2 : decode cX12_keep 2 = .ok (.getfield 126, 3) := by decide +kernel
theorem dX12_keep_5 : decode cX12_keep 5 = .ok (.putfield 186, 3) := by decide +kernel
theorem dX12_keep_8 : decode cX12_keep 8 = .ok (.iconst 0, 1) := by decide +kernel
theorem dX12_keep_9 : decode cX12_keep 9 = .ok (.istore_n 1, 1) := by decide +kernel
theorem dX12_keep_10 : decode cX12_keep 10 = .ok (.iload_n 1, 1) := by decide +kernel
theorem dX12_keep_11 : decode cX12_keep 11 = .ok (.aload_n 0, 1) := by decide +kernel
theorem dX12_keep_12 : decode cX12_keep 12 = .ok (.getfield 89, 3) := by decide +kernel
theorem dX12_keep_15 : decode cX12_keep 15 = .ok (.if_icmp .ge 21, 3) := by decide +kernel
theorem dX12_keep_18 : decode cX12_keep 18 = .ok (.aload_n 0, 1) := by decide +kernel
theorem dX12_keep_19 : decode cX12_keep 19 = .ok (.getfield 46, 3) := by decide +kernel
theorem dX12_keep_22 : decode cX12_keep 22 = .ok (.iload_n 1, 1) := by decide +kernel
theorem dX12_keep_23 : decode cX12_keep 23 = .ok (.aload_n 0, 1) := by decide +kernel
theorem dX12_keep_24 : decode cX12_keep 24 = .ok (.getfield 31, 3) := by decide +kernel
theorem dX12_keep_27 : decode cX12_keep 27 = .ok (.iload_n 1, 1) := by decide +kernel
theorem dX12_keep_28 : decode cX12_keep 28 = .ok (.iaload, 1) := by decide +kernel
theorem dX12_keep_29 : decode cX12_keep 29 = .ok (.iastore, 1) := by decide +kernel
theorem dX12_keep_30 : decode cX12_keep 30 = .ok (.iinc 1 1, 3) := by decide +kernel
theorem dX12_keep_33 : decode cX12_keep 33 = .ok (.goto (-23), 3) := by decide +kernel
theorem dX12_keep_36 : decode cX12_keep 36 = .ok (.iconst 0, 1) := by decide +kernel
theorem dX12_keep_37 : decode cX12_keep 37 = .ok (.istore_n 1, 1) := by decide +kernel
theorem dX12_keep_38 : decode cX12_keep 38 = .ok (.iload_n 1, 1) := by decide +kernel
theorem dX12_keep_39 : decode cX12_keep 39 = .ok (.bipush 32, 2) := by decide +kernel
theorem dX12_keep_41 : decode cX12_keep 41 = .ok (.if_icmp .ge 33, 3) := by decide +kernel
theorem dX12_keep_44 : decode cX12_keep 44 = .ok (.aload_n 0, 1) := by decide +kernel
theorem dX12_keep_45 : decode cX12_keep 45 = .ok (.getfield 49, 3) := by decide +kernel
theorem dX12_keep_48 : decode cX12_keep 48 = .ok (.iload_n 1, 1) := by decide +kernel
theorem dX12_keep_49 : decode cX12_keep 49 = .ok (.aload_n 0, 1) := by decide +kernel
theorem dX12_keep_50 : decode cX12_keep 50 = .ok (.getfield 34, 3) := by decide +kernel
theorem dX12_keep_53 : decode cX12_keep 53 = .ok (.iload_n 1, 1) := by decide +kernel
theorem dX12_keep_54 : decode cX12_keep 54 = .ok (.iaload, 1) := by decide +kernel
theorem dX12_keep_55 : decode cX12_keep 55 = .ok (.iastore, 1) := by decide +kernel
theorem dX12_keep_56 : decode cX12_keep 56 = .ok (.aload_n 0, 1) := by decide +kernel
theorem dX12_keep_57 : decode cX12_keep 57 = .ok (.getfield 52, 3) := by decide +kernel
theorem dX12_keep_60 : decode cX12_keep 60 = .ok (.iload_n 1, 1) := by decide +kernel
theorem dX12_keep_61 : decode cX12_keep 61 = .ok (.aload_n 0, 1) := by decide +kernel
theorem dX12_keep_62 : decode cX12_keep 62 = .ok (.getfield 37, 3) := by decide +kernel
theorem dX12_keep_65 : decode cX12_keep 65 = .ok (.iload_n 1, 1) := by decide +kernel
theorem dX12_keep_66 : decode cX12_keep 66 = .ok (.iaload, 1) := by decide +kernel
theorem dX12_keep_67 : decode cX12_keep 67 = .ok (.iastore, 1) := by decide +kernel
theorem dX12_keep_68 : decode cX12_keep 68 = .ok (.iinc 1 1, 3) := by decide +kernel
theorem dX12_keep_71 : decode cX12_keep 71 = .ok (.goto (-33), 3) := by decide +kernel
theorem dX12_keep_74 : decode cX12_keep 74 = .ok (.return_, 1) := by decide +kernel
theorem dX12_putBack_0 : decode cX12_putBack 0 = .ok (.aload_n 0, 1) := by decide +kernel
theorem dX12_putBack_1 : decode cX12_putBack 1 = .ok (.aload_n 0, 1) := by decide +kernel
theorem dX12_putBack_2 : decode cX12_putBack 2 = .ok (.getfield 186, 3) := by decide +kernel
theorem dX12_putBack_5 : decode cX12_putBack 5 = .ok (.putfield 126, 3) := by decide +kernel
theorem dX12_putBack_8 : decode cX12_putBack 8 = .ok (.iconst 0, 1) := by decide +kernel
theorem dX12_putBack_9 : decode cX12_putBack 9 = .ok (.istore_n 1, 1) := by decide +kernel
theorem dX12_putBack_10 : decode cX12_putBack 10 = .ok (.iload_n 1, 1) := by decide +kernel
theorem dX12_putBack_11 : decode cX12_putBack 11 = .ok (.aload_n 0, 1) := by decide +kernel
theorem dX12_putBack_12 : decode cX12_putBack 12 = .ok (.getfield 89, 3) := by decide +kernel
theorem dX12_putBack_15 : decode cX12_putBack 15 = .ok (.if_icmp .ge 21, 3) := by decide +kernel
theorem dX12_putBack_18 : decode cX12_putBack 18 = .ok (.aload_n 0, 1) := by decide +kernel
theorem dX12_putBack_19 : decode cX12_putBack 19 = .ok (.getfield 31, 3) := by decide +kernel
theorem dX12_putBack_22 : decode cX12_putBack 22 = .ok (.iload_n 1, 1) := by decide +kernel
theorem dX12_putBack_23 : decode cX12_putBack 23 = .ok (.aload_n 0, 1) := by decide +kernel
theorem dX12_putBack_24 : decode cX12_putBack 24 = .ok (.getfield 46, 3) := by decide +kernel
theorem dX12_putBack_27 : decode cX12_putBack 27 = .ok (.iload_n 1, 1) := by decide +kernel
theorem dX12_putBack_28 : decode cX12_putBack 28 = .ok (.iaload, 1) := by decide +kernel
theorem dX12_putBack_29 : decode cX12_putBack 29 = .ok (.iastore, 1) := by decide +kernel
theorem dX12_putBack_30 : decode cX12_putBack 30 = .ok (.iinc 1 1, 3) := by decide +kernel
theorem dX12_putBack_33 : decode cX12_putBack 33 = .ok (.goto (-23), 3) := by decide +kernel
theorem dX12_putBack_36 : decode cX12_putBack 36 = .ok (.iconst 0, 1) := by decide +kernel
theorem dX12_putBack_37 : decode cX12_putBack 37 = .ok (.istore_n 1, 1) := by decide +kernel
theorem dX12_putBack_38 : decode cX12_putBack 38 = .ok (.iload_n 1, 1) := by decide +kernel
theorem dX12_putBack_39 : decode cX12_putBack 39 = .ok (.bipush 32, 2) := by decide +kernel
theorem dX12_putBack_41 : decode cX12_putBack 41 = .ok (.if_icmp .ge 33, 3) := by decide +kernel
theorem dX12_putBack_44 : decode cX12_putBack 44 = .ok (.aload_n 0, 1) := by decide +kernel
theorem dX12_putBack_45 : decode cX12_putBack 45 = .ok (.getfield 34, 3) := by decide +kernel
theorem dX12_putBack_48 : decode cX12_putBack 48 = .ok (.iload_n 1, 1) := by decide +kernel
theorem dX12_putBack_49 : decode cX12_putBack 49 = .ok (.aload_n 0, 1) := by decide +kernel
theorem dX12_putBack_50 : decode cX12_putBack 50 = .ok (.getfield 49, 3) := by decide +kernel
theorem dX12_putBack_53 : decode cX12_putBack 53 = .ok (.iload_n 1, 1) := by decide +kernel
theorem dX12_putBack_54 : decode cX12_putBack 54 = .ok (.iaload, 1) := by decide +kernel
theorem dX12_putBack_55 : decode cX12_putBack 55 = .ok (.iastore, 1) := by decide +kernel
theorem dX12_putBack_56 : decode cX12_putBack 56 = .ok (.aload_n 0, 1) := by decide +kernel
theorem dX12_putBack_57 : decode cX12_putBack 57 = .ok (.getfield 37, 3) := by decide +kernel
theorem dX12_putBack_60 : decode cX12_putBack 60 = .ok (.iload_n 1, 1) := by decide +kernel
theorem dX12_putBack_61 : decode cX12_putBack 61 = .ok (.aload_n 0, 1) := by decide +kernel
theorem dX12_putBack_62 : decode cX12_putBack 62 = .ok (.getfield 52, 3) := by decide +kernel
theorem dX12_putBack_65 : decode cX12_putBack 65 = .ok (.iload_n 1, 1) := by decide +kernel
theorem dX12_putBack_66 : decode cX12_putBack 66 = .ok (.iaload, 1) := by decide +kernel
theorem dX12_putBack_67 : decode cX12_putBack 67 = .ok (.iastore, 1) := by decide +kernel
theorem dX12_putBack_68 : decode cX12_putBack 68 = .ok (.iinc 1 1, 3) := by decide +kernel
theorem dX12_putBack_71 : decode cX12_putBack 71 = .ok (.goto (-33), 3) := by decide +kernel
theorem dX12_putBack_74 : decode cX12_putBack 74 = .ok (.return_, 1) := by decide +kernel
theorem dX12_does_0 : decode cX12_does 0 = .ok (.iload_n 2, 1) := by decide +kernel
theorem dX12_does_1 : decode cX12_does 1 = .ok (.bipush 10, 2) := by decide +kernel
theorem dX12_does_3 : decode cX12_does 3 = .ok (.if_icmp .ne 10, 3) := by decide +kernel
theorem dX12_does_6 : decode cX12_does 6 = .ok (.aload_n 0, 1) := by decide +kernel
theorem dX12_does_7 : decode cX12_does 7 = .ok (.iload_n 1, 1) := by decide +kernel
theorem dX12_does_8 : decode cX12_does 8 = .ok (.putfield 126, 3) := by decide +kernel
theorem dX12_does_11 : decode cX12_does 11 = .ok (.iconst 1, 1) := by decide +kernel
theorem dX12_does_12 : decode cX12_does 12 = .ok (.ireturn, 1) := by decide +kernel
theorem dX12_does_13 : decode cX12_does 13 = .ok (.iload_n 2, 1) := by decide +kernel
theorem dX12_does_14 : decode cX12_does 14 = .ok (.bipush 11, 2) := by decide +kernel
theorem dX12_does_16 : decode cX12_does 16 = .ok (.if_icmp .ne 7, 3) := by decide +kernel
theorem dX12_does_19 : decode cX12_does 19 = .ok (.iload_n 1, 1) := by decide +kernel
theorem dX12_does_20 : decode cX12_does 20 = .ok (.goto 4, 3) := by decide +kernel
theorem dX12_does_23 : decode cX12_does 23 = .ok (.iload_n 2, 1) := by decide +kernel
theorem dX12_does_24 : decode cX12_does 24 = .ok (.istore_n 3, 1) := by decide +kernel
theorem dX12_does_25 : decode cX12_does 25 = .ok (.aload_n 0, 1) := by decide +kernel
theorem dX12_does_26 : decode cX12_does 26 = .ok (.iload_n 3, 1) := by decide +kernel
theorem dX12_does_27 : decode cX12_does 27 = .ok (.invokevirtual 161, 3) := by decide +kernel
theorem dX12_does_30 : decode cX12_does 30 = .ok (.ifCond .eq 20, 3) := by decide +kernel
theorem dX12_does_33 : decode cX12_does 33 = .ok (.iload_n 2, 1) := by decide +kernel
theorem dX12_does_34 : decode cX12_does 34 = .ok (.bipush 11, 2) := by decide +kernel
theorem dX12_does_36 : decode cX12_does 36 = .ok (.if_icmp .eq 16, 3) := by decide +kernel
theorem dX12_does_39 : decode cX12_does 39 = .ok (.aload_n 0, 1) := by decide +kernel
theorem dX12_does_40 : decode cX12_does 40 = .ok (.getfield 31, 3) := by decide +kernel
theorem dX12_does_43 : decode cX12_does 43 = .ok (.iload_n 3, 1) := by decide +kernel
theorem dX12_does_44 : decode cX12_does 44 = .ok (.iaload, 1) := by decide +kernel
theorem dX12_does_45 : decode cX12_does 45 = .ok (.bipush 8, 2) := by decide +kernel
theorem dX12_does_47 : decode cX12_does 47 = .ok (.if_icmp .ne 5, 3) := by decide +kernel
theorem dX12_does_50 : decode cX12_does 50 = .ok (.iconst 0, 1) := by decide +kernel
theorem dX12_does_51 : decode cX12_does 51 = .ok (.ireturn, 1) := by decide +kernel
theorem dX12_does_52 : decode cX12_does 52 = .ok (.iload_n 2, 1) := by decide +kernel
theorem dX12_does_53 : decode cX12_does 53 = .ok (.bipush 11, 2) := by decide +kernel
theorem dX12_does_55 : decode cX12_does 55 = .ok (.if_icmp .ne 12, 3) := by decide +kernel
theorem dX12_does_58 : decode cX12_does 58 = .ok (.aload_n 0, 1) := by decide +kernel
theorem dX12_does_59 : decode cX12_does 59 = .ok (.getfield 31, 3) := by decide +kernel
theorem dX12_does_62 : decode cX12_does 62 = .ok (.iload_n 3, 1) := by decide +kernel
theorem dX12_does_63 : decode cX12_does 63 = .ok (.iconst 0, 1) := by decide +kernel
theorem dX12_does_64 : decode cX12_does 64 = .ok (.iastore, 1) := by decide +kernel
theorem dX12_does_65 : decode cX12_does 65 = .ok (.iconst 1, 1) := by decide +kernel
theorem dX12_does_66 : decode cX12_does 66 = .ok (.ireturn, 1) := by decide +kernel
theorem dX12_does_67 : decode cX12_does 67 = .ok (.aload_n 0, 1) := by decide +kernel
theorem dX12_does_68 : decode cX12_does 68 = .ok (.iload_n 1, 1) := by decide +kernel
theorem dX12_does_69 : decode cX12_does 69 = .ok (.iload_n 3, 1) := by decide +kernel
theorem dX12_does_70 : decode cX12_does 70 = .ok (.invokevirtual 179, 3) := by decide +kernel
theorem dX12_does_73 : decode cX12_does 73 = .ok (.istore 4, 2) := by decide +kernel
theorem dX12_does_75 : decode cX12_does 75 = .ok (.aload_n 0, 1) := by decide +kernel
theorem dX12_does_76 : decode cX12_does 76 = .ok (.dup, 1) := by decide +kernel
theorem dX12_does_77 : decode cX12_does 77 = .ok (.getfield 189, 3) := by decide +kernel
theorem dX12_does_80 : decode cX12_does 80 = .ok (.iload 4, 2) := by decide +kernel
theorem dX12_does_82 : decode cX12_does 82 = .ok (.ifCond .ne 7, 3) := by decide +kernel
theorem dX12_does_85 : decode cX12_does 85 = .ok (.iconst 1, 1) := by decide +kernel
theorem dX12_does_86 : decode cX12_does 86 = .ok (.goto 4, 3) := by decide +kernel
theorem dX12_does_89 : decode cX12_does 89 = .ok (.iconst 0, 1) := by decide +kernel
theorem dX12_does_90 : decode cX12_does 90 = .ok (.iadd, 1) := by decide +kernel
theorem dX12_does_91 : decode cX12_does 91 = .ok (.putfield 189, 3) := by decide +kernel
theorem dX12_does_94 : decode cX12_does 94 = .ok (.aload_n 0, 1) := by decide +kernel
theorem dX12_does_95 : decode cX12_does 95 = .ok (.dup, 1) := by decide +kernel
theorem dX12_does_96 : decode cX12_does 96 = .ok (.getfield 192, 3) := by decide +kernel
theorem dX12_does_99 : decode cX12_does 99 = .ok (.iload 4, 2) := by decide +kernel
theorem dX12_does_101 : decode cX12_does 101 = .ok (.ifCond .ne 15, 3) := by decide +kernel
theorem dX12_does_104 : decode cX12_does 104 = .ok (.aload_n 0, 1) := by decide +kernel
theorem dX12_does_105 : decode cX12_does 105 = .ok (.iload_n 3, 1) := by decide +kernel
theorem dX12_does_106 : decode cX12_does 106 = .ok (.invokevirtual 167, 3) := by decide +kernel
theorem dX12_does_109 : decode cX12_does 109 = .ok (.ifCond .le 7, 3) := by decide +kernel
theorem dX12_does_112 : decode cX12_does 112 = .ok (.iconst 1, 1) := by decide +kernel
theorem dX12_does_113 : decode cX12_does 113 = .ok (.goto 4, 3) := by decide +kernel
theorem dX12_does_116 : decode cX12_does 116 = .ok (.iconst 0, 1) := by decide +kernel
theorem dX12_does_117 : decode cX12_does 117 = .ok (.iadd, 1) := by decide +kernel
theorem dX12_does_118 : decode cX12_does 118 = .ok (.putfield 192, 3) := by decide +kernel
theorem dX12_does_121 : decode cX12_does 121 = .ok (.aload_n 0, 1) := by decide +kernel
theorem dX12_does_122 : decode cX12_does 122 = .ok (.iload_n 1, 1) := by decide +kernel
theorem dX12_does_123 : decode cX12_does 123 = .ok (.iload_n 3, 1) := by decide +kernel
theorem dX12_does_124 : decode cX12_does 124 = .ok (.iload 4, 2) := by decide +kernel
theorem dX12_does_126 : decode cX12_does 126 = .ok (.invokevirtual 182, 3) := by decide +kernel
theorem dX12_does_129 : decode cX12_does 129 = .ok (.iconst 1, 1) := by decide +kernel
theorem dX12_does_130 : decode cX12_does 130 = .ok (.ireturn, 1) := by decide +kernel
theorem dX12_goFeast_0 : decode cX12_goFeast 0 = .ok (.aload_n 0, 1) := by decide +kernel
theorem dX12_goFeast_1 : decode cX12_goFeast 1 = .ok (.iconst 0, 1) := by decide +kernel
theorem dX12_goFeast_2 : decode cX12_goFeast 2 = .ok (.putfield 189, 3) := by decide +kernel
theorem dX12_goFeast_5 : decode cX12_goFeast 5 = .ok (.aload_n 0, 1) := by decide +kernel
theorem dX12_goFeast_6 : decode cX12_goFeast 6 = .ok (.iconst 0, 1) := by decide +kernel
theorem dX12_goFeast_7 : decode cX12_goFeast 7 = .ok (.putfield 192, 3) := by decide +kernel
theorem dX12_goFeast_10 : decode cX12_goFeast 10 = .ok (.iconst 0, 1) := by decide +kernel
theorem dX12_goFeast_11 : decode cX12_goFeast 11 = .ok (.istore_n 3, 1) := by decide +kernel
theorem dX12_goFeast_12 : decode cX12_goFeast 12 = .ok (.iload_n 3, 1) := by decide +kernel
theorem dX12_goFeast_13 : decode cX12_goFeast 13 = .ok (.iload_n 2, 1) := by decide +kernel
theorem dX12_goFeast_14 : decode cX12_goFeast 14 = .ok (.if_icmp .ge 40, 3) := by decide +kernel
theorem dX12_goFeast_17 : decode cX12_goFeast 17 = .ok (.aload_n 0, 1) := by decide +kernel
theorem dX12_goFeast_18 : decode cX12_goFeast 18 = .ok (.aload_n 0, 1) := by decide +kernel
theorem dX12_goFeast_19 : decode cX12_goFeast 19 = .ok (.getfield 16, 3) := by decide +kernel
theorem dX12_goFeast_22 : decode cX12_goFeast 22 = .ok (.iload_n 1, 1) := by decide +kernel
theorem dX12_goFeast_23 : decode cX12_goFeast 23 = .ok (.iconst 2, 1) := by decide +kernel
theorem dX12_goFeast_24 : decode cX12_goFeast 24 = .ok (.iload_n 3, 1) := by decide +kernel
theorem dX12_goFeast_25 : decode cX12_goFeast 25 = .ok (.imul, 1) := by decide +kernel
theorem dX12_goFeast_26 : decode cX12_goFeast 26 = .ok (.iadd, 1) := by decide +kernel
theorem dX12_goFeast_27 : decode cX12_goFeast 27 = .ok (.iaload, 1) := by decide +kernel
theorem dX12_goFeast_28 : decode cX12_goFeast 28 = .ok (.aload_n 0, 1) := by decide +kernel
theorem dX12_goFeast_29 : decode cX12_goFeast 29 = .ok (.getfield 16, 3) := by decide +kernel
theorem dX12_goFeast_32 : decode cX12_goFeast 32 = .ok (.iload_n 1, 1) := by decide +kernel
theorem dX12_goFeast_33 : decode cX12_goFeast 33 = .ok (.iconst 2, 1) := by decide +kernel
theorem dX12_goFeast_34 : decode cX12_goFeast 34 = .ok (.iload_n 3, 1) := by decide +kernel
theorem dX12_goFeast_35 : decode cX12_goFeast 35 = .ok (.imul, 1) := by decide +kernel
theorem dX12_goFeast_36 : decode cX12_goFeast 36 = .ok (.iadd, 1) := by decide +kernel
theorem dX12_goFeast_37 : decode cX12_goFeast 37 = .ok (.iconst 1, 1) := by decide +kernel
theorem dX12_goFeast_38 : decode cX12_goFeast 38 = .ok (.iadd, 1) := by decide +kernel
theorem dX12_goFeast_39 : decode cX12_goFeast 39 = .ok (.iaload, 1) := by decide +kernel
theorem dX12_goFeast_40 : decode cX12_goFeast 40 = .ok (.invokevirtual 195, 3) := by decide +kernel
theorem dX12_goFeast_43 : decode cX12_goFeast 43 = .ok (.ifCond .ne 5, 3) := by decide +kernel
theorem dX12_goFeast_46 : decode cX12_goFeast 46 = .ok (.iload_n 3, 1) := by decide +kernel
theorem dX12_goFeast_47 : decode cX12_goFeast 47 = .ok (.ireturn, 1) := by decide +kernel
theorem dX12_goFeast_48 : decode cX12_goFeast 48 = .ok (.iinc 3 1, 3) := by decide +kernel
theorem dX12_goFeast_51 : decode cX12_goFeast 51 = .ok (.goto (-39), 3) := by decide +kernel
theorem dX12_goFeast_54 : decode cX12_goFeast 54 = .ok (.bipush (-9), 2) := by decide +kernel
theorem dX12_goFeast_56 : decode cX12_goFeast 56 = .ok (.ireturn, 1) := by decide +kernel
theorem dX12_refusesPair_0 : decode cX12_refusesPair 0 = .ok (.iload_n 2, 1) := by decide +kernel
theorem dX12_refusesPair_1 : decode cX12_refusesPair 1 = .ok (.bipush 10, 2) := by decide +kernel
theorem dX12_refusesPair_3 : decode cX12_refusesPair 3 = .ok (.bipush 11, 2) := by decide +kernel
theorem dX12_refusesPair_5 : decode cX12_refusesPair 5 = .ok (.invokestatic 85, 3) := by decide +kernel
theorem dX12_refusesPair_8 : decode cX12_refusesPair 8 = .ok (.istore_n 3, 1) := by decide +kernel
theorem dX12_refusesPair_9 : decode cX12_refusesPair 9 = .ok (.iload_n 2, 1) := by decide +kernel
theorem dX12_refusesPair_10 : decode cX12_refusesPair 10 = .ok (.iconst 0, 1) := by decide +kernel
theorem dX12_refusesPair_11 : decode cX12_refusesPair 11 = .ok (.iconst 3, 1) := by decide +kernel
theorem dX12_refusesPair_12 : decode cX12_refusesPair 12 = .ok (.invokestatic 85, 3) := by decide +kernel
theorem dX12_refusesPair_15 : decode cX12_refusesPair 15 = .ok (.ifCond .ne 7, 3) := by decide +kernel
theorem dX12_refusesPair_18 : decode cX12_refusesPair 18 = .ok (.iload_n 3, 1) := by decide +kernel
theorem dX12_refusesPair_19 : decode cX12_refusesPair 19 = .ok (.ifCond .eq 16, 3) := by decide +kernel
theorem dX12_refusesPair_22 : decode cX12_refusesPair 22 = .ok (.iload_n 3, 1) := by decide +kernel
theorem dX12_refusesPair_23 : decode cX12_refusesPair 23 = .ok (.ifCond .eq 15, 3) := by decide +kernel
theorem dX12_refusesPair_26 : decode cX12_refusesPair 26 = .ok (.iload_n 1, 1) := by decide +kernel
theorem dX12_refusesPair_27 : decode cX12_refusesPair 27 = .ok (.iconst 0, 1) := by decide +kernel
theorem dX12_refusesPair_28 : decode cX12_refusesPair 28 = .ok (.iconst 3, 1) := by decide +kernel
theorem dX12_refusesPair_29 : decode cX12_refusesPair 29 = .ok (.invokestatic 85, 3) := by decide +kernel
theorem dX12_refusesPair_32 : decode cX12_refusesPair 32 = .ok (.ifCond .ne 6, 3) := by decide +kernel
theorem dX12_refusesPair_35 : decode cX12_refusesPair 35 = .ok (.bipush (-2), 2) := by decide +kernel
theorem dX12_refusesPair_37 : decode cX12_refusesPair 37 = .ok (.ireturn, 1) := by decide +kernel
theorem dX12_refusesPair_38 : decode cX12_refusesPair 38 = .ok (.iload_n 3, 1) := by decide +kernel
theorem dX12_refusesPair_39 : decode cX12_refusesPair 39 = .ok (.ifCond .ne 15, 3) := by decide +kernel
theorem dX12_refusesPair_42 : decode cX12_refusesPair 42 = .ok (.aload_n 0, 1) := by decide +kernel
theorem dX12_refusesPair_43 : decode cX12_refusesPair 43 = .ok (.iload_n 1, 1) := by decide +kernel
theorem dX12_refusesPair_44 : decode cX12_refusesPair 44 = .ok (.invokevirtual 170, 3) := by decide +kernel
theorem dX12_refusesPair_47 : decode cX12_refusesPair 47 = .ok (.ifCond .ne 7, 3) := by decide +kernel
theorem dX12_refusesPair_50 : decode cX12_refusesPair 50 = .ok (.iconst (-1), 1) := by decide +kernel
theorem dX12_refusesPair_51 : decode cX12_refusesPair 51 = .ok (.goto 4, 3) := by decide +kernel
theorem dX12_refusesPair_54 : decode cX12_refusesPair 54 = .ok (.iconst 0, 1) := by decide +kernel
theorem dX12_refusesPair_55 : decode cX12_refusesPair 55 = .ok (.ireturn, 1) := by decide +kernel
theorem dX12_feast_0 : decode cX12_feast 0 = .ok (.aload_n 0, 1) := by decide +kernel
theorem dX12_feast_1 : decode cX12_feast 1 = .ok (.iconst 0, 1) := by decide +kernel
theorem dX12_feast_2 : decode cX12_feast 2 = .ok (.putfield 79, 3) := by decide +kernel
theorem dX12_feast_5 : decode cX12_feast 5 = .ok (.iload_n 1, 1) := by decide +kernel
theorem dX12_feast_6 : decode cX12_feast 6 = .ok (.invokestatic 102, 3) := by decide +kernel
theorem dX12_feast_9 : decode cX12_feast 9 = .ok (.ifCond .ne 5, 3) := by decide +kernel
theorem dX12_feast_12 : decode cX12_feast 12 = .ok (.iconst (-1), 1) := by decide +kernel
theorem dX12_feast_13 : decode cX12_feast 13 = .ok (.ireturn, 1) := by decide +kernel
theorem dX12_feast_14 : decode cX12_feast 14 = .ok (.iload_n 2, 1) := by decide +kernel
theorem dX12_feast_15 : decode cX12_feast 15 = .ok (.invokestatic 106, 3) := by decide +kernel
theorem dX12_feast_18 : decode cX12_feast 18 = .ok (.ifCond .eq 36, 3) := by decide +kernel
theorem dX12_feast_21 : decode cX12_feast 21 = .ok (.iload 4, 2) := by decide +kernel
theorem dX12_feast_23 : decode cX12_feast 23 = .ok (.iconst 0, 1) := by decide +kernel
theorem dX12_feast_24 : decode cX12_feast 24 = .ok (.bipush 20, 2) := by decide +kernel
theorem dX12_feast_26 : decode cX12_feast 26 = .ok (.invokestatic 85, 3) := by decide +kernel
theorem dX12_feast_29 : decode cX12_feast 29 = .ok (.ifCond .eq 25, 3) := by decide +kernel
theorem dX12_feast_32 : decode cX12_feast 32 = .ok (.iload 5, 2) := by decide +kernel
theorem dX12_feast_34 : decode cX12_feast 34 = .ok (.iconst 0, 1) := by decide +kernel
theorem dX12_feast_35 : decode cX12_feast 35 = .ok (.iconst 4, 1) := by decide +kernel
theorem dX12_feast_36 : decode cX12_feast 36 = .ok (.invokestatic 85, 3) := by decide +kernel
theorem dX12_feast_39 : decode cX12_feast 39 = .ok (.ifCond .ne 18, 3) := by decide +kernel
theorem dX12_feast_42 : decode cX12_feast 42 = .ok (.iload 5, 2) := by decide +kernel
theorem dX12_feast_44 : decode cX12_feast 44 = .ok (.bipush 10, 2) := by decide +kernel
theorem dX12_feast_46 : decode cX12_feast 46 = .ok (.bipush 13, 2) := by decide +kernel
theorem dX12_feast_48 : decode cX12_feast 48 = .ok (.invokestatic 85, 3) := by decide +kernel
theorem dX12_feast_51 : decode cX12_feast 51 = .ok (.ifCond .ne 6, 3) := by decide +kernel
theorem dX12_feast_54 : decode cX12_feast 54 = .ok (.bipush (-2), 2) := by decide +kernel
theorem dX12_feast_56 : decode cX12_feast 56 = .ok (.ireturn, 1) := by decide +kernel
theorem dX12_feast_57 : decode cX12_feast 57 = .ok (.aload_n 0, 1) := by decide +kernel
theorem dX12_feast_58 : decode cX12_feast 58 = .ok (.iload_n 1, 1) := by decide +kernel
theorem dX12_feast_59 : decode cX12_feast 59 = .ok (.iload_n 2, 1) := by decide +kernel
theorem dX12_feast_60 : decode cX12_feast 60 = .ok (.iload_n 3, 1) := by decide +kernel
theorem dX12_feast_61 : decode cX12_feast 61 = .ok (.iconst 2, 1) := by decide +kernel
theorem dX12_feast_62 : decode cX12_feast 62 = .ok (.iload 4, 2) := by decide +kernel
theorem dX12_feast_64 : decode cX12_feast 64 = .ok (.imul, 1) := by decide +kernel
theorem dX12_feast_65 : decode cX12_feast 65 = .ok (.invokevirtual 109, 3) := by decide +kernel
theorem dX12_feast_68 : decode cX12_feast 68 = .ok (.istore 6, 2) := by decide +kernel
theorem dX12_feast_70 : decode cX12_feast 70 = .ok (.iload 6, 2) := by decide +kernel
theorem dX12_feast_72 : decode cX12_feast 72 = .ok (.ifCond .eq 10, 3) := by decide +kernel
theorem dX12_feast_75 : decode cX12_feast 75 = .ok (.aload_n 0, 1) := by decide +kernel
theorem dX12_feast_76 : decode cX12_feast 76 = .ok (.iload 6, 2) := by decide +kernel
theorem dX12_feast_78 : decode cX12_feast 78 = .ok (.invokevirtual 113, 3) := by decide +kernel
theorem dX12_feast_81 : decode cX12_feast 81 = .ok (.ireturn, 1) := by decide +kernel
theorem dX12_feast_82 : decode cX12_feast 82 = .ok (.aload_n 0, 1) := by decide +kernel
theorem dX12_feast_83 : decode cX12_feast 83 = .ok (.getfield 89, 3) := by decide +kernel
theorem dX12_feast_86 : decode cX12_feast 86 = .ok (.ifCond .ne 6, 3) := by decide +kernel
theorem dX12_feast_89 : decode cX12_feast 89 = .ok (.bipush (-3), 2) := by decide +kernel
theorem dX12_feast_91 : decode cX12_feast 91 = .ok (.ireturn, 1) := by decide +kernel
theorem dX12_feast_92 : decode cX12_feast 92 = .ok (.bipush 60, 2) := by decide +kernel
theorem dX12_feast_94 : decode cX12_feast 94 = .ok (.iload_n 1, 1) := by decide +kernel
theorem dX12_feast_95 : decode cX12_feast 95 = .ok (.imul, 1) := by decide +kernel
theorem dX12_feast_96 : decode cX12_feast 96 = .ok (.iload_n 3, 1) := by decide +kernel
theorem dX12_feast_97 : decode cX12_feast 97 = .ok (.iadd, 1) := by decide +kernel
theorem dX12_feast_98 : decode cX12_feast 98 = .ok (.istore 7, 2) := by decide +kernel
theorem dX12_feast_100 : decode cX12_feast 100 = .ok (.iconst 0, 1) := by decide +kernel
theorem dX12_feast_101 : decode cX12_feast 101 = .ok (.istore 8, 2) := by decide +kernel
theorem dX12_feast_103 : decode cX12_feast 103 = .ok (.iload 8, 2) := by decide +kernel
theorem dX12_feast_105 : decode cX12_feast 105 = .ok (.iload 4, 2) := by decide +kernel
theorem dX12_feast_107 : decode cX12_feast 107 = .ok (.if_icmp .ge 49, 3) := by decide +kernel
theorem dX12_feast_110 : decode cX12_feast 110 = .ok (.aload_n 0, 1) := by decide +kernel
theorem dX12_feast_111 : decode cX12_feast 111 = .ok (.aload_n 0, 1) := by decide +kernel
theorem dX12_feast_112 : decode cX12_feast 112 = .ok (.getfield 16, 3) := by decide +kernel
theorem dX12_feast_115 : decode cX12_feast 115 = .ok (.iload 7, 2) := by decide +kernel
theorem dX12_feast_117 : decode cX12_feast 117 = .ok (.iconst 2, 1) := by decide +kernel
theorem dX12_feast_118 : decode cX12_feast 118 = .ok (.iload 8, 2) := by decide +kernel
theorem dX12_feast_120 : decode cX12_feast 120 = .ok (.imul, 1) := by decide +kernel
theorem dX12_feast_121 : decode cX12_feast 121 = .ok (.iadd, 1) := by decide +kernel
theorem dX12_feast_122 : decode cX12_feast 122 = .ok (.iaload, 1) := by decide +kernel
theorem dX12_feast_123 : decode cX12_feast 123 = .ok (.aload_n 0, 1) := by decide +kernel
theorem dX12_feast_124 : decode cX12_feast 124 = .ok (.getfield 16, 3) := by decide +kernel
theorem dX12_feast_127 : decode cX12_feast 127 = .ok (.iload 7, 2) := by decide +kernel
theorem dX12_feast_129 : decode cX12_feast 129 = .ok (.iconst 2, 1) := by decide +kernel
theorem dX12_feast_130 : decode cX12_feast 130 = .ok (.iload 8, 2) := by decide +kernel
theorem dX12_feast_132 : decode cX12_feast 132 = .ok (.imul, 1) := by decide +kernel
theorem dX12_feast_133 : decode cX12_feast 133 = .ok (.iadd, 1) := by decide +kernel
theorem dX12_feast_134 : decode cX12_feast 134 = .ok (.iconst 1, 1) := by decide +kernel
theorem dX12_feast_135 : decode cX12_feast 135 = .ok (.iadd, 1) := by decide +kernel
theorem dX12_feast_136 : decode cX12_feast 136 = .ok (.iaload, 1) := by decide +kernel
theorem dX12_feast_137 : decode cX12_feast 137 = .ok (.invokevirtual 198, 3) := by decide +kernel
theorem dX12_feast_140 : decode cX12_feast 140 = .ok (.istore 9, 2) := by decide +kernel
theorem dX12_feast_142 : decode cX12_feast 142 = .ok (.iload 9, 2) := by decide +kernel
theorem dX12_feast_144 : decode cX12_feast 144 = .ok (.ifCond .eq 6, 3) := by decide +kernel
theorem dX12_feast_147 : decode cX12_feast 147 = .ok (.iload 9, 2) := by decide +kernel
theorem dX12_feast_149 : decode cX12_feast 149 = .ok (.ireturn, 1) := by decide +kernel
theorem dX12_feast_150 : decode cX12_feast 150 = .ok (.iinc 8 1, 3) := by decide +kernel
theorem dX12_feast_153 : decode cX12_feast 153 = .ok (.goto (-50), 3) := by decide +kernel
theorem dX12_feast_156 : decode cX12_feast 156 = .ok (.aload_n 0, 1) := by decide +kernel
theorem dX12_feast_157 : decode cX12_feast 157 = .ok (.invokevirtual 201, 3) := by decide +kernel
theorem dX12_feast_160 : decode cX12_feast 160 = .ok (.aload_n 0, 1) := by decide +kernel
theorem dX12_feast_161 : decode cX12_feast 161 = .ok (.iload 7, 2) := by decide +kernel
theorem dX12_feast_163 : decode cX12_feast 163 = .ok (.iload 4, 2) := by decide +kernel
theorem dX12_feast_165 : decode cX12_feast 165 = .ok (.invokevirtual 204, 3) := by decide +kernel
theorem dX12_feast_168 : decode cX12_feast 168 = .ok (.istore 8, 2) := by decide +kernel
theorem dX12_feast_170 : decode cX12_feast 170 = .ok (.aload_n 0, 1) := by decide +kernel
theorem dX12_feast_171 : decode cX12_feast 171 = .ok (.iload 5, 2) := by decide +kernel
theorem dX12_feast_173 : decode cX12_feast 173 = .ok (.invokevirtual 207, 3) := by decide +kernel
theorem dX12_feast_176 : decode cX12_feast 176 = .ok (.istore 9, 2) := by decide +kernel
theorem dX12_feast_178 : decode cX12_feast 178 = .ok (.aload_n 0, 1) := by decide +kernel
theorem dX12_feast_179 : decode cX12_feast 179 = .ok (.invokevirtual 210, 3) := by decide +kernel
theorem dX12_feast_182 : decode cX12_feast 182 = .ok (.iload 5, 2) := by decide +kernel
theorem dX12_feast_184 : decode cX12_feast 184 = .ok (.iconst 1, 1) := by decide +kernel
theorem dX12_feast_185 : decode cX12_feast 185 = .ok (.if_icmp .ne 8, 3) := by decide +kernel
theorem dX12_feast_188 : decode cX12_feast 188 = .ok (.iload 8, 2) := by decide +kernel
theorem dX12_feast_190 : decode cX12_feast 190 = .ok (.goto 20, 3) := by decide +kernel
theorem dX12_feast_193 : decode cX12_feast 193 = .ok (.iload 8, 2) := by decide +kernel
theorem dX12_feast_195 : decode cX12_feast 195 = .ok (.bipush (-9), 2) := by decide +kernel
theorem dX12_feast_197 : decode cX12_feast 197 = .ok (.if_icmp .ne 8, 3) := by decide +kernel
theorem dX12_feast_200 : decode cX12_feast 200 = .ok (.iload 9, 2) := by decide +kernel
theorem dX12_feast_202 : decode cX12_feast 202 = .ok (.goto 8, 3) := by decide +kernel
theorem dX12_feast_205 : decode cX12_feast 205 = .ok (.bipush (-100), 2) := by decide +kernel
theorem dX12_feast_207 : decode cX12_feast 207 = .ok (.iload 8, 2) := by decide +kernel
theorem dX12_feast_209 : decode cX12_feast 209 = .ok (.isub, 1) := by decide +kernel
theorem dX12_feast_210 : decode cX12_feast 210 = .ok (.ireturn, 1) := by decide +kernel
theorem dX12_tellFeast_0 : decode cX12_tellFeast 0 = .ok (.iload_n 1, 1) := by decide +kernel
theorem dX12_tellFeast_1 : decode cX12_tellFeast 1 = .ok (.bipush 10, 2) := by decide +kernel
theorem dX12_tellFeast_3 : decode cX12_tellFeast 3 = .ok (.if_icmp .lt 28, 3) := by decide +kernel
theorem dX12_tellFeast_6 : decode cX12_tellFeast 6 = .ok (.aload_n 0, 1) := by decide +kernel
theorem dX12_tellFeast_7 : decode cX12_tellFeast 7 = .ok (.iload_n 1, 1) := by decide +kernel
theorem dX12_tellFeast_8 : decode cX12_tellFeast 8 = .ok (.bipush 10, 2) := by decide +kernel
theorem dX12_tellFeast_10 : decode cX12_tellFeast 10 = .ok (.isub, 1) := by decide +kernel
theorem dX12_tellFeast_11 : decode cX12_tellFeast 11 = .ok (.invokevirtual 161, 3) := by decide +kernel
theorem dX12_tellFeast_14 : decode cX12_tellFeast 14 = .ok (.ifCond .eq 14, 3) := by decide +kernel
theorem dX12_tellFeast_17 : decode cX12_tellFeast 17 = .ok (.aload_n 0, 1) := by decide +kernel
theorem dX12_tellFeast_18 : decode cX12_tellFeast 18 = .ok (.iload_n 1, 1) := by decide +kernel
theorem dX12_tellFeast_19 : decode cX12_tellFeast 19 = .ok (.bipush 10, 2) := by decide +kernel
theorem dX12_tellFeast_21 : decode cX12_tellFeast 21 = .ok (.isub, 1) := by decide +kernel
theorem dX12_tellFeast_22 : decode cX12_tellFeast 22 = .ok (.invokevirtual 164, 3) := by decide +kernel
theorem dX12_tellFeast_25 : decode cX12_tellFeast 25 = .ok (.goto 5, 3) := by decide +kernel
theorem dX12_tellFeast_28 : decode cX12_tellFeast 28 = .ok (.bipush (-9), 2) := by decide +kernel
theorem dX12_tellFeast_30 : decode cX12_tellFeast 30 = .ok (.ireturn, 1) := by decide +kernel
theorem dX12_tellFeast_31 : decode cX12_tellFeast 31 = .ok (.iload_n 1, 1) := by decide +kernel
theorem dX12_tellFeast_32 : decode cX12_tellFeast 32 = .ok (.tableswitch 79 0 3 #[32, 79, 69, 74], 32) := by decide +kernel
theorem dX12_tellFeast_64 : decode cX12_tellFeast 64 = .ok (.iconst 0, 1) := by decide +kernel
theorem dX12_tellFeast_65 : decode cX12_tellFeast 65 = .ok (.istore_n 2, 1) := by decide +kernel
theorem dX12_tellFeast_66 : decode cX12_tellFeast 66 = .ok (.iconst 0, 1) := by decide +kernel
theorem dX12_tellFeast_67 : decode cX12_tellFeast 67 = .ok (.istore_n 3, 1) := by decide +kernel
theorem dX12_tellFeast_68 : decode cX12_tellFeast 68 = .ok (.iload_n 3, 1) := by decide +kernel
theorem dX12_tellFeast_69 : decode cX12_tellFeast 69 = .ok (.aload_n 0, 1) := by decide +kernel
theorem dX12_tellFeast_70 : decode cX12_tellFeast 70 = .ok (.getfield 89, 3) := by decide +kernel
theorem dX12_tellFeast_73 : decode cX12_tellFeast 73 = .ok (.if_icmp .ge 26, 3) := by decide +kernel
theorem dX12_tellFeast_76 : decode cX12_tellFeast 76 = .ok (.iload_n 2, 1) := by decide +kernel
theorem dX12_tellFeast_77 : decode cX12_tellFeast 77 = .ok (.aload_n 0, 1) := by decide +kernel
theorem dX12_tellFeast_78 : decode cX12_tellFeast 78 = .ok (.getfield 31, 3) := by decide +kernel
theorem dX12_tellFeast_81 : decode cX12_tellFeast 81 = .ok (.iload_n 3, 1) := by decide +kernel
theorem dX12_tellFeast_82 : decode cX12_tellFeast 82 = .ok (.iaload, 1) := by decide +kernel
theorem dX12_tellFeast_83 : decode cX12_tellFeast 83 = .ok (.ifCond .le 7, 3) := by decide +kernel
theorem dX12_tellFeast_86 : decode cX12_tellFeast 86 = .ok (.iconst 1, 1) := by decide +kernel
theorem dX12_tellFeast_87 : decode cX12_tellFeast 87 = .ok (.goto 4, 3) := by decide +kernel
theorem dX12_tellFeast_90 : decode cX12_tellFeast 90 = .ok (.iconst 0, 1) := by decide +kernel
theorem dX12_tellFeast_91 : decode cX12_tellFeast 91 = .ok (.iadd, 1) := by decide +kernel
theorem dX12_tellFeast_92 : decode cX12_tellFeast 92 = .ok (.istore_n 2, 1) := by decide +kernel
theorem dX12_tellFeast_93 : decode cX12_tellFeast 93 = .ok (.iinc 3 1, 3) := by decide +kernel
theorem dX12_tellFeast_96 : decode cX12_tellFeast 96 = .ok (.goto (-28), 3) := by decide +kernel
theorem dX12_tellFeast_99 : decode cX12_tellFeast 99 = .ok (.iload_n 2, 1) := by decide +kernel
theorem dX12_tellFeast_100 : decode cX12_tellFeast 100 = .ok (.ireturn, 1) := by decide +kernel
theorem dX12_tellFeast_101 : decode cX12_tellFeast 101 = .ok (.aload_n 0, 1) := by decide +kernel
theorem dX12_tellFeast_102 : decode cX12_tellFeast 102 = .ok (.getfield 189, 3) := by decide +kernel
theorem dX12_tellFeast_105 : decode cX12_tellFeast 105 = .ok (.ireturn, 1) := by decide +kernel
theorem dX12_tellFeast_106 : decode cX12_tellFeast 106 = .ok (.aload_n 0, 1) := by decide +kernel
theorem dX12_tellFeast_107 : decode cX12_tellFeast 107 = .ok (.getfield 192, 3) := by decide +kernel
theorem dX12_tellFeast_110 : decode cX12_tellFeast 110 = .ok (.ireturn, 1) := by decide +kernel
theorem dX12_tellFeast_111 : decode cX12_tellFeast 111 = .ok (.aload_n 0, 1) := by decide +kernel
theorem dX12_tellFeast_112 : decode cX12_tellFeast 112 = .ok (.getfield 126, 3) := by decide +kernel
theorem dX12_tellFeast_115 : decode cX12_tellFeast 115 = .ok (.ireturn, 1) := by decide +kernel
theorem dX12_hasBy_0 : decode cX12_hasBy 0 = .ok (.aload_n 0, 1) := by decide +kernel
theorem dX12_hasBy_1 : decode cX12_hasBy 1 = .ok (.getfield 31, 3) := by decide +kernel
theorem dX12_hasBy_4 : decode cX12_hasBy 4 = .ok (.iload_n 2, 1) := by decide +kernel
theorem dX12_hasBy_5 : decode cX12_hasBy 5 = .ok (.iaload, 1) := by decide +kernel
theorem dX12_hasBy_6 : decode cX12_hasBy 6 = .ok (.bipush 8, 2) := by decide +kernel
theorem dX12_hasBy_8 : decode cX12_hasBy 8 = .ok (.if_icmp .ne 5, 3) := by decide +kernel
theorem dX12_hasBy_11 : decode cX12_hasBy 11 = .ok (.iconst 0, 1) := by decide +kernel
theorem dX12_hasBy_12 : decode cX12_hasBy 12 = .ok (.ireturn, 1) := by decide +kernel
theorem dX12_hasBy_13 : decode cX12_hasBy 13 = .ok (.aload_n 0, 1) := by decide +kernel
theorem dX12_hasBy_14 : decode cX12_hasBy 14 = .ok (.iload_n 1, 1) := by decide +kernel
theorem dX12_hasBy_15 : decode cX12_hasBy 15 = .ok (.iload_n 2, 1) := by decide +kernel
theorem dX12_hasBy_16 : decode cX12_hasBy 16 = .ok (.iload_n 3, 1) := by decide +kernel
theorem dX12_hasBy_17 : decode cX12_hasBy 17 = .ok (.invokevirtual 182, 3) := by decide +kernel
theorem dX12_hasBy_20 : decode cX12_hasBy 20 = .ok (.aload_n 0, 1) := by decide +kernel
theorem dX12_hasBy_21 : decode cX12_hasBy 21 = .ok (.iload_n 2, 1) := by decide +kernel
theorem dX12_hasBy_22 : decode cX12_hasBy 22 = .ok (.invokevirtual 164, 3) := by decide +kernel
theorem dX12_hasBy_25 : decode cX12_hasBy 25 = .ok (.iload_n 1, 1) := by decide +kernel
theorem dX12_hasBy_26 : decode cX12_hasBy 26 = .ok (.if_icmp .ne 7, 3) := by decide +kernel
theorem dX12_hasBy_29 : decode cX12_hasBy 29 = .ok (.iconst 1, 1) := by decide +kernel
theorem dX12_hasBy_30 : decode cX12_hasBy 30 = .ok (.goto 4, 3) := by decide +kernel
theorem dX12_hasBy_33 : decode cX12_hasBy 33 = .ok (.iconst 0, 1) := by decide +kernel
theorem dX12_hasBy_34 : decode cX12_hasBy 34 = .ok (.istore 4, 2) := by decide +kernel
theorem dX12_hasBy_36 : decode cX12_hasBy 36 = .ok (.aload_n 0, 1) := by decide +kernel
theorem dX12_hasBy_37 : decode cX12_hasBy 37 = .ok (.getfield 31, 3) := by decide +kernel
theorem dX12_hasBy_40 : decode cX12_hasBy 40 = .ok (.iload_n 2, 1) := by decide +kernel
theorem dX12_hasBy_41 : decode cX12_hasBy 41 = .ok (.dup2, 1) := by decide +kernel
theorem dX12_hasBy_42 : decode cX12_hasBy 42 = .ok (.iaload, 1) := by decide +kernel
theorem dX12_hasBy_43 : decode cX12_hasBy 43 = .ok (.iconst 1, 1) := by decide +kernel
theorem dX12_hasBy_44 : decode cX12_hasBy 44 = .ok (.isub, 1) := by decide +kernel
theorem dX12_hasBy_45 : decode cX12_hasBy 45 = .ok (.iastore, 1) := by decide +kernel
theorem dX12_hasBy_46 : decode cX12_hasBy 46 = .ok (.iload 4, 2) := by decide +kernel
theorem dX12_hasBy_48 : decode cX12_hasBy 48 = .ok (.ireturn, 1) := by decide +kernel
theorem dX12_winsHer_0 : decode cX12_winsHer 0 = .ok (.aload_n 0, 1) := by decide +kernel
theorem dX12_winsHer_1 : decode cX12_winsHer 1 = .ok (.iload_n 1, 1) := by decide +kernel
theorem dX12_winsHer_2 : decode cX12_winsHer 2 = .ok (.iload_n 2, 1) := by decide +kernel
theorem dX12_winsHer_3 : decode cX12_winsHer 3 = .ok (.aload_n 0, 1) := by decide +kernel
theorem dX12_winsHer_4 : decode cX12_winsHer 4 = .ok (.iload_n 1, 1) := by decide +kernel
theorem dX12_winsHer_5 : decode cX12_winsHer 5 = .ok (.iload_n 2, 1) := by decide +kernel
theorem dX12_winsHer_6 : decode cX12_winsHer 6 = .ok (.invokevirtual 179, 3) := by decide +kernel
theorem dX12_winsHer_9 : decode cX12_winsHer 9 = .ok (.invokevirtual 213, 3) := by decide +kernel
theorem dX12_winsHer_12 : decode cX12_winsHer 12 = .ok (.ireturn, 1) := by decide +kernel
theorem dX12_wins_0 : decode cX12_wins 0 = .ok (.aload_n 0, 1) := by decide +kernel
theorem dX12_wins_1 : decode cX12_wins 1 = .ok (.iload_n 1, 1) := by decide +kernel
theorem dX12_wins_2 : decode cX12_wins 2 = .ok (.invokevirtual 170, 3) := by decide +kernel
theorem dX12_wins_5 : decode cX12_wins 5 = .ok (.ifCond .ne 5, 3) := by decide +kernel
theorem dX12_wins_8 : decode cX12_wins 8 = .ok (.iconst (-1), 1) := by decide +kernel
theorem dX12_wins_9 : decode cX12_wins 9 = .ok (.ireturn, 1) := by decide +kernel
theorem dX12_wins_10 : decode cX12_wins 10 = .ok (.iconst 0, 1) := by decide +kernel
theorem dX12_wins_11 : decode cX12_wins 11 = .ok (.istore_n 2, 1) := by decide +kernel
theorem dX12_wins_12 : decode cX12_wins 12 = .ok (.iconst 0, 1) := by decide +kernel
theorem dX12_wins_13 : decode cX12_wins 13 = .ok (.istore_n 3, 1) := by decide +kernel
theorem dX12_wins_14 : decode cX12_wins 14 = .ok (.iload_n 3, 1) := by decide +kernel
theorem dX12_wins_15 : decode cX12_wins 15 = .ok (.aload_n 0, 1) := by decide +kernel
theorem dX12_wins_16 : decode cX12_wins 16 = .ok (.getfield 89, 3) := by decide +kernel
theorem dX12_wins_19 : decode cX12_wins 19 = .ok (.if_icmp .ge 28, 3) := by decide +kernel
theorem dX12_wins_22 : decode cX12_wins 22 = .ok (.iload_n 2, 1) := by decide +kernel
theorem dX12_wins_23 : decode cX12_wins 23 = .ok (.aload_n 0, 1) := by decide +kernel
theorem dX12_wins_24 : decode cX12_wins 24 = .ok (.iload_n 1, 1) := by decide +kernel
theorem dX12_wins_25 : decode cX12_wins 25 = .ok (.iload_n 3, 1) := by decide +kernel
theorem dX12_wins_26 : decode cX12_wins 26 = .ok (.invokevirtual 216, 3) := by decide +kernel
theorem dX12_wins_29 : decode cX12_wins 29 = .ok (.ifCond .eq 9, 3) := by decide +kernel
theorem dX12_wins_32 : decode cX12_wins 32 = .ok (.iconst 1, 1) := by decide +kernel
theorem dX12_wins_33 : decode cX12_wins 33 = .ok (.iload_n 3, 1) := by decide +kernel
theorem dX12_wins_34 : decode cX12_wins 34 = .ok (.ishl, 1) := by decide +kernel
theorem dX12_wins_35 : decode cX12_wins 35 = .ok (.goto 4, 3) := by decide +kernel
theorem dX12_wins_38 : decode cX12_wins 38 = .ok (.iconst 0, 1) := by decide +kernel
theorem dX12_wins_39 : decode cX12_wins 39 = .ok (.ior, 1) := by decide +kernel
theorem dX12_wins_40 : decode cX12_wins 40 = .ok (.istore_n 2, 1) := by decide +kernel
theorem dX12_wins_41 : decode cX12_wins 41 = .ok (.iinc 3 1, 3) := by decide +kernel
theorem dX12_wins_44 : decode cX12_wins 44 = .ok (.goto (-30), 3) := by decide +kernel
theorem dX12_wins_47 : decode cX12_wins 47 = .ok (.iload_n 2, 1) := by decide +kernel
theorem dX12_wins_48 : decode cX12_wins 48 = .ok (.ireturn, 1) := by decide +kernel
theorem dX12_isRow_0 : decode cX12_isRow 0 = .ok (.iload_n 1, 1) := by decide +kernel
theorem dX12_isRow_1 : decode cX12_isRow 1 = .ok (.istore_n 2, 1) := by decide +kernel
theorem dX12_isRow_2 : decode cX12_isRow 2 = .ok (.aload_n 0, 1) := by decide +kernel
theorem dX12_isRow_3 : decode cX12_isRow 3 = .ok (.getfield 92, 3) := by decide +kernel
theorem dX12_isRow_6 : decode cX12_isRow 6 = .ok (.iconst 1, 1) := by decide +kernel
theorem dX12_isRow_7 : decode cX12_isRow 7 = .ok (.isub, 1) := by decide +kernel
theorem dX12_isRow_8 : decode cX12_isRow 8 = .ok (.istore_n 3, 1) := by decide +kernel
theorem dX12_isRow_9 : decode cX12_isRow 9 = .ok (.iload_n 3, 1) := by decide +kernel
theorem dX12_isRow_10 : decode cX12_isRow 10 = .ok (.ifCond .lt 32, 3) := by decide +kernel
theorem dX12_isRow_13 : decode cX12_isRow 13 = .ok (.aload_n 0, 1) := by decide +kernel
theorem dX12_isRow_14 : decode cX12_isRow 14 = .ok (.getfield 55, 3) := by decide +kernel
theorem dX12_isRow_17 : decode cX12_isRow 17 = .ok (.iload_n 3, 1) := by decide +kernel
theorem dX12_isRow_18 : decode cX12_isRow 18 = .ok (.iload_n 2, 1) := by decide +kernel
theorem dX12_isRow_19 : decode cX12_isRow 19 = .ok (.aload_n 0, 1) := by decide +kernel
theorem dX12_isRow_20 : decode cX12_isRow 20 = .ok (.getfield 89, 3) := by decide +kernel
theorem dX12_isRow_23 : decode cX12_isRow 23 = .ok (.iconst 1, 1) := by decide +kernel
theorem dX12_isRow_24 : decode cX12_isRow 24 = .ok (.iadd, 1) := by decide +kernel
theorem dX12_isRow_25 : decode cX12_isRow 25 = .ok (.irem, 1) := by decide +kernel
theorem dX12_isRow_26 : decode cX12_isRow 26 = .ok (.iastore, 1) := by decide +kernel
theorem dX12_isRow_27 : decode cX12_isRow 27 = .ok (.iload_n 2, 1) := by decide +kernel
theorem dX12_isRow_28 : decode cX12_isRow 28 = .ok (.aload_n 0, 1) := by decide +kernel
theorem dX12_isRow_29 : decode cX12_isRow 29 = .ok (.getfield 89, 3) := by decide +kernel
theorem dX12_isRow_32 : decode cX12_isRow 32 = .ok (.iconst 1, 1) := by decide +kernel
theorem dX12_isRow_33 : decode cX12_isRow 33 = .ok (.iadd, 1) := by decide +kernel
theorem dX12_isRow_34 : decode cX12_isRow 34 = .ok (.idiv, 1) := by decide +kernel
theorem dX12_isRow_35 : decode cX12_isRow 35 = .ok (.istore_n 2, 1) := by decide +kernel
theorem dX12_isRow_36 : decode cX12_isRow 36 = .ok (.iinc 3 (-1), 3) := by decide +kernel
theorem dX12_isRow_39 : decode cX12_isRow 39 = .ok (.goto (-30), 3) := by decide +kernel
theorem dX12_isRow_42 : decode cX12_isRow 42 = .ok (.iconst 0, 1) := by decide +kernel
theorem dX12_isRow_43 : decode cX12_isRow 43 = .ok (.istore_n 3, 1) := by decide +kernel
theorem dX12_isRow_44 : decode cX12_isRow 44 = .ok (.iconst 0, 1) := by decide +kernel
theorem dX12_isRow_45 : decode cX12_isRow 45 = .ok (.istore 4, 2) := by decide +kernel
theorem dX12_isRow_47 : decode cX12_isRow 47 = .ok (.iload 4, 2) := by decide +kernel
theorem dX12_isRow_49 : decode cX12_isRow 49 = .ok (.aload_n 0, 1) := by decide +kernel
theorem dX12_isRow_50 : decode cX12_isRow 50 = .ok (.getfield 92, 3) := by decide +kernel
theorem dX12_isRow_53 : decode cX12_isRow 53 = .ok (.if_icmp .ge 68, 3) := by decide +kernel
theorem dX12_isRow_56 : decode cX12_isRow 56 = .ok (.aload_n 0, 1) := by decide +kernel
theorem dX12_isRow_57 : decode cX12_isRow 57 = .ok (.getfield 55, 3) := by decide +kernel
theorem dX12_isRow_60 : decode cX12_isRow 60 = .ok (.iload 4, 2) := by decide +kernel
theorem dX12_isRow_62 : decode cX12_isRow 62 = .ok (.iaload, 1) := by decide +kernel
theorem dX12_isRow_63 : decode cX12_isRow 63 = .ok (.aload_n 0, 1) := by decide +kernel
theorem dX12_isRow_64 : decode cX12_isRow 64 = .ok (.getfield 89, 3) := by decide +kernel
theorem dX12_isRow_67 : decode cX12_isRow 67 = .ok (.if_icmp .ge 48, 3) := by decide +kernel
theorem dX12_isRow_70 : decode cX12_isRow 70 = .ok (.iload_n 3, 1) := by decide +kernel
theorem dX12_isRow_71 : decode cX12_isRow 71 = .ok (.aload_n 0, 1) := by decide +kernel
theorem dX12_isRow_72 : decode cX12_isRow 72 = .ok (.getfield 55, 3) := by decide +kernel
theorem dX12_isRow_75 : decode cX12_isRow 75 = .ok (.iload 4, 2) := by decide +kernel
theorem dX12_isRow_77 : decode cX12_isRow 77 = .ok (.iaload, 1) := by decide +kernel
theorem dX12_isRow_78 : decode cX12_isRow 78 = .ok (.ishr, 1) := by decide +kernel
theorem dX12_isRow_79 : decode cX12_isRow 79 = .ok (.iconst 1, 1) := by decide +kernel
theorem dX12_isRow_80 : decode cX12_isRow 80 = .ok (.iand, 1) := by decide +kernel
theorem dX12_isRow_81 : decode cX12_isRow 81 = .ok (.iconst 1, 1) := by decide +kernel
theorem dX12_isRow_82 : decode cX12_isRow 82 = .ok (.if_icmp .eq 19, 3) := by decide +kernel
theorem dX12_isRow_85 : decode cX12_isRow 85 = .ok (.aload_n 0, 1) := by decide +kernel
theorem dX12_isRow_86 : decode cX12_isRow 86 = .ok (.iload 4, 2) := by decide +kernel
theorem dX12_isRow_88 : decode cX12_isRow 88 = .ok (.aload_n 0, 1) := by decide +kernel
theorem dX12_isRow_89 : decode cX12_isRow 89 = .ok (.getfield 55, 3) := by decide +kernel
theorem dX12_isRow_92 : decode cX12_isRow 92 = .ok (.iload 4, 2) := by decide +kernel
theorem dX12_isRow_94 : decode cX12_isRow 94 = .ok (.iaload, 1) := by decide +kernel
theorem dX12_isRow_95 : decode cX12_isRow 95 = .ok (.invokevirtual 216, 3) := by decide +kernel
theorem dX12_isRow_98 : decode cX12_isRow 98 = .ok (.ifCond .ne 5, 3) := by decide +kernel
theorem dX12_isRow_101 : decode cX12_isRow 101 = .ok (.iconst 0, 1) := by decide +kernel
theorem dX12_isRow_102 : decode cX12_isRow 102 = .ok (.ireturn, 1) := by decide +kernel
theorem dX12_isRow_103 : decode cX12_isRow 103 = .ok (.iload_n 3, 1) := by decide +kernel
theorem dX12_isRow_104 : decode cX12_isRow 104 = .ok (.iconst 1, 1) := by decide +kernel
theorem dX12_isRow_105 : decode cX12_isRow 105 = .ok (.aload_n 0, 1) := by decide +kernel
theorem dX12_isRow_106 : decode cX12_isRow 106 = .ok (.getfield 55, 3) := by decide +kernel
theorem dX12_isRow_109 : decode cX12_isRow 109 = .ok (.iload 4, 2) := by decide +kernel
theorem dX12_isRow_111 : decode cX12_isRow 111 = .ok (.iaload, 1) := by decide +kernel
theorem dX12_isRow_112 : decode cX12_isRow 112 = .ok (.ishl, 1) := by decide +kernel
theorem dX12_isRow_113 : decode cX12_isRow 113 = .ok (.ior, 1) := by decide +kernel
theorem dX12_isRow_114 : decode cX12_isRow 114 = .ok (.istore_n 3, 1) := by decide +kernel
theorem dX12_isRow_115 : decode cX12_isRow 115 = .ok (.iinc 4 1, 3) := by decide +kernel
theorem dX12_isRow_118 : decode cX12_isRow 118 = .ok (.goto (-71), 3) := by decide +kernel
theorem dX12_isRow_121 : decode cX12_isRow 121 = .ok (.iconst 1, 1) := by decide +kernel
theorem dX12_isRow_122 : decode cX12_isRow 122 = .ok (.ireturn, 1) := by decide +kernel
theorem dX12_tryRow_0 : decode cX12_tryRow 0 = .ok (.iconst 0, 1) := by decide +kernel
theorem dX12_tryRow_1 : decode cX12_tryRow 1 = .ok (.istore_n 1, 1) := by decide +kernel
theorem dX12_tryRow_2 : decode cX12_tryRow 2 = .ok (.iconst 0, 1) := by decide +kernel
theorem dX12_tryRow_3 : decode cX12_tryRow 3 = .ok (.istore_n 2, 1) := by decide +kernel
theorem dX12_tryRow_4 : decode cX12_tryRow 4 = .ok (.iconst 0, 1) := by decide +kernel
theorem dX12_tryRow_5 : decode cX12_tryRow 5 = .ok (.istore_n 3, 1) := by decide +kernel
theorem dX12_tryRow_6 : decode cX12_tryRow 6 = .ok (.iload_n 3, 1) := by decide +kernel
theorem dX12_tryRow_7 : decode cX12_tryRow 7 = .ok (.aload_n 0, 1) := by decide +kernel
theorem dX12_tryRow_8 : decode cX12_tryRow 8 = .ok (.getfield 92, 3) := by decide +kernel
theorem dX12_tryRow_11 : decode cX12_tryRow 11 = .ok (.if_icmp .ge 61, 3) := by decide +kernel
theorem dX12_tryRow_14 : decode cX12_tryRow 14 = .ok (.iload_n 1, 1) := by decide +kernel
theorem dX12_tryRow_15 : decode cX12_tryRow 15 = .ok (.aload_n 0, 1) := by decide +kernel
theorem dX12_tryRow_16 : decode cX12_tryRow 16 = .ok (.getfield 55, 3) := by decide +kernel
theorem dX12_tryRow_19 : decode cX12_tryRow 19 = .ok (.iload_n 3, 1) := by decide +kernel
theorem dX12_tryRow_20 : decode cX12_tryRow 20 = .ok (.iaload, 1) := by decide +kernel
theorem dX12_tryRow_21 : decode cX12_tryRow 21 = .ok (.aload_n 0, 1) := by decide +kernel
theorem dX12_tryRow_22 : decode cX12_tryRow 22 = .ok (.getfield 89, 3) := by decide +kernel
theorem dX12_tryRow_25 : decode cX12_tryRow 25 = .ok (.if_icmp .ge 7, 3) := by decide +kernel
theorem dX12_tryRow_28 : decode cX12_tryRow 28 = .ok (.iconst 1, 1) := by decide +kernel
theorem dX12_tryRow_29 : decode cX12_tryRow 29 = .ok (.goto 4, 3) := by decide +kernel
theorem dX12_tryRow_32 : decode cX12_tryRow 32 = .ok (.iconst 0, 1) := by decide +kernel
theorem dX12_tryRow_33 : decode cX12_tryRow 33 = .ok (.iadd, 1) := by decide +kernel
theorem dX12_tryRow_34 : decode cX12_tryRow 34 = .ok (.istore_n 1, 1) := by decide +kernel
theorem dX12_tryRow_35 : decode cX12_tryRow 35 = .ok (.iload_n 2, 1) := by decide +kernel
theorem dX12_tryRow_36 : decode cX12_tryRow 36 = .ok (.aload_n 0, 1) := by decide +kernel
theorem dX12_tryRow_37 : decode cX12_tryRow 37 = .ok (.getfield 55, 3) := by decide +kernel
theorem dX12_tryRow_40 : decode cX12_tryRow 40 = .ok (.iload_n 3, 1) := by decide +kernel
theorem dX12_tryRow_41 : decode cX12_tryRow 41 = .ok (.iaload, 1) := by decide +kernel
theorem dX12_tryRow_42 : decode cX12_tryRow 42 = .ok (.aload_n 0, 1) := by decide +kernel
theorem dX12_tryRow_43 : decode cX12_tryRow 43 = .ok (.getfield 89, 3) := by decide +kernel
theorem dX12_tryRow_46 : decode cX12_tryRow 46 = .ok (.if_icmp .ge 17, 3) := by decide +kernel
theorem dX12_tryRow_49 : decode cX12_tryRow 49 = .ok (.aload_n 0, 1) := by decide +kernel
theorem dX12_tryRow_50 : decode cX12_tryRow 50 = .ok (.iload_n 3, 1) := by decide +kernel
theorem dX12_tryRow_51 : decode cX12_tryRow 51 = .ok (.aload_n 0, 1) := by decide +kernel
theorem dX12_tryRow_52 : decode cX12_tryRow 52 = .ok (.getfield 55, 3) := by decide +kernel
theorem dX12_tryRow_55 : decode cX12_tryRow 55 = .ok (.iload_n 3, 1) := by decide +kernel
theorem dX12_tryRow_56 : decode cX12_tryRow 56 = .ok (.iaload, 1) := by decide +kernel
theorem dX12_tryRow_57 : decode cX12_tryRow 57 = .ok (.invokevirtual 179, 3) := by decide +kernel
theorem dX12_tryRow_60 : decode cX12_tryRow 60 = .ok (.goto 4, 3) := by decide +kernel
theorem dX12_tryRow_63 : decode cX12_tryRow 63 = .ok (.iconst 0, 1) := by decide +kernel
theorem dX12_tryRow_64 : decode cX12_tryRow 64 = .ok (.iadd, 1) := by decide +kernel
theorem dX12_tryRow_65 : decode cX12_tryRow 65 = .ok (.istore_n 2, 1) := by decide +kernel
theorem dX12_tryRow_66 : decode cX12_tryRow 66 = .ok (.iinc 3 1, 3) := by decide +kernel
theorem dX12_tryRow_69 : decode cX12_tryRow 69 = .ok (.goto (-63), 3) := by decide +kernel
theorem dX12_tryRow_72 : decode cX12_tryRow 72 = .ok (.iload_n 1, 1) := by decide +kernel
theorem dX12_tryRow_73 : decode cX12_tryRow 73 = .ok (.aload_n 0, 1) := by decide +kernel
theorem dX12_tryRow_74 : decode cX12_tryRow 74 = .ok (.getfield 219, 3) := by decide +kernel
theorem dX12_tryRow_77 : decode cX12_tryRow 77 = .ok (.if_icmp .gt 19, 3) := by decide +kernel
theorem dX12_tryRow_80 : decode cX12_tryRow 80 = .ok (.iload_n 1, 1) := by decide +kernel
theorem dX12_tryRow_81 : decode cX12_tryRow 81 = .ok (.aload_n 0, 1) := by decide +kernel
theorem dX12_tryRow_82 : decode cX12_tryRow 82 = .ok (.getfield 219, 3) := by decide +kernel
theorem dX12_tryRow_85 : decode cX12_tryRow 85 = .ok (.if_icmp .ne 49, 3) := by decide +kernel
theorem dX12_tryRow_88 : decode cX12_tryRow 88 = .ok (.iload_n 2, 1) := by decide +kernel
theorem dX12_tryRow_89 : decode cX12_tryRow 89 = .ok (.aload_n 0, 1) := by decide +kernel
theorem dX12_tryRow_90 : decode cX12_tryRow 90 = .ok (.getfield 222, 3) := by decide +kernel
theorem dX12_tryRow_93 : decode cX12_tryRow 93 = .ok (.if_icmp .ge 41, 3) := by decide +kernel
theorem dX12_tryRow_96 : decode cX12_tryRow 96 = .ok (.aload_n 0, 1) := by decide +kernel
theorem dX12_tryRow_97 : decode cX12_tryRow 97 = .ok (.iload_n 1, 1) := by decide +kernel
theorem dX12_tryRow_98 : decode cX12_tryRow 98 = .ok (.putfield 219, 3) := by decide +kernel
theorem dX12_tryRow_101 : decode cX12_tryRow 101 = .ok (.aload_n 0, 1) := by decide +kernel
theorem dX12_tryRow_102 : decode cX12_tryRow 102 = .ok (.iload_n 2, 1) := by decide +kernel
theorem dX12_tryRow_103 : decode cX12_tryRow 103 = .ok (.putfield 222, 3) := by decide +kernel
theorem dX12_tryRow_106 : decode cX12_tryRow 106 = .ok (.iconst 0, 1) := by decide +kernel
theorem dX12_tryRow_107 : decode cX12_tryRow 107 = .ok (.istore_n 3, 1) := by decide +kernel
theorem dX12_tryRow_108 : decode cX12_tryRow 108 = .ok (.iload_n 3, 1) := by decide +kernel
theorem dX12_tryRow_109 : decode cX12_tryRow 109 = .ok (.aload_n 0, 1) := by decide +kernel
theorem dX12_tryRow_110 : decode cX12_tryRow 110 = .ok (.getfield 92, 3) := by decide +kernel
theorem dX12_tryRow_113 : decode cX12_tryRow 113 = .ok (.if_icmp .ge 21, 3) := by decide +kernel
theorem dX12_tryRow_116 : decode cX12_tryRow 116 = .ok (.aload_n 0, 1) := by decide +kernel
theorem dX12_tryRow_117 : decode cX12_tryRow 117 = .ok (.getfield 58, 3) := by decide +kernel
theorem dX12_tryRow_120 : decode cX12_tryRow 120 = .ok (.iload_n 3, 1) := by decide +kernel
theorem dX12_tryRow_121 : decode cX12_tryRow 121 = .ok (.aload_n 0, 1) := by decide +kernel
theorem dX12_tryRow_122 : decode cX12_tryRow 122 = .ok (.getfield 55, 3) := by decide +kernel
theorem dX12_tryRow_125 : decode cX12_tryRow 125 = .ok (.iload_n 3, 1) := by decide +kernel
theorem dX12_tryRow_126 : decode cX12_tryRow 126 = .ok (.iaload, 1) := by decide +kernel
theorem dX12_tryRow_127 : decode cX12_tryRow 127 = .ok (.iastore, 1) := by decide +kernel
theorem dX12_tryRow_128 : decode cX12_tryRow 128 = .ok (.iinc 3 1, 3) := by decide +kernel
theorem dX12_tryRow_131 : decode cX12_tryRow 131 = .ok (.goto (-23), 3) := by decide +kernel
theorem dX12_tryRow_134 : decode cX12_tryRow 134 = .ok (.return_, 1) := by decide +kernel
theorem dX12_match_0 : decode cX12_match 0 = .ok (.iload_n 1, 1) := by decide +kernel
theorem dX12_match_1 : decode cX12_match 1 = .ok (.bipush (-2), 2) := by decide +kernel
theorem dX12_match_3 : decode cX12_match 3 = .ok (.iconst 4, 1) := by decide +kernel
theorem dX12_match_4 : decode cX12_match 4 = .ok (.invokestatic 85, 3) := by decide +kernel
theorem dX12_match_7 : decode cX12_match 7 = .ok (.ifCond .ne 6, 3) := by decide +kernel
theorem dX12_match_10 : decode cX12_match 10 = .ok (.bipush (-2), 2) := by decide +kernel
theorem dX12_match_12 : decode cX12_match 12 = .ok (.ireturn, 1) := by decide +kernel
theorem dX12_match_13 : decode cX12_match 13 = .ok (.aload_n 0, 1) := by decide +kernel
theorem dX12_match_14 : decode cX12_match 14 = .ok (.getfield 89, 3) := by decide +kernel
theorem dX12_match_17 : decode cX12_match 17 = .ok (.ifCond .ne 6, 3) := by decide +kernel
theorem dX12_match_20 : decode cX12_match 20 = .ok (.bipush (-3), 2) := by decide +kernel
theorem dX12_match_22 : decode cX12_match 22 = .ok (.ireturn, 1) := by decide +kernel
theorem dX12_match_23 : decode cX12_match 23 = .ok (.iconst 1, 1) := by decide +kernel
theorem dX12_match_24 : decode cX12_match 24 = .ok (.istore_n 2, 1) := by decide +kernel
theorem dX12_match_25 : decode cX12_match 25 = .ok (.iconst 0, 1) := by decide +kernel
theorem dX12_match_26 : decode cX12_match 26 = .ok (.istore_n 3, 1) := by decide +kernel
theorem dX12_match_27 : decode cX12_match 27 = .ok (.iload_n 3, 1) := by decide +kernel
theorem dX12_match_28 : decode cX12_match 28 = .ok (.aload_n 0, 1) := by decide +kernel
theorem dX12_match_29 : decode cX12_match 29 = .ok (.getfield 92, 3) := by decide +kernel
theorem dX12_match_32 : decode cX12_match 32 = .ok (.if_icmp .ge 18, 3) := by decide +kernel
theorem dX12_match_35 : decode cX12_match 35 = .ok (.iload_n 2, 1) := by decide +kernel
theorem dX12_match_36 : decode cX12_match 36 = .ok (.aload_n 0, 1) := by decide +kernel
theorem dX12_match_37 : decode cX12_match 37 = .ok (.getfield 89, 3) := by decide +kernel
theorem dX12_match_40 : decode cX12_match 40 = .ok (.iconst 1, 1) := by decide +kernel
theorem dX12_match_41 : decode cX12_match 41 = .ok (.iadd, 1) := by decide +kernel
theorem dX12_match_42 : decode cX12_match 42 = .ok (.imul, 1) := by decide +kernel
theorem dX12_match_43 : decode cX12_match 43 = .ok (.istore_n 2, 1) := by decide +kernel
theorem dX12_match_44 : decode cX12_match 44 = .ok (.iinc 3 1, 3) := by decide +kernel
theorem dX12_match_47 : decode cX12_match 47 = .ok (.goto (-20), 3) := by decide +kernel
theorem dX12_match_50 : decode cX12_match 50 = .ok (.aload_n 0, 1) := by decide +kernel
theorem dX12_match_51 : decode cX12_match 51 = .ok (.bipush (-9), 2) := by decide +kernel
theorem dX12_match_53 : decode cX12_match 53 = .ok (.putfield 219, 3) := by decide +kernel
theorem dX12_match_56 : decode cX12_match 56 = .ok (.aload_n 0, 1) := by decide +kernel
theorem dX12_match_57 : decode cX12_match 57 = .ok (.iconst 0, 1) := by decide +kernel
theorem dX12_match_58 : decode cX12_match 58 = .ok (.putfield 222, 3) := by decide +kernel
theorem dX12_match_61 : decode cX12_match 61 = .ok (.iconst 0, 1) := by decide +kernel
theorem dX12_match_62 : decode cX12_match 62 = .ok (.istore_n 3, 1) := by decide +kernel
theorem dX12_match_63 : decode cX12_match 63 = .ok (.iload_n 3, 1) := by decide +kernel
theorem dX12_match_64 : decode cX12_match 64 = .ok (.iload_n 2, 1) := by decide +kernel
theorem dX12_match_65 : decode cX12_match 65 = .ok (.if_icmp .ge 21, 3) := by decide +kernel
theorem dX12_match_68 : decode cX12_match 68 = .ok (.aload_n 0, 1) := by decide +kernel
theorem dX12_match_69 : decode cX12_match 69 = .ok (.iload_n 3, 1) := by decide +kernel
theorem dX12_match_70 : decode cX12_match 70 = .ok (.invokevirtual 225, 3) := by decide +kernel
theorem dX12_match_73 : decode cX12_match 73 = .ok (.ifCond .eq 7, 3) := by decide +kernel
theorem dX12_match_76 : decode cX12_match 76 = .ok (.aload_n 0, 1) := by decide +kernel
theorem dX12_match_77 : decode cX12_match 77 = .ok (.invokevirtual 228, 3) := by decide +kernel
theorem dX12_match_80 : decode cX12_match 80 = .ok (.iinc 3 1, 3) := by decide +kernel
theorem dX12_match_83 : decode cX12_match 83 = .ok (.goto (-20), 3) := by decide +kernel
theorem dX12_match_86 : decode cX12_match 86 = .ok (.iload_n 1, 1) := by decide +kernel
theorem dX12_match_87 : decode cX12_match 87 = .ok (.ifCond .ge 21, 3) := by decide +kernel
theorem dX12_match_90 : decode cX12_match 90 = .ok (.iload_n 1, 1) := by decide +kernel
theorem dX12_match_91 : decode cX12_match 91 = .ok (.bipush (-2), 2) := by decide +kernel
theorem dX12_match_93 : decode cX12_match 93 = .ok (.if_icmp .ne 10, 3) := by decide +kernel
theorem dX12_match_96 : decode cX12_match 96 = .ok (.aload_n 0, 1) := by decide +kernel
theorem dX12_match_97 : decode cX12_match 97 = .ok (.getfield 219, 3) := by decide +kernel
theorem dX12_match_100 : decode cX12_match 100 = .ok (.goto 7, 3) := by decide +kernel
theorem dX12_match_103 : decode cX12_match 103 = .ok (.aload_n 0, 1) := by decide +kernel
theorem dX12_match_104 : decode cX12_match 104 = .ok (.getfield 222, 3) := by decide +kernel
theorem dX12_match_107 : decode cX12_match 107 = .ok (.ireturn, 1) := by decide +kernel
theorem dX12_match_108 : decode cX12_match 108 = .ok (.aload_n 0, 1) := by decide +kernel
theorem dX12_match_109 : decode cX12_match 109 = .ok (.iload_n 1, 1) := by decide +kernel
theorem dX12_match_110 : decode cX12_match 110 = .ok (.invokevirtual 170, 3) := by decide +kernel
theorem dX12_match_113 : decode cX12_match 113 = .ok (.ifCond .eq 25, 3) := by decide +kernel
theorem dX12_match_116 : decode cX12_match 116 = .ok (.aload_n 0, 1) := by decide +kernel
theorem dX12_match_117 : decode cX12_match 117 = .ok (.getfield 58, 3) := by decide +kernel
theorem dX12_match_120 : decode cX12_match 120 = .ok (.iload_n 1, 1) := by decide +kernel
theorem dX12_match_121 : decode cX12_match 121 = .ok (.iaload, 1) := by decide +kernel
theorem dX12_match_122 : decode cX12_match 122 = .ok (.aload_n 0, 1) := by decide +kernel
theorem dX12_match_123 : decode cX12_match 123 = .ok (.getfield 89, 3) := by decide +kernel
theorem dX12_match_126 : decode cX12_match 126 = .ok (.if_icmp .ge 12, 3) := by decide +kernel
theorem dX12_match_129 : decode cX12_match 129 = .ok (.aload_n 0, 1) := by decide +kernel
theorem dX12_match_130 : decode cX12_match 130 = .ok (.getfield 58, 3) := by decide +kernel
theorem dX12_match_133 : decode cX12_match 133 = .ok (.iload_n 1, 1) := by decide +kernel
theorem dX12_match_134 : decode cX12_match 134 = .ok (.iaload, 1) := by decide +kernel
theorem dX12_match_135 : decode cX12_match 135 = .ok (.goto 5, 3) := by decide +kernel
theorem dX12_match_138 : decode cX12_match 138 = .ok (.bipush (-9), 2) := by decide +kernel
theorem dX12_match_140 : decode cX12_match 140 = .ok (.ireturn, 1) := by decide +kernel
theorem dX12_nextFor_0 : decode cX12_nextFor 0 = .ok (.bipush (-9), 2) := by decide +kernel
theorem dX12_nextFor_2 : decode cX12_nextFor 2 = .ok (.istore_n 2, 1) := by decide +kernel
theorem dX12_nextFor_3 : decode cX12_nextFor 3 = .ok (.iconst 0, 1) := by decide +kernel
theorem dX12_nextFor_4 : decode cX12_nextFor 4 = .ok (.istore_n 3, 1) := by decide +kernel
theorem dX12_nextFor_5 : decode cX12_nextFor 5 = .ok (.iload_n 3, 1) := by decide +kernel
theorem dX12_nextFor_6 : decode cX12_nextFor 6 = .ok (.aload_n 0, 1) := by decide +kernel
theorem dX12_nextFor_7 : decode cX12_nextFor 7 = .ok (.getfield 89, 3) := by decide +kernel
theorem dX12_nextFor_10 : decode cX12_nextFor 10 = .ok (.if_icmp .ge 61, 3) := by decide +kernel
theorem dX12_nextFor_13 : decode cX12_nextFor 13 = .ok (.aload_n 0, 1) := by decide +kernel
theorem dX12_nextFor_14 : decode cX12_nextFor 14 = .ok (.getfield 67, 3) := by decide +kernel
theorem dX12_nextFor_17 : decode cX12_nextFor 17 = .ok (.iload_n 1, 1) := by decide +kernel
theorem dX12_nextFor_18 : decode cX12_nextFor 18 = .ok (.iaload, 1) := by decide +kernel
theorem dX12_nextFor_19 : decode cX12_nextFor 19 = .ok (.iload_n 3, 1) := by decide +kernel
theorem dX12_nextFor_20 : decode cX12_nextFor 20 = .ok (.ishr, 1) := by decide +kernel
theorem dX12_nextFor_21 : decode cX12_nextFor 21 = .ok (.iconst 1, 1) := by decide +kernel
theorem dX12_nextFor_22 : decode cX12_nextFor 22 = .ok (.iand, 1) := by decide +kernel
theorem dX12_nextFor_23 : decode cX12_nextFor 23 = .ok (.ifCond .ne 7, 3) := by decide +kernel
theorem dX12_nextFor_26 : decode cX12_nextFor 26 = .ok (.iconst 1, 1) := by decide +kernel
theorem dX12_nextFor_27 : decode cX12_nextFor 27 = .ok (.goto 4, 3) := by decide +kernel
theorem dX12_nextFor_30 : decode cX12_nextFor 30 = .ok (.iconst 0, 1) := by decide +kernel
theorem dX12_nextFor_31 : decode cX12_nextFor 31 = .ok (.istore 4, 2) := by decide +kernel
theorem dX12_nextFor_33 : decode cX12_nextFor 33 = .ok (.iload 4, 2) := by decide +kernel
theorem dX12_nextFor_35 : decode cX12_nextFor 35 = .ok (.ifCond .eq 28, 3) := by decide +kernel
theorem dX12_nextFor_38 : decode cX12_nextFor 38 = .ok (.iload_n 2, 1) := by decide +kernel
theorem dX12_nextFor_39 : decode cX12_nextFor 39 = .ok (.bipush (-9), 2) := by decide +kernel
theorem dX12_nextFor_41 : decode cX12_nextFor 41 = .ok (.if_icmp .eq 18, 3) := by decide +kernel
theorem dX12_nextFor_44 : decode cX12_nextFor 44 = .ok (.aload_n 0, 1) := by decide +kernel
theorem dX12_nextFor_45 : decode cX12_nextFor 45 = .ok (.iload_n 1, 1) := by decide +kernel
theorem dX12_nextFor_46 : decode cX12_nextFor 46 = .ok (.iload_n 3, 1) := by decide +kernel
theorem dX12_nextFor_47 : decode cX12_nextFor 47 = .ok (.invokevirtual 179, 3) := by decide +kernel
theorem dX12_nextFor_50 : decode cX12_nextFor 50 = .ok (.aload_n 0, 1) := by decide +kernel
theorem dX12_nextFor_51 : decode cX12_nextFor 51 = .ok (.iload_n 1, 1) := by decide +kernel
theorem dX12_nextFor_52 : decode cX12_nextFor 52 = .ok (.iload_n 2, 1) := by decide +kernel
theorem dX12_nextFor_53 : decode cX12_nextFor 53 = .ok (.invokevirtual 179, 3) := by decide +kernel
theorem dX12_nextFor_56 : decode cX12_nextFor 56 = .ok (.if_icmp .ge 7, 3) := by decide +kernel
theorem dX12_nextFor_59 : decode cX12_nextFor 59 = .ok (.iload_n 3, 1) := by decide +kernel
theorem dX12_nextFor_60 : decode cX12_nextFor 60 = .ok (.goto 4, 3) := by decide +kernel
theorem dX12_nextFor_63 : decode cX12_nextFor 63 = .ok (.iload_n 2, 1) := by decide +kernel
theorem dX12_nextFor_64 : decode cX12_nextFor 64 = .ok (.istore_n 2, 1) := by decide +kernel
theorem dX12_nextFor_65 : decode cX12_nextFor 65 = .ok (.iinc 3 1, 3) := by decide +kernel
theorem dX12_nextFor_68 : decode cX12_nextFor 68 = .ok (.goto (-63), 3) := by decide +kernel
theorem dX12_nextFor_71 : decode cX12_nextFor 71 = .ok (.iload_n 2, 1) := by decide +kernel
theorem dX12_nextFor_72 : decode cX12_nextFor 72 = .ok (.ireturn, 1) := by decide +kernel
theorem dX12_wouldRather_0 : decode cX12_wouldRather 0 = .ok (.aload_n 0, 1) := by decide +kernel
theorem dX12_wouldRather_1 : decode cX12_wouldRather 1 = .ok (.getfield 64, 3) := by decide +kernel
theorem dX12_wouldRather_4 : decode cX12_wouldRather 4 = .ok (.iload_n 1, 1) := by decide +kernel
theorem dX12_wouldRather_5 : decode cX12_wouldRather 5 = .ok (.iaload, 1) := by decide +kernel
theorem dX12_wouldRather_6 : decode cX12_wouldRather 6 = .ok (.istore_n 3, 1) := by decide +kernel
theorem dX12_wouldRather_7 : decode cX12_wouldRather 7 = .ok (.iload_n 3, 1) := by decide +kernel
theorem dX12_wouldRather_8 : decode cX12_wouldRather 8 = .ok (.bipush (-9), 2) := by decide +kernel
theorem dX12_wouldRather_10 : decode cX12_wouldRather 10 = .ok (.if_icmp .eq 38, 3) := by decide +kernel
theorem dX12_wouldRather_13 : decode cX12_wouldRather 13 = .ok (.aload_n 0, 1) := by decide +kernel
theorem dX12_wouldRather_14 : decode cX12_wouldRather 14 = .ok (.iload_n 2, 1) := by decide +kernel
theorem dX12_wouldRather_15 : decode cX12_wouldRather 15 = .ok (.iload_n 1, 1) := by decide +kernel
theorem dX12_wouldRather_16 : decode cX12_wouldRather 16 = .ok (.invokevirtual 179, 3) := by decide +kernel
theorem dX12_wouldRather_19 : decode cX12_wouldRather 19 = .ok (.aload_n 0, 1) := by decide +kernel
theorem dX12_wouldRather_20 : decode cX12_wouldRather 20 = .ok (.iload_n 3, 1) := by decide +kernel
theorem dX12_wouldRather_21 : decode cX12_wouldRather 21 = .ok (.iload_n 1, 1) := by decide +kernel
theorem dX12_wouldRather_22 : decode cX12_wouldRather 22 = .ok (.invokevirtual 179, 3) := by decide +kernel
theorem dX12_wouldRather_25 : decode cX12_wouldRather 25 = .ok (.if_icmp .lt 23, 3) := by decide +kernel
theorem dX12_wouldRather_28 : decode cX12_wouldRather 28 = .ok (.aload_n 0, 1) := by decide +kernel
theorem dX12_wouldRather_29 : decode cX12_wouldRather 29 = .ok (.iload_n 2, 1) := by decide +kernel
theorem dX12_wouldRather_30 : decode cX12_wouldRather 30 = .ok (.iload_n 1, 1) := by decide +kernel
theorem dX12_wouldRather_31 : decode cX12_wouldRather 31 = .ok (.invokevirtual 179, 3) := by decide +kernel
theorem dX12_wouldRather_34 : decode cX12_wouldRather 34 = .ok (.aload_n 0, 1) := by decide +kernel
theorem dX12_wouldRather_35 : decode cX12_wouldRather 35 = .ok (.iload_n 3, 1) := by decide +kernel
theorem dX12_wouldRather_36 : decode cX12_wouldRather 36 = .ok (.iload_n 1, 1) := by decide +kernel
theorem dX12_wouldRather_37 : decode cX12_wouldRather 37 = .ok (.invokevirtual 179, 3) := by decide +kernel
theorem dX12_wouldRather_40 : decode cX12_wouldRather 40 = .ok (.if_icmp .ne 12, 3) := by decide +kernel
theorem dX12_wouldRather_43 : decode cX12_wouldRather 43 = .ok (.iload_n 2, 1) := by decide +kernel
theorem dX12_wouldRather_44 : decode cX12_wouldRather 44 = .ok (.iload_n 3, 1) := by decide +kernel
theorem dX12_wouldRather_45 : decode cX12_wouldRather 45 = .ok (.if_icmp .ge 7, 3) := by decide +kernel
theorem dX12_wouldRather_48 : decode cX12_wouldRather 48 = .ok (.iconst 1, 1) := by decide +kernel
theorem dX12_wouldRather_49 : decode cX12_wouldRather 49 = .ok (.goto 4, 3) := by decide +kernel
theorem dX12_wouldRather_52 : decode cX12_wouldRather 52 = .ok (.iconst 0, 1) := by decide +kernel
theorem dX12_wouldRather_53 : decode cX12_wouldRather 53 = .ok (.ireturn, 1) := by decide +kernel
theorem dX12_asks_0 : decode cX12_asks 0 = .ok (.aload_n 0, 1) := by decide +kernel
theorem dX12_asks_1 : decode cX12_asks 1 = .ok (.getfield 67, 3) := by decide +kernel
theorem dX12_asks_4 : decode cX12_asks 4 = .ok (.iload_n 1, 1) := by decide +kernel
theorem dX12_asks_5 : decode cX12_asks 5 = .ok (.dup2, 1) := by decide +kernel
theorem dX12_asks_6 : decode cX12_asks 6 = .ok (.iaload, 1) := by decide +kernel
theorem dX12_asks_7 : decode cX12_asks 7 = .ok (.iconst 1, 1) := by decide +kernel
theorem dX12_asks_8 : decode cX12_asks 8 = .ok (.iload_n 2, 1) := by decide +kernel
theorem dX12_asks_9 : decode cX12_asks 9 = .ok (.ishl, 1) := by decide +kernel
theorem dX12_asks_10 : decode cX12_asks 10 = .ok (.ior, 1) := by decide +kernel
theorem dX12_asks_11 : decode cX12_asks 11 = .ok (.iastore, 1) := by decide +kernel
theorem dX12_asks_12 : decode cX12_asks 12 = .ok (.aload_n 0, 1) := by decide +kernel
theorem dX12_asks_13 : decode cX12_asks 13 = .ok (.iload_n 2, 1) := by decide +kernel
theorem dX12_asks_14 : decode cX12_asks 14 = .ok (.iload_n 1, 1) := by decide +kernel
theorem dX12_asks_15 : decode cX12_asks 15 = .ok (.invokevirtual 231, 3) := by decide +kernel
theorem dX12_asks_18 : decode cX12_asks 18 = .ok (.ifCond .eq 41, 3) := by decide +kernel
theorem dX12_asks_21 : decode cX12_asks 21 = .ok (.aload_n 0, 1) := by decide +kernel
theorem dX12_asks_22 : decode cX12_asks 22 = .ok (.getfield 64, 3) := by decide +kernel
theorem dX12_asks_25 : decode cX12_asks 25 = .ok (.iload_n 2, 1) := by decide +kernel
theorem dX12_asks_26 : decode cX12_asks 26 = .ok (.iaload, 1) := by decide +kernel
theorem dX12_asks_27 : decode cX12_asks 27 = .ok (.bipush (-9), 2) := by decide +kernel
theorem dX12_asks_29 : decode cX12_asks 29 = .ok (.if_icmp .eq 16, 3) := by decide +kernel
theorem dX12_asks_32 : decode cX12_asks 32 = .ok (.aload_n 0, 1) := by decide +kernel
theorem dX12_asks_33 : decode cX12_asks 33 = .ok (.getfield 61, 3) := by decide +kernel
theorem dX12_asks_36 : decode cX12_asks 36 = .ok (.aload_n 0, 1) := by decide +kernel
theorem dX12_asks_37 : decode cX12_asks 37 = .ok (.getfield 64, 3) := by decide +kernel
theorem dX12_asks_40 : decode cX12_asks 40 = .ok (.iload_n 2, 1) := by decide +kernel
theorem dX12_asks_41 : decode cX12_asks 41 = .ok (.iaload, 1) := by decide +kernel
theorem dX12_asks_42 : decode cX12_asks 42 = .ok (.bipush (-9), 2) := by decide +kernel
theorem dX12_asks_44 : decode cX12_asks 44 = .ok (.iastore, 1) := by decide +kernel
theorem dX12_asks_45 : decode cX12_asks 45 = .ok (.aload_n 0, 1) := by decide +kernel
theorem dX12_asks_46 : decode cX12_asks 46 = .ok (.getfield 64, 3) := by decide +kernel
theorem dX12_asks_49 : decode cX12_asks 49 = .ok (.iload_n 2, 1) := by decide +kernel
theorem dX12_asks_50 : decode cX12_asks 50 = .ok (.iload_n 1, 1) := by decide +kernel
theorem dX12_asks_51 : decode cX12_asks 51 = .ok (.iastore, 1) := by decide +kernel
theorem dX12_asks_52 : decode cX12_asks 52 = .ok (.aload_n 0, 1) := by decide +kernel
theorem dX12_asks_53 : decode cX12_asks 53 = .ok (.getfield 61, 3) := by decide +kernel
theorem dX12_asks_56 : decode cX12_asks 56 = .ok (.iload_n 1, 1) := by decide +kernel
theorem dX12_asks_57 : decode cX12_asks 57 = .ok (.iload_n 2, 1) := by decide +kernel
theorem dX12_asks_58 : decode cX12_asks 58 = .ok (.iastore, 1) := by decide +kernel
theorem dX12_asks_59 : decode cX12_asks 59 = .ok (.return_, 1) := by decide +kernel
theorem dX12_weds_0 : decode cX12_weds 0 = .ok (.aload_n 0, 1) := by decide +kernel
theorem dX12_weds_1 : decode cX12_weds 1 = .ok (.iload_n 1, 1) := by decide +kernel
theorem dX12_weds_2 : decode cX12_weds 2 = .ok (.invokevirtual 170, 3) := by decide +kernel
theorem dX12_weds_5 : decode cX12_weds 5 = .ok (.ifCond .ne 5, 3) := by decide +kernel
theorem dX12_weds_8 : decode cX12_weds 8 = .ok (.iconst (-1), 1) := by decide +kernel
theorem dX12_weds_9 : decode cX12_weds 9 = .ok (.ireturn, 1) := by decide +kernel
theorem dX12_weds_10 : decode cX12_weds 10 = .ok (.iconst 0, 1) := by decide +kernel
theorem dX12_weds_11 : decode cX12_weds 11 = .ok (.istore_n 2, 1) := by decide +kernel
theorem dX12_weds_12 : decode cX12_weds 12 = .ok (.iload_n 2, 1) := by decide +kernel
theorem dX12_weds_13 : decode cX12_weds 13 = .ok (.aload_n 0, 1) := by decide +kernel
theorem dX12_weds_14 : decode cX12_weds 14 = .ok (.getfield 92, 3) := by decide +kernel
theorem dX12_weds_17 : decode cX12_weds 17 = .ok (.if_icmp .ge 24, 3) := by decide +kernel
theorem dX12_weds_20 : decode cX12_weds 20 = .ok (.aload_n 0, 1) := by decide +kernel
theorem dX12_weds_21 : decode cX12_weds 21 = .ok (.getfield 61, 3) := by decide +kernel
theorem dX12_weds_24 : decode cX12_weds 24 = .ok (.iload_n 2, 1) := by decide +kernel
theorem dX12_weds_25 : decode cX12_weds 25 = .ok (.bipush (-9), 2) := by decide +kernel
theorem dX12_weds_27 : decode cX12_weds 27 = .ok (.iastore, 1) := by decide +kernel
theorem dX12_weds_28 : decode cX12_weds 28 = .ok (.aload_n 0, 1) := by decide +kernel
theorem dX12_weds_29 : decode cX12_weds 29 = .ok (.getfield 67, 3) := by decide +kernel
theorem dX12_weds_32 : decode cX12_weds 32 = .ok (.iload_n 2, 1) := by decide +kernel
theorem dX12_weds_33 : decode cX12_weds 33 = .ok (.iconst 0, 1) := by decide +kernel
theorem dX12_weds_34 : decode cX12_weds 34 = .ok (.iastore, 1) := by decide +kernel
theorem dX12_weds_35 : decode cX12_weds 35 = .ok (.iinc 2 1, 3) := by decide +kernel
theorem dX12_weds_38 : decode cX12_weds 38 = .ok (.goto (-26), 3) := by decide +kernel
theorem dX12_weds_41 : decode cX12_weds 41 = .ok (.iconst 0, 1) := by decide +kernel
theorem dX12_weds_42 : decode cX12_weds 42 = .ok (.istore_n 2, 1) := by decide +kernel
theorem dX12_weds_43 : decode cX12_weds 43 = .ok (.iload_n 2, 1) := by decide +kernel
theorem dX12_weds_44 : decode cX12_weds 44 = .ok (.aload_n 0, 1) := by decide +kernel
theorem dX12_weds_45 : decode cX12_weds 45 = .ok (.getfield 89, 3) := by decide +kernel
theorem dX12_weds_48 : decode cX12_weds 48 = .ok (.if_icmp .ge 17, 3) := by decide +kernel
theorem dX12_weds_51 : decode cX12_weds 51 = .ok (.aload_n 0, 1) := by decide +kernel
theorem dX12_weds_52 : decode cX12_weds 52 = .ok (.getfield 64, 3) := by decide +kernel
theorem dX12_weds_55 : decode cX12_weds 55 = .ok (.iload_n 2, 1) := by decide +kernel
theorem dX12_weds_56 : decode cX12_weds 56 = .ok (.bipush (-9), 2) := by decide +kernel
theorem dX12_weds_58 : decode cX12_weds 58 = .ok (.iastore, 1) := by decide +kernel
theorem dX12_weds_59 : decode cX12_weds 59 = .ok (.iinc 2 1, 3) := by decide +kernel
theorem dX12_weds_62 : decode cX12_weds 62 = .ok (.goto (-19), 3) := by decide +kernel
theorem dX12_weds_65 : decode cX12_weds 65 = .ok (.iconst 1, 1) := by decide +kernel
theorem dX12_weds_66 : decode cX12_weds 66 = .ok (.istore_n 2, 1) := by decide +kernel
theorem dX12_weds_67 : decode cX12_weds 67 = .ok (.iload_n 2, 1) := by decide +kernel
theorem dX12_weds_68 : decode cX12_weds 68 = .ok (.ifCond .eq 57, 3) := by decide +kernel
theorem dX12_weds_71 : decode cX12_weds 71 = .ok (.iconst 0, 1) := by decide +kernel
theorem dX12_weds_72 : decode cX12_weds 72 = .ok (.istore_n 2, 1) := by decide +kernel
theorem dX12_weds_73 : decode cX12_weds 73 = .ok (.iconst 0, 1) := by decide +kernel
theorem dX12_weds_74 : decode cX12_weds 74 = .ok (.istore_n 3, 1) := by decide +kernel
theorem dX12_weds_75 : decode cX12_weds 75 = .ok (.iload_n 3, 1) := by decide +kernel
theorem dX12_weds_76 : decode cX12_weds 76 = .ok (.aload_n 0, 1) := by decide +kernel
theorem dX12_weds_77 : decode cX12_weds 77 = .ok (.getfield 92, 3) := by decide +kernel
theorem dX12_weds_80 : decode cX12_weds 80 = .ok (.if_icmp .ge 42, 3) := by decide +kernel
theorem dX12_weds_83 : decode cX12_weds 83 = .ok (.aload_n 0, 1) := by decide +kernel
theorem dX12_weds_84 : decode cX12_weds 84 = .ok (.getfield 61, 3) := by decide +kernel
theorem dX12_weds_87 : decode cX12_weds 87 = .ok (.iload_n 3, 1) := by decide +kernel
theorem dX12_weds_88 : decode cX12_weds 88 = .ok (.iaload, 1) := by decide +kernel
theorem dX12_weds_89 : decode cX12_weds 89 = .ok (.bipush (-9), 2) := by decide +kernel
theorem dX12_weds_91 : decode cX12_weds 91 = .ok (.if_icmp .ne 25, 3) := by decide +kernel
theorem dX12_weds_94 : decode cX12_weds 94 = .ok (.aload_n 0, 1) := by decide +kernel
theorem dX12_weds_95 : decode cX12_weds 95 = .ok (.iload_n 3, 1) := by decide +kernel
theorem dX12_weds_96 : decode cX12_weds 96 = .ok (.invokevirtual 234, 3) := by decide +kernel
theorem dX12_weds_99 : decode cX12_weds 99 = .ok (.bipush (-9), 2) := by decide +kernel
theorem dX12_weds_101 : decode cX12_weds 101 = .ok (.if_icmp .eq 15, 3) := by decide +kernel
theorem dX12_weds_104 : decode cX12_weds 104 = .ok (.aload_n 0, 1) := by decide +kernel
theorem dX12_weds_105 : decode cX12_weds 105 = .ok (.iload_n 3, 1) := by decide +kernel
theorem dX12_weds_106 : decode cX12_weds 106 = .ok (.aload_n 0, 1) := by decide +kernel
theorem dX12_weds_107 : decode cX12_weds 107 = .ok (.iload_n 3, 1) := by decide +kernel
theorem dX12_weds_108 : decode cX12_weds 108 = .ok (.invokevirtual 234, 3) := by decide +kernel
theorem dX12_weds_111 : decode cX12_weds 111 = .ok (.invokevirtual 237, 3) := by decide +kernel
theorem dX12_weds_114 : decode cX12_weds 114 = .ok (.iconst 1, 1) := by decide +kernel
theorem dX12_weds_115 : decode cX12_weds 115 = .ok (.istore_n 2, 1) := by decide +kernel
theorem dX12_weds_116 : decode cX12_weds 116 = .ok (.iinc 3 1, 3) := by decide +kernel
theorem dX12_weds_119 : decode cX12_weds 119 = .ok (.goto (-44), 3) := by decide +kernel
theorem dX12_weds_122 : decode cX12_weds 122 = .ok (.goto (-55), 3) := by decide +kernel
theorem dX12_weds_125 : decode cX12_weds 125 = .ok (.aload_n 0, 1) := by decide +kernel
theorem dX12_weds_126 : decode cX12_weds 126 = .ok (.getfield 61, 3) := by decide +kernel
theorem dX12_weds_129 : decode cX12_weds 129 = .ok (.iload_n 1, 1) := by decide +kernel
theorem dX12_weds_130 : decode cX12_weds 130 = .ok (.iaload, 1) := by decide +kernel
theorem dX12_weds_131 : decode cX12_weds 131 = .ok (.ireturn, 1) := by decide +kernel
theorem dX12_even_0 : decode cX12_even 0 = .ok (.aload_n 0, 1) := by decide +kernel
theorem dX12_even_1 : decode cX12_even 1 = .ok (.iload_n 1, 1) := by decide +kernel
theorem dX12_even_2 : decode cX12_even 2 = .ok (.invokevirtual 170, 3) := by decide +kernel
theorem dX12_even_5 : decode cX12_even 5 = .ok (.ifCond .eq 24, 3) := by decide +kernel
theorem dX12_even_8 : decode cX12_even 8 = .ok (.aload_n 0, 1) := by decide +kernel
theorem dX12_even_9 : decode cX12_even 9 = .ok (.iload_n 2, 1) := by decide +kernel
theorem dX12_even_10 : decode cX12_even 10 = .ok (.invokevirtual 170, 3) := by decide +kernel
theorem dX12_even_13 : decode cX12_even 13 = .ok (.ifCond .eq 16, 3) := by decide +kernel
theorem dX12_even_16 : decode cX12_even 16 = .ok (.iload_n 1, 1) := by decide +kernel
theorem dX12_even_17 : decode cX12_even 17 = .ok (.iload_n 2, 1) := by decide +kernel
theorem dX12_even_18 : decode cX12_even 18 = .ok (.if_icmp .eq 11, 3) := by decide +kernel
theorem dX12_even_21 : decode cX12_even 21 = .ok (.aload_n 0, 1) := by decide +kernel
theorem dX12_even_22 : decode cX12_even 22 = .ok (.iload_n 3, 1) := by decide +kernel
theorem dX12_even_23 : decode cX12_even 23 = .ok (.invokevirtual 161, 3) := by decide +kernel
theorem dX12_even_26 : decode cX12_even 26 = .ok (.ifCond .ne 5, 3) := by decide +kernel
theorem dX12_even_29 : decode cX12_even 29 = .ok (.iconst (-1), 1) := by decide +kernel
theorem dX12_even_30 : decode cX12_even 30 = .ok (.ireturn, 1) := by decide +kernel
theorem dX12_even_31 : decode cX12_even 31 = .ok (.aload_n 0, 1) := by decide +kernel
theorem dX12_even_32 : decode cX12_even 32 = .ok (.getfield 19, 3) := by decide +kernel
theorem dX12_even_35 : decode cX12_even 35 = .ok (.iload_n 3, 1) := by decide +kernel
theorem dX12_even_36 : decode cX12_even 36 = .ok (.iaload, 1) := by decide +kernel
theorem dX12_even_37 : decode cX12_even 37 = .ok (.istore 4, 2) := by decide +kernel
theorem dX12_even_39 : decode cX12_even 39 = .ok (.bipush (-9), 2) := by decide +kernel
theorem dX12_even_41 : decode cX12_even 41 = .ok (.istore 5, 2) := by decide +kernel
theorem dX12_even_43 : decode cX12_even 43 = .ok (.iconst 0, 1) := by decide +kernel
theorem dX12_even_44 : decode cX12_even 44 = .ok (.istore 6, 2) := by decide +kernel
theorem dX12_even_46 : decode cX12_even 46 = .ok (.iconst 1, 1) := by decide +kernel
theorem dX12_even_47 : decode cX12_even 47 = .ok (.istore 7, 2) := by decide +kernel
theorem dX12_even_49 : decode cX12_even 49 = .ok (.iload 7, 2) := by decide +kernel
theorem dX12_even_51 : decode cX12_even 51 = .ok (.bipush 9, 2) := by decide +kernel
theorem dX12_even_53 : decode cX12_even 53 = .ok (.if_icmp .gt 76, 3) := by decide +kernel
theorem dX12_even_56 : decode cX12_even 56 = .ok (.aload_n 0, 1) := by decide +kernel
theorem dX12_even_57 : decode cX12_even 57 = .ok (.getfield 19, 3) := by decide +kernel
theorem dX12_even_60 : decode cX12_even 60 = .ok (.iload_n 3, 1) := by decide +kernel
theorem dX12_even_61 : decode cX12_even 61 = .ok (.iload 7, 2) := by decide +kernel
theorem dX12_even_63 : decode cX12_even 63 = .ok (.iastore, 1) := by decide +kernel
theorem dX12_even_64 : decode cX12_even 64 = .ok (.iload 7, 2) := by decide +kernel
theorem dX12_even_66 : decode cX12_even 66 = .ok (.iload 4, 2) := by decide +kernel
theorem dX12_even_68 : decode cX12_even 68 = .ok (.if_icmp .ge 11, 3) := by decide +kernel
theorem dX12_even_71 : decode cX12_even 71 = .ok (.iload 4, 2) := by decide +kernel
theorem dX12_even_73 : decode cX12_even 73 = .ok (.iload 7, 2) := by decide +kernel
theorem dX12_even_75 : decode cX12_even 75 = .ok (.isub, 1) := by decide +kernel
theorem dX12_even_76 : decode cX12_even 76 = .ok (.goto 8, 3) := by decide +kernel
theorem dX12_even_79 : decode cX12_even 79 = .ok (.iload 7, 2) := by decide +kernel
theorem dX12_even_81 : decode cX12_even 81 = .ok (.iload 4, 2) := by decide +kernel
theorem dX12_even_83 : decode cX12_even 83 = .ok (.isub, 1) := by decide +kernel
theorem dX12_even_84 : decode cX12_even 84 = .ok (.istore 8, 2) := by decide +kernel
theorem dX12_even_86 : decode cX12_even 86 = .ok (.aload_n 0, 1) := by decide +kernel
theorem dX12_even_87 : decode cX12_even 87 = .ok (.iload_n 1, 1) := by decide +kernel
theorem dX12_even_88 : decode cX12_even 88 = .ok (.iload_n 3, 1) := by decide +kernel
theorem dX12_even_89 : decode cX12_even 89 = .ok (.invokevirtual 179, 3) := by decide +kernel
theorem dX12_even_92 : decode cX12_even 92 = .ok (.aload_n 0, 1) := by decide +kernel
theorem dX12_even_93 : decode cX12_even 93 = .ok (.iload_n 2, 1) := by decide +kernel
theorem dX12_even_94 : decode cX12_even 94 = .ok (.iload_n 3, 1) := by decide +kernel
theorem dX12_even_95 : decode cX12_even 95 = .ok (.invokevirtual 179, 3) := by decide +kernel
theorem dX12_even_98 : decode cX12_even 98 = .ok (.if_icmp .ne 25, 3) := by decide +kernel
theorem dX12_even_101 : decode cX12_even 101 = .ok (.iload 5, 2) := by decide +kernel
theorem dX12_even_103 : decode cX12_even 103 = .ok (.bipush (-9), 2) := by decide +kernel
theorem dX12_even_105 : decode cX12_even 105 = .ok (.if_icmp .eq 10, 3) := by decide +kernel
theorem dX12_even_108 : decode cX12_even 108 = .ok (.iload 8, 2) := by decide +kernel
theorem dX12_even_110 : decode cX12_even 110 = .ok (.iload 6, 2) := by decide +kernel
theorem dX12_even_112 : decode cX12_even 112 = .ok (.if_icmp .ge 11, 3) := by decide +kernel
theorem dX12_even_115 : decode cX12_even 115 = .ok (.iload 7, 2) := by decide +kernel
theorem dX12_even_117 : decode cX12_even 117 = .ok (.istore 5, 2) := by decide +kernel
theorem dX12_even_119 : decode cX12_even 119 = .ok (.iload 8, 2) := by decide +kernel
theorem dX12_even_121 : decode cX12_even 121 = .ok (.istore 6, 2) := by decide +kernel
theorem dX12_even_123 : decode cX12_even 123 = .ok (.iinc 7 1, 3) := by decide +kernel
theorem dX12_even_126 : decode cX12_even 126 = .ok (.goto (-77), 3) := by decide +kernel
theorem dX12_even_129 : decode cX12_even 129 = .ok (.aload_n 0, 1) := by decide +kernel
theorem dX12_even_130 : decode cX12_even 130 = .ok (.getfield 19, 3) := by decide +kernel
theorem dX12_even_133 : decode cX12_even 133 = .ok (.iload_n 3, 1) := by decide +kernel
theorem dX12_even_134 : decode cX12_even 134 = .ok (.iload 4, 2) := by decide +kernel
theorem dX12_even_136 : decode cX12_even 136 = .ok (.iastore, 1) := by decide +kernel
theorem dX12_even_137 : decode cX12_even 137 = .ok (.iload 5, 2) := by decide +kernel
theorem dX12_even_139 : decode cX12_even 139 = .ok (.ireturn, 1) := by decide +kernel
theorem dX12_reading_0 : decode cX12_reading 0 = .ok (.aload_n 0, 1) := by decide +kernel
theorem dX12_reading_1 : decode cX12_reading 1 = .ok (.iload_n 1, 1) := by decide +kernel
theorem dX12_reading_2 : decode cX12_reading 2 = .ok (.invokevirtual 170, 3) := by decide +kernel
theorem dX12_reading_5 : decode cX12_reading 5 = .ok (.ifCond .eq 11, 3) := by decide +kernel
theorem dX12_reading_8 : decode cX12_reading 8 = .ok (.aload_n 0, 1) := by decide +kernel
theorem dX12_reading_9 : decode cX12_reading 9 = .ok (.iload_n 2, 1) := by decide +kernel
theorem dX12_reading_10 : decode cX12_reading 10 = .ok (.invokevirtual 161, 3) := by decide +kernel
theorem dX12_reading_13 : decode cX12_reading 13 = .ok (.ifCond .ne 5, 3) := by decide +kernel
theorem dX12_reading_16 : decode cX12_reading 16 = .ok (.iconst (-1), 1) := by decide +kernel
theorem dX12_reading_17 : decode cX12_reading 17 = .ok (.ireturn, 1) := by decide +kernel
theorem dX12_reading_18 : decode cX12_reading 18 = .ok (.iload_n 3, 1) := by decide +kernel
theorem dX12_reading_19 : decode cX12_reading 19 = .ok (.iconst 0, 1) := by decide +kernel
theorem dX12_reading_20 : decode cX12_reading 20 = .ok (.bipush 20, 2) := by decide +kernel
theorem dX12_reading_22 : decode cX12_reading 22 = .ok (.invokestatic 85, 3) := by decide +kernel
theorem dX12_reading_25 : decode cX12_reading 25 = .ok (.ifCond .ne 6, 3) := by decide +kernel
theorem dX12_reading_28 : decode cX12_reading 28 = .ok (.bipush (-2), 2) := by decide +kernel
theorem dX12_reading_30 : decode cX12_reading 30 = .ok (.ireturn, 1) := by decide +kernel
theorem dX12_reading_31 : decode cX12_reading 31 = .ok (.aload_n 0, 1) := by decide +kernel
theorem dX12_reading_32 : decode cX12_reading 32 = .ok (.getfield 135, 3) := by decide +kernel
theorem dX12_reading_35 : decode cX12_reading 35 = .ok (.bipush 8, 2) := by decide +kernel
theorem dX12_reading_37 : decode cX12_reading 37 = .ok (.if_icmp .ne 6, 3) := by decide +kernel
theorem dX12_reading_40 : decode cX12_reading 40 = .ok (.bipush (-4), 2) := by decide +kernel
theorem dX12_reading_42 : decode cX12_reading 42 = .ok (.ireturn, 1) := by decide +kernel
theorem dX12_reading_43 : decode cX12_reading 43 = .ok (.aload_n 0, 1) := by decide +kernel
theorem dX12_reading_44 : decode cX12_reading 44 = .ok (.getfield 70, 3) := by decide +kernel
theorem dX12_reading_47 : decode cX12_reading 47 = .ok (.aload_n 0, 1) := by decide +kernel
theorem dX12_reading_48 : decode cX12_reading 48 = .ok (.getfield 135, 3) := by decide +kernel
theorem dX12_reading_51 : decode cX12_reading 51 = .ok (.iload_n 1, 1) := by decide +kernel
theorem dX12_reading_52 : decode cX12_reading 52 = .ok (.iastore, 1) := by decide +kernel
theorem dX12_reading_53 : decode cX12_reading 53 = .ok (.aload_n 0, 1) := by decide +kernel
theorem dX12_reading_54 : decode cX12_reading 54 = .ok (.getfield 73, 3) := by decide +kernel
theorem dX12_reading_57 : decode cX12_reading 57 = .ok (.aload_n 0, 1) := by decide +kernel
theorem dX12_reading_58 : decode cX12_reading 58 = .ok (.getfield 135, 3) := by decide +kernel
theorem dX12_reading_61 : decode cX12_reading 61 = .ok (.iload_n 2, 1) := by decide +kernel
theorem dX12_reading_62 : decode cX12_reading 62 = .ok (.iastore, 1) := by decide +kernel
theorem dX12_reading_63 : decode cX12_reading 63 = .ok (.aload_n 0, 1) := by decide +kernel
theorem dX12_reading_64 : decode cX12_reading 64 = .ok (.getfield 76, 3) := by decide +kernel
theorem dX12_reading_67 : decode cX12_reading 67 = .ok (.aload_n 0, 1) := by decide +kernel
theorem dX12_reading_68 : decode cX12_reading 68 = .ok (.getfield 135, 3) := by decide +kernel
theorem dX12_reading_71 : decode cX12_reading 71 = .ok (.iload_n 3, 1) := by decide +kernel
theorem dX12_reading_72 : decode cX12_reading 72 = .ok (.iastore, 1) := by decide +kernel
theorem dX12_reading_73 : decode cX12_reading 73 = .ok (.aload_n 0, 1) := by decide +kernel
theorem dX12_reading_74 : decode cX12_reading 74 = .ok (.dup, 1) := by decide +kernel
theorem dX12_reading_75 : decode cX12_reading 75 = .ok (.getfield 135, 3) := by decide +kernel
theorem dX12_reading_78 : decode cX12_reading 78 = .ok (.iconst 1, 1) := by decide +kernel
theorem dX12_reading_79 : decode cX12_reading 79 = .ok (.iadd, 1) := by decide +kernel
theorem dX12_reading_80 : decode cX12_reading 80 = .ok (.putfield 135, 3) := by decide +kernel
theorem dX12_reading_83 : decode cX12_reading 83 = .ok (.aload_n 0, 1) := by decide +kernel
theorem dX12_reading_84 : decode cX12_reading 84 = .ok (.getfield 135, 3) := by decide +kernel
theorem dX12_reading_87 : decode cX12_reading 87 = .ok (.iconst 1, 1) := by decide +kernel
theorem dX12_reading_88 : decode cX12_reading 88 = .ok (.isub, 1) := by decide +kernel
theorem dX12_reading_89 : decode cX12_reading 89 = .ok (.ireturn, 1) := by decide +kernel
theorem dX12_back_0 : decode cX12_back 0 = .ok (.iload_n 1, 1) := by decide +kernel
theorem dX12_back_1 : decode cX12_back 1 = .ok (.iconst 0, 1) := by decide +kernel
theorem dX12_back_2 : decode cX12_back 2 = .ok (.aload_n 0, 1) := by decide +kernel
theorem dX12_back_3 : decode cX12_back 3 = .ok (.getfield 135, 3) := by decide +kernel
theorem dX12_back_6 : decode cX12_back 6 = .ok (.invokestatic 85, 3) := by decide +kernel
theorem dX12_back_9 : decode cX12_back 9 = .ok (.ifCond .ne 6, 3) := by decide +kernel
theorem dX12_back_12 : decode cX12_back 12 = .ok (.bipush (-2), 2) := by decide +kernel
theorem dX12_back_14 : decode cX12_back 14 = .ok (.ireturn, 1) := by decide +kernel
theorem dX12_back_15 : decode cX12_back 15 = .ok (.aload_n 0, 1) := by decide +kernel
theorem dX12_back_16 : decode cX12_back 16 = .ok (.dup, 1) := by decide +kernel
theorem dX12_back_17 : decode cX12_back 17 = .ok (.getfield 135, 3) := by decide +kernel
theorem dX12_back_20 : decode cX12_back 20 = .ok (.iload_n 1, 1) := by decide +kernel
theorem dX12_back_21 : decode cX12_back 21 = .ok (.isub, 1) := by decide +kernel
theorem dX12_back_22 : decode cX12_back 22 = .ok (.putfield 135, 3) := by decide +kernel
theorem dX12_back_25 : decode cX12_back 25 = .ok (.aload_n 0, 1) := by decide +kernel
theorem dX12_back_26 : decode cX12_back 26 = .ok (.getfield 135, 3) := by decide +kernel
theorem dX12_back_29 : decode cX12_back 29 = .ok (.ireturn, 1) := by decide +kernel
theorem dX12_areSo_0 : decode cX12_areSo 0 = .ok (.iconst 0, 1) := by decide +kernel
theorem dX12_areSo_1 : decode cX12_areSo 1 = .ok (.istore_n 1, 1) := by decide +kernel
theorem dX12_areSo_2 : decode cX12_areSo 2 = .ok (.iload_n 1, 1) := by decide +kernel
theorem dX12_areSo_3 : decode cX12_areSo 3 = .ok (.aload_n 0, 1) := by decide +kernel
theorem dX12_areSo_4 : decode cX12_areSo 4 = .ok (.getfield 135, 3) := by decide +kernel
theorem dX12_areSo_7 : decode cX12_areSo 7 = .ok (.if_icmp .ge 36, 3) := by decide +kernel
theorem dX12_areSo_10 : decode cX12_areSo 10 = .ok (.aload_n 0, 1) := by decide +kernel
theorem dX12_areSo_11 : decode cX12_areSo 11 = .ok (.aload_n 0, 1) := by decide +kernel
theorem dX12_areSo_12 : decode cX12_areSo 12 = .ok (.getfield 70, 3) := by decide +kernel
theorem dX12_areSo_15 : decode cX12_areSo 15 = .ok (.iload_n 1, 1) := by decide +kernel
theorem dX12_areSo_16 : decode cX12_areSo 16 = .ok (.iaload, 1) := by decide +kernel
theorem dX12_areSo_17 : decode cX12_areSo 17 = .ok (.aload_n 0, 1) := by decide +kernel
theorem dX12_areSo_18 : decode cX12_areSo 18 = .ok (.getfield 73, 3) := by decide +kernel
theorem dX12_areSo_21 : decode cX12_areSo 21 = .ok (.iload_n 1, 1) := by decide +kernel
theorem dX12_areSo_22 : decode cX12_areSo 22 = .ok (.iaload, 1) := by decide +kernel
theorem dX12_areSo_23 : decode cX12_areSo 23 = .ok (.invokevirtual 179, 3) := by decide +kernel
theorem dX12_areSo_26 : decode cX12_areSo 26 = .ok (.aload_n 0, 1) := by decide +kernel
theorem dX12_areSo_27 : decode cX12_areSo 27 = .ok (.getfield 76, 3) := by decide +kernel
theorem dX12_areSo_30 : decode cX12_areSo 30 = .ok (.iload_n 1, 1) := by decide +kernel
theorem dX12_areSo_31 : decode cX12_areSo 31 = .ok (.iaload, 1) := by decide +kernel
theorem dX12_areSo_32 : decode cX12_areSo 32 = .ok (.if_icmp .eq 5, 3) := by decide +kernel
theorem dX12_areSo_35 : decode cX12_areSo 35 = .ok (.iconst 0, 1) := by decide +kernel
theorem dX12_areSo_36 : decode cX12_areSo 36 = .ok (.ireturn, 1) := by decide +kernel
theorem dX12_areSo_37 : decode cX12_areSo 37 = .ok (.iinc 1 1, 3) := by decide +kernel
theorem dX12_areSo_40 : decode cX12_areSo 40 = .ok (.goto (-38), 3) := by decide +kernel
theorem dX12_areSo_43 : decode cX12_areSo 43 = .ok (.iconst 1, 1) := by decide +kernel
theorem dX12_areSo_44 : decode cX12_areSo 44 = .ok (.ireturn, 1) := by decide +kernel
theorem dX12_leans_0 : decode cX12_leans 0 = .ok (.aload_n 0, 1) := by decide +kernel
theorem dX12_leans_1 : decode cX12_leans 1 = .ok (.iload_n 1, 1) := by decide +kernel
theorem dX12_leans_2 : decode cX12_leans 2 = .ok (.invokevirtual 161, 3) := by decide +kernel
theorem dX12_leans_5 : decode cX12_leans 5 = .ok (.ifCond .ne 5, 3) := by decide +kernel
theorem dX12_leans_8 : decode cX12_leans 8 = .ok (.iconst (-1), 1) := by decide +kernel
theorem dX12_leans_9 : decode cX12_leans 9 = .ok (.ireturn, 1) := by decide +kernel
theorem dX12_leans_10 : decode cX12_leans 10 = .ok (.aload_n 0, 1) := by decide +kernel
theorem dX12_leans_11 : decode cX12_leans 11 = .ok (.getfield 22, 3) := by decide +kernel
theorem dX12_leans_14 : decode cX12_leans 14 = .ok (.iload_n 1, 1) := by decide +kernel
theorem dX12_leans_15 : decode cX12_leans 15 = .ok (.iaload, 1) := by decide +kernel
theorem dX12_leans_16 : decode cX12_leans 16 = .ok (.istore_n 2, 1) := by decide +kernel
theorem dX12_leans_17 : decode cX12_leans 17 = .ok (.iconst 0, 1) := by decide +kernel
theorem dX12_leans_18 : decode cX12_leans 18 = .ok (.istore_n 3, 1) := by decide +kernel
theorem dX12_leans_19 : decode cX12_leans 19 = .ok (.iconst 0, 1) := by decide +kernel
theorem dX12_leans_20 : decode cX12_leans 20 = .ok (.istore 4, 2) := by decide +kernel
theorem dX12_leans_22 : decode cX12_leans 22 = .ok (.iload 4, 2) := by decide +kernel
theorem dX12_leans_24 : decode cX12_leans 24 = .ok (.bipush 9, 2) := by decide +kernel
theorem dX12_leans_26 : decode cX12_leans 26 = .ok (.if_icmp .gt 35, 3) := by decide +kernel
theorem dX12_leans_29 : decode cX12_leans 29 = .ok (.aload_n 0, 1) := by decide +kernel
theorem dX12_leans_30 : decode cX12_leans 30 = .ok (.getfield 22, 3) := by decide +kernel
theorem dX12_leans_33 : decode cX12_leans 33 = .ok (.iload_n 1, 1) := by decide +kernel
theorem dX12_leans_34 : decode cX12_leans 34 = .ok (.iload 4, 2) := by decide +kernel
theorem dX12_leans_36 : decode cX12_leans 36 = .ok (.iastore, 1) := by decide +kernel
theorem dX12_leans_37 : decode cX12_leans 37 = .ok (.iload_n 3, 1) := by decide +kernel
theorem dX12_leans_38 : decode cX12_leans 38 = .ok (.aload_n 0, 1) := by decide +kernel
theorem dX12_leans_39 : decode cX12_leans 39 = .ok (.invokevirtual 241, 3) := by decide +kernel
theorem dX12_leans_42 : decode cX12_leans 42 = .ok (.ifCond .eq 10, 3) := by decide +kernel
theorem dX12_leans_45 : decode cX12_leans 45 = .ok (.iconst 1, 1) := by decide +kernel
theorem dX12_leans_46 : decode cX12_leans 46 = .ok (.iload 4, 2) := by decide +kernel
theorem dX12_leans_48 : decode cX12_leans 48 = .ok (.ishl, 1) := by decide +kernel
theorem dX12_leans_49 : decode cX12_leans 49 = .ok (.goto 4, 3) := by decide +kernel
theorem dX12_leans_52 : decode cX12_leans 52 = .ok (.iconst 0, 1) := by decide +kernel
theorem dX12_leans_53 : decode cX12_leans 53 = .ok (.ior, 1) := by decide +kernel
theorem dX12_leans_54 : decode cX12_leans 54 = .ok (.istore_n 3, 1) := by decide +kernel
theorem dX12_leans_55 : decode cX12_leans 55 = .ok (.iinc 4 1, 3) := by decide +kernel
theorem dX12_leans_58 : decode cX12_leans 58 = .ok (.goto (-36), 3) := by decide +kernel
theorem dX12_leans_61 : decode cX12_leans 61 = .ok (.aload_n 0, 1) := by decide +kernel
theorem dX12_leans_62 : decode cX12_leans 62 = .ok (.getfield 22, 3) := by decide +kernel
theorem dX12_leans_65 : decode cX12_leans 65 = .ok (.iload_n 1, 1) := by decide +kernel
theorem dX12_leans_66 : decode cX12_leans 66 = .ok (.iload_n 2, 1) := by decide +kernel
theorem dX12_leans_67 : decode cX12_leans 67 = .ok (.iastore, 1) := by decide +kernel
theorem dX12_leans_68 : decode cX12_leans 68 = .ok (.iload_n 3, 1) := by decide +kernel
theorem dX12_leans_69 : decode cX12_leans 69 = .ok (.ireturn, 1) := by decide +kernel
theorem dX12_arms_0 : decode cX12_arms 0 = .ok (.aload_n 0, 1) := by decide +kernel
theorem dX12_arms_1 : decode cX12_arms 1 = .ok (.iload_n 1, 1) := by decide +kernel
theorem dX12_arms_2 : decode cX12_arms 2 = .ok (.invokevirtual 170, 3) := by decide +kernel
theorem dX12_arms_5 : decode cX12_arms 5 = .ok (.ifCond .ne 5, 3) := by decide +kernel
theorem dX12_arms_8 : decode cX12_arms 8 = .ok (.iconst (-1), 1) := by decide +kernel
theorem dX12_arms_9 : decode cX12_arms 9 = .ok (.ireturn, 1) := by decide +kernel
theorem dX12_arms_10 : decode cX12_arms 10 = .ok (.aload_n 0, 1) := by decide +kernel
theorem dX12_arms_11 : decode cX12_arms 11 = .ok (.getfield 28, 3) := by decide +kernel
theorem dX12_arms_14 : decode cX12_arms 14 = .ok (.iload_n 1, 1) := by decide +kernel
theorem dX12_arms_15 : decode cX12_arms 15 = .ok (.iaload, 1) := by decide +kernel
theorem dX12_arms_16 : decode cX12_arms 16 = .ok (.istore_n 2, 1) := by decide +kernel
theorem dX12_arms_17 : decode cX12_arms 17 = .ok (.iconst 0, 1) := by decide +kernel
theorem dX12_arms_18 : decode cX12_arms 18 = .ok (.istore_n 3, 1) := by decide +kernel
theorem dX12_arms_19 : decode cX12_arms 19 = .ok (.iconst 1, 1) := by decide +kernel
theorem dX12_arms_20 : decode cX12_arms 20 = .ok (.istore 4, 2) := by decide +kernel
theorem dX12_arms_22 : decode cX12_arms 22 = .ok (.iload 4, 2) := by decide +kernel
theorem dX12_arms_24 : decode cX12_arms 24 = .ok (.bipush 9, 2) := by decide +kernel
theorem dX12_arms_26 : decode cX12_arms 26 = .ok (.if_icmp .gt 35, 3) := by decide +kernel
theorem dX12_arms_29 : decode cX12_arms 29 = .ok (.aload_n 0, 1) := by decide +kernel
theorem dX12_arms_30 : decode cX12_arms 30 = .ok (.getfield 28, 3) := by decide +kernel
theorem dX12_arms_33 : decode cX12_arms 33 = .ok (.iload_n 1, 1) := by decide +kernel
theorem dX12_arms_34 : decode cX12_arms 34 = .ok (.iload 4, 2) := by decide +kernel
theorem dX12_arms_36 : decode cX12_arms 36 = .ok (.iastore, 1) := by decide +kernel
theorem dX12_arms_37 : decode cX12_arms 37 = .ok (.iload_n 3, 1) := by decide +kernel
theorem dX12_arms_38 : decode cX12_arms 38 = .ok (.aload_n 0, 1) := by decide +kernel
theorem dX12_arms_39 : decode cX12_arms 39 = .ok (.invokevirtual 241, 3) := by decide +kernel
theorem dX12_arms_42 : decode cX12_arms 42 = .ok (.ifCond .eq 10, 3) := by decide +kernel
theorem dX12_arms_45 : decode cX12_arms 45 = .ok (.iconst 1, 1) := by decide +kernel
theorem dX12_arms_46 : decode cX12_arms 46 = .ok (.iload 4, 2) := by decide +kernel
theorem dX12_arms_48 : decode cX12_arms 48 = .ok (.ishl, 1) := by decide +kernel
theorem dX12_arms_49 : decode cX12_arms 49 = .ok (.goto 4, 3) := by decide +kernel
theorem dX12_arms_52 : decode cX12_arms 52 = .ok (.iconst 0, 1) := by decide +kernel
theorem dX12_arms_53 : decode cX12_arms 53 = .ok (.ior, 1) := by decide +kernel
theorem dX12_arms_54 : decode cX12_arms 54 = .ok (.istore_n 3, 1) := by decide +kernel
theorem dX12_arms_55 : decode cX12_arms 55 = .ok (.iinc 4 1, 3) := by decide +kernel
theorem dX12_arms_58 : decode cX12_arms 58 = .ok (.goto (-36), 3) := by decide +kernel
theorem dX12_arms_61 : decode cX12_arms 61 = .ok (.aload_n 0, 1) := by decide +kernel
theorem dX12_arms_62 : decode cX12_arms 62 = .ok (.getfield 28, 3) := by decide +kernel
theorem dX12_arms_65 : decode cX12_arms 65 = .ok (.iload_n 1, 1) := by decide +kernel
theorem dX12_arms_66 : decode cX12_arms 66 = .ok (.iload_n 2, 1) := by decide +kernel
theorem dX12_arms_67 : decode cX12_arms 67 = .ok (.iastore, 1) := by decide +kernel
theorem dX12_arms_68 : decode cX12_arms 68 = .ok (.iload_n 3, 1) := by decide +kernel
theorem dX12_arms_69 : decode cX12_arms 69 = .ok (.ireturn, 1) := by decide +kernel
theorem dX12_kinds_0 : decode cX12_kinds 0 = .ok (.aload_n 0, 1) := by decide +kernel
theorem dX12_kinds_1 : decode cX12_kinds 1 = .ok (.iload_n 1, 1) := by decide +kernel
theorem dX12_kinds_2 : decode cX12_kinds 2 = .ok (.invokevirtual 170, 3) := by decide +kernel
theorem dX12_kinds_5 : decode cX12_kinds 5 = .ok (.ifCond .ne 5, 3) := by decide +kernel
theorem dX12_kinds_8 : decode cX12_kinds 8 = .ok (.iconst (-1), 1) := by decide +kernel
theorem dX12_kinds_9 : decode cX12_kinds 9 = .ok (.ireturn, 1) := by decide +kernel
theorem dX12_kinds_10 : decode cX12_kinds 10 = .ok (.aload_n 0, 1) := by decide +kernel
theorem dX12_kinds_11 : decode cX12_kinds 11 = .ok (.getfield 25, 3) := by decide +kernel
theorem dX12_kinds_14 : decode cX12_kinds 14 = .ok (.iload_n 1, 1) := by decide +kernel
theorem dX12_kinds_15 : decode cX12_kinds 15 = .ok (.iaload, 1) := by decide +kernel
theorem dX12_kinds_16 : decode cX12_kinds 16 = .ok (.istore_n 2, 1) := by decide +kernel
theorem dX12_kinds_17 : decode cX12_kinds 17 = .ok (.iconst 0, 1) := by decide +kernel
theorem dX12_kinds_18 : decode cX12_kinds 18 = .ok (.istore_n 3, 1) := by decide +kernel
theorem dX12_kinds_19 : decode cX12_kinds 19 = .ok (.iconst 0, 1) := by decide +kernel
theorem dX12_kinds_20 : decode cX12_kinds 20 = .ok (.istore 4, 2) := by decide +kernel
theorem dX12_kinds_22 : decode cX12_kinds 22 = .ok (.iload 4, 2) := by decide +kernel
theorem dX12_kinds_24 : decode cX12_kinds 24 = .ok (.iconst 3, 1) := by decide +kernel
theorem dX12_kinds_25 : decode cX12_kinds 25 = .ok (.if_icmp .ge 35, 3) := by decide +kernel
theorem dX12_kinds_28 : decode cX12_kinds 28 = .ok (.aload_n 0, 1) := by decide +kernel
theorem dX12_kinds_29 : decode cX12_kinds 29 = .ok (.getfield 25, 3) := by decide +kernel
theorem dX12_kinds_32 : decode cX12_kinds 32 = .ok (.iload_n 1, 1) := by decide +kernel
theorem dX12_kinds_33 : decode cX12_kinds 33 = .ok (.iload 4, 2) := by decide +kernel
theorem dX12_kinds_35 : decode cX12_kinds 35 = .ok (.iastore, 1) := by decide +kernel
theorem dX12_kinds_36 : decode cX12_kinds 36 = .ok (.iload_n 3, 1) := by decide +kernel
theorem dX12_kinds_37 : decode cX12_kinds 37 = .ok (.aload_n 0, 1) := by decide +kernel
theorem dX12_kinds_38 : decode cX12_kinds 38 = .ok (.invokevirtual 241, 3) := by decide +kernel
theorem dX12_kinds_41 : decode cX12_kinds 41 = .ok (.ifCond .eq 10, 3) := by decide +kernel
theorem dX12_kinds_44 : decode cX12_kinds 44 = .ok (.iconst 1, 1) := by decide +kernel
theorem dX12_kinds_45 : decode cX12_kinds 45 = .ok (.iload 4, 2) := by decide +kernel
theorem dX12_kinds_47 : decode cX12_kinds 47 = .ok (.ishl, 1) := by decide +kernel
theorem dX12_kinds_48 : decode cX12_kinds 48 = .ok (.goto 4, 3) := by decide +kernel
theorem dX12_kinds_51 : decode cX12_kinds 51 = .ok (.iconst 0, 1) := by decide +kernel
theorem dX12_kinds_52 : decode cX12_kinds 52 = .ok (.ior, 1) := by decide +kernel
theorem dX12_kinds_53 : decode cX12_kinds 53 = .ok (.istore_n 3, 1) := by decide +kernel
theorem dX12_kinds_54 : decode cX12_kinds 54 = .ok (.iinc 4 1, 3) := by decide +kernel
theorem dX12_kinds_57 : decode cX12_kinds 57 = .ok (.goto (-35), 3) := by decide +kernel
theorem dX12_kinds_60 : decode cX12_kinds 60 = .ok (.aload_n 0, 1) := by decide +kernel
theorem dX12_kinds_61 : decode cX12_kinds 61 = .ok (.getfield 25, 3) := by decide +kernel
theorem dX12_kinds_64 : decode cX12_kinds 64 = .ok (.iload_n 1, 1) := by decide +kernel
theorem dX12_kinds_65 : decode cX12_kinds 65 = .ok (.iload_n 2, 1) := by decide +kernel
theorem dX12_kinds_66 : decode cX12_kinds 66 = .ok (.iastore, 1) := by decide +kernel
theorem dX12_kinds_67 : decode cX12_kinds 67 = .ok (.iload_n 3, 1) := by decide +kernel
theorem dX12_kinds_68 : decode cX12_kinds 68 = .ok (.ireturn, 1) := by decide +kernel
theorem dX12_inLeastTerms_0 : decode cX12_inLeastTerms 0 = .ok (.lload_n 0, 1) := by decide +kernel
theorem dX12_inLeastTerms_1 : decode cX12_inLeastTerms 1 = .ok (.lstore 5, 2) := by decide +kernel
theorem dX12_inLeastTerms_3 : decode cX12_inLeastTerms 3 = .ok (.lload_n 2, 1) := by decide +kernel
theorem dX12_inLeastTerms_4 : decode cX12_inLeastTerms 4 = .ok (.lstore 7, 2) := by decide +kernel
theorem dX12_inLeastTerms_6 : decode cX12_inLeastTerms 6 = .ok (.lload 7, 2) := by decide +kernel
theorem dX12_inLeastTerms_8 : decode cX12_inLeastTerms 8 = .ok (.lconst 0, 1) := by decide +kernel
theorem dX12_inLeastTerms_9 : decode cX12_inLeastTerms 9 = .ok (.lcmp, 1) := by decide +kernel
theorem dX12_inLeastTerms_10 : decode cX12_inLeastTerms 10 = .ok (.ifCond .eq 21, 3) := by decide +kernel
theorem dX12_inLeastTerms_13 : decode cX12_inLeastTerms 13 = .ok (.lload 5, 2) := by decide +kernel
theorem dX12_inLeastTerms_15 : decode cX12_inLeastTerms 15 = .ok (.lload 7, 2) := by decide +kernel
theorem dX12_inLeastTerms_17 : decode cX12_inLeastTerms 17 = .ok (.lrem, 1) := by decide +kernel
theorem dX12_inLeastTerms_18 : decode cX12_inLeastTerms 18 = .ok (.lstore 9, 2) := by decide +kernel
theorem dX12_inLeastTerms_20 : decode cX12_inLeastTerms 20 = .ok (.lload 7, 2) := by decide +kernel
theorem dX12_inLeastTerms_22 : decode cX12_inLeastTerms 22 = .ok (.lstore 5, 2) := by decide +kernel
theorem dX12_inLeastTerms_24 : decode cX12_inLeastTerms 24 = .ok (.lload 9, 2) := by decide +kernel
theorem dX12_inLeastTerms_26 : decode cX12_inLeastTerms 26 = .ok (.lstore 7, 2) := by decide +kernel
theorem dX12_inLeastTerms_28 : decode cX12_inLeastTerms 28 = .ok (.goto (-22), 3) := by decide +kernel
theorem dX12_inLeastTerms_31 : decode cX12_inLeastTerms 31 = .ok (.iload 4, 2) := by decide +kernel
theorem dX12_inLeastTerms_33 : decode cX12_inLeastTerms 33 = .ok (.ifCond .ne 10, 3) := by decide +kernel
theorem dX12_inLeastTerms_36 : decode cX12_inLeastTerms 36 = .ok (.lload_n 0, 1) := by decide +kernel
theorem dX12_inLeastTerms_37 : decode cX12_inLeastTerms 37 = .ok (.lload 5, 2) := by decide +kernel
theorem dX12_inLeastTerms_39 : decode cX12_inLeastTerms 39 = .ok (.ldiv, 1) := by decide +kernel
theorem dX12_inLeastTerms_40 : decode cX12_inLeastTerms 40 = .ok (.goto 7, 3) := by decide +kernel
theorem dX12_inLeastTerms_43 : decode cX12_inLeastTerms 43 = .ok (.lload_n 2, 1) := by decide +kernel
theorem dX12_inLeastTerms_44 : decode cX12_inLeastTerms 44 = .ok (.lload 5, 2) := by decide +kernel
theorem dX12_inLeastTerms_46 : decode cX12_inLeastTerms 46 = .ok (.ldiv, 1) := by decide +kernel
theorem dX12_inLeastTerms_47 : decode cX12_inLeastTerms 47 = .ok (.lreturn, 1) := by decide +kernel
theorem dX12_odds_0 : decode cX12_odds 0 = .ok (.aload_n 0, 1) := by decide +kernel
theorem dX12_odds_1 : decode cX12_odds 1 = .ok (.iload_n 1, 1) := by decide +kernel
theorem dX12_odds_2 : decode cX12_odds 2 = .ok (.invokevirtual 170, 3) := by decide +kernel
theorem dX12_odds_5 : decode cX12_odds 5 = .ok (.ifCond .eq 20, 3) := by decide +kernel
theorem dX12_odds_8 : decode cX12_odds 8 = .ok (.aload_n 0, 1) := by decide +kernel
theorem dX12_odds_9 : decode cX12_odds 9 = .ok (.iload_n 2, 1) := by decide +kernel
theorem dX12_odds_10 : decode cX12_odds 10 = .ok (.invokevirtual 161, 3) := by decide +kernel
theorem dX12_odds_13 : decode cX12_odds 13 = .ok (.ifCond .eq 12, 3) := by decide +kernel
theorem dX12_odds_16 : decode cX12_odds 16 = .ok (.iload_n 3, 1) := by decide +kernel
theorem dX12_odds_17 : decode cX12_odds 17 = .ok (.iconst 0, 1) := by decide +kernel
theorem dX12_odds_18 : decode cX12_odds 18 = .ok (.iconst 1, 1) := by decide +kernel
theorem dX12_odds_19 : decode cX12_odds 19 = .ok (.invokestatic 85, 3) := by decide +kernel
theorem dX12_odds_22 : decode cX12_odds 22 = .ok (.ifCond .ne 7, 3) := by decide +kernel
theorem dX12_odds_25 : decode cX12_odds 25 = .ok (.ldc2_w 83, 3) := by decide +kernel
theorem dX12_odds_28 : decode cX12_odds 28 = .ok (.lreturn, 1) := by decide +kernel
theorem dX12_odds_29 : decode cX12_odds 29 = .ok (.iconst 0, 1) := by decide +kernel
theorem dX12_odds_30 : decode cX12_odds 30 = .ok (.istore 4, 2) := by decide +kernel
theorem dX12_odds_32 : decode cX12_odds 32 = .ok (.iconst (-1), 1) := by decide +kernel
theorem dX12_odds_33 : decode cX12_odds 33 = .ok (.istore 5, 2) := by decide +kernel
theorem dX12_odds_35 : decode cX12_odds 35 = .ok (.iload 5, 2) := by decide +kernel
theorem dX12_odds_37 : decode cX12_odds 37 = .ok (.iconst 1, 1) := by decide +kernel
theorem dX12_odds_38 : decode cX12_odds 38 = .ok (.if_icmp .gt 41, 3) := by decide +kernel
theorem dX12_odds_41 : decode cX12_odds 41 = .ok (.iload 4, 2) := by decide +kernel
theorem dX12_odds_43 : decode cX12_odds 43 = .ok (.aload_n 0, 1) := by decide +kernel
theorem dX12_odds_44 : decode cX12_odds 44 = .ok (.iload_n 1, 1) := by decide +kernel
theorem dX12_odds_45 : decode cX12_odds 45 = .ok (.iload_n 2, 1) := by decide +kernel
theorem dX12_odds_46 : decode cX12_odds 46 = .ok (.aload_n 0, 1) := by decide +kernel
theorem dX12_odds_47 : decode cX12_odds 47 = .ok (.aload_n 0, 1) := by decide +kernel
theorem dX12_odds_48 : decode cX12_odds 48 = .ok (.iload_n 1, 1) := by decide +kernel
theorem dX12_odds_49 : decode cX12_odds 49 = .ok (.invokevirtual 151, 3) := by decide +kernel
theorem dX12_odds_52 : decode cX12_odds 52 = .ok (.iload 5, 2) := by decide +kernel
theorem dX12_odds_54 : decode cX12_odds 54 = .ok (.iadd, 1) := by decide +kernel
theorem dX12_odds_55 : decode cX12_odds 55 = .ok (.iload_n 2, 1) := by decide +kernel
theorem dX12_odds_56 : decode cX12_odds 56 = .ok (.invokevirtual 154, 3) := by decide +kernel
theorem dX12_odds_59 : decode cX12_odds 59 = .ok (.invokevirtual 213, 3) := by decide +kernel
theorem dX12_odds_62 : decode cX12_odds 62 = .ok (.ifCond .eq 7, 3) := by decide +kernel
theorem dX12_odds_65 : decode cX12_odds 65 = .ok (.iconst 1, 1) := by decide +kernel
theorem dX12_odds_66 : decode cX12_odds 66 = .ok (.goto 4, 3) := by decide +kernel
theorem dX12_odds_69 : decode cX12_odds 69 = .ok (.iconst 0, 1) := by decide +kernel
theorem dX12_odds_70 : decode cX12_odds 70 = .ok (.iadd, 1) := by decide +kernel
theorem dX12_odds_71 : decode cX12_odds 71 = .ok (.istore 4, 2) := by decide +kernel
theorem dX12_odds_73 : decode cX12_odds 73 = .ok (.iinc 5 1, 3) := by decide +kernel
theorem dX12_odds_76 : decode cX12_odds 76 = .ok (.goto (-41), 3) := by decide +kernel
theorem dX12_odds_79 : decode cX12_odds 79 = .ok (.iload 4, 2) := by decide +kernel
theorem dX12_odds_81 : decode cX12_odds 81 = .ok (.i2l, 1) := by decide +kernel
theorem dX12_odds_82 : decode cX12_odds 82 = .ok (.ldc2_w 245, 3) := by decide +kernel
theorem dX12_odds_85 : decode cX12_odds 85 = .ok (.iload_n 3, 1) := by decide +kernel
theorem dX12_odds_86 : decode cX12_odds 86 = .ok (.invokestatic 247, 3) := by decide +kernel
theorem dX12_odds_89 : decode cX12_odds 89 = .ok (.lreturn, 1) := by decide +kernel
theorem dX12_sheet_0 : decode cX12_sheet 0 = .ok (.aload_n 0, 1) := by decide +kernel
theorem dX12_sheet_1 : decode cX12_sheet 1 = .ok (.iconst 0, 1) := by decide +kernel
theorem dX12_sheet_2 : decode cX12_sheet 2 = .ok (.putfield 79, 3) := by decide +kernel
theorem dX12_sheet_5 : decode cX12_sheet 5 = .ok (.iload_n 1, 1) := by decide +kernel
theorem dX12_sheet_6 : decode cX12_sheet 6 = .ok (.invokestatic 102, 3) := by decide +kernel
theorem dX12_sheet_9 : decode cX12_sheet 9 = .ok (.ifCond .ne 5, 3) := by decide +kernel
theorem dX12_sheet_12 : decode cX12_sheet 12 = .ok (.iconst (-1), 1) := by decide +kernel
theorem dX12_sheet_13 : decode cX12_sheet 13 = .ok (.ireturn, 1) := by decide +kernel
theorem dX12_sheet_14 : decode cX12_sheet 14 = .ok (.iload_n 2, 1) := by decide +kernel
theorem dX12_sheet_15 : decode cX12_sheet 15 = .ok (.invokestatic 106, 3) := by decide +kernel
theorem dX12_sheet_18 : decode cX12_sheet 18 = .ok (.ifCond .eq 9, 3) := by decide +kernel
theorem dX12_sheet_21 : decode cX12_sheet 21 = .ok (.iload_n 3, 1) := by decide +kernel
theorem dX12_sheet_22 : decode cX12_sheet 22 = .ok (.bipush 60, 2) := by decide +kernel
theorem dX12_sheet_24 : decode cX12_sheet 24 = .ok (.if_icmp .le 6, 3) := by decide +kernel
theorem dX12_sheet_27 : decode cX12_sheet 27 = .ok (.bipush (-2), 2) := by decide +kernel
theorem dX12_sheet_29 : decode cX12_sheet 29 = .ok (.ireturn, 1) := by decide +kernel
theorem dX12_sheet_30 : decode cX12_sheet 30 = .ok (.iload_n 3, 1) := by decide +kernel
theorem dX12_sheet_31 : decode cX12_sheet 31 = .ok (.ifCond .ge 9, 3) := by decide +kernel
theorem dX12_sheet_34 : decode cX12_sheet 34 = .ok (.aload_n 0, 1) := by decide +kernel
theorem dX12_sheet_35 : decode cX12_sheet 35 = .ok (.iconst 4, 1) := by decide +kernel
theorem dX12_sheet_36 : decode cX12_sheet 36 = .ok (.invokevirtual 113, 3) := by decide +kernel
theorem dX12_sheet_39 : decode cX12_sheet 39 = .ok (.ireturn, 1) := by decide +kernel
theorem dX12_sheet_40 : decode cX12_sheet 40 = .ok (.aload_n 0, 1) := by decide +kernel
theorem dX12_sheet_41 : decode cX12_sheet 41 = .ok (.getfield 9, 3) := by decide +kernel
theorem dX12_sheet_44 : decode cX12_sheet 44 = .ok (.iload_n 1, 1) := by decide +kernel
theorem dX12_sheet_45 : decode cX12_sheet 45 = .ok (.iload_n 2, 1) := by decide +kernel
theorem dX12_sheet_46 : decode cX12_sheet 46 = .ok (.iastore, 1) := by decide +kernel
theorem dX12_sheet_47 : decode cX12_sheet 47 = .ok (.aload_n 0, 1) := by decide +kernel
theorem dX12_sheet_48 : decode cX12_sheet 48 = .ok (.getfield 13, 3) := by decide +kernel
theorem dX12_sheet_51 : decode cX12_sheet 51 = .ok (.iload_n 1, 1) := by decide +kernel
theorem dX12_sheet_52 : decode cX12_sheet 52 = .ok (.iload_n 3, 1) := by decide +kernel
theorem dX12_sheet_53 : decode cX12_sheet 53 = .ok (.iastore, 1) := by decide +kernel
theorem dX12_sheet_54 : decode cX12_sheet 54 = .ok (.iconst 0, 1) := by decide +kernel
theorem dX12_sheet_55 : decode cX12_sheet 55 = .ok (.istore 4, 2) := by decide +kernel
theorem dX12_sheet_57 : decode cX12_sheet 57 = .ok (.iload 4, 2) := by decide +kernel
theorem dX12_sheet_59 : decode cX12_sheet 59 = .ok (.bipush 60, 2) := by decide +kernel
theorem dX12_sheet_61 : decode cX12_sheet 61 = .ok (.if_icmp .ge 22, 3) := by decide +kernel
theorem dX12_sheet_64 : decode cX12_sheet 64 = .ok (.aload_n 0, 1) := by decide +kernel
theorem dX12_sheet_65 : decode cX12_sheet 65 = .ok (.getfield 16, 3) := by decide +kernel
theorem dX12_sheet_68 : decode cX12_sheet 68 = .ok (.bipush 60, 2) := by decide +kernel
theorem dX12_sheet_70 : decode cX12_sheet 70 = .ok (.iload_n 1, 1) := by decide +kernel
theorem dX12_sheet_71 : decode cX12_sheet 71 = .ok (.imul, 1) := by decide +kernel
theorem dX12_sheet_72 : decode cX12_sheet 72 = .ok (.iload 4, 2) := by decide +kernel
theorem dX12_sheet_74 : decode cX12_sheet 74 = .ok (.iadd, 1) := by decide +kernel
theorem dX12_sheet_75 : decode cX12_sheet 75 = .ok (.iconst 0, 1) := by decide +kernel
theorem dX12_sheet_76 : decode cX12_sheet 76 = .ok (.iastore, 1) := by decide +kernel
theorem dX12_sheet_77 : decode cX12_sheet 77 = .ok (.iinc 4 1, 3) := by decide +kernel
theorem dX12_sheet_80 : decode cX12_sheet 80 = .ok (.goto (-23), 3) := by decide +kernel
theorem dX12_sheet_83 : decode cX12_sheet 83 = .ok (.iconst 1, 1) := by decide +kernel
theorem dX12_sheet_84 : decode cX12_sheet 84 = .ok (.ireturn, 1) := by decide +kernel
theorem dX12_lose_0 : decode cX12_lose 0 = .ok (.iload_n 1, 1) := by decide +kernel
theorem dX12_lose_1 : decode cX12_lose 1 = .ok (.invokestatic 102, 3) := by decide +kernel
theorem dX12_lose_4 : decode cX12_lose 4 = .ok (.ifCond .ne 5, 3) := by decide +kernel
theorem dX12_lose_7 : decode cX12_lose 7 = .ok (.iconst (-1), 1) := by decide +kernel
theorem dX12_lose_8 : decode cX12_lose 8 = .ok (.ireturn, 1) := by decide +kernel
theorem dX12_lose_9 : decode cX12_lose 9 = .ok (.aload_n 0, 1) := by decide +kernel
theorem dX12_lose_10 : decode cX12_lose 10 = .ok (.getfield 9, 3) := by decide +kernel
theorem dX12_lose_13 : decode cX12_lose 13 = .ok (.iload_n 1, 1) := by decide +kernel
theorem dX12_lose_14 : decode cX12_lose 14 = .ok (.iaload, 1) := by decide +kernel
theorem dX12_lose_15 : decode cX12_lose 15 = .ok (.bipush (-9), 2) := by decide +kernel
theorem dX12_lose_17 : decode cX12_lose 17 = .ok (.if_icmp .ne 7, 3) := by decide +kernel
theorem dX12_lose_20 : decode cX12_lose 20 = .ok (.iconst 0, 1) := by decide +kernel
theorem dX12_lose_21 : decode cX12_lose 21 = .ok (.goto 4, 3) := by decide +kernel
theorem dX12_lose_24 : decode cX12_lose 24 = .ok (.iconst 1, 1) := by decide +kernel
theorem dX12_lose_25 : decode cX12_lose 25 = .ok (.istore_n 2, 1) := by decide +kernel
theorem dX12_lose_26 : decode cX12_lose 26 = .ok (.aload_n 0, 1) := by decide +kernel
theorem dX12_lose_27 : decode cX12_lose 27 = .ok (.getfield 9, 3) := by decide +kernel
theorem dX12_lose_30 : decode cX12_lose 30 = .ok (.iload_n 1, 1) := by decide +kernel
theorem dX12_lose_31 : decode cX12_lose 31 = .ok (.bipush (-9), 2) := by decide +kernel
theorem dX12_lose_33 : decode cX12_lose 33 = .ok (.iastore, 1) := by decide +kernel
theorem dX12_lose_34 : decode cX12_lose 34 = .ok (.iload_n 2, 1) := by decide +kernel
theorem dX12_lose_35 : decode cX12_lose 35 = .ok (.ireturn, 1) := by decide +kernel
theorem dX12_put_0 : decode cX12_put 0 = .ok (.aload_n 0, 1) := by decide +kernel
theorem dX12_put_1 : decode cX12_put 1 = .ok (.iconst 0, 1) := by decide +kernel
theorem dX12_put_2 : decode cX12_put 2 = .ok (.putfield 79, 3) := by decide +kernel
theorem dX12_put_5 : decode cX12_put 5 = .ok (.iload_n 1, 1) := by decide +kernel
theorem dX12_put_6 : decode cX12_put 6 = .ok (.invokestatic 102, 3) := by decide +kernel
theorem dX12_put_9 : decode cX12_put 9 = .ok (.ifCond .ne 5, 3) := by decide +kernel
theorem dX12_put_12 : decode cX12_put 12 = .ok (.iconst (-1), 1) := by decide +kernel
theorem dX12_put_13 : decode cX12_put 13 = .ok (.ireturn, 1) := by decide +kernel
theorem dX12_put_14 : decode cX12_put 14 = .ok (.aload_n 0, 1) := by decide +kernel
theorem dX12_put_15 : decode cX12_put 15 = .ok (.getfield 9, 3) := by decide +kernel
theorem dX12_put_18 : decode cX12_put 18 = .ok (.iload_n 1, 1) := by decide +kernel
theorem dX12_put_19 : decode cX12_put 19 = .ok (.iaload, 1) := by decide +kernel
theorem dX12_put_20 : decode cX12_put 20 = .ok (.bipush (-9), 2) := by decide +kernel
theorem dX12_put_22 : decode cX12_put 22 = .ok (.if_icmp .ne 9, 3) := by decide +kernel
theorem dX12_put_25 : decode cX12_put 25 = .ok (.aload_n 0, 1) := by decide +kernel
theorem dX12_put_26 : decode cX12_put 26 = .ok (.iconst 1, 1) := by decide +kernel
theorem dX12_put_27 : decode cX12_put 27 = .ok (.invokevirtual 113, 3) := by decide +kernel
theorem dX12_put_30 : decode cX12_put 30 = .ok (.ireturn, 1) := by decide +kernel
theorem dX12_put_31 : decode cX12_put 31 = .ok (.iload_n 2, 1) := by decide +kernel
theorem dX12_put_32 : decode cX12_put 32 = .ok (.iconst 0, 1) := by decide +kernel
theorem dX12_put_33 : decode cX12_put 33 = .ok (.aload_n 0, 1) := by decide +kernel
theorem dX12_put_34 : decode cX12_put 34 = .ok (.getfield 13, 3) := by decide +kernel
theorem dX12_put_37 : decode cX12_put 37 = .ok (.iload_n 1, 1) := by decide +kernel
theorem dX12_put_38 : decode cX12_put 38 = .ok (.iaload, 1) := by decide +kernel
theorem dX12_put_39 : decode cX12_put 39 = .ok (.iconst 1, 1) := by decide +kernel
theorem dX12_put_40 : decode cX12_put 40 = .ok (.isub, 1) := by decide +kernel
theorem dX12_put_41 : decode cX12_put 41 = .ok (.invokestatic 85, 3) := by decide +kernel
theorem dX12_put_44 : decode cX12_put 44 = .ok (.ifCond .ne 9, 3) := by decide +kernel
theorem dX12_put_47 : decode cX12_put 47 = .ok (.aload_n 0, 1) := by decide +kernel
theorem dX12_put_48 : decode cX12_put 48 = .ok (.iconst 3, 1) := by decide +kernel
theorem dX12_put_49 : decode cX12_put 49 = .ok (.invokevirtual 113, 3) := by decide +kernel
theorem dX12_put_52 : decode cX12_put 52 = .ok (.ireturn, 1) := by decide +kernel
theorem dX12_put_53 : decode cX12_put 53 = .ok (.aload_n 0, 1) := by decide +kernel
theorem dX12_put_54 : decode cX12_put 54 = .ok (.getfield 16, 3) := by decide +kernel
theorem dX12_put_57 : decode cX12_put 57 = .ok (.bipush 60, 2) := by decide +kernel
theorem dX12_put_59 : decode cX12_put 59 = .ok (.iload_n 1, 1) := by decide +kernel
theorem dX12_put_60 : decode cX12_put 60 = .ok (.imul, 1) := by decide +kernel
theorem dX12_put_61 : decode cX12_put 61 = .ok (.iload_n 2, 1) := by decide +kernel
theorem dX12_put_62 : decode cX12_put 62 = .ok (.iadd, 1) := by decide +kernel
theorem dX12_put_63 : decode cX12_put 63 = .ok (.aload_n 0, 1) := by decide +kernel
theorem dX12_put_64 : decode cX12_put 64 = .ok (.getfield 9, 3) := by decide +kernel
theorem dX12_put_67 : decode cX12_put 67 = .ok (.iload_n 1, 1) := by decide +kernel
theorem dX12_put_68 : decode cX12_put 68 = .ok (.iaload, 1) := by decide +kernel
theorem dX12_put_69 : decode cX12_put 69 = .ok (.ifCond .ne 8, 3) := by decide +kernel
theorem dX12_put_72 : decode cX12_put 72 = .ok (.iload_n 3, 1) := by decide +kernel
theorem dX12_put_73 : decode cX12_put 73 = .ok (.i2b, 1) := by decide +kernel
theorem dX12_put_74 : decode cX12_put 74 = .ok (.goto 19, 3) := by decide +kernel
theorem dX12_put_77 : decode cX12_put 77 = .ok (.aload_n 0, 1) := by decide +kernel
theorem dX12_put_78 : decode cX12_put 78 = .ok (.getfield 9, 3) := by decide +kernel
theorem dX12_put_81 : decode cX12_put 81 = .ok (.iload_n 1, 1) := by decide +kernel
theorem dX12_put_82 : decode cX12_put 82 = .ok (.iaload, 1) := by decide +kernel
theorem dX12_put_83 : decode cX12_put 83 = .ok (.iconst 1, 1) := by decide +kernel
theorem dX12_put_84 : decode cX12_put 84 = .ok (.if_icmp .ne 8, 3) := by decide +kernel
theorem dX12_put_87 : decode cX12_put 87 = .ok (.iload_n 3, 1) := by decide +kernel
theorem dX12_put_88 : decode cX12_put 88 = .ok (.i2s, 1) := by decide +kernel
theorem dX12_put_89 : decode cX12_put 89 = .ok (.goto 4, 3) := by decide +kernel
theorem dX12_put_92 : decode cX12_put 92 = .ok (.iload_n 3, 1) := by decide +kernel
theorem dX12_put_93 : decode cX12_put 93 = .ok (.iastore, 1) := by decide +kernel
theorem dX12_put_94 : decode cX12_put 94 = .ok (.iconst 1, 1) := by decide +kernel
theorem dX12_put_95 : decode cX12_put 95 = .ok (.ireturn, 1) := by decide +kernel
theorem dX12_cell_0 : decode cX12_cell 0 = .ok (.aload_n 0, 1) := by decide +kernel
theorem dX12_cell_1 : decode cX12_cell 1 = .ok (.iconst 0, 1) := by decide +kernel
theorem dX12_cell_2 : decode cX12_cell 2 = .ok (.putfield 79, 3) := by decide +kernel
theorem dX12_cell_5 : decode cX12_cell 5 = .ok (.iload_n 1, 1) := by decide +kernel
theorem dX12_cell_6 : decode cX12_cell 6 = .ok (.invokestatic 102, 3) := by decide +kernel
theorem dX12_cell_9 : decode cX12_cell 9 = .ok (.ifCond .eq 10, 3) := by decide +kernel
theorem dX12_cell_12 : decode cX12_cell 12 = .ok (.iload_n 3, 1) := by decide +kernel
theorem dX12_cell_13 : decode cX12_cell 13 = .ok (.invokestatic 106, 3) := by decide +kernel
theorem dX12_cell_16 : decode cX12_cell 16 = .ok (.ifCond .ne 7, 3) := by decide +kernel
theorem dX12_cell_19 : decode cX12_cell 19 = .ok (.ldc2_w 83, 3) := by decide +kernel
theorem dX12_cell_22 : decode cX12_cell 22 = .ok (.lreturn, 1) := by decide +kernel
theorem dX12_cell_23 : decode cX12_cell 23 = .ok (.aload_n 0, 1) := by decide +kernel
theorem dX12_cell_24 : decode cX12_cell 24 = .ok (.getfield 9, 3) := by decide +kernel
theorem dX12_cell_27 : decode cX12_cell 27 = .ok (.iload_n 1, 1) := by decide +kernel
theorem dX12_cell_28 : decode cX12_cell 28 = .ok (.iaload, 1) := by decide +kernel
theorem dX12_cell_29 : decode cX12_cell 29 = .ok (.bipush (-9), 2) := by decide +kernel
theorem dX12_cell_31 : decode cX12_cell 31 = .ok (.if_icmp .eq 19, 3) := by decide +kernel
theorem dX12_cell_34 : decode cX12_cell 34 = .ok (.aload_n 0, 1) := by decide +kernel
theorem dX12_cell_35 : decode cX12_cell 35 = .ok (.getfield 9, 3) := by decide +kernel
theorem dX12_cell_38 : decode cX12_cell 38 = .ok (.iload_n 1, 1) := by decide +kernel
theorem dX12_cell_39 : decode cX12_cell 39 = .ok (.iaload, 1) := by decide +kernel
theorem dX12_cell_40 : decode cX12_cell 40 = .ok (.iload_n 3, 1) := by decide +kernel
theorem dX12_cell_41 : decode cX12_cell 41 = .ok (.if_icmp .eq 9, 3) := by decide +kernel
theorem dX12_cell_44 : decode cX12_cell 44 = .ok (.aload_n 0, 1) := by decide +kernel
theorem dX12_cell_45 : decode cX12_cell 45 = .ok (.iconst 2, 1) := by decide +kernel
theorem dX12_cell_46 : decode cX12_cell 46 = .ok (.invokevirtual 251, 3) := by decide +kernel
theorem dX12_cell_49 : decode cX12_cell 49 = .ok (.lreturn, 1) := by decide +kernel
theorem dX12_cell_50 : decode cX12_cell 50 = .ok (.aload_n 0, 1) := by decide +kernel
theorem dX12_cell_51 : decode cX12_cell 51 = .ok (.getfield 9, 3) := by decide +kernel
theorem dX12_cell_54 : decode cX12_cell 54 = .ok (.iload_n 1, 1) := by decide +kernel
theorem dX12_cell_55 : decode cX12_cell 55 = .ok (.iaload, 1) := by decide +kernel
theorem dX12_cell_56 : decode cX12_cell 56 = .ok (.bipush (-9), 2) := by decide +kernel
theorem dX12_cell_58 : decode cX12_cell 58 = .ok (.if_icmp .ne 9, 3) := by decide +kernel
theorem dX12_cell_61 : decode cX12_cell 61 = .ok (.aload_n 0, 1) := by decide +kernel
theorem dX12_cell_62 : decode cX12_cell 62 = .ok (.iconst 1, 1) := by decide +kernel
theorem dX12_cell_63 : decode cX12_cell 63 = .ok (.invokevirtual 251, 3) := by decide +kernel
theorem dX12_cell_66 : decode cX12_cell 66 = .ok (.lreturn, 1) := by decide +kernel
theorem dX12_cell_67 : decode cX12_cell 67 = .ok (.iload_n 2, 1) := by decide +kernel
theorem dX12_cell_68 : decode cX12_cell 68 = .ok (.iconst 0, 1) := by decide +kernel
theorem dX12_cell_69 : decode cX12_cell 69 = .ok (.aload_n 0, 1) := by decide +kernel
theorem dX12_cell_70 : decode cX12_cell 70 = .ok (.getfield 13, 3) := by decide +kernel
theorem dX12_cell_73 : decode cX12_cell 73 = .ok (.iload_n 1, 1) := by decide +kernel
theorem dX12_cell_74 : decode cX12_cell 74 = .ok (.iaload, 1) := by decide +kernel
theorem dX12_cell_75 : decode cX12_cell 75 = .ok (.iconst 1, 1) := by decide +kernel
theorem dX12_cell_76 : decode cX12_cell 76 = .ok (.isub, 1) := by decide +kernel
theorem dX12_cell_77 : decode cX12_cell 77 = .ok (.invokestatic 85, 3) := by decide +kernel
theorem dX12_cell_80 : decode cX12_cell 80 = .ok (.ifCond .ne 9, 3) := by decide +kernel
theorem dX12_cell_83 : decode cX12_cell 83 = .ok (.aload_n 0, 1) := by decide +kernel
theorem dX12_cell_84 : decode cX12_cell 84 = .ok (.iconst 3, 1) := by decide +kernel
theorem dX12_cell_85 : decode cX12_cell 85 = .ok (.invokevirtual 251, 3) := by decide +kernel
theorem dX12_cell_88 : decode cX12_cell 88 = .ok (.lreturn, 1) := by decide +kernel
theorem dX12_cell_89 : decode cX12_cell 89 = .ok (.aload_n 0, 1) := by decide +kernel
theorem dX12_cell_90 : decode cX12_cell 90 = .ok (.getfield 16, 3) := by decide +kernel
theorem dX12_cell_93 : decode cX12_cell 93 = .ok (.bipush 60, 2) := by decide +kernel
theorem dX12_cell_95 : decode cX12_cell 95 = .ok (.iload_n 1, 1) := by decide +kernel
theorem dX12_cell_96 : decode cX12_cell 96 = .ok (.imul, 1) := by decide +kernel
theorem dX12_cell_97 : decode cX12_cell 97 = .ok (.iload_n 2, 1) := by decide +kernel
theorem dX12_cell_98 : decode cX12_cell 98 = .ok (.iadd, 1) := by decide +kernel
theorem dX12_cell_99 : decode cX12_cell 99 = .ok (.iaload, 1) := by decide +kernel
theorem dX12_cell_100 : decode cX12_cell 100 = .ok (.i2l, 1) := by decide +kernel
theorem dX12_cell_101 : decode cX12_cell 101 = .ok (.lreturn, 1) := by decide +kernel
theorem dX12_copy_0 : decode cX12_copy 0 = .ok (.aload_n 0, 1) := by decide +kernel
theorem dX12_copy_1 : decode cX12_copy 1 = .ok (.iconst 0, 1) := by decide +kernel
theorem dX12_copy_2 : decode cX12_copy 2 = .ok (.putfield 79, 3) := by decide +kernel
theorem dX12_copy_5 : decode cX12_copy 5 = .ok (.iload_n 1, 1) := by decide +kernel
theorem dX12_copy_6 : decode cX12_copy 6 = .ok (.invokestatic 102, 3) := by decide +kernel
theorem dX12_copy_9 : decode cX12_copy 9 = .ok (.ifCond .eq 10, 3) := by decide +kernel
theorem dX12_copy_12 : decode cX12_copy 12 = .ok (.iload_n 3, 1) := by decide +kernel
theorem dX12_copy_13 : decode cX12_copy 13 = .ok (.invokestatic 102, 3) := by decide +kernel
theorem dX12_copy_16 : decode cX12_copy 16 = .ok (.ifCond .ne 5, 3) := by decide +kernel
theorem dX12_copy_19 : decode cX12_copy 19 = .ok (.iconst (-1), 1) := by decide +kernel
theorem dX12_copy_20 : decode cX12_copy 20 = .ok (.ireturn, 1) := by decide +kernel
theorem dX12_copy_21 : decode cX12_copy 21 = .ok (.aload_n 0, 1) := by decide +kernel
theorem dX12_copy_22 : decode cX12_copy 22 = .ok (.getfield 9, 3) := by decide +kernel
theorem dX12_copy_25 : decode cX12_copy 25 = .ok (.iload_n 1, 1) := by decide +kernel
theorem dX12_copy_26 : decode cX12_copy 26 = .ok (.iaload, 1) := by decide +kernel
theorem dX12_copy_27 : decode cX12_copy 27 = .ok (.bipush (-9), 2) := by decide +kernel
theorem dX12_copy_29 : decode cX12_copy 29 = .ok (.if_icmp .eq 14, 3) := by decide +kernel
theorem dX12_copy_32 : decode cX12_copy 32 = .ok (.aload_n 0, 1) := by decide +kernel
theorem dX12_copy_33 : decode cX12_copy 33 = .ok (.getfield 9, 3) := by decide +kernel
theorem dX12_copy_36 : decode cX12_copy 36 = .ok (.iload_n 3, 1) := by decide +kernel
theorem dX12_copy_37 : decode cX12_copy 37 = .ok (.iaload, 1) := by decide +kernel
theorem dX12_copy_38 : decode cX12_copy 38 = .ok (.bipush (-9), 2) := by decide +kernel
theorem dX12_copy_40 : decode cX12_copy 40 = .ok (.if_icmp .ne 9, 3) := by decide +kernel
theorem dX12_copy_43 : decode cX12_copy 43 = .ok (.aload_n 0, 1) := by decide +kernel
theorem dX12_copy_44 : decode cX12_copy 44 = .ok (.iconst 1, 1) := by decide +kernel
theorem dX12_copy_45 : decode cX12_copy 45 = .ok (.invokevirtual 113, 3) := by decide +kernel
theorem dX12_copy_48 : decode cX12_copy 48 = .ok (.ireturn, 1) := by decide +kernel
theorem dX12_copy_49 : decode cX12_copy 49 = .ok (.aload_n 0, 1) := by decide +kernel
theorem dX12_copy_50 : decode cX12_copy 50 = .ok (.getfield 9, 3) := by decide +kernel
theorem dX12_copy_53 : decode cX12_copy 53 = .ok (.iload_n 1, 1) := by decide +kernel
theorem dX12_copy_54 : decode cX12_copy 54 = .ok (.iaload, 1) := by decide +kernel
theorem dX12_copy_55 : decode cX12_copy 55 = .ok (.aload_n 0, 1) := by decide +kernel
theorem dX12_copy_56 : decode cX12_copy 56 = .ok (.getfield 9, 3) := by decide +kernel
theorem dX12_copy_59 : decode cX12_copy 59 = .ok (.iload_n 3, 1) := by decide +kernel
theorem dX12_copy_60 : decode cX12_copy 60 = .ok (.iaload, 1) := by decide +kernel
theorem dX12_copy_61 : decode cX12_copy 61 = .ok (.if_icmp .eq 9, 3) := by decide +kernel
theorem dX12_copy_64 : decode cX12_copy 64 = .ok (.aload_n 0, 1) := by decide +kernel
theorem dX12_copy_65 : decode cX12_copy 65 = .ok (.iconst 2, 1) := by decide +kernel
theorem dX12_copy_66 : decode cX12_copy 66 = .ok (.invokevirtual 113, 3) := by decide +kernel
theorem dX12_copy_69 : decode cX12_copy 69 = .ok (.ireturn, 1) := by decide +kernel
theorem dX12_copy_70 : decode cX12_copy 70 = .ok (.iload_n 2, 1) := by decide +kernel
theorem dX12_copy_71 : decode cX12_copy 71 = .ok (.ifCond .lt 38, 3) := by decide +kernel
theorem dX12_copy_74 : decode cX12_copy 74 = .ok (.iload 4, 2) := by decide +kernel
theorem dX12_copy_76 : decode cX12_copy 76 = .ok (.ifCond .lt 33, 3) := by decide +kernel
theorem dX12_copy_79 : decode cX12_copy 79 = .ok (.iload 5, 2) := by decide +kernel
theorem dX12_copy_81 : decode cX12_copy 81 = .ok (.ifCond .lt 28, 3) := by decide +kernel
theorem dX12_copy_84 : decode cX12_copy 84 = .ok (.iload_n 2, 1) := by decide +kernel
theorem dX12_copy_85 : decode cX12_copy 85 = .ok (.aload_n 0, 1) := by decide +kernel
theorem dX12_copy_86 : decode cX12_copy 86 = .ok (.getfield 13, 3) := by decide +kernel
theorem dX12_copy_89 : decode cX12_copy 89 = .ok (.iload_n 1, 1) := by decide +kernel
theorem dX12_copy_90 : decode cX12_copy 90 = .ok (.iaload, 1) := by decide +kernel
theorem dX12_copy_91 : decode cX12_copy 91 = .ok (.if_icmp .gt 18, 3) := by decide +kernel
theorem dX12_copy_94 : decode cX12_copy 94 = .ok (.iload 4, 2) := by decide +kernel
theorem dX12_copy_96 : decode cX12_copy 96 = .ok (.aload_n 0, 1) := by decide +kernel
theorem dX12_copy_97 : decode cX12_copy 97 = .ok (.getfield 13, 3) := by decide +kernel
theorem dX12_copy_100 : decode cX12_copy 100 = .ok (.iload_n 3, 1) := by decide +kernel
theorem dX12_copy_101 : decode cX12_copy 101 = .ok (.iaload, 1) := by decide +kernel
theorem dX12_copy_102 : decode cX12_copy 102 = .ok (.if_icmp .gt 7, 3) := by decide +kernel
theorem dX12_copy_105 : decode cX12_copy 105 = .ok (.iconst 1, 1) := by decide +kernel
theorem dX12_copy_106 : decode cX12_copy 106 = .ok (.goto 4, 3) := by decide +kernel
theorem dX12_copy_109 : decode cX12_copy 109 = .ok (.iconst 0, 1) := by decide +kernel
theorem dX12_copy_110 : decode cX12_copy 110 = .ok (.istore 6, 2) := by decide +kernel
theorem dX12_copy_112 : decode cX12_copy 112 = .ok (.iload 6, 2) := by decide +kernel
theorem dX12_copy_114 : decode cX12_copy 114 = .ok (.ifCond .eq 30, 3) := by decide +kernel
theorem dX12_copy_117 : decode cX12_copy 117 = .ok (.iload 5, 2) := by decide +kernel
theorem dX12_copy_119 : decode cX12_copy 119 = .ok (.aload_n 0, 1) := by decide +kernel
theorem dX12_copy_120 : decode cX12_copy 120 = .ok (.getfield 13, 3) := by decide +kernel
theorem dX12_copy_123 : decode cX12_copy 123 = .ok (.iload_n 1, 1) := by decide +kernel
theorem dX12_copy_124 : decode cX12_copy 124 = .ok (.iaload, 1) := by decide +kernel
theorem dX12_copy_125 : decode cX12_copy 125 = .ok (.iload_n 2, 1) := by decide +kernel
theorem dX12_copy_126 : decode cX12_copy 126 = .ok (.isub, 1) := by decide +kernel
theorem dX12_copy_127 : decode cX12_copy 127 = .ok (.if_icmp .gt 17, 3) := by decide +kernel
theorem dX12_copy_130 : decode cX12_copy 130 = .ok (.iload 5, 2) := by decide +kernel
theorem dX12_copy_132 : decode cX12_copy 132 = .ok (.aload_n 0, 1) := by decide +kernel
theorem dX12_copy_133 : decode cX12_copy 133 = .ok (.getfield 13, 3) := by decide +kernel
theorem dX12_copy_136 : decode cX12_copy 136 = .ok (.iload_n 3, 1) := by decide +kernel
theorem dX12_copy_137 : decode cX12_copy 137 = .ok (.iaload, 1) := by decide +kernel
theorem dX12_copy_138 : decode cX12_copy 138 = .ok (.iload 4, 2) := by decide +kernel
theorem dX12_copy_140 : decode cX12_copy 140 = .ok (.isub, 1) := by decide +kernel
theorem dX12_copy_141 : decode cX12_copy 141 = .ok (.if_icmp .le 9, 3) := by decide +kernel
theorem dX12_copy_144 : decode cX12_copy 144 = .ok (.aload_n 0, 1) := by decide +kernel
theorem dX12_copy_145 : decode cX12_copy 145 = .ok (.iconst 3, 1) := by decide +kernel
theorem dX12_copy_146 : decode cX12_copy 146 = .ok (.invokevirtual 113, 3) := by decide +kernel
theorem dX12_copy_149 : decode cX12_copy 149 = .ok (.ireturn, 1) := by decide +kernel
theorem dX12_copy_150 : decode cX12_copy 150 = .ok (.iload_n 2, 1) := by decide +kernel
theorem dX12_copy_151 : decode cX12_copy 151 = .ok (.iload 4, 2) := by decide +kernel
theorem dX12_copy_153 : decode cX12_copy 153 = .ok (.if_icmp .ge 7, 3) := by decide +kernel
theorem dX12_copy_156 : decode cX12_copy 156 = .ok (.iconst 1, 1) := by decide +kernel
theorem dX12_copy_157 : decode cX12_copy 157 = .ok (.goto 4, 3) := by decide +kernel
theorem dX12_copy_160 : decode cX12_copy 160 = .ok (.iconst 0, 1) := by decide +kernel
theorem dX12_copy_161 : decode cX12_copy 161 = .ok (.istore 7, 2) := by decide +kernel
theorem dX12_copy_163 : decode cX12_copy 163 = .ok (.iconst 0, 1) := by decide +kernel
theorem dX12_copy_164 : decode cX12_copy 164 = .ok (.istore 8, 2) := by decide +kernel
theorem dX12_copy_166 : decode cX12_copy 166 = .ok (.iload 8, 2) := by decide +kernel
theorem dX12_copy_168 : decode cX12_copy 168 = .ok (.iload 5, 2) := by decide +kernel
theorem dX12_copy_170 : decode cX12_copy 170 = .ok (.if_icmp .ge 57, 3) := by decide +kernel
theorem dX12_copy_173 : decode cX12_copy 173 = .ok (.iload 7, 2) := by decide +kernel
theorem dX12_copy_175 : decode cX12_copy 175 = .ok (.ifCond .eq 13, 3) := by decide +kernel
theorem dX12_copy_178 : decode cX12_copy 178 = .ok (.iload 5, 2) := by decide +kernel
theorem dX12_copy_180 : decode cX12_copy 180 = .ok (.iconst 1, 1) := by decide +kernel
theorem dX12_copy_181 : decode cX12_copy 181 = .ok (.isub, 1) := by decide +kernel
theorem dX12_copy_182 : decode cX12_copy 182 = .ok (.iload 8, 2) := by decide +kernel
theorem dX12_copy_184 : decode cX12_copy 184 = .ok (.isub, 1) := by decide +kernel
theorem dX12_copy_185 : decode cX12_copy 185 = .ok (.goto 5, 3) := by decide +kernel
theorem dX12_copy_188 : decode cX12_copy 188 = .ok (.iload 8, 2) := by decide +kernel
theorem dX12_copy_190 : decode cX12_copy 190 = .ok (.istore 9, 2) := by decide +kernel
theorem dX12_copy_192 : decode cX12_copy 192 = .ok (.aload_n 0, 1) := by decide +kernel
theorem dX12_copy_193 : decode cX12_copy 193 = .ok (.getfield 16, 3) := by decide +kernel
theorem dX12_copy_196 : decode cX12_copy 196 = .ok (.bipush 60, 2) := by decide +kernel
theorem dX12_copy_198 : decode cX12_copy 198 = .ok (.iload_n 3, 1) := by decide +kernel
theorem dX12_copy_199 : decode cX12_copy 199 = .ok (.imul, 1) := by decide +kernel
theorem dX12_copy_200 : decode cX12_copy 200 = .ok (.iload 4, 2) := by decide +kernel
theorem dX12_copy_202 : decode cX12_copy 202 = .ok (.iadd, 1) := by decide +kernel
theorem dX12_copy_203 : decode cX12_copy 203 = .ok (.iload 9, 2) := by decide +kernel
theorem dX12_copy_205 : decode cX12_copy 205 = .ok (.iadd, 1) := by decide +kernel
theorem dX12_copy_206 : decode cX12_copy 206 = .ok (.aload_n 0, 1) := by decide +kernel
theorem dX12_copy_207 : decode cX12_copy 207 = .ok (.getfield 16, 3) := by decide +kernel
theorem dX12_copy_210 : decode cX12_copy 210 = .ok (.bipush 60, 2) := by decide +kernel
theorem dX12_copy_212 : decode cX12_copy 212 = .ok (.iload_n 1, 1) := by decide +kernel
theorem dX12_copy_213 : decode cX12_copy 213 = .ok (.imul, 1) := by decide +kernel
theorem dX12_copy_214 : decode cX12_copy 214 = .ok (.iload_n 2, 1) := by decide +kernel
theorem dX12_copy_215 : decode cX12_copy 215 = .ok (.iadd, 1) := by decide +kernel
theorem dX12_copy_216 : decode cX12_copy 216 = .ok (.iload 9, 2) := by decide +kernel
theorem dX12_copy_218 : decode cX12_copy 218 = .ok (.iadd, 1) := by decide +kernel
theorem dX12_copy_219 : decode cX12_copy 219 = .ok (.iaload, 1) := by decide +kernel
theorem dX12_copy_220 : decode cX12_copy 220 = .ok (.iastore, 1) := by decide +kernel
theorem dX12_copy_221 : decode cX12_copy 221 = .ok (.iinc 8 1, 3) := by decide +kernel
theorem dX12_copy_224 : decode cX12_copy 224 = .ok (.goto (-58), 3) := by decide +kernel
theorem dX12_copy_227 : decode cX12_copy 227 = .ok (.iload 5, 2) := by decide +kernel
theorem dX12_copy_229 : decode cX12_copy 229 = .ok (.ireturn, 1) := by decide +kernel
theorem dX12_begins_0 : decode cX12_begins 0 = .ok (.aload_n 0, 1) := by decide +kernel
theorem dX12_begins_1 : decode cX12_begins 1 = .ok (.bipush 31, 2) := by decide +kernel
theorem dX12_begins_3 : decode cX12_begins 3 = .ok (.aload_n 0, 1) := by decide +kernel
theorem dX12_begins_4 : decode cX12_begins 4 = .ok (.getfield 255, 3) := by decide +kernel
theorem dX12_begins_7 : decode cX12_begins 7 = .ok (.imul, 1) := by decide +kernel
theorem dX12_begins_8 : decode cX12_begins 8 = .ok (.iload_n 1, 1) := by decide +kernel
theorem dX12_begins_9 : decode cX12_begins 9 = .ok (.iadd, 1) := by decide +kernel
theorem dX12_begins_10 : decode cX12_begins 10 = .ok (.putfield 255, 3) := by decide +kernel
theorem dX12_begins_13 : decode cX12_begins 13 = .ok (.return_, 1) := by decide +kernel
theorem dX12_tell_0 : decode cX12_tell 0 = .ok (.aload_n 0, 1) := by decide +kernel
theorem dX12_tell_1 : decode cX12_tell 1 = .ok (.iload_n 1, 1) := by decide +kernel
theorem dX12_tell_2 : decode cX12_tell 2 = .ok (.invokevirtual 170, 3) := by decide +kernel
theorem dX12_tell_5 : decode cX12_tell 5 = .ok (.ifCond .ne 5, 3) := by decide +kernel
theorem dX12_tell_8 : decode cX12_tell 8 = .ok (.iconst (-1), 1) := by decide +kernel
theorem dX12_tell_9 : decode cX12_tell 9 = .ok (.ireturn, 1) := by decide +kernel
theorem dX12_tell_10 : decode cX12_tell 10 = .ok (.aload_n 0, 1) := by decide +kernel
theorem dX12_tell_11 : decode cX12_tell 11 = .ok (.getfield 28, 3) := by decide +kernel
theorem dX12_tell_14 : decode cX12_tell 14 = .ok (.iload_n 1, 1) := by decide +kernel
theorem dX12_tell_15 : decode cX12_tell 15 = .ok (.iaload, 1) := by decide +kernel
theorem dX12_tell_16 : decode cX12_tell 16 = .ok (.istore_n 2, 1) := by decide +kernel
theorem dX12_tell_17 : decode cX12_tell 17 = .ok (.aload_n 0, 1) := by decide +kernel
theorem dX12_tell_18 : decode cX12_tell 18 = .ok (.getfield 25, 3) := by decide +kernel
theorem dX12_tell_21 : decode cX12_tell 21 = .ok (.iload_n 1, 1) := by decide +kernel
theorem dX12_tell_22 : decode cX12_tell 22 = .ok (.iaload, 1) := by decide +kernel
theorem dX12_tell_23 : decode cX12_tell 23 = .ok (.lookupswitch 67 #[(1, 25), (2, 40)], 25) := by decide +kernel
theorem dX12_tell_48 : decode cX12_tell 48 = .ok (.aload_n 0, 1) := by decide +kernel
theorem dX12_tell_49 : decode cX12_tell 49 = .ok (.iconst 2, 1) := by decide +kernel
theorem dX12_tell_50 : decode cX12_tell 50 = .ok (.invokevirtual 258, 3) := by decide +kernel
theorem dX12_tell_53 : decode cX12_tell 53 = .ok (.aload_n 0, 1) := by decide +kernel
theorem dX12_tell_54 : decode cX12_tell 54 = .ok (.iconst 1, 1) := by decide +kernel
theorem dX12_tell_55 : decode cX12_tell 55 = .ok (.invokevirtual 258, 3) := by decide +kernel
theorem dX12_tell_58 : decode cX12_tell 58 = .ok (.iload_n 2, 1) := by decide +kernel
theorem dX12_tell_59 : decode cX12_tell 59 = .ok (.bipush 100, 2) := by decide +kernel
theorem dX12_tell_61 : decode cX12_tell 61 = .ok (.iadd, 1) := by decide +kernel
theorem dX12_tell_62 : decode cX12_tell 62 = .ok (.ireturn, 1) := by decide +kernel
theorem dX12_tell_63 : decode cX12_tell 63 = .ok (.aload_n 0, 1) := by decide +kernel
theorem dX12_tell_64 : decode cX12_tell 64 = .ok (.iconst 3, 1) := by decide +kernel
theorem dX12_tell_65 : decode cX12_tell 65 = .ok (.invokevirtual 258, 3) := by decide +kernel
theorem dX12_tell_68 : decode cX12_tell 68 = .ok (.aload_n 0, 1) := by decide +kernel
theorem dX12_tell_69 : decode cX12_tell 69 = .ok (.iconst 2, 1) := by decide +kernel
theorem dX12_tell_70 : decode cX12_tell 70 = .ok (.invokevirtual 258, 3) := by decide +kernel
theorem dX12_tell_73 : decode cX12_tell 73 = .ok (.aload_n 0, 1) := by decide +kernel
theorem dX12_tell_74 : decode cX12_tell 74 = .ok (.iconst 1, 1) := by decide +kernel
theorem dX12_tell_75 : decode cX12_tell 75 = .ok (.invokevirtual 258, 3) := by decide +kernel
theorem dX12_tell_78 : decode cX12_tell 78 = .ok (.aload_n 0, 1) := by decide +kernel
theorem dX12_tell_79 : decode cX12_tell 79 = .ok (.iconst 1, 1) := by decide +kernel
theorem dX12_tell_80 : decode cX12_tell 80 = .ok (.invokevirtual 258, 3) := by decide +kernel
theorem dX12_tell_83 : decode cX12_tell 83 = .ok (.iconst 2, 1) := by decide +kernel
theorem dX12_tell_84 : decode cX12_tell 84 = .ok (.iload_n 2, 1) := by decide +kernel
theorem dX12_tell_85 : decode cX12_tell 85 = .ok (.imul, 1) := by decide +kernel
theorem dX12_tell_86 : decode cX12_tell 86 = .ok (.bipush 100, 2) := by decide +kernel
theorem dX12_tell_88 : decode cX12_tell 88 = .ok (.iadd, 1) := by decide +kernel
theorem dX12_tell_89 : decode cX12_tell 89 = .ok (.ireturn, 1) := by decide +kernel
theorem dX12_tell_90 : decode cX12_tell 90 = .ok (.aload_n 0, 1) := by decide +kernel
theorem dX12_tell_91 : decode cX12_tell 91 = .ok (.iconst 1, 1) := by decide +kernel
theorem dX12_tell_92 : decode cX12_tell 92 = .ok (.invokevirtual 258, 3) := by decide +kernel
theorem dX12_tell_95 : decode cX12_tell 95 = .ok (.iload_n 2, 1) := by decide +kernel
theorem dX12_tell_96 : decode cX12_tell 96 = .ok (.ireturn, 1) := by decide +kernel
theorem dX12_cheer_0 : decode cX12_cheer 0 = .ok (.aload_n 0, 1) := by decide +kernel
theorem dX12_cheer_1 : decode cX12_cheer 1 = .ok (.iload_n 1, 1) := by decide +kernel
theorem dX12_cheer_2 : decode cX12_cheer 2 = .ok (.invokevirtual 170, 3) := by decide +kernel
theorem dX12_cheer_5 : decode cX12_cheer 5 = .ok (.ifCond .ne 5, 3) := by decide +kernel
theorem dX12_cheer_8 : decode cX12_cheer 8 = .ok (.iconst (-1), 1) := by decide +kernel
theorem dX12_cheer_9 : decode cX12_cheer 9 = .ok (.ireturn, 1) := by decide +kernel
theorem dX12_cheer_10 : decode cX12_cheer 10 = .ok (.aload_n 0, 1) := by decide +kernel
theorem dX12_cheer_11 : decode cX12_cheer 11 = .ok (.aload_n 0, 1) := by decide +kernel
theorem dX12_cheer_12 : decode cX12_cheer 12 = .ok (.getfield 25, 3) := by decide +kernel
theorem dX12_cheer_15 : decode cX12_cheer 15 = .ok (.iload_n 1, 1) := by decide +kernel
theorem dX12_cheer_16 : decode cX12_cheer 16 = .ok (.iaload, 1) := by decide +kernel
theorem dX12_cheer_17 : decode cX12_cheer 17 = .ok (.iconst 2, 1) := by decide +kernel
theorem dX12_cheer_18 : decode cX12_cheer 18 = .ok (.if_icmp .ne 7, 3) := by decide +kernel
theorem dX12_cheer_21 : decode cX12_cheer 21 = .ok (.iconst 5, 1) := by decide +kernel
theorem dX12_cheer_22 : decode cX12_cheer 22 = .ok (.goto 4, 3) := by decide +kernel
theorem dX12_cheer_25 : decode cX12_cheer 25 = .ok (.iconst 4, 1) := by decide +kernel
theorem dX12_cheer_26 : decode cX12_cheer 26 = .ok (.invokevirtual 258, 3) := by decide +kernel
theorem dX12_cheer_29 : decode cX12_cheer 29 = .ok (.aload_n 0, 1) := by decide +kernel
theorem dX12_cheer_30 : decode cX12_cheer 30 = .ok (.getfield 25, 3) := by decide +kernel
theorem dX12_cheer_33 : decode cX12_cheer 33 = .ok (.iload_n 1, 1) := by decide +kernel
theorem dX12_cheer_34 : decode cX12_cheer 34 = .ok (.iaload, 1) := by decide +kernel
theorem dX12_cheer_35 : decode cX12_cheer 35 = .ok (.iconst 2, 1) := by decide +kernel
theorem dX12_cheer_36 : decode cX12_cheer 36 = .ok (.if_icmp .ne 8, 3) := by decide +kernel
theorem dX12_cheer_39 : decode cX12_cheer 39 = .ok (.bipush 50, 2) := by decide +kernel
theorem dX12_cheer_41 : decode cX12_cheer 41 = .ok (.goto 4, 3) := by decide +kernel
theorem dX12_cheer_44 : decode cX12_cheer 44 = .ok (.iload_n 1, 1) := by decide +kernel
theorem dX12_cheer_45 : decode cX12_cheer 45 = .ok (.ireturn, 1) := by decide +kernel
theorem dX12_as_0 : decode cX12_as 0 = .ok (.aload_n 0, 1) := by decide +kernel
theorem dX12_as_1 : decode cX12_as 1 = .ok (.iconst 0, 1) := by decide +kernel
theorem dX12_as_2 : decode cX12_as 2 = .ok (.putfield 79, 3) := by decide +kernel
theorem dX12_as_5 : decode cX12_as 5 = .ok (.aload_n 0, 1) := by decide +kernel
theorem dX12_as_6 : decode cX12_as 6 = .ok (.iload_n 1, 1) := by decide +kernel
theorem dX12_as_7 : decode cX12_as 7 = .ok (.invokevirtual 170, 3) := by decide +kernel
theorem dX12_as_10 : decode cX12_as 10 = .ok (.ifCond .ne 5, 3) := by decide +kernel
theorem dX12_as_13 : decode cX12_as 13 = .ok (.iconst (-1), 1) := by decide +kernel
theorem dX12_as_14 : decode cX12_as 14 = .ok (.ireturn, 1) := by decide +kernel
theorem dX12_as_15 : decode cX12_as 15 = .ok (.iload_n 2, 1) := by decide +kernel
theorem dX12_as_16 : decode cX12_as 16 = .ok (.iconst 0, 1) := by decide +kernel
theorem dX12_as_17 : decode cX12_as 17 = .ok (.iconst 2, 1) := by decide +kernel
theorem dX12_as_18 : decode cX12_as 18 = .ok (.invokestatic 85, 3) := by decide +kernel
theorem dX12_as_21 : decode cX12_as 21 = .ok (.ifCond .ne 6, 3) := by decide +kernel
theorem dX12_as_24 : decode cX12_as 24 = .ok (.bipush (-2), 2) := by decide +kernel
theorem dX12_as_26 : decode cX12_as 26 = .ok (.ireturn, 1) := by decide +kernel
theorem dX12_as_27 : decode cX12_as 27 = .ok (.aload_n 0, 1) := by decide +kernel
theorem dX12_as_28 : decode cX12_as 28 = .ok (.getfield 25, 3) := by decide +kernel
theorem dX12_as_31 : decode cX12_as 31 = .ok (.iload_n 1, 1) := by decide +kernel
theorem dX12_as_32 : decode cX12_as 32 = .ok (.iaload, 1) := by decide +kernel
theorem dX12_as_33 : decode cX12_as 33 = .ok (.iload_n 2, 1) := by decide +kernel
theorem dX12_as_34 : decode cX12_as 34 = .ok (.if_icmp .lt 7, 3) := by decide +kernel
theorem dX12_as_37 : decode cX12_as 37 = .ok (.iconst 1, 1) := by decide +kernel
theorem dX12_as_38 : decode cX12_as 38 = .ok (.goto 8, 3) := by decide +kernel
theorem dX12_as_41 : decode cX12_as 41 = .ok (.aload_n 0, 1) := by decide +kernel
theorem dX12_as_42 : decode cX12_as 42 = .ok (.iconst 2, 1) := by decide +kernel
theorem dX12_as_43 : decode cX12_as 43 = .ok (.invokevirtual 113, 3) := by decide +kernel
theorem dX12_as_46 : decode cX12_as 46 = .ok (.ireturn, 1) := by decide +kernel
theorem dX12_trace_0 : decode cX12_trace 0 = .ok (.aload_n 0, 1) := by decide +kernel
theorem dX12_trace_1 : decode cX12_trace 1 = .ok (.getfield 255, 3) := by decide +kernel
theorem dX12_trace_4 : decode cX12_trace 4 = .ok (.ireturn, 1) := by decide +kernel
theorem dX12_fault_0 : decode cX12_fault 0 = .ok (.aload_n 0, 1) := by decide +kernel
theorem dX12_fault_1 : decode cX12_fault 1 = .ok (.getfield 79, 3) := by decide +kernel
theorem dX12_fault_4 : decode cX12_fault 4 = .ok (.ireturn, 1) := by decide +kernel
theorem dX12_many_0 : decode cX12_many 0 = .ok (.iload_n 1, 1) := by decide +kernel
theorem dX12_many_1 : decode cX12_many 1 = .ok (.tableswitch 84 0 4 #[35, 40, 45, 50, 79], 35) := by decide +kernel
theorem dX12_many_36 : decode cX12_many 36 = .ok (.aload_n 0, 1) := by decide +kernel
theorem dX12_many_37 : decode cX12_many 37 = .ok (.getfield 89, 3) := by decide +kernel
theorem dX12_many_40 : decode cX12_many 40 = .ok (.ireturn, 1) := by decide +kernel
theorem dX12_many_41 : decode cX12_many 41 = .ok (.aload_n 0, 1) := by decide +kernel
theorem dX12_many_42 : decode cX12_many 42 = .ok (.getfield 92, 3) := by decide +kernel
theorem dX12_many_45 : decode cX12_many 45 = .ok (.ireturn, 1) := by decide +kernel
theorem dX12_many_46 : decode cX12_many 46 = .ok (.aload_n 0, 1) := by decide +kernel
theorem dX12_many_47 : decode cX12_many 47 = .ok (.getfield 126, 3) := by decide +kernel
theorem dX12_many_50 : decode cX12_many 50 = .ok (.ireturn, 1) := by decide +kernel
theorem dX12_many_51 : decode cX12_many 51 = .ok (.iconst 0, 1) := by decide +kernel
theorem dX12_many_52 : decode cX12_many 52 = .ok (.istore_n 2, 1) := by decide +kernel
theorem dX12_many_53 : decode cX12_many 53 = .ok (.iconst 0, 1) := by decide +kernel
theorem dX12_many_54 : decode cX12_many 54 = .ok (.istore_n 3, 1) := by decide +kernel
theorem dX12_many_55 : decode cX12_many 55 = .ok (.iload_n 3, 1) := by decide +kernel
theorem dX12_many_56 : decode cX12_many 56 = .ok (.aload_n 0, 1) := by decide +kernel
theorem dX12_many_57 : decode cX12_many 57 = .ok (.getfield 89, 3) := by decide +kernel
theorem dX12_many_60 : decode cX12_many 60 = .ok (.if_icmp .ge 18, 3) := by decide +kernel
theorem dX12_many_63 : decode cX12_many 63 = .ok (.iload_n 2, 1) := by decide +kernel
theorem dX12_many_64 : decode cX12_many 64 = .ok (.aload_n 0, 1) := by decide +kernel
theorem dX12_many_65 : decode cX12_many 65 = .ok (.getfield 31, 3) := by decide +kernel
theorem dX12_many_68 : decode cX12_many 68 = .ok (.iload_n 3, 1) := by decide +kernel
theorem dX12_many_69 : decode cX12_many 69 = .ok (.iaload, 1) := by decide +kernel
theorem dX12_many_70 : decode cX12_many 70 = .ok (.iadd, 1) := by decide +kernel
theorem dX12_many_71 : decode cX12_many 71 = .ok (.istore_n 2, 1) := by decide +kernel
theorem dX12_many_72 : decode cX12_many 72 = .ok (.iinc 3 1, 3) := by decide +kernel
theorem dX12_many_75 : decode cX12_many 75 = .ok (.goto (-20), 3) := by decide +kernel
theorem dX12_many_78 : decode cX12_many 78 = .ok (.iload_n 2, 1) := by decide +kernel
theorem dX12_many_79 : decode cX12_many 79 = .ok (.ireturn, 1) := by decide +kernel
theorem dX12_many_80 : decode cX12_many 80 = .ok (.aload_n 0, 1) := by decide +kernel
theorem dX12_many_81 : decode cX12_many 81 = .ok (.getfield 135, 3) := by decide +kernel
theorem dX12_many_84 : decode cX12_many 84 = .ok (.ireturn, 1) := by decide +kernel
theorem dX12_many_85 : decode cX12_many 85 = .ok (.bipush (-2), 2) := by decide +kernel
theorem dX12_many_87 : decode cX12_many 87 = .ok (.ireturn, 1) := by decide +kernel
end
section
theorem dL_law_0 : decode cL_law 0 = .ok (.new 7, 3) := by decide +kernel
theorem dL_law_3 : decode cL_law 3 = .ok (.dup, 1) := by decide +kernel
theorem dL_law_4 : decode cL_law 4 = .ok (.invokespecial 9, 3) := by decide +kernel
theorem dL_law_7 : decode cL_law 7 = .ok (.astore_n 1, 1) := by decide +kernel
theorem dL_law_8 : decode cL_law 8 = .ok (.new 10, 3) := by decide +kernel
theorem dL_law_11 : decode cL_law 11 = .ok (.dup, 1) := by decide +kernel
theorem dL_law_12 : decode cL_law 12 = .ok (.invokespecial 12, 3) := by decide +kernel
theorem dL_law_15 : decode cL_law 15 = .ok (.astore_n 2, 1) := by decide +kernel
theorem dL_law_16 : decode cL_law 16 = .ok (.iconst 0, 1) := by decide +kernel
theorem dL_law_17 : decode cL_law 17 = .ok (.istore_n 3, 1) := by decide +kernel
theorem dL_law_18 : decode cL_law 18 = .ok (.iload_n 3, 1) := by decide +kernel
theorem dL_law_19 : decode cL_law 19 = .ok (.aload_n 0, 1) := by decide +kernel
theorem dL_law_20 : decode cL_law 20 = .ok (.arraylength, 1) := by decide +kernel
theorem dL_law_21 : decode cL_law 21 = .ok (.bipush 6, 2) := by decide +kernel
theorem dL_law_23 : decode cL_law 23 = .ok (.isub, 1) := by decide +kernel
theorem dL_law_24 : decode cL_law 24 = .ok (.if_icmp .gt 1213, 3) := by decide +kernel
theorem dL_law_27 : decode cL_law 27 = .ok (.aload_n 0, 1) := by decide +kernel
theorem dL_law_28 : decode cL_law 28 = .ok (.iload_n 3, 1) := by decide +kernel
theorem dL_law_29 : decode cL_law 29 = .ok (.iaload, 1) := by decide +kernel
theorem dL_law_30 : decode cL_law 30 = .ok (.bipush 63, 2) := by decide +kernel
theorem dL_law_32 : decode cL_law 32 = .ok (.iand, 1) := by decide +kernel
theorem dL_law_33 : decode cL_law 33 = .ok (.tableswitch 1198 0 32 #[147, 200, 233, 266, 289, 322, 355, 388, 421, 454, 477, 500, 563, 586, 609, 632, 675, 718, 741, 764, 787, 810, 854, 897, 920, 963, 1007, 1070, 1093, 1116, 1149, 1162, 1175], 147) := by decide +kernel
theorem dL_law_180 : decode cL_law 180 = .ok (.aload_n 1, 1) := by decide +kernel
theorem dL_law_181 : decode cL_law 181 = .ok (.aload_n 0, 1) := by decide +kernel
theorem dL_law_182 : decode cL_law 182 = .ok (.iload_n 3, 1) := by decide +kernel
theorem dL_law_183 : decode cL_law 183 = .ok (.iconst 1, 1) := by decide +kernel
theorem dL_law_184 : decode cL_law 184 = .ok (.iadd, 1) := by decide +kernel
theorem dL_law_185 : decode cL_law 185 = .ok (.iaload, 1) := by decide +kernel
theorem dL_law_186 : decode cL_law 186 = .ok (.aload_n 0, 1) := by decide +kernel
theorem dL_law_187 : decode cL_law 187 = .ok (.iload_n 3, 1) := by decide +kernel
theorem dL_law_188 : decode cL_law 188 = .ok (.iconst 2, 1) := by decide +kernel
theorem dL_law_189 : decode cL_law 189 = .ok (.iadd, 1) := by decide +kernel
theorem dL_law_190 : decode cL_law 190 = .ok (.iaload, 1) := by decide +kernel
theorem dL_law_191 : decode cL_law 191 = .ok (.aload_n 0, 1) := by decide +kernel
theorem dL_law_192 : decode cL_law 192 = .ok (.iload_n 3, 1) := by decide +kernel
theorem dL_law_193 : decode cL_law 193 = .ok (.iconst 3, 1) := by decide +kernel
theorem dL_law_194 : decode cL_law 194 = .ok (.iadd, 1) := by decide +kernel
theorem dL_law_195 : decode cL_law 195 = .ok (.iaload, 1) := by decide +kernel
theorem dL_law_196 : decode cL_law 196 = .ok (.aload_n 0, 1) := by decide +kernel
theorem dL_law_197 : decode cL_law 197 = .ok (.iload_n 3, 1) := by decide +kernel
theorem dL_law_198 : decode cL_law 198 = .ok (.iconst 4, 1) := by decide +kernel
theorem dL_law_199 : decode cL_law 199 = .ok (.iadd, 1) := by decide +kernel
theorem dL_law_200 : decode cL_law 200 = .ok (.iaload, 1) := by decide +kernel
theorem dL_law_201 : decode cL_law 201 = .ok (.invokevirtual 13, 3) := by decide +kernel
theorem dL_law_204 : decode cL_law 204 = .ok (.aload_n 2, 1) := by decide +kernel
theorem dL_law_205 : decode cL_law 205 = .ok (.aload_n 0, 1) := by decide +kernel
theorem dL_law_206 : decode cL_law 206 = .ok (.iload_n 3, 1) := by decide +kernel
theorem dL_law_207 : decode cL_law 207 = .ok (.iconst 1, 1) := by decide +kernel
theorem dL_law_208 : decode cL_law 208 = .ok (.iadd, 1) := by decide +kernel
theorem dL_law_209 : decode cL_law 209 = .ok (.iaload, 1) := by decide +kernel
theorem dL_law_210 : decode cL_law 210 = .ok (.aload_n 0, 1) := by decide +kernel
theorem dL_law_211 : decode cL_law 211 = .ok (.iload_n 3, 1) := by decide +kernel
theorem dL_law_212 : decode cL_law 212 = .ok (.iconst 2, 1) := by decide +kernel
theorem dL_law_213 : decode cL_law 213 = .ok (.iadd, 1) := by decide +kernel
theorem dL_law_214 : decode cL_law 214 = .ok (.iaload, 1) := by decide +kernel
theorem dL_law_215 : decode cL_law 215 = .ok (.aload_n 0, 1) := by decide +kernel
theorem dL_law_216 : decode cL_law 216 = .ok (.iload_n 3, 1) := by decide +kernel
theorem dL_law_217 : decode cL_law 217 = .ok (.iconst 3, 1) := by decide +kernel
theorem dL_law_218 : decode cL_law 218 = .ok (.iadd, 1) := by decide +kernel
theorem dL_law_219 : decode cL_law 219 = .ok (.iaload, 1) := by decide +kernel
theorem dL_law_220 : decode cL_law 220 = .ok (.aload_n 0, 1) := by decide +kernel
theorem dL_law_221 : decode cL_law 221 = .ok (.iload_n 3, 1) := by decide +kernel
theorem dL_law_222 : decode cL_law 222 = .ok (.iconst 4, 1) := by decide +kernel
theorem dL_law_223 : decode cL_law 223 = .ok (.iadd, 1) := by decide +kernel
theorem dL_law_224 : decode cL_law 224 = .ok (.iaload, 1) := by decide +kernel
theorem dL_law_225 : decode cL_law 225 = .ok (.invokevirtual 17, 3) := by decide +kernel
theorem dL_law_228 : decode cL_law 228 = .ok (.if_icmp .eq 1003, 3) := by decide +kernel
theorem dL_law_231 : decode cL_law 231 = .ok (.iconst 0, 1) := by decide +kernel
theorem dL_law_232 : decode cL_law 232 = .ok (.ireturn, 1) := by decide +kernel
theorem dL_law_233 : decode cL_law 233 = .ok (.aload_n 1, 1) := by decide +kernel
theorem dL_law_234 : decode cL_law 234 = .ok (.aload_n 0, 1) := by decide +kernel
theorem dL_law_235 : decode cL_law 235 = .ok (.iload_n 3, 1) := by decide +kernel
theorem dL_law_236 : decode cL_law 236 = .ok (.iconst 1, 1) := by decide +kernel
theorem dL_law_237 : decode cL_law 237 = .ok (.iadd, 1) := by decide +kernel
theorem dL_law_238 : decode cL_law 238 = .ok (.iaload, 1) := by decide +kernel
theorem dL_law_239 : decode cL_law 239 = .ok (.aload_n 0, 1) := by decide +kernel
theorem dL_law_240 : decode cL_law 240 = .ok (.iload_n 3, 1) := by decide +kernel
theorem dL_law_241 : decode cL_law 241 = .ok (.iconst 2, 1) := by decide +kernel
theorem dL_law_242 : decode cL_law 242 = .ok (.iadd, 1) := by decide +kernel
theorem dL_law_243 : decode cL_law 243 = .ok (.iaload, 1) := by decide +kernel
theorem dL_law_244 : decode cL_law 244 = .ok (.invokevirtual 18, 3) := by decide +kernel
theorem dL_law_247 : decode cL_law 247 = .ok (.aload_n 2, 1) := by decide +kernel
theorem dL_law_248 : decode cL_law 248 = .ok (.aload_n 0, 1) := by decide +kernel
theorem dL_law_249 : decode cL_law 249 = .ok (.iload_n 3, 1) := by decide +kernel
theorem dL_law_250 : decode cL_law 250 = .ok (.iconst 1, 1) := by decide +kernel
theorem dL_law_251 : decode cL_law 251 = .ok (.iadd, 1) := by decide +kernel
theorem dL_law_252 : decode cL_law 252 = .ok (.iaload, 1) := by decide +kernel
theorem dL_law_253 : decode cL_law 253 = .ok (.aload_n 0, 1) := by decide +kernel
theorem dL_law_254 : decode cL_law 254 = .ok (.iload_n 3, 1) := by decide +kernel
theorem dL_law_255 : decode cL_law 255 = .ok (.iconst 2, 1) := by decide +kernel
theorem dL_law_256 : decode cL_law 256 = .ok (.iadd, 1) := by decide +kernel
theorem dL_law_257 : decode cL_law 257 = .ok (.iaload, 1) := by decide +kernel
theorem dL_law_258 : decode cL_law 258 = .ok (.invokevirtual 22, 3) := by decide +kernel
theorem dL_law_261 : decode cL_law 261 = .ok (.if_icmp .eq 970, 3) := by decide +kernel
theorem dL_law_264 : decode cL_law 264 = .ok (.iconst 0, 1) := by decide +kernel
theorem dL_law_265 : decode cL_law 265 = .ok (.ireturn, 1) := by decide +kernel
theorem dL_law_266 : decode cL_law 266 = .ok (.aload_n 1, 1) := by decide +kernel
theorem dL_law_267 : decode cL_law 267 = .ok (.aload_n 0, 1) := by decide +kernel
theorem dL_law_268 : decode cL_law 268 = .ok (.iload_n 3, 1) := by decide +kernel
theorem dL_law_269 : decode cL_law 269 = .ok (.iconst 1, 1) := by decide +kernel
theorem dL_law_270 : decode cL_law 270 = .ok (.iadd, 1) := by decide +kernel
theorem dL_law_271 : decode cL_law 271 = .ok (.iaload, 1) := by decide +kernel
theorem dL_law_272 : decode cL_law 272 = .ok (.aload_n 0, 1) := by decide +kernel
theorem dL_law_273 : decode cL_law 273 = .ok (.iload_n 3, 1) := by decide +kernel
theorem dL_law_274 : decode cL_law 274 = .ok (.iconst 2, 1) := by decide +kernel
theorem dL_law_275 : decode cL_law 275 = .ok (.iadd, 1) := by decide +kernel
theorem dL_law_276 : decode cL_law 276 = .ok (.iaload, 1) := by decide +kernel
theorem dL_law_277 : decode cL_law 277 = .ok (.invokevirtual 23, 3) := by decide +kernel
theorem dL_law_280 : decode cL_law 280 = .ok (.aload_n 2, 1) := by decide +kernel
theorem dL_law_281 : decode cL_law 281 = .ok (.aload_n 0, 1) := by decide +kernel
theorem dL_law_282 : decode cL_law 282 = .ok (.iload_n 3, 1) := by decide +kernel
theorem dL_law_283 : decode cL_law 283 = .ok (.iconst 1, 1) := by decide +kernel
theorem dL_law_284 : decode cL_law 284 = .ok (.iadd, 1) := by decide +kernel
theorem dL_law_285 : decode cL_law 285 = .ok (.iaload, 1) := by decide +kernel
theorem dL_law_286 : decode cL_law 286 = .ok (.aload_n 0, 1) := by decide +kernel
theorem dL_law_287 : decode cL_law 287 = .ok (.iload_n 3, 1) := by decide +kernel
theorem dL_law_288 : decode cL_law 288 = .ok (.iconst 2, 1) := by decide +kernel
theorem dL_law_289 : decode cL_law 289 = .ok (.iadd, 1) := by decide +kernel
theorem dL_law_290 : decode cL_law 290 = .ok (.iaload, 1) := by decide +kernel
theorem dL_law_291 : decode cL_law 291 = .ok (.invokevirtual 26, 3) := by decide +kernel
theorem dL_law_294 : decode cL_law 294 = .ok (.if_icmp .eq 937, 3) := by decide +kernel
theorem dL_law_297 : decode cL_law 297 = .ok (.iconst 0, 1) := by decide +kernel
theorem dL_law_298 : decode cL_law 298 = .ok (.ireturn, 1) := by decide +kernel
theorem dL_law_299 : decode cL_law 299 = .ok (.aload_n 1, 1) := by decide +kernel
theorem dL_law_300 : decode cL_law 300 = .ok (.aload_n 0, 1) := by decide +kernel
theorem dL_law_301 : decode cL_law 301 = .ok (.iload_n 3, 1) := by decide +kernel
theorem dL_law_302 : decode cL_law 302 = .ok (.iconst 1, 1) := by decide +kernel
theorem dL_law_303 : decode cL_law 303 = .ok (.iadd, 1) := by decide +kernel
theorem dL_law_304 : decode cL_law 304 = .ok (.iaload, 1) := by decide +kernel
theorem dL_law_305 : decode cL_law 305 = .ok (.invokevirtual 27, 3) := by decide +kernel
theorem dL_law_308 : decode cL_law 308 = .ok (.aload_n 2, 1) := by decide +kernel
theorem dL_law_309 : decode cL_law 309 = .ok (.aload_n 0, 1) := by decide +kernel
theorem dL_law_310 : decode cL_law 310 = .ok (.iload_n 3, 1) := by decide +kernel
theorem dL_law_311 : decode cL_law 311 = .ok (.iconst 1, 1) := by decide +kernel
theorem dL_law_312 : decode cL_law 312 = .ok (.iadd, 1) := by decide +kernel
theorem dL_law_313 : decode cL_law 313 = .ok (.iaload, 1) := by decide +kernel
theorem dL_law_314 : decode cL_law 314 = .ok (.invokevirtual 31, 3) := by decide +kernel
theorem dL_law_317 : decode cL_law 317 = .ok (.if_icmp .eq 914, 3) := by decide +kernel
theorem dL_law_320 : decode cL_law 320 = .ok (.iconst 0, 1) := by decide +kernel
theorem dL_law_321 : decode cL_law 321 = .ok (.ireturn, 1) := by decide +kernel
theorem dL_law_322 : decode cL_law 322 = .ok (.aload_n 1, 1) := by decide +kernel
theorem dL_law_323 : decode cL_law 323 = .ok (.aload_n 0, 1) := by decide +kernel
theorem dL_law_324 : decode cL_law 324 = .ok (.iload_n 3, 1) := by decide +kernel
theorem dL_law_325 : decode cL_law 325 = .ok (.iconst 1, 1) := by decide +kernel
theorem dL_law_326 : decode cL_law 326 = .ok (.iadd, 1) := by decide +kernel
theorem dL_law_327 : decode cL_law 327 = .ok (.iaload, 1) := by decide +kernel
theorem dL_law_328 : decode cL_law 328 = .ok (.aload_n 0, 1) := by decide +kernel
theorem dL_law_329 : decode cL_law 329 = .ok (.iload_n 3, 1) := by decide +kernel
theorem dL_law_330 : decode cL_law 330 = .ok (.iconst 2, 1) := by decide +kernel
theorem dL_law_331 : decode cL_law 331 = .ok (.iadd, 1) := by decide +kernel
theorem dL_law_332 : decode cL_law 332 = .ok (.iaload, 1) := by decide +kernel
theorem dL_law_333 : decode cL_law 333 = .ok (.invokevirtual 32, 3) := by decide +kernel
theorem dL_law_336 : decode cL_law 336 = .ok (.aload_n 2, 1) := by decide +kernel
theorem dL_law_337 : decode cL_law 337 = .ok (.aload_n 0, 1) := by decide +kernel
theorem dL_law_338 : decode cL_law 338 = .ok (.iload_n 3, 1) := by decide +kernel
theorem dL_law_339 : decode cL_law 339 = .ok (.iconst 1, 1) := by decide +kernel
theorem dL_law_340 : decode cL_law 340 = .ok (.iadd, 1) := by decide +kernel
theorem dL_law_341 : decode cL_law 341 = .ok (.iaload, 1) := by decide +kernel
theorem dL_law_342 : decode cL_law 342 = .ok (.aload_n 0, 1) := by decide +kernel
theorem dL_law_343 : decode cL_law 343 = .ok (.iload_n 3, 1) := by decide +kernel
theorem dL_law_344 : decode cL_law 344 = .ok (.iconst 2, 1) := by decide +kernel
theorem dL_law_345 : decode cL_law 345 = .ok (.iadd, 1) := by decide +kernel
theorem dL_law_346 : decode cL_law 346 = .ok (.iaload, 1) := by decide +kernel
theorem dL_law_347 : decode cL_law 347 = .ok (.invokevirtual 35, 3) := by decide +kernel
theorem dL_law_350 : decode cL_law 350 = .ok (.if_icmp .eq 881, 3) := by decide +kernel
theorem dL_law_353 : decode cL_law 353 = .ok (.iconst 0, 1) := by decide +kernel
theorem dL_law_354 : decode cL_law 354 = .ok (.ireturn, 1) := by decide +kernel
theorem dL_law_355 : decode cL_law 355 = .ok (.aload_n 1, 1) := by decide +kernel
theorem dL_law_356 : decode cL_law 356 = .ok (.aload_n 0, 1) := by decide +kernel
theorem dL_law_357 : decode cL_law 357 = .ok (.iload_n 3, 1) := by decide +kernel
theorem dL_law_358 : decode cL_law 358 = .ok (.iconst 1, 1) := by decide +kernel
theorem dL_law_359 : decode cL_law 359 = .ok (.iadd, 1) := by decide +kernel
theorem dL_law_360 : decode cL_law 360 = .ok (.iaload, 1) := by decide +kernel
theorem dL_law_361 : decode cL_law 361 = .ok (.aload_n 0, 1) := by decide +kernel
theorem dL_law_362 : decode cL_law 362 = .ok (.iload_n 3, 1) := by decide +kernel
theorem dL_law_363 : decode cL_law 363 = .ok (.iconst 2, 1) := by decide +kernel
theorem dL_law_364 : decode cL_law 364 = .ok (.iadd, 1) := by decide +kernel
theorem dL_law_365 : decode cL_law 365 = .ok (.iaload, 1) := by decide +kernel
theorem dL_law_366 : decode cL_law 366 = .ok (.invokevirtual 36, 3) := by decide +kernel
theorem dL_law_369 : decode cL_law 369 = .ok (.aload_n 2, 1) := by decide +kernel
theorem dL_law_370 : decode cL_law 370 = .ok (.aload_n 0, 1) := by decide +kernel
theorem dL_law_371 : decode cL_law 371 = .ok (.iload_n 3, 1) := by decide +kernel
theorem dL_law_372 : decode cL_law 372 = .ok (.iconst 1, 1) := by decide +kernel
theorem dL_law_373 : decode cL_law 373 = .ok (.iadd, 1) := by decide +kernel
theorem dL_law_374 : decode cL_law 374 = .ok (.iaload, 1) := by decide +kernel
theorem dL_law_375 : decode cL_law 375 = .ok (.aload_n 0, 1) := by decide +kernel
theorem dL_law_376 : decode cL_law 376 = .ok (.iload_n 3, 1) := by decide +kernel
theorem dL_law_377 : decode cL_law 377 = .ok (.iconst 2, 1) := by decide +kernel
theorem dL_law_378 : decode cL_law 378 = .ok (.iadd, 1) := by decide +kernel
theorem dL_law_379 : decode cL_law 379 = .ok (.iaload, 1) := by decide +kernel
theorem dL_law_380 : decode cL_law 380 = .ok (.invokevirtual 39, 3) := by decide +kernel
theorem dL_law_383 : decode cL_law 383 = .ok (.if_icmp .eq 848, 3) := by decide +kernel
theorem dL_law_386 : decode cL_law 386 = .ok (.iconst 0, 1) := by decide +kernel
theorem dL_law_387 : decode cL_law 387 = .ok (.ireturn, 1) := by decide +kernel
theorem dL_law_388 : decode cL_law 388 = .ok (.aload_n 1, 1) := by decide +kernel
theorem dL_law_389 : decode cL_law 389 = .ok (.aload_n 0, 1) := by decide +kernel
theorem dL_law_390 : decode cL_law 390 = .ok (.iload_n 3, 1) := by decide +kernel
theorem dL_law_391 : decode cL_law 391 = .ok (.iconst 1, 1) := by decide +kernel
theorem dL_law_392 : decode cL_law 392 = .ok (.iadd, 1) := by decide +kernel
theorem dL_law_393 : decode cL_law 393 = .ok (.iaload, 1) := by decide +kernel
theorem dL_law_394 : decode cL_law 394 = .ok (.aload_n 0, 1) := by decide +kernel
theorem dL_law_395 : decode cL_law 395 = .ok (.iload_n 3, 1) := by decide +kernel
theorem dL_law_396 : decode cL_law 396 = .ok (.iconst 2, 1) := by decide +kernel
theorem dL_law_397 : decode cL_law 397 = .ok (.iadd, 1) := by decide +kernel
theorem dL_law_398 : decode cL_law 398 = .ok (.iaload, 1) := by decide +kernel
theorem dL_law_399 : decode cL_law 399 = .ok (.invokevirtual 40, 3) := by decide +kernel
theorem dL_law_402 : decode cL_law 402 = .ok (.aload_n 2, 1) := by decide +kernel
theorem dL_law_403 : decode cL_law 403 = .ok (.aload_n 0, 1) := by decide +kernel
theorem dL_law_404 : decode cL_law 404 = .ok (.iload_n 3, 1) := by decide +kernel
theorem dL_law_405 : decode cL_law 405 = .ok (.iconst 1, 1) := by decide +kernel
theorem dL_law_406 : decode cL_law 406 = .ok (.iadd, 1) := by decide +kernel
theorem dL_law_407 : decode cL_law 407 = .ok (.iaload, 1) := by decide +kernel
theorem dL_law_408 : decode cL_law 408 = .ok (.aload_n 0, 1) := by decide +kernel
theorem dL_law_409 : decode cL_law 409 = .ok (.iload_n 3, 1) := by decide +kernel
theorem dL_law_410 : decode cL_law 410 = .ok (.iconst 2, 1) := by decide +kernel
theorem dL_law_411 : decode cL_law 411 = .ok (.iadd, 1) := by decide +kernel
theorem dL_law_412 : decode cL_law 412 = .ok (.iaload, 1) := by decide +kernel
theorem dL_law_413 : decode cL_law 413 = .ok (.invokevirtual 43, 3) := by decide +kernel
theorem dL_law_416 : decode cL_law 416 = .ok (.if_icmp .eq 815, 3) := by decide +kernel
theorem dL_law_419 : decode cL_law 419 = .ok (.iconst 0, 1) := by decide +kernel
theorem dL_law_420 : decode cL_law 420 = .ok (.ireturn, 1) := by decide +kernel
theorem dL_law_421 : decode cL_law 421 = .ok (.aload_n 1, 1) := by decide +kernel
theorem dL_law_422 : decode cL_law 422 = .ok (.aload_n 0, 1) := by decide +kernel
theorem dL_law_423 : decode cL_law 423 = .ok (.iload_n 3, 1) := by decide +kernel
theorem dL_law_424 : decode cL_law 424 = .ok (.iconst 1, 1) := by decide +kernel
theorem dL_law_425 : decode cL_law 425 = .ok (.iadd, 1) := by decide +kernel
theorem dL_law_426 : decode cL_law 426 = .ok (.iaload, 1) := by decide +kernel
theorem dL_law_427 : decode cL_law 427 = .ok (.aload_n 0, 1) := by decide +kernel
theorem dL_law_428 : decode cL_law 428 = .ok (.iload_n 3, 1) := by decide +kernel
theorem dL_law_429 : decode cL_law 429 = .ok (.iconst 2, 1) := by decide +kernel
theorem dL_law_430 : decode cL_law 430 = .ok (.iadd, 1) := by decide +kernel
theorem dL_law_431 : decode cL_law 431 = .ok (.iaload, 1) := by decide +kernel
theorem dL_law_432 : decode cL_law 432 = .ok (.invokevirtual 44, 3) := by decide +kernel
theorem dL_law_435 : decode cL_law 435 = .ok (.aload_n 2, 1) := by decide +kernel
theorem dL_law_436 : decode cL_law 436 = .ok (.aload_n 0, 1) := by decide +kernel
theorem dL_law_437 : decode cL_law 437 = .ok (.iload_n 3, 1) := by decide +kernel
theorem dL_law_438 : decode cL_law 438 = .ok (.iconst 1, 1) := by decide +kernel
theorem dL_law_439 : decode cL_law 439 = .ok (.iadd, 1) := by decide +kernel
theorem dL_law_440 : decode cL_law 440 = .ok (.iaload, 1) := by decide +kernel
theorem dL_law_441 : decode cL_law 441 = .ok (.aload_n 0, 1) := by decide +kernel
theorem dL_law_442 : decode cL_law 442 = .ok (.iload_n 3, 1) := by decide +kernel
theorem dL_law_443 : decode cL_law 443 = .ok (.iconst 2, 1) := by decide +kernel
theorem dL_law_444 : decode cL_law 444 = .ok (.iadd, 1) := by decide +kernel
theorem dL_law_445 : decode cL_law 445 = .ok (.iaload, 1) := by decide +kernel
theorem dL_law_446 : decode cL_law 446 = .ok (.invokevirtual 47, 3) := by decide +kernel
theorem dL_law_449 : decode cL_law 449 = .ok (.if_icmp .eq 782, 3) := by decide +kernel
theorem dL_law_452 : decode cL_law 452 = .ok (.iconst 0, 1) := by decide +kernel
theorem dL_law_453 : decode cL_law 453 = .ok (.ireturn, 1) := by decide +kernel
theorem dL_law_454 : decode cL_law 454 = .ok (.aload_n 1, 1) := by decide +kernel
theorem dL_law_455 : decode cL_law 455 = .ok (.aload_n 0, 1) := by decide +kernel
theorem dL_law_456 : decode cL_law 456 = .ok (.iload_n 3, 1) := by decide +kernel
theorem dL_law_457 : decode cL_law 457 = .ok (.iconst 1, 1) := by decide +kernel
theorem dL_law_458 : decode cL_law 458 = .ok (.iadd, 1) := by decide +kernel
theorem dL_law_459 : decode cL_law 459 = .ok (.iaload, 1) := by decide +kernel
theorem dL_law_460 : decode cL_law 460 = .ok (.aload_n 0, 1) := by decide +kernel
theorem dL_law_461 : decode cL_law 461 = .ok (.iload_n 3, 1) := by decide +kernel
theorem dL_law_462 : decode cL_law 462 = .ok (.iconst 2, 1) := by decide +kernel
theorem dL_law_463 : decode cL_law 463 = .ok (.iadd, 1) := by decide +kernel
theorem dL_law_464 : decode cL_law 464 = .ok (.iaload, 1) := by decide +kernel
theorem dL_law_465 : decode cL_law 465 = .ok (.invokevirtual 48, 3) := by decide +kernel
theorem dL_law_468 : decode cL_law 468 = .ok (.aload_n 2, 1) := by decide +kernel
theorem dL_law_469 : decode cL_law 469 = .ok (.aload_n 0, 1) := by decide +kernel
theorem dL_law_470 : decode cL_law 470 = .ok (.iload_n 3, 1) := by decide +kernel
theorem dL_law_471 : decode cL_law 471 = .ok (.iconst 1, 1) := by decide +kernel
theorem dL_law_472 : decode cL_law 472 = .ok (.iadd, 1) := by decide +kernel
theorem dL_law_473 : decode cL_law 473 = .ok (.iaload, 1) := by decide +kernel
theorem dL_law_474 : decode cL_law 474 = .ok (.aload_n 0, 1) := by decide +kernel
theorem dL_law_475 : decode cL_law 475 = .ok (.iload_n 3, 1) := by decide +kernel
theorem dL_law_476 : decode cL_law 476 = .ok (.iconst 2, 1) := by decide +kernel
theorem dL_law_477 : decode cL_law 477 = .ok (.iadd, 1) := by decide +kernel
theorem dL_law_478 : decode cL_law 478 = .ok (.iaload, 1) := by decide +kernel
theorem dL_law_479 : decode cL_law 479 = .ok (.invokevirtual 51, 3) := by decide +kernel
theorem dL_law_482 : decode cL_law 482 = .ok (.if_icmp .eq 749, 3) := by decide +kernel
theorem dL_law_485 : decode cL_law 485 = .ok (.iconst 0, 1) := by decide +kernel
theorem dL_law_486 : decode cL_law 486 = .ok (.ireturn, 1) := by decide +kernel
theorem dL_law_487 : decode cL_law 487 = .ok (.aload_n 1, 1) := by decide +kernel
theorem dL_law_488 : decode cL_law 488 = .ok (.aload_n 0, 1) := by decide +kernel
theorem dL_law_489 : decode cL_law 489 = .ok (.iload_n 3, 1) := by decide +kernel
theorem dL_law_490 : decode cL_law 490 = .ok (.iconst 1, 1) := by decide +kernel
theorem dL_law_491 : decode cL_law 491 = .ok (.iadd, 1) := by decide +kernel
theorem dL_law_492 : decode cL_law 492 = .ok (.iaload, 1) := by decide +kernel
theorem dL_law_493 : decode cL_law 493 = .ok (.invokevirtual 52, 3) := by decide +kernel
theorem dL_law_496 : decode cL_law 496 = .ok (.aload_n 2, 1) := by decide +kernel
theorem dL_law_497 : decode cL_law 497 = .ok (.aload_n 0, 1) := by decide +kernel
theorem dL_law_498 : decode cL_law 498 = .ok (.iload_n 3, 1) := by decide +kernel
theorem dL_law_499 : decode cL_law 499 = .ok (.iconst 1, 1) := by decide +kernel
theorem dL_law_500 : decode cL_law 500 = .ok (.iadd, 1) := by decide +kernel
theorem dL_law_501 : decode cL_law 501 = .ok (.iaload, 1) := by decide +kernel
theorem dL_law_502 : decode cL_law 502 = .ok (.invokevirtual 55, 3) := by decide +kernel
theorem dL_law_505 : decode cL_law 505 = .ok (.if_icmp .eq 726, 3) := by decide +kernel
theorem dL_law_508 : decode cL_law 508 = .ok (.iconst 0, 1) := by decide +kernel
theorem dL_law_509 : decode cL_law 509 = .ok (.ireturn, 1) := by decide +kernel
theorem dL_law_510 : decode cL_law 510 = .ok (.aload_n 1, 1) := by decide +kernel
theorem dL_law_511 : decode cL_law 511 = .ok (.aload_n 0, 1) := by decide +kernel
theorem dL_law_512 : decode cL_law 512 = .ok (.iload_n 3, 1) := by decide +kernel
theorem dL_law_513 : decode cL_law 513 = .ok (.iconst 1, 1) := by decide +kernel
theorem dL_law_514 : decode cL_law 514 = .ok (.iadd, 1) := by decide +kernel
theorem dL_law_515 : decode cL_law 515 = .ok (.iaload, 1) := by decide +kernel
theorem dL_law_516 : decode cL_law 516 = .ok (.invokevirtual 56, 3) := by decide +kernel
theorem dL_law_519 : decode cL_law 519 = .ok (.aload_n 2, 1) := by decide +kernel
theorem dL_law_520 : decode cL_law 520 = .ok (.aload_n 0, 1) := by decide +kernel
theorem dL_law_521 : decode cL_law 521 = .ok (.iload_n 3, 1) := by decide +kernel
theorem dL_law_522 : decode cL_law 522 = .ok (.iconst 1, 1) := by decide +kernel
theorem dL_law_523 : decode cL_law 523 = .ok (.iadd, 1) := by decide +kernel
theorem dL_law_524 : decode cL_law 524 = .ok (.iaload, 1) := by decide +kernel
theorem dL_law_525 : decode cL_law 525 = .ok (.invokevirtual 59, 3) := by decide +kernel
theorem dL_law_528 : decode cL_law 528 = .ok (.if_icmp .eq 703, 3) := by decide +kernel
theorem dL_law_531 : decode cL_law 531 = .ok (.iconst 0, 1) := by decide +kernel
theorem dL_law_532 : decode cL_law 532 = .ok (.ireturn, 1) := by decide +kernel
theorem dL_law_533 : decode cL_law 533 = .ok (.aload_n 1, 1) := by decide +kernel
theorem dL_law_534 : decode cL_law 534 = .ok (.aload_n 0, 1) := by decide +kernel
theorem dL_law_535 : decode cL_law 535 = .ok (.iload_n 3, 1) := by decide +kernel
theorem dL_law_536 : decode cL_law 536 = .ok (.iconst 1, 1) := by decide +kernel
theorem dL_law_537 : decode cL_law 537 = .ok (.iadd, 1) := by decide +kernel
theorem dL_law_538 : decode cL_law 538 = .ok (.iaload, 1) := by decide +kernel
theorem dL_law_539 : decode cL_law 539 = .ok (.aload_n 0, 1) := by decide +kernel
theorem dL_law_540 : decode cL_law 540 = .ok (.iload_n 3, 1) := by decide +kernel
theorem dL_law_541 : decode cL_law 541 = .ok (.iconst 2, 1) := by decide +kernel
theorem dL_law_542 : decode cL_law 542 = .ok (.iadd, 1) := by decide +kernel
theorem dL_law_543 : decode cL_law 543 = .ok (.iaload, 1) := by decide +kernel
theorem dL_law_544 : decode cL_law 544 = .ok (.aload_n 0, 1) := by decide +kernel
theorem dL_law_545 : decode cL_law 545 = .ok (.iload_n 3, 1) := by decide +kernel
theorem dL_law_546 : decode cL_law 546 = .ok (.iconst 3, 1) := by decide +kernel
theorem dL_law_547 : decode cL_law 547 = .ok (.iadd, 1) := by decide +kernel
theorem dL_law_548 : decode cL_law 548 = .ok (.iaload, 1) := by decide +kernel
theorem dL_law_549 : decode cL_law 549 = .ok (.aload_n 0, 1) := by decide +kernel
theorem dL_law_550 : decode cL_law 550 = .ok (.iload_n 3, 1) := by decide +kernel
theorem dL_law_551 : decode cL_law 551 = .ok (.iconst 4, 1) := by decide +kernel
theorem dL_law_552 : decode cL_law 552 = .ok (.iadd, 1) := by decide +kernel
theorem dL_law_553 : decode cL_law 553 = .ok (.iaload, 1) := by decide +kernel
theorem dL_law_554 : decode cL_law 554 = .ok (.aload_n 0, 1) := by decide +kernel
theorem dL_law_555 : decode cL_law 555 = .ok (.iload_n 3, 1) := by decide +kernel
theorem dL_law_556 : decode cL_law 556 = .ok (.iconst 5, 1) := by decide +kernel
theorem dL_law_557 : decode cL_law 557 = .ok (.iadd, 1) := by decide +kernel
theorem dL_law_558 : decode cL_law 558 = .ok (.iaload, 1) := by decide +kernel
theorem dL_law_559 : decode cL_law 559 = .ok (.invokevirtual 60, 3) := by decide +kernel
theorem dL_law_562 : decode cL_law 562 = .ok (.aload_n 2, 1) := by decide +kernel
theorem dL_law_563 : decode cL_law 563 = .ok (.aload_n 0, 1) := by decide +kernel
theorem dL_law_564 : decode cL_law 564 = .ok (.iload_n 3, 1) := by decide +kernel
theorem dL_law_565 : decode cL_law 565 = .ok (.iconst 1, 1) := by decide +kernel
theorem dL_law_566 : decode cL_law 566 = .ok (.iadd, 1) := by decide +kernel
theorem dL_law_567 : decode cL_law 567 = .ok (.iaload, 1) := by decide +kernel
theorem dL_law_568 : decode cL_law 568 = .ok (.aload_n 0, 1) := by decide +kernel
theorem dL_law_569 : decode cL_law 569 = .ok (.iload_n 3, 1) := by decide +kernel
theorem dL_law_570 : decode cL_law 570 = .ok (.iconst 2, 1) := by decide +kernel
theorem dL_law_571 : decode cL_law 571 = .ok (.iadd, 1) := by decide +kernel
theorem dL_law_572 : decode cL_law 572 = .ok (.iaload, 1) := by decide +kernel
theorem dL_law_573 : decode cL_law 573 = .ok (.aload_n 0, 1) := by decide +kernel
theorem dL_law_574 : decode cL_law 574 = .ok (.iload_n 3, 1) := by decide +kernel
theorem dL_law_575 : decode cL_law 575 = .ok (.iconst 3, 1) := by decide +kernel
theorem dL_law_576 : decode cL_law 576 = .ok (.iadd, 1) := by decide +kernel
theorem dL_law_577 : decode cL_law 577 = .ok (.iaload, 1) := by decide +kernel
theorem dL_law_578 : decode cL_law 578 = .ok (.aload_n 0, 1) := by decide +kernel
theorem dL_law_579 : decode cL_law 579 = .ok (.iload_n 3, 1) := by decide +kernel
theorem dL_law_580 : decode cL_law 580 = .ok (.iconst 4, 1) := by decide +kernel
theorem dL_law_581 : decode cL_law 581 = .ok (.iadd, 1) := by decide +kernel
theorem dL_law_582 : decode cL_law 582 = .ok (.iaload, 1) := by decide +kernel
theorem dL_law_583 : decode cL_law 583 = .ok (.aload_n 0, 1) := by decide +kernel
theorem dL_law_584 : decode cL_law 584 = .ok (.iload_n 3, 1) := by decide +kernel
theorem dL_law_585 : decode cL_law 585 = .ok (.iconst 5, 1) := by decide +kernel
theorem dL_law_586 : decode cL_law 586 = .ok (.iadd, 1) := by decide +kernel
theorem dL_law_587 : decode cL_law 587 = .ok (.iaload, 1) := by decide +kernel
theorem dL_law_588 : decode cL_law 588 = .ok (.invokevirtual 64, 3) := by decide +kernel
theorem dL_law_591 : decode cL_law 591 = .ok (.if_icmp .eq 640, 3) := by decide +kernel
theorem dL_law_594 : decode cL_law 594 = .ok (.iconst 0, 1) := by decide +kernel
theorem dL_law_595 : decode cL_law 595 = .ok (.ireturn, 1) := by decide +kernel
theorem dL_law_596 : decode cL_law 596 = .ok (.aload_n 1, 1) := by decide +kernel
theorem dL_law_597 : decode cL_law 597 = .ok (.aload_n 0, 1) := by decide +kernel
theorem dL_law_598 : decode cL_law 598 = .ok (.iload_n 3, 1) := by decide +kernel
theorem dL_law_599 : decode cL_law 599 = .ok (.iconst 1, 1) := by decide +kernel
theorem dL_law_600 : decode cL_law 600 = .ok (.iadd, 1) := by decide +kernel
theorem dL_law_601 : decode cL_law 601 = .ok (.iaload, 1) := by decide +kernel
theorem dL_law_602 : decode cL_law 602 = .ok (.invokevirtual 65, 3) := by decide +kernel
theorem dL_law_605 : decode cL_law 605 = .ok (.aload_n 2, 1) := by decide +kernel
theorem dL_law_606 : decode cL_law 606 = .ok (.aload_n 0, 1) := by decide +kernel
theorem dL_law_607 : decode cL_law 607 = .ok (.iload_n 3, 1) := by decide +kernel
theorem dL_law_608 : decode cL_law 608 = .ok (.iconst 1, 1) := by decide +kernel
theorem dL_law_609 : decode cL_law 609 = .ok (.iadd, 1) := by decide +kernel
theorem dL_law_610 : decode cL_law 610 = .ok (.iaload, 1) := by decide +kernel
theorem dL_law_611 : decode cL_law 611 = .ok (.invokevirtual 68, 3) := by decide +kernel
theorem dL_law_614 : decode cL_law 614 = .ok (.if_icmp .eq 617, 3) := by decide +kernel
theorem dL_law_617 : decode cL_law 617 = .ok (.iconst 0, 1) := by decide +kernel
theorem dL_law_618 : decode cL_law 618 = .ok (.ireturn, 1) := by decide +kernel
theorem dL_law_619 : decode cL_law 619 = .ok (.aload_n 1, 1) := by decide +kernel
theorem dL_law_620 : decode cL_law 620 = .ok (.aload_n 0, 1) := by decide +kernel
theorem dL_law_621 : decode cL_law 621 = .ok (.iload_n 3, 1) := by decide +kernel
theorem dL_law_622 : decode cL_law 622 = .ok (.iconst 1, 1) := by decide +kernel
theorem dL_law_623 : decode cL_law 623 = .ok (.iadd, 1) := by decide +kernel
theorem dL_law_624 : decode cL_law 624 = .ok (.iaload, 1) := by decide +kernel
theorem dL_law_625 : decode cL_law 625 = .ok (.invokevirtual 69, 3) := by decide +kernel
theorem dL_law_628 : decode cL_law 628 = .ok (.aload_n 2, 1) := by decide +kernel
theorem dL_law_629 : decode cL_law 629 = .ok (.aload_n 0, 1) := by decide +kernel
theorem dL_law_630 : decode cL_law 630 = .ok (.iload_n 3, 1) := by decide +kernel
theorem dL_law_631 : decode cL_law 631 = .ok (.iconst 1, 1) := by decide +kernel
theorem dL_law_632 : decode cL_law 632 = .ok (.iadd, 1) := by decide +kernel
theorem dL_law_633 : decode cL_law 633 = .ok (.iaload, 1) := by decide +kernel
theorem dL_law_634 : decode cL_law 634 = .ok (.invokevirtual 72, 3) := by decide +kernel
theorem dL_law_637 : decode cL_law 637 = .ok (.if_icmp .eq 594, 3) := by decide +kernel
theorem dL_law_640 : decode cL_law 640 = .ok (.iconst 0, 1) := by decide +kernel
theorem dL_law_641 : decode cL_law 641 = .ok (.ireturn, 1) := by decide +kernel
theorem dL_law_642 : decode cL_law 642 = .ok (.aload_n 1, 1) := by decide +kernel
theorem dL_law_643 : decode cL_law 643 = .ok (.aload_n 0, 1) := by decide +kernel
theorem dL_law_644 : decode cL_law 644 = .ok (.iload_n 3, 1) := by decide +kernel
theorem dL_law_645 : decode cL_law 645 = .ok (.iconst 1, 1) := by decide +kernel
theorem dL_law_646 : decode cL_law 646 = .ok (.iadd, 1) := by decide +kernel
theorem dL_law_647 : decode cL_law 647 = .ok (.iaload, 1) := by decide +kernel
theorem dL_law_648 : decode cL_law 648 = .ok (.invokevirtual 73, 3) := by decide +kernel
theorem dL_law_651 : decode cL_law 651 = .ok (.aload_n 2, 1) := by decide +kernel
theorem dL_law_652 : decode cL_law 652 = .ok (.aload_n 0, 1) := by decide +kernel
theorem dL_law_653 : decode cL_law 653 = .ok (.iload_n 3, 1) := by decide +kernel
theorem dL_law_654 : decode cL_law 654 = .ok (.iconst 1, 1) := by decide +kernel
theorem dL_law_655 : decode cL_law 655 = .ok (.iadd, 1) := by decide +kernel
theorem dL_law_656 : decode cL_law 656 = .ok (.iaload, 1) := by decide +kernel
theorem dL_law_657 : decode cL_law 657 = .ok (.invokevirtual 76, 3) := by decide +kernel
theorem dL_law_660 : decode cL_law 660 = .ok (.if_icmp .eq 571, 3) := by decide +kernel
theorem dL_law_663 : decode cL_law 663 = .ok (.iconst 0, 1) := by decide +kernel
theorem dL_law_664 : decode cL_law 664 = .ok (.ireturn, 1) := by decide +kernel
theorem dL_law_665 : decode cL_law 665 = .ok (.aload_n 1, 1) := by decide +kernel
theorem dL_law_666 : decode cL_law 666 = .ok (.aload_n 0, 1) := by decide +kernel
theorem dL_law_667 : decode cL_law 667 = .ok (.iload_n 3, 1) := by decide +kernel
theorem dL_law_668 : decode cL_law 668 = .ok (.iconst 1, 1) := by decide +kernel
theorem dL_law_669 : decode cL_law 669 = .ok (.iadd, 1) := by decide +kernel
theorem dL_law_670 : decode cL_law 670 = .ok (.iaload, 1) := by decide +kernel
theorem dL_law_671 : decode cL_law 671 = .ok (.aload_n 0, 1) := by decide +kernel
theorem dL_law_672 : decode cL_law 672 = .ok (.iload_n 3, 1) := by decide +kernel
theorem dL_law_673 : decode cL_law 673 = .ok (.iconst 2, 1) := by decide +kernel
theorem dL_law_674 : decode cL_law 674 = .ok (.iadd, 1) := by decide +kernel
theorem dL_law_675 : decode cL_law 675 = .ok (.iaload, 1) := by decide +kernel
theorem dL_law_676 : decode cL_law 676 = .ok (.aload_n 0, 1) := by decide +kernel
theorem dL_law_677 : decode cL_law 677 = .ok (.iload_n 3, 1) := by decide +kernel
theorem dL_law_678 : decode cL_law 678 = .ok (.iconst 3, 1) := by decide +kernel
theorem dL_law_679 : decode cL_law 679 = .ok (.iadd, 1) := by decide +kernel
theorem dL_law_680 : decode cL_law 680 = .ok (.iaload, 1) := by decide +kernel
theorem dL_law_681 : decode cL_law 681 = .ok (.invokevirtual 77, 3) := by decide +kernel
theorem dL_law_684 : decode cL_law 684 = .ok (.aload_n 2, 1) := by decide +kernel
theorem dL_law_685 : decode cL_law 685 = .ok (.aload_n 0, 1) := by decide +kernel
theorem dL_law_686 : decode cL_law 686 = .ok (.iload_n 3, 1) := by decide +kernel
theorem dL_law_687 : decode cL_law 687 = .ok (.iconst 1, 1) := by decide +kernel
theorem dL_law_688 : decode cL_law 688 = .ok (.iadd, 1) := by decide +kernel
theorem dL_law_689 : decode cL_law 689 = .ok (.iaload, 1) := by decide +kernel
theorem dL_law_690 : decode cL_law 690 = .ok (.aload_n 0, 1) := by decide +kernel
theorem dL_law_691 : decode cL_law 691 = .ok (.iload_n 3, 1) := by decide +kernel
theorem dL_law_692 : decode cL_law 692 = .ok (.iconst 2, 1) := by decide +kernel
theorem dL_law_693 : decode cL_law 693 = .ok (.iadd, 1) := by decide +kernel
theorem dL_law_694 : decode cL_law 694 = .ok (.iaload, 1) := by decide +kernel
theorem dL_law_695 : decode cL_law 695 = .ok (.aload_n 0, 1) := by decide +kernel
theorem dL_law_696 : decode cL_law 696 = .ok (.iload_n 3, 1) := by decide +kernel
theorem dL_law_697 : decode cL_law 697 = .ok (.iconst 3, 1) := by decide +kernel
theorem dL_law_698 : decode cL_law 698 = .ok (.iadd, 1) := by decide +kernel
theorem dL_law_699 : decode cL_law 699 = .ok (.iaload, 1) := by decide +kernel
theorem dL_law_700 : decode cL_law 700 = .ok (.invokevirtual 81, 3) := by decide +kernel
theorem dL_law_703 : decode cL_law 703 = .ok (.if_icmp .eq 528, 3) := by decide +kernel
theorem dL_law_706 : decode cL_law 706 = .ok (.iconst 0, 1) := by decide +kernel
theorem dL_law_707 : decode cL_law 707 = .ok (.ireturn, 1) := by decide +kernel
theorem dL_law_708 : decode cL_law 708 = .ok (.aload_n 1, 1) := by decide +kernel
theorem dL_law_709 : decode cL_law 709 = .ok (.aload_n 0, 1) := by decide +kernel
theorem dL_law_710 : decode cL_law 710 = .ok (.iload_n 3, 1) := by decide +kernel
theorem dL_law_711 : decode cL_law 711 = .ok (.iconst 1, 1) := by decide +kernel
theorem dL_law_712 : decode cL_law 712 = .ok (.iadd, 1) := by decide +kernel
theorem dL_law_713 : decode cL_law 713 = .ok (.iaload, 1) := by decide +kernel
theorem dL_law_714 : decode cL_law 714 = .ok (.aload_n 0, 1) := by decide +kernel
theorem dL_law_715 : decode cL_law 715 = .ok (.iload_n 3, 1) := by decide +kernel
theorem dL_law_716 : decode cL_law 716 = .ok (.iconst 2, 1) := by decide +kernel
theorem dL_law_717 : decode cL_law 717 = .ok (.iadd, 1) := by decide +kernel
theorem dL_law_718 : decode cL_law 718 = .ok (.iaload, 1) := by decide +kernel
theorem dL_law_719 : decode cL_law 719 = .ok (.aload_n 0, 1) := by decide +kernel
theorem dL_law_720 : decode cL_law 720 = .ok (.iload_n 3, 1) := by decide +kernel
theorem dL_law_721 : decode cL_law 721 = .ok (.iconst 3, 1) := by decide +kernel
theorem dL_law_722 : decode cL_law 722 = .ok (.iadd, 1) := by decide +kernel
theorem dL_law_723 : decode cL_law 723 = .ok (.iaload, 1) := by decide +kernel
theorem dL_law_724 : decode cL_law 724 = .ok (.invokevirtual 82, 3) := by decide +kernel
theorem dL_law_727 : decode cL_law 727 = .ok (.aload_n 2, 1) := by decide +kernel
theorem dL_law_728 : decode cL_law 728 = .ok (.aload_n 0, 1) := by decide +kernel
theorem dL_law_729 : decode cL_law 729 = .ok (.iload_n 3, 1) := by decide +kernel
theorem dL_law_730 : decode cL_law 730 = .ok (.iconst 1, 1) := by decide +kernel
theorem dL_law_731 : decode cL_law 731 = .ok (.iadd, 1) := by decide +kernel
theorem dL_law_732 : decode cL_law 732 = .ok (.iaload, 1) := by decide +kernel
theorem dL_law_733 : decode cL_law 733 = .ok (.aload_n 0, 1) := by decide +kernel
theorem dL_law_734 : decode cL_law 734 = .ok (.iload_n 3, 1) := by decide +kernel
theorem dL_law_735 : decode cL_law 735 = .ok (.iconst 2, 1) := by decide +kernel
theorem dL_law_736 : decode cL_law 736 = .ok (.iadd, 1) := by decide +kernel
theorem dL_law_737 : decode cL_law 737 = .ok (.iaload, 1) := by decide +kernel
theorem dL_law_738 : decode cL_law 738 = .ok (.aload_n 0, 1) := by decide +kernel
theorem dL_law_739 : decode cL_law 739 = .ok (.iload_n 3, 1) := by decide +kernel
theorem dL_law_740 : decode cL_law 740 = .ok (.iconst 3, 1) := by decide +kernel
theorem dL_law_741 : decode cL_law 741 = .ok (.iadd, 1) := by decide +kernel
theorem dL_law_742 : decode cL_law 742 = .ok (.iaload, 1) := by decide +kernel
theorem dL_law_743 : decode cL_law 743 = .ok (.invokevirtual 85, 3) := by decide +kernel
theorem dL_law_746 : decode cL_law 746 = .ok (.if_icmp .eq 485, 3) := by decide +kernel
theorem dL_law_749 : decode cL_law 749 = .ok (.iconst 0, 1) := by decide +kernel
theorem dL_law_750 : decode cL_law 750 = .ok (.ireturn, 1) := by decide +kernel
theorem dL_law_751 : decode cL_law 751 = .ok (.aload_n 1, 1) := by decide +kernel
theorem dL_law_752 : decode cL_law 752 = .ok (.aload_n 0, 1) := by decide +kernel
theorem dL_law_753 : decode cL_law 753 = .ok (.iload_n 3, 1) := by decide +kernel
theorem dL_law_754 : decode cL_law 754 = .ok (.iconst 1, 1) := by decide +kernel
theorem dL_law_755 : decode cL_law 755 = .ok (.iadd, 1) := by decide +kernel
theorem dL_law_756 : decode cL_law 756 = .ok (.iaload, 1) := by decide +kernel
theorem dL_law_757 : decode cL_law 757 = .ok (.invokevirtual 86, 3) := by decide +kernel
theorem dL_law_760 : decode cL_law 760 = .ok (.aload_n 2, 1) := by decide +kernel
theorem dL_law_761 : decode cL_law 761 = .ok (.aload_n 0, 1) := by decide +kernel
theorem dL_law_762 : decode cL_law 762 = .ok (.iload_n 3, 1) := by decide +kernel
theorem dL_law_763 : decode cL_law 763 = .ok (.iconst 1, 1) := by decide +kernel
theorem dL_law_764 : decode cL_law 764 = .ok (.iadd, 1) := by decide +kernel
theorem dL_law_765 : decode cL_law 765 = .ok (.iaload, 1) := by decide +kernel
theorem dL_law_766 : decode cL_law 766 = .ok (.invokevirtual 89, 3) := by decide +kernel
theorem dL_law_769 : decode cL_law 769 = .ok (.if_icmp .eq 462, 3) := by decide +kernel
theorem dL_law_772 : decode cL_law 772 = .ok (.iconst 0, 1) := by decide +kernel
theorem dL_law_773 : decode cL_law 773 = .ok (.ireturn, 1) := by decide +kernel
theorem dL_law_774 : decode cL_law 774 = .ok (.aload_n 1, 1) := by decide +kernel
theorem dL_law_775 : decode cL_law 775 = .ok (.aload_n 0, 1) := by decide +kernel
theorem dL_law_776 : decode cL_law 776 = .ok (.iload_n 3, 1) := by decide +kernel
theorem dL_law_777 : decode cL_law 777 = .ok (.iconst 1, 1) := by decide +kernel
theorem dL_law_778 : decode cL_law 778 = .ok (.iadd, 1) := by decide +kernel
theorem dL_law_779 : decode cL_law 779 = .ok (.iaload, 1) := by decide +kernel
theorem dL_law_780 : decode cL_law 780 = .ok (.invokevirtual 90, 3) := by decide +kernel
theorem dL_law_783 : decode cL_law 783 = .ok (.aload_n 2, 1) := by decide +kernel
theorem dL_law_784 : decode cL_law 784 = .ok (.aload_n 0, 1) := by decide +kernel
theorem dL_law_785 : decode cL_law 785 = .ok (.iload_n 3, 1) := by decide +kernel
theorem dL_law_786 : decode cL_law 786 = .ok (.iconst 1, 1) := by decide +kernel
theorem dL_law_787 : decode cL_law 787 = .ok (.iadd, 1) := by decide +kernel
theorem dL_law_788 : decode cL_law 788 = .ok (.iaload, 1) := by decide +kernel
theorem dL_law_789 : decode cL_law 789 = .ok (.invokevirtual 93, 3) := by decide +kernel
theorem dL_law_792 : decode cL_law 792 = .ok (.if_icmp .eq 439, 3) := by decide +kernel
theorem dL_law_795 : decode cL_law 795 = .ok (.iconst 0, 1) := by decide +kernel
theorem dL_law_796 : decode cL_law 796 = .ok (.ireturn, 1) := by decide +kernel
theorem dL_law_797 : decode cL_law 797 = .ok (.aload_n 1, 1) := by decide +kernel
theorem dL_law_798 : decode cL_law 798 = .ok (.aload_n 0, 1) := by decide +kernel
theorem dL_law_799 : decode cL_law 799 = .ok (.iload_n 3, 1) := by decide +kernel
theorem dL_law_800 : decode cL_law 800 = .ok (.iconst 1, 1) := by decide +kernel
theorem dL_law_801 : decode cL_law 801 = .ok (.iadd, 1) := by decide +kernel
theorem dL_law_802 : decode cL_law 802 = .ok (.iaload, 1) := by decide +kernel
theorem dL_law_803 : decode cL_law 803 = .ok (.invokevirtual 94, 3) := by decide +kernel
theorem dL_law_806 : decode cL_law 806 = .ok (.aload_n 2, 1) := by decide +kernel
theorem dL_law_807 : decode cL_law 807 = .ok (.aload_n 0, 1) := by decide +kernel
theorem dL_law_808 : decode cL_law 808 = .ok (.iload_n 3, 1) := by decide +kernel
theorem dL_law_809 : decode cL_law 809 = .ok (.iconst 1, 1) := by decide +kernel
theorem dL_law_810 : decode cL_law 810 = .ok (.iadd, 1) := by decide +kernel
theorem dL_law_811 : decode cL_law 811 = .ok (.iaload, 1) := by decide +kernel
theorem dL_law_812 : decode cL_law 812 = .ok (.invokevirtual 97, 3) := by decide +kernel
theorem dL_law_815 : decode cL_law 815 = .ok (.if_icmp .eq 416, 3) := by decide +kernel
theorem dL_law_818 : decode cL_law 818 = .ok (.iconst 0, 1) := by decide +kernel
theorem dL_law_819 : decode cL_law 819 = .ok (.ireturn, 1) := by decide +kernel
theorem dL_law_820 : decode cL_law 820 = .ok (.aload_n 1, 1) := by decide +kernel
theorem dL_law_821 : decode cL_law 821 = .ok (.aload_n 0, 1) := by decide +kernel
theorem dL_law_822 : decode cL_law 822 = .ok (.iload_n 3, 1) := by decide +kernel
theorem dL_law_823 : decode cL_law 823 = .ok (.iconst 1, 1) := by decide +kernel
theorem dL_law_824 : decode cL_law 824 = .ok (.iadd, 1) := by decide +kernel
theorem dL_law_825 : decode cL_law 825 = .ok (.iaload, 1) := by decide +kernel
theorem dL_law_826 : decode cL_law 826 = .ok (.invokevirtual 98, 3) := by decide +kernel
theorem dL_law_829 : decode cL_law 829 = .ok (.aload_n 2, 1) := by decide +kernel
theorem dL_law_830 : decode cL_law 830 = .ok (.aload_n 0, 1) := by decide +kernel
theorem dL_law_831 : decode cL_law 831 = .ok (.iload_n 3, 1) := by decide +kernel
theorem dL_law_832 : decode cL_law 832 = .ok (.iconst 1, 1) := by decide +kernel
theorem dL_law_833 : decode cL_law 833 = .ok (.iadd, 1) := by decide +kernel
theorem dL_law_834 : decode cL_law 834 = .ok (.iaload, 1) := by decide +kernel
theorem dL_law_835 : decode cL_law 835 = .ok (.invokevirtual 101, 3) := by decide +kernel
theorem dL_law_838 : decode cL_law 838 = .ok (.if_icmp .eq 393, 3) := by decide +kernel
theorem dL_law_841 : decode cL_law 841 = .ok (.iconst 0, 1) := by decide +kernel
theorem dL_law_842 : decode cL_law 842 = .ok (.ireturn, 1) := by decide +kernel
theorem dL_law_843 : decode cL_law 843 = .ok (.aload_n 1, 1) := by decide +kernel
theorem dL_law_844 : decode cL_law 844 = .ok (.aload_n 0, 1) := by decide +kernel
theorem dL_law_845 : decode cL_law 845 = .ok (.iload_n 3, 1) := by decide +kernel
theorem dL_law_846 : decode cL_law 846 = .ok (.iconst 1, 1) := by decide +kernel
theorem dL_law_847 : decode cL_law 847 = .ok (.iadd, 1) := by decide +kernel
theorem dL_law_848 : decode cL_law 848 = .ok (.iaload, 1) := by decide +kernel
theorem dL_law_849 : decode cL_law 849 = .ok (.aload_n 0, 1) := by decide +kernel
theorem dL_law_850 : decode cL_law 850 = .ok (.iload_n 3, 1) := by decide +kernel
theorem dL_law_851 : decode cL_law 851 = .ok (.iconst 2, 1) := by decide +kernel
theorem dL_law_852 : decode cL_law 852 = .ok (.iadd, 1) := by decide +kernel
theorem dL_law_853 : decode cL_law 853 = .ok (.iaload, 1) := by decide +kernel
theorem dL_law_854 : decode cL_law 854 = .ok (.aload_n 0, 1) := by decide +kernel
theorem dL_law_855 : decode cL_law 855 = .ok (.iload_n 3, 1) := by decide +kernel
theorem dL_law_856 : decode cL_law 856 = .ok (.iconst 3, 1) := by decide +kernel
theorem dL_law_857 : decode cL_law 857 = .ok (.iadd, 1) := by decide +kernel
theorem dL_law_858 : decode cL_law 858 = .ok (.iaload, 1) := by decide +kernel
theorem dL_law_859 : decode cL_law 859 = .ok (.invokevirtual 102, 3) := by decide +kernel
theorem dL_law_862 : decode cL_law 862 = .ok (.aload_n 2, 1) := by decide +kernel
theorem dL_law_863 : decode cL_law 863 = .ok (.aload_n 0, 1) := by decide +kernel
theorem dL_law_864 : decode cL_law 864 = .ok (.iload_n 3, 1) := by decide +kernel
theorem dL_law_865 : decode cL_law 865 = .ok (.iconst 1, 1) := by decide +kernel
theorem dL_law_866 : decode cL_law 866 = .ok (.iadd, 1) := by decide +kernel
theorem dL_law_867 : decode cL_law 867 = .ok (.iaload, 1) := by decide +kernel
theorem dL_law_868 : decode cL_law 868 = .ok (.aload_n 0, 1) := by decide +kernel
theorem dL_law_869 : decode cL_law 869 = .ok (.iload_n 3, 1) := by decide +kernel
theorem dL_law_870 : decode cL_law 870 = .ok (.iconst 2, 1) := by decide +kernel
theorem dL_law_871 : decode cL_law 871 = .ok (.iadd, 1) := by decide +kernel
theorem dL_law_872 : decode cL_law 872 = .ok (.iaload, 1) := by decide +kernel
theorem dL_law_873 : decode cL_law 873 = .ok (.aload_n 0, 1) := by decide +kernel
theorem dL_law_874 : decode cL_law 874 = .ok (.iload_n 3, 1) := by decide +kernel
theorem dL_law_875 : decode cL_law 875 = .ok (.iconst 3, 1) := by decide +kernel
theorem dL_law_876 : decode cL_law 876 = .ok (.iadd, 1) := by decide +kernel
theorem dL_law_877 : decode cL_law 877 = .ok (.iaload, 1) := by decide +kernel
theorem dL_law_878 : decode cL_law 878 = .ok (.invokevirtual 106, 3) := by decide +kernel
theorem dL_law_881 : decode cL_law 881 = .ok (.lcmp, 1) := by decide +kernel
theorem dL_law_882 : decode cL_law 882 = .ok (.ifCond .eq 349, 3) := by decide +kernel
theorem dL_law_885 : decode cL_law 885 = .ok (.iconst 0, 1) := by decide +kernel
theorem dL_law_886 : decode cL_law 886 = .ok (.ireturn, 1) := by decide +kernel
theorem dL_law_887 : decode cL_law 887 = .ok (.aload_n 1, 1) := by decide +kernel
theorem dL_law_888 : decode cL_law 888 = .ok (.aload_n 0, 1) := by decide +kernel
theorem dL_law_889 : decode cL_law 889 = .ok (.iload_n 3, 1) := by decide +kernel
theorem dL_law_890 : decode cL_law 890 = .ok (.iconst 1, 1) := by decide +kernel
theorem dL_law_891 : decode cL_law 891 = .ok (.iadd, 1) := by decide +kernel
theorem dL_law_892 : decode cL_law 892 = .ok (.iaload, 1) := by decide +kernel
theorem dL_law_893 : decode cL_law 893 = .ok (.aload_n 0, 1) := by decide +kernel
theorem dL_law_894 : decode cL_law 894 = .ok (.iload_n 3, 1) := by decide +kernel
theorem dL_law_895 : decode cL_law 895 = .ok (.iconst 2, 1) := by decide +kernel
theorem dL_law_896 : decode cL_law 896 = .ok (.iadd, 1) := by decide +kernel
theorem dL_law_897 : decode cL_law 897 = .ok (.iaload, 1) := by decide +kernel
theorem dL_law_898 : decode cL_law 898 = .ok (.aload_n 0, 1) := by decide +kernel
theorem dL_law_899 : decode cL_law 899 = .ok (.iload_n 3, 1) := by decide +kernel
theorem dL_law_900 : decode cL_law 900 = .ok (.iconst 3, 1) := by decide +kernel
theorem dL_law_901 : decode cL_law 901 = .ok (.iadd, 1) := by decide +kernel
theorem dL_law_902 : decode cL_law 902 = .ok (.iaload, 1) := by decide +kernel
theorem dL_law_903 : decode cL_law 903 = .ok (.invokevirtual 107, 3) := by decide +kernel
theorem dL_law_906 : decode cL_law 906 = .ok (.aload_n 2, 1) := by decide +kernel
theorem dL_law_907 : decode cL_law 907 = .ok (.aload_n 0, 1) := by decide +kernel
theorem dL_law_908 : decode cL_law 908 = .ok (.iload_n 3, 1) := by decide +kernel
theorem dL_law_909 : decode cL_law 909 = .ok (.iconst 1, 1) := by decide +kernel
theorem dL_law_910 : decode cL_law 910 = .ok (.iadd, 1) := by decide +kernel
theorem dL_law_911 : decode cL_law 911 = .ok (.iaload, 1) := by decide +kernel
theorem dL_law_912 : decode cL_law 912 = .ok (.aload_n 0, 1) := by decide +kernel
theorem dL_law_913 : decode cL_law 913 = .ok (.iload_n 3, 1) := by decide +kernel
theorem dL_law_914 : decode cL_law 914 = .ok (.iconst 2, 1) := by decide +kernel
theorem dL_law_915 : decode cL_law 915 = .ok (.iadd, 1) := by decide +kernel
theorem dL_law_916 : decode cL_law 916 = .ok (.iaload, 1) := by decide +kernel
theorem dL_law_917 : decode cL_law 917 = .ok (.aload_n 0, 1) := by decide +kernel
theorem dL_law_918 : decode cL_law 918 = .ok (.iload_n 3, 1) := by decide +kernel
theorem dL_law_919 : decode cL_law 919 = .ok (.iconst 3, 1) := by decide +kernel
theorem dL_law_920 : decode cL_law 920 = .ok (.iadd, 1) := by decide +kernel
theorem dL_law_921 : decode cL_law 921 = .ok (.iaload, 1) := by decide +kernel
theorem dL_law_922 : decode cL_law 922 = .ok (.invokevirtual 110, 3) := by decide +kernel
theorem dL_law_925 : decode cL_law 925 = .ok (.if_icmp .eq 306, 3) := by decide +kernel
theorem dL_law_928 : decode cL_law 928 = .ok (.iconst 0, 1) := by decide +kernel
theorem dL_law_929 : decode cL_law 929 = .ok (.ireturn, 1) := by decide +kernel
theorem dL_law_930 : decode cL_law 930 = .ok (.aload_n 1, 1) := by decide +kernel
theorem dL_law_931 : decode cL_law 931 = .ok (.aload_n 0, 1) := by decide +kernel
theorem dL_law_932 : decode cL_law 932 = .ok (.iload_n 3, 1) := by decide +kernel
theorem dL_law_933 : decode cL_law 933 = .ok (.iconst 1, 1) := by decide +kernel
theorem dL_law_934 : decode cL_law 934 = .ok (.iadd, 1) := by decide +kernel
theorem dL_law_935 : decode cL_law 935 = .ok (.iaload, 1) := by decide +kernel
theorem dL_law_936 : decode cL_law 936 = .ok (.invokevirtual 111, 3) := by decide +kernel
theorem dL_law_939 : decode cL_law 939 = .ok (.aload_n 2, 1) := by decide +kernel
theorem dL_law_940 : decode cL_law 940 = .ok (.aload_n 0, 1) := by decide +kernel
theorem dL_law_941 : decode cL_law 941 = .ok (.iload_n 3, 1) := by decide +kernel
theorem dL_law_942 : decode cL_law 942 = .ok (.iconst 1, 1) := by decide +kernel
theorem dL_law_943 : decode cL_law 943 = .ok (.iadd, 1) := by decide +kernel
theorem dL_law_944 : decode cL_law 944 = .ok (.iaload, 1) := by decide +kernel
theorem dL_law_945 : decode cL_law 945 = .ok (.invokevirtual 114, 3) := by decide +kernel
theorem dL_law_948 : decode cL_law 948 = .ok (.if_icmp .eq 283, 3) := by decide +kernel
theorem dL_law_951 : decode cL_law 951 = .ok (.iconst 0, 1) := by decide +kernel
theorem dL_law_952 : decode cL_law 952 = .ok (.ireturn, 1) := by decide +kernel
theorem dL_law_953 : decode cL_law 953 = .ok (.aload_n 1, 1) := by decide +kernel
theorem dL_law_954 : decode cL_law 954 = .ok (.aload_n 0, 1) := by decide +kernel
theorem dL_law_955 : decode cL_law 955 = .ok (.iload_n 3, 1) := by decide +kernel
theorem dL_law_956 : decode cL_law 956 = .ok (.iconst 1, 1) := by decide +kernel
theorem dL_law_957 : decode cL_law 957 = .ok (.iadd, 1) := by decide +kernel
theorem dL_law_958 : decode cL_law 958 = .ok (.iaload, 1) := by decide +kernel
theorem dL_law_959 : decode cL_law 959 = .ok (.aload_n 0, 1) := by decide +kernel
theorem dL_law_960 : decode cL_law 960 = .ok (.iload_n 3, 1) := by decide +kernel
theorem dL_law_961 : decode cL_law 961 = .ok (.iconst 2, 1) := by decide +kernel
theorem dL_law_962 : decode cL_law 962 = .ok (.iadd, 1) := by decide +kernel
theorem dL_law_963 : decode cL_law 963 = .ok (.iaload, 1) := by decide +kernel
theorem dL_law_964 : decode cL_law 964 = .ok (.aload_n 0, 1) := by decide +kernel
theorem dL_law_965 : decode cL_law 965 = .ok (.iload_n 3, 1) := by decide +kernel
theorem dL_law_966 : decode cL_law 966 = .ok (.iconst 3, 1) := by decide +kernel
theorem dL_law_967 : decode cL_law 967 = .ok (.iadd, 1) := by decide +kernel
theorem dL_law_968 : decode cL_law 968 = .ok (.iaload, 1) := by decide +kernel
theorem dL_law_969 : decode cL_law 969 = .ok (.invokevirtual 115, 3) := by decide +kernel
theorem dL_law_972 : decode cL_law 972 = .ok (.aload_n 2, 1) := by decide +kernel
theorem dL_law_973 : decode cL_law 973 = .ok (.aload_n 0, 1) := by decide +kernel
theorem dL_law_974 : decode cL_law 974 = .ok (.iload_n 3, 1) := by decide +kernel
theorem dL_law_975 : decode cL_law 975 = .ok (.iconst 1, 1) := by decide +kernel
theorem dL_law_976 : decode cL_law 976 = .ok (.iadd, 1) := by decide +kernel
theorem dL_law_977 : decode cL_law 977 = .ok (.iaload, 1) := by decide +kernel
theorem dL_law_978 : decode cL_law 978 = .ok (.aload_n 0, 1) := by decide +kernel
theorem dL_law_979 : decode cL_law 979 = .ok (.iload_n 3, 1) := by decide +kernel
theorem dL_law_980 : decode cL_law 980 = .ok (.iconst 2, 1) := by decide +kernel
theorem dL_law_981 : decode cL_law 981 = .ok (.iadd, 1) := by decide +kernel
theorem dL_law_982 : decode cL_law 982 = .ok (.iaload, 1) := by decide +kernel
theorem dL_law_983 : decode cL_law 983 = .ok (.aload_n 0, 1) := by decide +kernel
theorem dL_law_984 : decode cL_law 984 = .ok (.iload_n 3, 1) := by decide +kernel
theorem dL_law_985 : decode cL_law 985 = .ok (.iconst 3, 1) := by decide +kernel
theorem dL_law_986 : decode cL_law 986 = .ok (.iadd, 1) := by decide +kernel
theorem dL_law_987 : decode cL_law 987 = .ok (.iaload, 1) := by decide +kernel
theorem dL_law_988 : decode cL_law 988 = .ok (.invokevirtual 118, 3) := by decide +kernel
theorem dL_law_991 : decode cL_law 991 = .ok (.if_icmp .eq 240, 3) := by decide +kernel
theorem dL_law_994 : decode cL_law 994 = .ok (.iconst 0, 1) := by decide +kernel
theorem dL_law_995 : decode cL_law 995 = .ok (.ireturn, 1) := by decide +kernel
theorem dL_law_996 : decode cL_law 996 = .ok (.aload_n 1, 1) := by decide +kernel
theorem dL_law_997 : decode cL_law 997 = .ok (.aload_n 0, 1) := by decide +kernel
theorem dL_law_998 : decode cL_law 998 = .ok (.iload_n 3, 1) := by decide +kernel
theorem dL_law_999 : decode cL_law 999 = .ok (.iconst 1, 1) := by decide +kernel
theorem dL_law_1000 : decode cL_law 1000 = .ok (.iadd, 1) := by decide +kernel
theorem dL_law_1001 : decode cL_law 1001 = .ok (.iaload, 1) := by decide +kernel
theorem dL_law_1002 : decode cL_law 1002 = .ok (.aload_n 0, 1) := by decide +kernel
theorem dL_law_1003 : decode cL_law 1003 = .ok (.iload_n 3, 1) := by decide +kernel
theorem dL_law_1004 : decode cL_law 1004 = .ok (.iconst 2, 1) := by decide +kernel
theorem dL_law_1005 : decode cL_law 1005 = .ok (.iadd, 1) := by decide +kernel
theorem dL_law_1006 : decode cL_law 1006 = .ok (.iaload, 1) := by decide +kernel
theorem dL_law_1007 : decode cL_law 1007 = .ok (.aload_n 0, 1) := by decide +kernel
theorem dL_law_1008 : decode cL_law 1008 = .ok (.iload_n 3, 1) := by decide +kernel
theorem dL_law_1009 : decode cL_law 1009 = .ok (.iconst 3, 1) := by decide +kernel
theorem dL_law_1010 : decode cL_law 1010 = .ok (.iadd, 1) := by decide +kernel
theorem dL_law_1011 : decode cL_law 1011 = .ok (.iaload, 1) := by decide +kernel
theorem dL_law_1012 : decode cL_law 1012 = .ok (.invokevirtual 119, 3) := by decide +kernel
theorem dL_law_1015 : decode cL_law 1015 = .ok (.aload_n 2, 1) := by decide +kernel
theorem dL_law_1016 : decode cL_law 1016 = .ok (.aload_n 0, 1) := by decide +kernel
theorem dL_law_1017 : decode cL_law 1017 = .ok (.iload_n 3, 1) := by decide +kernel
theorem dL_law_1018 : decode cL_law 1018 = .ok (.iconst 1, 1) := by decide +kernel
theorem dL_law_1019 : decode cL_law 1019 = .ok (.iadd, 1) := by decide +kernel
theorem dL_law_1020 : decode cL_law 1020 = .ok (.iaload, 1) := by decide +kernel
theorem dL_law_1021 : decode cL_law 1021 = .ok (.aload_n 0, 1) := by decide +kernel
theorem dL_law_1022 : decode cL_law 1022 = .ok (.iload_n 3, 1) := by decide +kernel
theorem dL_law_1023 : decode cL_law 1023 = .ok (.iconst 2, 1) := by decide +kernel
theorem dL_law_1024 : decode cL_law 1024 = .ok (.iadd, 1) := by decide +kernel
theorem dL_law_1025 : decode cL_law 1025 = .ok (.iaload, 1) := by decide +kernel
theorem dL_law_1026 : decode cL_law 1026 = .ok (.aload_n 0, 1) := by decide +kernel
theorem dL_law_1027 : decode cL_law 1027 = .ok (.iload_n 3, 1) := by decide +kernel
theorem dL_law_1028 : decode cL_law 1028 = .ok (.iconst 3, 1) := by decide +kernel
theorem dL_law_1029 : decode cL_law 1029 = .ok (.iadd, 1) := by decide +kernel
theorem dL_law_1030 : decode cL_law 1030 = .ok (.iaload, 1) := by decide +kernel
theorem dL_law_1031 : decode cL_law 1031 = .ok (.invokevirtual 122, 3) := by decide +kernel
theorem dL_law_1034 : decode cL_law 1034 = .ok (.lcmp, 1) := by decide +kernel
theorem dL_law_1035 : decode cL_law 1035 = .ok (.ifCond .eq 196, 3) := by decide +kernel
theorem dL_law_1038 : decode cL_law 1038 = .ok (.iconst 0, 1) := by decide +kernel
theorem dL_law_1039 : decode cL_law 1039 = .ok (.ireturn, 1) := by decide +kernel
theorem dL_law_1040 : decode cL_law 1040 = .ok (.aload_n 1, 1) := by decide +kernel
theorem dL_law_1041 : decode cL_law 1041 = .ok (.aload_n 0, 1) := by decide +kernel
theorem dL_law_1042 : decode cL_law 1042 = .ok (.iload_n 3, 1) := by decide +kernel
theorem dL_law_1043 : decode cL_law 1043 = .ok (.iconst 1, 1) := by decide +kernel
theorem dL_law_1044 : decode cL_law 1044 = .ok (.iadd, 1) := by decide +kernel
theorem dL_law_1045 : decode cL_law 1045 = .ok (.iaload, 1) := by decide +kernel
theorem dL_law_1046 : decode cL_law 1046 = .ok (.aload_n 0, 1) := by decide +kernel
theorem dL_law_1047 : decode cL_law 1047 = .ok (.iload_n 3, 1) := by decide +kernel
theorem dL_law_1048 : decode cL_law 1048 = .ok (.iconst 2, 1) := by decide +kernel
theorem dL_law_1049 : decode cL_law 1049 = .ok (.iadd, 1) := by decide +kernel
theorem dL_law_1050 : decode cL_law 1050 = .ok (.iaload, 1) := by decide +kernel
theorem dL_law_1051 : decode cL_law 1051 = .ok (.aload_n 0, 1) := by decide +kernel
theorem dL_law_1052 : decode cL_law 1052 = .ok (.iload_n 3, 1) := by decide +kernel
theorem dL_law_1053 : decode cL_law 1053 = .ok (.iconst 3, 1) := by decide +kernel
theorem dL_law_1054 : decode cL_law 1054 = .ok (.iadd, 1) := by decide +kernel
theorem dL_law_1055 : decode cL_law 1055 = .ok (.iaload, 1) := by decide +kernel
theorem dL_law_1056 : decode cL_law 1056 = .ok (.aload_n 0, 1) := by decide +kernel
theorem dL_law_1057 : decode cL_law 1057 = .ok (.iload_n 3, 1) := by decide +kernel
theorem dL_law_1058 : decode cL_law 1058 = .ok (.iconst 4, 1) := by decide +kernel
theorem dL_law_1059 : decode cL_law 1059 = .ok (.iadd, 1) := by decide +kernel
theorem dL_law_1060 : decode cL_law 1060 = .ok (.iaload, 1) := by decide +kernel
theorem dL_law_1061 : decode cL_law 1061 = .ok (.aload_n 0, 1) := by decide +kernel
theorem dL_law_1062 : decode cL_law 1062 = .ok (.iload_n 3, 1) := by decide +kernel
theorem dL_law_1063 : decode cL_law 1063 = .ok (.iconst 5, 1) := by decide +kernel
theorem dL_law_1064 : decode cL_law 1064 = .ok (.iadd, 1) := by decide +kernel
theorem dL_law_1065 : decode cL_law 1065 = .ok (.iaload, 1) := by decide +kernel
theorem dL_law_1066 : decode cL_law 1066 = .ok (.invokevirtual 123, 3) := by decide +kernel
theorem dL_law_1069 : decode cL_law 1069 = .ok (.aload_n 2, 1) := by decide +kernel
theorem dL_law_1070 : decode cL_law 1070 = .ok (.aload_n 0, 1) := by decide +kernel
theorem dL_law_1071 : decode cL_law 1071 = .ok (.iload_n 3, 1) := by decide +kernel
theorem dL_law_1072 : decode cL_law 1072 = .ok (.iconst 1, 1) := by decide +kernel
theorem dL_law_1073 : decode cL_law 1073 = .ok (.iadd, 1) := by decide +kernel
theorem dL_law_1074 : decode cL_law 1074 = .ok (.iaload, 1) := by decide +kernel
theorem dL_law_1075 : decode cL_law 1075 = .ok (.aload_n 0, 1) := by decide +kernel
theorem dL_law_1076 : decode cL_law 1076 = .ok (.iload_n 3, 1) := by decide +kernel
theorem dL_law_1077 : decode cL_law 1077 = .ok (.iconst 2, 1) := by decide +kernel
theorem dL_law_1078 : decode cL_law 1078 = .ok (.iadd, 1) := by decide +kernel
theorem dL_law_1079 : decode cL_law 1079 = .ok (.iaload, 1) := by decide +kernel
theorem dL_law_1080 : decode cL_law 1080 = .ok (.aload_n 0, 1) := by decide +kernel
theorem dL_law_1081 : decode cL_law 1081 = .ok (.iload_n 3, 1) := by decide +kernel
theorem dL_law_1082 : decode cL_law 1082 = .ok (.iconst 3, 1) := by decide +kernel
theorem dL_law_1083 : decode cL_law 1083 = .ok (.iadd, 1) := by decide +kernel
theorem dL_law_1084 : decode cL_law 1084 = .ok (.iaload, 1) := by decide +kernel
theorem dL_law_1085 : decode cL_law 1085 = .ok (.aload_n 0, 1) := by decide +kernel
theorem dL_law_1086 : decode cL_law 1086 = .ok (.iload_n 3, 1) := by decide +kernel
theorem dL_law_1087 : decode cL_law 1087 = .ok (.iconst 4, 1) := by decide +kernel
theorem dL_law_1088 : decode cL_law 1088 = .ok (.iadd, 1) := by decide +kernel
theorem dL_law_1089 : decode cL_law 1089 = .ok (.iaload, 1) := by decide +kernel
theorem dL_law_1090 : decode cL_law 1090 = .ok (.aload_n 0, 1) := by decide +kernel
theorem dL_law_1091 : decode cL_law 1091 = .ok (.iload_n 3, 1) := by decide +kernel
theorem dL_law_1092 : decode cL_law 1092 = .ok (.iconst 5, 1) := by decide +kernel
theorem dL_law_1093 : decode cL_law 1093 = .ok (.iadd, 1) := by decide +kernel
theorem dL_law_1094 : decode cL_law 1094 = .ok (.iaload, 1) := by decide +kernel
theorem dL_law_1095 : decode cL_law 1095 = .ok (.invokevirtual 126, 3) := by decide +kernel
theorem dL_law_1098 : decode cL_law 1098 = .ok (.if_icmp .eq 133, 3) := by decide +kernel
theorem dL_law_1101 : decode cL_law 1101 = .ok (.iconst 0, 1) := by decide +kernel
theorem dL_law_1102 : decode cL_law 1102 = .ok (.ireturn, 1) := by decide +kernel
theorem dL_law_1103 : decode cL_law 1103 = .ok (.aload_n 1, 1) := by decide +kernel
theorem dL_law_1104 : decode cL_law 1104 = .ok (.aload_n 0, 1) := by decide +kernel
theorem dL_law_1105 : decode cL_law 1105 = .ok (.iload_n 3, 1) := by decide +kernel
theorem dL_law_1106 : decode cL_law 1106 = .ok (.iconst 1, 1) := by decide +kernel
theorem dL_law_1107 : decode cL_law 1107 = .ok (.iadd, 1) := by decide +kernel
theorem dL_law_1108 : decode cL_law 1108 = .ok (.iaload, 1) := by decide +kernel
theorem dL_law_1109 : decode cL_law 1109 = .ok (.invokevirtual 127, 3) := by decide +kernel
theorem dL_law_1112 : decode cL_law 1112 = .ok (.aload_n 2, 1) := by decide +kernel
theorem dL_law_1113 : decode cL_law 1113 = .ok (.aload_n 0, 1) := by decide +kernel
theorem dL_law_1114 : decode cL_law 1114 = .ok (.iload_n 3, 1) := by decide +kernel
theorem dL_law_1115 : decode cL_law 1115 = .ok (.iconst 1, 1) := by decide +kernel
theorem dL_law_1116 : decode cL_law 1116 = .ok (.iadd, 1) := by decide +kernel
theorem dL_law_1117 : decode cL_law 1117 = .ok (.iaload, 1) := by decide +kernel
theorem dL_law_1118 : decode cL_law 1118 = .ok (.invokevirtual 130, 3) := by decide +kernel
theorem dL_law_1121 : decode cL_law 1121 = .ok (.if_icmp .eq 110, 3) := by decide +kernel
theorem dL_law_1124 : decode cL_law 1124 = .ok (.iconst 0, 1) := by decide +kernel
theorem dL_law_1125 : decode cL_law 1125 = .ok (.ireturn, 1) := by decide +kernel
theorem dL_law_1126 : decode cL_law 1126 = .ok (.aload_n 1, 1) := by decide +kernel
theorem dL_law_1127 : decode cL_law 1127 = .ok (.aload_n 0, 1) := by decide +kernel
theorem dL_law_1128 : decode cL_law 1128 = .ok (.iload_n 3, 1) := by decide +kernel
theorem dL_law_1129 : decode cL_law 1129 = .ok (.iconst 1, 1) := by decide +kernel
theorem dL_law_1130 : decode cL_law 1130 = .ok (.iadd, 1) := by decide +kernel
theorem dL_law_1131 : decode cL_law 1131 = .ok (.iaload, 1) := by decide +kernel
theorem dL_law_1132 : decode cL_law 1132 = .ok (.invokevirtual 131, 3) := by decide +kernel
theorem dL_law_1135 : decode cL_law 1135 = .ok (.aload_n 2, 1) := by decide +kernel
theorem dL_law_1136 : decode cL_law 1136 = .ok (.aload_n 0, 1) := by decide +kernel
theorem dL_law_1137 : decode cL_law 1137 = .ok (.iload_n 3, 1) := by decide +kernel
theorem dL_law_1138 : decode cL_law 1138 = .ok (.iconst 1, 1) := by decide +kernel
theorem dL_law_1139 : decode cL_law 1139 = .ok (.iadd, 1) := by decide +kernel
theorem dL_law_1140 : decode cL_law 1140 = .ok (.iaload, 1) := by decide +kernel
theorem dL_law_1141 : decode cL_law 1141 = .ok (.invokevirtual 134, 3) := by decide +kernel
theorem dL_law_1144 : decode cL_law 1144 = .ok (.if_icmp .eq 87, 3) := by decide +kernel
theorem dL_law_1147 : decode cL_law 1147 = .ok (.iconst 0, 1) := by decide +kernel
theorem dL_law_1148 : decode cL_law 1148 = .ok (.ireturn, 1) := by decide +kernel
theorem dL_law_1149 : decode cL_law 1149 = .ok (.aload_n 1, 1) := by decide +kernel
theorem dL_law_1150 : decode cL_law 1150 = .ok (.aload_n 0, 1) := by decide +kernel
theorem dL_law_1151 : decode cL_law 1151 = .ok (.iload_n 3, 1) := by decide +kernel
theorem dL_law_1152 : decode cL_law 1152 = .ok (.iconst 1, 1) := by decide +kernel
theorem dL_law_1153 : decode cL_law 1153 = .ok (.iadd, 1) := by decide +kernel
theorem dL_law_1154 : decode cL_law 1154 = .ok (.iaload, 1) := by decide +kernel
theorem dL_law_1155 : decode cL_law 1155 = .ok (.aload_n 0, 1) := by decide +kernel
theorem dL_law_1156 : decode cL_law 1156 = .ok (.iload_n 3, 1) := by decide +kernel
theorem dL_law_1157 : decode cL_law 1157 = .ok (.iconst 2, 1) := by decide +kernel
theorem dL_law_1158 : decode cL_law 1158 = .ok (.iadd, 1) := by decide +kernel
theorem dL_law_1159 : decode cL_law 1159 = .ok (.iaload, 1) := by decide +kernel
theorem dL_law_1160 : decode cL_law 1160 = .ok (.invokevirtual 135, 3) := by decide +kernel
theorem dL_law_1163 : decode cL_law 1163 = .ok (.aload_n 2, 1) := by decide +kernel
theorem dL_law_1164 : decode cL_law 1164 = .ok (.aload_n 0, 1) := by decide +kernel
theorem dL_law_1165 : decode cL_law 1165 = .ok (.iload_n 3, 1) := by decide +kernel
theorem dL_law_1166 : decode cL_law 1166 = .ok (.iconst 1, 1) := by decide +kernel
theorem dL_law_1167 : decode cL_law 1167 = .ok (.iadd, 1) := by decide +kernel
theorem dL_law_1168 : decode cL_law 1168 = .ok (.iaload, 1) := by decide +kernel
theorem dL_law_1169 : decode cL_law 1169 = .ok (.aload_n 0, 1) := by decide +kernel
theorem dL_law_1170 : decode cL_law 1170 = .ok (.iload_n 3, 1) := by decide +kernel
theorem dL_law_1171 : decode cL_law 1171 = .ok (.iconst 2, 1) := by decide +kernel
theorem dL_law_1172 : decode cL_law 1172 = .ok (.iadd, 1) := by decide +kernel
theorem dL_law_1173 : decode cL_law 1173 = .ok (.iaload, 1) := by decide +kernel
theorem dL_law_1174 : decode cL_law 1174 = .ok (.invokevirtual 138, 3) := by decide +kernel
theorem dL_law_1177 : decode cL_law 1177 = .ok (.if_icmp .eq 54, 3) := by decide +kernel
theorem dL_law_1180 : decode cL_law 1180 = .ok (.iconst 0, 1) := by decide +kernel
theorem dL_law_1181 : decode cL_law 1181 = .ok (.ireturn, 1) := by decide +kernel
theorem dL_law_1182 : decode cL_law 1182 = .ok (.aload_n 1, 1) := by decide +kernel
theorem dL_law_1183 : decode cL_law 1183 = .ok (.invokevirtual 139, 3) := by decide +kernel
theorem dL_law_1186 : decode cL_law 1186 = .ok (.aload_n 2, 1) := by decide +kernel
theorem dL_law_1187 : decode cL_law 1187 = .ok (.invokevirtual 143, 3) := by decide +kernel
theorem dL_law_1190 : decode cL_law 1190 = .ok (.if_icmp .eq 41, 3) := by decide +kernel
theorem dL_law_1193 : decode cL_law 1193 = .ok (.iconst 0, 1) := by decide +kernel
theorem dL_law_1194 : decode cL_law 1194 = .ok (.ireturn, 1) := by decide +kernel
theorem dL_law_1195 : decode cL_law 1195 = .ok (.aload_n 1, 1) := by decide +kernel
theorem dL_law_1196 : decode cL_law 1196 = .ok (.invokevirtual 144, 3) := by decide +kernel
theorem dL_law_1199 : decode cL_law 1199 = .ok (.aload_n 2, 1) := by decide +kernel
theorem dL_law_1200 : decode cL_law 1200 = .ok (.invokevirtual 147, 3) := by decide +kernel
theorem dL_law_1203 : decode cL_law 1203 = .ok (.if_icmp .eq 28, 3) := by decide +kernel
theorem dL_law_1206 : decode cL_law 1206 = .ok (.iconst 0, 1) := by decide +kernel
theorem dL_law_1207 : decode cL_law 1207 = .ok (.ireturn, 1) := by decide +kernel
theorem dL_law_1208 : decode cL_law 1208 = .ok (.aload_n 1, 1) := by decide +kernel
theorem dL_law_1209 : decode cL_law 1209 = .ok (.aload_n 0, 1) := by decide +kernel
theorem dL_law_1210 : decode cL_law 1210 = .ok (.iload_n 3, 1) := by decide +kernel
theorem dL_law_1211 : decode cL_law 1211 = .ok (.iconst 1, 1) := by decide +kernel
theorem dL_law_1212 : decode cL_law 1212 = .ok (.iadd, 1) := by decide +kernel
theorem dL_law_1213 : decode cL_law 1213 = .ok (.iaload, 1) := by decide +kernel
theorem dL_law_1214 : decode cL_law 1214 = .ok (.invokevirtual 148, 3) := by decide +kernel
theorem dL_law_1217 : decode cL_law 1217 = .ok (.aload_n 2, 1) := by decide +kernel
theorem dL_law_1218 : decode cL_law 1218 = .ok (.aload_n 0, 1) := by decide +kernel
theorem dL_law_1219 : decode cL_law 1219 = .ok (.iload_n 3, 1) := by decide +kernel
theorem dL_law_1220 : decode cL_law 1220 = .ok (.iconst 1, 1) := by decide +kernel
theorem dL_law_1221 : decode cL_law 1221 = .ok (.iadd, 1) := by decide +kernel
theorem dL_law_1222 : decode cL_law 1222 = .ok (.iaload, 1) := by decide +kernel
theorem dL_law_1223 : decode cL_law 1223 = .ok (.invokevirtual 151, 3) := by decide +kernel
theorem dL_law_1226 : decode cL_law 1226 = .ok (.if_icmp .eq 5, 3) := by decide +kernel
theorem dL_law_1229 : decode cL_law 1229 = .ok (.iconst 0, 1) := by decide +kernel
theorem dL_law_1230 : decode cL_law 1230 = .ok (.ireturn, 1) := by decide +kernel
theorem dL_law_1231 : decode cL_law 1231 = .ok (.iinc 3 6, 3) := by decide +kernel
theorem dL_law_1234 : decode cL_law 1234 = .ok (.goto (-1216), 3) := by decide +kernel
theorem dL_law_1237 : decode cL_law 1237 = .ok (.iconst 1, 1) := by decide +kernel
theorem dL_law_1238 : decode cL_law 1238 = .ok (.ireturn, 1) := by decide +kernel
end
