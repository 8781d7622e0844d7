section
-- ===== PART A: goes FIRST, ahead of the names: the tables' words, and 'selects' of the private methods out of them =====
/-- a private method of a class that the tables say can be made, by its rows of tables_1 -/
def lw_okq (q : MethodName × Nat) : Prop := (q.1.cls ≠ "java/lang/invoke/MethodHandle" ∧ q.1.cls ≠ "java/lang/invoke/VarHandle") ∧ Cond.instantiable q.1.cls q.2 ∈ tables_1 ∧ Cond.privateMethod q.1 ∈ tables_1 ∧ Cond.instanceMethod q.1 ∈ tables_1
theorem lw_p0 : lw_okq (⟨"CrumbWood", "refuse", "(I)I"⟩, 13) := ⟨⟨by decide +kernel, by decide +kernel⟩, List.mem_of_getElem? (i := 12) (by decide +kernel), List.mem_of_getElem? (i := 225) (by decide +kernel), List.mem_of_getElem? (i := 226) (by decide +kernel)⟩
theorem lw_p1 : lw_okq (⟨"CrumbWood$Reader", "skipBlanks", "()V"⟩, 5) := ⟨⟨by decide +kernel, by decide +kernel⟩, List.mem_of_getElem? (i := 84) (by decide +kernel), List.mem_of_getElem? (i := 297) (by decide +kernel), List.mem_of_getElem? (i := 298) (by decide +kernel)⟩
theorem lw_p2 : lw_okq (⟨"CrumbWood$Reader", "readItem", "(LCrumbWood$Wood;)Z"⟩, 5) := ⟨⟨by decide +kernel, by decide +kernel⟩, List.mem_of_getElem? (i := 84) (by decide +kernel), List.mem_of_getElem? (i := 301) (by decide +kernel), List.mem_of_getElem? (i := 302) (by decide +kernel)⟩
theorem lw_p3 : lw_okq (⟨"CrumbWood$Reader", "startsItem", "(LCrumbWood$Wood;IZ)Z"⟩, 5) := ⟨⟨by decide +kernel, by decide +kernel⟩, List.mem_of_getElem? (i := 84) (by decide +kernel), List.mem_of_getElem? (i := 305) (by decide +kernel), List.mem_of_getElem? (i := 306) (by decide +kernel)⟩
theorem lw_p4 : lw_okq (⟨"CrumbWood$Reader", "readPath", "(LCrumbWood$Wood;)Z"⟩, 5) := ⟨⟨by decide +kernel, by decide +kernel⟩, List.mem_of_getElem? (i := 84) (by decide +kernel), List.mem_of_getElem? (i := 309) (by decide +kernel), List.mem_of_getElem? (i := 310) (by decide +kernel)⟩
theorem lw_p5 : lw_okq (⟨"CrumbWood$Reader", "figureBelow", "(I)I"⟩, 5) := ⟨⟨by decide +kernel, by decide +kernel⟩, List.mem_of_getElem? (i := 84) (by decide +kernel), List.mem_of_getElem? (i := 313) (by decide +kernel), List.mem_of_getElem? (i := 314) (by decide +kernel)⟩
theorem lw_p6 : lw_okq (⟨"CrumbWood$Reader", "readBird", "(LCrumbWood$Wood;)Z"⟩, 5) := ⟨⟨by decide +kernel, by decide +kernel⟩, List.mem_of_getElem? (i := 84) (by decide +kernel), List.mem_of_getElem? (i := 326) (by decide +kernel), List.mem_of_getElem? (i := 327) (by decide +kernel)⟩
theorem lw_p7 : lw_okq (⟨"CrumbWood$Reader", "readPockets", "(LCrumbWood$Wood;)Z"⟩, 5) := ⟨⟨by decide +kernel, by decide +kernel⟩, List.mem_of_getElem? (i := 84) (by decide +kernel), List.mem_of_getElem? (i := 334) (by decide +kernel), List.mem_of_getElem? (i := 335) (by decide +kernel)⟩
theorem lw_p8 : lw_okq (⟨"CrumbWood$Sight", "follow", "(IIII)Z"⟩, 9) := ⟨⟨by decide +kernel, by decide +kernel⟩, List.mem_of_getElem? (i := 106) (by decide +kernel), List.mem_of_getElem? (i := 513) (by decide +kernel), List.mem_of_getElem? (i := 514) (by decide +kernel)⟩
theorem lw_p9 : lw_okq (⟨"CrumbWood$Walks", "leastOpen", "(I)I"⟩, 3) := ⟨⟨by decide +kernel, by decide +kernel⟩, List.mem_of_getElem? (i := 142) (by decide +kernel), List.mem_of_getElem? (i := 544) (by decide +kernel), List.mem_of_getElem? (i := 545) (by decide +kernel)⟩
theorem lw_p10 : lw_okq (⟨"CrumbWood$Walks", "lengthen", "(LCrumbWood$Wood;I)V"⟩, 3) := ⟨⟨by decide +kernel, by decide +kernel⟩, List.mem_of_getElem? (i := 142) (by decide +kernel), List.mem_of_getElem? (i := 548) (by decide +kernel), List.mem_of_getElem? (i := 549) (by decide +kernel)⟩
theorem lw_p11 : lw_okq (⟨"CrumbWood", "plan", "(IIZ)I"⟩, 13) := ⟨⟨by decide +kernel, by decide +kernel⟩, List.mem_of_getElem? (i := 12) (by decide +kernel), List.mem_of_getElem? (i := 557) (by decide +kernel), List.mem_of_getElem? (i := 558) (by decide +kernel)⟩
theorem lw_p12 : lw_okq (⟨"CrumbWood$Sight", "leadsHome", "(IIZ)Z"⟩, 9) := ⟨⟨by decide +kernel, by decide +kernel⟩, List.mem_of_getElem? (i := 106) (by decide +kernel), List.mem_of_getElem? (i := 567) (by decide +kernel), List.mem_of_getElem? (i := 568) (by decide +kernel)⟩
theorem lw_p13 : lw_okq (⟨"CrumbWood$Sight", "stonesWith", "(I)I"⟩, 9) := ⟨⟨by decide +kernel, by decide +kernel⟩, List.mem_of_getElem? (i := 106) (by decide +kernel), List.mem_of_getElem? (i := 571) (by decide +kernel), List.mem_of_getElem? (i := 572) (by decide +kernel)⟩
theorem lw_p14 : lw_okq (⟨"CrumbWood", "tellChances", "(II)V"⟩, 13) := ⟨⟨by decide +kernel, by decide +kernel⟩, List.mem_of_getElem? (i := 12) (by decide +kernel), List.mem_of_getElem? (i := 604) (by decide +kernel), List.mem_of_getElem? (i := 605) (by decide +kernel)⟩
theorem lw_p15 : lw_okq (⟨"CrumbWood", "keptNumber", "()I"⟩, 13) := ⟨⟨by decide +kernel, by decide +kernel⟩, List.mem_of_getElem? (i := 12) (by decide +kernel), List.mem_of_getElem? (i := 682) (by decide +kernel), List.mem_of_getElem? (i := 683) (by decide +kernel)⟩
def lw_privs_1 : List (MethodName × Nat) := [(⟨"CrumbWood", "refuse", "(I)I"⟩, 13), (⟨"CrumbWood$Reader", "skipBlanks", "()V"⟩, 5), (⟨"CrumbWood$Reader", "readItem", "(LCrumbWood$Wood;)Z"⟩, 5), (⟨"CrumbWood$Reader", "startsItem", "(LCrumbWood$Wood;IZ)Z"⟩, 5), (⟨"CrumbWood$Reader", "readPath", "(LCrumbWood$Wood;)Z"⟩, 5), (⟨"CrumbWood$Reader", "figureBelow", "(I)I"⟩, 5), (⟨"CrumbWood$Reader", "readBird", "(LCrumbWood$Wood;)Z"⟩, 5), (⟨"CrumbWood$Reader", "readPockets", "(LCrumbWood$Wood;)Z"⟩, 5), (⟨"CrumbWood$Sight", "follow", "(IIII)Z"⟩, 9), (⟨"CrumbWood$Walks", "leastOpen", "(I)I"⟩, 3), (⟨"CrumbWood$Walks", "lengthen", "(LCrumbWood$Wood;I)V"⟩, 3), (⟨"CrumbWood", "plan", "(IIZ)I"⟩, 13), (⟨"CrumbWood$Sight", "leadsHome", "(IIZ)Z"⟩, 9), (⟨"CrumbWood$Sight", "stonesWith", "(I)I"⟩, 9), (⟨"CrumbWood", "tellChances", "(II)V"⟩, 13), (⟨"CrumbWood", "keptNumber", "()I"⟩, 13)]
theorem lw_r1 : ∀ q ∈ lw_privs_1, lw_okq q := List.forall_mem_cons.mpr ⟨lw_p0, List.forall_mem_cons.mpr ⟨lw_p1, List.forall_mem_cons.mpr ⟨lw_p2, List.forall_mem_cons.mpr ⟨lw_p3, List.forall_mem_cons.mpr ⟨lw_p4, List.forall_mem_cons.mpr ⟨lw_p5, List.forall_mem_cons.mpr ⟨lw_p6, List.forall_mem_cons.mpr ⟨lw_p7, List.forall_mem_cons.mpr ⟨lw_p8, List.forall_mem_cons.mpr ⟨lw_p9, List.forall_mem_cons.mpr ⟨lw_p10, List.forall_mem_cons.mpr ⟨lw_p11, List.forall_mem_cons.mpr ⟨lw_p12, List.forall_mem_cons.mpr ⟨lw_p13, List.forall_mem_cons.mpr ⟨lw_p14, List.forall_mem_cons.mpr ⟨lw_p15, fun _ h => absurd h List.not_mem_nil⟩⟩⟩⟩⟩⟩⟩⟩⟩⟩⟩⟩⟩⟩⟩⟩
theorem lw_p16 : lw_okq (⟨"CrumbWoodModel", "meets", "(I)I"⟩, 41) := ⟨⟨by decide +kernel, by decide +kernel⟩, List.mem_of_getElem? (i := 713) (by decide +kernel), List.mem_of_getElem? (i := 875) (by decide +kernel), List.mem_of_getElem? (i := 876) (by decide +kernel)⟩
theorem lw_p17 : lw_okq (⟨"CrumbWoodModel", "rowAt", "(II)I"⟩, 41) := ⟨⟨by decide +kernel, by decide +kernel⟩, List.mem_of_getElem? (i := 713) (by decide +kernel), List.mem_of_getElem? (i := 883) (by decide +kernel), List.mem_of_getElem? (i := 884) (by decide +kernel)⟩
theorem lw_p18 : lw_okq (⟨"CrumbWoodModel", "tells", "(II)I"⟩, 41) := ⟨⟨by decide +kernel, by decide +kernel⟩, List.mem_of_getElem? (i := 713) (by decide +kernel), List.mem_of_getElem? (i := 887) (by decide +kernel), List.mem_of_getElem? (i := 888) (by decide +kernel)⟩
theorem lw_p19 : lw_okq (⟨"CrumbWoodModel", "faultOf", "(I)I"⟩, 41) := ⟨⟨by decide +kernel, by decide +kernel⟩, List.mem_of_getElem? (i := 713) (by decide +kernel), List.mem_of_getElem? (i := 922) (by decide +kernel), List.mem_of_getElem? (i := 923) (by decide +kernel)⟩
theorem lw_p20 : lw_okq (⟨"CrumbWoodModel", "byteAt", "(II)I"⟩, 41) := ⟨⟨by decide +kernel, by decide +kernel⟩, List.mem_of_getElem? (i := 713) (by decide +kernel), List.mem_of_getElem? (i := 926) (by decide +kernel), List.mem_of_getElem? (i := 927) (by decide +kernel)⟩
theorem lw_p21 : lw_okq (⟨"CrumbWoodModel", "readsPath", "(I)Z"⟩, 41) := ⟨⟨by decide +kernel, by decide +kernel⟩, List.mem_of_getElem? (i := 713) (by decide +kernel), List.mem_of_getElem? (i := 930) (by decide +kernel), List.mem_of_getElem? (i := 931) (by decide +kernel)⟩
theorem lw_p22 : lw_okq (⟨"CrumbWoodModel", "figure", "(II)Z"⟩, 41) := ⟨⟨by decide +kernel, by decide +kernel⟩, List.mem_of_getElem? (i := 713) (by decide +kernel), List.mem_of_getElem? (i := 934) (by decide +kernel), List.mem_of_getElem? (i := 935) (by decide +kernel)⟩
theorem lw_p23 : lw_okq (⟨"CrumbWoodModel", "readsBird", "(I)Z"⟩, 41) := ⟨⟨by decide +kernel, by decide +kernel⟩, List.mem_of_getElem? (i := 713) (by decide +kernel), List.mem_of_getElem? (i := 941) (by decide +kernel), List.mem_of_getElem? (i := 942) (by decide +kernel)⟩
theorem lw_p24 : lw_okq (⟨"CrumbWoodModel", "readsPockets", "(I)Z"⟩, 41) := ⟨⟨by decide +kernel, by decide +kernel⟩, List.mem_of_getElem? (i := 713) (by decide +kernel), List.mem_of_getElem? (i := 945) (by decide +kernel), List.mem_of_getElem? (i := 946) (by decide +kernel)⟩
theorem lw_p25 : lw_okq (⟨"CrumbWoodModel", "readsPlace", "(I)Z"⟩, 41) := ⟨⟨by decide +kernel, by decide +kernel⟩, List.mem_of_getElem? (i := 713) (by decide +kernel), List.mem_of_getElem? (i := 949) (by decide +kernel), List.mem_of_getElem? (i := 950) (by decide +kernel)⟩
theorem lw_p26 : lw_okq (⟨"CrumbWoodModel", "set", "(IIII)V"⟩, 41) := ⟨⟨by decide +kernel, by decide +kernel⟩, List.mem_of_getElem? (i := 713) (by decide +kernel), List.mem_of_getElem? (i := 960) (by decide +kernel), List.mem_of_getElem? (i := 961) (by decide +kernel)⟩
theorem lw_p27 : lw_okq (⟨"CrumbWoodModel", "isPlace", "(I)Z"⟩, 41) := ⟨⟨by decide +kernel, by decide +kernel⟩, List.mem_of_getElem? (i := 713) (by decide +kernel), List.mem_of_getElem? (i := 968) (by decide +kernel), List.mem_of_getElem? (i := 969) (by decide +kernel)⟩
theorem lw_p28 : lw_okq (⟨"CrumbWoodModel", "placeTells", "(II)I"⟩, 41) := ⟨⟨by decide +kernel, by decide +kernel⟩, List.mem_of_getElem? (i := 713) (by decide +kernel), List.mem_of_getElem? (i := 972) (by decide +kernel), List.mem_of_getElem? (i := 973) (by decide +kernel)⟩
theorem lw_p29 : lw_okq (⟨"CrumbWoodModel", "seen", "(II)I"⟩, 41) := ⟨⟨by decide +kernel, by decide +kernel⟩, List.mem_of_getElem? (i := 713) (by decide +kernel), List.mem_of_getElem? (i := 976) (by decide +kernel), List.mem_of_getElem? (i := 977) (by decide +kernel)⟩
theorem lw_p30 : lw_okq (⟨"CrumbWoodModel", "marks", "(III)I"⟩, 41) := ⟨⟨by decide +kernel, by decide +kernel⟩, List.mem_of_getElem? (i := 713) (by decide +kernel), List.mem_of_getElem? (i := 980) (by decide +kernel), List.mem_of_getElem? (i := 981) (by decide +kernel)⟩
theorem lw_p31 : lw_okq (⟨"CrumbWoodModel", "v", "(III)I"⟩, 41) := ⟨⟨by decide +kernel, by decide +kernel⟩, List.mem_of_getElem? (i := 713) (by decide +kernel), List.mem_of_getElem? (i := 984) (by decide +kernel), List.mem_of_getElem? (i := 985) (by decide +kernel)⟩
def lw_privs_2 : List (MethodName × Nat) := [(⟨"CrumbWoodModel", "meets", "(I)I"⟩, 41), (⟨"CrumbWoodModel", "rowAt", "(II)I"⟩, 41), (⟨"CrumbWoodModel", "tells", "(II)I"⟩, 41), (⟨"CrumbWoodModel", "faultOf", "(I)I"⟩, 41), (⟨"CrumbWoodModel", "byteAt", "(II)I"⟩, 41), (⟨"CrumbWoodModel", "readsPath", "(I)Z"⟩, 41), (⟨"CrumbWoodModel", "figure", "(II)Z"⟩, 41), (⟨"CrumbWoodModel", "readsBird", "(I)Z"⟩, 41), (⟨"CrumbWoodModel", "readsPockets", "(I)Z"⟩, 41), (⟨"CrumbWoodModel", "readsPlace", "(I)Z"⟩, 41), (⟨"CrumbWoodModel", "set", "(IIII)V"⟩, 41), (⟨"CrumbWoodModel", "isPlace", "(I)Z"⟩, 41), (⟨"CrumbWoodModel", "placeTells", "(II)I"⟩, 41), (⟨"CrumbWoodModel", "seen", "(II)I"⟩, 41), (⟨"CrumbWoodModel", "marks", "(III)I"⟩, 41), (⟨"CrumbWoodModel", "v", "(III)I"⟩, 41)]
theorem lw_r2 : ∀ q ∈ lw_privs_2, lw_okq q := List.forall_mem_cons.mpr ⟨lw_p16, List.forall_mem_cons.mpr ⟨lw_p17, List.forall_mem_cons.mpr ⟨lw_p18, List.forall_mem_cons.mpr ⟨lw_p19, List.forall_mem_cons.mpr ⟨lw_p20, List.forall_mem_cons.mpr ⟨lw_p21, List.forall_mem_cons.mpr ⟨lw_p22, List.forall_mem_cons.mpr ⟨lw_p23, List.forall_mem_cons.mpr ⟨lw_p24, List.forall_mem_cons.mpr ⟨lw_p25, List.forall_mem_cons.mpr ⟨lw_p26, List.forall_mem_cons.mpr ⟨lw_p27, List.forall_mem_cons.mpr ⟨lw_p28, List.forall_mem_cons.mpr ⟨lw_p29, List.forall_mem_cons.mpr ⟨lw_p30, List.forall_mem_cons.mpr ⟨lw_p31, fun _ h => absurd h List.not_mem_nil⟩⟩⟩⟩⟩⟩⟩⟩⟩⟩⟩⟩⟩⟩⟩⟩
theorem lw_p32 : lw_okq (⟨"CrumbWoodModel", "eatSet", "(I)I"⟩, 41) := ⟨⟨by decide +kernel, by decide +kernel⟩, List.mem_of_getElem? (i := 713) (by decide +kernel), List.mem_of_getElem? (i := 992) (by decide +kernel), List.mem_of_getElem? (i := 993) (by decide +kernel)⟩
theorem lw_p33 : lw_okq (⟨"CrumbWoodModel", "isGlade", "(I)Z"⟩, 41) := ⟨⟨by decide +kernel, by decide +kernel⟩, List.mem_of_getElem? (i := 713) (by decide +kernel), List.mem_of_getElem? (i := 996) (by decide +kernel), List.mem_of_getElem? (i := 997) (by decide +kernel)⟩
theorem lw_p34 : lw_okq (⟨"CrumbWoodModel", "isThicket", "(I)Z"⟩, 41) := ⟨⟨by decide +kernel, by decide +kernel⟩, List.mem_of_getElem? (i := 713) (by decide +kernel), List.mem_of_getElem? (i := 1000) (by decide +kernel), List.mem_of_getElem? (i := 1001) (by decide +kernel)⟩
theorem lw_p35 : lw_okq (⟨"CrumbWoodModel", "crumbsOn", "(II)I"⟩, 41) := ⟨⟨by decide +kernel, by decide +kernel⟩, List.mem_of_getElem? (i := 713) (by decide +kernel), List.mem_of_getElem? (i := 1004) (by decide +kernel), List.mem_of_getElem? (i := 1005) (by decide +kernel)⟩
theorem lw_p36 : lw_okq (⟨"CrumbWoodModel", "hidden", "(I)I"⟩, 41) := ⟨⟨by decide +kernel, by decide +kernel⟩, List.mem_of_getElem? (i := 713) (by decide +kernel), List.mem_of_getElem? (i := 1008) (by decide +kernel), List.mem_of_getElem? (i := 1009) (by decide +kernel)⟩
theorem lw_p37 : lw_okq (⟨"CrumbWoodModel", "thicketsBy", "(I)I"⟩, 41) := ⟨⟨by decide +kernel, by decide +kernel⟩, List.mem_of_getElem? (i := 713) (by decide +kernel), List.mem_of_getElem? (i := 1012) (by decide +kernel), List.mem_of_getElem? (i := 1013) (by decide +kernel)⟩
theorem lw_p38 : lw_okq (⟨"CrumbWoodModel", "nextOf", "(I)I"⟩, 41) := ⟨⟨by decide +kernel, by decide +kernel⟩, List.mem_of_getElem? (i := 713) (by decide +kernel), List.mem_of_getElem? (i := 1024) (by decide +kernel), List.mem_of_getElem? (i := 1025) (by decide +kernel)⟩
theorem lw_p39 : lw_okq (⟨"CrumbWoodModel", "hereNow", "()I"⟩, 41) := ⟨⟨by decide +kernel, by decide +kernel⟩, List.mem_of_getElem? (i := 713) (by decide +kernel), List.mem_of_getElem? (i := 1036) (by decide +kernel), List.mem_of_getElem? (i := 1037) (by decide +kernel)⟩
theorem lw_p40 : lw_okq (⟨"CrumbWoodModel", "drops", "(III)V"⟩, 41) := ⟨⟨by decide +kernel, by decide +kernel⟩, List.mem_of_getElem? (i := 713) (by decide +kernel), List.mem_of_getElem? (i := 1044) (by decide +kernel), List.mem_of_getElem? (i := 1045) (by decide +kernel)⟩
theorem lw_p41 : lw_okq (⟨"CrumbWoodModel", "setMarks", "(IIII)V"⟩, 41) := ⟨⟨by decide +kernel, by decide +kernel⟩, List.mem_of_getElem? (i := 713) (by decide +kernel), List.mem_of_getElem? (i := 1048) (by decide +kernel), List.mem_of_getElem? (i := 1049) (by decide +kernel)⟩
theorem lw_p42 : lw_okq (⟨"CrumbWoodModel", "hoursOf", "(II)I"⟩, 41) := ⟨⟨by decide +kernel, by decide +kernel⟩, List.mem_of_getElem? (i := 713) (by decide +kernel), List.mem_of_getElem? (i := 1064) (by decide +kernel), List.mem_of_getElem? (i := 1065) (by decide +kernel)⟩
theorem lw_p43 : lw_okq (⟨"CrumbWoodModel", "hourOf", "(I)I"⟩, 41) := ⟨⟨by decide +kernel, by decide +kernel⟩, List.mem_of_getElem? (i := 713) (by decide +kernel), List.mem_of_getElem? (i := 1068) (by decide +kernel), List.mem_of_getElem? (i := 1069) (by decide +kernel)⟩
theorem lw_p44 : lw_okq (⟨"CrumbWoodModel", "layRow", "(I[II)V"⟩, 41) := ⟨⟨by decide +kernel, by decide +kernel⟩, List.mem_of_getElem? (i := 713) (by decide +kernel), List.mem_of_getElem? (i := 1080) (by decide +kernel), List.mem_of_getElem? (i := 1081) (by decide +kernel)⟩
theorem lw_p45 : lw_okq (⟨"CrumbWoodModel", "follows", "(II)Z"⟩, 41) := ⟨⟨by decide +kernel, by decide +kernel⟩, List.mem_of_getElem? (i := 713) (by decide +kernel), List.mem_of_getElem? (i := 1096) (by decide +kernel), List.mem_of_getElem? (i := 1097) (by decide +kernel)⟩
theorem lw_p46 : lw_okq (⟨"CrumbWoodModel", "nextHome", "(III)I"⟩, 41) := ⟨⟨by decide +kernel, by decide +kernel⟩, List.mem_of_getElem? (i := 713) (by decide +kernel), List.mem_of_getElem? (i := 1100) (by decide +kernel), List.mem_of_getElem? (i := 1101) (by decide +kernel)⟩
theorem lw_p47 : lw_okq (⟨"CrumbWoodModel", "copyTo", "(II)V"⟩, 41) := ⟨⟨by decide +kernel, by decide +kernel⟩, List.mem_of_getElem? (i := 713) (by decide +kernel), List.mem_of_getElem? (i := 1116) (by decide +kernel), List.mem_of_getElem? (i := 1117) (by decide +kernel)⟩
def lw_privs_3 : List (MethodName × Nat) := [(⟨"CrumbWoodModel", "eatSet", "(I)I"⟩, 41), (⟨"CrumbWoodModel", "isGlade", "(I)Z"⟩, 41), (⟨"CrumbWoodModel", "isThicket", "(I)Z"⟩, 41), (⟨"CrumbWoodModel", "crumbsOn", "(II)I"⟩, 41), (⟨"CrumbWoodModel", "hidden", "(I)I"⟩, 41), (⟨"CrumbWoodModel", "thicketsBy", "(I)I"⟩, 41), (⟨"CrumbWoodModel", "nextOf", "(I)I"⟩, 41), (⟨"CrumbWoodModel", "hereNow", "()I"⟩, 41), (⟨"CrumbWoodModel", "drops", "(III)V"⟩, 41), (⟨"CrumbWoodModel", "setMarks", "(IIII)V"⟩, 41), (⟨"CrumbWoodModel", "hoursOf", "(II)I"⟩, 41), (⟨"CrumbWoodModel", "hourOf", "(I)I"⟩, 41), (⟨"CrumbWoodModel", "layRow", "(I[II)V"⟩, 41), (⟨"CrumbWoodModel", "follows", "(II)Z"⟩, 41), (⟨"CrumbWoodModel", "nextHome", "(III)I"⟩, 41), (⟨"CrumbWoodModel", "copyTo", "(II)V"⟩, 41)]
theorem lw_r3 : ∀ q ∈ lw_privs_3, lw_okq q := List.forall_mem_cons.mpr ⟨lw_p32, List.forall_mem_cons.mpr ⟨lw_p33, List.forall_mem_cons.mpr ⟨lw_p34, List.forall_mem_cons.mpr ⟨lw_p35, List.forall_mem_cons.mpr ⟨lw_p36, List.forall_mem_cons.mpr ⟨lw_p37, List.forall_mem_cons.mpr ⟨lw_p38, List.forall_mem_cons.mpr ⟨lw_p39, List.forall_mem_cons.mpr ⟨lw_p40, List.forall_mem_cons.mpr ⟨lw_p41, List.forall_mem_cons.mpr ⟨lw_p42, List.forall_mem_cons.mpr ⟨lw_p43, List.forall_mem_cons.mpr ⟨lw_p44, List.forall_mem_cons.mpr ⟨lw_p45, List.forall_mem_cons.mpr ⟨lw_p46, List.forall_mem_cons.mpr ⟨lw_p47, fun _ h => absurd h List.not_mem_nil⟩⟩⟩⟩⟩⟩⟩⟩⟩⟩⟩⟩⟩⟩⟩⟩
theorem lw_p48 : lw_okq (⟨"CrumbWoodModel", "needPlan", "(II)I"⟩, 41) := ⟨⟨by decide +kernel, by decide +kernel⟩, List.mem_of_getElem? (i := 713) (by decide +kernel), List.mem_of_getElem? (i := 1128) (by decide +kernel), List.mem_of_getElem? (i := 1129) (by decide +kernel)⟩
theorem lw_p49 : lw_okq (⟨"CrumbWoodModel", "stonesFor", "(IZ)I"⟩, 41) := ⟨⟨by decide +kernel, by decide +kernel⟩, List.mem_of_getElem? (i := 713) (by decide +kernel), List.mem_of_getElem? (i := 1132) (by decide +kernel), List.mem_of_getElem? (i := 1133) (by decide +kernel)⟩
theorem lw_p50 : lw_okq (⟨"CrumbWoodModel", "bringsHome", "(IIZ)Z"⟩, 41) := ⟨⟨by decide +kernel, by decide +kernel⟩, List.mem_of_getElem? (i := 713) (by decide +kernel), List.mem_of_getElem? (i := 1139) (by decide +kernel), List.mem_of_getElem? (i := 1140) (by decide +kernel)⟩
theorem lw_p51 : lw_okq (⟨"CrumbWoodModel", "changedBy", "(Z)I"⟩, 41) := ⟨⟨by decide +kernel, by decide +kernel⟩, List.mem_of_getElem? (i := 713) (by decide +kernel), List.mem_of_getElem? (i := 1151) (by decide +kernel), List.mem_of_getElem? (i := 1152) (by decide +kernel)⟩
theorem lw_p52 : lw_okq (⟨"CrumbWoodModel", "homeWays", "(I)I"⟩, 41) := ⟨⟨by decide +kernel, by decide +kernel⟩, List.mem_of_getElem? (i := 713) (by decide +kernel), List.mem_of_getElem? (i := 1163) (by decide +kernel), List.mem_of_getElem? (i := 1164) (by decide +kernel)⟩
theorem lw_p53 : lw_okq (⟨"CrumbWoodModel", "part", "(JJ)I"⟩, 41) := ⟨⟨by decide +kernel, by decide +kernel⟩, List.mem_of_getElem? (i := 713) (by decide +kernel), List.mem_of_getElem? (i := 1167) (by decide +kernel), List.mem_of_getElem? (i := 1168) (by decide +kernel)⟩
theorem lw_p54 : lw_okq (⟨"CrumbWoodModel", "layWays", "(II)V"⟩, 41) := ⟨⟨by decide +kernel, by decide +kernel⟩, List.mem_of_getElem? (i := 713) (by decide +kernel), List.mem_of_getElem? (i := 1179) (by decide +kernel), List.mem_of_getElem? (i := 1180) (by decide +kernel)⟩
theorem lw_p55 : lw_okq (⟨"CrumbWoodModel", "counted", "(I)I"⟩, 41) := ⟨⟨by decide +kernel, by decide +kernel⟩, List.mem_of_getElem? (i := 713) (by decide +kernel), List.mem_of_getElem? (i := 1209) (by decide +kernel), List.mem_of_getElem? (i := 1210) (by decide +kernel)⟩
theorem lw_p56 : lw_okq (⟨"CrumbWoodModel", "pathMany", "()I"⟩, 41) := ⟨⟨by decide +kernel, by decide +kernel⟩, List.mem_of_getElem? (i := 713) (by decide +kernel), List.mem_of_getElem? (i := 1213) (by decide +kernel), List.mem_of_getElem? (i := 1214) (by decide +kernel)⟩
theorem lw_p57 : lw_okq (⟨"CrumbWoodModel", "lying", "(I)I"⟩, 41) := ⟨⟨by decide +kernel, by decide +kernel⟩, List.mem_of_getElem? (i := 713) (by decide +kernel), List.mem_of_getElem? (i := 1217) (by decide +kernel), List.mem_of_getElem? (i := 1218) (by decide +kernel)⟩
theorem lw_p58 : lw_okq (⟨"CrumbWoodModel", "mix", "(J)V"⟩, 41) := ⟨⟨by decide +kernel, by decide +kernel⟩, List.mem_of_getElem? (i := 713) (by decide +kernel), List.mem_of_getElem? (i := 1226) (by decide +kernel), List.mem_of_getElem? (i := 1227) (by decide +kernel)⟩
theorem lw_p59 : lw_okq (⟨"CrumbWoodModel", "mixWood", "()V"⟩, 41) := ⟨⟨by decide +kernel, by decide +kernel⟩, List.mem_of_getElem? (i := 713) (by decide +kernel), List.mem_of_getElem? (i := 1231) (by decide +kernel), List.mem_of_getElem? (i := 1232) (by decide +kernel)⟩
def lw_privs_4 : List (MethodName × Nat) := [(⟨"CrumbWoodModel", "needPlan", "(II)I"⟩, 41), (⟨"CrumbWoodModel", "stonesFor", "(IZ)I"⟩, 41), (⟨"CrumbWoodModel", "bringsHome", "(IIZ)Z"⟩, 41), (⟨"CrumbWoodModel", "changedBy", "(Z)I"⟩, 41), (⟨"CrumbWoodModel", "homeWays", "(I)I"⟩, 41), (⟨"CrumbWoodModel", "part", "(JJ)I"⟩, 41), (⟨"CrumbWoodModel", "layWays", "(II)V"⟩, 41), (⟨"CrumbWoodModel", "counted", "(I)I"⟩, 41), (⟨"CrumbWoodModel", "pathMany", "()I"⟩, 41), (⟨"CrumbWoodModel", "lying", "(I)I"⟩, 41), (⟨"CrumbWoodModel", "mix", "(J)V"⟩, 41), (⟨"CrumbWoodModel", "mixWood", "()V"⟩, 41)]
theorem lw_r4 : ∀ q ∈ lw_privs_4, lw_okq q := List.forall_mem_cons.mpr ⟨lw_p48, List.forall_mem_cons.mpr ⟨lw_p49, List.forall_mem_cons.mpr ⟨lw_p50, List.forall_mem_cons.mpr ⟨lw_p51, List.forall_mem_cons.mpr ⟨lw_p52, List.forall_mem_cons.mpr ⟨lw_p53, List.forall_mem_cons.mpr ⟨lw_p54, List.forall_mem_cons.mpr ⟨lw_p55, List.forall_mem_cons.mpr ⟨lw_p56, List.forall_mem_cons.mpr ⟨lw_p57, List.forall_mem_cons.mpr ⟨lw_p58, List.forall_mem_cons.mpr ⟨lw_p59, fun _ h => absurd h List.not_mem_nil⟩⟩⟩⟩⟩⟩⟩⟩⟩⟩⟩⟩
def lw_privs : List (MethodName × Nat) := lw_privs_1 ++ (lw_privs_2 ++ (lw_privs_3 ++ (lw_privs_4)))
def lw_tbl : List Cond := k2_sels lw_privs ++ tables_1
theorem lw_privs_ok : ∀ q ∈ lw_privs, lw_okq q := by
  show ∀ q ∈ lw_privs_1 ++ (lw_privs_2 ++ (lw_privs_3 ++ (lw_privs_4))), lw_okq q
  exact List.forall_mem_append.mpr ⟨lw_r1, List.forall_mem_append.mpr ⟨lw_r2, List.forall_mem_append.mpr ⟨lw_r3, lw_r4⟩⟩⟩
end
section
def RX0 : String := "CrumbWood$Reader"
def TX0 : u_T := fun k => match k with
  | 0 => ("CrumbWood$Reader", "signs", "[I", false)
  | 1 => ("CrumbWood$Reader", "size", "I", false)
  | 2 => ("CrumbWood$Reader", "spot", "I", false)
  | 3 => ("CrumbWood$Reader", "stage", "I", false)
  | _ => ("CrumbWood$Reader", "paths", "I", false)
def tyX0 : Nat → FieldType := fun k => match k with
  | 0 => .array .int
  | 1 => .int
  | 2 => .int
  | 3 => .int
  | _ => .int
theorem nmX0 : ∀ a, a < 5 → ∀ b, b < 5 → a ≠ b → (TX0 a).2.1 ≠ (TX0 b).2.1 := by decide +kernel
theorem tyX0_ok : ∀ k, k < 5 → parseFieldDescriptor (TX0 k).2.2.1 = some (tyX0 k) := by decide +kernel
abbrev cX0_init : ByteArray := prog_2_method_1_code
def yX0_init : MethodName := ⟨RX0, "<init>", "()V"⟩
abbrev cX0_read : ByteArray := prog_2_method_2_code
def yX0_read : MethodName := ⟨RX0, "read", "(LCrumbWood$Strip;LCrumbWood$Wood;)I"⟩
abbrev cX0_skipBlanks : ByteArray := prog_2_method_3_code
def yX0_skipBlanks : MethodName := ⟨RX0, "skipBlanks", "()V"⟩
abbrev cX0_readItem : ByteArray := prog_2_method_4_code
def yX0_readItem : MethodName := ⟨RX0, "readItem", "(LCrumbWood$Wood;)Z"⟩
abbrev cX0_kindOf : ByteArray := prog_2_method_5_code
def yX0_kindOf : MethodName := ⟨RX0, "kindOf", "(I)I"⟩
abbrev cX0_startsItem : ByteArray := prog_2_method_6_code
def yX0_startsItem : MethodName := ⟨RX0, "startsItem", "(LCrumbWood$Wood;IZ)Z"⟩
abbrev cX0_figureBelow : ByteArray := prog_2_method_7_code
def yX0_figureBelow : MethodName := ⟨RX0, "figureBelow", "(I)I"⟩
abbrev cX0_readPath : ByteArray := prog_2_method_8_code
def yX0_readPath : MethodName := ⟨RX0, "readPath", "(LCrumbWood$Wood;)Z"⟩
abbrev cX0_readBird : ByteArray := prog_2_method_9_code
def yX0_readBird : MethodName := ⟨RX0, "readBird", "(LCrumbWood$Wood;)Z"⟩
abbrev cX0_readPockets : ByteArray := prog_2_method_10_code
def yX0_readPockets : MethodName := ⟨RX0, "readPockets", "(LCrumbWood$Wood;)Z"⟩
def RX1 : String := "CrumbWood$Sight"
def TX1 : u_T := fun k => match k with
  | 0 => ("CrumbWood$Sight", "beside", "[I", false)
  | 1 => ("CrumbWood$Sight", "places", "I", false)
  | 2 => ("CrumbWood$Sight", "caves", "I", false)
  | 3 => ("CrumbWood$Sight", "meadows", "I", false)
  | 4 => ("CrumbWood$Sight", "crumbs", "I", false)
  | 5 => ("CrumbWood$Sight", "stones", "I", false)
  | 6 => ("CrumbWood$Sight", "knots", "I", false)
  | 7 => ("CrumbWood$Sight", "trail", "[I", true)
  | _ => ("CrumbWood$Sight", "steps", "I", false)
def tyX1 : Nat → FieldType := fun k => match k with
  | 0 => .array .int
  | 1 => .int
  | 2 => .int
  | 3 => .int
  | 4 => .int
  | 5 => .int
  | 6 => .int
  | 7 => .array .int
  | _ => .int
theorem nmX1 : ∀ a, a < 9 → ∀ b, b < 9 → a ≠ b → (TX1 a).2.1 ≠ (TX1 b).2.1 := by decide +kernel
theorem tyX1_ok : ∀ k, k < 9 → parseFieldDescriptor (TX1 k).2.2.1 = some (tyX1 k) := by decide +kernel
abbrev cX1_init : ByteArray := prog_3_method_1_code
def yX1_init : MethodName := ⟨RX1, "<init>", "()V"⟩
abbrev cX1_look : ByteArray := prog_3_method_2_code
def yX1_look : MethodName := ⟨RX1, "look", "(LCrumbWood$Wood;)V"⟩
abbrev cX1_findsHome : ByteArray := prog_3_method_3_code
def yX1_findsHome : MethodName := ⟨RX1, "findsHome", "(LCrumbWood$Wood;)Z"⟩
abbrev cX1_follow : ByteArray := prog_3_method_4_code
def yX1_follow : MethodName := ⟨RX1, "follow", "(IIII)Z"⟩
abbrev cX1_stonesWith : ByteArray := prog_3_method_5_code
def yX1_stonesWith : MethodName := ⟨RX1, "stonesWith", "(I)I"⟩
abbrev cX1_homeWithStone : ByteArray := prog_3_method_6_code
def yX1_homeWithStone : MethodName := ⟨RX1, "homeWithStone", "(LCrumbWood$Wood;)I"⟩
abbrev cX1_fewestStones : ByteArray := prog_3_method_7_code
def yX1_fewestStones : MethodName := ⟨RX1, "fewestStones", "(IIZ)I"⟩
abbrev cX1_leadsHome : ByteArray := prog_3_method_8_code
def yX1_leadsHome : MethodName := ⟨RX1, "leadsHome", "(IIZ)Z"⟩
abbrev cX1_cases : ByteArray := prog_3_method_9_code
def yX1_cases : MethodName := ⟨RX1, "cases", "()I"⟩
abbrev cX1_luckyCases : ByteArray := prog_3_method_10_code
def yX1_luckyCases : MethodName := ⟨RX1, "luckyCases", "(II)I"⟩
def RX2 : String := "CrumbWood$Strip"
def TX2 : u_T := fun k => match k with
  | 0 => ("CrumbWood$Strip", "cells", "[I", true)
  | _ => ("CrumbWood$Strip", "size", "I", false)
def tyX2 : Nat → FieldType := fun k => match k with
  | 0 => .array .int
  | _ => .int
theorem nmX2 : ∀ a, a < 2 → ∀ b, b < 2 → a ≠ b → (TX2 a).2.1 ≠ (TX2 b).2.1 := by decide +kernel
theorem tyX2_ok : ∀ k, k < 2 → parseFieldDescriptor (TX2 k).2.2.1 = some (tyX2 k) := by decide +kernel
abbrev cX2_init : ByteArray := prog_4_method_1_code
def yX2_init : MethodName := ⟨RX2, "<init>", "(I)V"⟩
abbrev cX2_isMissing : ByteArray := prog_4_method_2_code
def yX2_isMissing : MethodName := ⟨RX2, "isMissing", "()Z"⟩
abbrev cX2_lackOf : ByteArray := prog_4_method_3_code
def yX2_lackOf : MethodName := ⟨RX2, "lackOf", "(I)I"⟩
abbrev cX2_hasRun : ByteArray := prog_4_method_4_code
def yX2_hasRun : MethodName := ⟨RX2, "hasRun", "(II)Z"⟩
abbrev cX2_renew : ByteArray := prog_4_method_5_code
def yX2_renew : MethodName := ⟨RX2, "renew", "(II)V"⟩
abbrev cX2_fillFrom : ByteArray := prog_4_method_6_code
def yX2_fillFrom : MethodName := ⟨RX2, "fillFrom", "([II)I"⟩
abbrev cX2_sum : ByteArray := prog_4_method_7_code
def yX2_sum : MethodName := ⟨RX2, "sum", "()J"⟩
abbrev cX2_digestOn : ByteArray := prog_4_method_8_code
def yX2_digestOn : MethodName := ⟨RX2, "digestOn", "(J)J"⟩
def RX3 : String := "CrumbWood$Walks"
def TX3 : u_T := fun k => match k with
  | 0 => ("CrumbWood$Walks", "numbers", "[I", false)
  | 1 => ("CrumbWood$Walks", "longer", "[I", false)
  | _ => ("CrumbWood$Walks", "firstStep", "I", false)
def tyX3 : Nat → FieldType := fun k => match k with
  | 0 => .array .int
  | 1 => .array .int
  | _ => .int
theorem nmX3 : ∀ a, a < 3 → ∀ b, b < 3 → a ≠ b → (TX3 a).2.1 ≠ (TX3 b).2.1 := by decide +kernel
theorem tyX3_ok : ∀ k, k < 3 → parseFieldDescriptor (TX3 k).2.2.1 = some (tyX3 k) := by decide +kernel
abbrev cX3_init : ByteArray := prog_5_method_1_code
def yX3_init : MethodName := ⟨RX3, "<init>", "()V"⟩
abbrev cX3_numberOf : ByteArray := prog_5_method_2_code
def yX3_numberOf : MethodName := ⟨RX3, "numberOf", "(LCrumbWood$Wood;II)I"⟩
abbrev cX3_leastOpen : ByteArray := prog_5_method_3_code
def yX3_leastOpen : MethodName := ⟨RX3, "leastOpen", "(I)I"⟩
abbrev cX3_lengthen : ByteArray := prog_5_method_4_code
def yX3_lengthen : MethodName := ⟨RX3, "lengthen", "(LCrumbWood$Wood;I)V"⟩
abbrev cX3_commonPlaces : ByteArray := prog_5_method_5_code
def yX3_commonPlaces : MethodName := ⟨RX3, "commonPlaces", "(LCrumbWood$Wood;II)I"⟩
def RX4 : String := "CrumbWood$Wood"
def TX4 : u_T := fun k => match k with
  | 0 => ("CrumbWood$Wood", "places", "I", false)
  | 1 => ("CrumbWood$Wood", "birds", "I", false)
  | 2 => ("CrumbWood$Wood", "steps", "I", false)
  | 3 => ("CrumbWood$Wood", "kinds", "[I", true)
  | 4 => ("CrumbWood$Wood", "ofKind", "[I", true)
  | 5 => ("CrumbWood$Wood", "beside", "[I", true)
  | 6 => ("CrumbWood$Wood", "lying", "[[I", true)
  | 7 => ("CrumbWood$Wood", "washed", "[I", true)
  | 8 => ("CrumbWood$Wood", "perches", "[I", true)
  | 9 => ("CrumbWood$Wood", "pockets", "[I", true)
  | _ => ("CrumbWood$Wood", "way", "[I", true)
def tyX4 : Nat → FieldType := fun k => match k with
  | 0 => .int
  | 1 => .int
  | 2 => .int
  | 3 => .array .int
  | 4 => .array .int
  | 5 => .array .int
  | 6 => .array (.array .int)
  | 7 => .array .int
  | 8 => .array .int
  | 9 => .array .int
  | _ => .array .int
theorem nmX4 : ∀ a, a < 11 → ∀ b, b < 11 → a ≠ b → (TX4 a).2.1 ≠ (TX4 b).2.1 := by decide +kernel
theorem tyX4_ok : ∀ k, k < 11 → parseFieldDescriptor (TX4 k).2.2.1 = some (tyX4 k) := by decide +kernel
abbrev cX4_init : ByteArray := prog_6_method_1_code
def yX4_init : MethodName := ⟨RX4, "<init>", "()V"⟩
abbrev cX4_clear : ByteArray := prog_6_method_2_code
def yX4_clear : MethodName := ⟨RX4, "clear", "()V"⟩
abbrev cX4_become : ByteArray := prog_6_method_3_code
def yX4_become : MethodName := ⟨RX4, "become", "(LCrumbWood$Wood;)V"⟩
abbrev cX4_addPlace : ByteArray := prog_6_method_4_code
def yX4_addPlace : MethodName := ⟨RX4, "addPlace", "(I)V"⟩
abbrev cX4_addBird : ByteArray := prog_6_method_5_code
def yX4_addBird : MethodName := ⟨RX4, "addBird", "(I)V"⟩
abbrev cX4_isEmpty : ByteArray := prog_6_method_6_code
def yX4_isEmpty : MethodName := ⟨RX4, "isEmpty", "()Z"⟩
abbrev cX4_hasPlace : ByteArray := prog_6_method_7_code
def yX4_hasPlace : MethodName := ⟨RX4, "hasPlace", "(I)Z"⟩
abbrev cX4_isOf : ByteArray := prog_6_method_8_code
def yX4_isOf : MethodName := ⟨RX4, "isOf", "(II)Z"⟩
abbrev cX4_isBeside : ByteArray := prog_6_method_9_code
def yX4_isBeside : MethodName := ⟨RX4, "isBeside", "(II)Z"⟩
abbrev cX4_all : ByteArray := prog_6_method_10_code
def yX4_all : MethodName := ⟨RX4, "all", "()I"⟩
abbrev cX4_standing : ByteArray := prog_6_method_11_code
def yX4_standing : MethodName := ⟨RX4, "standing", "()I"⟩
abbrev cX4_join : ByteArray := prog_6_method_12_code
def yX4_join : MethodName := ⟨RX4, "join", "(IIZ)V"⟩
abbrev cX4_stepTo : ByteArray := prog_6_method_13_code
def yX4_stepTo : MethodName := ⟨RX4, "stepTo", "(I)V"⟩
abbrev cX4_addMark : ByteArray := prog_6_method_14_code
def yX4_addMark : MethodName := ⟨RX4, "addMark", "(II)V"⟩
abbrev cX4_dropHere : ByteArray := prog_6_method_15_code
def yX4_dropHere : MethodName := ⟨RX4, "dropHere", "(I)V"⟩
abbrev cX4_seenAt : ByteArray := prog_6_method_16_code
def yX4_seenAt : MethodName := ⟨RX4, "seenAt", "(I)I"⟩
abbrev cX4_unseenAt : ByteArray := prog_6_method_17_code
def yX4_unseenAt : MethodName := ⟨RX4, "unseenAt", "(I)I"⟩
abbrev cX4_factOf : ByteArray := prog_6_method_18_code
def yX4_factOf : MethodName := ⟨RX4, "factOf", "(II)I"⟩
abbrev cX4_reachFrom : ByteArray := prog_6_method_19_code
def yX4_reachFrom : MethodName := ⟨RX4, "reachFrom", "(I)I"⟩
abbrev cX4_crumbsOn : ByteArray := prog_6_method_20_code
def yX4_crumbsOn : MethodName := ⟨RX4, "crumbsOn", "(I)I"⟩
abbrev cX4_flightFrom : ByteArray := prog_6_method_21_code
def yX4_flightFrom : MethodName := ⟨RX4, "flightFrom", "(I)I"⟩
abbrev cX4_flownFrom : ByteArray := prog_6_method_22_code
def yX4_flownFrom : MethodName := ⟨RX4, "flownFrom", "(I)I"⟩
abbrev cX4_passHours : ByteArray := prog_6_method_23_code
def yX4_passHours : MethodName := ⟨RX4, "passHours", "(I)I"⟩
abbrev cX4_clearCrumbs : ByteArray := prog_6_method_24_code
def yX4_clearCrumbs : MethodName := ⟨RX4, "clearCrumbs", "(I)V"⟩
abbrev cX4_totalOf : ByteArray := prog_6_method_25_code
def yX4_totalOf : MethodName := ⟨RX4, "totalOf", "(I)I"⟩
abbrev cX4_marked : ByteArray := prog_6_method_26_code
def yX4_marked : MethodName := ⟨RX4, "marked", "()I"⟩
abbrev cX4_pathNumber : ByteArray := prog_6_method_27_code
def yX4_pathNumber : MethodName := ⟨RX4, "pathNumber", "()I"⟩
abbrev cX4_digestOn : ByteArray := prog_6_method_28_code
def yX4_digestOn : MethodName := ⟨RX4, "digestOn", "(J)J"⟩
def RX5 : String := "CrumbWood"
def TX5 : u_T := fun k => match k with
  | 0 => ("CrumbWood", "rows", "[LCrumbWood$Strip;", true)
  | 1 => ("CrumbWood", "texts", "[LCrumbWood$Strip;", true)
  | 2 => ("CrumbWood", "wood", "LCrumbWood$Wood;", true)
  | 3 => ("CrumbWood", "kept", "[LCrumbWood$Wood;", true)
  | 4 => ("CrumbWood", "aside", "LCrumbWood$Wood;", true)
  | 5 => ("CrumbWood", "reader", "LCrumbWood$Reader;", true)
  | 6 => ("CrumbWood", "sight", "LCrumbWood$Sight;", true)
  | 7 => ("CrumbWood", "walks", "LCrumbWood$Walks;", true)
  | 8 => ("CrumbWood", "findingCounts", "[I", true)
  | 9 => ("CrumbWood", "latestFinding", "I", false)
  | 10 => ("CrumbWood", "toldAsked", "I", false)
  | 11 => ("CrumbWood", "toldUpper", "J", false)
  | _ => ("CrumbWood", "toldLower", "J", false)
def tyX5 : Nat → FieldType := fun k => match k with
  | 0 => .array (.object "CrumbWood$Strip")
  | 1 => .array (.object "CrumbWood$Strip")
  | 2 => .object "CrumbWood$Wood"
  | 3 => .array (.object "CrumbWood$Wood")
  | 4 => .object "CrumbWood$Wood"
  | 5 => .object "CrumbWood$Reader"
  | 6 => .object "CrumbWood$Sight"
  | 7 => .object "CrumbWood$Walks"
  | 8 => .array .int
  | 9 => .int
  | 10 => .int
  | 11 => .long
  | _ => .long
theorem nmX5 : ∀ a, a < 13 → ∀ b, b < 13 → a ≠ b → (TX5 a).2.1 ≠ (TX5 b).2.1 := by decide +kernel
theorem tyX5_ok : ∀ k, k < 13 → parseFieldDescriptor (TX5 k).2.2.1 = some (tyX5 k) := by decide +kernel
abbrev cX5_init : ByteArray := prog_1_method_1_code
def yX5_init : MethodName := ⟨RX5, "<init>", "()V"⟩
abbrev cX5_row : ByteArray := prog_1_method_2_code
def yX5_row : MethodName := ⟨RX5, "row", "(II)I"⟩
abbrev cX5_lay : ByteArray := prog_1_method_3_code
def yX5_lay : MethodName := ⟨RX5, "lay", "(III)I"⟩
abbrev cX5_at : ByteArray := prog_1_method_4_code
def yX5_at : MethodName := ⟨RX5, "at", "(II)I"⟩
abbrev cX5_tear : ByteArray := prog_1_method_5_code
def yX5_tear : MethodName := ⟨RX5, "tear", "(I)I"⟩
abbrev cX5_copy : ByteArray := prog_1_method_6_code
def yX5_copy : MethodName := ⟨RX5, "copy", "(IIIII)I"⟩
abbrev cX5_mean : ByteArray := prog_1_method_7_code
def yX5_mean : MethodName := ⟨RX5, "mean", "(I)I"⟩
abbrev cX5_text : ByteArray := prog_1_method_8_code
def yX5_text : MethodName := ⟨RX5, "text", "(II)I"⟩
abbrev cX5_put : ByteArray := prog_1_method_9_code
def yX5_put : MethodName := ⟨RX5, "put", "(III)I"⟩
abbrev cX5_fault : ByteArray := prog_1_method_10_code
def yX5_fault : MethodName := ⟨RX5, "fault", "(I)I"⟩
abbrev cX5_wood : ByteArray := prog_1_method_11_code
def yX5_wood : MethodName := ⟨RX5, "wood", "(I)I"⟩
abbrev cX5_place : ByteArray := prog_1_method_12_code
def yX5_place : MethodName := ⟨RX5, "place", "(II)I"⟩
abbrev cX5_mark : ByteArray := prog_1_method_13_code
def yX5_mark : MethodName := ⟨RX5, "mark", "(II)I"⟩
abbrev cX5_path : ByteArray := prog_1_method_14_code
def yX5_path : MethodName := ⟨RX5, "path", "(III)I"⟩
abbrev cX5_bird : ByteArray := prog_1_method_15_code
def yX5_bird : MethodName := ⟨RX5, "bird", "(I)I"⟩
abbrev cX5_pocket : ByteArray := prog_1_method_16_code
def yX5_pocket : MethodName := ⟨RX5, "pocket", "(I)I"⟩
abbrev cX5_lead : ByteArray := prog_1_method_17_code
def yX5_lead : MethodName := ⟨RX5, "lead", "(I)I"⟩
abbrev cX5_drop : ByteArray := prog_1_method_18_code
def yX5_drop : MethodName := ⟨RX5, "drop", "(I)I"⟩
abbrev cX5_fool : ByteArray := prog_1_method_19_code
def yX5_fool : MethodName := ⟨RX5, "fool", "(II)I"⟩
abbrev cX5_take : ByteArray := prog_1_method_20_code
def yX5_take : MethodName := ⟨RX5, "take", "(II)I"⟩
abbrev cX5_hours : ByteArray := prog_1_method_21_code
def yX5_hours : MethodName := ⟨RX5, "hours", "(I)I"⟩
abbrev cX5_here : ByteArray := prog_1_method_22_code
def yX5_here : MethodName := ⟨RX5, "here", "()I"⟩
abbrev cX5_led : ByteArray := prog_1_method_23_code
def yX5_led : MethodName := ⟨RX5, "led", "(I)I"⟩
abbrev cX5_keep : ByteArray := prog_1_method_24_code
def yX5_keep : MethodName := ⟨RX5, "keep", "(I)I"⟩
abbrev cX5_on : ByteArray := prog_1_method_25_code
def yX5_on : MethodName := ⟨RX5, "on", "(I)I"⟩
abbrev cX5_home : ByteArray := prog_1_method_26_code
def yX5_home : MethodName := ⟨RX5, "home", "()I"⟩
abbrev cX5_back : ByteArray := prog_1_method_27_code
def yX5_back : MethodName := ⟨RX5, "back", "(I)I"⟩
abbrev cX5_wrong : ByteArray := prog_1_method_28_code
def yX5_wrong : MethodName := ⟨RX5, "wrong", "()I"⟩
abbrev cX5_waits : ByteArray := prog_1_method_29_code
def yX5_waits : MethodName := ⟨RX5, "waits", "()I"⟩
abbrev cX5_nearest : ByteArray := prog_1_method_30_code
def yX5_nearest : MethodName := ⟨RX5, "nearest", "()I"⟩
abbrev cX5_fewest : ByteArray := prog_1_method_31_code
def yX5_fewest : MethodName := ⟨RX5, "fewest", "(II)I"⟩
abbrev cX5_surest : ByteArray := prog_1_method_32_code
def yX5_surest : MethodName := ⟨RX5, "surest", "(II)I"⟩
abbrev cX5_astray : ByteArray := prog_1_method_33_code
def yX5_astray : MethodName := ⟨RX5, "astray", "()I"⟩
abbrev cX5_helps : ByteArray := prog_1_method_34_code
def yX5_helps : MethodName := ⟨RX5, "helps", "()I"⟩
abbrev cX5_odds : ByteArray := prog_1_method_35_code
def yX5_odds : MethodName := ⟨RX5, "odds", "()I"⟩
abbrev cX5_best : ByteArray := prog_1_method_36_code
def yX5_best : MethodName := ⟨RX5, "best", "()I"⟩
abbrev cX5_ways : ByteArray := prog_1_method_37_code
def yX5_ways : MethodName := ⟨RX5, "ways", "(I)I"⟩
abbrev cX5_sure : ByteArray := prog_1_method_38_code
def yX5_sure : MethodName := ⟨RX5, "sure", "(I)I"⟩
abbrev cX5_was : ByteArray := prog_1_method_39_code
def yX5_was : MethodName := ⟨RX5, "was", "(II)I"⟩
abbrev cX5_bare : ByteArray := prog_1_method_40_code
def yX5_bare : MethodName := ⟨RX5, "bare", "()I"⟩
abbrev cX5_lots : ByteArray := prog_1_method_41_code
def yX5_lots : MethodName := ⟨RX5, "lots", "(II)I"⟩
abbrev cX5_asked : ByteArray := prog_1_method_42_code
def yX5_asked : MethodName := ⟨RX5, "asked", "()I"⟩
abbrev cX5_upper : ByteArray := prog_1_method_43_code
def yX5_upper : MethodName := ⟨RX5, "upper", "()J"⟩
abbrev cX5_lower : ByteArray := prog_1_method_44_code
def yX5_lower : MethodName := ⟨RX5, "lower", "()J"⟩
abbrev cX5_count : ByteArray := prog_1_method_45_code
def yX5_count : MethodName := ⟨RX5, "count", "(I)I"⟩
abbrev cX5_finding : ByteArray := prog_1_method_46_code
def yX5_finding : MethodName := ⟨RX5, "finding", "()I"⟩
abbrev cX5_findings : ByteArray := prog_1_method_47_code
def yX5_findings : MethodName := ⟨RX5, "findings", "(I)I"⟩
abbrev cX5_digest : ByteArray := prog_1_method_48_code
def yX5_digest : MethodName := ⟨RX5, "digest", "()J"⟩
abbrev cX5_isBelow : ByteArray := prog_1_method_49_code
def yX5_isBelow : MethodName := ⟨RX5, "isBelow", "(II)Z"⟩
abbrev cX5_isUpTo : ByteArray := prog_1_method_50_code
def yX5_isUpTo : MethodName := ⟨RX5, "isUpTo", "(II)Z"⟩
abbrev cX5_least : ByteArray := prog_1_method_51_code
def yX5_least : MethodName := ⟨RX5, "least", "(I)I"⟩
abbrev cX5_member : ByteArray := prog_1_method_52_code
def yX5_member : MethodName := ⟨RX5, "member", "(II)I"⟩
abbrev cX5_refuse : ByteArray := prog_1_method_53_code
def yX5_refuse : MethodName := ⟨RX5, "refuse", "(I)I"⟩
abbrev cX5_tellChances : ByteArray := prog_1_method_54_code
def yX5_tellChances : MethodName := ⟨RX5, "tellChances", "(II)V"⟩
abbrev cX5_thereOf : ByteArray := prog_1_method_55_code
def yX5_thereOf : MethodName := ⟨RX5, "thereOf", "([LCrumbWood$Strip;)I"⟩
abbrev cX5_keptNumber : ByteArray := prog_1_method_56_code
def yX5_keptNumber : MethodName := ⟨RX5, "keptNumber", "()I"⟩
abbrev cX5_plan : ByteArray := prog_1_method_57_code
def yX5_plan : MethodName := ⟨RX5, "plan", "(IIZ)I"⟩
def RX6 : String := "CrumbWoodModel"
def TX6 : u_T := fun k => match k with
  | 0 => ("CrumbWoodModel", "latest", "I", false)
  | 1 => ("CrumbWoodModel", "came", "[I", true)
  | 2 => ("CrumbWoodModel", "asked", "I", false)
  | 3 => ("CrumbWoodModel", "upper", "J", false)
  | 4 => ("CrumbWoodModel", "lower", "J", false)
  | 5 => ("CrumbWoodModel", "sizes", "[I", true)
  | 6 => ("CrumbWoodModel", "rows", "[I", true)
  | 7 => ("CrumbWoodModel", "copied", "[I", true)
  | 8 => ("CrumbWoodModel", "textSizes", "[I", true)
  | 9 => ("CrumbWoodModel", "bytes", "[B", true)
  | 10 => ("CrumbWoodModel", "n", "I", false)
  | 11 => ("CrumbWoodModel", "birdMany", "I", false)
  | 12 => ("CrumbWoodModel", "kinds", "[I", true)
  | 13 => ("CrumbWoodModel", "besides", "[I", true)
  | 14 => ("CrumbWoodModel", "readAt", "I", false)
  | 15 => ("CrumbWoodModel", "readMany", "I", false)
  | 16 => ("CrumbWoodModel", "readPaths", "I", false)
  | 17 => ("CrumbWoodModel", "readBirds", "I", false)
  | 18 => ("CrumbWoodModel", "readPockets", "Z", false)
  | 19 => ("CrumbWoodModel", "readKinds", "[I", true)
  | 20 => ("CrumbWoodModel", "readBesides", "[I", true)
  | 21 => ("CrumbWoodModel", "readBird", "[I", true)
  | 22 => ("CrumbWoodModel", "readPocket", "[I", true)
  | 23 => ("CrumbWoodModel", "readNumber", "I", false)
  | 24 => ("CrumbWoodModel", "woods", "[I", true)
  | 25 => ("CrumbWoodModel", "stepMany", "I", false)
  | 26 => ("CrumbWoodModel", "led", "[I", true)
  | 27 => ("CrumbWoodModel", "isKept", "[Z", true)
  | 28 => ("CrumbWoodModel", "keptSteps", "[I", true)
  | 29 => ("CrumbWoodModel", "keptWoods", "[I", true)
  | 30 => ("CrumbWoodModel", "keptBesides", "[I", true)
  | 31 => ("CrumbWoodModel", "keptLed", "[I", true)
  | 32 => ("CrumbWoodModel", "followMany", "I", false)
  | 33 => ("CrumbWoodModel", "followed", "[I", true)
  | 34 => ("CrumbWoodModel", "fars", "[I", true)
  | 35 => ("CrumbWoodModel", "farWays", "[I", true)
  | 36 => ("CrumbWoodModel", "queue", "[I", true)
  | 37 => ("CrumbWoodModel", "planSet", "I", false)
  | 38 => ("CrumbWoodModel", "planEnd", "I", false)
  | 39 => ("CrumbWoodModel", "waysTo", "[I", true)
  | _ => ("CrumbWoodModel", "hash", "J", false)
def tyX6 : Nat → FieldType := fun k => match k with
  | 0 => .int
  | 1 => .array .int
  | 2 => .int
  | 3 => .long
  | 4 => .long
  | 5 => .array .int
  | 6 => .array .int
  | 7 => .array .int
  | 8 => .array .int
  | 9 => .array .byte
  | 10 => .int
  | 11 => .int
  | 12 => .array .int
  | 13 => .array .int
  | 14 => .int
  | 15 => .int
  | 16 => .int
  | 17 => .int
  | 18 => .boolean
  | 19 => .array .int
  | 20 => .array .int
  | 21 => .array .int
  | 22 => .array .int
  | 23 => .int
  | 24 => .array .int
  | 25 => .int
  | 26 => .array .int
  | 27 => .array .boolean
  | 28 => .array .int
  | 29 => .array .int
  | 30 => .array .int
  | 31 => .array .int
  | 32 => .int
  | 33 => .array .int
  | 34 => .array .int
  | 35 => .array .int
  | 36 => .array .int
  | 37 => .int
  | 38 => .int
  | 39 => .array .int
  | _ => .long
theorem nmX6 : ∀ a, a < 41 → ∀ b, b < 41 → a ≠ b → (TX6 a).2.1 ≠ (TX6 b).2.1 := by decide +kernel
theorem tyX6_ok : ∀ k, k < 41 → parseFieldDescriptor (TX6 k).2.2.1 = some (tyX6 k) := by decide +kernel
abbrev cX6_init : ByteArray := prog_8_method_1_code
def yX6_init : MethodName := ⟨RX6, "<init>", "()V"⟩
abbrev cX6_in : ByteArray := prog_8_method_2_code
def yX6_in : MethodName := ⟨RX6, "in", "(III)Z"⟩
abbrev cX6_has : ByteArray := prog_8_method_3_code
def yX6_has : MethodName := ⟨RX6, "has", "(II)Z"⟩
abbrev cX6_bits : ByteArray := prog_8_method_4_code
def yX6_bits : MethodName := ⟨RX6, "bits", "(I)I"⟩
abbrev cX6_meets : ByteArray := prog_8_method_5_code
def yX6_meets : MethodName := ⟨RX6, "meets", "(I)I"⟩
abbrev cX6_finding : ByteArray := prog_8_method_6_code
def yX6_finding : MethodName := ⟨RX6, "finding", "()I"⟩
abbrev cX6_findings : ByteArray := prog_8_method_7_code
def yX6_findings : MethodName := ⟨RX6, "findings", "(I)I"⟩
abbrev cX6_tells : ByteArray := prog_8_method_8_code
def yX6_tells : MethodName := ⟨RX6, "tells", "(II)I"⟩
abbrev cX6_asked : ByteArray := prog_8_method_9_code
def yX6_asked : MethodName := ⟨RX6, "asked", "()I"⟩
abbrev cX6_part : ByteArray := prog_8_method_10_code
def yX6_part : MethodName := ⟨RX6, "part", "(JJ)I"⟩
abbrev cX6_upper : ByteArray := prog_8_method_11_code
def yX6_upper : MethodName := ⟨RX6, "upper", "()J"⟩
abbrev cX6_lower : ByteArray := prog_8_method_12_code
def yX6_lower : MethodName := ⟨RX6, "lower", "()J"⟩
abbrev cX6_isRow : ByteArray := prog_8_method_13_code
def yX6_isRow : MethodName := ⟨RX6, "isRow", "(I)Z"⟩
abbrev cX6_rowAt : ByteArray := prog_8_method_14_code
def yX6_rowAt : MethodName := ⟨RX6, "rowAt", "(II)I"⟩
abbrev cX6_row : ByteArray := prog_8_method_15_code
def yX6_row : MethodName := ⟨RX6, "row", "(II)I"⟩
abbrev cX6_lay : ByteArray := prog_8_method_16_code
def yX6_lay : MethodName := ⟨RX6, "lay", "(III)I"⟩
abbrev cX6_at : ByteArray := prog_8_method_17_code
def yX6_at : MethodName := ⟨RX6, "at", "(II)I"⟩
abbrev cX6_tear : ByteArray := prog_8_method_18_code
def yX6_tear : MethodName := ⟨RX6, "tear", "(I)I"⟩
abbrev cX6_copy : ByteArray := prog_8_method_19_code
def yX6_copy : MethodName := ⟨RX6, "copy", "(IIIII)I"⟩
abbrev cX6_mean : ByteArray := prog_8_method_20_code
def yX6_mean : MethodName := ⟨RX6, "mean", "(I)I"⟩
abbrev cX6_isText : ByteArray := prog_8_method_21_code
def yX6_isText : MethodName := ⟨RX6, "isText", "(I)Z"⟩
abbrev cX6_text : ByteArray := prog_8_method_22_code
def yX6_text : MethodName := ⟨RX6, "text", "(II)I"⟩
abbrev cX6_put : ByteArray := prog_8_method_23_code
def yX6_put : MethodName := ⟨RX6, "put", "(III)I"⟩
abbrev cX6_byteAt : ByteArray := prog_8_method_24_code
def yX6_byteAt : MethodName := ⟨RX6, "byteAt", "(II)I"⟩
abbrev cX6_layRow : ByteArray := prog_8_method_25_code
def yX6_layRow : MethodName := ⟨RX6, "layRow", "(I[II)V"⟩
abbrev cX6_kindOf : ByteArray := prog_8_method_26_code
def yX6_kindOf : MethodName := ⟨RX6, "kindOf", "(I)I"⟩
abbrev cX6_figure : ByteArray := prog_8_method_27_code
def yX6_figure : MethodName := ⟨RX6, "figure", "(II)Z"⟩
abbrev cX6_readsPlace : ByteArray := prog_8_method_28_code
def yX6_readsPlace : MethodName := ⟨RX6, "readsPlace", "(I)Z"⟩
abbrev cX6_readsPath : ByteArray := prog_8_method_29_code
def yX6_readsPath : MethodName := ⟨RX6, "readsPath", "(I)Z"⟩
abbrev cX6_readsBird : ByteArray := prog_8_method_30_code
def yX6_readsBird : MethodName := ⟨RX6, "readsBird", "(I)Z"⟩
abbrev cX6_readsPockets : ByteArray := prog_8_method_31_code
def yX6_readsPockets : MethodName := ⟨RX6, "readsPockets", "(I)Z"⟩
abbrev cX6_faultOf : ByteArray := prog_8_method_32_code
def yX6_faultOf : MethodName := ⟨RX6, "faultOf", "(I)I"⟩
abbrev cX6_fault : ByteArray := prog_8_method_33_code
def yX6_fault : MethodName := ⟨RX6, "fault", "(I)I"⟩
abbrev cX6_wood : ByteArray := prog_8_method_34_code
def yX6_wood : MethodName := ⟨RX6, "wood", "(I)I"⟩
abbrev cX6_isPlace : ByteArray := prog_8_method_35_code
def yX6_isPlace : MethodName := ⟨RX6, "isPlace", "(I)Z"⟩
abbrev cX6_isThicket : ByteArray := prog_8_method_36_code
def yX6_isThicket : MethodName := ⟨RX6, "isThicket", "(I)Z"⟩
abbrev cX6_isGlade : ByteArray := prog_8_method_37_code
def yX6_isGlade : MethodName := ⟨RX6, "isGlade", "(I)Z"⟩
abbrev cX6_v : ByteArray := prog_8_method_38_code
def yX6_v : MethodName := ⟨RX6, "v", "(III)I"⟩
abbrev cX6_set : ByteArray := prog_8_method_39_code
def yX6_set : MethodName := ⟨RX6, "set", "(IIII)V"⟩
abbrev cX6_copyTo : ByteArray := prog_8_method_40_code
def yX6_copyTo : MethodName := ⟨RX6, "copyTo", "(II)V"⟩
abbrev cX6_marks : ByteArray := prog_8_method_41_code
def yX6_marks : MethodName := ⟨RX6, "marks", "(III)I"⟩
abbrev cX6_setMarks : ByteArray := prog_8_method_42_code
def yX6_setMarks : MethodName := ⟨RX6, "setMarks", "(IIII)V"⟩
abbrev cX6_drops : ByteArray := prog_8_method_43_code
def yX6_drops : MethodName := ⟨RX6, "drops", "(III)V"⟩
abbrev cX6_seen : ByteArray := prog_8_method_44_code
def yX6_seen : MethodName := ⟨RX6, "seen", "(II)I"⟩
abbrev cX6_nextOf : ByteArray := prog_8_method_45_code
def yX6_nextOf : MethodName := ⟨RX6, "nextOf", "(I)I"⟩
abbrev cX6_eatSet : ByteArray := prog_8_method_46_code
def yX6_eatSet : MethodName := ⟨RX6, "eatSet", "(I)I"⟩
abbrev cX6_crumbsOn : ByteArray := prog_8_method_47_code
def yX6_crumbsOn : MethodName := ⟨RX6, "crumbsOn", "(II)I"⟩
abbrev cX6_hourOf : ByteArray := prog_8_method_48_code
def yX6_hourOf : MethodName := ⟨RX6, "hourOf", "(I)I"⟩
abbrev cX6_hoursOf : ByteArray := prog_8_method_49_code
def yX6_hoursOf : MethodName := ⟨RX6, "hoursOf", "(II)I"⟩
abbrev cX6_placeTells : ByteArray := prog_8_method_50_code
def yX6_placeTells : MethodName := ⟨RX6, "placeTells", "(II)I"⟩
abbrev cX6_place : ByteArray := prog_8_method_51_code
def yX6_place : MethodName := ⟨RX6, "place", "(II)I"⟩
abbrev cX6_hidden : ByteArray := prog_8_method_52_code
def yX6_hidden : MethodName := ⟨RX6, "hidden", "(I)I"⟩
abbrev cX6_thicketsBy : ByteArray := prog_8_method_53_code
def yX6_thicketsBy : MethodName := ⟨RX6, "thicketsBy", "(I)I"⟩
abbrev cX6_mark : ByteArray := prog_8_method_54_code
def yX6_mark : MethodName := ⟨RX6, "mark", "(II)I"⟩
abbrev cX6_path : ByteArray := prog_8_method_55_code
def yX6_path : MethodName := ⟨RX6, "path", "(III)I"⟩
abbrev cX6_bird : ByteArray := prog_8_method_56_code
def yX6_bird : MethodName := ⟨RX6, "bird", "(I)I"⟩
abbrev cX6_pocket : ByteArray := prog_8_method_57_code
def yX6_pocket : MethodName := ⟨RX6, "pocket", "(I)I"⟩
abbrev cX6_hereNow : ByteArray := prog_8_method_58_code
def yX6_hereNow : MethodName := ⟨RX6, "hereNow", "()I"⟩
abbrev cX6_lead : ByteArray := prog_8_method_59_code
def yX6_lead : MethodName := ⟨RX6, "lead", "(I)I"⟩
abbrev cX6_drop : ByteArray := prog_8_method_60_code
def yX6_drop : MethodName := ⟨RX6, "drop", "(I)I"⟩
abbrev cX6_fool : ByteArray := prog_8_method_61_code
def yX6_fool : MethodName := ⟨RX6, "fool", "(II)I"⟩
abbrev cX6_take : ByteArray := prog_8_method_62_code
def yX6_take : MethodName := ⟨RX6, "take", "(II)I"⟩
abbrev cX6_hours : ByteArray := prog_8_method_63_code
def yX6_hours : MethodName := ⟨RX6, "hours", "(I)I"⟩
abbrev cX6_here : ByteArray := prog_8_method_64_code
def yX6_here : MethodName := ⟨RX6, "here", "()I"⟩
abbrev cX6_led : ByteArray := prog_8_method_65_code
def yX6_led : MethodName := ⟨RX6, "led", "(I)I"⟩
abbrev cX6_keep : ByteArray := prog_8_method_66_code
def yX6_keep : MethodName := ⟨RX6, "keep", "(I)I"⟩
abbrev cX6_on : ByteArray := prog_8_method_67_code
def yX6_on : MethodName := ⟨RX6, "on", "(I)I"⟩
abbrev cX6_nextHome : ByteArray := prog_8_method_68_code
def yX6_nextHome : MethodName := ⟨RX6, "nextHome", "(III)I"⟩
abbrev cX6_follows : ByteArray := prog_8_method_69_code
def yX6_follows : MethodName := ⟨RX6, "follows", "(II)Z"⟩
abbrev cX6_home : ByteArray := prog_8_method_70_code
def yX6_home : MethodName := ⟨RX6, "home", "()I"⟩
abbrev cX6_back : ByteArray := prog_8_method_71_code
def yX6_back : MethodName := ⟨RX6, "back", "(I)I"⟩
abbrev cX6_wrong : ByteArray := prog_8_method_72_code
def yX6_wrong : MethodName := ⟨RX6, "wrong", "()I"⟩
abbrev cX6_waits : ByteArray := prog_8_method_73_code
def yX6_waits : MethodName := ⟨RX6, "waits", "()I"⟩
abbrev cX6_nearest : ByteArray := prog_8_method_74_code
def yX6_nearest : MethodName := ⟨RX6, "nearest", "()I"⟩
abbrev cX6_needPlan : ByteArray := prog_8_method_75_code
def yX6_needPlan : MethodName := ⟨RX6, "needPlan", "(II)I"⟩
abbrev cX6_bringsHome : ByteArray := prog_8_method_76_code
def yX6_bringsHome : MethodName := ⟨RX6, "bringsHome", "(IIZ)Z"⟩
abbrev cX6_stonesFor : ByteArray := prog_8_method_77_code
def yX6_stonesFor : MethodName := ⟨RX6, "stonesFor", "(IZ)I"⟩
abbrev cX6_fewest : ByteArray := prog_8_method_78_code
def yX6_fewest : MethodName := ⟨RX6, "fewest", "(II)I"⟩
abbrev cX6_surest : ByteArray := prog_8_method_79_code
def yX6_surest : MethodName := ⟨RX6, "surest", "(II)I"⟩
abbrev cX6_changedBy : ByteArray := prog_8_method_80_code
def yX6_changedBy : MethodName := ⟨RX6, "changedBy", "(Z)I"⟩
abbrev cX6_astray : ByteArray := prog_8_method_81_code
def yX6_astray : MethodName := ⟨RX6, "astray", "()I"⟩
abbrev cX6_helps : ByteArray := prog_8_method_82_code
def yX6_helps : MethodName := ⟨RX6, "helps", "()I"⟩
abbrev cX6_homeWays : ByteArray := prog_8_method_83_code
def yX6_homeWays : MethodName := ⟨RX6, "homeWays", "(I)I"⟩
abbrev cX6_odds : ByteArray := prog_8_method_84_code
def yX6_odds : MethodName := ⟨RX6, "odds", "()I"⟩
abbrev cX6_best : ByteArray := prog_8_method_85_code
def yX6_best : MethodName := ⟨RX6, "best", "()I"⟩
abbrev cX6_layWays : ByteArray := prog_8_method_86_code
def yX6_layWays : MethodName := ⟨RX6, "layWays", "(II)V"⟩
abbrev cX6_ways : ByteArray := prog_8_method_87_code
def yX6_ways : MethodName := ⟨RX6, "ways", "(I)I"⟩
abbrev cX6_sure : ByteArray := prog_8_method_88_code
def yX6_sure : MethodName := ⟨RX6, "sure", "(I)I"⟩
abbrev cX6_was : ByteArray := prog_8_method_89_code
def yX6_was : MethodName := ⟨RX6, "was", "(II)I"⟩
abbrev cX6_bare : ByteArray := prog_8_method_90_code
def yX6_bare : MethodName := ⟨RX6, "bare", "()I"⟩
abbrev cX6_lots : ByteArray := prog_8_method_91_code
def yX6_lots : MethodName := ⟨RX6, "lots", "(II)I"⟩
abbrev cX6_pathMany : ByteArray := prog_8_method_92_code
def yX6_pathMany : MethodName := ⟨RX6, "pathMany", "()I"⟩
abbrev cX6_lying : ByteArray := prog_8_method_93_code
def yX6_lying : MethodName := ⟨RX6, "lying", "(I)I"⟩
abbrev cX6_counted : ByteArray := prog_8_method_94_code
def yX6_counted : MethodName := ⟨RX6, "counted", "(I)I"⟩
abbrev cX6_count : ByteArray := prog_8_method_95_code
def yX6_count : MethodName := ⟨RX6, "count", "(I)I"⟩
abbrev cX6_mix : ByteArray := prog_8_method_96_code
def yX6_mix : MethodName := ⟨RX6, "mix", "(J)V"⟩
abbrev cX6_mixWood : ByteArray := prog_8_method_97_code
def yX6_mixWood : MethodName := ⟨RX6, "mixWood", "()V"⟩
abbrev cX6_digest : ByteArray := prog_8_method_98_code
def yX6_digest : MethodName := ⟨RX6, "digest", "()J"⟩
def RJ6 : String := "java/lang/Integer"
def TJ6 : u_T := fun k => match k with
  | _ => ("", "", "", false)
def tyJ6 : Nat → FieldType := fun k => match k with
  | _ => .int
abbrev cJ6_bitCount_0f7a4 : ByteArray := prog_9_method_49_code
def yJ6_bitCount_0f7a4 : MethodName := ⟨RJ6, "bitCount", "(I)I"⟩
def RJ9 : String := "java/lang/Math"
def TJ9 : u_T := fun k => match k with
  | _ => ("", "", "", false)
def tyJ9 : Nat → FieldType := fun k => match k with
  | _ => .int
abbrev cJ9_max_7cf53 : ByteArray := prog_10_method_65_code
def yJ9_max_7cf53 : MethodName := ⟨RJ9, "max", "(II)I"⟩
abbrev cJ9_min_7cf53 : ByteArray := prog_10_method_69_code
def yJ9_min_7cf53 : MethodName := ⟨RJ9, "min", "(II)I"⟩
def RJ10 : String := "java/lang/System"
def TJ10 : u_T := fun k => match k with
  | _ => ("", "", "", false)
def tyJ10 : Nat → FieldType := fun k => match k with
  | _ => .int
def RL : String := "CrumbWoodLaw"
abbrev cL_law : ByteArray := code
def yL_law : MethodName := ⟨RL, "law", "([I)Z"⟩
abbrev vwCl : List vw_C := [(RX0, TX0, 5), (RX1, TX1, 9), (RX2, TX2, 2), (RX3, TX3, 3), (RX4, TX4, 11), (RX5, TX5, 13), (RX6, TX6, 41)]
end
section
/-! MEMORY: ints, longs, references, by cell and place; every reference is a number of a cell -/
abbrev Mm : Type := (Nat → Nat → Int32) × (Nat → Nat → Int64) × (Nat → Nat → Nat)
def wI (M : Mm) (a k : Nat) (v : Int32) : Mm := (fun b j => if b = a ∧ j = k then v else M.1 b j, M.2.1, M.2.2)
def wJ (M : Mm) (a k : Nat) (v : Int64) : Mm := (M.1, fun b j => if b = a ∧ j = k then v else M.2.1 b j, M.2.2)
def wR (M : Mm) (a k : Nat) (v : Nat) : Mm := (M.1, M.2.1, fun b j => if b = a ∧ j = k then v else M.2.2 b j)
def wC (M : Mm) (a0 a sp dp n : Nat) : Mm := (fun b j => if b = a ∧ dp ≤ j ∧ j < dp + n then M.1 a0 (sp + (j - dp)) else M.1 b j, M.2.1, M.2.2)
/-- the kinds of the cells and their lengths: 0 int[], 1 byte[], 2 boolean[], 3 Strip[], 4 Wood[], 5 int[][], 10 + c an object of class c -/
def shT : List (Nat × Nat) := [(15, 13), (3, 6), (3, 4), (4, 3), (10, 5), (0, 0), (11, 9), (0, 8), (0, 8), (13, 3), (0, 8), (0, 8), (0, 6),
  (12, 2), (0, 40), (12, 2), (0, 40), (12, 2), (0, 40), (12, 2), (0, 40), (12, 2), (0, 40), (12, 2), (0, 40),
  (12, 2), (0, 80), (12, 2), (0, 80), (12, 2), (0, 80), (12, 2), (0, 80),
  (14, 11), (0, 8), (0, 6), (0, 8), (5, 3), (0, 8), (0, 8), (0, 8), (0, 8), (0, 4), (0, 3), (0, 31),
  (14, 11), (0, 8), (0, 6), (0, 8), (5, 3), (0, 8), (0, 8), (0, 8), (0, 8), (0, 4), (0, 3), (0, 31),
  (14, 11), (0, 8), (0, 6), (0, 8), (5, 3), (0, 8), (0, 8), (0, 8), (0, 8), (0, 4), (0, 3), (0, 31),
  (14, 11), (0, 8), (0, 6), (0, 8), (5, 3), (0, 8), (0, 8), (0, 8), (0, 8), (0, 4), (0, 3), (0, 31),
  (14, 11), (0, 8), (0, 6), (0, 8), (5, 3), (0, 8), (0, 8), (0, 8), (0, 8), (0, 4), (0, 3), (0, 31),
  (16, 41), (0, 6), (0, 6), (0, 240), (0, 40), (0, 4), (1, 320), (0, 8), (0, 8), (0, 8), (0, 8), (0, 4), (0, 3), (0, 156), (0, 31), (2, 3), (0, 3), (0, 117), (0, 24), (0, 93), (0, 9), (0, 8), (0, 8), (0, 8), (0, 72)]
def NW : Nat := 118
def sh (a : Nat) : Nat := (shT.getD a (99, 0)).1
def ln (a : Nat) : Nat := (shT.getD a (99, 0)).2
/-- an object's fields: place and sort (0 int, 1 long, 2 reference) -/
def fldT : List (List (Nat × Nat)) := [
  [(0, 2), (1, 0), (2, 0), (3, 0), (4, 0)],
  [(0, 2), (1, 0), (2, 0), (3, 0), (4, 0), (5, 0), (6, 0), (7, 2), (8, 0)],
  [(0, 2), (1, 0)],
  [(0, 2), (1, 2), (2, 0)],
  [(0, 0), (1, 0), (2, 0), (3, 2), (4, 2), (5, 2), (6, 2), (7, 2), (8, 2), (9, 2), (10, 2)],
  [(0, 2), (1, 2), (2, 2), (3, 2), (4, 2), (5, 2), (6, 2), (7, 2), (8, 2), (9, 0), (10, 0), (11, 1), (12, 1)],
  [(0, 0), (1, 2), (2, 0), (3, 1), (4, 1), (5, 2), (6, 2), (7, 2), (8, 2), (9, 2), (10, 0), (11, 0), (12, 2), (13, 2), (14, 0), (15, 0), (16, 0), (17, 0), (18, 0), (19, 2), (20, 2), (21, 2), (22, 2), (23, 0), (24, 2), (25, 0), (26, 2), (27, 2), (28, 2), (29, 2), (30, 2), (31, 2), (32, 0), (33, 2), (34, 2), (35, 2), (36, 2), (37, 0), (38, 0), (39, 2), (40, 1)]]
def flds (c : Nat) : List (Nat × Nat) := fldT.getD c []
def fv (ad : Nat → Nat) (M : Mm) (a : Nat) (q : Nat × Nat) : Value := match q.2 with
  | 0 => .int (M.1 a q.1)
  | 1 => .long (M.2.1 a q.1)
  | _ => .ref (ad (M.2.2 a q.1))
def ent (ad : Nat → Nat) (cA : Nat → ClassId) (M : Mm) (a : Nat) : va_E :=
  if sh a < 3 then .inl (cA (sh a), ln a, .inl (M.1 a)) else if sh a < 10 then .inl (cA (sh a), ln a, .inr (.inr (.inr (.inr (fun j => some (ad (M.2.2 a j))))))) else .inr (sh a - 10, (flds (sh a - 10)).map (fv ad M a))
def wsM (ad : Nat → Nat) (cA : Nat → ClassId) (M : Mm) : va_W := (List.range NW).map (fun a => (ad a, ent ad cA M a))
def tysW (cA : Nat → ClassId) : List (ClassId × FieldType) := [(cA 0, .int), (cA 1, .byte), (cA 2, .boolean), (cA 3, .object "CrumbWood$Strip"), (cA 4, .object "CrumbWood$Wood"), (cA 5, .array .int)]
theorem sh_lt {a : Nat} (h : sh a < 99) : a < NW := by
  by_cases h1 : a < NW
  · exact h1
  · have h2 : shT.length ≤ a := Nat.le_trans (Nat.le_of_ble_eq_true rfl) (Nat.not_lt.mp h1)
    unfold sh at h
    rw [List.getD_eq_getElem?_getD, List.getElem?_eq_none h2] at h
    exact absurd h (by decide)
theorem wsM_at (ad : Nat → Nat) (cA : Nat → ClassId) (M : Mm) {a : Nat} (h : a < NW) : (wsM ad cA M)[a]? = some (ad a, ent ad cA M a) := by
  unfold wsM
  rw [List.getElem?_map, List.getElem?_range h]
  rfl
theorem wsM_set (ad : Nat → Nat) (cA : Nat → ClassId) (M M1 : Mm) {a : Nat} {e : va_E} (he : ent ad cA M1 a = e) (ho : ∀ b, b ≠ a → ent ad cA M1 b = ent ad cA M b) : (wsM ad cA M).set a (ad a, e) = wsM ad cA M1 := by
  apply List.ext_getElem?
  intro b
  unfold wsM
  rw [List.getElem?_set, List.getElem?_map, List.getElem?_map]
  by_cases hb : a = b
  · subst hb
    by_cases h : a < NW
    · rw [if_pos rfl, if_pos (by simpa using h), List.getElem?_range h]
      simp [he]
    · rw [if_pos rfl, if_neg (by simpa using h), List.getElem?_eq_none (by simpa using h)]
      rfl
  · rw [if_neg hb]
    cases hr : (List.range NW)[b]? with
    | none => rfl
    | some c =>
      have hc : c = b := by
        obtain ⟨h1, h2⟩ := List.getElem?_eq_some_iff.mp hr
        simpa using h2.symm
      subst hc
      simp [ho c (fun h => hb h.symm)]
theorem ent_arr {ad : Nat → Nat} {cA : Nat → ClassId} {M : Mm} {a k : Nat} (h : sh a = k) (hk : k < 3) : ent ad cA M a = .inl (cA k, ln a, .inl (M.1 a)) := by
  unfold ent
  rw [h, if_pos hk]
theorem ent_rarr {ad : Nat → Nat} {cA : Nat → ClassId} {M : Mm} {a k : Nat} (h : sh a = k) (hk : ¬ k < 3) (hk2 : k < 10) : ent ad cA M a = .inl (cA k, ln a, .inr (.inr (.inr (.inr (fun j => some (ad (M.2.2 a j))))))) := by
  unfold ent
  rw [h, if_neg hk, if_pos hk2]
theorem ent_obj {ad : Nat → Nat} {cA : Nat → ClassId} {M : Mm} {a k : Nat} (h : sh a = 10 + k) : ent ad cA M a = .inr (k, (flds k).map (fv ad M a)) := by
  unfold ent
  rw [h, if_neg (by omega), if_neg (by omega), Nat.add_sub_cancel_left]
theorem ent_off {ad : Nat → Nat} {cA : Nat → ClassId} {M M1 : Mm} {b : Nat} (h1 : M1.1 b = M.1 b) (h2 : M1.2.1 b = M.2.1 b) (h3 : M1.2.2 b = M.2.2 b) : ent ad cA M1 b = ent ad cA M b := by
  have hf : fv ad M1 b = fv ad M b := by
    funext q
    unfold fv
    rw [h1, h2, h3]
  unfold ent
  rw [h1, h3, hf]
theorem wI_ne {M : Mm} {a k b : Nat} {v : Int32} (h : b ≠ a) : (wI M a k v).1 b = M.1 b := by
  funext j
  simp [wI, h]
theorem wI_eq {M : Mm} {a k : Nat} {v : Int32} : (wI M a k v).1 a = upd (M.1 a) k v := by
  funext j
  simp [wI, upd]
theorem wI_2 {M : Mm} {a k : Nat} {v : Int32} : (wI M a k v).2 = M.2 := rfl
theorem wJ_ne {M : Mm} {a k b : Nat} {v : Int64} (h : b ≠ a) : (wJ M a k v).2.1 b = M.2.1 b := by
  funext j
  simp [wJ, h]
theorem wR_ne {M : Mm} {a k b : Nat} {v : Nat} (h : b ≠ a) : (wR M a k v).2.2 b = M.2.2 b := by
  funext j
  simp [wR, h]
theorem wC_ne {M : Mm} {a0 a sp dp n b : Nat} (h : b ≠ a) : (wC M a0 a sp dp n).1 b = M.1 b := by
  funext j
  simp [wC, h]
theorem wC_eq {M : Mm} {a0 a sp dp n : Nat} : (wC M a0 a sp dp n).1 a = va_cpy (M.1 a0) (M.1 a) sp dp n := by
  funext j
  simp [wC, va_cpy]
/-! THE PIECES OF A METHOD on a memory: each goes on with what it reads, or is none -/
def ldI {α : Type} (M : Mm) (a : Nat) (i : Int32) (K : Int32 → Option α) : Option α := if ¬ (i < 0 ∨ ln a ≤ i.toNatClampNeg) then K (M.1 a i.toNatClampNeg) else none
def ldR {α : Type} (M : Mm) (k a : Nat) (i : Int32) (K : Nat → Option α) : Option α := if ¬ (i < 0 ∨ ln a ≤ i.toNatClampNeg) ∧ sh (M.2.2 a i.toNatClampNeg) = k then K (M.2.2 a i.toNatClampNeg) else none
def stI {α : Type} (M : Mm) (a : Nat) (i v : Int32) (K : Mm → Option α) : Option α := if ¬ (i < 0 ∨ ln a ≤ i.toNatClampNeg) then K (wI M a i.toNatClampNeg v) else none
def ldS {α : Type} (f : Nat → Int32) (n : Nat) (i : Int32) (K : Int32 → Option α) : Option α := if ¬ (i < 0 ∨ n ≤ i.toNatClampNeg) then K (f i.toNatClampNeg) else none
def gfI {α : Type} (M : Mm) (a f : Nat) (K : Int32 → Option α) : Option α := K (M.1 a f)
def gfJ {α : Type} (M : Mm) (a f : Nat) (K : Int64 → Option α) : Option α := K (M.2.1 a f)
def gfR {α : Type} (M : Mm) (k a f : Nat) (K : Nat → Option α) : Option α := if sh (M.2.2 a f) = k then K (M.2.2 a f) else none
def pfI {α : Type} (M : Mm) (a f : Nat) (v : Int32) (K : Mm → Option α) : Option α := K (wI M a f v)
def pfJ {α : Type} (M : Mm) (a f : Nat) (v : Int64) (K : Mm → Option α) : Option α := K (wJ M a f v)
def pfR {α : Type} (M : Mm) (a f : Nat) (v : Nat) (K : Mm → Option α) : Option α := K (wR M a f v)
def cpA {α : Type} (M : Mm) (a0 : Nat) (sp : Int32) (a : Nat) (dp n : Int32) (K : Mm → Option α) : Option α := if ¬ sp < 0 ∧ ¬ dp < 0 ∧ ¬ n < 0 ∧ sp.toNatClampNeg + n.toNatClampNeg ≤ ln a0 ∧ dp.toNatClampNeg + n.toNatClampNeg ≤ ln a then K (wC M a0 a sp.toNatClampNeg dp.toNatClampNeg n.toNatClampNeg) else none
def dvI {α : Type} (x y : Int32) (K : Int32 → Option α) : Option α := if ¬ y = 0 then K (x / y) else none
def dvJ {α : Type} (x y : Int64) (K : Int64 → Option α) : Option α := if ¬ y = 0 then K (x / y) else none
def rmJ {α : Type} (x y : Int64) (K : Int64 → Option α) : Option α := if ¬ y = 0 then K (x - x / y * y) else none
def cal {α β : Type} (o : Option (α × Mm)) (K : α → Mm → Option β) : Option β := match o with
  | none => none
  | some q => K q.1 q.2
def rz {α : Type} (v : Int32) (o : Option α) : Option α := if v = 0 ∨ v = 1 then o else none
/-! LOOPS: a step's last answer, if it comes to one -/
def fn_run {σ ρ : Type} (f : σ → Option (σ ⊕ ρ)) : Nat → σ → Option ρ
  | 0, _ => none
  | n + 1, x => match f x with
    | none => none
    | some (.inl y) => fn_run f n y
    | some (.inr r) => some r
theorem fn_mono {σ ρ : Type} {f : σ → Option (σ ⊕ ρ)} {r : ρ} : ∀ (n k : Nat) (x : σ), fn_run f n x = some r → fn_run f (n + k) x = some r
  | 0, _, _, h => by cases h
  | n + 1, k, x, h => by
    rw [Nat.add_right_comm]
    unfold fn_run at h ⊢
    revert h
    cases f x with
    | none => intro h; cases h
    | some z => cases z with
      | inl y => exact fn_mono n k y
      | inr q => exact id
theorem fn_one {σ ρ : Type} {f : σ → Option (σ ⊕ ρ)} {x : σ} {r q : ρ} {n k : Nat} (h : fn_run f n x = some r) (h2 : fn_run f k x = some q) : r = q := by
  have a := fn_mono n k x h
  have b := fn_mono k n x h2
  rw [Nat.add_comm] at b
  exact Option.some.inj (a.symm.trans b)
noncomputable def fnl {σ ρ : Type} (f : σ → Option (σ ⊕ ρ)) (x : σ) : Option ρ := @dite _ (∃ r n, fn_run f n x = some r) (Classical.propDecidable _) (fun h => some (Classical.choose h)) (fun _ => none)
theorem fnl_run {σ ρ : Type} {f : σ → Option (σ ⊕ ρ)} {x : σ} {r : ρ} (h : fnl f x = some r) : ∃ n, fn_run f n x = some r := by
  unfold fnl at h
  by_cases hx : ∃ r n, fn_run f n x = some r
  · rw [dif_pos hx] at h
    obtain ⟨n, hn⟩ := Classical.choose_spec hx
    exact ⟨n, hn.trans h⟩
  · rw [dif_neg hx] at h
    cases h
theorem fnl_of {σ ρ : Type} {f : σ → Option (σ ⊕ ρ)} {x : σ} {r : ρ} {n : Nat} (h : fn_run f n x = some r) : fnl f x = some r := by
  have hx : ∃ r n, fn_run f n x = some r := ⟨r, n, h⟩
  unfold fnl
  rw [dif_pos hx]
  obtain ⟨k, hk⟩ := Classical.choose_spec hx
  exact congrArg some (fn_one hk h)
theorem fnl_in {σ ρ : Type} {f : σ → Option (σ ⊕ ρ)} {x y : σ} (h : f x = some (.inl y)) : fnl f x = fnl f y := by
  cases hy : fnl f y with
  | some r =>
    obtain ⟨n, hn⟩ := fnl_run hy
    exact fnl_of (n := n + 1) (by unfold fn_run; rw [h]; exact hn)
  | none =>
    cases hx : fnl f x with
    | none => rfl
    | some r =>
      obtain ⟨n, hn⟩ := fnl_run hx
      cases n with
      | zero => cases hn
      | succ n =>
        unfold fn_run at hn
        rw [h] at hn
        rw [fnl_of hn] at hy
        cases hy
theorem fnl_out {σ ρ : Type} {f : σ → Option (σ ⊕ ρ)} {x : σ} {r : ρ} (h : f x = some (.inr r)) : fnl f x = some r := fnl_of (n := 1) (by unfold fn_run; rw [h])
/-- what holds by every last answer, holds before every step -/
theorem fnl_ind {σ ρ : Type} {f : σ → Option (σ ⊕ ρ)} {r : ρ} (P : σ → Prop) (hP : ∀ x, (∃ w, f x = some w ∧ Sum.elim P (fun q => q = r) w) → P x) {x : σ} (h : fnl f x = some r) : P x := by
  obtain ⟨n, hn⟩ := fnl_run h
  clear h
  induction n generalizing x with
  | zero => cases hn
  | succ n ih =>
    unfold fn_run at hn
    cases hf : f x with
    | none => rw [hf] at hn; cases hn
    | some w =>
      rw [hf] at hn
      cases w with
      | inl y => exact hP x ⟨_, hf, ih hn⟩
      | inr q => exact hP x ⟨_, hf, Option.some.inj hn⟩
/-! THE WORLD: which words hold, how a memory lies in a heap -/
def isNest : Cond → Bool
  | .fieldLinkNest .. => true
  | .methodLinkNest .. => true
  | _ => false
def BG : List Cond := lw_tbl.filter goodWord
def NSW : List Cond := lw_tbl.filter isNest
theorem bg_at {w : Cond} (i : Nat) (h : lw_tbl[i]? = some w) (hg : goodWord w = true) : w ∈ BG := List.mem_filter.mpr ⟨List.mem_of_getElem? h, hg⟩
theorem ns_at {w : Cond} (i : Nat) (h : lw_tbl[i]? = some w) (hg : isNest w = true) : w ∈ NSW := List.mem_filter.mpr ⟨List.mem_of_getElem? h, hg⟩
theorem bg_good {w : Cond} (h : w ∈ BG) : GoodIn BG (w :: BG) := by
  intro v hv
  have hm : v ∈ BG := by
    rcases List.mem_cons.mp hv with e | e
    · rw [e]; exact h
    · exact e
  exact ⟨hm, good_of_word (List.mem_filter.mp hm).2⟩
theorem nest_warm {w : Cond} (h : isNest w = true) {s U : State} (hW : s.WarmedH U.vm) (hZ : va_Nw w s) : va_Nw w U := by
  cases w <;> first | (simp [isNest] at h; done) | exact va_Nw.warmF hW hZ | exact va_Nw.warmM hW hZ
theorem nest_same {w : Cond} (h : isNest w = true) {s U : State} (hW : s.vm = U.vm) (hZ : va_Nw w s) : va_Nw w U := by
  cases w <;> first | (simp [isNest] at h; done) | exact va_Nw.same rfl hW hZ
abbrev GX : Type := va_G × (Nat → Nat) × (Nat → ClassId) × (Nat → Prop)
abbrev SB : Type := (Program × Launch × Env × Room × State × MethodId × Array Value × List Frame × Method × Code) × GX × (State → Prop) × Nat × Nat × Nat
abbrev rf (g : GX) (a : Nat) : Value := .ref (g.2.1 a)
def VK (g : GX) (U : State) : Prop := va_K g.1 vwCl (tysW g.2.2.1) U ∧ ∀ w ∈ NSW, va_Nw w U
/-- the two static arrays -/
def let1 (k : Nat) : Int32 := [112, 103, 116, 98, 109, 99].getD k 0
def par1 (k : Nat) : Int32 := [0, 0, 0, 0, 1, 2].getD k 0
def ZA (g : GX) (k : Nat) (nm : String) (f : Nat → Int32) (U : State) (H : Heap) : Prop := va_Z "CrumbWood" nm "[I" (rf g (NW + k)) g.2.2.2 U H ∧ va_X (g.2.1 (NW + k)) 6 f U H ∧ ¬ g.2.2.2 (g.2.1 (NW + k))
def ZK (g : GX) (U : State) (H : Heap) : Prop := ZA g 0 "LETTERS" let1 U H ∧ ZA g 1 "PARENTS" par1 U H
def IJ (g : GX) : Prop := (∀ i j, i < NW → j < NW → g.2.1 i = g.2.1 j → i = j) ∧ ∀ i, i < NW → g.2.2.2 (g.2.1 i)
def PW (g : GX) (M : Mm) (H : Heap) : Prop := va_P g.1 vwCl (wsM g.2.1 g.2.2.1 M) H
theorem VK.warm {g : GX} {s U : State} (hW : s.WarmedH U.vm) (h : VK g s) : VK g U := ⟨va_K.moved hW.alike h.1, fun w hw => nest_warm (List.mem_filter.mp hw).2 hW (h.2 w hw)⟩
theorem VK.same {g : GX} {s U : State} (hW : s.vm = U.vm) (h : VK g s) : VK g U := ⟨va_K.moved (by rw [hW]; exact Vm.Alike.refl _) h.1, fun w hw => nest_same (List.mem_filter.mp hw).2 hW (h.2 w hw)⟩
theorem ZA.to {g : GX} {k : Nat} {nm : String} {f : Nat → Int32} {s U : State} {H H1 : Heap} (hvm : s.vm.Alike U.vm) (hq : ∀ a : Nat, a < H.size → ¬ g.2.2.2 a → H1[a]? = H[a]?) (h : ZA g k nm f s H) : ZA g k nm f U H1 := by
  obtain ⟨h1, h2, h3⟩ := h
  have hlt : g.2.1 (NW + k) < H.size := by
    obtain ⟨scr, q, -⟩ := h2
    exact (Array.getElem?_eq_some_iff.mp q).1
  exact ⟨va_Z.kept (va_Z.moved hvm h1) hq, va_X.kept (va_X.moved hvm h2) (hq _ hlt h3), h3⟩
theorem ZK.to {g : GX} {s U : State} {H H1 : Heap} (hvm : s.vm.Alike U.vm) (hq : ∀ a : Nat, a < H.size → ¬ g.2.2.2 a → H1[a]? = H[a]?) (h : ZK g s H) : ZK g U H1 := ⟨h.1.to hvm hq, h.2.to hvm hq⟩
theorem wsM_D {g : GX} (hJ : IJ g) (M : Mm) : va_D g.2.2.2 (wsM g.2.1 g.2.2.1 M) := by
  have key : ∀ (i : Nat) (p : Nat × va_E), (wsM g.2.1 g.2.2.1 M)[i]? = some p → i < NW ∧ p.1 = g.2.1 i := by
    intro i p hp
    have hi : i < NW := by
      have := (List.getElem?_eq_some_iff.mp hp).1
      simpa [wsM] using this
    rw [wsM_at _ _ _ hi] at hp
    exact ⟨hi, by rw [← Option.some.inj hp]⟩
  refine ⟨fun i j p q hp hq h => ?_, fun k q hk => ?_⟩
  · obtain ⟨h1, e1⟩ := key i p hp
    obtain ⟨h2, e2⟩ := key j q hq
    exact hJ.1 i j h1 h2 (by rw [← e1, ← e2]; exact h)
  · obtain ⟨h1, e1⟩ := key k q hk
    rw [e1]
    exact hJ.2 k h1
def rmd (d : Nat) : Room := { frames := d, cells := 0, slots := 0, locals := 39 * d }
def wy (y : MethodName) (cc : ByteArray) (maxL : Nat) (ret : Option FieldType) : List Cond := .code y cc maxL ret :: BG
def Pm (g : GX) (As : List Value) (M : Mm) : Array Value → State → Prop := va_Pc As (fun U => PW g M U.heap ∧ VK g U ∧ ZK g U U.heap)
def Qm (g : GX) (rv : Option Value) (M1 : Mm) : Array Value → State → Outcome → State → Prop := fun _ st oc t => oc = .returned rv ∧ PW g M1 t.heap ∧ va_F g.2.2.2 st t
/-- a method's contract: what its function answers, the machine answers -/
def CT {α : Type} (l : Launch) (g : GX) (y : MethodName) (cc : ByteArray) (maxL : Nat) (ret : Option FieldType) (d : Nat) (As : List Value) (M : Mm) (f : Option (α × Mm)) (mk : α → Option Value) : Prop :=
  ∀ r M1, f = some (r, M1) → Met l y (wy y cc maxL ret) (rmd d) (Pm g As M) (Qm g (mk r) M1) 0 0 g.2.2.2
def CX (x : SB) (cc : ByteArray) (own : String) (d : Nat) : Prop := match x with
  | ((p, l, e, R, s, m, args, below, meth, c), g, Q, nL, cells, slots) => p.tables.exec = Jvm.exec ∧ c.code = cc ∧ c.maxLocals = nL ∧ s.vm.findClass own = some m.cls ∧ (∀ w ∈ BG, w.before args s = true) ∧ (d ≤ R.frames ∧ 39 * d ≤ R.locals ∧ cells ≤ R.cells ∧ slots ≤ R.slots) ∧ VK g s ∧ ZK g s s.heap ∧ IJ g
def SW (x : SB) (H : Heap) (locs : List Loc) (pc : Nat) (ls : Array Slot) (st : List Value) : Prop := match x with
  | ((p, l, e, R, s, m, args, below, meth, c), g, Q, nL, cells, slots) => W p l e R s m args below meth c H locs cells slots Q (F0 m pc ls st)
def SH (x : SB) (H : Heap) (locs : List Loc) : Prop := va_S x.2.1.2.2.2 x.1.2.2.2.2.1.heap H locs
def SIM {α : Type} (x : SB) (F : α → Prop) (o : Option α) (pc : Nat) (lv : List (Nat × Value)) (st : List Value) (M : Mm) : Prop :=
  (∃ w, o = some w ∧ F w) → ∀ (ls : Array Slot) (H : Heap) (locs : List Loc), lv_has ls x.2.2.2.1 lv → PW x.2.1 M H → SH x H locs → SW x H locs pc ls st
theorem CX.J {x : SB} {cc : ByteArray} {own : String} {d : Nat} (X : CX x cc own d) : IJ x.2.1 := X.2.2.2.2.2.2.2.2
end
section
theorem nest_on {w : Cond} (h : isNest w = true) : w.onTables = true := by
  cases w <;> first | (simp [isNest] at h; done) | rfl
section
variable {α : Type} {x : SB} {F : α → Prop} {o : Option α} {cc : ByteArray} {own : String} {d pc : Nat} {lv : List (Nat × Value)} {st : List Value} {M : Mm}
theorem r_iconst {n : Int} {v : Int32} (X : CX x cc own d) (hd : decode cc pc = .ok (.iconst n, 1)) (hv : Int32.ofInt n = v) (kk : SIM x F o (pc + 1) lv (.int v :: st) M) : SIM x F o pc lv (st) M := by
  obtain ⟨⟨p, l, e, R, s, m, args, below, meth, c⟩, g, Q, nL, cells, slots⟩ := x
  obtain ⟨hx, hb, hml, hown, hts, hR, hV, hZ, hJ⟩ := id X
  intro ho ls H locs hl hP hS
  exact lv_iconst hx hb hd hv (kk ho ls H locs hl hP hS)
theorem r_bipush {n : Int} {v : Int32} (X : CX x cc own d) (hd : decode cc pc = .ok (.bipush n, 2)) (hv : (Int8.ofInt n).toInt32 = v) (kk : SIM x F o (pc + 2) lv (.int v :: st) M) : SIM x F o pc lv (st) M := by
  obtain ⟨⟨p, l, e, R, s, m, args, below, meth, c⟩, g, Q, nL, cells, slots⟩ := x
  obtain ⟨hx, hb, hml, hown, hts, hR, hV, hZ, hJ⟩ := id X
  intro ho ls H locs hl hP hS
  exact lv_bipush hx hb hd hv (kk ho ls H locs hl hP hS)
theorem r_sipush {n : Int} {v : Int32} (X : CX x cc own d) (hd : decode cc pc = .ok (.sipush n, 3)) (hv : (Int16.ofInt n).toInt32 = v) (kk : SIM x F o (pc + 3) lv (.int v :: st) M) : SIM x F o pc lv (st) M := by
  obtain ⟨⟨p, l, e, R, s, m, args, below, meth, c⟩, g, Q, nL, cells, slots⟩ := x
  obtain ⟨hx, hb, hml, hown, hts, hR, hV, hZ, hJ⟩ := id X
  intro ho ls H locs hl hP hS
  exact lv_sipush hx hb hd hv (kk ho ls H locs hl hP hS)
theorem r_lconst {n : Fin 2} {v : Int64} (X : CX x cc own d) (hd : decode cc pc = .ok (.lconst n, 1)) (hv : Int64.ofNat (n : Nat) = v) (kk : SIM x F o (pc + 1) lv (.long v :: st) M) : SIM x F o pc lv (st) M := by
  obtain ⟨⟨p, l, e, R, s, m, args, below, meth, c⟩, g, Q, nL, cells, slots⟩ := x
  obtain ⟨hx, hb, hml, hown, hts, hR, hV, hZ, hJ⟩ := id X
  intro ho ls H locs hl hP hS
  exact lv_lconst hx hb hd hv (kk ho ls H locs hl hP hS)
theorem r_ldcw {i : Nat} {v : Int32} (X : CX x cc own d) (hd : decode cc pc = .ok (.ldc_w i, 3)) (hc : Cond.constant own i v ∈ BG) (kk : SIM x F o (pc + 3) lv (.int v :: st) M) : SIM x F o pc lv (st) M := by
  obtain ⟨⟨p, l, e, R, s, m, args, below, meth, c⟩, g, Q, nL, cells, slots⟩ := x
  obtain ⟨hx, hb, hml, hown, hts, hR, hV, hZ, hJ⟩ := id X
  intro ho ls H locs hl hP hS
  exact lv_ldcw hx hb hown (hts _ hc) hd (kk ho ls H locs hl hP hS)
theorem r_ldc2 {i : Nat} {v : Int64} (X : CX x cc own d) (hd : decode cc pc = .ok (.ldc2_w i, 3)) (hc : Cond.constantLong own i v ∈ BG) (kk : SIM x F o (pc + 3) lv (.long v :: st) M) : SIM x F o pc lv (st) M := by
  obtain ⟨⟨p, l, e, R, s, m, args, below, meth, c⟩, g, Q, nL, cells, slots⟩ := x
  obtain ⟨hx, hb, hml, hown, hts, hR, hV, hZ, hJ⟩ := id X
  intro ho ls H locs hl hP hS
  exact lv_ldc2 hx hb hown (hts _ hc) hd (kk ho ls H locs hl hP hS)
theorem r_iload_n {k : Fin 4} {i : Nat} {v : Int32} (X : CX x cc own d) (hd : decode cc pc = .ok (.iload_n k, 1)) (hi : (k : Nat) = i) (j : Nat) (hj : lv[j]? = some (i, .int v)) (kk : SIM x F o (pc + 1) lv (.int v :: st) M) : SIM x F o pc lv (st) M := by
  obtain ⟨⟨p, l, e, R, s, m, args, below, meth, c⟩, g, Q, nL, cells, slots⟩ := x
  obtain ⟨hx, hb, hml, hown, hts, hR, hV, hZ, hJ⟩ := id X
  intro ho ls H locs hl hP hS
  exact lv_iload_n hx hb hd hi (lv_at hl j hj) (kk ho ls H locs hl hP hS)
theorem r_iload {i : Nat} {v : Int32} (X : CX x cc own d) (hd : decode cc pc = .ok (.iload i, 2)) (j : Nat) (hj : lv[j]? = some (i, .int v)) (kk : SIM x F o (pc + 2) lv (.int v :: st) M) : SIM x F o pc lv (st) M := by
  obtain ⟨⟨p, l, e, R, s, m, args, below, meth, c⟩, g, Q, nL, cells, slots⟩ := x
  obtain ⟨hx, hb, hml, hown, hts, hR, hV, hZ, hJ⟩ := id X
  intro ho ls H locs hl hP hS
  exact lv_iload hx hb hd (lv_at hl j hj) (kk ho ls H locs hl hP hS)
theorem r_lload_n {k : Fin 4} {i : Nat} {v : Int64} (X : CX x cc own d) (hd : decode cc pc = .ok (.lload_n k, 1)) (hi : (k : Nat) = i) (j : Nat) (hj : lv[j]? = some (i, .long v)) (kk : SIM x F o (pc + 1) lv (.long v :: st) M) : SIM x F o pc lv (st) M := by
  obtain ⟨⟨p, l, e, R, s, m, args, below, meth, c⟩, g, Q, nL, cells, slots⟩ := x
  obtain ⟨hx, hb, hml, hown, hts, hR, hV, hZ, hJ⟩ := id X
  intro ho ls H locs hl hP hS
  exact lv_lload_n hx hb hd hi (lv_at hl j hj) (kk ho ls H locs hl hP hS)
theorem r_lload {i : Nat} {v : Int64} (X : CX x cc own d) (hd : decode cc pc = .ok (.lload i, 2)) (j : Nat) (hj : lv[j]? = some (i, .long v)) (kk : SIM x F o (pc + 2) lv (.long v :: st) M) : SIM x F o pc lv (st) M := by
  obtain ⟨⟨p, l, e, R, s, m, args, below, meth, c⟩, g, Q, nL, cells, slots⟩ := x
  obtain ⟨hx, hb, hml, hown, hts, hR, hV, hZ, hJ⟩ := id X
  intro ho ls H locs hl hP hS
  exact lv_lload hx hb hd (lv_at hl j hj) (kk ho ls H locs hl hP hS)
theorem r_aload_n {k : Fin 4} {i : Nat} {v : Nat} (X : CX x cc own d) (hd : decode cc pc = .ok (.aload_n k, 1)) (hi : (k : Nat) = i) (j : Nat) (hj : lv[j]? = some (i, .ref v)) (kk : SIM x F o (pc + 1) lv (.ref v :: st) M) : SIM x F o pc lv (st) M := by
  obtain ⟨⟨p, l, e, R, s, m, args, below, meth, c⟩, g, Q, nL, cells, slots⟩ := x
  obtain ⟨hx, hb, hml, hown, hts, hR, hV, hZ, hJ⟩ := id X
  intro ho ls H locs hl hP hS
  exact lv_aload_n hx hb hd hi (lv_at hl j hj) (kk ho ls H locs hl hP hS)
theorem r_aload {i : Nat} {v : Nat} (X : CX x cc own d) (hd : decode cc pc = .ok (.aload i, 2)) (j : Nat) (hj : lv[j]? = some (i, .ref v)) (kk : SIM x F o (pc + 2) lv (.ref v :: st) M) : SIM x F o pc lv (st) M := by
  obtain ⟨⟨p, l, e, R, s, m, args, below, meth, c⟩, g, Q, nL, cells, slots⟩ := x
  obtain ⟨hx, hb, hml, hown, hts, hR, hV, hZ, hJ⟩ := id X
  intro ho ls H locs hl hP hS
  exact lv_aload hx hb hd (lv_at hl j hj) (kk ho ls H locs hl hP hS)
theorem r_istore_n {k : Fin 4} {i : Nat} {v : Int32} (lv2 : List (Nat × Value)) (X : CX x cc own d) (hd : decode cc pc = .ok (.istore_n k, 1)) (hi : (k : Nat) = i) (hn : i < x.2.2.2.1) (h2 : (i, Value.int v) :: lv.filter (fun q => !(q.1 == i) && !(q.1 + 1 == i && q.2.category == 2)) = lv2) (kk : SIM x F o (pc + 1) lv2 st M) : SIM x F o pc lv (.int v :: st) M := by
  obtain ⟨⟨p, l, e, R, s, m, args, below, meth, c⟩, g, Q, nL, cells, slots⟩ := x
  obtain ⟨hx, hb, hml, hown, hts, hR, hV, hZ, hJ⟩ := id X
  intro ho ls H locs hl hP hS
  exact lv_istore_n hx hb hd hi hl hn h2 (fun ls hl => kk ho ls H locs hl hP hS)
theorem r_istore {i : Nat} {v : Int32} (lv2 : List (Nat × Value)) (X : CX x cc own d) (hd : decode cc pc = .ok (.istore i, 2)) (hn : i < x.2.2.2.1) (h2 : (i, Value.int v) :: lv.filter (fun q => !(q.1 == i) && !(q.1 + 1 == i && q.2.category == 2)) = lv2) (kk : SIM x F o (pc + 2) lv2 st M) : SIM x F o pc lv (.int v :: st) M := by
  obtain ⟨⟨p, l, e, R, s, m, args, below, meth, c⟩, g, Q, nL, cells, slots⟩ := x
  obtain ⟨hx, hb, hml, hown, hts, hR, hV, hZ, hJ⟩ := id X
  intro ho ls H locs hl hP hS
  exact lv_istore hx hb hd hl hn h2 (fun ls hl => kk ho ls H locs hl hP hS)
theorem r_lstore_n {k : Fin 4} {i : Nat} {v : Int64} (lv2 : List (Nat × Value)) (X : CX x cc own d) (hd : decode cc pc = .ok (.lstore_n k, 1)) (hi : (k : Nat) = i) (hn : i + 1 < x.2.2.2.1) (h2 : (i, Value.long v) :: lv.filter (fun q => !(q.1 == i) && (!(q.1 == i + 1) && !(q.1 + 1 == i && q.2.category == 2))) = lv2) (kk : SIM x F o (pc + 1) lv2 st M) : SIM x F o pc lv (.long v :: st) M := by
  obtain ⟨⟨p, l, e, R, s, m, args, below, meth, c⟩, g, Q, nL, cells, slots⟩ := x
  obtain ⟨hx, hb, hml, hown, hts, hR, hV, hZ, hJ⟩ := id X
  intro ho ls H locs hl hP hS
  exact lv_lstore_n hx hb hd hi hl hn h2 (fun ls hl => kk ho ls H locs hl hP hS)
theorem r_lstore {i : Nat} {v : Int64} (lv2 : List (Nat × Value)) (X : CX x cc own d) (hd : decode cc pc = .ok (.lstore i, 2)) (hn : i + 1 < x.2.2.2.1) (h2 : (i, Value.long v) :: lv.filter (fun q => !(q.1 == i) && (!(q.1 == i + 1) && !(q.1 + 1 == i && q.2.category == 2))) = lv2) (kk : SIM x F o (pc + 2) lv2 st M) : SIM x F o pc lv (.long v :: st) M := by
  obtain ⟨⟨p, l, e, R, s, m, args, below, meth, c⟩, g, Q, nL, cells, slots⟩ := x
  obtain ⟨hx, hb, hml, hown, hts, hR, hV, hZ, hJ⟩ := id X
  intro ho ls H locs hl hP hS
  exact lv_lstore hx hb hd hl hn h2 (fun ls hl => kk ho ls H locs hl hP hS)
theorem r_astore_n {k : Fin 4} {i : Nat} {v : Nat} (lv2 : List (Nat × Value)) (X : CX x cc own d) (hd : decode cc pc = .ok (.astore_n k, 1)) (hi : (k : Nat) = i) (hn : i < x.2.2.2.1) (h2 : (i, Value.ref v) :: lv.filter (fun q => !(q.1 == i) && !(q.1 + 1 == i && q.2.category == 2)) = lv2) (kk : SIM x F o (pc + 1) lv2 st M) : SIM x F o pc lv (.ref v :: st) M := by
  obtain ⟨⟨p, l, e, R, s, m, args, below, meth, c⟩, g, Q, nL, cells, slots⟩ := x
  obtain ⟨hx, hb, hml, hown, hts, hR, hV, hZ, hJ⟩ := id X
  intro ho ls H locs hl hP hS
  exact lv_astore_n hx hb hd hi hl hn h2 (fun ls hl => kk ho ls H locs hl hP hS)
theorem r_astore {i : Nat} {v : Nat} (lv2 : List (Nat × Value)) (X : CX x cc own d) (hd : decode cc pc = .ok (.astore i, 2)) (hn : i < x.2.2.2.1) (h2 : (i, Value.ref v) :: lv.filter (fun q => !(q.1 == i) && !(q.1 + 1 == i && q.2.category == 2)) = lv2) (kk : SIM x F o (pc + 2) lv2 st M) : SIM x F o pc lv (.ref v :: st) M := by
  obtain ⟨⟨p, l, e, R, s, m, args, below, meth, c⟩, g, Q, nL, cells, slots⟩ := x
  obtain ⟨hx, hb, hml, hown, hts, hR, hV, hZ, hJ⟩ := id X
  intro ho ls H locs hl hP hS
  exact lv_astore hx hb hd hl hn h2 (fun ls hl => kk ho ls H locs hl hP hS)
theorem r_iinc {i : Nat} {n : Int} {y v : Int32} (lv2 : List (Nat × Value)) (X : CX x cc own d) (hd : decode cc pc = .ok (.iinc i n, 3)) (j : Nat) (hj : lv[j]? = some (i, .int y)) (hv : y + Int32.ofInt n = v) (hn : i < x.2.2.2.1) (h2 : (i, Value.int v) :: lv.filter (fun q => !(q.1 == i) && !(q.1 + 1 == i && q.2.category == 2)) = lv2) (kk : SIM x F o (pc + 3) lv2 st M) : SIM x F o pc lv (st) M := by
  obtain ⟨⟨p, l, e, R, s, m, args, below, meth, c⟩, g, Q, nL, cells, slots⟩ := x
  obtain ⟨hx, hb, hml, hown, hts, hR, hV, hZ, hJ⟩ := id X
  intro ho ls H locs hl hP hS
  exact lv_iinc hx hb hd hl hj hv hn h2 (fun ls hl => kk ho ls H locs hl hP hS)
theorem r_iadd {x1 y : Int32} (X : CX x cc own d) (hd : decode cc pc = .ok (.iadd, 1)) (kk : SIM x F o (pc + 1) lv (.int (x1 + y) :: st) M) : SIM x F o pc lv (.int y :: .int x1 :: st) M := by
  obtain ⟨⟨p, l, e, R, s, m, args, below, meth, c⟩, g, Q, nL, cells, slots⟩ := x
  obtain ⟨hx, hb, hml, hown, hts, hR, hV, hZ, hJ⟩ := id X
  intro ho ls H locs hl hP hS
  exact lv_iadd hx hb hd (kk ho ls H locs hl hP hS)
theorem r_isub {x1 y : Int32} (X : CX x cc own d) (hd : decode cc pc = .ok (.isub, 1)) (kk : SIM x F o (pc + 1) lv (.int (x1 - y) :: st) M) : SIM x F o pc lv (.int y :: .int x1 :: st) M := by
  obtain ⟨⟨p, l, e, R, s, m, args, below, meth, c⟩, g, Q, nL, cells, slots⟩ := x
  obtain ⟨hx, hb, hml, hown, hts, hR, hV, hZ, hJ⟩ := id X
  intro ho ls H locs hl hP hS
  exact lv_isub hx hb hd (kk ho ls H locs hl hP hS)
theorem r_imul {x1 y : Int32} (X : CX x cc own d) (hd : decode cc pc = .ok (.imul, 1)) (kk : SIM x F o (pc + 1) lv (.int (x1 * y) :: st) M) : SIM x F o pc lv (.int y :: .int x1 :: st) M := by
  obtain ⟨⟨p, l, e, R, s, m, args, below, meth, c⟩, g, Q, nL, cells, slots⟩ := x
  obtain ⟨hx, hb, hml, hown, hts, hR, hV, hZ, hJ⟩ := id X
  intro ho ls H locs hl hP hS
  exact lv_imul hx hb hd (kk ho ls H locs hl hP hS)
theorem r_iand {x1 y : Int32} (X : CX x cc own d) (hd : decode cc pc = .ok (.iand, 1)) (kk : SIM x F o (pc + 1) lv (.int (x1 &&& y) :: st) M) : SIM x F o pc lv (.int y :: .int x1 :: st) M := by
  obtain ⟨⟨p, l, e, R, s, m, args, below, meth, c⟩, g, Q, nL, cells, slots⟩ := x
  obtain ⟨hx, hb, hml, hown, hts, hR, hV, hZ, hJ⟩ := id X
  intro ho ls H locs hl hP hS
  exact lv_iand hx hb hd (kk ho ls H locs hl hP hS)
theorem r_ior {x1 y : Int32} (X : CX x cc own d) (hd : decode cc pc = .ok (.ior, 1)) (kk : SIM x F o (pc + 1) lv (.int (x1 ||| y) :: st) M) : SIM x F o pc lv (.int y :: .int x1 :: st) M := by
  obtain ⟨⟨p, l, e, R, s, m, args, below, meth, c⟩, g, Q, nL, cells, slots⟩ := x
  obtain ⟨hx, hb, hml, hown, hts, hR, hV, hZ, hJ⟩ := id X
  intro ho ls H locs hl hP hS
  exact lv_ior hx hb hd (kk ho ls H locs hl hP hS)
theorem r_ixor {x1 y : Int32} (X : CX x cc own d) (hd : decode cc pc = .ok (.ixor, 1)) (kk : SIM x F o (pc + 1) lv (.int (x1 ^^^ y) :: st) M) : SIM x F o pc lv (.int y :: .int x1 :: st) M := by
  obtain ⟨⟨p, l, e, R, s, m, args, below, meth, c⟩, g, Q, nL, cells, slots⟩ := x
  obtain ⟨hx, hb, hml, hown, hts, hR, hV, hZ, hJ⟩ := id X
  intro ho ls H locs hl hP hS
  exact lv_ixor hx hb hd (kk ho ls H locs hl hP hS)
theorem r_ishl {x1 y : Int32} (X : CX x cc own d) (hd : decode cc pc = .ok (.ishl, 1)) (kk : SIM x F o (pc + 1) lv (.int (x1 <<< (y &&& 31)) :: st) M) : SIM x F o pc lv (.int y :: .int x1 :: st) M := by
  obtain ⟨⟨p, l, e, R, s, m, args, below, meth, c⟩, g, Q, nL, cells, slots⟩ := x
  obtain ⟨hx, hb, hml, hown, hts, hR, hV, hZ, hJ⟩ := id X
  intro ho ls H locs hl hP hS
  exact lv_ishl hx hb hd (kk ho ls H locs hl hP hS)
theorem r_ishr {x1 y : Int32} (X : CX x cc own d) (hd : decode cc pc = .ok (.ishr, 1)) (kk : SIM x F o (pc + 1) lv (.int (x1 >>> (y &&& 31)) :: st) M) : SIM x F o pc lv (.int y :: .int x1 :: st) M := by
  obtain ⟨⟨p, l, e, R, s, m, args, below, meth, c⟩, g, Q, nL, cells, slots⟩ := x
  obtain ⟨hx, hb, hml, hown, hts, hR, hV, hZ, hJ⟩ := id X
  intro ho ls H locs hl hP hS
  exact lv_ishr hx hb hd (kk ho ls H locs hl hP hS)
theorem r_iushr {x1 y : Int32} (X : CX x cc own d) (hd : decode cc pc = .ok (.iushr, 1)) (kk : SIM x F o (pc + 1) lv (.int (x1.toUInt32 >>> (y.toUInt32 &&& Int32.toUInt32 31)).toInt32 :: st) M) : SIM x F o pc lv (.int y :: .int x1 :: st) M := by
  obtain ⟨⟨p, l, e, R, s, m, args, below, meth, c⟩, g, Q, nL, cells, slots⟩ := x
  obtain ⟨hx, hb, hml, hown, hts, hR, hV, hZ, hJ⟩ := id X
  intro ho ls H locs hl hP hS
  exact lv_iushr hx hb hd rfl (kk ho ls H locs hl hP hS)
theorem r_ineg {y : Int32} (X : CX x cc own d) (hd : decode cc pc = .ok (.ineg, 1)) (kk : SIM x F o (pc + 1) lv (.int (-y) :: st) M) : SIM x F o pc lv (.int y :: st) M := by
  obtain ⟨⟨p, l, e, R, s, m, args, below, meth, c⟩, g, Q, nL, cells, slots⟩ := x
  obtain ⟨hx, hb, hml, hown, hts, hR, hV, hZ, hJ⟩ := id X
  intro ho ls H locs hl hP hS
  exact lv_ineg hx hb hd (kk ho ls H locs hl hP hS)
theorem r_i2l {y : Int32} (X : CX x cc own d) (hd : decode cc pc = .ok (.i2l, 1)) (kk : SIM x F o (pc + 1) lv (.long y.toInt64 :: st) M) : SIM x F o pc lv (.int y :: st) M := by
  obtain ⟨⟨p, l, e, R, s, m, args, below, meth, c⟩, g, Q, nL, cells, slots⟩ := x
  obtain ⟨hx, hb, hml, hown, hts, hR, hV, hZ, hJ⟩ := id X
  intro ho ls H locs hl hP hS
  exact lv_i2l hx hb hd rfl (kk ho ls H locs hl hP hS)
theorem r_l2i {y : Int64} (X : CX x cc own d) (hd : decode cc pc = .ok (.l2i, 1)) (kk : SIM x F o (pc + 1) lv (.int y.toInt32 :: st) M) : SIM x F o pc lv (.long y :: st) M := by
  obtain ⟨⟨p, l, e, R, s, m, args, below, meth, c⟩, g, Q, nL, cells, slots⟩ := x
  obtain ⟨hx, hb, hml, hown, hts, hR, hV, hZ, hJ⟩ := id X
  intro ho ls H locs hl hP hS
  exact lv_l2i hx hb hd rfl (kk ho ls H locs hl hP hS)
theorem r_i2b {y : Int32} (X : CX x cc own d) (hd : decode cc pc = .ok (.i2b, 1)) (kk : SIM x F o (pc + 1) lv (.int y.toInt8.toInt32 :: st) M) : SIM x F o pc lv (.int y :: st) M := by
  obtain ⟨⟨p, l, e, R, s, m, args, below, meth, c⟩, g, Q, nL, cells, slots⟩ := x
  obtain ⟨hx, hb, hml, hown, hts, hR, hV, hZ, hJ⟩ := id X
  intro ho ls H locs hl hP hS
  exact lv_i2b hx hb hd rfl (kk ho ls H locs hl hP hS)
theorem r_ladd {x1 y : Int64} (X : CX x cc own d) (hd : decode cc pc = .ok (.ladd, 1)) (kk : SIM x F o (pc + 1) lv (.long (x1 + y) :: st) M) : SIM x F o pc lv (.long y :: .long x1 :: st) M := by
  obtain ⟨⟨p, l, e, R, s, m, args, below, meth, c⟩, g, Q, nL, cells, slots⟩ := x
  obtain ⟨hx, hb, hml, hown, hts, hR, hV, hZ, hJ⟩ := id X
  intro ho ls H locs hl hP hS
  exact lv_ladd hx hb hd (kk ho ls H locs hl hP hS)
theorem r_lmul {x1 y : Int64} (X : CX x cc own d) (hd : decode cc pc = .ok (.lmul, 1)) (kk : SIM x F o (pc + 1) lv (.long (x1 * y) :: st) M) : SIM x F o pc lv (.long y :: .long x1 :: st) M := by
  obtain ⟨⟨p, l, e, R, s, m, args, below, meth, c⟩, g, Q, nL, cells, slots⟩ := x
  obtain ⟨hx, hb, hml, hown, hts, hR, hV, hZ, hJ⟩ := id X
  intro ho ls H locs hl hP hS
  exact lv_lmul hx hb hd (kk ho ls H locs hl hP hS)
theorem r_lshl {x1 : Int64} {y : Int32} (X : CX x cc own d) (hd : decode cc pc = .ok (.lshl, 1)) (kk : SIM x F o (pc + 1) lv (.long (x1 <<< (y.toInt64 &&& 63)) :: st) M) : SIM x F o pc lv (.int y :: .long x1 :: st) M := by
  obtain ⟨⟨p, l, e, R, s, m, args, below, meth, c⟩, g, Q, nL, cells, slots⟩ := x
  obtain ⟨hx, hb, hml, hown, hts, hR, hV, hZ, hJ⟩ := id X
  intro ho ls H locs hl hP hS
  exact lv_lshl hx hb hd rfl (kk ho ls H locs hl hP hS)
theorem r_lcmp {x1 y : Int64} (X : CX x cc own d) (hd : decode cc pc = .ok (.lcmp, 1)) (kk : SIM x F o (pc + 1) lv (.int (lg_cmp x1 y) :: st) M) : SIM x F o pc lv (.long y :: .long x1 :: st) M := by
  obtain ⟨⟨p, l, e, R, s, m, args, below, meth, c⟩, g, Q, nL, cells, slots⟩ := x
  obtain ⟨hx, hb, hml, hown, hts, hR, hV, hZ, hJ⟩ := id X
  intro ho ls H locs hl hP hS
  exact W.lcmp hx hb hd (kk ho ls H locs hl hP hS)
theorem r_idiv {x1 y : Int32} {K : Int32 → Option α} (X : CX x cc own d) (hd : decode cc pc = .ok (.idiv, 1)) (kk : ∀ v, SIM x F (K v) (pc + 1) lv (.int v :: st) M) : SIM x F (dvI x1 y K) pc lv (.int y :: .int x1 :: st) M := by
  obtain ⟨⟨p, l, e, R, s, m, args, below, meth, c⟩, g, Q, nL, cells, slots⟩ := x
  obtain ⟨hx, hb, hml, hown, hts, hR, hV, hZ, hJ⟩ := id X
  intro ho ls H locs hl hP hS
  obtain ⟨w, ho, hF⟩ := ho
  unfold dvI at ho
  by_cases h0 : ¬ y = 0
  · rw [if_pos h0] at ho
    exact lv_idiv hx hb hd h0 (kk _ ⟨w, ho, hF⟩ ls H locs hl hP hS)
  · rw [if_neg h0] at ho
    cases ho
theorem r_ldiv {x1 y : Int64} {K : Int64 → Option α} (X : CX x cc own d) (hd : decode cc pc = .ok (.ldiv, 1)) (kk : ∀ v, SIM x F (K v) (pc + 1) lv (.long v :: st) M) : SIM x F (dvJ x1 y K) pc lv (.long y :: .long x1 :: st) M := by
  obtain ⟨⟨p, l, e, R, s, m, args, below, meth, c⟩, g, Q, nL, cells, slots⟩ := x
  obtain ⟨hx, hb, hml, hown, hts, hR, hV, hZ, hJ⟩ := id X
  intro ho ls H locs hl hP hS
  obtain ⟨w, ho, hF⟩ := ho
  unfold dvJ at ho
  by_cases h0 : ¬ y = 0
  · rw [if_pos h0] at ho
    exact lv_ldiv hx hb hd h0 (kk _ ⟨w, ho, hF⟩ ls H locs hl hP hS)
  · rw [if_neg h0] at ho
    cases ho
theorem r_lrem {x1 y : Int64} {K : Int64 → Option α} (X : CX x cc own d) (hd : decode cc pc = .ok (.lrem, 1)) (kk : ∀ v, SIM x F (K v) (pc + 1) lv (.long v :: st) M) : SIM x F (rmJ x1 y K) pc lv (.long y :: .long x1 :: st) M := by
  obtain ⟨⟨p, l, e, R, s, m, args, below, meth, c⟩, g, Q, nL, cells, slots⟩ := x
  obtain ⟨hx, hb, hml, hown, hts, hR, hV, hZ, hJ⟩ := id X
  intro ho ls H locs hl hP hS
  obtain ⟨w, ho, hF⟩ := ho
  unfold rmJ at ho
  by_cases h0 : ¬ y = 0
  · rw [if_pos h0] at ho
    exact lv_lrem hx hb hd h0 (kk _ ⟨w, ho, hF⟩ ls H locs hl hP hS)
  · rw [if_neg h0] at ho
    cases ho
theorem r_dup {v : Value} (X : CX x cc own d) (hd : decode cc pc = .ok (.dup, 1)) (hc : v.category = 1) (kk : SIM x F o (pc + 1) lv (v :: v :: st) M) : SIM x F o pc lv (v :: st) M := by
  obtain ⟨⟨p, l, e, R, s, m, args, below, meth, c⟩, g, Q, nL, cells, slots⟩ := x
  obtain ⟨hx, hb, hml, hown, hts, hR, hV, hZ, hJ⟩ := id X
  intro ho ls H locs hl hP hS
  exact lv_dup hx hb hd hc (kk ho ls H locs hl hP hS)
theorem r_pop {v : Value} (X : CX x cc own d) (hd : decode cc pc = .ok (.pop, 1)) (hc : v.category = 1) (kk : SIM x F o (pc + 1) lv (st) M) : SIM x F o pc lv (v :: st) M := by
  obtain ⟨⟨p, l, e, R, s, m, args, below, meth, c⟩, g, Q, nL, cells, slots⟩ := x
  obtain ⟨hx, hb, hml, hown, hts, hR, hV, hZ, hJ⟩ := id X
  intro ho ls H locs hl hP hS
  exact lv_pop hx hb hd hc (kk ho ls H locs hl hP hS)
theorem r_dup2 {v w : Value} (X : CX x cc own d) (hd : decode cc pc = .ok (.dup2, 1)) (hc : v.category = 1) (hc2 : w.category = 1) (kk : SIM x F o (pc + 1) lv (v :: w :: v :: w :: st) M) : SIM x F o pc lv (v :: w :: st) M := by
  obtain ⟨⟨p, l, e, R, s, m, args, below, meth, c⟩, g, Q, nL, cells, slots⟩ := x
  obtain ⟨hx, hb, hml, hown, hts, hR, hV, hZ, hJ⟩ := id X
  intro ho ls H locs hl hP hS
  exact lv_dup2_11 hx hb hd hc hc2 (kk ho ls H locs hl hP hS)
theorem r_icmp_eq {x1 y : Int32} {off : Int} {o1 o2 : Option α} (tgt : Nat) (X : CX x cc own d) (hd : decode cc pc = .ok (.if_icmp .eq off, 3)) (ht : (pc : Int) + off = (tgt : Int)) (kt : SIM x F o1 tgt lv st M) (kf : SIM x F o2 (pc + 3) lv st M) : SIM x F (if x1 = y then o1 else o2) pc lv (.int y :: .int x1 :: st) M := by
  obtain ⟨⟨p, l, e, R, s, m, args, below, meth, c⟩, g, Q, nL, cells, slots⟩ := x
  obtain ⟨hx, hb, hml, hown, hts, hR, hV, hZ, hJ⟩ := id X
  intro ho ls H locs hl hP hS
  obtain ⟨w, ho, hF⟩ := ho
  refine lv_icmp_eq hx hb hd ht (fun h => ?_) (fun h => ?_)
  · rw [if_pos h] at ho
    exact kt ⟨w, ho, hF⟩ ls H locs hl hP hS
  · rw [if_neg h] at ho
    exact kf ⟨w, ho, hF⟩ ls H locs hl hP hS
theorem r_if_eq {x1 : Int32} {off : Int} {o1 o2 : Option α} (tgt : Nat) (X : CX x cc own d) (hd : decode cc pc = .ok (.ifCond .eq off, 3)) (ht : (pc : Int) + off = (tgt : Int)) (kt : SIM x F o1 tgt lv st M) (kf : SIM x F o2 (pc + 3) lv st M) : SIM x F (if x1 = 0 then o1 else o2) pc lv (.int x1 :: st) M := by
  obtain ⟨⟨p, l, e, R, s, m, args, below, meth, c⟩, g, Q, nL, cells, slots⟩ := x
  obtain ⟨hx, hb, hml, hown, hts, hR, hV, hZ, hJ⟩ := id X
  intro ho ls H locs hl hP hS
  obtain ⟨w, ho, hF⟩ := ho
  refine lv_if_eq hx hb hd ht (fun h => ?_) (fun h => ?_)
  · rw [if_pos h] at ho
    exact kt ⟨w, ho, hF⟩ ls H locs hl hP hS
  · rw [if_neg h] at ho
    exact kf ⟨w, ho, hF⟩ ls H locs hl hP hS
theorem r_icmp_ne {x1 y : Int32} {off : Int} {o1 o2 : Option α} (tgt : Nat) (X : CX x cc own d) (hd : decode cc pc = .ok (.if_icmp .ne off, 3)) (ht : (pc : Int) + off = (tgt : Int)) (kf : SIM x F o1 (pc + 3) lv st M) (kt : SIM x F o2 tgt lv st M) : SIM x F (if x1 = y then o1 else o2) pc lv (.int y :: .int x1 :: st) M := by
  obtain ⟨⟨p, l, e, R, s, m, args, below, meth, c⟩, g, Q, nL, cells, slots⟩ := x
  obtain ⟨hx, hb, hml, hown, hts, hR, hV, hZ, hJ⟩ := id X
  intro ho ls H locs hl hP hS
  obtain ⟨w, ho, hF⟩ := ho
  refine lv_icmp_ne hx hb hd ht (fun h => ?_) (fun h => ?_)
  · rw [if_neg h] at ho
    exact kt ⟨w, ho, hF⟩ ls H locs hl hP hS
  · rw [if_pos h] at ho
    exact kf ⟨w, ho, hF⟩ ls H locs hl hP hS
theorem r_if_ne {x1 : Int32} {off : Int} {o1 o2 : Option α} (tgt : Nat) (X : CX x cc own d) (hd : decode cc pc = .ok (.ifCond .ne off, 3)) (ht : (pc : Int) + off = (tgt : Int)) (kf : SIM x F o1 (pc + 3) lv st M) (kt : SIM x F o2 tgt lv st M) : SIM x F (if x1 = 0 then o1 else o2) pc lv (.int x1 :: st) M := by
  obtain ⟨⟨p, l, e, R, s, m, args, below, meth, c⟩, g, Q, nL, cells, slots⟩ := x
  obtain ⟨hx, hb, hml, hown, hts, hR, hV, hZ, hJ⟩ := id X
  intro ho ls H locs hl hP hS
  obtain ⟨w, ho, hF⟩ := ho
  refine lv_if_ne hx hb hd ht (fun h => ?_) (fun h => ?_)
  · rw [if_neg h] at ho
    exact kt ⟨w, ho, hF⟩ ls H locs hl hP hS
  · rw [if_pos h] at ho
    exact kf ⟨w, ho, hF⟩ ls H locs hl hP hS
theorem r_icmp_lt {x1 y : Int32} {off : Int} {o1 o2 : Option α} (tgt : Nat) (X : CX x cc own d) (hd : decode cc pc = .ok (.if_icmp .lt off, 3)) (ht : (pc : Int) + off = (tgt : Int)) (kt : SIM x F o1 tgt lv st M) (kf : SIM x F o2 (pc + 3) lv st M) : SIM x F (if x1 < y then o1 else o2) pc lv (.int y :: .int x1 :: st) M := by
  obtain ⟨⟨p, l, e, R, s, m, args, below, meth, c⟩, g, Q, nL, cells, slots⟩ := x
  obtain ⟨hx, hb, hml, hown, hts, hR, hV, hZ, hJ⟩ := id X
  intro ho ls H locs hl hP hS
  obtain ⟨w, ho, hF⟩ := ho
  refine lv_icmp_lt hx hb hd ht (fun h => ?_) (fun h => ?_)
  · rw [if_pos h] at ho
    exact kt ⟨w, ho, hF⟩ ls H locs hl hP hS
  · rw [if_neg h] at ho
    exact kf ⟨w, ho, hF⟩ ls H locs hl hP hS
theorem r_if_lt {x1 : Int32} {off : Int} {o1 o2 : Option α} (tgt : Nat) (X : CX x cc own d) (hd : decode cc pc = .ok (.ifCond .lt off, 3)) (ht : (pc : Int) + off = (tgt : Int)) (kt : SIM x F o1 tgt lv st M) (kf : SIM x F o2 (pc + 3) lv st M) : SIM x F (if x1 < 0 then o1 else o2) pc lv (.int x1 :: st) M := by
  obtain ⟨⟨p, l, e, R, s, m, args, below, meth, c⟩, g, Q, nL, cells, slots⟩ := x
  obtain ⟨hx, hb, hml, hown, hts, hR, hV, hZ, hJ⟩ := id X
  intro ho ls H locs hl hP hS
  obtain ⟨w, ho, hF⟩ := ho
  refine lv_if_lt hx hb hd ht (fun h => ?_) (fun h => ?_)
  · rw [if_pos h] at ho
    exact kt ⟨w, ho, hF⟩ ls H locs hl hP hS
  · rw [if_neg h] at ho
    exact kf ⟨w, ho, hF⟩ ls H locs hl hP hS
theorem r_icmp_ge {x1 y : Int32} {off : Int} {o1 o2 : Option α} (tgt : Nat) (X : CX x cc own d) (hd : decode cc pc = .ok (.if_icmp .ge off, 3)) (ht : (pc : Int) + off = (tgt : Int)) (kt : SIM x F o1 tgt lv st M) (kf : SIM x F o2 (pc + 3) lv st M) : SIM x F (if y ≤ x1 then o1 else o2) pc lv (.int y :: .int x1 :: st) M := by
  obtain ⟨⟨p, l, e, R, s, m, args, below, meth, c⟩, g, Q, nL, cells, slots⟩ := x
  obtain ⟨hx, hb, hml, hown, hts, hR, hV, hZ, hJ⟩ := id X
  intro ho ls H locs hl hP hS
  obtain ⟨w, ho, hF⟩ := ho
  refine lv_icmp_ge hx hb hd ht (fun h => ?_) (fun h => ?_)
  · rw [if_pos h] at ho
    exact kt ⟨w, ho, hF⟩ ls H locs hl hP hS
  · rw [if_neg h] at ho
    exact kf ⟨w, ho, hF⟩ ls H locs hl hP hS
theorem r_if_ge {x1 : Int32} {off : Int} {o1 o2 : Option α} (tgt : Nat) (X : CX x cc own d) (hd : decode cc pc = .ok (.ifCond .ge off, 3)) (ht : (pc : Int) + off = (tgt : Int)) (kt : SIM x F o1 tgt lv st M) (kf : SIM x F o2 (pc + 3) lv st M) : SIM x F (if 0 ≤ x1 then o1 else o2) pc lv (.int x1 :: st) M := by
  obtain ⟨⟨p, l, e, R, s, m, args, below, meth, c⟩, g, Q, nL, cells, slots⟩ := x
  obtain ⟨hx, hb, hml, hown, hts, hR, hV, hZ, hJ⟩ := id X
  intro ho ls H locs hl hP hS
  obtain ⟨w, ho, hF⟩ := ho
  refine lv_if_ge hx hb hd ht (fun h => ?_) (fun h => ?_)
  · rw [if_pos h] at ho
    exact kt ⟨w, ho, hF⟩ ls H locs hl hP hS
  · rw [if_neg h] at ho
    exact kf ⟨w, ho, hF⟩ ls H locs hl hP hS
theorem r_icmp_gt {x1 y : Int32} {off : Int} {o1 o2 : Option α} (tgt : Nat) (X : CX x cc own d) (hd : decode cc pc = .ok (.if_icmp .gt off, 3)) (ht : (pc : Int) + off = (tgt : Int)) (kt : SIM x F o1 tgt lv st M) (kf : SIM x F o2 (pc + 3) lv st M) : SIM x F (if y < x1 then o1 else o2) pc lv (.int y :: .int x1 :: st) M := by
  obtain ⟨⟨p, l, e, R, s, m, args, below, meth, c⟩, g, Q, nL, cells, slots⟩ := x
  obtain ⟨hx, hb, hml, hown, hts, hR, hV, hZ, hJ⟩ := id X
  intro ho ls H locs hl hP hS
  obtain ⟨w, ho, hF⟩ := ho
  refine lv_icmp_gt hx hb hd ht (fun h => ?_) (fun h => ?_)
  · rw [if_pos h] at ho
    exact kt ⟨w, ho, hF⟩ ls H locs hl hP hS
  · rw [if_neg h] at ho
    exact kf ⟨w, ho, hF⟩ ls H locs hl hP hS
theorem r_if_gt {x1 : Int32} {off : Int} {o1 o2 : Option α} (tgt : Nat) (X : CX x cc own d) (hd : decode cc pc = .ok (.ifCond .gt off, 3)) (ht : (pc : Int) + off = (tgt : Int)) (kt : SIM x F o1 tgt lv st M) (kf : SIM x F o2 (pc + 3) lv st M) : SIM x F (if 0 < x1 then o1 else o2) pc lv (.int x1 :: st) M := by
  obtain ⟨⟨p, l, e, R, s, m, args, below, meth, c⟩, g, Q, nL, cells, slots⟩ := x
  obtain ⟨hx, hb, hml, hown, hts, hR, hV, hZ, hJ⟩ := id X
  intro ho ls H locs hl hP hS
  obtain ⟨w, ho, hF⟩ := ho
  refine lv_if_gt hx hb hd ht (fun h => ?_) (fun h => ?_)
  · rw [if_pos h] at ho
    exact kt ⟨w, ho, hF⟩ ls H locs hl hP hS
  · rw [if_neg h] at ho
    exact kf ⟨w, ho, hF⟩ ls H locs hl hP hS
theorem r_icmp_le {x1 y : Int32} {off : Int} {o1 o2 : Option α} (tgt : Nat) (X : CX x cc own d) (hd : decode cc pc = .ok (.if_icmp .le off, 3)) (ht : (pc : Int) + off = (tgt : Int)) (kt : SIM x F o1 tgt lv st M) (kf : SIM x F o2 (pc + 3) lv st M) : SIM x F (if x1 ≤ y then o1 else o2) pc lv (.int y :: .int x1 :: st) M := by
  obtain ⟨⟨p, l, e, R, s, m, args, below, meth, c⟩, g, Q, nL, cells, slots⟩ := x
  obtain ⟨hx, hb, hml, hown, hts, hR, hV, hZ, hJ⟩ := id X
  intro ho ls H locs hl hP hS
  obtain ⟨w, ho, hF⟩ := ho
  refine lv_icmp_le hx hb hd ht (fun h => ?_) (fun h => ?_)
  · rw [if_pos h] at ho
    exact kt ⟨w, ho, hF⟩ ls H locs hl hP hS
  · rw [if_neg h] at ho
    exact kf ⟨w, ho, hF⟩ ls H locs hl hP hS
theorem r_if_le {x1 : Int32} {off : Int} {o1 o2 : Option α} (tgt : Nat) (X : CX x cc own d) (hd : decode cc pc = .ok (.ifCond .le off, 3)) (ht : (pc : Int) + off = (tgt : Int)) (kt : SIM x F o1 tgt lv st M) (kf : SIM x F o2 (pc + 3) lv st M) : SIM x F (if x1 ≤ 0 then o1 else o2) pc lv (.int x1 :: st) M := by
  obtain ⟨⟨p, l, e, R, s, m, args, below, meth, c⟩, g, Q, nL, cells, slots⟩ := x
  obtain ⟨hx, hb, hml, hown, hts, hR, hV, hZ, hJ⟩ := id X
  intro ho ls H locs hl hP hS
  obtain ⟨w, ho, hF⟩ := ho
  refine lv_if_le hx hb hd ht (fun h => ?_) (fun h => ?_)
  · rw [if_pos h] at ho
    exact kt ⟨w, ho, hF⟩ ls H locs hl hP hS
  · rw [if_neg h] at ho
    exact kf ⟨w, ho, hF⟩ ls H locs hl hP hS
theorem r_goto {off : Int} (tgt : Nat) (X : CX x cc own d) (hd : decode cc pc = .ok (.goto off, 3)) (ht : (pc : Int) + off = (tgt : Int)) (kk : SIM x F o tgt lv st M) : SIM x F o pc lv (st) M := by
  obtain ⟨⟨p, l, e, R, s, m, args, below, meth, c⟩, g, Q, nL, cells, slots⟩ := x
  obtain ⟨hx, hb, hml, hown, hts, hR, hV, hZ, hJ⟩ := id X
  intro ho ls H locs hl hP hS
  exact lv_goto hx hb hd ht (kk ho ls H locs hl hP hS)
theorem r_to (lv2 : List (Nat × Value)) (ks : List Nat) (h : lv_pick lv ks = lv2) (kk : SIM x F o pc lv2 st M) : SIM x F o pc lv st M := fun ho ls H locs hl hP hS => kk ho ls H locs (lv_sub hl ks h) hP hS
end
/-- a field by its link: class, place, sort, type, final or not -/
def FL (own : String) (idx ci k srt : Nat) (tk : FieldType) (fin : Bool) : Prop := ∃ (C : String) (T : u_T) (N : Nat) (ty : Nat → FieldType), vwCl[ci]? = some (C, T, N) ∧ (∀ w ∈ u_ws C T N, w ∈ BG) ∧ (∀ k, k < N → parseFieldDescriptor (T k).2.2.1 = some (ty k)) ∧ (∀ a, a < N → ∀ b, b < N → a ≠ b → (T a).2.1 ≠ (T b).2.1) ∧ k < N ∧ (flds ci)[k]? = some (k, srt) ∧ parseFieldDescriptor (T k).2.2.1 = some tk ∧ (T k).2.2.2 = fin ∧ (Cond.fieldLink own idx (T k).1 (T k).2.1 (T k).2.2.1 ∈ BG ∨ ∃ host, Cond.fieldLinkNest own idx (T k).1 (T k).2.1 (T k).2.2.1 host ∈ NSW)
theorem fl_all : fldT.all (fun l => l.zipIdx.all (fun q => q.1.1 == q.2)) = true := by decide +kernel
theorem fl_idx {ci j : Nat} {q : Nat × Nat} (h : (flds ci)[j]? = some q) : q.1 = j := by
  unfold flds at h
  rw [List.getD_eq_getElem?_getD] at h
  cases hc : fldT[ci]? with
  | none => rw [hc] at h; simp at h
  | some l =>
    rw [hc] at h
    have h1 := List.all_eq_true.mp fl_all l (List.mem_of_getElem? hc)
    have h2 : (q, j) ∈ l.zipIdx := by
      rw [List.mem_zipIdx_iff_getElem?]
      exact h
    have h3 := List.all_eq_true.mp h1 _ h2
    simpa using h3
theorem fl_get {ad : Nat → Nat} {M : Mm} {a ci k srt : Nat} (h : (flds ci)[k]? = some (k, srt)) : ((flds ci).map (fv ad M a))[k]? = some (fv ad M a (k, srt)) := by
  rw [List.getElem?_map, h]
  rfl
theorem fl_len {ad : Nat → Nat} {M : Mm} {a ci k srt : Nat} (h : (flds ci)[k]? = some (k, srt)) : k < ((flds ci).map (fv ad M a)).length := by
  rw [List.length_map]
  exact (List.getElem?_eq_some_iff.mp h).1
theorem fl_set {ad : Nat → Nat} {M M1 : Mm} {a ci k srt : Nat} {v : Value} (h : (flds ci)[k]? = some (k, srt)) (hk : fv ad M1 a (k, srt) = v) (ho : ∀ j t, j ≠ k → fv ad M1 a (j, t) = fv ad M a (j, t)) : ((flds ci).map (fv ad M a)).set k v = (flds ci).map (fv ad M1 a) := by
  apply List.ext_getElem?
  intro j
  rw [List.getElem?_set, List.getElem?_map, List.getElem?_map]
  by_cases hj : k = j
  · subst hj
    rw [if_pos rfl, if_pos (fl_len h), h]
    exact congrArg some hk.symm
  · rw [if_neg hj]
    cases hq : (flds ci)[j]? with
    | none => rfl
    | some q =>
      obtain ⟨j2, t⟩ := q
      have := fl_idx hq
      subst this
      exact congrArg some (ho j2 t (fun e => hj e.symm)).symm
section
variable {α : Type} {x : SB} {F : α → Prop} {o : Option α} {cc : ByteArray} {own : String} {d pc : Nat} {lv : List (Nat × Value)} {st : List Value} {M : Mm}
theorem r_getI {idx ci k a : Nat} {tk : FieldType} {fin : Bool} {K : Int32 → Option α} (X : CX x cc own d) (hL : FL own idx ci k 0 tk fin) (hci : 10 + ci < 99) (ha : sh a = 10 + ci) (hd : decode cc pc = .ok (.getfield idx, 3)) (kk : ∀ v, SIM x F (K v) (pc + 3) lv (.int v :: st) M) : SIM x F (gfI M a k K) pc lv (rf x.2.1 a :: st) M := by
  obtain ⟨⟨p, l, e, R, s, m, args, below, meth, c⟩, g, Q, nL, cells, slots⟩ := x
  obtain ⟨hx, hb, hml, hown, hts, hR, hV, hZ, hJ⟩ := id X
  intro ho ls H locs hl hP hS
  obtain ⟨w, ho, hF⟩ := ho
  obtain ⟨C, T, N, ty, hc, hin, hty, hnm, hk, hf, htk, hfin, hlink⟩ := hL
  have he := wsM_at g.2.1 g.2.2.1 M (sh_lt (by rw [ha]; exact hci))
  rw [ent_obj ha] at he
  rcases hlink with hlink | ⟨host, hlink⟩
  · exact va_get hx hb hts hin hown hV.1 hP a he hc k hk (hts _ hlink) (fun _ h => h) (fl_get hf) hd (kk _ ⟨w, ho, hF⟩ ls H locs hl hP hS)
  · exact va_getN (host := host) hx hb hts hin hown hV.1 hP a he hc k hk (va_Nw.use (nest_on (List.mem_filter.mp hlink).2) (hV.2 _ hlink)) (fun _ h => h) (fl_get hf) hd (kk _ ⟨w, ho, hF⟩ ls H locs hl hP hS)
theorem r_getJ {idx ci k a : Nat} {tk : FieldType} {fin : Bool} {K : Int64 → Option α} (X : CX x cc own d) (hL : FL own idx ci k 1 tk fin) (hci : 10 + ci < 99) (ha : sh a = 10 + ci) (hd : decode cc pc = .ok (.getfield idx, 3)) (kk : ∀ v, SIM x F (K v) (pc + 3) lv (.long v :: st) M) : SIM x F (gfJ M a k K) pc lv (rf x.2.1 a :: st) M := by
  obtain ⟨⟨p, l, e, R, s, m, args, below, meth, c⟩, g, Q, nL, cells, slots⟩ := x
  obtain ⟨hx, hb, hml, hown, hts, hR, hV, hZ, hJ⟩ := id X
  intro ho ls H locs hl hP hS
  obtain ⟨w, ho, hF⟩ := ho
  obtain ⟨C, T, N, ty, hc, hin, hty, hnm, hk, hf, htk, hfin, hlink⟩ := hL
  have he := wsM_at g.2.1 g.2.2.1 M (sh_lt (by rw [ha]; exact hci))
  rw [ent_obj ha] at he
  rcases hlink with hlink | ⟨host, hlink⟩
  · exact va_get hx hb hts hin hown hV.1 hP a he hc k hk (hts _ hlink) (fun _ h => h) (fl_get hf) hd (kk _ ⟨w, ho, hF⟩ ls H locs hl hP hS)
  · exact va_getN (host := host) hx hb hts hin hown hV.1 hP a he hc k hk (va_Nw.use (nest_on (List.mem_filter.mp hlink).2) (hV.2 _ hlink)) (fun _ h => h) (fl_get hf) hd (kk _ ⟨w, ho, hF⟩ ls H locs hl hP hS)
theorem r_getR {idx ci k a : Nat} {tk : FieldType} {fin : Bool} {K : Nat → Option α} {k2 : Nat} (X : CX x cc own d) (hL : FL own idx ci k 2 tk fin) (hci : 10 + ci < 99) (ha : sh a = 10 + ci) (hd : decode cc pc = .ok (.getfield idx, 3)) (kk : ∀ v, sh v = k2 → SIM x F (K v) (pc + 3) lv (rf x.2.1 v :: st) M) : SIM x F (gfR M k2 a k K) pc lv (rf x.2.1 a :: st) M := by
  obtain ⟨⟨p, l, e, R, s, m, args, below, meth, c⟩, g, Q, nL, cells, slots⟩ := x
  obtain ⟨hx, hb, hml, hown, hts, hR, hV, hZ, hJ⟩ := id X
  intro ho ls H locs hl hP hS
  obtain ⟨w, ho, hF⟩ := ho
  unfold gfR at ho
  have hsh : sh (M.2.2 a k) = k2 := by
    by_cases h0 : sh (M.2.2 a k) = k2
    · exact h0
    · rw [if_neg h0] at ho
      cases ho
  rw [if_pos hsh] at ho
  obtain ⟨C, T, N, ty, hc, hin, hty, hnm, hk, hf, htk, hfin, hlink⟩ := hL
  have he := wsM_at g.2.1 g.2.2.1 M (sh_lt (by rw [ha]; exact hci))
  rw [ent_obj ha] at he
  rcases hlink with hlink | ⟨host, hlink⟩
  · exact va_get hx hb hts hin hown hV.1 hP a he hc k hk (hts _ hlink) (fun _ h => h) (fl_get hf) hd (kk _ hsh ⟨w, ho, hF⟩ ls H locs hl hP hS)
  · exact va_getN (host := host) hx hb hts hin hown hV.1 hP a he hc k hk (va_Nw.use (nest_on (List.mem_filter.mp hlink).2) (hV.2 _ hlink)) (fun _ h => h) (fl_get hf) hd (kk _ hsh ⟨w, ho, hF⟩ ls H locs hl hP hS)
theorem r_putI {idx ci k a : Nat} {tk : FieldType} {v : Int32} {K : Mm → Option α} (X : CX x cc own d) (hL : FL own idx ci k 0 tk false) (hci : 10 + ci < 99) (ha : sh a = 10 + ci) (hn : ∀ b : Nat, narrow tk (.int v) = .int v) (hfit : ∀ b : Nat, fits tk (.int v) = true) (hd : decode cc pc = .ok (.putfield idx, 3)) (kk : ∀ M1, SIM x F (K M1) (pc + 3) lv st M1) : SIM x F (pfI M a k v K) pc lv (.int v :: rf x.2.1 a :: st) M := by
  obtain ⟨⟨p, l, e, R, s, m, args, below, meth, c⟩, g, Q, nL, cells, slots⟩ := x
  obtain ⟨hx, hb, hml, hown, hts, hR, hV, hZ, hJ⟩ := id X
  intro ho ls H locs hl hP hS
  obtain ⟨C, T, N, ty, hc, hin, hty, hnm, hk, hf, htk, hfin, hlink⟩ := hL
  have he := wsM_at g.2.1 g.2.2.1 M (sh_lt (by rw [ha]; exact hci))
  rw [ent_obj ha] at he
  have hset : (wsM g.2.1 g.2.2.1 M).set a (g.2.1 a, .inr (ci, ((flds ci).map (fv g.2.1 M a)).set k (.int v))) = wsM g.2.1 g.2.2.1 (wI M a k v) := by
    refine wsM_set _ _ _ _ ?_ (fun b hb => ent_off ?_ ?_ ?_)
    · rw [ent_obj ha, fl_set (M1 := wI M a k v) hf (by simp [fv, wI]) (fun j t hj => by unfold fv; simp [wI, hj])]
    · exact wI_ne hb
    · rfl
    · rfl
  rcases hlink with hlink | ⟨host, hlink⟩
  · refine va_put hx hb hts hin ty hty hnm hown hV.1 hP (wsM_D hJ M) hS a he hc k hk (hts _ hlink) (fun _ h => h) hfin htk (hn 0) (hfit 0) (fl_len hf) hd (fun H1 locs1 hP1 _ hS1 => ?_)
    rw [hset] at hP1
    exact kk _ ho ls H1 locs1 hl hP1 hS1
  · refine va_putN (host := host) hx hb hts hin ty hty hnm hown hV.1 hP (wsM_D hJ M) hS a he hc k hk (va_Nw.use (nest_on (List.mem_filter.mp hlink).2) (hV.2 _ hlink)) (fun _ h => h) hfin htk (hn 0) (hfit 0) (fl_len hf) hd (fun H1 locs1 hP1 _ hS1 => ?_)
    rw [hset] at hP1
    exact kk _ ho ls H1 locs1 hl hP1 hS1
theorem r_putJ {idx ci k a : Nat} {tk : FieldType} {v : Int64} {K : Mm → Option α} (X : CX x cc own d) (hL : FL own idx ci k 1 tk false) (hci : 10 + ci < 99) (ha : sh a = 10 + ci) (hn : ∀ b : Nat, narrow tk (.long v) = .long v) (hfit : ∀ b : Nat, fits tk (.long v) = true) (hd : decode cc pc = .ok (.putfield idx, 3)) (kk : ∀ M1, SIM x F (K M1) (pc + 3) lv st M1) : SIM x F (pfJ M a k v K) pc lv (.long v :: rf x.2.1 a :: st) M := by
  obtain ⟨⟨p, l, e, R, s, m, args, below, meth, c⟩, g, Q, nL, cells, slots⟩ := x
  obtain ⟨hx, hb, hml, hown, hts, hR, hV, hZ, hJ⟩ := id X
  intro ho ls H locs hl hP hS
  obtain ⟨C, T, N, ty, hc, hin, hty, hnm, hk, hf, htk, hfin, hlink⟩ := hL
  have he := wsM_at g.2.1 g.2.2.1 M (sh_lt (by rw [ha]; exact hci))
  rw [ent_obj ha] at he
  have hset : (wsM g.2.1 g.2.2.1 M).set a (g.2.1 a, .inr (ci, ((flds ci).map (fv g.2.1 M a)).set k (.long v))) = wsM g.2.1 g.2.2.1 (wJ M a k v) := by
    refine wsM_set _ _ _ _ ?_ (fun b hb => ent_off ?_ ?_ ?_)
    · rw [ent_obj ha, fl_set (M1 := wJ M a k v) hf (by simp [fv, wJ]) (fun j t hj => by unfold fv; simp [wJ, hj])]
    · rfl
    · exact wJ_ne hb
    · rfl
  rcases hlink with hlink | ⟨host, hlink⟩
  · refine va_put hx hb hts hin ty hty hnm hown hV.1 hP (wsM_D hJ M) hS a he hc k hk (hts _ hlink) (fun _ h => h) hfin htk (hn 0) (hfit 0) (fl_len hf) hd (fun H1 locs1 hP1 _ hS1 => ?_)
    rw [hset] at hP1
    exact kk _ ho ls H1 locs1 hl hP1 hS1
  · refine va_putN (host := host) hx hb hts hin ty hty hnm hown hV.1 hP (wsM_D hJ M) hS a he hc k hk (va_Nw.use (nest_on (List.mem_filter.mp hlink).2) (hV.2 _ hlink)) (fun _ h => h) hfin htk (hn 0) (hfit 0) (fl_len hf) hd (fun H1 locs1 hP1 _ hS1 => ?_)
    rw [hset] at hP1
    exact kk _ ho ls H1 locs1 hl hP1 hS1
theorem r_putR {idx ci k a : Nat} {tk : FieldType} {v : Nat} {K : Mm → Option α} (X : CX x cc own d) (hL : FL own idx ci k 2 tk false) (hci : 10 + ci < 99) (ha : sh a = 10 + ci) (hn : ∀ b : Nat, narrow tk (.ref b) = .ref b) (hfit : ∀ b : Nat, fits tk (.ref b) = true) (hd : decode cc pc = .ok (.putfield idx, 3)) (kk : ∀ M1, SIM x F (K M1) (pc + 3) lv st M1) : SIM x F (pfR M a k v K) pc lv (rf x.2.1 v :: rf x.2.1 a :: st) M := by
  obtain ⟨⟨p, l, e, R, s, m, args, below, meth, c⟩, g, Q, nL, cells, slots⟩ := x
  obtain ⟨hx, hb, hml, hown, hts, hR, hV, hZ, hJ⟩ := id X
  intro ho ls H locs hl hP hS
  obtain ⟨C, T, N, ty, hc, hin, hty, hnm, hk, hf, htk, hfin, hlink⟩ := hL
  have he := wsM_at g.2.1 g.2.2.1 M (sh_lt (by rw [ha]; exact hci))
  rw [ent_obj ha] at he
  have hset : (wsM g.2.1 g.2.2.1 M).set a (g.2.1 a, .inr (ci, ((flds ci).map (fv g.2.1 M a)).set k (rf g v))) = wsM g.2.1 g.2.2.1 (wR M a k v) := by
    refine wsM_set _ _ _ _ ?_ (fun b hb => ent_off ?_ ?_ ?_)
    · rw [ent_obj ha, fl_set (M1 := wR M a k v) hf (by simp [fv, wR]) (fun j t hj => by unfold fv; simp [wR, hj])]
    · rfl
    · rfl
    · exact wR_ne hb
  rcases hlink with hlink | ⟨host, hlink⟩
  · refine va_put hx hb hts hin ty hty hnm hown hV.1 hP (wsM_D hJ M) hS a he hc k hk (hts _ hlink) (fun _ h => h) hfin htk (hn (g.2.1 v)) (hfit (g.2.1 v)) (fl_len hf) hd (fun H1 locs1 hP1 _ hS1 => ?_)
    rw [hset] at hP1
    exact kk _ ho ls H1 locs1 hl hP1 hS1
  · refine va_putN (host := host) hx hb hts hin ty hty hnm hown hV.1 hP (wsM_D hJ M) hS a he hc k hk (va_Nw.use (nest_on (List.mem_filter.mp hlink).2) (hV.2 _ hlink)) (fun _ h => h) hfin htk (hn (g.2.1 v)) (hfit (g.2.1 v)) (fl_len hf) hd (fun H1 locs1 hP1 _ hS1 => ?_)
    rw [hset] at hP1
    exact kk _ ho ls H1 locs1 hl hP1 hS1
theorem r_iald {a : Nat} {i : Int32} {K : Int32 → Option α} (X : CX x cc own d) (ha : sh a = 0) (hd : decode cc pc = .ok (.iaload, 1)) (kk : ∀ v, SIM x F (K v) (pc + 1) lv (.int v :: st) M) : SIM x F (ldI M a i K) pc lv (.int i :: rf x.2.1 a :: st) M := by
  obtain ⟨⟨p, l, e, R, s, m, args, below, meth, c⟩, g, Q, nL, cells, slots⟩ := x
  obtain ⟨hx, hb, hml, hown, hts, hR, hV, hZ, hJ⟩ := id X
  intro ho ls H locs hl hP hS
  obtain ⟨w, ho, hF⟩ := ho
  unfold ldI at ho
  by_cases h0 : ¬ (i < 0 ∨ ln a ≤ i.toNatClampNeg)
  · rw [if_pos h0] at ho
    have he := wsM_at g.2.1 g.2.2.1 M (sh_lt (by rw [ha]; decide))
    rw [ent_arr ha (by decide)] at he
    exact va_iald hx hb hV.1 hP a 0 he rfl h0 hd (kk _ ⟨w, ho, hF⟩ ls H locs hl hP hS)
  · rw [if_neg h0] at ho
    cases ho
theorem r_bald {a : Nat} {i : Int32} {K : Int32 → Option α} (X : CX x cc own d) (ha : sh a = 1) (hd : decode cc pc = .ok (.baload, 1)) (kk : ∀ v, SIM x F (K v) (pc + 1) lv (.int v :: st) M) : SIM x F (ldI M a i K) pc lv (.int i :: rf x.2.1 a :: st) M := by
  obtain ⟨⟨p, l, e, R, s, m, args, below, meth, c⟩, g, Q, nL, cells, slots⟩ := x
  obtain ⟨hx, hb, hml, hown, hts, hR, hV, hZ, hJ⟩ := id X
  intro ho ls H locs hl hP hS
  obtain ⟨w, ho, hF⟩ := ho
  unfold ldI at ho
  by_cases h0 : ¬ (i < 0 ∨ ln a ≤ i.toNatClampNeg)
  · rw [if_pos h0] at ho
    have he := wsM_at g.2.1 g.2.2.1 M (sh_lt (by rw [ha]; decide))
    rw [ent_arr ha (by decide)] at he
    exact va_bald hx hb hV.1 hP a 1 he rfl h0 hd (kk _ ⟨w, ho, hF⟩ ls H locs hl hP hS)
  · rw [if_neg h0] at ho
    cases ho
theorem r_zald {a : Nat} {i : Int32} {K : Int32 → Option α} (X : CX x cc own d) (ha : sh a = 2) (hd : decode cc pc = .ok (.baload, 1)) (kk : ∀ v, SIM x F (K v) (pc + 1) lv (.int v :: st) M) : SIM x F (ldI M a i K) pc lv (.int i :: rf x.2.1 a :: st) M := by
  obtain ⟨⟨p, l, e, R, s, m, args, below, meth, c⟩, g, Q, nL, cells, slots⟩ := x
  obtain ⟨hx, hb, hml, hown, hts, hR, hV, hZ, hJ⟩ := id X
  intro ho ls H locs hl hP hS
  obtain ⟨w, ho, hF⟩ := ho
  unfold ldI at ho
  by_cases h0 : ¬ (i < 0 ∨ ln a ≤ i.toNatClampNeg)
  · rw [if_pos h0] at ho
    have he := wsM_at g.2.1 g.2.2.1 M (sh_lt (by rw [ha]; decide))
    rw [ent_arr ha (by decide)] at he
    exact va_zald hx hb hV.1 hP a 2 he rfl h0 hd (kk _ ⟨w, ho, hF⟩ ls H locs hl hP hS)
  · rw [if_neg h0] at ho
    cases ho
theorem r_iast {a : Nat} {i v : Int32} {K : Mm → Option α} (X : CX x cc own d) (ha : sh a = 0) (hd : decode cc pc = .ok (.iastore, 1)) (kk : ∀ M1, SIM x F (K M1) (pc + 1) lv st M1) : SIM x F (stI M a i v K) pc lv (.int v :: .int i :: rf x.2.1 a :: st) M := by
  obtain ⟨⟨p, l, e, R, s, m, args, below, meth, c⟩, g, Q, nL, cells, slots⟩ := x
  obtain ⟨hx, hb, hml, hown, hts, hR, hV, hZ, hJ⟩ := id X
  intro ho ls H locs hl hP hS
  obtain ⟨w, ho, hF⟩ := ho
  unfold stI at ho
  by_cases h0 : ¬ (i < 0 ∨ ln a ≤ i.toNatClampNeg)
  · rw [if_pos h0] at ho
    have he := wsM_at g.2.1 g.2.2.1 M (sh_lt (by rw [ha]; decide))
    rw [ent_arr ha (by decide)] at he
    have hset : (wsM g.2.1 g.2.2.1 M).set a (g.2.1 a, .inl (g.2.2.1 0, ln a, .inl (upd (M.1 a) i.toNatClampNeg v))) = wsM g.2.1 g.2.2.1 (wI M a i.toNatClampNeg v) := by
      refine wsM_set _ _ _ _ ?_ (fun b hb => ent_off (wI_ne hb) rfl rfl)
      rw [ent_arr ha (by decide), wI_eq]
    refine va_iast hx hb hV.1 hP (wsM_D hJ M) hS a 0 he rfl h0 hd (fun H1 locs1 hP1 _ hS1 => ?_)
    rw [hset] at hP1
    exact kk _ ⟨w, ho, hF⟩ ls H1 locs1 hl hP1 hS1
  · rw [if_neg h0] at ho
    cases ho
theorem r_bast {a : Nat} {i v : Int32} {K : Mm → Option α} (X : CX x cc own d) (ha : sh a = 1) (hd : decode cc pc = .ok (.bastore, 1)) (kk : ∀ M1, SIM x F (K M1) (pc + 1) lv st M1) : SIM x F (stI M a i (vp_nar .byte v) K) pc lv (.int v :: .int i :: rf x.2.1 a :: st) M := by
  obtain ⟨⟨p, l, e, R, s, m, args, below, meth, c⟩, g, Q, nL, cells, slots⟩ := x
  obtain ⟨hx, hb, hml, hown, hts, hR, hV, hZ, hJ⟩ := id X
  intro ho ls H locs hl hP hS
  obtain ⟨w, ho, hF⟩ := ho
  unfold stI at ho
  by_cases h0 : ¬ (i < 0 ∨ ln a ≤ i.toNatClampNeg)
  · rw [if_pos h0] at ho
    have he := wsM_at g.2.1 g.2.2.1 M (sh_lt (by rw [ha]; decide))
    rw [ent_arr ha (by decide)] at he
    have hset : (wsM g.2.1 g.2.2.1 M).set a (g.2.1 a, .inl (g.2.2.1 1, ln a, .inl (upd (M.1 a) i.toNatClampNeg (vp_nar .byte v)))) = wsM g.2.1 g.2.2.1 (wI M a i.toNatClampNeg (vp_nar .byte v)) := by
      refine wsM_set _ _ _ _ ?_ (fun b hb => ent_off (wI_ne hb) rfl rfl)
      rw [ent_arr ha (by decide), wI_eq]
    refine va_bast hx hb hV.1 hP (wsM_D hJ M) hS a 1 he rfl h0 hd (fun H1 locs1 hP1 _ hS1 => ?_)
    rw [hset] at hP1
    exact kk _ ⟨w, ho, hF⟩ ls H1 locs1 hl hP1 hS1
  · rw [if_neg h0] at ho
    cases ho
theorem r_zast {a : Nat} {i v : Int32} {K : Mm → Option α} (X : CX x cc own d) (ha : sh a = 2) (hd : decode cc pc = .ok (.bastore, 1)) (kk : ∀ M1, SIM x F (K M1) (pc + 1) lv st M1) : SIM x F (stI M a i (vp_nar .boolean v) K) pc lv (.int v :: .int i :: rf x.2.1 a :: st) M := by
  obtain ⟨⟨p, l, e, R, s, m, args, below, meth, c⟩, g, Q, nL, cells, slots⟩ := x
  obtain ⟨hx, hb, hml, hown, hts, hR, hV, hZ, hJ⟩ := id X
  intro ho ls H locs hl hP hS
  obtain ⟨w, ho, hF⟩ := ho
  unfold stI at ho
  by_cases h0 : ¬ (i < 0 ∨ ln a ≤ i.toNatClampNeg)
  · rw [if_pos h0] at ho
    have he := wsM_at g.2.1 g.2.2.1 M (sh_lt (by rw [ha]; decide))
    rw [ent_arr ha (by decide)] at he
    have hset : (wsM g.2.1 g.2.2.1 M).set a (g.2.1 a, .inl (g.2.2.1 2, ln a, .inl (upd (M.1 a) i.toNatClampNeg (vp_nar .boolean v)))) = wsM g.2.1 g.2.2.1 (wI M a i.toNatClampNeg (vp_nar .boolean v)) := by
      refine wsM_set _ _ _ _ ?_ (fun b hb => ent_off (wI_ne hb) rfl rfl)
      rw [ent_arr ha (by decide), wI_eq]
    refine va_zast hx hb hV.1 hP (wsM_D hJ M) hS a 2 he rfl h0 hd (fun H1 locs1 hP1 _ hS1 => ?_)
    rw [hset] at hP1
    exact kk _ ⟨w, ho, hF⟩ ls H1 locs1 hl hP1 hS1
  · rw [if_neg h0] at ho
    cases ho
theorem r_aldS {k2 a : Nat} {i : Int32} {K : Nat → Option α} (X : CX x cc own d) (ha : sh a = 3) (hd : decode cc pc = .ok (.aaload, 1)) (kk : ∀ v, sh v = k2 → SIM x F (K v) (pc + 1) lv (rf x.2.1 v :: st) M) : SIM x F (ldR M k2 a i K) pc lv (.int i :: rf x.2.1 a :: st) M := by
  obtain ⟨⟨p, l, e, R, s, m, args, below, meth, c⟩, g, Q, nL, cells, slots⟩ := x
  obtain ⟨hx, hb, hml, hown, hts, hR, hV, hZ, hJ⟩ := id X
  intro ho ls H locs hl hP hS
  obtain ⟨w, ho, hF⟩ := ho
  unfold ldR at ho
  by_cases h0 : ¬ (i < 0 ∨ ln a ≤ i.toNatClampNeg) ∧ sh (M.2.2 a i.toNatClampNeg) = k2
  · rw [if_pos h0] at ho
    have he := wsM_at g.2.1 g.2.2.1 M (sh_lt (by rw [ha]; decide))
    rw [ent_rarr ha (by decide) (by decide)] at he
    have hlt : i.toNatClampNeg < ln a := Nat.not_le.mp fun q => h0.1 (Or.inr q)
    exact W.aald (v := rf g (M.2.2 a i.toNatClampNeg)) (ty := (.object "CrumbWood$Strip")) hx hb (hP a _ he) ((hV.1.2 3 _ rfl).1 (ln a) (fun j => va_rf (some (g.2.1 (M.2.2 a j))))) rfl (fun q => by cases q) (by show ¬ (i < 0 ∨ (arrV _ _ _).slots.size ≤ _); rw [arrV_size]; exact h0.1) (by show (arrV _ _ _).slots[_]? = _; rw [arrV_read _ _ hlt]; rfl) rfl rfl hd (kk _ h0.2 ⟨w, ho, hF⟩ ls H locs hl hP hS)
  · rw [if_neg h0] at ho
    cases ho
theorem r_alenS {a : Nat} (X : CX x cc own d) (ha : sh a = 3) (hd : decode cc pc = .ok (.arraylength, 1)) (kk : SIM x F o (pc + 1) lv (.int (Int32.ofNat (ln a)) :: st) M) : SIM x F o pc lv (rf x.2.1 a :: st) M := by
  obtain ⟨⟨p, l, e, R, s, m, args, below, meth, c⟩, g, Q, nL, cells, slots⟩ := x
  obtain ⟨hx, hb, hml, hown, hts, hR, hV, hZ, hJ⟩ := id X
  intro ho ls H locs hl hP hS
  have he := wsM_at g.2.1 g.2.2.1 M (sh_lt (by rw [ha]; decide))
  rw [ent_rarr ha (by decide) (by decide)] at he
  exact va_alen hx hb hV.1 hP a 3 he (ty := (.object "CrumbWood$Strip")) rfl rfl hd (kk ho ls H locs hl hP hS)
theorem r_aldW {k2 a : Nat} {i : Int32} {K : Nat → Option α} (X : CX x cc own d) (ha : sh a = 4) (hd : decode cc pc = .ok (.aaload, 1)) (kk : ∀ v, sh v = k2 → SIM x F (K v) (pc + 1) lv (rf x.2.1 v :: st) M) : SIM x F (ldR M k2 a i K) pc lv (.int i :: rf x.2.1 a :: st) M := by
  obtain ⟨⟨p, l, e, R, s, m, args, below, meth, c⟩, g, Q, nL, cells, slots⟩ := x
  obtain ⟨hx, hb, hml, hown, hts, hR, hV, hZ, hJ⟩ := id X
  intro ho ls H locs hl hP hS
  obtain ⟨w, ho, hF⟩ := ho
  unfold ldR at ho
  by_cases h0 : ¬ (i < 0 ∨ ln a ≤ i.toNatClampNeg) ∧ sh (M.2.2 a i.toNatClampNeg) = k2
  · rw [if_pos h0] at ho
    have he := wsM_at g.2.1 g.2.2.1 M (sh_lt (by rw [ha]; decide))
    rw [ent_rarr ha (by decide) (by decide)] at he
    have hlt : i.toNatClampNeg < ln a := Nat.not_le.mp fun q => h0.1 (Or.inr q)
    exact W.aald (v := rf g (M.2.2 a i.toNatClampNeg)) (ty := (.object "CrumbWood$Wood")) hx hb (hP a _ he) ((hV.1.2 4 _ rfl).1 (ln a) (fun j => va_rf (some (g.2.1 (M.2.2 a j))))) rfl (fun q => by cases q) (by show ¬ (i < 0 ∨ (arrV _ _ _).slots.size ≤ _); rw [arrV_size]; exact h0.1) (by show (arrV _ _ _).slots[_]? = _; rw [arrV_read _ _ hlt]; rfl) rfl rfl hd (kk _ h0.2 ⟨w, ho, hF⟩ ls H locs hl hP hS)
  · rw [if_neg h0] at ho
    cases ho
theorem r_alenW {a : Nat} (X : CX x cc own d) (ha : sh a = 4) (hd : decode cc pc = .ok (.arraylength, 1)) (kk : SIM x F o (pc + 1) lv (.int (Int32.ofNat (ln a)) :: st) M) : SIM x F o pc lv (rf x.2.1 a :: st) M := by
  obtain ⟨⟨p, l, e, R, s, m, args, below, meth, c⟩, g, Q, nL, cells, slots⟩ := x
  obtain ⟨hx, hb, hml, hown, hts, hR, hV, hZ, hJ⟩ := id X
  intro ho ls H locs hl hP hS
  have he := wsM_at g.2.1 g.2.2.1 M (sh_lt (by rw [ha]; decide))
  rw [ent_rarr ha (by decide) (by decide)] at he
  exact va_alen hx hb hV.1 hP a 4 he (ty := (.object "CrumbWood$Wood")) rfl rfl hd (kk ho ls H locs hl hP hS)
theorem r_aldA {k2 a : Nat} {i : Int32} {K : Nat → Option α} (X : CX x cc own d) (ha : sh a = 5) (hd : decode cc pc = .ok (.aaload, 1)) (kk : ∀ v, sh v = k2 → SIM x F (K v) (pc + 1) lv (rf x.2.1 v :: st) M) : SIM x F (ldR M k2 a i K) pc lv (.int i :: rf x.2.1 a :: st) M := by
  obtain ⟨⟨p, l, e, R, s, m, args, below, meth, c⟩, g, Q, nL, cells, slots⟩ := x
  obtain ⟨hx, hb, hml, hown, hts, hR, hV, hZ, hJ⟩ := id X
  intro ho ls H locs hl hP hS
  obtain ⟨w, ho, hF⟩ := ho
  unfold ldR at ho
  by_cases h0 : ¬ (i < 0 ∨ ln a ≤ i.toNatClampNeg) ∧ sh (M.2.2 a i.toNatClampNeg) = k2
  · rw [if_pos h0] at ho
    have he := wsM_at g.2.1 g.2.2.1 M (sh_lt (by rw [ha]; decide))
    rw [ent_rarr ha (by decide) (by decide)] at he
    have hlt : i.toNatClampNeg < ln a := Nat.not_le.mp fun q => h0.1 (Or.inr q)
    exact W.aald (v := rf g (M.2.2 a i.toNatClampNeg)) (ty := (.array .int)) hx hb (hP a _ he) ((hV.1.2 5 _ rfl).1 (ln a) (fun j => va_rf (some (g.2.1 (M.2.2 a j))))) rfl (fun q => by cases q) (by show ¬ (i < 0 ∨ (arrV _ _ _).slots.size ≤ _); rw [arrV_size]; exact h0.1) (by show (arrV _ _ _).slots[_]? = _; rw [arrV_read _ _ hlt]; rfl) rfl rfl hd (kk _ h0.2 ⟨w, ho, hF⟩ ls H locs hl hP hS)
  · rw [if_neg h0] at ho
    cases ho
theorem r_alenA {a : Nat} (X : CX x cc own d) (ha : sh a = 5) (hd : decode cc pc = .ok (.arraylength, 1)) (kk : SIM x F o (pc + 1) lv (.int (Int32.ofNat (ln a)) :: st) M) : SIM x F o pc lv (rf x.2.1 a :: st) M := by
  obtain ⟨⟨p, l, e, R, s, m, args, below, meth, c⟩, g, Q, nL, cells, slots⟩ := x
  obtain ⟨hx, hb, hml, hown, hts, hR, hV, hZ, hJ⟩ := id X
  intro ho ls H locs hl hP hS
  have he := wsM_at g.2.1 g.2.2.1 M (sh_lt (by rw [ha]; decide))
  rw [ent_rarr ha (by decide) (by decide)] at he
  exact va_alen hx hb hV.1 hP a 5 he (ty := (.array .int)) rfl rfl hd (kk ho ls H locs hl hP hS)
theorem r_alenI {a : Nat} (X : CX x cc own d) (ha : sh a = 0) (hd : decode cc pc = .ok (.arraylength, 1)) (kk : SIM x F o (pc + 1) lv (.int (Int32.ofNat (ln a)) :: st) M) : SIM x F o pc lv (rf x.2.1 a :: st) M := by
  obtain ⟨⟨p, l, e, R, s, m, args, below, meth, c⟩, g, Q, nL, cells, slots⟩ := x
  obtain ⟨hx, hb, hml, hown, hts, hR, hV, hZ, hJ⟩ := id X
  intro ho ls H locs hl hP hS
  have he := wsM_at g.2.1 g.2.2.1 M (sh_lt (by rw [ha]; decide))
  rw [ent_arr ha (by decide)] at he
  exact va_alen hx hb hV.1 hP a 0 he (ty := .int) rfl rfl hd (kk ho ls H locs hl hP hS)
theorem r_gets0 {idx : Nat} {host : String} (X : CX x cc own d) (hl0 : Cond.fieldLinkNest own idx "CrumbWood" "LETTERS" "[I" host ∈ NSW) (hd : decode cc pc = .ok (.getstatic idx, 3)) (kk : SIM x F o (pc + 3) lv (rf x.2.1 (NW + 0) :: st) M) : SIM x F o pc lv (st) M := by
  obtain ⟨⟨p, l, e, R, s, m, args, below, meth, c⟩, g, Q, nL, cells, slots⟩ := x
  obtain ⟨hx, hb, hml, hown, hts, hR, hV, hZ, hJ⟩ := id X
  intro ho ls H locs hl hP hS
  exact va_getsN (host := host) (v := rf g (NW + 0)) hx hb hZ.1.1 hS hown (va_Nw.use (nest_on (List.mem_filter.mp hl0).2) (hV.2 _ hl0)) (fun _ h => h) hd (kk ho ls H locs hl hP hS)
theorem r_ilds0 {i : Int32} {K : Int32 → Option α} (X : CX x cc own d) (hd : decode cc pc = .ok (.iaload, 1)) (kk : ∀ v, SIM x F (K v) (pc + 1) lv (.int v :: st) M) : SIM x F (ldS let1 6 i K) pc lv (.int i :: rf x.2.1 (NW + 0) :: st) M := by
  obtain ⟨⟨p, l, e, R, s, m, args, below, meth, c⟩, g, Q, nL, cells, slots⟩ := x
  obtain ⟨hx, hb, hml, hown, hts, hR, hV, hZ, hJ⟩ := id X
  intro ho ls H locs hl hP hS
  obtain ⟨w, ho, hF⟩ := ho
  unfold ldS at ho
  by_cases h0 : ¬ (i < 0 ∨ 6 ≤ i.toNatClampNeg)
  · rw [if_pos h0] at ho
    have hlt : g.2.1 (NW + 0) < s.heap.size := by
      obtain ⟨scr, q, -⟩ := hZ.1.2.1
      exact (Array.getElem?_eq_some_iff.mp q).1
    exact va_sld hx hb hZ.1.2.1 hlt hZ.1.2.2 hS h0 hd (kk _ ⟨w, ho, hF⟩ ls H locs hl hP hS)
  · rw [if_neg h0] at ho
    cases ho
theorem r_gets1 {idx : Nat} {host : String} (X : CX x cc own d) (hl0 : Cond.fieldLinkNest own idx "CrumbWood" "PARENTS" "[I" host ∈ NSW) (hd : decode cc pc = .ok (.getstatic idx, 3)) (kk : SIM x F o (pc + 3) lv (rf x.2.1 (NW + 1) :: st) M) : SIM x F o pc lv (st) M := by
  obtain ⟨⟨p, l, e, R, s, m, args, below, meth, c⟩, g, Q, nL, cells, slots⟩ := x
  obtain ⟨hx, hb, hml, hown, hts, hR, hV, hZ, hJ⟩ := id X
  intro ho ls H locs hl hP hS
  exact va_getsN (host := host) (v := rf g (NW + 1)) hx hb hZ.2.1 hS hown (va_Nw.use (nest_on (List.mem_filter.mp hl0).2) (hV.2 _ hl0)) (fun _ h => h) hd (kk ho ls H locs hl hP hS)
theorem r_ilds1 {i : Int32} {K : Int32 → Option α} (X : CX x cc own d) (hd : decode cc pc = .ok (.iaload, 1)) (kk : ∀ v, SIM x F (K v) (pc + 1) lv (.int v :: st) M) : SIM x F (ldS par1 6 i K) pc lv (.int i :: rf x.2.1 (NW + 1) :: st) M := by
  obtain ⟨⟨p, l, e, R, s, m, args, below, meth, c⟩, g, Q, nL, cells, slots⟩ := x
  obtain ⟨hx, hb, hml, hown, hts, hR, hV, hZ, hJ⟩ := id X
  intro ho ls H locs hl hP hS
  obtain ⟨w, ho, hF⟩ := ho
  unfold ldS at ho
  by_cases h0 : ¬ (i < 0 ∨ 6 ≤ i.toNatClampNeg)
  · rw [if_pos h0] at ho
    have hlt : g.2.1 (NW + 1) < s.heap.size := by
      obtain ⟨scr, q, -⟩ := hZ.2.2.1
      exact (Array.getElem?_eq_some_iff.mp q).1
    exact va_sld hx hb hZ.2.2.1 hlt hZ.2.2.2 hS h0 hd (kk _ ⟨w, ho, hF⟩ ls H locs hl hP hS)
  · rw [if_neg h0] at ho
    cases ho
end
end
section
/-! CALLS -/
theorem nfw : nativeFrameWords "java/lang/System" "arraycopy" 5 ≤ 20 := by decide +kernel
theorem pm_blind (g : GX) (As : List Value) (M : Mm) : FrameBlind (Pm g As M) := fun a U f mk h => ⟨h.1, h.2.1, VK.same (s := U) (U := U.calling f mk a) rfl h.2.2.1, h.2.2.2.to (Vm.Alike.refl U.vm) (fun _ _ _ => rfl)⟩
theorem pm_pre {g : GX} {As : List Value} {M : Mm} {s : State} {H : Heap} {locs : List Loc} (hV : VK g s) (hZ : ZK g s s.heap) (hP : PW g M H) (hS : va_S g.2.2.2 s.heap H locs) : ∀ U : State, U.heap = H → s.WarmedH U.vm → Pm g As M As.toArray U := by
  intro U hU hW
  subst hU
  exact ⟨rfl, hP, hV.warm hW, hZ.to hW.alike (fun a h1 h2 => hS.2.1 a h1 h2)⟩
theorem call_go {p : Program} {l : Launch} {e : Env} {R : Room} {s : State} {m : MethodId} {args : Array Value} {below : List Frame} {meth : Method} {c : Code} {H : Heap} {locs : List Loc} {cells slots : Nat} {Q : State → Prop} {g : GX} {rv : Option Value} {M1 : Mm} {pc : Nat} {ls : Array Slot} {st0 rest : List Value} {a : Array Value}
    (hr : va_Run p l e R s m args below meth c H locs cells slots 0 0 (F0 m pc ls st0) rest (Qm g rv M1 a) g.2.2.2) (hS : va_S g.2.2.2 s.heap H locs)
    (kk : ∀ (H1 : Heap) (locs1 : List Loc), PW g M1 H1 → va_S g.2.2.2 s.heap H1 locs1 → W p l e R s m args below meth c H1 locs1 cells slots Q (F0 m (pc + 3) ls (rv.toList ++ rest))) : W p l e R s m args below meth c H locs cells slots Q (F0 m pc ls st0) := by
  intro T hT X
  obtain ⟨v, st₀, t, T', L, h0, X', hL, e1, e2, ⟨hv, hb, hz, hk⟩, st⟩ := hr T hT X
  cases hv
  rw [h0] at hz hk
  obtain ⟨t2, a1, b1⟩ := kk T'.heap (locs ++ L) (by rw [e1]; exact hb)
    ⟨Nat.le_trans hS.1 (by rw [e1]; exact hz), fun q h1 h2 => by rw [e1, hk q (Nat.lt_of_lt_of_le h1 hS.1) h2]; exact hS.2.1 q h1 h2, fun q hq => by
      rcases List.mem_append.mp hq with h | h
      · exact hS.2.2 q h
      · exact hL q h⟩ T' rfl X'
  exact ⟨t2, st t2 a1, b1⟩
/-- a method by its link, called on an object of class ci; called without one -/
def MV (own : String) (idx ci : Nat) (y : MethodName) (cc : ByteArray) (maxL : Nat) (ret : Option FieldType) (n : Nat) : Prop := ∃ (T : u_T) (N : Nat), vwCl[ci]? = some (y.cls, T, N) ∧ Cond.code y cc maxL ret ∈ BG ∧ Cond.initialized y.cls ∈ BG ∧ Cond.instanceMethod y ∈ BG ∧ Cond.selects y.cls y y ∈ BG ∧ Cond.methodLink own idx y ∈ BG ∧ (y.cls ≠ "java/lang/invoke/MethodHandle" ∧ y.cls ≠ "java/lang/invoke/VarHandle" ∧ (parseMethodDescriptor y.desc).map (fun d => d.parameters.length) = some n) ∧ maxL ≤ 20
def MS (own : String) (idx : Nat) (y : MethodName) (cc : ByteArray) (maxL : Nat) (ret : Option FieldType) (n : Nat) : Prop := Cond.code y cc maxL ret ∈ BG ∧ Cond.initialized y.cls ∈ BG ∧ Cond.static y ∈ BG ∧ (Cond.methodLink own idx y ∈ BG ∨ ∃ host, Cond.methodLinkNest own idx y host ∈ NSW) ∧ (y.cls ≠ "java/lang/invoke/MethodHandle" ∧ y.cls ≠ "java/lang/invoke/VarHandle" ∧ (parseMethodDescriptor y.desc).map (fun d => d.parameters.length) = some n) ∧ maxL ≤ 20
section
variable {α β : Type} {x : SB} {F : α → Prop} {o : Option α} {cc : ByteArray} {own : String} {d pc : Nat} {lv : List (Nat × Value)} {st : List Value} {M : Mm}
theorem r_callV {f : Option (β × Mm)} {K : β → Mm → Option α} {mk : β → Option Value} {idx ci a dc maxL n : Nat} {y : MethodName} {cy : ByteArray} {ret : Option FieldType} (As : List Value) (X : CX x cc own d) (hM : MV own idx ci y cy maxL ret n) (hci : 10 + ci < 99) (ha : sh a = 10 + ci) (hdd : dc + 1 ≤ d) (hct : CT x.1.2.1 x.2.1 y cy maxL ret dc (rf x.2.1 a :: As) M f mk) (hn : As.length = n) (hroom : (st.map fun v => v.category).sum ≤ 8) (hd : decode cc pc = .ok (.invokevirtual idx, 3)) {st0 : List Value} (hst : st0 = As.reverse ++ rf x.2.1 a :: st)
    (kk : ∀ r M1, SIM x F (K r M1) (pc + 3) lv ((mk r).toList ++ st) M1) : SIM x F (cal f K) pc lv st0 M := by
  obtain ⟨⟨p, l, e, R, s, m, args, below, meth, c⟩, g, Q, nL, cells, slots⟩ := x
  obtain ⟨hx, hb, hml, hown, hts, hR, hV, hZ, hJ⟩ := id X
  intro ho ls H locs hl hP hS
  obtain ⟨T, N, hc, k1, k2, k3, k4, k5, k6, k7⟩ := hM
  obtain ⟨w, ho, hF⟩ := ho
  cases hf : f with
  | none => rw [hf] at ho; cases ho
  | some q =>
    rw [hf] at ho
    obtain ⟨r, M1⟩ := q
    have hMet := hct r M1 hf
    have cb : CallB R s args own idx y cy maxL ret (wy y cy maxL ret) (rmd dc) 0 0 n := callB_of n hts (bg_good k1) rfl rfl rfl (hts _ k2) (hts _ k5) k6 ⟨by have := hR.1; show dc + 1 ≤ _; omega, by have := hR.2.1; show 8 + (maxL + 11) + 39 * dc ≤ _; omega⟩
    have he := wsM_at g.2.1 g.2.2.1 M (sh_lt (by rw [ha]; exact hci))
    rw [ent_obj ha] at he
    refine call_go (rest := st) (va_runV (As := As) (b := g.2.1 a) ⟨hx, hb, hml, hown, hts⟩ hMet ⟨cb, hts _ k3, hts _ k4⟩ ⟨pm_blind _ _ _, va_recv hV.1 hP hc he, pm_pre hV hZ hP hS⟩ rfl hn hl.1 hst (lv_room hroom) hd ⟨by have := hR.2.2.1; omega, by have := hR.2.2.2; omega⟩) hS (fun H1 locs1 hP1 hS1 => kk r M1 ⟨w, ho, hF⟩ ls H1 locs1 hl hP1 hS1)
theorem r_callS {f : Option (β × Mm)} {K : β → Mm → Option α} {mk : β → Option Value} {idx dc maxL n : Nat} {y : MethodName} {cy : ByteArray} {ret : Option FieldType} (As : List Value) (X : CX x cc own d) (hM : MS own idx y cy maxL ret n) (hdd : dc + 1 ≤ d) (hct : CT x.1.2.1 x.2.1 y cy maxL ret dc As M f mk) (hn : As.length = n) (hroom : (st.map fun v => v.category).sum ≤ 8) (hd : decode cc pc = .ok (.invokestatic idx, 3)) {st0 : List Value} (hst : st0 = As.reverse ++ st)
    (kk : ∀ r M1, SIM x F (K r M1) (pc + 3) lv ((mk r).toList ++ st) M1) : SIM x F (cal f K) pc lv st0 M := by
  obtain ⟨⟨p, l, e, R, s, m, args, below, meth, c⟩, g, Q, nL, cells, slots⟩ := x
  obtain ⟨hx, hb, hml, hown, hts, hR, hV, hZ, hJ⟩ := id X
  intro ho ls H locs hl hP hS
  obtain ⟨k1, k2, k3, k5, k6, k7⟩ := hM
  obtain ⟨w, ho, hF⟩ := ho
  cases hf : f with
  | none => rw [hf] at ho; cases ho
  | some q =>
    rw [hf] at ho
    obtain ⟨r, M1⟩ := q
    have hMet := hct r M1 hf
    have hroom2 : (rmd dc).frames + 1 ≤ R.frames ∧ 8 + (maxL + 11) + (rmd dc).locals ≤ R.locals := ⟨by have := hR.1; show dc + 1 ≤ _; omega, by have := hR.2.1; show 8 + (maxL + 11) + 39 * dc ≤ _; omega⟩
    have hcs : cells + 0 ≤ R.cells ∧ slots + 0 ≤ R.slots := ⟨by have := hR.2.2.1; omega, by have := hR.2.2.2; omega⟩
    rcases k5 with k5 | ⟨host, k5⟩
    · have cb : CallB R s args own idx y cy maxL ret (wy y cy maxL ret) (rmd dc) 0 0 n := callB_of n hts (bg_good k1) rfl rfl rfl (hts _ k2) (hts _ k5) k6 hroom2
      exact call_go (rest := st) (va_runS (As := As) ⟨hx, hb, hml, hown, hts⟩ hMet ⟨cb, hts _ k3⟩ ⟨pm_blind _ _ _, pm_pre hV hZ hP hS⟩ rfl hn hl.1 hst (lv_room hroom) hd hcs) hS (fun H1 locs1 hP1 hS1 => kk r M1 ⟨w, ho, hF⟩ ls H1 locs1 hl hP1 hS1)
    · have cb : va_CN R s args own idx y host cy maxL ret (wy y cy maxL ret) (rmd dc) 0 0 n := va_cnB n hts (bg_good k1) rfl rfl rfl (hV.2 _ k5) (hts _ k2) k6 hroom2
      exact call_go (rest := st) (va_runSN (As := As) ⟨hx, hb, hml, hown, hts⟩ hMet ⟨cb, hts _ k3, trivial⟩ ⟨pm_blind _ _ _, pm_pre hV hZ hP hS⟩ rfl hn hl.1 hst (lv_room hroom) hd hcs) hS (fun H1 locs1 hP1 hS1 => kk r M1 ⟨w, ho, hF⟩ ls H1 locs1 hl hP1 hS1)
theorem r_min {idx : Nat} {x1 y : Int32} (X : CX x cc own d) (hlink : Cond.methodLink own idx Lib.Math.min.name ∈ BG) (h2 : Cond.static Lib.Math.min.name ∈ BG) (h3 : Cond.initialized "java/lang/Math" ∈ BG) (h4 : Cond.code Lib.Math.min.name Lib.Math.min.code 2 (some .int) ∈ BG) (hdd : 1 ≤ d) (hroom : (st.map fun v => v.category).sum ≤ 8) (hd : decode cc pc = .ok (.invokestatic idx, 3)) (kk : SIM x F o (pc + 3) lv (.int (if y < x1 then y else x1) :: st) M) : SIM x F o pc lv (.int y :: .int x1 :: st) M := by
  obtain ⟨⟨p, l, e, R, s, m, args, below, meth, c⟩, g, Q, nL, cells, slots⟩ := x
  obtain ⟨hx, hb, hml, hown, hts, hR, hV, hZ, hJ⟩ := id X
  intro ho ls H locs hl hP hS
  exact va_mmin hx hb (hml.trans hl.1.symm) hown (hts _ hlink) (hts _ h2) (hts _ h3) (hts _ h4) (by have := hR.1; omega) (by have := hR.2.1; omega) hR.2.2.1 hR.2.2.2 hd (kk ho ls H locs hl hP hS)
theorem r_cpy {idx a0 a : Nat} {sp dp n : Int32} {K : Mm → Option α} (X : CX x cc own d) (hlink : Cond.methodLink own idx arraycopyName ∈ BG) (h1 : Cond.native arraycopyName ∈ BG) (h2 : Cond.static arraycopyName ∈ BG) (h3 : Cond.initialized "java/lang/System" ∈ BG) (ha0 : sh a0 = 0) (ha : sh a = 0) (hdd : 1 ≤ d) (hroom : (st.map fun v => v.category).sum ≤ 8) (hd : decode cc pc = .ok (.invokestatic idx, 3)) (kk : ∀ M1, SIM x F (K M1) (pc + 3) lv st M1) : SIM x F (cpA M a0 sp a dp n K) pc lv (.int n :: .int dp :: rf x.2.1 a :: .int sp :: rf x.2.1 a0 :: st) M := by
  obtain ⟨⟨p, l, e, R, s, m, args, below, meth, c⟩, g, Q, nL, cells, slots⟩ := x
  obtain ⟨hx, hb, hml, hown, hts, hR, hV, hZ, hJ⟩ := id X
  intro ho ls H locs hl hP hS
  obtain ⟨w, ho, hF⟩ := ho
  unfold cpA at ho
  by_cases h0 : ¬ sp < 0 ∧ ¬ dp < 0 ∧ ¬ n < 0 ∧ sp.toNatClampNeg + n.toNatClampNeg ≤ ln a0 ∧ dp.toNatClampNeg + n.toNatClampNeg ≤ ln a
  · rw [if_pos h0] at ho
    have he0 := wsM_at g.2.1 g.2.2.1 M (sh_lt (by rw [ha0]; decide))
    rw [ent_arr ha0 (by decide)] at he0
    have he := wsM_at g.2.1 g.2.2.1 M (sh_lt (by rw [ha]; decide))
    rw [ent_arr ha (by decide)] at he
    have hset : (wsM g.2.1 g.2.2.1 M).set a (g.2.1 a, .inl (g.2.2.1 0, ln a, .inl (va_cpy (M.1 a0) (M.1 a) sp.toNatClampNeg dp.toNatClampNeg n.toNatClampNeg))) = wsM g.2.1 g.2.2.1 (wC M a0 a sp.toNatClampNeg dp.toNatClampNeg n.toNatClampNeg) := by
      refine wsM_set _ _ _ _ ?_ (fun b hb => ent_off (wC_ne hb) rfl rfl)
      rw [ent_arr ha (by decide), wC_eq]
    refine va_copyi (ty := .int) hx hb (hml.trans hl.1.symm) hown (hts _ hlink) (hts _ h1) (hts _ h2) (hts _ h3) hV.1 hP (wsM_D hJ M) hS a0 a 0 0 he0 he rfl rfl rfl h0.1 h0.2.1 h0.2.2.1 h0.2.2.2.1 h0.2.2.2.2 (fun _ _ => rfl) (by have := hR.1; omega) (by have := hR.2.1; have := nfw; omega) hd (fun H1 locs1 hP1 _ hS1 => ?_)
    rw [hset] at hP1
    exact kk _ ⟨w, ho, hF⟩ ls H1 locs1 hl hP1 hS1
  · rw [if_neg h0] at ho
    cases ho
end
/-! RETURNS -/
def RTI {α : Type} (x : SB) (cc : ByteArray) (rt : FieldType) (F : α → Prop) (mk : Int32 × Mm → α) : Prop := ∀ (v : Int32) (M : Mm), F (mk (v, M)) → narrow rt (.int v) = .int v → ∀ (pc : Nat) (ls : Array Slot) (H : Heap) (locs : List Loc), decode cc pc = .ok (.ireturn, 1) → PW x.2.1 M H → SH x H locs → SW x H locs pc ls [.int v]
def RTJ {α : Type} (x : SB) (cc : ByteArray) (F : α → Prop) (mk : Int64 × Mm → α) : Prop := ∀ (v : Int64) (M : Mm), F (mk (v, M)) → ∀ (pc : Nat) (ls : Array Slot) (H : Heap) (locs : List Loc), decode cc pc = .ok (.lreturn, 1) → PW x.2.1 M H → SH x H locs → SW x H locs pc ls [.long v]
def RTV {α : Type} (x : SB) (cc : ByteArray) (F : α → Prop) (mk : Unit × Mm → α) : Prop := ∀ (M : Mm), F (mk ((), M)) → ∀ (pc : Nat) (ls : Array Slot) (H : Heap) (locs : List Loc), decode cc pc = .ok (.return_, 1) → PW x.2.1 M H → SH x H locs → SW x H locs pc ls []
section
variable {α : Type} {x : SB} {F : α → Prop} {cc : ByteArray} {pc : Nat} {lv : List (Nat × Value)} {M : Mm}
theorem r_iret {rt : FieldType} {mk : Int32 × Mm → α} {v : Int32} (Hr : RTI x cc rt F mk) (hn : narrow rt (.int v) = .int v) (hd : decode cc pc = .ok (.ireturn, 1)) : SIM x F (some (mk (v, M))) pc lv [.int v] M := by
  intro ho ls H locs hl hP hS
  obtain ⟨w, ho, hF⟩ := ho
  cases ho
  exact Hr v M hF hn pc ls H locs hd hP hS
theorem narrow_z {v : Int32} (h : v = 0 ∨ v = 1) : narrow .boolean (.int v) = .int v := by
  rcases h with rfl | rfl <;> rfl
theorem r_zret {mk : Int32 × Mm → α} {v : Int32} (Hr : RTI x cc .boolean F mk) (hd : decode cc pc = .ok (.ireturn, 1)) : SIM x F (rz v (some (mk (v, M)))) pc lv [.int v] M := by
  intro ho ls H locs hl hP hS
  obtain ⟨w, ho, hF⟩ := ho
  unfold rz at ho
  by_cases h0 : v = 0 ∨ v = 1
  · rw [if_pos h0] at ho
    cases ho
    exact Hr v M hF (narrow_z h0) pc ls H locs hd hP hS
  · rw [if_neg h0] at ho
    cases ho
theorem r_lret {mk : Int64 × Mm → α} {v : Int64} (Hr : RTJ x cc F mk) (hd : decode cc pc = .ok (.lreturn, 1)) : SIM x F (some (mk (v, M))) pc lv [.long v] M := by
  intro ho ls H locs hl hP hS
  obtain ⟨w, ho, hF⟩ := ho
  cases ho
  exact Hr v M hF pc ls H locs hd hP hS
theorem r_vret {mk : Unit × Mm → α} (Hr : RTV x cc F mk) (hd : decode cc pc = .ok (.return_, 1)) : SIM x F (some (mk ((), M))) pc lv [] M := by
  intro ho ls H locs hl hP hS
  obtain ⟨w, ho, hF⟩ := ho
  cases ho
  exact Hr M hF pc ls H locs hd hP hS
end
/-! A CONTRACT out of the walk of a body -/
section
variable {l : Launch} {g : GX} {y : MethodName} {cc : ByteArray} {maxL d : Nat} {As : List Value} {M : Mm}
theorem ct_go {α : Type} {ret : Option FieldType} {f : Option (α × Mm)} {mk : α → Option Value} (hy : plainName y.cls = true) (hJ : IJ g) (hlen : (lg_sl As).length ≤ maxL)
    (body : ∀ (x : SB) (r : α) (M1 : Mm), x.2.1 = g → x.2.2.2.1 = maxL → x.1.2.1 = l → CX x cc y.cls d → f = some (r, M1) → x.2.2.1 = MQ x.1.2.2.2.2.2.2.2.1 (Qm g (mk r) M1) x.1.2.2.2.2.2.2.1 x.1.2.2.2.2.1 0 0 g.2.2.2 → x.2.2.2.2.1 = 0 → x.2.2.2.2.2 = 0 → x.1.2.2.2.2.2.2.2.2.1.sig.returnType = ret → x.1.2.2.2.2.2.2.2.2.1.locks = false → x.1.2.2.2.2.2.2.2.2.2.code = cc → x.1.1.tables.exec = Jvm.exec → ∀ (ls : Array Slot), lv_has ls maxL (lv_args 0 As) → PW g M x.1.2.2.2.2.1.heap → SW x x.1.2.2.2.2.1.heap [] 0 ls []) : CT l g y cc maxL ret d As M f mk := by
  intro r M1 hf
  refine Met.ofW (cc := cc) (maxL := maxL) (ret := ret) hy rfl ?_
  intro p e s m args below meth c s₁ B hml hv
  obtain ⟨rfl, hP, hV, hZ⟩ := hv
  have hts := atoms_spec (ws := wy y cc maxL ret) B.pre
  rw [lg_entry_eq]
  exact body ((p, l, e, rmd d, s, m, As.toArray, below, meth, c), g, MQ below (Qm g (mk r) M1) As.toArray s 0 0 g.2.2.2, maxL, 0, 0) r M1 rfl rfl rfl
    ⟨B.exec, B.bytes, hml, findClass_of_methodNamed B.named, fun w h => hts w (List.mem_cons_of_mem _ h), ⟨Nat.le_refl _, Nat.le_refl _, Nat.le_refl _, Nat.le_refl _⟩, hV, hZ, hJ⟩ hf rfl rfl rfl B.returns B.notSynchronized B.bytes B.exec _ (lv_entry As hlen) hP
theorem ct_I {rt : FieldType} {f : Option (Int32 × Mm)} (hy : plainName y.cls = true) (hJ : IJ g) (hlen : (lg_sl As).length ≤ maxL)
    (body : ∀ (x : SB) (r : Int32 × Mm), x.2.1 = g → x.2.2.2.1 = maxL → x.1.2.1 = l → CX x cc y.cls d → f = some r → RTI x cc rt (fun q : Int32 × Mm => q = r) (fun q => q) → SIM x (fun _ : Unit => True) (some ()) 0 (lv_args 0 As) [] M) : CT l g y cc maxL (some rt) d As M f (fun r => some (.int r)) := by
  refine ct_go hy hJ hlen ?_
  intro x r M1 hg hL hl X hf hQ hc hs hr hlk hcode hexec ls hls hP
  obtain ⟨⟨p, l, e, R, s, m, args, below, meth, c⟩, g, Q, nL, cells, slots⟩ := x
  subst hg; subst hL; subst hl
  refine body _ (r, M1) rfl rfl rfl X hf ?_ ⟨(), rfl, trivial⟩ ls _ [] hls hP va_S.rf
  intro v M2 hq hn pc ls2 H locs hd hP2 hS2
  cases hq
  have hQ : Q = MQ below (Qm g (some (.int r)) M1) args s 0 0 g.2.2.2 := hQ
  have hc : cells = 0 := hc
  have hs : slots = 0 := hs
  subst hQ; subst hc; subst hs
  exact W.zret (Qc := Qm g (some (.int r)) M1) hexec hcode hr hn (fun t ht hW => ⟨rfl, by rw [ht]; exact hP2, va_S.F hS2 ht⟩) hS2.2.2 hd hlk
theorem ct_J {f : Option (Int64 × Mm)} (hy : plainName y.cls = true) (hJ : IJ g) (hlen : (lg_sl As).length ≤ maxL)
    (body : ∀ (x : SB) (r : Int64 × Mm), x.2.1 = g → x.2.2.2.1 = maxL → x.1.2.1 = l → CX x cc y.cls d → f = some r → RTJ x cc (fun q : Int64 × Mm => q = r) (fun q => q) → SIM x (fun _ : Unit => True) (some ()) 0 (lv_args 0 As) [] M) : CT l g y cc maxL (some .long) d As M f (fun r => some (.long r)) := by
  refine ct_go hy hJ hlen ?_
  intro x r M1 hg hL hl X hf hQ hc hs hr hlk hcode hexec ls hls hP
  obtain ⟨⟨p, l, e, R, s, m, args, below, meth, c⟩, g, Q, nL, cells, slots⟩ := x
  subst hg; subst hL; subst hl
  refine body _ (r, M1) rfl rfl rfl X hf ?_ ⟨(), rfl, trivial⟩ ls _ [] hls hP va_S.rf
  intro v M2 hq pc ls2 H locs hd hP2 hS2
  cases hq
  have hQ : Q = MQ below (Qm g (some (.long r)) M1) args s 0 0 g.2.2.2 := hQ
  have hc : cells = 0 := hc
  have hs : slots = 0 := hs
  subst hQ; subst hc; subst hs
  exact W.lret (Qc := Qm g (some (.long r)) M1) hexec hcode hr (fun t ht hW => ⟨rfl, by rw [ht]; exact hP2, va_S.F hS2 ht⟩) hS2.2.2 hd hlk
theorem ct_V {f : Option (Unit × Mm)} (hy : plainName y.cls = true) (hJ : IJ g) (hlen : (lg_sl As).length ≤ maxL)
    (body : ∀ (x : SB) (r : Unit × Mm), x.2.1 = g → x.2.2.2.1 = maxL → x.1.2.1 = l → CX x cc y.cls d → f = some r → RTV x cc (fun q : Unit × Mm => q = r) (fun q => q) → SIM x (fun _ : Unit => True) (some ()) 0 (lv_args 0 As) [] M) : CT l g y cc maxL none d As M f (fun _ => none) := by
  refine ct_go hy hJ hlen ?_
  intro x r M1 hg hL hl X hf hQ hc hs hr hlk hcode hexec ls hls hP
  obtain ⟨⟨p, l, e, R, s, m, args, below, meth, c⟩, g, Q, nL, cells, slots⟩ := x
  subst hg; subst hL; subst hl
  refine body _ (r, M1) rfl rfl rfl X hf ?_ ⟨(), rfl, trivial⟩ ls _ [] hls hP va_S.rf
  intro M2 hq pc ls2 H locs hd hP2 hS2
  cases hq
  have hQ : Q = MQ below (Qm g none M1) args s 0 0 g.2.2.2 := hQ
  have hc : cells = 0 := hc
  have hs : slots = 0 := hs
  subst hQ; subst hc; subst hs
  exact W.vret (Qc := Qm g none M1) hexec hcode hr (fun t ht hW => ⟨rfl, by rw [ht]; exact hP2, va_S.F hS2 ht⟩) hS2.2.2 hd hlk
end
end
section
/-! SWITCHES, calls by the sort of the answer, loops' heads -/
theorem i32_ne {y k : Int32} {n : Int} (h : ¬ y = k) (hk : k.toInt = n) : ¬ y.toInt = n := fun e => h (Int32.toInt_inj.mp (e.trans hk.symm))
theorem nlt {a b n : Nat} (h : a = b) (h2 : n < b) : n < a := h ▸ h2
section
variable {α β : Type} {x : SB} {F : α → Prop} {o : Option α} {cc : ByteArray} {own : String} {d pc : Nat} {lv : List (Nat × Value)} {st : List Value} {M : Mm}
theorem r_tsw {dflt lo hi off : Int} {offs : Array Int} {len : Nat} {y : Int32} {o1 o2 : Option α} (k : Int32) (tgt : Nat) (X : CX x cc own d) (hd : decode cc pc = .ok (.tableswitch dflt lo hi offs, len)) (h1 : ¬ k.toInt < lo) (h2 : ¬ hi < k.toInt) (hof : offs[(k.toInt - lo).toNat]? = some off) (ht : (pc : Int) + off = (tgt : Int)) (kt : SIM x F o1 tgt lv st M) (kf : ¬ y = k → SIM x F o2 pc lv (.int y :: st) M) : SIM x F (if y = k then o1 else o2) pc lv (.int y :: st) M := by
  obtain ⟨⟨p, l, e, R, s, m, args, below, meth, c⟩, g, Q, nL, cells, slots⟩ := x
  obtain ⟨hx, hb, hml, hown, hts, hR, hV, hZ, hJ⟩ := id X
  intro ho ls H locs hl hP hS
  obtain ⟨w, ho, hF⟩ := ho
  by_cases h0 : y = k
  · rw [if_pos h0] at ho
    subst h0
    exact lv_tableIn hx hb hd h1 h2 hof ht (kt ⟨w, ho, hF⟩ ls H locs hl hP hS)
  · rw [if_neg h0] at ho
    exact kf h0 ⟨w, ho, hF⟩ ls H locs hl hP hS
theorem r_tswd {dflt lo hi : Int} {offs : Array Int} {len : Nat} {y : Int32} (tgt : Nat) (X : CX x cc own d) (hd : decode cc pc = .ok (.tableswitch dflt lo hi offs, len)) (h : y.toInt < lo ∨ hi < y.toInt) (ht : (pc : Int) + dflt = (tgt : Int)) (kk : SIM x F o tgt lv st M) : SIM x F o pc lv (.int y :: st) M := by
  obtain ⟨⟨p, l, e, R, s, m, args, below, meth, c⟩, g, Q, nL, cells, slots⟩ := x
  obtain ⟨hx, hb, hml, hown, hts, hR, hV, hZ, hJ⟩ := id X
  intro ho ls H locs hl hP hS
  exact lv_tableOut hx hb hd h ht (kk ho ls H locs hl hP hS)
theorem r_lsw {dflt off : Int} {ps : Array (Int × Int)} {len : Nat} {y : Int32} {o1 o2 : Option α} (k : Int32) (tgt : Nat) (X : CX x cc own d) (hd : decode cc pc = .ok (.lookupswitch dflt ps, len)) (hp : (ps.toList.zip (ps.toList.drop 1)).all (fun (a, next) => a.1 < next.1) = true) (hof : Op.lookupswitch.offset ps.toList dflt k.toInt = off) (ht : (pc : Int) + off = (tgt : Int)) (kt : SIM x F o1 tgt lv st M) (kf : ¬ y = k → SIM x F o2 pc lv (.int y :: st) M) : SIM x F (if y = k then o1 else o2) pc lv (.int y :: st) M := by
  obtain ⟨⟨p, l, e, R, s, m, args, below, meth, c⟩, g, Q, nL, cells, slots⟩ := x
  obtain ⟨hx, hb, hml, hown, hts, hR, hV, hZ, hJ⟩ := id X
  intro ho ls H locs hl hP hS
  obtain ⟨w, ho, hF⟩ := ho
  by_cases h0 : y = k
  · rw [if_pos h0] at ho
    subst h0
    exact lv_lookup hx hb hd hp hof ht (kt ⟨w, ho, hF⟩ ls H locs hl hP hS)
  · rw [if_neg h0] at ho
    exact kf h0 ⟨w, ho, hF⟩ ls H locs hl hP hS
theorem r_lswd {dflt : Int} {ps : Array (Int × Int)} {len : Nat} {y : Int32} (tgt : Nat) (X : CX x cc own d) (hd : decode cc pc = .ok (.lookupswitch dflt ps, len)) (hp : (ps.toList.zip (ps.toList.drop 1)).all (fun (a, next) => a.1 < next.1) = true) (hof : Op.lookupswitch.offset ps.toList dflt y.toInt = dflt) (ht : (pc : Int) + dflt = (tgt : Int)) (kk : SIM x F o tgt lv st M) : SIM x F o pc lv (.int y :: st) M := by
  obtain ⟨⟨p, l, e, R, s, m, args, below, meth, c⟩, g, Q, nL, cells, slots⟩ := x
  obtain ⟨hx, hb, hml, hown, hts, hR, hV, hZ, hJ⟩ := id X
  intro ho ls H locs hl hP hS
  exact lv_lookup hx hb hd hp hof ht (kk ho ls H locs hl hP hS)
theorem r_callVI {f : Option (Int32 × Mm)} {K : Int32 → Mm → Option α} {idx ci a dc maxL n : Nat} {y : MethodName} {cy : ByteArray} {ret : Option FieldType} (As : List Value) (X : CX x cc own d) (hM : MV own idx ci y cy maxL ret n) (hci : 10 + ci < 99) (ha : sh a = 10 + ci) (hdd : dc + 1 ≤ d) (hct : CT x.1.2.1 x.2.1 y cy maxL ret dc (rf x.2.1 a :: As) M f (fun r => some (.int r))) (hn : As.length = n) (hroom : (st.map fun v => v.category).sum ≤ 8) (hd : decode cc pc = .ok (.invokevirtual idx, 3)) {st0 : List Value} (hst : st0 = As.reverse ++ rf x.2.1 a :: st)
    (kk : ∀ r M1, SIM x F (K r M1) (pc + 3) lv (.int r :: st) M1) : SIM x F (cal f K) pc lv st0 M := r_callV (mk := (fun r => some (.int r))) As X hM hci ha hdd hct hn hroom hd hst kk
theorem r_callSI {f : Option (Int32 × Mm)} {K : Int32 → Mm → Option α} {idx dc maxL n : Nat} {y : MethodName} {cy : ByteArray} {ret : Option FieldType} (As : List Value) (X : CX x cc own d) (hM : MS own idx y cy maxL ret n) (hdd : dc + 1 ≤ d) (hct : CT x.1.2.1 x.2.1 y cy maxL ret dc As M f (fun r => some (.int r))) (hn : As.length = n) (hroom : (st.map fun v => v.category).sum ≤ 8) (hd : decode cc pc = .ok (.invokestatic idx, 3)) {st0 : List Value} (hst : st0 = As.reverse ++ st)
    (kk : ∀ r M1, SIM x F (K r M1) (pc + 3) lv (.int r :: st) M1) : SIM x F (cal f K) pc lv st0 M := r_callS (mk := (fun r => some (.int r))) As X hM hdd hct hn hroom hd hst kk
theorem r_callVJ {f : Option (Int64 × Mm)} {K : Int64 → Mm → Option α} {idx ci a dc maxL n : Nat} {y : MethodName} {cy : ByteArray} {ret : Option FieldType} (As : List Value) (X : CX x cc own d) (hM : MV own idx ci y cy maxL ret n) (hci : 10 + ci < 99) (ha : sh a = 10 + ci) (hdd : dc + 1 ≤ d) (hct : CT x.1.2.1 x.2.1 y cy maxL ret dc (rf x.2.1 a :: As) M f (fun r => some (.long r))) (hn : As.length = n) (hroom : (st.map fun v => v.category).sum ≤ 8) (hd : decode cc pc = .ok (.invokevirtual idx, 3)) {st0 : List Value} (hst : st0 = As.reverse ++ rf x.2.1 a :: st)
    (kk : ∀ r M1, SIM x F (K r M1) (pc + 3) lv (.long r :: st) M1) : SIM x F (cal f K) pc lv st0 M := r_callV (mk := (fun r => some (.long r))) As X hM hci ha hdd hct hn hroom hd hst kk
theorem r_callSJ {f : Option (Int64 × Mm)} {K : Int64 → Mm → Option α} {idx dc maxL n : Nat} {y : MethodName} {cy : ByteArray} {ret : Option FieldType} (As : List Value) (X : CX x cc own d) (hM : MS own idx y cy maxL ret n) (hdd : dc + 1 ≤ d) (hct : CT x.1.2.1 x.2.1 y cy maxL ret dc As M f (fun r => some (.long r))) (hn : As.length = n) (hroom : (st.map fun v => v.category).sum ≤ 8) (hd : decode cc pc = .ok (.invokestatic idx, 3)) {st0 : List Value} (hst : st0 = As.reverse ++ st)
    (kk : ∀ r M1, SIM x F (K r M1) (pc + 3) lv (.long r :: st) M1) : SIM x F (cal f K) pc lv st0 M := r_callS (mk := (fun r => some (.long r))) As X hM hdd hct hn hroom hd hst kk
theorem r_callVV {f : Option (Unit × Mm)} {K : Unit → Mm → Option α} {idx ci a dc maxL n : Nat} {y : MethodName} {cy : ByteArray} {ret : Option FieldType} (As : List Value) (X : CX x cc own d) (hM : MV own idx ci y cy maxL ret n) (hci : 10 + ci < 99) (ha : sh a = 10 + ci) (hdd : dc + 1 ≤ d) (hct : CT x.1.2.1 x.2.1 y cy maxL ret dc (rf x.2.1 a :: As) M f (fun _ => none)) (hn : As.length = n) (hroom : (st.map fun v => v.category).sum ≤ 8) (hd : decode cc pc = .ok (.invokevirtual idx, 3)) {st0 : List Value} (hst : st0 = As.reverse ++ rf x.2.1 a :: st)
    (kk : ∀ r M1, SIM x F (K r M1) (pc + 3) lv (st) M1) : SIM x F (cal f K) pc lv st0 M := r_callV (mk := (fun _ => none)) As X hM hci ha hdd hct hn hroom hd hst kk
theorem r_callSV {f : Option (Unit × Mm)} {K : Unit → Mm → Option α} {idx dc maxL n : Nat} {y : MethodName} {cy : ByteArray} {ret : Option FieldType} (As : List Value) (X : CX x cc own d) (hM : MS own idx y cy maxL ret n) (hdd : dc + 1 ≤ d) (hct : CT x.1.2.1 x.2.1 y cy maxL ret dc As M f (fun _ => none)) (hn : As.length = n) (hroom : (st.map fun v => v.category).sum ≤ 8) (hd : decode cc pc = .ok (.invokestatic idx, 3)) {st0 : List Value} (hst : st0 = As.reverse ++ st)
    (kk : ∀ r M1, SIM x F (K r M1) (pc + 3) lv (st) M1) : SIM x F (cal f K) pc lv st0 M := r_callS (mk := (fun _ => none)) As X hM hdd hct hn hroom hd hst kk
end
section
variable {σ ρ : Type} {x : SB} {F : σ ⊕ ρ → Prop} {pc : Nat} {lv : List (Nat × Value)} {M : Mm}
theorem r_hdr {q : σ} (lv2 : List (Nat × Value)) (ks : List Nat) (h : lv_pick lv ks = lv2) (HH : F (.inl q) → ∀ (ls : Array Slot) (H : Heap) (locs : List Loc), lv_has ls x.2.2.2.1 lv2 → PW x.2.1 M H → SH x H locs → SW x H locs pc ls []) : SIM x F (some (.inl q)) pc lv [] M := by
  intro ho ls H locs hl hP hS
  obtain ⟨w, ho, hF⟩ := ho
  cases ho
  exact HH hF ls H locs (lv_sub hl ks h) hP hS
end
/-- a method with loops: its entry, then the heads -/
noncomputable def fen {σ ρ : Type} (g : σ → Option (σ ⊕ ρ)) (o : Option (σ ⊕ ρ)) : Option ρ := match o with
  | none => none
  | some (.inl q) => fnl g q
  | some (.inr r) => some r
theorem fnl_none {σ ρ : Type} {f : σ → Option (σ ⊕ ρ)} {x : σ} (h : f x = none) : fnl f x = none := by
  cases hx : fnl f x with
  | none => rfl
  | some r =>
    obtain ⟨n, hn⟩ := fnl_run hx
    cases n with
    | zero => cases hn
    | succ n =>
      unfold fn_run at hn
      rw [h] at hn
      cases hn
theorem fnl_eq {σ ρ : Type} (f : σ → Option (σ ⊕ ρ)) (x : σ) : fnl f x = fen f (f x) := by
  cases hf : f x with
  | none => exact fnl_none hf
  | some w => cases w with
    | inl y => exact fnl_in hf
    | inr r => exact fnl_out hf
theorem fen_w {σ ρ : Type} {f : σ → Option (σ ⊕ ρ)} {o : Option (σ ⊕ ρ)} {r : ρ} {P : σ → Prop} (h : fen f o = some r) (hP : ∀ q, fnl f q = some r → P q) : ∃ w, o = some w ∧ Sum.elim P (fun q => q = r) w := by
  cases o with
  | none => cases h
  | some w => cases w with
    | inl q => exact ⟨_, rfl, hP q h⟩
    | inr q => exact ⟨_, rfl, Option.some.inj h⟩
end
