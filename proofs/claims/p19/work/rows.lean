section
-- ===== PART A: goes FIRST, ahead of the names: the tables' words, and 'selects' of the private methods out of them =====
/-- a private method of a class that the tables say can be made, by its rows of tables_1 -/
def lw_okq (q : MethodName × Nat) : Prop := (q.1.cls ≠ "java/lang/invoke/MethodHandle" ∧ q.1.cls ≠ "java/lang/invoke/VarHandle") ∧ Cond.instantiable q.1.cls q.2 ∈ tables_1 ∧ Cond.privateMethod q.1 ∈ tables_1 ∧ Cond.instanceMethod q.1 ∈ tables_1
theorem lw_p0 : lw_okq (⟨"BayMoorings", "finding", "(I)I"⟩, 10) := ⟨⟨by decide +kernel, by decide +kernel⟩, List.mem_of_getElem? (i := 19) (by decide +kernel), List.mem_of_getElem? (i := 224) (by decide +kernel), List.mem_of_getElem? (i := 225) (by decide +kernel)⟩
theorem lw_p1 : lw_okq (⟨"BayMoorings$Bay", "isEarlierTide", "(I)Z"⟩, 9) := ⟨⟨by decide +kernel, by decide +kernel⟩, List.mem_of_getElem? (i := 27) (by decide +kernel), List.mem_of_getElem? (i := 430) (by decide +kernel), List.mem_of_getElem? (i := 431) (by decide +kernel)⟩
theorem lw_p2 : lw_okq (⟨"BayMoorings$Bay", "mayMeet", "(IIII)Z"⟩, 9) := ⟨⟨by decide +kernel, by decide +kernel⟩, List.mem_of_getElem? (i := 27) (by decide +kernel), List.mem_of_getElem? (i := 509) (by decide +kernel), List.mem_of_getElem? (i := 510) (by decide +kernel)⟩
theorem lw_p3 : lw_okq (⟨"BayMoorings$Bay", "blows", "(I)Z"⟩, 9) := ⟨⟨by decide +kernel, by decide +kernel⟩, List.mem_of_getElem? (i := 27) (by decide +kernel), List.mem_of_getElem? (i := 519) (by decide +kernel), List.mem_of_getElem? (i := 520) (by decide +kernel)⟩
theorem lw_p4 : lw_okq (⟨"BayMoorings$Search", "openAtFirst", "(LBayMoorings$Boat;)I"⟩, 8) := ⟨⟨by decide +kernel, by decide +kernel⟩, List.mem_of_getElem? (i := 114) (by decide +kernel), List.mem_of_getElem? (i := 580) (by decide +kernel), List.mem_of_getElem? (i := 581) (by decide +kernel)⟩
theorem lw_p5 : lw_okq (⟨"BayMoorings$Search", "settle", "(II)V"⟩, 8) := ⟨⟨by decide +kernel, by decide +kernel⟩, List.mem_of_getElem? (i := 114) (by decide +kernel), List.mem_of_getElem? (i := 587) (by decide +kernel), List.mem_of_getElem? (i := 588) (by decide +kernel)⟩
theorem lw_p6 : lw_okq (⟨"BayMoorings$Search", "keepIfBetter", "(I)V"⟩, 8) := ⟨⟨by decide +kernel, by decide +kernel⟩, List.mem_of_getElem? (i := 114) (by decide +kernel), List.mem_of_getElem? (i := 591) (by decide +kernel), List.mem_of_getElem? (i := 592) (by decide +kernel)⟩
theorem lw_p7 : lw_okq (⟨"BayMoorings$Search", "hopefulFrom", "(I)I"⟩, 8) := ⟨⟨by decide +kernel, by decide +kernel⟩, List.mem_of_getElem? (i := 114) (by decide +kernel), List.mem_of_getElem? (i := 598) (by decide +kernel), List.mem_of_getElem? (i := 599) (by decide +kernel)⟩
theorem lw_p8 : lw_okq (⟨"BayMoorings$Search", "narrow", "(II)V"⟩, 8) := ⟨⟨by decide +kernel, by decide +kernel⟩, List.mem_of_getElem? (i := 114) (by decide +kernel), List.mem_of_getElem? (i := 602) (by decide +kernel), List.mem_of_getElem? (i := 603) (by decide +kernel)⟩
theorem lw_p9 : lw_okq (⟨"BayMoorings$Search", "barredBy", "(III)I"⟩, 8) := ⟨⟨by decide +kernel, by decide +kernel⟩, List.mem_of_getElem? (i := 114) (by decide +kernel), List.mem_of_getElem? (i := 606) (by decide +kernel), List.mem_of_getElem? (i := 607) (by decide +kernel)⟩
theorem lw_p10 : lw_okq (⟨"BayMoorings", "offeredBoat", "(I)I"⟩, 10) := ⟨⟨by decide +kernel, by decide +kernel⟩, List.mem_of_getElem? (i := 19) (by decide +kernel), List.mem_of_getElem? (i := 632) (by decide +kernel), List.mem_of_getElem? (i := 633) (by decide +kernel)⟩
theorem lw_p11 : lw_okq (⟨"BayMoorings$Rings", "pointAll", "()V"⟩, 4) := ⟨⟨by decide +kernel, by decide +kernel⟩, List.mem_of_getElem? (i := 147) (by decide +kernel), List.mem_of_getElem? (i := 699) (by decide +kernel), List.mem_of_getElem? (i := 700) (by decide +kernel)⟩
theorem lw_p12 : lw_okq (⟨"BayMoorings$Rings", "isLeft", "(I)Z"⟩, 4) := ⟨⟨by decide +kernel, by decide +kernel⟩, List.mem_of_getElem? (i := 147) (by decide +kernel), List.mem_of_getElem? (i := 703) (by decide +kernel), List.mem_of_getElem? (i := 704) (by decide +kernel)⟩
theorem lw_p13 : lw_okq (⟨"BayMoorings$Rings", "holderOfWish", "(LBayMoorings$Boat;)I"⟩, 4) := ⟨⟨by decide +kernel, by decide +kernel⟩, List.mem_of_getElem? (i := 147) (by decide +kernel), List.mem_of_getElem? (i := 709) (by decide +kernel), List.mem_of_getElem? (i := 710) (by decide +kernel)⟩
theorem lw_p14 : lw_okq (⟨"BayMoorings$Rings", "leastInRing", "()I"⟩, 4) := ⟨⟨by decide +kernel, by decide +kernel⟩, List.mem_of_getElem? (i := 147) (by decide +kernel), List.mem_of_getElem? (i := 717) (by decide +kernel), List.mem_of_getElem? (i := 718) (by decide +kernel)⟩
theorem lw_p15 : lw_okq (⟨"BayMoorings$Rings", "comesRound", "(I)Z"⟩, 4) := ⟨⟨by decide +kernel, by decide +kernel⟩, List.mem_of_getElem? (i := 147) (by decide +kernel), List.mem_of_getElem? (i := 721) (by decide +kernel), List.mem_of_getElem? (i := 722) (by decide +kernel)⟩
def lw_privs_1 : List (MethodName × Nat) := [(⟨"BayMoorings", "finding", "(I)I"⟩, 10), (⟨"BayMoorings$Bay", "isEarlierTide", "(I)Z"⟩, 9), (⟨"BayMoorings$Bay", "mayMeet", "(IIII)Z"⟩, 9), (⟨"BayMoorings$Bay", "blows", "(I)Z"⟩, 9), (⟨"BayMoorings$Search", "openAtFirst", "(LBayMoorings$Boat;)I"⟩, 8), (⟨"BayMoorings$Search", "settle", "(II)V"⟩, 8), (⟨"BayMoorings$Search", "keepIfBetter", "(I)V"⟩, 8), (⟨"BayMoorings$Search", "hopefulFrom", "(I)I"⟩, 8), (⟨"BayMoorings$Search", "narrow", "(II)V"⟩, 8), (⟨"BayMoorings$Search", "barredBy", "(III)I"⟩, 8), (⟨"BayMoorings", "offeredBoat", "(I)I"⟩, 10), (⟨"BayMoorings$Rings", "pointAll", "()V"⟩, 4), (⟨"BayMoorings$Rings", "isLeft", "(I)Z"⟩, 4), (⟨"BayMoorings$Rings", "holderOfWish", "(LBayMoorings$Boat;)I"⟩, 4), (⟨"BayMoorings$Rings", "leastInRing", "()I"⟩, 4), (⟨"BayMoorings$Rings", "comesRound", "(I)Z"⟩, 4)]
theorem lw_r1 : ∀ q ∈ lw_privs_1, lw_okq q := List.forall_mem_cons.mpr ⟨lw_p0, List.forall_mem_cons.mpr ⟨lw_p1, List.forall_mem_cons.mpr ⟨lw_p2, List.forall_mem_cons.mpr ⟨lw_p3, List.forall_mem_cons.mpr ⟨lw_p4, List.forall_mem_cons.mpr ⟨lw_p5, List.forall_mem_cons.mpr ⟨lw_p6, List.forall_mem_cons.mpr ⟨lw_p7, List.forall_mem_cons.mpr ⟨lw_p8, List.forall_mem_cons.mpr ⟨lw_p9, List.forall_mem_cons.mpr ⟨lw_p10, List.forall_mem_cons.mpr ⟨lw_p11, List.forall_mem_cons.mpr ⟨lw_p12, List.forall_mem_cons.mpr ⟨lw_p13, List.forall_mem_cons.mpr ⟨lw_p14, List.forall_mem_cons.mpr ⟨lw_p15, fun _ h => absurd h List.not_mem_nil⟩⟩⟩⟩⟩⟩⟩⟩⟩⟩⟩⟩⟩⟩⟩⟩
theorem lw_p16 : lw_okq (⟨"BayMoorings$Rings", "pointedAtBy", "(I)I"⟩, 4) := ⟨⟨by decide +kernel, by decide +kernel⟩, List.mem_of_getElem? (i := 147) (by decide +kernel), List.mem_of_getElem? (i := 725) (by decide +kernel), List.mem_of_getElem? (i := 726) (by decide +kernel)⟩
theorem lw_p17 : lw_okq (⟨"BayMoorings$Rings", "takeRing", "(I)V"⟩, 4) := ⟨⟨by decide +kernel, by decide +kernel⟩, List.mem_of_getElem? (i := 147) (by decide +kernel), List.mem_of_getElem? (i := 729) (by decide +kernel), List.mem_of_getElem? (i := 730) (by decide +kernel)⟩
theorem lw_p18 : lw_okq (⟨"BayMoorings$Flight", "refugeOf", "(LBayMoorings$Boat;I)I"⟩, 3) := ⟨⟨by decide +kernel, by decide +kernel⟩, List.mem_of_getElem? (i := 166) (by decide +kernel), List.mem_of_getElem? (i := 812) (by decide +kernel), List.mem_of_getElem? (i := 813) (by decide +kernel)⟩
theorem lw_p19 : lw_okq (⟨"BayMooringsModel", "finding", "(I)I"⟩, 38) := ⟨⟨by decide +kernel, by decide +kernel⟩, List.mem_of_getElem? (i := 851) (by decide +kernel), List.mem_of_getElem? (i := 980) (by decide +kernel), List.mem_of_getElem? (i := 981) (by decide +kernel)⟩
theorem lw_p20 : lw_okq (⟨"BayMooringsModel", "isBoat", "(I)Z"⟩, 38) := ⟨⟨by decide +kernel, by decide +kernel⟩, List.mem_of_getElem? (i := 851) (by decide +kernel), List.mem_of_getElem? (i := 994) (by decide +kernel), List.mem_of_getElem? (i := 995) (by decide +kernel)⟩
theorem lw_p21 : lw_okq (⟨"BayMooringsModel", "duesOf", "(I)I"⟩, 38) := ⟨⟨by decide +kernel, by decide +kernel⟩, List.mem_of_getElem? (i := 851) (by decide +kernel), List.mem_of_getElem? (i := 998) (by decide +kernel), List.mem_of_getElem? (i := 999) (by decide +kernel)⟩
theorem lw_p22 : lw_okq (⟨"BayMooringsModel", "placeOnList", "(I)I"⟩, 38) := ⟨⟨by decide +kernel, by decide +kernel⟩, List.mem_of_getElem? (i := 851) (by decide +kernel), List.mem_of_getElem? (i := 1015) (by decide +kernel), List.mem_of_getElem? (i := 1016) (by decide +kernel)⟩
theorem lw_p23 : lw_okq (⟨"BayMooringsModel", "isBuoy", "(I)Z"⟩, 38) := ⟨⟨by decide +kernel, by decide +kernel⟩, List.mem_of_getElem? (i := 851) (by decide +kernel), List.mem_of_getElem? (i := 1023) (by decide +kernel), List.mem_of_getElem? (i := 1024) (by decide +kernel)⟩
theorem lw_p24 : lw_okq (⟨"BayMooringsModel", "isParted", "(I)Z"⟩, 38) := ⟨⟨by decide +kernel, by decide +kernel⟩, List.mem_of_getElem? (i := 851) (by decide +kernel), List.mem_of_getElem? (i := 1027) (by decide +kernel), List.mem_of_getElem? (i := 1028) (by decide +kernel)⟩
theorem lw_p25 : lw_okq (⟨"BayMooringsModel", "slackOf", "(II)I"⟩, 38) := ⟨⟨by decide +kernel, by decide +kernel⟩, List.mem_of_getElem? (i := 851) (by decide +kernel), List.mem_of_getElem? (i := 1035) (by decide +kernel), List.mem_of_getElem? (i := 1036) (by decide +kernel)⟩
theorem lw_p26 : lw_okq (⟨"BayMooringsModel", "reachOf", "(I)I"⟩, 38) := ⟨⟨by decide +kernel, by decide +kernel⟩, List.mem_of_getElem? (i := 851) (by decide +kernel), List.mem_of_getElem? (i := 1042) (by decide +kernel), List.mem_of_getElem? (i := 1043) (by decide +kernel)⟩
theorem lw_p27 : lw_okq (⟨"BayMooringsModel", "canFit", "(II)Z"⟩, 38) := ⟨⟨by decide +kernel, by decide +kernel⟩, List.mem_of_getElem? (i := 851) (by decide +kernel), List.mem_of_getElem? (i := 1050) (by decide +kernel), List.mem_of_getElem? (i := 1051) (by decide +kernel)⟩
theorem lw_p28 : lw_okq (⟨"BayMooringsModel", "firstTouch", "(IIII)I"⟩, 38) := ⟨⟨by decide +kernel, by decide +kernel⟩, List.mem_of_getElem? (i := 851) (by decide +kernel), List.mem_of_getElem? (i := 1058) (by decide +kernel), List.mem_of_getElem? (i := 1059) (by decide +kernel)⟩
theorem lw_p29 : lw_okq (⟨"BayMooringsModel", "touchAt", "(IIIII)Z"⟩, 38) := ⟨⟨by decide +kernel, by decide +kernel⟩, List.mem_of_getElem? (i := 851) (by decide +kernel), List.mem_of_getElem? (i := 1062) (by decide +kernel), List.mem_of_getElem? (i := 1063) (by decide +kernel)⟩
theorem lw_p30 : lw_okq (⟨"BayMooringsModel", "isThere", "(I)Z"⟩, 38) := ⟨⟨by decide +kernel, by decide +kernel⟩, List.mem_of_getElem? (i := 851) (by decide +kernel), List.mem_of_getElem? (i := 1068) (by decide +kernel), List.mem_of_getElem? (i := 1069) (by decide +kernel)⟩
theorem lw_p31 : lw_okq (⟨"BayMooringsModel", "meet", "(IIIIII)Z"⟩, 38) := ⟨⟨by decide +kernel, by decide +kernel⟩, List.mem_of_getElem? (i := 851) (by decide +kernel), List.mem_of_getElem? (i := 1072) (by decide +kernel), List.mem_of_getElem? (i := 1073) (by decide +kernel)⟩
def lw_privs_2 : List (MethodName × Nat) := [(⟨"BayMoorings$Rings", "pointedAtBy", "(I)I"⟩, 4), (⟨"BayMoorings$Rings", "takeRing", "(I)V"⟩, 4), (⟨"BayMoorings$Flight", "refugeOf", "(LBayMoorings$Boat;I)I"⟩, 3), (⟨"BayMooringsModel", "finding", "(I)I"⟩, 38), (⟨"BayMooringsModel", "isBoat", "(I)Z"⟩, 38), (⟨"BayMooringsModel", "duesOf", "(I)I"⟩, 38), (⟨"BayMooringsModel", "placeOnList", "(I)I"⟩, 38), (⟨"BayMooringsModel", "isBuoy", "(I)Z"⟩, 38), (⟨"BayMooringsModel", "isParted", "(I)Z"⟩, 38), (⟨"BayMooringsModel", "slackOf", "(II)I"⟩, 38), (⟨"BayMooringsModel", "reachOf", "(I)I"⟩, 38), (⟨"BayMooringsModel", "canFit", "(II)Z"⟩, 38), (⟨"BayMooringsModel", "firstTouch", "(IIII)I"⟩, 38), (⟨"BayMooringsModel", "touchAt", "(IIIII)Z"⟩, 38), (⟨"BayMooringsModel", "isThere", "(I)Z"⟩, 38), (⟨"BayMooringsModel", "meet", "(IIIIII)Z"⟩, 38)]
theorem lw_r2 : ∀ q ∈ lw_privs_2, lw_okq q := List.forall_mem_cons.mpr ⟨lw_p16, List.forall_mem_cons.mpr ⟨lw_p17, List.forall_mem_cons.mpr ⟨lw_p18, List.forall_mem_cons.mpr ⟨lw_p19, List.forall_mem_cons.mpr ⟨lw_p20, List.forall_mem_cons.mpr ⟨lw_p21, List.forall_mem_cons.mpr ⟨lw_p22, List.forall_mem_cons.mpr ⟨lw_p23, List.forall_mem_cons.mpr ⟨lw_p24, List.forall_mem_cons.mpr ⟨lw_p25, List.forall_mem_cons.mpr ⟨lw_p26, List.forall_mem_cons.mpr ⟨lw_p27, List.forall_mem_cons.mpr ⟨lw_p28, List.forall_mem_cons.mpr ⟨lw_p29, List.forall_mem_cons.mpr ⟨lw_p30, List.forall_mem_cons.mpr ⟨lw_p31, fun _ h => absurd h List.not_mem_nil⟩⟩⟩⟩⟩⟩⟩⟩⟩⟩⟩⟩⟩⟩⟩⟩
theorem lw_p32 : lw_okq (⟨"BayMooringsModel", "mayLie", "(II[I)Z"⟩, 38) := ⟨⟨by decide +kernel, by decide +kernel⟩, List.mem_of_getElem? (i := 851) (by decide +kernel), List.mem_of_getElem? (i := 1084) (by decide +kernel), List.mem_of_getElem? (i := 1085) (by decide +kernel)⟩
theorem lw_p33 : lw_okq (⟨"BayMooringsModel", "lies", "(II)V"⟩, 38) := ⟨⟨by decide +kernel, by decide +kernel⟩, List.mem_of_getElem? (i := 851) (by decide +kernel), List.mem_of_getElem? (i := 1089) (by decide +kernel), List.mem_of_getElem? (i := 1090) (by decide +kernel)⟩
theorem lw_p34 : lw_okq (⟨"BayMooringsModel", "goesOff", "(I)V"⟩, 38) := ⟨⟨by decide +kernel, by decide +kernel⟩, List.mem_of_getElem? (i := 851) (by decide +kernel), List.mem_of_getElem? (i := 1093) (by decide +kernel), List.mem_of_getElem? (i := 1094) (by decide +kernel)⟩
theorem lw_p35 : lw_okq (⟨"BayMooringsModel", "findMay", "()V"⟩, 38) := ⟨⟨by decide +kernel, by decide +kernel⟩, List.mem_of_getElem? (i := 851) (by decide +kernel), List.mem_of_getElem? (i := 1105) (by decide +kernel), List.mem_of_getElem? (i := 1106) (by decide +kernel)⟩
theorem lw_p36 : lw_okq (⟨"BayMooringsModel", "touchingOf", "(III)I"⟩, 38) := ⟨⟨by decide +kernel, by decide +kernel⟩, List.mem_of_getElem? (i := 851) (by decide +kernel), List.mem_of_getElem? (i := 1109) (by decide +kernel), List.mem_of_getElem? (i := 1110) (by decide +kernel)⟩
theorem lw_p37 : lw_okq (⟨"BayMooringsModel", "findMost", "()V"⟩, 38) := ⟨⟨by decide +kernel, by decide +kernel⟩, List.mem_of_getElem? (i := 851) (by decide +kernel), List.mem_of_getElem? (i := 1113) (by decide +kernel), List.mem_of_getElem? (i := 1114) (by decide +kernel)⟩
theorem lw_p38 : lw_okq (⟨"BayMooringsModel", "canHave", "(II)Z"⟩, 38) := ⟨⟨by decide +kernel, by decide +kernel⟩, List.mem_of_getElem? (i := 851) (by decide +kernel), List.mem_of_getElem? (i := 1117) (by decide +kernel), List.mem_of_getElem? (i := 1118) (by decide +kernel)⟩
theorem lw_p39 : lw_okq (⟨"BayMooringsModel", "offeredTo", "(I)I"⟩, 38) := ⟨⟨by decide +kernel, by decide +kernel⟩, List.mem_of_getElem? (i := 851) (by decide +kernel), List.mem_of_getElem? (i := 1133) (by decide +kernel), List.mem_of_getElem? (i := 1134) (by decide +kernel)⟩
theorem lw_p40 : lw_okq (⟨"BayMooringsModel", "findRings", "()V"⟩, 38) := ⟨⟨by decide +kernel, by decide +kernel⟩, List.mem_of_getElem? (i := 851) (by decide +kernel), List.mem_of_getElem? (i := 1157) (by decide +kernel), List.mem_of_getElem? (i := 1158) (by decide +kernel)⟩
theorem lw_p41 : lw_okq (⟨"BayMooringsModel", "isRound", "(I)Z"⟩, 38) := ⟨⟨by decide +kernel, by decide +kernel⟩, List.mem_of_getElem? (i := 851) (by decide +kernel), List.mem_of_getElem? (i := 1161) (by decide +kernel), List.mem_of_getElem? (i := 1162) (by decide +kernel)⟩
theorem lw_p42 : lw_okq (⟨"BayMooringsModel", "pointed", "(I)I"⟩, 38) := ⟨⟨by decide +kernel, by decide +kernel⟩, List.mem_of_getElem? (i := 851) (by decide +kernel), List.mem_of_getElem? (i := 1165) (by decide +kernel), List.mem_of_getElem? (i := 1166) (by decide +kernel)⟩
theorem lw_p43 : lw_okq (⟨"BayMooringsModel", "partedMany", "()I"⟩, 38) := ⟨⟨by decide +kernel, by decide +kernel⟩, List.mem_of_getElem? (i := 851) (by decide +kernel), List.mem_of_getElem? (i := 1177) (by decide +kernel), List.mem_of_getElem? (i := 1178) (by decide +kernel)⟩
theorem lw_p44 : lw_okq (⟨"BayMooringsModel", "flee", "(I)I"⟩, 38) := ⟨⟨by decide +kernel, by decide +kernel⟩, List.mem_of_getElem? (i := 851) (by decide +kernel), List.mem_of_getElem? (i := 1198) (by decide +kernel), List.mem_of_getElem? (i := 1199) (by decide +kernel)⟩
theorem lw_p45 : lw_okq (⟨"BayMooringsModel", "holds", "(III)Z"⟩, 38) := ⟨⟨by decide +kernel, by decide +kernel⟩, List.mem_of_getElem? (i := 851) (by decide +kernel), List.mem_of_getElem? (i := 1202) (by decide +kernel), List.mem_of_getElem? (i := 1203) (by decide +kernel)⟩
def lw_privs_3 : List (MethodName × Nat) := [(⟨"BayMooringsModel", "mayLie", "(II[I)Z"⟩, 38), (⟨"BayMooringsModel", "lies", "(II)V"⟩, 38), (⟨"BayMooringsModel", "goesOff", "(I)V"⟩, 38), (⟨"BayMooringsModel", "findMay", "()V"⟩, 38), (⟨"BayMooringsModel", "touchingOf", "(III)I"⟩, 38), (⟨"BayMooringsModel", "findMost", "()V"⟩, 38), (⟨"BayMooringsModel", "canHave", "(II)Z"⟩, 38), (⟨"BayMooringsModel", "offeredTo", "(I)I"⟩, 38), (⟨"BayMooringsModel", "findRings", "()V"⟩, 38), (⟨"BayMooringsModel", "isRound", "(I)Z"⟩, 38), (⟨"BayMooringsModel", "pointed", "(I)I"⟩, 38), (⟨"BayMooringsModel", "partedMany", "()I"⟩, 38), (⟨"BayMooringsModel", "flee", "(I)I"⟩, 38), (⟨"BayMooringsModel", "holds", "(III)Z"⟩, 38)]
theorem lw_r3 : ∀ q ∈ lw_privs_3, lw_okq q := List.forall_mem_cons.mpr ⟨lw_p32, List.forall_mem_cons.mpr ⟨lw_p33, List.forall_mem_cons.mpr ⟨lw_p34, List.forall_mem_cons.mpr ⟨lw_p35, List.forall_mem_cons.mpr ⟨lw_p36, List.forall_mem_cons.mpr ⟨lw_p37, List.forall_mem_cons.mpr ⟨lw_p38, List.forall_mem_cons.mpr ⟨lw_p39, List.forall_mem_cons.mpr ⟨lw_p40, List.forall_mem_cons.mpr ⟨lw_p41, List.forall_mem_cons.mpr ⟨lw_p42, List.forall_mem_cons.mpr ⟨lw_p43, List.forall_mem_cons.mpr ⟨lw_p44, List.forall_mem_cons.mpr ⟨lw_p45, fun _ h => absurd h List.not_mem_nil⟩⟩⟩⟩⟩⟩⟩⟩⟩⟩⟩⟩⟩⟩
def lw_privs : List (MethodName × Nat) := lw_privs_1 ++ (lw_privs_2 ++ (lw_privs_3))
def lw_tbl : List Cond := k2_sels lw_privs ++ tables_1
theorem lw_privs_ok : ∀ q ∈ lw_privs, lw_okq q := by
  show ∀ q ∈ lw_privs_1 ++ (lw_privs_2 ++ (lw_privs_3)), lw_okq q
  exact List.forall_mem_append.mpr ⟨lw_r1, List.forall_mem_append.mpr ⟨lw_r2, lw_r3⟩⟩
-- ===== end of PART A; then your names; then what follows =====
end
section
/-! ===== BEGIN words of one list among another's, by their places ===== -/
theorem goodIn_r {big : List Cond} (ws : List Cond) (ps : List Nat) (hp : ws = ps.filterMap (fun i => big[i]?)) (h : ws.all goodWord = true) : GoodIn big ws := by
  intro w hw
  have h1 := List.all_eq_true.mp h w hw
  rw [hp] at hw
  obtain ⟨i, -, hi⟩ := List.mem_filterMap.mp hw
  have hm : w ∈ big := by first | exact List.mem_of_getElem? hi | exact List.getElem?_mem hi
  exact ⟨hm, good_of_word h1⟩
theorem goodIn_app {big a b : List Cond} (ha : GoodIn big a) (hb : GoodIn big b) : GoodIn big (a ++ b) := fun w h => (List.mem_append.mp h).elim (ha w) (hb w)
theorem goodIn_ca {big a b : List Cond} {c : Cond} (ha : GoodIn big (c :: a)) (hb : GoodIn big b) : GoodIn big (c :: (a ++ b)) := fun w h => (List.mem_cons.mp h).elim (fun e => ha w (List.mem_cons.mpr (Or.inl e))) (fun h => (List.mem_append.mp h).elim (fun h => ha w (List.mem_cons.mpr (Or.inr h))) (hb w))
theorem goodIn_sub {big ws : List Cond} (hm : ∀ w ∈ ws, w ∈ big) (h : ws.all goodWord = true) : GoodIn big ws := fun w hw => ⟨hm w hw, good_of_word (List.all_eq_true.mp h w hw)⟩
/-! ===== END ===== -/

/-! ===== BEGIN printed: names, fields, word lists, decode rows ===== -/
def RX0 : String := "BayMoorings$Bay"
def TX0 : u_T := fun k => match k with
  | 0 => ("BayMoorings$Bay", "buoys", "[LBayMoorings$Buoy;", true)
  | 1 => ("BayMoorings$Bay", "boats", "[LBayMoorings$Boat;", true)
  | 2 => ("BayMoorings$Bay", "tides", "[I", true)
  | 3 => ("BayMoorings$Bay", "repeated", "[Z", true)
  | 4 => ("BayMoorings$Bay", "berths", "LBayMoorings$Berths;", true)
  | 5 => ("BayMoorings$Bay", "buoyCount", "I", false)
  | 6 => ("BayMoorings$Bay", "boatCount", "I", false)
  | 7 => ("BayMoorings$Bay", "windBits", "I", false)
  | _ => ("BayMoorings$Bay", "leastTide", "I", false)
def tyX0 : Nat → FieldType := fun k => match k with
  | 0 => .array (.object "BayMoorings$Buoy")
  | 1 => .array (.object "BayMoorings$Boat")
  | 2 => .array .int
  | 3 => .array .boolean
  | 4 => .object "BayMoorings$Berths"
  | 5 => .int
  | 6 => .int
  | 7 => .int
  | _ => .int
abbrev wsX00 : List Cond := u_ws RX0 TX0 9
theorem nmX0 : ∀ a, a < 9 → ∀ b, b < 9 → a ≠ b → (TX0 a).2.1 ≠ (TX0 b).2.1 := by decide +kernel
theorem tyX0_ok : ∀ k, k < 9 → parseFieldDescriptor (TX0 k).2.2.1 = some (tyX0 k) := by decide +kernel
abbrev cX0_init : ByteArray := prog_2_method_1_code
def yX0_init : MethodName := ⟨RX0, "<init>", "()V"⟩
abbrev cX0_buoyAt : ByteArray := prog_2_method_2_code
def yX0_buoyAt : MethodName := ⟨RX0, "buoyAt", "(I)LBayMoorings$Buoy;"⟩
abbrev cX0_boatAt : ByteArray := prog_2_method_3_code
def yX0_boatAt : MethodName := ⟨RX0, "boatAt", "(I)LBayMoorings$Boat;"⟩
abbrev cX0_addBuoy : ByteArray := prog_2_method_4_code
def yX0_addBuoy : MethodName := ⟨RX0, "addBuoy", "(IIII)I"⟩
abbrev cX0_addBoat : ByteArray := prog_2_method_5_code
def yX0_addBoat : MethodName := ⟨RX0, "addBoat", "(III)I"⟩
abbrev cX0_newBoat : ByteArray := prog_2_method_6_code
def yX0_newBoat : MethodName := ⟨RX0, "newBoat", "(IIII)LBayMoorings$Boat;"⟩
abbrev cX0_setTide : ByteArray := prog_2_method_7_code
def yX0_setTide : MethodName := ⟨RX0, "setTide", "(II)V"⟩
abbrev cX0_isEarlierTide : ByteArray := prog_2_method_8_code
def yX0_isEarlierTide : MethodName := ⟨RX0, "isEarlierTide", "(I)Z"⟩
abbrev cX0_suits : ByteArray := prog_2_method_9_code
def yX0_suits : MethodName := ⟨RX0, "suits", "(LBayMoorings$Boat;LBayMoorings$Buoy;)Z"⟩
abbrev cX0_mayLie : ByteArray := prog_2_method_10_code
def yX0_mayLie : MethodName := ⟨RX0, "mayLie", "(LBayMoorings$Boat;LBayMoorings$Buoy;LBayMoorings$Berths;)Z"⟩
abbrev cX0_firstTouch : ByteArray := prog_2_method_11_code
def yX0_firstTouch : MethodName := ⟨RX0, "firstTouch", "(LBayMoorings$Boat;LBayMoorings$Buoy;LBayMoorings$Boat;LBayMoorings$Buoy;)I"⟩
abbrev cX0_mayMeet : ByteArray := prog_2_method_12_code
def yX0_mayMeet : MethodName := ⟨RX0, "mayMeet", "(IIII)Z"⟩
abbrev cX0_blows : ByteArray := prog_2_method_13_code
def yX0_blows : MethodName := ⟨RX0, "blows", "(I)Z"⟩
abbrev cX0_endsMeet : ByteArray := prog_2_method_14_code
def yX0_endsMeet : MethodName := ⟨RX0, "endsMeet", "(IIIIII)Z"⟩
abbrev cX0_anyLies : ByteArray := prog_2_method_15_code
def yX0_anyLies : MethodName := ⟨RX0, "anyLies", "(I)Z"⟩
abbrev cX0_lyingBoats : ByteArray := prog_2_method_16_code
def yX0_lyingBoats : MethodName := ⟨RX0, "lyingBoats", "()I"⟩
abbrev cX0_dropWishes : ByteArray := prog_2_method_17_code
def yX0_dropWishes : MethodName := ⟨RX0, "dropWishes", "()V"⟩
abbrev cX0_passYear : ByteArray := prog_2_method_18_code
def yX0_passYear : MethodName := ⟨RX0, "passYear", "()V"⟩
abbrev cX0_partedChains : ByteArray := prog_2_method_19_code
def yX0_partedChains : MethodName := ⟨RX0, "partedChains", "()I"⟩
abbrev cX0_leastKnown : ByteArray := prog_2_method_20_code
def yX0_leastKnown : MethodName := ⟨RX0, "leastKnown", "()I"⟩
abbrev cX0_isLessKnown : ByteArray := prog_2_method_21_code
def yX0_isLessKnown : MethodName := ⟨RX0, "isLessKnown", "(LBayMoorings$Buoy;LBayMoorings$Buoy;)Z"⟩
def RX1 : String := "BayMoorings$Berths"
def TX1 : u_T := fun k => match k with
  | 0 => ("BayMoorings$Berths", "buoyOfBoat", "[I", true)
  | _ => ("BayMoorings$Berths", "boatOfBuoy", "[I", true)
def tyX1 : Nat → FieldType := fun k => match k with
  | 0 => .array .int
  | _ => .array .int
abbrev wsX10 : List Cond := u_ws RX1 TX1 2
theorem nmX1 : ∀ a, a < 2 → ∀ b, b < 2 → a ≠ b → (TX1 a).2.1 ≠ (TX1 b).2.1 := by decide +kernel
theorem tyX1_ok : ∀ k, k < 2 → parseFieldDescriptor (TX1 k).2.2.1 = some (tyX1 k) := by decide +kernel
abbrev cX1_init : ByteArray := prog_3_method_1_code
def yX1_init : MethodName := ⟨RX1, "<init>", "()V"⟩
abbrev cX1_buoyOf : ByteArray := prog_3_method_2_code
def yX1_buoyOf : MethodName := ⟨RX1, "buoyOf", "(I)I"⟩
abbrev cX1_boatOf : ByteArray := prog_3_method_3_code
def yX1_boatOf : MethodName := ⟨RX1, "boatOf", "(I)I"⟩
abbrev cX1_put : ByteArray := prog_3_method_4_code
def yX1_put : MethodName := ⟨RX1, "put", "(II)V"⟩
abbrev cX1_lift : ByteArray := prog_3_method_5_code
def yX1_lift : MethodName := ⟨RX1, "lift", "(I)V"⟩
abbrev cX1_copyFrom : ByteArray := prog_3_method_6_code
def yX1_copyFrom : MethodName := ⟨RX1, "copyFrom", "(LBayMoorings$Berths;)V"⟩
def RX2 : String := "BayMoorings$Boat"
def TX2 : u_T := fun k => match k with
  | _ => ("", "", "", false)
def tyX2 : Nat → FieldType := fun k => match k with
  | _ => .int
abbrev wsX20 : List Cond := u_ws RX2 TX2 0
theorem nmX2 : ∀ a, a < 0 → ∀ b, b < 0 → a ≠ b → (TX2 a).2.1 ≠ (TX2 b).2.1 := by decide +kernel
theorem tyX2_ok : ∀ k, k < 0 → parseFieldDescriptor (TX2 k).2.2.1 = some (tyX2 k) := by decide +kernel
abbrev cX2_init : ByteArray := prog_4_method_1_code
def yX2_init : MethodName := ⟨RX2, "<init>", "(III)V"⟩
abbrev cX2_reach : ByteArray := prog_4_method_3_code
def yX2_reach : MethodName := ⟨RX2, "reach", "()I"⟩
abbrev cX2_need : ByteArray := prog_4_method_4_code
def yX2_need : MethodName := ⟨RX2, "need", "()I"⟩
abbrev cX2_fee : ByteArray := prog_4_method_5_code
def yX2_fee : MethodName := ⟨RX2, "fee", "(I)I"⟩
abbrev cX2_isOf : ByteArray := prog_4_method_6_code
def yX2_isOf : MethodName := ⟨RX2, "isOf", "(I)Z"⟩
abbrev cX2_plainFee : ByteArray := prog_4_method_7_code
def yX2_plainFee : MethodName := ⟨RX2, "plainFee", "(I)I"⟩
abbrev cX2_hasRefused : ByteArray := prog_4_method_8_code
def yX2_hasRefused : MethodName := ⟨RX2, "hasRefused", "(I)Z"⟩
abbrev cX2_wishAt : ByteArray := prog_4_method_9_code
def yX2_wishAt : MethodName := ⟨RX2, "wishAt", "(I)I"⟩
abbrev cX2_wishesFor : ByteArray := prog_4_method_10_code
def yX2_wishesFor : MethodName := ⟨RX2, "wishesFor", "(I)Z"⟩
abbrev cX2_addWish : ByteArray := prog_4_method_11_code
def yX2_addWish : MethodName := ⟨RX2, "addWish", "(I)V"⟩
def RX3 : String := "BayMoorings$Buoy"
def TX3 : u_T := fun k => match k with
  | 0 => ("BayMoorings$Buoy", "number", "I", true)
  | 1 => ("BayMoorings$Buoy", "x", "I", true)
  | 2 => ("BayMoorings$Buoy", "y", "I", true)
  | 3 => ("BayMoorings$Buoy", "depth", "I", true)
  | 4 => ("BayMoorings$Buoy", "chain", "I", true)
  | 5 => ("BayMoorings$Buoy", "slack", "[I", true)
  | 6 => ("BayMoorings$Buoy", "low", "I", false)
  | _ => ("BayMoorings$Buoy", "high", "I", false)
def tyX3 : Nat → FieldType := fun k => match k with
  | 0 => .int
  | 1 => .int
  | 2 => .int
  | 3 => .int
  | 4 => .int
  | 5 => .array .int
  | 6 => .int
  | _ => .int
abbrev wsX30 : List Cond := u_ws RX3 TX3 8
theorem nmX3 : ∀ a, a < 8 → ∀ b, b < 8 → a ≠ b → (TX3 a).2.1 ≠ (TX3 b).2.1 := by decide +kernel
theorem tyX3_ok : ∀ k, k < 8 → parseFieldDescriptor (TX3 k).2.2.1 = some (tyX3 k) := by decide +kernel
abbrev cX3_init : ByteArray := prog_5_method_1_code
def yX3_init : MethodName := ⟨RX3, "<init>", "(IIIII)V"⟩
abbrev cX3_flood : ByteArray := prog_5_method_2_code
def yX3_flood : MethodName := ⟨RX3, "flood", "(II)V"⟩
abbrev cX3_slackAt : ByteArray := prog_5_method_3_code
def yX3_slackAt : MethodName := ⟨RX3, "slackAt", "(I)I"⟩
abbrev cX3_isParted : ByteArray := prog_5_method_4_code
def yX3_isParted : MethodName := ⟨RX3, "isParted", "()Z"⟩
abbrev cX3_doubt : ByteArray := prog_5_method_5_code
def yX3_doubt : MethodName := ⟨RX3, "doubt", "()I"⟩
abbrev cX3_wear : ByteArray := prog_5_method_6_code
def yX3_wear : MethodName := ⟨RX3, "wear", "(Z)V"⟩
abbrev cX3_holds : ByteArray := prog_5_method_7_code
def yX3_holds : MethodName := ⟨RX3, "holds", "(LBayMoorings$Boat;I)Z"⟩
abbrev cX3_wholeRoot : ByteArray := prog_5_method_8_code
def yX3_wholeRoot : MethodName := ⟨RX3, "wholeRoot", "(I)I"⟩
def RX4 : String := "BayMoorings$Dry"
def TX4 : u_T := fun k => match k with
  | 0 => ("BayMoorings$Boat", "number", "I", true)
  | 1 => ("BayMoorings$Boat", "length", "I", true)
  | 2 => ("BayMoorings$Boat", "draught", "I", true)
  | 3 => ("BayMoorings$Boat", "wishes", "[I", true)
  | 4 => ("BayMoorings$Boat", "wishCount", "I", false)
  | _ => ("BayMoorings$Boat", "refused", "I", false)
def tyX4 : Nat → FieldType := fun k => match k with
  | 0 => .int
  | 1 => .int
  | 2 => .int
  | 3 => .array .int
  | 4 => .int
  | _ => .int
abbrev wsX40 : List Cond := u_ws RX4 TX4 6
theorem nmX4 : ∀ a, a < 6 → ∀ b, b < 6 → a ≠ b → (TX4 a).2.1 ≠ (TX4 b).2.1 := by decide +kernel
theorem tyX4_ok : ∀ k, k < 6 → parseFieldDescriptor (TX4 k).2.2.1 = some (tyX4 k) := by decide +kernel
abbrev cX4_init : ByteArray := prog_6_method_1_code
def yX4_init : MethodName := ⟨RX4, "<init>", "(III)V"⟩
abbrev cX4_kindNumber : ByteArray := prog_6_method_2_code
def yX4_kindNumber : MethodName := ⟨RX4, "kindNumber", "()I"⟩
abbrev cX4_need : ByteArray := prog_6_method_3_code
def yX4_need : MethodName := ⟨RX4, "need", "()I"⟩
def RX5 : String := "BayMoorings$Flight"
def TX5 : u_T := fun k => match k with
  | 0 => ("BayMoorings$Flight", "bay", "LBayMoorings$Bay;", true)
  | 1 => ("BayMoorings$Flight", "berths", "LBayMoorings$Berths;", true)
  | _ => ("BayMoorings$Flight", "fleeing", "I", false)
def tyX5 : Nat → FieldType := fun k => match k with
  | 0 => .object "BayMoorings$Bay"
  | 1 => .object "BayMoorings$Berths"
  | _ => .int
abbrev wsX50 : List Cond := u_ws RX5 TX5 3
theorem nmX5 : ∀ a, a < 3 → ∀ b, b < 3 → a ≠ b → (TX5 a).2.1 ≠ (TX5 b).2.1 := by decide +kernel
theorem tyX5_ok : ∀ k, k < 3 → parseFieldDescriptor (TX5 k).2.2.1 = some (tyX5 k) := by decide +kernel
abbrev cX5_init : ByteArray := prog_7_method_1_code
def yX5_init : MethodName := ⟨RX5, "<init>", "(LBayMoorings$Bay;)V"⟩
abbrev cX5_blow : ByteArray := prog_7_method_2_code
def yX5_blow : MethodName := ⟨RX5, "blow", "(I)V"⟩
abbrev cX5_refugeOf : ByteArray := prog_7_method_3_code
def yX5_refugeOf : MethodName := ⟨RX5, "refugeOf", "(LBayMoorings$Boat;I)I"⟩
def RX6 : String := "BayMoorings$Rings"
def TX6 : u_T := fun k => match k with
  | 0 => ("BayMoorings$Rings", "bay", "LBayMoorings$Bay;", true)
  | 1 => ("BayMoorings$Rings", "gets", "[I", true)
  | 2 => ("BayMoorings$Rings", "pointsAt", "[I", true)
  | _ => ("BayMoorings$Rings", "left", "I", false)
def tyX6 : Nat → FieldType := fun k => match k with
  | 0 => .object "BayMoorings$Bay"
  | 1 => .array .int
  | 2 => .array .int
  | _ => .int
abbrev wsX60 : List Cond := u_ws RX6 TX6 4
theorem nmX6 : ∀ a, a < 4 → ∀ b, b < 4 → a ≠ b → (TX6 a).2.1 ≠ (TX6 b).2.1 := by decide +kernel
theorem tyX6_ok : ∀ k, k < 4 → parseFieldDescriptor (TX6 k).2.2.1 = some (tyX6 k) := by decide +kernel
abbrev cX6_init : ByteArray := prog_8_method_1_code
def yX6_init : MethodName := ⟨RX6, "<init>", "(LBayMoorings$Bay;)V"⟩
abbrev cX6_buoyFor : ByteArray := prog_8_method_2_code
def yX6_buoyFor : MethodName := ⟨RX6, "buoyFor", "(I)I"⟩
abbrev cX6_draw : ByteArray := prog_8_method_3_code
def yX6_draw : MethodName := ⟨RX6, "draw", "()V"⟩
abbrev cX6_isLeft : ByteArray := prog_8_method_4_code
def yX6_isLeft : MethodName := ⟨RX6, "isLeft", "(I)Z"⟩
abbrev cX6_pointedAtBy : ByteArray := prog_8_method_5_code
def yX6_pointedAtBy : MethodName := ⟨RX6, "pointedAtBy", "(I)I"⟩
abbrev cX6_pointAll : ByteArray := prog_8_method_6_code
def yX6_pointAll : MethodName := ⟨RX6, "pointAll", "()V"⟩
abbrev cX6_holderOfWish : ByteArray := prog_8_method_7_code
def yX6_holderOfWish : MethodName := ⟨RX6, "holderOfWish", "(LBayMoorings$Boat;)I"⟩
abbrev cX6_leastInRing : ByteArray := prog_8_method_8_code
def yX6_leastInRing : MethodName := ⟨RX6, "leastInRing", "()I"⟩
abbrev cX6_comesRound : ByteArray := prog_8_method_9_code
def yX6_comesRound : MethodName := ⟨RX6, "comesRound", "(I)Z"⟩
abbrev cX6_takeRing : ByteArray := prog_8_method_10_code
def yX6_takeRing : MethodName := ⟨RX6, "takeRing", "(I)V"⟩
def RX7 : String := "BayMoorings$Search"
def TX7 : u_T := fun k => match k with
  | 0 => ("BayMoorings$Search", "bay", "LBayMoorings$Bay;", true)
  | 1 => ("BayMoorings$Search", "asked", "[LBayMoorings$Boat;", true)
  | 2 => ("BayMoorings$Search", "size", "I", false)
  | 3 => ("BayMoorings$Search", "open", "[I", true)
  | 4 => ("BayMoorings$Search", "barred", "[I", true)
  | 5 => ("BayMoorings$Search", "trial", "[I", true)
  | 6 => ("BayMoorings$Search", "best", "[I", true)
  | _ => ("BayMoorings$Search", "bestCount", "I", false)
def tyX7 : Nat → FieldType := fun k => match k with
  | 0 => .object "BayMoorings$Bay"
  | 1 => .array (.object "BayMoorings$Boat")
  | 2 => .int
  | 3 => .array .int
  | 4 => .array .int
  | 5 => .array .int
  | 6 => .array .int
  | _ => .int
abbrev wsX70 : List Cond := u_ws RX7 TX7 8
theorem nmX7 : ∀ a, a < 8 → ∀ b, b < 8 → a ≠ b → (TX7 a).2.1 ≠ (TX7 b).2.1 := by decide +kernel
theorem tyX7_ok : ∀ k, k < 8 → parseFieldDescriptor (TX7 k).2.2.1 = some (tyX7 k) := by decide +kernel
abbrev cX7_init : ByteArray := prog_9_method_1_code
def yX7_init : MethodName := ⟨RX7, "<init>", "(LBayMoorings$Bay;)V"⟩
abbrev cX7_run : ByteArray := prog_9_method_2_code
def yX7_run : MethodName := ⟨RX7, "run", "(I)V"⟩
abbrev cX7_buoyFor : ByteArray := prog_9_method_3_code
def yX7_buoyFor : MethodName := ⟨RX7, "buoyFor", "(I)I"⟩
abbrev cX7_openAtFirst : ByteArray := prog_9_method_4_code
def yX7_openAtFirst : MethodName := ⟨RX7, "openAtFirst", "(LBayMoorings$Boat;)I"⟩
abbrev cX7_settle : ByteArray := prog_9_method_5_code
def yX7_settle : MethodName := ⟨RX7, "settle", "(II)V"⟩
abbrev cX7_keepIfBetter : ByteArray := prog_9_method_6_code
def yX7_keepIfBetter : MethodName := ⟨RX7, "keepIfBetter", "(I)V"⟩
abbrev cX7_hopefulFrom : ByteArray := prog_9_method_7_code
def yX7_hopefulFrom : MethodName := ⟨RX7, "hopefulFrom", "(I)I"⟩
abbrev cX7_narrow : ByteArray := prog_9_method_8_code
def yX7_narrow : MethodName := ⟨RX7, "narrow", "(II)V"⟩
abbrev cX7_barredBy : ByteArray := prog_9_method_9_code
def yX7_barredBy : MethodName := ⟨RX7, "barredBy", "(III)I"⟩
def RX8 : String := "BayMoorings$Single"
def TX8 : u_T := fun k => match k with
  | 0 => ("BayMoorings$Boat", "number", "I", true)
  | 1 => ("BayMoorings$Boat", "length", "I", true)
  | 2 => ("BayMoorings$Boat", "draught", "I", true)
  | 3 => ("BayMoorings$Boat", "wishes", "[I", true)
  | 4 => ("BayMoorings$Boat", "wishCount", "I", false)
  | _ => ("BayMoorings$Boat", "refused", "I", false)
def tyX8 : Nat → FieldType := fun k => match k with
  | 0 => .int
  | 1 => .int
  | 2 => .int
  | 3 => .array .int
  | 4 => .int
  | _ => .int
abbrev wsX80 : List Cond := u_ws RX8 TX8 6
theorem nmX8 : ∀ a, a < 6 → ∀ b, b < 6 → a ≠ b → (TX8 a).2.1 ≠ (TX8 b).2.1 := by decide +kernel
theorem tyX8_ok : ∀ k, k < 6 → parseFieldDescriptor (TX8 k).2.2.1 = some (tyX8 k) := by decide +kernel
abbrev cX8_init : ByteArray := prog_10_method_1_code
def yX8_init : MethodName := ⟨RX8, "<init>", "(III)V"⟩
abbrev cX8_kindNumber : ByteArray := prog_10_method_2_code
def yX8_kindNumber : MethodName := ⟨RX8, "kindNumber", "()I"⟩
def RX9 : String := "BayMoorings$Twin"
def TX9 : u_T := fun k => match k with
  | 0 => ("BayMoorings$Boat", "number", "I", true)
  | 1 => ("BayMoorings$Boat", "length", "I", true)
  | 2 => ("BayMoorings$Boat", "draught", "I", true)
  | 3 => ("BayMoorings$Boat", "wishes", "[I", true)
  | 4 => ("BayMoorings$Boat", "wishCount", "I", false)
  | _ => ("BayMoorings$Boat", "refused", "I", false)
def tyX9 : Nat → FieldType := fun k => match k with
  | 0 => .int
  | 1 => .int
  | 2 => .int
  | 3 => .array .int
  | 4 => .int
  | _ => .int
abbrev wsX90 : List Cond := u_ws RX9 TX9 6
theorem nmX9 : ∀ a, a < 6 → ∀ b, b < 6 → a ≠ b → (TX9 a).2.1 ≠ (TX9 b).2.1 := by decide +kernel
theorem tyX9_ok : ∀ k, k < 6 → parseFieldDescriptor (TX9 k).2.2.1 = some (tyX9 k) := by decide +kernel
abbrev cX9_init : ByteArray := prog_11_method_1_code
def yX9_init : MethodName := ⟨RX9, "<init>", "(III)V"⟩
abbrev cX9_kindNumber : ByteArray := prog_11_method_2_code
def yX9_kindNumber : MethodName := ⟨RX9, "kindNumber", "()I"⟩
abbrev cX9_reach : ByteArray := prog_11_method_3_code
def yX9_reach : MethodName := ⟨RX9, "reach", "()I"⟩
abbrev cX9_fee : ByteArray := prog_11_method_4_code
def yX9_fee : MethodName := ⟨RX9, "fee", "(I)I"⟩
def RX10 : String := "BayMoorings$WaitingList"
def TX10 : u_T := fun k => match k with
  | 0 => ("BayMoorings$WaitingList", "bay", "LBayMoorings$Bay;", true)
  | 1 => ("BayMoorings$WaitingList", "queue", "[I", true)
  | _ => ("BayMoorings$WaitingList", "size", "I", false)
def tyX10 : Nat → FieldType := fun k => match k with
  | 0 => .object "BayMoorings$Bay"
  | 1 => .array .int
  | _ => .int
abbrev wsX100 : List Cond := u_ws RX10 TX10 3
theorem nmX10 : ∀ a, a < 3 → ∀ b, b < 3 → a ≠ b → (TX10 a).2.1 ≠ (TX10 b).2.1 := by decide +kernel
theorem tyX10_ok : ∀ k, k < 3 → parseFieldDescriptor (TX10 k).2.2.1 = some (tyX10 k) := by decide +kernel
abbrev cX10_init : ByteArray := prog_12_method_1_code
def yX10_init : MethodName := ⟨RX10, "<init>", "(LBayMoorings$Bay;)V"⟩
abbrev cX10_placeOf : ByteArray := prog_12_method_2_code
def yX10_placeOf : MethodName := ⟨RX10, "placeOf", "(I)I"⟩
abbrev cX10_append : ByteArray := prog_12_method_3_code
def yX10_append : MethodName := ⟨RX10, "append", "(I)V"⟩
abbrev cX10_drop : ByteArray := prog_12_method_4_code
def yX10_drop : MethodName := ⟨RX10, "drop", "(I)V"⟩
abbrev cX10_firstFor : ByteArray := prog_12_method_5_code
def yX10_firstFor : MethodName := ⟨RX10, "firstFor", "(LBayMoorings$Buoy;)I"⟩
def RX11 : String := "BayMoorings"
def TX11 : u_T := fun k => match k with
  | 0 => ("BayMoorings", "bay", "LBayMoorings$Bay;", true)
  | 1 => ("BayMoorings", "waiting", "LBayMoorings$WaitingList;", true)
  | 2 => ("BayMoorings", "search", "LBayMoorings$Search;", true)
  | 3 => ("BayMoorings", "rings", "LBayMoorings$Rings;", true)
  | 4 => ("BayMoorings", "flight", "LBayMoorings$Flight;", true)
  | 5 => ("BayMoorings", "findings", "[I", true)
  | 6 => ("BayMoorings", "numbers", "[I", true)
  | 7 => ("BayMoorings", "numberCount", "I", false)
  | 8 => ("BayMoorings", "rateNow", "I", false)
  | _ => ("BayMoorings", "refuserStays", "Z", false)
def tyX11 : Nat → FieldType := fun k => match k with
  | 0 => .object "BayMoorings$Bay"
  | 1 => .object "BayMoorings$WaitingList"
  | 2 => .object "BayMoorings$Search"
  | 3 => .object "BayMoorings$Rings"
  | 4 => .object "BayMoorings$Flight"
  | 5 => .array .int
  | 6 => .array .int
  | 7 => .int
  | 8 => .int
  | _ => .boolean
abbrev wsX110 : List Cond := u_ws RX11 TX11 10
theorem nmX11 : ∀ a, a < 10 → ∀ b, b < 10 → a ≠ b → (TX11 a).2.1 ≠ (TX11 b).2.1 := by decide +kernel
theorem tyX11_ok : ∀ k, k < 10 → parseFieldDescriptor (TX11 k).2.2.1 = some (tyX11 k) := by decide +kernel
abbrev cX11_init : ByteArray := prog_1_method_1_code
def yX11_init : MethodName := ⟨RX11, "<init>", "()V"⟩
abbrev cX11_buoy : ByteArray := prog_1_method_2_code
def yX11_buoy : MethodName := ⟨RX11, "buoy", "(IIII)I"⟩
abbrev cX11_boat : ByteArray := prog_1_method_3_code
def yX11_boat : MethodName := ⟨RX11, "boat", "(III)I"⟩
abbrev cX11_as : ByteArray := prog_1_method_4_code
def yX11_as : MethodName := ⟨RX11, "as", "(II)I"⟩
abbrev cX11_tide : ByteArray := prog_1_method_5_code
def yX11_tide : MethodName := ⟨RX11, "tide", "(II)I"⟩
abbrev cX11_winds : ByteArray := prog_1_method_6_code
def yX11_winds : MethodName := ⟨RX11, "winds", "(I)I"⟩
abbrev cX11_about : ByteArray := prog_1_method_7_code
def yX11_about : MethodName := ⟨RX11, "about", "(II)I"⟩
abbrev cX11_of : ByteArray := prog_1_method_8_code
def yX11_of : MethodName := ⟨RX11, "of", "(II)I"⟩
abbrev cX11_out : ByteArray := prog_1_method_9_code
def yX11_out : MethodName := ⟨RX11, "out", "(III)I"⟩
abbrev cX11_fits : ByteArray := prog_1_method_10_code
def yX11_fits : MethodName := ⟨RX11, "fits", "(II)I"⟩
abbrev cX11_touch : ByteArray := prog_1_method_11_code
def yX11_touch : MethodName := ⟨RX11, "touch", "(IIII)I"⟩
abbrev cX11_moor : ByteArray := prog_1_method_12_code
def yX11_moor : MethodName := ⟨RX11, "moor", "(II)I"⟩
abbrev cX11_leave : ByteArray := prog_1_method_13_code
def yX11_leave : MethodName := ⟨RX11, "leave", "(I)I"⟩
abbrev cX11_most : ByteArray := prog_1_method_14_code
def yX11_most : MethodName := ⟨RX11, "most", "(II)I"⟩
abbrev cX11_wait : ByteArray := prog_1_method_15_code
def yX11_wait : MethodName := ⟨RX11, "wait", "(I)I"⟩
abbrev cX11_away : ByteArray := prog_1_method_16_code
def yX11_away : MethodName := ⟨RX11, "away", "(I)I"⟩
abbrev cX11_offer : ByteArray := prog_1_method_17_code
def yX11_offer : MethodName := ⟨RX11, "offer", "(I)I"⟩
abbrev cX11_answer : ByteArray := prog_1_method_18_code
def yX11_answer : MethodName := ⟨RX11, "answer", "(II)I"⟩
abbrev cX11_stays : ByteArray := prog_1_method_19_code
def yX11_stays : MethodName := ⟨RX11, "stays", "(I)I"⟩
abbrev cX11_rather : ByteArray := prog_1_method_20_code
def yX11_rather : MethodName := ⟨RX11, "rather", "(II)I"⟩
abbrev cX11_content : ByteArray := prog_1_method_21_code
def yX11_content : MethodName := ⟨RX11, "content", "(I)I"⟩
abbrev cX11_ring : ByteArray := prog_1_method_22_code
def yX11_ring : MethodName := ⟨RX11, "ring", "(I)I"⟩
abbrev cX11_swap : ByteArray := prog_1_method_23_code
def yX11_swap : MethodName := ⟨RX11, "swap", "()I"⟩
abbrev cX11_years : ByteArray := prog_1_method_24_code
def yX11_years : MethodName := ⟨RX11, "years", "(I)I"⟩
abbrev cX11_look : ByteArray := prog_1_method_25_code
def yX11_look : MethodName := ⟨RX11, "look", "(III)I"⟩
abbrev cX11_next : ByteArray := prog_1_method_26_code
def yX11_next : MethodName := ⟨RX11, "next", "()I"⟩
abbrev cX11_renew : ByteArray := prog_1_method_27_code
def yX11_renew : MethodName := ⟨RX11, "renew", "(I)I"⟩
abbrev cX11_storm : ByteArray := prog_1_method_28_code
def yX11_storm : MethodName := ⟨RX11, "storm", "(I)I"⟩
abbrev cX11_fled : ByteArray := prog_1_method_29_code
def yX11_fled : MethodName := ⟨RX11, "fled", "(II)I"⟩
abbrev cX11_rate : ByteArray := prog_1_method_30_code
def yX11_rate : MethodName := ⟨RX11, "rate", "(I)I"⟩
abbrev cX11_dues : ByteArray := prog_1_method_31_code
def yX11_dues : MethodName := ⟨RX11, "dues", "()I"⟩
abbrev cX11_tell : ByteArray := prog_1_method_32_code
def yX11_tell : MethodName := ⟨RX11, "tell", "(I)I"⟩
abbrev cX11_check : ByteArray := prog_1_method_33_code
def yX11_check : MethodName := ⟨RX11, "check", "()I"⟩
abbrev cX11_count : ByteArray := prog_1_method_34_code
def yX11_count : MethodName := ⟨RX11, "count", "(I)I"⟩
abbrev cX11_found : ByteArray := prog_1_method_35_code
def yX11_found : MethodName := ⟨RX11, "found", "(I)I"⟩
abbrev cX11_finding : ByteArray := prog_1_method_36_code
def yX11_finding : MethodName := ⟨RX11, "finding", "(I)I"⟩
abbrev cX11_offeredBoat : ByteArray := prog_1_method_37_code
def yX11_offeredBoat : MethodName := ⟨RX11, "offeredBoat", "(I)I"⟩
abbrev cX11_within : ByteArray := prog_1_method_38_code
def yX11_within : MethodName := ⟨RX11, "within", "(III)Z"⟩
abbrev cX11_isKind : ByteArray := prog_1_method_39_code
def yX11_isKind : MethodName := ⟨RX11, "isKind", "(I)Z"⟩
abbrev cX11_isHour : ByteArray := prog_1_method_40_code
def yX11_isHour : MethodName := ⟨RX11, "isHour", "(I)Z"⟩
abbrev cX11_isFlag : ByteArray := prog_1_method_41_code
def yX11_isFlag : MethodName := ⟨RX11, "isFlag", "(I)Z"⟩
abbrev cX11_isForce : ByteArray := prog_1_method_42_code
def yX11_isForce : MethodName := ⟨RX11, "isForce", "(I)Z"⟩
def RX12 : String := "BayMooringsModel"
def TX12 : u_T := fun k => match k with
  | 0 => ("BayMooringsModel", "buoys", "I", false)
  | 1 => ("BayMooringsModel", "atX", "[I", true)
  | 2 => ("BayMooringsModel", "atY", "[I", true)
  | 3 => ("BayMooringsModel", "depth", "[I", true)
  | 4 => ("BayMooringsModel", "chain", "[I", true)
  | 5 => ("BayMooringsModel", "low", "[I", true)
  | 6 => ("BayMooringsModel", "high", "[I", true)
  | 7 => ("BayMooringsModel", "boatAt", "[I", true)
  | 8 => ("BayMooringsModel", "boats", "I", false)
  | 9 => ("BayMooringsModel", "kindOf", "[I", true)
  | 10 => ("BayMooringsModel", "lengthOf", "[I", true)
  | 11 => ("BayMooringsModel", "draughtOf", "[I", true)
  | 12 => ("BayMooringsModel", "buoyOf", "[I", true)
  | 13 => ("BayMooringsModel", "tides", "[I", true)
  | 14 => ("BayMooringsModel", "winds", "I", false)
  | 15 => ("BayMooringsModel", "wayX", "[I", true)
  | 16 => ("BayMooringsModel", "wayY", "[I", true)
  | 17 => ("BayMooringsModel", "waiting", "I", false)
  | 18 => ("BayMooringsModel", "list", "[I", true)
  | 19 => ("BayMooringsModel", "refused", "[I", true)
  | 20 => ("BayMooringsModel", "stays", "I", false)
  | 21 => ("BayMooringsModel", "rathers", "[I", true)
  | 22 => ("BayMooringsModel", "rather", "[I", true)
  | 23 => ("BayMooringsModel", "rate", "I", false)
  | 24 => ("BayMooringsModel", "tells", "I", false)
  | 25 => ("BayMooringsModel", "told", "[I", true)
  | 26 => ("BayMooringsModel", "findings", "[I", true)
  | 27 => ("BayMooringsModel", "some", "I", false)
  | 28 => ("BayMooringsModel", "someOf", "[I", true)
  | 29 => ("BayMooringsModel", "may", "[I", true)
  | 30 => ("BayMooringsModel", "tried", "[I", true)
  | 31 => ("BayMooringsModel", "best", "[I", true)
  | 32 => ("BayMooringsModel", "touching", "[I", true)
  | 33 => ("BayMooringsModel", "most", "I", false)
  | 34 => ("BayMooringsModel", "gets", "[I", true)
  | 35 => ("BayMooringsModel", "inRing", "[Z", true)
  | 36 => ("BayMooringsModel", "ring", "[I", true)
  | _ => ("BayMooringsModel", "then", "[I", true)
def tyX12 : Nat → FieldType := fun k => match k with
  | 0 => .int
  | 1 => .array .int
  | 2 => .array .int
  | 3 => .array .int
  | 4 => .array .int
  | 5 => .array .int
  | 6 => .array .int
  | 7 => .array .int
  | 8 => .int
  | 9 => .array .int
  | 10 => .array .int
  | 11 => .array .int
  | 12 => .array .int
  | 13 => .array .int
  | 14 => .int
  | 15 => .array .int
  | 16 => .array .int
  | 17 => .int
  | 18 => .array .int
  | 19 => .array .int
  | 20 => .int
  | 21 => .array .int
  | 22 => .array .int
  | 23 => .int
  | 24 => .int
  | 25 => .array .int
  | 26 => .array .int
  | 27 => .int
  | 28 => .array .int
  | 29 => .array .int
  | 30 => .array .int
  | 31 => .array .int
  | 32 => .array .int
  | 33 => .int
  | 34 => .array .int
  | 35 => .array .boolean
  | 36 => .array .int
  | _ => .array .int
abbrev wsX120 : List Cond := u_ws RX12 TX12 38
theorem nmX12 : ∀ a, a < 38 → ∀ b, b < 38 → a ≠ b → (TX12 a).2.1 ≠ (TX12 b).2.1 := by decide +kernel
theorem tyX12_ok : ∀ k, k < 38 → parseFieldDescriptor (TX12 k).2.2.1 = some (tyX12 k) := by decide +kernel
abbrev cX12_init : ByteArray := prog_14_method_1_code
def yX12_init : MethodName := ⟨RX12, "<init>", "()V"⟩
abbrev cX12_finding : ByteArray := prog_14_method_2_code
def yX12_finding : MethodName := ⟨RX12, "finding", "(I)I"⟩
abbrev cX12_within : ByteArray := prog_14_method_3_code
def yX12_within : MethodName := ⟨RX12, "within", "(III)Z"⟩
abbrev cX12_isBuoy : ByteArray := prog_14_method_4_code
def yX12_isBuoy : MethodName := ⟨RX12, "isBuoy", "(I)Z"⟩
abbrev cX12_isBoat : ByteArray := prog_14_method_5_code
def yX12_isBoat : MethodName := ⟨RX12, "isBoat", "(I)Z"⟩
abbrev cX12_buoy : ByteArray := prog_14_method_6_code
def yX12_buoy : MethodName := ⟨RX12, "buoy", "(IIII)I"⟩
abbrev cX12_boat : ByteArray := prog_14_method_7_code
def yX12_boat : MethodName := ⟨RX12, "boat", "(III)I"⟩
abbrev cX12_duesOf : ByteArray := prog_14_method_8_code
def yX12_duesOf : MethodName := ⟨RX12, "duesOf", "(I)I"⟩
abbrev cX12_as : ByteArray := prog_14_method_9_code
def yX12_as : MethodName := ⟨RX12, "as", "(II)I"⟩
abbrev cX12_tide : ByteArray := prog_14_method_10_code
def yX12_tide : MethodName := ⟨RX12, "tide", "(II)I"⟩
abbrev cX12_winds : ByteArray := prog_14_method_11_code
def yX12_winds : MethodName := ⟨RX12, "winds", "(I)I"⟩
abbrev cX12_placeOnList : ByteArray := prog_14_method_12_code
def yX12_placeOnList : MethodName := ⟨RX12, "placeOnList", "(I)I"⟩
abbrev cX12_about : ByteArray := prog_14_method_13_code
def yX12_about : MethodName := ⟨RX12, "about", "(II)I"⟩
abbrev cX12_isParted : ByteArray := prog_14_method_14_code
def yX12_isParted : MethodName := ⟨RX12, "isParted", "(I)Z"⟩
abbrev cX12_of : ByteArray := prog_14_method_15_code
def yX12_of : MethodName := ⟨RX12, "of", "(II)I"⟩
abbrev cX12_root : ByteArray := prog_14_method_16_code
def yX12_root : MethodName := ⟨RX12, "root", "(I)I"⟩
abbrev cX12_slackOf : ByteArray := prog_14_method_17_code
def yX12_slackOf : MethodName := ⟨RX12, "slackOf", "(II)I"⟩
abbrev cX12_reachOf : ByteArray := prog_14_method_18_code
def yX12_reachOf : MethodName := ⟨RX12, "reachOf", "(I)I"⟩
abbrev cX12_out : ByteArray := prog_14_method_19_code
def yX12_out : MethodName := ⟨RX12, "out", "(III)I"⟩
abbrev cX12_canFit : ByteArray := prog_14_method_20_code
def yX12_canFit : MethodName := ⟨RX12, "canFit", "(II)Z"⟩
abbrev cX12_fits : ByteArray := prog_14_method_21_code
def yX12_fits : MethodName := ⟨RX12, "fits", "(II)I"⟩
abbrev cX12_steps : ByteArray := prog_14_method_22_code
def yX12_steps : MethodName := ⟨RX12, "steps", "(III)I"⟩
abbrev cX12_isThere : ByteArray := prog_14_method_23_code
def yX12_isThere : MethodName := ⟨RX12, "isThere", "(I)Z"⟩
abbrev cX12_meet : ByteArray := prog_14_method_24_code
def yX12_meet : MethodName := ⟨RX12, "meet", "(IIIIII)Z"⟩
abbrev cX12_touchAt : ByteArray := prog_14_method_25_code
def yX12_touchAt : MethodName := ⟨RX12, "touchAt", "(IIIII)Z"⟩
abbrev cX12_firstTouch : ByteArray := prog_14_method_26_code
def yX12_firstTouch : MethodName := ⟨RX12, "firstTouch", "(IIII)I"⟩
abbrev cX12_touch : ByteArray := prog_14_method_27_code
def yX12_touch : MethodName := ⟨RX12, "touch", "(IIII)I"⟩
abbrev cX12_mayLie : ByteArray := prog_14_method_28_code
def yX12_mayLie : MethodName := ⟨RX12, "mayLie", "(II[I)Z"⟩
abbrev cX12_lies : ByteArray := prog_14_method_29_code
def yX12_lies : MethodName := ⟨RX12, "lies", "(II)V"⟩
abbrev cX12_moor : ByteArray := prog_14_method_30_code
def yX12_moor : MethodName := ⟨RX12, "moor", "(II)I"⟩
abbrev cX12_leave : ByteArray := prog_14_method_31_code
def yX12_leave : MethodName := ⟨RX12, "leave", "(I)I"⟩
abbrev cX12_findMay : ByteArray := prog_14_method_32_code
def yX12_findMay : MethodName := ⟨RX12, "findMay", "()V"⟩
abbrev cX12_touchingOf : ByteArray := prog_14_method_33_code
def yX12_touchingOf : MethodName := ⟨RX12, "touchingOf", "(III)I"⟩
abbrev cX12_canHave : ByteArray := prog_14_method_34_code
def yX12_canHave : MethodName := ⟨RX12, "canHave", "(II)Z"⟩
abbrev cX12_findMost : ByteArray := prog_14_method_35_code
def yX12_findMost : MethodName := ⟨RX12, "findMost", "()V"⟩
abbrev cX12_most : ByteArray := prog_14_method_36_code
def yX12_most : MethodName := ⟨RX12, "most", "(II)I"⟩
abbrev cX12_wait : ByteArray := prog_14_method_37_code
def yX12_wait : MethodName := ⟨RX12, "wait", "(I)I"⟩
abbrev cX12_goesOff : ByteArray := prog_14_method_38_code
def yX12_goesOff : MethodName := ⟨RX12, "goesOff", "(I)V"⟩
abbrev cX12_away : ByteArray := prog_14_method_39_code
def yX12_away : MethodName := ⟨RX12, "away", "(I)I"⟩
abbrev cX12_offeredTo : ByteArray := prog_14_method_40_code
def yX12_offeredTo : MethodName := ⟨RX12, "offeredTo", "(I)I"⟩
abbrev cX12_offer : ByteArray := prog_14_method_41_code
def yX12_offer : MethodName := ⟨RX12, "offer", "(I)I"⟩
abbrev cX12_answer : ByteArray := prog_14_method_42_code
def yX12_answer : MethodName := ⟨RX12, "answer", "(II)I"⟩
abbrev cX12_stays : ByteArray := prog_14_method_43_code
def yX12_stays : MethodName := ⟨RX12, "stays", "(I)I"⟩
abbrev cX12_rather : ByteArray := prog_14_method_44_code
def yX12_rather : MethodName := ⟨RX12, "rather", "(II)I"⟩
abbrev cX12_content : ByteArray := prog_14_method_45_code
def yX12_content : MethodName := ⟨RX12, "content", "(I)I"⟩
abbrev cX12_pointed : ByteArray := prog_14_method_46_code
def yX12_pointed : MethodName := ⟨RX12, "pointed", "(I)I"⟩
abbrev cX12_isRound : ByteArray := prog_14_method_47_code
def yX12_isRound : MethodName := ⟨RX12, "isRound", "(I)Z"⟩
abbrev cX12_findRings : ByteArray := prog_14_method_48_code
def yX12_findRings : MethodName := ⟨RX12, "findRings", "()V"⟩
abbrev cX12_ring : ByteArray := prog_14_method_49_code
def yX12_ring : MethodName := ⟨RX12, "ring", "(I)I"⟩
abbrev cX12_swap : ByteArray := prog_14_method_50_code
def yX12_swap : MethodName := ⟨RX12, "swap", "()I"⟩
abbrev cX12_partedMany : ByteArray := prog_14_method_51_code
def yX12_partedMany : MethodName := ⟨RX12, "partedMany", "()I"⟩
abbrev cX12_years : ByteArray := prog_14_method_52_code
def yX12_years : MethodName := ⟨RX12, "years", "(I)I"⟩
abbrev cX12_look : ByteArray := prog_14_method_53_code
def yX12_look : MethodName := ⟨RX12, "look", "(III)I"⟩
abbrev cX12_next : ByteArray := prog_14_method_54_code
def yX12_next : MethodName := ⟨RX12, "next", "()I"⟩
abbrev cX12_renew : ByteArray := prog_14_method_55_code
def yX12_renew : MethodName := ⟨RX12, "renew", "(I)I"⟩
abbrev cX12_holds : ByteArray := prog_14_method_56_code
def yX12_holds : MethodName := ⟨RX12, "holds", "(III)Z"⟩
abbrev cX12_flee : ByteArray := prog_14_method_57_code
def yX12_flee : MethodName := ⟨RX12, "flee", "(I)I"⟩
abbrev cX12_storm : ByteArray := prog_14_method_58_code
def yX12_storm : MethodName := ⟨RX12, "storm", "(I)I"⟩
abbrev cX12_fled : ByteArray := prog_14_method_59_code
def yX12_fled : MethodName := ⟨RX12, "fled", "(II)I"⟩
abbrev cX12_rate : ByteArray := prog_14_method_60_code
def yX12_rate : MethodName := ⟨RX12, "rate", "(I)I"⟩
abbrev cX12_dues : ByteArray := prog_14_method_61_code
def yX12_dues : MethodName := ⟨RX12, "dues", "()I"⟩
abbrev cX12_tell : ByteArray := prog_14_method_62_code
def yX12_tell : MethodName := ⟨RX12, "tell", "(I)I"⟩
abbrev cX12_check : ByteArray := prog_14_method_63_code
def yX12_check : MethodName := ⟨RX12, "check", "()I"⟩
abbrev cX12_count : ByteArray := prog_14_method_64_code
def yX12_count : MethodName := ⟨RX12, "count", "(I)I"⟩
abbrev cX12_found : ByteArray := prog_14_method_65_code
def yX12_found : MethodName := ⟨RX12, "found", "(I)I"⟩
def RJ6 : String := "java/lang/Integer"
def TJ6 : u_T := fun k => match k with
  | _ => ("", "", "", false)
def tyJ6 : Nat → FieldType := fun k => match k with
  | _ => .int
abbrev wsJ60 : List Cond := u_ws RJ6 TJ6 0
theorem nmJ6 : ∀ a, a < 0 → ∀ b, b < 0 → a ≠ b → (TJ6 a).2.1 ≠ (TJ6 b).2.1 := by decide +kernel
theorem tyJ6_ok : ∀ k, k < 0 → parseFieldDescriptor (TJ6 k).2.2.1 = some (tyJ6 k) := by decide +kernel
abbrev cJ6_bitCount_0f7a4 : ByteArray := prog_15_method_49_code
def yJ6_bitCount_0f7a4 : MethodName := ⟨RJ6, "bitCount", "(I)I"⟩
def RJ9 : String := "java/lang/Math"
def TJ9 : u_T := fun k => match k with
  | _ => ("", "", "", false)
def tyJ9 : Nat → FieldType := fun k => match k with
  | _ => .int
abbrev wsJ90 : List Cond := u_ws RJ9 TJ9 0
theorem nmJ9 : ∀ a, a < 0 → ∀ b, b < 0 → a ≠ b → (TJ9 a).2.1 ≠ (TJ9 b).2.1 := by decide +kernel
theorem tyJ9_ok : ∀ k, k < 0 → parseFieldDescriptor (TJ9 k).2.2.1 = some (tyJ9 k) := by decide +kernel
abbrev cJ9_abs_0f7a4 : ByteArray := prog_16_method_59_code
def yJ9_abs_0f7a4 : MethodName := ⟨RJ9, "abs", "(I)I"⟩
abbrev cJ9_max_7cf53 : ByteArray := prog_16_method_65_code
def yJ9_max_7cf53 : MethodName := ⟨RJ9, "max", "(II)I"⟩
abbrev cJ9_min_7cf53 : ByteArray := prog_16_method_69_code
def yJ9_min_7cf53 : MethodName := ⟨RJ9, "min", "(II)I"⟩
def RJ10 : String := "java/lang/System"
def TJ10 : u_T := fun k => match k with
  | _ => ("", "", "", false)
def tyJ10 : Nat → FieldType := fun k => match k with
  | _ => .int
abbrev wsJ100 : List Cond := u_ws RJ10 TJ10 0
theorem nmJ10 : ∀ a, a < 0 → ∀ b, b < 0 → a ≠ b → (TJ10 a).2.1 ≠ (TJ10 b).2.1 := by decide +kernel
theorem tyJ10_ok : ∀ k, k < 0 → parseFieldDescriptor (TJ10 k).2.2.1 = some (tyJ10 k) := by decide +kernel
def RJ7 : String := "java/util/Arrays"
def TJ7 : u_T := fun k => match k with
  | _ => ("", "", "", false)
def tyJ7 : Nat → FieldType := fun k => match k with
  | _ => .int
abbrev wsJ70 : List Cond := u_ws RJ7 TJ7 0
theorem nmJ7 : ∀ a, a < 0 → ∀ b, b < 0 → a ≠ b → (TJ7 a).2.1 ≠ (TJ7 b).2.1 := by decide +kernel
theorem tyJ7_ok : ∀ k, k < 0 → parseFieldDescriptor (TJ7 k).2.2.1 = some (tyJ7 k) := by decide +kernel
abbrev cJ7_fill_53178 : ByteArray := prog_18_method_103_code
def yJ7_fill_53178 : MethodName := ⟨RJ7, "fill", "([II)V"⟩
def RL : String := "BayMooringsLaw"
abbrev cL_law : ByteArray := code
def yL_law : MethodName := ⟨RL, "law", "([I)Z"⟩
abbrev vwCl : List vw_C := [(RX0, TX0, 9), (RX1, TX1, 2), (RX3, TX3, 8), (RX4, TX4, 6), (RX5, TX5, 3), (RX6, TX6, 4), (RX7, TX7, 8), (RX8, TX8, 6), (RX9, TX9, 6), (RX10, TX10, 3), (RX11, TX11, 10), (RX12, TX12, 38)]
end
section
/-! ===== numbers between bounds ===== -/
def rg (lo hi : Int) (x : Int32) : Prop := lo ≤ x.toInt ∧ x.toInt ≤ hi
theorem rg_any (x : Int32) : rg (-2147483648) 2147483647 x := by
  have h1 := Int32.le_toInt x
  have h2 := Int32.toInt_lt x
  constructor <;> omega
theorem rg_w {lo hi lo' hi' : Int} {x : Int32} (h : rg lo hi x) (h1 : lo' ≤ lo) (h2 : hi ≤ hi') : rg lo' hi' x := ⟨by have := h.1; omega, by have := h.2; omega⟩
theorem rg_bm {n : Int} (h1 : -2147483648 ≤ n) (h2 : n ≤ 2147483647) : n.bmod (2 ^ 32) = n := by
  apply Int.bmod_eq_of_le <;> omega
theorem rg_addI {a b c d : Int} {x y : Int32} (hx : rg a b x) (hy : rg c d y) (h1 : -2147483648 ≤ a + c) (h2 : b + d ≤ 2147483647) : (x + y).toInt = x.toInt + y.toInt := by
  obtain ⟨p1, p2⟩ := hx
  obtain ⟨q1, q2⟩ := hy
  rw [Int32.toInt_add]
  exact rg_bm (by omega) (by omega)
theorem rg_add {a b c d : Int} {x y : Int32} (hx : rg a b x) (hy : rg c d y) (h1 : -2147483648 ≤ a + c) (h2 : b + d ≤ 2147483647) : rg (a + c) (b + d) (x + y) := by
  have e := rg_addI hx hy h1 h2
  obtain ⟨p1, p2⟩ := hx
  obtain ⟨q1, q2⟩ := hy
  exact ⟨by omega, by omega⟩
theorem rg_sub {a b c d : Int} {x y : Int32} (hx : rg a b x) (hy : rg c d y) (h1 : -2147483648 ≤ a - d) (h2 : b - c ≤ 2147483647) : rg (a - d) (b - c) (x - y) := by
  obtain ⟨p1, p2⟩ := hx
  obtain ⟨q1, q2⟩ := hy
  have e : (x - y).toInt = x.toInt - y.toInt := by
    rw [Int32.toInt_sub]
    exact rg_bm (by omega) (by omega)
  exact ⟨by omega, by omega⟩
theorem rg_mul {a b c d : Int} {x y : Int32} (hx : rg a b x) (hy : rg c d y) (ha : 0 ≤ a) (hc : 0 ≤ c) (h2 : b * d ≤ 2147483647) : rg (a * c) (b * d) (x * y) := by
  obtain ⟨p1, p2⟩ := hx
  obtain ⟨q1, q2⟩ := hy
  have hx0 : 0 ≤ x.toInt := by omega
  have hy0 : 0 ≤ y.toInt := by omega
  have l1 : a * c ≤ x.toInt * y.toInt := Int.mul_le_mul p1 q1 hc hx0
  have l2 : x.toInt * y.toInt ≤ b * d := Int.mul_le_mul p2 q2 hy0 (by omega)
  have l0 : 0 ≤ a * c := Int.mul_nonneg ha hc
  have e : (x * y).toInt = x.toInt * y.toInt := by
    rw [Int32.toInt_mul]
    exact rg_bm (by omega) (by omega)
  rw [rg, e]
  exact ⟨l1, l2⟩
theorem rg_lt {a b c d : Int} {x y : Int32} (hx : rg a b x) (hy : rg c d y) (h : x < y) : rg a (min b (d - 1)) x ∧ rg (max c (a + 1)) d y := by
  rw [Int32.lt_iff_toInt_lt] at h
  obtain ⟨p1, p2⟩ := hx
  obtain ⟨q1, q2⟩ := hy
  refine ⟨⟨?_, ?_⟩, ⟨?_, ?_⟩⟩ <;> omega
theorem rg_le {a b c d : Int} {x y : Int32} (hx : rg a b x) (hy : rg c d y) (h : x ≤ y) : rg a (min b d) x ∧ rg (max c a) d y := by
  rw [Int32.le_iff_toInt_le] at h
  obtain ⟨p1, p2⟩ := hx
  obtain ⟨q1, q2⟩ := hy
  refine ⟨⟨?_, ?_⟩, ⟨?_, ?_⟩⟩ <;> omega
theorem rg_eq {a b c d : Int} {x y : Int32} (hx : rg a b x) (hy : rg c d y) (h : x = y) : rg (max a c) (min b d) x ∧ rg (max a c) (min b d) y := by
  subst h
  obtain ⟨p1, p2⟩ := hx
  obtain ⟨q1, q2⟩ := hy
  refine ⟨⟨?_, ?_⟩, ⟨?_, ?_⟩⟩ <;> omega
theorem rg_nlt {a b c d : Int} {x y : Int32} (hx : rg a b x) (hy : rg c d y) (h : ¬ x < y) : rg (max c a) b x ∧ rg c (min b d) y := by
  have h : y ≤ x := Int32.not_lt.mp h
  have := rg_le hy hx h
  exact ⟨rg_w this.2 (by omega) (by omega), rg_w this.1 (by omega) (by omega)⟩
theorem rg_nle {a b c d : Int} {x y : Int32} (hx : rg a b x) (hy : rg c d y) (h : ¬ x ≤ y) : rg (max a (c + 1)) b x ∧ rg c (min d (b - 1)) y := by
  have h : y < x := Int32.not_le.mp h
  have := rg_lt hy hx h
  exact ⟨this.2, this.1⟩
theorem rg_neI {x y : Int32} (h : ¬ x = y) : x.toInt ≠ y.toInt := fun q => h (Int32.toInt_inj.mp q)
/-- an end that isn't met falls off -/
theorem rg_neL {a b : Int} {x y : Int32} (hx : rg a b x) (hy : rg a a y) (h : ¬ x = y) : rg (a + 1) b x := by
  have := rg_neI h
  obtain ⟨p1, p2⟩ := hx
  obtain ⟨q1, q2⟩ := hy
  exact ⟨by omega, by omega⟩
theorem rg_neR {a b : Int} {x y : Int32} (hx : rg a b x) (hy : rg b b y) (h : ¬ x = y) : rg a (b - 1) x := by
  have := rg_neI h
  obtain ⟨p1, p2⟩ := hx
  obtain ⟨q1, q2⟩ := hy
  exact ⟨by omega, by omega⟩
theorem rg_in {lo hi : Int} {x : Int32} {n : Nat} (h : rg lo hi x) (h0 : 0 ≤ lo) (h1 : hi < (n : Int)) : vp_in x n := vp_in_iff.mpr ⟨by have := h.1; omega, by have := h.2; omega⟩
theorem rg_nn {lo hi : Int} {x : Int32} (h : rg lo hi x) (h0 : 0 ≤ lo) : ¬ x < 0 := by
  rw [Int32.lt_iff_toInt_lt, Int32.toInt_zero]
  have := h.1
  omega
theorem rg_ne0 {lo hi : Int} {x : Int32} (h : rg lo hi x) (h0 : 0 < lo ∨ hi < 0) : ¬ x = 0 := by
  intro q
  have e : x.toInt = 0 := by rw [q]; rfl
  obtain ⟨p1, p2⟩ := h
  omega
theorem rg_b {x : Int32} (h : rg 0 1 x) : x = 0 ∨ x = 1 := by
  obtain ⟨h1, h2⟩ := h
  rcases (show x.toInt = 0 ∨ x.toInt = 1 by omega) with q | q
  · exact Or.inl (Int32.toInt_inj.mp (by rw [q]; rfl))
  · exact Or.inr (Int32.toInt_inj.mp (by rw [q]; rfl))
theorem rg_nb {x : Int32} (h : rg 0 1 x) : narrow .boolean (.int x) = .int x := by
  rcases rg_b h with q | q <;> rw [q] <;> rfl
theorem rg_fb {x : Int32} (h : rg 0 1 x) : fits .boolean (.int x) = true := by
  rcases rg_b h with q | q <;> rw [q] <;> rfl
theorem rg_vb {x : Int32} (h : rg 0 1 x) : vp_nar .boolean x = x := by
  rcases rg_b h with q | q <;> rw [q] <;> rfl
theorem rg_and {x m : Int32} (k : Nat) (hm : m.toBitVec.toNat = 2 ^ k - 1) (hk : k ≤ 30) {hi : Int} (hh : ((2 ^ k : Nat) : Int) - 1 = hi) : rg 0 hi (x &&& m) := by
  have h := vp_in_iff.mp (pk_andIn x k hm hk)
  exact ⟨h.1, by omega⟩
theorem rg_div {a b c : Int} {x y : Int32} (hx : rg a b x) (hy : rg c c y) (hc : 0 < c) {lo hi : Int} (ha : 0 ≤ a) (h1 : lo ≤ a.tdiv c) (h2 : b.tdiv c ≤ hi) : rg lo hi (x / y) := by
  obtain ⟨p1, p2⟩ := hx
  obtain ⟨q1, q2⟩ := hy
  have hy : y.toInt = c := by omega
  have x2 := Int32.toInt_lt x
  have e : (x / y).toInt = x.toInt.tdiv y.toInt := by
    rw [Int32.toInt_div_of_ne_right]
    intro q
    rw [q] at hy
    have : (-1 : Int32).toInt = -1 := by decide
    omega
  rw [rg, e, hy]
  rw [Int.tdiv_eq_ediv_of_nonneg (by omega)] at *
  have l1 : a / c ≤ x.toInt / c := Int.ediv_le_ediv hc p1
  have l2 : x.toInt / c ≤ b / c := Int.ediv_le_ediv hc p2
  constructor <;> omega
theorem rg_min {a b c d : Int} {x y : Int32} (hx : rg a b x) (hy : rg c d y) : rg (min a c) (min b d) (if y < x then y else x) := by
  obtain ⟨p1, p2⟩ := hx
  obtain ⟨q1, q2⟩ := hy
  split
  · rename_i h
    rw [Int32.lt_iff_toInt_lt] at h
    exact ⟨by omega, by omega⟩
  · rename_i h
    rw [Int32.lt_iff_toInt_lt] at h
    exact ⟨by omega, by omega⟩
theorem rg_max {a b c d : Int} {x y : Int32} (hx : rg a b x) (hy : rg c d y) : rg (max a c) (max b d) (if x < y then y else x) := by
  obtain ⟨p1, p2⟩ := hx
  obtain ⟨q1, q2⟩ := hy
  split
  · rename_i h
    rw [Int32.lt_iff_toInt_lt] at h
    exact ⟨by omega, by omega⟩
  · rename_i h
    rw [Int32.lt_iff_toInt_lt] at h
    exact ⟨by omega, by omega⟩
end
section
abbrev classes : List vw_C := vwCl
def th_tys (cA : Nat → ClassId) : List (ClassId × FieldType) := [(cA 0, .int), (cA 1, .boolean), (cA 2, .object "BayMoorings$Buoy"), (cA 3, .object "BayMoorings$Boat")]
def th_key (c k : Nat) : Nat := if c < 20 then c * 100 + k else c * 100
/-- what a cell of a code holds -/
def th_E (cA : Nat → ClassId) (c : Nat) (f : Nat → Int32) (r : Nat → Option Nat) : va_E := match c with
  | 1 => .inr (0, [va_rf (r 0), va_rf (r 1), va_rf (r 2), va_rf (r 3), va_rf (r 4), .int (f 5), .int (f 6), .int (f 7), .int (f 8)])
  | 2 => .inr (1, [va_rf (r 0), va_rf (r 1)])
  | 3 => .inr (2, [.int (f 0), .int (f 1), .int (f 2), .int (f 3), .int (f 4), va_rf (r 5), .int (f 6), .int (f 7)])
  | 4 => .inr (3, [.int (f 0), .int (f 1), .int (f 2), va_rf (r 3), .int (f 4), .int (f 5)])
  | 5 => .inr (4, [va_rf (r 0), va_rf (r 1), .int (f 2)])
  | 6 => .inr (5, [va_rf (r 0), va_rf (r 1), va_rf (r 2), .int (f 3)])
  | 7 => .inr (6, [va_rf (r 0), va_rf (r 1), .int (f 2), va_rf (r 3), va_rf (r 4), va_rf (r 5), va_rf (r 6), .int (f 7)])
  | 8 => .inr (7, [.int (f 0), .int (f 1), .int (f 2), va_rf (r 3), .int (f 4), .int (f 5)])
  | 9 => .inr (8, [.int (f 0), .int (f 1), .int (f 2), va_rf (r 3), .int (f 4), .int (f 5)])
  | 10 => .inr (9, [va_rf (r 0), va_rf (r 1), .int (f 2)])
  | 11 => .inr (10, [va_rf (r 0), va_rf (r 1), va_rf (r 2), va_rf (r 3), va_rf (r 4), va_rf (r 5), va_rf (r 6), .int (f 7), .int (f 8), .int (f 9)])
  | 12 => .inr (11, [.int (f 0), va_rf (r 1), va_rf (r 2), va_rf (r 3), va_rf (r 4), va_rf (r 5), va_rf (r 6), va_rf (r 7), .int (f 8), va_rf (r 9), va_rf (r 10), va_rf (r 11), va_rf (r 12), va_rf (r 13), .int (f 14), va_rf (r 15), va_rf (r 16), .int (f 17), va_rf (r 18), va_rf (r 19), .int (f 20), va_rf (r 21), va_rf (r 22), .int (f 23), .int (f 24), va_rf (r 25), va_rf (r 26), .int (f 27), va_rf (r 28), va_rf (r 29), va_rf (r 30), va_rf (r 31), va_rf (r 32), .int (f 33), va_rf (r 34), va_rf (r 35), va_rf (r 36), va_rf (r 37)])
  | 20 => .inl (cA 2, 12, .inr (.inr (.inr (.inr r))))
  | 21 => .inl (cA 3, 16, .inr (.inr (.inr (.inr r))))
  | 22 => .inl (cA 0, 24, .inl f)
  | 23 => .inl (cA 1, 24, .inl f)
  | 24 => .inl (cA 0, 16, .inl f)
  | 25 => .inl (cA 0, 12, .inl f)
  | 26 => .inl (cA 0, 24, .inl f)
  | 27 => .inl (cA 0, 4, .inl f)
  | 28 => .inl (cA 0, 16, .inl f)
  | 29 => .inl (cA 0, 16, .inl f)
  | 30 => .inl (cA 3, 5, .inr (.inr (.inr (.inr r))))
  | 31 => .inl (cA 0, 30, .inl f)
  | 32 => .inl (cA 0, 300, .inl f)
  | 33 => .inl (cA 0, 5, .inl f)
  | 34 => .inl (cA 0, 5, .inl f)
  | 35 => .inl (cA 0, 10, .inl f)
  | 36 => .inl (cA 0, 6, .inl f)
  | 37 => .inl (cA 0, 24, .inl f)
  | 40 => .inl (cA 0, 12, .inl f)
  | 41 => .inl (cA 0, 12, .inl f)
  | 42 => .inl (cA 0, 12, .inl f)
  | 43 => .inl (cA 0, 12, .inl f)
  | 44 => .inl (cA 0, 12, .inl f)
  | 45 => .inl (cA 0, 12, .inl f)
  | 46 => .inl (cA 0, 12, .inl f)
  | 47 => .inl (cA 0, 16, .inl f)
  | 48 => .inl (cA 0, 16, .inl f)
  | 49 => .inl (cA 0, 16, .inl f)
  | 50 => .inl (cA 0, 16, .inl f)
  | 51 => .inl (cA 0, 24, .inl f)
  | 52 => .inl (cA 0, 8, .inl f)
  | 53 => .inl (cA 0, 8, .inl f)
  | 54 => .inl (cA 0, 10, .inl f)
  | 55 => .inl (cA 0, 16, .inl f)
  | 56 => .inl (cA 0, 16, .inl f)
  | 57 => .inl (cA 0, 64, .inl f)
  | 58 => .inl (cA 0, 24, .inl f)
  | 59 => .inl (cA 0, 6, .inl f)
  | 60 => .inl (cA 0, 5, .inl f)
  | 61 => .inl (cA 0, 5, .inl f)
  | 62 => .inl (cA 0, 6, .inl f)
  | 63 => .inl (cA 0, 5, .inl f)
  | 64 => .inl (cA 0, 300, .inl f)
  | 65 => .inl (cA 0, 16, .inl f)
  | 66 => .inl (cA 1, 16, .inl f)
  | 67 => .inl (cA 0, 16, .inl f)
  | 68 => .inl (cA 0, 16, .inl f)
  | _ => .inl (cA 0, 0, .inl f)
/-- what holds of it at all times -/
def th_I (c : Nat) (τ : Nat → Nat) (f : Nat → Int32) (r : Nat → Option Nat) : Prop := match c with
  | 1 => (∃ q, r 0 = some q ∧ τ q = 20) ∧ (∃ q, r 1 = some q ∧ τ q = 21) ∧ (∃ q, r 2 = some q ∧ τ q = 22) ∧ (∃ q, r 3 = some q ∧ τ q = 23) ∧ (∃ q, r 4 = some q ∧ τ q = 2) ∧ rg 0 12 (f 5) ∧ rg 0 16 (f 6)
  | 2 => (∃ q, r 0 = some q ∧ τ q = 24) ∧ (∃ q, r 1 = some q ∧ τ q = 25)
  | 3 => (∃ q, r 5 = some q ∧ τ q = 26)
  | 4 => (∃ q, r 3 = some q ∧ τ q = 27) ∧ rg 0 4 (f 4)
  | 5 => (∃ q, r 0 = some q ∧ τ q = 1) ∧ (∃ q, r 1 = some q ∧ τ q = 2)
  | 6 => (∃ q, r 0 = some q ∧ τ q = 1) ∧ (∃ q, r 1 = some q ∧ τ q = 28) ∧ (∃ q, r 2 = some q ∧ τ q = 29)
  | 7 => (∃ q, r 0 = some q ∧ τ q = 1) ∧ (∃ q, r 1 = some q ∧ τ q = 30) ∧ rg 0 5 (f 2) ∧ (∃ q, r 3 = some q ∧ τ q = 31) ∧ (∃ q, r 4 = some q ∧ τ q = 32) ∧ (∃ q, r 5 = some q ∧ τ q = 33) ∧ (∃ q, r 6 = some q ∧ τ q = 34)
  | 8 => (∃ q, r 3 = some q ∧ τ q = 27) ∧ rg 0 4 (f 4)
  | 9 => (∃ q, r 3 = some q ∧ τ q = 27) ∧ rg 0 4 (f 4)
  | 10 => (∃ q, r 0 = some q ∧ τ q = 1) ∧ (∃ q, r 1 = some q ∧ τ q = 35) ∧ rg 0 10 (f 2)
  | 11 => (∃ q, r 0 = some q ∧ τ q = 1) ∧ (∃ q, r 1 = some q ∧ τ q = 10) ∧ (∃ q, r 2 = some q ∧ τ q = 7) ∧ (∃ q, r 3 = some q ∧ τ q = 6) ∧ (∃ q, r 4 = some q ∧ τ q = 5) ∧ (∃ q, r 5 = some q ∧ τ q = 36) ∧ (∃ q, r 6 = some q ∧ τ q = 37) ∧ rg 0 24 (f 7) ∧ rg 0 1 (f 9)
  | 12 => rg 0 12 (f 0) ∧ (∃ q, r 1 = some q ∧ τ q = 40) ∧ (∃ q, r 2 = some q ∧ τ q = 41) ∧ (∃ q, r 3 = some q ∧ τ q = 42) ∧ (∃ q, r 4 = some q ∧ τ q = 43) ∧ (∃ q, r 5 = some q ∧ τ q = 44) ∧ (∃ q, r 6 = some q ∧ τ q = 45) ∧ (∃ q, r 7 = some q ∧ τ q = 46) ∧ rg 0 16 (f 8) ∧ (∃ q, r 9 = some q ∧ τ q = 47) ∧ (∃ q, r 10 = some q ∧ τ q = 48) ∧ (∃ q, r 11 = some q ∧ τ q = 49) ∧ (∃ q, r 12 = some q ∧ τ q = 50) ∧ (∃ q, r 13 = some q ∧ τ q = 51) ∧ (∃ q, r 15 = some q ∧ τ q = 52) ∧ (∃ q, r 16 = some q ∧ τ q = 53) ∧ rg 0 10 (f 17) ∧ (∃ q, r 18 = some q ∧ τ q = 54) ∧ (∃ q, r 19 = some q ∧ τ q = 55) ∧ (∃ q, r 21 = some q ∧ τ q = 56) ∧ (∃ q, r 22 = some q ∧ τ q = 57) ∧ rg 0 24 (f 24) ∧ (∃ q, r 25 = some q ∧ τ q = 58) ∧ (∃ q, r 26 = some q ∧ τ q = 59) ∧ rg 0 5 (f 27) ∧ (∃ q, r 28 = some q ∧ τ q = 60) ∧ (∃ q, r 29 = some q ∧ τ q = 61) ∧ (∃ q, r 30 = some q ∧ τ q = 62) ∧ (∃ q, r 31 = some q ∧ τ q = 63) ∧ (∃ q, r 32 = some q ∧ τ q = 64) ∧ (∃ q, r 34 = some q ∧ τ q = 65) ∧ (∃ q, r 35 = some q ∧ τ q = 66) ∧ (∃ q, r 36 = some q ∧ τ q = 67) ∧ (∃ q, r 37 = some q ∧ τ q = 68)
  | 20 => ∀ j, j < 12 → ∀ q, r j = some q → τ q = 3
  | 21 => ∀ j, j < 16 → ∀ q, r j = some q → τ q = 8 ∨ τ q = 9 ∨ τ q = 4
  | 22 => True
  | 23 => ∀ j, j < 24 → rg 0 1 (f j)
  | 24 => True
  | 25 => True
  | 26 => True
  | 27 => True
  | 28 => True
  | 29 => True
  | 30 => ∀ j, j < 5 → ∀ q, r j = some q → τ q = 8 ∨ τ q = 9 ∨ τ q = 4
  | 31 => True
  | 32 => True
  | 33 => True
  | 34 => True
  | 35 => True
  | 36 => True
  | 37 => True
  | 40 => True
  | 41 => True
  | 42 => ∀ j, j < 12 → rg 0 300 (f j)
  | 43 => ∀ j, j < 12 → rg 0 400 (f j)
  | 44 => True
  | 45 => True
  | 46 => ∀ j, j < 12 → rg (-1) 15 (f j)
  | 47 => True
  | 48 => True
  | 49 => True
  | 50 => ∀ j, j < 16 → rg (-1) 11 (f j)
  | 51 => ∀ j, j < 24 → rg 0 200 (f j)
  | 52 => True
  | 53 => True
  | 54 => ∀ j, j < 10 → rg 0 15 (f j)
  | 55 => True
  | 56 => ∀ j, j < 16 → rg 0 4 (f j)
  | 57 => ∀ j, j < 64 → rg 0 11 (f j)
  | 58 => True
  | 59 => True
  | 60 => ∀ j, j < 5 → rg 0 15 (f j)
  | 61 => True
  | 62 => ∀ j, j < 6 → rg (-1) 13 (f j)
  | 63 => True
  | 64 => True
  | 65 => ∀ j, j < 16 → rg (-1) 11 (f j)
  | 66 => ∀ j, j < 16 → rg 0 1 (f j)
  | 67 => ∀ j, j < 16 → rg 0 15 (f j)
  | 68 => ∀ j, j < 16 → rg (-1) 11 (f j)
  | _ => False
end
section
/-! ===== the typed heap: τ the kinds of the cells, gi their numbers, gr their references ===== -/
abbrev th_t : Type := Nat → Nat
abbrev th_i : Type := Nat → Nat → Int32
abbrev th_r : Type := Nat → Nat → Option Nat
def th_H (D : va_G) (cA : Nat → ClassId) (τ : th_t) (gi : th_i) (gr : th_r) (H : Heap) : Prop := ∀ a, τ a ≠ 0 → va_at D classes (a, th_E cA (τ a) (gi a) (gr a)) H ∧ th_I (τ a) τ (gi a) (gr a)
def th_A (τ : th_t) (sz : Nat) : Nat → Prop := fun q => τ q ≠ 0 ∨ sz ≤ q
theorem th_A0 {τ : th_t} {sz : Nat} : ∀ q : Nat, sz ≤ q → th_A τ sz q := fun _ h => Or.inr h
def th_Mod (M : List Nat) (τ : th_t) (gi : th_i) (gr : th_r) (gi' : th_i) (gr' : th_r) : Prop := ∀ b j, τ b ≠ 0 → th_key (τ b) j ∉ M → gi' b j = gi b j ∧ gr' b j = gr b j
theorem th_Mod.rf {M : List Nat} {τ : th_t} {gi : th_i} {gr : th_r} : th_Mod M τ gi gr gi gr := fun _ _ _ _ => ⟨rfl, rfl⟩
theorem th_Mod.tr {M M1 M2 : List Nat} {τ : th_t} {gi gi1 gi2 : th_i} {gr gr1 gr2 : th_r} (h1 : th_Mod M1 τ gi gr gi1 gr1) (h2 : th_Mod M2 τ gi1 gr1 gi2 gr2) (s1 : ∀ x ∈ M1, x ∈ M) (s2 : ∀ x ∈ M2, x ∈ M) : th_Mod M τ gi gr gi2 gr2 := fun b j hb hk => by
  have e1 := h1 b j hb (fun q => hk (s1 _ q))
  have e2 := h2 b j hb (fun q => hk (s2 _ q))
  exact ⟨e2.1.trans e1.1, e2.2.trans e1.2⟩
theorem th_Mod.i {M : List Nat} {τ : th_t} {gi gi1 gi2 : th_i} {gr gr1 : th_r} (h1 : th_Mod M τ gi gr gi1 gr1) {a k c : Nat} (ht : τ a = c) (hc : th_key c k ∈ M) (h : ∀ b j, b ≠ a ∨ j ≠ k → gi2 b j = gi1 b j) : th_Mod M τ gi gr gi2 gr1 := fun b j hb hk => by
  have e1 := h1 b j hb hk
  refine ⟨?_, e1.2⟩
  rw [← e1.1]
  apply h
  by_cases hba : b = a
  · right
    intro hj
    apply hk
    rw [hba, hj, ht]
    exact hc
  · exact Or.inl hba
theorem th_Mod.r {M : List Nat} {τ : th_t} {gi gi1 : th_i} {gr gr1 gr2 : th_r} (h1 : th_Mod M τ gi gr gi1 gr1) {a k c : Nat} (ht : τ a = c) (hc : th_key c k ∈ M) (h : ∀ b j, b ≠ a ∨ j ≠ k → gr2 b j = gr1 b j) : th_Mod M τ gi gr gi1 gr2 := fun b j hb hk => by
  have e1 := h1 b j hb hk
  refine ⟨e1.1, ?_⟩
  rw [← e1.2]
  apply h
  by_cases hba : b = a
  · right
    intro hj
    apply hk
    rw [hba, hj, ht]
    exact hc
  · exact Or.inl hba
theorem th_H.at {D : va_G} {cA : Nat → ClassId} {τ : th_t} {gi : th_i} {gr : th_r} {H : Heap} {a c : Nat} (hH : th_H D cA τ gi gr H) (ht : τ a = c) (hc : c ≠ 0) : va_at D classes (a, th_E cA c (gi a) (gr a)) H ∧ th_I c τ (gi a) (gr a) := by
  subst ht
  exact hH a hc
theorem th_H.P {D : va_G} {cA : Nat → ClassId} {τ : th_t} {gi : th_i} {gr : th_r} {H : Heap} {a c : Nat} (hH : th_H D cA τ gi gr H) (ht : τ a = c) (hc : c ≠ 0) {e : va_E} (he : th_E cA c (gi a) (gr a) = e) : va_P D classes [(a, e)] H := by
  intro k q hk
  have hz : k < 1 := (List.getElem?_eq_some_iff.mp hk).1
  rw [show k = 0 by omega] at hk
  cases hk
  rw [← he]
  exact (hH.at ht hc).1
theorem th_H.set {D : va_G} {cA : Nat → ClassId} {τ : th_t} {gi gi' : th_i} {gr gr' : th_r} {H H1 : Heap} {a c : Nat} (hH : th_H D cA τ gi gr H) (ht : τ a = c) (hat : va_at D classes (a, th_E cA c (gi' a) (gr' a)) H1) (hI : th_I c τ (gi' a) (gr' a)) (oq : ∀ q, q ≠ a → H1[q]? = H[q]?) (og : ∀ b, b ≠ a → gi' b = gi b ∧ gr' b = gr b) : th_H D cA τ gi' gr' H1 := by
  intro b hb
  by_cases hba : b = a
  · subst hba
    subst ht
    exact ⟨hat, hI⟩
  · have h := hH b hb
    rw [(og b hba).1, (og b hba).2]
    exact ⟨h.1.kept (oq b hba), h.2⟩
theorem th_upI {gi : th_i} {a k : Nat} {x : Int32} : va_up gi a (upd (gi a) k x) a k = x ∧ ∀ b j, b ≠ a ∨ j ≠ k → va_up gi a (upd (gi a) k x) b j = gi b j := by
  refine ⟨by rw [va_up_self]; exact if_pos rfl, fun b j h => ?_⟩
  by_cases hba : b = a
  · subst hba
    rw [va_up_self]
    exact if_neg (h.resolve_left (fun q => q rfl))
  · rw [va_up_ne]
    exact hba
theorem th_upR {gr : th_r} {a k : Nat} {x : Option Nat} : va_up gr a (va_up (gr a) k x) a k = x ∧ ∀ b j, b ≠ a ∨ j ≠ k → va_up gr a (va_up (gr a) k x) b j = gr b j := by
  refine ⟨by rw [va_up_self, va_up_self], fun b j h => ?_⟩
  by_cases hba : b = a
  · subst hba
    rw [va_up_self, va_up_ne]
    exact h.resolve_left (fun q => q rfl)
  · rw [va_up_ne]
    exact hba
/-- array invariants -/
theorem th_ai {P : Int32 → Prop} {f : Nat → Int32} {n k : Nat} {x : Int32} (h : ∀ j, j < n → P (f j)) (hx : P x) : ∀ j, j < n → P (upd f k x j) := fun j hj => by
  unfold upd
  split
  · exact hx
  · exact h j hj
theorem th_ar {P : Nat → Prop} {f : Nat → Option Nat} {n k : Nat} {x : Option Nat} (h : ∀ j, j < n → ∀ q, f j = some q → P q) (hx : ∀ q, x = some q → P q) : ∀ j, j < n → ∀ q, va_up f k x j = some q → P q := fun j hj => by
  unfold va_up
  split
  · exact hx
  · exact h j hj
section TH
variable {p : Program} {l : Launch} {e : Env} {R : Room} {s : State} {m : MethodId} {args : Array Value} {below : List Frame} {meth : Method} {c : Code} {H : Heap} {locs : List Loc} {cells slots : Nat} {Q : State → Prop}
variable {cc : ByteArray} {pc : Nat} {ls : Array Slot} {rest : List Value} {D : va_G} {A : Nat → Prop} {a k0 : Nat} {tys : List (ClassId × FieldType)} {H0 : Heap} {cA : Nat → ClassId} {τ : th_t} {gi : th_i} {gr : th_r}
theorem th_get (hexec : p.tables.exec = Jvm.exec) (hb : c.code = cc) {own ref C : String} {T : u_T} {N ci index : Nat} {Ts : List Cond} (hts : ∀ w ∈ Ts, w.before args s = true) (hin : ∀ w ∈ u_ws C T N, w ∈ Ts) (hown : s.vm.findClass own = some m.cls) (hK : va_K D classes tys s) (hH : th_H D cA τ gi gr H) (ht : τ a = k0) (h0 : k0 ≠ 0) {fs : List Value} (he : th_E cA k0 (gi a) (gr a) = .inr (ci, fs)) (hc : classes[ci]? = some (C, T, N)) (k : Nat) (hk : k < N) (hlink : (Cond.fieldLink own index ref (T k).2.1 (T k).2.2.1).before args s = true) (hsame : ∀ x, s.fieldFound? (T k).1 (T k).2.1 (T k).2.2.1 = some x → s.fieldFound? ref (T k).2.1 (T k).2.2.1 = some x) {v : Value} (hv : fs[k]? = some v) (hdg : decode cc pc = .ok (.getfield index, 3))
    (kk : W p l e R s m args below meth c H locs cells slots Q (F0 m (pc + 3) ls (v :: rest))) : W p l e R s m args below meth c H locs cells slots Q (F0 m pc ls (.ref a :: rest)) :=
  va_get hexec hb hts hin hown hK (hH.P ht h0 he) 0 rfl hc k hk hlink hsame hv hdg kk
theorem th_put (hexec : p.tables.exec = Jvm.exec) (hb : c.code = cc) {own ref C : String} {T : u_T} {N ci index : Nat} {Ts : List Cond} (hts : ∀ w ∈ Ts, w.before args s = true) (hin : ∀ w ∈ u_ws C T N, w ∈ Ts) (ty0 : Nat → FieldType) (hty : ∀ k, k < N → parseFieldDescriptor (T k).2.2.1 = some (ty0 k)) (hnm : ∀ a, a < N → ∀ b, b < N → a ≠ b → (T a).2.1 ≠ (T b).2.1) (hown : s.vm.findClass own = some m.cls) (hK : va_K D classes tys s) (hH : th_H D cA τ gi gr H) (hS0 : va_S A H0 H locs) (ht : τ a = k0) (h0 : k0 ≠ 0) (hAa : A a) {fs : List Value} (he : th_E cA k0 (gi a) (gr a) = .inr (ci, fs)) (hc : classes[ci]? = some (C, T, N)) (k : Nat) (hk : k < N) (hlink : (Cond.fieldLink own index ref (T k).2.1 (T k).2.2.1).before args s = true) (hsame : ∀ x, s.fieldFound? (T k).1 (T k).2.1 (T k).2.2.1 = some x → s.fieldFound? ref (T k).2.1 (T k).2.2.1 = some x) (hfin : (T k).2.2.2 = false) {ty : FieldType} {v : Value} (hd : parseFieldDescriptor (T k).2.2.1 = some ty) (hn : narrow ty v = v) (hfit : fits ty v = true) (hl : k < fs.length)
    {gi' : th_i} {gr' : th_r} (he' : th_E cA k0 (gi' a) (gr' a) = .inr (ci, fs.set k v)) (hI : th_I k0 τ (gi' a) (gr' a)) (og : ∀ b, b ≠ a → gi' b = gi b ∧ gr' b = gr b)
    (hdg : decode cc pc = .ok (.putfield index, 3)) (kk : ∀ (H1 : Heap) (locs1 : List Loc), th_H D cA τ gi' gr' H1 → va_S A H0 H1 locs1 → W p l e R s m args below meth c H1 locs1 cells slots Q (F0 m (pc + 3) ls rest)) : W p l e R s m args below meth c H locs cells slots Q (F0 m pc ls (v :: .ref a :: rest)) := by
  have hap := va_apart (own := own) hts hin ty0 hty hnm hK hc
  obtain ⟨r, h1, cell, q1, q2, q3, q4⟩ := hH.P ht h0 he 0 _ rfl
  have hr : r = (C, T, N) := Option.some.inj (h1.symm.trans hc)
  subst hr
  obtain ⟨hS, hfc, kC, hkC, hkind⟩ := hK.1 ci _ hc
  obtain ⟨cf, kf, fi, f, hi, hsl⟩ := hS k hk
  have hlay := hts _ (hin _ (u_in_lay hk))
  unfold u_lay at hlay
  rw [if_neg (by rw [hfin]; decide)] at hlay
  have hst := (u_facts hfc hkC (u_lays hts hin hk) hi).1
  have h6 := u_store hfc hkC hkind hlay hi hd hn hfit
  refine W.putK hexec hb (f := f) ⟨hown, hlink, ⟨_, _, _, hsame _ hi⟩, hst⟩ (by rw [q2]; exact h6) q1 q3 (by rw [hsl]; exact k2_hasslot (q4 k hk)) rfl rfl hdg fun H' e1 e2 e3 => ?_
  rw [hsl] at e1 ⊢
  refine kk H' _ (hH.set ht ?_ hI e3 og) (hS0.put e2 e3 hAa)
  rw [he']
  exact ⟨_, hc, t_OB.to (V := updV (vp_V fs) k v) ⟨_, e1, q2, q3, t_set q4 hap hk v⟩ (fun j _ => vp_updV_set hl v j)⟩
theorem th_iald (hexec : p.tables.exec = Jvm.exec) (hb : c.code = cc) (hK : va_K D classes tys s) (hH : th_H D cA τ gi gr H) (ht : τ a = k0) (h0 : k0 ≠ 0) (t0 : Nat) {cI : ClassId} {n : Nat} (he : th_E cA k0 (gi a) (gr a) = .inl (cI, n, .inl (gi a))) (hty : tys[t0]? = some (cI, .int)) {i : Int32} (hin : vp_in i n) (hdg : decode cc pc = .ok (.iaload, 1))
    (kk : W p l e R s m args below meth c H locs cells slots Q (F0 m (pc + 1) ls (.int (gi a i.toNatClampNeg) :: rest))) : W p l e R s m args below meth c H locs cells slots Q (F0 m pc ls (.int i :: .ref a :: rest)) :=
  va_iald hexec hb hK (hH.P ht h0 he) 0 t0 rfl hty hin hdg kk
theorem th_zald (hexec : p.tables.exec = Jvm.exec) (hb : c.code = cc) (hK : va_K D classes tys s) (hH : th_H D cA τ gi gr H) (ht : τ a = k0) (h0 : k0 ≠ 0) (t0 : Nat) {cI : ClassId} {n : Nat} (he : th_E cA k0 (gi a) (gr a) = .inl (cI, n, .inl (gi a))) (hty : tys[t0]? = some (cI, .boolean)) {i : Int32} (hin : vp_in i n) (hdg : decode cc pc = .ok (.baload, 1))
    (kk : W p l e R s m args below meth c H locs cells slots Q (F0 m (pc + 1) ls (.int (gi a i.toNatClampNeg) :: rest))) : W p l e R s m args below meth c H locs cells slots Q (F0 m pc ls (.int i :: .ref a :: rest)) :=
  va_zald hexec hb hK (hH.P ht h0 he) 0 t0 rfl hty hin hdg kk
theorem th_aald (hexec : p.tables.exec = Jvm.exec) (hb : c.code = cc) (hK : va_K D classes tys s) (hH : th_H D cA τ gi gr H) (ht : τ a = k0) (h0 : k0 ≠ 0) (t0 : Nat) {cI : ClassId} {C : String} {n : Nat} (he : th_E cA k0 (gi a) (gr a) = .inl (cI, n, .inr (.inr (.inr (.inr (gr a)))))) (hty : tys[t0]? = some (cI, .object C)) {i : Int32} (hin : vp_in i n) (hdg : decode cc pc = .ok (.aaload, 1))
    (kk : W p l e R s m args below meth c H locs cells slots Q (F0 m (pc + 1) ls (va_rf (gr a i.toNatClampNeg) :: rest))) : W p l e R s m args below meth c H locs cells slots Q (F0 m pc ls (.int i :: .ref a :: rest)) :=
  va_aldq hexec hb hK (hH.P ht h0 he) 0 t0 rfl hty hin hdg kk
theorem th_iast (hexec : p.tables.exec = Jvm.exec) (hb : c.code = cc) (hK : va_K D classes tys s) (hH : th_H D cA τ gi gr H) (hS : va_S A H0 H locs) (ht : τ a = k0) (h0 : k0 ≠ 0) (hAa : A a) (t0 : Nat) {cI : ClassId} {n : Nat} (he : ∀ f : Nat → Int32, th_E cA k0 f (gr a) = .inl (cI, n, .inl f)) (hty : tys[t0]? = some (cI, .int)) {i x : Int32} (hin : vp_in i n) (hI : th_I k0 τ (upd (gi a) i.toNatClampNeg x) (gr a)) (hdg : decode cc pc = .ok (.iastore, 1))
    (kk : ∀ (gi' : th_i) (H1 : Heap) (locs1 : List Loc), gi' a i.toNatClampNeg = x → (∀ b j, b ≠ a ∨ j ≠ i.toNatClampNeg → gi' b j = gi b j) → th_H D cA τ gi' gr H1 → va_S A H0 H1 locs1 → W p l e R s m args below meth c H1 locs1 cells slots Q (F0 m (pc + 1) ls rest)) : W p l e R s m args below meth c H locs cells slots Q (F0 m pc ls (.int x :: .int i :: .ref a :: rest)) := by
  have hP := hH.P ht h0 (he _)
  refine W.iast hexec hb (hP 0 _ rfl) ((hK.2 t0 _ hty).1 n (fun j => .int (gi a j))) (fun q => by cases q) (by show ¬ (i < 0 ∨ (arrV _ _ _).slots.size ≤ _); rw [arrV_size]; exact hin) rfl rfl hdg fun H1 e z oq => ?_
  refine kk (va_up gi a (upd (gi a) i.toNatClampNeg x)) H1 _ th_upI.1 th_upI.2 (hH.set ht ?_ (by rw [va_up_self]; exact hI) oq (fun b hb => ⟨va_up_ne _ _ hb, rfl⟩)) (hS.put z oq hAa)
  rw [va_up_self, he]
  show H1[a]? = some (vp_cell _ _)
  rw [e, vp_cell_i, vp_cell_i, arrV_store]
  congr 2
  funext q
  by_cases hq : q = i.toNatClampNeg
  · subst hq
    simp [updV, upd]
  · simp [updV, upd, hq]
theorem th_zast (hexec : p.tables.exec = Jvm.exec) (hb : c.code = cc) (hK : va_K D classes tys s) (hH : th_H D cA τ gi gr H) (hS : va_S A H0 H locs) (ht : τ a = k0) (h0 : k0 ≠ 0) (hAa : A a) (t0 : Nat) {cI : ClassId} {n : Nat} (he : ∀ f : Nat → Int32, th_E cA k0 f (gr a) = .inl (cI, n, .inl f)) (hty : tys[t0]? = some (cI, .boolean)) {i x : Int32} (hx : rg 0 1 x) (hin : vp_in i n) (hI : th_I k0 τ (upd (gi a) i.toNatClampNeg x) (gr a)) (hdg : decode cc pc = .ok (.bastore, 1))
    (kk : ∀ (gi' : th_i) (H1 : Heap) (locs1 : List Loc), gi' a i.toNatClampNeg = x → (∀ b j, b ≠ a ∨ j ≠ i.toNatClampNeg → gi' b j = gi b j) → th_H D cA τ gi' gr H1 → va_S A H0 H1 locs1 → W p l e R s m args below meth c H1 locs1 cells slots Q (F0 m (pc + 1) ls rest)) : W p l e R s m args below meth c H locs cells slots Q (F0 m pc ls (.int x :: .int i :: .ref a :: rest)) := by
  have hP := hH.P ht h0 (he _)
  refine W.zast hexec hb (hP 0 _ rfl) ((hK.2 t0 _ hty).1 n (fun j => .int (gi a j))) (fun q => by cases q) (by show ¬ (i < 0 ∨ (arrV _ _ _).slots.size ≤ _); rw [arrV_size]; exact hin) rfl rfl hdg fun H1 e z oq => ?_
  refine kk (va_up gi a (upd (gi a) i.toNatClampNeg x)) H1 _ th_upI.1 th_upI.2 (hH.set ht ?_ (by rw [va_up_self]; exact hI) oq (fun b hb => ⟨va_up_ne _ _ hb, rfl⟩)) (hS.put z oq hAa)
  rw [va_up_self, he]
  show H1[a]? = some (vp_cell _ _)
  have hz := rg_vb hx
  rw [e, vp_cell_i, vp_cell_i, arrV_store]
  congr 2
  funext q
  by_cases hq : q = i.toNatClampNeg
  · subst hq
    simp only [updV, upd, if_true]
    rcases rg_b hx with h | h <;> rw [h] <;> rfl
  · simp [updV, upd, hq]
end TH
end
