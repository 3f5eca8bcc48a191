section
-- ===== PART A: goes FIRST, ahead of the names: the tables' words, and 'selects' of the private methods out of them =====
/-- a private method of a class that the tables say can be made, by its rows of tables_1 -/
def lw_okq (q : MethodName × Nat) : Prop := (q.1.cls ≠ "java/lang/invoke/MethodHandle" ∧ q.1.cls ≠ "java/lang/invoke/VarHandle") ∧ Cond.instantiable q.1.cls q.2 ∈ tables_1 ∧ Cond.privateMethod q.1 ∈ tables_1 ∧ Cond.instanceMethod q.1 ∈ tables_1
theorem lw_p0 : lw_okq (⟨"CrowMiles", "refuseBad", "()I"⟩, 14) := ⟨⟨by decide +kernel, by decide +kernel⟩, List.mem_of_getElem? (i := 17) (by decide +kernel), List.mem_of_getElem? (i := 259) (by decide +kernel), List.mem_of_getElem? (i := 260) (by decide +kernel)⟩
theorem lw_p1 : lw_okq (⟨"CrowMiles", "refuseFull", "()I"⟩, 14) := ⟨⟨by decide +kernel, by decide +kernel⟩, List.mem_of_getElem? (i := 17) (by decide +kernel), List.mem_of_getElem? (i := 263) (by decide +kernel), List.mem_of_getElem? (i := 264) (by decide +kernel)⟩
theorem lw_p2 : lw_okq (⟨"CrowMiles$Reader", "takeToken", "()V"⟩, 7) := ⟨⟨by decide +kernel, by decide +kernel⟩, List.mem_of_getElem? (i := 155) (by decide +kernel), List.mem_of_getElem? (i := 303) (by decide +kernel), List.mem_of_getElem? (i := 304) (by decide +kernel)⟩
theorem lw_p3 : lw_okq (⟨"CrowMiles$Reader", "takeLetters", "()V"⟩, 7) := ⟨⟨by decide +kernel, by decide +kernel⟩, List.mem_of_getElem? (i := 155) (by decide +kernel), List.mem_of_getElem? (i := 310) (by decide +kernel), List.mem_of_getElem? (i := 311) (by decide +kernel)⟩
theorem lw_p4 : lw_okq (⟨"CrowMiles$Reader", "takeFigures", "()V"⟩, 7) := ⟨⟨by decide +kernel, by decide +kernel⟩, List.mem_of_getElem? (i := 155) (by decide +kernel), List.mem_of_getElem? (i := 317) (by decide +kernel), List.mem_of_getElem? (i := 318) (by decide +kernel)⟩
theorem lw_p5 : lw_okq (⟨"CrowMiles$Reader", "takeItem", "(I)Z"⟩, 7) := ⟨⟨by decide +kernel, by decide +kernel⟩, List.mem_of_getElem? (i := 155) (by decide +kernel), List.mem_of_getElem? (i := 321) (by decide +kernel), List.mem_of_getElem? (i := 322) (by decide +kernel)⟩
theorem lw_p6 : lw_okq (⟨"CrowMiles$Reader", "spells", "(Ljava/lang/String;)Z"⟩, 7) := ⟨⟨by decide +kernel, by decide +kernel⟩, List.mem_of_getElem? (i := 155) (by decide +kernel), List.mem_of_getElem? (i := 326) (by decide +kernel), List.mem_of_getElem? (i := 327) (by decide +kernel)⟩
theorem lw_p7 : lw_okq (⟨"CrowMiles$Reader", "takeStop", "()Z"⟩, 7) := ⟨⟨by decide +kernel, by decide +kernel⟩, List.mem_of_getElem? (i := 155) (by decide +kernel), List.mem_of_getElem? (i := 378) (by decide +kernel), List.mem_of_getElem? (i := 379) (by decide +kernel)⟩
theorem lw_p8 : lw_okq (⟨"CrowMiles$Reader", "takePlace", "()Z"⟩, 7) := ⟨⟨by decide +kernel, by decide +kernel⟩, List.mem_of_getElem? (i := 155) (by decide +kernel), List.mem_of_getElem? (i := 383) (by decide +kernel), List.mem_of_getElem? (i := 384) (by decide +kernel)⟩
theorem lw_p9 : lw_okq (⟨"CrowMiles$Reader", "takeNumber", "(II)Z"⟩, 7) := ⟨⟨by decide +kernel, by decide +kernel⟩, List.mem_of_getElem? (i := 155) (by decide +kernel), List.mem_of_getElem? (i := 387) (by decide +kernel), List.mem_of_getElem? (i := 388) (by decide +kernel)⟩
theorem lw_p10 : lw_okq (⟨"CrowMiles$Reader", "takeCrow", "()Z"⟩, 7) := ⟨⟨by decide +kernel, by decide +kernel⟩, List.mem_of_getElem? (i := 155) (by decide +kernel), List.mem_of_getElem? (i := 393) (by decide +kernel), List.mem_of_getElem? (i := 394) (by decide +kernel)⟩
theorem lw_p11 : lw_okq (⟨"CrowMiles$Reader", "takeFlight", "()Z"⟩, 7) := ⟨⟨by decide +kernel, by decide +kernel⟩, List.mem_of_getElem? (i := 155) (by decide +kernel), List.mem_of_getElem? (i := 399) (by decide +kernel), List.mem_of_getElem? (i := 400) (by decide +kernel)⟩
theorem lw_p12 : lw_okq (⟨"CrowMiles$Reader", "takeRest", "()Z"⟩, 7) := ⟨⟨by decide +kernel, by decide +kernel⟩, List.mem_of_getElem? (i := 155) (by decide +kernel), List.mem_of_getElem? (i := 433) (by decide +kernel), List.mem_of_getElem? (i := 434) (by decide +kernel)⟩
theorem lw_p13 : lw_okq (⟨"CrowMiles$Reader", "takeHours", "()Z"⟩, 7) := ⟨⟨by decide +kernel, by decide +kernel⟩, List.mem_of_getElem? (i := 155) (by decide +kernel), List.mem_of_getElem? (i := 442) (by decide +kernel), List.mem_of_getElem? (i := 443) (by decide +kernel)⟩
theorem lw_p14 : lw_okq (⟨"CrowMiles", "refuseNo", "()I"⟩, 14) := ⟨⟨by decide +kernel, by decide +kernel⟩, List.mem_of_getElem? (i := 17) (by decide +kernel), List.mem_of_getElem? (i := 468) (by decide +kernel), List.mem_of_getElem? (i := 469) (by decide +kernel)⟩
theorem lw_p15 : lw_okq (⟨"CrowMiles$Country", "dropFirstPast", "()V"⟩, 11) := ⟨⟨by decide +kernel, by decide +kernel⟩, List.mem_of_getElem? (i := 25) (by decide +kernel), List.mem_of_getElem? (i := 476) (by decide +kernel), List.mem_of_getElem? (i := 477) (by decide +kernel)⟩
def lw_privs_1 : List (MethodName × Nat) := [(⟨"CrowMiles", "refuseBad", "()I"⟩, 14), (⟨"CrowMiles", "refuseFull", "()I"⟩, 14), (⟨"CrowMiles$Reader", "takeToken", "()V"⟩, 7), (⟨"CrowMiles$Reader", "takeLetters", "()V"⟩, 7), (⟨"CrowMiles$Reader", "takeFigures", "()V"⟩, 7), (⟨"CrowMiles$Reader", "takeItem", "(I)Z"⟩, 7), (⟨"CrowMiles$Reader", "spells", "(Ljava/lang/String;)Z"⟩, 7), (⟨"CrowMiles$Reader", "takeStop", "()Z"⟩, 7), (⟨"CrowMiles$Reader", "takePlace", "()Z"⟩, 7), (⟨"CrowMiles$Reader", "takeNumber", "(II)Z"⟩, 7), (⟨"CrowMiles$Reader", "takeCrow", "()Z"⟩, 7), (⟨"CrowMiles$Reader", "takeFlight", "()Z"⟩, 7), (⟨"CrowMiles$Reader", "takeRest", "()Z"⟩, 7), (⟨"CrowMiles$Reader", "takeHours", "()Z"⟩, 7), (⟨"CrowMiles", "refuseNo", "()I"⟩, 14), (⟨"CrowMiles$Country", "dropFirstPast", "()V"⟩, 11)]
theorem lw_r1 : ∀ q ∈ lw_privs_1, lw_okq q := List.forall_mem_cons.mpr ⟨lw_p0, List.forall_mem_cons.mpr ⟨lw_p1, List.forall_mem_cons.mpr ⟨lw_p2, List.forall_mem_cons.mpr ⟨lw_p3, List.forall_mem_cons.mpr ⟨lw_p4, List.forall_mem_cons.mpr ⟨lw_p5, List.forall_mem_cons.mpr ⟨lw_p6, List.forall_mem_cons.mpr ⟨lw_p7, List.forall_mem_cons.mpr ⟨lw_p8, List.forall_mem_cons.mpr ⟨lw_p9, List.forall_mem_cons.mpr ⟨lw_p10, List.forall_mem_cons.mpr ⟨lw_p11, List.forall_mem_cons.mpr ⟨lw_p12, List.forall_mem_cons.mpr ⟨lw_p13, List.forall_mem_cons.mpr ⟨lw_p14, List.forall_mem_cons.mpr ⟨lw_p15, fun _ h => absurd h List.not_mem_nil⟩⟩⟩⟩⟩⟩⟩⟩⟩⟩⟩⟩⟩⟩⟩⟩
theorem lw_p16 : lw_okq (⟨"CrowMiles", "isTrip", "(III)Z"⟩, 14) := ⟨⟨by decide +kernel, by decide +kernel⟩, List.mem_of_getElem? (i := 17) (by decide +kernel), List.mem_of_getElem? (i := 527) (by decide +kernel), List.mem_of_getElem? (i := 528) (by decide +kernel)⟩
theorem lw_p17 : lw_okq (⟨"CrowMiles", "refuseList", "()I"⟩, 14) := ⟨⟨by decide +kernel, by decide +kernel⟩, List.mem_of_getElem? (i := 17) (by decide +kernel), List.mem_of_getElem? (i := 539) (by decide +kernel), List.mem_of_getElem? (i := 540) (by decide +kernel)⟩
theorem lw_p18 : lw_okq (⟨"CrowMiles$Roads", "shortenFrom", "(I)V"⟩, 6) := ⟨⟨by decide +kernel, by decide +kernel⟩, List.mem_of_getElem? (i := 128) (by decide +kernel), List.mem_of_getElem? (i := 553) (by decide +kernel), List.mem_of_getElem? (i := 554) (by decide +kernel)⟩
theorem lw_p19 : lw_okq (⟨"CrowMiles$Roads", "partCost", "(II)I"⟩, 6) := ⟨⟨by decide +kernel, by decide +kernel⟩, List.mem_of_getElem? (i := 128) (by decide +kernel), List.mem_of_getElem? (i := 557) (by decide +kernel), List.mem_of_getElem? (i := 558) (by decide +kernel)⟩
theorem lw_p20 : lw_okq (⟨"CrowMiles$Roads", "firstStepFrom", "(I)I"⟩, 6) := ⟨⟨by decide +kernel, by decide +kernel⟩, List.mem_of_getElem? (i := 128) (by decide +kernel), List.mem_of_getElem? (i := 562) (by decide +kernel), List.mem_of_getElem? (i := 563) (by decide +kernel)⟩
theorem lw_p21 : lw_okq (⟨"CrowMiles$Roads", "addFound", "(I)V"⟩, 6) := ⟨⟨by decide +kernel, by decide +kernel⟩, List.mem_of_getElem? (i := 128) (by decide +kernel), List.mem_of_getElem? (i := 566) (by decide +kernel), List.mem_of_getElem? (i := 567) (by decide +kernel)⟩
theorem lw_p22 : lw_okq (⟨"CrowMiles$Roads", "leastHome", "(II)I"⟩, 6) := ⟨⟨by decide +kernel, by decide +kernel⟩, List.mem_of_getElem? (i := 128) (by decide +kernel), List.mem_of_getElem? (i := 582) (by decide +kernel), List.mem_of_getElem? (i := 583) (by decide +kernel)⟩
theorem lw_p23 : lw_okq (⟨"CrowMiles$Roads", "nextOfRound", "(II)I"⟩, 6) := ⟨⟨by decide +kernel, by decide +kernel⟩, List.mem_of_getElem? (i := 128) (by decide +kernel), List.mem_of_getElem? (i := 586) (by decide +kernel), List.mem_of_getElem? (i := 587) (by decide +kernel)⟩
theorem lw_p24 : lw_okq (⟨"CrowMiles$Roads", "homeOver", "(III)I"⟩, 6) := ⟨⟨by decide +kernel, by decide +kernel⟩, List.mem_of_getElem? (i := 128) (by decide +kernel), List.mem_of_getElem? (i := 590) (by decide +kernel), List.mem_of_getElem? (i := 591) (by decide +kernel)⟩
theorem lw_p25 : lw_okq (⟨"CrowMiles$Roads", "hasShortcut", "(II)Z"⟩, 6) := ⟨⟨by decide +kernel, by decide +kernel⟩, List.mem_of_getElem? (i := 128) (by decide +kernel), List.mem_of_getElem? (i := 602) (by decide +kernel), List.mem_of_getElem? (i := 603) (by decide +kernel)⟩
theorem lw_p26 : lw_okq (⟨"CrowMiles$Doings", "isDeed", "(III)Z"⟩, 5) := ⟨⟨by decide +kernel, by decide +kernel⟩, List.mem_of_getElem? (i := 31) (by decide +kernel), List.mem_of_getElem? (i := 619) (by decide +kernel), List.mem_of_getElem? (i := 620) (by decide +kernel)⟩
theorem lw_p27 : lw_okq (⟨"CrowMiles$Doings", "apartFrom", "(III)I"⟩, 5) := ⟨⟨by decide +kernel, by decide +kernel⟩, List.mem_of_getElem? (i := 31) (by decide +kernel), List.mem_of_getElem? (i := 627) (by decide +kernel), List.mem_of_getElem? (i := 628) (by decide +kernel)⟩
theorem lw_p28 : lw_okq (⟨"CrowMiles$Sightings", "allow", "(II)Z"⟩, 3) := ⟨⟨by decide +kernel, by decide +kernel⟩, List.mem_of_getElem? (i := 65) (by decide +kernel), List.mem_of_getElem? (i := 681) (by decide +kernel), List.mem_of_getElem? (i := 682) (by decide +kernel)⟩
theorem lw_p29 : lw_okq (⟨"CrowMiles$Questions", "mostAlike", "(I)I"⟩, 1) := ⟨⟨by decide +kernel, by decide +kernel⟩, List.mem_of_getElem? (i := 188) (by decide +kernel), List.mem_of_getElem? (i := 699) (by decide +kernel), List.mem_of_getElem? (i := 700) (by decide +kernel)⟩
theorem lw_p30 : lw_okq (⟨"CrowMiles$Roads", "isResting", "(III)Z"⟩, 6) := ⟨⟨by decide +kernel, by decide +kernel⟩, List.mem_of_getElem? (i := 128) (by decide +kernel), List.mem_of_getElem? (i := 722) (by decide +kernel), List.mem_of_getElem? (i := 723) (by decide +kernel)⟩
theorem lw_p31 : lw_okq (⟨"CrowMiles$Roads", "surveyorGets", "(III)I"⟩, 6) := ⟨⟨by decide +kernel, by decide +kernel⟩, List.mem_of_getElem? (i := 128) (by decide +kernel), List.mem_of_getElem? (i := 726) (by decide +kernel), List.mem_of_getElem? (i := 727) (by decide +kernel)⟩
def lw_privs_2 : List (MethodName × Nat) := [(⟨"CrowMiles", "isTrip", "(III)Z"⟩, 14), (⟨"CrowMiles", "refuseList", "()I"⟩, 14), (⟨"CrowMiles$Roads", "shortenFrom", "(I)V"⟩, 6), (⟨"CrowMiles$Roads", "partCost", "(II)I"⟩, 6), (⟨"CrowMiles$Roads", "firstStepFrom", "(I)I"⟩, 6), (⟨"CrowMiles$Roads", "addFound", "(I)V"⟩, 6), (⟨"CrowMiles$Roads", "leastHome", "(II)I"⟩, 6), (⟨"CrowMiles$Roads", "nextOfRound", "(II)I"⟩, 6), (⟨"CrowMiles$Roads", "homeOver", "(III)I"⟩, 6), (⟨"CrowMiles$Roads", "hasShortcut", "(II)Z"⟩, 6), (⟨"CrowMiles$Doings", "isDeed", "(III)Z"⟩, 5), (⟨"CrowMiles$Doings", "apartFrom", "(III)I"⟩, 5), (⟨"CrowMiles$Sightings", "allow", "(II)Z"⟩, 3), (⟨"CrowMiles$Questions", "mostAlike", "(I)I"⟩, 1), (⟨"CrowMiles$Roads", "isResting", "(III)Z"⟩, 6), (⟨"CrowMiles$Roads", "surveyorGets", "(III)I"⟩, 6)]
theorem lw_r2 : ∀ q ∈ lw_privs_2, lw_okq q := List.forall_mem_cons.mpr ⟨lw_p16, List.forall_mem_cons.mpr ⟨lw_p17, List.forall_mem_cons.mpr ⟨lw_p18, List.forall_mem_cons.mpr ⟨lw_p19, List.forall_mem_cons.mpr ⟨lw_p20, List.forall_mem_cons.mpr ⟨lw_p21, List.forall_mem_cons.mpr ⟨lw_p22, List.forall_mem_cons.mpr ⟨lw_p23, List.forall_mem_cons.mpr ⟨lw_p24, List.forall_mem_cons.mpr ⟨lw_p25, List.forall_mem_cons.mpr ⟨lw_p26, List.forall_mem_cons.mpr ⟨lw_p27, List.forall_mem_cons.mpr ⟨lw_p28, List.forall_mem_cons.mpr ⟨lw_p29, List.forall_mem_cons.mpr ⟨lw_p30, List.forall_mem_cons.mpr ⟨lw_p31, fun _ h => absurd h List.not_mem_nil⟩⟩⟩⟩⟩⟩⟩⟩⟩⟩⟩⟩⟩⟩⟩⟩
theorem lw_p32 : lw_okq (⟨"CrowMiles$Roads", "ownerGets", "(III)I"⟩, 6) := ⟨⟨by decide +kernel, by decide +kernel⟩, List.mem_of_getElem? (i := 128) (by decide +kernel), List.mem_of_getElem? (i := 730) (by decide +kernel), List.mem_of_getElem? (i := 731) (by decide +kernel)⟩
theorem lw_p33 : lw_okq (⟨"CrowMiles", "keepFraction", "(II)V"⟩, 14) := ⟨⟨by decide +kernel, by decide +kernel⟩, List.mem_of_getElem? (i := 17) (by decide +kernel), List.mem_of_getElem? (i := 738) (by decide +kernel), List.mem_of_getElem? (i := 739) (by decide +kernel)⟩
theorem lw_p34 : lw_okq (⟨"CrowMiles", "travel", "(II)I"⟩, 14) := ⟨⟨by decide +kernel, by decide +kernel⟩, List.mem_of_getElem? (i := 17) (by decide +kernel), List.mem_of_getElem? (i := 755) (by decide +kernel), List.mem_of_getElem? (i := 756) (by decide +kernel)⟩
theorem lw_p35 : lw_okq (⟨"CrowMiles", "amount", "(I)I"⟩, 14) := ⟨⟨by decide +kernel, by decide +kernel⟩, List.mem_of_getElem? (i := 17) (by decide +kernel), List.mem_of_getElem? (i := 779) (by decide +kernel), List.mem_of_getElem? (i := 780) (by decide +kernel)⟩
theorem lw_p36 : lw_okq (⟨"CrowMilesModel", "clearRow", "(I)V"⟩, 17) := ⟨⟨by decide +kernel, by decide +kernel⟩, List.mem_of_getElem? (i := 811) (by decide +kernel), List.mem_of_getElem? (i := 873) (by decide +kernel), List.mem_of_getElem? (i := 874) (by decide +kernel)⟩
theorem lw_p37 : lw_okq (⟨"CrowMilesModel", "bad", "()I"⟩, 17) := ⟨⟨by decide +kernel, by decide +kernel⟩, List.mem_of_getElem? (i := 811) (by decide +kernel), List.mem_of_getElem? (i := 884) (by decide +kernel), List.mem_of_getElem? (i := 885) (by decide +kernel)⟩
theorem lw_p38 : lw_okq (⟨"CrowMilesModel", "full", "()I"⟩, 17) := ⟨⟨by decide +kernel, by decide +kernel⟩, List.mem_of_getElem? (i := 811) (by decide +kernel), List.mem_of_getElem? (i := 888) (by decide +kernel), List.mem_of_getElem? (i := 889) (by decide +kernel)⟩
theorem lw_p39 : lw_okq (⟨"CrowMilesModel", "placeIn", "(IIII)I"⟩, 17) := ⟨⟨by decide +kernel, by decide +kernel⟩, List.mem_of_getElem? (i := 811) (by decide +kernel), List.mem_of_getElem? (i := 892) (by decide +kernel), List.mem_of_getElem? (i := 893) (by decide +kernel)⟩
theorem lw_p40 : lw_okq (⟨"CrowMilesModel", "isPlace", "(I)Z"⟩, 17) := ⟨⟨by decide +kernel, by decide +kernel⟩, List.mem_of_getElem? (i := 811) (by decide +kernel), List.mem_of_getElem? (i := 900) (by decide +kernel), List.mem_of_getElem? (i := 901) (by decide +kernel)⟩
theorem lw_p41 : lw_okq (⟨"CrowMilesModel", "crowIn", "(III)I"⟩, 17) := ⟨⟨by decide +kernel, by decide +kernel⟩, List.mem_of_getElem? (i := 811) (by decide +kernel), List.mem_of_getElem? (i := 904) (by decide +kernel), List.mem_of_getElem? (i := 905) (by decide +kernel)⟩
theorem lw_p42 : lw_okq (⟨"CrowMilesModel", "nextToken", "()V"⟩, 17) := ⟨⟨by decide +kernel, by decide +kernel⟩, List.mem_of_getElem? (i := 811) (by decide +kernel), List.mem_of_getElem? (i := 920) (by decide +kernel), List.mem_of_getElem? (i := 921) (by decide +kernel)⟩
theorem lw_p43 : lw_okq (⟨"CrowMilesModel", "isLetter", "(I)Z"⟩, 17) := ⟨⟨by decide +kernel, by decide +kernel⟩, List.mem_of_getElem? (i := 811) (by decide +kernel), List.mem_of_getElem? (i := 924) (by decide +kernel), List.mem_of_getElem? (i := 925) (by decide +kernel)⟩
theorem lw_p44 : lw_okq (⟨"CrowMilesModel", "isFigure", "(I)Z"⟩, 17) := ⟨⟨by decide +kernel, by decide +kernel⟩, List.mem_of_getElem? (i := 811) (by decide +kernel), List.mem_of_getElem? (i := 928) (by decide +kernel), List.mem_of_getElem? (i := 929) (by decide +kernel)⟩
theorem lw_p45 : lw_okq (⟨"CrowMilesModel", "readNumber", "()V"⟩, 17) := ⟨⟨by decide +kernel, by decide +kernel⟩, List.mem_of_getElem? (i := 811) (by decide +kernel), List.mem_of_getElem? (i := 932) (by decide +kernel), List.mem_of_getElem? (i := 933) (by decide +kernel)⟩
theorem lw_p46 : lw_okq (⟨"CrowMilesModel", "spells", "(IIIIIII)Z"⟩, 17) := ⟨⟨by decide +kernel, by decide +kernel⟩, List.mem_of_getElem? (i := 811) (by decide +kernel), List.mem_of_getElem? (i := 936) (by decide +kernel), List.mem_of_getElem? (i := 937) (by decide +kernel)⟩
theorem lw_p47 : lw_okq (⟨"CrowMilesModel", "letter", "(I)I"⟩, 17) := ⟨⟨by decide +kernel, by decide +kernel⟩, List.mem_of_getElem? (i := 811) (by decide +kernel), List.mem_of_getElem? (i := 940) (by decide +kernel), List.mem_of_getElem? (i := 941) (by decide +kernel)⟩
def lw_privs_3 : List (MethodName × Nat) := [(⟨"CrowMiles$Roads", "ownerGets", "(III)I"⟩, 6), (⟨"CrowMiles", "keepFraction", "(II)V"⟩, 14), (⟨"CrowMiles", "travel", "(II)I"⟩, 14), (⟨"CrowMiles", "amount", "(I)I"⟩, 14), (⟨"CrowMilesModel", "clearRow", "(I)V"⟩, 17), (⟨"CrowMilesModel", "bad", "()I"⟩, 17), (⟨"CrowMilesModel", "full", "()I"⟩, 17), (⟨"CrowMilesModel", "placeIn", "(IIII)I"⟩, 17), (⟨"CrowMilesModel", "isPlace", "(I)Z"⟩, 17), (⟨"CrowMilesModel", "crowIn", "(III)I"⟩, 17), (⟨"CrowMilesModel", "nextToken", "()V"⟩, 17), (⟨"CrowMilesModel", "isLetter", "(I)Z"⟩, 17), (⟨"CrowMilesModel", "isFigure", "(I)Z"⟩, 17), (⟨"CrowMilesModel", "readNumber", "()V"⟩, 17), (⟨"CrowMilesModel", "spells", "(IIIIIII)Z"⟩, 17), (⟨"CrowMilesModel", "letter", "(I)I"⟩, 17)]
theorem lw_r3 : ∀ q ∈ lw_privs_3, lw_okq q := List.forall_mem_cons.mpr ⟨lw_p32, List.forall_mem_cons.mpr ⟨lw_p33, List.forall_mem_cons.mpr ⟨lw_p34, List.forall_mem_cons.mpr ⟨lw_p35, List.forall_mem_cons.mpr ⟨lw_p36, List.forall_mem_cons.mpr ⟨lw_p37, List.forall_mem_cons.mpr ⟨lw_p38, List.forall_mem_cons.mpr ⟨lw_p39, List.forall_mem_cons.mpr ⟨lw_p40, List.forall_mem_cons.mpr ⟨lw_p41, List.forall_mem_cons.mpr ⟨lw_p42, List.forall_mem_cons.mpr ⟨lw_p43, List.forall_mem_cons.mpr ⟨lw_p44, List.forall_mem_cons.mpr ⟨lw_p45, List.forall_mem_cons.mpr ⟨lw_p46, List.forall_mem_cons.mpr ⟨lw_p47, fun _ h => absurd h List.not_mem_nil⟩⟩⟩⟩⟩⟩⟩⟩⟩⟩⟩⟩⟩⟩⟩⟩
theorem lw_p48 : lw_okq (⟨"CrowMilesModel", "wrong", "()V"⟩, 17) := ⟨⟨by decide +kernel, by decide +kernel⟩, List.mem_of_getElem? (i := 811) (by decide +kernel), List.mem_of_getElem? (i := 944) (by decide +kernel), List.mem_of_getElem? (i := 945) (by decide +kernel)⟩
theorem lw_p49 : lw_okq (⟨"CrowMilesModel", "stop", "()V"⟩, 17) := ⟨⟨by decide +kernel, by decide +kernel⟩, List.mem_of_getElem? (i := 811) (by decide +kernel), List.mem_of_getElem? (i := 948) (by decide +kernel), List.mem_of_getElem? (i := 949) (by decide +kernel)⟩
theorem lw_p50 : lw_okq (⟨"CrowMilesModel", "fine", "()Z"⟩, 17) := ⟨⟨by decide +kernel, by decide +kernel⟩, List.mem_of_getElem? (i := 811) (by decide +kernel), List.mem_of_getElem? (i := 952) (by decide +kernel), List.mem_of_getElem? (i := 953) (by decide +kernel)⟩
theorem lw_p51 : lw_okq (⟨"CrowMilesModel", "readItem", "()V"⟩, 17) := ⟨⟨by decide +kernel, by decide +kernel⟩, List.mem_of_getElem? (i := 811) (by decide +kernel), List.mem_of_getElem? (i := 956) (by decide +kernel), List.mem_of_getElem? (i := 957) (by decide +kernel)⟩
theorem lw_p52 : lw_okq (⟨"CrowMilesModel", "readPlace", "()V"⟩, 17) := ⟨⟨by decide +kernel, by decide +kernel⟩, List.mem_of_getElem? (i := 811) (by decide +kernel), List.mem_of_getElem? (i := 960) (by decide +kernel), List.mem_of_getElem? (i := 961) (by decide +kernel)⟩
theorem lw_p53 : lw_okq (⟨"CrowMilesModel", "number", "(II)I"⟩, 17) := ⟨⟨by decide +kernel, by decide +kernel⟩, List.mem_of_getElem? (i := 811) (by decide +kernel), List.mem_of_getElem? (i := 964) (by decide +kernel), List.mem_of_getElem? (i := 965) (by decide +kernel)⟩
theorem lw_p54 : lw_okq (⟨"CrowMilesModel", "readCrow", "()V"⟩, 17) := ⟨⟨by decide +kernel, by decide +kernel⟩, List.mem_of_getElem? (i := 811) (by decide +kernel), List.mem_of_getElem? (i := 968) (by decide +kernel), List.mem_of_getElem? (i := 969) (by decide +kernel)⟩
theorem lw_p55 : lw_okq (⟨"CrowMilesModel", "readFly", "()V"⟩, 17) := ⟨⟨by decide +kernel, by decide +kernel⟩, List.mem_of_getElem? (i := 811) (by decide +kernel), List.mem_of_getElem? (i := 972) (by decide +kernel), List.mem_of_getElem? (i := 973) (by decide +kernel)⟩
theorem lw_p56 : lw_okq (⟨"CrowMilesModel", "flyIn", "(IIII)I"⟩, 17) := ⟨⟨by decide +kernel, by decide +kernel⟩, List.mem_of_getElem? (i := 811) (by decide +kernel), List.mem_of_getElem? (i := 976) (by decide +kernel), List.mem_of_getElem? (i := 977) (by decide +kernel)⟩
theorem lw_p57 : lw_okq (⟨"CrowMilesModel", "farIn", "(IIIII)I"⟩, 17) := ⟨⟨by decide +kernel, by decide +kernel⟩, List.mem_of_getElem? (i := 811) (by decide +kernel), List.mem_of_getElem? (i := 980) (by decide +kernel), List.mem_of_getElem? (i := 981) (by decide +kernel)⟩
theorem lw_p58 : lw_okq (⟨"CrowMilesModel", "farAt", "(IIIIII)I"⟩, 17) := ⟨⟨by decide +kernel, by decide +kernel⟩, List.mem_of_getElem? (i := 811) (by decide +kernel), List.mem_of_getElem? (i := 984) (by decide +kernel), List.mem_of_getElem? (i := 985) (by decide +kernel)⟩
theorem lw_p59 : lw_okq (⟨"CrowMilesModel", "straightIn", "(III)I"⟩, 17) := ⟨⟨by decide +kernel, by decide +kernel⟩, List.mem_of_getElem? (i := 811) (by decide +kernel), List.mem_of_getElem? (i := 988) (by decide +kernel), List.mem_of_getElem? (i := 989) (by decide +kernel)⟩
theorem lw_p60 : lw_okq (⟨"CrowMilesModel", "goOn", "(II)V"⟩, 17) := ⟨⟨by decide +kernel, by decide +kernel⟩, List.mem_of_getElem? (i := 811) (by decide +kernel), List.mem_of_getElem? (i := 1001) (by decide +kernel), List.mem_of_getElem? (i := 1002) (by decide +kernel)⟩
theorem lw_p61 : lw_okq (⟨"CrowMilesModel", "readRest", "()V"⟩, 17) := ⟨⟨by decide +kernel, by decide +kernel⟩, List.mem_of_getElem? (i := 811) (by decide +kernel), List.mem_of_getElem? (i := 1005) (by decide +kernel), List.mem_of_getElem? (i := 1006) (by decide +kernel)⟩
theorem lw_p62 : lw_okq (⟨"CrowMilesModel", "restIn", "(II)I"⟩, 17) := ⟨⟨by decide +kernel, by decide +kernel⟩, List.mem_of_getElem? (i := 811) (by decide +kernel), List.mem_of_getElem? (i := 1009) (by decide +kernel), List.mem_of_getElem? (i := 1010) (by decide +kernel)⟩
theorem lw_p63 : lw_okq (⟨"CrowMilesModel", "readHours", "()V"⟩, 17) := ⟨⟨by decide +kernel, by decide +kernel⟩, List.mem_of_getElem? (i := 811) (by decide +kernel), List.mem_of_getElem? (i := 1013) (by decide +kernel), List.mem_of_getElem? (i := 1014) (by decide +kernel)⟩
def lw_privs_4 : List (MethodName × Nat) := [(⟨"CrowMilesModel", "wrong", "()V"⟩, 17), (⟨"CrowMilesModel", "stop", "()V"⟩, 17), (⟨"CrowMilesModel", "fine", "()Z"⟩, 17), (⟨"CrowMilesModel", "readItem", "()V"⟩, 17), (⟨"CrowMilesModel", "readPlace", "()V"⟩, 17), (⟨"CrowMilesModel", "number", "(II)I"⟩, 17), (⟨"CrowMilesModel", "readCrow", "()V"⟩, 17), (⟨"CrowMilesModel", "readFly", "()V"⟩, 17), (⟨"CrowMilesModel", "flyIn", "(IIII)I"⟩, 17), (⟨"CrowMilesModel", "farIn", "(IIIII)I"⟩, 17), (⟨"CrowMilesModel", "farAt", "(IIIIII)I"⟩, 17), (⟨"CrowMilesModel", "straightIn", "(III)I"⟩, 17), (⟨"CrowMilesModel", "goOn", "(II)V"⟩, 17), (⟨"CrowMilesModel", "readRest", "()V"⟩, 17), (⟨"CrowMilesModel", "restIn", "(II)I"⟩, 17), (⟨"CrowMilesModel", "readHours", "()V"⟩, 17)]
theorem lw_r4 : ∀ q ∈ lw_privs_4, lw_okq q := List.forall_mem_cons.mpr ⟨lw_p48, List.forall_mem_cons.mpr ⟨lw_p49, List.forall_mem_cons.mpr ⟨lw_p50, List.forall_mem_cons.mpr ⟨lw_p51, List.forall_mem_cons.mpr ⟨lw_p52, List.forall_mem_cons.mpr ⟨lw_p53, List.forall_mem_cons.mpr ⟨lw_p54, List.forall_mem_cons.mpr ⟨lw_p55, List.forall_mem_cons.mpr ⟨lw_p56, List.forall_mem_cons.mpr ⟨lw_p57, List.forall_mem_cons.mpr ⟨lw_p58, List.forall_mem_cons.mpr ⟨lw_p59, List.forall_mem_cons.mpr ⟨lw_p60, List.forall_mem_cons.mpr ⟨lw_p61, List.forall_mem_cons.mpr ⟨lw_p62, List.forall_mem_cons.mpr ⟨lw_p63, fun _ h => absurd h List.not_mem_nil⟩⟩⟩⟩⟩⟩⟩⟩⟩⟩⟩⟩⟩⟩⟩⟩
theorem lw_p64 : lw_okq (⟨"CrowMilesModel", "copyRow", "(III)V"⟩, 17) := ⟨⟨by decide +kernel, by decide +kernel⟩, List.mem_of_getElem? (i := 811) (by decide +kernel), List.mem_of_getElem? (i := 1017) (by decide +kernel), List.mem_of_getElem? (i := 1018) (by decide +kernel)⟩
theorem lw_p65 : lw_okq (⟨"CrowMilesModel", "isCrow", "(I)Z"⟩, 17) := ⟨⟨by decide +kernel, by decide +kernel⟩, List.mem_of_getElem? (i := 811) (by decide +kernel), List.mem_of_getElem? (i := 1025) (by decide +kernel), List.mem_of_getElem? (i := 1026) (by decide +kernel)⟩
theorem lw_p66 : lw_okq (⟨"CrowMilesModel", "no", "()I"⟩, 17) := ⟨⟨by decide +kernel, by decide +kernel⟩, List.mem_of_getElem? (i := 811) (by decide +kernel), List.mem_of_getElem? (i := 1029) (by decide +kernel), List.mem_of_getElem? (i := 1030) (by decide +kernel)⟩
theorem lw_p67 : lw_okq (⟨"CrowMilesModel", "remember", "()V"⟩, 17) := ⟨⟨by decide +kernel, by decide +kernel⟩, List.mem_of_getElem? (i := 811) (by decide +kernel), List.mem_of_getElem? (i := 1033) (by decide +kernel), List.mem_of_getElem? (i := 1034) (by decide +kernel)⟩
theorem lw_p68 : lw_okq (⟨"CrowMilesModel", "farNow", "(III)I"⟩, 17) := ⟨⟨by decide +kernel, by decide +kernel⟩, List.mem_of_getElem? (i := 811) (by decide +kernel), List.mem_of_getElem? (i := 1065) (by decide +kernel), List.mem_of_getElem? (i := 1066) (by decide +kernel)⟩
theorem lw_p69 : lw_okq (⟨"CrowMilesModel", "badTen", "()I"⟩, 17) := ⟨⟨by decide +kernel, by decide +kernel⟩, List.mem_of_getElem? (i := 811) (by decide +kernel), List.mem_of_getElem? (i := 1073) (by decide +kernel), List.mem_of_getElem? (i := 1074) (by decide +kernel)⟩
theorem lw_p70 : lw_okq (⟨"CrowMilesModel", "layFars", "(I)V"⟩, 17) := ⟨⟨by decide +kernel, by decide +kernel⟩, List.mem_of_getElem? (i := 811) (by decide +kernel), List.mem_of_getElem? (i := 1077) (by decide +kernel), List.mem_of_getElem? (i := 1078) (by decide +kernel)⟩
theorem lw_p71 : lw_okq (⟨"CrowMilesModel", "layYet", "(I)V"⟩, 17) := ⟨⟨by decide +kernel, by decide +kernel⟩, List.mem_of_getElem? (i := 811) (by decide +kernel), List.mem_of_getElem? (i := 1081) (by decide +kernel), List.mem_of_getElem? (i := 1082) (by decide +kernel)⟩
theorem lw_p72 : lw_okq (⟨"CrowMilesModel", "leastFrom", "(III)I"⟩, 17) := ⟨⟨by decide +kernel, by decide +kernel⟩, List.mem_of_getElem? (i := 811) (by decide +kernel), List.mem_of_getElem? (i := 1088) (by decide +kernel), List.mem_of_getElem? (i := 1089) (by decide +kernel)⟩
theorem lw_p73 : lw_okq (⟨"CrowMilesModel", "partTo", "(III)I"⟩, 17) := ⟨⟨by decide +kernel, by decide +kernel⟩, List.mem_of_getElem? (i := 811) (by decide +kernel), List.mem_of_getElem? (i := 1093) (by decide +kernel), List.mem_of_getElem? (i := 1094) (by decide +kernel)⟩
theorem lw_p74 : lw_okq (⟨"CrowMilesModel", "kth", "(III)I"⟩, 17) := ⟨⟨by decide +kernel, by decide +kernel⟩, List.mem_of_getElem? (i := 811) (by decide +kernel), List.mem_of_getElem? (i := 1097) (by decide +kernel), List.mem_of_getElem? (i := 1098) (by decide +kernel)⟩
theorem lw_p75 : lw_okq (⟨"CrowMilesModel", "doesClash", "(II)Z"⟩, 17) := ⟨⟨by decide +kernel, by decide +kernel⟩, List.mem_of_getElem? (i := 811) (by decide +kernel), List.mem_of_getElem? (i := 1109) (by decide +kernel), List.mem_of_getElem? (i := 1110) (by decide +kernel)⟩
theorem lw_p76 : lw_okq (⟨"CrowMilesModel", "isDeed", "(III)Z"⟩, 17) := ⟨⟨by decide +kernel, by decide +kernel⟩, List.mem_of_getElem? (i := 811) (by decide +kernel), List.mem_of_getElem? (i := 1121) (by decide +kernel), List.mem_of_getElem? (i := 1122) (by decide +kernel)⟩
theorem lw_p77 : lw_okq (⟨"CrowMilesModel", "apart", "(III)I"⟩, 17) := ⟨⟨by decide +kernel, by decide +kernel⟩, List.mem_of_getElem? (i := 811) (by decide +kernel), List.mem_of_getElem? (i := 1125) (by decide +kernel), List.mem_of_getElem? (i := 1126) (by decide +kernel)⟩
theorem lw_p78 : lw_okq (⟨"CrowMilesModel", "isOf", "(I)I"⟩, 17) := ⟨⟨by decide +kernel, by decide +kernel⟩, List.mem_of_getElem? (i := 811) (by decide +kernel), List.mem_of_getElem? (i := 1149) (by decide +kernel), List.mem_of_getElem? (i := 1150) (by decide +kernel)⟩
theorem lw_p79 : lw_okq (⟨"CrowMilesModel", "kindsOf", "(I)I"⟩, 17) := ⟨⟨by decide +kernel, by decide +kernel⟩, List.mem_of_getElem? (i := 811) (by decide +kernel), List.mem_of_getElem? (i := 1157) (by decide +kernel), List.mem_of_getElem? (i := 1158) (by decide +kernel)⟩
def lw_privs_5 : List (MethodName × Nat) := [(⟨"CrowMilesModel", "copyRow", "(III)V"⟩, 17), (⟨"CrowMilesModel", "isCrow", "(I)Z"⟩, 17), (⟨"CrowMilesModel", "no", "()I"⟩, 17), (⟨"CrowMilesModel", "remember", "()V"⟩, 17), (⟨"CrowMilesModel", "farNow", "(III)I"⟩, 17), (⟨"CrowMilesModel", "badTen", "()I"⟩, 17), (⟨"CrowMilesModel", "layFars", "(I)V"⟩, 17), (⟨"CrowMilesModel", "layYet", "(I)V"⟩, 17), (⟨"CrowMilesModel", "leastFrom", "(III)I"⟩, 17), (⟨"CrowMilesModel", "partTo", "(III)I"⟩, 17), (⟨"CrowMilesModel", "kth", "(III)I"⟩, 17), (⟨"CrowMilesModel", "doesClash", "(II)Z"⟩, 17), (⟨"CrowMilesModel", "isDeed", "(III)Z"⟩, 17), (⟨"CrowMilesModel", "apart", "(III)I"⟩, 17), (⟨"CrowMilesModel", "isOf", "(I)I"⟩, 17), (⟨"CrowMilesModel", "kindsOf", "(I)I"⟩, 17)]
theorem lw_r5 : ∀ q ∈ lw_privs_5, lw_okq q := List.forall_mem_cons.mpr ⟨lw_p64, List.forall_mem_cons.mpr ⟨lw_p65, List.forall_mem_cons.mpr ⟨lw_p66, List.forall_mem_cons.mpr ⟨lw_p67, List.forall_mem_cons.mpr ⟨lw_p68, List.forall_mem_cons.mpr ⟨lw_p69, List.forall_mem_cons.mpr ⟨lw_p70, List.forall_mem_cons.mpr ⟨lw_p71, List.forall_mem_cons.mpr ⟨lw_p72, List.forall_mem_cons.mpr ⟨lw_p73, List.forall_mem_cons.mpr ⟨lw_p74, List.forall_mem_cons.mpr ⟨lw_p75, List.forall_mem_cons.mpr ⟨lw_p76, List.forall_mem_cons.mpr ⟨lw_p77, List.forall_mem_cons.mpr ⟨lw_p78, List.forall_mem_cons.mpr ⟨lw_p79, fun _ h => absurd h List.not_mem_nil⟩⟩⟩⟩⟩⟩⟩⟩⟩⟩⟩⟩⟩⟩⟩⟩
theorem lw_p80 : lw_okq (⟨"CrowMilesModel", "greatestPart", "(I)I"⟩, 17) := ⟨⟨by decide +kernel, by decide +kernel⟩, List.mem_of_getElem? (i := 811) (by decide +kernel), List.mem_of_getElem? (i := 1165) (by decide +kernel), List.mem_of_getElem? (i := 1166) (by decide +kernel)⟩
theorem lw_p81 : lw_okq (⟨"CrowMilesModel", "rest", "(III)Z"⟩, 17) := ⟨⟨by decide +kernel, by decide +kernel⟩, List.mem_of_getElem? (i := 811) (by decide +kernel), List.mem_of_getElem? (i := 1177) (by decide +kernel), List.mem_of_getElem? (i := 1178) (by decide +kernel)⟩
theorem lw_p82 : lw_okq (⟨"CrowMilesModel", "ownerGets", "(III)I"⟩, 17) := ⟨⟨by decide +kernel, by decide +kernel⟩, List.mem_of_getElem? (i := 811) (by decide +kernel), List.mem_of_getElem? (i := 1181) (by decide +kernel), List.mem_of_getElem? (i := 1182) (by decide +kernel)⟩
theorem lw_p83 : lw_okq (⟨"CrowMilesModel", "surveyorGets", "(III)I"⟩, 17) := ⟨⟨by decide +kernel, by decide +kernel⟩, List.mem_of_getElem? (i := 811) (by decide +kernel), List.mem_of_getElem? (i := 1185) (by decide +kernel), List.mem_of_getElem? (i := 1186) (by decide +kernel)⟩
theorem lw_p84 : lw_okq (⟨"CrowMilesModel", "yearIn", "(I)I"⟩, 17) := ⟨⟨by decide +kernel, by decide +kernel⟩, List.mem_of_getElem? (i := 811) (by decide +kernel), List.mem_of_getElem? (i := 1203) (by decide +kernel), List.mem_of_getElem? (i := 1204) (by decide +kernel)⟩
theorem lw_p85 : lw_okq (⟨"CrowMilesModel", "counted", "(I)I"⟩, 17) := ⟨⟨by decide +kernel, by decide +kernel⟩, List.mem_of_getElem? (i := 811) (by decide +kernel), List.mem_of_getElem? (i := 1229) (by decide +kernel), List.mem_of_getElem? (i := 1230) (by decide +kernel)⟩
theorem lw_p86 : lw_okq (⟨"CrowMilesModel", "lengths", "()I"⟩, 17) := ⟨⟨by decide +kernel, by decide +kernel⟩, List.mem_of_getElem? (i := 811) (by decide +kernel), List.mem_of_getElem? (i := 1233) (by decide +kernel), List.mem_of_getElem? (i := 1234) (by decide +kernel)⟩
theorem lw_p87 : lw_okq (⟨"CrowMilesModel", "more", "(JII)J"⟩, 17) := ⟨⟨by decide +kernel, by decide +kernel⟩, List.mem_of_getElem? (i := 811) (by decide +kernel), List.mem_of_getElem? (i := 1243) (by decide +kernel), List.mem_of_getElem? (i := 1244) (by decide +kernel)⟩
def lw_privs_6 : List (MethodName × Nat) := [(⟨"CrowMilesModel", "greatestPart", "(I)I"⟩, 17), (⟨"CrowMilesModel", "rest", "(III)Z"⟩, 17), (⟨"CrowMilesModel", "ownerGets", "(III)I"⟩, 17), (⟨"CrowMilesModel", "surveyorGets", "(III)I"⟩, 17), (⟨"CrowMilesModel", "yearIn", "(I)I"⟩, 17), (⟨"CrowMilesModel", "counted", "(I)I"⟩, 17), (⟨"CrowMilesModel", "lengths", "()I"⟩, 17), (⟨"CrowMilesModel", "more", "(JII)J"⟩, 17)]
theorem lw_r6 : ∀ q ∈ lw_privs_6, lw_okq q := List.forall_mem_cons.mpr ⟨lw_p80, List.forall_mem_cons.mpr ⟨lw_p81, List.forall_mem_cons.mpr ⟨lw_p82, List.forall_mem_cons.mpr ⟨lw_p83, List.forall_mem_cons.mpr ⟨lw_p84, List.forall_mem_cons.mpr ⟨lw_p85, List.forall_mem_cons.mpr ⟨lw_p86, List.forall_mem_cons.mpr ⟨lw_p87, fun _ h => absurd h List.not_mem_nil⟩⟩⟩⟩⟩⟩⟩⟩
def lw_privs : List (MethodName × Nat) := lw_privs_1 ++ (lw_privs_2 ++ (lw_privs_3 ++ (lw_privs_4 ++ (lw_privs_5 ++ (lw_privs_6)))))
def lw_tbl : List Cond := k2_sels lw_privs ++ tables_1
theorem lw_privs_ok : ∀ q ∈ lw_privs, lw_okq q := by
  show ∀ q ∈ lw_privs_1 ++ (lw_privs_2 ++ (lw_privs_3 ++ (lw_privs_4 ++ (lw_privs_5 ++ (lw_privs_6))))), lw_okq q
  exact List.forall_mem_append.mpr ⟨lw_r1, List.forall_mem_append.mpr ⟨lw_r2, List.forall_mem_append.mpr ⟨lw_r3, List.forall_mem_append.mpr ⟨lw_r4, List.forall_mem_append.mpr ⟨lw_r5, lw_r6⟩⟩⟩⟩⟩
end
section
def RX0 : String := "CrowMiles$Country"
def TX0 : u_T := fun k => match k with
  | 0 => ("CrowMiles$Country", "placeKind", "[I", true)
  | 1 => ("CrowMiles$Country", "placeX", "[I", true)
  | 2 => ("CrowMiles$Country", "placeY", "[I", true)
  | 3 => ("CrowMiles$Country", "places", "I", false)
  | 4 => ("CrowMiles$Country", "crowKind", "[I", true)
  | 5 => ("CrowMiles$Country", "crows", "I", false)
  | 6 => ("CrowMiles$Country", "now", "LCrowMiles$Doings;", true)
  | 7 => ("CrowMiles$Country", "past", "[LCrowMiles$Doings;", true)
  | 8 => ("CrowMiles$Country", "pasts", "I", false)
  | 9 => ("CrowMiles$Country", "notes", "LCrowMiles$Sightings;", true)
  | _ => ("CrowMiles$Country", "marks", "LCrowMiles$Sightings;", true)
def tyX0 : Nat → FieldType := fun k => match k with
  | 0 => .array .int
  | 1 => .array .int
  | 2 => .array .int
  | 3 => .int
  | 4 => .array .int
  | 5 => .int
  | 6 => .object "CrowMiles$Doings"
  | 7 => .array (.object "CrowMiles$Doings")
  | 8 => .int
  | 9 => .object "CrowMiles$Sightings"
  | _ => .object "CrowMiles$Sightings"
theorem nmX0 : ∀ a, a < 11 → ∀ b, b < 11 → a ≠ b → (TX0 a).2.1 ≠ (TX0 b).2.1 := by decide +kernel
theorem tyX0_ok : ∀ k, k < 11 → parseFieldDescriptor (TX0 k).2.2.1 = some (tyX0 k) := by decide +kernel
abbrev cX0_init : ByteArray := prog_2_method_1_code
def yX0_init : MethodName := ⟨RX0, "<init>", "()V"⟩
abbrev cX0_empty : ByteArray := prog_2_method_2_code
def yX0_empty : MethodName := ⟨RX0, "empty", "()V"⟩
abbrev cX0_become : ByteArray := prog_2_method_3_code
def yX0_become : MethodName := ⟨RX0, "become", "(LCrowMiles$Country;)V"⟩
abbrev cX0_hasPlace : ByteArray := prog_2_method_4_code
def yX0_hasPlace : MethodName := ⟨RX0, "hasPlace", "(I)Z"⟩
abbrev cX0_hasCrow : ByteArray := prog_2_method_5_code
def yX0_hasCrow : MethodName := ⟨RX0, "hasCrow", "(I)Z"⟩
abbrev cX0_addPlace : ByteArray := prog_2_method_6_code
def yX0_addPlace : MethodName := ⟨RX0, "addPlace", "(III)I"⟩
abbrev cX0_addCrow : ByteArray := prog_2_method_7_code
def yX0_addCrow : MethodName := ⟨RX0, "addCrow", "(II)I"⟩
abbrev cX0_aboutPlace : ByteArray := prog_2_method_8_code
def yX0_aboutPlace : MethodName := ⟨RX0, "aboutPlace", "(II)I"⟩
abbrev cX0_aboutCrow : ByteArray := prog_2_method_9_code
def yX0_aboutCrow : MethodName := ⟨RX0, "aboutCrow", "(II)I"⟩
abbrev cX0_remember : ByteArray := prog_2_method_10_code
def yX0_remember : MethodName := ⟨RX0, "remember", "()V"⟩
abbrev cX0_dropFirstPast : ByteArray := prog_2_method_11_code
def yX0_dropFirstPast : MethodName := ⟨RX0, "dropFirstPast", "()V"⟩
abbrev cX0_goBack : ByteArray := prog_2_method_12_code
def yX0_goBack : MethodName := ⟨RX0, "goBack", "()V"⟩
abbrev cX0_line : ByteArray := prog_2_method_13_code
def yX0_line : MethodName := ⟨RX0, "line", "(II)I"⟩
abbrev cX0_farAt : ByteArray := prog_2_method_14_code
def yX0_farAt : MethodName := ⟨RX0, "farAt", "(IIIII)I"⟩
abbrev cX0_farNow : ByteArray := prog_2_method_15_code
def yX0_farNow : MethodName := ⟨RX0, "farNow", "(III)I"⟩
abbrev cX0_fly : ByteArray := prog_2_method_16_code
def yX0_fly : MethodName := ⟨RX0, "fly", "(LCrowMiles$Doings;II)I"⟩
abbrev cX0_mixInto : ByteArray := prog_2_method_17_code
def yX0_mixInto : MethodName := ⟨RX0, "mixInto", "(J)J"⟩
abbrev cX0_mixThree : ByteArray := prog_2_method_18_code
def yX0_mixThree : MethodName := ⟨RX0, "mixThree", "(JIII)J"⟩
def RX1 : String := "CrowMiles$Doings"
def TX1 : u_T := fun k => match k with
  | 0 => ("CrowMiles$Doings", "at", "[I", true)
  | 1 => ("CrowMiles$Doings", "tired", "[I", true)
  | 2 => ("CrowMiles$Doings", "deedRows", "[I", true)
  | 3 => ("CrowMiles$Doings", "deeds", "I", false)
  | _ => ("CrowMiles$Doings", "hour", "I", false)
def tyX1 : Nat → FieldType := fun k => match k with
  | 0 => .array .int
  | 1 => .array .int
  | 2 => .array .int
  | 3 => .int
  | _ => .int
theorem nmX1 : ∀ a, a < 5 → ∀ b, b < 5 → a ≠ b → (TX1 a).2.1 ≠ (TX1 b).2.1 := by decide +kernel
theorem tyX1_ok : ∀ k, k < 5 → parseFieldDescriptor (TX1 k).2.2.1 = some (tyX1 k) := by decide +kernel
abbrev cX1_init : ByteArray := prog_3_method_1_code
def yX1_init : MethodName := ⟨RX1, "<init>", "()V"⟩
abbrev cX1_become : ByteArray := prog_3_method_2_code
def yX1_become : MethodName := ⟨RX1, "become", "(LCrowMiles$Doings;)V"⟩
abbrev cX1_move : ByteArray := prog_3_method_3_code
def yX1_move : MethodName := ⟨RX1, "move", "(III)V"⟩
abbrev cX1_sleep : ByteArray := prog_3_method_4_code
def yX1_sleep : MethodName := ⟨RX1, "sleep", "(I)V"⟩
abbrev cX1_stopTheClock : ByteArray := prog_3_method_5_code
def yX1_stopTheClock : MethodName := ⟨RX1, "stopTheClock", "()V"⟩
abbrev cX1_dropDeeds : ByteArray := prog_3_method_6_code
def yX1_dropDeeds : MethodName := ⟨RX1, "dropDeeds", "()I"⟩
abbrev cX1_deedEnds : ByteArray := prog_3_method_7_code
def yX1_deedEnds : MethodName := ⟨RX1, "deedEnds", "(I)I"⟩
abbrev cX1_deedLength : ByteArray := prog_3_method_8_code
def yX1_deedLength : MethodName := ⟨RX1, "deedLength", "(I)I"⟩
abbrev cX1_isDeed : ByteArray := prog_3_method_9_code
def yX1_isDeed : MethodName := ⟨RX1, "isDeed", "(III)Z"⟩
abbrev cX1_lengths : ByteArray := prog_3_method_10_code
def yX1_lengths : MethodName := ⟨RX1, "lengths", "()I"⟩
abbrev cX1_middleLength : ByteArray := prog_3_method_11_code
def yX1_middleLength : MethodName := ⟨RX1, "middleLength", "(II)I"⟩
abbrev cX1_apartFrom : ByteArray := prog_3_method_12_code
def yX1_apartFrom : MethodName := ⟨RX1, "apartFrom", "(III)I"⟩
abbrev cX1_mixDeeds : ByteArray := prog_3_method_13_code
def yX1_mixDeeds : MethodName := ⟨RX1, "mixDeeds", "(J)J"⟩
def RX2 : String := "CrowMiles$Kinds"
def TX2 : u_T := fun k => match k with
  | _ => ("", "", "", false)
def tyX2 : Nat → FieldType := fun k => match k with
  | _ => .int
theorem nmX2 : ∀ a, a < 0 → ∀ b, b < 0 → a ≠ b → (TX2 a).2.1 ≠ (TX2 b).2.1 := by decide +kernel
theorem tyX2_ok : ∀ k, k < 0 → parseFieldDescriptor (TX2 k).2.2.1 = some (tyX2 k) := by decide +kernel
abbrev cX2_made : ByteArray := prog_4_method_2_code
def yX2_made : MethodName := ⟨RX2, "made", "(IIII)I"⟩
abbrev cX2_reach : ByteArray := prog_4_method_3_code
def yX2_reach : MethodName := ⟨RX2, "reach", "(III)I"⟩
abbrev cX2_told : ByteArray := prog_4_method_4_code
def yX2_told : MethodName := ⟨RX2, "told", "(ZIIII)I"⟩
def RX3 : String := "CrowMiles$Questions"
def TX3 : u_T := fun k => match k with
  | _ => ("CrowMiles$Questions", "values", "[I", true)
def tyX3 : Nat → FieldType := fun k => match k with
  | _ => .array .int
theorem nmX3 : ∀ a, a < 1 → ∀ b, b < 1 → a ≠ b → (TX3 a).2.1 ≠ (TX3 b).2.1 := by decide +kernel
theorem tyX3_ok : ∀ k, k < 1 → parseFieldDescriptor (TX3 k).2.2.1 = some (tyX3 k) := by decide +kernel
abbrev cX3_init : ByteArray := prog_5_method_1_code
def yX3_init : MethodName := ⟨RX3, "<init>", "()V"⟩
abbrev cX3_best : ByteArray := prog_5_method_2_code
def yX3_best : MethodName := ⟨RX3, "best", "(ZIII)I"⟩
abbrev cX3_mostAlike : ByteArray := prog_5_method_3_code
def yX3_mostAlike : MethodName := ⟨RX3, "mostAlike", "(I)I"⟩
def RX4 : String := "CrowMiles$Reader"
def TX4 : u_T := fun k => match k with
  | 0 => ("CrowMiles$Reader", "draft", "LCrowMiles$Country;", true)
  | 1 => ("CrowMiles$Reader", "bytes", "[B", false)
  | 2 => ("CrowMiles$Reader", "length", "I", false)
  | 3 => ("CrowMiles$Reader", "next", "I", false)
  | 4 => ("CrowMiles$Reader", "token", "I", false)
  | 5 => ("CrowMiles$Reader", "start", "I", false)
  | _ => ("CrowMiles$Reader", "value", "I", false)
def tyX4 : Nat → FieldType := fun k => match k with
  | 0 => .object "CrowMiles$Country"
  | 1 => .array .byte
  | 2 => .int
  | 3 => .int
  | 4 => .int
  | 5 => .int
  | _ => .int
theorem nmX4 : ∀ a, a < 7 → ∀ b, b < 7 → a ≠ b → (TX4 a).2.1 ≠ (TX4 b).2.1 := by decide +kernel
theorem tyX4_ok : ∀ k, k < 7 → parseFieldDescriptor (TX4 k).2.2.1 = some (tyX4 k) := by decide +kernel
abbrev cX4_init : ByteArray := prog_6_method_1_code
def yX4_init : MethodName := ⟨RX4, "<init>", "()V"⟩
abbrev cX4_readAll : ByteArray := prog_6_method_2_code
def yX4_readAll : MethodName := ⟨RX4, "readAll", "([BI)I"⟩
abbrev cX4_takeItem : ByteArray := prog_6_method_3_code
def yX4_takeItem : MethodName := ⟨RX4, "takeItem", "(I)Z"⟩
abbrev cX4_takePlace : ByteArray := prog_6_method_4_code
def yX4_takePlace : MethodName := ⟨RX4, "takePlace", "()Z"⟩
abbrev cX4_takeCrow : ByteArray := prog_6_method_5_code
def yX4_takeCrow : MethodName := ⟨RX4, "takeCrow", "()Z"⟩
abbrev cX4_takeFlight : ByteArray := prog_6_method_6_code
def yX4_takeFlight : MethodName := ⟨RX4, "takeFlight", "()Z"⟩
abbrev cX4_takeRest : ByteArray := prog_6_method_7_code
def yX4_takeRest : MethodName := ⟨RX4, "takeRest", "()Z"⟩
abbrev cX4_takeHours : ByteArray := prog_6_method_8_code
def yX4_takeHours : MethodName := ⟨RX4, "takeHours", "()Z"⟩
abbrev cX4_takeStop : ByteArray := prog_6_method_9_code
def yX4_takeStop : MethodName := ⟨RX4, "takeStop", "()Z"⟩
abbrev cX4_takeNumber : ByteArray := prog_6_method_10_code
def yX4_takeNumber : MethodName := ⟨RX4, "takeNumber", "(II)Z"⟩
abbrev cX4_spells : ByteArray := prog_6_method_11_code
def yX4_spells : MethodName := ⟨RX4, "spells", "(Ljava/lang/String;)Z"⟩
abbrev cX4_takeToken : ByteArray := prog_6_method_12_code
def yX4_takeToken : MethodName := ⟨RX4, "takeToken", "()V"⟩
abbrev cX4_takeLetters : ByteArray := prog_6_method_13_code
def yX4_takeLetters : MethodName := ⟨RX4, "takeLetters", "()V"⟩
abbrev cX4_takeFigures : ByteArray := prog_6_method_14_code
def yX4_takeFigures : MethodName := ⟨RX4, "takeFigures", "()V"⟩
abbrev cX4_isLetter : ByteArray := prog_6_method_15_code
def yX4_isLetter : MethodName := ⟨RX4, "isLetter", "(I)Z"⟩
abbrev cX4_isFigure : ByteArray := prog_6_method_16_code
def yX4_isFigure : MethodName := ⟨RX4, "isFigure", "(I)Z"⟩
def RX5 : String := "CrowMiles$Roads"
def TX5 : u_T := fun k => match k with
  | 0 => ("CrowMiles$Roads", "far", "[I", true)
  | 1 => ("CrowMiles$Roads", "toEnd", "[I", true)
  | 2 => ("CrowMiles$Roads", "toHome", "[I", true)
  | 3 => ("CrowMiles$Roads", "found", "[I", true)
  | 4 => ("CrowMiles$Roads", "foundCount", "I", false)
  | _ => ("CrowMiles$Roads", "places", "I", false)
def tyX5 : Nat → FieldType := fun k => match k with
  | 0 => .array .int
  | 1 => .array .int
  | 2 => .array .int
  | 3 => .array .int
  | 4 => .int
  | _ => .int
theorem nmX5 : ∀ a, a < 6 → ∀ b, b < 6 → a ≠ b → (TX5 a).2.1 ≠ (TX5 b).2.1 := by decide +kernel
theorem tyX5_ok : ∀ k, k < 6 → parseFieldDescriptor (TX5 k).2.2.1 = some (tyX5 k) := by decide +kernel
abbrev cX5_init : ByteArray := prog_7_method_1_code
def yX5_init : MethodName := ⟨RX5, "<init>", "()V"⟩
abbrev cX5_measure : ByteArray := prog_7_method_2_code
def yX5_measure : MethodName := ⟨RX5, "measure", "(LCrowMiles$Country;I)V"⟩
abbrev cX5_answer : ByteArray := prog_7_method_3_code
def yX5_answer : MethodName := ⟨RX5, "answer", "(II)I"⟩
abbrev cX5_addFound : ByteArray := prog_7_method_4_code
def yX5_addFound : MethodName := ⟨RX5, "addFound", "(I)V"⟩
abbrev cX5_findWay : ByteArray := prog_7_method_5_code
def yX5_findWay : MethodName := ⟨RX5, "findWay", "(II)I"⟩
abbrev cX5_partCost : ByteArray := prog_7_method_6_code
def yX5_partCost : MethodName := ⟨RX5, "partCost", "(II)I"⟩
abbrev cX5_shortenFrom : ByteArray := prog_7_method_7_code
def yX5_shortenFrom : MethodName := ⟨RX5, "shortenFrom", "(I)V"⟩
abbrev cX5_firstStepFrom : ByteArray := prog_7_method_8_code
def yX5_firstStepFrom : MethodName := ⟨RX5, "firstStepFrom", "(I)I"⟩
abbrev cX5_findRound : ByteArray := prog_7_method_9_code
def yX5_findRound : MethodName := ⟨RX5, "findRound", "()I"⟩
abbrev cX5_leastHome : ByteArray := prog_7_method_10_code
def yX5_leastHome : MethodName := ⟨RX5, "leastHome", "(II)I"⟩
abbrev cX5_homeOver : ByteArray := prog_7_method_11_code
def yX5_homeOver : MethodName := ⟨RX5, "homeOver", "(III)I"⟩
abbrev cX5_nextOfRound : ByteArray := prog_7_method_12_code
def yX5_nextOfRound : MethodName := ⟨RX5, "nextOfRound", "(II)I"⟩
abbrev cX5_findClashes : ByteArray := prog_7_method_13_code
def yX5_findClashes : MethodName := ⟨RX5, "findClashes", "()I"⟩
abbrev cX5_hasShortcut : ByteArray := prog_7_method_14_code
def yX5_hasShortcut : MethodName := ⟨RX5, "hasShortcut", "(II)Z"⟩
abbrev cX5_findRestingPairs : ByteArray := prog_7_method_15_code
def yX5_findRestingPairs : MethodName := ⟨RX5, "findRestingPairs", "(I)I"⟩
abbrev cX5_isResting : ByteArray := prog_7_method_16_code
def yX5_isResting : MethodName := ⟨RX5, "isResting", "(III)Z"⟩
abbrev cX5_surveyorGets : ByteArray := prog_7_method_17_code
def yX5_surveyorGets : MethodName := ⟨RX5, "surveyorGets", "(III)I"⟩
abbrev cX5_ownerGets : ByteArray := prog_7_method_18_code
def yX5_ownerGets : MethodName := ⟨RX5, "ownerGets", "(III)I"⟩
def RX6 : String := "CrowMiles$Sightings"
def TX6 : u_T := fun k => match k with
  | 0 => ("CrowMiles$Sightings", "ofCrows", "Z", true)
  | 1 => ("CrowMiles$Sightings", "rows", "[I", true)
  | _ => ("CrowMiles$Sightings", "size", "I", false)
def tyX6 : Nat → FieldType := fun k => match k with
  | 0 => .boolean
  | 1 => .array .int
  | _ => .int
theorem nmX6 : ∀ a, a < 3 → ∀ b, b < 3 → a ≠ b → (TX6 a).2.1 ≠ (TX6 b).2.1 := by decide +kernel
theorem tyX6_ok : ∀ k, k < 3 → parseFieldDescriptor (TX6 k).2.2.1 = some (tyX6 k) := by decide +kernel
abbrev cX6_init : ByteArray := prog_8_method_1_code
def yX6_init : MethodName := ⟨RX6, "<init>", "(Z)V"⟩
abbrev cX6_become : ByteArray := prog_8_method_2_code
def yX6_become : MethodName := ⟨RX6, "become", "(LCrowMiles$Sightings;)V"⟩
abbrev cX6_isFull : ByteArray := prog_8_method_3_code
def yX6_isFull : MethodName := ⟨RX6, "isFull", "()Z"⟩
abbrev cX6_add : ByteArray := prog_8_method_4_code
def yX6_add : MethodName := ⟨RX6, "add", "(IIIII)I"⟩
abbrev cX6_drop : ByteArray := prog_8_method_5_code
def yX6_drop : MethodName := ⟨RX6, "drop", "()I"⟩
abbrev cX6_kindsLeft : ByteArray := prog_8_method_6_code
def yX6_kindsLeft : MethodName := ⟨RX6, "kindsLeft", "(I)I"⟩
abbrev cX6_allow : ByteArray := prog_8_method_7_code
def yX6_allow : MethodName := ⟨RX6, "allow", "(II)Z"⟩
abbrev cX6_mixInto : ByteArray := prog_8_method_8_code
def yX6_mixInto : MethodName := ⟨RX6, "mixInto", "(J)J"⟩
def RX7 : String := "CrowMiles"
def TX7 : u_T := fun k => match k with
  | 0 => ("CrowMiles", "land", "LCrowMiles$Country;", true)
  | 1 => ("CrowMiles", "images", "[LCrowMiles$Country;", true)
  | 2 => ("CrowMiles", "kept", "[Z", true)
  | 3 => ("CrowMiles", "text", "[B", true)
  | 4 => ("CrowMiles", "textLength", "I", false)
  | 5 => ("CrowMiles", "above", "I", false)
  | 6 => ("CrowMiles", "below", "I", false)
  | 7 => ("CrowMiles", "bads", "I", false)
  | 8 => ("CrowMiles", "nos", "I", false)
  | 9 => ("CrowMiles", "fulls", "I", false)
  | 10 => ("CrowMiles", "roads", "LCrowMiles$Roads;", true)
  | 11 => ("CrowMiles", "reader", "LCrowMiles$Reader;", true)
  | 12 => ("CrowMiles", "traveller", "LCrowMiles$Doings;", true)
  | _ => ("CrowMiles", "questions", "LCrowMiles$Questions;", true)
def tyX7 : Nat → FieldType := fun k => match k with
  | 0 => .object "CrowMiles$Country"
  | 1 => .array (.object "CrowMiles$Country")
  | 2 => .array .boolean
  | 3 => .array .byte
  | 4 => .int
  | 5 => .int
  | 6 => .int
  | 7 => .int
  | 8 => .int
  | 9 => .int
  | 10 => .object "CrowMiles$Roads"
  | 11 => .object "CrowMiles$Reader"
  | 12 => .object "CrowMiles$Doings"
  | _ => .object "CrowMiles$Questions"
theorem nmX7 : ∀ a, a < 14 → ∀ b, b < 14 → a ≠ b → (TX7 a).2.1 ≠ (TX7 b).2.1 := by decide +kernel
theorem tyX7_ok : ∀ k, k < 14 → parseFieldDescriptor (TX7 k).2.2.1 = some (tyX7 k) := by decide +kernel
abbrev cX7_init : ByteArray := prog_1_method_1_code
def yX7_init : MethodName := ⟨RX7, "<init>", "()V"⟩
abbrev cX7_country : ByteArray := prog_1_method_2_code
def yX7_country : MethodName := ⟨RX7, "country", "()I"⟩
abbrev cX7_place : ByteArray := prog_1_method_3_code
def yX7_place : MethodName := ⟨RX7, "place", "(III)I"⟩
abbrev cX7_crow : ByteArray := prog_1_method_4_code
def yX7_crow : MethodName := ⟨RX7, "crow", "(II)I"⟩
abbrev cX7_type : ByteArray := prog_1_method_5_code
def yX7_type : MethodName := ⟨RX7, "type", "(I)I"⟩
abbrev cX7_clear : ByteArray := prog_1_method_6_code
def yX7_clear : MethodName := ⟨RX7, "clear", "()I"⟩
abbrev cX7_read : ByteArray := prog_1_method_7_code
def yX7_read : MethodName := ⟨RX7, "read", "()I"⟩
abbrev cX7_flies : ByteArray := prog_1_method_8_code
def yX7_flies : MethodName := ⟨RX7, "flies", "(II)I"⟩
abbrev cX7_rests : ByteArray := prog_1_method_9_code
def yX7_rests : MethodName := ⟨RX7, "rests", "(I)I"⟩
abbrev cX7_hours : ByteArray := prog_1_method_10_code
def yX7_hours : MethodName := ⟨RX7, "hours", "(I)I"⟩
abbrev cX7_undo : ByteArray := prog_1_method_11_code
def yX7_undo : MethodName := ⟨RX7, "undo", "()I"⟩
abbrev cX7_of : ByteArray := prog_1_method_12_code
def yX7_of : MethodName := ⟨RX7, "of", "(II)I"⟩
abbrev cX7_about : ByteArray := prog_1_method_13_code
def yX7_about : MethodName := ⟨RX7, "about", "(II)I"⟩
abbrev cX7_straight : ByteArray := prog_1_method_14_code
def yX7_straight : MethodName := ⟨RX7, "straight", "(II)I"⟩
abbrev cX7_far : ByteArray := prog_1_method_15_code
def yX7_far : MethodName := ⟨RX7, "far", "(III)I"⟩
abbrev cX7_way : ByteArray := prog_1_method_16_code
def yX7_way : MethodName := ⟨RX7, "way", "(IIII)I"⟩
abbrev cX7_round : ByteArray := prog_1_method_17_code
def yX7_round : MethodName := ⟨RX7, "round", "(II)I"⟩
abbrev cX7_clash : ByteArray := prog_1_method_18_code
def yX7_clash : MethodName := ⟨RX7, "clash", "(II)I"⟩
abbrev cX7_late : ByteArray := prog_1_method_19_code
def yX7_late : MethodName := ⟨RX7, "late", "(IIII)I"⟩
abbrev cX7_standard : ByteArray := prog_1_method_20_code
def yX7_standard : MethodName := ⟨RX7, "standard", "(II)I"⟩
abbrev cX7_book : ByteArray := prog_1_method_21_code
def yX7_book : MethodName := ⟨RX7, "book", "(II)I"⟩
abbrev cX7_note : ByteArray := prog_1_method_22_code
def yX7_note : MethodName := ⟨RX7, "note", "(IIII)I"⟩
abbrev cX7_mark : ByteArray := prog_1_method_23_code
def yX7_mark : MethodName := ⟨RX7, "mark", "(IIIII)I"⟩
abbrev cX7_forget : ByteArray := prog_1_method_24_code
def yX7_forget : MethodName := ⟨RX7, "forget", "(I)I"⟩
abbrev cX7_is : ByteArray := prog_1_method_25_code
def yX7_is : MethodName := ⟨RX7, "is", "(I)I"⟩
abbrev cX7_look : ByteArray := prog_1_method_26_code
def yX7_look : MethodName := ⟨RX7, "look", "(I)I"⟩
abbrev cX7_kinds : ByteArray := prog_1_method_27_code
def yX7_kinds : MethodName := ⟨RX7, "kinds", "(I)I"⟩
abbrev cX7_ask : ByteArray := prog_1_method_28_code
def yX7_ask : MethodName := ⟨RX7, "ask", "(I)I"⟩
abbrev cX7_owner : ByteArray := prog_1_method_29_code
def yX7_owner : MethodName := ⟨RX7, "owner", "(II)I"⟩
abbrev cX7_wind : ByteArray := prog_1_method_30_code
def yX7_wind : MethodName := ⟨RX7, "wind", "(IIII)I"⟩
abbrev cX7_years : ByteArray := prog_1_method_31_code
def yX7_years : MethodName := ⟨RX7, "years", "(II)I"⟩
abbrev cX7_part : ByteArray := prog_1_method_32_code
def yX7_part : MethodName := ⟨RX7, "part", "(I)J"⟩
abbrev cX7_image : ByteArray := prog_1_method_33_code
def yX7_image : MethodName := ⟨RX7, "image", "(I)I"⟩
abbrev cX7_from : ByteArray := prog_1_method_34_code
def yX7_from : MethodName := ⟨RX7, "from", "(I)I"⟩
abbrev cX7_status : ByteArray := prog_1_method_35_code
def yX7_status : MethodName := ⟨RX7, "status", "(I)I"⟩
abbrev cX7_count : ByteArray := prog_1_method_36_code
def yX7_count : MethodName := ⟨RX7, "count", "(I)I"⟩
abbrev cX7_digest : ByteArray := prog_1_method_37_code
def yX7_digest : MethodName := ⟨RX7, "digest", "()J"⟩
abbrev cX7_within : ByteArray := prog_1_method_38_code
def yX7_within : MethodName := ⟨RX7, "within", "(III)Z"⟩
abbrev cX7_isKind : ByteArray := prog_1_method_39_code
def yX7_isKind : MethodName := ⟨RX7, "isKind", "(I)Z"⟩
abbrev cX7_isDayHour : ByteArray := prog_1_method_40_code
def yX7_isDayHour : MethodName := ⟨RX7, "isDayHour", "(I)Z"⟩
abbrev cX7_isTrip : ByteArray := prog_1_method_41_code
def yX7_isTrip : MethodName := ⟨RX7, "isTrip", "(III)Z"⟩
abbrev cX7_refuseBad : ByteArray := prog_1_method_42_code
def yX7_refuseBad : MethodName := ⟨RX7, "refuseBad", "()I"⟩
abbrev cX7_refuseList : ByteArray := prog_1_method_43_code
def yX7_refuseList : MethodName := ⟨RX7, "refuseList", "()I"⟩
abbrev cX7_refuseNo : ByteArray := prog_1_method_44_code
def yX7_refuseNo : MethodName := ⟨RX7, "refuseNo", "()I"⟩
abbrev cX7_refuseFull : ByteArray := prog_1_method_45_code
def yX7_refuseFull : MethodName := ⟨RX7, "refuseFull", "()I"⟩
abbrev cX7_amount : ByteArray := prog_1_method_46_code
def yX7_amount : MethodName := ⟨RX7, "amount", "(I)I"⟩
abbrev cX7_keepFraction : ByteArray := prog_1_method_47_code
def yX7_keepFraction : MethodName := ⟨RX7, "keepFraction", "(II)V"⟩
abbrev cX7_travel : ByteArray := prog_1_method_48_code
def yX7_travel : MethodName := ⟨RX7, "travel", "(II)I"⟩
def RX8 : String := "CrowMilesModel"
def TX8 : u_T := fun k => match k with
  | 0 => ("CrowMilesModel", "w", "[I", true)
  | 1 => ("CrowMilesModel", "kept", "I", false)
  | 2 => ("CrowMilesModel", "text", "[I", true)
  | 3 => ("CrowMilesModel", "size", "I", false)
  | 4 => ("CrowMilesModel", "above", "J", false)
  | 5 => ("CrowMilesModel", "below", "J", false)
  | 6 => ("CrowMilesModel", "bads", "I", false)
  | 7 => ("CrowMilesModel", "noes", "I", false)
  | 8 => ("CrowMilesModel", "fulls", "I", false)
  | 9 => ("CrowMilesModel", "at", "I", false)
  | 10 => ("CrowMilesModel", "from", "I", false)
  | 11 => ("CrowMilesModel", "token", "I", false)
  | 12 => ("CrowMilesModel", "value", "I", false)
  | 13 => ("CrowMilesModel", "readFault", "I", false)
  | 14 => ("CrowMilesModel", "yet", "[I", true)
  | 15 => ("CrowMilesModel", "fars", "[I", true)
  | _ => ("CrowMilesModel", "tells", "[I", true)
def tyX8 : Nat → FieldType := fun k => match k with
  | 0 => .array .int
  | 1 => .int
  | 2 => .array .int
  | 3 => .int
  | 4 => .long
  | 5 => .long
  | 6 => .int
  | 7 => .int
  | 8 => .int
  | 9 => .int
  | 10 => .int
  | 11 => .int
  | 12 => .int
  | 13 => .int
  | 14 => .array .int
  | 15 => .array .int
  | _ => .array .int
theorem nmX8 : ∀ a, a < 17 → ∀ b, b < 17 → a ≠ b → (TX8 a).2.1 ≠ (TX8 b).2.1 := by decide +kernel
theorem tyX8_ok : ∀ k, k < 17 → parseFieldDescriptor (TX8 k).2.2.1 = some (tyX8 k) := by decide +kernel
abbrev cX8_init : ByteArray := prog_10_method_1_code
def yX8_init : MethodName := ⟨RX8, "<init>", "()V"⟩
abbrev cX8_in : ByteArray := prog_10_method_3_code
def yX8_in : MethodName := ⟨RX8, "in", "(III)Z"⟩
abbrev cX8_has : ByteArray := prog_10_method_4_code
def yX8_has : MethodName := ⟨RX8, "has", "(II)Z"⟩
abbrev cX8_bad : ByteArray := prog_10_method_5_code
def yX8_bad : MethodName := ⟨RX8, "bad", "()I"⟩
abbrev cX8_badTen : ByteArray := prog_10_method_6_code
def yX8_badTen : MethodName := ⟨RX8, "badTen", "()I"⟩
abbrev cX8_no : ByteArray := prog_10_method_7_code
def yX8_no : MethodName := ⟨RX8, "no", "()I"⟩
abbrev cX8_full : ByteArray := prog_10_method_8_code
def yX8_full : MethodName := ⟨RX8, "full", "()I"⟩
abbrev cX8_copyRow : ByteArray := prog_10_method_9_code
def yX8_copyRow : MethodName := ⟨RX8, "copyRow", "(III)V"⟩
abbrev cX8_clearRow : ByteArray := prog_10_method_10_code
def yX8_clearRow : MethodName := ⟨RX8, "clearRow", "(I)V"⟩
abbrev cX8_isPlace : ByteArray := prog_10_method_11_code
def yX8_isPlace : MethodName := ⟨RX8, "isPlace", "(I)Z"⟩
abbrev cX8_isCrow : ByteArray := prog_10_method_12_code
def yX8_isCrow : MethodName := ⟨RX8, "isCrow", "(I)Z"⟩
abbrev cX8_most : ByteArray := prog_10_method_13_code
def yX8_most : MethodName := ⟨RX8, "most", "(II)I"⟩
abbrev cX8_madeOf : ByteArray := prog_10_method_14_code
def yX8_madeOf : MethodName := ⟨RX8, "madeOf", "(IIII)I"⟩
abbrev cX8_farOf : ByteArray := prog_10_method_15_code
def yX8_farOf : MethodName := ⟨RX8, "farOf", "(III)I"⟩
abbrev cX8_straightIn : ByteArray := prog_10_method_16_code
def yX8_straightIn : MethodName := ⟨RX8, "straightIn", "(III)I"⟩
abbrev cX8_farAt : ByteArray := prog_10_method_17_code
def yX8_farAt : MethodName := ⟨RX8, "farAt", "(IIIIII)I"⟩
abbrev cX8_farIn : ByteArray := prog_10_method_18_code
def yX8_farIn : MethodName := ⟨RX8, "farIn", "(IIIII)I"⟩
abbrev cX8_farNow : ByteArray := prog_10_method_19_code
def yX8_farNow : MethodName := ⟨RX8, "farNow", "(III)I"⟩
abbrev cX8_goOn : ByteArray := prog_10_method_20_code
def yX8_goOn : MethodName := ⟨RX8, "goOn", "(II)V"⟩
abbrev cX8_flyIn : ByteArray := prog_10_method_21_code
def yX8_flyIn : MethodName := ⟨RX8, "flyIn", "(IIII)I"⟩
abbrev cX8_restIn : ByteArray := prog_10_method_22_code
def yX8_restIn : MethodName := ⟨RX8, "restIn", "(II)I"⟩
abbrev cX8_remember : ByteArray := prog_10_method_23_code
def yX8_remember : MethodName := ⟨RX8, "remember", "()V"⟩
abbrev cX8_country : ByteArray := prog_10_method_24_code
def yX8_country : MethodName := ⟨RX8, "country", "()I"⟩
abbrev cX8_placeIn : ByteArray := prog_10_method_25_code
def yX8_placeIn : MethodName := ⟨RX8, "placeIn", "(IIII)I"⟩
abbrev cX8_crowIn : ByteArray := prog_10_method_26_code
def yX8_crowIn : MethodName := ⟨RX8, "crowIn", "(III)I"⟩
abbrev cX8_place : ByteArray := prog_10_method_27_code
def yX8_place : MethodName := ⟨RX8, "place", "(III)I"⟩
abbrev cX8_crow : ByteArray := prog_10_method_28_code
def yX8_crow : MethodName := ⟨RX8, "crow", "(II)I"⟩
abbrev cX8_type : ByteArray := prog_10_method_29_code
def yX8_type : MethodName := ⟨RX8, "type", "(I)I"⟩
abbrev cX8_clear : ByteArray := prog_10_method_30_code
def yX8_clear : MethodName := ⟨RX8, "clear", "()I"⟩
abbrev cX8_isLetter : ByteArray := prog_10_method_31_code
def yX8_isLetter : MethodName := ⟨RX8, "isLetter", "(I)Z"⟩
abbrev cX8_isFigure : ByteArray := prog_10_method_32_code
def yX8_isFigure : MethodName := ⟨RX8, "isFigure", "(I)Z"⟩
abbrev cX8_readNumber : ByteArray := prog_10_method_33_code
def yX8_readNumber : MethodName := ⟨RX8, "readNumber", "()V"⟩
abbrev cX8_nextToken : ByteArray := prog_10_method_34_code
def yX8_nextToken : MethodName := ⟨RX8, "nextToken", "()V"⟩
abbrev cX8_wrong : ByteArray := prog_10_method_35_code
def yX8_wrong : MethodName := ⟨RX8, "wrong", "()V"⟩
abbrev cX8_fine : ByteArray := prog_10_method_36_code
def yX8_fine : MethodName := ⟨RX8, "fine", "()Z"⟩
abbrev cX8_letter : ByteArray := prog_10_method_37_code
def yX8_letter : MethodName := ⟨RX8, "letter", "(I)I"⟩
abbrev cX8_spells : ByteArray := prog_10_method_38_code
def yX8_spells : MethodName := ⟨RX8, "spells", "(IIIIIII)Z"⟩
abbrev cX8_number : ByteArray := prog_10_method_39_code
def yX8_number : MethodName := ⟨RX8, "number", "(II)I"⟩
abbrev cX8_stop : ByteArray := prog_10_method_40_code
def yX8_stop : MethodName := ⟨RX8, "stop", "()V"⟩
abbrev cX8_readPlace : ByteArray := prog_10_method_41_code
def yX8_readPlace : MethodName := ⟨RX8, "readPlace", "()V"⟩
abbrev cX8_readCrow : ByteArray := prog_10_method_42_code
def yX8_readCrow : MethodName := ⟨RX8, "readCrow", "()V"⟩
abbrev cX8_readFly : ByteArray := prog_10_method_43_code
def yX8_readFly : MethodName := ⟨RX8, "readFly", "()V"⟩
abbrev cX8_readRest : ByteArray := prog_10_method_44_code
def yX8_readRest : MethodName := ⟨RX8, "readRest", "()V"⟩
abbrev cX8_readHours : ByteArray := prog_10_method_45_code
def yX8_readHours : MethodName := ⟨RX8, "readHours", "()V"⟩
abbrev cX8_readItem : ByteArray := prog_10_method_46_code
def yX8_readItem : MethodName := ⟨RX8, "readItem", "()V"⟩
abbrev cX8_read : ByteArray := prog_10_method_47_code
def yX8_read : MethodName := ⟨RX8, "read", "()I"⟩
abbrev cX8_flies : ByteArray := prog_10_method_48_code
def yX8_flies : MethodName := ⟨RX8, "flies", "(II)I"⟩
abbrev cX8_rests : ByteArray := prog_10_method_49_code
def yX8_rests : MethodName := ⟨RX8, "rests", "(I)I"⟩
abbrev cX8_hours : ByteArray := prog_10_method_50_code
def yX8_hours : MethodName := ⟨RX8, "hours", "(I)I"⟩
abbrev cX8_undo : ByteArray := prog_10_method_51_code
def yX8_undo : MethodName := ⟨RX8, "undo", "()I"⟩
abbrev cX8_of : ByteArray := prog_10_method_52_code
def yX8_of : MethodName := ⟨RX8, "of", "(II)I"⟩
abbrev cX8_about : ByteArray := prog_10_method_53_code
def yX8_about : MethodName := ⟨RX8, "about", "(II)I"⟩
abbrev cX8_straight : ByteArray := prog_10_method_54_code
def yX8_straight : MethodName := ⟨RX8, "straight", "(II)I"⟩
abbrev cX8_far : ByteArray := prog_10_method_55_code
def yX8_far : MethodName := ⟨RX8, "far", "(III)I"⟩
abbrev cX8_layFars : ByteArray := prog_10_method_56_code
def yX8_layFars : MethodName := ⟨RX8, "layFars", "(I)V"⟩
abbrev cX8_partTo : ByteArray := prog_10_method_57_code
def yX8_partTo : MethodName := ⟨RX8, "partTo", "(III)I"⟩
abbrev cX8_leastFrom : ByteArray := prog_10_method_58_code
def yX8_leastFrom : MethodName := ⟨RX8, "leastFrom", "(III)I"⟩
abbrev cX8_layYet : ByteArray := prog_10_method_59_code
def yX8_layYet : MethodName := ⟨RX8, "layYet", "(I)V"⟩
abbrev cX8_kth : ByteArray := prog_10_method_60_code
def yX8_kth : MethodName := ⟨RX8, "kth", "(III)I"⟩
abbrev cX8_way : ByteArray := prog_10_method_61_code
def yX8_way : MethodName := ⟨RX8, "way", "(IIII)I"⟩
abbrev cX8_round : ByteArray := prog_10_method_62_code
def yX8_round : MethodName := ⟨RX8, "round", "(II)I"⟩
abbrev cX8_doesClash : ByteArray := prog_10_method_63_code
def yX8_doesClash : MethodName := ⟨RX8, "doesClash", "(II)Z"⟩
abbrev cX8_clash : ByteArray := prog_10_method_64_code
def yX8_clash : MethodName := ⟨RX8, "clash", "(II)I"⟩
abbrev cX8_late : ByteArray := prog_10_method_65_code
def yX8_late : MethodName := ⟨RX8, "late", "(IIII)I"⟩
abbrev cX8_isDeed : ByteArray := prog_10_method_66_code
def yX8_isDeed : MethodName := ⟨RX8, "isDeed", "(III)Z"⟩
abbrev cX8_apart : ByteArray := prog_10_method_67_code
def yX8_apart : MethodName := ⟨RX8, "apart", "(III)I"⟩
abbrev cX8_standard : ByteArray := prog_10_method_68_code
def yX8_standard : MethodName := ⟨RX8, "standard", "(II)I"⟩
abbrev cX8_book : ByteArray := prog_10_method_69_code
def yX8_book : MethodName := ⟨RX8, "book", "(II)I"⟩
abbrev cX8_note : ByteArray := prog_10_method_70_code
def yX8_note : MethodName := ⟨RX8, "note", "(IIII)I"⟩
abbrev cX8_mark : ByteArray := prog_10_method_71_code
def yX8_mark : MethodName := ⟨RX8, "mark", "(IIIII)I"⟩
abbrev cX8_forget : ByteArray := prog_10_method_72_code
def yX8_forget : MethodName := ⟨RX8, "forget", "(I)I"⟩
abbrev cX8_isOf : ByteArray := prog_10_method_73_code
def yX8_isOf : MethodName := ⟨RX8, "isOf", "(I)I"⟩
abbrev cX8_kindsOf : ByteArray := prog_10_method_74_code
def yX8_kindsOf : MethodName := ⟨RX8, "kindsOf", "(I)I"⟩
abbrev cX8_is : ByteArray := prog_10_method_75_code
def yX8_is : MethodName := ⟨RX8, "is", "(I)I"⟩
abbrev cX8_kinds : ByteArray := prog_10_method_76_code
def yX8_kinds : MethodName := ⟨RX8, "kinds", "(I)I"⟩
abbrev cX8_greatestPart : ByteArray := prog_10_method_77_code
def yX8_greatestPart : MethodName := ⟨RX8, "greatestPart", "(I)I"⟩
abbrev cX8_look : ByteArray := prog_10_method_78_code
def yX8_look : MethodName := ⟨RX8, "look", "(I)I"⟩
abbrev cX8_ask : ByteArray := prog_10_method_79_code
def yX8_ask : MethodName := ⟨RX8, "ask", "(I)I"⟩
abbrev cX8_ownerGets : ByteArray := prog_10_method_80_code
def yX8_ownerGets : MethodName := ⟨RX8, "ownerGets", "(III)I"⟩
abbrev cX8_surveyorGets : ByteArray := prog_10_method_81_code
def yX8_surveyorGets : MethodName := ⟨RX8, "surveyorGets", "(III)I"⟩
abbrev cX8_rest : ByteArray := prog_10_method_82_code
def yX8_rest : MethodName := ⟨RX8, "rest", "(III)Z"⟩
abbrev cX8_owner : ByteArray := prog_10_method_83_code
def yX8_owner : MethodName := ⟨RX8, "owner", "(II)I"⟩
abbrev cX8_wind : ByteArray := prog_10_method_84_code
def yX8_wind : MethodName := ⟨RX8, "wind", "(IIII)I"⟩
abbrev cX8_yearIn : ByteArray := prog_10_method_85_code
def yX8_yearIn : MethodName := ⟨RX8, "yearIn", "(I)I"⟩
abbrev cX8_years : ByteArray := prog_10_method_86_code
def yX8_years : MethodName := ⟨RX8, "years", "(II)I"⟩
abbrev cX8_part : ByteArray := prog_10_method_87_code
def yX8_part : MethodName := ⟨RX8, "part", "(I)J"⟩
abbrev cX8_image : ByteArray := prog_10_method_88_code
def yX8_image : MethodName := ⟨RX8, "image", "(I)I"⟩
abbrev cX8_from : ByteArray := prog_10_method_89_code
def yX8_from : MethodName := ⟨RX8, "from", "(I)I"⟩
abbrev cX8_status : ByteArray := prog_10_method_90_code
def yX8_status : MethodName := ⟨RX8, "status", "(I)I"⟩
abbrev cX8_lengths : ByteArray := prog_10_method_91_code
def yX8_lengths : MethodName := ⟨RX8, "lengths", "()I"⟩
abbrev cX8_counted : ByteArray := prog_10_method_92_code
def yX8_counted : MethodName := ⟨RX8, "counted", "(I)I"⟩
abbrev cX8_count : ByteArray := prog_10_method_93_code
def yX8_count : MethodName := ⟨RX8, "count", "(I)I"⟩
abbrev cX8_more : ByteArray := prog_10_method_94_code
def yX8_more : MethodName := ⟨RX8, "more", "(JII)J"⟩
abbrev cX8_digest : ByteArray := prog_10_method_95_code
def yX8_digest : MethodName := ⟨RX8, "digest", "()J"⟩
def RJ9 : String := "java/lang/Math"
def TJ9 : u_T := fun k => match k with
  | _ => ("", "", "", false)
def tyJ9 : Nat → FieldType := fun k => match k with
  | _ => .int
theorem nmJ9 : ∀ a, a < 0 → ∀ b, b < 0 → a ≠ b → (TJ9 a).2.1 ≠ (TJ9 b).2.1 := by decide +kernel
theorem tyJ9_ok : ∀ k, k < 0 → parseFieldDescriptor (TJ9 k).2.2.1 = some (tyJ9 k) := by decide +kernel
abbrev cJ9_abs_0f7a4 : ByteArray := prog_11_method_59_code
def yJ9_abs_0f7a4 : MethodName := ⟨RJ9, "abs", "(I)I"⟩
abbrev cJ9_max_7cf53 : ByteArray := prog_11_method_65_code
def yJ9_max_7cf53 : MethodName := ⟨RJ9, "max", "(II)I"⟩
abbrev cJ9_min_7cf53 : ByteArray := prog_11_method_69_code
def yJ9_min_7cf53 : MethodName := ⟨RJ9, "min", "(II)I"⟩
def RJ0 : String := "java/lang/String"
def TJ0 : u_T := fun k => match k with
  | _ => ("", "", "", false)
def tyJ0 : Nat → FieldType := fun k => match k with
  | _ => .int
theorem nmJ0 : ∀ a, a < 0 → ∀ b, b < 0 → a ≠ b → (TJ0 a).2.1 ≠ (TJ0 b).2.1 := by decide +kernel
theorem tyJ0_ok : ∀ k, k < 0 → parseFieldDescriptor (TJ0 k).2.2.1 = some (tyJ0 k) := by decide +kernel
abbrev cJ0_length_8abf5 : ByteArray := prog_12_method_54_code
def yJ0_length_8abf5 : MethodName := ⟨RJ0, "length", "()I"⟩
abbrev cJ0_charAt_5068e : ByteArray := prog_12_method_56_code
def yJ0_charAt_5068e : MethodName := ⟨RJ0, "charAt", "(I)C"⟩
abbrev cJ0_coder_7d493 : ByteArray := prog_12_method_152_code
def yJ0_coder_7d493 : MethodName := ⟨RJ0, "coder", "()B"⟩
abbrev cJ0_isLatin1_aae02 : ByteArray := prog_12_method_154_code
def yJ0_isLatin1_aae02 : MethodName := ⟨RJ0, "isLatin1", "()Z"⟩
abbrev cJ0_checkIndex_df160 : ByteArray := prog_12_method_155_code
def yJ0_checkIndex_df160 : MethodName := ⟨RJ0, "checkIndex", "(II)V"⟩
def RJ1 : String := "java/lang/StringLatin1"
def TJ1 : u_T := fun k => match k with
  | _ => ("", "", "", false)
def tyJ1 : Nat → FieldType := fun k => match k with
  | _ => .int
theorem nmJ1 : ∀ a, a < 0 → ∀ b, b < 0 → a ≠ b → (TJ1 a).2.1 ≠ (TJ1 b).2.1 := by decide +kernel
theorem tyJ1_ok : ∀ k, k < 0 → parseFieldDescriptor (TJ1 k).2.2.1 = some (tyJ1 k) := by decide +kernel
abbrev cJ1_charAt_3b067 : ByteArray := prog_13_method_2_code
def yJ1_charAt_3b067 : MethodName := ⟨RJ1, "charAt", "([BI)C"⟩
def RJ2 : String := "java/lang/StringUTF16"
def TJ2 : u_T := fun k => match k with
  | _ => ("", "", "", false)
def tyJ2 : Nat → FieldType := fun k => match k with
  | _ => .int
theorem nmJ2 : ∀ a, a < 0 → ∀ b, b < 0 → a ≠ b → (TJ2 a).2.1 ≠ (TJ2 b).2.1 := by decide +kernel
theorem tyJ2_ok : ∀ k, k < 0 → parseFieldDescriptor (TJ2 k).2.2.1 = some (tyJ2 k) := by decide +kernel
abbrev cJ2_getChar_3b067 : ByteArray := prog_14_method_5_code
def yJ2_getChar_3b067 : MethodName := ⟨RJ2, "getChar", "([BI)C"⟩
abbrev cJ2_length_9d52b : ByteArray := prog_14_method_6_code
def yJ2_length_9d52b : MethodName := ⟨RJ2, "length", "([B)I"⟩
abbrev cJ2_charAt_3b067 : ByteArray := prog_14_method_83_code
def yJ2_charAt_3b067 : MethodName := ⟨RJ2, "charAt", "([BI)C"⟩
abbrev cJ2_checkIndex_2214a : ByteArray := prog_14_method_91_code
def yJ2_checkIndex_2214a : MethodName := ⟨RJ2, "checkIndex", "(I[B)V"⟩
def RJ10 : String := "java/lang/System"
def TJ10 : u_T := fun k => match k with
  | _ => ("", "", "", false)
def tyJ10 : Nat → FieldType := fun k => match k with
  | _ => .int
theorem nmJ10 : ∀ a, a < 0 → ∀ b, b < 0 → a ≠ b → (TJ10 a).2.1 ≠ (TJ10 b).2.1 := by decide +kernel
theorem tyJ10_ok : ∀ k, k < 0 → parseFieldDescriptor (TJ10 k).2.2.1 = some (tyJ10 k) := by decide +kernel
def RJ3 : String := "jdk/internal/util/Preconditions"
def TJ3 : u_T := fun k => match k with
  | _ => ("", "", "", false)
def tyJ3 : Nat → FieldType := fun k => match k with
  | _ => .int
theorem nmJ3 : ∀ a, a < 0 → ∀ b, b < 0 → a ≠ b → (TJ3 a).2.1 ≠ (TJ3 b).2.1 := by decide +kernel
theorem tyJ3_ok : ∀ k, k < 0 → parseFieldDescriptor (TJ3 k).2.2.1 = some (tyJ3 k) := by decide +kernel
abbrev cJ3_checkIndex_8e157 : ByteArray := prog_16_method_11_code
def yJ3_checkIndex_8e157 : MethodName := ⟨RJ3, "checkIndex", "(IILjava/util/function/BiFunction;)I"⟩
def RL : String := "CrowMilesLaw"
abbrev cL_law : ByteArray := code
def yL_law : MethodName := ⟨RL, "law", "([I)Z"⟩
abbrev vwCl : List vw_C := [(RX0, TX0, 11), (RX1, TX1, 5), (RX3, TX3, 1), (RX4, TX4, 7), (RX5, TX5, 6), (RX6, TX6, 3), (RX7, TX7, 14), (RX8, TX8, 17)]
end
section
def zW : List Cond := lw_tbl.filter goodWord
theorem tg_i {w : Cond} (h : w ∈ lw_tbl) (g : goodWord w = true) : w ∈ zW := List.mem_filter.mpr ⟨h, g⟩
theorem tg_l {w : Cond} (h : w ∈ zW) : w ∈ lw_tbl := (List.mem_filter.mp h).1
theorem tg_g {w : Cond} (h : w ∈ zW) : goodWord w = true := (List.mem_filter.mp h).2
theorem tl_0 {w : Cond} (h : w ∈ k2_sels lw_privs) : w ∈ lw_tbl := List.mem_append_left _ h
theorem tl_1 {w : Cond} (h : w ∈ tables_1_1) : w ∈ lw_tbl := List.mem_append_right _ (List.mem_append_left _ h)
theorem tl_2 {w : Cond} (h : w ∈ tables_1_2) : w ∈ lw_tbl := List.mem_append_right _ (List.mem_append_right _ (List.mem_append_left _ h))
theorem tl_3 {w : Cond} (h : w ∈ tables_1_3) : w ∈ lw_tbl := List.mem_append_right _ (List.mem_append_right _ (List.mem_append_right _ (List.mem_append_left _ h)))
theorem tl_4 {w : Cond} (h : w ∈ tables_1_4) : w ∈ lw_tbl := List.mem_append_right _ (List.mem_append_right _ (List.mem_append_right _ (List.mem_append_right _ (List.mem_append_left _ h))))
theorem tl_5 {w : Cond} (h : w ∈ tables_1_5) : w ∈ lw_tbl := List.mem_append_right _ (List.mem_append_right _ (List.mem_append_right _ (List.mem_append_right _ (List.mem_append_right _ (List.mem_append_left _ h)))))
theorem tl_6 {w : Cond} (h : w ∈ tables_1_6) : w ∈ lw_tbl := List.mem_append_right _ (List.mem_append_right _ (List.mem_append_right _ (List.mem_append_right _ (List.mem_append_right _ (List.mem_append_right _ (h))))))
theorem tw_0_0 : (Jvm.Cond.selects "CrowMiles" ({ cls := "CrowMiles", name := "refuseBad", desc := "()I" } : Jvm.MethodName) ({ cls := "CrowMiles", name := "refuseBad", desc := "()I" } : Jvm.MethodName)) ∈ zW := tg_i (tl_0 (List.mem_of_getElem? (i := 0) rfl)) rfl
theorem tw_0_1 : (Jvm.Cond.selects "CrowMiles" ({ cls := "CrowMiles", name := "refuseFull", desc := "()I" } : Jvm.MethodName) ({ cls := "CrowMiles", name := "refuseFull", desc := "()I" } : Jvm.MethodName)) ∈ zW := tg_i (tl_0 (List.mem_of_getElem? (i := 1) rfl)) rfl
theorem tw_0_2 : (Jvm.Cond.selects "CrowMiles$Reader" ({ cls := "CrowMiles$Reader", name := "takeToken", desc := "()V" } : Jvm.MethodName) ({ cls := "CrowMiles$Reader", name := "takeToken", desc := "()V" } : Jvm.MethodName)) ∈ zW := tg_i (tl_0 (List.mem_of_getElem? (i := 2) rfl)) rfl
theorem tw_0_3 : (Jvm.Cond.selects "CrowMiles$Reader" ({ cls := "CrowMiles$Reader", name := "takeLetters", desc := "()V" } : Jvm.MethodName) ({ cls := "CrowMiles$Reader", name := "takeLetters", desc := "()V" } : Jvm.MethodName)) ∈ zW := tg_i (tl_0 (List.mem_of_getElem? (i := 3) rfl)) rfl
theorem tw_0_4 : (Jvm.Cond.selects "CrowMiles$Reader" ({ cls := "CrowMiles$Reader", name := "takeFigures", desc := "()V" } : Jvm.MethodName) ({ cls := "CrowMiles$Reader", name := "takeFigures", desc := "()V" } : Jvm.MethodName)) ∈ zW := tg_i (tl_0 (List.mem_of_getElem? (i := 4) rfl)) rfl
theorem tw_0_5 : (Jvm.Cond.selects "CrowMiles$Reader" ({ cls := "CrowMiles$Reader", name := "takeItem", desc := "(I)Z" } : Jvm.MethodName) ({ cls := "CrowMiles$Reader", name := "takeItem", desc := "(I)Z" } : Jvm.MethodName)) ∈ zW := tg_i (tl_0 (List.mem_of_getElem? (i := 5) rfl)) rfl
theorem tw_0_6 : (Jvm.Cond.selects "CrowMiles$Reader" ({ cls := "CrowMiles$Reader", name := "spells", desc := "(Ljava/lang/String;)Z" } : Jvm.MethodName) ({ cls := "CrowMiles$Reader", name := "spells", desc := "(Ljava/lang/String;)Z" } : Jvm.MethodName)) ∈ zW := tg_i (tl_0 (List.mem_of_getElem? (i := 6) rfl)) rfl
theorem tw_0_7 : (Jvm.Cond.selects "CrowMiles$Reader" ({ cls := "CrowMiles$Reader", name := "takeStop", desc := "()Z" } : Jvm.MethodName) ({ cls := "CrowMiles$Reader", name := "takeStop", desc := "()Z" } : Jvm.MethodName)) ∈ zW := tg_i (tl_0 (List.mem_of_getElem? (i := 7) rfl)) rfl
theorem tw_0_8 : (Jvm.Cond.selects "CrowMiles$Reader" ({ cls := "CrowMiles$Reader", name := "takePlace", desc := "()Z" } : Jvm.MethodName) ({ cls := "CrowMiles$Reader", name := "takePlace", desc := "()Z" } : Jvm.MethodName)) ∈ zW := tg_i (tl_0 (List.mem_of_getElem? (i := 8) rfl)) rfl
theorem tw_0_9 : (Jvm.Cond.selects "CrowMiles$Reader" ({ cls := "CrowMiles$Reader", name := "takeNumber", desc := "(II)Z" } : Jvm.MethodName) ({ cls := "CrowMiles$Reader", name := "takeNumber", desc := "(II)Z" } : Jvm.MethodName)) ∈ zW := tg_i (tl_0 (List.mem_of_getElem? (i := 9) rfl)) rfl
theorem tw_0_10 : (Jvm.Cond.selects "CrowMiles$Reader" ({ cls := "CrowMiles$Reader", name := "takeCrow", desc := "()Z" } : Jvm.MethodName) ({ cls := "CrowMiles$Reader", name := "takeCrow", desc := "()Z" } : Jvm.MethodName)) ∈ zW := tg_i (tl_0 (List.mem_of_getElem? (i := 10) rfl)) rfl
theorem tw_0_11 : (Jvm.Cond.selects "CrowMiles$Reader" ({ cls := "CrowMiles$Reader", name := "takeFlight", desc := "()Z" } : Jvm.MethodName) ({ cls := "CrowMiles$Reader", name := "takeFlight", desc := "()Z" } : Jvm.MethodName)) ∈ zW := tg_i (tl_0 (List.mem_of_getElem? (i := 11) rfl)) rfl
theorem tw_0_12 : (Jvm.Cond.selects "CrowMiles$Reader" ({ cls := "CrowMiles$Reader", name := "takeRest", desc := "()Z" } : Jvm.MethodName) ({ cls := "CrowMiles$Reader", name := "takeRest", desc := "()Z" } : Jvm.MethodName)) ∈ zW := tg_i (tl_0 (List.mem_of_getElem? (i := 12) rfl)) rfl
theorem tw_0_13 : (Jvm.Cond.selects "CrowMiles$Reader" ({ cls := "CrowMiles$Reader", name := "takeHours", desc := "()Z" } : Jvm.MethodName) ({ cls := "CrowMiles$Reader", name := "takeHours", desc := "()Z" } : Jvm.MethodName)) ∈ zW := tg_i (tl_0 (List.mem_of_getElem? (i := 13) rfl)) rfl
theorem tw_0_14 : (Jvm.Cond.selects "CrowMiles" ({ cls := "CrowMiles", name := "refuseNo", desc := "()I" } : Jvm.MethodName) ({ cls := "CrowMiles", name := "refuseNo", desc := "()I" } : Jvm.MethodName)) ∈ zW := tg_i (tl_0 (List.mem_of_getElem? (i := 14) rfl)) rfl
theorem tw_0_15 : (Jvm.Cond.selects "CrowMiles$Country" ({ cls := "CrowMiles$Country", name := "dropFirstPast", desc := "()V" } : Jvm.MethodName) ({ cls := "CrowMiles$Country", name := "dropFirstPast", desc := "()V" } : Jvm.MethodName)) ∈ zW := tg_i (tl_0 (List.mem_of_getElem? (i := 15) rfl)) rfl
theorem tw_0_16 : (Jvm.Cond.selects "CrowMiles" ({ cls := "CrowMiles", name := "isTrip", desc := "(III)Z" } : Jvm.MethodName) ({ cls := "CrowMiles", name := "isTrip", desc := "(III)Z" } : Jvm.MethodName)) ∈ zW := tg_i (tl_0 (List.mem_of_getElem? (i := 16) rfl)) rfl
theorem tw_0_17 : (Jvm.Cond.selects "CrowMiles" ({ cls := "CrowMiles", name := "refuseList", desc := "()I" } : Jvm.MethodName) ({ cls := "CrowMiles", name := "refuseList", desc := "()I" } : Jvm.MethodName)) ∈ zW := tg_i (tl_0 (List.mem_of_getElem? (i := 17) rfl)) rfl
theorem tw_0_18 : (Jvm.Cond.selects "CrowMiles$Roads" ({ cls := "CrowMiles$Roads", name := "shortenFrom", desc := "(I)V" } : Jvm.MethodName) ({ cls := "CrowMiles$Roads", name := "shortenFrom", desc := "(I)V" } : Jvm.MethodName)) ∈ zW := tg_i (tl_0 (List.mem_of_getElem? (i := 18) rfl)) rfl
theorem tw_0_19 : (Jvm.Cond.selects "CrowMiles$Roads" ({ cls := "CrowMiles$Roads", name := "partCost", desc := "(II)I" } : Jvm.MethodName) ({ cls := "CrowMiles$Roads", name := "partCost", desc := "(II)I" } : Jvm.MethodName)) ∈ zW := tg_i (tl_0 (List.mem_of_getElem? (i := 19) rfl)) rfl
theorem tw_0_20 : (Jvm.Cond.selects "CrowMiles$Roads" ({ cls := "CrowMiles$Roads", name := "firstStepFrom", desc := "(I)I" } : Jvm.MethodName) ({ cls := "CrowMiles$Roads", name := "firstStepFrom", desc := "(I)I" } : Jvm.MethodName)) ∈ zW := tg_i (tl_0 (List.mem_of_getElem? (i := 20) rfl)) rfl
theorem tw_0_21 : (Jvm.Cond.selects "CrowMiles$Roads" ({ cls := "CrowMiles$Roads", name := "addFound", desc := "(I)V" } : Jvm.MethodName) ({ cls := "CrowMiles$Roads", name := "addFound", desc := "(I)V" } : Jvm.MethodName)) ∈ zW := tg_i (tl_0 (List.mem_of_getElem? (i := 21) rfl)) rfl
theorem tw_0_22 : (Jvm.Cond.selects "CrowMiles$Roads" ({ cls := "CrowMiles$Roads", name := "leastHome", desc := "(II)I" } : Jvm.MethodName) ({ cls := "CrowMiles$Roads", name := "leastHome", desc := "(II)I" } : Jvm.MethodName)) ∈ zW := tg_i (tl_0 (List.mem_of_getElem? (i := 22) rfl)) rfl
theorem tw_0_23 : (Jvm.Cond.selects "CrowMiles$Roads" ({ cls := "CrowMiles$Roads", name := "nextOfRound", desc := "(II)I" } : Jvm.MethodName) ({ cls := "CrowMiles$Roads", name := "nextOfRound", desc := "(II)I" } : Jvm.MethodName)) ∈ zW := tg_i (tl_0 (List.mem_of_getElem? (i := 23) rfl)) rfl
theorem tw_0_24 : (Jvm.Cond.selects "CrowMiles$Roads" ({ cls := "CrowMiles$Roads", name := "homeOver", desc := "(III)I" } : Jvm.MethodName) ({ cls := "CrowMiles$Roads", name := "homeOver", desc := "(III)I" } : Jvm.MethodName)) ∈ zW := tg_i (tl_0 (List.mem_of_getElem? (i := 24) rfl)) rfl
theorem tw_0_25 : (Jvm.Cond.selects "CrowMiles$Roads" ({ cls := "CrowMiles$Roads", name := "hasShortcut", desc := "(II)Z" } : Jvm.MethodName) ({ cls := "CrowMiles$Roads", name := "hasShortcut", desc := "(II)Z" } : Jvm.MethodName)) ∈ zW := tg_i (tl_0 (List.mem_of_getElem? (i := 25) rfl)) rfl
theorem tw_0_26 : (Jvm.Cond.selects "CrowMiles$Doings" ({ cls := "CrowMiles$Doings", name := "isDeed", desc := "(III)Z" } : Jvm.MethodName) ({ cls := "CrowMiles$Doings", name := "isDeed", desc := "(III)Z" } : Jvm.MethodName)) ∈ zW := tg_i (tl_0 (List.mem_of_getElem? (i := 26) rfl)) rfl
theorem tw_0_27 : (Jvm.Cond.selects "CrowMiles$Doings" ({ cls := "CrowMiles$Doings", name := "apartFrom", desc := "(III)I" } : Jvm.MethodName) ({ cls := "CrowMiles$Doings", name := "apartFrom", desc := "(III)I" } : Jvm.MethodName)) ∈ zW := tg_i (tl_0 (List.mem_of_getElem? (i := 27) rfl)) rfl
theorem tw_0_28 : (Jvm.Cond.selects "CrowMiles$Sightings" ({ cls := "CrowMiles$Sightings", name := "allow", desc := "(II)Z" } : Jvm.MethodName) ({ cls := "CrowMiles$Sightings", name := "allow", desc := "(II)Z" } : Jvm.MethodName)) ∈ zW := tg_i (tl_0 (List.mem_of_getElem? (i := 28) rfl)) rfl
theorem tw_0_29 : (Jvm.Cond.selects "CrowMiles$Questions" ({ cls := "CrowMiles$Questions", name := "mostAlike", desc := "(I)I" } : Jvm.MethodName) ({ cls := "CrowMiles$Questions", name := "mostAlike", desc := "(I)I" } : Jvm.MethodName)) ∈ zW := tg_i (tl_0 (List.mem_of_getElem? (i := 29) rfl)) rfl
theorem tw_0_30 : (Jvm.Cond.selects "CrowMiles$Roads" ({ cls := "CrowMiles$Roads", name := "isResting", desc := "(III)Z" } : Jvm.MethodName) ({ cls := "CrowMiles$Roads", name := "isResting", desc := "(III)Z" } : Jvm.MethodName)) ∈ zW := tg_i (tl_0 (List.mem_of_getElem? (i := 30) rfl)) rfl
theorem tw_0_31 : (Jvm.Cond.selects "CrowMiles$Roads" ({ cls := "CrowMiles$Roads", name := "surveyorGets", desc := "(III)I" } : Jvm.MethodName) ({ cls := "CrowMiles$Roads", name := "surveyorGets", desc := "(III)I" } : Jvm.MethodName)) ∈ zW := tg_i (tl_0 (List.mem_of_getElem? (i := 31) rfl)) rfl
theorem tw_0_32 : (Jvm.Cond.selects "CrowMiles$Roads" ({ cls := "CrowMiles$Roads", name := "ownerGets", desc := "(III)I" } : Jvm.MethodName) ({ cls := "CrowMiles$Roads", name := "ownerGets", desc := "(III)I" } : Jvm.MethodName)) ∈ zW := tg_i (tl_0 (List.mem_of_getElem? (i := 32) rfl)) rfl
theorem tw_0_33 : (Jvm.Cond.selects "CrowMiles" ({ cls := "CrowMiles", name := "keepFraction", desc := "(II)V" } : Jvm.MethodName) ({ cls := "CrowMiles", name := "keepFraction", desc := "(II)V" } : Jvm.MethodName)) ∈ zW := tg_i (tl_0 (List.mem_of_getElem? (i := 33) rfl)) rfl
theorem tw_0_34 : (Jvm.Cond.selects "CrowMiles" ({ cls := "CrowMiles", name := "travel", desc := "(II)I" } : Jvm.MethodName) ({ cls := "CrowMiles", name := "travel", desc := "(II)I" } : Jvm.MethodName)) ∈ zW := tg_i (tl_0 (List.mem_of_getElem? (i := 34) rfl)) rfl
theorem tw_0_35 : (Jvm.Cond.selects "CrowMiles" ({ cls := "CrowMiles", name := "amount", desc := "(I)I" } : Jvm.MethodName) ({ cls := "CrowMiles", name := "amount", desc := "(I)I" } : Jvm.MethodName)) ∈ zW := tg_i (tl_0 (List.mem_of_getElem? (i := 35) rfl)) rfl
theorem tw_0_36 : (Jvm.Cond.selects "CrowMilesModel" ({ cls := "CrowMilesModel", name := "clearRow", desc := "(I)V" } : Jvm.MethodName) ({ cls := "CrowMilesModel", name := "clearRow", desc := "(I)V" } : Jvm.MethodName)) ∈ zW := tg_i (tl_0 (List.mem_of_getElem? (i := 36) rfl)) rfl
theorem tw_0_37 : (Jvm.Cond.selects "CrowMilesModel" ({ cls := "CrowMilesModel", name := "bad", desc := "()I" } : Jvm.MethodName) ({ cls := "CrowMilesModel", name := "bad", desc := "()I" } : Jvm.MethodName)) ∈ zW := tg_i (tl_0 (List.mem_of_getElem? (i := 37) rfl)) rfl
theorem tw_0_38 : (Jvm.Cond.selects "CrowMilesModel" ({ cls := "CrowMilesModel", name := "full", desc := "()I" } : Jvm.MethodName) ({ cls := "CrowMilesModel", name := "full", desc := "()I" } : Jvm.MethodName)) ∈ zW := tg_i (tl_0 (List.mem_of_getElem? (i := 38) rfl)) rfl
theorem tw_0_39 : (Jvm.Cond.selects "CrowMilesModel" ({ cls := "CrowMilesModel", name := "placeIn", desc := "(IIII)I" } : Jvm.MethodName) ({ cls := "CrowMilesModel", name := "placeIn", desc := "(IIII)I" } : Jvm.MethodName)) ∈ zW := tg_i (tl_0 (List.mem_of_getElem? (i := 39) rfl)) rfl
theorem tw_0_40 : (Jvm.Cond.selects "CrowMilesModel" ({ cls := "CrowMilesModel", name := "isPlace", desc := "(I)Z" } : Jvm.MethodName) ({ cls := "CrowMilesModel", name := "isPlace", desc := "(I)Z" } : Jvm.MethodName)) ∈ zW := tg_i (tl_0 (List.mem_of_getElem? (i := 40) rfl)) rfl
theorem tw_0_41 : (Jvm.Cond.selects "CrowMilesModel" ({ cls := "CrowMilesModel", name := "crowIn", desc := "(III)I" } : Jvm.MethodName) ({ cls := "CrowMilesModel", name := "crowIn", desc := "(III)I" } : Jvm.MethodName)) ∈ zW := tg_i (tl_0 (List.mem_of_getElem? (i := 41) rfl)) rfl
theorem tw_0_42 : (Jvm.Cond.selects "CrowMilesModel" ({ cls := "CrowMilesModel", name := "nextToken", desc := "()V" } : Jvm.MethodName) ({ cls := "CrowMilesModel", name := "nextToken", desc := "()V" } : Jvm.MethodName)) ∈ zW := tg_i (tl_0 (List.mem_of_getElem? (i := 42) rfl)) rfl
theorem tw_0_43 : (Jvm.Cond.selects "CrowMilesModel" ({ cls := "CrowMilesModel", name := "isLetter", desc := "(I)Z" } : Jvm.MethodName) ({ cls := "CrowMilesModel", name := "isLetter", desc := "(I)Z" } : Jvm.MethodName)) ∈ zW := tg_i (tl_0 (List.mem_of_getElem? (i := 43) rfl)) rfl
theorem tw_0_44 : (Jvm.Cond.selects "CrowMilesModel" ({ cls := "CrowMilesModel", name := "isFigure", desc := "(I)Z" } : Jvm.MethodName) ({ cls := "CrowMilesModel", name := "isFigure", desc := "(I)Z" } : Jvm.MethodName)) ∈ zW := tg_i (tl_0 (List.mem_of_getElem? (i := 44) rfl)) rfl
theorem tw_0_45 : (Jvm.Cond.selects "CrowMilesModel" ({ cls := "CrowMilesModel", name := "readNumber", desc := "()V" } : Jvm.MethodName) ({ cls := "CrowMilesModel", name := "readNumber", desc := "()V" } : Jvm.MethodName)) ∈ zW := tg_i (tl_0 (List.mem_of_getElem? (i := 45) rfl)) rfl
theorem tw_0_46 : (Jvm.Cond.selects "CrowMilesModel" ({ cls := "CrowMilesModel", name := "spells", desc := "(IIIIIII)Z" } : Jvm.MethodName) ({ cls := "CrowMilesModel", name := "spells", desc := "(IIIIIII)Z" } : Jvm.MethodName)) ∈ zW := tg_i (tl_0 (List.mem_of_getElem? (i := 46) rfl)) rfl
theorem tw_0_47 : (Jvm.Cond.selects "CrowMilesModel" ({ cls := "CrowMilesModel", name := "letter", desc := "(I)I" } : Jvm.MethodName) ({ cls := "CrowMilesModel", name := "letter", desc := "(I)I" } : Jvm.MethodName)) ∈ zW := tg_i (tl_0 (List.mem_of_getElem? (i := 47) rfl)) rfl
theorem tw_0_48 : (Jvm.Cond.selects "CrowMilesModel" ({ cls := "CrowMilesModel", name := "wrong", desc := "()V" } : Jvm.MethodName) ({ cls := "CrowMilesModel", name := "wrong", desc := "()V" } : Jvm.MethodName)) ∈ zW := tg_i (tl_0 (List.mem_of_getElem? (i := 48) rfl)) rfl
theorem tw_0_49 : (Jvm.Cond.selects "CrowMilesModel" ({ cls := "CrowMilesModel", name := "stop", desc := "()V" } : Jvm.MethodName) ({ cls := "CrowMilesModel", name := "stop", desc := "()V" } : Jvm.MethodName)) ∈ zW := tg_i (tl_0 (List.mem_of_getElem? (i := 49) rfl)) rfl
theorem tw_0_50 : (Jvm.Cond.selects "CrowMilesModel" ({ cls := "CrowMilesModel", name := "fine", desc := "()Z" } : Jvm.MethodName) ({ cls := "CrowMilesModel", name := "fine", desc := "()Z" } : Jvm.MethodName)) ∈ zW := tg_i (tl_0 (List.mem_of_getElem? (i := 50) rfl)) rfl
theorem tw_0_51 : (Jvm.Cond.selects "CrowMilesModel" ({ cls := "CrowMilesModel", name := "readItem", desc := "()V" } : Jvm.MethodName) ({ cls := "CrowMilesModel", name := "readItem", desc := "()V" } : Jvm.MethodName)) ∈ zW := tg_i (tl_0 (List.mem_of_getElem? (i := 51) rfl)) rfl
theorem tw_0_52 : (Jvm.Cond.selects "CrowMilesModel" ({ cls := "CrowMilesModel", name := "readPlace", desc := "()V" } : Jvm.MethodName) ({ cls := "CrowMilesModel", name := "readPlace", desc := "()V" } : Jvm.MethodName)) ∈ zW := tg_i (tl_0 (List.mem_of_getElem? (i := 52) rfl)) rfl
theorem tw_0_53 : (Jvm.Cond.selects "CrowMilesModel" ({ cls := "CrowMilesModel", name := "number", desc := "(II)I" } : Jvm.MethodName) ({ cls := "CrowMilesModel", name := "number", desc := "(II)I" } : Jvm.MethodName)) ∈ zW := tg_i (tl_0 (List.mem_of_getElem? (i := 53) rfl)) rfl
theorem tw_0_54 : (Jvm.Cond.selects "CrowMilesModel" ({ cls := "CrowMilesModel", name := "readCrow", desc := "()V" } : Jvm.MethodName) ({ cls := "CrowMilesModel", name := "readCrow", desc := "()V" } : Jvm.MethodName)) ∈ zW := tg_i (tl_0 (List.mem_of_getElem? (i := 54) rfl)) rfl
theorem tw_0_55 : (Jvm.Cond.selects "CrowMilesModel" ({ cls := "CrowMilesModel", name := "readFly", desc := "()V" } : Jvm.MethodName) ({ cls := "CrowMilesModel", name := "readFly", desc := "()V" } : Jvm.MethodName)) ∈ zW := tg_i (tl_0 (List.mem_of_getElem? (i := 55) rfl)) rfl
theorem tw_0_56 : (Jvm.Cond.selects "CrowMilesModel" ({ cls := "CrowMilesModel", name := "flyIn", desc := "(IIII)I" } : Jvm.MethodName) ({ cls := "CrowMilesModel", name := "flyIn", desc := "(IIII)I" } : Jvm.MethodName)) ∈ zW := tg_i (tl_0 (List.mem_of_getElem? (i := 56) rfl)) rfl
theorem tw_0_57 : (Jvm.Cond.selects "CrowMilesModel" ({ cls := "CrowMilesModel", name := "farIn", desc := "(IIIII)I" } : Jvm.MethodName) ({ cls := "CrowMilesModel", name := "farIn", desc := "(IIIII)I" } : Jvm.MethodName)) ∈ zW := tg_i (tl_0 (List.mem_of_getElem? (i := 57) rfl)) rfl
theorem tw_0_58 : (Jvm.Cond.selects "CrowMilesModel" ({ cls := "CrowMilesModel", name := "farAt", desc := "(IIIIII)I" } : Jvm.MethodName) ({ cls := "CrowMilesModel", name := "farAt", desc := "(IIIIII)I" } : Jvm.MethodName)) ∈ zW := tg_i (tl_0 (List.mem_of_getElem? (i := 58) rfl)) rfl
theorem tw_0_59 : (Jvm.Cond.selects "CrowMilesModel" ({ cls := "CrowMilesModel", name := "straightIn", desc := "(III)I" } : Jvm.MethodName) ({ cls := "CrowMilesModel", name := "straightIn", desc := "(III)I" } : Jvm.MethodName)) ∈ zW := tg_i (tl_0 (List.mem_of_getElem? (i := 59) rfl)) rfl
theorem tw_0_60 : (Jvm.Cond.selects "CrowMilesModel" ({ cls := "CrowMilesModel", name := "goOn", desc := "(II)V" } : Jvm.MethodName) ({ cls := "CrowMilesModel", name := "goOn", desc := "(II)V" } : Jvm.MethodName)) ∈ zW := tg_i (tl_0 (List.mem_of_getElem? (i := 60) rfl)) rfl
theorem tw_0_61 : (Jvm.Cond.selects "CrowMilesModel" ({ cls := "CrowMilesModel", name := "readRest", desc := "()V" } : Jvm.MethodName) ({ cls := "CrowMilesModel", name := "readRest", desc := "()V" } : Jvm.MethodName)) ∈ zW := tg_i (tl_0 (List.mem_of_getElem? (i := 61) rfl)) rfl
theorem tw_0_62 : (Jvm.Cond.selects "CrowMilesModel" ({ cls := "CrowMilesModel", name := "restIn", desc := "(II)I" } : Jvm.MethodName) ({ cls := "CrowMilesModel", name := "restIn", desc := "(II)I" } : Jvm.MethodName)) ∈ zW := tg_i (tl_0 (List.mem_of_getElem? (i := 62) rfl)) rfl
theorem tw_0_63 : (Jvm.Cond.selects "CrowMilesModel" ({ cls := "CrowMilesModel", name := "readHours", desc := "()V" } : Jvm.MethodName) ({ cls := "CrowMilesModel", name := "readHours", desc := "()V" } : Jvm.MethodName)) ∈ zW := tg_i (tl_0 (List.mem_of_getElem? (i := 63) rfl)) rfl
theorem tw_0_64 : (Jvm.Cond.selects "CrowMilesModel" ({ cls := "CrowMilesModel", name := "copyRow", desc := "(III)V" } : Jvm.MethodName) ({ cls := "CrowMilesModel", name := "copyRow", desc := "(III)V" } : Jvm.MethodName)) ∈ zW := tg_i (tl_0 (List.mem_of_getElem? (i := 64) rfl)) rfl
theorem tw_0_65 : (Jvm.Cond.selects "CrowMilesModel" ({ cls := "CrowMilesModel", name := "isCrow", desc := "(I)Z" } : Jvm.MethodName) ({ cls := "CrowMilesModel", name := "isCrow", desc := "(I)Z" } : Jvm.MethodName)) ∈ zW := tg_i (tl_0 (List.mem_of_getElem? (i := 65) rfl)) rfl
theorem tw_0_66 : (Jvm.Cond.selects "CrowMilesModel" ({ cls := "CrowMilesModel", name := "no", desc := "()I" } : Jvm.MethodName) ({ cls := "CrowMilesModel", name := "no", desc := "()I" } : Jvm.MethodName)) ∈ zW := tg_i (tl_0 (List.mem_of_getElem? (i := 66) rfl)) rfl
theorem tw_0_67 : (Jvm.Cond.selects "CrowMilesModel" ({ cls := "CrowMilesModel", name := "remember", desc := "()V" } : Jvm.MethodName) ({ cls := "CrowMilesModel", name := "remember", desc := "()V" } : Jvm.MethodName)) ∈ zW := tg_i (tl_0 (List.mem_of_getElem? (i := 67) rfl)) rfl
theorem tw_0_68 : (Jvm.Cond.selects "CrowMilesModel" ({ cls := "CrowMilesModel", name := "farNow", desc := "(III)I" } : Jvm.MethodName) ({ cls := "CrowMilesModel", name := "farNow", desc := "(III)I" } : Jvm.MethodName)) ∈ zW := tg_i (tl_0 (List.mem_of_getElem? (i := 68) rfl)) rfl
theorem tw_0_69 : (Jvm.Cond.selects "CrowMilesModel" ({ cls := "CrowMilesModel", name := "badTen", desc := "()I" } : Jvm.MethodName) ({ cls := "CrowMilesModel", name := "badTen", desc := "()I" } : Jvm.MethodName)) ∈ zW := tg_i (tl_0 (List.mem_of_getElem? (i := 69) rfl)) rfl
theorem tw_0_70 : (Jvm.Cond.selects "CrowMilesModel" ({ cls := "CrowMilesModel", name := "layFars", desc := "(I)V" } : Jvm.MethodName) ({ cls := "CrowMilesModel", name := "layFars", desc := "(I)V" } : Jvm.MethodName)) ∈ zW := tg_i (tl_0 (List.mem_of_getElem? (i := 70) rfl)) rfl
theorem tw_0_71 : (Jvm.Cond.selects "CrowMilesModel" ({ cls := "CrowMilesModel", name := "layYet", desc := "(I)V" } : Jvm.MethodName) ({ cls := "CrowMilesModel", name := "layYet", desc := "(I)V" } : Jvm.MethodName)) ∈ zW := tg_i (tl_0 (List.mem_of_getElem? (i := 71) rfl)) rfl
theorem tw_0_72 : (Jvm.Cond.selects "CrowMilesModel" ({ cls := "CrowMilesModel", name := "leastFrom", desc := "(III)I" } : Jvm.MethodName) ({ cls := "CrowMilesModel", name := "leastFrom", desc := "(III)I" } : Jvm.MethodName)) ∈ zW := tg_i (tl_0 (List.mem_of_getElem? (i := 72) rfl)) rfl
theorem tw_0_73 : (Jvm.Cond.selects "CrowMilesModel" ({ cls := "CrowMilesModel", name := "partTo", desc := "(III)I" } : Jvm.MethodName) ({ cls := "CrowMilesModel", name := "partTo", desc := "(III)I" } : Jvm.MethodName)) ∈ zW := tg_i (tl_0 (List.mem_of_getElem? (i := 73) rfl)) rfl
theorem tw_0_74 : (Jvm.Cond.selects "CrowMilesModel" ({ cls := "CrowMilesModel", name := "kth", desc := "(III)I" } : Jvm.MethodName) ({ cls := "CrowMilesModel", name := "kth", desc := "(III)I" } : Jvm.MethodName)) ∈ zW := tg_i (tl_0 (List.mem_of_getElem? (i := 74) rfl)) rfl
theorem tw_0_75 : (Jvm.Cond.selects "CrowMilesModel" ({ cls := "CrowMilesModel", name := "doesClash", desc := "(II)Z" } : Jvm.MethodName) ({ cls := "CrowMilesModel", name := "doesClash", desc := "(II)Z" } : Jvm.MethodName)) ∈ zW := tg_i (tl_0 (List.mem_of_getElem? (i := 75) rfl)) rfl
theorem tw_0_76 : (Jvm.Cond.selects "CrowMilesModel" ({ cls := "CrowMilesModel", name := "isDeed", desc := "(III)Z" } : Jvm.MethodName) ({ cls := "CrowMilesModel", name := "isDeed", desc := "(III)Z" } : Jvm.MethodName)) ∈ zW := tg_i (tl_0 (List.mem_of_getElem? (i := 76) rfl)) rfl
theorem tw_0_77 : (Jvm.Cond.selects "CrowMilesModel" ({ cls := "CrowMilesModel", name := "apart", desc := "(III)I" } : Jvm.MethodName) ({ cls := "CrowMilesModel", name := "apart", desc := "(III)I" } : Jvm.MethodName)) ∈ zW := tg_i (tl_0 (List.mem_of_getElem? (i := 77) rfl)) rfl
theorem tw_0_78 : (Jvm.Cond.selects "CrowMilesModel" ({ cls := "CrowMilesModel", name := "isOf", desc := "(I)I" } : Jvm.MethodName) ({ cls := "CrowMilesModel", name := "isOf", desc := "(I)I" } : Jvm.MethodName)) ∈ zW := tg_i (tl_0 (List.mem_of_getElem? (i := 78) rfl)) rfl
theorem tw_0_79 : (Jvm.Cond.selects "CrowMilesModel" ({ cls := "CrowMilesModel", name := "kindsOf", desc := "(I)I" } : Jvm.MethodName) ({ cls := "CrowMilesModel", name := "kindsOf", desc := "(I)I" } : Jvm.MethodName)) ∈ zW := tg_i (tl_0 (List.mem_of_getElem? (i := 79) rfl)) rfl
theorem tw_0_80 : (Jvm.Cond.selects "CrowMilesModel" ({ cls := "CrowMilesModel", name := "greatestPart", desc := "(I)I" } : Jvm.MethodName) ({ cls := "CrowMilesModel", name := "greatestPart", desc := "(I)I" } : Jvm.MethodName)) ∈ zW := tg_i (tl_0 (List.mem_of_getElem? (i := 80) rfl)) rfl
theorem tw_0_81 : (Jvm.Cond.selects "CrowMilesModel" ({ cls := "CrowMilesModel", name := "rest", desc := "(III)Z" } : Jvm.MethodName) ({ cls := "CrowMilesModel", name := "rest", desc := "(III)Z" } : Jvm.MethodName)) ∈ zW := tg_i (tl_0 (List.mem_of_getElem? (i := 81) rfl)) rfl
theorem tw_0_82 : (Jvm.Cond.selects "CrowMilesModel" ({ cls := "CrowMilesModel", name := "ownerGets", desc := "(III)I" } : Jvm.MethodName) ({ cls := "CrowMilesModel", name := "ownerGets", desc := "(III)I" } : Jvm.MethodName)) ∈ zW := tg_i (tl_0 (List.mem_of_getElem? (i := 82) rfl)) rfl
theorem tw_0_83 : (Jvm.Cond.selects "CrowMilesModel" ({ cls := "CrowMilesModel", name := "surveyorGets", desc := "(III)I" } : Jvm.MethodName) ({ cls := "CrowMilesModel", name := "surveyorGets", desc := "(III)I" } : Jvm.MethodName)) ∈ zW := tg_i (tl_0 (List.mem_of_getElem? (i := 83) rfl)) rfl
theorem tw_0_84 : (Jvm.Cond.selects "CrowMilesModel" ({ cls := "CrowMilesModel", name := "yearIn", desc := "(I)I" } : Jvm.MethodName) ({ cls := "CrowMilesModel", name := "yearIn", desc := "(I)I" } : Jvm.MethodName)) ∈ zW := tg_i (tl_0 (List.mem_of_getElem? (i := 84) rfl)) rfl
theorem tw_0_85 : (Jvm.Cond.selects "CrowMilesModel" ({ cls := "CrowMilesModel", name := "counted", desc := "(I)I" } : Jvm.MethodName) ({ cls := "CrowMilesModel", name := "counted", desc := "(I)I" } : Jvm.MethodName)) ∈ zW := tg_i (tl_0 (List.mem_of_getElem? (i := 85) rfl)) rfl
theorem tw_0_86 : (Jvm.Cond.selects "CrowMilesModel" ({ cls := "CrowMilesModel", name := "lengths", desc := "()I" } : Jvm.MethodName) ({ cls := "CrowMilesModel", name := "lengths", desc := "()I" } : Jvm.MethodName)) ∈ zW := tg_i (tl_0 (List.mem_of_getElem? (i := 86) rfl)) rfl
theorem tw_0_87 : (Jvm.Cond.selects "CrowMilesModel" ({ cls := "CrowMilesModel", name := "more", desc := "(JII)J" } : Jvm.MethodName) ({ cls := "CrowMilesModel", name := "more", desc := "(JII)J" } : Jvm.MethodName)) ∈ zW := tg_i (tl_0 (List.mem_of_getElem? (i := 87) rfl)) rfl
theorem tw_1_0 : (Jvm.Cond.initialized "CrowMilesLaw") ∈ zW := tg_i (tl_1 (List.mem_of_getElem? (i := 0) rfl)) rfl
theorem tw_1_1 : (Jvm.Cond.initialized "CrowMiles") ∈ zW := tg_i (tl_1 (List.mem_of_getElem? (i := 1) rfl)) rfl
theorem tw_1_2 : (Jvm.Cond.initialized "CrowMiles$Country") ∈ zW := tg_i (tl_1 (List.mem_of_getElem? (i := 2) rfl)) rfl
theorem tw_1_3 : (Jvm.Cond.initialized "CrowMiles$Doings") ∈ zW := tg_i (tl_1 (List.mem_of_getElem? (i := 3) rfl)) rfl
theorem tw_1_4 : (Jvm.Cond.initialized "CrowMiles$Sightings") ∈ zW := tg_i (tl_1 (List.mem_of_getElem? (i := 4) rfl)) rfl
theorem tw_1_5 : (Jvm.Cond.initialized "CrowMiles$Roads") ∈ zW := tg_i (tl_1 (List.mem_of_getElem? (i := 5) rfl)) rfl
theorem tw_1_6 : (Jvm.Cond.initialized "CrowMiles$Reader") ∈ zW := tg_i (tl_1 (List.mem_of_getElem? (i := 6) rfl)) rfl
theorem tw_1_7 : (Jvm.Cond.initialized "CrowMiles$Questions") ∈ zW := tg_i (tl_1 (List.mem_of_getElem? (i := 7) rfl)) rfl
theorem tw_1_8 : (Jvm.Cond.initialized "CrowMilesModel") ∈ zW := tg_i (tl_1 (List.mem_of_getElem? (i := 8) rfl)) rfl
theorem tw_1_9 : (Jvm.Cond.initialized "java/lang/Math") ∈ zW := tg_i (tl_1 (List.mem_of_getElem? (i := 9) rfl)) rfl
theorem tw_1_10 : (Jvm.Cond.initialized "java/lang/String") ∈ zW := tg_i (tl_1 (List.mem_of_getElem? (i := 10) rfl)) rfl
theorem tw_1_11 : (Jvm.Cond.initialized "java/lang/StringLatin1") ∈ zW := tg_i (tl_1 (List.mem_of_getElem? (i := 11) rfl)) rfl
theorem tw_1_12 : (Jvm.Cond.initialized "jdk/internal/util/Preconditions") ∈ zW := tg_i (tl_1 (List.mem_of_getElem? (i := 12) rfl)) rfl
theorem tw_1_13 : (Jvm.Cond.initialized "java/lang/StringUTF16") ∈ zW := tg_i (tl_1 (List.mem_of_getElem? (i := 13) rfl)) rfl
theorem tw_1_14 : (Jvm.Cond.initialized "CrowMiles$Kinds") ∈ zW := tg_i (tl_1 (List.mem_of_getElem? (i := 14) rfl)) rfl
theorem tw_1_15 : (Jvm.Cond.initialized "java/lang/System") ∈ zW := tg_i (tl_1 (List.mem_of_getElem? (i := 15) rfl)) rfl
theorem tw_1_16 : (Jvm.Cond.classLink "CrowMilesLaw" (7 : Nat) "CrowMiles") ∈ zW := tg_i (tl_1 (List.mem_of_getElem? (i := 16) rfl)) rfl
theorem tw_1_17 : (Jvm.Cond.instantiable "CrowMiles" (14 : Nat)) ∈ zW := tg_i (tl_1 (List.mem_of_getElem? (i := 17) rfl)) rfl
theorem tw_1_18 : (Jvm.Cond.methodLink "CrowMilesLaw" (9 : Nat) ({ cls := "CrowMiles", name := "<init>", desc := "()V" } : Jvm.MethodName)) ∈ zW := tg_i (tl_1 (List.mem_of_getElem? (i := 18) rfl)) rfl
theorem tw_1_19 : (Jvm.Cond.instanceMethod ({ cls := "CrowMiles", name := "<init>", desc := "()V" } : Jvm.MethodName)) ∈ zW := tg_i (tl_1 (List.mem_of_getElem? (i := 19) rfl)) rfl
theorem tw_1_20 : (Jvm.Cond.code ({ cls := "CrowMiles", name := "<init>", desc := "()V" } : Jvm.MethodName) prog_1_method_1_code (2 : Nat) (Option.none : Option Jvm.ClassFile.FieldType)) ∈ zW := tg_i (tl_1 (List.mem_of_getElem? (i := 20) rfl)) rfl
theorem tw_1_21 : (Jvm.Cond.methodLink "CrowMiles" (1 : Nat) ({ cls := "java/lang/Object", name := "<init>", desc := "()V" } : Jvm.MethodName)) ∈ zW := tg_i (tl_1 (List.mem_of_getElem? (i := 21) rfl)) rfl
theorem tw_1_22 : (Jvm.Cond.instanceMethod ({ cls := "java/lang/Object", name := "<init>", desc := "()V" } : Jvm.MethodName)) ∈ zW := tg_i (tl_1 (List.mem_of_getElem? (i := 22) rfl)) rfl
theorem tw_1_23 : (Jvm.Cond.code ({ cls := "java/lang/Object", name := "<init>", desc := "()V" } : Jvm.MethodName) object_method_1_code (1 : Nat) (Option.none : Option Jvm.ClassFile.FieldType)) ∈ zW := tg_i (tl_1 (List.mem_of_getElem? (i := 23) rfl)) rfl
theorem tw_1_24 : (Jvm.Cond.classLink "CrowMiles" (7 : Nat) "CrowMiles$Country") ∈ zW := tg_i (tl_1 (List.mem_of_getElem? (i := 24) rfl)) rfl
theorem tw_1_25 : (Jvm.Cond.instantiable "CrowMiles$Country" (11 : Nat)) ∈ zW := tg_i (tl_1 (List.mem_of_getElem? (i := 25) rfl)) rfl
theorem tw_1_26 : (Jvm.Cond.methodLink "CrowMiles" (9 : Nat) ({ cls := "CrowMiles$Country", name := "<init>", desc := "()V" } : Jvm.MethodName)) ∈ zW := tg_i (tl_1 (List.mem_of_getElem? (i := 26) rfl)) rfl
theorem tw_1_27 : (Jvm.Cond.instanceMethod ({ cls := "CrowMiles$Country", name := "<init>", desc := "()V" } : Jvm.MethodName)) ∈ zW := tg_i (tl_1 (List.mem_of_getElem? (i := 27) rfl)) rfl
theorem tw_1_28 : (Jvm.Cond.code ({ cls := "CrowMiles$Country", name := "<init>", desc := "()V" } : Jvm.MethodName) prog_2_method_1_code (2 : Nat) (Option.none : Option Jvm.ClassFile.FieldType)) ∈ zW := tg_i (tl_1 (List.mem_of_getElem? (i := 28) rfl)) rfl
theorem tw_1_29 : (Jvm.Cond.methodLink "CrowMiles$Country" (3 : Nat) ({ cls := "java/lang/Object", name := "<init>", desc := "()V" } : Jvm.MethodName)) ∈ zW := tg_i (tl_1 (List.mem_of_getElem? (i := 29) rfl)) rfl
theorem tw_1_30 : (Jvm.Cond.classLink "CrowMiles$Country" (24 : Nat) "CrowMiles$Doings") ∈ zW := tg_i (tl_1 (List.mem_of_getElem? (i := 30) rfl)) rfl
theorem tw_1_31 : (Jvm.Cond.instantiable "CrowMiles$Doings" (5 : Nat)) ∈ zW := tg_i (tl_1 (List.mem_of_getElem? (i := 31) rfl)) rfl
theorem tw_1_32 : (Jvm.Cond.methodLinkNest "CrowMiles$Country" (26 : Nat) ({ cls := "CrowMiles$Doings", name := "<init>", desc := "()V" } : Jvm.MethodName) "CrowMiles") ∈ lw_tbl := tl_1 (List.mem_of_getElem? (i := 32) rfl)
theorem tw_1_33 : (Jvm.Cond.instanceMethod ({ cls := "CrowMiles$Doings", name := "<init>", desc := "()V" } : Jvm.MethodName)) ∈ zW := tg_i (tl_1 (List.mem_of_getElem? (i := 33) rfl)) rfl
theorem tw_1_34 : (Jvm.Cond.code ({ cls := "CrowMiles$Doings", name := "<init>", desc := "()V" } : Jvm.MethodName) prog_3_method_1_code (1 : Nat) (Option.none : Option Jvm.ClassFile.FieldType)) ∈ zW := tg_i (tl_1 (List.mem_of_getElem? (i := 34) rfl)) rfl
theorem tw_1_35 : (Jvm.Cond.methodLink "CrowMiles$Doings" (3 : Nat) ({ cls := "java/lang/Object", name := "<init>", desc := "()V" } : Jvm.MethodName)) ∈ zW := tg_i (tl_1 (List.mem_of_getElem? (i := 35) rfl)) rfl
theorem tw_1_36 : (Jvm.Cond.fieldLink "CrowMiles$Doings" (9 : Nat) "CrowMiles$Doings" "at" "[I") ∈ zW := tg_i (tl_1 (List.mem_of_getElem? (i := 36) rfl)) rfl
theorem tw_1_37 : (Jvm.Cond.fieldLink "CrowMiles$Reader" (110 : Nat) "CrowMiles$Doings" "at" "[I") ∈ zW := tg_i (tl_1 (List.mem_of_getElem? (i := 37) rfl)) rfl
theorem tw_1_38 : (Jvm.Cond.fieldLink "CrowMiles$Country" (79 : Nat) "CrowMiles$Doings" "at" "[I") ∈ zW := tg_i (tl_1 (List.mem_of_getElem? (i := 38) rfl)) rfl
theorem tw_1_39 : (Jvm.Cond.fieldLink "CrowMiles" (115 : Nat) "CrowMiles$Doings" "at" "[I") ∈ zW := tg_i (tl_1 (List.mem_of_getElem? (i := 39) rfl)) rfl
theorem tw_1_40 : (Jvm.Cond.fieldLink "CrowMiles$Doings" (15 : Nat) "CrowMiles$Doings" "tired" "[I") ∈ zW := tg_i (tl_1 (List.mem_of_getElem? (i := 40) rfl)) rfl
theorem tw_1_41 : (Jvm.Cond.fieldLink "CrowMiles$Country" (82 : Nat) "CrowMiles$Doings" "tired" "[I") ∈ zW := tg_i (tl_1 (List.mem_of_getElem? (i := 41) rfl)) rfl
theorem tw_1_42 : (Jvm.Cond.fieldLink "CrowMiles" (132 : Nat) "CrowMiles$Doings" "tired" "[I") ∈ zW := tg_i (tl_1 (List.mem_of_getElem? (i := 42) rfl)) rfl
theorem tw_1_43 : (Jvm.Cond.fieldLink "CrowMiles$Doings" (18 : Nat) "CrowMiles$Doings" "deedRows" "[I") ∈ zW := tg_i (tl_1 (List.mem_of_getElem? (i := 43) rfl)) rfl
theorem tw_1_44 : (Jvm.Cond.fieldLink "CrowMiles$Country" (54 : Nat) "CrowMiles$Doings" "deeds" "I") ∈ zW := tg_i (tl_1 (List.mem_of_getElem? (i := 44) rfl)) rfl
theorem tw_1_45 : (Jvm.Cond.fieldLink "CrowMiles$Doings" (27 : Nat) "CrowMiles$Doings" "deeds" "I") ∈ zW := tg_i (tl_1 (List.mem_of_getElem? (i := 45) rfl)) rfl
theorem tw_1_46 : (Jvm.Cond.fieldLink "CrowMiles" (189 : Nat) "CrowMiles$Doings" "deeds" "I") ∈ zW := tg_i (tl_1 (List.mem_of_getElem? (i := 46) rfl)) rfl
theorem tw_1_47 : (Jvm.Cond.fieldLink "CrowMiles$Country" (57 : Nat) "CrowMiles$Doings" "hour" "I") ∈ zW := tg_i (tl_1 (List.mem_of_getElem? (i := 47) rfl)) rfl
theorem tw_1_48 : (Jvm.Cond.fieldLink "CrowMiles$Doings" (31 : Nat) "CrowMiles$Doings" "hour" "I") ∈ zW := tg_i (tl_1 (List.mem_of_getElem? (i := 48) rfl)) rfl
theorem tw_1_49 : (Jvm.Cond.fieldLink "CrowMiles$Reader" (123 : Nat) "CrowMiles$Doings" "hour" "I") ∈ zW := tg_i (tl_1 (List.mem_of_getElem? (i := 49) rfl)) rfl
theorem tw_1_50 : (Jvm.Cond.fieldLink "CrowMiles" (119 : Nat) "CrowMiles$Doings" "hour" "I") ∈ zW := tg_i (tl_1 (List.mem_of_getElem? (i := 50) rfl)) rfl
theorem tw_1_51 : (Jvm.Cond.laysFinal "CrowMiles$Doings" "CrowMiles$Doings" "at" "[I") ∈ zW := tg_i (tl_1 (List.mem_of_getElem? (i := 51) rfl)) rfl
theorem tw_1_53 : (Jvm.Cond.laysFinal "CrowMiles$Doings" "CrowMiles$Doings" "tired" "[I") ∈ zW := tg_i (tl_1 (List.mem_of_getElem? (i := 53) rfl)) rfl
theorem tw_1_55 : (Jvm.Cond.laysFinal "CrowMiles$Doings" "CrowMiles$Doings" "deedRows" "[I") ∈ zW := tg_i (tl_1 (List.mem_of_getElem? (i := 55) rfl)) rfl
theorem tw_1_57 : (Jvm.Cond.lays "CrowMiles$Doings" "CrowMiles$Doings" "deeds" "I") ∈ zW := tg_i (tl_1 (List.mem_of_getElem? (i := 57) rfl)) rfl
theorem tw_1_59 : (Jvm.Cond.lays "CrowMiles$Doings" "CrowMiles$Doings" "hour" "I") ∈ zW := tg_i (tl_1 (List.mem_of_getElem? (i := 59) rfl)) rfl
theorem tw_1_61 : (Jvm.Cond.superclass "CrowMiles$Doings" "java/lang/Object") ∈ zW := tg_i (tl_1 (List.mem_of_getElem? (i := 61) rfl)) rfl
theorem tw_1_62 : (Jvm.Cond.arrayClass Jvm.ClassFile.FieldType.int) ∈ zW := tg_i (tl_1 (List.mem_of_getElem? (i := 62) rfl)) rfl
theorem tw_1_63 : (Jvm.Cond.arrayOver (Jvm.ClassFile.FieldType.object "CrowMiles$Doings")) ∈ lw_tbl := tl_1 (List.mem_of_getElem? (i := 63) rfl)
theorem tw_1_64 : (Jvm.Cond.classLink "CrowMiles$Country" (35 : Nat) "CrowMiles$Sightings") ∈ zW := tg_i (tl_1 (List.mem_of_getElem? (i := 64) rfl)) rfl
theorem tw_1_65 : (Jvm.Cond.instantiable "CrowMiles$Sightings" (3 : Nat)) ∈ zW := tg_i (tl_1 (List.mem_of_getElem? (i := 65) rfl)) rfl
theorem tw_1_66 : (Jvm.Cond.methodLink "CrowMiles$Country" (37 : Nat) ({ cls := "CrowMiles$Sightings", name := "<init>", desc := "(Z)V" } : Jvm.MethodName)) ∈ zW := tg_i (tl_1 (List.mem_of_getElem? (i := 66) rfl)) rfl
theorem tw_1_67 : (Jvm.Cond.instanceMethod ({ cls := "CrowMiles$Sightings", name := "<init>", desc := "(Z)V" } : Jvm.MethodName)) ∈ zW := tg_i (tl_1 (List.mem_of_getElem? (i := 67) rfl)) rfl
theorem tw_1_68 : (Jvm.Cond.code ({ cls := "CrowMiles$Sightings", name := "<init>", desc := "(Z)V" } : Jvm.MethodName) prog_8_method_1_code (2 : Nat) (Option.none : Option Jvm.ClassFile.FieldType)) ∈ zW := tg_i (tl_1 (List.mem_of_getElem? (i := 68) rfl)) rfl
theorem tw_1_69 : (Jvm.Cond.methodLink "CrowMiles$Sightings" (3 : Nat) ({ cls := "java/lang/Object", name := "<init>", desc := "()V" } : Jvm.MethodName)) ∈ zW := tg_i (tl_1 (List.mem_of_getElem? (i := 69) rfl)) rfl
theorem tw_1_70 : (Jvm.Cond.fieldLink "CrowMiles$Sightings" (15 : Nat) "CrowMiles$Sightings" "ofCrows" "Z") ∈ zW := tg_i (tl_1 (List.mem_of_getElem? (i := 70) rfl)) rfl
theorem tw_1_71 : (Jvm.Cond.fieldLink "CrowMiles$Sightings" (11 : Nat) "CrowMiles$Sightings" "rows" "[I") ∈ zW := tg_i (tl_1 (List.mem_of_getElem? (i := 71) rfl)) rfl
theorem tw_1_72 : (Jvm.Cond.fieldLink "CrowMiles$Sightings" (25 : Nat) "CrowMiles$Sightings" "size" "I") ∈ zW := tg_i (tl_1 (List.mem_of_getElem? (i := 72) rfl)) rfl
theorem tw_1_73 : (Jvm.Cond.fieldLink "CrowMiles$Country" (63 : Nat) "CrowMiles$Sightings" "size" "I") ∈ zW := tg_i (tl_1 (List.mem_of_getElem? (i := 73) rfl)) rfl
theorem tw_1_74 : (Jvm.Cond.fieldLink "CrowMiles" (285 : Nat) "CrowMiles$Sightings" "size" "I") ∈ zW := tg_i (tl_1 (List.mem_of_getElem? (i := 74) rfl)) rfl
theorem tw_1_75 : (Jvm.Cond.laysFinal "CrowMiles$Sightings" "CrowMiles$Sightings" "ofCrows" "Z") ∈ zW := tg_i (tl_1 (List.mem_of_getElem? (i := 75) rfl)) rfl
theorem tw_1_77 : (Jvm.Cond.laysFinal "CrowMiles$Sightings" "CrowMiles$Sightings" "rows" "[I") ∈ zW := tg_i (tl_1 (List.mem_of_getElem? (i := 77) rfl)) rfl
theorem tw_1_79 : (Jvm.Cond.lays "CrowMiles$Sightings" "CrowMiles$Sightings" "size" "I") ∈ zW := tg_i (tl_1 (List.mem_of_getElem? (i := 79) rfl)) rfl
theorem tw_1_81 : (Jvm.Cond.superclass "CrowMiles$Sightings" "java/lang/Object") ∈ zW := tg_i (tl_1 (List.mem_of_getElem? (i := 81) rfl)) rfl
theorem tw_1_82 : (Jvm.Cond.fieldLink "CrowMiles$Country" (9 : Nat) "CrowMiles$Country" "placeKind" "[I") ∈ zW := tg_i (tl_1 (List.mem_of_getElem? (i := 82) rfl)) rfl
theorem tw_1_83 : (Jvm.Cond.fieldLink "CrowMiles$Country" (15 : Nat) "CrowMiles$Country" "placeX" "[I") ∈ zW := tg_i (tl_1 (List.mem_of_getElem? (i := 83) rfl)) rfl
theorem tw_1_84 : (Jvm.Cond.fieldLink "CrowMiles$Country" (18 : Nat) "CrowMiles$Country" "placeY" "[I") ∈ zW := tg_i (tl_1 (List.mem_of_getElem? (i := 84) rfl)) rfl
theorem tw_1_85 : (Jvm.Cond.fieldLink "CrowMiles$Country" (47 : Nat) "CrowMiles$Country" "places" "I") ∈ zW := tg_i (tl_1 (List.mem_of_getElem? (i := 85) rfl)) rfl
theorem tw_1_86 : (Jvm.Cond.fieldLink "CrowMiles$Roads" (24 : Nat) "CrowMiles$Country" "places" "I") ∈ zW := tg_i (tl_1 (List.mem_of_getElem? (i := 86) rfl)) rfl
theorem tw_1_87 : (Jvm.Cond.fieldLink "CrowMiles" (60 : Nat) "CrowMiles$Country" "places" "I") ∈ zW := tg_i (tl_1 (List.mem_of_getElem? (i := 87) rfl)) rfl
theorem tw_1_88 : (Jvm.Cond.fieldLink "CrowMiles$Reader" (86 : Nat) "CrowMiles$Country" "places" "I") ∈ zW := tg_i (tl_1 (List.mem_of_getElem? (i := 88) rfl)) rfl
theorem tw_1_89 : (Jvm.Cond.fieldLink "CrowMiles$Country" (21 : Nat) "CrowMiles$Country" "crowKind" "[I") ∈ zW := tg_i (tl_1 (List.mem_of_getElem? (i := 89) rfl)) rfl
theorem tw_1_90 : (Jvm.Cond.fieldLink "CrowMiles$Country" (51 : Nat) "CrowMiles$Country" "crows" "I") ∈ zW := tg_i (tl_1 (List.mem_of_getElem? (i := 90) rfl)) rfl
theorem tw_1_91 : (Jvm.Cond.fieldLink "CrowMiles" (88 : Nat) "CrowMiles$Country" "crows" "I") ∈ zW := tg_i (tl_1 (List.mem_of_getElem? (i := 91) rfl)) rfl
theorem tw_1_92 : (Jvm.Cond.fieldLink "CrowMiles$Reader" (100 : Nat) "CrowMiles$Country" "crows" "I") ∈ zW := tg_i (tl_1 (List.mem_of_getElem? (i := 92) rfl)) rfl
theorem tw_1_93 : (Jvm.Cond.fieldLink "CrowMiles$Country" (27 : Nat) "CrowMiles$Country" "now" "LCrowMiles$Doings;") ∈ zW := tg_i (tl_1 (List.mem_of_getElem? (i := 93) rfl)) rfl
theorem tw_1_94 : (Jvm.Cond.fieldLink "CrowMiles$Reader" (106 : Nat) "CrowMiles$Country" "now" "LCrowMiles$Doings;") ∈ zW := tg_i (tl_1 (List.mem_of_getElem? (i := 94) rfl)) rfl
theorem tw_1_95 : (Jvm.Cond.fieldLink "CrowMiles" (112 : Nat) "CrowMiles$Country" "now" "LCrowMiles$Doings;") ∈ zW := tg_i (tl_1 (List.mem_of_getElem? (i := 95) rfl)) rfl
theorem tw_1_96 : (Jvm.Cond.fieldLink "CrowMiles$Country" (31 : Nat) "CrowMiles$Country" "past" "[LCrowMiles$Doings;") ∈ zW := tg_i (tl_1 (List.mem_of_getElem? (i := 96) rfl)) rfl
theorem tw_1_97 : (Jvm.Cond.fieldLink "CrowMiles$Country" (60 : Nat) "CrowMiles$Country" "pasts" "I") ∈ zW := tg_i (tl_1 (List.mem_of_getElem? (i := 97) rfl)) rfl
theorem tw_1_98 : (Jvm.Cond.fieldLink "CrowMiles" (142 : Nat) "CrowMiles$Country" "pasts" "I") ∈ zW := tg_i (tl_1 (List.mem_of_getElem? (i := 98) rfl)) rfl
theorem tw_1_99 : (Jvm.Cond.fieldLink "CrowMiles$Country" (40 : Nat) "CrowMiles$Country" "notes" "LCrowMiles$Sightings;") ∈ zW := tg_i (tl_1 (List.mem_of_getElem? (i := 99) rfl)) rfl
theorem tw_1_100 : (Jvm.Cond.fieldLink "CrowMiles" (202 : Nat) "CrowMiles$Country" "notes" "LCrowMiles$Sightings;") ∈ zW := tg_i (tl_1 (List.mem_of_getElem? (i := 100) rfl)) rfl
theorem tw_1_101 : (Jvm.Cond.fieldLink "CrowMiles$Country" (44 : Nat) "CrowMiles$Country" "marks" "LCrowMiles$Sightings;") ∈ zW := tg_i (tl_1 (List.mem_of_getElem? (i := 101) rfl)) rfl
theorem tw_1_102 : (Jvm.Cond.fieldLink "CrowMiles" (215 : Nat) "CrowMiles$Country" "marks" "LCrowMiles$Sightings;") ∈ zW := tg_i (tl_1 (List.mem_of_getElem? (i := 102) rfl)) rfl
theorem tw_1_103 : (Jvm.Cond.laysFinal "CrowMiles$Country" "CrowMiles$Country" "placeKind" "[I") ∈ zW := tg_i (tl_1 (List.mem_of_getElem? (i := 103) rfl)) rfl
theorem tw_1_105 : (Jvm.Cond.laysFinal "CrowMiles$Country" "CrowMiles$Country" "placeX" "[I") ∈ zW := tg_i (tl_1 (List.mem_of_getElem? (i := 105) rfl)) rfl
theorem tw_1_107 : (Jvm.Cond.laysFinal "CrowMiles$Country" "CrowMiles$Country" "placeY" "[I") ∈ zW := tg_i (tl_1 (List.mem_of_getElem? (i := 107) rfl)) rfl
theorem tw_1_109 : (Jvm.Cond.lays "CrowMiles$Country" "CrowMiles$Country" "places" "I") ∈ zW := tg_i (tl_1 (List.mem_of_getElem? (i := 109) rfl)) rfl
theorem tw_1_111 : (Jvm.Cond.laysFinal "CrowMiles$Country" "CrowMiles$Country" "crowKind" "[I") ∈ zW := tg_i (tl_1 (List.mem_of_getElem? (i := 111) rfl)) rfl
theorem tw_1_113 : (Jvm.Cond.lays "CrowMiles$Country" "CrowMiles$Country" "crows" "I") ∈ zW := tg_i (tl_1 (List.mem_of_getElem? (i := 113) rfl)) rfl
theorem tw_1_115 : (Jvm.Cond.laysFinal "CrowMiles$Country" "CrowMiles$Country" "now" "LCrowMiles$Doings;") ∈ zW := tg_i (tl_1 (List.mem_of_getElem? (i := 115) rfl)) rfl
theorem tw_1_117 : (Jvm.Cond.laysFinal "CrowMiles$Country" "CrowMiles$Country" "past" "[LCrowMiles$Doings;") ∈ zW := tg_i (tl_1 (List.mem_of_getElem? (i := 117) rfl)) rfl
theorem tw_1_119 : (Jvm.Cond.lays "CrowMiles$Country" "CrowMiles$Country" "pasts" "I") ∈ zW := tg_i (tl_1 (List.mem_of_getElem? (i := 119) rfl)) rfl
theorem tw_1_121 : (Jvm.Cond.laysFinal "CrowMiles$Country" "CrowMiles$Country" "notes" "LCrowMiles$Sightings;") ∈ zW := tg_i (tl_1 (List.mem_of_getElem? (i := 121) rfl)) rfl
theorem tw_1_123 : (Jvm.Cond.laysFinal "CrowMiles$Country" "CrowMiles$Country" "marks" "LCrowMiles$Sightings;") ∈ zW := tg_i (tl_1 (List.mem_of_getElem? (i := 123) rfl)) rfl
theorem tw_1_125 : (Jvm.Cond.superclass "CrowMiles$Country" "java/lang/Object") ∈ zW := tg_i (tl_1 (List.mem_of_getElem? (i := 125) rfl)) rfl
theorem tw_1_126 : (Jvm.Cond.arrayOver (Jvm.ClassFile.FieldType.object "CrowMiles$Country")) ∈ lw_tbl := tl_1 (List.mem_of_getElem? (i := 126) rfl)
theorem tw_1_127 : (Jvm.Cond.classLink "CrowMiles" (32 : Nat) "CrowMiles$Roads") ∈ zW := tg_i (tl_1 (List.mem_of_getElem? (i := 127) rfl)) rfl
theorem tw_1_128 : (Jvm.Cond.instantiable "CrowMiles$Roads" (6 : Nat)) ∈ zW := tg_i (tl_1 (List.mem_of_getElem? (i := 128) rfl)) rfl
theorem tw_1_129 : (Jvm.Cond.methodLinkNest "CrowMiles" (34 : Nat) ({ cls := "CrowMiles$Roads", name := "<init>", desc := "()V" } : Jvm.MethodName) "CrowMiles") ∈ lw_tbl := tl_1 (List.mem_of_getElem? (i := 129) rfl)
theorem tw_1_130 : (Jvm.Cond.instanceMethod ({ cls := "CrowMiles$Roads", name := "<init>", desc := "()V" } : Jvm.MethodName)) ∈ zW := tg_i (tl_1 (List.mem_of_getElem? (i := 130) rfl)) rfl
theorem tw_1_131 : (Jvm.Cond.code ({ cls := "CrowMiles$Roads", name := "<init>", desc := "()V" } : Jvm.MethodName) prog_7_method_1_code (1 : Nat) (Option.none : Option Jvm.ClassFile.FieldType)) ∈ zW := tg_i (tl_1 (List.mem_of_getElem? (i := 131) rfl)) rfl
theorem tw_1_132 : (Jvm.Cond.methodLink "CrowMiles$Roads" (3 : Nat) ({ cls := "java/lang/Object", name := "<init>", desc := "()V" } : Jvm.MethodName)) ∈ zW := tg_i (tl_1 (List.mem_of_getElem? (i := 132) rfl)) rfl
theorem tw_1_133 : (Jvm.Cond.fieldLink "CrowMiles$Roads" (9 : Nat) "CrowMiles$Roads" "far" "[I") ∈ zW := tg_i (tl_1 (List.mem_of_getElem? (i := 133) rfl)) rfl
theorem tw_1_134 : (Jvm.Cond.fieldLink "CrowMiles$Roads" (15 : Nat) "CrowMiles$Roads" "toEnd" "[I") ∈ zW := tg_i (tl_1 (List.mem_of_getElem? (i := 134) rfl)) rfl
theorem tw_1_135 : (Jvm.Cond.fieldLink "CrowMiles$Roads" (18 : Nat) "CrowMiles$Roads" "toHome" "[I") ∈ zW := tg_i (tl_1 (List.mem_of_getElem? (i := 135) rfl)) rfl
theorem tw_1_136 : (Jvm.Cond.fieldLink "CrowMiles$Roads" (21 : Nat) "CrowMiles$Roads" "found" "[I") ∈ zW := tg_i (tl_1 (List.mem_of_getElem? (i := 136) rfl)) rfl
theorem tw_1_137 : (Jvm.Cond.fieldLink "CrowMiles$Roads" (31 : Nat) "CrowMiles$Roads" "foundCount" "I") ∈ zW := tg_i (tl_1 (List.mem_of_getElem? (i := 137) rfl)) rfl
theorem tw_1_138 : (Jvm.Cond.fieldLink "CrowMiles$Roads" (30 : Nat) "CrowMiles$Roads" "places" "I") ∈ zW := tg_i (tl_1 (List.mem_of_getElem? (i := 138) rfl)) rfl
theorem tw_1_139 : (Jvm.Cond.laysFinal "CrowMiles$Roads" "CrowMiles$Roads" "far" "[I") ∈ zW := tg_i (tl_1 (List.mem_of_getElem? (i := 139) rfl)) rfl
theorem tw_1_141 : (Jvm.Cond.laysFinal "CrowMiles$Roads" "CrowMiles$Roads" "toEnd" "[I") ∈ zW := tg_i (tl_1 (List.mem_of_getElem? (i := 141) rfl)) rfl
theorem tw_1_143 : (Jvm.Cond.laysFinal "CrowMiles$Roads" "CrowMiles$Roads" "toHome" "[I") ∈ zW := tg_i (tl_1 (List.mem_of_getElem? (i := 143) rfl)) rfl
theorem tw_1_145 : (Jvm.Cond.laysFinal "CrowMiles$Roads" "CrowMiles$Roads" "found" "[I") ∈ zW := tg_i (tl_1 (List.mem_of_getElem? (i := 145) rfl)) rfl
theorem tw_1_147 : (Jvm.Cond.lays "CrowMiles$Roads" "CrowMiles$Roads" "foundCount" "I") ∈ zW := tg_i (tl_1 (List.mem_of_getElem? (i := 147) rfl)) rfl
theorem tw_1_149 : (Jvm.Cond.lays "CrowMiles$Roads" "CrowMiles$Roads" "places" "I") ∈ zW := tg_i (tl_1 (List.mem_of_getElem? (i := 149) rfl)) rfl
theorem tw_1_151 : (Jvm.Cond.superclass "CrowMiles$Roads" "java/lang/Object") ∈ zW := tg_i (tl_1 (List.mem_of_getElem? (i := 151) rfl)) rfl
theorem tw_1_152 : (Jvm.Cond.arrayClass Jvm.ClassFile.FieldType.boolean) ∈ zW := tg_i (tl_1 (List.mem_of_getElem? (i := 152) rfl)) rfl
theorem tw_1_153 : (Jvm.Cond.arrayClass Jvm.ClassFile.FieldType.byte) ∈ zW := tg_i (tl_1 (List.mem_of_getElem? (i := 153) rfl)) rfl
theorem tw_1_154 : (Jvm.Cond.classLink "CrowMiles" (39 : Nat) "CrowMiles$Reader") ∈ zW := tg_i (tl_1 (List.mem_of_getElem? (i := 154) rfl)) rfl
theorem tw_1_155 : (Jvm.Cond.instantiable "CrowMiles$Reader" (7 : Nat)) ∈ zW := tg_i (tl_1 (List.mem_of_getElem? (i := 155) rfl)) rfl
theorem tw_1_156 : (Jvm.Cond.methodLinkNest "CrowMiles" (41 : Nat) ({ cls := "CrowMiles$Reader", name := "<init>", desc := "()V" } : Jvm.MethodName) "CrowMiles") ∈ lw_tbl := tl_1 (List.mem_of_getElem? (i := 156) rfl)
theorem tw_1_157 : (Jvm.Cond.instanceMethod ({ cls := "CrowMiles$Reader", name := "<init>", desc := "()V" } : Jvm.MethodName)) ∈ zW := tg_i (tl_1 (List.mem_of_getElem? (i := 157) rfl)) rfl
theorem tw_1_158 : (Jvm.Cond.code ({ cls := "CrowMiles$Reader", name := "<init>", desc := "()V" } : Jvm.MethodName) prog_6_method_1_code (1 : Nat) (Option.none : Option Jvm.ClassFile.FieldType)) ∈ zW := tg_i (tl_1 (List.mem_of_getElem? (i := 158) rfl)) rfl
theorem tw_1_159 : (Jvm.Cond.methodLink "CrowMiles$Reader" (3 : Nat) ({ cls := "java/lang/Object", name := "<init>", desc := "()V" } : Jvm.MethodName)) ∈ zW := tg_i (tl_1 (List.mem_of_getElem? (i := 159) rfl)) rfl
theorem tw_1_160 : (Jvm.Cond.classLink "CrowMiles$Reader" (9 : Nat) "CrowMiles$Country") ∈ zW := tg_i (tl_1 (List.mem_of_getElem? (i := 160) rfl)) rfl
theorem tw_1_161 : (Jvm.Cond.methodLink "CrowMiles$Reader" (11 : Nat) ({ cls := "CrowMiles$Country", name := "<init>", desc := "()V" } : Jvm.MethodName)) ∈ zW := tg_i (tl_1 (List.mem_of_getElem? (i := 161) rfl)) rfl
theorem tw_1_162 : (Jvm.Cond.fieldLink "CrowMiles$Reader" (12 : Nat) "CrowMiles$Reader" "draft" "LCrowMiles$Country;") ∈ zW := tg_i (tl_1 (List.mem_of_getElem? (i := 162) rfl)) rfl
theorem tw_1_163 : (Jvm.Cond.fieldLink "CrowMiles" (102 : Nat) "CrowMiles$Reader" "draft" "LCrowMiles$Country;") ∈ zW := tg_i (tl_1 (List.mem_of_getElem? (i := 163) rfl)) rfl
theorem tw_1_164 : (Jvm.Cond.fieldLink "CrowMiles$Reader" (18 : Nat) "CrowMiles$Reader" "bytes" "[B") ∈ zW := tg_i (tl_1 (List.mem_of_getElem? (i := 164) rfl)) rfl
theorem tw_1_165 : (Jvm.Cond.fieldLink "CrowMiles$Reader" (28 : Nat) "CrowMiles$Reader" "length" "I") ∈ zW := tg_i (tl_1 (List.mem_of_getElem? (i := 165) rfl)) rfl
theorem tw_1_166 : (Jvm.Cond.fieldLink "CrowMiles$Reader" (32 : Nat) "CrowMiles$Reader" "next" "I") ∈ zW := tg_i (tl_1 (List.mem_of_getElem? (i := 166) rfl)) rfl
theorem tw_1_167 : (Jvm.Cond.fieldLink "CrowMiles$Reader" (41 : Nat) "CrowMiles$Reader" "token" "I") ∈ zW := tg_i (tl_1 (List.mem_of_getElem? (i := 167) rfl)) rfl
theorem tw_1_168 : (Jvm.Cond.fieldLink "CrowMiles$Reader" (48 : Nat) "CrowMiles$Reader" "start" "I") ∈ zW := tg_i (tl_1 (List.mem_of_getElem? (i := 168) rfl)) rfl
theorem tw_1_169 : (Jvm.Cond.fieldLink "CrowMiles$Reader" (93 : Nat) "CrowMiles$Reader" "value" "I") ∈ zW := tg_i (tl_1 (List.mem_of_getElem? (i := 169) rfl)) rfl
theorem tw_1_170 : (Jvm.Cond.laysFinal "CrowMiles$Reader" "CrowMiles$Reader" "draft" "LCrowMiles$Country;") ∈ zW := tg_i (tl_1 (List.mem_of_getElem? (i := 170) rfl)) rfl
theorem tw_1_172 : (Jvm.Cond.lays "CrowMiles$Reader" "CrowMiles$Reader" "bytes" "[B") ∈ zW := tg_i (tl_1 (List.mem_of_getElem? (i := 172) rfl)) rfl
theorem tw_1_174 : (Jvm.Cond.lays "CrowMiles$Reader" "CrowMiles$Reader" "length" "I") ∈ zW := tg_i (tl_1 (List.mem_of_getElem? (i := 174) rfl)) rfl
theorem tw_1_176 : (Jvm.Cond.lays "CrowMiles$Reader" "CrowMiles$Reader" "next" "I") ∈ zW := tg_i (tl_1 (List.mem_of_getElem? (i := 176) rfl)) rfl
theorem tw_1_178 : (Jvm.Cond.lays "CrowMiles$Reader" "CrowMiles$Reader" "token" "I") ∈ zW := tg_i (tl_1 (List.mem_of_getElem? (i := 178) rfl)) rfl
theorem tw_1_180 : (Jvm.Cond.lays "CrowMiles$Reader" "CrowMiles$Reader" "start" "I") ∈ zW := tg_i (tl_1 (List.mem_of_getElem? (i := 180) rfl)) rfl
theorem tw_1_182 : (Jvm.Cond.lays "CrowMiles$Reader" "CrowMiles$Reader" "value" "I") ∈ zW := tg_i (tl_1 (List.mem_of_getElem? (i := 182) rfl)) rfl
theorem tw_1_184 : (Jvm.Cond.superclass "CrowMiles$Reader" "java/lang/Object") ∈ zW := tg_i (tl_1 (List.mem_of_getElem? (i := 184) rfl)) rfl
theorem tw_1_185 : (Jvm.Cond.classLink "CrowMiles" (46 : Nat) "CrowMiles$Doings") ∈ zW := tg_i (tl_1 (List.mem_of_getElem? (i := 185) rfl)) rfl
theorem tw_1_186 : (Jvm.Cond.methodLinkNest "CrowMiles" (48 : Nat) ({ cls := "CrowMiles$Doings", name := "<init>", desc := "()V" } : Jvm.MethodName) "CrowMiles") ∈ lw_tbl := tl_1 (List.mem_of_getElem? (i := 186) rfl)
theorem tw_1_187 : (Jvm.Cond.classLink "CrowMiles" (53 : Nat) "CrowMiles$Questions") ∈ zW := tg_i (tl_1 (List.mem_of_getElem? (i := 187) rfl)) rfl
theorem tw_1_188 : (Jvm.Cond.instantiable "CrowMiles$Questions" (1 : Nat)) ∈ zW := tg_i (tl_1 (List.mem_of_getElem? (i := 188) rfl)) rfl
theorem tw_1_189 : (Jvm.Cond.methodLinkNest "CrowMiles" (55 : Nat) ({ cls := "CrowMiles$Questions", name := "<init>", desc := "()V" } : Jvm.MethodName) "CrowMiles") ∈ lw_tbl := tl_1 (List.mem_of_getElem? (i := 189) rfl)
theorem tw_1_190 : (Jvm.Cond.instanceMethod ({ cls := "CrowMiles$Questions", name := "<init>", desc := "()V" } : Jvm.MethodName)) ∈ zW := tg_i (tl_1 (List.mem_of_getElem? (i := 190) rfl)) rfl
theorem tw_1_191 : (Jvm.Cond.code ({ cls := "CrowMiles$Questions", name := "<init>", desc := "()V" } : Jvm.MethodName) prog_5_method_1_code (1 : Nat) (Option.none : Option Jvm.ClassFile.FieldType)) ∈ zW := tg_i (tl_1 (List.mem_of_getElem? (i := 191) rfl)) rfl
theorem tw_1_192 : (Jvm.Cond.methodLink "CrowMiles$Questions" (3 : Nat) ({ cls := "java/lang/Object", name := "<init>", desc := "()V" } : Jvm.MethodName)) ∈ zW := tg_i (tl_1 (List.mem_of_getElem? (i := 192) rfl)) rfl
theorem tw_1_193 : (Jvm.Cond.fieldLink "CrowMiles$Questions" (9 : Nat) "CrowMiles$Questions" "values" "[I") ∈ zW := tg_i (tl_1 (List.mem_of_getElem? (i := 193) rfl)) rfl
theorem tw_1_194 : (Jvm.Cond.laysFinal "CrowMiles$Questions" "CrowMiles$Questions" "values" "[I") ∈ zW := tg_i (tl_1 (List.mem_of_getElem? (i := 194) rfl)) rfl
theorem tw_1_196 : (Jvm.Cond.superclass "CrowMiles$Questions" "java/lang/Object") ∈ zW := tg_i (tl_1 (List.mem_of_getElem? (i := 196) rfl)) rfl
theorem tw_1_197 : (Jvm.Cond.fieldLink "CrowMiles" (10 : Nat) "CrowMiles" "land" "LCrowMiles$Country;") ∈ zW := tg_i (tl_1 (List.mem_of_getElem? (i := 197) rfl)) rfl
theorem tw_1_198 : (Jvm.Cond.fieldLink "CrowMiles" (16 : Nat) "CrowMiles" "images" "[LCrowMiles$Country;") ∈ zW := tg_i (tl_1 (List.mem_of_getElem? (i := 198) rfl)) rfl
theorem tw_1_199 : (Jvm.Cond.fieldLink "CrowMiles" (20 : Nat) "CrowMiles" "kept" "[Z") ∈ zW := tg_i (tl_1 (List.mem_of_getElem? (i := 199) rfl)) rfl
theorem tw_1_200 : (Jvm.Cond.fieldLink "CrowMiles" (24 : Nat) "CrowMiles" "text" "[B") ∈ zW := tg_i (tl_1 (List.mem_of_getElem? (i := 200) rfl)) rfl
theorem tw_1_201 : (Jvm.Cond.fieldLink "CrowMiles" (95 : Nat) "CrowMiles" "textLength" "I") ∈ zW := tg_i (tl_1 (List.mem_of_getElem? (i := 201) rfl)) rfl
theorem tw_1_202 : (Jvm.Cond.fieldLink "CrowMiles" (259 : Nat) "CrowMiles" "above" "I") ∈ zW := tg_i (tl_1 (List.mem_of_getElem? (i := 202) rfl)) rfl
theorem tw_1_203 : (Jvm.Cond.fieldLink "CrowMiles" (28 : Nat) "CrowMiles" "below" "I") ∈ zW := tg_i (tl_1 (List.mem_of_getElem? (i := 203) rfl)) rfl
theorem tw_1_204 : (Jvm.Cond.fieldLink "CrowMiles" (262 : Nat) "CrowMiles" "bads" "I") ∈ zW := tg_i (tl_1 (List.mem_of_getElem? (i := 204) rfl)) rfl
theorem tw_1_205 : (Jvm.Cond.fieldLink "CrowMiles" (265 : Nat) "CrowMiles" "nos" "I") ∈ zW := tg_i (tl_1 (List.mem_of_getElem? (i := 205) rfl)) rfl
theorem tw_1_206 : (Jvm.Cond.fieldLink "CrowMiles" (268 : Nat) "CrowMiles" "fulls" "I") ∈ zW := tg_i (tl_1 (List.mem_of_getElem? (i := 206) rfl)) rfl
theorem tw_1_207 : (Jvm.Cond.fieldLink "CrowMiles" (35 : Nat) "CrowMiles" "roads" "LCrowMiles$Roads;") ∈ zW := tg_i (tl_1 (List.mem_of_getElem? (i := 207) rfl)) rfl
theorem tw_1_208 : (Jvm.Cond.fieldLink "CrowMiles" (42 : Nat) "CrowMiles" "reader" "LCrowMiles$Reader;") ∈ zW := tg_i (tl_1 (List.mem_of_getElem? (i := 208) rfl)) rfl
theorem tw_1_209 : (Jvm.Cond.fieldLink "CrowMiles" (49 : Nat) "CrowMiles" "traveller" "LCrowMiles$Doings;") ∈ zW := tg_i (tl_1 (List.mem_of_getElem? (i := 209) rfl)) rfl
theorem tw_1_210 : (Jvm.Cond.fieldLink "CrowMiles" (56 : Nat) "CrowMiles" "questions" "LCrowMiles$Questions;") ∈ zW := tg_i (tl_1 (List.mem_of_getElem? (i := 210) rfl)) rfl
theorem tw_1_211 : (Jvm.Cond.laysFinal "CrowMiles" "CrowMiles" "land" "LCrowMiles$Country;") ∈ zW := tg_i (tl_1 (List.mem_of_getElem? (i := 211) rfl)) rfl
theorem tw_1_213 : (Jvm.Cond.laysFinal "CrowMiles" "CrowMiles" "images" "[LCrowMiles$Country;") ∈ zW := tg_i (tl_1 (List.mem_of_getElem? (i := 213) rfl)) rfl
theorem tw_1_215 : (Jvm.Cond.laysFinal "CrowMiles" "CrowMiles" "kept" "[Z") ∈ zW := tg_i (tl_1 (List.mem_of_getElem? (i := 215) rfl)) rfl
theorem tw_1_217 : (Jvm.Cond.laysFinal "CrowMiles" "CrowMiles" "text" "[B") ∈ zW := tg_i (tl_1 (List.mem_of_getElem? (i := 217) rfl)) rfl
theorem tw_1_219 : (Jvm.Cond.lays "CrowMiles" "CrowMiles" "textLength" "I") ∈ zW := tg_i (tl_1 (List.mem_of_getElem? (i := 219) rfl)) rfl
theorem tw_1_221 : (Jvm.Cond.lays "CrowMiles" "CrowMiles" "above" "I") ∈ zW := tg_i (tl_1 (List.mem_of_getElem? (i := 221) rfl)) rfl
theorem tw_1_223 : (Jvm.Cond.lays "CrowMiles" "CrowMiles" "below" "I") ∈ zW := tg_i (tl_1 (List.mem_of_getElem? (i := 223) rfl)) rfl
theorem tw_1_225 : (Jvm.Cond.lays "CrowMiles" "CrowMiles" "bads" "I") ∈ zW := tg_i (tl_1 (List.mem_of_getElem? (i := 225) rfl)) rfl
theorem tw_1_227 : (Jvm.Cond.lays "CrowMiles" "CrowMiles" "nos" "I") ∈ zW := tg_i (tl_1 (List.mem_of_getElem? (i := 227) rfl)) rfl
theorem tw_1_229 : (Jvm.Cond.lays "CrowMiles" "CrowMiles" "fulls" "I") ∈ zW := tg_i (tl_1 (List.mem_of_getElem? (i := 229) rfl)) rfl
theorem tw_1_231 : (Jvm.Cond.laysFinal "CrowMiles" "CrowMiles" "roads" "LCrowMiles$Roads;") ∈ zW := tg_i (tl_1 (List.mem_of_getElem? (i := 231) rfl)) rfl
theorem tw_1_233 : (Jvm.Cond.laysFinal "CrowMiles" "CrowMiles" "reader" "LCrowMiles$Reader;") ∈ zW := tg_i (tl_1 (List.mem_of_getElem? (i := 233) rfl)) rfl
theorem tw_1_235 : (Jvm.Cond.laysFinal "CrowMiles" "CrowMiles" "traveller" "LCrowMiles$Doings;") ∈ zW := tg_i (tl_1 (List.mem_of_getElem? (i := 235) rfl)) rfl
theorem tw_1_237 : (Jvm.Cond.laysFinal "CrowMiles" "CrowMiles" "questions" "LCrowMiles$Questions;") ∈ zW := tg_i (tl_1 (List.mem_of_getElem? (i := 237) rfl)) rfl
theorem tw_1_239 : (Jvm.Cond.superclass "CrowMiles" "java/lang/Object") ∈ zW := tg_i (tl_1 (List.mem_of_getElem? (i := 239) rfl)) rfl
theorem tw_2_0 : (Jvm.Cond.methodLink "CrowMilesLaw" (13 : Nat) ({ cls := "CrowMiles", name := "country", desc := "()I" } : Jvm.MethodName)) ∈ zW := tg_i (tl_2 (List.mem_of_getElem? (i := 0) rfl)) rfl
theorem tw_2_1 : (Jvm.Cond.instanceMethod ({ cls := "CrowMiles", name := "country", desc := "()I" } : Jvm.MethodName)) ∈ zW := tg_i (tl_2 (List.mem_of_getElem? (i := 1) rfl)) rfl
theorem tw_2_2 : (Jvm.Cond.selects "CrowMiles" ({ cls := "CrowMiles", name := "country", desc := "()I" } : Jvm.MethodName) ({ cls := "CrowMiles", name := "country", desc := "()I" } : Jvm.MethodName)) ∈ zW := tg_i (tl_2 (List.mem_of_getElem? (i := 2) rfl)) rfl
theorem tw_2_3 : (Jvm.Cond.code ({ cls := "CrowMiles", name := "country", desc := "()I" } : Jvm.MethodName) prog_1_method_2_code (2 : Nat) (Option.some Jvm.ClassFile.FieldType.int)) ∈ zW := tg_i (tl_2 (List.mem_of_getElem? (i := 3) rfl)) rfl
theorem tw_2_4 : (Jvm.Cond.methodLink "CrowMiles" (63 : Nat) ({ cls := "CrowMiles$Country", name := "empty", desc := "()V" } : Jvm.MethodName)) ∈ zW := tg_i (tl_2 (List.mem_of_getElem? (i := 4) rfl)) rfl
theorem tw_2_5 : (Jvm.Cond.instanceMethod ({ cls := "CrowMiles$Country", name := "empty", desc := "()V" } : Jvm.MethodName)) ∈ zW := tg_i (tl_2 (List.mem_of_getElem? (i := 5) rfl)) rfl
theorem tw_2_6 : (Jvm.Cond.selects "CrowMiles$Country" ({ cls := "CrowMiles$Country", name := "empty", desc := "()V" } : Jvm.MethodName) ({ cls := "CrowMiles$Country", name := "empty", desc := "()V" } : Jvm.MethodName)) ∈ zW := tg_i (tl_2 (List.mem_of_getElem? (i := 6) rfl)) rfl
theorem tw_2_7 : (Jvm.Cond.code ({ cls := "CrowMiles$Country", name := "empty", desc := "()V" } : Jvm.MethodName) prog_2_method_2_code (1 : Nat) (Option.none : Option Jvm.ClassFile.FieldType)) ∈ zW := tg_i (tl_2 (List.mem_of_getElem? (i := 7) rfl)) rfl
theorem tw_2_8 : (Jvm.Cond.methodLink "CrowMilesLaw" (18 : Nat) ({ cls := "CrowMiles", name := "place", desc := "(III)I" } : Jvm.MethodName)) ∈ zW := tg_i (tl_2 (List.mem_of_getElem? (i := 8) rfl)) rfl
theorem tw_2_9 : (Jvm.Cond.instanceMethod ({ cls := "CrowMiles", name := "place", desc := "(III)I" } : Jvm.MethodName)) ∈ zW := tg_i (tl_2 (List.mem_of_getElem? (i := 9) rfl)) rfl
theorem tw_2_10 : (Jvm.Cond.selects "CrowMiles" ({ cls := "CrowMiles", name := "place", desc := "(III)I" } : Jvm.MethodName) ({ cls := "CrowMiles", name := "place", desc := "(III)I" } : Jvm.MethodName)) ∈ zW := tg_i (tl_2 (List.mem_of_getElem? (i := 10) rfl)) rfl
theorem tw_2_11 : (Jvm.Cond.code ({ cls := "CrowMiles", name := "place", desc := "(III)I" } : Jvm.MethodName) prog_1_method_3_code (4 : Nat) (Option.some Jvm.ClassFile.FieldType.int)) ∈ zW := tg_i (tl_2 (List.mem_of_getElem? (i := 11) rfl)) rfl
theorem tw_2_12 : (Jvm.Cond.methodLink "CrowMiles" (66 : Nat) ({ cls := "CrowMiles", name := "isKind", desc := "(I)Z" } : Jvm.MethodName)) ∈ zW := tg_i (tl_2 (List.mem_of_getElem? (i := 12) rfl)) rfl
theorem tw_2_13 : (Jvm.Cond.static ({ cls := "CrowMiles", name := "isKind", desc := "(I)Z" } : Jvm.MethodName)) ∈ zW := tg_i (tl_2 (List.mem_of_getElem? (i := 13) rfl)) rfl
theorem tw_2_14 : (Jvm.Cond.code ({ cls := "CrowMiles", name := "isKind", desc := "(I)Z" } : Jvm.MethodName) prog_1_method_39_code (1 : Nat) (Option.some Jvm.ClassFile.FieldType.boolean)) ∈ zW := tg_i (tl_2 (List.mem_of_getElem? (i := 14) rfl)) rfl
theorem tw_2_15 : (Jvm.Cond.methodLink "CrowMiles" (70 : Nat) ({ cls := "CrowMiles", name := "within", desc := "(III)Z" } : Jvm.MethodName)) ∈ zW := tg_i (tl_2 (List.mem_of_getElem? (i := 15) rfl)) rfl
theorem tw_2_16 : (Jvm.Cond.static ({ cls := "CrowMiles", name := "within", desc := "(III)Z" } : Jvm.MethodName)) ∈ zW := tg_i (tl_2 (List.mem_of_getElem? (i := 16) rfl)) rfl
theorem tw_2_17 : (Jvm.Cond.code ({ cls := "CrowMiles", name := "within", desc := "(III)Z" } : Jvm.MethodName) prog_1_method_38_code (3 : Nat) (Option.some Jvm.ClassFile.FieldType.boolean)) ∈ zW := tg_i (tl_2 (List.mem_of_getElem? (i := 17) rfl)) rfl
theorem tw_2_18 : (Jvm.Cond.methodLink "CrowMiles" (74 : Nat) ({ cls := "CrowMiles", name := "refuseBad", desc := "()I" } : Jvm.MethodName)) ∈ zW := tg_i (tl_2 (List.mem_of_getElem? (i := 18) rfl)) rfl
theorem tw_2_20 : (Jvm.Cond.instanceMethod ({ cls := "CrowMiles", name := "refuseBad", desc := "()I" } : Jvm.MethodName)) ∈ zW := tg_i (tl_2 (List.mem_of_getElem? (i := 20) rfl)) rfl
theorem tw_2_21 : (Jvm.Cond.code ({ cls := "CrowMiles", name := "refuseBad", desc := "()I" } : Jvm.MethodName) prog_1_method_42_code (1 : Nat) (Option.some Jvm.ClassFile.FieldType.int)) ∈ zW := tg_i (tl_2 (List.mem_of_getElem? (i := 21) rfl)) rfl
theorem tw_2_22 : (Jvm.Cond.methodLink "CrowMiles" (78 : Nat) ({ cls := "CrowMiles", name := "refuseFull", desc := "()I" } : Jvm.MethodName)) ∈ zW := tg_i (tl_2 (List.mem_of_getElem? (i := 22) rfl)) rfl
theorem tw_2_24 : (Jvm.Cond.instanceMethod ({ cls := "CrowMiles", name := "refuseFull", desc := "()I" } : Jvm.MethodName)) ∈ zW := tg_i (tl_2 (List.mem_of_getElem? (i := 24) rfl)) rfl
theorem tw_2_25 : (Jvm.Cond.code ({ cls := "CrowMiles", name := "refuseFull", desc := "()I" } : Jvm.MethodName) prog_1_method_45_code (1 : Nat) (Option.some Jvm.ClassFile.FieldType.int)) ∈ zW := tg_i (tl_2 (List.mem_of_getElem? (i := 25) rfl)) rfl
theorem tw_2_26 : (Jvm.Cond.methodLink "CrowMiles" (81 : Nat) ({ cls := "CrowMiles$Country", name := "addPlace", desc := "(III)I" } : Jvm.MethodName)) ∈ zW := tg_i (tl_2 (List.mem_of_getElem? (i := 26) rfl)) rfl
theorem tw_2_27 : (Jvm.Cond.instanceMethod ({ cls := "CrowMiles$Country", name := "addPlace", desc := "(III)I" } : Jvm.MethodName)) ∈ zW := tg_i (tl_2 (List.mem_of_getElem? (i := 27) rfl)) rfl
theorem tw_2_28 : (Jvm.Cond.selects "CrowMiles$Country" ({ cls := "CrowMiles$Country", name := "addPlace", desc := "(III)I" } : Jvm.MethodName) ({ cls := "CrowMiles$Country", name := "addPlace", desc := "(III)I" } : Jvm.MethodName)) ∈ zW := tg_i (tl_2 (List.mem_of_getElem? (i := 28) rfl)) rfl
theorem tw_2_29 : (Jvm.Cond.code ({ cls := "CrowMiles$Country", name := "addPlace", desc := "(III)I" } : Jvm.MethodName) prog_2_method_6_code (4 : Nat) (Option.some Jvm.ClassFile.FieldType.int)) ∈ zW := tg_i (tl_2 (List.mem_of_getElem? (i := 29) rfl)) rfl
theorem tw_2_30 : (Jvm.Cond.methodLink "CrowMilesLaw" (23 : Nat) ({ cls := "CrowMiles", name := "crow", desc := "(II)I" } : Jvm.MethodName)) ∈ zW := tg_i (tl_2 (List.mem_of_getElem? (i := 30) rfl)) rfl
theorem tw_2_31 : (Jvm.Cond.instanceMethod ({ cls := "CrowMiles", name := "crow", desc := "(II)I" } : Jvm.MethodName)) ∈ zW := tg_i (tl_2 (List.mem_of_getElem? (i := 31) rfl)) rfl
theorem tw_2_32 : (Jvm.Cond.selects "CrowMiles" ({ cls := "CrowMiles", name := "crow", desc := "(II)I" } : Jvm.MethodName) ({ cls := "CrowMiles", name := "crow", desc := "(II)I" } : Jvm.MethodName)) ∈ zW := tg_i (tl_2 (List.mem_of_getElem? (i := 32) rfl)) rfl
theorem tw_2_33 : (Jvm.Cond.code ({ cls := "CrowMiles", name := "crow", desc := "(II)I" } : Jvm.MethodName) prog_1_method_4_code (3 : Nat) (Option.some Jvm.ClassFile.FieldType.int)) ∈ zW := tg_i (tl_2 (List.mem_of_getElem? (i := 33) rfl)) rfl
theorem tw_2_34 : (Jvm.Cond.methodLink "CrowMiles" (85 : Nat) ({ cls := "CrowMiles$Country", name := "hasPlace", desc := "(I)Z" } : Jvm.MethodName)) ∈ zW := tg_i (tl_2 (List.mem_of_getElem? (i := 34) rfl)) rfl
theorem tw_2_35 : (Jvm.Cond.instanceMethod ({ cls := "CrowMiles$Country", name := "hasPlace", desc := "(I)Z" } : Jvm.MethodName)) ∈ zW := tg_i (tl_2 (List.mem_of_getElem? (i := 35) rfl)) rfl
theorem tw_2_36 : (Jvm.Cond.selects "CrowMiles$Country" ({ cls := "CrowMiles$Country", name := "hasPlace", desc := "(I)Z" } : Jvm.MethodName) ({ cls := "CrowMiles$Country", name := "hasPlace", desc := "(I)Z" } : Jvm.MethodName)) ∈ zW := tg_i (tl_2 (List.mem_of_getElem? (i := 36) rfl)) rfl
theorem tw_2_37 : (Jvm.Cond.code ({ cls := "CrowMiles$Country", name := "hasPlace", desc := "(I)Z" } : Jvm.MethodName) prog_2_method_4_code (2 : Nat) (Option.some Jvm.ClassFile.FieldType.boolean)) ∈ zW := tg_i (tl_2 (List.mem_of_getElem? (i := 37) rfl)) rfl
theorem tw_2_38 : (Jvm.Cond.methodLink "CrowMiles" (91 : Nat) ({ cls := "CrowMiles$Country", name := "addCrow", desc := "(II)I" } : Jvm.MethodName)) ∈ zW := tg_i (tl_2 (List.mem_of_getElem? (i := 38) rfl)) rfl
theorem tw_2_39 : (Jvm.Cond.instanceMethod ({ cls := "CrowMiles$Country", name := "addCrow", desc := "(II)I" } : Jvm.MethodName)) ∈ zW := tg_i (tl_2 (List.mem_of_getElem? (i := 39) rfl)) rfl
theorem tw_2_40 : (Jvm.Cond.selects "CrowMiles$Country" ({ cls := "CrowMiles$Country", name := "addCrow", desc := "(II)I" } : Jvm.MethodName) ({ cls := "CrowMiles$Country", name := "addCrow", desc := "(II)I" } : Jvm.MethodName)) ∈ zW := tg_i (tl_2 (List.mem_of_getElem? (i := 40) rfl)) rfl
theorem tw_2_41 : (Jvm.Cond.code ({ cls := "CrowMiles$Country", name := "addCrow", desc := "(II)I" } : Jvm.MethodName) prog_2_method_7_code (3 : Nat) (Option.some Jvm.ClassFile.FieldType.int)) ∈ zW := tg_i (tl_2 (List.mem_of_getElem? (i := 41) rfl)) rfl
theorem tw_2_42 : (Jvm.Cond.methodLink "CrowMilesLaw" (28 : Nat) ({ cls := "CrowMiles", name := "type", desc := "(I)I" } : Jvm.MethodName)) ∈ zW := tg_i (tl_2 (List.mem_of_getElem? (i := 42) rfl)) rfl
theorem tw_2_43 : (Jvm.Cond.instanceMethod ({ cls := "CrowMiles", name := "type", desc := "(I)I" } : Jvm.MethodName)) ∈ zW := tg_i (tl_2 (List.mem_of_getElem? (i := 43) rfl)) rfl
theorem tw_2_44 : (Jvm.Cond.selects "CrowMiles" ({ cls := "CrowMiles", name := "type", desc := "(I)I" } : Jvm.MethodName) ({ cls := "CrowMiles", name := "type", desc := "(I)I" } : Jvm.MethodName)) ∈ zW := tg_i (tl_2 (List.mem_of_getElem? (i := 44) rfl)) rfl
theorem tw_2_45 : (Jvm.Cond.code ({ cls := "CrowMiles", name := "type", desc := "(I)I" } : Jvm.MethodName) prog_1_method_5_code (2 : Nat) (Option.some Jvm.ClassFile.FieldType.int)) ∈ zW := tg_i (tl_2 (List.mem_of_getElem? (i := 45) rfl)) rfl
theorem tw_2_46 : (Jvm.Cond.methodLink "CrowMilesLaw" (33 : Nat) ({ cls := "CrowMiles", name := "clear", desc := "()I" } : Jvm.MethodName)) ∈ zW := tg_i (tl_2 (List.mem_of_getElem? (i := 46) rfl)) rfl
theorem tw_2_47 : (Jvm.Cond.instanceMethod ({ cls := "CrowMiles", name := "clear", desc := "()I" } : Jvm.MethodName)) ∈ zW := tg_i (tl_2 (List.mem_of_getElem? (i := 47) rfl)) rfl
theorem tw_2_48 : (Jvm.Cond.selects "CrowMiles" ({ cls := "CrowMiles", name := "clear", desc := "()I" } : Jvm.MethodName) ({ cls := "CrowMiles", name := "clear", desc := "()I" } : Jvm.MethodName)) ∈ zW := tg_i (tl_2 (List.mem_of_getElem? (i := 48) rfl)) rfl
theorem tw_2_49 : (Jvm.Cond.code ({ cls := "CrowMiles", name := "clear", desc := "()I" } : Jvm.MethodName) prog_1_method_6_code (2 : Nat) (Option.some Jvm.ClassFile.FieldType.int)) ∈ zW := tg_i (tl_2 (List.mem_of_getElem? (i := 49) rfl)) rfl
theorem tw_2_50 : (Jvm.Cond.methodLink "CrowMilesLaw" (37 : Nat) ({ cls := "CrowMiles", name := "read", desc := "()I" } : Jvm.MethodName)) ∈ zW := tg_i (tl_2 (List.mem_of_getElem? (i := 50) rfl)) rfl
theorem tw_2_51 : (Jvm.Cond.instanceMethod ({ cls := "CrowMiles", name := "read", desc := "()I" } : Jvm.MethodName)) ∈ zW := tg_i (tl_2 (List.mem_of_getElem? (i := 51) rfl)) rfl
theorem tw_2_52 : (Jvm.Cond.selects "CrowMiles" ({ cls := "CrowMiles", name := "read", desc := "()I" } : Jvm.MethodName) ({ cls := "CrowMiles", name := "read", desc := "()I" } : Jvm.MethodName)) ∈ zW := tg_i (tl_2 (List.mem_of_getElem? (i := 52) rfl)) rfl
theorem tw_2_53 : (Jvm.Cond.code ({ cls := "CrowMiles", name := "read", desc := "()I" } : Jvm.MethodName) prog_1_method_7_code (2 : Nat) (Option.some Jvm.ClassFile.FieldType.int)) ∈ zW := tg_i (tl_2 (List.mem_of_getElem? (i := 53) rfl)) rfl
theorem tw_2_54 : (Jvm.Cond.methodLink "CrowMiles" (98 : Nat) ({ cls := "CrowMiles$Reader", name := "readAll", desc := "([BI)I" } : Jvm.MethodName)) ∈ zW := tg_i (tl_2 (List.mem_of_getElem? (i := 54) rfl)) rfl
theorem tw_2_55 : (Jvm.Cond.instanceMethod ({ cls := "CrowMiles$Reader", name := "readAll", desc := "([BI)I" } : Jvm.MethodName)) ∈ zW := tg_i (tl_2 (List.mem_of_getElem? (i := 55) rfl)) rfl
theorem tw_2_56 : (Jvm.Cond.selects "CrowMiles$Reader" ({ cls := "CrowMiles$Reader", name := "readAll", desc := "([BI)I" } : Jvm.MethodName) ({ cls := "CrowMiles$Reader", name := "readAll", desc := "([BI)I" } : Jvm.MethodName)) ∈ zW := tg_i (tl_2 (List.mem_of_getElem? (i := 56) rfl)) rfl
theorem tw_2_57 : (Jvm.Cond.code ({ cls := "CrowMiles$Reader", name := "readAll", desc := "([BI)I" } : Jvm.MethodName) prog_6_method_2_code (4 : Nat) (Option.some Jvm.ClassFile.FieldType.int)) ∈ zW := tg_i (tl_2 (List.mem_of_getElem? (i := 57) rfl)) rfl
theorem tw_2_58 : (Jvm.Cond.methodLink "CrowMiles$Reader" (22 : Nat) ({ cls := "java/lang/Math", name := "min", desc := "(II)I" } : Jvm.MethodName)) ∈ zW := tg_i (tl_2 (List.mem_of_getElem? (i := 58) rfl)) rfl
theorem tw_2_59 : (Jvm.Cond.static ({ cls := "java/lang/Math", name := "min", desc := "(II)I" } : Jvm.MethodName)) ∈ zW := tg_i (tl_2 (List.mem_of_getElem? (i := 59) rfl)) rfl
theorem tw_2_60 : (Jvm.Cond.code ({ cls := "java/lang/Math", name := "min", desc := "(II)I" } : Jvm.MethodName) prog_11_method_69_code (2 : Nat) (Option.some Jvm.ClassFile.FieldType.int)) ∈ zW := tg_i (tl_2 (List.mem_of_getElem? (i := 60) rfl)) rfl
theorem tw_2_61 : (Jvm.Cond.methodLink "CrowMiles$Reader" (35 : Nat) ({ cls := "CrowMiles$Country", name := "empty", desc := "()V" } : Jvm.MethodName)) ∈ zW := tg_i (tl_2 (List.mem_of_getElem? (i := 61) rfl)) rfl
theorem tw_2_62 : (Jvm.Cond.methodLink "CrowMiles$Reader" (38 : Nat) ({ cls := "CrowMiles$Reader", name := "takeToken", desc := "()V" } : Jvm.MethodName)) ∈ zW := tg_i (tl_2 (List.mem_of_getElem? (i := 62) rfl)) rfl
theorem tw_2_64 : (Jvm.Cond.instanceMethod ({ cls := "CrowMiles$Reader", name := "takeToken", desc := "()V" } : Jvm.MethodName)) ∈ zW := tg_i (tl_2 (List.mem_of_getElem? (i := 64) rfl)) rfl
theorem tw_2_65 : (Jvm.Cond.code ({ cls := "CrowMiles$Reader", name := "takeToken", desc := "()V" } : Jvm.MethodName) prog_6_method_12_code (1 : Nat) (Option.none : Option Jvm.ClassFile.FieldType)) ∈ zW := tg_i (tl_2 (List.mem_of_getElem? (i := 65) rfl)) rfl
theorem tw_2_66 : (Jvm.Cond.methodLink "CrowMiles$Reader" (135 : Nat) ({ cls := "CrowMiles$Reader", name := "isLetter", desc := "(I)Z" } : Jvm.MethodName)) ∈ zW := tg_i (tl_2 (List.mem_of_getElem? (i := 66) rfl)) rfl
theorem tw_2_67 : (Jvm.Cond.static ({ cls := "CrowMiles$Reader", name := "isLetter", desc := "(I)Z" } : Jvm.MethodName)) ∈ zW := tg_i (tl_2 (List.mem_of_getElem? (i := 67) rfl)) rfl
theorem tw_2_68 : (Jvm.Cond.code ({ cls := "CrowMiles$Reader", name := "isLetter", desc := "(I)Z" } : Jvm.MethodName) prog_6_method_15_code (1 : Nat) (Option.some Jvm.ClassFile.FieldType.boolean)) ∈ zW := tg_i (tl_2 (List.mem_of_getElem? (i := 68) rfl)) rfl
theorem tw_2_69 : (Jvm.Cond.methodLink "CrowMiles$Reader" (138 : Nat) ({ cls := "CrowMiles$Reader", name := "takeLetters", desc := "()V" } : Jvm.MethodName)) ∈ zW := tg_i (tl_2 (List.mem_of_getElem? (i := 69) rfl)) rfl
theorem tw_2_71 : (Jvm.Cond.instanceMethod ({ cls := "CrowMiles$Reader", name := "takeLetters", desc := "()V" } : Jvm.MethodName)) ∈ zW := tg_i (tl_2 (List.mem_of_getElem? (i := 71) rfl)) rfl
theorem tw_2_72 : (Jvm.Cond.code ({ cls := "CrowMiles$Reader", name := "takeLetters", desc := "()V" } : Jvm.MethodName) prog_6_method_13_code (1 : Nat) (Option.none : Option Jvm.ClassFile.FieldType)) ∈ zW := tg_i (tl_2 (List.mem_of_getElem? (i := 72) rfl)) rfl
theorem tw_2_73 : (Jvm.Cond.methodLink "CrowMiles$Reader" (141 : Nat) ({ cls := "CrowMiles$Reader", name := "isFigure", desc := "(I)Z" } : Jvm.MethodName)) ∈ zW := tg_i (tl_2 (List.mem_of_getElem? (i := 73) rfl)) rfl
theorem tw_2_74 : (Jvm.Cond.static ({ cls := "CrowMiles$Reader", name := "isFigure", desc := "(I)Z" } : Jvm.MethodName)) ∈ zW := tg_i (tl_2 (List.mem_of_getElem? (i := 74) rfl)) rfl
theorem tw_2_75 : (Jvm.Cond.code ({ cls := "CrowMiles$Reader", name := "isFigure", desc := "(I)Z" } : Jvm.MethodName) prog_6_method_16_code (1 : Nat) (Option.some Jvm.ClassFile.FieldType.boolean)) ∈ zW := tg_i (tl_2 (List.mem_of_getElem? (i := 75) rfl)) rfl
theorem tw_2_76 : (Jvm.Cond.methodLink "CrowMiles$Reader" (144 : Nat) ({ cls := "CrowMiles$Reader", name := "takeFigures", desc := "()V" } : Jvm.MethodName)) ∈ zW := tg_i (tl_2 (List.mem_of_getElem? (i := 76) rfl)) rfl
theorem tw_2_78 : (Jvm.Cond.instanceMethod ({ cls := "CrowMiles$Reader", name := "takeFigures", desc := "()V" } : Jvm.MethodName)) ∈ zW := tg_i (tl_2 (List.mem_of_getElem? (i := 78) rfl)) rfl
theorem tw_2_79 : (Jvm.Cond.code ({ cls := "CrowMiles$Reader", name := "takeFigures", desc := "()V" } : Jvm.MethodName) prog_6_method_14_code (1 : Nat) (Option.none : Option Jvm.ClassFile.FieldType)) ∈ zW := tg_i (tl_2 (List.mem_of_getElem? (i := 79) rfl)) rfl
theorem tw_2_80 : (Jvm.Cond.methodLink "CrowMiles$Reader" (44 : Nat) ({ cls := "CrowMiles$Reader", name := "takeItem", desc := "(I)Z" } : Jvm.MethodName)) ∈ zW := tg_i (tl_2 (List.mem_of_getElem? (i := 80) rfl)) rfl
theorem tw_2_82 : (Jvm.Cond.instanceMethod ({ cls := "CrowMiles$Reader", name := "takeItem", desc := "(I)Z" } : Jvm.MethodName)) ∈ zW := tg_i (tl_2 (List.mem_of_getElem? (i := 82) rfl)) rfl
theorem tw_2_83 : (Jvm.Cond.code ({ cls := "CrowMiles$Reader", name := "takeItem", desc := "(I)Z" } : Jvm.MethodName) prog_6_method_3_code (2 : Nat) (Option.some Jvm.ClassFile.FieldType.boolean)) ∈ zW := tg_i (tl_2 (List.mem_of_getElem? (i := 83) rfl)) rfl
theorem tw_2_84 : (Jvm.Cond.stringRef "CrowMiles$Reader" (51 : Nat) "country") ∈ lw_tbl := tl_2 (List.mem_of_getElem? (i := 84) rfl)
theorem tw_2_85 : (Jvm.Cond.methodLink "CrowMiles$Reader" (53 : Nat) ({ cls := "CrowMiles$Reader", name := "spells", desc := "(Ljava/lang/String;)Z" } : Jvm.MethodName)) ∈ zW := tg_i (tl_2 (List.mem_of_getElem? (i := 85) rfl)) rfl
theorem tw_2_87 : (Jvm.Cond.instanceMethod ({ cls := "CrowMiles$Reader", name := "spells", desc := "(Ljava/lang/String;)Z" } : Jvm.MethodName)) ∈ zW := tg_i (tl_2 (List.mem_of_getElem? (i := 87) rfl)) rfl
theorem tw_2_88 : (Jvm.Cond.code ({ cls := "CrowMiles$Reader", name := "spells", desc := "(Ljava/lang/String;)Z" } : Jvm.MethodName) prog_6_method_11_code (3 : Nat) (Option.some Jvm.ClassFile.FieldType.boolean)) ∈ zW := tg_i (tl_2 (List.mem_of_getElem? (i := 88) rfl)) rfl
theorem tw_2_89 : (Jvm.Cond.methodLink "CrowMiles$Reader" (126 : Nat) ({ cls := "java/lang/String", name := "length", desc := "()I" } : Jvm.MethodName)) ∈ zW := tg_i (tl_2 (List.mem_of_getElem? (i := 89) rfl)) rfl
theorem tw_2_90 : (Jvm.Cond.instanceMethod ({ cls := "java/lang/String", name := "length", desc := "()I" } : Jvm.MethodName)) ∈ zW := tg_i (tl_2 (List.mem_of_getElem? (i := 90) rfl)) rfl
theorem tw_2_91 : (Jvm.Cond.selects "java/lang/String" ({ cls := "java/lang/String", name := "length", desc := "()I" } : Jvm.MethodName) ({ cls := "java/lang/String", name := "length", desc := "()I" } : Jvm.MethodName)) ∈ zW := tg_i (tl_2 (List.mem_of_getElem? (i := 91) rfl)) rfl
theorem tw_2_92 : (Jvm.Cond.code ({ cls := "java/lang/String", name := "length", desc := "()I" } : Jvm.MethodName) prog_12_method_54_code (1 : Nat) (Option.some Jvm.ClassFile.FieldType.int)) ∈ zW := tg_i (tl_2 (List.mem_of_getElem? (i := 92) rfl)) rfl
theorem tw_2_93 : (Jvm.Cond.methodLink "java/lang/String" (335 : Nat) ({ cls := "java/lang/String", name := "coder", desc := "()B" } : Jvm.MethodName)) ∈ zW := tg_i (tl_2 (List.mem_of_getElem? (i := 93) rfl)) rfl
theorem tw_2_94 : (Jvm.Cond.instanceMethod ({ cls := "java/lang/String", name := "coder", desc := "()B" } : Jvm.MethodName)) ∈ zW := tg_i (tl_2 (List.mem_of_getElem? (i := 94) rfl)) rfl
theorem tw_2_95 : (Jvm.Cond.selects "java/lang/String" ({ cls := "java/lang/String", name := "coder", desc := "()B" } : Jvm.MethodName) ({ cls := "java/lang/String", name := "coder", desc := "()B" } : Jvm.MethodName)) ∈ zW := tg_i (tl_2 (List.mem_of_getElem? (i := 95) rfl)) rfl
theorem tw_2_96 : (Jvm.Cond.code ({ cls := "java/lang/String", name := "coder", desc := "()B" } : Jvm.MethodName) prog_12_method_152_code (1 : Nat) (Option.some Jvm.ClassFile.FieldType.byte)) ∈ zW := tg_i (tl_2 (List.mem_of_getElem? (i := 96) rfl)) rfl
theorem tw_2_97 : (Jvm.Cond.fieldLink "java/lang/String" (38 : Nat) "java/lang/String" "COMPACT_STRINGS" "Z") ∈ zW := tg_i (tl_2 (List.mem_of_getElem? (i := 97) rfl)) rfl
theorem tw_2_99 : (Jvm.Cond.methodLink "CrowMiles$Reader" (131 : Nat) ({ cls := "java/lang/String", name := "charAt", desc := "(I)C" } : Jvm.MethodName)) ∈ zW := tg_i (tl_2 (List.mem_of_getElem? (i := 99) rfl)) rfl
theorem tw_2_100 : (Jvm.Cond.instanceMethod ({ cls := "java/lang/String", name := "charAt", desc := "(I)C" } : Jvm.MethodName)) ∈ zW := tg_i (tl_2 (List.mem_of_getElem? (i := 100) rfl)) rfl
theorem tw_2_101 : (Jvm.Cond.selects "java/lang/String" ({ cls := "java/lang/String", name := "charAt", desc := "(I)C" } : Jvm.MethodName) ({ cls := "java/lang/String", name := "charAt", desc := "(I)C" } : Jvm.MethodName)) ∈ zW := tg_i (tl_2 (List.mem_of_getElem? (i := 101) rfl)) rfl
theorem tw_2_102 : (Jvm.Cond.code ({ cls := "java/lang/String", name := "charAt", desc := "(I)C" } : Jvm.MethodName) prog_12_method_56_code (2 : Nat) (Option.some Jvm.ClassFile.FieldType.char)) ∈ zW := tg_i (tl_2 (List.mem_of_getElem? (i := 102) rfl)) rfl
theorem tw_2_103 : (Jvm.Cond.methodLink "java/lang/String" (492 : Nat) ({ cls := "java/lang/String", name := "isLatin1", desc := "()Z" } : Jvm.MethodName)) ∈ zW := tg_i (tl_2 (List.mem_of_getElem? (i := 103) rfl)) rfl
theorem tw_2_104 : (Jvm.Cond.instanceMethod ({ cls := "java/lang/String", name := "isLatin1", desc := "()Z" } : Jvm.MethodName)) ∈ zW := tg_i (tl_2 (List.mem_of_getElem? (i := 104) rfl)) rfl
theorem tw_2_105 : (Jvm.Cond.selects "java/lang/String" ({ cls := "java/lang/String", name := "isLatin1", desc := "()Z" } : Jvm.MethodName) ({ cls := "java/lang/String", name := "isLatin1", desc := "()Z" } : Jvm.MethodName)) ∈ zW := tg_i (tl_2 (List.mem_of_getElem? (i := 105) rfl)) rfl
theorem tw_2_106 : (Jvm.Cond.code ({ cls := "java/lang/String", name := "isLatin1", desc := "()Z" } : Jvm.MethodName) prog_12_method_154_code (1 : Nat) (Option.some Jvm.ClassFile.FieldType.boolean)) ∈ zW := tg_i (tl_2 (List.mem_of_getElem? (i := 106) rfl)) rfl
theorem tw_2_107 : (Jvm.Cond.methodLink "java/lang/String" (495 : Nat) ({ cls := "java/lang/StringLatin1", name := "charAt", desc := "([BI)C" } : Jvm.MethodName)) ∈ zW := tg_i (tl_2 (List.mem_of_getElem? (i := 107) rfl)) rfl
theorem tw_2_108 : (Jvm.Cond.static ({ cls := "java/lang/StringLatin1", name := "charAt", desc := "([BI)C" } : Jvm.MethodName)) ∈ zW := tg_i (tl_2 (List.mem_of_getElem? (i := 108) rfl)) rfl
theorem tw_2_109 : (Jvm.Cond.code ({ cls := "java/lang/StringLatin1", name := "charAt", desc := "([BI)C" } : Jvm.MethodName) prog_13_method_2_code (2 : Nat) (Option.some Jvm.ClassFile.FieldType.char)) ∈ zW := tg_i (tl_2 (List.mem_of_getElem? (i := 109) rfl)) rfl
theorem tw_2_110 : (Jvm.Cond.methodLink "java/lang/StringLatin1" (9 : Nat) ({ cls := "java/lang/String", name := "checkIndex", desc := "(II)V" } : Jvm.MethodName)) ∈ zW := tg_i (tl_2 (List.mem_of_getElem? (i := 110) rfl)) rfl
theorem tw_2_111 : (Jvm.Cond.static ({ cls := "java/lang/String", name := "checkIndex", desc := "(II)V" } : Jvm.MethodName)) ∈ zW := tg_i (tl_2 (List.mem_of_getElem? (i := 111) rfl)) rfl
theorem tw_2_112 : (Jvm.Cond.code ({ cls := "java/lang/String", name := "checkIndex", desc := "(II)V" } : Jvm.MethodName) prog_12_method_155_code (2 : Nat) (Option.none : Option Jvm.ClassFile.FieldType)) ∈ zW := tg_i (tl_2 (List.mem_of_getElem? (i := 112) rfl)) rfl
theorem tw_2_113 : (Jvm.Cond.fieldLink "java/lang/String" (1053 : Nat) "jdk/internal/util/Preconditions" "SIOOBE_FORMATTER" "Ljava/util/function/BiFunction;") ∈ zW := tg_i (tl_2 (List.mem_of_getElem? (i := 113) rfl)) rfl
theorem tw_2_115 : (Jvm.Cond.methodLink "java/lang/String" (1059 : Nat) ({ cls := "jdk/internal/util/Preconditions", name := "checkIndex", desc := "(IILjava/util/function/BiFunction;)I" } : Jvm.MethodName)) ∈ zW := tg_i (tl_2 (List.mem_of_getElem? (i := 115) rfl)) rfl
theorem tw_2_116 : (Jvm.Cond.static ({ cls := "jdk/internal/util/Preconditions", name := "checkIndex", desc := "(IILjava/util/function/BiFunction;)I" } : Jvm.MethodName)) ∈ zW := tg_i (tl_2 (List.mem_of_getElem? (i := 116) rfl)) rfl
theorem tw_2_117 : (Jvm.Cond.code ({ cls := "jdk/internal/util/Preconditions", name := "checkIndex", desc := "(IILjava/util/function/BiFunction;)I" } : Jvm.MethodName) prog_16_method_11_code (3 : Nat) (Option.some Jvm.ClassFile.FieldType.int)) ∈ zW := tg_i (tl_2 (List.mem_of_getElem? (i := 117) rfl)) rfl
theorem tw_2_118 : (Jvm.Cond.methodLink "java/lang/String" (498 : Nat) ({ cls := "java/lang/StringUTF16", name := "charAt", desc := "([BI)C" } : Jvm.MethodName)) ∈ zW := tg_i (tl_2 (List.mem_of_getElem? (i := 118) rfl)) rfl
theorem tw_2_119 : (Jvm.Cond.static ({ cls := "java/lang/StringUTF16", name := "charAt", desc := "([BI)C" } : Jvm.MethodName)) ∈ zW := tg_i (tl_2 (List.mem_of_getElem? (i := 119) rfl)) rfl
theorem tw_2_120 : (Jvm.Cond.code ({ cls := "java/lang/StringUTF16", name := "charAt", desc := "([BI)C" } : Jvm.MethodName) prog_14_method_83_code (2 : Nat) (Option.some Jvm.ClassFile.FieldType.char)) ∈ zW := tg_i (tl_2 (List.mem_of_getElem? (i := 120) rfl)) rfl
theorem tw_2_121 : (Jvm.Cond.methodLink "java/lang/StringUTF16" (67 : Nat) ({ cls := "java/lang/StringUTF16", name := "checkIndex", desc := "(I[B)V" } : Jvm.MethodName)) ∈ zW := tg_i (tl_2 (List.mem_of_getElem? (i := 121) rfl)) rfl
theorem tw_2_122 : (Jvm.Cond.static ({ cls := "java/lang/StringUTF16", name := "checkIndex", desc := "(I[B)V" } : Jvm.MethodName)) ∈ zW := tg_i (tl_2 (List.mem_of_getElem? (i := 122) rfl)) rfl
theorem tw_2_123 : (Jvm.Cond.code ({ cls := "java/lang/StringUTF16", name := "checkIndex", desc := "(I[B)V" } : Jvm.MethodName) prog_14_method_91_code (2 : Nat) (Option.none : Option Jvm.ClassFile.FieldType)) ∈ zW := tg_i (tl_2 (List.mem_of_getElem? (i := 123) rfl)) rfl
theorem tw_2_124 : (Jvm.Cond.methodLink "java/lang/StringUTF16" (48 : Nat) ({ cls := "java/lang/StringUTF16", name := "length", desc := "([B)I" } : Jvm.MethodName)) ∈ zW := tg_i (tl_2 (List.mem_of_getElem? (i := 124) rfl)) rfl
theorem tw_2_125 : (Jvm.Cond.static ({ cls := "java/lang/StringUTF16", name := "length", desc := "([B)I" } : Jvm.MethodName)) ∈ zW := tg_i (tl_2 (List.mem_of_getElem? (i := 125) rfl)) rfl
theorem tw_2_126 : (Jvm.Cond.code ({ cls := "java/lang/StringUTF16", name := "length", desc := "([B)I" } : Jvm.MethodName) prog_14_method_6_code (1 : Nat) (Option.some Jvm.ClassFile.FieldType.int)) ∈ zW := tg_i (tl_2 (List.mem_of_getElem? (i := 126) rfl)) rfl
theorem tw_2_127 : (Jvm.Cond.methodLink "java/lang/StringUTF16" (414 : Nat) ({ cls := "java/lang/String", name := "checkIndex", desc := "(II)V" } : Jvm.MethodName)) ∈ zW := tg_i (tl_2 (List.mem_of_getElem? (i := 127) rfl)) rfl
theorem tw_2_128 : (Jvm.Cond.methodLink "java/lang/StringUTF16" (71 : Nat) ({ cls := "java/lang/StringUTF16", name := "getChar", desc := "([BI)C" } : Jvm.MethodName)) ∈ zW := tg_i (tl_2 (List.mem_of_getElem? (i := 128) rfl)) rfl
theorem tw_2_129 : (Jvm.Cond.static ({ cls := "java/lang/StringUTF16", name := "getChar", desc := "([BI)C" } : Jvm.MethodName)) ∈ zW := tg_i (tl_2 (List.mem_of_getElem? (i := 129) rfl)) rfl
theorem tw_2_130 : (Jvm.Cond.code ({ cls := "java/lang/StringUTF16", name := "getChar", desc := "([BI)C" } : Jvm.MethodName) prog_14_method_5_code (2 : Nat) (Option.some Jvm.ClassFile.FieldType.char)) ∈ zW := tg_i (tl_2 (List.mem_of_getElem? (i := 130) rfl)) rfl
theorem tw_2_131 : (Jvm.Cond.fieldLink "java/lang/StringUTF16" (44 : Nat) "java/lang/StringUTF16" "$assertionsDisabled" "Z") ∈ zW := tg_i (tl_2 (List.mem_of_getElem? (i := 131) rfl)) rfl
theorem tw_2_133 : (Jvm.Cond.fieldLink "java/lang/StringUTF16" (59 : Nat) "java/lang/StringUTF16" "HI_BYTE_SHIFT" "I") ∈ zW := tg_i (tl_2 (List.mem_of_getElem? (i := 133) rfl)) rfl
theorem tw_2_135 : (Jvm.Cond.fieldLink "java/lang/StringUTF16" (63 : Nat) "java/lang/StringUTF16" "LO_BYTE_SHIFT" "I") ∈ zW := tg_i (tl_2 (List.mem_of_getElem? (i := 135) rfl)) rfl
theorem tw_2_137 : (Jvm.Cond.methodLink "CrowMiles$Reader" (57 : Nat) ({ cls := "CrowMiles$Reader", name := "takeStop", desc := "()Z" } : Jvm.MethodName)) ∈ zW := tg_i (tl_2 (List.mem_of_getElem? (i := 137) rfl)) rfl
theorem tw_2_139 : (Jvm.Cond.instanceMethod ({ cls := "CrowMiles$Reader", name := "takeStop", desc := "()Z" } : Jvm.MethodName)) ∈ zW := tg_i (tl_2 (List.mem_of_getElem? (i := 139) rfl)) rfl
theorem tw_2_140 : (Jvm.Cond.code ({ cls := "CrowMiles$Reader", name := "takeStop", desc := "()Z" } : Jvm.MethodName) prog_6_method_9_code (1 : Nat) (Option.some Jvm.ClassFile.FieldType.boolean)) ∈ zW := tg_i (tl_2 (List.mem_of_getElem? (i := 140) rfl)) rfl
theorem tw_2_141 : (Jvm.Cond.stringRef "CrowMiles$Reader" (61 : Nat) "place") ∈ lw_tbl := tl_2 (List.mem_of_getElem? (i := 141) rfl)
theorem tw_2_142 : (Jvm.Cond.methodLink "CrowMiles$Reader" (63 : Nat) ({ cls := "CrowMiles$Reader", name := "takePlace", desc := "()Z" } : Jvm.MethodName)) ∈ zW := tg_i (tl_2 (List.mem_of_getElem? (i := 142) rfl)) rfl
theorem tw_2_144 : (Jvm.Cond.instanceMethod ({ cls := "CrowMiles$Reader", name := "takePlace", desc := "()Z" } : Jvm.MethodName)) ∈ zW := tg_i (tl_2 (List.mem_of_getElem? (i := 144) rfl)) rfl
theorem tw_2_145 : (Jvm.Cond.code ({ cls := "CrowMiles$Reader", name := "takePlace", desc := "()Z" } : Jvm.MethodName) prog_6_method_4_code (3 : Nat) (Option.some Jvm.ClassFile.FieldType.boolean)) ∈ zW := tg_i (tl_2 (List.mem_of_getElem? (i := 145) rfl)) rfl
theorem tw_2_146 : (Jvm.Cond.methodLink "CrowMiles$Reader" (89 : Nat) ({ cls := "CrowMiles$Reader", name := "takeNumber", desc := "(II)Z" } : Jvm.MethodName)) ∈ zW := tg_i (tl_2 (List.mem_of_getElem? (i := 146) rfl)) rfl
theorem tw_2_148 : (Jvm.Cond.instanceMethod ({ cls := "CrowMiles$Reader", name := "takeNumber", desc := "(II)Z" } : Jvm.MethodName)) ∈ zW := tg_i (tl_2 (List.mem_of_getElem? (i := 148) rfl)) rfl
theorem tw_2_149 : (Jvm.Cond.code ({ cls := "CrowMiles$Reader", name := "takeNumber", desc := "(II)Z" } : Jvm.MethodName) prog_6_method_10_code (3 : Nat) (Option.some Jvm.ClassFile.FieldType.boolean)) ∈ zW := tg_i (tl_2 (List.mem_of_getElem? (i := 149) rfl)) rfl
theorem tw_2_150 : (Jvm.Cond.methodLink "CrowMiles$Reader" (96 : Nat) ({ cls := "CrowMiles$Country", name := "addPlace", desc := "(III)I" } : Jvm.MethodName)) ∈ zW := tg_i (tl_2 (List.mem_of_getElem? (i := 150) rfl)) rfl
theorem tw_2_151 : (Jvm.Cond.stringRef "CrowMiles$Reader" (66 : Nat) "crow") ∈ lw_tbl := tl_2 (List.mem_of_getElem? (i := 151) rfl)
theorem tw_2_152 : (Jvm.Cond.methodLink "CrowMiles$Reader" (68 : Nat) ({ cls := "CrowMiles$Reader", name := "takeCrow", desc := "()Z" } : Jvm.MethodName)) ∈ zW := tg_i (tl_2 (List.mem_of_getElem? (i := 152) rfl)) rfl
theorem tw_2_154 : (Jvm.Cond.instanceMethod ({ cls := "CrowMiles$Reader", name := "takeCrow", desc := "()Z" } : Jvm.MethodName)) ∈ zW := tg_i (tl_2 (List.mem_of_getElem? (i := 154) rfl)) rfl
theorem tw_2_155 : (Jvm.Cond.code ({ cls := "CrowMiles$Reader", name := "takeCrow", desc := "()Z" } : Jvm.MethodName) prog_6_method_5_code (2 : Nat) (Option.some Jvm.ClassFile.FieldType.boolean)) ∈ zW := tg_i (tl_2 (List.mem_of_getElem? (i := 155) rfl)) rfl
theorem tw_2_156 : (Jvm.Cond.methodLink "CrowMiles$Reader" (103 : Nat) ({ cls := "CrowMiles$Country", name := "addCrow", desc := "(II)I" } : Jvm.MethodName)) ∈ zW := tg_i (tl_2 (List.mem_of_getElem? (i := 156) rfl)) rfl
theorem tw_2_157 : (Jvm.Cond.stringRef "CrowMiles$Reader" (71 : Nat) "fly") ∈ lw_tbl := tl_2 (List.mem_of_getElem? (i := 157) rfl)
theorem tw_2_158 : (Jvm.Cond.methodLink "CrowMiles$Reader" (73 : Nat) ({ cls := "CrowMiles$Reader", name := "takeFlight", desc := "()Z" } : Jvm.MethodName)) ∈ zW := tg_i (tl_2 (List.mem_of_getElem? (i := 158) rfl)) rfl
theorem tw_2_160 : (Jvm.Cond.instanceMethod ({ cls := "CrowMiles$Reader", name := "takeFlight", desc := "()Z" } : Jvm.MethodName)) ∈ zW := tg_i (tl_2 (List.mem_of_getElem? (i := 160) rfl)) rfl
theorem tw_2_161 : (Jvm.Cond.code ({ cls := "CrowMiles$Reader", name := "takeFlight", desc := "()Z" } : Jvm.MethodName) prog_6_method_6_code (2 : Nat) (Option.some Jvm.ClassFile.FieldType.boolean)) ∈ zW := tg_i (tl_2 (List.mem_of_getElem? (i := 161) rfl)) rfl
theorem tw_2_162 : (Jvm.Cond.methodLink "CrowMiles$Reader" (116 : Nat) ({ cls := "CrowMiles$Country", name := "fly", desc := "(LCrowMiles$Doings;II)I" } : Jvm.MethodName)) ∈ zW := tg_i (tl_2 (List.mem_of_getElem? (i := 162) rfl)) rfl
theorem tw_2_163 : (Jvm.Cond.instanceMethod ({ cls := "CrowMiles$Country", name := "fly", desc := "(LCrowMiles$Doings;II)I" } : Jvm.MethodName)) ∈ zW := tg_i (tl_2 (List.mem_of_getElem? (i := 163) rfl)) rfl
theorem tw_2_164 : (Jvm.Cond.selects "CrowMiles$Country" ({ cls := "CrowMiles$Country", name := "fly", desc := "(LCrowMiles$Doings;II)I" } : Jvm.MethodName) ({ cls := "CrowMiles$Country", name := "fly", desc := "(LCrowMiles$Doings;II)I" } : Jvm.MethodName)) ∈ zW := tg_i (tl_2 (List.mem_of_getElem? (i := 164) rfl)) rfl
theorem tw_2_165 : (Jvm.Cond.code ({ cls := "CrowMiles$Country", name := "fly", desc := "(LCrowMiles$Doings;II)I" } : Jvm.MethodName) prog_2_method_16_code (5 : Nat) (Option.some Jvm.ClassFile.FieldType.int)) ∈ zW := tg_i (tl_2 (List.mem_of_getElem? (i := 165) rfl)) rfl
theorem tw_2_166 : (Jvm.Cond.methodLink "CrowMiles$Country" (108 : Nat) ({ cls := "CrowMiles$Country", name := "farAt", desc := "(IIIII)I" } : Jvm.MethodName)) ∈ zW := tg_i (tl_2 (List.mem_of_getElem? (i := 166) rfl)) rfl
theorem tw_2_167 : (Jvm.Cond.instanceMethod ({ cls := "CrowMiles$Country", name := "farAt", desc := "(IIIII)I" } : Jvm.MethodName)) ∈ zW := tg_i (tl_2 (List.mem_of_getElem? (i := 167) rfl)) rfl
theorem tw_2_168 : (Jvm.Cond.selects "CrowMiles$Country" ({ cls := "CrowMiles$Country", name := "farAt", desc := "(IIIII)I" } : Jvm.MethodName) ({ cls := "CrowMiles$Country", name := "farAt", desc := "(IIIII)I" } : Jvm.MethodName)) ∈ zW := tg_i (tl_2 (List.mem_of_getElem? (i := 168) rfl)) rfl
theorem tw_2_169 : (Jvm.Cond.code ({ cls := "CrowMiles$Country", name := "farAt", desc := "(IIIII)I" } : Jvm.MethodName) prog_2_method_14_code (7 : Nat) (Option.some Jvm.ClassFile.FieldType.int)) ∈ zW := tg_i (tl_2 (List.mem_of_getElem? (i := 169) rfl)) rfl
theorem tw_2_170 : (Jvm.Cond.methodLink "CrowMiles$Country" (94 : Nat) ({ cls := "CrowMiles$Country", name := "line", desc := "(II)I" } : Jvm.MethodName)) ∈ zW := tg_i (tl_2 (List.mem_of_getElem? (i := 170) rfl)) rfl
theorem tw_2_171 : (Jvm.Cond.instanceMethod ({ cls := "CrowMiles$Country", name := "line", desc := "(II)I" } : Jvm.MethodName)) ∈ zW := tg_i (tl_2 (List.mem_of_getElem? (i := 171) rfl)) rfl
theorem tw_2_172 : (Jvm.Cond.selects "CrowMiles$Country" ({ cls := "CrowMiles$Country", name := "line", desc := "(II)I" } : Jvm.MethodName) ({ cls := "CrowMiles$Country", name := "line", desc := "(II)I" } : Jvm.MethodName)) ∈ zW := tg_i (tl_2 (List.mem_of_getElem? (i := 172) rfl)) rfl
theorem tw_2_173 : (Jvm.Cond.code ({ cls := "CrowMiles$Country", name := "line", desc := "(II)I" } : Jvm.MethodName) prog_2_method_13_code (3 : Nat) (Option.some Jvm.ClassFile.FieldType.int)) ∈ zW := tg_i (tl_2 (List.mem_of_getElem? (i := 173) rfl)) rfl
theorem tw_2_174 : (Jvm.Cond.methodLink "CrowMiles$Country" (88 : Nat) ({ cls := "java/lang/Math", name := "abs", desc := "(I)I" } : Jvm.MethodName)) ∈ zW := tg_i (tl_2 (List.mem_of_getElem? (i := 174) rfl)) rfl
theorem tw_2_175 : (Jvm.Cond.static ({ cls := "java/lang/Math", name := "abs", desc := "(I)I" } : Jvm.MethodName)) ∈ zW := tg_i (tl_2 (List.mem_of_getElem? (i := 175) rfl)) rfl
theorem tw_2_176 : (Jvm.Cond.code ({ cls := "java/lang/Math", name := "abs", desc := "(I)I" } : Jvm.MethodName) prog_11_method_59_code (1 : Nat) (Option.some Jvm.ClassFile.FieldType.int)) ∈ zW := tg_i (tl_2 (List.mem_of_getElem? (i := 176) rfl)) rfl
theorem tw_2_177 : (Jvm.Cond.methodLink "CrowMiles$Country" (98 : Nat) ({ cls := "CrowMiles$Kinds", name := "made", desc := "(IIII)I" } : Jvm.MethodName)) ∈ zW := tg_i (tl_2 (List.mem_of_getElem? (i := 177) rfl)) rfl
theorem tw_2_178 : (Jvm.Cond.static ({ cls := "CrowMiles$Kinds", name := "made", desc := "(IIII)I" } : Jvm.MethodName)) ∈ zW := tg_i (tl_2 (List.mem_of_getElem? (i := 178) rfl)) rfl
theorem tw_2_179 : (Jvm.Cond.code ({ cls := "CrowMiles$Kinds", name := "made", desc := "(IIII)I" } : Jvm.MethodName) prog_4_method_2_code (7 : Nat) (Option.some Jvm.ClassFile.FieldType.int)) ∈ zW := tg_i (tl_2 (List.mem_of_getElem? (i := 179) rfl)) rfl
theorem tw_2_180 : (Jvm.Cond.methodLink "CrowMiles$Country" (104 : Nat) ({ cls := "CrowMiles$Kinds", name := "reach", desc := "(III)I" } : Jvm.MethodName)) ∈ zW := tg_i (tl_2 (List.mem_of_getElem? (i := 180) rfl)) rfl
theorem tw_2_181 : (Jvm.Cond.static ({ cls := "CrowMiles$Kinds", name := "reach", desc := "(III)I" } : Jvm.MethodName)) ∈ zW := tg_i (tl_2 (List.mem_of_getElem? (i := 181) rfl)) rfl
theorem tw_2_182 : (Jvm.Cond.code ({ cls := "CrowMiles$Kinds", name := "reach", desc := "(III)I" } : Jvm.MethodName) prog_4_method_3_code (6 : Nat) (Option.some Jvm.ClassFile.FieldType.int)) ∈ zW := tg_i (tl_2 (List.mem_of_getElem? (i := 182) rfl)) rfl
theorem tw_2_183 : (Jvm.Cond.methodLink "CrowMiles$Country" (112 : Nat) ({ cls := "CrowMiles$Doings", name := "move", desc := "(III)V" } : Jvm.MethodName)) ∈ zW := tg_i (tl_2 (List.mem_of_getElem? (i := 183) rfl)) rfl
theorem tw_2_184 : (Jvm.Cond.instanceMethod ({ cls := "CrowMiles$Doings", name := "move", desc := "(III)V" } : Jvm.MethodName)) ∈ zW := tg_i (tl_2 (List.mem_of_getElem? (i := 184) rfl)) rfl
theorem tw_2_185 : (Jvm.Cond.selects "CrowMiles$Doings" ({ cls := "CrowMiles$Doings", name := "move", desc := "(III)V" } : Jvm.MethodName) ({ cls := "CrowMiles$Doings", name := "move", desc := "(III)V" } : Jvm.MethodName)) ∈ zW := tg_i (tl_2 (List.mem_of_getElem? (i := 185) rfl)) rfl
theorem tw_2_186 : (Jvm.Cond.code ({ cls := "CrowMiles$Doings", name := "move", desc := "(III)V" } : Jvm.MethodName) prog_3_method_3_code (5 : Nat) (Option.none : Option Jvm.ClassFile.FieldType)) ∈ zW := tg_i (tl_2 (List.mem_of_getElem? (i := 186) rfl)) rfl
theorem tw_2_187 : (Jvm.Cond.methodLink "CrowMiles$Doings" (21 : Nat) ({ cls := "java/lang/System", name := "arraycopy", desc := "(Ljava/lang/Object;ILjava/lang/Object;II)V" } : Jvm.MethodName)) ∈ zW := tg_i (tl_2 (List.mem_of_getElem? (i := 187) rfl)) rfl
theorem tw_2_188 : (Jvm.Cond.static ({ cls := "java/lang/System", name := "arraycopy", desc := "(Ljava/lang/Object;ILjava/lang/Object;II)V" } : Jvm.MethodName)) ∈ zW := tg_i (tl_2 (List.mem_of_getElem? (i := 188) rfl)) rfl
theorem tw_2_189 : (Jvm.Cond.native ({ cls := "java/lang/System", name := "arraycopy", desc := "(Ljava/lang/Object;ILjava/lang/Object;II)V" } : Jvm.MethodName)) ∈ zW := tg_i (tl_2 (List.mem_of_getElem? (i := 189) rfl)) rfl
theorem tw_2_190 : (Jvm.Cond.methodLink "CrowMiles$Doings" (34 : Nat) ({ cls := "java/lang/Math", name := "min", desc := "(II)I" } : Jvm.MethodName)) ∈ zW := tg_i (tl_2 (List.mem_of_getElem? (i := 190) rfl)) rfl
theorem tw_2_191 : (Jvm.Cond.stringRef "CrowMiles$Reader" (76 : Nat) "rest") ∈ lw_tbl := tl_2 (List.mem_of_getElem? (i := 191) rfl)
theorem tw_2_192 : (Jvm.Cond.methodLink "CrowMiles$Reader" (78 : Nat) ({ cls := "CrowMiles$Reader", name := "takeRest", desc := "()Z" } : Jvm.MethodName)) ∈ zW := tg_i (tl_2 (List.mem_of_getElem? (i := 192) rfl)) rfl
theorem tw_2_194 : (Jvm.Cond.instanceMethod ({ cls := "CrowMiles$Reader", name := "takeRest", desc := "()Z" } : Jvm.MethodName)) ∈ zW := tg_i (tl_2 (List.mem_of_getElem? (i := 194) rfl)) rfl
theorem tw_2_195 : (Jvm.Cond.code ({ cls := "CrowMiles$Reader", name := "takeRest", desc := "()Z" } : Jvm.MethodName) prog_6_method_7_code (1 : Nat) (Option.some Jvm.ClassFile.FieldType.boolean)) ∈ zW := tg_i (tl_2 (List.mem_of_getElem? (i := 195) rfl)) rfl
theorem tw_2_196 : (Jvm.Cond.methodLink "CrowMiles$Reader" (119 : Nat) ({ cls := "CrowMiles$Doings", name := "sleep", desc := "(I)V" } : Jvm.MethodName)) ∈ zW := tg_i (tl_2 (List.mem_of_getElem? (i := 196) rfl)) rfl
theorem tw_2_197 : (Jvm.Cond.instanceMethod ({ cls := "CrowMiles$Doings", name := "sleep", desc := "(I)V" } : Jvm.MethodName)) ∈ zW := tg_i (tl_2 (List.mem_of_getElem? (i := 197) rfl)) rfl
theorem tw_2_198 : (Jvm.Cond.selects "CrowMiles$Doings" ({ cls := "CrowMiles$Doings", name := "sleep", desc := "(I)V" } : Jvm.MethodName) ({ cls := "CrowMiles$Doings", name := "sleep", desc := "(I)V" } : Jvm.MethodName)) ∈ zW := tg_i (tl_2 (List.mem_of_getElem? (i := 198) rfl)) rfl
theorem tw_2_199 : (Jvm.Cond.code ({ cls := "CrowMiles$Doings", name := "sleep", desc := "(I)V" } : Jvm.MethodName) prog_3_method_4_code (2 : Nat) (Option.none : Option Jvm.ClassFile.FieldType)) ∈ zW := tg_i (tl_2 (List.mem_of_getElem? (i := 199) rfl)) rfl
theorem tw_2_200 : (Jvm.Cond.stringRef "CrowMiles$Reader" (81 : Nat) "hours") ∈ lw_tbl := tl_2 (List.mem_of_getElem? (i := 200) rfl)
theorem tw_2_201 : (Jvm.Cond.methodLink "CrowMiles$Reader" (83 : Nat) ({ cls := "CrowMiles$Reader", name := "takeHours", desc := "()Z" } : Jvm.MethodName)) ∈ zW := tg_i (tl_2 (List.mem_of_getElem? (i := 201) rfl)) rfl
theorem tw_2_203 : (Jvm.Cond.instanceMethod ({ cls := "CrowMiles$Reader", name := "takeHours", desc := "()Z" } : Jvm.MethodName)) ∈ zW := tg_i (tl_2 (List.mem_of_getElem? (i := 203) rfl)) rfl
theorem tw_2_204 : (Jvm.Cond.code ({ cls := "CrowMiles$Reader", name := "takeHours", desc := "()Z" } : Jvm.MethodName) prog_6_method_8_code (1 : Nat) (Option.some Jvm.ClassFile.FieldType.boolean)) ∈ zW := tg_i (tl_2 (List.mem_of_getElem? (i := 204) rfl)) rfl
theorem tw_2_205 : (Jvm.Cond.methodLink "CrowMiles" (105 : Nat) ({ cls := "CrowMiles$Country", name := "become", desc := "(LCrowMiles$Country;)V" } : Jvm.MethodName)) ∈ zW := tg_i (tl_2 (List.mem_of_getElem? (i := 205) rfl)) rfl
theorem tw_2_206 : (Jvm.Cond.instanceMethod ({ cls := "CrowMiles$Country", name := "become", desc := "(LCrowMiles$Country;)V" } : Jvm.MethodName)) ∈ zW := tg_i (tl_2 (List.mem_of_getElem? (i := 206) rfl)) rfl
theorem tw_2_207 : (Jvm.Cond.selects "CrowMiles$Country" ({ cls := "CrowMiles$Country", name := "become", desc := "(LCrowMiles$Country;)V" } : Jvm.MethodName) ({ cls := "CrowMiles$Country", name := "become", desc := "(LCrowMiles$Country;)V" } : Jvm.MethodName)) ∈ zW := tg_i (tl_2 (List.mem_of_getElem? (i := 207) rfl)) rfl
theorem tw_2_208 : (Jvm.Cond.code ({ cls := "CrowMiles$Country", name := "become", desc := "(LCrowMiles$Country;)V" } : Jvm.MethodName) prog_2_method_3_code (3 : Nat) (Option.none : Option Jvm.ClassFile.FieldType)) ∈ zW := tg_i (tl_2 (List.mem_of_getElem? (i := 208) rfl)) rfl
theorem tw_2_209 : (Jvm.Cond.methodLink "CrowMiles$Country" (66 : Nat) ({ cls := "java/lang/System", name := "arraycopy", desc := "(Ljava/lang/Object;ILjava/lang/Object;II)V" } : Jvm.MethodName)) ∈ zW := tg_i (tl_2 (List.mem_of_getElem? (i := 209) rfl)) rfl
theorem tw_2_210 : (Jvm.Cond.methodLink "CrowMiles$Country" (72 : Nat) ({ cls := "CrowMiles$Doings", name := "become", desc := "(LCrowMiles$Doings;)V" } : Jvm.MethodName)) ∈ zW := tg_i (tl_2 (List.mem_of_getElem? (i := 210) rfl)) rfl
theorem tw_2_211 : (Jvm.Cond.instanceMethod ({ cls := "CrowMiles$Doings", name := "become", desc := "(LCrowMiles$Doings;)V" } : Jvm.MethodName)) ∈ zW := tg_i (tl_2 (List.mem_of_getElem? (i := 211) rfl)) rfl
theorem tw_2_212 : (Jvm.Cond.selects "CrowMiles$Doings" ({ cls := "CrowMiles$Doings", name := "become", desc := "(LCrowMiles$Doings;)V" } : Jvm.MethodName) ({ cls := "CrowMiles$Doings", name := "become", desc := "(LCrowMiles$Doings;)V" } : Jvm.MethodName)) ∈ zW := tg_i (tl_2 (List.mem_of_getElem? (i := 212) rfl)) rfl
theorem tw_2_213 : (Jvm.Cond.code ({ cls := "CrowMiles$Doings", name := "become", desc := "(LCrowMiles$Doings;)V" } : Jvm.MethodName) prog_3_method_2_code (2 : Nat) (Option.none : Option Jvm.ClassFile.FieldType)) ∈ zW := tg_i (tl_2 (List.mem_of_getElem? (i := 213) rfl)) rfl
theorem tw_2_214 : (Jvm.Cond.methodLink "CrowMiles$Country" (76 : Nat) ({ cls := "CrowMiles$Sightings", name := "become", desc := "(LCrowMiles$Sightings;)V" } : Jvm.MethodName)) ∈ zW := tg_i (tl_2 (List.mem_of_getElem? (i := 214) rfl)) rfl
theorem tw_2_215 : (Jvm.Cond.instanceMethod ({ cls := "CrowMiles$Sightings", name := "become", desc := "(LCrowMiles$Sightings;)V" } : Jvm.MethodName)) ∈ zW := tg_i (tl_2 (List.mem_of_getElem? (i := 215) rfl)) rfl
theorem tw_2_216 : (Jvm.Cond.selects "CrowMiles$Sightings" ({ cls := "CrowMiles$Sightings", name := "become", desc := "(LCrowMiles$Sightings;)V" } : Jvm.MethodName) ({ cls := "CrowMiles$Sightings", name := "become", desc := "(LCrowMiles$Sightings;)V" } : Jvm.MethodName)) ∈ zW := tg_i (tl_2 (List.mem_of_getElem? (i := 216) rfl)) rfl
theorem tw_2_217 : (Jvm.Cond.code ({ cls := "CrowMiles$Sightings", name := "become", desc := "(LCrowMiles$Sightings;)V" } : Jvm.MethodName) prog_8_method_2_code (2 : Nat) (Option.none : Option Jvm.ClassFile.FieldType)) ∈ zW := tg_i (tl_2 (List.mem_of_getElem? (i := 217) rfl)) rfl
theorem tw_2_218 : (Jvm.Cond.methodLink "CrowMiles$Sightings" (19 : Nat) ({ cls := "java/lang/System", name := "arraycopy", desc := "(Ljava/lang/Object;ILjava/lang/Object;II)V" } : Jvm.MethodName)) ∈ zW := tg_i (tl_2 (List.mem_of_getElem? (i := 218) rfl)) rfl
theorem tw_2_219 : (Jvm.Cond.methodLink "CrowMilesLaw" (41 : Nat) ({ cls := "CrowMiles", name := "flies", desc := "(II)I" } : Jvm.MethodName)) ∈ zW := tg_i (tl_2 (List.mem_of_getElem? (i := 219) rfl)) rfl
theorem tw_2_220 : (Jvm.Cond.instanceMethod ({ cls := "CrowMiles", name := "flies", desc := "(II)I" } : Jvm.MethodName)) ∈ zW := tg_i (tl_2 (List.mem_of_getElem? (i := 220) rfl)) rfl
theorem tw_2_221 : (Jvm.Cond.selects "CrowMiles" ({ cls := "CrowMiles", name := "flies", desc := "(II)I" } : Jvm.MethodName) ({ cls := "CrowMiles", name := "flies", desc := "(II)I" } : Jvm.MethodName)) ∈ zW := tg_i (tl_2 (List.mem_of_getElem? (i := 221) rfl)) rfl
theorem tw_2_222 : (Jvm.Cond.code ({ cls := "CrowMiles", name := "flies", desc := "(II)I" } : Jvm.MethodName) prog_1_method_8_code (3 : Nat) (Option.some Jvm.ClassFile.FieldType.int)) ∈ zW := tg_i (tl_2 (List.mem_of_getElem? (i := 222) rfl)) rfl
theorem tw_2_223 : (Jvm.Cond.methodLink "CrowMiles" (109 : Nat) ({ cls := "CrowMiles$Country", name := "hasCrow", desc := "(I)Z" } : Jvm.MethodName)) ∈ zW := tg_i (tl_2 (List.mem_of_getElem? (i := 223) rfl)) rfl
theorem tw_2_224 : (Jvm.Cond.instanceMethod ({ cls := "CrowMiles$Country", name := "hasCrow", desc := "(I)Z" } : Jvm.MethodName)) ∈ zW := tg_i (tl_2 (List.mem_of_getElem? (i := 224) rfl)) rfl
theorem tw_2_225 : (Jvm.Cond.selects "CrowMiles$Country" ({ cls := "CrowMiles$Country", name := "hasCrow", desc := "(I)Z" } : Jvm.MethodName) ({ cls := "CrowMiles$Country", name := "hasCrow", desc := "(I)Z" } : Jvm.MethodName)) ∈ zW := tg_i (tl_2 (List.mem_of_getElem? (i := 225) rfl)) rfl
theorem tw_2_226 : (Jvm.Cond.code ({ cls := "CrowMiles$Country", name := "hasCrow", desc := "(I)Z" } : Jvm.MethodName) prog_2_method_5_code (2 : Nat) (Option.some Jvm.ClassFile.FieldType.boolean)) ∈ zW := tg_i (tl_2 (List.mem_of_getElem? (i := 226) rfl)) rfl
theorem tw_2_227 : (Jvm.Cond.methodLink "CrowMiles" (122 : Nat) ({ cls := "CrowMiles", name := "refuseNo", desc := "()I" } : Jvm.MethodName)) ∈ zW := tg_i (tl_2 (List.mem_of_getElem? (i := 227) rfl)) rfl
theorem tw_2_229 : (Jvm.Cond.instanceMethod ({ cls := "CrowMiles", name := "refuseNo", desc := "()I" } : Jvm.MethodName)) ∈ zW := tg_i (tl_2 (List.mem_of_getElem? (i := 229) rfl)) rfl
theorem tw_2_230 : (Jvm.Cond.code ({ cls := "CrowMiles", name := "refuseNo", desc := "()I" } : Jvm.MethodName) prog_1_method_44_code (1 : Nat) (Option.some Jvm.ClassFile.FieldType.int)) ∈ zW := tg_i (tl_2 (List.mem_of_getElem? (i := 230) rfl)) rfl
theorem tw_2_231 : (Jvm.Cond.methodLink "CrowMiles" (125 : Nat) ({ cls := "CrowMiles$Country", name := "remember", desc := "()V" } : Jvm.MethodName)) ∈ zW := tg_i (tl_2 (List.mem_of_getElem? (i := 231) rfl)) rfl
theorem tw_2_232 : (Jvm.Cond.instanceMethod ({ cls := "CrowMiles$Country", name := "remember", desc := "()V" } : Jvm.MethodName)) ∈ zW := tg_i (tl_2 (List.mem_of_getElem? (i := 232) rfl)) rfl
theorem tw_2_233 : (Jvm.Cond.selects "CrowMiles$Country" ({ cls := "CrowMiles$Country", name := "remember", desc := "()V" } : Jvm.MethodName) ({ cls := "CrowMiles$Country", name := "remember", desc := "()V" } : Jvm.MethodName)) ∈ zW := tg_i (tl_2 (List.mem_of_getElem? (i := 233) rfl)) rfl
theorem tw_2_234 : (Jvm.Cond.code ({ cls := "CrowMiles$Country", name := "remember", desc := "()V" } : Jvm.MethodName) prog_2_method_10_code (1 : Nat) (Option.none : Option Jvm.ClassFile.FieldType)) ∈ zW := tg_i (tl_2 (List.mem_of_getElem? (i := 234) rfl)) rfl
theorem tw_2_235 : (Jvm.Cond.methodLink "CrowMiles$Country" (85 : Nat) ({ cls := "CrowMiles$Country", name := "dropFirstPast", desc := "()V" } : Jvm.MethodName)) ∈ zW := tg_i (tl_2 (List.mem_of_getElem? (i := 235) rfl)) rfl
theorem tw_2_237 : (Jvm.Cond.instanceMethod ({ cls := "CrowMiles$Country", name := "dropFirstPast", desc := "()V" } : Jvm.MethodName)) ∈ zW := tg_i (tl_2 (List.mem_of_getElem? (i := 237) rfl)) rfl
theorem tw_2_238 : (Jvm.Cond.code ({ cls := "CrowMiles$Country", name := "dropFirstPast", desc := "()V" } : Jvm.MethodName) prog_2_method_11_code (3 : Nat) (Option.none : Option Jvm.ClassFile.FieldType)) ∈ zW := tg_i (tl_2 (List.mem_of_getElem? (i := 238) rfl)) rfl
theorem tw_2_239 : (Jvm.Cond.methodLink "CrowMiles" (128 : Nat) ({ cls := "CrowMiles$Country", name := "fly", desc := "(LCrowMiles$Doings;II)I" } : Jvm.MethodName)) ∈ zW := tg_i (tl_2 (List.mem_of_getElem? (i := 239) rfl)) rfl
theorem tw_3_0 : (Jvm.Cond.methodLink "CrowMilesLaw" (45 : Nat) ({ cls := "CrowMiles", name := "rests", desc := "(I)I" } : Jvm.MethodName)) ∈ zW := tg_i (tl_3 (List.mem_of_getElem? (i := 0) rfl)) rfl
theorem tw_3_1 : (Jvm.Cond.instanceMethod ({ cls := "CrowMiles", name := "rests", desc := "(I)I" } : Jvm.MethodName)) ∈ zW := tg_i (tl_3 (List.mem_of_getElem? (i := 1) rfl)) rfl
theorem tw_3_2 : (Jvm.Cond.selects "CrowMiles" ({ cls := "CrowMiles", name := "rests", desc := "(I)I" } : Jvm.MethodName) ({ cls := "CrowMiles", name := "rests", desc := "(I)I" } : Jvm.MethodName)) ∈ zW := tg_i (tl_3 (List.mem_of_getElem? (i := 2) rfl)) rfl
theorem tw_3_3 : (Jvm.Cond.code ({ cls := "CrowMiles", name := "rests", desc := "(I)I" } : Jvm.MethodName) prog_1_method_9_code (3 : Nat) (Option.some Jvm.ClassFile.FieldType.int)) ∈ zW := tg_i (tl_3 (List.mem_of_getElem? (i := 3) rfl)) rfl
theorem tw_3_4 : (Jvm.Cond.methodLink "CrowMiles" (135 : Nat) ({ cls := "CrowMiles$Doings", name := "sleep", desc := "(I)V" } : Jvm.MethodName)) ∈ zW := tg_i (tl_3 (List.mem_of_getElem? (i := 4) rfl)) rfl
theorem tw_3_5 : (Jvm.Cond.methodLink "CrowMiles" (139 : Nat) ({ cls := "CrowMiles$Doings", name := "stopTheClock", desc := "()V" } : Jvm.MethodName)) ∈ zW := tg_i (tl_3 (List.mem_of_getElem? (i := 5) rfl)) rfl
theorem tw_3_6 : (Jvm.Cond.instanceMethod ({ cls := "CrowMiles$Doings", name := "stopTheClock", desc := "()V" } : Jvm.MethodName)) ∈ zW := tg_i (tl_3 (List.mem_of_getElem? (i := 6) rfl)) rfl
theorem tw_3_7 : (Jvm.Cond.selects "CrowMiles$Doings" ({ cls := "CrowMiles$Doings", name := "stopTheClock", desc := "()V" } : Jvm.MethodName) ({ cls := "CrowMiles$Doings", name := "stopTheClock", desc := "()V" } : Jvm.MethodName)) ∈ zW := tg_i (tl_3 (List.mem_of_getElem? (i := 7) rfl)) rfl
theorem tw_3_8 : (Jvm.Cond.code ({ cls := "CrowMiles$Doings", name := "stopTheClock", desc := "()V" } : Jvm.MethodName) prog_3_method_5_code (1 : Nat) (Option.none : Option Jvm.ClassFile.FieldType)) ∈ zW := tg_i (tl_3 (List.mem_of_getElem? (i := 8) rfl)) rfl
theorem tw_3_9 : (Jvm.Cond.methodLink "CrowMilesLaw" (49 : Nat) ({ cls := "CrowMiles", name := "hours", desc := "(I)I" } : Jvm.MethodName)) ∈ zW := tg_i (tl_3 (List.mem_of_getElem? (i := 9) rfl)) rfl
theorem tw_3_10 : (Jvm.Cond.instanceMethod ({ cls := "CrowMiles", name := "hours", desc := "(I)I" } : Jvm.MethodName)) ∈ zW := tg_i (tl_3 (List.mem_of_getElem? (i := 10) rfl)) rfl
theorem tw_3_11 : (Jvm.Cond.selects "CrowMiles" ({ cls := "CrowMiles", name := "hours", desc := "(I)I" } : Jvm.MethodName) ({ cls := "CrowMiles", name := "hours", desc := "(I)I" } : Jvm.MethodName)) ∈ zW := tg_i (tl_3 (List.mem_of_getElem? (i := 11) rfl)) rfl
theorem tw_3_12 : (Jvm.Cond.code ({ cls := "CrowMiles", name := "hours", desc := "(I)I" } : Jvm.MethodName) prog_1_method_10_code (2 : Nat) (Option.some Jvm.ClassFile.FieldType.int)) ∈ zW := tg_i (tl_3 (List.mem_of_getElem? (i := 12) rfl)) rfl
theorem tw_3_13 : (Jvm.Cond.methodLink "CrowMilesLaw" (53 : Nat) ({ cls := "CrowMiles", name := "undo", desc := "()I" } : Jvm.MethodName)) ∈ zW := tg_i (tl_3 (List.mem_of_getElem? (i := 13) rfl)) rfl
theorem tw_3_14 : (Jvm.Cond.instanceMethod ({ cls := "CrowMiles", name := "undo", desc := "()I" } : Jvm.MethodName)) ∈ zW := tg_i (tl_3 (List.mem_of_getElem? (i := 14) rfl)) rfl
theorem tw_3_15 : (Jvm.Cond.selects "CrowMiles" ({ cls := "CrowMiles", name := "undo", desc := "()I" } : Jvm.MethodName) ({ cls := "CrowMiles", name := "undo", desc := "()I" } : Jvm.MethodName)) ∈ zW := tg_i (tl_3 (List.mem_of_getElem? (i := 15) rfl)) rfl
theorem tw_3_16 : (Jvm.Cond.code ({ cls := "CrowMiles", name := "undo", desc := "()I" } : Jvm.MethodName) prog_1_method_11_code (1 : Nat) (Option.some Jvm.ClassFile.FieldType.int)) ∈ zW := tg_i (tl_3 (List.mem_of_getElem? (i := 16) rfl)) rfl
theorem tw_3_17 : (Jvm.Cond.methodLink "CrowMiles" (145 : Nat) ({ cls := "CrowMiles$Country", name := "goBack", desc := "()V" } : Jvm.MethodName)) ∈ zW := tg_i (tl_3 (List.mem_of_getElem? (i := 17) rfl)) rfl
theorem tw_3_18 : (Jvm.Cond.instanceMethod ({ cls := "CrowMiles$Country", name := "goBack", desc := "()V" } : Jvm.MethodName)) ∈ zW := tg_i (tl_3 (List.mem_of_getElem? (i := 18) rfl)) rfl
theorem tw_3_19 : (Jvm.Cond.selects "CrowMiles$Country" ({ cls := "CrowMiles$Country", name := "goBack", desc := "()V" } : Jvm.MethodName) ({ cls := "CrowMiles$Country", name := "goBack", desc := "()V" } : Jvm.MethodName)) ∈ zW := tg_i (tl_3 (List.mem_of_getElem? (i := 19) rfl)) rfl
theorem tw_3_20 : (Jvm.Cond.code ({ cls := "CrowMiles$Country", name := "goBack", desc := "()V" } : Jvm.MethodName) prog_2_method_12_code (1 : Nat) (Option.none : Option Jvm.ClassFile.FieldType)) ∈ zW := tg_i (tl_3 (List.mem_of_getElem? (i := 20) rfl)) rfl
theorem tw_3_21 : (Jvm.Cond.methodLink "CrowMilesLaw" (57 : Nat) ({ cls := "CrowMiles", name := "of", desc := "(II)I" } : Jvm.MethodName)) ∈ zW := tg_i (tl_3 (List.mem_of_getElem? (i := 21) rfl)) rfl
theorem tw_3_22 : (Jvm.Cond.instanceMethod ({ cls := "CrowMiles", name := "of", desc := "(II)I" } : Jvm.MethodName)) ∈ zW := tg_i (tl_3 (List.mem_of_getElem? (i := 22) rfl)) rfl
theorem tw_3_23 : (Jvm.Cond.selects "CrowMiles" ({ cls := "CrowMiles", name := "of", desc := "(II)I" } : Jvm.MethodName) ({ cls := "CrowMiles", name := "of", desc := "(II)I" } : Jvm.MethodName)) ∈ zW := tg_i (tl_3 (List.mem_of_getElem? (i := 23) rfl)) rfl
theorem tw_3_24 : (Jvm.Cond.code ({ cls := "CrowMiles", name := "of", desc := "(II)I" } : Jvm.MethodName) prog_1_method_12_code (3 : Nat) (Option.some Jvm.ClassFile.FieldType.int)) ∈ zW := tg_i (tl_3 (List.mem_of_getElem? (i := 24) rfl)) rfl
theorem tw_3_25 : (Jvm.Cond.methodLink "CrowMiles" (148 : Nat) ({ cls := "CrowMiles$Country", name := "aboutCrow", desc := "(II)I" } : Jvm.MethodName)) ∈ zW := tg_i (tl_3 (List.mem_of_getElem? (i := 25) rfl)) rfl
theorem tw_3_26 : (Jvm.Cond.instanceMethod ({ cls := "CrowMiles$Country", name := "aboutCrow", desc := "(II)I" } : Jvm.MethodName)) ∈ zW := tg_i (tl_3 (List.mem_of_getElem? (i := 26) rfl)) rfl
theorem tw_3_27 : (Jvm.Cond.selects "CrowMiles$Country" ({ cls := "CrowMiles$Country", name := "aboutCrow", desc := "(II)I" } : Jvm.MethodName) ({ cls := "CrowMiles$Country", name := "aboutCrow", desc := "(II)I" } : Jvm.MethodName)) ∈ zW := tg_i (tl_3 (List.mem_of_getElem? (i := 27) rfl)) rfl
theorem tw_3_28 : (Jvm.Cond.code ({ cls := "CrowMiles$Country", name := "aboutCrow", desc := "(II)I" } : Jvm.MethodName) prog_2_method_9_code (3 : Nat) (Option.some Jvm.ClassFile.FieldType.int)) ∈ zW := tg_i (tl_3 (List.mem_of_getElem? (i := 28) rfl)) rfl
theorem tw_3_29 : (Jvm.Cond.methodLink "CrowMilesLaw" (61 : Nat) ({ cls := "CrowMiles", name := "about", desc := "(II)I" } : Jvm.MethodName)) ∈ zW := tg_i (tl_3 (List.mem_of_getElem? (i := 29) rfl)) rfl
theorem tw_3_30 : (Jvm.Cond.instanceMethod ({ cls := "CrowMiles", name := "about", desc := "(II)I" } : Jvm.MethodName)) ∈ zW := tg_i (tl_3 (List.mem_of_getElem? (i := 30) rfl)) rfl
theorem tw_3_31 : (Jvm.Cond.selects "CrowMiles" ({ cls := "CrowMiles", name := "about", desc := "(II)I" } : Jvm.MethodName) ({ cls := "CrowMiles", name := "about", desc := "(II)I" } : Jvm.MethodName)) ∈ zW := tg_i (tl_3 (List.mem_of_getElem? (i := 31) rfl)) rfl
theorem tw_3_32 : (Jvm.Cond.code ({ cls := "CrowMiles", name := "about", desc := "(II)I" } : Jvm.MethodName) prog_1_method_13_code (3 : Nat) (Option.some Jvm.ClassFile.FieldType.int)) ∈ zW := tg_i (tl_3 (List.mem_of_getElem? (i := 32) rfl)) rfl
theorem tw_3_33 : (Jvm.Cond.methodLink "CrowMiles" (151 : Nat) ({ cls := "CrowMiles$Country", name := "aboutPlace", desc := "(II)I" } : Jvm.MethodName)) ∈ zW := tg_i (tl_3 (List.mem_of_getElem? (i := 33) rfl)) rfl
theorem tw_3_34 : (Jvm.Cond.instanceMethod ({ cls := "CrowMiles$Country", name := "aboutPlace", desc := "(II)I" } : Jvm.MethodName)) ∈ zW := tg_i (tl_3 (List.mem_of_getElem? (i := 34) rfl)) rfl
theorem tw_3_35 : (Jvm.Cond.selects "CrowMiles$Country" ({ cls := "CrowMiles$Country", name := "aboutPlace", desc := "(II)I" } : Jvm.MethodName) ({ cls := "CrowMiles$Country", name := "aboutPlace", desc := "(II)I" } : Jvm.MethodName)) ∈ zW := tg_i (tl_3 (List.mem_of_getElem? (i := 35) rfl)) rfl
theorem tw_3_36 : (Jvm.Cond.code ({ cls := "CrowMiles$Country", name := "aboutPlace", desc := "(II)I" } : Jvm.MethodName) prog_2_method_8_code (3 : Nat) (Option.some Jvm.ClassFile.FieldType.int)) ∈ zW := tg_i (tl_3 (List.mem_of_getElem? (i := 36) rfl)) rfl
theorem tw_3_37 : (Jvm.Cond.methodLink "CrowMilesLaw" (65 : Nat) ({ cls := "CrowMiles", name := "straight", desc := "(II)I" } : Jvm.MethodName)) ∈ zW := tg_i (tl_3 (List.mem_of_getElem? (i := 37) rfl)) rfl
theorem tw_3_38 : (Jvm.Cond.instanceMethod ({ cls := "CrowMiles", name := "straight", desc := "(II)I" } : Jvm.MethodName)) ∈ zW := tg_i (tl_3 (List.mem_of_getElem? (i := 38) rfl)) rfl
theorem tw_3_39 : (Jvm.Cond.selects "CrowMiles" ({ cls := "CrowMiles", name := "straight", desc := "(II)I" } : Jvm.MethodName) ({ cls := "CrowMiles", name := "straight", desc := "(II)I" } : Jvm.MethodName)) ∈ zW := tg_i (tl_3 (List.mem_of_getElem? (i := 39) rfl)) rfl
theorem tw_3_40 : (Jvm.Cond.code ({ cls := "CrowMiles", name := "straight", desc := "(II)I" } : Jvm.MethodName) prog_1_method_14_code (3 : Nat) (Option.some Jvm.ClassFile.FieldType.int)) ∈ zW := tg_i (tl_3 (List.mem_of_getElem? (i := 40) rfl)) rfl
theorem tw_3_41 : (Jvm.Cond.methodLink "CrowMiles" (154 : Nat) ({ cls := "CrowMiles$Country", name := "line", desc := "(II)I" } : Jvm.MethodName)) ∈ zW := tg_i (tl_3 (List.mem_of_getElem? (i := 41) rfl)) rfl
theorem tw_3_42 : (Jvm.Cond.methodLink "CrowMilesLaw" (69 : Nat) ({ cls := "CrowMiles", name := "far", desc := "(III)I" } : Jvm.MethodName)) ∈ zW := tg_i (tl_3 (List.mem_of_getElem? (i := 42) rfl)) rfl
theorem tw_3_43 : (Jvm.Cond.instanceMethod ({ cls := "CrowMiles", name := "far", desc := "(III)I" } : Jvm.MethodName)) ∈ zW := tg_i (tl_3 (List.mem_of_getElem? (i := 43) rfl)) rfl
theorem tw_3_44 : (Jvm.Cond.selects "CrowMiles" ({ cls := "CrowMiles", name := "far", desc := "(III)I" } : Jvm.MethodName) ({ cls := "CrowMiles", name := "far", desc := "(III)I" } : Jvm.MethodName)) ∈ zW := tg_i (tl_3 (List.mem_of_getElem? (i := 44) rfl)) rfl
theorem tw_3_45 : (Jvm.Cond.code ({ cls := "CrowMiles", name := "far", desc := "(III)I" } : Jvm.MethodName) prog_1_method_15_code (4 : Nat) (Option.some Jvm.ClassFile.FieldType.int)) ∈ zW := tg_i (tl_3 (List.mem_of_getElem? (i := 45) rfl)) rfl
theorem tw_3_46 : (Jvm.Cond.methodLink "CrowMiles" (157 : Nat) ({ cls := "CrowMiles", name := "isTrip", desc := "(III)Z" } : Jvm.MethodName)) ∈ zW := tg_i (tl_3 (List.mem_of_getElem? (i := 46) rfl)) rfl
theorem tw_3_48 : (Jvm.Cond.instanceMethod ({ cls := "CrowMiles", name := "isTrip", desc := "(III)Z" } : Jvm.MethodName)) ∈ zW := tg_i (tl_3 (List.mem_of_getElem? (i := 48) rfl)) rfl
theorem tw_3_49 : (Jvm.Cond.code ({ cls := "CrowMiles", name := "isTrip", desc := "(III)Z" } : Jvm.MethodName) prog_1_method_41_code (4 : Nat) (Option.some Jvm.ClassFile.FieldType.boolean)) ∈ zW := tg_i (tl_3 (List.mem_of_getElem? (i := 49) rfl)) rfl
theorem tw_3_50 : (Jvm.Cond.methodLink "CrowMiles" (160 : Nat) ({ cls := "CrowMiles$Country", name := "farNow", desc := "(III)I" } : Jvm.MethodName)) ∈ zW := tg_i (tl_3 (List.mem_of_getElem? (i := 50) rfl)) rfl
theorem tw_3_51 : (Jvm.Cond.instanceMethod ({ cls := "CrowMiles$Country", name := "farNow", desc := "(III)I" } : Jvm.MethodName)) ∈ zW := tg_i (tl_3 (List.mem_of_getElem? (i := 51) rfl)) rfl
theorem tw_3_52 : (Jvm.Cond.selects "CrowMiles$Country" ({ cls := "CrowMiles$Country", name := "farNow", desc := "(III)I" } : Jvm.MethodName) ({ cls := "CrowMiles$Country", name := "farNow", desc := "(III)I" } : Jvm.MethodName)) ∈ zW := tg_i (tl_3 (List.mem_of_getElem? (i := 52) rfl)) rfl
theorem tw_3_53 : (Jvm.Cond.code ({ cls := "CrowMiles$Country", name := "farNow", desc := "(III)I" } : Jvm.MethodName) prog_2_method_15_code (4 : Nat) (Option.some Jvm.ClassFile.FieldType.int)) ∈ zW := tg_i (tl_3 (List.mem_of_getElem? (i := 53) rfl)) rfl
theorem tw_3_54 : (Jvm.Cond.methodLink "CrowMilesLaw" (73 : Nat) ({ cls := "CrowMiles", name := "way", desc := "(IIII)I" } : Jvm.MethodName)) ∈ zW := tg_i (tl_3 (List.mem_of_getElem? (i := 54) rfl)) rfl
theorem tw_3_55 : (Jvm.Cond.instanceMethod ({ cls := "CrowMiles", name := "way", desc := "(IIII)I" } : Jvm.MethodName)) ∈ zW := tg_i (tl_3 (List.mem_of_getElem? (i := 55) rfl)) rfl
theorem tw_3_56 : (Jvm.Cond.selects "CrowMiles" ({ cls := "CrowMiles", name := "way", desc := "(IIII)I" } : Jvm.MethodName) ({ cls := "CrowMiles", name := "way", desc := "(IIII)I" } : Jvm.MethodName)) ∈ zW := tg_i (tl_3 (List.mem_of_getElem? (i := 56) rfl)) rfl
theorem tw_3_57 : (Jvm.Cond.code ({ cls := "CrowMiles", name := "way", desc := "(IIII)I" } : Jvm.MethodName) prog_1_method_16_code (5 : Nat) (Option.some Jvm.ClassFile.FieldType.int)) ∈ zW := tg_i (tl_3 (List.mem_of_getElem? (i := 57) rfl)) rfl
theorem tw_3_58 : (Jvm.Cond.methodLink "CrowMiles" (163 : Nat) ({ cls := "CrowMiles", name := "refuseList", desc := "()I" } : Jvm.MethodName)) ∈ zW := tg_i (tl_3 (List.mem_of_getElem? (i := 58) rfl)) rfl
theorem tw_3_60 : (Jvm.Cond.instanceMethod ({ cls := "CrowMiles", name := "refuseList", desc := "()I" } : Jvm.MethodName)) ∈ zW := tg_i (tl_3 (List.mem_of_getElem? (i := 60) rfl)) rfl
theorem tw_3_61 : (Jvm.Cond.code ({ cls := "CrowMiles", name := "refuseList", desc := "()I" } : Jvm.MethodName) prog_1_method_43_code (1 : Nat) (Option.some Jvm.ClassFile.FieldType.int)) ∈ zW := tg_i (tl_3 (List.mem_of_getElem? (i := 61) rfl)) rfl
theorem tw_3_62 : (Jvm.Cond.methodLink "CrowMiles" (166 : Nat) ({ cls := "CrowMiles$Roads", name := "measure", desc := "(LCrowMiles$Country;I)V" } : Jvm.MethodName)) ∈ zW := tg_i (tl_3 (List.mem_of_getElem? (i := 62) rfl)) rfl
theorem tw_3_63 : (Jvm.Cond.instanceMethod ({ cls := "CrowMiles$Roads", name := "measure", desc := "(LCrowMiles$Country;I)V" } : Jvm.MethodName)) ∈ zW := tg_i (tl_3 (List.mem_of_getElem? (i := 63) rfl)) rfl
theorem tw_3_64 : (Jvm.Cond.selects "CrowMiles$Roads" ({ cls := "CrowMiles$Roads", name := "measure", desc := "(LCrowMiles$Country;I)V" } : Jvm.MethodName) ({ cls := "CrowMiles$Roads", name := "measure", desc := "(LCrowMiles$Country;I)V" } : Jvm.MethodName)) ∈ zW := tg_i (tl_3 (List.mem_of_getElem? (i := 64) rfl)) rfl
theorem tw_3_65 : (Jvm.Cond.code ({ cls := "CrowMiles$Roads", name := "measure", desc := "(LCrowMiles$Country;I)V" } : Jvm.MethodName) prog_7_method_2_code (5 : Nat) (Option.none : Option Jvm.ClassFile.FieldType)) ∈ zW := tg_i (tl_3 (List.mem_of_getElem? (i := 65) rfl)) rfl
theorem tw_3_66 : (Jvm.Cond.methodLink "CrowMiles$Roads" (34 : Nat) ({ cls := "CrowMiles$Country", name := "farNow", desc := "(III)I" } : Jvm.MethodName)) ∈ zW := tg_i (tl_3 (List.mem_of_getElem? (i := 66) rfl)) rfl
theorem tw_3_67 : (Jvm.Cond.methodLink "CrowMiles" (170 : Nat) ({ cls := "CrowMiles$Roads", name := "findWay", desc := "(II)I" } : Jvm.MethodName)) ∈ zW := tg_i (tl_3 (List.mem_of_getElem? (i := 67) rfl)) rfl
theorem tw_3_68 : (Jvm.Cond.instanceMethod ({ cls := "CrowMiles$Roads", name := "findWay", desc := "(II)I" } : Jvm.MethodName)) ∈ zW := tg_i (tl_3 (List.mem_of_getElem? (i := 68) rfl)) rfl
theorem tw_3_69 : (Jvm.Cond.selects "CrowMiles$Roads" ({ cls := "CrowMiles$Roads", name := "findWay", desc := "(II)I" } : Jvm.MethodName) ({ cls := "CrowMiles$Roads", name := "findWay", desc := "(II)I" } : Jvm.MethodName)) ∈ zW := tg_i (tl_3 (List.mem_of_getElem? (i := 69) rfl)) rfl
theorem tw_3_70 : (Jvm.Cond.code ({ cls := "CrowMiles$Roads", name := "findWay", desc := "(II)I" } : Jvm.MethodName) prog_7_method_5_code (5 : Nat) (Option.some Jvm.ClassFile.FieldType.int)) ∈ zW := tg_i (tl_3 (List.mem_of_getElem? (i := 70) rfl)) rfl
theorem tw_3_71 : (Jvm.Cond.constant "CrowMiles$Roads" (38 : Nat) (1000000 : Int32)) ∈ zW := tg_i (tl_3 (List.mem_of_getElem? (i := 71) rfl)) rfl
theorem tw_3_72 : (Jvm.Cond.methodLink "CrowMiles$Roads" (39 : Nat) ({ cls := "CrowMiles$Roads", name := "shortenFrom", desc := "(I)V" } : Jvm.MethodName)) ∈ zW := tg_i (tl_3 (List.mem_of_getElem? (i := 72) rfl)) rfl
theorem tw_3_74 : (Jvm.Cond.instanceMethod ({ cls := "CrowMiles$Roads", name := "shortenFrom", desc := "(I)V" } : Jvm.MethodName)) ∈ zW := tg_i (tl_3 (List.mem_of_getElem? (i := 74) rfl)) rfl
theorem tw_3_75 : (Jvm.Cond.code ({ cls := "CrowMiles$Roads", name := "shortenFrom", desc := "(I)V" } : Jvm.MethodName) prog_7_method_7_code (3 : Nat) (Option.none : Option Jvm.ClassFile.FieldType)) ∈ zW := tg_i (tl_3 (List.mem_of_getElem? (i := 75) rfl)) rfl
theorem tw_3_76 : (Jvm.Cond.methodLink "CrowMiles$Roads" (50 : Nat) ({ cls := "CrowMiles$Roads", name := "partCost", desc := "(II)I" } : Jvm.MethodName)) ∈ zW := tg_i (tl_3 (List.mem_of_getElem? (i := 76) rfl)) rfl
theorem tw_3_78 : (Jvm.Cond.instanceMethod ({ cls := "CrowMiles$Roads", name := "partCost", desc := "(II)I" } : Jvm.MethodName)) ∈ zW := tg_i (tl_3 (List.mem_of_getElem? (i := 78) rfl)) rfl
theorem tw_3_79 : (Jvm.Cond.code ({ cls := "CrowMiles$Roads", name := "partCost", desc := "(II)I" } : Jvm.MethodName) prog_7_method_6_code (3 : Nat) (Option.some Jvm.ClassFile.FieldType.int)) ∈ zW := tg_i (tl_3 (List.mem_of_getElem? (i := 79) rfl)) rfl
theorem tw_3_80 : (Jvm.Cond.methodLink "CrowMiles$Roads" (54 : Nat) ({ cls := "java/lang/Math", name := "min", desc := "(II)I" } : Jvm.MethodName)) ∈ zW := tg_i (tl_3 (List.mem_of_getElem? (i := 80) rfl)) rfl
theorem tw_3_81 : (Jvm.Cond.methodLink "CrowMiles$Roads" (43 : Nat) ({ cls := "CrowMiles$Roads", name := "firstStepFrom", desc := "(I)I" } : Jvm.MethodName)) ∈ zW := tg_i (tl_3 (List.mem_of_getElem? (i := 81) rfl)) rfl
theorem tw_3_83 : (Jvm.Cond.instanceMethod ({ cls := "CrowMiles$Roads", name := "firstStepFrom", desc := "(I)I" } : Jvm.MethodName)) ∈ zW := tg_i (tl_3 (List.mem_of_getElem? (i := 83) rfl)) rfl
theorem tw_3_84 : (Jvm.Cond.code ({ cls := "CrowMiles$Roads", name := "firstStepFrom", desc := "(I)I" } : Jvm.MethodName) prog_7_method_8_code (3 : Nat) (Option.some Jvm.ClassFile.FieldType.int)) ∈ zW := tg_i (tl_3 (List.mem_of_getElem? (i := 84) rfl)) rfl
theorem tw_3_85 : (Jvm.Cond.methodLink "CrowMiles$Roads" (47 : Nat) ({ cls := "CrowMiles$Roads", name := "addFound", desc := "(I)V" } : Jvm.MethodName)) ∈ zW := tg_i (tl_3 (List.mem_of_getElem? (i := 85) rfl)) rfl
theorem tw_3_87 : (Jvm.Cond.instanceMethod ({ cls := "CrowMiles$Roads", name := "addFound", desc := "(I)V" } : Jvm.MethodName)) ∈ zW := tg_i (tl_3 (List.mem_of_getElem? (i := 87) rfl)) rfl
theorem tw_3_88 : (Jvm.Cond.code ({ cls := "CrowMiles$Roads", name := "addFound", desc := "(I)V" } : Jvm.MethodName) prog_7_method_4_code (2 : Nat) (Option.none : Option Jvm.ClassFile.FieldType)) ∈ zW := tg_i (tl_3 (List.mem_of_getElem? (i := 88) rfl)) rfl
theorem tw_3_89 : (Jvm.Cond.methodLink "CrowMiles" (173 : Nat) ({ cls := "CrowMiles$Roads", name := "answer", desc := "(II)I" } : Jvm.MethodName)) ∈ zW := tg_i (tl_3 (List.mem_of_getElem? (i := 89) rfl)) rfl
theorem tw_3_90 : (Jvm.Cond.instanceMethod ({ cls := "CrowMiles$Roads", name := "answer", desc := "(II)I" } : Jvm.MethodName)) ∈ zW := tg_i (tl_3 (List.mem_of_getElem? (i := 90) rfl)) rfl
theorem tw_3_91 : (Jvm.Cond.selects "CrowMiles$Roads" ({ cls := "CrowMiles$Roads", name := "answer", desc := "(II)I" } : Jvm.MethodName) ({ cls := "CrowMiles$Roads", name := "answer", desc := "(II)I" } : Jvm.MethodName)) ∈ zW := tg_i (tl_3 (List.mem_of_getElem? (i := 91) rfl)) rfl
theorem tw_3_92 : (Jvm.Cond.code ({ cls := "CrowMiles$Roads", name := "answer", desc := "(II)I" } : Jvm.MethodName) prog_7_method_3_code (3 : Nat) (Option.some Jvm.ClassFile.FieldType.int)) ∈ zW := tg_i (tl_3 (List.mem_of_getElem? (i := 92) rfl)) rfl
theorem tw_3_93 : (Jvm.Cond.methodLink "CrowMilesLaw" (78 : Nat) ({ cls := "CrowMiles", name := "round", desc := "(II)I" } : Jvm.MethodName)) ∈ zW := tg_i (tl_3 (List.mem_of_getElem? (i := 93) rfl)) rfl
theorem tw_3_94 : (Jvm.Cond.instanceMethod ({ cls := "CrowMiles", name := "round", desc := "(II)I" } : Jvm.MethodName)) ∈ zW := tg_i (tl_3 (List.mem_of_getElem? (i := 94) rfl)) rfl
theorem tw_3_95 : (Jvm.Cond.selects "CrowMiles" ({ cls := "CrowMiles", name := "round", desc := "(II)I" } : Jvm.MethodName) ({ cls := "CrowMiles", name := "round", desc := "(II)I" } : Jvm.MethodName)) ∈ zW := tg_i (tl_3 (List.mem_of_getElem? (i := 95) rfl)) rfl
theorem tw_3_96 : (Jvm.Cond.code ({ cls := "CrowMiles", name := "round", desc := "(II)I" } : Jvm.MethodName) prog_1_method_17_code (3 : Nat) (Option.some Jvm.ClassFile.FieldType.int)) ∈ zW := tg_i (tl_3 (List.mem_of_getElem? (i := 96) rfl)) rfl
theorem tw_3_97 : (Jvm.Cond.methodLink "CrowMiles" (176 : Nat) ({ cls := "CrowMiles$Roads", name := "findRound", desc := "()I" } : Jvm.MethodName)) ∈ zW := tg_i (tl_3 (List.mem_of_getElem? (i := 97) rfl)) rfl
theorem tw_3_98 : (Jvm.Cond.instanceMethod ({ cls := "CrowMiles$Roads", name := "findRound", desc := "()I" } : Jvm.MethodName)) ∈ zW := tg_i (tl_3 (List.mem_of_getElem? (i := 98) rfl)) rfl
theorem tw_3_99 : (Jvm.Cond.selects "CrowMiles$Roads" ({ cls := "CrowMiles$Roads", name := "findRound", desc := "()I" } : Jvm.MethodName) ({ cls := "CrowMiles$Roads", name := "findRound", desc := "()I" } : Jvm.MethodName)) ∈ zW := tg_i (tl_3 (List.mem_of_getElem? (i := 99) rfl)) rfl
theorem tw_3_100 : (Jvm.Cond.code ({ cls := "CrowMiles$Roads", name := "findRound", desc := "()I" } : Jvm.MethodName) prog_7_method_9_code (6 : Nat) (Option.some Jvm.ClassFile.FieldType.int)) ∈ zW := tg_i (tl_3 (List.mem_of_getElem? (i := 100) rfl)) rfl
theorem tw_3_101 : (Jvm.Cond.methodLink "CrowMiles$Roads" (59 : Nat) ({ cls := "CrowMiles$Roads", name := "leastHome", desc := "(II)I" } : Jvm.MethodName)) ∈ zW := tg_i (tl_3 (List.mem_of_getElem? (i := 101) rfl)) rfl
theorem tw_3_103 : (Jvm.Cond.instanceMethod ({ cls := "CrowMiles$Roads", name := "leastHome", desc := "(II)I" } : Jvm.MethodName)) ∈ zW := tg_i (tl_3 (List.mem_of_getElem? (i := 103) rfl)) rfl
theorem tw_3_104 : (Jvm.Cond.code ({ cls := "CrowMiles$Roads", name := "leastHome", desc := "(II)I" } : Jvm.MethodName) prog_7_method_10_code (4 : Nat) (Option.some Jvm.ClassFile.FieldType.int)) ∈ zW := tg_i (tl_3 (List.mem_of_getElem? (i := 104) rfl)) rfl
theorem tw_3_105 : (Jvm.Cond.methodLink "CrowMiles$Roads" (62 : Nat) ({ cls := "CrowMiles$Roads", name := "nextOfRound", desc := "(II)I" } : Jvm.MethodName)) ∈ zW := tg_i (tl_3 (List.mem_of_getElem? (i := 105) rfl)) rfl
theorem tw_3_107 : (Jvm.Cond.instanceMethod ({ cls := "CrowMiles$Roads", name := "nextOfRound", desc := "(II)I" } : Jvm.MethodName)) ∈ zW := tg_i (tl_3 (List.mem_of_getElem? (i := 107) rfl)) rfl
theorem tw_3_108 : (Jvm.Cond.code ({ cls := "CrowMiles$Roads", name := "nextOfRound", desc := "(II)I" } : Jvm.MethodName) prog_7_method_12_code (5 : Nat) (Option.some Jvm.ClassFile.FieldType.int)) ∈ zW := tg_i (tl_3 (List.mem_of_getElem? (i := 108) rfl)) rfl
theorem tw_3_109 : (Jvm.Cond.methodLink "CrowMiles$Roads" (65 : Nat) ({ cls := "CrowMiles$Roads", name := "homeOver", desc := "(III)I" } : Jvm.MethodName)) ∈ zW := tg_i (tl_3 (List.mem_of_getElem? (i := 109) rfl)) rfl
theorem tw_3_111 : (Jvm.Cond.instanceMethod ({ cls := "CrowMiles$Roads", name := "homeOver", desc := "(III)I" } : Jvm.MethodName)) ∈ zW := tg_i (tl_3 (List.mem_of_getElem? (i := 111) rfl)) rfl
theorem tw_3_112 : (Jvm.Cond.code ({ cls := "CrowMiles$Roads", name := "homeOver", desc := "(III)I" } : Jvm.MethodName) prog_7_method_11_code (4 : Nat) (Option.some Jvm.ClassFile.FieldType.int)) ∈ zW := tg_i (tl_3 (List.mem_of_getElem? (i := 112) rfl)) rfl
theorem tw_3_113 : (Jvm.Cond.methodLink "CrowMilesLaw" (82 : Nat) ({ cls := "CrowMiles", name := "clash", desc := "(II)I" } : Jvm.MethodName)) ∈ zW := tg_i (tl_3 (List.mem_of_getElem? (i := 113) rfl)) rfl
theorem tw_3_114 : (Jvm.Cond.instanceMethod ({ cls := "CrowMiles", name := "clash", desc := "(II)I" } : Jvm.MethodName)) ∈ zW := tg_i (tl_3 (List.mem_of_getElem? (i := 114) rfl)) rfl
theorem tw_3_115 : (Jvm.Cond.selects "CrowMiles" ({ cls := "CrowMiles", name := "clash", desc := "(II)I" } : Jvm.MethodName) ({ cls := "CrowMiles", name := "clash", desc := "(II)I" } : Jvm.MethodName)) ∈ zW := tg_i (tl_3 (List.mem_of_getElem? (i := 115) rfl)) rfl
theorem tw_3_116 : (Jvm.Cond.code ({ cls := "CrowMiles", name := "clash", desc := "(II)I" } : Jvm.MethodName) prog_1_method_18_code (3 : Nat) (Option.some Jvm.ClassFile.FieldType.int)) ∈ zW := tg_i (tl_3 (List.mem_of_getElem? (i := 116) rfl)) rfl
theorem tw_3_117 : (Jvm.Cond.methodLink "CrowMiles" (179 : Nat) ({ cls := "CrowMiles$Roads", name := "findClashes", desc := "()I" } : Jvm.MethodName)) ∈ zW := tg_i (tl_3 (List.mem_of_getElem? (i := 117) rfl)) rfl
theorem tw_3_118 : (Jvm.Cond.instanceMethod ({ cls := "CrowMiles$Roads", name := "findClashes", desc := "()I" } : Jvm.MethodName)) ∈ zW := tg_i (tl_3 (List.mem_of_getElem? (i := 118) rfl)) rfl
theorem tw_3_119 : (Jvm.Cond.selects "CrowMiles$Roads" ({ cls := "CrowMiles$Roads", name := "findClashes", desc := "()I" } : Jvm.MethodName) ({ cls := "CrowMiles$Roads", name := "findClashes", desc := "()I" } : Jvm.MethodName)) ∈ zW := tg_i (tl_3 (List.mem_of_getElem? (i := 119) rfl)) rfl
theorem tw_3_120 : (Jvm.Cond.code ({ cls := "CrowMiles$Roads", name := "findClashes", desc := "()I" } : Jvm.MethodName) prog_7_method_13_code (3 : Nat) (Option.some Jvm.ClassFile.FieldType.int)) ∈ zW := tg_i (tl_3 (List.mem_of_getElem? (i := 120) rfl)) rfl
theorem tw_3_121 : (Jvm.Cond.methodLink "CrowMiles$Roads" (68 : Nat) ({ cls := "CrowMiles$Roads", name := "hasShortcut", desc := "(II)Z" } : Jvm.MethodName)) ∈ zW := tg_i (tl_3 (List.mem_of_getElem? (i := 121) rfl)) rfl
theorem tw_3_123 : (Jvm.Cond.instanceMethod ({ cls := "CrowMiles$Roads", name := "hasShortcut", desc := "(II)Z" } : Jvm.MethodName)) ∈ zW := tg_i (tl_3 (List.mem_of_getElem? (i := 123) rfl)) rfl
theorem tw_3_124 : (Jvm.Cond.code ({ cls := "CrowMiles$Roads", name := "hasShortcut", desc := "(II)Z" } : Jvm.MethodName) prog_7_method_14_code (4 : Nat) (Option.some Jvm.ClassFile.FieldType.boolean)) ∈ zW := tg_i (tl_3 (List.mem_of_getElem? (i := 124) rfl)) rfl
theorem tw_3_125 : (Jvm.Cond.methodLink "CrowMilesLaw" (86 : Nat) ({ cls := "CrowMiles", name := "late", desc := "(IIII)I" } : Jvm.MethodName)) ∈ zW := tg_i (tl_3 (List.mem_of_getElem? (i := 125) rfl)) rfl
theorem tw_3_126 : (Jvm.Cond.instanceMethod ({ cls := "CrowMiles", name := "late", desc := "(IIII)I" } : Jvm.MethodName)) ∈ zW := tg_i (tl_3 (List.mem_of_getElem? (i := 126) rfl)) rfl
theorem tw_3_127 : (Jvm.Cond.selects "CrowMiles" ({ cls := "CrowMiles", name := "late", desc := "(IIII)I" } : Jvm.MethodName) ({ cls := "CrowMiles", name := "late", desc := "(IIII)I" } : Jvm.MethodName)) ∈ zW := tg_i (tl_3 (List.mem_of_getElem? (i := 127) rfl)) rfl
theorem tw_3_128 : (Jvm.Cond.code ({ cls := "CrowMiles", name := "late", desc := "(IIII)I" } : Jvm.MethodName) prog_1_method_19_code (9 : Nat) (Option.some Jvm.ClassFile.FieldType.int)) ∈ zW := tg_i (tl_3 (List.mem_of_getElem? (i := 128) rfl)) rfl
theorem tw_3_129 : (Jvm.Cond.methodLink "CrowMiles" (182 : Nat) ({ cls := "CrowMiles$Country", name := "farAt", desc := "(IIIII)I" } : Jvm.MethodName)) ∈ zW := tg_i (tl_3 (List.mem_of_getElem? (i := 129) rfl)) rfl
theorem tw_3_130 : (Jvm.Cond.methodLink "CrowMilesLaw" (90 : Nat) ({ cls := "CrowMiles", name := "standard", desc := "(II)I" } : Jvm.MethodName)) ∈ zW := tg_i (tl_3 (List.mem_of_getElem? (i := 130) rfl)) rfl
theorem tw_3_131 : (Jvm.Cond.instanceMethod ({ cls := "CrowMiles", name := "standard", desc := "(II)I" } : Jvm.MethodName)) ∈ zW := tg_i (tl_3 (List.mem_of_getElem? (i := 131) rfl)) rfl
theorem tw_3_132 : (Jvm.Cond.selects "CrowMiles" ({ cls := "CrowMiles", name := "standard", desc := "(II)I" } : Jvm.MethodName) ({ cls := "CrowMiles", name := "standard", desc := "(II)I" } : Jvm.MethodName)) ∈ zW := tg_i (tl_3 (List.mem_of_getElem? (i := 132) rfl)) rfl
theorem tw_3_133 : (Jvm.Cond.code ({ cls := "CrowMiles", name := "standard", desc := "(II)I" } : Jvm.MethodName) prog_1_method_20_code (3 : Nat) (Option.some Jvm.ClassFile.FieldType.int)) ∈ zW := tg_i (tl_3 (List.mem_of_getElem? (i := 133) rfl)) rfl
theorem tw_3_134 : (Jvm.Cond.methodLink "CrowMiles" (186 : Nat) ({ cls := "CrowMiles$Doings", name := "middleLength", desc := "(II)I" } : Jvm.MethodName)) ∈ zW := tg_i (tl_3 (List.mem_of_getElem? (i := 134) rfl)) rfl
theorem tw_3_135 : (Jvm.Cond.instanceMethod ({ cls := "CrowMiles$Doings", name := "middleLength", desc := "(II)I" } : Jvm.MethodName)) ∈ zW := tg_i (tl_3 (List.mem_of_getElem? (i := 135) rfl)) rfl
theorem tw_3_136 : (Jvm.Cond.selects "CrowMiles$Doings" ({ cls := "CrowMiles$Doings", name := "middleLength", desc := "(II)I" } : Jvm.MethodName) ({ cls := "CrowMiles$Doings", name := "middleLength", desc := "(II)I" } : Jvm.MethodName)) ∈ zW := tg_i (tl_3 (List.mem_of_getElem? (i := 136) rfl)) rfl
theorem tw_3_137 : (Jvm.Cond.code ({ cls := "CrowMiles$Doings", name := "middleLength", desc := "(II)I" } : Jvm.MethodName) prog_3_method_11_code (8 : Nat) (Option.some Jvm.ClassFile.FieldType.int)) ∈ zW := tg_i (tl_3 (List.mem_of_getElem? (i := 137) rfl)) rfl
theorem tw_3_138 : (Jvm.Cond.methodLink "CrowMiles$Doings" (44 : Nat) ({ cls := "CrowMiles$Doings", name := "isDeed", desc := "(III)Z" } : Jvm.MethodName)) ∈ zW := tg_i (tl_3 (List.mem_of_getElem? (i := 138) rfl)) rfl
theorem tw_3_140 : (Jvm.Cond.instanceMethod ({ cls := "CrowMiles$Doings", name := "isDeed", desc := "(III)Z" } : Jvm.MethodName)) ∈ zW := tg_i (tl_3 (List.mem_of_getElem? (i := 140) rfl)) rfl
theorem tw_3_141 : (Jvm.Cond.code ({ cls := "CrowMiles$Doings", name := "isDeed", desc := "(III)Z" } : Jvm.MethodName) prog_3_method_9_code (4 : Nat) (Option.some Jvm.ClassFile.FieldType.boolean)) ∈ zW := tg_i (tl_3 (List.mem_of_getElem? (i := 141) rfl)) rfl
theorem tw_3_142 : (Jvm.Cond.methodLink "CrowMiles$Doings" (40 : Nat) ({ cls := "CrowMiles$Doings", name := "deedLength", desc := "(I)I" } : Jvm.MethodName)) ∈ zW := tg_i (tl_3 (List.mem_of_getElem? (i := 142) rfl)) rfl
theorem tw_3_143 : (Jvm.Cond.instanceMethod ({ cls := "CrowMiles$Doings", name := "deedLength", desc := "(I)I" } : Jvm.MethodName)) ∈ zW := tg_i (tl_3 (List.mem_of_getElem? (i := 143) rfl)) rfl
theorem tw_3_144 : (Jvm.Cond.selects "CrowMiles$Doings" ({ cls := "CrowMiles$Doings", name := "deedLength", desc := "(I)I" } : Jvm.MethodName) ({ cls := "CrowMiles$Doings", name := "deedLength", desc := "(I)I" } : Jvm.MethodName)) ∈ zW := tg_i (tl_3 (List.mem_of_getElem? (i := 144) rfl)) rfl
theorem tw_3_145 : (Jvm.Cond.code ({ cls := "CrowMiles$Doings", name := "deedLength", desc := "(I)I" } : Jvm.MethodName) prog_3_method_8_code (2 : Nat) (Option.some Jvm.ClassFile.FieldType.int)) ∈ zW := tg_i (tl_3 (List.mem_of_getElem? (i := 145) rfl)) rfl
theorem tw_3_146 : (Jvm.Cond.methodLink "CrowMiles$Doings" (48 : Nat) ({ cls := "CrowMiles$Doings", name := "apartFrom", desc := "(III)I" } : Jvm.MethodName)) ∈ zW := tg_i (tl_3 (List.mem_of_getElem? (i := 146) rfl)) rfl
theorem tw_3_148 : (Jvm.Cond.instanceMethod ({ cls := "CrowMiles$Doings", name := "apartFrom", desc := "(III)I" } : Jvm.MethodName)) ∈ zW := tg_i (tl_3 (List.mem_of_getElem? (i := 148) rfl)) rfl
theorem tw_3_149 : (Jvm.Cond.code ({ cls := "CrowMiles$Doings", name := "apartFrom", desc := "(III)I" } : Jvm.MethodName) prog_3_method_12_code (6 : Nat) (Option.some Jvm.ClassFile.FieldType.int)) ∈ zW := tg_i (tl_3 (List.mem_of_getElem? (i := 149) rfl)) rfl
theorem tw_3_150 : (Jvm.Cond.methodLink "CrowMiles$Doings" (52 : Nat) ({ cls := "java/lang/Math", name := "abs", desc := "(I)I" } : Jvm.MethodName)) ∈ zW := tg_i (tl_3 (List.mem_of_getElem? (i := 150) rfl)) rfl
theorem tw_3_151 : (Jvm.Cond.methodLink "CrowMilesLaw" (94 : Nat) ({ cls := "CrowMiles", name := "book", desc := "(II)I" } : Jvm.MethodName)) ∈ zW := tg_i (tl_3 (List.mem_of_getElem? (i := 151) rfl)) rfl
theorem tw_3_152 : (Jvm.Cond.instanceMethod ({ cls := "CrowMiles", name := "book", desc := "(II)I" } : Jvm.MethodName)) ∈ zW := tg_i (tl_3 (List.mem_of_getElem? (i := 152) rfl)) rfl
theorem tw_3_153 : (Jvm.Cond.selects "CrowMiles" ({ cls := "CrowMiles", name := "book", desc := "(II)I" } : Jvm.MethodName) ({ cls := "CrowMiles", name := "book", desc := "(II)I" } : Jvm.MethodName)) ∈ zW := tg_i (tl_3 (List.mem_of_getElem? (i := 153) rfl)) rfl
theorem tw_3_154 : (Jvm.Cond.code ({ cls := "CrowMiles", name := "book", desc := "(II)I" } : Jvm.MethodName) prog_1_method_21_code (3 : Nat) (Option.some Jvm.ClassFile.FieldType.int)) ∈ zW := tg_i (tl_3 (List.mem_of_getElem? (i := 154) rfl)) rfl
theorem tw_3_155 : (Jvm.Cond.methodLink "CrowMiles" (192 : Nat) ({ cls := "CrowMiles$Doings", name := "deedEnds", desc := "(I)I" } : Jvm.MethodName)) ∈ zW := tg_i (tl_3 (List.mem_of_getElem? (i := 155) rfl)) rfl
theorem tw_3_156 : (Jvm.Cond.instanceMethod ({ cls := "CrowMiles$Doings", name := "deedEnds", desc := "(I)I" } : Jvm.MethodName)) ∈ zW := tg_i (tl_3 (List.mem_of_getElem? (i := 156) rfl)) rfl
theorem tw_3_157 : (Jvm.Cond.selects "CrowMiles$Doings" ({ cls := "CrowMiles$Doings", name := "deedEnds", desc := "(I)I" } : Jvm.MethodName) ({ cls := "CrowMiles$Doings", name := "deedEnds", desc := "(I)I" } : Jvm.MethodName)) ∈ zW := tg_i (tl_3 (List.mem_of_getElem? (i := 157) rfl)) rfl
theorem tw_3_158 : (Jvm.Cond.code ({ cls := "CrowMiles$Doings", name := "deedEnds", desc := "(I)I" } : Jvm.MethodName) prog_3_method_7_code (2 : Nat) (Option.some Jvm.ClassFile.FieldType.int)) ∈ zW := tg_i (tl_3 (List.mem_of_getElem? (i := 158) rfl)) rfl
theorem tw_3_159 : (Jvm.Cond.methodLink "CrowMiles" (196 : Nat) ({ cls := "CrowMiles$Doings", name := "deedLength", desc := "(I)I" } : Jvm.MethodName)) ∈ zW := tg_i (tl_3 (List.mem_of_getElem? (i := 159) rfl)) rfl
theorem tw_3_160 : (Jvm.Cond.methodLink "CrowMilesLaw" (98 : Nat) ({ cls := "CrowMiles", name := "note", desc := "(IIII)I" } : Jvm.MethodName)) ∈ zW := tg_i (tl_3 (List.mem_of_getElem? (i := 160) rfl)) rfl
theorem tw_3_161 : (Jvm.Cond.instanceMethod ({ cls := "CrowMiles", name := "note", desc := "(IIII)I" } : Jvm.MethodName)) ∈ zW := tg_i (tl_3 (List.mem_of_getElem? (i := 161) rfl)) rfl
theorem tw_3_162 : (Jvm.Cond.selects "CrowMiles" ({ cls := "CrowMiles", name := "note", desc := "(IIII)I" } : Jvm.MethodName) ({ cls := "CrowMiles", name := "note", desc := "(IIII)I" } : Jvm.MethodName)) ∈ zW := tg_i (tl_3 (List.mem_of_getElem? (i := 162) rfl)) rfl
theorem tw_3_163 : (Jvm.Cond.code ({ cls := "CrowMiles", name := "note", desc := "(IIII)I" } : Jvm.MethodName) prog_1_method_22_code (5 : Nat) (Option.some Jvm.ClassFile.FieldType.int)) ∈ zW := tg_i (tl_3 (List.mem_of_getElem? (i := 163) rfl)) rfl
theorem tw_3_164 : (Jvm.Cond.methodLink "CrowMiles" (199 : Nat) ({ cls := "CrowMiles", name := "isDayHour", desc := "(I)Z" } : Jvm.MethodName)) ∈ zW := tg_i (tl_3 (List.mem_of_getElem? (i := 164) rfl)) rfl
theorem tw_3_165 : (Jvm.Cond.static ({ cls := "CrowMiles", name := "isDayHour", desc := "(I)Z" } : Jvm.MethodName)) ∈ zW := tg_i (tl_3 (List.mem_of_getElem? (i := 165) rfl)) rfl
theorem tw_3_166 : (Jvm.Cond.code ({ cls := "CrowMiles", name := "isDayHour", desc := "(I)Z" } : Jvm.MethodName) prog_1_method_40_code (1 : Nat) (Option.some Jvm.ClassFile.FieldType.boolean)) ∈ zW := tg_i (tl_3 (List.mem_of_getElem? (i := 166) rfl)) rfl
theorem tw_3_167 : (Jvm.Cond.methodLink "CrowMiles" (206 : Nat) ({ cls := "CrowMiles$Sightings", name := "isFull", desc := "()Z" } : Jvm.MethodName)) ∈ zW := tg_i (tl_3 (List.mem_of_getElem? (i := 167) rfl)) rfl
theorem tw_3_168 : (Jvm.Cond.instanceMethod ({ cls := "CrowMiles$Sightings", name := "isFull", desc := "()Z" } : Jvm.MethodName)) ∈ zW := tg_i (tl_3 (List.mem_of_getElem? (i := 168) rfl)) rfl
theorem tw_3_169 : (Jvm.Cond.selects "CrowMiles$Sightings" ({ cls := "CrowMiles$Sightings", name := "isFull", desc := "()Z" } : Jvm.MethodName) ({ cls := "CrowMiles$Sightings", name := "isFull", desc := "()Z" } : Jvm.MethodName)) ∈ zW := tg_i (tl_3 (List.mem_of_getElem? (i := 169) rfl)) rfl
theorem tw_3_170 : (Jvm.Cond.code ({ cls := "CrowMiles$Sightings", name := "isFull", desc := "()Z" } : Jvm.MethodName) prog_8_method_3_code (1 : Nat) (Option.some Jvm.ClassFile.FieldType.boolean)) ∈ zW := tg_i (tl_3 (List.mem_of_getElem? (i := 170) rfl)) rfl
theorem tw_3_171 : (Jvm.Cond.methodLink "CrowMiles" (212 : Nat) ({ cls := "CrowMiles$Sightings", name := "add", desc := "(IIIII)I" } : Jvm.MethodName)) ∈ zW := tg_i (tl_3 (List.mem_of_getElem? (i := 171) rfl)) rfl
theorem tw_3_172 : (Jvm.Cond.instanceMethod ({ cls := "CrowMiles$Sightings", name := "add", desc := "(IIIII)I" } : Jvm.MethodName)) ∈ zW := tg_i (tl_3 (List.mem_of_getElem? (i := 172) rfl)) rfl
theorem tw_3_173 : (Jvm.Cond.selects "CrowMiles$Sightings" ({ cls := "CrowMiles$Sightings", name := "add", desc := "(IIIII)I" } : Jvm.MethodName) ({ cls := "CrowMiles$Sightings", name := "add", desc := "(IIIII)I" } : Jvm.MethodName)) ∈ zW := tg_i (tl_3 (List.mem_of_getElem? (i := 173) rfl)) rfl
theorem tw_3_174 : (Jvm.Cond.code ({ cls := "CrowMiles$Sightings", name := "add", desc := "(IIIII)I" } : Jvm.MethodName) prog_8_method_4_code (7 : Nat) (Option.some Jvm.ClassFile.FieldType.int)) ∈ zW := tg_i (tl_3 (List.mem_of_getElem? (i := 174) rfl)) rfl
theorem tw_3_175 : (Jvm.Cond.methodLink "CrowMiles$Sightings" (29 : Nat) ({ cls := "CrowMiles$Sightings", name := "isFull", desc := "()Z" } : Jvm.MethodName)) ∈ zW := tg_i (tl_3 (List.mem_of_getElem? (i := 175) rfl)) rfl
theorem tw_3_176 : (Jvm.Cond.methodLink "CrowMilesLaw" (102 : Nat) ({ cls := "CrowMiles", name := "mark", desc := "(IIIII)I" } : Jvm.MethodName)) ∈ zW := tg_i (tl_3 (List.mem_of_getElem? (i := 176) rfl)) rfl
theorem tw_3_177 : (Jvm.Cond.instanceMethod ({ cls := "CrowMiles", name := "mark", desc := "(IIIII)I" } : Jvm.MethodName)) ∈ zW := tg_i (tl_3 (List.mem_of_getElem? (i := 177) rfl)) rfl
theorem tw_3_178 : (Jvm.Cond.selects "CrowMiles" ({ cls := "CrowMiles", name := "mark", desc := "(IIIII)I" } : Jvm.MethodName) ({ cls := "CrowMiles", name := "mark", desc := "(IIIII)I" } : Jvm.MethodName)) ∈ zW := tg_i (tl_3 (List.mem_of_getElem? (i := 178) rfl)) rfl
theorem tw_3_179 : (Jvm.Cond.code ({ cls := "CrowMiles", name := "mark", desc := "(IIIII)I" } : Jvm.MethodName) prog_1_method_23_code (6 : Nat) (Option.some Jvm.ClassFile.FieldType.int)) ∈ zW := tg_i (tl_3 (List.mem_of_getElem? (i := 179) rfl)) rfl
theorem tw_3_180 : (Jvm.Cond.methodLink "CrowMilesLaw" (107 : Nat) ({ cls := "CrowMiles", name := "forget", desc := "(I)I" } : Jvm.MethodName)) ∈ zW := tg_i (tl_3 (List.mem_of_getElem? (i := 180) rfl)) rfl
theorem tw_3_181 : (Jvm.Cond.instanceMethod ({ cls := "CrowMiles", name := "forget", desc := "(I)I" } : Jvm.MethodName)) ∈ zW := tg_i (tl_3 (List.mem_of_getElem? (i := 181) rfl)) rfl
theorem tw_3_182 : (Jvm.Cond.selects "CrowMiles" ({ cls := "CrowMiles", name := "forget", desc := "(I)I" } : Jvm.MethodName) ({ cls := "CrowMiles", name := "forget", desc := "(I)I" } : Jvm.MethodName)) ∈ zW := tg_i (tl_3 (List.mem_of_getElem? (i := 182) rfl)) rfl
theorem tw_3_183 : (Jvm.Cond.code ({ cls := "CrowMiles", name := "forget", desc := "(I)I" } : Jvm.MethodName) prog_1_method_24_code (2 : Nat) (Option.some Jvm.ClassFile.FieldType.int)) ∈ zW := tg_i (tl_3 (List.mem_of_getElem? (i := 183) rfl)) rfl
theorem tw_3_184 : (Jvm.Cond.methodLink "CrowMiles" (218 : Nat) ({ cls := "CrowMiles$Sightings", name := "drop", desc := "()I" } : Jvm.MethodName)) ∈ zW := tg_i (tl_3 (List.mem_of_getElem? (i := 184) rfl)) rfl
theorem tw_3_185 : (Jvm.Cond.instanceMethod ({ cls := "CrowMiles$Sightings", name := "drop", desc := "()I" } : Jvm.MethodName)) ∈ zW := tg_i (tl_3 (List.mem_of_getElem? (i := 185) rfl)) rfl
theorem tw_3_186 : (Jvm.Cond.selects "CrowMiles$Sightings" ({ cls := "CrowMiles$Sightings", name := "drop", desc := "()I" } : Jvm.MethodName) ({ cls := "CrowMiles$Sightings", name := "drop", desc := "()I" } : Jvm.MethodName)) ∈ zW := tg_i (tl_3 (List.mem_of_getElem? (i := 186) rfl)) rfl
theorem tw_3_187 : (Jvm.Cond.code ({ cls := "CrowMiles$Sightings", name := "drop", desc := "()I" } : Jvm.MethodName) prog_8_method_5_code (2 : Nat) (Option.some Jvm.ClassFile.FieldType.int)) ∈ zW := tg_i (tl_3 (List.mem_of_getElem? (i := 187) rfl)) rfl
theorem tw_3_188 : (Jvm.Cond.methodLink "CrowMiles" (221 : Nat) ({ cls := "CrowMiles$Doings", name := "dropDeeds", desc := "()I" } : Jvm.MethodName)) ∈ zW := tg_i (tl_3 (List.mem_of_getElem? (i := 188) rfl)) rfl
theorem tw_3_189 : (Jvm.Cond.instanceMethod ({ cls := "CrowMiles$Doings", name := "dropDeeds", desc := "()I" } : Jvm.MethodName)) ∈ zW := tg_i (tl_3 (List.mem_of_getElem? (i := 189) rfl)) rfl
theorem tw_3_190 : (Jvm.Cond.selects "CrowMiles$Doings" ({ cls := "CrowMiles$Doings", name := "dropDeeds", desc := "()I" } : Jvm.MethodName) ({ cls := "CrowMiles$Doings", name := "dropDeeds", desc := "()I" } : Jvm.MethodName)) ∈ zW := tg_i (tl_3 (List.mem_of_getElem? (i := 190) rfl)) rfl
theorem tw_3_191 : (Jvm.Cond.code ({ cls := "CrowMiles$Doings", name := "dropDeeds", desc := "()I" } : Jvm.MethodName) prog_3_method_6_code (2 : Nat) (Option.some Jvm.ClassFile.FieldType.int)) ∈ zW := tg_i (tl_3 (List.mem_of_getElem? (i := 191) rfl)) rfl
theorem tw_3_192 : (Jvm.Cond.methodLink "CrowMilesLaw" (111 : Nat) ({ cls := "CrowMiles", name := "is", desc := "(I)I" } : Jvm.MethodName)) ∈ zW := tg_i (tl_3 (List.mem_of_getElem? (i := 192) rfl)) rfl
theorem tw_3_193 : (Jvm.Cond.instanceMethod ({ cls := "CrowMiles", name := "is", desc := "(I)I" } : Jvm.MethodName)) ∈ zW := tg_i (tl_3 (List.mem_of_getElem? (i := 193) rfl)) rfl
theorem tw_3_194 : (Jvm.Cond.selects "CrowMiles" ({ cls := "CrowMiles", name := "is", desc := "(I)I" } : Jvm.MethodName) ({ cls := "CrowMiles", name := "is", desc := "(I)I" } : Jvm.MethodName)) ∈ zW := tg_i (tl_3 (List.mem_of_getElem? (i := 194) rfl)) rfl
theorem tw_3_195 : (Jvm.Cond.code ({ cls := "CrowMiles", name := "is", desc := "(I)I" } : Jvm.MethodName) prog_1_method_25_code (2 : Nat) (Option.some Jvm.ClassFile.FieldType.int)) ∈ zW := tg_i (tl_3 (List.mem_of_getElem? (i := 195) rfl)) rfl
theorem tw_3_196 : (Jvm.Cond.methodLink "CrowMiles" (224 : Nat) ({ cls := "CrowMiles$Sightings", name := "kindsLeft", desc := "(I)I" } : Jvm.MethodName)) ∈ zW := tg_i (tl_3 (List.mem_of_getElem? (i := 196) rfl)) rfl
theorem tw_3_197 : (Jvm.Cond.instanceMethod ({ cls := "CrowMiles$Sightings", name := "kindsLeft", desc := "(I)I" } : Jvm.MethodName)) ∈ zW := tg_i (tl_3 (List.mem_of_getElem? (i := 197) rfl)) rfl
theorem tw_3_198 : (Jvm.Cond.selects "CrowMiles$Sightings" ({ cls := "CrowMiles$Sightings", name := "kindsLeft", desc := "(I)I" } : Jvm.MethodName) ({ cls := "CrowMiles$Sightings", name := "kindsLeft", desc := "(I)I" } : Jvm.MethodName)) ∈ zW := tg_i (tl_3 (List.mem_of_getElem? (i := 198) rfl)) rfl
theorem tw_3_199 : (Jvm.Cond.code ({ cls := "CrowMiles$Sightings", name := "kindsLeft", desc := "(I)I" } : Jvm.MethodName) prog_8_method_6_code (4 : Nat) (Option.some Jvm.ClassFile.FieldType.int)) ∈ zW := tg_i (tl_3 (List.mem_of_getElem? (i := 199) rfl)) rfl
theorem tw_3_200 : (Jvm.Cond.methodLink "CrowMiles$Sightings" (33 : Nat) ({ cls := "CrowMiles$Sightings", name := "allow", desc := "(II)Z" } : Jvm.MethodName)) ∈ zW := tg_i (tl_3 (List.mem_of_getElem? (i := 200) rfl)) rfl
theorem tw_3_202 : (Jvm.Cond.instanceMethod ({ cls := "CrowMiles$Sightings", name := "allow", desc := "(II)Z" } : Jvm.MethodName)) ∈ zW := tg_i (tl_3 (List.mem_of_getElem? (i := 202) rfl)) rfl
theorem tw_3_203 : (Jvm.Cond.code ({ cls := "CrowMiles$Sightings", name := "allow", desc := "(II)Z" } : Jvm.MethodName) prog_8_method_7_code (4 : Nat) (Option.some Jvm.ClassFile.FieldType.boolean)) ∈ zW := tg_i (tl_3 (List.mem_of_getElem? (i := 203) rfl)) rfl
theorem tw_3_204 : (Jvm.Cond.methodLink "CrowMiles$Sightings" (37 : Nat) ({ cls := "CrowMiles$Kinds", name := "told", desc := "(ZIIII)I" } : Jvm.MethodName)) ∈ zW := tg_i (tl_3 (List.mem_of_getElem? (i := 204) rfl)) rfl
theorem tw_3_205 : (Jvm.Cond.static ({ cls := "CrowMiles$Kinds", name := "told", desc := "(ZIIII)I" } : Jvm.MethodName)) ∈ zW := tg_i (tl_3 (List.mem_of_getElem? (i := 205) rfl)) rfl
theorem tw_3_206 : (Jvm.Cond.code ({ cls := "CrowMiles$Kinds", name := "told", desc := "(ZIIII)I" } : Jvm.MethodName) prog_4_method_4_code (5 : Nat) (Option.some Jvm.ClassFile.FieldType.int)) ∈ zW := tg_i (tl_3 (List.mem_of_getElem? (i := 206) rfl)) rfl
theorem tw_3_207 : (Jvm.Cond.methodLink "CrowMiles$Kinds" (7 : Nat) ({ cls := "CrowMiles$Kinds", name := "made", desc := "(IIII)I" } : Jvm.MethodName)) ∈ zW := tg_i (tl_3 (List.mem_of_getElem? (i := 207) rfl)) rfl
theorem tw_3_208 : (Jvm.Cond.methodLink "CrowMiles$Kinds" (13 : Nat) ({ cls := "CrowMiles$Kinds", name := "reach", desc := "(III)I" } : Jvm.MethodName)) ∈ zW := tg_i (tl_3 (List.mem_of_getElem? (i := 208) rfl)) rfl
theorem tw_3_209 : (Jvm.Cond.methodLink "CrowMilesLaw" (115 : Nat) ({ cls := "CrowMiles", name := "look", desc := "(I)I" } : Jvm.MethodName)) ∈ zW := tg_i (tl_3 (List.mem_of_getElem? (i := 209) rfl)) rfl
theorem tw_3_210 : (Jvm.Cond.instanceMethod ({ cls := "CrowMiles", name := "look", desc := "(I)I" } : Jvm.MethodName)) ∈ zW := tg_i (tl_3 (List.mem_of_getElem? (i := 210) rfl)) rfl
theorem tw_3_211 : (Jvm.Cond.selects "CrowMiles" ({ cls := "CrowMiles", name := "look", desc := "(I)I" } : Jvm.MethodName) ({ cls := "CrowMiles", name := "look", desc := "(I)I" } : Jvm.MethodName)) ∈ zW := tg_i (tl_3 (List.mem_of_getElem? (i := 211) rfl)) rfl
theorem tw_3_212 : (Jvm.Cond.code ({ cls := "CrowMiles", name := "look", desc := "(I)I" } : Jvm.MethodName) prog_1_method_26_code (2 : Nat) (Option.some Jvm.ClassFile.FieldType.int)) ∈ zW := tg_i (tl_3 (List.mem_of_getElem? (i := 212) rfl)) rfl
theorem tw_3_213 : (Jvm.Cond.methodLink "CrowMiles" (227 : Nat) ({ cls := "CrowMiles$Questions", name := "best", desc := "(ZIII)I" } : Jvm.MethodName)) ∈ zW := tg_i (tl_3 (List.mem_of_getElem? (i := 213) rfl)) rfl
theorem tw_3_214 : (Jvm.Cond.instanceMethod ({ cls := "CrowMiles$Questions", name := "best", desc := "(ZIII)I" } : Jvm.MethodName)) ∈ zW := tg_i (tl_3 (List.mem_of_getElem? (i := 214) rfl)) rfl
theorem tw_3_215 : (Jvm.Cond.selects "CrowMiles$Questions" ({ cls := "CrowMiles$Questions", name := "best", desc := "(ZIII)I" } : Jvm.MethodName) ({ cls := "CrowMiles$Questions", name := "best", desc := "(ZIII)I" } : Jvm.MethodName)) ∈ zW := tg_i (tl_3 (List.mem_of_getElem? (i := 215) rfl)) rfl
theorem tw_3_216 : (Jvm.Cond.code ({ cls := "CrowMiles$Questions", name := "best", desc := "(ZIII)I" } : Jvm.MethodName) prog_5_method_2_code (10 : Nat) (Option.some Jvm.ClassFile.FieldType.int)) ∈ zW := tg_i (tl_3 (List.mem_of_getElem? (i := 216) rfl)) rfl
theorem tw_3_217 : (Jvm.Cond.methodLink "CrowMiles$Questions" (15 : Nat) ({ cls := "CrowMiles$Kinds", name := "told", desc := "(ZIIII)I" } : Jvm.MethodName)) ∈ zW := tg_i (tl_3 (List.mem_of_getElem? (i := 217) rfl)) rfl
theorem tw_3_218 : (Jvm.Cond.methodLink "CrowMiles$Questions" (21 : Nat) ({ cls := "CrowMiles$Questions", name := "mostAlike", desc := "(I)I" } : Jvm.MethodName)) ∈ zW := tg_i (tl_3 (List.mem_of_getElem? (i := 218) rfl)) rfl
theorem tw_3_220 : (Jvm.Cond.instanceMethod ({ cls := "CrowMiles$Questions", name := "mostAlike", desc := "(I)I" } : Jvm.MethodName)) ∈ zW := tg_i (tl_3 (List.mem_of_getElem? (i := 220) rfl)) rfl
theorem tw_3_221 : (Jvm.Cond.code ({ cls := "CrowMiles$Questions", name := "mostAlike", desc := "(I)I" } : Jvm.MethodName) prog_5_method_3_code (6 : Nat) (Option.some Jvm.ClassFile.FieldType.int)) ∈ zW := tg_i (tl_3 (List.mem_of_getElem? (i := 221) rfl)) rfl
theorem tw_3_222 : (Jvm.Cond.methodLink "CrowMiles$Questions" (25 : Nat) ({ cls := "java/lang/Math", name := "max", desc := "(II)I" } : Jvm.MethodName)) ∈ zW := tg_i (tl_3 (List.mem_of_getElem? (i := 222) rfl)) rfl
theorem tw_3_223 : (Jvm.Cond.static ({ cls := "java/lang/Math", name := "max", desc := "(II)I" } : Jvm.MethodName)) ∈ zW := tg_i (tl_3 (List.mem_of_getElem? (i := 223) rfl)) rfl
theorem tw_3_224 : (Jvm.Cond.code ({ cls := "java/lang/Math", name := "max", desc := "(II)I" } : Jvm.MethodName) prog_11_method_65_code (2 : Nat) (Option.some Jvm.ClassFile.FieldType.int)) ∈ zW := tg_i (tl_3 (List.mem_of_getElem? (i := 224) rfl)) rfl
theorem tw_3_225 : (Jvm.Cond.methodLink "CrowMilesLaw" (119 : Nat) ({ cls := "CrowMiles", name := "kinds", desc := "(I)I" } : Jvm.MethodName)) ∈ zW := tg_i (tl_3 (List.mem_of_getElem? (i := 225) rfl)) rfl
theorem tw_3_226 : (Jvm.Cond.instanceMethod ({ cls := "CrowMiles", name := "kinds", desc := "(I)I" } : Jvm.MethodName)) ∈ zW := tg_i (tl_3 (List.mem_of_getElem? (i := 226) rfl)) rfl
theorem tw_3_227 : (Jvm.Cond.selects "CrowMiles" ({ cls := "CrowMiles", name := "kinds", desc := "(I)I" } : Jvm.MethodName) ({ cls := "CrowMiles", name := "kinds", desc := "(I)I" } : Jvm.MethodName)) ∈ zW := tg_i (tl_3 (List.mem_of_getElem? (i := 227) rfl)) rfl
theorem tw_3_228 : (Jvm.Cond.code ({ cls := "CrowMiles", name := "kinds", desc := "(I)I" } : Jvm.MethodName) prog_1_method_27_code (2 : Nat) (Option.some Jvm.ClassFile.FieldType.int)) ∈ zW := tg_i (tl_3 (List.mem_of_getElem? (i := 228) rfl)) rfl
theorem tw_3_229 : (Jvm.Cond.methodLink "CrowMilesLaw" (123 : Nat) ({ cls := "CrowMiles", name := "ask", desc := "(I)I" } : Jvm.MethodName)) ∈ zW := tg_i (tl_3 (List.mem_of_getElem? (i := 229) rfl)) rfl
theorem tw_3_230 : (Jvm.Cond.instanceMethod ({ cls := "CrowMiles", name := "ask", desc := "(I)I" } : Jvm.MethodName)) ∈ zW := tg_i (tl_3 (List.mem_of_getElem? (i := 230) rfl)) rfl
theorem tw_3_231 : (Jvm.Cond.selects "CrowMiles" ({ cls := "CrowMiles", name := "ask", desc := "(I)I" } : Jvm.MethodName) ({ cls := "CrowMiles", name := "ask", desc := "(I)I" } : Jvm.MethodName)) ∈ zW := tg_i (tl_3 (List.mem_of_getElem? (i := 231) rfl)) rfl
theorem tw_3_232 : (Jvm.Cond.code ({ cls := "CrowMiles", name := "ask", desc := "(I)I" } : Jvm.MethodName) prog_1_method_28_code (2 : Nat) (Option.some Jvm.ClassFile.FieldType.int)) ∈ zW := tg_i (tl_3 (List.mem_of_getElem? (i := 232) rfl)) rfl
theorem tw_3_233 : (Jvm.Cond.methodLink "CrowMilesLaw" (127 : Nat) ({ cls := "CrowMiles", name := "owner", desc := "(II)I" } : Jvm.MethodName)) ∈ zW := tg_i (tl_3 (List.mem_of_getElem? (i := 233) rfl)) rfl
theorem tw_3_234 : (Jvm.Cond.instanceMethod ({ cls := "CrowMiles", name := "owner", desc := "(II)I" } : Jvm.MethodName)) ∈ zW := tg_i (tl_3 (List.mem_of_getElem? (i := 234) rfl)) rfl
theorem tw_3_235 : (Jvm.Cond.selects "CrowMiles" ({ cls := "CrowMiles", name := "owner", desc := "(II)I" } : Jvm.MethodName) ({ cls := "CrowMiles", name := "owner", desc := "(II)I" } : Jvm.MethodName)) ∈ zW := tg_i (tl_3 (List.mem_of_getElem? (i := 235) rfl)) rfl
theorem tw_3_236 : (Jvm.Cond.code ({ cls := "CrowMiles", name := "owner", desc := "(II)I" } : Jvm.MethodName) prog_1_method_29_code (3 : Nat) (Option.some Jvm.ClassFile.FieldType.int)) ∈ zW := tg_i (tl_3 (List.mem_of_getElem? (i := 236) rfl)) rfl
theorem tw_3_237 : (Jvm.Cond.methodLink "CrowMiles" (231 : Nat) ({ cls := "CrowMiles$Roads", name := "findRestingPairs", desc := "(I)I" } : Jvm.MethodName)) ∈ zW := tg_i (tl_3 (List.mem_of_getElem? (i := 237) rfl)) rfl
theorem tw_3_238 : (Jvm.Cond.instanceMethod ({ cls := "CrowMiles$Roads", name := "findRestingPairs", desc := "(I)I" } : Jvm.MethodName)) ∈ zW := tg_i (tl_3 (List.mem_of_getElem? (i := 238) rfl)) rfl
theorem tw_3_239 : (Jvm.Cond.selects "CrowMiles$Roads" ({ cls := "CrowMiles$Roads", name := "findRestingPairs", desc := "(I)I" } : Jvm.MethodName) ({ cls := "CrowMiles$Roads", name := "findRestingPairs", desc := "(I)I" } : Jvm.MethodName)) ∈ zW := tg_i (tl_3 (List.mem_of_getElem? (i := 239) rfl)) rfl
theorem tw_4_0 : (Jvm.Cond.code ({ cls := "CrowMiles$Roads", name := "findRestingPairs", desc := "(I)I" } : Jvm.MethodName) prog_7_method_15_code (4 : Nat) (Option.some Jvm.ClassFile.FieldType.int)) ∈ zW := tg_i (tl_4 (List.mem_of_getElem? (i := 0) rfl)) rfl
theorem tw_4_1 : (Jvm.Cond.methodLink "CrowMiles$Roads" (72 : Nat) ({ cls := "CrowMiles$Roads", name := "isResting", desc := "(III)Z" } : Jvm.MethodName)) ∈ zW := tg_i (tl_4 (List.mem_of_getElem? (i := 1) rfl)) rfl
theorem tw_4_3 : (Jvm.Cond.instanceMethod ({ cls := "CrowMiles$Roads", name := "isResting", desc := "(III)Z" } : Jvm.MethodName)) ∈ zW := tg_i (tl_4 (List.mem_of_getElem? (i := 3) rfl)) rfl
theorem tw_4_4 : (Jvm.Cond.code ({ cls := "CrowMiles$Roads", name := "isResting", desc := "(III)Z" } : Jvm.MethodName) prog_7_method_16_code (5 : Nat) (Option.some Jvm.ClassFile.FieldType.boolean)) ∈ zW := tg_i (tl_4 (List.mem_of_getElem? (i := 4) rfl)) rfl
theorem tw_4_5 : (Jvm.Cond.methodLink "CrowMiles$Roads" (76 : Nat) ({ cls := "CrowMiles$Roads", name := "surveyorGets", desc := "(III)I" } : Jvm.MethodName)) ∈ zW := tg_i (tl_4 (List.mem_of_getElem? (i := 5) rfl)) rfl
theorem tw_4_7 : (Jvm.Cond.instanceMethod ({ cls := "CrowMiles$Roads", name := "surveyorGets", desc := "(III)I" } : Jvm.MethodName)) ∈ zW := tg_i (tl_4 (List.mem_of_getElem? (i := 7) rfl)) rfl
theorem tw_4_8 : (Jvm.Cond.code ({ cls := "CrowMiles$Roads", name := "surveyorGets", desc := "(III)I" } : Jvm.MethodName) prog_7_method_17_code (4 : Nat) (Option.some Jvm.ClassFile.FieldType.int)) ∈ zW := tg_i (tl_4 (List.mem_of_getElem? (i := 8) rfl)) rfl
theorem tw_4_9 : (Jvm.Cond.methodLink "CrowMiles$Roads" (79 : Nat) ({ cls := "CrowMiles$Roads", name := "ownerGets", desc := "(III)I" } : Jvm.MethodName)) ∈ zW := tg_i (tl_4 (List.mem_of_getElem? (i := 9) rfl)) rfl
theorem tw_4_11 : (Jvm.Cond.instanceMethod ({ cls := "CrowMiles$Roads", name := "ownerGets", desc := "(III)I" } : Jvm.MethodName)) ∈ zW := tg_i (tl_4 (List.mem_of_getElem? (i := 11) rfl)) rfl
theorem tw_4_12 : (Jvm.Cond.code ({ cls := "CrowMiles$Roads", name := "ownerGets", desc := "(III)I" } : Jvm.MethodName) prog_7_method_18_code (4 : Nat) (Option.some Jvm.ClassFile.FieldType.int)) ∈ zW := tg_i (tl_4 (List.mem_of_getElem? (i := 12) rfl)) rfl
theorem tw_4_13 : (Jvm.Cond.methodLink "CrowMilesLaw" (131 : Nat) ({ cls := "CrowMiles", name := "wind", desc := "(IIII)I" } : Jvm.MethodName)) ∈ zW := tg_i (tl_4 (List.mem_of_getElem? (i := 13) rfl)) rfl
theorem tw_4_14 : (Jvm.Cond.instanceMethod ({ cls := "CrowMiles", name := "wind", desc := "(IIII)I" } : Jvm.MethodName)) ∈ zW := tg_i (tl_4 (List.mem_of_getElem? (i := 14) rfl)) rfl
theorem tw_4_15 : (Jvm.Cond.selects "CrowMiles" ({ cls := "CrowMiles", name := "wind", desc := "(IIII)I" } : Jvm.MethodName) ({ cls := "CrowMiles", name := "wind", desc := "(IIII)I" } : Jvm.MethodName)) ∈ zW := tg_i (tl_4 (List.mem_of_getElem? (i := 15) rfl)) rfl
theorem tw_4_16 : (Jvm.Cond.code ({ cls := "CrowMiles", name := "wind", desc := "(IIII)I" } : Jvm.MethodName) prog_1_method_30_code (7 : Nat) (Option.some Jvm.ClassFile.FieldType.int)) ∈ zW := tg_i (tl_4 (List.mem_of_getElem? (i := 16) rfl)) rfl
theorem tw_4_17 : (Jvm.Cond.methodLink "CrowMiles" (234 : Nat) ({ cls := "CrowMiles", name := "keepFraction", desc := "(II)V" } : Jvm.MethodName)) ∈ zW := tg_i (tl_4 (List.mem_of_getElem? (i := 17) rfl)) rfl
theorem tw_4_19 : (Jvm.Cond.instanceMethod ({ cls := "CrowMiles", name := "keepFraction", desc := "(II)V" } : Jvm.MethodName)) ∈ zW := tg_i (tl_4 (List.mem_of_getElem? (i := 19) rfl)) rfl
theorem tw_4_20 : (Jvm.Cond.code ({ cls := "CrowMiles", name := "keepFraction", desc := "(II)V" } : Jvm.MethodName) prog_1_method_47_code (7 : Nat) (Option.none : Option Jvm.ClassFile.FieldType)) ∈ zW := tg_i (tl_4 (List.mem_of_getElem? (i := 20) rfl)) rfl
theorem tw_4_21 : (Jvm.Cond.methodLink "CrowMilesLaw" (135 : Nat) ({ cls := "CrowMiles", name := "years", desc := "(II)I" } : Jvm.MethodName)) ∈ zW := tg_i (tl_4 (List.mem_of_getElem? (i := 21) rfl)) rfl
theorem tw_4_22 : (Jvm.Cond.instanceMethod ({ cls := "CrowMiles", name := "years", desc := "(II)I" } : Jvm.MethodName)) ∈ zW := tg_i (tl_4 (List.mem_of_getElem? (i := 22) rfl)) rfl
theorem tw_4_23 : (Jvm.Cond.selects "CrowMiles" ({ cls := "CrowMiles", name := "years", desc := "(II)I" } : Jvm.MethodName) ({ cls := "CrowMiles", name := "years", desc := "(II)I" } : Jvm.MethodName)) ∈ zW := tg_i (tl_4 (List.mem_of_getElem? (i := 23) rfl)) rfl
theorem tw_4_24 : (Jvm.Cond.code ({ cls := "CrowMiles", name := "years", desc := "(II)I" } : Jvm.MethodName) prog_1_method_31_code (7 : Nat) (Option.some Jvm.ClassFile.FieldType.int)) ∈ zW := tg_i (tl_4 (List.mem_of_getElem? (i := 24) rfl)) rfl
theorem tw_4_25 : (Jvm.Cond.constant "CrowMiles" (238 : Nat) (999999 : Int32)) ∈ zW := tg_i (tl_4 (List.mem_of_getElem? (i := 25) rfl)) rfl
theorem tw_4_26 : (Jvm.Cond.methodLink "CrowMiles" (239 : Nat) ({ cls := "CrowMiles$Doings", name := "become", desc := "(LCrowMiles$Doings;)V" } : Jvm.MethodName)) ∈ zW := tg_i (tl_4 (List.mem_of_getElem? (i := 26) rfl)) rfl
theorem tw_4_27 : (Jvm.Cond.constantLong "CrowMiles" (242 : Nat) (1103515245 : Int64)) ∈ zW := tg_i (tl_4 (List.mem_of_getElem? (i := 27) rfl)) rfl
theorem tw_4_28 : (Jvm.Cond.constantLong "CrowMiles" (244 : Nat) (12345 : Int64)) ∈ zW := tg_i (tl_4 (List.mem_of_getElem? (i := 28) rfl)) rfl
theorem tw_4_29 : (Jvm.Cond.constantLong "CrowMiles" (246 : Nat) (2147483648 : Int64)) ∈ zW := tg_i (tl_4 (List.mem_of_getElem? (i := 29) rfl)) rfl
theorem tw_4_30 : (Jvm.Cond.constantLong "CrowMiles" (248 : Nat) (65536 : Int64)) ∈ zW := tg_i (tl_4 (List.mem_of_getElem? (i := 30) rfl)) rfl
theorem tw_4_31 : (Jvm.Cond.constantLong "CrowMiles" (250 : Nat) (3 : Int64)) ∈ zW := tg_i (tl_4 (List.mem_of_getElem? (i := 31) rfl)) rfl
theorem tw_4_32 : (Jvm.Cond.constantLong "CrowMiles" (252 : Nat) (1048576 : Int64)) ∈ zW := tg_i (tl_4 (List.mem_of_getElem? (i := 32) rfl)) rfl
theorem tw_4_33 : (Jvm.Cond.constantLong "CrowMiles" (254 : Nat) (7 : Int64)) ∈ zW := tg_i (tl_4 (List.mem_of_getElem? (i := 33) rfl)) rfl
theorem tw_4_34 : (Jvm.Cond.methodLink "CrowMiles" (256 : Nat) ({ cls := "CrowMiles", name := "travel", desc := "(II)I" } : Jvm.MethodName)) ∈ zW := tg_i (tl_4 (List.mem_of_getElem? (i := 34) rfl)) rfl
theorem tw_4_36 : (Jvm.Cond.instanceMethod ({ cls := "CrowMiles", name := "travel", desc := "(II)I" } : Jvm.MethodName)) ∈ zW := tg_i (tl_4 (List.mem_of_getElem? (i := 36) rfl)) rfl
theorem tw_4_37 : (Jvm.Cond.code ({ cls := "CrowMiles", name := "travel", desc := "(II)I" } : Jvm.MethodName) prog_1_method_48_code (3 : Nat) (Option.some Jvm.ClassFile.FieldType.int)) ∈ zW := tg_i (tl_4 (List.mem_of_getElem? (i := 37) rfl)) rfl
theorem tw_4_38 : (Jvm.Cond.methodLink "CrowMilesLaw" (139 : Nat) ({ cls := "CrowMiles", name := "part", desc := "(I)J" } : Jvm.MethodName)) ∈ zW := tg_i (tl_4 (List.mem_of_getElem? (i := 38) rfl)) rfl
theorem tw_4_39 : (Jvm.Cond.instanceMethod ({ cls := "CrowMiles", name := "part", desc := "(I)J" } : Jvm.MethodName)) ∈ zW := tg_i (tl_4 (List.mem_of_getElem? (i := 39) rfl)) rfl
theorem tw_4_40 : (Jvm.Cond.selects "CrowMiles" ({ cls := "CrowMiles", name := "part", desc := "(I)J" } : Jvm.MethodName) ({ cls := "CrowMiles", name := "part", desc := "(I)J" } : Jvm.MethodName)) ∈ zW := tg_i (tl_4 (List.mem_of_getElem? (i := 40) rfl)) rfl
theorem tw_4_41 : (Jvm.Cond.code ({ cls := "CrowMiles", name := "part", desc := "(I)J" } : Jvm.MethodName) prog_1_method_32_code (2 : Nat) (Option.some Jvm.ClassFile.FieldType.long)) ∈ zW := tg_i (tl_4 (List.mem_of_getElem? (i := 41) rfl)) rfl
theorem tw_4_42 : (Jvm.Cond.methodLink "CrowMilesLaw" (144 : Nat) ({ cls := "CrowMiles", name := "image", desc := "(I)I" } : Jvm.MethodName)) ∈ zW := tg_i (tl_4 (List.mem_of_getElem? (i := 42) rfl)) rfl
theorem tw_4_43 : (Jvm.Cond.instanceMethod ({ cls := "CrowMiles", name := "image", desc := "(I)I" } : Jvm.MethodName)) ∈ zW := tg_i (tl_4 (List.mem_of_getElem? (i := 43) rfl)) rfl
theorem tw_4_44 : (Jvm.Cond.selects "CrowMiles" ({ cls := "CrowMiles", name := "image", desc := "(I)I" } : Jvm.MethodName) ({ cls := "CrowMiles", name := "image", desc := "(I)I" } : Jvm.MethodName)) ∈ zW := tg_i (tl_4 (List.mem_of_getElem? (i := 44) rfl)) rfl
theorem tw_4_45 : (Jvm.Cond.code ({ cls := "CrowMiles", name := "image", desc := "(I)I" } : Jvm.MethodName) prog_1_method_33_code (2 : Nat) (Option.some Jvm.ClassFile.FieldType.int)) ∈ zW := tg_i (tl_4 (List.mem_of_getElem? (i := 45) rfl)) rfl
theorem tw_4_46 : (Jvm.Cond.methodLink "CrowMilesLaw" (148 : Nat) ({ cls := "CrowMiles", name := "from", desc := "(I)I" } : Jvm.MethodName)) ∈ zW := tg_i (tl_4 (List.mem_of_getElem? (i := 46) rfl)) rfl
theorem tw_4_47 : (Jvm.Cond.instanceMethod ({ cls := "CrowMiles", name := "from", desc := "(I)I" } : Jvm.MethodName)) ∈ zW := tg_i (tl_4 (List.mem_of_getElem? (i := 47) rfl)) rfl
theorem tw_4_48 : (Jvm.Cond.selects "CrowMiles" ({ cls := "CrowMiles", name := "from", desc := "(I)I" } : Jvm.MethodName) ({ cls := "CrowMiles", name := "from", desc := "(I)I" } : Jvm.MethodName)) ∈ zW := tg_i (tl_4 (List.mem_of_getElem? (i := 48) rfl)) rfl
theorem tw_4_49 : (Jvm.Cond.code ({ cls := "CrowMiles", name := "from", desc := "(I)I" } : Jvm.MethodName) prog_1_method_34_code (2 : Nat) (Option.some Jvm.ClassFile.FieldType.int)) ∈ zW := tg_i (tl_4 (List.mem_of_getElem? (i := 49) rfl)) rfl
theorem tw_4_50 : (Jvm.Cond.methodLink "CrowMilesLaw" (152 : Nat) ({ cls := "CrowMiles", name := "status", desc := "(I)I" } : Jvm.MethodName)) ∈ zW := tg_i (tl_4 (List.mem_of_getElem? (i := 50) rfl)) rfl
theorem tw_4_51 : (Jvm.Cond.instanceMethod ({ cls := "CrowMiles", name := "status", desc := "(I)I" } : Jvm.MethodName)) ∈ zW := tg_i (tl_4 (List.mem_of_getElem? (i := 51) rfl)) rfl
theorem tw_4_52 : (Jvm.Cond.selects "CrowMiles" ({ cls := "CrowMiles", name := "status", desc := "(I)I" } : Jvm.MethodName) ({ cls := "CrowMiles", name := "status", desc := "(I)I" } : Jvm.MethodName)) ∈ zW := tg_i (tl_4 (List.mem_of_getElem? (i := 52) rfl)) rfl
theorem tw_4_53 : (Jvm.Cond.code ({ cls := "CrowMiles", name := "status", desc := "(I)I" } : Jvm.MethodName) prog_1_method_35_code (2 : Nat) (Option.some Jvm.ClassFile.FieldType.int)) ∈ zW := tg_i (tl_4 (List.mem_of_getElem? (i := 53) rfl)) rfl
theorem tw_4_54 : (Jvm.Cond.methodLink "CrowMilesLaw" (156 : Nat) ({ cls := "CrowMiles", name := "count", desc := "(I)I" } : Jvm.MethodName)) ∈ zW := tg_i (tl_4 (List.mem_of_getElem? (i := 54) rfl)) rfl
theorem tw_4_55 : (Jvm.Cond.instanceMethod ({ cls := "CrowMiles", name := "count", desc := "(I)I" } : Jvm.MethodName)) ∈ zW := tg_i (tl_4 (List.mem_of_getElem? (i := 55) rfl)) rfl
theorem tw_4_56 : (Jvm.Cond.selects "CrowMiles" ({ cls := "CrowMiles", name := "count", desc := "(I)I" } : Jvm.MethodName) ({ cls := "CrowMiles", name := "count", desc := "(I)I" } : Jvm.MethodName)) ∈ zW := tg_i (tl_4 (List.mem_of_getElem? (i := 56) rfl)) rfl
theorem tw_4_57 : (Jvm.Cond.code ({ cls := "CrowMiles", name := "count", desc := "(I)I" } : Jvm.MethodName) prog_1_method_36_code (2 : Nat) (Option.some Jvm.ClassFile.FieldType.int)) ∈ zW := tg_i (tl_4 (List.mem_of_getElem? (i := 57) rfl)) rfl
theorem tw_4_58 : (Jvm.Cond.methodLink "CrowMiles" (271 : Nat) ({ cls := "CrowMiles", name := "amount", desc := "(I)I" } : Jvm.MethodName)) ∈ zW := tg_i (tl_4 (List.mem_of_getElem? (i := 58) rfl)) rfl
theorem tw_4_60 : (Jvm.Cond.instanceMethod ({ cls := "CrowMiles", name := "amount", desc := "(I)I" } : Jvm.MethodName)) ∈ zW := tg_i (tl_4 (List.mem_of_getElem? (i := 60) rfl)) rfl
theorem tw_4_61 : (Jvm.Cond.code ({ cls := "CrowMiles", name := "amount", desc := "(I)I" } : Jvm.MethodName) prog_1_method_46_code (2 : Nat) (Option.some Jvm.ClassFile.FieldType.int)) ∈ zW := tg_i (tl_4 (List.mem_of_getElem? (i := 61) rfl)) rfl
theorem tw_4_62 : (Jvm.Cond.methodLink "CrowMiles" (282 : Nat) ({ cls := "CrowMiles$Doings", name := "lengths", desc := "()I" } : Jvm.MethodName)) ∈ zW := tg_i (tl_4 (List.mem_of_getElem? (i := 62) rfl)) rfl
theorem tw_4_63 : (Jvm.Cond.instanceMethod ({ cls := "CrowMiles$Doings", name := "lengths", desc := "()I" } : Jvm.MethodName)) ∈ zW := tg_i (tl_4 (List.mem_of_getElem? (i := 63) rfl)) rfl
theorem tw_4_64 : (Jvm.Cond.selects "CrowMiles$Doings" ({ cls := "CrowMiles$Doings", name := "lengths", desc := "()I" } : Jvm.MethodName) ({ cls := "CrowMiles$Doings", name := "lengths", desc := "()I" } : Jvm.MethodName)) ∈ zW := tg_i (tl_4 (List.mem_of_getElem? (i := 64) rfl)) rfl
theorem tw_4_65 : (Jvm.Cond.code ({ cls := "CrowMiles$Doings", name := "lengths", desc := "()I" } : Jvm.MethodName) prog_3_method_10_code (3 : Nat) (Option.some Jvm.ClassFile.FieldType.int)) ∈ zW := tg_i (tl_4 (List.mem_of_getElem? (i := 65) rfl)) rfl
theorem tw_4_66 : (Jvm.Cond.methodLink "CrowMilesLaw" (160 : Nat) ({ cls := "CrowMiles", name := "digest", desc := "()J" } : Jvm.MethodName)) ∈ zW := tg_i (tl_4 (List.mem_of_getElem? (i := 66) rfl)) rfl
theorem tw_4_67 : (Jvm.Cond.instanceMethod ({ cls := "CrowMiles", name := "digest", desc := "()J" } : Jvm.MethodName)) ∈ zW := tg_i (tl_4 (List.mem_of_getElem? (i := 67) rfl)) rfl
theorem tw_4_68 : (Jvm.Cond.selects "CrowMiles" ({ cls := "CrowMiles", name := "digest", desc := "()J" } : Jvm.MethodName) ({ cls := "CrowMiles", name := "digest", desc := "()J" } : Jvm.MethodName)) ∈ zW := tg_i (tl_4 (List.mem_of_getElem? (i := 68) rfl)) rfl
theorem tw_4_69 : (Jvm.Cond.code ({ cls := "CrowMiles", name := "digest", desc := "()J" } : Jvm.MethodName) prog_1_method_37_code (4 : Nat) (Option.some Jvm.ClassFile.FieldType.long)) ∈ zW := tg_i (tl_4 (List.mem_of_getElem? (i := 69) rfl)) rfl
theorem tw_4_70 : (Jvm.Cond.constantLong "CrowMiles" (274 : Nat) (1753 : Int64)) ∈ zW := tg_i (tl_4 (List.mem_of_getElem? (i := 70) rfl)) rfl
theorem tw_4_71 : (Jvm.Cond.constantLong "CrowMiles" (276 : Nat) (31 : Int64)) ∈ zW := tg_i (tl_4 (List.mem_of_getElem? (i := 71) rfl)) rfl
theorem tw_4_72 : (Jvm.Cond.methodLink "CrowMiles" (278 : Nat) ({ cls := "CrowMiles$Country", name := "mixInto", desc := "(J)J" } : Jvm.MethodName)) ∈ zW := tg_i (tl_4 (List.mem_of_getElem? (i := 72) rfl)) rfl
theorem tw_4_73 : (Jvm.Cond.instanceMethod ({ cls := "CrowMiles$Country", name := "mixInto", desc := "(J)J" } : Jvm.MethodName)) ∈ zW := tg_i (tl_4 (List.mem_of_getElem? (i := 73) rfl)) rfl
theorem tw_4_74 : (Jvm.Cond.selects "CrowMiles$Country" ({ cls := "CrowMiles$Country", name := "mixInto", desc := "(J)J" } : Jvm.MethodName) ({ cls := "CrowMiles$Country", name := "mixInto", desc := "(J)J" } : Jvm.MethodName)) ∈ zW := tg_i (tl_4 (List.mem_of_getElem? (i := 74) rfl)) rfl
theorem tw_4_75 : (Jvm.Cond.code ({ cls := "CrowMiles$Country", name := "mixInto", desc := "(J)J" } : Jvm.MethodName) prog_2_method_17_code (6 : Nat) (Option.some Jvm.ClassFile.FieldType.long)) ∈ zW := tg_i (tl_4 (List.mem_of_getElem? (i := 75) rfl)) rfl
theorem tw_4_76 : (Jvm.Cond.methodLink "CrowMiles$Country" (116 : Nat) ({ cls := "CrowMiles$Country", name := "mixThree", desc := "(JIII)J" } : Jvm.MethodName)) ∈ zW := tg_i (tl_4 (List.mem_of_getElem? (i := 76) rfl)) rfl
theorem tw_4_77 : (Jvm.Cond.static ({ cls := "CrowMiles$Country", name := "mixThree", desc := "(JIII)J" } : Jvm.MethodName)) ∈ zW := tg_i (tl_4 (List.mem_of_getElem? (i := 77) rfl)) rfl
theorem tw_4_78 : (Jvm.Cond.code ({ cls := "CrowMiles$Country", name := "mixThree", desc := "(JIII)J" } : Jvm.MethodName) prog_2_method_18_code (5 : Nat) (Option.some Jvm.ClassFile.FieldType.long)) ∈ zW := tg_i (tl_4 (List.mem_of_getElem? (i := 78) rfl)) rfl
theorem tw_4_79 : (Jvm.Cond.constantLong "CrowMiles$Country" (127 : Nat) (31 : Int64)) ∈ zW := tg_i (tl_4 (List.mem_of_getElem? (i := 79) rfl)) rfl
theorem tw_4_80 : (Jvm.Cond.methodLink "CrowMiles$Country" (120 : Nat) ({ cls := "CrowMiles$Doings", name := "mixDeeds", desc := "(J)J" } : Jvm.MethodName)) ∈ zW := tg_i (tl_4 (List.mem_of_getElem? (i := 80) rfl)) rfl
theorem tw_4_81 : (Jvm.Cond.instanceMethod ({ cls := "CrowMiles$Doings", name := "mixDeeds", desc := "(J)J" } : Jvm.MethodName)) ∈ zW := tg_i (tl_4 (List.mem_of_getElem? (i := 81) rfl)) rfl
theorem tw_4_82 : (Jvm.Cond.selects "CrowMiles$Doings" ({ cls := "CrowMiles$Doings", name := "mixDeeds", desc := "(J)J" } : Jvm.MethodName) ({ cls := "CrowMiles$Doings", name := "mixDeeds", desc := "(J)J" } : Jvm.MethodName)) ∈ zW := tg_i (tl_4 (List.mem_of_getElem? (i := 82) rfl)) rfl
theorem tw_4_83 : (Jvm.Cond.code ({ cls := "CrowMiles$Doings", name := "mixDeeds", desc := "(J)J" } : Jvm.MethodName) prog_3_method_13_code (6 : Nat) (Option.some Jvm.ClassFile.FieldType.long)) ∈ zW := tg_i (tl_4 (List.mem_of_getElem? (i := 83) rfl)) rfl
theorem tw_4_84 : (Jvm.Cond.constantLong "CrowMiles$Doings" (55 : Nat) (31 : Int64)) ∈ zW := tg_i (tl_4 (List.mem_of_getElem? (i := 84) rfl)) rfl
theorem tw_4_85 : (Jvm.Cond.methodLink "CrowMiles$Country" (124 : Nat) ({ cls := "CrowMiles$Sightings", name := "mixInto", desc := "(J)J" } : Jvm.MethodName)) ∈ zW := tg_i (tl_4 (List.mem_of_getElem? (i := 85) rfl)) rfl
theorem tw_4_86 : (Jvm.Cond.instanceMethod ({ cls := "CrowMiles$Sightings", name := "mixInto", desc := "(J)J" } : Jvm.MethodName)) ∈ zW := tg_i (tl_4 (List.mem_of_getElem? (i := 86) rfl)) rfl
theorem tw_4_87 : (Jvm.Cond.selects "CrowMiles$Sightings" ({ cls := "CrowMiles$Sightings", name := "mixInto", desc := "(J)J" } : Jvm.MethodName) ({ cls := "CrowMiles$Sightings", name := "mixInto", desc := "(J)J" } : Jvm.MethodName)) ∈ zW := tg_i (tl_4 (List.mem_of_getElem? (i := 87) rfl)) rfl
theorem tw_4_88 : (Jvm.Cond.code ({ cls := "CrowMiles$Sightings", name := "mixInto", desc := "(J)J" } : Jvm.MethodName) prog_8_method_8_code (6 : Nat) (Option.some Jvm.ClassFile.FieldType.long)) ∈ zW := tg_i (tl_4 (List.mem_of_getElem? (i := 88) rfl)) rfl
theorem tw_4_89 : (Jvm.Cond.constantLong "CrowMiles$Sightings" (43 : Nat) (31 : Int64)) ∈ zW := tg_i (tl_4 (List.mem_of_getElem? (i := 89) rfl)) rfl
theorem tw_4_90 : (Jvm.Cond.classLink "CrowMilesLaw" (10 : Nat) "CrowMilesModel") ∈ zW := tg_i (tl_4 (List.mem_of_getElem? (i := 90) rfl)) rfl
theorem tw_4_91 : (Jvm.Cond.instantiable "CrowMilesModel" (17 : Nat)) ∈ zW := tg_i (tl_4 (List.mem_of_getElem? (i := 91) rfl)) rfl
theorem tw_4_92 : (Jvm.Cond.methodLink "CrowMilesLaw" (12 : Nat) ({ cls := "CrowMilesModel", name := "<init>", desc := "()V" } : Jvm.MethodName)) ∈ zW := tg_i (tl_4 (List.mem_of_getElem? (i := 92) rfl)) rfl
theorem tw_4_93 : (Jvm.Cond.instanceMethod ({ cls := "CrowMilesModel", name := "<init>", desc := "()V" } : Jvm.MethodName)) ∈ zW := tg_i (tl_4 (List.mem_of_getElem? (i := 93) rfl)) rfl
theorem tw_4_94 : (Jvm.Cond.code ({ cls := "CrowMilesModel", name := "<init>", desc := "()V" } : Jvm.MethodName) prog_10_method_1_code (1 : Nat) (Option.none : Option Jvm.ClassFile.FieldType)) ∈ zW := tg_i (tl_4 (List.mem_of_getElem? (i := 94) rfl)) rfl
theorem tw_4_95 : (Jvm.Cond.methodLink "CrowMilesModel" (1 : Nat) ({ cls := "java/lang/Object", name := "<init>", desc := "()V" } : Jvm.MethodName)) ∈ zW := tg_i (tl_4 (List.mem_of_getElem? (i := 95) rfl)) rfl
theorem tw_4_96 : (Jvm.Cond.fieldLink "CrowMilesModel" (7 : Nat) "CrowMilesModel" "w" "[I") ∈ zW := tg_i (tl_4 (List.mem_of_getElem? (i := 96) rfl)) rfl
theorem tw_4_97 : (Jvm.Cond.fieldLink "CrowMilesModel" (251 : Nat) "CrowMilesModel" "kept" "I") ∈ zW := tg_i (tl_4 (List.mem_of_getElem? (i := 97) rfl)) rfl
theorem tw_4_98 : (Jvm.Cond.fieldLink "CrowMilesModel" (13 : Nat) "CrowMilesModel" "text" "[I") ∈ zW := tg_i (tl_4 (List.mem_of_getElem? (i := 98) rfl)) rfl
theorem tw_4_99 : (Jvm.Cond.fieldLink "CrowMilesModel" (95 : Nat) "CrowMilesModel" "size" "I") ∈ zW := tg_i (tl_4 (List.mem_of_getElem? (i := 99) rfl)) rfl
theorem tw_4_100 : (Jvm.Cond.fieldLink "CrowMilesModel" (236 : Nat) "CrowMilesModel" "above" "J") ∈ zW := tg_i (tl_4 (List.mem_of_getElem? (i := 100) rfl)) rfl
theorem tw_4_101 : (Jvm.Cond.fieldLink "CrowMilesModel" (16 : Nat) "CrowMilesModel" "below" "J") ∈ zW := tg_i (tl_4 (List.mem_of_getElem? (i := 101) rfl)) rfl
theorem tw_4_102 : (Jvm.Cond.fieldLink "CrowMilesModel" (29 : Nat) "CrowMilesModel" "bads" "I") ∈ zW := tg_i (tl_4 (List.mem_of_getElem? (i := 102) rfl)) rfl
theorem tw_4_103 : (Jvm.Cond.fieldLink "CrowMilesModel" (33 : Nat) "CrowMilesModel" "noes" "I") ∈ zW := tg_i (tl_4 (List.mem_of_getElem? (i := 103) rfl)) rfl
theorem tw_4_104 : (Jvm.Cond.fieldLink "CrowMilesModel" (36 : Nat) "CrowMilesModel" "fulls" "I") ∈ zW := tg_i (tl_4 (List.mem_of_getElem? (i := 104) rfl)) rfl
theorem tw_4_105 : (Jvm.Cond.fieldLink "CrowMilesModel" (101 : Nat) "CrowMilesModel" "at" "I") ∈ zW := tg_i (tl_4 (List.mem_of_getElem? (i := 105) rfl)) rfl
theorem tw_4_106 : (Jvm.Cond.fieldLink "CrowMilesModel" (107 : Nat) "CrowMilesModel" "from" "I") ∈ zW := tg_i (tl_4 (List.mem_of_getElem? (i := 106) rfl)) rfl
theorem tw_4_107 : (Jvm.Cond.fieldLink "CrowMilesModel" (110 : Nat) "CrowMilesModel" "token" "I") ∈ zW := tg_i (tl_4 (List.mem_of_getElem? (i := 107) rfl)) rfl
theorem tw_4_108 : (Jvm.Cond.fieldLink "CrowMilesModel" (98 : Nat) "CrowMilesModel" "value" "I") ∈ zW := tg_i (tl_4 (List.mem_of_getElem? (i := 108) rfl)) rfl
theorem tw_4_109 : (Jvm.Cond.fieldLink "CrowMilesModel" (119 : Nat) "CrowMilesModel" "readFault" "I") ∈ zW := tg_i (tl_4 (List.mem_of_getElem? (i := 109) rfl)) rfl
theorem tw_4_110 : (Jvm.Cond.fieldLink "CrowMilesModel" (20 : Nat) "CrowMilesModel" "yet" "[I") ∈ zW := tg_i (tl_4 (List.mem_of_getElem? (i := 110) rfl)) rfl
theorem tw_4_111 : (Jvm.Cond.fieldLink "CrowMilesModel" (23 : Nat) "CrowMilesModel" "fars" "[I") ∈ zW := tg_i (tl_4 (List.mem_of_getElem? (i := 111) rfl)) rfl
theorem tw_4_112 : (Jvm.Cond.fieldLink "CrowMilesModel" (26 : Nat) "CrowMilesModel" "tells" "[I") ∈ zW := tg_i (tl_4 (List.mem_of_getElem? (i := 112) rfl)) rfl
theorem tw_4_113 : (Jvm.Cond.laysFinal "CrowMilesModel" "CrowMilesModel" "w" "[I") ∈ zW := tg_i (tl_4 (List.mem_of_getElem? (i := 113) rfl)) rfl
theorem tw_4_115 : (Jvm.Cond.lays "CrowMilesModel" "CrowMilesModel" "kept" "I") ∈ zW := tg_i (tl_4 (List.mem_of_getElem? (i := 115) rfl)) rfl
theorem tw_4_117 : (Jvm.Cond.laysFinal "CrowMilesModel" "CrowMilesModel" "text" "[I") ∈ zW := tg_i (tl_4 (List.mem_of_getElem? (i := 117) rfl)) rfl
theorem tw_4_119 : (Jvm.Cond.lays "CrowMilesModel" "CrowMilesModel" "size" "I") ∈ zW := tg_i (tl_4 (List.mem_of_getElem? (i := 119) rfl)) rfl
theorem tw_4_121 : (Jvm.Cond.lays "CrowMilesModel" "CrowMilesModel" "above" "J") ∈ zW := tg_i (tl_4 (List.mem_of_getElem? (i := 121) rfl)) rfl
theorem tw_4_123 : (Jvm.Cond.lays "CrowMilesModel" "CrowMilesModel" "below" "J") ∈ zW := tg_i (tl_4 (List.mem_of_getElem? (i := 123) rfl)) rfl
theorem tw_4_125 : (Jvm.Cond.lays "CrowMilesModel" "CrowMilesModel" "bads" "I") ∈ zW := tg_i (tl_4 (List.mem_of_getElem? (i := 125) rfl)) rfl
theorem tw_4_127 : (Jvm.Cond.lays "CrowMilesModel" "CrowMilesModel" "noes" "I") ∈ zW := tg_i (tl_4 (List.mem_of_getElem? (i := 127) rfl)) rfl
theorem tw_4_129 : (Jvm.Cond.lays "CrowMilesModel" "CrowMilesModel" "fulls" "I") ∈ zW := tg_i (tl_4 (List.mem_of_getElem? (i := 129) rfl)) rfl
theorem tw_4_131 : (Jvm.Cond.lays "CrowMilesModel" "CrowMilesModel" "at" "I") ∈ zW := tg_i (tl_4 (List.mem_of_getElem? (i := 131) rfl)) rfl
theorem tw_4_133 : (Jvm.Cond.lays "CrowMilesModel" "CrowMilesModel" "from" "I") ∈ zW := tg_i (tl_4 (List.mem_of_getElem? (i := 133) rfl)) rfl
theorem tw_4_135 : (Jvm.Cond.lays "CrowMilesModel" "CrowMilesModel" "token" "I") ∈ zW := tg_i (tl_4 (List.mem_of_getElem? (i := 135) rfl)) rfl
theorem tw_4_137 : (Jvm.Cond.lays "CrowMilesModel" "CrowMilesModel" "value" "I") ∈ zW := tg_i (tl_4 (List.mem_of_getElem? (i := 137) rfl)) rfl
theorem tw_4_139 : (Jvm.Cond.lays "CrowMilesModel" "CrowMilesModel" "readFault" "I") ∈ zW := tg_i (tl_4 (List.mem_of_getElem? (i := 139) rfl)) rfl
theorem tw_4_141 : (Jvm.Cond.laysFinal "CrowMilesModel" "CrowMilesModel" "yet" "[I") ∈ zW := tg_i (tl_4 (List.mem_of_getElem? (i := 141) rfl)) rfl
theorem tw_4_143 : (Jvm.Cond.laysFinal "CrowMilesModel" "CrowMilesModel" "fars" "[I") ∈ zW := tg_i (tl_4 (List.mem_of_getElem? (i := 143) rfl)) rfl
theorem tw_4_145 : (Jvm.Cond.laysFinal "CrowMilesModel" "CrowMilesModel" "tells" "[I") ∈ zW := tg_i (tl_4 (List.mem_of_getElem? (i := 145) rfl)) rfl
theorem tw_4_147 : (Jvm.Cond.superclass "CrowMilesModel" "java/lang/Object") ∈ zW := tg_i (tl_4 (List.mem_of_getElem? (i := 147) rfl)) rfl
theorem tw_4_148 : (Jvm.Cond.methodLink "CrowMilesLaw" (17 : Nat) ({ cls := "CrowMilesModel", name := "country", desc := "()I" } : Jvm.MethodName)) ∈ zW := tg_i (tl_4 (List.mem_of_getElem? (i := 148) rfl)) rfl
theorem tw_4_149 : (Jvm.Cond.instanceMethod ({ cls := "CrowMilesModel", name := "country", desc := "()I" } : Jvm.MethodName)) ∈ zW := tg_i (tl_4 (List.mem_of_getElem? (i := 149) rfl)) rfl
theorem tw_4_150 : (Jvm.Cond.selects "CrowMilesModel" ({ cls := "CrowMilesModel", name := "country", desc := "()I" } : Jvm.MethodName) ({ cls := "CrowMilesModel", name := "country", desc := "()I" } : Jvm.MethodName)) ∈ zW := tg_i (tl_4 (List.mem_of_getElem? (i := 150) rfl)) rfl
theorem tw_4_151 : (Jvm.Cond.code ({ cls := "CrowMilesModel", name := "country", desc := "()I" } : Jvm.MethodName) prog_10_method_24_code (2 : Nat) (Option.some Jvm.ClassFile.FieldType.int)) ∈ zW := tg_i (tl_4 (List.mem_of_getElem? (i := 151) rfl)) rfl
theorem tw_4_152 : (Jvm.Cond.methodLink "CrowMilesModel" (74 : Nat) ({ cls := "CrowMilesModel", name := "clearRow", desc := "(I)V" } : Jvm.MethodName)) ∈ zW := tg_i (tl_4 (List.mem_of_getElem? (i := 152) rfl)) rfl
theorem tw_4_154 : (Jvm.Cond.instanceMethod ({ cls := "CrowMilesModel", name := "clearRow", desc := "(I)V" } : Jvm.MethodName)) ∈ zW := tg_i (tl_4 (List.mem_of_getElem? (i := 154) rfl)) rfl
theorem tw_4_155 : (Jvm.Cond.code ({ cls := "CrowMilesModel", name := "clearRow", desc := "(I)V" } : Jvm.MethodName) prog_10_method_10_code (3 : Nat) (Option.none : Option Jvm.ClassFile.FieldType)) ∈ zW := tg_i (tl_4 (List.mem_of_getElem? (i := 155) rfl)) rfl
theorem tw_4_156 : (Jvm.Cond.methodLink "CrowMilesLaw" (22 : Nat) ({ cls := "CrowMilesModel", name := "place", desc := "(III)I" } : Jvm.MethodName)) ∈ zW := tg_i (tl_4 (List.mem_of_getElem? (i := 156) rfl)) rfl
theorem tw_4_157 : (Jvm.Cond.instanceMethod ({ cls := "CrowMilesModel", name := "place", desc := "(III)I" } : Jvm.MethodName)) ∈ zW := tg_i (tl_4 (List.mem_of_getElem? (i := 157) rfl)) rfl
theorem tw_4_158 : (Jvm.Cond.selects "CrowMilesModel" ({ cls := "CrowMilesModel", name := "place", desc := "(III)I" } : Jvm.MethodName) ({ cls := "CrowMilesModel", name := "place", desc := "(III)I" } : Jvm.MethodName)) ∈ zW := tg_i (tl_4 (List.mem_of_getElem? (i := 158) rfl)) rfl
theorem tw_4_159 : (Jvm.Cond.code ({ cls := "CrowMilesModel", name := "place", desc := "(III)I" } : Jvm.MethodName) prog_10_method_27_code (4 : Nat) (Option.some Jvm.ClassFile.FieldType.int)) ∈ zW := tg_i (tl_4 (List.mem_of_getElem? (i := 159) rfl)) rfl
theorem tw_4_160 : (Jvm.Cond.methodLink "CrowMilesModel" (39 : Nat) ({ cls := "CrowMilesModel", name := "in", desc := "(III)Z" } : Jvm.MethodName)) ∈ zW := tg_i (tl_4 (List.mem_of_getElem? (i := 160) rfl)) rfl
theorem tw_4_161 : (Jvm.Cond.static ({ cls := "CrowMilesModel", name := "in", desc := "(III)Z" } : Jvm.MethodName)) ∈ zW := tg_i (tl_4 (List.mem_of_getElem? (i := 161) rfl)) rfl
theorem tw_4_162 : (Jvm.Cond.code ({ cls := "CrowMilesModel", name := "in", desc := "(III)Z" } : Jvm.MethodName) prog_10_method_3_code (3 : Nat) (Option.some Jvm.ClassFile.FieldType.boolean)) ∈ zW := tg_i (tl_4 (List.mem_of_getElem? (i := 162) rfl)) rfl
theorem tw_4_163 : (Jvm.Cond.methodLink "CrowMilesModel" (78 : Nat) ({ cls := "CrowMilesModel", name := "bad", desc := "()I" } : Jvm.MethodName)) ∈ zW := tg_i (tl_4 (List.mem_of_getElem? (i := 163) rfl)) rfl
theorem tw_4_165 : (Jvm.Cond.instanceMethod ({ cls := "CrowMilesModel", name := "bad", desc := "()I" } : Jvm.MethodName)) ∈ zW := tg_i (tl_4 (List.mem_of_getElem? (i := 165) rfl)) rfl
theorem tw_4_166 : (Jvm.Cond.code ({ cls := "CrowMilesModel", name := "bad", desc := "()I" } : Jvm.MethodName) prog_10_method_5_code (1 : Nat) (Option.some Jvm.ClassFile.FieldType.int)) ∈ zW := tg_i (tl_4 (List.mem_of_getElem? (i := 166) rfl)) rfl
theorem tw_4_167 : (Jvm.Cond.methodLink "CrowMilesModel" (82 : Nat) ({ cls := "CrowMilesModel", name := "full", desc := "()I" } : Jvm.MethodName)) ∈ zW := tg_i (tl_4 (List.mem_of_getElem? (i := 167) rfl)) rfl
theorem tw_4_169 : (Jvm.Cond.instanceMethod ({ cls := "CrowMilesModel", name := "full", desc := "()I" } : Jvm.MethodName)) ∈ zW := tg_i (tl_4 (List.mem_of_getElem? (i := 169) rfl)) rfl
theorem tw_4_170 : (Jvm.Cond.code ({ cls := "CrowMilesModel", name := "full", desc := "()I" } : Jvm.MethodName) prog_10_method_8_code (1 : Nat) (Option.some Jvm.ClassFile.FieldType.int)) ∈ zW := tg_i (tl_4 (List.mem_of_getElem? (i := 170) rfl)) rfl
theorem tw_4_171 : (Jvm.Cond.methodLink "CrowMilesModel" (85 : Nat) ({ cls := "CrowMilesModel", name := "placeIn", desc := "(IIII)I" } : Jvm.MethodName)) ∈ zW := tg_i (tl_4 (List.mem_of_getElem? (i := 171) rfl)) rfl
theorem tw_4_173 : (Jvm.Cond.instanceMethod ({ cls := "CrowMilesModel", name := "placeIn", desc := "(IIII)I" } : Jvm.MethodName)) ∈ zW := tg_i (tl_4 (List.mem_of_getElem? (i := 173) rfl)) rfl
theorem tw_4_174 : (Jvm.Cond.code ({ cls := "CrowMilesModel", name := "placeIn", desc := "(IIII)I" } : Jvm.MethodName) prog_10_method_25_code (6 : Nat) (Option.some Jvm.ClassFile.FieldType.int)) ∈ zW := tg_i (tl_4 (List.mem_of_getElem? (i := 174) rfl)) rfl
theorem tw_4_175 : (Jvm.Cond.methodLink "CrowMilesLaw" (27 : Nat) ({ cls := "CrowMilesModel", name := "crow", desc := "(II)I" } : Jvm.MethodName)) ∈ zW := tg_i (tl_4 (List.mem_of_getElem? (i := 175) rfl)) rfl
theorem tw_4_176 : (Jvm.Cond.instanceMethod ({ cls := "CrowMilesModel", name := "crow", desc := "(II)I" } : Jvm.MethodName)) ∈ zW := tg_i (tl_4 (List.mem_of_getElem? (i := 176) rfl)) rfl
theorem tw_4_177 : (Jvm.Cond.selects "CrowMilesModel" ({ cls := "CrowMilesModel", name := "crow", desc := "(II)I" } : Jvm.MethodName) ({ cls := "CrowMilesModel", name := "crow", desc := "(II)I" } : Jvm.MethodName)) ∈ zW := tg_i (tl_4 (List.mem_of_getElem? (i := 177) rfl)) rfl
theorem tw_4_178 : (Jvm.Cond.code ({ cls := "CrowMilesModel", name := "crow", desc := "(II)I" } : Jvm.MethodName) prog_10_method_28_code (3 : Nat) (Option.some Jvm.ClassFile.FieldType.int)) ∈ zW := tg_i (tl_4 (List.mem_of_getElem? (i := 178) rfl)) rfl
theorem tw_4_179 : (Jvm.Cond.methodLink "CrowMilesModel" (88 : Nat) ({ cls := "CrowMilesModel", name := "isPlace", desc := "(I)Z" } : Jvm.MethodName)) ∈ zW := tg_i (tl_4 (List.mem_of_getElem? (i := 179) rfl)) rfl
theorem tw_4_181 : (Jvm.Cond.instanceMethod ({ cls := "CrowMilesModel", name := "isPlace", desc := "(I)Z" } : Jvm.MethodName)) ∈ zW := tg_i (tl_4 (List.mem_of_getElem? (i := 181) rfl)) rfl
theorem tw_4_182 : (Jvm.Cond.code ({ cls := "CrowMilesModel", name := "isPlace", desc := "(I)Z" } : Jvm.MethodName) prog_10_method_11_code (2 : Nat) (Option.some Jvm.ClassFile.FieldType.boolean)) ∈ zW := tg_i (tl_4 (List.mem_of_getElem? (i := 182) rfl)) rfl
theorem tw_4_183 : (Jvm.Cond.methodLink "CrowMilesModel" (92 : Nat) ({ cls := "CrowMilesModel", name := "crowIn", desc := "(III)I" } : Jvm.MethodName)) ∈ zW := tg_i (tl_4 (List.mem_of_getElem? (i := 183) rfl)) rfl
theorem tw_4_185 : (Jvm.Cond.instanceMethod ({ cls := "CrowMilesModel", name := "crowIn", desc := "(III)I" } : Jvm.MethodName)) ∈ zW := tg_i (tl_4 (List.mem_of_getElem? (i := 185) rfl)) rfl
theorem tw_4_186 : (Jvm.Cond.code ({ cls := "CrowMilesModel", name := "crowIn", desc := "(III)I" } : Jvm.MethodName) prog_10_method_26_code (5 : Nat) (Option.some Jvm.ClassFile.FieldType.int)) ∈ zW := tg_i (tl_4 (List.mem_of_getElem? (i := 186) rfl)) rfl
theorem tw_4_187 : (Jvm.Cond.methodLink "CrowMilesLaw" (32 : Nat) ({ cls := "CrowMilesModel", name := "type", desc := "(I)I" } : Jvm.MethodName)) ∈ zW := tg_i (tl_4 (List.mem_of_getElem? (i := 187) rfl)) rfl
theorem tw_4_188 : (Jvm.Cond.instanceMethod ({ cls := "CrowMilesModel", name := "type", desc := "(I)I" } : Jvm.MethodName)) ∈ zW := tg_i (tl_4 (List.mem_of_getElem? (i := 188) rfl)) rfl
theorem tw_4_189 : (Jvm.Cond.selects "CrowMilesModel" ({ cls := "CrowMilesModel", name := "type", desc := "(I)I" } : Jvm.MethodName) ({ cls := "CrowMilesModel", name := "type", desc := "(I)I" } : Jvm.MethodName)) ∈ zW := tg_i (tl_4 (List.mem_of_getElem? (i := 189) rfl)) rfl
theorem tw_4_190 : (Jvm.Cond.code ({ cls := "CrowMilesModel", name := "type", desc := "(I)I" } : Jvm.MethodName) prog_10_method_29_code (2 : Nat) (Option.some Jvm.ClassFile.FieldType.int)) ∈ zW := tg_i (tl_4 (List.mem_of_getElem? (i := 190) rfl)) rfl
theorem tw_4_191 : (Jvm.Cond.methodLink "CrowMilesLaw" (36 : Nat) ({ cls := "CrowMilesModel", name := "clear", desc := "()I" } : Jvm.MethodName)) ∈ zW := tg_i (tl_4 (List.mem_of_getElem? (i := 191) rfl)) rfl
theorem tw_4_192 : (Jvm.Cond.instanceMethod ({ cls := "CrowMilesModel", name := "clear", desc := "()I" } : Jvm.MethodName)) ∈ zW := tg_i (tl_4 (List.mem_of_getElem? (i := 192) rfl)) rfl
theorem tw_4_193 : (Jvm.Cond.selects "CrowMilesModel" ({ cls := "CrowMilesModel", name := "clear", desc := "()I" } : Jvm.MethodName) ({ cls := "CrowMilesModel", name := "clear", desc := "()I" } : Jvm.MethodName)) ∈ zW := tg_i (tl_4 (List.mem_of_getElem? (i := 193) rfl)) rfl
theorem tw_4_194 : (Jvm.Cond.code ({ cls := "CrowMilesModel", name := "clear", desc := "()I" } : Jvm.MethodName) prog_10_method_30_code (2 : Nat) (Option.some Jvm.ClassFile.FieldType.int)) ∈ zW := tg_i (tl_4 (List.mem_of_getElem? (i := 194) rfl)) rfl
theorem tw_4_195 : (Jvm.Cond.methodLink "CrowMilesLaw" (40 : Nat) ({ cls := "CrowMilesModel", name := "read", desc := "()I" } : Jvm.MethodName)) ∈ zW := tg_i (tl_4 (List.mem_of_getElem? (i := 195) rfl)) rfl
theorem tw_4_196 : (Jvm.Cond.instanceMethod ({ cls := "CrowMilesModel", name := "read", desc := "()I" } : Jvm.MethodName)) ∈ zW := tg_i (tl_4 (List.mem_of_getElem? (i := 196) rfl)) rfl
theorem tw_4_197 : (Jvm.Cond.selects "CrowMilesModel" ({ cls := "CrowMilesModel", name := "read", desc := "()I" } : Jvm.MethodName) ({ cls := "CrowMilesModel", name := "read", desc := "()I" } : Jvm.MethodName)) ∈ zW := tg_i (tl_4 (List.mem_of_getElem? (i := 197) rfl)) rfl
theorem tw_4_198 : (Jvm.Cond.code ({ cls := "CrowMilesModel", name := "read", desc := "()I" } : Jvm.MethodName) prog_10_method_47_code (3 : Nat) (Option.some Jvm.ClassFile.FieldType.int)) ∈ zW := tg_i (tl_4 (List.mem_of_getElem? (i := 198) rfl)) rfl
theorem tw_4_199 : (Jvm.Cond.methodLink "CrowMilesModel" (130 : Nat) ({ cls := "CrowMilesModel", name := "nextToken", desc := "()V" } : Jvm.MethodName)) ∈ zW := tg_i (tl_4 (List.mem_of_getElem? (i := 199) rfl)) rfl
theorem tw_4_201 : (Jvm.Cond.instanceMethod ({ cls := "CrowMilesModel", name := "nextToken", desc := "()V" } : Jvm.MethodName)) ∈ zW := tg_i (tl_4 (List.mem_of_getElem? (i := 201) rfl)) rfl
theorem tw_4_202 : (Jvm.Cond.code ({ cls := "CrowMilesModel", name := "nextToken", desc := "()V" } : Jvm.MethodName) prog_10_method_34_code (1 : Nat) (Option.none : Option Jvm.ClassFile.FieldType)) ∈ zW := tg_i (tl_4 (List.mem_of_getElem? (i := 202) rfl)) rfl
theorem tw_4_203 : (Jvm.Cond.methodLink "CrowMilesModel" (113 : Nat) ({ cls := "CrowMilesModel", name := "isLetter", desc := "(I)Z" } : Jvm.MethodName)) ∈ zW := tg_i (tl_4 (List.mem_of_getElem? (i := 203) rfl)) rfl
theorem tw_4_205 : (Jvm.Cond.instanceMethod ({ cls := "CrowMilesModel", name := "isLetter", desc := "(I)Z" } : Jvm.MethodName)) ∈ zW := tg_i (tl_4 (List.mem_of_getElem? (i := 205) rfl)) rfl
theorem tw_4_206 : (Jvm.Cond.code ({ cls := "CrowMilesModel", name := "isLetter", desc := "(I)Z" } : Jvm.MethodName) prog_10_method_31_code (2 : Nat) (Option.some Jvm.ClassFile.FieldType.boolean)) ∈ zW := tg_i (tl_4 (List.mem_of_getElem? (i := 206) rfl)) rfl
theorem tw_4_207 : (Jvm.Cond.methodLink "CrowMilesModel" (104 : Nat) ({ cls := "CrowMilesModel", name := "isFigure", desc := "(I)Z" } : Jvm.MethodName)) ∈ zW := tg_i (tl_4 (List.mem_of_getElem? (i := 207) rfl)) rfl
theorem tw_4_209 : (Jvm.Cond.instanceMethod ({ cls := "CrowMilesModel", name := "isFigure", desc := "(I)Z" } : Jvm.MethodName)) ∈ zW := tg_i (tl_4 (List.mem_of_getElem? (i := 209) rfl)) rfl
theorem tw_4_210 : (Jvm.Cond.code ({ cls := "CrowMilesModel", name := "isFigure", desc := "(I)Z" } : Jvm.MethodName) prog_10_method_32_code (2 : Nat) (Option.some Jvm.ClassFile.FieldType.boolean)) ∈ zW := tg_i (tl_4 (List.mem_of_getElem? (i := 210) rfl)) rfl
theorem tw_4_211 : (Jvm.Cond.methodLink "CrowMilesModel" (116 : Nat) ({ cls := "CrowMilesModel", name := "readNumber", desc := "()V" } : Jvm.MethodName)) ∈ zW := tg_i (tl_4 (List.mem_of_getElem? (i := 211) rfl)) rfl
theorem tw_4_213 : (Jvm.Cond.instanceMethod ({ cls := "CrowMilesModel", name := "readNumber", desc := "()V" } : Jvm.MethodName)) ∈ zW := tg_i (tl_4 (List.mem_of_getElem? (i := 213) rfl)) rfl
theorem tw_4_214 : (Jvm.Cond.code ({ cls := "CrowMilesModel", name := "readNumber", desc := "()V" } : Jvm.MethodName) prog_10_method_33_code (1 : Nat) (Option.none : Option Jvm.ClassFile.FieldType)) ∈ zW := tg_i (tl_4 (List.mem_of_getElem? (i := 214) rfl)) rfl
theorem tw_4_215 : (Jvm.Cond.methodLink "CrowMilesModel" (145 : Nat) ({ cls := "CrowMilesModel", name := "spells", desc := "(IIIIIII)Z" } : Jvm.MethodName)) ∈ zW := tg_i (tl_4 (List.mem_of_getElem? (i := 215) rfl)) rfl
theorem tw_4_217 : (Jvm.Cond.instanceMethod ({ cls := "CrowMilesModel", name := "spells", desc := "(IIIIIII)Z" } : Jvm.MethodName)) ∈ zW := tg_i (tl_4 (List.mem_of_getElem? (i := 217) rfl)) rfl
theorem tw_4_218 : (Jvm.Cond.code ({ cls := "CrowMilesModel", name := "spells", desc := "(IIIIIII)Z" } : Jvm.MethodName) prog_10_method_38_code (9 : Nat) (Option.some Jvm.ClassFile.FieldType.boolean)) ∈ zW := tg_i (tl_4 (List.mem_of_getElem? (i := 218) rfl)) rfl
theorem tw_4_219 : (Jvm.Cond.methodLink "CrowMilesModel" (122 : Nat) ({ cls := "CrowMilesModel", name := "letter", desc := "(I)I" } : Jvm.MethodName)) ∈ zW := tg_i (tl_4 (List.mem_of_getElem? (i := 219) rfl)) rfl
theorem tw_4_221 : (Jvm.Cond.instanceMethod ({ cls := "CrowMilesModel", name := "letter", desc := "(I)I" } : Jvm.MethodName)) ∈ zW := tg_i (tl_4 (List.mem_of_getElem? (i := 221) rfl)) rfl
theorem tw_4_222 : (Jvm.Cond.code ({ cls := "CrowMilesModel", name := "letter", desc := "(I)I" } : Jvm.MethodName) prog_10_method_37_code (2 : Nat) (Option.some Jvm.ClassFile.FieldType.int)) ∈ zW := tg_i (tl_4 (List.mem_of_getElem? (i := 222) rfl)) rfl
theorem tw_4_223 : (Jvm.Cond.methodLink "CrowMilesModel" (133 : Nat) ({ cls := "CrowMilesModel", name := "wrong", desc := "()V" } : Jvm.MethodName)) ∈ zW := tg_i (tl_4 (List.mem_of_getElem? (i := 223) rfl)) rfl
theorem tw_4_225 : (Jvm.Cond.instanceMethod ({ cls := "CrowMilesModel", name := "wrong", desc := "()V" } : Jvm.MethodName)) ∈ zW := tg_i (tl_4 (List.mem_of_getElem? (i := 225) rfl)) rfl
theorem tw_4_226 : (Jvm.Cond.code ({ cls := "CrowMilesModel", name := "wrong", desc := "()V" } : Jvm.MethodName) prog_10_method_35_code (1 : Nat) (Option.none : Option Jvm.ClassFile.FieldType)) ∈ zW := tg_i (tl_4 (List.mem_of_getElem? (i := 226) rfl)) rfl
theorem tw_4_227 : (Jvm.Cond.methodLink "CrowMilesModel" (164 : Nat) ({ cls := "CrowMilesModel", name := "stop", desc := "()V" } : Jvm.MethodName)) ∈ zW := tg_i (tl_4 (List.mem_of_getElem? (i := 227) rfl)) rfl
theorem tw_4_229 : (Jvm.Cond.instanceMethod ({ cls := "CrowMilesModel", name := "stop", desc := "()V" } : Jvm.MethodName)) ∈ zW := tg_i (tl_4 (List.mem_of_getElem? (i := 229) rfl)) rfl
theorem tw_4_230 : (Jvm.Cond.code ({ cls := "CrowMilesModel", name := "stop", desc := "()V" } : Jvm.MethodName) prog_10_method_40_code (1 : Nat) (Option.none : Option Jvm.ClassFile.FieldType)) ∈ zW := tg_i (tl_4 (List.mem_of_getElem? (i := 230) rfl)) rfl
theorem tw_4_231 : (Jvm.Cond.methodLink "CrowMilesModel" (126 : Nat) ({ cls := "CrowMilesModel", name := "fine", desc := "()Z" } : Jvm.MethodName)) ∈ zW := tg_i (tl_4 (List.mem_of_getElem? (i := 231) rfl)) rfl
theorem tw_4_233 : (Jvm.Cond.instanceMethod ({ cls := "CrowMilesModel", name := "fine", desc := "()Z" } : Jvm.MethodName)) ∈ zW := tg_i (tl_4 (List.mem_of_getElem? (i := 233) rfl)) rfl
theorem tw_4_234 : (Jvm.Cond.code ({ cls := "CrowMilesModel", name := "fine", desc := "()Z" } : Jvm.MethodName) prog_10_method_36_code (1 : Nat) (Option.some Jvm.ClassFile.FieldType.boolean)) ∈ zW := tg_i (tl_4 (List.mem_of_getElem? (i := 234) rfl)) rfl
theorem tw_4_235 : (Jvm.Cond.methodLink "CrowMilesModel" (167 : Nat) ({ cls := "CrowMilesModel", name := "readItem", desc := "()V" } : Jvm.MethodName)) ∈ zW := tg_i (tl_4 (List.mem_of_getElem? (i := 235) rfl)) rfl
theorem tw_4_237 : (Jvm.Cond.instanceMethod ({ cls := "CrowMilesModel", name := "readItem", desc := "()V" } : Jvm.MethodName)) ∈ zW := tg_i (tl_4 (List.mem_of_getElem? (i := 237) rfl)) rfl
theorem tw_4_238 : (Jvm.Cond.code ({ cls := "CrowMilesModel", name := "readItem", desc := "()V" } : Jvm.MethodName) prog_10_method_46_code (1 : Nat) (Option.none : Option Jvm.ClassFile.FieldType)) ∈ zW := tg_i (tl_4 (List.mem_of_getElem? (i := 238) rfl)) rfl
theorem tw_4_239 : (Jvm.Cond.methodLink "CrowMilesModel" (149 : Nat) ({ cls := "CrowMilesModel", name := "readPlace", desc := "()V" } : Jvm.MethodName)) ∈ zW := tg_i (tl_4 (List.mem_of_getElem? (i := 239) rfl)) rfl
theorem tw_5_1 : (Jvm.Cond.instanceMethod ({ cls := "CrowMilesModel", name := "readPlace", desc := "()V" } : Jvm.MethodName)) ∈ zW := tg_i (tl_5 (List.mem_of_getElem? (i := 1) rfl)) rfl
theorem tw_5_2 : (Jvm.Cond.code ({ cls := "CrowMilesModel", name := "readPlace", desc := "()V" } : Jvm.MethodName) prog_10_method_41_code (5 : Nat) (Option.none : Option Jvm.ClassFile.FieldType)) ∈ zW := tg_i (tl_5 (List.mem_of_getElem? (i := 2) rfl)) rfl
theorem tw_5_3 : (Jvm.Cond.methodLink "CrowMilesModel" (136 : Nat) ({ cls := "CrowMilesModel", name := "number", desc := "(II)I" } : Jvm.MethodName)) ∈ zW := tg_i (tl_5 (List.mem_of_getElem? (i := 3) rfl)) rfl
theorem tw_5_5 : (Jvm.Cond.instanceMethod ({ cls := "CrowMilesModel", name := "number", desc := "(II)I" } : Jvm.MethodName)) ∈ zW := tg_i (tl_5 (List.mem_of_getElem? (i := 5) rfl)) rfl
theorem tw_5_6 : (Jvm.Cond.code ({ cls := "CrowMilesModel", name := "number", desc := "(II)I" } : Jvm.MethodName) prog_10_method_39_code (3 : Nat) (Option.some Jvm.ClassFile.FieldType.int)) ∈ zW := tg_i (tl_5 (List.mem_of_getElem? (i := 6) rfl)) rfl
theorem tw_5_7 : (Jvm.Cond.methodLink "CrowMilesModel" (152 : Nat) ({ cls := "CrowMilesModel", name := "readCrow", desc := "()V" } : Jvm.MethodName)) ∈ zW := tg_i (tl_5 (List.mem_of_getElem? (i := 7) rfl)) rfl
theorem tw_5_9 : (Jvm.Cond.instanceMethod ({ cls := "CrowMilesModel", name := "readCrow", desc := "()V" } : Jvm.MethodName)) ∈ zW := tg_i (tl_5 (List.mem_of_getElem? (i := 9) rfl)) rfl
theorem tw_5_10 : (Jvm.Cond.code ({ cls := "CrowMilesModel", name := "readCrow", desc := "()V" } : Jvm.MethodName) prog_10_method_42_code (4 : Nat) (Option.none : Option Jvm.ClassFile.FieldType)) ∈ zW := tg_i (tl_5 (List.mem_of_getElem? (i := 10) rfl)) rfl
theorem tw_5_11 : (Jvm.Cond.methodLink "CrowMilesModel" (155 : Nat) ({ cls := "CrowMilesModel", name := "readFly", desc := "()V" } : Jvm.MethodName)) ∈ zW := tg_i (tl_5 (List.mem_of_getElem? (i := 11) rfl)) rfl
theorem tw_5_13 : (Jvm.Cond.instanceMethod ({ cls := "CrowMilesModel", name := "readFly", desc := "()V" } : Jvm.MethodName)) ∈ zW := tg_i (tl_5 (List.mem_of_getElem? (i := 13) rfl)) rfl
theorem tw_5_14 : (Jvm.Cond.code ({ cls := "CrowMilesModel", name := "readFly", desc := "()V" } : Jvm.MethodName) prog_10_method_43_code (4 : Nat) (Option.none : Option Jvm.ClassFile.FieldType)) ∈ zW := tg_i (tl_5 (List.mem_of_getElem? (i := 14) rfl)) rfl
theorem tw_5_15 : (Jvm.Cond.methodLink "CrowMilesModel" (139 : Nat) ({ cls := "CrowMilesModel", name := "flyIn", desc := "(IIII)I" } : Jvm.MethodName)) ∈ zW := tg_i (tl_5 (List.mem_of_getElem? (i := 15) rfl)) rfl
theorem tw_5_17 : (Jvm.Cond.instanceMethod ({ cls := "CrowMilesModel", name := "flyIn", desc := "(IIII)I" } : Jvm.MethodName)) ∈ zW := tg_i (tl_5 (List.mem_of_getElem? (i := 17) rfl)) rfl
theorem tw_5_18 : (Jvm.Cond.code ({ cls := "CrowMilesModel", name := "flyIn", desc := "(IIII)I" } : Jvm.MethodName) prog_10_method_21_code (7 : Nat) (Option.some Jvm.ClassFile.FieldType.int)) ∈ zW := tg_i (tl_5 (List.mem_of_getElem? (i := 18) rfl)) rfl
theorem tw_5_19 : (Jvm.Cond.methodLink "CrowMilesModel" (62 : Nat) ({ cls := "CrowMilesModel", name := "farIn", desc := "(IIIII)I" } : Jvm.MethodName)) ∈ zW := tg_i (tl_5 (List.mem_of_getElem? (i := 19) rfl)) rfl
theorem tw_5_21 : (Jvm.Cond.instanceMethod ({ cls := "CrowMilesModel", name := "farIn", desc := "(IIIII)I" } : Jvm.MethodName)) ∈ zW := tg_i (tl_5 (List.mem_of_getElem? (i := 21) rfl)) rfl
theorem tw_5_22 : (Jvm.Cond.code ({ cls := "CrowMilesModel", name := "farIn", desc := "(IIIII)I" } : Jvm.MethodName) prog_10_method_18_code (6 : Nat) (Option.some Jvm.ClassFile.FieldType.int)) ∈ zW := tg_i (tl_5 (List.mem_of_getElem? (i := 22) rfl)) rfl
theorem tw_5_23 : (Jvm.Cond.methodLink "CrowMilesModel" (58 : Nat) ({ cls := "CrowMilesModel", name := "farAt", desc := "(IIIIII)I" } : Jvm.MethodName)) ∈ zW := tg_i (tl_5 (List.mem_of_getElem? (i := 23) rfl)) rfl
theorem tw_5_25 : (Jvm.Cond.instanceMethod ({ cls := "CrowMilesModel", name := "farAt", desc := "(IIIIII)I" } : Jvm.MethodName)) ∈ zW := tg_i (tl_5 (List.mem_of_getElem? (i := 25) rfl)) rfl
theorem tw_5_26 : (Jvm.Cond.code ({ cls := "CrowMilesModel", name := "farAt", desc := "(IIIIII)I" } : Jvm.MethodName) prog_10_method_17_code (8 : Nat) (Option.some Jvm.ClassFile.FieldType.int)) ∈ zW := tg_i (tl_5 (List.mem_of_getElem? (i := 26) rfl)) rfl
theorem tw_5_27 : (Jvm.Cond.methodLink "CrowMilesModel" (47 : Nat) ({ cls := "CrowMilesModel", name := "straightIn", desc := "(III)I" } : Jvm.MethodName)) ∈ zW := tg_i (tl_5 (List.mem_of_getElem? (i := 27) rfl)) rfl
theorem tw_5_29 : (Jvm.Cond.instanceMethod ({ cls := "CrowMilesModel", name := "straightIn", desc := "(III)I" } : Jvm.MethodName)) ∈ zW := tg_i (tl_5 (List.mem_of_getElem? (i := 29) rfl)) rfl
theorem tw_5_30 : (Jvm.Cond.code ({ cls := "CrowMilesModel", name := "straightIn", desc := "(III)I" } : Jvm.MethodName) prog_10_method_16_code (6 : Nat) (Option.some Jvm.ClassFile.FieldType.int)) ∈ zW := tg_i (tl_5 (List.mem_of_getElem? (i := 30) rfl)) rfl
theorem tw_5_31 : (Jvm.Cond.methodLink "CrowMilesModel" (51 : Nat) ({ cls := "CrowMilesModel", name := "madeOf", desc := "(IIII)I" } : Jvm.MethodName)) ∈ zW := tg_i (tl_5 (List.mem_of_getElem? (i := 31) rfl)) rfl
theorem tw_5_32 : (Jvm.Cond.static ({ cls := "CrowMilesModel", name := "madeOf", desc := "(IIII)I" } : Jvm.MethodName)) ∈ zW := tg_i (tl_5 (List.mem_of_getElem? (i := 32) rfl)) rfl
theorem tw_5_33 : (Jvm.Cond.code ({ cls := "CrowMilesModel", name := "madeOf", desc := "(IIII)I" } : Jvm.MethodName) prog_10_method_14_code (6 : Nat) (Option.some Jvm.ClassFile.FieldType.int)) ∈ zW := tg_i (tl_5 (List.mem_of_getElem? (i := 33) rfl)) rfl
theorem tw_5_34 : (Jvm.Cond.methodLink "CrowMilesModel" (43 : Nat) ({ cls := "CrowMilesModel", name := "most", desc := "(II)I" } : Jvm.MethodName)) ∈ zW := tg_i (tl_5 (List.mem_of_getElem? (i := 34) rfl)) rfl
theorem tw_5_35 : (Jvm.Cond.static ({ cls := "CrowMilesModel", name := "most", desc := "(II)I" } : Jvm.MethodName)) ∈ zW := tg_i (tl_5 (List.mem_of_getElem? (i := 35) rfl)) rfl
theorem tw_5_36 : (Jvm.Cond.code ({ cls := "CrowMilesModel", name := "most", desc := "(II)I" } : Jvm.MethodName) prog_10_method_13_code (2 : Nat) (Option.some Jvm.ClassFile.FieldType.int)) ∈ zW := tg_i (tl_5 (List.mem_of_getElem? (i := 36) rfl)) rfl
theorem tw_5_37 : (Jvm.Cond.methodLink "CrowMilesModel" (55 : Nat) ({ cls := "CrowMilesModel", name := "farOf", desc := "(III)I" } : Jvm.MethodName)) ∈ zW := tg_i (tl_5 (List.mem_of_getElem? (i := 37) rfl)) rfl
theorem tw_5_38 : (Jvm.Cond.static ({ cls := "CrowMilesModel", name := "farOf", desc := "(III)I" } : Jvm.MethodName)) ∈ zW := tg_i (tl_5 (List.mem_of_getElem? (i := 38) rfl)) rfl
theorem tw_5_39 : (Jvm.Cond.code ({ cls := "CrowMilesModel", name := "farOf", desc := "(III)I" } : Jvm.MethodName) prog_10_method_15_code (5 : Nat) (Option.some Jvm.ClassFile.FieldType.int)) ∈ zW := tg_i (tl_5 (List.mem_of_getElem? (i := 39) rfl)) rfl
theorem tw_5_40 : (Jvm.Cond.methodLink "CrowMilesModel" (66 : Nat) ({ cls := "CrowMilesModel", name := "goOn", desc := "(II)V" } : Jvm.MethodName)) ∈ zW := tg_i (tl_5 (List.mem_of_getElem? (i := 40) rfl)) rfl
theorem tw_5_42 : (Jvm.Cond.instanceMethod ({ cls := "CrowMilesModel", name := "goOn", desc := "(II)V" } : Jvm.MethodName)) ∈ zW := tg_i (tl_5 (List.mem_of_getElem? (i := 42) rfl)) rfl
theorem tw_5_43 : (Jvm.Cond.code ({ cls := "CrowMilesModel", name := "goOn", desc := "(II)V" } : Jvm.MethodName) prog_10_method_20_code (4 : Nat) (Option.none : Option Jvm.ClassFile.FieldType)) ∈ zW := tg_i (tl_5 (List.mem_of_getElem? (i := 43) rfl)) rfl
theorem tw_5_44 : (Jvm.Cond.methodLink "CrowMilesModel" (158 : Nat) ({ cls := "CrowMilesModel", name := "readRest", desc := "()V" } : Jvm.MethodName)) ∈ zW := tg_i (tl_5 (List.mem_of_getElem? (i := 44) rfl)) rfl
theorem tw_5_46 : (Jvm.Cond.instanceMethod ({ cls := "CrowMilesModel", name := "readRest", desc := "()V" } : Jvm.MethodName)) ∈ zW := tg_i (tl_5 (List.mem_of_getElem? (i := 46) rfl)) rfl
theorem tw_5_47 : (Jvm.Cond.code ({ cls := "CrowMilesModel", name := "readRest", desc := "()V" } : Jvm.MethodName) prog_10_method_44_code (3 : Nat) (Option.none : Option Jvm.ClassFile.FieldType)) ∈ zW := tg_i (tl_5 (List.mem_of_getElem? (i := 47) rfl)) rfl
theorem tw_5_48 : (Jvm.Cond.methodLink "CrowMilesModel" (142 : Nat) ({ cls := "CrowMilesModel", name := "restIn", desc := "(II)I" } : Jvm.MethodName)) ∈ zW := tg_i (tl_5 (List.mem_of_getElem? (i := 48) rfl)) rfl
theorem tw_5_50 : (Jvm.Cond.instanceMethod ({ cls := "CrowMilesModel", name := "restIn", desc := "(II)I" } : Jvm.MethodName)) ∈ zW := tg_i (tl_5 (List.mem_of_getElem? (i := 50) rfl)) rfl
theorem tw_5_51 : (Jvm.Cond.code ({ cls := "CrowMilesModel", name := "restIn", desc := "(II)I" } : Jvm.MethodName) prog_10_method_22_code (4 : Nat) (Option.some Jvm.ClassFile.FieldType.int)) ∈ zW := tg_i (tl_5 (List.mem_of_getElem? (i := 51) rfl)) rfl
theorem tw_5_52 : (Jvm.Cond.methodLink "CrowMilesModel" (161 : Nat) ({ cls := "CrowMilesModel", name := "readHours", desc := "()V" } : Jvm.MethodName)) ∈ zW := tg_i (tl_5 (List.mem_of_getElem? (i := 52) rfl)) rfl
theorem tw_5_54 : (Jvm.Cond.instanceMethod ({ cls := "CrowMilesModel", name := "readHours", desc := "()V" } : Jvm.MethodName)) ∈ zW := tg_i (tl_5 (List.mem_of_getElem? (i := 54) rfl)) rfl
theorem tw_5_55 : (Jvm.Cond.code ({ cls := "CrowMilesModel", name := "readHours", desc := "()V" } : Jvm.MethodName) prog_10_method_45_code (2 : Nat) (Option.none : Option Jvm.ClassFile.FieldType)) ∈ zW := tg_i (tl_5 (List.mem_of_getElem? (i := 55) rfl)) rfl
theorem tw_5_56 : (Jvm.Cond.methodLink "CrowMilesModel" (70 : Nat) ({ cls := "CrowMilesModel", name := "copyRow", desc := "(III)V" } : Jvm.MethodName)) ∈ zW := tg_i (tl_5 (List.mem_of_getElem? (i := 56) rfl)) rfl
theorem tw_5_58 : (Jvm.Cond.instanceMethod ({ cls := "CrowMilesModel", name := "copyRow", desc := "(III)V" } : Jvm.MethodName)) ∈ zW := tg_i (tl_5 (List.mem_of_getElem? (i := 58) rfl)) rfl
theorem tw_5_59 : (Jvm.Cond.code ({ cls := "CrowMilesModel", name := "copyRow", desc := "(III)V" } : Jvm.MethodName) prog_10_method_9_code (5 : Nat) (Option.none : Option Jvm.ClassFile.FieldType)) ∈ zW := tg_i (tl_5 (List.mem_of_getElem? (i := 59) rfl)) rfl
theorem tw_5_60 : (Jvm.Cond.methodLink "CrowMilesLaw" (44 : Nat) ({ cls := "CrowMilesModel", name := "flies", desc := "(II)I" } : Jvm.MethodName)) ∈ zW := tg_i (tl_5 (List.mem_of_getElem? (i := 60) rfl)) rfl
theorem tw_5_61 : (Jvm.Cond.instanceMethod ({ cls := "CrowMilesModel", name := "flies", desc := "(II)I" } : Jvm.MethodName)) ∈ zW := tg_i (tl_5 (List.mem_of_getElem? (i := 61) rfl)) rfl
theorem tw_5_62 : (Jvm.Cond.selects "CrowMilesModel" ({ cls := "CrowMilesModel", name := "flies", desc := "(II)I" } : Jvm.MethodName) ({ cls := "CrowMilesModel", name := "flies", desc := "(II)I" } : Jvm.MethodName)) ∈ zW := tg_i (tl_5 (List.mem_of_getElem? (i := 62) rfl)) rfl
theorem tw_5_63 : (Jvm.Cond.code ({ cls := "CrowMilesModel", name := "flies", desc := "(II)I" } : Jvm.MethodName) prog_10_method_48_code (3 : Nat) (Option.some Jvm.ClassFile.FieldType.int)) ∈ zW := tg_i (tl_5 (List.mem_of_getElem? (i := 63) rfl)) rfl
theorem tw_5_64 : (Jvm.Cond.methodLink "CrowMilesModel" (170 : Nat) ({ cls := "CrowMilesModel", name := "isCrow", desc := "(I)Z" } : Jvm.MethodName)) ∈ zW := tg_i (tl_5 (List.mem_of_getElem? (i := 64) rfl)) rfl
theorem tw_5_66 : (Jvm.Cond.instanceMethod ({ cls := "CrowMilesModel", name := "isCrow", desc := "(I)Z" } : Jvm.MethodName)) ∈ zW := tg_i (tl_5 (List.mem_of_getElem? (i := 66) rfl)) rfl
theorem tw_5_67 : (Jvm.Cond.code ({ cls := "CrowMilesModel", name := "isCrow", desc := "(I)Z" } : Jvm.MethodName) prog_10_method_12_code (2 : Nat) (Option.some Jvm.ClassFile.FieldType.boolean)) ∈ zW := tg_i (tl_5 (List.mem_of_getElem? (i := 67) rfl)) rfl
theorem tw_5_68 : (Jvm.Cond.methodLink "CrowMilesModel" (173 : Nat) ({ cls := "CrowMilesModel", name := "no", desc := "()I" } : Jvm.MethodName)) ∈ zW := tg_i (tl_5 (List.mem_of_getElem? (i := 68) rfl)) rfl
theorem tw_5_70 : (Jvm.Cond.instanceMethod ({ cls := "CrowMilesModel", name := "no", desc := "()I" } : Jvm.MethodName)) ∈ zW := tg_i (tl_5 (List.mem_of_getElem? (i := 70) rfl)) rfl
theorem tw_5_71 : (Jvm.Cond.code ({ cls := "CrowMilesModel", name := "no", desc := "()I" } : Jvm.MethodName) prog_10_method_7_code (1 : Nat) (Option.some Jvm.ClassFile.FieldType.int)) ∈ zW := tg_i (tl_5 (List.mem_of_getElem? (i := 71) rfl)) rfl
theorem tw_5_72 : (Jvm.Cond.methodLink "CrowMilesModel" (176 : Nat) ({ cls := "CrowMilesModel", name := "remember", desc := "()V" } : Jvm.MethodName)) ∈ zW := tg_i (tl_5 (List.mem_of_getElem? (i := 72) rfl)) rfl
theorem tw_5_74 : (Jvm.Cond.instanceMethod ({ cls := "CrowMilesModel", name := "remember", desc := "()V" } : Jvm.MethodName)) ∈ zW := tg_i (tl_5 (List.mem_of_getElem? (i := 74) rfl)) rfl
theorem tw_5_75 : (Jvm.Cond.code ({ cls := "CrowMilesModel", name := "remember", desc := "()V" } : Jvm.MethodName) prog_10_method_23_code (2 : Nat) (Option.none : Option Jvm.ClassFile.FieldType)) ∈ zW := tg_i (tl_5 (List.mem_of_getElem? (i := 75) rfl)) rfl
theorem tw_5_76 : (Jvm.Cond.methodLink "CrowMilesLaw" (48 : Nat) ({ cls := "CrowMilesModel", name := "rests", desc := "(I)I" } : Jvm.MethodName)) ∈ zW := tg_i (tl_5 (List.mem_of_getElem? (i := 76) rfl)) rfl
theorem tw_5_77 : (Jvm.Cond.instanceMethod ({ cls := "CrowMilesModel", name := "rests", desc := "(I)I" } : Jvm.MethodName)) ∈ zW := tg_i (tl_5 (List.mem_of_getElem? (i := 77) rfl)) rfl
theorem tw_5_78 : (Jvm.Cond.selects "CrowMilesModel" ({ cls := "CrowMilesModel", name := "rests", desc := "(I)I" } : Jvm.MethodName) ({ cls := "CrowMilesModel", name := "rests", desc := "(I)I" } : Jvm.MethodName)) ∈ zW := tg_i (tl_5 (List.mem_of_getElem? (i := 78) rfl)) rfl
theorem tw_5_79 : (Jvm.Cond.code ({ cls := "CrowMilesModel", name := "rests", desc := "(I)I" } : Jvm.MethodName) prog_10_method_49_code (2 : Nat) (Option.some Jvm.ClassFile.FieldType.int)) ∈ zW := tg_i (tl_5 (List.mem_of_getElem? (i := 79) rfl)) rfl
theorem tw_5_80 : (Jvm.Cond.methodLink "CrowMilesLaw" (52 : Nat) ({ cls := "CrowMilesModel", name := "hours", desc := "(I)I" } : Jvm.MethodName)) ∈ zW := tg_i (tl_5 (List.mem_of_getElem? (i := 80) rfl)) rfl
theorem tw_5_81 : (Jvm.Cond.instanceMethod ({ cls := "CrowMilesModel", name := "hours", desc := "(I)I" } : Jvm.MethodName)) ∈ zW := tg_i (tl_5 (List.mem_of_getElem? (i := 81) rfl)) rfl
theorem tw_5_82 : (Jvm.Cond.selects "CrowMilesModel" ({ cls := "CrowMilesModel", name := "hours", desc := "(I)I" } : Jvm.MethodName) ({ cls := "CrowMilesModel", name := "hours", desc := "(I)I" } : Jvm.MethodName)) ∈ zW := tg_i (tl_5 (List.mem_of_getElem? (i := 82) rfl)) rfl
theorem tw_5_83 : (Jvm.Cond.code ({ cls := "CrowMilesModel", name := "hours", desc := "(I)I" } : Jvm.MethodName) prog_10_method_50_code (2 : Nat) (Option.some Jvm.ClassFile.FieldType.int)) ∈ zW := tg_i (tl_5 (List.mem_of_getElem? (i := 83) rfl)) rfl
theorem tw_5_84 : (Jvm.Cond.methodLink "CrowMilesLaw" (56 : Nat) ({ cls := "CrowMilesModel", name := "undo", desc := "()I" } : Jvm.MethodName)) ∈ zW := tg_i (tl_5 (List.mem_of_getElem? (i := 84) rfl)) rfl
theorem tw_5_85 : (Jvm.Cond.instanceMethod ({ cls := "CrowMilesModel", name := "undo", desc := "()I" } : Jvm.MethodName)) ∈ zW := tg_i (tl_5 (List.mem_of_getElem? (i := 85) rfl)) rfl
theorem tw_5_86 : (Jvm.Cond.selects "CrowMilesModel" ({ cls := "CrowMilesModel", name := "undo", desc := "()I" } : Jvm.MethodName) ({ cls := "CrowMilesModel", name := "undo", desc := "()I" } : Jvm.MethodName)) ∈ zW := tg_i (tl_5 (List.mem_of_getElem? (i := 86) rfl)) rfl
theorem tw_5_87 : (Jvm.Cond.code ({ cls := "CrowMilesModel", name := "undo", desc := "()I" } : Jvm.MethodName) prog_10_method_51_code (1 : Nat) (Option.some Jvm.ClassFile.FieldType.int)) ∈ zW := tg_i (tl_5 (List.mem_of_getElem? (i := 87) rfl)) rfl
theorem tw_5_88 : (Jvm.Cond.methodLink "CrowMilesLaw" (60 : Nat) ({ cls := "CrowMilesModel", name := "of", desc := "(II)I" } : Jvm.MethodName)) ∈ zW := tg_i (tl_5 (List.mem_of_getElem? (i := 88) rfl)) rfl
theorem tw_5_89 : (Jvm.Cond.instanceMethod ({ cls := "CrowMilesModel", name := "of", desc := "(II)I" } : Jvm.MethodName)) ∈ zW := tg_i (tl_5 (List.mem_of_getElem? (i := 89) rfl)) rfl
theorem tw_5_90 : (Jvm.Cond.selects "CrowMilesModel" ({ cls := "CrowMilesModel", name := "of", desc := "(II)I" } : Jvm.MethodName) ({ cls := "CrowMilesModel", name := "of", desc := "(II)I" } : Jvm.MethodName)) ∈ zW := tg_i (tl_5 (List.mem_of_getElem? (i := 90) rfl)) rfl
theorem tw_5_91 : (Jvm.Cond.code ({ cls := "CrowMilesModel", name := "of", desc := "(II)I" } : Jvm.MethodName) prog_10_method_52_code (3 : Nat) (Option.some Jvm.ClassFile.FieldType.int)) ∈ zW := tg_i (tl_5 (List.mem_of_getElem? (i := 91) rfl)) rfl
theorem tw_5_92 : (Jvm.Cond.methodLink "CrowMilesLaw" (64 : Nat) ({ cls := "CrowMilesModel", name := "about", desc := "(II)I" } : Jvm.MethodName)) ∈ zW := tg_i (tl_5 (List.mem_of_getElem? (i := 92) rfl)) rfl
theorem tw_5_93 : (Jvm.Cond.instanceMethod ({ cls := "CrowMilesModel", name := "about", desc := "(II)I" } : Jvm.MethodName)) ∈ zW := tg_i (tl_5 (List.mem_of_getElem? (i := 93) rfl)) rfl
theorem tw_5_94 : (Jvm.Cond.selects "CrowMilesModel" ({ cls := "CrowMilesModel", name := "about", desc := "(II)I" } : Jvm.MethodName) ({ cls := "CrowMilesModel", name := "about", desc := "(II)I" } : Jvm.MethodName)) ∈ zW := tg_i (tl_5 (List.mem_of_getElem? (i := 94) rfl)) rfl
theorem tw_5_95 : (Jvm.Cond.code ({ cls := "CrowMilesModel", name := "about", desc := "(II)I" } : Jvm.MethodName) prog_10_method_53_code (3 : Nat) (Option.some Jvm.ClassFile.FieldType.int)) ∈ zW := tg_i (tl_5 (List.mem_of_getElem? (i := 95) rfl)) rfl
theorem tw_5_96 : (Jvm.Cond.methodLink "CrowMilesLaw" (68 : Nat) ({ cls := "CrowMilesModel", name := "straight", desc := "(II)I" } : Jvm.MethodName)) ∈ zW := tg_i (tl_5 (List.mem_of_getElem? (i := 96) rfl)) rfl
theorem tw_5_97 : (Jvm.Cond.instanceMethod ({ cls := "CrowMilesModel", name := "straight", desc := "(II)I" } : Jvm.MethodName)) ∈ zW := tg_i (tl_5 (List.mem_of_getElem? (i := 97) rfl)) rfl
theorem tw_5_98 : (Jvm.Cond.selects "CrowMilesModel" ({ cls := "CrowMilesModel", name := "straight", desc := "(II)I" } : Jvm.MethodName) ({ cls := "CrowMilesModel", name := "straight", desc := "(II)I" } : Jvm.MethodName)) ∈ zW := tg_i (tl_5 (List.mem_of_getElem? (i := 98) rfl)) rfl
theorem tw_5_99 : (Jvm.Cond.code ({ cls := "CrowMilesModel", name := "straight", desc := "(II)I" } : Jvm.MethodName) prog_10_method_54_code (3 : Nat) (Option.some Jvm.ClassFile.FieldType.int)) ∈ zW := tg_i (tl_5 (List.mem_of_getElem? (i := 99) rfl)) rfl
theorem tw_5_100 : (Jvm.Cond.methodLink "CrowMilesLaw" (72 : Nat) ({ cls := "CrowMilesModel", name := "far", desc := "(III)I" } : Jvm.MethodName)) ∈ zW := tg_i (tl_5 (List.mem_of_getElem? (i := 100) rfl)) rfl
theorem tw_5_101 : (Jvm.Cond.instanceMethod ({ cls := "CrowMilesModel", name := "far", desc := "(III)I" } : Jvm.MethodName)) ∈ zW := tg_i (tl_5 (List.mem_of_getElem? (i := 101) rfl)) rfl
theorem tw_5_102 : (Jvm.Cond.selects "CrowMilesModel" ({ cls := "CrowMilesModel", name := "far", desc := "(III)I" } : Jvm.MethodName) ({ cls := "CrowMilesModel", name := "far", desc := "(III)I" } : Jvm.MethodName)) ∈ zW := tg_i (tl_5 (List.mem_of_getElem? (i := 102) rfl)) rfl
theorem tw_5_103 : (Jvm.Cond.code ({ cls := "CrowMilesModel", name := "far", desc := "(III)I" } : Jvm.MethodName) prog_10_method_55_code (4 : Nat) (Option.some Jvm.ClassFile.FieldType.int)) ∈ zW := tg_i (tl_5 (List.mem_of_getElem? (i := 103) rfl)) rfl
theorem tw_5_104 : (Jvm.Cond.methodLink "CrowMilesModel" (179 : Nat) ({ cls := "CrowMilesModel", name := "farNow", desc := "(III)I" } : Jvm.MethodName)) ∈ zW := tg_i (tl_5 (List.mem_of_getElem? (i := 104) rfl)) rfl
theorem tw_5_106 : (Jvm.Cond.instanceMethod ({ cls := "CrowMilesModel", name := "farNow", desc := "(III)I" } : Jvm.MethodName)) ∈ zW := tg_i (tl_5 (List.mem_of_getElem? (i := 106) rfl)) rfl
theorem tw_5_107 : (Jvm.Cond.code ({ cls := "CrowMilesModel", name := "farNow", desc := "(III)I" } : Jvm.MethodName) prog_10_method_19_code (4 : Nat) (Option.some Jvm.ClassFile.FieldType.int)) ∈ zW := tg_i (tl_5 (List.mem_of_getElem? (i := 107) rfl)) rfl
theorem tw_5_108 : (Jvm.Cond.methodLink "CrowMilesLaw" (77 : Nat) ({ cls := "CrowMilesModel", name := "way", desc := "(IIII)I" } : Jvm.MethodName)) ∈ zW := tg_i (tl_5 (List.mem_of_getElem? (i := 108) rfl)) rfl
theorem tw_5_109 : (Jvm.Cond.instanceMethod ({ cls := "CrowMilesModel", name := "way", desc := "(IIII)I" } : Jvm.MethodName)) ∈ zW := tg_i (tl_5 (List.mem_of_getElem? (i := 109) rfl)) rfl
theorem tw_5_110 : (Jvm.Cond.selects "CrowMilesModel" ({ cls := "CrowMilesModel", name := "way", desc := "(IIII)I" } : Jvm.MethodName) ({ cls := "CrowMilesModel", name := "way", desc := "(IIII)I" } : Jvm.MethodName)) ∈ zW := tg_i (tl_5 (List.mem_of_getElem? (i := 110) rfl)) rfl
theorem tw_5_111 : (Jvm.Cond.code ({ cls := "CrowMilesModel", name := "way", desc := "(IIII)I" } : Jvm.MethodName) prog_10_method_61_code (5 : Nat) (Option.some Jvm.ClassFile.FieldType.int)) ∈ zW := tg_i (tl_5 (List.mem_of_getElem? (i := 111) rfl)) rfl
theorem tw_5_112 : (Jvm.Cond.methodLink "CrowMilesModel" (193 : Nat) ({ cls := "CrowMilesModel", name := "badTen", desc := "()I" } : Jvm.MethodName)) ∈ zW := tg_i (tl_5 (List.mem_of_getElem? (i := 112) rfl)) rfl
theorem tw_5_114 : (Jvm.Cond.instanceMethod ({ cls := "CrowMilesModel", name := "badTen", desc := "()I" } : Jvm.MethodName)) ∈ zW := tg_i (tl_5 (List.mem_of_getElem? (i := 114) rfl)) rfl
theorem tw_5_115 : (Jvm.Cond.code ({ cls := "CrowMilesModel", name := "badTen", desc := "()I" } : Jvm.MethodName) prog_10_method_6_code (1 : Nat) (Option.some Jvm.ClassFile.FieldType.int)) ∈ zW := tg_i (tl_5 (List.mem_of_getElem? (i := 115) rfl)) rfl
theorem tw_5_116 : (Jvm.Cond.methodLink "CrowMilesModel" (196 : Nat) ({ cls := "CrowMilesModel", name := "layFars", desc := "(I)V" } : Jvm.MethodName)) ∈ zW := tg_i (tl_5 (List.mem_of_getElem? (i := 116) rfl)) rfl
theorem tw_5_118 : (Jvm.Cond.instanceMethod ({ cls := "CrowMilesModel", name := "layFars", desc := "(I)V" } : Jvm.MethodName)) ∈ zW := tg_i (tl_5 (List.mem_of_getElem? (i := 118) rfl)) rfl
theorem tw_5_119 : (Jvm.Cond.code ({ cls := "CrowMilesModel", name := "layFars", desc := "(I)V" } : Jvm.MethodName) prog_10_method_56_code (4 : Nat) (Option.none : Option Jvm.ClassFile.FieldType)) ∈ zW := tg_i (tl_5 (List.mem_of_getElem? (i := 119) rfl)) rfl
theorem tw_5_120 : (Jvm.Cond.methodLink "CrowMilesModel" (199 : Nat) ({ cls := "CrowMilesModel", name := "layYet", desc := "(I)V" } : Jvm.MethodName)) ∈ zW := tg_i (tl_5 (List.mem_of_getElem? (i := 120) rfl)) rfl
theorem tw_5_122 : (Jvm.Cond.instanceMethod ({ cls := "CrowMilesModel", name := "layYet", desc := "(I)V" } : Jvm.MethodName)) ∈ zW := tg_i (tl_5 (List.mem_of_getElem? (i := 122) rfl)) rfl
theorem tw_5_123 : (Jvm.Cond.code ({ cls := "CrowMilesModel", name := "layYet", desc := "(I)V" } : Jvm.MethodName) prog_10_method_59_code (4 : Nat) (Option.none : Option Jvm.ClassFile.FieldType)) ∈ zW := tg_i (tl_5 (List.mem_of_getElem? (i := 123) rfl)) rfl
theorem tw_5_124 : (Jvm.Cond.methodLink "CrowMilesModel" (183 : Nat) ({ cls := "CrowMilesModel", name := "has", desc := "(II)Z" } : Jvm.MethodName)) ∈ zW := tg_i (tl_5 (List.mem_of_getElem? (i := 124) rfl)) rfl
theorem tw_5_125 : (Jvm.Cond.static ({ cls := "CrowMilesModel", name := "has", desc := "(II)Z" } : Jvm.MethodName)) ∈ zW := tg_i (tl_5 (List.mem_of_getElem? (i := 125) rfl)) rfl
theorem tw_5_126 : (Jvm.Cond.code ({ cls := "CrowMilesModel", name := "has", desc := "(II)Z" } : Jvm.MethodName) prog_10_method_4_code (2 : Nat) (Option.some Jvm.ClassFile.FieldType.boolean)) ∈ zW := tg_i (tl_5 (List.mem_of_getElem? (i := 126) rfl)) rfl
theorem tw_5_127 : (Jvm.Cond.methodLink "CrowMilesModel" (190 : Nat) ({ cls := "CrowMilesModel", name := "leastFrom", desc := "(III)I" } : Jvm.MethodName)) ∈ zW := tg_i (tl_5 (List.mem_of_getElem? (i := 127) rfl)) rfl
theorem tw_5_129 : (Jvm.Cond.instanceMethod ({ cls := "CrowMilesModel", name := "leastFrom", desc := "(III)I" } : Jvm.MethodName)) ∈ zW := tg_i (tl_5 (List.mem_of_getElem? (i := 129) rfl)) rfl
theorem tw_5_130 : (Jvm.Cond.code ({ cls := "CrowMilesModel", name := "leastFrom", desc := "(III)I" } : Jvm.MethodName) prog_10_method_58_code (7 : Nat) (Option.some Jvm.ClassFile.FieldType.int)) ∈ zW := tg_i (tl_5 (List.mem_of_getElem? (i := 130) rfl)) rfl
theorem tw_5_131 : (Jvm.Cond.constant "CrowMilesModel" (182 : Nat) (99999999 : Int32)) ∈ zW := tg_i (tl_5 (List.mem_of_getElem? (i := 131) rfl)) rfl
theorem tw_5_132 : (Jvm.Cond.methodLink "CrowMilesModel" (187 : Nat) ({ cls := "CrowMilesModel", name := "partTo", desc := "(III)I" } : Jvm.MethodName)) ∈ zW := tg_i (tl_5 (List.mem_of_getElem? (i := 132) rfl)) rfl
theorem tw_5_134 : (Jvm.Cond.instanceMethod ({ cls := "CrowMilesModel", name := "partTo", desc := "(III)I" } : Jvm.MethodName)) ∈ zW := tg_i (tl_5 (List.mem_of_getElem? (i := 134) rfl)) rfl
theorem tw_5_135 : (Jvm.Cond.code ({ cls := "CrowMilesModel", name := "partTo", desc := "(III)I" } : Jvm.MethodName) prog_10_method_57_code (4 : Nat) (Option.some Jvm.ClassFile.FieldType.int)) ∈ zW := tg_i (tl_5 (List.mem_of_getElem? (i := 135) rfl)) rfl
theorem tw_5_136 : (Jvm.Cond.methodLink "CrowMilesModel" (202 : Nat) ({ cls := "CrowMilesModel", name := "kth", desc := "(III)I" } : Jvm.MethodName)) ∈ zW := tg_i (tl_5 (List.mem_of_getElem? (i := 136) rfl)) rfl
theorem tw_5_138 : (Jvm.Cond.instanceMethod ({ cls := "CrowMilesModel", name := "kth", desc := "(III)I" } : Jvm.MethodName)) ∈ zW := tg_i (tl_5 (List.mem_of_getElem? (i := 138) rfl)) rfl
theorem tw_5_139 : (Jvm.Cond.code ({ cls := "CrowMilesModel", name := "kth", desc := "(III)I" } : Jvm.MethodName) prog_10_method_60_code (9 : Nat) (Option.some Jvm.ClassFile.FieldType.int)) ∈ zW := tg_i (tl_5 (List.mem_of_getElem? (i := 139) rfl)) rfl
theorem tw_5_140 : (Jvm.Cond.methodLink "CrowMilesLaw" (81 : Nat) ({ cls := "CrowMilesModel", name := "round", desc := "(II)I" } : Jvm.MethodName)) ∈ zW := tg_i (tl_5 (List.mem_of_getElem? (i := 140) rfl)) rfl
theorem tw_5_141 : (Jvm.Cond.instanceMethod ({ cls := "CrowMilesModel", name := "round", desc := "(II)I" } : Jvm.MethodName)) ∈ zW := tg_i (tl_5 (List.mem_of_getElem? (i := 141) rfl)) rfl
theorem tw_5_142 : (Jvm.Cond.selects "CrowMilesModel" ({ cls := "CrowMilesModel", name := "round", desc := "(II)I" } : Jvm.MethodName) ({ cls := "CrowMilesModel", name := "round", desc := "(II)I" } : Jvm.MethodName)) ∈ zW := tg_i (tl_5 (List.mem_of_getElem? (i := 142) rfl)) rfl
theorem tw_5_143 : (Jvm.Cond.code ({ cls := "CrowMilesModel", name := "round", desc := "(II)I" } : Jvm.MethodName) prog_10_method_62_code (3 : Nat) (Option.some Jvm.ClassFile.FieldType.int)) ∈ zW := tg_i (tl_5 (List.mem_of_getElem? (i := 143) rfl)) rfl
theorem tw_5_144 : (Jvm.Cond.methodLink "CrowMilesLaw" (85 : Nat) ({ cls := "CrowMilesModel", name := "clash", desc := "(II)I" } : Jvm.MethodName)) ∈ zW := tg_i (tl_5 (List.mem_of_getElem? (i := 144) rfl)) rfl
theorem tw_5_145 : (Jvm.Cond.instanceMethod ({ cls := "CrowMilesModel", name := "clash", desc := "(II)I" } : Jvm.MethodName)) ∈ zW := tg_i (tl_5 (List.mem_of_getElem? (i := 145) rfl)) rfl
theorem tw_5_146 : (Jvm.Cond.selects "CrowMilesModel" ({ cls := "CrowMilesModel", name := "clash", desc := "(II)I" } : Jvm.MethodName) ({ cls := "CrowMilesModel", name := "clash", desc := "(II)I" } : Jvm.MethodName)) ∈ zW := tg_i (tl_5 (List.mem_of_getElem? (i := 146) rfl)) rfl
theorem tw_5_147 : (Jvm.Cond.code ({ cls := "CrowMilesModel", name := "clash", desc := "(II)I" } : Jvm.MethodName) prog_10_method_64_code (7 : Nat) (Option.some Jvm.ClassFile.FieldType.int)) ∈ zW := tg_i (tl_5 (List.mem_of_getElem? (i := 147) rfl)) rfl
theorem tw_5_148 : (Jvm.Cond.methodLink "CrowMilesModel" (205 : Nat) ({ cls := "CrowMilesModel", name := "doesClash", desc := "(II)Z" } : Jvm.MethodName)) ∈ zW := tg_i (tl_5 (List.mem_of_getElem? (i := 148) rfl)) rfl
theorem tw_5_150 : (Jvm.Cond.instanceMethod ({ cls := "CrowMilesModel", name := "doesClash", desc := "(II)Z" } : Jvm.MethodName)) ∈ zW := tg_i (tl_5 (List.mem_of_getElem? (i := 150) rfl)) rfl
theorem tw_5_151 : (Jvm.Cond.code ({ cls := "CrowMilesModel", name := "doesClash", desc := "(II)Z" } : Jvm.MethodName) prog_10_method_63_code (5 : Nat) (Option.some Jvm.ClassFile.FieldType.boolean)) ∈ zW := tg_i (tl_5 (List.mem_of_getElem? (i := 151) rfl)) rfl
theorem tw_5_152 : (Jvm.Cond.methodLink "CrowMilesLaw" (89 : Nat) ({ cls := "CrowMilesModel", name := "late", desc := "(IIII)I" } : Jvm.MethodName)) ∈ zW := tg_i (tl_5 (List.mem_of_getElem? (i := 152) rfl)) rfl
theorem tw_5_153 : (Jvm.Cond.instanceMethod ({ cls := "CrowMilesModel", name := "late", desc := "(IIII)I" } : Jvm.MethodName)) ∈ zW := tg_i (tl_5 (List.mem_of_getElem? (i := 153) rfl)) rfl
theorem tw_5_154 : (Jvm.Cond.selects "CrowMilesModel" ({ cls := "CrowMilesModel", name := "late", desc := "(IIII)I" } : Jvm.MethodName) ({ cls := "CrowMilesModel", name := "late", desc := "(IIII)I" } : Jvm.MethodName)) ∈ zW := tg_i (tl_5 (List.mem_of_getElem? (i := 154) rfl)) rfl
theorem tw_5_155 : (Jvm.Cond.code ({ cls := "CrowMilesModel", name := "late", desc := "(IIII)I" } : Jvm.MethodName) prog_10_method_65_code (9 : Nat) (Option.some Jvm.ClassFile.FieldType.int)) ∈ zW := tg_i (tl_5 (List.mem_of_getElem? (i := 155) rfl)) rfl
theorem tw_5_156 : (Jvm.Cond.methodLink "CrowMilesLaw" (93 : Nat) ({ cls := "CrowMilesModel", name := "standard", desc := "(II)I" } : Jvm.MethodName)) ∈ zW := tg_i (tl_5 (List.mem_of_getElem? (i := 156) rfl)) rfl
theorem tw_5_157 : (Jvm.Cond.instanceMethod ({ cls := "CrowMilesModel", name := "standard", desc := "(II)I" } : Jvm.MethodName)) ∈ zW := tg_i (tl_5 (List.mem_of_getElem? (i := 157) rfl)) rfl
theorem tw_5_158 : (Jvm.Cond.selects "CrowMilesModel" ({ cls := "CrowMilesModel", name := "standard", desc := "(II)I" } : Jvm.MethodName) ({ cls := "CrowMilesModel", name := "standard", desc := "(II)I" } : Jvm.MethodName)) ∈ zW := tg_i (tl_5 (List.mem_of_getElem? (i := 158) rfl)) rfl
theorem tw_5_159 : (Jvm.Cond.code ({ cls := "CrowMilesModel", name := "standard", desc := "(II)I" } : Jvm.MethodName) prog_10_method_68_code (9 : Nat) (Option.some Jvm.ClassFile.FieldType.int)) ∈ zW := tg_i (tl_5 (List.mem_of_getElem? (i := 159) rfl)) rfl
theorem tw_5_160 : (Jvm.Cond.methodLink "CrowMilesModel" (208 : Nat) ({ cls := "CrowMilesModel", name := "isDeed", desc := "(III)Z" } : Jvm.MethodName)) ∈ zW := tg_i (tl_5 (List.mem_of_getElem? (i := 160) rfl)) rfl
theorem tw_5_162 : (Jvm.Cond.instanceMethod ({ cls := "CrowMilesModel", name := "isDeed", desc := "(III)Z" } : Jvm.MethodName)) ∈ zW := tg_i (tl_5 (List.mem_of_getElem? (i := 162) rfl)) rfl
theorem tw_5_163 : (Jvm.Cond.code ({ cls := "CrowMilesModel", name := "isDeed", desc := "(III)Z" } : Jvm.MethodName) prog_10_method_66_code (4 : Nat) (Option.some Jvm.ClassFile.FieldType.boolean)) ∈ zW := tg_i (tl_5 (List.mem_of_getElem? (i := 163) rfl)) rfl
theorem tw_5_164 : (Jvm.Cond.methodLink "CrowMilesModel" (211 : Nat) ({ cls := "CrowMilesModel", name := "apart", desc := "(III)I" } : Jvm.MethodName)) ∈ zW := tg_i (tl_5 (List.mem_of_getElem? (i := 164) rfl)) rfl
theorem tw_5_166 : (Jvm.Cond.instanceMethod ({ cls := "CrowMilesModel", name := "apart", desc := "(III)I" } : Jvm.MethodName)) ∈ zW := tg_i (tl_5 (List.mem_of_getElem? (i := 166) rfl)) rfl
theorem tw_5_167 : (Jvm.Cond.code ({ cls := "CrowMilesModel", name := "apart", desc := "(III)I" } : Jvm.MethodName) prog_10_method_67_code (7 : Nat) (Option.some Jvm.ClassFile.FieldType.int)) ∈ zW := tg_i (tl_5 (List.mem_of_getElem? (i := 167) rfl)) rfl
theorem tw_5_168 : (Jvm.Cond.methodLink "CrowMilesLaw" (97 : Nat) ({ cls := "CrowMilesModel", name := "book", desc := "(II)I" } : Jvm.MethodName)) ∈ zW := tg_i (tl_5 (List.mem_of_getElem? (i := 168) rfl)) rfl
theorem tw_5_169 : (Jvm.Cond.instanceMethod ({ cls := "CrowMilesModel", name := "book", desc := "(II)I" } : Jvm.MethodName)) ∈ zW := tg_i (tl_5 (List.mem_of_getElem? (i := 169) rfl)) rfl
theorem tw_5_170 : (Jvm.Cond.selects "CrowMilesModel" ({ cls := "CrowMilesModel", name := "book", desc := "(II)I" } : Jvm.MethodName) ({ cls := "CrowMilesModel", name := "book", desc := "(II)I" } : Jvm.MethodName)) ∈ zW := tg_i (tl_5 (List.mem_of_getElem? (i := 170) rfl)) rfl
theorem tw_5_171 : (Jvm.Cond.code ({ cls := "CrowMilesModel", name := "book", desc := "(II)I" } : Jvm.MethodName) prog_10_method_69_code (4 : Nat) (Option.some Jvm.ClassFile.FieldType.int)) ∈ zW := tg_i (tl_5 (List.mem_of_getElem? (i := 171) rfl)) rfl
theorem tw_5_172 : (Jvm.Cond.methodLink "CrowMilesLaw" (101 : Nat) ({ cls := "CrowMilesModel", name := "note", desc := "(IIII)I" } : Jvm.MethodName)) ∈ zW := tg_i (tl_5 (List.mem_of_getElem? (i := 172) rfl)) rfl
theorem tw_5_173 : (Jvm.Cond.instanceMethod ({ cls := "CrowMilesModel", name := "note", desc := "(IIII)I" } : Jvm.MethodName)) ∈ zW := tg_i (tl_5 (List.mem_of_getElem? (i := 173) rfl)) rfl
theorem tw_5_174 : (Jvm.Cond.selects "CrowMilesModel" ({ cls := "CrowMilesModel", name := "note", desc := "(IIII)I" } : Jvm.MethodName) ({ cls := "CrowMilesModel", name := "note", desc := "(IIII)I" } : Jvm.MethodName)) ∈ zW := tg_i (tl_5 (List.mem_of_getElem? (i := 174) rfl)) rfl
theorem tw_5_175 : (Jvm.Cond.code ({ cls := "CrowMilesModel", name := "note", desc := "(IIII)I" } : Jvm.MethodName) prog_10_method_70_code (6 : Nat) (Option.some Jvm.ClassFile.FieldType.int)) ∈ zW := tg_i (tl_5 (List.mem_of_getElem? (i := 175) rfl)) rfl
theorem tw_5_176 : (Jvm.Cond.methodLink "CrowMilesLaw" (106 : Nat) ({ cls := "CrowMilesModel", name := "mark", desc := "(IIIII)I" } : Jvm.MethodName)) ∈ zW := tg_i (tl_5 (List.mem_of_getElem? (i := 176) rfl)) rfl
theorem tw_5_177 : (Jvm.Cond.instanceMethod ({ cls := "CrowMilesModel", name := "mark", desc := "(IIIII)I" } : Jvm.MethodName)) ∈ zW := tg_i (tl_5 (List.mem_of_getElem? (i := 177) rfl)) rfl
theorem tw_5_178 : (Jvm.Cond.selects "CrowMilesModel" ({ cls := "CrowMilesModel", name := "mark", desc := "(IIIII)I" } : Jvm.MethodName) ({ cls := "CrowMilesModel", name := "mark", desc := "(IIIII)I" } : Jvm.MethodName)) ∈ zW := tg_i (tl_5 (List.mem_of_getElem? (i := 178) rfl)) rfl
theorem tw_5_179 : (Jvm.Cond.code ({ cls := "CrowMilesModel", name := "mark", desc := "(IIIII)I" } : Jvm.MethodName) prog_10_method_71_code (7 : Nat) (Option.some Jvm.ClassFile.FieldType.int)) ∈ zW := tg_i (tl_5 (List.mem_of_getElem? (i := 179) rfl)) rfl
theorem tw_5_180 : (Jvm.Cond.methodLink "CrowMilesLaw" (110 : Nat) ({ cls := "CrowMilesModel", name := "forget", desc := "(I)I" } : Jvm.MethodName)) ∈ zW := tg_i (tl_5 (List.mem_of_getElem? (i := 180) rfl)) rfl
theorem tw_5_181 : (Jvm.Cond.instanceMethod ({ cls := "CrowMilesModel", name := "forget", desc := "(I)I" } : Jvm.MethodName)) ∈ zW := tg_i (tl_5 (List.mem_of_getElem? (i := 181) rfl)) rfl
theorem tw_5_182 : (Jvm.Cond.selects "CrowMilesModel" ({ cls := "CrowMilesModel", name := "forget", desc := "(I)I" } : Jvm.MethodName) ({ cls := "CrowMilesModel", name := "forget", desc := "(I)I" } : Jvm.MethodName)) ∈ zW := tg_i (tl_5 (List.mem_of_getElem? (i := 182) rfl)) rfl
theorem tw_5_183 : (Jvm.Cond.code ({ cls := "CrowMilesModel", name := "forget", desc := "(I)I" } : Jvm.MethodName) prog_10_method_72_code (4 : Nat) (Option.some Jvm.ClassFile.FieldType.int)) ∈ zW := tg_i (tl_5 (List.mem_of_getElem? (i := 183) rfl)) rfl
theorem tw_5_184 : (Jvm.Cond.methodLink "CrowMilesLaw" (114 : Nat) ({ cls := "CrowMilesModel", name := "is", desc := "(I)I" } : Jvm.MethodName)) ∈ zW := tg_i (tl_5 (List.mem_of_getElem? (i := 184) rfl)) rfl
theorem tw_5_185 : (Jvm.Cond.instanceMethod ({ cls := "CrowMilesModel", name := "is", desc := "(I)I" } : Jvm.MethodName)) ∈ zW := tg_i (tl_5 (List.mem_of_getElem? (i := 185) rfl)) rfl
theorem tw_5_186 : (Jvm.Cond.selects "CrowMilesModel" ({ cls := "CrowMilesModel", name := "is", desc := "(I)I" } : Jvm.MethodName) ({ cls := "CrowMilesModel", name := "is", desc := "(I)I" } : Jvm.MethodName)) ∈ zW := tg_i (tl_5 (List.mem_of_getElem? (i := 186) rfl)) rfl
theorem tw_5_187 : (Jvm.Cond.code ({ cls := "CrowMilesModel", name := "is", desc := "(I)I" } : Jvm.MethodName) prog_10_method_75_code (2 : Nat) (Option.some Jvm.ClassFile.FieldType.int)) ∈ zW := tg_i (tl_5 (List.mem_of_getElem? (i := 187) rfl)) rfl
theorem tw_5_188 : (Jvm.Cond.methodLink "CrowMilesModel" (214 : Nat) ({ cls := "CrowMilesModel", name := "isOf", desc := "(I)I" } : Jvm.MethodName)) ∈ zW := tg_i (tl_5 (List.mem_of_getElem? (i := 188) rfl)) rfl
theorem tw_5_190 : (Jvm.Cond.instanceMethod ({ cls := "CrowMilesModel", name := "isOf", desc := "(I)I" } : Jvm.MethodName)) ∈ zW := tg_i (tl_5 (List.mem_of_getElem? (i := 190) rfl)) rfl
theorem tw_5_191 : (Jvm.Cond.code ({ cls := "CrowMilesModel", name := "isOf", desc := "(I)I" } : Jvm.MethodName) prog_10_method_73_code (6 : Nat) (Option.some Jvm.ClassFile.FieldType.int)) ∈ zW := tg_i (tl_5 (List.mem_of_getElem? (i := 191) rfl)) rfl
theorem tw_5_192 : (Jvm.Cond.methodLink "CrowMilesLaw" (122 : Nat) ({ cls := "CrowMilesModel", name := "kinds", desc := "(I)I" } : Jvm.MethodName)) ∈ zW := tg_i (tl_5 (List.mem_of_getElem? (i := 192) rfl)) rfl
theorem tw_5_193 : (Jvm.Cond.instanceMethod ({ cls := "CrowMilesModel", name := "kinds", desc := "(I)I" } : Jvm.MethodName)) ∈ zW := tg_i (tl_5 (List.mem_of_getElem? (i := 193) rfl)) rfl
theorem tw_5_194 : (Jvm.Cond.selects "CrowMilesModel" ({ cls := "CrowMilesModel", name := "kinds", desc := "(I)I" } : Jvm.MethodName) ({ cls := "CrowMilesModel", name := "kinds", desc := "(I)I" } : Jvm.MethodName)) ∈ zW := tg_i (tl_5 (List.mem_of_getElem? (i := 194) rfl)) rfl
theorem tw_5_195 : (Jvm.Cond.code ({ cls := "CrowMilesModel", name := "kinds", desc := "(I)I" } : Jvm.MethodName) prog_10_method_76_code (2 : Nat) (Option.some Jvm.ClassFile.FieldType.int)) ∈ zW := tg_i (tl_5 (List.mem_of_getElem? (i := 195) rfl)) rfl
theorem tw_5_196 : (Jvm.Cond.methodLink "CrowMilesModel" (217 : Nat) ({ cls := "CrowMilesModel", name := "kindsOf", desc := "(I)I" } : Jvm.MethodName)) ∈ zW := tg_i (tl_5 (List.mem_of_getElem? (i := 196) rfl)) rfl
theorem tw_5_198 : (Jvm.Cond.instanceMethod ({ cls := "CrowMilesModel", name := "kindsOf", desc := "(I)I" } : Jvm.MethodName)) ∈ zW := tg_i (tl_5 (List.mem_of_getElem? (i := 198) rfl)) rfl
theorem tw_5_199 : (Jvm.Cond.code ({ cls := "CrowMilesModel", name := "kindsOf", desc := "(I)I" } : Jvm.MethodName) prog_10_method_74_code (6 : Nat) (Option.some Jvm.ClassFile.FieldType.int)) ∈ zW := tg_i (tl_5 (List.mem_of_getElem? (i := 199) rfl)) rfl
theorem tw_5_200 : (Jvm.Cond.methodLink "CrowMilesLaw" (118 : Nat) ({ cls := "CrowMilesModel", name := "look", desc := "(I)I" } : Jvm.MethodName)) ∈ zW := tg_i (tl_5 (List.mem_of_getElem? (i := 200) rfl)) rfl
theorem tw_5_201 : (Jvm.Cond.instanceMethod ({ cls := "CrowMilesModel", name := "look", desc := "(I)I" } : Jvm.MethodName)) ∈ zW := tg_i (tl_5 (List.mem_of_getElem? (i := 201) rfl)) rfl
theorem tw_5_202 : (Jvm.Cond.selects "CrowMilesModel" ({ cls := "CrowMilesModel", name := "look", desc := "(I)I" } : Jvm.MethodName) ({ cls := "CrowMilesModel", name := "look", desc := "(I)I" } : Jvm.MethodName)) ∈ zW := tg_i (tl_5 (List.mem_of_getElem? (i := 202) rfl)) rfl
theorem tw_5_203 : (Jvm.Cond.code ({ cls := "CrowMilesModel", name := "look", desc := "(I)I" } : Jvm.MethodName) prog_10_method_78_code (7 : Nat) (Option.some Jvm.ClassFile.FieldType.int)) ∈ zW := tg_i (tl_5 (List.mem_of_getElem? (i := 203) rfl)) rfl
theorem tw_5_204 : (Jvm.Cond.methodLink "CrowMilesModel" (220 : Nat) ({ cls := "CrowMilesModel", name := "greatestPart", desc := "(I)I" } : Jvm.MethodName)) ∈ zW := tg_i (tl_5 (List.mem_of_getElem? (i := 204) rfl)) rfl
theorem tw_5_206 : (Jvm.Cond.instanceMethod ({ cls := "CrowMilesModel", name := "greatestPart", desc := "(I)I" } : Jvm.MethodName)) ∈ zW := tg_i (tl_5 (List.mem_of_getElem? (i := 206) rfl)) rfl
theorem tw_5_207 : (Jvm.Cond.code ({ cls := "CrowMilesModel", name := "greatestPart", desc := "(I)I" } : Jvm.MethodName) prog_10_method_77_code (6 : Nat) (Option.some Jvm.ClassFile.FieldType.int)) ∈ zW := tg_i (tl_5 (List.mem_of_getElem? (i := 207) rfl)) rfl
theorem tw_5_208 : (Jvm.Cond.methodLink "CrowMilesLaw" (126 : Nat) ({ cls := "CrowMilesModel", name := "ask", desc := "(I)I" } : Jvm.MethodName)) ∈ zW := tg_i (tl_5 (List.mem_of_getElem? (i := 208) rfl)) rfl
theorem tw_5_209 : (Jvm.Cond.instanceMethod ({ cls := "CrowMilesModel", name := "ask", desc := "(I)I" } : Jvm.MethodName)) ∈ zW := tg_i (tl_5 (List.mem_of_getElem? (i := 209) rfl)) rfl
theorem tw_5_210 : (Jvm.Cond.selects "CrowMilesModel" ({ cls := "CrowMilesModel", name := "ask", desc := "(I)I" } : Jvm.MethodName) ({ cls := "CrowMilesModel", name := "ask", desc := "(I)I" } : Jvm.MethodName)) ∈ zW := tg_i (tl_5 (List.mem_of_getElem? (i := 210) rfl)) rfl
theorem tw_5_211 : (Jvm.Cond.code ({ cls := "CrowMilesModel", name := "ask", desc := "(I)I" } : Jvm.MethodName) prog_10_method_79_code (7 : Nat) (Option.some Jvm.ClassFile.FieldType.int)) ∈ zW := tg_i (tl_5 (List.mem_of_getElem? (i := 211) rfl)) rfl
theorem tw_5_212 : (Jvm.Cond.methodLink "CrowMilesLaw" (130 : Nat) ({ cls := "CrowMilesModel", name := "owner", desc := "(II)I" } : Jvm.MethodName)) ∈ zW := tg_i (tl_5 (List.mem_of_getElem? (i := 212) rfl)) rfl
theorem tw_5_213 : (Jvm.Cond.instanceMethod ({ cls := "CrowMilesModel", name := "owner", desc := "(II)I" } : Jvm.MethodName)) ∈ zW := tg_i (tl_5 (List.mem_of_getElem? (i := 213) rfl)) rfl
theorem tw_5_214 : (Jvm.Cond.selects "CrowMilesModel" ({ cls := "CrowMilesModel", name := "owner", desc := "(II)I" } : Jvm.MethodName) ({ cls := "CrowMilesModel", name := "owner", desc := "(II)I" } : Jvm.MethodName)) ∈ zW := tg_i (tl_5 (List.mem_of_getElem? (i := 214) rfl)) rfl
theorem tw_5_215 : (Jvm.Cond.code ({ cls := "CrowMilesModel", name := "owner", desc := "(II)I" } : Jvm.MethodName) prog_10_method_83_code (7 : Nat) (Option.some Jvm.ClassFile.FieldType.int)) ∈ zW := tg_i (tl_5 (List.mem_of_getElem? (i := 215) rfl)) rfl
theorem tw_5_216 : (Jvm.Cond.methodLink "CrowMilesModel" (229 : Nat) ({ cls := "CrowMilesModel", name := "rest", desc := "(III)Z" } : Jvm.MethodName)) ∈ zW := tg_i (tl_5 (List.mem_of_getElem? (i := 216) rfl)) rfl
theorem tw_5_218 : (Jvm.Cond.instanceMethod ({ cls := "CrowMilesModel", name := "rest", desc := "(III)Z" } : Jvm.MethodName)) ∈ zW := tg_i (tl_5 (List.mem_of_getElem? (i := 218) rfl)) rfl
theorem tw_5_219 : (Jvm.Cond.code ({ cls := "CrowMilesModel", name := "rest", desc := "(III)Z" } : Jvm.MethodName) prog_10_method_82_code (6 : Nat) (Option.some Jvm.ClassFile.FieldType.boolean)) ∈ zW := tg_i (tl_5 (List.mem_of_getElem? (i := 219) rfl)) rfl
theorem tw_5_220 : (Jvm.Cond.methodLink "CrowMilesModel" (223 : Nat) ({ cls := "CrowMilesModel", name := "ownerGets", desc := "(III)I" } : Jvm.MethodName)) ∈ zW := tg_i (tl_5 (List.mem_of_getElem? (i := 220) rfl)) rfl
theorem tw_5_222 : (Jvm.Cond.instanceMethod ({ cls := "CrowMilesModel", name := "ownerGets", desc := "(III)I" } : Jvm.MethodName)) ∈ zW := tg_i (tl_5 (List.mem_of_getElem? (i := 222) rfl)) rfl
theorem tw_5_223 : (Jvm.Cond.code ({ cls := "CrowMilesModel", name := "ownerGets", desc := "(III)I" } : Jvm.MethodName) prog_10_method_80_code (4 : Nat) (Option.some Jvm.ClassFile.FieldType.int)) ∈ zW := tg_i (tl_5 (List.mem_of_getElem? (i := 223) rfl)) rfl
theorem tw_5_224 : (Jvm.Cond.methodLink "CrowMilesModel" (226 : Nat) ({ cls := "CrowMilesModel", name := "surveyorGets", desc := "(III)I" } : Jvm.MethodName)) ∈ zW := tg_i (tl_5 (List.mem_of_getElem? (i := 224) rfl)) rfl
theorem tw_5_226 : (Jvm.Cond.instanceMethod ({ cls := "CrowMilesModel", name := "surveyorGets", desc := "(III)I" } : Jvm.MethodName)) ∈ zW := tg_i (tl_5 (List.mem_of_getElem? (i := 226) rfl)) rfl
theorem tw_5_227 : (Jvm.Cond.code ({ cls := "CrowMilesModel", name := "surveyorGets", desc := "(III)I" } : Jvm.MethodName) prog_10_method_81_code (4 : Nat) (Option.some Jvm.ClassFile.FieldType.int)) ∈ zW := tg_i (tl_5 (List.mem_of_getElem? (i := 227) rfl)) rfl
theorem tw_5_228 : (Jvm.Cond.methodLink "CrowMilesLaw" (134 : Nat) ({ cls := "CrowMilesModel", name := "wind", desc := "(IIII)I" } : Jvm.MethodName)) ∈ zW := tg_i (tl_5 (List.mem_of_getElem? (i := 228) rfl)) rfl
theorem tw_5_229 : (Jvm.Cond.instanceMethod ({ cls := "CrowMilesModel", name := "wind", desc := "(IIII)I" } : Jvm.MethodName)) ∈ zW := tg_i (tl_5 (List.mem_of_getElem? (i := 229) rfl)) rfl
theorem tw_5_230 : (Jvm.Cond.selects "CrowMilesModel" ({ cls := "CrowMilesModel", name := "wind", desc := "(IIII)I" } : Jvm.MethodName) ({ cls := "CrowMilesModel", name := "wind", desc := "(IIII)I" } : Jvm.MethodName)) ∈ zW := tg_i (tl_5 (List.mem_of_getElem? (i := 230) rfl)) rfl
theorem tw_5_231 : (Jvm.Cond.code ({ cls := "CrowMilesModel", name := "wind", desc := "(IIII)I" } : Jvm.MethodName) prog_10_method_84_code (15 : Nat) (Option.some Jvm.ClassFile.FieldType.int)) ∈ zW := tg_i (tl_5 (List.mem_of_getElem? (i := 231) rfl)) rfl
theorem tw_5_232 : (Jvm.Cond.constantLong "CrowMilesModel" (232 : Nat) (10 : Int64)) ∈ zW := tg_i (tl_5 (List.mem_of_getElem? (i := 232) rfl)) rfl
theorem tw_5_233 : (Jvm.Cond.constantLong "CrowMilesModel" (234 : Nat) (2 : Int64)) ∈ zW := tg_i (tl_5 (List.mem_of_getElem? (i := 233) rfl)) rfl
theorem tw_5_234 : (Jvm.Cond.methodLink "CrowMilesLaw" (138 : Nat) ({ cls := "CrowMilesModel", name := "years", desc := "(II)I" } : Jvm.MethodName)) ∈ zW := tg_i (tl_5 (List.mem_of_getElem? (i := 234) rfl)) rfl
theorem tw_5_235 : (Jvm.Cond.instanceMethod ({ cls := "CrowMilesModel", name := "years", desc := "(II)I" } : Jvm.MethodName)) ∈ zW := tg_i (tl_5 (List.mem_of_getElem? (i := 235) rfl)) rfl
theorem tw_5_236 : (Jvm.Cond.selects "CrowMilesModel" ({ cls := "CrowMilesModel", name := "years", desc := "(II)I" } : Jvm.MethodName) ({ cls := "CrowMilesModel", name := "years", desc := "(II)I" } : Jvm.MethodName)) ∈ zW := tg_i (tl_5 (List.mem_of_getElem? (i := 236) rfl)) rfl
theorem tw_5_237 : (Jvm.Cond.code ({ cls := "CrowMilesModel", name := "years", desc := "(II)I" } : Jvm.MethodName) prog_10_method_86_code (7 : Nat) (Option.some Jvm.ClassFile.FieldType.int)) ∈ zW := tg_i (tl_5 (List.mem_of_getElem? (i := 237) rfl)) rfl
theorem tw_5_238 : (Jvm.Cond.constant "CrowMilesModel" (241 : Nat) (999999 : Int32)) ∈ zW := tg_i (tl_5 (List.mem_of_getElem? (i := 238) rfl)) rfl
theorem tw_5_239 : (Jvm.Cond.constantLong "CrowMilesModel" (242 : Nat) (1103515245 : Int64)) ∈ zW := tg_i (tl_5 (List.mem_of_getElem? (i := 239) rfl)) rfl
theorem tw_6_0 : (Jvm.Cond.constantLong "CrowMilesModel" (244 : Nat) (12345 : Int64)) ∈ zW := tg_i (tl_6 (List.mem_of_getElem? (i := 0) rfl)) rfl
theorem tw_6_1 : (Jvm.Cond.constantLong "CrowMilesModel" (246 : Nat) (2147483648 : Int64)) ∈ zW := tg_i (tl_6 (List.mem_of_getElem? (i := 1) rfl)) rfl
theorem tw_6_2 : (Jvm.Cond.methodLink "CrowMilesModel" (248 : Nat) ({ cls := "CrowMilesModel", name := "yearIn", desc := "(I)I" } : Jvm.MethodName)) ∈ zW := tg_i (tl_6 (List.mem_of_getElem? (i := 2) rfl)) rfl
theorem tw_6_4 : (Jvm.Cond.instanceMethod ({ cls := "CrowMilesModel", name := "yearIn", desc := "(I)I" } : Jvm.MethodName)) ∈ zW := tg_i (tl_6 (List.mem_of_getElem? (i := 4) rfl)) rfl
theorem tw_6_5 : (Jvm.Cond.code ({ cls := "CrowMilesModel", name := "yearIn", desc := "(I)I" } : Jvm.MethodName) prog_10_method_85_code (5 : Nat) (Option.some Jvm.ClassFile.FieldType.int)) ∈ zW := tg_i (tl_6 (List.mem_of_getElem? (i := 5) rfl)) rfl
theorem tw_6_6 : (Jvm.Cond.constant "CrowMilesModel" (239 : Nat) (65536 : Int32)) ∈ zW := tg_i (tl_6 (List.mem_of_getElem? (i := 6) rfl)) rfl
theorem tw_6_7 : (Jvm.Cond.constant "CrowMilesModel" (240 : Nat) (1048576 : Int32)) ∈ zW := tg_i (tl_6 (List.mem_of_getElem? (i := 7) rfl)) rfl
theorem tw_6_8 : (Jvm.Cond.methodLink "CrowMilesLaw" (143 : Nat) ({ cls := "CrowMilesModel", name := "part", desc := "(I)J" } : Jvm.MethodName)) ∈ zW := tg_i (tl_6 (List.mem_of_getElem? (i := 8) rfl)) rfl
theorem tw_6_9 : (Jvm.Cond.instanceMethod ({ cls := "CrowMilesModel", name := "part", desc := "(I)J" } : Jvm.MethodName)) ∈ zW := tg_i (tl_6 (List.mem_of_getElem? (i := 9) rfl)) rfl
theorem tw_6_10 : (Jvm.Cond.selects "CrowMilesModel" ({ cls := "CrowMilesModel", name := "part", desc := "(I)J" } : Jvm.MethodName) ({ cls := "CrowMilesModel", name := "part", desc := "(I)J" } : Jvm.MethodName)) ∈ zW := tg_i (tl_6 (List.mem_of_getElem? (i := 10) rfl)) rfl
theorem tw_6_11 : (Jvm.Cond.code ({ cls := "CrowMilesModel", name := "part", desc := "(I)J" } : Jvm.MethodName) prog_10_method_87_code (2 : Nat) (Option.some Jvm.ClassFile.FieldType.long)) ∈ zW := tg_i (tl_6 (List.mem_of_getElem? (i := 11) rfl)) rfl
theorem tw_6_12 : (Jvm.Cond.methodLink "CrowMilesLaw" (147 : Nat) ({ cls := "CrowMilesModel", name := "image", desc := "(I)I" } : Jvm.MethodName)) ∈ zW := tg_i (tl_6 (List.mem_of_getElem? (i := 12) rfl)) rfl
theorem tw_6_13 : (Jvm.Cond.instanceMethod ({ cls := "CrowMilesModel", name := "image", desc := "(I)I" } : Jvm.MethodName)) ∈ zW := tg_i (tl_6 (List.mem_of_getElem? (i := 13) rfl)) rfl
theorem tw_6_14 : (Jvm.Cond.selects "CrowMilesModel" ({ cls := "CrowMilesModel", name := "image", desc := "(I)I" } : Jvm.MethodName) ({ cls := "CrowMilesModel", name := "image", desc := "(I)I" } : Jvm.MethodName)) ∈ zW := tg_i (tl_6 (List.mem_of_getElem? (i := 14) rfl)) rfl
theorem tw_6_15 : (Jvm.Cond.code ({ cls := "CrowMilesModel", name := "image", desc := "(I)I" } : Jvm.MethodName) prog_10_method_88_code (2 : Nat) (Option.some Jvm.ClassFile.FieldType.int)) ∈ zW := tg_i (tl_6 (List.mem_of_getElem? (i := 15) rfl)) rfl
theorem tw_6_16 : (Jvm.Cond.methodLink "CrowMilesLaw" (151 : Nat) ({ cls := "CrowMilesModel", name := "from", desc := "(I)I" } : Jvm.MethodName)) ∈ zW := tg_i (tl_6 (List.mem_of_getElem? (i := 16) rfl)) rfl
theorem tw_6_17 : (Jvm.Cond.instanceMethod ({ cls := "CrowMilesModel", name := "from", desc := "(I)I" } : Jvm.MethodName)) ∈ zW := tg_i (tl_6 (List.mem_of_getElem? (i := 17) rfl)) rfl
theorem tw_6_18 : (Jvm.Cond.selects "CrowMilesModel" ({ cls := "CrowMilesModel", name := "from", desc := "(I)I" } : Jvm.MethodName) ({ cls := "CrowMilesModel", name := "from", desc := "(I)I" } : Jvm.MethodName)) ∈ zW := tg_i (tl_6 (List.mem_of_getElem? (i := 18) rfl)) rfl
theorem tw_6_19 : (Jvm.Cond.code ({ cls := "CrowMilesModel", name := "from", desc := "(I)I" } : Jvm.MethodName) prog_10_method_89_code (2 : Nat) (Option.some Jvm.ClassFile.FieldType.int)) ∈ zW := tg_i (tl_6 (List.mem_of_getElem? (i := 19) rfl)) rfl
theorem tw_6_20 : (Jvm.Cond.methodLink "CrowMilesLaw" (155 : Nat) ({ cls := "CrowMilesModel", name := "status", desc := "(I)I" } : Jvm.MethodName)) ∈ zW := tg_i (tl_6 (List.mem_of_getElem? (i := 20) rfl)) rfl
theorem tw_6_21 : (Jvm.Cond.instanceMethod ({ cls := "CrowMilesModel", name := "status", desc := "(I)I" } : Jvm.MethodName)) ∈ zW := tg_i (tl_6 (List.mem_of_getElem? (i := 21) rfl)) rfl
theorem tw_6_22 : (Jvm.Cond.selects "CrowMilesModel" ({ cls := "CrowMilesModel", name := "status", desc := "(I)I" } : Jvm.MethodName) ({ cls := "CrowMilesModel", name := "status", desc := "(I)I" } : Jvm.MethodName)) ∈ zW := tg_i (tl_6 (List.mem_of_getElem? (i := 22) rfl)) rfl
theorem tw_6_23 : (Jvm.Cond.code ({ cls := "CrowMilesModel", name := "status", desc := "(I)I" } : Jvm.MethodName) prog_10_method_90_code (2 : Nat) (Option.some Jvm.ClassFile.FieldType.int)) ∈ zW := tg_i (tl_6 (List.mem_of_getElem? (i := 23) rfl)) rfl
theorem tw_6_24 : (Jvm.Cond.methodLink "CrowMilesLaw" (159 : Nat) ({ cls := "CrowMilesModel", name := "count", desc := "(I)I" } : Jvm.MethodName)) ∈ zW := tg_i (tl_6 (List.mem_of_getElem? (i := 24) rfl)) rfl
theorem tw_6_25 : (Jvm.Cond.instanceMethod ({ cls := "CrowMilesModel", name := "count", desc := "(I)I" } : Jvm.MethodName)) ∈ zW := tg_i (tl_6 (List.mem_of_getElem? (i := 25) rfl)) rfl
theorem tw_6_26 : (Jvm.Cond.selects "CrowMilesModel" ({ cls := "CrowMilesModel", name := "count", desc := "(I)I" } : Jvm.MethodName) ({ cls := "CrowMilesModel", name := "count", desc := "(I)I" } : Jvm.MethodName)) ∈ zW := tg_i (tl_6 (List.mem_of_getElem? (i := 26) rfl)) rfl
theorem tw_6_27 : (Jvm.Cond.code ({ cls := "CrowMilesModel", name := "count", desc := "(I)I" } : Jvm.MethodName) prog_10_method_93_code (2 : Nat) (Option.some Jvm.ClassFile.FieldType.int)) ∈ zW := tg_i (tl_6 (List.mem_of_getElem? (i := 27) rfl)) rfl
theorem tw_6_28 : (Jvm.Cond.methodLink "CrowMilesModel" (257 : Nat) ({ cls := "CrowMilesModel", name := "counted", desc := "(I)I" } : Jvm.MethodName)) ∈ zW := tg_i (tl_6 (List.mem_of_getElem? (i := 28) rfl)) rfl
theorem tw_6_30 : (Jvm.Cond.instanceMethod ({ cls := "CrowMilesModel", name := "counted", desc := "(I)I" } : Jvm.MethodName)) ∈ zW := tg_i (tl_6 (List.mem_of_getElem? (i := 30) rfl)) rfl
theorem tw_6_31 : (Jvm.Cond.code ({ cls := "CrowMilesModel", name := "counted", desc := "(I)I" } : Jvm.MethodName) prog_10_method_92_code (2 : Nat) (Option.some Jvm.ClassFile.FieldType.int)) ∈ zW := tg_i (tl_6 (List.mem_of_getElem? (i := 31) rfl)) rfl
theorem tw_6_32 : (Jvm.Cond.methodLink "CrowMilesModel" (254 : Nat) ({ cls := "CrowMilesModel", name := "lengths", desc := "()I" } : Jvm.MethodName)) ∈ zW := tg_i (tl_6 (List.mem_of_getElem? (i := 32) rfl)) rfl
theorem tw_6_34 : (Jvm.Cond.instanceMethod ({ cls := "CrowMilesModel", name := "lengths", desc := "()I" } : Jvm.MethodName)) ∈ zW := tg_i (tl_6 (List.mem_of_getElem? (i := 34) rfl)) rfl
theorem tw_6_35 : (Jvm.Cond.code ({ cls := "CrowMilesModel", name := "lengths", desc := "()I" } : Jvm.MethodName) prog_10_method_91_code (3 : Nat) (Option.some Jvm.ClassFile.FieldType.int)) ∈ zW := tg_i (tl_6 (List.mem_of_getElem? (i := 35) rfl)) rfl
theorem tw_6_36 : (Jvm.Cond.methodLink "CrowMilesLaw" (164 : Nat) ({ cls := "CrowMilesModel", name := "digest", desc := "()J" } : Jvm.MethodName)) ∈ zW := tg_i (tl_6 (List.mem_of_getElem? (i := 36) rfl)) rfl
theorem tw_6_37 : (Jvm.Cond.instanceMethod ({ cls := "CrowMilesModel", name := "digest", desc := "()J" } : Jvm.MethodName)) ∈ zW := tg_i (tl_6 (List.mem_of_getElem? (i := 37) rfl)) rfl
theorem tw_6_38 : (Jvm.Cond.selects "CrowMilesModel" ({ cls := "CrowMilesModel", name := "digest", desc := "()J" } : Jvm.MethodName) ({ cls := "CrowMilesModel", name := "digest", desc := "()J" } : Jvm.MethodName)) ∈ zW := tg_i (tl_6 (List.mem_of_getElem? (i := 38) rfl)) rfl
theorem tw_6_39 : (Jvm.Cond.code ({ cls := "CrowMilesModel", name := "digest", desc := "()J" } : Jvm.MethodName) prog_10_method_95_code (4 : Nat) (Option.some Jvm.ClassFile.FieldType.long)) ∈ zW := tg_i (tl_6 (List.mem_of_getElem? (i := 39) rfl)) rfl
theorem tw_6_40 : (Jvm.Cond.constantLong "CrowMilesModel" (262 : Nat) (1753 : Int64)) ∈ zW := tg_i (tl_6 (List.mem_of_getElem? (i := 40) rfl)) rfl
theorem tw_6_41 : (Jvm.Cond.constantLong "CrowMilesModel" (260 : Nat) (31 : Int64)) ∈ zW := tg_i (tl_6 (List.mem_of_getElem? (i := 41) rfl)) rfl
theorem tw_6_42 : (Jvm.Cond.methodLink "CrowMilesModel" (264 : Nat) ({ cls := "CrowMilesModel", name := "more", desc := "(JII)J" } : Jvm.MethodName)) ∈ zW := tg_i (tl_6 (List.mem_of_getElem? (i := 42) rfl)) rfl
theorem tw_6_44 : (Jvm.Cond.instanceMethod ({ cls := "CrowMilesModel", name := "more", desc := "(JII)J" } : Jvm.MethodName)) ∈ zW := tg_i (tl_6 (List.mem_of_getElem? (i := 44) rfl)) rfl
theorem tw_6_45 : (Jvm.Cond.code ({ cls := "CrowMilesModel", name := "more", desc := "(JII)J" } : Jvm.MethodName) prog_10_method_94_code (8 : Nat) (Option.some Jvm.ClassFile.FieldType.long)) ∈ zW := tg_i (tl_6 (List.mem_of_getElem? (i := 45) rfl)) rfl
theorem tw_6_46 : (Jvm.Cond.fieldLink "java/lang/String" (9 : Nat) "java/lang/String" "value" "[B") ∈ zW := tg_i (tl_6 (List.mem_of_getElem? (i := 46) rfl)) rfl
theorem tw_6_47 : (Jvm.Cond.fieldLink "java/lang/String" (15 : Nat) "java/lang/String" "coder" "B") ∈ zW := tg_i (tl_6 (List.mem_of_getElem? (i := 47) rfl)) rfl
theorem zin_0 : ∀ w ∈ u_ws RX0 TX0 11, w ∈ zW := by decide +kernel
theorem zin_1 : ∀ w ∈ u_ws RX1 TX1 5, w ∈ zW := by decide +kernel
theorem zin_3 : ∀ w ∈ u_ws RX3 TX3 1, w ∈ zW := by decide +kernel
theorem zin_4 : ∀ w ∈ u_ws RX4 TX4 7, w ∈ zW := by decide +kernel
theorem zin_5 : ∀ w ∈ u_ws RX5 TX5 6, w ∈ zW := by decide +kernel
theorem zin_6 : ∀ w ∈ u_ws RX6 TX6 3, w ∈ zW := by decide +kernel
theorem zin_7 : ∀ w ∈ u_ws RX7 TX7 14, w ∈ zW := by decide +kernel
theorem zin_8 : ∀ w ∈ u_ws RX8 TX8 17, w ∈ zW := by decide +kernel
theorem z_gX {X : Cond} {w : Cond} (h : w ∈ zW) : w ∈ (X :: zW) ∧ ((w.onTables && w.keeps) = true ∨ ∃ ty, w = .arrayClass ty) := ⟨List.mem_cons_of_mem _ h, good_of_word (tg_g h)⟩
theorem z_gV {X : Cond} {own : String} {idx : Nat} {C : String} {y : MethodName} {c : ByteArray} {n : Nat} {r : Option FieldType} (h1 : Cond.methodLink own idx y ∈ zW) (h2 : Cond.instanceMethod y ∈ zW) (h3 : Cond.selects C y y ∈ zW) (h4 : Cond.initialized C ∈ zW) (h5 : Cond.code y c n r ∈ zW) : GoodIn (X :: zW) (wsV own idx C y (.code y c n r :: zW)) := by
  intro w hw
  simp only [wsV, List.cons_append, List.nil_append, List.mem_cons] at hw
  rcases hw with rfl | rfl | rfl | rfl | rfl | hw
  · exact z_gX h1
  · exact z_gX h2
  · exact z_gX h3
  · exact z_gX h4
  · exact z_gX h5
  · exact z_gX hw
theorem z_gS {X : Cond} {own : String} {idx : Nat} {y : MethodName} {c : ByteArray} {n : Nat} {r : Option FieldType} (h1 : Cond.methodLink own idx y ∈ zW) (h2 : Cond.static y ∈ zW) (h4 : Cond.initialized y.cls ∈ zW) (h5 : Cond.code y c n r ∈ zW) : GoodIn (X :: zW) (va_wsS own idx y (.code y c n r :: zW)) := by
  intro w hw
  simp only [va_wsS, List.cons_append, List.nil_append, List.mem_cons] at hw
  rcases hw with rfl | rfl | rfl | rfl | hw
  · exact z_gX h1
  · exact z_gX h2
  · exact z_gX h4
  · exact z_gX h5
  · exact z_gX hw
end
section
/-! The words of the pure programs: a guard, a name, a bind, a loop. -/
def z_gd {α : Type} (b : Bool) (k : Option α) : Option α := if b = true then k else none
theorem z_gd_e {α : Type} {b : Bool} {k : Option α} {r : α} (h : z_gd b k = some r) : b = true ∧ k = some r := by
  unfold z_gd at h
  by_cases hb : b = true
  · rw [if_pos hb] at h; exact ⟨hb, h⟩
  · rw [if_neg hb] at h; cases h
theorem z_gd_t {α : Type} {b : Bool} {k : Option α} (h : b = true) : z_gd b k = k := by
  unfold z_gd; rw [if_pos h]
def z_lt {α β : Type} (e : α) (k : α → Option β) : Option β := k e
theorem z_lt_e {α β : Type} {e : α} {k : α → Option β} {r : β} (h : z_lt e k = some r) : ∃ x, x = e ∧ k x = some r := ⟨e, rfl, h⟩
def z_bd {α β : Type} (x : Option α) (k : α → Option β) : Option β := match x with
  | none => none
  | some v => k v
theorem z_bd_e {α β : Type} {x : Option α} {k : α → Option β} {r : β} (h : z_bd x k = some r) : ∃ v, x = some v ∧ k v = some r := by
  cases x with
  | none => cases h
  | some v => exact ⟨v, rfl, h⟩
theorem z_bd_s {α β : Type} {x : Option α} {k : α → Option β} {v : α} (h : x = some v) : z_bd x k = k v := by
  subst h; rfl
theorem z_t {α : Type} {c : Prop} [Decidable c] {a b : Option α} {r : α} (hc : c) (h : (if c then a else b) = some r) : a = some r := by
  rwa [if_pos hc] at h
theorem z_f {α : Type} {c : Prop} [Decidable c] {a b : Option α} {r : α} (hc : ¬ c) (h : (if c then a else b) = some r) : b = some r := by
  rwa [if_neg hc] at h
/-- in range, as a test -/
def z_in (i : Int32) (n : Nat) : Bool := !(decide (i < 0) || decide (n ≤ i.toNatClampNeg))
theorem z_in_e {i : Int32} {n : Nat} (h : z_in i n = true) : vp_in i n := by
  intro q
  unfold z_in at h
  rcases q with q | q
  · rw [decide_eq_true q] at h; cases h
  · rw [decide_eq_true q, Bool.or_true] at h; cases h
theorem z_in_i {i : Int32} {n : Nat} (h : vp_in i n) : z_in i n = true := by
  unfold z_in
  rw [decide_eq_false (fun q => h (Or.inl q)), decide_eq_false (fun q => h (Or.inr q))]
  rfl
theorem z_in_n {k n : Nat} (h : k < n) (hn : n < 2 ^ 31) : z_in (nI k) n = true := z_in_i (vp_in_nI h hn)
/-- not 0, as a test -/
def z_nz (x : Int32) : Bool := !decide (x = 0)
theorem z_nz_e {x : Int32} (h : z_nz x = true) : ¬ x = 0 := by
  intro q
  unfold z_nz at h
  rw [decide_eq_true q] at h; cases h
theorem z_nz_i {x : Int32} (h : ¬ x = 0) : z_nz x = true := by
  unfold z_nz; rw [decide_eq_false h]; rfl
def z_nzl (x : Int64) : Bool := !decide (x = 0)
theorem z_nzl_e {x : Int64} (h : z_nzl x = true) : ¬ x = 0 := by
  intro q
  unfold z_nzl at h
  rw [decide_eq_true q] at h; cases h
theorem z_nzl_i {x : Int64} (h : ¬ x = 0) : z_nzl x = true := by
  unfold z_nzl; rw [decide_eq_false h]; rfl
/-- a truth value, as a test -/
def z_bz (x : Int32) : Bool := decide (x = 0) || decide (x = 1)
theorem z_bz_e {x : Int32} (h : z_bz x = true) : narrow .boolean (.int x) = .int x := by
  unfold z_bz at h
  rcases Bool.or_eq_true _ _ |>.mp h with q | q
  · rw [of_decide_eq_true q]; rfl
  · rw [of_decide_eq_true q]; rfl
theorem z_bz_f {x : Int32} (h : z_bz x = true) : fits .boolean (.int x) = true := by
  unfold z_bz at h
  rcases Bool.or_eq_true _ _ |>.mp h with q | q
  · rw [of_decide_eq_true q]; rfl
  · rw [of_decide_eq_true q]; rfl
/-- a loop: the body goes on with a state, or ends -/
def z_lpN {S E : Type} (body : S → Option (S ⊕ E)) : Nat → S → Option E
  | 0, _ => none
  | n + 1, s => z_bd (body s) (fun x => Sum.elim (fun s' => z_lpN body n s') some x)
theorem z_lpN_up {S E : Type} {body : S → Option (S ⊕ E)} : ∀ (n : Nat) (s : S) (e : E), z_lpN body n s = some e → z_lpN body (n + 1) s = some e := by
  intro n
  induction n with
  | zero => intro s e h; cases h
  | succ n ih =>
    intro s e h
    obtain ⟨x, hx, hk⟩ := z_bd_e (show z_bd (body s) (fun x => Sum.elim (fun s' => z_lpN body n s') some x) = some e from h)
    show z_bd (body s) (fun x => Sum.elim (fun s' => z_lpN body (n + 1) s') some x) = some e
    rw [z_bd_s hx]
    cases x with
    | inl s' => exact ih s' e hk
    | inr e' => exact hk
theorem z_lpN_mono {S E : Type} {body : S → Option (S ⊕ E)} {n k : Nat} {s : S} {e : E} (h : z_lpN body n s = some e) : z_lpN body (n + k) s = some e := by
  induction k with
  | zero => exact h
  | succ k ih => exact z_lpN_up _ _ _ ih
noncomputable def z_lp {S E : Type} (body : S → Option (S ⊕ E)) (s : S) : Option E :=
  @dite (Option E) (∃ e : E, ∃ n : Nat, z_lpN body n s = some e) (Classical.propDecidable _) (fun h => some h.choose) (fun _ => none)
theorem z_lp_e {S E : Type} {body : S → Option (S ⊕ E)} {s : S} {e : E} (h : z_lp body s = some e) : ∃ n : Nat, z_lpN body n s = some e := by
  unfold z_lp at h
  by_cases q : ∃ e : E, ∃ n : Nat, z_lpN body n s = some e
  · rw [dif_pos q] at h
    obtain ⟨n, hn⟩ := q.choose_spec
    rw [← Option.some.inj h]
    exact ⟨n, hn⟩
  · rw [dif_neg q] at h; cases h
theorem z_lp_i {S E : Type} {body : S → Option (S ⊕ E)} {s : S} {e : E} {n : Nat} (h : z_lpN body n s = some e) : z_lp body s = some e := by
  have q : ∃ e : E, ∃ n : Nat, z_lpN body n s = some e := ⟨e, n, h⟩
  unfold z_lp
  rw [dif_pos q]
  obtain ⟨k, hk⟩ := q.choose_spec
  have h1 := z_lpN_mono (k := k) h
  have h2 := z_lpN_mono (k := n) hk
  rw [Nat.add_comm] at h2
  rw [h1] at h2
  exact h2.symm
/-- from a loop's end back to its start -/
theorem z_lp_ind {S E : Type} {body : S → Option (S ⊕ E)} {P : S → Prop} {e : E} (hs : ∀ (s : S) (x : S ⊕ E), body s = some x → (∀ s', x = .inl s' → P s') → (∀ e', x = .inr e' → e' = e) → P s) : ∀ s, z_lp body s = some e → P s := by
  have aux : ∀ (n : Nat) (s : S), z_lpN body n s = some e → P s := by
    intro n
    induction n with
    | zero => intro s h; cases h
    | succ n ih =>
      intro s h
      obtain ⟨x, hx, hk⟩ := z_bd_e (show z_bd (body s) (fun x => Sum.elim (fun s' => z_lpN body n s') some x) = some e from h)
      refine hs s x hx (fun s' q => ?_) (fun e' q => ?_)
      · subst q; exact ih s' hk
      · subst q; exact Option.some.inj hk
  intro s h
  obtain ⟨n, hn⟩ := z_lp_e h
  exact aux n s hn
theorem z_lp_go {S E : Type} {body : S → Option (S ⊕ E)} {s s' : S} (h : body s = some (.inl s')) : z_lp body s = z_lp body s' := by
  cases q : z_lp body s' with
  | some e =>
    obtain ⟨n, hn⟩ := z_lp_e q
    exact z_lp_i (n := n + 1) (by show z_bd (body s) _ = some e; rw [z_bd_s h]; exact hn)
  | none =>
    cases q2 : z_lp body s with
    | none => rfl
    | some e =>
      obtain ⟨n, hn⟩ := z_lp_e q2
      cases n with
      | zero => cases hn
      | succ n =>
        have h2 : z_bd (body s) (fun x => Sum.elim (fun s' => z_lpN body n s') some x) = some e := hn
        rw [z_bd_s h] at h2
        rw [z_lp_i (show z_lpN body n s' = some e from h2)] at q
        cases q
theorem z_lp_end {S E : Type} {body : S → Option (S ⊕ E)} {s : S} {e : E} (h : body s = some (.inr e)) : z_lp body s = some e :=
  z_lp_i (n := 1) (by show z_bd (body s) _ = some e; rw [z_bd_s h]; rfl)
end
section
/-! The kit's rows in bundles: what is known of a method (z_K), of the heap (z_H); contracts of one form (z_MI, z_ML, z_MV). -/
abbrev zT (y : Nat → ClassId) : List (ClassId × FieldType) := [(y 0, .int), (y 1, .byte), (y 2, .boolean), (y 3, .object "CrowMiles$Country"), (y 4, .object "CrowMiles$Doings")]
def z_H (D : va_G) (A : Nat → Prop) (H0 : Heap) (ws : va_W) (H : Heap) (locs : List Loc) : Prop := va_P D vwCl ws H ∧ va_D A ws ∧ va_S A H0 H locs
def z_K (p : Program) (m : MethodId) (c : Code) (meth : Method) (cc : ByteArray) (nL : Nat) (s : State) (args : Array Value) (X : Cond) (own : String) (D : va_G) (y : Nat → ClassId) (A : Nat → Prop) (R : Room) (F Lc : Nat) : Prop :=
  CallFix p m c cc nL s args (X :: zW) own ∧ va_K D vwCl (zT y) s ∧ (∀ q, s.heap.size ≤ q → A q) ∧ meth.locks = false ∧ F ≤ R.frames ∧ Lc ≤ R.locals
def z_pre (D : va_G) (y : Nat → ClassId) (sz : Nat) (ws : va_W) (U : State) : Prop := U.heap.size = sz ∧ va_P D vwCl ws U.heap ∧ va_K D vwCl (zT y) U ∧ va_D (fun _ => True) ws
def z_post (D : va_G) (y : Nat → ClassId) (A : Nat → Prop) (ws : va_W) (t : State) : Prop := va_P D vwCl ws t.heap ∧ va_K D vwCl (zT y) t ∧ va_D A ws
abbrev z_Qi (D : va_G) (y : Nat → ClassId) (A : Nat → Prop) (r : Int32) (ws : va_W) : Array Value → State → Outcome → State → Prop := va_Qi (fun (r' : Int32) (_ : Unit) => r' = r) (fun _ t => z_post D y A ws t) A
abbrev z_Ql (D : va_G) (y : Nat → ClassId) (A : Nat → Prop) (r : Int64) (ws : va_W) : Array Value → State → Outcome → State → Prop := va_Ql (fun (r' : Int64) (_ : Unit) => r' = r) (fun _ t => z_post D y A ws t) A
abbrev z_Qv (D : va_G) (y : Nat → ClassId) (A : Nat → Prop) (ws : va_W) : Array Value → State → Outcome → State → Prop := va_Qv (fun (_ : Unit) => True) (fun _ t => z_post D y A ws t) A
abbrev zR (f lc : Nat) : Room := { frames := f, cells := 0, slots := 0, locals := lc }
def z_MI (l : Launch) (yn : MethodName) (cc : ByteArray) (nL : Nat) (rt : Option FieldType) (f lc : Nat) (D : va_G) (y : Nat → ClassId) (av : List Value) (ws : va_W) (r : Int32) (ws' : va_W) : Prop :=
  ∀ sz, Met l yn (.code yn cc nL rt :: zW) (zR f lc) (va_Pc av (z_pre D y sz ws)) (z_Qi D y (va_A ws sz) r ws') 0 0 (va_A ws sz)
def z_ML (l : Launch) (yn : MethodName) (cc : ByteArray) (nL : Nat) (rt : Option FieldType) (f lc : Nat) (D : va_G) (y : Nat → ClassId) (av : List Value) (ws : va_W) (r : Int64) (ws' : va_W) : Prop :=
  ∀ sz, Met l yn (.code yn cc nL rt :: zW) (zR f lc) (va_Pc av (z_pre D y sz ws)) (z_Ql D y (va_A ws sz) r ws') 0 0 (va_A ws sz)
def z_MV (l : Launch) (yn : MethodName) (cc : ByteArray) (nL : Nat) (rt : Option FieldType) (f lc : Nat) (D : va_G) (y : Nat → ClassId) (av : List Value) (ws : va_W) (ws' : va_W) : Prop :=
  ∀ sz, Met l yn (.code yn cc nL rt :: zW) (zR f lc) (va_Pc av (z_pre D y sz ws)) (z_Qv D y (va_A ws sz) ws') 0 0 (va_A ws sz)
theorem z_pre_blind {D : va_G} {y : Nat → ClassId} {sz : Nat} {ws : va_W} {av : List Value} : FrameBlind (va_Pc av (z_pre D y sz ws)) :=
  fun a U g mk q => by obtain ⟨q0, q1, qP, qK, qD⟩ := q; exact ⟨q0, q1, qP, va_K.moved (u := U) (U := U.calling g mk a) (Vm.Alike.refl U.vm) qK, qD⟩
theorem z_H.sub {D : va_G} {A : Nat → Prop} {H0 H : Heap} {ws ws' : va_W} {locs : List Loc} (h : z_H D A H0 ws H locs) (is : List Nat) (hn : va_nd is = true) (hs : is.map (fun i => ws[i]?) = ws'.map some) : z_H D A H0 ws' H locs := by
  refine ⟨h.1.sub is ?_, h.2.1.sub is hn hs, h.2.2⟩
  have : ∀ (is : List Nat) (w : va_W), is.map (fun i => ws[i]?) = w.map some → is.filterMap (fun i => ws[i]?) = w := by
    intro is
    induction is with
    | nil =>
      intro w hw
      cases w with
      | nil => rfl
      | cons a w => cases hw
    | cons i is ih =>
      intro w hw
      cases w with
      | nil => cases hw
      | cons a w =>
        have h1 : ws[i]? = some a := (List.cons.inj hw).1
        have h2 := ih w (List.cons.inj hw).2
        rw [List.filterMap_cons, h1, h2]
  exact this is ws' hs
section ZR
variable {p : Program} {l : Launch} {e : Env} {R : Room} {s : State} {m : MethodId} {args : Array Value} {below : List Frame} {meth : Method} {c : Code} {H : Heap} {locs : List Loc} {cells slots : Nat} {Q : State → Prop}
variable {cc : ByteArray} {nL : Nat} {X : Cond} {own : String} {D : va_G} {y : Nat → ClassId} {A : Nat → Prop} {F Lc : Nat} {ws ws' : va_W} {pc : Nat} {ls : Array Slot} {rest : List Value} {a : Nat}
theorem z_K.x (K : z_K p m c meth cc nL s args X own D y A R F Lc) : p.tables.exec = Jvm.exec := K.1.1
theorem z_K.b (K : z_K p m c meth cc nL s args X own D y A R F Lc) : c.code = cc := K.1.2.1
theorem z_K.w (K : z_K p m c meth cc nL s args X own D y A R F Lc) {w : Cond} (h : w ∈ zW) : w.before args s = true := K.1.2.2.2.2 w (List.mem_cons_of_mem _ h)
theorem z_K.o (K : z_K p m c meth cc nL s args X own D y A R F Lc) : s.vm.findClass own = some m.cls := K.1.2.2.2.1
theorem z_nm {x v : Int32} (h : x = v) (k : W p l e R s m args below meth c H locs cells slots Q (F0 m pc ls (.int x :: rest))) : W p l e R s m args below meth c H locs cells slots Q (F0 m pc ls (.int v :: rest)) := by
  subst h; exact k
theorem z_nml {x v : Int64} (h : x = v) (k : W p l e R s m args below meth c H locs cells slots Q (F0 m pc ls (.long x :: rest))) : W p l e R s m args below meth c H locs cells slots Q (F0 m pc ls (.long v :: rest)) := by
  subst h; exact k
theorem z_get (K : z_K p m c meth cc nL s args X own D y A R F Lc) (hH : z_H D A s.heap ws H locs) (q0 : Nat) {ci : Nat} {fs : List Value} (he : ws[q0]? = some (a, .inr (ci, fs))) {C : String} {T : u_T} {N : Nat} (hin : ∀ w ∈ u_ws C T N, w ∈ zW) (hc : vwCl[ci]? = some (C, T, N)) (k : Nat) (hk : k < N) {index : Nat} (hlink : Cond.fieldLink own index (T k).1 (T k).2.1 (T k).2.2.1 ∈ zW) {v : Value} (hv : fs[k]? = some v) (hdg : decode cc pc = .ok (.getfield index, 3))
    (kk : W p l e R s m args below meth c H locs cells slots Q (F0 m (pc + 3) ls (v :: rest))) : W p l e R s m args below meth c H locs cells slots Q (F0 m pc ls (.ref a :: rest)) :=
  va_get K.1.1 K.1.2.1 K.1.2.2.2.2 (fun w h => List.mem_cons_of_mem _ (hin w h)) K.1.2.2.2.1 K.2.1 hH.1 q0 he hc k hk (K.w hlink) (fun _ h => h) hv hdg kk
theorem z_put (K : z_K p m c meth cc nL s args X own D y A R F Lc) (hH : z_H D A s.heap ws H locs) (q0 : Nat) {ci : Nat} {fs : List Value} (he : ws[q0]? = some (a, .inr (ci, fs))) {C : String} {T : u_T} {N : Nat} (hin : ∀ w ∈ u_ws C T N, w ∈ zW) (hc : vwCl[ci]? = some (C, T, N)) (ty0 : Nat → FieldType) (hty : ∀ k, k < N → parseFieldDescriptor (T k).2.2.1 = some (ty0 k)) (hnm : ∀ a, a < N → ∀ b, b < N → a ≠ b → (T a).2.1 ≠ (T b).2.1) (k : Nat) (hk : k < N) {index : Nat} (hlink : Cond.fieldLink own index (T k).1 (T k).2.1 (T k).2.2.1 ∈ zW) (hfin : (T k).2.2.2 = false) {v : Value} (hn : narrow (ty0 k) v = v) (hfit : fits (ty0 k) v = true) (hl : k < fs.length) (hdg : decode cc pc = .ok (.putfield index, 3)) (hw : ws.set q0 (a, .inr (ci, fs.set k v)) = ws')
    (kk : ∀ (H : Heap) (locs : List Loc), z_H D A s.heap ws' H locs → W p l e R s m args below meth c H locs cells slots Q (F0 m (pc + 3) ls rest)) : W p l e R s m args below meth c H locs cells slots Q (F0 m pc ls (v :: .ref a :: rest)) := by
  subst hw
  exact va_put K.1.1 K.1.2.1 K.1.2.2.2.2 (fun w h => List.mem_cons_of_mem _ (hin w h)) ty0 hty hnm K.1.2.2.2.1 K.2.1 hH.1 hH.2.1 hH.2.2 q0 he hc k hk (K.w hlink) (fun _ h => h) hfin (hty k hk) hn hfit hl hdg (fun H1 locs1 h1 h2 h3 => kk H1 locs1 ⟨h1, h2, h3⟩)
theorem z_iald (K : z_K p m c meth cc nL s args X own D y A R F Lc) (hH : z_H D A s.heap ws H locs) (q0 : Nat) {n : Nat} {f : Nat → Int32} {i : Int32} (ha : ws[q0]? = some (a, .inl (y 0, n, .inl f))) (hin : z_in i n = true) (hdg : decode cc pc = .ok (.iaload, 1))
    (kk : W p l e R s m args below meth c H locs cells slots Q (F0 m (pc + 1) ls (.int (f i.toNatClampNeg) :: rest))) : W p l e R s m args below meth c H locs cells slots Q (F0 m pc ls (.int i :: .ref a :: rest)) :=
  va_iald K.1.1 K.1.2.1 K.2.1 hH.1 q0 0 ha rfl (z_in_e hin) hdg kk
theorem z_bald (K : z_K p m c meth cc nL s args X own D y A R F Lc) (hH : z_H D A s.heap ws H locs) (q0 : Nat) {n : Nat} {f : Nat → Int32} {i : Int32} (ha : ws[q0]? = some (a, .inl (y 1, n, .inl f))) (hin : z_in i n = true) (hdg : decode cc pc = .ok (.baload, 1))
    (kk : W p l e R s m args below meth c H locs cells slots Q (F0 m (pc + 1) ls (.int (f i.toNatClampNeg) :: rest))) : W p l e R s m args below meth c H locs cells slots Q (F0 m pc ls (.int i :: .ref a :: rest)) :=
  va_bald K.1.1 K.1.2.1 K.2.1 hH.1 q0 1 ha rfl (z_in_e hin) hdg kk
theorem z_zald (K : z_K p m c meth cc nL s args X own D y A R F Lc) (hH : z_H D A s.heap ws H locs) (q0 : Nat) {n : Nat} {f : Nat → Int32} {i : Int32} (ha : ws[q0]? = some (a, .inl (y 2, n, .inl f))) (hin : z_in i n = true) (hdg : decode cc pc = .ok (.baload, 1))
    (kk : W p l e R s m args below meth c H locs cells slots Q (F0 m (pc + 1) ls (.int (f i.toNatClampNeg) :: rest))) : W p l e R s m args below meth c H locs cells slots Q (F0 m pc ls (.int i :: .ref a :: rest)) :=
  va_zald K.1.1 K.1.2.1 K.2.1 hH.1 q0 2 ha rfl (z_in_e hin) hdg kk
theorem z_iast (K : z_K p m c meth cc nL s args X own D y A R F Lc) (hH : z_H D A s.heap ws H locs) (q0 : Nat) {n : Nat} {f : Nat → Int32} {i x : Int32} (ha : ws[q0]? = some (a, .inl (y 0, n, .inl f))) (hin : z_in i n = true) (hdg : decode cc pc = .ok (.iastore, 1)) (hw : ws.set q0 (a, .inl (y 0, n, .inl (upd f i.toNatClampNeg x))) = ws')
    (kk : ∀ (H : Heap) (locs : List Loc), z_H D A s.heap ws' H locs → W p l e R s m args below meth c H locs cells slots Q (F0 m (pc + 1) ls rest)) : W p l e R s m args below meth c H locs cells slots Q (F0 m pc ls (.int x :: .int i :: .ref a :: rest)) := by
  subst hw
  exact va_iast K.1.1 K.1.2.1 K.2.1 hH.1 hH.2.1 hH.2.2 q0 0 ha rfl (z_in_e hin) hdg (fun H1 locs1 h1 h2 h3 => kk H1 locs1 ⟨h1, h2, h3⟩)
theorem z_bast (K : z_K p m c meth cc nL s args X own D y A R F Lc) (hH : z_H D A s.heap ws H locs) (q0 : Nat) {n : Nat} {f : Nat → Int32} {i x : Int32} (ha : ws[q0]? = some (a, .inl (y 1, n, .inl f))) (hin : z_in i n = true) (hdg : decode cc pc = .ok (.bastore, 1)) (hw : ws.set q0 (a, .inl (y 1, n, .inl (upd f i.toNatClampNeg (vp_nar .byte x)))) = ws')
    (kk : ∀ (H : Heap) (locs : List Loc), z_H D A s.heap ws' H locs → W p l e R s m args below meth c H locs cells slots Q (F0 m (pc + 1) ls rest)) : W p l e R s m args below meth c H locs cells slots Q (F0 m pc ls (.int x :: .int i :: .ref a :: rest)) := by
  subst hw
  exact va_bast K.1.1 K.1.2.1 K.2.1 hH.1 hH.2.1 hH.2.2 q0 1 ha rfl (z_in_e hin) hdg (fun H1 locs1 h1 h2 h3 => kk H1 locs1 ⟨h1, h2, h3⟩)
theorem z_zast (K : z_K p m c meth cc nL s args X own D y A R F Lc) (hH : z_H D A s.heap ws H locs) (q0 : Nat) {n : Nat} {f : Nat → Int32} {i x : Int32} (ha : ws[q0]? = some (a, .inl (y 2, n, .inl f))) (hin : z_in i n = true) (hdg : decode cc pc = .ok (.bastore, 1)) (hw : ws.set q0 (a, .inl (y 2, n, .inl (upd f i.toNatClampNeg (vp_nar .boolean x)))) = ws')
    (kk : ∀ (H : Heap) (locs : List Loc), z_H D A s.heap ws' H locs → W p l e R s m args below meth c H locs cells slots Q (F0 m (pc + 1) ls rest)) : W p l e R s m args below meth c H locs cells slots Q (F0 m pc ls (.int x :: .int i :: .ref a :: rest)) := by
  subst hw
  exact va_zast K.1.1 K.1.2.1 K.2.1 hH.1 hH.2.1 hH.2.2 q0 2 ha rfl (z_in_e hin) hdg (fun H1 locs1 h1 h2 h3 => kk H1 locs1 ⟨h1, h2, h3⟩)
theorem z_alen (K : z_K p m c meth cc nL s args X own D y A R F Lc) (hH : z_H D A s.heap ws H locs) (q0 t0 : Nat) {cA : ClassId} {x : vp_A} {ty : FieldType} (ha : ws[q0]? = some (a, .inl (cA, x))) (ht : (zT y)[t0]? = some (cA, ty)) {v : Int32} (hv : Int32.ofNat x.1 = v) (hdg : decode cc pc = .ok (.arraylength, 1))
    (kk : W p l e R s m args below meth c H locs cells slots Q (F0 m (pc + 1) ls (.int v :: rest))) : W p l e R s m args below meth c H locs cells slots Q (F0 m pc ls (.ref a :: rest)) :=
  va_alen K.1.1 K.1.2.1 K.2.1 hH.1 q0 t0 ha ht hv hdg kk

theorem z_ldc (K : z_K p m c meth cc nL s args X own D y A R F Lc) {index : Nat} {v : Int32} (h : Cond.constant own index v ∈ zW) (hdg : decode cc pc = .ok (.ldc index, 2))
    (kk : W p l e R s m args below meth c H locs cells slots Q (F0 m (pc + 2) ls (.int v :: rest))) : W p l e R s m args below meth c H locs cells slots Q (F0 m pc ls rest) := lv_ldc K.1.1 K.1.2.1 K.o (K.w h) hdg kk
theorem z_ldc2 (K : z_K p m c meth cc nL s args X own D y A R F Lc) {index : Nat} {v : Int64} (h : Cond.constantLong own index v ∈ zW) (hdg : decode cc pc = .ok (.ldc2_w index, 3))
    (kk : W p l e R s m args below meth c H locs cells slots Q (F0 m (pc + 3) ls (.long v :: rest))) : W p l e R s m args below meth c H locs cells slots Q (F0 m pc ls rest) := lv_ldc2 K.1.1 K.1.2.1 K.o (K.w h) hdg kk
theorem z_mmin (K : z_K p m c meth cc nL s args X own D y A R F Lc) (hl : ls.size = nL) {index : Nat} (h1 : Cond.methodLink own index Lib.Math.min.name ∈ zW) (h2 : Cond.static Lib.Math.min.name ∈ zW) (h3 : Cond.initialized "java/lang/Math" ∈ zW) (h4 : Cond.code Lib.Math.min.name Lib.Math.min.code 2 (some .int) ∈ zW) (hf : 1 ≤ F) (hc : (rest.map fun v => v.category).sum + 13 ≤ Lc) (hz : cells ≤ R.cells ∧ slots ≤ R.slots) {u v : Int32} (hdg : decode cc pc = .ok (.invokestatic index, 3))
    (kk : W p l e R s m args below meth c H locs cells slots Q (F0 m (pc + 3) ls (.int (if v < u then v else u) :: rest))) : W p l e R s m args below meth c H locs cells slots Q (F0 m pc ls (.int v :: .int u :: rest)) :=
  va_mmin K.1.1 K.1.2.1 (K.1.2.2.1.trans hl.symm) K.o (K.w h1) (K.w h2) (K.w h3) (K.w h4) (Nat.le_trans hf K.2.2.2.2.1) (Nat.le_trans hc K.2.2.2.2.2) hz.1 hz.2 hdg kk
theorem z_mmax (K : z_K p m c meth cc nL s args X own D y A R F Lc) (hl : ls.size = nL) {index : Nat} (h1 : Cond.methodLink own index Lib.Math.max.name ∈ zW) (h2 : Cond.static Lib.Math.max.name ∈ zW) (h3 : Cond.initialized "java/lang/Math" ∈ zW) (h4 : Cond.code Lib.Math.max.name Lib.Math.max.code 2 (some .int) ∈ zW) (hf : 1 ≤ F) (hc : (rest.map fun v => v.category).sum + 13 ≤ Lc) (hz : cells ≤ R.cells ∧ slots ≤ R.slots) {u v : Int32} (hdg : decode cc pc = .ok (.invokestatic index, 3))
    (kk : W p l e R s m args below meth c H locs cells slots Q (F0 m (pc + 3) ls (.int (if u < v then v else u) :: rest))) : W p l e R s m args below meth c H locs cells slots Q (F0 m pc ls (.int v :: .int u :: rest)) :=
  va_mmax K.1.1 K.1.2.1 (K.1.2.2.1.trans hl.symm) K.o (K.w h1) (K.w h2) (K.w h3) (K.w h4) (Nat.le_trans hf K.2.2.2.2.1) (Nat.le_trans hc K.2.2.2.2.2) hz.1 hz.2 hdg kk
theorem z_mabs (K : z_K p m c meth cc nL s args X own D y A R F Lc) (hl : ls.size = nL) {index : Nat} (h1 : Cond.methodLink own index Lib.Math.abs.name ∈ zW) (h2 : Cond.static Lib.Math.abs.name ∈ zW) (h3 : Cond.initialized "java/lang/Math" ∈ zW) (h4 : Cond.code Lib.Math.abs.name Lib.Math.abs.code 1 (some .int) ∈ zW) (hf : 1 ≤ F) (hc : (rest.map fun v => v.category).sum + 13 ≤ Lc) (hz : cells ≤ R.cells ∧ slots ≤ R.slots) {u : Int32} (hdg : decode cc pc = .ok (.invokestatic index, 3))
    (kk : W p l e R s m args below meth c H locs cells slots Q (F0 m (pc + 3) ls (.int (if 0 ≤ u then u else 0 - u) :: rest))) : W p l e R s m args below meth c H locs cells slots Q (F0 m pc ls (.int u :: rest)) :=
  va_mabs K.1.1 K.1.2.1 (K.1.2.2.1.trans hl.symm) K.o (K.w h1) (K.w h2) (K.w h3) (K.w h4) (Nat.le_trans hf K.2.2.2.2.1) (Nat.le_trans hc K.2.2.2.2.2) hz.1 hz.2 hdg kk
/-- a copy between int rows -/
theorem z_copy (K : z_K p m c meth cc nL s args X own D y A R F Lc) (hH : z_H D A s.heap ws H locs) (hl : ls.size = nL) {index : Nat} (k1 : Cond.methodLink own index arraycopyName ∈ zW) (k2 : Cond.native arraycopyName ∈ zW) (k3 : Cond.static arraycopyName ∈ zW) (k4 : Cond.initialized "java/lang/System" ∈ zW) (q0 q1 : Nat) {a0 n0 n1 : Nat} {f g : Nat → Int32} (ha0 : ws[q0]? = some (a0, .inl (y 0, n0, .inl f))) (ha1 : ws[q1]? = some (a, .inl (y 0, n1, .inl g)))
    {sp dp n : Int32} (h1 : ¬ sp < 0) (h2 : ¬ dp < 0) (h3 : ¬ n < 0) (h4 : sp.toNatClampNeg + n.toNatClampNeg ≤ n0) (h5 : dp.toNatClampNeg + n.toNatClampNeg ≤ n1) (hf : 1 ≤ F) (hc : (rest.map fun v => v.category).sum + (nativeFrameWords "java/lang/System" "arraycopy" 5 + 11) ≤ Lc) (hdg : decode cc pc = .ok (.invokestatic index, 3)) (hw : ws.set q1 (a, .inl (y 0, n1, .inl (va_cpy f g sp.toNatClampNeg dp.toNatClampNeg n.toNatClampNeg))) = ws')
    (kk : ∀ (H : Heap) (locs : List Loc), z_H D A s.heap ws' H locs → W p l e R s m args below meth c H locs cells slots Q (F0 m (pc + 3) ls rest)) : W p l e R s m args below meth c H locs cells slots Q (F0 m pc ls (.int n :: .int dp :: .ref a :: .int sp :: .ref a0 :: rest)) := by
  subst hw
  exact va_copyi K.1.1 K.1.2.1 (K.1.2.2.1.trans hl.symm) K.o (K.w k1) (K.w k2) (K.w k3) (K.w k4) K.2.1 hH.1 hH.2.1 hH.2.2 q0 q1 0 0 ha0 ha1 rfl rfl rfl h1 h2 h3 h4 h5 (fun _ _ => rfl) (Nat.le_trans hf K.2.2.2.2.1) (Nat.le_trans hc K.2.2.2.2.2) hdg (fun H1 locs1 h1 h2 h3 => kk H1 locs1 ⟨h1, h2, h3⟩)
/-- what a call leaves: the rest of the world beside what came back -/
theorem z_after {wc wr wc' : va_W} {H1 : Heap} {locs1 : List Loc} {t : State} (K : z_K p m c meth cc nL s args X own D y A R F Lc) (hH : z_H D A s.heap ws H locs) (isC isR : List Nat) (hC : isC.map (fun i => ws[i]?) = wc.map some) (hR : isR.map (fun i => ws[i]?) = wr.map some) (hn : va_nd isR = true) (hdis : ∀ i ∈ isR, i ∉ isC) (ht : t.heap = H1) (hB : z_post D y (va_A wc H.size) wc' t) (hk1 : ∀ q : Nat, q < H.size → ¬ va_A wc H.size q → H1[q]? = H[q]?) (hS : va_S A s.heap H1 locs1) : z_H D A s.heap (wr ++ wc') H1 locs1 := by
  obtain ⟨hP1, -, hD1⟩ := hB
  rw [ht] at hP1
  have hFc := va_free (wc := wc) hH.2.1 hH.2.2 K.2.2.1 isC hC
  obtain ⟨hP, hD⟩ := va_join hH.1 hH.2.1 isC isR hC hR hn hdis hk1 hFc hP1 hD1
  exact ⟨hP, hD, hS⟩
theorem z_before {wc : va_W} {av : List Value} (K : z_K p m c meth cc nL s args X own D y A R F Lc) (hH : z_H D A s.heap ws H locs) (isC : List Nat) (hn : va_nd isC = true) (hC : isC.map (fun i => ws[i]?) = wc.map some) : ∀ U : State, U.heap = H → s.WarmedH U.vm → va_Pc av (z_pre D y H.size wc) av.toArray U := by
  have h := hH.sub isC hn hC
  intro U hU hW
  exact ⟨rfl, by rw [hU], by rw [hU]; exact h.1, va_K.moved hW.alike K.2.1, h.2.1.weaken (fun _ _ _ _ => trivial)⟩
variable {yn : MethodName} {bytes : ByteArray} {maxL f' lc' n index ci N : Nat} {rt : Option FieldType} {b : Nat} {As st0 : List Value} {wc wr wc' : va_W} {C : String} {T : u_T} {fs : List Value}
/-- the words of a call of an instance method -/
theorem z_cwV (K : z_K p m c meth cc nL s args X own D y A R F Lc) (n : Nat) (h1 : Cond.methodLink own index yn ∈ zW) (h2 : Cond.instanceMethod yn ∈ zW) (h3 : Cond.selects C yn yn ∈ zW) (h4 : Cond.initialized C ∈ zW) (h5 : Cond.code yn bytes maxL rt ∈ zW) (hd : yn.cls = C ∧ yn.cls ≠ "java/lang/invoke/MethodHandle" ∧ yn.cls ≠ "java/lang/invoke/VarHandle" ∧ (parseMethodDescriptor yn.desc).map (fun d => d.parameters.length) = some n) (hR : f' + 1 ≤ F ∧ 8 + (maxL + 11) + lc' ≤ Lc) : CallW R s args own C index yn bytes maxL rt (.code yn bytes maxL rt :: zW) (zR f' lc') 0 0 n :=
  cwV n K.1.2.2.2.2 (z_gV h1 h2 h3 h4 h5) rfl rfl rfl hd ⟨Nat.le_trans hR.1 K.2.2.2.2.1, Nat.le_trans hR.2 K.2.2.2.2.2⟩
theorem z_cwS (K : z_K p m c meth cc nL s args X own D y A R F Lc) (n : Nat) (h1 : Cond.methodLink own index yn ∈ zW) (h2 : Cond.static yn ∈ zW) (h4 : Cond.initialized yn.cls ∈ zW) (h5 : Cond.code yn bytes maxL rt ∈ zW) (hd : yn.cls ≠ "java/lang/invoke/MethodHandle" ∧ yn.cls ≠ "java/lang/invoke/VarHandle" ∧ (parseMethodDescriptor yn.desc).map (fun d => d.parameters.length) = some n) (hR : f' + 1 ≤ F ∧ 8 + (maxL + 11) + lc' ≤ Lc) : CallB R s args own index yn bytes maxL rt (.code yn bytes maxL rt :: zW) (zR f' lc') 0 0 n ∧ (Cond.static yn).before args s = true :=
  va_cwS n K.1.2.2.2.2 (z_gS h1 h2 h4 h5) rfl rfl rfl hd ⟨Nat.le_trans hR.1 K.2.2.2.2.1, Nat.le_trans hR.2 K.2.2.2.2.2⟩
theorem z_Vi {r : Int32} (K : z_K p m c meth cc nL s args X own D y A R F Lc) (hH : z_H D A s.heap ws H locs) (hl : ls.size = nL) (hM : z_MI l yn bytes maxL rt f' lc' D y (.ref b :: As) wc r wc') (cw : CallW R s args own C index yn bytes maxL rt (.code yn bytes maxL rt :: zW) (zR f' lc') 0 0 n) (isC isR : List Nat) (hC : isC.map (fun i => ws[i]?) = wc.map some) (hR : isR.map (fun i => ws[i]?) = wr.map some) (hnC : va_nd isC = true) (hn : va_nd isR = true) (hdis : ∀ i ∈ isR, i ∉ isC) (hq : wc[0]? = some (b, .inr (ci, fs))) (hci : vwCl[ci]? = some (C, T, N)) (hlen : As.length = n) (hst : st0 = As.reverse ++ .ref b :: rest) (hW : (rest.map fun v => v.category).sum ≤ 8) (hz : cells ≤ R.cells ∧ slots ≤ R.slots) (hdg : decode cc pc = .ok (.invokevirtual index, 3)) (hw : wr ++ wc' = ws')
    (kk : ∀ (H : Heap) (locs : List Loc), z_H D A s.heap ws' H locs → W p l e R s m args below meth c H locs cells slots Q (F0 m (pc + 3) ls (.int r :: rest))) : W p l e R s m args below meth c H locs cells slots Q (F0 m pc ls st0) := by
  subst hw
  have hFc := va_free (wc := wc) hH.2.1 hH.2.2 K.2.2.1 isC hC
  refine va_calli (va_runV (As := As) (rest := rest) K.1 (hM H.size) cw ⟨z_pre_blind, va_recv K.2.1 (hH.sub isC hnC hC).1 hci hq, z_before K hH isC hnC hC⟩ rfl hlen hl hst (lv_room hW) hdg hz) hH.2.2 (fun q _ h => hFc q h) hFc (fun r2 u t H1 locs1 ht hvm hw hB hz1 hk1 hS => ?_)
  subst hw
  exact kk H1 locs1 (z_after K hH isC isR hC hR hn hdis ht hB hk1 hS)
theorem z_Vl {r : Int64} (K : z_K p m c meth cc nL s args X own D y A R F Lc) (hH : z_H D A s.heap ws H locs) (hl : ls.size = nL) (hM : z_ML l yn bytes maxL rt f' lc' D y (.ref b :: As) wc r wc') (cw : CallW R s args own C index yn bytes maxL rt (.code yn bytes maxL rt :: zW) (zR f' lc') 0 0 n) (isC isR : List Nat) (hC : isC.map (fun i => ws[i]?) = wc.map some) (hR : isR.map (fun i => ws[i]?) = wr.map some) (hnC : va_nd isC = true) (hn : va_nd isR = true) (hdis : ∀ i ∈ isR, i ∉ isC) (hq : wc[0]? = some (b, .inr (ci, fs))) (hci : vwCl[ci]? = some (C, T, N)) (hlen : As.length = n) (hst : st0 = As.reverse ++ .ref b :: rest) (hW : (rest.map fun v => v.category).sum ≤ 8) (hz : cells ≤ R.cells ∧ slots ≤ R.slots) (hdg : decode cc pc = .ok (.invokevirtual index, 3)) (hw : wr ++ wc' = ws')
    (kk : ∀ (H : Heap) (locs : List Loc), z_H D A s.heap ws' H locs → W p l e R s m args below meth c H locs cells slots Q (F0 m (pc + 3) ls (.long r :: rest))) : W p l e R s m args below meth c H locs cells slots Q (F0 m pc ls st0) := by
  subst hw
  have hFc := va_free (wc := wc) hH.2.1 hH.2.2 K.2.2.1 isC hC
  refine va_calll (va_runV (As := As) (rest := rest) K.1 (hM H.size) cw ⟨z_pre_blind, va_recv K.2.1 (hH.sub isC hnC hC).1 hci hq, z_before K hH isC hnC hC⟩ rfl hlen hl hst (lv_room hW) hdg hz) hH.2.2 (fun q _ h => hFc q h) hFc (fun r2 u t H1 locs1 ht hvm hw hB hz1 hk1 hS => ?_)
  subst hw
  exact kk H1 locs1 (z_after K hH isC isR hC hR hn hdis ht hB hk1 hS)
theorem z_Vv (K : z_K p m c meth cc nL s args X own D y A R F Lc) (hH : z_H D A s.heap ws H locs) (hl : ls.size = nL) (hM : z_MV l yn bytes maxL rt f' lc' D y (.ref b :: As) wc wc') (cw : CallW R s args own C index yn bytes maxL rt (.code yn bytes maxL rt :: zW) (zR f' lc') 0 0 n) (isC isR : List Nat) (hC : isC.map (fun i => ws[i]?) = wc.map some) (hR : isR.map (fun i => ws[i]?) = wr.map some) (hnC : va_nd isC = true) (hn : va_nd isR = true) (hdis : ∀ i ∈ isR, i ∉ isC) (hq : wc[0]? = some (b, .inr (ci, fs))) (hci : vwCl[ci]? = some (C, T, N)) (hlen : As.length = n) (hst : st0 = As.reverse ++ .ref b :: rest) (hW : (rest.map fun v => v.category).sum ≤ 8) (hz : cells ≤ R.cells ∧ slots ≤ R.slots) (hdg : decode cc pc = .ok (.invokevirtual index, 3)) (hw : wr ++ wc' = ws')
    (kk : ∀ (H : Heap) (locs : List Loc), z_H D A s.heap ws' H locs → W p l e R s m args below meth c H locs cells slots Q (F0 m (pc + 3) ls rest)) : W p l e R s m args below meth c H locs cells slots Q (F0 m pc ls st0) := by
  subst hw
  have hFc := va_free (wc := wc) hH.2.1 hH.2.2 K.2.2.1 isC hC
  refine va_callv (va_runV (As := As) (rest := rest) K.1 (hM H.size) cw ⟨z_pre_blind, va_recv K.2.1 (hH.sub isC hnC hC).1 hci hq, z_before K hH isC hnC hC⟩ rfl hlen hl hst (lv_room hW) hdg hz) hH.2.2 (fun q _ h => hFc q h) hFc (fun u t H1 locs1 ht hvm hw hB hz1 hk1 hS => ?_)
  exact kk H1 locs1 (z_after K hH isC isR hC hR hn hdis ht hB hk1 hS)
/-- a static method that needs nothing of the heap -/
theorem z_keep (K : z_K p m c meth cc nL s args X own D y A R F Lc) (hH : z_H D A s.heap ws H locs) {H1 : Heap} {locs1 : List Loc} (hk1 : ∀ q : Nat, q < H.size → ¬ va_A [] H.size q → H1[q]? = H[q]?) (hS : va_S A s.heap H1 locs1) : z_H D A s.heap ws H1 locs1 := by
  refine ⟨fun k q hq => ?_, hH.2.1, hS⟩
  have h := hH.1 k q hq
  refine h.kept (hk1 q.1 h.lt ?_)
  intro hA
  rcases hA with ⟨k, e, h9⟩ | h9
  · simp at h9
  · exact absurd h.lt (Nat.not_lt.mpr h9)
theorem z_Si {r : Int32} (K : z_K p m c meth cc nL s args X own D y A R F Lc) (hH : z_H D A s.heap ws H locs) (hl : ls.size = nL) (hM : z_MI l yn bytes maxL rt f' lc' D y As [] r []) (cw : CallB R s args own index yn bytes maxL rt (.code yn bytes maxL rt :: zW) (zR f' lc') 0 0 n ∧ (Cond.static yn).before args s = true) (hlen : As.length = n) (hst : st0 = As.reverse ++ rest) (hW : (rest.map fun v => v.category).sum ≤ 8) (hz : cells ≤ R.cells ∧ slots ≤ R.slots) (hdg : decode cc pc = .ok (.invokestatic index, 3))
    (kk : ∀ (H : Heap) (locs : List Loc), z_H D A s.heap ws H locs → W p l e R s m args below meth c H locs cells slots Q (F0 m (pc + 3) ls (.int r :: rest))) : W p l e R s m args below meth c H locs cells slots Q (F0 m pc ls st0) := by
  have hFc := va_free (wc := []) hH.2.1 hH.2.2 K.2.2.1 [] rfl
  refine va_calli (va_runS (As := As) (rest := rest) K.1 (hM H.size) cw ⟨z_pre_blind, z_before K hH [] rfl rfl⟩ rfl hlen hl hst (lv_room hW) hdg hz) hH.2.2 (fun q _ h => hFc q h) hFc (fun r2 u t H1 locs1 ht hvm hw hB hz1 hk1 hS => ?_)
  subst hw
  exact kk H1 locs1 (z_keep K hH hk1 hS)
theorem z_Sl {r : Int64} (K : z_K p m c meth cc nL s args X own D y A R F Lc) (hH : z_H D A s.heap ws H locs) (hl : ls.size = nL) (hM : z_ML l yn bytes maxL rt f' lc' D y As [] r []) (cw : CallB R s args own index yn bytes maxL rt (.code yn bytes maxL rt :: zW) (zR f' lc') 0 0 n ∧ (Cond.static yn).before args s = true) (hlen : As.length = n) (hst : st0 = As.reverse ++ rest) (hW : (rest.map fun v => v.category).sum ≤ 8) (hz : cells ≤ R.cells ∧ slots ≤ R.slots) (hdg : decode cc pc = .ok (.invokestatic index, 3))
    (kk : ∀ (H : Heap) (locs : List Loc), z_H D A s.heap ws H locs → W p l e R s m args below meth c H locs cells slots Q (F0 m (pc + 3) ls (.long r :: rest))) : W p l e R s m args below meth c H locs cells slots Q (F0 m pc ls st0) := by
  have hFc := va_free (wc := []) hH.2.1 hH.2.2 K.2.2.1 [] rfl
  refine va_calll (va_runS (As := As) (rest := rest) K.1 (hM H.size) cw ⟨z_pre_blind, z_before K hH [] rfl rfl⟩ rfl hlen hl hst (lv_room hW) hdg hz) hH.2.2 (fun q _ h => hFc q h) hFc (fun r2 u t H1 locs1 ht hvm hw hB hz1 hk1 hS => ?_)
  subst hw
  exact kk H1 locs1 (z_keep K hH hk1 hS)
end ZR
/-- how a method's walk begins: any machine, any room that holds, an end that is told -/
theorem z_enter {l : Launch} {yn : MethodName} {cc : ByteArray} {nL f lc : Nat} {rt : Option FieldType} {D : va_G} {y : Nat → ClassId} {av : List Value} {ws : va_W} {Qc : Nat → Array Value → State → Outcome → State → Prop} (hy : plainName yn.cls = true) (hlen : (lg_sl av).length ≤ nL)
    (body : ∀ (p : Program) (e : Env) (s : State) (m : MethodId) (args : Array Value) (below : List Frame) (meth : Method) (c : Code) (A : Nat → Prop) (ls : Array Slot), A = va_A ws s.heap.size → meth.sig.returnType = rt → z_K p m c meth cc nL s args (.code yn cc nL rt) yn.cls D y A (zR f lc) f lc → z_H D A s.heap ws s.heap [] → lv_has ls nL (lv_args 0 av) → W p l e (zR f lc) s m args below meth c s.heap [] 0 0 (MQ below (Qc s.heap.size) args s 0 0 A) (F0 m 0 ls [])) :
    ∀ sz, Met l yn (.code yn cc nL rt :: zW) (zR f lc) (va_Pc av (z_pre D y sz ws)) (Qc sz) 0 0 (va_A ws sz) := by
  intro sz
  refine Met.ofW (cc := cc) (maxL := nL) (ret := rt) hy rfl ?_
  intro p e s m args below meth c s₁ B hml hv
  obtain ⟨rfl, hsz, hP, hK, hD0⟩ := hv
  have hts := atoms_spec (ws := .code yn cc nL rt :: zW) B.pre
  have hown : s.vm.findClass yn.cls = some m.cls := findClass_of_methodNamed B.named
  subst hsz
  have hD := hD0.self (sz := s.heap.size)
  have hl := lv_entry av (n := nL) hlen
  rw [lg_entry_eq]
  exact body p e s m _ below meth c _ _ rfl B.returns ⟨⟨B.exec, B.bytes, hml, hown, hts⟩, hK, fun q h => Or.inr h, B.notSynchronized, Nat.le_refl _, Nat.le_refl _⟩ ⟨hP, hD, va_S.rf⟩ hl
section ZE
variable {p : Program} {l : Launch} {e : Env} {R : Room} {s : State} {m : MethodId} {args : Array Value} {below : List Frame} {meth : Method} {c : Code} {H : Heap} {locs : List Loc} {cells slots : Nat}
variable {cc : ByteArray} {nL : Nat} {X : Cond} {own : String} {D : va_G} {y : Nat → ClassId} {A : Nat → Prop} {F Lc : Nat} {ws ws' : va_W} {pc : Nat} {ls : Array Slot}
theorem z_reti {v r : Int32} {ty : FieldType} (K : z_K p m c meth cc nL s args X own D y A R F Lc) (hr : meth.sig.returnType = some ty) (hH : z_H D A s.heap ws H locs) (is : List Nat) (hn : va_nd is = true) (hs : is.map (fun i => ws[i]?) = ws'.map some) (hv : v = r) (hnar : narrow ty (.int v) = .int v) (hdg : decode cc pc = .ok (.ireturn, 1)) : W p l e R s m args below meth c H locs cells slots (MQ below (z_Qi D y A r ws') args s cells slots A) (F0 m pc ls [.int v]) := by
  have h9 := hH.sub is hn hs
  subst hv
  exact W.zret (v := v) K.1.1 K.1.2.1 hr hnar (fun t ht hW => ⟨⟨v, (), rfl, rfl, by rw [ht]; exact h9.1, va_K.moved hW.alike K.2.1, h9.2.1⟩, hH.2.2.F ht⟩) hH.2.2.2.2 hdg K.2.2.2.1
theorem z_retl {v r : Int64} (K : z_K p m c meth cc nL s args X own D y A R F Lc) (hr : meth.sig.returnType = some .long) (hH : z_H D A s.heap ws H locs) (is : List Nat) (hn : va_nd is = true) (hs : is.map (fun i => ws[i]?) = ws'.map some) (hv : v = r) (hdg : decode cc pc = .ok (.lreturn, 1)) : W p l e R s m args below meth c H locs cells slots (MQ below (z_Ql D y A r ws') args s cells slots A) (F0 m pc ls [.long v]) := by
  have h9 := hH.sub is hn hs
  subst hv
  exact W.lret (v := v) K.1.1 K.1.2.1 hr (fun t ht hW => ⟨⟨v, (), rfl, rfl, by rw [ht]; exact h9.1, va_K.moved hW.alike K.2.1, h9.2.1⟩, hH.2.2.F ht⟩) hH.2.2.2.2 hdg K.2.2.2.1
theorem z_retv (K : z_K p m c meth cc nL s args X own D y A R F Lc) (hr : meth.sig.returnType = none) (hH : z_H D A s.heap ws H locs) (is : List Nat) (hn : va_nd is = true) (hs : is.map (fun i => ws[i]?) = ws'.map some) (hdg : decode cc pc = .ok (.return_, 1)) : W p l e R s m args below meth c H locs cells slots (MQ below (z_Qv D y A ws') args s cells slots A) (F0 m pc ls []) := by
  have h9 := hH.sub is hn hs
  exact W.vret K.1.1 K.1.2.1 hr (fun t ht hW => ⟨⟨(), rfl, trivial, by rw [ht]; exact h9.1, va_K.moved hW.alike K.2.1, h9.2.1⟩, hH.2.2.F ht⟩) hH.2.2.2.2 hdg K.2.2.2.1
end ZE
end
