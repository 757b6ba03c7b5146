section
-- ===== PART A: goes FIRST, ahead of the names: the tables' words, and 'selects' of the private methods out of them =====
/-- a private method of a class that the tables say can be made, by its rows of tables_1 -/
def lw_okq (q : MethodName × Nat) : Prop := (q.1.cls ≠ "java/lang/invoke/MethodHandle" ∧ q.1.cls ≠ "java/lang/invoke/VarHandle") ∧ Cond.instantiable q.1.cls q.2 ∈ tables_1 ∧ Cond.privateMethod q.1 ∈ tables_1 ∧ Cond.instanceMethod q.1 ∈ tables_1
theorem lw_p0 : lw_okq (⟨"OverAndBack$Reader", "readNumbers", "([CII)I"⟩, 2) := ⟨⟨by decide +kernel, by decide +kernel⟩, List.mem_of_getElem? (i := 31) (by decide +kernel), List.mem_of_getElem? (i := 396) (by decide +kernel), List.mem_of_getElem? (i := 397) (by decide +kernel)⟩
theorem lw_p1 : lw_okq (⟨"OverAndBack$Reader", "take", "(CLOverAndBack$Evening;)Z"⟩, 2) := ⟨⟨by decide +kernel, by decide +kernel⟩, List.mem_of_getElem? (i := 31) (by decide +kernel), List.mem_of_getElem? (i := 412) (by decide +kernel), List.mem_of_getElem? (i := 413) (by decide +kernel)⟩
theorem lw_p2 : lw_okq (⟨"OverAndBack$Reader", "takeMinutes", "(LOverAndBack$Evening;)Z"⟩, 2) := ⟨⟨by decide +kernel, by decide +kernel⟩, List.mem_of_getElem? (i := 31) (by decide +kernel), List.mem_of_getElem? (i := 416) (by decide +kernel), List.mem_of_getElem? (i := 417) (by decide +kernel)⟩
theorem lw_p3 : lw_okq (⟨"OverAndBack$Reader", "within", "(III)Z"⟩, 2) := ⟨⟨by decide +kernel, by decide +kernel⟩, List.mem_of_getElem? (i := 31) (by decide +kernel), List.mem_of_getElem? (i := 420) (by decide +kernel), List.mem_of_getElem? (i := 421) (by decide +kernel)⟩
theorem lw_p4 : lw_okq (⟨"OverAndBack$Reader", "takeGoing", "(LOverAndBack$Evening;)Z"⟩, 2) := ⟨⟨by decide +kernel, by decide +kernel⟩, List.mem_of_getElem? (i := 31) (by decide +kernel), List.mem_of_getElem? (i := 424) (by decide +kernel), List.mem_of_getElem? (i := 425) (by decide +kernel)⟩
theorem lw_p5 : lw_okq (⟨"OverAndBack$Reader", "isSpan", "(LOverAndBack$Evening;)Z"⟩, 2) := ⟨⟨by decide +kernel, by decide +kernel⟩, List.mem_of_getElem? (i := 31) (by decide +kernel), List.mem_of_getElem? (i := 435) (by decide +kernel), List.mem_of_getElem? (i := 436) (by decide +kernel)⟩
theorem lw_p6 : lw_okq (⟨"OverAndBack", "takeEvening", "()V"⟩, 17) := ⟨⟨by decide +kernel, by decide +kernel⟩, List.mem_of_getElem? (i := 23) (by decide +kernel), List.mem_of_getElem? (i := 439) (by decide +kernel), List.mem_of_getElem? (i := 440) (by decide +kernel)⟩
theorem lw_p7 : lw_okq (⟨"OverAndBack$Screen", "showStations", "(LOverAndBack$Rows;)V"⟩, 3) := ⟨⟨by decide +kernel, by decide +kernel⟩, List.mem_of_getElem? (i := 148) (by decide +kernel), List.mem_of_getElem? (i := 458) (by decide +kernel), List.mem_of_getElem? (i := 459) (by decide +kernel)⟩
theorem lw_p8 : lw_okq (⟨"OverAndBack$Screen", "put", "(IIIII)V"⟩, 3) := ⟨⟨by decide +kernel, by decide +kernel⟩, List.mem_of_getElem? (i := 148) (by decide +kernel), List.mem_of_getElem? (i := 463) (by decide +kernel), List.mem_of_getElem? (i := 464) (by decide +kernel)⟩
theorem lw_p9 : lw_okq (⟨"OverAndBack$Screen", "showScenes", "(LOverAndBack$Rows;I)V"⟩, 3) := ⟨⟨by decide +kernel, by decide +kernel⟩, List.mem_of_getElem? (i := 148) (by decide +kernel), List.mem_of_getElem? (i := 470) (by decide +kernel), List.mem_of_getElem? (i := 471) (by decide +kernel)⟩
theorem lw_p10 : lw_okq (⟨"OverAndBack$Screen", "showScene", "(LOverAndBack$Rows;I)V"⟩, 3) := ⟨⟨by decide +kernel, by decide +kernel⟩, List.mem_of_getElem? (i := 148) (by decide +kernel), List.mem_of_getElem? (i := 474) (by decide +kernel), List.mem_of_getElem? (i := 475) (by decide +kernel)⟩
theorem lw_p11 : lw_okq (⟨"OverAndBack$Screen", "showBreak", "(LOverAndBack$Rows;I)V"⟩, 3) := ⟨⟨by decide +kernel, by decide +kernel⟩, List.mem_of_getElem? (i := 148) (by decide +kernel), List.mem_of_getElem? (i := 478) (by decide +kernel), List.mem_of_getElem? (i := 479) (by decide +kernel)⟩
theorem lw_p12 : lw_okq (⟨"OverAndBack$Routes", "greatestAt", "(LOverAndBack$Evening;LOverAndBack$Screen;II)I"⟩, 4) := ⟨⟨by decide +kernel, by decide +kernel⟩, List.mem_of_getElem? (i := 195) (by decide +kernel), List.mem_of_getElem? (i := 487) (by decide +kernel), List.mem_of_getElem? (i := 488) (by decide +kernel)⟩
theorem lw_p13 : lw_okq (⟨"OverAndBack$Routes", "worthByGoing", "(LOverAndBack$Screen;III)I"⟩, 4) := ⟨⟨by decide +kernel, by decide +kernel⟩, List.mem_of_getElem? (i := 195) (by decide +kernel), List.mem_of_getElem? (i := 499) (by decide +kernel), List.mem_of_getElem? (i := 500) (by decide +kernel)⟩
theorem lw_p14 : lw_okq (⟨"OverAndBack", "isStation", "(I)Z"⟩, 17) := ⟨⟨by decide +kernel, by decide +kernel⟩, List.mem_of_getElem? (i := 23) (by decide +kernel), List.mem_of_getElem? (i := 585) (by decide +kernel), List.mem_of_getElem? (i := 586) (by decide +kernel)⟩
theorem lw_p15 : lw_okq (⟨"OverAndBack", "isMinute", "(I)Z"⟩, 17) := ⟨⟨by decide +kernel, by decide +kernel⟩, List.mem_of_getElem? (i := 23) (by decide +kernel), List.mem_of_getElem? (i := 589) (by decide +kernel), List.mem_of_getElem? (i := 590) (by decide +kernel)⟩
def lw_privs_1 : List (MethodName × Nat) := [(⟨"OverAndBack$Reader", "readNumbers", "([CII)I"⟩, 2), (⟨"OverAndBack$Reader", "take", "(CLOverAndBack$Evening;)Z"⟩, 2), (⟨"OverAndBack$Reader", "takeMinutes", "(LOverAndBack$Evening;)Z"⟩, 2), (⟨"OverAndBack$Reader", "within", "(III)Z"⟩, 2), (⟨"OverAndBack$Reader", "takeGoing", "(LOverAndBack$Evening;)Z"⟩, 2), (⟨"OverAndBack$Reader", "isSpan", "(LOverAndBack$Evening;)Z"⟩, 2), (⟨"OverAndBack", "takeEvening", "()V"⟩, 17), (⟨"OverAndBack$Screen", "showStations", "(LOverAndBack$Rows;)V"⟩, 3), (⟨"OverAndBack$Screen", "put", "(IIIII)V"⟩, 3), (⟨"OverAndBack$Screen", "showScenes", "(LOverAndBack$Rows;I)V"⟩, 3), (⟨"OverAndBack$Screen", "showScene", "(LOverAndBack$Rows;I)V"⟩, 3), (⟨"OverAndBack$Screen", "showBreak", "(LOverAndBack$Rows;I)V"⟩, 3), (⟨"OverAndBack$Routes", "greatestAt", "(LOverAndBack$Evening;LOverAndBack$Screen;II)I"⟩, 4), (⟨"OverAndBack$Routes", "worthByGoing", "(LOverAndBack$Screen;III)I"⟩, 4), (⟨"OverAndBack", "isStation", "(I)Z"⟩, 17), (⟨"OverAndBack", "isMinute", "(I)Z"⟩, 17)]
theorem lw_r1 : ∀ q ∈ lw_privs_1, lw_okq q := List.forall_mem_cons.mpr ⟨lw_p0, List.forall_mem_cons.mpr ⟨lw_p1, List.forall_mem_cons.mpr ⟨lw_p2, List.forall_mem_cons.mpr ⟨lw_p3, List.forall_mem_cons.mpr ⟨lw_p4, List.forall_mem_cons.mpr ⟨lw_p5, List.forall_mem_cons.mpr ⟨lw_p6, List.forall_mem_cons.mpr ⟨lw_p7, List.forall_mem_cons.mpr ⟨lw_p8, List.forall_mem_cons.mpr ⟨lw_p9, List.forall_mem_cons.mpr ⟨lw_p10, List.forall_mem_cons.mpr ⟨lw_p11, List.forall_mem_cons.mpr ⟨lw_p12, List.forall_mem_cons.mpr ⟨lw_p13, List.forall_mem_cons.mpr ⟨lw_p14, List.forall_mem_cons.mpr ⟨lw_p15, fun _ h => absurd h List.not_mem_nil⟩⟩⟩⟩⟩⟩⟩⟩⟩⟩⟩⟩⟩⟩⟩⟩
theorem lw_p16 : lw_okq (⟨"OverAndBack", "isWatcher", "(I)Z"⟩, 17) := ⟨⟨by decide +kernel, by decide +kernel⟩, List.mem_of_getElem? (i := 23) (by decide +kernel), List.mem_of_getElem? (i := 617) (by decide +kernel), List.mem_of_getElem? (i := 618) (by decide +kernel)⟩
theorem lw_p17 : lw_okq (⟨"OverAndBack", "follow", "(ILOverAndBack$Screen;)V"⟩, 17) := ⟨⟨by decide +kernel, by decide +kernel⟩, List.mem_of_getElem? (i := 23) (by decide +kernel), List.mem_of_getElem? (i := 621) (by decide +kernel), List.mem_of_getElem? (i := 622) (by decide +kernel)⟩
theorem lw_p18 : lw_okq (⟨"OverAndBack$Walk", "start", "(I)V"⟩, 7) := ⟨⟨by decide +kernel, by decide +kernel⟩, List.mem_of_getElem? (i := 164) (by decide +kernel), List.mem_of_getElem? (i := 634) (by decide +kernel), List.mem_of_getElem? (i := 635) (by decide +kernel)⟩
theorem lw_p19 : lw_okq (⟨"OverAndBack$Walk", "goTo", "(III)V"⟩, 7) := ⟨⟨by decide +kernel, by decide +kernel⟩, List.mem_of_getElem? (i := 164) (by decide +kernel), List.mem_of_getElem? (i := 646) (by decide +kernel), List.mem_of_getElem? (i := 647) (by decide +kernel)⟩
theorem lw_p20 : lw_okq (⟨"OverAndBack$Walk", "look", "(LOverAndBack$Screen;I)V"⟩, 7) := ⟨⟨by decide +kernel, by decide +kernel⟩, List.mem_of_getElem? (i := 164) (by decide +kernel), List.mem_of_getElem? (i := 650) (by decide +kernel), List.mem_of_getElem? (i := 651) (by decide +kernel)⟩
theorem lw_p21 : lw_okq (⟨"OverAndBack$Walk", "wish", "(LOverAndBack$Screen;IIII)I"⟩, 7) := ⟨⟨by decide +kernel, by decide +kernel⟩, List.mem_of_getElem? (i := 164) (by decide +kernel), List.mem_of_getElem? (i := 672) (by decide +kernel), List.mem_of_getElem? (i := 673) (by decide +kernel)⟩
theorem lw_p22 : lw_okq (⟨"OverAndBack$Walk", "unbroken", "(LOverAndBack$Screen;II)I"⟩, 7) := ⟨⟨by decide +kernel, by decide +kernel⟩, List.mem_of_getElem? (i := 164) (by decide +kernel), List.mem_of_getElem? (i := 676) (by decide +kernel), List.mem_of_getElem? (i := 677) (by decide +kernel)⟩
theorem lw_p23 : lw_okq (⟨"OverAndBack$Walk", "worthiest", "(LOverAndBack$Screen;II)I"⟩, 7) := ⟨⟨by decide +kernel, by decide +kernel⟩, List.mem_of_getElem? (i := 164) (by decide +kernel), List.mem_of_getElem? (i := 681) (by decide +kernel), List.mem_of_getElem? (i := 682) (by decide +kernel)⟩
theorem lw_p24 : lw_okq (⟨"OverAndBack$Routes", "goalWorth", "(LOverAndBack$Evening;LOverAndBack$Screen;III)I"⟩, 4) := ⟨⟨by decide +kernel, by decide +kernel⟩, List.mem_of_getElem? (i := 195) (by decide +kernel), List.mem_of_getElem? (i := 745) (by decide +kernel), List.mem_of_getElem? (i := 746) (by decide +kernel)⟩
theorem lw_p25 : lw_okq (⟨"OverAndBack$Learning", "survey", "(I)V"⟩, 11) := ⟨⟨by decide +kernel, by decide +kernel⟩, List.mem_of_getElem? (i := 216) (by decide +kernel), List.mem_of_getElem? (i := 758) (by decide +kernel), List.mem_of_getElem? (i := 759) (by decide +kernel)⟩
theorem lw_p26 : lw_okq (⟨"OverAndBack$Learning", "reach", "(IIII)V"⟩, 11) := ⟨⟨by decide +kernel, by decide +kernel⟩, List.mem_of_getElem? (i := 216) (by decide +kernel), List.mem_of_getElem? (i := 764) (by decide +kernel), List.mem_of_getElem? (i := 765) (by decide +kernel)⟩
theorem lw_p27 : lw_okq (⟨"OverAndBack$Learning", "takeOut", "(III)V"⟩, 11) := ⟨⟨by decide +kernel, by decide +kernel⟩, List.mem_of_getElem? (i := 216) (by decide +kernel), List.mem_of_getElem? (i := 774) (by decide +kernel), List.mem_of_getElem? (i := 775) (by decide +kernel)⟩
theorem lw_p28 : lw_okq (⟨"OverAndBack$Learning", "passOn", "(IIIII)V"⟩, 11) := ⟨⟨by decide +kernel, by decide +kernel⟩, List.mem_of_getElem? (i := 216) (by decide +kernel), List.mem_of_getElem? (i := 778) (by decide +kernel), List.mem_of_getElem? (i := 779) (by decide +kernel)⟩
theorem lw_p29 : lw_okq (⟨"OverAndBack$Learning", "note", "(II)V"⟩, 11) := ⟨⟨by decide +kernel, by decide +kernel⟩, List.mem_of_getElem? (i := 216) (by decide +kernel), List.mem_of_getElem? (i := 782) (by decide +kernel), List.mem_of_getElem? (i := 783) (by decide +kernel)⟩
theorem lw_p30 : lw_okq (⟨"OverAndBack$Learning", "see", "(IIII)V"⟩, 11) := ⟨⟨by decide +kernel, by decide +kernel⟩, List.mem_of_getElem? (i := 216) (by decide +kernel), List.mem_of_getElem? (i := 786) (by decide +kernel), List.mem_of_getElem? (i := 787) (by decide +kernel)⟩
theorem lw_p31 : lw_okq (⟨"OverAndBack", "fairBound", "(I)I"⟩, 17) := ⟨⟨by decide +kernel, by decide +kernel⟩, List.mem_of_getElem? (i := 23) (by decide +kernel), List.mem_of_getElem? (i := 813) (by decide +kernel), List.mem_of_getElem? (i := 814) (by decide +kernel)⟩
def lw_privs_2 : List (MethodName × Nat) := [(⟨"OverAndBack", "isWatcher", "(I)Z"⟩, 17), (⟨"OverAndBack", "follow", "(ILOverAndBack$Screen;)V"⟩, 17), (⟨"OverAndBack$Walk", "start", "(I)V"⟩, 7), (⟨"OverAndBack$Walk", "goTo", "(III)V"⟩, 7), (⟨"OverAndBack$Walk", "look", "(LOverAndBack$Screen;I)V"⟩, 7), (⟨"OverAndBack$Walk", "wish", "(LOverAndBack$Screen;IIII)I"⟩, 7), (⟨"OverAndBack$Walk", "unbroken", "(LOverAndBack$Screen;II)I"⟩, 7), (⟨"OverAndBack$Walk", "worthiest", "(LOverAndBack$Screen;II)I"⟩, 7), (⟨"OverAndBack$Routes", "goalWorth", "(LOverAndBack$Evening;LOverAndBack$Screen;III)I"⟩, 4), (⟨"OverAndBack$Learning", "survey", "(I)V"⟩, 11), (⟨"OverAndBack$Learning", "reach", "(IIII)V"⟩, 11), (⟨"OverAndBack$Learning", "takeOut", "(III)V"⟩, 11), (⟨"OverAndBack$Learning", "passOn", "(IIIII)V"⟩, 11), (⟨"OverAndBack$Learning", "note", "(II)V"⟩, 11), (⟨"OverAndBack$Learning", "see", "(IIII)V"⟩, 11), (⟨"OverAndBack", "fairBound", "(I)I"⟩, 17)]
theorem lw_r2 : ∀ q ∈ lw_privs_2, lw_okq q := List.forall_mem_cons.mpr ⟨lw_p16, List.forall_mem_cons.mpr ⟨lw_p17, List.forall_mem_cons.mpr ⟨lw_p18, List.forall_mem_cons.mpr ⟨lw_p19, List.forall_mem_cons.mpr ⟨lw_p20, List.forall_mem_cons.mpr ⟨lw_p21, List.forall_mem_cons.mpr ⟨lw_p22, List.forall_mem_cons.mpr ⟨lw_p23, List.forall_mem_cons.mpr ⟨lw_p24, List.forall_mem_cons.mpr ⟨lw_p25, List.forall_mem_cons.mpr ⟨lw_p26, List.forall_mem_cons.mpr ⟨lw_p27, List.forall_mem_cons.mpr ⟨lw_p28, List.forall_mem_cons.mpr ⟨lw_p29, List.forall_mem_cons.mpr ⟨lw_p30, List.forall_mem_cons.mpr ⟨lw_p31, fun _ h => absurd h List.not_mem_nil⟩⟩⟩⟩⟩⟩⟩⟩⟩⟩⟩⟩⟩⟩⟩⟩
theorem lw_p32 : lw_okq (⟨"OverAndBack$Box", "weigh", "(LOverAndBack$Evening;LOverAndBack$Screen;)V"⟩, 9) := ⟨⟨by decide +kernel, by decide +kernel⟩, List.mem_of_getElem? (i := 262) (by decide +kernel), List.mem_of_getElem? (i := 828) (by decide +kernel), List.mem_of_getElem? (i := 829) (by decide +kernel)⟩
theorem lw_p33 : lw_okq (⟨"OverAndBack$Box", "tryWay", "(LOverAndBack$Evening;)V"⟩, 9) := ⟨⟨by decide +kernel, by decide +kernel⟩, List.mem_of_getElem? (i := 262) (by decide +kernel), List.mem_of_getElem? (i := 837) (by decide +kernel), List.mem_of_getElem? (i := 838) (by decide +kernel)⟩
theorem lw_p34 : lw_okq (⟨"OverAndBack$Box", "leastOf", "(LOverAndBack$Evening;)I"⟩, 9) := ⟨⟨by decide +kernel, by decide +kernel⟩, List.mem_of_getElem? (i := 262) (by decide +kernel), List.mem_of_getElem? (i := 842) (by decide +kernel), List.mem_of_getElem? (i := 843) (by decide +kernel)⟩
theorem lw_p35 : lw_okq (⟨"OverAndBack$Box", "nextWay", "(I)Z"⟩, 9) := ⟨⟨by decide +kernel, by decide +kernel⟩, List.mem_of_getElem? (i := 262) (by decide +kernel), List.mem_of_getElem? (i := 847) (by decide +kernel), List.mem_of_getElem? (i := 848) (by decide +kernel)⟩
theorem lw_p36 : lw_okq (⟨"OverAndBack", "isWatcherOrPlan", "(I)Z"⟩, 17) := ⟨⟨by decide +kernel, by decide +kernel⟩, List.mem_of_getElem? (i := 23) (by decide +kernel), List.mem_of_getElem? (i := 863) (by decide +kernel), List.mem_of_getElem? (i := 864) (by decide +kernel)⟩
theorem lw_p37 : lw_okq (⟨"OverAndBack", "keptPlan", "(I)LOverAndBack$Plan;"⟩, 17) := ⟨⟨by decide +kernel, by decide +kernel⟩, List.mem_of_getElem? (i := 23) (by decide +kernel), List.mem_of_getElem? (i := 906) (by decide +kernel), List.mem_of_getElem? (i := 907) (by decide +kernel)⟩
theorem lw_p38 : lw_okq (⟨"OverAndBackModel", "readItem", "()Z"⟩, 55) := ⟨⟨by decide +kernel, by decide +kernel⟩, List.mem_of_getElem? (i := 926) (by decide +kernel), List.mem_of_getElem? (i := 1118) (by decide +kernel), List.mem_of_getElem? (i := 1119) (by decide +kernel)⟩
theorem lw_p39 : lw_okq (⟨"OverAndBackModel", "letterAt", "(I)I"⟩, 55) := ⟨⟨by decide +kernel, by decide +kernel⟩, List.mem_of_getElem? (i := 926) (by decide +kernel), List.mem_of_getElem? (i := 1122) (by decide +kernel), List.mem_of_getElem? (i := 1123) (by decide +kernel)⟩
theorem lw_p40 : lw_okq (⟨"OverAndBackModel", "readLength", "()Z"⟩, 55) := ⟨⟨by decide +kernel, by decide +kernel⟩, List.mem_of_getElem? (i := 926) (by decide +kernel), List.mem_of_getElem? (i := 1126) (by decide +kernel), List.mem_of_getElem? (i := 1127) (by decide +kernel)⟩
theorem lw_p41 : lw_okq (⟨"OverAndBackModel", "readNumbers", "(I)Z"⟩, 55) := ⟨⟨by decide +kernel, by decide +kernel⟩, List.mem_of_getElem? (i := 926) (by decide +kernel), List.mem_of_getElem? (i := 1130) (by decide +kernel), List.mem_of_getElem? (i := 1131) (by decide +kernel)⟩
theorem lw_p42 : lw_okq (⟨"OverAndBackModel", "isTold", "(III)Z"⟩, 55) := ⟨⟨by decide +kernel, by decide +kernel⟩, List.mem_of_getElem? (i := 926) (by decide +kernel), List.mem_of_getElem? (i := 1137) (by decide +kernel), List.mem_of_getElem? (i := 1138) (by decide +kernel)⟩
theorem lw_p43 : lw_okq (⟨"OverAndBackModel", "readStation", "()Z"⟩, 55) := ⟨⟨by decide +kernel, by decide +kernel⟩, List.mem_of_getElem? (i := 926) (by decide +kernel), List.mem_of_getElem? (i := 1141) (by decide +kernel), List.mem_of_getElem? (i := 1142) (by decide +kernel)⟩
theorem lw_p44 : lw_okq (⟨"OverAndBackModel", "readSceneOf", "()Z"⟩, 55) := ⟨⟨by decide +kernel, by decide +kernel⟩, List.mem_of_getElem? (i := 926) (by decide +kernel), List.mem_of_getElem? (i := 1145) (by decide +kernel), List.mem_of_getElem? (i := 1146) (by decide +kernel)⟩
theorem lw_p45 : lw_okq (⟨"OverAndBackModel", "isSpan", "()Z"⟩, 55) := ⟨⟨by decide +kernel, by decide +kernel⟩, List.mem_of_getElem? (i := 926) (by decide +kernel), List.mem_of_getElem? (i := 1149) (by decide +kernel), List.mem_of_getElem? (i := 1150) (by decide +kernel)⟩
theorem lw_p46 : lw_okq (⟨"OverAndBackModel", "readBreak", "()Z"⟩, 55) := ⟨⟨by decide +kernel, by decide +kernel⟩, List.mem_of_getElem? (i := 926) (by decide +kernel), List.mem_of_getElem? (i := 1156) (by decide +kernel), List.mem_of_getElem? (i := 1157) (by decide +kernel)⟩
theorem lw_p47 : lw_okq (⟨"OverAndBackModel", "readChance", "()Z"⟩, 55) := ⟨⟨by decide +kernel, by decide +kernel⟩, List.mem_of_getElem? (i := 926) (by decide +kernel), List.mem_of_getElem? (i := 1160) (by decide +kernel), List.mem_of_getElem? (i := 1161) (by decide +kernel)⟩
def lw_privs_3 : List (MethodName × Nat) := [(⟨"OverAndBack$Box", "weigh", "(LOverAndBack$Evening;LOverAndBack$Screen;)V"⟩, 9), (⟨"OverAndBack$Box", "tryWay", "(LOverAndBack$Evening;)V"⟩, 9), (⟨"OverAndBack$Box", "leastOf", "(LOverAndBack$Evening;)I"⟩, 9), (⟨"OverAndBack$Box", "nextWay", "(I)Z"⟩, 9), (⟨"OverAndBack", "isWatcherOrPlan", "(I)Z"⟩, 17), (⟨"OverAndBack", "keptPlan", "(I)LOverAndBack$Plan;"⟩, 17), (⟨"OverAndBackModel", "readItem", "()Z"⟩, 55), (⟨"OverAndBackModel", "letterAt", "(I)I"⟩, 55), (⟨"OverAndBackModel", "readLength", "()Z"⟩, 55), (⟨"OverAndBackModel", "readNumbers", "(I)Z"⟩, 55), (⟨"OverAndBackModel", "isTold", "(III)Z"⟩, 55), (⟨"OverAndBackModel", "readStation", "()Z"⟩, 55), (⟨"OverAndBackModel", "readSceneOf", "()Z"⟩, 55), (⟨"OverAndBackModel", "isSpan", "()Z"⟩, 55), (⟨"OverAndBackModel", "readBreak", "()Z"⟩, 55), (⟨"OverAndBackModel", "readChance", "()Z"⟩, 55)]
theorem lw_r3 : ∀ q ∈ lw_privs_3, lw_okq q := List.forall_mem_cons.mpr ⟨lw_p32, List.forall_mem_cons.mpr ⟨lw_p33, List.forall_mem_cons.mpr ⟨lw_p34, List.forall_mem_cons.mpr ⟨lw_p35, List.forall_mem_cons.mpr ⟨lw_p36, List.forall_mem_cons.mpr ⟨lw_p37, List.forall_mem_cons.mpr ⟨lw_p38, List.forall_mem_cons.mpr ⟨lw_p39, List.forall_mem_cons.mpr ⟨lw_p40, List.forall_mem_cons.mpr ⟨lw_p41, List.forall_mem_cons.mpr ⟨lw_p42, List.forall_mem_cons.mpr ⟨lw_p43, List.forall_mem_cons.mpr ⟨lw_p44, List.forall_mem_cons.mpr ⟨lw_p45, List.forall_mem_cons.mpr ⟨lw_p46, List.forall_mem_cons.mpr ⟨lw_p47, fun _ h => absurd h List.not_mem_nil⟩⟩⟩⟩⟩⟩⟩⟩⟩⟩⟩⟩⟩⟩⟩⟩
theorem lw_p48 : lw_okq (⟨"OverAndBackModel", "readGoes", "()Z"⟩, 55) := ⟨⟨by decide +kernel, by decide +kernel⟩, List.mem_of_getElem? (i := 926) (by decide +kernel), List.mem_of_getElem? (i := 1164) (by decide +kernel), List.mem_of_getElem? (i := 1165) (by decide +kernel)⟩
theorem lw_p49 : lw_okq (⟨"OverAndBackModel", "readRuleOf", "()Z"⟩, 55) := ⟨⟨by decide +kernel, by decide +kernel⟩, List.mem_of_getElem? (i := 926) (by decide +kernel), List.mem_of_getElem? (i := 1168) (by decide +kernel), List.mem_of_getElem? (i := 1169) (by decide +kernel)⟩
theorem lw_p50 : lw_okq (⟨"OverAndBackModel", "readWatcherOf", "()Z"⟩, 55) := ⟨⟨by decide +kernel, by decide +kernel⟩, List.mem_of_getElem? (i := 926) (by decide +kernel), List.mem_of_getElem? (i := 1172) (by decide +kernel), List.mem_of_getElem? (i := 1173) (by decide +kernel)⟩
theorem lw_p51 : lw_okq (⟨"OverAndBackModel", "isStation", "(I)Z"⟩, 55) := ⟨⟨by decide +kernel, by decide +kernel⟩, List.mem_of_getElem? (i := 926) (by decide +kernel), List.mem_of_getElem? (i := 1185) (by decide +kernel), List.mem_of_getElem? (i := 1186) (by decide +kernel)⟩
theorem lw_p52 : lw_okq (⟨"OverAndBackModel", "isMinute", "(I)Z"⟩, 55) := ⟨⟨by decide +kernel, by decide +kernel⟩, List.mem_of_getElem? (i := 926) (by decide +kernel), List.mem_of_getElem? (i := 1189) (by decide +kernel), List.mem_of_getElem? (i := 1190) (by decide +kernel)⟩
theorem lw_p53 : lw_okq (⟨"OverAndBackModel", "layCase", "(II)V"⟩, 55) := ⟨⟨by decide +kernel, by decide +kernel⟩, List.mem_of_getElem? (i := 926) (by decide +kernel), List.mem_of_getElem? (i := 1193) (by decide +kernel), List.mem_of_getElem? (i := 1194) (by decide +kernel)⟩
theorem lw_p54 : lw_okq (⟨"OverAndBackModel", "laySpots", "(I)V"⟩, 55) := ⟨⟨by decide +kernel, by decide +kernel⟩, List.mem_of_getElem? (i := 926) (by decide +kernel), List.mem_of_getElem? (i := 1197) (by decide +kernel), List.mem_of_getElem? (i := 1198) (by decide +kernel)⟩
theorem lw_p55 : lw_okq (⟨"OverAndBackModel", "breaks", "([II)V"⟩, 55) := ⟨⟨by decide +kernel, by decide +kernel⟩, List.mem_of_getElem? (i := 926) (by decide +kernel), List.mem_of_getElem? (i := 1201) (by decide +kernel), List.mem_of_getElem? (i := 1202) (by decide +kernel)⟩
theorem lw_p56 : lw_okq (⟨"OverAndBackModel", "layBreaks", "()V"⟩, 55) := ⟨⟨by decide +kernel, by decide +kernel⟩, List.mem_of_getElem? (i := 926) (by decide +kernel), List.mem_of_getElem? (i := 1208) (by decide +kernel), List.mem_of_getElem? (i := 1209) (by decide +kernel)⟩
theorem lw_p57 : lw_okq (⟨"OverAndBackModel", "closed", "(I)I"⟩, 55) := ⟨⟨by decide +kernel, by decide +kernel⟩, List.mem_of_getElem? (i := 926) (by decide +kernel), List.mem_of_getElem? (i := 1219) (by decide +kernel), List.mem_of_getElem? (i := 1220) (by decide +kernel)⟩
theorem lw_p58 : lw_okq (⟨"OverAndBackModel", "isWatcher", "(I)Z"⟩, 55) := ⟨⟨by decide +kernel, by decide +kernel⟩, List.mem_of_getElem? (i := 926) (by decide +kernel), List.mem_of_getElem? (i := 1227) (by decide +kernel), List.mem_of_getElem? (i := 1228) (by decide +kernel)⟩
theorem lw_p59 : lw_okq (⟨"OverAndBackModel", "watchesOf", "(I)V"⟩, 55) := ⟨⟨by decide +kernel, by decide +kernel⟩, List.mem_of_getElem? (i := 926) (by decide +kernel), List.mem_of_getElem? (i := 1231) (by decide +kernel), List.mem_of_getElem? (i := 1232) (by decide +kernel)⟩
theorem lw_p60 : lw_okq (⟨"OverAndBackModel", "watches", "(II)V"⟩, 55) := ⟨⟨by decide +kernel, by decide +kernel⟩, List.mem_of_getElem? (i := 926) (by decide +kernel), List.mem_of_getElem? (i := 1235) (by decide +kernel), List.mem_of_getElem? (i := 1236) (by decide +kernel)⟩
theorem lw_p61 : lw_okq (⟨"OverAndBackModel", "begins", "()V"⟩, 55) := ⟨⟨by decide +kernel, by decide +kernel⟩, List.mem_of_getElem? (i := 926) (by decide +kernel), List.mem_of_getElem? (i := 1239) (by decide +kernel), List.mem_of_getElem? (i := 1240) (by decide +kernel)⟩
theorem lw_p62 : lw_okq (⟨"OverAndBackModel", "wants", "(IIII)I"⟩, 55) := ⟨⟨by decide +kernel, by decide +kernel⟩, List.mem_of_getElem? (i := 926) (by decide +kernel), List.mem_of_getElem? (i := 1243) (by decide +kernel), List.mem_of_getElem? (i := 1244) (by decide +kernel)⟩
theorem lw_p63 : lw_okq (⟨"OverAndBackModel", "wantsOver", "(II)I"⟩, 55) := ⟨⟨by decide +kernel, by decide +kernel⟩, List.mem_of_getElem? (i := 926) (by decide +kernel), List.mem_of_getElem? (i := 1247) (by decide +kernel), List.mem_of_getElem? (i := 1248) (by decide +kernel)⟩
def lw_privs_4 : List (MethodName × Nat) := [(⟨"OverAndBackModel", "readGoes", "()Z"⟩, 55), (⟨"OverAndBackModel", "readRuleOf", "()Z"⟩, 55), (⟨"OverAndBackModel", "readWatcherOf", "()Z"⟩, 55), (⟨"OverAndBackModel", "isStation", "(I)Z"⟩, 55), (⟨"OverAndBackModel", "isMinute", "(I)Z"⟩, 55), (⟨"OverAndBackModel", "layCase", "(II)V"⟩, 55), (⟨"OverAndBackModel", "laySpots", "(I)V"⟩, 55), (⟨"OverAndBackModel", "breaks", "([II)V"⟩, 55), (⟨"OverAndBackModel", "layBreaks", "()V"⟩, 55), (⟨"OverAndBackModel", "closed", "(I)I"⟩, 55), (⟨"OverAndBackModel", "isWatcher", "(I)Z"⟩, 55), (⟨"OverAndBackModel", "watchesOf", "(I)V"⟩, 55), (⟨"OverAndBackModel", "watches", "(II)V"⟩, 55), (⟨"OverAndBackModel", "begins", "()V"⟩, 55), (⟨"OverAndBackModel", "wants", "(IIII)I"⟩, 55), (⟨"OverAndBackModel", "wantsOver", "(II)I"⟩, 55)]
theorem lw_r4 : ∀ q ∈ lw_privs_4, lw_okq q := List.forall_mem_cons.mpr ⟨lw_p48, List.forall_mem_cons.mpr ⟨lw_p49, List.forall_mem_cons.mpr ⟨lw_p50, List.forall_mem_cons.mpr ⟨lw_p51, List.forall_mem_cons.mpr ⟨lw_p52, List.forall_mem_cons.mpr ⟨lw_p53, List.forall_mem_cons.mpr ⟨lw_p54, List.forall_mem_cons.mpr ⟨lw_p55, List.forall_mem_cons.mpr ⟨lw_p56, List.forall_mem_cons.mpr ⟨lw_p57, List.forall_mem_cons.mpr ⟨lw_p58, List.forall_mem_cons.mpr ⟨lw_p59, List.forall_mem_cons.mpr ⟨lw_p60, List.forall_mem_cons.mpr ⟨lw_p61, List.forall_mem_cons.mpr ⟨lw_p62, List.forall_mem_cons.mpr ⟨lw_p63, fun _ h => absurd h List.not_mem_nil⟩⟩⟩⟩⟩⟩⟩⟩⟩⟩⟩⟩⟩⟩⟩⟩
theorem lw_p64 : lw_okq (⟨"OverAndBackModel", "wantsBest", "(II)I"⟩, 55) := ⟨⟨by decide +kernel, by decide +kernel⟩, List.mem_of_getElem? (i := 926) (by decide +kernel), List.mem_of_getElem? (i := 1251) (by decide +kernel), List.mem_of_getElem? (i := 1252) (by decide +kernel)⟩
theorem lw_p65 : lw_okq (⟨"OverAndBackModel", "sees", "(II)V"⟩, 55) := ⟨⟨by decide +kernel, by decide +kernel⟩, List.mem_of_getElem? (i := 926) (by decide +kernel), List.mem_of_getElem? (i := 1255) (by decide +kernel), List.mem_of_getElem? (i := 1256) (by decide +kernel)⟩
theorem lw_p66 : lw_okq (⟨"OverAndBackModel", "layMost", "()V"⟩, 55) := ⟨⟨by decide +kernel, by decide +kernel⟩, List.mem_of_getElem? (i := 926) (by decide +kernel), List.mem_of_getElem? (i := 1259) (by decide +kernel), List.mem_of_getElem? (i := 1260) (by decide +kernel)⟩
theorem lw_p67 : lw_okq (⟨"OverAndBackModel", "bestGoing", "(II)I"⟩, 55) := ⟨⟨by decide +kernel, by decide +kernel⟩, List.mem_of_getElem? (i := 926) (by decide +kernel), List.mem_of_getElem? (i := 1263) (by decide +kernel), List.mem_of_getElem? (i := 1264) (by decide +kernel)⟩
theorem lw_p68 : lw_okq (⟨"OverAndBackModel", "byGoing", "(II)I"⟩, 55) := ⟨⟨by decide +kernel, by decide +kernel⟩, List.mem_of_getElem? (i := 926) (by decide +kernel), List.mem_of_getElem? (i := 1267) (by decide +kernel), List.mem_of_getElem? (i := 1268) (by decide +kernel)⟩
theorem lw_p69 : lw_okq (⟨"OverAndBackModel", "remembers", "(I)V"⟩, 55) := ⟨⟨by decide +kernel, by decide +kernel⟩, List.mem_of_getElem? (i := 926) (by decide +kernel), List.mem_of_getElem? (i := 1279) (by decide +kernel), List.mem_of_getElem? (i := 1280) (by decide +kernel)⟩
theorem lw_p70 : lw_okq (⟨"OverAndBackModel", "layPlan", "()V"⟩, 55) := ⟨⟨by decide +kernel, by decide +kernel⟩, List.mem_of_getElem? (i := 926) (by decide +kernel), List.mem_of_getElem? (i := 1295) (by decide +kernel), List.mem_of_getElem? (i := 1296) (by decide +kernel)⟩
theorem lw_p71 : lw_okq (⟨"OverAndBackModel", "plans", "()V"⟩, 55) := ⟨⟨by decide +kernel, by decide +kernel⟩, List.mem_of_getElem? (i := 926) (by decide +kernel), List.mem_of_getElem? (i := 1303) (by decide +kernel), List.mem_of_getElem? (i := 1304) (by decide +kernel)⟩
theorem lw_p72 : lw_okq (⟨"OverAndBackModel", "layFew", "(I)V"⟩, 55) := ⟨⟨by decide +kernel, by decide +kernel⟩, List.mem_of_getElem? (i := 926) (by decide +kernel), List.mem_of_getElem? (i := 1319) (by decide +kernel), List.mem_of_getElem? (i := 1320) (by decide +kernel)⟩
theorem lw_p73 : lw_okq (⟨"OverAndBackModel", "comes", "(IIII)V"⟩, 55) := ⟨⟨by decide +kernel, by decide +kernel⟩, List.mem_of_getElem? (i := 926) (by decide +kernel), List.mem_of_getElem? (i := 1326) (by decide +kernel), List.mem_of_getElem? (i := 1327) (by decide +kernel)⟩
theorem lw_p74 : lw_okq (⟨"OverAndBackModel", "findFew", "(I)V"⟩, 55) := ⟨⟨by decide +kernel, by decide +kernel⟩, List.mem_of_getElem? (i := 926) (by decide +kernel), List.mem_of_getElem? (i := 1330) (by decide +kernel), List.mem_of_getElem? (i := 1331) (by decide +kernel)⟩
theorem lw_p75 : lw_okq (⟨"OverAndBackModel", "turns", "()I"⟩, 55) := ⟨⟨by decide +kernel, by decide +kernel⟩, List.mem_of_getElem? (i := 926) (by decide +kernel), List.mem_of_getElem? (i := 1349) (by decide +kernel), List.mem_of_getElem? (i := 1350) (by decide +kernel)⟩
theorem lw_p76 : lw_okq (⟨"OverAndBackModel", "holds", "(I)V"⟩, 55) := ⟨⟨by decide +kernel, by decide +kernel⟩, List.mem_of_getElem? (i := 926) (by decide +kernel), List.mem_of_getElem? (i := 1353) (by decide +kernel), List.mem_of_getElem? (i := 1354) (by decide +kernel)⟩
theorem lw_p77 : lw_okq (⟨"OverAndBackModel", "shows", "()V"⟩, 55) := ⟨⟨by decide +kernel, by decide +kernel⟩, List.mem_of_getElem? (i := 926) (by decide +kernel), List.mem_of_getElem? (i := 1357) (by decide +kernel), List.mem_of_getElem? (i := 1358) (by decide +kernel)⟩
theorem lw_p78 : lw_okq (⟨"OverAndBackModel", "leastOf", "()I"⟩, 55) := ⟨⟨by decide +kernel, by decide +kernel⟩, List.mem_of_getElem? (i := 926) (by decide +kernel), List.mem_of_getElem? (i := 1361) (by decide +kernel), List.mem_of_getElem? (i := 1362) (by decide +kernel)⟩
theorem lw_p79 : lw_okq (⟨"OverAndBackModel", "goesOn", "(I)V"⟩, 55) := ⟨⟨by decide +kernel, by decide +kernel⟩, List.mem_of_getElem? (i := 926) (by decide +kernel), List.mem_of_getElem? (i := 1369) (by decide +kernel), List.mem_of_getElem? (i := 1370) (by decide +kernel)⟩
def lw_privs_5 : List (MethodName × Nat) := [(⟨"OverAndBackModel", "wantsBest", "(II)I"⟩, 55), (⟨"OverAndBackModel", "sees", "(II)V"⟩, 55), (⟨"OverAndBackModel", "layMost", "()V"⟩, 55), (⟨"OverAndBackModel", "bestGoing", "(II)I"⟩, 55), (⟨"OverAndBackModel", "byGoing", "(II)I"⟩, 55), (⟨"OverAndBackModel", "remembers", "(I)V"⟩, 55), (⟨"OverAndBackModel", "layPlan", "()V"⟩, 55), (⟨"OverAndBackModel", "plans", "()V"⟩, 55), (⟨"OverAndBackModel", "layFew", "(I)V"⟩, 55), (⟨"OverAndBackModel", "comes", "(IIII)V"⟩, 55), (⟨"OverAndBackModel", "findFew", "(I)V"⟩, 55), (⟨"OverAndBackModel", "turns", "()I"⟩, 55), (⟨"OverAndBackModel", "holds", "(I)V"⟩, 55), (⟨"OverAndBackModel", "shows", "()V"⟩, 55), (⟨"OverAndBackModel", "leastOf", "()I"⟩, 55), (⟨"OverAndBackModel", "goesOn", "(I)V"⟩, 55)]
theorem lw_r5 : ∀ q ∈ lw_privs_5, lw_okq q := List.forall_mem_cons.mpr ⟨lw_p64, List.forall_mem_cons.mpr ⟨lw_p65, List.forall_mem_cons.mpr ⟨lw_p66, List.forall_mem_cons.mpr ⟨lw_p67, List.forall_mem_cons.mpr ⟨lw_p68, List.forall_mem_cons.mpr ⟨lw_p69, List.forall_mem_cons.mpr ⟨lw_p70, List.forall_mem_cons.mpr ⟨lw_p71, List.forall_mem_cons.mpr ⟨lw_p72, List.forall_mem_cons.mpr ⟨lw_p73, List.forall_mem_cons.mpr ⟨lw_p74, List.forall_mem_cons.mpr ⟨lw_p75, List.forall_mem_cons.mpr ⟨lw_p76, List.forall_mem_cons.mpr ⟨lw_p77, List.forall_mem_cons.mpr ⟨lw_p78, List.forall_mem_cons.mpr ⟨lw_p79, fun _ h => absurd h List.not_mem_nil⟩⟩⟩⟩⟩⟩⟩⟩⟩⟩⟩⟩⟩⟩⟩⟩
theorem lw_p80 : lw_okq (⟨"OverAndBackModel", "weight", "(I)I"⟩, 55) := ⟨⟨by decide +kernel, by decide +kernel⟩, List.mem_of_getElem? (i := 926) (by decide +kernel), List.mem_of_getElem? (i := 1373) (by decide +kernel), List.mem_of_getElem? (i := 1374) (by decide +kernel)⟩
theorem lw_p81 : lw_okq (⟨"OverAndBackModel", "layNight", "(I)V"⟩, 55) := ⟨⟨by decide +kernel, by decide +kernel⟩, List.mem_of_getElem? (i := 926) (by decide +kernel), List.mem_of_getElem? (i := 1393) (by decide +kernel), List.mem_of_getElem? (i := 1394) (by decide +kernel)⟩
def lw_privs_6 : List (MethodName × Nat) := [(⟨"OverAndBackModel", "weight", "(I)I"⟩, 55), (⟨"OverAndBackModel", "layNight", "(I)V"⟩, 55)]
theorem lw_r6 : ∀ q ∈ lw_privs_6, lw_okq q := List.forall_mem_cons.mpr ⟨lw_p80, List.forall_mem_cons.mpr ⟨lw_p81, fun _ h => absurd h List.not_mem_nil⟩⟩
def lw_privs : List (MethodName × Nat) := lw_privs_1 ++ (lw_privs_2 ++ (lw_privs_3 ++ (lw_privs_4 ++ (lw_privs_5 ++ (lw_privs_6)))))
def lw_tbl : List Cond := k2_sels lw_privs ++ tables_1
theorem lw_privs_ok : ∀ q ∈ lw_privs, lw_okq q := by
  show ∀ q ∈ lw_privs_1 ++ (lw_privs_2 ++ (lw_privs_3 ++ (lw_privs_4 ++ (lw_privs_5 ++ (lw_privs_6))))), lw_okq q
  exact List.forall_mem_append.mpr ⟨lw_r1, List.forall_mem_append.mpr ⟨lw_r2, List.forall_mem_append.mpr ⟨lw_r3, List.forall_mem_append.mpr ⟨lw_r4, List.forall_mem_append.mpr ⟨lw_r5, lw_r6⟩⟩⟩⟩⟩
end
section
def RX0 : String := "OverAndBack$Box"
def TX0 : u_T := fun k => match k with
  | 0 => ("OverAndBack$Box", "whole", "[I", true)
  | 1 => ("OverAndBack$Box", "late", "[I", true)
  | 2 => ("OverAndBack$Box", "holders", "[I", true)
  | 3 => ("OverAndBack$Box", "bestHolders", "[I", true)
  | 4 => ("OverAndBack$Box", "worth", "[I", true)
  | 5 => ("OverAndBack$Box", "bestWorth", "[I", true)
  | 6 => ("OverAndBack$Box", "turns", "I", false)
  | 7 => ("OverAndBack$Box", "least", "I", false)
  | _ => ("OverAndBack$Box", "shared", "Z", false)
def tyX0 : Nat → FieldType := fun k => match k with
  | 0 => .array .int
  | 1 => .array .int
  | 2 => .array .int
  | 3 => .array .int
  | 4 => .array .int
  | 5 => .array .int
  | 6 => .int
  | 7 => .int
  | _ => .boolean
theorem nmX0 : ∀ a, a < 9 → ∀ b, b < 9 → a ≠ b → (TX0 a).2.1 ≠ (TX0 b).2.1 := by decide +kernel
theorem tyX0_ok : ∀ k, k < 9 → parseFieldDescriptor (TX0 k).2.2.1 = some (tyX0 k) := by decide +kernel

def RX1 : String := "OverAndBack$Evening"
def TX1 : u_T := fun k => match k with
  | 0 => ("OverAndBack$Evening", "stations", "LOverAndBack$Rows;", true)
  | 1 => ("OverAndBack$Evening", "scenes", "LOverAndBack$Rows;", true)
  | 2 => ("OverAndBack$Evening", "breaks", "LOverAndBack$Rows;", true)
  | 3 => ("OverAndBack$Evening", "chances", "LOverAndBack$Rows;", true)
  | 4 => ("OverAndBack$Evening", "rules", "LOverAndBack$Rows;", true)
  | 5 => ("OverAndBack$Evening", "watchers", "LOverAndBack$Rows;", true)
  | 6 => ("OverAndBack$Evening", "minutes", "I", false)
  | _ => ("OverAndBack$Evening", "going", "I", false)
def tyX1 : Nat → FieldType := fun k => match k with
  | 0 => .object "OverAndBack$Rows"
  | 1 => .object "OverAndBack$Rows"
  | 2 => .object "OverAndBack$Rows"
  | 3 => .object "OverAndBack$Rows"
  | 4 => .object "OverAndBack$Rows"
  | 5 => .object "OverAndBack$Rows"
  | 6 => .int
  | _ => .int
theorem nmX1 : ∀ a, a < 8 → ∀ b, b < 8 → a ≠ b → (TX1 a).2.1 ≠ (TX1 b).2.1 := by decide +kernel
theorem tyX1_ok : ∀ k, k < 8 → parseFieldDescriptor (TX1 k).2.2.1 = some (tyX1 k) := by decide +kernel

def RX2 : String := "OverAndBack$Facts"
def TX2 : u_T := fun k => match k with
  | _ => ("OverAndBack$Facts", "closed", "[I", true)
def tyX2 : Nat → FieldType := fun k => match k with
  | _ => .array .int
theorem nmX2 : ∀ a, a < 1 → ∀ b, b < 1 → a ≠ b → (TX2 a).2.1 ≠ (TX2 b).2.1 := by decide +kernel
theorem tyX2_ok : ∀ k, k < 1 → parseFieldDescriptor (TX2 k).2.2.1 = some (tyX2 k) := by decide +kernel

def RX3 : String := "OverAndBack$Learning"
def TX3 : u_T := fun k => match k with
  | 0 => ("OverAndBack$Learning", "fewest", "[I", true)
  | 1 => ("OverAndBack$Learning", "screen", "LOverAndBack$Screen;", true)
  | 2 => ("OverAndBack$Learning", "facts", "LOverAndBack$Facts;", true)
  | 3 => ("OverAndBack$Learning", "stations", "I", false)
  | 4 => ("OverAndBack$Learning", "going", "I", false)
  | 5 => ("OverAndBack$Learning", "allTold", "I", false)
  | 6 => ("OverAndBack$Learning", "end", "I", false)
  | 7 => ("OverAndBack$Learning", "fewestGoings", "I", false)
  | 8 => ("OverAndBack$Learning", "minutesByFewest", "I", false)
  | 9 => ("OverAndBack$Learning", "minutesByAny", "I", false)
  | _ => ("OverAndBack$Learning", "goingsToBeat", "I", false)
def tyX3 : Nat → FieldType := fun k => match k with
  | 0 => .array .int
  | 1 => .object "OverAndBack$Screen"
  | 2 => .object "OverAndBack$Facts"
  | 3 => .int
  | 4 => .int
  | 5 => .int
  | 6 => .int
  | 7 => .int
  | 8 => .int
  | 9 => .int
  | _ => .int
theorem nmX3 : ∀ a, a < 11 → ∀ b, b < 11 → a ≠ b → (TX3 a).2.1 ≠ (TX3 b).2.1 := by decide +kernel
theorem tyX3_ok : ∀ k, k < 11 → parseFieldDescriptor (TX3 k).2.2.1 = some (tyX3 k) := by decide +kernel

def RX4 : String := "OverAndBack$Past"
def TX4 : u_T := fun k => match k with
  | 0 => ("OverAndBack$Past", "changes", "[I", true)
  | _ => ("OverAndBack$Past", "size", "I", false)
def tyX4 : Nat → FieldType := fun k => match k with
  | 0 => .array .int
  | _ => .int
theorem nmX4 : ∀ a, a < 2 → ∀ b, b < 2 → a ≠ b → (TX4 a).2.1 ≠ (TX4 b).2.1 := by decide +kernel
theorem tyX4_ok : ∀ k, k < 2 → parseFieldDescriptor (TX4 k).2.2.1 = some (tyX4 k) := by decide +kernel

def RX5 : String := "OverAndBack$Plan"
def TX5 : u_T := fun k => match k with
  | 0 => ("OverAndBack$Plan", "minutes", "[I", true)
  | 1 => ("OverAndBack$Plan", "stations", "[I", true)
  | 2 => ("OverAndBack$Plan", "size", "I", false)
  | _ => ("OverAndBack$Plan", "start", "I", false)
def tyX5 : Nat → FieldType := fun k => match k with
  | 0 => .array .int
  | 1 => .array .int
  | 2 => .int
  | _ => .int
theorem nmX5 : ∀ a, a < 4 → ∀ b, b < 4 → a ≠ b → (TX5 a).2.1 ≠ (TX5 b).2.1 := by decide +kernel
theorem tyX5_ok : ∀ k, k < 4 → parseFieldDescriptor (TX5 k).2.2.1 = some (tyX5 k) := by decide +kernel

def RX6 : String := "OverAndBack$Reader"
def TX6 : u_T := fun k => match k with
  | 0 => ("OverAndBack$Reader", "number", "[I", true)
  | _ => ("OverAndBack$Reader", "numbers", "I", false)
def tyX6 : Nat → FieldType := fun k => match k with
  | 0 => .array .int
  | _ => .int
theorem nmX6 : ∀ a, a < 2 → ∀ b, b < 2 → a ≠ b → (TX6 a).2.1 ≠ (TX6 b).2.1 := by decide +kernel
theorem tyX6_ok : ∀ k, k < 2 → parseFieldDescriptor (TX6 k).2.2.1 = some (tyX6 k) := by decide +kernel

def RX7 : String := "OverAndBack$Routes"
def TX7 : u_T := fun k => match k with
  | 0 => ("OverAndBack$Routes", "greatest", "[I", true)
  | 1 => ("OverAndBack$Routes", "minutes", "I", false)
  | 2 => ("OverAndBack$Routes", "firstMinute", "I", false)
  | _ => ("OverAndBack$Routes", "firstStation", "I", false)
def tyX7 : Nat → FieldType := fun k => match k with
  | 0 => .array .int
  | 1 => .int
  | 2 => .int
  | _ => .int
theorem nmX7 : ∀ a, a < 4 → ∀ b, b < 4 → a ≠ b → (TX7 a).2.1 ≠ (TX7 b).2.1 := by decide +kernel
theorem tyX7_ok : ∀ k, k < 4 → parseFieldDescriptor (TX7 k).2.2.1 = some (tyX7 k) := by decide +kernel

def RX8 : String := "OverAndBack$Rows"
def TX8 : u_T := fun k => match k with
  | 0 => ("OverAndBack$Rows", "cells", "[I", true)
  | 1 => ("OverAndBack$Rows", "width", "I", true)
  | 2 => ("OverAndBack$Rows", "limit", "I", true)
  | _ => ("OverAndBack$Rows", "size", "I", false)
def tyX8 : Nat → FieldType := fun k => match k with
  | 0 => .array .int
  | 1 => .int
  | 2 => .int
  | _ => .int
theorem nmX8 : ∀ a, a < 4 → ∀ b, b < 4 → a ≠ b → (TX8 a).2.1 ≠ (TX8 b).2.1 := by decide +kernel
theorem tyX8_ok : ∀ k, k < 4 → parseFieldDescriptor (TX8 k).2.2.1 = some (tyX8 k) := by decide +kernel

def RX9 : String := "OverAndBack$Screen"
def TX9 : u_T := fun k => match k with
  | 0 => ("OverAndBack$Screen", "worth", "[I", true)
  | 1 => ("OverAndBack$Screen", "fact", "[I", true)
  | _ => ("OverAndBack$Screen", "broken", "[I", true)
def tyX9 : Nat → FieldType := fun k => match k with
  | 0 => .array .int
  | 1 => .array .int
  | _ => .array .int
theorem nmX9 : ∀ a, a < 3 → ∀ b, b < 3 → a ≠ b → (TX9 a).2.1 ≠ (TX9 b).2.1 := by decide +kernel
theorem tyX9_ok : ∀ k, k < 3 → parseFieldDescriptor (TX9 k).2.2.1 = some (tyX9 k) := by decide +kernel

def RX10 : String := "OverAndBack$Walk"
def TX10 : u_T := fun k => match k with
  | 0 => ("OverAndBack$Walk", "place", "[I", true)
  | 1 => ("OverAndBack$Walk", "goal", "[I", true)
  | 2 => ("OverAndBack$Walk", "here", "I", false)
  | 3 => ("OverAndBack$Walk", "freeFrom", "I", false)
  | 4 => ("OverAndBack$Walk", "worth", "I", false)
  | 5 => ("OverAndBack$Walk", "seen", "I", false)
  | _ => ("OverAndBack$Walk", "goings", "I", false)
def tyX10 : Nat → FieldType := fun k => match k with
  | 0 => .array .int
  | 1 => .array .int
  | 2 => .int
  | 3 => .int
  | 4 => .int
  | 5 => .int
  | _ => .int
theorem nmX10 : ∀ a, a < 7 → ∀ b, b < 7 → a ≠ b → (TX10 a).2.1 ≠ (TX10 b).2.1 := by decide +kernel
theorem tyX10_ok : ∀ k, k < 7 → parseFieldDescriptor (TX10 k).2.2.1 = some (tyX10 k) := by decide +kernel

def RX11 : String := "OverAndBack"
def TX11 : u_T := fun k => match k with
  | 0 => ("OverAndBack", "text", "[C", true)
  | 1 => ("OverAndBack", "length", "I", false)
  | 2 => ("OverAndBack", "reader", "LOverAndBack$Reader;", true)
  | 3 => ("OverAndBack", "evening", "LOverAndBack$Evening;", false)
  | 4 => ("OverAndBack", "spare", "LOverAndBack$Evening;", false)
  | 5 => ("OverAndBack", "facts", "LOverAndBack$Facts;", true)
  | 6 => ("OverAndBack", "screen", "LOverAndBack$Screen;", true)
  | 7 => ("OverAndBack", "trial", "LOverAndBack$Screen;", true)
  | 8 => ("OverAndBack", "walk", "LOverAndBack$Walk;", true)
  | 9 => ("OverAndBack", "routes", "LOverAndBack$Routes;", true)
  | 10 => ("OverAndBack", "learning", "LOverAndBack$Learning;", true)
  | 11 => ("OverAndBack", "box", "LOverAndBack$Box;", true)
  | 12 => ("OverAndBack", "thePlan", "LOverAndBack$Plan;", true)
  | 13 => ("OverAndBack", "past", "LOverAndBack$Past;", true)
  | 14 => ("OverAndBack", "firstKept", "LOverAndBack$Plan;", true)
  | 15 => ("OverAndBack", "secondKept", "LOverAndBack$Plan;", true)
  | _ => ("OverAndBack", "kept", "I", false)
def tyX11 : Nat → FieldType := fun k => match k with
  | 0 => .array .char
  | 1 => .int
  | 2 => .object "OverAndBack$Reader"
  | 3 => .object "OverAndBack$Evening"
  | 4 => .object "OverAndBack$Evening"
  | 5 => .object "OverAndBack$Facts"
  | 6 => .object "OverAndBack$Screen"
  | 7 => .object "OverAndBack$Screen"
  | 8 => .object "OverAndBack$Walk"
  | 9 => .object "OverAndBack$Routes"
  | 10 => .object "OverAndBack$Learning"
  | 11 => .object "OverAndBack$Box"
  | 12 => .object "OverAndBack$Plan"
  | 13 => .object "OverAndBack$Past"
  | 14 => .object "OverAndBack$Plan"
  | 15 => .object "OverAndBack$Plan"
  | _ => .int
theorem nmX11 : ∀ a, a < 17 → ∀ b, b < 17 → a ≠ b → (TX11 a).2.1 ≠ (TX11 b).2.1 := by decide +kernel
theorem tyX11_ok : ∀ k, k < 17 → parseFieldDescriptor (TX11 k).2.2.1 = some (tyX11 k) := by decide +kernel

def RX12 : String := "OverAndBackModel"
def TX12 : u_T := fun k => match k with
  | 0 => ("OverAndBackModel", "length", "I", false)
  | 1 => ("OverAndBackModel", "goes", "I", false)
  | 2 => ("OverAndBackModel", "stations", "I", false)
  | 3 => ("OverAndBackModel", "worth", "[I", true)
  | 4 => ("OverAndBackModel", "scenes", "I", false)
  | 5 => ("OverAndBackModel", "scene", "[I", true)
  | 6 => ("OverAndBackModel", "breaks", "I", false)
  | 7 => ("OverAndBackModel", "broken", "[I", true)
  | 8 => ("OverAndBackModel", "comings", "I", false)
  | 9 => ("OverAndBackModel", "coming", "[I", true)
  | 10 => ("OverAndBackModel", "rules", "I", false)
  | 11 => ("OverAndBackModel", "rule", "[I", true)
  | 12 => ("OverAndBackModel", "watchers", "I", false)
  | 13 => ("OverAndBackModel", "watcher", "[I", true)
  | 14 => ("OverAndBackModel", "text", "[I", true)
  | 15 => ("OverAndBackModel", "texted", "I", false)
  | 16 => ("OverAndBackModel", "at", "I", false)
  | 17 => ("OverAndBackModel", "told", "[I", true)
  | 18 => ("OverAndBackModel", "readLength", "I", false)
  | 19 => ("OverAndBackModel", "readGoes", "I", false)
  | 20 => ("OverAndBackModel", "readStations", "I", false)
  | 21 => ("OverAndBackModel", "readWorth", "[I", true)
  | 22 => ("OverAndBackModel", "readScenes", "I", false)
  | 23 => ("OverAndBackModel", "readScene", "[I", true)
  | 24 => ("OverAndBackModel", "readBreaks", "I", false)
  | 25 => ("OverAndBackModel", "readBroken", "[I", true)
  | 26 => ("OverAndBackModel", "readComings", "I", false)
  | 27 => ("OverAndBackModel", "readComing", "[I", true)
  | 28 => ("OverAndBackModel", "readRules", "I", false)
  | 29 => ("OverAndBackModel", "readRule", "[I", true)
  | 30 => ("OverAndBackModel", "readWatchers", "I", false)
  | 31 => ("OverAndBackModel", "readWatcher", "[I", true)
  | 32 => ("OverAndBackModel", "onWorth", "[I", true)
  | 33 => ("OverAndBackModel", "onFact", "[I", true)
  | 34 => ("OverAndBackModel", "onBreak", "[Z", true)
  | 35 => ("OverAndBackModel", "on", "[I", true)
  | 36 => ("OverAndBackModel", "saw", "I", false)
  | 37 => ("OverAndBackModel", "facts", "I", false)
  | 38 => ("OverAndBackModel", "went", "I", false)
  | 39 => ("OverAndBackModel", "from", "I", false)
  | 40 => ("OverAndBackModel", "goings", "I", false)
  | 41 => ("OverAndBackModel", "going", "[I", true)
  | 42 => ("OverAndBackModel", "acts", "I", false)
  | 43 => ("OverAndBackModel", "act", "[I", true)
  | 44 => ("OverAndBackModel", "firstWrong", "I", false)
  | 45 => ("OverAndBackModel", "goTo", "[I", true)
  | 46 => ("OverAndBackModel", "most", "[I", true)
  | 47 => ("OverAndBackModel", "few", "[I", true)
  | 48 => ("OverAndBackModel", "fewest", "I", false)
  | 49 => ("OverAndBackModel", "soonest", "I", false)
  | 50 => ("OverAndBackModel", "soonestAny", "I", false)
  | 51 => ("OverAndBackModel", "holder", "[I", true)
  | 52 => ("OverAndBackModel", "shown", "[I", true)
  | 53 => ("OverAndBackModel", "keeps", "I", false)
  | _ => ("OverAndBackModel", "kept", "[I", true)
def tyX12 : Nat → FieldType := fun k => match k with
  | 0 => .int
  | 1 => .int
  | 2 => .int
  | 3 => .array .int
  | 4 => .int
  | 5 => .array .int
  | 6 => .int
  | 7 => .array .int
  | 8 => .int
  | 9 => .array .int
  | 10 => .int
  | 11 => .array .int
  | 12 => .int
  | 13 => .array .int
  | 14 => .array .int
  | 15 => .int
  | 16 => .int
  | 17 => .array .int
  | 18 => .int
  | 19 => .int
  | 20 => .int
  | 21 => .array .int
  | 22 => .int
  | 23 => .array .int
  | 24 => .int
  | 25 => .array .int
  | 26 => .int
  | 27 => .array .int
  | 28 => .int
  | 29 => .array .int
  | 30 => .int
  | 31 => .array .int
  | 32 => .array .int
  | 33 => .array .int
  | 34 => .array .boolean
  | 35 => .array .int
  | 36 => .int
  | 37 => .int
  | 38 => .int
  | 39 => .int
  | 40 => .int
  | 41 => .array .int
  | 42 => .int
  | 43 => .array .int
  | 44 => .int
  | 45 => .array .int
  | 46 => .array .int
  | 47 => .array .int
  | 48 => .int
  | 49 => .int
  | 50 => .int
  | 51 => .array .int
  | 52 => .array .int
  | 53 => .int
  | _ => .array .int
theorem nmX12 : ∀ a, a < 55 → ∀ b, b < 55 → a ≠ b → (TX12 a).2.1 ≠ (TX12 b).2.1 := by decide +kernel
theorem tyX12_ok : ∀ k, k < 55 → parseFieldDescriptor (TX12 k).2.2.1 = some (tyX12 k) := by decide +kernel

def am_cls : List vw_C := [(RX0, TX0, 9), (RX1, TX1, 8), (RX2, TX2, 1), (RX3, TX3, 11), (RX4, TX4, 2), (RX5, TX5, 4), (RX6, TX6, 2), (RX7, TX7, 4), (RX8, TX8, 4), (RX9, TX9, 3), (RX10, TX10, 7), (RX11, TX11, 17), (RX12, TX12, 55)]

def am_isN : Cond → Bool
  | .fieldLinkNest _ _ _ _ _ _ => true
  | .methodLinkNest _ _ _ _ => true
  | _ => false
def am_nest : List Cond := tables_1.filter am_isN
def am_tbl : List Cond := lw_tbl.filter goodWord
theorem am_tbl_in {w : Cond} (h : w ∈ am_tbl) : w ∈ lw_tbl := (List.mem_filter.mp h).1
theorem am_tbl_good {w : Cond} (h : w ∈ am_tbl) : (w.onTables && w.keeps) = true ∨ ∃ ty, w = .arrayClass ty := good_of_word (List.mem_filter.mp h).2
theorem am_tbl_t {w : Cond} (h : w ∈ tables_1) (g : goodWord w = true) : w ∈ am_tbl := List.mem_filter.mpr ⟨List.mem_append_right _ h, g⟩
theorem am_tbl_s {w : Cond} (h : w ∈ k2_sels lw_privs) (g : goodWord w = true) : w ∈ am_tbl := List.mem_filter.mpr ⟨List.mem_append_left _ h, g⟩
theorem am_nest_t {w : Cond} (h : w ∈ tables_1) (g : am_isN w = true) : w ∈ am_nest := List.mem_filter.mpr ⟨h, g⟩
end
section
/-! ===== numbers: ints as naturals modulo 2^32 ===== -/
theorem an_mod (n : Nat) : Int32.ofNat (n % 4294967296) = Int32.ofNat n := by
  apply Int32.toBitVec_inj.mp
  apply BitVec.eq_of_toNat_eq
  simp
theorem an_toInt (n : Nat) : (Int32.ofNat n).toInt = Int.bmod n 4294967296 := by
  simp [Int32.toInt_ofNat']
theorem an_add (a b : Nat) : Int32.ofNat ((a + b) % 4294967296) = Int32.ofNat a + Int32.ofNat b := by
  rw [an_mod, Int32.ofNat_add]
theorem an_mul (a b : Nat) : Int32.ofNat ((a * b) % 4294967296) = Int32.ofNat a * Int32.ofNat b := by
  rw [an_mod, Int32.ofNat_mul]
theorem an_sub (a b : Nat) : Int32.ofNat ((a + (4294967296 - b % 4294967296)) % 4294967296) = Int32.ofNat a - Int32.ofNat b := by
  apply Int32.toBitVec_inj.mp
  apply BitVec.eq_of_toNat_eq
  simp [BitVec.toNat_sub]
  omega
theorem an_and (a b : Nat) : Int32.ofNat (a &&& b) = Int32.ofNat a &&& Int32.ofNat b := by
  apply Int32.toBitVec_inj.mp
  simp
theorem an_or (a b : Nat) : Int32.ofNat (a ||| b) = Int32.ofNat a ||| Int32.ofNat b := by
  apply Int32.toBitVec_inj.mp
  simp
theorem an_xor (a b : Nat) : Int32.ofNat (a ^^^ b) = Int32.ofNat a ^^^ Int32.ofNat b := by
  apply Int32.toBitVec_inj.mp
  simp
theorem an_eq (a b : Nat) : (Int32.ofNat a = Int32.ofNat b) ↔ a % 4294967296 = b % 4294967296 := by
  constructor
  · intro h
    have h2 := congrArg (fun x : Int32 => x.toBitVec.toNat) h
    simpa using h2
  · intro h
    rw [← an_mod a, ← an_mod b, h]
theorem an_lt (a b : Nat) : (Int32.ofNat a < Int32.ofNat b) ↔ (a + 2147483648) % 4294967296 < (b + 2147483648) % 4294967296 := by
  rw [Int32.lt_iff_toInt_lt, an_toInt, an_toInt]
  simp only [Int.bmod]
  omega
theorem an_le (a b : Nat) : (Int32.ofNat a ≤ Int32.ofNat b) ↔ (a + 2147483648) % 4294967296 ≤ (b + 2147483648) % 4294967296 := by
  rw [Int32.le_iff_toInt_le, an_toInt, an_toInt]
  simp only [Int.bmod]
  omega
theorem an_clamp {a : Nat} (h : a < 2147483648) : (Int32.ofNat a).toNatClampNeg = a := by
  show (Int32.ofNat a).toInt.toNat = a
  rw [an_toInt]
  simp only [Int.bmod]
  omega
theorem an_nonneg {a : Nat} (h : a < 2147483648) : ¬ Int32.ofNat a < 0 := by
  have := an_lt a 0
  intro h2
  have h3 := this.mp h2
  omega
theorem an_toIntS {a : Nat} (h : a < 2147483648) : (Int32.ofNat a).toInt = a := by
  rw [an_toInt]
  simp only [Int.bmod]
  omega
theorem an_div {a b : Nat} (ha : a < 2147483648) (hb : b < 2147483648) : Int32.ofNat (a / b) = Int32.ofNat a / Int32.ofNat b := by
  apply Int32.toInt_inj.mp
  have h1 : a / b < 2147483648 := Nat.lt_of_le_of_lt (Nat.div_le_self _ _) ha
  rw [Int32.toInt_div, an_toIntS h1, an_toIntS ha, an_toIntS hb]
  have e : ((a : Int).tdiv (b : Int)) = ((a / b : Nat) : Int) := by simp
  rw [e, show ((2 : Nat) ^ 32) = 4294967296 from rfl]
  simp only [Int.bmod]
  generalize a / b = q at h1 ⊢
  omega
theorem an_rem {a b : Nat} (ha : a < 2147483648) (hb : b < 2147483648) : Int32.ofNat (a % b) = Int32.ofNat a - Int32.ofNat a / Int32.ofNat b * Int32.ofNat b := by
  rw [← an_div ha hb]
  rw [← Int32.ofNat_mul]
  have e : a % b = a - a / b * b := by
    have := Nat.div_add_mod a b
    rw [Nat.mul_comm] at this
    omega
  have hle : a / b * b ≤ a := Nat.div_mul_le_self a b
  rw [e]
  apply Int32.toBitVec_inj.mp
  apply BitVec.eq_of_toNat_eq
  simp [BitVec.toNat_sub]
  omega
theorem an_ne0 {b : Nat} (h0 : 0 < b) (hb : b < 2147483648) : ¬ Int32.ofNat b = 0 := by
  intro h
  have h2 := (an_eq b 0).mp h
  omega
theorem an_and31 (b : Nat) : Int32.ofNat b &&& 31 = Int32.ofNat (b % 32) := by
  have h := an_and b 31
  rw [show (31 : Int32) = Int32.ofNat 31 from rfl, ← h, show b &&& 31 = b % 32 from Nat.and_two_pow_sub_one_eq_mod b 5]
theorem an_smod : ∀ c, c < 32 → ((Int32.ofNat c).toBitVec.smod 32).toNat = c := by decide +kernel
theorem an_tn (n : Nat) : (Int32.ofNat n).toBitVec.toNat = n % 4294967296 := by simp
theorem an_shl (a b : Nat) : Int32.ofNat ((a <<< (b % 32)) % 4294967296) = Int32.ofNat a <<< (Int32.ofNat b &&& 31) := by
  rw [an_and31]
  apply Int32.toBitVec_inj.mp
  apply BitVec.eq_of_toNat_eq
  rw [pk_shl _ _ (b % 32) (an_smod _ (Nat.mod_lt _ (by decide))), an_tn, an_tn, Nat.shiftLeft_eq, Nat.mod_mod, Nat.mod_mul_mod]
theorem an_shr {a : Nat} (b : Nat) (ha : a < 2147483648) : Int32.ofNat (a >>> (b % 32)) = Int32.ofNat a >>> (Int32.ofNat b &&& 31) := by
  rw [an_and31]
  apply Int32.toInt_inj.mp
  have h1 : a >>> (b % 32) < 2147483648 := Nat.lt_of_le_of_lt (Nat.shiftRight_le a _) ha
  rw [an_toIntS h1]
  show _ = ((Int32.ofNat a).toBitVec.sshiftRight ((Int32.ofNat (b % 32)).toBitVec.smod 32).toNat).toInt
  rw [an_smod _ (Nat.mod_lt _ (by decide)), BitVec.toInt_sshiftRight]
  show _ = (Int32.ofNat a).toInt >>> (b % 32)
  rw [an_toIntS ha]
  rfl
theorem an_and31u (b : Nat) : ((Int32.ofNat b).toUInt32 &&& Int32.toUInt32 31).toNat = b % 32 := by
  have h := an_and31 b
  have h2 : ((Int32.ofNat b).toUInt32 &&& Int32.toUInt32 31) = (Int32.ofNat b &&& 31).toUInt32 := rfl
  rw [h2, h]
  show ((Int32.ofNat (b % 32)).toBitVec).toNat = _
  rw [an_tn]
  omega
theorem an_ushr (a b : Nat) : Int32.ofNat ((a % 4294967296) >>> (b % 32)) = ((Int32.ofNat a).toUInt32 >>> ((Int32.ofNat b).toUInt32 &&& Int32.toUInt32 31)).toInt32 := by
  apply Int32.toBitVec_inj.mp
  apply BitVec.eq_of_toNat_eq
  rw [an_tn]
  show _ = ((Int32.ofNat a).toUInt32 >>> ((Int32.ofNat b).toUInt32 &&& Int32.toUInt32 31)).toNat
  rw [UInt32.toNat_shiftRight, an_and31u]
  show _ = ((Int32.ofNat a).toBitVec).toNat >>> (b % 32 % 32)
  rw [an_tn, Nat.mod_mod]
  exact Nat.mod_eq_of_lt (Nat.lt_of_le_of_lt (Nat.shiftRight_le _ _) (Nat.mod_lt _ (by decide)))
theorem an_i2c (a : Nat) : ((Int32.ofNat a).toUInt32 % 65536).toInt32 = Int32.ofNat (a % 65536) := by
  apply Int32.toBitVec_inj.mp
  apply BitVec.eq_of_toNat_eq
  rw [an_tn]
  show ((Int32.ofNat a).toUInt32 % 65536).toNat = _
  rw [UInt32.toNat_mod]
  show ((Int32.ofNat a).toBitVec).toNat % 65536 = _
  rw [an_tn]
  omega
theorem an_b1 (a : Nat) : narrow .boolean (.int (Int32.ofNat a)) = .int (Int32.ofNat (a % 2)) := by
  have h := an_and a 1
  show Value.int (Int32.ofNat a &&& 1) = _
  rw [show (1 : Int32) = Int32.ofNat 1 from rfl, ← h, show a &&& 1 = a % 2 from Nat.and_two_pow_sub_one_eq_mod a 1]
theorem an_c16 (a : Nat) : narrow .char (.int (Int32.ofNat a)) = .int (Int32.ofNat (a % 65536)) := by
  rw [← an_i2c]
  rfl
theorem an_toIntN {a : Nat} (h1 : 2147483648 ≤ a) (h2 : a < 4294967296) : (Int32.ofNat a).toInt = (a : Int) - 4294967296 := by
  rw [an_toInt]
  simp only [Int.bmod]
  omega
theorem an_out {a : Nat} {lo hi : Int} (ha : a < 4294967296) (h0 : 0 ≤ lo) (h1 : (a : Int) < lo ∨ hi < (a : Int)) : (Int32.ofNat a).toInt < lo ∨ hi < (Int32.ofNat a).toInt := by
  by_cases h : a < 2147483648
  · rw [an_toIntS h]
    exact h1
  · rw [an_toIntN (Nat.not_lt.mp h) ha]
    exact Or.inl (by omega)
end
section
/-! ===== the abstract machine: lists, heaps ===== -/
abbrev am_E : Type := (Nat × Nat × Nat) ⊕ (Nat × List Value)
abbrev am_H : Type := Nat × Nat × List (List am_E)
abbrev am_L : Type := List (Option Value)
abbrev am_R : Type := Option Value × am_H
noncomputable def am_force {β : Type} (n : Nat) (k : Nat → β) : β := Nat.rec (motive := fun _ => β) (k 0) (fun m _ => k (Nat.succ m)) n
theorem am_force_eq {β : Type} (n : Nat) (k : Nat → β) : am_force n k = k n := by cases n <;> rfl
noncomputable def am_nth {α : Type} (l : List α) : Nat → Option α :=
  List.rec (motive := fun _ => Nat → Option α) (fun _ => none) (fun a _ ih n => Nat.rec (motive := fun _ => Option α) (some a) (fun m _ => ih m) n) l
theorem am_nth_eq {α : Type} (l : List α) (n : Nat) : am_nth l n = l[n]? := by
  induction l generalizing n with
  | nil => rfl
  | cons a l ih =>
    cases n with
    | zero => rfl
    | succ n => rw [List.getElem?_cons_succ]; exact ih n
noncomputable def am_setc {α β : Type} (l : List α) (v : α) : Nat → (List α → β) → β :=
  List.rec (motive := fun _ => Nat → (List α → β) → β) (fun _ k => k []) (fun a l ih n k => Nat.rec (motive := fun _ => β) (k (v :: l)) (fun m _ => ih m (fun l' => k (a :: l'))) n) l
theorem am_setc_eq {α β : Type} (l : List α) (v : α) (n : Nat) (k : List α → β) : am_setc l v n k = k (l.set n v) := by
  induction l generalizing n k with
  | nil => rfl
  | cons a l ih =>
    cases n with
    | zero => rfl
    | succ n => exact ih n (fun l' => k (a :: l'))
noncomputable def am_get (h : am_H) (a : Nat) : Option am_E := Option.rec (motive := fun _ => Option am_E) none (fun b => am_nth b (a % 8)) (am_nth h.2.2 (a / 8))
theorem am_get_eq (h : am_H) (a : Nat) : am_get h a = (h.2.2[a / 8]?).bind (fun b => b[a % 8]?) := by
  unfold am_get
  rw [am_nth_eq]
  cases h.2.2[a / 8]? with
  | none => rfl
  | some b => exact am_nth_eq b _
def am_upd (h : am_H) (a : Nat) (e : am_E) : am_H := (h.1, h.2.1, match h.2.2[a / 8]? with
  | some b => h.2.2.set (a / 8) (b.set (a % 8) e)
  | none => h.2.2)
noncomputable def am_updc {β : Type} (h : am_H) (a : Nat) (e : am_E) (k : am_H → β) : β := match h with
  | (n, s, bs) => Option.rec (motive := fun _ => β) (k (n, s, bs)) (fun b => am_setc b e (a % 8) fun b' => am_setc bs b' (a / 8) fun bs' => k (n, s, bs')) (am_nth bs (a / 8))
theorem am_updc_eq {β : Type} (h : am_H) (a : Nat) (e : am_E) (k : am_H → β) : am_updc h a e k = k (am_upd h a e) := by
  obtain ⟨n, s, bs⟩ := h
  unfold am_updc am_upd
  simp only [am_nth_eq]
  cases bs[a / 8]? with
  | none => rfl
  | some b => simp only [am_setc_eq]
theorem am_get_upd {h : am_H} {a : Nat} {e0 e : am_E} (h0 : am_get h a = some e0) (k : Nat) : am_get (am_upd h a e) k = if k = a then some e else am_get h k := by
  obtain ⟨n, s, bs⟩ := h
  rw [am_get_eq] at h0 ⊢
  rw [am_get_eq]
  unfold am_upd
  dsimp only at h0 ⊢
  cases hb : bs[a / 8]? with
  | none => rw [hb] at h0; cases h0
  | some b =>
    rw [hb] at h0
    have hb1 : a / 8 < bs.length := (List.getElem?_eq_some_iff.mp hb).1
    have hb2 : a % 8 < b.length := (List.getElem?_eq_some_iff.mp h0).1
    dsimp only
    by_cases hk : k / 8 = a / 8
    · rw [hk, List.getElem?_set_self hb1, hb]
      show (b.set (a % 8) e)[k % 8]? = if k = a then some e else b[k % 8]?
      by_cases hk2 : k % 8 = a % 8
      · rw [if_pos (by omega), hk2, List.getElem?_set_self hb2]
      · rw [if_neg (by omega), List.getElem?_set_ne (fun q => hk2 q.symm)]
    · rw [List.getElem?_set_ne (fun q => hk q.symm), if_neg (by omega)]
/-- a new cell of n slots -/
noncomputable def am_pushc {β : Type} (h : am_H) (n : Nat) (e : am_E) (z : β) (k : Nat → am_H → β) : β := match h with
  | (c, s, bs) => Option.rec (motive := fun _ => β) (bif Nat.beq (8 * bs.length) c then am_force (c + 1) fun c' => am_force (s + n) fun s' => k c (c', s', bs ++ [[e]]) else z) (fun b => bif Nat.beq b.length (c % 8) then am_force (c + 1) fun c' => am_force (s + n) fun s' => am_setc bs (b ++ [e]) (c / 8) fun bs' => k c (c', s', bs') else z) (am_nth bs (c / 8))
def am_New (h h' : am_H) (n : Nat) (e : am_E) : Prop := h'.1 = h.1 + 1 ∧ h'.2.1 = h.2.1 + n ∧ ∀ k x, am_get h' k = some x → (k = h.1 ∧ x = e) ∨ am_get h k = some x
theorem am_pushc_eq {β : Type} (h : am_H) (n : Nat) (e : am_E) (z : β) (k : Nat → am_H → β) : am_pushc h n e z k = z ∨ ∃ h', am_New h h' n e ∧ am_pushc h n e z k = k h.1 h' := by
  obtain ⟨c, s, bs⟩ := h
  unfold am_pushc
  simp only [am_nth_eq, am_force_eq, am_setc_eq]
  cases hb : bs[c / 8]? with
  | none =>
    dsimp only
    cases hc : Nat.beq (8 * bs.length) c with
    | false => exact Or.inl rfl
    | true =>
      refine Or.inr ⟨_, ⟨rfl, rfl, fun j x hx => ?_⟩, rfl⟩
      have hc' := Nat.eq_of_beq_eq_true hc
      rw [am_get_eq] at hx ⊢
      dsimp only at hx ⊢
      by_cases h1 : j / 8 < bs.length
      · rw [List.getElem?_append_left h1] at hx
        exact Or.inr hx
      · rw [List.getElem?_append_right (by omega)] at hx
        by_cases h2 : j / 8 - bs.length = 0
        · rw [h2] at hx
          change ([e] : List am_E)[j % 8]? = some x at hx
          by_cases h3 : j % 8 = 0
          · rw [h3] at hx
            refine Or.inl ⟨by omega, ?_⟩
            simpa using hx.symm
          · have := (List.getElem?_eq_some_iff.mp hx).1
            simp at this
            omega
        · have h4 : ([[e]] : List (List am_E))[j / 8 - bs.length]? = none := List.getElem?_eq_none (by simp; omega)
          rw [h4] at hx
          cases hx
  | some b =>
    dsimp only
    cases hc : Nat.beq b.length (c % 8) with
    | false => exact Or.inl rfl
    | true =>
      refine Or.inr ⟨_, ⟨rfl, rfl, fun j x hx => ?_⟩, rfl⟩
      have hc' := Nat.eq_of_beq_eq_true hc
      have hb1 : c / 8 < bs.length := (List.getElem?_eq_some_iff.mp hb).1
      rw [am_get_eq] at hx ⊢
      dsimp only at hx ⊢
      by_cases hk : j / 8 = c / 8
      · rw [hk, List.getElem?_set_self hb1] at hx
        change (b ++ [e])[j % 8]? = some x at hx
        by_cases h1 : j % 8 < b.length
        · rw [List.getElem?_append_left h1] at hx
          refine Or.inr ?_
          rw [hk, hb]
          exact hx
        · rw [List.getElem?_append_right (by omega)] at hx
          have h3 := (List.getElem?_eq_some_iff.mp hx).1
          have h4 : j % 8 - b.length = 0 := by simp at h3; omega
          rw [h4] at hx
          refine Or.inl ⟨by omega, ?_⟩
          simpa using hx.symm
      · rw [List.getElem?_set_ne (fun q => hk q.symm)] at hx
        exact Or.inr hx
/-! ===== packed rows of 32 bits ===== -/
def am_ag (c i : Nat) : Nat := (c >>> (32 * i)) % 4294967296
def am_as (c i v : Nat) : Nat := c ^^^ ((am_ag c i ^^^ (v % 4294967296)) <<< (32 * i))
theorem am_ag_bit (c i b : Nat) : (am_ag c i).testBit b = (decide (b < 32) && c.testBit (32 * i + b)) := by
  unfold am_ag
  rw [show 4294967296 = 2 ^ 32 from rfl, Nat.testBit_mod_two_pow, Nat.testBit_shiftRight]
theorem am_ag_lt (c i : Nat) : am_ag c i < 4294967296 := Nat.mod_lt _ (by decide)
theorem am_ag_as (c i v j : Nat) : am_ag (am_as c i v) j = if j = i then v % 4294967296 else am_ag c j := by
  apply Nat.eq_of_testBit_eq
  intro b
  rw [am_ag_bit]
  unfold am_as
  rw [Nat.testBit_xor, Nat.testBit_shiftLeft, Nat.testBit_xor, am_ag_bit]
  have hv : (v % 4294967296).testBit = fun b => (decide (b < 32) && v.testBit b) := by
    funext b
    rw [show 4294967296 = 2 ^ 32 from rfl, Nat.testBit_mod_two_pow]
  rw [hv]
  by_cases hj : j = i
  · subst hj
    rw [if_pos rfl, hv]
    have e : 32 * j + b - 32 * j = b := by omega
    rw [e]
    by_cases hb : b < 32
    · simp [hb]
    · simp [hb]
  · rw [if_neg hj, am_ag_bit]
    by_cases hb : b < 32
    · by_cases h1 : 32 * j + b ≥ 32 * i
      · have h2 : ¬ (32 * j + b - 32 * i < 32) := by omega
        simp [hb, h1, h2]
      · simp [hb, h1]
    · simp [hb]
/-- n elements of c0 from sp on, into c1 from dp on -/
def am_cp (c0 c1 sp dp n : Nat) : Nat := c1 ^^^ ((((c1 >>> (32 * dp)) % 2 ^ (32 * n)) ^^^ ((c0 >>> (32 * sp)) % 2 ^ (32 * n))) <<< (32 * dp))
theorem am_ag_cp (c0 c1 sp dp n j : Nat) : am_ag (am_cp c0 c1 sp dp n) j = if dp ≤ j ∧ j < dp + n then am_ag c0 (sp + (j - dp)) else am_ag c1 j := by
  apply Nat.eq_of_testBit_eq
  intro b
  rw [am_ag_bit]
  unfold am_cp
  rw [Nat.testBit_xor, Nat.testBit_shiftLeft, Nat.testBit_xor, Nat.testBit_mod_two_pow, Nat.testBit_mod_two_pow, Nat.testBit_shiftRight, Nat.testBit_shiftRight]
  by_cases hj : dp ≤ j ∧ j < dp + n
  · rw [if_pos hj, am_ag_bit]
    by_cases hb : b < 32
    · have h1 : 32 * j + b ≥ 32 * dp := by omega
      have h2 : 32 * j + b - 32 * dp < 32 * n := by omega
      have e1 : 32 * dp + (32 * j + b - 32 * dp) = 32 * j + b := by omega
      have e2 : 32 * sp + (32 * j + b - 32 * dp) = 32 * (sp + (j - dp)) + b := by omega
      simp [hb, h1, h2, e1, e2]
    · simp [hb]
  · rw [if_neg hj, am_ag_bit]
    by_cases hb : b < 32
    · by_cases h1 : 32 * j + b ≥ 32 * dp
      · have h2 : ¬ (32 * j + b - 32 * dp < 32 * n) := by omega
        simp [hb, h1, h2]
      · simp [hb, h1]
    · simp [hb]
end
section
/-! ===== what the abstract machine's state says of the machine's ===== -/
def am_v (B : Nat) : Value → Value
  | .retAddr n => .int (Int32.ofNat n)
  | .ref a => .ref (B + a)
  | v => v
theorem am_v_cat (B : Nat) (v : Value) : (am_v B v).category = v.category := by cases v <;> rfl
def am_e (B : Nat) (dA : Nat → ClassId) (e : am_E) : va_E := match e with
  | .inl x => .inl (dA x.1, x.2.1, .inl (fun j => Int32.ofNat (am_ag x.2.2 j)))
  | .inr x => .inr (x.1, x.2.map (am_v B))
def am_Wd (B : Nat) (D : va_G) (dA : Nat → ClassId) (h : am_H) (H : Heap) : Prop := H.size = B + h.1 ∧ ∀ k e, am_get h k = some e → va_at D am_cls (B + k, am_e B dA e) H
theorem am_Wd.upd {B : Nat} {D : va_G} {dA : Nat → ClassId} {h : am_H} {H H1 : Heap} (hw : am_Wd B D dA h H) {a : Nat} {e0 e : am_E} (h0 : am_get h a = some e0) (he : va_at D am_cls (B + a, am_e B dA e) H1) (hz : H1.size = H.size) (hq : ∀ q : Nat, q ≠ B + a → H1[q]? = H[q]?) : am_Wd B D dA (am_upd h a e) H1 := by
  refine ⟨by rw [hz]; exact hw.1, fun k x hx => ?_⟩
  rw [am_get_upd h0] at hx
  by_cases hk : k = a
  · rw [if_pos hk] at hx
    cases hx
    rw [hk]
    exact he
  · rw [if_neg hk] at hx
    exact (hw.2 k x hx).kept (hq (B + k) (by omega))
theorem am_Wd.new {B : Nat} {D : va_G} {dA : Nat → ClassId} {h h' : am_H} {H H1 : Heap} (hw : am_Wd B D dA h H) {n : Nat} {e : am_E} (hn : am_New h h' n e) (he : va_at D am_cls (B + h.1, am_e B dA e) H1) (hz : H1.size = H.size + 1) (hq : ∀ q : Nat, q < H.size → H1[q]? = H[q]?) : am_Wd B D dA h' H1 := by
  refine ⟨by rw [hz, hw.1, hn.1]; omega, fun k x hx => ?_⟩
  rcases hn.2.2 k x hx with ⟨rfl, rfl⟩ | h1
  · exact he
  · exact (hw.2 k x h1).kept (hq (B + k) (hw.2 k x h1).lt)
def am_tys (dA : Nat → ClassId) : List (ClassId × FieldType) := [(dA 0, .int), (dA 1, .char), (dA 2, .boolean)]
/-- the first text, as the class's constant, and its bytes: cells that no one writes -/
def am_ftx : String := "n12;s2;s3;m0,2,4,7,0;b0,5,6;m1,5,5,9,1;b1,8,9;f0,1,2;w0,0;w1,0;w2,0;w3,1;"
def am_fby : List Int32 := [110, 49, 50, 59, 115, 50, 59, 115, 51, 59, 109, 48, 44, 50, 44, 52, 44, 55, 44, 48, 59, 98, 48, 44, 53, 44, 54, 59, 109, 49, 44, 53, 44, 53, 44, 57, 44, 49, 59, 98, 49, 44, 56, 44, 57, 59, 102, 48, 44, 49, 44, 50, 59, 119, 48, 44, 48, 59, 119, 49, 44, 48, 59, 119, 50, 44, 48, 59, 119, 51, 44, 49, 59]
def am_Sx (B : Nat) (U : State) : Prop := ∃ (adK adV : Nat → Nat), vk_R "OverAndBack" 104 am_ftx (adK 0) U ∧ vk_S 1 [73] [am_fby] adK adV (fun q => B ≤ q) U U.heap ∧ va_Z "java/lang/String" "COMPACT_STRINGS" "Z" (.int 1) (fun q => B ≤ q) U U.heap
theorem am_Sx.warm {B : Nat} {s U : State} {H : Heap} {locs : List Loc} (hW : s.WarmedH U.vm) (hU : U.heap = H) (hS : va_S (fun q => B ≤ q) s.heap H locs) (h : am_Sx B s) : am_Sx B U := by
  obtain ⟨adK, adV, h1, h2, h3⟩ := h
  have hq : ∀ a : Nat, a < s.heap.size → ¬ (fun q => B ≤ q) a → U.heap[a]? = s.heap[a]? := fun a g1 g2 => by rw [hU]; exact hS.2.1 a g1 g2
  exact ⟨adK, adV, h1.warm hW, (h2.moved hW.alike).kept hq, (h3.moved hW.alike).kept hq⟩
theorem am_Sx.calling {B : Nat} {U : State} (g : JFrame) (mk : MethodId) (a : Array Value) (h : am_Sx B U) : am_Sx B (U.calling g mk a) := by
  obtain ⟨adK, adV, h1, h2, h3⟩ := h
  exact ⟨adK, adV, vk_R.same (u := U) rfl h1, vk_S.moved (u := U) (U := U.calling g mk a) (Vm.Alike.refl U.vm) h2, va_Z.moved (u := U) (U := U.calling g mk a) (Vm.Alike.refl U.vm) h3⟩
def am_Kn (B : Nat) (D : va_G) (dA : Nat → ClassId) (U : State) : Prop := va_K D am_cls (am_tys dA) U ∧ (∀ w ∈ am_nest, va_Nw w U) ∧ am_Sx B U
theorem am_Kn.warm {B : Nat} {D : va_G} {dA : Nat → ClassId} {s U : State} {H : Heap} {locs : List Loc} (hW : s.WarmedH U.vm) (hU : U.heap = H) (hS : va_S (fun q => B ≤ q) s.heap H locs) (h : am_Kn B D dA s) : am_Kn B D dA U := by
  refine ⟨va_K.moved hW.alike h.1, fun w hw => ?_, h.2.2.warm hW hU hS⟩
  have hn := (List.mem_filter.mp hw).2
  have h1 := h.2.1 w hw
  cases w <;> first | (exact va_Nw.warmF hW h1) | (exact va_Nw.warmM hW h1) | (cases hn)
def am_Lv (B : Nat) (ls : Array Slot) (nL : Nat) (L : am_L) : Prop := ls.size = nL ∧ lv_wf ls ∧ ∀ (i : Nat) (v : Value), L[i]? = some (some v) → ls[i]? = some (Slot.val (am_v B v))
def am_ll (B : Nat) (L : am_L) : List (Nat × Value) := (List.range L.length).filterMap fun i => match L[i]? with
  | some (some v) => some (i, am_v B v)
  | _ => none
theorem am_ll_mem {B : Nat} {L : am_L} {i : Nat} {v : Value} (h : L[i]? = some (some v)) : (i, am_v B v) ∈ am_ll B L := by
  refine List.mem_filterMap.mpr ⟨i, List.mem_range.mpr (List.getElem?_eq_some_iff.mp h).1, ?_⟩
  rw [h]
theorem am_Lv.has {B nL : Nat} {ls : Array Slot} {L : am_L} (h : am_Lv B ls nL L) : lv_has ls nL (am_ll B L) := by
  refine ⟨h.1, h.2.1, fun q hq => ?_⟩
  obtain ⟨i, -, hi⟩ := List.mem_filterMap.mp hq
  cases hL : L[i]? with
  | none => rw [hL] at hi; cases hi
  | some x =>
    cases x with
    | none => rw [hL] at hi; cases hi
    | some v =>
      rw [hL] at hi
      cases hi
      exact h.2.2 i v hL
/-- no long ends at the place i -/
def am_nl (L : am_L) (i : Nat) : Prop := ∀ (j : Nat) (v : Value), j + 1 = i → L[j]? = some (some v) → v.category ≠ 2
theorem am_Lv.store1 {B nL : Nat} {ls' : Array Slot} {L : am_L} {i : Nat} {v : Value} (hn : am_nl L i) (h : lv_has ls' nL ((i, am_v B v) :: (am_ll B L).filter (fun q => !(q.1 == i) && !(q.1 + 1 == i && q.2.category == 2)))) : am_Lv B ls' nL (L.set i (some v)) := by
  refine ⟨h.1, h.2.1, fun j w hj => ?_⟩
  by_cases hji : j = i
  · subst hji
    have hl : j < L.length := by have := (List.getElem?_eq_some_iff.mp hj).1; simpa using this
    rw [List.getElem?_set_self hl] at hj
    cases hj
    exact h.2.2 _ List.mem_cons_self
  · rw [List.getElem?_set_ne (fun q => hji q.symm)] at hj
    refine h.2.2 (j, am_v B w) (List.mem_cons_of_mem _ (List.mem_filter.mpr ⟨am_ll_mem hj, ?_⟩))
    by_cases h1 : j + 1 = i
    · have h2 := hn j w h1 hj
      rw [← am_v_cat B] at h2
      simp [hji, h2]
    · simp [hji, h1]
theorem am_Lv.store2 {B nL : Nat} {ls' : Array Slot} {L : am_L} {i : Nat} {v : Value} (hn : am_nl L i) (h : lv_has ls' nL ((i, am_v B v) :: (am_ll B L).filter (fun q => !(q.1 == i) && (!(q.1 == i + 1) && !(q.1 + 1 == i && q.2.category == 2))))) : am_Lv B ls' nL ((L.set i (some v)).set (i + 1) none) := by
  refine ⟨h.1, h.2.1, fun j w hj => ?_⟩
  by_cases hj1 : j = i + 1
  · subst hj1
    have hl : i + 1 < (L.set i (some v)).length := by have := (List.getElem?_eq_some_iff.mp hj).1; simpa using this
    rw [List.getElem?_set_self hl] at hj
    cases hj
  · rw [List.getElem?_set_ne (fun q => hj1 q.symm)] at hj
    by_cases hji : j = i
    · subst hji
      have hl : j < L.length := by have := (List.getElem?_eq_some_iff.mp hj).1; simpa using this
      rw [List.getElem?_set_self hl] at hj
      cases hj
      exact h.2.2 _ List.mem_cons_self
    · rw [List.getElem?_set_ne (fun q => hji q.symm)] at hj
      refine h.2.2 (j, am_v B w) (List.mem_cons_of_mem _ (List.mem_filter.mpr ⟨am_ll_mem hj, ?_⟩))
      by_cases h1 : j + 1 = i
      · have h2 := hn j w h1 hj
        rw [← am_v_cat B] at h2
        simp [hji, hj1, h2]
      · simp [hji, h1, hj1]
theorem am_Lv.forget {B nL : Nat} {ls : Array Slot} {L L' : am_L} (h : am_Lv B ls nL L) (hL : ∀ (i : Nat) (v : Value), L'[i]? = some (some v) → L[i]? = some (some v)) : am_Lv B ls nL L' := ⟨h.1, h.2.1, fun i v hi => h.2.2 i v (hL i v hi)⟩
/-! ===== a method, and what is known in its frame ===== -/
/-- name, code, locals, result, frames below, locals' words below -/
abbrev am_MI : Type := MethodName × ByteArray × Nat × Option FieldType × Nat × Nat
def am_C (M : am_MI) (p : Program) (s : State) (m : MethodId) (args : Array Value) (meth : Method) (c : Code) : Prop :=
  p.tables.exec = Jvm.exec ∧ c.code = M.2.1 ∧ c.maxLocals = M.2.2.1 ∧ s.vm.findClass M.1.cls = some m.cls ∧ (∀ w ∈ am_tbl, w.before args s = true) ∧ meth.locks = false ∧ meth.sig.returnType = M.2.2.2.1 ∧ meth.name = M.1.name
def am_Q (B : Nat) (D : va_G) (dA : Nat → ClassId) (r : am_R) : Array Value → State → Outcome → State → Prop := fun _ st o t => o = .returned (r.1.map (am_v B)) ∧ am_Wd B D dA r.2 t.heap ∧ va_F (fun q => B ≤ q) st t
/-- a frame's whole surroundings -/
def am_X (M : am_MI) (L : am_L) (h : am_H) (r : am_R) (p : Program) (R : Room) (s : State) (m : MethodId) (args : Array Value) (meth : Method) (c : Code) (B N0 S0 : Nat) (D : va_G) (dA : Nat → ClassId) (H : Heap) (locs : List Loc) (ls : Array Slot) : Prop :=
  am_C M p s m args meth c ∧ (R.frames = M.2.2.2.2.1 ∧ R.locals = M.2.2.2.2.2 ∧ R.cells = r.2.1 - N0 ∧ R.slots = r.2.2.1 - S0) ∧ (N0 ≤ h.1 ∧ S0 ≤ h.2.1 ∧ B ≤ s.heap.size) ∧ am_Kn B D dA s ∧ am_Wd B D dA h H ∧ va_S (fun q => B ≤ q) s.heap H locs ∧ am_Lv B ls M.2.2.1 L
def am_Good (M : am_MI) (pc : Nat) (L : am_L) (st : List Value) (h : am_H) (r : am_R) : Prop :=
  (h.1 ≤ r.2.1 ∧ h.2.1 ≤ r.2.2.1) ∧
  ∀ (p : Program) (l : Launch) (e : Env) (R : Room) (s : State) (m : MethodId) (args : Array Value) (below : List Frame) (meth : Method) (c : Code) (B N0 S0 : Nat) (D : va_G) (dA : Nat → ClassId) (H : Heap) (locs : List Loc) (ls : Array Slot),
    am_X M L h r p R s m args meth c B N0 S0 D dA H locs ls →
    W p l e R s m args below meth c H locs (h.1 - N0) (h.2.1 - S0) (MQ below (am_Q B D dA r) args s (r.2.1 - N0) (r.2.2.1 - S0) (fun q => B ≤ q)) (F0 m pc ls (st.map (am_v B)))
/-- the contract of a method at these arguments and this heap -/
def am_EG (M : am_MI) (as : List Value) (h : am_H) (r : am_R) : Prop :=
  (h.1 ≤ r.2.1 ∧ h.2.1 ≤ r.2.2.1) ∧ ∀ (l : Launch) (B : Nat) (D : va_G) (dA : Nat → ClassId), Met l M.1 (Cond.code M.1 M.2.1 M.2.2.1 M.2.2.2.1 :: am_tbl) { frames := M.2.2.2.2.1, cells := r.2.1 - h.1, slots := r.2.2.1 - h.2.1, locals := M.2.2.2.2.2 } (va_Pc (as.map (am_v B)) (fun U => B ≤ U.heap.size ∧ am_Wd B D dA h U.heap ∧ am_Kn B D dA U)) (am_Q B D dA r) (r.2.1 - h.1) (r.2.2.1 - h.2.1) (fun q => B ≤ q)
/-- one step that changes locals and stack alone -/
theorem am_Good.go {M : am_MI} {pc pc' : Nat} {L L' : am_L} {st st' : List Value} {h : am_H} {r : am_R} (hg : am_Good M pc' L' st' h r)
    (hs : ∀ (p : Program) (l : Launch) (e : Env) (R : Room) (s : State) (m : MethodId) (args : Array Value) (below : List Frame) (meth : Method) (c : Code) (B N0 S0 : Nat) (D : va_G) (dA : Nat → ClassId) (H : Heap) (locs : List Loc) (ls : Array Slot) (Q : State → Prop),
      am_X M L h r p R s m args meth c B N0 S0 D dA H locs ls → (∀ ls' : Array Slot, am_Lv B ls' M.2.2.1 L' → W p l e R s m args below meth c H locs (h.1 - N0) (h.2.1 - S0) Q (F0 m pc' ls' (st'.map (am_v B)))) → W p l e R s m args below meth c H locs (h.1 - N0) (h.2.1 - S0) Q (F0 m pc ls (st.map (am_v B)))) : am_Good M pc L st h r := by
  refine ⟨hg.1, fun p l e R s m args below meth c B N0 S0 D dA H locs ls X => ?_⟩
  refine hs p l e R s m args below meth c B N0 S0 D dA H locs ls _ X fun ls' hL => ?_
  obtain ⟨x1, x2, x3, x4, x5, x6, x7⟩ := X
  exact hg.2 p l e R s m args below meth c B N0 S0 D dA H locs ls' ⟨x1, x2, x3, x4, x5, x6, hL⟩
/-- one step that changes a cell -/
theorem am_Good.put {M : am_MI} {pc pc' : Nat} {L : am_L} {st st' : List Value} {h : am_H} {r : am_R} {a : Nat} {x : am_E} (hg : am_Good M pc' L st' (am_upd h a x) r)
    (hs : ∀ (p : Program) (l : Launch) (e : Env) (R : Room) (s : State) (m : MethodId) (args : Array Value) (below : List Frame) (meth : Method) (c : Code) (B N0 S0 : Nat) (D : va_G) (dA : Nat → ClassId) (H : Heap) (locs : List Loc) (ls : Array Slot) (Q : State → Prop),
      am_X M L h r p R s m args meth c B N0 S0 D dA H locs ls → (∀ (H1 : Heap) (locs1 : List Loc), am_Wd B D dA (am_upd h a x) H1 → va_S (fun q => B ≤ q) s.heap H1 locs1 → W p l e R s m args below meth c H1 locs1 (h.1 - N0) (h.2.1 - S0) Q (F0 m pc' ls (st'.map (am_v B)))) → W p l e R s m args below meth c H locs (h.1 - N0) (h.2.1 - S0) Q (F0 m pc ls (st.map (am_v B)))) : am_Good M pc L st h r := by
  refine ⟨hg.1, fun p l e R s m args below meth c B N0 S0 D dA H locs ls X => ?_⟩
  refine hs p l e R s m args below meth c B N0 S0 D dA H locs ls _ X fun H1 locs1 hw hS => ?_
  obtain ⟨x1, x2, x3, x4, x5, x6, x7⟩ := X
  exact hg.2 p l e R s m args below meth c B N0 S0 D dA H1 locs1 ls ⟨x1, x2, x3, x4, hw, hS, x7⟩
/-- one step that makes a cell -/
theorem am_Good.make {M : am_MI} {pc pc' : Nat} {L : am_L} {st st' : List Value} {h h' : am_H} {r : am_R} {n : Nat} {x : am_E} (hn : am_New h h' n x) (hg : am_Good M pc' L st' h' r)
    (hs : ∀ (p : Program) (l : Launch) (e : Env) (R : Room) (s : State) (m : MethodId) (args : Array Value) (below : List Frame) (meth : Method) (c : Code) (B N0 S0 : Nat) (D : va_G) (dA : Nat → ClassId) (H : Heap) (locs : List Loc) (ls : Array Slot) (Q : State → Prop),
      am_X M L h r p R s m args meth c B N0 S0 D dA H locs ls → (h.1 - N0) + 1 ≤ R.cells → (h.2.1 - S0) + n ≤ R.slots → (∀ (H1 : Heap), va_at D am_cls (B + h.1, am_e B dA x) H1 → H1.size = H.size + 1 → (∀ q : Nat, q < H.size → H1[q]? = H[q]?) → W p l e R s m args below meth c H1 locs ((h.1 - N0) + 1) ((h.2.1 - S0) + n) Q (F0 m pc' ls (st'.map (am_v B)))) → W p l e R s m args below meth c H locs (h.1 - N0) (h.2.1 - S0) Q (F0 m pc ls (st.map (am_v B)))) : am_Good M pc L st h r := by
  have e1 := hn.1
  have e2 := hn.2.1
  have g1 := hg.1.1
  have g2 := hg.1.2
  refine ⟨⟨by omega, by omega⟩, fun p l e R s m args below meth c B N0 S0 D dA H locs ls X => ?_⟩
  obtain ⟨x1, x2, x3, x4, x5, x6, x7⟩ := X
  have c1 := x2.2.2.1
  have c2 := x2.2.2.2
  have d1 := x3.1
  have d2 := x3.2.1
  refine hs p l e R s m args below meth c B N0 S0 D dA H locs ls _ ⟨x1, x2, x3, x4, x5, x6, x7⟩ (by omega) (by omega) fun H1 hw hz hq => ?_
  have hS : va_S (fun q => B ≤ q) s.heap H1 locs := ⟨Nat.le_trans x6.1 (by omega), fun q h1 h2 => (hq q (Nat.lt_of_lt_of_le h1 x6.1)).trans (x6.2.1 q h1 h2), x6.2.2⟩
  have hk := hg.2 p l e R s m args below meth c B N0 S0 D dA H1 locs ls ⟨x1, x2, ⟨by omega, by omega, x3.2.2⟩, x4, x5.new hn hw hz hq, hS, x7⟩
  rw [show h'.1 - N0 = h.1 - N0 + 1 by omega, show h'.2.1 - S0 = h.2.1 - S0 + n by omega] at hk
  exact hk
/-- into a method -/
theorem am_args1 (B : Nat) : ∀ (as : List Value) (i : Nat), (∀ v ∈ as, v.category = 1) → ∀ (j : Nat) (v : Value), as[j]? = some v → (i + j, am_v B v) ∈ lv_args i (as.map (am_v B))
  | [], i, _, j, v, h => by cases h
  | a :: as, i, hc, 0, v, h => by
    cases h
    exact List.mem_cons_self
  | a :: as, i, hc, j + 1, v, h => by
    have h1 : (am_v B a).category = 1 := by rw [am_v_cat]; exact hc a List.mem_cons_self
    have h2 := am_args1 B as (i + 1) (fun v hv => hc v (List.mem_cons_of_mem _ hv)) j v h
    refine List.mem_cons_of_mem _ ?_
    rw [if_neg (by rw [h1]; decide)]
    rw [show i + (j + 1) = i + 1 + j by omega]
    exact h2
theorem am_sl1 : ∀ (as : List Value), (∀ v ∈ as, v.category = 1) → (lg_sl as).length = as.length
  | [], _ => rfl
  | a :: as, h => by
    have h1 := h a List.mem_cons_self
    have h2 := am_sl1 as (fun v hv => h v (List.mem_cons_of_mem _ hv))
    unfold lg_sl at h2 ⊢
    rw [List.flatMap_cons, if_neg (by rw [h1]; decide), List.length_append, h2]
    simp
    omega
theorem am_enter {M : am_MI} {as : List Value} {n : Nat} {h : am_H} {r : am_R} (hy : plainName M.1.cls = true) (hc : ∀ v ∈ as, v.category = 1) (hl : as.length ≤ M.2.2.1) (hg : am_Good M 0 (as.map some ++ List.replicate n none) [] h r) : am_EG M as h r := by
  refine ⟨hg.1, fun l B D dA => ?_⟩
  refine Met.ofW (cc := M.2.1) (maxL := M.2.2.1) (ret := M.2.2.2.1) hy rfl ?_
  intro p e s m args below meth c s₁ BL hml hv
  obtain ⟨rfl, hB, hw, hK⟩ := hv
  have hc2 : ∀ v ∈ as.map (am_v B), v.category = 1 := fun v hv => by
    obtain ⟨u, hu, rfl⟩ := List.mem_map.mp hv
    rw [am_v_cat]
    exact hc u hu
  have hsl := am_sl1 _ hc2
  have hts := atoms_spec (ws := Cond.code M.1 M.2.1 M.2.2.1 M.2.2.2.1 :: am_tbl) BL.pre
  have hE := lv_entry (as.map (am_v B)) (n := M.2.2.1) (by rw [hsl, List.length_map]; exact hl)
  rw [lg_entry_eq]
  generalize (lg_sl (as.map (am_v B)) ++ List.replicate (M.2.2.1 - (lg_sl (as.map (am_v B))).length) Slot.unset).toArray = ls at hE ⊢
  have hLv : am_Lv B ls M.2.2.1 (as.map some ++ List.replicate n none) := by
    refine ⟨hE.1, hE.2.1, fun i v hi => ?_⟩
    by_cases hil : i < (as.map some).length
    · rw [List.getElem?_append_left hil, List.getElem?_map] at hi
      cases ha : as[i]? with
      | none => rw [ha] at hi; cases hi
      | some u =>
        rw [ha] at hi
        cases hi
        have h1 := hE.2.2 _ (am_args1 B as 0 hc i v ha)
        simpa using h1
    · rw [List.getElem?_append_right (by omega)] at hi
      have := List.eq_of_mem_replicate (List.mem_of_getElem? hi)
      cases this
  have hk := hg.2 p l e (headSpec (Cond.code M.1 M.2.1 M.2.2.1 M.2.2.2.1 :: am_tbl) { frames := M.2.2.2.2.1, cells := r.2.1 - h.1, slots := r.2.2.1 - h.2.1, locals := M.2.2.2.2.2 }).room s m (as.map (am_v B)).toArray below meth c B h.1 h.2.1 D dA s.heap [] ls ⟨⟨BL.exec, BL.bytes, hml, findClass_of_methodNamed BL.named, fun w hw => hts w (List.mem_cons_of_mem _ hw), BL.notSynchronized, BL.returns, (name_of_methodNamed BL.named BL.method).1⟩, ⟨rfl, rfl, rfl, rfl⟩, ⟨Nat.le_refl _, Nat.le_refl _, hB⟩, hK, hw, va_S.rf, hLv⟩
  rw [Nat.sub_self, Nat.sub_self] at hk
  exact hk
end
section
/-! ===== rules: an instruction, a step of the abstract state ===== -/
theorem g_iload {M : am_MI} {pc : Nat} {L : am_L} {st : List Value} {h : am_H} {r : am_R} {i : Nat} {n : Nat} (hd : decode M.2.1 pc = .ok (.iload i, 2)) (hl : L[i]? = some (some (.retAddr n))) (hg : am_Good M (pc + 2) L (.retAddr n :: st) h r) : am_Good M pc L st h r := by
  refine hg.go fun p l e R s m args below meth c B N0 S0 D dA H locs ls Q X k => ?_
  obtain ⟨⟨hx, hb, hml, hown, hts, hlk, hr, hnm⟩, ⟨xf, xl, xc, xs⟩, ⟨xn, xt, xB⟩, hK, hw, hS, hL⟩ := X
  exact lv_iload hx hb hd (hL.2.2 _ _ hl) (k ls hL)
theorem g_iload_n {M : am_MI} {pc : Nat} {L : am_L} {st : List Value} {h : am_H} {r : am_R} {i : Fin 4} {n : Nat} (hd : decode M.2.1 pc = .ok (.iload_n i, 1)) (hl : L[(i : Nat)]? = some (some (.retAddr n))) (hg : am_Good M (pc + 1) L (.retAddr n :: st) h r) : am_Good M pc L st h r := by
  refine hg.go fun p l e R s m args below meth c B N0 S0 D dA H locs ls Q X k => ?_
  obtain ⟨⟨hx, hb, hml, hown, hts, hlk, hr, hnm⟩, ⟨xf, xl, xc, xs⟩, ⟨xn, xt, xB⟩, hK, hw, hS, hL⟩ := X
  exact lv_iload_n hx hb hd rfl (hL.2.2 _ _ hl) (k ls hL)
theorem g_aload {M : am_MI} {pc : Nat} {L : am_L} {st : List Value} {h : am_H} {r : am_R} {i : Nat} {n : Nat} (hd : decode M.2.1 pc = .ok (.aload i, 2)) (hl : L[i]? = some (some (.ref n))) (hg : am_Good M (pc + 2) L (.ref n :: st) h r) : am_Good M pc L st h r := by
  refine hg.go fun p l e R s m args below meth c B N0 S0 D dA H locs ls Q X k => ?_
  obtain ⟨⟨hx, hb, hml, hown, hts, hlk, hr, hnm⟩, ⟨xf, xl, xc, xs⟩, ⟨xn, xt, xB⟩, hK, hw, hS, hL⟩ := X
  exact lv_aload hx hb hd (hL.2.2 _ _ hl) (k ls hL)
theorem g_aload_n {M : am_MI} {pc : Nat} {L : am_L} {st : List Value} {h : am_H} {r : am_R} {i : Fin 4} {n : Nat} (hd : decode M.2.1 pc = .ok (.aload_n i, 1)) (hl : L[(i : Nat)]? = some (some (.ref n))) (hg : am_Good M (pc + 1) L (.ref n :: st) h r) : am_Good M pc L st h r := by
  refine hg.go fun p l e R s m args below meth c B N0 S0 D dA H locs ls Q X k => ?_
  obtain ⟨⟨hx, hb, hml, hown, hts, hlk, hr, hnm⟩, ⟨xf, xl, xc, xs⟩, ⟨xn, xt, xB⟩, hK, hw, hS, hL⟩ := X
  exact lv_aload_n hx hb hd rfl (hL.2.2 _ _ hl) (k ls hL)
theorem g_lload {M : am_MI} {pc : Nat} {L : am_L} {st : List Value} {h : am_H} {r : am_R} {i : Nat} {n : Int64} (hd : decode M.2.1 pc = .ok (.lload i, 2)) (hl : L[i]? = some (some (.long n))) (hg : am_Good M (pc + 2) L (.long n :: st) h r) : am_Good M pc L st h r := by
  refine hg.go fun p l e R s m args below meth c B N0 S0 D dA H locs ls Q X k => ?_
  obtain ⟨⟨hx, hb, hml, hown, hts, hlk, hr, hnm⟩, ⟨xf, xl, xc, xs⟩, ⟨xn, xt, xB⟩, hK, hw, hS, hL⟩ := X
  exact lv_lload hx hb hd (hL.2.2 _ _ hl) (k ls hL)
theorem g_lload_n {M : am_MI} {pc : Nat} {L : am_L} {st : List Value} {h : am_H} {r : am_R} {i : Fin 4} {n : Int64} (hd : decode M.2.1 pc = .ok (.lload_n i, 1)) (hl : L[(i : Nat)]? = some (some (.long n))) (hg : am_Good M (pc + 1) L (.long n :: st) h r) : am_Good M pc L st h r := by
  refine hg.go fun p l e R s m args below meth c B N0 S0 D dA H locs ls Q X k => ?_
  obtain ⟨⟨hx, hb, hml, hown, hts, hlk, hr, hnm⟩, ⟨xf, xl, xc, xs⟩, ⟨xn, xt, xB⟩, hK, hw, hS, hL⟩ := X
  exact lv_lload_n hx hb hd rfl (hL.2.2 _ _ hl) (k ls hL)
theorem g_istore {M : am_MI} {pc : Nat} {L : am_L} {st : List Value} {h : am_H} {r : am_R} {i : Nat} {n : Nat} (hd : decode M.2.1 pc = .ok (.istore i, 2)) (hl : am_nl L i) (hn : i < M.2.2.1) (hg : am_Good M (pc + 2) (L.set i (some (.retAddr n))) st h r) : am_Good M pc L (.retAddr n :: st) h r := by
  refine hg.go fun p l e R s m args below meth c B N0 S0 D dA H locs ls Q X k => ?_
  obtain ⟨⟨hx, hb, hml, hown, hts, hlk, hr, hnm⟩, ⟨xf, xl, xc, xs⟩, ⟨xn, xt, xB⟩, hK, hw, hS, hL⟩ := X
  exact lv_istore hx hb hd hL.has hn rfl (fun ls1 h1 => k ls1 (am_Lv.store1 hl h1))
theorem g_istore_n {M : am_MI} {pc : Nat} {L : am_L} {st : List Value} {h : am_H} {r : am_R} {i : Fin 4} {n : Nat} (hd : decode M.2.1 pc = .ok (.istore_n i, 1)) (hl : am_nl L (i : Nat)) (hn : (i : Nat) < M.2.2.1) (hg : am_Good M (pc + 1) (L.set (i : Nat) (some (.retAddr n))) st h r) : am_Good M pc L (.retAddr n :: st) h r := by
  refine hg.go fun p l e R s m args below meth c B N0 S0 D dA H locs ls Q X k => ?_
  obtain ⟨⟨hx, hb, hml, hown, hts, hlk, hr, hnm⟩, ⟨xf, xl, xc, xs⟩, ⟨xn, xt, xB⟩, hK, hw, hS, hL⟩ := X
  exact lv_istore_n hx hb hd rfl hL.has hn rfl (fun ls1 h1 => k ls1 (am_Lv.store1 hl h1))
theorem g_astore {M : am_MI} {pc : Nat} {L : am_L} {st : List Value} {h : am_H} {r : am_R} {i : Nat} {n : Nat} (hd : decode M.2.1 pc = .ok (.astore i, 2)) (hl : am_nl L i) (hn : i < M.2.2.1) (hg : am_Good M (pc + 2) (L.set i (some (.ref n))) st h r) : am_Good M pc L (.ref n :: st) h r := by
  refine hg.go fun p l e R s m args below meth c B N0 S0 D dA H locs ls Q X k => ?_
  obtain ⟨⟨hx, hb, hml, hown, hts, hlk, hr, hnm⟩, ⟨xf, xl, xc, xs⟩, ⟨xn, xt, xB⟩, hK, hw, hS, hL⟩ := X
  exact lv_astore hx hb hd hL.has hn rfl (fun ls1 h1 => k ls1 (am_Lv.store1 hl h1))
theorem g_astore_n {M : am_MI} {pc : Nat} {L : am_L} {st : List Value} {h : am_H} {r : am_R} {i : Fin 4} {n : Nat} (hd : decode M.2.1 pc = .ok (.astore_n i, 1)) (hl : am_nl L (i : Nat)) (hn : (i : Nat) < M.2.2.1) (hg : am_Good M (pc + 1) (L.set (i : Nat) (some (.ref n))) st h r) : am_Good M pc L (.ref n :: st) h r := by
  refine hg.go fun p l e R s m args below meth c B N0 S0 D dA H locs ls Q X k => ?_
  obtain ⟨⟨hx, hb, hml, hown, hts, hlk, hr, hnm⟩, ⟨xf, xl, xc, xs⟩, ⟨xn, xt, xB⟩, hK, hw, hS, hL⟩ := X
  exact lv_astore_n hx hb hd rfl hL.has hn rfl (fun ls1 h1 => k ls1 (am_Lv.store1 hl h1))
theorem g_lstore {M : am_MI} {pc : Nat} {L : am_L} {st : List Value} {h : am_H} {r : am_R} {i : Nat} {n : Int64} (hd : decode M.2.1 pc = .ok (.lstore i, 2)) (hl : am_nl L i) (hn : i + 1 < M.2.2.1) (hg : am_Good M (pc + 2) ((L.set i (some (.long n))).set (i + 1) none) st h r) : am_Good M pc L (.long n :: st) h r := by
  refine hg.go fun p l e R s m args below meth c B N0 S0 D dA H locs ls Q X k => ?_
  obtain ⟨⟨hx, hb, hml, hown, hts, hlk, hr, hnm⟩, ⟨xf, xl, xc, xs⟩, ⟨xn, xt, xB⟩, hK, hw, hS, hL⟩ := X
  exact lv_lstore hx hb hd hL.has hn rfl (fun ls1 h1 => k ls1 (am_Lv.store2 hl h1))
theorem g_lstore_n {M : am_MI} {pc : Nat} {L : am_L} {st : List Value} {h : am_H} {r : am_R} {i : Fin 4} {n : Int64} (hd : decode M.2.1 pc = .ok (.lstore_n i, 1)) (hl : am_nl L (i : Nat)) (hn : (i : Nat) + 1 < M.2.2.1) (hg : am_Good M (pc + 1) ((L.set (i : Nat) (some (.long n))).set ((i : Nat) + 1) none) st h r) : am_Good M pc L (.long n :: st) h r := by
  refine hg.go fun p l e R s m args below meth c B N0 S0 D dA H locs ls Q X k => ?_
  obtain ⟨⟨hx, hb, hml, hown, hts, hlk, hr, hnm⟩, ⟨xf, xl, xc, xs⟩, ⟨xn, xt, xB⟩, hK, hw, hS, hL⟩ := X
  exact lv_lstore_n hx hb hd rfl hL.has hn rfl (fun ls1 h1 => k ls1 (am_Lv.store2 hl h1))
theorem am_ll_at {B : Nat} {L : am_L} {i : Nat} {v : Value} (h : L[i]? = some (some v)) : ∃ k : Nat, (am_ll B L)[k]? = some (i, am_v B v) := List.getElem?_of_mem (am_ll_mem h)
theorem g_iinc {M : am_MI} {pc : Nat} {L : am_L} {st : List Value} {h : am_H} {r : am_R} {i n v : Nat} {d : Int} (hd : decode M.2.1 pc = .ok (.iinc i d, 3)) (hi : L[i]? = some (some (.retAddr n))) (hv : Int32.ofInt d = Int32.ofNat v) (hl : am_nl L i) (hn : i < M.2.2.1) (hg : am_Good M (pc + 3) (L.set i (some (.retAddr ((n + v) % 4294967296)))) st h r) : am_Good M pc L st h r := by
  refine hg.go fun p l e R s m args below meth c B N0 S0 D dA H locs ls Q X k => ?_
  obtain ⟨⟨hx, hb, hml, hown, hts, hlk, hr, hnm⟩, ⟨xf, xl, xc, xs⟩, ⟨xn, xt, xB⟩, hK, hw, hS, hL⟩ := X
  obtain ⟨q, hq⟩ := am_ll_at (B := B) hi
  exact lv_iinc hx hb hd hL.has hq (by rw [an_add, hv]) hn rfl (fun ls1 h1 => k ls1 (am_Lv.store1 hl h1))
theorem g_iconst {M : am_MI} {pc : Nat} {L : am_L} {st : List Value} {h : am_H} {r : am_R} {d : Int} {v : Nat} (hd : decode M.2.1 pc = .ok (.iconst d, 1)) (hv : Int32.ofInt d = Int32.ofNat v) (hg : am_Good M (pc + 1) L (.retAddr v :: st) h r) : am_Good M pc L st h r := by
  refine hg.go fun p l e R s m args below meth c B N0 S0 D dA H locs ls Q X k => ?_
  obtain ⟨⟨hx, hb, hml, hown, hts, hlk, hr, hnm⟩, ⟨xf, xl, xc, xs⟩, ⟨xn, xt, xB⟩, hK, hw, hS, hL⟩ := X
  exact lv_iconst hx hb hd hv (k ls hL)
theorem g_bipush {M : am_MI} {pc : Nat} {L : am_L} {st : List Value} {h : am_H} {r : am_R} {d : Int} {v : Nat} (hd : decode M.2.1 pc = .ok (.bipush d, 2)) (hv : (Int8.ofInt d).toInt32 = Int32.ofNat v) (hg : am_Good M (pc + 2) L (.retAddr v :: st) h r) : am_Good M pc L st h r := by
  refine hg.go fun p l e R s m args below meth c B N0 S0 D dA H locs ls Q X k => ?_
  obtain ⟨⟨hx, hb, hml, hown, hts, hlk, hr, hnm⟩, ⟨xf, xl, xc, xs⟩, ⟨xn, xt, xB⟩, hK, hw, hS, hL⟩ := X
  exact lv_bipush hx hb hd hv (k ls hL)
theorem g_sipush {M : am_MI} {pc : Nat} {L : am_L} {st : List Value} {h : am_H} {r : am_R} {d : Int} {v : Nat} (hd : decode M.2.1 pc = .ok (.sipush d, 3)) (hv : (Int16.ofInt d).toInt32 = Int32.ofNat v) (hg : am_Good M (pc + 3) L (.retAddr v :: st) h r) : am_Good M pc L st h r := by
  refine hg.go fun p l e R s m args below meth c B N0 S0 D dA H locs ls Q X k => ?_
  obtain ⟨⟨hx, hb, hml, hown, hts, hlk, hr, hnm⟩, ⟨xf, xl, xc, xs⟩, ⟨xn, xt, xB⟩, hK, hw, hS, hL⟩ := X
  exact lv_sipush hx hb hd hv (k ls hL)
theorem g_lconst {M : am_MI} {pc : Nat} {L : am_L} {st : List Value} {h : am_H} {r : am_R} {d : Fin 2} (hd : decode M.2.1 pc = .ok (.lconst d, 1)) (hg : am_Good M (pc + 1) L (.long (Int64.ofNat (d : Nat)) :: st) h r) : am_Good M pc L st h r := by
  refine hg.go fun p l e R s m args below meth c B N0 S0 D dA H locs ls Q X k => ?_
  obtain ⟨⟨hx, hb, hml, hown, hts, hlk, hr, hnm⟩, ⟨xf, xl, xc, xs⟩, ⟨xn, xt, xB⟩, hK, hw, hS, hL⟩ := X
  exact lv_lconst hx hb hd rfl (k ls hL)
theorem g_ldc {M : am_MI} {pc : Nat} {L : am_L} {st : List Value} {h : am_H} {r : am_R} {i v : Nat} (hd : decode M.2.1 pc = .ok (.ldc i, 2)) (hv : Cond.constant M.1.cls i (Int32.ofNat v) ∈ am_tbl) (hg : am_Good M (pc + 2) L (.retAddr v :: st) h r) : am_Good M pc L st h r := by
  refine hg.go fun p l e R s m args below meth c B N0 S0 D dA H locs ls Q X k => ?_
  obtain ⟨⟨hx, hb, hml, hown, hts, hlk, hr, hnm⟩, ⟨xf, xl, xc, xs⟩, ⟨xn, xt, xB⟩, hK, hw, hS, hL⟩ := X
  exact lv_ldc hx hb hown (hts _ hv) hd (k ls hL)
theorem g_ldcw {M : am_MI} {pc : Nat} {L : am_L} {st : List Value} {h : am_H} {r : am_R} {i v : Nat} (hd : decode M.2.1 pc = .ok (.ldc_w i, 3)) (hv : Cond.constant M.1.cls i (Int32.ofNat v) ∈ am_tbl) (hg : am_Good M (pc + 3) L (.retAddr v :: st) h r) : am_Good M pc L st h r := by
  refine hg.go fun p l e R s m args below meth c B N0 S0 D dA H locs ls Q X k => ?_
  obtain ⟨⟨hx, hb, hml, hown, hts, hlk, hr, hnm⟩, ⟨xf, xl, xc, xs⟩, ⟨xn, xt, xB⟩, hK, hw, hS, hL⟩ := X
  exact lv_ldcw hx hb hown (hts _ hv) hd (k ls hL)
theorem g_ldc2 {M : am_MI} {pc : Nat} {L : am_L} {st : List Value} {h : am_H} {r : am_R} {i : Nat} {v : Int64} (hd : decode M.2.1 pc = .ok (.ldc2_w i, 3)) (hv : Cond.constantLong M.1.cls i v ∈ am_tbl) (hg : am_Good M (pc + 3) L (.long v :: st) h r) : am_Good M pc L st h r := by
  refine hg.go fun p l e R s m args below meth c B N0 S0 D dA H locs ls Q X k => ?_
  obtain ⟨⟨hx, hb, hml, hown, hts, hlk, hr, hnm⟩, ⟨xf, xl, xc, xs⟩, ⟨xn, xt, xB⟩, hK, hw, hS, hL⟩ := X
  exact lv_ldc2 hx hb hown (hts _ hv) hd (k ls hL)
theorem g_iadd {M : am_MI} {pc : Nat} {L : am_L} {st : List Value} {h : am_H} {r : am_R} {a b : Nat} (hd : decode M.2.1 pc = .ok (.iadd, 1)) (hg : am_Good M (pc + 1) L (.retAddr ((a + b) % 4294967296) :: st) h r) : am_Good M pc L (.retAddr b :: .retAddr a :: st) h r := by
  refine hg.go fun p l e R s m args below meth c B N0 S0 D dA H locs ls Q X k => ?_
  obtain ⟨⟨hx, hb, hml, hown, hts, hlk, hr, hnm⟩, ⟨xf, xl, xc, xs⟩, ⟨xn, xt, xB⟩, hK, hw, hS, hL⟩ := X
  exact lv_iadd hx hb hd (W.eq (by simp only [List.map_cons, am_v]; rw [an_add]) (k ls hL))
theorem g_isub {M : am_MI} {pc : Nat} {L : am_L} {st : List Value} {h : am_H} {r : am_R} {a b : Nat} (hd : decode M.2.1 pc = .ok (.isub, 1)) (hg : am_Good M (pc + 1) L (.retAddr ((a + (4294967296 - b % 4294967296)) % 4294967296) :: st) h r) : am_Good M pc L (.retAddr b :: .retAddr a :: st) h r := by
  refine hg.go fun p l e R s m args below meth c B N0 S0 D dA H locs ls Q X k => ?_
  obtain ⟨⟨hx, hb, hml, hown, hts, hlk, hr, hnm⟩, ⟨xf, xl, xc, xs⟩, ⟨xn, xt, xB⟩, hK, hw, hS, hL⟩ := X
  exact lv_isub hx hb hd (W.eq (by simp only [List.map_cons, am_v]; rw [an_sub]) (k ls hL))
theorem g_imul {M : am_MI} {pc : Nat} {L : am_L} {st : List Value} {h : am_H} {r : am_R} {a b : Nat} (hd : decode M.2.1 pc = .ok (.imul, 1)) (hg : am_Good M (pc + 1) L (.retAddr ((a * b) % 4294967296) :: st) h r) : am_Good M pc L (.retAddr b :: .retAddr a :: st) h r := by
  refine hg.go fun p l e R s m args below meth c B N0 S0 D dA H locs ls Q X k => ?_
  obtain ⟨⟨hx, hb, hml, hown, hts, hlk, hr, hnm⟩, ⟨xf, xl, xc, xs⟩, ⟨xn, xt, xB⟩, hK, hw, hS, hL⟩ := X
  exact lv_imul hx hb hd (W.eq (by simp only [List.map_cons, am_v]; rw [an_mul]) (k ls hL))
theorem g_iand {M : am_MI} {pc : Nat} {L : am_L} {st : List Value} {h : am_H} {r : am_R} {a b : Nat} (hd : decode M.2.1 pc = .ok (.iand, 1)) (hg : am_Good M (pc + 1) L (.retAddr (a &&& b) :: st) h r) : am_Good M pc L (.retAddr b :: .retAddr a :: st) h r := by
  refine hg.go fun p l e R s m args below meth c B N0 S0 D dA H locs ls Q X k => ?_
  obtain ⟨⟨hx, hb, hml, hown, hts, hlk, hr, hnm⟩, ⟨xf, xl, xc, xs⟩, ⟨xn, xt, xB⟩, hK, hw, hS, hL⟩ := X
  exact lv_iand hx hb hd (W.eq (by simp only [List.map_cons, am_v]; rw [an_and]) (k ls hL))
theorem g_ior {M : am_MI} {pc : Nat} {L : am_L} {st : List Value} {h : am_H} {r : am_R} {a b : Nat} (hd : decode M.2.1 pc = .ok (.ior, 1)) (hg : am_Good M (pc + 1) L (.retAddr (a ||| b) :: st) h r) : am_Good M pc L (.retAddr b :: .retAddr a :: st) h r := by
  refine hg.go fun p l e R s m args below meth c B N0 S0 D dA H locs ls Q X k => ?_
  obtain ⟨⟨hx, hb, hml, hown, hts, hlk, hr, hnm⟩, ⟨xf, xl, xc, xs⟩, ⟨xn, xt, xB⟩, hK, hw, hS, hL⟩ := X
  exact lv_ior hx hb hd (W.eq (by simp only [List.map_cons, am_v]; rw [an_or]) (k ls hL))
theorem g_ixor {M : am_MI} {pc : Nat} {L : am_L} {st : List Value} {h : am_H} {r : am_R} {a b : Nat} (hd : decode M.2.1 pc = .ok (.ixor, 1)) (hg : am_Good M (pc + 1) L (.retAddr (a ^^^ b) :: st) h r) : am_Good M pc L (.retAddr b :: .retAddr a :: st) h r := by
  refine hg.go fun p l e R s m args below meth c B N0 S0 D dA H locs ls Q X k => ?_
  obtain ⟨⟨hx, hb, hml, hown, hts, hlk, hr, hnm⟩, ⟨xf, xl, xc, xs⟩, ⟨xn, xt, xB⟩, hK, hw, hS, hL⟩ := X
  exact lv_ixor hx hb hd (W.eq (by simp only [List.map_cons, am_v]; rw [an_xor]) (k ls hL))
theorem g_ishl {M : am_MI} {pc : Nat} {L : am_L} {st : List Value} {h : am_H} {r : am_R} {a b : Nat} (hd : decode M.2.1 pc = .ok (.ishl, 1)) (hg : am_Good M (pc + 1) L (.retAddr ((a <<< (b % 32)) % 4294967296) :: st) h r) : am_Good M pc L (.retAddr b :: .retAddr a :: st) h r := by
  refine hg.go fun p l e R s m args below meth c B N0 S0 D dA H locs ls Q X k => ?_
  obtain ⟨⟨hx, hb, hml, hown, hts, hlk, hr, hnm⟩, ⟨xf, xl, xc, xs⟩, ⟨xn, xt, xB⟩, hK, hw, hS, hL⟩ := X
  exact lv_ishl hx hb hd (W.eq (by simp only [List.map_cons, am_v]; rw [an_shl]) (k ls hL))
theorem g_ishr {M : am_MI} {pc : Nat} {L : am_L} {st : List Value} {h : am_H} {r : am_R} {a b : Nat} (hd : decode M.2.1 pc = .ok (.ishr, 1)) (ha : a < 2147483648) (hg : am_Good M (pc + 1) L (.retAddr (a >>> (b % 32)) :: st) h r) : am_Good M pc L (.retAddr b :: .retAddr a :: st) h r := by
  refine hg.go fun p l e R s m args below meth c B N0 S0 D dA H locs ls Q X k => ?_
  obtain ⟨⟨hx, hb, hml, hown, hts, hlk, hr, hnm⟩, ⟨xf, xl, xc, xs⟩, ⟨xn, xt, xB⟩, hK, hw, hS, hL⟩ := X
  exact lv_ishr hx hb hd (W.eq (by simp only [List.map_cons, am_v]; rw [an_shr b ha]) (k ls hL))
theorem g_idiv {M : am_MI} {pc : Nat} {L : am_L} {st : List Value} {h : am_H} {r : am_R} {a b : Nat} (hd : decode M.2.1 pc = .ok (.idiv, 1)) (ha : a < 2147483648) (hb0 : b < 2147483648) (h0 : 0 < b) (hg : am_Good M (pc + 1) L (.retAddr (a / b) :: st) h r) : am_Good M pc L (.retAddr b :: .retAddr a :: st) h r := by
  refine hg.go fun p l e R s m args below meth c B N0 S0 D dA H locs ls Q X k => ?_
  obtain ⟨⟨hx, hb, hml, hown, hts, hlk, hr, hnm⟩, ⟨xf, xl, xc, xs⟩, ⟨xn, xt, xB⟩, hK, hw, hS, hL⟩ := X
  exact lv_idiv hx hb hd (an_ne0 h0 hb0) (W.eq (by simp only [List.map_cons, am_v]; rw [an_div ha hb0]) (k ls hL))
theorem g_irem {M : am_MI} {pc : Nat} {L : am_L} {st : List Value} {h : am_H} {r : am_R} {a b : Nat} (hd : decode M.2.1 pc = .ok (.irem, 1)) (ha : a < 2147483648) (hb0 : b < 2147483648) (h0 : 0 < b) (hg : am_Good M (pc + 1) L (.retAddr (a % b) :: st) h r) : am_Good M pc L (.retAddr b :: .retAddr a :: st) h r := by
  refine hg.go fun p l e R s m args below meth c B N0 S0 D dA H locs ls Q X k => ?_
  obtain ⟨⟨hx, hb, hml, hown, hts, hlk, hr, hnm⟩, ⟨xf, xl, xc, xs⟩, ⟨xn, xt, xB⟩, hK, hw, hS, hL⟩ := X
  exact lv_irem hx hb hd (an_ne0 h0 hb0) (W.eq (by simp only [List.map_cons, am_v]; rw [an_rem ha hb0]) (k ls hL))
theorem g_iushr {M : am_MI} {pc : Nat} {L : am_L} {st : List Value} {h : am_H} {r : am_R} {a b : Nat} (hd : decode M.2.1 pc = .ok (.iushr, 1)) (hg : am_Good M (pc + 1) L (.retAddr ((a % 4294967296) >>> (b % 32)) :: st) h r) : am_Good M pc L (.retAddr b :: .retAddr a :: st) h r := by
  refine hg.go fun p l e R s m args below meth c B N0 S0 D dA H locs ls Q X k => ?_
  obtain ⟨⟨hx, hb, hml, hown, hts, hlk, hr, hnm⟩, ⟨xf, xl, xc, xs⟩, ⟨xn, xt, xB⟩, hK, hw, hS, hL⟩ := X
  exact lv_iushr hx hb hd (an_ushr a b).symm (k ls hL)
theorem g_i2c {M : am_MI} {pc : Nat} {L : am_L} {st : List Value} {h : am_H} {r : am_R} {a : Nat} (hd : decode M.2.1 pc = .ok (.i2c, 1)) (hg : am_Good M (pc + 1) L (.retAddr (a % 65536) :: st) h r) : am_Good M pc L (.retAddr a :: st) h r := by
  refine hg.go fun p l e R s m args below meth c B N0 S0 D dA H locs ls Q X k => ?_
  obtain ⟨⟨hx, hb, hml, hown, hts, hlk, hr, hnm⟩, ⟨xf, xl, xc, xs⟩, ⟨xn, xt, xB⟩, hK, hw, hS, hL⟩ := X
  exact lv_i2c hx hb hd (an_i2c a) (k ls hL)
theorem g_i2l {M : am_MI} {pc : Nat} {L : am_L} {st : List Value} {h : am_H} {r : am_R} {a : Nat} (hd : decode M.2.1 pc = .ok (.i2l, 1)) (hg : am_Good M (pc + 1) L (.long (Int32.ofNat a).toInt64 :: st) h r) : am_Good M pc L (.retAddr a :: st) h r := by
  refine hg.go fun p l e R s m args below meth c B N0 S0 D dA H locs ls Q X k => ?_
  obtain ⟨⟨hx, hb, hml, hown, hts, hlk, hr, hnm⟩, ⟨xf, xl, xc, xs⟩, ⟨xn, xt, xB⟩, hK, hw, hS, hL⟩ := X
  exact lv_i2l hx hb hd rfl (k ls hL)
theorem g_ladd {M : am_MI} {pc : Nat} {L : am_L} {st : List Value} {h : am_H} {r : am_R} {a b : Int64} (hd : decode M.2.1 pc = .ok (.ladd, 1)) (hg : am_Good M (pc + 1) L (.long (a + b) :: st) h r) : am_Good M pc L (.long b :: .long a :: st) h r := by
  refine hg.go fun p l e R s m args below meth c B N0 S0 D dA H locs ls Q X k => ?_
  obtain ⟨⟨hx, hb, hml, hown, hts, hlk, hr, hnm⟩, ⟨xf, xl, xc, xs⟩, ⟨xn, xt, xB⟩, hK, hw, hS, hL⟩ := X
  exact lv_ladd hx hb hd (k ls hL)
theorem g_lmul {M : am_MI} {pc : Nat} {L : am_L} {st : List Value} {h : am_H} {r : am_R} {a b : Int64} (hd : decode M.2.1 pc = .ok (.lmul, 1)) (hg : am_Good M (pc + 1) L (.long (a * b) :: st) h r) : am_Good M pc L (.long b :: .long a :: st) h r := by
  refine hg.go fun p l e R s m args below meth c B N0 S0 D dA H locs ls Q X k => ?_
  obtain ⟨⟨hx, hb, hml, hown, hts, hlk, hr, hnm⟩, ⟨xf, xl, xc, xs⟩, ⟨xn, xt, xB⟩, hK, hw, hS, hL⟩ := X
  exact lv_lmul hx hb hd (k ls hL)
theorem g_lrem {M : am_MI} {pc : Nat} {L : am_L} {st : List Value} {h : am_H} {r : am_R} {a b : Int64} (hd : decode M.2.1 pc = .ok (.lrem, 1)) (h0 : ¬ b = 0) (hg : am_Good M (pc + 1) L (.long (a - a / b * b) :: st) h r) : am_Good M pc L (.long b :: .long a :: st) h r := by
  refine hg.go fun p l e R s m args below meth c B N0 S0 D dA H locs ls Q X k => ?_
  obtain ⟨⟨hx, hb, hml, hown, hts, hlk, hr, hnm⟩, ⟨xf, xl, xc, xs⟩, ⟨xn, xt, xB⟩, hK, hw, hS, hL⟩ := X
  exact lv_lrem hx hb hd h0 (k ls hL)
theorem g_lcmp {M : am_MI} {pc : Nat} {L : am_L} {st : List Value} {h : am_H} {r : am_R} {a b : Int64} {v : Nat} (hd : decode M.2.1 pc = .ok (.lcmp, 1)) (hv : lg_cmp a b = Int32.ofNat v) (hg : am_Good M (pc + 1) L (.retAddr v :: st) h r) : am_Good M pc L (.long b :: .long a :: st) h r := by
  refine hg.go fun p l e R s m args below meth c B N0 S0 D dA H locs ls Q X k => ?_
  obtain ⟨⟨hx, hb, hml, hown, hts, hlk, hr, hnm⟩, ⟨xf, xl, xc, xs⟩, ⟨xn, xt, xB⟩, hK, hw, hS, hL⟩ := X
  exact W.lcmp hx hb hd (W.eq (by simp only [List.map_cons, am_v]; rw [hv]) (k ls hL))
theorem g_dup {M : am_MI} {pc : Nat} {L : am_L} {st : List Value} {h : am_H} {r : am_R} {v : Value} (hd : decode M.2.1 pc = .ok (.dup, 1)) (hv : v.category = 1) (hg : am_Good M (pc + 1) L (v :: v :: st) h r) : am_Good M pc L (v :: st) h r := by
  refine hg.go fun p l e R s m args below meth c B N0 S0 D dA H locs ls Q X k => ?_
  obtain ⟨⟨hx, hb, hml, hown, hts, hlk, hr, hnm⟩, ⟨xf, xl, xc, xs⟩, ⟨xn, xt, xB⟩, hK, hw, hS, hL⟩ := X
  exact lv_dup hx hb hd (by rw [am_v_cat]; exact hv) (k ls hL)
theorem g_dup2 {M : am_MI} {pc : Nat} {L : am_L} {st : List Value} {h : am_H} {r : am_R} {u v : Value} (hd : decode M.2.1 pc = .ok (.dup2, 1)) (hu : u.category = 1) (hv : v.category = 1) (hg : am_Good M (pc + 1) L (u :: v :: u :: v :: st) h r) : am_Good M pc L (u :: v :: st) h r := by
  refine hg.go fun p l e R s m args below meth c B N0 S0 D dA H locs ls Q X k => ?_
  obtain ⟨⟨hx, hb, hml, hown, hts, hlk, hr, hnm⟩, ⟨xf, xl, xc, xs⟩, ⟨xn, xt, xB⟩, hK, hw, hS, hL⟩ := X
  exact lv_dup2_11 hx hb hd (by rw [am_v_cat]; exact hu) (by rw [am_v_cat]; exact hv) (k ls hL)
theorem g_pop {M : am_MI} {pc : Nat} {L : am_L} {st : List Value} {h : am_H} {r : am_R} {v : Value} (hd : decode M.2.1 pc = .ok (.pop, 1)) (hv : v.category = 1) (hg : am_Good M (pc + 1) L st h r) : am_Good M pc L (v :: st) h r := by
  refine hg.go fun p l e R s m args below meth c B N0 S0 D dA H locs ls Q X k => ?_
  obtain ⟨⟨hx, hb, hml, hown, hts, hlk, hr, hnm⟩, ⟨xf, xl, xc, xs⟩, ⟨xn, xt, xB⟩, hK, hw, hS, hL⟩ := X
  exact lv_pop hx hb hd (by rw [am_v_cat]; exact hv) (k ls hL)
theorem g_goto {M : am_MI} {pc : Nat} {L : am_L} {st : List Value} {h : am_H} {r : am_R} {d : Int} {t : Nat} (hd : decode M.2.1 pc = .ok (.goto d, 3)) (ht : (pc : Int) + d = (t : Int)) (hg : am_Good M t L st h r) : am_Good M pc L st h r := by
  refine hg.go fun p l e R s m args below meth c B N0 S0 D dA H locs ls Q X k => ?_
  obtain ⟨⟨hx, hb, hml, hown, hts, hlk, hr, hnm⟩, ⟨xf, xl, xc, xs⟩, ⟨xn, xt, xB⟩, hK, hw, hS, hL⟩ := X
  exact lv_goto hx hb hd ht (k ls hL)
def am_teq (a b : Nat) : Bool := Nat.beq (a % 4294967296) (b % 4294967296)
def am_tlt (a b : Nat) : Bool := Nat.blt ((a + 2147483648) % 4294967296) ((b + 2147483648) % 4294967296)
theorem am_teq_iff (a b : Nat) : am_teq a b = true ↔ Int32.ofNat a = Int32.ofNat b := by
  rw [an_eq]
  unfold am_teq
  rw [Nat.beq_eq]
theorem am_tlt_iff (a b : Nat) : am_tlt a b = true ↔ Int32.ofNat a < Int32.ofNat b := by
  rw [an_lt]
  unfold am_tlt
  simp [Nat.blt_eq]
theorem am_tle_iff (a b : Nat) : am_tlt b a = false ↔ Int32.ofNat a ≤ Int32.ofNat b := by
  rw [an_le, ← Bool.not_eq_true, am_tlt_iff, an_lt]
  omega
def am_tc (c : Jvm.ClassFile.Cond) (a b : Nat) : Bool := match c with
  | .eq => am_teq a b
  | .ne => !am_teq a b
  | .lt => am_tlt a b
  | .ge => !am_tlt a b
  | .gt => am_tlt b a
  | .le => !am_tlt b a
theorem am_no_eq_t {x y : Int32} {t : Bool} (q : (t = true ↔ x = y)) (hh : t = true) (z : ¬ (x = y)) : False := by
  subst hh
  simp only [Int32.lt_iff_toInt_lt, Int32.le_iff_toInt_le, ← Int32.toInt_inj, iff_true, iff_false, true_iff, false_iff, Bool.true_eq_false, Bool.false_eq_true, reduceCtorEq] at q z
  omega
theorem am_no_eq_f {x y : Int32} {t : Bool} (q : (t = true ↔ x = y)) (hh : t = false) (z : x = y) : False := by
  subst hh
  simp only [Int32.lt_iff_toInt_lt, Int32.le_iff_toInt_le, ← Int32.toInt_inj, iff_true, iff_false, true_iff, false_iff, Bool.true_eq_false, Bool.false_eq_true, reduceCtorEq] at q z
  omega
theorem am_no_ne_t {x y : Int32} {t : Bool} (q : (t = true ↔ x = y)) (hh : t = false) (z : ¬ (¬ x = y)) : False := by
  subst hh
  simp only [Int32.lt_iff_toInt_lt, Int32.le_iff_toInt_le, ← Int32.toInt_inj, iff_true, iff_false, true_iff, false_iff, Bool.true_eq_false, Bool.false_eq_true, reduceCtorEq] at q z
  omega
theorem am_no_ne_f {x y : Int32} {t : Bool} (q : (t = true ↔ x = y)) (hh : t = true) (z : ¬ x = y) : False := by
  subst hh
  simp only [Int32.lt_iff_toInt_lt, Int32.le_iff_toInt_le, ← Int32.toInt_inj, iff_true, iff_false, true_iff, false_iff, Bool.true_eq_false, Bool.false_eq_true, reduceCtorEq] at q z
  omega
theorem am_no_lt_t {x y : Int32} {t : Bool} (q : (t = true ↔ x < y)) (hh : t = true) (z : ¬ (x < y)) : False := by
  subst hh
  simp only [Int32.lt_iff_toInt_lt, Int32.le_iff_toInt_le, ← Int32.toInt_inj, iff_true, iff_false, true_iff, false_iff, Bool.true_eq_false, Bool.false_eq_true, reduceCtorEq] at q z
  omega
theorem am_no_lt_f {x y : Int32} {t : Bool} (q : (t = true ↔ x < y)) (hh : t = false) (z : x < y) : False := by
  subst hh
  simp only [Int32.lt_iff_toInt_lt, Int32.le_iff_toInt_le, ← Int32.toInt_inj, iff_true, iff_false, true_iff, false_iff, Bool.true_eq_false, Bool.false_eq_true, reduceCtorEq] at q z
  omega
theorem am_no_ge_t {x y : Int32} {t : Bool} (q : (t = true ↔ x < y)) (hh : t = false) (z : ¬ (y ≤ x)) : False := by
  subst hh
  simp only [Int32.lt_iff_toInt_lt, Int32.le_iff_toInt_le, ← Int32.toInt_inj, iff_true, iff_false, true_iff, false_iff, Bool.true_eq_false, Bool.false_eq_true, reduceCtorEq] at q z
  omega
theorem am_no_ge_f {x y : Int32} {t : Bool} (q : (t = true ↔ x < y)) (hh : t = true) (z : y ≤ x) : False := by
  subst hh
  simp only [Int32.lt_iff_toInt_lt, Int32.le_iff_toInt_le, ← Int32.toInt_inj, iff_true, iff_false, true_iff, false_iff, Bool.true_eq_false, Bool.false_eq_true, reduceCtorEq] at q z
  omega
theorem am_no_gt_t {x y : Int32} {t : Bool} (q : (t = true ↔ y < x)) (hh : t = true) (z : ¬ (y < x)) : False := by
  subst hh
  simp only [Int32.lt_iff_toInt_lt, Int32.le_iff_toInt_le, ← Int32.toInt_inj, iff_true, iff_false, true_iff, false_iff, Bool.true_eq_false, Bool.false_eq_true, reduceCtorEq] at q z
  omega
theorem am_no_gt_f {x y : Int32} {t : Bool} (q : (t = true ↔ y < x)) (hh : t = false) (z : y < x) : False := by
  subst hh
  simp only [Int32.lt_iff_toInt_lt, Int32.le_iff_toInt_le, ← Int32.toInt_inj, iff_true, iff_false, true_iff, false_iff, Bool.true_eq_false, Bool.false_eq_true, reduceCtorEq] at q z
  omega
theorem am_no_le_t {x y : Int32} {t : Bool} (q : (t = true ↔ y < x)) (hh : t = false) (z : ¬ (x ≤ y)) : False := by
  subst hh
  simp only [Int32.lt_iff_toInt_lt, Int32.le_iff_toInt_le, ← Int32.toInt_inj, iff_true, iff_false, true_iff, false_iff, Bool.true_eq_false, Bool.false_eq_true, reduceCtorEq] at q z
  omega
theorem am_no_le_f {x y : Int32} {t : Bool} (q : (t = true ↔ y < x)) (hh : t = true) (z : x ≤ y) : False := by
  subst hh
  simp only [Int32.lt_iff_toInt_lt, Int32.le_iff_toInt_le, ← Int32.toInt_inj, iff_true, iff_false, true_iff, false_iff, Bool.true_eq_false, Bool.false_eq_true, reduceCtorEq] at q z
  omega
theorem g_icmp_eq_t {M : am_MI} {pc : Nat} {L : am_L} {st : List Value} {h : am_H} {r : am_R} {a b t : Nat} {d : Int} (hd : decode M.2.1 pc = .ok (.if_icmp .eq d, 3)) (ht : (pc : Int) + d = (t : Int)) (hh : am_tc .eq a b = true) (hg : am_Good M t L st h r) : am_Good M pc L (.retAddr b :: .retAddr a :: st) h r := by
  refine hg.go fun p l e R s m args below meth c B N0 S0 D dA H locs ls Q X k => ?_
  obtain ⟨⟨hx, hb, hml, hown, hts, hlk, hr, hnm⟩, ⟨xf, xl, xc, xs⟩, ⟨xn, xt, xB⟩, hK, hw, hS, hL⟩ := X
  have q := am_teq_iff a b
  simp only [am_tc, Bool.not_eq_true', Bool.not_eq_false'] at hh
  refine lv_icmp_eq hx hb hd ht (fun z => k ls hL) (fun z => ?_)
  exfalso
  exact am_no_eq_t q hh z
theorem g_icmp_eq_f {M : am_MI} {pc : Nat} {L : am_L} {st : List Value} {h : am_H} {r : am_R} {a b t : Nat} {d : Int} (hd : decode M.2.1 pc = .ok (.if_icmp .eq d, 3)) (ht : (pc : Int) + d = (t : Int)) (hh : am_tc .eq a b = false) (hg : am_Good M (pc + 3) L st h r) : am_Good M pc L (.retAddr b :: .retAddr a :: st) h r := by
  refine hg.go fun p l e R s m args below meth c B N0 S0 D dA H locs ls Q X k => ?_
  obtain ⟨⟨hx, hb, hml, hown, hts, hlk, hr, hnm⟩, ⟨xf, xl, xc, xs⟩, ⟨xn, xt, xB⟩, hK, hw, hS, hL⟩ := X
  have q := am_teq_iff a b
  simp only [am_tc, Bool.not_eq_true', Bool.not_eq_false'] at hh
  refine lv_icmp_eq hx hb hd ht (fun z => ?_) (fun z => k ls hL)
  exfalso
  exact am_no_eq_f q hh z
theorem g_icmp_ne_t {M : am_MI} {pc : Nat} {L : am_L} {st : List Value} {h : am_H} {r : am_R} {a b t : Nat} {d : Int} (hd : decode M.2.1 pc = .ok (.if_icmp .ne d, 3)) (ht : (pc : Int) + d = (t : Int)) (hh : am_tc .ne a b = true) (hg : am_Good M t L st h r) : am_Good M pc L (.retAddr b :: .retAddr a :: st) h r := by
  refine hg.go fun p l e R s m args below meth c B N0 S0 D dA H locs ls Q X k => ?_
  obtain ⟨⟨hx, hb, hml, hown, hts, hlk, hr, hnm⟩, ⟨xf, xl, xc, xs⟩, ⟨xn, xt, xB⟩, hK, hw, hS, hL⟩ := X
  have q := am_teq_iff a b
  simp only [am_tc, Bool.not_eq_true', Bool.not_eq_false'] at hh
  refine lv_icmp_ne hx hb hd ht (fun z => k ls hL) (fun z => ?_)
  exfalso
  exact am_no_ne_t q hh (fun w => w z)
theorem g_icmp_ne_f {M : am_MI} {pc : Nat} {L : am_L} {st : List Value} {h : am_H} {r : am_R} {a b t : Nat} {d : Int} (hd : decode M.2.1 pc = .ok (.if_icmp .ne d, 3)) (ht : (pc : Int) + d = (t : Int)) (hh : am_tc .ne a b = false) (hg : am_Good M (pc + 3) L st h r) : am_Good M pc L (.retAddr b :: .retAddr a :: st) h r := by
  refine hg.go fun p l e R s m args below meth c B N0 S0 D dA H locs ls Q X k => ?_
  obtain ⟨⟨hx, hb, hml, hown, hts, hlk, hr, hnm⟩, ⟨xf, xl, xc, xs⟩, ⟨xn, xt, xB⟩, hK, hw, hS, hL⟩ := X
  have q := am_teq_iff a b
  simp only [am_tc, Bool.not_eq_true', Bool.not_eq_false'] at hh
  refine lv_icmp_ne hx hb hd ht (fun z => ?_) (fun z => k ls hL)
  exfalso
  exact am_no_ne_f q hh z
theorem g_icmp_lt_t {M : am_MI} {pc : Nat} {L : am_L} {st : List Value} {h : am_H} {r : am_R} {a b t : Nat} {d : Int} (hd : decode M.2.1 pc = .ok (.if_icmp .lt d, 3)) (ht : (pc : Int) + d = (t : Int)) (hh : am_tc .lt a b = true) (hg : am_Good M t L st h r) : am_Good M pc L (.retAddr b :: .retAddr a :: st) h r := by
  refine hg.go fun p l e R s m args below meth c B N0 S0 D dA H locs ls Q X k => ?_
  obtain ⟨⟨hx, hb, hml, hown, hts, hlk, hr, hnm⟩, ⟨xf, xl, xc, xs⟩, ⟨xn, xt, xB⟩, hK, hw, hS, hL⟩ := X
  have q := am_tlt_iff a b
  simp only [am_tc, Bool.not_eq_true', Bool.not_eq_false'] at hh
  refine lv_icmp_lt hx hb hd ht (fun z => k ls hL) (fun z => ?_)
  exfalso
  exact am_no_lt_t q hh z
theorem g_icmp_lt_f {M : am_MI} {pc : Nat} {L : am_L} {st : List Value} {h : am_H} {r : am_R} {a b t : Nat} {d : Int} (hd : decode M.2.1 pc = .ok (.if_icmp .lt d, 3)) (ht : (pc : Int) + d = (t : Int)) (hh : am_tc .lt a b = false) (hg : am_Good M (pc + 3) L st h r) : am_Good M pc L (.retAddr b :: .retAddr a :: st) h r := by
  refine hg.go fun p l e R s m args below meth c B N0 S0 D dA H locs ls Q X k => ?_
  obtain ⟨⟨hx, hb, hml, hown, hts, hlk, hr, hnm⟩, ⟨xf, xl, xc, xs⟩, ⟨xn, xt, xB⟩, hK, hw, hS, hL⟩ := X
  have q := am_tlt_iff a b
  simp only [am_tc, Bool.not_eq_true', Bool.not_eq_false'] at hh
  refine lv_icmp_lt hx hb hd ht (fun z => ?_) (fun z => k ls hL)
  exfalso
  exact am_no_lt_f q hh z
theorem g_icmp_ge_t {M : am_MI} {pc : Nat} {L : am_L} {st : List Value} {h : am_H} {r : am_R} {a b t : Nat} {d : Int} (hd : decode M.2.1 pc = .ok (.if_icmp .ge d, 3)) (ht : (pc : Int) + d = (t : Int)) (hh : am_tc .ge a b = true) (hg : am_Good M t L st h r) : am_Good M pc L (.retAddr b :: .retAddr a :: st) h r := by
  refine hg.go fun p l e R s m args below meth c B N0 S0 D dA H locs ls Q X k => ?_
  obtain ⟨⟨hx, hb, hml, hown, hts, hlk, hr, hnm⟩, ⟨xf, xl, xc, xs⟩, ⟨xn, xt, xB⟩, hK, hw, hS, hL⟩ := X
  have q := am_tlt_iff a b
  simp only [am_tc, Bool.not_eq_true', Bool.not_eq_false'] at hh
  refine lv_icmp_ge hx hb hd ht (fun z => k ls hL) (fun z => ?_)
  exfalso
  exact am_no_ge_t q hh z
theorem g_icmp_ge_f {M : am_MI} {pc : Nat} {L : am_L} {st : List Value} {h : am_H} {r : am_R} {a b t : Nat} {d : Int} (hd : decode M.2.1 pc = .ok (.if_icmp .ge d, 3)) (ht : (pc : Int) + d = (t : Int)) (hh : am_tc .ge a b = false) (hg : am_Good M (pc + 3) L st h r) : am_Good M pc L (.retAddr b :: .retAddr a :: st) h r := by
  refine hg.go fun p l e R s m args below meth c B N0 S0 D dA H locs ls Q X k => ?_
  obtain ⟨⟨hx, hb, hml, hown, hts, hlk, hr, hnm⟩, ⟨xf, xl, xc, xs⟩, ⟨xn, xt, xB⟩, hK, hw, hS, hL⟩ := X
  have q := am_tlt_iff a b
  simp only [am_tc, Bool.not_eq_true', Bool.not_eq_false'] at hh
  refine lv_icmp_ge hx hb hd ht (fun z => ?_) (fun z => k ls hL)
  exfalso
  exact am_no_ge_f q hh z
theorem g_icmp_gt_t {M : am_MI} {pc : Nat} {L : am_L} {st : List Value} {h : am_H} {r : am_R} {a b t : Nat} {d : Int} (hd : decode M.2.1 pc = .ok (.if_icmp .gt d, 3)) (ht : (pc : Int) + d = (t : Int)) (hh : am_tc .gt a b = true) (hg : am_Good M t L st h r) : am_Good M pc L (.retAddr b :: .retAddr a :: st) h r := by
  refine hg.go fun p l e R s m args below meth c B N0 S0 D dA H locs ls Q X k => ?_
  obtain ⟨⟨hx, hb, hml, hown, hts, hlk, hr, hnm⟩, ⟨xf, xl, xc, xs⟩, ⟨xn, xt, xB⟩, hK, hw, hS, hL⟩ := X
  have q := am_tlt_iff b a
  simp only [am_tc, Bool.not_eq_true', Bool.not_eq_false'] at hh
  refine lv_icmp_gt hx hb hd ht (fun z => k ls hL) (fun z => ?_)
  exfalso
  exact am_no_gt_t q hh z
theorem g_icmp_gt_f {M : am_MI} {pc : Nat} {L : am_L} {st : List Value} {h : am_H} {r : am_R} {a b t : Nat} {d : Int} (hd : decode M.2.1 pc = .ok (.if_icmp .gt d, 3)) (ht : (pc : Int) + d = (t : Int)) (hh : am_tc .gt a b = false) (hg : am_Good M (pc + 3) L st h r) : am_Good M pc L (.retAddr b :: .retAddr a :: st) h r := by
  refine hg.go fun p l e R s m args below meth c B N0 S0 D dA H locs ls Q X k => ?_
  obtain ⟨⟨hx, hb, hml, hown, hts, hlk, hr, hnm⟩, ⟨xf, xl, xc, xs⟩, ⟨xn, xt, xB⟩, hK, hw, hS, hL⟩ := X
  have q := am_tlt_iff b a
  simp only [am_tc, Bool.not_eq_true', Bool.not_eq_false'] at hh
  refine lv_icmp_gt hx hb hd ht (fun z => ?_) (fun z => k ls hL)
  exfalso
  exact am_no_gt_f q hh z
theorem g_icmp_le_t {M : am_MI} {pc : Nat} {L : am_L} {st : List Value} {h : am_H} {r : am_R} {a b t : Nat} {d : Int} (hd : decode M.2.1 pc = .ok (.if_icmp .le d, 3)) (ht : (pc : Int) + d = (t : Int)) (hh : am_tc .le a b = true) (hg : am_Good M t L st h r) : am_Good M pc L (.retAddr b :: .retAddr a :: st) h r := by
  refine hg.go fun p l e R s m args below meth c B N0 S0 D dA H locs ls Q X k => ?_
  obtain ⟨⟨hx, hb, hml, hown, hts, hlk, hr, hnm⟩, ⟨xf, xl, xc, xs⟩, ⟨xn, xt, xB⟩, hK, hw, hS, hL⟩ := X
  have q := am_tlt_iff b a
  simp only [am_tc, Bool.not_eq_true', Bool.not_eq_false'] at hh
  refine lv_icmp_le hx hb hd ht (fun z => k ls hL) (fun z => ?_)
  exfalso
  exact am_no_le_t q hh z
theorem g_icmp_le_f {M : am_MI} {pc : Nat} {L : am_L} {st : List Value} {h : am_H} {r : am_R} {a b t : Nat} {d : Int} (hd : decode M.2.1 pc = .ok (.if_icmp .le d, 3)) (ht : (pc : Int) + d = (t : Int)) (hh : am_tc .le a b = false) (hg : am_Good M (pc + 3) L st h r) : am_Good M pc L (.retAddr b :: .retAddr a :: st) h r := by
  refine hg.go fun p l e R s m args below meth c B N0 S0 D dA H locs ls Q X k => ?_
  obtain ⟨⟨hx, hb, hml, hown, hts, hlk, hr, hnm⟩, ⟨xf, xl, xc, xs⟩, ⟨xn, xt, xB⟩, hK, hw, hS, hL⟩ := X
  have q := am_tlt_iff b a
  simp only [am_tc, Bool.not_eq_true', Bool.not_eq_false'] at hh
  refine lv_icmp_le hx hb hd ht (fun z => ?_) (fun z => k ls hL)
  exfalso
  exact am_no_le_f q hh z
theorem g_if_eq_t {M : am_MI} {pc : Nat} {L : am_L} {st : List Value} {h : am_H} {r : am_R} {a t : Nat} {d : Int} (hd : decode M.2.1 pc = .ok (.ifCond .eq d, 3)) (ht : (pc : Int) + d = (t : Int)) (hh : am_tc .eq a 0 = true) (hg : am_Good M t L st h r) : am_Good M pc L (.retAddr a :: st) h r := by
  refine hg.go fun p l e R s m args below meth c B N0 S0 D dA H locs ls Q X k => ?_
  obtain ⟨⟨hx, hb, hml, hown, hts, hlk, hr, hnm⟩, ⟨xf, xl, xc, xs⟩, ⟨xn, xt, xB⟩, hK, hw, hS, hL⟩ := X
  have q := am_teq_iff a 0
  simp only [am_tc, Bool.not_eq_true', Bool.not_eq_false'] at hh
  refine lv_if_eq hx hb hd ht (fun z => k ls hL) (fun z => ?_)
  exfalso
  exact am_no_eq_t q hh z
theorem g_if_eq_f {M : am_MI} {pc : Nat} {L : am_L} {st : List Value} {h : am_H} {r : am_R} {a t : Nat} {d : Int} (hd : decode M.2.1 pc = .ok (.ifCond .eq d, 3)) (ht : (pc : Int) + d = (t : Int)) (hh : am_tc .eq a 0 = false) (hg : am_Good M (pc + 3) L st h r) : am_Good M pc L (.retAddr a :: st) h r := by
  refine hg.go fun p l e R s m args below meth c B N0 S0 D dA H locs ls Q X k => ?_
  obtain ⟨⟨hx, hb, hml, hown, hts, hlk, hr, hnm⟩, ⟨xf, xl, xc, xs⟩, ⟨xn, xt, xB⟩, hK, hw, hS, hL⟩ := X
  have q := am_teq_iff a 0
  simp only [am_tc, Bool.not_eq_true', Bool.not_eq_false'] at hh
  refine lv_if_eq hx hb hd ht (fun z => ?_) (fun z => k ls hL)
  exfalso
  exact am_no_eq_f q hh z
theorem g_if_ne_t {M : am_MI} {pc : Nat} {L : am_L} {st : List Value} {h : am_H} {r : am_R} {a t : Nat} {d : Int} (hd : decode M.2.1 pc = .ok (.ifCond .ne d, 3)) (ht : (pc : Int) + d = (t : Int)) (hh : am_tc .ne a 0 = true) (hg : am_Good M t L st h r) : am_Good M pc L (.retAddr a :: st) h r := by
  refine hg.go fun p l e R s m args below meth c B N0 S0 D dA H locs ls Q X k => ?_
  obtain ⟨⟨hx, hb, hml, hown, hts, hlk, hr, hnm⟩, ⟨xf, xl, xc, xs⟩, ⟨xn, xt, xB⟩, hK, hw, hS, hL⟩ := X
  have q := am_teq_iff a 0
  simp only [am_tc, Bool.not_eq_true', Bool.not_eq_false'] at hh
  refine lv_if_ne hx hb hd ht (fun z => k ls hL) (fun z => ?_)
  exfalso
  exact am_no_ne_t q hh (fun w => w z)
theorem g_if_ne_f {M : am_MI} {pc : Nat} {L : am_L} {st : List Value} {h : am_H} {r : am_R} {a t : Nat} {d : Int} (hd : decode M.2.1 pc = .ok (.ifCond .ne d, 3)) (ht : (pc : Int) + d = (t : Int)) (hh : am_tc .ne a 0 = false) (hg : am_Good M (pc + 3) L st h r) : am_Good M pc L (.retAddr a :: st) h r := by
  refine hg.go fun p l e R s m args below meth c B N0 S0 D dA H locs ls Q X k => ?_
  obtain ⟨⟨hx, hb, hml, hown, hts, hlk, hr, hnm⟩, ⟨xf, xl, xc, xs⟩, ⟨xn, xt, xB⟩, hK, hw, hS, hL⟩ := X
  have q := am_teq_iff a 0
  simp only [am_tc, Bool.not_eq_true', Bool.not_eq_false'] at hh
  refine lv_if_ne hx hb hd ht (fun z => ?_) (fun z => k ls hL)
  exfalso
  exact am_no_ne_f q hh z
theorem g_if_lt_t {M : am_MI} {pc : Nat} {L : am_L} {st : List Value} {h : am_H} {r : am_R} {a t : Nat} {d : Int} (hd : decode M.2.1 pc = .ok (.ifCond .lt d, 3)) (ht : (pc : Int) + d = (t : Int)) (hh : am_tc .lt a 0 = true) (hg : am_Good M t L st h r) : am_Good M pc L (.retAddr a :: st) h r := by
  refine hg.go fun p l e R s m args below meth c B N0 S0 D dA H locs ls Q X k => ?_
  obtain ⟨⟨hx, hb, hml, hown, hts, hlk, hr, hnm⟩, ⟨xf, xl, xc, xs⟩, ⟨xn, xt, xB⟩, hK, hw, hS, hL⟩ := X
  have q := am_tlt_iff a 0
  simp only [am_tc, Bool.not_eq_true', Bool.not_eq_false'] at hh
  refine lv_if_lt hx hb hd ht (fun z => k ls hL) (fun z => ?_)
  exfalso
  exact am_no_lt_t q hh z
theorem g_if_lt_f {M : am_MI} {pc : Nat} {L : am_L} {st : List Value} {h : am_H} {r : am_R} {a t : Nat} {d : Int} (hd : decode M.2.1 pc = .ok (.ifCond .lt d, 3)) (ht : (pc : Int) + d = (t : Int)) (hh : am_tc .lt a 0 = false) (hg : am_Good M (pc + 3) L st h r) : am_Good M pc L (.retAddr a :: st) h r := by
  refine hg.go fun p l e R s m args below meth c B N0 S0 D dA H locs ls Q X k => ?_
  obtain ⟨⟨hx, hb, hml, hown, hts, hlk, hr, hnm⟩, ⟨xf, xl, xc, xs⟩, ⟨xn, xt, xB⟩, hK, hw, hS, hL⟩ := X
  have q := am_tlt_iff a 0
  simp only [am_tc, Bool.not_eq_true', Bool.not_eq_false'] at hh
  refine lv_if_lt hx hb hd ht (fun z => ?_) (fun z => k ls hL)
  exfalso
  exact am_no_lt_f q hh z
theorem g_if_ge_t {M : am_MI} {pc : Nat} {L : am_L} {st : List Value} {h : am_H} {r : am_R} {a t : Nat} {d : Int} (hd : decode M.2.1 pc = .ok (.ifCond .ge d, 3)) (ht : (pc : Int) + d = (t : Int)) (hh : am_tc .ge a 0 = true) (hg : am_Good M t L st h r) : am_Good M pc L (.retAddr a :: st) h r := by
  refine hg.go fun p l e R s m args below meth c B N0 S0 D dA H locs ls Q X k => ?_
  obtain ⟨⟨hx, hb, hml, hown, hts, hlk, hr, hnm⟩, ⟨xf, xl, xc, xs⟩, ⟨xn, xt, xB⟩, hK, hw, hS, hL⟩ := X
  have q := am_tlt_iff a 0
  simp only [am_tc, Bool.not_eq_true', Bool.not_eq_false'] at hh
  refine lv_if_ge hx hb hd ht (fun z => k ls hL) (fun z => ?_)
  exfalso
  exact am_no_ge_t q hh z
theorem g_if_ge_f {M : am_MI} {pc : Nat} {L : am_L} {st : List Value} {h : am_H} {r : am_R} {a t : Nat} {d : Int} (hd : decode M.2.1 pc = .ok (.ifCond .ge d, 3)) (ht : (pc : Int) + d = (t : Int)) (hh : am_tc .ge a 0 = false) (hg : am_Good M (pc + 3) L st h r) : am_Good M pc L (.retAddr a :: st) h r := by
  refine hg.go fun p l e R s m args below meth c B N0 S0 D dA H locs ls Q X k => ?_
  obtain ⟨⟨hx, hb, hml, hown, hts, hlk, hr, hnm⟩, ⟨xf, xl, xc, xs⟩, ⟨xn, xt, xB⟩, hK, hw, hS, hL⟩ := X
  have q := am_tlt_iff a 0
  simp only [am_tc, Bool.not_eq_true', Bool.not_eq_false'] at hh
  refine lv_if_ge hx hb hd ht (fun z => ?_) (fun z => k ls hL)
  exfalso
  exact am_no_ge_f q hh z
theorem g_if_gt_t {M : am_MI} {pc : Nat} {L : am_L} {st : List Value} {h : am_H} {r : am_R} {a t : Nat} {d : Int} (hd : decode M.2.1 pc = .ok (.ifCond .gt d, 3)) (ht : (pc : Int) + d = (t : Int)) (hh : am_tc .gt a 0 = true) (hg : am_Good M t L st h r) : am_Good M pc L (.retAddr a :: st) h r := by
  refine hg.go fun p l e R s m args below meth c B N0 S0 D dA H locs ls Q X k => ?_
  obtain ⟨⟨hx, hb, hml, hown, hts, hlk, hr, hnm⟩, ⟨xf, xl, xc, xs⟩, ⟨xn, xt, xB⟩, hK, hw, hS, hL⟩ := X
  have q := am_tlt_iff 0 a
  simp only [am_tc, Bool.not_eq_true', Bool.not_eq_false'] at hh
  refine lv_if_gt hx hb hd ht (fun z => k ls hL) (fun z => ?_)
  exfalso
  exact am_no_gt_t q hh z
theorem g_if_gt_f {M : am_MI} {pc : Nat} {L : am_L} {st : List Value} {h : am_H} {r : am_R} {a t : Nat} {d : Int} (hd : decode M.2.1 pc = .ok (.ifCond .gt d, 3)) (ht : (pc : Int) + d = (t : Int)) (hh : am_tc .gt a 0 = false) (hg : am_Good M (pc + 3) L st h r) : am_Good M pc L (.retAddr a :: st) h r := by
  refine hg.go fun p l e R s m args below meth c B N0 S0 D dA H locs ls Q X k => ?_
  obtain ⟨⟨hx, hb, hml, hown, hts, hlk, hr, hnm⟩, ⟨xf, xl, xc, xs⟩, ⟨xn, xt, xB⟩, hK, hw, hS, hL⟩ := X
  have q := am_tlt_iff 0 a
  simp only [am_tc, Bool.not_eq_true', Bool.not_eq_false'] at hh
  refine lv_if_gt hx hb hd ht (fun z => ?_) (fun z => k ls hL)
  exfalso
  exact am_no_gt_f q hh z
theorem g_if_le_t {M : am_MI} {pc : Nat} {L : am_L} {st : List Value} {h : am_H} {r : am_R} {a t : Nat} {d : Int} (hd : decode M.2.1 pc = .ok (.ifCond .le d, 3)) (ht : (pc : Int) + d = (t : Int)) (hh : am_tc .le a 0 = true) (hg : am_Good M t L st h r) : am_Good M pc L (.retAddr a :: st) h r := by
  refine hg.go fun p l e R s m args below meth c B N0 S0 D dA H locs ls Q X k => ?_
  obtain ⟨⟨hx, hb, hml, hown, hts, hlk, hr, hnm⟩, ⟨xf, xl, xc, xs⟩, ⟨xn, xt, xB⟩, hK, hw, hS, hL⟩ := X
  have q := am_tlt_iff 0 a
  simp only [am_tc, Bool.not_eq_true', Bool.not_eq_false'] at hh
  refine lv_if_le hx hb hd ht (fun z => k ls hL) (fun z => ?_)
  exfalso
  exact am_no_le_t q hh z
theorem g_if_le_f {M : am_MI} {pc : Nat} {L : am_L} {st : List Value} {h : am_H} {r : am_R} {a t : Nat} {d : Int} (hd : decode M.2.1 pc = .ok (.ifCond .le d, 3)) (ht : (pc : Int) + d = (t : Int)) (hh : am_tc .le a 0 = false) (hg : am_Good M (pc + 3) L st h r) : am_Good M pc L (.retAddr a :: st) h r := by
  refine hg.go fun p l e R s m args below meth c B N0 S0 D dA H locs ls Q X k => ?_
  obtain ⟨⟨hx, hb, hml, hown, hts, hlk, hr, hnm⟩, ⟨xf, xl, xc, xs⟩, ⟨xn, xt, xB⟩, hK, hw, hS, hL⟩ := X
  have q := am_tlt_iff 0 a
  simp only [am_tc, Bool.not_eq_true', Bool.not_eq_false'] at hh
  refine lv_if_le hx hb hd ht (fun z => ?_) (fun z => k ls hL)
  exfalso
  exact am_no_le_f q hh z
end
section
/-! ===== rules: cells ===== -/
theorem am_P1 {D : va_G} {cl : List vw_C} {q : Nat × va_E} {H : Heap} (h : va_at D cl q H) : va_P D cl [q] H := by
  intro k x hx
  have hk : k < 1 := (List.getElem?_eq_some_iff.mp hx).1
  have : k = 0 := by omega
  subst this
  cases hx
  exact h
/-- a class of the table: its fields' words, names apart, types -/
def am_cok (ci : Nat) (C : String) (T : u_T) (N : Nat) (ty : Nat → FieldType) : Prop := am_cls[ci]? = some (C, T, N) ∧ (∀ w ∈ u_ws C T N, w ∈ am_tbl) ∧ (∀ a, a < N → ∀ b, b < N → a ≠ b → (T a).2.1 ≠ (T b).2.1) ∧ (∀ k, k < N → parseFieldDescriptor (T k).2.2.1 = some (ty k))
/-- the field k of class ci, by entry idx of the class own -/
def am_FL (own : String) (idx : Nat) (T : u_T) (k : Nat) : Prop := (Cond.fieldLink own idx (T k).1 (T k).2.1 (T k).2.2.1 ∈ am_tbl) ∨ ∃ host, Cond.fieldLinkNest own idx (T k).1 (T k).2.1 (T k).2.2.1 host ∈ am_nest
theorem g_getfield {M : am_MI} {pc : Nat} {L : am_L} {st : List Value} {h : am_H} {r : am_R} {a ci k idx : Nat} {fs : List Value} {v : Value} {C : String} {T : u_T} {N : Nat} {ty : Nat → FieldType} (hc : am_cok ci C T N ty) (hk : k < N) (hf : am_FL M.1.cls idx T k) (hd : decode M.2.1 pc = .ok (.getfield idx, 3)) (hh : am_get h a = some (.inr (ci, fs))) (hv : fs[k]? = some v) (hg : am_Good M (pc + 3) L (v :: st) h r) : am_Good M pc L (.ref a :: st) h r := by
  refine hg.go fun p l e R s m args below meth c B N0 S0 D dA H locs ls Q X kk => ?_
  obtain ⟨⟨hx, hb, hml, hown, hts, hlk, hr, hnm⟩, ⟨xf, xl, xc, xs⟩, ⟨xn, xt, xB⟩, hK, hw, hS, hL⟩ := X
  have hP := am_P1 (hw.2 a _ hh)
  have hv2 : (fs.map (am_v B))[k]? = some (am_v B v) := by rw [List.getElem?_map, hv]; rfl
  rcases hf with hf | ⟨host, hf⟩
  · exact va_get (Ts := am_tbl) hx hb hts hc.2.1 hown hK.1 hP 0 rfl hc.1 k hk (hts _ hf) (fun _ z => z) hv2 hd (kk ls hL)
  · exact va_getN (Ts := am_tbl) hx hb hts hc.2.1 hown hK.1 hP 0 rfl hc.1 k hk (va_Nw.use rfl (hK.2.1 _ hf)) (fun _ z => z) hv2 hd (kk ls hL)
/-- what a field of a type takes -/
def am_fit (ty : FieldType) (v : Value) : Prop := match ty, v with
  | .int, .retAddr _ => True
  | .boolean, .retAddr n => n < 2
  | .object _, .ref _ => True
  | .object _, .null => True
  | .array _, .ref _ => True
  | .array _, .null => True
  | _, _ => False
theorem am_fit_ok {ty : FieldType} {v : Value} (B : Nat) (h : am_fit ty v) : narrow ty (am_v B v) = am_v B v ∧ fits ty (am_v B v) = true := by
  cases ty <;> cases v <;> first | (exact ⟨rfl, rfl⟩) | (cases h; done) | skip
  rename_i n
  have hn : n = 0 ∨ n = 1 := by have : n < 2 := h; omega
  rcases hn with rfl | rfl
  · exact ⟨by show narrow .boolean (.int (Int32.ofNat 0)) = .int (Int32.ofNat 0); decide, by show fits .boolean (.int (Int32.ofNat 0)) = true; decide⟩
  · exact ⟨by show narrow .boolean (.int (Int32.ofNat 1)) = .int (Int32.ofNat 1); decide, by show fits .boolean (.int (Int32.ofNat 1)) = true; decide⟩
theorem am_map_set (f : Value → Value) (fs : List Value) (k : Nat) (v : Value) : (fs.set k v).map f = (fs.map f).set k (f v) := List.map_set
theorem g_putfield {M : am_MI} {pc : Nat} {L : am_L} {st : List Value} {h : am_H} {r : am_R} {a ci k idx : Nat} {fs : List Value} {v : Value} {C : String} {T : u_T} {N : Nat} {ty : Nat → FieldType} (hc : am_cok ci C T N ty) (hk : k < N) (hf : am_FL M.1.cls idx T k) (hfin : (T k).2.2.2 = false ∨ ((T k).2.2.2 = true ∧ M.1.name = "<init>" ∧ (T k).1 = M.1.cls ∧ Cond.fieldLink M.1.cls idx (T k).1 (T k).2.1 (T k).2.2.1 ∈ am_tbl)) (hd : decode M.2.1 pc = .ok (.putfield idx, 3)) (hh : am_get h a = some (.inr (ci, fs))) (hl : k < fs.length) (hfit : am_fit (ty k) v) (hg : am_Good M (pc + 3) L st (am_upd h a (.inr (ci, fs.set k v))) r) : am_Good M pc L (v :: .ref a :: st) h r := by
  refine am_Good.put hg fun p l e R s m args below meth c B N0 S0 D dA H locs ls Q X kk => ?_
  obtain ⟨⟨hx, hb, hml, hown, hts, hlk, hr, hnm⟩, ⟨xf, xl, xc, xs⟩, ⟨xn, xt, xB⟩, hK, hw, hS, hL⟩ := X
  have hap := va_apart (own := M.1.cls) (Ts := am_tbl) hts hc.2.1 ty hc.2.2.2 hc.2.2.1 hK.1 hc.1
  have hat := hw.2 a _ hh
  obtain ⟨r0, h1, cell, q1, q2, q3, q4⟩ := hat
  have hr0 : r0 = (C, T, N) := Option.some.inj (h1.symm.trans hc.1)
  subst hr0
  obtain ⟨hSl, hfc, kC, hkC, hkind⟩ := hK.1.1 ci _ hc.1
  obtain ⟨cf, kf, fi, f, hi, hsl⟩ := hSl k hk
  have hlay := hts _ (hc.2.1 _ (u_in_lay hk))
  have hst := (u_facts hfc hkC (u_lays hts hc.2.1 hk) hi).1
  obtain ⟨hn1, hn2⟩ := am_fit_ok B hfit
  have hlt : f.slot < cell.slots.size := by rw [hsl]; exact k2_hasslot (q4 k hk)
  have hl2 : k < (fs.map (am_v B)).length := by rw [List.length_map]; exact hl
  have fin : ∀ H' : Heap, H'[B + a]? = some (cell.setSlot f.slot (am_v B v)) → H'.size = H.size → (∀ q, q ≠ B + a → H'[q]? = H[q]?) → W p l e R s m args below meth c H' (locs ++ [⟨B + a, f.slot⟩]) (h.1 - N0) (h.2.1 - S0) Q (F0 m (pc + 3) ls (st.map (am_v B))) := by
    intro H' e1 e2 e3
    rw [hsl] at e1 ⊢
    refine kk H' _ (hw.upd hh ?_ e2 e3) (hS.put e2 e3 (Nat.le_add_right _ _))
    refine ⟨_, hc.1, ?_⟩
    show t_OB (B + a) _ N _ H' (vp_V ((fs.set k v).map (am_v B)))
    rw [am_map_set]
    exact t_OB.to (V := updV (vp_V (fs.map (am_v B))) k (am_v B v)) ⟨_, e1, q2, q3, t_set q4 hap hk (am_v B v)⟩ (fun j _ => vp_updV_set hl2 (am_v B v) j)
  rcases hfin with hfin | ⟨hfin, hin, hdc, hfl⟩
  · unfold u_lay at hlay
    rw [if_neg (by rw [hfin]; decide)] at hlay
    have h6 := u_store hfc hkC hkind hlay hi (hc.2.2.2 k hk) hn1 hn2
    rcases hf with hf | ⟨host, hf⟩
    · exact W.putK hx hb (f := f) ⟨hown, hts _ hf, ⟨_, _, _, hi⟩, hst⟩ (by rw [q2]; exact h6) q1 q3 hlt rfl rfl hd fin
    · exact va_WputK hx hb (f := f) hown (va_Nw.use rfl (hK.2.1 _ hf)) hi hst (by rw [q2]; exact h6) q1 q3 hlt rfl rfl hd fin
  · unfold u_lay at hlay
    rw [if_pos hfin] at hlay
    have hcf : m.cls = cf := by
      obtain ⟨_, _, c', _, _, _, -, -, hf', -, -, -, hown2, -⟩ := Cond.laysFinal_spec hlay
      have e1 : c' = cf := by have := hi.symm.trans hf'; simp at this; exact this.1.symm
      rw [hdc] at hown2
      rw [← e1]
      exact Option.some.inj (hown.symm.trans hown2)
    have h6 := u_fits hfc hkC hkind (Or.inr hlay) hi (hc.2.2.2 k hk) hn1 hn2
    exact W.putFinK hx hb hown (hts _ hfl) hi hst hcf (hnm.trans hin) (by rw [q2]; exact h6) q1 q3 hlt rfl rfl hd fin
theorem an_in {i n : Nat} (h : i < n) (hn : n ≤ 2147483648) : vp_in (Int32.ofNat i) n := by
  have hi : i < 2147483648 := by omega
  rintro (q | q)
  · exact an_nonneg hi q
  · rw [an_clamp hi] at q
    omega
theorem g_iaload {M : am_MI} {pc : Nat} {L : am_L} {st : List Value} {h : am_H} {r : am_R} {a i n x : Nat} (hd : decode M.2.1 pc = .ok (.iaload, 1)) (hh : am_get h a = some (.inl (0, n, x))) (hi : i < n) (hn : n ≤ 2147483648) (hg : am_Good M (pc + 1) L (.retAddr (am_ag x i) :: st) h r) : am_Good M pc L (.retAddr i :: .ref a :: st) h r := by
  refine hg.go fun p l e R s m args below meth c B N0 S0 D dA H locs ls Q X kk => ?_
  obtain ⟨⟨hx, hb, hml, hown, hts, hlk, hr, hnm⟩, ⟨xf, xl, xc, xs⟩, ⟨xn, xt, xB⟩, hK, hw, hS, hL⟩ := X
  exact va_iald hx hb hK.1 (am_P1 (hw.2 a _ hh)) 0 0 rfl rfl (an_in hi hn) hd (W.eq (by rw [an_clamp (by omega)]; rfl) (kk ls hL))
theorem g_caload {M : am_MI} {pc : Nat} {L : am_L} {st : List Value} {h : am_H} {r : am_R} {a i n x : Nat} (hd : decode M.2.1 pc = .ok (.caload, 1)) (hh : am_get h a = some (.inl (1, n, x))) (hi : i < n) (hn : n ≤ 2147483648) (hg : am_Good M (pc + 1) L (.retAddr (am_ag x i) :: st) h r) : am_Good M pc L (.retAddr i :: .ref a :: st) h r := by
  refine hg.go fun p l e R s m args below meth c B N0 S0 D dA H locs ls Q X kk => ?_
  obtain ⟨⟨hx, hb, hml, hown, hts, hlk, hr, hnm⟩, ⟨xf, xl, xc, xs⟩, ⟨xn, xt, xB⟩, hK, hw, hS, hL⟩ := X
  exact va_cald hx hb hK.1 (am_P1 (hw.2 a _ hh)) 0 1 rfl rfl (an_in hi hn) hd (W.eq (by rw [an_clamp (by omega)]; rfl) (kk ls hL))
theorem g_zaload {M : am_MI} {pc : Nat} {L : am_L} {st : List Value} {h : am_H} {r : am_R} {a i n x : Nat} (hd : decode M.2.1 pc = .ok (.baload, 1)) (hh : am_get h a = some (.inl (2, n, x))) (hi : i < n) (hn : n ≤ 2147483648) (hg : am_Good M (pc + 1) L (.retAddr (am_ag x i) :: st) h r) : am_Good M pc L (.retAddr i :: .ref a :: st) h r := by
  refine hg.go fun p l e R s m args below meth c B N0 S0 D dA H locs ls Q X kk => ?_
  obtain ⟨⟨hx, hb, hml, hown, hts, hlk, hr, hnm⟩, ⟨xf, xl, xc, xs⟩, ⟨xn, xt, xB⟩, hK, hw, hS, hL⟩ := X
  exact va_zald hx hb hK.1 (am_P1 (hw.2 a _ hh)) 0 2 rfl rfl (an_in hi hn) hd (W.eq (by rw [an_clamp (by omega)]; rfl) (kk ls hL))
theorem am_arr_as {B : Nat} {D : va_G} {dA : Nat → ClassId} {H' : Heap} {q kd n x i v v2 : Nat} (hv : v2 % 4294967296 = v % 4294967296) (e1 : H'[q]? = some ((arrV (dA kd) n (fun j => .int (Int32.ofNat (am_ag x j)))).setSlot i (.int (Int32.ofNat v)))) : va_at D am_cls (q, am_e B dA (.inl (kd, n, am_as x i v2))) H' := by
  show H'[q]? = some (vp_cell _ _)
  rw [e1, vp_cell_i, arrV_store]
  congr 2
  funext j
  show updV _ _ _ _ = Value.int (Int32.ofNat (am_ag (am_as x i v2) j))
  rw [am_ag_as]
  by_cases hj : j = i
  · subst hj
    rw [if_pos rfl, hv, an_mod]
    simp [updV]
  · rw [if_neg hj]
    simp [updV, hj]
theorem g_iastore {M : am_MI} {pc : Nat} {L : am_L} {st : List Value} {h : am_H} {r : am_R} {a i n x v : Nat} (hd : decode M.2.1 pc = .ok (.iastore, 1)) (hh : am_get h a = some (.inl (0, n, x))) (hi : i < n) (hn : n ≤ 2147483648) (hg : am_Good M (pc + 1) L st (am_upd h a (.inl (0, n, am_as x i v))) r) : am_Good M pc L (.retAddr v :: .retAddr i :: .ref a :: st) h r := by
  refine am_Good.put hg fun p l e R s m args below meth c B N0 S0 D dA H locs ls Q X kk => ?_
  obtain ⟨⟨hx, hb, hml, hown, hts, hlk, hr, hnm⟩, ⟨xf, xl, xc, xs⟩, ⟨xn, xt, xB⟩, hK, hw, hS, hL⟩ := X
  have hat : H[B + a]? = some (arrV (dA 0) n (fun j => .int (Int32.ofNat (am_ag x j)))) := hw.2 a _ hh
  refine W.iast hx hb hat ((hK.1.2 0 _ rfl).1 n _) (fun q => by cases q) (by rw [arrV_size]; exact an_in hi hn) rfl rfl hd fun H' e1 e2 e3 => ?_
  rw [an_clamp (by omega)] at e1 ⊢
  exact kk H' _ (hw.upd hh (am_arr_as rfl e1) e2 e3) (hS.put e2 e3 (Nat.le_add_right _ _))
theorem g_castore {M : am_MI} {pc : Nat} {L : am_L} {st : List Value} {h : am_H} {r : am_R} {a i n x v : Nat} (hd : decode M.2.1 pc = .ok (.castore, 1)) (hh : am_get h a = some (.inl (1, n, x))) (hi : i < n) (hn : n ≤ 2147483648) (hg : am_Good M (pc + 1) L st (am_upd h a (.inl (1, n, am_as x i (v % 65536)))) r) : am_Good M pc L (.retAddr v :: .retAddr i :: .ref a :: st) h r := by
  refine am_Good.put hg fun p l e R s m args below meth c B N0 S0 D dA H locs ls Q X kk => ?_
  obtain ⟨⟨hx, hb, hml, hown, hts, hlk, hr, hnm⟩, ⟨xf, xl, xc, xs⟩, ⟨xn, xt, xB⟩, hK, hw, hS, hL⟩ := X
  have hat : H[B + a]? = some (arrV (dA 1) n (fun j => .int (Int32.ofNat (am_ag x j)))) := hw.2 a _ hh
  refine W.cast hx hb hat ((hK.1.2 1 _ rfl).1 n _) (fun q => by cases q) (by rw [arrV_size]; exact an_in hi hn) rfl rfl hd fun H' e1 e2 e3 => ?_
  rw [an_clamp (by omega)] at e1 ⊢
  rw [an_c16] at e1
  exact kk H' _ (hw.upd hh (am_arr_as rfl e1) e2 e3) (hS.put e2 e3 (Nat.le_add_right _ _))
theorem g_zastore {M : am_MI} {pc : Nat} {L : am_L} {st : List Value} {h : am_H} {r : am_R} {a i n x v : Nat} (hd : decode M.2.1 pc = .ok (.bastore, 1)) (hh : am_get h a = some (.inl (2, n, x))) (hi : i < n) (hn : n ≤ 2147483648) (hg : am_Good M (pc + 1) L st (am_upd h a (.inl (2, n, am_as x i (v % 2)))) r) : am_Good M pc L (.retAddr v :: .retAddr i :: .ref a :: st) h r := by
  refine am_Good.put hg fun p l e R s m args below meth c B N0 S0 D dA H locs ls Q X kk => ?_
  obtain ⟨⟨hx, hb, hml, hown, hts, hlk, hr, hnm⟩, ⟨xf, xl, xc, xs⟩, ⟨xn, xt, xB⟩, hK, hw, hS, hL⟩ := X
  have hat : H[B + a]? = some (arrV (dA 2) n (fun j => .int (Int32.ofNat (am_ag x j)))) := hw.2 a _ hh
  refine W.zast hx hb hat ((hK.1.2 2 _ rfl).1 n _) (fun q => by cases q) (by rw [arrV_size]; exact an_in hi hn) rfl rfl hd fun H' e1 e2 e3 => ?_
  rw [an_clamp (by omega)] at e1 ⊢
  rw [an_b1] at e1
  exact kk H' _ (hw.upd hh (am_arr_as rfl e1) e2 e3) (hS.put e2 e3 (Nat.le_add_right _ _))
theorem g_alen {M : am_MI} {pc : Nat} {L : am_L} {st : List Value} {h : am_H} {r : am_R} {a kd n x : Nat} (hd : decode M.2.1 pc = .ok (.arraylength, 1)) (hh : am_get h a = some (.inl (kd, n, x))) (hk : kd < 3) (hg : am_Good M (pc + 1) L (.retAddr n :: st) h r) : am_Good M pc L (.ref a :: st) h r := by
  refine hg.go fun p l e R s m args below meth c B N0 S0 D dA H locs ls Q X kk => ?_
  obtain ⟨⟨hx, hb, hml, hown, hts, hlk, hr, hnm⟩, ⟨xf, xl, xc, xs⟩, ⟨xn, xt, xB⟩, hK, hw, hS, hL⟩ := X
  have hP := am_P1 (hw.2 a _ hh)
  have h3 : kd = 0 ∨ kd = 1 ∨ kd = 2 := by omega
  rcases h3 with rfl | rfl | rfl
  · exact va_alen (ty := .int) hx hb hK.1 hP 0 0 rfl rfl rfl hd (kk ls hL)
  · exact va_alen (ty := .char) hx hb hK.1 hP 0 1 rfl rfl rfl hd (kk ls hL)
  · exact va_alen (ty := .boolean) hx hb hK.1 hP 0 2 rfl rfl rfl hd (kk ls hL)
theorem g_new {M : am_MI} {pc : Nat} {L : am_L} {st : List Value} {h h' : am_H} {r : am_R} {ci idx : Nat} {fs : List Value} {C : String} {T : u_T} {N : Nat} {ty : Nat → FieldType} (hc : am_cok ci C T N ty) (hl : Cond.classLink M.1.cls idx C ∈ am_tbl) (hin : Cond.instantiable C N ∈ am_tbl) (hini : Cond.initialized C ∈ am_tbl) (hfs : ∀ B j, j < N → defaultValue (ty j) = vp_V (fs.map (am_v B)) j) (hd : decode M.2.1 pc = .ok (.new idx, 3)) (hn : am_New h h' N (.inr (ci, fs))) (hg : am_Good M (pc + 3) L (.ref h.1 :: st) h' r) : am_Good M pc L st h r := by
  refine am_Good.make hn hg fun p l e R s m args below meth c B N0 S0 D dA H locs ls Q X hc1 hs1 kk => ?_
  obtain ⟨⟨hx, hb, hml, hown, hts, hlk, hr, hnm⟩, ⟨xf, xl, xc, xs⟩, ⟨xn, xt, xB⟩, hK, hw, hS, hL⟩ := X
  have hKn := hK.1.1 ci _ hc.1
  refine W.newcK hx hb hown (hts _ hl) (hts _ hin) (hts _ hini) rfl hd hc1 hs1 hKn.2.1 rfl fun H1 kC hkC e1 z1 o1 => ?_
  have hsz := hw.1
  refine W.eq (g2 := F0 m (pc + 3) ls ((Value.ref h.1 :: st).map (am_v B))) (by rw [hsz]; rfl) (kk H1 ⟨_, hc.1, ?_⟩ z1 o1)
  rw [← hsz]
  exact (u_born ty hts hc.2.1 hKn hkC e1 hc.2.2.2).to (hfs B)
theorem g_newarray {M : am_MI} {pc : Nat} {L : am_L} {st : List Value} {h h' : am_H} {r : am_R} {kd n : Nat} {at' : ArrayType} (hty : (newarray.typeOf at' = .int ∧ kd = 0) ∨ (newarray.typeOf at' = .char ∧ kd = 1) ∨ (newarray.typeOf at' = .boolean ∧ kd = 2)) (har : Cond.arrayClass (newarray.typeOf at') ∈ am_tbl) (hd : decode M.2.1 pc = .ok (.newarray at', 2)) (hb0 : n < 100000000) (hn : am_New h h' n (.inl (kd, n, 0))) (hg : am_Good M (pc + 2) L (.ref h.1 :: st) h' r) : am_Good M pc L (.retAddr n :: st) h r := by
  refine am_Good.make hn hg fun p l e R s m args below meth c B N0 S0 D dA H locs ls Q X hc1 hs1 kk => ?_
  obtain ⟨⟨hx, hb, hml, hown, hts, hlk, hr, hnm⟩, ⟨xf, xl, xc, xs⟩, ⟨xn, xt, xB⟩, hK, hw, hS, hL⟩ := X
  have hbytes : n * componentBytes (newarray.typeOf at') ≤ 536870912 := by
    rcases hty with ⟨q, -⟩ | ⟨q, -⟩ | ⟨q, -⟩ <;> rw [q] <;> simp only [componentBytes] <;> omega
  refine va_newaK hx hb (hts _ har) rfl hd rfl (an_nonneg (by omega)) (an_clamp (by omega)) hbytes hc1 hs1 rfl fun H1 cA e1 z1 o1 hAr hNm => ?_
  have hsz := hw.1
  refine W.eq (g2 := F0 m (pc + 2) ls ((Value.ref h.1 :: st).map (am_v B))) (by rw [hsz]; rfl) (kk H1 ?_ z1 o1)
  rw [← hsz]
  show H1[H.size]? = some (vp_cell _ _)
  rw [e1]
  rcases hty with ⟨q, rfl⟩ | ⟨q, rfl⟩ | ⟨q, rfl⟩
  · rw [q] at hNm ⊢
    have h2 : s.vm.findClass ("[" ++ FieldType.int.toString) = some (dA 0) := (hK.1.2 0 _ rfl).2
    cases hNm.symm.trans h2
    rw [vp_cell_i]
    congr 2
    funext j
    show _ = Value.int (Int32.ofNat (am_ag 0 j))
    simp [am_ag, defaultValue]
  · rw [q] at hNm ⊢
    have h2 : s.vm.findClass ("[" ++ FieldType.char.toString) = some (dA 1) := (hK.1.2 1 _ rfl).2
    cases hNm.symm.trans h2
    rw [vp_cell_i]
    congr 2
    funext j
    show _ = Value.int (Int32.ofNat (am_ag 0 j))
    simp [am_ag, defaultValue]
  · rw [q] at hNm ⊢
    have h2 : s.vm.findClass ("[" ++ FieldType.boolean.toString) = some (dA 2) := (hK.1.2 2 _ rfl).2
    cases hNm.symm.trans h2
    rw [vp_cell_i]
    congr 2
    funext j
    show _ = Value.int (Int32.ofNat (am_ag 0 j))
    simp [am_ag, defaultValue]
end
section
/-! ===== rules: calls, ends, switches ===== -/
theorem am_Good.call {M : am_MI} {pc : Nat} {L : am_L} {st stk : List Value} {h : am_H} {r r1 : am_R} (he : h.1 ≤ r1.2.1 ∧ h.2.1 ≤ r1.2.2.1) (hg : am_Good M (pc + 3) L (r1.1.toList ++ st) r1.2 r)
    (hs : ∀ (p : Program) (l : Launch) (e : Env) (R : Room) (s : State) (m : MethodId) (args : Array Value) (below : List Frame) (meth : Method) (c : Code) (B N0 S0 : Nat) (D : va_G) (dA : Nat → ClassId) (H : Heap) (locs : List Loc) (ls : Array Slot),
      am_X M L h r p R s m args meth c B N0 S0 D dA H locs ls → (h.1 - N0) + (r1.2.1 - h.1) ≤ R.cells ∧ (h.2.1 - S0) + (r1.2.2.1 - h.2.1) ≤ R.slots → va_Run p l e R s m args below meth c H locs (h.1 - N0) (h.2.1 - S0) (r1.2.1 - h.1) (r1.2.2.1 - h.2.1) (F0 m pc ls (stk.map (am_v B))) (st.map (am_v B)) (fun st0 o t => am_Q B D dA r1 #[] st0 o t) (fun q => B ≤ q)) : am_Good M pc L stk h r := by
  have g1 := hg.1.1
  have g2 := hg.1.2
  have e1 := he.1
  have e2 := he.2
  refine ⟨⟨by omega, by omega⟩, fun p l e R s m args below meth c B N0 S0 D dA H locs ls X => ?_⟩
  have X0 := X
  obtain ⟨x1, ⟨xf, xl, xc, xs⟩, ⟨xn, xt, xB⟩, hK, hw, hS, hL⟩ := X0
  have hrun := hs p l e R s m args below meth c B N0 S0 D dA H locs ls X ⟨by omega, by omega⟩
  intro T hT ST
  obtain ⟨v, st₀, t, T', L', h0, X', hL', e3, e4, ⟨hv, hw1, hF⟩, go⟩ := hrun T hT ST
  have hv' : v = r1.1.map (am_v B) := Outcome.returned.inj hv
  subst hv'
  have hS1 : va_S (fun q => B ≤ q) s.heap t.heap (locs ++ L') := by
    refine ⟨Nat.le_trans hS.1 (by have := hF.1; rw [h0] at this; exact this), fun q h1 h2 => ?_, fun q hq => ?_⟩
    · have := hF.2 q (by rw [h0]; exact Nat.lt_of_lt_of_le h1 hS.1) h2
      rw [this, h0]
      exact hS.2.1 q h1 h2
    · rcases List.mem_append.mp hq with z | z
      · exact hS.2.2 q z
      · exact hL' q z
  have hk := hg.2 p l e R s m args below meth c B N0 S0 D dA t.heap (locs ++ L') ls ⟨x1, ⟨xf, xl, xc, xs⟩, ⟨by omega, by omega, xB⟩, hK, hw1, hS1, hL⟩
  rw [show r1.2.1 - N0 = h.1 - N0 + (r1.2.1 - h.1) by omega, show r1.2.2.1 - S0 = h.2.1 - S0 + (r1.2.2.1 - h.2.1) by omega] at hk
  obtain ⟨t2, a1, b1⟩ := hk T' e3 X'
  refine ⟨t2, go t2 ?_, b1⟩
  have e5 : ((r1.1.map (am_v B)).toList ++ st.map (am_v B)) = (r1.1.toList ++ st).map (am_v B) := by cases r1.1 <;> simp
  show Steps p.tables e below (T'.setTop (F0 m (pc + 3) ls ((r1.1.map (am_v B)).toList ++ st.map (am_v B)))) t2
  rw [e5]
  exact a1
def am_LkB (M M' : am_MI) (n : Nat) : Prop := Cond.code M'.1 M'.2.1 M'.2.2.1 M'.2.2.2.1 ∈ am_tbl ∧ Cond.initialized M'.1.cls ∈ am_tbl ∧ (M'.1.cls ≠ "java/lang/invoke/MethodHandle" ∧ M'.1.cls ≠ "java/lang/invoke/VarHandle" ∧ (parseMethodDescriptor M'.1.desc).map (fun d => d.parameters.length) = some n) ∧ M'.2.2.2.2.1 + 1 ≤ M.2.2.2.2.1 ∧ 8 + (M'.2.2.1 + 11) + M'.2.2.2.2.2 ≤ M.2.2.2.2.2
theorem am_goodIn {M' : am_MI} (h : Cond.code M'.1 M'.2.1 M'.2.2.1 M'.2.2.2.1 ∈ am_tbl) : GoodIn am_tbl (Cond.code M'.1 M'.2.1 M'.2.2.1 M'.2.2.2.1 :: am_tbl) := by
  intro w hw
  rcases List.mem_cons.mp hw with rfl | h1
  · exact ⟨h, am_tbl_good h⟩
  · exact ⟨h1, am_tbl_good h1⟩
theorem am_Kn.calling {B : Nat} {D : va_G} {dA : Nat → ClassId} {U : State} (g : JFrame) (mk : MethodId) (a : Array Value) (h : am_Kn B D dA U) : am_Kn B D dA (U.calling g mk a) := by
  refine ⟨va_K.moved (u := U) (U := U.calling g mk a) (Vm.Alike.refl U.vm) h.1, fun w hw => ?_, h.2.2.calling g mk a⟩
  have hn := (List.mem_filter.mp hw).2
  have h1 := h.2.1 w hw
  cases w <;> first | (exact va_Nw.same rfl rfl h1) | (cases hn)
theorem am_blind (B : Nat) (D : va_G) (dA : Nat → ClassId) (h : am_H) (as : List Value) : FrameBlind (va_Pc (as.map (am_v B)) (fun U => B ≤ U.heap.size ∧ am_Wd B D dA h U.heap ∧ am_Kn B D dA U)) :=
  fun a _ g mk q => ⟨q.1, q.2.1, q.2.2.1, q.2.2.2.calling g mk a⟩
theorem g_static {M M' : am_MI} {pc idx n : Nat} {L : am_L} {st as : List Value} {h : am_H} {r r1 : am_R} (hl : Cond.methodLink M.1.cls idx M'.1 ∈ am_tbl) (hst : Cond.static M'.1 ∈ am_tbl) (hB : am_LkB M M' n) (hn : as.length = n) (hcat : (st.map fun v => v.category).sum ≤ 8) (hd : decode M.2.1 pc = .ok (.invokestatic idx, 3)) (he : am_EG M' as h r1) (hg : am_Good M (pc + 3) L (r1.1.toList ++ st) r1.2 r) : am_Good M pc L (as.reverse ++ st) h r := by
  refine am_Good.call he.1 hg fun p l e R s m args below meth c B N0 S0 D dA H locs ls X hf => ?_
  obtain ⟨⟨hx, hb, hml, hown, hts, hlk, hr, hnm⟩, ⟨xf, xl, xc, xs⟩, ⟨xn, xt, xB⟩, hK, hw, hS, hL⟩ := X
  refine va_runS (y := M'.1) (bytes := M'.2.1) (maxL := M'.2.2.1) (ret := M'.2.2.2.1) (Ts := am_tbl) (own := M.1.cls) (As := as.map (am_v B)) ⟨hx, hb, hml, hown, hts⟩ (he.2 l B D dA) ⟨callB_of n hts (am_goodIn hB.1) rfl rfl rfl (hts _ hB.2.1) (hts _ hl) hB.2.2.1 ⟨by rw [xf]; exact hB.2.2.2.1, by rw [xl]; exact hB.2.2.2.2⟩, hts _ hst⟩ ⟨am_blind B D dA h as, fun U hU hW => ⟨rfl, by rw [hU]; exact Nat.le_trans xB hS.1, by rw [hU]; exact hw, hK.warm hW hU hS⟩⟩ rfl (by rw [List.length_map]; exact hn) hL.1 (by show List.map _ _ = _; rw [List.map_append, List.map_reverse]) (lv_room (by rw [List.map_map]; simp only [Function.comp_def, am_v_cat]; exact hcat)) hd hf
theorem g_virtual {M M' : am_MI} {pc idx n ci b : Nat} {L : am_L} {st as fs : List Value} {h : am_H} {r r1 : am_R} {T : u_T} {N : Nat} (hl : Cond.methodLink M.1.cls idx M'.1 ∈ am_tbl) (hin : Cond.instanceMethod M'.1 ∈ am_tbl) (hse : Cond.selects M'.1.cls M'.1 M'.1 ∈ am_tbl) (hB : am_LkB M M' n) (hc : am_cls[ci]? = some (M'.1.cls, T, N)) (hh : am_get h b = some (.inr (ci, fs))) (hn : as.length = n) (hcat : (st.map fun v => v.category).sum ≤ 8) (hd : decode M.2.1 pc = .ok (.invokevirtual idx, 3)) (he : am_EG M' (.ref b :: as) h r1) (hg : am_Good M (pc + 3) L (r1.1.toList ++ st) r1.2 r) : am_Good M pc L (as.reverse ++ .ref b :: st) h r := by
  refine am_Good.call he.1 hg fun p l e R s m args below meth c B N0 S0 D dA H locs ls X hf => ?_
  obtain ⟨⟨hx, hb, hml, hown, hts, hlk, hr, hnm⟩, ⟨xf, xl, xc, xs⟩, ⟨xn, xt, xB⟩, hK, hw, hS, hL⟩ := X
  refine va_runV (y := M'.1) (bytes := M'.2.1) (maxL := M'.2.2.1) (ret := M'.2.2.2.1) (Ts := am_tbl) (own := M.1.cls) (C := M'.1.cls) (b := B + b) (As := as.map (am_v B)) ⟨hx, hb, hml, hown, hts⟩ (he.2 l B D dA) ⟨callB_of n hts (am_goodIn hB.1) rfl rfl rfl (hts _ hB.2.1) (hts _ hl) hB.2.2.1 ⟨by rw [xf]; exact hB.2.2.2.1, by rw [xl]; exact hB.2.2.2.2⟩, hts _ hin, hts _ hse⟩ ⟨am_blind B D dA h (.ref b :: as), va_recv hK.1 (am_P1 (hw.2 b _ hh)) hc rfl (q0 := 0), fun U hU hW => ⟨rfl, by rw [hU]; exact Nat.le_trans xB hS.1, by rw [hU]; exact hw, hK.warm hW hU hS⟩⟩ rfl (by rw [List.length_map]; exact hn) hL.1 (by show List.map _ _ = _; rw [List.map_append, List.map_reverse]; rfl) (lv_room (by rw [List.map_map]; simp only [Function.comp_def, am_v_cat]; exact hcat)) hd hf
theorem g_init {M M' : am_MI} {pc idx n b : Nat} {L : am_L} {st as : List Value} {h : am_H} {r r1 : am_R} (hl : Cond.methodLink M.1.cls idx M'.1 ∈ am_tbl) (hin : Cond.instanceMethod M'.1 ∈ am_tbl) (hi : M'.1.name = "<init>" ∧ M'.2.2.2.1 = none) (hB : am_LkB M M' n) (hn : as.length = n) (hcat : (st.map fun v => v.category).sum ≤ 8) (hd : decode M.2.1 pc = .ok (.invokespecial idx, 3)) (he : am_EG M' (.ref b :: as) h r1) (hg : am_Good M (pc + 3) L (r1.1.toList ++ st) r1.2 r) : am_Good M pc L (as.reverse ++ .ref b :: st) h r := by
  refine am_Good.call he.1 hg fun p l e R s m args below meth c B N0 S0 D dA H locs ls X hf => ?_
  obtain ⟨⟨hx, hb, hml, hown, hts, hlk, hr, hnm⟩, ⟨xf, xl, xc, xs⟩, ⟨xn, xt, xB⟩, hK, hw, hS, hL⟩ := X
  obtain ⟨y', cc', nl', rt', f', l'⟩ := M'
  obtain ⟨hi1, hi2⟩ := hi
  dsimp only at hi2
  subst hi2
  refine va_runI (y := y') (bytes := cc') (maxL := nl') (Ts := am_tbl) (own := M.1.cls) (b := B + b) (As := as.map (am_v B)) ⟨hx, hb, hml, hown, hts⟩ (he.2 l B D dA) ⟨callB_of n hts (am_goodIn hB.1) rfl rfl rfl (hts _ hB.2.1) (hts _ hl) hB.2.2.1 ⟨by rw [xf]; exact hB.2.2.2.1, by rw [xl]; exact hB.2.2.2.2⟩, hi1, hts _ hin⟩ ⟨am_blind B D dA h (.ref b :: as), fun U hU hW => ⟨rfl, by rw [hU]; exact Nat.le_trans xB hS.1, by rw [hU]; exact hw, hK.warm hW hU hS⟩⟩ rfl (by rw [List.length_map]; exact hn) hL.1 (by show List.map _ _ = _; rw [List.map_append, List.map_reverse]; rfl) (lv_room (by rw [List.map_map]; simp only [Function.comp_def, am_v_cat]; exact hcat)) hd hf
theorem g_initN {M M' : am_MI} {pc idx n b : Nat} {L : am_L} {st as : List Value} {h : am_H} {r r1 : am_R} {host : String} (hl : Cond.methodLinkNest M.1.cls idx M'.1 host ∈ am_nest) (hin : Cond.instanceMethod M'.1 ∈ am_tbl) (hi : M'.1.name = "<init>" ∧ M'.2.2.2.1 = none) (hB : am_LkB M M' n) (hn : as.length = n) (hcat : (st.map fun v => v.category).sum ≤ 8) (hd : decode M.2.1 pc = .ok (.invokespecial idx, 3)) (he : am_EG M' (.ref b :: as) h r1) (hg : am_Good M (pc + 3) L (r1.1.toList ++ st) r1.2 r) : am_Good M pc L (as.reverse ++ .ref b :: st) h r := by
  refine am_Good.call he.1 hg fun p l e R s m args below meth c B N0 S0 D dA H locs ls X hf => ?_
  obtain ⟨⟨hx, hb, hml, hown, hts, hlk, hr, hnm⟩, ⟨xf, xl, xc, xs⟩, ⟨xn, xt, xB⟩, hK, hw, hS, hL⟩ := X
  obtain ⟨y', cc', nl', rt', f', l'⟩ := M'
  obtain ⟨hi1, hi2⟩ := hi
  dsimp only at hi2
  subst hi2
  refine va_runIN (y := y') (bytes := cc') (maxL := nl') (Ts := am_tbl) (own := M.1.cls) (b := B + b) (As := as.map (am_v B)) ⟨hx, hb, hml, hown, hts⟩ (he.2 l B D dA) ⟨va_cnB n hts (am_goodIn hB.1) rfl rfl rfl (hK.2.1 _ hl) (hts _ hB.2.1) hB.2.2.1 ⟨by rw [xf]; exact hB.2.2.2.1, by rw [xl]; exact hB.2.2.2.2⟩, hi1, hts _ hin⟩ ⟨am_blind B D dA h (.ref b :: as), fun U hU hW => ⟨rfl, by rw [hU]; exact Nat.le_trans xB hS.1, by rw [hU]; exact hw, hK.warm hW hU hS⟩⟩ rfl (by rw [List.length_map]; exact hn) hL.1 (by show List.map _ _ = _; rw [List.map_append, List.map_reverse]; rfl) (lv_room (by rw [List.map_map]; simp only [Function.comp_def, am_v_cat]; exact hcat)) hd hf
theorem g_objInit {M : am_MI} {pc idx a : Nat} {L : am_L} {st : List Value} {h : am_H} {r : am_R} (hl : Cond.methodLink M.1.cls idx Lib.objectInit ∈ am_tbl) (hin : Cond.instanceMethod Lib.objectInit ∈ am_tbl) (hc : Cond.code Lib.objectInit ⟨#[0xb1]⟩ 1 none ∈ am_tbl) (hR : 1 ≤ M.2.2.2.2.1 ∧ 20 ≤ M.2.2.2.2.2) (hcat : (st.map fun v => v.category).sum ≤ 8) (hd : decode M.2.1 pc = .ok (.invokespecial idx, 3)) (hg : am_Good M (pc + 3) L st h r) : am_Good M pc L (.ref a :: st) h r := by
  refine hg.go fun p l e R s m args below meth c B N0 S0 D dA H locs ls Q X kk => ?_
  obtain ⟨⟨hx, hb, hml, hown, hts, hlk, hr, hnm⟩, ⟨xf, xl, xc, xs⟩, ⟨xn, xt, xB⟩, hK, hw, hS, hL⟩ := X
  have hcat2 : ((st.map (am_v B)).map fun v => v.category).sum ≤ 8 := by rw [List.map_map]; simp only [Function.comp_def, am_v_cat]; exact hcat
  refine W.objInit hx hb hown (hts _ hl) (hts _ hin) (hts _ hc) rfl (by rw [hml]; exact hL.1) rfl hd (by rw [xf]; exact hR.1) ?_ (kk ls hL)
  show 2 * 0 + _ + 12 ≤ _
  rw [xl]
  have := hR.2
  omega
/-! ends -/
theorem g_ireturn {M : am_MI} {pc n : Nat} {L : am_L} {h : am_H} (hr0 : M.2.2.2.1 = some .int) (hd : decode M.2.1 pc = .ok (.ireturn, 1)) : am_Good M pc L [.retAddr n] h (some (.retAddr n), h) := by
  refine ⟨⟨Nat.le_refl _, Nat.le_refl _⟩, fun p l e R s m args below meth c B N0 S0 D dA H locs ls X => ?_⟩
  obtain ⟨⟨hx, hb, hml, hown, hts, hlk, hr, hnm⟩, ⟨xf, xl, xc, xs⟩, ⟨xn, xt, xB⟩, hK, hw, hS, hL⟩ := X
  exact W.iret hx hb (hr.trans hr0) (fun t ht _ => ⟨rfl, by rw [ht]; exact hw, hS.F ht⟩) hS.2.2 hd
theorem g_zreturn {M : am_MI} {pc n : Nat} {L : am_L} {h : am_H} (hr0 : M.2.2.2.1 = some .boolean) (hn : n < 2) (hd : decode M.2.1 pc = .ok (.ireturn, 1)) : am_Good M pc L [.retAddr n] h (some (.retAddr n), h) := by
  refine ⟨⟨Nat.le_refl _, Nat.le_refl _⟩, fun p l e R s m args below meth c B N0 S0 D dA H locs ls X => ?_⟩
  obtain ⟨⟨hx, hb, hml, hown, hts, hlk, hr, hnm⟩, ⟨xf, xl, xc, xs⟩, ⟨xn, xt, xB⟩, hK, hw, hS, hL⟩ := X
  exact W.zret hx hb (hr.trans hr0) (am_fit_ok (ty := .boolean) (v := .retAddr n) B hn).1 (fun t ht _ => ⟨rfl, by rw [ht]; exact hw, hS.F ht⟩) hS.2.2 hd
theorem g_return {M : am_MI} {pc : Nat} {L : am_L} {h : am_H} (hr0 : M.2.2.2.1 = none) (hd : decode M.2.1 pc = .ok (.return_, 1)) : am_Good M pc L [] h (none, h) := by
  refine ⟨⟨Nat.le_refl _, Nat.le_refl _⟩, fun p l e R s m args below meth c B N0 S0 D dA H locs ls X => ?_⟩
  obtain ⟨⟨hx, hb, hml, hown, hts, hlk, hr, hnm⟩, ⟨xf, xl, xc, xs⟩, ⟨xn, xt, xB⟩, hK, hw, hS, hL⟩ := X
  exact W.vret hx hb (hr.trans hr0) (fun t ht _ => ⟨rfl, by rw [ht]; exact hw, hS.F ht⟩) hS.2.2 hd
theorem g_areturn {M : am_MI} {pc a : Nat} {L : am_L} {h : am_H} {rt : FieldType} (hr0 : M.2.2.2.1 = some rt) (hrt : (∃ n, rt = .object n) ∨ ∃ t, rt = .array t) (hd : decode M.2.1 pc = .ok (.areturn, 1)) : am_Good M pc L [.ref a] h (some (.ref a), h) := by
  refine ⟨⟨Nat.le_refl _, Nat.le_refl _⟩, fun p l e R s m args below meth c B N0 S0 D dA H locs ls X => ?_⟩
  obtain ⟨⟨hx, hb, hml, hown, hts, hlk, hr, hnm⟩, ⟨xf, xl, xc, xs⟩, ⟨xn, xt, xB⟩, hK, hw, hS, hL⟩ := X
  exact W.aret hx hb (hr.trans hr0) hrt (Or.inr ⟨B + a, rfl⟩) (fun t ht _ => ⟨rfl, by rw [ht]; exact hw, hS.F ht⟩) hS.2.2 hd
/-! switches -/
theorem g_tableIn {M : am_MI} {pc a t len : Nat} {L : am_L} {st : List Value} {h : am_H} {r : am_R} {dflt lo hi off : Int} {offs : Array Int} (hd : decode M.2.1 pc = .ok (.tableswitch dflt lo hi offs, len)) (ha : a < 2147483648) (h1 : lo ≤ (a : Int)) (h2 : (a : Int) ≤ hi) (ho : offs[((a : Int) - lo).toNat]? = some off) (ht : (pc : Int) + off = (t : Int)) (hg : am_Good M t L st h r) : am_Good M pc L (.retAddr a :: st) h r := by
  refine hg.go fun p l e R s m args below meth c B N0 S0 D dA H locs ls Q X kk => ?_
  obtain ⟨⟨hx, hb, hml, hown, hts, hlk, hr, hnm⟩, ⟨xf, xl, xc, xs⟩, ⟨xn, xt, xB⟩, hK, hw, hS, hL⟩ := X
  exact lv_tableIn hx hb hd (by rw [an_toIntS ha]; omega) (by rw [an_toIntS ha]; omega) (by rw [an_toIntS ha]; exact ho) ht (kk ls hL)
theorem g_tableOut {M : am_MI} {pc a t len : Nat} {L : am_L} {st : List Value} {h : am_H} {r : am_R} {dflt lo hi : Int} {offs : Array Int} (hd : decode M.2.1 pc = .ok (.tableswitch dflt lo hi offs, len)) (ha : a < 4294967296) (h0 : 0 ≤ lo) (h1 : (a : Int) < lo ∨ hi < (a : Int)) (ht : (pc : Int) + dflt = (t : Int)) (hg : am_Good M t L st h r) : am_Good M pc L (.retAddr a :: st) h r := by
  refine hg.go fun p l e R s m args below meth c B N0 S0 D dA H locs ls Q X kk => ?_
  obtain ⟨⟨hx, hb, hml, hown, hts, hlk, hr, hnm⟩, ⟨xf, xl, xc, xs⟩, ⟨xn, xt, xB⟩, hK, hw, hS, hL⟩ := X
  exact lv_tableOut hx hb hd (an_out ha h0 h1) ht (kk ls hL)
theorem g_lookup {M : am_MI} {pc a t len : Nat} {L : am_L} {st : List Value} {h : am_H} {r : am_R} {dflt off : Int} {ps : Array (Int × Int)} (hd : decode M.2.1 pc = .ok (.lookupswitch dflt ps, len)) (hp : (ps.toList.zip (ps.toList.drop 1)).all (fun (a, next) => a.1 < next.1) = true) (ho : Op.lookupswitch.offset ps.toList dflt (Int32.ofNat a).toInt = off) (ht : (pc : Int) + off = (t : Int)) (hg : am_Good M t L st h r) : am_Good M pc L (.retAddr a :: st) h r := by
  refine hg.go fun p l e R s m args below meth c B N0 S0 D dA H locs ls Q X kk => ?_
  obtain ⟨⟨hx, hb, hml, hown, hts, hlk, hr, hnm⟩, ⟨xf, xl, xc, xs⟩, ⟨xn, xt, xB⟩, hK, hw, hS, hL⟩ := X
  exact lv_lookup hx hb hd hp ho ht (kk ls hL)
theorem g_forget {M : am_MI} {pc : Nat} {L L' : am_L} {st : List Value} {h : am_H} {r : am_R} (hL : ∀ (i : Nat) (v : Value), L'[i]? = some (some v) → L[i]? = some (some v)) (hg : am_Good M pc L' st h r) : am_Good M pc L st h r :=
  hg.go fun p l e R s m args below meth c B N0 S0 D dA H locs ls Q X kk => kk ls (X.2.2.2.2.2.2.forget hL)
end
