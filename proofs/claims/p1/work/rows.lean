section
-- ===== PART A: goes FIRST, ahead of the names: the tables' words, and 'selects' of the private methods out of them =====
/-- a private method of a class that the tables say can be made, by its rows of tables_1 -/
def lw_okq (q : MethodName × Nat) : Prop := (q.1.cls ≠ "java/lang/invoke/MethodHandle" ∧ q.1.cls ≠ "java/lang/invoke/VarHandle") ∧ Cond.instantiable q.1.cls q.2 ∈ tables_1 ∧ Cond.privateMethod q.1 ∈ tables_1 ∧ Cond.instanceMethod q.1 ∈ tables_1
theorem lw_p0 : lw_okq (⟨"OverAndBack$Reader", "readNumbers", "([CII)I"⟩, 2) := ⟨⟨by decide +kernel, by decide +kernel⟩, List.mem_of_getElem? (i := 31) (by decide +kernel), List.mem_of_getElem? (i := 396) (by decide +kernel), List.mem_of_getElem? (i := 397) (by decide +kernel)⟩
theorem lw_p1 : lw_okq (⟨"OverAndBack$Reader", "take", "(CLOverAndBack$Evening;)Z"⟩, 2) := ⟨⟨by decide +kernel, by decide +kernel⟩, List.mem_of_getElem? (i := 31) (by decide +kernel), List.mem_of_getElem? (i := 412) (by decide +kernel), List.mem_of_getElem? (i := 413) (by decide +kernel)⟩
theorem lw_p2 : lw_okq (⟨"OverAndBack$Reader", "takeMinutes", "(LOverAndBack$Evening;)Z"⟩, 2) := ⟨⟨by decide +kernel, by decide +kernel⟩, List.mem_of_getElem? (i := 31) (by decide +kernel), List.mem_of_getElem? (i := 416) (by decide +kernel), List.mem_of_getElem? (i := 417) (by decide +kernel)⟩
theorem lw_p3 : lw_okq (⟨"OverAndBack$Reader", "within", "(III)Z"⟩, 2) := ⟨⟨by decide +kernel, by decide +kernel⟩, List.mem_of_getElem? (i := 31) (by decide +kernel), List.mem_of_getElem? (i := 420) (by decide +kernel), List.mem_of_getElem? (i := 421) (by decide +kernel)⟩
theorem lw_p4 : lw_okq (⟨"OverAndBack$Reader", "takeGoing", "(LOverAndBack$Evening;)Z"⟩, 2) := ⟨⟨by decide +kernel, by decide +kernel⟩, List.mem_of_getElem? (i := 31) (by decide +kernel), List.mem_of_getElem? (i := 424) (by decide +kernel), List.mem_of_getElem? (i := 425) (by decide +kernel)⟩
theorem lw_p5 : lw_okq (⟨"OverAndBack$Reader", "isSpan", "(LOverAndBack$Evening;)Z"⟩, 2) := ⟨⟨by decide +kernel, by decide +kernel⟩, List.mem_of_getElem? (i := 31) (by decide +kernel), List.mem_of_getElem? (i := 435) (by decide +kernel), List.mem_of_getElem? (i := 436) (by decide +kernel)⟩
theorem lw_p6 : lw_okq (⟨"OverAndBack", "takeEvening", "()V"⟩, 17) := ⟨⟨by decide +kernel, by decide +kernel⟩, List.mem_of_getElem? (i := 23) (by decide +kernel), List.mem_of_getElem? (i := 439) (by decide +kernel), List.mem_of_getElem? (i := 440) (by decide +kernel)⟩
theorem lw_p7 : lw_okq (⟨"OverAndBack$Screen", "showStations", "(LOverAndBack$Rows;)V"⟩, 3) := ⟨⟨by decide +kernel, by decide +kernel⟩, List.mem_of_getElem? (i := 148) (by decide +kernel), List.mem_of_getElem? (i := 458) (by decide +kernel), List.mem_of_getElem? (i := 459) (by decide +kernel)⟩
theorem lw_p8 : lw_okq (⟨"OverAndBack$Screen", "put", "(IIIII)V"⟩, 3) := ⟨⟨by decide +kernel, by decide +kernel⟩, List.mem_of_getElem? (i := 148) (by decide +kernel), List.mem_of_getElem? (i := 463) (by decide +kernel), List.mem_of_getElem? (i := 464) (by decide +kernel)⟩
theorem lw_p9 : lw_okq (⟨"OverAndBack$Screen", "showScenes", "(LOverAndBack$Rows;I)V"⟩, 3) := ⟨⟨by decide +kernel, by decide +kernel⟩, List.mem_of_getElem? (i := 148) (by decide +kernel), List.mem_of_getElem? (i := 470) (by decide +kernel), List.mem_of_getElem? (i := 471) (by decide +kernel)⟩
theorem lw_p10 : lw_okq (⟨"OverAndBack$Screen", "showScene", "(LOverAndBack$Rows;I)V"⟩, 3) := ⟨⟨by decide +kernel, by decide +kernel⟩, List.mem_of_getElem? (i := 148) (by decide +kernel), List.mem_of_getElem? (i := 474) (by decide +kernel), List.mem_of_getElem? (i := 475) (by decide +kernel)⟩
theorem lw_p11 : lw_okq (⟨"OverAndBack$Screen", "showBreak", "(LOverAndBack$Rows;I)V"⟩, 3) := ⟨⟨by decide +kernel, by decide +kernel⟩, List.mem_of_getElem? (i := 148) (by decide +kernel), List.mem_of_getElem? (i := 478) (by decide +kernel), List.mem_of_getElem? (i := 479) (by decide +kernel)⟩
theorem lw_p12 : lw_okq (⟨"OverAndBack$Routes", "greatestAt", "(LOverAndBack$Evening;LOverAndBack$Screen;II)I"⟩, 4) := ⟨⟨by decide +kernel, by decide +kernel⟩, List.mem_of_getElem? (i := 195) (by decide +kernel), List.mem_of_getElem? (i := 487) (by decide +kernel), List.mem_of_getElem? (i := 488) (by decide +kernel)⟩
theorem lw_p13 : lw_okq (⟨"OverAndBack$Routes", "worthByGoing", "(LOverAndBack$Screen;III)I"⟩, 4) := ⟨⟨by decide +kernel, by decide +kernel⟩, List.mem_of_getElem? (i := 195) (by decide +kernel), List.mem_of_getElem? (i := 499) (by decide +kernel), List.mem_of_getElem? (i := 500) (by decide +kernel)⟩
theorem lw_p14 : lw_okq (⟨"OverAndBack", "isStation", "(I)Z"⟩, 17) := ⟨⟨by decide +kernel, by decide +kernel⟩, List.mem_of_getElem? (i := 23) (by decide +kernel), List.mem_of_getElem? (i := 585) (by decide +kernel), List.mem_of_getElem? (i := 586) (by decide +kernel)⟩
theorem lw_p15 : lw_okq (⟨"OverAndBack", "isMinute", "(I)Z"⟩, 17) := ⟨⟨by decide +kernel, by decide +kernel⟩, List.mem_of_getElem? (i := 23) (by decide +kernel), List.mem_of_getElem? (i := 589) (by decide +kernel), List.mem_of_getElem? (i := 590) (by decide +kernel)⟩
def lw_privs_1 : List (MethodName × Nat) := [(⟨"OverAndBack$Reader", "readNumbers", "([CII)I"⟩, 2), (⟨"OverAndBack$Reader", "take", "(CLOverAndBack$Evening;)Z"⟩, 2), (⟨"OverAndBack$Reader", "takeMinutes", "(LOverAndBack$Evening;)Z"⟩, 2), (⟨"OverAndBack$Reader", "within", "(III)Z"⟩, 2), (⟨"OverAndBack$Reader", "takeGoing", "(LOverAndBack$Evening;)Z"⟩, 2), (⟨"OverAndBack$Reader", "isSpan", "(LOverAndBack$Evening;)Z"⟩, 2), (⟨"OverAndBack", "takeEvening", "()V"⟩, 17), (⟨"OverAndBack$Screen", "showStations", "(LOverAndBack$Rows;)V"⟩, 3), (⟨"OverAndBack$Screen", "put", "(IIIII)V"⟩, 3), (⟨"OverAndBack$Screen", "showScenes", "(LOverAndBack$Rows;I)V"⟩, 3), (⟨"OverAndBack$Screen", "showScene", "(LOverAndBack$Rows;I)V"⟩, 3), (⟨"OverAndBack$Screen", "showBreak", "(LOverAndBack$Rows;I)V"⟩, 3), (⟨"OverAndBack$Routes", "greatestAt", "(LOverAndBack$Evening;LOverAndBack$Screen;II)I"⟩, 4), (⟨"OverAndBack$Routes", "worthByGoing", "(LOverAndBack$Screen;III)I"⟩, 4), (⟨"OverAndBack", "isStation", "(I)Z"⟩, 17), (⟨"OverAndBack", "isMinute", "(I)Z"⟩, 17)]
theorem lw_r1 : ∀ q ∈ lw_privs_1, lw_okq q := List.forall_mem_cons.mpr ⟨lw_p0, List.forall_mem_cons.mpr ⟨lw_p1, List.forall_mem_cons.mpr ⟨lw_p2, List.forall_mem_cons.mpr ⟨lw_p3, List.forall_mem_cons.mpr ⟨lw_p4, List.forall_mem_cons.mpr ⟨lw_p5, List.forall_mem_cons.mpr ⟨lw_p6, List.forall_mem_cons.mpr ⟨lw_p7, List.forall_mem_cons.mpr ⟨lw_p8, List.forall_mem_cons.mpr ⟨lw_p9, List.forall_mem_cons.mpr ⟨lw_p10, List.forall_mem_cons.mpr ⟨lw_p11, List.forall_mem_cons.mpr ⟨lw_p12, List.forall_mem_cons.mpr ⟨lw_p13, List.forall_mem_cons.mpr ⟨lw_p14, List.forall_mem_cons.mpr ⟨lw_p15, fun _ h => absurd h List.not_mem_nil⟩⟩⟩⟩⟩⟩⟩⟩⟩⟩⟩⟩⟩⟩⟩⟩
theorem lw_p16 : lw_okq (⟨"OverAndBack", "isWatcher", "(I)Z"⟩, 17) := ⟨⟨by decide +kernel, by decide +kernel⟩, List.mem_of_getElem? (i := 23) (by decide +kernel), List.mem_of_getElem? (i := 617) (by decide +kernel), List.mem_of_getElem? (i := 618) (by decide +kernel)⟩
theorem lw_p17 : lw_okq (⟨"OverAndBack", "follow", "(ILOverAndBack$Screen;)V"⟩, 17) := ⟨⟨by decide +kernel, by decide +kernel⟩, List.mem_of_getElem? (i := 23) (by decide +kernel), List.mem_of_getElem? (i := 621) (by decide +kernel), List.mem_of_getElem? (i := 622) (by decide +kernel)⟩
theorem lw_p18 : lw_okq (⟨"OverAndBack$Walk", "start", "(I)V"⟩, 7) := ⟨⟨by decide +kernel, by decide +kernel⟩, List.mem_of_getElem? (i := 164) (by decide +kernel), List.mem_of_getElem? (i := 634) (by decide +kernel), List.mem_of_getElem? (i := 635) (by decide +kernel)⟩
theorem lw_p19 : lw_okq (⟨"OverAndBack$Walk", "goTo", "(III)V"⟩, 7) := ⟨⟨by decide +kernel, by decide +kernel⟩, List.mem_of_getElem? (i := 164) (by decide +kernel), List.mem_of_getElem? (i := 646) (by decide +kernel), List.mem_of_getElem? (i := 647) (by decide +kernel)⟩
theorem lw_p20 : lw_okq (⟨"OverAndBack$Walk", "look", "(LOverAndBack$Screen;I)V"⟩, 7) := ⟨⟨by decide +kernel, by decide +kernel⟩, List.mem_of_getElem? (i := 164) (by decide +kernel), List.mem_of_getElem? (i := 650) (by decide +kernel), List.mem_of_getElem? (i := 651) (by decide +kernel)⟩
theorem lw_p21 : lw_okq (⟨"OverAndBack$Walk", "wish", "(LOverAndBack$Screen;IIII)I"⟩, 7) := ⟨⟨by decide +kernel, by decide +kernel⟩, List.mem_of_getElem? (i := 164) (by decide +kernel), List.mem_of_getElem? (i := 672) (by decide +kernel), List.mem_of_getElem? (i := 673) (by decide +kernel)⟩
theorem lw_p22 : lw_okq (⟨"OverAndBack$Walk", "unbroken", "(LOverAndBack$Screen;II)I"⟩, 7) := ⟨⟨by decide +kernel, by decide +kernel⟩, List.mem_of_getElem? (i := 164) (by decide +kernel), List.mem_of_getElem? (i := 676) (by decide +kernel), List.mem_of_getElem? (i := 677) (by decide +kernel)⟩
theorem lw_p23 : lw_okq (⟨"OverAndBack$Walk", "worthiest", "(LOverAndBack$Screen;II)I"⟩, 7) := ⟨⟨by decide +kernel, by decide +kernel⟩, List.mem_of_getElem? (i := 164) (by decide +kernel), List.mem_of_getElem? (i := 681) (by decide +kernel), List.mem_of_getElem? (i := 682) (by decide +kernel)⟩
theorem lw_p24 : lw_okq (⟨"OverAndBack$Routes", "goalWorth", "(LOverAndBack$Evening;LOverAndBack$Screen;III)I"⟩, 4) := ⟨⟨by decide +kernel, by decide +kernel⟩, List.mem_of_getElem? (i := 195) (by decide +kernel), List.mem_of_getElem? (i := 745) (by decide +kernel), List.mem_of_getElem? (i := 746) (by decide +kernel)⟩
theorem lw_p25 : lw_okq (⟨"OverAndBack$Learning", "survey", "(I)V"⟩, 11) := ⟨⟨by decide +kernel, by decide +kernel⟩, List.mem_of_getElem? (i := 216) (by decide +kernel), List.mem_of_getElem? (i := 758) (by decide +kernel), List.mem_of_getElem? (i := 759) (by decide +kernel)⟩
theorem lw_p26 : lw_okq (⟨"OverAndBack$Learning", "reach", "(IIII)V"⟩, 11) := ⟨⟨by decide +kernel, by decide +kernel⟩, List.mem_of_getElem? (i := 216) (by decide +kernel), List.mem_of_getElem? (i := 764) (by decide +kernel), List.mem_of_getElem? (i := 765) (by decide +kernel)⟩
theorem lw_p27 : lw_okq (⟨"OverAndBack$Learning", "takeOut", "(III)V"⟩, 11) := ⟨⟨by decide +kernel, by decide +kernel⟩, List.mem_of_getElem? (i := 216) (by decide +kernel), List.mem_of_getElem? (i := 774) (by decide +kernel), List.mem_of_getElem? (i := 775) (by decide +kernel)⟩
theorem lw_p28 : lw_okq (⟨"OverAndBack$Learning", "passOn", "(IIIII)V"⟩, 11) := ⟨⟨by decide +kernel, by decide +kernel⟩, List.mem_of_getElem? (i := 216) (by decide +kernel), List.mem_of_getElem? (i := 778) (by decide +kernel), List.mem_of_getElem? (i := 779) (by decide +kernel)⟩
theorem lw_p29 : lw_okq (⟨"OverAndBack$Learning", "note", "(II)V"⟩, 11) := ⟨⟨by decide +kernel, by decide +kernel⟩, List.mem_of_getElem? (i := 216) (by decide +kernel), List.mem_of_getElem? (i := 782) (by decide +kernel), List.mem_of_getElem? (i := 783) (by decide +kernel)⟩
theorem lw_p30 : lw_okq (⟨"OverAndBack$Learning", "see", "(IIII)V"⟩, 11) := ⟨⟨by decide +kernel, by decide +kernel⟩, List.mem_of_getElem? (i := 216) (by decide +kernel), List.mem_of_getElem? (i := 786) (by decide +kernel), List.mem_of_getElem? (i := 787) (by decide +kernel)⟩
theorem lw_p31 : lw_okq (⟨"OverAndBack", "fairBound", "(I)I"⟩, 17) := ⟨⟨by decide +kernel, by decide +kernel⟩, List.mem_of_getElem? (i := 23) (by decide +kernel), List.mem_of_getElem? (i := 813) (by decide +kernel), List.mem_of_getElem? (i := 814) (by decide +kernel)⟩
def lw_privs_2 : List (MethodName × Nat) := [(⟨"OverAndBack", "isWatcher", "(I)Z"⟩, 17), (⟨"OverAndBack", "follow", "(ILOverAndBack$Screen;)V"⟩, 17), (⟨"OverAndBack$Walk", "start", "(I)V"⟩, 7), (⟨"OverAndBack$Walk", "goTo", "(III)V"⟩, 7), (⟨"OverAndBack$Walk", "look", "(LOverAndBack$Screen;I)V"⟩, 7), (⟨"OverAndBack$Walk", "wish", "(LOverAndBack$Screen;IIII)I"⟩, 7), (⟨"OverAndBack$Walk", "unbroken", "(LOverAndBack$Screen;II)I"⟩, 7), (⟨"OverAndBack$Walk", "worthiest", "(LOverAndBack$Screen;II)I"⟩, 7), (⟨"OverAndBack$Routes", "goalWorth", "(LOverAndBack$Evening;LOverAndBack$Screen;III)I"⟩, 4), (⟨"OverAndBack$Learning", "survey", "(I)V"⟩, 11), (⟨"OverAndBack$Learning", "reach", "(IIII)V"⟩, 11), (⟨"OverAndBack$Learning", "takeOut", "(III)V"⟩, 11), (⟨"OverAndBack$Learning", "passOn", "(IIIII)V"⟩, 11), (⟨"OverAndBack$Learning", "note", "(II)V"⟩, 11), (⟨"OverAndBack$Learning", "see", "(IIII)V"⟩, 11), (⟨"OverAndBack", "fairBound", "(I)I"⟩, 17)]
theorem lw_r2 : ∀ q ∈ lw_privs_2, lw_okq q := List.forall_mem_cons.mpr ⟨lw_p16, List.forall_mem_cons.mpr ⟨lw_p17, List.forall_mem_cons.mpr ⟨lw_p18, List.forall_mem_cons.mpr ⟨lw_p19, List.forall_mem_cons.mpr ⟨lw_p20, List.forall_mem_cons.mpr ⟨lw_p21, List.forall_mem_cons.mpr ⟨lw_p22, List.forall_mem_cons.mpr ⟨lw_p23, List.forall_mem_cons.mpr ⟨lw_p24, List.forall_mem_cons.mpr ⟨lw_p25, List.forall_mem_cons.mpr ⟨lw_p26, List.forall_mem_cons.mpr ⟨lw_p27, List.forall_mem_cons.mpr ⟨lw_p28, List.forall_mem_cons.mpr ⟨lw_p29, List.forall_mem_cons.mpr ⟨lw_p30, List.forall_mem_cons.mpr ⟨lw_p31, fun _ h => absurd h List.not_mem_nil⟩⟩⟩⟩⟩⟩⟩⟩⟩⟩⟩⟩⟩⟩⟩⟩
theorem lw_p32 : lw_okq (⟨"OverAndBack$Box", "weigh", "(LOverAndBack$Evening;LOverAndBack$Screen;)V"⟩, 9) := ⟨⟨by decide +kernel, by decide +kernel⟩, List.mem_of_getElem? (i := 262) (by decide +kernel), List.mem_of_getElem? (i := 828) (by decide +kernel), List.mem_of_getElem? (i := 829) (by decide +kernel)⟩
theorem lw_p33 : lw_okq (⟨"OverAndBack$Box", "tryWay", "(LOverAndBack$Evening;)V"⟩, 9) := ⟨⟨by decide +kernel, by decide +kernel⟩, List.mem_of_getElem? (i := 262) (by decide +kernel), List.mem_of_getElem? (i := 837) (by decide +kernel), List.mem_of_getElem? (i := 838) (by decide +kernel)⟩
theorem lw_p34 : lw_okq (⟨"OverAndBack$Box", "leastOf", "(LOverAndBack$Evening;)I"⟩, 9) := ⟨⟨by decide +kernel, by decide +kernel⟩, List.mem_of_getElem? (i := 262) (by decide +kernel), List.mem_of_getElem? (i := 842) (by decide +kernel), List.mem_of_getElem? (i := 843) (by decide +kernel)⟩
theorem lw_p35 : lw_okq (⟨"OverAndBack$Box", "nextWay", "(I)Z"⟩, 9) := ⟨⟨by decide +kernel, by decide +kernel⟩, List.mem_of_getElem? (i := 262) (by decide +kernel), List.mem_of_getElem? (i := 847) (by decide +kernel), List.mem_of_getElem? (i := 848) (by decide +kernel)⟩
theorem lw_p36 : lw_okq (⟨"OverAndBack", "isWatcherOrPlan", "(I)Z"⟩, 17) := ⟨⟨by decide +kernel, by decide +kernel⟩, List.mem_of_getElem? (i := 23) (by decide +kernel), List.mem_of_getElem? (i := 863) (by decide +kernel), List.mem_of_getElem? (i := 864) (by decide +kernel)⟩
theorem lw_p37 : lw_okq (⟨"OverAndBack", "keptPlan", "(I)LOverAndBack$Plan;"⟩, 17) := ⟨⟨by decide +kernel, by decide +kernel⟩, List.mem_of_getElem? (i := 23) (by decide +kernel), List.mem_of_getElem? (i := 906) (by decide +kernel), List.mem_of_getElem? (i := 907) (by decide +kernel)⟩
theorem lw_p38 : lw_okq (⟨"OverAndBackModel", "readItem", "()Z"⟩, 55) := ⟨⟨by decide +kernel, by decide +kernel⟩, List.mem_of_getElem? (i := 926) (by decide +kernel), List.mem_of_getElem? (i := 1118) (by decide +kernel), List.mem_of_getElem? (i := 1119) (by decide +kernel)⟩
theorem lw_p39 : lw_okq (⟨"OverAndBackModel", "letterAt", "(I)I"⟩, 55) := ⟨⟨by decide +kernel, by decide +kernel⟩, List.mem_of_getElem? (i := 926) (by decide +kernel), List.mem_of_getElem? (i := 1122) (by decide +kernel), List.mem_of_getElem? (i := 1123) (by decide +kernel)⟩
theorem lw_p40 : lw_okq (⟨"OverAndBackModel", "readLength", "()Z"⟩, 55) := ⟨⟨by decide +kernel, by decide +kernel⟩, List.mem_of_getElem? (i := 926) (by decide +kernel), List.mem_of_getElem? (i := 1126) (by decide +kernel), List.mem_of_getElem? (i := 1127) (by decide +kernel)⟩
theorem lw_p41 : lw_okq (⟨"OverAndBackModel", "readNumbers", "(I)Z"⟩, 55) := ⟨⟨by decide +kernel, by decide +kernel⟩, List.mem_of_getElem? (i := 926) (by decide +kernel), List.mem_of_getElem? (i := 1130) (by decide +kernel), List.mem_of_getElem? (i := 1131) (by decide +kernel)⟩
theorem lw_p42 : lw_okq (⟨"OverAndBackModel", "isTold", "(III)Z"⟩, 55) := ⟨⟨by decide +kernel, by decide +kernel⟩, List.mem_of_getElem? (i := 926) (by decide +kernel), List.mem_of_getElem? (i := 1137) (by decide +kernel), List.mem_of_getElem? (i := 1138) (by decide +kernel)⟩
theorem lw_p43 : lw_okq (⟨"OverAndBackModel", "readStation", "()Z"⟩, 55) := ⟨⟨by decide +kernel, by decide +kernel⟩, List.mem_of_getElem? (i := 926) (by decide +kernel), List.mem_of_getElem? (i := 1141) (by decide +kernel), List.mem_of_getElem? (i := 1142) (by decide +kernel)⟩
theorem lw_p44 : lw_okq (⟨"OverAndBackModel", "readSceneOf", "()Z"⟩, 55) := ⟨⟨by decide +kernel, by decide +kernel⟩, List.mem_of_getElem? (i := 926) (by decide +kernel), List.mem_of_getElem? (i := 1145) (by decide +kernel), List.mem_of_getElem? (i := 1146) (by decide +kernel)⟩
theorem lw_p45 : lw_okq (⟨"OverAndBackModel", "isSpan", "()Z"⟩, 55) := ⟨⟨by decide +kernel, by decide +kernel⟩, List.mem_of_getElem? (i := 926) (by decide +kernel), List.mem_of_getElem? (i := 1149) (by decide +kernel), List.mem_of_getElem? (i := 1150) (by decide +kernel)⟩
theorem lw_p46 : lw_okq (⟨"OverAndBackModel", "readBreak", "()Z"⟩, 55) := ⟨⟨by decide +kernel, by decide +kernel⟩, List.mem_of_getElem? (i := 926) (by decide +kernel), List.mem_of_getElem? (i := 1156) (by decide +kernel), List.mem_of_getElem? (i := 1157) (by decide +kernel)⟩
theorem lw_p47 : lw_okq (⟨"OverAndBackModel", "readChance", "()Z"⟩, 55) := ⟨⟨by decide +kernel, by decide +kernel⟩, List.mem_of_getElem? (i := 926) (by decide +kernel), List.mem_of_getElem? (i := 1160) (by decide +kernel), List.mem_of_getElem? (i := 1161) (by decide +kernel)⟩
def lw_privs_3 : List (MethodName × Nat) := [(⟨"OverAndBack$Box", "weigh", "(LOverAndBack$Evening;LOverAndBack$Screen;)V"⟩, 9), (⟨"OverAndBack$Box", "tryWay", "(LOverAndBack$Evening;)V"⟩, 9), (⟨"OverAndBack$Box", "leastOf", "(LOverAndBack$Evening;)I"⟩, 9), (⟨"OverAndBack$Box", "nextWay", "(I)Z"⟩, 9), (⟨"OverAndBack", "isWatcherOrPlan", "(I)Z"⟩, 17), (⟨"OverAndBack", "keptPlan", "(I)LOverAndBack$Plan;"⟩, 17), (⟨"OverAndBackModel", "readItem", "()Z"⟩, 55), (⟨"OverAndBackModel", "letterAt", "(I)I"⟩, 55), (⟨"OverAndBackModel", "readLength", "()Z"⟩, 55), (⟨"OverAndBackModel", "readNumbers", "(I)Z"⟩, 55), (⟨"OverAndBackModel", "isTold", "(III)Z"⟩, 55), (⟨"OverAndBackModel", "readStation", "()Z"⟩, 55), (⟨"OverAndBackModel", "readSceneOf", "()Z"⟩, 55), (⟨"OverAndBackModel", "isSpan", "()Z"⟩, 55), (⟨"OverAndBackModel", "readBreak", "()Z"⟩, 55), (⟨"OverAndBackModel", "readChance", "()Z"⟩, 55)]
theorem lw_r3 : ∀ q ∈ lw_privs_3, lw_okq q := List.forall_mem_cons.mpr ⟨lw_p32, List.forall_mem_cons.mpr ⟨lw_p33, List.forall_mem_cons.mpr ⟨lw_p34, List.forall_mem_cons.mpr ⟨lw_p35, List.forall_mem_cons.mpr ⟨lw_p36, List.forall_mem_cons.mpr ⟨lw_p37, List.forall_mem_cons.mpr ⟨lw_p38, List.forall_mem_cons.mpr ⟨lw_p39, List.forall_mem_cons.mpr ⟨lw_p40, List.forall_mem_cons.mpr ⟨lw_p41, List.forall_mem_cons.mpr ⟨lw_p42, List.forall_mem_cons.mpr ⟨lw_p43, List.forall_mem_cons.mpr ⟨lw_p44, List.forall_mem_cons.mpr ⟨lw_p45, List.forall_mem_cons.mpr ⟨lw_p46, List.forall_mem_cons.mpr ⟨lw_p47, fun _ h => absurd h List.not_mem_nil⟩⟩⟩⟩⟩⟩⟩⟩⟩⟩⟩⟩⟩⟩⟩⟩
theorem lw_p48 : lw_okq (⟨"OverAndBackModel", "readGoes", "()Z"⟩, 55) := ⟨⟨by decide +kernel, by decide +kernel⟩, List.mem_of_getElem? (i := 926) (by decide +kernel), List.mem_of_getElem? (i := 1164) (by decide +kernel), List.mem_of_getElem? (i := 1165) (by decide +kernel)⟩
theorem lw_p49 : lw_okq (⟨"OverAndBackModel", "readRuleOf", "()Z"⟩, 55) := ⟨⟨by decide +kernel, by decide +kernel⟩, List.mem_of_getElem? (i := 926) (by decide +kernel), List.mem_of_getElem? (i := 1168) (by decide +kernel), List.mem_of_getElem? (i := 1169) (by decide +kernel)⟩
theorem lw_p50 : lw_okq (⟨"OverAndBackModel", "readWatcherOf", "()Z"⟩, 55) := ⟨⟨by decide +kernel, by decide +kernel⟩, List.mem_of_getElem? (i := 926) (by decide +kernel), List.mem_of_getElem? (i := 1172) (by decide +kernel), List.mem_of_getElem? (i := 1173) (by decide +kernel)⟩
theorem lw_p51 : lw_okq (⟨"OverAndBackModel", "isStation", "(I)Z"⟩, 55) := ⟨⟨by decide +kernel, by decide +kernel⟩, List.mem_of_getElem? (i := 926) (by decide +kernel), List.mem_of_getElem? (i := 1185) (by decide +kernel), List.mem_of_getElem? (i := 1186) (by decide +kernel)⟩
theorem lw_p52 : lw_okq (⟨"OverAndBackModel", "isMinute", "(I)Z"⟩, 55) := ⟨⟨by decide +kernel, by decide +kernel⟩, List.mem_of_getElem? (i := 926) (by decide +kernel), List.mem_of_getElem? (i := 1189) (by decide +kernel), List.mem_of_getElem? (i := 1190) (by decide +kernel)⟩
theorem lw_p53 : lw_okq (⟨"OverAndBackModel", "layCase", "(II)V"⟩, 55) := ⟨⟨by decide +kernel, by decide +kernel⟩, List.mem_of_getElem? (i := 926) (by decide +kernel), List.mem_of_getElem? (i := 1193) (by decide +kernel), List.mem_of_getElem? (i := 1194) (by decide +kernel)⟩
theorem lw_p54 : lw_okq (⟨"OverAndBackModel", "laySpots", "(I)V"⟩, 55) := ⟨⟨by decide +kernel, by decide +kernel⟩, List.mem_of_getElem? (i := 926) (by decide +kernel), List.mem_of_getElem? (i := 1197) (by decide +kernel), List.mem_of_getElem? (i := 1198) (by decide +kernel)⟩
theorem lw_p55 : lw_okq (⟨"OverAndBackModel", "breaks", "([II)V"⟩, 55) := ⟨⟨by decide +kernel, by decide +kernel⟩, List.mem_of_getElem? (i := 926) (by decide +kernel), List.mem_of_getElem? (i := 1201) (by decide +kernel), List.mem_of_getElem? (i := 1202) (by decide +kernel)⟩
theorem lw_p56 : lw_okq (⟨"OverAndBackModel", "layBreaks", "()V"⟩, 55) := ⟨⟨by decide +kernel, by decide +kernel⟩, List.mem_of_getElem? (i := 926) (by decide +kernel), List.mem_of_getElem? (i := 1208) (by decide +kernel), List.mem_of_getElem? (i := 1209) (by decide +kernel)⟩
theorem lw_p57 : lw_okq (⟨"OverAndBackModel", "closed", "(I)I"⟩, 55) := ⟨⟨by decide +kernel, by decide +kernel⟩, List.mem_of_getElem? (i := 926) (by decide +kernel), List.mem_of_getElem? (i := 1219) (by decide +kernel), List.mem_of_getElem? (i := 1220) (by decide +kernel)⟩
theorem lw_p58 : lw_okq (⟨"OverAndBackModel", "isWatcher", "(I)Z"⟩, 55) := ⟨⟨by decide +kernel, by decide +kernel⟩, List.mem_of_getElem? (i := 926) (by decide +kernel), List.mem_of_getElem? (i := 1227) (by decide +kernel), List.mem_of_getElem? (i := 1228) (by decide +kernel)⟩
theorem lw_p59 : lw_okq (⟨"OverAndBackModel", "watchesOf", "(I)V"⟩, 55) := ⟨⟨by decide +kernel, by decide +kernel⟩, List.mem_of_getElem? (i := 926) (by decide +kernel), List.mem_of_getElem? (i := 1231) (by decide +kernel), List.mem_of_getElem? (i := 1232) (by decide +kernel)⟩
theorem lw_p60 : lw_okq (⟨"OverAndBackModel", "watches", "(II)V"⟩, 55) := ⟨⟨by decide +kernel, by decide +kernel⟩, List.mem_of_getElem? (i := 926) (by decide +kernel), List.mem_of_getElem? (i := 1235) (by decide +kernel), List.mem_of_getElem? (i := 1236) (by decide +kernel)⟩
theorem lw_p61 : lw_okq (⟨"OverAndBackModel", "begins", "()V"⟩, 55) := ⟨⟨by decide +kernel, by decide +kernel⟩, List.mem_of_getElem? (i := 926) (by decide +kernel), List.mem_of_getElem? (i := 1239) (by decide +kernel), List.mem_of_getElem? (i := 1240) (by decide +kernel)⟩
theorem lw_p62 : lw_okq (⟨"OverAndBackModel", "wants", "(IIII)I"⟩, 55) := ⟨⟨by decide +kernel, by decide +kernel⟩, List.mem_of_getElem? (i := 926) (by decide +kernel), List.mem_of_getElem? (i := 1243) (by decide +kernel), List.mem_of_getElem? (i := 1244) (by decide +kernel)⟩
theorem lw_p63 : lw_okq (⟨"OverAndBackModel", "wantsOver", "(II)I"⟩, 55) := ⟨⟨by decide +kernel, by decide +kernel⟩, List.mem_of_getElem? (i := 926) (by decide +kernel), List.mem_of_getElem? (i := 1247) (by decide +kernel), List.mem_of_getElem? (i := 1248) (by decide +kernel)⟩
def lw_privs_4 : List (MethodName × Nat) := [(⟨"OverAndBackModel", "readGoes", "()Z"⟩, 55), (⟨"OverAndBackModel", "readRuleOf", "()Z"⟩, 55), (⟨"OverAndBackModel", "readWatcherOf", "()Z"⟩, 55), (⟨"OverAndBackModel", "isStation", "(I)Z"⟩, 55), (⟨"OverAndBackModel", "isMinute", "(I)Z"⟩, 55), (⟨"OverAndBackModel", "layCase", "(II)V"⟩, 55), (⟨"OverAndBackModel", "laySpots", "(I)V"⟩, 55), (⟨"OverAndBackModel", "breaks", "([II)V"⟩, 55), (⟨"OverAndBackModel", "layBreaks", "()V"⟩, 55), (⟨"OverAndBackModel", "closed", "(I)I"⟩, 55), (⟨"OverAndBackModel", "isWatcher", "(I)Z"⟩, 55), (⟨"OverAndBackModel", "watchesOf", "(I)V"⟩, 55), (⟨"OverAndBackModel", "watches", "(II)V"⟩, 55), (⟨"OverAndBackModel", "begins", "()V"⟩, 55), (⟨"OverAndBackModel", "wants", "(IIII)I"⟩, 55), (⟨"OverAndBackModel", "wantsOver", "(II)I"⟩, 55)]
theorem lw_r4 : ∀ q ∈ lw_privs_4, lw_okq q := List.forall_mem_cons.mpr ⟨lw_p48, List.forall_mem_cons.mpr ⟨lw_p49, List.forall_mem_cons.mpr ⟨lw_p50, List.forall_mem_cons.mpr ⟨lw_p51, List.forall_mem_cons.mpr ⟨lw_p52, List.forall_mem_cons.mpr ⟨lw_p53, List.forall_mem_cons.mpr ⟨lw_p54, List.forall_mem_cons.mpr ⟨lw_p55, List.forall_mem_cons.mpr ⟨lw_p56, List.forall_mem_cons.mpr ⟨lw_p57, List.forall_mem_cons.mpr ⟨lw_p58, List.forall_mem_cons.mpr ⟨lw_p59, List.forall_mem_cons.mpr ⟨lw_p60, List.forall_mem_cons.mpr ⟨lw_p61, List.forall_mem_cons.mpr ⟨lw_p62, List.forall_mem_cons.mpr ⟨lw_p63, fun _ h => absurd h List.not_mem_nil⟩⟩⟩⟩⟩⟩⟩⟩⟩⟩⟩⟩⟩⟩⟩⟩
theorem lw_p64 : lw_okq (⟨"OverAndBackModel", "wantsBest", "(II)I"⟩, 55) := ⟨⟨by decide +kernel, by decide +kernel⟩, List.mem_of_getElem? (i := 926) (by decide +kernel), List.mem_of_getElem? (i := 1251) (by decide +kernel), List.mem_of_getElem? (i := 1252) (by decide +kernel)⟩
theorem lw_p65 : lw_okq (⟨"OverAndBackModel", "sees", "(II)V"⟩, 55) := ⟨⟨by decide +kernel, by decide +kernel⟩, List.mem_of_getElem? (i := 926) (by decide +kernel), List.mem_of_getElem? (i := 1255) (by decide +kernel), List.mem_of_getElem? (i := 1256) (by decide +kernel)⟩
theorem lw_p66 : lw_okq (⟨"OverAndBackModel", "layMost", "()V"⟩, 55) := ⟨⟨by decide +kernel, by decide +kernel⟩, List.mem_of_getElem? (i := 926) (by decide +kernel), List.mem_of_getElem? (i := 1259) (by decide +kernel), List.mem_of_getElem? (i := 1260) (by decide +kernel)⟩
theorem lw_p67 : lw_okq (⟨"OverAndBackModel", "bestGoing", "(II)I"⟩, 55) := ⟨⟨by decide +kernel, by decide +kernel⟩, List.mem_of_getElem? (i := 926) (by decide +kernel), List.mem_of_getElem? (i := 1263) (by decide +kernel), List.mem_of_getElem? (i := 1264) (by decide +kernel)⟩
theorem lw_p68 : lw_okq (⟨"OverAndBackModel", "byGoing", "(II)I"⟩, 55) := ⟨⟨by decide +kernel, by decide +kernel⟩, List.mem_of_getElem? (i := 926) (by decide +kernel), List.mem_of_getElem? (i := 1267) (by decide +kernel), List.mem_of_getElem? (i := 1268) (by decide +kernel)⟩
theorem lw_p69 : lw_okq (⟨"OverAndBackModel", "remembers", "(I)V"⟩, 55) := ⟨⟨by decide +kernel, by decide +kernel⟩, List.mem_of_getElem? (i := 926) (by decide +kernel), List.mem_of_getElem? (i := 1279) (by decide +kernel), List.mem_of_getElem? (i := 1280) (by decide +kernel)⟩
theorem lw_p70 : lw_okq (⟨"OverAndBackModel", "layPlan", "()V"⟩, 55) := ⟨⟨by decide +kernel, by decide +kernel⟩, List.mem_of_getElem? (i := 926) (by decide +kernel), List.mem_of_getElem? (i := 1295) (by decide +kernel), List.mem_of_getElem? (i := 1296) (by decide +kernel)⟩
theorem lw_p71 : lw_okq (⟨"OverAndBackModel", "plans", "()V"⟩, 55) := ⟨⟨by decide +kernel, by decide +kernel⟩, List.mem_of_getElem? (i := 926) (by decide +kernel), List.mem_of_getElem? (i := 1303) (by decide +kernel), List.mem_of_getElem? (i := 1304) (by decide +kernel)⟩
theorem lw_p72 : lw_okq (⟨"OverAndBackModel", "layFew", "(I)V"⟩, 55) := ⟨⟨by decide +kernel, by decide +kernel⟩, List.mem_of_getElem? (i := 926) (by decide +kernel), List.mem_of_getElem? (i := 1319) (by decide +kernel), List.mem_of_getElem? (i := 1320) (by decide +kernel)⟩
theorem lw_p73 : lw_okq (⟨"OverAndBackModel", "comes", "(IIII)V"⟩, 55) := ⟨⟨by decide +kernel, by decide +kernel⟩, List.mem_of_getElem? (i := 926) (by decide +kernel), List.mem_of_getElem? (i := 1326) (by decide +kernel), List.mem_of_getElem? (i := 1327) (by decide +kernel)⟩
theorem lw_p74 : lw_okq (⟨"OverAndBackModel", "findFew", "(I)V"⟩, 55) := ⟨⟨by decide +kernel, by decide +kernel⟩, List.mem_of_getElem? (i := 926) (by decide +kernel), List.mem_of_getElem? (i := 1330) (by decide +kernel), List.mem_of_getElem? (i := 1331) (by decide +kernel)⟩
theorem lw_p75 : lw_okq (⟨"OverAndBackModel", "turns", "()I"⟩, 55) := ⟨⟨by decide +kernel, by decide +kernel⟩, List.mem_of_getElem? (i := 926) (by decide +kernel), List.mem_of_getElem? (i := 1349) (by decide +kernel), List.mem_of_getElem? (i := 1350) (by decide +kernel)⟩
theorem lw_p76 : lw_okq (⟨"OverAndBackModel", "holds", "(I)V"⟩, 55) := ⟨⟨by decide +kernel, by decide +kernel⟩, List.mem_of_getElem? (i := 926) (by decide +kernel), List.mem_of_getElem? (i := 1353) (by decide +kernel), List.mem_of_getElem? (i := 1354) (by decide +kernel)⟩
theorem lw_p77 : lw_okq (⟨"OverAndBackModel", "shows", "()V"⟩, 55) := ⟨⟨by decide +kernel, by decide +kernel⟩, List.mem_of_getElem? (i := 926) (by decide +kernel), List.mem_of_getElem? (i := 1357) (by decide +kernel), List.mem_of_getElem? (i := 1358) (by decide +kernel)⟩
theorem lw_p78 : lw_okq (⟨"OverAndBackModel", "leastOf", "()I"⟩, 55) := ⟨⟨by decide +kernel, by decide +kernel⟩, List.mem_of_getElem? (i := 926) (by decide +kernel), List.mem_of_getElem? (i := 1361) (by decide +kernel), List.mem_of_getElem? (i := 1362) (by decide +kernel)⟩
theorem lw_p79 : lw_okq (⟨"OverAndBackModel", "goesOn", "(I)V"⟩, 55) := ⟨⟨by decide +kernel, by decide +kernel⟩, List.mem_of_getElem? (i := 926) (by decide +kernel), List.mem_of_getElem? (i := 1369) (by decide +kernel), List.mem_of_getElem? (i := 1370) (by decide +kernel)⟩
def lw_privs_5 : List (MethodName × Nat) := [(⟨"OverAndBackModel", "wantsBest", "(II)I"⟩, 55), (⟨"OverAndBackModel", "sees", "(II)V"⟩, 55), (⟨"OverAndBackModel", "layMost", "()V"⟩, 55), (⟨"OverAndBackModel", "bestGoing", "(II)I"⟩, 55), (⟨"OverAndBackModel", "byGoing", "(II)I"⟩, 55), (⟨"OverAndBackModel", "remembers", "(I)V"⟩, 55), (⟨"OverAndBackModel", "layPlan", "()V"⟩, 55), (⟨"OverAndBackModel", "plans", "()V"⟩, 55), (⟨"OverAndBackModel", "layFew", "(I)V"⟩, 55), (⟨"OverAndBackModel", "comes", "(IIII)V"⟩, 55), (⟨"OverAndBackModel", "findFew", "(I)V"⟩, 55), (⟨"OverAndBackModel", "turns", "()I"⟩, 55), (⟨"OverAndBackModel", "holds", "(I)V"⟩, 55), (⟨"OverAndBackModel", "shows", "()V"⟩, 55), (⟨"OverAndBackModel", "leastOf", "()I"⟩, 55), (⟨"OverAndBackModel", "goesOn", "(I)V"⟩, 55)]
theorem lw_r5 : ∀ q ∈ lw_privs_5, lw_okq q := List.forall_mem_cons.mpr ⟨lw_p64, List.forall_mem_cons.mpr ⟨lw_p65, List.forall_mem_cons.mpr ⟨lw_p66, List.forall_mem_cons.mpr ⟨lw_p67, List.forall_mem_cons.mpr ⟨lw_p68, List.forall_mem_cons.mpr ⟨lw_p69, List.forall_mem_cons.mpr ⟨lw_p70, List.forall_mem_cons.mpr ⟨lw_p71, List.forall_mem_cons.mpr ⟨lw_p72, List.forall_mem_cons.mpr ⟨lw_p73, List.forall_mem_cons.mpr ⟨lw_p74, List.forall_mem_cons.mpr ⟨lw_p75, List.forall_mem_cons.mpr ⟨lw_p76, List.forall_mem_cons.mpr ⟨lw_p77, List.forall_mem_cons.mpr ⟨lw_p78, List.forall_mem_cons.mpr ⟨lw_p79, fun _ h => absurd h List.not_mem_nil⟩⟩⟩⟩⟩⟩⟩⟩⟩⟩⟩⟩⟩⟩⟩⟩
theorem lw_p80 : lw_okq (⟨"OverAndBackModel", "weight", "(I)I"⟩, 55) := ⟨⟨by decide +kernel, by decide +kernel⟩, List.mem_of_getElem? (i := 926) (by decide +kernel), List.mem_of_getElem? (i := 1373) (by decide +kernel), List.mem_of_getElem? (i := 1374) (by decide +kernel)⟩
theorem lw_p81 : lw_okq (⟨"OverAndBackModel", "layNight", "(I)V"⟩, 55) := ⟨⟨by decide +kernel, by decide +kernel⟩, List.mem_of_getElem? (i := 926) (by decide +kernel), List.mem_of_getElem? (i := 1393) (by decide +kernel), List.mem_of_getElem? (i := 1394) (by decide +kernel)⟩
def lw_privs_6 : List (MethodName × Nat) := [(⟨"OverAndBackModel", "weight", "(I)I"⟩, 55), (⟨"OverAndBackModel", "layNight", "(I)V"⟩, 55)]
theorem lw_r6 : ∀ q ∈ lw_privs_6, lw_okq q := List.forall_mem_cons.mpr ⟨lw_p80, List.forall_mem_cons.mpr ⟨lw_p81, fun _ h => absurd h List.not_mem_nil⟩⟩
def lw_privs : List (MethodName × Nat) := lw_privs_1 ++ (lw_privs_2 ++ (lw_privs_3 ++ (lw_privs_4 ++ (lw_privs_5 ++ (lw_privs_6)))))
def lw_tbl : List Cond := k2_sels lw_privs ++ tables_1
theorem lw_privs_ok : ∀ q ∈ lw_privs, lw_okq q := by
  show ∀ q ∈ lw_privs_1 ++ (lw_privs_2 ++ (lw_privs_3 ++ (lw_privs_4 ++ (lw_privs_5 ++ (lw_privs_6))))), lw_okq q
  exact List.forall_mem_append.mpr ⟨lw_r1, List.forall_mem_append.mpr ⟨lw_r2, List.forall_mem_append.mpr ⟨lw_r3, List.forall_mem_append.mpr ⟨lw_r4, List.forall_mem_append.mpr ⟨lw_r5, lw_r6⟩⟩⟩⟩⟩
end
section
def RX0 : String := "OverAndBack$Box"
def TX0 : u_T := fun k => match k with
  | 0 => ("OverAndBack$Box", "whole", "[I", true)
  | 1 => ("OverAndBack$Box", "late", "[I", true)
  | 2 => ("OverAndBack$Box", "holders", "[I", true)
  | 3 => ("OverAndBack$Box", "bestHolders", "[I", true)
  | 4 => ("OverAndBack$Box", "worth", "[I", true)
  | 5 => ("OverAndBack$Box", "bestWorth", "[I", true)
  | 6 => ("OverAndBack$Box", "turns", "I", false)
  | 7 => ("OverAndBack$Box", "least", "I", false)
  | _ => ("OverAndBack$Box", "shared", "Z", false)
def tyX0 : Nat → FieldType := fun k => match k with
  | 0 => .array .int
  | 1 => .array .int
  | 2 => .array .int
  | 3 => .array .int
  | 4 => .array .int
  | 5 => .array .int
  | 6 => .int
  | 7 => .int
  | _ => .boolean
theorem nmX0 : ∀ a, a < 9 → ∀ b, b < 9 → a ≠ b → (TX0 a).2.1 ≠ (TX0 b).2.1 := by decide +kernel
theorem tyX0_ok : ∀ k, k < 9 → parseFieldDescriptor (TX0 k).2.2.1 = some (tyX0 k) := by decide +kernel

def RX1 : String := "OverAndBack$Evening"
def TX1 : u_T := fun k => match k with
  | 0 => ("OverAndBack$Evening", "stations", "LOverAndBack$Rows;", true)
  | 1 => ("OverAndBack$Evening", "scenes", "LOverAndBack$Rows;", true)
  | 2 => ("OverAndBack$Evening", "breaks", "LOverAndBack$Rows;", true)
  | 3 => ("OverAndBack$Evening", "chances", "LOverAndBack$Rows;", true)
  | 4 => ("OverAndBack$Evening", "rules", "LOverAndBack$Rows;", true)
  | 5 => ("OverAndBack$Evening", "watchers", "LOverAndBack$Rows;", true)
  | 6 => ("OverAndBack$Evening", "minutes", "I", false)
  | _ => ("OverAndBack$Evening", "going", "I", false)
def tyX1 : Nat → FieldType := fun k => match k with
  | 0 => .object "OverAndBack$Rows"
  | 1 => .object "OverAndBack$Rows"
  | 2 => .object "OverAndBack$Rows"
  | 3 => .object "OverAndBack$Rows"
  | 4 => .object "OverAndBack$Rows"
  | 5 => .object "OverAndBack$Rows"
  | 6 => .int
  | _ => .int
theorem nmX1 : ∀ a, a < 8 → ∀ b, b < 8 → a ≠ b → (TX1 a).2.1 ≠ (TX1 b).2.1 := by decide +kernel
theorem tyX1_ok : ∀ k, k < 8 → parseFieldDescriptor (TX1 k).2.2.1 = some (tyX1 k) := by decide +kernel

def RX2 : String := "OverAndBack$Facts"
def TX2 : u_T := fun k => match k with
  | _ => ("OverAndBack$Facts", "closed", "[I", true)
def tyX2 : Nat → FieldType := fun k => match k with
  | _ => .array .int
theorem nmX2 : ∀ a, a < 1 → ∀ b, b < 1 → a ≠ b → (TX2 a).2.1 ≠ (TX2 b).2.1 := by decide +kernel
theorem tyX2_ok : ∀ k, k < 1 → parseFieldDescriptor (TX2 k).2.2.1 = some (tyX2 k) := by decide +kernel

def RX3 : String := "OverAndBack$Learning"
def TX3 : u_T := fun k => match k with
  | 0 => ("OverAndBack$Learning", "fewest", "[I", true)
  | 1 => ("OverAndBack$Learning", "screen", "LOverAndBack$Screen;", true)
  | 2 => ("OverAndBack$Learning", "facts", "LOverAndBack$Facts;", true)
  | 3 => ("OverAndBack$Learning", "stations", "I", false)
  | 4 => ("OverAndBack$Learning", "going", "I", false)
  | 5 => ("OverAndBack$Learning", "allTold", "I", false)
  | 6 => ("OverAndBack$Learning", "end", "I", false)
  | 7 => ("OverAndBack$Learning", "fewestGoings", "I", false)
  | 8 => ("OverAndBack$Learning", "minutesByFewest", "I", false)
  | 9 => ("OverAndBack$Learning", "minutesByAny", "I", false)
  | _ => ("OverAndBack$Learning", "goingsToBeat", "I", false)
def tyX3 : Nat → FieldType := fun k => match k with
  | 0 => .array .int
  | 1 => .object "OverAndBack$Screen"
  | 2 => .object "OverAndBack$Facts"
  | 3 => .int
  | 4 => .int
  | 5 => .int
  | 6 => .int
  | 7 => .int
  | 8 => .int
  | 9 => .int
  | _ => .int
theorem nmX3 : ∀ a, a < 11 → ∀ b, b < 11 → a ≠ b → (TX3 a).2.1 ≠ (TX3 b).2.1 := by decide +kernel
theorem tyX3_ok : ∀ k, k < 11 → parseFieldDescriptor (TX3 k).2.2.1 = some (tyX3 k) := by decide +kernel

def RX4 : String := "OverAndBack$Past"
def TX4 : u_T := fun k => match k with
  | 0 => ("OverAndBack$Past", "changes", "[I", true)
  | _ => ("OverAndBack$Past", "size", "I", false)
def tyX4 : Nat → FieldType := fun k => match k with
  | 0 => .array .int
  | _ => .int
theorem nmX4 : ∀ a, a < 2 → ∀ b, b < 2 → a ≠ b → (TX4 a).2.1 ≠ (TX4 b).2.1 := by decide +kernel
theorem tyX4_ok : ∀ k, k < 2 → parseFieldDescriptor (TX4 k).2.2.1 = some (tyX4 k) := by decide +kernel

def RX5 : String := "OverAndBack$Plan"
def TX5 : u_T := fun k => match k with
  | 0 => ("OverAndBack$Plan", "minutes", "[I", true)
  | 1 => ("OverAndBack$Plan", "stations", "[I", true)
  | 2 => ("OverAndBack$Plan", "size", "I", false)
  | _ => ("OverAndBack$Plan", "start", "I", false)
def tyX5 : Nat → FieldType := fun k => match k with
  | 0 => .array .int
  | 1 => .array .int
  | 2 => .int
  | _ => .int
theorem nmX5 : ∀ a, a < 4 → ∀ b, b < 4 → a ≠ b → (TX5 a).2.1 ≠ (TX5 b).2.1 := by decide +kernel
theorem tyX5_ok : ∀ k, k < 4 → parseFieldDescriptor (TX5 k).2.2.1 = some (tyX5 k) := by decide +kernel

def RX6 : String := "OverAndBack$Reader"
def TX6 : u_T := fun k => match k with
  | 0 => ("OverAndBack$Reader", "number", "[I", true)
  | _ => ("OverAndBack$Reader", "numbers", "I", false)
def tyX6 : Nat → FieldType := fun k => match k with
  | 0 => .array .int
  | _ => .int
theorem nmX6 : ∀ a, a < 2 → ∀ b, b < 2 → a ≠ b → (TX6 a).2.1 ≠ (TX6 b).2.1 := by decide +kernel
theorem tyX6_ok : ∀ k, k < 2 → parseFieldDescriptor (TX6 k).2.2.1 = some (tyX6 k) := by decide +kernel

def RX7 : String := "OverAndBack$Routes"
def TX7 : u_T := fun k => match k with
  | 0 => ("OverAndBack$Routes", "greatest", "[I", true)
  | 1 => ("OverAndBack$Routes", "minutes", "I", false)
  | 2 => ("OverAndBack$Routes", "firstMinute", "I", false)
  | _ => ("OverAndBack$Routes", "firstStation", "I", false)
def tyX7 : Nat → FieldType := fun k => match k with
  | 0 => .array .int
  | 1 => .int
  | 2 => .int
  | _ => .int
theorem nmX7 : ∀ a, a < 4 → ∀ b, b < 4 → a ≠ b → (TX7 a).2.1 ≠ (TX7 b).2.1 := by decide +kernel
theorem tyX7_ok : ∀ k, k < 4 → parseFieldDescriptor (TX7 k).2.2.1 = some (tyX7 k) := by decide +kernel

def RX8 : String := "OverAndBack$Rows"
def TX8 : u_T := fun k => match k with
  | 0 => ("OverAndBack$Rows", "cells", "[I", true)
  | 1 => ("OverAndBack$Rows", "width", "I", true)
  | 2 => ("OverAndBack$Rows", "limit", "I", true)
  | _ => ("OverAndBack$Rows", "size", "I", false)
def tyX8 : Nat → FieldType := fun k => match k with
  | 0 => .array .int
  | 1 => .int
  | 2 => .int
  | _ => .int
theorem nmX8 : ∀ a, a < 4 → ∀ b, b < 4 → a ≠ b → (TX8 a).2.1 ≠ (TX8 b).2.1 := by decide +kernel
theorem tyX8_ok : ∀ k, k < 4 → parseFieldDescriptor (TX8 k).2.2.1 = some (tyX8 k) := by decide +kernel

def RX9 : String := "OverAndBack$Screen"
def TX9 : u_T := fun k => match k with
  | 0 => ("OverAndBack$Screen", "worth", "[I", true)
  | 1 => ("OverAndBack$Screen", "fact", "[I", true)
  | _ => ("OverAndBack$Screen", "broken", "[I", true)
def tyX9 : Nat → FieldType := fun k => match k with
  | 0 => .array .int
  | 1 => .array .int
  | _ => .array .int
theorem nmX9 : ∀ a, a < 3 → ∀ b, b < 3 → a ≠ b → (TX9 a).2.1 ≠ (TX9 b).2.1 := by decide +kernel
theorem tyX9_ok : ∀ k, k < 3 → parseFieldDescriptor (TX9 k).2.2.1 = some (tyX9 k) := by decide +kernel

def RX10 : String := "OverAndBack$Walk"
def TX10 : u_T := fun k => match k with
  | 0 => ("OverAndBack$Walk", "place", "[I", true)
  | 1 => ("OverAndBack$Walk", "goal", "[I", true)
  | 2 => ("OverAndBack$Walk", "here", "I", false)
  | 3 => ("OverAndBack$Walk", "freeFrom", "I", false)
  | 4 => ("OverAndBack$Walk", "worth", "I", false)
  | 5 => ("OverAndBack$Walk", "seen", "I", false)
  | _ => ("OverAndBack$Walk", "goings", "I", false)
def tyX10 : Nat → FieldType := fun k => match k with
  | 0 => .array .int
  | 1 => .array .int
  | 2 => .int
  | 3 => .int
  | 4 => .int
  | 5 => .int
  | _ => .int
theorem nmX10 : ∀ a, a < 7 → ∀ b, b < 7 → a ≠ b → (TX10 a).2.1 ≠ (TX10 b).2.1 := by decide +kernel
theorem tyX10_ok : ∀ k, k < 7 → parseFieldDescriptor (TX10 k).2.2.1 = some (tyX10 k) := by decide +kernel

def RX11 : String := "OverAndBack"
def TX11 : u_T := fun k => match k with
  | 0 => ("OverAndBack", "text", "[C", true)
  | 1 => ("OverAndBack", "length", "I", false)
  | 2 => ("OverAndBack", "reader", "LOverAndBack$Reader;", true)
  | 3 => ("OverAndBack", "evening", "LOverAndBack$Evening;", false)
  | 4 => ("OverAndBack", "spare", "LOverAndBack$Evening;", false)
  | 5 => ("OverAndBack", "facts", "LOverAndBack$Facts;", true)
  | 6 => ("OverAndBack", "screen", "LOverAndBack$Screen;", true)
  | 7 => ("OverAndBack", "trial", "LOverAndBack$Screen;", true)
  | 8 => ("OverAndBack", "walk", "LOverAndBack$Walk;", true)
  | 9 => ("OverAndBack", "routes", "LOverAndBack$Routes;", true)
  | 10 => ("OverAndBack", "learning", "LOverAndBack$Learning;", true)
  | 11 => ("OverAndBack", "box", "LOverAndBack$Box;", true)
  | 12 => ("OverAndBack", "thePlan", "LOverAndBack$Plan;", true)
  | 13 => ("OverAndBack", "past", "LOverAndBack$Past;", true)
  | 14 => ("OverAndBack", "firstKept", "LOverAndBack$Plan;", true)
  | 15 => ("OverAndBack", "secondKept", "LOverAndBack$Plan;", true)
  | _ => ("OverAndBack", "kept", "I", false)
def tyX11 : Nat → FieldType := fun k => match k with
  | 0 => .array .char
  | 1 => .int
  | 2 => .object "OverAndBack$Reader"
  | 3 => .object "OverAndBack$Evening"
  | 4 => .object "OverAndBack$Evening"
  | 5 => .object "OverAndBack$Facts"
  | 6 => .object "OverAndBack$Screen"
  | 7 => .object "OverAndBack$Screen"
  | 8 => .object "OverAndBack$Walk"
  | 9 => .object "OverAndBack$Routes"
  | 10 => .object "OverAndBack$Learning"
  | 11 => .object "OverAndBack$Box"
  | 12 => .object "OverAndBack$Plan"
  | 13 => .object "OverAndBack$Past"
  | 14 => .object "OverAndBack$Plan"
  | 15 => .object "OverAndBack$Plan"
  | _ => .int
theorem nmX11 : ∀ a, a < 17 → ∀ b, b < 17 → a ≠ b → (TX11 a).2.1 ≠ (TX11 b).2.1 := by decide +kernel
theorem tyX11_ok : ∀ k, k < 17 → parseFieldDescriptor (TX11 k).2.2.1 = some (tyX11 k) := by decide +kernel

def RX12 : String := "OverAndBackModel"
def TX12 : u_T := fun k => match k with
  | 0 => ("OverAndBackModel", "length", "I", false)
  | 1 => ("OverAndBackModel", "goes", "I", false)
  | 2 => ("OverAndBackModel", "stations", "I", false)
  | 3 => ("OverAndBackModel", "worth", "[I", true)
  | 4 => ("OverAndBackModel", "scenes", "I", false)
  | 5 => ("OverAndBackModel", "scene", "[I", true)
  | 6 => ("OverAndBackModel", "breaks", "I", false)
  | 7 => ("OverAndBackModel", "broken", "[I", true)
  | 8 => ("OverAndBackModel", "comings", "I", false)
  | 9 => ("OverAndBackModel", "coming", "[I", true)
  | 10 => ("OverAndBackModel", "rules", "I", false)
  | 11 => ("OverAndBackModel", "rule", "[I", true)
  | 12 => ("OverAndBackModel", "watchers", "I", false)
  | 13 => ("OverAndBackModel", "watcher", "[I", true)
  | 14 => ("OverAndBackModel", "text", "[I", true)
  | 15 => ("OverAndBackModel", "texted", "I", false)
  | 16 => ("OverAndBackModel", "at", "I", false)
  | 17 => ("OverAndBackModel", "told", "[I", true)
  | 18 => ("OverAndBackModel", "readLength", "I", false)
  | 19 => ("OverAndBackModel", "readGoes", "I", false)
  | 20 => ("OverAndBackModel", "readStations", "I", false)
  | 21 => ("OverAndBackModel", "readWorth", "[I", true)
  | 22 => ("OverAndBackModel", "readScenes", "I", false)
  | 23 => ("OverAndBackModel", "readScene", "[I", true)
  | 24 => ("OverAndBackModel", "readBreaks", "I", false)
  | 25 => ("OverAndBackModel", "readBroken", "[I", true)
  | 26 => ("OverAndBackModel", "readComings", "I", false)
  | 27 => ("OverAndBackModel", "readComing", "[I", true)
  | 28 => ("OverAndBackModel", "readRules", "I", false)
  | 29 => ("OverAndBackModel", "readRule", "[I", true)
  | 30 => ("OverAndBackModel", "readWatchers", "I", false)
  | 31 => ("OverAndBackModel", "readWatcher", "[I", true)
  | 32 => ("OverAndBackModel", "onWorth", "[I", true)
  | 33 => ("OverAndBackModel", "onFact", "[I", true)
  | 34 => ("OverAndBackModel", "onBreak", "[Z", true)
  | 35 => ("OverAndBackModel", "on", "[I", true)
  | 36 => ("OverAndBackModel", "saw", "I", false)
  | 37 => ("OverAndBackModel", "facts", "I", false)
  | 38 => ("OverAndBackModel", "went", "I", false)
  | 39 => ("OverAndBackModel", "from", "I", false)
  | 40 => ("OverAndBackModel", "goings", "I", false)
  | 41 => ("OverAndBackModel", "going", "[I", true)
  | 42 => ("OverAndBackModel", "acts", "I", false)
  | 43 => ("OverAndBackModel", "act", "[I", true)
  | 44 => ("OverAndBackModel", "firstWrong", "I", false)
  | 45 => ("OverAndBackModel", "goTo", "[I", true)
  | 46 => ("OverAndBackModel", "most", "[I", true)
  | 47 => ("OverAndBackModel", "few", "[I", true)
  | 48 => ("OverAndBackModel", "fewest", "I", false)
  | 49 => ("OverAndBackModel", "soonest", "I", false)
  | 50 => ("OverAndBackModel", "soonestAny", "I", false)
  | 51 => ("OverAndBackModel", "holder", "[I", true)
  | 52 => ("OverAndBackModel", "shown", "[I", true)
  | 53 => ("OverAndBackModel", "keeps", "I", false)
  | _ => ("OverAndBackModel", "kept", "[I", true)
def tyX12 : Nat → FieldType := fun k => match k with
  | 0 => .int
  | 1 => .int
  | 2 => .int
  | 3 => .array .int
  | 4 => .int
  | 5 => .array .int
  | 6 => .int
  | 7 => .array .int
  | 8 => .int
  | 9 => .array .int
  | 10 => .int
  | 11 => .array .int
  | 12 => .int
  | 13 => .array .int
  | 14 => .array .int
  | 15 => .int
  | 16 => .int
  | 17 => .array .int
  | 18 => .int
  | 19 => .int
  | 20 => .int
  | 21 => .array .int
  | 22 => .int
  | 23 => .array .int
  | 24 => .int
  | 25 => .array .int
  | 26 => .int
  | 27 => .array .int
  | 28 => .int
  | 29 => .array .int
  | 30 => .int
  | 31 => .array .int
  | 32 => .array .int
  | 33 => .array .int
  | 34 => .array .boolean
  | 35 => .array .int
  | 36 => .int
  | 37 => .int
  | 38 => .int
  | 39 => .int
  | 40 => .int
  | 41 => .array .int
  | 42 => .int
  | 43 => .array .int
  | 44 => .int
  | 45 => .array .int
  | 46 => .array .int
  | 47 => .array .int
  | 48 => .int
  | 49 => .int
  | 50 => .int
  | 51 => .array .int
  | 52 => .array .int
  | 53 => .int
  | _ => .array .int
theorem nmX12 : ∀ a, a < 55 → ∀ b, b < 55 → a ≠ b → (TX12 a).2.1 ≠ (TX12 b).2.1 := by decide +kernel
theorem tyX12_ok : ∀ k, k < 55 → parseFieldDescriptor (TX12 k).2.2.1 = some (tyX12 k) := by decide +kernel

def am_cls : List vw_C := [(RX0, TX0, 9), (RX1, TX1, 8), (RX2, TX2, 1), (RX3, TX3, 11), (RX4, TX4, 2), (RX5, TX5, 4), (RX6, TX6, 2), (RX7, TX7, 4), (RX8, TX8, 4), (RX9, TX9, 3), (RX10, TX10, 7), (RX11, TX11, 17), (RX12, TX12, 55)]

def am_isN : Cond → Bool
  | .fieldLinkNest _ _ _ _ _ _ => true
  | .methodLinkNest _ _ _ _ => true
  | _ => false
def am_nest : List Cond := tables_1.filter am_isN
def am_tbl : List Cond := lw_tbl.filter goodWord
theorem am_tbl_in {w : Cond} (h : w ∈ am_tbl) : w ∈ lw_tbl := (List.mem_filter.mp h).1
theorem am_tbl_good {w : Cond} (h : w ∈ am_tbl) : (w.onTables && w.keeps) = true ∨ ∃ ty, w = .arrayClass ty := good_of_word (List.mem_filter.mp h).2
theorem am_tbl_t {w : Cond} (h : w ∈ tables_1) (g : goodWord w = true) : w ∈ am_tbl := List.mem_filter.mpr ⟨List.mem_append_right _ h, g⟩
theorem am_tbl_s {w : Cond} (h : w ∈ k2_sels lw_privs) (g : goodWord w = true) : w ∈ am_tbl := List.mem_filter.mpr ⟨List.mem_append_left _ h, g⟩
theorem am_nest_t {w : Cond} (h : w ∈ tables_1) (g : am_isN w = true) : w ∈ am_nest := List.mem_filter.mpr ⟨h, g⟩
end
section
/-! ===== numbers: ints as naturals modulo 2^32 ===== -/
theorem an_mod (n : Nat) : Int32.ofNat (n % 4294967296) = Int32.ofNat n := by
  apply Int32.toBitVec_inj.mp
  apply BitVec.eq_of_toNat_eq
  simp
theorem an_toInt (n : Nat) : (Int32.ofNat n).toInt = Int.bmod n 4294967296 := by
  simp [Int32.toInt_ofNat']
theorem an_add (a b : Nat) : Int32.ofNat ((a + b) % 4294967296) = Int32.ofNat a + Int32.ofNat b := by
  rw [an_mod, Int32.ofNat_add]
theorem an_mul (a b : Nat) : Int32.ofNat ((a * b) % 4294967296) = Int32.ofNat a * Int32.ofNat b := by
  rw [an_mod, Int32.ofNat_mul]
theorem an_sub (a b : Nat) : Int32.ofNat ((a + (4294967296 - b % 4294967296)) % 4294967296) = Int32.ofNat a - Int32.ofNat b := by
  apply Int32.toBitVec_inj.mp
  apply BitVec.eq_of_toNat_eq
  simp [BitVec.toNat_sub]
  omega
theorem an_and (a b : Nat) : Int32.ofNat (a &&& b) = Int32.ofNat a &&& Int32.ofNat b := by
  apply Int32.toBitVec_inj.mp
  simp
theorem an_or (a b : Nat) : Int32.ofNat (a ||| b) = Int32.ofNat a ||| Int32.ofNat b := by
  apply Int32.toBitVec_inj.mp
  simp
theorem an_xor (a b : Nat) : Int32.ofNat (a ^^^ b) = Int32.ofNat a ^^^ Int32.ofNat b := by
  apply Int32.toBitVec_inj.mp
  simp
theorem an_eq (a b : Nat) : (Int32.ofNat a = Int32.ofNat b) ↔ a % 4294967296 = b % 4294967296 := by
  constructor
  · intro h
    have h2 := congrArg (fun x : Int32 => x.toBitVec.toNat) h
    simpa using h2
  · intro h
    rw [← an_mod a, ← an_mod b, h]
theorem an_lt (a b : Nat) : (Int32.ofNat a < Int32.ofNat b) ↔ (a + 2147483648) % 4294967296 < (b + 2147483648) % 4294967296 := by
  rw [Int32.lt_iff_toInt_lt, an_toInt, an_toInt]
  simp only [Int.bmod]
  omega
theorem an_le (a b : Nat) : (Int32.ofNat a ≤ Int32.ofNat b) ↔ (a + 2147483648) % 4294967296 ≤ (b + 2147483648) % 4294967296 := by
  rw [Int32.le_iff_toInt_le, an_toInt, an_toInt]
  simp only [Int.bmod]
  omega
theorem an_clamp {a : Nat} (h : a < 2147483648) : (Int32.ofNat a).toNatClampNeg = a := by
  show (Int32.ofNat a).toInt.toNat = a
  rw [an_toInt]
  simp only [Int.bmod]
  omega
theorem an_nonneg {a : Nat} (h : a < 2147483648) : ¬ Int32.ofNat a < 0 := by
  have := an_lt a 0
  intro h2
  have h3 := this.mp h2
  omega
theorem an_toIntS {a : Nat} (h : a < 2147483648) : (Int32.ofNat a).toInt = a := by
  rw [an_toInt]
  simp only [Int.bmod]
  omega
theorem an_div {a b : Nat} (ha : a < 2147483648) (hb : b < 2147483648) : Int32.ofNat (a / b) = Int32.ofNat a / Int32.ofNat b := by
  apply Int32.toInt_inj.mp
  have h1 : a / b < 2147483648 := Nat.lt_of_le_of_lt (Nat.div_le_self _ _) ha
  rw [Int32.toInt_div, an_toIntS h1, an_toIntS ha, an_toIntS hb]
  have e : ((a : Int).tdiv (b : Int)) = ((a / b : Nat) : Int) := by simp
  rw [e, show ((2 : Nat) ^ 32) = 4294967296 from rfl]
  simp only [Int.bmod]
  generalize a / b = q at h1 ⊢
  omega
theorem an_rem {a b : Nat} (ha : a < 2147483648) (hb : b < 2147483648) : Int32.ofNat (a % b) = Int32.ofNat a - Int32.ofNat a / Int32.ofNat b * Int32.ofNat b := by
  rw [← an_div ha hb]
  rw [← Int32.ofNat_mul]
  have e : a % b = a - a / b * b := by
    have := Nat.div_add_mod a b
    rw [Nat.mul_comm] at this
    omega
  have hle : a / b * b ≤ a := Nat.div_mul_le_self a b
  rw [e]
  apply Int32.toBitVec_inj.mp
  apply BitVec.eq_of_toNat_eq
  simp [BitVec.toNat_sub]
  omega
theorem an_ne0 {b : Nat} (h0 : 0 < b) (hb : b < 2147483648) : ¬ Int32.ofNat b = 0 := by
  intro h
  have h2 := (an_eq b 0).mp h
  omega
theorem an_and31 (b : Nat) : Int32.ofNat b &&& 31 = Int32.ofNat (b % 32) := by
  have h := an_and b 31
  rw [show (31 : Int32) = Int32.ofNat 31 from rfl, ← h, show b &&& 31 = b % 32 from Nat.and_two_pow_sub_one_eq_mod b 5]
theorem an_smod : ∀ c, c < 32 → ((Int32.ofNat c).toBitVec.smod 32).toNat = c := by decide +kernel
theorem an_tn (n : Nat) : (Int32.ofNat n).toBitVec.toNat = n % 4294967296 := by simp
theorem an_shl (a b : Nat) : Int32.ofNat ((a <<< (b % 32)) % 4294967296) = Int32.ofNat a <<< (Int32.ofNat b &&& 31) := by
  rw [an_and31]
  apply Int32.toBitVec_inj.mp
  apply BitVec.eq_of_toNat_eq
  rw [pk_shl _ _ (b % 32) (an_smod _ (Nat.mod_lt _ (by decide))), an_tn, an_tn, Nat.shiftLeft_eq, Nat.mod_mod, Nat.mod_mul_mod]
theorem an_shr {a : Nat} (b : Nat) (ha : a < 2147483648) : Int32.ofNat (a >>> (b % 32)) = Int32.ofNat a >>> (Int32.ofNat b &&& 31) := by
  rw [an_and31]
  apply Int32.toInt_inj.mp
  have h1 : a >>> (b % 32) < 2147483648 := Nat.lt_of_le_of_lt (Nat.shiftRight_le a _) ha
  rw [an_toIntS h1]
  show _ = ((Int32.ofNat a).toBitVec.sshiftRight ((Int32.ofNat (b % 32)).toBitVec.smod 32).toNat).toInt
  rw [an_smod _ (Nat.mod_lt _ (by decide)), BitVec.toInt_sshiftRight]
  show _ = (Int32.ofNat a).toInt >>> (b % 32)
  rw [an_toIntS ha]
  rfl
theorem an_and31u (b : Nat) : ((Int32.ofNat b).toUInt32 &&& Int32.toUInt32 31).toNat = b % 32 := by
  have h := an_and31 b
  have h2 : ((Int32.ofNat b).toUInt32 &&& Int32.toUInt32 31) = (Int32.ofNat b &&& 31).toUInt32 := rfl
  rw [h2, h]
  show ((Int32.ofNat (b % 32)).toBitVec).toNat = _
  rw [an_tn]
  omega
theorem an_ushr (a b : Nat) : Int32.ofNat ((a % 4294967296) >>> (b % 32)) = ((Int32.ofNat a).toUInt32 >>> ((Int32.ofNat b).toUInt32 &&& Int32.toUInt32 31)).toInt32 := by
  apply Int32.toBitVec_inj.mp
  apply BitVec.eq_of_toNat_eq
  rw [an_tn]
  show _ = ((Int32.ofNat a).toUInt32 >>> ((Int32.ofNat b).toUInt32 &&& Int32.toUInt32 31)).toNat
  rw [UInt32.toNat_shiftRight, an_and31u]
  show _ = ((Int32.ofNat a).toBitVec).toNat >>> (b % 32 % 32)
  rw [an_tn, Nat.mod_mod]
  exact Nat.mod_eq_of_lt (Nat.lt_of_le_of_lt (Nat.shiftRight_le _ _) (Nat.mod_lt _ (by decide)))
theorem an_i2c (a : Nat) : ((Int32.ofNat a).toUInt32 % 65536).toInt32 = Int32.ofNat (a % 65536) := by
  apply Int32.toBitVec_inj.mp
  apply BitVec.eq_of_toNat_eq
  rw [an_tn]
  show ((Int32.ofNat a).toUInt32 % 65536).toNat = _
  rw [UInt32.toNat_mod]
  show ((Int32.ofNat a).toBitVec).toNat % 65536 = _
  rw [an_tn]
  omega
theorem an_b1 (a : Nat) : narrow .boolean (.int (Int32.ofNat a)) = .int (Int32.ofNat (a % 2)) := by
  have h := an_and a 1
  show Value.int (Int32.ofNat a &&& 1) = _
  rw [show (1 : Int32) = Int32.ofNat 1 from rfl, ← h, show a &&& 1 = a % 2 from Nat.and_two_pow_sub_one_eq_mod a 1]
theorem an_c16 (a : Nat) : narrow .char (.int (Int32.ofNat a)) = .int (Int32.ofNat (a % 65536)) := by
  rw [← an_i2c]
  rfl
theorem an_toIntN {a : Nat} (h1 : 2147483648 ≤ a) (h2 : a < 4294967296) : (Int32.ofNat a).toInt = (a : Int) - 4294967296 := by
  rw [an_toInt]
  simp only [Int.bmod]
  omega
theorem an_out {a : Nat} {lo hi : Int} (ha : a < 4294967296) (h0 : 0 ≤ lo) (h1 : (a : Int) < lo ∨ hi < (a : Int)) : (Int32.ofNat a).toInt < lo ∨ hi < (Int32.ofNat a).toInt := by
  by_cases h : a < 2147483648
  · rw [an_toIntS h]
    exact h1
  · rw [an_toIntN (Nat.not_lt.mp h) ha]
    exact Or.inl (by omega)
end
section
/-! ===== the abstract machine: lists, heaps ===== -/
abbrev am_E : Type := (Nat × Nat × Nat) ⊕ (Nat × List Value)
abbrev am_H : Type := Nat × Nat × List (List am_E)
abbrev am_L : Type := List (Option Value)
abbrev am_R : Type := Option Value × am_H
noncomputable def am_force {β : Type} (n : Nat) (k : Nat → β) : β := Nat.rec (motive := fun _ => β) (k 0) (fun m _ => k (Nat.succ m)) n
theorem am_force_eq {β : Type} (n : Nat) (k : Nat → β) : am_force n k = k n := by cases n <;> rfl
noncomputable def am_nth {α : Type} (l : List α) : Nat → Option α :=
  List.rec (motive := fun _ => Nat → Option α) (fun _ => none) (fun a _ ih n => Nat.rec (motive := fun _ => Option α) (some a) (fun m _ => ih m) n) l
theorem am_nth_eq {α : Type} (l : List α) (n : Nat) : am_nth l n = l[n]? := by
  induction l generalizing n with
  | nil => rfl
  | cons a l ih =>
    cases n with
    | zero => rfl
    | succ n => rw [List.getElem?_cons_succ]; exact ih n
noncomputable def am_setc {α β : Type} (l : List α) (v : α) : Nat → (List α → β) → β :=
  List.rec (motive := fun _ => Nat → (List α → β) → β) (fun _ k => k []) (fun a l ih n k => Nat.rec (motive := fun _ => β) (k (v :: l)) (fun m _ => ih m (fun l' => k (a :: l'))) n) l
theorem am_setc_eq {α β : Type} (l : List α) (v : α) (n : Nat) (k : List α → β) : am_setc l v n k = k (l.set n v) := by
  induction l generalizing n k with
  | nil => rfl
  | cons a l ih =>
    cases n with
    | zero => rfl
    | succ n => exact ih n (fun l' => k (a :: l'))
noncomputable def am_get (h : am_H) (a : Nat) : Option am_E := Option.rec (motive := fun _ => Option am_E) none (fun b => am_nth b (a % 8)) (am_nth h.2.2 (a / 8))
theorem am_get_eq (h : am_H) (a : Nat) : am_get h a = (h.2.2[a / 8]?).bind (fun b => b[a % 8]?) := by
  unfold am_get
  rw [am_nth_eq]
  cases h.2.2[a / 8]? with
  | none => rfl
  | some b => exact am_nth_eq b _
def am_upd (h : am_H) (a : Nat) (e : am_E) : am_H := (h.1, h.2.1, match h.2.2[a / 8]? with
  | some b => h.2.2.set (a / 8) (b.set (a % 8) e)
  | none => h.2.2)
noncomputable def am_updc {β : Type} (h : am_H) (a : Nat) (e : am_E) (k : am_H → β) : β := match h with
  | (n, s, bs) => Option.rec (motive := fun _ => β) (k (n, s, bs)) (fun b => am_setc b e (a % 8) fun b' => am_setc bs b' (a / 8) fun bs' => k (n, s, bs')) (am_nth bs (a / 8))
theorem am_updc_eq {β : Type} (h : am_H) (a : Nat) (e : am_E) (k : am_H → β) : am_updc h a e k = k (am_upd h a e) := by
  obtain ⟨n, s, bs⟩ := h
  unfold am_updc am_upd
  simp only [am_nth_eq]
  cases bs[a / 8]? with
  | none => rfl
  | some b => simp only [am_setc_eq]
theorem am_get_upd {h : am_H} {a : Nat} {e0 e : am_E} (h0 : am_get h a = some e0) (k : Nat) : am_get (am_upd h a e) k = if k = a then some e else am_get h k := by
  obtain ⟨n, s, bs⟩ := h
  rw [am_get_eq] at h0 ⊢
  rw [am_get_eq]
  unfold am_upd
  dsimp only at h0 ⊢
  cases hb : bs[a / 8]? with
  | none => rw [hb] at h0; cases h0
  | some b =>
    rw [hb] at h0
    have hb1 : a / 8 < bs.length := (List.getElem?_eq_some_iff.mp hb).1
    have hb2 : a % 8 < b.length := (List.getElem?_eq_some_iff.mp h0).1
    dsimp only
    by_cases hk : k / 8 = a / 8
    · rw [hk, List.getElem?_set_self hb1, hb]
      show (b.set (a % 8) e)[k % 8]? = if k = a then some e else b[k % 8]?
      by_cases hk2 : k % 8 = a % 8
      · rw [if_pos (by omega), hk2, List.getElem?_set_self hb2]
      · rw [if_neg (by omega), List.getElem?_set_ne (fun q => hk2 q.symm)]
    · rw [List.getElem?_set_ne (fun q => hk q.symm), if_neg (by omega)]
/-- a new cell of n slots -/
noncomputable def am_pushc {β : Type} (h : am_H) (n : Nat) (e : am_E) (z : β) (k : Nat → am_H → β) : β := match h with
  | (c, s, bs) => Option.rec (motive := fun _ => β) (bif Nat.beq (8 * bs.length) c then am_force (c + 1) fun c' => am_force (s + n) fun s' => k c (c', s', bs ++ [[e]]) else z) (fun b => bif Nat.beq b.length (c % 8) then am_force (c + 1) fun c' => am_force (s + n) fun s' => am_setc bs (b ++ [e]) (c / 8) fun bs' => k c (c', s', bs') else z) (am_nth bs (c / 8))
def am_New (h h' : am_H) (n : Nat) (e : am_E) : Prop := h'.1 = h.1 + 1 ∧ h'.2.1 = h.2.1 + n ∧ ∀ k x, am_get h' k = some x → (k = h.1 ∧ x = e) ∨ am_get h k = some x
theorem am_pushc_eq {β : Type} (h : am_H) (n : Nat) (e : am_E) (z : β) (k : Nat → am_H → β) : am_pushc h n e z k = z ∨ ∃ h', am_New h h' n e ∧ am_pushc h n e z k = k h.1 h' := by
  obtain ⟨c, s, bs⟩ := h
  unfold am_pushc
  simp only [am_nth_eq, am_force_eq, am_setc_eq]
  cases hb : bs[c / 8]? with
  | none =>
    dsimp only
    cases hc : Nat.beq (8 * bs.length) c with
    | false => exact Or.inl rfl
    | true =>
      refine Or.inr ⟨_, ⟨rfl, rfl, fun j x hx => ?_⟩, rfl⟩
      have hc' := Nat.eq_of_beq_eq_true hc
      rw [am_get_eq] at hx ⊢
      dsimp only at hx ⊢
      by_cases h1 : j / 8 < bs.length
      · rw [List.getElem?_append_left h1] at hx
        exact Or.inr hx
      · rw [List.getElem?_append_right (by omega)] at hx
        by_cases h2 : j / 8 - bs.length = 0
        · rw [h2] at hx
          change ([e] : List am_E)[j % 8]? = some x at hx
          by_cases h3 : j % 8 = 0
          · rw [h3] at hx
            refine Or.inl ⟨by omega, ?_⟩
            simpa using hx.symm
          · have := (List.getElem?_eq_some_iff.mp hx).1
            simp at this
            omega
        · have h4 : ([[e]] : List (List am_E))[j / 8 - bs.length]? = none := List.getElem?_eq_none (by simp; omega)
          rw [h4] at hx
          cases hx
  | some b =>
    dsimp only
    cases hc : Nat.beq b.length (c % 8) with
    | false => exact Or.inl rfl
    | true =>
      refine Or.inr ⟨_, ⟨rfl, rfl, fun j x hx => ?_⟩, rfl⟩
      have hc' := Nat.eq_of_beq_eq_true hc
      have hb1 : c / 8 < bs.length := (List.getElem?_eq_some_iff.mp hb).1
      rw [am_get_eq] at hx ⊢
      dsimp only at hx ⊢
      by_cases hk : j / 8 = c / 8
      · rw [hk, List.getElem?_set_self hb1] at hx
        change (b ++ [e])[j % 8]? = some x at hx
        by_cases h1 : j % 8 < b.length
        · rw [List.getElem?_append_left h1] at hx
          refine Or.inr ?_
          rw [hk, hb]
          exact hx
        · rw [List.getElem?_append_right (by omega)] at hx
          have h3 := (List.getElem?_eq_some_iff.mp hx).1
          have h4 : j % 8 - b.length = 0 := by simp at h3; omega
          rw [h4] at hx
          refine Or.inl ⟨by omega, ?_⟩
          simpa using hx.symm
      · rw [List.getElem?_set_ne (fun q => hk q.symm)] at hx
        exact Or.inr hx
/-! ===== packed rows of 32 bits ===== -/
def am_ag (c i : Nat) : Nat := (c >>> (32 * i)) % 4294967296
def am_as (c i v : Nat) : Nat := c ^^^ ((am_ag c i ^^^ (v % 4294967296)) <<< (32 * i))
theorem am_ag_bit (c i b : Nat) : (am_ag c i).testBit b = (decide (b < 32) && c.testBit (32 * i + b)) := by
  unfold am_ag
  rw [show 4294967296 = 2 ^ 32 from rfl, Nat.testBit_mod_two_pow, Nat.testBit_shiftRight]
theorem am_ag_lt (c i : Nat) : am_ag c i < 4294967296 := Nat.mod_lt _ (by decide)
theorem am_ag_as (c i v j : Nat) : am_ag (am_as c i v) j = if j = i then v % 4294967296 else am_ag c j := by
  apply Nat.eq_of_testBit_eq
  intro b
  rw [am_ag_bit]
  unfold am_as
  rw [Nat.testBit_xor, Nat.testBit_shiftLeft, Nat.testBit_xor, am_ag_bit]
  have hv : (v % 4294967296).testBit = fun b => (decide (b < 32) && v.testBit b) := by
    funext b
    rw [show 4294967296 = 2 ^ 32 from rfl, Nat.testBit_mod_two_pow]
  rw [hv]
  by_cases hj : j = i
  · subst hj
    rw [if_pos rfl, hv]
    have e : 32 * j + b - 32 * j = b := by omega
    rw [e]
    by_cases hb : b < 32
    · simp [hb]
    · simp [hb]
  · rw [if_neg hj, am_ag_bit]
    by_cases hb : b < 32
    · by_cases h1 : 32 * j + b ≥ 32 * i
      · have h2 : ¬ (32 * j + b - 32 * i < 32) := by omega
        simp [hb, h1, h2]
      · simp [hb, h1]
    · simp [hb]
/-- n elements of c0 from sp on, into c1 from dp on -/
def am_cp (c0 c1 sp dp n : Nat) : Nat := c1 ^^^ ((((c1 >>> (32 * dp)) % 2 ^ (32 * n)) ^^^ ((c0 >>> (32 * sp)) % 2 ^ (32 * n))) <<< (32 * dp))
theorem am_ag_cp (c0 c1 sp dp n j : Nat) : am_ag (am_cp c0 c1 sp dp n) j = if dp ≤ j ∧ j < dp + n then am_ag c0 (sp + (j - dp)) else am_ag c1 j := by
  apply Nat.eq_of_testBit_eq
  intro b
  rw [am_ag_bit]
  unfold am_cp
  rw [Nat.testBit_xor, Nat.testBit_shiftLeft, Nat.testBit_xor, Nat.testBit_mod_two_pow, Nat.testBit_mod_two_pow, Nat.testBit_shiftRight, Nat.testBit_shiftRight]
  by_cases hj : dp ≤ j ∧ j < dp + n
  · rw [if_pos hj, am_ag_bit]
    by_cases hb : b < 32
    · have h1 : 32 * j + b ≥ 32 * dp := by omega
      have h2 : 32 * j + b - 32 * dp < 32 * n := by omega
      have e1 : 32 * dp + (32 * j + b - 32 * dp) = 32 * j + b := by omega
      have e2 : 32 * sp + (32 * j + b - 32 * dp) = 32 * (sp + (j - dp)) + b := by omega
      simp [hb, h1, h2, e1, e2]
    · simp [hb]
  · rw [if_neg hj, am_ag_bit]
    by_cases hb : b < 32
    · by_cases h1 : 32 * j + b ≥ 32 * dp
      · have h2 : ¬ (32 * j + b - 32 * dp < 32 * n) := by omega
        simp [hb, h1, h2]
      · simp [hb, h1]
    · simp [hb]
end
section
/-! ===== what the abstract machine's state says of the machine's ===== -/
def am_v (B : Nat) : Value → Value
  | .retAddr n => .int (Int32.ofNat n)
  | .ref a => .ref (B + a)
  | v => v
theorem am_v_cat (B : Nat) (v : Value) : (am_v B v).category = v.category := by cases v <;> rfl
def am_e (B : Nat) (dA : Nat → ClassId) (e : am_E) : va_E := match e with
  | .inl x => .inl (dA x.1, x.2.1, .inl (fun j => Int32.ofNat (am_ag x.2.2 j)))
  | .inr x => .inr (x.1, x.2.map (am_v B))
def am_Wd (B : Nat) (D : va_G) (dA : Nat → ClassId) (h : am_H) (H : Heap) : Prop := H.size = B + h.1 ∧ ∀ k e, am_get h k = some e → va_at D am_cls (B + k, am_e B dA e) H
theorem am_Wd.upd {B : Nat} {D : va_G} {dA : Nat → ClassId} {h : am_H} {H H1 : Heap} (hw : am_Wd B D dA h H) {a : Nat} {e0 e : am_E} (h0 : am_get h a = some e0) (he : va_at D am_cls (B + a, am_e B dA e) H1) (hz : H1.size = H.size) (hq : ∀ q : Nat, q ≠ B + a → H1[q]? = H[q]?) : am_Wd B D dA (am_upd h a e) H1 := by
  refine ⟨by rw [hz]; exact hw.1, fun k x hx => ?_⟩
  rw [am_get_upd h0] at hx
  by_cases hk : k = a
  · rw [if_pos hk] at hx
    cases hx
    rw [hk]
    exact he
  · rw [if_neg hk] at hx
    exact (hw.2 k x hx).kept (hq (B + k) (by omega))
theorem am_Wd.new {B : Nat} {D : va_G} {dA : Nat → ClassId} {h h' : am_H} {H H1 : Heap} (hw : am_Wd B D dA h H) {n : Nat} {e : am_E} (hn : am_New h h' n e) (he : va_at D am_cls (B + h.1, am_e B dA e) H1) (hz : H1.size = H.size + 1) (hq : ∀ q : Nat, q < H.size → H1[q]? = H[q]?) : am_Wd B D dA h' H1 := by
  refine ⟨by rw [hz, hw.1, hn.1]; omega, fun k x hx => ?_⟩
  rcases hn.2.2 k x hx with ⟨rfl, rfl⟩ | h1
  · exact he
  · exact (hw.2 k x h1).kept (hq (B + k) (hw.2 k x h1).lt)
def am_tys (dA : Nat → ClassId) : List (ClassId × FieldType) := [(dA 0, .int), (dA 1, .char), (dA 2, .boolean)]
def am_Kn (D : va_G) (dA : Nat → ClassId) (U : State) : Prop := va_K D am_cls (am_tys dA) U ∧ ∀ w ∈ am_nest, va_Nw w U
theorem am_Kn.warm {D : va_G} {dA : Nat → ClassId} {s U : State} (hW : s.WarmedH U.vm) (h : am_Kn D dA s) : am_Kn D dA U := by
  refine ⟨va_K.moved hW.alike h.1, fun w hw => ?_⟩
  have hn := (List.mem_filter.mp hw).2
  have h1 := h.2 w hw
  cases w <;> first | (exact va_Nw.warmF hW h1) | (exact va_Nw.warmM hW h1) | (cases hn)
def am_Lv (B : Nat) (ls : Array Slot) (nL : Nat) (L : am_L) : Prop := ls.size = nL ∧ lv_wf ls ∧ ∀ (i : Nat) (v : Value), L[i]? = some (some v) → ls[i]? = some (Slot.val (am_v B v))
def am_ll (B : Nat) (L : am_L) : List (Nat × Value) := (List.range L.length).filterMap fun i => match L[i]? with
  | some (some v) => some (i, am_v B v)
  | _ => none
theorem am_ll_mem {B : Nat} {L : am_L} {i : Nat} {v : Value} (h : L[i]? = some (some v)) : (i, am_v B v) ∈ am_ll B L := by
  refine List.mem_filterMap.mpr ⟨i, List.mem_range.mpr (List.getElem?_eq_some_iff.mp h).1, ?_⟩
  rw [h]
theorem am_Lv.has {B nL : Nat} {ls : Array Slot} {L : am_L} (h : am_Lv B ls nL L) : lv_has ls nL (am_ll B L) := by
  refine ⟨h.1, h.2.1, fun q hq => ?_⟩
  obtain ⟨i, -, hi⟩ := List.mem_filterMap.mp hq
  cases hL : L[i]? with
  | none => rw [hL] at hi; cases hi
  | some x =>
    cases x with
    | none => rw [hL] at hi; cases hi
    | some v =>
      rw [hL] at hi
      cases hi
      exact h.2.2 i v hL
/-- no long ends at the place i -/
def am_nl (L : am_L) (i : Nat) : Prop := ∀ (j : Nat) (v : Value), j + 1 = i → L[j]? = some (some v) → v.category ≠ 2
theorem am_Lv.store1 {B nL : Nat} {ls' : Array Slot} {L : am_L} {i : Nat} {v : Value} (hn : am_nl L i) (h : lv_has ls' nL ((i, am_v B v) :: (am_ll B L).filter (fun q => !(q.1 == i) && !(q.1 + 1 == i && q.2.category == 2)))) : am_Lv B ls' nL (L.set i (some v)) := by
  refine ⟨h.1, h.2.1, fun j w hj => ?_⟩
  by_cases hji : j = i
  · subst hji
    have hl : j < L.length := by have := (List.getElem?_eq_some_iff.mp hj).1; simpa using this
    rw [List.getElem?_set_self hl] at hj
    cases hj
    exact h.2.2 _ List.mem_cons_self
  · rw [List.getElem?_set_ne (fun q => hji q.symm)] at hj
    refine h.2.2 (j, am_v B w) (List.mem_cons_of_mem _ (List.mem_filter.mpr ⟨am_ll_mem hj, ?_⟩))
    by_cases h1 : j + 1 = i
    · have h2 := hn j w h1 hj
      rw [← am_v_cat B] at h2
      simp [hji, h2]
    · simp [hji, h1]
theorem am_Lv.store2 {B nL : Nat} {ls' : Array Slot} {L : am_L} {i : Nat} {v : Value} (hn : am_nl L i) (h : lv_has ls' nL ((i, am_v B v) :: (am_ll B L).filter (fun q => !(q.1 == i) && (!(q.1 == i + 1) && !(q.1 + 1 == i && q.2.category == 2))))) : am_Lv B ls' nL ((L.set i (some v)).set (i + 1) none) := by
  refine ⟨h.1, h.2.1, fun j w hj => ?_⟩
  by_cases hj1 : j = i + 1
  · subst hj1
    have hl : i + 1 < (L.set i (some v)).length := by have := (List.getElem?_eq_some_iff.mp hj).1; simpa using this
    rw [List.getElem?_set_self hl] at hj
    cases hj
  · rw [List.getElem?_set_ne (fun q => hj1 q.symm)] at hj
    by_cases hji : j = i
    · subst hji
      have hl : j < L.length := by have := (List.getElem?_eq_some_iff.mp hj).1; simpa using this
      rw [List.getElem?_set_self hl] at hj
      cases hj
      exact h.2.2 _ List.mem_cons_self
    · rw [List.getElem?_set_ne (fun q => hji q.symm)] at hj
      refine h.2.2 (j, am_v B w) (List.mem_cons_of_mem _ (List.mem_filter.mpr ⟨am_ll_mem hj, ?_⟩))
      by_cases h1 : j + 1 = i
      · have h2 := hn j w h1 hj
        rw [← am_v_cat B] at h2
        simp [hji, hj1, h2]
      · simp [hji, h1, hj1]
theorem am_Lv.forget {B nL : Nat} {ls : Array Slot} {L L' : am_L} (h : am_Lv B ls nL L) (hL : ∀ (i : Nat) (v : Value), L'[i]? = some (some v) → L[i]? = some (some v)) : am_Lv B ls nL L' := ⟨h.1, h.2.1, fun i v hi => h.2.2 i v (hL i v hi)⟩
/-! ===== a method, and what is known in its frame ===== -/
/-- name, code, locals, result, frames below, locals' words below -/
abbrev am_MI : Type := MethodName × ByteArray × Nat × Option FieldType × Nat × Nat
def am_C (M : am_MI) (p : Program) (s : State) (m : MethodId) (args : Array Value) (meth : Method) (c : Code) : Prop :=
  p.tables.exec = Jvm.exec ∧ c.code = M.2.1 ∧ c.maxLocals = M.2.2.1 ∧ s.vm.findClass M.1.cls = some m.cls ∧ (∀ w ∈ am_tbl, w.before args s = true) ∧ meth.locks = false ∧ meth.sig.returnType = M.2.2.2.1 ∧ meth.name = M.1.name
def am_Q (B : Nat) (D : va_G) (dA : Nat → ClassId) (r : am_R) : Array Value → State → Outcome → State → Prop := fun _ st o t => o = .returned (r.1.map (am_v B)) ∧ am_Wd B D dA r.2 t.heap ∧ va_F (fun q => B ≤ q) st t
/-- a frame's whole surroundings -/
def am_X (M : am_MI) (L : am_L) (h : am_H) (r : am_R) (p : Program) (R : Room) (s : State) (m : MethodId) (args : Array Value) (meth : Method) (c : Code) (B N0 S0 : Nat) (D : va_G) (dA : Nat → ClassId) (H : Heap) (locs : List Loc) (ls : Array Slot) : Prop :=
  am_C M p s m args meth c ∧ (R.frames = M.2.2.2.2.1 ∧ R.locals = M.2.2.2.2.2 ∧ R.cells = r.2.1 - N0 ∧ R.slots = r.2.2.1 - S0) ∧ (N0 ≤ h.1 ∧ S0 ≤ h.2.1 ∧ B ≤ s.heap.size) ∧ am_Kn D dA s ∧ am_Wd B D dA h H ∧ va_S (fun q => B ≤ q) s.heap H locs ∧ am_Lv B ls M.2.2.1 L
def am_Good (M : am_MI) (pc : Nat) (L : am_L) (st : List Value) (h : am_H) (r : am_R) : Prop :=
  (h.1 ≤ r.2.1 ∧ h.2.1 ≤ r.2.2.1) ∧
  ∀ (p : Program) (l : Launch) (e : Env) (R : Room) (s : State) (m : MethodId) (args : Array Value) (below : List Frame) (meth : Method) (c : Code) (B N0 S0 : Nat) (D : va_G) (dA : Nat → ClassId) (H : Heap) (locs : List Loc) (ls : Array Slot),
    am_X M L h r p R s m args meth c B N0 S0 D dA H locs ls →
    W p l e R s m args below meth c H locs (h.1 - N0) (h.2.1 - S0) (MQ below (am_Q B D dA r) args s (r.2.1 - N0) (r.2.2.1 - S0) (fun q => B ≤ q)) (F0 m pc ls (st.map (am_v B)))
/-- the contract of a method at these arguments and this heap -/
def am_EG (M : am_MI) (as : List Value) (h : am_H) (r : am_R) : Prop :=
  (h.1 ≤ r.2.1 ∧ h.2.1 ≤ r.2.2.1) ∧ ∀ (l : Launch) (B : Nat) (D : va_G) (dA : Nat → ClassId), Met l M.1 (Cond.code M.1 M.2.1 M.2.2.1 M.2.2.2.1 :: am_tbl) { frames := M.2.2.2.2.1, cells := r.2.1 - h.1, slots := r.2.2.1 - h.2.1, locals := M.2.2.2.2.2 } (va_Pc (as.map (am_v B)) (fun U => B ≤ U.heap.size ∧ am_Wd B D dA h U.heap ∧ am_Kn D dA U)) (am_Q B D dA r) (r.2.1 - h.1) (r.2.2.1 - h.2.1) (fun q => B ≤ q)
/-- one step that changes locals and stack alone -/
theorem am_Good.go {M : am_MI} {pc pc' : Nat} {L L' : am_L} {st st' : List Value} {h : am_H} {r : am_R} (hg : am_Good M pc' L' st' h r)
    (hs : ∀ (p : Program) (l : Launch) (e : Env) (R : Room) (s : State) (m : MethodId) (args : Array Value) (below : List Frame) (meth : Method) (c : Code) (B N0 S0 : Nat) (D : va_G) (dA : Nat → ClassId) (H : Heap) (locs : List Loc) (ls : Array Slot) (Q : State → Prop),
      am_X M L h r p R s m args meth c B N0 S0 D dA H locs ls → (∀ ls' : Array Slot, am_Lv B ls' M.2.2.1 L' → W p l e R s m args below meth c H locs (h.1 - N0) (h.2.1 - S0) Q (F0 m pc' ls' (st'.map (am_v B)))) → W p l e R s m args below meth c H locs (h.1 - N0) (h.2.1 - S0) Q (F0 m pc ls (st.map (am_v B)))) : am_Good M pc L st h r := by
  refine ⟨hg.1, fun p l e R s m args below meth c B N0 S0 D dA H locs ls X => ?_⟩
  refine hs p l e R s m args below meth c B N0 S0 D dA H locs ls _ X fun ls' hL => ?_
  obtain ⟨x1, x2, x3, x4, x5, x6, x7⟩ := X
  exact hg.2 p l e R s m args below meth c B N0 S0 D dA H locs ls' ⟨x1, x2, x3, x4, x5, x6, hL⟩
/-- one step that changes a cell -/
theorem am_Good.put {M : am_MI} {pc pc' : Nat} {L : am_L} {st st' : List Value} {h : am_H} {r : am_R} {a : Nat} {x : am_E} (hg : am_Good M pc' L st' (am_upd h a x) r)
    (hs : ∀ (p : Program) (l : Launch) (e : Env) (R : Room) (s : State) (m : MethodId) (args : Array Value) (below : List Frame) (meth : Method) (c : Code) (B N0 S0 : Nat) (D : va_G) (dA : Nat → ClassId) (H : Heap) (locs : List Loc) (ls : Array Slot) (Q : State → Prop),
      am_X M L h r p R s m args meth c B N0 S0 D dA H locs ls → (∀ (H1 : Heap) (locs1 : List Loc), am_Wd B D dA (am_upd h a x) H1 → va_S (fun q => B ≤ q) s.heap H1 locs1 → W p l e R s m args below meth c H1 locs1 (h.1 - N0) (h.2.1 - S0) Q (F0 m pc' ls (st'.map (am_v B)))) → W p l e R s m args below meth c H locs (h.1 - N0) (h.2.1 - S0) Q (F0 m pc ls (st.map (am_v B)))) : am_Good M pc L st h r := by
  refine ⟨hg.1, fun p l e R s m args below meth c B N0 S0 D dA H locs ls X => ?_⟩
  refine hs p l e R s m args below meth c B N0 S0 D dA H locs ls _ X fun H1 locs1 hw hS => ?_
  obtain ⟨x1, x2, x3, x4, x5, x6, x7⟩ := X
  exact hg.2 p l e R s m args below meth c B N0 S0 D dA H1 locs1 ls ⟨x1, x2, x3, x4, hw, hS, x7⟩
/-- one step that makes a cell -/
theorem am_Good.make {M : am_MI} {pc pc' : Nat} {L : am_L} {st st' : List Value} {h h' : am_H} {r : am_R} {n : Nat} {x : am_E} (hn : am_New h h' n x) (hg : am_Good M pc' L st' h' r)
    (hs : ∀ (p : Program) (l : Launch) (e : Env) (R : Room) (s : State) (m : MethodId) (args : Array Value) (below : List Frame) (meth : Method) (c : Code) (B N0 S0 : Nat) (D : va_G) (dA : Nat → ClassId) (H : Heap) (locs : List Loc) (ls : Array Slot) (Q : State → Prop),
      am_X M L h r p R s m args meth c B N0 S0 D dA H locs ls → (h.1 - N0) + 1 ≤ R.cells → (h.2.1 - S0) + n ≤ R.slots → (∀ (H1 : Heap), va_at D am_cls (B + h.1, am_e B dA x) H1 → H1.size = H.size + 1 → (∀ q : Nat, q < H.size → H1[q]? = H[q]?) → W p l e R s m args below meth c H1 locs ((h.1 - N0) + 1) ((h.2.1 - S0) + n) Q (F0 m pc' ls (st'.map (am_v B)))) → W p l e R s m args below meth c H locs (h.1 - N0) (h.2.1 - S0) Q (F0 m pc ls (st.map (am_v B)))) : am_Good M pc L st h r := by
  have e1 := hn.1
  have e2 := hn.2.1
  have g1 := hg.1.1
  have g2 := hg.1.2
  refine ⟨⟨by omega, by omega⟩, fun p l e R s m args below meth c B N0 S0 D dA H locs ls X => ?_⟩
  obtain ⟨x1, x2, x3, x4, x5, x6, x7⟩ := X
  have c1 := x2.2.2.1
  have c2 := x2.2.2.2
  have d1 := x3.1
  have d2 := x3.2.1
  refine hs p l e R s m args below meth c B N0 S0 D dA H locs ls _ ⟨x1, x2, x3, x4, x5, x6, x7⟩ (by omega) (by omega) fun H1 hw hz hq => ?_
  have hS : va_S (fun q => B ≤ q) s.heap H1 locs := ⟨Nat.le_trans x6.1 (by omega), fun q h1 h2 => (hq q (Nat.lt_of_lt_of_le h1 x6.1)).trans (x6.2.1 q h1 h2), x6.2.2⟩
  have hk := hg.2 p l e R s m args below meth c B N0 S0 D dA H1 locs ls ⟨x1, x2, ⟨by omega, by omega, x3.2.2⟩, x4, x5.new hn hw hz hq, hS, x7⟩
  rw [show h'.1 - N0 = h.1 - N0 + 1 by omega, show h'.2.1 - S0 = h.2.1 - S0 + n by omega] at hk
  exact hk
/-- into a method -/
theorem am_args1 (B : Nat) : ∀ (as : List Value) (i : Nat), (∀ v ∈ as, v.category = 1) → ∀ (j : Nat) (v : Value), as[j]? = some v → (i + j, am_v B v) ∈ lv_args i (as.map (am_v B))
  | [], i, _, j, v, h => by cases h
  | a :: as, i, hc, 0, v, h => by
    cases h
    exact List.mem_cons_self
  | a :: as, i, hc, j + 1, v, h => by
    have h1 : (am_v B a).category = 1 := by rw [am_v_cat]; exact hc a List.mem_cons_self
    have h2 := am_args1 B as (i + 1) (fun v hv => hc v (List.mem_cons_of_mem _ hv)) j v h
    refine List.mem_cons_of_mem _ ?_
    rw [if_neg (by rw [h1]; decide)]
    rw [show i + (j + 1) = i + 1 + j by omega]
    exact h2
theorem am_sl1 : ∀ (as : List Value), (∀ v ∈ as, v.category = 1) → (lg_sl as).length = as.length
  | [], _ => rfl
  | a :: as, h => by
    have h1 := h a List.mem_cons_self
    have h2 := am_sl1 as (fun v hv => h v (List.mem_cons_of_mem _ hv))
    unfold lg_sl at h2 ⊢
    rw [List.flatMap_cons, if_neg (by rw [h1]; decide), List.length_append, h2]
    simp
    omega
theorem am_enter {M : am_MI} {as : List Value} {n : Nat} {h : am_H} {r : am_R} (hy : plainName M.1.cls = true) (hc : ∀ v ∈ as, v.category = 1) (hl : as.length ≤ M.2.2.1) (hg : am_Good M 0 (as.map some ++ List.replicate n none) [] h r) : am_EG M as h r := by
  refine ⟨hg.1, fun l B D dA => ?_⟩
  refine Met.ofW (cc := M.2.1) (maxL := M.2.2.1) (ret := M.2.2.2.1) hy rfl ?_
  intro p e s m args below meth c s₁ BL hml hv
  obtain ⟨rfl, hB, hw, hK⟩ := hv
  have hc2 : ∀ v ∈ as.map (am_v B), v.category = 1 := fun v hv => by
    obtain ⟨u, hu, rfl⟩ := List.mem_map.mp hv
    rw [am_v_cat]
    exact hc u hu
  have hsl := am_sl1 _ hc2
  have hts := atoms_spec (ws := Cond.code M.1 M.2.1 M.2.2.1 M.2.2.2.1 :: am_tbl) BL.pre
  have hE := lv_entry (as.map (am_v B)) (n := M.2.2.1) (by rw [hsl, List.length_map]; exact hl)
  rw [lg_entry_eq]
  generalize (lg_sl (as.map (am_v B)) ++ List.replicate (M.2.2.1 - (lg_sl (as.map (am_v B))).length) Slot.unset).toArray = ls at hE ⊢
  have hLv : am_Lv B ls M.2.2.1 (as.map some ++ List.replicate n none) := by
    refine ⟨hE.1, hE.2.1, fun i v hi => ?_⟩
    by_cases hil : i < (as.map some).length
    · rw [List.getElem?_append_left hil, List.getElem?_map] at hi
      cases ha : as[i]? with
      | none => rw [ha] at hi; cases hi
      | some u =>
        rw [ha] at hi
        cases hi
        have h1 := hE.2.2 _ (am_args1 B as 0 hc i v ha)
        simpa using h1
    · rw [List.getElem?_append_right (by omega)] at hi
      have := List.eq_of_mem_replicate (List.mem_of_getElem? hi)
      cases this
  have hk := hg.2 p l e (headSpec (Cond.code M.1 M.2.1 M.2.2.1 M.2.2.2.1 :: am_tbl) { frames := M.2.2.2.2.1, cells := r.2.1 - h.1, slots := r.2.2.1 - h.2.1, locals := M.2.2.2.2.2 }).room s m (as.map (am_v B)).toArray below meth c B h.1 h.2.1 D dA s.heap [] ls ⟨⟨BL.exec, BL.bytes, hml, findClass_of_methodNamed BL.named, fun w hw => hts w (List.mem_cons_of_mem _ hw), BL.notSynchronized, BL.returns, (name_of_methodNamed BL.named BL.method).1⟩, ⟨rfl, rfl, rfl, rfl⟩, ⟨Nat.le_refl _, Nat.le_refl _, hB⟩, hK, hw, va_S.rf, hLv⟩
  rw [Nat.sub_self, Nat.sub_self] at hk
  exact hk
end
section
/-! ===== rules: an instruction, a step of the abstract state ===== -/
theorem g_iload {M : am_MI} {pc : Nat} {L : am_L} {st : List Value} {h : am_H} {r : am_R} {i : Nat} {n : Nat} (hd : decode M.2.1 pc = .ok (.iload i, 2)) (hl : L[i]? = some (some (.retAddr n))) (hg : am_Good M (pc + 2) L (.retAddr n :: st) h r) : am_Good M pc L st h r := by
  refine hg.go fun p l e R s m args below meth c B N0 S0 D dA H locs ls Q X k => ?_
  obtain ⟨⟨hx, hb, hml, hown, hts, hlk, hr, hnm⟩, ⟨xf, xl, xc, xs⟩, ⟨xn, xt, xB⟩, hK, hw, hS, hL⟩ := X
  exact lv_iload hx hb hd (hL.2.2 _ _ hl) (k ls hL)
theorem g_iload_n {M : am_MI} {pc : Nat} {L : am_L} {st : List Value} {h : am_H} {r : am_R} {i : Fin 4} {n : Nat} (hd : decode M.2.1 pc = .ok (.iload_n i, 1)) (hl : L[(i : Nat)]? = some (some (.retAddr n))) (hg : am_Good M (pc + 1) L (.retAddr n :: st) h r) : am_Good M pc L st h r := by
  refine hg.go fun p l e R s m args below meth c B N0 S0 D dA H locs ls Q X k => ?_
  obtain ⟨⟨hx, hb, hml, hown, hts, hlk, hr, hnm⟩, ⟨xf, xl, xc, xs⟩, ⟨xn, xt, xB⟩, hK, hw, hS, hL⟩ := X
  exact lv_iload_n hx hb hd rfl (hL.2.2 _ _ hl) (k ls hL)
theorem g_aload {M : am_MI} {pc : Nat} {L : am_L} {st : List Value} {h : am_H} {r : am_R} {i : Nat} {n : Nat} (hd : decode M.2.1 pc = .ok (.aload i, 2)) (hl : L[i]? = some (some (.ref n))) (hg : am_Good M (pc + 2) L (.ref n :: st) h r) : am_Good M pc L st h r := by
  refine hg.go fun p l e R s m args below meth c B N0 S0 D dA H locs ls Q X k => ?_
  obtain ⟨⟨hx, hb, hml, hown, hts, hlk, hr, hnm⟩, ⟨xf, xl, xc, xs⟩, ⟨xn, xt, xB⟩, hK, hw, hS, hL⟩ := X
  exact lv_aload hx hb hd (hL.2.2 _ _ hl) (k ls hL)
theorem g_aload_n {M : am_MI} {pc : Nat} {L : am_L} {st : List Value} {h : am_H} {r : am_R} {i : Fin 4} {n : Nat} (hd : decode M.2.1 pc = .ok (.aload_n i, 1)) (hl : L[(i : Nat)]? = some (some (.ref n))) (hg : am_Good M (pc + 1) L (.ref n :: st) h r) : am_Good M pc L st h r := by
  refine hg.go fun p l e R s m args below meth c B N0 S0 D dA H locs ls Q X k => ?_
  obtain ⟨⟨hx, hb, hml, hown, hts, hlk, hr, hnm⟩, ⟨xf, xl, xc, xs⟩, ⟨xn, xt, xB⟩, hK, hw, hS, hL⟩ := X
  exact lv_aload_n hx hb hd rfl (hL.2.2 _ _ hl) (k ls hL)
theorem g_lload {M : am_MI} {pc : Nat} {L : am_L} {st : List Value} {h : am_H} {r : am_R} {i : Nat} {n : Int64} (hd : decode M.2.1 pc = .ok (.lload i, 2)) (hl : L[i]? = some (some (.long n))) (hg : am_Good M (pc + 2) L (.long n :: st) h r) : am_Good M pc L st h r := by
  refine hg.go fun p l e R s m args below meth c B N0 S0 D dA H locs ls Q X k => ?_
  obtain ⟨⟨hx, hb, hml, hown, hts, hlk, hr, hnm⟩, ⟨xf, xl, xc, xs⟩, ⟨xn, xt, xB⟩, hK, hw, hS, hL⟩ := X
  exact lv_lload hx hb hd (hL.2.2 _ _ hl) (k ls hL)
theorem g_lload_n {M : am_MI} {pc : Nat} {L : am_L} {st : List Value} {h : am_H} {r : am_R} {i : Fin 4} {n : Int64} (hd : decode M.2.1 pc = .ok (.lload_n i, 1)) (hl : L[(i : Nat)]? = some (some (.long n))) (hg : am_Good M (pc + 1) L (.long n :: st) h r) : am_Good M pc L st h r := by
  refine hg.go fun p l e R s m args below meth c B N0 S0 D dA H locs ls Q X k => ?_
  obtain ⟨⟨hx, hb, hml, hown, hts, hlk, hr, hnm⟩, ⟨xf, xl, xc, xs⟩, ⟨xn, xt, xB⟩, hK, hw, hS, hL⟩ := X
  exact lv_lload_n hx hb hd rfl (hL.2.2 _ _ hl) (k ls hL)
theorem g_istore {M : am_MI} {pc : Nat} {L : am_L} {st : List Value} {h : am_H} {r : am_R} {i : Nat} {n : Nat} (hd : decode M.2.1 pc = .ok (.istore i, 2)) (hl : am_nl L i) (hn : i < M.2.2.1) (hg : am_Good M (pc + 2) (L.set i (some (.retAddr n))) st h r) : am_Good M pc L (.retAddr n :: st) h r := by
  refine hg.go fun p l e R s m args below meth c B N0 S0 D dA H locs ls Q X k => ?_
  obtain ⟨⟨hx, hb, hml, hown, hts, hlk, hr, hnm⟩, ⟨xf, xl, xc, xs⟩, ⟨xn, xt, xB⟩, hK, hw, hS, hL⟩ := X
  exact lv_istore hx hb hd hL.has hn rfl (fun ls1 h1 => k ls1 (am_Lv.store1 hl h1))
theorem g_istore_n {M : am_MI} {pc : Nat} {L : am_L} {st : List Value} {h : am_H} {r : am_R} {i : Fin 4} {n : Nat} (hd : decode M.2.1 pc = .ok (.istore_n i, 1)) (hl : am_nl L (i : Nat)) (hn : (i : Nat) < M.2.2.1) (hg : am_Good M (pc + 1) (L.set (i : Nat) (some (.retAddr n))) st h r) : am_Good M pc L (.retAddr n :: st) h r := by
  refine hg.go fun p l e R s m args below meth c B N0 S0 D dA H locs ls Q X k => ?_
  obtain ⟨⟨hx, hb, hml, hown, hts, hlk, hr, hnm⟩, ⟨xf, xl, xc, xs⟩, ⟨xn, xt, xB⟩, hK, hw, hS, hL⟩ := X
  exact lv_istore_n hx hb hd rfl hL.has hn rfl (fun ls1 h1 => k ls1 (am_Lv.store1 hl h1))
theorem g_astore {M : am_MI} {pc : Nat} {L : am_L} {st : List Value} {h : am_H} {r : am_R} {i : Nat} {n : Nat} (hd : decode M.2.1 pc = .ok (.astore i, 2)) (hl : am_nl L i) (hn : i < M.2.2.1) (hg : am_Good M (pc + 2) (L.set i (some (.ref n))) st h r) : am_Good M pc L (.ref n :: st) h r := by
  refine hg.go fun p l e R s m args below meth c B N0 S0 D dA H locs ls Q X k => ?_
  obtain ⟨⟨hx, hb, hml, hown, hts, hlk, hr, hnm⟩, ⟨xf, xl, xc, xs⟩, ⟨xn, xt, xB⟩, hK, hw, hS, hL⟩ := X
  exact lv_astore hx hb hd hL.has hn rfl (fun ls1 h1 => k ls1 (am_Lv.store1 hl h1))
theorem g_astore_n {M : am_MI} {pc : Nat} {L : am_L} {st : List Value} {h : am_H} {r : am_R} {i : Fin 4} {n : Nat} (hd : decode M.2.1 pc = .ok (.astore_n i, 1)) (hl : am_nl L (i : Nat)) (hn : (i : Nat) < M.2.2.1) (hg : am_Good M (pc + 1) (L.set (i : Nat) (some (.ref n))) st h r) : am_Good M pc L (.ref n :: st) h r := by
  refine hg.go fun p l e R s m args below meth c B N0 S0 D dA H locs ls Q X k => ?_
  obtain ⟨⟨hx, hb, hml, hown, hts, hlk, hr, hnm⟩, ⟨xf, xl, xc, xs⟩, ⟨xn, xt, xB⟩, hK, hw, hS, hL⟩ := X
  exact lv_astore_n hx hb hd rfl hL.has hn rfl (fun ls1 h1 => k ls1 (am_Lv.store1 hl h1))
theorem g_lstore {M : am_MI} {pc : Nat} {L : am_L} {st : List Value} {h : am_H} {r : am_R} {i : Nat} {n : Int64} (hd : decode M.2.1 pc = .ok (.lstore i, 2)) (hl : am_nl L i) (hn : i + 1 < M.2.2.1) (hg : am_Good M (pc + 2) ((L.set i (some (.long n))).set (i + 1) none) st h r) : am_Good M pc L (.long n :: st) h r := by
  refine hg.go fun p l e R s m args below meth c B N0 S0 D dA H locs ls Q X k => ?_
  obtain ⟨⟨hx, hb, hml, hown, hts, hlk, hr, hnm⟩, ⟨xf, xl, xc, xs⟩, ⟨xn, xt, xB⟩, hK, hw, hS, hL⟩ := X
  exact lv_lstore hx hb hd hL.has hn rfl (fun ls1 h1 => k ls1 (am_Lv.store2 hl h1))
theorem g_lstore_n {M : am_MI} {pc : Nat} {L : am_L} {st : List Value} {h : am_H} {r : am_R} {i : Fin 4} {n : Int64} (hd : decode M.2.1 pc = .ok (.lstore_n i, 1)) (hl : am_nl L (i : Nat)) (hn : (i : Nat) + 1 < M.2.2.1) (hg : am_Good M (pc + 1) ((L.set (i : Nat) (some (.long n))).set ((i : Nat) + 1) none) st h r) : am_Good M pc L (.long n :: st) h r := by
  refine hg.go fun p l e R s m args below meth c B N0 S0 D dA H locs ls Q X k => ?_
  obtain ⟨⟨hx, hb, hml, hown, hts, hlk, hr, hnm⟩, ⟨xf, xl, xc, xs⟩, ⟨xn, xt, xB⟩, hK, hw, hS, hL⟩ := X
  exact lv_lstore_n hx hb hd rfl hL.has hn rfl (fun ls1 h1 => k ls1 (am_Lv.store2 hl h1))
theorem am_ll_at {B : Nat} {L : am_L} {i : Nat} {v : Value} (h : L[i]? = some (some v)) : ∃ k : Nat, (am_ll B L)[k]? = some (i, am_v B v) := List.getElem?_of_mem (am_ll_mem h)
theorem g_iinc {M : am_MI} {pc : Nat} {L : am_L} {st : List Value} {h : am_H} {r : am_R} {i n v : Nat} {d : Int} (hd : decode M.2.1 pc = .ok (.iinc i d, 3)) (hi : L[i]? = some (some (.retAddr n))) (hv : Int32.ofInt d = Int32.ofNat v) (hl : am_nl L i) (hn : i < M.2.2.1) (hg : am_Good M (pc + 3) (L.set i (some (.retAddr ((n + v) % 4294967296)))) st h r) : am_Good M pc L st h r := by
  refine hg.go fun p l e R s m args below meth c B N0 S0 D dA H locs ls Q X k => ?_
  obtain ⟨⟨hx, hb, hml, hown, hts, hlk, hr, hnm⟩, ⟨xf, xl, xc, xs⟩, ⟨xn, xt, xB⟩, hK, hw, hS, hL⟩ := X
  obtain ⟨q, hq⟩ := am_ll_at (B := B) hi
  exact lv_iinc hx hb hd hL.has hq (by rw [an_add, hv]) hn rfl (fun ls1 h1 => k ls1 (am_Lv.store1 hl h1))
theorem g_iconst {M : am_MI} {pc : Nat} {L : am_L} {st : List Value} {h : am_H} {r : am_R} {d : Int} {v : Nat} (hd : decode M.2.1 pc = .ok (.iconst d, 1)) (hv : Int32.ofInt d = Int32.ofNat v) (hg : am_Good M (pc + 1) L (.retAddr v :: st) h r) : am_Good M pc L st h r := by
  refine hg.go fun p l e R s m args below meth c B N0 S0 D dA H locs ls Q X k => ?_
  obtain ⟨⟨hx, hb, hml, hown, hts, hlk, hr, hnm⟩, ⟨xf, xl, xc, xs⟩, ⟨xn, xt, xB⟩, hK, hw, hS, hL⟩ := X
  exact lv_iconst hx hb hd hv (k ls hL)
theorem g_bipush {M : am_MI} {pc : Nat} {L : am_L} {st : List Value} {h : am_H} {r : am_R} {d : Int} {v : Nat} (hd : decode M.2.1 pc = .ok (.bipush d, 2)) (hv : (Int8.ofInt d).toInt32 = Int32.ofNat v) (hg : am_Good M (pc + 2) L (.retAddr v :: st) h r) : am_Good M pc L st h r := by
  refine hg.go fun p l e R s m args below meth c B N0 S0 D dA H locs ls Q X k => ?_
  obtain ⟨⟨hx, hb, hml, hown, hts, hlk, hr, hnm⟩, ⟨xf, xl, xc, xs⟩, ⟨xn, xt, xB⟩, hK, hw, hS, hL⟩ := X
  exact lv_bipush hx hb hd hv (k ls hL)
theorem g_sipush {M : am_MI} {pc : Nat} {L : am_L} {st : List Value} {h : am_H} {r : am_R} {d : Int} {v : Nat} (hd : decode M.2.1 pc = .ok (.sipush d, 3)) (hv : (Int16.ofInt d).toInt32 = Int32.ofNat v) (hg : am_Good M (pc + 3) L (.retAddr v :: st) h r) : am_Good M pc L st h r := by
  refine hg.go fun p l e R s m args below meth c B N0 S0 D dA H locs ls Q X k => ?_
  obtain ⟨⟨hx, hb, hml, hown, hts, hlk, hr, hnm⟩, ⟨xf, xl, xc, xs⟩, ⟨xn, xt, xB⟩, hK, hw, hS, hL⟩ := X
  exact lv_sipush hx hb hd hv (k ls hL)
theorem g_lconst {M : am_MI} {pc : Nat} {L : am_L} {st : List Value} {h : am_H} {r : am_R} {d : Fin 2} (hd : decode M.2.1 pc = .ok (.lconst d, 1)) (hg : am_Good M (pc + 1) L (.long (Int64.ofNat (d : Nat)) :: st) h r) : am_Good M pc L st h r := by
  refine hg.go fun p l e R s m args below meth c B N0 S0 D dA H locs ls Q X k => ?_
  obtain ⟨⟨hx, hb, hml, hown, hts, hlk, hr, hnm⟩, ⟨xf, xl, xc, xs⟩, ⟨xn, xt, xB⟩, hK, hw, hS, hL⟩ := X
  exact lv_lconst hx hb hd rfl (k ls hL)
theorem g_ldc {M : am_MI} {pc : Nat} {L : am_L} {st : List Value} {h : am_H} {r : am_R} {i v : Nat} (hd : decode M.2.1 pc = .ok (.ldc i, 2)) (hv : Cond.constant M.1.cls i (Int32.ofNat v) ∈ am_tbl) (hg : am_Good M (pc + 2) L (.retAddr v :: st) h r) : am_Good M pc L st h r := by
  refine hg.go fun p l e R s m args below meth c B N0 S0 D dA H locs ls Q X k => ?_
  obtain ⟨⟨hx, hb, hml, hown, hts, hlk, hr, hnm⟩, ⟨xf, xl, xc, xs⟩, ⟨xn, xt, xB⟩, hK, hw, hS, hL⟩ := X
  exact lv_ldc hx hb hown (hts _ hv) hd (k ls hL)
theorem g_ldcw {M : am_MI} {pc : Nat} {L : am_L} {st : List Value} {h : am_H} {r : am_R} {i v : Nat} (hd : decode M.2.1 pc = .ok (.ldc_w i, 3)) (hv : Cond.constant M.1.cls i (Int32.ofNat v) ∈ am_tbl) (hg : am_Good M (pc + 3) L (.retAddr v :: st) h r) : am_Good M pc L st h r := by
  refine hg.go fun p l e R s m args below meth c B N0 S0 D dA H locs ls Q X k => ?_
  obtain ⟨⟨hx, hb, hml, hown, hts, hlk, hr, hnm⟩, ⟨xf, xl, xc, xs⟩, ⟨xn, xt, xB⟩, hK, hw, hS, hL⟩ := X
  exact lv_ldcw hx hb hown (hts _ hv) hd (k ls hL)
theorem g_ldc2 {M : am_MI} {pc : Nat} {L : am_L} {st : List Value} {h : am_H} {r : am_R} {i : Nat} {v : Int64} (hd : decode M.2.1 pc = .ok (.ldc2_w i, 3)) (hv : Cond.constantLong M.1.cls i v ∈ am_tbl) (hg : am_Good M (pc + 3) L (.long v :: st) h r) : am_Good M pc L st h r := by
  refine hg.go fun p l e R s m args below meth c B N0 S0 D dA H locs ls Q X k => ?_
  obtain ⟨⟨hx, hb, hml, hown, hts, hlk, hr, hnm⟩, ⟨xf, xl, xc, xs⟩, ⟨xn, xt, xB⟩, hK, hw, hS, hL⟩ := X
  exact lv_ldc2 hx hb hown (hts _ hv) hd (k ls hL)
theorem g_iadd {M : am_MI} {pc : Nat} {L : am_L} {st : List Value} {h : am_H} {r : am_R} {a b : Nat} (hd : decode M.2.1 pc = .ok (.iadd, 1)) (hg : am_Good M (pc + 1) L (.retAddr ((a + b) % 4294967296) :: st) h r) : am_Good M pc L (.retAddr b :: .retAddr a :: st) h r := by
  refine hg.go fun p l e R s m args below meth c B N0 S0 D dA H locs ls Q X k => ?_
  obtain ⟨⟨hx, hb, hml, hown, hts, hlk, hr, hnm⟩, ⟨xf, xl, xc, xs⟩, ⟨xn, xt, xB⟩, hK, hw, hS, hL⟩ := X
  exact lv_iadd hx hb hd (W.eq (by simp only [List.map_cons, am_v]; rw [an_add]) (k ls hL))
theorem g_isub {M : am_MI} {pc : Nat} {L : am_L} {st : List Value} {h : am_H} {r : am_R} {a b : Nat} (hd : decode M.2.1 pc = .ok (.isub, 1)) (hg : am_Good M (pc + 1) L (.retAddr ((a + (4294967296 - b % 4294967296)) % 4294967296) :: st) h r) : am_Good M pc L (.retAddr b :: .retAddr a :: st) h r := by
  refine hg.go fun p l e R s m args below meth c B N0 S0 D dA H locs ls Q X k => ?_
  obtain ⟨⟨hx, hb, hml, hown, hts, hlk, hr, hnm⟩, ⟨xf, xl, xc, xs⟩, ⟨xn, xt, xB⟩, hK, hw, hS, hL⟩ := X
  exact lv_isub hx hb hd (W.eq (by simp only [List.map_cons, am_v]; rw [an_sub]) (k ls hL))
theorem g_imul {M : am_MI} {pc : Nat} {L : am_L} {st : List Value} {h : am_H} {r : am_R} {a b : Nat} (hd : decode M.2.1 pc = .ok (.imul, 1)) (hg : am_Good M (pc + 1) L (.retAddr ((a * b) % 4294967296) :: st) h r) : am_Good M pc L (.retAddr b :: .retAddr a :: st) h r := by
  refine hg.go fun p l e R s m args below meth c B N0 S0 D dA H locs ls Q X k => ?_
  obtain ⟨⟨hx, hb, hml, hown, hts, hlk, hr, hnm⟩, ⟨xf, xl, xc, xs⟩, ⟨xn, xt, xB⟩, hK, hw, hS, hL⟩ := X
  exact lv_imul hx hb hd (W.eq (by simp only [List.map_cons, am_v]; rw [an_mul]) (k ls hL))
theorem g_iand {M : am_MI} {pc : Nat} {L : am_L} {st : List Value} {h : am_H} {r : am_R} {a b : Nat} (hd : decode M.2.1 pc = .ok (.iand, 1)) (hg : am_Good M (pc + 1) L (.retAddr (a &&& b) :: st) h r) : am_Good M pc L (.retAddr b :: .retAddr a :: st) h r := by
  refine hg.go fun p l e R s m args below meth c B N0 S0 D dA H locs ls Q X k => ?_
  obtain ⟨⟨hx, hb, hml, hown, hts, hlk, hr, hnm⟩, ⟨xf, xl, xc, xs⟩, ⟨xn, xt, xB⟩, hK, hw, hS, hL⟩ := X
  exact lv_iand hx hb hd (W.eq (by simp only [List.map_cons, am_v]; rw [an_and]) (k ls hL))
theorem g_ior {M : am_MI} {pc : Nat} {L : am_L} {st : List Value} {h : am_H} {r : am_R} {a b : Nat} (hd : decode M.2.1 pc = .ok (.ior, 1)) (hg : am_Good M (pc + 1) L (.retAddr (a ||| b) :: st) h r) : am_Good M pc L (.retAddr b :: .retAddr a :: st) h r := by
  refine hg.go fun p l e R s m args below meth c B N0 S0 D dA H locs ls Q X k => ?_
  obtain ⟨⟨hx, hb, hml, hown, hts, hlk, hr, hnm⟩, ⟨xf, xl, xc, xs⟩, ⟨xn, xt, xB⟩, hK, hw, hS, hL⟩ := X
  exact lv_ior hx hb hd (W.eq (by simp only [List.map_cons, am_v]; rw [an_or]) (k ls hL))
theorem g_ixor {M : am_MI} {pc : Nat} {L : am_L} {st : List Value} {h : am_H} {r : am_R} {a b : Nat} (hd : decode M.2.1 pc = .ok (.ixor, 1)) (hg : am_Good M (pc + 1) L (.retAddr (a ^^^ b) :: st) h r) : am_Good M pc L (.retAddr b :: .retAddr a :: st) h r := by
  refine hg.go fun p l e R s m args below meth c B N0 S0 D dA H locs ls Q X k => ?_
  obtain ⟨⟨hx, hb, hml, hown, hts, hlk, hr, hnm⟩, ⟨xf, xl, xc, xs⟩, ⟨xn, xt, xB⟩, hK, hw, hS, hL⟩ := X
  exact lv_ixor hx hb hd (W.eq (by simp only [List.map_cons, am_v]; rw [an_xor]) (k ls hL))
theorem g_ishl {M : am_MI} {pc : Nat} {L : am_L} {st : List Value} {h : am_H} {r : am_R} {a b : Nat} (hd : decode M.2.1 pc = .ok (.ishl, 1)) (hg : am_Good M (pc + 1) L (.retAddr ((a <<< (b % 32)) % 4294967296) :: st) h r) : am_Good M pc L (.retAddr b :: .retAddr a :: st) h r := by
  refine hg.go fun p l e R s m args below meth c B N0 S0 D dA H locs ls Q X k => ?_
  obtain ⟨⟨hx, hb, hml, hown, hts, hlk, hr, hnm⟩, ⟨xf, xl, xc, xs⟩, ⟨xn, xt, xB⟩, hK, hw, hS, hL⟩ := X
  exact lv_ishl hx hb hd (W.eq (by simp only [List.map_cons, am_v]; rw [an_shl]) (k ls hL))
theorem g_ishr {M : am_MI} {pc : Nat} {L : am_L} {st : List Value} {h : am_H} {r : am_R} {a b : Nat} (hd : decode M.2.1 pc = .ok (.ishr, 1)) (ha : a < 2147483648) (hg : am_Good M (pc + 1) L (.retAddr (a >>> (b % 32)) :: st) h r) : am_Good M pc L (.retAddr b :: .retAddr a :: st) h r := by
  refine hg.go fun p l e R s m args below meth c B N0 S0 D dA H locs ls Q X k => ?_
  obtain ⟨⟨hx, hb, hml, hown, hts, hlk, hr, hnm⟩, ⟨xf, xl, xc, xs⟩, ⟨xn, xt, xB⟩, hK, hw, hS, hL⟩ := X
  exact lv_ishr hx hb hd (W.eq (by simp only [List.map_cons, am_v]; rw [an_shr b ha]) (k ls hL))
theorem g_idiv {M : am_MI} {pc : Nat} {L : am_L} {st : List Value} {h : am_H} {r : am_R} {a b : Nat} (hd : decode M.2.1 pc = .ok (.idiv, 1)) (ha : a < 2147483648) (hb0 : b < 2147483648) (h0 : 0 < b) (hg : am_Good M (pc + 1) L (.retAddr (a / b) :: st) h r) : am_Good M pc L (.retAddr b :: .retAddr a :: st) h r := by
  refine hg.go fun p l e R s m args below meth c B N0 S0 D dA H locs ls Q X k => ?_
  obtain ⟨⟨hx, hb, hml, hown, hts, hlk, hr, hnm⟩, ⟨xf, xl, xc, xs⟩, ⟨xn, xt, xB⟩, hK, hw, hS, hL⟩ := X
  exact lv_idiv hx hb hd (an_ne0 h0 hb0) (W.eq (by simp only [List.map_cons, am_v]; rw [an_div ha hb0]) (k ls hL))
theorem g_irem {M : am_MI} {pc : Nat} {L : am_L} {st : List Value} {h : am_H} {r : am_R} {a b : Nat} (hd : decode M.2.1 pc = .ok (.irem, 1)) (ha : a < 2147483648) (hb0 : b < 2147483648) (h0 : 0 < b) (hg : am_Good M (pc + 1) L (.retAddr (a % b) :: st) h r) : am_Good M pc L (.retAddr b :: .retAddr a :: st) h r := by
  refine hg.go fun p l e R s m args below meth c B N0 S0 D dA H locs ls Q X k => ?_
  obtain ⟨⟨hx, hb, hml, hown, hts, hlk, hr, hnm⟩, ⟨xf, xl, xc, xs⟩, ⟨xn, xt, xB⟩, hK, hw, hS, hL⟩ := X
  exact lv_irem hx hb hd (an_ne0 h0 hb0) (W.eq (by simp only [List.map_cons, am_v]; rw [an_rem ha hb0]) (k ls hL))
theorem g_iushr {M : am_MI} {pc : Nat} {L : am_L} {st : List Value} {h : am_H} {r : am_R} {a b : Nat} (hd : decode M.2.1 pc = .ok (.iushr, 1)) (hg : am_Good M (pc + 1) L (.retAddr ((a % 4294967296) >>> (b % 32)) :: st) h r) : am_Good M pc L (.retAddr b :: .retAddr a :: st) h r := by
  refine hg.go fun p l e R s m args below meth c B N0 S0 D dA H locs ls Q X k => ?_
  obtain ⟨⟨hx, hb, hml, hown, hts, hlk, hr, hnm⟩, ⟨xf, xl, xc, xs⟩, ⟨xn, xt, xB⟩, hK, hw, hS, hL⟩ := X
  exact lv_iushr hx hb hd (an_ushr a b).symm (k ls hL)
theorem g_i2c {M : am_MI} {pc : Nat} {L : am_L} {st : List Value} {h : am_H} {r : am_R} {a : Nat} (hd : decode M.2.1 pc = .ok (.i2c, 1)) (hg : am_Good M (pc + 1) L (.retAddr (a % 65536) :: st) h r) : am_Good M pc L (.retAddr a :: st) h r := by
  refine hg.go fun p l e R s m args below meth c B N0 S0 D dA H locs ls Q X k => ?_
  obtain ⟨⟨hx, hb, hml, hown, hts, hlk, hr, hnm⟩, ⟨xf, xl, xc, xs⟩, ⟨xn, xt, xB⟩, hK, hw, hS, hL⟩ := X
  exact lv_i2c hx hb hd (an_i2c a) (k ls hL)
theorem g_i2l {M : am_MI} {pc : Nat} {L : am_L} {st : List Value} {h : am_H} {r : am_R} {a : Nat} (hd : decode M.2.1 pc = .ok (.i2l, 1)) (hg : am_Good M (pc + 1) L (.long (Int32.ofNat a).toInt64 :: st) h r) : am_Good M pc L (.retAddr a :: st) h r := by
  refine hg.go fun p l e R s m args below meth c B N0 S0 D dA H locs ls Q X k => ?_
  obtain ⟨⟨hx, hb, hml, hown, hts, hlk, hr, hnm⟩, ⟨xf, xl, xc, xs⟩, ⟨xn, xt, xB⟩, hK, hw, hS, hL⟩ := X
  exact lv_i2l hx hb hd rfl (k ls hL)
theorem g_ladd {M : am_MI} {pc : Nat} {L : am_L} {st : List Value} {h : am_H} {r : am_R} {a b : Int64} (hd : decode M.2.1 pc = .ok (.ladd, 1)) (hg : am_Good M (pc + 1) L (.long (a + b) :: st) h r) : am_Good M pc L (.long b :: .long a :: st) h r := by
  refine hg.go fun p l e R s m args below meth c B N0 S0 D dA H locs ls Q X k => ?_
  obtain ⟨⟨hx, hb, hml, hown, hts, hlk, hr, hnm⟩, ⟨xf, xl, xc, xs⟩, ⟨xn, xt, xB⟩, hK, hw, hS, hL⟩ := X
  exact lv_ladd hx hb hd (k ls hL)
theorem g_lmul {M : am_MI} {pc : Nat} {L : am_L} {st : List Value} {h : am_H} {r : am_R} {a b : Int64} (hd : decode M.2.1 pc = .ok (.lmul, 1)) (hg : am_Good M (pc + 1) L (.long (a * b) :: st) h r) : am_Good M pc L (.long b :: .long a :: st) h r := by
  refine hg.go fun p l e R s m args below meth c B N0 S0 D dA H locs ls Q X k => ?_
  obtain ⟨⟨hx, hb, hml, hown, hts, hlk, hr, hnm⟩, ⟨xf, xl, xc, xs⟩, ⟨xn, xt, xB⟩, hK, hw, hS, hL⟩ := X
  exact lv_lmul hx hb hd (k ls hL)
theorem g_lrem {M : am_MI} {pc : Nat} {L : am_L} {st : List Value} {h : am_H} {r : am_R} {a b : Int64} (hd : decode M.2.1 pc = .ok (.lrem, 1)) (h0 : ¬ b = 0) (hg : am_Good M (pc + 1) L (.long (a - a / b * b) :: st) h r) : am_Good M pc L (.long b :: .long a :: st) h r := by
  refine hg.go fun p l e R s m args below meth c B N0 S0 D dA H locs ls Q X k => ?_
  obtain ⟨⟨hx, hb, hml, hown, hts, hlk, hr, hnm⟩, ⟨xf, xl, xc, xs⟩, ⟨xn, xt, xB⟩, hK, hw, hS, hL⟩ := X
  exact lv_lrem hx hb hd h0 (k ls hL)
theorem g_lcmp {M : am_MI} {pc : Nat} {L : am_L} {st : List Value} {h : am_H} {r : am_R} {a b : Int64} {v : Nat} (hd : decode M.2.1 pc = .ok (.lcmp, 1)) (hv : lg_cmp a b = Int32.ofNat v) (hg : am_Good M (pc + 1) L (.retAddr v :: st) h r) : am_Good M pc L (.long b :: .long a :: st) h r := by
  refine hg.go fun p l e R s m args below meth c B N0 S0 D dA H locs ls Q X k => ?_
  obtain ⟨⟨hx, hb, hml, hown, hts, hlk, hr, hnm⟩, ⟨xf, xl, xc, xs⟩, ⟨xn, xt, xB⟩, hK, hw, hS, hL⟩ := X
  exact W.lcmp hx hb hd (W.eq (by simp only [List.map_cons, am_v]; rw [hv]) (k ls hL))
theorem g_dup {M : am_MI} {pc : Nat} {L : am_L} {st : List Value} {h : am_H} {r : am_R} {v : Value} (hd : decode M.2.1 pc = .ok (.dup, 1)) (hv : v.category = 1) (hg : am_Good M (pc + 1) L (v :: v :: st) h r) : am_Good M pc L (v :: st) h r := by
  refine hg.go fun p l e R s m args below meth c B N0 S0 D dA H locs ls Q X k => ?_
  obtain ⟨⟨hx, hb, hml, hown, hts, hlk, hr, hnm⟩, ⟨xf, xl, xc, xs⟩, ⟨xn, xt, xB⟩, hK, hw, hS, hL⟩ := X
  exact lv_dup hx hb hd (by rw [am_v_cat]; exact hv) (k ls hL)
theorem g_dup2 {M : am_MI} {pc : Nat} {L : am_L} {st : List Value} {h : am_H} {r : am_R} {u v : Value} (hd : decode M.2.1 pc = .ok (.dup2, 1)) (hu : u.category = 1) (hv : v.category = 1) (hg : am_Good M (pc + 1) L (u :: v :: u :: v :: st) h r) : am_Good M pc L (u :: v :: st) h r := by
  refine hg.go fun p l e R s m args below meth c B N0 S0 D dA H locs ls Q X k => ?_
  obtain ⟨⟨hx, hb, hml, hown, hts, hlk, hr, hnm⟩, ⟨xf, xl, xc, xs⟩, ⟨xn, xt, xB⟩, hK, hw, hS, hL⟩ := X
  exact lv_dup2_11 hx hb hd (by rw [am_v_cat]; exact hu) (by rw [am_v_cat]; exact hv) (k ls hL)
theorem g_pop {M : am_MI} {pc : Nat} {L : am_L} {st : List Value} {h : am_H} {r : am_R} {v : Value} (hd : decode M.2.1 pc = .ok (.pop, 1)) (hv : v.category = 1) (hg : am_Good M (pc + 1) L st h r) : am_Good M pc L (v :: st) h r := by
  refine hg.go fun p l e R s m args below meth c B N0 S0 D dA H locs ls Q X k => ?_
  obtain ⟨⟨hx, hb, hml, hown, hts, hlk, hr, hnm⟩, ⟨xf, xl, xc, xs⟩, ⟨xn, xt, xB⟩, hK, hw, hS, hL⟩ := X
  exact lv_pop hx hb hd (by rw [am_v_cat]; exact hv) (k ls hL)
theorem g_goto {M : am_MI} {pc : Nat} {L : am_L} {st : List Value} {h : am_H} {r : am_R} {d : Int} {t : Nat} (hd : decode M.2.1 pc = .ok (.goto d, 3)) (ht : (pc : Int) + d = (t : Int)) (hg : am_Good M t L st h r) : am_Good M pc L st h r := by
  refine hg.go fun p l e R s m args below meth c B N0 S0 D dA H locs ls Q X k => ?_
  obtain ⟨⟨hx, hb, hml, hown, hts, hlk, hr, hnm⟩, ⟨xf, xl, xc, xs⟩, ⟨xn, xt, xB⟩, hK, hw, hS, hL⟩ := X
  exact lv_goto hx hb hd ht (k ls hL)
def am_teq (a b : Nat) : Bool := Nat.beq (a % 4294967296) (b % 4294967296)
def am_tlt (a b : Nat) : Bool := Nat.blt ((a + 2147483648) % 4294967296) ((b + 2147483648) % 4294967296)
theorem am_teq_iff (a b : Nat) : am_teq a b = true ↔ Int32.ofNat a = Int32.ofNat b := by
  rw [an_eq]
  unfold am_teq
  rw [Nat.beq_eq]
theorem am_tlt_iff (a b : Nat) : am_tlt a b = true ↔ Int32.ofNat a < Int32.ofNat b := by
  rw [an_lt]
  unfold am_tlt
  simp [Nat.blt_eq]
theorem am_tle_iff (a b : Nat) : am_tlt b a = false ↔ Int32.ofNat a ≤ Int32.ofNat b := by
  rw [an_le, ← Bool.not_eq_true, am_tlt_iff, an_lt]
  omega
def am_tc (c : Jvm.ClassFile.Cond) (a b : Nat) : Bool := match c with
  | .eq => am_teq a b
  | .ne => !am_teq a b
  | .lt => am_tlt a b
  | .ge => !am_tlt a b
  | .gt => am_tlt b a
  | .le => !am_tlt b a
theorem am_no_eq_t {x y : Int32} {t : Bool} (q : (t = true ↔ x = y)) (hh : t = true) (z : ¬ (x = y)) : False := by
  subst hh
  simp only [Int32.lt_iff_toInt_lt, Int32.le_iff_toInt_le, ← Int32.toInt_inj, iff_true, iff_false, true_iff, false_iff, Bool.true_eq_false, Bool.false_eq_true, reduceCtorEq] at q z
  omega
theorem am_no_eq_f {x y : Int32} {t : Bool} (q : (t = true ↔ x = y)) (hh : t = false) (z : x = y) : False := by
  subst hh
  simp only [Int32.lt_iff_toInt_lt, Int32.le_iff_toInt_le, ← Int32.toInt_inj, iff_true, iff_false, true_iff, false_iff, Bool.true_eq_false, Bool.false_eq_true, reduceCtorEq] at q z
  omega
theorem am_no_ne_t {x y : Int32} {t : Bool} (q : (t = true ↔ x = y)) (hh : t = false) (z : ¬ (¬ x = y)) : False := by
  subst hh
  simp only [Int32.lt_iff_toInt_lt, Int32.le_iff_toInt_le, ← Int32.toInt_inj, iff_true, iff_false, true_iff, false_iff, Bool.true_eq_false, Bool.false_eq_true, reduceCtorEq] at q z
  omega
theorem am_no_ne_f {x y : Int32} {t : Bool} (q : (t = true ↔ x = y)) (hh : t = true) (z : ¬ x = y) : False := by
  subst hh
  simp only [Int32.lt_iff_toInt_lt, Int32.le_iff_toInt_le, ← Int32.toInt_inj, iff_true, iff_false, true_iff, false_iff, Bool.true_eq_false, Bool.false_eq_true, reduceCtorEq] at q z
  omega
theorem am_no_lt_t {x y : Int32} {t : Bool} (q : (t = true ↔ x < y)) (hh : t = true) (z : ¬ (x < y)) : False := by
  subst hh
  simp only [Int32.lt_iff_toInt_lt, Int32.le_iff_toInt_le, ← Int32.toInt_inj, iff_true, iff_false, true_iff, false_iff, Bool.true_eq_false, Bool.false_eq_true, reduceCtorEq] at q z
  omega
theorem am_no_lt_f {x y : Int32} {t : Bool} (q : (t = true ↔ x < y)) (hh : t = false) (z : x < y) : False := by
  subst hh
  simp only [Int32.lt_iff_toInt_lt, Int32.le_iff_toInt_le, ← Int32.toInt_inj, iff_true, iff_false, true_iff, false_iff, Bool.true_eq_false, Bool.false_eq_true, reduceCtorEq] at q z
  omega
theorem am_no_ge_t {x y : Int32} {t : Bool} (q : (t = true ↔ x < y)) (hh : t = false) (z : ¬ (y ≤ x)) : False := by
  subst hh
  simp only [Int32.lt_iff_toInt_lt, Int32.le_iff_toInt_le, ← Int32.toInt_inj, iff_true, iff_false, true_iff, false_iff, Bool.true_eq_false, Bool.false_eq_true, reduceCtorEq] at q z
  omega
theorem am_no_ge_f {x y : Int32} {t : Bool} (q : (t = true ↔ x < y)) (hh : t = true) (z : y ≤ x) : False := by
  subst hh
  simp only [Int32.lt_iff_toInt_lt, Int32.le_iff_toInt_le, ← Int32.toInt_inj, iff_true, iff_false, true_iff, false_iff, Bool.true_eq_false, Bool.false_eq_true, reduceCtorEq] at q z
  omega
theorem am_no_gt_t {x y : Int32} {t : Bool} (q : (t = true ↔ y < x)) (hh : t = true) (z : ¬ (y < x)) : False := by
  subst hh
  simp only [Int32.lt_iff_toInt_lt, Int32.le_iff_toInt_le, ← Int32.toInt_inj, iff_true, iff_false, true_iff, false_iff, Bool.true_eq_false, Bool.false_eq_true, reduceCtorEq] at q z
  omega
theorem am_no_gt_f {x y : Int32} {t : Bool} (q : (t = true ↔ y < x)) (hh : t = false) (z : y < x) : False := by
  subst hh
  simp only [Int32.lt_iff_toInt_lt, Int32.le_iff_toInt_le, ← Int32.toInt_inj, iff_true, iff_false, true_iff, false_iff, Bool.true_eq_false, Bool.false_eq_true, reduceCtorEq] at q z
  omega
theorem am_no_le_t {x y : Int32} {t : Bool} (q : (t = true ↔ y < x)) (hh : t = false) (z : ¬ (x ≤ y)) : False := by
  subst hh
  simp only [Int32.lt_iff_toInt_lt, Int32.le_iff_toInt_le, ← Int32.toInt_inj, iff_true, iff_false, true_iff, false_iff, Bool.true_eq_false, Bool.false_eq_true, reduceCtorEq] at q z
  omega
theorem am_no_le_f {x y : Int32} {t : Bool} (q : (t = true ↔ y < x)) (hh : t = true) (z : x ≤ y) : False := by
  subst hh
  simp only [Int32.lt_iff_toInt_lt, Int32.le_iff_toInt_le, ← Int32.toInt_inj, iff_true, iff_false, true_iff, false_iff, Bool.true_eq_false, Bool.false_eq_true, reduceCtorEq] at q z
  omega
theorem g_icmp_eq_t {M : am_MI} {pc : Nat} {L : am_L} {st : List Value} {h : am_H} {r : am_R} {a b t : Nat} {d : Int} (hd : decode M.2.1 pc = .ok (.if_icmp .eq d, 3)) (ht : (pc : Int) + d = (t : Int)) (hh : am_tc .eq a b = true) (hg : am_Good M t L st h r) : am_Good M pc L (.retAddr b :: .retAddr a :: st) h r := by
  refine hg.go fun p l e R s m args below meth c B N0 S0 D dA H locs ls Q X k => ?_
  obtain ⟨⟨hx, hb, hml, hown, hts, hlk, hr, hnm⟩, ⟨xf, xl, xc, xs⟩, ⟨xn, xt, xB⟩, hK, hw, hS, hL⟩ := X
  have q := am_teq_iff a b
  simp only [am_tc, Bool.not_eq_true', Bool.not_eq_false'] at hh
  refine lv_icmp_eq hx hb hd ht (fun z => k ls hL) (fun z => ?_)
  exfalso
  exact am_no_eq_t q hh z
theorem g_icmp_eq_f {M : am_MI} {pc : Nat} {L : am_L} {st : List Value} {h : am_H} {r : am_R} {a b t : Nat} {d : Int} (hd : decode M.2.1 pc = .ok (.if_icmp .eq d, 3)) (ht : (pc : Int) + d = (t : Int)) (hh : am_tc .eq a b = false) (hg : am_Good M (pc + 3) L st h r) : am_Good M pc L (.retAddr b :: .retAddr a :: st) h r := by
  refine hg.go fun p l e R s m args below meth c B N0 S0 D dA H locs ls Q X k => ?_
  obtain ⟨⟨hx, hb, hml, hown, hts, hlk, hr, hnm⟩, ⟨xf, xl, xc, xs⟩, ⟨xn, xt, xB⟩, hK, hw, hS, hL⟩ := X
  have q := am_teq_iff a b
  simp only [am_tc, Bool.not_eq_true', Bool.not_eq_false'] at hh
  refine lv_icmp_eq hx hb hd ht (fun z => ?_) (fun z => k ls hL)
  exfalso
  exact am_no_eq_f q hh z
theorem g_icmp_ne_t {M : am_MI} {pc : Nat} {L : am_L} {st : List Value} {h : am_H} {r : am_R} {a b t : Nat} {d : Int} (hd : decode M.2.1 pc = .ok (.if_icmp .ne d, 3)) (ht : (pc : Int) + d = (t : Int)) (hh : am_tc .ne a b = true) (hg : am_Good M t L st h r) : am_Good M pc L (.retAddr b :: .retAddr a :: st) h r := by
  refine hg.go fun p l e R s m args below meth c B N0 S0 D dA H locs ls Q X k => ?_
  obtain ⟨⟨hx, hb, hml, hown, hts, hlk, hr, hnm⟩, ⟨xf, xl, xc, xs⟩, ⟨xn, xt, xB⟩, hK, hw, hS, hL⟩ := X
  have q := am_teq_iff a b
  simp only [am_tc, Bool.not_eq_true', Bool.not_eq_false'] at hh
  refine lv_icmp_ne hx hb hd ht (fun z => k ls hL) (fun z => ?_)
  exfalso
  exact am_no_ne_t q hh (fun w => w z)
theorem g_icmp_ne_f {M : am_MI} {pc : Nat} {L : am_L} {st : List Value} {h : am_H} {r : am_R} {a b t : Nat} {d : Int} (hd : decode M.2.1 pc = .ok (.if_icmp .ne d, 3)) (ht : (pc : Int) + d = (t : Int)) (hh : am_tc .ne a b = false) (hg : am_Good M (pc + 3) L st h r) : am_Good M pc L (.retAddr b :: .retAddr a :: st) h r := by
  refine hg.go fun p l e R s m args below meth c B N0 S0 D dA H locs ls Q X k => ?_
  obtain ⟨⟨hx, hb, hml, hown, hts, hlk, hr, hnm⟩, ⟨xf, xl, xc, xs⟩, ⟨xn, xt, xB⟩, hK, hw, hS, hL⟩ := X
  have q := am_teq_iff a b
  simp only [am_tc, Bool.not_eq_true', Bool.not_eq_false'] at hh
  refine lv_icmp_ne hx hb hd ht (fun z => ?_) (fun z => k ls hL)
  exfalso
  exact am_no_ne_f q hh z
theorem g_icmp_lt_t {M : am_MI} {pc : Nat} {L : am_L} {st : List Value} {h : am_H} {r : am_R} {a b t : Nat} {d : Int} (hd : decode M.2.1 pc = .ok (.if_icmp .lt d, 3)) (ht : (pc : Int) + d = (t : Int)) (hh : am_tc .lt a b = true) (hg : am_Good M t L st h r) : am_Good M pc L (.retAddr b :: .retAddr a :: st) h r := by
  refine hg.go fun p l e R s m args below meth c B N0 S0 D dA H locs ls Q X k => ?_
  obtain ⟨⟨hx, hb, hml, hown, hts, hlk, hr, hnm⟩, ⟨xf, xl, xc, xs⟩, ⟨xn, xt, xB⟩, hK, hw, hS, hL⟩ := X
  have q := am_tlt_iff a b
  simp only [am_tc, Bool.not_eq_true', Bool.not_eq_false'] at hh
  refine lv_icmp_lt hx hb hd ht (fun z => k ls hL) (fun z => ?_)
  exfalso
  exact am_no_lt_t q hh z
theorem g_icmp_lt_f {M : am_MI} {pc : Nat} {L : am_L} {st : List Value} {h : am_H} {r : am_R} {a b t : Nat} {d : Int} (hd : decode M.2.1 pc = .ok (.if_icmp .lt d, 3)) (ht : (pc : Int) + d = (t : Int)) (hh : am_tc .lt a b = false) (hg : am_Good M (pc + 3) L st h r) : am_Good M pc L (.retAddr b :: .retAddr a :: st) h r := by
  refine hg.go fun p l e R s m args below meth c B N0 S0 D dA H locs ls Q X k => ?_
  obtain ⟨⟨hx, hb, hml, hown, hts, hlk, hr, hnm⟩, ⟨xf, xl, xc, xs⟩, ⟨xn, xt, xB⟩, hK, hw, hS, hL⟩ := X
  have q := am_tlt_iff a b
  simp only [am_tc, Bool.not_eq_true', Bool.not_eq_false'] at hh
  refine lv_icmp_lt hx hb hd ht (fun z => ?_) (fun z => k ls hL)
  exfalso
  exact am_no_lt_f q hh z
theorem g_icmp_ge_t {M : am_MI} {pc : Nat} {L : am_L} {st : List Value} {h : am_H} {r : am_R} {a b t : Nat} {d : Int} (hd : decode M.2.1 pc = .ok (.if_icmp .ge d, 3)) (ht : (pc : Int) + d = (t : Int)) (hh : am_tc .ge a b = true) (hg : am_Good M t L st h r) : am_Good M pc L (.retAddr b :: .retAddr a :: st) h r := by
  refine hg.go fun p l e R s m args below meth c B N0 S0 D dA H locs ls Q X k => ?_
  obtain ⟨⟨hx, hb, hml, hown, hts, hlk, hr, hnm⟩, ⟨xf, xl, xc, xs⟩, ⟨xn, xt, xB⟩, hK, hw, hS, hL⟩ := X
  have q := am_tlt_iff a b
  simp only [am_tc, Bool.not_eq_true', Bool.not_eq_false'] at hh
  refine lv_icmp_ge hx hb hd ht (fun z => k ls hL) (fun z => ?_)
  exfalso
  exact am_no_ge_t q hh z
theorem g_icmp_ge_f {M : am_MI} {pc : Nat} {L : am_L} {st : List Value} {h : am_H} {r : am_R} {a b t : Nat} {d : Int} (hd : decode M.2.1 pc = .ok (.if_icmp .ge d, 3)) (ht : (pc : Int) + d = (t : Int)) (hh : am_tc .ge a b = false) (hg : am_Good M (pc + 3) L st h r) : am_Good M pc L (.retAddr b :: .retAddr a :: st) h r := by
  refine hg.go fun p l e R s m args below meth c B N0 S0 D dA H locs ls Q X k => ?_
  obtain ⟨⟨hx, hb, hml, hown, hts, hlk, hr, hnm⟩, ⟨xf, xl, xc, xs⟩, ⟨xn, xt, xB⟩, hK, hw, hS, hL⟩ := X
  have q := am_tlt_iff a b
  simp only [am_tc, Bool.not_eq_true', Bool.not_eq_false'] at hh
  refine lv_icmp_ge hx hb hd ht (fun z => ?_) (fun z => k ls hL)
  exfalso
  exact am_no_ge_f q hh z
theorem g_icmp_gt_t {M : am_MI} {pc : Nat} {L : am_L} {st : List Value} {h : am_H} {r : am_R} {a b t : Nat} {d : Int} (hd : decode M.2.1 pc = .ok (.if_icmp .gt d, 3)) (ht : (pc : Int) + d = (t : Int)) (hh : am_tc .gt a b = true) (hg : am_Good M t L st h r) : am_Good M pc L (.retAddr b :: .retAddr a :: st) h r := by
  refine hg.go fun p l e R s m args below meth c B N0 S0 D dA H locs ls Q X k => ?_
  obtain ⟨⟨hx, hb, hml, hown, hts, hlk, hr, hnm⟩, ⟨xf, xl, xc, xs⟩, ⟨xn, xt, xB⟩, hK, hw, hS, hL⟩ := X
  have q := am_tlt_iff b a
  simp only [am_tc, Bool.not_eq_true', Bool.not_eq_false'] at hh
  refine lv_icmp_gt hx hb hd ht (fun z => k ls hL) (fun z => ?_)
  exfalso
  exact am_no_gt_t q hh z
theorem g_icmp_gt_f {M : am_MI} {pc : Nat} {L : am_L} {st : List Value} {h : am_H} {r : am_R} {a b t : Nat} {d : Int} (hd : decode M.2.1 pc = .ok (.if_icmp .gt d, 3)) (ht : (pc : Int) + d = (t : Int)) (hh : am_tc .gt a b = false) (hg : am_Good M (pc + 3) L st h r) : am_Good M pc L (.retAddr b :: .retAddr a :: st) h r := by
  refine hg.go fun p l e R s m args below meth c B N0 S0 D dA H locs ls Q X k => ?_
  obtain ⟨⟨hx, hb, hml, hown, hts, hlk, hr, hnm⟩, ⟨xf, xl, xc, xs⟩, ⟨xn, xt, xB⟩, hK, hw, hS, hL⟩ := X
  have q := am_tlt_iff b a
  simp only [am_tc, Bool.not_eq_true', Bool.not_eq_false'] at hh
  refine lv_icmp_gt hx hb hd ht (fun z => ?_) (fun z => k ls hL)
  exfalso
  exact am_no_gt_f q hh z
theorem g_icmp_le_t {M : am_MI} {pc : Nat} {L : am_L} {st : List Value} {h : am_H} {r : am_R} {a b t : Nat} {d : Int} (hd : decode M.2.1 pc = .ok (.if_icmp .le d, 3)) (ht : (pc : Int) + d = (t : Int)) (hh : am_tc .le a b = true) (hg : am_Good M t L st h r) : am_Good M pc L (.retAddr b :: .retAddr a :: st) h r := by
  refine hg.go fun p l e R s m args below meth c B N0 S0 D dA H locs ls Q X k => ?_
  obtain ⟨⟨hx, hb, hml, hown, hts, hlk, hr, hnm⟩, ⟨xf, xl, xc, xs⟩, ⟨xn, xt, xB⟩, hK, hw, hS, hL⟩ := X
  have q := am_tlt_iff b a
  simp only [am_tc, Bool.not_eq_true', Bool.not_eq_false'] at hh
  refine lv_icmp_le hx hb hd ht (fun z => k ls hL) (fun z => ?_)
  exfalso
  exact am_no_le_t q hh z
theorem g_icmp_le_f {M : am_MI} {pc : Nat} {L : am_L} {st : List Value} {h : am_H} {r : am_R} {a b t : Nat} {d : Int} (hd : decode M.2.1 pc = .ok (.if_icmp .le d, 3)) (ht : (pc : Int) + d = (t : Int)) (hh : am_tc .le a b = false) (hg : am_Good M (pc + 3) L st h r) : am_Good M pc L (.retAddr b :: .retAddr a :: st) h r := by
  refine hg.go fun p l e R s m args below meth c B N0 S0 D dA H locs ls Q X k => ?_
  obtain ⟨⟨hx, hb, hml, hown, hts, hlk, hr, hnm⟩, ⟨xf, xl, xc, xs⟩, ⟨xn, xt, xB⟩, hK, hw, hS, hL⟩ := X
  have q := am_tlt_iff b a
  simp only [am_tc, Bool.not_eq_true', Bool.not_eq_false'] at hh
  refine lv_icmp_le hx hb hd ht (fun z => ?_) (fun z => k ls hL)
  exfalso
  exact am_no_le_f q hh z
theorem g_if_eq_t {M : am_MI} {pc : Nat} {L : am_L} {st : List Value} {h : am_H} {r : am_R} {a t : Nat} {d : Int} (hd : decode M.2.1 pc = .ok (.ifCond .eq d, 3)) (ht : (pc : Int) + d = (t : Int)) (hh : am_tc .eq a 0 = true) (hg : am_Good M t L st h r) : am_Good M pc L (.retAddr a :: st) h r := by
  refine hg.go fun p l e R s m args below meth c B N0 S0 D dA H locs ls Q X k => ?_
  obtain ⟨⟨hx, hb, hml, hown, hts, hlk, hr, hnm⟩, ⟨xf, xl, xc, xs⟩, ⟨xn, xt, xB⟩, hK, hw, hS, hL⟩ := X
  have q := am_teq_iff a 0
  simp only [am_tc, Bool.not_eq_true', Bool.not_eq_false'] at hh
  refine lv_if_eq hx hb hd ht (fun z => k ls hL) (fun z => ?_)
  exfalso
  exact am_no_eq_t q hh z
theorem g_if_eq_f {M : am_MI} {pc : Nat} {L : am_L} {st : List Value} {h : am_H} {r : am_R} {a t : Nat} {d : Int} (hd : decode M.2.1 pc = .ok (.ifCond .eq d, 3)) (ht : (pc : Int) + d = (t : Int)) (hh : am_tc .eq a 0 = false) (hg : am_Good M (pc + 3) L st h r) : am_Good M pc L (.retAddr a :: st) h r := by
  refine hg.go fun p l e R s m args below meth c B N0 S0 D dA H locs ls Q X k => ?_
  obtain ⟨⟨hx, hb, hml, hown, hts, hlk, hr, hnm⟩, ⟨xf, xl, xc, xs⟩, ⟨xn, xt, xB⟩, hK, hw, hS, hL⟩ := X
  have q := am_teq_iff a 0
  simp only [am_tc, Bool.not_eq_true', Bool.not_eq_false'] at hh
  refine lv_if_eq hx hb hd ht (fun z => ?_) (fun z => k ls hL)
  exfalso
  exact am_no_eq_f q hh z
theorem g_if_ne_t {M : am_MI} {pc : Nat} {L : am_L} {st : List Value} {h : am_H} {r : am_R} {a t : Nat} {d : Int} (hd : decode M.2.1 pc = .ok (.ifCond .ne d, 3)) (ht : (pc : Int) + d = (t : Int)) (hh : am_tc .ne a 0 = true) (hg : am_Good M t L st h r) : am_Good M pc L (.retAddr a :: st) h r := by
  refine hg.go fun p l e R s m args below meth c B N0 S0 D dA H locs ls Q X k => ?_
  obtain ⟨⟨hx, hb, hml, hown, hts, hlk, hr, hnm⟩, ⟨xf, xl, xc, xs⟩, ⟨xn, xt, xB⟩, hK, hw, hS, hL⟩ := X
  have q := am_teq_iff a 0
  simp only [am_tc, Bool.not_eq_true', Bool.not_eq_false'] at hh
  refine lv_if_ne hx hb hd ht (fun z => k ls hL) (fun z => ?_)
  exfalso
  exact am_no_ne_t q hh (fun w => w z)
theorem g_if_ne_f {M : am_MI} {pc : Nat} {L : am_L} {st : List Value} {h : am_H} {r : am_R} {a t : Nat} {d : Int} (hd : decode M.2.1 pc = .ok (.ifCond .ne d, 3)) (ht : (pc : Int) + d = (t : Int)) (hh : am_tc .ne a 0 = false) (hg : am_Good M (pc + 3) L st h r) : am_Good M pc L (.retAddr a :: st) h r := by
  refine hg.go fun p l e R s m args below meth c B N0 S0 D dA H locs ls Q X k => ?_
  obtain ⟨⟨hx, hb, hml, hown, hts, hlk, hr, hnm⟩, ⟨xf, xl, xc, xs⟩, ⟨xn, xt, xB⟩, hK, hw, hS, hL⟩ := X
  have q := am_teq_iff a 0
  simp only [am_tc, Bool.not_eq_true', Bool.not_eq_false'] at hh
  refine lv_if_ne hx hb hd ht (fun z => ?_) (fun z => k ls hL)
  exfalso
  exact am_no_ne_f q hh z
theorem g_if_lt_t {M : am_MI} {pc : Nat} {L : am_L} {st : List Value} {h : am_H} {r : am_R} {a t : Nat} {d : Int} (hd : decode M.2.1 pc = .ok (.ifCond .lt d, 3)) (ht : (pc : Int) + d = (t : Int)) (hh : am_tc .lt a 0 = true) (hg : am_Good M t L st h r) : am_Good M pc L (.retAddr a :: st) h r := by
  refine hg.go fun p l e R s m args below meth c B N0 S0 D dA H locs ls Q X k => ?_
  obtain ⟨⟨hx, hb, hml, hown, hts, hlk, hr, hnm⟩, ⟨xf, xl, xc, xs⟩, ⟨xn, xt, xB⟩, hK, hw, hS, hL⟩ := X
  have q := am_tlt_iff a 0
  simp only [am_tc, Bool.not_eq_true', Bool.not_eq_false'] at hh
  refine lv_if_lt hx hb hd ht (fun z => k ls hL) (fun z => ?_)
  exfalso
  exact am_no_lt_t q hh z
theorem g_if_lt_f {M : am_MI} {pc : Nat} {L : am_L} {st : List Value} {h : am_H} {r : am_R} {a t : Nat} {d : Int} (hd : decode M.2.1 pc = .ok (.ifCond .lt d, 3)) (ht : (pc : Int) + d = (t : Int)) (hh : am_tc .lt a 0 = false) (hg : am_Good M (pc + 3) L st h r) : am_Good M pc L (.retAddr a :: st) h r := by
  refine hg.go fun p l e R s m args below meth c B N0 S0 D dA H locs ls Q X k => ?_
  obtain ⟨⟨hx, hb, hml, hown, hts, hlk, hr, hnm⟩, ⟨xf, xl, xc, xs⟩, ⟨xn, xt, xB⟩, hK, hw, hS, hL⟩ := X
  have q := am_tlt_iff a 0
  simp only [am_tc, Bool.not_eq_true', Bool.not_eq_false'] at hh
  refine lv_if_lt hx hb hd ht (fun z => ?_) (fun z => k ls hL)
  exfalso
  exact am_no_lt_f q hh z
theorem g_if_ge_t {M : am_MI} {pc : Nat} {L : am_L} {st : List Value} {h : am_H} {r : am_R} {a t : Nat} {d : Int} (hd : decode M.2.1 pc = .ok (.ifCond .ge d, 3)) (ht : (pc : Int) + d = (t : Int)) (hh : am_tc .ge a 0 = true) (hg : am_Good M t L st h r) : am_Good M pc L (.retAddr a :: st) h r := by
  refine hg.go fun p l e R s m args below meth c B N0 S0 D dA H locs ls Q X k => ?_
  obtain ⟨⟨hx, hb, hml, hown, hts, hlk, hr, hnm⟩, ⟨xf, xl, xc, xs⟩, ⟨xn, xt, xB⟩, hK, hw, hS, hL⟩ := X
  have q := am_tlt_iff a 0
  simp only [am_tc, Bool.not_eq_true', Bool.not_eq_false'] at hh
  refine lv_if_ge hx hb hd ht (fun z => k ls hL) (fun z => ?_)
  exfalso
  exact am_no_ge_t q hh z
theorem g_if_ge_f {M : am_MI} {pc : Nat} {L : am_L} {st : List Value} {h : am_H} {r : am_R} {a t : Nat} {d : Int} (hd : decode M.2.1 pc = .ok (.ifCond .ge d, 3)) (ht : (pc : Int) + d = (t : Int)) (hh : am_tc .ge a 0 = false) (hg : am_Good M (pc + 3) L st h r) : am_Good M pc L (.retAddr a :: st) h r := by
  refine hg.go fun p l e R s m args below meth c B N0 S0 D dA H locs ls Q X k => ?_
  obtain ⟨⟨hx, hb, hml, hown, hts, hlk, hr, hnm⟩, ⟨xf, xl, xc, xs⟩, ⟨xn, xt, xB⟩, hK, hw, hS, hL⟩ := X
  have q := am_tlt_iff a 0
  simp only [am_tc, Bool.not_eq_true', Bool.not_eq_false'] at hh
  refine lv_if_ge hx hb hd ht (fun z => ?_) (fun z => k ls hL)
  exfalso
  exact am_no_ge_f q hh z
theorem g_if_gt_t {M : am_MI} {pc : Nat} {L : am_L} {st : List Value} {h : am_H} {r : am_R} {a t : Nat} {d : Int} (hd : decode M.2.1 pc = .ok (.ifCond .gt d, 3)) (ht : (pc : Int) + d = (t : Int)) (hh : am_tc .gt a 0 = true) (hg : am_Good M t L st h r) : am_Good M pc L (.retAddr a :: st) h r := by
  refine hg.go fun p l e R s m args below meth c B N0 S0 D dA H locs ls Q X k => ?_
  obtain ⟨⟨hx, hb, hml, hown, hts, hlk, hr, hnm⟩, ⟨xf, xl, xc, xs⟩, ⟨xn, xt, xB⟩, hK, hw, hS, hL⟩ := X
  have q := am_tlt_iff 0 a
  simp only [am_tc, Bool.not_eq_true', Bool.not_eq_false'] at hh
  refine lv_if_gt hx hb hd ht (fun z => k ls hL) (fun z => ?_)
  exfalso
  exact am_no_gt_t q hh z
theorem g_if_gt_f {M : am_MI} {pc : Nat} {L : am_L} {st : List Value} {h : am_H} {r : am_R} {a t : Nat} {d : Int} (hd : decode M.2.1 pc = .ok (.ifCond .gt d, 3)) (ht : (pc : Int) + d = (t : Int)) (hh : am_tc .gt a 0 = false) (hg : am_Good M (pc + 3) L st h r) : am_Good M pc L (.retAddr a :: st) h r := by
  refine hg.go fun p l e R s m args below meth c B N0 S0 D dA H locs ls Q X k => ?_
  obtain ⟨⟨hx, hb, hml, hown, hts, hlk, hr, hnm⟩, ⟨xf, xl, xc, xs⟩, ⟨xn, xt, xB⟩, hK, hw, hS, hL⟩ := X
  have q := am_tlt_iff 0 a
  simp only [am_tc, Bool.not_eq_true', Bool.not_eq_false'] at hh
  refine lv_if_gt hx hb hd ht (fun z => ?_) (fun z => k ls hL)
  exfalso
  exact am_no_gt_f q hh z
theorem g_if_le_t {M : am_MI} {pc : Nat} {L : am_L} {st : List Value} {h : am_H} {r : am_R} {a t : Nat} {d : Int} (hd : decode M.2.1 pc = .ok (.ifCond .le d, 3)) (ht : (pc : Int) + d = (t : Int)) (hh : am_tc .le a 0 = true) (hg : am_Good M t L st h r) : am_Good M pc L (.retAddr a :: st) h r := by
  refine hg.go fun p l e R s m args below meth c B N0 S0 D dA H locs ls Q X k => ?_
  obtain ⟨⟨hx, hb, hml, hown, hts, hlk, hr, hnm⟩, ⟨xf, xl, xc, xs⟩, ⟨xn, xt, xB⟩, hK, hw, hS, hL⟩ := X
  have q := am_tlt_iff 0 a
  simp only [am_tc, Bool.not_eq_true', Bool.not_eq_false'] at hh
  refine lv_if_le hx hb hd ht (fun z => k ls hL) (fun z => ?_)
  exfalso
  exact am_no_le_t q hh z
theorem g_if_le_f {M : am_MI} {pc : Nat} {L : am_L} {st : List Value} {h : am_H} {r : am_R} {a t : Nat} {d : Int} (hd : decode M.2.1 pc = .ok (.ifCond .le d, 3)) (ht : (pc : Int) + d = (t : Int)) (hh : am_tc .le a 0 = false) (hg : am_Good M (pc + 3) L st h r) : am_Good M pc L (.retAddr a :: st) h r := by
  refine hg.go fun p l e R s m args below meth c B N0 S0 D dA H locs ls Q X k => ?_
  obtain ⟨⟨hx, hb, hml, hown, hts, hlk, hr, hnm⟩, ⟨xf, xl, xc, xs⟩, ⟨xn, xt, xB⟩, hK, hw, hS, hL⟩ := X
  have q := am_tlt_iff 0 a
  simp only [am_tc, Bool.not_eq_true', Bool.not_eq_false'] at hh
  refine lv_if_le hx hb hd ht (fun z => ?_) (fun z => k ls hL)
  exfalso
  exact am_no_le_f q hh z
end
section
/-! ===== rules: cells ===== -/
theorem am_P1 {D : va_G} {cl : List vw_C} {q : Nat × va_E} {H : Heap} (h : va_at D cl q H) : va_P D cl [q] H := by
  intro k x hx
  have hk : k < 1 := (List.getElem?_eq_some_iff.mp hx).1
  have : k = 0 := by omega
  subst this
  cases hx
  exact h
/-- a class of the table: its fields' words, names apart, types -/
def am_cok (ci : Nat) (C : String) (T : u_T) (N : Nat) (ty : Nat → FieldType) : Prop := am_cls[ci]? = some (C, T, N) ∧ (∀ w ∈ u_ws C T N, w ∈ am_tbl) ∧ (∀ a, a < N → ∀ b, b < N → a ≠ b → (T a).2.1 ≠ (T b).2.1) ∧ (∀ k, k < N → parseFieldDescriptor (T k).2.2.1 = some (ty k))
/-- the field k of class ci, by entry idx of the class own -/
def am_FL (own : String) (idx : Nat) (T : u_T) (k : Nat) : Prop := (Cond.fieldLink own idx (T k).1 (T k).2.1 (T k).2.2.1 ∈ am_tbl) ∨ ∃ host, Cond.fieldLinkNest own idx (T k).1 (T k).2.1 (T k).2.2.1 host ∈ am_nest
theorem g_getfield {M : am_MI} {pc : Nat} {L : am_L} {st : List Value} {h : am_H} {r : am_R} {a ci k idx : Nat} {fs : List Value} {v : Value} {C : String} {T : u_T} {N : Nat} {ty : Nat → FieldType} (hc : am_cok ci C T N ty) (hk : k < N) (hf : am_FL M.1.cls idx T k) (hd : decode M.2.1 pc = .ok (.getfield idx, 3)) (hh : am_get h a = some (.inr (ci, fs))) (hv : fs[k]? = some v) (hg : am_Good M (pc + 3) L (v :: st) h r) : am_Good M pc L (.ref a :: st) h r := by
  refine hg.go fun p l e R s m args below meth c B N0 S0 D dA H locs ls Q X kk => ?_
  obtain ⟨⟨hx, hb, hml, hown, hts, hlk, hr, hnm⟩, ⟨xf, xl, xc, xs⟩, ⟨xn, xt, xB⟩, hK, hw, hS, hL⟩ := X
  have hP := am_P1 (hw.2 a _ hh)
  have hv2 : (fs.map (am_v B))[k]? = some (am_v B v) := by rw [List.getElem?_map, hv]; rfl
  rcases hf with hf | ⟨host, hf⟩
  · exact va_get (Ts := am_tbl) hx hb hts hc.2.1 hown hK.1 hP 0 rfl hc.1 k hk (hts _ hf) (fun _ z => z) hv2 hd (kk ls hL)
  · exact va_getN (Ts := am_tbl) hx hb hts hc.2.1 hown hK.1 hP 0 rfl hc.1 k hk (va_Nw.use rfl (hK.2 _ hf)) (fun _ z => z) hv2 hd (kk ls hL)
/-- what a field of a type takes -/
def am_fit (ty : FieldType) (v : Value) : Prop := match ty, v with
  | .int, .retAddr _ => True
  | .boolean, .retAddr n => n < 2
  | .object _, .ref _ => True
  | .object _, .null => True
  | .array _, .ref _ => True
  | .array _, .null => True
  | _, _ => False
theorem am_fit_ok {ty : FieldType} {v : Value} (B : Nat) (h : am_fit ty v) : narrow ty (am_v B v) = am_v B v ∧ fits ty (am_v B v) = true := by
  cases ty <;> cases v <;> first | (exact ⟨rfl, rfl⟩) | (cases h; done) | skip
  rename_i n
  have hn : n = 0 ∨ n = 1 := by have : n < 2 := h; omega
  rcases hn with rfl | rfl
  · exact ⟨by show narrow .boolean (.int (Int32.ofNat 0)) = .int (Int32.ofNat 0); decide, by show fits .boolean (.int (Int32.ofNat 0)) = true; decide⟩
  · exact ⟨by show narrow .boolean (.int (Int32.ofNat 1)) = .int (Int32.ofNat 1); decide, by show fits .boolean (.int (Int32.ofNat 1)) = true; decide⟩
theorem am_map_set (f : Value → Value) (fs : List Value) (k : Nat) (v : Value) : (fs.set k v).map f = (fs.map f).set k (f v) := List.map_set
theorem g_putfield {M : am_MI} {pc : Nat} {L : am_L} {st : List Value} {h : am_H} {r : am_R} {a ci k idx : Nat} {fs : List Value} {v : Value} {C : String} {T : u_T} {N : Nat} {ty : Nat → FieldType} (hc : am_cok ci C T N ty) (hk : k < N) (hf : am_FL M.1.cls idx T k) (hfin : (T k).2.2.2 = false ∨ ((T k).2.2.2 = true ∧ M.1.name = "<init>" ∧ (T k).1 = M.1.cls ∧ Cond.fieldLink M.1.cls idx (T k).1 (T k).2.1 (T k).2.2.1 ∈ am_tbl)) (hd : decode M.2.1 pc = .ok (.putfield idx, 3)) (hh : am_get h a = some (.inr (ci, fs))) (hl : k < fs.length) (hfit : am_fit (ty k) v) (hg : am_Good M (pc + 3) L st (am_upd h a (.inr (ci, fs.set k v))) r) : am_Good M pc L (v :: .ref a :: st) h r := by
  refine am_Good.put hg fun p l e R s m args below meth c B N0 S0 D dA H locs ls Q X kk => ?_
  obtain ⟨⟨hx, hb, hml, hown, hts, hlk, hr, hnm⟩, ⟨xf, xl, xc, xs⟩, ⟨xn, xt, xB⟩, hK, hw, hS, hL⟩ := X
  have hap := va_apart (own := M.1.cls) (Ts := am_tbl) hts hc.2.1 ty hc.2.2.2 hc.2.2.1 hK.1 hc.1
  have hat := hw.2 a _ hh
  obtain ⟨r0, h1, cell, q1, q2, q3, q4⟩ := hat
  have hr0 : r0 = (C, T, N) := Option.some.inj (h1.symm.trans hc.1)
  subst hr0
  obtain ⟨hSl, hfc, kC, hkC, hkind⟩ := hK.1.1 ci _ hc.1
  obtain ⟨cf, kf, fi, f, hi, hsl⟩ := hSl k hk
  have hlay := hts _ (hc.2.1 _ (u_in_lay hk))
  have hst := (u_facts hfc hkC (u_lays hts hc.2.1 hk) hi).1
  obtain ⟨hn1, hn2⟩ := am_fit_ok B hfit
  have hlt : f.slot < cell.slots.size := by rw [hsl]; exact k2_hasslot (q4 k hk)
  have hl2 : k < (fs.map (am_v B)).length := by rw [List.length_map]; exact hl
  have fin : ∀ H' : Heap, H'[B + a]? = some (cell.setSlot f.slot (am_v B v)) → H'.size = H.size → (∀ q, q ≠ B + a → H'[q]? = H[q]?) → W p l e R s m args below meth c H' (locs ++ [⟨B + a, f.slot⟩]) (h.1 - N0) (h.2.1 - S0) Q (F0 m (pc + 3) ls (st.map (am_v B))) := by
    intro H' e1 e2 e3
    rw [hsl] at e1 ⊢
    refine kk H' _ (hw.upd hh ?_ e2 e3) (hS.put e2 e3 (Nat.le_add_right _ _))
    refine ⟨_, hc.1, ?_⟩
    show t_OB (B + a) _ N _ H' (vp_V ((fs.set k v).map (am_v B)))
    rw [am_map_set]
    exact t_OB.to (V := updV (vp_V (fs.map (am_v B))) k (am_v B v)) ⟨_, e1, q2, q3, t_set q4 hap hk (am_v B v)⟩ (fun j _ => vp_updV_set hl2 (am_v B v) j)
  rcases hfin with hfin | ⟨hfin, hin, hdc, hfl⟩
  · unfold u_lay at hlay
    rw [if_neg (by rw [hfin]; decide)] at hlay
    have h6 := u_store hfc hkC hkind hlay hi (hc.2.2.2 k hk) hn1 hn2
    rcases hf with hf | ⟨host, hf⟩
    · exact W.putK hx hb (f := f) ⟨hown, hts _ hf, ⟨_, _, _, hi⟩, hst⟩ (by rw [q2]; exact h6) q1 q3 hlt rfl rfl hd fin
    · exact va_WputK hx hb (f := f) hown (va_Nw.use rfl (hK.2 _ hf)) hi hst (by rw [q2]; exact h6) q1 q3 hlt rfl rfl hd fin
  · unfold u_lay at hlay
    rw [if_pos hfin] at hlay
    have hcf : m.cls = cf := by
      obtain ⟨_, _, c', _, _, _, -, -, hf', -, -, -, hown2, -⟩ := Cond.laysFinal_spec hlay
      have e1 : c' = cf := by have := hi.symm.trans hf'; simp at this; exact this.1.symm
      rw [hdc] at hown2
      rw [← e1]
      exact Option.some.inj (hown.symm.trans hown2)
    have h6 := u_fits hfc hkC hkind (Or.inr hlay) hi (hc.2.2.2 k hk) hn1 hn2
    exact W.putFinK hx hb hown (hts _ hfl) hi hst hcf (hnm.trans hin) (by rw [q2]; exact h6) q1 q3 hlt rfl rfl hd fin
theorem an_in {i n : Nat} (h : i < n) (hn : n ≤ 2147483648) : vp_in (Int32.ofNat i) n := by
  have hi : i < 2147483648 := by omega
  rintro (q | q)
  · exact an_nonneg hi q
  · rw [an_clamp hi] at q
    omega
theorem g_iaload {M : am_MI} {pc : Nat} {L : am_L} {st : List Value} {h : am_H} {r : am_R} {a i n x : Nat} (hd : decode M.2.1 pc = .ok (.iaload, 1)) (hh : am_get h a = some (.inl (0, n, x))) (hi : i < n) (hn : n ≤ 2147483648) (hg : am_Good M (pc + 1) L (.retAddr (am_ag x i) :: st) h r) : am_Good M pc L (.retAddr i :: .ref a :: st) h r := by
  refine hg.go fun p l e R s m args below meth c B N0 S0 D dA H locs ls Q X kk => ?_
  obtain ⟨⟨hx, hb, hml, hown, hts, hlk, hr, hnm⟩, ⟨xf, xl, xc, xs⟩, ⟨xn, xt, xB⟩, hK, hw, hS, hL⟩ := X
  exact va_iald hx hb hK.1 (am_P1 (hw.2 a _ hh)) 0 0 rfl rfl (an_in hi hn) hd (W.eq (by rw [an_clamp (by omega)]; rfl) (kk ls hL))
theorem g_caload {M : am_MI} {pc : Nat} {L : am_L} {st : List Value} {h : am_H} {r : am_R} {a i n x : Nat} (hd : decode M.2.1 pc = .ok (.caload, 1)) (hh : am_get h a = some (.inl (1, n, x))) (hi : i < n) (hn : n ≤ 2147483648) (hg : am_Good M (pc + 1) L (.retAddr (am_ag x i) :: st) h r) : am_Good M pc L (.retAddr i :: .ref a :: st) h r := by
  refine hg.go fun p l e R s m args below meth c B N0 S0 D dA H locs ls Q X kk => ?_
  obtain ⟨⟨hx, hb, hml, hown, hts, hlk, hr, hnm⟩, ⟨xf, xl, xc, xs⟩, ⟨xn, xt, xB⟩, hK, hw, hS, hL⟩ := X
  exact va_cald hx hb hK.1 (am_P1 (hw.2 a _ hh)) 0 1 rfl rfl (an_in hi hn) hd (W.eq (by rw [an_clamp (by omega)]; rfl) (kk ls hL))
theorem g_zaload {M : am_MI} {pc : Nat} {L : am_L} {st : List Value} {h : am_H} {r : am_R} {a i n x : Nat} (hd : decode M.2.1 pc = .ok (.baload, 1)) (hh : am_get h a = some (.inl (2, n, x))) (hi : i < n) (hn : n ≤ 2147483648) (hg : am_Good M (pc + 1) L (.retAddr (am_ag x i) :: st) h r) : am_Good M pc L (.retAddr i :: .ref a :: st) h r := by
  refine hg.go fun p l e R s m args below meth c B N0 S0 D dA H locs ls Q X kk => ?_
  obtain ⟨⟨hx, hb, hml, hown, hts, hlk, hr, hnm⟩, ⟨xf, xl, xc, xs⟩, ⟨xn, xt, xB⟩, hK, hw, hS, hL⟩ := X
  exact va_zald hx hb hK.1 (am_P1 (hw.2 a _ hh)) 0 2 rfl rfl (an_in hi hn) hd (W.eq (by rw [an_clamp (by omega)]; rfl) (kk ls hL))
theorem am_arr_as {B : Nat} {D : va_G} {dA : Nat → ClassId} {H' : Heap} {q kd n x i v v2 : Nat} (hv : v2 % 4294967296 = v % 4294967296) (e1 : H'[q]? = some ((arrV (dA kd) n (fun j => .int (Int32.ofNat (am_ag x j)))).setSlot i (.int (Int32.ofNat v)))) : va_at D am_cls (q, am_e B dA (.inl (kd, n, am_as x i v2))) H' := by
  show H'[q]? = some (vp_cell _ _)
  rw [e1, vp_cell_i, arrV_store]
  congr 2
  funext j
  show updV _ _ _ _ = Value.int (Int32.ofNat (am_ag (am_as x i v2) j))
  rw [am_ag_as]
  by_cases hj : j = i
  · subst hj
    rw [if_pos rfl, hv, an_mod]
    simp [updV]
  · rw [if_neg hj]
    simp [updV, hj]
theorem g_iastore {M : am_MI} {pc : Nat} {L : am_L} {st : List Value} {h : am_H} {r : am_R} {a i n x v : Nat} (hd : decode M.2.1 pc = .ok (.iastore, 1)) (hh : am_get h a = some (.inl (0, n, x))) (hi : i < n) (hn : n ≤ 2147483648) (hg : am_Good M (pc + 1) L st (am_upd h a (.inl (0, n, am_as x i v))) r) : am_Good M pc L (.retAddr v :: .retAddr i :: .ref a :: st) h r := by
  refine am_Good.put hg fun p l e R s m args below meth c B N0 S0 D dA H locs ls Q X kk => ?_
  obtain ⟨⟨hx, hb, hml, hown, hts, hlk, hr, hnm⟩, ⟨xf, xl, xc, xs⟩, ⟨xn, xt, xB⟩, hK, hw, hS, hL⟩ := X
  have hat : H[B + a]? = some (arrV (dA 0) n (fun j => .int (Int32.ofNat (am_ag x j)))) := hw.2 a _ hh
  refine W.iast hx hb hat ((hK.1.2 0 _ rfl).1 n _) (fun q => by cases q) (by rw [arrV_size]; exact an_in hi hn) rfl rfl hd fun H' e1 e2 e3 => ?_
  rw [an_clamp (by omega)] at e1 ⊢
  exact kk H' _ (hw.upd hh (am_arr_as rfl e1) e2 e3) (hS.put e2 e3 (Nat.le_add_right _ _))
theorem g_castore {M : am_MI} {pc : Nat} {L : am_L} {st : List Value} {h : am_H} {r : am_R} {a i n x v : Nat} (hd : decode M.2.1 pc = .ok (.castore, 1)) (hh : am_get h a = some (.inl (1, n, x))) (hi : i < n) (hn : n ≤ 2147483648) (hg : am_Good M (pc + 1) L st (am_upd h a (.inl (1, n, am_as x i (v % 65536)))) r) : am_Good M pc L (.retAddr v :: .retAddr i :: .ref a :: st) h r := by
  refine am_Good.put hg fun p l e R s m args below meth c B N0 S0 D dA H locs ls Q X kk => ?_
  obtain ⟨⟨hx, hb, hml, hown, hts, hlk, hr, hnm⟩, ⟨xf, xl, xc, xs⟩, ⟨xn, xt, xB⟩, hK, hw, hS, hL⟩ := X
  have hat : H[B + a]? = some (arrV (dA 1) n (fun j => .int (Int32.ofNat (am_ag x j)))) := hw.2 a _ hh
  refine W.cast hx hb hat ((hK.1.2 1 _ rfl).1 n _) (fun q => by cases q) (by rw [arrV_size]; exact an_in hi hn) rfl rfl hd fun H' e1 e2 e3 => ?_
  rw [an_clamp (by omega)] at e1 ⊢
  rw [an_c16] at e1
  exact kk H' _ (hw.upd hh (am_arr_as rfl e1) e2 e3) (hS.put e2 e3 (Nat.le_add_right _ _))
theorem g_zastore {M : am_MI} {pc : Nat} {L : am_L} {st : List Value} {h : am_H} {r : am_R} {a i n x v : Nat} (hd : decode M.2.1 pc = .ok (.bastore, 1)) (hh : am_get h a = some (.inl (2, n, x))) (hi : i < n) (hn : n ≤ 2147483648) (hg : am_Good M (pc + 1) L st (am_upd h a (.inl (2, n, am_as x i (v % 2)))) r) : am_Good M pc L (.retAddr v :: .retAddr i :: .ref a :: st) h r := by
  refine am_Good.put hg fun p l e R s m args below meth c B N0 S0 D dA H locs ls Q X kk => ?_
  obtain ⟨⟨hx, hb, hml, hown, hts, hlk, hr, hnm⟩, ⟨xf, xl, xc, xs⟩, ⟨xn, xt, xB⟩, hK, hw, hS, hL⟩ := X
  have hat : H[B + a]? = some (arrV (dA 2) n (fun j => .int (Int32.ofNat (am_ag x j)))) := hw.2 a _ hh
  refine W.zast hx hb hat ((hK.1.2 2 _ rfl).1 n _) (fun q => by cases q) (by rw [arrV_size]; exact an_in hi hn) rfl rfl hd fun H' e1 e2 e3 => ?_
  rw [an_clamp (by omega)] at e1 ⊢
  rw [an_b1] at e1
  exact kk H' _ (hw.upd hh (am_arr_as rfl e1) e2 e3) (hS.put e2 e3 (Nat.le_add_right _ _))
theorem g_alen {M : am_MI} {pc : Nat} {L : am_L} {st : List Value} {h : am_H} {r : am_R} {a kd n x : Nat} (hd : decode M.2.1 pc = .ok (.arraylength, 1)) (hh : am_get h a = some (.inl (kd, n, x))) (hk : kd < 3) (hg : am_Good M (pc + 1) L (.retAddr n :: st) h r) : am_Good M pc L (.ref a :: st) h r := by
  refine hg.go fun p l e R s m args below meth c B N0 S0 D dA H locs ls Q X kk => ?_
  obtain ⟨⟨hx, hb, hml, hown, hts, hlk, hr, hnm⟩, ⟨xf, xl, xc, xs⟩, ⟨xn, xt, xB⟩, hK, hw, hS, hL⟩ := X
  have hP := am_P1 (hw.2 a _ hh)
  have h3 : kd = 0 ∨ kd = 1 ∨ kd = 2 := by omega
  rcases h3 with rfl | rfl | rfl
  · exact va_alen (ty := .int) hx hb hK.1 hP 0 0 rfl rfl rfl hd (kk ls hL)
  · exact va_alen (ty := .char) hx hb hK.1 hP 0 1 rfl rfl rfl hd (kk ls hL)
  · exact va_alen (ty := .boolean) hx hb hK.1 hP 0 2 rfl rfl rfl hd (kk ls hL)
theorem g_new {M : am_MI} {pc : Nat} {L : am_L} {st : List Value} {h h' : am_H} {r : am_R} {ci idx : Nat} {fs : List Value} {C : String} {T : u_T} {N : Nat} {ty : Nat → FieldType} (hc : am_cok ci C T N ty) (hl : Cond.classLink M.1.cls idx C ∈ am_tbl) (hin : Cond.instantiable C N ∈ am_tbl) (hini : Cond.initialized C ∈ am_tbl) (hfs : ∀ B j, j < N → defaultValue (ty j) = vp_V (fs.map (am_v B)) j) (hd : decode M.2.1 pc = .ok (.new idx, 3)) (hn : am_New h h' N (.inr (ci, fs))) (hg : am_Good M (pc + 3) L (.ref h.1 :: st) h' r) : am_Good M pc L st h r := by
  refine am_Good.make hn hg fun p l e R s m args below meth c B N0 S0 D dA H locs ls Q X hc1 hs1 kk => ?_
  obtain ⟨⟨hx, hb, hml, hown, hts, hlk, hr, hnm⟩, ⟨xf, xl, xc, xs⟩, ⟨xn, xt, xB⟩, hK, hw, hS, hL⟩ := X
  have hKn := hK.1.1 ci _ hc.1
  refine W.newcK hx hb hown (hts _ hl) (hts _ hin) (hts _ hini) rfl hd hc1 hs1 hKn.2.1 rfl fun H1 kC hkC e1 z1 o1 => ?_
  have hsz := hw.1
  refine W.eq (g2 := F0 m (pc + 3) ls ((Value.ref h.1 :: st).map (am_v B))) (by rw [hsz]; rfl) (kk H1 ⟨_, hc.1, ?_⟩ z1 o1)
  rw [← hsz]
  exact (u_born ty hts hc.2.1 hKn hkC e1 hc.2.2.2).to (hfs B)
theorem g_newarray {M : am_MI} {pc : Nat} {L : am_L} {st : List Value} {h h' : am_H} {r : am_R} {kd n : Nat} {at' : ArrayType} (hty : (newarray.typeOf at' = .int ∧ kd = 0) ∨ (newarray.typeOf at' = .char ∧ kd = 1) ∨ (newarray.typeOf at' = .boolean ∧ kd = 2)) (har : Cond.arrayClass (newarray.typeOf at') ∈ am_tbl) (hd : decode M.2.1 pc = .ok (.newarray at', 2)) (hb0 : n < 100000000) (hn : am_New h h' n (.inl (kd, n, 0))) (hg : am_Good M (pc + 2) L (.ref h.1 :: st) h' r) : am_Good M pc L (.retAddr n :: st) h r := by
  refine am_Good.make hn hg fun p l e R s m args below meth c B N0 S0 D dA H locs ls Q X hc1 hs1 kk => ?_
  obtain ⟨⟨hx, hb, hml, hown, hts, hlk, hr, hnm⟩, ⟨xf, xl, xc, xs⟩, ⟨xn, xt, xB⟩, hK, hw, hS, hL⟩ := X
  have hbytes : n * componentBytes (newarray.typeOf at') ≤ 536870912 := by
    rcases hty with ⟨q, -⟩ | ⟨q, -⟩ | ⟨q, -⟩ <;> rw [q] <;> simp only [componentBytes] <;> omega
  refine va_newaK hx hb (hts _ har) rfl hd rfl (an_nonneg (by omega)) (an_clamp (by omega)) hbytes hc1 hs1 rfl fun H1 cA e1 z1 o1 hAr hNm => ?_
  have hsz := hw.1
  refine W.eq (g2 := F0 m (pc + 2) ls ((Value.ref h.1 :: st).map (am_v B))) (by rw [hsz]; rfl) (kk H1 ?_ z1 o1)
  rw [← hsz]
  show H1[H.size]? = some (vp_cell _ _)
  rw [e1]
  rcases hty with ⟨q, rfl⟩ | ⟨q, rfl⟩ | ⟨q, rfl⟩
  · rw [q] at hNm ⊢
    have h2 : s.vm.findClass ("[" ++ FieldType.int.toString) = some (dA 0) := (hK.1.2 0 _ rfl).2
    cases hNm.symm.trans h2
    rw [vp_cell_i]
    congr 2
    funext j
    show _ = Value.int (Int32.ofNat (am_ag 0 j))
    simp [am_ag, defaultValue]
  · rw [q] at hNm ⊢
    have h2 : s.vm.findClass ("[" ++ FieldType.char.toString) = some (dA 1) := (hK.1.2 1 _ rfl).2
    cases hNm.symm.trans h2
    rw [vp_cell_i]
    congr 2
    funext j
    show _ = Value.int (Int32.ofNat (am_ag 0 j))
    simp [am_ag, defaultValue]
  · rw [q] at hNm ⊢
    have h2 : s.vm.findClass ("[" ++ FieldType.boolean.toString) = some (dA 2) := (hK.1.2 2 _ rfl).2
    cases hNm.symm.trans h2
    rw [vp_cell_i]
    congr 2
    funext j
    show _ = Value.int (Int32.ofNat (am_ag 0 j))
    simp [am_ag, defaultValue]
end
section
/-! ===== rules: calls, ends, switches ===== -/
theorem am_Good.call {M : am_MI} {pc : Nat} {L : am_L} {st stk : List Value} {h : am_H} {r r1 : am_R} (he : h.1 ≤ r1.2.1 ∧ h.2.1 ≤ r1.2.2.1) (hg : am_Good M (pc + 3) L (r1.1.toList ++ st) r1.2 r)
    (hs : ∀ (p : Program) (l : Launch) (e : Env) (R : Room) (s : State) (m : MethodId) (args : Array Value) (below : List Frame) (meth : Method) (c : Code) (B N0 S0 : Nat) (D : va_G) (dA : Nat → ClassId) (H : Heap) (locs : List Loc) (ls : Array Slot),
      am_X M L h r p R s m args meth c B N0 S0 D dA H locs ls → (h.1 - N0) + (r1.2.1 - h.1) ≤ R.cells ∧ (h.2.1 - S0) + (r1.2.2.1 - h.2.1) ≤ R.slots → va_Run p l e R s m args below meth c H locs (h.1 - N0) (h.2.1 - S0) (r1.2.1 - h.1) (r1.2.2.1 - h.2.1) (F0 m pc ls (stk.map (am_v B))) (st.map (am_v B)) (fun st0 o t => am_Q B D dA r1 #[] st0 o t) (fun q => B ≤ q)) : am_Good M pc L stk h r := by
  have g1 := hg.1.1
  have g2 := hg.1.2
  have e1 := he.1
  have e2 := he.2
  refine ⟨⟨by omega, by omega⟩, fun p l e R s m args below meth c B N0 S0 D dA H locs ls X => ?_⟩
  have X0 := X
  obtain ⟨x1, ⟨xf, xl, xc, xs⟩, ⟨xn, xt, xB⟩, hK, hw, hS, hL⟩ := X0
  have hrun := hs p l e R s m args below meth c B N0 S0 D dA H locs ls X ⟨by omega, by omega⟩
  intro T hT ST
  obtain ⟨v, st₀, t, T', L', h0, X', hL', e3, e4, ⟨hv, hw1, hF⟩, go⟩ := hrun T hT ST
  have hv' : v = r1.1.map (am_v B) := Outcome.returned.inj hv
  subst hv'
  have hS1 : va_S (fun q => B ≤ q) s.heap t.heap (locs ++ L') := by
    refine ⟨Nat.le_trans hS.1 (by have := hF.1; rw [h0] at this; exact this), fun q h1 h2 => ?_, fun q hq => ?_⟩
    · have := hF.2 q (by rw [h0]; exact Nat.lt_of_lt_of_le h1 hS.1) h2
      rw [this, h0]
      exact hS.2.1 q h1 h2
    · rcases List.mem_append.mp hq with z | z
      · exact hS.2.2 q z
      · exact hL' q z
  have hk := hg.2 p l e R s m args below meth c B N0 S0 D dA t.heap (locs ++ L') ls ⟨x1, ⟨xf, xl, xc, xs⟩, ⟨by omega, by omega, xB⟩, hK, hw1, hS1, hL⟩
  rw [show r1.2.1 - N0 = h.1 - N0 + (r1.2.1 - h.1) by omega, show r1.2.2.1 - S0 = h.2.1 - S0 + (r1.2.2.1 - h.2.1) by omega] at hk
  obtain ⟨t2, a1, b1⟩ := hk T' e3 X'
  refine ⟨t2, go t2 ?_, b1⟩
  have e5 : ((r1.1.map (am_v B)).toList ++ st.map (am_v B)) = (r1.1.toList ++ st).map (am_v B) := by cases r1.1 <;> simp
  show Steps p.tables e below (T'.setTop (F0 m (pc + 3) ls ((r1.1.map (am_v B)).toList ++ st.map (am_v B)))) t2
  rw [e5]
  exact a1
def am_LkB (M M' : am_MI) (n : Nat) : Prop := Cond.code M'.1 M'.2.1 M'.2.2.1 M'.2.2.2.1 ∈ am_tbl ∧ Cond.initialized M'.1.cls ∈ am_tbl ∧ (M'.1.cls ≠ "java/lang/invoke/MethodHandle" ∧ M'.1.cls ≠ "java/lang/invoke/VarHandle" ∧ (parseMethodDescriptor M'.1.desc).map (fun d => d.parameters.length) = some n) ∧ M'.2.2.2.2.1 + 1 ≤ M.2.2.2.2.1 ∧ 8 + (M'.2.2.1 + 11) + M'.2.2.2.2.2 ≤ M.2.2.2.2.2
theorem am_goodIn {M' : am_MI} (h : Cond.code M'.1 M'.2.1 M'.2.2.1 M'.2.2.2.1 ∈ am_tbl) : GoodIn am_tbl (Cond.code M'.1 M'.2.1 M'.2.2.1 M'.2.2.2.1 :: am_tbl) := by
  intro w hw
  rcases List.mem_cons.mp hw with rfl | h1
  · exact ⟨h, am_tbl_good h⟩
  · exact ⟨h1, am_tbl_good h1⟩
theorem am_Kn.calling {D : va_G} {dA : Nat → ClassId} {U : State} (g : JFrame) (mk : MethodId) (a : Array Value) (h : am_Kn D dA U) : am_Kn D dA (U.calling g mk a) := by
  refine ⟨va_K.moved (u := U) (U := U.calling g mk a) (Vm.Alike.refl U.vm) h.1, fun w hw => ?_⟩
  have hn := (List.mem_filter.mp hw).2
  have h1 := h.2 w hw
  cases w <;> first | (exact va_Nw.same rfl rfl h1) | (cases hn)
theorem am_blind (B : Nat) (D : va_G) (dA : Nat → ClassId) (h : am_H) (as : List Value) : FrameBlind (va_Pc (as.map (am_v B)) (fun U => B ≤ U.heap.size ∧ am_Wd B D dA h U.heap ∧ am_Kn D dA U)) :=
  fun a _ g mk q => ⟨q.1, q.2.1, q.2.2.1, q.2.2.2.calling g mk a⟩
theorem g_static {M M' : am_MI} {pc idx n : Nat} {L : am_L} {st as : List Value} {h : am_H} {r r1 : am_R} (hl : Cond.methodLink M.1.cls idx M'.1 ∈ am_tbl) (hst : Cond.static M'.1 ∈ am_tbl) (hB : am_LkB M M' n) (hn : as.length = n) (hcat : (st.map fun v => v.category).sum ≤ 8) (hd : decode M.2.1 pc = .ok (.invokestatic idx, 3)) (he : am_EG M' as h r1) (hg : am_Good M (pc + 3) L (r1.1.toList ++ st) r1.2 r) : am_Good M pc L (as.reverse ++ st) h r := by
  refine am_Good.call he.1 hg fun p l e R s m args below meth c B N0 S0 D dA H locs ls X hf => ?_
  obtain ⟨⟨hx, hb, hml, hown, hts, hlk, hr, hnm⟩, ⟨xf, xl, xc, xs⟩, ⟨xn, xt, xB⟩, hK, hw, hS, hL⟩ := X
  refine va_runS (y := M'.1) (bytes := M'.2.1) (maxL := M'.2.2.1) (ret := M'.2.2.2.1) (Ts := am_tbl) (own := M.1.cls) (As := as.map (am_v B)) ⟨hx, hb, hml, hown, hts⟩ (he.2 l B D dA) ⟨callB_of n hts (am_goodIn hB.1) rfl rfl rfl (hts _ hB.2.1) (hts _ hl) hB.2.2.1 ⟨by rw [xf]; exact hB.2.2.2.1, by rw [xl]; exact hB.2.2.2.2⟩, hts _ hst⟩ ⟨am_blind B D dA h as, fun U hU hW => ⟨rfl, by rw [hU]; exact Nat.le_trans xB hS.1, by rw [hU]; exact hw, hK.warm hW⟩⟩ rfl (by rw [List.length_map]; exact hn) hL.1 (by show List.map _ _ = _; rw [List.map_append, List.map_reverse]) (lv_room (by rw [List.map_map]; simp only [Function.comp_def, am_v_cat]; exact hcat)) hd hf
theorem g_virtual {M M' : am_MI} {pc idx n ci b : Nat} {L : am_L} {st as fs : List Value} {h : am_H} {r r1 : am_R} {T : u_T} {N : Nat} (hl : Cond.methodLink M.1.cls idx M'.1 ∈ am_tbl) (hin : Cond.instanceMethod M'.1 ∈ am_tbl) (hse : Cond.selects M'.1.cls M'.1 M'.1 ∈ am_tbl) (hB : am_LkB M M' n) (hc : am_cls[ci]? = some (M'.1.cls, T, N)) (hh : am_get h b = some (.inr (ci, fs))) (hn : as.length = n) (hcat : (st.map fun v => v.category).sum ≤ 8) (hd : decode M.2.1 pc = .ok (.invokevirtual idx, 3)) (he : am_EG M' (.ref b :: as) h r1) (hg : am_Good M (pc + 3) L (r1.1.toList ++ st) r1.2 r) : am_Good M pc L (as.reverse ++ .ref b :: st) h r := by
  refine am_Good.call he.1 hg fun p l e R s m args below meth c B N0 S0 D dA H locs ls X hf => ?_
  obtain ⟨⟨hx, hb, hml, hown, hts, hlk, hr, hnm⟩, ⟨xf, xl, xc, xs⟩, ⟨xn, xt, xB⟩, hK, hw, hS, hL⟩ := X
  refine va_runV (y := M'.1) (bytes := M'.2.1) (maxL := M'.2.2.1) (ret := M'.2.2.2.1) (Ts := am_tbl) (own := M.1.cls) (C := M'.1.cls) (b := B + b) (As := as.map (am_v B)) ⟨hx, hb, hml, hown, hts⟩ (he.2 l B D dA) ⟨callB_of n hts (am_goodIn hB.1) rfl rfl rfl (hts _ hB.2.1) (hts _ hl) hB.2.2.1 ⟨by rw [xf]; exact hB.2.2.2.1, by rw [xl]; exact hB.2.2.2.2⟩, hts _ hin, hts _ hse⟩ ⟨am_blind B D dA h (.ref b :: as), va_recv hK.1 (am_P1 (hw.2 b _ hh)) hc rfl (q0 := 0), fun U hU hW => ⟨rfl, by rw [hU]; exact Nat.le_trans xB hS.1, by rw [hU]; exact hw, hK.warm hW⟩⟩ rfl (by rw [List.length_map]; exact hn) hL.1 (by show List.map _ _ = _; rw [List.map_append, List.map_reverse]; rfl) (lv_room (by rw [List.map_map]; simp only [Function.comp_def, am_v_cat]; exact hcat)) hd hf
theorem g_init {M M' : am_MI} {pc idx n b : Nat} {L : am_L} {st as : List Value} {h : am_H} {r r1 : am_R} (hl : Cond.methodLink M.1.cls idx M'.1 ∈ am_tbl) (hin : Cond.instanceMethod M'.1 ∈ am_tbl) (hi : M'.1.name = "<init>" ∧ M'.2.2.2.1 = none) (hB : am_LkB M M' n) (hn : as.length = n) (hcat : (st.map fun v => v.category).sum ≤ 8) (hd : decode M.2.1 pc = .ok (.invokespecial idx, 3)) (he : am_EG M' (.ref b :: as) h r1) (hg : am_Good M (pc + 3) L (r1.1.toList ++ st) r1.2 r) : am_Good M pc L (as.reverse ++ .ref b :: st) h r := by
  refine am_Good.call he.1 hg fun p l e R s m args below meth c B N0 S0 D dA H locs ls X hf => ?_
  obtain ⟨⟨hx, hb, hml, hown, hts, hlk, hr, hnm⟩, ⟨xf, xl, xc, xs⟩, ⟨xn, xt, xB⟩, hK, hw, hS, hL⟩ := X
  obtain ⟨y', cc', nl', rt', f', l'⟩ := M'
  obtain ⟨hi1, hi2⟩ := hi
  dsimp only at hi2
  subst hi2
  refine va_runI (y := y') (bytes := cc') (maxL := nl') (Ts := am_tbl) (own := M.1.cls) (b := B + b) (As := as.map (am_v B)) ⟨hx, hb, hml, hown, hts⟩ (he.2 l B D dA) ⟨callB_of n hts (am_goodIn hB.1) rfl rfl rfl (hts _ hB.2.1) (hts _ hl) hB.2.2.1 ⟨by rw [xf]; exact hB.2.2.2.1, by rw [xl]; exact hB.2.2.2.2⟩, hi1, hts _ hin⟩ ⟨am_blind B D dA h (.ref b :: as), fun U hU hW => ⟨rfl, by rw [hU]; exact Nat.le_trans xB hS.1, by rw [hU]; exact hw, hK.warm hW⟩⟩ rfl (by rw [List.length_map]; exact hn) hL.1 (by show List.map _ _ = _; rw [List.map_append, List.map_reverse]; rfl) (lv_room (by rw [List.map_map]; simp only [Function.comp_def, am_v_cat]; exact hcat)) hd hf
theorem g_initN {M M' : am_MI} {pc idx n b : Nat} {L : am_L} {st as : List Value} {h : am_H} {r r1 : am_R} {host : String} (hl : Cond.methodLinkNest M.1.cls idx M'.1 host ∈ am_nest) (hin : Cond.instanceMethod M'.1 ∈ am_tbl) (hi : M'.1.name = "<init>" ∧ M'.2.2.2.1 = none) (hB : am_LkB M M' n) (hn : as.length = n) (hcat : (st.map fun v => v.category).sum ≤ 8) (hd : decode M.2.1 pc = .ok (.invokespecial idx, 3)) (he : am_EG M' (.ref b :: as) h r1) (hg : am_Good M (pc + 3) L (r1.1.toList ++ st) r1.2 r) : am_Good M pc L (as.reverse ++ .ref b :: st) h r := by
  refine am_Good.call he.1 hg fun p l e R s m args below meth c B N0 S0 D dA H locs ls X hf => ?_
  obtain ⟨⟨hx, hb, hml, hown, hts, hlk, hr, hnm⟩, ⟨xf, xl, xc, xs⟩, ⟨xn, xt, xB⟩, hK, hw, hS, hL⟩ := X
  obtain ⟨y', cc', nl', rt', f', l'⟩ := M'
  obtain ⟨hi1, hi2⟩ := hi
  dsimp only at hi2
  subst hi2
  refine va_runIN (y := y') (bytes := cc') (maxL := nl') (Ts := am_tbl) (own := M.1.cls) (b := B + b) (As := as.map (am_v B)) ⟨hx, hb, hml, hown, hts⟩ (he.2 l B D dA) ⟨va_cnB n hts (am_goodIn hB.1) rfl rfl rfl (hK.2 _ hl) (hts _ hB.2.1) hB.2.2.1 ⟨by rw [xf]; exact hB.2.2.2.1, by rw [xl]; exact hB.2.2.2.2⟩, hi1, hts _ hin⟩ ⟨am_blind B D dA h (.ref b :: as), fun U hU hW => ⟨rfl, by rw [hU]; exact Nat.le_trans xB hS.1, by rw [hU]; exact hw, hK.warm hW⟩⟩ rfl (by rw [List.length_map]; exact hn) hL.1 (by show List.map _ _ = _; rw [List.map_append, List.map_reverse]; rfl) (lv_room (by rw [List.map_map]; simp only [Function.comp_def, am_v_cat]; exact hcat)) hd hf
theorem g_objInit {M : am_MI} {pc idx a : Nat} {L : am_L} {st : List Value} {h : am_H} {r : am_R} (hl : Cond.methodLink M.1.cls idx Lib.objectInit ∈ am_tbl) (hin : Cond.instanceMethod Lib.objectInit ∈ am_tbl) (hc : Cond.code Lib.objectInit ⟨#[0xb1]⟩ 1 none ∈ am_tbl) (hR : 1 ≤ M.2.2.2.2.1 ∧ 20 ≤ M.2.2.2.2.2) (hcat : (st.map fun v => v.category).sum ≤ 8) (hd : decode M.2.1 pc = .ok (.invokespecial idx, 3)) (hg : am_Good M (pc + 3) L st h r) : am_Good M pc L (.ref a :: st) h r := by
  refine hg.go fun p l e R s m args below meth c B N0 S0 D dA H locs ls Q X kk => ?_
  obtain ⟨⟨hx, hb, hml, hown, hts, hlk, hr, hnm⟩, ⟨xf, xl, xc, xs⟩, ⟨xn, xt, xB⟩, hK, hw, hS, hL⟩ := X
  have hcat2 : ((st.map (am_v B)).map fun v => v.category).sum ≤ 8 := by rw [List.map_map]; simp only [Function.comp_def, am_v_cat]; exact hcat
  refine W.objInit hx hb hown (hts _ hl) (hts _ hin) (hts _ hc) rfl (by rw [hml]; exact hL.1) rfl hd (by rw [xf]; exact hR.1) ?_ (kk ls hL)
  show 2 * 0 + _ + 12 ≤ _
  rw [xl]
  have := hR.2
  omega
/-! ends -/
theorem g_ireturn {M : am_MI} {pc n : Nat} {L : am_L} {h : am_H} (hr0 : M.2.2.2.1 = some .int) (hd : decode M.2.1 pc = .ok (.ireturn, 1)) : am_Good M pc L [.retAddr n] h (some (.retAddr n), h) := by
  refine ⟨⟨Nat.le_refl _, Nat.le_refl _⟩, fun p l e R s m args below meth c B N0 S0 D dA H locs ls X => ?_⟩
  obtain ⟨⟨hx, hb, hml, hown, hts, hlk, hr, hnm⟩, ⟨xf, xl, xc, xs⟩, ⟨xn, xt, xB⟩, hK, hw, hS, hL⟩ := X
  exact W.iret hx hb (hr.trans hr0) (fun t ht _ => ⟨rfl, by rw [ht]; exact hw, hS.F ht⟩) hS.2.2 hd
theorem g_zreturn {M : am_MI} {pc n : Nat} {L : am_L} {h : am_H} (hr0 : M.2.2.2.1 = some .boolean) (hn : n < 2) (hd : decode M.2.1 pc = .ok (.ireturn, 1)) : am_Good M pc L [.retAddr n] h (some (.retAddr n), h) := by
  refine ⟨⟨Nat.le_refl _, Nat.le_refl _⟩, fun p l e R s m args below meth c B N0 S0 D dA H locs ls X => ?_⟩
  obtain ⟨⟨hx, hb, hml, hown, hts, hlk, hr, hnm⟩, ⟨xf, xl, xc, xs⟩, ⟨xn, xt, xB⟩, hK, hw, hS, hL⟩ := X
  exact W.zret hx hb (hr.trans hr0) (am_fit_ok (ty := .boolean) (v := .retAddr n) B hn).1 (fun t ht _ => ⟨rfl, by rw [ht]; exact hw, hS.F ht⟩) hS.2.2 hd
theorem g_return {M : am_MI} {pc : Nat} {L : am_L} {h : am_H} (hr0 : M.2.2.2.1 = none) (hd : decode M.2.1 pc = .ok (.return_, 1)) : am_Good M pc L [] h (none, h) := by
  refine ⟨⟨Nat.le_refl _, Nat.le_refl _⟩, fun p l e R s m args below meth c B N0 S0 D dA H locs ls X => ?_⟩
  obtain ⟨⟨hx, hb, hml, hown, hts, hlk, hr, hnm⟩, ⟨xf, xl, xc, xs⟩, ⟨xn, xt, xB⟩, hK, hw, hS, hL⟩ := X
  exact W.vret hx hb (hr.trans hr0) (fun t ht _ => ⟨rfl, by rw [ht]; exact hw, hS.F ht⟩) hS.2.2 hd
theorem g_areturn {M : am_MI} {pc a : Nat} {L : am_L} {h : am_H} {rt : FieldType} (hr0 : M.2.2.2.1 = some rt) (hrt : (∃ n, rt = .object n) ∨ ∃ t, rt = .array t) (hd : decode M.2.1 pc = .ok (.areturn, 1)) : am_Good M pc L [.ref a] h (some (.ref a), h) := by
  refine ⟨⟨Nat.le_refl _, Nat.le_refl _⟩, fun p l e R s m args below meth c B N0 S0 D dA H locs ls X => ?_⟩
  obtain ⟨⟨hx, hb, hml, hown, hts, hlk, hr, hnm⟩, ⟨xf, xl, xc, xs⟩, ⟨xn, xt, xB⟩, hK, hw, hS, hL⟩ := X
  exact W.aret hx hb (hr.trans hr0) hrt (Or.inr ⟨B + a, rfl⟩) (fun t ht _ => ⟨rfl, by rw [ht]; exact hw, hS.F ht⟩) hS.2.2 hd
/-! switches -/
theorem g_tableIn {M : am_MI} {pc a t len : Nat} {L : am_L} {st : List Value} {h : am_H} {r : am_R} {dflt lo hi off : Int} {offs : Array Int} (hd : decode M.2.1 pc = .ok (.tableswitch dflt lo hi offs, len)) (ha : a < 2147483648) (h1 : lo ≤ (a : Int)) (h2 : (a : Int) ≤ hi) (ho : offs[((a : Int) - lo).toNat]? = some off) (ht : (pc : Int) + off = (t : Int)) (hg : am_Good M t L st h r) : am_Good M pc L (.retAddr a :: st) h r := by
  refine hg.go fun p l e R s m args below meth c B N0 S0 D dA H locs ls Q X kk => ?_
  obtain ⟨⟨hx, hb, hml, hown, hts, hlk, hr, hnm⟩, ⟨xf, xl, xc, xs⟩, ⟨xn, xt, xB⟩, hK, hw, hS, hL⟩ := X
  exact lv_tableIn hx hb hd (by rw [an_toIntS ha]; omega) (by rw [an_toIntS ha]; omega) (by rw [an_toIntS ha]; exact ho) ht (kk ls hL)
theorem g_tableOut {M : am_MI} {pc a t len : Nat} {L : am_L} {st : List Value} {h : am_H} {r : am_R} {dflt lo hi : Int} {offs : Array Int} (hd : decode M.2.1 pc = .ok (.tableswitch dflt lo hi offs, len)) (ha : a < 4294967296) (h0 : 0 ≤ lo) (h1 : (a : Int) < lo ∨ hi < (a : Int)) (ht : (pc : Int) + dflt = (t : Int)) (hg : am_Good M t L st h r) : am_Good M pc L (.retAddr a :: st) h r := by
  refine hg.go fun p l e R s m args below meth c B N0 S0 D dA H locs ls Q X kk => ?_
  obtain ⟨⟨hx, hb, hml, hown, hts, hlk, hr, hnm⟩, ⟨xf, xl, xc, xs⟩, ⟨xn, xt, xB⟩, hK, hw, hS, hL⟩ := X
  exact lv_tableOut hx hb hd (an_out ha h0 h1) ht (kk ls hL)
theorem g_lookup {M : am_MI} {pc a t len : Nat} {L : am_L} {st : List Value} {h : am_H} {r : am_R} {dflt off : Int} {ps : Array (Int × Int)} (hd : decode M.2.1 pc = .ok (.lookupswitch dflt ps, len)) (hp : (ps.toList.zip (ps.toList.drop 1)).all (fun (a, next) => a.1 < next.1) = true) (ho : Op.lookupswitch.offset ps.toList dflt (Int32.ofNat a).toInt = off) (ht : (pc : Int) + off = (t : Int)) (hg : am_Good M t L st h r) : am_Good M pc L (.retAddr a :: st) h r := by
  refine hg.go fun p l e R s m args below meth c B N0 S0 D dA H locs ls Q X kk => ?_
  obtain ⟨⟨hx, hb, hml, hown, hts, hlk, hr, hnm⟩, ⟨xf, xl, xc, xs⟩, ⟨xn, xt, xB⟩, hK, hw, hS, hL⟩ := X
  exact lv_lookup hx hb hd hp ho ht (kk ls hL)
theorem g_forget {M : am_MI} {pc : Nat} {L L' : am_L} {st : List Value} {h : am_H} {r : am_R} (hL : ∀ (i : Nat) (v : Value), L'[i]? = some (some v) → L[i]? = some (some v)) (hg : am_Good M pc L' st h r) : am_Good M pc L st h r :=
  hg.go fun p l e R s m args below meth c B N0 S0 D dA H locs ls Q X kk => kk ls (X.2.2.2.2.2.2.forget hL)
end
section
/-! ===== rule: System.arraycopy of ints ===== -/
theorem g_acopy {M : am_MI} {pc idx a a0 n n0 n1 c0 c1 sp dp : Nat} {L : am_L} {st : List Value} {h : am_H} {r : am_R} (hl : Cond.methodLink M.1.cls idx arraycopyName ∈ am_tbl) (hnat : Cond.native arraycopyName ∈ am_tbl) (hst : Cond.static arraycopyName ∈ am_tbl) (hini : Cond.initialized "java/lang/System" ∈ am_tbl) (hR : 1 ≤ M.2.2.2.2.1 ∧ 26 ≤ M.2.2.2.2.2) (hcat : (st.map fun v => v.category).sum ≤ 8) (hd : decode M.2.1 pc = .ok (.invokestatic idx, 3)) (h0 : am_get h a0 = some (.inl (0, n0, c0))) (h1 : am_get h a = some (.inl (0, n1, c1))) (hs : sp + n ≤ n0) (ht : dp + n ≤ n1) (hb0 : n0 < 2147483648) (hb1 : n1 < 2147483648) (hg : am_Good M (pc + 3) L st (am_upd h a (.inl (0, n1, am_cp c0 c1 sp dp n))) r) : am_Good M pc L (.retAddr n :: .retAddr dp :: .ref a :: .retAddr sp :: .ref a0 :: st) h r := by
  refine am_Good.put hg fun p l e R s m args below meth c B N0 S0 D dA H locs ls Q X kk => ?_
  obtain ⟨⟨hx, hb, hml, hown, hts, hlk, hr, hnm⟩, ⟨xf, xl, xc, xs⟩, ⟨xn, xt, xB⟩, hK, hw, hS, hL⟩ := X
  have hcat2 : ((st.map (am_v B)).map fun v => v.category).sum ≤ 8 := by rw [List.map_map]; simp only [Function.comp_def, am_v_cat]; exact hcat
  intro T hT ST
  have hc0 : H[B + a0]? = some (vp_cell (dA 0) (n0, .inl (fun j => Int32.ofNat (am_ag c0 j)))) := hw.2 a0 _ h0
  have hc1 : H[B + a]? = some (vp_cell (dA 0) (n1, .inl (fun j => Int32.ofNat (am_ag c1 j)))) := hw.2 a _ h1
  obtain ⟨-, k0, hk0, cm0, hkk0⟩ := (hK.1.2 0 _ rfl).1 n0 (fun j => .int (Int32.ofNat (am_ag c0 j)))
  have q1 : ¬ Int32.ofNat sp < 0 := an_nonneg (by omega)
  have q2 : ¬ Int32.ofNat dp < 0 := an_nonneg (by omega)
  have q3 : ¬ Int32.ofNat n < 0 := an_nonneg (by omega)
  have z1 : (Int32.ofNat sp).toNatClampNeg = sp := an_clamp (by omega)
  have z2 : (Int32.ofNat dp).toNatClampNeg = dp := an_clamp (by omega)
  have z3 : (Int32.ofNat n).toNatClampNeg = n := an_clamp (by omega)
  have y1 : (Int32.ofNat sp).toInt = sp := an_toIntS (by omega)
  have y2 : (Int32.ofNat dp).toInt = dp := an_toIntS (by omega)
  have y3 : (Int32.ofNat n).toInt = n := an_toIntS (by omega)
  obtain ⟨vm', X', step⟩ := ST.arraycopy hx hown (hts _ hl) (hts _ hnat) (hts _ hst) (hts _ hini) (src := B + a0) (dst := B + a) (cs := vp_cell (dA 0) (n0, .inl (fun j => Int32.ofNat (am_ag c0 j)))) (cd := vp_cell (dA 0) (n1, .inl (fun j => Int32.ofNat (am_ag c1 j)))) (srcPos := Int32.ofNat sp) (destPos := Int32.ofNat dp) (n := Int32.ofNat n) (by rw [hT]; exact hc0) (by rw [hT]; exact hc1)
    (fun _ h => by cases h) (fun _ h => by cases h) (fun h => by cases h) (fun h => by cases h) hk0 hk0 hkk0 hkk0 (by rfl) q1 q2 q3
    (by rw [y1, y3]; show ¬ _ > ((arrV (dA 0) n0 (fun j => .int (Int32.ofNat (am_ag c0 j)))).slots.size : Int); rw [arrV_size]; omega)
    (by rw [y2, y3]; show ¬ _ > ((arrV (dA 0) n1 (fun j => .int (Int32.ofNat (am_ag c1 j)))).slots.size : Int); rw [arrV_size]; omega)
    (fun vm₁ _ i hi => by
      rw [z3] at hi
      have e : (vp_cell (dA 0) (n0, .inl (fun j => Int32.ofNat (am_ag c0 j)))).slots.getD ((Int32.ofNat sp).toNatClampNeg + i) .null = .int (Int32.ofNat (am_ag c0 (sp + i))) := by
        show (arrV (dA 0) n0 (fun j => .int (Int32.ofNat (am_ag c0 j)))).slots.getD _ _ = _
        rw [z1, Array.getD_eq_getD_getElem?, arrV_read _ _ (by omega)]
        rfl
      refine ⟨?_, ?_⟩
      · rw [e]
        rfl
      · rw [e]
        exact trivial)
    (g := F0 m pc ls (.int (Int32.ofNat n) :: .int (Int32.ofNat dp) :: .ref (B + a) :: .int (Int32.ofNat sp) :: .ref (B + a0) :: st.map (am_v B))) rfl (by rw [hml]; exact hL.1) (rest := st.map (am_v B)) rfl (by rw [hb]; exact hd) (by rw [xf]; exact hR.1) (by have w : nativeFrameWords "java/lang/System" "arraycopy" 5 = 7 := (by decide); have := hR.2; show 2 * 0 + _ + _ ≤ _; rw [xl]; first | omega | (rw [w]; omega))
  have e1 : copied (vp_cell (dA 0) (n0, .inl (fun j => Int32.ofNat (am_ag c0 j)))) (vp_cell (dA 0) (n1, .inl (fun j => Int32.ofNat (am_ag c1 j)))) (Int32.ofNat sp) (Int32.ofNat dp) (Int32.ofNat n) = vp_cell (dA 0) (n1, .inl (fun j => Int32.ofNat (am_ag (am_cp c0 c1 sp dp n) j))) := by
    have e0 : copied (vp_cell (dA 0) (n0, .inl (fun j => Int32.ofNat (am_ag c0 j)))) (vp_cell (dA 0) (n1, .inl (fun j => Int32.ofNat (am_ag c1 j)))) (Int32.ofNat sp) (Int32.ofNat dp) (Int32.ofNat n) = vp_cell (dA 0) (n1, .inl (va_cpy (fun j => Int32.ofNat (am_ag c0 j)) (fun j => Int32.ofNat (am_ag c1 j)) (Int32.ofNat sp).toNatClampNeg (Int32.ofNat dp).toNatClampNeg (Int32.ofNat n).toNatClampNeg)) := va_copied (fun z => .int z) (dA 0) (dA 0) (fun j => Int32.ofNat (am_ag c0 j)) (fun j => Int32.ofNat (am_ag c1 j)) (by rw [z1, z3]; exact hs)
    rw [e0, z1, z2, z3]
    congr 3
    funext j
    rw [am_ag_cp]
    unfold va_cpy
    by_cases hj : dp ≤ j ∧ j < dp + n
    · rw [if_pos hj, if_pos hj]
    · rw [if_neg hj, if_neg hj]
  rw [e1] at X' step
  have hl : B + a < H.size := (Array.getElem?_eq_some_iff.mp hc1).1
  have hheap : ((T.setVm vm').setCell (B + a) (vp_cell (dA 0) (n1, .inl (fun j => Int32.ofNat (am_ag (am_cp c0 c1 sp dp n) j))))).heap = H.setIfInBounds (B + a) (vp_cell (dA 0) (n1, .inl (fun j => Int32.ofNat (am_ag (am_cp c0 c1 sp dp n) j)))) := by rw [← hT]; rfl
  have oq : ∀ q : Nat, q ≠ B + a → (H.setIfInBounds (B + a) (vp_cell (dA 0) (n1, .inl (fun j => Int32.ofNat (am_ag (am_cp c0 c1 sp dp n) j)))))[q]? = H[q]? := fun q hq => by simp [Array.getElem?_setIfInBounds, Ne.symm hq]
  obtain ⟨t, a1, b1⟩ := kk _ _ (hw.upd (e := .inl (0, n1, am_cp c0 c1 sp dp n)) h1 (show (H.setIfInBounds (B + a) _)[B + a]? = some _ by simp [Array.getElem?_setIfInBounds, hl]) (by simp) oq) ⟨by simp; exact hS.1, fun q g1 g2 => by
      rw [oq q (fun e => g2 (by rw [e]; exact Nat.le_add_right _ _))]
      exact hS.2.1 q g1 g2, fun q hq => by
      rcases List.mem_append.mp hq with h | h
      · exact hS.2.2 q h
      · obtain ⟨z, -, hz⟩ := List.mem_map.mp h
        rw [← hz]
        exact Nat.le_add_right _ _⟩ _ hheap X'
  exact ⟨t, step t a1, b1⟩
end
section
/-! ===== methods ===== -/
def mi_0 : am_MI := (⟨"OverAndBack", "<init>", "()V"⟩, prog_1_method_1_code, 2, none, 6, 137)
def mi_1 : am_MI := (⟨"OverAndBack$Reader", "<init>", "()V"⟩, prog_8_method_1_code, 1, none, 1, 20)
def mi_2 : am_MI := (⟨"OverAndBack$Evening", "<init>", "()V"⟩, prog_3_method_1_code, 1, none, 2, 42)
def mi_3 : am_MI := (⟨"OverAndBack$Rows", "<init>", "(II)V"⟩, prog_10_method_1_code, 3, none, 1, 20)
def mi_4 : am_MI := (⟨"OverAndBack$Facts", "<init>", "()V"⟩, prog_4_method_1_code, 1, none, 1, 20)
def mi_5 : am_MI := (⟨"OverAndBack$Screen", "<init>", "()V"⟩, prog_11_method_1_code, 1, none, 1, 20)
def mi_6 : am_MI := (⟨"OverAndBack$Walk", "<init>", "()V"⟩, prog_12_method_1_code, 1, none, 1, 20)
def mi_7 : am_MI := (⟨"OverAndBack$Routes", "<init>", "()V"⟩, prog_9_method_1_code, 1, none, 1, 20)
def mi_8 : am_MI := (⟨"OverAndBack$Learning", "<init>", "(LOverAndBack$Screen;LOverAndBack$Facts;)V"⟩, prog_5_method_1_code, 3, none, 1, 23)
def mi_9 : am_MI := (⟨"java/util/Arrays", "fill", "([II)V"⟩, prog_21_method_103_code, 4, none, 0, 0)
def mi_10 : am_MI := (⟨"OverAndBack$Box", "<init>", "()V"⟩, prog_2_method_1_code, 1, none, 1, 20)
def mi_11 : am_MI := (⟨"OverAndBack$Plan", "<init>", "()V"⟩, prog_7_method_1_code, 1, none, 1, 20)
def mi_12 : am_MI := (⟨"OverAndBack$Past", "<init>", "()V"⟩, prog_6_method_1_code, 1, none, 1, 20)
def mi_13 : am_MI := (⟨"OverAndBack$Reader", "read", "([CILOverAndBack$Evening;)I"⟩, prog_8_method_2_code, 7, (Option.some Jvm.ClassFile.FieldType.int), 3, 72)
def mi_14 : am_MI := (⟨"OverAndBack$Evening", "clear", "()V"⟩, prog_3_method_2_code, 1, none, 1, 20)
def mi_15 : am_MI := (⟨"OverAndBack$Rows", "clear", "()V"⟩, prog_10_method_2_code, 1, none, 0, 0)
def mi_16 : am_MI := (⟨"java/lang/Math", "min", "(II)I"⟩, prog_16_method_69_code, 2, (Option.some Jvm.ClassFile.FieldType.int), 0, 0)
def mi_17 : am_MI := (⟨"OverAndBack$Reader", "readNumbers", "([CII)I"⟩, prog_8_method_3_code, 8, (Option.some Jvm.ClassFile.FieldType.int), 2, 45)
def mi_18 : am_MI := (⟨"OverAndBack$Reader", "figuresAt", "([CII)I"⟩, prog_8_method_4_code, 4, (Option.some Jvm.ClassFile.FieldType.int), 1, 20)
def mi_19 : am_MI := (⟨"OverAndBack$Reader", "isFigure", "(C)Z"⟩, prog_8_method_6_code, 1, (Option.some Jvm.ClassFile.FieldType.boolean), 0, 0)
def mi_20 : am_MI := (⟨"OverAndBack$Reader", "valueAhead", "([CII)I"⟩, prog_8_method_5_code, 5, (Option.some Jvm.ClassFile.FieldType.int), 1, 21)
def mi_21 : am_MI := (⟨"java/lang/Math", "max", "(II)I"⟩, prog_16_method_65_code, 2, (Option.some Jvm.ClassFile.FieldType.int), 0, 0)
def mi_22 : am_MI := (⟨"OverAndBack$Reader", "take", "(CLOverAndBack$Evening;)Z"⟩, prog_8_method_7_code, 3, (Option.some Jvm.ClassFile.FieldType.boolean), 2, 47)
def mi_23 : am_MI := (⟨"OverAndBack$Reader", "takeMinutes", "(LOverAndBack$Evening;)Z"⟩, prog_8_method_8_code, 2, (Option.some Jvm.ClassFile.FieldType.boolean), 1, 23)
def mi_24 : am_MI := (⟨"OverAndBack$Reader", "within", "(III)Z"⟩, prog_8_method_11_code, 4, (Option.some Jvm.ClassFile.FieldType.boolean), 0, 0)
def mi_25 : am_MI := (⟨"OverAndBack$Reader", "takeGoing", "(LOverAndBack$Evening;)Z"⟩, prog_8_method_9_code, 2, (Option.some Jvm.ClassFile.FieldType.boolean), 1, 23)
def mi_26 : am_MI := (⟨"OverAndBack$Rows", "add", "([I)Z"⟩, prog_10_method_3_code, 2, (Option.some Jvm.ClassFile.FieldType.boolean), 1, 26)
def mi_27 : am_MI := (⟨"OverAndBack$Reader", "isSpan", "(LOverAndBack$Evening;)Z"⟩, prog_8_method_10_code, 2, (Option.some Jvm.ClassFile.FieldType.boolean), 1, 23)
def mi_28 : am_MI := (⟨"OverAndBack", "takeEvening", "()V"⟩, prog_1_method_35_code, 1, none, 5, 117)
def mi_29 : am_MI := (⟨"OverAndBack$Facts", "derive", "(LOverAndBack$Evening;)V"⟩, prog_4_method_2_code, 3, none, 2, 48)
def mi_30 : am_MI := (⟨"OverAndBack$Facts", "close", "(LOverAndBack$Rows;I)I"⟩, prog_4_method_3_code, 7, (Option.some Jvm.ClassFile.FieldType.int), 1, 22)
def mi_31 : am_MI := (⟨"OverAndBack$Rows", "cell", "(II)I"⟩, prog_10_method_4_code, 3, (Option.some Jvm.ClassFile.FieldType.int), 0, 0)
def mi_32 : am_MI := (⟨"OverAndBack$Screen", "show", "(LOverAndBack$Evening;II)V"⟩, prog_11_method_2_code, 5, none, 4, 93)
def mi_33 : am_MI := (⟨"OverAndBack$Screen", "showStations", "(LOverAndBack$Rows;)V"⟩, prog_11_method_5_code, 4, none, 2, 47)
def mi_34 : am_MI := (⟨"OverAndBack$Screen", "put", "(IIIII)V"⟩, prog_11_method_9_code, 7, none, 1, 21)
def mi_35 : am_MI := (⟨"OverAndBack$Screen", "isThere", "(II)Z"⟩, prog_11_method_10_code, 2, (Option.some Jvm.ClassFile.FieldType.boolean), 0, 0)
def mi_36 : am_MI := (⟨"OverAndBack$Screen", "showScenes", "(LOverAndBack$Rows;I)V"⟩, prog_11_method_6_code, 4, none, 3, 70)
def mi_37 : am_MI := (⟨"OverAndBack$Screen", "showScene", "(LOverAndBack$Rows;I)V"⟩, prog_11_method_7_code, 4, none, 2, 47)
def mi_38 : am_MI := (⟨"OverAndBack$Screen", "showBreak", "(LOverAndBack$Rows;I)V"⟩, prog_11_method_8_code, 4, none, 2, 47)
def mi_39 : am_MI := (⟨"OverAndBack$Routes", "measure", "(LOverAndBack$Evening;LOverAndBack$Screen;)V"⟩, prog_9_method_2_code, 5, none, 4, 93)
def mi_40 : am_MI := (⟨"OverAndBack$Routes", "greatestAt", "(LOverAndBack$Evening;LOverAndBack$Screen;II)I"⟩, prog_9_method_5_code, 7, (Option.some Jvm.ClassFile.FieldType.int), 3, 67)
def mi_41 : am_MI := (⟨"OverAndBack$Screen", "worthOf", "(II)I"⟩, prog_11_method_11_code, 3, (Option.some Jvm.ClassFile.FieldType.int), 1, 21)
def mi_42 : am_MI := (⟨"OverAndBack$Routes", "worthFrom", "(II)I"⟩, prog_9_method_3_code, 3, (Option.some Jvm.ClassFile.FieldType.int), 0, 0)
def mi_43 : am_MI := (⟨"OverAndBack$Routes", "worthByGoing", "(LOverAndBack$Screen;III)I"⟩, prog_9_method_6_code, 5, (Option.some Jvm.ClassFile.FieldType.int), 2, 43)
def mi_44 : am_MI := (⟨"OverAndBack$Plan", "clear", "()V"⟩, prog_7_method_2_code, 1, none, 0, 0)
def mi_45 : am_MI := (⟨"OverAndBack$Past", "clear", "()V"⟩, prog_6_method_2_code, 1, none, 0, 0)
def mi_46 : am_MI := (⟨"OverAndBack", "write", "(I)I"⟩, prog_1_method_2_code, 2, (Option.some Jvm.ClassFile.FieldType.int), 0, 0)
def mi_47 : am_MI := (⟨"OverAndBack", "wipe", "()I"⟩, prog_1_method_3_code, 2, (Option.some Jvm.ClassFile.FieldType.int), 0, 0)
def mi_48 : am_MI := (⟨"OverAndBack", "fault", "()I"⟩, prog_1_method_4_code, 1, (Option.some Jvm.ClassFile.FieldType.int), 4, 98)
def mi_49 : am_MI := (⟨"OverAndBack", "lay", "()I"⟩, prog_1_method_5_code, 2, (Option.some Jvm.ClassFile.FieldType.int), 6, 137)
def mi_50 : am_MI := (⟨"OverAndBack", "minute", "(III)I"⟩, prog_1_method_6_code, 5, (Option.some Jvm.ClassFile.FieldType.int), 2, 43)
def mi_51 : am_MI := (⟨"OverAndBack", "isStation", "(I)Z"⟩, prog_1_method_29_code, 2, (Option.some Jvm.ClassFile.FieldType.boolean), 0, 0)
def mi_52 : am_MI := (⟨"OverAndBack", "isMinute", "(I)Z"⟩, prog_1_method_30_code, 2, (Option.some Jvm.ClassFile.FieldType.boolean), 0, 0)
def mi_53 : am_MI := (⟨"OverAndBack$Screen", "isBreak", "(II)Z"⟩, prog_11_method_14_code, 3, (Option.some Jvm.ClassFile.FieldType.boolean), 1, 21)
def mi_54 : am_MI := (⟨"OverAndBack$Screen", "factOf", "(II)I"⟩, prog_11_method_12_code, 3, (Option.some Jvm.ClassFile.FieldType.int), 1, 21)
def mi_55 : am_MI := (⟨"OverAndBack", "known", "(I)I"⟩, prog_1_method_7_code, 2, (Option.some Jvm.ClassFile.FieldType.int), 1, 21)
def mi_56 : am_MI := (⟨"OverAndBack", "isSet", "(I)Z"⟩, prog_1_method_33_code, 1, (Option.some Jvm.ClassFile.FieldType.boolean), 0, 0)
def mi_57 : am_MI := (⟨"OverAndBack$Facts", "following", "(I)I"⟩, prog_4_method_4_code, 2, (Option.some Jvm.ClassFile.FieldType.int), 0, 0)
def mi_58 : am_MI := (⟨"OverAndBack", "watcher", "(II)I"⟩, prog_1_method_8_code, 3, (Option.some Jvm.ClassFile.FieldType.int), 6, 141)
def mi_59 : am_MI := (⟨"OverAndBack", "isWatcher", "(I)Z"⟩, prog_1_method_31_code, 2, (Option.some Jvm.ClassFile.FieldType.boolean), 0, 0)
def mi_60 : am_MI := (⟨"OverAndBack", "follow", "(ILOverAndBack$Screen;)V"⟩, prog_1_method_37_code, 3, none, 5, 119)
def mi_61 : am_MI := (⟨"OverAndBack$Walk", "followPlan", "(LOverAndBack$Evening;LOverAndBack$Screen;LOverAndBack$Plan;)V"⟩, prog_12_method_3_code, 5, none, 3, 65)
def mi_62 : am_MI := (⟨"OverAndBack$Walk", "sortOut", "(LOverAndBack$Plan;I)I"⟩, prog_12_method_4_code, 8, (Option.some Jvm.ClassFile.FieldType.int), 1, 23)
def mi_63 : am_MI := (⟨"OverAndBack$Walk", "start", "(I)V"⟩, prog_12_method_6_code, 2, none, 0, 0)
def mi_64 : am_MI := (⟨"OverAndBack$Plan", "minuteOf", "(I)I"⟩, prog_7_method_6_code, 2, (Option.some Jvm.ClassFile.FieldType.int), 0, 0)
def mi_65 : am_MI := (⟨"OverAndBack$Plan", "stationOf", "(I)I"⟩, prog_7_method_7_code, 2, (Option.some Jvm.ClassFile.FieldType.int), 0, 0)
def mi_66 : am_MI := (⟨"OverAndBack$Walk", "goTo", "(III)V"⟩, prog_12_method_7_code, 4, none, 0, 0)
def mi_67 : am_MI := (⟨"OverAndBack$Walk", "look", "(LOverAndBack$Screen;I)V"⟩, prog_12_method_8_code, 3, none, 2, 43)
def mi_68 : am_MI := (⟨"OverAndBack$Screen", "factBit", "(II)I"⟩, prog_11_method_13_code, 3, (Option.some Jvm.ClassFile.FieldType.int), 1, 21)
def mi_69 : am_MI := (⟨"OverAndBack$Evening", "kindOf", "(I)I"⟩, prog_3_method_3_code, 2, (Option.some Jvm.ClassFile.FieldType.int), 1, 22)
def mi_70 : am_MI := (⟨"OverAndBack$Evening", "ownOf", "(I)I"⟩, prog_3_method_4_code, 2, (Option.some Jvm.ClassFile.FieldType.int), 1, 22)
def mi_71 : am_MI := (⟨"OverAndBack$Walk", "followKind", "(LOverAndBack$Evening;LOverAndBack$Screen;II)V"⟩, prog_12_method_2_code, 7, none, 4, 93)
def mi_72 : am_MI := (⟨"OverAndBack$Walk", "wish", "(LOverAndBack$Screen;IIII)I"⟩, prog_12_method_9_code, 6, (Option.some Jvm.ClassFile.FieldType.int), 3, 68)
def mi_73 : am_MI := (⟨"OverAndBack$Walk", "unbroken", "(LOverAndBack$Screen;II)I"⟩, prog_12_method_10_code, 6, (Option.some Jvm.ClassFile.FieldType.int), 2, 43)
def mi_74 : am_MI := (⟨"OverAndBack$Walk", "worthiest", "(LOverAndBack$Screen;II)I"⟩, prog_12_method_11_code, 6, (Option.some Jvm.ClassFile.FieldType.int), 2, 43)
def mi_75 : am_MI := (⟨"OverAndBack", "where", "(II)I"⟩, prog_1_method_9_code, 3, (Option.some Jvm.ClassFile.FieldType.int), 6, 141)
def mi_76 : am_MI := (⟨"OverAndBack$Walk", "placeAt", "(I)I"⟩, prog_12_method_5_code, 2, (Option.some Jvm.ClassFile.FieldType.int), 0, 0)
def mi_77 : am_MI := (⟨"OverAndBack", "begin", "(I)I"⟩, prog_1_method_10_code, 3, (Option.some Jvm.ClassFile.FieldType.int), 2, 47)
def mi_78 : am_MI := (⟨"OverAndBack$Past", "push", "(I)V"⟩, prog_6_method_3_code, 2, none, 1, 26)
def mi_79 : am_MI := (⟨"OverAndBack", "over", "(II)I"⟩, prog_1_method_11_code, 3, (Option.some Jvm.ClassFile.FieldType.int), 2, 47)
def mi_80 : am_MI := (⟨"OverAndBack$Plan", "add", "(II)Z"⟩, prog_7_method_3_code, 3, (Option.some Jvm.ClassFile.FieldType.boolean), 0, 0)
def mi_81 : am_MI := (⟨"OverAndBack", "undo", "()I"⟩, prog_1_method_12_code, 2, (Option.some Jvm.ClassFile.FieldType.int), 2, 41)
def mi_82 : am_MI := (⟨"OverAndBack$Past", "pop", "()I"⟩, prog_6_method_4_code, 1, (Option.some Jvm.ClassFile.FieldType.int), 0, 0)
def mi_83 : am_MI := (⟨"OverAndBack$Plan", "dropLast", "()V"⟩, prog_7_method_4_code, 1, none, 1, 21)
def mi_84 : am_MI := (⟨"OverAndBack", "judge", "()I"⟩, prog_1_method_13_code, 1, (Option.some Jvm.ClassFile.FieldType.int), 2, 50)
def mi_85 : am_MI := (⟨"OverAndBack", "plan", "(I)I"⟩, prog_1_method_14_code, 2, (Option.some Jvm.ClassFile.FieldType.int), 6, 141)
def mi_86 : am_MI := (⟨"OverAndBack", "at", "(I)I"⟩, prog_1_method_15_code, 2, (Option.some Jvm.ClassFile.FieldType.int), 6, 141)
def mi_87 : am_MI := (⟨"OverAndBack", "most", "(III)I"⟩, prog_1_method_16_code, 4, (Option.some Jvm.ClassFile.FieldType.int), 5, 120)
def mi_88 : am_MI := (⟨"OverAndBack$Routes", "findFirstGoing", "(LOverAndBack$Evening;LOverAndBack$Screen;II)V"⟩, prog_9_method_4_code, 8, none, 4, 93)
def mi_89 : am_MI := (⟨"OverAndBack$Routes", "goalWorth", "(LOverAndBack$Evening;LOverAndBack$Screen;III)I"⟩, prog_9_method_7_code, 7, (Option.some Jvm.ClassFile.FieldType.int), 3, 67)
def mi_90 : am_MI := (⟨"OverAndBack", "understand", "(III)I"⟩, prog_1_method_17_code, 4, (Option.some Jvm.ClassFile.FieldType.int), 6, 148)
def mi_91 : am_MI := (⟨"OverAndBack$Learning", "learn", "(LOverAndBack$Evening;II)V"⟩, prog_5_method_2_code, 6, none, 5, 123)
def mi_92 : am_MI := (⟨"OverAndBack$Learning", "survey", "(I)V"⟩, prog_5_method_3_code, 4, none, 2, 43)
def mi_93 : am_MI := (⟨"OverAndBack$Learning", "reach", "(IIII)V"⟩, prog_5_method_8_code, 6, none, 1, 22)
def mi_94 : am_MI := (⟨"OverAndBack$Learning", "isThere", "(III)Z"⟩, prog_5_method_9_code, 3, (Option.some Jvm.ClassFile.FieldType.boolean), 0, 0)
def mi_95 : am_MI := (⟨"OverAndBack$Learning", "placeOf", "(III)I"⟩, prog_5_method_10_code, 3, (Option.some Jvm.ClassFile.FieldType.int), 0, 0)
def mi_96 : am_MI := (⟨"OverAndBack$Learning", "takeOut", "(III)V"⟩, prog_5_method_4_code, 7, none, 4, 97)
def mi_97 : am_MI := (⟨"OverAndBack$Learning", "passOn", "(IIIII)V"⟩, prog_5_method_5_code, 7, none, 3, 71)
def mi_98 : am_MI := (⟨"OverAndBack$Learning", "note", "(II)V"⟩, prog_5_method_6_code, 3, none, 0, 0)
def mi_99 : am_MI := (⟨"OverAndBack$Learning", "see", "(IIII)V"⟩, prog_5_method_7_code, 5, none, 2, 47)
def mi_100 : am_MI := (⟨"OverAndBack", "soonest", "(II)I"⟩, prog_1_method_18_code, 3, (Option.some Jvm.ClassFile.FieldType.int), 6, 148)
def mi_101 : am_MI := (⟨"OverAndBack", "ask", "(II)I"⟩, prog_1_method_19_code, 3, (Option.some Jvm.ClassFile.FieldType.int), 2, 46)
def mi_102 : am_MI := (⟨"OverAndBack$Facts", "fewestToAsk", "(II)I"⟩, prog_4_method_5_code, 6, (Option.some Jvm.ClassFile.FieldType.int), 1, 21)
def mi_103 : am_MI := (⟨"java/lang/Integer", "bitCount", "(I)I"⟩, prog_15_method_49_code, 1, (Option.some Jvm.ClassFile.FieldType.int), 0, 0)
def mi_104 : am_MI := (⟨"OverAndBack", "fair", "(II)I"⟩, prog_1_method_20_code, 3, (Option.some Jvm.ClassFile.FieldType.int), 5, 118)
def mi_105 : am_MI := (⟨"OverAndBack", "fairBound", "(I)I"⟩, prog_1_method_34_code, 2, (Option.some Jvm.ClassFile.FieldType.int), 1, 21)
def mi_106 : am_MI := (⟨"OverAndBack$Evening", "turns", "()I"⟩, prog_3_method_5_code, 1, (Option.some Jvm.ClassFile.FieldType.int), 0, 0)
def mi_107 : am_MI := (⟨"OverAndBack$Box", "share", "(LOverAndBack$Evening;LOverAndBack$Screen;)V"⟩, prog_2_method_2_code, 5, none, 4, 94)
def mi_108 : am_MI := (⟨"OverAndBack$Box", "weigh", "(LOverAndBack$Evening;LOverAndBack$Screen;)V"⟩, prog_2_method_5_code, 7, none, 3, 68)
def mi_109 : am_MI := (⟨"OverAndBack$Box", "shown", "(LOverAndBack$Screen;III)I"⟩, prog_2_method_6_code, 6, (Option.some Jvm.ClassFile.FieldType.int), 2, 43)
def mi_110 : am_MI := (⟨"OverAndBack$Box", "tryWay", "(LOverAndBack$Evening;)V"⟩, prog_2_method_7_code, 7, none, 3, 67)
def mi_111 : am_MI := (⟨"OverAndBack$Box", "leastOf", "(LOverAndBack$Evening;)I"⟩, prog_2_method_8_code, 5, (Option.some Jvm.ClassFile.FieldType.int), 2, 43)
def mi_112 : am_MI := (⟨"OverAndBack$Box", "nextWay", "(I)Z"⟩, prog_2_method_9_code, 3, (Option.some Jvm.ClassFile.FieldType.boolean), 0, 0)
def mi_113 : am_MI := (⟨"OverAndBack$Box", "holder", "(I)I"⟩, prog_2_method_3_code, 2, (Option.some Jvm.ClassFile.FieldType.int), 0, 0)
def mi_114 : am_MI := (⟨"OverAndBack$Box", "has", "(I)I"⟩, prog_2_method_4_code, 2, (Option.some Jvm.ClassFile.FieldType.int), 0, 0)
def mi_115 : am_MI := (⟨"OverAndBack", "mean", "(II)I"⟩, prog_1_method_21_code, 7, (Option.some Jvm.ClassFile.FieldType.int), 6, 141)
def mi_116 : am_MI := (⟨"OverAndBack", "isWatcherOrPlan", "(I)Z"⟩, prog_1_method_32_code, 2, (Option.some Jvm.ClassFile.FieldType.boolean), 1, 21)
def mi_117 : am_MI := (⟨"OverAndBack$Evening", "weightOf", "(I)I"⟩, prog_3_method_6_code, 5, (Option.some Jvm.ClassFile.FieldType.int), 1, 22)
def mi_118 : am_MI := (⟨"OverAndBack", "commonDivisor", "(II)I"⟩, prog_1_method_38_code, 6, (Option.some Jvm.ClassFile.FieldType.int), 1, 21)
def mi_119 : am_MI := (⟨"OverAndBack", "sure", "(I)I"⟩, prog_1_method_22_code, 4, (Option.some Jvm.ClassFile.FieldType.int), 6, 141)
def mi_120 : am_MI := (⟨"OverAndBack", "fits", "(I)I"⟩, prog_1_method_23_code, 5, (Option.some Jvm.ClassFile.FieldType.int), 5, 119)
def mi_121 : am_MI := (⟨"OverAndBack", "matters", "(I)I"⟩, prog_1_method_24_code, 6, (Option.some Jvm.ClassFile.FieldType.int), 6, 141)
def mi_122 : am_MI := (⟨"OverAndBack", "night", "(III)I"⟩, prog_1_method_25_code, 4, (Option.some Jvm.ClassFile.FieldType.int), 6, 141)
def mi_123 : am_MI := (⟨"OverAndBack$Screen", "showNight", "(LOverAndBack$Evening;I)V"⟩, prog_11_method_3_code, 5, none, 4, 93)
def mi_124 : am_MI := (⟨"OverAndBack$Screen", "isDrawn", "(III)Z"⟩, prog_11_method_4_code, 5, (Option.some Jvm.ClassFile.FieldType.boolean), 0, 0)
def mi_125 : am_MI := (⟨"OverAndBack", "keep", "()I"⟩, prog_1_method_26_code, 1, (Option.some Jvm.ClassFile.FieldType.int), 2, 44)
def mi_126 : am_MI := (⟨"OverAndBack", "keptPlan", "(I)LOverAndBack$Plan;"⟩, prog_1_method_36_code, 2, (Option.some (Jvm.ClassFile.FieldType.object "OverAndBack$Plan")), 0, 0)
def mi_127 : am_MI := (⟨"OverAndBack$Plan", "copyFrom", "(LOverAndBack$Plan;)V"⟩, prog_7_method_5_code, 3, none, 1, 22)
def mi_128 : am_MI := (⟨"OverAndBack", "back", "()I"⟩, prog_1_method_27_code, 1, (Option.some Jvm.ClassFile.FieldType.int), 2, 44)
def mi_129 : am_MI := (⟨"OverAndBack", "count", "(I)I"⟩, prog_1_method_28_code, 2, (Option.some Jvm.ClassFile.FieldType.int), 0, 0)
def mi_130 : am_MI := (⟨"OverAndBackModel", "<init>", "()V"⟩, prog_14_method_1_code, 1, none, 1, 24)
def mi_131 : am_MI := (⟨"OverAndBackModel", "lays", "([IIIII)V"⟩, prog_14_method_3_code, 5, none, 0, 0)
def mi_132 : am_MI := (⟨"OverAndBackModel", "write", "(I)I"⟩, prog_14_method_11_code, 2, (Option.some Jvm.ClassFile.FieldType.int), 1, 22)
def mi_133 : am_MI := (⟨"OverAndBackModel", "in", "(III)Z"⟩, prog_14_method_4_code, 3, (Option.some Jvm.ClassFile.FieldType.boolean), 0, 0)
def mi_134 : am_MI := (⟨"OverAndBackModel", "wipe", "()I"⟩, prog_14_method_12_code, 2, (Option.some Jvm.ClassFile.FieldType.int), 0, 0)
def mi_135 : am_MI := (⟨"OverAndBackModel", "fault", "()I"⟩, prog_14_method_28_code, 2, (Option.some Jvm.ClassFile.FieldType.int), 5, 106)
def mi_136 : am_MI := (⟨"OverAndBackModel", "readItem", "()Z"⟩, prog_14_method_27_code, 2, (Option.some Jvm.ClassFile.FieldType.boolean), 4, 85)
def mi_137 : am_MI := (⟨"OverAndBackModel", "letterAt", "(I)I"⟩, prog_14_method_13_code, 2, (Option.some Jvm.ClassFile.FieldType.int), 0, 0)
def mi_138 : am_MI := (⟨"OverAndBackModel", "readLength", "()Z"⟩, prog_14_method_19_code, 1, (Option.some Jvm.ClassFile.FieldType.boolean), 3, 64)
def mi_139 : am_MI := (⟨"OverAndBackModel", "readNumbers", "(I)Z"⟩, prog_14_method_15_code, 3, (Option.some Jvm.ClassFile.FieldType.boolean), 2, 42)
def mi_140 : am_MI := (⟨"OverAndBackModel", "isFigure", "(I)Z"⟩, prog_14_method_14_code, 1, (Option.some Jvm.ClassFile.FieldType.boolean), 1, 22)
def mi_141 : am_MI := (⟨"OverAndBackModel", "isTold", "(III)Z"⟩, prog_14_method_16_code, 4, (Option.some Jvm.ClassFile.FieldType.boolean), 1, 22)
def mi_142 : am_MI := (⟨"OverAndBackModel", "readStation", "()Z"⟩, prog_14_method_21_code, 1, (Option.some Jvm.ClassFile.FieldType.boolean), 3, 64)
def mi_143 : am_MI := (⟨"OverAndBackModel", "readSceneOf", "()Z"⟩, prog_14_method_22_code, 1, (Option.some Jvm.ClassFile.FieldType.boolean), 3, 65)
def mi_144 : am_MI := (⟨"OverAndBackModel", "isSpan", "()Z"⟩, prog_14_method_18_code, 1, (Option.some Jvm.ClassFile.FieldType.boolean), 2, 45)
def mi_145 : am_MI := (⟨"OverAndBackModel", "put", "([II[II)V"⟩, prog_14_method_17_code, 5, none, 0, 0)
def mi_146 : am_MI := (⟨"OverAndBackModel", "readBreak", "()Z"⟩, prog_14_method_23_code, 1, (Option.some Jvm.ClassFile.FieldType.boolean), 3, 65)
def mi_147 : am_MI := (⟨"OverAndBackModel", "readChance", "()Z"⟩, prog_14_method_24_code, 1, (Option.some Jvm.ClassFile.FieldType.boolean), 3, 65)
def mi_148 : am_MI := (⟨"OverAndBackModel", "readGoes", "()Z"⟩, prog_14_method_20_code, 1, (Option.some Jvm.ClassFile.FieldType.boolean), 3, 64)
def mi_149 : am_MI := (⟨"OverAndBackModel", "readRuleOf", "()Z"⟩, prog_14_method_25_code, 1, (Option.some Jvm.ClassFile.FieldType.boolean), 3, 64)
def mi_150 : am_MI := (⟨"OverAndBackModel", "readWatcherOf", "()Z"⟩, prog_14_method_26_code, 1, (Option.some Jvm.ClassFile.FieldType.boolean), 3, 64)
def mi_151 : am_MI := (⟨"OverAndBackModel", "lay", "()I"⟩, prog_14_method_29_code, 1, (Option.some Jvm.ClassFile.FieldType.int), 6, 127)
def mi_152 : am_MI := (⟨"OverAndBackModel", "minute", "(III)I"⟩, prog_14_method_36_code, 5, (Option.some Jvm.ClassFile.FieldType.int), 2, 47)
def mi_153 : am_MI := (⟨"OverAndBackModel", "isStation", "(I)Z"⟩, prog_14_method_7_code, 2, (Option.some Jvm.ClassFile.FieldType.boolean), 1, 22)
def mi_154 : am_MI := (⟨"OverAndBackModel", "isMinute", "(I)Z"⟩, prog_14_method_8_code, 2, (Option.some Jvm.ClassFile.FieldType.boolean), 1, 22)
def mi_155 : am_MI := (⟨"OverAndBackModel", "layCase", "(II)V"⟩, prog_14_method_33_code, 4, none, 1, 24)
def mi_156 : am_MI := (⟨"OverAndBackModel", "laySpots", "(I)V"⟩, prog_14_method_31_code, 5, none, 0, 0)
def mi_157 : am_MI := (⟨"OverAndBackModel", "breaks", "([II)V"⟩, prog_14_method_30_code, 4, none, 0, 0)
def mi_158 : am_MI := (⟨"OverAndBackModel", "has", "(II)Z"⟩, prog_14_method_5_code, 2, (Option.some Jvm.ClassFile.FieldType.boolean), 0, 0)
def mi_159 : am_MI := (⟨"OverAndBackModel", "layBreaks", "()V"⟩, prog_14_method_32_code, 2, none, 0, 0)
def mi_160 : am_MI := (⟨"OverAndBackModel", "known", "(I)I"⟩, prog_14_method_37_code, 2, (Option.some Jvm.ClassFile.FieldType.int), 2, 46)
def mi_161 : am_MI := (⟨"OverAndBackModel", "isSet", "(I)Z"⟩, prog_14_method_10_code, 1, (Option.some Jvm.ClassFile.FieldType.boolean), 1, 22)
def mi_162 : am_MI := (⟨"OverAndBackModel", "closed", "(I)I"⟩, prog_14_method_35_code, 6, (Option.some Jvm.ClassFile.FieldType.int), 1, 21)
def mi_163 : am_MI := (⟨"OverAndBackModel", "watcher", "(II)I"⟩, prog_14_method_45_code, 3, (Option.some Jvm.ClassFile.FieldType.int), 4, 96)
def mi_164 : am_MI := (⟨"OverAndBackModel", "isWatcher", "(I)Z"⟩, prog_14_method_9_code, 2, (Option.some Jvm.ClassFile.FieldType.boolean), 1, 22)
def mi_165 : am_MI := (⟨"OverAndBackModel", "watchesOf", "(I)V"⟩, prog_14_method_44_code, 2, none, 3, 75)
def mi_166 : am_MI := (⟨"OverAndBackModel", "watches", "(II)V"⟩, prog_14_method_43_code, 7, none, 2, 49)
def mi_167 : am_MI := (⟨"OverAndBackModel", "begins", "()V"⟩, prog_14_method_38_code, 1, none, 0, 0)
def mi_168 : am_MI := (⟨"OverAndBackModel", "wants", "(IIII)I"⟩, prog_14_method_42_code, 5, (Option.some Jvm.ClassFile.FieldType.int), 1, 25)
def mi_169 : am_MI := (⟨"OverAndBackModel", "wantsOver", "(II)I"⟩, prog_14_method_40_code, 5, (Option.some Jvm.ClassFile.FieldType.int), 0, 0)
def mi_170 : am_MI := (⟨"OverAndBackModel", "wantsBest", "(II)I"⟩, prog_14_method_41_code, 6, (Option.some Jvm.ClassFile.FieldType.int), 0, 0)
def mi_171 : am_MI := (⟨"OverAndBackModel", "sees", "(II)V"⟩, prog_14_method_39_code, 3, none, 0, 0)
def mi_172 : am_MI := (⟨"OverAndBackModel", "layMost", "()V"⟩, prog_14_method_58_code, 5, none, 2, 46)
def mi_173 : am_MI := (⟨"OverAndBackModel", "bestGoing", "(II)I"⟩, prog_14_method_57_code, 5, (Option.some Jvm.ClassFile.FieldType.int), 1, 22)
def mi_174 : am_MI := (⟨"OverAndBackModel", "byGoing", "(II)I"⟩, prog_14_method_56_code, 3, (Option.some Jvm.ClassFile.FieldType.int), 0, 0)
def mi_175 : am_MI := (⟨"OverAndBackModel", "where", "(II)I"⟩, prog_14_method_46_code, 3, (Option.some Jvm.ClassFile.FieldType.int), 4, 96)
def mi_176 : am_MI := (⟨"OverAndBackModel", "begin", "(I)I"⟩, prog_14_method_48_code, 3, (Option.some Jvm.ClassFile.FieldType.int), 2, 43)
def mi_177 : am_MI := (⟨"OverAndBackModel", "remembers", "(I)V"⟩, prog_14_method_47_code, 3, none, 0, 0)
def mi_178 : am_MI := (⟨"OverAndBackModel", "over", "(II)I"⟩, prog_14_method_49_code, 3, (Option.some Jvm.ClassFile.FieldType.int), 2, 43)
def mi_179 : am_MI := (⟨"OverAndBackModel", "undo", "()I"⟩, prog_14_method_50_code, 1, (Option.some Jvm.ClassFile.FieldType.int), 0, 0)
def mi_180 : am_MI := (⟨"OverAndBackModel", "judge", "()I"⟩, prog_14_method_53_code, 1, (Option.some Jvm.ClassFile.FieldType.int), 1, 25)
def mi_181 : am_MI := (⟨"OverAndBackModel", "layPlan", "()V"⟩, prog_14_method_51_code, 6, none, 0, 0)
def mi_182 : am_MI := (⟨"OverAndBackModel", "plan", "(I)I"⟩, prog_14_method_54_code, 2, (Option.some Jvm.ClassFile.FieldType.int), 2, 48)
def mi_183 : am_MI := (⟨"OverAndBackModel", "plans", "()V"⟩, prog_14_method_52_code, 4, none, 1, 25)
def mi_184 : am_MI := (⟨"OverAndBackModel", "at", "(I)I"⟩, prog_14_method_55_code, 2, (Option.some Jvm.ClassFile.FieldType.int), 2, 48)
def mi_185 : am_MI := (⟨"OverAndBackModel", "most", "(III)I"⟩, prog_14_method_59_code, 9, (Option.some Jvm.ClassFile.FieldType.int), 3, 70)
def mi_186 : am_MI := (⟨"OverAndBackModel", "understand", "(III)I"⟩, prog_14_method_64_code, 4, (Option.some Jvm.ClassFile.FieldType.int), 3, 68)
def mi_187 : am_MI := (⟨"OverAndBackModel", "layFew", "(I)V"⟩, prog_14_method_62_code, 8, none, 1, 25)
def mi_188 : am_MI := (⟨"OverAndBackModel", "plus", "(II)I"⟩, prog_14_method_61_code, 2, (Option.some Jvm.ClassFile.FieldType.int), 0, 0)
def mi_189 : am_MI := (⟨"OverAndBackModel", "comes", "(IIII)V"⟩, prog_14_method_60_code, 6, none, 0, 0)
def mi_190 : am_MI := (⟨"OverAndBackModel", "findFew", "(I)V"⟩, prog_14_method_63_code, 3, none, 2, 46)
def mi_191 : am_MI := (⟨"OverAndBackModel", "soonest", "(II)I"⟩, prog_14_method_65_code, 3, (Option.some Jvm.ClassFile.FieldType.int), 3, 68)
def mi_192 : am_MI := (⟨"OverAndBackModel", "ask", "(II)I"⟩, prog_14_method_66_code, 7, (Option.some Jvm.ClassFile.FieldType.int), 2, 46)
def mi_193 : am_MI := (⟨"OverAndBackModel", "bits", "(I)I"⟩, prog_14_method_6_code, 3, (Option.some Jvm.ClassFile.FieldType.int), 0, 0)
def mi_194 : am_MI := (⟨"OverAndBackModel", "fair", "(II)I"⟩, prog_14_method_71_code, 8, (Option.some Jvm.ClassFile.FieldType.int), 3, 68)
def mi_195 : am_MI := (⟨"OverAndBackModel", "turns", "()I"⟩, prog_14_method_67_code, 1, (Option.some Jvm.ClassFile.FieldType.int), 0, 0)
def mi_196 : am_MI := (⟨"OverAndBackModel", "holds", "(I)V"⟩, prog_14_method_69_code, 4, none, 2, 45)
def mi_197 : am_MI := (⟨"OverAndBackModel", "shows", "()V"⟩, prog_14_method_68_code, 6, none, 1, 20)
def mi_198 : am_MI := (⟨"OverAndBackModel", "leastOf", "()I"⟩, prog_14_method_70_code, 4, (Option.some Jvm.ClassFile.FieldType.int), 0, 0)
def mi_199 : am_MI := (⟨"OverAndBackModel", "mean", "(II)I"⟩, prog_14_method_74_code, 8, (Option.some Jvm.ClassFile.FieldType.int), 5, 117)
def mi_200 : am_MI := (⟨"OverAndBackModel", "goesOn", "(I)V"⟩, prog_14_method_73_code, 2, none, 4, 96)
def mi_201 : am_MI := (⟨"OverAndBackModel", "weight", "(I)I"⟩, prog_14_method_72_code, 4, (Option.some Jvm.ClassFile.FieldType.int), 1, 21)
def mi_202 : am_MI := (⟨"OverAndBackModel", "sure", "(I)I"⟩, prog_14_method_75_code, 4, (Option.some Jvm.ClassFile.FieldType.int), 5, 117)
def mi_203 : am_MI := (⟨"OverAndBackModel", "fits", "(I)I"⟩, prog_14_method_76_code, 5, (Option.some Jvm.ClassFile.FieldType.int), 3, 75)
def mi_204 : am_MI := (⟨"OverAndBackModel", "matters", "(I)I"⟩, prog_14_method_77_code, 6, (Option.some Jvm.ClassFile.FieldType.int), 4, 96)
def mi_205 : am_MI := (⟨"OverAndBackModel", "night", "(III)I"⟩, prog_14_method_78_code, 4, (Option.some Jvm.ClassFile.FieldType.int), 4, 96)
def mi_206 : am_MI := (⟨"OverAndBackModel", "layNight", "(I)V"⟩, prog_14_method_34_code, 6, none, 1, 24)
def mi_207 : am_MI := (⟨"OverAndBackModel", "keep", "()I"⟩, prog_14_method_79_code, 2, (Option.some Jvm.ClassFile.FieldType.int), 0, 0)
def mi_208 : am_MI := (⟨"OverAndBackModel", "back", "()I"⟩, prog_14_method_80_code, 2, (Option.some Jvm.ClassFile.FieldType.int), 0, 0)
def mi_209 : am_MI := (⟨"OverAndBackModel", "count", "(I)I"⟩, prog_14_method_81_code, 2, (Option.some Jvm.ClassFile.FieldType.int), 0, 0)
def am_mis : List am_MI := [mi_0, mi_1, mi_2, mi_3, mi_4, mi_5, mi_6, mi_7, mi_8, mi_9, mi_10, mi_11, mi_12, mi_13, mi_14, mi_15, mi_15, mi_17, mi_18, mi_19, mi_20, mi_15, mi_22, mi_23, mi_24, mi_25, mi_26, mi_27, mi_28, mi_29, mi_30, mi_31, mi_32, mi_33, mi_34, mi_35, mi_36, mi_37, mi_38, mi_39, mi_40, mi_41, mi_42, mi_43, mi_44, mi_45, mi_46, mi_47, mi_48, mi_49, mi_50, mi_51, mi_52, mi_53, mi_54, mi_55, mi_56, mi_57, mi_58, mi_59, mi_60, mi_61, mi_62, mi_63, mi_64, mi_65, mi_66, mi_67, mi_68, mi_69, mi_70, mi_71, mi_72, mi_73, mi_74, mi_75, mi_76, mi_77, mi_78, mi_79, mi_80, mi_81, mi_82, mi_83, mi_84, mi_85, mi_86, mi_87, mi_88, mi_89, mi_90, mi_91, mi_92, mi_93, mi_94, mi_95, mi_96, mi_97, mi_98, mi_99, mi_100, mi_101, mi_102, mi_103, mi_104, mi_105, mi_106, mi_107, mi_108, mi_109, mi_110, mi_111, mi_112, mi_113, mi_114, mi_115, mi_116, mi_117, mi_118, mi_119, mi_120, mi_121, mi_122, mi_123, mi_124, mi_125, mi_126, mi_127, mi_128, mi_129, mi_130, mi_131, mi_132, mi_133, mi_134, mi_135, mi_136, mi_137, mi_138, mi_139, mi_140, mi_141, mi_142, mi_143, mi_144, mi_145, mi_146, mi_147, mi_148, mi_149, mi_150, mi_151, mi_152, mi_153, mi_154, mi_155, mi_156, mi_157, mi_158, mi_159, mi_160, mi_161, mi_162, mi_163, mi_164, mi_165, mi_166, mi_167, mi_168, mi_169, mi_170, mi_171, mi_172, mi_173, mi_174, mi_175, mi_176, mi_177, mi_178, mi_179, mi_180, mi_181, mi_182, mi_183, mi_184, mi_185, mi_186, mi_187, mi_188, mi_189, mi_190, mi_191, mi_192, mi_193, mi_194, mi_195, mi_196, mi_197, mi_198, mi_199, mi_200, mi_201, mi_202, mi_203, mi_204, mi_205, mi_206, mi_207, mi_208, mi_209]
def am_mi (j : Nat) : am_MI := (am_mis[j]?).getD mi_0
theorem w_1 : (Jvm.Cond.initialized "OverAndBack") ∈ am_tbl := am_tbl_t (List.mem_append_left _ (List.mem_of_getElem? (l := tables_1_1) (i := 1) rfl)) rfl
theorem w_2 : (Jvm.Cond.initialized "OverAndBack$Reader") ∈ am_tbl := am_tbl_t (List.mem_append_left _ (List.mem_of_getElem? (l := tables_1_1) (i := 2) rfl)) rfl
theorem w_3 : (Jvm.Cond.initialized "OverAndBack$Evening") ∈ am_tbl := am_tbl_t (List.mem_append_left _ (List.mem_of_getElem? (l := tables_1_1) (i := 3) rfl)) rfl
theorem w_4 : (Jvm.Cond.initialized "OverAndBack$Rows") ∈ am_tbl := am_tbl_t (List.mem_append_left _ (List.mem_of_getElem? (l := tables_1_1) (i := 4) rfl)) rfl
theorem w_5 : (Jvm.Cond.initialized "OverAndBack$Facts") ∈ am_tbl := am_tbl_t (List.mem_append_left _ (List.mem_of_getElem? (l := tables_1_1) (i := 5) rfl)) rfl
theorem w_6 : (Jvm.Cond.initialized "OverAndBack$Screen") ∈ am_tbl := am_tbl_t (List.mem_append_left _ (List.mem_of_getElem? (l := tables_1_1) (i := 6) rfl)) rfl
theorem w_7 : (Jvm.Cond.initialized "OverAndBack$Walk") ∈ am_tbl := am_tbl_t (List.mem_append_left _ (List.mem_of_getElem? (l := tables_1_1) (i := 7) rfl)) rfl
theorem w_8 : (Jvm.Cond.initialized "OverAndBack$Routes") ∈ am_tbl := am_tbl_t (List.mem_append_left _ (List.mem_of_getElem? (l := tables_1_1) (i := 8) rfl)) rfl
theorem w_9 : (Jvm.Cond.initialized "OverAndBack$Learning") ∈ am_tbl := am_tbl_t (List.mem_append_left _ (List.mem_of_getElem? (l := tables_1_1) (i := 9) rfl)) rfl
theorem w_10 : (Jvm.Cond.initialized "java/util/Arrays") ∈ am_tbl := am_tbl_t (List.mem_append_left _ (List.mem_of_getElem? (l := tables_1_1) (i := 10) rfl)) rfl
theorem w_11 : (Jvm.Cond.initialized "OverAndBack$Box") ∈ am_tbl := am_tbl_t (List.mem_append_left _ (List.mem_of_getElem? (l := tables_1_1) (i := 11) rfl)) rfl
theorem w_12 : (Jvm.Cond.initialized "OverAndBack$Plan") ∈ am_tbl := am_tbl_t (List.mem_append_left _ (List.mem_of_getElem? (l := tables_1_1) (i := 12) rfl)) rfl
theorem w_13 : (Jvm.Cond.initialized "OverAndBack$Past") ∈ am_tbl := am_tbl_t (List.mem_append_left _ (List.mem_of_getElem? (l := tables_1_1) (i := 13) rfl)) rfl
theorem w_18 : (Jvm.Cond.initialized "java/lang/Math") ∈ am_tbl := am_tbl_t (List.mem_append_left _ (List.mem_of_getElem? (l := tables_1_1) (i := 18) rfl)) rfl
theorem w_19 : (Jvm.Cond.initialized "java/lang/System") ∈ am_tbl := am_tbl_t (List.mem_append_left _ (List.mem_of_getElem? (l := tables_1_1) (i := 19) rfl)) rfl
theorem w_20 : (Jvm.Cond.initialized "OverAndBackModel") ∈ am_tbl := am_tbl_t (List.mem_append_left _ (List.mem_of_getElem? (l := tables_1_1) (i := 20) rfl)) rfl
theorem w_21 : (Jvm.Cond.initialized "java/lang/Integer") ∈ am_tbl := am_tbl_t (List.mem_append_left _ (List.mem_of_getElem? (l := tables_1_1) (i := 21) rfl)) rfl
theorem w_25 : (Jvm.Cond.instanceMethod ({ cls := "OverAndBack", name := "<init>", desc := "()V" } : Jvm.MethodName)) ∈ am_tbl := am_tbl_t (List.mem_append_left _ (List.mem_of_getElem? (l := tables_1_1) (i := 25) rfl)) rfl
theorem w_26 : (Jvm.Cond.code ({ cls := "OverAndBack", name := "<init>", desc := "()V" } : Jvm.MethodName) prog_1_method_1_code (2 : Nat) (Option.none : Option Jvm.ClassFile.FieldType)) ∈ am_tbl := am_tbl_t (List.mem_append_left _ (List.mem_of_getElem? (l := tables_1_1) (i := 26) rfl)) rfl
theorem w_27 : (Jvm.Cond.methodLink "OverAndBack" (1 : Nat) ({ cls := "java/lang/Object", name := "<init>", desc := "()V" } : Jvm.MethodName)) ∈ am_tbl := am_tbl_t (List.mem_append_left _ (List.mem_of_getElem? (l := tables_1_1) (i := 27) rfl)) rfl
theorem w_28 : (Jvm.Cond.instanceMethod ({ cls := "java/lang/Object", name := "<init>", desc := "()V" } : Jvm.MethodName)) ∈ am_tbl := am_tbl_t (List.mem_append_left _ (List.mem_of_getElem? (l := tables_1_1) (i := 28) rfl)) rfl
theorem w_29 : (Jvm.Cond.code ({ cls := "java/lang/Object", name := "<init>", desc := "()V" } : Jvm.MethodName) object_method_1_code (1 : Nat) (Option.none : Option Jvm.ClassFile.FieldType)) ∈ am_tbl := am_tbl_t (List.mem_append_left _ (List.mem_of_getElem? (l := tables_1_1) (i := 29) rfl)) rfl
theorem w_30 : (Jvm.Cond.classLink "OverAndBack" (17 : Nat) "OverAndBack$Reader") ∈ am_tbl := am_tbl_t (List.mem_append_left _ (List.mem_of_getElem? (l := tables_1_1) (i := 30) rfl)) rfl
theorem w_31 : (Jvm.Cond.instantiable "OverAndBack$Reader" (2 : Nat)) ∈ am_tbl := am_tbl_t (List.mem_append_left _ (List.mem_of_getElem? (l := tables_1_1) (i := 31) rfl)) rfl
theorem w_32 : (Jvm.Cond.methodLinkNest "OverAndBack" (19 : Nat) ({ cls := "OverAndBack$Reader", name := "<init>", desc := "()V" } : Jvm.MethodName) "OverAndBack") ∈ am_nest := am_nest_t (List.mem_append_left _ (List.mem_of_getElem? (l := tables_1_1) (i := 32) rfl)) rfl
theorem w_33 : (Jvm.Cond.instanceMethod ({ cls := "OverAndBack$Reader", name := "<init>", desc := "()V" } : Jvm.MethodName)) ∈ am_tbl := am_tbl_t (List.mem_append_left _ (List.mem_of_getElem? (l := tables_1_1) (i := 33) rfl)) rfl
theorem w_34 : (Jvm.Cond.code ({ cls := "OverAndBack$Reader", name := "<init>", desc := "()V" } : Jvm.MethodName) prog_8_method_1_code (1 : Nat) (Option.none : Option Jvm.ClassFile.FieldType)) ∈ am_tbl := am_tbl_t (List.mem_append_left _ (List.mem_of_getElem? (l := tables_1_1) (i := 34) rfl)) rfl
theorem w_35 : (Jvm.Cond.methodLink "OverAndBack$Reader" (3 : Nat) ({ cls := "java/lang/Object", name := "<init>", desc := "()V" } : Jvm.MethodName)) ∈ am_tbl := am_tbl_t (List.mem_append_left _ (List.mem_of_getElem? (l := tables_1_1) (i := 35) rfl)) rfl
theorem w_36 : (Jvm.Cond.fieldLink "OverAndBack$Reader" (9 : Nat) "OverAndBack$Reader" "number" "[I") ∈ am_tbl := am_tbl_t (List.mem_append_left _ (List.mem_of_getElem? (l := tables_1_1) (i := 36) rfl)) rfl
theorem w_37 : (Jvm.Cond.fieldLink "OverAndBack$Reader" (15 : Nat) "OverAndBack$Reader" "numbers" "I") ∈ am_tbl := am_tbl_t (List.mem_append_left _ (List.mem_of_getElem? (l := tables_1_1) (i := 37) rfl)) rfl
theorem w_43 : (Jvm.Cond.arrayClass Jvm.ClassFile.FieldType.char) ∈ am_tbl := am_tbl_t (List.mem_append_left _ (List.mem_of_getElem? (l := tables_1_1) (i := 43) rfl)) rfl
theorem w_44 : (Jvm.Cond.arrayClass Jvm.ClassFile.FieldType.int) ∈ am_tbl := am_tbl_t (List.mem_append_left _ (List.mem_of_getElem? (l := tables_1_1) (i := 44) rfl)) rfl
theorem w_45 : (Jvm.Cond.classLink "OverAndBack" (24 : Nat) "OverAndBack$Evening") ∈ am_tbl := am_tbl_t (List.mem_append_left _ (List.mem_of_getElem? (l := tables_1_1) (i := 45) rfl)) rfl
theorem w_46 : (Jvm.Cond.instantiable "OverAndBack$Evening" (8 : Nat)) ∈ am_tbl := am_tbl_t (List.mem_append_left _ (List.mem_of_getElem? (l := tables_1_1) (i := 46) rfl)) rfl
theorem w_47 : (Jvm.Cond.methodLinkNest "OverAndBack" (26 : Nat) ({ cls := "OverAndBack$Evening", name := "<init>", desc := "()V" } : Jvm.MethodName) "OverAndBack") ∈ am_nest := am_nest_t (List.mem_append_left _ (List.mem_of_getElem? (l := tables_1_1) (i := 47) rfl)) rfl
theorem w_48 : (Jvm.Cond.instanceMethod ({ cls := "OverAndBack$Evening", name := "<init>", desc := "()V" } : Jvm.MethodName)) ∈ am_tbl := am_tbl_t (List.mem_append_left _ (List.mem_of_getElem? (l := tables_1_1) (i := 48) rfl)) rfl
theorem w_49 : (Jvm.Cond.code ({ cls := "OverAndBack$Evening", name := "<init>", desc := "()V" } : Jvm.MethodName) prog_3_method_1_code (1 : Nat) (Option.none : Option Jvm.ClassFile.FieldType)) ∈ am_tbl := am_tbl_t (List.mem_append_left _ (List.mem_of_getElem? (l := tables_1_1) (i := 49) rfl)) rfl
theorem w_50 : (Jvm.Cond.methodLink "OverAndBack$Evening" (3 : Nat) ({ cls := "java/lang/Object", name := "<init>", desc := "()V" } : Jvm.MethodName)) ∈ am_tbl := am_tbl_t (List.mem_append_left _ (List.mem_of_getElem? (l := tables_1_1) (i := 50) rfl)) rfl
theorem w_51 : (Jvm.Cond.classLink "OverAndBack$Evening" (9 : Nat) "OverAndBack$Rows") ∈ am_tbl := am_tbl_t (List.mem_append_left _ (List.mem_of_getElem? (l := tables_1_1) (i := 51) rfl)) rfl
theorem w_52 : (Jvm.Cond.instantiable "OverAndBack$Rows" (4 : Nat)) ∈ am_tbl := am_tbl_t (List.mem_append_left _ (List.mem_of_getElem? (l := tables_1_1) (i := 52) rfl)) rfl
theorem w_53 : (Jvm.Cond.methodLink "OverAndBack$Evening" (11 : Nat) ({ cls := "OverAndBack$Rows", name := "<init>", desc := "(II)V" } : Jvm.MethodName)) ∈ am_tbl := am_tbl_t (List.mem_append_left _ (List.mem_of_getElem? (l := tables_1_1) (i := 53) rfl)) rfl
theorem w_54 : (Jvm.Cond.instanceMethod ({ cls := "OverAndBack$Rows", name := "<init>", desc := "(II)V" } : Jvm.MethodName)) ∈ am_tbl := am_tbl_t (List.mem_append_left _ (List.mem_of_getElem? (l := tables_1_1) (i := 54) rfl)) rfl
theorem w_55 : (Jvm.Cond.code ({ cls := "OverAndBack$Rows", name := "<init>", desc := "(II)V" } : Jvm.MethodName) prog_10_method_1_code (3 : Nat) (Option.none : Option Jvm.ClassFile.FieldType)) ∈ am_tbl := am_tbl_t (List.mem_append_left _ (List.mem_of_getElem? (l := tables_1_1) (i := 55) rfl)) rfl
theorem w_56 : (Jvm.Cond.methodLink "OverAndBack$Rows" (3 : Nat) ({ cls := "java/lang/Object", name := "<init>", desc := "()V" } : Jvm.MethodName)) ∈ am_tbl := am_tbl_t (List.mem_append_left _ (List.mem_of_getElem? (l := tables_1_1) (i := 56) rfl)) rfl
theorem w_57 : (Jvm.Cond.fieldLink "OverAndBack$Rows" (9 : Nat) "OverAndBack$Rows" "cells" "[I") ∈ am_tbl := am_tbl_t (List.mem_append_left _ (List.mem_of_getElem? (l := tables_1_1) (i := 57) rfl)) rfl
theorem w_58 : (Jvm.Cond.fieldLink "OverAndBack$Rows" (19 : Nat) "OverAndBack$Rows" "width" "I") ∈ am_tbl := am_tbl_t (List.mem_append_left _ (List.mem_of_getElem? (l := tables_1_1) (i := 58) rfl)) rfl
theorem w_59 : (Jvm.Cond.fieldLink "OverAndBack$Rows" (22 : Nat) "OverAndBack$Rows" "limit" "I") ∈ am_tbl := am_tbl_t (List.mem_append_left _ (List.mem_of_getElem? (l := tables_1_1) (i := 59) rfl)) rfl
theorem w_60 : (Jvm.Cond.fieldLink "OverAndBack$Rows" (15 : Nat) "OverAndBack$Rows" "size" "I") ∈ am_tbl := am_tbl_t (List.mem_append_left _ (List.mem_of_getElem? (l := tables_1_1) (i := 60) rfl)) rfl
theorem w_61 : (Jvm.Cond.fieldLinkNest "OverAndBack$Learning" (59 : Nat) "OverAndBack$Rows" "size" "I" "OverAndBack") ∈ am_nest := am_nest_t (List.mem_append_left _ (List.mem_of_getElem? (l := tables_1_1) (i := 61) rfl)) rfl
theorem w_62 : (Jvm.Cond.fieldLinkNest "OverAndBack$Walk" (44 : Nat) "OverAndBack$Rows" "size" "I" "OverAndBack") ∈ am_nest := am_nest_t (List.mem_append_left _ (List.mem_of_getElem? (l := tables_1_1) (i := 62) rfl)) rfl
theorem w_63 : (Jvm.Cond.fieldLinkNest "OverAndBack$Screen" (41 : Nat) "OverAndBack$Rows" "size" "I" "OverAndBack") ∈ am_nest := am_nest_t (List.mem_append_left _ (List.mem_of_getElem? (l := tables_1_1) (i := 63) rfl)) rfl
theorem w_64 : (Jvm.Cond.fieldLinkNest "OverAndBack$Routes" (38 : Nat) "OverAndBack$Rows" "size" "I" "OverAndBack") ∈ am_nest := am_nest_t (List.mem_append_left _ (List.mem_of_getElem? (l := tables_1_1) (i := 64) rfl)) rfl
theorem w_65 : (Jvm.Cond.fieldLinkNest "OverAndBack$Box" (70 : Nat) "OverAndBack$Rows" "size" "I" "OverAndBack") ∈ am_nest := am_nest_t (List.mem_append_left _ (List.mem_of_getElem? (l := tables_1_1) (i := 65) rfl)) rfl
theorem w_66 : (Jvm.Cond.fieldLinkNest "OverAndBack$Facts" (25 : Nat) "OverAndBack$Rows" "size" "I" "OverAndBack") ∈ am_nest := am_nest_t (List.mem_append_left _ (List.mem_of_getElem? (l := tables_1_1) (i := 66) rfl)) rfl
theorem w_67 : (Jvm.Cond.fieldLinkNest "OverAndBack" (123 : Nat) "OverAndBack$Rows" "size" "I" "OverAndBack") ∈ am_nest := am_nest_t (List.mem_append_left _ (List.mem_of_getElem? (l := tables_1_1) (i := 67) rfl)) rfl
theorem w_68 : (Jvm.Cond.fieldLinkNest "OverAndBack$Evening" (51 : Nat) "OverAndBack$Rows" "size" "I" "OverAndBack") ∈ am_nest := am_nest_t (List.mem_append_left _ (List.mem_of_getElem? (l := tables_1_1) (i := 68) rfl)) rfl
theorem w_69 : (Jvm.Cond.fieldLinkNest "OverAndBack$Reader" (87 : Nat) "OverAndBack$Rows" "size" "I" "OverAndBack") ∈ am_nest := am_nest_t (List.mem_append_left _ (List.mem_of_getElem? (l := tables_1_1) (i := 69) rfl)) rfl
theorem w_79 : (Jvm.Cond.fieldLink "OverAndBack$Evening" (14 : Nat) "OverAndBack$Evening" "stations" "LOverAndBack$Rows;") ∈ am_tbl := am_tbl_t (List.mem_append_left _ (List.mem_of_getElem? (l := tables_1_1) (i := 79) rfl)) rfl
theorem w_80 : (Jvm.Cond.fieldLinkNest "OverAndBack$Screen" (21 : Nat) "OverAndBack$Evening" "stations" "LOverAndBack$Rows;" "OverAndBack") ∈ am_nest := am_nest_t (List.mem_append_left _ (List.mem_of_getElem? (l := tables_1_1) (i := 80) rfl)) rfl
theorem w_81 : (Jvm.Cond.fieldLinkNest "OverAndBack$Learning" (54 : Nat) "OverAndBack$Evening" "stations" "LOverAndBack$Rows;" "OverAndBack") ∈ am_nest := am_nest_t (List.mem_append_left _ (List.mem_of_getElem? (l := tables_1_1) (i := 81) rfl)) rfl
theorem w_82 : (Jvm.Cond.fieldLinkNest "OverAndBack$Walk" (38 : Nat) "OverAndBack$Evening" "stations" "LOverAndBack$Rows;" "OverAndBack") ∈ am_nest := am_nest_t (List.mem_append_left _ (List.mem_of_getElem? (l := tables_1_1) (i := 82) rfl)) rfl
theorem w_83 : (Jvm.Cond.fieldLinkNest "OverAndBack$Routes" (34 : Nat) "OverAndBack$Evening" "stations" "LOverAndBack$Rows;" "OverAndBack") ∈ am_nest := am_nest_t (List.mem_append_left _ (List.mem_of_getElem? (l := tables_1_1) (i := 83) rfl)) rfl
theorem w_84 : (Jvm.Cond.fieldLinkNest "OverAndBack" (119 : Nat) "OverAndBack$Evening" "stations" "LOverAndBack$Rows;" "OverAndBack") ∈ am_nest := am_nest_t (List.mem_append_left _ (List.mem_of_getElem? (l := tables_1_1) (i := 84) rfl)) rfl
theorem w_85 : (Jvm.Cond.fieldLinkNest "OverAndBack$Reader" (62 : Nat) "OverAndBack$Evening" "stations" "LOverAndBack$Rows;" "OverAndBack") ∈ am_nest := am_nest_t (List.mem_append_left _ (List.mem_of_getElem? (l := tables_1_1) (i := 85) rfl)) rfl
theorem w_86 : (Jvm.Cond.fieldLink "OverAndBack$Evening" (20 : Nat) "OverAndBack$Evening" "scenes" "LOverAndBack$Rows;") ∈ am_tbl := am_tbl_t (List.mem_append_left _ (List.mem_of_getElem? (l := tables_1_1) (i := 86) rfl)) rfl
theorem w_87 : (Jvm.Cond.fieldLinkNest "OverAndBack$Screen" (31 : Nat) "OverAndBack$Evening" "scenes" "LOverAndBack$Rows;" "OverAndBack") ∈ am_nest := am_nest_t (List.mem_append_left _ (List.mem_of_getElem? (l := tables_1_1) (i := 87) rfl)) rfl
theorem w_88 : (Jvm.Cond.fieldLinkNest "OverAndBack$Reader" (75 : Nat) "OverAndBack$Evening" "scenes" "LOverAndBack$Rows;" "OverAndBack") ∈ am_nest := am_nest_t (List.mem_append_left _ (List.mem_of_getElem? (l := tables_1_1) (i := 88) rfl)) rfl
theorem w_89 : (Jvm.Cond.fieldLinkNest "OverAndBack" (270 : Nat) "OverAndBack$Evening" "scenes" "LOverAndBack$Rows;" "OverAndBack") ∈ am_nest := am_nest_t (List.mem_append_left _ (List.mem_of_getElem? (l := tables_1_1) (i := 89) rfl)) rfl
theorem w_90 : (Jvm.Cond.fieldLink "OverAndBack$Evening" (23 : Nat) "OverAndBack$Evening" "breaks" "LOverAndBack$Rows;") ∈ am_tbl := am_tbl_t (List.mem_append_left _ (List.mem_of_getElem? (l := tables_1_1) (i := 90) rfl)) rfl
theorem w_91 : (Jvm.Cond.fieldLinkNest "OverAndBack$Screen" (38 : Nat) "OverAndBack$Evening" "breaks" "LOverAndBack$Rows;" "OverAndBack") ∈ am_nest := am_nest_t (List.mem_append_left _ (List.mem_of_getElem? (l := tables_1_1) (i := 91) rfl)) rfl
theorem w_92 : (Jvm.Cond.fieldLinkNest "OverAndBack$Reader" (78 : Nat) "OverAndBack$Evening" "breaks" "LOverAndBack$Rows;" "OverAndBack") ∈ am_nest := am_nest_t (List.mem_append_left _ (List.mem_of_getElem? (l := tables_1_1) (i := 92) rfl)) rfl
theorem w_93 : (Jvm.Cond.fieldLinkNest "OverAndBack" (291 : Nat) "OverAndBack$Evening" "breaks" "LOverAndBack$Rows;" "OverAndBack") ∈ am_nest := am_nest_t (List.mem_append_left _ (List.mem_of_getElem? (l := tables_1_1) (i := 93) rfl)) rfl
theorem w_94 : (Jvm.Cond.fieldLink "OverAndBack$Evening" (26 : Nat) "OverAndBack$Evening" "chances" "LOverAndBack$Rows;") ∈ am_tbl := am_tbl_t (List.mem_append_left _ (List.mem_of_getElem? (l := tables_1_1) (i := 94) rfl)) rfl
theorem w_95 : (Jvm.Cond.fieldLinkNest "OverAndBack$Screen" (50 : Nat) "OverAndBack$Evening" "chances" "LOverAndBack$Rows;" "OverAndBack") ∈ am_nest := am_nest_t (List.mem_append_left _ (List.mem_of_getElem? (l := tables_1_1) (i := 95) rfl)) rfl
theorem w_96 : (Jvm.Cond.fieldLinkNest "OverAndBack$Reader" (81 : Nat) "OverAndBack$Evening" "chances" "LOverAndBack$Rows;" "OverAndBack") ∈ am_nest := am_nest_t (List.mem_append_left _ (List.mem_of_getElem? (l := tables_1_1) (i := 96) rfl)) rfl
theorem w_97 : (Jvm.Cond.fieldLinkNest "OverAndBack" (255 : Nat) "OverAndBack$Evening" "chances" "LOverAndBack$Rows;" "OverAndBack") ∈ am_nest := am_nest_t (List.mem_append_left _ (List.mem_of_getElem? (l := tables_1_1) (i := 97) rfl)) rfl
theorem w_98 : (Jvm.Cond.fieldLink "OverAndBack$Evening" (29 : Nat) "OverAndBack$Evening" "rules" "LOverAndBack$Rows;") ∈ am_tbl := am_tbl_t (List.mem_append_left _ (List.mem_of_getElem? (l := tables_1_1) (i := 98) rfl)) rfl
theorem w_99 : (Jvm.Cond.fieldLinkNest "OverAndBack$Facts" (15 : Nat) "OverAndBack$Evening" "rules" "LOverAndBack$Rows;" "OverAndBack") ∈ am_nest := am_nest_t (List.mem_append_left _ (List.mem_of_getElem? (l := tables_1_1) (i := 99) rfl)) rfl
theorem w_100 : (Jvm.Cond.fieldLinkNest "OverAndBack$Reader" (84 : Nat) "OverAndBack$Evening" "rules" "LOverAndBack$Rows;" "OverAndBack") ∈ am_nest := am_nest_t (List.mem_append_left _ (List.mem_of_getElem? (l := tables_1_1) (i := 100) rfl)) rfl
theorem w_101 : (Jvm.Cond.fieldLink "OverAndBack$Evening" (32 : Nat) "OverAndBack$Evening" "watchers" "LOverAndBack$Rows;") ∈ am_tbl := am_tbl_t (List.mem_append_left _ (List.mem_of_getElem? (l := tables_1_1) (i := 101) rfl)) rfl
theorem w_102 : (Jvm.Cond.fieldLinkNest "OverAndBack$Box" (66 : Nat) "OverAndBack$Evening" "watchers" "LOverAndBack$Rows;" "OverAndBack") ∈ am_nest := am_nest_t (List.mem_append_left _ (List.mem_of_getElem? (l := tables_1_1) (i := 102) rfl)) rfl
theorem w_103 : (Jvm.Cond.fieldLinkNest "OverAndBack$Reader" (90 : Nat) "OverAndBack$Evening" "watchers" "LOverAndBack$Rows;" "OverAndBack") ∈ am_nest := am_nest_t (List.mem_append_left _ (List.mem_of_getElem? (l := tables_1_1) (i := 103) rfl)) rfl
theorem w_104 : (Jvm.Cond.fieldLinkNest "OverAndBack" (236 : Nat) "OverAndBack$Evening" "watchers" "LOverAndBack$Rows;" "OverAndBack") ∈ am_nest := am_nest_t (List.mem_append_left _ (List.mem_of_getElem? (l := tables_1_1) (i := 104) rfl)) rfl
theorem w_105 : (Jvm.Cond.fieldLink "OverAndBack$Evening" (35 : Nat) "OverAndBack$Evening" "minutes" "I") ∈ am_tbl := am_tbl_t (List.mem_append_left _ (List.mem_of_getElem? (l := tables_1_1) (i := 105) rfl)) rfl
theorem w_106 : (Jvm.Cond.fieldLinkNest "OverAndBack$Routes" (25 : Nat) "OverAndBack$Evening" "minutes" "I" "OverAndBack") ∈ am_nest := am_nest_t (List.mem_append_left _ (List.mem_of_getElem? (l := tables_1_1) (i := 106) rfl)) rfl
theorem w_107 : (Jvm.Cond.fieldLinkNest "OverAndBack$Walk" (49 : Nat) "OverAndBack$Evening" "minutes" "I" "OverAndBack") ∈ am_nest := am_nest_t (List.mem_append_left _ (List.mem_of_getElem? (l := tables_1_1) (i := 107) rfl)) rfl
theorem w_108 : (Jvm.Cond.fieldLinkNest "OverAndBack$Learning" (71 : Nat) "OverAndBack$Evening" "minutes" "I" "OverAndBack") ∈ am_nest := am_nest_t (List.mem_append_left _ (List.mem_of_getElem? (l := tables_1_1) (i := 108) rfl)) rfl
theorem w_109 : (Jvm.Cond.fieldLinkNest "OverAndBack$Screen" (53 : Nat) "OverAndBack$Evening" "minutes" "I" "OverAndBack") ∈ am_nest := am_nest_t (List.mem_append_left _ (List.mem_of_getElem? (l := tables_1_1) (i := 109) rfl)) rfl
theorem w_110 : (Jvm.Cond.fieldLinkNest "OverAndBack$Box" (79 : Nat) "OverAndBack$Evening" "minutes" "I" "OverAndBack") ∈ am_nest := am_nest_t (List.mem_append_left _ (List.mem_of_getElem? (l := tables_1_1) (i := 110) rfl)) rfl
theorem w_111 : (Jvm.Cond.fieldLinkNest "OverAndBack$Reader" (93 : Nat) "OverAndBack$Evening" "minutes" "I" "OverAndBack") ∈ am_nest := am_nest_t (List.mem_append_left _ (List.mem_of_getElem? (l := tables_1_1) (i := 111) rfl)) rfl
theorem w_112 : (Jvm.Cond.fieldLinkNest "OverAndBack" (288 : Nat) "OverAndBack$Evening" "minutes" "I" "OverAndBack") ∈ am_nest := am_nest_t (List.mem_append_left _ (List.mem_of_getElem? (l := tables_1_1) (i := 112) rfl)) rfl
theorem w_113 : (Jvm.Cond.fieldLink "OverAndBack$Evening" (39 : Nat) "OverAndBack$Evening" "going" "I") ∈ am_tbl := am_tbl_t (List.mem_append_left _ (List.mem_of_getElem? (l := tables_1_1) (i := 113) rfl)) rfl
theorem w_114 : (Jvm.Cond.fieldLinkNest "OverAndBack$Learning" (70 : Nat) "OverAndBack$Evening" "going" "I" "OverAndBack") ∈ am_nest := am_nest_t (List.mem_append_left _ (List.mem_of_getElem? (l := tables_1_1) (i := 114) rfl)) rfl
theorem w_115 : (Jvm.Cond.fieldLinkNest "OverAndBack$Walk" (56 : Nat) "OverAndBack$Evening" "going" "I" "OverAndBack") ∈ am_nest := am_nest_t (List.mem_append_left _ (List.mem_of_getElem? (l := tables_1_1) (i := 115) rfl)) rfl
theorem w_116 : (Jvm.Cond.fieldLinkNest "OverAndBack$Routes" (59 : Nat) "OverAndBack$Evening" "going" "I" "OverAndBack") ∈ am_nest := am_nest_t (List.mem_append_left _ (List.mem_of_getElem? (l := tables_1_1) (i := 116) rfl)) rfl
theorem w_117 : (Jvm.Cond.fieldLinkNest "OverAndBack$Box" (86 : Nat) "OverAndBack$Evening" "going" "I" "OverAndBack") ∈ am_nest := am_nest_t (List.mem_append_left _ (List.mem_of_getElem? (l := tables_1_1) (i := 117) rfl)) rfl
theorem w_118 : (Jvm.Cond.fieldLinkNest "OverAndBack$Reader" (96 : Nat) "OverAndBack$Evening" "going" "I" "OverAndBack") ∈ am_nest := am_nest_t (List.mem_append_left _ (List.mem_of_getElem? (l := tables_1_1) (i := 118) rfl)) rfl
theorem w_119 : (Jvm.Cond.fieldLinkNest "OverAndBack" (200 : Nat) "OverAndBack$Evening" "going" "I" "OverAndBack") ∈ am_nest := am_nest_t (List.mem_append_left _ (List.mem_of_getElem? (l := tables_1_1) (i := 119) rfl)) rfl
theorem w_137 : (Jvm.Cond.classLink "OverAndBack" (34 : Nat) "OverAndBack$Facts") ∈ am_tbl := am_tbl_t (List.mem_append_left _ (List.mem_of_getElem? (l := tables_1_1) (i := 137) rfl)) rfl
theorem w_138 : (Jvm.Cond.instantiable "OverAndBack$Facts" (1 : Nat)) ∈ am_tbl := am_tbl_t (List.mem_append_left _ (List.mem_of_getElem? (l := tables_1_1) (i := 138) rfl)) rfl
theorem w_139 : (Jvm.Cond.methodLinkNest "OverAndBack" (36 : Nat) ({ cls := "OverAndBack$Facts", name := "<init>", desc := "()V" } : Jvm.MethodName) "OverAndBack") ∈ am_nest := am_nest_t (List.mem_append_left _ (List.mem_of_getElem? (l := tables_1_1) (i := 139) rfl)) rfl
theorem w_140 : (Jvm.Cond.instanceMethod ({ cls := "OverAndBack$Facts", name := "<init>", desc := "()V" } : Jvm.MethodName)) ∈ am_tbl := am_tbl_t (List.mem_append_left _ (List.mem_of_getElem? (l := tables_1_1) (i := 140) rfl)) rfl
theorem w_141 : (Jvm.Cond.code ({ cls := "OverAndBack$Facts", name := "<init>", desc := "()V" } : Jvm.MethodName) prog_4_method_1_code (1 : Nat) (Option.none : Option Jvm.ClassFile.FieldType)) ∈ am_tbl := am_tbl_t (List.mem_append_left _ (List.mem_of_getElem? (l := tables_1_1) (i := 141) rfl)) rfl
theorem w_142 : (Jvm.Cond.methodLink "OverAndBack$Facts" (3 : Nat) ({ cls := "java/lang/Object", name := "<init>", desc := "()V" } : Jvm.MethodName)) ∈ am_tbl := am_tbl_t (List.mem_append_left _ (List.mem_of_getElem? (l := tables_1_1) (i := 142) rfl)) rfl
theorem w_143 : (Jvm.Cond.fieldLink "OverAndBack$Facts" (9 : Nat) "OverAndBack$Facts" "closed" "[I") ∈ am_tbl := am_tbl_t (List.mem_append_left _ (List.mem_of_getElem? (l := tables_1_1) (i := 143) rfl)) rfl
theorem w_147 : (Jvm.Cond.classLink "OverAndBack" (41 : Nat) "OverAndBack$Screen") ∈ am_tbl := am_tbl_t (List.mem_append_left _ (List.mem_of_getElem? (l := tables_1_1) (i := 147) rfl)) rfl
theorem w_148 : (Jvm.Cond.instantiable "OverAndBack$Screen" (3 : Nat)) ∈ am_tbl := am_tbl_t (List.mem_append_left _ (List.mem_of_getElem? (l := tables_1_1) (i := 148) rfl)) rfl
theorem w_149 : (Jvm.Cond.methodLinkNest "OverAndBack" (43 : Nat) ({ cls := "OverAndBack$Screen", name := "<init>", desc := "()V" } : Jvm.MethodName) "OverAndBack") ∈ am_nest := am_nest_t (List.mem_append_left _ (List.mem_of_getElem? (l := tables_1_1) (i := 149) rfl)) rfl
theorem w_150 : (Jvm.Cond.instanceMethod ({ cls := "OverAndBack$Screen", name := "<init>", desc := "()V" } : Jvm.MethodName)) ∈ am_tbl := am_tbl_t (List.mem_append_left _ (List.mem_of_getElem? (l := tables_1_1) (i := 150) rfl)) rfl
theorem w_151 : (Jvm.Cond.code ({ cls := "OverAndBack$Screen", name := "<init>", desc := "()V" } : Jvm.MethodName) prog_11_method_1_code (1 : Nat) (Option.none : Option Jvm.ClassFile.FieldType)) ∈ am_tbl := am_tbl_t (List.mem_append_left _ (List.mem_of_getElem? (l := tables_1_1) (i := 151) rfl)) rfl
theorem w_152 : (Jvm.Cond.methodLink "OverAndBack$Screen" (3 : Nat) ({ cls := "java/lang/Object", name := "<init>", desc := "()V" } : Jvm.MethodName)) ∈ am_tbl := am_tbl_t (List.mem_append_left _ (List.mem_of_getElem? (l := tables_1_1) (i := 152) rfl)) rfl
theorem w_153 : (Jvm.Cond.fieldLink "OverAndBack$Screen" (9 : Nat) "OverAndBack$Screen" "worth" "[I") ∈ am_tbl := am_tbl_t (List.mem_append_left _ (List.mem_of_getElem? (l := tables_1_1) (i := 153) rfl)) rfl
theorem w_154 : (Jvm.Cond.fieldLink "OverAndBack$Screen" (15 : Nat) "OverAndBack$Screen" "fact" "[I") ∈ am_tbl := am_tbl_t (List.mem_append_left _ (List.mem_of_getElem? (l := tables_1_1) (i := 154) rfl)) rfl
theorem w_155 : (Jvm.Cond.fieldLink "OverAndBack$Screen" (18 : Nat) "OverAndBack$Screen" "broken" "[I") ∈ am_tbl := am_tbl_t (List.mem_append_left _ (List.mem_of_getElem? (l := tables_1_1) (i := 155) rfl)) rfl
theorem w_163 : (Jvm.Cond.classLink "OverAndBack" (51 : Nat) "OverAndBack$Walk") ∈ am_tbl := am_tbl_t (List.mem_append_left _ (List.mem_of_getElem? (l := tables_1_1) (i := 163) rfl)) rfl
theorem w_164 : (Jvm.Cond.instantiable "OverAndBack$Walk" (7 : Nat)) ∈ am_tbl := am_tbl_t (List.mem_append_left _ (List.mem_of_getElem? (l := tables_1_1) (i := 164) rfl)) rfl
theorem w_165 : (Jvm.Cond.methodLinkNest "OverAndBack" (53 : Nat) ({ cls := "OverAndBack$Walk", name := "<init>", desc := "()V" } : Jvm.MethodName) "OverAndBack") ∈ am_nest := am_nest_t (List.mem_append_left _ (List.mem_of_getElem? (l := tables_1_1) (i := 165) rfl)) rfl
theorem w_166 : (Jvm.Cond.instanceMethod ({ cls := "OverAndBack$Walk", name := "<init>", desc := "()V" } : Jvm.MethodName)) ∈ am_tbl := am_tbl_t (List.mem_append_left _ (List.mem_of_getElem? (l := tables_1_1) (i := 166) rfl)) rfl
theorem w_167 : (Jvm.Cond.code ({ cls := "OverAndBack$Walk", name := "<init>", desc := "()V" } : Jvm.MethodName) prog_12_method_1_code (1 : Nat) (Option.none : Option Jvm.ClassFile.FieldType)) ∈ am_tbl := am_tbl_t (List.mem_append_left _ (List.mem_of_getElem? (l := tables_1_1) (i := 167) rfl)) rfl
theorem w_168 : (Jvm.Cond.methodLink "OverAndBack$Walk" (3 : Nat) ({ cls := "java/lang/Object", name := "<init>", desc := "()V" } : Jvm.MethodName)) ∈ am_tbl := am_tbl_t (List.mem_append_left _ (List.mem_of_getElem? (l := tables_1_1) (i := 168) rfl)) rfl
theorem w_169 : (Jvm.Cond.fieldLink "OverAndBack$Walk" (9 : Nat) "OverAndBack$Walk" "place" "[I") ∈ am_tbl := am_tbl_t (List.mem_append_left _ (List.mem_of_getElem? (l := tables_1_1) (i := 169) rfl)) rfl
theorem w_170 : (Jvm.Cond.fieldLink "OverAndBack$Walk" (15 : Nat) "OverAndBack$Walk" "goal" "[I") ∈ am_tbl := am_tbl_t (List.mem_append_left _ (List.mem_of_getElem? (l := tables_1_1) (i := 170) rfl)) rfl
theorem w_171 : (Jvm.Cond.fieldLink "OverAndBack$Walk" (18 : Nat) "OverAndBack$Walk" "here" "I") ∈ am_tbl := am_tbl_t (List.mem_append_left _ (List.mem_of_getElem? (l := tables_1_1) (i := 171) rfl)) rfl
theorem w_172 : (Jvm.Cond.fieldLink "OverAndBack$Walk" (22 : Nat) "OverAndBack$Walk" "freeFrom" "I") ∈ am_tbl := am_tbl_t (List.mem_append_left _ (List.mem_of_getElem? (l := tables_1_1) (i := 172) rfl)) rfl
theorem w_173 : (Jvm.Cond.fieldLink "OverAndBack$Walk" (25 : Nat) "OverAndBack$Walk" "worth" "I") ∈ am_tbl := am_tbl_t (List.mem_append_left _ (List.mem_of_getElem? (l := tables_1_1) (i := 173) rfl)) rfl
theorem w_174 : (Jvm.Cond.fieldLinkNest "OverAndBack" (166 : Nat) "OverAndBack$Walk" "worth" "I" "OverAndBack") ∈ am_nest := am_nest_t (List.mem_append_left _ (List.mem_of_getElem? (l := tables_1_1) (i := 174) rfl)) rfl
theorem w_175 : (Jvm.Cond.fieldLink "OverAndBack$Walk" (28 : Nat) "OverAndBack$Walk" "seen" "I") ∈ am_tbl := am_tbl_t (List.mem_append_left _ (List.mem_of_getElem? (l := tables_1_1) (i := 175) rfl)) rfl
theorem w_176 : (Jvm.Cond.fieldLinkNest "OverAndBack" (169 : Nat) "OverAndBack$Walk" "seen" "I" "OverAndBack") ∈ am_nest := am_nest_t (List.mem_append_left _ (List.mem_of_getElem? (l := tables_1_1) (i := 176) rfl)) rfl
theorem w_177 : (Jvm.Cond.fieldLink "OverAndBack$Walk" (31 : Nat) "OverAndBack$Walk" "goings" "I") ∈ am_tbl := am_tbl_t (List.mem_append_left _ (List.mem_of_getElem? (l := tables_1_1) (i := 177) rfl)) rfl
theorem w_178 : (Jvm.Cond.fieldLinkNest "OverAndBack" (172 : Nat) "OverAndBack$Walk" "goings" "I" "OverAndBack") ∈ am_nest := am_nest_t (List.mem_append_left _ (List.mem_of_getElem? (l := tables_1_1) (i := 178) rfl)) rfl
theorem w_194 : (Jvm.Cond.classLink "OverAndBack" (58 : Nat) "OverAndBack$Routes") ∈ am_tbl := am_tbl_t (List.mem_append_left _ (List.mem_of_getElem? (l := tables_1_1) (i := 194) rfl)) rfl
theorem w_195 : (Jvm.Cond.instantiable "OverAndBack$Routes" (4 : Nat)) ∈ am_tbl := am_tbl_t (List.mem_append_left _ (List.mem_of_getElem? (l := tables_1_1) (i := 195) rfl)) rfl
theorem w_196 : (Jvm.Cond.methodLinkNest "OverAndBack" (60 : Nat) ({ cls := "OverAndBack$Routes", name := "<init>", desc := "()V" } : Jvm.MethodName) "OverAndBack") ∈ am_nest := am_nest_t (List.mem_append_left _ (List.mem_of_getElem? (l := tables_1_1) (i := 196) rfl)) rfl
theorem w_197 : (Jvm.Cond.instanceMethod ({ cls := "OverAndBack$Routes", name := "<init>", desc := "()V" } : Jvm.MethodName)) ∈ am_tbl := am_tbl_t (List.mem_append_left _ (List.mem_of_getElem? (l := tables_1_1) (i := 197) rfl)) rfl
theorem w_198 : (Jvm.Cond.code ({ cls := "OverAndBack$Routes", name := "<init>", desc := "()V" } : Jvm.MethodName) prog_9_method_1_code (1 : Nat) (Option.none : Option Jvm.ClassFile.FieldType)) ∈ am_tbl := am_tbl_t (List.mem_append_left _ (List.mem_of_getElem? (l := tables_1_1) (i := 198) rfl)) rfl
theorem w_199 : (Jvm.Cond.methodLink "OverAndBack$Routes" (3 : Nat) ({ cls := "java/lang/Object", name := "<init>", desc := "()V" } : Jvm.MethodName)) ∈ am_tbl := am_tbl_t (List.mem_append_left _ (List.mem_of_getElem? (l := tables_1_1) (i := 199) rfl)) rfl
theorem w_200 : (Jvm.Cond.fieldLink "OverAndBack$Routes" (9 : Nat) "OverAndBack$Routes" "greatest" "[I") ∈ am_tbl := am_tbl_t (List.mem_append_left _ (List.mem_of_getElem? (l := tables_1_1) (i := 200) rfl)) rfl
theorem w_201 : (Jvm.Cond.fieldLink "OverAndBack$Routes" (15 : Nat) "OverAndBack$Routes" "minutes" "I") ∈ am_tbl := am_tbl_t (List.mem_append_left _ (List.mem_of_getElem? (l := tables_1_1) (i := 201) rfl)) rfl
theorem w_202 : (Jvm.Cond.fieldLink "OverAndBack$Routes" (19 : Nat) "OverAndBack$Routes" "firstMinute" "I") ∈ am_tbl := am_tbl_t (List.mem_append_left _ (List.mem_of_getElem? (l := tables_1_1) (i := 202) rfl)) rfl
theorem w_203 : (Jvm.Cond.fieldLinkNest "OverAndBack" (211 : Nat) "OverAndBack$Routes" "firstMinute" "I" "OverAndBack") ∈ am_nest := am_nest_t (List.mem_append_left _ (List.mem_of_getElem? (l := tables_1_1) (i := 203) rfl)) rfl
theorem w_204 : (Jvm.Cond.fieldLink "OverAndBack$Routes" (22 : Nat) "OverAndBack$Routes" "firstStation" "I") ∈ am_tbl := am_tbl_t (List.mem_append_left _ (List.mem_of_getElem? (l := tables_1_1) (i := 204) rfl)) rfl
theorem w_205 : (Jvm.Cond.fieldLinkNest "OverAndBack" (214 : Nat) "OverAndBack$Routes" "firstStation" "I" "OverAndBack") ∈ am_nest := am_nest_t (List.mem_append_left _ (List.mem_of_getElem? (l := tables_1_1) (i := 205) rfl)) rfl
theorem w_215 : (Jvm.Cond.classLink "OverAndBack" (65 : Nat) "OverAndBack$Learning") ∈ am_tbl := am_tbl_t (List.mem_append_left _ (List.mem_of_getElem? (l := tables_1_1) (i := 215) rfl)) rfl
theorem w_216 : (Jvm.Cond.instantiable "OverAndBack$Learning" (11 : Nat)) ∈ am_tbl := am_tbl_t (List.mem_append_left _ (List.mem_of_getElem? (l := tables_1_1) (i := 216) rfl)) rfl
theorem w_217 : (Jvm.Cond.methodLink "OverAndBack" (67 : Nat) ({ cls := "OverAndBack$Learning", name := "<init>", desc := "(LOverAndBack$Screen;LOverAndBack$Facts;)V" } : Jvm.MethodName)) ∈ am_tbl := am_tbl_t (List.mem_append_left _ (List.mem_of_getElem? (l := tables_1_1) (i := 217) rfl)) rfl
theorem w_218 : (Jvm.Cond.instanceMethod ({ cls := "OverAndBack$Learning", name := "<init>", desc := "(LOverAndBack$Screen;LOverAndBack$Facts;)V" } : Jvm.MethodName)) ∈ am_tbl := am_tbl_t (List.mem_append_left _ (List.mem_of_getElem? (l := tables_1_1) (i := 218) rfl)) rfl
theorem w_219 : (Jvm.Cond.code ({ cls := "OverAndBack$Learning", name := "<init>", desc := "(LOverAndBack$Screen;LOverAndBack$Facts;)V" } : Jvm.MethodName) prog_5_method_1_code (3 : Nat) (Option.none : Option Jvm.ClassFile.FieldType)) ∈ am_tbl := am_tbl_t (List.mem_append_left _ (List.mem_of_getElem? (l := tables_1_1) (i := 219) rfl)) rfl
theorem w_220 : (Jvm.Cond.methodLink "OverAndBack$Learning" (3 : Nat) ({ cls := "java/lang/Object", name := "<init>", desc := "()V" } : Jvm.MethodName)) ∈ am_tbl := am_tbl_t (List.mem_append_left _ (List.mem_of_getElem? (l := tables_1_1) (i := 220) rfl)) rfl
theorem w_221 : (Jvm.Cond.methodLink "OverAndBack$Learning" (48 : Nat) ({ cls := "java/util/Arrays", name := "fill", desc := "([II)V" } : Jvm.MethodName)) ∈ am_tbl := am_tbl_t (List.mem_append_left _ (List.mem_of_getElem? (l := tables_1_1) (i := 221) rfl)) rfl
theorem w_222 : (Jvm.Cond.static ({ cls := "java/util/Arrays", name := "fill", desc := "([II)V" } : Jvm.MethodName)) ∈ am_tbl := am_tbl_t (List.mem_append_left _ (List.mem_of_getElem? (l := tables_1_1) (i := 222) rfl)) rfl
theorem w_223 : (Jvm.Cond.code ({ cls := "java/util/Arrays", name := "fill", desc := "([II)V" } : Jvm.MethodName) prog_21_method_103_code (4 : Nat) (Option.none : Option Jvm.ClassFile.FieldType)) ∈ am_tbl := am_tbl_t (List.mem_append_left _ (List.mem_of_getElem? (l := tables_1_1) (i := 223) rfl)) rfl
theorem w_224 : (Jvm.Cond.fieldLink "OverAndBack$Learning" (11 : Nat) "OverAndBack$Learning" "fewest" "[I") ∈ am_tbl := am_tbl_t (List.mem_append_left _ (List.mem_of_getElem? (l := tables_1_1) (i := 224) rfl)) rfl
theorem w_225 : (Jvm.Cond.fieldLink "OverAndBack$Learning" (40 : Nat) "OverAndBack$Learning" "screen" "LOverAndBack$Screen;") ∈ am_tbl := am_tbl_t (List.mem_append_left _ (List.mem_of_getElem? (l := tables_1_1) (i := 225) rfl)) rfl
theorem w_226 : (Jvm.Cond.fieldLink "OverAndBack$Learning" (44 : Nat) "OverAndBack$Learning" "facts" "LOverAndBack$Facts;") ∈ am_tbl := am_tbl_t (List.mem_append_left _ (List.mem_of_getElem? (l := tables_1_1) (i := 226) rfl)) rfl
theorem w_227 : (Jvm.Cond.fieldLink "OverAndBack$Learning" (15 : Nat) "OverAndBack$Learning" "stations" "I") ∈ am_tbl := am_tbl_t (List.mem_append_left _ (List.mem_of_getElem? (l := tables_1_1) (i := 227) rfl)) rfl
theorem w_228 : (Jvm.Cond.fieldLink "OverAndBack$Learning" (19 : Nat) "OverAndBack$Learning" "going" "I") ∈ am_tbl := am_tbl_t (List.mem_append_left _ (List.mem_of_getElem? (l := tables_1_1) (i := 228) rfl)) rfl
theorem w_229 : (Jvm.Cond.fieldLink "OverAndBack$Learning" (22 : Nat) "OverAndBack$Learning" "allTold" "I") ∈ am_tbl := am_tbl_t (List.mem_append_left _ (List.mem_of_getElem? (l := tables_1_1) (i := 229) rfl)) rfl
theorem w_230 : (Jvm.Cond.fieldLink "OverAndBack$Learning" (25 : Nat) "OverAndBack$Learning" "end" "I") ∈ am_tbl := am_tbl_t (List.mem_append_left _ (List.mem_of_getElem? (l := tables_1_1) (i := 230) rfl)) rfl
theorem w_231 : (Jvm.Cond.fieldLink "OverAndBack$Learning" (28 : Nat) "OverAndBack$Learning" "fewestGoings" "I") ∈ am_tbl := am_tbl_t (List.mem_append_left _ (List.mem_of_getElem? (l := tables_1_1) (i := 231) rfl)) rfl
theorem w_232 : (Jvm.Cond.fieldLinkNest "OverAndBack" (221 : Nat) "OverAndBack$Learning" "fewestGoings" "I" "OverAndBack") ∈ am_nest := am_nest_t (List.mem_append_left _ (List.mem_of_getElem? (l := tables_1_1) (i := 232) rfl)) rfl
theorem w_233 : (Jvm.Cond.fieldLink "OverAndBack$Learning" (31 : Nat) "OverAndBack$Learning" "minutesByFewest" "I") ∈ am_tbl := am_tbl_t (List.mem_append_left _ (List.mem_of_getElem? (l := tables_1_1) (i := 233) rfl)) rfl
theorem w_234 : (Jvm.Cond.fieldLinkNest "OverAndBack" (224 : Nat) "OverAndBack$Learning" "minutesByFewest" "I" "OverAndBack") ∈ am_nest := am_nest_t (List.mem_append_left _ (List.mem_of_getElem? (l := tables_1_1) (i := 234) rfl)) rfl
theorem w_235 : (Jvm.Cond.fieldLink "OverAndBack$Learning" (34 : Nat) "OverAndBack$Learning" "minutesByAny" "I") ∈ am_tbl := am_tbl_t (List.mem_append_left _ (List.mem_of_getElem? (l := tables_1_1) (i := 235) rfl)) rfl
theorem w_236 : (Jvm.Cond.fieldLinkNest "OverAndBack" (227 : Nat) "OverAndBack$Learning" "minutesByAny" "I" "OverAndBack") ∈ am_nest := am_nest_t (List.mem_append_left _ (List.mem_of_getElem? (l := tables_1_1) (i := 236) rfl)) rfl
theorem w_237 : (Jvm.Cond.fieldLink "OverAndBack$Learning" (37 : Nat) "OverAndBack$Learning" "goingsToBeat" "I") ∈ am_tbl := am_tbl_t (List.mem_append_left _ (List.mem_of_getElem? (l := tables_1_1) (i := 237) rfl)) rfl
theorem w_261 : (Jvm.Cond.classLink "OverAndBack" (74 : Nat) "OverAndBack$Box") ∈ am_tbl := am_tbl_t (List.mem_append_right _ (List.mem_append_left _ (List.mem_of_getElem? (l := tables_1_2) (i := 21) rfl))) rfl
theorem w_262 : (Jvm.Cond.instantiable "OverAndBack$Box" (9 : Nat)) ∈ am_tbl := am_tbl_t (List.mem_append_right _ (List.mem_append_left _ (List.mem_of_getElem? (l := tables_1_2) (i := 22) rfl))) rfl
theorem w_263 : (Jvm.Cond.methodLinkNest "OverAndBack" (76 : Nat) ({ cls := "OverAndBack$Box", name := "<init>", desc := "()V" } : Jvm.MethodName) "OverAndBack") ∈ am_nest := am_nest_t (List.mem_append_right _ (List.mem_append_left _ (List.mem_of_getElem? (l := tables_1_2) (i := 23) rfl))) rfl
theorem w_264 : (Jvm.Cond.instanceMethod ({ cls := "OverAndBack$Box", name := "<init>", desc := "()V" } : Jvm.MethodName)) ∈ am_tbl := am_tbl_t (List.mem_append_right _ (List.mem_append_left _ (List.mem_of_getElem? (l := tables_1_2) (i := 24) rfl))) rfl
theorem w_265 : (Jvm.Cond.code ({ cls := "OverAndBack$Box", name := "<init>", desc := "()V" } : Jvm.MethodName) prog_2_method_1_code (1 : Nat) (Option.none : Option Jvm.ClassFile.FieldType)) ∈ am_tbl := am_tbl_t (List.mem_append_right _ (List.mem_append_left _ (List.mem_of_getElem? (l := tables_1_2) (i := 25) rfl))) rfl
theorem w_266 : (Jvm.Cond.methodLink "OverAndBack$Box" (3 : Nat) ({ cls := "java/lang/Object", name := "<init>", desc := "()V" } : Jvm.MethodName)) ∈ am_tbl := am_tbl_t (List.mem_append_right _ (List.mem_append_left _ (List.mem_of_getElem? (l := tables_1_2) (i := 26) rfl))) rfl
theorem w_267 : (Jvm.Cond.fieldLink "OverAndBack$Box" (11 : Nat) "OverAndBack$Box" "whole" "[I") ∈ am_tbl := am_tbl_t (List.mem_append_right _ (List.mem_append_left _ (List.mem_of_getElem? (l := tables_1_2) (i := 27) rfl))) rfl
theorem w_268 : (Jvm.Cond.fieldLink "OverAndBack$Box" (15 : Nat) "OverAndBack$Box" "late" "[I") ∈ am_tbl := am_tbl_t (List.mem_append_right _ (List.mem_append_left _ (List.mem_of_getElem? (l := tables_1_2) (i := 28) rfl))) rfl
theorem w_269 : (Jvm.Cond.fieldLink "OverAndBack$Box" (18 : Nat) "OverAndBack$Box" "holders" "[I") ∈ am_tbl := am_tbl_t (List.mem_append_right _ (List.mem_append_left _ (List.mem_of_getElem? (l := tables_1_2) (i := 29) rfl))) rfl
theorem w_270 : (Jvm.Cond.fieldLink "OverAndBack$Box" (21 : Nat) "OverAndBack$Box" "bestHolders" "[I") ∈ am_tbl := am_tbl_t (List.mem_append_right _ (List.mem_append_left _ (List.mem_of_getElem? (l := tables_1_2) (i := 30) rfl))) rfl
theorem w_271 : (Jvm.Cond.fieldLink "OverAndBack$Box" (24 : Nat) "OverAndBack$Box" "worth" "[I") ∈ am_tbl := am_tbl_t (List.mem_append_right _ (List.mem_append_left _ (List.mem_of_getElem? (l := tables_1_2) (i := 31) rfl))) rfl
theorem w_272 : (Jvm.Cond.fieldLink "OverAndBack$Box" (27 : Nat) "OverAndBack$Box" "bestWorth" "[I") ∈ am_tbl := am_tbl_t (List.mem_append_right _ (List.mem_append_left _ (List.mem_of_getElem? (l := tables_1_2) (i := 32) rfl))) rfl
theorem w_273 : (Jvm.Cond.fieldLink "OverAndBack$Box" (30 : Nat) "OverAndBack$Box" "turns" "I") ∈ am_tbl := am_tbl_t (List.mem_append_right _ (List.mem_append_left _ (List.mem_of_getElem? (l := tables_1_2) (i := 33) rfl))) rfl
theorem w_274 : (Jvm.Cond.fieldLink "OverAndBack$Box" (34 : Nat) "OverAndBack$Box" "least" "I") ∈ am_tbl := am_tbl_t (List.mem_append_right _ (List.mem_append_left _ (List.mem_of_getElem? (l := tables_1_2) (i := 34) rfl))) rfl
theorem w_275 : (Jvm.Cond.fieldLinkNest "OverAndBack" (243 : Nat) "OverAndBack$Box" "least" "I" "OverAndBack") ∈ am_nest := am_nest_t (List.mem_append_right _ (List.mem_append_left _ (List.mem_of_getElem? (l := tables_1_2) (i := 35) rfl))) rfl
theorem w_276 : (Jvm.Cond.fieldLink "OverAndBack$Box" (37 : Nat) "OverAndBack$Box" "shared" "Z") ∈ am_tbl := am_tbl_t (List.mem_append_right _ (List.mem_append_left _ (List.mem_of_getElem? (l := tables_1_2) (i := 36) rfl))) rfl
theorem w_277 : (Jvm.Cond.fieldLinkNest "OverAndBack" (309 : Nat) "OverAndBack$Box" "shared" "Z" "OverAndBack") ∈ am_nest := am_nest_t (List.mem_append_right _ (List.mem_append_left _ (List.mem_of_getElem? (l := tables_1_2) (i := 37) rfl))) rfl
theorem w_297 : (Jvm.Cond.classLink "OverAndBack" (81 : Nat) "OverAndBack$Plan") ∈ am_tbl := am_tbl_t (List.mem_append_right _ (List.mem_append_left _ (List.mem_of_getElem? (l := tables_1_2) (i := 57) rfl))) rfl
theorem w_298 : (Jvm.Cond.instantiable "OverAndBack$Plan" (4 : Nat)) ∈ am_tbl := am_tbl_t (List.mem_append_right _ (List.mem_append_left _ (List.mem_of_getElem? (l := tables_1_2) (i := 58) rfl))) rfl
theorem w_299 : (Jvm.Cond.methodLinkNest "OverAndBack" (83 : Nat) ({ cls := "OverAndBack$Plan", name := "<init>", desc := "()V" } : Jvm.MethodName) "OverAndBack") ∈ am_nest := am_nest_t (List.mem_append_right _ (List.mem_append_left _ (List.mem_of_getElem? (l := tables_1_2) (i := 59) rfl))) rfl
theorem w_300 : (Jvm.Cond.instanceMethod ({ cls := "OverAndBack$Plan", name := "<init>", desc := "()V" } : Jvm.MethodName)) ∈ am_tbl := am_tbl_t (List.mem_append_right _ (List.mem_append_left _ (List.mem_of_getElem? (l := tables_1_2) (i := 60) rfl))) rfl
theorem w_301 : (Jvm.Cond.code ({ cls := "OverAndBack$Plan", name := "<init>", desc := "()V" } : Jvm.MethodName) prog_7_method_1_code (1 : Nat) (Option.none : Option Jvm.ClassFile.FieldType)) ∈ am_tbl := am_tbl_t (List.mem_append_right _ (List.mem_append_left _ (List.mem_of_getElem? (l := tables_1_2) (i := 61) rfl))) rfl
theorem w_302 : (Jvm.Cond.methodLink "OverAndBack$Plan" (3 : Nat) ({ cls := "java/lang/Object", name := "<init>", desc := "()V" } : Jvm.MethodName)) ∈ am_tbl := am_tbl_t (List.mem_append_right _ (List.mem_append_left _ (List.mem_of_getElem? (l := tables_1_2) (i := 62) rfl))) rfl
theorem w_303 : (Jvm.Cond.fieldLink "OverAndBack$Plan" (9 : Nat) "OverAndBack$Plan" "minutes" "[I") ∈ am_tbl := am_tbl_t (List.mem_append_right _ (List.mem_append_left _ (List.mem_of_getElem? (l := tables_1_2) (i := 63) rfl))) rfl
theorem w_304 : (Jvm.Cond.fieldLink "OverAndBack$Plan" (15 : Nat) "OverAndBack$Plan" "stations" "[I") ∈ am_tbl := am_tbl_t (List.mem_append_right _ (List.mem_append_left _ (List.mem_of_getElem? (l := tables_1_2) (i := 64) rfl))) rfl
theorem w_305 : (Jvm.Cond.fieldLink "OverAndBack$Plan" (18 : Nat) "OverAndBack$Plan" "size" "I") ∈ am_tbl := am_tbl_t (List.mem_append_right _ (List.mem_append_left _ (List.mem_of_getElem? (l := tables_1_2) (i := 65) rfl))) rfl
theorem w_306 : (Jvm.Cond.fieldLinkNest "OverAndBack$Walk" (81 : Nat) "OverAndBack$Plan" "size" "I" "OverAndBack") ∈ am_nest := am_nest_t (List.mem_append_right _ (List.mem_append_left _ (List.mem_of_getElem? (l := tables_1_2) (i := 66) rfl))) rfl
theorem w_307 : (Jvm.Cond.fieldLinkNest "OverAndBack" (191 : Nat) "OverAndBack$Plan" "size" "I" "OverAndBack") ∈ am_nest := am_nest_t (List.mem_append_right _ (List.mem_append_left _ (List.mem_of_getElem? (l := tables_1_2) (i := 67) rfl))) rfl
theorem w_308 : (Jvm.Cond.fieldLink "OverAndBack$Plan" (22 : Nat) "OverAndBack$Plan" "start" "I") ∈ am_tbl := am_tbl_t (List.mem_append_right _ (List.mem_append_left _ (List.mem_of_getElem? (l := tables_1_2) (i := 68) rfl))) rfl
theorem w_309 : (Jvm.Cond.fieldLinkNest "OverAndBack$Walk" (71 : Nat) "OverAndBack$Plan" "start" "I" "OverAndBack") ∈ am_nest := am_nest_t (List.mem_append_right _ (List.mem_append_left _ (List.mem_of_getElem? (l := tables_1_2) (i := 69) rfl))) rfl
theorem w_310 : (Jvm.Cond.fieldLinkNest "OverAndBack" (181 : Nat) "OverAndBack$Plan" "start" "I" "OverAndBack") ∈ am_nest := am_nest_t (List.mem_append_right _ (List.mem_append_left _ (List.mem_of_getElem? (l := tables_1_2) (i := 70) rfl))) rfl
theorem w_320 : (Jvm.Cond.classLink "OverAndBack" (88 : Nat) "OverAndBack$Past") ∈ am_tbl := am_tbl_t (List.mem_append_right _ (List.mem_append_left _ (List.mem_of_getElem? (l := tables_1_2) (i := 80) rfl))) rfl
theorem w_321 : (Jvm.Cond.instantiable "OverAndBack$Past" (2 : Nat)) ∈ am_tbl := am_tbl_t (List.mem_append_right _ (List.mem_append_left _ (List.mem_of_getElem? (l := tables_1_2) (i := 81) rfl))) rfl
theorem w_322 : (Jvm.Cond.methodLinkNest "OverAndBack" (90 : Nat) ({ cls := "OverAndBack$Past", name := "<init>", desc := "()V" } : Jvm.MethodName) "OverAndBack") ∈ am_nest := am_nest_t (List.mem_append_right _ (List.mem_append_left _ (List.mem_of_getElem? (l := tables_1_2) (i := 82) rfl))) rfl
theorem w_323 : (Jvm.Cond.instanceMethod ({ cls := "OverAndBack$Past", name := "<init>", desc := "()V" } : Jvm.MethodName)) ∈ am_tbl := am_tbl_t (List.mem_append_right _ (List.mem_append_left _ (List.mem_of_getElem? (l := tables_1_2) (i := 83) rfl))) rfl
theorem w_324 : (Jvm.Cond.code ({ cls := "OverAndBack$Past", name := "<init>", desc := "()V" } : Jvm.MethodName) prog_6_method_1_code (1 : Nat) (Option.none : Option Jvm.ClassFile.FieldType)) ∈ am_tbl := am_tbl_t (List.mem_append_right _ (List.mem_append_left _ (List.mem_of_getElem? (l := tables_1_2) (i := 84) rfl))) rfl
theorem w_325 : (Jvm.Cond.methodLink "OverAndBack$Past" (3 : Nat) ({ cls := "java/lang/Object", name := "<init>", desc := "()V" } : Jvm.MethodName)) ∈ am_tbl := am_tbl_t (List.mem_append_right _ (List.mem_append_left _ (List.mem_of_getElem? (l := tables_1_2) (i := 85) rfl))) rfl
theorem w_326 : (Jvm.Cond.fieldLink "OverAndBack$Past" (9 : Nat) "OverAndBack$Past" "changes" "[I") ∈ am_tbl := am_tbl_t (List.mem_append_right _ (List.mem_append_left _ (List.mem_of_getElem? (l := tables_1_2) (i := 86) rfl))) rfl
theorem w_327 : (Jvm.Cond.fieldLink "OverAndBack$Past" (15 : Nat) "OverAndBack$Past" "size" "I") ∈ am_tbl := am_tbl_t (List.mem_append_right _ (List.mem_append_left _ (List.mem_of_getElem? (l := tables_1_2) (i := 87) rfl))) rfl
theorem w_328 : (Jvm.Cond.fieldLinkNest "OverAndBack" (192 : Nat) "OverAndBack$Past" "size" "I" "OverAndBack") ∈ am_nest := am_nest_t (List.mem_append_right _ (List.mem_append_left _ (List.mem_of_getElem? (l := tables_1_2) (i := 88) rfl))) rfl
theorem w_335 : (Jvm.Cond.methodLink "OverAndBack" (106 : Nat) ({ cls := "java/lang/String", name := "toCharArray", desc := "()[C" } : Jvm.MethodName)) ∈ am_tbl := am_tbl_t (List.mem_append_right _ (List.mem_append_left _ (List.mem_of_getElem? (l := tables_1_2) (i := 95) rfl))) rfl
theorem w_380 : (Jvm.Cond.methodLink "OverAndBack" (112 : Nat) ({ cls := "OverAndBack$Reader", name := "read", desc := "([CILOverAndBack$Evening;)I" } : Jvm.MethodName)) ∈ am_tbl := am_tbl_t (List.mem_append_right _ (List.mem_append_left _ (List.mem_of_getElem? (l := tables_1_2) (i := 140) rfl))) rfl
theorem w_381 : (Jvm.Cond.instanceMethod ({ cls := "OverAndBack$Reader", name := "read", desc := "([CILOverAndBack$Evening;)I" } : Jvm.MethodName)) ∈ am_tbl := am_tbl_t (List.mem_append_right _ (List.mem_append_left _ (List.mem_of_getElem? (l := tables_1_2) (i := 141) rfl))) rfl
theorem w_382 : (Jvm.Cond.selects "OverAndBack$Reader" ({ cls := "OverAndBack$Reader", name := "read", desc := "([CILOverAndBack$Evening;)I" } : Jvm.MethodName) ({ cls := "OverAndBack$Reader", name := "read", desc := "([CILOverAndBack$Evening;)I" } : Jvm.MethodName)) ∈ am_tbl := am_tbl_t (List.mem_append_right _ (List.mem_append_left _ (List.mem_of_getElem? (l := tables_1_2) (i := 142) rfl))) rfl
theorem w_383 : (Jvm.Cond.code ({ cls := "OverAndBack$Reader", name := "read", desc := "([CILOverAndBack$Evening;)I" } : Jvm.MethodName) prog_8_method_2_code (7 : Nat) (Option.some Jvm.ClassFile.FieldType.int)) ∈ am_tbl := am_tbl_t (List.mem_append_right _ (List.mem_append_left _ (List.mem_of_getElem? (l := tables_1_2) (i := 143) rfl))) rfl
theorem w_384 : (Jvm.Cond.methodLink "OverAndBack$Reader" (19 : Nat) ({ cls := "OverAndBack$Evening", name := "clear", desc := "()V" } : Jvm.MethodName)) ∈ am_tbl := am_tbl_t (List.mem_append_right _ (List.mem_append_left _ (List.mem_of_getElem? (l := tables_1_2) (i := 144) rfl))) rfl
theorem w_385 : (Jvm.Cond.instanceMethod ({ cls := "OverAndBack$Evening", name := "clear", desc := "()V" } : Jvm.MethodName)) ∈ am_tbl := am_tbl_t (List.mem_append_right _ (List.mem_append_left _ (List.mem_of_getElem? (l := tables_1_2) (i := 145) rfl))) rfl
theorem w_386 : (Jvm.Cond.selects "OverAndBack$Evening" ({ cls := "OverAndBack$Evening", name := "clear", desc := "()V" } : Jvm.MethodName) ({ cls := "OverAndBack$Evening", name := "clear", desc := "()V" } : Jvm.MethodName)) ∈ am_tbl := am_tbl_t (List.mem_append_right _ (List.mem_append_left _ (List.mem_of_getElem? (l := tables_1_2) (i := 146) rfl))) rfl
theorem w_387 : (Jvm.Cond.code ({ cls := "OverAndBack$Evening", name := "clear", desc := "()V" } : Jvm.MethodName) prog_3_method_2_code (1 : Nat) (Option.none : Option Jvm.ClassFile.FieldType)) ∈ am_tbl := am_tbl_t (List.mem_append_right _ (List.mem_append_left _ (List.mem_of_getElem? (l := tables_1_2) (i := 147) rfl))) rfl
theorem w_388 : (Jvm.Cond.methodLink "OverAndBack$Evening" (42 : Nat) ({ cls := "OverAndBack$Rows", name := "clear", desc := "()V" } : Jvm.MethodName)) ∈ am_tbl := am_tbl_t (List.mem_append_right _ (List.mem_append_left _ (List.mem_of_getElem? (l := tables_1_2) (i := 148) rfl))) rfl
theorem w_389 : (Jvm.Cond.instanceMethod ({ cls := "OverAndBack$Rows", name := "clear", desc := "()V" } : Jvm.MethodName)) ∈ am_tbl := am_tbl_t (List.mem_append_right _ (List.mem_append_left _ (List.mem_of_getElem? (l := tables_1_2) (i := 149) rfl))) rfl
theorem w_390 : (Jvm.Cond.selects "OverAndBack$Rows" ({ cls := "OverAndBack$Rows", name := "clear", desc := "()V" } : Jvm.MethodName) ({ cls := "OverAndBack$Rows", name := "clear", desc := "()V" } : Jvm.MethodName)) ∈ am_tbl := am_tbl_t (List.mem_append_right _ (List.mem_append_left _ (List.mem_of_getElem? (l := tables_1_2) (i := 150) rfl))) rfl
theorem w_391 : (Jvm.Cond.code ({ cls := "OverAndBack$Rows", name := "clear", desc := "()V" } : Jvm.MethodName) prog_10_method_2_code (1 : Nat) (Option.none : Option Jvm.ClassFile.FieldType)) ∈ am_tbl := am_tbl_t (List.mem_append_right _ (List.mem_append_left _ (List.mem_of_getElem? (l := tables_1_2) (i := 151) rfl))) rfl
theorem w_392 : (Jvm.Cond.methodLink "OverAndBack$Reader" (24 : Nat) ({ cls := "java/lang/Math", name := "min", desc := "(II)I" } : Jvm.MethodName)) ∈ am_tbl := am_tbl_t (List.mem_append_right _ (List.mem_append_left _ (List.mem_of_getElem? (l := tables_1_2) (i := 152) rfl))) rfl
theorem w_393 : (Jvm.Cond.static ({ cls := "java/lang/Math", name := "min", desc := "(II)I" } : Jvm.MethodName)) ∈ am_tbl := am_tbl_t (List.mem_append_right _ (List.mem_append_left _ (List.mem_of_getElem? (l := tables_1_2) (i := 153) rfl))) rfl
theorem w_394 : (Jvm.Cond.code ({ cls := "java/lang/Math", name := "min", desc := "(II)I" } : Jvm.MethodName) prog_16_method_69_code (2 : Nat) (Option.some Jvm.ClassFile.FieldType.int)) ∈ am_tbl := am_tbl_t (List.mem_append_right _ (List.mem_append_left _ (List.mem_of_getElem? (l := tables_1_2) (i := 154) rfl))) rfl
theorem w_395 : (Jvm.Cond.methodLink "OverAndBack$Reader" (30 : Nat) ({ cls := "OverAndBack$Reader", name := "readNumbers", desc := "([CII)I" } : Jvm.MethodName)) ∈ am_tbl := am_tbl_t (List.mem_append_right _ (List.mem_append_left _ (List.mem_of_getElem? (l := tables_1_2) (i := 155) rfl))) rfl
theorem w_397 : (Jvm.Cond.instanceMethod ({ cls := "OverAndBack$Reader", name := "readNumbers", desc := "([CII)I" } : Jvm.MethodName)) ∈ am_tbl := am_tbl_t (List.mem_append_right _ (List.mem_append_left _ (List.mem_of_getElem? (l := tables_1_2) (i := 157) rfl))) rfl
theorem w_398 : (Jvm.Cond.code ({ cls := "OverAndBack$Reader", name := "readNumbers", desc := "([CII)I" } : Jvm.MethodName) prog_8_method_3_code (8 : Nat) (Option.some Jvm.ClassFile.FieldType.int)) ∈ am_tbl := am_tbl_t (List.mem_append_right _ (List.mem_append_left _ (List.mem_of_getElem? (l := tables_1_2) (i := 158) rfl))) rfl
theorem w_399 : (Jvm.Cond.methodLink "OverAndBack$Reader" (38 : Nat) ({ cls := "OverAndBack$Reader", name := "figuresAt", desc := "([CII)I" } : Jvm.MethodName)) ∈ am_tbl := am_tbl_t (List.mem_append_right _ (List.mem_append_left _ (List.mem_of_getElem? (l := tables_1_2) (i := 159) rfl))) rfl
theorem w_400 : (Jvm.Cond.static ({ cls := "OverAndBack$Reader", name := "figuresAt", desc := "([CII)I" } : Jvm.MethodName)) ∈ am_tbl := am_tbl_t (List.mem_append_right _ (List.mem_append_left _ (List.mem_of_getElem? (l := tables_1_2) (i := 160) rfl))) rfl
theorem w_401 : (Jvm.Cond.code ({ cls := "OverAndBack$Reader", name := "figuresAt", desc := "([CII)I" } : Jvm.MethodName) prog_8_method_4_code (4 : Nat) (Option.some Jvm.ClassFile.FieldType.int)) ∈ am_tbl := am_tbl_t (List.mem_append_right _ (List.mem_append_left _ (List.mem_of_getElem? (l := tables_1_2) (i := 161) rfl))) rfl
theorem w_402 : (Jvm.Cond.methodLink "OverAndBack$Reader" (44 : Nat) ({ cls := "OverAndBack$Reader", name := "isFigure", desc := "(C)Z" } : Jvm.MethodName)) ∈ am_tbl := am_tbl_t (List.mem_append_right _ (List.mem_append_left _ (List.mem_of_getElem? (l := tables_1_2) (i := 162) rfl))) rfl
theorem w_403 : (Jvm.Cond.static ({ cls := "OverAndBack$Reader", name := "isFigure", desc := "(C)Z" } : Jvm.MethodName)) ∈ am_tbl := am_tbl_t (List.mem_append_right _ (List.mem_append_left _ (List.mem_of_getElem? (l := tables_1_2) (i := 163) rfl))) rfl
theorem w_404 : (Jvm.Cond.code ({ cls := "OverAndBack$Reader", name := "isFigure", desc := "(C)Z" } : Jvm.MethodName) prog_8_method_6_code (1 : Nat) (Option.some Jvm.ClassFile.FieldType.boolean)) ∈ am_tbl := am_tbl_t (List.mem_append_right _ (List.mem_append_left _ (List.mem_of_getElem? (l := tables_1_2) (i := 164) rfl))) rfl
theorem w_405 : (Jvm.Cond.methodLink "OverAndBack$Reader" (41 : Nat) ({ cls := "OverAndBack$Reader", name := "valueAhead", desc := "([CII)I" } : Jvm.MethodName)) ∈ am_tbl := am_tbl_t (List.mem_append_right _ (List.mem_append_left _ (List.mem_of_getElem? (l := tables_1_2) (i := 165) rfl))) rfl
theorem w_406 : (Jvm.Cond.static ({ cls := "OverAndBack$Reader", name := "valueAhead", desc := "([CII)I" } : Jvm.MethodName)) ∈ am_tbl := am_tbl_t (List.mem_append_right _ (List.mem_append_left _ (List.mem_of_getElem? (l := tables_1_2) (i := 166) rfl))) rfl
theorem w_407 : (Jvm.Cond.code ({ cls := "OverAndBack$Reader", name := "valueAhead", desc := "([CII)I" } : Jvm.MethodName) prog_8_method_5_code (5 : Nat) (Option.some Jvm.ClassFile.FieldType.int)) ∈ am_tbl := am_tbl_t (List.mem_append_right _ (List.mem_append_left _ (List.mem_of_getElem? (l := tables_1_2) (i := 167) rfl))) rfl
theorem w_408 : (Jvm.Cond.methodLink "OverAndBack$Reader" (48 : Nat) ({ cls := "java/lang/Math", name := "max", desc := "(II)I" } : Jvm.MethodName)) ∈ am_tbl := am_tbl_t (List.mem_append_right _ (List.mem_append_left _ (List.mem_of_getElem? (l := tables_1_2) (i := 168) rfl))) rfl
theorem w_409 : (Jvm.Cond.static ({ cls := "java/lang/Math", name := "max", desc := "(II)I" } : Jvm.MethodName)) ∈ am_tbl := am_tbl_t (List.mem_append_right _ (List.mem_append_left _ (List.mem_of_getElem? (l := tables_1_2) (i := 169) rfl))) rfl
theorem w_410 : (Jvm.Cond.code ({ cls := "java/lang/Math", name := "max", desc := "(II)I" } : Jvm.MethodName) prog_16_method_65_code (2 : Nat) (Option.some Jvm.ClassFile.FieldType.int)) ∈ am_tbl := am_tbl_t (List.mem_append_right _ (List.mem_append_left _ (List.mem_of_getElem? (l := tables_1_2) (i := 170) rfl))) rfl
theorem w_411 : (Jvm.Cond.methodLink "OverAndBack$Reader" (34 : Nat) ({ cls := "OverAndBack$Reader", name := "take", desc := "(CLOverAndBack$Evening;)Z" } : Jvm.MethodName)) ∈ am_tbl := am_tbl_t (List.mem_append_right _ (List.mem_append_left _ (List.mem_of_getElem? (l := tables_1_2) (i := 171) rfl))) rfl
theorem w_413 : (Jvm.Cond.instanceMethod ({ cls := "OverAndBack$Reader", name := "take", desc := "(CLOverAndBack$Evening;)Z" } : Jvm.MethodName)) ∈ am_tbl := am_tbl_t (List.mem_append_right _ (List.mem_append_left _ (List.mem_of_getElem? (l := tables_1_2) (i := 173) rfl))) rfl
theorem w_414 : (Jvm.Cond.code ({ cls := "OverAndBack$Reader", name := "take", desc := "(CLOverAndBack$Evening;)Z" } : Jvm.MethodName) prog_8_method_7_code (3 : Nat) (Option.some Jvm.ClassFile.FieldType.boolean)) ∈ am_tbl := am_tbl_t (List.mem_append_right _ (List.mem_append_left _ (List.mem_of_getElem? (l := tables_1_2) (i := 174) rfl))) rfl
theorem w_415 : (Jvm.Cond.methodLink "OverAndBack$Reader" (51 : Nat) ({ cls := "OverAndBack$Reader", name := "takeMinutes", desc := "(LOverAndBack$Evening;)Z" } : Jvm.MethodName)) ∈ am_tbl := am_tbl_t (List.mem_append_right _ (List.mem_append_left _ (List.mem_of_getElem? (l := tables_1_2) (i := 175) rfl))) rfl
theorem w_417 : (Jvm.Cond.instanceMethod ({ cls := "OverAndBack$Reader", name := "takeMinutes", desc := "(LOverAndBack$Evening;)Z" } : Jvm.MethodName)) ∈ am_tbl := am_tbl_t (List.mem_append_right _ (List.mem_append_left _ (List.mem_of_getElem? (l := tables_1_2) (i := 177) rfl))) rfl
theorem w_418 : (Jvm.Cond.code ({ cls := "OverAndBack$Reader", name := "takeMinutes", desc := "(LOverAndBack$Evening;)Z" } : Jvm.MethodName) prog_8_method_8_code (2 : Nat) (Option.some Jvm.ClassFile.FieldType.boolean)) ∈ am_tbl := am_tbl_t (List.mem_append_right _ (List.mem_append_left _ (List.mem_of_getElem? (l := tables_1_2) (i := 178) rfl))) rfl
theorem w_419 : (Jvm.Cond.methodLink "OverAndBack$Reader" (58 : Nat) ({ cls := "OverAndBack$Reader", name := "within", desc := "(III)Z" } : Jvm.MethodName)) ∈ am_tbl := am_tbl_t (List.mem_append_right _ (List.mem_append_left _ (List.mem_of_getElem? (l := tables_1_2) (i := 179) rfl))) rfl
theorem w_421 : (Jvm.Cond.instanceMethod ({ cls := "OverAndBack$Reader", name := "within", desc := "(III)Z" } : Jvm.MethodName)) ∈ am_tbl := am_tbl_t (List.mem_append_right _ (List.mem_append_left _ (List.mem_of_getElem? (l := tables_1_2) (i := 181) rfl))) rfl
theorem w_422 : (Jvm.Cond.code ({ cls := "OverAndBack$Reader", name := "within", desc := "(III)Z" } : Jvm.MethodName) prog_8_method_11_code (4 : Nat) (Option.some Jvm.ClassFile.FieldType.boolean)) ∈ am_tbl := am_tbl_t (List.mem_append_right _ (List.mem_append_left _ (List.mem_of_getElem? (l := tables_1_2) (i := 182) rfl))) rfl
theorem w_423 : (Jvm.Cond.methodLink "OverAndBack$Reader" (55 : Nat) ({ cls := "OverAndBack$Reader", name := "takeGoing", desc := "(LOverAndBack$Evening;)Z" } : Jvm.MethodName)) ∈ am_tbl := am_tbl_t (List.mem_append_right _ (List.mem_append_left _ (List.mem_of_getElem? (l := tables_1_2) (i := 183) rfl))) rfl
theorem w_425 : (Jvm.Cond.instanceMethod ({ cls := "OverAndBack$Reader", name := "takeGoing", desc := "(LOverAndBack$Evening;)Z" } : Jvm.MethodName)) ∈ am_tbl := am_tbl_t (List.mem_append_right _ (List.mem_append_left _ (List.mem_of_getElem? (l := tables_1_2) (i := 185) rfl))) rfl
theorem w_426 : (Jvm.Cond.code ({ cls := "OverAndBack$Reader", name := "takeGoing", desc := "(LOverAndBack$Evening;)Z" } : Jvm.MethodName) prog_8_method_9_code (2 : Nat) (Option.some Jvm.ClassFile.FieldType.boolean)) ∈ am_tbl := am_tbl_t (List.mem_append_right _ (List.mem_append_left _ (List.mem_of_getElem? (l := tables_1_2) (i := 186) rfl))) rfl
theorem w_427 : (Jvm.Cond.methodLink "OverAndBack$Reader" (66 : Nat) ({ cls := "OverAndBack$Rows", name := "add", desc := "([I)Z" } : Jvm.MethodName)) ∈ am_tbl := am_tbl_t (List.mem_append_right _ (List.mem_append_left _ (List.mem_of_getElem? (l := tables_1_2) (i := 187) rfl))) rfl
theorem w_428 : (Jvm.Cond.instanceMethod ({ cls := "OverAndBack$Rows", name := "add", desc := "([I)Z" } : Jvm.MethodName)) ∈ am_tbl := am_tbl_t (List.mem_append_right _ (List.mem_append_left _ (List.mem_of_getElem? (l := tables_1_2) (i := 188) rfl))) rfl
theorem w_429 : (Jvm.Cond.selects "OverAndBack$Rows" ({ cls := "OverAndBack$Rows", name := "add", desc := "([I)Z" } : Jvm.MethodName) ({ cls := "OverAndBack$Rows", name := "add", desc := "([I)Z" } : Jvm.MethodName)) ∈ am_tbl := am_tbl_t (List.mem_append_right _ (List.mem_append_left _ (List.mem_of_getElem? (l := tables_1_2) (i := 189) rfl))) rfl
theorem w_430 : (Jvm.Cond.code ({ cls := "OverAndBack$Rows", name := "add", desc := "([I)Z" } : Jvm.MethodName) prog_10_method_3_code (2 : Nat) (Option.some Jvm.ClassFile.FieldType.boolean)) ∈ am_tbl := am_tbl_t (List.mem_append_right _ (List.mem_append_left _ (List.mem_of_getElem? (l := tables_1_2) (i := 190) rfl))) rfl
theorem w_431 : (Jvm.Cond.methodLink "OverAndBack$Rows" (25 : Nat) ({ cls := "java/lang/System", name := "arraycopy", desc := "(Ljava/lang/Object;ILjava/lang/Object;II)V" } : Jvm.MethodName)) ∈ am_tbl := am_tbl_t (List.mem_append_right _ (List.mem_append_left _ (List.mem_of_getElem? (l := tables_1_2) (i := 191) rfl))) rfl
theorem w_432 : (Jvm.Cond.static ({ cls := "java/lang/System", name := "arraycopy", desc := "(Ljava/lang/Object;ILjava/lang/Object;II)V" } : Jvm.MethodName)) ∈ am_tbl := am_tbl_t (List.mem_append_right _ (List.mem_append_left _ (List.mem_of_getElem? (l := tables_1_2) (i := 192) rfl))) rfl
theorem w_433 : (Jvm.Cond.native ({ cls := "java/lang/System", name := "arraycopy", desc := "(Ljava/lang/Object;ILjava/lang/Object;II)V" } : Jvm.MethodName)) ∈ am_tbl := am_tbl_t (List.mem_append_right _ (List.mem_append_left _ (List.mem_of_getElem? (l := tables_1_2) (i := 193) rfl))) rfl
theorem w_434 : (Jvm.Cond.methodLink "OverAndBack$Reader" (72 : Nat) ({ cls := "OverAndBack$Reader", name := "isSpan", desc := "(LOverAndBack$Evening;)Z" } : Jvm.MethodName)) ∈ am_tbl := am_tbl_t (List.mem_append_right _ (List.mem_append_left _ (List.mem_of_getElem? (l := tables_1_2) (i := 194) rfl))) rfl
theorem w_436 : (Jvm.Cond.instanceMethod ({ cls := "OverAndBack$Reader", name := "isSpan", desc := "(LOverAndBack$Evening;)Z" } : Jvm.MethodName)) ∈ am_tbl := am_tbl_t (List.mem_append_right _ (List.mem_append_left _ (List.mem_of_getElem? (l := tables_1_2) (i := 196) rfl))) rfl
theorem w_437 : (Jvm.Cond.code ({ cls := "OverAndBack$Reader", name := "isSpan", desc := "(LOverAndBack$Evening;)Z" } : Jvm.MethodName) prog_8_method_10_code (2 : Nat) (Option.some Jvm.ClassFile.FieldType.boolean)) ∈ am_tbl := am_tbl_t (List.mem_append_right _ (List.mem_append_left _ (List.mem_of_getElem? (l := tables_1_2) (i := 197) rfl))) rfl
theorem w_438 : (Jvm.Cond.methodLink "OverAndBack" (116 : Nat) ({ cls := "OverAndBack", name := "takeEvening", desc := "()V" } : Jvm.MethodName)) ∈ am_tbl := am_tbl_t (List.mem_append_right _ (List.mem_append_left _ (List.mem_of_getElem? (l := tables_1_2) (i := 198) rfl))) rfl
theorem w_440 : (Jvm.Cond.instanceMethod ({ cls := "OverAndBack", name := "takeEvening", desc := "()V" } : Jvm.MethodName)) ∈ am_tbl := am_tbl_t (List.mem_append_right _ (List.mem_append_left _ (List.mem_of_getElem? (l := tables_1_2) (i := 200) rfl))) rfl
theorem w_441 : (Jvm.Cond.code ({ cls := "OverAndBack", name := "takeEvening", desc := "()V" } : Jvm.MethodName) prog_1_method_35_code (1 : Nat) (Option.none : Option Jvm.ClassFile.FieldType)) ∈ am_tbl := am_tbl_t (List.mem_append_right _ (List.mem_append_left _ (List.mem_of_getElem? (l := tables_1_2) (i := 201) rfl))) rfl
theorem w_442 : (Jvm.Cond.methodLink "OverAndBack" (302 : Nat) ({ cls := "OverAndBack$Facts", name := "derive", desc := "(LOverAndBack$Evening;)V" } : Jvm.MethodName)) ∈ am_tbl := am_tbl_t (List.mem_append_right _ (List.mem_append_left _ (List.mem_of_getElem? (l := tables_1_2) (i := 202) rfl))) rfl
theorem w_443 : (Jvm.Cond.instanceMethod ({ cls := "OverAndBack$Facts", name := "derive", desc := "(LOverAndBack$Evening;)V" } : Jvm.MethodName)) ∈ am_tbl := am_tbl_t (List.mem_append_right _ (List.mem_append_left _ (List.mem_of_getElem? (l := tables_1_2) (i := 203) rfl))) rfl
theorem w_444 : (Jvm.Cond.selects "OverAndBack$Facts" ({ cls := "OverAndBack$Facts", name := "derive", desc := "(LOverAndBack$Evening;)V" } : Jvm.MethodName) ({ cls := "OverAndBack$Facts", name := "derive", desc := "(LOverAndBack$Evening;)V" } : Jvm.MethodName)) ∈ am_tbl := am_tbl_t (List.mem_append_right _ (List.mem_append_left _ (List.mem_of_getElem? (l := tables_1_2) (i := 204) rfl))) rfl
theorem w_445 : (Jvm.Cond.code ({ cls := "OverAndBack$Facts", name := "derive", desc := "(LOverAndBack$Evening;)V" } : Jvm.MethodName) prog_4_method_2_code (3 : Nat) (Option.none : Option Jvm.ClassFile.FieldType)) ∈ am_tbl := am_tbl_t (List.mem_append_right _ (List.mem_append_left _ (List.mem_of_getElem? (l := tables_1_2) (i := 205) rfl))) rfl
theorem w_446 : (Jvm.Cond.methodLink "OverAndBack$Facts" (21 : Nat) ({ cls := "OverAndBack$Facts", name := "close", desc := "(LOverAndBack$Rows;I)I" } : Jvm.MethodName)) ∈ am_tbl := am_tbl_t (List.mem_append_right _ (List.mem_append_left _ (List.mem_of_getElem? (l := tables_1_2) (i := 206) rfl))) rfl
theorem w_447 : (Jvm.Cond.static ({ cls := "OverAndBack$Facts", name := "close", desc := "(LOverAndBack$Rows;I)I" } : Jvm.MethodName)) ∈ am_tbl := am_tbl_t (List.mem_append_right _ (List.mem_append_left _ (List.mem_of_getElem? (l := tables_1_2) (i := 207) rfl))) rfl
theorem w_448 : (Jvm.Cond.code ({ cls := "OverAndBack$Facts", name := "close", desc := "(LOverAndBack$Rows;I)I" } : Jvm.MethodName) prog_4_method_3_code (7 : Nat) (Option.some Jvm.ClassFile.FieldType.int)) ∈ am_tbl := am_tbl_t (List.mem_append_right _ (List.mem_append_left _ (List.mem_of_getElem? (l := tables_1_2) (i := 208) rfl))) rfl
theorem w_449 : (Jvm.Cond.methodLink "OverAndBack$Facts" (31 : Nat) ({ cls := "OverAndBack$Rows", name := "cell", desc := "(II)I" } : Jvm.MethodName)) ∈ am_tbl := am_tbl_t (List.mem_append_right _ (List.mem_append_left _ (List.mem_of_getElem? (l := tables_1_2) (i := 209) rfl))) rfl
theorem w_450 : (Jvm.Cond.instanceMethod ({ cls := "OverAndBack$Rows", name := "cell", desc := "(II)I" } : Jvm.MethodName)) ∈ am_tbl := am_tbl_t (List.mem_append_right _ (List.mem_append_left _ (List.mem_of_getElem? (l := tables_1_2) (i := 210) rfl))) rfl
theorem w_451 : (Jvm.Cond.selects "OverAndBack$Rows" ({ cls := "OverAndBack$Rows", name := "cell", desc := "(II)I" } : Jvm.MethodName) ({ cls := "OverAndBack$Rows", name := "cell", desc := "(II)I" } : Jvm.MethodName)) ∈ am_tbl := am_tbl_t (List.mem_append_right _ (List.mem_append_left _ (List.mem_of_getElem? (l := tables_1_2) (i := 211) rfl))) rfl
theorem w_452 : (Jvm.Cond.code ({ cls := "OverAndBack$Rows", name := "cell", desc := "(II)I" } : Jvm.MethodName) prog_10_method_4_code (3 : Nat) (Option.some Jvm.ClassFile.FieldType.int)) ∈ am_tbl := am_tbl_t (List.mem_append_right _ (List.mem_append_left _ (List.mem_of_getElem? (l := tables_1_2) (i := 212) rfl))) rfl
theorem w_453 : (Jvm.Cond.methodLink "OverAndBack" (261 : Nat) ({ cls := "OverAndBack$Screen", name := "show", desc := "(LOverAndBack$Evening;II)V" } : Jvm.MethodName)) ∈ am_tbl := am_tbl_t (List.mem_append_right _ (List.mem_append_left _ (List.mem_of_getElem? (l := tables_1_2) (i := 213) rfl))) rfl
theorem w_454 : (Jvm.Cond.instanceMethod ({ cls := "OverAndBack$Screen", name := "show", desc := "(LOverAndBack$Evening;II)V" } : Jvm.MethodName)) ∈ am_tbl := am_tbl_t (List.mem_append_right _ (List.mem_append_left _ (List.mem_of_getElem? (l := tables_1_2) (i := 214) rfl))) rfl
theorem w_455 : (Jvm.Cond.selects "OverAndBack$Screen" ({ cls := "OverAndBack$Screen", name := "show", desc := "(LOverAndBack$Evening;II)V" } : Jvm.MethodName) ({ cls := "OverAndBack$Screen", name := "show", desc := "(LOverAndBack$Evening;II)V" } : Jvm.MethodName)) ∈ am_tbl := am_tbl_t (List.mem_append_right _ (List.mem_append_left _ (List.mem_of_getElem? (l := tables_1_2) (i := 215) rfl))) rfl
theorem w_456 : (Jvm.Cond.code ({ cls := "OverAndBack$Screen", name := "show", desc := "(LOverAndBack$Evening;II)V" } : Jvm.MethodName) prog_11_method_2_code (5 : Nat) (Option.none : Option Jvm.ClassFile.FieldType)) ∈ am_tbl := am_tbl_t (List.mem_append_right _ (List.mem_append_left _ (List.mem_of_getElem? (l := tables_1_2) (i := 216) rfl))) rfl
theorem w_457 : (Jvm.Cond.methodLink "OverAndBack$Screen" (27 : Nat) ({ cls := "OverAndBack$Screen", name := "showStations", desc := "(LOverAndBack$Rows;)V" } : Jvm.MethodName)) ∈ am_tbl := am_tbl_t (List.mem_append_right _ (List.mem_append_left _ (List.mem_of_getElem? (l := tables_1_2) (i := 217) rfl))) rfl
theorem w_459 : (Jvm.Cond.instanceMethod ({ cls := "OverAndBack$Screen", name := "showStations", desc := "(LOverAndBack$Rows;)V" } : Jvm.MethodName)) ∈ am_tbl := am_tbl_t (List.mem_append_right _ (List.mem_append_left _ (List.mem_of_getElem? (l := tables_1_2) (i := 219) rfl))) rfl
theorem w_460 : (Jvm.Cond.code ({ cls := "OverAndBack$Screen", name := "showStations", desc := "(LOverAndBack$Rows;)V" } : Jvm.MethodName) prog_11_method_5_code (4 : Nat) (Option.none : Option Jvm.ClassFile.FieldType)) ∈ am_tbl := am_tbl_t (List.mem_append_right _ (List.mem_append_left _ (List.mem_of_getElem? (l := tables_1_2) (i := 220) rfl))) rfl
theorem w_461 : (Jvm.Cond.methodLink "OverAndBack$Screen" (74 : Nat) ({ cls := "OverAndBack$Rows", name := "cell", desc := "(II)I" } : Jvm.MethodName)) ∈ am_tbl := am_tbl_t (List.mem_append_right _ (List.mem_append_left _ (List.mem_of_getElem? (l := tables_1_2) (i := 221) rfl))) rfl
theorem w_462 : (Jvm.Cond.methodLink "OverAndBack$Screen" (60 : Nat) ({ cls := "OverAndBack$Screen", name := "put", desc := "(IIIII)V" } : Jvm.MethodName)) ∈ am_tbl := am_tbl_t (List.mem_append_right _ (List.mem_append_left _ (List.mem_of_getElem? (l := tables_1_2) (i := 222) rfl))) rfl
theorem w_464 : (Jvm.Cond.instanceMethod ({ cls := "OverAndBack$Screen", name := "put", desc := "(IIIII)V" } : Jvm.MethodName)) ∈ am_tbl := am_tbl_t (List.mem_append_right _ (List.mem_append_left _ (List.mem_of_getElem? (l := tables_1_2) (i := 224) rfl))) rfl
theorem w_465 : (Jvm.Cond.code ({ cls := "OverAndBack$Screen", name := "put", desc := "(IIIII)V" } : Jvm.MethodName) prog_11_method_9_code (7 : Nat) (Option.none : Option Jvm.ClassFile.FieldType)) ∈ am_tbl := am_tbl_t (List.mem_append_right _ (List.mem_append_left _ (List.mem_of_getElem? (l := tables_1_2) (i := 225) rfl))) rfl
theorem w_466 : (Jvm.Cond.methodLink "OverAndBack$Screen" (81 : Nat) ({ cls := "OverAndBack$Screen", name := "isThere", desc := "(II)Z" } : Jvm.MethodName)) ∈ am_tbl := am_tbl_t (List.mem_append_right _ (List.mem_append_left _ (List.mem_of_getElem? (l := tables_1_2) (i := 226) rfl))) rfl
theorem w_467 : (Jvm.Cond.static ({ cls := "OverAndBack$Screen", name := "isThere", desc := "(II)Z" } : Jvm.MethodName)) ∈ am_tbl := am_tbl_t (List.mem_append_right _ (List.mem_append_left _ (List.mem_of_getElem? (l := tables_1_2) (i := 227) rfl))) rfl
theorem w_468 : (Jvm.Cond.code ({ cls := "OverAndBack$Screen", name := "isThere", desc := "(II)Z" } : Jvm.MethodName) prog_11_method_10_code (2 : Nat) (Option.some Jvm.ClassFile.FieldType.boolean)) ∈ am_tbl := am_tbl_t (List.mem_append_right _ (List.mem_append_left _ (List.mem_of_getElem? (l := tables_1_2) (i := 228) rfl))) rfl
theorem w_469 : (Jvm.Cond.methodLink "OverAndBack$Screen" (34 : Nat) ({ cls := "OverAndBack$Screen", name := "showScenes", desc := "(LOverAndBack$Rows;I)V" } : Jvm.MethodName)) ∈ am_tbl := am_tbl_t (List.mem_append_right _ (List.mem_append_left _ (List.mem_of_getElem? (l := tables_1_2) (i := 229) rfl))) rfl
theorem w_471 : (Jvm.Cond.instanceMethod ({ cls := "OverAndBack$Screen", name := "showScenes", desc := "(LOverAndBack$Rows;I)V" } : Jvm.MethodName)) ∈ am_tbl := am_tbl_t (List.mem_append_right _ (List.mem_append_left _ (List.mem_of_getElem? (l := tables_1_2) (i := 231) rfl))) rfl
theorem w_472 : (Jvm.Cond.code ({ cls := "OverAndBack$Screen", name := "showScenes", desc := "(LOverAndBack$Rows;I)V" } : Jvm.MethodName) prog_11_method_6_code (4 : Nat) (Option.none : Option Jvm.ClassFile.FieldType)) ∈ am_tbl := am_tbl_t (List.mem_append_right _ (List.mem_append_left _ (List.mem_of_getElem? (l := tables_1_2) (i := 232) rfl))) rfl
theorem w_473 : (Jvm.Cond.methodLink "OverAndBack$Screen" (78 : Nat) ({ cls := "OverAndBack$Screen", name := "showScene", desc := "(LOverAndBack$Rows;I)V" } : Jvm.MethodName)) ∈ am_tbl := am_tbl_t (List.mem_append_right _ (List.mem_append_left _ (List.mem_of_getElem? (l := tables_1_2) (i := 233) rfl))) rfl
theorem w_475 : (Jvm.Cond.instanceMethod ({ cls := "OverAndBack$Screen", name := "showScene", desc := "(LOverAndBack$Rows;I)V" } : Jvm.MethodName)) ∈ am_tbl := am_tbl_t (List.mem_append_right _ (List.mem_append_left _ (List.mem_of_getElem? (l := tables_1_2) (i := 235) rfl))) rfl
theorem w_476 : (Jvm.Cond.code ({ cls := "OverAndBack$Screen", name := "showScene", desc := "(LOverAndBack$Rows;I)V" } : Jvm.MethodName) prog_11_method_7_code (4 : Nat) (Option.none : Option Jvm.ClassFile.FieldType)) ∈ am_tbl := am_tbl_t (List.mem_append_right _ (List.mem_append_left _ (List.mem_of_getElem? (l := tables_1_2) (i := 236) rfl))) rfl
theorem w_477 : (Jvm.Cond.methodLink "OverAndBack$Screen" (47 : Nat) ({ cls := "OverAndBack$Screen", name := "showBreak", desc := "(LOverAndBack$Rows;I)V" } : Jvm.MethodName)) ∈ am_tbl := am_tbl_t (List.mem_append_right _ (List.mem_append_left _ (List.mem_of_getElem? (l := tables_1_2) (i := 237) rfl))) rfl
theorem w_479 : (Jvm.Cond.instanceMethod ({ cls := "OverAndBack$Screen", name := "showBreak", desc := "(LOverAndBack$Rows;I)V" } : Jvm.MethodName)) ∈ am_tbl := am_tbl_t (List.mem_append_right _ (List.mem_append_left _ (List.mem_of_getElem? (l := tables_1_2) (i := 239) rfl))) rfl
theorem w_480 : (Jvm.Cond.code ({ cls := "OverAndBack$Screen", name := "showBreak", desc := "(LOverAndBack$Rows;I)V" } : Jvm.MethodName) prog_11_method_8_code (4 : Nat) (Option.none : Option Jvm.ClassFile.FieldType)) ∈ am_tbl := am_tbl_t (List.mem_append_right _ (List.mem_append_right _ (List.mem_append_left _ (List.mem_of_getElem? (l := tables_1_3) (i := 0) rfl)))) rfl
theorem w_481 : (Jvm.Cond.methodLink "OverAndBack" (306 : Nat) ({ cls := "OverAndBack$Routes", name := "measure", desc := "(LOverAndBack$Evening;LOverAndBack$Screen;)V" } : Jvm.MethodName)) ∈ am_tbl := am_tbl_t (List.mem_append_right _ (List.mem_append_right _ (List.mem_append_left _ (List.mem_of_getElem? (l := tables_1_3) (i := 1) rfl)))) rfl
theorem w_482 : (Jvm.Cond.instanceMethod ({ cls := "OverAndBack$Routes", name := "measure", desc := "(LOverAndBack$Evening;LOverAndBack$Screen;)V" } : Jvm.MethodName)) ∈ am_tbl := am_tbl_t (List.mem_append_right _ (List.mem_append_right _ (List.mem_append_left _ (List.mem_of_getElem? (l := tables_1_3) (i := 2) rfl)))) rfl
theorem w_483 : (Jvm.Cond.selects "OverAndBack$Routes" ({ cls := "OverAndBack$Routes", name := "measure", desc := "(LOverAndBack$Evening;LOverAndBack$Screen;)V" } : Jvm.MethodName) ({ cls := "OverAndBack$Routes", name := "measure", desc := "(LOverAndBack$Evening;LOverAndBack$Screen;)V" } : Jvm.MethodName)) ∈ am_tbl := am_tbl_t (List.mem_append_right _ (List.mem_append_right _ (List.mem_append_left _ (List.mem_of_getElem? (l := tables_1_3) (i := 3) rfl)))) rfl
theorem w_484 : (Jvm.Cond.code ({ cls := "OverAndBack$Routes", name := "measure", desc := "(LOverAndBack$Evening;LOverAndBack$Screen;)V" } : Jvm.MethodName) prog_9_method_2_code (5 : Nat) (Option.none : Option Jvm.ClassFile.FieldType)) ∈ am_tbl := am_tbl_t (List.mem_append_right _ (List.mem_append_right _ (List.mem_append_left _ (List.mem_of_getElem? (l := tables_1_3) (i := 4) rfl)))) rfl
theorem w_485 : (Jvm.Cond.methodLink "OverAndBack$Routes" (28 : Nat) ({ cls := "java/lang/Math", name := "min", desc := "(II)I" } : Jvm.MethodName)) ∈ am_tbl := am_tbl_t (List.mem_append_right _ (List.mem_append_right _ (List.mem_append_left _ (List.mem_of_getElem? (l := tables_1_3) (i := 5) rfl)))) rfl
theorem w_486 : (Jvm.Cond.methodLink "OverAndBack$Routes" (43 : Nat) ({ cls := "OverAndBack$Routes", name := "greatestAt", desc := "(LOverAndBack$Evening;LOverAndBack$Screen;II)I" } : Jvm.MethodName)) ∈ am_tbl := am_tbl_t (List.mem_append_right _ (List.mem_append_right _ (List.mem_append_left _ (List.mem_of_getElem? (l := tables_1_3) (i := 6) rfl)))) rfl
theorem w_488 : (Jvm.Cond.instanceMethod ({ cls := "OverAndBack$Routes", name := "greatestAt", desc := "(LOverAndBack$Evening;LOverAndBack$Screen;II)I" } : Jvm.MethodName)) ∈ am_tbl := am_tbl_t (List.mem_append_right _ (List.mem_append_right _ (List.mem_append_left _ (List.mem_of_getElem? (l := tables_1_3) (i := 8) rfl)))) rfl
theorem w_489 : (Jvm.Cond.code ({ cls := "OverAndBack$Routes", name := "greatestAt", desc := "(LOverAndBack$Evening;LOverAndBack$Screen;II)I" } : Jvm.MethodName) prog_9_method_5_code (7 : Nat) (Option.some Jvm.ClassFile.FieldType.int)) ∈ am_tbl := am_tbl_t (List.mem_append_right _ (List.mem_append_right _ (List.mem_append_left _ (List.mem_of_getElem? (l := tables_1_3) (i := 9) rfl)))) rfl
theorem w_490 : (Jvm.Cond.methodLink "OverAndBack$Routes" (54 : Nat) ({ cls := "OverAndBack$Screen", name := "worthOf", desc := "(II)I" } : Jvm.MethodName)) ∈ am_tbl := am_tbl_t (List.mem_append_right _ (List.mem_append_right _ (List.mem_append_left _ (List.mem_of_getElem? (l := tables_1_3) (i := 10) rfl)))) rfl
theorem w_491 : (Jvm.Cond.instanceMethod ({ cls := "OverAndBack$Screen", name := "worthOf", desc := "(II)I" } : Jvm.MethodName)) ∈ am_tbl := am_tbl_t (List.mem_append_right _ (List.mem_append_right _ (List.mem_append_left _ (List.mem_of_getElem? (l := tables_1_3) (i := 11) rfl)))) rfl
theorem w_492 : (Jvm.Cond.selects "OverAndBack$Screen" ({ cls := "OverAndBack$Screen", name := "worthOf", desc := "(II)I" } : Jvm.MethodName) ({ cls := "OverAndBack$Screen", name := "worthOf", desc := "(II)I" } : Jvm.MethodName)) ∈ am_tbl := am_tbl_t (List.mem_append_right _ (List.mem_append_right _ (List.mem_append_left _ (List.mem_of_getElem? (l := tables_1_3) (i := 12) rfl)))) rfl
theorem w_493 : (Jvm.Cond.code ({ cls := "OverAndBack$Screen", name := "worthOf", desc := "(II)I" } : Jvm.MethodName) prog_11_method_11_code (3 : Nat) (Option.some Jvm.ClassFile.FieldType.int)) ∈ am_tbl := am_tbl_t (List.mem_append_right _ (List.mem_append_right _ (List.mem_append_left _ (List.mem_of_getElem? (l := tables_1_3) (i := 13) rfl)))) rfl
theorem w_494 : (Jvm.Cond.methodLink "OverAndBack$Routes" (47 : Nat) ({ cls := "OverAndBack$Routes", name := "worthFrom", desc := "(II)I" } : Jvm.MethodName)) ∈ am_tbl := am_tbl_t (List.mem_append_right _ (List.mem_append_right _ (List.mem_append_left _ (List.mem_of_getElem? (l := tables_1_3) (i := 14) rfl)))) rfl
theorem w_495 : (Jvm.Cond.instanceMethod ({ cls := "OverAndBack$Routes", name := "worthFrom", desc := "(II)I" } : Jvm.MethodName)) ∈ am_tbl := am_tbl_t (List.mem_append_right _ (List.mem_append_right _ (List.mem_append_left _ (List.mem_of_getElem? (l := tables_1_3) (i := 15) rfl)))) rfl
theorem w_496 : (Jvm.Cond.selects "OverAndBack$Routes" ({ cls := "OverAndBack$Routes", name := "worthFrom", desc := "(II)I" } : Jvm.MethodName) ({ cls := "OverAndBack$Routes", name := "worthFrom", desc := "(II)I" } : Jvm.MethodName)) ∈ am_tbl := am_tbl_t (List.mem_append_right _ (List.mem_append_right _ (List.mem_append_left _ (List.mem_of_getElem? (l := tables_1_3) (i := 16) rfl)))) rfl
theorem w_497 : (Jvm.Cond.code ({ cls := "OverAndBack$Routes", name := "worthFrom", desc := "(II)I" } : Jvm.MethodName) prog_9_method_3_code (3 : Nat) (Option.some Jvm.ClassFile.FieldType.int)) ∈ am_tbl := am_tbl_t (List.mem_append_right _ (List.mem_append_right _ (List.mem_append_left _ (List.mem_of_getElem? (l := tables_1_3) (i := 17) rfl)))) rfl
theorem w_498 : (Jvm.Cond.methodLink "OverAndBack$Routes" (62 : Nat) ({ cls := "OverAndBack$Routes", name := "worthByGoing", desc := "(LOverAndBack$Screen;III)I" } : Jvm.MethodName)) ∈ am_tbl := am_tbl_t (List.mem_append_right _ (List.mem_append_right _ (List.mem_append_left _ (List.mem_of_getElem? (l := tables_1_3) (i := 18) rfl)))) rfl
theorem w_500 : (Jvm.Cond.instanceMethod ({ cls := "OverAndBack$Routes", name := "worthByGoing", desc := "(LOverAndBack$Screen;III)I" } : Jvm.MethodName)) ∈ am_tbl := am_tbl_t (List.mem_append_right _ (List.mem_append_right _ (List.mem_append_left _ (List.mem_of_getElem? (l := tables_1_3) (i := 20) rfl)))) rfl
theorem w_501 : (Jvm.Cond.code ({ cls := "OverAndBack$Routes", name := "worthByGoing", desc := "(LOverAndBack$Screen;III)I" } : Jvm.MethodName) prog_9_method_6_code (5 : Nat) (Option.some Jvm.ClassFile.FieldType.int)) ∈ am_tbl := am_tbl_t (List.mem_append_right _ (List.mem_append_right _ (List.mem_append_left _ (List.mem_of_getElem? (l := tables_1_3) (i := 21) rfl)))) rfl
theorem w_502 : (Jvm.Cond.methodLink "OverAndBack$Routes" (66 : Nat) ({ cls := "java/lang/Math", name := "max", desc := "(II)I" } : Jvm.MethodName)) ∈ am_tbl := am_tbl_t (List.mem_append_right _ (List.mem_append_right _ (List.mem_append_left _ (List.mem_of_getElem? (l := tables_1_3) (i := 22) rfl)))) rfl
theorem w_503 : (Jvm.Cond.methodLink "OverAndBack" (313 : Nat) ({ cls := "OverAndBack$Plan", name := "clear", desc := "()V" } : Jvm.MethodName)) ∈ am_tbl := am_tbl_t (List.mem_append_right _ (List.mem_append_right _ (List.mem_append_left _ (List.mem_of_getElem? (l := tables_1_3) (i := 23) rfl)))) rfl
theorem w_504 : (Jvm.Cond.instanceMethod ({ cls := "OverAndBack$Plan", name := "clear", desc := "()V" } : Jvm.MethodName)) ∈ am_tbl := am_tbl_t (List.mem_append_right _ (List.mem_append_right _ (List.mem_append_left _ (List.mem_of_getElem? (l := tables_1_3) (i := 24) rfl)))) rfl
theorem w_505 : (Jvm.Cond.selects "OverAndBack$Plan" ({ cls := "OverAndBack$Plan", name := "clear", desc := "()V" } : Jvm.MethodName) ({ cls := "OverAndBack$Plan", name := "clear", desc := "()V" } : Jvm.MethodName)) ∈ am_tbl := am_tbl_t (List.mem_append_right _ (List.mem_append_right _ (List.mem_append_left _ (List.mem_of_getElem? (l := tables_1_3) (i := 25) rfl)))) rfl
theorem w_506 : (Jvm.Cond.code ({ cls := "OverAndBack$Plan", name := "clear", desc := "()V" } : Jvm.MethodName) prog_7_method_2_code (1 : Nat) (Option.none : Option Jvm.ClassFile.FieldType)) ∈ am_tbl := am_tbl_t (List.mem_append_right _ (List.mem_append_right _ (List.mem_append_left _ (List.mem_of_getElem? (l := tables_1_3) (i := 26) rfl)))) rfl
theorem w_507 : (Jvm.Cond.methodLink "OverAndBack" (285 : Nat) ({ cls := "OverAndBack$Past", name := "clear", desc := "()V" } : Jvm.MethodName)) ∈ am_tbl := am_tbl_t (List.mem_append_right _ (List.mem_append_right _ (List.mem_append_left _ (List.mem_of_getElem? (l := tables_1_3) (i := 27) rfl)))) rfl
theorem w_508 : (Jvm.Cond.instanceMethod ({ cls := "OverAndBack$Past", name := "clear", desc := "()V" } : Jvm.MethodName)) ∈ am_tbl := am_tbl_t (List.mem_append_right _ (List.mem_append_right _ (List.mem_append_left _ (List.mem_of_getElem? (l := tables_1_3) (i := 28) rfl)))) rfl
theorem w_509 : (Jvm.Cond.selects "OverAndBack$Past" ({ cls := "OverAndBack$Past", name := "clear", desc := "()V" } : Jvm.MethodName) ({ cls := "OverAndBack$Past", name := "clear", desc := "()V" } : Jvm.MethodName)) ∈ am_tbl := am_tbl_t (List.mem_append_right _ (List.mem_append_right _ (List.mem_append_left _ (List.mem_of_getElem? (l := tables_1_3) (i := 29) rfl)))) rfl
theorem w_510 : (Jvm.Cond.code ({ cls := "OverAndBack$Past", name := "clear", desc := "()V" } : Jvm.MethodName) prog_6_method_2_code (1 : Nat) (Option.none : Option Jvm.ClassFile.FieldType)) ∈ am_tbl := am_tbl_t (List.mem_append_right _ (List.mem_append_right _ (List.mem_append_left _ (List.mem_of_getElem? (l := tables_1_3) (i := 30) rfl)))) rfl
theorem w_511 : (Jvm.Cond.fieldLink "OverAndBack" (9 : Nat) "OverAndBack" "text" "[C") ∈ am_tbl := am_tbl_t (List.mem_append_right _ (List.mem_append_right _ (List.mem_append_left _ (List.mem_of_getElem? (l := tables_1_3) (i := 31) rfl)))) rfl
theorem w_512 : (Jvm.Cond.fieldLink "OverAndBack" (13 : Nat) "OverAndBack" "length" "I") ∈ am_tbl := am_tbl_t (List.mem_append_right _ (List.mem_append_right _ (List.mem_append_left _ (List.mem_of_getElem? (l := tables_1_3) (i := 32) rfl)))) rfl
theorem w_513 : (Jvm.Cond.fieldLink "OverAndBack" (20 : Nat) "OverAndBack" "reader" "LOverAndBack$Reader;") ∈ am_tbl := am_tbl_t (List.mem_append_right _ (List.mem_append_right _ (List.mem_append_left _ (List.mem_of_getElem? (l := tables_1_3) (i := 33) rfl)))) rfl
theorem w_514 : (Jvm.Cond.fieldLink "OverAndBack" (27 : Nat) "OverAndBack" "evening" "LOverAndBack$Evening;") ∈ am_tbl := am_tbl_t (List.mem_append_right _ (List.mem_append_right _ (List.mem_append_left _ (List.mem_of_getElem? (l := tables_1_3) (i := 34) rfl)))) rfl
theorem w_515 : (Jvm.Cond.fieldLink "OverAndBack" (31 : Nat) "OverAndBack" "spare" "LOverAndBack$Evening;") ∈ am_tbl := am_tbl_t (List.mem_append_right _ (List.mem_append_right _ (List.mem_append_left _ (List.mem_of_getElem? (l := tables_1_3) (i := 35) rfl)))) rfl
theorem w_516 : (Jvm.Cond.fieldLink "OverAndBack" (37 : Nat) "OverAndBack" "facts" "LOverAndBack$Facts;") ∈ am_tbl := am_tbl_t (List.mem_append_right _ (List.mem_append_right _ (List.mem_append_left _ (List.mem_of_getElem? (l := tables_1_3) (i := 36) rfl)))) rfl
theorem w_517 : (Jvm.Cond.fieldLink "OverAndBack" (44 : Nat) "OverAndBack" "screen" "LOverAndBack$Screen;") ∈ am_tbl := am_tbl_t (List.mem_append_right _ (List.mem_append_right _ (List.mem_append_left _ (List.mem_of_getElem? (l := tables_1_3) (i := 37) rfl)))) rfl
theorem w_518 : (Jvm.Cond.fieldLink "OverAndBack" (48 : Nat) "OverAndBack" "trial" "LOverAndBack$Screen;") ∈ am_tbl := am_tbl_t (List.mem_append_right _ (List.mem_append_right _ (List.mem_append_left _ (List.mem_of_getElem? (l := tables_1_3) (i := 38) rfl)))) rfl
theorem w_519 : (Jvm.Cond.fieldLink "OverAndBack" (54 : Nat) "OverAndBack" "walk" "LOverAndBack$Walk;") ∈ am_tbl := am_tbl_t (List.mem_append_right _ (List.mem_append_right _ (List.mem_append_left _ (List.mem_of_getElem? (l := tables_1_3) (i := 39) rfl)))) rfl
theorem w_520 : (Jvm.Cond.fieldLink "OverAndBack" (61 : Nat) "OverAndBack" "routes" "LOverAndBack$Routes;") ∈ am_tbl := am_tbl_t (List.mem_append_right _ (List.mem_append_right _ (List.mem_append_left _ (List.mem_of_getElem? (l := tables_1_3) (i := 40) rfl)))) rfl
theorem w_521 : (Jvm.Cond.fieldLink "OverAndBack" (70 : Nat) "OverAndBack" "learning" "LOverAndBack$Learning;") ∈ am_tbl := am_tbl_t (List.mem_append_right _ (List.mem_append_right _ (List.mem_append_left _ (List.mem_of_getElem? (l := tables_1_3) (i := 41) rfl)))) rfl
theorem w_522 : (Jvm.Cond.fieldLink "OverAndBack" (77 : Nat) "OverAndBack" "box" "LOverAndBack$Box;") ∈ am_tbl := am_tbl_t (List.mem_append_right _ (List.mem_append_right _ (List.mem_append_left _ (List.mem_of_getElem? (l := tables_1_3) (i := 42) rfl)))) rfl
theorem w_523 : (Jvm.Cond.fieldLink "OverAndBack" (84 : Nat) "OverAndBack" "thePlan" "LOverAndBack$Plan;") ∈ am_tbl := am_tbl_t (List.mem_append_right _ (List.mem_append_right _ (List.mem_append_left _ (List.mem_of_getElem? (l := tables_1_3) (i := 43) rfl)))) rfl
theorem w_524 : (Jvm.Cond.fieldLink "OverAndBack" (91 : Nat) "OverAndBack" "past" "LOverAndBack$Past;") ∈ am_tbl := am_tbl_t (List.mem_append_right _ (List.mem_append_right _ (List.mem_append_left _ (List.mem_of_getElem? (l := tables_1_3) (i := 44) rfl)))) rfl
theorem w_525 : (Jvm.Cond.fieldLink "OverAndBack" (95 : Nat) "OverAndBack" "firstKept" "LOverAndBack$Plan;") ∈ am_tbl := am_tbl_t (List.mem_append_right _ (List.mem_append_right _ (List.mem_append_left _ (List.mem_of_getElem? (l := tables_1_3) (i := 45) rfl)))) rfl
theorem w_526 : (Jvm.Cond.fieldLink "OverAndBack" (98 : Nat) "OverAndBack" "secondKept" "LOverAndBack$Plan;") ∈ am_tbl := am_tbl_t (List.mem_append_right _ (List.mem_append_right _ (List.mem_append_left _ (List.mem_of_getElem? (l := tables_1_3) (i := 46) rfl)))) rfl
theorem w_527 : (Jvm.Cond.fieldLink "OverAndBack" (101 : Nat) "OverAndBack" "kept" "I") ∈ am_tbl := am_tbl_t (List.mem_append_right _ (List.mem_append_right _ (List.mem_append_left _ (List.mem_of_getElem? (l := tables_1_3) (i := 47) rfl)))) rfl
theorem w_563 : (Jvm.Cond.arrayClass Jvm.ClassFile.FieldType.byte) ∈ am_tbl := am_tbl_t (List.mem_append_right _ (List.mem_append_right _ (List.mem_append_left _ (List.mem_of_getElem? (l := tables_1_3) (i := 83) rfl)))) rfl
theorem w_565 : (Jvm.Cond.instanceMethod ({ cls := "OverAndBack", name := "write", desc := "(I)I" } : Jvm.MethodName)) ∈ am_tbl := am_tbl_t (List.mem_append_right _ (List.mem_append_right _ (List.mem_append_left _ (List.mem_of_getElem? (l := tables_1_3) (i := 85) rfl)))) rfl
theorem w_566 : (Jvm.Cond.selects "OverAndBack" ({ cls := "OverAndBack", name := "write", desc := "(I)I" } : Jvm.MethodName) ({ cls := "OverAndBack", name := "write", desc := "(I)I" } : Jvm.MethodName)) ∈ am_tbl := am_tbl_t (List.mem_append_right _ (List.mem_append_right _ (List.mem_append_left _ (List.mem_of_getElem? (l := tables_1_3) (i := 86) rfl)))) rfl
theorem w_567 : (Jvm.Cond.code ({ cls := "OverAndBack", name := "write", desc := "(I)I" } : Jvm.MethodName) prog_1_method_2_code (2 : Nat) (Option.some Jvm.ClassFile.FieldType.int)) ∈ am_tbl := am_tbl_t (List.mem_append_right _ (List.mem_append_right _ (List.mem_append_left _ (List.mem_of_getElem? (l := tables_1_3) (i := 87) rfl)))) rfl
theorem w_569 : (Jvm.Cond.instanceMethod ({ cls := "OverAndBack", name := "wipe", desc := "()I" } : Jvm.MethodName)) ∈ am_tbl := am_tbl_t (List.mem_append_right _ (List.mem_append_right _ (List.mem_append_left _ (List.mem_of_getElem? (l := tables_1_3) (i := 89) rfl)))) rfl
theorem w_570 : (Jvm.Cond.selects "OverAndBack" ({ cls := "OverAndBack", name := "wipe", desc := "()I" } : Jvm.MethodName) ({ cls := "OverAndBack", name := "wipe", desc := "()I" } : Jvm.MethodName)) ∈ am_tbl := am_tbl_t (List.mem_append_right _ (List.mem_append_right _ (List.mem_append_left _ (List.mem_of_getElem? (l := tables_1_3) (i := 90) rfl)))) rfl
theorem w_571 : (Jvm.Cond.code ({ cls := "OverAndBack", name := "wipe", desc := "()I" } : Jvm.MethodName) prog_1_method_3_code (2 : Nat) (Option.some Jvm.ClassFile.FieldType.int)) ∈ am_tbl := am_tbl_t (List.mem_append_right _ (List.mem_append_right _ (List.mem_append_left _ (List.mem_of_getElem? (l := tables_1_3) (i := 91) rfl)))) rfl
theorem w_573 : (Jvm.Cond.instanceMethod ({ cls := "OverAndBack", name := "fault", desc := "()I" } : Jvm.MethodName)) ∈ am_tbl := am_tbl_t (List.mem_append_right _ (List.mem_append_right _ (List.mem_append_left _ (List.mem_of_getElem? (l := tables_1_3) (i := 93) rfl)))) rfl
theorem w_574 : (Jvm.Cond.selects "OverAndBack" ({ cls := "OverAndBack", name := "fault", desc := "()I" } : Jvm.MethodName) ({ cls := "OverAndBack", name := "fault", desc := "()I" } : Jvm.MethodName)) ∈ am_tbl := am_tbl_t (List.mem_append_right _ (List.mem_append_right _ (List.mem_append_left _ (List.mem_of_getElem? (l := tables_1_3) (i := 94) rfl)))) rfl
theorem w_575 : (Jvm.Cond.code ({ cls := "OverAndBack", name := "fault", desc := "()I" } : Jvm.MethodName) prog_1_method_4_code (1 : Nat) (Option.some Jvm.ClassFile.FieldType.int)) ∈ am_tbl := am_tbl_t (List.mem_append_right _ (List.mem_append_right _ (List.mem_append_left _ (List.mem_of_getElem? (l := tables_1_3) (i := 95) rfl)))) rfl
theorem w_577 : (Jvm.Cond.instanceMethod ({ cls := "OverAndBack", name := "lay", desc := "()I" } : Jvm.MethodName)) ∈ am_tbl := am_tbl_t (List.mem_append_right _ (List.mem_append_right _ (List.mem_append_left _ (List.mem_of_getElem? (l := tables_1_3) (i := 97) rfl)))) rfl
theorem w_578 : (Jvm.Cond.selects "OverAndBack" ({ cls := "OverAndBack", name := "lay", desc := "()I" } : Jvm.MethodName) ({ cls := "OverAndBack", name := "lay", desc := "()I" } : Jvm.MethodName)) ∈ am_tbl := am_tbl_t (List.mem_append_right _ (List.mem_append_right _ (List.mem_append_left _ (List.mem_of_getElem? (l := tables_1_3) (i := 98) rfl)))) rfl
theorem w_579 : (Jvm.Cond.code ({ cls := "OverAndBack", name := "lay", desc := "()I" } : Jvm.MethodName) prog_1_method_5_code (2 : Nat) (Option.some Jvm.ClassFile.FieldType.int)) ∈ am_tbl := am_tbl_t (List.mem_append_right _ (List.mem_append_right _ (List.mem_append_left _ (List.mem_of_getElem? (l := tables_1_3) (i := 99) rfl)))) rfl
theorem w_581 : (Jvm.Cond.instanceMethod ({ cls := "OverAndBack", name := "minute", desc := "(III)I" } : Jvm.MethodName)) ∈ am_tbl := am_tbl_t (List.mem_append_right _ (List.mem_append_right _ (List.mem_append_left _ (List.mem_of_getElem? (l := tables_1_3) (i := 101) rfl)))) rfl
theorem w_582 : (Jvm.Cond.selects "OverAndBack" ({ cls := "OverAndBack", name := "minute", desc := "(III)I" } : Jvm.MethodName) ({ cls := "OverAndBack", name := "minute", desc := "(III)I" } : Jvm.MethodName)) ∈ am_tbl := am_tbl_t (List.mem_append_right _ (List.mem_append_right _ (List.mem_append_left _ (List.mem_of_getElem? (l := tables_1_3) (i := 102) rfl)))) rfl
theorem w_583 : (Jvm.Cond.code ({ cls := "OverAndBack", name := "minute", desc := "(III)I" } : Jvm.MethodName) prog_1_method_6_code (5 : Nat) (Option.some Jvm.ClassFile.FieldType.int)) ∈ am_tbl := am_tbl_t (List.mem_append_right _ (List.mem_append_right _ (List.mem_append_left _ (List.mem_of_getElem? (l := tables_1_3) (i := 103) rfl)))) rfl
theorem w_584 : (Jvm.Cond.methodLink "OverAndBack" (128 : Nat) ({ cls := "OverAndBack", name := "isStation", desc := "(I)Z" } : Jvm.MethodName)) ∈ am_tbl := am_tbl_t (List.mem_append_right _ (List.mem_append_right _ (List.mem_append_left _ (List.mem_of_getElem? (l := tables_1_3) (i := 104) rfl)))) rfl
theorem w_586 : (Jvm.Cond.instanceMethod ({ cls := "OverAndBack", name := "isStation", desc := "(I)Z" } : Jvm.MethodName)) ∈ am_tbl := am_tbl_t (List.mem_append_right _ (List.mem_append_right _ (List.mem_append_left _ (List.mem_of_getElem? (l := tables_1_3) (i := 106) rfl)))) rfl
theorem w_587 : (Jvm.Cond.code ({ cls := "OverAndBack", name := "isStation", desc := "(I)Z" } : Jvm.MethodName) prog_1_method_29_code (2 : Nat) (Option.some Jvm.ClassFile.FieldType.boolean)) ∈ am_tbl := am_tbl_t (List.mem_append_right _ (List.mem_append_right _ (List.mem_append_left _ (List.mem_of_getElem? (l := tables_1_3) (i := 107) rfl)))) rfl
theorem w_588 : (Jvm.Cond.methodLink "OverAndBack" (132 : Nat) ({ cls := "OverAndBack", name := "isMinute", desc := "(I)Z" } : Jvm.MethodName)) ∈ am_tbl := am_tbl_t (List.mem_append_right _ (List.mem_append_right _ (List.mem_append_left _ (List.mem_of_getElem? (l := tables_1_3) (i := 108) rfl)))) rfl
theorem w_590 : (Jvm.Cond.instanceMethod ({ cls := "OverAndBack", name := "isMinute", desc := "(I)Z" } : Jvm.MethodName)) ∈ am_tbl := am_tbl_t (List.mem_append_right _ (List.mem_append_right _ (List.mem_append_left _ (List.mem_of_getElem? (l := tables_1_3) (i := 110) rfl)))) rfl
theorem w_591 : (Jvm.Cond.code ({ cls := "OverAndBack", name := "isMinute", desc := "(I)Z" } : Jvm.MethodName) prog_1_method_30_code (2 : Nat) (Option.some Jvm.ClassFile.FieldType.boolean)) ∈ am_tbl := am_tbl_t (List.mem_append_right _ (List.mem_append_right _ (List.mem_append_left _ (List.mem_of_getElem? (l := tables_1_3) (i := 111) rfl)))) rfl
theorem w_592 : (Jvm.Cond.methodLink "OverAndBack" (135 : Nat) ({ cls := "OverAndBack$Screen", name := "worthOf", desc := "(II)I" } : Jvm.MethodName)) ∈ am_tbl := am_tbl_t (List.mem_append_right _ (List.mem_append_right _ (List.mem_append_left _ (List.mem_of_getElem? (l := tables_1_3) (i := 112) rfl)))) rfl
theorem w_593 : (Jvm.Cond.methodLink "OverAndBack" (139 : Nat) ({ cls := "OverAndBack$Screen", name := "isBreak", desc := "(II)Z" } : Jvm.MethodName)) ∈ am_tbl := am_tbl_t (List.mem_append_right _ (List.mem_append_right _ (List.mem_append_left _ (List.mem_of_getElem? (l := tables_1_3) (i := 113) rfl)))) rfl
theorem w_594 : (Jvm.Cond.instanceMethod ({ cls := "OverAndBack$Screen", name := "isBreak", desc := "(II)Z" } : Jvm.MethodName)) ∈ am_tbl := am_tbl_t (List.mem_append_right _ (List.mem_append_right _ (List.mem_append_left _ (List.mem_of_getElem? (l := tables_1_3) (i := 114) rfl)))) rfl
theorem w_595 : (Jvm.Cond.selects "OverAndBack$Screen" ({ cls := "OverAndBack$Screen", name := "isBreak", desc := "(II)Z" } : Jvm.MethodName) ({ cls := "OverAndBack$Screen", name := "isBreak", desc := "(II)Z" } : Jvm.MethodName)) ∈ am_tbl := am_tbl_t (List.mem_append_right _ (List.mem_append_right _ (List.mem_append_left _ (List.mem_of_getElem? (l := tables_1_3) (i := 115) rfl)))) rfl
theorem w_596 : (Jvm.Cond.code ({ cls := "OverAndBack$Screen", name := "isBreak", desc := "(II)Z" } : Jvm.MethodName) prog_11_method_14_code (3 : Nat) (Option.some Jvm.ClassFile.FieldType.boolean)) ∈ am_tbl := am_tbl_t (List.mem_append_right _ (List.mem_append_right _ (List.mem_append_left _ (List.mem_of_getElem? (l := tables_1_3) (i := 116) rfl)))) rfl
theorem w_597 : (Jvm.Cond.methodLink "OverAndBack" (143 : Nat) ({ cls := "OverAndBack$Screen", name := "factOf", desc := "(II)I" } : Jvm.MethodName)) ∈ am_tbl := am_tbl_t (List.mem_append_right _ (List.mem_append_right _ (List.mem_append_left _ (List.mem_of_getElem? (l := tables_1_3) (i := 117) rfl)))) rfl
theorem w_598 : (Jvm.Cond.instanceMethod ({ cls := "OverAndBack$Screen", name := "factOf", desc := "(II)I" } : Jvm.MethodName)) ∈ am_tbl := am_tbl_t (List.mem_append_right _ (List.mem_append_right _ (List.mem_append_left _ (List.mem_of_getElem? (l := tables_1_3) (i := 118) rfl)))) rfl
theorem w_599 : (Jvm.Cond.selects "OverAndBack$Screen" ({ cls := "OverAndBack$Screen", name := "factOf", desc := "(II)I" } : Jvm.MethodName) ({ cls := "OverAndBack$Screen", name := "factOf", desc := "(II)I" } : Jvm.MethodName)) ∈ am_tbl := am_tbl_t (List.mem_append_right _ (List.mem_append_right _ (List.mem_append_left _ (List.mem_of_getElem? (l := tables_1_3) (i := 119) rfl)))) rfl
theorem w_600 : (Jvm.Cond.code ({ cls := "OverAndBack$Screen", name := "factOf", desc := "(II)I" } : Jvm.MethodName) prog_11_method_12_code (3 : Nat) (Option.some Jvm.ClassFile.FieldType.int)) ∈ am_tbl := am_tbl_t (List.mem_append_right _ (List.mem_append_right _ (List.mem_append_left _ (List.mem_of_getElem? (l := tables_1_3) (i := 120) rfl)))) rfl
theorem w_602 : (Jvm.Cond.instanceMethod ({ cls := "OverAndBack", name := "known", desc := "(I)I" } : Jvm.MethodName)) ∈ am_tbl := am_tbl_t (List.mem_append_right _ (List.mem_append_right _ (List.mem_append_left _ (List.mem_of_getElem? (l := tables_1_3) (i := 122) rfl)))) rfl
theorem w_603 : (Jvm.Cond.selects "OverAndBack" ({ cls := "OverAndBack", name := "known", desc := "(I)I" } : Jvm.MethodName) ({ cls := "OverAndBack", name := "known", desc := "(I)I" } : Jvm.MethodName)) ∈ am_tbl := am_tbl_t (List.mem_append_right _ (List.mem_append_right _ (List.mem_append_left _ (List.mem_of_getElem? (l := tables_1_3) (i := 123) rfl)))) rfl
theorem w_604 : (Jvm.Cond.code ({ cls := "OverAndBack", name := "known", desc := "(I)I" } : Jvm.MethodName) prog_1_method_7_code (2 : Nat) (Option.some Jvm.ClassFile.FieldType.int)) ∈ am_tbl := am_tbl_t (List.mem_append_right _ (List.mem_append_right _ (List.mem_append_left _ (List.mem_of_getElem? (l := tables_1_3) (i := 124) rfl)))) rfl
theorem w_605 : (Jvm.Cond.methodLink "OverAndBack" (146 : Nat) ({ cls := "OverAndBack", name := "isSet", desc := "(I)Z" } : Jvm.MethodName)) ∈ am_tbl := am_tbl_t (List.mem_append_right _ (List.mem_append_right _ (List.mem_append_left _ (List.mem_of_getElem? (l := tables_1_3) (i := 125) rfl)))) rfl
theorem w_606 : (Jvm.Cond.static ({ cls := "OverAndBack", name := "isSet", desc := "(I)Z" } : Jvm.MethodName)) ∈ am_tbl := am_tbl_t (List.mem_append_right _ (List.mem_append_right _ (List.mem_append_left _ (List.mem_of_getElem? (l := tables_1_3) (i := 126) rfl)))) rfl
theorem w_607 : (Jvm.Cond.code ({ cls := "OverAndBack", name := "isSet", desc := "(I)Z" } : Jvm.MethodName) prog_1_method_33_code (1 : Nat) (Option.some Jvm.ClassFile.FieldType.boolean)) ∈ am_tbl := am_tbl_t (List.mem_append_right _ (List.mem_append_right _ (List.mem_append_left _ (List.mem_of_getElem? (l := tables_1_3) (i := 127) rfl)))) rfl
theorem w_608 : (Jvm.Cond.methodLink "OverAndBack" (149 : Nat) ({ cls := "OverAndBack$Facts", name := "following", desc := "(I)I" } : Jvm.MethodName)) ∈ am_tbl := am_tbl_t (List.mem_append_right _ (List.mem_append_right _ (List.mem_append_left _ (List.mem_of_getElem? (l := tables_1_3) (i := 128) rfl)))) rfl
theorem w_609 : (Jvm.Cond.instanceMethod ({ cls := "OverAndBack$Facts", name := "following", desc := "(I)I" } : Jvm.MethodName)) ∈ am_tbl := am_tbl_t (List.mem_append_right _ (List.mem_append_right _ (List.mem_append_left _ (List.mem_of_getElem? (l := tables_1_3) (i := 129) rfl)))) rfl
theorem w_610 : (Jvm.Cond.selects "OverAndBack$Facts" ({ cls := "OverAndBack$Facts", name := "following", desc := "(I)I" } : Jvm.MethodName) ({ cls := "OverAndBack$Facts", name := "following", desc := "(I)I" } : Jvm.MethodName)) ∈ am_tbl := am_tbl_t (List.mem_append_right _ (List.mem_append_right _ (List.mem_append_left _ (List.mem_of_getElem? (l := tables_1_3) (i := 130) rfl)))) rfl
theorem w_611 : (Jvm.Cond.code ({ cls := "OverAndBack$Facts", name := "following", desc := "(I)I" } : Jvm.MethodName) prog_4_method_4_code (2 : Nat) (Option.some Jvm.ClassFile.FieldType.int)) ∈ am_tbl := am_tbl_t (List.mem_append_right _ (List.mem_append_right _ (List.mem_append_left _ (List.mem_of_getElem? (l := tables_1_3) (i := 131) rfl)))) rfl
theorem w_613 : (Jvm.Cond.instanceMethod ({ cls := "OverAndBack", name := "watcher", desc := "(II)I" } : Jvm.MethodName)) ∈ am_tbl := am_tbl_t (List.mem_append_right _ (List.mem_append_right _ (List.mem_append_left _ (List.mem_of_getElem? (l := tables_1_3) (i := 133) rfl)))) rfl
theorem w_614 : (Jvm.Cond.selects "OverAndBack" ({ cls := "OverAndBack", name := "watcher", desc := "(II)I" } : Jvm.MethodName) ({ cls := "OverAndBack", name := "watcher", desc := "(II)I" } : Jvm.MethodName)) ∈ am_tbl := am_tbl_t (List.mem_append_right _ (List.mem_append_right _ (List.mem_append_left _ (List.mem_of_getElem? (l := tables_1_3) (i := 134) rfl)))) rfl
theorem w_615 : (Jvm.Cond.code ({ cls := "OverAndBack", name := "watcher", desc := "(II)I" } : Jvm.MethodName) prog_1_method_8_code (3 : Nat) (Option.some Jvm.ClassFile.FieldType.int)) ∈ am_tbl := am_tbl_t (List.mem_append_right _ (List.mem_append_right _ (List.mem_append_left _ (List.mem_of_getElem? (l := tables_1_3) (i := 135) rfl)))) rfl
theorem w_616 : (Jvm.Cond.methodLink "OverAndBack" (153 : Nat) ({ cls := "OverAndBack", name := "isWatcher", desc := "(I)Z" } : Jvm.MethodName)) ∈ am_tbl := am_tbl_t (List.mem_append_right _ (List.mem_append_right _ (List.mem_append_left _ (List.mem_of_getElem? (l := tables_1_3) (i := 136) rfl)))) rfl
theorem w_618 : (Jvm.Cond.instanceMethod ({ cls := "OverAndBack", name := "isWatcher", desc := "(I)Z" } : Jvm.MethodName)) ∈ am_tbl := am_tbl_t (List.mem_append_right _ (List.mem_append_right _ (List.mem_append_left _ (List.mem_of_getElem? (l := tables_1_3) (i := 138) rfl)))) rfl
theorem w_619 : (Jvm.Cond.code ({ cls := "OverAndBack", name := "isWatcher", desc := "(I)Z" } : Jvm.MethodName) prog_1_method_31_code (2 : Nat) (Option.some Jvm.ClassFile.FieldType.boolean)) ∈ am_tbl := am_tbl_t (List.mem_append_right _ (List.mem_append_right _ (List.mem_append_left _ (List.mem_of_getElem? (l := tables_1_3) (i := 139) rfl)))) rfl
theorem w_620 : (Jvm.Cond.methodLink "OverAndBack" (156 : Nat) ({ cls := "OverAndBack", name := "follow", desc := "(ILOverAndBack$Screen;)V" } : Jvm.MethodName)) ∈ am_tbl := am_tbl_t (List.mem_append_right _ (List.mem_append_right _ (List.mem_append_left _ (List.mem_of_getElem? (l := tables_1_3) (i := 140) rfl)))) rfl
theorem w_622 : (Jvm.Cond.instanceMethod ({ cls := "OverAndBack", name := "follow", desc := "(ILOverAndBack$Screen;)V" } : Jvm.MethodName)) ∈ am_tbl := am_tbl_t (List.mem_append_right _ (List.mem_append_right _ (List.mem_append_left _ (List.mem_of_getElem? (l := tables_1_3) (i := 142) rfl)))) rfl
theorem w_623 : (Jvm.Cond.code ({ cls := "OverAndBack", name := "follow", desc := "(ILOverAndBack$Screen;)V" } : Jvm.MethodName) prog_1_method_37_code (3 : Nat) (Option.none : Option Jvm.ClassFile.FieldType)) ∈ am_tbl := am_tbl_t (List.mem_append_right _ (List.mem_append_right _ (List.mem_append_left _ (List.mem_of_getElem? (l := tables_1_3) (i := 143) rfl)))) rfl
theorem w_624 : (Jvm.Cond.methodLink "OverAndBack" (314 : Nat) ({ cls := "OverAndBack$Walk", name := "followPlan", desc := "(LOverAndBack$Evening;LOverAndBack$Screen;LOverAndBack$Plan;)V" } : Jvm.MethodName)) ∈ am_tbl := am_tbl_t (List.mem_append_right _ (List.mem_append_right _ (List.mem_append_left _ (List.mem_of_getElem? (l := tables_1_3) (i := 144) rfl)))) rfl
theorem w_625 : (Jvm.Cond.instanceMethod ({ cls := "OverAndBack$Walk", name := "followPlan", desc := "(LOverAndBack$Evening;LOverAndBack$Screen;LOverAndBack$Plan;)V" } : Jvm.MethodName)) ∈ am_tbl := am_tbl_t (List.mem_append_right _ (List.mem_append_right _ (List.mem_append_left _ (List.mem_of_getElem? (l := tables_1_3) (i := 145) rfl)))) rfl
theorem w_626 : (Jvm.Cond.selects "OverAndBack$Walk" ({ cls := "OverAndBack$Walk", name := "followPlan", desc := "(LOverAndBack$Evening;LOverAndBack$Screen;LOverAndBack$Plan;)V" } : Jvm.MethodName) ({ cls := "OverAndBack$Walk", name := "followPlan", desc := "(LOverAndBack$Evening;LOverAndBack$Screen;LOverAndBack$Plan;)V" } : Jvm.MethodName)) ∈ am_tbl := am_tbl_t (List.mem_append_right _ (List.mem_append_right _ (List.mem_append_left _ (List.mem_of_getElem? (l := tables_1_3) (i := 146) rfl)))) rfl
theorem w_627 : (Jvm.Cond.code ({ cls := "OverAndBack$Walk", name := "followPlan", desc := "(LOverAndBack$Evening;LOverAndBack$Screen;LOverAndBack$Plan;)V" } : Jvm.MethodName) prog_12_method_3_code (5 : Nat) (Option.none : Option Jvm.ClassFile.FieldType)) ∈ am_tbl := am_tbl_t (List.mem_append_right _ (List.mem_append_right _ (List.mem_append_left _ (List.mem_of_getElem? (l := tables_1_3) (i := 147) rfl)))) rfl
theorem w_628 : (Jvm.Cond.methodLink "OverAndBack$Walk" (67 : Nat) ({ cls := "OverAndBack$Walk", name := "sortOut", desc := "(LOverAndBack$Plan;I)I" } : Jvm.MethodName)) ∈ am_tbl := am_tbl_t (List.mem_append_right _ (List.mem_append_right _ (List.mem_append_left _ (List.mem_of_getElem? (l := tables_1_3) (i := 148) rfl)))) rfl
theorem w_629 : (Jvm.Cond.instanceMethod ({ cls := "OverAndBack$Walk", name := "sortOut", desc := "(LOverAndBack$Plan;I)I" } : Jvm.MethodName)) ∈ am_tbl := am_tbl_t (List.mem_append_right _ (List.mem_append_right _ (List.mem_append_left _ (List.mem_of_getElem? (l := tables_1_3) (i := 149) rfl)))) rfl
theorem w_630 : (Jvm.Cond.selects "OverAndBack$Walk" ({ cls := "OverAndBack$Walk", name := "sortOut", desc := "(LOverAndBack$Plan;I)I" } : Jvm.MethodName) ({ cls := "OverAndBack$Walk", name := "sortOut", desc := "(LOverAndBack$Plan;I)I" } : Jvm.MethodName)) ∈ am_tbl := am_tbl_t (List.mem_append_right _ (List.mem_append_right _ (List.mem_append_left _ (List.mem_of_getElem? (l := tables_1_3) (i := 150) rfl)))) rfl
theorem w_631 : (Jvm.Cond.code ({ cls := "OverAndBack$Walk", name := "sortOut", desc := "(LOverAndBack$Plan;I)I" } : Jvm.MethodName) prog_12_method_4_code (8 : Nat) (Option.some Jvm.ClassFile.FieldType.int)) ∈ am_tbl := am_tbl_t (List.mem_append_right _ (List.mem_append_right _ (List.mem_append_left _ (List.mem_of_getElem? (l := tables_1_3) (i := 151) rfl)))) rfl
theorem w_632 : (Jvm.Cond.methodLink "OverAndBack$Walk" (75 : Nat) ({ cls := "java/util/Arrays", name := "fill", desc := "([II)V" } : Jvm.MethodName)) ∈ am_tbl := am_tbl_t (List.mem_append_right _ (List.mem_append_right _ (List.mem_append_left _ (List.mem_of_getElem? (l := tables_1_3) (i := 152) rfl)))) rfl
theorem w_633 : (Jvm.Cond.methodLink "OverAndBack$Walk" (34 : Nat) ({ cls := "OverAndBack$Walk", name := "start", desc := "(I)V" } : Jvm.MethodName)) ∈ am_tbl := am_tbl_t (List.mem_append_right _ (List.mem_append_right _ (List.mem_append_left _ (List.mem_of_getElem? (l := tables_1_3) (i := 153) rfl)))) rfl
theorem w_635 : (Jvm.Cond.instanceMethod ({ cls := "OverAndBack$Walk", name := "start", desc := "(I)V" } : Jvm.MethodName)) ∈ am_tbl := am_tbl_t (List.mem_append_right _ (List.mem_append_right _ (List.mem_append_left _ (List.mem_of_getElem? (l := tables_1_3) (i := 155) rfl)))) rfl
theorem w_636 : (Jvm.Cond.code ({ cls := "OverAndBack$Walk", name := "start", desc := "(I)V" } : Jvm.MethodName) prog_12_method_6_code (2 : Nat) (Option.none : Option Jvm.ClassFile.FieldType)) ∈ am_tbl := am_tbl_t (List.mem_append_right _ (List.mem_append_right _ (List.mem_append_left _ (List.mem_of_getElem? (l := tables_1_3) (i := 156) rfl)))) rfl
theorem w_637 : (Jvm.Cond.methodLink "OverAndBack$Walk" (82 : Nat) ({ cls := "OverAndBack$Plan", name := "minuteOf", desc := "(I)I" } : Jvm.MethodName)) ∈ am_tbl := am_tbl_t (List.mem_append_right _ (List.mem_append_right _ (List.mem_append_left _ (List.mem_of_getElem? (l := tables_1_3) (i := 157) rfl)))) rfl
theorem w_638 : (Jvm.Cond.instanceMethod ({ cls := "OverAndBack$Plan", name := "minuteOf", desc := "(I)I" } : Jvm.MethodName)) ∈ am_tbl := am_tbl_t (List.mem_append_right _ (List.mem_append_right _ (List.mem_append_left _ (List.mem_of_getElem? (l := tables_1_3) (i := 158) rfl)))) rfl
theorem w_639 : (Jvm.Cond.selects "OverAndBack$Plan" ({ cls := "OverAndBack$Plan", name := "minuteOf", desc := "(I)I" } : Jvm.MethodName) ({ cls := "OverAndBack$Plan", name := "minuteOf", desc := "(I)I" } : Jvm.MethodName)) ∈ am_tbl := am_tbl_t (List.mem_append_right _ (List.mem_append_right _ (List.mem_append_left _ (List.mem_of_getElem? (l := tables_1_3) (i := 159) rfl)))) rfl
theorem w_640 : (Jvm.Cond.code ({ cls := "OverAndBack$Plan", name := "minuteOf", desc := "(I)I" } : Jvm.MethodName) prog_7_method_6_code (2 : Nat) (Option.some Jvm.ClassFile.FieldType.int)) ∈ am_tbl := am_tbl_t (List.mem_append_right _ (List.mem_append_right _ (List.mem_append_left _ (List.mem_of_getElem? (l := tables_1_3) (i := 160) rfl)))) rfl
theorem w_641 : (Jvm.Cond.methodLink "OverAndBack$Walk" (86 : Nat) ({ cls := "OverAndBack$Plan", name := "stationOf", desc := "(I)I" } : Jvm.MethodName)) ∈ am_tbl := am_tbl_t (List.mem_append_right _ (List.mem_append_right _ (List.mem_append_left _ (List.mem_of_getElem? (l := tables_1_3) (i := 161) rfl)))) rfl
theorem w_642 : (Jvm.Cond.instanceMethod ({ cls := "OverAndBack$Plan", name := "stationOf", desc := "(I)I" } : Jvm.MethodName)) ∈ am_tbl := am_tbl_t (List.mem_append_right _ (List.mem_append_right _ (List.mem_append_left _ (List.mem_of_getElem? (l := tables_1_3) (i := 162) rfl)))) rfl
theorem w_643 : (Jvm.Cond.selects "OverAndBack$Plan" ({ cls := "OverAndBack$Plan", name := "stationOf", desc := "(I)I" } : Jvm.MethodName) ({ cls := "OverAndBack$Plan", name := "stationOf", desc := "(I)I" } : Jvm.MethodName)) ∈ am_tbl := am_tbl_t (List.mem_append_right _ (List.mem_append_right _ (List.mem_append_left _ (List.mem_of_getElem? (l := tables_1_3) (i := 163) rfl)))) rfl
theorem w_644 : (Jvm.Cond.code ({ cls := "OverAndBack$Plan", name := "stationOf", desc := "(I)I" } : Jvm.MethodName) prog_7_method_7_code (2 : Nat) (Option.some Jvm.ClassFile.FieldType.int)) ∈ am_tbl := am_tbl_t (List.mem_append_right _ (List.mem_append_right _ (List.mem_append_left _ (List.mem_of_getElem? (l := tables_1_3) (i := 164) rfl)))) rfl
theorem w_645 : (Jvm.Cond.methodLink "OverAndBack$Walk" (59 : Nat) ({ cls := "OverAndBack$Walk", name := "goTo", desc := "(III)V" } : Jvm.MethodName)) ∈ am_tbl := am_tbl_t (List.mem_append_right _ (List.mem_append_right _ (List.mem_append_left _ (List.mem_of_getElem? (l := tables_1_3) (i := 165) rfl)))) rfl
theorem w_647 : (Jvm.Cond.instanceMethod ({ cls := "OverAndBack$Walk", name := "goTo", desc := "(III)V" } : Jvm.MethodName)) ∈ am_tbl := am_tbl_t (List.mem_append_right _ (List.mem_append_right _ (List.mem_append_left _ (List.mem_of_getElem? (l := tables_1_3) (i := 167) rfl)))) rfl
theorem w_648 : (Jvm.Cond.code ({ cls := "OverAndBack$Walk", name := "goTo", desc := "(III)V" } : Jvm.MethodName) prog_12_method_7_code (4 : Nat) (Option.none : Option Jvm.ClassFile.FieldType)) ∈ am_tbl := am_tbl_t (List.mem_append_right _ (List.mem_append_right _ (List.mem_append_left _ (List.mem_of_getElem? (l := tables_1_3) (i := 168) rfl)))) rfl
theorem w_649 : (Jvm.Cond.methodLink "OverAndBack$Walk" (63 : Nat) ({ cls := "OverAndBack$Walk", name := "look", desc := "(LOverAndBack$Screen;I)V" } : Jvm.MethodName)) ∈ am_tbl := am_tbl_t (List.mem_append_right _ (List.mem_append_right _ (List.mem_append_left _ (List.mem_of_getElem? (l := tables_1_3) (i := 169) rfl)))) rfl
theorem w_651 : (Jvm.Cond.instanceMethod ({ cls := "OverAndBack$Walk", name := "look", desc := "(LOverAndBack$Screen;I)V" } : Jvm.MethodName)) ∈ am_tbl := am_tbl_t (List.mem_append_right _ (List.mem_append_right _ (List.mem_append_left _ (List.mem_of_getElem? (l := tables_1_3) (i := 171) rfl)))) rfl
theorem w_652 : (Jvm.Cond.code ({ cls := "OverAndBack$Walk", name := "look", desc := "(LOverAndBack$Screen;I)V" } : Jvm.MethodName) prog_12_method_8_code (3 : Nat) (Option.none : Option Jvm.ClassFile.FieldType)) ∈ am_tbl := am_tbl_t (List.mem_append_right _ (List.mem_append_right _ (List.mem_append_left _ (List.mem_of_getElem? (l := tables_1_3) (i := 172) rfl)))) rfl
theorem w_653 : (Jvm.Cond.methodLink "OverAndBack$Walk" (89 : Nat) ({ cls := "OverAndBack$Screen", name := "worthOf", desc := "(II)I" } : Jvm.MethodName)) ∈ am_tbl := am_tbl_t (List.mem_append_right _ (List.mem_append_right _ (List.mem_append_left _ (List.mem_of_getElem? (l := tables_1_3) (i := 173) rfl)))) rfl
theorem w_654 : (Jvm.Cond.methodLink "OverAndBack$Walk" (95 : Nat) ({ cls := "OverAndBack$Screen", name := "factBit", desc := "(II)I" } : Jvm.MethodName)) ∈ am_tbl := am_tbl_t (List.mem_append_right _ (List.mem_append_right _ (List.mem_append_left _ (List.mem_of_getElem? (l := tables_1_3) (i := 174) rfl)))) rfl
theorem w_655 : (Jvm.Cond.instanceMethod ({ cls := "OverAndBack$Screen", name := "factBit", desc := "(II)I" } : Jvm.MethodName)) ∈ am_tbl := am_tbl_t (List.mem_append_right _ (List.mem_append_right _ (List.mem_append_left _ (List.mem_of_getElem? (l := tables_1_3) (i := 175) rfl)))) rfl
theorem w_656 : (Jvm.Cond.selects "OverAndBack$Screen" ({ cls := "OverAndBack$Screen", name := "factBit", desc := "(II)I" } : Jvm.MethodName) ({ cls := "OverAndBack$Screen", name := "factBit", desc := "(II)I" } : Jvm.MethodName)) ∈ am_tbl := am_tbl_t (List.mem_append_right _ (List.mem_append_right _ (List.mem_append_left _ (List.mem_of_getElem? (l := tables_1_3) (i := 176) rfl)))) rfl
theorem w_657 : (Jvm.Cond.code ({ cls := "OverAndBack$Screen", name := "factBit", desc := "(II)I" } : Jvm.MethodName) prog_11_method_13_code (3 : Nat) (Option.some Jvm.ClassFile.FieldType.int)) ∈ am_tbl := am_tbl_t (List.mem_append_right _ (List.mem_append_right _ (List.mem_append_left _ (List.mem_of_getElem? (l := tables_1_3) (i := 177) rfl)))) rfl
theorem w_658 : (Jvm.Cond.methodLink "OverAndBack" (160 : Nat) ({ cls := "OverAndBack$Evening", name := "kindOf", desc := "(I)I" } : Jvm.MethodName)) ∈ am_tbl := am_tbl_t (List.mem_append_right _ (List.mem_append_right _ (List.mem_append_left _ (List.mem_of_getElem? (l := tables_1_3) (i := 178) rfl)))) rfl
theorem w_659 : (Jvm.Cond.instanceMethod ({ cls := "OverAndBack$Evening", name := "kindOf", desc := "(I)I" } : Jvm.MethodName)) ∈ am_tbl := am_tbl_t (List.mem_append_right _ (List.mem_append_right _ (List.mem_append_left _ (List.mem_of_getElem? (l := tables_1_3) (i := 179) rfl)))) rfl
theorem w_660 : (Jvm.Cond.selects "OverAndBack$Evening" ({ cls := "OverAndBack$Evening", name := "kindOf", desc := "(I)I" } : Jvm.MethodName) ({ cls := "OverAndBack$Evening", name := "kindOf", desc := "(I)I" } : Jvm.MethodName)) ∈ am_tbl := am_tbl_t (List.mem_append_right _ (List.mem_append_right _ (List.mem_append_left _ (List.mem_of_getElem? (l := tables_1_3) (i := 180) rfl)))) rfl
theorem w_661 : (Jvm.Cond.code ({ cls := "OverAndBack$Evening", name := "kindOf", desc := "(I)I" } : Jvm.MethodName) prog_3_method_3_code (2 : Nat) (Option.some Jvm.ClassFile.FieldType.int)) ∈ am_tbl := am_tbl_t (List.mem_append_right _ (List.mem_append_right _ (List.mem_append_left _ (List.mem_of_getElem? (l := tables_1_3) (i := 181) rfl)))) rfl
theorem w_662 : (Jvm.Cond.methodLink "OverAndBack$Evening" (45 : Nat) ({ cls := "OverAndBack$Rows", name := "cell", desc := "(II)I" } : Jvm.MethodName)) ∈ am_tbl := am_tbl_t (List.mem_append_right _ (List.mem_append_right _ (List.mem_append_left _ (List.mem_of_getElem? (l := tables_1_3) (i := 182) rfl)))) rfl
theorem w_663 : (Jvm.Cond.methodLink "OverAndBack" (163 : Nat) ({ cls := "OverAndBack$Evening", name := "ownOf", desc := "(I)I" } : Jvm.MethodName)) ∈ am_tbl := am_tbl_t (List.mem_append_right _ (List.mem_append_right _ (List.mem_append_left _ (List.mem_of_getElem? (l := tables_1_3) (i := 183) rfl)))) rfl
theorem w_664 : (Jvm.Cond.instanceMethod ({ cls := "OverAndBack$Evening", name := "ownOf", desc := "(I)I" } : Jvm.MethodName)) ∈ am_tbl := am_tbl_t (List.mem_append_right _ (List.mem_append_right _ (List.mem_append_left _ (List.mem_of_getElem? (l := tables_1_3) (i := 184) rfl)))) rfl
theorem w_665 : (Jvm.Cond.selects "OverAndBack$Evening" ({ cls := "OverAndBack$Evening", name := "ownOf", desc := "(I)I" } : Jvm.MethodName) ({ cls := "OverAndBack$Evening", name := "ownOf", desc := "(I)I" } : Jvm.MethodName)) ∈ am_tbl := am_tbl_t (List.mem_append_right _ (List.mem_append_right _ (List.mem_append_left _ (List.mem_of_getElem? (l := tables_1_3) (i := 185) rfl)))) rfl
theorem w_666 : (Jvm.Cond.code ({ cls := "OverAndBack$Evening", name := "ownOf", desc := "(I)I" } : Jvm.MethodName) prog_3_method_4_code (2 : Nat) (Option.some Jvm.ClassFile.FieldType.int)) ∈ am_tbl := am_tbl_t (List.mem_append_right _ (List.mem_append_right _ (List.mem_append_left _ (List.mem_of_getElem? (l := tables_1_3) (i := 186) rfl)))) rfl
theorem w_667 : (Jvm.Cond.methodLink "OverAndBack" (267 : Nat) ({ cls := "OverAndBack$Walk", name := "followKind", desc := "(LOverAndBack$Evening;LOverAndBack$Screen;II)V" } : Jvm.MethodName)) ∈ am_tbl := am_tbl_t (List.mem_append_right _ (List.mem_append_right _ (List.mem_append_left _ (List.mem_of_getElem? (l := tables_1_3) (i := 187) rfl)))) rfl
theorem w_668 : (Jvm.Cond.instanceMethod ({ cls := "OverAndBack$Walk", name := "followKind", desc := "(LOverAndBack$Evening;LOverAndBack$Screen;II)V" } : Jvm.MethodName)) ∈ am_tbl := am_tbl_t (List.mem_append_right _ (List.mem_append_right _ (List.mem_append_left _ (List.mem_of_getElem? (l := tables_1_3) (i := 188) rfl)))) rfl
theorem w_669 : (Jvm.Cond.selects "OverAndBack$Walk" ({ cls := "OverAndBack$Walk", name := "followKind", desc := "(LOverAndBack$Evening;LOverAndBack$Screen;II)V" } : Jvm.MethodName) ({ cls := "OverAndBack$Walk", name := "followKind", desc := "(LOverAndBack$Evening;LOverAndBack$Screen;II)V" } : Jvm.MethodName)) ∈ am_tbl := am_tbl_t (List.mem_append_right _ (List.mem_append_right _ (List.mem_append_left _ (List.mem_of_getElem? (l := tables_1_3) (i := 189) rfl)))) rfl
theorem w_670 : (Jvm.Cond.code ({ cls := "OverAndBack$Walk", name := "followKind", desc := "(LOverAndBack$Evening;LOverAndBack$Screen;II)V" } : Jvm.MethodName) prog_12_method_2_code (7 : Nat) (Option.none : Option Jvm.ClassFile.FieldType)) ∈ am_tbl := am_tbl_t (List.mem_append_right _ (List.mem_append_right _ (List.mem_append_left _ (List.mem_of_getElem? (l := tables_1_3) (i := 190) rfl)))) rfl
theorem w_671 : (Jvm.Cond.methodLink "OverAndBack$Walk" (52 : Nat) ({ cls := "OverAndBack$Walk", name := "wish", desc := "(LOverAndBack$Screen;IIII)I" } : Jvm.MethodName)) ∈ am_tbl := am_tbl_t (List.mem_append_right _ (List.mem_append_right _ (List.mem_append_left _ (List.mem_of_getElem? (l := tables_1_3) (i := 191) rfl)))) rfl
theorem w_673 : (Jvm.Cond.instanceMethod ({ cls := "OverAndBack$Walk", name := "wish", desc := "(LOverAndBack$Screen;IIII)I" } : Jvm.MethodName)) ∈ am_tbl := am_tbl_t (List.mem_append_right _ (List.mem_append_right _ (List.mem_append_left _ (List.mem_of_getElem? (l := tables_1_3) (i := 193) rfl)))) rfl
theorem w_674 : (Jvm.Cond.code ({ cls := "OverAndBack$Walk", name := "wish", desc := "(LOverAndBack$Screen;IIII)I" } : Jvm.MethodName) prog_12_method_9_code (6 : Nat) (Option.some Jvm.ClassFile.FieldType.int)) ∈ am_tbl := am_tbl_t (List.mem_append_right _ (List.mem_append_right _ (List.mem_append_left _ (List.mem_of_getElem? (l := tables_1_3) (i := 194) rfl)))) rfl
theorem w_675 : (Jvm.Cond.methodLink "OverAndBack$Walk" (98 : Nat) ({ cls := "OverAndBack$Walk", name := "unbroken", desc := "(LOverAndBack$Screen;II)I" } : Jvm.MethodName)) ∈ am_tbl := am_tbl_t (List.mem_append_right _ (List.mem_append_right _ (List.mem_append_left _ (List.mem_of_getElem? (l := tables_1_3) (i := 195) rfl)))) rfl
theorem w_677 : (Jvm.Cond.instanceMethod ({ cls := "OverAndBack$Walk", name := "unbroken", desc := "(LOverAndBack$Screen;II)I" } : Jvm.MethodName)) ∈ am_tbl := am_tbl_t (List.mem_append_right _ (List.mem_append_right _ (List.mem_append_left _ (List.mem_of_getElem? (l := tables_1_3) (i := 197) rfl)))) rfl
theorem w_678 : (Jvm.Cond.code ({ cls := "OverAndBack$Walk", name := "unbroken", desc := "(LOverAndBack$Screen;II)I" } : Jvm.MethodName) prog_12_method_10_code (6 : Nat) (Option.some Jvm.ClassFile.FieldType.int)) ∈ am_tbl := am_tbl_t (List.mem_append_right _ (List.mem_append_right _ (List.mem_append_left _ (List.mem_of_getElem? (l := tables_1_3) (i := 198) rfl)))) rfl
theorem w_679 : (Jvm.Cond.methodLink "OverAndBack$Walk" (102 : Nat) ({ cls := "OverAndBack$Screen", name := "isBreak", desc := "(II)Z" } : Jvm.MethodName)) ∈ am_tbl := am_tbl_t (List.mem_append_right _ (List.mem_append_right _ (List.mem_append_left _ (List.mem_of_getElem? (l := tables_1_3) (i := 199) rfl)))) rfl
theorem w_680 : (Jvm.Cond.methodLink "OverAndBack$Walk" (106 : Nat) ({ cls := "OverAndBack$Walk", name := "worthiest", desc := "(LOverAndBack$Screen;II)I" } : Jvm.MethodName)) ∈ am_tbl := am_tbl_t (List.mem_append_right _ (List.mem_append_right _ (List.mem_append_left _ (List.mem_of_getElem? (l := tables_1_3) (i := 200) rfl)))) rfl
theorem w_682 : (Jvm.Cond.instanceMethod ({ cls := "OverAndBack$Walk", name := "worthiest", desc := "(LOverAndBack$Screen;II)I" } : Jvm.MethodName)) ∈ am_tbl := am_tbl_t (List.mem_append_right _ (List.mem_append_right _ (List.mem_append_left _ (List.mem_of_getElem? (l := tables_1_3) (i := 202) rfl)))) rfl
theorem w_683 : (Jvm.Cond.code ({ cls := "OverAndBack$Walk", name := "worthiest", desc := "(LOverAndBack$Screen;II)I" } : Jvm.MethodName) prog_12_method_11_code (6 : Nat) (Option.some Jvm.ClassFile.FieldType.int)) ∈ am_tbl := am_tbl_t (List.mem_append_right _ (List.mem_append_right _ (List.mem_append_left _ (List.mem_of_getElem? (l := tables_1_3) (i := 203) rfl)))) rfl
theorem w_684 : (Jvm.Cond.methodLink "OverAndBack" (175 : Nat) ({ cls := "OverAndBack$Routes", name := "worthFrom", desc := "(II)I" } : Jvm.MethodName)) ∈ am_tbl := am_tbl_t (List.mem_append_right _ (List.mem_append_right _ (List.mem_append_left _ (List.mem_of_getElem? (l := tables_1_3) (i := 204) rfl)))) rfl
theorem w_686 : (Jvm.Cond.instanceMethod ({ cls := "OverAndBack", name := "where", desc := "(II)I" } : Jvm.MethodName)) ∈ am_tbl := am_tbl_t (List.mem_append_right _ (List.mem_append_right _ (List.mem_append_left _ (List.mem_of_getElem? (l := tables_1_3) (i := 206) rfl)))) rfl
theorem w_687 : (Jvm.Cond.selects "OverAndBack" ({ cls := "OverAndBack", name := "where", desc := "(II)I" } : Jvm.MethodName) ({ cls := "OverAndBack", name := "where", desc := "(II)I" } : Jvm.MethodName)) ∈ am_tbl := am_tbl_t (List.mem_append_right _ (List.mem_append_right _ (List.mem_append_left _ (List.mem_of_getElem? (l := tables_1_3) (i := 207) rfl)))) rfl
theorem w_688 : (Jvm.Cond.code ({ cls := "OverAndBack", name := "where", desc := "(II)I" } : Jvm.MethodName) prog_1_method_9_code (3 : Nat) (Option.some Jvm.ClassFile.FieldType.int)) ∈ am_tbl := am_tbl_t (List.mem_append_right _ (List.mem_append_right _ (List.mem_append_left _ (List.mem_of_getElem? (l := tables_1_3) (i := 208) rfl)))) rfl
theorem w_689 : (Jvm.Cond.methodLink "OverAndBack" (178 : Nat) ({ cls := "OverAndBack$Walk", name := "placeAt", desc := "(I)I" } : Jvm.MethodName)) ∈ am_tbl := am_tbl_t (List.mem_append_right _ (List.mem_append_right _ (List.mem_append_left _ (List.mem_of_getElem? (l := tables_1_3) (i := 209) rfl)))) rfl
theorem w_690 : (Jvm.Cond.instanceMethod ({ cls := "OverAndBack$Walk", name := "placeAt", desc := "(I)I" } : Jvm.MethodName)) ∈ am_tbl := am_tbl_t (List.mem_append_right _ (List.mem_append_right _ (List.mem_append_left _ (List.mem_of_getElem? (l := tables_1_3) (i := 210) rfl)))) rfl
theorem w_691 : (Jvm.Cond.selects "OverAndBack$Walk" ({ cls := "OverAndBack$Walk", name := "placeAt", desc := "(I)I" } : Jvm.MethodName) ({ cls := "OverAndBack$Walk", name := "placeAt", desc := "(I)I" } : Jvm.MethodName)) ∈ am_tbl := am_tbl_t (List.mem_append_right _ (List.mem_append_right _ (List.mem_append_left _ (List.mem_of_getElem? (l := tables_1_3) (i := 211) rfl)))) rfl
theorem w_692 : (Jvm.Cond.code ({ cls := "OverAndBack$Walk", name := "placeAt", desc := "(I)I" } : Jvm.MethodName) prog_12_method_5_code (2 : Nat) (Option.some Jvm.ClassFile.FieldType.int)) ∈ am_tbl := am_tbl_t (List.mem_append_right _ (List.mem_append_right _ (List.mem_append_left _ (List.mem_of_getElem? (l := tables_1_3) (i := 212) rfl)))) rfl
theorem w_694 : (Jvm.Cond.instanceMethod ({ cls := "OverAndBack", name := "begin", desc := "(I)I" } : Jvm.MethodName)) ∈ am_tbl := am_tbl_t (List.mem_append_right _ (List.mem_append_right _ (List.mem_append_left _ (List.mem_of_getElem? (l := tables_1_3) (i := 214) rfl)))) rfl
theorem w_695 : (Jvm.Cond.selects "OverAndBack" ({ cls := "OverAndBack", name := "begin", desc := "(I)I" } : Jvm.MethodName) ({ cls := "OverAndBack", name := "begin", desc := "(I)I" } : Jvm.MethodName)) ∈ am_tbl := am_tbl_t (List.mem_append_right _ (List.mem_append_right _ (List.mem_append_left _ (List.mem_of_getElem? (l := tables_1_3) (i := 215) rfl)))) rfl
theorem w_696 : (Jvm.Cond.code ({ cls := "OverAndBack", name := "begin", desc := "(I)I" } : Jvm.MethodName) prog_1_method_10_code (3 : Nat) (Option.some Jvm.ClassFile.FieldType.int)) ∈ am_tbl := am_tbl_t (List.mem_append_right _ (List.mem_append_right _ (List.mem_append_left _ (List.mem_of_getElem? (l := tables_1_3) (i := 216) rfl)))) rfl
theorem w_697 : (Jvm.Cond.methodLink "OverAndBack" (184 : Nat) ({ cls := "OverAndBack$Past", name := "push", desc := "(I)V" } : Jvm.MethodName)) ∈ am_tbl := am_tbl_t (List.mem_append_right _ (List.mem_append_right _ (List.mem_append_left _ (List.mem_of_getElem? (l := tables_1_3) (i := 217) rfl)))) rfl
theorem w_698 : (Jvm.Cond.instanceMethod ({ cls := "OverAndBack$Past", name := "push", desc := "(I)V" } : Jvm.MethodName)) ∈ am_tbl := am_tbl_t (List.mem_append_right _ (List.mem_append_right _ (List.mem_append_left _ (List.mem_of_getElem? (l := tables_1_3) (i := 218) rfl)))) rfl
theorem w_699 : (Jvm.Cond.selects "OverAndBack$Past" ({ cls := "OverAndBack$Past", name := "push", desc := "(I)V" } : Jvm.MethodName) ({ cls := "OverAndBack$Past", name := "push", desc := "(I)V" } : Jvm.MethodName)) ∈ am_tbl := am_tbl_t (List.mem_append_right _ (List.mem_append_right _ (List.mem_append_left _ (List.mem_of_getElem? (l := tables_1_3) (i := 219) rfl)))) rfl
theorem w_700 : (Jvm.Cond.code ({ cls := "OverAndBack$Past", name := "push", desc := "(I)V" } : Jvm.MethodName) prog_6_method_3_code (2 : Nat) (Option.none : Option Jvm.ClassFile.FieldType)) ∈ am_tbl := am_tbl_t (List.mem_append_right _ (List.mem_append_right _ (List.mem_append_left _ (List.mem_of_getElem? (l := tables_1_3) (i := 220) rfl)))) rfl
theorem w_701 : (Jvm.Cond.methodLink "OverAndBack$Past" (19 : Nat) ({ cls := "java/lang/System", name := "arraycopy", desc := "(Ljava/lang/Object;ILjava/lang/Object;II)V" } : Jvm.MethodName)) ∈ am_tbl := am_tbl_t (List.mem_append_right _ (List.mem_append_right _ (List.mem_append_left _ (List.mem_of_getElem? (l := tables_1_3) (i := 221) rfl)))) rfl
theorem w_703 : (Jvm.Cond.instanceMethod ({ cls := "OverAndBack", name := "over", desc := "(II)I" } : Jvm.MethodName)) ∈ am_tbl := am_tbl_t (List.mem_append_right _ (List.mem_append_right _ (List.mem_append_left _ (List.mem_of_getElem? (l := tables_1_3) (i := 223) rfl)))) rfl
theorem w_704 : (Jvm.Cond.selects "OverAndBack" ({ cls := "OverAndBack", name := "over", desc := "(II)I" } : Jvm.MethodName) ({ cls := "OverAndBack", name := "over", desc := "(II)I" } : Jvm.MethodName)) ∈ am_tbl := am_tbl_t (List.mem_append_right _ (List.mem_append_right _ (List.mem_append_left _ (List.mem_of_getElem? (l := tables_1_3) (i := 224) rfl)))) rfl
theorem w_705 : (Jvm.Cond.code ({ cls := "OverAndBack", name := "over", desc := "(II)I" } : Jvm.MethodName) prog_1_method_11_code (3 : Nat) (Option.some Jvm.ClassFile.FieldType.int)) ∈ am_tbl := am_tbl_t (List.mem_append_right _ (List.mem_append_right _ (List.mem_append_left _ (List.mem_of_getElem? (l := tables_1_3) (i := 225) rfl)))) rfl
theorem w_706 : (Jvm.Cond.methodLink "OverAndBack" (188 : Nat) ({ cls := "OverAndBack$Plan", name := "add", desc := "(II)Z" } : Jvm.MethodName)) ∈ am_tbl := am_tbl_t (List.mem_append_right _ (List.mem_append_right _ (List.mem_append_left _ (List.mem_of_getElem? (l := tables_1_3) (i := 226) rfl)))) rfl
theorem w_707 : (Jvm.Cond.instanceMethod ({ cls := "OverAndBack$Plan", name := "add", desc := "(II)Z" } : Jvm.MethodName)) ∈ am_tbl := am_tbl_t (List.mem_append_right _ (List.mem_append_right _ (List.mem_append_left _ (List.mem_of_getElem? (l := tables_1_3) (i := 227) rfl)))) rfl
theorem w_708 : (Jvm.Cond.selects "OverAndBack$Plan" ({ cls := "OverAndBack$Plan", name := "add", desc := "(II)Z" } : Jvm.MethodName) ({ cls := "OverAndBack$Plan", name := "add", desc := "(II)Z" } : Jvm.MethodName)) ∈ am_tbl := am_tbl_t (List.mem_append_right _ (List.mem_append_right _ (List.mem_append_left _ (List.mem_of_getElem? (l := tables_1_3) (i := 228) rfl)))) rfl
theorem w_709 : (Jvm.Cond.code ({ cls := "OverAndBack$Plan", name := "add", desc := "(II)Z" } : Jvm.MethodName) prog_7_method_3_code (3 : Nat) (Option.some Jvm.ClassFile.FieldType.boolean)) ∈ am_tbl := am_tbl_t (List.mem_append_right _ (List.mem_append_right _ (List.mem_append_left _ (List.mem_of_getElem? (l := tables_1_3) (i := 229) rfl)))) rfl
theorem w_711 : (Jvm.Cond.instanceMethod ({ cls := "OverAndBack", name := "undo", desc := "()I" } : Jvm.MethodName)) ∈ am_tbl := am_tbl_t (List.mem_append_right _ (List.mem_append_right _ (List.mem_append_left _ (List.mem_of_getElem? (l := tables_1_3) (i := 231) rfl)))) rfl
theorem w_712 : (Jvm.Cond.selects "OverAndBack" ({ cls := "OverAndBack", name := "undo", desc := "()I" } : Jvm.MethodName) ({ cls := "OverAndBack", name := "undo", desc := "()I" } : Jvm.MethodName)) ∈ am_tbl := am_tbl_t (List.mem_append_right _ (List.mem_append_right _ (List.mem_append_left _ (List.mem_of_getElem? (l := tables_1_3) (i := 232) rfl)))) rfl
theorem w_713 : (Jvm.Cond.code ({ cls := "OverAndBack", name := "undo", desc := "()I" } : Jvm.MethodName) prog_1_method_12_code (2 : Nat) (Option.some Jvm.ClassFile.FieldType.int)) ∈ am_tbl := am_tbl_t (List.mem_append_right _ (List.mem_append_right _ (List.mem_append_left _ (List.mem_of_getElem? (l := tables_1_3) (i := 233) rfl)))) rfl
theorem w_714 : (Jvm.Cond.methodLink "OverAndBack" (193 : Nat) ({ cls := "OverAndBack$Past", name := "pop", desc := "()I" } : Jvm.MethodName)) ∈ am_tbl := am_tbl_t (List.mem_append_right _ (List.mem_append_right _ (List.mem_append_left _ (List.mem_of_getElem? (l := tables_1_3) (i := 234) rfl)))) rfl
theorem w_715 : (Jvm.Cond.instanceMethod ({ cls := "OverAndBack$Past", name := "pop", desc := "()I" } : Jvm.MethodName)) ∈ am_tbl := am_tbl_t (List.mem_append_right _ (List.mem_append_right _ (List.mem_append_left _ (List.mem_of_getElem? (l := tables_1_3) (i := 235) rfl)))) rfl
theorem w_716 : (Jvm.Cond.selects "OverAndBack$Past" ({ cls := "OverAndBack$Past", name := "pop", desc := "()I" } : Jvm.MethodName) ({ cls := "OverAndBack$Past", name := "pop", desc := "()I" } : Jvm.MethodName)) ∈ am_tbl := am_tbl_t (List.mem_append_right _ (List.mem_append_right _ (List.mem_append_left _ (List.mem_of_getElem? (l := tables_1_3) (i := 236) rfl)))) rfl
theorem w_717 : (Jvm.Cond.code ({ cls := "OverAndBack$Past", name := "pop", desc := "()I" } : Jvm.MethodName) prog_6_method_4_code (1 : Nat) (Option.some Jvm.ClassFile.FieldType.int)) ∈ am_tbl := am_tbl_t (List.mem_append_right _ (List.mem_append_right _ (List.mem_append_left _ (List.mem_of_getElem? (l := tables_1_3) (i := 237) rfl)))) rfl
theorem w_718 : (Jvm.Cond.methodLink "OverAndBack" (197 : Nat) ({ cls := "OverAndBack$Plan", name := "dropLast", desc := "()V" } : Jvm.MethodName)) ∈ am_tbl := am_tbl_t (List.mem_append_right _ (List.mem_append_right _ (List.mem_append_left _ (List.mem_of_getElem? (l := tables_1_3) (i := 238) rfl)))) rfl
theorem w_719 : (Jvm.Cond.instanceMethod ({ cls := "OverAndBack$Plan", name := "dropLast", desc := "()V" } : Jvm.MethodName)) ∈ am_tbl := am_tbl_t (List.mem_append_right _ (List.mem_append_right _ (List.mem_append_left _ (List.mem_of_getElem? (l := tables_1_3) (i := 239) rfl)))) rfl
theorem w_720 : (Jvm.Cond.selects "OverAndBack$Plan" ({ cls := "OverAndBack$Plan", name := "dropLast", desc := "()V" } : Jvm.MethodName) ({ cls := "OverAndBack$Plan", name := "dropLast", desc := "()V" } : Jvm.MethodName)) ∈ am_tbl := am_tbl_t (List.mem_append_right _ (List.mem_append_right _ (List.mem_append_right _ (List.mem_append_left _ (List.mem_of_getElem? (l := tables_1_4) (i := 0) rfl))))) rfl
theorem w_721 : (Jvm.Cond.code ({ cls := "OverAndBack$Plan", name := "dropLast", desc := "()V" } : Jvm.MethodName) prog_7_method_4_code (1 : Nat) (Option.none : Option Jvm.ClassFile.FieldType)) ∈ am_tbl := am_tbl_t (List.mem_append_right _ (List.mem_append_right _ (List.mem_append_right _ (List.mem_append_left _ (List.mem_of_getElem? (l := tables_1_4) (i := 1) rfl))))) rfl
theorem w_722 : (Jvm.Cond.methodLink "OverAndBack$Plan" (25 : Nat) ({ cls := "java/lang/Math", name := "max", desc := "(II)I" } : Jvm.MethodName)) ∈ am_tbl := am_tbl_t (List.mem_append_right _ (List.mem_append_right _ (List.mem_append_right _ (List.mem_append_left _ (List.mem_of_getElem? (l := tables_1_4) (i := 2) rfl))))) rfl
theorem w_724 : (Jvm.Cond.instanceMethod ({ cls := "OverAndBack", name := "judge", desc := "()I" } : Jvm.MethodName)) ∈ am_tbl := am_tbl_t (List.mem_append_right _ (List.mem_append_right _ (List.mem_append_right _ (List.mem_append_left _ (List.mem_of_getElem? (l := tables_1_4) (i := 4) rfl))))) rfl
theorem w_725 : (Jvm.Cond.selects "OverAndBack" ({ cls := "OverAndBack", name := "judge", desc := "()I" } : Jvm.MethodName) ({ cls := "OverAndBack", name := "judge", desc := "()I" } : Jvm.MethodName)) ∈ am_tbl := am_tbl_t (List.mem_append_right _ (List.mem_append_right _ (List.mem_append_right _ (List.mem_append_left _ (List.mem_of_getElem? (l := tables_1_4) (i := 5) rfl))))) rfl
theorem w_726 : (Jvm.Cond.code ({ cls := "OverAndBack", name := "judge", desc := "()I" } : Jvm.MethodName) prog_1_method_13_code (1 : Nat) (Option.some Jvm.ClassFile.FieldType.int)) ∈ am_tbl := am_tbl_t (List.mem_append_right _ (List.mem_append_right _ (List.mem_append_right _ (List.mem_append_left _ (List.mem_of_getElem? (l := tables_1_4) (i := 6) rfl))))) rfl
theorem w_727 : (Jvm.Cond.methodLink "OverAndBack" (203 : Nat) ({ cls := "OverAndBack$Walk", name := "sortOut", desc := "(LOverAndBack$Plan;I)I" } : Jvm.MethodName)) ∈ am_tbl := am_tbl_t (List.mem_append_right _ (List.mem_append_right _ (List.mem_append_right _ (List.mem_append_left _ (List.mem_of_getElem? (l := tables_1_4) (i := 7) rfl))))) rfl
theorem w_729 : (Jvm.Cond.instanceMethod ({ cls := "OverAndBack", name := "plan", desc := "(I)I" } : Jvm.MethodName)) ∈ am_tbl := am_tbl_t (List.mem_append_right _ (List.mem_append_right _ (List.mem_append_right _ (List.mem_append_left _ (List.mem_of_getElem? (l := tables_1_4) (i := 9) rfl))))) rfl
theorem w_730 : (Jvm.Cond.selects "OverAndBack" ({ cls := "OverAndBack", name := "plan", desc := "(I)I" } : Jvm.MethodName) ({ cls := "OverAndBack", name := "plan", desc := "(I)I" } : Jvm.MethodName)) ∈ am_tbl := am_tbl_t (List.mem_append_right _ (List.mem_append_right _ (List.mem_append_right _ (List.mem_append_left _ (List.mem_of_getElem? (l := tables_1_4) (i := 10) rfl))))) rfl
theorem w_731 : (Jvm.Cond.code ({ cls := "OverAndBack", name := "plan", desc := "(I)I" } : Jvm.MethodName) prog_1_method_14_code (2 : Nat) (Option.some Jvm.ClassFile.FieldType.int)) ∈ am_tbl := am_tbl_t (List.mem_append_right _ (List.mem_append_right _ (List.mem_append_right _ (List.mem_append_left _ (List.mem_of_getElem? (l := tables_1_4) (i := 11) rfl))))) rfl
theorem w_733 : (Jvm.Cond.instanceMethod ({ cls := "OverAndBack", name := "at", desc := "(I)I" } : Jvm.MethodName)) ∈ am_tbl := am_tbl_t (List.mem_append_right _ (List.mem_append_right _ (List.mem_append_right _ (List.mem_append_left _ (List.mem_of_getElem? (l := tables_1_4) (i := 13) rfl))))) rfl
theorem w_734 : (Jvm.Cond.selects "OverAndBack" ({ cls := "OverAndBack", name := "at", desc := "(I)I" } : Jvm.MethodName) ({ cls := "OverAndBack", name := "at", desc := "(I)I" } : Jvm.MethodName)) ∈ am_tbl := am_tbl_t (List.mem_append_right _ (List.mem_append_right _ (List.mem_append_right _ (List.mem_append_left _ (List.mem_of_getElem? (l := tables_1_4) (i := 14) rfl))))) rfl
theorem w_735 : (Jvm.Cond.code ({ cls := "OverAndBack", name := "at", desc := "(I)I" } : Jvm.MethodName) prog_1_method_15_code (2 : Nat) (Option.some Jvm.ClassFile.FieldType.int)) ∈ am_tbl := am_tbl_t (List.mem_append_right _ (List.mem_append_right _ (List.mem_append_right _ (List.mem_append_left _ (List.mem_of_getElem? (l := tables_1_4) (i := 15) rfl))))) rfl
theorem w_737 : (Jvm.Cond.instanceMethod ({ cls := "OverAndBack", name := "most", desc := "(III)I" } : Jvm.MethodName)) ∈ am_tbl := am_tbl_t (List.mem_append_right _ (List.mem_append_right _ (List.mem_append_right _ (List.mem_append_left _ (List.mem_of_getElem? (l := tables_1_4) (i := 17) rfl))))) rfl
theorem w_738 : (Jvm.Cond.selects "OverAndBack" ({ cls := "OverAndBack", name := "most", desc := "(III)I" } : Jvm.MethodName) ({ cls := "OverAndBack", name := "most", desc := "(III)I" } : Jvm.MethodName)) ∈ am_tbl := am_tbl_t (List.mem_append_right _ (List.mem_append_right _ (List.mem_append_right _ (List.mem_append_left _ (List.mem_of_getElem? (l := tables_1_4) (i := 18) rfl))))) rfl
theorem w_739 : (Jvm.Cond.code ({ cls := "OverAndBack", name := "most", desc := "(III)I" } : Jvm.MethodName) prog_1_method_16_code (4 : Nat) (Option.some Jvm.ClassFile.FieldType.int)) ∈ am_tbl := am_tbl_t (List.mem_append_right _ (List.mem_append_right _ (List.mem_append_right _ (List.mem_append_left _ (List.mem_of_getElem? (l := tables_1_4) (i := 19) rfl))))) rfl
theorem w_740 : (Jvm.Cond.methodLink "OverAndBack" (207 : Nat) ({ cls := "OverAndBack$Routes", name := "findFirstGoing", desc := "(LOverAndBack$Evening;LOverAndBack$Screen;II)V" } : Jvm.MethodName)) ∈ am_tbl := am_tbl_t (List.mem_append_right _ (List.mem_append_right _ (List.mem_append_right _ (List.mem_append_left _ (List.mem_of_getElem? (l := tables_1_4) (i := 20) rfl))))) rfl
theorem w_741 : (Jvm.Cond.instanceMethod ({ cls := "OverAndBack$Routes", name := "findFirstGoing", desc := "(LOverAndBack$Evening;LOverAndBack$Screen;II)V" } : Jvm.MethodName)) ∈ am_tbl := am_tbl_t (List.mem_append_right _ (List.mem_append_right _ (List.mem_append_right _ (List.mem_append_left _ (List.mem_of_getElem? (l := tables_1_4) (i := 21) rfl))))) rfl
theorem w_742 : (Jvm.Cond.selects "OverAndBack$Routes" ({ cls := "OverAndBack$Routes", name := "findFirstGoing", desc := "(LOverAndBack$Evening;LOverAndBack$Screen;II)V" } : Jvm.MethodName) ({ cls := "OverAndBack$Routes", name := "findFirstGoing", desc := "(LOverAndBack$Evening;LOverAndBack$Screen;II)V" } : Jvm.MethodName)) ∈ am_tbl := am_tbl_t (List.mem_append_right _ (List.mem_append_right _ (List.mem_append_right _ (List.mem_append_left _ (List.mem_of_getElem? (l := tables_1_4) (i := 22) rfl))))) rfl
theorem w_743 : (Jvm.Cond.code ({ cls := "OverAndBack$Routes", name := "findFirstGoing", desc := "(LOverAndBack$Evening;LOverAndBack$Screen;II)V" } : Jvm.MethodName) prog_9_method_4_code (8 : Nat) (Option.none : Option Jvm.ClassFile.FieldType)) ∈ am_tbl := am_tbl_t (List.mem_append_right _ (List.mem_append_right _ (List.mem_append_right _ (List.mem_append_left _ (List.mem_of_getElem? (l := tables_1_4) (i := 23) rfl))))) rfl
theorem w_744 : (Jvm.Cond.methodLink "OverAndBack$Routes" (50 : Nat) ({ cls := "OverAndBack$Routes", name := "goalWorth", desc := "(LOverAndBack$Evening;LOverAndBack$Screen;III)I" } : Jvm.MethodName)) ∈ am_tbl := am_tbl_t (List.mem_append_right _ (List.mem_append_right _ (List.mem_append_right _ (List.mem_append_left _ (List.mem_of_getElem? (l := tables_1_4) (i := 24) rfl))))) rfl
theorem w_746 : (Jvm.Cond.instanceMethod ({ cls := "OverAndBack$Routes", name := "goalWorth", desc := "(LOverAndBack$Evening;LOverAndBack$Screen;III)I" } : Jvm.MethodName)) ∈ am_tbl := am_tbl_t (List.mem_append_right _ (List.mem_append_right _ (List.mem_append_right _ (List.mem_append_left _ (List.mem_of_getElem? (l := tables_1_4) (i := 26) rfl))))) rfl
theorem w_747 : (Jvm.Cond.code ({ cls := "OverAndBack$Routes", name := "goalWorth", desc := "(LOverAndBack$Evening;LOverAndBack$Screen;III)I" } : Jvm.MethodName) prog_9_method_7_code (7 : Nat) (Option.some Jvm.ClassFile.FieldType.int)) ∈ am_tbl := am_tbl_t (List.mem_append_right _ (List.mem_append_right _ (List.mem_append_right _ (List.mem_append_left _ (List.mem_of_getElem? (l := tables_1_4) (i := 27) rfl))))) rfl
theorem w_749 : (Jvm.Cond.instanceMethod ({ cls := "OverAndBack", name := "understand", desc := "(III)I" } : Jvm.MethodName)) ∈ am_tbl := am_tbl_t (List.mem_append_right _ (List.mem_append_right _ (List.mem_append_right _ (List.mem_append_left _ (List.mem_of_getElem? (l := tables_1_4) (i := 29) rfl))))) rfl
theorem w_750 : (Jvm.Cond.selects "OverAndBack" ({ cls := "OverAndBack", name := "understand", desc := "(III)I" } : Jvm.MethodName) ({ cls := "OverAndBack", name := "understand", desc := "(III)I" } : Jvm.MethodName)) ∈ am_tbl := am_tbl_t (List.mem_append_right _ (List.mem_append_right _ (List.mem_append_right _ (List.mem_append_left _ (List.mem_of_getElem? (l := tables_1_4) (i := 30) rfl))))) rfl
theorem w_751 : (Jvm.Cond.code ({ cls := "OverAndBack", name := "understand", desc := "(III)I" } : Jvm.MethodName) prog_1_method_17_code (4 : Nat) (Option.some Jvm.ClassFile.FieldType.int)) ∈ am_tbl := am_tbl_t (List.mem_append_right _ (List.mem_append_right _ (List.mem_append_right _ (List.mem_append_left _ (List.mem_of_getElem? (l := tables_1_4) (i := 31) rfl))))) rfl
theorem w_752 : (Jvm.Cond.methodLink "OverAndBack" (217 : Nat) ({ cls := "OverAndBack$Learning", name := "learn", desc := "(LOverAndBack$Evening;II)V" } : Jvm.MethodName)) ∈ am_tbl := am_tbl_t (List.mem_append_right _ (List.mem_append_right _ (List.mem_append_right _ (List.mem_append_left _ (List.mem_of_getElem? (l := tables_1_4) (i := 32) rfl))))) rfl
theorem w_753 : (Jvm.Cond.instanceMethod ({ cls := "OverAndBack$Learning", name := "learn", desc := "(LOverAndBack$Evening;II)V" } : Jvm.MethodName)) ∈ am_tbl := am_tbl_t (List.mem_append_right _ (List.mem_append_right _ (List.mem_append_right _ (List.mem_append_left _ (List.mem_of_getElem? (l := tables_1_4) (i := 33) rfl))))) rfl
theorem w_754 : (Jvm.Cond.selects "OverAndBack$Learning" ({ cls := "OverAndBack$Learning", name := "learn", desc := "(LOverAndBack$Evening;II)V" } : Jvm.MethodName) ({ cls := "OverAndBack$Learning", name := "learn", desc := "(LOverAndBack$Evening;II)V" } : Jvm.MethodName)) ∈ am_tbl := am_tbl_t (List.mem_append_right _ (List.mem_append_right _ (List.mem_append_right _ (List.mem_append_left _ (List.mem_of_getElem? (l := tables_1_4) (i := 34) rfl))))) rfl
theorem w_755 : (Jvm.Cond.code ({ cls := "OverAndBack$Learning", name := "learn", desc := "(LOverAndBack$Evening;II)V" } : Jvm.MethodName) prog_5_method_2_code (6 : Nat) (Option.none : Option Jvm.ClassFile.FieldType)) ∈ am_tbl := am_tbl_t (List.mem_append_right _ (List.mem_append_right _ (List.mem_append_right _ (List.mem_append_left _ (List.mem_of_getElem? (l := tables_1_4) (i := 35) rfl))))) rfl
theorem w_756 : (Jvm.Cond.methodLink "OverAndBack$Learning" (64 : Nat) ({ cls := "java/lang/Math", name := "min", desc := "(II)I" } : Jvm.MethodName)) ∈ am_tbl := am_tbl_t (List.mem_append_right _ (List.mem_append_right _ (List.mem_append_right _ (List.mem_append_left _ (List.mem_of_getElem? (l := tables_1_4) (i := 36) rfl))))) rfl
theorem w_757 : (Jvm.Cond.methodLink "OverAndBack$Learning" (74 : Nat) ({ cls := "OverAndBack$Learning", name := "survey", desc := "(I)V" } : Jvm.MethodName)) ∈ am_tbl := am_tbl_t (List.mem_append_right _ (List.mem_append_right _ (List.mem_append_right _ (List.mem_append_left _ (List.mem_of_getElem? (l := tables_1_4) (i := 37) rfl))))) rfl
theorem w_759 : (Jvm.Cond.instanceMethod ({ cls := "OverAndBack$Learning", name := "survey", desc := "(I)V" } : Jvm.MethodName)) ∈ am_tbl := am_tbl_t (List.mem_append_right _ (List.mem_append_right _ (List.mem_append_right _ (List.mem_append_left _ (List.mem_of_getElem? (l := tables_1_4) (i := 39) rfl))))) rfl
theorem w_760 : (Jvm.Cond.code ({ cls := "OverAndBack$Learning", name := "survey", desc := "(I)V" } : Jvm.MethodName) prog_5_method_3_code (4 : Nat) (Option.none : Option Jvm.ClassFile.FieldType)) ∈ am_tbl := am_tbl_t (List.mem_append_right _ (List.mem_append_right _ (List.mem_append_right _ (List.mem_append_left _ (List.mem_of_getElem? (l := tables_1_4) (i := 40) rfl))))) rfl
theorem w_761 : (Jvm.Cond.methodLink "OverAndBack$Learning" (86 : Nat) ({ cls := "OverAndBack$Screen", name := "factBit", desc := "(II)I" } : Jvm.MethodName)) ∈ am_tbl := am_tbl_t (List.mem_append_right _ (List.mem_append_right _ (List.mem_append_right _ (List.mem_append_left _ (List.mem_of_getElem? (l := tables_1_4) (i := 41) rfl))))) rfl
theorem w_762 : (Jvm.Cond.methodLink "OverAndBack$Learning" (91 : Nat) ({ cls := "OverAndBack$Facts", name := "following", desc := "(I)I" } : Jvm.MethodName)) ∈ am_tbl := am_tbl_t (List.mem_append_right _ (List.mem_append_right _ (List.mem_append_right _ (List.mem_append_left _ (List.mem_of_getElem? (l := tables_1_4) (i := 42) rfl))))) rfl
theorem w_763 : (Jvm.Cond.methodLink "OverAndBack$Learning" (78 : Nat) ({ cls := "OverAndBack$Learning", name := "reach", desc := "(IIII)V" } : Jvm.MethodName)) ∈ am_tbl := am_tbl_t (List.mem_append_right _ (List.mem_append_right _ (List.mem_append_right _ (List.mem_append_left _ (List.mem_of_getElem? (l := tables_1_4) (i := 43) rfl))))) rfl
theorem w_765 : (Jvm.Cond.instanceMethod ({ cls := "OverAndBack$Learning", name := "reach", desc := "(IIII)V" } : Jvm.MethodName)) ∈ am_tbl := am_tbl_t (List.mem_append_right _ (List.mem_append_right _ (List.mem_append_right _ (List.mem_append_left _ (List.mem_of_getElem? (l := tables_1_4) (i := 45) rfl))))) rfl
theorem w_766 : (Jvm.Cond.code ({ cls := "OverAndBack$Learning", name := "reach", desc := "(IIII)V" } : Jvm.MethodName) prog_5_method_8_code (6 : Nat) (Option.none : Option Jvm.ClassFile.FieldType)) ∈ am_tbl := am_tbl_t (List.mem_append_right _ (List.mem_append_right _ (List.mem_append_right _ (List.mem_append_left _ (List.mem_of_getElem? (l := tables_1_4) (i := 46) rfl))))) rfl
theorem w_767 : (Jvm.Cond.methodLink "OverAndBack$Learning" (112 : Nat) ({ cls := "OverAndBack$Learning", name := "isThere", desc := "(III)Z" } : Jvm.MethodName)) ∈ am_tbl := am_tbl_t (List.mem_append_right _ (List.mem_append_right _ (List.mem_append_right _ (List.mem_append_left _ (List.mem_of_getElem? (l := tables_1_4) (i := 47) rfl))))) rfl
theorem w_768 : (Jvm.Cond.static ({ cls := "OverAndBack$Learning", name := "isThere", desc := "(III)Z" } : Jvm.MethodName)) ∈ am_tbl := am_tbl_t (List.mem_append_right _ (List.mem_append_right _ (List.mem_append_right _ (List.mem_append_left _ (List.mem_of_getElem? (l := tables_1_4) (i := 48) rfl))))) rfl
theorem w_769 : (Jvm.Cond.code ({ cls := "OverAndBack$Learning", name := "isThere", desc := "(III)Z" } : Jvm.MethodName) prog_5_method_9_code (3 : Nat) (Option.some Jvm.ClassFile.FieldType.boolean)) ∈ am_tbl := am_tbl_t (List.mem_append_right _ (List.mem_append_right _ (List.mem_append_right _ (List.mem_append_left _ (List.mem_of_getElem? (l := tables_1_4) (i := 49) rfl))))) rfl
theorem w_770 : (Jvm.Cond.methodLink "OverAndBack$Learning" (97 : Nat) ({ cls := "OverAndBack$Learning", name := "placeOf", desc := "(III)I" } : Jvm.MethodName)) ∈ am_tbl := am_tbl_t (List.mem_append_right _ (List.mem_append_right _ (List.mem_append_right _ (List.mem_append_left _ (List.mem_of_getElem? (l := tables_1_4) (i := 50) rfl))))) rfl
theorem w_771 : (Jvm.Cond.static ({ cls := "OverAndBack$Learning", name := "placeOf", desc := "(III)I" } : Jvm.MethodName)) ∈ am_tbl := am_tbl_t (List.mem_append_right _ (List.mem_append_right _ (List.mem_append_right _ (List.mem_append_left _ (List.mem_of_getElem? (l := tables_1_4) (i := 51) rfl))))) rfl
theorem w_772 : (Jvm.Cond.code ({ cls := "OverAndBack$Learning", name := "placeOf", desc := "(III)I" } : Jvm.MethodName) prog_5_method_10_code (3 : Nat) (Option.some Jvm.ClassFile.FieldType.int)) ∈ am_tbl := am_tbl_t (List.mem_append_right _ (List.mem_append_right _ (List.mem_append_right _ (List.mem_append_left _ (List.mem_of_getElem? (l := tables_1_4) (i := 52) rfl))))) rfl
theorem w_773 : (Jvm.Cond.methodLink "OverAndBack$Learning" (82 : Nat) ({ cls := "OverAndBack$Learning", name := "takeOut", desc := "(III)V" } : Jvm.MethodName)) ∈ am_tbl := am_tbl_t (List.mem_append_right _ (List.mem_append_right _ (List.mem_append_right _ (List.mem_append_left _ (List.mem_of_getElem? (l := tables_1_4) (i := 53) rfl))))) rfl
theorem w_775 : (Jvm.Cond.instanceMethod ({ cls := "OverAndBack$Learning", name := "takeOut", desc := "(III)V" } : Jvm.MethodName)) ∈ am_tbl := am_tbl_t (List.mem_append_right _ (List.mem_append_right _ (List.mem_append_right _ (List.mem_append_left _ (List.mem_of_getElem? (l := tables_1_4) (i := 55) rfl))))) rfl
theorem w_776 : (Jvm.Cond.code ({ cls := "OverAndBack$Learning", name := "takeOut", desc := "(III)V" } : Jvm.MethodName) prog_5_method_4_code (7 : Nat) (Option.none : Option Jvm.ClassFile.FieldType)) ∈ am_tbl := am_tbl_t (List.mem_append_right _ (List.mem_append_right _ (List.mem_append_right _ (List.mem_append_left _ (List.mem_of_getElem? (l := tables_1_4) (i := 56) rfl))))) rfl
theorem w_777 : (Jvm.Cond.methodLink "OverAndBack$Learning" (101 : Nat) ({ cls := "OverAndBack$Learning", name := "passOn", desc := "(IIIII)V" } : Jvm.MethodName)) ∈ am_tbl := am_tbl_t (List.mem_append_right _ (List.mem_append_right _ (List.mem_append_right _ (List.mem_append_left _ (List.mem_of_getElem? (l := tables_1_4) (i := 57) rfl))))) rfl
theorem w_779 : (Jvm.Cond.instanceMethod ({ cls := "OverAndBack$Learning", name := "passOn", desc := "(IIIII)V" } : Jvm.MethodName)) ∈ am_tbl := am_tbl_t (List.mem_append_right _ (List.mem_append_right _ (List.mem_append_right _ (List.mem_append_left _ (List.mem_of_getElem? (l := tables_1_4) (i := 59) rfl))))) rfl
theorem w_780 : (Jvm.Cond.code ({ cls := "OverAndBack$Learning", name := "passOn", desc := "(IIIII)V" } : Jvm.MethodName) prog_5_method_5_code (7 : Nat) (Option.none : Option Jvm.ClassFile.FieldType)) ∈ am_tbl := am_tbl_t (List.mem_append_right _ (List.mem_append_right _ (List.mem_append_right _ (List.mem_append_left _ (List.mem_of_getElem? (l := tables_1_4) (i := 60) rfl))))) rfl
theorem w_781 : (Jvm.Cond.methodLink "OverAndBack$Learning" (105 : Nat) ({ cls := "OverAndBack$Learning", name := "note", desc := "(II)V" } : Jvm.MethodName)) ∈ am_tbl := am_tbl_t (List.mem_append_right _ (List.mem_append_right _ (List.mem_append_right _ (List.mem_append_left _ (List.mem_of_getElem? (l := tables_1_4) (i := 61) rfl))))) rfl
theorem w_783 : (Jvm.Cond.instanceMethod ({ cls := "OverAndBack$Learning", name := "note", desc := "(II)V" } : Jvm.MethodName)) ∈ am_tbl := am_tbl_t (List.mem_append_right _ (List.mem_append_right _ (List.mem_append_right _ (List.mem_append_left _ (List.mem_of_getElem? (l := tables_1_4) (i := 63) rfl))))) rfl
theorem w_784 : (Jvm.Cond.code ({ cls := "OverAndBack$Learning", name := "note", desc := "(II)V" } : Jvm.MethodName) prog_5_method_6_code (3 : Nat) (Option.none : Option Jvm.ClassFile.FieldType)) ∈ am_tbl := am_tbl_t (List.mem_append_right _ (List.mem_append_right _ (List.mem_append_right _ (List.mem_append_left _ (List.mem_of_getElem? (l := tables_1_4) (i := 64) rfl))))) rfl
theorem w_785 : (Jvm.Cond.methodLink "OverAndBack$Learning" (109 : Nat) ({ cls := "OverAndBack$Learning", name := "see", desc := "(IIII)V" } : Jvm.MethodName)) ∈ am_tbl := am_tbl_t (List.mem_append_right _ (List.mem_append_right _ (List.mem_append_right _ (List.mem_append_left _ (List.mem_of_getElem? (l := tables_1_4) (i := 65) rfl))))) rfl
theorem w_787 : (Jvm.Cond.instanceMethod ({ cls := "OverAndBack$Learning", name := "see", desc := "(IIII)V" } : Jvm.MethodName)) ∈ am_tbl := am_tbl_t (List.mem_append_right _ (List.mem_append_right _ (List.mem_append_right _ (List.mem_append_left _ (List.mem_of_getElem? (l := tables_1_4) (i := 67) rfl))))) rfl
theorem w_788 : (Jvm.Cond.code ({ cls := "OverAndBack$Learning", name := "see", desc := "(IIII)V" } : Jvm.MethodName) prog_5_method_7_code (5 : Nat) (Option.none : Option Jvm.ClassFile.FieldType)) ∈ am_tbl := am_tbl_t (List.mem_append_right _ (List.mem_append_right _ (List.mem_append_right _ (List.mem_append_left _ (List.mem_of_getElem? (l := tables_1_4) (i := 68) rfl))))) rfl
theorem w_790 : (Jvm.Cond.instanceMethod ({ cls := "OverAndBack", name := "soonest", desc := "(II)I" } : Jvm.MethodName)) ∈ am_tbl := am_tbl_t (List.mem_append_right _ (List.mem_append_right _ (List.mem_append_right _ (List.mem_append_left _ (List.mem_of_getElem? (l := tables_1_4) (i := 70) rfl))))) rfl
theorem w_791 : (Jvm.Cond.selects "OverAndBack" ({ cls := "OverAndBack", name := "soonest", desc := "(II)I" } : Jvm.MethodName) ({ cls := "OverAndBack", name := "soonest", desc := "(II)I" } : Jvm.MethodName)) ∈ am_tbl := am_tbl_t (List.mem_append_right _ (List.mem_append_right _ (List.mem_append_right _ (List.mem_append_left _ (List.mem_of_getElem? (l := tables_1_4) (i := 71) rfl))))) rfl
theorem w_792 : (Jvm.Cond.code ({ cls := "OverAndBack", name := "soonest", desc := "(II)I" } : Jvm.MethodName) prog_1_method_18_code (3 : Nat) (Option.some Jvm.ClassFile.FieldType.int)) ∈ am_tbl := am_tbl_t (List.mem_append_right _ (List.mem_append_right _ (List.mem_append_right _ (List.mem_append_left _ (List.mem_of_getElem? (l := tables_1_4) (i := 72) rfl))))) rfl
theorem w_794 : (Jvm.Cond.instanceMethod ({ cls := "OverAndBack", name := "ask", desc := "(II)I" } : Jvm.MethodName)) ∈ am_tbl := am_tbl_t (List.mem_append_right _ (List.mem_append_right _ (List.mem_append_right _ (List.mem_append_left _ (List.mem_of_getElem? (l := tables_1_4) (i := 74) rfl))))) rfl
theorem w_795 : (Jvm.Cond.selects "OverAndBack" ({ cls := "OverAndBack", name := "ask", desc := "(II)I" } : Jvm.MethodName) ({ cls := "OverAndBack", name := "ask", desc := "(II)I" } : Jvm.MethodName)) ∈ am_tbl := am_tbl_t (List.mem_append_right _ (List.mem_append_right _ (List.mem_append_right _ (List.mem_append_left _ (List.mem_of_getElem? (l := tables_1_4) (i := 75) rfl))))) rfl
theorem w_796 : (Jvm.Cond.code ({ cls := "OverAndBack", name := "ask", desc := "(II)I" } : Jvm.MethodName) prog_1_method_19_code (3 : Nat) (Option.some Jvm.ClassFile.FieldType.int)) ∈ am_tbl := am_tbl_t (List.mem_append_right _ (List.mem_append_right _ (List.mem_append_right _ (List.mem_append_left _ (List.mem_of_getElem? (l := tables_1_4) (i := 76) rfl))))) rfl
theorem w_797 : (Jvm.Cond.methodLink "OverAndBack" (230 : Nat) ({ cls := "OverAndBack$Facts", name := "fewestToAsk", desc := "(II)I" } : Jvm.MethodName)) ∈ am_tbl := am_tbl_t (List.mem_append_right _ (List.mem_append_right _ (List.mem_append_right _ (List.mem_append_left _ (List.mem_of_getElem? (l := tables_1_4) (i := 77) rfl))))) rfl
theorem w_798 : (Jvm.Cond.instanceMethod ({ cls := "OverAndBack$Facts", name := "fewestToAsk", desc := "(II)I" } : Jvm.MethodName)) ∈ am_tbl := am_tbl_t (List.mem_append_right _ (List.mem_append_right _ (List.mem_append_right _ (List.mem_append_left _ (List.mem_of_getElem? (l := tables_1_4) (i := 78) rfl))))) rfl
theorem w_799 : (Jvm.Cond.selects "OverAndBack$Facts" ({ cls := "OverAndBack$Facts", name := "fewestToAsk", desc := "(II)I" } : Jvm.MethodName) ({ cls := "OverAndBack$Facts", name := "fewestToAsk", desc := "(II)I" } : Jvm.MethodName)) ∈ am_tbl := am_tbl_t (List.mem_append_right _ (List.mem_append_right _ (List.mem_append_right _ (List.mem_append_left _ (List.mem_of_getElem? (l := tables_1_4) (i := 79) rfl))))) rfl
theorem w_800 : (Jvm.Cond.code ({ cls := "OverAndBack$Facts", name := "fewestToAsk", desc := "(II)I" } : Jvm.MethodName) prog_4_method_5_code (6 : Nat) (Option.some Jvm.ClassFile.FieldType.int)) ∈ am_tbl := am_tbl_t (List.mem_append_right _ (List.mem_append_right _ (List.mem_append_right _ (List.mem_append_left _ (List.mem_of_getElem? (l := tables_1_4) (i := 80) rfl))))) rfl
theorem w_801 : (Jvm.Cond.methodLink "OverAndBack$Facts" (35 : Nat) ({ cls := "OverAndBack$Facts", name := "following", desc := "(I)I" } : Jvm.MethodName)) ∈ am_tbl := am_tbl_t (List.mem_append_right _ (List.mem_append_right _ (List.mem_append_right _ (List.mem_append_left _ (List.mem_of_getElem? (l := tables_1_4) (i := 81) rfl))))) rfl
theorem w_802 : (Jvm.Cond.methodLink "OverAndBack$Facts" (39 : Nat) ({ cls := "java/lang/Integer", name := "bitCount", desc := "(I)I" } : Jvm.MethodName)) ∈ am_tbl := am_tbl_t (List.mem_append_right _ (List.mem_append_right _ (List.mem_append_right _ (List.mem_append_left _ (List.mem_of_getElem? (l := tables_1_4) (i := 82) rfl))))) rfl
theorem w_803 : (Jvm.Cond.static ({ cls := "java/lang/Integer", name := "bitCount", desc := "(I)I" } : Jvm.MethodName)) ∈ am_tbl := am_tbl_t (List.mem_append_right _ (List.mem_append_right _ (List.mem_append_right _ (List.mem_append_left _ (List.mem_of_getElem? (l := tables_1_4) (i := 83) rfl))))) rfl
theorem w_804 : (Jvm.Cond.code ({ cls := "java/lang/Integer", name := "bitCount", desc := "(I)I" } : Jvm.MethodName) prog_15_method_49_code (1 : Nat) (Option.some Jvm.ClassFile.FieldType.int)) ∈ am_tbl := am_tbl_t (List.mem_append_right _ (List.mem_append_right _ (List.mem_append_right _ (List.mem_append_left _ (List.mem_of_getElem? (l := tables_1_4) (i := 84) rfl))))) rfl
theorem w_805 : (Jvm.Cond.constant "java/lang/Integer" (265 : Nat) (1431655765 : Int32)) ∈ am_tbl := am_tbl_t (List.mem_append_right _ (List.mem_append_right _ (List.mem_append_right _ (List.mem_append_left _ (List.mem_of_getElem? (l := tables_1_4) (i := 85) rfl))))) rfl
theorem w_806 : (Jvm.Cond.constant "java/lang/Integer" (266 : Nat) (858993459 : Int32)) ∈ am_tbl := am_tbl_t (List.mem_append_right _ (List.mem_append_right _ (List.mem_append_right _ (List.mem_append_left _ (List.mem_of_getElem? (l := tables_1_4) (i := 86) rfl))))) rfl
theorem w_807 : (Jvm.Cond.constant "java/lang/Integer" (267 : Nat) (252645135 : Int32)) ∈ am_tbl := am_tbl_t (List.mem_append_right _ (List.mem_append_right _ (List.mem_append_right _ (List.mem_append_left _ (List.mem_of_getElem? (l := tables_1_4) (i := 87) rfl))))) rfl
theorem w_809 : (Jvm.Cond.instanceMethod ({ cls := "OverAndBack", name := "fair", desc := "(II)I" } : Jvm.MethodName)) ∈ am_tbl := am_tbl_t (List.mem_append_right _ (List.mem_append_right _ (List.mem_append_right _ (List.mem_append_left _ (List.mem_of_getElem? (l := tables_1_4) (i := 89) rfl))))) rfl
theorem w_810 : (Jvm.Cond.selects "OverAndBack" ({ cls := "OverAndBack", name := "fair", desc := "(II)I" } : Jvm.MethodName) ({ cls := "OverAndBack", name := "fair", desc := "(II)I" } : Jvm.MethodName)) ∈ am_tbl := am_tbl_t (List.mem_append_right _ (List.mem_append_right _ (List.mem_append_right _ (List.mem_append_left _ (List.mem_of_getElem? (l := tables_1_4) (i := 90) rfl))))) rfl
theorem w_811 : (Jvm.Cond.code ({ cls := "OverAndBack", name := "fair", desc := "(II)I" } : Jvm.MethodName) prog_1_method_20_code (3 : Nat) (Option.some Jvm.ClassFile.FieldType.int)) ∈ am_tbl := am_tbl_t (List.mem_append_right _ (List.mem_append_right _ (List.mem_append_right _ (List.mem_append_left _ (List.mem_of_getElem? (l := tables_1_4) (i := 91) rfl))))) rfl
theorem w_812 : (Jvm.Cond.methodLink "OverAndBack" (233 : Nat) ({ cls := "OverAndBack", name := "fairBound", desc := "(I)I" } : Jvm.MethodName)) ∈ am_tbl := am_tbl_t (List.mem_append_right _ (List.mem_append_right _ (List.mem_append_right _ (List.mem_append_left _ (List.mem_of_getElem? (l := tables_1_4) (i := 92) rfl))))) rfl
theorem w_814 : (Jvm.Cond.instanceMethod ({ cls := "OverAndBack", name := "fairBound", desc := "(I)I" } : Jvm.MethodName)) ∈ am_tbl := am_tbl_t (List.mem_append_right _ (List.mem_append_right _ (List.mem_append_right _ (List.mem_append_left _ (List.mem_of_getElem? (l := tables_1_4) (i := 94) rfl))))) rfl
theorem w_815 : (Jvm.Cond.code ({ cls := "OverAndBack", name := "fairBound", desc := "(I)I" } : Jvm.MethodName) prog_1_method_34_code (2 : Nat) (Option.some Jvm.ClassFile.FieldType.int)) ∈ am_tbl := am_tbl_t (List.mem_append_right _ (List.mem_append_right _ (List.mem_append_right _ (List.mem_append_left _ (List.mem_of_getElem? (l := tables_1_4) (i := 95) rfl))))) rfl
theorem w_816 : (Jvm.Cond.methodLink "OverAndBack" (294 : Nat) ({ cls := "OverAndBack$Evening", name := "turns", desc := "()I" } : Jvm.MethodName)) ∈ am_tbl := am_tbl_t (List.mem_append_right _ (List.mem_append_right _ (List.mem_append_right _ (List.mem_append_left _ (List.mem_of_getElem? (l := tables_1_4) (i := 96) rfl))))) rfl
theorem w_817 : (Jvm.Cond.instanceMethod ({ cls := "OverAndBack$Evening", name := "turns", desc := "()I" } : Jvm.MethodName)) ∈ am_tbl := am_tbl_t (List.mem_append_right _ (List.mem_append_right _ (List.mem_append_right _ (List.mem_append_left _ (List.mem_of_getElem? (l := tables_1_4) (i := 97) rfl))))) rfl
theorem w_818 : (Jvm.Cond.selects "OverAndBack$Evening" ({ cls := "OverAndBack$Evening", name := "turns", desc := "()I" } : Jvm.MethodName) ({ cls := "OverAndBack$Evening", name := "turns", desc := "()I" } : Jvm.MethodName)) ∈ am_tbl := am_tbl_t (List.mem_append_right _ (List.mem_append_right _ (List.mem_append_right _ (List.mem_append_left _ (List.mem_of_getElem? (l := tables_1_4) (i := 98) rfl))))) rfl
theorem w_819 : (Jvm.Cond.code ({ cls := "OverAndBack$Evening", name := "turns", desc := "()I" } : Jvm.MethodName) prog_3_method_5_code (1 : Nat) (Option.some Jvm.ClassFile.FieldType.int)) ∈ am_tbl := am_tbl_t (List.mem_append_right _ (List.mem_append_right _ (List.mem_append_right _ (List.mem_append_left _ (List.mem_of_getElem? (l := tables_1_4) (i := 99) rfl))))) rfl
theorem w_820 : (Jvm.Cond.methodLink "OverAndBack" (297 : Nat) ({ cls := "java/lang/Math", name := "max", desc := "(II)I" } : Jvm.MethodName)) ∈ am_tbl := am_tbl_t (List.mem_append_right _ (List.mem_append_right _ (List.mem_append_right _ (List.mem_append_left _ (List.mem_of_getElem? (l := tables_1_4) (i := 100) rfl))))) rfl
theorem w_821 : (Jvm.Cond.methodLink "OverAndBack" (239 : Nat) ({ cls := "OverAndBack$Box", name := "share", desc := "(LOverAndBack$Evening;LOverAndBack$Screen;)V" } : Jvm.MethodName)) ∈ am_tbl := am_tbl_t (List.mem_append_right _ (List.mem_append_right _ (List.mem_append_right _ (List.mem_append_left _ (List.mem_of_getElem? (l := tables_1_4) (i := 101) rfl))))) rfl
theorem w_822 : (Jvm.Cond.instanceMethod ({ cls := "OverAndBack$Box", name := "share", desc := "(LOverAndBack$Evening;LOverAndBack$Screen;)V" } : Jvm.MethodName)) ∈ am_tbl := am_tbl_t (List.mem_append_right _ (List.mem_append_right _ (List.mem_append_right _ (List.mem_append_left _ (List.mem_of_getElem? (l := tables_1_4) (i := 102) rfl))))) rfl
theorem w_823 : (Jvm.Cond.selects "OverAndBack$Box" ({ cls := "OverAndBack$Box", name := "share", desc := "(LOverAndBack$Evening;LOverAndBack$Screen;)V" } : Jvm.MethodName) ({ cls := "OverAndBack$Box", name := "share", desc := "(LOverAndBack$Evening;LOverAndBack$Screen;)V" } : Jvm.MethodName)) ∈ am_tbl := am_tbl_t (List.mem_append_right _ (List.mem_append_right _ (List.mem_append_right _ (List.mem_append_left _ (List.mem_of_getElem? (l := tables_1_4) (i := 103) rfl))))) rfl
theorem w_824 : (Jvm.Cond.code ({ cls := "OverAndBack$Box", name := "share", desc := "(LOverAndBack$Evening;LOverAndBack$Screen;)V" } : Jvm.MethodName) prog_2_method_2_code (5 : Nat) (Option.none : Option Jvm.ClassFile.FieldType)) ∈ am_tbl := am_tbl_t (List.mem_append_right _ (List.mem_append_right _ (List.mem_append_right _ (List.mem_append_left _ (List.mem_of_getElem? (l := tables_1_4) (i := 104) rfl))))) rfl
theorem w_825 : (Jvm.Cond.methodLink "OverAndBack$Box" (41 : Nat) ({ cls := "OverAndBack$Evening", name := "turns", desc := "()I" } : Jvm.MethodName)) ∈ am_tbl := am_tbl_t (List.mem_append_right _ (List.mem_append_right _ (List.mem_append_right _ (List.mem_append_left _ (List.mem_of_getElem? (l := tables_1_4) (i := 105) rfl))))) rfl
theorem w_826 : (Jvm.Cond.methodLink "OverAndBack$Box" (46 : Nat) ({ cls := "java/lang/Math", name := "min", desc := "(II)I" } : Jvm.MethodName)) ∈ am_tbl := am_tbl_t (List.mem_append_right _ (List.mem_append_right _ (List.mem_append_right _ (List.mem_append_left _ (List.mem_of_getElem? (l := tables_1_4) (i := 106) rfl))))) rfl
theorem w_827 : (Jvm.Cond.methodLink "OverAndBack$Box" (52 : Nat) ({ cls := "OverAndBack$Box", name := "weigh", desc := "(LOverAndBack$Evening;LOverAndBack$Screen;)V" } : Jvm.MethodName)) ∈ am_tbl := am_tbl_t (List.mem_append_right _ (List.mem_append_right _ (List.mem_append_right _ (List.mem_append_left _ (List.mem_of_getElem? (l := tables_1_4) (i := 107) rfl))))) rfl
theorem w_829 : (Jvm.Cond.instanceMethod ({ cls := "OverAndBack$Box", name := "weigh", desc := "(LOverAndBack$Evening;LOverAndBack$Screen;)V" } : Jvm.MethodName)) ∈ am_tbl := am_tbl_t (List.mem_append_right _ (List.mem_append_right _ (List.mem_append_right _ (List.mem_append_left _ (List.mem_of_getElem? (l := tables_1_4) (i := 109) rfl))))) rfl
theorem w_830 : (Jvm.Cond.code ({ cls := "OverAndBack$Box", name := "weigh", desc := "(LOverAndBack$Evening;LOverAndBack$Screen;)V" } : Jvm.MethodName) prog_2_method_5_code (7 : Nat) (Option.none : Option Jvm.ClassFile.FieldType)) ∈ am_tbl := am_tbl_t (List.mem_append_right _ (List.mem_append_right _ (List.mem_append_right _ (List.mem_append_left _ (List.mem_of_getElem? (l := tables_1_4) (i := 110) rfl))))) rfl
theorem w_831 : (Jvm.Cond.methodLink "OverAndBack$Box" (82 : Nat) ({ cls := "OverAndBack$Box", name := "shown", desc := "(LOverAndBack$Screen;III)I" } : Jvm.MethodName)) ∈ am_tbl := am_tbl_t (List.mem_append_right _ (List.mem_append_right _ (List.mem_append_right _ (List.mem_append_left _ (List.mem_of_getElem? (l := tables_1_4) (i := 111) rfl))))) rfl
theorem w_832 : (Jvm.Cond.static ({ cls := "OverAndBack$Box", name := "shown", desc := "(LOverAndBack$Screen;III)I" } : Jvm.MethodName)) ∈ am_tbl := am_tbl_t (List.mem_append_right _ (List.mem_append_right _ (List.mem_append_right _ (List.mem_append_left _ (List.mem_of_getElem? (l := tables_1_4) (i := 112) rfl))))) rfl
theorem w_833 : (Jvm.Cond.code ({ cls := "OverAndBack$Box", name := "shown", desc := "(LOverAndBack$Screen;III)I" } : Jvm.MethodName) prog_2_method_6_code (6 : Nat) (Option.some Jvm.ClassFile.FieldType.int)) ∈ am_tbl := am_tbl_t (List.mem_append_right _ (List.mem_append_right _ (List.mem_append_right _ (List.mem_append_left _ (List.mem_of_getElem? (l := tables_1_4) (i := 113) rfl))))) rfl
theorem w_834 : (Jvm.Cond.methodLink "OverAndBack$Box" (89 : Nat) ({ cls := "OverAndBack$Screen", name := "worthOf", desc := "(II)I" } : Jvm.MethodName)) ∈ am_tbl := am_tbl_t (List.mem_append_right _ (List.mem_append_right _ (List.mem_append_right _ (List.mem_append_left _ (List.mem_of_getElem? (l := tables_1_4) (i := 114) rfl))))) rfl
theorem w_835 : (Jvm.Cond.methodLink "OverAndBack$Box" (56 : Nat) ({ cls := "java/util/Arrays", name := "fill", desc := "([II)V" } : Jvm.MethodName)) ∈ am_tbl := am_tbl_t (List.mem_append_right _ (List.mem_append_right _ (List.mem_append_right _ (List.mem_append_left _ (List.mem_of_getElem? (l := tables_1_4) (i := 115) rfl))))) rfl
theorem w_836 : (Jvm.Cond.methodLink "OverAndBack$Box" (62 : Nat) ({ cls := "OverAndBack$Box", name := "tryWay", desc := "(LOverAndBack$Evening;)V" } : Jvm.MethodName)) ∈ am_tbl := am_tbl_t (List.mem_append_right _ (List.mem_append_right _ (List.mem_append_right _ (List.mem_append_left _ (List.mem_of_getElem? (l := tables_1_4) (i := 116) rfl))))) rfl
theorem w_838 : (Jvm.Cond.instanceMethod ({ cls := "OverAndBack$Box", name := "tryWay", desc := "(LOverAndBack$Evening;)V" } : Jvm.MethodName)) ∈ am_tbl := am_tbl_t (List.mem_append_right _ (List.mem_append_right _ (List.mem_append_right _ (List.mem_append_left _ (List.mem_of_getElem? (l := tables_1_4) (i := 118) rfl))))) rfl
theorem w_839 : (Jvm.Cond.code ({ cls := "OverAndBack$Box", name := "tryWay", desc := "(LOverAndBack$Evening;)V" } : Jvm.MethodName) prog_2_method_7_code (7 : Nat) (Option.none : Option Jvm.ClassFile.FieldType)) ∈ am_tbl := am_tbl_t (List.mem_append_right _ (List.mem_append_right _ (List.mem_append_right _ (List.mem_append_left _ (List.mem_of_getElem? (l := tables_1_4) (i := 119) rfl))))) rfl
theorem w_840 : (Jvm.Cond.methodLink "OverAndBack$Box" (94 : Nat) ({ cls := "OverAndBack$Evening", name := "ownOf", desc := "(I)I" } : Jvm.MethodName)) ∈ am_tbl := am_tbl_t (List.mem_append_right _ (List.mem_append_right _ (List.mem_append_right _ (List.mem_append_left _ (List.mem_of_getElem? (l := tables_1_4) (i := 120) rfl))))) rfl
theorem w_841 : (Jvm.Cond.methodLink "OverAndBack$Box" (98 : Nat) ({ cls := "OverAndBack$Box", name := "leastOf", desc := "(LOverAndBack$Evening;)I" } : Jvm.MethodName)) ∈ am_tbl := am_tbl_t (List.mem_append_right _ (List.mem_append_right _ (List.mem_append_right _ (List.mem_append_left _ (List.mem_of_getElem? (l := tables_1_4) (i := 121) rfl))))) rfl
theorem w_843 : (Jvm.Cond.instanceMethod ({ cls := "OverAndBack$Box", name := "leastOf", desc := "(LOverAndBack$Evening;)I" } : Jvm.MethodName)) ∈ am_tbl := am_tbl_t (List.mem_append_right _ (List.mem_append_right _ (List.mem_append_right _ (List.mem_append_left _ (List.mem_of_getElem? (l := tables_1_4) (i := 123) rfl))))) rfl
theorem w_844 : (Jvm.Cond.code ({ cls := "OverAndBack$Box", name := "leastOf", desc := "(LOverAndBack$Evening;)I" } : Jvm.MethodName) prog_2_method_8_code (5 : Nat) (Option.some Jvm.ClassFile.FieldType.int)) ∈ am_tbl := am_tbl_t (List.mem_append_right _ (List.mem_append_right _ (List.mem_append_right _ (List.mem_append_left _ (List.mem_of_getElem? (l := tables_1_4) (i := 124) rfl))))) rfl
theorem w_845 : (Jvm.Cond.methodLink "OverAndBack$Box" (102 : Nat) ({ cls := "java/lang/System", name := "arraycopy", desc := "(Ljava/lang/Object;ILjava/lang/Object;II)V" } : Jvm.MethodName)) ∈ am_tbl := am_tbl_t (List.mem_append_right _ (List.mem_append_right _ (List.mem_append_right _ (List.mem_append_left _ (List.mem_of_getElem? (l := tables_1_4) (i := 125) rfl))))) rfl
theorem w_846 : (Jvm.Cond.methodLink "OverAndBack$Box" (75 : Nat) ({ cls := "OverAndBack$Box", name := "nextWay", desc := "(I)Z" } : Jvm.MethodName)) ∈ am_tbl := am_tbl_t (List.mem_append_right _ (List.mem_append_right _ (List.mem_append_right _ (List.mem_append_left _ (List.mem_of_getElem? (l := tables_1_4) (i := 126) rfl))))) rfl
theorem w_848 : (Jvm.Cond.instanceMethod ({ cls := "OverAndBack$Box", name := "nextWay", desc := "(I)Z" } : Jvm.MethodName)) ∈ am_tbl := am_tbl_t (List.mem_append_right _ (List.mem_append_right _ (List.mem_append_right _ (List.mem_append_left _ (List.mem_of_getElem? (l := tables_1_4) (i := 128) rfl))))) rfl
theorem w_849 : (Jvm.Cond.code ({ cls := "OverAndBack$Box", name := "nextWay", desc := "(I)Z" } : Jvm.MethodName) prog_2_method_9_code (3 : Nat) (Option.some Jvm.ClassFile.FieldType.boolean)) ∈ am_tbl := am_tbl_t (List.mem_append_right _ (List.mem_append_right _ (List.mem_append_right _ (List.mem_append_left _ (List.mem_of_getElem? (l := tables_1_4) (i := 129) rfl))))) rfl
theorem w_850 : (Jvm.Cond.methodLink "OverAndBack" (246 : Nat) ({ cls := "OverAndBack$Box", name := "holder", desc := "(I)I" } : Jvm.MethodName)) ∈ am_tbl := am_tbl_t (List.mem_append_right _ (List.mem_append_right _ (List.mem_append_right _ (List.mem_append_left _ (List.mem_of_getElem? (l := tables_1_4) (i := 130) rfl))))) rfl
theorem w_851 : (Jvm.Cond.instanceMethod ({ cls := "OverAndBack$Box", name := "holder", desc := "(I)I" } : Jvm.MethodName)) ∈ am_tbl := am_tbl_t (List.mem_append_right _ (List.mem_append_right _ (List.mem_append_right _ (List.mem_append_left _ (List.mem_of_getElem? (l := tables_1_4) (i := 131) rfl))))) rfl
theorem w_852 : (Jvm.Cond.selects "OverAndBack$Box" ({ cls := "OverAndBack$Box", name := "holder", desc := "(I)I" } : Jvm.MethodName) ({ cls := "OverAndBack$Box", name := "holder", desc := "(I)I" } : Jvm.MethodName)) ∈ am_tbl := am_tbl_t (List.mem_append_right _ (List.mem_append_right _ (List.mem_append_right _ (List.mem_append_left _ (List.mem_of_getElem? (l := tables_1_4) (i := 132) rfl))))) rfl
theorem w_853 : (Jvm.Cond.code ({ cls := "OverAndBack$Box", name := "holder", desc := "(I)I" } : Jvm.MethodName) prog_2_method_3_code (2 : Nat) (Option.some Jvm.ClassFile.FieldType.int)) ∈ am_tbl := am_tbl_t (List.mem_append_right _ (List.mem_append_right _ (List.mem_append_right _ (List.mem_append_left _ (List.mem_of_getElem? (l := tables_1_4) (i := 133) rfl))))) rfl
theorem w_854 : (Jvm.Cond.methodLink "OverAndBack" (249 : Nat) ({ cls := "OverAndBack$Box", name := "has", desc := "(I)I" } : Jvm.MethodName)) ∈ am_tbl := am_tbl_t (List.mem_append_right _ (List.mem_append_right _ (List.mem_append_right _ (List.mem_append_left _ (List.mem_of_getElem? (l := tables_1_4) (i := 134) rfl))))) rfl
theorem w_855 : (Jvm.Cond.instanceMethod ({ cls := "OverAndBack$Box", name := "has", desc := "(I)I" } : Jvm.MethodName)) ∈ am_tbl := am_tbl_t (List.mem_append_right _ (List.mem_append_right _ (List.mem_append_right _ (List.mem_append_left _ (List.mem_of_getElem? (l := tables_1_4) (i := 135) rfl))))) rfl
theorem w_856 : (Jvm.Cond.selects "OverAndBack$Box" ({ cls := "OverAndBack$Box", name := "has", desc := "(I)I" } : Jvm.MethodName) ({ cls := "OverAndBack$Box", name := "has", desc := "(I)I" } : Jvm.MethodName)) ∈ am_tbl := am_tbl_t (List.mem_append_right _ (List.mem_append_right _ (List.mem_append_right _ (List.mem_append_left _ (List.mem_of_getElem? (l := tables_1_4) (i := 136) rfl))))) rfl
theorem w_857 : (Jvm.Cond.code ({ cls := "OverAndBack$Box", name := "has", desc := "(I)I" } : Jvm.MethodName) prog_2_method_4_code (2 : Nat) (Option.some Jvm.ClassFile.FieldType.int)) ∈ am_tbl := am_tbl_t (List.mem_append_right _ (List.mem_append_right _ (List.mem_append_right _ (List.mem_append_left _ (List.mem_of_getElem? (l := tables_1_4) (i := 137) rfl))))) rfl
theorem w_859 : (Jvm.Cond.instanceMethod ({ cls := "OverAndBack", name := "mean", desc := "(II)I" } : Jvm.MethodName)) ∈ am_tbl := am_tbl_t (List.mem_append_right _ (List.mem_append_right _ (List.mem_append_right _ (List.mem_append_left _ (List.mem_of_getElem? (l := tables_1_4) (i := 139) rfl))))) rfl
theorem w_860 : (Jvm.Cond.selects "OverAndBack" ({ cls := "OverAndBack", name := "mean", desc := "(II)I" } : Jvm.MethodName) ({ cls := "OverAndBack", name := "mean", desc := "(II)I" } : Jvm.MethodName)) ∈ am_tbl := am_tbl_t (List.mem_append_right _ (List.mem_append_right _ (List.mem_append_right _ (List.mem_append_left _ (List.mem_of_getElem? (l := tables_1_4) (i := 140) rfl))))) rfl
theorem w_861 : (Jvm.Cond.code ({ cls := "OverAndBack", name := "mean", desc := "(II)I" } : Jvm.MethodName) prog_1_method_21_code (7 : Nat) (Option.some Jvm.ClassFile.FieldType.int)) ∈ am_tbl := am_tbl_t (List.mem_append_right _ (List.mem_append_right _ (List.mem_append_right _ (List.mem_append_left _ (List.mem_of_getElem? (l := tables_1_4) (i := 141) rfl))))) rfl
theorem w_862 : (Jvm.Cond.methodLink "OverAndBack" (252 : Nat) ({ cls := "OverAndBack", name := "isWatcherOrPlan", desc := "(I)Z" } : Jvm.MethodName)) ∈ am_tbl := am_tbl_t (List.mem_append_right _ (List.mem_append_right _ (List.mem_append_right _ (List.mem_append_left _ (List.mem_of_getElem? (l := tables_1_4) (i := 142) rfl))))) rfl
theorem w_864 : (Jvm.Cond.instanceMethod ({ cls := "OverAndBack", name := "isWatcherOrPlan", desc := "(I)Z" } : Jvm.MethodName)) ∈ am_tbl := am_tbl_t (List.mem_append_right _ (List.mem_append_right _ (List.mem_append_right _ (List.mem_append_left _ (List.mem_of_getElem? (l := tables_1_4) (i := 144) rfl))))) rfl
theorem w_865 : (Jvm.Cond.code ({ cls := "OverAndBack", name := "isWatcherOrPlan", desc := "(I)Z" } : Jvm.MethodName) prog_1_method_32_code (2 : Nat) (Option.some Jvm.ClassFile.FieldType.boolean)) ∈ am_tbl := am_tbl_t (List.mem_append_right _ (List.mem_append_right _ (List.mem_append_right _ (List.mem_append_left _ (List.mem_of_getElem? (l := tables_1_4) (i := 145) rfl))))) rfl
theorem w_866 : (Jvm.Cond.methodLink "OverAndBack" (258 : Nat) ({ cls := "OverAndBack$Evening", name := "weightOf", desc := "(I)I" } : Jvm.MethodName)) ∈ am_tbl := am_tbl_t (List.mem_append_right _ (List.mem_append_right _ (List.mem_append_right _ (List.mem_append_left _ (List.mem_of_getElem? (l := tables_1_4) (i := 146) rfl))))) rfl
theorem w_867 : (Jvm.Cond.instanceMethod ({ cls := "OverAndBack$Evening", name := "weightOf", desc := "(I)I" } : Jvm.MethodName)) ∈ am_tbl := am_tbl_t (List.mem_append_right _ (List.mem_append_right _ (List.mem_append_right _ (List.mem_append_left _ (List.mem_of_getElem? (l := tables_1_4) (i := 147) rfl))))) rfl
theorem w_868 : (Jvm.Cond.selects "OverAndBack$Evening" ({ cls := "OverAndBack$Evening", name := "weightOf", desc := "(I)I" } : Jvm.MethodName) ({ cls := "OverAndBack$Evening", name := "weightOf", desc := "(I)I" } : Jvm.MethodName)) ∈ am_tbl := am_tbl_t (List.mem_append_right _ (List.mem_append_right _ (List.mem_append_right _ (List.mem_append_left _ (List.mem_of_getElem? (l := tables_1_4) (i := 148) rfl))))) rfl
theorem w_869 : (Jvm.Cond.code ({ cls := "OverAndBack$Evening", name := "weightOf", desc := "(I)I" } : Jvm.MethodName) prog_3_method_6_code (5 : Nat) (Option.some Jvm.ClassFile.FieldType.int)) ∈ am_tbl := am_tbl_t (List.mem_append_right _ (List.mem_append_right _ (List.mem_append_right _ (List.mem_append_left _ (List.mem_of_getElem? (l := tables_1_4) (i := 149) rfl))))) rfl
theorem w_870 : (Jvm.Cond.methodLink "OverAndBack" (264 : Nat) ({ cls := "OverAndBack", name := "commonDivisor", desc := "(II)I" } : Jvm.MethodName)) ∈ am_tbl := am_tbl_t (List.mem_append_right _ (List.mem_append_right _ (List.mem_append_right _ (List.mem_append_left _ (List.mem_of_getElem? (l := tables_1_4) (i := 150) rfl))))) rfl
theorem w_871 : (Jvm.Cond.static ({ cls := "OverAndBack", name := "commonDivisor", desc := "(II)I" } : Jvm.MethodName)) ∈ am_tbl := am_tbl_t (List.mem_append_right _ (List.mem_append_right _ (List.mem_append_right _ (List.mem_append_left _ (List.mem_of_getElem? (l := tables_1_4) (i := 151) rfl))))) rfl
theorem w_872 : (Jvm.Cond.code ({ cls := "OverAndBack", name := "commonDivisor", desc := "(II)I" } : Jvm.MethodName) prog_1_method_38_code (6 : Nat) (Option.some Jvm.ClassFile.FieldType.int)) ∈ am_tbl := am_tbl_t (List.mem_append_right _ (List.mem_append_right _ (List.mem_append_right _ (List.mem_append_left _ (List.mem_of_getElem? (l := tables_1_4) (i := 152) rfl))))) rfl
theorem w_874 : (Jvm.Cond.instanceMethod ({ cls := "OverAndBack", name := "sure", desc := "(I)I" } : Jvm.MethodName)) ∈ am_tbl := am_tbl_t (List.mem_append_right _ (List.mem_append_right _ (List.mem_append_right _ (List.mem_append_left _ (List.mem_of_getElem? (l := tables_1_4) (i := 154) rfl))))) rfl
theorem w_875 : (Jvm.Cond.selects "OverAndBack" ({ cls := "OverAndBack", name := "sure", desc := "(I)I" } : Jvm.MethodName) ({ cls := "OverAndBack", name := "sure", desc := "(I)I" } : Jvm.MethodName)) ∈ am_tbl := am_tbl_t (List.mem_append_right _ (List.mem_append_right _ (List.mem_append_right _ (List.mem_append_left _ (List.mem_of_getElem? (l := tables_1_4) (i := 155) rfl))))) rfl
theorem w_876 : (Jvm.Cond.code ({ cls := "OverAndBack", name := "sure", desc := "(I)I" } : Jvm.MethodName) prog_1_method_22_code (4 : Nat) (Option.some Jvm.ClassFile.FieldType.int)) ∈ am_tbl := am_tbl_t (List.mem_append_right _ (List.mem_append_right _ (List.mem_append_right _ (List.mem_append_left _ (List.mem_of_getElem? (l := tables_1_4) (i := 156) rfl))))) rfl
theorem w_878 : (Jvm.Cond.instanceMethod ({ cls := "OverAndBack", name := "fits", desc := "(I)I" } : Jvm.MethodName)) ∈ am_tbl := am_tbl_t (List.mem_append_right _ (List.mem_append_right _ (List.mem_append_right _ (List.mem_append_left _ (List.mem_of_getElem? (l := tables_1_4) (i := 158) rfl))))) rfl
theorem w_879 : (Jvm.Cond.selects "OverAndBack" ({ cls := "OverAndBack", name := "fits", desc := "(I)I" } : Jvm.MethodName) ({ cls := "OverAndBack", name := "fits", desc := "(I)I" } : Jvm.MethodName)) ∈ am_tbl := am_tbl_t (List.mem_append_right _ (List.mem_append_right _ (List.mem_append_right _ (List.mem_append_left _ (List.mem_of_getElem? (l := tables_1_4) (i := 159) rfl))))) rfl
theorem w_880 : (Jvm.Cond.code ({ cls := "OverAndBack", name := "fits", desc := "(I)I" } : Jvm.MethodName) prog_1_method_23_code (5 : Nat) (Option.some Jvm.ClassFile.FieldType.int)) ∈ am_tbl := am_tbl_t (List.mem_append_right _ (List.mem_append_right _ (List.mem_append_right _ (List.mem_append_left _ (List.mem_of_getElem? (l := tables_1_4) (i := 160) rfl))))) rfl
theorem w_882 : (Jvm.Cond.instanceMethod ({ cls := "OverAndBack", name := "matters", desc := "(I)I" } : Jvm.MethodName)) ∈ am_tbl := am_tbl_t (List.mem_append_right _ (List.mem_append_right _ (List.mem_append_right _ (List.mem_append_left _ (List.mem_of_getElem? (l := tables_1_4) (i := 162) rfl))))) rfl
theorem w_883 : (Jvm.Cond.selects "OverAndBack" ({ cls := "OverAndBack", name := "matters", desc := "(I)I" } : Jvm.MethodName) ({ cls := "OverAndBack", name := "matters", desc := "(I)I" } : Jvm.MethodName)) ∈ am_tbl := am_tbl_t (List.mem_append_right _ (List.mem_append_right _ (List.mem_append_right _ (List.mem_append_left _ (List.mem_of_getElem? (l := tables_1_4) (i := 163) rfl))))) rfl
theorem w_884 : (Jvm.Cond.code ({ cls := "OverAndBack", name := "matters", desc := "(I)I" } : Jvm.MethodName) prog_1_method_24_code (6 : Nat) (Option.some Jvm.ClassFile.FieldType.int)) ∈ am_tbl := am_tbl_t (List.mem_append_right _ (List.mem_append_right _ (List.mem_append_right _ (List.mem_append_left _ (List.mem_of_getElem? (l := tables_1_4) (i := 164) rfl))))) rfl
theorem w_886 : (Jvm.Cond.instanceMethod ({ cls := "OverAndBack", name := "night", desc := "(III)I" } : Jvm.MethodName)) ∈ am_tbl := am_tbl_t (List.mem_append_right _ (List.mem_append_right _ (List.mem_append_right _ (List.mem_append_left _ (List.mem_of_getElem? (l := tables_1_4) (i := 166) rfl))))) rfl
theorem w_887 : (Jvm.Cond.selects "OverAndBack" ({ cls := "OverAndBack", name := "night", desc := "(III)I" } : Jvm.MethodName) ({ cls := "OverAndBack", name := "night", desc := "(III)I" } : Jvm.MethodName)) ∈ am_tbl := am_tbl_t (List.mem_append_right _ (List.mem_append_right _ (List.mem_append_right _ (List.mem_append_left _ (List.mem_of_getElem? (l := tables_1_4) (i := 167) rfl))))) rfl
theorem w_888 : (Jvm.Cond.code ({ cls := "OverAndBack", name := "night", desc := "(III)I" } : Jvm.MethodName) prog_1_method_25_code (4 : Nat) (Option.some Jvm.ClassFile.FieldType.int)) ∈ am_tbl := am_tbl_t (List.mem_append_right _ (List.mem_append_right _ (List.mem_append_right _ (List.mem_append_left _ (List.mem_of_getElem? (l := tables_1_4) (i := 168) rfl))))) rfl
theorem w_889 : (Jvm.Cond.methodLink "OverAndBack" (273 : Nat) ({ cls := "OverAndBack$Screen", name := "showNight", desc := "(LOverAndBack$Evening;I)V" } : Jvm.MethodName)) ∈ am_tbl := am_tbl_t (List.mem_append_right _ (List.mem_append_right _ (List.mem_append_right _ (List.mem_append_left _ (List.mem_of_getElem? (l := tables_1_4) (i := 169) rfl))))) rfl
theorem w_890 : (Jvm.Cond.instanceMethod ({ cls := "OverAndBack$Screen", name := "showNight", desc := "(LOverAndBack$Evening;I)V" } : Jvm.MethodName)) ∈ am_tbl := am_tbl_t (List.mem_append_right _ (List.mem_append_right _ (List.mem_append_right _ (List.mem_append_left _ (List.mem_of_getElem? (l := tables_1_4) (i := 170) rfl))))) rfl
theorem w_891 : (Jvm.Cond.selects "OverAndBack$Screen" ({ cls := "OverAndBack$Screen", name := "showNight", desc := "(LOverAndBack$Evening;I)V" } : Jvm.MethodName) ({ cls := "OverAndBack$Screen", name := "showNight", desc := "(LOverAndBack$Evening;I)V" } : Jvm.MethodName)) ∈ am_tbl := am_tbl_t (List.mem_append_right _ (List.mem_append_right _ (List.mem_append_right _ (List.mem_append_left _ (List.mem_of_getElem? (l := tables_1_4) (i := 171) rfl))))) rfl
theorem w_892 : (Jvm.Cond.code ({ cls := "OverAndBack$Screen", name := "showNight", desc := "(LOverAndBack$Evening;I)V" } : Jvm.MethodName) prog_11_method_3_code (5 : Nat) (Option.none : Option Jvm.ClassFile.FieldType)) ∈ am_tbl := am_tbl_t (List.mem_append_right _ (List.mem_append_right _ (List.mem_append_right _ (List.mem_append_left _ (List.mem_of_getElem? (l := tables_1_4) (i := 172) rfl))))) rfl
theorem w_893 : (Jvm.Cond.methodLink "OverAndBack$Screen" (56 : Nat) ({ cls := "OverAndBack$Screen", name := "isDrawn", desc := "(III)Z" } : Jvm.MethodName)) ∈ am_tbl := am_tbl_t (List.mem_append_right _ (List.mem_append_right _ (List.mem_append_right _ (List.mem_append_left _ (List.mem_of_getElem? (l := tables_1_4) (i := 173) rfl))))) rfl
theorem w_894 : (Jvm.Cond.static ({ cls := "OverAndBack$Screen", name := "isDrawn", desc := "(III)Z" } : Jvm.MethodName)) ∈ am_tbl := am_tbl_t (List.mem_append_right _ (List.mem_append_right _ (List.mem_append_right _ (List.mem_append_left _ (List.mem_of_getElem? (l := tables_1_4) (i := 174) rfl))))) rfl
theorem w_895 : (Jvm.Cond.code ({ cls := "OverAndBack$Screen", name := "isDrawn", desc := "(III)Z" } : Jvm.MethodName) prog_11_method_4_code (5 : Nat) (Option.some Jvm.ClassFile.FieldType.boolean)) ∈ am_tbl := am_tbl_t (List.mem_append_right _ (List.mem_append_right _ (List.mem_append_right _ (List.mem_append_left _ (List.mem_of_getElem? (l := tables_1_4) (i := 175) rfl))))) rfl
theorem w_896 : (Jvm.Cond.constantLong "OverAndBack$Screen" (64 : Nat) (7919 : Int64)) ∈ am_tbl := am_tbl_t (List.mem_append_right _ (List.mem_append_right _ (List.mem_append_right _ (List.mem_append_left _ (List.mem_of_getElem? (l := tables_1_4) (i := 176) rfl))))) rfl
theorem w_897 : (Jvm.Cond.constantLong "OverAndBack$Screen" (66 : Nat) (6151 : Int64)) ∈ am_tbl := am_tbl_t (List.mem_append_right _ (List.mem_append_right _ (List.mem_append_right _ (List.mem_append_left _ (List.mem_of_getElem? (l := tables_1_4) (i := 177) rfl))))) rfl
theorem w_898 : (Jvm.Cond.constantLong "OverAndBack$Screen" (68 : Nat) (3571 : Int64)) ∈ am_tbl := am_tbl_t (List.mem_append_right _ (List.mem_append_right _ (List.mem_append_right _ (List.mem_append_left _ (List.mem_of_getElem? (l := tables_1_4) (i := 178) rfl))))) rfl
theorem w_899 : (Jvm.Cond.constantLong "OverAndBack$Screen" (70 : Nat) (65521 : Int64)) ∈ am_tbl := am_tbl_t (List.mem_append_right _ (List.mem_append_right _ (List.mem_append_right _ (List.mem_append_left _ (List.mem_of_getElem? (l := tables_1_4) (i := 179) rfl))))) rfl
theorem w_900 : (Jvm.Cond.constantLong "OverAndBack$Screen" (72 : Nat) (4 : Int64)) ∈ am_tbl := am_tbl_t (List.mem_append_right _ (List.mem_append_right _ (List.mem_append_right _ (List.mem_append_left _ (List.mem_of_getElem? (l := tables_1_4) (i := 180) rfl))))) rfl
theorem w_902 : (Jvm.Cond.instanceMethod ({ cls := "OverAndBack", name := "keep", desc := "()I" } : Jvm.MethodName)) ∈ am_tbl := am_tbl_t (List.mem_append_right _ (List.mem_append_right _ (List.mem_append_right _ (List.mem_append_left _ (List.mem_of_getElem? (l := tables_1_4) (i := 182) rfl))))) rfl
theorem w_903 : (Jvm.Cond.selects "OverAndBack" ({ cls := "OverAndBack", name := "keep", desc := "()I" } : Jvm.MethodName) ({ cls := "OverAndBack", name := "keep", desc := "()I" } : Jvm.MethodName)) ∈ am_tbl := am_tbl_t (List.mem_append_right _ (List.mem_append_right _ (List.mem_append_right _ (List.mem_append_left _ (List.mem_of_getElem? (l := tables_1_4) (i := 183) rfl))))) rfl
theorem w_904 : (Jvm.Cond.code ({ cls := "OverAndBack", name := "keep", desc := "()I" } : Jvm.MethodName) prog_1_method_26_code (1 : Nat) (Option.some Jvm.ClassFile.FieldType.int)) ∈ am_tbl := am_tbl_t (List.mem_append_right _ (List.mem_append_right _ (List.mem_append_right _ (List.mem_append_left _ (List.mem_of_getElem? (l := tables_1_4) (i := 184) rfl))))) rfl
theorem w_905 : (Jvm.Cond.methodLink "OverAndBack" (277 : Nat) ({ cls := "OverAndBack", name := "keptPlan", desc := "(I)LOverAndBack$Plan;" } : Jvm.MethodName)) ∈ am_tbl := am_tbl_t (List.mem_append_right _ (List.mem_append_right _ (List.mem_append_right _ (List.mem_append_left _ (List.mem_of_getElem? (l := tables_1_4) (i := 185) rfl))))) rfl
theorem w_907 : (Jvm.Cond.instanceMethod ({ cls := "OverAndBack", name := "keptPlan", desc := "(I)LOverAndBack$Plan;" } : Jvm.MethodName)) ∈ am_tbl := am_tbl_t (List.mem_append_right _ (List.mem_append_right _ (List.mem_append_right _ (List.mem_append_left _ (List.mem_of_getElem? (l := tables_1_4) (i := 187) rfl))))) rfl
theorem w_908 : (Jvm.Cond.code ({ cls := "OverAndBack", name := "keptPlan", desc := "(I)LOverAndBack$Plan;" } : Jvm.MethodName) prog_1_method_36_code (2 : Nat) (Option.some (Jvm.ClassFile.FieldType.object "OverAndBack$Plan"))) ∈ am_tbl := am_tbl_t (List.mem_append_right _ (List.mem_append_right _ (List.mem_append_right _ (List.mem_append_left _ (List.mem_of_getElem? (l := tables_1_4) (i := 188) rfl))))) rfl
theorem w_909 : (Jvm.Cond.methodLink "OverAndBack" (281 : Nat) ({ cls := "OverAndBack$Plan", name := "copyFrom", desc := "(LOverAndBack$Plan;)V" } : Jvm.MethodName)) ∈ am_tbl := am_tbl_t (List.mem_append_right _ (List.mem_append_right _ (List.mem_append_right _ (List.mem_append_left _ (List.mem_of_getElem? (l := tables_1_4) (i := 189) rfl))))) rfl
theorem w_910 : (Jvm.Cond.instanceMethod ({ cls := "OverAndBack$Plan", name := "copyFrom", desc := "(LOverAndBack$Plan;)V" } : Jvm.MethodName)) ∈ am_tbl := am_tbl_t (List.mem_append_right _ (List.mem_append_right _ (List.mem_append_right _ (List.mem_append_left _ (List.mem_of_getElem? (l := tables_1_4) (i := 190) rfl))))) rfl
theorem w_911 : (Jvm.Cond.selects "OverAndBack$Plan" ({ cls := "OverAndBack$Plan", name := "copyFrom", desc := "(LOverAndBack$Plan;)V" } : Jvm.MethodName) ({ cls := "OverAndBack$Plan", name := "copyFrom", desc := "(LOverAndBack$Plan;)V" } : Jvm.MethodName)) ∈ am_tbl := am_tbl_t (List.mem_append_right _ (List.mem_append_right _ (List.mem_append_right _ (List.mem_append_left _ (List.mem_of_getElem? (l := tables_1_4) (i := 191) rfl))))) rfl
theorem w_912 : (Jvm.Cond.code ({ cls := "OverAndBack$Plan", name := "copyFrom", desc := "(LOverAndBack$Plan;)V" } : Jvm.MethodName) prog_7_method_5_code (3 : Nat) (Option.none : Option Jvm.ClassFile.FieldType)) ∈ am_tbl := am_tbl_t (List.mem_append_right _ (List.mem_append_right _ (List.mem_append_right _ (List.mem_append_left _ (List.mem_of_getElem? (l := tables_1_4) (i := 192) rfl))))) rfl
theorem w_913 : (Jvm.Cond.methodLink "OverAndBack$Plan" (31 : Nat) ({ cls := "OverAndBack$Plan", name := "clear", desc := "()V" } : Jvm.MethodName)) ∈ am_tbl := am_tbl_t (List.mem_append_right _ (List.mem_append_right _ (List.mem_append_right _ (List.mem_append_left _ (List.mem_of_getElem? (l := tables_1_4) (i := 193) rfl))))) rfl
theorem w_914 : (Jvm.Cond.methodLink "OverAndBack$Plan" (34 : Nat) ({ cls := "OverAndBack$Plan", name := "minuteOf", desc := "(I)I" } : Jvm.MethodName)) ∈ am_tbl := am_tbl_t (List.mem_append_right _ (List.mem_append_right _ (List.mem_append_right _ (List.mem_append_left _ (List.mem_of_getElem? (l := tables_1_4) (i := 194) rfl))))) rfl
theorem w_915 : (Jvm.Cond.methodLink "OverAndBack$Plan" (38 : Nat) ({ cls := "OverAndBack$Plan", name := "stationOf", desc := "(I)I" } : Jvm.MethodName)) ∈ am_tbl := am_tbl_t (List.mem_append_right _ (List.mem_append_right _ (List.mem_append_right _ (List.mem_append_left _ (List.mem_of_getElem? (l := tables_1_4) (i := 195) rfl))))) rfl
theorem w_916 : (Jvm.Cond.methodLink "OverAndBack$Plan" (41 : Nat) ({ cls := "OverAndBack$Plan", name := "add", desc := "(II)Z" } : Jvm.MethodName)) ∈ am_tbl := am_tbl_t (List.mem_append_right _ (List.mem_append_right _ (List.mem_append_right _ (List.mem_append_left _ (List.mem_of_getElem? (l := tables_1_4) (i := 196) rfl))))) rfl
theorem w_918 : (Jvm.Cond.instanceMethod ({ cls := "OverAndBack", name := "back", desc := "()I" } : Jvm.MethodName)) ∈ am_tbl := am_tbl_t (List.mem_append_right _ (List.mem_append_right _ (List.mem_append_right _ (List.mem_append_left _ (List.mem_of_getElem? (l := tables_1_4) (i := 198) rfl))))) rfl
theorem w_919 : (Jvm.Cond.selects "OverAndBack" ({ cls := "OverAndBack", name := "back", desc := "()I" } : Jvm.MethodName) ({ cls := "OverAndBack", name := "back", desc := "()I" } : Jvm.MethodName)) ∈ am_tbl := am_tbl_t (List.mem_append_right _ (List.mem_append_right _ (List.mem_append_right _ (List.mem_append_left _ (List.mem_of_getElem? (l := tables_1_4) (i := 199) rfl))))) rfl
theorem w_920 : (Jvm.Cond.code ({ cls := "OverAndBack", name := "back", desc := "()I" } : Jvm.MethodName) prog_1_method_27_code (1 : Nat) (Option.some Jvm.ClassFile.FieldType.int)) ∈ am_tbl := am_tbl_t (List.mem_append_right _ (List.mem_append_right _ (List.mem_append_right _ (List.mem_append_left _ (List.mem_of_getElem? (l := tables_1_4) (i := 200) rfl))))) rfl
theorem w_922 : (Jvm.Cond.instanceMethod ({ cls := "OverAndBack", name := "count", desc := "(I)I" } : Jvm.MethodName)) ∈ am_tbl := am_tbl_t (List.mem_append_right _ (List.mem_append_right _ (List.mem_append_right _ (List.mem_append_left _ (List.mem_of_getElem? (l := tables_1_4) (i := 202) rfl))))) rfl
theorem w_923 : (Jvm.Cond.selects "OverAndBack" ({ cls := "OverAndBack", name := "count", desc := "(I)I" } : Jvm.MethodName) ({ cls := "OverAndBack", name := "count", desc := "(I)I" } : Jvm.MethodName)) ∈ am_tbl := am_tbl_t (List.mem_append_right _ (List.mem_append_right _ (List.mem_append_right _ (List.mem_append_left _ (List.mem_of_getElem? (l := tables_1_4) (i := 203) rfl))))) rfl
theorem w_924 : (Jvm.Cond.code ({ cls := "OverAndBack", name := "count", desc := "(I)I" } : Jvm.MethodName) prog_1_method_28_code (2 : Nat) (Option.some Jvm.ClassFile.FieldType.int)) ∈ am_tbl := am_tbl_t (List.mem_append_right _ (List.mem_append_right _ (List.mem_append_right _ (List.mem_append_left _ (List.mem_of_getElem? (l := tables_1_4) (i := 204) rfl))))) rfl
theorem w_928 : (Jvm.Cond.instanceMethod ({ cls := "OverAndBackModel", name := "<init>", desc := "()V" } : Jvm.MethodName)) ∈ am_tbl := am_tbl_t (List.mem_append_right _ (List.mem_append_right _ (List.mem_append_right _ (List.mem_append_left _ (List.mem_of_getElem? (l := tables_1_4) (i := 208) rfl))))) rfl
theorem w_929 : (Jvm.Cond.code ({ cls := "OverAndBackModel", name := "<init>", desc := "()V" } : Jvm.MethodName) prog_14_method_1_code (1 : Nat) (Option.none : Option Jvm.ClassFile.FieldType)) ∈ am_tbl := am_tbl_t (List.mem_append_right _ (List.mem_append_right _ (List.mem_append_right _ (List.mem_append_left _ (List.mem_of_getElem? (l := tables_1_4) (i := 209) rfl))))) rfl
theorem w_930 : (Jvm.Cond.methodLink "OverAndBackModel" (1 : Nat) ({ cls := "java/lang/Object", name := "<init>", desc := "()V" } : Jvm.MethodName)) ∈ am_tbl := am_tbl_t (List.mem_append_right _ (List.mem_append_right _ (List.mem_append_right _ (List.mem_append_left _ (List.mem_of_getElem? (l := tables_1_4) (i := 210) rfl))))) rfl
theorem w_931 : (Jvm.Cond.constant "OverAndBackModel" (99 : Nat) (62464 : Int32)) ∈ am_tbl := am_tbl_t (List.mem_append_right _ (List.mem_append_right _ (List.mem_append_right _ (List.mem_append_left _ (List.mem_of_getElem? (l := tables_1_4) (i := 211) rfl))))) rfl
theorem w_932 : (Jvm.Cond.methodLink "OverAndBackModel" (112 : Nat) ({ cls := "OverAndBackModel", name := "lays", desc := "([IIIII)V" } : Jvm.MethodName)) ∈ am_tbl := am_tbl_t (List.mem_append_right _ (List.mem_append_right _ (List.mem_append_right _ (List.mem_append_left _ (List.mem_of_getElem? (l := tables_1_4) (i := 212) rfl))))) rfl
theorem w_933 : (Jvm.Cond.static ({ cls := "OverAndBackModel", name := "lays", desc := "([IIIII)V" } : Jvm.MethodName)) ∈ am_tbl := am_tbl_t (List.mem_append_right _ (List.mem_append_right _ (List.mem_append_right _ (List.mem_append_left _ (List.mem_of_getElem? (l := tables_1_4) (i := 213) rfl))))) rfl
theorem w_934 : (Jvm.Cond.code ({ cls := "OverAndBackModel", name := "lays", desc := "([IIIII)V" } : Jvm.MethodName) prog_14_method_3_code (5 : Nat) (Option.none : Option Jvm.ClassFile.FieldType)) ∈ am_tbl := am_tbl_t (List.mem_append_right _ (List.mem_append_right _ (List.mem_append_right _ (List.mem_append_left _ (List.mem_of_getElem? (l := tables_1_4) (i := 214) rfl))))) rfl
theorem w_935 : (Jvm.Cond.fieldLink "OverAndBackModel" (7 : Nat) "OverAndBackModel" "length" "I") ∈ am_tbl := am_tbl_t (List.mem_append_right _ (List.mem_append_right _ (List.mem_append_right _ (List.mem_append_left _ (List.mem_of_getElem? (l := tables_1_4) (i := 215) rfl))))) rfl
theorem w_936 : (Jvm.Cond.fieldLink "OverAndBackModel" (13 : Nat) "OverAndBackModel" "goes" "I") ∈ am_tbl := am_tbl_t (List.mem_append_right _ (List.mem_append_right _ (List.mem_append_right _ (List.mem_append_left _ (List.mem_of_getElem? (l := tables_1_4) (i := 216) rfl))))) rfl
theorem w_937 : (Jvm.Cond.fieldLink "OverAndBackModel" (16 : Nat) "OverAndBackModel" "stations" "I") ∈ am_tbl := am_tbl_t (List.mem_append_right _ (List.mem_append_right _ (List.mem_append_right _ (List.mem_append_left _ (List.mem_of_getElem? (l := tables_1_4) (i := 217) rfl))))) rfl
theorem w_938 : (Jvm.Cond.fieldLink "OverAndBackModel" (19 : Nat) "OverAndBackModel" "worth" "[I") ∈ am_tbl := am_tbl_t (List.mem_append_right _ (List.mem_append_right _ (List.mem_append_right _ (List.mem_append_left _ (List.mem_of_getElem? (l := tables_1_4) (i := 218) rfl))))) rfl
theorem w_939 : (Jvm.Cond.fieldLink "OverAndBackModel" (23 : Nat) "OverAndBackModel" "scenes" "I") ∈ am_tbl := am_tbl_t (List.mem_append_right _ (List.mem_append_right _ (List.mem_append_right _ (List.mem_append_left _ (List.mem_of_getElem? (l := tables_1_4) (i := 219) rfl))))) rfl
theorem w_940 : (Jvm.Cond.fieldLink "OverAndBackModel" (26 : Nat) "OverAndBackModel" "scene" "[I") ∈ am_tbl := am_tbl_t (List.mem_append_right _ (List.mem_append_right _ (List.mem_append_right _ (List.mem_append_left _ (List.mem_of_getElem? (l := tables_1_4) (i := 220) rfl))))) rfl
theorem w_941 : (Jvm.Cond.fieldLink "OverAndBackModel" (29 : Nat) "OverAndBackModel" "breaks" "I") ∈ am_tbl := am_tbl_t (List.mem_append_right _ (List.mem_append_right _ (List.mem_append_right _ (List.mem_append_left _ (List.mem_of_getElem? (l := tables_1_4) (i := 221) rfl))))) rfl
theorem w_942 : (Jvm.Cond.fieldLink "OverAndBackModel" (32 : Nat) "OverAndBackModel" "broken" "[I") ∈ am_tbl := am_tbl_t (List.mem_append_right _ (List.mem_append_right _ (List.mem_append_right _ (List.mem_append_left _ (List.mem_of_getElem? (l := tables_1_4) (i := 222) rfl))))) rfl
theorem w_943 : (Jvm.Cond.fieldLink "OverAndBackModel" (201 : Nat) "OverAndBackModel" "comings" "I") ∈ am_tbl := am_tbl_t (List.mem_append_right _ (List.mem_append_right _ (List.mem_append_right _ (List.mem_append_left _ (List.mem_of_getElem? (l := tables_1_4) (i := 223) rfl))))) rfl
theorem w_944 : (Jvm.Cond.fieldLink "OverAndBackModel" (35 : Nat) "OverAndBackModel" "coming" "[I") ∈ am_tbl := am_tbl_t (List.mem_append_right _ (List.mem_append_right _ (List.mem_append_right _ (List.mem_append_left _ (List.mem_of_getElem? (l := tables_1_4) (i := 224) rfl))))) rfl
theorem w_945 : (Jvm.Cond.fieldLink "OverAndBackModel" (38 : Nat) "OverAndBackModel" "rules" "I") ∈ am_tbl := am_tbl_t (List.mem_append_right _ (List.mem_append_right _ (List.mem_append_right _ (List.mem_append_left _ (List.mem_of_getElem? (l := tables_1_4) (i := 225) rfl))))) rfl
theorem w_946 : (Jvm.Cond.fieldLink "OverAndBackModel" (41 : Nat) "OverAndBackModel" "rule" "[I") ∈ am_tbl := am_tbl_t (List.mem_append_right _ (List.mem_append_right _ (List.mem_append_right _ (List.mem_append_left _ (List.mem_of_getElem? (l := tables_1_4) (i := 226) rfl))))) rfl
theorem w_947 : (Jvm.Cond.fieldLink "OverAndBackModel" (44 : Nat) "OverAndBackModel" "watchers" "I") ∈ am_tbl := am_tbl_t (List.mem_append_right _ (List.mem_append_right _ (List.mem_append_right _ (List.mem_append_left _ (List.mem_of_getElem? (l := tables_1_4) (i := 227) rfl))))) rfl
theorem w_948 : (Jvm.Cond.fieldLink "OverAndBackModel" (47 : Nat) "OverAndBackModel" "watcher" "[I") ∈ am_tbl := am_tbl_t (List.mem_append_right _ (List.mem_append_right _ (List.mem_append_right _ (List.mem_append_left _ (List.mem_of_getElem? (l := tables_1_4) (i := 228) rfl))))) rfl
theorem w_949 : (Jvm.Cond.fieldLink "OverAndBackModel" (50 : Nat) "OverAndBackModel" "text" "[I") ∈ am_tbl := am_tbl_t (List.mem_append_right _ (List.mem_append_right _ (List.mem_append_right _ (List.mem_append_left _ (List.mem_of_getElem? (l := tables_1_4) (i := 229) rfl))))) rfl
theorem w_950 : (Jvm.Cond.fieldLink "OverAndBackModel" (120 : Nat) "OverAndBackModel" "texted" "I") ∈ am_tbl := am_tbl_t (List.mem_append_right _ (List.mem_append_right _ (List.mem_append_right _ (List.mem_append_left _ (List.mem_of_getElem? (l := tables_1_4) (i := 230) rfl))))) rfl
theorem w_951 : (Jvm.Cond.fieldLink "OverAndBackModel" (123 : Nat) "OverAndBackModel" "at" "I") ∈ am_tbl := am_tbl_t (List.mem_append_right _ (List.mem_append_right _ (List.mem_append_right _ (List.mem_append_left _ (List.mem_of_getElem? (l := tables_1_4) (i := 231) rfl))))) rfl
theorem w_952 : (Jvm.Cond.fieldLink "OverAndBackModel" (53 : Nat) "OverAndBackModel" "told" "[I") ∈ am_tbl := am_tbl_t (List.mem_append_right _ (List.mem_append_right _ (List.mem_append_right _ (List.mem_append_left _ (List.mem_of_getElem? (l := tables_1_4) (i := 232) rfl))))) rfl
theorem w_953 : (Jvm.Cond.fieldLink "OverAndBackModel" (143 : Nat) "OverAndBackModel" "readLength" "I") ∈ am_tbl := am_tbl_t (List.mem_append_right _ (List.mem_append_right _ (List.mem_append_right _ (List.mem_append_left _ (List.mem_of_getElem? (l := tables_1_4) (i := 233) rfl))))) rfl
theorem w_954 : (Jvm.Cond.fieldLink "OverAndBackModel" (146 : Nat) "OverAndBackModel" "readGoes" "I") ∈ am_tbl := am_tbl_t (List.mem_append_right _ (List.mem_append_right _ (List.mem_append_right _ (List.mem_append_left _ (List.mem_of_getElem? (l := tables_1_4) (i := 234) rfl))))) rfl
theorem w_955 : (Jvm.Cond.fieldLink "OverAndBackModel" (134 : Nat) "OverAndBackModel" "readStations" "I") ∈ am_tbl := am_tbl_t (List.mem_append_right _ (List.mem_append_right _ (List.mem_append_right _ (List.mem_append_left _ (List.mem_of_getElem? (l := tables_1_4) (i := 235) rfl))))) rfl
theorem w_956 : (Jvm.Cond.fieldLink "OverAndBackModel" (56 : Nat) "OverAndBackModel" "readWorth" "[I") ∈ am_tbl := am_tbl_t (List.mem_append_right _ (List.mem_append_right _ (List.mem_append_right _ (List.mem_append_left _ (List.mem_of_getElem? (l := tables_1_4) (i := 236) rfl))))) rfl
theorem w_957 : (Jvm.Cond.fieldLink "OverAndBackModel" (149 : Nat) "OverAndBackModel" "readScenes" "I") ∈ am_tbl := am_tbl_t (List.mem_append_right _ (List.mem_append_right _ (List.mem_append_right _ (List.mem_append_left _ (List.mem_of_getElem? (l := tables_1_4) (i := 237) rfl))))) rfl
theorem w_958 : (Jvm.Cond.fieldLink "OverAndBackModel" (59 : Nat) "OverAndBackModel" "readScene" "[I") ∈ am_tbl := am_tbl_t (List.mem_append_right _ (List.mem_append_right _ (List.mem_append_right _ (List.mem_append_left _ (List.mem_of_getElem? (l := tables_1_4) (i := 238) rfl))))) rfl
theorem w_959 : (Jvm.Cond.fieldLink "OverAndBackModel" (160 : Nat) "OverAndBackModel" "readBreaks" "I") ∈ am_tbl := am_tbl_t (List.mem_append_right _ (List.mem_append_right _ (List.mem_append_right _ (List.mem_append_left _ (List.mem_of_getElem? (l := tables_1_4) (i := 239) rfl))))) rfl
theorem w_960 : (Jvm.Cond.fieldLink "OverAndBackModel" (62 : Nat) "OverAndBackModel" "readBroken" "[I") ∈ am_tbl := am_tbl_t (List.mem_append_right _ (List.mem_append_right _ (List.mem_append_right _ (List.mem_append_right _ (List.mem_append_left _ (List.mem_of_getElem? (l := tables_1_5) (i := 0) rfl)))))) rfl
theorem w_961 : (Jvm.Cond.fieldLink "OverAndBackModel" (163 : Nat) "OverAndBackModel" "readComings" "I") ∈ am_tbl := am_tbl_t (List.mem_append_right _ (List.mem_append_right _ (List.mem_append_right _ (List.mem_append_right _ (List.mem_append_left _ (List.mem_of_getElem? (l := tables_1_5) (i := 1) rfl)))))) rfl
theorem w_962 : (Jvm.Cond.fieldLink "OverAndBackModel" (65 : Nat) "OverAndBackModel" "readComing" "[I") ∈ am_tbl := am_tbl_t (List.mem_append_right _ (List.mem_append_right _ (List.mem_append_right _ (List.mem_append_right _ (List.mem_append_left _ (List.mem_of_getElem? (l := tables_1_5) (i := 2) rfl)))))) rfl
theorem w_963 : (Jvm.Cond.fieldLink "OverAndBackModel" (166 : Nat) "OverAndBackModel" "readRules" "I") ∈ am_tbl := am_tbl_t (List.mem_append_right _ (List.mem_append_right _ (List.mem_append_right _ (List.mem_append_right _ (List.mem_append_left _ (List.mem_of_getElem? (l := tables_1_5) (i := 3) rfl)))))) rfl
theorem w_964 : (Jvm.Cond.fieldLink "OverAndBackModel" (68 : Nat) "OverAndBackModel" "readRule" "[I") ∈ am_tbl := am_tbl_t (List.mem_append_right _ (List.mem_append_right _ (List.mem_append_right _ (List.mem_append_right _ (List.mem_append_left _ (List.mem_of_getElem? (l := tables_1_5) (i := 4) rfl)))))) rfl
theorem w_965 : (Jvm.Cond.fieldLink "OverAndBackModel" (169 : Nat) "OverAndBackModel" "readWatchers" "I") ∈ am_tbl := am_tbl_t (List.mem_append_right _ (List.mem_append_right _ (List.mem_append_right _ (List.mem_append_right _ (List.mem_append_left _ (List.mem_of_getElem? (l := tables_1_5) (i := 5) rfl)))))) rfl
theorem w_966 : (Jvm.Cond.fieldLink "OverAndBackModel" (71 : Nat) "OverAndBackModel" "readWatcher" "[I") ∈ am_tbl := am_tbl_t (List.mem_append_right _ (List.mem_append_right _ (List.mem_append_right _ (List.mem_append_right _ (List.mem_append_left _ (List.mem_of_getElem? (l := tables_1_5) (i := 6) rfl)))))) rfl
theorem w_967 : (Jvm.Cond.fieldLink "OverAndBackModel" (74 : Nat) "OverAndBackModel" "onWorth" "[I") ∈ am_tbl := am_tbl_t (List.mem_append_right _ (List.mem_append_right _ (List.mem_append_right _ (List.mem_append_right _ (List.mem_append_left _ (List.mem_of_getElem? (l := tables_1_5) (i := 7) rfl)))))) rfl
theorem w_968 : (Jvm.Cond.fieldLink "OverAndBackModel" (77 : Nat) "OverAndBackModel" "onFact" "[I") ∈ am_tbl := am_tbl_t (List.mem_append_right _ (List.mem_append_right _ (List.mem_append_right _ (List.mem_append_right _ (List.mem_append_left _ (List.mem_of_getElem? (l := tables_1_5) (i := 8) rfl)))))) rfl
theorem w_969 : (Jvm.Cond.fieldLink "OverAndBackModel" (80 : Nat) "OverAndBackModel" "onBreak" "[Z") ∈ am_tbl := am_tbl_t (List.mem_append_right _ (List.mem_append_right _ (List.mem_append_right _ (List.mem_append_right _ (List.mem_append_left _ (List.mem_of_getElem? (l := tables_1_5) (i := 9) rfl)))))) rfl
theorem w_970 : (Jvm.Cond.fieldLink "OverAndBackModel" (84 : Nat) "OverAndBackModel" "on" "[I") ∈ am_tbl := am_tbl_t (List.mem_append_right _ (List.mem_append_right _ (List.mem_append_right _ (List.mem_append_right _ (List.mem_append_left _ (List.mem_of_getElem? (l := tables_1_5) (i := 10) rfl)))))) rfl
theorem w_971 : (Jvm.Cond.fieldLink "OverAndBackModel" (256 : Nat) "OverAndBackModel" "saw" "I") ∈ am_tbl := am_tbl_t (List.mem_append_right _ (List.mem_append_right _ (List.mem_append_right _ (List.mem_append_right _ (List.mem_append_left _ (List.mem_of_getElem? (l := tables_1_5) (i := 11) rfl)))))) rfl
theorem w_972 : (Jvm.Cond.fieldLink "OverAndBackModel" (259 : Nat) "OverAndBackModel" "facts" "I") ∈ am_tbl := am_tbl_t (List.mem_append_right _ (List.mem_append_right _ (List.mem_append_right _ (List.mem_append_right _ (List.mem_append_left _ (List.mem_of_getElem? (l := tables_1_5) (i := 12) rfl)))))) rfl
theorem w_973 : (Jvm.Cond.fieldLink "OverAndBackModel" (262 : Nat) "OverAndBackModel" "went" "I") ∈ am_tbl := am_tbl_t (List.mem_append_right _ (List.mem_append_right _ (List.mem_append_right _ (List.mem_append_right _ (List.mem_append_left _ (List.mem_of_getElem? (l := tables_1_5) (i := 13) rfl)))))) rfl
theorem w_974 : (Jvm.Cond.fieldLink "OverAndBackModel" (204 : Nat) "OverAndBackModel" "from" "I") ∈ am_tbl := am_tbl_t (List.mem_append_right _ (List.mem_append_right _ (List.mem_append_right _ (List.mem_append_right _ (List.mem_append_left _ (List.mem_of_getElem? (l := tables_1_5) (i := 14) rfl)))))) rfl
theorem w_975 : (Jvm.Cond.fieldLink "OverAndBackModel" (207 : Nat) "OverAndBackModel" "goings" "I") ∈ am_tbl := am_tbl_t (List.mem_append_right _ (List.mem_append_right _ (List.mem_append_right _ (List.mem_append_right _ (List.mem_append_left _ (List.mem_of_getElem? (l := tables_1_5) (i := 15) rfl)))))) rfl
theorem w_976 : (Jvm.Cond.fieldLink "OverAndBackModel" (87 : Nat) "OverAndBackModel" "going" "[I") ∈ am_tbl := am_tbl_t (List.mem_append_right _ (List.mem_append_right _ (List.mem_append_right _ (List.mem_append_right _ (List.mem_append_left _ (List.mem_of_getElem? (l := tables_1_5) (i := 16) rfl)))))) rfl
theorem w_977 : (Jvm.Cond.fieldLink "OverAndBackModel" (210 : Nat) "OverAndBackModel" "acts" "I") ∈ am_tbl := am_tbl_t (List.mem_append_right _ (List.mem_append_right _ (List.mem_append_right _ (List.mem_append_right _ (List.mem_append_left _ (List.mem_of_getElem? (l := tables_1_5) (i := 17) rfl)))))) rfl
theorem w_978 : (Jvm.Cond.fieldLink "OverAndBackModel" (90 : Nat) "OverAndBackModel" "act" "[I") ∈ am_tbl := am_tbl_t (List.mem_append_right _ (List.mem_append_right _ (List.mem_append_right _ (List.mem_append_right _ (List.mem_append_left _ (List.mem_of_getElem? (l := tables_1_5) (i := 18) rfl)))))) rfl
theorem w_979 : (Jvm.Cond.fieldLink "OverAndBackModel" (297 : Nat) "OverAndBackModel" "firstWrong" "I") ∈ am_tbl := am_tbl_t (List.mem_append_right _ (List.mem_append_right _ (List.mem_append_right _ (List.mem_append_right _ (List.mem_append_left _ (List.mem_of_getElem? (l := tables_1_5) (i := 19) rfl)))))) rfl
theorem w_980 : (Jvm.Cond.fieldLink "OverAndBackModel" (93 : Nat) "OverAndBackModel" "goTo" "[I") ∈ am_tbl := am_tbl_t (List.mem_append_right _ (List.mem_append_right _ (List.mem_append_right _ (List.mem_append_right _ (List.mem_append_left _ (List.mem_of_getElem? (l := tables_1_5) (i := 20) rfl)))))) rfl
theorem w_981 : (Jvm.Cond.fieldLink "OverAndBackModel" (96 : Nat) "OverAndBackModel" "most" "[I") ∈ am_tbl := am_tbl_t (List.mem_append_right _ (List.mem_append_right _ (List.mem_append_right _ (List.mem_append_right _ (List.mem_append_left _ (List.mem_of_getElem? (l := tables_1_5) (i := 21) rfl)))))) rfl
theorem w_982 : (Jvm.Cond.fieldLink "OverAndBackModel" (100 : Nat) "OverAndBackModel" "few" "[I") ∈ am_tbl := am_tbl_t (List.mem_append_right _ (List.mem_append_right _ (List.mem_append_right _ (List.mem_append_right _ (List.mem_append_left _ (List.mem_of_getElem? (l := tables_1_5) (i := 22) rfl)))))) rfl
theorem w_983 : (Jvm.Cond.fieldLink "OverAndBackModel" (319 : Nat) "OverAndBackModel" "fewest" "I") ∈ am_tbl := am_tbl_t (List.mem_append_right _ (List.mem_append_right _ (List.mem_append_right _ (List.mem_append_right _ (List.mem_append_left _ (List.mem_of_getElem? (l := tables_1_5) (i := 23) rfl)))))) rfl
theorem w_984 : (Jvm.Cond.fieldLink "OverAndBackModel" (322 : Nat) "OverAndBackModel" "soonest" "I") ∈ am_tbl := am_tbl_t (List.mem_append_right _ (List.mem_append_right _ (List.mem_append_right _ (List.mem_append_right _ (List.mem_append_left _ (List.mem_of_getElem? (l := tables_1_5) (i := 24) rfl)))))) rfl
theorem w_985 : (Jvm.Cond.fieldLink "OverAndBackModel" (325 : Nat) "OverAndBackModel" "soonestAny" "I") ∈ am_tbl := am_tbl_t (List.mem_append_right _ (List.mem_append_right _ (List.mem_append_right _ (List.mem_append_right _ (List.mem_append_left _ (List.mem_of_getElem? (l := tables_1_5) (i := 25) rfl)))))) rfl
theorem w_986 : (Jvm.Cond.fieldLink "OverAndBackModel" (103 : Nat) "OverAndBackModel" "holder" "[I") ∈ am_tbl := am_tbl_t (List.mem_append_right _ (List.mem_append_right _ (List.mem_append_right _ (List.mem_append_right _ (List.mem_append_left _ (List.mem_of_getElem? (l := tables_1_5) (i := 26) rfl)))))) rfl
theorem w_987 : (Jvm.Cond.fieldLink "OverAndBackModel" (106 : Nat) "OverAndBackModel" "shown" "[I") ∈ am_tbl := am_tbl_t (List.mem_append_right _ (List.mem_append_right _ (List.mem_append_right _ (List.mem_append_right _ (List.mem_append_left _ (List.mem_of_getElem? (l := tables_1_5) (i := 27) rfl)))))) rfl
theorem w_988 : (Jvm.Cond.fieldLink "OverAndBackModel" (213 : Nat) "OverAndBackModel" "keeps" "I") ∈ am_tbl := am_tbl_t (List.mem_append_right _ (List.mem_append_right _ (List.mem_append_right _ (List.mem_append_right _ (List.mem_append_left _ (List.mem_of_getElem? (l := tables_1_5) (i := 28) rfl)))))) rfl
theorem w_989 : (Jvm.Cond.fieldLink "OverAndBackModel" (109 : Nat) "OverAndBackModel" "kept" "[I") ∈ am_tbl := am_tbl_t (List.mem_append_right _ (List.mem_append_right _ (List.mem_append_right _ (List.mem_append_right _ (List.mem_append_left _ (List.mem_of_getElem? (l := tables_1_5) (i := 29) rfl)))))) rfl
theorem w_1101 : (Jvm.Cond.arrayClass Jvm.ClassFile.FieldType.boolean) ∈ am_tbl := am_tbl_t (List.mem_append_right _ (List.mem_append_right _ (List.mem_append_right _ (List.mem_append_right _ (List.mem_append_left _ (List.mem_of_getElem? (l := tables_1_5) (i := 141) rfl)))))) rfl
theorem w_1103 : (Jvm.Cond.instanceMethod ({ cls := "OverAndBackModel", name := "write", desc := "(I)I" } : Jvm.MethodName)) ∈ am_tbl := am_tbl_t (List.mem_append_right _ (List.mem_append_right _ (List.mem_append_right _ (List.mem_append_right _ (List.mem_append_left _ (List.mem_of_getElem? (l := tables_1_5) (i := 143) rfl)))))) rfl
theorem w_1104 : (Jvm.Cond.selects "OverAndBackModel" ({ cls := "OverAndBackModel", name := "write", desc := "(I)I" } : Jvm.MethodName) ({ cls := "OverAndBackModel", name := "write", desc := "(I)I" } : Jvm.MethodName)) ∈ am_tbl := am_tbl_t (List.mem_append_right _ (List.mem_append_right _ (List.mem_append_right _ (List.mem_append_right _ (List.mem_append_left _ (List.mem_of_getElem? (l := tables_1_5) (i := 144) rfl)))))) rfl
theorem w_1105 : (Jvm.Cond.code ({ cls := "OverAndBackModel", name := "write", desc := "(I)I" } : Jvm.MethodName) prog_14_method_11_code (2 : Nat) (Option.some Jvm.ClassFile.FieldType.int)) ∈ am_tbl := am_tbl_t (List.mem_append_right _ (List.mem_append_right _ (List.mem_append_right _ (List.mem_append_right _ (List.mem_append_left _ (List.mem_of_getElem? (l := tables_1_5) (i := 145) rfl)))))) rfl
theorem w_1106 : (Jvm.Cond.methodLink "OverAndBackModel" (116 : Nat) ({ cls := "OverAndBackModel", name := "in", desc := "(III)Z" } : Jvm.MethodName)) ∈ am_tbl := am_tbl_t (List.mem_append_right _ (List.mem_append_right _ (List.mem_append_right _ (List.mem_append_right _ (List.mem_append_left _ (List.mem_of_getElem? (l := tables_1_5) (i := 146) rfl)))))) rfl
theorem w_1107 : (Jvm.Cond.static ({ cls := "OverAndBackModel", name := "in", desc := "(III)Z" } : Jvm.MethodName)) ∈ am_tbl := am_tbl_t (List.mem_append_right _ (List.mem_append_right _ (List.mem_append_right _ (List.mem_append_right _ (List.mem_append_left _ (List.mem_of_getElem? (l := tables_1_5) (i := 147) rfl)))))) rfl
theorem w_1108 : (Jvm.Cond.code ({ cls := "OverAndBackModel", name := "in", desc := "(III)Z" } : Jvm.MethodName) prog_14_method_4_code (3 : Nat) (Option.some Jvm.ClassFile.FieldType.boolean)) ∈ am_tbl := am_tbl_t (List.mem_append_right _ (List.mem_append_right _ (List.mem_append_right _ (List.mem_append_right _ (List.mem_append_left _ (List.mem_of_getElem? (l := tables_1_5) (i := 148) rfl)))))) rfl
theorem w_1110 : (Jvm.Cond.instanceMethod ({ cls := "OverAndBackModel", name := "wipe", desc := "()I" } : Jvm.MethodName)) ∈ am_tbl := am_tbl_t (List.mem_append_right _ (List.mem_append_right _ (List.mem_append_right _ (List.mem_append_right _ (List.mem_append_left _ (List.mem_of_getElem? (l := tables_1_5) (i := 150) rfl)))))) rfl
theorem w_1111 : (Jvm.Cond.selects "OverAndBackModel" ({ cls := "OverAndBackModel", name := "wipe", desc := "()I" } : Jvm.MethodName) ({ cls := "OverAndBackModel", name := "wipe", desc := "()I" } : Jvm.MethodName)) ∈ am_tbl := am_tbl_t (List.mem_append_right _ (List.mem_append_right _ (List.mem_append_right _ (List.mem_append_right _ (List.mem_append_left _ (List.mem_of_getElem? (l := tables_1_5) (i := 151) rfl)))))) rfl
theorem w_1112 : (Jvm.Cond.code ({ cls := "OverAndBackModel", name := "wipe", desc := "()I" } : Jvm.MethodName) prog_14_method_12_code (2 : Nat) (Option.some Jvm.ClassFile.FieldType.int)) ∈ am_tbl := am_tbl_t (List.mem_append_right _ (List.mem_append_right _ (List.mem_append_right _ (List.mem_append_right _ (List.mem_append_left _ (List.mem_of_getElem? (l := tables_1_5) (i := 152) rfl)))))) rfl
theorem w_1114 : (Jvm.Cond.instanceMethod ({ cls := "OverAndBackModel", name := "fault", desc := "()I" } : Jvm.MethodName)) ∈ am_tbl := am_tbl_t (List.mem_append_right _ (List.mem_append_right _ (List.mem_append_right _ (List.mem_append_right _ (List.mem_append_left _ (List.mem_of_getElem? (l := tables_1_5) (i := 154) rfl)))))) rfl
theorem w_1115 : (Jvm.Cond.selects "OverAndBackModel" ({ cls := "OverAndBackModel", name := "fault", desc := "()I" } : Jvm.MethodName) ({ cls := "OverAndBackModel", name := "fault", desc := "()I" } : Jvm.MethodName)) ∈ am_tbl := am_tbl_t (List.mem_append_right _ (List.mem_append_right _ (List.mem_append_right _ (List.mem_append_right _ (List.mem_append_left _ (List.mem_of_getElem? (l := tables_1_5) (i := 155) rfl)))))) rfl
theorem w_1116 : (Jvm.Cond.code ({ cls := "OverAndBackModel", name := "fault", desc := "()I" } : Jvm.MethodName) prog_14_method_28_code (2 : Nat) (Option.some Jvm.ClassFile.FieldType.int)) ∈ am_tbl := am_tbl_t (List.mem_append_right _ (List.mem_append_right _ (List.mem_append_right _ (List.mem_append_right _ (List.mem_append_left _ (List.mem_of_getElem? (l := tables_1_5) (i := 156) rfl)))))) rfl
theorem w_1117 : (Jvm.Cond.methodLink "OverAndBackModel" (194 : Nat) ({ cls := "OverAndBackModel", name := "readItem", desc := "()Z" } : Jvm.MethodName)) ∈ am_tbl := am_tbl_t (List.mem_append_right _ (List.mem_append_right _ (List.mem_append_right _ (List.mem_append_right _ (List.mem_append_left _ (List.mem_of_getElem? (l := tables_1_5) (i := 157) rfl)))))) rfl
theorem w_1119 : (Jvm.Cond.instanceMethod ({ cls := "OverAndBackModel", name := "readItem", desc := "()Z" } : Jvm.MethodName)) ∈ am_tbl := am_tbl_t (List.mem_append_right _ (List.mem_append_right _ (List.mem_append_right _ (List.mem_append_right _ (List.mem_append_left _ (List.mem_of_getElem? (l := tables_1_5) (i := 159) rfl)))))) rfl
theorem w_1120 : (Jvm.Cond.code ({ cls := "OverAndBackModel", name := "readItem", desc := "()Z" } : Jvm.MethodName) prog_14_method_27_code (2 : Nat) (Option.some Jvm.ClassFile.FieldType.boolean)) ∈ am_tbl := am_tbl_t (List.mem_append_right _ (List.mem_append_right _ (List.mem_append_right _ (List.mem_append_right _ (List.mem_append_left _ (List.mem_of_getElem? (l := tables_1_5) (i := 160) rfl)))))) rfl
theorem w_1121 : (Jvm.Cond.methodLink "OverAndBackModel" (126 : Nat) ({ cls := "OverAndBackModel", name := "letterAt", desc := "(I)I" } : Jvm.MethodName)) ∈ am_tbl := am_tbl_t (List.mem_append_right _ (List.mem_append_right _ (List.mem_append_right _ (List.mem_append_right _ (List.mem_append_left _ (List.mem_of_getElem? (l := tables_1_5) (i := 161) rfl)))))) rfl
theorem w_1123 : (Jvm.Cond.instanceMethod ({ cls := "OverAndBackModel", name := "letterAt", desc := "(I)I" } : Jvm.MethodName)) ∈ am_tbl := am_tbl_t (List.mem_append_right _ (List.mem_append_right _ (List.mem_append_right _ (List.mem_append_right _ (List.mem_append_left _ (List.mem_of_getElem? (l := tables_1_5) (i := 163) rfl)))))) rfl
theorem w_1124 : (Jvm.Cond.code ({ cls := "OverAndBackModel", name := "letterAt", desc := "(I)I" } : Jvm.MethodName) prog_14_method_13_code (2 : Nat) (Option.some Jvm.ClassFile.FieldType.int)) ∈ am_tbl := am_tbl_t (List.mem_append_right _ (List.mem_append_right _ (List.mem_append_right _ (List.mem_append_right _ (List.mem_append_left _ (List.mem_of_getElem? (l := tables_1_5) (i := 164) rfl)))))) rfl
theorem w_1125 : (Jvm.Cond.methodLink "OverAndBackModel" (172 : Nat) ({ cls := "OverAndBackModel", name := "readLength", desc := "()Z" } : Jvm.MethodName)) ∈ am_tbl := am_tbl_t (List.mem_append_right _ (List.mem_append_right _ (List.mem_append_right _ (List.mem_append_right _ (List.mem_append_left _ (List.mem_of_getElem? (l := tables_1_5) (i := 165) rfl)))))) rfl
theorem w_1127 : (Jvm.Cond.instanceMethod ({ cls := "OverAndBackModel", name := "readLength", desc := "()Z" } : Jvm.MethodName)) ∈ am_tbl := am_tbl_t (List.mem_append_right _ (List.mem_append_right _ (List.mem_append_right _ (List.mem_append_right _ (List.mem_append_left _ (List.mem_of_getElem? (l := tables_1_5) (i := 167) rfl)))))) rfl
theorem w_1128 : (Jvm.Cond.code ({ cls := "OverAndBackModel", name := "readLength", desc := "()Z" } : Jvm.MethodName) prog_14_method_19_code (1 : Nat) (Option.some Jvm.ClassFile.FieldType.boolean)) ∈ am_tbl := am_tbl_t (List.mem_append_right _ (List.mem_append_right _ (List.mem_append_right _ (List.mem_append_right _ (List.mem_append_left _ (List.mem_of_getElem? (l := tables_1_5) (i := 168) rfl)))))) rfl
theorem w_1129 : (Jvm.Cond.methodLink "OverAndBackModel" (140 : Nat) ({ cls := "OverAndBackModel", name := "readNumbers", desc := "(I)Z" } : Jvm.MethodName)) ∈ am_tbl := am_tbl_t (List.mem_append_right _ (List.mem_append_right _ (List.mem_append_right _ (List.mem_append_right _ (List.mem_append_left _ (List.mem_of_getElem? (l := tables_1_5) (i := 169) rfl)))))) rfl
theorem w_1131 : (Jvm.Cond.instanceMethod ({ cls := "OverAndBackModel", name := "readNumbers", desc := "(I)Z" } : Jvm.MethodName)) ∈ am_tbl := am_tbl_t (List.mem_append_right _ (List.mem_append_right _ (List.mem_append_right _ (List.mem_append_right _ (List.mem_append_left _ (List.mem_of_getElem? (l := tables_1_5) (i := 171) rfl)))))) rfl
theorem w_1132 : (Jvm.Cond.code ({ cls := "OverAndBackModel", name := "readNumbers", desc := "(I)Z" } : Jvm.MethodName) prog_14_method_15_code (3 : Nat) (Option.some Jvm.ClassFile.FieldType.boolean)) ∈ am_tbl := am_tbl_t (List.mem_append_right _ (List.mem_append_right _ (List.mem_append_right _ (List.mem_append_right _ (List.mem_append_left _ (List.mem_of_getElem? (l := tables_1_5) (i := 172) rfl)))))) rfl
theorem w_1133 : (Jvm.Cond.methodLink "OverAndBackModel" (130 : Nat) ({ cls := "OverAndBackModel", name := "isFigure", desc := "(I)Z" } : Jvm.MethodName)) ∈ am_tbl := am_tbl_t (List.mem_append_right _ (List.mem_append_right _ (List.mem_append_right _ (List.mem_append_right _ (List.mem_append_left _ (List.mem_of_getElem? (l := tables_1_5) (i := 173) rfl)))))) rfl
theorem w_1134 : (Jvm.Cond.static ({ cls := "OverAndBackModel", name := "isFigure", desc := "(I)Z" } : Jvm.MethodName)) ∈ am_tbl := am_tbl_t (List.mem_append_right _ (List.mem_append_right _ (List.mem_append_right _ (List.mem_append_right _ (List.mem_append_left _ (List.mem_of_getElem? (l := tables_1_5) (i := 174) rfl)))))) rfl
theorem w_1135 : (Jvm.Cond.code ({ cls := "OverAndBackModel", name := "isFigure", desc := "(I)Z" } : Jvm.MethodName) prog_14_method_14_code (1 : Nat) (Option.some Jvm.ClassFile.FieldType.boolean)) ∈ am_tbl := am_tbl_t (List.mem_append_right _ (List.mem_append_right _ (List.mem_append_right _ (List.mem_append_right _ (List.mem_append_left _ (List.mem_of_getElem? (l := tables_1_5) (i := 175) rfl)))))) rfl
theorem w_1136 : (Jvm.Cond.methodLink "OverAndBackModel" (137 : Nat) ({ cls := "OverAndBackModel", name := "isTold", desc := "(III)Z" } : Jvm.MethodName)) ∈ am_tbl := am_tbl_t (List.mem_append_right _ (List.mem_append_right _ (List.mem_append_right _ (List.mem_append_right _ (List.mem_append_left _ (List.mem_of_getElem? (l := tables_1_5) (i := 176) rfl)))))) rfl
theorem w_1138 : (Jvm.Cond.instanceMethod ({ cls := "OverAndBackModel", name := "isTold", desc := "(III)Z" } : Jvm.MethodName)) ∈ am_tbl := am_tbl_t (List.mem_append_right _ (List.mem_append_right _ (List.mem_append_right _ (List.mem_append_right _ (List.mem_append_left _ (List.mem_of_getElem? (l := tables_1_5) (i := 178) rfl)))))) rfl
theorem w_1139 : (Jvm.Cond.code ({ cls := "OverAndBackModel", name := "isTold", desc := "(III)Z" } : Jvm.MethodName) prog_14_method_16_code (4 : Nat) (Option.some Jvm.ClassFile.FieldType.boolean)) ∈ am_tbl := am_tbl_t (List.mem_append_right _ (List.mem_append_right _ (List.mem_append_right _ (List.mem_append_right _ (List.mem_append_left _ (List.mem_of_getElem? (l := tables_1_5) (i := 179) rfl)))))) rfl
theorem w_1140 : (Jvm.Cond.methodLink "OverAndBackModel" (174 : Nat) ({ cls := "OverAndBackModel", name := "readStation", desc := "()Z" } : Jvm.MethodName)) ∈ am_tbl := am_tbl_t (List.mem_append_right _ (List.mem_append_right _ (List.mem_append_right _ (List.mem_append_right _ (List.mem_append_left _ (List.mem_of_getElem? (l := tables_1_5) (i := 180) rfl)))))) rfl
theorem w_1142 : (Jvm.Cond.instanceMethod ({ cls := "OverAndBackModel", name := "readStation", desc := "()Z" } : Jvm.MethodName)) ∈ am_tbl := am_tbl_t (List.mem_append_right _ (List.mem_append_right _ (List.mem_append_right _ (List.mem_append_right _ (List.mem_append_left _ (List.mem_of_getElem? (l := tables_1_5) (i := 182) rfl)))))) rfl
theorem w_1143 : (Jvm.Cond.code ({ cls := "OverAndBackModel", name := "readStation", desc := "()Z" } : Jvm.MethodName) prog_14_method_21_code (1 : Nat) (Option.some Jvm.ClassFile.FieldType.boolean)) ∈ am_tbl := am_tbl_t (List.mem_append_right _ (List.mem_append_right _ (List.mem_append_right _ (List.mem_append_right _ (List.mem_append_left _ (List.mem_of_getElem? (l := tables_1_5) (i := 183) rfl)))))) rfl
theorem w_1144 : (Jvm.Cond.methodLink "OverAndBackModel" (177 : Nat) ({ cls := "OverAndBackModel", name := "readSceneOf", desc := "()Z" } : Jvm.MethodName)) ∈ am_tbl := am_tbl_t (List.mem_append_right _ (List.mem_append_right _ (List.mem_append_right _ (List.mem_append_right _ (List.mem_append_left _ (List.mem_of_getElem? (l := tables_1_5) (i := 184) rfl)))))) rfl
theorem w_1146 : (Jvm.Cond.instanceMethod ({ cls := "OverAndBackModel", name := "readSceneOf", desc := "()Z" } : Jvm.MethodName)) ∈ am_tbl := am_tbl_t (List.mem_append_right _ (List.mem_append_right _ (List.mem_append_right _ (List.mem_append_right _ (List.mem_append_left _ (List.mem_of_getElem? (l := tables_1_5) (i := 186) rfl)))))) rfl
theorem w_1147 : (Jvm.Cond.code ({ cls := "OverAndBackModel", name := "readSceneOf", desc := "()Z" } : Jvm.MethodName) prog_14_method_22_code (1 : Nat) (Option.some Jvm.ClassFile.FieldType.boolean)) ∈ am_tbl := am_tbl_t (List.mem_append_right _ (List.mem_append_right _ (List.mem_append_right _ (List.mem_append_right _ (List.mem_append_left _ (List.mem_of_getElem? (l := tables_1_5) (i := 187) rfl)))))) rfl
theorem w_1148 : (Jvm.Cond.methodLink "OverAndBackModel" (152 : Nat) ({ cls := "OverAndBackModel", name := "isSpan", desc := "()Z" } : Jvm.MethodName)) ∈ am_tbl := am_tbl_t (List.mem_append_right _ (List.mem_append_right _ (List.mem_append_right _ (List.mem_append_right _ (List.mem_append_left _ (List.mem_of_getElem? (l := tables_1_5) (i := 188) rfl)))))) rfl
theorem w_1150 : (Jvm.Cond.instanceMethod ({ cls := "OverAndBackModel", name := "isSpan", desc := "()Z" } : Jvm.MethodName)) ∈ am_tbl := am_tbl_t (List.mem_append_right _ (List.mem_append_right _ (List.mem_append_right _ (List.mem_append_right _ (List.mem_append_left _ (List.mem_of_getElem? (l := tables_1_5) (i := 190) rfl)))))) rfl
theorem w_1151 : (Jvm.Cond.code ({ cls := "OverAndBackModel", name := "isSpan", desc := "()Z" } : Jvm.MethodName) prog_14_method_18_code (1 : Nat) (Option.some Jvm.ClassFile.FieldType.boolean)) ∈ am_tbl := am_tbl_t (List.mem_append_right _ (List.mem_append_right _ (List.mem_append_right _ (List.mem_append_right _ (List.mem_append_left _ (List.mem_of_getElem? (l := tables_1_5) (i := 191) rfl)))))) rfl
theorem w_1152 : (Jvm.Cond.methodLink "OverAndBackModel" (156 : Nat) ({ cls := "OverAndBackModel", name := "put", desc := "([II[II)V" } : Jvm.MethodName)) ∈ am_tbl := am_tbl_t (List.mem_append_right _ (List.mem_append_right _ (List.mem_append_right _ (List.mem_append_right _ (List.mem_append_left _ (List.mem_of_getElem? (l := tables_1_5) (i := 192) rfl)))))) rfl
theorem w_1153 : (Jvm.Cond.static ({ cls := "OverAndBackModel", name := "put", desc := "([II[II)V" } : Jvm.MethodName)) ∈ am_tbl := am_tbl_t (List.mem_append_right _ (List.mem_append_right _ (List.mem_append_right _ (List.mem_append_right _ (List.mem_append_left _ (List.mem_of_getElem? (l := tables_1_5) (i := 193) rfl)))))) rfl
theorem w_1154 : (Jvm.Cond.code ({ cls := "OverAndBackModel", name := "put", desc := "([II[II)V" } : Jvm.MethodName) prog_14_method_17_code (5 : Nat) (Option.none : Option Jvm.ClassFile.FieldType)) ∈ am_tbl := am_tbl_t (List.mem_append_right _ (List.mem_append_right _ (List.mem_append_right _ (List.mem_append_right _ (List.mem_append_left _ (List.mem_of_getElem? (l := tables_1_5) (i := 194) rfl)))))) rfl
theorem w_1155 : (Jvm.Cond.methodLink "OverAndBackModel" (180 : Nat) ({ cls := "OverAndBackModel", name := "readBreak", desc := "()Z" } : Jvm.MethodName)) ∈ am_tbl := am_tbl_t (List.mem_append_right _ (List.mem_append_right _ (List.mem_append_right _ (List.mem_append_right _ (List.mem_append_left _ (List.mem_of_getElem? (l := tables_1_5) (i := 195) rfl)))))) rfl
theorem w_1157 : (Jvm.Cond.instanceMethod ({ cls := "OverAndBackModel", name := "readBreak", desc := "()Z" } : Jvm.MethodName)) ∈ am_tbl := am_tbl_t (List.mem_append_right _ (List.mem_append_right _ (List.mem_append_right _ (List.mem_append_right _ (List.mem_append_left _ (List.mem_of_getElem? (l := tables_1_5) (i := 197) rfl)))))) rfl
theorem w_1158 : (Jvm.Cond.code ({ cls := "OverAndBackModel", name := "readBreak", desc := "()Z" } : Jvm.MethodName) prog_14_method_23_code (1 : Nat) (Option.some Jvm.ClassFile.FieldType.boolean)) ∈ am_tbl := am_tbl_t (List.mem_append_right _ (List.mem_append_right _ (List.mem_append_right _ (List.mem_append_right _ (List.mem_append_left _ (List.mem_of_getElem? (l := tables_1_5) (i := 198) rfl)))))) rfl
theorem w_1159 : (Jvm.Cond.methodLink "OverAndBackModel" (183 : Nat) ({ cls := "OverAndBackModel", name := "readChance", desc := "()Z" } : Jvm.MethodName)) ∈ am_tbl := am_tbl_t (List.mem_append_right _ (List.mem_append_right _ (List.mem_append_right _ (List.mem_append_right _ (List.mem_append_left _ (List.mem_of_getElem? (l := tables_1_5) (i := 199) rfl)))))) rfl
theorem w_1161 : (Jvm.Cond.instanceMethod ({ cls := "OverAndBackModel", name := "readChance", desc := "()Z" } : Jvm.MethodName)) ∈ am_tbl := am_tbl_t (List.mem_append_right _ (List.mem_append_right _ (List.mem_append_right _ (List.mem_append_right _ (List.mem_append_left _ (List.mem_of_getElem? (l := tables_1_5) (i := 201) rfl)))))) rfl
theorem w_1162 : (Jvm.Cond.code ({ cls := "OverAndBackModel", name := "readChance", desc := "()Z" } : Jvm.MethodName) prog_14_method_24_code (1 : Nat) (Option.some Jvm.ClassFile.FieldType.boolean)) ∈ am_tbl := am_tbl_t (List.mem_append_right _ (List.mem_append_right _ (List.mem_append_right _ (List.mem_append_right _ (List.mem_append_left _ (List.mem_of_getElem? (l := tables_1_5) (i := 202) rfl)))))) rfl
theorem w_1163 : (Jvm.Cond.methodLink "OverAndBackModel" (186 : Nat) ({ cls := "OverAndBackModel", name := "readGoes", desc := "()Z" } : Jvm.MethodName)) ∈ am_tbl := am_tbl_t (List.mem_append_right _ (List.mem_append_right _ (List.mem_append_right _ (List.mem_append_right _ (List.mem_append_left _ (List.mem_of_getElem? (l := tables_1_5) (i := 203) rfl)))))) rfl
theorem w_1165 : (Jvm.Cond.instanceMethod ({ cls := "OverAndBackModel", name := "readGoes", desc := "()Z" } : Jvm.MethodName)) ∈ am_tbl := am_tbl_t (List.mem_append_right _ (List.mem_append_right _ (List.mem_append_right _ (List.mem_append_right _ (List.mem_append_left _ (List.mem_of_getElem? (l := tables_1_5) (i := 205) rfl)))))) rfl
theorem w_1166 : (Jvm.Cond.code ({ cls := "OverAndBackModel", name := "readGoes", desc := "()Z" } : Jvm.MethodName) prog_14_method_20_code (1 : Nat) (Option.some Jvm.ClassFile.FieldType.boolean)) ∈ am_tbl := am_tbl_t (List.mem_append_right _ (List.mem_append_right _ (List.mem_append_right _ (List.mem_append_right _ (List.mem_append_left _ (List.mem_of_getElem? (l := tables_1_5) (i := 206) rfl)))))) rfl
theorem w_1167 : (Jvm.Cond.methodLink "OverAndBackModel" (188 : Nat) ({ cls := "OverAndBackModel", name := "readRuleOf", desc := "()Z" } : Jvm.MethodName)) ∈ am_tbl := am_tbl_t (List.mem_append_right _ (List.mem_append_right _ (List.mem_append_right _ (List.mem_append_right _ (List.mem_append_left _ (List.mem_of_getElem? (l := tables_1_5) (i := 207) rfl)))))) rfl
theorem w_1169 : (Jvm.Cond.instanceMethod ({ cls := "OverAndBackModel", name := "readRuleOf", desc := "()Z" } : Jvm.MethodName)) ∈ am_tbl := am_tbl_t (List.mem_append_right _ (List.mem_append_right _ (List.mem_append_right _ (List.mem_append_right _ (List.mem_append_left _ (List.mem_of_getElem? (l := tables_1_5) (i := 209) rfl)))))) rfl
theorem w_1170 : (Jvm.Cond.code ({ cls := "OverAndBackModel", name := "readRuleOf", desc := "()Z" } : Jvm.MethodName) prog_14_method_25_code (1 : Nat) (Option.some Jvm.ClassFile.FieldType.boolean)) ∈ am_tbl := am_tbl_t (List.mem_append_right _ (List.mem_append_right _ (List.mem_append_right _ (List.mem_append_right _ (List.mem_append_left _ (List.mem_of_getElem? (l := tables_1_5) (i := 210) rfl)))))) rfl
theorem w_1171 : (Jvm.Cond.methodLink "OverAndBackModel" (191 : Nat) ({ cls := "OverAndBackModel", name := "readWatcherOf", desc := "()Z" } : Jvm.MethodName)) ∈ am_tbl := am_tbl_t (List.mem_append_right _ (List.mem_append_right _ (List.mem_append_right _ (List.mem_append_right _ (List.mem_append_left _ (List.mem_of_getElem? (l := tables_1_5) (i := 211) rfl)))))) rfl
theorem w_1173 : (Jvm.Cond.instanceMethod ({ cls := "OverAndBackModel", name := "readWatcherOf", desc := "()Z" } : Jvm.MethodName)) ∈ am_tbl := am_tbl_t (List.mem_append_right _ (List.mem_append_right _ (List.mem_append_right _ (List.mem_append_right _ (List.mem_append_left _ (List.mem_of_getElem? (l := tables_1_5) (i := 213) rfl)))))) rfl
theorem w_1174 : (Jvm.Cond.code ({ cls := "OverAndBackModel", name := "readWatcherOf", desc := "()Z" } : Jvm.MethodName) prog_14_method_26_code (1 : Nat) (Option.some Jvm.ClassFile.FieldType.boolean)) ∈ am_tbl := am_tbl_t (List.mem_append_right _ (List.mem_append_right _ (List.mem_append_right _ (List.mem_append_right _ (List.mem_append_left _ (List.mem_of_getElem? (l := tables_1_5) (i := 214) rfl)))))) rfl
theorem w_1176 : (Jvm.Cond.instanceMethod ({ cls := "OverAndBackModel", name := "lay", desc := "()I" } : Jvm.MethodName)) ∈ am_tbl := am_tbl_t (List.mem_append_right _ (List.mem_append_right _ (List.mem_append_right _ (List.mem_append_right _ (List.mem_append_left _ (List.mem_of_getElem? (l := tables_1_5) (i := 216) rfl)))))) rfl
theorem w_1177 : (Jvm.Cond.selects "OverAndBackModel" ({ cls := "OverAndBackModel", name := "lay", desc := "()I" } : Jvm.MethodName) ({ cls := "OverAndBackModel", name := "lay", desc := "()I" } : Jvm.MethodName)) ∈ am_tbl := am_tbl_t (List.mem_append_right _ (List.mem_append_right _ (List.mem_append_right _ (List.mem_append_right _ (List.mem_append_left _ (List.mem_of_getElem? (l := tables_1_5) (i := 217) rfl)))))) rfl
theorem w_1178 : (Jvm.Cond.code ({ cls := "OverAndBackModel", name := "lay", desc := "()I" } : Jvm.MethodName) prog_14_method_29_code (1 : Nat) (Option.some Jvm.ClassFile.FieldType.int)) ∈ am_tbl := am_tbl_t (List.mem_append_right _ (List.mem_append_right _ (List.mem_append_right _ (List.mem_append_right _ (List.mem_append_left _ (List.mem_of_getElem? (l := tables_1_5) (i := 218) rfl)))))) rfl
theorem w_1179 : (Jvm.Cond.methodLink "OverAndBackModel" (197 : Nat) ({ cls := "OverAndBackModel", name := "fault", desc := "()I" } : Jvm.MethodName)) ∈ am_tbl := am_tbl_t (List.mem_append_right _ (List.mem_append_right _ (List.mem_append_right _ (List.mem_append_right _ (List.mem_append_left _ (List.mem_of_getElem? (l := tables_1_5) (i := 219) rfl)))))) rfl
theorem w_1181 : (Jvm.Cond.instanceMethod ({ cls := "OverAndBackModel", name := "minute", desc := "(III)I" } : Jvm.MethodName)) ∈ am_tbl := am_tbl_t (List.mem_append_right _ (List.mem_append_right _ (List.mem_append_right _ (List.mem_append_right _ (List.mem_append_left _ (List.mem_of_getElem? (l := tables_1_5) (i := 221) rfl)))))) rfl
theorem w_1182 : (Jvm.Cond.selects "OverAndBackModel" ({ cls := "OverAndBackModel", name := "minute", desc := "(III)I" } : Jvm.MethodName) ({ cls := "OverAndBackModel", name := "minute", desc := "(III)I" } : Jvm.MethodName)) ∈ am_tbl := am_tbl_t (List.mem_append_right _ (List.mem_append_right _ (List.mem_append_right _ (List.mem_append_right _ (List.mem_append_left _ (List.mem_of_getElem? (l := tables_1_5) (i := 222) rfl)))))) rfl
theorem w_1183 : (Jvm.Cond.code ({ cls := "OverAndBackModel", name := "minute", desc := "(III)I" } : Jvm.MethodName) prog_14_method_36_code (5 : Nat) (Option.some Jvm.ClassFile.FieldType.int)) ∈ am_tbl := am_tbl_t (List.mem_append_right _ (List.mem_append_right _ (List.mem_append_right _ (List.mem_append_right _ (List.mem_append_left _ (List.mem_of_getElem? (l := tables_1_5) (i := 223) rfl)))))) rfl
theorem w_1184 : (Jvm.Cond.methodLink "OverAndBackModel" (240 : Nat) ({ cls := "OverAndBackModel", name := "isStation", desc := "(I)Z" } : Jvm.MethodName)) ∈ am_tbl := am_tbl_t (List.mem_append_right _ (List.mem_append_right _ (List.mem_append_right _ (List.mem_append_right _ (List.mem_append_left _ (List.mem_of_getElem? (l := tables_1_5) (i := 224) rfl)))))) rfl
theorem w_1186 : (Jvm.Cond.instanceMethod ({ cls := "OverAndBackModel", name := "isStation", desc := "(I)Z" } : Jvm.MethodName)) ∈ am_tbl := am_tbl_t (List.mem_append_right _ (List.mem_append_right _ (List.mem_append_right _ (List.mem_append_right _ (List.mem_append_left _ (List.mem_of_getElem? (l := tables_1_5) (i := 226) rfl)))))) rfl
theorem w_1187 : (Jvm.Cond.code ({ cls := "OverAndBackModel", name := "isStation", desc := "(I)Z" } : Jvm.MethodName) prog_14_method_7_code (2 : Nat) (Option.some Jvm.ClassFile.FieldType.boolean)) ∈ am_tbl := am_tbl_t (List.mem_append_right _ (List.mem_append_right _ (List.mem_append_right _ (List.mem_append_right _ (List.mem_append_left _ (List.mem_of_getElem? (l := tables_1_5) (i := 227) rfl)))))) rfl
theorem w_1188 : (Jvm.Cond.methodLink "OverAndBackModel" (243 : Nat) ({ cls := "OverAndBackModel", name := "isMinute", desc := "(I)Z" } : Jvm.MethodName)) ∈ am_tbl := am_tbl_t (List.mem_append_right _ (List.mem_append_right _ (List.mem_append_right _ (List.mem_append_right _ (List.mem_append_left _ (List.mem_of_getElem? (l := tables_1_5) (i := 228) rfl)))))) rfl
theorem w_1190 : (Jvm.Cond.instanceMethod ({ cls := "OverAndBackModel", name := "isMinute", desc := "(I)Z" } : Jvm.MethodName)) ∈ am_tbl := am_tbl_t (List.mem_append_right _ (List.mem_append_right _ (List.mem_append_right _ (List.mem_append_right _ (List.mem_append_left _ (List.mem_of_getElem? (l := tables_1_5) (i := 230) rfl)))))) rfl
theorem w_1191 : (Jvm.Cond.code ({ cls := "OverAndBackModel", name := "isMinute", desc := "(I)Z" } : Jvm.MethodName) prog_14_method_8_code (2 : Nat) (Option.some Jvm.ClassFile.FieldType.boolean)) ∈ am_tbl := am_tbl_t (List.mem_append_right _ (List.mem_append_right _ (List.mem_append_right _ (List.mem_append_right _ (List.mem_append_left _ (List.mem_of_getElem? (l := tables_1_5) (i := 231) rfl)))))) rfl
theorem w_1192 : (Jvm.Cond.methodLink "OverAndBackModel" (246 : Nat) ({ cls := "OverAndBackModel", name := "layCase", desc := "(II)V" } : Jvm.MethodName)) ∈ am_tbl := am_tbl_t (List.mem_append_right _ (List.mem_append_right _ (List.mem_append_right _ (List.mem_append_right _ (List.mem_append_left _ (List.mem_of_getElem? (l := tables_1_5) (i := 232) rfl)))))) rfl
theorem w_1194 : (Jvm.Cond.instanceMethod ({ cls := "OverAndBackModel", name := "layCase", desc := "(II)V" } : Jvm.MethodName)) ∈ am_tbl := am_tbl_t (List.mem_append_right _ (List.mem_append_right _ (List.mem_append_right _ (List.mem_append_right _ (List.mem_append_left _ (List.mem_of_getElem? (l := tables_1_5) (i := 234) rfl)))))) rfl
theorem w_1195 : (Jvm.Cond.code ({ cls := "OverAndBackModel", name := "layCase", desc := "(II)V" } : Jvm.MethodName) prog_14_method_33_code (4 : Nat) (Option.none : Option Jvm.ClassFile.FieldType)) ∈ am_tbl := am_tbl_t (List.mem_append_right _ (List.mem_append_right _ (List.mem_append_right _ (List.mem_append_right _ (List.mem_append_left _ (List.mem_of_getElem? (l := tables_1_5) (i := 235) rfl)))))) rfl
theorem w_1196 : (Jvm.Cond.methodLink "OverAndBackModel" (216 : Nat) ({ cls := "OverAndBackModel", name := "laySpots", desc := "(I)V" } : Jvm.MethodName)) ∈ am_tbl := am_tbl_t (List.mem_append_right _ (List.mem_append_right _ (List.mem_append_right _ (List.mem_append_right _ (List.mem_append_left _ (List.mem_of_getElem? (l := tables_1_5) (i := 236) rfl)))))) rfl
theorem w_1198 : (Jvm.Cond.instanceMethod ({ cls := "OverAndBackModel", name := "laySpots", desc := "(I)V" } : Jvm.MethodName)) ∈ am_tbl := am_tbl_t (List.mem_append_right _ (List.mem_append_right _ (List.mem_append_right _ (List.mem_append_right _ (List.mem_append_left _ (List.mem_of_getElem? (l := tables_1_5) (i := 238) rfl)))))) rfl
theorem w_1199 : (Jvm.Cond.code ({ cls := "OverAndBackModel", name := "laySpots", desc := "(I)V" } : Jvm.MethodName) prog_14_method_31_code (5 : Nat) (Option.none : Option Jvm.ClassFile.FieldType)) ∈ am_tbl := am_tbl_t (List.mem_append_right _ (List.mem_append_right _ (List.mem_append_right _ (List.mem_append_right _ (List.mem_append_left _ (List.mem_of_getElem? (l := tables_1_5) (i := 239) rfl)))))) rfl
theorem w_1200 : (Jvm.Cond.methodLink "OverAndBackModel" (220 : Nat) ({ cls := "OverAndBackModel", name := "breaks", desc := "([II)V" } : Jvm.MethodName)) ∈ am_tbl := am_tbl_t (List.mem_append_right _ (List.mem_append_right _ (List.mem_append_right _ (List.mem_append_right _ (List.mem_append_right _ (List.mem_of_getElem? (l := tables_1_6) (i := 0) rfl)))))) rfl
theorem w_1202 : (Jvm.Cond.instanceMethod ({ cls := "OverAndBackModel", name := "breaks", desc := "([II)V" } : Jvm.MethodName)) ∈ am_tbl := am_tbl_t (List.mem_append_right _ (List.mem_append_right _ (List.mem_append_right _ (List.mem_append_right _ (List.mem_append_right _ (List.mem_of_getElem? (l := tables_1_6) (i := 2) rfl)))))) rfl
theorem w_1203 : (Jvm.Cond.code ({ cls := "OverAndBackModel", name := "breaks", desc := "([II)V" } : Jvm.MethodName) prog_14_method_30_code (4 : Nat) (Option.none : Option Jvm.ClassFile.FieldType)) ∈ am_tbl := am_tbl_t (List.mem_append_right _ (List.mem_append_right _ (List.mem_append_right _ (List.mem_append_right _ (List.mem_append_right _ (List.mem_of_getElem? (l := tables_1_6) (i := 3) rfl)))))) rfl
theorem w_1204 : (Jvm.Cond.methodLink "OverAndBackModel" (223 : Nat) ({ cls := "OverAndBackModel", name := "has", desc := "(II)Z" } : Jvm.MethodName)) ∈ am_tbl := am_tbl_t (List.mem_append_right _ (List.mem_append_right _ (List.mem_append_right _ (List.mem_append_right _ (List.mem_append_right _ (List.mem_of_getElem? (l := tables_1_6) (i := 4) rfl)))))) rfl
theorem w_1205 : (Jvm.Cond.static ({ cls := "OverAndBackModel", name := "has", desc := "(II)Z" } : Jvm.MethodName)) ∈ am_tbl := am_tbl_t (List.mem_append_right _ (List.mem_append_right _ (List.mem_append_right _ (List.mem_append_right _ (List.mem_append_right _ (List.mem_of_getElem? (l := tables_1_6) (i := 5) rfl)))))) rfl
theorem w_1206 : (Jvm.Cond.code ({ cls := "OverAndBackModel", name := "has", desc := "(II)Z" } : Jvm.MethodName) prog_14_method_5_code (2 : Nat) (Option.some Jvm.ClassFile.FieldType.boolean)) ∈ am_tbl := am_tbl_t (List.mem_append_right _ (List.mem_append_right _ (List.mem_append_right _ (List.mem_append_right _ (List.mem_append_right _ (List.mem_of_getElem? (l := tables_1_6) (i := 6) rfl)))))) rfl
theorem w_1207 : (Jvm.Cond.methodLink "OverAndBackModel" (227 : Nat) ({ cls := "OverAndBackModel", name := "layBreaks", desc := "()V" } : Jvm.MethodName)) ∈ am_tbl := am_tbl_t (List.mem_append_right _ (List.mem_append_right _ (List.mem_append_right _ (List.mem_append_right _ (List.mem_append_right _ (List.mem_of_getElem? (l := tables_1_6) (i := 7) rfl)))))) rfl
theorem w_1209 : (Jvm.Cond.instanceMethod ({ cls := "OverAndBackModel", name := "layBreaks", desc := "()V" } : Jvm.MethodName)) ∈ am_tbl := am_tbl_t (List.mem_append_right _ (List.mem_append_right _ (List.mem_append_right _ (List.mem_append_right _ (List.mem_append_right _ (List.mem_of_getElem? (l := tables_1_6) (i := 9) rfl)))))) rfl
theorem w_1210 : (Jvm.Cond.code ({ cls := "OverAndBackModel", name := "layBreaks", desc := "()V" } : Jvm.MethodName) prog_14_method_32_code (2 : Nat) (Option.none : Option Jvm.ClassFile.FieldType)) ∈ am_tbl := am_tbl_t (List.mem_append_right _ (List.mem_append_right _ (List.mem_append_right _ (List.mem_append_right _ (List.mem_append_right _ (List.mem_of_getElem? (l := tables_1_6) (i := 10) rfl)))))) rfl
theorem w_1212 : (Jvm.Cond.instanceMethod ({ cls := "OverAndBackModel", name := "known", desc := "(I)I" } : Jvm.MethodName)) ∈ am_tbl := am_tbl_t (List.mem_append_right _ (List.mem_append_right _ (List.mem_append_right _ (List.mem_append_right _ (List.mem_append_right _ (List.mem_of_getElem? (l := tables_1_6) (i := 12) rfl)))))) rfl
theorem w_1213 : (Jvm.Cond.selects "OverAndBackModel" ({ cls := "OverAndBackModel", name := "known", desc := "(I)I" } : Jvm.MethodName) ({ cls := "OverAndBackModel", name := "known", desc := "(I)I" } : Jvm.MethodName)) ∈ am_tbl := am_tbl_t (List.mem_append_right _ (List.mem_append_right _ (List.mem_append_right _ (List.mem_append_right _ (List.mem_append_right _ (List.mem_of_getElem? (l := tables_1_6) (i := 13) rfl)))))) rfl
theorem w_1214 : (Jvm.Cond.code ({ cls := "OverAndBackModel", name := "known", desc := "(I)I" } : Jvm.MethodName) prog_14_method_37_code (2 : Nat) (Option.some Jvm.ClassFile.FieldType.int)) ∈ am_tbl := am_tbl_t (List.mem_append_right _ (List.mem_append_right _ (List.mem_append_right _ (List.mem_append_right _ (List.mem_append_right _ (List.mem_of_getElem? (l := tables_1_6) (i := 14) rfl)))))) rfl
theorem w_1215 : (Jvm.Cond.methodLink "OverAndBackModel" (250 : Nat) ({ cls := "OverAndBackModel", name := "isSet", desc := "(I)Z" } : Jvm.MethodName)) ∈ am_tbl := am_tbl_t (List.mem_append_right _ (List.mem_append_right _ (List.mem_append_right _ (List.mem_append_right _ (List.mem_append_right _ (List.mem_of_getElem? (l := tables_1_6) (i := 15) rfl)))))) rfl
theorem w_1216 : (Jvm.Cond.static ({ cls := "OverAndBackModel", name := "isSet", desc := "(I)Z" } : Jvm.MethodName)) ∈ am_tbl := am_tbl_t (List.mem_append_right _ (List.mem_append_right _ (List.mem_append_right _ (List.mem_append_right _ (List.mem_append_right _ (List.mem_of_getElem? (l := tables_1_6) (i := 16) rfl)))))) rfl
theorem w_1217 : (Jvm.Cond.code ({ cls := "OverAndBackModel", name := "isSet", desc := "(I)Z" } : Jvm.MethodName) prog_14_method_10_code (1 : Nat) (Option.some Jvm.ClassFile.FieldType.boolean)) ∈ am_tbl := am_tbl_t (List.mem_append_right _ (List.mem_append_right _ (List.mem_append_right _ (List.mem_append_right _ (List.mem_append_right _ (List.mem_of_getElem? (l := tables_1_6) (i := 17) rfl)))))) rfl
theorem w_1218 : (Jvm.Cond.methodLink "OverAndBackModel" (253 : Nat) ({ cls := "OverAndBackModel", name := "closed", desc := "(I)I" } : Jvm.MethodName)) ∈ am_tbl := am_tbl_t (List.mem_append_right _ (List.mem_append_right _ (List.mem_append_right _ (List.mem_append_right _ (List.mem_append_right _ (List.mem_of_getElem? (l := tables_1_6) (i := 18) rfl)))))) rfl
theorem w_1220 : (Jvm.Cond.instanceMethod ({ cls := "OverAndBackModel", name := "closed", desc := "(I)I" } : Jvm.MethodName)) ∈ am_tbl := am_tbl_t (List.mem_append_right _ (List.mem_append_right _ (List.mem_append_right _ (List.mem_append_right _ (List.mem_append_right _ (List.mem_of_getElem? (l := tables_1_6) (i := 20) rfl)))))) rfl
theorem w_1221 : (Jvm.Cond.code ({ cls := "OverAndBackModel", name := "closed", desc := "(I)I" } : Jvm.MethodName) prog_14_method_35_code (6 : Nat) (Option.some Jvm.ClassFile.FieldType.int)) ∈ am_tbl := am_tbl_t (List.mem_append_right _ (List.mem_append_right _ (List.mem_append_right _ (List.mem_append_right _ (List.mem_append_right _ (List.mem_of_getElem? (l := tables_1_6) (i := 21) rfl)))))) rfl
theorem w_1223 : (Jvm.Cond.instanceMethod ({ cls := "OverAndBackModel", name := "watcher", desc := "(II)I" } : Jvm.MethodName)) ∈ am_tbl := am_tbl_t (List.mem_append_right _ (List.mem_append_right _ (List.mem_append_right _ (List.mem_append_right _ (List.mem_append_right _ (List.mem_of_getElem? (l := tables_1_6) (i := 23) rfl)))))) rfl
theorem w_1224 : (Jvm.Cond.selects "OverAndBackModel" ({ cls := "OverAndBackModel", name := "watcher", desc := "(II)I" } : Jvm.MethodName) ({ cls := "OverAndBackModel", name := "watcher", desc := "(II)I" } : Jvm.MethodName)) ∈ am_tbl := am_tbl_t (List.mem_append_right _ (List.mem_append_right _ (List.mem_append_right _ (List.mem_append_right _ (List.mem_append_right _ (List.mem_of_getElem? (l := tables_1_6) (i := 24) rfl)))))) rfl
theorem w_1225 : (Jvm.Cond.code ({ cls := "OverAndBackModel", name := "watcher", desc := "(II)I" } : Jvm.MethodName) prog_14_method_45_code (3 : Nat) (Option.some Jvm.ClassFile.FieldType.int)) ∈ am_tbl := am_tbl_t (List.mem_append_right _ (List.mem_append_right _ (List.mem_append_right _ (List.mem_append_right _ (List.mem_append_right _ (List.mem_of_getElem? (l := tables_1_6) (i := 25) rfl)))))) rfl
theorem w_1226 : (Jvm.Cond.methodLink "OverAndBackModel" (285 : Nat) ({ cls := "OverAndBackModel", name := "isWatcher", desc := "(I)Z" } : Jvm.MethodName)) ∈ am_tbl := am_tbl_t (List.mem_append_right _ (List.mem_append_right _ (List.mem_append_right _ (List.mem_append_right _ (List.mem_append_right _ (List.mem_of_getElem? (l := tables_1_6) (i := 26) rfl)))))) rfl
theorem w_1228 : (Jvm.Cond.instanceMethod ({ cls := "OverAndBackModel", name := "isWatcher", desc := "(I)Z" } : Jvm.MethodName)) ∈ am_tbl := am_tbl_t (List.mem_append_right _ (List.mem_append_right _ (List.mem_append_right _ (List.mem_append_right _ (List.mem_append_right _ (List.mem_of_getElem? (l := tables_1_6) (i := 28) rfl)))))) rfl
theorem w_1229 : (Jvm.Cond.code ({ cls := "OverAndBackModel", name := "isWatcher", desc := "(I)Z" } : Jvm.MethodName) prog_14_method_9_code (2 : Nat) (Option.some Jvm.ClassFile.FieldType.boolean)) ∈ am_tbl := am_tbl_t (List.mem_append_right _ (List.mem_append_right _ (List.mem_append_right _ (List.mem_append_right _ (List.mem_append_right _ (List.mem_of_getElem? (l := tables_1_6) (i := 29) rfl)))))) rfl
theorem w_1230 : (Jvm.Cond.methodLink "OverAndBackModel" (288 : Nat) ({ cls := "OverAndBackModel", name := "watchesOf", desc := "(I)V" } : Jvm.MethodName)) ∈ am_tbl := am_tbl_t (List.mem_append_right _ (List.mem_append_right _ (List.mem_append_right _ (List.mem_append_right _ (List.mem_append_right _ (List.mem_of_getElem? (l := tables_1_6) (i := 30) rfl)))))) rfl
theorem w_1232 : (Jvm.Cond.instanceMethod ({ cls := "OverAndBackModel", name := "watchesOf", desc := "(I)V" } : Jvm.MethodName)) ∈ am_tbl := am_tbl_t (List.mem_append_right _ (List.mem_append_right _ (List.mem_append_right _ (List.mem_append_right _ (List.mem_append_right _ (List.mem_of_getElem? (l := tables_1_6) (i := 32) rfl)))))) rfl
theorem w_1233 : (Jvm.Cond.code ({ cls := "OverAndBackModel", name := "watchesOf", desc := "(I)V" } : Jvm.MethodName) prog_14_method_44_code (2 : Nat) (Option.none : Option Jvm.ClassFile.FieldType)) ∈ am_tbl := am_tbl_t (List.mem_append_right _ (List.mem_append_right _ (List.mem_append_right _ (List.mem_append_right _ (List.mem_append_right _ (List.mem_of_getElem? (l := tables_1_6) (i := 33) rfl)))))) rfl
theorem w_1234 : (Jvm.Cond.methodLink "OverAndBackModel" (282 : Nat) ({ cls := "OverAndBackModel", name := "watches", desc := "(II)V" } : Jvm.MethodName)) ∈ am_tbl := am_tbl_t (List.mem_append_right _ (List.mem_append_right _ (List.mem_append_right _ (List.mem_append_right _ (List.mem_append_right _ (List.mem_of_getElem? (l := tables_1_6) (i := 34) rfl)))))) rfl
theorem w_1236 : (Jvm.Cond.instanceMethod ({ cls := "OverAndBackModel", name := "watches", desc := "(II)V" } : Jvm.MethodName)) ∈ am_tbl := am_tbl_t (List.mem_append_right _ (List.mem_append_right _ (List.mem_append_right _ (List.mem_append_right _ (List.mem_append_right _ (List.mem_of_getElem? (l := tables_1_6) (i := 36) rfl)))))) rfl
theorem w_1237 : (Jvm.Cond.code ({ cls := "OverAndBackModel", name := "watches", desc := "(II)V" } : Jvm.MethodName) prog_14_method_43_code (7 : Nat) (Option.none : Option Jvm.ClassFile.FieldType)) ∈ am_tbl := am_tbl_t (List.mem_append_right _ (List.mem_append_right _ (List.mem_append_right _ (List.mem_append_right _ (List.mem_append_right _ (List.mem_of_getElem? (l := tables_1_6) (i := 37) rfl)))))) rfl
theorem w_1238 : (Jvm.Cond.methodLink "OverAndBackModel" (272 : Nat) ({ cls := "OverAndBackModel", name := "begins", desc := "()V" } : Jvm.MethodName)) ∈ am_tbl := am_tbl_t (List.mem_append_right _ (List.mem_append_right _ (List.mem_append_right _ (List.mem_append_right _ (List.mem_append_right _ (List.mem_of_getElem? (l := tables_1_6) (i := 38) rfl)))))) rfl
theorem w_1240 : (Jvm.Cond.instanceMethod ({ cls := "OverAndBackModel", name := "begins", desc := "()V" } : Jvm.MethodName)) ∈ am_tbl := am_tbl_t (List.mem_append_right _ (List.mem_append_right _ (List.mem_append_right _ (List.mem_append_right _ (List.mem_append_right _ (List.mem_of_getElem? (l := tables_1_6) (i := 40) rfl)))))) rfl
theorem w_1241 : (Jvm.Cond.code ({ cls := "OverAndBackModel", name := "begins", desc := "()V" } : Jvm.MethodName) prog_14_method_38_code (1 : Nat) (Option.none : Option Jvm.ClassFile.FieldType)) ∈ am_tbl := am_tbl_t (List.mem_append_right _ (List.mem_append_right _ (List.mem_append_right _ (List.mem_append_right _ (List.mem_append_right _ (List.mem_of_getElem? (l := tables_1_6) (i := 41) rfl)))))) rfl
theorem w_1242 : (Jvm.Cond.methodLink "OverAndBackModel" (275 : Nat) ({ cls := "OverAndBackModel", name := "wants", desc := "(IIII)I" } : Jvm.MethodName)) ∈ am_tbl := am_tbl_t (List.mem_append_right _ (List.mem_append_right _ (List.mem_append_right _ (List.mem_append_right _ (List.mem_append_right _ (List.mem_of_getElem? (l := tables_1_6) (i := 42) rfl)))))) rfl
theorem w_1244 : (Jvm.Cond.instanceMethod ({ cls := "OverAndBackModel", name := "wants", desc := "(IIII)I" } : Jvm.MethodName)) ∈ am_tbl := am_tbl_t (List.mem_append_right _ (List.mem_append_right _ (List.mem_append_right _ (List.mem_append_right _ (List.mem_append_right _ (List.mem_of_getElem? (l := tables_1_6) (i := 44) rfl)))))) rfl
theorem w_1245 : (Jvm.Cond.code ({ cls := "OverAndBackModel", name := "wants", desc := "(IIII)I" } : Jvm.MethodName) prog_14_method_42_code (5 : Nat) (Option.some Jvm.ClassFile.FieldType.int)) ∈ am_tbl := am_tbl_t (List.mem_append_right _ (List.mem_append_right _ (List.mem_append_right _ (List.mem_append_right _ (List.mem_append_right _ (List.mem_of_getElem? (l := tables_1_6) (i := 45) rfl)))))) rfl
theorem w_1246 : (Jvm.Cond.methodLink "OverAndBackModel" (265 : Nat) ({ cls := "OverAndBackModel", name := "wantsOver", desc := "(II)I" } : Jvm.MethodName)) ∈ am_tbl := am_tbl_t (List.mem_append_right _ (List.mem_append_right _ (List.mem_append_right _ (List.mem_append_right _ (List.mem_append_right _ (List.mem_of_getElem? (l := tables_1_6) (i := 46) rfl)))))) rfl
theorem w_1248 : (Jvm.Cond.instanceMethod ({ cls := "OverAndBackModel", name := "wantsOver", desc := "(II)I" } : Jvm.MethodName)) ∈ am_tbl := am_tbl_t (List.mem_append_right _ (List.mem_append_right _ (List.mem_append_right _ (List.mem_append_right _ (List.mem_append_right _ (List.mem_of_getElem? (l := tables_1_6) (i := 48) rfl)))))) rfl
theorem w_1249 : (Jvm.Cond.code ({ cls := "OverAndBackModel", name := "wantsOver", desc := "(II)I" } : Jvm.MethodName) prog_14_method_40_code (5 : Nat) (Option.some Jvm.ClassFile.FieldType.int)) ∈ am_tbl := am_tbl_t (List.mem_append_right _ (List.mem_append_right _ (List.mem_append_right _ (List.mem_append_right _ (List.mem_append_right _ (List.mem_of_getElem? (l := tables_1_6) (i := 49) rfl)))))) rfl
theorem w_1250 : (Jvm.Cond.methodLink "OverAndBackModel" (269 : Nat) ({ cls := "OverAndBackModel", name := "wantsBest", desc := "(II)I" } : Jvm.MethodName)) ∈ am_tbl := am_tbl_t (List.mem_append_right _ (List.mem_append_right _ (List.mem_append_right _ (List.mem_append_right _ (List.mem_append_right _ (List.mem_of_getElem? (l := tables_1_6) (i := 50) rfl)))))) rfl
theorem w_1252 : (Jvm.Cond.instanceMethod ({ cls := "OverAndBackModel", name := "wantsBest", desc := "(II)I" } : Jvm.MethodName)) ∈ am_tbl := am_tbl_t (List.mem_append_right _ (List.mem_append_right _ (List.mem_append_right _ (List.mem_append_right _ (List.mem_append_right _ (List.mem_of_getElem? (l := tables_1_6) (i := 52) rfl)))))) rfl
theorem w_1253 : (Jvm.Cond.code ({ cls := "OverAndBackModel", name := "wantsBest", desc := "(II)I" } : Jvm.MethodName) prog_14_method_41_code (6 : Nat) (Option.some Jvm.ClassFile.FieldType.int)) ∈ am_tbl := am_tbl_t (List.mem_append_right _ (List.mem_append_right _ (List.mem_append_right _ (List.mem_append_right _ (List.mem_append_right _ (List.mem_of_getElem? (l := tables_1_6) (i := 53) rfl)))))) rfl
theorem w_1254 : (Jvm.Cond.methodLink "OverAndBackModel" (279 : Nat) ({ cls := "OverAndBackModel", name := "sees", desc := "(II)V" } : Jvm.MethodName)) ∈ am_tbl := am_tbl_t (List.mem_append_right _ (List.mem_append_right _ (List.mem_append_right _ (List.mem_append_right _ (List.mem_append_right _ (List.mem_of_getElem? (l := tables_1_6) (i := 54) rfl)))))) rfl
theorem w_1256 : (Jvm.Cond.instanceMethod ({ cls := "OverAndBackModel", name := "sees", desc := "(II)V" } : Jvm.MethodName)) ∈ am_tbl := am_tbl_t (List.mem_append_right _ (List.mem_append_right _ (List.mem_append_right _ (List.mem_append_right _ (List.mem_append_right _ (List.mem_of_getElem? (l := tables_1_6) (i := 56) rfl)))))) rfl
theorem w_1257 : (Jvm.Cond.code ({ cls := "OverAndBackModel", name := "sees", desc := "(II)V" } : Jvm.MethodName) prog_14_method_39_code (3 : Nat) (Option.none : Option Jvm.ClassFile.FieldType)) ∈ am_tbl := am_tbl_t (List.mem_append_right _ (List.mem_append_right _ (List.mem_append_right _ (List.mem_append_right _ (List.mem_append_right _ (List.mem_of_getElem? (l := tables_1_6) (i := 57) rfl)))))) rfl
theorem w_1258 : (Jvm.Cond.methodLink "OverAndBackModel" (291 : Nat) ({ cls := "OverAndBackModel", name := "layMost", desc := "()V" } : Jvm.MethodName)) ∈ am_tbl := am_tbl_t (List.mem_append_right _ (List.mem_append_right _ (List.mem_append_right _ (List.mem_append_right _ (List.mem_append_right _ (List.mem_of_getElem? (l := tables_1_6) (i := 58) rfl)))))) rfl
theorem w_1260 : (Jvm.Cond.instanceMethod ({ cls := "OverAndBackModel", name := "layMost", desc := "()V" } : Jvm.MethodName)) ∈ am_tbl := am_tbl_t (List.mem_append_right _ (List.mem_append_right _ (List.mem_append_right _ (List.mem_append_right _ (List.mem_append_right _ (List.mem_of_getElem? (l := tables_1_6) (i := 60) rfl)))))) rfl
theorem w_1261 : (Jvm.Cond.code ({ cls := "OverAndBackModel", name := "layMost", desc := "()V" } : Jvm.MethodName) prog_14_method_58_code (5 : Nat) (Option.none : Option Jvm.ClassFile.FieldType)) ∈ am_tbl := am_tbl_t (List.mem_append_right _ (List.mem_append_right _ (List.mem_append_right _ (List.mem_append_right _ (List.mem_append_right _ (List.mem_of_getElem? (l := tables_1_6) (i := 61) rfl)))))) rfl
theorem w_1262 : (Jvm.Cond.methodLink "OverAndBackModel" (309 : Nat) ({ cls := "OverAndBackModel", name := "bestGoing", desc := "(II)I" } : Jvm.MethodName)) ∈ am_tbl := am_tbl_t (List.mem_append_right _ (List.mem_append_right _ (List.mem_append_right _ (List.mem_append_right _ (List.mem_append_right _ (List.mem_of_getElem? (l := tables_1_6) (i := 62) rfl)))))) rfl
theorem w_1264 : (Jvm.Cond.instanceMethod ({ cls := "OverAndBackModel", name := "bestGoing", desc := "(II)I" } : Jvm.MethodName)) ∈ am_tbl := am_tbl_t (List.mem_append_right _ (List.mem_append_right _ (List.mem_append_right _ (List.mem_append_right _ (List.mem_append_right _ (List.mem_of_getElem? (l := tables_1_6) (i := 64) rfl)))))) rfl
theorem w_1265 : (Jvm.Cond.code ({ cls := "OverAndBackModel", name := "bestGoing", desc := "(II)I" } : Jvm.MethodName) prog_14_method_57_code (5 : Nat) (Option.some Jvm.ClassFile.FieldType.int)) ∈ am_tbl := am_tbl_t (List.mem_append_right _ (List.mem_append_right _ (List.mem_append_right _ (List.mem_append_right _ (List.mem_append_right _ (List.mem_of_getElem? (l := tables_1_6) (i := 65) rfl)))))) rfl
theorem w_1266 : (Jvm.Cond.methodLink "OverAndBackModel" (306 : Nat) ({ cls := "OverAndBackModel", name := "byGoing", desc := "(II)I" } : Jvm.MethodName)) ∈ am_tbl := am_tbl_t (List.mem_append_right _ (List.mem_append_right _ (List.mem_append_right _ (List.mem_append_right _ (List.mem_append_right _ (List.mem_of_getElem? (l := tables_1_6) (i := 66) rfl)))))) rfl
theorem w_1268 : (Jvm.Cond.instanceMethod ({ cls := "OverAndBackModel", name := "byGoing", desc := "(II)I" } : Jvm.MethodName)) ∈ am_tbl := am_tbl_t (List.mem_append_right _ (List.mem_append_right _ (List.mem_append_right _ (List.mem_append_right _ (List.mem_append_right _ (List.mem_of_getElem? (l := tables_1_6) (i := 68) rfl)))))) rfl
theorem w_1269 : (Jvm.Cond.code ({ cls := "OverAndBackModel", name := "byGoing", desc := "(II)I" } : Jvm.MethodName) prog_14_method_56_code (3 : Nat) (Option.some Jvm.ClassFile.FieldType.int)) ∈ am_tbl := am_tbl_t (List.mem_append_right _ (List.mem_append_right _ (List.mem_append_right _ (List.mem_append_right _ (List.mem_append_right _ (List.mem_of_getElem? (l := tables_1_6) (i := 69) rfl)))))) rfl
theorem w_1271 : (Jvm.Cond.instanceMethod ({ cls := "OverAndBackModel", name := "where", desc := "(II)I" } : Jvm.MethodName)) ∈ am_tbl := am_tbl_t (List.mem_append_right _ (List.mem_append_right _ (List.mem_append_right _ (List.mem_append_right _ (List.mem_append_right _ (List.mem_of_getElem? (l := tables_1_6) (i := 71) rfl)))))) rfl
theorem w_1272 : (Jvm.Cond.selects "OverAndBackModel" ({ cls := "OverAndBackModel", name := "where", desc := "(II)I" } : Jvm.MethodName) ({ cls := "OverAndBackModel", name := "where", desc := "(II)I" } : Jvm.MethodName)) ∈ am_tbl := am_tbl_t (List.mem_append_right _ (List.mem_append_right _ (List.mem_append_right _ (List.mem_append_right _ (List.mem_append_right _ (List.mem_of_getElem? (l := tables_1_6) (i := 72) rfl)))))) rfl
theorem w_1273 : (Jvm.Cond.code ({ cls := "OverAndBackModel", name := "where", desc := "(II)I" } : Jvm.MethodName) prog_14_method_46_code (3 : Nat) (Option.some Jvm.ClassFile.FieldType.int)) ∈ am_tbl := am_tbl_t (List.mem_append_right _ (List.mem_append_right _ (List.mem_append_right _ (List.mem_append_right _ (List.mem_append_right _ (List.mem_of_getElem? (l := tables_1_6) (i := 73) rfl)))))) rfl
theorem w_1275 : (Jvm.Cond.instanceMethod ({ cls := "OverAndBackModel", name := "begin", desc := "(I)I" } : Jvm.MethodName)) ∈ am_tbl := am_tbl_t (List.mem_append_right _ (List.mem_append_right _ (List.mem_append_right _ (List.mem_append_right _ (List.mem_append_right _ (List.mem_of_getElem? (l := tables_1_6) (i := 75) rfl)))))) rfl
theorem w_1276 : (Jvm.Cond.selects "OverAndBackModel" ({ cls := "OverAndBackModel", name := "begin", desc := "(I)I" } : Jvm.MethodName) ({ cls := "OverAndBackModel", name := "begin", desc := "(I)I" } : Jvm.MethodName)) ∈ am_tbl := am_tbl_t (List.mem_append_right _ (List.mem_append_right _ (List.mem_append_right _ (List.mem_append_right _ (List.mem_append_right _ (List.mem_of_getElem? (l := tables_1_6) (i := 76) rfl)))))) rfl
theorem w_1277 : (Jvm.Cond.code ({ cls := "OverAndBackModel", name := "begin", desc := "(I)I" } : Jvm.MethodName) prog_14_method_48_code (3 : Nat) (Option.some Jvm.ClassFile.FieldType.int)) ∈ am_tbl := am_tbl_t (List.mem_append_right _ (List.mem_append_right _ (List.mem_append_right _ (List.mem_append_right _ (List.mem_append_right _ (List.mem_of_getElem? (l := tables_1_6) (i := 77) rfl)))))) rfl
theorem w_1278 : (Jvm.Cond.methodLink "OverAndBackModel" (294 : Nat) ({ cls := "OverAndBackModel", name := "remembers", desc := "(I)V" } : Jvm.MethodName)) ∈ am_tbl := am_tbl_t (List.mem_append_right _ (List.mem_append_right _ (List.mem_append_right _ (List.mem_append_right _ (List.mem_append_right _ (List.mem_of_getElem? (l := tables_1_6) (i := 78) rfl)))))) rfl
theorem w_1280 : (Jvm.Cond.instanceMethod ({ cls := "OverAndBackModel", name := "remembers", desc := "(I)V" } : Jvm.MethodName)) ∈ am_tbl := am_tbl_t (List.mem_append_right _ (List.mem_append_right _ (List.mem_append_right _ (List.mem_append_right _ (List.mem_append_right _ (List.mem_of_getElem? (l := tables_1_6) (i := 80) rfl)))))) rfl
theorem w_1281 : (Jvm.Cond.code ({ cls := "OverAndBackModel", name := "remembers", desc := "(I)V" } : Jvm.MethodName) prog_14_method_47_code (3 : Nat) (Option.none : Option Jvm.ClassFile.FieldType)) ∈ am_tbl := am_tbl_t (List.mem_append_right _ (List.mem_append_right _ (List.mem_append_right _ (List.mem_append_right _ (List.mem_append_right _ (List.mem_of_getElem? (l := tables_1_6) (i := 81) rfl)))))) rfl
theorem w_1283 : (Jvm.Cond.instanceMethod ({ cls := "OverAndBackModel", name := "over", desc := "(II)I" } : Jvm.MethodName)) ∈ am_tbl := am_tbl_t (List.mem_append_right _ (List.mem_append_right _ (List.mem_append_right _ (List.mem_append_right _ (List.mem_append_right _ (List.mem_of_getElem? (l := tables_1_6) (i := 83) rfl)))))) rfl
theorem w_1284 : (Jvm.Cond.selects "OverAndBackModel" ({ cls := "OverAndBackModel", name := "over", desc := "(II)I" } : Jvm.MethodName) ({ cls := "OverAndBackModel", name := "over", desc := "(II)I" } : Jvm.MethodName)) ∈ am_tbl := am_tbl_t (List.mem_append_right _ (List.mem_append_right _ (List.mem_append_right _ (List.mem_append_right _ (List.mem_append_right _ (List.mem_of_getElem? (l := tables_1_6) (i := 84) rfl)))))) rfl
theorem w_1285 : (Jvm.Cond.code ({ cls := "OverAndBackModel", name := "over", desc := "(II)I" } : Jvm.MethodName) prog_14_method_49_code (3 : Nat) (Option.some Jvm.ClassFile.FieldType.int)) ∈ am_tbl := am_tbl_t (List.mem_append_right _ (List.mem_append_right _ (List.mem_append_right _ (List.mem_append_right _ (List.mem_append_right _ (List.mem_of_getElem? (l := tables_1_6) (i := 85) rfl)))))) rfl
theorem w_1287 : (Jvm.Cond.instanceMethod ({ cls := "OverAndBackModel", name := "undo", desc := "()I" } : Jvm.MethodName)) ∈ am_tbl := am_tbl_t (List.mem_append_right _ (List.mem_append_right _ (List.mem_append_right _ (List.mem_append_right _ (List.mem_append_right _ (List.mem_of_getElem? (l := tables_1_6) (i := 87) rfl)))))) rfl
theorem w_1288 : (Jvm.Cond.selects "OverAndBackModel" ({ cls := "OverAndBackModel", name := "undo", desc := "()I" } : Jvm.MethodName) ({ cls := "OverAndBackModel", name := "undo", desc := "()I" } : Jvm.MethodName)) ∈ am_tbl := am_tbl_t (List.mem_append_right _ (List.mem_append_right _ (List.mem_append_right _ (List.mem_append_right _ (List.mem_append_right _ (List.mem_of_getElem? (l := tables_1_6) (i := 88) rfl)))))) rfl
theorem w_1289 : (Jvm.Cond.code ({ cls := "OverAndBackModel", name := "undo", desc := "()I" } : Jvm.MethodName) prog_14_method_50_code (1 : Nat) (Option.some Jvm.ClassFile.FieldType.int)) ∈ am_tbl := am_tbl_t (List.mem_append_right _ (List.mem_append_right _ (List.mem_append_right _ (List.mem_append_right _ (List.mem_append_right _ (List.mem_of_getElem? (l := tables_1_6) (i := 89) rfl)))))) rfl
theorem w_1291 : (Jvm.Cond.instanceMethod ({ cls := "OverAndBackModel", name := "judge", desc := "()I" } : Jvm.MethodName)) ∈ am_tbl := am_tbl_t (List.mem_append_right _ (List.mem_append_right _ (List.mem_append_right _ (List.mem_append_right _ (List.mem_append_right _ (List.mem_of_getElem? (l := tables_1_6) (i := 91) rfl)))))) rfl
theorem w_1292 : (Jvm.Cond.selects "OverAndBackModel" ({ cls := "OverAndBackModel", name := "judge", desc := "()I" } : Jvm.MethodName) ({ cls := "OverAndBackModel", name := "judge", desc := "()I" } : Jvm.MethodName)) ∈ am_tbl := am_tbl_t (List.mem_append_right _ (List.mem_append_right _ (List.mem_append_right _ (List.mem_append_right _ (List.mem_append_right _ (List.mem_of_getElem? (l := tables_1_6) (i := 92) rfl)))))) rfl
theorem w_1293 : (Jvm.Cond.code ({ cls := "OverAndBackModel", name := "judge", desc := "()I" } : Jvm.MethodName) prog_14_method_53_code (1 : Nat) (Option.some Jvm.ClassFile.FieldType.int)) ∈ am_tbl := am_tbl_t (List.mem_append_right _ (List.mem_append_right _ (List.mem_append_right _ (List.mem_append_right _ (List.mem_append_right _ (List.mem_of_getElem? (l := tables_1_6) (i := 93) rfl)))))) rfl
theorem w_1294 : (Jvm.Cond.methodLink "OverAndBackModel" (300 : Nat) ({ cls := "OverAndBackModel", name := "layPlan", desc := "()V" } : Jvm.MethodName)) ∈ am_tbl := am_tbl_t (List.mem_append_right _ (List.mem_append_right _ (List.mem_append_right _ (List.mem_append_right _ (List.mem_append_right _ (List.mem_of_getElem? (l := tables_1_6) (i := 94) rfl)))))) rfl
theorem w_1296 : (Jvm.Cond.instanceMethod ({ cls := "OverAndBackModel", name := "layPlan", desc := "()V" } : Jvm.MethodName)) ∈ am_tbl := am_tbl_t (List.mem_append_right _ (List.mem_append_right _ (List.mem_append_right _ (List.mem_append_right _ (List.mem_append_right _ (List.mem_of_getElem? (l := tables_1_6) (i := 96) rfl)))))) rfl
theorem w_1297 : (Jvm.Cond.code ({ cls := "OverAndBackModel", name := "layPlan", desc := "()V" } : Jvm.MethodName) prog_14_method_51_code (6 : Nat) (Option.none : Option Jvm.ClassFile.FieldType)) ∈ am_tbl := am_tbl_t (List.mem_append_right _ (List.mem_append_right _ (List.mem_append_right _ (List.mem_append_right _ (List.mem_append_right _ (List.mem_of_getElem? (l := tables_1_6) (i := 97) rfl)))))) rfl
theorem w_1299 : (Jvm.Cond.instanceMethod ({ cls := "OverAndBackModel", name := "plan", desc := "(I)I" } : Jvm.MethodName)) ∈ am_tbl := am_tbl_t (List.mem_append_right _ (List.mem_append_right _ (List.mem_append_right _ (List.mem_append_right _ (List.mem_append_right _ (List.mem_of_getElem? (l := tables_1_6) (i := 99) rfl)))))) rfl
theorem w_1300 : (Jvm.Cond.selects "OverAndBackModel" ({ cls := "OverAndBackModel", name := "plan", desc := "(I)I" } : Jvm.MethodName) ({ cls := "OverAndBackModel", name := "plan", desc := "(I)I" } : Jvm.MethodName)) ∈ am_tbl := am_tbl_t (List.mem_append_right _ (List.mem_append_right _ (List.mem_append_right _ (List.mem_append_right _ (List.mem_append_right _ (List.mem_of_getElem? (l := tables_1_6) (i := 100) rfl)))))) rfl
theorem w_1301 : (Jvm.Cond.code ({ cls := "OverAndBackModel", name := "plan", desc := "(I)I" } : Jvm.MethodName) prog_14_method_54_code (2 : Nat) (Option.some Jvm.ClassFile.FieldType.int)) ∈ am_tbl := am_tbl_t (List.mem_append_right _ (List.mem_append_right _ (List.mem_append_right _ (List.mem_append_right _ (List.mem_append_right _ (List.mem_of_getElem? (l := tables_1_6) (i := 101) rfl)))))) rfl
theorem w_1302 : (Jvm.Cond.methodLink "OverAndBackModel" (303 : Nat) ({ cls := "OverAndBackModel", name := "plans", desc := "()V" } : Jvm.MethodName)) ∈ am_tbl := am_tbl_t (List.mem_append_right _ (List.mem_append_right _ (List.mem_append_right _ (List.mem_append_right _ (List.mem_append_right _ (List.mem_of_getElem? (l := tables_1_6) (i := 102) rfl)))))) rfl
theorem w_1304 : (Jvm.Cond.instanceMethod ({ cls := "OverAndBackModel", name := "plans", desc := "()V" } : Jvm.MethodName)) ∈ am_tbl := am_tbl_t (List.mem_append_right _ (List.mem_append_right _ (List.mem_append_right _ (List.mem_append_right _ (List.mem_append_right _ (List.mem_of_getElem? (l := tables_1_6) (i := 104) rfl)))))) rfl
theorem w_1305 : (Jvm.Cond.code ({ cls := "OverAndBackModel", name := "plans", desc := "()V" } : Jvm.MethodName) prog_14_method_52_code (4 : Nat) (Option.none : Option Jvm.ClassFile.FieldType)) ∈ am_tbl := am_tbl_t (List.mem_append_right _ (List.mem_append_right _ (List.mem_append_right _ (List.mem_append_right _ (List.mem_append_right _ (List.mem_of_getElem? (l := tables_1_6) (i := 105) rfl)))))) rfl
theorem w_1307 : (Jvm.Cond.instanceMethod ({ cls := "OverAndBackModel", name := "at", desc := "(I)I" } : Jvm.MethodName)) ∈ am_tbl := am_tbl_t (List.mem_append_right _ (List.mem_append_right _ (List.mem_append_right _ (List.mem_append_right _ (List.mem_append_right _ (List.mem_of_getElem? (l := tables_1_6) (i := 107) rfl)))))) rfl
theorem w_1308 : (Jvm.Cond.selects "OverAndBackModel" ({ cls := "OverAndBackModel", name := "at", desc := "(I)I" } : Jvm.MethodName) ({ cls := "OverAndBackModel", name := "at", desc := "(I)I" } : Jvm.MethodName)) ∈ am_tbl := am_tbl_t (List.mem_append_right _ (List.mem_append_right _ (List.mem_append_right _ (List.mem_append_right _ (List.mem_append_right _ (List.mem_of_getElem? (l := tables_1_6) (i := 108) rfl)))))) rfl
theorem w_1309 : (Jvm.Cond.code ({ cls := "OverAndBackModel", name := "at", desc := "(I)I" } : Jvm.MethodName) prog_14_method_55_code (2 : Nat) (Option.some Jvm.ClassFile.FieldType.int)) ∈ am_tbl := am_tbl_t (List.mem_append_right _ (List.mem_append_right _ (List.mem_append_right _ (List.mem_append_right _ (List.mem_append_right _ (List.mem_of_getElem? (l := tables_1_6) (i := 109) rfl)))))) rfl
theorem w_1311 : (Jvm.Cond.instanceMethod ({ cls := "OverAndBackModel", name := "most", desc := "(III)I" } : Jvm.MethodName)) ∈ am_tbl := am_tbl_t (List.mem_append_right _ (List.mem_append_right _ (List.mem_append_right _ (List.mem_append_right _ (List.mem_append_right _ (List.mem_of_getElem? (l := tables_1_6) (i := 111) rfl)))))) rfl
theorem w_1312 : (Jvm.Cond.selects "OverAndBackModel" ({ cls := "OverAndBackModel", name := "most", desc := "(III)I" } : Jvm.MethodName) ({ cls := "OverAndBackModel", name := "most", desc := "(III)I" } : Jvm.MethodName)) ∈ am_tbl := am_tbl_t (List.mem_append_right _ (List.mem_append_right _ (List.mem_append_right _ (List.mem_append_right _ (List.mem_append_right _ (List.mem_of_getElem? (l := tables_1_6) (i := 112) rfl)))))) rfl
theorem w_1313 : (Jvm.Cond.code ({ cls := "OverAndBackModel", name := "most", desc := "(III)I" } : Jvm.MethodName) prog_14_method_59_code (9 : Nat) (Option.some Jvm.ClassFile.FieldType.int)) ∈ am_tbl := am_tbl_t (List.mem_append_right _ (List.mem_append_right _ (List.mem_append_right _ (List.mem_append_right _ (List.mem_append_right _ (List.mem_of_getElem? (l := tables_1_6) (i := 113) rfl)))))) rfl
theorem w_1315 : (Jvm.Cond.instanceMethod ({ cls := "OverAndBackModel", name := "understand", desc := "(III)I" } : Jvm.MethodName)) ∈ am_tbl := am_tbl_t (List.mem_append_right _ (List.mem_append_right _ (List.mem_append_right _ (List.mem_append_right _ (List.mem_append_right _ (List.mem_of_getElem? (l := tables_1_6) (i := 115) rfl)))))) rfl
theorem w_1316 : (Jvm.Cond.selects "OverAndBackModel" ({ cls := "OverAndBackModel", name := "understand", desc := "(III)I" } : Jvm.MethodName) ({ cls := "OverAndBackModel", name := "understand", desc := "(III)I" } : Jvm.MethodName)) ∈ am_tbl := am_tbl_t (List.mem_append_right _ (List.mem_append_right _ (List.mem_append_right _ (List.mem_append_right _ (List.mem_append_right _ (List.mem_of_getElem? (l := tables_1_6) (i := 116) rfl)))))) rfl
theorem w_1317 : (Jvm.Cond.code ({ cls := "OverAndBackModel", name := "understand", desc := "(III)I" } : Jvm.MethodName) prog_14_method_64_code (4 : Nat) (Option.some Jvm.ClassFile.FieldType.int)) ∈ am_tbl := am_tbl_t (List.mem_append_right _ (List.mem_append_right _ (List.mem_append_right _ (List.mem_append_right _ (List.mem_append_right _ (List.mem_of_getElem? (l := tables_1_6) (i := 117) rfl)))))) rfl
theorem w_1318 : (Jvm.Cond.methodLink "OverAndBackModel" (328 : Nat) ({ cls := "OverAndBackModel", name := "layFew", desc := "(I)V" } : Jvm.MethodName)) ∈ am_tbl := am_tbl_t (List.mem_append_right _ (List.mem_append_right _ (List.mem_append_right _ (List.mem_append_right _ (List.mem_append_right _ (List.mem_of_getElem? (l := tables_1_6) (i := 118) rfl)))))) rfl
theorem w_1320 : (Jvm.Cond.instanceMethod ({ cls := "OverAndBackModel", name := "layFew", desc := "(I)V" } : Jvm.MethodName)) ∈ am_tbl := am_tbl_t (List.mem_append_right _ (List.mem_append_right _ (List.mem_append_right _ (List.mem_append_right _ (List.mem_append_right _ (List.mem_of_getElem? (l := tables_1_6) (i := 120) rfl)))))) rfl
theorem w_1321 : (Jvm.Cond.code ({ cls := "OverAndBackModel", name := "layFew", desc := "(I)V" } : Jvm.MethodName) prog_14_method_62_code (8 : Nat) (Option.none : Option Jvm.ClassFile.FieldType)) ∈ am_tbl := am_tbl_t (List.mem_append_right _ (List.mem_append_right _ (List.mem_append_right _ (List.mem_append_right _ (List.mem_append_right _ (List.mem_of_getElem? (l := tables_1_6) (i := 121) rfl)))))) rfl
theorem w_1322 : (Jvm.Cond.methodLink "OverAndBackModel" (312 : Nat) ({ cls := "OverAndBackModel", name := "plus", desc := "(II)I" } : Jvm.MethodName)) ∈ am_tbl := am_tbl_t (List.mem_append_right _ (List.mem_append_right _ (List.mem_append_right _ (List.mem_append_right _ (List.mem_append_right _ (List.mem_of_getElem? (l := tables_1_6) (i := 122) rfl)))))) rfl
theorem w_1323 : (Jvm.Cond.static ({ cls := "OverAndBackModel", name := "plus", desc := "(II)I" } : Jvm.MethodName)) ∈ am_tbl := am_tbl_t (List.mem_append_right _ (List.mem_append_right _ (List.mem_append_right _ (List.mem_append_right _ (List.mem_append_right _ (List.mem_of_getElem? (l := tables_1_6) (i := 123) rfl)))))) rfl
theorem w_1324 : (Jvm.Cond.code ({ cls := "OverAndBackModel", name := "plus", desc := "(II)I" } : Jvm.MethodName) prog_14_method_61_code (2 : Nat) (Option.some Jvm.ClassFile.FieldType.int)) ∈ am_tbl := am_tbl_t (List.mem_append_right _ (List.mem_append_right _ (List.mem_append_right _ (List.mem_append_right _ (List.mem_append_right _ (List.mem_of_getElem? (l := tables_1_6) (i := 124) rfl)))))) rfl
theorem w_1325 : (Jvm.Cond.methodLink "OverAndBackModel" (315 : Nat) ({ cls := "OverAndBackModel", name := "comes", desc := "(IIII)V" } : Jvm.MethodName)) ∈ am_tbl := am_tbl_t (List.mem_append_right _ (List.mem_append_right _ (List.mem_append_right _ (List.mem_append_right _ (List.mem_append_right _ (List.mem_of_getElem? (l := tables_1_6) (i := 125) rfl)))))) rfl
theorem w_1327 : (Jvm.Cond.instanceMethod ({ cls := "OverAndBackModel", name := "comes", desc := "(IIII)V" } : Jvm.MethodName)) ∈ am_tbl := am_tbl_t (List.mem_append_right _ (List.mem_append_right _ (List.mem_append_right _ (List.mem_append_right _ (List.mem_append_right _ (List.mem_of_getElem? (l := tables_1_6) (i := 127) rfl)))))) rfl
theorem w_1328 : (Jvm.Cond.code ({ cls := "OverAndBackModel", name := "comes", desc := "(IIII)V" } : Jvm.MethodName) prog_14_method_60_code (6 : Nat) (Option.none : Option Jvm.ClassFile.FieldType)) ∈ am_tbl := am_tbl_t (List.mem_append_right _ (List.mem_append_right _ (List.mem_append_right _ (List.mem_append_right _ (List.mem_append_right _ (List.mem_of_getElem? (l := tables_1_6) (i := 128) rfl)))))) rfl
theorem w_1329 : (Jvm.Cond.methodLink "OverAndBackModel" (331 : Nat) ({ cls := "OverAndBackModel", name := "findFew", desc := "(I)V" } : Jvm.MethodName)) ∈ am_tbl := am_tbl_t (List.mem_append_right _ (List.mem_append_right _ (List.mem_append_right _ (List.mem_append_right _ (List.mem_append_right _ (List.mem_of_getElem? (l := tables_1_6) (i := 129) rfl)))))) rfl
theorem w_1331 : (Jvm.Cond.instanceMethod ({ cls := "OverAndBackModel", name := "findFew", desc := "(I)V" } : Jvm.MethodName)) ∈ am_tbl := am_tbl_t (List.mem_append_right _ (List.mem_append_right _ (List.mem_append_right _ (List.mem_append_right _ (List.mem_append_right _ (List.mem_of_getElem? (l := tables_1_6) (i := 131) rfl)))))) rfl
theorem w_1332 : (Jvm.Cond.code ({ cls := "OverAndBackModel", name := "findFew", desc := "(I)V" } : Jvm.MethodName) prog_14_method_63_code (3 : Nat) (Option.none : Option Jvm.ClassFile.FieldType)) ∈ am_tbl := am_tbl_t (List.mem_append_right _ (List.mem_append_right _ (List.mem_append_right _ (List.mem_append_right _ (List.mem_append_right _ (List.mem_of_getElem? (l := tables_1_6) (i := 132) rfl)))))) rfl
theorem w_1334 : (Jvm.Cond.instanceMethod ({ cls := "OverAndBackModel", name := "soonest", desc := "(II)I" } : Jvm.MethodName)) ∈ am_tbl := am_tbl_t (List.mem_append_right _ (List.mem_append_right _ (List.mem_append_right _ (List.mem_append_right _ (List.mem_append_right _ (List.mem_of_getElem? (l := tables_1_6) (i := 134) rfl)))))) rfl
theorem w_1335 : (Jvm.Cond.selects "OverAndBackModel" ({ cls := "OverAndBackModel", name := "soonest", desc := "(II)I" } : Jvm.MethodName) ({ cls := "OverAndBackModel", name := "soonest", desc := "(II)I" } : Jvm.MethodName)) ∈ am_tbl := am_tbl_t (List.mem_append_right _ (List.mem_append_right _ (List.mem_append_right _ (List.mem_append_right _ (List.mem_append_right _ (List.mem_of_getElem? (l := tables_1_6) (i := 135) rfl)))))) rfl
theorem w_1336 : (Jvm.Cond.code ({ cls := "OverAndBackModel", name := "soonest", desc := "(II)I" } : Jvm.MethodName) prog_14_method_65_code (3 : Nat) (Option.some Jvm.ClassFile.FieldType.int)) ∈ am_tbl := am_tbl_t (List.mem_append_right _ (List.mem_append_right _ (List.mem_append_right _ (List.mem_append_right _ (List.mem_append_right _ (List.mem_of_getElem? (l := tables_1_6) (i := 136) rfl)))))) rfl
theorem w_1338 : (Jvm.Cond.instanceMethod ({ cls := "OverAndBackModel", name := "ask", desc := "(II)I" } : Jvm.MethodName)) ∈ am_tbl := am_tbl_t (List.mem_append_right _ (List.mem_append_right _ (List.mem_append_right _ (List.mem_append_right _ (List.mem_append_right _ (List.mem_of_getElem? (l := tables_1_6) (i := 138) rfl)))))) rfl
theorem w_1339 : (Jvm.Cond.selects "OverAndBackModel" ({ cls := "OverAndBackModel", name := "ask", desc := "(II)I" } : Jvm.MethodName) ({ cls := "OverAndBackModel", name := "ask", desc := "(II)I" } : Jvm.MethodName)) ∈ am_tbl := am_tbl_t (List.mem_append_right _ (List.mem_append_right _ (List.mem_append_right _ (List.mem_append_right _ (List.mem_append_right _ (List.mem_of_getElem? (l := tables_1_6) (i := 139) rfl)))))) rfl
theorem w_1340 : (Jvm.Cond.code ({ cls := "OverAndBackModel", name := "ask", desc := "(II)I" } : Jvm.MethodName) prog_14_method_66_code (7 : Nat) (Option.some Jvm.ClassFile.FieldType.int)) ∈ am_tbl := am_tbl_t (List.mem_append_right _ (List.mem_append_right _ (List.mem_append_right _ (List.mem_append_right _ (List.mem_append_right _ (List.mem_of_getElem? (l := tables_1_6) (i := 140) rfl)))))) rfl
theorem w_1341 : (Jvm.Cond.methodLink "OverAndBackModel" (334 : Nat) ({ cls := "OverAndBackModel", name := "bits", desc := "(I)I" } : Jvm.MethodName)) ∈ am_tbl := am_tbl_t (List.mem_append_right _ (List.mem_append_right _ (List.mem_append_right _ (List.mem_append_right _ (List.mem_append_right _ (List.mem_of_getElem? (l := tables_1_6) (i := 141) rfl)))))) rfl
theorem w_1342 : (Jvm.Cond.static ({ cls := "OverAndBackModel", name := "bits", desc := "(I)I" } : Jvm.MethodName)) ∈ am_tbl := am_tbl_t (List.mem_append_right _ (List.mem_append_right _ (List.mem_append_right _ (List.mem_append_right _ (List.mem_append_right _ (List.mem_of_getElem? (l := tables_1_6) (i := 142) rfl)))))) rfl
theorem w_1343 : (Jvm.Cond.code ({ cls := "OverAndBackModel", name := "bits", desc := "(I)I" } : Jvm.MethodName) prog_14_method_6_code (3 : Nat) (Option.some Jvm.ClassFile.FieldType.int)) ∈ am_tbl := am_tbl_t (List.mem_append_right _ (List.mem_append_right _ (List.mem_append_right _ (List.mem_append_right _ (List.mem_append_right _ (List.mem_of_getElem? (l := tables_1_6) (i := 143) rfl)))))) rfl
theorem w_1345 : (Jvm.Cond.instanceMethod ({ cls := "OverAndBackModel", name := "fair", desc := "(II)I" } : Jvm.MethodName)) ∈ am_tbl := am_tbl_t (List.mem_append_right _ (List.mem_append_right _ (List.mem_append_right _ (List.mem_append_right _ (List.mem_append_right _ (List.mem_of_getElem? (l := tables_1_6) (i := 145) rfl)))))) rfl
theorem w_1346 : (Jvm.Cond.selects "OverAndBackModel" ({ cls := "OverAndBackModel", name := "fair", desc := "(II)I" } : Jvm.MethodName) ({ cls := "OverAndBackModel", name := "fair", desc := "(II)I" } : Jvm.MethodName)) ∈ am_tbl := am_tbl_t (List.mem_append_right _ (List.mem_append_right _ (List.mem_append_right _ (List.mem_append_right _ (List.mem_append_right _ (List.mem_of_getElem? (l := tables_1_6) (i := 146) rfl)))))) rfl
theorem w_1347 : (Jvm.Cond.code ({ cls := "OverAndBackModel", name := "fair", desc := "(II)I" } : Jvm.MethodName) prog_14_method_71_code (8 : Nat) (Option.some Jvm.ClassFile.FieldType.int)) ∈ am_tbl := am_tbl_t (List.mem_append_right _ (List.mem_append_right _ (List.mem_append_right _ (List.mem_append_right _ (List.mem_append_right _ (List.mem_of_getElem? (l := tables_1_6) (i := 147) rfl)))))) rfl
theorem w_1348 : (Jvm.Cond.methodLink "OverAndBackModel" (337 : Nat) ({ cls := "OverAndBackModel", name := "turns", desc := "()I" } : Jvm.MethodName)) ∈ am_tbl := am_tbl_t (List.mem_append_right _ (List.mem_append_right _ (List.mem_append_right _ (List.mem_append_right _ (List.mem_append_right _ (List.mem_of_getElem? (l := tables_1_6) (i := 148) rfl)))))) rfl
theorem w_1350 : (Jvm.Cond.instanceMethod ({ cls := "OverAndBackModel", name := "turns", desc := "()I" } : Jvm.MethodName)) ∈ am_tbl := am_tbl_t (List.mem_append_right _ (List.mem_append_right _ (List.mem_append_right _ (List.mem_append_right _ (List.mem_append_right _ (List.mem_of_getElem? (l := tables_1_6) (i := 150) rfl)))))) rfl
theorem w_1351 : (Jvm.Cond.code ({ cls := "OverAndBackModel", name := "turns", desc := "()I" } : Jvm.MethodName) prog_14_method_67_code (1 : Nat) (Option.some Jvm.ClassFile.FieldType.int)) ∈ am_tbl := am_tbl_t (List.mem_append_right _ (List.mem_append_right _ (List.mem_append_right _ (List.mem_append_right _ (List.mem_append_right _ (List.mem_of_getElem? (l := tables_1_6) (i := 151) rfl)))))) rfl
theorem w_1352 : (Jvm.Cond.methodLink "OverAndBackModel" (343 : Nat) ({ cls := "OverAndBackModel", name := "holds", desc := "(I)V" } : Jvm.MethodName)) ∈ am_tbl := am_tbl_t (List.mem_append_right _ (List.mem_append_right _ (List.mem_append_right _ (List.mem_append_right _ (List.mem_append_right _ (List.mem_of_getElem? (l := tables_1_6) (i := 152) rfl)))))) rfl
theorem w_1354 : (Jvm.Cond.instanceMethod ({ cls := "OverAndBackModel", name := "holds", desc := "(I)V" } : Jvm.MethodName)) ∈ am_tbl := am_tbl_t (List.mem_append_right _ (List.mem_append_right _ (List.mem_append_right _ (List.mem_append_right _ (List.mem_append_right _ (List.mem_of_getElem? (l := tables_1_6) (i := 154) rfl)))))) rfl
theorem w_1355 : (Jvm.Cond.code ({ cls := "OverAndBackModel", name := "holds", desc := "(I)V" } : Jvm.MethodName) prog_14_method_69_code (4 : Nat) (Option.none : Option Jvm.ClassFile.FieldType)) ∈ am_tbl := am_tbl_t (List.mem_append_right _ (List.mem_append_right _ (List.mem_append_right _ (List.mem_append_right _ (List.mem_append_right _ (List.mem_of_getElem? (l := tables_1_6) (i := 155) rfl)))))) rfl
theorem w_1356 : (Jvm.Cond.methodLink "OverAndBackModel" (340 : Nat) ({ cls := "OverAndBackModel", name := "shows", desc := "()V" } : Jvm.MethodName)) ∈ am_tbl := am_tbl_t (List.mem_append_right _ (List.mem_append_right _ (List.mem_append_right _ (List.mem_append_right _ (List.mem_append_right _ (List.mem_of_getElem? (l := tables_1_6) (i := 156) rfl)))))) rfl
theorem w_1358 : (Jvm.Cond.instanceMethod ({ cls := "OverAndBackModel", name := "shows", desc := "()V" } : Jvm.MethodName)) ∈ am_tbl := am_tbl_t (List.mem_append_right _ (List.mem_append_right _ (List.mem_append_right _ (List.mem_append_right _ (List.mem_append_right _ (List.mem_of_getElem? (l := tables_1_6) (i := 158) rfl)))))) rfl
theorem w_1359 : (Jvm.Cond.code ({ cls := "OverAndBackModel", name := "shows", desc := "()V" } : Jvm.MethodName) prog_14_method_68_code (6 : Nat) (Option.none : Option Jvm.ClassFile.FieldType)) ∈ am_tbl := am_tbl_t (List.mem_append_right _ (List.mem_append_right _ (List.mem_append_right _ (List.mem_append_right _ (List.mem_append_right _ (List.mem_of_getElem? (l := tables_1_6) (i := 159) rfl)))))) rfl
theorem w_1360 : (Jvm.Cond.methodLink "OverAndBackModel" (346 : Nat) ({ cls := "OverAndBackModel", name := "leastOf", desc := "()I" } : Jvm.MethodName)) ∈ am_tbl := am_tbl_t (List.mem_append_right _ (List.mem_append_right _ (List.mem_append_right _ (List.mem_append_right _ (List.mem_append_right _ (List.mem_of_getElem? (l := tables_1_6) (i := 160) rfl)))))) rfl
theorem w_1362 : (Jvm.Cond.instanceMethod ({ cls := "OverAndBackModel", name := "leastOf", desc := "()I" } : Jvm.MethodName)) ∈ am_tbl := am_tbl_t (List.mem_append_right _ (List.mem_append_right _ (List.mem_append_right _ (List.mem_append_right _ (List.mem_append_right _ (List.mem_of_getElem? (l := tables_1_6) (i := 162) rfl)))))) rfl
theorem w_1363 : (Jvm.Cond.code ({ cls := "OverAndBackModel", name := "leastOf", desc := "()I" } : Jvm.MethodName) prog_14_method_70_code (4 : Nat) (Option.some Jvm.ClassFile.FieldType.int)) ∈ am_tbl := am_tbl_t (List.mem_append_right _ (List.mem_append_right _ (List.mem_append_right _ (List.mem_append_right _ (List.mem_append_right _ (List.mem_of_getElem? (l := tables_1_6) (i := 163) rfl)))))) rfl
theorem w_1365 : (Jvm.Cond.instanceMethod ({ cls := "OverAndBackModel", name := "mean", desc := "(II)I" } : Jvm.MethodName)) ∈ am_tbl := am_tbl_t (List.mem_append_right _ (List.mem_append_right _ (List.mem_append_right _ (List.mem_append_right _ (List.mem_append_right _ (List.mem_of_getElem? (l := tables_1_6) (i := 165) rfl)))))) rfl
theorem w_1366 : (Jvm.Cond.selects "OverAndBackModel" ({ cls := "OverAndBackModel", name := "mean", desc := "(II)I" } : Jvm.MethodName) ({ cls := "OverAndBackModel", name := "mean", desc := "(II)I" } : Jvm.MethodName)) ∈ am_tbl := am_tbl_t (List.mem_append_right _ (List.mem_append_right _ (List.mem_append_right _ (List.mem_append_right _ (List.mem_append_right _ (List.mem_of_getElem? (l := tables_1_6) (i := 166) rfl)))))) rfl
theorem w_1367 : (Jvm.Cond.code ({ cls := "OverAndBackModel", name := "mean", desc := "(II)I" } : Jvm.MethodName) prog_14_method_74_code (8 : Nat) (Option.some Jvm.ClassFile.FieldType.int)) ∈ am_tbl := am_tbl_t (List.mem_append_right _ (List.mem_append_right _ (List.mem_append_right _ (List.mem_append_right _ (List.mem_append_right _ (List.mem_of_getElem? (l := tables_1_6) (i := 167) rfl)))))) rfl
theorem w_1368 : (Jvm.Cond.methodLink "OverAndBackModel" (349 : Nat) ({ cls := "OverAndBackModel", name := "goesOn", desc := "(I)V" } : Jvm.MethodName)) ∈ am_tbl := am_tbl_t (List.mem_append_right _ (List.mem_append_right _ (List.mem_append_right _ (List.mem_append_right _ (List.mem_append_right _ (List.mem_of_getElem? (l := tables_1_6) (i := 168) rfl)))))) rfl
theorem w_1370 : (Jvm.Cond.instanceMethod ({ cls := "OverAndBackModel", name := "goesOn", desc := "(I)V" } : Jvm.MethodName)) ∈ am_tbl := am_tbl_t (List.mem_append_right _ (List.mem_append_right _ (List.mem_append_right _ (List.mem_append_right _ (List.mem_append_right _ (List.mem_of_getElem? (l := tables_1_6) (i := 170) rfl)))))) rfl
theorem w_1371 : (Jvm.Cond.code ({ cls := "OverAndBackModel", name := "goesOn", desc := "(I)V" } : Jvm.MethodName) prog_14_method_73_code (2 : Nat) (Option.none : Option Jvm.ClassFile.FieldType)) ∈ am_tbl := am_tbl_t (List.mem_append_right _ (List.mem_append_right _ (List.mem_append_right _ (List.mem_append_right _ (List.mem_append_right _ (List.mem_of_getElem? (l := tables_1_6) (i := 171) rfl)))))) rfl
theorem w_1372 : (Jvm.Cond.methodLink "OverAndBackModel" (352 : Nat) ({ cls := "OverAndBackModel", name := "weight", desc := "(I)I" } : Jvm.MethodName)) ∈ am_tbl := am_tbl_t (List.mem_append_right _ (List.mem_append_right _ (List.mem_append_right _ (List.mem_append_right _ (List.mem_append_right _ (List.mem_of_getElem? (l := tables_1_6) (i := 172) rfl)))))) rfl
theorem w_1374 : (Jvm.Cond.instanceMethod ({ cls := "OverAndBackModel", name := "weight", desc := "(I)I" } : Jvm.MethodName)) ∈ am_tbl := am_tbl_t (List.mem_append_right _ (List.mem_append_right _ (List.mem_append_right _ (List.mem_append_right _ (List.mem_append_right _ (List.mem_of_getElem? (l := tables_1_6) (i := 174) rfl)))))) rfl
theorem w_1375 : (Jvm.Cond.code ({ cls := "OverAndBackModel", name := "weight", desc := "(I)I" } : Jvm.MethodName) prog_14_method_72_code (4 : Nat) (Option.some Jvm.ClassFile.FieldType.int)) ∈ am_tbl := am_tbl_t (List.mem_append_right _ (List.mem_append_right _ (List.mem_append_right _ (List.mem_append_right _ (List.mem_append_right _ (List.mem_of_getElem? (l := tables_1_6) (i := 175) rfl)))))) rfl
theorem w_1377 : (Jvm.Cond.instanceMethod ({ cls := "OverAndBackModel", name := "sure", desc := "(I)I" } : Jvm.MethodName)) ∈ am_tbl := am_tbl_t (List.mem_append_right _ (List.mem_append_right _ (List.mem_append_right _ (List.mem_append_right _ (List.mem_append_right _ (List.mem_of_getElem? (l := tables_1_6) (i := 177) rfl)))))) rfl
theorem w_1378 : (Jvm.Cond.selects "OverAndBackModel" ({ cls := "OverAndBackModel", name := "sure", desc := "(I)I" } : Jvm.MethodName) ({ cls := "OverAndBackModel", name := "sure", desc := "(I)I" } : Jvm.MethodName)) ∈ am_tbl := am_tbl_t (List.mem_append_right _ (List.mem_append_right _ (List.mem_append_right _ (List.mem_append_right _ (List.mem_append_right _ (List.mem_of_getElem? (l := tables_1_6) (i := 178) rfl)))))) rfl
theorem w_1379 : (Jvm.Cond.code ({ cls := "OverAndBackModel", name := "sure", desc := "(I)I" } : Jvm.MethodName) prog_14_method_75_code (4 : Nat) (Option.some Jvm.ClassFile.FieldType.int)) ∈ am_tbl := am_tbl_t (List.mem_append_right _ (List.mem_append_right _ (List.mem_append_right _ (List.mem_append_right _ (List.mem_append_right _ (List.mem_of_getElem? (l := tables_1_6) (i := 179) rfl)))))) rfl
theorem w_1381 : (Jvm.Cond.instanceMethod ({ cls := "OverAndBackModel", name := "fits", desc := "(I)I" } : Jvm.MethodName)) ∈ am_tbl := am_tbl_t (List.mem_append_right _ (List.mem_append_right _ (List.mem_append_right _ (List.mem_append_right _ (List.mem_append_right _ (List.mem_of_getElem? (l := tables_1_6) (i := 181) rfl)))))) rfl
theorem w_1382 : (Jvm.Cond.selects "OverAndBackModel" ({ cls := "OverAndBackModel", name := "fits", desc := "(I)I" } : Jvm.MethodName) ({ cls := "OverAndBackModel", name := "fits", desc := "(I)I" } : Jvm.MethodName)) ∈ am_tbl := am_tbl_t (List.mem_append_right _ (List.mem_append_right _ (List.mem_append_right _ (List.mem_append_right _ (List.mem_append_right _ (List.mem_of_getElem? (l := tables_1_6) (i := 182) rfl)))))) rfl
theorem w_1383 : (Jvm.Cond.code ({ cls := "OverAndBackModel", name := "fits", desc := "(I)I" } : Jvm.MethodName) prog_14_method_76_code (5 : Nat) (Option.some Jvm.ClassFile.FieldType.int)) ∈ am_tbl := am_tbl_t (List.mem_append_right _ (List.mem_append_right _ (List.mem_append_right _ (List.mem_append_right _ (List.mem_append_right _ (List.mem_of_getElem? (l := tables_1_6) (i := 183) rfl)))))) rfl
theorem w_1385 : (Jvm.Cond.instanceMethod ({ cls := "OverAndBackModel", name := "matters", desc := "(I)I" } : Jvm.MethodName)) ∈ am_tbl := am_tbl_t (List.mem_append_right _ (List.mem_append_right _ (List.mem_append_right _ (List.mem_append_right _ (List.mem_append_right _ (List.mem_of_getElem? (l := tables_1_6) (i := 185) rfl)))))) rfl
theorem w_1386 : (Jvm.Cond.selects "OverAndBackModel" ({ cls := "OverAndBackModel", name := "matters", desc := "(I)I" } : Jvm.MethodName) ({ cls := "OverAndBackModel", name := "matters", desc := "(I)I" } : Jvm.MethodName)) ∈ am_tbl := am_tbl_t (List.mem_append_right _ (List.mem_append_right _ (List.mem_append_right _ (List.mem_append_right _ (List.mem_append_right _ (List.mem_of_getElem? (l := tables_1_6) (i := 186) rfl)))))) rfl
theorem w_1387 : (Jvm.Cond.code ({ cls := "OverAndBackModel", name := "matters", desc := "(I)I" } : Jvm.MethodName) prog_14_method_77_code (6 : Nat) (Option.some Jvm.ClassFile.FieldType.int)) ∈ am_tbl := am_tbl_t (List.mem_append_right _ (List.mem_append_right _ (List.mem_append_right _ (List.mem_append_right _ (List.mem_append_right _ (List.mem_of_getElem? (l := tables_1_6) (i := 187) rfl)))))) rfl
theorem w_1389 : (Jvm.Cond.instanceMethod ({ cls := "OverAndBackModel", name := "night", desc := "(III)I" } : Jvm.MethodName)) ∈ am_tbl := am_tbl_t (List.mem_append_right _ (List.mem_append_right _ (List.mem_append_right _ (List.mem_append_right _ (List.mem_append_right _ (List.mem_of_getElem? (l := tables_1_6) (i := 189) rfl)))))) rfl
theorem w_1390 : (Jvm.Cond.selects "OverAndBackModel" ({ cls := "OverAndBackModel", name := "night", desc := "(III)I" } : Jvm.MethodName) ({ cls := "OverAndBackModel", name := "night", desc := "(III)I" } : Jvm.MethodName)) ∈ am_tbl := am_tbl_t (List.mem_append_right _ (List.mem_append_right _ (List.mem_append_right _ (List.mem_append_right _ (List.mem_append_right _ (List.mem_of_getElem? (l := tables_1_6) (i := 190) rfl)))))) rfl
theorem w_1391 : (Jvm.Cond.code ({ cls := "OverAndBackModel", name := "night", desc := "(III)I" } : Jvm.MethodName) prog_14_method_78_code (4 : Nat) (Option.some Jvm.ClassFile.FieldType.int)) ∈ am_tbl := am_tbl_t (List.mem_append_right _ (List.mem_append_right _ (List.mem_append_right _ (List.mem_append_right _ (List.mem_append_right _ (List.mem_of_getElem? (l := tables_1_6) (i := 191) rfl)))))) rfl
theorem w_1392 : (Jvm.Cond.methodLink "OverAndBackModel" (355 : Nat) ({ cls := "OverAndBackModel", name := "layNight", desc := "(I)V" } : Jvm.MethodName)) ∈ am_tbl := am_tbl_t (List.mem_append_right _ (List.mem_append_right _ (List.mem_append_right _ (List.mem_append_right _ (List.mem_append_right _ (List.mem_of_getElem? (l := tables_1_6) (i := 192) rfl)))))) rfl
theorem w_1394 : (Jvm.Cond.instanceMethod ({ cls := "OverAndBackModel", name := "layNight", desc := "(I)V" } : Jvm.MethodName)) ∈ am_tbl := am_tbl_t (List.mem_append_right _ (List.mem_append_right _ (List.mem_append_right _ (List.mem_append_right _ (List.mem_append_right _ (List.mem_of_getElem? (l := tables_1_6) (i := 194) rfl)))))) rfl
theorem w_1395 : (Jvm.Cond.code ({ cls := "OverAndBackModel", name := "layNight", desc := "(I)V" } : Jvm.MethodName) prog_14_method_34_code (6 : Nat) (Option.none : Option Jvm.ClassFile.FieldType)) ∈ am_tbl := am_tbl_t (List.mem_append_right _ (List.mem_append_right _ (List.mem_append_right _ (List.mem_append_right _ (List.mem_append_right _ (List.mem_of_getElem? (l := tables_1_6) (i := 195) rfl)))))) rfl
theorem w_1396 : (Jvm.Cond.constantLong "OverAndBackModel" (230 : Nat) (7919 : Int64)) ∈ am_tbl := am_tbl_t (List.mem_append_right _ (List.mem_append_right _ (List.mem_append_right _ (List.mem_append_right _ (List.mem_append_right _ (List.mem_of_getElem? (l := tables_1_6) (i := 196) rfl)))))) rfl
theorem w_1397 : (Jvm.Cond.constantLong "OverAndBackModel" (232 : Nat) (6151 : Int64)) ∈ am_tbl := am_tbl_t (List.mem_append_right _ (List.mem_append_right _ (List.mem_append_right _ (List.mem_append_right _ (List.mem_append_right _ (List.mem_of_getElem? (l := tables_1_6) (i := 197) rfl)))))) rfl
theorem w_1398 : (Jvm.Cond.constantLong "OverAndBackModel" (234 : Nat) (3571 : Int64)) ∈ am_tbl := am_tbl_t (List.mem_append_right _ (List.mem_append_right _ (List.mem_append_right _ (List.mem_append_right _ (List.mem_append_right _ (List.mem_of_getElem? (l := tables_1_6) (i := 198) rfl)))))) rfl
theorem w_1399 : (Jvm.Cond.constantLong "OverAndBackModel" (236 : Nat) (65521 : Int64)) ∈ am_tbl := am_tbl_t (List.mem_append_right _ (List.mem_append_right _ (List.mem_append_right _ (List.mem_append_right _ (List.mem_append_right _ (List.mem_of_getElem? (l := tables_1_6) (i := 199) rfl)))))) rfl
theorem w_1400 : (Jvm.Cond.constantLong "OverAndBackModel" (238 : Nat) (4 : Int64)) ∈ am_tbl := am_tbl_t (List.mem_append_right _ (List.mem_append_right _ (List.mem_append_right _ (List.mem_append_right _ (List.mem_append_right _ (List.mem_of_getElem? (l := tables_1_6) (i := 200) rfl)))))) rfl
theorem w_1402 : (Jvm.Cond.instanceMethod ({ cls := "OverAndBackModel", name := "keep", desc := "()I" } : Jvm.MethodName)) ∈ am_tbl := am_tbl_t (List.mem_append_right _ (List.mem_append_right _ (List.mem_append_right _ (List.mem_append_right _ (List.mem_append_right _ (List.mem_of_getElem? (l := tables_1_6) (i := 202) rfl)))))) rfl
theorem w_1403 : (Jvm.Cond.selects "OverAndBackModel" ({ cls := "OverAndBackModel", name := "keep", desc := "()I" } : Jvm.MethodName) ({ cls := "OverAndBackModel", name := "keep", desc := "()I" } : Jvm.MethodName)) ∈ am_tbl := am_tbl_t (List.mem_append_right _ (List.mem_append_right _ (List.mem_append_right _ (List.mem_append_right _ (List.mem_append_right _ (List.mem_of_getElem? (l := tables_1_6) (i := 203) rfl)))))) rfl
theorem w_1404 : (Jvm.Cond.code ({ cls := "OverAndBackModel", name := "keep", desc := "()I" } : Jvm.MethodName) prog_14_method_79_code (2 : Nat) (Option.some Jvm.ClassFile.FieldType.int)) ∈ am_tbl := am_tbl_t (List.mem_append_right _ (List.mem_append_right _ (List.mem_append_right _ (List.mem_append_right _ (List.mem_append_right _ (List.mem_of_getElem? (l := tables_1_6) (i := 204) rfl)))))) rfl
theorem w_1406 : (Jvm.Cond.instanceMethod ({ cls := "OverAndBackModel", name := "back", desc := "()I" } : Jvm.MethodName)) ∈ am_tbl := am_tbl_t (List.mem_append_right _ (List.mem_append_right _ (List.mem_append_right _ (List.mem_append_right _ (List.mem_append_right _ (List.mem_of_getElem? (l := tables_1_6) (i := 206) rfl)))))) rfl
theorem w_1407 : (Jvm.Cond.selects "OverAndBackModel" ({ cls := "OverAndBackModel", name := "back", desc := "()I" } : Jvm.MethodName) ({ cls := "OverAndBackModel", name := "back", desc := "()I" } : Jvm.MethodName)) ∈ am_tbl := am_tbl_t (List.mem_append_right _ (List.mem_append_right _ (List.mem_append_right _ (List.mem_append_right _ (List.mem_append_right _ (List.mem_of_getElem? (l := tables_1_6) (i := 207) rfl)))))) rfl
theorem w_1408 : (Jvm.Cond.code ({ cls := "OverAndBackModel", name := "back", desc := "()I" } : Jvm.MethodName) prog_14_method_80_code (2 : Nat) (Option.some Jvm.ClassFile.FieldType.int)) ∈ am_tbl := am_tbl_t (List.mem_append_right _ (List.mem_append_right _ (List.mem_append_right _ (List.mem_append_right _ (List.mem_append_right _ (List.mem_of_getElem? (l := tables_1_6) (i := 208) rfl)))))) rfl
theorem w_1410 : (Jvm.Cond.instanceMethod ({ cls := "OverAndBackModel", name := "count", desc := "(I)I" } : Jvm.MethodName)) ∈ am_tbl := am_tbl_t (List.mem_append_right _ (List.mem_append_right _ (List.mem_append_right _ (List.mem_append_right _ (List.mem_append_right _ (List.mem_of_getElem? (l := tables_1_6) (i := 210) rfl)))))) rfl
theorem w_1411 : (Jvm.Cond.selects "OverAndBackModel" ({ cls := "OverAndBackModel", name := "count", desc := "(I)I" } : Jvm.MethodName) ({ cls := "OverAndBackModel", name := "count", desc := "(I)I" } : Jvm.MethodName)) ∈ am_tbl := am_tbl_t (List.mem_append_right _ (List.mem_append_right _ (List.mem_append_right _ (List.mem_append_right _ (List.mem_append_right _ (List.mem_of_getElem? (l := tables_1_6) (i := 211) rfl)))))) rfl
theorem w_1412 : (Jvm.Cond.code ({ cls := "OverAndBackModel", name := "count", desc := "(I)I" } : Jvm.MethodName) prog_14_method_81_code (2 : Nat) (Option.some Jvm.ClassFile.FieldType.int)) ∈ am_tbl := am_tbl_t (List.mem_append_right _ (List.mem_append_right _ (List.mem_append_right _ (List.mem_append_right _ (List.mem_append_right _ (List.mem_of_getElem? (l := tables_1_6) (i := 212) rfl)))))) rfl
theorem am_priv {q : MethodName × Nat} (h : q ∈ lw_privs) : Cond.selects q.1.cls q.1 q.1 ∈ am_tbl := am_tbl_s (List.mem_map.mpr ⟨q, h, rfl⟩) rfl
theorem ps_17 : Cond.selects "OverAndBack$Reader" ⟨"OverAndBack$Reader", "readNumbers", "([CII)I"⟩ ⟨"OverAndBack$Reader", "readNumbers", "([CII)I"⟩ ∈ am_tbl := am_priv (q := (⟨"OverAndBack$Reader", "readNumbers", "([CII)I"⟩, _)) (List.mem_append_left _ (List.mem_of_getElem? (l := lw_privs_1) (i := 0) rfl))
theorem ps_22 : Cond.selects "OverAndBack$Reader" ⟨"OverAndBack$Reader", "take", "(CLOverAndBack$Evening;)Z"⟩ ⟨"OverAndBack$Reader", "take", "(CLOverAndBack$Evening;)Z"⟩ ∈ am_tbl := am_priv (q := (⟨"OverAndBack$Reader", "take", "(CLOverAndBack$Evening;)Z"⟩, _)) (List.mem_append_left _ (List.mem_of_getElem? (l := lw_privs_1) (i := 1) rfl))
theorem ps_23 : Cond.selects "OverAndBack$Reader" ⟨"OverAndBack$Reader", "takeMinutes", "(LOverAndBack$Evening;)Z"⟩ ⟨"OverAndBack$Reader", "takeMinutes", "(LOverAndBack$Evening;)Z"⟩ ∈ am_tbl := am_priv (q := (⟨"OverAndBack$Reader", "takeMinutes", "(LOverAndBack$Evening;)Z"⟩, _)) (List.mem_append_left _ (List.mem_of_getElem? (l := lw_privs_1) (i := 2) rfl))
theorem ps_24 : Cond.selects "OverAndBack$Reader" ⟨"OverAndBack$Reader", "within", "(III)Z"⟩ ⟨"OverAndBack$Reader", "within", "(III)Z"⟩ ∈ am_tbl := am_priv (q := (⟨"OverAndBack$Reader", "within", "(III)Z"⟩, _)) (List.mem_append_left _ (List.mem_of_getElem? (l := lw_privs_1) (i := 3) rfl))
theorem ps_25 : Cond.selects "OverAndBack$Reader" ⟨"OverAndBack$Reader", "takeGoing", "(LOverAndBack$Evening;)Z"⟩ ⟨"OverAndBack$Reader", "takeGoing", "(LOverAndBack$Evening;)Z"⟩ ∈ am_tbl := am_priv (q := (⟨"OverAndBack$Reader", "takeGoing", "(LOverAndBack$Evening;)Z"⟩, _)) (List.mem_append_left _ (List.mem_of_getElem? (l := lw_privs_1) (i := 4) rfl))
theorem ps_27 : Cond.selects "OverAndBack$Reader" ⟨"OverAndBack$Reader", "isSpan", "(LOverAndBack$Evening;)Z"⟩ ⟨"OverAndBack$Reader", "isSpan", "(LOverAndBack$Evening;)Z"⟩ ∈ am_tbl := am_priv (q := (⟨"OverAndBack$Reader", "isSpan", "(LOverAndBack$Evening;)Z"⟩, _)) (List.mem_append_left _ (List.mem_of_getElem? (l := lw_privs_1) (i := 5) rfl))
theorem ps_28 : Cond.selects "OverAndBack" ⟨"OverAndBack", "takeEvening", "()V"⟩ ⟨"OverAndBack", "takeEvening", "()V"⟩ ∈ am_tbl := am_priv (q := (⟨"OverAndBack", "takeEvening", "()V"⟩, _)) (List.mem_append_left _ (List.mem_of_getElem? (l := lw_privs_1) (i := 6) rfl))
theorem ps_33 : Cond.selects "OverAndBack$Screen" ⟨"OverAndBack$Screen", "showStations", "(LOverAndBack$Rows;)V"⟩ ⟨"OverAndBack$Screen", "showStations", "(LOverAndBack$Rows;)V"⟩ ∈ am_tbl := am_priv (q := (⟨"OverAndBack$Screen", "showStations", "(LOverAndBack$Rows;)V"⟩, _)) (List.mem_append_left _ (List.mem_of_getElem? (l := lw_privs_1) (i := 7) rfl))
theorem ps_34 : Cond.selects "OverAndBack$Screen" ⟨"OverAndBack$Screen", "put", "(IIIII)V"⟩ ⟨"OverAndBack$Screen", "put", "(IIIII)V"⟩ ∈ am_tbl := am_priv (q := (⟨"OverAndBack$Screen", "put", "(IIIII)V"⟩, _)) (List.mem_append_left _ (List.mem_of_getElem? (l := lw_privs_1) (i := 8) rfl))
theorem ps_36 : Cond.selects "OverAndBack$Screen" ⟨"OverAndBack$Screen", "showScenes", "(LOverAndBack$Rows;I)V"⟩ ⟨"OverAndBack$Screen", "showScenes", "(LOverAndBack$Rows;I)V"⟩ ∈ am_tbl := am_priv (q := (⟨"OverAndBack$Screen", "showScenes", "(LOverAndBack$Rows;I)V"⟩, _)) (List.mem_append_left _ (List.mem_of_getElem? (l := lw_privs_1) (i := 9) rfl))
theorem ps_37 : Cond.selects "OverAndBack$Screen" ⟨"OverAndBack$Screen", "showScene", "(LOverAndBack$Rows;I)V"⟩ ⟨"OverAndBack$Screen", "showScene", "(LOverAndBack$Rows;I)V"⟩ ∈ am_tbl := am_priv (q := (⟨"OverAndBack$Screen", "showScene", "(LOverAndBack$Rows;I)V"⟩, _)) (List.mem_append_left _ (List.mem_of_getElem? (l := lw_privs_1) (i := 10) rfl))
theorem ps_38 : Cond.selects "OverAndBack$Screen" ⟨"OverAndBack$Screen", "showBreak", "(LOverAndBack$Rows;I)V"⟩ ⟨"OverAndBack$Screen", "showBreak", "(LOverAndBack$Rows;I)V"⟩ ∈ am_tbl := am_priv (q := (⟨"OverAndBack$Screen", "showBreak", "(LOverAndBack$Rows;I)V"⟩, _)) (List.mem_append_left _ (List.mem_of_getElem? (l := lw_privs_1) (i := 11) rfl))
theorem ps_40 : Cond.selects "OverAndBack$Routes" ⟨"OverAndBack$Routes", "greatestAt", "(LOverAndBack$Evening;LOverAndBack$Screen;II)I"⟩ ⟨"OverAndBack$Routes", "greatestAt", "(LOverAndBack$Evening;LOverAndBack$Screen;II)I"⟩ ∈ am_tbl := am_priv (q := (⟨"OverAndBack$Routes", "greatestAt", "(LOverAndBack$Evening;LOverAndBack$Screen;II)I"⟩, _)) (List.mem_append_left _ (List.mem_of_getElem? (l := lw_privs_1) (i := 12) rfl))
theorem ps_43 : Cond.selects "OverAndBack$Routes" ⟨"OverAndBack$Routes", "worthByGoing", "(LOverAndBack$Screen;III)I"⟩ ⟨"OverAndBack$Routes", "worthByGoing", "(LOverAndBack$Screen;III)I"⟩ ∈ am_tbl := am_priv (q := (⟨"OverAndBack$Routes", "worthByGoing", "(LOverAndBack$Screen;III)I"⟩, _)) (List.mem_append_left _ (List.mem_of_getElem? (l := lw_privs_1) (i := 13) rfl))
theorem ps_51 : Cond.selects "OverAndBack" ⟨"OverAndBack", "isStation", "(I)Z"⟩ ⟨"OverAndBack", "isStation", "(I)Z"⟩ ∈ am_tbl := am_priv (q := (⟨"OverAndBack", "isStation", "(I)Z"⟩, _)) (List.mem_append_left _ (List.mem_of_getElem? (l := lw_privs_1) (i := 14) rfl))
theorem ps_52 : Cond.selects "OverAndBack" ⟨"OverAndBack", "isMinute", "(I)Z"⟩ ⟨"OverAndBack", "isMinute", "(I)Z"⟩ ∈ am_tbl := am_priv (q := (⟨"OverAndBack", "isMinute", "(I)Z"⟩, _)) (List.mem_append_left _ (List.mem_of_getElem? (l := lw_privs_1) (i := 15) rfl))
theorem ps_59 : Cond.selects "OverAndBack" ⟨"OverAndBack", "isWatcher", "(I)Z"⟩ ⟨"OverAndBack", "isWatcher", "(I)Z"⟩ ∈ am_tbl := am_priv (q := (⟨"OverAndBack", "isWatcher", "(I)Z"⟩, _)) (List.mem_append_right _ (List.mem_append_left _ (List.mem_of_getElem? (l := lw_privs_2) (i := 0) rfl)))
theorem ps_60 : Cond.selects "OverAndBack" ⟨"OverAndBack", "follow", "(ILOverAndBack$Screen;)V"⟩ ⟨"OverAndBack", "follow", "(ILOverAndBack$Screen;)V"⟩ ∈ am_tbl := am_priv (q := (⟨"OverAndBack", "follow", "(ILOverAndBack$Screen;)V"⟩, _)) (List.mem_append_right _ (List.mem_append_left _ (List.mem_of_getElem? (l := lw_privs_2) (i := 1) rfl)))
theorem ps_63 : Cond.selects "OverAndBack$Walk" ⟨"OverAndBack$Walk", "start", "(I)V"⟩ ⟨"OverAndBack$Walk", "start", "(I)V"⟩ ∈ am_tbl := am_priv (q := (⟨"OverAndBack$Walk", "start", "(I)V"⟩, _)) (List.mem_append_right _ (List.mem_append_left _ (List.mem_of_getElem? (l := lw_privs_2) (i := 2) rfl)))
theorem ps_66 : Cond.selects "OverAndBack$Walk" ⟨"OverAndBack$Walk", "goTo", "(III)V"⟩ ⟨"OverAndBack$Walk", "goTo", "(III)V"⟩ ∈ am_tbl := am_priv (q := (⟨"OverAndBack$Walk", "goTo", "(III)V"⟩, _)) (List.mem_append_right _ (List.mem_append_left _ (List.mem_of_getElem? (l := lw_privs_2) (i := 3) rfl)))
theorem ps_67 : Cond.selects "OverAndBack$Walk" ⟨"OverAndBack$Walk", "look", "(LOverAndBack$Screen;I)V"⟩ ⟨"OverAndBack$Walk", "look", "(LOverAndBack$Screen;I)V"⟩ ∈ am_tbl := am_priv (q := (⟨"OverAndBack$Walk", "look", "(LOverAndBack$Screen;I)V"⟩, _)) (List.mem_append_right _ (List.mem_append_left _ (List.mem_of_getElem? (l := lw_privs_2) (i := 4) rfl)))
theorem ps_72 : Cond.selects "OverAndBack$Walk" ⟨"OverAndBack$Walk", "wish", "(LOverAndBack$Screen;IIII)I"⟩ ⟨"OverAndBack$Walk", "wish", "(LOverAndBack$Screen;IIII)I"⟩ ∈ am_tbl := am_priv (q := (⟨"OverAndBack$Walk", "wish", "(LOverAndBack$Screen;IIII)I"⟩, _)) (List.mem_append_right _ (List.mem_append_left _ (List.mem_of_getElem? (l := lw_privs_2) (i := 5) rfl)))
theorem ps_73 : Cond.selects "OverAndBack$Walk" ⟨"OverAndBack$Walk", "unbroken", "(LOverAndBack$Screen;II)I"⟩ ⟨"OverAndBack$Walk", "unbroken", "(LOverAndBack$Screen;II)I"⟩ ∈ am_tbl := am_priv (q := (⟨"OverAndBack$Walk", "unbroken", "(LOverAndBack$Screen;II)I"⟩, _)) (List.mem_append_right _ (List.mem_append_left _ (List.mem_of_getElem? (l := lw_privs_2) (i := 6) rfl)))
theorem ps_74 : Cond.selects "OverAndBack$Walk" ⟨"OverAndBack$Walk", "worthiest", "(LOverAndBack$Screen;II)I"⟩ ⟨"OverAndBack$Walk", "worthiest", "(LOverAndBack$Screen;II)I"⟩ ∈ am_tbl := am_priv (q := (⟨"OverAndBack$Walk", "worthiest", "(LOverAndBack$Screen;II)I"⟩, _)) (List.mem_append_right _ (List.mem_append_left _ (List.mem_of_getElem? (l := lw_privs_2) (i := 7) rfl)))
theorem ps_89 : Cond.selects "OverAndBack$Routes" ⟨"OverAndBack$Routes", "goalWorth", "(LOverAndBack$Evening;LOverAndBack$Screen;III)I"⟩ ⟨"OverAndBack$Routes", "goalWorth", "(LOverAndBack$Evening;LOverAndBack$Screen;III)I"⟩ ∈ am_tbl := am_priv (q := (⟨"OverAndBack$Routes", "goalWorth", "(LOverAndBack$Evening;LOverAndBack$Screen;III)I"⟩, _)) (List.mem_append_right _ (List.mem_append_left _ (List.mem_of_getElem? (l := lw_privs_2) (i := 8) rfl)))
theorem ps_92 : Cond.selects "OverAndBack$Learning" ⟨"OverAndBack$Learning", "survey", "(I)V"⟩ ⟨"OverAndBack$Learning", "survey", "(I)V"⟩ ∈ am_tbl := am_priv (q := (⟨"OverAndBack$Learning", "survey", "(I)V"⟩, _)) (List.mem_append_right _ (List.mem_append_left _ (List.mem_of_getElem? (l := lw_privs_2) (i := 9) rfl)))
theorem ps_93 : Cond.selects "OverAndBack$Learning" ⟨"OverAndBack$Learning", "reach", "(IIII)V"⟩ ⟨"OverAndBack$Learning", "reach", "(IIII)V"⟩ ∈ am_tbl := am_priv (q := (⟨"OverAndBack$Learning", "reach", "(IIII)V"⟩, _)) (List.mem_append_right _ (List.mem_append_left _ (List.mem_of_getElem? (l := lw_privs_2) (i := 10) rfl)))
theorem ps_96 : Cond.selects "OverAndBack$Learning" ⟨"OverAndBack$Learning", "takeOut", "(III)V"⟩ ⟨"OverAndBack$Learning", "takeOut", "(III)V"⟩ ∈ am_tbl := am_priv (q := (⟨"OverAndBack$Learning", "takeOut", "(III)V"⟩, _)) (List.mem_append_right _ (List.mem_append_left _ (List.mem_of_getElem? (l := lw_privs_2) (i := 11) rfl)))
theorem ps_97 : Cond.selects "OverAndBack$Learning" ⟨"OverAndBack$Learning", "passOn", "(IIIII)V"⟩ ⟨"OverAndBack$Learning", "passOn", "(IIIII)V"⟩ ∈ am_tbl := am_priv (q := (⟨"OverAndBack$Learning", "passOn", "(IIIII)V"⟩, _)) (List.mem_append_right _ (List.mem_append_left _ (List.mem_of_getElem? (l := lw_privs_2) (i := 12) rfl)))
theorem ps_98 : Cond.selects "OverAndBack$Learning" ⟨"OverAndBack$Learning", "note", "(II)V"⟩ ⟨"OverAndBack$Learning", "note", "(II)V"⟩ ∈ am_tbl := am_priv (q := (⟨"OverAndBack$Learning", "note", "(II)V"⟩, _)) (List.mem_append_right _ (List.mem_append_left _ (List.mem_of_getElem? (l := lw_privs_2) (i := 13) rfl)))
theorem ps_99 : Cond.selects "OverAndBack$Learning" ⟨"OverAndBack$Learning", "see", "(IIII)V"⟩ ⟨"OverAndBack$Learning", "see", "(IIII)V"⟩ ∈ am_tbl := am_priv (q := (⟨"OverAndBack$Learning", "see", "(IIII)V"⟩, _)) (List.mem_append_right _ (List.mem_append_left _ (List.mem_of_getElem? (l := lw_privs_2) (i := 14) rfl)))
theorem ps_105 : Cond.selects "OverAndBack" ⟨"OverAndBack", "fairBound", "(I)I"⟩ ⟨"OverAndBack", "fairBound", "(I)I"⟩ ∈ am_tbl := am_priv (q := (⟨"OverAndBack", "fairBound", "(I)I"⟩, _)) (List.mem_append_right _ (List.mem_append_left _ (List.mem_of_getElem? (l := lw_privs_2) (i := 15) rfl)))
theorem ps_108 : Cond.selects "OverAndBack$Box" ⟨"OverAndBack$Box", "weigh", "(LOverAndBack$Evening;LOverAndBack$Screen;)V"⟩ ⟨"OverAndBack$Box", "weigh", "(LOverAndBack$Evening;LOverAndBack$Screen;)V"⟩ ∈ am_tbl := am_priv (q := (⟨"OverAndBack$Box", "weigh", "(LOverAndBack$Evening;LOverAndBack$Screen;)V"⟩, _)) (List.mem_append_right _ (List.mem_append_right _ (List.mem_append_left _ (List.mem_of_getElem? (l := lw_privs_3) (i := 0) rfl))))
theorem ps_110 : Cond.selects "OverAndBack$Box" ⟨"OverAndBack$Box", "tryWay", "(LOverAndBack$Evening;)V"⟩ ⟨"OverAndBack$Box", "tryWay", "(LOverAndBack$Evening;)V"⟩ ∈ am_tbl := am_priv (q := (⟨"OverAndBack$Box", "tryWay", "(LOverAndBack$Evening;)V"⟩, _)) (List.mem_append_right _ (List.mem_append_right _ (List.mem_append_left _ (List.mem_of_getElem? (l := lw_privs_3) (i := 1) rfl))))
theorem ps_111 : Cond.selects "OverAndBack$Box" ⟨"OverAndBack$Box", "leastOf", "(LOverAndBack$Evening;)I"⟩ ⟨"OverAndBack$Box", "leastOf", "(LOverAndBack$Evening;)I"⟩ ∈ am_tbl := am_priv (q := (⟨"OverAndBack$Box", "leastOf", "(LOverAndBack$Evening;)I"⟩, _)) (List.mem_append_right _ (List.mem_append_right _ (List.mem_append_left _ (List.mem_of_getElem? (l := lw_privs_3) (i := 2) rfl))))
theorem ps_112 : Cond.selects "OverAndBack$Box" ⟨"OverAndBack$Box", "nextWay", "(I)Z"⟩ ⟨"OverAndBack$Box", "nextWay", "(I)Z"⟩ ∈ am_tbl := am_priv (q := (⟨"OverAndBack$Box", "nextWay", "(I)Z"⟩, _)) (List.mem_append_right _ (List.mem_append_right _ (List.mem_append_left _ (List.mem_of_getElem? (l := lw_privs_3) (i := 3) rfl))))
theorem ps_116 : Cond.selects "OverAndBack" ⟨"OverAndBack", "isWatcherOrPlan", "(I)Z"⟩ ⟨"OverAndBack", "isWatcherOrPlan", "(I)Z"⟩ ∈ am_tbl := am_priv (q := (⟨"OverAndBack", "isWatcherOrPlan", "(I)Z"⟩, _)) (List.mem_append_right _ (List.mem_append_right _ (List.mem_append_left _ (List.mem_of_getElem? (l := lw_privs_3) (i := 4) rfl))))
theorem ps_126 : Cond.selects "OverAndBack" ⟨"OverAndBack", "keptPlan", "(I)LOverAndBack$Plan;"⟩ ⟨"OverAndBack", "keptPlan", "(I)LOverAndBack$Plan;"⟩ ∈ am_tbl := am_priv (q := (⟨"OverAndBack", "keptPlan", "(I)LOverAndBack$Plan;"⟩, _)) (List.mem_append_right _ (List.mem_append_right _ (List.mem_append_left _ (List.mem_of_getElem? (l := lw_privs_3) (i := 5) rfl))))
theorem ps_136 : Cond.selects "OverAndBackModel" ⟨"OverAndBackModel", "readItem", "()Z"⟩ ⟨"OverAndBackModel", "readItem", "()Z"⟩ ∈ am_tbl := am_priv (q := (⟨"OverAndBackModel", "readItem", "()Z"⟩, _)) (List.mem_append_right _ (List.mem_append_right _ (List.mem_append_left _ (List.mem_of_getElem? (l := lw_privs_3) (i := 6) rfl))))
theorem ps_137 : Cond.selects "OverAndBackModel" ⟨"OverAndBackModel", "letterAt", "(I)I"⟩ ⟨"OverAndBackModel", "letterAt", "(I)I"⟩ ∈ am_tbl := am_priv (q := (⟨"OverAndBackModel", "letterAt", "(I)I"⟩, _)) (List.mem_append_right _ (List.mem_append_right _ (List.mem_append_left _ (List.mem_of_getElem? (l := lw_privs_3) (i := 7) rfl))))
theorem ps_138 : Cond.selects "OverAndBackModel" ⟨"OverAndBackModel", "readLength", "()Z"⟩ ⟨"OverAndBackModel", "readLength", "()Z"⟩ ∈ am_tbl := am_priv (q := (⟨"OverAndBackModel", "readLength", "()Z"⟩, _)) (List.mem_append_right _ (List.mem_append_right _ (List.mem_append_left _ (List.mem_of_getElem? (l := lw_privs_3) (i := 8) rfl))))
theorem ps_139 : Cond.selects "OverAndBackModel" ⟨"OverAndBackModel", "readNumbers", "(I)Z"⟩ ⟨"OverAndBackModel", "readNumbers", "(I)Z"⟩ ∈ am_tbl := am_priv (q := (⟨"OverAndBackModel", "readNumbers", "(I)Z"⟩, _)) (List.mem_append_right _ (List.mem_append_right _ (List.mem_append_left _ (List.mem_of_getElem? (l := lw_privs_3) (i := 9) rfl))))
theorem ps_141 : Cond.selects "OverAndBackModel" ⟨"OverAndBackModel", "isTold", "(III)Z"⟩ ⟨"OverAndBackModel", "isTold", "(III)Z"⟩ ∈ am_tbl := am_priv (q := (⟨"OverAndBackModel", "isTold", "(III)Z"⟩, _)) (List.mem_append_right _ (List.mem_append_right _ (List.mem_append_left _ (List.mem_of_getElem? (l := lw_privs_3) (i := 10) rfl))))
theorem ps_142 : Cond.selects "OverAndBackModel" ⟨"OverAndBackModel", "readStation", "()Z"⟩ ⟨"OverAndBackModel", "readStation", "()Z"⟩ ∈ am_tbl := am_priv (q := (⟨"OverAndBackModel", "readStation", "()Z"⟩, _)) (List.mem_append_right _ (List.mem_append_right _ (List.mem_append_left _ (List.mem_of_getElem? (l := lw_privs_3) (i := 11) rfl))))
theorem ps_143 : Cond.selects "OverAndBackModel" ⟨"OverAndBackModel", "readSceneOf", "()Z"⟩ ⟨"OverAndBackModel", "readSceneOf", "()Z"⟩ ∈ am_tbl := am_priv (q := (⟨"OverAndBackModel", "readSceneOf", "()Z"⟩, _)) (List.mem_append_right _ (List.mem_append_right _ (List.mem_append_left _ (List.mem_of_getElem? (l := lw_privs_3) (i := 12) rfl))))
theorem ps_144 : Cond.selects "OverAndBackModel" ⟨"OverAndBackModel", "isSpan", "()Z"⟩ ⟨"OverAndBackModel", "isSpan", "()Z"⟩ ∈ am_tbl := am_priv (q := (⟨"OverAndBackModel", "isSpan", "()Z"⟩, _)) (List.mem_append_right _ (List.mem_append_right _ (List.mem_append_left _ (List.mem_of_getElem? (l := lw_privs_3) (i := 13) rfl))))
theorem ps_146 : Cond.selects "OverAndBackModel" ⟨"OverAndBackModel", "readBreak", "()Z"⟩ ⟨"OverAndBackModel", "readBreak", "()Z"⟩ ∈ am_tbl := am_priv (q := (⟨"OverAndBackModel", "readBreak", "()Z"⟩, _)) (List.mem_append_right _ (List.mem_append_right _ (List.mem_append_left _ (List.mem_of_getElem? (l := lw_privs_3) (i := 14) rfl))))
theorem ps_147 : Cond.selects "OverAndBackModel" ⟨"OverAndBackModel", "readChance", "()Z"⟩ ⟨"OverAndBackModel", "readChance", "()Z"⟩ ∈ am_tbl := am_priv (q := (⟨"OverAndBackModel", "readChance", "()Z"⟩, _)) (List.mem_append_right _ (List.mem_append_right _ (List.mem_append_left _ (List.mem_of_getElem? (l := lw_privs_3) (i := 15) rfl))))
theorem ps_148 : Cond.selects "OverAndBackModel" ⟨"OverAndBackModel", "readGoes", "()Z"⟩ ⟨"OverAndBackModel", "readGoes", "()Z"⟩ ∈ am_tbl := am_priv (q := (⟨"OverAndBackModel", "readGoes", "()Z"⟩, _)) (List.mem_append_right _ (List.mem_append_right _ (List.mem_append_right _ (List.mem_append_left _ (List.mem_of_getElem? (l := lw_privs_4) (i := 0) rfl)))))
theorem ps_149 : Cond.selects "OverAndBackModel" ⟨"OverAndBackModel", "readRuleOf", "()Z"⟩ ⟨"OverAndBackModel", "readRuleOf", "()Z"⟩ ∈ am_tbl := am_priv (q := (⟨"OverAndBackModel", "readRuleOf", "()Z"⟩, _)) (List.mem_append_right _ (List.mem_append_right _ (List.mem_append_right _ (List.mem_append_left _ (List.mem_of_getElem? (l := lw_privs_4) (i := 1) rfl)))))
theorem ps_150 : Cond.selects "OverAndBackModel" ⟨"OverAndBackModel", "readWatcherOf", "()Z"⟩ ⟨"OverAndBackModel", "readWatcherOf", "()Z"⟩ ∈ am_tbl := am_priv (q := (⟨"OverAndBackModel", "readWatcherOf", "()Z"⟩, _)) (List.mem_append_right _ (List.mem_append_right _ (List.mem_append_right _ (List.mem_append_left _ (List.mem_of_getElem? (l := lw_privs_4) (i := 2) rfl)))))
theorem ps_153 : Cond.selects "OverAndBackModel" ⟨"OverAndBackModel", "isStation", "(I)Z"⟩ ⟨"OverAndBackModel", "isStation", "(I)Z"⟩ ∈ am_tbl := am_priv (q := (⟨"OverAndBackModel", "isStation", "(I)Z"⟩, _)) (List.mem_append_right _ (List.mem_append_right _ (List.mem_append_right _ (List.mem_append_left _ (List.mem_of_getElem? (l := lw_privs_4) (i := 3) rfl)))))
theorem ps_154 : Cond.selects "OverAndBackModel" ⟨"OverAndBackModel", "isMinute", "(I)Z"⟩ ⟨"OverAndBackModel", "isMinute", "(I)Z"⟩ ∈ am_tbl := am_priv (q := (⟨"OverAndBackModel", "isMinute", "(I)Z"⟩, _)) (List.mem_append_right _ (List.mem_append_right _ (List.mem_append_right _ (List.mem_append_left _ (List.mem_of_getElem? (l := lw_privs_4) (i := 4) rfl)))))
theorem ps_155 : Cond.selects "OverAndBackModel" ⟨"OverAndBackModel", "layCase", "(II)V"⟩ ⟨"OverAndBackModel", "layCase", "(II)V"⟩ ∈ am_tbl := am_priv (q := (⟨"OverAndBackModel", "layCase", "(II)V"⟩, _)) (List.mem_append_right _ (List.mem_append_right _ (List.mem_append_right _ (List.mem_append_left _ (List.mem_of_getElem? (l := lw_privs_4) (i := 5) rfl)))))
theorem ps_156 : Cond.selects "OverAndBackModel" ⟨"OverAndBackModel", "laySpots", "(I)V"⟩ ⟨"OverAndBackModel", "laySpots", "(I)V"⟩ ∈ am_tbl := am_priv (q := (⟨"OverAndBackModel", "laySpots", "(I)V"⟩, _)) (List.mem_append_right _ (List.mem_append_right _ (List.mem_append_right _ (List.mem_append_left _ (List.mem_of_getElem? (l := lw_privs_4) (i := 6) rfl)))))
theorem ps_157 : Cond.selects "OverAndBackModel" ⟨"OverAndBackModel", "breaks", "([II)V"⟩ ⟨"OverAndBackModel", "breaks", "([II)V"⟩ ∈ am_tbl := am_priv (q := (⟨"OverAndBackModel", "breaks", "([II)V"⟩, _)) (List.mem_append_right _ (List.mem_append_right _ (List.mem_append_right _ (List.mem_append_left _ (List.mem_of_getElem? (l := lw_privs_4) (i := 7) rfl)))))
theorem ps_159 : Cond.selects "OverAndBackModel" ⟨"OverAndBackModel", "layBreaks", "()V"⟩ ⟨"OverAndBackModel", "layBreaks", "()V"⟩ ∈ am_tbl := am_priv (q := (⟨"OverAndBackModel", "layBreaks", "()V"⟩, _)) (List.mem_append_right _ (List.mem_append_right _ (List.mem_append_right _ (List.mem_append_left _ (List.mem_of_getElem? (l := lw_privs_4) (i := 8) rfl)))))
theorem ps_162 : Cond.selects "OverAndBackModel" ⟨"OverAndBackModel", "closed", "(I)I"⟩ ⟨"OverAndBackModel", "closed", "(I)I"⟩ ∈ am_tbl := am_priv (q := (⟨"OverAndBackModel", "closed", "(I)I"⟩, _)) (List.mem_append_right _ (List.mem_append_right _ (List.mem_append_right _ (List.mem_append_left _ (List.mem_of_getElem? (l := lw_privs_4) (i := 9) rfl)))))
theorem ps_164 : Cond.selects "OverAndBackModel" ⟨"OverAndBackModel", "isWatcher", "(I)Z"⟩ ⟨"OverAndBackModel", "isWatcher", "(I)Z"⟩ ∈ am_tbl := am_priv (q := (⟨"OverAndBackModel", "isWatcher", "(I)Z"⟩, _)) (List.mem_append_right _ (List.mem_append_right _ (List.mem_append_right _ (List.mem_append_left _ (List.mem_of_getElem? (l := lw_privs_4) (i := 10) rfl)))))
theorem ps_165 : Cond.selects "OverAndBackModel" ⟨"OverAndBackModel", "watchesOf", "(I)V"⟩ ⟨"OverAndBackModel", "watchesOf", "(I)V"⟩ ∈ am_tbl := am_priv (q := (⟨"OverAndBackModel", "watchesOf", "(I)V"⟩, _)) (List.mem_append_right _ (List.mem_append_right _ (List.mem_append_right _ (List.mem_append_left _ (List.mem_of_getElem? (l := lw_privs_4) (i := 11) rfl)))))
theorem ps_166 : Cond.selects "OverAndBackModel" ⟨"OverAndBackModel", "watches", "(II)V"⟩ ⟨"OverAndBackModel", "watches", "(II)V"⟩ ∈ am_tbl := am_priv (q := (⟨"OverAndBackModel", "watches", "(II)V"⟩, _)) (List.mem_append_right _ (List.mem_append_right _ (List.mem_append_right _ (List.mem_append_left _ (List.mem_of_getElem? (l := lw_privs_4) (i := 12) rfl)))))
theorem ps_167 : Cond.selects "OverAndBackModel" ⟨"OverAndBackModel", "begins", "()V"⟩ ⟨"OverAndBackModel", "begins", "()V"⟩ ∈ am_tbl := am_priv (q := (⟨"OverAndBackModel", "begins", "()V"⟩, _)) (List.mem_append_right _ (List.mem_append_right _ (List.mem_append_right _ (List.mem_append_left _ (List.mem_of_getElem? (l := lw_privs_4) (i := 13) rfl)))))
theorem ps_168 : Cond.selects "OverAndBackModel" ⟨"OverAndBackModel", "wants", "(IIII)I"⟩ ⟨"OverAndBackModel", "wants", "(IIII)I"⟩ ∈ am_tbl := am_priv (q := (⟨"OverAndBackModel", "wants", "(IIII)I"⟩, _)) (List.mem_append_right _ (List.mem_append_right _ (List.mem_append_right _ (List.mem_append_left _ (List.mem_of_getElem? (l := lw_privs_4) (i := 14) rfl)))))
theorem ps_169 : Cond.selects "OverAndBackModel" ⟨"OverAndBackModel", "wantsOver", "(II)I"⟩ ⟨"OverAndBackModel", "wantsOver", "(II)I"⟩ ∈ am_tbl := am_priv (q := (⟨"OverAndBackModel", "wantsOver", "(II)I"⟩, _)) (List.mem_append_right _ (List.mem_append_right _ (List.mem_append_right _ (List.mem_append_left _ (List.mem_of_getElem? (l := lw_privs_4) (i := 15) rfl)))))
theorem ps_170 : Cond.selects "OverAndBackModel" ⟨"OverAndBackModel", "wantsBest", "(II)I"⟩ ⟨"OverAndBackModel", "wantsBest", "(II)I"⟩ ∈ am_tbl := am_priv (q := (⟨"OverAndBackModel", "wantsBest", "(II)I"⟩, _)) (List.mem_append_right _ (List.mem_append_right _ (List.mem_append_right _ (List.mem_append_right _ (List.mem_append_left _ (List.mem_of_getElem? (l := lw_privs_5) (i := 0) rfl))))))
theorem ps_171 : Cond.selects "OverAndBackModel" ⟨"OverAndBackModel", "sees", "(II)V"⟩ ⟨"OverAndBackModel", "sees", "(II)V"⟩ ∈ am_tbl := am_priv (q := (⟨"OverAndBackModel", "sees", "(II)V"⟩, _)) (List.mem_append_right _ (List.mem_append_right _ (List.mem_append_right _ (List.mem_append_right _ (List.mem_append_left _ (List.mem_of_getElem? (l := lw_privs_5) (i := 1) rfl))))))
theorem ps_172 : Cond.selects "OverAndBackModel" ⟨"OverAndBackModel", "layMost", "()V"⟩ ⟨"OverAndBackModel", "layMost", "()V"⟩ ∈ am_tbl := am_priv (q := (⟨"OverAndBackModel", "layMost", "()V"⟩, _)) (List.mem_append_right _ (List.mem_append_right _ (List.mem_append_right _ (List.mem_append_right _ (List.mem_append_left _ (List.mem_of_getElem? (l := lw_privs_5) (i := 2) rfl))))))
theorem ps_173 : Cond.selects "OverAndBackModel" ⟨"OverAndBackModel", "bestGoing", "(II)I"⟩ ⟨"OverAndBackModel", "bestGoing", "(II)I"⟩ ∈ am_tbl := am_priv (q := (⟨"OverAndBackModel", "bestGoing", "(II)I"⟩, _)) (List.mem_append_right _ (List.mem_append_right _ (List.mem_append_right _ (List.mem_append_right _ (List.mem_append_left _ (List.mem_of_getElem? (l := lw_privs_5) (i := 3) rfl))))))
theorem ps_174 : Cond.selects "OverAndBackModel" ⟨"OverAndBackModel", "byGoing", "(II)I"⟩ ⟨"OverAndBackModel", "byGoing", "(II)I"⟩ ∈ am_tbl := am_priv (q := (⟨"OverAndBackModel", "byGoing", "(II)I"⟩, _)) (List.mem_append_right _ (List.mem_append_right _ (List.mem_append_right _ (List.mem_append_right _ (List.mem_append_left _ (List.mem_of_getElem? (l := lw_privs_5) (i := 4) rfl))))))
theorem ps_177 : Cond.selects "OverAndBackModel" ⟨"OverAndBackModel", "remembers", "(I)V"⟩ ⟨"OverAndBackModel", "remembers", "(I)V"⟩ ∈ am_tbl := am_priv (q := (⟨"OverAndBackModel", "remembers", "(I)V"⟩, _)) (List.mem_append_right _ (List.mem_append_right _ (List.mem_append_right _ (List.mem_append_right _ (List.mem_append_left _ (List.mem_of_getElem? (l := lw_privs_5) (i := 5) rfl))))))
theorem ps_181 : Cond.selects "OverAndBackModel" ⟨"OverAndBackModel", "layPlan", "()V"⟩ ⟨"OverAndBackModel", "layPlan", "()V"⟩ ∈ am_tbl := am_priv (q := (⟨"OverAndBackModel", "layPlan", "()V"⟩, _)) (List.mem_append_right _ (List.mem_append_right _ (List.mem_append_right _ (List.mem_append_right _ (List.mem_append_left _ (List.mem_of_getElem? (l := lw_privs_5) (i := 6) rfl))))))
theorem ps_183 : Cond.selects "OverAndBackModel" ⟨"OverAndBackModel", "plans", "()V"⟩ ⟨"OverAndBackModel", "plans", "()V"⟩ ∈ am_tbl := am_priv (q := (⟨"OverAndBackModel", "plans", "()V"⟩, _)) (List.mem_append_right _ (List.mem_append_right _ (List.mem_append_right _ (List.mem_append_right _ (List.mem_append_left _ (List.mem_of_getElem? (l := lw_privs_5) (i := 7) rfl))))))
theorem ps_187 : Cond.selects "OverAndBackModel" ⟨"OverAndBackModel", "layFew", "(I)V"⟩ ⟨"OverAndBackModel", "layFew", "(I)V"⟩ ∈ am_tbl := am_priv (q := (⟨"OverAndBackModel", "layFew", "(I)V"⟩, _)) (List.mem_append_right _ (List.mem_append_right _ (List.mem_append_right _ (List.mem_append_right _ (List.mem_append_left _ (List.mem_of_getElem? (l := lw_privs_5) (i := 8) rfl))))))
theorem ps_189 : Cond.selects "OverAndBackModel" ⟨"OverAndBackModel", "comes", "(IIII)V"⟩ ⟨"OverAndBackModel", "comes", "(IIII)V"⟩ ∈ am_tbl := am_priv (q := (⟨"OverAndBackModel", "comes", "(IIII)V"⟩, _)) (List.mem_append_right _ (List.mem_append_right _ (List.mem_append_right _ (List.mem_append_right _ (List.mem_append_left _ (List.mem_of_getElem? (l := lw_privs_5) (i := 9) rfl))))))
theorem ps_190 : Cond.selects "OverAndBackModel" ⟨"OverAndBackModel", "findFew", "(I)V"⟩ ⟨"OverAndBackModel", "findFew", "(I)V"⟩ ∈ am_tbl := am_priv (q := (⟨"OverAndBackModel", "findFew", "(I)V"⟩, _)) (List.mem_append_right _ (List.mem_append_right _ (List.mem_append_right _ (List.mem_append_right _ (List.mem_append_left _ (List.mem_of_getElem? (l := lw_privs_5) (i := 10) rfl))))))
theorem ps_195 : Cond.selects "OverAndBackModel" ⟨"OverAndBackModel", "turns", "()I"⟩ ⟨"OverAndBackModel", "turns", "()I"⟩ ∈ am_tbl := am_priv (q := (⟨"OverAndBackModel", "turns", "()I"⟩, _)) (List.mem_append_right _ (List.mem_append_right _ (List.mem_append_right _ (List.mem_append_right _ (List.mem_append_left _ (List.mem_of_getElem? (l := lw_privs_5) (i := 11) rfl))))))
theorem ps_196 : Cond.selects "OverAndBackModel" ⟨"OverAndBackModel", "holds", "(I)V"⟩ ⟨"OverAndBackModel", "holds", "(I)V"⟩ ∈ am_tbl := am_priv (q := (⟨"OverAndBackModel", "holds", "(I)V"⟩, _)) (List.mem_append_right _ (List.mem_append_right _ (List.mem_append_right _ (List.mem_append_right _ (List.mem_append_left _ (List.mem_of_getElem? (l := lw_privs_5) (i := 12) rfl))))))
theorem ps_197 : Cond.selects "OverAndBackModel" ⟨"OverAndBackModel", "shows", "()V"⟩ ⟨"OverAndBackModel", "shows", "()V"⟩ ∈ am_tbl := am_priv (q := (⟨"OverAndBackModel", "shows", "()V"⟩, _)) (List.mem_append_right _ (List.mem_append_right _ (List.mem_append_right _ (List.mem_append_right _ (List.mem_append_left _ (List.mem_of_getElem? (l := lw_privs_5) (i := 13) rfl))))))
theorem ps_198 : Cond.selects "OverAndBackModel" ⟨"OverAndBackModel", "leastOf", "()I"⟩ ⟨"OverAndBackModel", "leastOf", "()I"⟩ ∈ am_tbl := am_priv (q := (⟨"OverAndBackModel", "leastOf", "()I"⟩, _)) (List.mem_append_right _ (List.mem_append_right _ (List.mem_append_right _ (List.mem_append_right _ (List.mem_append_left _ (List.mem_of_getElem? (l := lw_privs_5) (i := 14) rfl))))))
theorem ps_200 : Cond.selects "OverAndBackModel" ⟨"OverAndBackModel", "goesOn", "(I)V"⟩ ⟨"OverAndBackModel", "goesOn", "(I)V"⟩ ∈ am_tbl := am_priv (q := (⟨"OverAndBackModel", "goesOn", "(I)V"⟩, _)) (List.mem_append_right _ (List.mem_append_right _ (List.mem_append_right _ (List.mem_append_right _ (List.mem_append_left _ (List.mem_of_getElem? (l := lw_privs_5) (i := 15) rfl))))))
theorem ps_201 : Cond.selects "OverAndBackModel" ⟨"OverAndBackModel", "weight", "(I)I"⟩ ⟨"OverAndBackModel", "weight", "(I)I"⟩ ∈ am_tbl := am_priv (q := (⟨"OverAndBackModel", "weight", "(I)I"⟩, _)) (List.mem_append_right _ (List.mem_append_right _ (List.mem_append_right _ (List.mem_append_right _ (List.mem_append_right _ (List.mem_of_getElem? (l := lw_privs_6) (i := 0) rfl))))))
theorem ps_206 : Cond.selects "OverAndBackModel" ⟨"OverAndBackModel", "layNight", "(I)V"⟩ ⟨"OverAndBackModel", "layNight", "(I)V"⟩ ∈ am_tbl := am_priv (q := (⟨"OverAndBackModel", "layNight", "(I)V"⟩, _)) (List.mem_append_right _ (List.mem_append_right _ (List.mem_append_right _ (List.mem_append_right _ (List.mem_append_right _ (List.mem_of_getElem? (l := lw_privs_6) (i := 1) rfl))))))
theorem lw_278 : (Jvm.Cond.laysFinal "OverAndBack$Box" "OverAndBack$Box" "whole" "[I") ∈ am_tbl := am_tbl_t (List.mem_append_right _ (List.mem_append_left _ (List.mem_of_getElem? (l := tables_1_2) (i := 38) rfl))) rfl
theorem lw_280 : (Jvm.Cond.laysFinal "OverAndBack$Box" "OverAndBack$Box" "late" "[I") ∈ am_tbl := am_tbl_t (List.mem_append_right _ (List.mem_append_left _ (List.mem_of_getElem? (l := tables_1_2) (i := 40) rfl))) rfl
theorem lw_282 : (Jvm.Cond.laysFinal "OverAndBack$Box" "OverAndBack$Box" "holders" "[I") ∈ am_tbl := am_tbl_t (List.mem_append_right _ (List.mem_append_left _ (List.mem_of_getElem? (l := tables_1_2) (i := 42) rfl))) rfl
theorem lw_284 : (Jvm.Cond.laysFinal "OverAndBack$Box" "OverAndBack$Box" "bestHolders" "[I") ∈ am_tbl := am_tbl_t (List.mem_append_right _ (List.mem_append_left _ (List.mem_of_getElem? (l := tables_1_2) (i := 44) rfl))) rfl
theorem lw_286 : (Jvm.Cond.laysFinal "OverAndBack$Box" "OverAndBack$Box" "worth" "[I") ∈ am_tbl := am_tbl_t (List.mem_append_right _ (List.mem_append_left _ (List.mem_of_getElem? (l := tables_1_2) (i := 46) rfl))) rfl
theorem lw_288 : (Jvm.Cond.laysFinal "OverAndBack$Box" "OverAndBack$Box" "bestWorth" "[I") ∈ am_tbl := am_tbl_t (List.mem_append_right _ (List.mem_append_left _ (List.mem_of_getElem? (l := tables_1_2) (i := 48) rfl))) rfl
theorem lw_290 : (Jvm.Cond.lays "OverAndBack$Box" "OverAndBack$Box" "turns" "I") ∈ am_tbl := am_tbl_t (List.mem_append_right _ (List.mem_append_left _ (List.mem_of_getElem? (l := tables_1_2) (i := 50) rfl))) rfl
theorem lw_292 : (Jvm.Cond.lays "OverAndBack$Box" "OverAndBack$Box" "least" "I") ∈ am_tbl := am_tbl_t (List.mem_append_right _ (List.mem_append_left _ (List.mem_of_getElem? (l := tables_1_2) (i := 52) rfl))) rfl
theorem lw_294 : (Jvm.Cond.lays "OverAndBack$Box" "OverAndBack$Box" "shared" "Z") ∈ am_tbl := am_tbl_t (List.mem_append_right _ (List.mem_append_left _ (List.mem_of_getElem? (l := tables_1_2) (i := 54) rfl))) rfl
theorem CK0 : ∀ w ∈ u_ws RX0 TX0 9, w ∈ am_tbl := (List.forall_mem_cons.mpr ⟨lw_278, (List.forall_mem_cons.mpr ⟨lw_280, (List.forall_mem_cons.mpr ⟨lw_282, (List.forall_mem_cons.mpr ⟨lw_284, (List.forall_mem_cons.mpr ⟨lw_286, (List.forall_mem_cons.mpr ⟨lw_288, (List.forall_mem_cons.mpr ⟨lw_290, (List.forall_mem_cons.mpr ⟨lw_292, (List.forall_mem_cons.mpr ⟨lw_294, (fun _ h => absurd h List.not_mem_nil)⟩)⟩)⟩)⟩)⟩)⟩)⟩)⟩)⟩)
theorem lw_120 : (Jvm.Cond.laysFinal "OverAndBack$Evening" "OverAndBack$Evening" "stations" "LOverAndBack$Rows;") ∈ am_tbl := am_tbl_t (List.mem_append_left _ (List.mem_of_getElem? (l := tables_1_1) (i := 120) rfl)) rfl
theorem lw_122 : (Jvm.Cond.laysFinal "OverAndBack$Evening" "OverAndBack$Evening" "scenes" "LOverAndBack$Rows;") ∈ am_tbl := am_tbl_t (List.mem_append_left _ (List.mem_of_getElem? (l := tables_1_1) (i := 122) rfl)) rfl
theorem lw_124 : (Jvm.Cond.laysFinal "OverAndBack$Evening" "OverAndBack$Evening" "breaks" "LOverAndBack$Rows;") ∈ am_tbl := am_tbl_t (List.mem_append_left _ (List.mem_of_getElem? (l := tables_1_1) (i := 124) rfl)) rfl
theorem lw_126 : (Jvm.Cond.laysFinal "OverAndBack$Evening" "OverAndBack$Evening" "chances" "LOverAndBack$Rows;") ∈ am_tbl := am_tbl_t (List.mem_append_left _ (List.mem_of_getElem? (l := tables_1_1) (i := 126) rfl)) rfl
theorem lw_128 : (Jvm.Cond.laysFinal "OverAndBack$Evening" "OverAndBack$Evening" "rules" "LOverAndBack$Rows;") ∈ am_tbl := am_tbl_t (List.mem_append_left _ (List.mem_of_getElem? (l := tables_1_1) (i := 128) rfl)) rfl
theorem lw_130 : (Jvm.Cond.laysFinal "OverAndBack$Evening" "OverAndBack$Evening" "watchers" "LOverAndBack$Rows;") ∈ am_tbl := am_tbl_t (List.mem_append_left _ (List.mem_of_getElem? (l := tables_1_1) (i := 130) rfl)) rfl
theorem lw_132 : (Jvm.Cond.lays "OverAndBack$Evening" "OverAndBack$Evening" "minutes" "I") ∈ am_tbl := am_tbl_t (List.mem_append_left _ (List.mem_of_getElem? (l := tables_1_1) (i := 132) rfl)) rfl
theorem lw_134 : (Jvm.Cond.lays "OverAndBack$Evening" "OverAndBack$Evening" "going" "I") ∈ am_tbl := am_tbl_t (List.mem_append_left _ (List.mem_of_getElem? (l := tables_1_1) (i := 134) rfl)) rfl
theorem CK1 : ∀ w ∈ u_ws RX1 TX1 8, w ∈ am_tbl := (List.forall_mem_cons.mpr ⟨lw_120, (List.forall_mem_cons.mpr ⟨lw_122, (List.forall_mem_cons.mpr ⟨lw_124, (List.forall_mem_cons.mpr ⟨lw_126, (List.forall_mem_cons.mpr ⟨lw_128, (List.forall_mem_cons.mpr ⟨lw_130, (List.forall_mem_cons.mpr ⟨lw_132, (List.forall_mem_cons.mpr ⟨lw_134, (fun _ h => absurd h List.not_mem_nil)⟩)⟩)⟩)⟩)⟩)⟩)⟩)⟩)
theorem lw_144 : (Jvm.Cond.laysFinal "OverAndBack$Facts" "OverAndBack$Facts" "closed" "[I") ∈ am_tbl := am_tbl_t (List.mem_append_left _ (List.mem_of_getElem? (l := tables_1_1) (i := 144) rfl)) rfl
theorem CK2 : ∀ w ∈ u_ws RX2 TX2 1, w ∈ am_tbl := (List.forall_mem_cons.mpr ⟨lw_144, (fun _ h => absurd h List.not_mem_nil)⟩)
theorem lw_238 : (Jvm.Cond.laysFinal "OverAndBack$Learning" "OverAndBack$Learning" "fewest" "[I") ∈ am_tbl := am_tbl_t (List.mem_append_left _ (List.mem_of_getElem? (l := tables_1_1) (i := 238) rfl)) rfl
theorem lw_240 : (Jvm.Cond.laysFinal "OverAndBack$Learning" "OverAndBack$Learning" "screen" "LOverAndBack$Screen;") ∈ am_tbl := am_tbl_t (List.mem_append_right _ (List.mem_append_left _ (List.mem_of_getElem? (l := tables_1_2) (i := 0) rfl))) rfl
theorem lw_242 : (Jvm.Cond.laysFinal "OverAndBack$Learning" "OverAndBack$Learning" "facts" "LOverAndBack$Facts;") ∈ am_tbl := am_tbl_t (List.mem_append_right _ (List.mem_append_left _ (List.mem_of_getElem? (l := tables_1_2) (i := 2) rfl))) rfl
theorem lw_244 : (Jvm.Cond.lays "OverAndBack$Learning" "OverAndBack$Learning" "stations" "I") ∈ am_tbl := am_tbl_t (List.mem_append_right _ (List.mem_append_left _ (List.mem_of_getElem? (l := tables_1_2) (i := 4) rfl))) rfl
theorem lw_246 : (Jvm.Cond.lays "OverAndBack$Learning" "OverAndBack$Learning" "going" "I") ∈ am_tbl := am_tbl_t (List.mem_append_right _ (List.mem_append_left _ (List.mem_of_getElem? (l := tables_1_2) (i := 6) rfl))) rfl
theorem lw_248 : (Jvm.Cond.lays "OverAndBack$Learning" "OverAndBack$Learning" "allTold" "I") ∈ am_tbl := am_tbl_t (List.mem_append_right _ (List.mem_append_left _ (List.mem_of_getElem? (l := tables_1_2) (i := 8) rfl))) rfl
theorem lw_250 : (Jvm.Cond.lays "OverAndBack$Learning" "OverAndBack$Learning" "end" "I") ∈ am_tbl := am_tbl_t (List.mem_append_right _ (List.mem_append_left _ (List.mem_of_getElem? (l := tables_1_2) (i := 10) rfl))) rfl
theorem lw_252 : (Jvm.Cond.lays "OverAndBack$Learning" "OverAndBack$Learning" "fewestGoings" "I") ∈ am_tbl := am_tbl_t (List.mem_append_right _ (List.mem_append_left _ (List.mem_of_getElem? (l := tables_1_2) (i := 12) rfl))) rfl
theorem lw_254 : (Jvm.Cond.lays "OverAndBack$Learning" "OverAndBack$Learning" "minutesByFewest" "I") ∈ am_tbl := am_tbl_t (List.mem_append_right _ (List.mem_append_left _ (List.mem_of_getElem? (l := tables_1_2) (i := 14) rfl))) rfl
theorem lw_256 : (Jvm.Cond.lays "OverAndBack$Learning" "OverAndBack$Learning" "minutesByAny" "I") ∈ am_tbl := am_tbl_t (List.mem_append_right _ (List.mem_append_left _ (List.mem_of_getElem? (l := tables_1_2) (i := 16) rfl))) rfl
theorem lw_258 : (Jvm.Cond.lays "OverAndBack$Learning" "OverAndBack$Learning" "goingsToBeat" "I") ∈ am_tbl := am_tbl_t (List.mem_append_right _ (List.mem_append_left _ (List.mem_of_getElem? (l := tables_1_2) (i := 18) rfl))) rfl
theorem CK3 : ∀ w ∈ u_ws RX3 TX3 11, w ∈ am_tbl := (List.forall_mem_cons.mpr ⟨lw_238, (List.forall_mem_cons.mpr ⟨lw_240, (List.forall_mem_cons.mpr ⟨lw_242, (List.forall_mem_cons.mpr ⟨lw_244, (List.forall_mem_cons.mpr ⟨lw_246, (List.forall_mem_cons.mpr ⟨lw_248, (List.forall_mem_cons.mpr ⟨lw_250, (List.forall_mem_cons.mpr ⟨lw_252, (List.forall_mem_cons.mpr ⟨lw_254, (List.forall_mem_cons.mpr ⟨lw_256, (List.forall_mem_cons.mpr ⟨lw_258, (fun _ h => absurd h List.not_mem_nil)⟩)⟩)⟩)⟩)⟩)⟩)⟩)⟩)⟩)⟩)⟩)
theorem lw_329 : (Jvm.Cond.laysFinal "OverAndBack$Past" "OverAndBack$Past" "changes" "[I") ∈ am_tbl := am_tbl_t (List.mem_append_right _ (List.mem_append_left _ (List.mem_of_getElem? (l := tables_1_2) (i := 89) rfl))) rfl
theorem lw_331 : (Jvm.Cond.lays "OverAndBack$Past" "OverAndBack$Past" "size" "I") ∈ am_tbl := am_tbl_t (List.mem_append_right _ (List.mem_append_left _ (List.mem_of_getElem? (l := tables_1_2) (i := 91) rfl))) rfl
theorem CK4 : ∀ w ∈ u_ws RX4 TX4 2, w ∈ am_tbl := (List.forall_mem_cons.mpr ⟨lw_329, (List.forall_mem_cons.mpr ⟨lw_331, (fun _ h => absurd h List.not_mem_nil)⟩)⟩)
theorem lw_311 : (Jvm.Cond.laysFinal "OverAndBack$Plan" "OverAndBack$Plan" "minutes" "[I") ∈ am_tbl := am_tbl_t (List.mem_append_right _ (List.mem_append_left _ (List.mem_of_getElem? (l := tables_1_2) (i := 71) rfl))) rfl
theorem lw_313 : (Jvm.Cond.laysFinal "OverAndBack$Plan" "OverAndBack$Plan" "stations" "[I") ∈ am_tbl := am_tbl_t (List.mem_append_right _ (List.mem_append_left _ (List.mem_of_getElem? (l := tables_1_2) (i := 73) rfl))) rfl
theorem lw_315 : (Jvm.Cond.lays "OverAndBack$Plan" "OverAndBack$Plan" "size" "I") ∈ am_tbl := am_tbl_t (List.mem_append_right _ (List.mem_append_left _ (List.mem_of_getElem? (l := tables_1_2) (i := 75) rfl))) rfl
theorem lw_317 : (Jvm.Cond.lays "OverAndBack$Plan" "OverAndBack$Plan" "start" "I") ∈ am_tbl := am_tbl_t (List.mem_append_right _ (List.mem_append_left _ (List.mem_of_getElem? (l := tables_1_2) (i := 77) rfl))) rfl
theorem CK5 : ∀ w ∈ u_ws RX5 TX5 4, w ∈ am_tbl := (List.forall_mem_cons.mpr ⟨lw_311, (List.forall_mem_cons.mpr ⟨lw_313, (List.forall_mem_cons.mpr ⟨lw_315, (List.forall_mem_cons.mpr ⟨lw_317, (fun _ h => absurd h List.not_mem_nil)⟩)⟩)⟩)⟩)
theorem lw_38 : (Jvm.Cond.laysFinal "OverAndBack$Reader" "OverAndBack$Reader" "number" "[I") ∈ am_tbl := am_tbl_t (List.mem_append_left _ (List.mem_of_getElem? (l := tables_1_1) (i := 38) rfl)) rfl
theorem lw_40 : (Jvm.Cond.lays "OverAndBack$Reader" "OverAndBack$Reader" "numbers" "I") ∈ am_tbl := am_tbl_t (List.mem_append_left _ (List.mem_of_getElem? (l := tables_1_1) (i := 40) rfl)) rfl
theorem CK6 : ∀ w ∈ u_ws RX6 TX6 2, w ∈ am_tbl := (List.forall_mem_cons.mpr ⟨lw_38, (List.forall_mem_cons.mpr ⟨lw_40, (fun _ h => absurd h List.not_mem_nil)⟩)⟩)
theorem lw_206 : (Jvm.Cond.laysFinal "OverAndBack$Routes" "OverAndBack$Routes" "greatest" "[I") ∈ am_tbl := am_tbl_t (List.mem_append_left _ (List.mem_of_getElem? (l := tables_1_1) (i := 206) rfl)) rfl
theorem lw_208 : (Jvm.Cond.lays "OverAndBack$Routes" "OverAndBack$Routes" "minutes" "I") ∈ am_tbl := am_tbl_t (List.mem_append_left _ (List.mem_of_getElem? (l := tables_1_1) (i := 208) rfl)) rfl
theorem lw_210 : (Jvm.Cond.lays "OverAndBack$Routes" "OverAndBack$Routes" "firstMinute" "I") ∈ am_tbl := am_tbl_t (List.mem_append_left _ (List.mem_of_getElem? (l := tables_1_1) (i := 210) rfl)) rfl
theorem lw_212 : (Jvm.Cond.lays "OverAndBack$Routes" "OverAndBack$Routes" "firstStation" "I") ∈ am_tbl := am_tbl_t (List.mem_append_left _ (List.mem_of_getElem? (l := tables_1_1) (i := 212) rfl)) rfl
theorem CK7 : ∀ w ∈ u_ws RX7 TX7 4, w ∈ am_tbl := (List.forall_mem_cons.mpr ⟨lw_206, (List.forall_mem_cons.mpr ⟨lw_208, (List.forall_mem_cons.mpr ⟨lw_210, (List.forall_mem_cons.mpr ⟨lw_212, (fun _ h => absurd h List.not_mem_nil)⟩)⟩)⟩)⟩)
theorem lw_70 : (Jvm.Cond.laysFinal "OverAndBack$Rows" "OverAndBack$Rows" "cells" "[I") ∈ am_tbl := am_tbl_t (List.mem_append_left _ (List.mem_of_getElem? (l := tables_1_1) (i := 70) rfl)) rfl
theorem lw_72 : (Jvm.Cond.laysFinal "OverAndBack$Rows" "OverAndBack$Rows" "width" "I") ∈ am_tbl := am_tbl_t (List.mem_append_left _ (List.mem_of_getElem? (l := tables_1_1) (i := 72) rfl)) rfl
theorem lw_74 : (Jvm.Cond.laysFinal "OverAndBack$Rows" "OverAndBack$Rows" "limit" "I") ∈ am_tbl := am_tbl_t (List.mem_append_left _ (List.mem_of_getElem? (l := tables_1_1) (i := 74) rfl)) rfl
theorem lw_76 : (Jvm.Cond.lays "OverAndBack$Rows" "OverAndBack$Rows" "size" "I") ∈ am_tbl := am_tbl_t (List.mem_append_left _ (List.mem_of_getElem? (l := tables_1_1) (i := 76) rfl)) rfl
theorem CK8 : ∀ w ∈ u_ws RX8 TX8 4, w ∈ am_tbl := (List.forall_mem_cons.mpr ⟨lw_70, (List.forall_mem_cons.mpr ⟨lw_72, (List.forall_mem_cons.mpr ⟨lw_74, (List.forall_mem_cons.mpr ⟨lw_76, (fun _ h => absurd h List.not_mem_nil)⟩)⟩)⟩)⟩)
theorem lw_156 : (Jvm.Cond.laysFinal "OverAndBack$Screen" "OverAndBack$Screen" "worth" "[I") ∈ am_tbl := am_tbl_t (List.mem_append_left _ (List.mem_of_getElem? (l := tables_1_1) (i := 156) rfl)) rfl
theorem lw_158 : (Jvm.Cond.laysFinal "OverAndBack$Screen" "OverAndBack$Screen" "fact" "[I") ∈ am_tbl := am_tbl_t (List.mem_append_left _ (List.mem_of_getElem? (l := tables_1_1) (i := 158) rfl)) rfl
theorem lw_160 : (Jvm.Cond.laysFinal "OverAndBack$Screen" "OverAndBack$Screen" "broken" "[I") ∈ am_tbl := am_tbl_t (List.mem_append_left _ (List.mem_of_getElem? (l := tables_1_1) (i := 160) rfl)) rfl
theorem CK9 : ∀ w ∈ u_ws RX9 TX9 3, w ∈ am_tbl := (List.forall_mem_cons.mpr ⟨lw_156, (List.forall_mem_cons.mpr ⟨lw_158, (List.forall_mem_cons.mpr ⟨lw_160, (fun _ h => absurd h List.not_mem_nil)⟩)⟩)⟩)
theorem lw_179 : (Jvm.Cond.laysFinal "OverAndBack$Walk" "OverAndBack$Walk" "place" "[I") ∈ am_tbl := am_tbl_t (List.mem_append_left _ (List.mem_of_getElem? (l := tables_1_1) (i := 179) rfl)) rfl
theorem lw_181 : (Jvm.Cond.laysFinal "OverAndBack$Walk" "OverAndBack$Walk" "goal" "[I") ∈ am_tbl := am_tbl_t (List.mem_append_left _ (List.mem_of_getElem? (l := tables_1_1) (i := 181) rfl)) rfl
theorem lw_183 : (Jvm.Cond.lays "OverAndBack$Walk" "OverAndBack$Walk" "here" "I") ∈ am_tbl := am_tbl_t (List.mem_append_left _ (List.mem_of_getElem? (l := tables_1_1) (i := 183) rfl)) rfl
theorem lw_185 : (Jvm.Cond.lays "OverAndBack$Walk" "OverAndBack$Walk" "freeFrom" "I") ∈ am_tbl := am_tbl_t (List.mem_append_left _ (List.mem_of_getElem? (l := tables_1_1) (i := 185) rfl)) rfl
theorem lw_187 : (Jvm.Cond.lays "OverAndBack$Walk" "OverAndBack$Walk" "worth" "I") ∈ am_tbl := am_tbl_t (List.mem_append_left _ (List.mem_of_getElem? (l := tables_1_1) (i := 187) rfl)) rfl
theorem lw_189 : (Jvm.Cond.lays "OverAndBack$Walk" "OverAndBack$Walk" "seen" "I") ∈ am_tbl := am_tbl_t (List.mem_append_left _ (List.mem_of_getElem? (l := tables_1_1) (i := 189) rfl)) rfl
theorem lw_191 : (Jvm.Cond.lays "OverAndBack$Walk" "OverAndBack$Walk" "goings" "I") ∈ am_tbl := am_tbl_t (List.mem_append_left _ (List.mem_of_getElem? (l := tables_1_1) (i := 191) rfl)) rfl
theorem CK10 : ∀ w ∈ u_ws RX10 TX10 7, w ∈ am_tbl := (List.forall_mem_cons.mpr ⟨lw_179, (List.forall_mem_cons.mpr ⟨lw_181, (List.forall_mem_cons.mpr ⟨lw_183, (List.forall_mem_cons.mpr ⟨lw_185, (List.forall_mem_cons.mpr ⟨lw_187, (List.forall_mem_cons.mpr ⟨lw_189, (List.forall_mem_cons.mpr ⟨lw_191, (fun _ h => absurd h List.not_mem_nil)⟩)⟩)⟩)⟩)⟩)⟩)⟩)
theorem lw_528 : (Jvm.Cond.laysFinal "OverAndBack" "OverAndBack" "text" "[C") ∈ am_tbl := am_tbl_t (List.mem_append_right _ (List.mem_append_right _ (List.mem_append_left _ (List.mem_of_getElem? (l := tables_1_3) (i := 48) rfl)))) rfl
theorem lw_530 : (Jvm.Cond.lays "OverAndBack" "OverAndBack" "length" "I") ∈ am_tbl := am_tbl_t (List.mem_append_right _ (List.mem_append_right _ (List.mem_append_left _ (List.mem_of_getElem? (l := tables_1_3) (i := 50) rfl)))) rfl
theorem lw_532 : (Jvm.Cond.laysFinal "OverAndBack" "OverAndBack" "reader" "LOverAndBack$Reader;") ∈ am_tbl := am_tbl_t (List.mem_append_right _ (List.mem_append_right _ (List.mem_append_left _ (List.mem_of_getElem? (l := tables_1_3) (i := 52) rfl)))) rfl
theorem lw_534 : (Jvm.Cond.lays "OverAndBack" "OverAndBack" "evening" "LOverAndBack$Evening;") ∈ am_tbl := am_tbl_t (List.mem_append_right _ (List.mem_append_right _ (List.mem_append_left _ (List.mem_of_getElem? (l := tables_1_3) (i := 54) rfl)))) rfl
theorem lw_536 : (Jvm.Cond.lays "OverAndBack" "OverAndBack" "spare" "LOverAndBack$Evening;") ∈ am_tbl := am_tbl_t (List.mem_append_right _ (List.mem_append_right _ (List.mem_append_left _ (List.mem_of_getElem? (l := tables_1_3) (i := 56) rfl)))) rfl
theorem lw_538 : (Jvm.Cond.laysFinal "OverAndBack" "OverAndBack" "facts" "LOverAndBack$Facts;") ∈ am_tbl := am_tbl_t (List.mem_append_right _ (List.mem_append_right _ (List.mem_append_left _ (List.mem_of_getElem? (l := tables_1_3) (i := 58) rfl)))) rfl
theorem lw_540 : (Jvm.Cond.laysFinal "OverAndBack" "OverAndBack" "screen" "LOverAndBack$Screen;") ∈ am_tbl := am_tbl_t (List.mem_append_right _ (List.mem_append_right _ (List.mem_append_left _ (List.mem_of_getElem? (l := tables_1_3) (i := 60) rfl)))) rfl
theorem lw_542 : (Jvm.Cond.laysFinal "OverAndBack" "OverAndBack" "trial" "LOverAndBack$Screen;") ∈ am_tbl := am_tbl_t (List.mem_append_right _ (List.mem_append_right _ (List.mem_append_left _ (List.mem_of_getElem? (l := tables_1_3) (i := 62) rfl)))) rfl
theorem lw_544 : (Jvm.Cond.laysFinal "OverAndBack" "OverAndBack" "walk" "LOverAndBack$Walk;") ∈ am_tbl := am_tbl_t (List.mem_append_right _ (List.mem_append_right _ (List.mem_append_left _ (List.mem_of_getElem? (l := tables_1_3) (i := 64) rfl)))) rfl
theorem lw_546 : (Jvm.Cond.laysFinal "OverAndBack" "OverAndBack" "routes" "LOverAndBack$Routes;") ∈ am_tbl := am_tbl_t (List.mem_append_right _ (List.mem_append_right _ (List.mem_append_left _ (List.mem_of_getElem? (l := tables_1_3) (i := 66) rfl)))) rfl
theorem lw_548 : (Jvm.Cond.laysFinal "OverAndBack" "OverAndBack" "learning" "LOverAndBack$Learning;") ∈ am_tbl := am_tbl_t (List.mem_append_right _ (List.mem_append_right _ (List.mem_append_left _ (List.mem_of_getElem? (l := tables_1_3) (i := 68) rfl)))) rfl
theorem lw_550 : (Jvm.Cond.laysFinal "OverAndBack" "OverAndBack" "box" "LOverAndBack$Box;") ∈ am_tbl := am_tbl_t (List.mem_append_right _ (List.mem_append_right _ (List.mem_append_left _ (List.mem_of_getElem? (l := tables_1_3) (i := 70) rfl)))) rfl
theorem lw_552 : (Jvm.Cond.laysFinal "OverAndBack" "OverAndBack" "thePlan" "LOverAndBack$Plan;") ∈ am_tbl := am_tbl_t (List.mem_append_right _ (List.mem_append_right _ (List.mem_append_left _ (List.mem_of_getElem? (l := tables_1_3) (i := 72) rfl)))) rfl
theorem lw_554 : (Jvm.Cond.laysFinal "OverAndBack" "OverAndBack" "past" "LOverAndBack$Past;") ∈ am_tbl := am_tbl_t (List.mem_append_right _ (List.mem_append_right _ (List.mem_append_left _ (List.mem_of_getElem? (l := tables_1_3) (i := 74) rfl)))) rfl
theorem lw_556 : (Jvm.Cond.laysFinal "OverAndBack" "OverAndBack" "firstKept" "LOverAndBack$Plan;") ∈ am_tbl := am_tbl_t (List.mem_append_right _ (List.mem_append_right _ (List.mem_append_left _ (List.mem_of_getElem? (l := tables_1_3) (i := 76) rfl)))) rfl
theorem lw_558 : (Jvm.Cond.laysFinal "OverAndBack" "OverAndBack" "secondKept" "LOverAndBack$Plan;") ∈ am_tbl := am_tbl_t (List.mem_append_right _ (List.mem_append_right _ (List.mem_append_left _ (List.mem_of_getElem? (l := tables_1_3) (i := 78) rfl)))) rfl
theorem lw_560 : (Jvm.Cond.lays "OverAndBack" "OverAndBack" "kept" "I") ∈ am_tbl := am_tbl_t (List.mem_append_right _ (List.mem_append_right _ (List.mem_append_left _ (List.mem_of_getElem? (l := tables_1_3) (i := 80) rfl)))) rfl
theorem CK11 : ∀ w ∈ u_ws RX11 TX11 17, w ∈ am_tbl := (List.forall_mem_cons.mpr ⟨lw_528, (List.forall_mem_cons.mpr ⟨lw_530, (List.forall_mem_cons.mpr ⟨lw_532, (List.forall_mem_cons.mpr ⟨lw_534, (List.forall_mem_cons.mpr ⟨lw_536, (List.forall_mem_cons.mpr ⟨lw_538, (List.forall_mem_cons.mpr ⟨lw_540, (List.forall_mem_cons.mpr ⟨lw_542, (List.forall_mem_cons.mpr ⟨lw_544, (List.forall_mem_cons.mpr ⟨lw_546, (List.forall_mem_cons.mpr ⟨lw_548, (List.forall_mem_cons.mpr ⟨lw_550, (List.forall_mem_cons.mpr ⟨lw_552, (List.forall_mem_cons.mpr ⟨lw_554, (List.forall_mem_cons.mpr ⟨lw_556, (List.forall_mem_cons.mpr ⟨lw_558, (List.forall_mem_cons.mpr ⟨lw_560, (fun _ h => absurd h List.not_mem_nil)⟩)⟩)⟩)⟩)⟩)⟩)⟩)⟩)⟩)⟩)⟩)⟩)⟩)⟩)⟩)⟩)⟩)
theorem lw_990 : (Jvm.Cond.lays "OverAndBackModel" "OverAndBackModel" "length" "I") ∈ am_tbl := am_tbl_t (List.mem_append_right _ (List.mem_append_right _ (List.mem_append_right _ (List.mem_append_right _ (List.mem_append_left _ (List.mem_of_getElem? (l := tables_1_5) (i := 30) rfl)))))) rfl
theorem lw_992 : (Jvm.Cond.lays "OverAndBackModel" "OverAndBackModel" "goes" "I") ∈ am_tbl := am_tbl_t (List.mem_append_right _ (List.mem_append_right _ (List.mem_append_right _ (List.mem_append_right _ (List.mem_append_left _ (List.mem_of_getElem? (l := tables_1_5) (i := 32) rfl)))))) rfl
theorem lw_994 : (Jvm.Cond.lays "OverAndBackModel" "OverAndBackModel" "stations" "I") ∈ am_tbl := am_tbl_t (List.mem_append_right _ (List.mem_append_right _ (List.mem_append_right _ (List.mem_append_right _ (List.mem_append_left _ (List.mem_of_getElem? (l := tables_1_5) (i := 34) rfl)))))) rfl
theorem lw_996 : (Jvm.Cond.laysFinal "OverAndBackModel" "OverAndBackModel" "worth" "[I") ∈ am_tbl := am_tbl_t (List.mem_append_right _ (List.mem_append_right _ (List.mem_append_right _ (List.mem_append_right _ (List.mem_append_left _ (List.mem_of_getElem? (l := tables_1_5) (i := 36) rfl)))))) rfl
theorem lw_998 : (Jvm.Cond.lays "OverAndBackModel" "OverAndBackModel" "scenes" "I") ∈ am_tbl := am_tbl_t (List.mem_append_right _ (List.mem_append_right _ (List.mem_append_right _ (List.mem_append_right _ (List.mem_append_left _ (List.mem_of_getElem? (l := tables_1_5) (i := 38) rfl)))))) rfl
theorem lw_1000 : (Jvm.Cond.laysFinal "OverAndBackModel" "OverAndBackModel" "scene" "[I") ∈ am_tbl := am_tbl_t (List.mem_append_right _ (List.mem_append_right _ (List.mem_append_right _ (List.mem_append_right _ (List.mem_append_left _ (List.mem_of_getElem? (l := tables_1_5) (i := 40) rfl)))))) rfl
theorem lw_1002 : (Jvm.Cond.lays "OverAndBackModel" "OverAndBackModel" "breaks" "I") ∈ am_tbl := am_tbl_t (List.mem_append_right _ (List.mem_append_right _ (List.mem_append_right _ (List.mem_append_right _ (List.mem_append_left _ (List.mem_of_getElem? (l := tables_1_5) (i := 42) rfl)))))) rfl
theorem lw_1004 : (Jvm.Cond.laysFinal "OverAndBackModel" "OverAndBackModel" "broken" "[I") ∈ am_tbl := am_tbl_t (List.mem_append_right _ (List.mem_append_right _ (List.mem_append_right _ (List.mem_append_right _ (List.mem_append_left _ (List.mem_of_getElem? (l := tables_1_5) (i := 44) rfl)))))) rfl
theorem lw_1006 : (Jvm.Cond.lays "OverAndBackModel" "OverAndBackModel" "comings" "I") ∈ am_tbl := am_tbl_t (List.mem_append_right _ (List.mem_append_right _ (List.mem_append_right _ (List.mem_append_right _ (List.mem_append_left _ (List.mem_of_getElem? (l := tables_1_5) (i := 46) rfl)))))) rfl
theorem lw_1008 : (Jvm.Cond.laysFinal "OverAndBackModel" "OverAndBackModel" "coming" "[I") ∈ am_tbl := am_tbl_t (List.mem_append_right _ (List.mem_append_right _ (List.mem_append_right _ (List.mem_append_right _ (List.mem_append_left _ (List.mem_of_getElem? (l := tables_1_5) (i := 48) rfl)))))) rfl
theorem lw_1010 : (Jvm.Cond.lays "OverAndBackModel" "OverAndBackModel" "rules" "I") ∈ am_tbl := am_tbl_t (List.mem_append_right _ (List.mem_append_right _ (List.mem_append_right _ (List.mem_append_right _ (List.mem_append_left _ (List.mem_of_getElem? (l := tables_1_5) (i := 50) rfl)))))) rfl
theorem lw_1012 : (Jvm.Cond.laysFinal "OverAndBackModel" "OverAndBackModel" "rule" "[I") ∈ am_tbl := am_tbl_t (List.mem_append_right _ (List.mem_append_right _ (List.mem_append_right _ (List.mem_append_right _ (List.mem_append_left _ (List.mem_of_getElem? (l := tables_1_5) (i := 52) rfl)))))) rfl
theorem lw_1014 : (Jvm.Cond.lays "OverAndBackModel" "OverAndBackModel" "watchers" "I") ∈ am_tbl := am_tbl_t (List.mem_append_right _ (List.mem_append_right _ (List.mem_append_right _ (List.mem_append_right _ (List.mem_append_left _ (List.mem_of_getElem? (l := tables_1_5) (i := 54) rfl)))))) rfl
theorem lw_1016 : (Jvm.Cond.laysFinal "OverAndBackModel" "OverAndBackModel" "watcher" "[I") ∈ am_tbl := am_tbl_t (List.mem_append_right _ (List.mem_append_right _ (List.mem_append_right _ (List.mem_append_right _ (List.mem_append_left _ (List.mem_of_getElem? (l := tables_1_5) (i := 56) rfl)))))) rfl
theorem lw_1018 : (Jvm.Cond.laysFinal "OverAndBackModel" "OverAndBackModel" "text" "[I") ∈ am_tbl := am_tbl_t (List.mem_append_right _ (List.mem_append_right _ (List.mem_append_right _ (List.mem_append_right _ (List.mem_append_left _ (List.mem_of_getElem? (l := tables_1_5) (i := 58) rfl)))))) rfl
theorem lw_1020 : (Jvm.Cond.lays "OverAndBackModel" "OverAndBackModel" "texted" "I") ∈ am_tbl := am_tbl_t (List.mem_append_right _ (List.mem_append_right _ (List.mem_append_right _ (List.mem_append_right _ (List.mem_append_left _ (List.mem_of_getElem? (l := tables_1_5) (i := 60) rfl)))))) rfl
theorem lw_1022 : (Jvm.Cond.lays "OverAndBackModel" "OverAndBackModel" "at" "I") ∈ am_tbl := am_tbl_t (List.mem_append_right _ (List.mem_append_right _ (List.mem_append_right _ (List.mem_append_right _ (List.mem_append_left _ (List.mem_of_getElem? (l := tables_1_5) (i := 62) rfl)))))) rfl
theorem lw_1024 : (Jvm.Cond.laysFinal "OverAndBackModel" "OverAndBackModel" "told" "[I") ∈ am_tbl := am_tbl_t (List.mem_append_right _ (List.mem_append_right _ (List.mem_append_right _ (List.mem_append_right _ (List.mem_append_left _ (List.mem_of_getElem? (l := tables_1_5) (i := 64) rfl)))))) rfl
theorem lw_1026 : (Jvm.Cond.lays "OverAndBackModel" "OverAndBackModel" "readLength" "I") ∈ am_tbl := am_tbl_t (List.mem_append_right _ (List.mem_append_right _ (List.mem_append_right _ (List.mem_append_right _ (List.mem_append_left _ (List.mem_of_getElem? (l := tables_1_5) (i := 66) rfl)))))) rfl
theorem lw_1028 : (Jvm.Cond.lays "OverAndBackModel" "OverAndBackModel" "readGoes" "I") ∈ am_tbl := am_tbl_t (List.mem_append_right _ (List.mem_append_right _ (List.mem_append_right _ (List.mem_append_right _ (List.mem_append_left _ (List.mem_of_getElem? (l := tables_1_5) (i := 68) rfl)))))) rfl
theorem lw_1030 : (Jvm.Cond.lays "OverAndBackModel" "OverAndBackModel" "readStations" "I") ∈ am_tbl := am_tbl_t (List.mem_append_right _ (List.mem_append_right _ (List.mem_append_right _ (List.mem_append_right _ (List.mem_append_left _ (List.mem_of_getElem? (l := tables_1_5) (i := 70) rfl)))))) rfl
theorem lw_1032 : (Jvm.Cond.laysFinal "OverAndBackModel" "OverAndBackModel" "readWorth" "[I") ∈ am_tbl := am_tbl_t (List.mem_append_right _ (List.mem_append_right _ (List.mem_append_right _ (List.mem_append_right _ (List.mem_append_left _ (List.mem_of_getElem? (l := tables_1_5) (i := 72) rfl)))))) rfl
theorem lw_1034 : (Jvm.Cond.lays "OverAndBackModel" "OverAndBackModel" "readScenes" "I") ∈ am_tbl := am_tbl_t (List.mem_append_right _ (List.mem_append_right _ (List.mem_append_right _ (List.mem_append_right _ (List.mem_append_left _ (List.mem_of_getElem? (l := tables_1_5) (i := 74) rfl)))))) rfl
theorem lw_1036 : (Jvm.Cond.laysFinal "OverAndBackModel" "OverAndBackModel" "readScene" "[I") ∈ am_tbl := am_tbl_t (List.mem_append_right _ (List.mem_append_right _ (List.mem_append_right _ (List.mem_append_right _ (List.mem_append_left _ (List.mem_of_getElem? (l := tables_1_5) (i := 76) rfl)))))) rfl
theorem lw_1038 : (Jvm.Cond.lays "OverAndBackModel" "OverAndBackModel" "readBreaks" "I") ∈ am_tbl := am_tbl_t (List.mem_append_right _ (List.mem_append_right _ (List.mem_append_right _ (List.mem_append_right _ (List.mem_append_left _ (List.mem_of_getElem? (l := tables_1_5) (i := 78) rfl)))))) rfl
theorem lw_1040 : (Jvm.Cond.laysFinal "OverAndBackModel" "OverAndBackModel" "readBroken" "[I") ∈ am_tbl := am_tbl_t (List.mem_append_right _ (List.mem_append_right _ (List.mem_append_right _ (List.mem_append_right _ (List.mem_append_left _ (List.mem_of_getElem? (l := tables_1_5) (i := 80) rfl)))))) rfl
theorem lw_1042 : (Jvm.Cond.lays "OverAndBackModel" "OverAndBackModel" "readComings" "I") ∈ am_tbl := am_tbl_t (List.mem_append_right _ (List.mem_append_right _ (List.mem_append_right _ (List.mem_append_right _ (List.mem_append_left _ (List.mem_of_getElem? (l := tables_1_5) (i := 82) rfl)))))) rfl
theorem lw_1044 : (Jvm.Cond.laysFinal "OverAndBackModel" "OverAndBackModel" "readComing" "[I") ∈ am_tbl := am_tbl_t (List.mem_append_right _ (List.mem_append_right _ (List.mem_append_right _ (List.mem_append_right _ (List.mem_append_left _ (List.mem_of_getElem? (l := tables_1_5) (i := 84) rfl)))))) rfl
theorem lw_1046 : (Jvm.Cond.lays "OverAndBackModel" "OverAndBackModel" "readRules" "I") ∈ am_tbl := am_tbl_t (List.mem_append_right _ (List.mem_append_right _ (List.mem_append_right _ (List.mem_append_right _ (List.mem_append_left _ (List.mem_of_getElem? (l := tables_1_5) (i := 86) rfl)))))) rfl
theorem lw_1048 : (Jvm.Cond.laysFinal "OverAndBackModel" "OverAndBackModel" "readRule" "[I") ∈ am_tbl := am_tbl_t (List.mem_append_right _ (List.mem_append_right _ (List.mem_append_right _ (List.mem_append_right _ (List.mem_append_left _ (List.mem_of_getElem? (l := tables_1_5) (i := 88) rfl)))))) rfl
theorem lw_1050 : (Jvm.Cond.lays "OverAndBackModel" "OverAndBackModel" "readWatchers" "I") ∈ am_tbl := am_tbl_t (List.mem_append_right _ (List.mem_append_right _ (List.mem_append_right _ (List.mem_append_right _ (List.mem_append_left _ (List.mem_of_getElem? (l := tables_1_5) (i := 90) rfl)))))) rfl
theorem lw_1052 : (Jvm.Cond.laysFinal "OverAndBackModel" "OverAndBackModel" "readWatcher" "[I") ∈ am_tbl := am_tbl_t (List.mem_append_right _ (List.mem_append_right _ (List.mem_append_right _ (List.mem_append_right _ (List.mem_append_left _ (List.mem_of_getElem? (l := tables_1_5) (i := 92) rfl)))))) rfl
theorem lw_1054 : (Jvm.Cond.laysFinal "OverAndBackModel" "OverAndBackModel" "onWorth" "[I") ∈ am_tbl := am_tbl_t (List.mem_append_right _ (List.mem_append_right _ (List.mem_append_right _ (List.mem_append_right _ (List.mem_append_left _ (List.mem_of_getElem? (l := tables_1_5) (i := 94) rfl)))))) rfl
theorem lw_1056 : (Jvm.Cond.laysFinal "OverAndBackModel" "OverAndBackModel" "onFact" "[I") ∈ am_tbl := am_tbl_t (List.mem_append_right _ (List.mem_append_right _ (List.mem_append_right _ (List.mem_append_right _ (List.mem_append_left _ (List.mem_of_getElem? (l := tables_1_5) (i := 96) rfl)))))) rfl
theorem lw_1058 : (Jvm.Cond.laysFinal "OverAndBackModel" "OverAndBackModel" "onBreak" "[Z") ∈ am_tbl := am_tbl_t (List.mem_append_right _ (List.mem_append_right _ (List.mem_append_right _ (List.mem_append_right _ (List.mem_append_left _ (List.mem_of_getElem? (l := tables_1_5) (i := 98) rfl)))))) rfl
theorem lw_1060 : (Jvm.Cond.laysFinal "OverAndBackModel" "OverAndBackModel" "on" "[I") ∈ am_tbl := am_tbl_t (List.mem_append_right _ (List.mem_append_right _ (List.mem_append_right _ (List.mem_append_right _ (List.mem_append_left _ (List.mem_of_getElem? (l := tables_1_5) (i := 100) rfl)))))) rfl
theorem lw_1062 : (Jvm.Cond.lays "OverAndBackModel" "OverAndBackModel" "saw" "I") ∈ am_tbl := am_tbl_t (List.mem_append_right _ (List.mem_append_right _ (List.mem_append_right _ (List.mem_append_right _ (List.mem_append_left _ (List.mem_of_getElem? (l := tables_1_5) (i := 102) rfl)))))) rfl
theorem lw_1064 : (Jvm.Cond.lays "OverAndBackModel" "OverAndBackModel" "facts" "I") ∈ am_tbl := am_tbl_t (List.mem_append_right _ (List.mem_append_right _ (List.mem_append_right _ (List.mem_append_right _ (List.mem_append_left _ (List.mem_of_getElem? (l := tables_1_5) (i := 104) rfl)))))) rfl
theorem lw_1066 : (Jvm.Cond.lays "OverAndBackModel" "OverAndBackModel" "went" "I") ∈ am_tbl := am_tbl_t (List.mem_append_right _ (List.mem_append_right _ (List.mem_append_right _ (List.mem_append_right _ (List.mem_append_left _ (List.mem_of_getElem? (l := tables_1_5) (i := 106) rfl)))))) rfl
theorem lw_1068 : (Jvm.Cond.lays "OverAndBackModel" "OverAndBackModel" "from" "I") ∈ am_tbl := am_tbl_t (List.mem_append_right _ (List.mem_append_right _ (List.mem_append_right _ (List.mem_append_right _ (List.mem_append_left _ (List.mem_of_getElem? (l := tables_1_5) (i := 108) rfl)))))) rfl
theorem lw_1070 : (Jvm.Cond.lays "OverAndBackModel" "OverAndBackModel" "goings" "I") ∈ am_tbl := am_tbl_t (List.mem_append_right _ (List.mem_append_right _ (List.mem_append_right _ (List.mem_append_right _ (List.mem_append_left _ (List.mem_of_getElem? (l := tables_1_5) (i := 110) rfl)))))) rfl
theorem lw_1072 : (Jvm.Cond.laysFinal "OverAndBackModel" "OverAndBackModel" "going" "[I") ∈ am_tbl := am_tbl_t (List.mem_append_right _ (List.mem_append_right _ (List.mem_append_right _ (List.mem_append_right _ (List.mem_append_left _ (List.mem_of_getElem? (l := tables_1_5) (i := 112) rfl)))))) rfl
theorem lw_1074 : (Jvm.Cond.lays "OverAndBackModel" "OverAndBackModel" "acts" "I") ∈ am_tbl := am_tbl_t (List.mem_append_right _ (List.mem_append_right _ (List.mem_append_right _ (List.mem_append_right _ (List.mem_append_left _ (List.mem_of_getElem? (l := tables_1_5) (i := 114) rfl)))))) rfl
theorem lw_1076 : (Jvm.Cond.laysFinal "OverAndBackModel" "OverAndBackModel" "act" "[I") ∈ am_tbl := am_tbl_t (List.mem_append_right _ (List.mem_append_right _ (List.mem_append_right _ (List.mem_append_right _ (List.mem_append_left _ (List.mem_of_getElem? (l := tables_1_5) (i := 116) rfl)))))) rfl
theorem lw_1078 : (Jvm.Cond.lays "OverAndBackModel" "OverAndBackModel" "firstWrong" "I") ∈ am_tbl := am_tbl_t (List.mem_append_right _ (List.mem_append_right _ (List.mem_append_right _ (List.mem_append_right _ (List.mem_append_left _ (List.mem_of_getElem? (l := tables_1_5) (i := 118) rfl)))))) rfl
theorem lw_1080 : (Jvm.Cond.laysFinal "OverAndBackModel" "OverAndBackModel" "goTo" "[I") ∈ am_tbl := am_tbl_t (List.mem_append_right _ (List.mem_append_right _ (List.mem_append_right _ (List.mem_append_right _ (List.mem_append_left _ (List.mem_of_getElem? (l := tables_1_5) (i := 120) rfl)))))) rfl
theorem lw_1082 : (Jvm.Cond.laysFinal "OverAndBackModel" "OverAndBackModel" "most" "[I") ∈ am_tbl := am_tbl_t (List.mem_append_right _ (List.mem_append_right _ (List.mem_append_right _ (List.mem_append_right _ (List.mem_append_left _ (List.mem_of_getElem? (l := tables_1_5) (i := 122) rfl)))))) rfl
theorem lw_1084 : (Jvm.Cond.laysFinal "OverAndBackModel" "OverAndBackModel" "few" "[I") ∈ am_tbl := am_tbl_t (List.mem_append_right _ (List.mem_append_right _ (List.mem_append_right _ (List.mem_append_right _ (List.mem_append_left _ (List.mem_of_getElem? (l := tables_1_5) (i := 124) rfl)))))) rfl
theorem lw_1086 : (Jvm.Cond.lays "OverAndBackModel" "OverAndBackModel" "fewest" "I") ∈ am_tbl := am_tbl_t (List.mem_append_right _ (List.mem_append_right _ (List.mem_append_right _ (List.mem_append_right _ (List.mem_append_left _ (List.mem_of_getElem? (l := tables_1_5) (i := 126) rfl)))))) rfl
theorem lw_1088 : (Jvm.Cond.lays "OverAndBackModel" "OverAndBackModel" "soonest" "I") ∈ am_tbl := am_tbl_t (List.mem_append_right _ (List.mem_append_right _ (List.mem_append_right _ (List.mem_append_right _ (List.mem_append_left _ (List.mem_of_getElem? (l := tables_1_5) (i := 128) rfl)))))) rfl
theorem lw_1090 : (Jvm.Cond.lays "OverAndBackModel" "OverAndBackModel" "soonestAny" "I") ∈ am_tbl := am_tbl_t (List.mem_append_right _ (List.mem_append_right _ (List.mem_append_right _ (List.mem_append_right _ (List.mem_append_left _ (List.mem_of_getElem? (l := tables_1_5) (i := 130) rfl)))))) rfl
theorem lw_1092 : (Jvm.Cond.laysFinal "OverAndBackModel" "OverAndBackModel" "holder" "[I") ∈ am_tbl := am_tbl_t (List.mem_append_right _ (List.mem_append_right _ (List.mem_append_right _ (List.mem_append_right _ (List.mem_append_left _ (List.mem_of_getElem? (l := tables_1_5) (i := 132) rfl)))))) rfl
theorem lw_1094 : (Jvm.Cond.laysFinal "OverAndBackModel" "OverAndBackModel" "shown" "[I") ∈ am_tbl := am_tbl_t (List.mem_append_right _ (List.mem_append_right _ (List.mem_append_right _ (List.mem_append_right _ (List.mem_append_left _ (List.mem_of_getElem? (l := tables_1_5) (i := 134) rfl)))))) rfl
theorem lw_1096 : (Jvm.Cond.lays "OverAndBackModel" "OverAndBackModel" "keeps" "I") ∈ am_tbl := am_tbl_t (List.mem_append_right _ (List.mem_append_right _ (List.mem_append_right _ (List.mem_append_right _ (List.mem_append_left _ (List.mem_of_getElem? (l := tables_1_5) (i := 136) rfl)))))) rfl
theorem lw_1098 : (Jvm.Cond.laysFinal "OverAndBackModel" "OverAndBackModel" "kept" "[I") ∈ am_tbl := am_tbl_t (List.mem_append_right _ (List.mem_append_right _ (List.mem_append_right _ (List.mem_append_right _ (List.mem_append_left _ (List.mem_of_getElem? (l := tables_1_5) (i := 138) rfl)))))) rfl
theorem CK12 : ∀ w ∈ u_ws RX12 TX12 55, w ∈ am_tbl := (List.forall_mem_cons.mpr ⟨lw_990, (List.forall_mem_cons.mpr ⟨lw_992, (List.forall_mem_cons.mpr ⟨lw_994, (List.forall_mem_cons.mpr ⟨lw_996, (List.forall_mem_cons.mpr ⟨lw_998, (List.forall_mem_cons.mpr ⟨lw_1000, (List.forall_mem_cons.mpr ⟨lw_1002, (List.forall_mem_cons.mpr ⟨lw_1004, (List.forall_mem_cons.mpr ⟨lw_1006, (List.forall_mem_cons.mpr ⟨lw_1008, (List.forall_mem_cons.mpr ⟨lw_1010, (List.forall_mem_cons.mpr ⟨lw_1012, (List.forall_mem_cons.mpr ⟨lw_1014, (List.forall_mem_cons.mpr ⟨lw_1016, (List.forall_mem_cons.mpr ⟨lw_1018, (List.forall_mem_cons.mpr ⟨lw_1020, (List.forall_mem_cons.mpr ⟨lw_1022, (List.forall_mem_cons.mpr ⟨lw_1024, (List.forall_mem_cons.mpr ⟨lw_1026, (List.forall_mem_cons.mpr ⟨lw_1028, (List.forall_mem_cons.mpr ⟨lw_1030, (List.forall_mem_cons.mpr ⟨lw_1032, (List.forall_mem_cons.mpr ⟨lw_1034, (List.forall_mem_cons.mpr ⟨lw_1036, (List.forall_mem_cons.mpr ⟨lw_1038, (List.forall_mem_cons.mpr ⟨lw_1040, (List.forall_mem_cons.mpr ⟨lw_1042, (List.forall_mem_cons.mpr ⟨lw_1044, (List.forall_mem_cons.mpr ⟨lw_1046, (List.forall_mem_cons.mpr ⟨lw_1048, (List.forall_mem_cons.mpr ⟨lw_1050, (List.forall_mem_cons.mpr ⟨lw_1052, (List.forall_mem_cons.mpr ⟨lw_1054, (List.forall_mem_cons.mpr ⟨lw_1056, (List.forall_mem_cons.mpr ⟨lw_1058, (List.forall_mem_cons.mpr ⟨lw_1060, (List.forall_mem_cons.mpr ⟨lw_1062, (List.forall_mem_cons.mpr ⟨lw_1064, (List.forall_mem_cons.mpr ⟨lw_1066, (List.forall_mem_cons.mpr ⟨lw_1068, (List.forall_mem_cons.mpr ⟨lw_1070, (List.forall_mem_cons.mpr ⟨lw_1072, (List.forall_mem_cons.mpr ⟨lw_1074, (List.forall_mem_cons.mpr ⟨lw_1076, (List.forall_mem_cons.mpr ⟨lw_1078, (List.forall_mem_cons.mpr ⟨lw_1080, (List.forall_mem_cons.mpr ⟨lw_1082, (List.forall_mem_cons.mpr ⟨lw_1084, (List.forall_mem_cons.mpr ⟨lw_1086, (List.forall_mem_cons.mpr ⟨lw_1088, (List.forall_mem_cons.mpr ⟨lw_1090, (List.forall_mem_cons.mpr ⟨lw_1092, (List.forall_mem_cons.mpr ⟨lw_1094, (List.forall_mem_cons.mpr ⟨lw_1096, (List.forall_mem_cons.mpr ⟨lw_1098, (fun _ h => absurd h List.not_mem_nil)⟩)⟩)⟩)⟩)⟩)⟩)⟩)⟩)⟩)⟩)⟩)⟩)⟩)⟩)⟩)⟩)⟩)⟩)⟩)⟩)⟩)⟩)⟩)⟩)⟩)⟩)⟩)⟩)⟩)⟩)⟩)⟩)⟩)⟩)⟩)⟩)⟩)⟩)⟩)⟩)⟩)⟩)⟩)⟩)⟩)⟩)⟩)⟩)⟩)⟩)⟩)⟩)⟩)⟩)⟩)
theorem am_ck0 : am_cok 0 RX0 TX0 9 tyX0 := ⟨rfl, CK0, nmX0, tyX0_ok⟩
theorem am_ck1 : am_cok 1 RX1 TX1 8 tyX1 := ⟨rfl, CK1, nmX1, tyX1_ok⟩
theorem am_ck2 : am_cok 2 RX2 TX2 1 tyX2 := ⟨rfl, CK2, nmX2, tyX2_ok⟩
theorem am_ck3 : am_cok 3 RX3 TX3 11 tyX3 := ⟨rfl, CK3, nmX3, tyX3_ok⟩
theorem am_ck4 : am_cok 4 RX4 TX4 2 tyX4 := ⟨rfl, CK4, nmX4, tyX4_ok⟩
theorem am_ck5 : am_cok 5 RX5 TX5 4 tyX5 := ⟨rfl, CK5, nmX5, tyX5_ok⟩
theorem am_ck6 : am_cok 6 RX6 TX6 2 tyX6 := ⟨rfl, CK6, nmX6, tyX6_ok⟩
theorem am_ck7 : am_cok 7 RX7 TX7 4 tyX7 := ⟨rfl, CK7, nmX7, tyX7_ok⟩
theorem am_ck8 : am_cok 8 RX8 TX8 4 tyX8 := ⟨rfl, CK8, nmX8, tyX8_ok⟩
theorem am_ck9 : am_cok 9 RX9 TX9 3 tyX9 := ⟨rfl, CK9, nmX9, tyX9_ok⟩
theorem am_ck10 : am_cok 10 RX10 TX10 7 tyX10 := ⟨rfl, CK10, nmX10, tyX10_ok⟩
theorem am_ck11 : am_cok 11 RX11 TX11 17 tyX11 := ⟨rfl, CK11, nmX11, tyX11_ok⟩
theorem am_ck12 : am_cok 12 RX12 TX12 55 tyX12 := ⟨rfl, CK12, nmX12, tyX12_ok⟩
end
section
/-! ===== the abstract machine's instructions as functions ===== -/
abbrev am_S : Type := Nat × am_L × List Value × am_H
abbrev am_Z : Type := am_S ⊕ Option am_R
abbrev am_Ev : Type := Nat → List Value → am_H → Option am_R
abbrev am_Op : Type := am_Ev → am_L → List Value → am_H → am_Z
def am_St (M : am_MI) (pc : Nat) (L : am_L) (st : List Value) (h : am_H) (z : am_Z) : Prop := match z with
  | .inl (pc', L', st', h') => ∀ r, am_Good M pc' L' st' h' r → am_Good M pc L st h r
  | .inr none => True
  | .inr (some r) => am_Good M pc L st h r
def am_EvOk (ev : am_Ev) : Prop := ∀ j as h r, ev j as h = some r → am_EG (am_mi j) as h r
def am_OpOk (M : am_MI) (pc : Nat) (op : am_Op) : Prop := ∀ ev, am_EvOk ev → ∀ L st h, am_St M pc L st h (op ev L st h)
noncomputable def am_ild (i nx : Nat) : am_Op := fun _ L st h => match am_nth L i with
  | some (some (.retAddr n)) => .inl (nx, L, .retAddr n :: st, h)
  | _ => .inr none
noncomputable def am_ald0 (i nx : Nat) : am_Op := fun _ L st h => match am_nth L i with
  | some (some (.ref n)) => .inl (nx, L, .ref n :: st, h)
  | _ => .inr none
noncomputable def am_lld (i nx : Nat) : am_Op := fun _ L st h => match am_nth L i with
  | some (some (.long n)) => .inl (nx, L, .long n :: st, h)
  | _ => .inr none
theorem ok_iload {M : am_MI} {pc i nx : Nat} (hd : decode M.2.1 pc = .ok (.iload i, 2)) (hx : pc + 2 = nx) : am_OpOk M pc (am_ild i nx) := by
  intro ev _ L st h
  subst hx
  simp only [am_ild]
  split
  · rename_i n hn
    rw [am_nth_eq] at hn
    exact fun r hg => g_iload hd hn hg
  · trivial
theorem ok_iload_n {M : am_MI} {pc i nx : Nat} {k : Fin 4} (hd : decode M.2.1 pc = .ok (.iload_n k, 1)) (hi : (k : Nat) = i) (hx : pc + 1 = nx) : am_OpOk M pc (am_ild i nx) := by
  intro ev _ L st h
  subst hx
  subst hi
  simp only [am_ild]
  split
  · rename_i n hn
    rw [am_nth_eq] at hn
    exact fun r hg => g_iload_n hd hn hg
  · trivial
theorem ok_aload {M : am_MI} {pc i nx : Nat} (hd : decode M.2.1 pc = .ok (.aload i, 2)) (hx : pc + 2 = nx) : am_OpOk M pc (am_ald0 i nx) := by
  intro ev _ L st h
  subst hx
  simp only [am_ald0]
  split
  · rename_i n hn
    rw [am_nth_eq] at hn
    exact fun r hg => g_aload hd hn hg
  · trivial
theorem ok_aload_n {M : am_MI} {pc i nx : Nat} {k : Fin 4} (hd : decode M.2.1 pc = .ok (.aload_n k, 1)) (hi : (k : Nat) = i) (hx : pc + 1 = nx) : am_OpOk M pc (am_ald0 i nx) := by
  intro ev _ L st h
  subst hx
  subst hi
  simp only [am_ald0]
  split
  · rename_i n hn
    rw [am_nth_eq] at hn
    exact fun r hg => g_aload_n hd hn hg
  · trivial
theorem ok_lload {M : am_MI} {pc i nx : Nat} (hd : decode M.2.1 pc = .ok (.lload i, 2)) (hx : pc + 2 = nx) : am_OpOk M pc (am_lld i nx) := by
  intro ev _ L st h
  subst hx
  simp only [am_lld]
  split
  · rename_i n hn
    rw [am_nth_eq] at hn
    exact fun r hg => g_lload hd hn hg
  · trivial
theorem ok_lload_n {M : am_MI} {pc i nx : Nat} {k : Fin 4} (hd : decode M.2.1 pc = .ok (.lload_n k, 1)) (hi : (k : Nat) = i) (hx : pc + 1 = nx) : am_OpOk M pc (am_lld i nx) := by
  intro ev _ L st h
  subst hx
  subst hi
  simp only [am_lld]
  split
  · rename_i n hn
    rw [am_nth_eq] at hn
    exact fun r hg => g_lload_n hd hn hg
  · trivial
noncomputable def am_nlb (L : am_L) (i : Nat) : Bool := Nat.rec (motive := fun _ => Bool) true (fun j _ => match am_nth L j with
  | some (some (.long _)) => false
  | some (some (.double _)) => false
  | _ => true) i
theorem am_nlb_ok {L : am_L} {i : Nat} (h : am_nlb L i = true) : am_nl L i := by
  intro j v hj hv hc
  subst hj
  have h2 : (match am_nth L j with
    | some (some (.long _)) => false
    | some (some (.double _)) => false
    | _ => true) = true := h
  rw [am_nth_eq, hv] at h2
  cases v <;> first | (cases h2; done) | (cases hc; done)
noncomputable def am_ist (i nx : Nat) : am_Op := fun _ L st h => match st with
  | .retAddr n :: st' => bif am_nlb L i then am_setc L (some (.retAddr n)) i fun L' => .inl (nx, L', st', h) else .inr none
  | _ => .inr none
noncomputable def am_ast0 (i nx : Nat) : am_Op := fun _ L st h => match st with
  | .ref n :: st' => bif am_nlb L i then am_setc L (some (.ref n)) i fun L' => .inl (nx, L', st', h) else .inr none
  | _ => .inr none
noncomputable def am_lst (i nx : Nat) : am_Op := fun _ L st h => match st with
  | .long n :: st' => bif am_nlb L i then am_setc L (some (.long n)) i fun L1 => am_setc L1 none (i + 1) fun L' => .inl (nx, L', st', h) else .inr none
  | _ => .inr none
theorem ok_istore {M : am_MI} {pc i nx : Nat} (hd : decode M.2.1 pc = .ok (.istore i, 2)) (hx : pc + 2 = nx) (hn : i < M.2.2.1) : am_OpOk M pc (am_ist i nx) := by
  intro ev _ L st h
  subst hx
  simp only [am_ist]
  split
  · cases hb : am_nlb L i
    · trivial
    · rw [cond_true, am_setc_eq]
      exact fun r hg => g_istore hd (am_nlb_ok hb) hn hg
  · trivial
theorem ok_istore_n {M : am_MI} {pc i nx : Nat} {k : Fin 4} (hd : decode M.2.1 pc = .ok (.istore_n k, 1)) (hi : (k : Nat) = i) (hx : pc + 1 = nx) (hn : i < M.2.2.1) : am_OpOk M pc (am_ist i nx) := by
  intro ev _ L st h
  subst hx
  subst hi
  simp only [am_ist]
  split
  · cases hb : am_nlb L k
    · trivial
    · rw [cond_true, am_setc_eq]
      exact fun r hg => g_istore_n hd (am_nlb_ok hb) hn hg
  · trivial
theorem ok_astore {M : am_MI} {pc i nx : Nat} (hd : decode M.2.1 pc = .ok (.astore i, 2)) (hx : pc + 2 = nx) (hn : i < M.2.2.1) : am_OpOk M pc (am_ast0 i nx) := by
  intro ev _ L st h
  subst hx
  simp only [am_ast0]
  split
  · cases hb : am_nlb L i
    · trivial
    · rw [cond_true, am_setc_eq]
      exact fun r hg => g_astore hd (am_nlb_ok hb) hn hg
  · trivial
theorem ok_astore_n {M : am_MI} {pc i nx : Nat} {k : Fin 4} (hd : decode M.2.1 pc = .ok (.astore_n k, 1)) (hi : (k : Nat) = i) (hx : pc + 1 = nx) (hn : i < M.2.2.1) : am_OpOk M pc (am_ast0 i nx) := by
  intro ev _ L st h
  subst hx
  subst hi
  simp only [am_ast0]
  split
  · cases hb : am_nlb L k
    · trivial
    · rw [cond_true, am_setc_eq]
      exact fun r hg => g_astore_n hd (am_nlb_ok hb) hn hg
  · trivial
theorem ok_lstore {M : am_MI} {pc i nx : Nat} (hd : decode M.2.1 pc = .ok (.lstore i, 2)) (hx : pc + 2 = nx) (hn : i + 1 < M.2.2.1) : am_OpOk M pc (am_lst i nx) := by
  intro ev _ L st h
  subst hx
  simp only [am_lst]
  split
  · cases hb : am_nlb L i
    · trivial
    · rw [cond_true, am_setc_eq, am_setc_eq]
      exact fun r hg => g_lstore hd (am_nlb_ok hb) hn hg
  · trivial
theorem ok_lstore_n {M : am_MI} {pc i nx : Nat} {k : Fin 4} (hd : decode M.2.1 pc = .ok (.lstore_n k, 1)) (hi : (k : Nat) = i) (hx : pc + 1 = nx) (hn : i + 1 < M.2.2.1) : am_OpOk M pc (am_lst i nx) := by
  intro ev _ L st h
  subst hx
  subst hi
  simp only [am_lst]
  split
  · cases hb : am_nlb L k
    · trivial
    · rw [cond_true, am_setc_eq, am_setc_eq]
      exact fun r hg => g_lstore_n hd (am_nlb_ok hb) hn hg
  · trivial
noncomputable def am_inc (i v nx : Nat) : am_Op := fun _ L st h => match am_nth L i with
  | some (some (.retAddr n)) => bif am_nlb L i then am_force ((n + v) % 4294967296) fun r => am_setc L (some (.retAddr r)) i fun L' => .inl (nx, L', st, h) else .inr none
  | _ => .inr none
theorem ok_iinc {M : am_MI} {pc i v nx : Nat} {d : Int} (hd : decode M.2.1 pc = .ok (.iinc i d, 3)) (hv : Int32.ofInt d = Int32.ofNat v) (hx : pc + 3 = nx) (hn : i < M.2.2.1) : am_OpOk M pc (am_inc i v nx) := by
  intro ev _ L st h
  subst hx
  simp only [am_inc]
  split
  · rename_i n hi
    rw [am_nth_eq] at hi
    cases hb : am_nlb L i
    · trivial
    · rw [cond_true, am_force_eq, am_setc_eq]
      exact fun r hg => g_iinc hd hi hv (am_nlb_ok hb) hn hg
  · trivial
def am_psh (v : Value) (nx : Nat) : am_Op := fun _ L st h => .inl (nx, L, v :: st, h)
theorem ok_iconst {M : am_MI} {pc v nx : Nat} {d : Int} (hd : decode M.2.1 pc = .ok (.iconst d, 1)) (hv : Int32.ofInt d = Int32.ofNat v) (hx : pc + 1 = nx) : am_OpOk M pc (am_psh (.retAddr v) nx) := by
  intro ev _ L st h
  subst hx
  exact fun r hg => g_iconst hd hv hg
theorem ok_bipush {M : am_MI} {pc v nx : Nat} {d : Int} (hd : decode M.2.1 pc = .ok (.bipush d, 2)) (hv : (Int8.ofInt d).toInt32 = Int32.ofNat v) (hx : pc + 2 = nx) : am_OpOk M pc (am_psh (.retAddr v) nx) := by
  intro ev _ L st h
  subst hx
  exact fun r hg => g_bipush hd hv hg
theorem ok_sipush {M : am_MI} {pc v nx : Nat} {d : Int} (hd : decode M.2.1 pc = .ok (.sipush d, 3)) (hv : (Int16.ofInt d).toInt32 = Int32.ofNat v) (hx : pc + 3 = nx) : am_OpOk M pc (am_psh (.retAddr v) nx) := by
  intro ev _ L st h
  subst hx
  exact fun r hg => g_sipush hd hv hg
theorem ok_lconst {M : am_MI} {pc nx : Nat} {d : Fin 2} {v : Int64} (hd : decode M.2.1 pc = .ok (.lconst d, 1)) (hv : Int64.ofNat (d : Nat) = v) (hx : pc + 1 = nx) : am_OpOk M pc (am_psh (.long v) nx) := by
  intro ev _ L st h
  subst hx
  subst hv
  exact fun r hg => g_lconst hd hg
theorem ok_ldc {M : am_MI} {pc i v nx : Nat} (hd : decode M.2.1 pc = .ok (.ldc i, 2)) (hv : Cond.constant M.1.cls i (Int32.ofNat v) ∈ am_tbl) (hx : pc + 2 = nx) : am_OpOk M pc (am_psh (.retAddr v) nx) := by
  intro ev _ L st h
  subst hx
  exact fun r hg => g_ldc hd hv hg
theorem ok_ldcw {M : am_MI} {pc i v nx : Nat} (hd : decode M.2.1 pc = .ok (.ldc_w i, 3)) (hv : Cond.constant M.1.cls i (Int32.ofNat v) ∈ am_tbl) (hx : pc + 3 = nx) : am_OpOk M pc (am_psh (.retAddr v) nx) := by
  intro ev _ L st h
  subst hx
  exact fun r hg => g_ldcw hd hv hg
theorem ok_ldc2 {M : am_MI} {pc i nx : Nat} {v : Int64} (hd : decode M.2.1 pc = .ok (.ldc2_w i, 3)) (hv : Cond.constantLong M.1.cls i v ∈ am_tbl) (hx : pc + 3 = nx) : am_OpOk M pc (am_psh (.long v) nx) := by
  intro ev _ L st h
  subst hx
  exact fun r hg => g_ldc2 hd hv hg
noncomputable def am_bin (f : Nat → Nat → Nat) (nx : Nat) : am_Op := fun _ L st h => match st with
  | .retAddr b :: .retAddr a :: st' => am_force (f a b) fun r => .inl (nx, L, .retAddr r :: st', h)
  | _ => .inr none
def am_add (a b : Nat) : Nat := (a + b) % 4294967296
def am_sub (a b : Nat) : Nat := (a + (4294967296 - b % 4294967296)) % 4294967296
def am_mul (a b : Nat) : Nat := (a * b) % 4294967296
def am_shl (a b : Nat) : Nat := (a <<< (b % 32)) % 4294967296
def am_ushr (a b : Nat) : Nat := (a % 4294967296) >>> (b % 32)
def am_xshr (a b : Nat) : Nat := a >>> (b % 32)
theorem ok_iadd {M : am_MI} {pc nx : Nat} (hd : decode M.2.1 pc = .ok (.iadd, 1)) (hx : pc + 1 = nx) : am_OpOk M pc (am_bin am_add nx) := by
  intro ev _ L st h
  subst hx
  simp only [am_bin]
  split
  · rw [am_force_eq]
    exact fun r hg => g_iadd hd hg
  · trivial
theorem ok_isub {M : am_MI} {pc nx : Nat} (hd : decode M.2.1 pc = .ok (.isub, 1)) (hx : pc + 1 = nx) : am_OpOk M pc (am_bin am_sub nx) := by
  intro ev _ L st h
  subst hx
  simp only [am_bin]
  split
  · rw [am_force_eq]
    exact fun r hg => g_isub hd hg
  · trivial
theorem ok_imul {M : am_MI} {pc nx : Nat} (hd : decode M.2.1 pc = .ok (.imul, 1)) (hx : pc + 1 = nx) : am_OpOk M pc (am_bin am_mul nx) := by
  intro ev _ L st h
  subst hx
  simp only [am_bin]
  split
  · rw [am_force_eq]
    exact fun r hg => g_imul hd hg
  · trivial
theorem ok_iand {M : am_MI} {pc nx : Nat} (hd : decode M.2.1 pc = .ok (.iand, 1)) (hx : pc + 1 = nx) : am_OpOk M pc (am_bin Nat.land nx) := by
  intro ev _ L st h
  subst hx
  simp only [am_bin]
  split
  · rw [am_force_eq]
    exact fun r hg => g_iand hd hg
  · trivial
theorem ok_ior {M : am_MI} {pc nx : Nat} (hd : decode M.2.1 pc = .ok (.ior, 1)) (hx : pc + 1 = nx) : am_OpOk M pc (am_bin Nat.lor nx) := by
  intro ev _ L st h
  subst hx
  simp only [am_bin]
  split
  · rw [am_force_eq]
    exact fun r hg => g_ior hd hg
  · trivial
theorem ok_ixor {M : am_MI} {pc nx : Nat} (hd : decode M.2.1 pc = .ok (.ixor, 1)) (hx : pc + 1 = nx) : am_OpOk M pc (am_bin Nat.xor nx) := by
  intro ev _ L st h
  subst hx
  simp only [am_bin]
  split
  · rw [am_force_eq]
    exact fun r hg => g_ixor hd hg
  · trivial
theorem ok_ishl {M : am_MI} {pc nx : Nat} (hd : decode M.2.1 pc = .ok (.ishl, 1)) (hx : pc + 1 = nx) : am_OpOk M pc (am_bin am_shl nx) := by
  intro ev _ L st h
  subst hx
  simp only [am_bin]
  split
  · rw [am_force_eq]
    exact fun r hg => g_ishl hd hg
  · trivial
theorem ok_iushr {M : am_MI} {pc nx : Nat} (hd : decode M.2.1 pc = .ok (.iushr, 1)) (hx : pc + 1 = nx) : am_OpOk M pc (am_bin am_ushr nx) := by
  intro ev _ L st h
  subst hx
  simp only [am_bin]
  split
  · rw [am_force_eq]
    exact fun r hg => g_iushr hd hg
  · trivial
noncomputable def am_bin1 (f : Nat → Nat → Nat) (nx : Nat) : am_Op := fun _ L st h => match st with
  | .retAddr b :: .retAddr a :: st' => bif Nat.blt a 2147483648 then am_force (f a b) fun r => .inl (nx, L, .retAddr r :: st', h) else .inr none
  | _ => .inr none
theorem ok_ishr {M : am_MI} {pc nx : Nat} (hd : decode M.2.1 pc = .ok (.ishr, 1)) (hx : pc + 1 = nx) : am_OpOk M pc (am_bin1 am_xshr nx) := by
  intro ev _ L st h
  subst hx
  simp only [am_bin1]
  split
  · rename_i b a st'
    cases hb : Nat.blt a 2147483648
    · trivial
    · rw [cond_true, am_force_eq]
      exact fun r hg => g_ishr hd (by simpa [Nat.blt_eq] using hb) hg
  · trivial
noncomputable def am_bin2 (f : Nat → Nat → Nat) (nx : Nat) : am_Op := fun _ L st h => match st with
  | .retAddr b :: .retAddr a :: st' => bif Nat.blt a 2147483648 then (bif Nat.blt b 2147483648 then (bif Nat.blt 0 b then am_force (f a b) fun r => .inl (nx, L, .retAddr r :: st', h) else .inr none) else .inr none) else .inr none
  | _ => .inr none
theorem ok_idiv {M : am_MI} {pc nx : Nat} (hd : decode M.2.1 pc = .ok (.idiv, 1)) (hx : pc + 1 = nx) : am_OpOk M pc (am_bin2 Nat.div nx) := by
  intro ev _ L st h
  subst hx
  simp only [am_bin2]
  split
  · rename_i b a st'
    cases h1 : Nat.blt a 2147483648
    · trivial
    · cases h2 : Nat.blt b 2147483648
      · trivial
      · cases h3 : Nat.blt 0 b
        · trivial
        · rw [cond_true, cond_true, cond_true, am_force_eq]
          exact fun r hg => g_idiv hd (by simpa [Nat.blt_eq] using h1) (by simpa [Nat.blt_eq] using h2) (by simpa [Nat.blt_eq] using h3) hg
  · trivial
theorem ok_irem {M : am_MI} {pc nx : Nat} (hd : decode M.2.1 pc = .ok (.irem, 1)) (hx : pc + 1 = nx) : am_OpOk M pc (am_bin2 Nat.mod nx) := by
  intro ev _ L st h
  subst hx
  simp only [am_bin2]
  split
  · rename_i b a st'
    cases h1 : Nat.blt a 2147483648
    · trivial
    · cases h2 : Nat.blt b 2147483648
      · trivial
      · cases h3 : Nat.blt 0 b
        · trivial
        · rw [cond_true, cond_true, cond_true, am_force_eq]
          exact fun r hg => g_irem hd (by simpa [Nat.blt_eq] using h1) (by simpa [Nat.blt_eq] using h2) (by simpa [Nat.blt_eq] using h3) hg
  · trivial
noncomputable def am_i2c (nx : Nat) : am_Op := fun _ L st h => match st with
  | .retAddr a :: st' => am_force (a % 65536) fun r => .inl (nx, L, .retAddr r :: st', h)
  | _ => .inr none
theorem ok_i2c {M : am_MI} {pc nx : Nat} (hd : decode M.2.1 pc = .ok (.i2c, 1)) (hx : pc + 1 = nx) : am_OpOk M pc (am_i2c nx) := by
  intro ev _ L st h
  subst hx
  simp only [am_i2c]
  split
  · rw [am_force_eq]
    exact fun r hg => g_i2c hd hg
  · trivial
def am_i2l (nx : Nat) : am_Op := fun _ L st h => match st with
  | .retAddr a :: st' => .inl (nx, L, .long (Int32.ofNat a).toInt64 :: st', h)
  | _ => .inr none
theorem ok_i2l {M : am_MI} {pc nx : Nat} (hd : decode M.2.1 pc = .ok (.i2l, 1)) (hx : pc + 1 = nx) : am_OpOk M pc (am_i2l nx) := by
  intro ev _ L st h
  subst hx
  simp only [am_i2l]
  split
  · exact fun r hg => g_i2l hd hg
  · trivial
def am_lbin (f : Int64 → Int64 → Int64) (nx : Nat) : am_Op := fun _ L st h => match st with
  | .long b :: .long a :: st' => .inl (nx, L, .long (f a b) :: st', h)
  | _ => .inr none
theorem ok_ladd {M : am_MI} {pc nx : Nat} (hd : decode M.2.1 pc = .ok (.ladd, 1)) (hx : pc + 1 = nx) : am_OpOk M pc (am_lbin (fun a b => a + b) nx) := by
  intro ev _ L st h
  subst hx
  simp only [am_lbin]
  split
  · exact fun r hg => g_ladd hd hg
  · trivial
theorem ok_lmul {M : am_MI} {pc nx : Nat} (hd : decode M.2.1 pc = .ok (.lmul, 1)) (hx : pc + 1 = nx) : am_OpOk M pc (am_lbin (fun a b => a * b) nx) := by
  intro ev _ L st h
  subst hx
  simp only [am_lbin]
  split
  · exact fun r hg => g_lmul hd hg
  · trivial
def am_lrm (nx : Nat) : am_Op := fun _ L st h => match st with
  | .long b :: .long a :: st' => bif decide (b = 0) then .inr none else .inl (nx, L, .long (a - a / b * b) :: st', h)
  | _ => .inr none
theorem ok_lrem {M : am_MI} {pc nx : Nat} (hd : decode M.2.1 pc = .ok (.lrem, 1)) (hx : pc + 1 = nx) : am_OpOk M pc (am_lrm nx) := by
  intro ev _ L st h
  subst hx
  simp only [am_lrm]
  split
  · rename_i b a st'
    cases hb : decide (b = 0)
    · exact fun r hg => g_lrem hd (of_decide_eq_false hb) hg
    · trivial
  · trivial
def am_lcv (a b : Int64) : Nat := bif decide (b < a) then 1 else (bif decide (a = b) then 0 else 4294967295)
theorem am_lcv_eq (a b : Int64) : lg_cmp a b = Int32.ofNat (am_lcv a b) := by
  unfold lg_cmp am_lcv
  by_cases h1 : b < a
  · simp [h1]
  · by_cases h2 : a = b
    · simp [h1, h2]
    · simp [h1, h2]
def am_lcp (nx : Nat) : am_Op := fun _ L st h => match st with
  | .long b :: .long a :: st' => .inl (nx, L, .retAddr (am_lcv a b) :: st', h)
  | _ => .inr none
theorem ok_lcmp {M : am_MI} {pc nx : Nat} (hd : decode M.2.1 pc = .ok (.lcmp, 1)) (hx : pc + 1 = nx) : am_OpOk M pc (am_lcp nx) := by
  intro ev _ L st h
  subst hx
  simp only [am_lcp]
  split
  · exact fun r hg => g_lcmp hd (am_lcv_eq _ _) hg
  · trivial
def am_c1 (v : Value) : Bool := match v with
  | .long _ => false
  | .double _ => false
  | _ => true
theorem am_c1_ok {v : Value} (h : am_c1 v = true) : v.category = 1 := by cases v <;> first | rfl | (cases h; done)
def am_dup (nx : Nat) : am_Op := fun _ L st h => match st with
  | v :: st' => bif am_c1 v then .inl (nx, L, v :: v :: st', h) else .inr none
  | _ => .inr none
theorem ok_dup {M : am_MI} {pc nx : Nat} (hd : decode M.2.1 pc = .ok (.dup, 1)) (hx : pc + 1 = nx) : am_OpOk M pc (am_dup nx) := by
  intro ev _ L st h
  subst hx
  simp only [am_dup]
  split
  · rename_i v st'
    cases hb : am_c1 v
    · trivial
    · exact fun r hg => g_dup hd (am_c1_ok hb) hg
  · trivial
def am_dup2 (nx : Nat) : am_Op := fun _ L st h => match st with
  | u :: v :: st' => bif am_c1 u then (bif am_c1 v then .inl (nx, L, u :: v :: u :: v :: st', h) else .inr none) else .inr none
  | _ => .inr none
theorem ok_dup2 {M : am_MI} {pc nx : Nat} (hd : decode M.2.1 pc = .ok (.dup2, 1)) (hx : pc + 1 = nx) : am_OpOk M pc (am_dup2 nx) := by
  intro ev _ L st h
  subst hx
  simp only [am_dup2]
  split
  · rename_i u v st'
    cases hb : am_c1 u
    · trivial
    · cases hb2 : am_c1 v
      · trivial
      · exact fun r hg => g_dup2 hd (am_c1_ok hb) (am_c1_ok hb2) hg
  · trivial
def am_pp (nx : Nat) : am_Op := fun _ L st h => match st with
  | v :: st' => bif am_c1 v then .inl (nx, L, st', h) else .inr none
  | _ => .inr none
theorem ok_pop {M : am_MI} {pc nx : Nat} (hd : decode M.2.1 pc = .ok (.pop, 1)) (hx : pc + 1 = nx) : am_OpOk M pc (am_pp nx) := by
  intro ev _ L st h
  subst hx
  simp only [am_pp]
  split
  · rename_i v st'
    cases hb : am_c1 v
    · trivial
    · exact fun r hg => g_pop hd (am_c1_ok hb) hg
  · trivial
def am_jmp (t : Nat) : am_Op := fun _ L st h => .inl (t, L, st, h)
theorem ok_goto {M : am_MI} {pc t : Nat} {d : Int} (hd : decode M.2.1 pc = .ok (.goto d, 3)) (ht : (pc : Int) + d = (t : Int)) : am_OpOk M pc (am_jmp t) := by
  intro ev _ L st h
  exact fun r hg => g_goto hd ht hg
def am_br2 (c : Jvm.ClassFile.Cond) (t nx : Nat) : am_Op := fun _ L st h => match st with
  | .retAddr b :: .retAddr a :: st' => bif am_tc c a b then .inl (t, L, st', h) else .inl (nx, L, st', h)
  | _ => .inr none
def am_br1 (c : Jvm.ClassFile.Cond) (t nx : Nat) : am_Op := fun _ L st h => match st with
  | .retAddr a :: st' => bif am_tc c a 0 then .inl (t, L, st', h) else .inl (nx, L, st', h)
  | _ => .inr none
theorem ok_icmp {M : am_MI} {pc t nx : Nat} {d : Int} {cd : Jvm.ClassFile.Cond} (hd : decode M.2.1 pc = .ok (.if_icmp cd d, 3)) (ht : (pc : Int) + d = (t : Int)) (hx : pc + 3 = nx) : am_OpOk M pc (am_br2 cd t nx) := by
  intro ev _ L st h
  subst hx
  simp only [am_br2]
  split
  · rename_i b a st'
    cases hb : am_tc cd a b <;> cases cd <;> intro r hg
    · exact g_icmp_eq_f hd ht hb hg
    · exact g_icmp_ne_f hd ht hb hg
    · exact g_icmp_lt_f hd ht hb hg
    · exact g_icmp_ge_f hd ht hb hg
    · exact g_icmp_gt_f hd ht hb hg
    · exact g_icmp_le_f hd ht hb hg
    · exact g_icmp_eq_t hd ht hb hg
    · exact g_icmp_ne_t hd ht hb hg
    · exact g_icmp_lt_t hd ht hb hg
    · exact g_icmp_ge_t hd ht hb hg
    · exact g_icmp_gt_t hd ht hb hg
    · exact g_icmp_le_t hd ht hb hg
  · trivial
theorem ok_ifc {M : am_MI} {pc t nx : Nat} {d : Int} {cd : Jvm.ClassFile.Cond} (hd : decode M.2.1 pc = .ok (.ifCond cd d, 3)) (ht : (pc : Int) + d = (t : Int)) (hx : pc + 3 = nx) : am_OpOk M pc (am_br1 cd t nx) := by
  intro ev _ L st h
  subst hx
  simp only [am_br1]
  split
  · rename_i a st'
    cases hb : am_tc cd a 0 <;> cases cd <;> intro r hg
    · exact g_if_eq_f hd ht hb hg
    · exact g_if_ne_f hd ht hb hg
    · exact g_if_lt_f hd ht hb hg
    · exact g_if_ge_f hd ht hb hg
    · exact g_if_gt_f hd ht hb hg
    · exact g_if_le_f hd ht hb hg
    · exact g_if_eq_t hd ht hb hg
    · exact g_if_ne_t hd ht hb hg
    · exact g_if_lt_t hd ht hb hg
    · exact g_if_ge_t hd ht hb hg
    · exact g_if_gt_t hd ht hb hg
    · exact g_if_le_t hd ht hb hg
  · trivial
end
section
/-! ===== instructions on cells ===== -/
noncomputable def am_gf (ci k nx : Nat) : am_Op := fun _ L st h => match st with
  | .ref a :: st' => match am_get h a with
    | some (.inr (c, fs)) => bif Nat.beq c ci then (match am_nth fs k with
      | some v => .inl (nx, L, v :: st', h)
      | none => .inr none) else .inr none
    | _ => .inr none
  | _ => .inr none
theorem ok_gf {M : am_MI} {pc ci k idx nx : Nat} {C : String} {T : u_T} {N : Nat} {ty : Nat → FieldType} (hd : decode M.2.1 pc = .ok (.getfield idx, 3)) (hx : pc + 3 = nx) (hc : am_cok ci C T N ty) (hk : k < N) (hf : am_FL M.1.cls idx T k) : am_OpOk M pc (am_gf ci k nx) := by
  intro ev _ L st h
  subst hx
  simp only [am_gf]
  split
  · rename_i a st'
    split
    · rename_i c fs hh
      cases hb : Nat.beq c ci
      · trivial
      · have e := Nat.eq_of_beq_eq_true hb
        subst e
        rw [cond_true]
        split
        · rename_i v hv
          rw [am_nth_eq] at hv
          exact fun r hg => g_getfield hc hk hf hd hh hv hg
        · trivial
    · trivial
  · trivial
def am_tk (ty : FieldType) : Nat := match ty with
  | .int => 0
  | .boolean => 1
  | .object _ => 2
  | .array _ => 2
  | _ => 9
def am_fitb (tk : Nat) (v : Value) : Bool := match v with
  | .retAddr n => bif Nat.beq tk 0 then true else (bif Nat.beq tk 1 then Nat.blt n 2 else false)
  | .ref _ => Nat.beq tk 2
  | .null => Nat.beq tk 2
  | _ => false
theorem am_fitb_ok {ty : FieldType} {tk : Nat} {v : Value} (h : am_tk ty = tk) (hb : am_fitb tk v = true) : am_fit ty v := by
  subst h
  cases ty <;> cases v <;> first | trivial | (cases hb; done) | skip
  have : Nat.blt _ 2 = true := hb
  show _ < 2
  simpa [Nat.blt_eq] using this
noncomputable def am_pf (ci k tk nx : Nat) : am_Op := fun _ L st h => match st with
  | v :: .ref a :: st' => bif am_fitb tk v then (match am_get h a with
    | some (.inr (c, fs)) => bif Nat.beq c ci then (match am_nth fs k with
      | some _ => am_setc fs v k fun fs' => am_updc h a (.inr (ci, fs')) fun h' => .inl (nx, L, st', h')
      | none => .inr none) else .inr none
    | _ => .inr none) else .inr none
  | _ => .inr none
theorem ok_pf {M : am_MI} {pc ci k idx tk nx : Nat} {C : String} {T : u_T} {N : Nat} {ty : Nat → FieldType} (hd : decode M.2.1 pc = .ok (.putfield idx, 3)) (hx : pc + 3 = nx) (hc : am_cok ci C T N ty) (hk : k < N) (hf : am_FL M.1.cls idx T k) (hfin : (T k).2.2.2 = false ∨ ((T k).2.2.2 = true ∧ M.1.name = "<init>" ∧ (T k).1 = M.1.cls ∧ Cond.fieldLink M.1.cls idx (T k).1 (T k).2.1 (T k).2.2.1 ∈ am_tbl)) (ht : am_tk (ty k) = tk) : am_OpOk M pc (am_pf ci k tk nx) := by
  intro ev _ L st h
  subst hx
  simp only [am_pf]
  split
  · rename_i v a st'
    cases hfb : am_fitb tk v
    · trivial
    · rw [cond_true]
      split
      · rename_i c fs hh
        cases hb : Nat.beq c ci
        · trivial
        · have e := Nat.eq_of_beq_eq_true hb
          subst e
          rw [cond_true]
          split
          · rename_i u hu
            rw [am_nth_eq] at hu
            rw [am_setc_eq, am_updc_eq]
            exact fun r hg => g_putfield hc hk hf hfin hd hh (List.getElem?_eq_some_iff.mp hu).1 (am_fitb_ok ht hfb) hg
          · trivial
      · trivial
  · trivial
noncomputable def am_ald (kd nx : Nat) : am_Op := fun _ L st h => match st with
  | .retAddr i :: .ref a :: st' => match am_get h a with
    | some (.inl (d, n, x)) => bif Nat.beq d kd then (bif Nat.blt i n then (bif Nat.ble n 2147483648 then am_force (am_ag x i) fun v => .inl (nx, L, .retAddr v :: st', h) else .inr none) else .inr none) else .inr none
    | _ => .inr none
  | _ => .inr none
theorem am_ald_ok {M : am_MI} {pc kd nx : Nat} (hr : ∀ {L : am_L} {st : List Value} {h : am_H} {r : am_R} {a i n x : Nat}, am_get h a = some (.inl (kd, n, x)) → i < n → n ≤ 2147483648 → am_Good M nx L (.retAddr (am_ag x i) :: st) h r → am_Good M pc L (.retAddr i :: .ref a :: st) h r) : am_OpOk M pc (am_ald kd nx) := by
  intro ev _ L st h
  simp only [am_ald]
  split
  · rename_i i a st'
    split
    · rename_i d n x hh
      cases hb : Nat.beq d kd
      · trivial
      · have e := Nat.eq_of_beq_eq_true hb
        subst e
        cases h1 : Nat.blt i n
        · trivial
        · cases h2 : Nat.ble n 2147483648
          · trivial
          · rw [cond_true, cond_true, cond_true, am_force_eq]
            exact fun r hg => hr hh (by simpa [Nat.blt_eq] using h1) (Nat.le_of_ble_eq_true h2) hg
    · trivial
  · trivial
theorem ok_iald {M : am_MI} {pc nx : Nat} (hd : decode M.2.1 pc = .ok (.iaload, 1)) (hx : pc + 1 = nx) : am_OpOk M pc (am_ald 0 nx) := by
  subst hx
  exact am_ald_ok (fun hh hi hn hg => g_iaload hd hh hi hn hg)
theorem ok_cald {M : am_MI} {pc nx : Nat} (hd : decode M.2.1 pc = .ok (.caload, 1)) (hx : pc + 1 = nx) : am_OpOk M pc (am_ald 1 nx) := by
  subst hx
  exact am_ald_ok (fun hh hi hn hg => g_caload hd hh hi hn hg)
theorem ok_zald {M : am_MI} {pc nx : Nat} (hd : decode M.2.1 pc = .ok (.baload, 1)) (hx : pc + 1 = nx) : am_OpOk M pc (am_ald 2 nx) := by
  subst hx
  exact am_ald_ok (fun hh hi hn hg => g_zaload hd hh hi hn hg)
noncomputable def am_ast (kd : Nat) (f : Nat → Nat) (nx : Nat) : am_Op := fun _ L st h => match st with
  | .retAddr v :: .retAddr i :: .ref a :: st' => match am_get h a with
    | some (.inl (d, n, x)) => bif Nat.beq d kd then (bif Nat.blt i n then (bif Nat.ble n 2147483648 then am_force (am_as x i (f v)) fun x' => am_updc h a (.inl (kd, n, x')) fun h' => .inl (nx, L, st', h') else .inr none) else .inr none) else .inr none
    | _ => .inr none
  | _ => .inr none
theorem am_ast_ok {M : am_MI} {pc kd nx : Nat} {f : Nat → Nat} (hr : ∀ {L : am_L} {st : List Value} {h : am_H} {r : am_R} {a i n x v : Nat}, am_get h a = some (.inl (kd, n, x)) → i < n → n ≤ 2147483648 → am_Good M nx L st (am_upd h a (.inl (kd, n, am_as x i (f v)))) r → am_Good M pc L (.retAddr v :: .retAddr i :: .ref a :: st) h r) : am_OpOk M pc (am_ast kd f nx) := by
  intro ev _ L st h
  simp only [am_ast]
  split
  · rename_i v i a st'
    split
    · rename_i d n x hh
      cases hb : Nat.beq d kd
      · trivial
      · have e := Nat.eq_of_beq_eq_true hb
        subst e
        cases h1 : Nat.blt i n
        · trivial
        · cases h2 : Nat.ble n 2147483648
          · trivial
          · rw [cond_true, cond_true, cond_true, am_force_eq, am_updc_eq]
            exact fun r hg => hr hh (by simpa [Nat.blt_eq] using h1) (Nat.le_of_ble_eq_true h2) hg
    · trivial
  · trivial
theorem ok_iast {M : am_MI} {pc nx : Nat} (hd : decode M.2.1 pc = .ok (.iastore, 1)) (hx : pc + 1 = nx) : am_OpOk M pc (am_ast 0 (fun v => v) nx) := by
  subst hx
  exact am_ast_ok (fun hh hi hn hg => g_iastore hd hh hi hn hg)
theorem ok_cast {M : am_MI} {pc nx : Nat} (hd : decode M.2.1 pc = .ok (.castore, 1)) (hx : pc + 1 = nx) : am_OpOk M pc (am_ast 1 (fun v => v % 65536) nx) := by
  subst hx
  exact am_ast_ok (fun hh hi hn hg => g_castore hd hh hi hn hg)
theorem ok_zast {M : am_MI} {pc nx : Nat} (hd : decode M.2.1 pc = .ok (.bastore, 1)) (hx : pc + 1 = nx) : am_OpOk M pc (am_ast 2 (fun v => v % 2) nx) := by
  subst hx
  exact am_ast_ok (fun hh hi hn hg => g_zastore hd hh hi hn hg)
noncomputable def am_len (nx : Nat) : am_Op := fun _ L st h => match st with
  | .ref a :: st' => match am_get h a with
    | some (.inl (d, n, _)) => bif Nat.blt d 3 then .inl (nx, L, .retAddr n :: st', h) else .inr none
    | _ => .inr none
  | _ => .inr none
theorem ok_len {M : am_MI} {pc nx : Nat} (hd : decode M.2.1 pc = .ok (.arraylength, 1)) (hx : pc + 1 = nx) : am_OpOk M pc (am_len nx) := by
  intro ev _ L st h
  subst hx
  simp only [am_len]
  split
  · split
    · rename_i d n x hh
      cases hb : Nat.blt d 3
      · trivial
      · exact fun r hg => g_alen hd hh (by simpa [Nat.blt_eq] using hb) hg
    · trivial
  · trivial
noncomputable def am_nwa (kd nx : Nat) : am_Op := fun _ L st h => match st with
  | .retAddr n :: st' => bif Nat.blt n 100000000 then am_pushc h n (.inl (kd, n, 0)) (.inr none) fun c h' => .inl (nx, L, .ref c :: st', h') else .inr none
  | _ => .inr none
theorem ok_nwa {M : am_MI} {pc kd nx : Nat} {at' : ArrayType} (hd : decode M.2.1 pc = .ok (.newarray at', 2)) (hx : pc + 2 = nx) (hty : (newarray.typeOf at' = .int ∧ kd = 0) ∨ (newarray.typeOf at' = .char ∧ kd = 1) ∨ (newarray.typeOf at' = .boolean ∧ kd = 2)) (har : Cond.arrayClass (newarray.typeOf at') ∈ am_tbl) : am_OpOk M pc (am_nwa kd nx) := by
  intro ev _ L st h
  subst hx
  simp only [am_nwa]
  split
  · rename_i n st'
    cases hb : Nat.blt n 100000000
    · trivial
    · rw [cond_true]
      rcases am_pushc_eq h n (.inl (kd, n, 0)) (.inr none) (fun c h' => (.inl (pc + 2, L, .ref c :: st', h') : am_Z)) with e | ⟨h', hn, e⟩
      · rw [e]
        trivial
      · rw [e]
        exact fun r hg => g_newarray hty har hd (by simpa [Nat.blt_eq] using hb) hn hg
  · trivial
noncomputable def am_nw (ci N : Nat) (fs : List Value) (nx : Nat) : am_Op := fun _ L st h => am_pushc h N (.inr (ci, fs)) (.inr none) fun c h' => .inl (nx, L, .ref c :: st, h')
theorem ok_nw {M : am_MI} {pc ci idx nx : Nat} {C : String} {T : u_T} {N : Nat} {ty : Nat → FieldType} {fs : List Value} (hd : decode M.2.1 pc = .ok (.new idx, 3)) (hx : pc + 3 = nx) (hc : am_cok ci C T N ty) (hl : Cond.classLink M.1.cls idx C ∈ am_tbl) (hin : Cond.instantiable C N ∈ am_tbl) (hini : Cond.initialized C ∈ am_tbl) (hfs : ∀ B j, j < N → defaultValue (ty j) = vp_V (fs.map (am_v B)) j) : am_OpOk M pc (am_nw ci N fs nx) := by
  intro ev _ L st h
  subst hx
  simp only [am_nw]
  rcases am_pushc_eq h N (.inr (ci, fs)) (.inr none) (fun c h' => (.inl (pc + 3, L, .ref c :: st, h') : am_Z)) with e | ⟨h', hn, e⟩
  · rw [e]
    trivial
  · rw [e]
    exact fun r hg => g_new hc hl hin hini hfs hd hn hg
/-! ===== calls ===== -/
noncomputable def am_pop {β : Type} (z : β) : Nat → List Value → List Value → (List Value → List Value → β) → β :=
  fun n => Nat.rec (motive := fun _ => List Value → List Value → (List Value → List Value → β) → β) (fun st acc k => k acc st) (fun _ ih st acc k => match st with
    | v :: st' => ih st' (v :: acc) k
    | [] => z) n
theorem am_pop_eq {β : Type} (z : β) (n : Nat) : ∀ (st acc : List Value) (k : List Value → List Value → β), am_pop z n st acc k = z ∨ ∃ as rest, as.length = n ∧ st = as.reverse ++ rest ∧ am_pop z n st acc k = k (as ++ acc) rest := by
  induction n with
  | zero => exact fun st acc k => Or.inr ⟨[], st, rfl, rfl, rfl⟩
  | succ n ih =>
    intro st acc k
    cases st with
    | nil => exact Or.inl rfl
    | cons v st' =>
      rcases ih st' (v :: acc) k with h | ⟨as, rest, h1, h2, h3⟩
      · exact Or.inl h
      · refine Or.inr ⟨as ++ [v], rest, by simp [h1], by simp [h2], ?_⟩
        rw [List.append_assoc]
        exact h3
def am_sh (st : List Value) : Bool := match st with
  | [] => true
  | [_] => true
  | [_, _] => true
  | [_, _, _] => true
  | [_, _, _, _] => true
  | _ => false
theorem am_cat2 (v : Value) : v.category ≤ 2 := by rcases lv_cat v with h | h <;> omega
theorem am_sh_ok {st : List Value} (h : am_sh st = true) : (st.map fun v => v.category).sum ≤ 8 := by
  have c := am_cat2
  unfold am_sh at h
  split at h
  · simp
  · rename_i a
    have := c a
    simp
    omega
  · rename_i a b
    have := c a
    have := c b
    simp
    omega
  · rename_i a b d
    have := c a
    have := c b
    have := c d
    simp
    omega
  · rename_i a b d e
    have := c a
    have := c b
    have := c d
    have := c e
    simp
    omega
  · cases h
def am_back (nx : Nat) (L : am_L) (st : List Value) (x : Option am_R) : am_Z := match x with
  | some (none, h') => .inl (nx, L, st, h')
  | some (some v, h') => .inl (nx, L, v :: st, h')
  | none => .inr none
theorem am_back_ok {M : am_MI} {pc nx : Nat} {L : am_L} {st stk : List Value} {h : am_H} {x : Option am_R} (hr : ∀ r1, x = some r1 → ∀ r, am_Good M nx L (r1.1.toList ++ st) r1.2 r → am_Good M pc L stk h r) : am_St M pc L stk h (am_back nx L st x) := by
  cases x with
  | none => trivial
  | some r1 =>
    obtain ⟨v, h'⟩ := r1
    cases v with
    | none => exact hr _ rfl
    | some v => exact hr _ rfl
noncomputable def am_cs (j n nx : Nat) : am_Op := fun ev L st h => am_pop (.inr none) n st [] fun as rest => bif am_sh rest then am_back nx L rest (ev j as h) else .inr none
theorem ok_cs {M M' : am_MI} {pc j n nx idx : Nat} (hd : decode M.2.1 pc = .ok (.invokestatic idx, 3)) (hx : pc + 3 = nx) (hj : am_mi j = M') (hl : Cond.methodLink M.1.cls idx M'.1 ∈ am_tbl) (hst : Cond.static M'.1 ∈ am_tbl) (hB : am_LkB M M' n) : am_OpOk M pc (am_cs j n nx) := by
  intro ev hev L st h
  subst hx
  subst hj
  simp only [am_cs]
  rcases am_pop_eq (.inr none) n st [] (fun as rest => (bif am_sh rest then am_back (pc + 3) L rest (ev j as h) else .inr none : am_Z)) with e | ⟨as, rest, h1, h2, e⟩
  · rw [e]
    trivial
  · rw [e, List.append_nil]
    cases hs : am_sh rest
    · trivial
    · rw [cond_true, h2]
      exact am_back_ok fun r1 hr1 r hg => g_static hl hst hB h1 (am_sh_ok hs) hd (hev j as h r1 hr1) hg
noncomputable def am_cv (j n ci nx : Nat) : am_Op := fun ev L st h => am_pop (.inr none) n st [] fun as st2 => match st2 with
  | .ref b :: rest => bif am_sh rest then (match am_get h b with
    | some (.inr (c, _)) => bif Nat.beq c ci then am_back nx L rest (ev j (.ref b :: as) h) else .inr none
    | _ => .inr none) else .inr none
  | _ => .inr none
theorem ok_cv {M M' : am_MI} {pc j n ci nx idx : Nat} {T : u_T} {N : Nat} (hd : decode M.2.1 pc = .ok (.invokevirtual idx, 3)) (hx : pc + 3 = nx) (hj : am_mi j = M') (hl : Cond.methodLink M.1.cls idx M'.1 ∈ am_tbl) (hin : Cond.instanceMethod M'.1 ∈ am_tbl) (hse : Cond.selects M'.1.cls M'.1 M'.1 ∈ am_tbl) (hB : am_LkB M M' n) (hc : am_cls[ci]? = some (M'.1.cls, T, N)) : am_OpOk M pc (am_cv j n ci nx) := by
  intro ev hev L st h
  subst hx
  subst hj
  simp only [am_cv]
  rcases am_pop_eq (.inr none) n st [] (fun as st2 => (match st2 with
  | .ref b :: rest => bif am_sh rest then (match am_get h b with
    | some (.inr (c, _)) => bif Nat.beq c ci then am_back (pc + 3) L rest (ev j (.ref b :: as) h) else .inr none
    | _ => .inr none) else .inr none
  | _ => .inr none : am_Z)) with e | ⟨as, rest, h1, h2, e⟩
  · rw [e]
    trivial
  · rw [e, List.append_nil, h2]
    split
    · rename_i b rest'
      cases hs : am_sh rest'
      · trivial
      · rw [cond_true]
        split
        · rename_i c fs hh
          cases hb : Nat.beq c ci
          · trivial
          · have e2 := Nat.eq_of_beq_eq_true hb
            subst e2
            rw [cond_true]
            exact am_back_ok fun r1 hr1 r hg => g_virtual hl hin hse hB hc hh h1 (am_sh_ok hs) hd (hev j _ h r1 hr1) hg
        · trivial
    · trivial
noncomputable def am_cn (j n nx : Nat) : am_Op := fun ev L st h => am_pop (.inr none) n st [] fun as st2 => match st2 with
  | .ref b :: rest => bif am_sh rest then am_back nx L rest (ev j (.ref b :: as) h) else .inr none
  | _ => .inr none
theorem ok_cn {M M' : am_MI} {pc j n nx idx : Nat} (hd : decode M.2.1 pc = .ok (.invokespecial idx, 3)) (hx : pc + 3 = nx) (hj : am_mi j = M') (hl : (Cond.methodLink M.1.cls idx M'.1 ∈ am_tbl) ∨ ∃ host, Cond.methodLinkNest M.1.cls idx M'.1 host ∈ am_nest) (hin : Cond.instanceMethod M'.1 ∈ am_tbl) (hi : M'.1.name = "<init>" ∧ M'.2.2.2.1 = none) (hB : am_LkB M M' n) : am_OpOk M pc (am_cn j n nx) := by
  intro ev hev L st h
  subst hx
  subst hj
  simp only [am_cn]
  rcases am_pop_eq (.inr none) n st [] (fun as st2 => (match st2 with
  | .ref b :: rest => bif am_sh rest then am_back (pc + 3) L rest (ev j (.ref b :: as) h) else .inr none
  | _ => .inr none : am_Z)) with e | ⟨as, rest, h1, h2, e⟩
  · rw [e]
    trivial
  · rw [e, List.append_nil, h2]
    split
    · rename_i b rest'
      cases hs : am_sh rest'
      · trivial
      · rw [cond_true]
        refine am_back_ok fun r1 hr1 r hg => ?_
        rcases hl with hl | ⟨host, hl⟩
        · exact g_init hl hin hi hB h1 (am_sh_ok hs) hd (hev j _ h r1 hr1) hg
        · exact g_initN hl hin hi hB h1 (am_sh_ok hs) hd (hev j _ h r1 hr1) hg
    · trivial
def am_co (nx : Nat) : am_Op := fun _ L st h => match st with
  | .ref _ :: rest => bif am_sh rest then .inl (nx, L, rest, h) else .inr none
  | _ => .inr none
theorem ok_co {M : am_MI} {pc nx idx : Nat} (hd : decode M.2.1 pc = .ok (.invokespecial idx, 3)) (hx : pc + 3 = nx) (hl : Cond.methodLink M.1.cls idx Lib.objectInit ∈ am_tbl) (hin : Cond.instanceMethod Lib.objectInit ∈ am_tbl) (hc : Cond.code Lib.objectInit ⟨#[0xb1]⟩ 1 none ∈ am_tbl) (hR : 1 ≤ M.2.2.2.2.1 ∧ 20 ≤ M.2.2.2.2.2) : am_OpOk M pc (am_co nx) := by
  intro ev _ L st h
  subst hx
  simp only [am_co]
  split
  · rename_i a rest
    cases hs : am_sh rest
    · trivial
    · exact fun r hg => g_objInit hl hin hc hR (am_sh_ok hs) hd hg
  · trivial
noncomputable def am_acp (nx : Nat) : am_Op := fun _ L st h => match st with
  | .retAddr n :: .retAddr dp :: .ref a :: .retAddr sp :: .ref a0 :: rest => bif am_sh rest then (match am_get h a0, am_get h a with
    | some (.inl (d0, n0, c0)), some (.inl (d1, n1, c1)) => bif (Nat.beq d0 0 && Nat.beq d1 0) && ((Nat.ble (sp + n) n0 && Nat.ble (dp + n) n1) && (Nat.blt n0 2147483648 && Nat.blt n1 2147483648)) then am_force (am_cp c0 c1 sp dp n) fun x => am_updc h a (.inl (0, n1, x)) fun h' => .inl (nx, L, rest, h') else .inr none
    | _, _ => .inr none) else .inr none
  | _ => .inr none
theorem ok_acp {M : am_MI} {pc nx idx : Nat} (hd : decode M.2.1 pc = .ok (.invokestatic idx, 3)) (hx : pc + 3 = nx) (hl : Cond.methodLink M.1.cls idx arraycopyName ∈ am_tbl) (hnat : Cond.native arraycopyName ∈ am_tbl) (hst : Cond.static arraycopyName ∈ am_tbl) (hini : Cond.initialized "java/lang/System" ∈ am_tbl) (hR : 1 ≤ M.2.2.2.2.1 ∧ 26 ≤ M.2.2.2.2.2) : am_OpOk M pc (am_acp nx) := by
  intro ev _ L st h
  subst hx
  simp only [am_acp]
  split
  · rename_i n dp a sp a0 rest
    cases hs : am_sh rest
    · trivial
    · rw [cond_true]
      split
      · rename_i d0 n0 c0 d1 n1 c1 e0 e1
        cases hb : ((Nat.beq d0 0 && Nat.beq d1 0) && ((Nat.ble (sp + n) n0 && Nat.ble (dp + n) n1) && (Nat.blt n0 2147483648 && Nat.blt n1 2147483648)))
        · trivial
        · rw [cond_true, am_force_eq, am_updc_eq]
          simp only [Bool.and_eq_true, Nat.beq_eq, Nat.ble_eq, Nat.blt_eq] at hb
          obtain ⟨⟨q1, q2⟩, ⟨q3, q4⟩, q5, q6⟩ := hb
          subst q1
          subst q2
          exact fun r hg => g_acopy hl hnat hst hini hR (am_sh_ok hs) hd e0 e1 q3 q4 q5 q6 hg
      · trivial
  · trivial
/-! ===== ends ===== -/
def am_iret : am_Op := fun _ _ st h => match st with
  | [.retAddr n] => .inr (some (some (.retAddr n), h))
  | _ => .inr none
theorem ok_iret {M : am_MI} {pc : Nat} (hd : decode M.2.1 pc = .ok (.ireturn, 1)) (hr : M.2.2.2.1 = some .int) : am_OpOk M pc am_iret := by
  intro ev _ L st h
  simp only [am_iret]
  split
  · exact g_ireturn hr hd
  · trivial
def am_zret : am_Op := fun _ _ st h => match st with
  | [.retAddr n] => bif Nat.blt n 2 then .inr (some (some (.retAddr n), h)) else .inr none
  | _ => .inr none
theorem ok_zret {M : am_MI} {pc : Nat} (hd : decode M.2.1 pc = .ok (.ireturn, 1)) (hr : M.2.2.2.1 = some .boolean) : am_OpOk M pc am_zret := by
  intro ev _ L st h
  simp only [am_zret]
  split
  · rename_i n
    cases hb : Nat.blt n 2
    · trivial
    · exact g_zreturn hr (by simpa [Nat.blt_eq] using hb) hd
  · trivial
def am_vret : am_Op := fun _ _ st h => match st with
  | [] => .inr (some (none, h))
  | _ => .inr none
theorem ok_vret {M : am_MI} {pc : Nat} (hd : decode M.2.1 pc = .ok (.return_, 1)) (hr : M.2.2.2.1 = none) : am_OpOk M pc am_vret := by
  intro ev _ L st h
  simp only [am_vret]
  split
  · exact g_return hr hd
  · trivial
def am_aret : am_Op := fun _ _ st h => match st with
  | [.ref n] => .inr (some (some (.ref n), h))
  | _ => .inr none
theorem ok_aret {M : am_MI} {pc : Nat} {rt : FieldType} (hd : decode M.2.1 pc = .ok (.areturn, 1)) (hr : M.2.2.2.1 = some rt) (hrt : (∃ n, rt = .object n) ∨ ∃ t, rt = .array t) : am_OpOk M pc am_aret := by
  intro ev _ L st h
  simp only [am_aret]
  split
  · exact g_areturn hr hrt hd
  · trivial
/-! ===== switches ===== -/
noncomputable def am_tsw (lo : Nat) (ts : List Nat) (d : Nat) : am_Op := fun _ L st h => match st with
  | .retAddr a :: st' => bif Nat.blt a lo then .inl (d, L, st', h) else (match am_nth ts (a - lo) with
    | some t => .inl (t, L, st', h)
    | none => bif Nat.blt a 4294967296 then .inl (d, L, st', h) else .inr none)
  | _ => .inr none
theorem ok_tsw {M : am_MI} {pc lo d len : Nat} {ts : List Nat} {dflt hi : Int} {offs : Array Int} (hd : decode M.2.1 pc = .ok (.tableswitch dflt (lo : Int) hi offs, len)) (hs : lo + ts.length ≤ 2147483648) (hh : hi = (lo : Int) + ts.length - 1) (ho : offs.toList = ts.map (fun (t : Nat) => (t : Int) - (pc : Int))) (ht : (pc : Int) + dflt = (d : Int)) : am_OpOk M pc (am_tsw lo ts d) := by
  intro ev _ L st h
  simp only [am_tsw]
  split
  · rename_i a st'
    cases hb : Nat.blt a lo
    · have hb' : ¬ a < lo := by
        intro q
        have h9 : Nat.blt a lo = true := by simpa [Nat.blt_eq] using q
        rw [h9] at hb
        cases hb
      rw [cond_false]
      split
      · rename_i t hn
        rw [am_nth_eq] at hn
        have hl := (List.getElem?_eq_some_iff.mp hn).1
        intro r hg
        refine g_tableIn (off := (t : Int) - (pc : Int)) hd (by omega) (by omega) (by rw [hh]; omega) ?_ (by omega) hg
        have e : ((a : Int) - (lo : Int)).toNat = a - lo := by omega
        rw [e, ← Array.getElem?_toList, ho, List.getElem?_map, hn]
        rfl
      · rename_i hn
        rw [am_nth_eq] at hn
        have hl := List.getElem?_eq_none_iff.mp hn
        cases h4 : Nat.blt a 4294967296
        · trivial
        · intro r hg
          exact g_tableOut hd (by simpa [Nat.blt_eq] using h4) (by omega) (Or.inr (by rw [hh]; omega)) ht hg
    · have hb' : a < lo := by simpa [Nat.blt_eq] using hb
      intro r hg
      exact g_tableOut hd (by omega) (by omega) (Or.inl (by omega)) ht hg
  · trivial
noncomputable def am_lsw (t0 t1 d : Nat) : am_Op := fun _ L st h => match st with
  | .retAddr a :: st' => bif Nat.beq a 0 then .inl (t0, L, st', h) else (bif Nat.beq a 1 then .inl (t1, L, st', h) else (bif Nat.blt a 4294967296 then .inl (d, L, st', h) else .inr none))
  | _ => .inr none
theorem ok_lsw {M : am_MI} {pc t0 t1 d len : Nat} {dflt o0 o1 : Int} (hd : decode M.2.1 pc = .ok (.lookupswitch dflt #[(0, o0), (1, o1)], len)) (h0 : (pc : Int) + o0 = (t0 : Int)) (h1 : (pc : Int) + o1 = (t1 : Int)) (ht : (pc : Int) + dflt = (d : Int)) : am_OpOk M pc (am_lsw t0 t1 d) := by
  intro ev _ L st h
  simp only [am_lsw]
  split
  · rename_i a st'
    cases hb : Nat.beq a 0
    · cases hb1 : Nat.beq a 1
      · cases h4 : Nat.blt a 4294967296
        · trivial
        · intro r hg
          have n0 := Nat.ne_of_beq_eq_false hb
          have n1 := Nat.ne_of_beq_eq_false hb1
          have h4' : a < 4294967296 := by simpa [Nat.blt_eq] using h4
          have hq : ¬ (Int32.ofNat a).toInt = 0 ∧ ¬ (Int32.ofNat a).toInt = 1 := by
            by_cases hs : a < 2147483648
            · rw [an_toIntS hs]
              omega
            · rw [an_toIntN (Nat.not_lt.mp hs) h4']
              omega
          refine g_lookup (off := dflt) hd (by simp) ?_ ht hg
          have e0 : ¬ (0 : Int) = (Int32.ofNat a).toInt := fun q => hq.1 q.symm
          have e1 : ¬ (1 : Int) = (Int32.ofNat a).toInt := fun q => hq.2 q.symm
          generalize (Int32.ofNat a).toInt = z at e0 e1 ⊢
          simp [Op.lookupswitch.offset, e0, e1]
      · have e := Nat.eq_of_beq_eq_true hb1
        subst e
        intro r hg
        exact g_lookup (off := o1) hd (by simp) (by rw [an_toIntS (by omega)]; simp [Op.lookupswitch.offset]) h1 hg
    · have e := Nat.eq_of_beq_eq_true hb
      subst e
      intro r hg
      exact g_lookup (off := o0) hd (by simp) (by rw [an_toIntS (by omega)]; simp [Op.lookupswitch.offset]) h0 hg
  · trivial
/-! ===== Math.max, Math.min ===== -/
theorem g_mmax {M : am_MI} {pc idx x y : Nat} {L : am_L} {st : List Value} {h : am_H} {r : am_R} (hl : Cond.methodLink M.1.cls idx Lib.Math.max.name ∈ am_tbl) (hst : Cond.static Lib.Math.max.name ∈ am_tbl) (hini : Cond.initialized "java/lang/Math" ∈ am_tbl) (hc : Cond.code Lib.Math.max.name Lib.Math.max.code 2 (some .int) ∈ am_tbl) (hR : 1 ≤ M.2.2.2.2.1 ∧ 21 ≤ M.2.2.2.2.2) (hcat : (st.map fun v => v.category).sum ≤ 8) (hd : decode M.2.1 pc = .ok (.invokestatic idx, 3)) (hg : am_Good M (pc + 3) L (.retAddr (bif am_tlt x y then y else x) :: st) h r) : am_Good M pc L (.retAddr y :: .retAddr x :: st) h r := by
  have g1 := hg.1
  refine hg.go fun p l e R s m args below meth c B N0 S0 D dA H locs ls Q X kk => ?_
  obtain ⟨⟨hx, hb, hml, hown, hts, hlk, hr, hnm⟩, ⟨xf, xl, xc, xs⟩, ⟨xn, xt, xB⟩, hK, hw, hS, hL⟩ := X
  have hcat2 : ((st.map (am_v B)).map fun v => v.category).sum ≤ 8 := by rw [List.map_map]; simp only [Function.comp_def, am_v_cat]; exact hcat
  have hR2 := hR.2
  refine va_mmax hx hb (by rw [hml, hL.1]) hown (hts _ hl) (hts _ hst) (hts _ hini) (hts _ hc) (by rw [xf]; exact hR.1) (by rw [xl]; omega) (by rw [xc]; omega) (by rw [xs]; omega) hd (W.eq ?_ (kk ls hL))
  simp only [List.map_cons, am_v]
  cases hb : am_tlt x y
  · rw [if_neg (fun q => by rw [(am_tlt_iff x y).mpr q] at hb; cases hb)]
    rfl
  · rw [if_pos ((am_tlt_iff x y).mp hb)]
    rfl
theorem g_mmin {M : am_MI} {pc idx x y : Nat} {L : am_L} {st : List Value} {h : am_H} {r : am_R} (hl : Cond.methodLink M.1.cls idx Lib.Math.min.name ∈ am_tbl) (hst : Cond.static Lib.Math.min.name ∈ am_tbl) (hini : Cond.initialized "java/lang/Math" ∈ am_tbl) (hc : Cond.code Lib.Math.min.name Lib.Math.min.code 2 (some .int) ∈ am_tbl) (hR : 1 ≤ M.2.2.2.2.1 ∧ 21 ≤ M.2.2.2.2.2) (hcat : (st.map fun v => v.category).sum ≤ 8) (hd : decode M.2.1 pc = .ok (.invokestatic idx, 3)) (hg : am_Good M (pc + 3) L (.retAddr (bif am_tlt y x then y else x) :: st) h r) : am_Good M pc L (.retAddr y :: .retAddr x :: st) h r := by
  have g1 := hg.1
  refine hg.go fun p l e R s m args below meth c B N0 S0 D dA H locs ls Q X kk => ?_
  obtain ⟨⟨hx, hb, hml, hown, hts, hlk, hr, hnm⟩, ⟨xf, xl, xc, xs⟩, ⟨xn, xt, xB⟩, hK, hw, hS, hL⟩ := X
  have hcat2 : ((st.map (am_v B)).map fun v => v.category).sum ≤ 8 := by rw [List.map_map]; simp only [Function.comp_def, am_v_cat]; exact hcat
  have hR2 := hR.2
  refine va_mmin hx hb (by rw [hml, hL.1]) hown (hts _ hl) (hts _ hst) (hts _ hini) (hts _ hc) (by rw [xf]; exact hR.1) (by rw [xl]; omega) (by rw [xc]; omega) (by rw [xs]; omega) hd (W.eq ?_ (kk ls hL))
  simp only [List.map_cons, am_v]
  cases hb : am_tlt y x
  · rw [if_neg (fun q => by rw [(am_tlt_iff y x).mpr q] at hb; cases hb)]
    rfl
  · rw [if_pos ((am_tlt_iff y x).mp hb)]
    rfl
def am_mmax (nx : Nat) : am_Op := fun _ L st h => match st with
  | .retAddr y :: .retAddr x :: rest => bif am_sh rest then .inl (nx, L, .retAddr (bif am_tlt x y then y else x) :: rest, h) else .inr none
  | _ => .inr none
theorem ok_mmax {M : am_MI} {pc nx idx : Nat} (hd : decode M.2.1 pc = .ok (.invokestatic idx, 3)) (hx : pc + 3 = nx) (hl : Cond.methodLink M.1.cls idx Lib.Math.max.name ∈ am_tbl) (hst : Cond.static Lib.Math.max.name ∈ am_tbl) (hini : Cond.initialized "java/lang/Math" ∈ am_tbl) (hc : Cond.code Lib.Math.max.name Lib.Math.max.code 2 (some .int) ∈ am_tbl) (hR : 1 ≤ M.2.2.2.2.1 ∧ 21 ≤ M.2.2.2.2.2) : am_OpOk M pc (am_mmax nx) := by
  intro ev _ L st h
  subst hx
  simp only [am_mmax]
  split
  · rename_i y x rest
    cases hs : am_sh rest
    · trivial
    · exact fun r hg => g_mmax hl hst hini hc hR (am_sh_ok hs) hd hg
  · trivial
def am_mmin (nx : Nat) : am_Op := fun _ L st h => match st with
  | .retAddr y :: .retAddr x :: rest => bif am_sh rest then .inl (nx, L, .retAddr (bif am_tlt y x then y else x) :: rest, h) else .inr none
  | _ => .inr none
theorem ok_mmin {M : am_MI} {pc nx idx : Nat} (hd : decode M.2.1 pc = .ok (.invokestatic idx, 3)) (hx : pc + 3 = nx) (hl : Cond.methodLink M.1.cls idx Lib.Math.min.name ∈ am_tbl) (hst : Cond.static Lib.Math.min.name ∈ am_tbl) (hini : Cond.initialized "java/lang/Math" ∈ am_tbl) (hc : Cond.code Lib.Math.min.name Lib.Math.min.code 2 (some .int) ∈ am_tbl) (hR : 1 ≤ M.2.2.2.2.1 ∧ 21 ≤ M.2.2.2.2.2) : am_OpOk M pc (am_mmin nx) := by
  intro ev _ L st h
  subst hx
  simp only [am_mmin]
  split
  · rename_i y x rest
    cases hs : am_sh rest
    · trivial
    · exact fun r hg => g_mmin hl hst hini hc hR (am_sh_ok hs) hd hg
  · trivial
end
