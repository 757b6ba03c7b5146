section
-- ===== PART A: goes FIRST, ahead of the names: the tables' words, and 'selects' of the private methods out of them =====
/-- a private method of a class that the tables say can be made, by its rows of tables_1 -/
def lw_okq (q : MethodName × Nat) : Prop := (q.1.cls ≠ "java/lang/invoke/MethodHandle" ∧ q.1.cls ≠ "java/lang/invoke/VarHandle") ∧ Cond.instantiable q.1.cls q.2 ∈ tables_1 ∧ Cond.privateMethod q.1 ∈ tables_1 ∧ Cond.instanceMethod q.1 ∈ tables_1
theorem lw_p0 : lw_okq (⟨"OverAndBack$Reader", "readNumbers", "([CII)I"⟩, 2) := ⟨⟨by decide +kernel, by decide +kernel⟩, List.mem_of_getElem? (i := 31) (by decide +kernel), List.mem_of_getElem? (i := 396) (by decide +kernel), List.mem_of_getElem? (i := 397) (by decide +kernel)⟩
theorem lw_p1 : lw_okq (⟨"OverAndBack$Reader", "take", "(CLOverAndBack$Evening;)Z"⟩, 2) := ⟨⟨by decide +kernel, by decide +kernel⟩, List.mem_of_getElem? (i := 31) (by decide +kernel), List.mem_of_getElem? (i := 412) (by decide +kernel), List.mem_of_getElem? (i := 413) (by decide +kernel)⟩
theorem lw_p2 : lw_okq (⟨"OverAndBack$Reader", "takeMinutes", "(LOverAndBack$Evening;)Z"⟩, 2) := ⟨⟨by decide +kernel, by decide +kernel⟩, List.mem_of_getElem? (i := 31) (by decide +kernel), List.mem_of_getElem? (i := 416) (by decide +kernel), List.mem_of_getElem? (i := 417) (by decide +kernel)⟩
theorem lw_p3 : lw_okq (⟨"OverAndBack$Reader", "within", "(III)Z"⟩, 2) := ⟨⟨by decide +kernel, by decide +kernel⟩, List.mem_of_getElem? (i := 31) (by decide +kernel), List.mem_of_getElem? (i := 420) (by decide +kernel), List.mem_of_getElem? (i := 421) (by decide +kernel)⟩
theorem lw_p4 : lw_okq (⟨"OverAndBack$Reader", "takeGoing", "(LOverAndBack$Evening;)Z"⟩, 2) := ⟨⟨by decide +kernel, by decide +kernel⟩, List.mem_of_getElem? (i := 31) (by decide +kernel), List.mem_of_getElem? (i := 424) (by decide +kernel), List.mem_of_getElem? (i := 425) (by decide +kernel)⟩
theorem lw_p5 : lw_okq (⟨"OverAndBack$Reader", "isSpan", "(LOverAndBack$Evening;)Z"⟩, 2) := ⟨⟨by decide +kernel, by decide +kernel⟩, List.mem_of_getElem? (i := 31) (by decide +kernel), List.mem_of_getElem? (i := 435) (by decide +kernel), List.mem_of_getElem? (i := 436) (by decide +kernel)⟩
theorem lw_p6 : lw_okq (⟨"OverAndBack", "takeEvening", "()V"⟩, 17) := ⟨⟨by decide +kernel, by decide +kernel⟩, List.mem_of_getElem? (i := 23) (by decide +kernel), List.mem_of_getElem? (i := 439) (by decide +kernel), List.mem_of_getElem? (i := 440) (by decide +kernel)⟩
theorem lw_p7 : lw_okq (⟨"OverAndBack$Screen", "showStations", "(LOverAndBack$Rows;)V"⟩, 3) := ⟨⟨by decide +kernel, by decide +kernel⟩, List.mem_of_getElem? (i := 148) (by decide +kernel), List.mem_of_getElem? (i := 458) (by decide +kernel), List.mem_of_getElem? (i := 459) (by decide +kernel)⟩
theorem lw_p8 : lw_okq (⟨"OverAndBack$Screen", "put", "(IIIII)V"⟩, 3) := ⟨⟨by decide +kernel, by decide +kernel⟩, List.mem_of_getElem? (i := 148) (by decide +kernel), List.mem_of_getElem? (i := 463) (by decide +kernel), List.mem_of_getElem? (i := 464) (by decide +kernel)⟩
theorem lw_p9 : lw_okq (⟨"OverAndBack$Screen", "showScenes", "(LOverAndBack$Rows;I)V"⟩, 3) := ⟨⟨by decide +kernel, by decide +kernel⟩, List.mem_of_getElem? (i := 148) (by decide +kernel), List.mem_of_getElem? (i := 470) (by decide +kernel), List.mem_of_getElem? (i := 471) (by decide +kernel)⟩
theorem lw_p10 : lw_okq (⟨"OverAndBack$Screen", "showScene", "(LOverAndBack$Rows;I)V"⟩, 3) := ⟨⟨by decide +kernel, by decide +kernel⟩, List.mem_of_getElem? (i := 148) (by decide +kernel), List.mem_of_getElem? (i := 474) (by decide +kernel), List.mem_of_getElem? (i := 475) (by decide +kernel)⟩
theorem lw_p11 : lw_okq (⟨"OverAndBack$Screen", "showBreak", "(LOverAndBack$Rows;I)V"⟩, 3) := ⟨⟨by decide +kernel, by decide +kernel⟩, List.mem_of_getElem? (i := 148) (by decide +kernel), List.mem_of_getElem? (i := 478) (by decide +kernel), List.mem_of_getElem? (i := 479) (by decide +kernel)⟩
theorem lw_p12 : lw_okq (⟨"OverAndBack$Routes", "greatestAt", "(LOverAndBack$Evening;LOverAndBack$Screen;II)I"⟩, 4) := ⟨⟨by decide +kernel, by decide +kernel⟩, List.mem_of_getElem? (i := 195) (by decide +kernel), List.mem_of_getElem? (i := 487) (by decide +kernel), List.mem_of_getElem? (i := 488) (by decide +kernel)⟩
theorem lw_p13 : lw_okq (⟨"OverAndBack$Routes", "worthByGoing", "(LOverAndBack$Screen;III)I"⟩, 4) := ⟨⟨by decide +kernel, by decide +kernel⟩, List.mem_of_getElem? (i := 195) (by decide +kernel), List.mem_of_getElem? (i := 499) (by decide +kernel), List.mem_of_getElem? (i := 500) (by decide +kernel)⟩
theorem lw_p14 : lw_okq (⟨"OverAndBack", "isStation", "(I)Z"⟩, 17) := ⟨⟨by decide +kernel, by decide +kernel⟩, List.mem_of_getElem? (i := 23) (by decide +kernel), List.mem_of_getElem? (i := 585) (by decide +kernel), List.mem_of_getElem? (i := 586) (by decide +kernel)⟩
theorem lw_p15 : lw_okq (⟨"OverAndBack", "isMinute", "(I)Z"⟩, 17) := ⟨⟨by decide +kernel, by decide +kernel⟩, List.mem_of_getElem? (i := 23) (by decide +kernel), List.mem_of_getElem? (i := 589) (by decide +kernel), List.mem_of_getElem? (i := 590) (by decide +kernel)⟩
def lw_privs_1 : List (MethodName × Nat) := [(⟨"OverAndBack$Reader", "readNumbers", "([CII)I"⟩, 2), (⟨"OverAndBack$Reader", "take", "(CLOverAndBack$Evening;)Z"⟩, 2), (⟨"OverAndBack$Reader", "takeMinutes", "(LOverAndBack$Evening;)Z"⟩, 2), (⟨"OverAndBack$Reader", "within", "(III)Z"⟩, 2), (⟨"OverAndBack$Reader", "takeGoing", "(LOverAndBack$Evening;)Z"⟩, 2), (⟨"OverAndBack$Reader", "isSpan", "(LOverAndBack$Evening;)Z"⟩, 2), (⟨"OverAndBack", "takeEvening", "()V"⟩, 17), (⟨"OverAndBack$Screen", "showStations", "(LOverAndBack$Rows;)V"⟩, 3), (⟨"OverAndBack$Screen", "put", "(IIIII)V"⟩, 3), (⟨"OverAndBack$Screen", "showScenes", "(LOverAndBack$Rows;I)V"⟩, 3), (⟨"OverAndBack$Screen", "showScene", "(LOverAndBack$Rows;I)V"⟩, 3), (⟨"OverAndBack$Screen", "showBreak", "(LOverAndBack$Rows;I)V"⟩, 3), (⟨"OverAndBack$Routes", "greatestAt", "(LOverAndBack$Evening;LOverAndBack$Screen;II)I"⟩, 4), (⟨"OverAndBack$Routes", "worthByGoing", "(LOverAndBack$Screen;III)I"⟩, 4), (⟨"OverAndBack", "isStation", "(I)Z"⟩, 17), (⟨"OverAndBack", "isMinute", "(I)Z"⟩, 17)]
theorem lw_r1 : ∀ q ∈ lw_privs_1, lw_okq q := List.forall_mem_cons.mpr ⟨lw_p0, List.forall_mem_cons.mpr ⟨lw_p1, List.forall_mem_cons.mpr ⟨lw_p2, List.forall_mem_cons.mpr ⟨lw_p3, List.forall_mem_cons.mpr ⟨lw_p4, List.forall_mem_cons.mpr ⟨lw_p5, List.forall_mem_cons.mpr ⟨lw_p6, List.forall_mem_cons.mpr ⟨lw_p7, List.forall_mem_cons.mpr ⟨lw_p8, List.forall_mem_cons.mpr ⟨lw_p9, List.forall_mem_cons.mpr ⟨lw_p10, List.forall_mem_cons.mpr ⟨lw_p11, List.forall_mem_cons.mpr ⟨lw_p12, List.forall_mem_cons.mpr ⟨lw_p13, List.forall_mem_cons.mpr ⟨lw_p14, List.forall_mem_cons.mpr ⟨lw_p15, fun _ h => absurd h List.not_mem_nil⟩⟩⟩⟩⟩⟩⟩⟩⟩⟩⟩⟩⟩⟩⟩⟩
theorem lw_p16 : lw_okq (⟨"OverAndBack", "isWatcher", "(I)Z"⟩, 17) := ⟨⟨by decide +kernel, by decide +kernel⟩, List.mem_of_getElem? (i := 23) (by decide +kernel), List.mem_of_getElem? (i := 617) (by decide +kernel), List.mem_of_getElem? (i := 618) (by decide +kernel)⟩
theorem lw_p17 : lw_okq (⟨"OverAndBack", "follow", "(ILOverAndBack$Screen;)V"⟩, 17) := ⟨⟨by decide +kernel, by decide +kernel⟩, List.mem_of_getElem? (i := 23) (by decide +kernel), List.mem_of_getElem? (i := 621) (by decide +kernel), List.mem_of_getElem? (i := 622) (by decide +kernel)⟩
theorem lw_p18 : lw_okq (⟨"OverAndBack$Walk", "start", "(I)V"⟩, 7) := ⟨⟨by decide +kernel, by decide +kernel⟩, List.mem_of_getElem? (i := 164) (by decide +kernel), List.mem_of_getElem? (i := 634) (by decide +kernel), List.mem_of_getElem? (i := 635) (by decide +kernel)⟩
theorem lw_p19 : lw_okq (⟨"OverAndBack$Walk", "goTo", "(III)V"⟩, 7) := ⟨⟨by decide +kernel, by decide +kernel⟩, List.mem_of_getElem? (i := 164) (by decide +kernel), List.mem_of_getElem? (i := 646) (by decide +kernel), List.mem_of_getElem? (i := 647) (by decide +kernel)⟩
theorem lw_p20 : lw_okq (⟨"OverAndBack$Walk", "look", "(LOverAndBack$Screen;I)V"⟩, 7) := ⟨⟨by decide +kernel, by decide +kernel⟩, List.mem_of_getElem? (i := 164) (by decide +kernel), List.mem_of_getElem? (i := 650) (by decide +kernel), List.mem_of_getElem? (i := 651) (by decide +kernel)⟩
theorem lw_p21 : lw_okq (⟨"OverAndBack$Walk", "wish", "(LOverAndBack$Screen;IIII)I"⟩, 7) := ⟨⟨by decide +kernel, by decide +kernel⟩, List.mem_of_getElem? (i := 164) (by decide +kernel), List.mem_of_getElem? (i := 672) (by decide +kernel), List.mem_of_getElem? (i := 673) (by decide +kernel)⟩
theorem lw_p22 : lw_okq (⟨"OverAndBack$Walk", "unbroken", "(LOverAndBack$Screen;II)I"⟩, 7) := ⟨⟨by decide +kernel, by decide +kernel⟩, List.mem_of_getElem? (i := 164) (by decide +kernel), List.mem_of_getElem? (i := 676) (by decide +kernel), List.mem_of_getElem? (i := 677) (by decide +kernel)⟩
theorem lw_p23 : lw_okq (⟨"OverAndBack$Walk", "worthiest", "(LOverAndBack$Screen;II)I"⟩, 7) := ⟨⟨by decide +kernel, by decide +kernel⟩, List.mem_of_getElem? (i := 164) (by decide +kernel), List.mem_of_getElem? (i := 681) (by decide +kernel), List.mem_of_getElem? (i := 682) (by decide +kernel)⟩
theorem lw_p24 : lw_okq (⟨"OverAndBack$Routes", "goalWorth", "(LOverAndBack$Evening;LOverAndBack$Screen;III)I"⟩, 4) := ⟨⟨by decide +kernel, by decide +kernel⟩, List.mem_of_getElem? (i := 195) (by decide +kernel), List.mem_of_getElem? (i := 745) (by decide +kernel), List.mem_of_getElem? (i := 746) (by decide +kernel)⟩
theorem lw_p25 : lw_okq (⟨"OverAndBack$Learning", "survey", "(I)V"⟩, 11) := ⟨⟨by decide +kernel, by decide +kernel⟩, List.mem_of_getElem? (i := 216) (by decide +kernel), List.mem_of_getElem? (i := 758) (by decide +kernel), List.mem_of_getElem? (i := 759) (by decide +kernel)⟩
theorem lw_p26 : lw_okq (⟨"OverAndBack$Learning", "reach", "(IIII)V"⟩, 11) := ⟨⟨by decide +kernel, by decide +kernel⟩, List.mem_of_getElem? (i := 216) (by decide +kernel), List.mem_of_getElem? (i := 764) (by decide +kernel), List.mem_of_getElem? (i := 765) (by decide +kernel)⟩
theorem lw_p27 : lw_okq (⟨"OverAndBack$Learning", "takeOut", "(III)V"⟩, 11) := ⟨⟨by decide +kernel, by decide +kernel⟩, List.mem_of_getElem? (i := 216) (by decide +kernel), List.mem_of_getElem? (i := 774) (by decide +kernel), List.mem_of_getElem? (i := 775) (by decide +kernel)⟩
theorem lw_p28 : lw_okq (⟨"OverAndBack$Learning", "passOn", "(IIIII)V"⟩, 11) := ⟨⟨by decide +kernel, by decide +kernel⟩, List.mem_of_getElem? (i := 216) (by decide +kernel), List.mem_of_getElem? (i := 778) (by decide +kernel), List.mem_of_getElem? (i := 779) (by decide +kernel)⟩
theorem lw_p29 : lw_okq (⟨"OverAndBack$Learning", "note", "(II)V"⟩, 11) := ⟨⟨by decide +kernel, by decide +kernel⟩, List.mem_of_getElem? (i := 216) (by decide +kernel), List.mem_of_getElem? (i := 782) (by decide +kernel), List.mem_of_getElem? (i := 783) (by decide +kernel)⟩
theorem lw_p30 : lw_okq (⟨"OverAndBack$Learning", "see", "(IIII)V"⟩, 11) := ⟨⟨by decide +kernel, by decide +kernel⟩, List.mem_of_getElem? (i := 216) (by decide +kernel), List.mem_of_getElem? (i := 786) (by decide +kernel), List.mem_of_getElem? (i := 787) (by decide +kernel)⟩
theorem lw_p31 : lw_okq (⟨"OverAndBack", "fairBound", "(I)I"⟩, 17) := ⟨⟨by decide +kernel, by decide +kernel⟩, List.mem_of_getElem? (i := 23) (by decide +kernel), List.mem_of_getElem? (i := 813) (by decide +kernel), List.mem_of_getElem? (i := 814) (by decide +kernel)⟩
def lw_privs_2 : List (MethodName × Nat) := [(⟨"OverAndBack", "isWatcher", "(I)Z"⟩, 17), (⟨"OverAndBack", "follow", "(ILOverAndBack$Screen;)V"⟩, 17), (⟨"OverAndBack$Walk", "start", "(I)V"⟩, 7), (⟨"OverAndBack$Walk", "goTo", "(III)V"⟩, 7), (⟨"OverAndBack$Walk", "look", "(LOverAndBack$Screen;I)V"⟩, 7), (⟨"OverAndBack$Walk", "wish", "(LOverAndBack$Screen;IIII)I"⟩, 7), (⟨"OverAndBack$Walk", "unbroken", "(LOverAndBack$Screen;II)I"⟩, 7), (⟨"OverAndBack$Walk", "worthiest", "(LOverAndBack$Screen;II)I"⟩, 7), (⟨"OverAndBack$Routes", "goalWorth", "(LOverAndBack$Evening;LOverAndBack$Screen;III)I"⟩, 4), (⟨"OverAndBack$Learning", "survey", "(I)V"⟩, 11), (⟨"OverAndBack$Learning", "reach", "(IIII)V"⟩, 11), (⟨"OverAndBack$Learning", "takeOut", "(III)V"⟩, 11), (⟨"OverAndBack$Learning", "passOn", "(IIIII)V"⟩, 11), (⟨"OverAndBack$Learning", "note", "(II)V"⟩, 11), (⟨"OverAndBack$Learning", "see", "(IIII)V"⟩, 11), (⟨"OverAndBack", "fairBound", "(I)I"⟩, 17)]
theorem lw_r2 : ∀ q ∈ lw_privs_2, lw_okq q := List.forall_mem_cons.mpr ⟨lw_p16, List.forall_mem_cons.mpr ⟨lw_p17, List.forall_mem_cons.mpr ⟨lw_p18, List.forall_mem_cons.mpr ⟨lw_p19, List.forall_mem_cons.mpr ⟨lw_p20, List.forall_mem_cons.mpr ⟨lw_p21, List.forall_mem_cons.mpr ⟨lw_p22, List.forall_mem_cons.mpr ⟨lw_p23, List.forall_mem_cons.mpr ⟨lw_p24, List.forall_mem_cons.mpr ⟨lw_p25, List.forall_mem_cons.mpr ⟨lw_p26, List.forall_mem_cons.mpr ⟨lw_p27, List.forall_mem_cons.mpr ⟨lw_p28, List.forall_mem_cons.mpr ⟨lw_p29, List.forall_mem_cons.mpr ⟨lw_p30, List.forall_mem_cons.mpr ⟨lw_p31, fun _ h => absurd h List.not_mem_nil⟩⟩⟩⟩⟩⟩⟩⟩⟩⟩⟩⟩⟩⟩⟩⟩
theorem lw_p32 : lw_okq (⟨"OverAndBack$Box", "weigh", "(LOverAndBack$Evening;LOverAndBack$Screen;)V"⟩, 9) := ⟨⟨by decide +kernel, by decide +kernel⟩, List.mem_of_getElem? (i := 262) (by decide +kernel), List.mem_of_getElem? (i := 828) (by decide +kernel), List.mem_of_getElem? (i := 829) (by decide +kernel)⟩
theorem lw_p33 : lw_okq (⟨"OverAndBack$Box", "tryWay", "(LOverAndBack$Evening;)V"⟩, 9) := ⟨⟨by decide +kernel, by decide +kernel⟩, List.mem_of_getElem? (i := 262) (by decide +kernel), List.mem_of_getElem? (i := 837) (by decide +kernel), List.mem_of_getElem? (i := 838) (by decide +kernel)⟩
theorem lw_p34 : lw_okq (⟨"OverAndBack$Box", "leastOf", "(LOverAndBack$Evening;)I"⟩, 9) := ⟨⟨by decide +kernel, by decide +kernel⟩, List.mem_of_getElem? (i := 262) (by decide +kernel), List.mem_of_getElem? (i := 842) (by decide +kernel), List.mem_of_getElem? (i := 843) (by decide +kernel)⟩
theorem lw_p35 : lw_okq (⟨"OverAndBack$Box", "nextWay", "(I)Z"⟩, 9) := ⟨⟨by decide +kernel, by decide +kernel⟩, List.mem_of_getElem? (i := 262) (by decide +kernel), List.mem_of_getElem? (i := 847) (by decide +kernel), List.mem_of_getElem? (i := 848) (by decide +kernel)⟩
theorem lw_p36 : lw_okq (⟨"OverAndBack", "isWatcherOrPlan", "(I)Z"⟩, 17) := ⟨⟨by decide +kernel, by decide +kernel⟩, List.mem_of_getElem? (i := 23) (by decide +kernel), List.mem_of_getElem? (i := 863) (by decide +kernel), List.mem_of_getElem? (i := 864) (by decide +kernel)⟩
theorem lw_p37 : lw_okq (⟨"OverAndBack", "keptPlan", "(I)LOverAndBack$Plan;"⟩, 17) := ⟨⟨by decide +kernel, by decide +kernel⟩, List.mem_of_getElem? (i := 23) (by decide +kernel), List.mem_of_getElem? (i := 906) (by decide +kernel), List.mem_of_getElem? (i := 907) (by decide +kernel)⟩
theorem lw_p38 : lw_okq (⟨"OverAndBackModel", "readItem", "()Z"⟩, 55) := ⟨⟨by decide +kernel, by decide +kernel⟩, List.mem_of_getElem? (i := 926) (by decide +kernel), List.mem_of_getElem? (i := 1118) (by decide +kernel), List.mem_of_getElem? (i := 1119) (by decide +kernel)⟩
theorem lw_p39 : lw_okq (⟨"OverAndBackModel", "letterAt", "(I)I"⟩, 55) := ⟨⟨by decide +kernel, by decide +kernel⟩, List.mem_of_getElem? (i := 926) (by decide +kernel), List.mem_of_getElem? (i := 1122) (by decide +kernel), List.mem_of_getElem? (i := 1123) (by decide +kernel)⟩
theorem lw_p40 : lw_okq (⟨"OverAndBackModel", "readLength", "()Z"⟩, 55) := ⟨⟨by decide +kernel, by decide +kernel⟩, List.mem_of_getElem? (i := 926) (by decide +kernel), List.mem_of_getElem? (i := 1126) (by decide +kernel), List.mem_of_getElem? (i := 1127) (by decide +kernel)⟩
theorem lw_p41 : lw_okq (⟨"OverAndBackModel", "readNumbers", "(I)Z"⟩, 55) := ⟨⟨by decide +kernel, by decide +kernel⟩, List.mem_of_getElem? (i := 926) (by decide +kernel), List.mem_of_getElem? (i := 1130) (by decide +kernel), List.mem_of_getElem? (i := 1131) (by decide +kernel)⟩
theorem lw_p42 : lw_okq (⟨"OverAndBackModel", "isTold", "(III)Z"⟩, 55) := ⟨⟨by decide +kernel, by decide +kernel⟩, List.mem_of_getElem? (i := 926) (by decide +kernel), List.mem_of_getElem? (i := 1137) (by decide +kernel), List.mem_of_getElem? (i := 1138) (by decide +kernel)⟩
theorem lw_p43 : lw_okq (⟨"OverAndBackModel", "readStation", "()Z"⟩, 55) := ⟨⟨by decide +kernel, by decide +kernel⟩, List.mem_of_getElem? (i := 926) (by decide +kernel), List.mem_of_getElem? (i := 1141) (by decide +kernel), List.mem_of_getElem? (i := 1142) (by decide +kernel)⟩
theorem lw_p44 : lw_okq (⟨"OverAndBackModel", "readSceneOf", "()Z"⟩, 55) := ⟨⟨by decide +kernel, by decide +kernel⟩, List.mem_of_getElem? (i := 926) (by decide +kernel), List.mem_of_getElem? (i := 1145) (by decide +kernel), List.mem_of_getElem? (i := 1146) (by decide +kernel)⟩
theorem lw_p45 : lw_okq (⟨"OverAndBackModel", "isSpan", "()Z"⟩, 55) := ⟨⟨by decide +kernel, by decide +kernel⟩, List.mem_of_getElem? (i := 926) (by decide +kernel), List.mem_of_getElem? (i := 1149) (by decide +kernel), List.mem_of_getElem? (i := 1150) (by decide +kernel)⟩
theorem lw_p46 : lw_okq (⟨"OverAndBackModel", "readBreak", "()Z"⟩, 55) := ⟨⟨by decide +kernel, by decide +kernel⟩, List.mem_of_getElem? (i := 926) (by decide +kernel), List.mem_of_getElem? (i := 1156) (by decide +kernel), List.mem_of_getElem? (i := 1157) (by decide +kernel)⟩
theorem lw_p47 : lw_okq (⟨"OverAndBackModel", "readChance", "()Z"⟩, 55) := ⟨⟨by decide +kernel, by decide +kernel⟩, List.mem_of_getElem? (i := 926) (by decide +kernel), List.mem_of_getElem? (i := 1160) (by decide +kernel), List.mem_of_getElem? (i := 1161) (by decide +kernel)⟩
def lw_privs_3 : List (MethodName × Nat) := [(⟨"OverAndBack$Box", "weigh", "(LOverAndBack$Evening;LOverAndBack$Screen;)V"⟩, 9), (⟨"OverAndBack$Box", "tryWay", "(LOverAndBack$Evening;)V"⟩, 9), (⟨"OverAndBack$Box", "leastOf", "(LOverAndBack$Evening;)I"⟩, 9), (⟨"OverAndBack$Box", "nextWay", "(I)Z"⟩, 9), (⟨"OverAndBack", "isWatcherOrPlan", "(I)Z"⟩, 17), (⟨"OverAndBack", "keptPlan", "(I)LOverAndBack$Plan;"⟩, 17), (⟨"OverAndBackModel", "readItem", "()Z"⟩, 55), (⟨"OverAndBackModel", "letterAt", "(I)I"⟩, 55), (⟨"OverAndBackModel", "readLength", "()Z"⟩, 55), (⟨"OverAndBackModel", "readNumbers", "(I)Z"⟩, 55), (⟨"OverAndBackModel", "isTold", "(III)Z"⟩, 55), (⟨"OverAndBackModel", "readStation", "()Z"⟩, 55), (⟨"OverAndBackModel", "readSceneOf", "()Z"⟩, 55), (⟨"OverAndBackModel", "isSpan", "()Z"⟩, 55), (⟨"OverAndBackModel", "readBreak", "()Z"⟩, 55), (⟨"OverAndBackModel", "readChance", "()Z"⟩, 55)]
theorem lw_r3 : ∀ q ∈ lw_privs_3, lw_okq q := List.forall_mem_cons.mpr ⟨lw_p32, List.forall_mem_cons.mpr ⟨lw_p33, List.forall_mem_cons.mpr ⟨lw_p34, List.forall_mem_cons.mpr ⟨lw_p35, List.forall_mem_cons.mpr ⟨lw_p36, List.forall_mem_cons.mpr ⟨lw_p37, List.forall_mem_cons.mpr ⟨lw_p38, List.forall_mem_cons.mpr ⟨lw_p39, List.forall_mem_cons.mpr ⟨lw_p40, List.forall_mem_cons.mpr ⟨lw_p41, List.forall_mem_cons.mpr ⟨lw_p42, List.forall_mem_cons.mpr ⟨lw_p43, List.forall_mem_cons.mpr ⟨lw_p44, List.forall_mem_cons.mpr ⟨lw_p45, List.forall_mem_cons.mpr ⟨lw_p46, List.forall_mem_cons.mpr ⟨lw_p47, fun _ h => absurd h List.not_mem_nil⟩⟩⟩⟩⟩⟩⟩⟩⟩⟩⟩⟩⟩⟩⟩⟩
theorem lw_p48 : lw_okq (⟨"OverAndBackModel", "readGoes", "()Z"⟩, 55) := ⟨⟨by decide +kernel, by decide +kernel⟩, List.mem_of_getElem? (i := 926) (by decide +kernel), List.mem_of_getElem? (i := 1164) (by decide +kernel), List.mem_of_getElem? (i := 1165) (by decide +kernel)⟩
theorem lw_p49 : lw_okq (⟨"OverAndBackModel", "readRuleOf", "()Z"⟩, 55) := ⟨⟨by decide +kernel, by decide +kernel⟩, List.mem_of_getElem? (i := 926) (by decide +kernel), List.mem_of_getElem? (i := 1168) (by decide +kernel), List.mem_of_getElem? (i := 1169) (by decide +kernel)⟩
theorem lw_p50 : lw_okq (⟨"OverAndBackModel", "readWatcherOf", "()Z"⟩, 55) := ⟨⟨by decide +kernel, by decide +kernel⟩, List.mem_of_getElem? (i := 926) (by decide +kernel), List.mem_of_getElem? (i := 1172) (by decide +kernel), List.mem_of_getElem? (i := 1173) (by decide +kernel)⟩
theorem lw_p51 : lw_okq (⟨"OverAndBackModel", "isStation", "(I)Z"⟩, 55) := ⟨⟨by decide +kernel, by decide +kernel⟩, List.mem_of_getElem? (i := 926) (by decide +kernel), List.mem_of_getElem? (i := 1185) (by decide +kernel), List.mem_of_getElem? (i := 1186) (by decide +kernel)⟩
theorem lw_p52 : lw_okq (⟨"OverAndBackModel", "isMinute", "(I)Z"⟩, 55) := ⟨⟨by decide +kernel, by decide +kernel⟩, List.mem_of_getElem? (i := 926) (by decide +kernel), List.mem_of_getElem? (i := 1189) (by decide +kernel), List.mem_of_getElem? (i := 1190) (by decide +kernel)⟩
theorem lw_p53 : lw_okq (⟨"OverAndBackModel", "layCase", "(II)V"⟩, 55) := ⟨⟨by decide +kernel, by decide +kernel⟩, List.mem_of_getElem? (i := 926) (by decide +kernel), List.mem_of_getElem? (i := 1193) (by decide +kernel), List.mem_of_getElem? (i := 1194) (by decide +kernel)⟩
theorem lw_p54 : lw_okq (⟨"OverAndBackModel", "laySpots", "(I)V"⟩, 55) := ⟨⟨by decide +kernel, by decide +kernel⟩, List.mem_of_getElem? (i := 926) (by decide +kernel), List.mem_of_getElem? (i := 1197) (by decide +kernel), List.mem_of_getElem? (i := 1198) (by decide +kernel)⟩
theorem lw_p55 : lw_okq (⟨"OverAndBackModel", "breaks", "([II)V"⟩, 55) := ⟨⟨by decide +kernel, by decide +kernel⟩, List.mem_of_getElem? (i := 926) (by decide +kernel), List.mem_of_getElem? (i := 1201) (by decide +kernel), List.mem_of_getElem? (i := 1202) (by decide +kernel)⟩
theorem lw_p56 : lw_okq (⟨"OverAndBackModel", "layBreaks", "()V"⟩, 55) := ⟨⟨by decide +kernel, by decide +kernel⟩, List.mem_of_getElem? (i := 926) (by decide +kernel), List.mem_of_getElem? (i := 1208) (by decide +kernel), List.mem_of_getElem? (i := 1209) (by decide +kernel)⟩
theorem lw_p57 : lw_okq (⟨"OverAndBackModel", "closed", "(I)I"⟩, 55) := ⟨⟨by decide +kernel, by decide +kernel⟩, List.mem_of_getElem? (i := 926) (by decide +kernel), List.mem_of_getElem? (i := 1219) (by decide +kernel), List.mem_of_getElem? (i := 1220) (by decide +kernel)⟩
theorem lw_p58 : lw_okq (⟨"OverAndBackModel", "isWatcher", "(I)Z"⟩, 55) := ⟨⟨by decide +kernel, by decide +kernel⟩, List.mem_of_getElem? (i := 926) (by decide +kernel), List.mem_of_getElem? (i := 1227) (by decide +kernel), List.mem_of_getElem? (i := 1228) (by decide +kernel)⟩
theorem lw_p59 : lw_okq (⟨"OverAndBackModel", "watchesOf", "(I)V"⟩, 55) := ⟨⟨by decide +kernel, by decide +kernel⟩, List.mem_of_getElem? (i := 926) (by decide +kernel), List.mem_of_getElem? (i := 1231) (by decide +kernel), List.mem_of_getElem? (i := 1232) (by decide +kernel)⟩
theorem lw_p60 : lw_okq (⟨"OverAndBackModel", "watches", "(II)V"⟩, 55) := ⟨⟨by decide +kernel, by decide +kernel⟩, List.mem_of_getElem? (i := 926) (by decide +kernel), List.mem_of_getElem? (i := 1235) (by decide +kernel), List.mem_of_getElem? (i := 1236) (by decide +kernel)⟩
theorem lw_p61 : lw_okq (⟨"OverAndBackModel", "begins", "()V"⟩, 55) := ⟨⟨by decide +kernel, by decide +kernel⟩, List.mem_of_getElem? (i := 926) (by decide +kernel), List.mem_of_getElem? (i := 1239) (by decide +kernel), List.mem_of_getElem? (i := 1240) (by decide +kernel)⟩
theorem lw_p62 : lw_okq (⟨"OverAndBackModel", "wants", "(IIII)I"⟩, 55) := ⟨⟨by decide +kernel, by decide +kernel⟩, List.mem_of_getElem? (i := 926) (by decide +kernel), List.mem_of_getElem? (i := 1243) (by decide +kernel), List.mem_of_getElem? (i := 1244) (by decide +kernel)⟩
theorem lw_p63 : lw_okq (⟨"OverAndBackModel", "wantsOver", "(II)I"⟩, 55) := ⟨⟨by decide +kernel, by decide +kernel⟩, List.mem_of_getElem? (i := 926) (by decide +kernel), List.mem_of_getElem? (i := 1247) (by decide +kernel), List.mem_of_getElem? (i := 1248) (by decide +kernel)⟩
def lw_privs_4 : List (MethodName × Nat) := [(⟨"OverAndBackModel", "readGoes", "()Z"⟩, 55), (⟨"OverAndBackModel", "readRuleOf", "()Z"⟩, 55), (⟨"OverAndBackModel", "readWatcherOf", "()Z"⟩, 55), (⟨"OverAndBackModel", "isStation", "(I)Z"⟩, 55), (⟨"OverAndBackModel", "isMinute", "(I)Z"⟩, 55), (⟨"OverAndBackModel", "layCase", "(II)V"⟩, 55), (⟨"OverAndBackModel", "laySpots", "(I)V"⟩, 55), (⟨"OverAndBackModel", "breaks", "([II)V"⟩, 55), (⟨"OverAndBackModel", "layBreaks", "()V"⟩, 55), (⟨"OverAndBackModel", "closed", "(I)I"⟩, 55), (⟨"OverAndBackModel", "isWatcher", "(I)Z"⟩, 55), (⟨"OverAndBackModel", "watchesOf", "(I)V"⟩, 55), (⟨"OverAndBackModel", "watches", "(II)V"⟩, 55), (⟨"OverAndBackModel", "begins", "()V"⟩, 55), (⟨"OverAndBackModel", "wants", "(IIII)I"⟩, 55), (⟨"OverAndBackModel", "wantsOver", "(II)I"⟩, 55)]
theorem lw_r4 : ∀ q ∈ lw_privs_4, lw_okq q := List.forall_mem_cons.mpr ⟨lw_p48, List.forall_mem_cons.mpr ⟨lw_p49, List.forall_mem_cons.mpr ⟨lw_p50, List.forall_mem_cons.mpr ⟨lw_p51, List.forall_mem_cons.mpr ⟨lw_p52, List.forall_mem_cons.mpr ⟨lw_p53, List.forall_mem_cons.mpr ⟨lw_p54, List.forall_mem_cons.mpr ⟨lw_p55, List.forall_mem_cons.mpr ⟨lw_p56, List.forall_mem_cons.mpr ⟨lw_p57, List.forall_mem_cons.mpr ⟨lw_p58, List.forall_mem_cons.mpr ⟨lw_p59, List.forall_mem_cons.mpr ⟨lw_p60, List.forall_mem_cons.mpr ⟨lw_p61, List.forall_mem_cons.mpr ⟨lw_p62, List.forall_mem_cons.mpr ⟨lw_p63, fun _ h => absurd h List.not_mem_nil⟩⟩⟩⟩⟩⟩⟩⟩⟩⟩⟩⟩⟩⟩⟩⟩
theorem lw_p64 : lw_okq (⟨"OverAndBackModel", "wantsBest", "(II)I"⟩, 55) := ⟨⟨by decide +kernel, by decide +kernel⟩, List.mem_of_getElem? (i := 926) (by decide +kernel), List.mem_of_getElem? (i := 1251) (by decide +kernel), List.mem_of_getElem? (i := 1252) (by decide +kernel)⟩
theorem lw_p65 : lw_okq (⟨"OverAndBackModel", "sees", "(II)V"⟩, 55) := ⟨⟨by decide +kernel, by decide +kernel⟩, List.mem_of_getElem? (i := 926) (by decide +kernel), List.mem_of_getElem? (i := 1255) (by decide +kernel), List.mem_of_getElem? (i := 1256) (by decide +kernel)⟩
theorem lw_p66 : lw_okq (⟨"OverAndBackModel", "layMost", "()V"⟩, 55) := ⟨⟨by decide +kernel, by decide +kernel⟩, List.mem_of_getElem? (i := 926) (by decide +kernel), List.mem_of_getElem? (i := 1259) (by decide +kernel), List.mem_of_getElem? (i := 1260) (by decide +kernel)⟩
theorem lw_p67 : lw_okq (⟨"OverAndBackModel", "bestGoing", "(II)I"⟩, 55) := ⟨⟨by decide +kernel, by decide +kernel⟩, List.mem_of_getElem? (i := 926) (by decide +kernel), List.mem_of_getElem? (i := 1263) (by decide +kernel), List.mem_of_getElem? (i := 1264) (by decide +kernel)⟩
theorem lw_p68 : lw_okq (⟨"OverAndBackModel", "byGoing", "(II)I"⟩, 55) := ⟨⟨by decide +kernel, by decide +kernel⟩, List.mem_of_getElem? (i := 926) (by decide +kernel), List.mem_of_getElem? (i := 1267) (by decide +kernel), List.mem_of_getElem? (i := 1268) (by decide +kernel)⟩
theorem lw_p69 : lw_okq (⟨"OverAndBackModel", "remembers", "(I)V"⟩, 55) := ⟨⟨by decide +kernel, by decide +kernel⟩, List.mem_of_getElem? (i := 926) (by decide +kernel), List.mem_of_getElem? (i := 1279) (by decide +kernel), List.mem_of_getElem? (i := 1280) (by decide +kernel)⟩
theorem lw_p70 : lw_okq (⟨"OverAndBackModel", "layPlan", "()V"⟩, 55) := ⟨⟨by decide +kernel, by decide +kernel⟩, List.mem_of_getElem? (i := 926) (by decide +kernel), List.mem_of_getElem? (i := 1295) (by decide +kernel), List.mem_of_getElem? (i := 1296) (by decide +kernel)⟩
theorem lw_p71 : lw_okq (⟨"OverAndBackModel", "plans", "()V"⟩, 55) := ⟨⟨by decide +kernel, by decide +kernel⟩, List.mem_of_getElem? (i := 926) (by decide +kernel), List.mem_of_getElem? (i := 1303) (by decide +kernel), List.mem_of_getElem? (i := 1304) (by decide +kernel)⟩
theorem lw_p72 : lw_okq (⟨"OverAndBackModel", "layFew", "(I)V"⟩, 55) := ⟨⟨by decide +kernel, by decide +kernel⟩, List.mem_of_getElem? (i := 926) (by decide +kernel), List.mem_of_getElem? (i := 1319) (by decide +kernel), List.mem_of_getElem? (i := 1320) (by decide +kernel)⟩
theorem lw_p73 : lw_okq (⟨"OverAndBackModel", "comes", "(IIII)V"⟩, 55) := ⟨⟨by decide +kernel, by decide +kernel⟩, List.mem_of_getElem? (i := 926) (by decide +kernel), List.mem_of_getElem? (i := 1326) (by decide +kernel), List.mem_of_getElem? (i := 1327) (by decide +kernel)⟩
theorem lw_p74 : lw_okq (⟨"OverAndBackModel", "findFew", "(I)V"⟩, 55) := ⟨⟨by decide +kernel, by decide +kernel⟩, List.mem_of_getElem? (i := 926) (by decide +kernel), List.mem_of_getElem? (i := 1330) (by decide +kernel), List.mem_of_getElem? (i := 1331) (by decide +kernel)⟩
theorem lw_p75 : lw_okq (⟨"OverAndBackModel", "turns", "()I"⟩, 55) := ⟨⟨by decide +kernel, by decide +kernel⟩, List.mem_of_getElem? (i := 926) (by decide +kernel), List.mem_of_getElem? (i := 1349) (by decide +kernel), List.mem_of_getElem? (i := 1350) (by decide +kernel)⟩
theorem lw_p76 : lw_okq (⟨"OverAndBackModel", "holds", "(I)V"⟩, 55) := ⟨⟨by decide +kernel, by decide +kernel⟩, List.mem_of_getElem? (i := 926) (by decide +kernel), List.mem_of_getElem? (i := 1353) (by decide +kernel), List.mem_of_getElem? (i := 1354) (by decide +kernel)⟩
theorem lw_p77 : lw_okq (⟨"OverAndBackModel", "shows", "()V"⟩, 55) := ⟨⟨by decide +kernel, by decide +kernel⟩, List.mem_of_getElem? (i := 926) (by decide +kernel), List.mem_of_getElem? (i := 1357) (by decide +kernel), List.mem_of_getElem? (i := 1358) (by decide +kernel)⟩
theorem lw_p78 : lw_okq (⟨"OverAndBackModel", "leastOf", "()I"⟩, 55) := ⟨⟨by decide +kernel, by decide +kernel⟩, List.mem_of_getElem? (i := 926) (by decide +kernel), List.mem_of_getElem? (i := 1361) (by decide +kernel), List.mem_of_getElem? (i := 1362) (by decide +kernel)⟩
theorem lw_p79 : lw_okq (⟨"OverAndBackModel", "goesOn", "(I)V"⟩, 55) := ⟨⟨by decide +kernel, by decide +kernel⟩, List.mem_of_getElem? (i := 926) (by decide +kernel), List.mem_of_getElem? (i := 1369) (by decide +kernel), List.mem_of_getElem? (i := 1370) (by decide +kernel)⟩
def lw_privs_5 : List (MethodName × Nat) := [(⟨"OverAndBackModel", "wantsBest", "(II)I"⟩, 55), (⟨"OverAndBackModel", "sees", "(II)V"⟩, 55), (⟨"OverAndBackModel", "layMost", "()V"⟩, 55), (⟨"OverAndBackModel", "bestGoing", "(II)I"⟩, 55), (⟨"OverAndBackModel", "byGoing", "(II)I"⟩, 55), (⟨"OverAndBackModel", "remembers", "(I)V"⟩, 55), (⟨"OverAndBackModel", "layPlan", "()V"⟩, 55), (⟨"OverAndBackModel", "plans", "()V"⟩, 55), (⟨"OverAndBackModel", "layFew", "(I)V"⟩, 55), (⟨"OverAndBackModel", "comes", "(IIII)V"⟩, 55), (⟨"OverAndBackModel", "findFew", "(I)V"⟩, 55), (⟨"OverAndBackModel", "turns", "()I"⟩, 55), (⟨"OverAndBackModel", "holds", "(I)V"⟩, 55), (⟨"OverAndBackModel", "shows", "()V"⟩, 55), (⟨"OverAndBackModel", "leastOf", "()I"⟩, 55), (⟨"OverAndBackModel", "goesOn", "(I)V"⟩, 55)]
theorem lw_r5 : ∀ q ∈ lw_privs_5, lw_okq q := List.forall_mem_cons.mpr ⟨lw_p64, List.forall_mem_cons.mpr ⟨lw_p65, List.forall_mem_cons.mpr ⟨lw_p66, List.forall_mem_cons.mpr ⟨lw_p67, List.forall_mem_cons.mpr ⟨lw_p68, List.forall_mem_cons.mpr ⟨lw_p69, List.forall_mem_cons.mpr ⟨lw_p70, List.forall_mem_cons.mpr ⟨lw_p71, List.forall_mem_cons.mpr ⟨lw_p72, List.forall_mem_cons.mpr ⟨lw_p73, List.forall_mem_cons.mpr ⟨lw_p74, List.forall_mem_cons.mpr ⟨lw_p75, List.forall_mem_cons.mpr ⟨lw_p76, List.forall_mem_cons.mpr ⟨lw_p77, List.forall_mem_cons.mpr ⟨lw_p78, List.forall_mem_cons.mpr ⟨lw_p79, fun _ h => absurd h List.not_mem_nil⟩⟩⟩⟩⟩⟩⟩⟩⟩⟩⟩⟩⟩⟩⟩⟩
theorem lw_p80 : lw_okq (⟨"OverAndBackModel", "weight", "(I)I"⟩, 55) := ⟨⟨by decide +kernel, by decide +kernel⟩, List.mem_of_getElem? (i := 926) (by decide +kernel), List.mem_of_getElem? (i := 1373) (by decide +kernel), List.mem_of_getElem? (i := 1374) (by decide +kernel)⟩
theorem lw_p81 : lw_okq (⟨"OverAndBackModel", "layNight", "(I)V"⟩, 55) := ⟨⟨by decide +kernel, by decide +kernel⟩, List.mem_of_getElem? (i := 926) (by decide +kernel), List.mem_of_getElem? (i := 1393) (by decide +kernel), List.mem_of_getElem? (i := 1394) (by decide +kernel)⟩
def lw_privs_6 : List (MethodName × Nat) := [(⟨"OverAndBackModel", "weight", "(I)I"⟩, 55), (⟨"OverAndBackModel", "layNight", "(I)V"⟩, 55)]
theorem lw_r6 : ∀ q ∈ lw_privs_6, lw_okq q := List.forall_mem_cons.mpr ⟨lw_p80, List.forall_mem_cons.mpr ⟨lw_p81, fun _ h => absurd h List.not_mem_nil⟩⟩
def lw_privs : List (MethodName × Nat) := lw_privs_1 ++ (lw_privs_2 ++ (lw_privs_3 ++ (lw_privs_4 ++ (lw_privs_5 ++ (lw_privs_6)))))
def lw_tbl : List Cond := k2_sels lw_privs ++ tables_1
theorem lw_privs_ok : ∀ q ∈ lw_privs, lw_okq q := by
  show ∀ q ∈ lw_privs_1 ++ (lw_privs_2 ++ (lw_privs_3 ++ (lw_privs_4 ++ (lw_privs_5 ++ (lw_privs_6))))), lw_okq q
  exact List.forall_mem_append.mpr ⟨lw_r1, List.forall_mem_append.mpr ⟨lw_r2, List.forall_mem_append.mpr ⟨lw_r3, List.forall_mem_append.mpr ⟨lw_r4, List.forall_mem_append.mpr ⟨lw_r5, lw_r6⟩⟩⟩⟩⟩
end
section
def RX0 : String := "OverAndBack$Box"
def TX0 : u_T := fun k => match k with
  | 0 => ("OverAndBack$Box", "whole", "[I", true)
  | 1 => ("OverAndBack$Box", "late", "[I", true)
  | 2 => ("OverAndBack$Box", "holders", "[I", true)
  | 3 => ("OverAndBack$Box", "bestHolders", "[I", true)
  | 4 => ("OverAndBack$Box", "worth", "[I", true)
  | 5 => ("OverAndBack$Box", "bestWorth", "[I", true)
  | 6 => ("OverAndBack$Box", "turns", "I", false)
  | 7 => ("OverAndBack$Box", "least", "I", false)
  | _ => ("OverAndBack$Box", "shared", "Z", false)
def tyX0 : Nat → FieldType := fun k => match k with
  | 0 => .array .int
  | 1 => .array .int
  | 2 => .array .int
  | 3 => .array .int
  | 4 => .array .int
  | 5 => .array .int
  | 6 => .int
  | 7 => .int
  | _ => .boolean
theorem nmX0 : ∀ a, a < 9 → ∀ b, b < 9 → a ≠ b → (TX0 a).2.1 ≠ (TX0 b).2.1 := by decide +kernel
theorem tyX0_ok : ∀ k, k < 9 → parseFieldDescriptor (TX0 k).2.2.1 = some (tyX0 k) := by decide +kernel

def RX1 : String := "OverAndBack$Evening"
def TX1 : u_T := fun k => match k with
  | 0 => ("OverAndBack$Evening", "stations", "LOverAndBack$Rows;", true)
  | 1 => ("OverAndBack$Evening", "scenes", "LOverAndBack$Rows;", true)
  | 2 => ("OverAndBack$Evening", "breaks", "LOverAndBack$Rows;", true)
  | 3 => ("OverAndBack$Evening", "chances", "LOverAndBack$Rows;", true)
  | 4 => ("OverAndBack$Evening", "rules", "LOverAndBack$Rows;", true)
  | 5 => ("OverAndBack$Evening", "watchers", "LOverAndBack$Rows;", true)
  | 6 => ("OverAndBack$Evening", "minutes", "I", false)
  | _ => ("OverAndBack$Evening", "going", "I", false)
def tyX1 : Nat → FieldType := fun k => match k with
  | 0 => .object "OverAndBack$Rows"
  | 1 => .object "OverAndBack$Rows"
  | 2 => .object "OverAndBack$Rows"
  | 3 => .object "OverAndBack$Rows"
  | 4 => .object "OverAndBack$Rows"
  | 5 => .object "OverAndBack$Rows"
  | 6 => .int
  | _ => .int
theorem nmX1 : ∀ a, a < 8 → ∀ b, b < 8 → a ≠ b → (TX1 a).2.1 ≠ (TX1 b).2.1 := by decide +kernel
theorem tyX1_ok : ∀ k, k < 8 → parseFieldDescriptor (TX1 k).2.2.1 = some (tyX1 k) := by decide +kernel

def RX2 : String := "OverAndBack$Facts"
def TX2 : u_T := fun k => match k with
  | _ => ("OverAndBack$Facts", "closed", "[I", true)
def tyX2 : Nat → FieldType := fun k => match k with
  | _ => .array .int
theorem nmX2 : ∀ a, a < 1 → ∀ b, b < 1 → a ≠ b → (TX2 a).2.1 ≠ (TX2 b).2.1 := by decide +kernel
theorem tyX2_ok : ∀ k, k < 1 → parseFieldDescriptor (TX2 k).2.2.1 = some (tyX2 k) := by decide +kernel

def RX3 : String := "OverAndBack$Learning"
def TX3 : u_T := fun k => match k with
  | 0 => ("OverAndBack$Learning", "fewest", "[I", true)
  | 1 => ("OverAndBack$Learning", "screen", "LOverAndBack$Screen;", true)
  | 2 => ("OverAndBack$Learning", "facts", "LOverAndBack$Facts;", true)
  | 3 => ("OverAndBack$Learning", "stations", "I", false)
  | 4 => ("OverAndBack$Learning", "going", "I", false)
  | 5 => ("OverAndBack$Learning", "allTold", "I", false)
  | 6 => ("OverAndBack$Learning", "end", "I", false)
  | 7 => ("OverAndBack$Learning", "fewestGoings", "I", false)
  | 8 => ("OverAndBack$Learning", "minutesByFewest", "I", false)
  | 9 => ("OverAndBack$Learning", "minutesByAny", "I", false)
  | _ => ("OverAndBack$Learning", "goingsToBeat", "I", false)
def tyX3 : Nat → FieldType := fun k => match k with
  | 0 => .array .int
  | 1 => .object "OverAndBack$Screen"
  | 2 => .object "OverAndBack$Facts"
  | 3 => .int
  | 4 => .int
  | 5 => .int
  | 6 => .int
  | 7 => .int
  | 8 => .int
  | 9 => .int
  | _ => .int
theorem nmX3 : ∀ a, a < 11 → ∀ b, b < 11 → a ≠ b → (TX3 a).2.1 ≠ (TX3 b).2.1 := by decide +kernel
theorem tyX3_ok : ∀ k, k < 11 → parseFieldDescriptor (TX3 k).2.2.1 = some (tyX3 k) := by decide +kernel

def RX4 : String := "OverAndBack$Past"
def TX4 : u_T := fun k => match k with
  | 0 => ("OverAndBack$Past", "changes", "[I", true)
  | _ => ("OverAndBack$Past", "size", "I", false)
def tyX4 : Nat → FieldType := fun k => match k with
  | 0 => .array .int
  | _ => .int
theorem nmX4 : ∀ a, a < 2 → ∀ b, b < 2 → a ≠ b → (TX4 a).2.1 ≠ (TX4 b).2.1 := by decide +kernel
theorem tyX4_ok : ∀ k, k < 2 → parseFieldDescriptor (TX4 k).2.2.1 = some (tyX4 k) := by decide +kernel

def RX5 : String := "OverAndBack$Plan"
def TX5 : u_T := fun k => match k with
  | 0 => ("OverAndBack$Plan", "minutes", "[I", true)
  | 1 => ("OverAndBack$Plan", "stations", "[I", true)
  | 2 => ("OverAndBack$Plan", "size", "I", false)
  | _ => ("OverAndBack$Plan", "start", "I", false)
def tyX5 : Nat → FieldType := fun k => match k with
  | 0 => .array .int
  | 1 => .array .int
  | 2 => .int
  | _ => .int
theorem nmX5 : ∀ a, a < 4 → ∀ b, b < 4 → a ≠ b → (TX5 a).2.1 ≠ (TX5 b).2.1 := by decide +kernel
theorem tyX5_ok : ∀ k, k < 4 → parseFieldDescriptor (TX5 k).2.2.1 = some (tyX5 k) := by decide +kernel

def RX6 : String := "OverAndBack$Reader"
def TX6 : u_T := fun k => match k with
  | 0 => ("OverAndBack$Reader", "number", "[I", true)
  | _ => ("OverAndBack$Reader", "numbers", "I", false)
def tyX6 : Nat → FieldType := fun k => match k with
  | 0 => .array .int
  | _ => .int
theorem nmX6 : ∀ a, a < 2 → ∀ b, b < 2 → a ≠ b → (TX6 a).2.1 ≠ (TX6 b).2.1 := by decide +kernel
theorem tyX6_ok : ∀ k, k < 2 → parseFieldDescriptor (TX6 k).2.2.1 = some (tyX6 k) := by decide +kernel

def RX7 : String := "OverAndBack$Routes"
def TX7 : u_T := fun k => match k with
  | 0 => ("OverAndBack$Routes", "greatest", "[I", true)
  | 1 => ("OverAndBack$Routes", "minutes", "I", false)
  | 2 => ("OverAndBack$Routes", "firstMinute", "I", false)
  | _ => ("OverAndBack$Routes", "firstStation", "I", false)
def tyX7 : Nat → FieldType := fun k => match k with
  | 0 => .array .int
  | 1 => .int
  | 2 => .int
  | _ => .int
theorem nmX7 : ∀ a, a < 4 → ∀ b, b < 4 → a ≠ b → (TX7 a).2.1 ≠ (TX7 b).2.1 := by decide +kernel
theorem tyX7_ok : ∀ k, k < 4 → parseFieldDescriptor (TX7 k).2.2.1 = some (tyX7 k) := by decide +kernel

def RX8 : String := "OverAndBack$Rows"
def TX8 : u_T := fun k => match k with
  | 0 => ("OverAndBack$Rows", "cells", "[I", true)
  | 1 => ("OverAndBack$Rows", "width", "I", true)
  | 2 => ("OverAndBack$Rows", "limit", "I", true)
  | _ => ("OverAndBack$Rows", "size", "I", false)
def tyX8 : Nat → FieldType := fun k => match k with
  | 0 => .array .int
  | 1 => .int
  | 2 => .int
  | _ => .int
theorem nmX8 : ∀ a, a < 4 → ∀ b, b < 4 → a ≠ b → (TX8 a).2.1 ≠ (TX8 b).2.1 := by decide +kernel
theorem tyX8_ok : ∀ k, k < 4 → parseFieldDescriptor (TX8 k).2.2.1 = some (tyX8 k) := by decide +kernel

def RX9 : String := "OverAndBack$Screen"
def TX9 : u_T := fun k => match k with
  | 0 => ("OverAndBack$Screen", "worth", "[I", true)
  | 1 => ("OverAndBack$Screen", "fact", "[I", true)
  | _ => ("OverAndBack$Screen", "broken", "[I", true)
def tyX9 : Nat → FieldType := fun k => match k with
  | 0 => .array .int
  | 1 => .array .int
  | _ => .array .int
theorem nmX9 : ∀ a, a < 3 → ∀ b, b < 3 → a ≠ b → (TX9 a).2.1 ≠ (TX9 b).2.1 := by decide +kernel
theorem tyX9_ok : ∀ k, k < 3 → parseFieldDescriptor (TX9 k).2.2.1 = some (tyX9 k) := by decide +kernel

def RX10 : String := "OverAndBack$Walk"
def TX10 : u_T := fun k => match k with
  | 0 => ("OverAndBack$Walk", "place", "[I", true)
  | 1 => ("OverAndBack$Walk", "goal", "[I", true)
  | 2 => ("OverAndBack$Walk", "here", "I", false)
  | 3 => ("OverAndBack$Walk", "freeFrom", "I", false)
  | 4 => ("OverAndBack$Walk", "worth", "I", false)
  | 5 => ("OverAndBack$Walk", "seen", "I", false)
  | _ => ("OverAndBack$Walk", "goings", "I", false)
def tyX10 : Nat → FieldType := fun k => match k with
  | 0 => .array .int
  | 1 => .array .int
  | 2 => .int
  | 3 => .int
  | 4 => .int
  | 5 => .int
  | _ => .int
theorem nmX10 : ∀ a, a < 7 → ∀ b, b < 7 → a ≠ b → (TX10 a).2.1 ≠ (TX10 b).2.1 := by decide +kernel
theorem tyX10_ok : ∀ k, k < 7 → parseFieldDescriptor (TX10 k).2.2.1 = some (tyX10 k) := by decide +kernel

def RX11 : String := "OverAndBack"
def TX11 : u_T := fun k => match k with
  | 0 => ("OverAndBack", "text", "[C", true)
  | 1 => ("OverAndBack", "length", "I", false)
  | 2 => ("OverAndBack", "reader", "LOverAndBack$Reader;", true)
  | 3 => ("OverAndBack", "evening", "LOverAndBack$Evening;", false)
  | 4 => ("OverAndBack", "spare", "LOverAndBack$Evening;", false)
  | 5 => ("OverAndBack", "facts", "LOverAndBack$Facts;", true)
  | 6 => ("OverAndBack", "screen", "LOverAndBack$Screen;", true)
  | 7 => ("OverAndBack", "trial", "LOverAndBack$Screen;", true)
  | 8 => ("OverAndBack", "walk", "LOverAndBack$Walk;", true)
  | 9 => ("OverAndBack", "routes", "LOverAndBack$Routes;", true)
  | 10 => ("OverAndBack", "learning", "LOverAndBack$Learning;", true)
  | 11 => ("OverAndBack", "box", "LOverAndBack$Box;", true)
  | 12 => ("OverAndBack", "thePlan", "LOverAndBack$Plan;", true)
  | 13 => ("OverAndBack", "past", "LOverAndBack$Past;", true)
  | 14 => ("OverAndBack", "firstKept", "LOverAndBack$Plan;", true)
  | 15 => ("OverAndBack", "secondKept", "LOverAndBack$Plan;", true)
  | _ => ("OverAndBack", "kept", "I", false)
def tyX11 : Nat → FieldType := fun k => match k with
  | 0 => .array .char
  | 1 => .int
  | 2 => .object "OverAndBack$Reader"
  | 3 => .object "OverAndBack$Evening"
  | 4 => .object "OverAndBack$Evening"
  | 5 => .object "OverAndBack$Facts"
  | 6 => .object "OverAndBack$Screen"
  | 7 => .object "OverAndBack$Screen"
  | 8 => .object "OverAndBack$Walk"
  | 9 => .object "OverAndBack$Routes"
  | 10 => .object "OverAndBack$Learning"
  | 11 => .object "OverAndBack$Box"
  | 12 => .object "OverAndBack$Plan"
  | 13 => .object "OverAndBack$Past"
  | 14 => .object "OverAndBack$Plan"
  | 15 => .object "OverAndBack$Plan"
  | _ => .int
theorem nmX11 : ∀ a, a < 17 → ∀ b, b < 17 → a ≠ b → (TX11 a).2.1 ≠ (TX11 b).2.1 := by decide +kernel
theorem tyX11_ok : ∀ k, k < 17 → parseFieldDescriptor (TX11 k).2.2.1 = some (tyX11 k) := by decide +kernel

def RX12 : String := "OverAndBackModel"
def TX12 : u_T := fun k => match k with
  | 0 => ("OverAndBackModel", "length", "I", false)
  | 1 => ("OverAndBackModel", "goes", "I", false)
  | 2 => ("OverAndBackModel", "stations", "I", false)
  | 3 => ("OverAndBackModel", "worth", "[I", true)
  | 4 => ("OverAndBackModel", "scenes", "I", false)
  | 5 => ("OverAndBackModel", "scene", "[I", true)
  | 6 => ("OverAndBackModel", "breaks", "I", false)
  | 7 => ("OverAndBackModel", "broken", "[I", true)
  | 8 => ("OverAndBackModel", "comings", "I", false)
  | 9 => ("OverAndBackModel", "coming", "[I", true)
  | 10 => ("OverAndBackModel", "rules", "I", false)
  | 11 => ("OverAndBackModel", "rule", "[I", true)
  | 12 => ("OverAndBackModel", "watchers", "I", false)
  | 13 => ("OverAndBackModel", "watcher", "[I", true)
  | 14 => ("OverAndBackModel", "text", "[I", true)
  | 15 => ("OverAndBackModel", "texted", "I", false)
  | 16 => ("OverAndBackModel", "at", "I", false)
  | 17 => ("OverAndBackModel", "told", "[I", true)
  | 18 => ("OverAndBackModel", "readLength", "I", false)
  | 19 => ("OverAndBackModel", "readGoes", "I", false)
  | 20 => ("OverAndBackModel", "readStations", "I", false)
  | 21 => ("OverAndBackModel", "readWorth", "[I", true)
  | 22 => ("OverAndBackModel", "readScenes", "I", false)
  | 23 => ("OverAndBackModel", "readScene", "[I", true)
  | 24 => ("OverAndBackModel", "readBreaks", "I", false)
  | 25 => ("OverAndBackModel", "readBroken", "[I", true)
  | 26 => ("OverAndBackModel", "readComings", "I", false)
  | 27 => ("OverAndBackModel", "readComing", "[I", true)
  | 28 => ("OverAndBackModel", "readRules", "I", false)
  | 29 => ("OverAndBackModel", "readRule", "[I", true)
  | 30 => ("OverAndBackModel", "readWatchers", "I", false)
  | 31 => ("OverAndBackModel", "readWatcher", "[I", true)
  | 32 => ("OverAndBackModel", "onWorth", "[I", true)
  | 33 => ("OverAndBackModel", "onFact", "[I", true)
  | 34 => ("OverAndBackModel", "onBreak", "[Z", true)
  | 35 => ("OverAndBackModel", "on", "[I", true)
  | 36 => ("OverAndBackModel", "saw", "I", false)
  | 37 => ("OverAndBackModel", "facts", "I", false)
  | 38 => ("OverAndBackModel", "went", "I", false)
  | 39 => ("OverAndBackModel", "from", "I", false)
  | 40 => ("OverAndBackModel", "goings", "I", false)
  | 41 => ("OverAndBackModel", "going", "[I", true)
  | 42 => ("OverAndBackModel", "acts", "I", false)
  | 43 => ("OverAndBackModel", "act", "[I", true)
  | 44 => ("OverAndBackModel", "firstWrong", "I", false)
  | 45 => ("OverAndBackModel", "goTo", "[I", true)
  | 46 => ("OverAndBackModel", "most", "[I", true)
  | 47 => ("OverAndBackModel", "few", "[I", true)
  | 48 => ("OverAndBackModel", "fewest", "I", false)
  | 49 => ("OverAndBackModel", "soonest", "I", false)
  | 50 => ("OverAndBackModel", "soonestAny", "I", false)
  | 51 => ("OverAndBackModel", "holder", "[I", true)
  | 52 => ("OverAndBackModel", "shown", "[I", true)
  | 53 => ("OverAndBackModel", "keeps", "I", false)
  | _ => ("OverAndBackModel", "kept", "[I", true)
def tyX12 : Nat → FieldType := fun k => match k with
  | 0 => .int
  | 1 => .int
  | 2 => .int
  | 3 => .array .int
  | 4 => .int
  | 5 => .array .int
  | 6 => .int
  | 7 => .array .int
  | 8 => .int
  | 9 => .array .int
  | 10 => .int
  | 11 => .array .int
  | 12 => .int
  | 13 => .array .int
  | 14 => .array .int
  | 15 => .int
  | 16 => .int
  | 17 => .array .int
  | 18 => .int
  | 19 => .int
  | 20 => .int
  | 21 => .array .int
  | 22 => .int
  | 23 => .array .int
  | 24 => .int
  | 25 => .array .int
  | 26 => .int
  | 27 => .array .int
  | 28 => .int
  | 29 => .array .int
  | 30 => .int
  | 31 => .array .int
  | 32 => .array .int
  | 33 => .array .int
  | 34 => .array .boolean
  | 35 => .array .int
  | 36 => .int
  | 37 => .int
  | 38 => .int
  | 39 => .int
  | 40 => .int
  | 41 => .array .int
  | 42 => .int
  | 43 => .array .int
  | 44 => .int
  | 45 => .array .int
  | 46 => .array .int
  | 47 => .array .int
  | 48 => .int
  | 49 => .int
  | 50 => .int
  | 51 => .array .int
  | 52 => .array .int
  | 53 => .int
  | _ => .array .int
theorem nmX12 : ∀ a, a < 55 → ∀ b, b < 55 → a ≠ b → (TX12 a).2.1 ≠ (TX12 b).2.1 := by decide +kernel
theorem tyX12_ok : ∀ k, k < 55 → parseFieldDescriptor (TX12 k).2.2.1 = some (tyX12 k) := by decide +kernel

def am_cls : List vw_C := [(RX0, TX0, 9), (RX1, TX1, 8), (RX2, TX2, 1), (RX3, TX3, 11), (RX4, TX4, 2), (RX5, TX5, 4), (RX6, TX6, 2), (RX7, TX7, 4), (RX8, TX8, 4), (RX9, TX9, 3), (RX10, TX10, 7), (RX11, TX11, 17), (RX12, TX12, 55)]

def am_isN : Cond → Bool
  | .fieldLinkNest _ _ _ _ _ _ => true
  | .methodLinkNest _ _ _ _ => true
  | _ => false
def am_nest : List Cond := tables_1.filter am_isN
def am_tbl : List Cond := lw_tbl.filter goodWord
theorem am_tbl_in {w : Cond} (h : w ∈ am_tbl) : w ∈ lw_tbl := (List.mem_filter.mp h).1
theorem am_tbl_good {w : Cond} (h : w ∈ am_tbl) : (w.onTables && w.keeps) = true ∨ ∃ ty, w = .arrayClass ty := good_of_word (List.mem_filter.mp h).2
theorem am_tbl_t {w : Cond} (h : w ∈ tables_1) (g : goodWord w = true) : w ∈ am_tbl := List.mem_filter.mpr ⟨List.mem_append_right _ h, g⟩
theorem am_tbl_s {w : Cond} (h : w ∈ k2_sels lw_privs) (g : goodWord w = true) : w ∈ am_tbl := List.mem_filter.mpr ⟨List.mem_append_left _ h, g⟩
theorem am_nest_t {w : Cond} (h : w ∈ tables_1) (g : am_isN w = true) : w ∈ am_nest := List.mem_filter.mpr ⟨h, g⟩
end
section
/-! ===== numbers: ints as naturals modulo 2^32 ===== -/
theorem an_mod (n : Nat) : Int32.ofNat (n % 4294967296) = Int32.ofNat n := by
  apply Int32.toBitVec_inj.mp
  apply BitVec.eq_of_toNat_eq
  simp
theorem an_toInt (n : Nat) : (Int32.ofNat n).toInt = Int.bmod n 4294967296 := by
  simp [Int32.toInt_ofNat']
theorem an_add (a b : Nat) : Int32.ofNat ((a + b) % 4294967296) = Int32.ofNat a + Int32.ofNat b := by
  rw [an_mod, Int32.ofNat_add]
theorem an_mul (a b : Nat) : Int32.ofNat ((a * b) % 4294967296) = Int32.ofNat a * Int32.ofNat b := by
  rw [an_mod, Int32.ofNat_mul]
theorem an_sub (a b : Nat) : Int32.ofNat ((a + (4294967296 - b % 4294967296)) % 4294967296) = Int32.ofNat a - Int32.ofNat b := by
  apply Int32.toBitVec_inj.mp
  apply BitVec.eq_of_toNat_eq
  simp [BitVec.toNat_sub]
  omega
theorem an_and (a b : Nat) : Int32.ofNat (a &&& b) = Int32.ofNat a &&& Int32.ofNat b := by
  apply Int32.toBitVec_inj.mp
  simp
theorem an_or (a b : Nat) : Int32.ofNat (a ||| b) = Int32.ofNat a ||| Int32.ofNat b := by
  apply Int32.toBitVec_inj.mp
  simp
theorem an_xor (a b : Nat) : Int32.ofNat (a ^^^ b) = Int32.ofNat a ^^^ Int32.ofNat b := by
  apply Int32.toBitVec_inj.mp
  simp
theorem an_eq (a b : Nat) : (Int32.ofNat a = Int32.ofNat b) ↔ a % 4294967296 = b % 4294967296 := by
  constructor
  · intro h
    have h2 := congrArg (fun x : Int32 => x.toBitVec.toNat) h
    simpa using h2
  · intro h
    rw [← an_mod a, ← an_mod b, h]
theorem an_lt (a b : Nat) : (Int32.ofNat a < Int32.ofNat b) ↔ (a + 2147483648) % 4294967296 < (b + 2147483648) % 4294967296 := by
  rw [Int32.lt_iff_toInt_lt, an_toInt, an_toInt]
  simp only [Int.bmod]
  omega
theorem an_le (a b : Nat) : (Int32.ofNat a ≤ Int32.ofNat b) ↔ (a + 2147483648) % 4294967296 ≤ (b + 2147483648) % 4294967296 := by
  rw [Int32.le_iff_toInt_le, an_toInt, an_toInt]
  simp only [Int.bmod]
  omega
theorem an_clamp {a : Nat} (h : a < 2147483648) : (Int32.ofNat a).toNatClampNeg = a := by
  show (Int32.ofNat a).toInt.toNat = a
  rw [an_toInt]
  simp only [Int.bmod]
  omega
theorem an_nonneg {a : Nat} (h : a < 2147483648) : ¬ Int32.ofNat a < 0 := by
  have := an_lt a 0
  intro h2
  have h3 := this.mp h2
  omega
theorem an_toIntS {a : Nat} (h : a < 2147483648) : (Int32.ofNat a).toInt = a := by
  rw [an_toInt]
  simp only [Int.bmod]
  omega
theorem an_div {a b : Nat} (ha : a < 2147483648) (hb : b < 2147483648) : Int32.ofNat (a / b) = Int32.ofNat a / Int32.ofNat b := by
  apply Int32.toInt_inj.mp
  have h1 : a / b < 2147483648 := Nat.lt_of_le_of_lt (Nat.div_le_self _ _) ha
  rw [Int32.toInt_div, an_toIntS h1, an_toIntS ha, an_toIntS hb]
  have e : ((a : Int).tdiv (b : Int)) = ((a / b : Nat) : Int) := by simp
  rw [e, show ((2 : Nat) ^ 32) = 4294967296 from rfl]
  simp only [Int.bmod]
  generalize a / b = q at h1 ⊢
  omega
theorem an_rem {a b : Nat} (ha : a < 2147483648) (hb : b < 2147483648) : Int32.ofNat (a % b) = Int32.ofNat a - Int32.ofNat a / Int32.ofNat b * Int32.ofNat b := by
  rw [← an_div ha hb]
  rw [← Int32.ofNat_mul]
  have e : a % b = a - a / b * b := by
    have := Nat.div_add_mod a b
    rw [Nat.mul_comm] at this
    omega
  have hle : a / b * b ≤ a := Nat.div_mul_le_self a b
  rw [e]
  apply Int32.toBitVec_inj.mp
  apply BitVec.eq_of_toNat_eq
  simp [BitVec.toNat_sub]
  omega
theorem an_ne0 {b : Nat} (h0 : 0 < b) (hb : b < 2147483648) : ¬ Int32.ofNat b = 0 := by
  intro h
  have h2 := (an_eq b 0).mp h
  omega
end
section
/-! ===== the abstract machine: lists, heaps ===== -/
abbrev am_E : Type := (Nat × Nat × Nat) ⊕ (Nat × List Value)
abbrev am_H : Type := Nat × Nat × List (List am_E)
abbrev am_L : Type := List (Option Value)
abbrev am_R : Type := Option Value × am_H
noncomputable def am_force {β : Type} (n : Nat) (k : Nat → β) : β := Nat.rec (motive := fun _ => β) (k 0) (fun m _ => k (Nat.succ m)) n
theorem am_force_eq {β : Type} (n : Nat) (k : Nat → β) : am_force n k = k n := by cases n <;> rfl
noncomputable def am_nth {α : Type} (l : List α) : Nat → Option α :=
  List.rec (motive := fun _ => Nat → Option α) (fun _ => none) (fun a _ ih n => Nat.rec (motive := fun _ => Option α) (some a) (fun m _ => ih m) n) l
theorem am_nth_eq {α : Type} (l : List α) (n : Nat) : am_nth l n = l[n]? := by
  induction l generalizing n with
  | nil => rfl
  | cons a l ih =>
    cases n with
    | zero => rfl
    | succ n => rw [List.getElem?_cons_succ]; exact ih n
noncomputable def am_setc {α β : Type} (l : List α) (v : α) : Nat → (List α → β) → β :=
  List.rec (motive := fun _ => Nat → (List α → β) → β) (fun _ k => k []) (fun a l ih n k => Nat.rec (motive := fun _ => β) (k (v :: l)) (fun m _ => ih m (fun l' => k (a :: l'))) n) l
theorem am_setc_eq {α β : Type} (l : List α) (v : α) (n : Nat) (k : List α → β) : am_setc l v n k = k (l.set n v) := by
  induction l generalizing n k with
  | nil => rfl
  | cons a l ih =>
    cases n with
    | zero => rfl
    | succ n => exact ih n (fun l' => k (a :: l'))
noncomputable def am_get (h : am_H) (a : Nat) : Option am_E := Option.rec (motive := fun _ => Option am_E) none (fun b => am_nth b (a % 8)) (am_nth h.2.2 (a / 8))
theorem am_get_eq (h : am_H) (a : Nat) : am_get h a = (h.2.2[a / 8]?).bind (fun b => b[a % 8]?) := by
  unfold am_get
  rw [am_nth_eq]
  cases h.2.2[a / 8]? with
  | none => rfl
  | some b => exact am_nth_eq b _
def am_upd (h : am_H) (a : Nat) (e : am_E) : am_H := (h.1, h.2.1, match h.2.2[a / 8]? with
  | some b => h.2.2.set (a / 8) (b.set (a % 8) e)
  | none => h.2.2)
noncomputable def am_updc {β : Type} (h : am_H) (a : Nat) (e : am_E) (k : am_H → β) : β := match h with
  | (n, s, bs) => Option.rec (motive := fun _ => β) (k (n, s, bs)) (fun b => am_setc b e (a % 8) fun b' => am_setc bs b' (a / 8) fun bs' => k (n, s, bs')) (am_nth bs (a / 8))
theorem am_updc_eq {β : Type} (h : am_H) (a : Nat) (e : am_E) (k : am_H → β) : am_updc h a e k = k (am_upd h a e) := by
  obtain ⟨n, s, bs⟩ := h
  unfold am_updc am_upd
  simp only [am_nth_eq]
  cases bs[a / 8]? with
  | none => rfl
  | some b => simp only [am_setc_eq]
theorem am_get_upd {h : am_H} {a : Nat} {e0 e : am_E} (h0 : am_get h a = some e0) (k : Nat) : am_get (am_upd h a e) k = if k = a then some e else am_get h k := by
  obtain ⟨n, s, bs⟩ := h
  rw [am_get_eq] at h0 ⊢
  rw [am_get_eq]
  unfold am_upd
  dsimp only at h0 ⊢
  cases hb : bs[a / 8]? with
  | none => rw [hb] at h0; cases h0
  | some b =>
    rw [hb] at h0
    have hb1 : a / 8 < bs.length := (List.getElem?_eq_some_iff.mp hb).1
    have hb2 : a % 8 < b.length := (List.getElem?_eq_some_iff.mp h0).1
    dsimp only
    by_cases hk : k / 8 = a / 8
    · rw [hk, List.getElem?_set_self hb1, hb]
      show (b.set (a % 8) e)[k % 8]? = if k = a then some e else b[k % 8]?
      by_cases hk2 : k % 8 = a % 8
      · rw [if_pos (by omega), hk2, List.getElem?_set_self hb2]
      · rw [if_neg (by omega), List.getElem?_set_ne (fun q => hk2 q.symm)]
    · rw [List.getElem?_set_ne (fun q => hk q.symm), if_neg (by omega)]
/-- a new cell of n slots -/
noncomputable def am_pushc {β : Type} (h : am_H) (n : Nat) (e : am_E) (z : β) (k : Nat → am_H → β) : β := match h with
  | (c, s, bs) => Option.rec (motive := fun _ => β) (bif Nat.beq (8 * bs.length) c then am_force (c + 1) fun c' => am_force (s + n) fun s' => k c (c', s', bs ++ [[e]]) else z) (fun b => bif Nat.beq b.length (c % 8) then am_force (c + 1) fun c' => am_force (s + n) fun s' => am_setc bs (b ++ [e]) (c / 8) fun bs' => k c (c', s', bs') else z) (am_nth bs (c / 8))
def am_New (h h' : am_H) (n : Nat) (e : am_E) : Prop := h'.1 = h.1 + 1 ∧ h'.2.1 = h.2.1 + n ∧ ∀ k x, am_get h' k = some x → (k = h.1 ∧ x = e) ∨ am_get h k = some x
theorem am_pushc_eq {β : Type} (h : am_H) (n : Nat) (e : am_E) (z : β) (k : Nat → am_H → β) : am_pushc h n e z k = z ∨ ∃ h', am_New h h' n e ∧ am_pushc h n e z k = k h.1 h' := by
  obtain ⟨c, s, bs⟩ := h
  unfold am_pushc
  simp only [am_nth_eq, am_force_eq, am_setc_eq]
  cases hb : bs[c / 8]? with
  | none =>
    dsimp only
    cases hc : Nat.beq (8 * bs.length) c with
    | false => exact Or.inl rfl
    | true =>
      refine Or.inr ⟨_, ⟨rfl, rfl, fun j x hx => ?_⟩, rfl⟩
      have hc' := Nat.eq_of_beq_eq_true hc
      rw [am_get_eq] at hx ⊢
      dsimp only at hx ⊢
      by_cases h1 : j / 8 < bs.length
      · rw [List.getElem?_append_left h1] at hx
        exact Or.inr hx
      · rw [List.getElem?_append_right (by omega)] at hx
        by_cases h2 : j / 8 - bs.length = 0
        · rw [h2] at hx
          change ([e] : List am_E)[j % 8]? = some x at hx
          by_cases h3 : j % 8 = 0
          · rw [h3] at hx
            refine Or.inl ⟨by omega, ?_⟩
            simpa using hx.symm
          · have := (List.getElem?_eq_some_iff.mp hx).1
            simp at this
            omega
        · have h4 : ([[e]] : List (List am_E))[j / 8 - bs.length]? = none := List.getElem?_eq_none (by simp; omega)
          rw [h4] at hx
          cases hx
  | some b =>
    dsimp only
    cases hc : Nat.beq b.length (c % 8) with
    | false => exact Or.inl rfl
    | true =>
      refine Or.inr ⟨_, ⟨rfl, rfl, fun j x hx => ?_⟩, rfl⟩
      have hc' := Nat.eq_of_beq_eq_true hc
      have hb1 : c / 8 < bs.length := (List.getElem?_eq_some_iff.mp hb).1
      rw [am_get_eq] at hx ⊢
      dsimp only at hx ⊢
      by_cases hk : j / 8 = c / 8
      · rw [hk, List.getElem?_set_self hb1] at hx
        change (b ++ [e])[j % 8]? = some x at hx
        by_cases h1 : j % 8 < b.length
        · rw [List.getElem?_append_left h1] at hx
          refine Or.inr ?_
          rw [hk, hb]
          exact hx
        · rw [List.getElem?_append_right (by omega)] at hx
          have h3 := (List.getElem?_eq_some_iff.mp hx).1
          have h4 : j % 8 - b.length = 0 := by simp at h3; omega
          rw [h4] at hx
          refine Or.inl ⟨by omega, ?_⟩
          simpa using hx.symm
      · rw [List.getElem?_set_ne (fun q => hk q.symm)] at hx
        exact Or.inr hx
/-! ===== packed rows of 32 bits ===== -/
def am_ag (c i : Nat) : Nat := (c >>> (32 * i)) % 4294967296
def am_as (c i v : Nat) : Nat := c ^^^ ((am_ag c i ^^^ (v % 4294967296)) <<< (32 * i))
theorem am_ag_bit (c i b : Nat) : (am_ag c i).testBit b = (decide (b < 32) && c.testBit (32 * i + b)) := by
  unfold am_ag
  rw [show 4294967296 = 2 ^ 32 from rfl, Nat.testBit_mod_two_pow, Nat.testBit_shiftRight]
theorem am_ag_lt (c i : Nat) : am_ag c i < 4294967296 := Nat.mod_lt _ (by decide)
theorem am_ag_as (c i v j : Nat) : am_ag (am_as c i v) j = if j = i then v % 4294967296 else am_ag c j := by
  apply Nat.eq_of_testBit_eq
  intro b
  rw [am_ag_bit]
  unfold am_as
  rw [Nat.testBit_xor, Nat.testBit_shiftLeft, Nat.testBit_xor, am_ag_bit]
  have hv : (v % 4294967296).testBit = fun b => (decide (b < 32) && v.testBit b) := by
    funext b
    rw [show 4294967296 = 2 ^ 32 from rfl, Nat.testBit_mod_two_pow]
  rw [hv]
  by_cases hj : j = i
  · subst hj
    rw [if_pos rfl, hv]
    have e : 32 * j + b - 32 * j = b := by omega
    rw [e]
    by_cases hb : b < 32
    · simp [hb]
    · simp [hb]
  · rw [if_neg hj, am_ag_bit]
    by_cases hb : b < 32
    · by_cases h1 : 32 * j + b ≥ 32 * i
      · have h2 : ¬ (32 * j + b - 32 * i < 32) := by omega
        simp [hb, h1, h2]
      · simp [hb, h1]
    · simp [hb]
/-- n elements of c0 from sp on, into c1 from dp on -/
def am_cp (c0 c1 sp dp n : Nat) : Nat := c1 ^^^ ((((c1 >>> (32 * dp)) % 2 ^ (32 * n)) ^^^ ((c0 >>> (32 * sp)) % 2 ^ (32 * n))) <<< (32 * dp))
theorem am_ag_cp (c0 c1 sp dp n j : Nat) : am_ag (am_cp c0 c1 sp dp n) j = if dp ≤ j ∧ j < dp + n then am_ag c0 (sp + (j - dp)) else am_ag c1 j := by
  apply Nat.eq_of_testBit_eq
  intro b
  rw [am_ag_bit]
  unfold am_cp
  rw [Nat.testBit_xor, Nat.testBit_shiftLeft, Nat.testBit_xor, Nat.testBit_mod_two_pow, Nat.testBit_mod_two_pow, Nat.testBit_shiftRight, Nat.testBit_shiftRight]
  by_cases hj : dp ≤ j ∧ j < dp + n
  · rw [if_pos hj, am_ag_bit]
    by_cases hb : b < 32
    · have h1 : 32 * j + b ≥ 32 * dp := by omega
      have h2 : 32 * j + b - 32 * dp < 32 * n := by omega
      have e1 : 32 * dp + (32 * j + b - 32 * dp) = 32 * j + b := by omega
      have e2 : 32 * sp + (32 * j + b - 32 * dp) = 32 * (sp + (j - dp)) + b := by omega
      simp [hb, h1, h2, e1, e2]
    · simp [hb]
  · rw [if_neg hj, am_ag_bit]
    by_cases hb : b < 32
    · by_cases h1 : 32 * j + b ≥ 32 * dp
      · have h2 : ¬ (32 * j + b - 32 * dp < 32 * n) := by omega
        simp [hb, h1, h2]
      · simp [hb, h1]
    · simp [hb]
end
