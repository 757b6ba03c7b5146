theorem w_22 : (Jvm.Cond.classLink "OverAndBackLaw" (7 : Nat) "OverAndBack") ∈ am_tbl := am_tbl_t (List.mem_append_left _ (List.mem_of_getElem? (l := tables_1_1) (i := 22) rfl)) rfl
theorem w_23 : (Jvm.Cond.instantiable "OverAndBack" (17 : Nat)) ∈ am_tbl := am_tbl_t (List.mem_append_left _ (List.mem_of_getElem? (l := tables_1_1) (i := 23) rfl)) rfl
theorem w_24 : (Jvm.Cond.methodLink "OverAndBackLaw" (9 : Nat) ({ cls := "OverAndBack", name := "<init>", desc := "()V" } : Jvm.MethodName)) ∈ am_tbl := am_tbl_t (List.mem_append_left _ (List.mem_of_getElem? (l := tables_1_1) (i := 24) rfl)) rfl
theorem w_564 : (Jvm.Cond.methodLink "OverAndBackLaw" (13 : Nat) ({ cls := "OverAndBack", name := "write", desc := "(I)I" } : Jvm.MethodName)) ∈ am_tbl := am_tbl_t (List.mem_append_right _ (List.mem_append_right _ (List.mem_append_left _ (List.mem_of_getElem? (l := tables_1_3) (i := 84) rfl)))) rfl
theorem w_568 : (Jvm.Cond.methodLink "OverAndBackLaw" (18 : Nat) ({ cls := "OverAndBack", name := "wipe", desc := "()I" } : Jvm.MethodName)) ∈ am_tbl := am_tbl_t (List.mem_append_right _ (List.mem_append_right _ (List.mem_append_left _ (List.mem_of_getElem? (l := tables_1_3) (i := 88) rfl)))) rfl
theorem w_572 : (Jvm.Cond.methodLink "OverAndBackLaw" (23 : Nat) ({ cls := "OverAndBack", name := "fault", desc := "()I" } : Jvm.MethodName)) ∈ am_tbl := am_tbl_t (List.mem_append_right _ (List.mem_append_right _ (List.mem_append_left _ (List.mem_of_getElem? (l := tables_1_3) (i := 92) rfl)))) rfl
theorem w_576 : (Jvm.Cond.methodLink "OverAndBackLaw" (27 : Nat) ({ cls := "OverAndBack", name := "lay", desc := "()I" } : Jvm.MethodName)) ∈ am_tbl := am_tbl_t (List.mem_append_right _ (List.mem_append_right _ (List.mem_append_left _ (List.mem_of_getElem? (l := tables_1_3) (i := 96) rfl)))) rfl
theorem w_580 : (Jvm.Cond.methodLink "OverAndBackLaw" (31 : Nat) ({ cls := "OverAndBack", name := "minute", desc := "(III)I" } : Jvm.MethodName)) ∈ am_tbl := am_tbl_t (List.mem_append_right _ (List.mem_append_right _ (List.mem_append_left _ (List.mem_of_getElem? (l := tables_1_3) (i := 100) rfl)))) rfl
theorem w_601 : (Jvm.Cond.methodLink "OverAndBackLaw" (36 : Nat) ({ cls := "OverAndBack", name := "known", desc := "(I)I" } : Jvm.MethodName)) ∈ am_tbl := am_tbl_t (List.mem_append_right _ (List.mem_append_right _ (List.mem_append_left _ (List.mem_of_getElem? (l := tables_1_3) (i := 121) rfl)))) rfl
theorem w_612 : (Jvm.Cond.methodLink "OverAndBackLaw" (40 : Nat) ({ cls := "OverAndBack", name := "watcher", desc := "(II)I" } : Jvm.MethodName)) ∈ am_tbl := am_tbl_t (List.mem_append_right _ (List.mem_append_right _ (List.mem_append_left _ (List.mem_of_getElem? (l := tables_1_3) (i := 132) rfl)))) rfl
theorem w_685 : (Jvm.Cond.methodLink "OverAndBackLaw" (45 : Nat) ({ cls := "OverAndBack", name := "where", desc := "(II)I" } : Jvm.MethodName)) ∈ am_tbl := am_tbl_t (List.mem_append_right _ (List.mem_append_right _ (List.mem_append_left _ (List.mem_of_getElem? (l := tables_1_3) (i := 205) rfl)))) rfl
theorem w_693 : (Jvm.Cond.methodLink "OverAndBackLaw" (49 : Nat) ({ cls := "OverAndBack", name := "begin", desc := "(I)I" } : Jvm.MethodName)) ∈ am_tbl := am_tbl_t (List.mem_append_right _ (List.mem_append_right _ (List.mem_append_left _ (List.mem_of_getElem? (l := tables_1_3) (i := 213) rfl)))) rfl
theorem w_702 : (Jvm.Cond.methodLink "OverAndBackLaw" (53 : Nat) ({ cls := "OverAndBack", name := "over", desc := "(II)I" } : Jvm.MethodName)) ∈ am_tbl := am_tbl_t (List.mem_append_right _ (List.mem_append_right _ (List.mem_append_left _ (List.mem_of_getElem? (l := tables_1_3) (i := 222) rfl)))) rfl
theorem w_710 : (Jvm.Cond.methodLink "OverAndBackLaw" (57 : Nat) ({ cls := "OverAndBack", name := "undo", desc := "()I" } : Jvm.MethodName)) ∈ am_tbl := am_tbl_t (List.mem_append_right _ (List.mem_append_right _ (List.mem_append_left _ (List.mem_of_getElem? (l := tables_1_3) (i := 230) rfl)))) rfl
theorem w_723 : (Jvm.Cond.methodLink "OverAndBackLaw" (61 : Nat) ({ cls := "OverAndBack", name := "judge", desc := "()I" } : Jvm.MethodName)) ∈ am_tbl := am_tbl_t (List.mem_append_right _ (List.mem_append_right _ (List.mem_append_right _ (List.mem_append_left _ (List.mem_of_getElem? (l := tables_1_4) (i := 3) rfl))))) rfl
theorem w_728 : (Jvm.Cond.methodLink "OverAndBackLaw" (65 : Nat) ({ cls := "OverAndBack", name := "plan", desc := "(I)I" } : Jvm.MethodName)) ∈ am_tbl := am_tbl_t (List.mem_append_right _ (List.mem_append_right _ (List.mem_append_right _ (List.mem_append_left _ (List.mem_of_getElem? (l := tables_1_4) (i := 8) rfl))))) rfl
theorem w_732 : (Jvm.Cond.methodLink "OverAndBackLaw" (69 : Nat) ({ cls := "OverAndBack", name := "at", desc := "(I)I" } : Jvm.MethodName)) ∈ am_tbl := am_tbl_t (List.mem_append_right _ (List.mem_append_right _ (List.mem_append_right _ (List.mem_append_left _ (List.mem_of_getElem? (l := tables_1_4) (i := 12) rfl))))) rfl
theorem w_736 : (Jvm.Cond.methodLink "OverAndBackLaw" (73 : Nat) ({ cls := "OverAndBack", name := "most", desc := "(III)I" } : Jvm.MethodName)) ∈ am_tbl := am_tbl_t (List.mem_append_right _ (List.mem_append_right _ (List.mem_append_right _ (List.mem_append_left _ (List.mem_of_getElem? (l := tables_1_4) (i := 16) rfl))))) rfl
theorem w_748 : (Jvm.Cond.methodLink "OverAndBackLaw" (77 : Nat) ({ cls := "OverAndBack", name := "understand", desc := "(III)I" } : Jvm.MethodName)) ∈ am_tbl := am_tbl_t (List.mem_append_right _ (List.mem_append_right _ (List.mem_append_right _ (List.mem_append_left _ (List.mem_of_getElem? (l := tables_1_4) (i := 28) rfl))))) rfl
theorem w_789 : (Jvm.Cond.methodLink "OverAndBackLaw" (81 : Nat) ({ cls := "OverAndBack", name := "soonest", desc := "(II)I" } : Jvm.MethodName)) ∈ am_tbl := am_tbl_t (List.mem_append_right _ (List.mem_append_right _ (List.mem_append_right _ (List.mem_append_left _ (List.mem_of_getElem? (l := tables_1_4) (i := 69) rfl))))) rfl
theorem w_793 : (Jvm.Cond.methodLink "OverAndBackLaw" (85 : Nat) ({ cls := "OverAndBack", name := "ask", desc := "(II)I" } : Jvm.MethodName)) ∈ am_tbl := am_tbl_t (List.mem_append_right _ (List.mem_append_right _ (List.mem_append_right _ (List.mem_append_left _ (List.mem_of_getElem? (l := tables_1_4) (i := 73) rfl))))) rfl
theorem w_808 : (Jvm.Cond.methodLink "OverAndBackLaw" (89 : Nat) ({ cls := "OverAndBack", name := "fair", desc := "(II)I" } : Jvm.MethodName)) ∈ am_tbl := am_tbl_t (List.mem_append_right _ (List.mem_append_right _ (List.mem_append_right _ (List.mem_append_left _ (List.mem_of_getElem? (l := tables_1_4) (i := 88) rfl))))) rfl
theorem w_858 : (Jvm.Cond.methodLink "OverAndBackLaw" (93 : Nat) ({ cls := "OverAndBack", name := "mean", desc := "(II)I" } : Jvm.MethodName)) ∈ am_tbl := am_tbl_t (List.mem_append_right _ (List.mem_append_right _ (List.mem_append_right _ (List.mem_append_left _ (List.mem_of_getElem? (l := tables_1_4) (i := 138) rfl))))) rfl
theorem w_873 : (Jvm.Cond.methodLink "OverAndBackLaw" (97 : Nat) ({ cls := "OverAndBack", name := "sure", desc := "(I)I" } : Jvm.MethodName)) ∈ am_tbl := am_tbl_t (List.mem_append_right _ (List.mem_append_right _ (List.mem_append_right _ (List.mem_append_left _ (List.mem_of_getElem? (l := tables_1_4) (i := 153) rfl))))) rfl
theorem w_877 : (Jvm.Cond.methodLink "OverAndBackLaw" (101 : Nat) ({ cls := "OverAndBack", name := "fits", desc := "(I)I" } : Jvm.MethodName)) ∈ am_tbl := am_tbl_t (List.mem_append_right _ (List.mem_append_right _ (List.mem_append_right _ (List.mem_append_left _ (List.mem_of_getElem? (l := tables_1_4) (i := 157) rfl))))) rfl
theorem w_881 : (Jvm.Cond.methodLink "OverAndBackLaw" (105 : Nat) ({ cls := "OverAndBack", name := "matters", desc := "(I)I" } : Jvm.MethodName)) ∈ am_tbl := am_tbl_t (List.mem_append_right _ (List.mem_append_right _ (List.mem_append_right _ (List.mem_append_left _ (List.mem_of_getElem? (l := tables_1_4) (i := 161) rfl))))) rfl
theorem w_885 : (Jvm.Cond.methodLink "OverAndBackLaw" (109 : Nat) ({ cls := "OverAndBack", name := "night", desc := "(III)I" } : Jvm.MethodName)) ∈ am_tbl := am_tbl_t (List.mem_append_right _ (List.mem_append_right _ (List.mem_append_right _ (List.mem_append_left _ (List.mem_of_getElem? (l := tables_1_4) (i := 165) rfl))))) rfl
theorem w_901 : (Jvm.Cond.methodLink "OverAndBackLaw" (113 : Nat) ({ cls := "OverAndBack", name := "keep", desc := "()I" } : Jvm.MethodName)) ∈ am_tbl := am_tbl_t (List.mem_append_right _ (List.mem_append_right _ (List.mem_append_right _ (List.mem_append_left _ (List.mem_of_getElem? (l := tables_1_4) (i := 181) rfl))))) rfl
theorem w_917 : (Jvm.Cond.methodLink "OverAndBackLaw" (117 : Nat) ({ cls := "OverAndBack", name := "back", desc := "()I" } : Jvm.MethodName)) ∈ am_tbl := am_tbl_t (List.mem_append_right _ (List.mem_append_right _ (List.mem_append_right _ (List.mem_append_left _ (List.mem_of_getElem? (l := tables_1_4) (i := 197) rfl))))) rfl
theorem w_921 : (Jvm.Cond.methodLink "OverAndBackLaw" (121 : Nat) ({ cls := "OverAndBack", name := "count", desc := "(I)I" } : Jvm.MethodName)) ∈ am_tbl := am_tbl_t (List.mem_append_right _ (List.mem_append_right _ (List.mem_append_right _ (List.mem_append_left _ (List.mem_of_getElem? (l := tables_1_4) (i := 201) rfl))))) rfl
theorem w_925 : (Jvm.Cond.classLink "OverAndBackLaw" (10 : Nat) "OverAndBackModel") ∈ am_tbl := am_tbl_t (List.mem_append_right _ (List.mem_append_right _ (List.mem_append_right _ (List.mem_append_left _ (List.mem_of_getElem? (l := tables_1_4) (i := 205) rfl))))) rfl
theorem w_926 : (Jvm.Cond.instantiable "OverAndBackModel" (55 : Nat)) ∈ am_tbl := am_tbl_t (List.mem_append_right _ (List.mem_append_right _ (List.mem_append_right _ (List.mem_append_left _ (List.mem_of_getElem? (l := tables_1_4) (i := 206) rfl))))) rfl
theorem w_927 : (Jvm.Cond.methodLink "OverAndBackLaw" (12 : Nat) ({ cls := "OverAndBackModel", name := "<init>", desc := "()V" } : Jvm.MethodName)) ∈ am_tbl := am_tbl_t (List.mem_append_right _ (List.mem_append_right _ (List.mem_append_right _ (List.mem_append_left _ (List.mem_of_getElem? (l := tables_1_4) (i := 207) rfl))))) rfl
theorem w_1102 : (Jvm.Cond.methodLink "OverAndBackLaw" (17 : Nat) ({ cls := "OverAndBackModel", name := "write", desc := "(I)I" } : Jvm.MethodName)) ∈ am_tbl := am_tbl_t (List.mem_append_right _ (List.mem_append_right _ (List.mem_append_right _ (List.mem_append_right _ (List.mem_append_left _ (List.mem_of_getElem? (l := tables_1_5) (i := 142) rfl)))))) rfl
theorem w_1109 : (Jvm.Cond.methodLink "OverAndBackLaw" (22 : Nat) ({ cls := "OverAndBackModel", name := "wipe", desc := "()I" } : Jvm.MethodName)) ∈ am_tbl := am_tbl_t (List.mem_append_right _ (List.mem_append_right _ (List.mem_append_right _ (List.mem_append_right _ (List.mem_append_left _ (List.mem_of_getElem? (l := tables_1_5) (i := 149) rfl)))))) rfl
theorem w_1113 : (Jvm.Cond.methodLink "OverAndBackLaw" (26 : Nat) ({ cls := "OverAndBackModel", name := "fault", desc := "()I" } : Jvm.MethodName)) ∈ am_tbl := am_tbl_t (List.mem_append_right _ (List.mem_append_right _ (List.mem_append_right _ (List.mem_append_right _ (List.mem_append_left _ (List.mem_of_getElem? (l := tables_1_5) (i := 153) rfl)))))) rfl
theorem w_1175 : (Jvm.Cond.methodLink "OverAndBackLaw" (30 : Nat) ({ cls := "OverAndBackModel", name := "lay", desc := "()I" } : Jvm.MethodName)) ∈ am_tbl := am_tbl_t (List.mem_append_right _ (List.mem_append_right _ (List.mem_append_right _ (List.mem_append_right _ (List.mem_append_left _ (List.mem_of_getElem? (l := tables_1_5) (i := 215) rfl)))))) rfl
theorem w_1180 : (Jvm.Cond.methodLink "OverAndBackLaw" (35 : Nat) ({ cls := "OverAndBackModel", name := "minute", desc := "(III)I" } : Jvm.MethodName)) ∈ am_tbl := am_tbl_t (List.mem_append_right _ (List.mem_append_right _ (List.mem_append_right _ (List.mem_append_right _ (List.mem_append_left _ (List.mem_of_getElem? (l := tables_1_5) (i := 220) rfl)))))) rfl
theorem w_1211 : (Jvm.Cond.methodLink "OverAndBackLaw" (39 : Nat) ({ cls := "OverAndBackModel", name := "known", desc := "(I)I" } : Jvm.MethodName)) ∈ am_tbl := am_tbl_t (List.mem_append_right _ (List.mem_append_right _ (List.mem_append_right _ (List.mem_append_right _ (List.mem_append_right _ (List.mem_of_getElem? (l := tables_1_6) (i := 11) rfl)))))) rfl
theorem w_1222 : (Jvm.Cond.methodLink "OverAndBackLaw" (44 : Nat) ({ cls := "OverAndBackModel", name := "watcher", desc := "(II)I" } : Jvm.MethodName)) ∈ am_tbl := am_tbl_t (List.mem_append_right _ (List.mem_append_right _ (List.mem_append_right _ (List.mem_append_right _ (List.mem_append_right _ (List.mem_of_getElem? (l := tables_1_6) (i := 22) rfl)))))) rfl
theorem w_1270 : (Jvm.Cond.methodLink "OverAndBackLaw" (48 : Nat) ({ cls := "OverAndBackModel", name := "where", desc := "(II)I" } : Jvm.MethodName)) ∈ am_tbl := am_tbl_t (List.mem_append_right _ (List.mem_append_right _ (List.mem_append_right _ (List.mem_append_right _ (List.mem_append_right _ (List.mem_of_getElem? (l := tables_1_6) (i := 70) rfl)))))) rfl
theorem w_1274 : (Jvm.Cond.methodLink "OverAndBackLaw" (52 : Nat) ({ cls := "OverAndBackModel", name := "begin", desc := "(I)I" } : Jvm.MethodName)) ∈ am_tbl := am_tbl_t (List.mem_append_right _ (List.mem_append_right _ (List.mem_append_right _ (List.mem_append_right _ (List.mem_append_right _ (List.mem_of_getElem? (l := tables_1_6) (i := 74) rfl)))))) rfl
theorem w_1282 : (Jvm.Cond.methodLink "OverAndBackLaw" (56 : Nat) ({ cls := "OverAndBackModel", name := "over", desc := "(II)I" } : Jvm.MethodName)) ∈ am_tbl := am_tbl_t (List.mem_append_right _ (List.mem_append_right _ (List.mem_append_right _ (List.mem_append_right _ (List.mem_append_right _ (List.mem_of_getElem? (l := tables_1_6) (i := 82) rfl)))))) rfl
theorem w_1286 : (Jvm.Cond.methodLink "OverAndBackLaw" (60 : Nat) ({ cls := "OverAndBackModel", name := "undo", desc := "()I" } : Jvm.MethodName)) ∈ am_tbl := am_tbl_t (List.mem_append_right _ (List.mem_append_right _ (List.mem_append_right _ (List.mem_append_right _ (List.mem_append_right _ (List.mem_of_getElem? (l := tables_1_6) (i := 86) rfl)))))) rfl
theorem w_1290 : (Jvm.Cond.methodLink "OverAndBackLaw" (64 : Nat) ({ cls := "OverAndBackModel", name := "judge", desc := "()I" } : Jvm.MethodName)) ∈ am_tbl := am_tbl_t (List.mem_append_right _ (List.mem_append_right _ (List.mem_append_right _ (List.mem_append_right _ (List.mem_append_right _ (List.mem_of_getElem? (l := tables_1_6) (i := 90) rfl)))))) rfl
theorem w_1298 : (Jvm.Cond.methodLink "OverAndBackLaw" (68 : Nat) ({ cls := "OverAndBackModel", name := "plan", desc := "(I)I" } : Jvm.MethodName)) ∈ am_tbl := am_tbl_t (List.mem_append_right _ (List.mem_append_right _ (List.mem_append_right _ (List.mem_append_right _ (List.mem_append_right _ (List.mem_of_getElem? (l := tables_1_6) (i := 98) rfl)))))) rfl
theorem w_1306 : (Jvm.Cond.methodLink "OverAndBackLaw" (72 : Nat) ({ cls := "OverAndBackModel", name := "at", desc := "(I)I" } : Jvm.MethodName)) ∈ am_tbl := am_tbl_t (List.mem_append_right _ (List.mem_append_right _ (List.mem_append_right _ (List.mem_append_right _ (List.mem_append_right _ (List.mem_of_getElem? (l := tables_1_6) (i := 106) rfl)))))) rfl
theorem w_1310 : (Jvm.Cond.methodLink "OverAndBackLaw" (76 : Nat) ({ cls := "OverAndBackModel", name := "most", desc := "(III)I" } : Jvm.MethodName)) ∈ am_tbl := am_tbl_t (List.mem_append_right _ (List.mem_append_right _ (List.mem_append_right _ (List.mem_append_right _ (List.mem_append_right _ (List.mem_of_getElem? (l := tables_1_6) (i := 110) rfl)))))) rfl
theorem w_1314 : (Jvm.Cond.methodLink "OverAndBackLaw" (80 : Nat) ({ cls := "OverAndBackModel", name := "understand", desc := "(III)I" } : Jvm.MethodName)) ∈ am_tbl := am_tbl_t (List.mem_append_right _ (List.mem_append_right _ (List.mem_append_right _ (List.mem_append_right _ (List.mem_append_right _ (List.mem_of_getElem? (l := tables_1_6) (i := 114) rfl)))))) rfl
theorem w_1333 : (Jvm.Cond.methodLink "OverAndBackLaw" (84 : Nat) ({ cls := "OverAndBackModel", name := "soonest", desc := "(II)I" } : Jvm.MethodName)) ∈ am_tbl := am_tbl_t (List.mem_append_right _ (List.mem_append_right _ (List.mem_append_right _ (List.mem_append_right _ (List.mem_append_right _ (List.mem_of_getElem? (l := tables_1_6) (i := 133) rfl)))))) rfl
theorem w_1337 : (Jvm.Cond.methodLink "OverAndBackLaw" (88 : Nat) ({ cls := "OverAndBackModel", name := "ask", desc := "(II)I" } : Jvm.MethodName)) ∈ am_tbl := am_tbl_t (List.mem_append_right _ (List.mem_append_right _ (List.mem_append_right _ (List.mem_append_right _ (List.mem_append_right _ (List.mem_of_getElem? (l := tables_1_6) (i := 137) rfl)))))) rfl
theorem w_1344 : (Jvm.Cond.methodLink "OverAndBackLaw" (92 : Nat) ({ cls := "OverAndBackModel", name := "fair", desc := "(II)I" } : Jvm.MethodName)) ∈ am_tbl := am_tbl_t (List.mem_append_right _ (List.mem_append_right _ (List.mem_append_right _ (List.mem_append_right _ (List.mem_append_right _ (List.mem_of_getElem? (l := tables_1_6) (i := 144) rfl)))))) rfl
theorem w_1364 : (Jvm.Cond.methodLink "OverAndBackLaw" (96 : Nat) ({ cls := "OverAndBackModel", name := "mean", desc := "(II)I" } : Jvm.MethodName)) ∈ am_tbl := am_tbl_t (List.mem_append_right _ (List.mem_append_right _ (List.mem_append_right _ (List.mem_append_right _ (List.mem_append_right _ (List.mem_of_getElem? (l := tables_1_6) (i := 164) rfl)))))) rfl
theorem w_1376 : (Jvm.Cond.methodLink "OverAndBackLaw" (100 : Nat) ({ cls := "OverAndBackModel", name := "sure", desc := "(I)I" } : Jvm.MethodName)) ∈ am_tbl := am_tbl_t (List.mem_append_right _ (List.mem_append_right _ (List.mem_append_right _ (List.mem_append_right _ (List.mem_append_right _ (List.mem_of_getElem? (l := tables_1_6) (i := 176) rfl)))))) rfl
theorem w_1380 : (Jvm.Cond.methodLink "OverAndBackLaw" (104 : Nat) ({ cls := "OverAndBackModel", name := "fits", desc := "(I)I" } : Jvm.MethodName)) ∈ am_tbl := am_tbl_t (List.mem_append_right _ (List.mem_append_right _ (List.mem_append_right _ (List.mem_append_right _ (List.mem_append_right _ (List.mem_of_getElem? (l := tables_1_6) (i := 180) rfl)))))) rfl
theorem w_1384 : (Jvm.Cond.methodLink "OverAndBackLaw" (108 : Nat) ({ cls := "OverAndBackModel", name := "matters", desc := "(I)I" } : Jvm.MethodName)) ∈ am_tbl := am_tbl_t (List.mem_append_right _ (List.mem_append_right _ (List.mem_append_right _ (List.mem_append_right _ (List.mem_append_right _ (List.mem_of_getElem? (l := tables_1_6) (i := 184) rfl)))))) rfl
theorem w_1388 : (Jvm.Cond.methodLink "OverAndBackLaw" (112 : Nat) ({ cls := "OverAndBackModel", name := "night", desc := "(III)I" } : Jvm.MethodName)) ∈ am_tbl := am_tbl_t (List.mem_append_right _ (List.mem_append_right _ (List.mem_append_right _ (List.mem_append_right _ (List.mem_append_right _ (List.mem_of_getElem? (l := tables_1_6) (i := 188) rfl)))))) rfl
theorem w_1401 : (Jvm.Cond.methodLink "OverAndBackLaw" (116 : Nat) ({ cls := "OverAndBackModel", name := "keep", desc := "()I" } : Jvm.MethodName)) ∈ am_tbl := am_tbl_t (List.mem_append_right _ (List.mem_append_right _ (List.mem_append_right _ (List.mem_append_right _ (List.mem_append_right _ (List.mem_of_getElem? (l := tables_1_6) (i := 201) rfl)))))) rfl
theorem w_1405 : (Jvm.Cond.methodLink "OverAndBackLaw" (120 : Nat) ({ cls := "OverAndBackModel", name := "back", desc := "()I" } : Jvm.MethodName)) ∈ am_tbl := am_tbl_t (List.mem_append_right _ (List.mem_append_right _ (List.mem_append_right _ (List.mem_append_right _ (List.mem_append_right _ (List.mem_of_getElem? (l := tables_1_6) (i := 205) rfl)))))) rfl
theorem w_1409 : (Jvm.Cond.methodLink "OverAndBackLaw" (124 : Nat) ({ cls := "OverAndBackModel", name := "count", desc := "(I)I" } : Jvm.MethodName)) ∈ am_tbl := am_tbl_t (List.mem_append_right _ (List.mem_append_right _ (List.mem_append_right _ (List.mem_append_right _ (List.mem_append_right _ (List.mem_of_getElem? (l := tables_1_6) (i := 209) rfl)))))) rfl
/-! ===== the law's own steps ===== -/
theorem an_of (x : Int32) : Int32.ofNat x.toUInt32.toNat = x := by
  apply Int32.toBitVec_inj.mp
  apply BitVec.eq_of_toNat_eq
  rw [an_tn]
  show x.toBitVec.toNat % 4294967296 = x.toBitVec.toNat
  exact Nat.mod_eq_of_lt x.toBitVec.isLt
theorem an_lt32 (x : Int32) : x.toUInt32.toNat < 4294967296 := x.toBitVec.isLt
section LWK
variable {p : Program} {l : Launch} {e : Env} {R : Room} {s : State} {m : MethodId} {args : Array Value} {below : List Frame} {meth : Method} {c : Code} {H : Heap} {locs : List Loc} {cells slots : Nat} {Q : State → Prop}
variable {pc : Nat} {ls : Array Slot} {st : List Value}
/-- script[i + k] onto the stack -/
theorem lw_ld (hx : p.tables.exec = Jvm.exec) (hb : c.code = code) {b L : Nat} {xs : Nat → Int32} (hX : va_X b L xs s s.heap) (hbl : b < s.heap.size) (hS : va_S (fun q => s.heap.size ≤ q) s.heap H locs) {lv : List (Nat × Value)} {i : Int32} (h0 : ls[0]? = some (.val (.ref b))) (h3 : ls[3]? = some (.val (.int i))) {k : Int} {kv v : Int32} (hk : Int32.ofInt k = kv)
    (d1 : decode code pc = .ok (.aload_n 0, 1)) (d2 : decode code (pc + 1) = .ok (.iload_n 3, 1)) (d3 : decode code (pc + 2) = .ok (.iconst k, 1)) (d4 : decode code (pc + 3) = .ok (.iadd, 1)) (d5 : decode code (pc + 4) = .ok (.iaload, 1)) (hin : vp_in (i + kv) L) (hv : xs (i + kv).toNatClampNeg = v)
    (kk : W p l e R s m args below meth c H locs cells slots Q (F0 m (pc + 5) ls (.int v :: st))) : W p l e R s m args below meth c H locs cells slots Q (F0 m pc ls st) := by
  refine lv_aload_n hx hb d1 rfl h0 ?_
  refine lv_iload_n hx hb d2 rfl h3 ?_
  refine lv_iconst hx hb d3 hk ?_
  refine lv_iadd hx hb d4 ?_
  refine va_sld (A := fun q => s.heap.size ≤ q) hx hb hX hbl (Nat.not_le.mpr hbl) hS hin d5 ?_
  rw [hv]
  exact kk
/-- a call of the law, by the callee's contract -/
theorem lw_go {B : Nat} {D : va_G} {dA : Nat → ClassId} {h : am_H} {r1 : am_R} {g : JFrame} {rest : List Value} (hg : g = F0 m pc ls st) (hS : va_S (fun q => B ≤ q) s.heap H locs)
    (hrun : va_Run p l e R s m args below meth c H locs cells slots (r1.2.1 - h.1) (r1.2.2.1 - h.2.1) g rest (fun st0 o t => am_Q B D dA r1 #[] st0 o t) (fun q => B ≤ q))
    (kk : ∀ (H1 : Heap) (locs1 : List Loc), am_Wd B D dA r1.2 H1 → va_S (fun q => B ≤ q) s.heap H1 locs1 → W p l e R s m args below meth c H1 locs1 (cells + (r1.2.1 - h.1)) (slots + (r1.2.2.1 - h.2.1)) Q (F0 m (pc + 3) ls ((r1.1.map (am_v B)).toList ++ rest))) : W p l e R s m args below meth c H locs cells slots Q (F0 m pc ls st) := by
  subst hg
  intro T hT ST
  obtain ⟨v, st₀, t, T', L', h0, X', hL', e3, e4, ⟨hv, hw1, hF⟩, go⟩ := hrun T hT ST
  have hv' : v = r1.1.map (am_v B) := Outcome.returned.inj hv
  subst hv'
  have hS1 : va_S (fun q => B ≤ q) s.heap t.heap (locs ++ L') := by
    refine ⟨Nat.le_trans hS.1 (by have := hF.1; rw [h0] at this; exact this), fun q h1 h2 => ?_, fun q hq => ?_⟩
    · have := hF.2 q (by rw [h0]; exact Nat.lt_of_lt_of_le h1 hS.1) h2
      rw [this, h0]
      exact hS.2.1 q h1 h2
    · rcases List.mem_append.mp hq with z | z
      · exact hS.2.2 q z
      · exact hL' q z
  obtain ⟨t2, a1, b1⟩ := kk t.heap (locs ++ L') hw1 hS1 T' e3 X'
  exact ⟨t2, go t2 a1, b1⟩
theorem lw_cv {M' : am_MI} {idx n ci b0 : Nat} {as fs : List Value} {rest : List Value} {h : am_H} {r1 : am_R} {T : u_T} {N : Nat} {D : va_G} {dA : Nat → ClassId} (hx : p.tables.exec = Jvm.exec) (hb : c.code = code) (hml : c.maxLocals = 4) (hsz : ls.size = 4) (hown : s.vm.findClass R_law = some m.cls) (hts : ∀ w ∈ am_tbl, w.before args s = true) (hK : am_Kn s.heap.size D dA s) (hw : am_Wd s.heap.size D dA h H) (hS : va_S (fun q => s.heap.size ≤ q) s.heap H locs)
    (hl : Cond.methodLink R_law idx M'.1 ∈ am_tbl) (hin : Cond.instanceMethod M'.1 ∈ am_tbl) (hse : Cond.selects M'.1.cls M'.1 M'.1 ∈ am_tbl) (hB : Cond.code M'.1 M'.2.1 M'.2.2.1 M'.2.2.2.1 ∈ am_tbl ∧ Cond.initialized M'.1.cls ∈ am_tbl ∧ (M'.1.cls ≠ "java/lang/invoke/MethodHandle" ∧ M'.1.cls ≠ "java/lang/invoke/VarHandle" ∧ (parseMethodDescriptor M'.1.desc).map (fun d => d.parameters.length) = some n)) (hR : M'.2.2.2.2.1 + 1 ≤ R.frames ∧ 8 + (M'.2.2.1 + 11) + M'.2.2.2.2.2 ≤ R.locals) (hc : am_cls[ci]? = some (M'.1.cls, T, N)) (hh : am_get h b0 = some (.inr (ci, fs))) (hn : as.length = n) (hcat : (rest.map fun v => v.category).sum ≤ 8) (hd : decode code pc = .ok (.invokevirtual idx, 3)) (he : am_EG M' (.ref b0 :: as) h r1) (hf : cells + (r1.2.1 - h.1) ≤ R.cells ∧ slots + (r1.2.2.1 - h.2.1) ≤ R.slots) (hst : st = (as.map (am_v s.heap.size)).reverse ++ .ref (s.heap.size + b0) :: rest)
    (kk : ∀ (H1 : Heap) (locs1 : List Loc), am_Wd s.heap.size D dA r1.2 H1 → va_S (fun q => s.heap.size ≤ q) s.heap H1 locs1 → W p l e R s m args below meth c H1 locs1 (cells + (r1.2.1 - h.1)) (slots + (r1.2.2.1 - h.2.1)) Q (F0 m (pc + 3) ls ((r1.1.map (am_v s.heap.size)).toList ++ rest))) : W p l e R s m args below meth c H locs cells slots Q (F0 m pc ls st) := by
  refine lw_go rfl hS ?_ kk
  exact va_runV (y := M'.1) (bytes := M'.2.1) (maxL := M'.2.2.1) (ret := M'.2.2.2.1) (Ts := am_tbl) (own := R_law) (C := M'.1.cls) (b := s.heap.size + b0) (As := as.map (am_v s.heap.size)) ⟨hx, hb, hml, hown, hts⟩ (he.2 l s.heap.size D dA) ⟨callB_of n hts (am_goodIn hB.1) rfl rfl rfl (hts _ hB.2.1) (hts _ hl) hB.2.2 hR, hts _ hin, hts _ hse⟩ ⟨am_blind s.heap.size D dA h (.ref b0 :: as), va_recv hK.1 (am_P1 (hw.2 b0 _ hh)) hc rfl (q0 := 0), fun U hU hW => ⟨rfl, by rw [hU]; exact hS.1, by rw [hU]; exact hw, hK.warm hW hU hS⟩⟩ rfl (by rw [List.length_map]; exact hn) hsz hst (lv_room hcat) hd hf
theorem lw_ci {M' : am_MI} {idx n b0 : Nat} {as : List Value} {rest : List Value} {h : am_H} {r1 : am_R} {D : va_G} {dA : Nat → ClassId} (hx : p.tables.exec = Jvm.exec) (hb : c.code = code) (hml : c.maxLocals = 4) (hsz : ls.size = 4) (hown : s.vm.findClass R_law = some m.cls) (hts : ∀ w ∈ am_tbl, w.before args s = true) (hK : am_Kn s.heap.size D dA s) (hw : am_Wd s.heap.size D dA h H) (hS : va_S (fun q => s.heap.size ≤ q) s.heap H locs)
    (hl : Cond.methodLink R_law idx M'.1 ∈ am_tbl) (hin : Cond.instanceMethod M'.1 ∈ am_tbl) (hi : M'.1.name = "<init>" ∧ M'.2.2.2.1 = none) (hB : Cond.code M'.1 M'.2.1 M'.2.2.1 M'.2.2.2.1 ∈ am_tbl ∧ Cond.initialized M'.1.cls ∈ am_tbl ∧ (M'.1.cls ≠ "java/lang/invoke/MethodHandle" ∧ M'.1.cls ≠ "java/lang/invoke/VarHandle" ∧ (parseMethodDescriptor M'.1.desc).map (fun d => d.parameters.length) = some n)) (hR : M'.2.2.2.2.1 + 1 ≤ R.frames ∧ 8 + (M'.2.2.1 + 11) + M'.2.2.2.2.2 ≤ R.locals) (hn : as.length = n) (hcat : (rest.map fun v => v.category).sum ≤ 8) (hd : decode code pc = .ok (.invokespecial idx, 3)) (he : am_EG M' (.ref b0 :: as) h r1) (hf : cells + (r1.2.1 - h.1) ≤ R.cells ∧ slots + (r1.2.2.1 - h.2.1) ≤ R.slots) (hst : st = (as.map (am_v s.heap.size)).reverse ++ .ref (s.heap.size + b0) :: rest)
    (kk : ∀ (H1 : Heap) (locs1 : List Loc), am_Wd s.heap.size D dA r1.2 H1 → va_S (fun q => s.heap.size ≤ q) s.heap H1 locs1 → W p l e R s m args below meth c H1 locs1 (cells + (r1.2.1 - h.1)) (slots + (r1.2.2.1 - h.2.1)) Q (F0 m (pc + 3) ls ((r1.1.map (am_v s.heap.size)).toList ++ rest))) : W p l e R s m args below meth c H locs cells slots Q (F0 m pc ls st) := by
  obtain ⟨y', cc', nl', rt', f', l'⟩ := M'
  obtain ⟨hi1, hi2⟩ := hi
  dsimp only at hi2
  subst hi2
  refine lw_go rfl hS ?_ kk
  exact va_runI (y := y') (bytes := cc') (maxL := nl') (Ts := am_tbl) (own := R_law) (b := s.heap.size + b0) (As := as.map (am_v s.heap.size)) ⟨hx, hb, hml, hown, hts⟩ (he.2 l s.heap.size D dA) ⟨callB_of n hts (am_goodIn hB.1) rfl rfl rfl (hts _ hB.2.1) (hts _ hl) hB.2.2 hR, hi1, hts _ hin⟩ ⟨am_blind s.heap.size D dA h (.ref b0 :: as), fun U hU hW => ⟨rfl, by rw [hU]; exact hS.1, by rw [hU]; exact hw, hK.warm hW hU hS⟩⟩ rfl (by rw [List.length_map]; exact hn) hsz hst (lv_room hcat) hd hf
/-- new, in the law -/
theorem lw_new {ci idx : Nat} {fs : List Value} {C : String} {T : u_T} {N : Nat} {ty : Nat → FieldType} {h h' : am_H} {D : va_G} {dA : Nat → ClassId} (hx : p.tables.exec = Jvm.exec) (hb : c.code = code) (hown : s.vm.findClass R_law = some m.cls) (hts : ∀ w ∈ am_tbl, w.before args s = true) (hK : am_Kn s.heap.size D dA s) (hw : am_Wd s.heap.size D dA h H) (hS : va_S (fun q => s.heap.size ≤ q) s.heap H locs) (hc : am_cok ci C T N ty) (hl : Cond.classLink R_law idx C ∈ am_tbl) (hin : Cond.instantiable C N ∈ am_tbl) (hini : Cond.initialized C ∈ am_tbl) (hfs : ∀ B j, j < N → defaultValue (ty j) = vp_V (fs.map (am_v B)) j) (hd : decode code pc = .ok (.new idx, 3)) (hn : am_New h h' N (.inr (ci, fs))) (hc1 : cells + 1 ≤ R.cells) (hs1 : slots + N ≤ R.slots)
    (kk : ∀ (H1 : Heap), am_Wd s.heap.size D dA h' H1 → va_S (fun q => s.heap.size ≤ q) s.heap H1 locs → W p l e R s m args below meth c H1 locs (cells + 1) (slots + N) Q (F0 m (pc + 3) ls (.ref (s.heap.size + h.1) :: st))) : W p l e R s m args below meth c H locs cells slots Q (F0 m pc ls st) := by
  have hKn := hK.1.1 ci _ hc.1
  refine W.newcK hx hb hown (hts _ hl) (hts _ hin) (hts _ hini) rfl hd hc1 hs1 hKn.2.1 rfl fun H1 kC hkC e1 z1 o1 => ?_
  have hsz := hw.1
  have hat : va_at D am_cls (s.heap.size + h.1, am_e s.heap.size dA (.inr (ci, fs))) H1 := by
    refine ⟨_, hc.1, ?_⟩
    rw [← hsz]
    exact (u_born ty hts hc.2.1 hKn hkC e1 hc.2.2.2).to (hfs s.heap.size)
  have hS1 : va_S (fun q => s.heap.size ≤ q) s.heap H1 locs := ⟨Nat.le_trans hS.1 (by omega), fun q h1 h2 => (o1 q (Nat.lt_of_lt_of_le h1 hS.1)).trans (hS.2.1 q h1 h2), hS.2.2⟩
  exact W.eq (g2 := F0 m (pc + 3) ls (.ref (s.heap.size + h.1) :: st)) (by rw [hsz]) (kk H1 (hw.new hn hat z1 o1) hS1)
end LWK
theorem am_Wd.less {B : Nat} {D : va_G} {dA : Nat → ClassId} {h h' : am_H} {H : Heap} (hw : am_Wd B D dA h H) (hn : h'.1 = h.1) (hg : ∀ k e, am_get h' k = some e → am_get h k = some e) : am_Wd B D dA h' H := ⟨by rw [hn]; exact hw.1, fun k e he => hw.2 k e (hg k e he)⟩
/-- what is known at the law's entry -/
theorem lw_kn {s : State} {args : Array Value} (hts : ∀ w ∈ lw_tbl, w.before args s = true) (hsx : am_Sx s.heap.size s) : ∃ (D : va_G) (dA : Nat → ClassId), am_Kn s.heap.size D dA s := by
  have htb : ∀ w ∈ am_tbl, w.before args s = true := fun w hw => hts w (am_tbl_in hw)
  have hcl : ∀ k : Nat, ∃ x : ClassId × (Nat → Nat), ∀ q : vw_C, am_cls[k]? = some q → u_Kn s q.1 q.2.1 q.2.2 x.1 x.2 := by
    intro k
    cases hq : am_cls[k]? with
    | none => exact ⟨(0, fun _ => 0), fun q h => by cases h⟩
    | some q =>
      obtain ⟨C, T, N⟩ := q
      have hh : (∀ w ∈ u_ws C T N, w ∈ am_tbl) ∧ ∃ n, Cond.instantiable C n ∈ am_tbl := by
        match k, hq with
        | 0, hq => cases hq; exact ⟨CK0, 9, w_262⟩
        | 1, hq => cases hq; exact ⟨CK1, 8, w_46⟩
        | 2, hq => cases hq; exact ⟨CK2, 1, w_138⟩
        | 3, hq => cases hq; exact ⟨CK3, 11, w_216⟩
        | 4, hq => cases hq; exact ⟨CK4, 2, w_321⟩
        | 5, hq => cases hq; exact ⟨CK5, 4, w_298⟩
        | 6, hq => cases hq; exact ⟨CK6, 2, w_31⟩
        | 7, hq => cases hq; exact ⟨CK7, 4, w_195⟩
        | 8, hq => cases hq; exact ⟨CK8, 4, w_52⟩
        | 9, hq => cases hq; exact ⟨CK9, 3, w_148⟩
        | 10, hq => cases hq; exact ⟨CK10, 7, w_164⟩
        | 11, hq => cases hq; exact ⟨CK11, 17, w_23⟩
        | 12, hq => cases hq; exact ⟨CK12, 55, w_926⟩
        | k + 13, hq => simp [am_cls] at hq
      obtain ⟨hu, n, hi⟩ := hh
      obtain ⟨cC, iS, hk⟩ := u_known (C := C) (T := T) (N := N) (n := n) htb hu (htb _ hi)
      exact ⟨(cC, iS), fun q h => by cases h; exact hk⟩
  have har : ∀ ty : FieldType, ty = .int ∨ ty = .char ∨ ty = .boolean → ∃ cA : ClassId, ArrOfT s cA ty ∧ va_RA s cA ty := by
    intro ty hty
    have hw : Cond.arrayClass ty ∈ am_tbl := by rcases hty with rfl | rfl | rfl <;> first | exact w_44 | exact w_43 | exact w_1101
    obtain ⟨cA, kA, comp, h1, h2, h3⟩ := Cond.arrayClass_spec (htb _ hw)
    exact ⟨cA, fun n z => ⟨fun k h => (by cases h), kA, h2, comp, h3⟩, by rcases hty with rfl | rfl | rfl <;> exact h1⟩
  obtain ⟨c0, a0, b0⟩ := har .int (Or.inl rfl)
  obtain ⟨c1, a1, b1⟩ := har .char (Or.inr (Or.inl rfl))
  obtain ⟨c2, a2, b2⟩ := har .boolean (Or.inr (Or.inr rfl))
  refine ⟨(fun k => (Classical.choose (hcl k)).1, fun k => (Classical.choose (hcl k)).2), fun k => if k = 0 then c0 else if k = 1 then c1 else c2, ⟨fun k q hq => Classical.choose_spec (hcl k) q hq, fun k q hq => ?_⟩, fun w hw => ?_, hsx⟩
  · match k, hq with
    | 0, hq => cases hq; exact ⟨a0, b0⟩
    | 1, hq => cases hq; exact ⟨a1, b1⟩
    | 2, hq => cases hq; exact ⟨a2, b2⟩
    | k + 3, hq => simp [am_tys] at hq
  · have hn := (List.mem_filter.mp hw).2
    have h1 := hts w (List.mem_append_right _ (List.mem_filter.mp hw).1)
    cases w <;> first | (exact va_Nw.of rfl h1) | (cases hn)
