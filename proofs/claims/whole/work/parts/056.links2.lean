theorem MN_RX10_28 : Cond.methodLinkNest RX10 28 yX1_init "HeavierByHand" ∈ nestL := List.mem_filter.mpr ⟨(tin_1 (List.mem_of_getElem? (i := 160) (by decide +kernel))), rfl⟩
theorem MN_RX10_39 : Cond.methodLinkNest RX10 39 yX7_init "HeavierByHand" ∈ nestL := List.mem_filter.mpr ⟨(tin_2 (List.mem_of_getElem? (i := 34) (by decide +kernel))), rfl⟩
theorem MN_RX10_42 : Cond.methodLinkNest RX10 42 yX3_init "HeavierByHand" ∈ nestL := List.mem_filter.mpr ⟨(tin_2 (List.mem_of_getElem? (i := 37) (by decide +kernel))), rfl⟩
theorem MN_RX10_49 : Cond.methodLinkNest RX10 49 yX9_init "HeavierByHand" ∈ nestL := List.mem_filter.mpr ⟨(tin_2 (List.mem_of_getElem? (i := 50) (by decide +kernel))), rfl⟩
theorem MN_RX10_56 : Cond.methodLinkNest RX10 56 yX0_init "HeavierByHand" ∈ nestL := List.mem_filter.mpr ⟨(tin_2 (List.mem_of_getElem? (i := 73) (by decide +kernel))), rfl⟩
theorem MN_RX10_9 : Cond.methodLinkNest RX10 9 yX4_init "HeavierByHand" ∈ nestL := List.mem_filter.mpr ⟨(tin_1 (List.mem_of_getElem? (i := 29) (by decide +kernel))), rfl⟩
theorem MN_RX1_11 : Cond.methodLinkNest RX1 11 yX7_init "HeavierByHand" ∈ nestL := List.mem_filter.mpr ⟨(tin_1 (List.mem_of_getElem? (i := 166) (by decide +kernel))), rfl⟩
theorem MN_RX1_20 : Cond.methodLinkNest RX1 20 yX8_init "HeavierByHand" ∈ nestL := List.mem_filter.mpr ⟨(tin_1 (List.mem_of_getElem? (i := 214) (by decide +kernel))), rfl⟩
theorem MN_RX1_61 : Cond.methodLinkNest RX1 61 yX10_isWithin "HeavierByHand" ∈ nestL := List.mem_filter.mpr ⟨(tin_3 (List.mem_of_getElem? (i := 54) (by decide +kernel))), rfl⟩
theorem MN_RX3_72 : Cond.methodLinkNest RX3 72 yX10_isWithin "HeavierByHand" ∈ nestL := List.mem_filter.mpr ⟨(tin_3 (List.mem_of_getElem? (i := 179) (by decide +kernel))), rfl⟩
theorem MN_RX4_39 : Cond.methodLinkNest RX4 39 yX5_init "HeavierByHand" ∈ nestL := List.mem_filter.mpr ⟨(tin_1 (List.mem_of_getElem? (i := 35) (by decide +kernel))), rfl⟩
theorem MN_RX4_85 : Cond.methodLinkNest RX4 85 yX10_isWithin "HeavierByHand" ∈ nestL := List.mem_filter.mpr ⟨(tin_2 (List.mem_of_getElem? (i := 147) (by decide +kernel))), rfl⟩
theorem PN_RX10 : plainName RX10 = true := by decide +kernel
theorem IN_RX10 : Cond.initialized RX10 ∈ tblG := tg_in (tin_1 (List.mem_of_getElem? (i := 1) (by decide +kernel))) rfl
theorem NH_RX10 : RX10 ≠ "java/lang/invoke/MethodHandle" ∧ RX10 ≠ "java/lang/invoke/VarHandle" := by decide +kernel
theorem PN_RX0 : plainName RX0 = true := by decide +kernel
theorem IN_RX0 : Cond.initialized RX0 ∈ tblG := tg_in (tin_1 (List.mem_of_getElem? (i := 10) (by decide +kernel))) rfl
theorem NH_RX0 : RX0 ≠ "java/lang/invoke/MethodHandle" ∧ RX0 ≠ "java/lang/invoke/VarHandle" := by decide +kernel
theorem PN_RX1 : plainName RX1 = true := by decide +kernel
theorem IN_RX1 : Cond.initialized RX1 ∈ tblG := tg_in (tin_1 (List.mem_of_getElem? (i := 5) (by decide +kernel))) rfl
theorem NH_RX1 : RX1 ≠ "java/lang/invoke/MethodHandle" ∧ RX1 ≠ "java/lang/invoke/VarHandle" := by decide +kernel
theorem PN_RX2 : plainName RX2 = true := by decide +kernel
theorem IN_RX2 : Cond.initialized RX2 ∈ tblG := tg_in (tin_1 (List.mem_of_getElem? (i := 18) (by decide +kernel))) rfl
theorem NH_RX2 : RX2 ≠ "java/lang/invoke/MethodHandle" ∧ RX2 ≠ "java/lang/invoke/VarHandle" := by decide +kernel
theorem PN_RX3 : plainName RX3 = true := by decide +kernel
theorem IN_RX3 : Cond.initialized RX3 ∈ tblG := tg_in (tin_1 (List.mem_of_getElem? (i := 8) (by decide +kernel))) rfl
theorem NH_RX3 : RX3 ≠ "java/lang/invoke/MethodHandle" ∧ RX3 ≠ "java/lang/invoke/VarHandle" := by decide +kernel
theorem PN_RX4 : plainName RX4 = true := by decide +kernel
theorem IN_RX4 : Cond.initialized RX4 ∈ tblG := tg_in (tin_1 (List.mem_of_getElem? (i := 2) (by decide +kernel))) rfl
theorem NH_RX4 : RX4 ≠ "java/lang/invoke/MethodHandle" ∧ RX4 ≠ "java/lang/invoke/VarHandle" := by decide +kernel
theorem PN_RX5 : plainName RX5 = true := by decide +kernel
theorem IN_RX5 : Cond.initialized RX5 ∈ tblG := tg_in (tin_1 (List.mem_of_getElem? (i := 3) (by decide +kernel))) rfl
theorem NH_RX5 : RX5 ≠ "java/lang/invoke/MethodHandle" ∧ RX5 ≠ "java/lang/invoke/VarHandle" := by decide +kernel
theorem PN_RX6 : plainName RX6 = true := by decide +kernel
theorem IN_RX6 : Cond.initialized RX6 ∈ tblG := tg_in (tin_1 (List.mem_of_getElem? (i := 4) (by decide +kernel))) rfl
theorem NH_RX6 : RX6 ≠ "java/lang/invoke/MethodHandle" ∧ RX6 ≠ "java/lang/invoke/VarHandle" := by decide +kernel
theorem PN_RX7 : plainName RX7 = true := by decide +kernel
theorem IN_RX7 : Cond.initialized RX7 ∈ tblG := tg_in (tin_1 (List.mem_of_getElem? (i := 6) (by decide +kernel))) rfl
theorem NH_RX7 : RX7 ≠ "java/lang/invoke/MethodHandle" ∧ RX7 ≠ "java/lang/invoke/VarHandle" := by decide +kernel
theorem PN_RX8 : plainName RX8 = true := by decide +kernel
theorem IN_RX8 : Cond.initialized RX8 ∈ tblG := tg_in (tin_1 (List.mem_of_getElem? (i := 7) (by decide +kernel))) rfl
theorem NH_RX8 : RX8 ≠ "java/lang/invoke/MethodHandle" ∧ RX8 ≠ "java/lang/invoke/VarHandle" := by decide +kernel
theorem PN_RX9 : plainName RX9 = true := by decide +kernel
theorem IN_RX9 : Cond.initialized RX9 ∈ tblG := tg_in (tin_1 (List.mem_of_getElem? (i := 9) (by decide +kernel))) rfl
theorem NH_RX9 : RX9 ≠ "java/lang/invoke/MethodHandle" ∧ RX9 ≠ "java/lang/invoke/VarHandle" := by decide +kernel
theorem PN_RX11 : plainName RX11 = true := by decide +kernel
theorem IN_RX11 : Cond.initialized RX11 ∈ tblG := tg_in (tin_1 (List.mem_of_getElem? (i := 11) (by decide +kernel))) rfl
theorem NH_RX11 : RX11 ≠ "java/lang/invoke/MethodHandle" ∧ RX11 ≠ "java/lang/invoke/VarHandle" := by decide +kernel
theorem IN_RJ9 : Cond.initialized RJ9 ∈ tblG := tg_in (tin_1 (List.mem_of_getElem? (i := 12) (by decide +kernel))) rfl
theorem NH_RJ9 : RJ9 ≠ "java/lang/invoke/MethodHandle" ∧ RJ9 ≠ "java/lang/invoke/VarHandle" := by decide +kernel
theorem IN_RJ0 : Cond.initialized RJ0 ∈ tblG := tg_in (tin_1 (List.mem_of_getElem? (i := 13) (by decide +kernel))) rfl
theorem NH_RJ0 : RJ0 ≠ "java/lang/invoke/MethodHandle" ∧ RJ0 ≠ "java/lang/invoke/VarHandle" := by decide +kernel
theorem IN_RJ1 : Cond.initialized RJ1 ∈ tblG := tg_in (tin_1 (List.mem_of_getElem? (i := 14) (by decide +kernel))) rfl
theorem NH_RJ1 : RJ1 ≠ "java/lang/invoke/MethodHandle" ∧ RJ1 ≠ "java/lang/invoke/VarHandle" := by decide +kernel
theorem IN_RJ2 : Cond.initialized RJ2 ∈ tblG := tg_in (tin_1 (List.mem_of_getElem? (i := 16) (by decide +kernel))) rfl
theorem NH_RJ2 : RJ2 ≠ "java/lang/invoke/MethodHandle" ∧ RJ2 ≠ "java/lang/invoke/VarHandle" := by decide +kernel
theorem IN_RJ3 : Cond.initialized RJ3 ∈ tblG := tg_in (tin_1 (List.mem_of_getElem? (i := 15) (by decide +kernel))) rfl
theorem NH_RJ3 : RJ3 ≠ "java/lang/invoke/MethodHandle" ∧ RJ3 ≠ "java/lang/invoke/VarHandle" := by decide +kernel
theorem MF_X0_init : MF yX0_init cX0_init 1 none 0 := ⟨tg_in (tin_2 (List.mem_of_getElem? (i := 75) (by decide +kernel))) rfl, IN_RX0, NH_RX0.1, NH_RX0.2, by decide +kernel⟩
theorem MI_X0_init : Cond.instanceMethod yX0_init ∈ tblG := tg_in (tin_2 (List.mem_of_getElem? (i := 74) (by decide +kernel))) rfl
theorem MF_X0_start : MF yX0_start cX0_start 2 none 1 := ⟨tg_in (tin_4 (List.mem_of_getElem? (i := 233) (by decide +kernel))) rfl, IN_RX0, NH_RX0.1, NH_RX0.2, by decide +kernel⟩
theorem MI_X0_start : MI yX0_start := ⟨tg_in (tin_4 (List.mem_of_getElem? (i := 231) (by decide +kernel))) rfl, tg_in (tin_4 (List.mem_of_getElem? (i := 232) (by decide +kernel))) rfl⟩
theorem MF_X0_draw : MF yX0_draw cX0_draw 3 (some .int) 1 := ⟨tg_in (tin_4 (List.mem_of_getElem? (i := 237) (by decide +kernel))) rfl, IN_RX0, NH_RX0.1, NH_RX0.2, by decide +kernel⟩
theorem MI_X0_draw : MI yX0_draw := ⟨tg_in (tin_4 (List.mem_of_getElem? (i := 235) (by decide +kernel))) rfl, tg_in (tin_4 (List.mem_of_getElem? (i := 236) (by decide +kernel))) rfl⟩
theorem MF_X1_init : MF yX1_init cX1_init 1 none 0 := ⟨tg_in (tin_1 (List.mem_of_getElem? (i := 162) (by decide +kernel))) rfl, IN_RX1, NH_RX1.1, NH_RX1.2, by decide +kernel⟩
theorem MI_X1_init : Cond.instanceMethod yX1_init ∈ tblG := tg_in (tin_1 (List.mem_of_getElem? (i := 161) (by decide +kernel))) rfl
theorem MF_X1_parse : MF yX1_parse cX1_parse 3 (some .boolean) 1 := ⟨tg_in (tin_2 (List.mem_of_getElem? (i := 167) (by decide +kernel))) rfl, IN_RX1, NH_RX1.1, NH_RX1.2, by decide +kernel⟩
theorem MI_X1_parse : MI yX1_parse := ⟨tg_in (tin_2 (List.mem_of_getElem? (i := 165) (by decide +kernel))) rfl, tg_in (tin_2 (List.mem_of_getElem? (i := 166) (by decide +kernel))) rfl⟩
theorem MF_X1_refuse : MF yX1_refuse cX1_refuse 2 (some .boolean) 1 := ⟨tg_in (tin_3 (List.mem_of_getElem? (i := 58) (by decide +kernel))) rfl, IN_RX1, NH_RX1.1, NH_RX1.2, by decide +kernel⟩
theorem MI_X1_refuse : MI yX1_refuse := ⟨tg_in (tin_3 (List.mem_of_getElem? (i := 57) (by decide +kernel))) rfl, tg_in (sin_1 (q := (⟨"HeavierByHand$Reader", "refuse", "(I)Z"⟩, 5)) (List.mem_of_getElem? (i := 7) (by decide +kernel))) rfl⟩
theorem MF_X1_pass : MF yX1_pass cX1_pass 2 (some .boolean) 1 := ⟨tg_in (tin_3 (List.mem_of_getElem? (i := 99) (by decide +kernel))) rfl, IN_RX1, NH_RX1.1, NH_RX1.2, by decide +kernel⟩
theorem MI_X1_pass : MI yX1_pass := ⟨tg_in (tin_3 (List.mem_of_getElem? (i := 98) (by decide +kernel))) rfl, tg_in (sin_1 (q := (⟨"HeavierByHand$Reader", "pass", "(I)Z"⟩, 5)) (List.mem_of_getElem? (i := 14) (by decide +kernel))) rfl⟩
theorem MF_X1_number : MF yX1_number cX1_number 2 (some .boolean) 1 := ⟨tg_in (tin_3 (List.mem_of_getElem? (i := 95) (by decide +kernel))) rfl, IN_RX1, NH_RX1.1, NH_RX1.2, by decide +kernel⟩
theorem MI_X1_number : MI yX1_number := ⟨tg_in (tin_3 (List.mem_of_getElem? (i := 94) (by decide +kernel))) rfl, tg_in (sin_1 (q := (⟨"HeavierByHand$Reader", "number", "(I)Z"⟩, 5)) (List.mem_of_getElem? (i := 13) (by decide +kernel))) rfl⟩
theorem MF_X1_clause : MF yX1_clause cX1_clause 3 (some .boolean) 0 := ⟨tg_in (tin_3 (List.mem_of_getElem? (i := 53) (by decide +kernel))) rfl, IN_RX1, NH_RX1.1, NH_RX1.2, by decide +kernel⟩
theorem MI_X1_clause : MI yX1_clause := ⟨tg_in (tin_3 (List.mem_of_getElem? (i := 52) (by decide +kernel))) rfl, tg_in (sin_1 (q := (⟨"HeavierByHand$Reader", "clause", "()Z"⟩, 5)) (List.mem_of_getElem? (i := 6) (by decide +kernel))) rfl⟩
theorem MF_X1_law : MF yX1_law cX1_law 3 (some .boolean) 1 := ⟨tg_in (tin_3 (List.mem_of_getElem? (i := 71) (by decide +kernel))) rfl, IN_RX1, NH_RX1.1, NH_RX1.2, by decide +kernel⟩
theorem MI_X1_law : MI yX1_law := ⟨tg_in (tin_3 (List.mem_of_getElem? (i := 70) (by decide +kernel))) rfl, tg_in (sin_1 (q := (⟨"HeavierByHand$Reader", "law", "(I)Z"⟩, 5)) (List.mem_of_getElem? (i := 8) (by decide +kernel))) rfl⟩
theorem MF_X1_deed : MF yX1_deed cX1_deed 4 (some .boolean) 1 := ⟨tg_in (tin_3 (List.mem_of_getElem? (i := 114) (by decide +kernel))) rfl, IN_RX1, NH_RX1.1, NH_RX1.2, by decide +kernel⟩
theorem MI_X1_deed : MI yX1_deed := ⟨tg_in (tin_3 (List.mem_of_getElem? (i := 113) (by decide +kernel))) rfl, tg_in (sin_1 (q := (⟨"HeavierByHand$Reader", "deed", "(I)Z"⟩, 5)) (List.mem_of_getElem? (i := 15) (by decide +kernel))) rfl⟩
theorem MF_X1_level : MF yX1_level cX1_level 5 (some .boolean) 2 := ⟨tg_in (tin_3 (List.mem_of_getElem? (i := 75) (by decide +kernel))) rfl, IN_RX1, NH_RX1.1, NH_RX1.2, by decide +kernel⟩
theorem MI_X1_level : MI yX1_level := ⟨tg_in (tin_3 (List.mem_of_getElem? (i := 74) (by decide +kernel))) rfl, tg_in (sin_1 (q := (⟨"HeavierByHand$Reader", "level", "(II)Z"⟩, 5)) (List.mem_of_getElem? (i := 9) (by decide +kernel))) rfl⟩
theorem MF_X1_isSignOf : MF yX1_isSignOf cX1_isSignOf 2 (some .boolean) 2 := ⟨tg_in (tin_3 (List.mem_of_getElem? (i := 102) (by decide +kernel))) rfl, IN_RX1, NH_RX1.1, NH_RX1.2, by decide +kernel⟩
theorem MS_X1_isSignOf : Cond.static yX1_isSignOf ∈ tblG := tg_in (tin_3 (List.mem_of_getElem? (i := 101) (by decide +kernel))) rfl
theorem MF_X1_ask : MF yX1_ask cX1_ask 3 (some .boolean) 1 := ⟨tg_in (tin_3 (List.mem_of_getElem? (i := 79) (by decide +kernel))) rfl, IN_RX1, NH_RX1.1, NH_RX1.2, by decide +kernel⟩
theorem MI_X1_ask : MI yX1_ask := ⟨tg_in (tin_3 (List.mem_of_getElem? (i := 78) (by decide +kernel))) rfl, tg_in (sin_1 (q := (⟨"HeavierByHand$Reader", "ask", "(I)Z"⟩, 5)) (List.mem_of_getElem? (i := 10) (by decide +kernel))) rfl⟩
theorem MF_X1_one : MF yX1_one cX1_one 4 (some .boolean) 1 := ⟨tg_in (tin_3 (List.mem_of_getElem? (i := 91) (by decide +kernel))) rfl, IN_RX1, NH_RX1.1, NH_RX1.2, by decide +kernel⟩
theorem MI_X1_one : MI yX1_one := ⟨tg_in (tin_3 (List.mem_of_getElem? (i := 90) (by decide +kernel))) rfl, tg_in (sin_1 (q := (⟨"HeavierByHand$Reader", "one", "(I)Z"⟩, 5)) (List.mem_of_getElem? (i := 12) (by decide +kernel))) rfl⟩
theorem MF_X1_opens : MF yX1_opens cX1_opens 2 (some .boolean) 1 := ⟨tg_in (tin_3 (List.mem_of_getElem? (i := 83) (by decide +kernel))) rfl, IN_RX1, NH_RX1.1, NH_RX1.2, by decide +kernel⟩
theorem MI_X1_opens : MI yX1_opens := ⟨tg_in (tin_3 (List.mem_of_getElem? (i := 82) (by decide +kernel))) rfl, tg_in (sin_1 (q := (⟨"HeavierByHand$Reader", "opens", "(I)Z"⟩, 5)) (List.mem_of_getElem? (i := 11) (by decide +kernel))) rfl⟩
theorem MF_X2_init : MF yX2_init cX2_init 2 none 1 := ⟨tg_in (tin_4 (List.mem_of_getElem? (i := 23) (by decide +kernel))) rfl, IN_RX2, NH_RX2.1, NH_RX2.2, by decide +kernel⟩
theorem MI_X2_init : Cond.instanceMethod yX2_init ∈ tblG := tg_in (tin_4 (List.mem_of_getElem? (i := 22) (by decide +kernel))) rfl
theorem MF_X2_suit : MF yX2_suit cX2_suit 5 none 2 := ⟨tg_in (tin_4 (List.mem_of_getElem? (i := 56) (by decide +kernel))) rfl, IN_RX2, NH_RX2.1, NH_RX2.2, by decide +kernel⟩
theorem MI_X2_suit : MI yX2_suit := ⟨tg_in (tin_4 (List.mem_of_getElem? (i := 54) (by decide +kernel))) rfl, tg_in (tin_4 (List.mem_of_getElem? (i := 55) (by decide +kernel))) rfl⟩
theorem MF_X2_total : MF yX2_total cX2_total 9 (some .long) 5 := ⟨tg_in (tin_4 (List.mem_of_getElem? (i := 61) (by decide +kernel))) rfl, IN_RX2, NH_RX2.1, NH_RX2.2, by decide +kernel⟩
theorem MI_X2_total : MI yX2_total := ⟨tg_in (tin_4 (List.mem_of_getElem? (i := 59) (by decide +kernel))) rfl, tg_in (tin_4 (List.mem_of_getElem? (i := 60) (by decide +kernel))) rfl⟩
theorem MF_X2_shortest : MF yX2_shortest cX2_shortest 7 (some .int) 5 := ⟨tg_in (tin_4 (List.mem_of_getElem? (i := 116) (by decide +kernel))) rfl, IN_RX2, NH_RX2.1, NH_RX2.2, by decide +kernel⟩
theorem MI_X2_shortest : MI yX2_shortest := ⟨tg_in (tin_4 (List.mem_of_getElem? (i := 114) (by decide +kernel))) rfl, tg_in (tin_4 (List.mem_of_getElem? (i := 115) (by decide +kernel))) rfl⟩
theorem MF_X2_handOfFirst : MF yX2_handOfFirst cX2_handOfFirst 9 (some .int) 5 := ⟨tg_in (tin_4 (List.mem_of_getElem? (i := 120) (by decide +kernel))) rfl, IN_RX2, NH_RX2.1, NH_RX2.2, by decide +kernel⟩
theorem MI_X2_handOfFirst : MI yX2_handOfFirst := ⟨tg_in (tin_4 (List.mem_of_getElem? (i := 118) (by decide +kernel))) rfl, tg_in (tin_4 (List.mem_of_getElem? (i := 119) (by decide +kernel))) rfl⟩
theorem MF_X2_inAll : MF yX2_inAll cX2_inAll 7 (some .int) 5 := ⟨tg_in (tin_4 (List.mem_of_getElem? (i := 144) (by decide +kernel))) rfl, IN_RX2, NH_RX2.1, NH_RX2.2, by decide +kernel⟩
theorem MI_X2_inAll : MI yX2_inAll := ⟨tg_in (tin_4 (List.mem_of_getElem? (i := 142) (by decide +kernel))) rfl, tg_in (tin_4 (List.mem_of_getElem? (i := 143) (by decide +kernel))) rfl⟩
theorem MF_X2_inSome : MF yX2_inSome cX2_inSome 6 (some .int) 5 := ⟨tg_in (tin_4 (List.mem_of_getElem? (i := 132) (by decide +kernel))) rfl, IN_RX2, NH_RX2.1, NH_RX2.2, by decide +kernel⟩
theorem MI_X2_inSome : MI yX2_inSome := ⟨tg_in (tin_4 (List.mem_of_getElem? (i := 130) (by decide +kernel))) rfl, tg_in (tin_4 (List.mem_of_getElem? (i := 131) (by decide +kernel))) rfl⟩
theorem MF_X2_marksOf : MF yX2_marksOf cX2_marksOf 10 (some .int) 5 := ⟨tg_in (tin_4 (List.mem_of_getElem? (i := 136) (by decide +kernel))) rfl, IN_RX2, NH_RX2.1, NH_RX2.2, by decide +kernel⟩
theorem MI_X2_marksOf : MI yX2_marksOf := ⟨tg_in (tin_4 (List.mem_of_getElem? (i := 135) (by decide +kernel))) rfl, tg_in (sin_3 (q := (⟨"HeavierByHand$RowTable", "marksOf", "(IIIII)I"⟩, 7)) (List.mem_of_getElem? (i := 2) (by decide +kernel))) rfl⟩
theorem MF_X2_marksAt : MF yX2_marksAt cX2_marksAt 7 (some .int) 3 := ⟨tg_in (tin_4 (List.mem_of_getElem? (i := 140) (by decide +kernel))) rfl, IN_RX2, NH_RX2.1, NH_RX2.2, by decide +kernel⟩
theorem MI_X2_marksAt : MI yX2_marksAt := ⟨tg_in (tin_4 (List.mem_of_getElem? (i := 139) (by decide +kernel))) rfl, tg_in (sin_3 (q := (⟨"HeavierByHand$RowTable", "marksAt", "(III)I"⟩, 7)) (List.mem_of_getElem? (i := 3) (by decide +kernel))) rfl⟩
theorem MF_X2_isNear : MF yX2_isNear cX2_isNear 2 (some .boolean) 2 := ⟨tg_in (tin_4 (List.mem_of_getElem? (i := 92) (by decide +kernel))) rfl, IN_RX2, NH_RX2.1, NH_RX2.2, by decide +kernel⟩
theorem MS_X2_isNear : Cond.static yX2_isNear ∈ tblG := tg_in (tin_4 (List.mem_of_getElem? (i := 91) (by decide +kernel))) rfl
theorem MF_X2_ofLength : MF yX2_ofLength cX2_ofLength 8 (some .long) 4 := ⟨tg_in (tin_4 (List.mem_of_getElem? (i := 89) (by decide +kernel))) rfl, IN_RX2, NH_RX2.1, NH_RX2.2, by decide +kernel⟩
theorem MI_X2_ofLength : MI yX2_ofLength := ⟨tg_in (tin_4 (List.mem_of_getElem? (i := 88) (by decide +kernel))) rfl, tg_in (sin_2 (q := (⟨"HeavierByHand$RowTable", "ofLength", "(IIII)J"⟩, 7)) (List.mem_of_getElem? (i := 14) (by decide +kernel))) rfl⟩
theorem MF_X2_startingWith : MF yX2_startingWith cX2_startingWith 10 (some .long) 4 := ⟨tg_in (tin_4 (List.mem_of_getElem? (i := 96) (by decide +kernel))) rfl, IN_RX2, NH_RX2.1, NH_RX2.2, by decide +kernel⟩
theorem MI_X2_startingWith : MI yX2_startingWith := ⟨tg_in (tin_4 (List.mem_of_getElem? (i := 95) (by decide +kernel))) rfl, tg_in (sin_2 (q := (⟨"HeavierByHand$RowTable", "startingWith", "(IIII)J"⟩, 7)) (List.mem_of_getElem? (i := 15) (by decide +kernel))) rfl⟩
theorem MF_X2_lowestFirst : MF yX2_lowestFirst cX2_lowestFirst 6 (some .int) 4 := ⟨tg_in (tin_4 (List.mem_of_getElem? (i := 124) (by decide +kernel))) rfl, IN_RX2, NH_RX2.1, NH_RX2.2, by decide +kernel⟩
theorem MI_X2_lowestFirst : MI yX2_lowestFirst := ⟨tg_in (tin_4 (List.mem_of_getElem? (i := 123) (by decide +kernel))) rfl, tg_in (sin_3 (q := (⟨"HeavierByHand$RowTable", "lowestFirst", "(IIII)I"⟩, 7)) (List.mem_of_getElem? (i := 1) (by decide +kernel))) rfl⟩
theorem MF_X2_build : MF yX2_build cX2_build 4 none 1 := ⟨tg_in (tin_4 (List.mem_of_getElem? (i := 65) (by decide +kernel))) rfl, IN_RX2, NH_RX2.1, NH_RX2.2, by decide +kernel⟩
theorem MI_X2_build : MI yX2_build := ⟨tg_in (tin_4 (List.mem_of_getElem? (i := 64) (by decide +kernel))) rfl, tg_in (sin_2 (q := (⟨"HeavierByHand$RowTable", "build", "(I)V"⟩, 7)) (List.mem_of_getElem? (i := 8) (by decide +kernel))) rfl⟩
theorem MF_X2_clear : MF yX2_clear cX2_clear 4 none 1 := ⟨tg_in (tin_4 (List.mem_of_getElem? (i := 69) (by decide +kernel))) rfl, IN_RX2, NH_RX2.1, NH_RX2.2, by decide +kernel⟩
theorem MI_X2_clear : MI yX2_clear := ⟨tg_in (tin_4 (List.mem_of_getElem? (i := 68) (by decide +kernel))) rfl, tg_in (sin_2 (q := (⟨"HeavierByHand$RowTable", "clear", "(I)V"⟩, 7)) (List.mem_of_getElem? (i := 9) (by decide +kernel))) rfl⟩
theorem MF_X2_buildSingle : MF yX2_buildSingle cX2_buildSingle 2 none 0 := ⟨tg_in (tin_4 (List.mem_of_getElem? (i := 73) (by decide +kernel))) rfl, IN_RX2, NH_RX2.1, NH_RX2.2, by decide +kernel⟩
theorem MI_X2_buildSingle : MI yX2_buildSingle := ⟨tg_in (tin_4 (List.mem_of_getElem? (i := 72) (by decide +kernel))) rfl, tg_in (sin_2 (q := (⟨"HeavierByHand$RowTable", "buildSingle", "()V"⟩, 7)) (List.mem_of_getElem? (i := 10) (by decide +kernel))) rfl⟩
theorem MF_X2_lengthen : MF yX2_lengthen cX2_lengthen 9 none 2 := ⟨tg_in (tin_4 (List.mem_of_getElem? (i := 85) (by decide +kernel))) rfl, IN_RX2, NH_RX2.1, NH_RX2.2, by decide +kernel⟩
theorem MI_X2_lengthen : MI yX2_lengthen := ⟨tg_in (tin_4 (List.mem_of_getElem? (i := 84) (by decide +kernel))) rfl, tg_in (sin_2 (q := (⟨"HeavierByHand$RowTable", "lengthen", "(II)V"⟩, 7)) (List.mem_of_getElem? (i := 13) (by decide +kernel))) rfl⟩
theorem MF_X2_put : MF yX2_put cX2_put 8 none 5 := ⟨tg_in (tin_4 (List.mem_of_getElem? (i := 77) (by decide +kernel))) rfl, IN_RX2, NH_RX2.1, NH_RX2.2, by decide +kernel⟩
theorem MI_X2_put : MI yX2_put := ⟨tg_in (tin_4 (List.mem_of_getElem? (i := 76) (by decide +kernel))) rfl, tg_in (sin_2 (q := (⟨"HeavierByHand$RowTable", "put", "(IIIJI)V"⟩, 7)) (List.mem_of_getElem? (i := 11) (by decide +kernel))) rfl⟩
theorem MF_X2_start : MF yX2_start cX2_start 1 (some .int) 1 := ⟨tg_in (tin_4 (List.mem_of_getElem? (i := 29) (by decide +kernel))) rfl, IN_RX2, NH_RX2.1, NH_RX2.2, by decide +kernel⟩
theorem MS_X2_start : Cond.static yX2_start ∈ tblG := tg_in (tin_4 (List.mem_of_getElem? (i := 28) (by decide +kernel))) rfl
theorem MF_X2_cell : MF yX2_cell cX2_cell 5 (some .int) 3 := ⟨tg_in (tin_4 (List.mem_of_getElem? (i := 81) (by decide +kernel))) rfl, IN_RX2, NH_RX2.1, NH_RX2.2, by decide +kernel⟩
theorem MI_X2_cell : MI yX2_cell := ⟨tg_in (tin_4 (List.mem_of_getElem? (i := 80) (by decide +kernel))) rfl, tg_in (sin_2 (q := (⟨"HeavierByHand$RowTable", "cell", "(III)I"⟩, 7)) (List.mem_of_getElem? (i := 12) (by decide +kernel))) rfl⟩
theorem MF_X3_init : MF yX3_init cX3_init 1 none 0 := ⟨tg_in (tin_2 (List.mem_of_getElem? (i := 39) (by decide +kernel))) rfl, IN_RX3, NH_RX3.1, NH_RX3.2, by decide +kernel⟩
theorem MI_X3_init : Cond.instanceMethod yX3_init ∈ tblG := tg_in (tin_2 (List.mem_of_getElem? (i := 38) (by decide +kernel))) rfl
theorem MF_X3_given : MF yX3_given cX3_given 6 (some .int) 4 := ⟨tg_in (tin_3 (List.mem_of_getElem? (i := 156) (by decide +kernel))) rfl, IN_RX3, NH_RX3.1, NH_RX3.2, by decide +kernel⟩
theorem MI_X3_given : MI yX3_given := ⟨tg_in (tin_3 (List.mem_of_getElem? (i := 154) (by decide +kernel))) rfl, tg_in (tin_3 (List.mem_of_getElem? (i := 155) (by decide +kernel))) rfl⟩
theorem MF_X3_worth : MF yX3_worth cX3_worth 9 (some .int) 6 := ⟨tg_in (tin_3 (List.mem_of_getElem? (i := 163) (by decide +kernel))) rfl, IN_RX3, NH_RX3.1, NH_RX3.2, by decide +kernel⟩
theorem MI_X3_worth : MI yX3_worth := ⟨tg_in (tin_3 (List.mem_of_getElem? (i := 162) (by decide +kernel))) rfl, tg_in (sin_2 (q := (⟨"HeavierByHand$Scale", "worth", "(LHeavierByHand$Text;IILHeavierByHand$State;II)I"⟩, 2)) (List.mem_of_getElem? (i := 1) (by decide +kernel))) rfl⟩
theorem MF_X3_push : MF yX3_push cX3_push 3 none 1 := ⟨tg_in (tin_3 (List.mem_of_getElem? (i := 170) (by decide +kernel))) rfl, IN_RX3, NH_RX3.1, NH_RX3.2, by decide +kernel⟩
theorem MI_X3_push : MI yX3_push := ⟨tg_in (tin_3 (List.mem_of_getElem? (i := 169) (by decide +kernel))) rfl, tg_in (sin_2 (q := (⟨"HeavierByHand$Scale", "push", "(J)V"⟩, 2)) (List.mem_of_getElem? (i := 2) (by decide +kernel))) rfl⟩
theorem MF_X3_pop : MF yX3_pop cX3_pop 1 (some .int) 0 := ⟨tg_in (tin_3 (List.mem_of_getElem? (i := 194) (by decide +kernel))) rfl, IN_RX3, NH_RX3.1, NH_RX3.2, by decide +kernel⟩
theorem MI_X3_pop : MI yX3_pop := ⟨tg_in (tin_3 (List.mem_of_getElem? (i := 193) (by decide +kernel))) rfl, tg_in (sin_2 (q := (⟨"HeavierByHand$Scale", "pop", "()I"⟩, 2)) (List.mem_of_getElem? (i := 4) (by decide +kernel))) rfl⟩
theorem MF_X3_named : MF yX3_named cX3_named 4 (some .int) 4 := ⟨tg_in (tin_3 (List.mem_of_getElem? (i := 182) (by decide +kernel))) rfl, IN_RX3, NH_RX3.1, NH_RX3.2, by decide +kernel⟩
theorem MS_X3_named : Cond.static yX3_named ∈ tblG := tg_in (tin_3 (List.mem_of_getElem? (i := 181) (by decide +kernel))) rfl
theorem MF_X3_work : MF yX3_work cX3_work 6 none 1 := ⟨tg_in (tin_3 (List.mem_of_getElem? (i := 190) (by decide +kernel))) rfl, IN_RX3, NH_RX3.1, NH_RX3.2, by decide +kernel⟩
theorem MI_X3_work : MI yX3_work := ⟨tg_in (tin_3 (List.mem_of_getElem? (i := 189) (by decide +kernel))) rfl, tg_in (sin_2 (q := (⟨"HeavierByHand$Scale", "work", "(I)V"⟩, 2)) (List.mem_of_getElem? (i := 3) (by decide +kernel))) rfl⟩
theorem MF_X3_reckoned : MF yX3_reckoned cX3_reckoned 5 (some .long) 3 := ⟨tg_in (tin_3 (List.mem_of_getElem? (i := 197) (by decide +kernel))) rfl, IN_RX3, NH_RX3.1, NH_RX3.2, by decide +kernel⟩
theorem MS_X3_reckoned : Cond.static yX3_reckoned ∈ tblG := tg_in (tin_3 (List.mem_of_getElem? (i := 196) (by decide +kernel))) rfl
theorem MF_X3_isSo : MF yX3_isSo cX3_isSo 5 (some .boolean) 3 := ⟨tg_in (tin_3 (List.mem_of_getElem? (i := 200) (by decide +kernel))) rfl, IN_RX3, NH_RX3.1, NH_RX3.2, by decide +kernel⟩
theorem MS_X3_isSo : Cond.static yX3_isSo ∈ tblG := tg_in (tin_3 (List.mem_of_getElem? (i := 199) (by decide +kernel))) rfl
theorem MF_X4_init : MF yX4_init cX4_init 1 none 0 := ⟨tg_in (tin_1 (List.mem_of_getElem? (i := 31) (by decide +kernel))) rfl, IN_RX4, NH_RX4.1, NH_RX4.2, by decide +kernel⟩
theorem MI_X4_init : Cond.instanceMethod yX4_init ∈ tblG := tg_in (tin_1 (List.mem_of_getElem? (i := 30) (by decide +kernel))) rfl
theorem MF_X4_copyOf : MF yX4_copyOf cX4_copyOf 2 none 1 := ⟨tg_in (tin_5 (List.mem_of_getElem? (i := 14) (by decide +kernel))) rfl, IN_RX4, NH_RX4.1, NH_RX4.2, by decide +kernel⟩
theorem MI_X4_copyOf : MI yX4_copyOf := ⟨tg_in (tin_5 (List.mem_of_getElem? (i := 12) (by decide +kernel))) rfl, tg_in (tin_5 (List.mem_of_getElem? (i := 13) (by decide +kernel))) rfl⟩
theorem MF_X4_isHand : MF yX4_isHand cX4_isHand 2 (some .boolean) 1 := ⟨tg_in (tin_2 (List.mem_of_getElem? (i := 130) (by decide +kernel))) rfl, IN_RX4, NH_RX4.1, NH_RX4.2, by decide +kernel⟩
theorem MI_X4_isHand : MI yX4_isHand := ⟨tg_in (tin_2 (List.mem_of_getElem? (i := 128) (by decide +kernel))) rfl, tg_in (tin_2 (List.mem_of_getElem? (i := 129) (by decide +kernel))) rfl⟩
theorem MF_X4_isCoin : MF yX4_isCoin cX4_isCoin 2 (some .boolean) 1 := ⟨tg_in (tin_3 (List.mem_of_getElem? (i := 147) (by decide +kernel))) rfl, IN_RX4, NH_RX4.1, NH_RX4.2, by decide +kernel⟩
theorem MI_X4_isCoin : MI yX4_isCoin := ⟨tg_in (tin_3 (List.mem_of_getElem? (i := 145) (by decide +kernel))) rfl, tg_in (tin_3 (List.mem_of_getElem? (i := 146) (by decide +kernel))) rfl⟩
theorem MF_X4_isText : MF yX4_isText cX4_isText 2 (some .boolean) 1 := ⟨tg_in (tin_3 (List.mem_of_getElem? (i := 135) (by decide +kernel))) rfl, IN_RX4, NH_RX4.1, NH_RX4.2, by decide +kernel⟩
theorem MI_X4_isText : MI yX4_isText := ⟨tg_in (tin_3 (List.mem_of_getElem? (i := 133) (by decide +kernel))) rfl, tg_in (tin_3 (List.mem_of_getElem? (i := 134) (by decide +kernel))) rfl⟩
theorem MF_X4_isMarketDay : MF yX4_isMarketDay cX4_isMarketDay 1 (some .boolean) 0 := ⟨tg_in (tin_3 (List.mem_of_getElem? (i := 186) (by decide +kernel))) rfl, IN_RX4, NH_RX4.1, NH_RX4.2, by decide +kernel⟩
theorem MI_X4_isMarketDay : MI yX4_isMarketDay := ⟨tg_in (tin_3 (List.mem_of_getElem? (i := 184) (by decide +kernel))) rfl, tg_in (tin_3 (List.mem_of_getElem? (i := 185) (by decide +kernel))) rfl⟩
theorem MF_X4_canBePaid : MF yX4_canBePaid cX4_canBePaid 3 (some .boolean) 2 := ⟨tg_in (tin_3 (List.mem_of_getElem? (i := 143) (by decide +kernel))) rfl, IN_RX4, NH_RX4.1, NH_RX4.2, by decide +kernel⟩
theorem MI_X4_canBePaid : MI yX4_canBePaid := ⟨tg_in (tin_3 (List.mem_of_getElem? (i := 141) (by decide +kernel))) rfl, tg_in (tin_3 (List.mem_of_getElem? (i := 142) (by decide +kernel))) rfl⟩
theorem MF_X4_addHand : MF yX4_addHand cX4_addHand 2 (some .int) 1 := ⟨tg_in (tin_2 (List.mem_of_getElem? (i := 122) (by decide +kernel))) rfl, IN_RX4, NH_RX4.1, NH_RX4.2, by decide +kernel⟩
theorem MI_X4_addHand : MI yX4_addHand := ⟨tg_in (tin_2 (List.mem_of_getElem? (i := 120) (by decide +kernel))) rfl, tg_in (tin_2 (List.mem_of_getElem? (i := 121) (by decide +kernel))) rfl⟩
theorem MF_X4_addCoin : MF yX4_addCoin cX4_addCoin 4 (some .int) 2 := ⟨tg_in (tin_2 (List.mem_of_getElem? (i := 134) (by decide +kernel))) rfl, IN_RX4, NH_RX4.1, NH_RX4.2, by decide +kernel⟩
theorem MI_X4_addCoin : MI yX4_addCoin := ⟨tg_in (tin_2 (List.mem_of_getElem? (i := 132) (by decide +kernel))) rfl, tg_in (tin_2 (List.mem_of_getElem? (i := 133) (by decide +kernel))) rfl⟩
theorem MF_X4_addGain : MF yX4_addGain cX4_addGain 3 (some .int) 2 := ⟨tg_in (tin_4 (List.mem_of_getElem? (i := 152) (by decide +kernel))) rfl, IN_RX4, NH_RX4.1, NH_RX4.2, by decide +kernel⟩
theorem MI_X4_addGain : MI yX4_addGain := ⟨tg_in (tin_4 (List.mem_of_getElem? (i := 150) (by decide +kernel))) rfl, tg_in (tin_4 (List.mem_of_getElem? (i := 151) (by decide +kernel))) rfl⟩
theorem MF_X4_letPass : MF yX4_letPass cX4_letPass 2 (some .boolean) 1 := ⟨tg_in (tin_2 (List.mem_of_getElem? (i := 146) (by decide +kernel))) rfl, IN_RX4, NH_RX4.1, NH_RX4.2, by decide +kernel⟩
theorem MI_X4_letPass : MI yX4_letPass := ⟨tg_in (tin_2 (List.mem_of_getElem? (i := 144) (by decide +kernel))) rfl, tg_in (tin_2 (List.mem_of_getElem? (i := 145) (by decide +kernel))) rfl⟩
theorem MF_X4_moveCoin : MF yX4_moveCoin cX4_moveCoin 4 (some .int) 3 := ⟨tg_in (tin_3 (List.mem_of_getElem? (i := 210) (by decide +kernel))) rfl, IN_RX4, NH_RX4.1, NH_RX4.2, by decide +kernel⟩
theorem MI_X4_moveCoin : MI yX4_moveCoin := ⟨tg_in (tin_3 (List.mem_of_getElem? (i := 208) (by decide +kernel))) rfl, tg_in (tin_3 (List.mem_of_getElem? (i := 209) (by decide +kernel))) rfl⟩
theorem MF_X4_cleanCoin : MF yX4_cleanCoin cX4_cleanCoin 3 (some .int) 1 := ⟨tg_in (tin_3 (List.mem_of_getElem? (i := 224) (by decide +kernel))) rfl, IN_RX4, NH_RX4.1, NH_RX4.2, by decide +kernel⟩
theorem MI_X4_cleanCoin : MI yX4_cleanCoin := ⟨tg_in (tin_3 (List.mem_of_getElem? (i := 222) (by decide +kernel))) rfl, tg_in (tin_3 (List.mem_of_getElem? (i := 223) (by decide +kernel))) rfl⟩
theorem MF_X4_takeBack : MF yX4_takeBack cX4_takeBack 3 (some .int) 0 := ⟨tg_in (tin_4 (List.mem_of_getElem? (i := 2) (by decide +kernel))) rfl, IN_RX4, NH_RX4.1, NH_RX4.2, by decide +kernel⟩
theorem MI_X4_takeBack : MI yX4_takeBack := ⟨tg_in (tin_4 (List.mem_of_getElem? (i := 0) (by decide +kernel))) rfl, tg_in (tin_4 (List.mem_of_getElem? (i := 1) (by decide +kernel))) rfl⟩
theorem MF_X4_lightestOf : MF yX4_lightestOf cX4_lightestOf 4 (some .int) 1 := ⟨tg_in (tin_5 (List.mem_of_getElem? (i := 5) (by decide +kernel))) rfl, IN_RX4, NH_RX4.1, NH_RX4.2, by decide +kernel⟩
theorem MI_X4_lightestOf : MI yX4_lightestOf := ⟨tg_in (tin_5 (List.mem_of_getElem? (i := 3) (by decide +kernel))) rfl, tg_in (tin_5 (List.mem_of_getElem? (i := 4) (by decide +kernel))) rfl⟩
theorem MF_X4_weightHeldBy : MF yX4_weightHeldBy cX4_weightHeldBy 4 (some .int) 1 := ⟨tg_in (tin_5 (List.mem_of_getElem? (i := 32) (by decide +kernel))) rfl, IN_RX4, NH_RX4.1, NH_RX4.2, by decide +kernel⟩
theorem MI_X4_weightHeldBy : MI yX4_weightHeldBy := ⟨tg_in (tin_5 (List.mem_of_getElem? (i := 30) (by decide +kernel))) rfl, tg_in (tin_5 (List.mem_of_getElem? (i := 31) (by decide +kernel))) rfl⟩
theorem MF_X5_init : MF yX5_init cX5_init 1 none 0 := ⟨tg_in (tin_1 (List.mem_of_getElem? (i := 37) (by decide +kernel))) rfl, IN_RX5, NH_RX5.1, NH_RX5.2, by decide +kernel⟩
theorem MI_X5_init : Cond.instanceMethod yX5_init ∈ tblG := tg_in (tin_1 (List.mem_of_getElem? (i := 36) (by decide +kernel))) rfl
theorem MF_X5_copyOf : MF yX5_copyOf cX5_copyOf 2 none 1 := ⟨tg_in (tin_5 (List.mem_of_getElem? (i := 19) (by decide +kernel))) rfl, IN_RX5, NH_RX5.1, NH_RX5.2, by decide +kernel⟩
theorem MI_X5_copyOf : MI yX5_copyOf := ⟨tg_in (tin_5 (List.mem_of_getElem? (i := 17) (by decide +kernel))) rfl, tg_in (tin_5 (List.mem_of_getElem? (i := 18) (by decide +kernel))) rfl⟩
theorem MF_X5_push : MF yX5_push cX5_push 5 none 4 := ⟨tg_in (tin_3 (List.mem_of_getElem? (i := 214) (by decide +kernel))) rfl, IN_RX5, NH_RX5.1, NH_RX5.2, by decide +kernel⟩
theorem MI_X5_push : MI yX5_push := ⟨tg_in (tin_3 (List.mem_of_getElem? (i := 212) (by decide +kernel))) rfl, tg_in (tin_3 (List.mem_of_getElem? (i := 213) (by decide +kernel))) rfl⟩
theorem MF_X5_pop : MF yX5_pop cX5_pop 1 (some .int) 0 := ⟨tg_in (tin_4 (List.mem_of_getElem? (i := 6) (by decide +kernel))) rfl, IN_RX5, NH_RX5.1, NH_RX5.2, by decide +kernel⟩
theorem MI_X5_pop : MI yX5_pop := ⟨tg_in (tin_4 (List.mem_of_getElem? (i := 4) (by decide +kernel))) rfl, tg_in (tin_4 (List.mem_of_getElem? (i := 5) (by decide +kernel))) rfl⟩
theorem MF_X6_init : MF yX6_init cX6_init 1 none 0 := ⟨tg_in (tin_1 (List.mem_of_getElem? (i := 147) (by decide +kernel))) rfl, IN_RX6, NH_RX6.1, NH_RX6.2, by decide +kernel⟩
theorem MI_X6_init : Cond.instanceMethod yX6_init ∈ tblG := tg_in (tin_1 (List.mem_of_getElem? (i := 146) (by decide +kernel))) rfl
theorem MF_X6_put : MF yX6_put cX6_put 3 none 1 := ⟨tg_in (tin_2 (List.mem_of_getElem? (i := 155) (by decide +kernel))) rfl, IN_RX6, NH_RX6.1, NH_RX6.2, by decide +kernel⟩
theorem MI_X6_put : MI yX6_put := ⟨tg_in (tin_2 (List.mem_of_getElem? (i := 153) (by decide +kernel))) rfl, tg_in (tin_2 (List.mem_of_getElem? (i := 154) (by decide +kernel))) rfl⟩
theorem MF_X6_byteAt : MF yX6_byteAt cX6_byteAt 2 (some .int) 1 := ⟨tg_in (tin_2 (List.mem_of_getElem? (i := 175) (by decide +kernel))) rfl, IN_RX6, NH_RX6.1, NH_RX6.2, by decide +kernel⟩
theorem MI_X6_byteAt : MI yX6_byteAt := ⟨tg_in (tin_2 (List.mem_of_getElem? (i := 173) (by decide +kernel))) rfl, tg_in (tin_2 (List.mem_of_getElem? (i := 174) (by decide +kernel))) rfl⟩
theorem MF_X7_init : MF yX7_init cX7_init 1 none 0 := ⟨tg_in (tin_1 (List.mem_of_getElem? (i := 168) (by decide +kernel))) rfl, IN_RX7, NH_RX7.1, NH_RX7.2, by decide +kernel⟩
theorem MI_X7_init : Cond.instanceMethod yX7_init ∈ tblG := tg_in (tin_1 (List.mem_of_getElem? (i := 167) (by decide +kernel))) rfl
theorem MF_X7_clear : MF yX7_clear cX7_clear 1 none 0 := ⟨tg_in (tin_3 (List.mem_of_getElem? (i := 49) (by decide +kernel))) rfl, IN_RX7, NH_RX7.1, NH_RX7.2, by decide +kernel⟩
theorem MI_X7_clear : MI yX7_clear := ⟨tg_in (tin_3 (List.mem_of_getElem? (i := 47) (by decide +kernel))) rfl, tg_in (tin_3 (List.mem_of_getElem? (i := 48) (by decide +kernel))) rfl⟩
theorem MF_X7_copyOf : MF yX7_copyOf cX7_copyOf 2 none 1 := ⟨tg_in (tin_3 (List.mem_of_getElem? (i := 119) (by decide +kernel))) rfl, IN_RX7, NH_RX7.1, NH_RX7.2, by decide +kernel⟩
theorem MI_X7_copyOf : MI yX7_copyOf := ⟨tg_in (tin_3 (List.mem_of_getElem? (i := 117) (by decide +kernel))) rfl, tg_in (tin_3 (List.mem_of_getElem? (i := 118) (by decide +kernel))) rfl⟩
theorem MF_X7_hasGlove : MF yX7_hasGlove cX7_hasGlove 1 (some .boolean) 0 := ⟨tg_in (tin_3 (List.mem_of_getElem? (i := 62) (by decide +kernel))) rfl, IN_RX7, NH_RX7.1, NH_RX7.2, by decide +kernel⟩
theorem MI_X7_hasGlove : MI yX7_hasGlove := ⟨tg_in (tin_3 (List.mem_of_getElem? (i := 60) (by decide +kernel))) rfl, tg_in (tin_3 (List.mem_of_getElem? (i := 61) (by decide +kernel))) rfl⟩
theorem MF_X7_hasGrain : MF yX7_hasGrain cX7_hasGrain 1 (some .boolean) 0 := ⟨tg_in (tin_3 (List.mem_of_getElem? (i := 66) (by decide +kernel))) rfl, IN_RX7, NH_RX7.1, NH_RX7.2, by decide +kernel⟩
theorem MI_X7_hasGrain : MI yX7_hasGrain := ⟨tg_in (tin_3 (List.mem_of_getElem? (i := 64) (by decide +kernel))) rfl, tg_in (tin_3 (List.mem_of_getElem? (i := 65) (by decide +kernel))) rfl⟩
theorem MF_X7_put : MF yX7_put cX7_put 2 (some .boolean) 1 := ⟨tg_in (tin_3 (List.mem_of_getElem? (i := 87) (by decide +kernel))) rfl, IN_RX7, NH_RX7.1, NH_RX7.2, by decide +kernel⟩
theorem MI_X7_put : MI yX7_put := ⟨tg_in (tin_3 (List.mem_of_getElem? (i := 85) (by decide +kernel))) rfl, tg_in (tin_3 (List.mem_of_getElem? (i := 86) (by decide +kernel))) rfl⟩
theorem MF_X7_addClause : MF yX7_addClause cX7_addClause 4 none 3 := ⟨tg_in (tin_3 (List.mem_of_getElem? (i := 110) (by decide +kernel))) rfl, IN_RX7, NH_RX7.1, NH_RX7.2, by decide +kernel⟩
theorem MI_X7_addClause : MI yX7_addClause := ⟨tg_in (tin_3 (List.mem_of_getElem? (i := 108) (by decide +kernel))) rfl, tg_in (tin_3 (List.mem_of_getElem? (i := 109) (by decide +kernel))) rfl⟩
theorem MF_X7_addLaw : MF yX7_addLaw cX7_addLaw 3 none 2 := ⟨tg_in (tin_3 (List.mem_of_getElem? (i := 106) (by decide +kernel))) rfl, IN_RX7, NH_RX7.1, NH_RX7.2, by decide +kernel⟩
theorem MI_X7_addLaw : MI yX7_addLaw := ⟨tg_in (tin_3 (List.mem_of_getElem? (i := 104) (by decide +kernel))) rfl, tg_in (tin_3 (List.mem_of_getElem? (i := 105) (by decide +kernel))) rfl⟩
theorem MF_X8_init : MF yX8_init cX8_init 1 none 0 := ⟨tg_in (tin_1 (List.mem_of_getElem? (i := 216) (by decide +kernel))) rfl, IN_RX8, NH_RX8.1, NH_RX8.2, by decide +kernel⟩
theorem MI_X8_init : Cond.instanceMethod yX8_init ∈ tblG := tg_in (tin_1 (List.mem_of_getElem? (i := 215) (by decide +kernel))) rfl
theorem MF_X8_cut : MF yX8_cut cX8_cut 4 none 1 := ⟨tg_in (tin_2 (List.mem_of_getElem? (i := 171) (by decide +kernel))) rfl, IN_RX8, NH_RX8.1, NH_RX8.2, by decide +kernel⟩
theorem MI_X8_cut : MI yX8_cut := ⟨tg_in (tin_2 (List.mem_of_getElem? (i := 169) (by decide +kernel))) rfl, tg_in (tin_2 (List.mem_of_getElem? (i := 170) (by decide +kernel))) rfl⟩
theorem MF_X8_next : MF yX8_next cX8_next 2 none 0 := ⟨tg_in (tin_3 (List.mem_of_getElem? (i := 45) (by decide +kernel))) rfl, IN_RX8, NH_RX8.1, NH_RX8.2, by decide +kernel⟩
theorem MI_X8_next : MI yX8_next := ⟨tg_in (tin_3 (List.mem_of_getElem? (i := 43) (by decide +kernel))) rfl, tg_in (tin_3 (List.mem_of_getElem? (i := 44) (by decide +kernel))) rfl⟩
theorem MF_X8_isToken : MF yX8_isToken cX8_isToken 2 (some .boolean) 1 := ⟨tg_in (tin_2 (List.mem_of_getElem? (i := 199) (by decide +kernel))) rfl, IN_RX8, NH_RX8.1, NH_RX8.2, by decide +kernel⟩
theorem MI_X8_isToken : MI yX8_isToken := ⟨tg_in (tin_2 (List.mem_of_getElem? (i := 198) (by decide +kernel))) rfl, tg_in (sin_1 (q := (⟨"HeavierByHand$Tokens", "isToken", "(I)Z"⟩, 10)) (List.mem_of_getElem? (i := 2) (by decide +kernel))) rfl⟩
theorem MF_X8_isBlank : MF yX8_isBlank cX8_isBlank 1 (some .boolean) 1 := ⟨tg_in (tin_2 (List.mem_of_getElem? (i := 178) (by decide +kernel))) rfl, IN_RX8, NH_RX8.1, NH_RX8.2, by decide +kernel⟩
theorem MS_X8_isBlank : Cond.static yX8_isBlank ∈ tblG := tg_in (tin_2 (List.mem_of_getElem? (i := 177) (by decide +kernel))) rfl
theorem MF_X8_isLetter : MF yX8_isLetter cX8_isLetter 1 (some .boolean) 1 := ⟨tg_in (tin_2 (List.mem_of_getElem? (i := 184) (by decide +kernel))) rfl, IN_RX8, NH_RX8.1, NH_RX8.2, by decide +kernel⟩
theorem MS_X8_isLetter : Cond.static yX8_isLetter ∈ tblG := tg_in (tin_2 (List.mem_of_getElem? (i := 183) (by decide +kernel))) rfl
theorem MF_X8_isDigit : MF yX8_isDigit cX8_isDigit 1 (some .boolean) 1 := ⟨tg_in (tin_2 (List.mem_of_getElem? (i := 187) (by decide +kernel))) rfl, IN_RX8, NH_RX8.1, NH_RX8.2, by decide +kernel⟩
theorem MS_X8_isDigit : Cond.static yX8_isDigit ∈ tblG := tg_in (tin_2 (List.mem_of_getElem? (i := 186) (by decide +kernel))) rfl
theorem MF_X8_joins : MF yX8_joins cX8_joins 2 (some .boolean) 2 := ⟨tg_in (tin_2 (List.mem_of_getElem? (i := 181) (by decide +kernel))) rfl, IN_RX8, NH_RX8.1, NH_RX8.2, by decide +kernel⟩
theorem MS_X8_joins : Cond.static yX8_joins ∈ tblG := tg_in (tin_2 (List.mem_of_getElem? (i := 180) (by decide +kernel))) rfl
theorem MF_X8_take : MF yX8_take cX8_take 5 none 3 := ⟨tg_in (tin_2 (List.mem_of_getElem? (i := 191) (by decide +kernel))) rfl, IN_RX8, NH_RX8.1, NH_RX8.2, by decide +kernel⟩
theorem MI_X8_take : MI yX8_take := ⟨tg_in (tin_2 (List.mem_of_getElem? (i := 190) (by decide +kernel))) rfl, tg_in (sin_1 (q := (⟨"HeavierByHand$Tokens", "take", "(IIZ)V"⟩, 10)) (List.mem_of_getElem? (i := 0) (by decide +kernel))) rfl⟩
theorem MF_X8_lengthen : MF yX8_lengthen cX8_lengthen 3 none 2 := ⟨tg_in (tin_2 (List.mem_of_getElem? (i := 195) (by decide +kernel))) rfl, IN_RX8, NH_RX8.1, NH_RX8.2, by decide +kernel⟩
theorem MI_X8_lengthen : MI yX8_lengthen := ⟨tg_in (tin_2 (List.mem_of_getElem? (i := 194) (by decide +kernel))) rfl, tg_in (sin_1 (q := (⟨"HeavierByHand$Tokens", "lengthen", "(II)V"⟩, 10)) (List.mem_of_getElem? (i := 1) (by decide +kernel))) rfl⟩
theorem MF_X8_kindOf : MF yX8_kindOf cX8_kindOf 1 (some .int) 1 := ⟨tg_in (tin_2 (List.mem_of_getElem? (i := 205) (by decide +kernel))) rfl, IN_RX8, NH_RX8.1, NH_RX8.2, by decide +kernel⟩
theorem MS_X8_kindOf : Cond.static yX8_kindOf ∈ tblG := tg_in (tin_2 (List.mem_of_getElem? (i := 204) (by decide +kernel))) rfl
theorem MF_X8_wordKind : MF yX8_wordKind cX8_wordKind 3 (some .int) 2 := ⟨tg_in (tin_2 (List.mem_of_getElem? (i := 209) (by decide +kernel))) rfl, IN_RX8, NH_RX8.1, NH_RX8.2, by decide +kernel⟩
theorem MI_X8_wordKind : MI yX8_wordKind := ⟨tg_in (tin_2 (List.mem_of_getElem? (i := 208) (by decide +kernel))) rfl, tg_in (sin_1 (q := (⟨"HeavierByHand$Tokens", "wordKind", "(LHeavierByHand$Tape;I)I"⟩, 10)) (List.mem_of_getElem? (i := 3) (by decide +kernel))) rfl⟩
theorem MF_X8_nameKind : MF yX8_nameKind cX8_nameKind 3 (some .int) 2 := ⟨tg_in (tin_3 (List.mem_of_getElem? (i := 34) (by decide +kernel))) rfl, IN_RX8, NH_RX8.1, NH_RX8.2, by decide +kernel⟩
theorem MI_X8_nameKind : MI yX8_nameKind := ⟨tg_in (tin_3 (List.mem_of_getElem? (i := 33) (by decide +kernel))) rfl, tg_in (sin_1 (q := (⟨"HeavierByHand$Tokens", "nameKind", "(LHeavierByHand$Tape;I)I"⟩, 10)) (List.mem_of_getElem? (i := 5) (by decide +kernel))) rfl⟩
theorem MF_X8_spells : MF yX8_spells cX8_spells 5 (some .boolean) 3 := ⟨tg_in (tin_2 (List.mem_of_getElem? (i := 214) (by decide +kernel))) rfl, IN_RX8, NH_RX8.1, NH_RX8.2, by decide +kernel⟩
theorem MI_X8_spells : MI yX8_spells := ⟨tg_in (tin_2 (List.mem_of_getElem? (i := 213) (by decide +kernel))) rfl, tg_in (sin_1 (q := (⟨"HeavierByHand$Tokens", "spells", "(LHeavierByHand$Tape;ILjava/lang/String;)Z"⟩, 10)) (List.mem_of_getElem? (i := 4) (by decide +kernel))) rfl⟩
theorem MF_X9_init : MF yX9_init cX9_init 1 none 0 := ⟨tg_in (tin_2 (List.mem_of_getElem? (i := 52) (by decide +kernel))) rfl, IN_RX9, NH_RX9.1, NH_RX9.2, by decide +kernel⟩
theorem MI_X9_init : Cond.instanceMethod yX9_init ∈ tblG := tg_in (tin_2 (List.mem_of_getElem? (i := 51) (by decide +kernel))) rfl
theorem MF_X9_arrange : MF yX9_arrange cX9_arrange 3 (some .int) 2 := ⟨tg_in (tin_4 (List.mem_of_getElem? (i := 188) (by decide +kernel))) rfl, IN_RX9, NH_RX9.1, NH_RX9.2, by decide +kernel⟩
theorem MI_X9_arrange : MI yX9_arrange := ⟨tg_in (tin_4 (List.mem_of_getElem? (i := 186) (by decide +kernel))) rfl, tg_in (tin_4 (List.mem_of_getElem? (i := 187) (by decide +kernel))) rfl⟩
theorem MF_X9_findEdges : MF yX9_findEdges cX9_findEdges 3 none 1 := ⟨tg_in (tin_4 (List.mem_of_getElem? (i := 192) (by decide +kernel))) rfl, IN_RX9, NH_RX9.1, NH_RX9.2, by decide +kernel⟩
theorem MI_X9_findEdges : MI yX9_findEdges := ⟨tg_in (tin_4 (List.mem_of_getElem? (i := 191) (by decide +kernel))) rfl, tg_in (sin_3 (q := (⟨"HeavierByHand$Trays", "findEdges", "(LHeavierByHand$State;)V"⟩, 5)) (List.mem_of_getElem? (i := 5) (by decide +kernel))) rfl⟩
theorem MF_X9_addEdge : MF yX9_addEdge cX9_addEdge 4 none 1 := ⟨tg_in (tin_4 (List.mem_of_getElem? (i := 196) (by decide +kernel))) rfl, IN_RX9, NH_RX9.1, NH_RX9.2, by decide +kernel⟩
theorem MI_X9_addEdge : MI yX9_addEdge := ⟨tg_in (tin_4 (List.mem_of_getElem? (i := 195) (by decide +kernel))) rfl, tg_in (sin_3 (q := (⟨"HeavierByHand$Trays", "addEdge", "(I)V"⟩, 5)) (List.mem_of_getElem? (i := 6) (by decide +kernel))) rfl⟩
theorem MF_X9_edgeBelow : MF yX9_edgeBelow cX9_edgeBelow 4 (some .int) 1 := ⟨tg_in (tin_4 (List.mem_of_getElem? (i := 200) (by decide +kernel))) rfl, IN_RX9, NH_RX9.1, NH_RX9.2, by decide +kernel⟩
theorem MI_X9_edgeBelow : MI yX9_edgeBelow := ⟨tg_in (tin_4 (List.mem_of_getElem? (i := 199) (by decide +kernel))) rfl, tg_in (sin_3 (q := (⟨"HeavierByHand$Trays", "edgeBelow", "(I)I"⟩, 5)) (List.mem_of_getElem? (i := 7) (by decide +kernel))) rfl⟩
theorem MF_X9_countWrong : MF yX9_countWrong cX9_countWrong 6 none 2 := ⟨tg_in (tin_4 (List.mem_of_getElem? (i := 204) (by decide +kernel))) rfl, IN_RX9, NH_RX9.1, NH_RX9.2, by decide +kernel⟩
theorem MI_X9_countWrong : MI yX9_countWrong := ⟨tg_in (tin_4 (List.mem_of_getElem? (i := 203) (by decide +kernel))) rfl, tg_in (sin_3 (q := (⟨"HeavierByHand$Trays", "countWrong", "(LHeavierByHand$State;I)V"⟩, 5)) (List.mem_of_getElem? (i := 8) (by decide +kernel))) rfl⟩
theorem MF_X9_findLeast : MF yX9_findLeast cX9_findLeast 6 none 1 := ⟨tg_in (tin_4 (List.mem_of_getElem? (i := 208) (by decide +kernel))) rfl, IN_RX9, NH_RX9.1, NH_RX9.2, by decide +kernel⟩
theorem MI_X9_findLeast : MI yX9_findLeast := ⟨tg_in (tin_4 (List.mem_of_getElem? (i := 207) (by decide +kernel))) rfl, tg_in (sin_3 (q := (⟨"HeavierByHand$Trays", "findLeast", "(I)V"⟩, 5)) (List.mem_of_getElem? (i := 9) (by decide +kernel))) rfl⟩
theorem MF_X9_wrongBy : MF yX9_wrongBy cX9_wrongBy 5 (some .int) 2 := ⟨tg_in (tin_4 (List.mem_of_getElem? (i := 216) (by decide +kernel))) rfl, IN_RX9, NH_RX9.1, NH_RX9.2, by decide +kernel⟩
theorem MI_X9_wrongBy : MI yX9_wrongBy := ⟨tg_in (tin_4 (List.mem_of_getElem? (i := 215) (by decide +kernel))) rfl, tg_in (sin_3 (q := (⟨"HeavierByHand$Trays", "wrongBy", "(II)I"⟩, 5)) (List.mem_of_getElem? (i := 11) (by decide +kernel))) rfl⟩
theorem MF_X9_setLeast : MF yX9_setLeast cX9_setLeast 5 none 3 := ⟨tg_in (tin_4 (List.mem_of_getElem? (i := 212) (by decide +kernel))) rfl, IN_RX9, NH_RX9.1, NH_RX9.2, by decide +kernel⟩
theorem MI_X9_setLeast : MI yX9_setLeast := ⟨tg_in (tin_4 (List.mem_of_getElem? (i := 211) (by decide +kernel))) rfl, tg_in (sin_3 (q := (⟨"HeavierByHand$Trays", "setLeast", "(III)V"⟩, 5)) (List.mem_of_getElem? (i := 10) (by decide +kernel))) rfl⟩
theorem MF_X9_placeCuts : MF yX9_placeCuts cX9_placeCuts 6 none 1 := ⟨tg_in (tin_4 (List.mem_of_getElem? (i := 221) (by decide +kernel))) rfl, IN_RX9, NH_RX9.1, NH_RX9.2, by decide +kernel⟩
theorem MI_X9_placeCuts : MI yX9_placeCuts := ⟨tg_in (tin_4 (List.mem_of_getElem? (i := 220) (by decide +kernel))) rfl, tg_in (sin_3 (q := (⟨"HeavierByHand$Trays", "placeCuts", "(I)V"⟩, 5)) (List.mem_of_getElem? (i := 12) (by decide +kernel))) rfl⟩
theorem MF_X9_mostCuts : MF yX9_mostCuts cX9_mostCuts 6 (some .int) 3 := ⟨tg_in (tin_4 (List.mem_of_getElem? (i := 225) (by decide +kernel))) rfl, IN_RX9, NH_RX9.1, NH_RX9.2, by decide +kernel⟩
theorem MI_X9_mostCuts : MI yX9_mostCuts := ⟨tg_in (tin_4 (List.mem_of_getElem? (i := 224) (by decide +kernel))) rfl, tg_in (sin_3 (q := (⟨"HeavierByHand$Trays", "mostCuts", "(III)I"⟩, 5)) (List.mem_of_getElem? (i := 13) (by decide +kernel))) rfl⟩
theorem MF_X10_init : MF yX10_init cX10_init 2 none 0 := ⟨tg_in (tin_1 (List.mem_of_getElem? (i := 23) (by decide +kernel))) rfl, IN_RX10, NH_RX10.1, NH_RX10.2, by decide +kernel⟩
theorem MI_X10_init : Cond.instanceMethod yX10_init ∈ tblG := tg_in (tin_1 (List.mem_of_getElem? (i := 22) (by decide +kernel))) rfl
theorem MF_X10_hand : MF yX10_hand cX10_hand 2 (some .int) 1 := ⟨tg_in (tin_2 (List.mem_of_getElem? (i := 115) (by decide +kernel))) rfl, IN_RX10, NH_RX10.1, NH_RX10.2, by decide +kernel⟩
theorem MI_X10_hand : MI yX10_hand := ⟨tg_in (tin_2 (List.mem_of_getElem? (i := 113) (by decide +kernel))) rfl, tg_in (tin_2 (List.mem_of_getElem? (i := 114) (by decide +kernel))) rfl⟩
theorem MF_X10_coin : MF yX10_coin cX10_coin 3 (some .int) 2 := ⟨tg_in (tin_2 (List.mem_of_getElem? (i := 126) (by decide +kernel))) rfl, IN_RX10, NH_RX10.1, NH_RX10.2, by decide +kernel⟩
theorem MI_X10_coin : MI yX10_coin := ⟨tg_in (tin_2 (List.mem_of_getElem? (i := 124) (by decide +kernel))) rfl, tg_in (tin_2 (List.mem_of_getElem? (i := 125) (by decide +kernel))) rfl⟩
theorem MF_X10_rules : MF yX10_rules cX10_rules 3 (some .boolean) 2 := ⟨tg_in (tin_2 (List.mem_of_getElem? (i := 138) (by decide +kernel))) rfl, IN_RX10, NH_RX10.1, NH_RX10.2, by decide +kernel⟩
theorem MI_X10_rules : MI yX10_rules := ⟨tg_in (tin_2 (List.mem_of_getElem? (i := 136) (by decide +kernel))) rfl, tg_in (tin_2 (List.mem_of_getElem? (i := 137) (by decide +kernel))) rfl⟩
theorem MF_X10_later : MF yX10_later cX10_later 2 (some .int) 1 := ⟨tg_in (tin_2 (List.mem_of_getElem? (i := 142) (by decide +kernel))) rfl, IN_RX10, NH_RX10.1, NH_RX10.2, by decide +kernel⟩
theorem MI_X10_later : MI yX10_later := ⟨tg_in (tin_2 (List.mem_of_getElem? (i := 140) (by decide +kernel))) rfl, tg_in (tin_2 (List.mem_of_getElem? (i := 141) (by decide +kernel))) rfl⟩
theorem MF_X10_feed : MF yX10_feed cX10_feed 6 (some .int) 5 := ⟨tg_in (tin_2 (List.mem_of_getElem? (i := 151) (by decide +kernel))) rfl, IN_RX10, NH_RX10.1, NH_RX10.2, by decide +kernel⟩
theorem MI_X10_feed : MI yX10_feed := ⟨tg_in (tin_2 (List.mem_of_getElem? (i := 149) (by decide +kernel))) rfl, tg_in (tin_2 (List.mem_of_getElem? (i := 150) (by decide +kernel))) rfl⟩
theorem MF_X10_end : MF yX10_end cX10_end 2 (some .int) 1 := ⟨tg_in (tin_2 (List.mem_of_getElem? (i := 159) (by decide +kernel))) rfl, IN_RX10, NH_RX10.1, NH_RX10.2, by decide +kernel⟩
theorem MI_X10_end : MI yX10_end := ⟨tg_in (tin_2 (List.mem_of_getElem? (i := 157) (by decide +kernel))) rfl, tg_in (tin_2 (List.mem_of_getElem? (i := 158) (by decide +kernel))) rfl⟩
theorem MF_X10_text : MF yX10_text cX10_text 4 (some .int) 0 := ⟨tg_in (tin_2 (List.mem_of_getElem? (i := 163) (by decide +kernel))) rfl, IN_RX10, NH_RX10.1, NH_RX10.2, by decide +kernel⟩
theorem MI_X10_text : MI yX10_text := ⟨tg_in (tin_2 (List.mem_of_getElem? (i := 161) (by decide +kernel))) rfl, tg_in (tin_2 (List.mem_of_getElem? (i := 162) (by decide +kernel))) rfl⟩
theorem MF_X10_fault : MF yX10_fault cX10_fault 2 (some .int) 1 := ⟨tg_in (tin_3 (List.mem_of_getElem? (i := 127) (by decide +kernel))) rfl, IN_RX10, NH_RX10.1, NH_RX10.2, by decide +kernel⟩
theorem MI_X10_fault : MI yX10_fault := ⟨tg_in (tin_3 (List.mem_of_getElem? (i := 125) (by decide +kernel))) rfl, tg_in (tin_3 (List.mem_of_getElem? (i := 126) (by decide +kernel))) rfl⟩
theorem MF_X10_by : MF yX10_by cX10_by 2 (some .boolean) 1 := ⟨tg_in (tin_3 (List.mem_of_getElem? (i := 131) (by decide +kernel))) rfl, IN_RX10, NH_RX10.1, NH_RX10.2, by decide +kernel⟩
theorem MI_X10_by : MI yX10_by := ⟨tg_in (tin_3 (List.mem_of_getElem? (i := 129) (by decide +kernel))) rfl, tg_in (tin_3 (List.mem_of_getElem? (i := 130) (by decide +kernel))) rfl⟩
theorem MF_X10_gives : MF yX10_gives cX10_gives 3 (some .int) 2 := ⟨tg_in (tin_3 (List.mem_of_getElem? (i := 139) (by decide +kernel))) rfl, IN_RX10, NH_RX10.1, NH_RX10.2, by decide +kernel⟩
theorem MI_X10_gives : MI yX10_gives := ⟨tg_in (tin_3 (List.mem_of_getElem? (i := 137) (by decide +kernel))) rfl, tg_in (tin_3 (List.mem_of_getElem? (i := 138) (by decide +kernel))) rfl⟩
theorem MF_X10_pay : MF yX10_pay cX10_pay 3 (some .int) 2 := ⟨tg_in (tin_3 (List.mem_of_getElem? (i := 206) (by decide +kernel))) rfl, IN_RX10, NH_RX10.1, NH_RX10.2, by decide +kernel⟩
theorem MI_X10_pay : MI yX10_pay := ⟨tg_in (tin_3 (List.mem_of_getElem? (i := 204) (by decide +kernel))) rfl, tg_in (tin_3 (List.mem_of_getElem? (i := 205) (by decide +kernel))) rfl⟩
theorem MF_X10_wash : MF yX10_wash cX10_wash 2 (some .int) 1 := ⟨tg_in (tin_3 (List.mem_of_getElem? (i := 219) (by decide +kernel))) rfl, IN_RX10, NH_RX10.1, NH_RX10.2, by decide +kernel⟩
theorem MI_X10_wash : MI yX10_wash := ⟨tg_in (tin_3 (List.mem_of_getElem? (i := 217) (by decide +kernel))) rfl, tg_in (tin_3 (List.mem_of_getElem? (i := 218) (by decide +kernel))) rfl⟩
theorem MF_X10_played : MF yX10_played cX10_played 4 (some .int) 1 := ⟨tg_in (tin_3 (List.mem_of_getElem? (i := 228) (by decide +kernel))) rfl, IN_RX10, NH_RX10.1, NH_RX10.2, by decide +kernel⟩
theorem MI_X10_played : MI yX10_played := ⟨tg_in (tin_3 (List.mem_of_getElem? (i := 226) (by decide +kernel))) rfl, tg_in (tin_3 (List.mem_of_getElem? (i := 227) (by decide +kernel))) rfl⟩
theorem MF_X10_undo : MF yX10_undo cX10_undo 1 (some .int) 0 := ⟨tg_in (tin_3 (List.mem_of_getElem? (i := 238) (by decide +kernel))) rfl, IN_RX10, NH_RX10.1, NH_RX10.2, by decide +kernel⟩
theorem MI_X10_undo : MI yX10_undo := ⟨tg_in (tin_3 (List.mem_of_getElem? (i := 236) (by decide +kernel))) rfl, tg_in (tin_3 (List.mem_of_getElem? (i := 237) (by decide +kernel))) rfl⟩
theorem MF_X10_of : MF yX10_of cX10_of 3 (some .int) 2 := ⟨tg_in (tin_4 (List.mem_of_getElem? (i := 10) (by decide +kernel))) rfl, IN_RX10, NH_RX10.1, NH_RX10.2, by decide +kernel⟩
theorem MI_X10_of : MI yX10_of := ⟨tg_in (tin_4 (List.mem_of_getElem? (i := 8) (by decide +kernel))) rfl, tg_in (tin_4 (List.mem_of_getElem? (i := 9) (by decide +kernel))) rfl⟩
theorem MF_X10_rows : MF yX10_rows cX10_rows 5 (some .long) 4 := ⟨tg_in (tin_4 (List.mem_of_getElem? (i := 100) (by decide +kernel))) rfl, IN_RX10, NH_RX10.1, NH_RX10.2, by decide +kernel⟩
theorem MI_X10_rows : MI yX10_rows := ⟨tg_in (tin_4 (List.mem_of_getElem? (i := 98) (by decide +kernel))) rfl, tg_in (tin_4 (List.mem_of_getElem? (i := 99) (by decide +kernel))) rfl⟩
theorem MF_X10_row : MF yX10_row cX10_row 8 (some .int) 5 := ⟨tg_in (tin_4 (List.mem_of_getElem? (i := 112) (by decide +kernel))) rfl, IN_RX10, NH_RX10.1, NH_RX10.2, by decide +kernel⟩
theorem MI_X10_row : MI yX10_row := ⟨tg_in (tin_4 (List.mem_of_getElem? (i := 110) (by decide +kernel))) rfl, tg_in (tin_4 (List.mem_of_getElem? (i := 111) (by decide +kernel))) rfl⟩
theorem MF_X10_among : MF yX10_among cX10_among 7 (some .int) 5 := ⟨tg_in (tin_4 (List.mem_of_getElem? (i := 128) (by decide +kernel))) rfl, IN_RX10, NH_RX10.1, NH_RX10.2, by decide +kernel⟩
theorem MI_X10_among : MI yX10_among := ⟨tg_in (tin_4 (List.mem_of_getElem? (i := 126) (by decide +kernel))) rfl, tg_in (tin_4 (List.mem_of_getElem? (i := 127) (by decide +kernel))) rfl⟩
theorem MF_X10_purse : MF yX10_purse cX10_purse 3 (some .int) 2 := ⟨tg_in (tin_4 (List.mem_of_getElem? (i := 148) (by decide +kernel))) rfl, IN_RX10, NH_RX10.1, NH_RX10.2, by decide +kernel⟩
theorem MI_X10_purse : MI yX10_purse := ⟨tg_in (tin_4 (List.mem_of_getElem? (i := 146) (by decide +kernel))) rfl, tg_in (tin_4 (List.mem_of_getElem? (i := 147) (by decide +kernel))) rfl⟩
theorem MF_X10_odds : MF yX10_odds cX10_odds 16 (some .long) 4 := ⟨tg_in (tin_4 (List.mem_of_getElem? (i := 156) (by decide +kernel))) rfl, IN_RX10, NH_RX10.1, NH_RX10.2, by decide +kernel⟩
theorem MI_X10_odds : MI yX10_odds := ⟨tg_in (tin_4 (List.mem_of_getElem? (i := 154) (by decide +kernel))) rfl, tg_in (tin_4 (List.mem_of_getElem? (i := 155) (by decide +kernel))) rfl⟩
theorem MF_X10_told : MF yX10_told cX10_told 6 (some .int) 2 := ⟨tg_in (tin_4 (List.mem_of_getElem? (i := 167) (by decide +kernel))) rfl, IN_RX10, NH_RX10.1, NH_RX10.2, by decide +kernel⟩
theorem MI_X10_told : MI yX10_told := ⟨tg_in (tin_4 (List.mem_of_getElem? (i := 165) (by decide +kernel))) rfl, tg_in (tin_4 (List.mem_of_getElem? (i := 166) (by decide +kernel))) rfl⟩
theorem MF_X10_chosen : MF yX10_chosen cX10_chosen 5 (some .int) 3 := ⟨tg_in (tin_4 (List.mem_of_getElem? (i := 174) (by decide +kernel))) rfl, IN_RX10, NH_RX10.1, NH_RX10.2, by decide +kernel⟩
theorem MI_X10_chosen : MI yX10_chosen := ⟨tg_in (tin_4 (List.mem_of_getElem? (i := 172) (by decide +kernel))) rfl, tg_in (tin_4 (List.mem_of_getElem? (i := 173) (by decide +kernel))) rfl⟩
theorem MF_X10_tray : MF yX10_tray cX10_tray 3 (some .boolean) 2 := ⟨tg_in (tin_4 (List.mem_of_getElem? (i := 180) (by decide +kernel))) rfl, IN_RX10, NH_RX10.1, NH_RX10.2, by decide +kernel⟩
theorem MI_X10_tray : MI yX10_tray := ⟨tg_in (tin_4 (List.mem_of_getElem? (i := 178) (by decide +kernel))) rfl, tg_in (tin_4 (List.mem_of_getElem? (i := 179) (by decide +kernel))) rfl⟩
theorem MF_X10_sorted : MF yX10_sorted cX10_sorted 4 (some .int) 2 := ⟨tg_in (tin_4 (List.mem_of_getElem? (i := 184) (by decide +kernel))) rfl, IN_RX10, NH_RX10.1, NH_RX10.2, by decide +kernel⟩
theorem MI_X10_sorted : MI yX10_sorted := ⟨tg_in (tin_4 (List.mem_of_getElem? (i := 182) (by decide +kernel))) rfl, tg_in (tin_4 (List.mem_of_getElem? (i := 183) (by decide +kernel))) rfl⟩
theorem MF_X10_read : MF yX10_read cX10_read 3 (some .int) 2 := ⟨tg_in (tin_4 (List.mem_of_getElem? (i := 229) (by decide +kernel))) rfl, IN_RX10, NH_RX10.1, NH_RX10.2, by decide +kernel⟩
theorem MI_X10_read : MI yX10_read := ⟨tg_in (tin_4 (List.mem_of_getElem? (i := 227) (by decide +kernel))) rfl, tg_in (tin_4 (List.mem_of_getElem? (i := 228) (by decide +kernel))) rfl⟩
theorem MF_X10_market : MF yX10_market cX10_market 8 (some .int) 2 := ⟨tg_in (tin_5 (List.mem_of_getElem? (i := 1) (by decide +kernel))) rfl, IN_RX10, NH_RX10.1, NH_RX10.2, by decide +kernel⟩
theorem MI_X10_market : MI yX10_market := ⟨tg_in (tin_4 (List.mem_of_getElem? (i := 239) (by decide +kernel))) rfl, tg_in (tin_5 (List.mem_of_getElem? (i := 0) (by decide +kernel))) rfl⟩
theorem MF_X10_image : MF yX10_image cX10_image 1 (some .int) 0 := ⟨tg_in (tin_5 (List.mem_of_getElem? (i := 10) (by decide +kernel))) rfl, IN_RX10, NH_RX10.1, NH_RX10.2, by decide +kernel⟩
theorem MI_X10_image : MI yX10_image := ⟨tg_in (tin_5 (List.mem_of_getElem? (i := 8) (by decide +kernel))) rfl, tg_in (tin_5 (List.mem_of_getElem? (i := 9) (by decide +kernel))) rfl⟩
theorem MF_X10_back : MF yX10_back cX10_back 1 (some .int) 0 := ⟨tg_in (tin_5 (List.mem_of_getElem? (i := 24) (by decide +kernel))) rfl, IN_RX10, NH_RX10.1, NH_RX10.2, by decide +kernel⟩
theorem MI_X10_back : MI yX10_back := ⟨tg_in (tin_5 (List.mem_of_getElem? (i := 22) (by decide +kernel))) rfl, tg_in (tin_5 (List.mem_of_getElem? (i := 23) (by decide +kernel))) rfl⟩
theorem MF_X10_about : MF yX10_about cX10_about 2 (some .int) 1 := ⟨tg_in (tin_5 (List.mem_of_getElem? (i := 28) (by decide +kernel))) rfl, IN_RX10, NH_RX10.1, NH_RX10.2, by decide +kernel⟩
theorem MI_X10_about : MI yX10_about := ⟨tg_in (tin_5 (List.mem_of_getElem? (i := 26) (by decide +kernel))) rfl, tg_in (tin_5 (List.mem_of_getElem? (i := 27) (by decide +kernel))) rfl⟩
theorem MF_X10_isWithin : MF yX10_isWithin cX10_isWithin 3 (some .boolean) 3 := ⟨tg_in (tin_2 (List.mem_of_getElem? (i := 118) (by decide +kernel))) rfl, IN_RX10, NH_RX10.1, NH_RX10.2, by decide +kernel⟩
theorem MS_X10_isWithin : Cond.static yX10_isWithin ∈ tblG := tg_in (tin_2 (List.mem_of_getElem? (i := 117) (by decide +kernel))) rfl
theorem MF_X10_areLengths : MF yX10_areLengths cX10_areLengths 3 (some .boolean) 3 := ⟨tg_in (tin_4 (List.mem_of_getElem? (i := 107) (by decide +kernel))) rfl, IN_RX10, NH_RX10.1, NH_RX10.2, by decide +kernel⟩
theorem MS_X10_areLengths : Cond.static yX10_areLengths ∈ tblG := tg_in (tin_4 (List.mem_of_getElem? (i := 106) (by decide +kernel))) rfl
theorem MF_X10_isRowQuestion : MF yX10_isRowQuestion cX10_isRowQuestion 5 (some .boolean) 4 := ⟨tg_in (tin_4 (List.mem_of_getElem? (i := 104) (by decide +kernel))) rfl, IN_RX10, NH_RX10.1, NH_RX10.2, by decide +kernel⟩
theorem MI_X10_isRowQuestion : MI yX10_isRowQuestion := ⟨tg_in (tin_4 (List.mem_of_getElem? (i := 103) (by decide +kernel))) rfl, tg_in (sin_3 (q := (⟨"HeavierByHand", "isRowQuestion", "(IIII)Z"⟩, 10)) (List.mem_of_getElem? (i := 0) (by decide +kernel))) rfl⟩
theorem MF_X10_ruling : MF yX10_ruling cX10_ruling 1 (some (.object "HeavierByHand$Text")) 0 := ⟨tg_in (tin_3 (List.mem_of_getElem? (i := 152) (by decide +kernel))) rfl, IN_RX10, NH_RX10.1, NH_RX10.2, by decide +kernel⟩
theorem MI_X10_ruling : MI yX10_ruling := ⟨tg_in (tin_3 (List.mem_of_getElem? (i := 151) (by decide +kernel))) rfl, tg_in (sin_2 (q := (⟨"HeavierByHand", "ruling", "()LHeavierByHand$Text;"⟩, 10)) (List.mem_of_getElem? (i := 0) (by decide +kernel))) rfl⟩
theorem MF_X10_isDone : MF yX10_isDone cX10_isDone 4 (some .boolean) 3 := ⟨tg_in (tin_3 (List.mem_of_getElem? (i := 232) (by decide +kernel))) rfl, IN_RX10, NH_RX10.1, NH_RX10.2, by decide +kernel⟩
theorem MI_X10_isDone : MI yX10_isDone := ⟨tg_in (tin_3 (List.mem_of_getElem? (i := 231) (by decide +kernel))) rfl, tg_in (sin_2 (q := (⟨"HeavierByHand", "isDone", "(III)Z"⟩, 10)) (List.mem_of_getElem? (i := 5) (by decide +kernel))) rfl⟩
theorem MF_X10_mustBeWashed : MF yX10_mustBeWashed cX10_mustBeWashed 6 (some .int) 1 := ⟨tg_in (tin_4 (List.mem_of_getElem? (i := 14) (by decide +kernel))) rfl, IN_RX10, NH_RX10.1, NH_RX10.2, by decide +kernel⟩
theorem MI_X10_mustBeWashed : MI yX10_mustBeWashed := ⟨tg_in (tin_4 (List.mem_of_getElem? (i := 13) (by decide +kernel))) rfl, tg_in (sin_2 (q := (⟨"HeavierByHand", "mustBeWashed", "(I)I"⟩, 10)) (List.mem_of_getElem? (i := 6) (by decide +kernel))) rfl⟩
theorem MF_X10_onlyOne : MF yX10_onlyOne cX10_onlyOne 3 (some .int) 1 := ⟨tg_in (tin_4 (List.mem_of_getElem? (i := 170) (by decide +kernel))) rfl, IN_RX10, NH_RX10.1, NH_RX10.2, by decide +kernel⟩
theorem MS_X10_onlyOne : Cond.static yX10_onlyOne ∈ tblG := tg_in (tin_4 (List.mem_of_getElem? (i := 169) (by decide +kernel))) rfl
theorem MF_X10_tableOfAll : MF yX10_tableOfAll cX10_tableOfAll 2 (some (.object "HeavierByHand$RowTable")) 0 := ⟨tg_in (tin_4 (List.mem_of_getElem? (i := 18) (by decide +kernel))) rfl, IN_RX10, NH_RX10.1, NH_RX10.2, by decide +kernel⟩
theorem MI_X10_tableOfAll : MI yX10_tableOfAll := ⟨tg_in (tin_4 (List.mem_of_getElem? (i := 17) (by decide +kernel))) rfl, tg_in (sin_2 (q := (⟨"HeavierByHand", "tableOfAll", "()LHeavierByHand$RowTable;"⟩, 10)) (List.mem_of_getElem? (i := 7) (by decide +kernel))) rfl⟩
theorem MF_X10_tableWithout : MF yX10_tableWithout cX10_tableWithout 3 (some (.object "HeavierByHand$RowTable")) 1 := ⟨tg_in (tin_4 (List.mem_of_getElem? (i := 160) (by decide +kernel))) rfl, IN_RX10, NH_RX10.1, NH_RX10.2, by decide +kernel⟩
theorem MI_X10_tableWithout : MI yX10_tableWithout := ⟨tg_in (tin_4 (List.mem_of_getElem? (i := 159) (by decide +kernel))) rfl, tg_in (sin_3 (q := (⟨"HeavierByHand", "tableWithout", "(I)LHeavierByHand$RowTable;"⟩, 10)) (List.mem_of_getElem? (i := 4) (by decide +kernel))) rfl⟩
theorem MF_X10_commonDivisor : MF yX10_commonDivisor cX10_commonDivisor 11 (some .long) 2 := ⟨tg_in (tin_4 (List.mem_of_getElem? (i := 163) (by decide +kernel))) rfl, IN_RX10, NH_RX10.1, NH_RX10.2, by decide +kernel⟩
theorem MS_X10_commonDivisor : Cond.static yX10_commonDivisor ∈ tblG := tg_in (tin_4 (List.mem_of_getElem? (i := 162) (by decide +kernel))) rfl
theorem MF_X11_init : MF yX11_init cX11_init 1 none 0 := ⟨tg_in (tin_5 (List.mem_of_getElem? (i := 37) (by decide +kernel))) rfl, IN_RX11, NH_RX11.1, NH_RX11.2, by decide +kernel⟩
theorem MI_X11_init : Cond.instanceMethod yX11_init ∈ tblG := tg_in (tin_5 (List.mem_of_getElem? (i := 36) (by decide +kernel))) rfl
theorem MF_X11_in : MF yX11_in cX11_in 3 (some .boolean) 3 := ⟨tg_in (tin_5 (List.mem_of_getElem? (i := 196) (by decide +kernel))) rfl, IN_RX11, NH_RX11.1, NH_RX11.2, by decide +kernel⟩
theorem MS_X11_in : Cond.static yX11_in ∈ tblG := tg_in (tin_5 (List.mem_of_getElem? (i := 195) (by decide +kernel))) rfl
theorem MF_X11_copies : MF yX11_copies cX11_copies 3 none 1 := ⟨tg_in (tin_5 (List.mem_of_getElem? (i := 43) (by decide +kernel))) rfl, IN_RX11, NH_RX11.1, NH_RX11.2, by decide +kernel⟩
theorem MI_X11_copies : MI yX11_copies := ⟨tg_in (tin_5 (List.mem_of_getElem? (i := 42) (by decide +kernel))) rfl, tg_in (sin_3 (q := (⟨"HeavierByHandModel", "copies", "(Z)V"⟩, 48)) (List.mem_of_getElem? (i := 14) (by decide +kernel))) rfl⟩
theorem MF_X11_isHand : MF yX11_isHand cX11_isHand 2 (some .boolean) 1 := ⟨tg_in (tin_5 (List.mem_of_getElem? (i := 204) (by decide +kernel))) rfl, IN_RX11, NH_RX11.1, NH_RX11.2, by decide +kernel⟩
theorem MI_X11_isHand : MI yX11_isHand := ⟨tg_in (tin_5 (List.mem_of_getElem? (i := 203) (by decide +kernel))) rfl, tg_in (sin_3 (q := (⟨"HeavierByHandModel", "isHand", "(I)Z"⟩, 48)) (List.mem_of_getElem? (i := 15) (by decide +kernel))) rfl⟩
theorem MF_X11_isCoin : MF yX11_isCoin cX11_isCoin 2 (some .boolean) 1 := ⟨tg_in (tin_6 (List.mem_of_getElem? (i := 114) (by decide +kernel))) rfl, IN_RX11, NH_RX11.1, NH_RX11.2, by decide +kernel⟩
theorem MI_X11_isCoin : MI yX11_isCoin := ⟨tg_in (tin_6 (List.mem_of_getElem? (i := 113) (by decide +kernel))) rfl, tg_in (sin_5 (q := (⟨"HeavierByHandModel", "isCoin", "(I)Z"⟩, 48)) (List.mem_of_getElem? (i := 5) (by decide +kernel))) rfl⟩
theorem MF_X11_coinOf : MF yX11_coinOf cX11_coinOf 3 (some .int) 2 := ⟨tg_in (tin_6 (List.mem_of_getElem? (i := 118) (by decide +kernel))) rfl, IN_RX11, NH_RX11.1, NH_RX11.2, by decide +kernel⟩
theorem MI_X11_coinOf : MI yX11_coinOf := ⟨tg_in (tin_6 (List.mem_of_getElem? (i := 117) (by decide +kernel))) rfl, tg_in (sin_5 (q := (⟨"HeavierByHandModel", "coinOf", "(II)I"⟩, 48)) (List.mem_of_getElem? (i := 6) (by decide +kernel))) rfl⟩
theorem MF_X11_hand : MF yX11_hand cX11_hand 2 (some .int) 1 := ⟨tg_in (tin_5 (List.mem_of_getElem? (i := 193) (by decide +kernel))) rfl, IN_RX11, NH_RX11.1, NH_RX11.2, by decide +kernel⟩
theorem MI_X11_hand : MI yX11_hand := ⟨tg_in (tin_5 (List.mem_of_getElem? (i := 191) (by decide +kernel))) rfl, tg_in (tin_5 (List.mem_of_getElem? (i := 192) (by decide +kernel))) rfl⟩
theorem MF_X11_coin : MF yX11_coin cX11_coin 4 (some .int) 2 := ⟨tg_in (tin_5 (List.mem_of_getElem? (i := 200) (by decide +kernel))) rfl, IN_RX11, NH_RX11.1, NH_RX11.2, by decide +kernel⟩
theorem MI_X11_coin : MI yX11_coin := ⟨tg_in (tin_5 (List.mem_of_getElem? (i := 198) (by decide +kernel))) rfl, tg_in (tin_5 (List.mem_of_getElem? (i := 199) (by decide +kernel))) rfl⟩
theorem MF_X11_rules : MF yX11_rules cX11_rules 3 (some .boolean) 2 := ⟨tg_in (tin_5 (List.mem_of_getElem? (i := 208) (by decide +kernel))) rfl, IN_RX11, NH_RX11.1, NH_RX11.2, by decide +kernel⟩
theorem MI_X11_rules : MI yX11_rules := ⟨tg_in (tin_5 (List.mem_of_getElem? (i := 206) (by decide +kernel))) rfl, tg_in (tin_5 (List.mem_of_getElem? (i := 207) (by decide +kernel))) rfl⟩
theorem MF_X11_later : MF yX11_later cX11_later 2 (some .int) 1 := ⟨tg_in (tin_5 (List.mem_of_getElem? (i := 212) (by decide +kernel))) rfl, IN_RX11, NH_RX11.1, NH_RX11.2, by decide +kernel⟩
theorem MI_X11_later : MI yX11_later := ⟨tg_in (tin_5 (List.mem_of_getElem? (i := 210) (by decide +kernel))) rfl, tg_in (tin_5 (List.mem_of_getElem? (i := 211) (by decide +kernel))) rfl⟩
theorem MF_X11_put : MF yX11_put cX11_put 3 none 1 := ⟨tg_in (tin_5 (List.mem_of_getElem? (i := 220) (by decide +kernel))) rfl, IN_RX11, NH_RX11.1, NH_RX11.2, by decide +kernel⟩
theorem MI_X11_put : MI yX11_put := ⟨tg_in (tin_5 (List.mem_of_getElem? (i := 219) (by decide +kernel))) rfl, tg_in (sin_4 (q := (⟨"HeavierByHandModel", "put", "(I)V"⟩, 48)) (List.mem_of_getElem? (i := 0) (by decide +kernel))) rfl⟩
theorem MF_X11_feed : MF yX11_feed cX11_feed 6 (some .int) 5 := ⟨tg_in (tin_5 (List.mem_of_getElem? (i := 216) (by decide +kernel))) rfl, IN_RX11, NH_RX11.1, NH_RX11.2, by decide +kernel⟩
theorem MI_X11_feed : MI yX11_feed := ⟨tg_in (tin_5 (List.mem_of_getElem? (i := 214) (by decide +kernel))) rfl, tg_in (tin_5 (List.mem_of_getElem? (i := 215) (by decide +kernel))) rfl⟩
theorem MF_X11_end : MF yX11_end cX11_end 2 (some .int) 1 := ⟨tg_in (tin_5 (List.mem_of_getElem? (i := 224) (by decide +kernel))) rfl, IN_RX11, NH_RX11.1, NH_RX11.2, by decide +kernel⟩
theorem MI_X11_end : MI yX11_end := ⟨tg_in (tin_5 (List.mem_of_getElem? (i := 222) (by decide +kernel))) rfl, tg_in (tin_5 (List.mem_of_getElem? (i := 223) (by decide +kernel))) rfl⟩
theorem MF_X11_isLetter : MF yX11_isLetter cX11_isLetter 1 (some .boolean) 1 := ⟨tg_in (tin_5 (List.mem_of_getElem? (i := 235) (by decide +kernel))) rfl, IN_RX11, NH_RX11.1, NH_RX11.2, by decide +kernel⟩
theorem MS_X11_isLetter : Cond.static yX11_isLetter ∈ tblG := tg_in (tin_5 (List.mem_of_getElem? (i := 234) (by decide +kernel))) rfl
theorem MF_X11_wordOf : MF yX11_wordOf cX11_wordOf 2 (some .int) 1 := ⟨tg_in (tin_5 (List.mem_of_getElem? (i := 239) (by decide +kernel))) rfl, IN_RX11, NH_RX11.1, NH_RX11.2, by decide +kernel⟩
theorem MS_X11_wordOf : Cond.static yX11_wordOf ∈ tblG := tg_in (tin_5 (List.mem_of_getElem? (i := 238) (by decide +kernel))) rfl
theorem MF_X11_next : MF yX11_next cX11_next 5 none 0 := ⟨tg_in (tin_5 (List.mem_of_getElem? (i := 232) (by decide +kernel))) rfl, IN_RX11, NH_RX11.1, NH_RX11.2, by decide +kernel⟩
theorem MI_X11_next : MI yX11_next := ⟨tg_in (tin_5 (List.mem_of_getElem? (i := 231) (by decide +kernel))) rfl, tg_in (sin_4 (q := (⟨"HeavierByHandModel", "next", "()V"⟩, 48)) (List.mem_of_getElem? (i := 1) (by decide +kernel))) rfl⟩
theorem MF_X11_isSign : MF yX11_isSign cX11_isSign 2 (some .boolean) 1 := ⟨tg_in (tin_6 (List.mem_of_getElem? (i := 56) (by decide +kernel))) rfl, IN_RX11, NH_RX11.1, NH_RX11.2, by decide +kernel⟩
theorem MI_X11_isSign : MI yX11_isSign := ⟨tg_in (tin_6 (List.mem_of_getElem? (i := 55) (by decide +kernel))) rfl, tg_in (sin_4 (q := (⟨"HeavierByHandModel", "isSign", "(I)Z"⟩, 48)) (List.mem_of_getElem? (i := 11) (by decide +kernel))) rfl⟩
theorem MF_X11_isWord : MF yX11_isWord cX11_isWord 2 (some .boolean) 1 := ⟨tg_in (tin_6 (List.mem_of_getElem? (i := 24) (by decide +kernel))) rfl, IN_RX11, NH_RX11.1, NH_RX11.2, by decide +kernel⟩
theorem MI_X11_isWord : MI yX11_isWord := ⟨tg_in (tin_6 (List.mem_of_getElem? (i := 23) (by decide +kernel))) rfl, tg_in (sin_4 (q := (⟨"HeavierByHandModel", "isWord", "(I)Z"⟩, 48)) (List.mem_of_getElem? (i := 3) (by decide +kernel))) rfl⟩
theorem MF_X11_errs : MF yX11_errs cX11_errs 2 none 1 := ⟨tg_in (tin_6 (List.mem_of_getElem? (i := 32) (by decide +kernel))) rfl, IN_RX11, NH_RX11.1, NH_RX11.2, by decide +kernel⟩
theorem MI_X11_errs : MI yX11_errs := ⟨tg_in (tin_6 (List.mem_of_getElem? (i := 31) (by decide +kernel))) rfl, tg_in (sin_4 (q := (⟨"HeavierByHandModel", "errs", "(I)V"⟩, 48)) (List.mem_of_getElem? (i := 5) (by decide +kernel))) rfl⟩
theorem MF_X11_emits : MF yX11_emits cX11_emits 3 none 2 := ⟨tg_in (tin_6 (List.mem_of_getElem? (i := 44) (by decide +kernel))) rfl, IN_RX11, NH_RX11.1, NH_RX11.2, by decide +kernel⟩
theorem MI_X11_emits : MI yX11_emits := ⟨tg_in (tin_6 (List.mem_of_getElem? (i := 43) (by decide +kernel))) rfl, tg_in (sin_4 (q := (⟨"HeavierByHandModel", "emits", "(II)V"⟩, 48)) (List.mem_of_getElem? (i := 8) (by decide +kernel))) rfl⟩
theorem MF_X11_opensFrame : MF yX11_opensFrame cX11_opensFrame 2 none 1 := ⟨tg_in (tin_6 (List.mem_of_getElem? (i := 36) (by decide +kernel))) rfl, IN_RX11, NH_RX11.1, NH_RX11.2, by decide +kernel⟩
theorem MI_X11_opensFrame : MI yX11_opensFrame := ⟨tg_in (tin_6 (List.mem_of_getElem? (i := 35) (by decide +kernel))) rfl, tg_in (sin_4 (q := (⟨"HeavierByHandModel", "opensFrame", "(I)V"⟩, 48)) (List.mem_of_getElem? (i := 6) (by decide +kernel))) rfl⟩
theorem MF_X11_top : MF yX11_top cX11_top 1 (some .int) 0 := ⟨tg_in (tin_6 (List.mem_of_getElem? (i := 52) (by decide +kernel))) rfl, IN_RX11, NH_RX11.1, NH_RX11.2, by decide +kernel⟩
theorem MI_X11_top : MI yX11_top := ⟨tg_in (tin_6 (List.mem_of_getElem? (i := 51) (by decide +kernel))) rfl, tg_in (sin_4 (q := (⟨"HeavierByHandModel", "top", "()I"⟩, 48)) (List.mem_of_getElem? (i := 10) (by decide +kernel))) rfl⟩
theorem MF_X11_opensSign : MF yX11_opensSign cX11_opensSign 2 (some .boolean) 1 := ⟨tg_in (tin_6 (List.mem_of_getElem? (i := 28) (by decide +kernel))) rfl, IN_RX11, NH_RX11.1, NH_RX11.2, by decide +kernel⟩
theorem MI_X11_opensSign : MI yX11_opensSign := ⟨tg_in (tin_6 (List.mem_of_getElem? (i := 27) (by decide +kernel))) rfl, tg_in (sin_4 (q := (⟨"HeavierByHandModel", "opensSign", "(I)Z"⟩, 48)) (List.mem_of_getElem? (i := 4) (by decide +kernel))) rfl⟩
theorem MF_X11_rank : MF yX11_rank cX11_rank 1 (some .int) 1 := ⟨tg_in (tin_6 (List.mem_of_getElem? (i := 67) (by decide +kernel))) rfl, IN_RX11, NH_RX11.1, NH_RX11.2, by decide +kernel⟩
theorem MS_X11_rank : Cond.static yX11_rank ∈ tblG := tg_in (tin_6 (List.mem_of_getElem? (i := 66) (by decide +kernel))) rfl
theorem MF_X11_works : MF yX11_works cX11_works 2 none 1 := ⟨tg_in (tin_6 (List.mem_of_getElem? (i := 71) (by decide +kernel))) rfl, IN_RX11, NH_RX11.1, NH_RX11.2, by decide +kernel⟩
theorem MI_X11_works : MI yX11_works := ⟨tg_in (tin_6 (List.mem_of_getElem? (i := 70) (by decide +kernel))) rfl, tg_in (sin_4 (q := (⟨"HeavierByHandModel", "works", "(I)V"⟩, 48)) (List.mem_of_getElem? (i := 14) (by decide +kernel))) rfl⟩
theorem MF_X11_waitsFor : MF yX11_waitsFor cX11_waitsFor 2 none 1 := ⟨tg_in (tin_6 (List.mem_of_getElem? (i := 64) (by decide +kernel))) rfl, IN_RX11, NH_RX11.1, NH_RX11.2, by decide +kernel⟩
theorem MI_X11_waitsFor : MI yX11_waitsFor := ⟨tg_in (tin_6 (List.mem_of_getElem? (i := 63) (by decide +kernel))) rfl, tg_in (sin_4 (q := (⟨"HeavierByHandModel", "waitsFor", "(I)V"⟩, 48)) (List.mem_of_getElem? (i := 13) (by decide +kernel))) rfl⟩
theorem MF_X11_asks : MF yX11_asks cX11_asks 2 none 0 := ⟨tg_in (tin_6 (List.mem_of_getElem? (i := 20) (by decide +kernel))) rfl, IN_RX11, NH_RX11.1, NH_RX11.2, by decide +kernel⟩
theorem MI_X11_asks : MI yX11_asks := ⟨tg_in (tin_6 (List.mem_of_getElem? (i := 19) (by decide +kernel))) rfl, tg_in (sin_4 (q := (⟨"HeavierByHandModel", "asks", "()V"⟩, 48)) (List.mem_of_getElem? (i := 2) (by decide +kernel))) rfl⟩
theorem MF_X11_begins : MF yX11_begins cX11_begins 2 none 0 := ⟨tg_in (tin_6 (List.mem_of_getElem? (i := 40) (by decide +kernel))) rfl, IN_RX11, NH_RX11.1, NH_RX11.2, by decide +kernel⟩
theorem MI_X11_begins : MI yX11_begins := ⟨tg_in (tin_6 (List.mem_of_getElem? (i := 39) (by decide +kernel))) rfl, tg_in (sin_4 (q := (⟨"HeavierByHandModel", "begins", "()V"⟩, 48)) (List.mem_of_getElem? (i := 7) (by decide +kernel))) rfl⟩
theorem MF_X11_oneIsOver : MF yX11_oneIsOver cX11_oneIsOver 1 none 0 := ⟨tg_in (tin_6 (List.mem_of_getElem? (i := 48) (by decide +kernel))) rfl, IN_RX11, NH_RX11.1, NH_RX11.2, by decide +kernel⟩
theorem MI_X11_oneIsOver : MI yX11_oneIsOver := ⟨tg_in (tin_6 (List.mem_of_getElem? (i := 47) (by decide +kernel))) rfl, tg_in (sin_4 (q := (⟨"HeavierByHandModel", "oneIsOver", "()V"⟩, 48)) (List.mem_of_getElem? (i := 9) (by decide +kernel))) rfl⟩
theorem MF_X11_askIsOver : MF yX11_askIsOver cX11_askIsOver 1 none 0 := ⟨tg_in (tin_6 (List.mem_of_getElem? (i := 78) (by decide +kernel))) rfl, IN_RX11, NH_RX11.1, NH_RX11.2, by decide +kernel⟩
theorem MI_X11_askIsOver : MI yX11_askIsOver := ⟨tg_in (tin_6 (List.mem_of_getElem? (i := 77) (by decide +kernel))) rfl, tg_in (sin_4 (q := (⟨"HeavierByHandModel", "askIsOver", "()V"⟩, 48)) (List.mem_of_getElem? (i := 15) (by decide +kernel))) rfl⟩
theorem MF_X11_isAsking : MF yX11_isAsking cX11_isAsking 1 (some .boolean) 1 := ⟨tg_in (tin_6 (List.mem_of_getElem? (i := 74) (by decide +kernel))) rfl, IN_RX11, NH_RX11.1, NH_RX11.2, by decide +kernel⟩
theorem MS_X11_isAsking : Cond.static yX11_isAsking ∈ tblG := tg_in (tin_6 (List.mem_of_getElem? (i := 73) (by decide +kernel))) rfl
theorem MF_X11_goesOn : MF yX11_goesOn cX11_goesOn 3 none 0 := ⟨tg_in (tin_6 (List.mem_of_getElem? (i := 60) (by decide +kernel))) rfl, IN_RX11, NH_RX11.1, NH_RX11.2, by decide +kernel⟩
theorem MI_X11_goesOn : MI yX11_goesOn := ⟨tg_in (tin_6 (List.mem_of_getElem? (i := 59) (by decide +kernel))) rfl, tg_in (sin_4 (q := (⟨"HeavierByHandModel", "goesOn", "()V"⟩, 48)) (List.mem_of_getElem? (i := 12) (by decide +kernel))) rfl⟩
theorem MF_X11_asksOn : MF yX11_asksOn cX11_asksOn 1 none 0 := ⟨tg_in (tin_6 (List.mem_of_getElem? (i := 86) (by decide +kernel))) rfl, IN_RX11, NH_RX11.1, NH_RX11.2, by decide +kernel⟩
theorem MI_X11_asksOn : MI yX11_asksOn := ⟨tg_in (tin_6 (List.mem_of_getElem? (i := 85) (by decide +kernel))) rfl, tg_in (sin_5 (q := (⟨"HeavierByHandModel", "asksOn", "()V"⟩, 48)) (List.mem_of_getElem? (i := 1) (by decide +kernel))) rfl⟩
theorem MF_X11_clauseIsOver : MF yX11_clauseIsOver cX11_clauseIsOver 1 none 0 := ⟨tg_in (tin_6 (List.mem_of_getElem? (i := 82) (by decide +kernel))) rfl, IN_RX11, NH_RX11.1, NH_RX11.2, by decide +kernel⟩
theorem MI_X11_clauseIsOver : MI yX11_clauseIsOver := ⟨tg_in (tin_6 (List.mem_of_getElem? (i := 81) (by decide +kernel))) rfl, tg_in (sin_5 (q := (⟨"HeavierByHandModel", "clauseIsOver", "()V"⟩, 48)) (List.mem_of_getElem? (i := 0) (by decide +kernel))) rfl⟩
theorem MF_X11_number : MF yX11_number cX11_number 4 (some .int) 2 := ⟨tg_in (tin_6 (List.mem_of_getElem? (i := 98) (by decide +kernel))) rfl, IN_RX11, NH_RX11.1, NH_RX11.2, by decide +kernel⟩
theorem MI_X11_number : MI yX11_number := ⟨tg_in (tin_6 (List.mem_of_getElem? (i := 97) (by decide +kernel))) rfl, tg_in (sin_5 (q := (⟨"HeavierByHandModel", "number", "(II)I"⟩, 48)) (List.mem_of_getElem? (i := 4) (by decide +kernel))) rfl⟩
theorem MF_X11_wasTold : MF yX11_wasTold cX11_wasTold 4 (some .boolean) 1 := ⟨tg_in (tin_6 (List.mem_of_getElem? (i := 94) (by decide +kernel))) rfl, IN_RX11, NH_RX11.1, NH_RX11.2, by decide +kernel⟩
theorem MI_X11_wasTold : MI yX11_wasTold := ⟨tg_in (tin_6 (List.mem_of_getElem? (i := 93) (by decide +kernel))) rfl, tg_in (sin_5 (q := (⟨"HeavierByHandModel", "wasTold", "(I)Z"⟩, 48)) (List.mem_of_getElem? (i := 3) (by decide +kernel))) rfl⟩
theorem MF_X11_clause : MF yX11_clause cX11_clause 1 none 0 := ⟨tg_in (tin_6 (List.mem_of_getElem? (i := 90) (by decide +kernel))) rfl, IN_RX11, NH_RX11.1, NH_RX11.2, by decide +kernel⟩
theorem MI_X11_clause : MI yX11_clause := ⟨tg_in (tin_6 (List.mem_of_getElem? (i := 89) (by decide +kernel))) rfl, tg_in (sin_5 (q := (⟨"HeavierByHandModel", "clause", "()V"⟩, 48)) (List.mem_of_getElem? (i := 2) (by decide +kernel))) rfl⟩
theorem MF_X11_text : MF yX11_text cX11_text 3 (some .int) 0 := ⟨tg_in (tin_5 (List.mem_of_getElem? (i := 228) (by decide +kernel))) rfl, IN_RX11, NH_RX11.1, NH_RX11.2, by decide +kernel⟩
theorem MI_X11_text : MI yX11_text := ⟨tg_in (tin_5 (List.mem_of_getElem? (i := 226) (by decide +kernel))) rfl, tg_in (tin_5 (List.mem_of_getElem? (i := 227) (by decide +kernel))) rfl⟩
theorem MF_X11_fault : MF yX11_fault cX11_fault 2 (some .int) 1 := ⟨tg_in (tin_6 (List.mem_of_getElem? (i := 102) (by decide +kernel))) rfl, IN_RX11, NH_RX11.1, NH_RX11.2, by decide +kernel⟩
theorem MI_X11_fault : MI yX11_fault := ⟨tg_in (tin_6 (List.mem_of_getElem? (i := 100) (by decide +kernel))) rfl, tg_in (tin_6 (List.mem_of_getElem? (i := 101) (by decide +kernel))) rfl⟩
theorem MF_X11_bound : MF yX11_bound cX11_bound 2 (some .long) 1 := ⟨tg_in (tin_6 (List.mem_of_getElem? (i := 136) (by decide +kernel))) rfl, IN_RX11, NH_RX11.1, NH_RX11.2, by decide +kernel⟩
theorem MS_X11_bound : Cond.static yX11_bound ∈ tblG := tg_in (tin_6 (List.mem_of_getElem? (i := 135) (by decide +kernel))) rfl
theorem MF_X11_worked : MF yX11_worked cX11_worked 5 (some .long) 3 := ⟨tg_in (tin_6 (List.mem_of_getElem? (i := 133) (by decide +kernel))) rfl, IN_RX11, NH_RX11.1, NH_RX11.2, by decide +kernel⟩
theorem MS_X11_worked : Cond.static yX11_worked ∈ tblG := tg_in (tin_6 (List.mem_of_getElem? (i := 132) (by decide +kernel))) rfl
theorem MF_X11_saysOf : MF yX11_saysOf cX11_saysOf 5 (some .long) 1 := ⟨tg_in (tin_6 (List.mem_of_getElem? (i := 130) (by decide +kernel))) rfl, IN_RX11, NH_RX11.1, NH_RX11.2, by decide +kernel⟩
theorem MI_X11_saysOf : MI yX11_saysOf := ⟨tg_in (tin_6 (List.mem_of_getElem? (i := 129) (by decide +kernel))) rfl, tg_in (sin_5 (q := (⟨"HeavierByHandModel", "saysOf", "(I)J"⟩, 48)) (List.mem_of_getElem? (i := 9) (by decide +kernel))) rfl⟩
theorem MF_X11_by : MF yX11_by cX11_by 2 (some .boolean) 1 := ⟨tg_in (tin_6 (List.mem_of_getElem? (i := 106) (by decide +kernel))) rfl, IN_RX11, NH_RX11.1, NH_RX11.2, by decide +kernel⟩
theorem MI_X11_by : MI yX11_by := ⟨tg_in (tin_6 (List.mem_of_getElem? (i := 104) (by decide +kernel))) rfl, tg_in (tin_6 (List.mem_of_getElem? (i := 105) (by decide +kernel))) rfl⟩
theorem MF_X11_isMarket : MF yX11_isMarket cX11_isMarket 1 (some .boolean) 0 := ⟨tg_in (tin_6 (List.mem_of_getElem? (i := 126) (by decide +kernel))) rfl, IN_RX11, NH_RX11.1, NH_RX11.2, by decide +kernel⟩
theorem MI_X11_isMarket : MI yX11_isMarket := ⟨tg_in (tin_6 (List.mem_of_getElem? (i := 125) (by decide +kernel))) rfl, tg_in (sin_5 (q := (⟨"HeavierByHandModel", "isMarket", "()Z"⟩, 48)) (List.mem_of_getElem? (i := 8) (by decide +kernel))) rfl⟩
theorem MF_X11_givesTo : MF yX11_givesTo cX11_givesTo 8 (some .int) 2 := ⟨tg_in (tin_6 (List.mem_of_getElem? (i := 122) (by decide +kernel))) rfl, IN_RX11, NH_RX11.1, NH_RX11.2, by decide +kernel⟩
theorem MI_X11_givesTo : MI yX11_givesTo := ⟨tg_in (tin_6 (List.mem_of_getElem? (i := 121) (by decide +kernel))) rfl, tg_in (sin_5 (q := (⟨"HeavierByHandModel", "givesTo", "(II)I"⟩, 48)) (List.mem_of_getElem? (i := 7) (by decide +kernel))) rfl⟩
theorem MF_X11_gives : MF yX11_gives cX11_gives 3 (some .int) 2 := ⟨tg_in (tin_6 (List.mem_of_getElem? (i := 110) (by decide +kernel))) rfl, IN_RX11, NH_RX11.1, NH_RX11.2, by decide +kernel⟩
theorem MI_X11_gives : MI yX11_gives := ⟨tg_in (tin_6 (List.mem_of_getElem? (i := 108) (by decide +kernel))) rfl, tg_in (tin_6 (List.mem_of_getElem? (i := 109) (by decide +kernel))) rfl⟩
theorem MF_X11_keepsStep : MF yX11_keepsStep cX11_keepsStep 3 none 1 := ⟨tg_in (tin_6 (List.mem_of_getElem? (i := 155) (by decide +kernel))) rfl, IN_RX11, NH_RX11.1, NH_RX11.2, by decide +kernel⟩
theorem MI_X11_keepsStep : MI yX11_keepsStep := ⟨tg_in (tin_6 (List.mem_of_getElem? (i := 154) (by decide +kernel))) rfl, tg_in (sin_5 (q := (⟨"HeavierByHandModel", "keepsStep", "(I)V"⟩, 48)) (List.mem_of_getElem? (i := 12) (by decide +kernel))) rfl⟩
theorem MF_X11_canPay : MF yX11_canPay cX11_canPay 3 (some .boolean) 2 := ⟨tg_in (tin_6 (List.mem_of_getElem? (i := 147) (by decide +kernel))) rfl, IN_RX11, NH_RX11.1, NH_RX11.2, by decide +kernel⟩
theorem MI_X11_canPay : MI yX11_canPay := ⟨tg_in (tin_6 (List.mem_of_getElem? (i := 146) (by decide +kernel))) rfl, tg_in (sin_5 (q := (⟨"HeavierByHandModel", "canPay", "(II)Z"⟩, 48)) (List.mem_of_getElem? (i := 10) (by decide +kernel))) rfl⟩
theorem MF_X11_pays : MF yX11_pays cX11_pays 5 none 2 := ⟨tg_in (tin_6 (List.mem_of_getElem? (i := 151) (by decide +kernel))) rfl, IN_RX11, NH_RX11.1, NH_RX11.2, by decide +kernel⟩
theorem MI_X11_pays : MI yX11_pays := ⟨tg_in (tin_6 (List.mem_of_getElem? (i := 150) (by decide +kernel))) rfl, tg_in (sin_5 (q := (⟨"HeavierByHandModel", "pays", "(II)V"⟩, 48)) (List.mem_of_getElem? (i := 11) (by decide +kernel))) rfl⟩
theorem MF_X11_pay : MF yX11_pay cX11_pay 3 (some .int) 2 := ⟨tg_in (tin_6 (List.mem_of_getElem? (i := 143) (by decide +kernel))) rfl, IN_RX11, NH_RX11.1, NH_RX11.2, by decide +kernel⟩
theorem MI_X11_pay : MI yX11_pay := ⟨tg_in (tin_6 (List.mem_of_getElem? (i := 141) (by decide +kernel))) rfl, tg_in (tin_6 (List.mem_of_getElem? (i := 142) (by decide +kernel))) rfl⟩
theorem MF_X11_washes : MF yX11_washes cX11_washes 3 (some .int) 1 := ⟨tg_in (tin_6 (List.mem_of_getElem? (i := 163) (by decide +kernel))) rfl, IN_RX11, NH_RX11.1, NH_RX11.2, by decide +kernel⟩
theorem MI_X11_washes : MI yX11_washes := ⟨tg_in (tin_6 (List.mem_of_getElem? (i := 162) (by decide +kernel))) rfl, tg_in (sin_5 (q := (⟨"HeavierByHandModel", "washes", "(I)I"⟩, 48)) (List.mem_of_getElem? (i := 13) (by decide +kernel))) rfl⟩
theorem MF_X11_wash : MF yX11_wash cX11_wash 2 (some .int) 1 := ⟨tg_in (tin_6 (List.mem_of_getElem? (i := 159) (by decide +kernel))) rfl, IN_RX11, NH_RX11.1, NH_RX11.2, by decide +kernel⟩
theorem MI_X11_wash : MI yX11_wash := ⟨tg_in (tin_6 (List.mem_of_getElem? (i := 157) (by decide +kernel))) rfl, tg_in (tin_6 (List.mem_of_getElem? (i := 158) (by decide +kernel))) rfl⟩
theorem MF_X11_played : MF yX11_played cX11_played 6 (some .int) 1 := ⟨tg_in (tin_6 (List.mem_of_getElem? (i := 167) (by decide +kernel))) rfl, IN_RX11, NH_RX11.1, NH_RX11.2, by decide +kernel⟩
theorem MI_X11_played : MI yX11_played := ⟨tg_in (tin_6 (List.mem_of_getElem? (i := 165) (by decide +kernel))) rfl, tg_in (tin_6 (List.mem_of_getElem? (i := 166) (by decide +kernel))) rfl⟩
theorem MF_X11_undo : MF yX11_undo cX11_undo 3 (some .int) 0 := ⟨tg_in (tin_6 (List.mem_of_getElem? (i := 172) (by decide +kernel))) rfl, IN_RX11, NH_RX11.1, NH_RX11.2, by decide +kernel⟩
theorem MI_X11_undo : MI yX11_undo := ⟨tg_in (tin_6 (List.mem_of_getElem? (i := 170) (by decide +kernel))) rfl, tg_in (tin_6 (List.mem_of_getElem? (i := 171) (by decide +kernel))) rfl⟩
theorem MF_X11_cell : MF yX11_cell cX11_cell 3 (some .int) 3 := ⟨tg_in (tin_6 (List.mem_of_getElem? (i := 188) (by decide +kernel))) rfl, IN_RX11, NH_RX11.1, NH_RX11.2, by decide +kernel⟩
theorem MS_X11_cell : Cond.static yX11_cell ∈ tblG := tg_in (tin_6 (List.mem_of_getElem? (i := 187) (by decide +kernel))) rfl
