theorem MF_X11_laysRows : MF yX11_laysRows cX11_laysRows 10 none 2 := ⟨tg_in (tin_6 (List.mem_of_getElem? (i := 185) (by decide +kernel))) rfl, IN_RX11, NH_RX11.1, NH_RX11.2, by decide +kernel⟩
theorem MI_X11_laysRows : MI yX11_laysRows := ⟨tg_in (tin_6 (List.mem_of_getElem? (i := 184) (by decide +kernel))) rfl, tg_in (sin_5 (q := (⟨"HeavierByHandModel", "laysRows", "(II)V"⟩, 48)) (List.mem_of_getElem? (i := 15) (by decide +kernel))) rfl⟩
theorem MF_X11_rowsOf : MF yX11_rowsOf cX11_rowsOf 7 (some .long) 3 := ⟨tg_in (tin_6 (List.mem_of_getElem? (i := 196) (by decide +kernel))) rfl, IN_RX11, NH_RX11.1, NH_RX11.2, by decide +kernel⟩
theorem MI_X11_rowsOf : MI yX11_rowsOf := ⟨tg_in (tin_6 (List.mem_of_getElem? (i := 195) (by decide +kernel))) rfl, tg_in (sin_6 (q := (⟨"HeavierByHandModel", "rowsOf", "(III)J"⟩, 48)) (List.mem_of_getElem? (i := 1) (by decide +kernel))) rfl⟩
theorem MF_X11_rowsAll : MF yX11_rowsAll cX11_rowsAll 8 (some .long) 4 := ⟨tg_in (tin_6 (List.mem_of_getElem? (i := 192) (by decide +kernel))) rfl, IN_RX11, NH_RX11.1, NH_RX11.2, by decide +kernel⟩
theorem MI_X11_rowsAll : MI yX11_rowsAll := ⟨tg_in (tin_6 (List.mem_of_getElem? (i := 191) (by decide +kernel))) rfl, tg_in (sin_6 (q := (⟨"HeavierByHandModel", "rowsAll", "(IIII)J"⟩, 48)) (List.mem_of_getElem? (i := 0) (by decide +kernel))) rfl⟩
theorem MF_X11_areRows : MF yX11_areRows cX11_areRows 5 (some .boolean) 4 := ⟨tg_in (tin_6 (List.mem_of_getElem? (i := 180) (by decide +kernel))) rfl, IN_RX11, NH_RX11.1, NH_RX11.2, by decide +kernel⟩
theorem MI_X11_areRows : MI yX11_areRows := ⟨tg_in (tin_6 (List.mem_of_getElem? (i := 179) (by decide +kernel))) rfl, tg_in (sin_5 (q := (⟨"HeavierByHandModel", "areRows", "(IIII)Z"⟩, 48)) (List.mem_of_getElem? (i := 14) (by decide +kernel))) rfl⟩
theorem MF_X11_rows : MF yX11_rows cX11_rows 5 (some .long) 4 := ⟨tg_in (tin_6 (List.mem_of_getElem? (i := 176) (by decide +kernel))) rfl, IN_RX11, NH_RX11.1, NH_RX11.2, by decide +kernel⟩
theorem MI_X11_rows : MI yX11_rows := ⟨tg_in (tin_6 (List.mem_of_getElem? (i := 174) (by decide +kernel))) rfl, tg_in (tin_6 (List.mem_of_getElem? (i := 175) (by decide +kernel))) rfl⟩
theorem MF_X11_row : MF yX11_row cX11_row 12 (some .int) 5 := ⟨tg_in (tin_6 (List.mem_of_getElem? (i := 200) (by decide +kernel))) rfl, IN_RX11, NH_RX11.1, NH_RX11.2, by decide +kernel⟩
theorem MI_X11_row : MI yX11_row := ⟨tg_in (tin_6 (List.mem_of_getElem? (i := 198) (by decide +kernel))) rfl, tg_in (tin_6 (List.mem_of_getElem? (i := 199) (by decide +kernel))) rfl⟩
theorem MF_X11_among : MF yX11_among cX11_among 13 (some .int) 5 := ⟨tg_in (tin_6 (List.mem_of_getElem? (i := 204) (by decide +kernel))) rfl, IN_RX11, NH_RX11.1, NH_RX11.2, by decide +kernel⟩
theorem MI_X11_among : MI yX11_among := ⟨tg_in (tin_6 (List.mem_of_getElem? (i := 202) (by decide +kernel))) rfl, tg_in (tin_6 (List.mem_of_getElem? (i := 203) (by decide +kernel))) rfl⟩
theorem MF_X11_mustWash : MF yX11_mustWash cX11_mustWash 6 (some .int) 1 := ⟨tg_in (tin_6 (List.mem_of_getElem? (i := 212) (by decide +kernel))) rfl, IN_RX11, NH_RX11.1, NH_RX11.2, by decide +kernel⟩
theorem MI_X11_mustWash : MI yX11_mustWash := ⟨tg_in (tin_6 (List.mem_of_getElem? (i := 211) (by decide +kernel))) rfl, tg_in (sin_6 (q := (⟨"HeavierByHandModel", "mustWash", "(I)I"⟩, 48)) (List.mem_of_getElem? (i := 2) (by decide +kernel))) rfl⟩
theorem MF_X11_of : MF yX11_of cX11_of 3 (some .int) 2 := ⟨tg_in (tin_6 (List.mem_of_getElem? (i := 208) (by decide +kernel))) rfl, IN_RX11, NH_RX11.1, NH_RX11.2, by decide +kernel⟩
theorem MI_X11_of : MI yX11_of := ⟨tg_in (tin_6 (List.mem_of_getElem? (i := 206) (by decide +kernel))) rfl, tg_in (tin_6 (List.mem_of_getElem? (i := 207) (by decide +kernel))) rfl⟩
theorem MF_X11_purse : MF yX11_purse cX11_purse 3 (some .int) 2 := ⟨tg_in (tin_6 (List.mem_of_getElem? (i := 216) (by decide +kernel))) rfl, IN_RX11, NH_RX11.1, NH_RX11.2, by decide +kernel⟩
theorem MI_X11_purse : MI yX11_purse := ⟨tg_in (tin_6 (List.mem_of_getElem? (i := 214) (by decide +kernel))) rfl, tg_in (tin_6 (List.mem_of_getElem? (i := 215) (by decide +kernel))) rfl⟩
theorem MF_X11_laysWhole : MF yX11_laysWhole cX11_laysWhole 6 (some .long) 2 := ⟨tg_in (tin_6 (List.mem_of_getElem? (i := 224) (by decide +kernel))) rfl, IN_RX11, NH_RX11.1, NH_RX11.2, by decide +kernel⟩
theorem MI_X11_laysWhole : MI yX11_laysWhole := ⟨tg_in (tin_6 (List.mem_of_getElem? (i := 223) (by decide +kernel))) rfl, tg_in (sin_6 (q := (⟨"HeavierByHandModel", "laysWhole", "(II)J"⟩, 48)) (List.mem_of_getElem? (i := 3) (by decide +kernel))) rfl⟩
theorem MF_X11_laysPart : MF yX11_laysPart cX11_laysPart 7 (some .long) 3 := ⟨tg_in (tin_6 (List.mem_of_getElem? (i := 228) (by decide +kernel))) rfl, IN_RX11, NH_RX11.1, NH_RX11.2, by decide +kernel⟩
theorem MI_X11_laysPart : MI yX11_laysPart := ⟨tg_in (tin_6 (List.mem_of_getElem? (i := 227) (by decide +kernel))) rfl, tg_in (sin_6 (q := (⟨"HeavierByHandModel", "laysPart", "(III)J"⟩, 48)) (List.mem_of_getElem? (i := 4) (by decide +kernel))) rfl⟩
theorem MF_X11_odds : MF yX11_odds cX11_odds 15 (some .long) 4 := ⟨tg_in (tin_6 (List.mem_of_getElem? (i := 220) (by decide +kernel))) rfl, IN_RX11, NH_RX11.1, NH_RX11.2, by decide +kernel⟩
theorem MI_X11_odds : MI yX11_odds := ⟨tg_in (tin_6 (List.mem_of_getElem? (i := 218) (by decide +kernel))) rfl, tg_in (tin_6 (List.mem_of_getElem? (i := 219) (by decide +kernel))) rfl⟩
theorem MF_X11_told : MF yX11_told cX11_told 10 (some .int) 2 := ⟨tg_in (tin_6 (List.mem_of_getElem? (i := 232) (by decide +kernel))) rfl, IN_RX11, NH_RX11.1, NH_RX11.2, by decide +kernel⟩
theorem MI_X11_told : MI yX11_told := ⟨tg_in (tin_6 (List.mem_of_getElem? (i := 230) (by decide +kernel))) rfl, tg_in (tin_6 (List.mem_of_getElem? (i := 231) (by decide +kernel))) rfl⟩
theorem MF_X11_isNew : MF yX11_isNew cX11_isNew 3 (some .boolean) 1 := ⟨tg_in (tin_7 (List.mem_of_getElem? (i := 8) (by decide +kernel))) rfl, IN_RX11, NH_RX11.1, NH_RX11.2, by decide +kernel⟩
theorem MI_X11_isNew : MI yX11_isNew := ⟨tg_in (tin_7 (List.mem_of_getElem? (i := 7) (by decide +kernel))) rfl, tg_in (sin_6 (q := (⟨"HeavierByHandModel", "isNew", "(I)Z"⟩, 48)) (List.mem_of_getElem? (i := 7) (by decide +kernel))) rfl⟩
theorem MF_X11_areUnlike : MF yX11_areUnlike cX11_areUnlike 8 (some .boolean) 3 := ⟨tg_in (tin_7 (List.mem_of_getElem? (i := 4) (by decide +kernel))) rfl, IN_RX11, NH_RX11.1, NH_RX11.2, by decide +kernel⟩
theorem MI_X11_areUnlike : MI yX11_areUnlike := ⟨tg_in (tin_7 (List.mem_of_getElem? (i := 3) (by decide +kernel))) rfl, tg_in (sin_6 (q := (⟨"HeavierByHandModel", "areUnlike", "(III)Z"⟩, 48)) (List.mem_of_getElem? (i := 6) (by decide +kernel))) rfl⟩
theorem MF_X11_chooses : MF yX11_chooses cX11_chooses 5 (some .boolean) 3 := ⟨tg_in (tin_7 (List.mem_of_getElem? (i := 0) (by decide +kernel))) rfl, IN_RX11, NH_RX11.1, NH_RX11.2, by decide +kernel⟩
theorem MI_X11_chooses : MI yX11_chooses := ⟨tg_in (tin_6 (List.mem_of_getElem? (i := 239) (by decide +kernel))) rfl, tg_in (sin_6 (q := (⟨"HeavierByHandModel", "chooses", "(III)Z"⟩, 48)) (List.mem_of_getElem? (i := 5) (by decide +kernel))) rfl⟩
theorem MF_X11_chosen : MF yX11_chosen cX11_chosen 5 (some .int) 3 := ⟨tg_in (tin_6 (List.mem_of_getElem? (i := 236) (by decide +kernel))) rfl, IN_RX11, NH_RX11.1, NH_RX11.2, by decide +kernel⟩
theorem MI_X11_chosen : MI yX11_chosen := ⟨tg_in (tin_6 (List.mem_of_getElem? (i := 234) (by decide +kernel))) rfl, tg_in (tin_6 (List.mem_of_getElem? (i := 235) (by decide +kernel))) rfl⟩
theorem MF_X11_tray : MF yX11_tray cX11_tray 3 (some .boolean) 2 := ⟨tg_in (tin_7 (List.mem_of_getElem? (i := 12) (by decide +kernel))) rfl, IN_RX11, NH_RX11.1, NH_RX11.2, by decide +kernel⟩
theorem MI_X11_tray : MI yX11_tray := ⟨tg_in (tin_7 (List.mem_of_getElem? (i := 10) (by decide +kernel))) rfl, tg_in (tin_7 (List.mem_of_getElem? (i := 11) (by decide +kernel))) rfl⟩
theorem MF_X11_laysWrong : MF yX11_laysWrong cX11_laysWrong 6 none 0 := ⟨tg_in (tin_7 (List.mem_of_getElem? (i := 20) (by decide +kernel))) rfl, IN_RX11, NH_RX11.1, NH_RX11.2, by decide +kernel⟩
theorem MI_X11_laysWrong : MI yX11_laysWrong := ⟨tg_in (tin_7 (List.mem_of_getElem? (i := 19) (by decide +kernel))) rfl, tg_in (sin_6 (q := (⟨"HeavierByHandModel", "laysWrong", "()V"⟩, 48)) (List.mem_of_getElem? (i := 8) (by decide +kernel))) rfl⟩
theorem MF_X11_wrongBetween : MF yX11_wrongBetween cX11_wrongBetween 4 (some .int) 3 := ⟨tg_in (tin_7 (List.mem_of_getElem? (i := 24) (by decide +kernel))) rfl, IN_RX11, NH_RX11.1, NH_RX11.2, by decide +kernel⟩
theorem MI_X11_wrongBetween : MI yX11_wrongBetween := ⟨tg_in (tin_7 (List.mem_of_getElem? (i := 23) (by decide +kernel))) rfl, tg_in (sin_6 (q := (⟨"HeavierByHandModel", "wrongBetween", "(III)I"⟩, 48)) (List.mem_of_getElem? (i := 9) (by decide +kernel))) rfl⟩
theorem MF_X11_sorted : MF yX11_sorted cX11_sorted 8 (some .int) 2 := ⟨tg_in (tin_7 (List.mem_of_getElem? (i := 16) (by decide +kernel))) rfl, IN_RX11, NH_RX11.1, NH_RX11.2, by decide +kernel⟩
theorem MI_X11_sorted : MI yX11_sorted := ⟨tg_in (tin_7 (List.mem_of_getElem? (i := 14) (by decide +kernel))) rfl, tg_in (tin_7 (List.mem_of_getElem? (i := 15) (by decide +kernel))) rfl⟩
theorem MF_X11_draw : MF yX11_draw cX11_draw 3 (some .int) 1 := ⟨tg_in (tin_7 (List.mem_of_getElem? (i := 33) (by decide +kernel))) rfl, IN_RX11, NH_RX11.1, NH_RX11.2, by decide +kernel⟩
theorem MI_X11_draw : MI yX11_draw := ⟨tg_in (tin_7 (List.mem_of_getElem? (i := 32) (by decide +kernel))) rfl, tg_in (sin_6 (q := (⟨"HeavierByHandModel", "draw", "(I)I"⟩, 48)) (List.mem_of_getElem? (i := 10) (by decide +kernel))) rfl⟩
theorem MF_X11_read : MF yX11_read cX11_read 3 (some .int) 2 := ⟨tg_in (tin_7 (List.mem_of_getElem? (i := 29) (by decide +kernel))) rfl, IN_RX11, NH_RX11.1, NH_RX11.2, by decide +kernel⟩
theorem MI_X11_read : MI yX11_read := ⟨tg_in (tin_7 (List.mem_of_getElem? (i := 27) (by decide +kernel))) rfl, tg_in (tin_7 (List.mem_of_getElem? (i := 28) (by decide +kernel))) rfl⟩
theorem MF_X11_lightest : MF yX11_lightest cX11_lightest 4 (some .int) 1 := ⟨tg_in (tin_7 (List.mem_of_getElem? (i := 41) (by decide +kernel))) rfl, IN_RX11, NH_RX11.1, NH_RX11.2, by decide +kernel⟩
theorem MI_X11_lightest : MI yX11_lightest := ⟨tg_in (tin_7 (List.mem_of_getElem? (i := 40) (by decide +kernel))) rfl, tg_in (sin_6 (q := (⟨"HeavierByHandModel", "lightest", "(I)I"⟩, 48)) (List.mem_of_getElem? (i := 11) (by decide +kernel))) rfl⟩
theorem MF_X11_market : MF yX11_market cX11_market 8 (some .int) 2 := ⟨tg_in (tin_7 (List.mem_of_getElem? (i := 37) (by decide +kernel))) rfl, IN_RX11, NH_RX11.1, NH_RX11.2, by decide +kernel⟩
theorem MI_X11_market : MI yX11_market := ⟨tg_in (tin_7 (List.mem_of_getElem? (i := 35) (by decide +kernel))) rfl, tg_in (tin_7 (List.mem_of_getElem? (i := 36) (by decide +kernel))) rfl⟩
theorem MF_X11_image : MF yX11_image cX11_image 1 (some .int) 0 := ⟨tg_in (tin_7 (List.mem_of_getElem? (i := 45) (by decide +kernel))) rfl, IN_RX11, NH_RX11.1, NH_RX11.2, by decide +kernel⟩
theorem MI_X11_image : MI yX11_image := ⟨tg_in (tin_7 (List.mem_of_getElem? (i := 43) (by decide +kernel))) rfl, tg_in (tin_7 (List.mem_of_getElem? (i := 44) (by decide +kernel))) rfl⟩
theorem MF_X11_back : MF yX11_back cX11_back 1 (some .int) 0 := ⟨tg_in (tin_7 (List.mem_of_getElem? (i := 49) (by decide +kernel))) rfl, IN_RX11, NH_RX11.1, NH_RX11.2, by decide +kernel⟩
theorem MI_X11_back : MI yX11_back := ⟨tg_in (tin_7 (List.mem_of_getElem? (i := 47) (by decide +kernel))) rfl, tg_in (tin_7 (List.mem_of_getElem? (i := 48) (by decide +kernel))) rfl⟩
theorem MF_X11_heldBy : MF yX11_heldBy cX11_heldBy 4 (some .int) 1 := ⟨tg_in (tin_7 (List.mem_of_getElem? (i := 57) (by decide +kernel))) rfl, IN_RX11, NH_RX11.1, NH_RX11.2, by decide +kernel⟩
theorem MI_X11_heldBy : MI yX11_heldBy := ⟨tg_in (tin_7 (List.mem_of_getElem? (i := 56) (by decide +kernel))) rfl, tg_in (sin_6 (q := (⟨"HeavierByHandModel", "heldBy", "(I)I"⟩, 48)) (List.mem_of_getElem? (i := 12) (by decide +kernel))) rfl⟩
theorem MF_X11_about : MF yX11_about cX11_about 2 (some .int) 1 := ⟨tg_in (tin_7 (List.mem_of_getElem? (i := 53) (by decide +kernel))) rfl, IN_RX11, NH_RX11.1, NH_RX11.2, by decide +kernel⟩
theorem MI_X11_about : MI yX11_about := ⟨tg_in (tin_7 (List.mem_of_getElem? (i := 51) (by decide +kernel))) rfl, tg_in (tin_7 (List.mem_of_getElem? (i := 52) (by decide +kernel))) rfl⟩
theorem MF_J9_max_7cf53 : MF yJ9_max_7cf53 cJ9_max_7cf53 2 (some .int) 2 := ⟨tg_in (tin_3 (List.mem_of_getElem? (i := 166) (by decide +kernel))) rfl, IN_RJ9, NH_RJ9.1, NH_RJ9.2, by decide +kernel⟩
theorem MS_J9_max_7cf53 : Cond.static yJ9_max_7cf53 ∈ tblG := tg_in (tin_3 (List.mem_of_getElem? (i := 165) (by decide +kernel))) rfl
theorem MF_J9_max_f86c9 : MF yJ9_max_f86c9 cJ9_max_f86c9 4 (some .long) 2 := ⟨tg_in (tin_3 (List.mem_of_getElem? (i := 178) (by decide +kernel))) rfl, IN_RJ9, NH_RJ9.1, NH_RJ9.2, by decide +kernel⟩
theorem MS_J9_max_f86c9 : Cond.static yJ9_max_f86c9 ∈ tblG := tg_in (tin_3 (List.mem_of_getElem? (i := 177) (by decide +kernel))) rfl
theorem MF_J9_min_7cf53 : MF yJ9_min_7cf53 cJ9_min_7cf53 2 (some .int) 2 := ⟨tg_in (tin_2 (List.mem_of_getElem? (i := 202) (by decide +kernel))) rfl, IN_RJ9, NH_RJ9.1, NH_RJ9.2, by decide +kernel⟩
theorem MS_J9_min_7cf53 : Cond.static yJ9_min_7cf53 ∈ tblG := tg_in (tin_2 (List.mem_of_getElem? (i := 201) (by decide +kernel))) rfl
theorem MF_J9_min_f86c9 : MF yJ9_min_f86c9 cJ9_min_f86c9 4 (some .long) 2 := ⟨tg_in (tin_3 (List.mem_of_getElem? (i := 175) (by decide +kernel))) rfl, IN_RJ9, NH_RJ9.1, NH_RJ9.2, by decide +kernel⟩
theorem MS_J9_min_f86c9 : Cond.static yJ9_min_f86c9 ∈ tblG := tg_in (tin_3 (List.mem_of_getElem? (i := 174) (by decide +kernel))) rfl
theorem MF_J0_length_8abf5 : MF yJ0_length_8abf5 cJ0_length_8abf5 1 (some .int) 0 := ⟨tg_in (tin_2 (List.mem_of_getElem? (i := 218) (by decide +kernel))) rfl, IN_RJ0, NH_RJ0.1, NH_RJ0.2, by decide +kernel⟩
theorem MI_J0_length_8abf5 : MI yJ0_length_8abf5 := ⟨tg_in (tin_2 (List.mem_of_getElem? (i := 216) (by decide +kernel))) rfl, tg_in (tin_2 (List.mem_of_getElem? (i := 217) (by decide +kernel))) rfl⟩
theorem MF_J0_charAt_5068e : MF yJ0_charAt_5068e cJ0_charAt_5068e 2 (some .char) 1 := ⟨tg_in (tin_2 (List.mem_of_getElem? (i := 228) (by decide +kernel))) rfl, IN_RJ0, NH_RJ0.1, NH_RJ0.2, by decide +kernel⟩
theorem MI_J0_charAt_5068e : MI yJ0_charAt_5068e := ⟨tg_in (tin_2 (List.mem_of_getElem? (i := 226) (by decide +kernel))) rfl, tg_in (tin_2 (List.mem_of_getElem? (i := 227) (by decide +kernel))) rfl⟩
theorem MF_J0_coder_7d493 : MF yJ0_coder_7d493 cJ0_coder_7d493 1 (some .byte) 0 := ⟨tg_in (tin_2 (List.mem_of_getElem? (i := 222) (by decide +kernel))) rfl, IN_RJ0, NH_RJ0.1, NH_RJ0.2, by decide +kernel⟩
theorem MI_J0_coder_7d493 : MI yJ0_coder_7d493 := ⟨tg_in (tin_2 (List.mem_of_getElem? (i := 220) (by decide +kernel))) rfl, tg_in (tin_2 (List.mem_of_getElem? (i := 221) (by decide +kernel))) rfl⟩
theorem MF_J0_isLatin1_aae02 : MF yJ0_isLatin1_aae02 cJ0_isLatin1_aae02 1 (some .boolean) 0 := ⟨tg_in (tin_2 (List.mem_of_getElem? (i := 232) (by decide +kernel))) rfl, IN_RJ0, NH_RJ0.1, NH_RJ0.2, by decide +kernel⟩
theorem MI_J0_isLatin1_aae02 : MI yJ0_isLatin1_aae02 := ⟨tg_in (tin_2 (List.mem_of_getElem? (i := 230) (by decide +kernel))) rfl, tg_in (tin_2 (List.mem_of_getElem? (i := 231) (by decide +kernel))) rfl⟩
theorem MF_J0_checkIndex_df160 : MF yJ0_checkIndex_df160 cJ0_checkIndex_df160 2 none 2 := ⟨tg_in (tin_2 (List.mem_of_getElem? (i := 238) (by decide +kernel))) rfl, IN_RJ0, NH_RJ0.1, NH_RJ0.2, by decide +kernel⟩
theorem MS_J0_checkIndex_df160 : Cond.static yJ0_checkIndex_df160 ∈ tblG := tg_in (tin_2 (List.mem_of_getElem? (i := 237) (by decide +kernel))) rfl
theorem MF_J1_charAt_3b067 : MF yJ1_charAt_3b067 cJ1_charAt_3b067 2 (some .char) 2 := ⟨tg_in (tin_2 (List.mem_of_getElem? (i := 235) (by decide +kernel))) rfl, IN_RJ1, NH_RJ1.1, NH_RJ1.2, by decide +kernel⟩
theorem MS_J1_charAt_3b067 : Cond.static yJ1_charAt_3b067 ∈ tblG := tg_in (tin_2 (List.mem_of_getElem? (i := 234) (by decide +kernel))) rfl
theorem MF_J2_getChar_3b067 : MF yJ2_getChar_3b067 cJ2_getChar_3b067 2 (some .char) 2 := ⟨tg_in (tin_3 (List.mem_of_getElem? (i := 16) (by decide +kernel))) rfl, IN_RJ2, NH_RJ2.1, NH_RJ2.2, by decide +kernel⟩
theorem MS_J2_getChar_3b067 : Cond.static yJ2_getChar_3b067 ∈ tblG := tg_in (tin_3 (List.mem_of_getElem? (i := 15) (by decide +kernel))) rfl
theorem MF_J2_length_9d52b : MF yJ2_length_9d52b cJ2_length_9d52b 1 (some .int) 1 := ⟨tg_in (tin_3 (List.mem_of_getElem? (i := 12) (by decide +kernel))) rfl, IN_RJ2, NH_RJ2.1, NH_RJ2.2, by decide +kernel⟩
theorem MS_J2_length_9d52b : Cond.static yJ2_length_9d52b ∈ tblG := tg_in (tin_3 (List.mem_of_getElem? (i := 11) (by decide +kernel))) rfl
theorem MF_J2_charAt_3b067 : MF yJ2_charAt_3b067 cJ2_charAt_3b067 2 (some .char) 2 := ⟨tg_in (tin_3 (List.mem_of_getElem? (i := 6) (by decide +kernel))) rfl, IN_RJ2, NH_RJ2.1, NH_RJ2.2, by decide +kernel⟩
theorem MS_J2_charAt_3b067 : Cond.static yJ2_charAt_3b067 ∈ tblG := tg_in (tin_3 (List.mem_of_getElem? (i := 5) (by decide +kernel))) rfl
theorem MF_J2_checkIndex_2214a : MF yJ2_checkIndex_2214a cJ2_checkIndex_2214a 2 none 2 := ⟨tg_in (tin_3 (List.mem_of_getElem? (i := 9) (by decide +kernel))) rfl, IN_RJ2, NH_RJ2.1, NH_RJ2.2, by decide +kernel⟩
theorem MS_J2_checkIndex_2214a : Cond.static yJ2_checkIndex_2214a ∈ tblG := tg_in (tin_3 (List.mem_of_getElem? (i := 8) (by decide +kernel))) rfl
theorem MF_J3_checkIndex_8e157 : MF yJ3_checkIndex_8e157 cJ3_checkIndex_8e157 3 (some .int) 3 := ⟨tg_in (tin_3 (List.mem_of_getElem? (i := 3) (by decide +kernel))) rfl, IN_RJ3, NH_RJ3.1, NH_RJ3.2, by decide +kernel⟩
theorem MS_J3_checkIndex_8e157 : Cond.static yJ3_checkIndex_8e157 ∈ tblG := tg_in (tin_3 (List.mem_of_getElem? (i := 2) (by decide +kernel))) rfl
theorem LB_max : Cond.static Lib.Math.max.name ∈ tblG := tg_in (by decide +kernel) rfl
theorem LB_min : Cond.static Lib.Math.min.name ∈ tblG := tg_in (by decide +kernel) rfl
theorem LB_maxc : Cond.code Lib.Math.max.name Lib.Math.max.code 2 (some .int) ∈ tblG := tg_in (by decide +kernel) rfl
theorem LB_minc : Cond.code Lib.Math.min.name Lib.Math.min.code 2 (some .int) ∈ tblG := tg_in (by decide +kernel) rfl
theorem LB_maxl : Cond.static Lib.MathLoose.max_long.x ∈ tblG := tg_in (by decide +kernel) rfl
theorem LB_minl : Cond.static Lib.MathLoose.min_long.x ∈ tblG := tg_in (by decide +kernel) rfl
theorem LB_maxlc : Cond.code Lib.MathLoose.max_long.x Lib.MathLoose.max_long.code 4 (some .long) ∈ tblG := tg_in (by decide +kernel) rfl
theorem LB_minlc : Cond.code Lib.MathLoose.min_long.x Lib.MathLoose.min_long.code 4 (some .long) ∈ tblG := tg_in (by decide +kernel) rfl
theorem LB_mathi : Cond.initialized "java/lang/Math" ∈ tblG := tg_in (by decide +kernel) rfl
theorem LB_sysi : Cond.initialized "java/lang/System" ∈ tblG := tg_in (by decide +kernel) rfl
theorem LB_acn : Cond.native arraycopyName ∈ tblG := tg_in (by decide +kernel) rfl
theorem LB_acs : Cond.static arraycopyName ∈ tblG := tg_in (by decide +kernel) rfl
theorem LB_oi : Cond.instanceMethod objectInit ∈ tblG := tg_in (by decide +kernel) rfl
theorem LB_oc : Cond.code objectInit ⟨#[0xb1]⟩ 1 none ∈ tblG := tg_in (by decide +kernel) rfl
theorem KL_RX11_140 : Cond.constantLong RX11 140 (Int64.ofInt (3375)) ∈ tblG := tg_in (by decide +kernel) rfl
theorem KL_RX11_307 : Cond.constantLong RX11 307 (Int64.ofInt (99)) ∈ tblG := tg_in (by decide +kernel) rfl
theorem KL_RX11_284 : Cond.constantLong RX11 284 (Int64.ofInt (1000000)) ∈ tblG := tg_in (by decide +kernel) rfl
theorem KL_RX11_142 : Cond.constantLong RX11 142 (Int64.ofInt (3058)) ∈ tblG := tg_in (by decide +kernel) rfl
theorem KL_RX11_146 : Cond.constantLong RX11 146 (Int64.ofInt (191476)) ∈ tblG := tg_in (by decide +kernel) rfl
theorem KL_RX11_154 : Cond.constantLong RX11 154 (Int64.ofInt (48885315956)) ∈ tblG := tg_in (by decide +kernel) rfl
theorem KL_RX11_152 : Cond.constantLong RX11 152 (Int64.ofInt (10681714)) ∈ tblG := tg_in (by decide +kernel) rfl
theorem KL_RX11_148 : Cond.constantLong RX11 148 (Int64.ofInt (10623908)) ∈ tblG := tg_in (by decide +kernel) rfl
theorem KL_RX11_177 : Cond.constantLong RX11 177 (Int64.ofInt (64)) ∈ tblG := tg_in (by decide +kernel) rfl
theorem KL_RX11_150 : Cond.constantLong RX11 150 (Int64.ofInt (196078)) ∈ tblG := tg_in (by decide +kernel) rfl
theorem KL_RX11_160 : Cond.constantLong RX11 160 (Int64.ofInt (10169325)) ∈ tblG := tg_in (by decide +kernel) rfl
theorem KL_RX3_88 : Cond.constantLong RX3 88 (Int64.ofInt (-1000000)) ∈ tblG := tg_in (by decide +kernel) rfl
theorem KL_RX10_196 : Cond.constantLong RX10 196 (Int64.ofInt (-1)) ∈ tblG := tg_in (by decide +kernel) rfl
theorem KL_RX11_132 : Cond.constantLong RX11 132 (Int64.ofInt (667556462)) ∈ tblG := tg_in (by decide +kernel) rfl
theorem KL_RX11_136 : Cond.constantLong RX11 136 (Int64.ofInt (14556392)) ∈ tblG := tg_in (by decide +kernel) rfl
theorem KL_RX11_144 : Cond.constantLong RX11 144 (Int64.ofInt (138148)) ∈ tblG := tg_in (by decide +kernel) rfl
theorem KL_RX11_343 : Cond.constantLong RX11 343 (Int64.ofInt (-1)) ∈ tblG := tg_in (by decide +kernel) rfl
theorem KL_RX11_130 : Cond.constantLong RX11 130 (Int64.ofInt (666041765)) ∈ tblG := tg_in (by decide +kernel) rfl
theorem KL_RX11_138 : Cond.constantLong RX11 138 (Int64.ofInt (14555764)) ∈ tblG := tg_in (by decide +kernel) rfl
theorem KL_RX3_90 : Cond.constantLong RX3 90 (Int64.ofInt (1000000)) ∈ tblG := tg_in (by decide +kernel) rfl
theorem KL_RX11_156 : Cond.constantLong RX11 156 (Int64.ofInt (59687467572)) ∈ tblG := tg_in (by decide +kernel) rfl
theorem KL_RX11_134 : Cond.constantLong RX11 134 (Int64.ofInt (198777)) ∈ tblG := tg_in (by decide +kernel) rfl
theorem KL_RX11_158 : Cond.constantLong RX11 158 (Int64.ofInt (883349875)) ∈ tblG := tg_in (by decide +kernel) rfl
theorem KL_RX11_286 : Cond.constantLong RX11 286 (Int64.ofInt (-1000000)) ∈ tblG := tg_in (by decide +kernel) rfl
theorem KI_RX11_377 : Cond.constant RX11 377 (Int32.ofInt (100000)) ∈ tblG := tg_in (by decide +kernel) rfl
theorem KI_RX11_186 : Cond.constant RX11 186 (Int32.ofInt (99999)) ∈ tblG := tg_in (by decide +kernel) rfl
theorem KI_RX11_85 : Cond.constant RX11 85 (Int32.ofInt (51623)) ∈ tblG := tg_in (by decide +kernel) rfl
theorem KC_RX4_37 : Cond.classLink RX4 37 "HeavierByHand$Steps" ∈ tblG := tg_in (by decide +kernel) rfl
theorem KC_RX10_26 : Cond.classLink RX10 26 "HeavierByHand$Reader" ∈ tblG := tg_in (by decide +kernel) rfl
theorem KC_RX1_18 : Cond.classLink RX1 18 "HeavierByHand$Tokens" ∈ tblG := tg_in (by decide +kernel) rfl
theorem KC_RL_7 : Cond.classLink RL 7 "HeavierByHand" ∈ tblG := tg_in (by decide +kernel) rfl
theorem KC_RX10_40 : Cond.classLink RX10 40 "HeavierByHand$Scale" ∈ tblG := tg_in (by decide +kernel) rfl
theorem KC_RX1_9 : Cond.classLink RX1 9 "HeavierByHand$Text" ∈ tblG := tg_in (by decide +kernel) rfl
theorem KC_RX10_203 : Cond.classLink RX10 203 "HeavierByHand$RowTable" ∈ tblG := tg_in (by decide +kernel) rfl
theorem KC_RX10_47 : Cond.classLink RX10 47 "HeavierByHand$Trays" ∈ tblG := tg_in (by decide +kernel) rfl
theorem KC_RX10_54 : Cond.classLink RX10 54 "HeavierByHand$Draws" ∈ tblG := tg_in (by decide +kernel) rfl
theorem KC_RX10_7 : Cond.classLink RX10 7 "HeavierByHand$State" ∈ tblG := tg_in (by decide +kernel) rfl
theorem KC_RX10_33 : Cond.classLink RX10 33 "HeavierByHand$Text" ∈ tblG := tg_in (by decide +kernel) rfl
theorem KC_RL_10 : Cond.classLink RL 10 "HeavierByHandModel" ∈ tblG := tg_in (by decide +kernel) rfl
theorem KC_RX10_19 : Cond.classLink RX10 19 "HeavierByHand$Tape" ∈ tblG := tg_in (by decide +kernel) rfl
