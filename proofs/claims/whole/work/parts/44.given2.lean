set_option maxRecDepth 100000 in
theorem f_ne_0_1 : Cond.not (Cond.eq (sTm 0) (sTm 1)) ∈ fl1 := List.mem_of_getElem? (i := 90) (by decide +kernel)
set_option maxRecDepth 100000 in
theorem f_ne_0_2 : Cond.not (Cond.eq (sTm 0) (sTm 2)) ∈ fl1 := List.mem_of_getElem? (i := 98) (by decide +kernel)
set_option maxRecDepth 100000 in
theorem f_ne_1_2 : Cond.not (Cond.eq (sTm 1) (sTm 2)) ∈ fl1 := List.mem_of_getElem? (i := 99) (by decide +kernel)
set_option maxRecDepth 100000 in
theorem f_ne_0_3 : Cond.not (Cond.eq (sTm 0) (sTm 3)) ∈ fl1 := List.mem_of_getElem? (i := 108) (by decide +kernel)
set_option maxRecDepth 100000 in
theorem f_ne_1_3 : Cond.not (Cond.eq (sTm 1) (sTm 3)) ∈ fl1 := List.mem_of_getElem? (i := 109) (by decide +kernel)
set_option maxRecDepth 100000 in
theorem f_ne_2_3 : Cond.not (Cond.eq (sTm 2) (sTm 3)) ∈ fl1 := List.mem_of_getElem? (i := 110) (by decide +kernel)
set_option maxRecDepth 100000 in
theorem f_ne_0_4 : Cond.not (Cond.eq (sTm 0) (sTm 4)) ∈ fl1 := List.mem_of_getElem? (i := 119) (by decide +kernel)
set_option maxRecDepth 100000 in
theorem f_ne_1_4 : Cond.not (Cond.eq (sTm 1) (sTm 4)) ∈ fl1 := List.mem_of_getElem? (i := 120) (by decide +kernel)
set_option maxRecDepth 100000 in
theorem f_ne_2_4 : Cond.not (Cond.eq (sTm 2) (sTm 4)) ∈ fl1 := List.mem_of_getElem? (i := 121) (by decide +kernel)
set_option maxRecDepth 100000 in
theorem f_ne_3_4 : Cond.not (Cond.eq (sTm 3) (sTm 4)) ∈ fl1 := List.mem_of_getElem? (i := 122) (by decide +kernel)
set_option maxRecDepth 100000 in
theorem f_ne_0_5 : Cond.not (Cond.eq (sTm 0) (sTm 5)) ∈ fl1 := List.mem_of_getElem? (i := 129) (by decide +kernel)
set_option maxRecDepth 100000 in
theorem f_ne_1_5 : Cond.not (Cond.eq (sTm 1) (sTm 5)) ∈ fl1 := List.mem_of_getElem? (i := 130) (by decide +kernel)
set_option maxRecDepth 100000 in
theorem f_ne_2_5 : Cond.not (Cond.eq (sTm 2) (sTm 5)) ∈ fl1 := List.mem_of_getElem? (i := 131) (by decide +kernel)
set_option maxRecDepth 100000 in
theorem f_ne_3_5 : Cond.not (Cond.eq (sTm 3) (sTm 5)) ∈ fl1 := List.mem_of_getElem? (i := 132) (by decide +kernel)
set_option maxRecDepth 100000 in
theorem f_ne_4_5 : Cond.not (Cond.eq (sTm 4) (sTm 5)) ∈ fl1 := List.mem_of_getElem? (i := 133) (by decide +kernel)
set_option maxRecDepth 100000 in
theorem f_ne_0_6 : Cond.not (Cond.eq (sTm 0) (sTm 6)) ∈ fl1 := List.mem_of_getElem? (i := 140) (by decide +kernel)
set_option maxRecDepth 100000 in
theorem f_ne_1_6 : Cond.not (Cond.eq (sTm 1) (sTm 6)) ∈ fl1 := List.mem_of_getElem? (i := 141) (by decide +kernel)
set_option maxRecDepth 100000 in
theorem f_ne_2_6 : Cond.not (Cond.eq (sTm 2) (sTm 6)) ∈ fl1 := List.mem_of_getElem? (i := 142) (by decide +kernel)
set_option maxRecDepth 100000 in
theorem f_ne_3_6 : Cond.not (Cond.eq (sTm 3) (sTm 6)) ∈ fl1 := List.mem_of_getElem? (i := 143) (by decide +kernel)
set_option maxRecDepth 100000 in
theorem f_ne_4_6 : Cond.not (Cond.eq (sTm 4) (sTm 6)) ∈ fl1 := List.mem_of_getElem? (i := 144) (by decide +kernel)
set_option maxRecDepth 100000 in
theorem f_ne_5_6 : Cond.not (Cond.eq (sTm 5) (sTm 6)) ∈ fl1 := List.mem_of_getElem? (i := 145) (by decide +kernel)
set_option maxRecDepth 100000 in
theorem f_ne_0_7 : Cond.not (Cond.eq (sTm 0) (sTm 7)) ∈ fl1 := List.mem_of_getElem? (i := 153) (by decide +kernel)
set_option maxRecDepth 100000 in
theorem f_ne_1_7 : Cond.not (Cond.eq (sTm 1) (sTm 7)) ∈ fl1 := List.mem_of_getElem? (i := 154) (by decide +kernel)
set_option maxRecDepth 100000 in
theorem f_ne_2_7 : Cond.not (Cond.eq (sTm 2) (sTm 7)) ∈ fl1 := List.mem_of_getElem? (i := 155) (by decide +kernel)
set_option maxRecDepth 100000 in
theorem f_ne_3_7 : Cond.not (Cond.eq (sTm 3) (sTm 7)) ∈ fl1 := List.mem_of_getElem? (i := 156) (by decide +kernel)
set_option maxRecDepth 100000 in
theorem f_ne_4_7 : Cond.not (Cond.eq (sTm 4) (sTm 7)) ∈ fl1 := List.mem_of_getElem? (i := 157) (by decide +kernel)
set_option maxRecDepth 100000 in
theorem f_ne_5_7 : Cond.not (Cond.eq (sTm 5) (sTm 7)) ∈ fl1 := List.mem_of_getElem? (i := 158) (by decide +kernel)
set_option maxRecDepth 100000 in
theorem f_ne_6_7 : Cond.not (Cond.eq (sTm 6) (sTm 7)) ∈ fl1 := List.mem_of_getElem? (i := 159) (by decide +kernel)
set_option maxRecDepth 100000 in
theorem f_ne_0_8 : Cond.not (Cond.eq (sTm 0) (sTm 8)) ∈ fl1 := List.mem_of_getElem? (i := 167) (by decide +kernel)
set_option maxRecDepth 100000 in
theorem f_ne_1_8 : Cond.not (Cond.eq (sTm 1) (sTm 8)) ∈ fl1 := List.mem_of_getElem? (i := 168) (by decide +kernel)
set_option maxRecDepth 100000 in
theorem f_ne_2_8 : Cond.not (Cond.eq (sTm 2) (sTm 8)) ∈ fl1 := List.mem_of_getElem? (i := 169) (by decide +kernel)
set_option maxRecDepth 100000 in
theorem f_ne_3_8 : Cond.not (Cond.eq (sTm 3) (sTm 8)) ∈ fl1 := List.mem_of_getElem? (i := 170) (by decide +kernel)
set_option maxRecDepth 100000 in
theorem f_ne_4_8 : Cond.not (Cond.eq (sTm 4) (sTm 8)) ∈ fl1 := List.mem_of_getElem? (i := 171) (by decide +kernel)
set_option maxRecDepth 100000 in
theorem f_ne_5_8 : Cond.not (Cond.eq (sTm 5) (sTm 8)) ∈ fl1 := List.mem_of_getElem? (i := 172) (by decide +kernel)
set_option maxRecDepth 100000 in
theorem f_ne_6_8 : Cond.not (Cond.eq (sTm 6) (sTm 8)) ∈ fl1 := List.mem_of_getElem? (i := 173) (by decide +kernel)
set_option maxRecDepth 100000 in
theorem f_ne_7_8 : Cond.not (Cond.eq (sTm 7) (sTm 8)) ∈ fl1 := List.mem_of_getElem? (i := 174) (by decide +kernel)
set_option maxRecDepth 100000 in
theorem f_ne_0_9 : Cond.not (Cond.eq (sTm 0) (sTm 9)) ∈ fl1 := List.mem_of_getElem? (i := 183) (by decide +kernel)
set_option maxRecDepth 100000 in
theorem f_ne_1_9 : Cond.not (Cond.eq (sTm 1) (sTm 9)) ∈ fl1 := List.mem_of_getElem? (i := 184) (by decide +kernel)
set_option maxRecDepth 100000 in
theorem f_ne_2_9 : Cond.not (Cond.eq (sTm 2) (sTm 9)) ∈ fl1 := List.mem_of_getElem? (i := 185) (by decide +kernel)
set_option maxRecDepth 100000 in
theorem f_ne_3_9 : Cond.not (Cond.eq (sTm 3) (sTm 9)) ∈ fl1 := List.mem_of_getElem? (i := 186) (by decide +kernel)
set_option maxRecDepth 100000 in
theorem f_ne_4_9 : Cond.not (Cond.eq (sTm 4) (sTm 9)) ∈ fl1 := List.mem_of_getElem? (i := 187) (by decide +kernel)
set_option maxRecDepth 100000 in
theorem f_ne_5_9 : Cond.not (Cond.eq (sTm 5) (sTm 9)) ∈ fl1 := List.mem_of_getElem? (i := 188) (by decide +kernel)
set_option maxRecDepth 100000 in
theorem f_ne_6_9 : Cond.not (Cond.eq (sTm 6) (sTm 9)) ∈ fl1 := List.mem_of_getElem? (i := 189) (by decide +kernel)
set_option maxRecDepth 100000 in
theorem f_ne_7_9 : Cond.not (Cond.eq (sTm 7) (sTm 9)) ∈ fl1 := List.mem_of_getElem? (i := 190) (by decide +kernel)
set_option maxRecDepth 100000 in
theorem f_ne_8_9 : Cond.not (Cond.eq (sTm 8) (sTm 9)) ∈ fl1 := List.mem_of_getElem? (i := 191) (by decide +kernel)
set_option maxRecDepth 100000 in
theorem f_ne_0_10 : Cond.not (Cond.eq (sTm 0) (sTm 10)) ∈ fl1 := List.mem_of_getElem? (i := 199) (by decide +kernel)
set_option maxRecDepth 100000 in
theorem f_ne_1_10 : Cond.not (Cond.eq (sTm 1) (sTm 10)) ∈ fl1 := List.mem_of_getElem? (i := 200) (by decide +kernel)
set_option maxRecDepth 100000 in
theorem f_ne_2_10 : Cond.not (Cond.eq (sTm 2) (sTm 10)) ∈ fl1 := List.mem_of_getElem? (i := 201) (by decide +kernel)
set_option maxRecDepth 100000 in
theorem f_ne_3_10 : Cond.not (Cond.eq (sTm 3) (sTm 10)) ∈ fl1 := List.mem_of_getElem? (i := 202) (by decide +kernel)
set_option maxRecDepth 100000 in
theorem f_ne_4_10 : Cond.not (Cond.eq (sTm 4) (sTm 10)) ∈ fl1 := List.mem_of_getElem? (i := 203) (by decide +kernel)
set_option maxRecDepth 100000 in
theorem f_ne_5_10 : Cond.not (Cond.eq (sTm 5) (sTm 10)) ∈ fl1 := List.mem_of_getElem? (i := 204) (by decide +kernel)
set_option maxRecDepth 100000 in
theorem f_ne_6_10 : Cond.not (Cond.eq (sTm 6) (sTm 10)) ∈ fl1 := List.mem_of_getElem? (i := 205) (by decide +kernel)
set_option maxRecDepth 100000 in
theorem f_ne_7_10 : Cond.not (Cond.eq (sTm 7) (sTm 10)) ∈ fl1 := List.mem_of_getElem? (i := 206) (by decide +kernel)
set_option maxRecDepth 100000 in
theorem f_ne_8_10 : Cond.not (Cond.eq (sTm 8) (sTm 10)) ∈ fl1 := List.mem_of_getElem? (i := 207) (by decide +kernel)
set_option maxRecDepth 100000 in
theorem f_ne_9_10 : Cond.not (Cond.eq (sTm 9) (sTm 10)) ∈ fl1 := List.mem_of_getElem? (i := 208) (by decide +kernel)
set_option maxRecDepth 100000 in
theorem f_ne_0_11 : Cond.not (Cond.eq (sTm 0) (sTm 11)) ∈ fl1 := List.mem_of_getElem? (i := 217) (by decide +kernel)
set_option maxRecDepth 100000 in
theorem f_ne_1_11 : Cond.not (Cond.eq (sTm 1) (sTm 11)) ∈ fl1 := List.mem_of_getElem? (i := 218) (by decide +kernel)
set_option maxRecDepth 100000 in
theorem f_ne_2_11 : Cond.not (Cond.eq (sTm 2) (sTm 11)) ∈ fl1 := List.mem_of_getElem? (i := 219) (by decide +kernel)
set_option maxRecDepth 100000 in
theorem f_ne_3_11 : Cond.not (Cond.eq (sTm 3) (sTm 11)) ∈ fl1 := List.mem_of_getElem? (i := 220) (by decide +kernel)
set_option maxRecDepth 100000 in
theorem f_ne_4_11 : Cond.not (Cond.eq (sTm 4) (sTm 11)) ∈ fl1 := List.mem_of_getElem? (i := 221) (by decide +kernel)
set_option maxRecDepth 100000 in
theorem f_ne_5_11 : Cond.not (Cond.eq (sTm 5) (sTm 11)) ∈ fl1 := List.mem_of_getElem? (i := 222) (by decide +kernel)
set_option maxRecDepth 100000 in
theorem f_ne_6_11 : Cond.not (Cond.eq (sTm 6) (sTm 11)) ∈ fl1 := List.mem_of_getElem? (i := 223) (by decide +kernel)
set_option maxRecDepth 100000 in
theorem f_ne_7_11 : Cond.not (Cond.eq (sTm 7) (sTm 11)) ∈ fl1 := List.mem_of_getElem? (i := 224) (by decide +kernel)
set_option maxRecDepth 100000 in
theorem f_ne_8_11 : Cond.not (Cond.eq (sTm 8) (sTm 11)) ∈ fl1 := List.mem_of_getElem? (i := 225) (by decide +kernel)
set_option maxRecDepth 100000 in
theorem f_ne_9_11 : Cond.not (Cond.eq (sTm 9) (sTm 11)) ∈ fl1 := List.mem_of_getElem? (i := 226) (by decide +kernel)
set_option maxRecDepth 100000 in
theorem f_ne_10_11 : Cond.not (Cond.eq (sTm 10) (sTm 11)) ∈ fl1 := List.mem_of_getElem? (i := 227) (by decide +kernel)
set_option maxRecDepth 100000 in
theorem f_ne_0_12 : Cond.not (Cond.eq (sTm 0) (sTm 12)) ∈ fl1 := List.mem_of_getElem? (i := 238) (by decide +kernel)
set_option maxRecDepth 100000 in
theorem f_ne_1_12 : Cond.not (Cond.eq (sTm 1) (sTm 12)) ∈ fl1 := List.mem_of_getElem? (i := 239) (by decide +kernel)
set_option maxRecDepth 100000 in
theorem f_ne_2_12 : Cond.not (Cond.eq (sTm 2) (sTm 12)) ∈ fl1 := List.mem_of_getElem? (i := 240) (by decide +kernel)
set_option maxRecDepth 100000 in
theorem f_ne_3_12 : Cond.not (Cond.eq (sTm 3) (sTm 12)) ∈ fl1 := List.mem_of_getElem? (i := 241) (by decide +kernel)
set_option maxRecDepth 100000 in
theorem f_ne_4_12 : Cond.not (Cond.eq (sTm 4) (sTm 12)) ∈ fl1 := List.mem_of_getElem? (i := 242) (by decide +kernel)
set_option maxRecDepth 100000 in
theorem f_ne_5_12 : Cond.not (Cond.eq (sTm 5) (sTm 12)) ∈ fl1 := List.mem_of_getElem? (i := 243) (by decide +kernel)
set_option maxRecDepth 100000 in
theorem f_ne_6_12 : Cond.not (Cond.eq (sTm 6) (sTm 12)) ∈ fl1 := List.mem_of_getElem? (i := 244) (by decide +kernel)
set_option maxRecDepth 100000 in
theorem f_ne_7_12 : Cond.not (Cond.eq (sTm 7) (sTm 12)) ∈ fl1 := List.mem_of_getElem? (i := 245) (by decide +kernel)
set_option maxRecDepth 100000 in
theorem f_ne_8_12 : Cond.not (Cond.eq (sTm 8) (sTm 12)) ∈ fl1 := List.mem_of_getElem? (i := 246) (by decide +kernel)
set_option maxRecDepth 100000 in
theorem f_ne_9_12 : Cond.not (Cond.eq (sTm 9) (sTm 12)) ∈ fl1 := List.mem_of_getElem? (i := 247) (by decide +kernel)
set_option maxRecDepth 100000 in
theorem f_ne_10_12 : Cond.not (Cond.eq (sTm 10) (sTm 12)) ∈ fl1 := List.mem_of_getElem? (i := 248) (by decide +kernel)
set_option maxRecDepth 100000 in
theorem f_ne_11_12 : Cond.not (Cond.eq (sTm 11) (sTm 12)) ∈ fl1 := List.mem_of_getElem? (i := 249) (by decide +kernel)
set_option maxRecDepth 100000 in
theorem f_ne_0_13 : Cond.not (Cond.eq (sTm 0) (sTm 13)) ∈ fl1 := List.mem_of_getElem? (i := 260) (by decide +kernel)
set_option maxRecDepth 100000 in
theorem f_ne_1_13 : Cond.not (Cond.eq (sTm 1) (sTm 13)) ∈ fl1 := List.mem_of_getElem? (i := 261) (by decide +kernel)
set_option maxRecDepth 100000 in
theorem f_ne_2_13 : Cond.not (Cond.eq (sTm 2) (sTm 13)) ∈ fl1 := List.mem_of_getElem? (i := 262) (by decide +kernel)
set_option maxRecDepth 100000 in
theorem f_ne_3_13 : Cond.not (Cond.eq (sTm 3) (sTm 13)) ∈ fl1 := List.mem_of_getElem? (i := 263) (by decide +kernel)
set_option maxRecDepth 100000 in
theorem f_ne_4_13 : Cond.not (Cond.eq (sTm 4) (sTm 13)) ∈ fl1 := List.mem_of_getElem? (i := 264) (by decide +kernel)
set_option maxRecDepth 100000 in
theorem f_ne_5_13 : Cond.not (Cond.eq (sTm 5) (sTm 13)) ∈ fl1 := List.mem_of_getElem? (i := 265) (by decide +kernel)
set_option maxRecDepth 100000 in
theorem f_ne_6_13 : Cond.not (Cond.eq (sTm 6) (sTm 13)) ∈ fl1 := List.mem_of_getElem? (i := 266) (by decide +kernel)
set_option maxRecDepth 100000 in
theorem f_ne_7_13 : Cond.not (Cond.eq (sTm 7) (sTm 13)) ∈ fl1 := List.mem_of_getElem? (i := 267) (by decide +kernel)
set_option maxRecDepth 100000 in
theorem f_ne_8_13 : Cond.not (Cond.eq (sTm 8) (sTm 13)) ∈ fl1 := List.mem_of_getElem? (i := 268) (by decide +kernel)
set_option maxRecDepth 100000 in
theorem f_ne_9_13 : Cond.not (Cond.eq (sTm 9) (sTm 13)) ∈ fl1 := List.mem_of_getElem? (i := 269) (by decide +kernel)
set_option maxRecDepth 100000 in
theorem f_ne_10_13 : Cond.not (Cond.eq (sTm 10) (sTm 13)) ∈ fl1 := List.mem_of_getElem? (i := 270) (by decide +kernel)
set_option maxRecDepth 100000 in
theorem f_ne_11_13 : Cond.not (Cond.eq (sTm 11) (sTm 13)) ∈ fl1 := List.mem_of_getElem? (i := 271) (by decide +kernel)
set_option maxRecDepth 100000 in
theorem f_ne_12_13 : Cond.not (Cond.eq (sTm 12) (sTm 13)) ∈ fl1 := List.mem_of_getElem? (i := 272) (by decide +kernel)
set_option maxRecDepth 100000 in
theorem f_ne_0_14 : Cond.not (Cond.eq (sTm 0) (sTm 14)) ∈ fl1 := List.mem_of_getElem? (i := 282) (by decide +kernel)
set_option maxRecDepth 100000 in
theorem f_ne_1_14 : Cond.not (Cond.eq (sTm 1) (sTm 14)) ∈ fl1 := List.mem_of_getElem? (i := 283) (by decide +kernel)
set_option maxRecDepth 100000 in
theorem f_ne_2_14 : Cond.not (Cond.eq (sTm 2) (sTm 14)) ∈ fl1 := List.mem_of_getElem? (i := 284) (by decide +kernel)
set_option maxRecDepth 100000 in
theorem f_ne_3_14 : Cond.not (Cond.eq (sTm 3) (sTm 14)) ∈ fl1 := List.mem_of_getElem? (i := 285) (by decide +kernel)
set_option maxRecDepth 100000 in
theorem f_ne_4_14 : Cond.not (Cond.eq (sTm 4) (sTm 14)) ∈ fl1 := List.mem_of_getElem? (i := 286) (by decide +kernel)
set_option maxRecDepth 100000 in
theorem f_ne_5_14 : Cond.not (Cond.eq (sTm 5) (sTm 14)) ∈ fl1 := List.mem_of_getElem? (i := 287) (by decide +kernel)
set_option maxRecDepth 100000 in
theorem f_ne_6_14 : Cond.not (Cond.eq (sTm 6) (sTm 14)) ∈ fl1 := List.mem_of_getElem? (i := 288) (by decide +kernel)
set_option maxRecDepth 100000 in
theorem f_ne_7_14 : Cond.not (Cond.eq (sTm 7) (sTm 14)) ∈ fl1 := List.mem_of_getElem? (i := 289) (by decide +kernel)
set_option maxRecDepth 100000 in
theorem f_ne_8_14 : Cond.not (Cond.eq (sTm 8) (sTm 14)) ∈ fl1 := List.mem_of_getElem? (i := 290) (by decide +kernel)
set_option maxRecDepth 100000 in
theorem f_ne_9_14 : Cond.not (Cond.eq (sTm 9) (sTm 14)) ∈ fl1 := List.mem_of_getElem? (i := 291) (by decide +kernel)
set_option maxRecDepth 100000 in
theorem f_ne_10_14 : Cond.not (Cond.eq (sTm 10) (sTm 14)) ∈ fl1 := List.mem_of_getElem? (i := 292) (by decide +kernel)
set_option maxRecDepth 100000 in
theorem f_ne_11_14 : Cond.not (Cond.eq (sTm 11) (sTm 14)) ∈ fl1 := List.mem_of_getElem? (i := 293) (by decide +kernel)
set_option maxRecDepth 100000 in
theorem f_ne_12_14 : Cond.not (Cond.eq (sTm 12) (sTm 14)) ∈ fl1 := List.mem_of_getElem? (i := 294) (by decide +kernel)
set_option maxRecDepth 100000 in
theorem f_ne_13_14 : Cond.not (Cond.eq (sTm 13) (sTm 14)) ∈ fl1 := List.mem_of_getElem? (i := 295) (by decide +kernel)
set_option maxRecDepth 100000 in
theorem f_ne_0_15 : Cond.not (Cond.eq (sTm 0) (sTm 15)) ∈ fl1 := List.mem_of_getElem? (i := 304) (by decide +kernel)
set_option maxRecDepth 100000 in
theorem f_ne_1_15 : Cond.not (Cond.eq (sTm 1) (sTm 15)) ∈ fl1 := List.mem_of_getElem? (i := 305) (by decide +kernel)
set_option maxRecDepth 100000 in
theorem f_ne_2_15 : Cond.not (Cond.eq (sTm 2) (sTm 15)) ∈ fl1 := List.mem_of_getElem? (i := 306) (by decide +kernel)
set_option maxRecDepth 100000 in
theorem f_ne_3_15 : Cond.not (Cond.eq (sTm 3) (sTm 15)) ∈ fl1 := List.mem_of_getElem? (i := 307) (by decide +kernel)
set_option maxRecDepth 100000 in
theorem f_ne_4_15 : Cond.not (Cond.eq (sTm 4) (sTm 15)) ∈ fl1 := List.mem_of_getElem? (i := 308) (by decide +kernel)
set_option maxRecDepth 100000 in
theorem f_ne_5_15 : Cond.not (Cond.eq (sTm 5) (sTm 15)) ∈ fl1 := List.mem_of_getElem? (i := 309) (by decide +kernel)
set_option maxRecDepth 100000 in
theorem f_ne_6_15 : Cond.not (Cond.eq (sTm 6) (sTm 15)) ∈ fl1 := List.mem_of_getElem? (i := 310) (by decide +kernel)
set_option maxRecDepth 100000 in
theorem f_ne_7_15 : Cond.not (Cond.eq (sTm 7) (sTm 15)) ∈ fl1 := List.mem_of_getElem? (i := 311) (by decide +kernel)
set_option maxRecDepth 100000 in
theorem f_ne_8_15 : Cond.not (Cond.eq (sTm 8) (sTm 15)) ∈ fl1 := List.mem_of_getElem? (i := 312) (by decide +kernel)
set_option maxRecDepth 100000 in
theorem f_ne_9_15 : Cond.not (Cond.eq (sTm 9) (sTm 15)) ∈ fl1 := List.mem_of_getElem? (i := 313) (by decide +kernel)
set_option maxRecDepth 100000 in
theorem f_ne_10_15 : Cond.not (Cond.eq (sTm 10) (sTm 15)) ∈ fl1 := List.mem_of_getElem? (i := 314) (by decide +kernel)
set_option maxRecDepth 100000 in
theorem f_ne_11_15 : Cond.not (Cond.eq (sTm 11) (sTm 15)) ∈ fl1 := List.mem_of_getElem? (i := 315) (by decide +kernel)
set_option maxRecDepth 100000 in
theorem f_ne_12_15 : Cond.not (Cond.eq (sTm 12) (sTm 15)) ∈ fl1 := List.mem_of_getElem? (i := 316) (by decide +kernel)
set_option maxRecDepth 100000 in
theorem f_ne_13_15 : Cond.not (Cond.eq (sTm 13) (sTm 15)) ∈ fl1 := List.mem_of_getElem? (i := 317) (by decide +kernel)
set_option maxRecDepth 100000 in
theorem f_ne_14_15 : Cond.not (Cond.eq (sTm 14) (sTm 15)) ∈ fl1 := List.mem_of_getElem? (i := 318) (by decide +kernel)
def plL : List Nat := [1, 2, 18, 3, 19, 35, 4, 20, 36, 52, 5, 21, 37, 53, 69, 6, 22, 38, 54, 70, 86, 7, 23, 39, 55, 71, 87, 103, 8, 24, 40, 56, 72, 88, 104, 120, 9, 25, 41, 57, 73, 89, 105, 121, 137, 10, 26, 42, 58, 74, 90, 106, 122, 138, 154, 11, 27, 43, 59, 75, 91, 107, 123, 139, 155, 171, 12, 28, 44, 60, 76, 92, 108, 124, 140, 156, 172, 188, 13, 29, 45, 61, 77, 93, 109, 125, 141, 157, 173, 189, 205, 14, 30, 46, 62, 78, 94, 110, 126, 142, 158, 174, 190, 206, 222, 15, 31, 47, 63, 79, 95, 111, 127, 143, 159, 175, 191, 207, 223, 239]
theorem f_nl : ∀ q ∈ plL, Cond.not (Cond.eq (sTm (q / 16)) (sTm (q % 16))) ∈ fl1 := List.forall_mem_cons.mpr ⟨f_ne_0_1, List.forall_mem_cons.mpr ⟨f_ne_0_2, List.forall_mem_cons.mpr ⟨f_ne_1_2, List.forall_mem_cons.mpr ⟨f_ne_0_3, List.forall_mem_cons.mpr ⟨f_ne_1_3, List.forall_mem_cons.mpr ⟨f_ne_2_3, List.forall_mem_cons.mpr ⟨f_ne_0_4, List.forall_mem_cons.mpr ⟨f_ne_1_4, List.forall_mem_cons.mpr ⟨f_ne_2_4, List.forall_mem_cons.mpr ⟨f_ne_3_4, List.forall_mem_cons.mpr ⟨f_ne_0_5, List.forall_mem_cons.mpr ⟨f_ne_1_5, List.forall_mem_cons.mpr ⟨f_ne_2_5, List.forall_mem_cons.mpr ⟨f_ne_3_5, List.forall_mem_cons.mpr ⟨f_ne_4_5, List.forall_mem_cons.mpr ⟨f_ne_0_6, List.forall_mem_cons.mpr ⟨f_ne_1_6, List.forall_mem_cons.mpr ⟨f_ne_2_6, List.forall_mem_cons.mpr ⟨f_ne_3_6, List.forall_mem_cons.mpr ⟨f_ne_4_6, List.forall_mem_cons.mpr ⟨f_ne_5_6, List.forall_mem_cons.mpr ⟨f_ne_0_7, List.forall_mem_cons.mpr ⟨f_ne_1_7, List.forall_mem_cons.mpr ⟨f_ne_2_7, List.forall_mem_cons.mpr ⟨f_ne_3_7, List.forall_mem_cons.mpr ⟨f_ne_4_7, List.forall_mem_cons.mpr ⟨f_ne_5_7, List.forall_mem_cons.mpr ⟨f_ne_6_7, List.forall_mem_cons.mpr ⟨f_ne_0_8, List.forall_mem_cons.mpr ⟨f_ne_1_8, List.forall_mem_cons.mpr ⟨f_ne_2_8, List.forall_mem_cons.mpr ⟨f_ne_3_8, List.forall_mem_cons.mpr ⟨f_ne_4_8, List.forall_mem_cons.mpr ⟨f_ne_5_8, List.forall_mem_cons.mpr ⟨f_ne_6_8, List.forall_mem_cons.mpr ⟨f_ne_7_8, List.forall_mem_cons.mpr ⟨f_ne_0_9, List.forall_mem_cons.mpr ⟨f_ne_1_9, List.forall_mem_cons.mpr ⟨f_ne_2_9, List.forall_mem_cons.mpr ⟨f_ne_3_9, List.forall_mem_cons.mpr ⟨f_ne_4_9, List.forall_mem_cons.mpr ⟨f_ne_5_9, List.forall_mem_cons.mpr ⟨f_ne_6_9, List.forall_mem_cons.mpr ⟨f_ne_7_9, List.forall_mem_cons.mpr ⟨f_ne_8_9, List.forall_mem_cons.mpr ⟨f_ne_0_10, List.forall_mem_cons.mpr ⟨f_ne_1_10, List.forall_mem_cons.mpr ⟨f_ne_2_10, List.forall_mem_cons.mpr ⟨f_ne_3_10, List.forall_mem_cons.mpr ⟨f_ne_4_10, List.forall_mem_cons.mpr ⟨f_ne_5_10, List.forall_mem_cons.mpr ⟨f_ne_6_10, List.forall_mem_cons.mpr ⟨f_ne_7_10, List.forall_mem_cons.mpr ⟨f_ne_8_10, List.forall_mem_cons.mpr ⟨f_ne_9_10, List.forall_mem_cons.mpr ⟨f_ne_0_11, List.forall_mem_cons.mpr ⟨f_ne_1_11, List.forall_mem_cons.mpr ⟨f_ne_2_11, List.forall_mem_cons.mpr ⟨f_ne_3_11, List.forall_mem_cons.mpr ⟨f_ne_4_11, List.forall_mem_cons.mpr ⟨f_ne_5_11, List.forall_mem_cons.mpr ⟨f_ne_6_11, List.forall_mem_cons.mpr ⟨f_ne_7_11, List.forall_mem_cons.mpr ⟨f_ne_8_11, List.forall_mem_cons.mpr ⟨f_ne_9_11, List.forall_mem_cons.mpr ⟨f_ne_10_11, List.forall_mem_cons.mpr ⟨f_ne_0_12, List.forall_mem_cons.mpr ⟨f_ne_1_12, List.forall_mem_cons.mpr ⟨f_ne_2_12, List.forall_mem_cons.mpr ⟨f_ne_3_12, List.forall_mem_cons.mpr ⟨f_ne_4_12, List.forall_mem_cons.mpr ⟨f_ne_5_12, List.forall_mem_cons.mpr ⟨f_ne_6_12, List.forall_mem_cons.mpr ⟨f_ne_7_12, List.forall_mem_cons.mpr ⟨f_ne_8_12, List.forall_mem_cons.mpr ⟨f_ne_9_12, List.forall_mem_cons.mpr ⟨f_ne_10_12, List.forall_mem_cons.mpr ⟨f_ne_11_12, List.forall_mem_cons.mpr ⟨f_ne_0_13, List.forall_mem_cons.mpr ⟨f_ne_1_13, List.forall_mem_cons.mpr ⟨f_ne_2_13, List.forall_mem_cons.mpr ⟨f_ne_3_13, List.forall_mem_cons.mpr ⟨f_ne_4_13, List.forall_mem_cons.mpr ⟨f_ne_5_13, List.forall_mem_cons.mpr ⟨f_ne_6_13, List.forall_mem_cons.mpr ⟨f_ne_7_13, List.forall_mem_cons.mpr ⟨f_ne_8_13, List.forall_mem_cons.mpr ⟨f_ne_9_13, List.forall_mem_cons.mpr ⟨f_ne_10_13, List.forall_mem_cons.mpr ⟨f_ne_11_13, List.forall_mem_cons.mpr ⟨f_ne_12_13, List.forall_mem_cons.mpr ⟨f_ne_0_14, List.forall_mem_cons.mpr ⟨f_ne_1_14, List.forall_mem_cons.mpr ⟨f_ne_2_14, List.forall_mem_cons.mpr ⟨f_ne_3_14, List.forall_mem_cons.mpr ⟨f_ne_4_14, List.forall_mem_cons.mpr ⟨f_ne_5_14, List.forall_mem_cons.mpr ⟨f_ne_6_14, List.forall_mem_cons.mpr ⟨f_ne_7_14, List.forall_mem_cons.mpr ⟨f_ne_8_14, List.forall_mem_cons.mpr ⟨f_ne_9_14, List.forall_mem_cons.mpr ⟨f_ne_10_14, List.forall_mem_cons.mpr ⟨f_ne_11_14, List.forall_mem_cons.mpr ⟨f_ne_12_14, List.forall_mem_cons.mpr ⟨f_ne_13_14, List.forall_mem_cons.mpr ⟨f_ne_0_15, List.forall_mem_cons.mpr ⟨f_ne_1_15, List.forall_mem_cons.mpr ⟨f_ne_2_15, List.forall_mem_cons.mpr ⟨f_ne_3_15, List.forall_mem_cons.mpr ⟨f_ne_4_15, List.forall_mem_cons.mpr ⟨f_ne_5_15, List.forall_mem_cons.mpr ⟨f_ne_6_15, List.forall_mem_cons.mpr ⟨f_ne_7_15, List.forall_mem_cons.mpr ⟨f_ne_8_15, List.forall_mem_cons.mpr ⟨f_ne_9_15, List.forall_mem_cons.mpr ⟨f_ne_10_15, List.forall_mem_cons.mpr ⟨f_ne_11_15, List.forall_mem_cons.mpr ⟨f_ne_12_15, List.forall_mem_cons.mpr ⟨f_ne_13_15, List.forall_mem_cons.mpr ⟨f_ne_14_15, fun _ h => absurd h List.not_mem_nil⟩⟩⟩⟩⟩⟩⟩⟩⟩⟩⟩⟩⟩⟩⟩⟩⟩⟩⟩⟩⟩⟩⟩⟩⟩⟩⟩⟩⟩⟩⟩⟩⟩⟩⟩⟩⟩⟩⟩⟩⟩⟩⟩⟩⟩⟩⟩⟩⟩⟩⟩⟩⟩⟩⟩⟩⟩⟩⟩⟩⟩⟩⟩⟩⟩⟩⟩⟩⟩⟩⟩⟩⟩⟩⟩⟩⟩⟩⟩⟩⟩⟩⟩⟩⟩⟩⟩⟩⟩⟩⟩⟩⟩⟩⟩⟩⟩⟩⟩⟩⟩⟩⟩⟩⟩⟩⟩⟩⟩⟩⟩⟩⟩⟩⟩⟩⟩⟩⟩⟩
theorem f_np : ∀ i, i < 16 → ∀ j, j < 16 → i ≠ j → (16 * i + j) ∈ plL ∨ (16 * j + i) ∈ plL := by decide +kernel
theorem f_ne : ∀ i, i < 16 → ∀ j, j < 16 → i ≠ j → Cond.not (Cond.eq (sTm i) (sTm j)) ∈ fl1 ∨ Cond.not (Cond.eq (sTm j) (sTm i)) ∈ fl1 := fun i hi j hj hne => (f_np i hi j hj hne).elim (fun h => Or.inl (by have := f_nl _ h; rwa [show (16 * i + j) / 16 = i by omega, show (16 * i + j) % 16 = j by omega] at this)) (fun h => Or.inr (by have := f_nl _ h; rwa [show (16 * j + i) / 16 = j by omega, show (16 * j + i) % 16 = i by omega] at this))
