-- HeavierByHand$State.copyOf
def fn_X4_copyOf (t : Nat) (r1 : Nat) (M : Mem) : Option Mem :=
  cm M (r1 + 1) (t + 1) 10 fun M12 => cm M12 (r1 + 2) (t + 2) 20 fun M27 => cm M27 (r1 + 3) (t + 3) 20 fun M42 => cm M42 (r1 + 4) (t + 4) 20 fun M57 => cm M57 (r1 + 5) (t + 5) 20 fun M72 => cm M72 (r1 + 6) (t + 6) 20 fun M87 => cm M87 (r1 + 12) (t + 12) 4 fun M101 => cm M101 (r1 + 13) (t + 13) 4 fun M115 => cv (fn_X5_copyOf (t + 7) (r1 + 7) M115) fun M126 => st M126 t 1 (M126 r1 1) fun M134 => st M134 t 7 (M134 r1 7) fun M142 => st M142 t 8 (M142 r1 8) fun M150 => st M150 t 9 (M150 r1 9) fun M158 => st M158 t 10 (M158 r1 10) fun M166 => st M166 t 11 (M166 r1 11) fun M174 => st M174 t 12 (M174 r1 12) fun M182 => st M182 t 16 (M182 r1 16) fun M190 => some M190
set_option maxRecDepth 100000 in
set_option maxHeartbeats 4000000 in
theorem m_X4_copyOf {E : EE} {l : Launch} {n : Nat} {t : Nat} {r1 : Nat} {M : Mem} {o : Mem} (hn : nfull n) (o_t : ob n t 4) (o_r1 : ob n r1 4) (hf : fn_X4_copyOf t r1 M = some o) : CT E l yX4_copyOf cX4_copyOf 2 none 5 141 0 0 [.ref (eb E + t), .ref (eb E + r1)] n (zf n) M none n (zf n) o := by
  refine CT_of PN_RX4 (Nat.le_of_ble_eq_true rfl) ?_
  intro p e s m args below meth c C hH ls hl
  replace C : Cx E p s m args meth c cX4_copyOf 2 RX4 none n "copyOf" := C
  have hl : lv_has ls 2 [(0, .ref (eb E + t)), (1, .ref (eb E + r1))] := hl
  unfold fn_X4_copyOf at hf
  refine lv_aload_n C.hx C.hb dX4_copyOf_0 rfl (lv_at hl 1 rfl) ?_
  refine g_ref (off := 1) C hH o_r1 (by decide) rfl rfl FL_RX4_9 dX4_copyOf_1 ?_
  refine lv_iconst (v := Int32.ofInt 0) C.hx C.hb dX4_copyOf_4 rfl ?_
  refine lv_aload_n C.hx C.hb dX4_copyOf_5 rfl (lv_at hl 0 rfl) ?_
  refine g_ref (off := 1) C hH o_t (by decide) rfl rfl FL_RX4_9 dX4_copyOf_6 ?_
  refine lv_iconst (v := Int32.ofInt 0) C.hx C.hb dX4_copyOf_9 rfl ?_
  refine lv_bipush (v := Int32.ofInt 10) C.hx C.hb dX4_copyOf_10 (by decide) ?_
  refine r_copy (N := 10) (rest := []) C hH hl (ly (i := 0) (off := 1) (k := 12) hn o_r1 rfl rfl rfl) (ly (i := 0) (off := 1) (k := 12) hn o_t rfl rfl rfl) (lyn (i := 0) (off := 1) (N := 9) hn o_r1 rfl rfl rfl) (lyn (i := 0) (off := 1) (N := 9) hn o_t rfl rfl rfl) (by decide) (by decide) (by decide) hf ML_RX4_50 (Nat.le_of_ble_eq_true rfl) (Nat.le_of_ble_eq_true rfl) dX4_copyOf_12 (fun M12 H locs hf hH => ?_)
  refine lv_aload_n C.hx C.hb dX4_copyOf_15 rfl (lv_at hl 1 rfl) ?_
  refine g_ref (off := 2) C hH o_r1 (by decide) rfl rfl FL_RX4_15 dX4_copyOf_16 ?_
  refine lv_iconst (v := Int32.ofInt 0) C.hx C.hb dX4_copyOf_19 rfl ?_
  refine lv_aload_n C.hx C.hb dX4_copyOf_20 rfl (lv_at hl 0 rfl) ?_
  refine g_ref (off := 2) C hH o_t (by decide) rfl rfl FL_RX4_15 dX4_copyOf_21 ?_
  refine lv_iconst (v := Int32.ofInt 0) C.hx C.hb dX4_copyOf_24 rfl ?_
  refine lv_bipush (v := Int32.ofInt 20) C.hx C.hb dX4_copyOf_25 (by decide) ?_
  refine r_copy (N := 20) (rest := []) C hH hl (ly (i := 2) (off := 2) (k := 12) hn o_r1 rfl rfl rfl) (ly (i := 2) (off := 2) (k := 12) hn o_t rfl rfl rfl) (lyn (i := 2) (off := 2) (N := 19) hn o_r1 rfl rfl rfl) (lyn (i := 2) (off := 2) (N := 19) hn o_t rfl rfl rfl) (by decide) (by decide) (by decide) hf ML_RX4_50 (Nat.le_of_ble_eq_true rfl) (Nat.le_of_ble_eq_true rfl) dX4_copyOf_27 (fun M27 H locs hf hH => ?_)
  refine lv_aload_n C.hx C.hb dX4_copyOf_30 rfl (lv_at hl 1 rfl) ?_
  refine g_ref (off := 3) C hH o_r1 (by decide) rfl rfl FL_RX4_18 dX4_copyOf_31 ?_
  refine lv_iconst (v := Int32.ofInt 0) C.hx C.hb dX4_copyOf_34 rfl ?_
  refine lv_aload_n C.hx C.hb dX4_copyOf_35 rfl (lv_at hl 0 rfl) ?_
  refine g_ref (off := 3) C hH o_t (by decide) rfl rfl FL_RX4_18 dX4_copyOf_36 ?_
  refine lv_iconst (v := Int32.ofInt 0) C.hx C.hb dX4_copyOf_39 rfl ?_
  refine lv_bipush (v := Int32.ofInt 20) C.hx C.hb dX4_copyOf_40 (by decide) ?_
  refine r_copy (N := 20) (rest := []) C hH hl (ly (i := 3) (off := 3) (k := 12) hn o_r1 rfl rfl rfl) (ly (i := 3) (off := 3) (k := 12) hn o_t rfl rfl rfl) (lyn (i := 3) (off := 3) (N := 19) hn o_r1 rfl rfl rfl) (lyn (i := 3) (off := 3) (N := 19) hn o_t rfl rfl rfl) (by decide) (by decide) (by decide) hf ML_RX4_50 (Nat.le_of_ble_eq_true rfl) (Nat.le_of_ble_eq_true rfl) dX4_copyOf_42 (fun M42 H locs hf hH => ?_)
  refine lv_aload_n C.hx C.hb dX4_copyOf_45 rfl (lv_at hl 1 rfl) ?_
  refine g_ref (off := 4) C hH o_r1 (by decide) rfl rfl FL_RX4_21 dX4_copyOf_46 ?_
  refine lv_iconst (v := Int32.ofInt 0) C.hx C.hb dX4_copyOf_49 rfl ?_
  refine lv_aload_n C.hx C.hb dX4_copyOf_50 rfl (lv_at hl 0 rfl) ?_
  refine g_ref (off := 4) C hH o_t (by decide) rfl rfl FL_RX4_21 dX4_copyOf_51 ?_
  refine lv_iconst (v := Int32.ofInt 0) C.hx C.hb dX4_copyOf_54 rfl ?_
  refine lv_bipush (v := Int32.ofInt 20) C.hx C.hb dX4_copyOf_55 (by decide) ?_
  refine r_copy (N := 20) (rest := []) C hH hl (ly (i := 4) (off := 4) (k := 12) hn o_r1 rfl rfl rfl) (ly (i := 4) (off := 4) (k := 12) hn o_t rfl rfl rfl) (lyn (i := 4) (off := 4) (N := 19) hn o_r1 rfl rfl rfl) (lyn (i := 4) (off := 4) (N := 19) hn o_t rfl rfl rfl) (by decide) (by decide) (by decide) hf ML_RX4_50 (Nat.le_of_ble_eq_true rfl) (Nat.le_of_ble_eq_true rfl) dX4_copyOf_57 (fun M57 H locs hf hH => ?_)
  refine lv_aload_n C.hx C.hb dX4_copyOf_60 rfl (lv_at hl 1 rfl) ?_
  refine g_ref (off := 5) C hH o_r1 (by decide) rfl rfl FL_RX4_24 dX4_copyOf_61 ?_
  refine lv_iconst (v := Int32.ofInt 0) C.hx C.hb dX4_copyOf_64 rfl ?_
  refine lv_aload_n C.hx C.hb dX4_copyOf_65 rfl (lv_at hl 0 rfl) ?_
  refine g_ref (off := 5) C hH o_t (by decide) rfl rfl FL_RX4_24 dX4_copyOf_66 ?_
  refine lv_iconst (v := Int32.ofInt 0) C.hx C.hb dX4_copyOf_69 rfl ?_
  refine lv_bipush (v := Int32.ofInt 20) C.hx C.hb dX4_copyOf_70 (by decide) ?_
  refine r_copy (N := 20) (rest := []) C hH hl (ly (i := 5) (off := 5) (k := 12) hn o_r1 rfl rfl rfl) (ly (i := 5) (off := 5) (k := 12) hn o_t rfl rfl rfl) (lyn (i := 5) (off := 5) (N := 19) hn o_r1 rfl rfl rfl) (lyn (i := 5) (off := 5) (N := 19) hn o_t rfl rfl rfl) (by decide) (by decide) (by decide) hf ML_RX4_50 (Nat.le_of_ble_eq_true rfl) (Nat.le_of_ble_eq_true rfl) dX4_copyOf_72 (fun M72 H locs hf hH => ?_)
  refine lv_aload_n C.hx C.hb dX4_copyOf_75 rfl (lv_at hl 1 rfl) ?_
  refine g_ref (off := 6) C hH o_r1 (by decide) rfl rfl FL_RX4_27 dX4_copyOf_76 ?_
  refine lv_iconst (v := Int32.ofInt 0) C.hx C.hb dX4_copyOf_79 rfl ?_
  refine lv_aload_n C.hx C.hb dX4_copyOf_80 rfl (lv_at hl 0 rfl) ?_
  refine g_ref (off := 6) C hH o_t (by decide) rfl rfl FL_RX4_27 dX4_copyOf_81 ?_
  refine lv_iconst (v := Int32.ofInt 0) C.hx C.hb dX4_copyOf_84 rfl ?_
  refine lv_bipush (v := Int32.ofInt 20) C.hx C.hb dX4_copyOf_85 (by decide) ?_
  refine r_copy (N := 20) (rest := []) C hH hl (ly (i := 6) (off := 6) (k := 12) hn o_r1 rfl rfl rfl) (ly (i := 6) (off := 6) (k := 12) hn o_t rfl rfl rfl) (lyn (i := 6) (off := 6) (N := 19) hn o_r1 rfl rfl rfl) (lyn (i := 6) (off := 6) (N := 19) hn o_t rfl rfl rfl) (by decide) (by decide) (by decide) hf ML_RX4_50 (Nat.le_of_ble_eq_true rfl) (Nat.le_of_ble_eq_true rfl) dX4_copyOf_87 (fun M87 H locs hf hH => ?_)
  refine lv_aload_n C.hx C.hb dX4_copyOf_90 rfl (lv_at hl 1 rfl) ?_
  refine g_ref (off := 12) C hH o_r1 (by decide) rfl rfl FL_RX4_44 dX4_copyOf_91 ?_
  refine lv_iconst (v := Int32.ofInt 0) C.hx C.hb dX4_copyOf_94 rfl ?_
  refine lv_aload_n C.hx C.hb dX4_copyOf_95 rfl (lv_at hl 0 rfl) ?_
  refine g_ref (off := 12) C hH o_t (by decide) rfl rfl FL_RX4_44 dX4_copyOf_96 ?_
  refine lv_iconst (v := Int32.ofInt 0) C.hx C.hb dX4_copyOf_99 rfl ?_
  refine lv_iconst (v := Int32.ofInt 4) C.hx C.hb dX4_copyOf_100 rfl ?_
  refine r_copy (N := 4) (rest := []) C hH hl (ly (i := 14) (off := 12) (k := 12) hn o_r1 rfl rfl rfl) (ly (i := 14) (off := 12) (k := 12) hn o_t rfl rfl rfl) (lyn (i := 14) (off := 12) (N := 3) hn o_r1 rfl rfl rfl) (lyn (i := 14) (off := 12) (N := 3) hn o_t rfl rfl rfl) (by decide) (by decide) (by decide) hf ML_RX4_50 (Nat.le_of_ble_eq_true rfl) (Nat.le_of_ble_eq_true rfl) dX4_copyOf_101 (fun M101 H locs hf hH => ?_)
  refine lv_aload_n C.hx C.hb dX4_copyOf_104 rfl (lv_at hl 1 rfl) ?_
  refine g_ref (off := 13) C hH o_r1 (by decide) rfl rfl FL_RX4_47 dX4_copyOf_105 ?_
  refine lv_iconst (v := Int32.ofInt 0) C.hx C.hb dX4_copyOf_108 rfl ?_
  refine lv_aload_n C.hx C.hb dX4_copyOf_109 rfl (lv_at hl 0 rfl) ?_
  refine g_ref (off := 13) C hH o_t (by decide) rfl rfl FL_RX4_47 dX4_copyOf_110 ?_
  refine lv_iconst (v := Int32.ofInt 0) C.hx C.hb dX4_copyOf_113 rfl ?_
  refine lv_iconst (v := Int32.ofInt 4) C.hx C.hb dX4_copyOf_114 rfl ?_
  refine r_copy (N := 4) (rest := []) C hH hl (ly (i := 15) (off := 13) (k := 12) hn o_r1 rfl rfl rfl) (ly (i := 15) (off := 13) (k := 12) hn o_t rfl rfl rfl) (lyn (i := 15) (off := 13) (N := 3) hn o_r1 rfl rfl rfl) (lyn (i := 15) (off := 13) (N := 3) hn o_t rfl rfl rfl) (by decide) (by decide) (by decide) hf ML_RX4_50 (Nat.le_of_ble_eq_true rfl) (Nat.le_of_ble_eq_true rfl) dX4_copyOf_115 (fun M115 H locs hf hH => ?_)
  refine lv_aload_n C.hx C.hb dX4_copyOf_118 rfl (lv_at hl 0 rfl) ?_
  refine g_ref (off := 7) C hH o_t (by decide) rfl rfl FL_RX4_40 dX4_copyOf_119 ?_
  refine lv_aload_n C.hx C.hb dX4_copyOf_122 rfl (lv_at hl 1 rfl) ?_
  refine g_ref (off := 7) C hH o_r1 (by decide) rfl rfl FL_RX4_40 dX4_copyOf_123 ?_
  obtain ⟨M126, hc9, hf⟩ := cv_of hf
  refine r_callVv (rest := []) C hH hl (ly (i := 13) (off := 7) (k := 5) hn o_t rfl rfl rfl) (by decide) rfl (m_X5_copyOf hn (ly (i := 13) (off := 7) (k := 5) hn o_t rfl rfl rfl) (ly (i := 13) (off := 7) (k := 5) hn o_r1 rfl rfl rfl) hc9) ML_RX4_56 MF_X5_copyOf MI_X5_copyOf rfl rfl (Nat.le_of_ble_eq_true rfl) ⟨Nat.le_of_ble_eq_true rfl, Nat.le_of_ble_eq_true rfl⟩ ⟨Nat.le_refl _, Nat.le_refl _⟩ dX4_copyOf_126 (fun H locs hH => ?_)
  refine lv_aload_n C.hx C.hb dX4_copyOf_129 rfl (lv_at hl 0 rfl) ?_
  refine lv_aload_n C.hx C.hb dX4_copyOf_130 rfl (lv_at hl 1 rfl) ?_
  refine g_int C hH o_r1 (by decide) rfl FL_RX4_60 dX4_copyOf_131 ?_
  refine r_put C hH o_t (by decide) rfl FL_RX4_60 FW_4_1 hf dX4_copyOf_134 (fun M134 H locs hf hH => ?_)
  refine lv_aload_n C.hx C.hb dX4_copyOf_137 rfl (lv_at hl 0 rfl) ?_
  refine lv_aload_n C.hx C.hb dX4_copyOf_138 rfl (lv_at hl 1 rfl) ?_
  refine g_int C hH o_r1 (by decide) rfl FL_RX4_63 dX4_copyOf_139 ?_
  refine r_put C hH o_t (by decide) rfl FL_RX4_63 FW_4_7 hf dX4_copyOf_142 (fun M142 H locs hf hH => ?_)
  refine lv_aload_n C.hx C.hb dX4_copyOf_145 rfl (lv_at hl 0 rfl) ?_
  refine lv_aload_n C.hx C.hb dX4_copyOf_146 rfl (lv_at hl 1 rfl) ?_
  refine g_int C hH o_r1 (by decide) rfl FL_RX4_66 dX4_copyOf_147 ?_
  refine r_put C hH o_t (by decide) rfl FL_RX4_66 FW_4_8 hf dX4_copyOf_150 (fun M150 H locs hf hH => ?_)
  refine lv_aload_n C.hx C.hb dX4_copyOf_153 rfl (lv_at hl 0 rfl) ?_
  refine lv_aload_n C.hx C.hb dX4_copyOf_154 rfl (lv_at hl 1 rfl) ?_
  refine g_int C hH o_r1 (by decide) rfl FL_RX4_69 dX4_copyOf_155 ?_
  refine r_put C hH o_t (by decide) rfl FL_RX4_69 FW_4_9 hf dX4_copyOf_158 (fun M158 H locs hf hH => ?_)
  refine lv_aload_n C.hx C.hb dX4_copyOf_161 rfl (lv_at hl 0 rfl) ?_
  refine lv_aload_n C.hx C.hb dX4_copyOf_162 rfl (lv_at hl 1 rfl) ?_
  refine g_int C hH o_r1 (by decide) rfl FL_RX4_30 dX4_copyOf_163 ?_
  refine r_put C hH o_t (by decide) rfl FL_RX4_30 FW_4_10 hf dX4_copyOf_166 (fun M166 H locs hf hH => ?_)
  refine lv_aload_n C.hx C.hb dX4_copyOf_169 rfl (lv_at hl 0 rfl) ?_
  refine lv_aload_n C.hx C.hb dX4_copyOf_170 rfl (lv_at hl 1 rfl) ?_
  refine g_int C hH o_r1 (by decide) rfl FL_RX4_72 dX4_copyOf_171 ?_
  refine r_put C hH o_t (by decide) rfl FL_RX4_72 FW_4_11 hf dX4_copyOf_174 (fun M174 H locs hf hH => ?_)
  refine lv_aload_n C.hx C.hb dX4_copyOf_177 rfl (lv_at hl 0 rfl) ?_
  refine lv_aload_n C.hx C.hb dX4_copyOf_178 rfl (lv_at hl 1 rfl) ?_
  refine g_int C hH o_r1 (by decide) rfl FL_RX4_34 dX4_copyOf_179 ?_
  refine r_put C hH o_t (by decide) rfl FL_RX4_34 FW_4_12 hf dX4_copyOf_182 (fun M182 H locs hf hH => ?_)
  refine lv_aload_n C.hx C.hb dX4_copyOf_185 rfl (lv_at hl 0 rfl) ?_
  refine lv_aload_n C.hx C.hb dX4_copyOf_186 rfl (lv_at hl 1 rfl) ?_
  refine g_int C hH o_r1 (by decide) rfl FL_RX4_75 dX4_copyOf_187 ?_
  refine r_put C hH o_t (by decide) rfl FL_RX4_75 FW_4_16 hf dX4_copyOf_190 (fun M190 H locs hf hH => ?_)
  cases hf
  exact w_vret C hH dX4_copyOf_193
-- HeavierByHand$State.isHand
def fn_X4_isHand_J22 : Option Int :=
  some 0
def fn_X4_isHand (t : Nat) (a1 : Int) (M : Mem) : Option Int :=
  cLt a1 0 (fn_X4_isHand_J22) (cLt a1 (M t 1) (cLt a1 10 (some 1) (fn_X4_isHand_J22)) (fn_X4_isHand_J22))
set_option maxRecDepth 100000 in
set_option maxHeartbeats 4000000 in
theorem j_X4_isHand_22 {p : Program} {l : Launch} {e : Env} {s : State} {m : MethodId} {args : Array Value} {below : List Frame} {meth : Method} {c : Code} {E : EE} {n : Nat} {o : Int} {M : Mem} {H : Heap} {locs : List Loc} {ls : Array Slot} (C : Cx E p s m args meth c cX4_isHand 2 RX4 (some .boolean) n "isHand") (hn : nfull n) (hf : fn_X4_isHand_J22 = some o) (hH : ST E s n (zf n) M H locs) (hl : lv_has ls 2 []) : W p l e { frames := 0, cells := 0, slots := 0, locals := 0 } s m args below meth c H locs 0 0 (MQ below (QC E (some (i3 o)) n (zf n) M) args s 0 0 (fr E)) (F0 m 22 ls []) := by
  unfold fn_X4_isHand_J22 at hf
  refine lv_iconst (v := Int32.ofInt 0) C.hx C.hb dX4_isHand_22 rfl ?_
  cases hf
  exact w_zret C hH (Or.inl rfl) dX4_isHand_23
set_option maxRecDepth 100000 in
set_option maxHeartbeats 4000000 in
theorem m_X4_isHand {E : EE} {l : Launch} {n : Nat} {t : Nat} {a1 : Int} {M : Mem} {o : Int} (hn : nfull n) (o_t : ob n t 4) (hf : fn_X4_isHand t a1 M = some o) : CT E l yX4_isHand cX4_isHand 2 (some .boolean) 0 0 0 0 [.ref (eb E + t), i3 a1] n (zf n) M (some (i3 o)) n (zf n) M := by
  refine CT_of PN_RX4 (Nat.le_of_ble_eq_true rfl) ?_
  intro p e s m args below meth c C hH ls hl
  replace C : Cx E p s m args meth c cX4_isHand 2 RX4 (some .boolean) n "isHand" := C
  have hl : lv_has ls 2 [(0, .ref (eb E + t)), (1, i3 a1)] := hl
  unfold fn_X4_isHand at hf
  refine lv_iload_n C.hx C.hb dX4_isHand_0 rfl (lv_at hl 1 rfl) ?_
  refine w_lt0 (tgt := 22) C hf dX4_isHand_1 (by decide) (fun hf => ?_) (fun hf => ?_)
  · exact j_X4_isHand_22 C hn hf hH (lv_sub hl [] rfl)
  · refine lv_iload_n C.hx C.hb dX4_isHand_4 rfl (lv_at hl 1 rfl) ?_
    refine lv_aload_n C.hx C.hb dX4_isHand_5 rfl (lv_at hl 0 rfl) ?_
    refine g_int C hH o_t (by decide) rfl FL_RX4_60 dX4_isHand_6 ?_
    refine w_ge (tgt := 22) C hf dX4_isHand_9 (by decide) (fun hf => ?_) (fun hf => ?_)
    · exact j_X4_isHand_22 C hn hf hH (lv_sub hl [] rfl)
    · refine lv_iload_n C.hx C.hb dX4_isHand_12 rfl (lv_at hl 1 rfl) ?_
      refine lv_bipush (v := Int32.ofInt 10) C.hx C.hb dX4_isHand_13 (by decide) ?_
      refine w_ge (tgt := 22) C hf dX4_isHand_15 (by decide) (fun hf => ?_) (fun hf => ?_)
      · exact j_X4_isHand_22 C hn hf hH (lv_sub hl [] rfl)
      · refine lv_iconst (v := Int32.ofInt 1) C.hx C.hb dX4_isHand_18 rfl ?_
        refine lv_goto (tgt := 23) C.hx C.hb dX4_isHand_19 (by decide) ?_
        cases hf
        exact w_zret C hH (Or.inr rfl) dX4_isHand_23
-- HeavierByHand$State.isCoin
def fn_X4_isCoin_J22 : Option Int :=
  some 0
def fn_X4_isCoin (t : Nat) (a1 : Int) (M : Mem) : Option Int :=
  cLt a1 0 (fn_X4_isCoin_J22) (cLt a1 (M t 7) (cLt a1 20 (some 1) (fn_X4_isCoin_J22)) (fn_X4_isCoin_J22))
set_option maxRecDepth 100000 in
set_option maxHeartbeats 4000000 in
theorem j_X4_isCoin_22 {p : Program} {l : Launch} {e : Env} {s : State} {m : MethodId} {args : Array Value} {below : List Frame} {meth : Method} {c : Code} {E : EE} {n : Nat} {o : Int} {M : Mem} {H : Heap} {locs : List Loc} {ls : Array Slot} (C : Cx E p s m args meth c cX4_isCoin 2 RX4 (some .boolean) n "isCoin") (hn : nfull n) (hf : fn_X4_isCoin_J22 = some o) (hH : ST E s n (zf n) M H locs) (hl : lv_has ls 2 []) : W p l e { frames := 0, cells := 0, slots := 0, locals := 0 } s m args below meth c H locs 0 0 (MQ below (QC E (some (i3 o)) n (zf n) M) args s 0 0 (fr E)) (F0 m 22 ls []) := by
  unfold fn_X4_isCoin_J22 at hf
  refine lv_iconst (v := Int32.ofInt 0) C.hx C.hb dX4_isCoin_22 rfl ?_
  cases hf
  exact w_zret C hH (Or.inl rfl) dX4_isCoin_23
set_option maxRecDepth 100000 in
set_option maxHeartbeats 4000000 in
theorem m_X4_isCoin {E : EE} {l : Launch} {n : Nat} {t : Nat} {a1 : Int} {M : Mem} {o : Int} (hn : nfull n) (o_t : ob n t 4) (hf : fn_X4_isCoin t a1 M = some o) : CT E l yX4_isCoin cX4_isCoin 2 (some .boolean) 0 0 0 0 [.ref (eb E + t), i3 a1] n (zf n) M (some (i3 o)) n (zf n) M := by
  refine CT_of PN_RX4 (Nat.le_of_ble_eq_true rfl) ?_
  intro p e s m args below meth c C hH ls hl
  replace C : Cx E p s m args meth c cX4_isCoin 2 RX4 (some .boolean) n "isCoin" := C
  have hl : lv_has ls 2 [(0, .ref (eb E + t)), (1, i3 a1)] := hl
  unfold fn_X4_isCoin at hf
  refine lv_iload_n C.hx C.hb dX4_isCoin_0 rfl (lv_at hl 1 rfl) ?_
  refine w_lt0 (tgt := 22) C hf dX4_isCoin_1 (by decide) (fun hf => ?_) (fun hf => ?_)
  · exact j_X4_isCoin_22 C hn hf hH (lv_sub hl [] rfl)
  · refine lv_iload_n C.hx C.hb dX4_isCoin_4 rfl (lv_at hl 1 rfl) ?_
    refine lv_aload_n C.hx C.hb dX4_isCoin_5 rfl (lv_at hl 0 rfl) ?_
    refine g_int C hH o_t (by decide) rfl FL_RX4_63 dX4_isCoin_6 ?_
    refine w_ge (tgt := 22) C hf dX4_isCoin_9 (by decide) (fun hf => ?_) (fun hf => ?_)
    · exact j_X4_isCoin_22 C hn hf hH (lv_sub hl [] rfl)
    · refine lv_iload_n C.hx C.hb dX4_isCoin_12 rfl (lv_at hl 1 rfl) ?_
      refine lv_bipush (v := Int32.ofInt 20) C.hx C.hb dX4_isCoin_13 (by decide) ?_
      refine w_ge (tgt := 22) C hf dX4_isCoin_15 (by decide) (fun hf => ?_) (fun hf => ?_)
      · exact j_X4_isCoin_22 C hn hf hH (lv_sub hl [] rfl)
      · refine lv_iconst (v := Int32.ofInt 1) C.hx C.hb dX4_isCoin_18 rfl ?_
        refine lv_goto (tgt := 23) C.hx C.hb dX4_isCoin_19 (by decide) ?_
        cases hf
        exact w_zret C hH (Or.inr rfl) dX4_isCoin_23
-- HeavierByHand$State.isText
def fn_X4_isText_J21 : Option Int :=
  some 0
def fn_X4_isText (t : Nat) (a1 : Int) (M : Mem) : Option Int :=
  cLt a1 0 (fn_X4_isText_J21) (cLt a1 (M t 11) (cLt a1 4 (some 1) (fn_X4_isText_J21)) (fn_X4_isText_J21))
set_option maxRecDepth 100000 in
set_option maxHeartbeats 4000000 in
theorem j_X4_isText_21 {p : Program} {l : Launch} {e : Env} {s : State} {m : MethodId} {args : Array Value} {below : List Frame} {meth : Method} {c : Code} {E : EE} {n : Nat} {o : Int} {M : Mem} {H : Heap} {locs : List Loc} {ls : Array Slot} (C : Cx E p s m args meth c cX4_isText 2 RX4 (some .boolean) n "isText") (hn : nfull n) (hf : fn_X4_isText_J21 = some o) (hH : ST E s n (zf n) M H locs) (hl : lv_has ls 2 []) : W p l e { frames := 0, cells := 0, slots := 0, locals := 0 } s m args below meth c H locs 0 0 (MQ below (QC E (some (i3 o)) n (zf n) M) args s 0 0 (fr E)) (F0 m 21 ls []) := by
  unfold fn_X4_isText_J21 at hf
  refine lv_iconst (v := Int32.ofInt 0) C.hx C.hb dX4_isText_21 rfl ?_
  cases hf
  exact w_zret C hH (Or.inl rfl) dX4_isText_22
set_option maxRecDepth 100000 in
set_option maxHeartbeats 4000000 in
theorem m_X4_isText {E : EE} {l : Launch} {n : Nat} {t : Nat} {a1 : Int} {M : Mem} {o : Int} (hn : nfull n) (o_t : ob n t 4) (hf : fn_X4_isText t a1 M = some o) : CT E l yX4_isText cX4_isText 2 (some .boolean) 0 0 0 0 [.ref (eb E + t), i3 a1] n (zf n) M (some (i3 o)) n (zf n) M := by
  refine CT_of PN_RX4 (Nat.le_of_ble_eq_true rfl) ?_
  intro p e s m args below meth c C hH ls hl
  replace C : Cx E p s m args meth c cX4_isText 2 RX4 (some .boolean) n "isText" := C
  have hl : lv_has ls 2 [(0, .ref (eb E + t)), (1, i3 a1)] := hl
  unfold fn_X4_isText at hf
  refine lv_iload_n C.hx C.hb dX4_isText_0 rfl (lv_at hl 1 rfl) ?_
  refine w_lt0 (tgt := 21) C hf dX4_isText_1 (by decide) (fun hf => ?_) (fun hf => ?_)
  · exact j_X4_isText_21 C hn hf hH (lv_sub hl [] rfl)
  · refine lv_iload_n C.hx C.hb dX4_isText_4 rfl (lv_at hl 1 rfl) ?_
    refine lv_aload_n C.hx C.hb dX4_isText_5 rfl (lv_at hl 0 rfl) ?_
    refine g_int C hH o_t (by decide) rfl FL_RX4_72 dX4_isText_6 ?_
    refine w_ge (tgt := 21) C hf dX4_isText_9 (by decide) (fun hf => ?_) (fun hf => ?_)
    · exact j_X4_isText_21 C hn hf hH (lv_sub hl [] rfl)
    · refine lv_iload_n C.hx C.hb dX4_isText_12 rfl (lv_at hl 1 rfl) ?_
      refine lv_iconst (v := Int32.ofInt 4) C.hx C.hb dX4_isText_13 rfl ?_
      refine w_ge (tgt := 21) C hf dX4_isText_14 (by decide) (fun hf => ?_) (fun hf => ?_)
      · exact j_X4_isText_21 C hn hf hH (lv_sub hl [] rfl)
      · refine lv_iconst (v := Int32.ofInt 1) C.hx C.hb dX4_isText_17 rfl ?_
        refine lv_goto (tgt := 22) C.hx C.hb dX4_isText_18 (by decide) ?_
        cases hf
        exact w_zret C hH (Or.inr rfl) dX4_isText_22
-- HeavierByHand$State.isMarketDay
def fn_X4_isMarketDay (t : Nat) (M : Mem) : Option Int :=
  ck (R3 (M t 8) ∧ R3 24 ∧ 24 ≠ (0 : Int)) <| ck (R3 ((M t 8).tdiv 24) ∧ R3 7 ∧ 7 ≠ (0 : Int)) <| cEq (((M t 8).tdiv 24).tmod 7) (M t 9) (some 1) (some 0)
set_option maxRecDepth 100000 in
set_option maxHeartbeats 4000000 in
theorem m_X4_isMarketDay {E : EE} {l : Launch} {n : Nat} {t : Nat} {M : Mem} {o : Int} (hn : nfull n) (o_t : ob n t 4) (hf : fn_X4_isMarketDay t M = some o) : CT E l yX4_isMarketDay cX4_isMarketDay 1 (some .boolean) 0 0 0 0 [.ref (eb E + t)] n (zf n) M (some (i3 o)) n (zf n) M := by
  refine CT_of PN_RX4 (Nat.le_of_ble_eq_true rfl) ?_
  intro p e s m args below meth c C hH ls hl
  replace C : Cx E p s m args meth c cX4_isMarketDay 1 RX4 (some .boolean) n "isMarketDay" := C
  have hl : lv_has ls 1 [(0, .ref (eb E + t))] := hl
  unfold fn_X4_isMarketDay at hf
  refine lv_aload_n C.hx C.hb dX4_isMarketDay_0 rfl (lv_at hl 0 rfl) ?_
  refine g_int C hH o_t (by decide) rfl FL_RX4_66 dX4_isMarketDay_1 ?_
  refine lv_bipush (v := Int32.ofInt 24) C.hx C.hb dX4_isMarketDay_4 (by decide) ?_
  obtain ⟨hR8, hf⟩ := ck_of hf
  refine w_idiv C hR8 dX4_isMarketDay_6 ?_
  refine lv_bipush (v := Int32.ofInt 7) C.hx C.hb dX4_isMarketDay_7 (by decide) ?_
  obtain ⟨hR8, hf⟩ := ck_of hf
  refine w_irem C hR8 dX4_isMarketDay_9 ?_
  refine lv_aload_n C.hx C.hb dX4_isMarketDay_10 rfl (lv_at hl 0 rfl) ?_
  refine g_int C hH o_t (by decide) rfl FL_RX4_69 dX4_isMarketDay_11 ?_
  refine w_ne (tgt := 21) C hf dX4_isMarketDay_14 (by decide) (fun hf => ?_) (fun hf => ?_)
  · refine lv_iconst (v := Int32.ofInt 0) C.hx C.hb dX4_isMarketDay_21 rfl ?_
    cases hf
    exact w_zret C hH (Or.inl rfl) dX4_isMarketDay_22
  · refine lv_iconst (v := Int32.ofInt 1) C.hx C.hb dX4_isMarketDay_17 rfl ?_
    refine lv_goto (tgt := 22) C.hx C.hb dX4_isMarketDay_18 (by decide) ?_
    cases hf
    exact w_zret C hH (Or.inr rfl) dX4_isMarketDay_22
-- HeavierByHand$State.canBePaid
def fn_X4_canBePaid_J30 : Option Int :=
  some 0
def fn_X4_canBePaid (t : Nat) (a1 : Int) (a2 : Int) (M : Mem) : Option Int :=
  cu (fn_X4_isCoin t a1 M) fun x2 => cEq x2 0 (fn_X4_canBePaid_J30) (cu (fn_X4_isHand t a2 M) fun x10 => cEq x10 0 (fn_X4_canBePaid_J30) (rd M (t + 4) 20 a1 fun x21 => cEq x21 a2 (fn_X4_canBePaid_J30) (some 1)))
set_option maxRecDepth 100000 in
set_option maxHeartbeats 4000000 in
theorem j_X4_canBePaid_30 {p : Program} {l : Launch} {e : Env} {s : State} {m : MethodId} {args : Array Value} {below : List Frame} {meth : Method} {c : Code} {E : EE} {n : Nat} {o : Int} {M : Mem} {H : Heap} {locs : List Loc} {ls : Array Slot} (C : Cx E p s m args meth c cX4_canBePaid 3 RX4 (some .boolean) n "canBePaid") (hn : nfull n) (hf : fn_X4_canBePaid_J30 = some o) (hH : ST E s n (zf n) M H locs) (hl : lv_has ls 3 []) : W p l e { frames := 1, cells := 0, slots := 0, locals := 21 } s m args below meth c H locs 0 0 (MQ below (QC E (some (i3 o)) n (zf n) M) args s 0 0 (fr E)) (F0 m 30 ls []) := by
  unfold fn_X4_canBePaid_J30 at hf
  refine lv_iconst (v := Int32.ofInt 0) C.hx C.hb dX4_canBePaid_30 rfl ?_
  cases hf
  exact w_zret C hH (Or.inl rfl) dX4_canBePaid_31
set_option maxRecDepth 100000 in
set_option maxHeartbeats 4000000 in
theorem m_X4_canBePaid {E : EE} {l : Launch} {n : Nat} {t : Nat} {a1 : Int} {a2 : Int} {M : Mem} {o : Int} (hn : nfull n) (o_t : ob n t 4) (hf : fn_X4_canBePaid t a1 a2 M = some o) : CT E l yX4_canBePaid cX4_canBePaid 3 (some .boolean) 1 21 0 0 [.ref (eb E + t), i3 a1, i3 a2] n (zf n) M (some (i3 o)) n (zf n) M := by
  refine CT_of PN_RX4 (Nat.le_of_ble_eq_true rfl) ?_
  intro p e s m args below meth c C hH ls hl
  replace C : Cx E p s m args meth c cX4_canBePaid 3 RX4 (some .boolean) n "canBePaid" := C
  have hl : lv_has ls 3 [(0, .ref (eb E + t)), (1, i3 a1), (2, i3 a2)] := hl
  unfold fn_X4_canBePaid at hf
  refine lv_aload_n C.hx C.hb dX4_canBePaid_0 rfl (lv_at hl 0 rfl) ?_
  refine lv_iload_n C.hx C.hb dX4_canBePaid_1 rfl (lv_at hl 1 rfl) ?_
  obtain ⟨x2, hc9, hf⟩ := cu_of hf
  refine r_callVi (rest := []) C hH hl o_t (by decide) rfl (m_X4_isCoin hn o_t hc9) ML_RX4_78 MF_X4_isCoin MI_X4_isCoin rfl rfl (Nat.le_of_ble_eq_true rfl) ⟨Nat.le_of_ble_eq_true rfl, Nat.le_of_ble_eq_true rfl⟩ ⟨Nat.le_refl _, Nat.le_refl _⟩ dX4_canBePaid_2 (fun H locs hH => ?_)
  refine w_eq0 (tgt := 30) C hf dX4_canBePaid_5 (by decide) (fun hf => ?_) (fun hf => ?_)
  · exact j_X4_canBePaid_30 C hn hf hH (lv_sub hl [] rfl)
  · refine lv_aload_n C.hx C.hb dX4_canBePaid_8 rfl (lv_at hl 0 rfl) ?_
    refine lv_iload_n C.hx C.hb dX4_canBePaid_9 rfl (lv_at hl 2 rfl) ?_
    obtain ⟨x10, hc9, hf⟩ := cu_of hf
    refine r_callVi (rest := []) C hH hl o_t (by decide) rfl (m_X4_isHand hn o_t hc9) ML_RX4_82 MF_X4_isHand MI_X4_isHand rfl rfl (Nat.le_of_ble_eq_true rfl) ⟨Nat.le_of_ble_eq_true rfl, Nat.le_of_ble_eq_true rfl⟩ ⟨Nat.le_refl _, Nat.le_refl _⟩ dX4_canBePaid_10 (fun H locs hH => ?_)
    refine w_eq0 (tgt := 30) C hf dX4_canBePaid_13 (by decide) (fun hf => ?_) (fun hf => ?_)
    · exact j_X4_canBePaid_30 C hn hf hH (lv_sub hl [] rfl)
    · refine lv_aload_n C.hx C.hb dX4_canBePaid_16 rfl (lv_at hl 0 rfl) ?_
      refine g_ref (off := 4) C hH o_t (by decide) rfl rfl FL_RX4_21 dX4_canBePaid_17 ?_
      refine lv_iload_n C.hx C.hb dX4_canBePaid_20 rfl (lv_at hl 1 rfl) ?_
      refine r_iald C hH (ly (i := 4) (off := 4) (k := 12) hn o_t rfl rfl rfl) (lyn (i := 4) (off := 4) (N := 19) hn o_t rfl rfl rfl) hf dX4_canBePaid_21 (fun x21 hf => ?_)
      refine lv_iload_n C.hx C.hb dX4_canBePaid_22 rfl (lv_at hl 2 rfl) ?_
      refine w_eq (tgt := 30) C hf dX4_canBePaid_23 (by decide) (fun hf => ?_) (fun hf => ?_)
      · exact j_X4_canBePaid_30 C hn hf hH (lv_sub hl [] rfl)
      · refine lv_iconst (v := Int32.ofInt 1) C.hx C.hb dX4_canBePaid_26 rfl ?_
        refine lv_goto (tgt := 31) C.hx C.hb dX4_canBePaid_27 (by decide) ?_
        cases hf
        exact w_zret C hH (Or.inr rfl) dX4_canBePaid_31
-- HeavierByHand$State.addHand
def fn_X4_addHand (t : Nat) (a1 : Int) (M : Mem) : Option (Int × Mem) :=
  cLt (M t 1) 0 (some ((-1), M)) (cLt (M t 1) 10 (wr M (t + 1) 10 (M t 1) a1 fun M27 => st M27 t 1 ((M27 t 1) + 1) fun M35 => some (((M35 t 1) - 1), M35)) (some ((-1), M)))
set_option maxRecDepth 100000 in
set_option maxHeartbeats 4000000 in
theorem m_X4_addHand {E : EE} {l : Launch} {n : Nat} {t : Nat} {a1 : Int} {M : Mem} {o : (Int × Mem)} (hn : nfull n) (o_t : ob n t 4) (hf : fn_X4_addHand t a1 M = some o) : CT E l yX4_addHand cX4_addHand 2 (some .int) 0 0 0 0 [.ref (eb E + t), i3 a1] n (zf n) M (some (i3 o.1)) n (zf n) o.2 := by
  refine CT_of PN_RX4 (Nat.le_of_ble_eq_true rfl) ?_
  intro p e s m args below meth c C hH ls hl
  replace C : Cx E p s m args meth c cX4_addHand 2 RX4 (some .int) n "addHand" := C
  have hl : lv_has ls 2 [(0, .ref (eb E + t)), (1, i3 a1)] := hl
  unfold fn_X4_addHand at hf
  refine lv_aload_n C.hx C.hb dX4_addHand_0 rfl (lv_at hl 0 rfl) ?_
  refine g_int C hH o_t (by decide) rfl FL_RX4_60 dX4_addHand_1 ?_
  refine w_lt0 (tgt := 16) C hf dX4_addHand_4 (by decide) (fun hf => ?_) (fun hf => ?_)
  · refine lv_iconst (v := Int32.ofInt (-1)) C.hx C.hb dX4_addHand_16 rfl ?_
    cases hf
    exact w_iret C hH dX4_addHand_17
  · refine lv_aload_n C.hx C.hb dX4_addHand_7 rfl (lv_at hl 0 rfl) ?_
    refine g_int C hH o_t (by decide) rfl FL_RX4_60 dX4_addHand_8 ?_
    refine lv_bipush (v := Int32.ofInt 10) C.hx C.hb dX4_addHand_11 (by decide) ?_
    refine w_lt (tgt := 18) C hf dX4_addHand_13 (by decide) (fun hf => ?_) (fun hf => ?_)
    · refine lv_aload_n C.hx C.hb dX4_addHand_18 rfl (lv_at hl 0 rfl) ?_
      refine g_ref (off := 1) C hH o_t (by decide) rfl rfl FL_RX4_9 dX4_addHand_19 ?_
      refine lv_aload_n C.hx C.hb dX4_addHand_22 rfl (lv_at hl 0 rfl) ?_
      refine g_int C hH o_t (by decide) rfl FL_RX4_60 dX4_addHand_23 ?_
      refine lv_iload_n C.hx C.hb dX4_addHand_26 rfl (lv_at hl 1 rfl) ?_
      refine r_iast C hH (ly (i := 0) (off := 1) (k := 12) hn o_t rfl rfl rfl) (lyn (i := 0) (off := 1) (N := 9) hn o_t rfl rfl rfl) hf dX4_addHand_27 (fun M27 H locs hf hH => ?_)
      refine lv_aload_n C.hx C.hb dX4_addHand_28 rfl (lv_at hl 0 rfl) ?_
      refine lv_dup C.hx C.hb dX4_addHand_29 rfl ?_
      refine g_int C hH o_t (by decide) rfl FL_RX4_60 dX4_addHand_30 ?_
      refine lv_iconst (v := Int32.ofInt 1) C.hx C.hb dX4_addHand_33 rfl ?_
      refine w_iadd C dX4_addHand_34 ?_
      refine r_put C hH o_t (by decide) rfl FL_RX4_60 FW_4_1 hf dX4_addHand_35 (fun M35 H locs hf hH => ?_)
      refine lv_aload_n C.hx C.hb dX4_addHand_38 rfl (lv_at hl 0 rfl) ?_
      refine g_int C hH o_t (by decide) rfl FL_RX4_60 dX4_addHand_39 ?_
      refine lv_iconst (v := Int32.ofInt 1) C.hx C.hb dX4_addHand_42 rfl ?_
      refine w_isub C dX4_addHand_43 ?_
      cases hf
      exact w_iret C hH dX4_addHand_44
    · refine lv_iconst (v := Int32.ofInt (-1)) C.hx C.hb dX4_addHand_16 rfl ?_
      cases hf
      exact w_iret C hH dX4_addHand_17
-- HeavierByHand$State.addCoin
def fn_X4_addCoin (t : Nat) (a1 : Int) (a2 : Int) (M : Mem) : Option (Int × Mem) :=
  nm ((M t 7)) fun v3_4 => cLt v3_4 0 (some ((-1), M)) (cLt v3_4 20 (wr M (t + 2) 20 v3_4 a1 fun M23 => wr M23 (t + 3) 20 v3_4 a1 fun M30 => wr M30 (t + 4) 20 v3_4 a2 fun M37 => wr M37 (t + 5) 20 v3_4 0 fun M44 => wr M44 (t + 6) 20 v3_4 (-1) fun M51 => st M51 t 7 ((M51 t 7) + 1) fun M59 => some (v3_4, M59)) (some ((-1), M)))
set_option maxRecDepth 100000 in
set_option maxHeartbeats 4000000 in
theorem m_X4_addCoin {E : EE} {l : Launch} {n : Nat} {t : Nat} {a1 : Int} {a2 : Int} {M : Mem} {o : (Int × Mem)} (hn : nfull n) (o_t : ob n t 4) (hf : fn_X4_addCoin t a1 a2 M = some o) : CT E l yX4_addCoin cX4_addCoin 4 (some .int) 0 0 0 0 [.ref (eb E + t), i3 a1, i3 a2] n (zf n) M (some (i3 o.1)) n (zf n) o.2 := by
  refine CT_of PN_RX4 (Nat.le_of_ble_eq_true rfl) ?_
  intro p e s m args below meth c C hH ls hl
  replace C : Cx E p s m args meth c cX4_addCoin 4 RX4 (some .int) n "addCoin" := C
  have hl : lv_has ls 4 [(0, .ref (eb E + t)), (1, i3 a1), (2, i3 a2)] := hl
  unfold fn_X4_addCoin at hf
  refine lv_aload_n C.hx C.hb dX4_addCoin_0 rfl (lv_at hl 0 rfl) ?_
  refine g_int C hH o_t (by decide) rfl FL_RX4_63 dX4_addCoin_1 ?_
  refine r_nm hf (fun v3_4 hf => ?_)
  refine lv_istore_n (lv' := [(3, i3 v3_4), (0, .ref (eb E + t)), (1, i3 a1), (2, i3 a2)]) C.hx C.hb dX4_addCoin_4 rfl hl (by decide) rfl (fun ls hl => ?_)
  refine lv_iload_n C.hx C.hb dX4_addCoin_5 rfl (lv_at hl 0 rfl) ?_
  refine w_lt0 (tgt := 15) C hf dX4_addCoin_6 (by decide) (fun hf => ?_) (fun hf => ?_)
  · refine lv_iconst (v := Int32.ofInt (-1)) C.hx C.hb dX4_addCoin_15 rfl ?_
    cases hf
    exact w_iret C hH dX4_addCoin_16
  · refine lv_iload_n C.hx C.hb dX4_addCoin_9 rfl (lv_at hl 0 rfl) ?_
    refine lv_bipush (v := Int32.ofInt 20) C.hx C.hb dX4_addCoin_10 (by decide) ?_
    refine w_lt (tgt := 17) C hf dX4_addCoin_12 (by decide) (fun hf => ?_) (fun hf => ?_)
    · refine lv_aload_n C.hx C.hb dX4_addCoin_17 rfl (lv_at hl 1 rfl) ?_
      refine g_ref (off := 2) C hH o_t (by decide) rfl rfl FL_RX4_15 dX4_addCoin_18 ?_
      refine lv_iload_n C.hx C.hb dX4_addCoin_21 rfl (lv_at hl 0 rfl) ?_
      refine lv_iload_n C.hx C.hb dX4_addCoin_22 rfl (lv_at hl 2 rfl) ?_
      refine r_iast C hH (ly (i := 2) (off := 2) (k := 12) hn o_t rfl rfl rfl) (lyn (i := 2) (off := 2) (N := 19) hn o_t rfl rfl rfl) hf dX4_addCoin_23 (fun M23 H locs hf hH => ?_)
      refine lv_aload_n C.hx C.hb dX4_addCoin_24 rfl (lv_at hl 1 rfl) ?_
      refine g_ref (off := 3) C hH o_t (by decide) rfl rfl FL_RX4_18 dX4_addCoin_25 ?_
      refine lv_iload_n C.hx C.hb dX4_addCoin_28 rfl (lv_at hl 0 rfl) ?_
      refine lv_iload_n C.hx C.hb dX4_addCoin_29 rfl (lv_at hl 2 rfl) ?_
      refine r_iast C hH (ly (i := 3) (off := 3) (k := 12) hn o_t rfl rfl rfl) (lyn (i := 3) (off := 3) (N := 19) hn o_t rfl rfl rfl) hf dX4_addCoin_30 (fun M30 H locs hf hH => ?_)
      refine lv_aload_n C.hx C.hb dX4_addCoin_31 rfl (lv_at hl 1 rfl) ?_
      refine g_ref (off := 4) C hH o_t (by decide) rfl rfl FL_RX4_21 dX4_addCoin_32 ?_
      refine lv_iload_n C.hx C.hb dX4_addCoin_35 rfl (lv_at hl 0 rfl) ?_
      refine lv_iload_n C.hx C.hb dX4_addCoin_36 rfl (lv_at hl 3 rfl) ?_
      refine r_iast C hH (ly (i := 4) (off := 4) (k := 12) hn o_t rfl rfl rfl) (lyn (i := 4) (off := 4) (N := 19) hn o_t rfl rfl rfl) hf dX4_addCoin_37 (fun M37 H locs hf hH => ?_)
      refine lv_aload_n C.hx C.hb dX4_addCoin_38 rfl (lv_at hl 1 rfl) ?_
      refine g_ref (off := 5) C hH o_t (by decide) rfl rfl FL_RX4_24 dX4_addCoin_39 ?_
      refine lv_iload_n C.hx C.hb dX4_addCoin_42 rfl (lv_at hl 0 rfl) ?_
      refine lv_iconst (v := Int32.ofInt 0) C.hx C.hb dX4_addCoin_43 rfl ?_
      refine r_iast C hH (ly (i := 5) (off := 5) (k := 12) hn o_t rfl rfl rfl) (lyn (i := 5) (off := 5) (N := 19) hn o_t rfl rfl rfl) hf dX4_addCoin_44 (fun M44 H locs hf hH => ?_)
      refine lv_aload_n C.hx C.hb dX4_addCoin_45 rfl (lv_at hl 1 rfl) ?_
      refine g_ref (off := 6) C hH o_t (by decide) rfl rfl FL_RX4_27 dX4_addCoin_46 ?_
      refine lv_iload_n C.hx C.hb dX4_addCoin_49 rfl (lv_at hl 0 rfl) ?_
      refine lv_iconst (v := Int32.ofInt (-1)) C.hx C.hb dX4_addCoin_50 rfl ?_
      refine r_iast C hH (ly (i := 6) (off := 6) (k := 12) hn o_t rfl rfl rfl) (lyn (i := 6) (off := 6) (N := 19) hn o_t rfl rfl rfl) hf dX4_addCoin_51 (fun M51 H locs hf hH => ?_)
      refine lv_aload_n C.hx C.hb dX4_addCoin_52 rfl (lv_at hl 1 rfl) ?_
      refine lv_dup C.hx C.hb dX4_addCoin_53 rfl ?_
      refine g_int C hH o_t (by decide) rfl FL_RX4_63 dX4_addCoin_54 ?_
      refine lv_iconst (v := Int32.ofInt 1) C.hx C.hb dX4_addCoin_57 rfl ?_
      refine w_iadd C dX4_addCoin_58 ?_
      refine r_put C hH o_t (by decide) rfl FL_RX4_63 FW_4_7 hf dX4_addCoin_59 (fun M59 H locs hf hH => ?_)
      refine lv_iload_n C.hx C.hb dX4_addCoin_62 rfl (lv_at hl 0 rfl) ?_
      cases hf
      exact w_iret C hH dX4_addCoin_63
    · refine lv_iconst (v := Int32.ofInt (-1)) C.hx C.hb dX4_addCoin_15 rfl ?_
      cases hf
      exact w_iret C hH dX4_addCoin_16
-- HeavierByHand$State.addGain
def fn_X4_addGain (t : Nat) (a1 : Int) (a2 : Int) (M : Mem) : Option (Int × Mem) :=
  cLt (M t 16) 0 (some ((-1), M)) (cLt (M t 16) 4 (wr M (t + 12) 4 (M t 16) a1 fun M26 => wr M26 (t + 13) 4 (M26 t 16) a2 fun M36 => st M36 t 16 ((M36 t 16) + 1) fun M44 => some ((M44 t 16), M44)) (some ((-1), M)))
set_option maxRecDepth 100000 in
set_option maxHeartbeats 4000000 in
theorem m_X4_addGain {E : EE} {l : Launch} {n : Nat} {t : Nat} {a1 : Int} {a2 : Int} {M : Mem} {o : (Int × Mem)} (hn : nfull n) (o_t : ob n t 4) (hf : fn_X4_addGain t a1 a2 M = some o) : CT E l yX4_addGain cX4_addGain 3 (some .int) 0 0 0 0 [.ref (eb E + t), i3 a1, i3 a2] n (zf n) M (some (i3 o.1)) n (zf n) o.2 := by
  refine CT_of PN_RX4 (Nat.le_of_ble_eq_true rfl) ?_
  intro p e s m args below meth c C hH ls hl
  replace C : Cx E p s m args meth c cX4_addGain 3 RX4 (some .int) n "addGain" := C
  have hl : lv_has ls 3 [(0, .ref (eb E + t)), (1, i3 a1), (2, i3 a2)] := hl
  unfold fn_X4_addGain at hf
  refine lv_aload_n C.hx C.hb dX4_addGain_0 rfl (lv_at hl 0 rfl) ?_
  refine g_int C hH o_t (by decide) rfl FL_RX4_75 dX4_addGain_1 ?_
  refine w_lt0 (tgt := 15) C hf dX4_addGain_4 (by decide) (fun hf => ?_) (fun hf => ?_)
  · refine lv_iconst (v := Int32.ofInt (-1)) C.hx C.hb dX4_addGain_15 rfl ?_
    cases hf
    exact w_iret C hH dX4_addGain_16
  · refine lv_aload_n C.hx C.hb dX4_addGain_7 rfl (lv_at hl 0 rfl) ?_
    refine g_int C hH o_t (by decide) rfl FL_RX4_75 dX4_addGain_8 ?_
    refine lv_iconst (v := Int32.ofInt 4) C.hx C.hb dX4_addGain_11 rfl ?_
    refine w_lt (tgt := 17) C hf dX4_addGain_12 (by decide) (fun hf => ?_) (fun hf => ?_)
    · refine lv_aload_n C.hx C.hb dX4_addGain_17 rfl (lv_at hl 0 rfl) ?_
      refine g_ref (off := 12) C hH o_t (by decide) rfl rfl FL_RX4_44 dX4_addGain_18 ?_
      refine lv_aload_n C.hx C.hb dX4_addGain_21 rfl (lv_at hl 0 rfl) ?_
      refine g_int C hH o_t (by decide) rfl FL_RX4_75 dX4_addGain_22 ?_
      refine lv_iload_n C.hx C.hb dX4_addGain_25 rfl (lv_at hl 1 rfl) ?_
      refine r_iast C hH (ly (i := 14) (off := 12) (k := 12) hn o_t rfl rfl rfl) (lyn (i := 14) (off := 12) (N := 3) hn o_t rfl rfl rfl) hf dX4_addGain_26 (fun M26 H locs hf hH => ?_)
      refine lv_aload_n C.hx C.hb dX4_addGain_27 rfl (lv_at hl 0 rfl) ?_
      refine g_ref (off := 13) C hH o_t (by decide) rfl rfl FL_RX4_47 dX4_addGain_28 ?_
      refine lv_aload_n C.hx C.hb dX4_addGain_31 rfl (lv_at hl 0 rfl) ?_
      refine g_int C hH o_t (by decide) rfl FL_RX4_75 dX4_addGain_32 ?_
      refine lv_iload_n C.hx C.hb dX4_addGain_35 rfl (lv_at hl 2 rfl) ?_
      refine r_iast C hH (ly (i := 15) (off := 13) (k := 12) hn o_t rfl rfl rfl) (lyn (i := 15) (off := 13) (N := 3) hn o_t rfl rfl rfl) hf dX4_addGain_36 (fun M36 H locs hf hH => ?_)
      refine lv_aload_n C.hx C.hb dX4_addGain_37 rfl (lv_at hl 0 rfl) ?_
      refine lv_dup C.hx C.hb dX4_addGain_38 rfl ?_
      refine g_int C hH o_t (by decide) rfl FL_RX4_75 dX4_addGain_39 ?_
      refine lv_iconst (v := Int32.ofInt 1) C.hx C.hb dX4_addGain_42 rfl ?_
      refine w_iadd C dX4_addGain_43 ?_
      refine r_put C hH o_t (by decide) rfl FL_RX4_75 FW_4_16 hf dX4_addGain_44 (fun M44 H locs hf hH => ?_)
      refine lv_aload_n C.hx C.hb dX4_addGain_47 rfl (lv_at hl 0 rfl) ?_
      refine g_int C hH o_t (by decide) rfl FL_RX4_75 dX4_addGain_48 ?_
      cases hf
      exact w_iret C hH dX4_addGain_51
    · refine lv_iconst (v := Int32.ofInt (-1)) C.hx C.hb dX4_addGain_15 rfl ?_
      cases hf
      exact w_iret C hH dX4_addGain_16
-- HeavierByHand$State.letPass
def fn_X4_letPass (t : Nat) (a1 : Int) (M : Mem) : Option (Int × Mem) :=
  cu (fn_X10_isWithin a1 0 99 M) fun x4 => cEq x4 0 (some (0, M)) (cLt 999 ((M t 8) + a1) (some (0, M)) (st M t 8 ((M t 8) + a1) fun M31 => some (1, M31)))
set_option maxRecDepth 100000 in
set_option maxHeartbeats 4000000 in
theorem m_X4_letPass {E : EE} {l : Launch} {n : Nat} {t : Nat} {a1 : Int} {M : Mem} {o : (Int × Mem)} (hn : nfull n) (o_t : ob n t 4) (hf : fn_X4_letPass t a1 M = some o) : CT E l yX4_letPass cX4_letPass 2 (some .boolean) 1 22 0 0 [.ref (eb E + t), i3 a1] n (zf n) M (some (i3 o.1)) n (zf n) o.2 := by
  refine CT_of PN_RX4 (Nat.le_of_ble_eq_true rfl) ?_
  intro p e s m args below meth c C hH ls hl
  replace C : Cx E p s m args meth c cX4_letPass 2 RX4 (some .boolean) n "letPass" := C
  have hl : lv_has ls 2 [(0, .ref (eb E + t)), (1, i3 a1)] := hl
  unfold fn_X4_letPass at hf
  refine lv_iload_n C.hx C.hb dX4_letPass_0 rfl (lv_at hl 1 rfl) ?_
  refine lv_iconst (v := Int32.ofInt 0) C.hx C.hb dX4_letPass_1 rfl ?_
  refine lv_bipush (v := Int32.ofInt 99) C.hx C.hb dX4_letPass_2 (by decide) ?_
  obtain ⟨x4, hc9, hf⟩ := cu_of hf
  refine r_callSNi (rest := []) C hH hl (m_X10_isWithin hn hc9) MN_RX4_85 MF_X10_isWithin MS_X10_isWithin rfl rfl (Nat.le_of_ble_eq_true rfl) ⟨Nat.le_of_ble_eq_true rfl, Nat.le_of_ble_eq_true rfl⟩ ⟨Nat.le_refl _, Nat.le_refl _⟩ dX4_letPass_4 (fun H locs hH => ?_)
  refine w_eq0 (tgt := 22) C hf dX4_letPass_7 (by decide) (fun hf => ?_) (fun hf => ?_)
  · refine lv_iconst (v := Int32.ofInt 0) C.hx C.hb dX4_letPass_22 rfl ?_
    cases hf
    exact w_zret C hH (Or.inl rfl) dX4_letPass_23
  · refine lv_aload_n C.hx C.hb dX4_letPass_10 rfl (lv_at hl 0 rfl) ?_
    refine g_int C hH o_t (by decide) rfl FL_RX4_66 dX4_letPass_11 ?_
    refine lv_iload_n C.hx C.hb dX4_letPass_14 rfl (lv_at hl 1 rfl) ?_
    refine w_iadd C dX4_letPass_15 ?_
    refine lv_sipush (v := Int32.ofInt 999) C.hx C.hb dX4_letPass_16 (by decide) ?_
    refine w_le (tgt := 24) C hf dX4_letPass_19 (by decide) (fun hf => ?_) (fun hf => ?_)
    · refine lv_aload_n C.hx C.hb dX4_letPass_24 rfl (lv_at hl 0 rfl) ?_
      refine lv_dup C.hx C.hb dX4_letPass_25 rfl ?_
      refine g_int C hH o_t (by decide) rfl FL_RX4_66 dX4_letPass_26 ?_
      refine lv_iload_n C.hx C.hb dX4_letPass_29 rfl (lv_at hl 1 rfl) ?_
      refine w_iadd C dX4_letPass_30 ?_
      refine r_put C hH o_t (by decide) rfl FL_RX4_66 FW_4_8 hf dX4_letPass_31 (fun M31 H locs hf hH => ?_)
      refine lv_iconst (v := Int32.ofInt 1) C.hx C.hb dX4_letPass_34 rfl ?_
      cases hf
      exact w_zret C hH (Or.inr rfl) dX4_letPass_35
    · refine lv_iconst (v := Int32.ofInt 0) C.hx C.hb dX4_letPass_22 rfl ?_
      cases hf
      exact w_zret C hH (Or.inl rfl) dX4_letPass_23
-- HeavierByHand$State.moveCoin
def fn_X4_moveCoin (t : Nat) (a1 : Int) (a2 : Int) (a3 : Int) (M : Mem) : Option (Int × Mem) :=
  cu (fn_X4_isCoin t a1 M) fun x2 => cEq x2 0 (some ((-1), M)) (rd M (t + 3) 20 a1 fun x20 => rd M (t + 4) 20 a1 fun x26 => rd M (t + 5) 20 a1 fun x32 => cv (fn_X5_push (t + 7) a1 x20 x26 x32 M) fun M33 => wr M33 (t + 4) 20 a1 a2 fun M42 => rd M42 (t + 5) 20 a1 fun x49 => wr M42 (t + 5) 20 a1 (x49 + 1) fun M52 => rd M52 (t + 3) 20 a1 fun x59 => wr M52 (t + 3) 20 a1 (x59 + a3) fun M62 => rd M62 (t + 3) 20 a1 fun x68 => some (x68, M62))
set_option maxRecDepth 100000 in
set_option maxHeartbeats 4000000 in
theorem m_X4_moveCoin {E : EE} {l : Launch} {n : Nat} {t : Nat} {a1 : Int} {a2 : Int} {a3 : Int} {M : Mem} {o : (Int × Mem)} (hn : nfull n) (o_t : ob n t 4) (hf : fn_X4_moveCoin t a1 a2 a3 M = some o) : CT E l yX4_moveCoin cX4_moveCoin 4 (some .int) 5 144 0 0 [.ref (eb E + t), i3 a1, i3 a2, i3 a3] n (zf n) M (some (i3 o.1)) n (zf n) o.2 := by
  refine CT_of PN_RX4 (Nat.le_of_ble_eq_true rfl) ?_
  intro p e s m args below meth c C hH ls hl
  replace C : Cx E p s m args meth c cX4_moveCoin 4 RX4 (some .int) n "moveCoin" := C
  have hl : lv_has ls 4 [(0, .ref (eb E + t)), (1, i3 a1), (2, i3 a2), (3, i3 a3)] := hl
  unfold fn_X4_moveCoin at hf
  refine lv_aload_n C.hx C.hb dX4_moveCoin_0 rfl (lv_at hl 0 rfl) ?_
  refine lv_iload_n C.hx C.hb dX4_moveCoin_1 rfl (lv_at hl 1 rfl) ?_
  obtain ⟨x2, hc9, hf⟩ := cu_of hf
  refine r_callVi (rest := []) C hH hl o_t (by decide) rfl (m_X4_isCoin hn o_t hc9) ML_RX4_78 MF_X4_isCoin MI_X4_isCoin rfl rfl (Nat.le_of_ble_eq_true rfl) ⟨Nat.le_of_ble_eq_true rfl, Nat.le_of_ble_eq_true rfl⟩ ⟨Nat.le_refl _, Nat.le_refl _⟩ dX4_moveCoin_2 (fun H locs hH => ?_)
  refine w_ne0 (tgt := 10) C hf dX4_moveCoin_5 (by decide) (fun hf => ?_) (fun hf => ?_)
  · refine lv_aload_n C.hx C.hb dX4_moveCoin_10 rfl (lv_at hl 0 rfl) ?_
    refine g_ref (off := 7) C hH o_t (by decide) rfl rfl FL_RX4_40 dX4_moveCoin_11 ?_
    refine lv_iload_n C.hx C.hb dX4_moveCoin_14 rfl (lv_at hl 1 rfl) ?_
    refine lv_aload_n C.hx C.hb dX4_moveCoin_15 rfl (lv_at hl 0 rfl) ?_
    refine g_ref (off := 3) C hH o_t (by decide) rfl rfl FL_RX4_18 dX4_moveCoin_16 ?_
    refine lv_iload_n C.hx C.hb dX4_moveCoin_19 rfl (lv_at hl 1 rfl) ?_
    refine r_iald C hH (ly (i := 3) (off := 3) (k := 12) hn o_t rfl rfl rfl) (lyn (i := 3) (off := 3) (N := 19) hn o_t rfl rfl rfl) hf dX4_moveCoin_20 (fun x20 hf => ?_)
    refine lv_aload_n C.hx C.hb dX4_moveCoin_21 rfl (lv_at hl 0 rfl) ?_
    refine g_ref (off := 4) C hH o_t (by decide) rfl rfl FL_RX4_21 dX4_moveCoin_22 ?_
    refine lv_iload_n C.hx C.hb dX4_moveCoin_25 rfl (lv_at hl 1 rfl) ?_
    refine r_iald C hH (ly (i := 4) (off := 4) (k := 12) hn o_t rfl rfl rfl) (lyn (i := 4) (off := 4) (N := 19) hn o_t rfl rfl rfl) hf dX4_moveCoin_26 (fun x26 hf => ?_)
    refine lv_aload_n C.hx C.hb dX4_moveCoin_27 rfl (lv_at hl 0 rfl) ?_
    refine g_ref (off := 5) C hH o_t (by decide) rfl rfl FL_RX4_24 dX4_moveCoin_28 ?_
    refine lv_iload_n C.hx C.hb dX4_moveCoin_31 rfl (lv_at hl 1 rfl) ?_
    refine r_iald C hH (ly (i := 5) (off := 5) (k := 12) hn o_t rfl rfl rfl) (lyn (i := 5) (off := 5) (N := 19) hn o_t rfl rfl rfl) hf dX4_moveCoin_32 (fun x32 hf => ?_)
    obtain ⟨M33, hc9, hf⟩ := cv_of hf
    refine r_callVv (rest := []) C hH hl (ly (i := 13) (off := 7) (k := 5) hn o_t rfl rfl rfl) (by decide) rfl (m_X5_push hn (ly (i := 13) (off := 7) (k := 5) hn o_t rfl rfl rfl) hc9) ML_RX4_89 MF_X5_push MI_X5_push rfl rfl (Nat.le_of_ble_eq_true rfl) ⟨Nat.le_of_ble_eq_true rfl, Nat.le_of_ble_eq_true rfl⟩ ⟨Nat.le_refl _, Nat.le_refl _⟩ dX4_moveCoin_33 (fun H locs hH => ?_)
    refine lv_aload_n C.hx C.hb dX4_moveCoin_36 rfl (lv_at hl 0 rfl) ?_
    refine g_ref (off := 4) C hH o_t (by decide) rfl rfl FL_RX4_21 dX4_moveCoin_37 ?_
    refine lv_iload_n C.hx C.hb dX4_moveCoin_40 rfl (lv_at hl 1 rfl) ?_
    refine lv_iload_n C.hx C.hb dX4_moveCoin_41 rfl (lv_at hl 2 rfl) ?_
    refine r_iast C hH (ly (i := 4) (off := 4) (k := 12) hn o_t rfl rfl rfl) (lyn (i := 4) (off := 4) (N := 19) hn o_t rfl rfl rfl) hf dX4_moveCoin_42 (fun M42 H locs hf hH => ?_)
    refine lv_aload_n C.hx C.hb dX4_moveCoin_43 rfl (lv_at hl 0 rfl) ?_
    refine g_ref (off := 5) C hH o_t (by decide) rfl rfl FL_RX4_24 dX4_moveCoin_44 ?_
    refine lv_iload_n C.hx C.hb dX4_moveCoin_47 rfl (lv_at hl 1 rfl) ?_
    refine lv_dup2_11 C.hx C.hb dX4_moveCoin_48 rfl rfl ?_
    refine r_iald C hH (ly (i := 5) (off := 5) (k := 12) hn o_t rfl rfl rfl) (lyn (i := 5) (off := 5) (N := 19) hn o_t rfl rfl rfl) hf dX4_moveCoin_49 (fun x49 hf => ?_)
    refine lv_iconst (v := Int32.ofInt 1) C.hx C.hb dX4_moveCoin_50 rfl ?_
    refine w_iadd C dX4_moveCoin_51 ?_
    refine r_iast C hH (ly (i := 5) (off := 5) (k := 12) hn o_t rfl rfl rfl) (lyn (i := 5) (off := 5) (N := 19) hn o_t rfl rfl rfl) hf dX4_moveCoin_52 (fun M52 H locs hf hH => ?_)
    refine lv_aload_n C.hx C.hb dX4_moveCoin_53 rfl (lv_at hl 0 rfl) ?_
    refine g_ref (off := 3) C hH o_t (by decide) rfl rfl FL_RX4_18 dX4_moveCoin_54 ?_
    refine lv_iload_n C.hx C.hb dX4_moveCoin_57 rfl (lv_at hl 1 rfl) ?_
    refine lv_dup2_11 C.hx C.hb dX4_moveCoin_58 rfl rfl ?_
    refine r_iald C hH (ly (i := 3) (off := 3) (k := 12) hn o_t rfl rfl rfl) (lyn (i := 3) (off := 3) (N := 19) hn o_t rfl rfl rfl) hf dX4_moveCoin_59 (fun x59 hf => ?_)
    refine lv_iload_n C.hx C.hb dX4_moveCoin_60 rfl (lv_at hl 3 rfl) ?_
    refine w_iadd C dX4_moveCoin_61 ?_
    refine r_iast C hH (ly (i := 3) (off := 3) (k := 12) hn o_t rfl rfl rfl) (lyn (i := 3) (off := 3) (N := 19) hn o_t rfl rfl rfl) hf dX4_moveCoin_62 (fun M62 H locs hf hH => ?_)
    refine lv_aload_n C.hx C.hb dX4_moveCoin_63 rfl (lv_at hl 0 rfl) ?_
    refine g_ref (off := 3) C hH o_t (by decide) rfl rfl FL_RX4_18 dX4_moveCoin_64 ?_
    refine lv_iload_n C.hx C.hb dX4_moveCoin_67 rfl (lv_at hl 1 rfl) ?_
    refine r_iald C hH (ly (i := 3) (off := 3) (k := 12) hn o_t rfl rfl rfl) (lyn (i := 3) (off := 3) (N := 19) hn o_t rfl rfl rfl) hf dX4_moveCoin_68 (fun x68 hf => ?_)
    cases hf
    exact w_iret C hH dX4_moveCoin_69
  · refine lv_iconst (v := Int32.ofInt (-1)) C.hx C.hb dX4_moveCoin_8 rfl ?_
    cases hf
    exact w_iret C hH dX4_moveCoin_9
-- HeavierByHand$State.cleanCoin
def fn_X4_cleanCoin (t : Nat) (a1 : Int) (M : Mem) : Option (Int × Mem) :=
  cu (fn_X4_isCoin t a1 M) fun x2 => cEq x2 0 (some ((-1), M)) (rd M (t + 3) 20 a1 fun x20 => rd M (t + 4) 20 a1 fun x26 => rd M (t + 5) 20 a1 fun x32 => cv (fn_X5_push (t + 7) a1 x20 x26 x32 M) fun M33 => rd M33 (t + 3) 20 a1 fun x41 => rd M33 (t + 2) 20 a1 fun x47 => nm ((x41 - x47)) fun v2_49 => rd M33 (t + 2) 20 a1 fun x60 => wr M33 (t + 3) 20 a1 x60 fun M61 => some (v2_49, M61))
set_option maxRecDepth 100000 in
set_option maxHeartbeats 4000000 in
theorem m_X4_cleanCoin {E : EE} {l : Launch} {n : Nat} {t : Nat} {a1 : Int} {M : Mem} {o : (Int × Mem)} (hn : nfull n) (o_t : ob n t 4) (hf : fn_X4_cleanCoin t a1 M = some o) : CT E l yX4_cleanCoin cX4_cleanCoin 3 (some .int) 5 144 0 0 [.ref (eb E + t), i3 a1] n (zf n) M (some (i3 o.1)) n (zf n) o.2 := by
  refine CT_of PN_RX4 (Nat.le_of_ble_eq_true rfl) ?_
  intro p e s m args below meth c C hH ls hl
  replace C : Cx E p s m args meth c cX4_cleanCoin 3 RX4 (some .int) n "cleanCoin" := C
  have hl : lv_has ls 3 [(0, .ref (eb E + t)), (1, i3 a1)] := hl
  unfold fn_X4_cleanCoin at hf
  refine lv_aload_n C.hx C.hb dX4_cleanCoin_0 rfl (lv_at hl 0 rfl) ?_
  refine lv_iload_n C.hx C.hb dX4_cleanCoin_1 rfl (lv_at hl 1 rfl) ?_
  obtain ⟨x2, hc9, hf⟩ := cu_of hf
  refine r_callVi (rest := []) C hH hl o_t (by decide) rfl (m_X4_isCoin hn o_t hc9) ML_RX4_78 MF_X4_isCoin MI_X4_isCoin rfl rfl (Nat.le_of_ble_eq_true rfl) ⟨Nat.le_of_ble_eq_true rfl, Nat.le_of_ble_eq_true rfl⟩ ⟨Nat.le_refl _, Nat.le_refl _⟩ dX4_cleanCoin_2 (fun H locs hH => ?_)
  refine w_ne0 (tgt := 10) C hf dX4_cleanCoin_5 (by decide) (fun hf => ?_) (fun hf => ?_)
  · refine lv_aload_n C.hx C.hb dX4_cleanCoin_10 rfl (lv_at hl 0 rfl) ?_
    refine g_ref (off := 7) C hH o_t (by decide) rfl rfl FL_RX4_40 dX4_cleanCoin_11 ?_
    refine lv_iload_n C.hx C.hb dX4_cleanCoin_14 rfl (lv_at hl 1 rfl) ?_
    refine lv_aload_n C.hx C.hb dX4_cleanCoin_15 rfl (lv_at hl 0 rfl) ?_
    refine g_ref (off := 3) C hH o_t (by decide) rfl rfl FL_RX4_18 dX4_cleanCoin_16 ?_
    refine lv_iload_n C.hx C.hb dX4_cleanCoin_19 rfl (lv_at hl 1 rfl) ?_
    refine r_iald C hH (ly (i := 3) (off := 3) (k := 12) hn o_t rfl rfl rfl) (lyn (i := 3) (off := 3) (N := 19) hn o_t rfl rfl rfl) hf dX4_cleanCoin_20 (fun x20 hf => ?_)
    refine lv_aload_n C.hx C.hb dX4_cleanCoin_21 rfl (lv_at hl 0 rfl) ?_
    refine g_ref (off := 4) C hH o_t (by decide) rfl rfl FL_RX4_21 dX4_cleanCoin_22 ?_
    refine lv_iload_n C.hx C.hb dX4_cleanCoin_25 rfl (lv_at hl 1 rfl) ?_
    refine r_iald C hH (ly (i := 4) (off := 4) (k := 12) hn o_t rfl rfl rfl) (lyn (i := 4) (off := 4) (N := 19) hn o_t rfl rfl rfl) hf dX4_cleanCoin_26 (fun x26 hf => ?_)
    refine lv_aload_n C.hx C.hb dX4_cleanCoin_27 rfl (lv_at hl 0 rfl) ?_
    refine g_ref (off := 5) C hH o_t (by decide) rfl rfl FL_RX4_24 dX4_cleanCoin_28 ?_
    refine lv_iload_n C.hx C.hb dX4_cleanCoin_31 rfl (lv_at hl 1 rfl) ?_
    refine r_iald C hH (ly (i := 5) (off := 5) (k := 12) hn o_t rfl rfl rfl) (lyn (i := 5) (off := 5) (N := 19) hn o_t rfl rfl rfl) hf dX4_cleanCoin_32 (fun x32 hf => ?_)
    obtain ⟨M33, hc9, hf⟩ := cv_of hf
    refine r_callVv (rest := []) C hH hl (ly (i := 13) (off := 7) (k := 5) hn o_t rfl rfl rfl) (by decide) rfl (m_X5_push hn (ly (i := 13) (off := 7) (k := 5) hn o_t rfl rfl rfl) hc9) ML_RX4_89 MF_X5_push MI_X5_push rfl rfl (Nat.le_of_ble_eq_true rfl) ⟨Nat.le_of_ble_eq_true rfl, Nat.le_of_ble_eq_true rfl⟩ ⟨Nat.le_refl _, Nat.le_refl _⟩ dX4_cleanCoin_33 (fun H locs hH => ?_)
    refine lv_aload_n C.hx C.hb dX4_cleanCoin_36 rfl (lv_at hl 0 rfl) ?_
    refine g_ref (off := 3) C hH o_t (by decide) rfl rfl FL_RX4_18 dX4_cleanCoin_37 ?_
    refine lv_iload_n C.hx C.hb dX4_cleanCoin_40 rfl (lv_at hl 1 rfl) ?_
    refine r_iald C hH (ly (i := 3) (off := 3) (k := 12) hn o_t rfl rfl rfl) (lyn (i := 3) (off := 3) (N := 19) hn o_t rfl rfl rfl) hf dX4_cleanCoin_41 (fun x41 hf => ?_)
    refine lv_aload_n C.hx C.hb dX4_cleanCoin_42 rfl (lv_at hl 0 rfl) ?_
    refine g_ref (off := 2) C hH o_t (by decide) rfl rfl FL_RX4_15 dX4_cleanCoin_43 ?_
    refine lv_iload_n C.hx C.hb dX4_cleanCoin_46 rfl (lv_at hl 1 rfl) ?_
    refine r_iald C hH (ly (i := 2) (off := 2) (k := 12) hn o_t rfl rfl rfl) (lyn (i := 2) (off := 2) (N := 19) hn o_t rfl rfl rfl) hf dX4_cleanCoin_47 (fun x47 hf => ?_)
    refine w_isub C dX4_cleanCoin_48 ?_
    refine r_nm hf (fun v2_49 hf => ?_)
    refine lv_istore_n (lv' := [(2, i3 v2_49), (0, .ref (eb E + t)), (1, i3 a1)]) C.hx C.hb dX4_cleanCoin_49 rfl hl (by decide) rfl (fun ls hl => ?_)
    refine lv_aload_n C.hx C.hb dX4_cleanCoin_50 rfl (lv_at hl 1 rfl) ?_
    refine g_ref (off := 3) C hH o_t (by decide) rfl rfl FL_RX4_18 dX4_cleanCoin_51 ?_
    refine lv_iload_n C.hx C.hb dX4_cleanCoin_54 rfl (lv_at hl 2 rfl) ?_
    refine lv_aload_n C.hx C.hb dX4_cleanCoin_55 rfl (lv_at hl 1 rfl) ?_
    refine g_ref (off := 2) C hH o_t (by decide) rfl rfl FL_RX4_15 dX4_cleanCoin_56 ?_
    refine lv_iload_n C.hx C.hb dX4_cleanCoin_59 rfl (lv_at hl 2 rfl) ?_
    refine r_iald C hH (ly (i := 2) (off := 2) (k := 12) hn o_t rfl rfl rfl) (lyn (i := 2) (off := 2) (N := 19) hn o_t rfl rfl rfl) hf dX4_cleanCoin_60 (fun x60 hf => ?_)
    refine r_iast C hH (ly (i := 3) (off := 3) (k := 12) hn o_t rfl rfl rfl) (lyn (i := 3) (off := 3) (N := 19) hn o_t rfl rfl rfl) hf dX4_cleanCoin_61 (fun M61 H locs hf hH => ?_)
    refine lv_iload_n C.hx C.hb dX4_cleanCoin_62 rfl (lv_at hl 0 rfl) ?_
    cases hf
    exact w_iret C hH dX4_cleanCoin_63
  · refine lv_iconst (v := Int32.ofInt (-1)) C.hx C.hb dX4_cleanCoin_8 rfl ?_
    cases hf
    exact w_iret C hH dX4_cleanCoin_9
-- HeavierByHand$State.takeBack
def fn_X4_takeBack (t : Nat) (M : Mem) : Option (Int × Mem) :=
  cl (fn_X5_pop (t + 7) M) fun x4 M4 => cLt x4 0 (some ((-1), M4)) (cLt x4 40 (rd M4 ((t + 7) + 1) 40 x4 fun x28 => cu (fn_X4_isCoin t x28 M4) fun x32 => cEq x32 0 (some ((-1), M4)) (rd M4 ((t + 7) + 2) 40 x4 fun x53 => wr M4 (t + 3) 20 x28 x53 fun M54 => rd M54 ((t + 7) + 3) 40 x4 fun x68 => wr M54 (t + 4) 20 x28 x68 fun M69 => rd M69 ((t + 7) + 4) 40 x4 fun x83 => wr M69 (t + 5) 20 x28 x83 fun M84 => some (x28, M84))) (some ((-1), M4)))
set_option maxRecDepth 100000 in
set_option maxHeartbeats 4000000 in
theorem m_X4_takeBack {E : EE} {l : Launch} {n : Nat} {t : Nat} {M : Mem} {o : (Int × Mem)} (hn : nfull n) (o_t : ob n t 4) (hf : fn_X4_takeBack t M = some o) : CT E l yX4_takeBack cX4_takeBack 3 (some .int) 1 21 0 0 [.ref (eb E + t)] n (zf n) M (some (i3 o.1)) n (zf n) o.2 := by
  refine CT_of PN_RX4 (Nat.le_of_ble_eq_true rfl) ?_
  intro p e s m args below meth c C hH ls hl
  replace C : Cx E p s m args meth c cX4_takeBack 3 RX4 (some .int) n "takeBack" := C
  have hl : lv_has ls 3 [(0, .ref (eb E + t))] := hl
  unfold fn_X4_takeBack at hf
  refine lv_aload_n C.hx C.hb dX4_takeBack_0 rfl (lv_at hl 0 rfl) ?_
  refine g_ref (off := 7) C hH o_t (by decide) rfl rfl FL_RX4_40 dX4_takeBack_1 ?_
  obtain ⟨x4, M4, hc9, hf⟩ := cl_of hf
  refine r_callVi (rest := []) C hH hl (ly (i := 13) (off := 7) (k := 5) hn o_t rfl rfl rfl) (by decide) rfl (m_X5_pop hn (ly (i := 13) (off := 7) (k := 5) hn o_t rfl rfl rfl) hc9) ML_RX4_93 MF_X5_pop MI_X5_pop rfl rfl (Nat.le_of_ble_eq_true rfl) ⟨Nat.le_of_ble_eq_true rfl, Nat.le_of_ble_eq_true rfl⟩ ⟨Nat.le_refl _, Nat.le_refl _⟩ dX4_takeBack_4 (fun H locs hH => ?_)
  refine lv_istore_n (lv' := [(1, i3 x4), (0, .ref (eb E + t))]) C.hx C.hb dX4_takeBack_7 rfl hl (by decide) rfl (fun ls hl => ?_)
  refine lv_iload_n C.hx C.hb dX4_takeBack_8 rfl (lv_at hl 0 rfl) ?_
  refine w_lt0 (tgt := 18) C hf dX4_takeBack_9 (by decide) (fun hf => ?_) (fun hf => ?_)
  · refine lv_iconst (v := Int32.ofInt (-1)) C.hx C.hb dX4_takeBack_18 rfl ?_
    cases hf
    exact w_iret C hH dX4_takeBack_19
  · refine lv_iload_n C.hx C.hb dX4_takeBack_12 rfl (lv_at hl 0 rfl) ?_
    refine lv_bipush (v := Int32.ofInt 40) C.hx C.hb dX4_takeBack_13 (by decide) ?_
    refine w_lt (tgt := 20) C hf dX4_takeBack_15 (by decide) (fun hf => ?_) (fun hf => ?_)
    · refine lv_aload_n C.hx C.hb dX4_takeBack_20 rfl (lv_at hl 1 rfl) ?_
      refine g_ref (off := 7) C hH o_t (by decide) rfl rfl FL_RX4_40 dX4_takeBack_21 ?_
      refine g_ref (off := 1) C hH (ly (i := 13) (off := 7) (k := 5) hn o_t rfl rfl rfl) (by decide) rfl rfl FL_RX4_97 dX4_takeBack_24 ?_
      refine lv_iload_n C.hx C.hb dX4_takeBack_27 rfl (lv_at hl 0 rfl) ?_
      refine r_iald C hH (ly (i := 0) (off := 1) (k := 12) hn (ly (i := 13) (off := 7) (k := 5) hn o_t rfl rfl rfl) rfl rfl rfl) (lyn (i := 0) (off := 1) (N := 39) hn (ly (i := 13) (off := 7) (k := 5) hn o_t rfl rfl rfl) rfl rfl rfl) hf dX4_takeBack_28 (fun x28 hf => ?_)
      refine lv_istore_n (lv' := [(2, i3 x28), (1, i3 x4), (0, .ref (eb E + t))]) C.hx C.hb dX4_takeBack_29 rfl hl (by decide) rfl (fun ls hl => ?_)
      refine lv_aload_n C.hx C.hb dX4_takeBack_30 rfl (lv_at hl 2 rfl) ?_
      refine lv_iload_n C.hx C.hb dX4_takeBack_31 rfl (lv_at hl 0 rfl) ?_
      obtain ⟨x32, hc9, hf⟩ := cu_of hf
      refine r_callVi (rest := []) C hH hl o_t (by decide) rfl (m_X4_isCoin hn o_t hc9) ML_RX4_78 MF_X4_isCoin MI_X4_isCoin rfl rfl (Nat.le_of_ble_eq_true rfl) ⟨Nat.le_of_ble_eq_true rfl, Nat.le_of_ble_eq_true rfl⟩ ⟨Nat.le_refl _, Nat.le_refl _⟩ dX4_takeBack_32 (fun H locs hH => ?_)
      refine w_ne0 (tgt := 40) C hf dX4_takeBack_35 (by decide) (fun hf => ?_) (fun hf => ?_)
      · refine lv_aload_n C.hx C.hb dX4_takeBack_40 rfl (lv_at hl 2 rfl) ?_
        refine g_ref (off := 3) C hH o_t (by decide) rfl rfl FL_RX4_18 dX4_takeBack_41 ?_
        refine lv_iload_n C.hx C.hb dX4_takeBack_44 rfl (lv_at hl 0 rfl) ?_
        refine lv_aload_n C.hx C.hb dX4_takeBack_45 rfl (lv_at hl 2 rfl) ?_
        refine g_ref (off := 7) C hH o_t (by decide) rfl rfl FL_RX4_40 dX4_takeBack_46 ?_
        refine g_ref (off := 2) C hH (ly (i := 13) (off := 7) (k := 5) hn o_t rfl rfl rfl) (by decide) rfl rfl FL_RX4_100 dX4_takeBack_49 ?_
        refine lv_iload_n C.hx C.hb dX4_takeBack_52 rfl (lv_at hl 1 rfl) ?_
        refine r_iald C hH (ly (i := 1) (off := 2) (k := 12) hn (ly (i := 13) (off := 7) (k := 5) hn o_t rfl rfl rfl) rfl rfl rfl) (lyn (i := 1) (off := 2) (N := 39) hn (ly (i := 13) (off := 7) (k := 5) hn o_t rfl rfl rfl) rfl rfl rfl) hf dX4_takeBack_53 (fun x53 hf => ?_)
        refine r_iast C hH (ly (i := 3) (off := 3) (k := 12) hn o_t rfl rfl rfl) (lyn (i := 3) (off := 3) (N := 19) hn o_t rfl rfl rfl) hf dX4_takeBack_54 (fun M54 H locs hf hH => ?_)
        refine lv_aload_n C.hx C.hb dX4_takeBack_55 rfl (lv_at hl 2 rfl) ?_
        refine g_ref (off := 4) C hH o_t (by decide) rfl rfl FL_RX4_21 dX4_takeBack_56 ?_
        refine lv_iload_n C.hx C.hb dX4_takeBack_59 rfl (lv_at hl 0 rfl) ?_
        refine lv_aload_n C.hx C.hb dX4_takeBack_60 rfl (lv_at hl 2 rfl) ?_
        refine g_ref (off := 7) C hH o_t (by decide) rfl rfl FL_RX4_40 dX4_takeBack_61 ?_
        refine g_ref (off := 3) C hH (ly (i := 13) (off := 7) (k := 5) hn o_t rfl rfl rfl) (by decide) rfl rfl FL_RX4_101 dX4_takeBack_64 ?_
        refine lv_iload_n C.hx C.hb dX4_takeBack_67 rfl (lv_at hl 1 rfl) ?_
        refine r_iald C hH (ly (i := 2) (off := 3) (k := 12) hn (ly (i := 13) (off := 7) (k := 5) hn o_t rfl rfl rfl) rfl rfl rfl) (lyn (i := 2) (off := 3) (N := 39) hn (ly (i := 13) (off := 7) (k := 5) hn o_t rfl rfl rfl) rfl rfl rfl) hf dX4_takeBack_68 (fun x68 hf => ?_)
        refine r_iast C hH (ly (i := 4) (off := 4) (k := 12) hn o_t rfl rfl rfl) (lyn (i := 4) (off := 4) (N := 19) hn o_t rfl rfl rfl) hf dX4_takeBack_69 (fun M69 H locs hf hH => ?_)
        refine lv_aload_n C.hx C.hb dX4_takeBack_70 rfl (lv_at hl 2 rfl) ?_
        refine g_ref (off := 5) C hH o_t (by decide) rfl rfl FL_RX4_24 dX4_takeBack_71 ?_
        refine lv_iload_n C.hx C.hb dX4_takeBack_74 rfl (lv_at hl 0 rfl) ?_
        refine lv_aload_n C.hx C.hb dX4_takeBack_75 rfl (lv_at hl 2 rfl) ?_
        refine g_ref (off := 7) C hH o_t (by decide) rfl rfl FL_RX4_40 dX4_takeBack_76 ?_
        refine g_ref (off := 4) C hH (ly (i := 13) (off := 7) (k := 5) hn o_t rfl rfl rfl) (by decide) rfl rfl FL_RX4_102 dX4_takeBack_79 ?_
        refine lv_iload_n C.hx C.hb dX4_takeBack_82 rfl (lv_at hl 1 rfl) ?_
        refine r_iald C hH (ly (i := 3) (off := 4) (k := 12) hn (ly (i := 13) (off := 7) (k := 5) hn o_t rfl rfl rfl) rfl rfl rfl) (lyn (i := 3) (off := 4) (N := 39) hn (ly (i := 13) (off := 7) (k := 5) hn o_t rfl rfl rfl) rfl rfl rfl) hf dX4_takeBack_83 (fun x83 hf => ?_)
        refine r_iast C hH (ly (i := 5) (off := 5) (k := 12) hn o_t rfl rfl rfl) (lyn (i := 5) (off := 5) (N := 19) hn o_t rfl rfl rfl) hf dX4_takeBack_84 (fun M84 H locs hf hH => ?_)
        refine lv_iload_n C.hx C.hb dX4_takeBack_85 rfl (lv_at hl 0 rfl) ?_
        cases hf
        exact w_iret C hH dX4_takeBack_86
      · refine lv_iconst (v := Int32.ofInt (-1)) C.hx C.hb dX4_takeBack_38 rfl ?_
        cases hf
        exact w_iret C hH dX4_takeBack_39
    · refine lv_iconst (v := Int32.ofInt (-1)) C.hx C.hb dX4_takeBack_18 rfl ?_
      cases hf
      exact w_iret C hH dX4_takeBack_19
-- HeavierByHand$State.lightestOf
def fn_X4_lightestOf_J50 (v3_4 : Int) (rec4 : Int → Int → Option Int) (v2_50 : Int) : Option Int :=
  nm (v3_4 + 1) fun v3_50 => rec4 v3_50 v2_50
def fn_X4_lightestOf_J48 (v3_4 : Int) (rec4 : Int → Int → Option Int) : Option Int :=
  fn_X4_lightestOf_J50 v3_4 rec4 v3_4
def fn_X4_lightestOf_L4 (t : Nat) (a1 : Int) (M : Mem) (rec4 : Int → Int → Option Int) (v3_4 : Int) (v2_4 : Int) : Option Int :=
  cLt v3_4 (M t 7) (cLt v3_4 20 (rd M (t + 4) 20 v3_4 fun x23 => cEq x23 a1 (cEq v2_4 (-1) (fn_X4_lightestOf_J48 v3_4 rec4) (rd M (t + 3) 20 v3_4 fun x38 => rd M (t + 3) 20 v2_4 fun x44 => cLt x38 x44 (fn_X4_lightestOf_J48 v3_4 rec4) (fn_X4_lightestOf_J50 v3_4 rec4 v2_4))) (fn_X4_lightestOf_J50 v3_4 rec4 v2_4)) (some v2_4)) (some v2_4)
def fn_X4_lightestOf (t : Nat) (a1 : Int) (M : Mem) : Option Int :=
  lq2 (fn_X4_lightestOf_L4 t a1 M) FU 0 (-1)
set_option maxRecDepth 100000 in
set_option maxHeartbeats 4000000 in
theorem j_X4_lightestOf_50 {p : Program} {l : Launch} {e : Env} {s : State} {m : MethodId} {args : Array Value} {below : List Frame} {meth : Method} {c : Code} {E : EE} {n : Nat} {o : Int} {t : Nat} {a1 : Int} {M : Mem} {v3_4 : Int} {rec4 : Int → Int → Option Int} {v2_50 : Int} {H : Heap} {locs : List Loc} {ls : Array Slot} (C : Cx E p s m args meth c cX4_lightestOf 4 RX4 (some .int) n "lightestOf") (hn : nfull n) (o_t : ob n t 4) (h_rec4 : ∀ {v3_4 : Int} {v2_4 : Int} {H : Heap} {locs : List Loc} {ls : Array Slot}, rec4 v3_4 v2_4 = some o → ST E s n (zf n) M H locs → lv_has ls 4 [(0, .ref (eb E + t)), (1, i3 a1), (2, i3 v2_4), (3, i3 v3_4)] → W p l e { frames := 0, cells := 0, slots := 0, locals := 0 } s m args below meth c H locs 0 0 (MQ below (QC E (some (i3 o)) n (zf n) M) args s 0 0 (fr E)) (F0 m 4 ls [])) (hf : fn_X4_lightestOf_J50 v3_4 rec4 v2_50 = some o) (hH : ST E s n (zf n) M H locs) (hl : lv_has ls 4 [(0, .ref (eb E + t)), (1, i3 a1), (2, i3 v2_50), (3, i3 v3_4)]) : W p l e { frames := 0, cells := 0, slots := 0, locals := 0 } s m args below meth c H locs 0 0 (MQ below (QC E (some (i3 o)) n (zf n) M) args s 0 0 (fr E)) (F0 m 50 ls []) := by
  unfold fn_X4_lightestOf_J50 at hf
  refine r_iinc (k := 3) (lv' := fun v => [(3, i3 v), (0, .ref (eb E + t)), (1, i3 a1), (2, i3 v2_50)]) C hf dX4_lightestOf_50 hl rfl (by decide) (fun _ => rfl) (fun v3_50 ls hf hl => ?_)
  refine lv_goto (tgt := 4) C.hx C.hb dX4_lightestOf_53 (by decide) ?_
  exact h_rec4 hf hH (lv_sub hl [1, 2, 3, 0] rfl)
set_option maxRecDepth 100000 in
set_option maxHeartbeats 4000000 in
theorem j_X4_lightestOf_48 {p : Program} {l : Launch} {e : Env} {s : State} {m : MethodId} {args : Array Value} {below : List Frame} {meth : Method} {c : Code} {E : EE} {n : Nat} {o : Int} {t : Nat} {a1 : Int} {M : Mem} {v3_4 : Int} {rec4 : Int → Int → Option Int} {H : Heap} {locs : List Loc} {ls : Array Slot} (C : Cx E p s m args meth c cX4_lightestOf 4 RX4 (some .int) n "lightestOf") (hn : nfull n) (o_t : ob n t 4) (h_rec4 : ∀ {v3_4 : Int} {v2_4 : Int} {H : Heap} {locs : List Loc} {ls : Array Slot}, rec4 v3_4 v2_4 = some o → ST E s n (zf n) M H locs → lv_has ls 4 [(0, .ref (eb E + t)), (1, i3 a1), (2, i3 v2_4), (3, i3 v3_4)] → W p l e { frames := 0, cells := 0, slots := 0, locals := 0 } s m args below meth c H locs 0 0 (MQ below (QC E (some (i3 o)) n (zf n) M) args s 0 0 (fr E)) (F0 m 4 ls [])) (hf : fn_X4_lightestOf_J48 v3_4 rec4 = some o) (hH : ST E s n (zf n) M H locs) (hl : lv_has ls 4 [(0, .ref (eb E + t)), (1, i3 a1), (3, i3 v3_4)]) : W p l e { frames := 0, cells := 0, slots := 0, locals := 0 } s m args below meth c H locs 0 0 (MQ below (QC E (some (i3 o)) n (zf n) M) args s 0 0 (fr E)) (F0 m 48 ls []) := by
  unfold fn_X4_lightestOf_J48 at hf
  refine lv_iload_n C.hx C.hb dX4_lightestOf_48 rfl (lv_at hl 2 rfl) ?_
  refine lv_istore_n (lv' := [(2, i3 v3_4), (0, .ref (eb E + t)), (1, i3 a1), (3, i3 v3_4)]) C.hx C.hb dX4_lightestOf_49 rfl hl (by decide) rfl (fun ls hl => ?_)
  exact j_X4_lightestOf_50 C hn o_t h_rec4 hf hH (lv_sub hl [1, 2, 0, 3] rfl)
set_option maxRecDepth 100000 in
set_option maxHeartbeats 4000000 in
theorem l_X4_lightestOf_4 {p : Program} {l : Launch} {e : Env} {s : State} {m : MethodId} {args : Array Value} {below : List Frame} {meth : Method} {c : Code} {E : EE} {n : Nat} {o : Int} {t : Nat} {a1 : Int} {M : Mem} (C : Cx E p s m args meth c cX4_lightestOf 4 RX4 (some .int) n "lightestOf") (hn : nfull n) (o_t : ob n t 4) : ∀ (k : Nat) (v3_4 : Int) (v2_4 : Int) (H : Heap) (locs : List Loc) (ls : Array Slot), lq2 (fn_X4_lightestOf_L4 t a1 M) k v3_4 v2_4 = some o → ST E s n (zf n) M H locs → lv_has ls 4 [(0, .ref (eb E + t)), (1, i3 a1), (2, i3 v2_4), (3, i3 v3_4)] → W p l e { frames := 0, cells := 0, slots := 0, locals := 0 } s m args below meth c H locs 0 0 (MQ below (QC E (some (i3 o)) n (zf n) M) args s 0 0 (fr E)) (F0 m 4 ls []) := by
  intro k
  induction k with
  | zero => intro v3_4 v2_4 H locs ls hf; cases hf
  | succ k ih =>
    intro v3_4 v2_4 H locs ls hf hH hl
    have h_rec4 : ∀ {v3_4 : Int} {v2_4 : Int} {H : Heap} {locs : List Loc} {ls : Array Slot}, lq2 (fn_X4_lightestOf_L4 t a1 M) k v3_4 v2_4 = some o → ST E s n (zf n) M H locs → lv_has ls 4 [(0, .ref (eb E + t)), (1, i3 a1), (2, i3 v2_4), (3, i3 v3_4)] → W p l e { frames := 0, cells := 0, slots := 0, locals := 0 } s m args below meth c H locs 0 0 (MQ below (QC E (some (i3 o)) n (zf n) M) args s 0 0 (fr E)) (F0 m 4 ls []) := fun {v3_4} {v2_4} {H} {locs} {ls} a b c => ih v3_4 v2_4 H locs ls a b c
    replace hf : fn_X4_lightestOf_L4 t a1 M (lq2 (fn_X4_lightestOf_L4 t a1 M) k) v3_4 v2_4 = some o := hf
    generalize lq2 (fn_X4_lightestOf_L4 t a1 M) k = rec4 at hf h_rec4
    unfold fn_X4_lightestOf_L4 at hf
    refine lv_iload_n C.hx C.hb dX4_lightestOf_4 rfl (lv_at hl 3 rfl) ?_
    refine lv_aload_n C.hx C.hb dX4_lightestOf_5 rfl (lv_at hl 0 rfl) ?_
    refine g_int C hH o_t (by decide) rfl FL_RX4_63 dX4_lightestOf_6 ?_
    refine w_ge (tgt := 56) C hf dX4_lightestOf_9 (by decide) (fun hf => ?_) (fun hf => ?_)
    · refine lv_iload_n C.hx C.hb dX4_lightestOf_56 rfl (lv_at hl 2 rfl) ?_
      cases hf
      exact w_iret C hH dX4_lightestOf_57
    · refine lv_iload_n C.hx C.hb dX4_lightestOf_12 rfl (lv_at hl 3 rfl) ?_
      refine lv_bipush (v := Int32.ofInt 20) C.hx C.hb dX4_lightestOf_13 (by decide) ?_
      refine w_ge (tgt := 56) C hf dX4_lightestOf_15 (by decide) (fun hf => ?_) (fun hf => ?_)
      · refine lv_iload_n C.hx C.hb dX4_lightestOf_56 rfl (lv_at hl 2 rfl) ?_
        cases hf
        exact w_iret C hH dX4_lightestOf_57
      · refine lv_aload_n C.hx C.hb dX4_lightestOf_18 rfl (lv_at hl 0 rfl) ?_
        refine g_ref (off := 4) C hH o_t (by decide) rfl rfl FL_RX4_21 dX4_lightestOf_19 ?_
        refine lv_iload_n C.hx C.hb dX4_lightestOf_22 rfl (lv_at hl 3 rfl) ?_
        refine r_iald C hH (ly (i := 4) (off := 4) (k := 12) hn o_t rfl rfl rfl) (lyn (i := 4) (off := 4) (N := 19) hn o_t rfl rfl rfl) hf dX4_lightestOf_23 (fun x23 hf => ?_)
        refine lv_iload_n C.hx C.hb dX4_lightestOf_24 rfl (lv_at hl 1 rfl) ?_
        refine w_ne (tgt := 50) C hf dX4_lightestOf_25 (by decide) (fun hf => ?_) (fun hf => ?_)
        · exact j_X4_lightestOf_50 C hn o_t h_rec4 hf hH (lv_sub hl [0, 1, 2, 3] rfl)
        · refine lv_iload_n C.hx C.hb dX4_lightestOf_28 rfl (lv_at hl 2 rfl) ?_
          refine lv_iconst (v := Int32.ofInt (-1)) C.hx C.hb dX4_lightestOf_29 rfl ?_
          refine w_eq (tgt := 48) C hf dX4_lightestOf_30 (by decide) (fun hf => ?_) (fun hf => ?_)
          · exact j_X4_lightestOf_48 C hn o_t h_rec4 hf hH (lv_sub hl [0, 1, 3] rfl)
          · refine lv_aload_n C.hx C.hb dX4_lightestOf_33 rfl (lv_at hl 0 rfl) ?_
            refine g_ref (off := 3) C hH o_t (by decide) rfl rfl FL_RX4_18 dX4_lightestOf_34 ?_
            refine lv_iload_n C.hx C.hb dX4_lightestOf_37 rfl (lv_at hl 3 rfl) ?_
            refine r_iald C hH (ly (i := 3) (off := 3) (k := 12) hn o_t rfl rfl rfl) (lyn (i := 3) (off := 3) (N := 19) hn o_t rfl rfl rfl) hf dX4_lightestOf_38 (fun x38 hf => ?_)
            refine lv_aload_n C.hx C.hb dX4_lightestOf_39 rfl (lv_at hl 0 rfl) ?_
            refine g_ref (off := 3) C hH o_t (by decide) rfl rfl FL_RX4_18 dX4_lightestOf_40 ?_
            refine lv_iload_n C.hx C.hb dX4_lightestOf_43 rfl (lv_at hl 2 rfl) ?_
            refine r_iald C hH (ly (i := 3) (off := 3) (k := 12) hn o_t rfl rfl rfl) (lyn (i := 3) (off := 3) (N := 19) hn o_t rfl rfl rfl) hf dX4_lightestOf_44 (fun x44 hf => ?_)
            refine w_ge (tgt := 50) C hf dX4_lightestOf_45 (by decide) (fun hf => ?_) (fun hf => ?_)
            · exact j_X4_lightestOf_50 C hn o_t h_rec4 hf hH (lv_sub hl [0, 1, 2, 3] rfl)
            · exact j_X4_lightestOf_48 C hn o_t h_rec4 hf hH (lv_sub hl [0, 1, 3] rfl)
set_option maxRecDepth 100000 in
set_option maxHeartbeats 4000000 in
theorem m_X4_lightestOf {E : EE} {l : Launch} {n : Nat} {t : Nat} {a1 : Int} {M : Mem} {o : Int} (hn : nfull n) (o_t : ob n t 4) (hf : fn_X4_lightestOf t a1 M = some o) : CT E l yX4_lightestOf cX4_lightestOf 4 (some .int) 0 0 0 0 [.ref (eb E + t), i3 a1] n (zf n) M (some (i3 o)) n (zf n) M := by
  refine CT_of PN_RX4 (Nat.le_of_ble_eq_true rfl) ?_
  intro p e s m args below meth c C hH ls hl
  replace C : Cx E p s m args meth c cX4_lightestOf 4 RX4 (some .int) n "lightestOf" := C
  have hl : lv_has ls 4 [(0, .ref (eb E + t)), (1, i3 a1)] := hl
  unfold fn_X4_lightestOf at hf
  refine lv_iconst (v := Int32.ofInt (-1)) C.hx C.hb dX4_lightestOf_0 rfl ?_
  refine lv_istore_n (lv' := [(2, i3 (-1)), (0, .ref (eb E + t)), (1, i3 a1)]) C.hx C.hb dX4_lightestOf_1 rfl hl (by decide) rfl (fun ls hl => ?_)
  refine lv_iconst (v := Int32.ofInt 0) C.hx C.hb dX4_lightestOf_2 rfl ?_
  refine lv_istore_n (lv' := [(3, i3 0), (2, i3 (-1)), (0, .ref (eb E + t)), (1, i3 a1)]) C.hx C.hb dX4_lightestOf_3 rfl hl (by decide) rfl (fun ls hl => ?_)
  exact l_X4_lightestOf_4 C hn o_t FU _ _ _ _ _ hf hH (lv_sub hl [2, 3, 1, 0] rfl)
-- HeavierByHand$State.weightHeldBy
def fn_X4_weightHeldBy_J37 (v3_4 : Int) (rec4 : Int → Int → Option Int) (v2_37 : Int) : Option Int :=
  nm (v3_4 + 1) fun v3_37 => rec4 v3_37 v2_37
def fn_X4_weightHeldBy_L4 (t : Nat) (a1 : Int) (M : Mem) (rec4 : Int → Int → Option Int) (v3_4 : Int) (v2_4 : Int) : Option Int :=
  cLt v3_4 (M t 7) (cLt v3_4 20 (rd M (t + 4) 20 v3_4 fun x23 => cEq x23 a1 (rd M (t + 3) 20 v3_4 fun x34 => nm ((v2_4 + x34)) fun v2_36 => fn_X4_weightHeldBy_J37 v3_4 rec4 v2_36) (fn_X4_weightHeldBy_J37 v3_4 rec4 v2_4)) (some v2_4)) (some v2_4)
def fn_X4_weightHeldBy (t : Nat) (a1 : Int) (M : Mem) : Option Int :=
  lq2 (fn_X4_weightHeldBy_L4 t a1 M) FU 0 0
set_option maxRecDepth 100000 in
set_option maxHeartbeats 4000000 in
theorem j_X4_weightHeldBy_37 {p : Program} {l : Launch} {e : Env} {s : State} {m : MethodId} {args : Array Value} {below : List Frame} {meth : Method} {c : Code} {E : EE} {n : Nat} {o : Int} {t : Nat} {a1 : Int} {M : Mem} {v3_4 : Int} {rec4 : Int → Int → Option Int} {v2_37 : Int} {H : Heap} {locs : List Loc} {ls : Array Slot} (C : Cx E p s m args meth c cX4_weightHeldBy 4 RX4 (some .int) n "weightHeldBy") (hn : nfull n) (o_t : ob n t 4) (h_rec4 : ∀ {v3_4 : Int} {v2_4 : Int} {H : Heap} {locs : List Loc} {ls : Array Slot}, rec4 v3_4 v2_4 = some o → ST E s n (zf n) M H locs → lv_has ls 4 [(0, .ref (eb E + t)), (1, i3 a1), (2, i3 v2_4), (3, i3 v3_4)] → W p l e { frames := 0, cells := 0, slots := 0, locals := 0 } s m args below meth c H locs 0 0 (MQ below (QC E (some (i3 o)) n (zf n) M) args s 0 0 (fr E)) (F0 m 4 ls [])) (hf : fn_X4_weightHeldBy_J37 v3_4 rec4 v2_37 = some o) (hH : ST E s n (zf n) M H locs) (hl : lv_has ls 4 [(0, .ref (eb E + t)), (1, i3 a1), (2, i3 v2_37), (3, i3 v3_4)]) : W p l e { frames := 0, cells := 0, slots := 0, locals := 0 } s m args below meth c H locs 0 0 (MQ below (QC E (some (i3 o)) n (zf n) M) args s 0 0 (fr E)) (F0 m 37 ls []) := by
  unfold fn_X4_weightHeldBy_J37 at hf
  refine r_iinc (k := 3) (lv' := fun v => [(3, i3 v), (0, .ref (eb E + t)), (1, i3 a1), (2, i3 v2_37)]) C hf dX4_weightHeldBy_37 hl rfl (by decide) (fun _ => rfl) (fun v3_37 ls hf hl => ?_)
  refine lv_goto (tgt := 4) C.hx C.hb dX4_weightHeldBy_40 (by decide) ?_
  exact h_rec4 hf hH (lv_sub hl [1, 2, 3, 0] rfl)
set_option maxRecDepth 100000 in
set_option maxHeartbeats 4000000 in
theorem l_X4_weightHeldBy_4 {p : Program} {l : Launch} {e : Env} {s : State} {m : MethodId} {args : Array Value} {below : List Frame} {meth : Method} {c : Code} {E : EE} {n : Nat} {o : Int} {t : Nat} {a1 : Int} {M : Mem} (C : Cx E p s m args meth c cX4_weightHeldBy 4 RX4 (some .int) n "weightHeldBy") (hn : nfull n) (o_t : ob n t 4) : ∀ (k : Nat) (v3_4 : Int) (v2_4 : Int) (H : Heap) (locs : List Loc) (ls : Array Slot), lq2 (fn_X4_weightHeldBy_L4 t a1 M) k v3_4 v2_4 = some o → ST E s n (zf n) M H locs → lv_has ls 4 [(0, .ref (eb E + t)), (1, i3 a1), (2, i3 v2_4), (3, i3 v3_4)] → W p l e { frames := 0, cells := 0, slots := 0, locals := 0 } s m args below meth c H locs 0 0 (MQ below (QC E (some (i3 o)) n (zf n) M) args s 0 0 (fr E)) (F0 m 4 ls []) := by
  intro k
  induction k with
  | zero => intro v3_4 v2_4 H locs ls hf; cases hf
  | succ k ih =>
    intro v3_4 v2_4 H locs ls hf hH hl
    have h_rec4 : ∀ {v3_4 : Int} {v2_4 : Int} {H : Heap} {locs : List Loc} {ls : Array Slot}, lq2 (fn_X4_weightHeldBy_L4 t a1 M) k v3_4 v2_4 = some o → ST E s n (zf n) M H locs → lv_has ls 4 [(0, .ref (eb E + t)), (1, i3 a1), (2, i3 v2_4), (3, i3 v3_4)] → W p l e { frames := 0, cells := 0, slots := 0, locals := 0 } s m args below meth c H locs 0 0 (MQ below (QC E (some (i3 o)) n (zf n) M) args s 0 0 (fr E)) (F0 m 4 ls []) := fun {v3_4} {v2_4} {H} {locs} {ls} a b c => ih v3_4 v2_4 H locs ls a b c
    replace hf : fn_X4_weightHeldBy_L4 t a1 M (lq2 (fn_X4_weightHeldBy_L4 t a1 M) k) v3_4 v2_4 = some o := hf
    generalize lq2 (fn_X4_weightHeldBy_L4 t a1 M) k = rec4 at hf h_rec4
    unfold fn_X4_weightHeldBy_L4 at hf
    refine lv_iload_n C.hx C.hb dX4_weightHeldBy_4 rfl (lv_at hl 3 rfl) ?_
    refine lv_aload_n C.hx C.hb dX4_weightHeldBy_5 rfl (lv_at hl 0 rfl) ?_
    refine g_int C hH o_t (by decide) rfl FL_RX4_63 dX4_weightHeldBy_6 ?_
    refine w_ge (tgt := 43) C hf dX4_weightHeldBy_9 (by decide) (fun hf => ?_) (fun hf => ?_)
    · refine lv_iload_n C.hx C.hb dX4_weightHeldBy_43 rfl (lv_at hl 2 rfl) ?_
      cases hf
      exact w_iret C hH dX4_weightHeldBy_44
    · refine lv_iload_n C.hx C.hb dX4_weightHeldBy_12 rfl (lv_at hl 3 rfl) ?_
      refine lv_bipush (v := Int32.ofInt 20) C.hx C.hb dX4_weightHeldBy_13 (by decide) ?_
      refine w_ge (tgt := 43) C hf dX4_weightHeldBy_15 (by decide) (fun hf => ?_) (fun hf => ?_)
      · refine lv_iload_n C.hx C.hb dX4_weightHeldBy_43 rfl (lv_at hl 2 rfl) ?_
        cases hf
        exact w_iret C hH dX4_weightHeldBy_44
      · refine lv_aload_n C.hx C.hb dX4_weightHeldBy_18 rfl (lv_at hl 0 rfl) ?_
        refine g_ref (off := 4) C hH o_t (by decide) rfl rfl FL_RX4_21 dX4_weightHeldBy_19 ?_
        refine lv_iload_n C.hx C.hb dX4_weightHeldBy_22 rfl (lv_at hl 3 rfl) ?_
        refine r_iald C hH (ly (i := 4) (off := 4) (k := 12) hn o_t rfl rfl rfl) (lyn (i := 4) (off := 4) (N := 19) hn o_t rfl rfl rfl) hf dX4_weightHeldBy_23 (fun x23 hf => ?_)
        refine lv_iload_n C.hx C.hb dX4_weightHeldBy_24 rfl (lv_at hl 1 rfl) ?_
        refine w_ne (tgt := 37) C hf dX4_weightHeldBy_25 (by decide) (fun hf => ?_) (fun hf => ?_)
        · exact j_X4_weightHeldBy_37 C hn o_t h_rec4 hf hH (lv_sub hl [0, 1, 2, 3] rfl)
        · refine lv_iload_n C.hx C.hb dX4_weightHeldBy_28 rfl (lv_at hl 2 rfl) ?_
          refine lv_aload_n C.hx C.hb dX4_weightHeldBy_29 rfl (lv_at hl 0 rfl) ?_
          refine g_ref (off := 3) C hH o_t (by decide) rfl rfl FL_RX4_18 dX4_weightHeldBy_30 ?_
          refine lv_iload_n C.hx C.hb dX4_weightHeldBy_33 rfl (lv_at hl 3 rfl) ?_
          refine r_iald C hH (ly (i := 3) (off := 3) (k := 12) hn o_t rfl rfl rfl) (lyn (i := 3) (off := 3) (N := 19) hn o_t rfl rfl rfl) hf dX4_weightHeldBy_34 (fun x34 hf => ?_)
          refine w_iadd C dX4_weightHeldBy_35 ?_
          refine r_nm hf (fun v2_36 hf => ?_)
          refine lv_istore_n (lv' := [(2, i3 v2_36), (0, .ref (eb E + t)), (1, i3 a1), (3, i3 v3_4)]) C.hx C.hb dX4_weightHeldBy_36 rfl hl (by decide) rfl (fun ls hl => ?_)
          exact j_X4_weightHeldBy_37 C hn o_t h_rec4 hf hH (lv_sub hl [1, 2, 0, 3] rfl)
set_option maxRecDepth 100000 in
set_option maxHeartbeats 4000000 in
theorem m_X4_weightHeldBy {E : EE} {l : Launch} {n : Nat} {t : Nat} {a1 : Int} {M : Mem} {o : Int} (hn : nfull n) (o_t : ob n t 4) (hf : fn_X4_weightHeldBy t a1 M = some o) : CT E l yX4_weightHeldBy cX4_weightHeldBy 4 (some .int) 0 0 0 0 [.ref (eb E + t), i3 a1] n (zf n) M (some (i3 o)) n (zf n) M := by
  refine CT_of PN_RX4 (Nat.le_of_ble_eq_true rfl) ?_
  intro p e s m args below meth c C hH ls hl
  replace C : Cx E p s m args meth c cX4_weightHeldBy 4 RX4 (some .int) n "weightHeldBy" := C
  have hl : lv_has ls 4 [(0, .ref (eb E + t)), (1, i3 a1)] := hl
  unfold fn_X4_weightHeldBy at hf
  refine lv_iconst (v := Int32.ofInt 0) C.hx C.hb dX4_weightHeldBy_0 rfl ?_
  refine lv_istore_n (lv' := [(2, i3 0), (0, .ref (eb E + t)), (1, i3 a1)]) C.hx C.hb dX4_weightHeldBy_1 rfl hl (by decide) rfl (fun ls hl => ?_)
  refine lv_iconst (v := Int32.ofInt 0) C.hx C.hb dX4_weightHeldBy_2 rfl ?_
  refine lv_istore_n (lv' := [(3, i3 0), (2, i3 0), (0, .ref (eb E + t)), (1, i3 a1)]) C.hx C.hb dX4_weightHeldBy_3 rfl hl (by decide) rfl (fun ls hl => ?_)
  exact l_X4_weightHeldBy_4 C hn o_t FU _ _ _ _ _ hf hH (lv_sub hl [2, 3, 1, 0] rfl)
