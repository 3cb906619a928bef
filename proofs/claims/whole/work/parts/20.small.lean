-- HeavierByHand$Draws.start
def fn_X0_start (t : Nat) (a1 : Int) (M : Mem) : Option Mem :=
  st M t 0 ((a1 * 7) + 2) fun M7 => some M7
set_option maxRecDepth 100000 in
set_option maxHeartbeats 4000000 in
theorem m_X0_start {E : EE} {l : Launch} {n : Nat} {t : Nat} {a1 : Int} {M : Mem} {o : Mem} (hn : nfull n) (o_t : ob n t 0) (hf : fn_X0_start t a1 M = some o) : CT E l yX0_start cX0_start 2 none 0 0 0 0 [.ref (eb E + t), i3 a1] n (zf n) M none n (zf n) o := by
  refine CT_of PN_RX0 (Nat.le_of_ble_eq_true rfl) ?_
  intro p e s m args below meth c C hH ls hl
  replace C : Cx E p s m args meth c cX0_start 2 RX0 none n "start" := C
  have hl : lv_has ls 2 [(0, .ref (eb E + t)), (1, i3 a1)] := hl
  unfold fn_X0_start at hf
  refine lv_aload_n C.hx C.hb dX0_start_0 rfl (lv_at hl 0 rfl) ?_
  refine lv_iload_n C.hx C.hb dX0_start_1 rfl (lv_at hl 1 rfl) ?_
  refine lv_bipush (v := Int32.ofInt 7) C.hx C.hb dX0_start_2 (by decide) ?_
  refine w_imul C dX0_start_4 ?_
  refine lv_iconst (v := Int32.ofInt 2) C.hx C.hb dX0_start_5 rfl ?_
  refine w_iadd C dX0_start_6 ?_
  refine r_put C hH o_t (by decide) rfl FL_RX0_7 FW_0_0 hf dX0_start_7 (fun M7 H locs hf hH => ?_)
  cases hf
  exact w_vret C hH dX0_start_10
-- HeavierByHand$Draws.draw
def fn_X0_draw (t : Nat) (a1 : Int) (M : Mem) : Option (Int × Mem) :=
  cLt a1 1 (some (0, M)) (ck (R3 (M t 0) ∧ R3 a1 ∧ a1 ≠ (0 : Int)) <| nm (((M t 0).tmod a1)) fun v2_13 => ck (R3 (((M t 0) * 227) + 59) ∧ R3 30137 ∧ 30137 ≠ (0 : Int)) <| st M t 0 ((((M t 0) * 227) + 59).tmod 30137) fun M30 => some (v2_13, M30))
set_option maxRecDepth 100000 in
set_option maxHeartbeats 4000000 in
theorem m_X0_draw {E : EE} {l : Launch} {n : Nat} {t : Nat} {a1 : Int} {M : Mem} {o : (Int × Mem)} (hn : nfull n) (o_t : ob n t 0) (hf : fn_X0_draw t a1 M = some o) : CT E l yX0_draw cX0_draw 3 (some .int) 0 0 0 0 [.ref (eb E + t), i3 a1] n (zf n) M (some (i3 o.1)) n (zf n) o.2 := by
  refine CT_of PN_RX0 (Nat.le_of_ble_eq_true rfl) ?_
  intro p e s m args below meth c C hH ls hl
  replace C : Cx E p s m args meth c cX0_draw 3 RX0 (some .int) n "draw" := C
  have hl : lv_has ls 3 [(0, .ref (eb E + t)), (1, i3 a1)] := hl
  unfold fn_X0_draw at hf
  refine lv_iload_n C.hx C.hb dX0_draw_0 rfl (lv_at hl 1 rfl) ?_
  refine lv_iconst (v := Int32.ofInt 1) C.hx C.hb dX0_draw_1 rfl ?_
  refine w_ge (tgt := 7) C hf dX0_draw_2 (by decide) (fun hf => ?_) (fun hf => ?_)
  · refine lv_aload_n C.hx C.hb dX0_draw_7 rfl (lv_at hl 0 rfl) ?_
    refine g_int C hH o_t (by decide) rfl FL_RX0_7 dX0_draw_8 ?_
    refine lv_iload_n C.hx C.hb dX0_draw_11 rfl (lv_at hl 1 rfl) ?_
    obtain ⟨hR8, hf⟩ := ck_of hf
    refine w_irem C hR8 dX0_draw_12 ?_
    refine r_nm hf (fun v2_13 hf => ?_)
    refine lv_istore_n (lv' := [(2, i3 v2_13), (0, .ref (eb E + t)), (1, i3 a1)]) C.hx C.hb dX0_draw_13 rfl hl (by decide) rfl (fun ls hl => ?_)
    refine lv_aload_n C.hx C.hb dX0_draw_14 rfl (lv_at hl 1 rfl) ?_
    refine lv_aload_n C.hx C.hb dX0_draw_15 rfl (lv_at hl 1 rfl) ?_
    refine g_int C hH o_t (by decide) rfl FL_RX0_7 dX0_draw_16 ?_
    refine lv_sipush (v := Int32.ofInt 227) C.hx C.hb dX0_draw_19 (by decide) ?_
    refine w_imul C dX0_draw_22 ?_
    refine lv_bipush (v := Int32.ofInt 59) C.hx C.hb dX0_draw_23 (by decide) ?_
    refine w_iadd C dX0_draw_25 ?_
    refine lv_sipush (v := Int32.ofInt 30137) C.hx C.hb dX0_draw_26 (by decide) ?_
    obtain ⟨hR8, hf⟩ := ck_of hf
    refine w_irem C hR8 dX0_draw_29 ?_
    refine r_put C hH o_t (by decide) rfl FL_RX0_7 FW_0_0 hf dX0_draw_30 (fun M30 H locs hf hH => ?_)
    refine lv_iload_n C.hx C.hb dX0_draw_33 rfl (lv_at hl 0 rfl) ?_
    cases hf
    exact w_iret C hH dX0_draw_34
  · refine lv_iconst (v := Int32.ofInt 0) C.hx C.hb dX0_draw_5 rfl ?_
    cases hf
    exact w_iret C hH dX0_draw_6
-- HeavierByHand$Steps.copyOf
def fn_X5_copyOf (t : Nat) (r1 : Nat) (M : Mem) : Option Mem :=
  cm M (r1 + 1) (t + 1) 40 fun M12 => cm M12 (r1 + 2) (t + 2) 40 fun M27 => cm M27 (r1 + 3) (t + 3) 40 fun M42 => cm M42 (r1 + 4) (t + 4) 40 fun M57 => st M57 t 4 (M57 r1 4) fun M65 => st M65 t 5 (M65 r1 5) fun M73 => some M73
set_option maxRecDepth 100000 in
set_option maxHeartbeats 4000000 in
theorem m_X5_copyOf {E : EE} {l : Launch} {n : Nat} {t : Nat} {r1 : Nat} {M : Mem} {o : Mem} (hn : nfull n) (o_t : ob n t 5) (o_r1 : ob n r1 5) (hf : fn_X5_copyOf t r1 M = some o) : CT E l yX5_copyOf cX5_copyOf 2 none 4 120 0 0 [.ref (eb E + t), .ref (eb E + r1)] n (zf n) M none n (zf n) o := by
  refine CT_of PN_RX5 (Nat.le_of_ble_eq_true rfl) ?_
  intro p e s m args below meth c C hH ls hl
  replace C : Cx E p s m args meth c cX5_copyOf 2 RX5 none n "copyOf" := C
  have hl : lv_has ls 2 [(0, .ref (eb E + t)), (1, .ref (eb E + r1))] := hl
  unfold fn_X5_copyOf at hf
  refine lv_aload_n C.hx C.hb dX5_copyOf_0 rfl (lv_at hl 1 rfl) ?_
  refine g_ref (off := 1) C hH o_r1 (by decide) rfl rfl FL_RX5_9 dX5_copyOf_1 ?_
  refine lv_iconst (v := Int32.ofInt 0) C.hx C.hb dX5_copyOf_4 rfl ?_
  refine lv_aload_n C.hx C.hb dX5_copyOf_5 rfl (lv_at hl 0 rfl) ?_
  refine g_ref (off := 1) C hH o_t (by decide) rfl rfl FL_RX5_9 dX5_copyOf_6 ?_
  refine lv_iconst (v := Int32.ofInt 0) C.hx C.hb dX5_copyOf_9 rfl ?_
  refine lv_bipush (v := Int32.ofInt 40) C.hx C.hb dX5_copyOf_10 (by decide) ?_
  refine r_copy (N := 40) (rest := []) C hH hl (ly (i := 0) (off := 1) (k := 12) hn o_r1 rfl rfl rfl) (ly (i := 0) (off := 1) (k := 12) hn o_t rfl rfl rfl) (lyn (i := 0) (off := 1) (N := 39) hn o_r1 rfl rfl rfl) (lyn (i := 0) (off := 1) (N := 39) hn o_t rfl rfl rfl) (by decide) (by decide) (by decide) hf ML_RX5_24 (Nat.le_of_ble_eq_true rfl) (Nat.le_of_ble_eq_true rfl) dX5_copyOf_12 (fun M12 H locs hf hH => ?_)
  refine lv_aload_n C.hx C.hb dX5_copyOf_15 rfl (lv_at hl 1 rfl) ?_
  refine g_ref (off := 2) C hH o_r1 (by decide) rfl rfl FL_RX5_15 dX5_copyOf_16 ?_
  refine lv_iconst (v := Int32.ofInt 0) C.hx C.hb dX5_copyOf_19 rfl ?_
  refine lv_aload_n C.hx C.hb dX5_copyOf_20 rfl (lv_at hl 0 rfl) ?_
  refine g_ref (off := 2) C hH o_t (by decide) rfl rfl FL_RX5_15 dX5_copyOf_21 ?_
  refine lv_iconst (v := Int32.ofInt 0) C.hx C.hb dX5_copyOf_24 rfl ?_
  refine lv_bipush (v := Int32.ofInt 40) C.hx C.hb dX5_copyOf_25 (by decide) ?_
  refine r_copy (N := 40) (rest := []) C hH hl (ly (i := 1) (off := 2) (k := 12) hn o_r1 rfl rfl rfl) (ly (i := 1) (off := 2) (k := 12) hn o_t rfl rfl rfl) (lyn (i := 1) (off := 2) (N := 39) hn o_r1 rfl rfl rfl) (lyn (i := 1) (off := 2) (N := 39) hn o_t rfl rfl rfl) (by decide) (by decide) (by decide) hf ML_RX5_24 (Nat.le_of_ble_eq_true rfl) (Nat.le_of_ble_eq_true rfl) dX5_copyOf_27 (fun M27 H locs hf hH => ?_)
  refine lv_aload_n C.hx C.hb dX5_copyOf_30 rfl (lv_at hl 1 rfl) ?_
  refine g_ref (off := 3) C hH o_r1 (by decide) rfl rfl FL_RX5_18 dX5_copyOf_31 ?_
  refine lv_iconst (v := Int32.ofInt 0) C.hx C.hb dX5_copyOf_34 rfl ?_
  refine lv_aload_n C.hx C.hb dX5_copyOf_35 rfl (lv_at hl 0 rfl) ?_
  refine g_ref (off := 3) C hH o_t (by decide) rfl rfl FL_RX5_18 dX5_copyOf_36 ?_
  refine lv_iconst (v := Int32.ofInt 0) C.hx C.hb dX5_copyOf_39 rfl ?_
  refine lv_bipush (v := Int32.ofInt 40) C.hx C.hb dX5_copyOf_40 (by decide) ?_
  refine r_copy (N := 40) (rest := []) C hH hl (ly (i := 2) (off := 3) (k := 12) hn o_r1 rfl rfl rfl) (ly (i := 2) (off := 3) (k := 12) hn o_t rfl rfl rfl) (lyn (i := 2) (off := 3) (N := 39) hn o_r1 rfl rfl rfl) (lyn (i := 2) (off := 3) (N := 39) hn o_t rfl rfl rfl) (by decide) (by decide) (by decide) hf ML_RX5_24 (Nat.le_of_ble_eq_true rfl) (Nat.le_of_ble_eq_true rfl) dX5_copyOf_42 (fun M42 H locs hf hH => ?_)
  refine lv_aload_n C.hx C.hb dX5_copyOf_45 rfl (lv_at hl 1 rfl) ?_
  refine g_ref (off := 4) C hH o_r1 (by decide) rfl rfl FL_RX5_21 dX5_copyOf_46 ?_
  refine lv_iconst (v := Int32.ofInt 0) C.hx C.hb dX5_copyOf_49 rfl ?_
  refine lv_aload_n C.hx C.hb dX5_copyOf_50 rfl (lv_at hl 0 rfl) ?_
  refine g_ref (off := 4) C hH o_t (by decide) rfl rfl FL_RX5_21 dX5_copyOf_51 ?_
  refine lv_iconst (v := Int32.ofInt 0) C.hx C.hb dX5_copyOf_54 rfl ?_
  refine lv_bipush (v := Int32.ofInt 40) C.hx C.hb dX5_copyOf_55 (by decide) ?_
  refine r_copy (N := 40) (rest := []) C hH hl (ly (i := 3) (off := 4) (k := 12) hn o_r1 rfl rfl rfl) (ly (i := 3) (off := 4) (k := 12) hn o_t rfl rfl rfl) (lyn (i := 3) (off := 4) (N := 39) hn o_r1 rfl rfl rfl) (lyn (i := 3) (off := 4) (N := 39) hn o_t rfl rfl rfl) (by decide) (by decide) (by decide) hf ML_RX5_24 (Nat.le_of_ble_eq_true rfl) (Nat.le_of_ble_eq_true rfl) dX5_copyOf_57 (fun M57 H locs hf hH => ?_)
  refine lv_aload_n C.hx C.hb dX5_copyOf_60 rfl (lv_at hl 0 rfl) ?_
  refine lv_aload_n C.hx C.hb dX5_copyOf_61 rfl (lv_at hl 1 rfl) ?_
  refine g_int C hH o_r1 (by decide) rfl FL_RX5_30 dX5_copyOf_62 ?_
  refine r_put C hH o_t (by decide) rfl FL_RX5_30 FW_5_4 hf dX5_copyOf_65 (fun M65 H locs hf hH => ?_)
  refine lv_aload_n C.hx C.hb dX5_copyOf_68 rfl (lv_at hl 0 rfl) ?_
  refine lv_aload_n C.hx C.hb dX5_copyOf_69 rfl (lv_at hl 1 rfl) ?_
  refine g_int C hH o_r1 (by decide) rfl FL_RX5_34 dX5_copyOf_70 ?_
  refine r_put C hH o_t (by decide) rfl FL_RX5_34 FW_5_5 hf dX5_copyOf_73 (fun M73 H locs hf hH => ?_)
  cases hf
  exact w_vret C hH dX5_copyOf_76
-- HeavierByHand$Steps.push
def fn_X5_push (t : Nat) (a1 : Int) (a2 : Int) (a3 : Int) (a4 : Int) (M : Mem) : Option Mem :=
  cLt (M t 4) 0 (some M) (cLt (M t 4) 40 (wr M (t + 1) 40 (M t 4) a1 fun M26 => wr M26 (t + 2) 40 (M26 t 4) a2 fun M36 => wr M36 (t + 3) 40 (M36 t 4) a3 fun M46 => wr M46 (t + 4) 40 (M46 t 4) a4 fun M57 => ck (R3 ((M57 t 4) + 1) ∧ R3 40 ∧ 40 ≠ (0 : Int)) <| st M57 t 4 (((M57 t 4) + 1).tmod 40) fun M68 => ck (R3 ((M68 t 5) + 1) ∧ R3 40) <| st M68 t 5 (min ((M68 t 5) + 1) 40) fun M83 => some M83) (some M))
set_option maxRecDepth 100000 in
set_option maxHeartbeats 4000000 in
theorem m_X5_push {E : EE} {l : Launch} {n : Nat} {t : Nat} {a1 : Int} {a2 : Int} {a3 : Int} {a4 : Int} {M : Mem} {o : Mem} (hn : nfull n) (o_t : ob n t 5) (hf : fn_X5_push t a1 a2 a3 a4 M = some o) : CT E l yX5_push cX5_push 5 none 4 120 0 0 [.ref (eb E + t), i3 a1, i3 a2, i3 a3, i3 a4] n (zf n) M none n (zf n) o := by
  refine CT_of PN_RX5 (Nat.le_of_ble_eq_true rfl) ?_
  intro p e s m args below meth c C hH ls hl
  replace C : Cx E p s m args meth c cX5_push 5 RX5 none n "push" := C
  have hl : lv_has ls 5 [(0, .ref (eb E + t)), (1, i3 a1), (2, i3 a2), (3, i3 a3), (4, i3 a4)] := hl
  unfold fn_X5_push at hf
  refine lv_aload_n C.hx C.hb dX5_push_0 rfl (lv_at hl 0 rfl) ?_
  refine g_int C hH o_t (by decide) rfl FL_RX5_30 dX5_push_1 ?_
  refine w_lt0 (tgt := 16) C hf dX5_push_4 (by decide) (fun hf => ?_) (fun hf => ?_)
  · cases hf
    exact w_vret C hH dX5_push_16
  · refine lv_aload_n C.hx C.hb dX5_push_7 rfl (lv_at hl 0 rfl) ?_
    refine g_int C hH o_t (by decide) rfl FL_RX5_30 dX5_push_8 ?_
    refine lv_bipush (v := Int32.ofInt 40) C.hx C.hb dX5_push_11 (by decide) ?_
    refine w_lt (tgt := 17) C hf dX5_push_13 (by decide) (fun hf => ?_) (fun hf => ?_)
    · refine lv_aload_n C.hx C.hb dX5_push_17 rfl (lv_at hl 0 rfl) ?_
      refine g_ref (off := 1) C hH o_t (by decide) rfl rfl FL_RX5_9 dX5_push_18 ?_
      refine lv_aload_n C.hx C.hb dX5_push_21 rfl (lv_at hl 0 rfl) ?_
      refine g_int C hH o_t (by decide) rfl FL_RX5_30 dX5_push_22 ?_
      refine lv_iload_n C.hx C.hb dX5_push_25 rfl (lv_at hl 1 rfl) ?_
      refine r_iast C hH (ly (i := 0) (off := 1) (k := 12) hn o_t rfl rfl rfl) (lyn (i := 0) (off := 1) (N := 39) hn o_t rfl rfl rfl) hf dX5_push_26 (fun M26 H locs hf hH => ?_)
      refine lv_aload_n C.hx C.hb dX5_push_27 rfl (lv_at hl 0 rfl) ?_
      refine g_ref (off := 2) C hH o_t (by decide) rfl rfl FL_RX5_15 dX5_push_28 ?_
      refine lv_aload_n C.hx C.hb dX5_push_31 rfl (lv_at hl 0 rfl) ?_
      refine g_int C hH o_t (by decide) rfl FL_RX5_30 dX5_push_32 ?_
      refine lv_iload_n C.hx C.hb dX5_push_35 rfl (lv_at hl 2 rfl) ?_
      refine r_iast C hH (ly (i := 1) (off := 2) (k := 12) hn o_t rfl rfl rfl) (lyn (i := 1) (off := 2) (N := 39) hn o_t rfl rfl rfl) hf dX5_push_36 (fun M36 H locs hf hH => ?_)
      refine lv_aload_n C.hx C.hb dX5_push_37 rfl (lv_at hl 0 rfl) ?_
      refine g_ref (off := 3) C hH o_t (by decide) rfl rfl FL_RX5_18 dX5_push_38 ?_
      refine lv_aload_n C.hx C.hb dX5_push_41 rfl (lv_at hl 0 rfl) ?_
      refine g_int C hH o_t (by decide) rfl FL_RX5_30 dX5_push_42 ?_
      refine lv_iload_n C.hx C.hb dX5_push_45 rfl (lv_at hl 3 rfl) ?_
      refine r_iast C hH (ly (i := 2) (off := 3) (k := 12) hn o_t rfl rfl rfl) (lyn (i := 2) (off := 3) (N := 39) hn o_t rfl rfl rfl) hf dX5_push_46 (fun M46 H locs hf hH => ?_)
      refine lv_aload_n C.hx C.hb dX5_push_47 rfl (lv_at hl 0 rfl) ?_
      refine g_ref (off := 4) C hH o_t (by decide) rfl rfl FL_RX5_21 dX5_push_48 ?_
      refine lv_aload_n C.hx C.hb dX5_push_51 rfl (lv_at hl 0 rfl) ?_
      refine g_int C hH o_t (by decide) rfl FL_RX5_30 dX5_push_52 ?_
      refine lv_iload C.hx C.hb dX5_push_55 (lv_at hl 4 rfl) ?_
      refine r_iast C hH (ly (i := 3) (off := 4) (k := 12) hn o_t rfl rfl rfl) (lyn (i := 3) (off := 4) (N := 39) hn o_t rfl rfl rfl) hf dX5_push_57 (fun M57 H locs hf hH => ?_)
      refine lv_aload_n C.hx C.hb dX5_push_58 rfl (lv_at hl 0 rfl) ?_
      refine lv_aload_n C.hx C.hb dX5_push_59 rfl (lv_at hl 0 rfl) ?_
      refine g_int C hH o_t (by decide) rfl FL_RX5_30 dX5_push_60 ?_
      refine lv_iconst (v := Int32.ofInt 1) C.hx C.hb dX5_push_63 rfl ?_
      refine w_iadd C dX5_push_64 ?_
      refine lv_bipush (v := Int32.ofInt 40) C.hx C.hb dX5_push_65 (by decide) ?_
      obtain ⟨hR8, hf⟩ := ck_of hf
      refine w_irem C hR8 dX5_push_67 ?_
      refine r_put C hH o_t (by decide) rfl FL_RX5_30 FW_5_4 hf dX5_push_68 (fun M68 H locs hf hH => ?_)
      refine lv_aload_n C.hx C.hb dX5_push_71 rfl (lv_at hl 0 rfl) ?_
      refine lv_aload_n C.hx C.hb dX5_push_72 rfl (lv_at hl 0 rfl) ?_
      refine g_int C hH o_t (by decide) rfl FL_RX5_34 dX5_push_73 ?_
      refine lv_iconst (v := Int32.ofInt 1) C.hx C.hb dX5_push_76 rfl ?_
      refine w_iadd C dX5_push_77 ?_
      refine lv_bipush (v := Int32.ofInt 40) C.hx C.hb dX5_push_78 (by decide) ?_
      obtain ⟨hR8, hf⟩ := ck_of hf
      refine w_min C hl.1 hR8 ML_RX5_37 LB_min LB_mathi LB_minc (Nat.le_of_ble_eq_true rfl) (Nat.le_of_ble_eq_true rfl) (Nat.le_refl _) (Nat.le_refl _) dX5_push_80 ?_
      refine r_put C hH o_t (by decide) rfl FL_RX5_34 FW_5_5 hf dX5_push_83 (fun M83 H locs hf hH => ?_)
      cases hf
      exact w_vret C hH dX5_push_86
    · cases hf
      exact w_vret C hH dX5_push_16
-- HeavierByHand$Steps.pop
def fn_X5_pop (t : Nat) (M : Mem) : Option (Int × Mem) :=
  cLt (M t 5) 1 (some ((-1), M)) (st M t 5 ((M t 5) - 1) fun M17 => ck (R3 (((M17 t 4) + 40) - 1) ∧ R3 40 ∧ 40 ≠ (0 : Int)) <| st M17 t 4 ((((M17 t 4) + 40) - 1).tmod 40) fun M33 => some ((M33 t 4), M33))
set_option maxRecDepth 100000 in
set_option maxHeartbeats 4000000 in
theorem m_X5_pop {E : EE} {l : Launch} {n : Nat} {t : Nat} {M : Mem} {o : (Int × Mem)} (hn : nfull n) (o_t : ob n t 5) (hf : fn_X5_pop t M = some o) : CT E l yX5_pop cX5_pop 1 (some .int) 0 0 0 0 [.ref (eb E + t)] n (zf n) M (some (i3 o.1)) n (zf n) o.2 := by
  refine CT_of PN_RX5 (Nat.le_of_ble_eq_true rfl) ?_
  intro p e s m args below meth c C hH ls hl
  replace C : Cx E p s m args meth c cX5_pop 1 RX5 (some .int) n "pop" := C
  have hl : lv_has ls 1 [(0, .ref (eb E + t))] := hl
  unfold fn_X5_pop at hf
  refine lv_aload_n C.hx C.hb dX5_pop_0 rfl (lv_at hl 0 rfl) ?_
  refine g_int C hH o_t (by decide) rfl FL_RX5_34 dX5_pop_1 ?_
  refine lv_iconst (v := Int32.ofInt 1) C.hx C.hb dX5_pop_4 rfl ?_
  refine w_ge (tgt := 10) C hf dX5_pop_5 (by decide) (fun hf => ?_) (fun hf => ?_)
  · refine lv_aload_n C.hx C.hb dX5_pop_10 rfl (lv_at hl 0 rfl) ?_
    refine lv_dup C.hx C.hb dX5_pop_11 rfl ?_
    refine g_int C hH o_t (by decide) rfl FL_RX5_34 dX5_pop_12 ?_
    refine lv_iconst (v := Int32.ofInt 1) C.hx C.hb dX5_pop_15 rfl ?_
    refine w_isub C dX5_pop_16 ?_
    refine r_put C hH o_t (by decide) rfl FL_RX5_34 FW_5_5 hf dX5_pop_17 (fun M17 H locs hf hH => ?_)
    refine lv_aload_n C.hx C.hb dX5_pop_20 rfl (lv_at hl 0 rfl) ?_
    refine lv_aload_n C.hx C.hb dX5_pop_21 rfl (lv_at hl 0 rfl) ?_
    refine g_int C hH o_t (by decide) rfl FL_RX5_30 dX5_pop_22 ?_
    refine lv_bipush (v := Int32.ofInt 40) C.hx C.hb dX5_pop_25 (by decide) ?_
    refine w_iadd C dX5_pop_27 ?_
    refine lv_iconst (v := Int32.ofInt 1) C.hx C.hb dX5_pop_28 rfl ?_
    refine w_isub C dX5_pop_29 ?_
    refine lv_bipush (v := Int32.ofInt 40) C.hx C.hb dX5_pop_30 (by decide) ?_
    obtain ⟨hR8, hf⟩ := ck_of hf
    refine w_irem C hR8 dX5_pop_32 ?_
    refine r_put C hH o_t (by decide) rfl FL_RX5_30 FW_5_4 hf dX5_pop_33 (fun M33 H locs hf hH => ?_)
    refine lv_aload_n C.hx C.hb dX5_pop_36 rfl (lv_at hl 0 rfl) ?_
    refine g_int C hH o_t (by decide) rfl FL_RX5_30 dX5_pop_37 ?_
    cases hf
    exact w_iret C hH dX5_pop_40
  · refine lv_iconst (v := Int32.ofInt (-1)) C.hx C.hb dX5_pop_8 rfl ?_
    cases hf
    exact w_iret C hH dX5_pop_9
-- HeavierByHand$Tape.put
def fn_X6_put_J50 (v2_3 : Int) (rec3 : Int → Mem → Option Mem) (M50 : Mem) : Option Mem :=
  nm (v2_3 + (-8)) fun v2_50 => rec3 v2_50 M50
def fn_X6_put_L3 (t : Nat) (a1 : Int) (rec3 : Int → Mem → Option Mem) (v2_3 : Int) (M3 : Mem) : Option Mem :=
  cLt v2_3 0 (some M3) (cLt (M3 t 1) 0 (fn_X6_put_J50 v2_3 rec3 M3) (cLt (M3 t 1) 300 (wr M3 (t + 1) 300 (M3 t 1) (andI (ushrI a1 v2_3) 255) fun M39 => st M39 t 1 ((M39 t 1) + 1) fun M47 => fn_X6_put_J50 v2_3 rec3 M47) (fn_X6_put_J50 v2_3 rec3 M3)))
def fn_X6_put (t : Nat) (a1 : Int) (M : Mem) : Option Mem :=
  lq2 (fn_X6_put_L3 t a1) FU 24 M
set_option maxRecDepth 100000 in
set_option maxHeartbeats 4000000 in
theorem j_X6_put_50 {p : Program} {l : Launch} {e : Env} {s : State} {m : MethodId} {args : Array Value} {below : List Frame} {meth : Method} {c : Code} {E : EE} {n : Nat} {o : Mem} {t : Nat} {a1 : Int} {v2_3 : Int} {rec3 : Int → Mem → Option Mem} {M50 : Mem} {H : Heap} {locs : List Loc} {ls : Array Slot} (C : Cx E p s m args meth c cX6_put 3 RX6 none n "put") (hn : nfull n) (o_t : ob n t 6) (h_rec3 : ∀ {v2_3 : Int} {M3 : Mem} {H : Heap} {locs : List Loc} {ls : Array Slot}, rec3 v2_3 M3 = some o → ST E s n (zf n) M3 H locs → lv_has ls 3 [(0, .ref (eb E + t)), (1, i3 a1), (2, i3 v2_3)] → W p l e { frames := 0, cells := 0, slots := 0, locals := 0 } s m args below meth c H locs 0 0 (MQ below (QC E none n (zf n) o) args s 0 0 (fr E)) (F0 m 3 ls [])) (hf : fn_X6_put_J50 v2_3 rec3 M50 = some o) (hH : ST E s n (zf n) M50 H locs) (hl : lv_has ls 3 [(0, .ref (eb E + t)), (1, i3 a1), (2, i3 v2_3)]) : W p l e { frames := 0, cells := 0, slots := 0, locals := 0 } s m args below meth c H locs 0 0 (MQ below (QC E none n (zf n) o) args s 0 0 (fr E)) (F0 m 50 ls []) := by
  unfold fn_X6_put_J50 at hf
  refine r_iinc (k := 2) (lv' := fun v => [(2, i3 v), (0, .ref (eb E + t)), (1, i3 a1)]) C hf dX6_put_50 hl rfl (by decide) (fun _ => rfl) (fun v2_50 ls hf hl => ?_)
  refine lv_goto (tgt := 3) C.hx C.hb dX6_put_53 (by decide) ?_
  exact h_rec3 hf hH (lv_sub hl [1, 2, 0] rfl)
set_option maxRecDepth 100000 in
set_option maxHeartbeats 4000000 in
theorem l_X6_put_3 {p : Program} {l : Launch} {e : Env} {s : State} {m : MethodId} {args : Array Value} {below : List Frame} {meth : Method} {c : Code} {E : EE} {n : Nat} {o : Mem} {t : Nat} {a1 : Int} (C : Cx E p s m args meth c cX6_put 3 RX6 none n "put") (hn : nfull n) (o_t : ob n t 6) : ∀ (k : Nat) (v2_3 : Int) (M3 : Mem) (H : Heap) (locs : List Loc) (ls : Array Slot), lq2 (fn_X6_put_L3 t a1) k v2_3 M3 = some o → ST E s n (zf n) M3 H locs → lv_has ls 3 [(0, .ref (eb E + t)), (1, i3 a1), (2, i3 v2_3)] → W p l e { frames := 0, cells := 0, slots := 0, locals := 0 } s m args below meth c H locs 0 0 (MQ below (QC E none n (zf n) o) args s 0 0 (fr E)) (F0 m 3 ls []) := by
  intro k
  induction k with
  | zero => intro v2_3 M3 H locs ls hf; cases hf
  | succ k ih =>
    intro v2_3 M3 H locs ls hf hH hl
    have h_rec3 : ∀ {v2_3 : Int} {M3 : Mem} {H : Heap} {locs : List Loc} {ls : Array Slot}, lq2 (fn_X6_put_L3 t a1) k v2_3 M3 = some o → ST E s n (zf n) M3 H locs → lv_has ls 3 [(0, .ref (eb E + t)), (1, i3 a1), (2, i3 v2_3)] → W p l e { frames := 0, cells := 0, slots := 0, locals := 0 } s m args below meth c H locs 0 0 (MQ below (QC E none n (zf n) o) args s 0 0 (fr E)) (F0 m 3 ls []) := fun {v2_3} {M3} {H} {locs} {ls} a b c => ih v2_3 M3 H locs ls a b c
    replace hf : fn_X6_put_L3 t a1 (lq2 (fn_X6_put_L3 t a1) k) v2_3 M3 = some o := hf
    generalize lq2 (fn_X6_put_L3 t a1) k = rec3 at hf h_rec3
    unfold fn_X6_put_L3 at hf
    refine lv_iload_n C.hx C.hb dX6_put_3 rfl (lv_at hl 2 rfl) ?_
    refine w_lt0 (tgt := 56) C hf dX6_put_4 (by decide) (fun hf => ?_) (fun hf => ?_)
    · cases hf
      exact w_vret C hH dX6_put_56
    · refine lv_aload_n C.hx C.hb dX6_put_7 rfl (lv_at hl 0 rfl) ?_
      refine g_int C hH o_t (by decide) rfl FL_RX6_15 dX6_put_8 ?_
      refine w_lt0 (tgt := 50) C hf dX6_put_11 (by decide) (fun hf => ?_) (fun hf => ?_)
      · exact j_X6_put_50 C hn o_t h_rec3 hf hH (lv_sub hl [0, 1, 2] rfl)
      · refine lv_aload_n C.hx C.hb dX6_put_14 rfl (lv_at hl 0 rfl) ?_
        refine g_int C hH o_t (by decide) rfl FL_RX6_15 dX6_put_15 ?_
        refine lv_sipush (v := Int32.ofInt 300) C.hx C.hb dX6_put_18 (by decide) ?_
        refine w_ge (tgt := 50) C hf dX6_put_21 (by decide) (fun hf => ?_) (fun hf => ?_)
        · exact j_X6_put_50 C hn o_t h_rec3 hf hH (lv_sub hl [0, 1, 2] rfl)
        · refine lv_aload_n C.hx C.hb dX6_put_24 rfl (lv_at hl 0 rfl) ?_
          refine g_ref (off := 1) C hH o_t (by decide) rfl rfl FL_RX6_9 dX6_put_25 ?_
          refine lv_aload_n C.hx C.hb dX6_put_28 rfl (lv_at hl 0 rfl) ?_
          refine g_int C hH o_t (by decide) rfl FL_RX6_15 dX6_put_29 ?_
          refine lv_iload_n C.hx C.hb dX6_put_32 rfl (lv_at hl 1 rfl) ?_
          refine lv_iload_n C.hx C.hb dX6_put_33 rfl (lv_at hl 2 rfl) ?_
          refine w_iushr C dX6_put_34 ?_
          refine lv_sipush (v := Int32.ofInt 255) C.hx C.hb dX6_put_35 (by decide) ?_
          refine w_iand C dX6_put_38 ?_
          refine r_iast C hH (ly (i := 0) (off := 1) (k := 12) hn o_t rfl rfl rfl) (lyn (i := 0) (off := 1) (N := 299) hn o_t rfl rfl rfl) hf dX6_put_39 (fun M39 H locs hf hH => ?_)
          refine lv_aload_n C.hx C.hb dX6_put_40 rfl (lv_at hl 0 rfl) ?_
          refine lv_dup C.hx C.hb dX6_put_41 rfl ?_
          refine g_int C hH o_t (by decide) rfl FL_RX6_15 dX6_put_42 ?_
          refine lv_iconst (v := Int32.ofInt 1) C.hx C.hb dX6_put_45 rfl ?_
          refine w_iadd C dX6_put_46 ?_
          refine r_put C hH o_t (by decide) rfl FL_RX6_15 FW_6_1 hf dX6_put_47 (fun M47 H locs hf hH => ?_)
          exact j_X6_put_50 C hn o_t h_rec3 hf hH (lv_sub hl [0, 1, 2] rfl)
set_option maxRecDepth 100000 in
set_option maxHeartbeats 4000000 in
theorem m_X6_put {E : EE} {l : Launch} {n : Nat} {t : Nat} {a1 : Int} {M : Mem} {o : Mem} (hn : nfull n) (o_t : ob n t 6) (hf : fn_X6_put t a1 M = some o) : CT E l yX6_put cX6_put 3 none 0 0 0 0 [.ref (eb E + t), i3 a1] n (zf n) M none n (zf n) o := by
  refine CT_of PN_RX6 (Nat.le_of_ble_eq_true rfl) ?_
  intro p e s m args below meth c C hH ls hl
  replace C : Cx E p s m args meth c cX6_put 3 RX6 none n "put" := C
  have hl : lv_has ls 3 [(0, .ref (eb E + t)), (1, i3 a1)] := hl
  unfold fn_X6_put at hf
  refine lv_bipush (v := Int32.ofInt 24) C.hx C.hb dX6_put_0 (by decide) ?_
  refine lv_istore_n (lv' := [(2, i3 24), (0, .ref (eb E + t)), (1, i3 a1)]) C.hx C.hb dX6_put_2 rfl hl (by decide) rfl (fun ls hl => ?_)
  exact l_X6_put_3 C hn o_t FU _ _ _ _ _ hf hH (lv_sub hl [1, 2, 0] rfl)
-- HeavierByHand$Tape.byteAt
def fn_X6_byteAt_J28 : Option Int :=
  some (-1)
def fn_X6_byteAt (t : Nat) (a1 : Int) (M : Mem) : Option Int :=
  cLt a1 0 (fn_X6_byteAt_J28) (cLt a1 (M t 1) (cLt a1 300 (rd M (t + 1) 300 a1 fun x24 => some x24) (fn_X6_byteAt_J28)) (fn_X6_byteAt_J28))
set_option maxRecDepth 100000 in
set_option maxHeartbeats 4000000 in
theorem j_X6_byteAt_28 {p : Program} {l : Launch} {e : Env} {s : State} {m : MethodId} {args : Array Value} {below : List Frame} {meth : Method} {c : Code} {E : EE} {n : Nat} {o : Int} {M : Mem} {H : Heap} {locs : List Loc} {ls : Array Slot} (C : Cx E p s m args meth c cX6_byteAt 2 RX6 (some .int) n "byteAt") (hn : nfull n) (hf : fn_X6_byteAt_J28 = some o) (hH : ST E s n (zf n) M H locs) (hl : lv_has ls 2 []) : W p l e { frames := 0, cells := 0, slots := 0, locals := 0 } s m args below meth c H locs 0 0 (MQ below (QC E (some (i3 o)) n (zf n) M) args s 0 0 (fr E)) (F0 m 28 ls []) := by
  unfold fn_X6_byteAt_J28 at hf
  refine lv_iconst (v := Int32.ofInt (-1)) C.hx C.hb dX6_byteAt_28 rfl ?_
  cases hf
  exact w_iret C hH dX6_byteAt_29
set_option maxRecDepth 100000 in
set_option maxHeartbeats 4000000 in
theorem m_X6_byteAt {E : EE} {l : Launch} {n : Nat} {t : Nat} {a1 : Int} {M : Mem} {o : Int} (hn : nfull n) (o_t : ob n t 6) (hf : fn_X6_byteAt t a1 M = some o) : CT E l yX6_byteAt cX6_byteAt 2 (some .int) 0 0 0 0 [.ref (eb E + t), i3 a1] n (zf n) M (some (i3 o)) n (zf n) M := by
  refine CT_of PN_RX6 (Nat.le_of_ble_eq_true rfl) ?_
  intro p e s m args below meth c C hH ls hl
  replace C : Cx E p s m args meth c cX6_byteAt 2 RX6 (some .int) n "byteAt" := C
  have hl : lv_has ls 2 [(0, .ref (eb E + t)), (1, i3 a1)] := hl
  unfold fn_X6_byteAt at hf
  refine lv_iload_n C.hx C.hb dX6_byteAt_0 rfl (lv_at hl 1 rfl) ?_
  refine w_lt0 (tgt := 28) C hf dX6_byteAt_1 (by decide) (fun hf => ?_) (fun hf => ?_)
  · exact j_X6_byteAt_28 C hn hf hH (lv_sub hl [] rfl)
  · refine lv_iload_n C.hx C.hb dX6_byteAt_4 rfl (lv_at hl 1 rfl) ?_
    refine lv_aload_n C.hx C.hb dX6_byteAt_5 rfl (lv_at hl 0 rfl) ?_
    refine g_int C hH o_t (by decide) rfl FL_RX6_15 dX6_byteAt_6 ?_
    refine w_ge (tgt := 28) C hf dX6_byteAt_9 (by decide) (fun hf => ?_) (fun hf => ?_)
    · exact j_X6_byteAt_28 C hn hf hH (lv_sub hl [] rfl)
    · refine lv_iload_n C.hx C.hb dX6_byteAt_12 rfl (lv_at hl 1 rfl) ?_
      refine lv_sipush (v := Int32.ofInt 300) C.hx C.hb dX6_byteAt_13 (by decide) ?_
      refine w_ge (tgt := 28) C hf dX6_byteAt_16 (by decide) (fun hf => ?_) (fun hf => ?_)
      · exact j_X6_byteAt_28 C hn hf hH (lv_sub hl [] rfl)
      · refine lv_aload_n C.hx C.hb dX6_byteAt_19 rfl (lv_at hl 0 rfl) ?_
        refine g_ref (off := 1) C hH o_t (by decide) rfl rfl FL_RX6_9 dX6_byteAt_20 ?_
        refine lv_iload_n C.hx C.hb dX6_byteAt_23 rfl (lv_at hl 1 rfl) ?_
        refine r_iald C hH (ly (i := 0) (off := 1) (k := 12) hn o_t rfl rfl rfl) (lyn (i := 0) (off := 1) (N := 299) hn o_t rfl rfl rfl) hf dX6_byteAt_24 (fun x24 hf => ?_)
        refine lv_goto (tgt := 29) C.hx C.hb dX6_byteAt_25 (by decide) ?_
        cases hf
        exact w_iret C hH dX6_byteAt_29
-- HeavierByHand$Text.clear
def fn_X7_clear (t : Nat) (M : Mem) : Option Mem :=
  st M t 1 0 fun M2 => st M2 t 2 0 fun M7 => st M7 t 3 0 fun M12 => st M12 t 4 0 fun M17 => st M17 t 5 0 fun M22 => st M22 t 9 0 fun M27 => some M27
set_option maxRecDepth 100000 in
set_option maxHeartbeats 4000000 in
theorem m_X7_clear {E : EE} {l : Launch} {n : Nat} {t : Nat} {M : Mem} {o : Mem} (hn : nfull n) (o_t : ob n t 7) (hf : fn_X7_clear t M = some o) : CT E l yX7_clear cX7_clear 1 none 0 0 0 0 [.ref (eb E + t)] n (zf n) M none n (zf n) o := by
  refine CT_of PN_RX7 (Nat.le_of_ble_eq_true rfl) ?_
  intro p e s m args below meth c C hH ls hl
  replace C : Cx E p s m args meth c cX7_clear 1 RX7 none n "clear" := C
  have hl : lv_has ls 1 [(0, .ref (eb E + t))] := hl
  unfold fn_X7_clear at hf
  refine lv_aload_n C.hx C.hb dX7_clear_0 rfl (lv_at hl 0 rfl) ?_
  refine lv_iconst (v := Int32.ofInt 0) C.hx C.hb dX7_clear_1 rfl ?_
  refine r_put C hH o_t (by decide) rfl FL_RX7_24 FW_7_1 hf dX7_clear_2 (fun M2 H locs hf hH => ?_)
  refine lv_aload_n C.hx C.hb dX7_clear_5 rfl (lv_at hl 0 rfl) ?_
  refine lv_iconst (v := Int32.ofInt 0) C.hx C.hb dX7_clear_6 rfl ?_
  refine r_put C hH o_t (by decide) rfl FL_RX7_28 FW_7_2 hf dX7_clear_7 (fun M7 H locs hf hH => ?_)
  refine lv_aload_n C.hx C.hb dX7_clear_10 rfl (lv_at hl 0 rfl) ?_
  refine lv_iconst (v := Int32.ofInt 0) C.hx C.hb dX7_clear_11 rfl ?_
  refine r_put C hH o_t (by decide) rfl FL_RX7_31 FW_7_3 hf dX7_clear_12 (fun M12 H locs hf hH => ?_)
  refine lv_aload_n C.hx C.hb dX7_clear_15 rfl (lv_at hl 0 rfl) ?_
  refine lv_iconst (v := Int32.ofInt 0) C.hx C.hb dX7_clear_16 rfl ?_
  refine r_put C hH o_t (by decide) rfl FL_RX7_34 FW_7_4 hf dX7_clear_17 (fun M17 H locs hf hH => ?_)
  refine lv_aload_n C.hx C.hb dX7_clear_20 rfl (lv_at hl 0 rfl) ?_
  refine lv_iconst (v := Int32.ofInt 0) C.hx C.hb dX7_clear_21 rfl ?_
  refine r_put C hH o_t (by decide) rfl FL_RX7_37 FW_7_5 hf dX7_clear_22 (fun M22 H locs hf hH => ?_)
  refine lv_aload_n C.hx C.hb dX7_clear_25 rfl (lv_at hl 0 rfl) ?_
  refine lv_iconst (v := Int32.ofInt 0) C.hx C.hb dX7_clear_26 rfl ?_
  refine r_put C hH o_t (by decide) rfl FL_RX7_40 FW_7_9 hf dX7_clear_27 (fun M27 H locs hf hH => ?_)
  cases hf
  exact w_vret C hH dX7_clear_30
-- HeavierByHand$Text.copyOf
def fn_X7_copyOf (t : Nat) (r1 : Nat) (M : Mem) : Option Mem :=
  cm M (r1 + 1) (t + 1) 300 fun M13 => cm M13 (r1 + 2) (t + 2) 20 fun M28 => cm M28 (r1 + 3) (t + 3) 20 fun M43 => cm M43 (r1 + 4) (t + 4) 20 fun M58 => st M58 t 1 (M58 r1 1) fun M66 => st M66 t 2 (M66 r1 2) fun M74 => st M74 t 3 (M74 r1 3) fun M82 => st M82 t 4 (M82 r1 4) fun M90 => st M90 t 5 (M90 r1 5) fun M98 => st M98 t 9 (M98 r1 9) fun M106 => some M106
set_option maxRecDepth 100000 in
set_option maxHeartbeats 4000000 in
theorem m_X7_copyOf {E : EE} {l : Launch} {n : Nat} {t : Nat} {r1 : Nat} {M : Mem} {o : Mem} (hn : nfull n) (o_t : ob n t 7) (o_r1 : ob n r1 7) (hf : fn_X7_copyOf t r1 M = some o) : CT E l yX7_copyOf cX7_copyOf 2 none 4 120 0 0 [.ref (eb E + t), .ref (eb E + r1)] n (zf n) M none n (zf n) o := by
  refine CT_of PN_RX7 (Nat.le_of_ble_eq_true rfl) ?_
  intro p e s m args below meth c C hH ls hl
  replace C : Cx E p s m args meth c cX7_copyOf 2 RX7 none n "copyOf" := C
  have hl : lv_has ls 2 [(0, .ref (eb E + t)), (1, .ref (eb E + r1))] := hl
  unfold fn_X7_copyOf at hf
  refine lv_aload_n C.hx C.hb dX7_copyOf_0 rfl (lv_at hl 1 rfl) ?_
  refine g_ref (off := 1) C hH o_r1 (by decide) rfl rfl FL_RX7_9 dX7_copyOf_1 ?_
  refine lv_iconst (v := Int32.ofInt 0) C.hx C.hb dX7_copyOf_4 rfl ?_
  refine lv_aload_n C.hx C.hb dX7_copyOf_5 rfl (lv_at hl 0 rfl) ?_
  refine g_ref (off := 1) C hH o_t (by decide) rfl rfl FL_RX7_9 dX7_copyOf_6 ?_
  refine lv_iconst (v := Int32.ofInt 0) C.hx C.hb dX7_copyOf_9 rfl ?_
  refine lv_sipush (v := Int32.ofInt 300) C.hx C.hb dX7_copyOf_10 (by decide) ?_
  refine r_copy (N := 300) (rest := []) C hH hl (ly (i := 0) (off := 1) (k := 12) hn o_r1 rfl rfl rfl) (ly (i := 0) (off := 1) (k := 12) hn o_t rfl rfl rfl) (lyn (i := 0) (off := 1) (N := 299) hn o_r1 rfl rfl rfl) (lyn (i := 0) (off := 1) (N := 299) hn o_t rfl rfl rfl) (by decide) (by decide) (by decide) hf ML_RX7_43 (Nat.le_of_ble_eq_true rfl) (Nat.le_of_ble_eq_true rfl) dX7_copyOf_13 (fun M13 H locs hf hH => ?_)
  refine lv_aload_n C.hx C.hb dX7_copyOf_16 rfl (lv_at hl 1 rfl) ?_
  refine g_ref (off := 2) C hH o_r1 (by decide) rfl rfl FL_RX7_15 dX7_copyOf_17 ?_
  refine lv_iconst (v := Int32.ofInt 0) C.hx C.hb dX7_copyOf_20 rfl ?_
  refine lv_aload_n C.hx C.hb dX7_copyOf_21 rfl (lv_at hl 0 rfl) ?_
  refine g_ref (off := 2) C hH o_t (by decide) rfl rfl FL_RX7_15 dX7_copyOf_22 ?_
  refine lv_iconst (v := Int32.ofInt 0) C.hx C.hb dX7_copyOf_25 rfl ?_
  refine lv_bipush (v := Int32.ofInt 20) C.hx C.hb dX7_copyOf_26 (by decide) ?_
  refine r_copy (N := 20) (rest := []) C hH hl (ly (i := 6) (off := 2) (k := 12) hn o_r1 rfl rfl rfl) (ly (i := 6) (off := 2) (k := 12) hn o_t rfl rfl rfl) (lyn (i := 6) (off := 2) (N := 19) hn o_r1 rfl rfl rfl) (lyn (i := 6) (off := 2) (N := 19) hn o_t rfl rfl rfl) (by decide) (by decide) (by decide) hf ML_RX7_43 (Nat.le_of_ble_eq_true rfl) (Nat.le_of_ble_eq_true rfl) dX7_copyOf_28 (fun M28 H locs hf hH => ?_)
  refine lv_aload_n C.hx C.hb dX7_copyOf_31 rfl (lv_at hl 1 rfl) ?_
  refine g_ref (off := 3) C hH o_r1 (by decide) rfl rfl FL_RX7_18 dX7_copyOf_32 ?_
  refine lv_iconst (v := Int32.ofInt 0) C.hx C.hb dX7_copyOf_35 rfl ?_
  refine lv_aload_n C.hx C.hb dX7_copyOf_36 rfl (lv_at hl 0 rfl) ?_
  refine g_ref (off := 3) C hH o_t (by decide) rfl rfl FL_RX7_18 dX7_copyOf_37 ?_
  refine lv_iconst (v := Int32.ofInt 0) C.hx C.hb dX7_copyOf_40 rfl ?_
  refine lv_bipush (v := Int32.ofInt 20) C.hx C.hb dX7_copyOf_41 (by decide) ?_
  refine r_copy (N := 20) (rest := []) C hH hl (ly (i := 7) (off := 3) (k := 12) hn o_r1 rfl rfl rfl) (ly (i := 7) (off := 3) (k := 12) hn o_t rfl rfl rfl) (lyn (i := 7) (off := 3) (N := 19) hn o_r1 rfl rfl rfl) (lyn (i := 7) (off := 3) (N := 19) hn o_t rfl rfl rfl) (by decide) (by decide) (by decide) hf ML_RX7_43 (Nat.le_of_ble_eq_true rfl) (Nat.le_of_ble_eq_true rfl) dX7_copyOf_43 (fun M43 H locs hf hH => ?_)
  refine lv_aload_n C.hx C.hb dX7_copyOf_46 rfl (lv_at hl 1 rfl) ?_
  refine g_ref (off := 4) C hH o_r1 (by decide) rfl rfl FL_RX7_21 dX7_copyOf_47 ?_
  refine lv_iconst (v := Int32.ofInt 0) C.hx C.hb dX7_copyOf_50 rfl ?_
  refine lv_aload_n C.hx C.hb dX7_copyOf_51 rfl (lv_at hl 0 rfl) ?_
  refine g_ref (off := 4) C hH o_t (by decide) rfl rfl FL_RX7_21 dX7_copyOf_52 ?_
  refine lv_iconst (v := Int32.ofInt 0) C.hx C.hb dX7_copyOf_55 rfl ?_
  refine lv_bipush (v := Int32.ofInt 20) C.hx C.hb dX7_copyOf_56 (by decide) ?_
  refine r_copy (N := 20) (rest := []) C hH hl (ly (i := 8) (off := 4) (k := 12) hn o_r1 rfl rfl rfl) (ly (i := 8) (off := 4) (k := 12) hn o_t rfl rfl rfl) (lyn (i := 8) (off := 4) (N := 19) hn o_r1 rfl rfl rfl) (lyn (i := 8) (off := 4) (N := 19) hn o_t rfl rfl rfl) (by decide) (by decide) (by decide) hf ML_RX7_43 (Nat.le_of_ble_eq_true rfl) (Nat.le_of_ble_eq_true rfl) dX7_copyOf_58 (fun M58 H locs hf hH => ?_)
  refine lv_aload_n C.hx C.hb dX7_copyOf_61 rfl (lv_at hl 0 rfl) ?_
  refine lv_aload_n C.hx C.hb dX7_copyOf_62 rfl (lv_at hl 1 rfl) ?_
  refine g_int C hH o_r1 (by decide) rfl FL_RX7_24 dX7_copyOf_63 ?_
  refine r_put C hH o_t (by decide) rfl FL_RX7_24 FW_7_1 hf dX7_copyOf_66 (fun M66 H locs hf hH => ?_)
  refine lv_aload_n C.hx C.hb dX7_copyOf_69 rfl (lv_at hl 0 rfl) ?_
  refine lv_aload_n C.hx C.hb dX7_copyOf_70 rfl (lv_at hl 1 rfl) ?_
  refine g_int C hH o_r1 (by decide) rfl FL_RX7_28 dX7_copyOf_71 ?_
  refine r_put C hH o_t (by decide) rfl FL_RX7_28 FW_7_2 hf dX7_copyOf_74 (fun M74 H locs hf hH => ?_)
  refine lv_aload_n C.hx C.hb dX7_copyOf_77 rfl (lv_at hl 0 rfl) ?_
  refine lv_aload_n C.hx C.hb dX7_copyOf_78 rfl (lv_at hl 1 rfl) ?_
  refine g_int C hH o_r1 (by decide) rfl FL_RX7_31 dX7_copyOf_79 ?_
  refine r_put C hH o_t (by decide) rfl FL_RX7_31 FW_7_3 hf dX7_copyOf_82 (fun M82 H locs hf hH => ?_)
  refine lv_aload_n C.hx C.hb dX7_copyOf_85 rfl (lv_at hl 0 rfl) ?_
  refine lv_aload_n C.hx C.hb dX7_copyOf_86 rfl (lv_at hl 1 rfl) ?_
  refine g_int C hH o_r1 (by decide) rfl FL_RX7_34 dX7_copyOf_87 ?_
  refine r_put C hH o_t (by decide) rfl FL_RX7_34 FW_7_4 hf dX7_copyOf_90 (fun M90 H locs hf hH => ?_)
  refine lv_aload_n C.hx C.hb dX7_copyOf_93 rfl (lv_at hl 0 rfl) ?_
  refine lv_aload_n C.hx C.hb dX7_copyOf_94 rfl (lv_at hl 1 rfl) ?_
  refine g_int C hH o_r1 (by decide) rfl FL_RX7_37 dX7_copyOf_95 ?_
  refine r_put C hH o_t (by decide) rfl FL_RX7_37 FW_7_5 hf dX7_copyOf_98 (fun M98 H locs hf hH => ?_)
  refine lv_aload_n C.hx C.hb dX7_copyOf_101 rfl (lv_at hl 0 rfl) ?_
  refine lv_aload_n C.hx C.hb dX7_copyOf_102 rfl (lv_at hl 1 rfl) ?_
  refine g_int C hH o_r1 (by decide) rfl FL_RX7_40 dX7_copyOf_103 ?_
  refine r_put C hH o_t (by decide) rfl FL_RX7_40 FW_7_9 hf dX7_copyOf_106 (fun M106 H locs hf hH => ?_)
  cases hf
  exact w_vret C hH dX7_copyOf_109
-- HeavierByHand$Text.hasGlove
def fn_X7_hasGlove (t : Nat) (M : Mem) : Option Int :=
  cLt (M t 2) (M t 3) (some 1) (some 0)
set_option maxRecDepth 100000 in
set_option maxHeartbeats 4000000 in
theorem m_X7_hasGlove {E : EE} {l : Launch} {n : Nat} {t : Nat} {M : Mem} {o : Int} (hn : nfull n) (o_t : ob n t 7) (hf : fn_X7_hasGlove t M = some o) : CT E l yX7_hasGlove cX7_hasGlove 1 (some .boolean) 0 0 0 0 [.ref (eb E + t)] n (zf n) M (some (i3 o)) n (zf n) M := by
  refine CT_of PN_RX7 (Nat.le_of_ble_eq_true rfl) ?_
  intro p e s m args below meth c C hH ls hl
  replace C : Cx E p s m args meth c cX7_hasGlove 1 RX7 (some .boolean) n "hasGlove" := C
  have hl : lv_has ls 1 [(0, .ref (eb E + t))] := hl
  unfold fn_X7_hasGlove at hf
  refine lv_aload_n C.hx C.hb dX7_hasGlove_0 rfl (lv_at hl 0 rfl) ?_
  refine g_int C hH o_t (by decide) rfl FL_RX7_31 dX7_hasGlove_1 ?_
  refine lv_aload_n C.hx C.hb dX7_hasGlove_4 rfl (lv_at hl 0 rfl) ?_
  refine g_int C hH o_t (by decide) rfl FL_RX7_28 dX7_hasGlove_5 ?_
  refine w_le (tgt := 15) C hf dX7_hasGlove_8 (by decide) (fun hf => ?_) (fun hf => ?_)
  · refine lv_iconst (v := Int32.ofInt 0) C.hx C.hb dX7_hasGlove_15 rfl ?_
    cases hf
    exact w_zret C hH (Or.inl rfl) dX7_hasGlove_16
  · refine lv_iconst (v := Int32.ofInt 1) C.hx C.hb dX7_hasGlove_11 rfl ?_
    refine lv_goto (tgt := 16) C.hx C.hb dX7_hasGlove_12 (by decide) ?_
    cases hf
    exact w_zret C hH (Or.inr rfl) dX7_hasGlove_16
-- HeavierByHand$Text.hasGrain
def fn_X7_hasGrain (t : Nat) (M : Mem) : Option Int :=
  cLt (M t 4) (M t 5) (some 1) (some 0)
set_option maxRecDepth 100000 in
set_option maxHeartbeats 4000000 in
theorem m_X7_hasGrain {E : EE} {l : Launch} {n : Nat} {t : Nat} {M : Mem} {o : Int} (hn : nfull n) (o_t : ob n t 7) (hf : fn_X7_hasGrain t M = some o) : CT E l yX7_hasGrain cX7_hasGrain 1 (some .boolean) 0 0 0 0 [.ref (eb E + t)] n (zf n) M (some (i3 o)) n (zf n) M := by
  refine CT_of PN_RX7 (Nat.le_of_ble_eq_true rfl) ?_
  intro p e s m args below meth c C hH ls hl
  replace C : Cx E p s m args meth c cX7_hasGrain 1 RX7 (some .boolean) n "hasGrain" := C
  have hl : lv_has ls 1 [(0, .ref (eb E + t))] := hl
  unfold fn_X7_hasGrain at hf
  refine lv_aload_n C.hx C.hb dX7_hasGrain_0 rfl (lv_at hl 0 rfl) ?_
  refine g_int C hH o_t (by decide) rfl FL_RX7_37 dX7_hasGrain_1 ?_
  refine lv_aload_n C.hx C.hb dX7_hasGrain_4 rfl (lv_at hl 0 rfl) ?_
  refine g_int C hH o_t (by decide) rfl FL_RX7_34 dX7_hasGrain_5 ?_
  refine w_le (tgt := 15) C hf dX7_hasGrain_8 (by decide) (fun hf => ?_) (fun hf => ?_)
  · refine lv_iconst (v := Int32.ofInt 0) C.hx C.hb dX7_hasGrain_15 rfl ?_
    cases hf
    exact w_zret C hH (Or.inl rfl) dX7_hasGrain_16
  · refine lv_iconst (v := Int32.ofInt 1) C.hx C.hb dX7_hasGrain_11 rfl ?_
    refine lv_goto (tgt := 16) C.hx C.hb dX7_hasGrain_12 (by decide) ?_
    cases hf
    exact w_zret C hH (Or.inr rfl) dX7_hasGrain_16
-- HeavierByHand$Text.put
def fn_X7_put (t : Nat) (a1 : Int) (M : Mem) : Option (Int × Mem) :=
  cLt (M t 1) 0 (some (0, M)) (cLt (M t 1) 300 (wr M (t + 1) 300 (M t 1) a1 fun M28 => st M28 t 1 ((M28 t 1) + 1) fun M36 => some (1, M36)) (some (0, M)))
set_option maxRecDepth 100000 in
set_option maxHeartbeats 4000000 in
theorem m_X7_put {E : EE} {l : Launch} {n : Nat} {t : Nat} {a1 : Int} {M : Mem} {o : (Int × Mem)} (hn : nfull n) (o_t : ob n t 7) (hf : fn_X7_put t a1 M = some o) : CT E l yX7_put cX7_put 2 (some .boolean) 0 0 0 0 [.ref (eb E + t), i3 a1] n (zf n) M (some (i3 o.1)) n (zf n) o.2 := by
  refine CT_of PN_RX7 (Nat.le_of_ble_eq_true rfl) ?_
  intro p e s m args below meth c C hH ls hl
  replace C : Cx E p s m args meth c cX7_put 2 RX7 (some .boolean) n "put" := C
  have hl : lv_has ls 2 [(0, .ref (eb E + t)), (1, i3 a1)] := hl
  unfold fn_X7_put at hf
  refine lv_aload_n C.hx C.hb dX7_put_0 rfl (lv_at hl 0 rfl) ?_
  refine g_int C hH o_t (by decide) rfl FL_RX7_24 dX7_put_1 ?_
  refine w_lt0 (tgt := 17) C hf dX7_put_4 (by decide) (fun hf => ?_) (fun hf => ?_)
  · refine lv_iconst (v := Int32.ofInt 0) C.hx C.hb dX7_put_17 rfl ?_
    cases hf
    exact w_zret C hH (Or.inl rfl) dX7_put_18
  · refine lv_aload_n C.hx C.hb dX7_put_7 rfl (lv_at hl 0 rfl) ?_
    refine g_int C hH o_t (by decide) rfl FL_RX7_24 dX7_put_8 ?_
    refine lv_sipush (v := Int32.ofInt 300) C.hx C.hb dX7_put_11 (by decide) ?_
    refine w_lt (tgt := 19) C hf dX7_put_14 (by decide) (fun hf => ?_) (fun hf => ?_)
    · refine lv_aload_n C.hx C.hb dX7_put_19 rfl (lv_at hl 0 rfl) ?_
      refine g_ref (off := 1) C hH o_t (by decide) rfl rfl FL_RX7_9 dX7_put_20 ?_
      refine lv_aload_n C.hx C.hb dX7_put_23 rfl (lv_at hl 0 rfl) ?_
      refine g_int C hH o_t (by decide) rfl FL_RX7_24 dX7_put_24 ?_
      refine lv_iload_n C.hx C.hb dX7_put_27 rfl (lv_at hl 1 rfl) ?_
      refine r_iast C hH (ly (i := 0) (off := 1) (k := 12) hn o_t rfl rfl rfl) (lyn (i := 0) (off := 1) (N := 299) hn o_t rfl rfl rfl) hf dX7_put_28 (fun M28 H locs hf hH => ?_)
      refine lv_aload_n C.hx C.hb dX7_put_29 rfl (lv_at hl 0 rfl) ?_
      refine lv_dup C.hx C.hb dX7_put_30 rfl ?_
      refine g_int C hH o_t (by decide) rfl FL_RX7_24 dX7_put_31 ?_
      refine lv_iconst (v := Int32.ofInt 1) C.hx C.hb dX7_put_34 rfl ?_
      refine w_iadd C dX7_put_35 ?_
      refine r_put C hH o_t (by decide) rfl FL_RX7_24 FW_7_1 hf dX7_put_36 (fun M36 H locs hf hH => ?_)
      refine lv_iconst (v := Int32.ofInt 1) C.hx C.hb dX7_put_39 rfl ?_
      cases hf
      exact w_zret C hH (Or.inr rfl) dX7_put_40
    · refine lv_iconst (v := Int32.ofInt 0) C.hx C.hb dX7_put_17 rfl ?_
      cases hf
      exact w_zret C hH (Or.inl rfl) dX7_put_18
-- HeavierByHand$Text.addClause
def fn_X7_addClause (t : Nat) (a1 : Int) (a2 : Int) (a3 : Int) (M : Mem) : Option Mem :=
  cLt (M t 9) 0 (some M) (cLt (M t 9) 20 (wr M (t + 2) 20 (M t 9) a1 fun M25 => wr M25 (t + 3) 20 (M25 t 9) a2 fun M35 => wr M35 (t + 4) 20 (M35 t 9) a3 fun M45 => st M45 t 9 ((M45 t 9) + 1) fun M53 => some M53) (some M))
set_option maxRecDepth 100000 in
set_option maxHeartbeats 4000000 in
theorem m_X7_addClause {E : EE} {l : Launch} {n : Nat} {t : Nat} {a1 : Int} {a2 : Int} {a3 : Int} {M : Mem} {o : Mem} (hn : nfull n) (o_t : ob n t 7) (hf : fn_X7_addClause t a1 a2 a3 M = some o) : CT E l yX7_addClause cX7_addClause 4 none 0 0 0 0 [.ref (eb E + t), i3 a1, i3 a2, i3 a3] n (zf n) M none n (zf n) o := by
  refine CT_of PN_RX7 (Nat.le_of_ble_eq_true rfl) ?_
  intro p e s m args below meth c C hH ls hl
  replace C : Cx E p s m args meth c cX7_addClause 4 RX7 none n "addClause" := C
  have hl : lv_has ls 4 [(0, .ref (eb E + t)), (1, i3 a1), (2, i3 a2), (3, i3 a3)] := hl
  unfold fn_X7_addClause at hf
  refine lv_aload_n C.hx C.hb dX7_addClause_0 rfl (lv_at hl 0 rfl) ?_
  refine g_int C hH o_t (by decide) rfl FL_RX7_40 dX7_addClause_1 ?_
  refine w_lt0 (tgt := 56) C hf dX7_addClause_4 (by decide) (fun hf => ?_) (fun hf => ?_)
  · cases hf
    exact w_vret C hH dX7_addClause_56
  · refine lv_aload_n C.hx C.hb dX7_addClause_7 rfl (lv_at hl 0 rfl) ?_
    refine g_int C hH o_t (by decide) rfl FL_RX7_40 dX7_addClause_8 ?_
    refine lv_bipush (v := Int32.ofInt 20) C.hx C.hb dX7_addClause_11 (by decide) ?_
    refine w_ge (tgt := 56) C hf dX7_addClause_13 (by decide) (fun hf => ?_) (fun hf => ?_)
    · cases hf
      exact w_vret C hH dX7_addClause_56
    · refine lv_aload_n C.hx C.hb dX7_addClause_16 rfl (lv_at hl 0 rfl) ?_
      refine g_ref (off := 2) C hH o_t (by decide) rfl rfl FL_RX7_15 dX7_addClause_17 ?_
      refine lv_aload_n C.hx C.hb dX7_addClause_20 rfl (lv_at hl 0 rfl) ?_
      refine g_int C hH o_t (by decide) rfl FL_RX7_40 dX7_addClause_21 ?_
      refine lv_iload_n C.hx C.hb dX7_addClause_24 rfl (lv_at hl 1 rfl) ?_
      refine r_iast C hH (ly (i := 6) (off := 2) (k := 12) hn o_t rfl rfl rfl) (lyn (i := 6) (off := 2) (N := 19) hn o_t rfl rfl rfl) hf dX7_addClause_25 (fun M25 H locs hf hH => ?_)
      refine lv_aload_n C.hx C.hb dX7_addClause_26 rfl (lv_at hl 0 rfl) ?_
      refine g_ref (off := 3) C hH o_t (by decide) rfl rfl FL_RX7_18 dX7_addClause_27 ?_
      refine lv_aload_n C.hx C.hb dX7_addClause_30 rfl (lv_at hl 0 rfl) ?_
      refine g_int C hH o_t (by decide) rfl FL_RX7_40 dX7_addClause_31 ?_
      refine lv_iload_n C.hx C.hb dX7_addClause_34 rfl (lv_at hl 2 rfl) ?_
      refine r_iast C hH (ly (i := 7) (off := 3) (k := 12) hn o_t rfl rfl rfl) (lyn (i := 7) (off := 3) (N := 19) hn o_t rfl rfl rfl) hf dX7_addClause_35 (fun M35 H locs hf hH => ?_)
      refine lv_aload_n C.hx C.hb dX7_addClause_36 rfl (lv_at hl 0 rfl) ?_
      refine g_ref (off := 4) C hH o_t (by decide) rfl rfl FL_RX7_21 dX7_addClause_37 ?_
      refine lv_aload_n C.hx C.hb dX7_addClause_40 rfl (lv_at hl 0 rfl) ?_
      refine g_int C hH o_t (by decide) rfl FL_RX7_40 dX7_addClause_41 ?_
      refine lv_iload_n C.hx C.hb dX7_addClause_44 rfl (lv_at hl 3 rfl) ?_
      refine r_iast C hH (ly (i := 8) (off := 4) (k := 12) hn o_t rfl rfl rfl) (lyn (i := 8) (off := 4) (N := 19) hn o_t rfl rfl rfl) hf dX7_addClause_45 (fun M45 H locs hf hH => ?_)
      refine lv_aload_n C.hx C.hb dX7_addClause_46 rfl (lv_at hl 0 rfl) ?_
      refine lv_dup C.hx C.hb dX7_addClause_47 rfl ?_
      refine g_int C hH o_t (by decide) rfl FL_RX7_40 dX7_addClause_48 ?_
      refine lv_iconst (v := Int32.ofInt 1) C.hx C.hb dX7_addClause_51 rfl ?_
      refine w_iadd C dX7_addClause_52 ?_
      refine r_put C hH o_t (by decide) rfl FL_RX7_40 FW_7_9 hf dX7_addClause_53 (fun M53 H locs hf hH => ?_)
      cases hf
      exact w_vret C hH dX7_addClause_56
-- HeavierByHand$Text.addLaw
def fn_X7_addLaw_J34 (t : Nat) (a1 : Int) (M34 : Mem) : Option Mem :=
  cv (fn_X7_addClause t a1 0 0 M34) fun M38 => some M38
def fn_X7_addLaw (t : Nat) (a1 : Int) (a2 : Int) (M : Mem) : Option Mem :=
  cEq a1 4 (st M t 2 a2 fun M7 => st M7 t 3 (M7 t 1) fun M15 => fn_X7_addLaw_J34 t a1 M15) (st M t 4 a2 fun M23 => st M23 t 5 (M23 t 1) fun M31 => fn_X7_addLaw_J34 t a1 M31)
set_option maxRecDepth 100000 in
set_option maxHeartbeats 4000000 in
theorem j_X7_addLaw_34 {p : Program} {l : Launch} {e : Env} {s : State} {m : MethodId} {args : Array Value} {below : List Frame} {meth : Method} {c : Code} {E : EE} {n : Nat} {o : Mem} {t : Nat} {a1 : Int} {M34 : Mem} {H : Heap} {locs : List Loc} {ls : Array Slot} (C : Cx E p s m args meth c cX7_addLaw 3 RX7 none n "addLaw") (hn : nfull n) (o_t : ob n t 7) (hf : fn_X7_addLaw_J34 t a1 M34 = some o) (hH : ST E s n (zf n) M34 H locs) (hl : lv_has ls 3 [(0, .ref (eb E + t)), (1, i3 a1)]) : W p l e { frames := 1, cells := 0, slots := 0, locals := 23 } s m args below meth c H locs 0 0 (MQ below (QC E none n (zf n) o) args s 0 0 (fr E)) (F0 m 34 ls []) := by
  unfold fn_X7_addLaw_J34 at hf
  refine lv_aload_n C.hx C.hb dX7_addLaw_34 rfl (lv_at hl 0 rfl) ?_
  refine lv_iload_n C.hx C.hb dX7_addLaw_35 rfl (lv_at hl 1 rfl) ?_
  refine lv_iconst (v := Int32.ofInt 0) C.hx C.hb dX7_addLaw_36 rfl ?_
  refine lv_iconst (v := Int32.ofInt 0) C.hx C.hb dX7_addLaw_37 rfl ?_
  obtain ⟨M38, hc9, hf⟩ := cv_of hf
  refine r_callVv (rest := []) C hH hl o_t (by decide) rfl (m_X7_addClause hn o_t hc9) ML_RX7_49 MF_X7_addClause MI_X7_addClause rfl rfl (Nat.le_of_ble_eq_true rfl) ⟨Nat.le_of_ble_eq_true rfl, Nat.le_of_ble_eq_true rfl⟩ ⟨Nat.le_refl _, Nat.le_refl _⟩ dX7_addLaw_38 (fun H locs hH => ?_)
  cases hf
  exact w_vret C hH dX7_addLaw_41
set_option maxRecDepth 100000 in
set_option maxHeartbeats 4000000 in
theorem m_X7_addLaw {E : EE} {l : Launch} {n : Nat} {t : Nat} {a1 : Int} {a2 : Int} {M : Mem} {o : Mem} (hn : nfull n) (o_t : ob n t 7) (hf : fn_X7_addLaw t a1 a2 M = some o) : CT E l yX7_addLaw cX7_addLaw 3 none 1 23 0 0 [.ref (eb E + t), i3 a1, i3 a2] n (zf n) M none n (zf n) o := by
  refine CT_of PN_RX7 (Nat.le_of_ble_eq_true rfl) ?_
  intro p e s m args below meth c C hH ls hl
  replace C : Cx E p s m args meth c cX7_addLaw 3 RX7 none n "addLaw" := C
  have hl : lv_has ls 3 [(0, .ref (eb E + t)), (1, i3 a1), (2, i3 a2)] := hl
  unfold fn_X7_addLaw at hf
  refine lv_iload_n C.hx C.hb dX7_addLaw_0 rfl (lv_at hl 1 rfl) ?_
  refine lv_iconst (v := Int32.ofInt 4) C.hx C.hb dX7_addLaw_1 rfl ?_
  refine w_ne (tgt := 21) C hf dX7_addLaw_2 (by decide) (fun hf => ?_) (fun hf => ?_)
  · refine lv_aload_n C.hx C.hb dX7_addLaw_21 rfl (lv_at hl 0 rfl) ?_
    refine lv_iload_n C.hx C.hb dX7_addLaw_22 rfl (lv_at hl 2 rfl) ?_
    refine r_put C hH o_t (by decide) rfl FL_RX7_34 FW_7_4 hf dX7_addLaw_23 (fun M23 H locs hf hH => ?_)
    refine lv_aload_n C.hx C.hb dX7_addLaw_26 rfl (lv_at hl 0 rfl) ?_
    refine lv_aload_n C.hx C.hb dX7_addLaw_27 rfl (lv_at hl 0 rfl) ?_
    refine g_int C hH o_t (by decide) rfl FL_RX7_24 dX7_addLaw_28 ?_
    refine r_put C hH o_t (by decide) rfl FL_RX7_37 FW_7_5 hf dX7_addLaw_31 (fun M31 H locs hf hH => ?_)
    exact j_X7_addLaw_34 C hn o_t hf hH (lv_sub hl [0, 1] rfl)
  · refine lv_aload_n C.hx C.hb dX7_addLaw_5 rfl (lv_at hl 0 rfl) ?_
    refine lv_iload_n C.hx C.hb dX7_addLaw_6 rfl (lv_at hl 2 rfl) ?_
    refine r_put C hH o_t (by decide) rfl FL_RX7_28 FW_7_2 hf dX7_addLaw_7 (fun M7 H locs hf hH => ?_)
    refine lv_aload_n C.hx C.hb dX7_addLaw_10 rfl (lv_at hl 0 rfl) ?_
    refine lv_aload_n C.hx C.hb dX7_addLaw_11 rfl (lv_at hl 0 rfl) ?_
    refine g_int C hH o_t (by decide) rfl FL_RX7_24 dX7_addLaw_12 ?_
    refine r_put C hH o_t (by decide) rfl FL_RX7_31 FW_7_3 hf dX7_addLaw_15 (fun M15 H locs hf hH => ?_)
    refine lv_goto (tgt := 34) C.hx C.hb dX7_addLaw_18 (by decide) ?_
    exact j_X7_addLaw_34 C hn o_t hf hH (lv_sub hl [0, 1] rfl)
-- HeavierByHand.isWithin
def fn_X10_isWithin_J14 : Option Int :=
  some 0
def fn_X10_isWithin (a0 : Int) (a1 : Int) (a2 : Int) (M : Mem) : Option Int :=
  cLt a0 a1 (fn_X10_isWithin_J14) (cLt a2 a0 (fn_X10_isWithin_J14) (some 1))
set_option maxRecDepth 100000 in
set_option maxHeartbeats 4000000 in
theorem j_X10_isWithin_14 {p : Program} {l : Launch} {e : Env} {s : State} {m : MethodId} {args : Array Value} {below : List Frame} {meth : Method} {c : Code} {E : EE} {n : Nat} {o : Int} {M : Mem} {H : Heap} {locs : List Loc} {ls : Array Slot} (C : Cx E p s m args meth c cX10_isWithin 3 RX10 (some .boolean) n "isWithin") (hn : nfull n) (hf : fn_X10_isWithin_J14 = some o) (hH : ST E s n (zf n) M H locs) (hl : lv_has ls 3 []) : W p l e { frames := 0, cells := 0, slots := 0, locals := 0 } s m args below meth c H locs 0 0 (MQ below (QC E (some (i3 o)) n (zf n) M) args s 0 0 (fr E)) (F0 m 14 ls []) := by
  unfold fn_X10_isWithin_J14 at hf
  refine lv_iconst (v := Int32.ofInt 0) C.hx C.hb dX10_isWithin_14 rfl ?_
  cases hf
  exact w_zret C hH (Or.inl rfl) dX10_isWithin_15
set_option maxRecDepth 100000 in
set_option maxHeartbeats 4000000 in
theorem m_X10_isWithin {E : EE} {l : Launch} {n : Nat} {a0 : Int} {a1 : Int} {a2 : Int} {M : Mem} {o : Int} (hn : nfull n) (hf : fn_X10_isWithin a0 a1 a2 M = some o) : CT E l yX10_isWithin cX10_isWithin 3 (some .boolean) 0 0 0 0 [i3 a0, i3 a1, i3 a2] n (zf n) M (some (i3 o)) n (zf n) M := by
  refine CT_of PN_RX10 (Nat.le_of_ble_eq_true rfl) ?_
  intro p e s m args below meth c C hH ls hl
  replace C : Cx E p s m args meth c cX10_isWithin 3 RX10 (some .boolean) n "isWithin" := C
  have hl : lv_has ls 3 [(0, i3 a0), (1, i3 a1), (2, i3 a2)] := hl
  unfold fn_X10_isWithin at hf
  refine lv_iload_n C.hx C.hb dX10_isWithin_0 rfl (lv_at hl 0 rfl) ?_
  refine lv_iload_n C.hx C.hb dX10_isWithin_1 rfl (lv_at hl 1 rfl) ?_
  refine w_lt (tgt := 14) C hf dX10_isWithin_2 (by decide) (fun hf => ?_) (fun hf => ?_)
  · exact j_X10_isWithin_14 C hn hf hH (lv_sub hl [] rfl)
  · refine lv_iload_n C.hx C.hb dX10_isWithin_5 rfl (lv_at hl 0 rfl) ?_
    refine lv_iload_n C.hx C.hb dX10_isWithin_6 rfl (lv_at hl 2 rfl) ?_
    refine w_gt (tgt := 14) C hf dX10_isWithin_7 (by decide) (fun hf => ?_) (fun hf => ?_)
    · exact j_X10_isWithin_14 C hn hf hH (lv_sub hl [] rfl)
    · refine lv_iconst (v := Int32.ofInt 1) C.hx C.hb dX10_isWithin_10 rfl ?_
      refine lv_goto (tgt := 15) C.hx C.hb dX10_isWithin_11 (by decide) ?_
      cases hf
      exact w_zret C hH (Or.inr rfl) dX10_isWithin_15
-- HeavierByHand.areLengths
def fn_X10_areLengths_J18 : Option Int :=
  some 0
def fn_X10_areLengths (a0 : Int) (a1 : Int) (a2 : Int) (M : Mem) : Option Int :=
  cLt a0 0 (fn_X10_areLengths_J18) (cLt a1 a0 (fn_X10_areLengths_J18) (cLt a2 a1 (fn_X10_areLengths_J18) (some 1)))
set_option maxRecDepth 100000 in
set_option maxHeartbeats 4000000 in
theorem j_X10_areLengths_18 {p : Program} {l : Launch} {e : Env} {s : State} {m : MethodId} {args : Array Value} {below : List Frame} {meth : Method} {c : Code} {E : EE} {n : Nat} {o : Int} {M : Mem} {H : Heap} {locs : List Loc} {ls : Array Slot} (C : Cx E p s m args meth c cX10_areLengths 3 RX10 (some .boolean) n "areLengths") (hn : nfull n) (hf : fn_X10_areLengths_J18 = some o) (hH : ST E s n (zf n) M H locs) (hl : lv_has ls 3 []) : W p l e { frames := 0, cells := 0, slots := 0, locals := 0 } s m args below meth c H locs 0 0 (MQ below (QC E (some (i3 o)) n (zf n) M) args s 0 0 (fr E)) (F0 m 18 ls []) := by
  unfold fn_X10_areLengths_J18 at hf
  refine lv_iconst (v := Int32.ofInt 0) C.hx C.hb dX10_areLengths_18 rfl ?_
  cases hf
  exact w_zret C hH (Or.inl rfl) dX10_areLengths_19
set_option maxRecDepth 100000 in
set_option maxHeartbeats 4000000 in
theorem m_X10_areLengths {E : EE} {l : Launch} {n : Nat} {a0 : Int} {a1 : Int} {a2 : Int} {M : Mem} {o : Int} (hn : nfull n) (hf : fn_X10_areLengths a0 a1 a2 M = some o) : CT E l yX10_areLengths cX10_areLengths 3 (some .boolean) 0 0 0 0 [i3 a0, i3 a1, i3 a2] n (zf n) M (some (i3 o)) n (zf n) M := by
  refine CT_of PN_RX10 (Nat.le_of_ble_eq_true rfl) ?_
  intro p e s m args below meth c C hH ls hl
  replace C : Cx E p s m args meth c cX10_areLengths 3 RX10 (some .boolean) n "areLengths" := C
  have hl : lv_has ls 3 [(0, i3 a0), (1, i3 a1), (2, i3 a2)] := hl
  unfold fn_X10_areLengths at hf
  refine lv_iload_n C.hx C.hb dX10_areLengths_0 rfl (lv_at hl 0 rfl) ?_
  refine w_lt0 (tgt := 18) C hf dX10_areLengths_1 (by decide) (fun hf => ?_) (fun hf => ?_)
  · exact j_X10_areLengths_18 C hn hf hH (lv_sub hl [] rfl)
  · refine lv_iload_n C.hx C.hb dX10_areLengths_4 rfl (lv_at hl 0 rfl) ?_
    refine lv_iload_n C.hx C.hb dX10_areLengths_5 rfl (lv_at hl 1 rfl) ?_
    refine w_gt (tgt := 18) C hf dX10_areLengths_6 (by decide) (fun hf => ?_) (fun hf => ?_)
    · exact j_X10_areLengths_18 C hn hf hH (lv_sub hl [] rfl)
    · refine lv_iload_n C.hx C.hb dX10_areLengths_9 rfl (lv_at hl 1 rfl) ?_
      refine lv_iload_n C.hx C.hb dX10_areLengths_10 rfl (lv_at hl 2 rfl) ?_
      refine w_gt (tgt := 18) C hf dX10_areLengths_11 (by decide) (fun hf => ?_) (fun hf => ?_)
      · exact j_X10_areLengths_18 C hn hf hH (lv_sub hl [] rfl)
      · refine lv_iconst (v := Int32.ofInt 1) C.hx C.hb dX10_areLengths_14 rfl ?_
        refine lv_goto (tgt := 19) C.hx C.hb dX10_areLengths_15 (by decide) ?_
        cases hf
        exact w_zret C hH (Or.inr rfl) dX10_areLengths_19
-- HeavierByHand.commonDivisor
def fn_X10_commonDivisor_L9 (rec9 : Int → Int → Int → Option Int) (v8_9 : Int) (v6_9 : Int) (v4_9 : Int) : Option Int :=
  cLt v8_9 200 (dEq v6_9 0 (some v4_9) (ck (R6 v4_9 ∧ R6 v6_9 ∧ v6_9 ≠ (0 : Int)) <| nm ((v4_9.tmod v6_9)) fun v9_29 => nm (v8_9 + 1) fun v8_39 => rec9 v8_39 v9_29 v6_9)) (some v4_9)
def fn_X10_commonDivisor (a0 : Int) (a2 : Int) (M : Mem) : Option Int :=
  lq3 (fn_X10_commonDivisor_L9) FU 0 a2 a0
set_option maxRecDepth 100000 in
set_option maxHeartbeats 4000000 in
theorem l_X10_commonDivisor_9 {p : Program} {l : Launch} {e : Env} {s : State} {m : MethodId} {args : Array Value} {below : List Frame} {meth : Method} {c : Code} {E : EE} {n : Nat} {o : Int} {M : Mem} (C : Cx E p s m args meth c cX10_commonDivisor 11 RX10 (some .long) n "commonDivisor") (hn : nfull n) : ∀ (k : Nat) (v8_9 : Int) (v6_9 : Int) (v4_9 : Int) (H : Heap) (locs : List Loc) (ls : Array Slot), lq3 (fn_X10_commonDivisor_L9) k v8_9 v6_9 v4_9 = some o → ST E s n (zf n) M H locs → lv_has ls 11 [(4, l6 v4_9), (6, l6 v6_9), (8, i3 v8_9)] → W p l e { frames := 0, cells := 0, slots := 0, locals := 0 } s m args below meth c H locs 0 0 (MQ below (QC E (some (l6 o)) n (zf n) M) args s 0 0 (fr E)) (F0 m 9 ls []) := by
  intro k
  induction k with
  | zero => intro v8_9 v6_9 v4_9 H locs ls hf; cases hf
  | succ k ih =>
    intro v8_9 v6_9 v4_9 H locs ls hf hH hl
    have h_rec9 : ∀ {v8_9 : Int} {v6_9 : Int} {v4_9 : Int} {H : Heap} {locs : List Loc} {ls : Array Slot}, lq3 (fn_X10_commonDivisor_L9) k v8_9 v6_9 v4_9 = some o → ST E s n (zf n) M H locs → lv_has ls 11 [(4, l6 v4_9), (6, l6 v6_9), (8, i3 v8_9)] → W p l e { frames := 0, cells := 0, slots := 0, locals := 0 } s m args below meth c H locs 0 0 (MQ below (QC E (some (l6 o)) n (zf n) M) args s 0 0 (fr E)) (F0 m 9 ls []) := fun {v8_9} {v6_9} {v4_9} {H} {locs} {ls} a b c => ih v8_9 v6_9 v4_9 H locs ls a b c
    replace hf : fn_X10_commonDivisor_L9 (lq3 (fn_X10_commonDivisor_L9) k) v8_9 v6_9 v4_9 = some o := hf
    generalize lq3 (fn_X10_commonDivisor_L9) k = rec9 at hf h_rec9
    unfold fn_X10_commonDivisor_L9 at hf
    refine lv_iload C.hx C.hb dX10_commonDivisor_9 (lv_at hl 2 rfl) ?_
    refine lv_sipush (v := Int32.ofInt 200) C.hx C.hb dX10_commonDivisor_11 (by decide) ?_
    refine w_ge (tgt := 45) C hf dX10_commonDivisor_14 (by decide) (fun hf => ?_) (fun hf => ?_)
    · refine lv_lload C.hx C.hb dX10_commonDivisor_45 (lv_at hl 0 rfl) ?_
      cases hf
      exact w_lret C hH dX10_commonDivisor_47
    · refine lv_lload C.hx C.hb dX10_commonDivisor_17 (lv_at hl 1 rfl) ?_
      refine lv_lconst (v := Int64.ofInt 0) C.hx C.hb dX10_commonDivisor_19 (by decide) ?_
      refine w_leq (tgt := 45) C hf dX10_commonDivisor_20 dX10_commonDivisor_21 (by decide) (fun hf => ?_) (fun hf => ?_)
      · refine lv_lload C.hx C.hb dX10_commonDivisor_45 (lv_at hl 0 rfl) ?_
        cases hf
        exact w_lret C hH dX10_commonDivisor_47
      · refine lv_lload C.hx C.hb dX10_commonDivisor_24 (lv_at hl 0 rfl) ?_
        refine lv_lload C.hx C.hb dX10_commonDivisor_26 (lv_at hl 1 rfl) ?_
        obtain ⟨hR8, hf⟩ := ck_of hf
        refine w_lrem C hR8 dX10_commonDivisor_28 ?_
        refine r_nmL hf (fun v9_29 hf => ?_)
        refine lv_lstore (lv' := [(9, l6 v9_29), (4, l6 v4_9), (6, l6 v6_9), (8, i3 v8_9)]) C.hx C.hb dX10_commonDivisor_29 hl (by decide) rfl (fun ls hl => ?_)
        refine lv_lload C.hx C.hb dX10_commonDivisor_31 (lv_at hl 2 rfl) ?_
        refine lv_lstore (lv' := [(4, l6 v6_9), (9, l6 v9_29), (6, l6 v6_9), (8, i3 v8_9)]) C.hx C.hb dX10_commonDivisor_33 hl (by decide) rfl (fun ls hl => ?_)
        refine lv_lload C.hx C.hb dX10_commonDivisor_35 (lv_at hl 1 rfl) ?_
        refine lv_lstore (lv' := [(6, l6 v9_29), (4, l6 v6_9), (9, l6 v9_29), (8, i3 v8_9)]) C.hx C.hb dX10_commonDivisor_37 hl (by decide) rfl (fun ls hl => ?_)
        refine r_iinc (k := 3) (lv' := fun v => [(8, i3 v), (6, l6 v9_29), (4, l6 v6_9), (9, l6 v9_29)]) C hf dX10_commonDivisor_39 hl rfl (by decide) (fun _ => rfl) (fun v8_39 ls hf hl => ?_)
        refine lv_goto (tgt := 9) C.hx C.hb dX10_commonDivisor_42 (by decide) ?_
        exact h_rec9 hf hH (lv_sub hl [2, 1, 0] rfl)
set_option maxRecDepth 100000 in
set_option maxHeartbeats 4000000 in
theorem m_X10_commonDivisor {E : EE} {l : Launch} {n : Nat} {a0 : Int} {a2 : Int} {M : Mem} {o : Int} (hn : nfull n) (hf : fn_X10_commonDivisor a0 a2 M = some o) : CT E l yX10_commonDivisor cX10_commonDivisor 11 (some .long) 0 0 0 0 [l6 a0, l6 a2] n (zf n) M (some (l6 o)) n (zf n) M := by
  refine CT_of PN_RX10 (Nat.le_of_ble_eq_true rfl) ?_
  intro p e s m args below meth c C hH ls hl
  replace C : Cx E p s m args meth c cX10_commonDivisor 11 RX10 (some .long) n "commonDivisor" := C
  have hl : lv_has ls 11 [(0, l6 a0), (2, l6 a2)] := hl
  unfold fn_X10_commonDivisor at hf
  refine lv_lload_n C.hx C.hb dX10_commonDivisor_0 rfl (lv_at hl 0 rfl) ?_
  refine lv_lstore (lv' := [(4, l6 a0), (0, l6 a0), (2, l6 a2)]) C.hx C.hb dX10_commonDivisor_1 hl (by decide) rfl (fun ls hl => ?_)
  refine lv_lload_n C.hx C.hb dX10_commonDivisor_3 rfl (lv_at hl 2 rfl) ?_
  refine lv_lstore (lv' := [(6, l6 a2), (4, l6 a0), (0, l6 a0), (2, l6 a2)]) C.hx C.hb dX10_commonDivisor_4 hl (by decide) rfl (fun ls hl => ?_)
  refine lv_iconst (v := Int32.ofInt 0) C.hx C.hb dX10_commonDivisor_6 rfl ?_
  refine lv_istore (lv' := [(8, i3 0), (6, l6 a2), (4, l6 a0), (0, l6 a0), (2, l6 a2)]) C.hx C.hb dX10_commonDivisor_7 hl (by decide) rfl (fun ls hl => ?_)
  exact l_X10_commonDivisor_9 C hn FU _ _ _ _ _ _ hf hH (lv_sub hl [2, 1, 0] rfl)
-- HeavierByHand.onlyOne
def fn_X10_onlyOne_J28 (v2_4 : Int) (rec4 : Int → Int → Option Int) (v1_28 : Int) : Option Int :=
  nm (v2_4 + 1) fun v2_28 => rec4 v2_28 v1_28
def fn_X10_onlyOne_L4 (a0 : Int) (rec4 : Int → Int → Option Int) (v2_4 : Int) (v1_4 : Int) : Option Int :=
  cLt v2_4 10 (cEq (andI (shrI a0 v2_4) 1) 1 (cEq v1_4 (-1) (fn_X10_onlyOne_J28 v2_4 rec4 v2_4) (some (-1))) (fn_X10_onlyOne_J28 v2_4 rec4 v1_4)) (some v1_4)
def fn_X10_onlyOne (a0 : Int) (M : Mem) : Option Int :=
  lq2 (fn_X10_onlyOne_L4 a0) FU 0 (-1)
set_option maxRecDepth 100000 in
set_option maxHeartbeats 4000000 in
theorem j_X10_onlyOne_28 {p : Program} {l : Launch} {e : Env} {s : State} {m : MethodId} {args : Array Value} {below : List Frame} {meth : Method} {c : Code} {E : EE} {n : Nat} {o : Int} {a0 : Int} {M : Mem} {v2_4 : Int} {rec4 : Int → Int → Option Int} {v1_28 : Int} {H : Heap} {locs : List Loc} {ls : Array Slot} (C : Cx E p s m args meth c cX10_onlyOne 3 RX10 (some .int) n "onlyOne") (hn : nfull n) (h_rec4 : ∀ {v2_4 : Int} {v1_4 : Int} {H : Heap} {locs : List Loc} {ls : Array Slot}, rec4 v2_4 v1_4 = some o → ST E s n (zf n) M H locs → lv_has ls 3 [(0, i3 a0), (1, i3 v1_4), (2, i3 v2_4)] → W p l e { frames := 0, cells := 0, slots := 0, locals := 0 } s m args below meth c H locs 0 0 (MQ below (QC E (some (i3 o)) n (zf n) M) args s 0 0 (fr E)) (F0 m 4 ls [])) (hf : fn_X10_onlyOne_J28 v2_4 rec4 v1_28 = some o) (hH : ST E s n (zf n) M H locs) (hl : lv_has ls 3 [(0, i3 a0), (1, i3 v1_28), (2, i3 v2_4)]) : W p l e { frames := 0, cells := 0, slots := 0, locals := 0 } s m args below meth c H locs 0 0 (MQ below (QC E (some (i3 o)) n (zf n) M) args s 0 0 (fr E)) (F0 m 28 ls []) := by
  unfold fn_X10_onlyOne_J28 at hf
  refine r_iinc (k := 2) (lv' := fun v => [(2, i3 v), (0, i3 a0), (1, i3 v1_28)]) C hf dX10_onlyOne_28 hl rfl (by decide) (fun _ => rfl) (fun v2_28 ls hf hl => ?_)
  refine lv_goto (tgt := 4) C.hx C.hb dX10_onlyOne_31 (by decide) ?_
  exact h_rec4 hf hH (lv_sub hl [1, 2, 0] rfl)
set_option maxRecDepth 100000 in
set_option maxHeartbeats 4000000 in
theorem l_X10_onlyOne_4 {p : Program} {l : Launch} {e : Env} {s : State} {m : MethodId} {args : Array Value} {below : List Frame} {meth : Method} {c : Code} {E : EE} {n : Nat} {o : Int} {a0 : Int} {M : Mem} (C : Cx E p s m args meth c cX10_onlyOne 3 RX10 (some .int) n "onlyOne") (hn : nfull n) : ∀ (k : Nat) (v2_4 : Int) (v1_4 : Int) (H : Heap) (locs : List Loc) (ls : Array Slot), lq2 (fn_X10_onlyOne_L4 a0) k v2_4 v1_4 = some o → ST E s n (zf n) M H locs → lv_has ls 3 [(0, i3 a0), (1, i3 v1_4), (2, i3 v2_4)] → W p l e { frames := 0, cells := 0, slots := 0, locals := 0 } s m args below meth c H locs 0 0 (MQ below (QC E (some (i3 o)) n (zf n) M) args s 0 0 (fr E)) (F0 m 4 ls []) := by
  intro k
  induction k with
  | zero => intro v2_4 v1_4 H locs ls hf; cases hf
  | succ k ih =>
    intro v2_4 v1_4 H locs ls hf hH hl
    have h_rec4 : ∀ {v2_4 : Int} {v1_4 : Int} {H : Heap} {locs : List Loc} {ls : Array Slot}, lq2 (fn_X10_onlyOne_L4 a0) k v2_4 v1_4 = some o → ST E s n (zf n) M H locs → lv_has ls 3 [(0, i3 a0), (1, i3 v1_4), (2, i3 v2_4)] → W p l e { frames := 0, cells := 0, slots := 0, locals := 0 } s m args below meth c H locs 0 0 (MQ below (QC E (some (i3 o)) n (zf n) M) args s 0 0 (fr E)) (F0 m 4 ls []) := fun {v2_4} {v1_4} {H} {locs} {ls} a b c => ih v2_4 v1_4 H locs ls a b c
    replace hf : fn_X10_onlyOne_L4 a0 (lq2 (fn_X10_onlyOne_L4 a0) k) v2_4 v1_4 = some o := hf
    generalize lq2 (fn_X10_onlyOne_L4 a0) k = rec4 at hf h_rec4
    unfold fn_X10_onlyOne_L4 at hf
    refine lv_iload_n C.hx C.hb dX10_onlyOne_4 rfl (lv_at hl 2 rfl) ?_
    refine lv_bipush (v := Int32.ofInt 10) C.hx C.hb dX10_onlyOne_5 (by decide) ?_
    refine w_ge (tgt := 34) C hf dX10_onlyOne_7 (by decide) (fun hf => ?_) (fun hf => ?_)
    · refine lv_iload_n C.hx C.hb dX10_onlyOne_34 rfl (lv_at hl 1 rfl) ?_
      cases hf
      exact w_iret C hH dX10_onlyOne_35
    · refine lv_iload_n C.hx C.hb dX10_onlyOne_10 rfl (lv_at hl 0 rfl) ?_
      refine lv_iload_n C.hx C.hb dX10_onlyOne_11 rfl (lv_at hl 2 rfl) ?_
      refine w_ishr C dX10_onlyOne_12 ?_
      refine lv_iconst (v := Int32.ofInt 1) C.hx C.hb dX10_onlyOne_13 rfl ?_
      refine w_iand C dX10_onlyOne_14 ?_
      refine lv_iconst (v := Int32.ofInt 1) C.hx C.hb dX10_onlyOne_15 rfl ?_
      refine w_ne (tgt := 28) C hf dX10_onlyOne_16 (by decide) (fun hf => ?_) (fun hf => ?_)
      · exact j_X10_onlyOne_28 C hn h_rec4 hf hH (lv_sub hl [0, 1, 2] rfl)
      · refine lv_iload_n C.hx C.hb dX10_onlyOne_19 rfl (lv_at hl 1 rfl) ?_
        refine lv_iconst (v := Int32.ofInt (-1)) C.hx C.hb dX10_onlyOne_20 rfl ?_
        refine w_eq (tgt := 26) C hf dX10_onlyOne_21 (by decide) (fun hf => ?_) (fun hf => ?_)
        · refine lv_iload_n C.hx C.hb dX10_onlyOne_26 rfl (lv_at hl 2 rfl) ?_
          refine lv_istore_n (lv' := [(1, i3 v2_4), (0, i3 a0), (2, i3 v2_4)]) C.hx C.hb dX10_onlyOne_27 rfl hl (by decide) rfl (fun ls hl => ?_)
          exact j_X10_onlyOne_28 C hn h_rec4 hf hH (lv_sub hl [1, 0, 2] rfl)
        · refine lv_iconst (v := Int32.ofInt (-1)) C.hx C.hb dX10_onlyOne_24 rfl ?_
          cases hf
          exact w_iret C hH dX10_onlyOne_25
set_option maxRecDepth 100000 in
set_option maxHeartbeats 4000000 in
theorem m_X10_onlyOne {E : EE} {l : Launch} {n : Nat} {a0 : Int} {M : Mem} {o : Int} (hn : nfull n) (hf : fn_X10_onlyOne a0 M = some o) : CT E l yX10_onlyOne cX10_onlyOne 3 (some .int) 0 0 0 0 [i3 a0] n (zf n) M (some (i3 o)) n (zf n) M := by
  refine CT_of PN_RX10 (Nat.le_of_ble_eq_true rfl) ?_
  intro p e s m args below meth c C hH ls hl
  replace C : Cx E p s m args meth c cX10_onlyOne 3 RX10 (some .int) n "onlyOne" := C
  have hl : lv_has ls 3 [(0, i3 a0)] := hl
  unfold fn_X10_onlyOne at hf
  refine lv_iconst (v := Int32.ofInt (-1)) C.hx C.hb dX10_onlyOne_0 rfl ?_
  refine lv_istore_n (lv' := [(1, i3 (-1)), (0, i3 a0)]) C.hx C.hb dX10_onlyOne_1 rfl hl (by decide) rfl (fun ls hl => ?_)
  refine lv_iconst (v := Int32.ofInt 0) C.hx C.hb dX10_onlyOne_2 rfl ?_
  refine lv_istore_n (lv' := [(2, i3 0), (1, i3 (-1)), (0, i3 a0)]) C.hx C.hb dX10_onlyOne_3 rfl hl (by decide) rfl (fun ls hl => ?_)
  exact l_X10_onlyOne_4 C hn FU _ _ _ _ _ hf hH (lv_sub hl [2, 1, 0] rfl)
