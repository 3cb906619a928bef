-- HeavierByHand$Scale.push
def fn_X3_push (t : Nat) (a1 : Int) (M : Mem) : Option Mem :=
  cLt (M t 1) 0 (some M) (cLt (M t 1) 32 (ck (R6 a1 ∧ R6 1000000) <| ck (R6 (-1000000) ∧ R6 (min a1 1000000)) <| wr M (t + 1) 32 (M t 1) (max (-1000000) (min a1 1000000)) fun M38 => st M38 t 1 ((M38 t 1) + 1) fun M46 => some M46) (some M))
set_option maxRecDepth 100000 in
set_option maxHeartbeats 4000000 in
theorem m_X3_push {E : EE} {l : Launch} {n : Nat} {t : Nat} {a1 : Int} {M : Mem} {o : Mem} (hn : nfull n) (o_t : ob n t 3) (hf : fn_X3_push t a1 M = some o) : CT E l yX3_push cX3_push 3 none 4 120 0 0 [.ref (eb E + t), l6 a1] n (zf n) M none n (zf n) o := by
  refine CT_of PN_RX3 (Nat.le_of_ble_eq_true rfl) ?_
  intro p e s m args below meth c C hH ls hl
  replace C : Cx E p s m args meth c cX3_push 3 RX3 none n "push" := C
  have hl : lv_has ls 3 [(0, .ref (eb E + t)), (1, l6 a1)] := hl
  unfold fn_X3_push at hf
  refine lv_aload_n C.hx C.hb dX3_push_0 rfl (lv_at hl 0 rfl) ?_
  refine g_int C hH o_t (by decide) rfl FL_RX3_62 dX3_push_1 ?_
  refine w_lt0 (tgt := 49) C hf dX3_push_4 (by decide) (fun hf => ?_) (fun hf => ?_)
  · cases hf
    exact w_vret C hH dX3_push_49
  · refine lv_aload_n C.hx C.hb dX3_push_7 rfl (lv_at hl 0 rfl) ?_
    refine g_int C hH o_t (by decide) rfl FL_RX3_62 dX3_push_8 ?_
    refine lv_bipush (v := Int32.ofInt 32) C.hx C.hb dX3_push_11 (by decide) ?_
    refine w_ge (tgt := 49) C hf dX3_push_13 (by decide) (fun hf => ?_) (fun hf => ?_)
    · cases hf
      exact w_vret C hH dX3_push_49
    · refine lv_aload_n C.hx C.hb dX3_push_16 rfl (lv_at hl 0 rfl) ?_
      refine g_ref (off := 1) C hH o_t (by decide) rfl rfl FL_RX3_11 dX3_push_17 ?_
      refine lv_aload_n C.hx C.hb dX3_push_20 rfl (lv_at hl 0 rfl) ?_
      refine g_int C hH o_t (by decide) rfl FL_RX3_62 dX3_push_21 ?_
      refine r_ldc2 (x := (-1000000)) C KL_RX3_88 dX3_push_24 ?_
      refine lv_lload_n C.hx C.hb dX3_push_27 rfl (lv_at hl 1 rfl) ?_
      refine r_ldc2 (x := 1000000) C KL_RX3_90 dX3_push_28 ?_
      obtain ⟨hR8, hf⟩ := ck_of hf
      refine w_minL C hl.1 hR8 ML_RX3_92 LB_minl LB_mathi LB_minlc (Nat.le_of_ble_eq_true rfl) (Nat.le_of_ble_eq_true rfl) (Nat.le_refl _) (Nat.le_refl _) dX3_push_31 ?_
      obtain ⟨hR8, hf⟩ := ck_of hf
      refine w_maxL C hl.1 hR8 ML_RX3_95 LB_maxl LB_mathi LB_maxlc (Nat.le_of_ble_eq_true rfl) (Nat.le_of_ble_eq_true rfl) (Nat.le_refl _) (Nat.le_refl _) dX3_push_34 ?_
      refine w_l2i C dX3_push_37 ?_
      refine r_iast C hH (ly (i := 0) (off := 1) (k := 12) hn o_t rfl rfl rfl) (lyn (i := 0) (off := 1) (N := 31) hn o_t rfl rfl rfl) hf dX3_push_38 (fun M38 H locs hf hH => ?_)
      refine lv_aload_n C.hx C.hb dX3_push_39 rfl (lv_at hl 0 rfl) ?_
      refine lv_dup C.hx C.hb dX3_push_40 rfl ?_
      refine g_int C hH o_t (by decide) rfl FL_RX3_62 dX3_push_41 ?_
      refine lv_iconst (v := Int32.ofInt 1) C.hx C.hb dX3_push_44 rfl ?_
      refine w_iadd C dX3_push_45 ?_
      refine r_put C hH o_t (by decide) rfl FL_RX3_62 FW_3_1 hf dX3_push_46 (fun M46 H locs hf hH => ?_)
      cases hf
      exact w_vret C hH dX3_push_49
-- HeavierByHand$Scale.named
def fn_X3_named (a0 : Int) (r1 : Nat) (a2 : Int) (a3 : Int) (M : Mem) : Option Int :=
  cu (fn_X4_isHand r1 a2 M) fun x2 => cEq x2 0 (some 0) (cu (fn_X4_isCoin r1 a3 M) fun x10 => cEq x10 0 (some 0) (ck (R3 a0) <| if a0 = 13 then (some a2) else if a0 = 14 then (rd M (r1 + 1) 10 a2 fun x67 => some x67) else if a0 = 15 then (ck (R3 (M r1 8) ∧ R3 24 ∧ 24 ≠ (0 : Int)) <| some ((M r1 8).tmod 24)) else if a0 = 16 then (cu (fn_X4_isMarketDay r1 M) fun x78 => cEq x78 0 (some 0) (some 1)) else if a0 = 17 then (rd M (r1 + 3) 20 a3 fun x95 => some x95) else if a0 = 18 then (rd M (r1 + 5) 20 a3 fun x102 => some x102) else if a0 = 19 then (rd M (r1 + 4) 20 a3 fun x109 => some x109) else some 0))
set_option maxRecDepth 100000 in
set_option maxHeartbeats 4000000 in
theorem m_X3_named {E : EE} {l : Launch} {n : Nat} {a0 : Int} {r1 : Nat} {a2 : Int} {a3 : Int} {M : Mem} {o : Int} (hn : nfull n) (o_r1 : ob n r1 4) (hf : fn_X3_named a0 r1 a2 a3 M = some o) : CT E l yX3_named cX3_named 4 (some .int) 1 21 0 0 [i3 a0, .ref (eb E + r1), i3 a2, i3 a3] n (zf n) M (some (i3 o)) n (zf n) M := by
  refine CT_of PN_RX3 (Nat.le_of_ble_eq_true rfl) ?_
  intro p e s m args below meth c C hH ls hl
  replace C : Cx E p s m args meth c cX3_named 4 RX3 (some .int) n "named" := C
  have hl : lv_has ls 4 [(0, i3 a0), (1, .ref (eb E + r1)), (2, i3 a2), (3, i3 a3)] := hl
  unfold fn_X3_named at hf
  refine lv_aload_n C.hx C.hb dX3_named_0 rfl (lv_at hl 1 rfl) ?_
  refine lv_iload_n C.hx C.hb dX3_named_1 rfl (lv_at hl 2 rfl) ?_
  obtain ⟨x2, hc9, hf⟩ := cu_of hf
  refine r_callVi (rest := []) C hH hl o_r1 (by decide) rfl (m_X4_isHand hn o_r1 hc9) ML_RX3_15 MF_X4_isHand MI_X4_isHand rfl rfl (Nat.le_of_ble_eq_true rfl) ⟨Nat.le_of_ble_eq_true rfl, Nat.le_of_ble_eq_true rfl⟩ ⟨Nat.le_refl _, Nat.le_refl _⟩ dX3_named_2 (fun H locs hH => ?_)
  refine w_eq0 (tgt := 16) C hf dX3_named_5 (by decide) (fun hf => ?_) (fun hf => ?_)
  · refine lv_iconst (v := Int32.ofInt 0) C.hx C.hb dX3_named_16 rfl ?_
    cases hf
    exact w_iret C hH dX3_named_17
  · refine lv_aload_n C.hx C.hb dX3_named_8 rfl (lv_at hl 1 rfl) ?_
    refine lv_iload_n C.hx C.hb dX3_named_9 rfl (lv_at hl 3 rfl) ?_
    obtain ⟨x10, hc9, hf⟩ := cu_of hf
    refine r_callVi (rest := []) C hH hl o_r1 (by decide) rfl (m_X4_isCoin hn o_r1 hc9) ML_RX3_21 MF_X4_isCoin MI_X4_isCoin rfl rfl (Nat.le_of_ble_eq_true rfl) ⟨Nat.le_of_ble_eq_true rfl, Nat.le_of_ble_eq_true rfl⟩ ⟨Nat.le_refl _, Nat.le_refl _⟩ dX3_named_10 (fun H locs hH => ?_)
    refine w_ne0 (tgt := 18) C hf dX3_named_13 (by decide) (fun hf => ?_) (fun hf => ?_)
    · refine lv_iload_n C.hx C.hb dX3_named_18 rfl (lv_at hl 0 rfl) ?_
      obtain ⟨hR9, hf⟩ := ck_of hf
      by_cases e0 : a0 = 13
      · rw [if_pos e0] at hf
        refine r_tab (tgt := 60) C e0 ⟨by decide, by decide⟩ dX3_named_19 (by decide) (by decide) rfl (by decide) ?_
        refine lv_iload_n C.hx C.hb dX3_named_60 rfl (lv_at hl 2 rfl) ?_
        cases hf
        exact w_iret C hH dX3_named_61
      · rw [if_neg e0] at hf
        by_cases e1 : a0 = 14
        · rw [if_pos e1] at hf
          refine r_tab (tgt := 62) C e1 ⟨by decide, by decide⟩ dX3_named_19 (by decide) (by decide) rfl (by decide) ?_
          refine lv_aload_n C.hx C.hb dX3_named_62 rfl (lv_at hl 1 rfl) ?_
          refine g_ref (off := 1) C hH o_r1 (by decide) rfl rfl FL_RX3_24 dX3_named_63 ?_
          refine lv_iload_n C.hx C.hb dX3_named_66 rfl (lv_at hl 2 rfl) ?_
          refine r_iald C hH (ly (i := 0) (off := 1) (k := 12) hn o_r1 rfl rfl rfl) (lyn (i := 0) (off := 1) (N := 9) hn o_r1 rfl rfl rfl) hf dX3_named_67 (fun x67 hf => ?_)
          cases hf
          exact w_iret C hH dX3_named_68
        · rw [if_neg e1] at hf
          by_cases e2 : a0 = 15
          · rw [if_pos e2] at hf
            refine r_tab (tgt := 69) C e2 ⟨by decide, by decide⟩ dX3_named_19 (by decide) (by decide) rfl (by decide) ?_
            refine lv_aload_n C.hx C.hb dX3_named_69 rfl (lv_at hl 1 rfl) ?_
            refine g_int C hH o_r1 (by decide) rfl FL_RX3_97 dX3_named_70 ?_
            refine lv_bipush (v := Int32.ofInt 24) C.hx C.hb dX3_named_73 (by decide) ?_
            obtain ⟨hR8, hf⟩ := ck_of hf
            refine w_irem C hR8 dX3_named_75 ?_
            cases hf
            exact w_iret C hH dX3_named_76
          · rw [if_neg e2] at hf
            by_cases e3 : a0 = 16
            · rw [if_pos e3] at hf
              refine r_tab (tgt := 77) C e3 ⟨by decide, by decide⟩ dX3_named_19 (by decide) (by decide) rfl (by decide) ?_
              refine lv_aload_n C.hx C.hb dX3_named_77 rfl (lv_at hl 1 rfl) ?_
              obtain ⟨x78, hc9, hf⟩ := cu_of hf
              refine r_callVi (rest := []) C hH hl o_r1 (by decide) rfl (m_X4_isMarketDay hn o_r1 hc9) ML_RX3_100 MF_X4_isMarketDay MI_X4_isMarketDay rfl rfl (Nat.le_of_ble_eq_true rfl) ⟨Nat.le_of_ble_eq_true rfl, Nat.le_of_ble_eq_true rfl⟩ ⟨Nat.le_refl _, Nat.le_refl _⟩ dX3_named_78 (fun H locs hH => ?_)
              refine w_eq0 (tgt := 88) C hf dX3_named_81 (by decide) (fun hf => ?_) (fun hf => ?_)
              · refine lv_iconst (v := Int32.ofInt 0) C.hx C.hb dX3_named_88 rfl ?_
                cases hf
                exact w_iret C hH dX3_named_89
              · refine lv_iconst (v := Int32.ofInt 1) C.hx C.hb dX3_named_84 rfl ?_
                refine lv_goto (tgt := 89) C.hx C.hb dX3_named_85 (by decide) ?_
                cases hf
                exact w_iret C hH dX3_named_89
            · rw [if_neg e3] at hf
              by_cases e4 : a0 = 17
              · rw [if_pos e4] at hf
                refine r_tab (tgt := 90) C e4 ⟨by decide, by decide⟩ dX3_named_19 (by decide) (by decide) rfl (by decide) ?_
                refine lv_aload_n C.hx C.hb dX3_named_90 rfl (lv_at hl 1 rfl) ?_
                refine g_ref (off := 3) C hH o_r1 (by decide) rfl rfl FL_RX3_103 dX3_named_91 ?_
                refine lv_iload_n C.hx C.hb dX3_named_94 rfl (lv_at hl 3 rfl) ?_
                refine r_iald C hH (ly (i := 3) (off := 3) (k := 12) hn o_r1 rfl rfl rfl) (lyn (i := 3) (off := 3) (N := 19) hn o_r1 rfl rfl rfl) hf dX3_named_95 (fun x95 hf => ?_)
                cases hf
                exact w_iret C hH dX3_named_96
              · rw [if_neg e4] at hf
                by_cases e5 : a0 = 18
                · rw [if_pos e5] at hf
                  refine r_tab (tgt := 97) C e5 ⟨by decide, by decide⟩ dX3_named_19 (by decide) (by decide) rfl (by decide) ?_
                  refine lv_aload_n C.hx C.hb dX3_named_97 rfl (lv_at hl 1 rfl) ?_
                  refine g_ref (off := 5) C hH o_r1 (by decide) rfl rfl FL_RX3_106 dX3_named_98 ?_
                  refine lv_iload_n C.hx C.hb dX3_named_101 rfl (lv_at hl 3 rfl) ?_
                  refine r_iald C hH (ly (i := 5) (off := 5) (k := 12) hn o_r1 rfl rfl rfl) (lyn (i := 5) (off := 5) (N := 19) hn o_r1 rfl rfl rfl) hf dX3_named_102 (fun x102 hf => ?_)
                  cases hf
                  exact w_iret C hH dX3_named_103
                · rw [if_neg e5] at hf
                  by_cases e6 : a0 = 19
                  · rw [if_pos e6] at hf
                    refine r_tab (tgt := 104) C e6 ⟨by decide, by decide⟩ dX3_named_19 (by decide) (by decide) rfl (by decide) ?_
                    refine lv_aload_n C.hx C.hb dX3_named_104 rfl (lv_at hl 1 rfl) ?_
                    refine g_ref (off := 4) C hH o_r1 (by decide) rfl rfl FL_RX3_109 dX3_named_105 ?_
                    refine lv_iload_n C.hx C.hb dX3_named_108 rfl (lv_at hl 3 rfl) ?_
                    refine r_iald C hH (ly (i := 4) (off := 4) (k := 12) hn o_r1 rfl rfl rfl) (lyn (i := 4) (off := 4) (N := 19) hn o_r1 rfl rfl rfl) hf dX3_named_109 (fun x109 hf => ?_)
                    cases hf
                    exact w_iret C hH dX3_named_110
                  · rw [if_neg e6] at hf
                    refine r_tabO (tgt := 111) C hR9 dX3_named_19 (by omega) (by decide) ?_
                    refine lv_iconst (v := Int32.ofInt 0) C.hx C.hb dX3_named_111 rfl ?_
                    cases hf
                    exact w_iret C hH dX3_named_112
    · refine lv_iconst (v := Int32.ofInt 0) C.hx C.hb dX3_named_16 rfl ?_
      cases hf
      exact w_iret C hH dX3_named_17
-- HeavierByHand$Scale.pop
def fn_X3_pop (t : Nat) (M : Mem) : Option (Int × Mem) :=
  cLt (M t 1) 1 (some (0, M)) (cLt 32 (M t 1) (some (0, M)) (st M t 1 ((M t 1) - 1) fun M26 => rd M26 (t + 1) 32 (M26 t 1) fun x37 => some (x37, M26)))
set_option maxRecDepth 100000 in
set_option maxHeartbeats 4000000 in
theorem m_X3_pop {E : EE} {l : Launch} {n : Nat} {t : Nat} {M : Mem} {o : (Int × Mem)} (hn : nfull n) (o_t : ob n t 3) (hf : fn_X3_pop t M = some o) : CT E l yX3_pop cX3_pop 1 (some .int) 0 0 0 0 [.ref (eb E + t)] n (zf n) M (some (i3 o.1)) n (zf n) o.2 := by
  refine CT_of PN_RX3 (Nat.le_of_ble_eq_true rfl) ?_
  intro p e s m args below meth c C hH ls hl
  replace C : Cx E p s m args meth c cX3_pop 1 RX3 (some .int) n "pop" := C
  have hl : lv_has ls 1 [(0, .ref (eb E + t))] := hl
  unfold fn_X3_pop at hf
  refine lv_aload_n C.hx C.hb dX3_pop_0 rfl (lv_at hl 0 rfl) ?_
  refine g_int C hH o_t (by decide) rfl FL_RX3_62 dX3_pop_1 ?_
  refine lv_iconst (v := Int32.ofInt 1) C.hx C.hb dX3_pop_4 rfl ?_
  refine w_lt (tgt := 17) C hf dX3_pop_5 (by decide) (fun hf => ?_) (fun hf => ?_)
  · refine lv_iconst (v := Int32.ofInt 0) C.hx C.hb dX3_pop_17 rfl ?_
    cases hf
    exact w_iret C hH dX3_pop_18
  · refine lv_aload_n C.hx C.hb dX3_pop_8 rfl (lv_at hl 0 rfl) ?_
    refine g_int C hH o_t (by decide) rfl FL_RX3_62 dX3_pop_9 ?_
    refine lv_bipush (v := Int32.ofInt 32) C.hx C.hb dX3_pop_12 (by decide) ?_
    refine w_le (tgt := 19) C hf dX3_pop_14 (by decide) (fun hf => ?_) (fun hf => ?_)
    · refine lv_aload_n C.hx C.hb dX3_pop_19 rfl (lv_at hl 0 rfl) ?_
      refine lv_dup C.hx C.hb dX3_pop_20 rfl ?_
      refine g_int C hH o_t (by decide) rfl FL_RX3_62 dX3_pop_21 ?_
      refine lv_iconst (v := Int32.ofInt 1) C.hx C.hb dX3_pop_24 rfl ?_
      refine w_isub C dX3_pop_25 ?_
      refine r_put C hH o_t (by decide) rfl FL_RX3_62 FW_3_1 hf dX3_pop_26 (fun M26 H locs hf hH => ?_)
      refine lv_aload_n C.hx C.hb dX3_pop_29 rfl (lv_at hl 0 rfl) ?_
      refine g_ref (off := 1) C hH o_t (by decide) rfl rfl FL_RX3_11 dX3_pop_30 ?_
      refine lv_aload_n C.hx C.hb dX3_pop_33 rfl (lv_at hl 0 rfl) ?_
      refine g_int C hH o_t (by decide) rfl FL_RX3_62 dX3_pop_34 ?_
      refine r_iald C hH (ly (i := 0) (off := 1) (k := 12) hn o_t rfl rfl rfl) (lyn (i := 0) (off := 1) (N := 31) hn o_t rfl rfl rfl) hf dX3_pop_37 (fun x37 hf => ?_)
      cases hf
      exact w_iret C hH dX3_pop_38
    · refine lv_iconst (v := Int32.ofInt 0) C.hx C.hb dX3_pop_17 rfl ?_
      cases hf
      exact w_iret C hH dX3_pop_18
-- HeavierByHand$Scale.reckoned
def fn_X3_reckoned (a0 : Int) (a1 : Int) (a3 : Int) (M : Mem) : Option Int :=
  ck (R3 a0) <| if a0 = 26 then (some (a1 + a3)) else if a0 = 27 then (some (a1 - a3)) else if a0 = 28 then (some (a1 * a3)) else dEq a3 0 (some 0) (ck (R6 a1 ∧ R6 a3 ∧ a3 ≠ (0 : Int)) <| some (a1.tdiv a3))
set_option maxRecDepth 100000 in
set_option maxHeartbeats 4000000 in
theorem m_X3_reckoned {E : EE} {l : Launch} {n : Nat} {a0 : Int} {a1 : Int} {a3 : Int} {M : Mem} {o : Int} (hn : nfull n) (hf : fn_X3_reckoned a0 a1 a3 M = some o) : CT E l yX3_reckoned cX3_reckoned 5 (some .long) 0 0 0 0 [i3 a0, l6 a1, l6 a3] n (zf n) M (some (l6 o)) n (zf n) M := by
  refine CT_of PN_RX3 (Nat.le_of_ble_eq_true rfl) ?_
  intro p e s m args below meth c C hH ls hl
  replace C : Cx E p s m args meth c cX3_reckoned 5 RX3 (some .long) n "reckoned" := C
  have hl : lv_has ls 5 [(0, i3 a0), (1, l6 a1), (3, l6 a3)] := hl
  unfold fn_X3_reckoned at hf
  refine lv_iload_n C.hx C.hb dX3_reckoned_0 rfl (lv_at hl 0 rfl) ?_
  obtain ⟨hR9, hf⟩ := ck_of hf
  by_cases e0 : a0 = 26
  · rw [if_pos e0] at hf
    refine r_tab (tgt := 28) C e0 ⟨by decide, by decide⟩ dX3_reckoned_1 (by decide) (by decide) rfl (by decide) ?_
    refine lv_lload_n C.hx C.hb dX3_reckoned_28 rfl (lv_at hl 1 rfl) ?_
    refine lv_lload_n C.hx C.hb dX3_reckoned_29 rfl (lv_at hl 2 rfl) ?_
    refine w_ladd C dX3_reckoned_30 ?_
    cases hf
    exact w_lret C hH dX3_reckoned_31
  · rw [if_neg e0] at hf
    by_cases e1 : a0 = 27
    · rw [if_pos e1] at hf
      refine r_tab (tgt := 32) C e1 ⟨by decide, by decide⟩ dX3_reckoned_1 (by decide) (by decide) rfl (by decide) ?_
      refine lv_lload_n C.hx C.hb dX3_reckoned_32 rfl (lv_at hl 1 rfl) ?_
      refine lv_lload_n C.hx C.hb dX3_reckoned_33 rfl (lv_at hl 2 rfl) ?_
      refine w_lsub C dX3_reckoned_34 ?_
      cases hf
      exact w_lret C hH dX3_reckoned_35
    · rw [if_neg e1] at hf
      by_cases e2 : a0 = 28
      · rw [if_pos e2] at hf
        refine r_tab (tgt := 36) C e2 ⟨by decide, by decide⟩ dX3_reckoned_1 (by decide) (by decide) rfl (by decide) ?_
        refine lv_lload_n C.hx C.hb dX3_reckoned_36 rfl (lv_at hl 1 rfl) ?_
        refine lv_lload_n C.hx C.hb dX3_reckoned_37 rfl (lv_at hl 2 rfl) ?_
        refine w_lmul C dX3_reckoned_38 ?_
        cases hf
        exact w_lret C hH dX3_reckoned_39
      · rw [if_neg e2] at hf
        refine r_tabO (tgt := 40) C hR9 dX3_reckoned_1 (by omega) (by decide) ?_
        refine lv_lload_n C.hx C.hb dX3_reckoned_40 rfl (lv_at hl 2 rfl) ?_
        refine lv_lconst (v := Int64.ofInt 0) C.hx C.hb dX3_reckoned_41 (by decide) ?_
        refine w_lne (tgt := 50) C hf dX3_reckoned_42 dX3_reckoned_43 (by decide) (fun hf => ?_) (fun hf => ?_)
        · refine lv_lload_n C.hx C.hb dX3_reckoned_50 rfl (lv_at hl 1 rfl) ?_
          refine lv_lload_n C.hx C.hb dX3_reckoned_51 rfl (lv_at hl 2 rfl) ?_
          obtain ⟨hR8, hf⟩ := ck_of hf
          refine w_ldiv C hR8 dX3_reckoned_52 ?_
          cases hf
          exact w_lret C hH dX3_reckoned_53
        · refine lv_lconst (v := Int64.ofInt 0) C.hx C.hb dX3_reckoned_46 (by decide) ?_
          refine lv_goto (tgt := 53) C.hx C.hb dX3_reckoned_47 (by decide) ?_
          cases hf
          exact w_lret C hH dX3_reckoned_53
-- HeavierByHand$Scale.isSo
def fn_X3_isSo_J172 (a1 : Int) (a3 : Int) : Option Int :=
  dEq a1 a3 (some 0) (some 1)
def fn_X3_isSo_J88 : Option Int :=
  some 1
def fn_X3_isSo_J110 : Option Int :=
  some 0
def fn_X3_isSo (a0 : Int) (a1 : Int) (a3 : Int) (M : Mem) : Option Int :=
  ck (R3 a0) <| if a0 = 10 then (dEq a1 0 (dEq a3 0 (some 0) (fn_X3_isSo_J88)) (fn_X3_isSo_J88)) else if a0 = 11 then (dEq a1 0 (fn_X3_isSo_J110) (dEq a3 0 (fn_X3_isSo_J110) (some 1))) else if a0 = 20 then (dLt a1 a3 (some 1) (some 0)) else if a0 = 21 then (dLt a3 a1 (some 0) (some 1)) else if a0 = 22 then (dLt a3 a1 (some 1) (some 0)) else if a0 = 23 then (dLt a1 a3 (some 0) (some 1)) else if a0 = 24 then (dEq a1 a3 (some 1) (some 0)) else fn_X3_isSo_J172 a1 a3
set_option maxRecDepth 100000 in
set_option maxHeartbeats 4000000 in
theorem j_X3_isSo_172 {p : Program} {l : Launch} {e : Env} {s : State} {m : MethodId} {args : Array Value} {below : List Frame} {meth : Method} {c : Code} {E : EE} {n : Nat} {o : Int} {a1 : Int} {a3 : Int} {M : Mem} {H : Heap} {locs : List Loc} {ls : Array Slot} (C : Cx E p s m args meth c cX3_isSo 5 RX3 (some .boolean) n "isSo") (hn : nfull n) (hf : fn_X3_isSo_J172 a1 a3 = some o) (hH : ST E s n (zf n) M H locs) (hl : lv_has ls 5 [(1, l6 a1), (3, l6 a3)]) : W p l e { frames := 0, cells := 0, slots := 0, locals := 0 } s m args below meth c H locs 0 0 (MQ below (QC E (some (i3 o)) n (zf n) M) args s 0 0 (fr E)) (F0 m 172 ls []) := by
  unfold fn_X3_isSo_J172 at hf
  refine lv_lload_n C.hx C.hb dX3_isSo_172 rfl (lv_at hl 0 rfl) ?_
  refine lv_lload_n C.hx C.hb dX3_isSo_173 rfl (lv_at hl 1 rfl) ?_
  refine w_leq (tgt := 182) C hf dX3_isSo_174 dX3_isSo_175 (by decide) (fun hf => ?_) (fun hf => ?_)
  · refine lv_iconst (v := Int32.ofInt 0) C.hx C.hb dX3_isSo_182 rfl ?_
    cases hf
    exact w_zret C hH (Or.inl rfl) dX3_isSo_183
  · refine lv_iconst (v := Int32.ofInt 1) C.hx C.hb dX3_isSo_178 rfl ?_
    refine lv_goto (tgt := 183) C.hx C.hb dX3_isSo_179 (by decide) ?_
    cases hf
    exact w_zret C hH (Or.inr rfl) dX3_isSo_183
set_option maxRecDepth 100000 in
set_option maxHeartbeats 4000000 in
theorem j_X3_isSo_88 {p : Program} {l : Launch} {e : Env} {s : State} {m : MethodId} {args : Array Value} {below : List Frame} {meth : Method} {c : Code} {E : EE} {n : Nat} {o : Int} {M : Mem} {H : Heap} {locs : List Loc} {ls : Array Slot} (C : Cx E p s m args meth c cX3_isSo 5 RX3 (some .boolean) n "isSo") (hn : nfull n) (hf : fn_X3_isSo_J88 = some o) (hH : ST E s n (zf n) M H locs) (hl : lv_has ls 5 []) : W p l e { frames := 0, cells := 0, slots := 0, locals := 0 } s m args below meth c H locs 0 0 (MQ below (QC E (some (i3 o)) n (zf n) M) args s 0 0 (fr E)) (F0 m 88 ls []) := by
  unfold fn_X3_isSo_J88 at hf
  refine lv_iconst (v := Int32.ofInt 1) C.hx C.hb dX3_isSo_88 rfl ?_
  refine lv_goto (tgt := 93) C.hx C.hb dX3_isSo_89 (by decide) ?_
  cases hf
  exact w_zret C hH (Or.inr rfl) dX3_isSo_93
set_option maxRecDepth 100000 in
set_option maxHeartbeats 4000000 in
theorem j_X3_isSo_110 {p : Program} {l : Launch} {e : Env} {s : State} {m : MethodId} {args : Array Value} {below : List Frame} {meth : Method} {c : Code} {E : EE} {n : Nat} {o : Int} {M : Mem} {H : Heap} {locs : List Loc} {ls : Array Slot} (C : Cx E p s m args meth c cX3_isSo 5 RX3 (some .boolean) n "isSo") (hn : nfull n) (hf : fn_X3_isSo_J110 = some o) (hH : ST E s n (zf n) M H locs) (hl : lv_has ls 5 []) : W p l e { frames := 0, cells := 0, slots := 0, locals := 0 } s m args below meth c H locs 0 0 (MQ below (QC E (some (i3 o)) n (zf n) M) args s 0 0 (fr E)) (F0 m 110 ls []) := by
  unfold fn_X3_isSo_J110 at hf
  refine lv_iconst (v := Int32.ofInt 0) C.hx C.hb dX3_isSo_110 rfl ?_
  cases hf
  exact w_zret C hH (Or.inl rfl) dX3_isSo_111
set_option maxRecDepth 100000 in
set_option maxHeartbeats 4000000 in
theorem m_X3_isSo {E : EE} {l : Launch} {n : Nat} {a0 : Int} {a1 : Int} {a3 : Int} {M : Mem} {o : Int} (hn : nfull n) (hf : fn_X3_isSo a0 a1 a3 M = some o) : CT E l yX3_isSo cX3_isSo 5 (some .boolean) 0 0 0 0 [i3 a0, l6 a1, l6 a3] n (zf n) M (some (i3 o)) n (zf n) M := by
  refine CT_of PN_RX3 (Nat.le_of_ble_eq_true rfl) ?_
  intro p e s m args below meth c C hH ls hl
  replace C : Cx E p s m args meth c cX3_isSo 5 RX3 (some .boolean) n "isSo" := C
  have hl : lv_has ls 5 [(0, i3 a0), (1, l6 a1), (3, l6 a3)] := hl
  unfold fn_X3_isSo at hf
  refine lv_iload_n C.hx C.hb dX3_isSo_0 rfl (lv_at hl 0 rfl) ?_
  obtain ⟨hR9, hf⟩ := ck_of hf
  by_cases e0 : a0 = 10
  · rw [if_pos e0] at hf
    refine r_tab (tgt := 76) C e0 ⟨by decide, by decide⟩ dX3_isSo_1 (by decide) (by decide) rfl (by decide) ?_
    refine lv_lload_n C.hx C.hb dX3_isSo_76 rfl (lv_at hl 1 rfl) ?_
    refine lv_lconst (v := Int64.ofInt 0) C.hx C.hb dX3_isSo_77 (by decide) ?_
    refine w_lne (tgt := 88) C hf dX3_isSo_78 dX3_isSo_79 (by decide) (fun hf => ?_) (fun hf => ?_)
    · exact j_X3_isSo_88 C hn hf hH (lv_sub hl [] rfl)
    · refine lv_lload_n C.hx C.hb dX3_isSo_82 rfl (lv_at hl 2 rfl) ?_
      refine lv_lconst (v := Int64.ofInt 0) C.hx C.hb dX3_isSo_83 (by decide) ?_
      refine w_leq (tgt := 92) C hf dX3_isSo_84 dX3_isSo_85 (by decide) (fun hf => ?_) (fun hf => ?_)
      · refine lv_iconst (v := Int32.ofInt 0) C.hx C.hb dX3_isSo_92 rfl ?_
        cases hf
        exact w_zret C hH (Or.inl rfl) dX3_isSo_93
      · exact j_X3_isSo_88 C hn hf hH (lv_sub hl [] rfl)
  · rw [if_neg e0] at hf
    by_cases e1 : a0 = 11
    · rw [if_pos e1] at hf
      refine r_tab (tgt := 94) C e1 ⟨by decide, by decide⟩ dX3_isSo_1 (by decide) (by decide) rfl (by decide) ?_
      refine lv_lload_n C.hx C.hb dX3_isSo_94 rfl (lv_at hl 1 rfl) ?_
      refine lv_lconst (v := Int64.ofInt 0) C.hx C.hb dX3_isSo_95 (by decide) ?_
      refine w_leq (tgt := 110) C hf dX3_isSo_96 dX3_isSo_97 (by decide) (fun hf => ?_) (fun hf => ?_)
      · exact j_X3_isSo_110 C hn hf hH (lv_sub hl [] rfl)
      · refine lv_lload_n C.hx C.hb dX3_isSo_100 rfl (lv_at hl 2 rfl) ?_
        refine lv_lconst (v := Int64.ofInt 0) C.hx C.hb dX3_isSo_101 (by decide) ?_
        refine w_leq (tgt := 110) C hf dX3_isSo_102 dX3_isSo_103 (by decide) (fun hf => ?_) (fun hf => ?_)
        · exact j_X3_isSo_110 C hn hf hH (lv_sub hl [] rfl)
        · refine lv_iconst (v := Int32.ofInt 1) C.hx C.hb dX3_isSo_106 rfl ?_
          refine lv_goto (tgt := 111) C.hx C.hb dX3_isSo_107 (by decide) ?_
          cases hf
          exact w_zret C hH (Or.inr rfl) dX3_isSo_111
    · rw [if_neg e1] at hf
      by_cases e2 : a0 = 20
      · rw [if_pos e2] at hf
        refine r_tab (tgt := 112) C e2 ⟨by decide, by decide⟩ dX3_isSo_1 (by decide) (by decide) rfl (by decide) ?_
        refine lv_lload_n C.hx C.hb dX3_isSo_112 rfl (lv_at hl 1 rfl) ?_
        refine lv_lload_n C.hx C.hb dX3_isSo_113 rfl (lv_at hl 2 rfl) ?_
        refine w_lge (tgt := 122) C hf dX3_isSo_114 dX3_isSo_115 (by decide) (fun hf => ?_) (fun hf => ?_)
        · refine lv_iconst (v := Int32.ofInt 0) C.hx C.hb dX3_isSo_122 rfl ?_
          cases hf
          exact w_zret C hH (Or.inl rfl) dX3_isSo_123
        · refine lv_iconst (v := Int32.ofInt 1) C.hx C.hb dX3_isSo_118 rfl ?_
          refine lv_goto (tgt := 123) C.hx C.hb dX3_isSo_119 (by decide) ?_
          cases hf
          exact w_zret C hH (Or.inr rfl) dX3_isSo_123
      · rw [if_neg e2] at hf
        by_cases e3 : a0 = 21
        · rw [if_pos e3] at hf
          refine r_tab (tgt := 124) C e3 ⟨by decide, by decide⟩ dX3_isSo_1 (by decide) (by decide) rfl (by decide) ?_
          refine lv_lload_n C.hx C.hb dX3_isSo_124 rfl (lv_at hl 1 rfl) ?_
          refine lv_lload_n C.hx C.hb dX3_isSo_125 rfl (lv_at hl 2 rfl) ?_
          refine w_lgt (tgt := 134) C hf dX3_isSo_126 dX3_isSo_127 (by decide) (fun hf => ?_) (fun hf => ?_)
          · refine lv_iconst (v := Int32.ofInt 0) C.hx C.hb dX3_isSo_134 rfl ?_
            cases hf
            exact w_zret C hH (Or.inl rfl) dX3_isSo_135
          · refine lv_iconst (v := Int32.ofInt 1) C.hx C.hb dX3_isSo_130 rfl ?_
            refine lv_goto (tgt := 135) C.hx C.hb dX3_isSo_131 (by decide) ?_
            cases hf
            exact w_zret C hH (Or.inr rfl) dX3_isSo_135
        · rw [if_neg e3] at hf
          by_cases e4 : a0 = 22
          · rw [if_pos e4] at hf
            refine r_tab (tgt := 136) C e4 ⟨by decide, by decide⟩ dX3_isSo_1 (by decide) (by decide) rfl (by decide) ?_
            refine lv_lload_n C.hx C.hb dX3_isSo_136 rfl (lv_at hl 1 rfl) ?_
            refine lv_lload_n C.hx C.hb dX3_isSo_137 rfl (lv_at hl 2 rfl) ?_
            refine w_lle (tgt := 146) C hf dX3_isSo_138 dX3_isSo_139 (by decide) (fun hf => ?_) (fun hf => ?_)
            · refine lv_iconst (v := Int32.ofInt 0) C.hx C.hb dX3_isSo_146 rfl ?_
              cases hf
              exact w_zret C hH (Or.inl rfl) dX3_isSo_147
            · refine lv_iconst (v := Int32.ofInt 1) C.hx C.hb dX3_isSo_142 rfl ?_
              refine lv_goto (tgt := 147) C.hx C.hb dX3_isSo_143 (by decide) ?_
              cases hf
              exact w_zret C hH (Or.inr rfl) dX3_isSo_147
          · rw [if_neg e4] at hf
            by_cases e5 : a0 = 23
            · rw [if_pos e5] at hf
              refine r_tab (tgt := 148) C e5 ⟨by decide, by decide⟩ dX3_isSo_1 (by decide) (by decide) rfl (by decide) ?_
              refine lv_lload_n C.hx C.hb dX3_isSo_148 rfl (lv_at hl 1 rfl) ?_
              refine lv_lload_n C.hx C.hb dX3_isSo_149 rfl (lv_at hl 2 rfl) ?_
              refine w_llt (tgt := 158) C hf dX3_isSo_150 dX3_isSo_151 (by decide) (fun hf => ?_) (fun hf => ?_)
              · refine lv_iconst (v := Int32.ofInt 0) C.hx C.hb dX3_isSo_158 rfl ?_
                cases hf
                exact w_zret C hH (Or.inl rfl) dX3_isSo_159
              · refine lv_iconst (v := Int32.ofInt 1) C.hx C.hb dX3_isSo_154 rfl ?_
                refine lv_goto (tgt := 159) C.hx C.hb dX3_isSo_155 (by decide) ?_
                cases hf
                exact w_zret C hH (Or.inr rfl) dX3_isSo_159
            · rw [if_neg e5] at hf
              by_cases e6 : a0 = 24
              · rw [if_pos e6] at hf
                refine r_tab (tgt := 160) C e6 ⟨by decide, by decide⟩ dX3_isSo_1 (by decide) (by decide) rfl (by decide) ?_
                refine lv_lload_n C.hx C.hb dX3_isSo_160 rfl (lv_at hl 1 rfl) ?_
                refine lv_lload_n C.hx C.hb dX3_isSo_161 rfl (lv_at hl 2 rfl) ?_
                refine w_lne (tgt := 170) C hf dX3_isSo_162 dX3_isSo_163 (by decide) (fun hf => ?_) (fun hf => ?_)
                · refine lv_iconst (v := Int32.ofInt 0) C.hx C.hb dX3_isSo_170 rfl ?_
                  cases hf
                  exact w_zret C hH (Or.inl rfl) dX3_isSo_171
                · refine lv_iconst (v := Int32.ofInt 1) C.hx C.hb dX3_isSo_166 rfl ?_
                  refine lv_goto (tgt := 171) C.hx C.hb dX3_isSo_167 (by decide) ?_
                  cases hf
                  exact w_zret C hH (Or.inr rfl) dX3_isSo_171
              · rw [if_neg e6] at hf
                by_cases f0 : a0 = 12
                · refine r_tab (tgt := 172) C f0 ⟨by decide, by decide⟩ dX3_isSo_1 (by decide) (by decide) rfl (by decide) ?_
                  exact j_X3_isSo_172 C hn hf hH (lv_sub hl [1, 2] rfl)
                · skip
                  by_cases f1 : a0 = 13
                  · refine r_tab (tgt := 172) C f1 ⟨by decide, by decide⟩ dX3_isSo_1 (by decide) (by decide) rfl (by decide) ?_
                    exact j_X3_isSo_172 C hn hf hH (lv_sub hl [1, 2] rfl)
                  · skip
                    by_cases f2 : a0 = 14
                    · refine r_tab (tgt := 172) C f2 ⟨by decide, by decide⟩ dX3_isSo_1 (by decide) (by decide) rfl (by decide) ?_
                      exact j_X3_isSo_172 C hn hf hH (lv_sub hl [1, 2] rfl)
                    · skip
                      by_cases f3 : a0 = 15
                      · refine r_tab (tgt := 172) C f3 ⟨by decide, by decide⟩ dX3_isSo_1 (by decide) (by decide) rfl (by decide) ?_
                        exact j_X3_isSo_172 C hn hf hH (lv_sub hl [1, 2] rfl)
                      · skip
                        by_cases f4 : a0 = 16
                        · refine r_tab (tgt := 172) C f4 ⟨by decide, by decide⟩ dX3_isSo_1 (by decide) (by decide) rfl (by decide) ?_
                          exact j_X3_isSo_172 C hn hf hH (lv_sub hl [1, 2] rfl)
                        · skip
                          by_cases f5 : a0 = 17
                          · refine r_tab (tgt := 172) C f5 ⟨by decide, by decide⟩ dX3_isSo_1 (by decide) (by decide) rfl (by decide) ?_
                            exact j_X3_isSo_172 C hn hf hH (lv_sub hl [1, 2] rfl)
                          · skip
                            by_cases f6 : a0 = 18
                            · refine r_tab (tgt := 172) C f6 ⟨by decide, by decide⟩ dX3_isSo_1 (by decide) (by decide) rfl (by decide) ?_
                              exact j_X3_isSo_172 C hn hf hH (lv_sub hl [1, 2] rfl)
                            · skip
                              by_cases f7 : a0 = 19
                              · refine r_tab (tgt := 172) C f7 ⟨by decide, by decide⟩ dX3_isSo_1 (by decide) (by decide) rfl (by decide) ?_
                                exact j_X3_isSo_172 C hn hf hH (lv_sub hl [1, 2] rfl)
                              · skip
                                refine r_tabO (tgt := 172) C hR9 dX3_isSo_1 (by omega) (by decide) ?_
                                exact j_X3_isSo_172 C hn hf hH (lv_sub hl [1, 2] rfl)
-- HeavierByHand$Scale.work
def fn_X3_work_J89 (t : Nat) (M42 : Mem) (u0_89 : Int) : Option Mem :=
  cv (fn_X3_push t u0_89 M42) fun M89 => some M89
def fn_X3_work_J37 (t : Nat) (M1 : Mem) (u0_37 : Int) : Option Mem :=
  cv (fn_X3_push t u0_37 M1) fun M37 => some M37
def fn_X3_work (t : Nat) (a1 : Int) (M : Mem) : Option Mem :=
  cl (fn_X3_pop t M) fun x1 M1 => ck (R3 x1) <| cEq a1 33 (cv (fn_X3_push t (-x1) M1) fun M15 => some M15) (cEq a1 12 (dEq x1 0 (fn_X3_work_J37 t M1 1) (fn_X3_work_J37 t M1 0)) (cl (fn_X3_pop t M1) fun x42 M42 => ck (R3 x42) <| cu (fn_X10_isWithin a1 26 29 M42) fun x53 => cEq x53 0 (cu (fn_X3_isSo a1 x42 x1 M42) fun x78 => cEq x78 0 (fn_X3_work_J89 t M42 0) (fn_X3_work_J89 t M42 1)) (cu (fn_X3_reckoned a1 x42 x1 M42) fun x64 => cv (fn_X3_push t x64 M42) fun M67 => some M67)))
set_option maxRecDepth 100000 in
set_option maxHeartbeats 4000000 in
theorem j_X3_work_89 {p : Program} {l : Launch} {e : Env} {s : State} {m : MethodId} {args : Array Value} {below : List Frame} {meth : Method} {c : Code} {E : EE} {n : Nat} {o : Mem} {t : Nat} {M42 : Mem} {u0_89 : Int} {H : Heap} {locs : List Loc} {ls : Array Slot} (C : Cx E p s m args meth c cX3_work 6 RX3 none n "work") (hn : nfull n) (o_t : ob n t 3) (hf : fn_X3_work_J89 t M42 u0_89 = some o) (hH : ST E s n (zf n) M42 H locs) (hl : lv_has ls 6 []) : W p l e { frames := 5, cells := 0, slots := 0, locals := 142 } s m args below meth c H locs 0 0 (MQ below (QC E none n (zf n) o) args s 0 0 (fr E)) (F0 m 89 ls [l6 u0_89, .ref (eb E + t)]) := by
  unfold fn_X3_work_J89 at hf
  obtain ⟨M89, hc9, hf⟩ := cv_of hf
  refine r_callVv (rest := []) C hH hl o_t (by decide) rfl (m_X3_push hn o_t hc9) ML_RX3_68 MF_X3_push MI_X3_push rfl rfl (Nat.le_of_ble_eq_true rfl) ⟨Nat.le_of_ble_eq_true rfl, Nat.le_of_ble_eq_true rfl⟩ ⟨Nat.le_refl _, Nat.le_refl _⟩ dX3_work_89 (fun H locs hH => ?_)
  cases hf
  exact w_vret C hH dX3_work_92
set_option maxRecDepth 100000 in
set_option maxHeartbeats 4000000 in
theorem j_X3_work_37 {p : Program} {l : Launch} {e : Env} {s : State} {m : MethodId} {args : Array Value} {below : List Frame} {meth : Method} {c : Code} {E : EE} {n : Nat} {o : Mem} {t : Nat} {M1 : Mem} {u0_37 : Int} {H : Heap} {locs : List Loc} {ls : Array Slot} (C : Cx E p s m args meth c cX3_work 6 RX3 none n "work") (hn : nfull n) (o_t : ob n t 3) (hf : fn_X3_work_J37 t M1 u0_37 = some o) (hH : ST E s n (zf n) M1 H locs) (hl : lv_has ls 6 []) : W p l e { frames := 5, cells := 0, slots := 0, locals := 142 } s m args below meth c H locs 0 0 (MQ below (QC E none n (zf n) o) args s 0 0 (fr E)) (F0 m 37 ls [l6 u0_37, .ref (eb E + t)]) := by
  unfold fn_X3_work_J37 at hf
  obtain ⟨M37, hc9, hf⟩ := cv_of hf
  refine r_callVv (rest := []) C hH hl o_t (by decide) rfl (m_X3_push hn o_t hc9) ML_RX3_68 MF_X3_push MI_X3_push rfl rfl (Nat.le_of_ble_eq_true rfl) ⟨Nat.le_of_ble_eq_true rfl, Nat.le_of_ble_eq_true rfl⟩ ⟨Nat.le_refl _, Nat.le_refl _⟩ dX3_work_37 (fun H locs hH => ?_)
  cases hf
  exact w_vret C hH dX3_work_40
set_option maxRecDepth 100000 in
set_option maxHeartbeats 4000000 in
theorem m_X3_work {E : EE} {l : Launch} {n : Nat} {t : Nat} {a1 : Int} {M : Mem} {o : Mem} (hn : nfull n) (o_t : ob n t 3) (hf : fn_X3_work t a1 M = some o) : CT E l yX3_work cX3_work 6 none 5 142 0 0 [.ref (eb E + t), i3 a1] n (zf n) M none n (zf n) o := by
  refine CT_of PN_RX3 (Nat.le_of_ble_eq_true rfl) ?_
  intro p e s m args below meth c C hH ls hl
  replace C : Cx E p s m args meth c cX3_work 6 RX3 none n "work" := C
  have hl : lv_has ls 6 [(0, .ref (eb E + t)), (1, i3 a1)] := hl
  unfold fn_X3_work at hf
  refine lv_aload_n C.hx C.hb dX3_work_0 rfl (lv_at hl 0 rfl) ?_
  obtain ⟨x1, M1, hc9, hf⟩ := cl_of hf
  refine r_callVi (rest := []) C hH hl o_t (by decide) rfl (m_X3_pop hn o_t hc9) ML_RX3_84 MF_X3_pop MI_X3_pop rfl rfl (Nat.le_of_ble_eq_true rfl) ⟨Nat.le_of_ble_eq_true rfl, Nat.le_of_ble_eq_true rfl⟩ ⟨Nat.le_refl _, Nat.le_refl _⟩ dX3_work_1 (fun H locs hH => ?_)
  obtain ⟨hR8, hf⟩ := ck_of hf
  refine w_i2l C hR8 dX3_work_4 ?_
  refine lv_lstore_n (lv' := [(2, l6 x1), (0, .ref (eb E + t)), (1, i3 a1)]) C.hx C.hb dX3_work_5 rfl hl (by decide) rfl (fun ls hl => ?_)
  refine lv_iload_n C.hx C.hb dX3_work_6 rfl (lv_at hl 2 rfl) ?_
  refine lv_bipush (v := Int32.ofInt 33) C.hx C.hb dX3_work_7 (by decide) ?_
  refine w_ne (tgt := 19) C hf dX3_work_9 (by decide) (fun hf => ?_) (fun hf => ?_)
  · refine lv_iload_n C.hx C.hb dX3_work_19 rfl (lv_at hl 2 rfl) ?_
    refine lv_bipush (v := Int32.ofInt 12) C.hx C.hb dX3_work_20 (by decide) ?_
    refine w_ne (tgt := 41) C hf dX3_work_22 (by decide) (fun hf => ?_) (fun hf => ?_)
    · refine lv_aload_n C.hx C.hb dX3_work_41 rfl (lv_at hl 1 rfl) ?_
      obtain ⟨x42, M42, hc9, hf⟩ := cl_of hf
      refine r_callVi (rest := []) C hH hl o_t (by decide) rfl (m_X3_pop hn o_t hc9) ML_RX3_84 MF_X3_pop MI_X3_pop rfl rfl (Nat.le_of_ble_eq_true rfl) ⟨Nat.le_of_ble_eq_true rfl, Nat.le_of_ble_eq_true rfl⟩ ⟨Nat.le_refl _, Nat.le_refl _⟩ dX3_work_42 (fun H locs hH => ?_)
      obtain ⟨hR8, hf⟩ := ck_of hf
      refine w_i2l C hR8 dX3_work_45 ?_
      refine lv_lstore (lv' := [(4, l6 x42), (2, l6 x1), (0, .ref (eb E + t)), (1, i3 a1)]) C.hx C.hb dX3_work_46 hl (by decide) rfl (fun ls hl => ?_)
      refine lv_iload_n C.hx C.hb dX3_work_48 rfl (lv_at hl 3 rfl) ?_
      refine lv_bipush (v := Int32.ofInt 26) C.hx C.hb dX3_work_49 (by decide) ?_
      refine lv_bipush (v := Int32.ofInt 29) C.hx C.hb dX3_work_51 (by decide) ?_
      obtain ⟨x53, hc9, hf⟩ := cu_of hf
      refine r_callSNi (rest := []) C hH hl (m_X10_isWithin hn hc9) MN_RX3_72 MF_X10_isWithin MS_X10_isWithin rfl rfl (Nat.le_of_ble_eq_true rfl) ⟨Nat.le_of_ble_eq_true rfl, Nat.le_of_ble_eq_true rfl⟩ ⟨Nat.le_refl _, Nat.le_refl _⟩ dX3_work_53 (fun H locs hH => ?_)
      refine w_eq0 (tgt := 73) C hf dX3_work_56 (by decide) (fun hf => ?_) (fun hf => ?_)
      · refine lv_aload_n C.hx C.hb dX3_work_73 rfl (lv_at hl 2 rfl) ?_
        refine lv_iload_n C.hx C.hb dX3_work_74 rfl (lv_at hl 3 rfl) ?_
        refine lv_lload C.hx C.hb dX3_work_75 (lv_at hl 0 rfl) ?_
        refine lv_lload_n C.hx C.hb dX3_work_77 rfl (lv_at hl 1 rfl) ?_
        obtain ⟨x78, hc9, hf⟩ := cu_of hf
        refine r_callSi (rest := [.ref (eb E + t)]) C hH hl (m_X3_isSo hn hc9) ML_RX3_116 MF_X3_isSo MS_X3_isSo rfl rfl (Nat.le_of_ble_eq_true rfl) ⟨Nat.le_of_ble_eq_true rfl, Nat.le_of_ble_eq_true rfl⟩ ⟨Nat.le_refl _, Nat.le_refl _⟩ dX3_work_78 (fun H locs hH => ?_)
        refine w_eq0 (tgt := 88) C hf dX3_work_81 (by decide) (fun hf => ?_) (fun hf => ?_)
        · refine lv_lconst (v := Int64.ofInt 0) C.hx C.hb dX3_work_88 (by decide) ?_
          exact j_X3_work_89 C hn o_t hf hH (lv_sub hl [] rfl)
        · refine lv_lconst (v := Int64.ofInt 1) C.hx C.hb dX3_work_84 (by decide) ?_
          refine lv_goto (tgt := 89) C.hx C.hb dX3_work_85 (by decide) ?_
          exact j_X3_work_89 C hn o_t hf hH (lv_sub hl [] rfl)
      · refine lv_aload_n C.hx C.hb dX3_work_59 rfl (lv_at hl 2 rfl) ?_
        refine lv_iload_n C.hx C.hb dX3_work_60 rfl (lv_at hl 3 rfl) ?_
        refine lv_lload C.hx C.hb dX3_work_61 (lv_at hl 0 rfl) ?_
        refine lv_lload_n C.hx C.hb dX3_work_63 rfl (lv_at hl 1 rfl) ?_
        obtain ⟨x64, hc9, hf⟩ := cu_of hf
        refine r_callSi (rest := [.ref (eb E + t)]) C hH hl (m_X3_reckoned hn hc9) ML_RX3_112 MF_X3_reckoned MS_X3_reckoned rfl rfl (Nat.le_of_ble_eq_true rfl) ⟨Nat.le_of_ble_eq_true rfl, Nat.le_of_ble_eq_true rfl⟩ ⟨Nat.le_refl _, Nat.le_refl _⟩ dX3_work_64 (fun H locs hH => ?_)
        obtain ⟨M67, hc9, hf⟩ := cv_of hf
        refine r_callVv (rest := []) C hH hl o_t (by decide) rfl (m_X3_push hn o_t hc9) ML_RX3_68 MF_X3_push MI_X3_push rfl rfl (Nat.le_of_ble_eq_true rfl) ⟨Nat.le_of_ble_eq_true rfl, Nat.le_of_ble_eq_true rfl⟩ ⟨Nat.le_refl _, Nat.le_refl _⟩ dX3_work_67 (fun H locs hH => ?_)
        refine lv_goto (tgt := 92) C.hx C.hb dX3_work_70 (by decide) ?_
        cases hf
        exact w_vret C hH dX3_work_92
    · refine lv_aload_n C.hx C.hb dX3_work_25 rfl (lv_at hl 1 rfl) ?_
      refine lv_lload_n C.hx C.hb dX3_work_26 rfl (lv_at hl 0 rfl) ?_
      refine lv_lconst (v := Int64.ofInt 0) C.hx C.hb dX3_work_27 (by decide) ?_
      refine w_lne (tgt := 36) C hf dX3_work_28 dX3_work_29 (by decide) (fun hf => ?_) (fun hf => ?_)
      · refine lv_lconst (v := Int64.ofInt 0) C.hx C.hb dX3_work_36 (by decide) ?_
        exact j_X3_work_37 C hn o_t hf hH (lv_sub hl [] rfl)
      · refine lv_lconst (v := Int64.ofInt 1) C.hx C.hb dX3_work_32 (by decide) ?_
        refine lv_goto (tgt := 37) C.hx C.hb dX3_work_33 (by decide) ?_
        exact j_X3_work_37 C hn o_t hf hH (lv_sub hl [] rfl)
  · refine lv_aload_n C.hx C.hb dX3_work_12 rfl (lv_at hl 1 rfl) ?_
    refine lv_lload_n C.hx C.hb dX3_work_13 rfl (lv_at hl 0 rfl) ?_
    refine w_lneg C dX3_work_14 ?_
    obtain ⟨M15, hc9, hf⟩ := cv_of hf
    refine r_callVv (rest := []) C hH hl o_t (by decide) rfl (m_X3_push hn o_t hc9) ML_RX3_68 MF_X3_push MI_X3_push rfl rfl (Nat.le_of_ble_eq_true rfl) ⟨Nat.le_of_ble_eq_true rfl, Nat.le_of_ble_eq_true rfl⟩ ⟨Nat.le_refl _, Nat.le_refl _⟩ dX3_work_15 (fun H locs hH => ?_)
    cases hf
    exact w_vret C hH dX3_work_18
-- HeavierByHand$Scale.worth
def fn_X3_worth_J96 (t : Nat) (M96 : Mem) : Option (Int × Mem) :=
  cl (fn_X3_pop t M96) fun x97 M97 => some (x97, M97)
def fn_X3_worth_J90 (v7_12 : Int) (rec12 : Int → Mem → Option (Int × Mem)) (M90 : Mem) : Option (Int × Mem) :=
  nm (v7_12 + 1) fun v7_90 => rec12 v7_90 M90
def fn_X3_worth_L12 (t : Nat) (r1 : Nat) (a3 : Int) (r4 : Nat) (a5 : Int) (a6 : Int) (rec12 : Int → Mem → Option (Int × Mem)) (v7_12 : Int) (M12 : Mem) : Option (Int × Mem) :=
  cLt v7_12 a3 (cLt v7_12 300 (rd M12 (r1 + 1) 300 v7_12 fun x32 => cLt x32 0 (cu (fn_X10_isWithin (-x32) 13 19 M12) fun x57 => cEq x57 0 (cv (fn_X3_work t (-x32) M12) fun M87 => fn_X3_worth_J90 v7_12 rec12 M87) (cu (fn_X3_named (-x32) r4 a5 a6 M12) fun x73 => ck (R3 x73) <| cv (fn_X3_push t x73 M12) fun M77 => fn_X3_worth_J90 v7_12 rec12 M77)) (ck (R3 x32) <| cv (fn_X3_push t x32 M12) fun M44 => fn_X3_worth_J90 v7_12 rec12 M44)) (fn_X3_worth_J96 t M12)) (fn_X3_worth_J96 t M12)
def fn_X3_worth (t : Nat) (r1 : Nat) (a2 : Int) (a3 : Int) (r4 : Nat) (a5 : Int) (a6 : Int) (M : Mem) : Option (Int × Mem) :=
  st M t 1 0 fun M2 => ck (R3 a2 ∧ R3 0) <| nm ((max a2 0)) fun v7_10 => lq2 (fn_X3_worth_L12 t r1 a3 r4 a5 a6) FU v7_10 M2
set_option maxRecDepth 100000 in
set_option maxHeartbeats 4000000 in
theorem j_X3_worth_96 {p : Program} {l : Launch} {e : Env} {s : State} {m : MethodId} {args : Array Value} {below : List Frame} {meth : Method} {c : Code} {E : EE} {n : Nat} {o : (Int × Mem)} {t : Nat} {M96 : Mem} {H : Heap} {locs : List Loc} {ls : Array Slot} (C : Cx E p s m args meth c cX3_worth 9 RX3 (some .int) n "worth") (hn : nfull n) (o_t : ob n t 3) (hf : fn_X3_worth_J96 t M96 = some o) (hH : ST E s n (zf n) M96 H locs) (hl : lv_has ls 9 [(0, .ref (eb E + t))]) : W p l e { frames := 6, cells := 0, slots := 0, locals := 167 } s m args below meth c H locs 0 0 (MQ below (QC E (some (i3 o.1)) n (zf n) o.2) args s 0 0 (fr E)) (F0 m 96 ls []) := by
  unfold fn_X3_worth_J96 at hf
  refine lv_aload_n C.hx C.hb dX3_worth_96 rfl (lv_at hl 0 rfl) ?_
  obtain ⟨x97, M97, hc9, hf⟩ := cl_of hf
  refine r_callVi (rest := []) C hH hl o_t (by decide) rfl (m_X3_pop hn o_t hc9) ML_RX3_84 MF_X3_pop MI_X3_pop rfl rfl (Nat.le_of_ble_eq_true rfl) ⟨Nat.le_of_ble_eq_true rfl, Nat.le_of_ble_eq_true rfl⟩ ⟨Nat.le_refl _, Nat.le_refl _⟩ dX3_worth_97 (fun H locs hH => ?_)
  cases hf
  exact w_iret C hH dX3_worth_100
set_option maxRecDepth 100000 in
set_option maxHeartbeats 4000000 in
theorem j_X3_worth_90 {p : Program} {l : Launch} {e : Env} {s : State} {m : MethodId} {args : Array Value} {below : List Frame} {meth : Method} {c : Code} {E : EE} {n : Nat} {o : (Int × Mem)} {t : Nat} {r1 : Nat} {a3 : Int} {r4 : Nat} {a5 : Int} {a6 : Int} {v7_12 : Int} {rec12 : Int → Mem → Option (Int × Mem)} {M90 : Mem} {H : Heap} {locs : List Loc} {ls : Array Slot} (C : Cx E p s m args meth c cX3_worth 9 RX3 (some .int) n "worth") (hn : nfull n) (o_t : ob n t 3) (o_r1 : ob n r1 7) (o_r4 : ob n r4 4) (h_rec12 : ∀ {v7_12 : Int} {M12 : Mem} {H : Heap} {locs : List Loc} {ls : Array Slot}, rec12 v7_12 M12 = some o → ST E s n (zf n) M12 H locs → lv_has ls 9 [(0, .ref (eb E + t)), (1, .ref (eb E + r1)), (3, i3 a3), (4, .ref (eb E + r4)), (5, i3 a5), (6, i3 a6), (7, i3 v7_12)] → W p l e { frames := 6, cells := 0, slots := 0, locals := 167 } s m args below meth c H locs 0 0 (MQ below (QC E (some (i3 o.1)) n (zf n) o.2) args s 0 0 (fr E)) (F0 m 12 ls [])) (hf : fn_X3_worth_J90 v7_12 rec12 M90 = some o) (hH : ST E s n (zf n) M90 H locs) (hl : lv_has ls 9 [(0, .ref (eb E + t)), (1, .ref (eb E + r1)), (3, i3 a3), (4, .ref (eb E + r4)), (5, i3 a5), (6, i3 a6), (7, i3 v7_12)]) : W p l e { frames := 6, cells := 0, slots := 0, locals := 167 } s m args below meth c H locs 0 0 (MQ below (QC E (some (i3 o.1)) n (zf n) o.2) args s 0 0 (fr E)) (F0 m 90 ls []) := by
  unfold fn_X3_worth_J90 at hf
  refine r_iinc (k := 6) (lv' := fun v => [(7, i3 v), (0, .ref (eb E + t)), (1, .ref (eb E + r1)), (3, i3 a3), (4, .ref (eb E + r4)), (5, i3 a5), (6, i3 a6)]) C hf dX3_worth_90 hl rfl (by decide) (fun _ => rfl) (fun v7_90 ls hf hl => ?_)
  refine lv_goto (tgt := 12) C.hx C.hb dX3_worth_93 (by decide) ?_
  exact h_rec12 hf hH (lv_sub hl [1, 2, 3, 4, 5, 6, 0] rfl)
set_option maxRecDepth 100000 in
set_option maxHeartbeats 4000000 in
theorem l_X3_worth_12 {p : Program} {l : Launch} {e : Env} {s : State} {m : MethodId} {args : Array Value} {below : List Frame} {meth : Method} {c : Code} {E : EE} {n : Nat} {o : (Int × Mem)} {t : Nat} {r1 : Nat} {a3 : Int} {r4 : Nat} {a5 : Int} {a6 : Int} (C : Cx E p s m args meth c cX3_worth 9 RX3 (some .int) n "worth") (hn : nfull n) (o_t : ob n t 3) (o_r1 : ob n r1 7) (o_r4 : ob n r4 4) : ∀ (k : Nat) (v7_12 : Int) (M12 : Mem) (H : Heap) (locs : List Loc) (ls : Array Slot), lq2 (fn_X3_worth_L12 t r1 a3 r4 a5 a6) k v7_12 M12 = some o → ST E s n (zf n) M12 H locs → lv_has ls 9 [(0, .ref (eb E + t)), (1, .ref (eb E + r1)), (3, i3 a3), (4, .ref (eb E + r4)), (5, i3 a5), (6, i3 a6), (7, i3 v7_12)] → W p l e { frames := 6, cells := 0, slots := 0, locals := 167 } s m args below meth c H locs 0 0 (MQ below (QC E (some (i3 o.1)) n (zf n) o.2) args s 0 0 (fr E)) (F0 m 12 ls []) := by
  intro k
  induction k with
  | zero => intro v7_12 M12 H locs ls hf; cases hf
  | succ k ih =>
    intro v7_12 M12 H locs ls hf hH hl
    have h_rec12 : ∀ {v7_12 : Int} {M12 : Mem} {H : Heap} {locs : List Loc} {ls : Array Slot}, lq2 (fn_X3_worth_L12 t r1 a3 r4 a5 a6) k v7_12 M12 = some o → ST E s n (zf n) M12 H locs → lv_has ls 9 [(0, .ref (eb E + t)), (1, .ref (eb E + r1)), (3, i3 a3), (4, .ref (eb E + r4)), (5, i3 a5), (6, i3 a6), (7, i3 v7_12)] → W p l e { frames := 6, cells := 0, slots := 0, locals := 167 } s m args below meth c H locs 0 0 (MQ below (QC E (some (i3 o.1)) n (zf n) o.2) args s 0 0 (fr E)) (F0 m 12 ls []) := fun {v7_12} {M12} {H} {locs} {ls} a b c => ih v7_12 M12 H locs ls a b c
    replace hf : fn_X3_worth_L12 t r1 a3 r4 a5 a6 (lq2 (fn_X3_worth_L12 t r1 a3 r4 a5 a6) k) v7_12 M12 = some o := hf
    generalize lq2 (fn_X3_worth_L12 t r1 a3 r4 a5 a6) k = rec12 at hf h_rec12
    unfold fn_X3_worth_L12 at hf
    refine lv_iload C.hx C.hb dX3_worth_12 (lv_at hl 6 rfl) ?_
    refine lv_iload_n C.hx C.hb dX3_worth_14 rfl (lv_at hl 2 rfl) ?_
    refine w_ge (tgt := 96) C hf dX3_worth_15 (by decide) (fun hf => ?_) (fun hf => ?_)
    · exact j_X3_worth_96 C hn o_t hf hH (lv_sub hl [0] rfl)
    · refine lv_iload C.hx C.hb dX3_worth_18 (lv_at hl 6 rfl) ?_
      refine lv_sipush (v := Int32.ofInt 300) C.hx C.hb dX3_worth_20 (by decide) ?_
      refine w_ge (tgt := 96) C hf dX3_worth_23 (by decide) (fun hf => ?_) (fun hf => ?_)
      · exact j_X3_worth_96 C hn o_t hf hH (lv_sub hl [0] rfl)
      · refine lv_aload_n C.hx C.hb dX3_worth_26 rfl (lv_at hl 1 rfl) ?_
        refine g_ref (off := 1) C hH o_r1 (by decide) rfl rfl FL_RX3_65 dX3_worth_27 ?_
        refine lv_iload C.hx C.hb dX3_worth_30 (lv_at hl 6 rfl) ?_
        refine r_iald C hH (ly (i := 0) (off := 1) (k := 12) hn o_r1 rfl rfl rfl) (lyn (i := 0) (off := 1) (N := 299) hn o_r1 rfl rfl rfl) hf dX3_worth_32 (fun x32 hf => ?_)
        refine lv_istore (lv' := [(8, i3 x32), (0, .ref (eb E + t)), (1, .ref (eb E + r1)), (3, i3 a3), (4, .ref (eb E + r4)), (5, i3 a5), (6, i3 a6), (7, i3 v7_12)]) C.hx C.hb dX3_worth_33 hl (by decide) rfl (fun ls hl => ?_)
        refine lv_iload C.hx C.hb dX3_worth_35 (lv_at hl 0 rfl) ?_
        refine w_lt0 (tgt := 50) C hf dX3_worth_37 (by decide) (fun hf => ?_) (fun hf => ?_)
        · refine lv_iload C.hx C.hb dX3_worth_50 (lv_at hl 0 rfl) ?_
          refine w_ineg C dX3_worth_52 ?_
          refine lv_bipush (v := Int32.ofInt 13) C.hx C.hb dX3_worth_53 (by decide) ?_
          refine lv_bipush (v := Int32.ofInt 19) C.hx C.hb dX3_worth_55 (by decide) ?_
          obtain ⟨x57, hc9, hf⟩ := cu_of hf
          refine r_callSNi (rest := []) C hH hl (m_X10_isWithin hn hc9) MN_RX3_72 MF_X10_isWithin MS_X10_isWithin rfl rfl (Nat.le_of_ble_eq_true rfl) ⟨Nat.le_of_ble_eq_true rfl, Nat.le_of_ble_eq_true rfl⟩ ⟨Nat.le_refl _, Nat.le_refl _⟩ dX3_worth_57 (fun H locs hH => ?_)
          refine w_eq0 (tgt := 83) C hf dX3_worth_60 (by decide) (fun hf => ?_) (fun hf => ?_)
          · refine lv_aload_n C.hx C.hb dX3_worth_83 rfl (lv_at hl 1 rfl) ?_
            refine lv_iload C.hx C.hb dX3_worth_84 (lv_at hl 0 rfl) ?_
            refine w_ineg C dX3_worth_86 ?_
            obtain ⟨M87, hc9, hf⟩ := cv_of hf
            refine r_callVv (rest := []) C hH hl o_t (by decide) rfl (m_X3_work hn o_t hc9) ML_RX3_80 MF_X3_work MI_X3_work rfl rfl (Nat.le_of_ble_eq_true rfl) ⟨Nat.le_of_ble_eq_true rfl, Nat.le_of_ble_eq_true rfl⟩ ⟨Nat.le_refl _, Nat.le_refl _⟩ dX3_worth_87 (fun H locs hH => ?_)
            exact j_X3_worth_90 C hn o_t o_r1 o_r4 h_rec12 hf hH (lv_sub hl [1, 2, 3, 4, 5, 6, 7] rfl)
          · refine lv_aload_n C.hx C.hb dX3_worth_63 rfl (lv_at hl 1 rfl) ?_
            refine lv_iload C.hx C.hb dX3_worth_64 (lv_at hl 0 rfl) ?_
            refine w_ineg C dX3_worth_66 ?_
            refine lv_aload C.hx C.hb dX3_worth_67 (lv_at hl 4 rfl) ?_
            refine lv_iload C.hx C.hb dX3_worth_69 (lv_at hl 5 rfl) ?_
            refine lv_iload C.hx C.hb dX3_worth_71 (lv_at hl 6 rfl) ?_
            obtain ⟨x73, hc9, hf⟩ := cu_of hf
            refine r_callSi (rest := [.ref (eb E + t)]) C hH hl (m_X3_named hn o_r4 hc9) ML_RX3_76 MF_X3_named MS_X3_named rfl rfl (Nat.le_of_ble_eq_true rfl) ⟨Nat.le_of_ble_eq_true rfl, Nat.le_of_ble_eq_true rfl⟩ ⟨Nat.le_refl _, Nat.le_refl _⟩ dX3_worth_73 (fun H locs hH => ?_)
            obtain ⟨hR8, hf⟩ := ck_of hf
            refine w_i2l C hR8 dX3_worth_76 ?_
            obtain ⟨M77, hc9, hf⟩ := cv_of hf
            refine r_callVv (rest := []) C hH hl o_t (by decide) rfl (m_X3_push hn o_t hc9) ML_RX3_68 MF_X3_push MI_X3_push rfl rfl (Nat.le_of_ble_eq_true rfl) ⟨Nat.le_of_ble_eq_true rfl, Nat.le_of_ble_eq_true rfl⟩ ⟨Nat.le_refl _, Nat.le_refl _⟩ dX3_worth_77 (fun H locs hH => ?_)
            refine lv_goto (tgt := 90) C.hx C.hb dX3_worth_80 (by decide) ?_
            exact j_X3_worth_90 C hn o_t o_r1 o_r4 h_rec12 hf hH (lv_sub hl [1, 2, 3, 4, 5, 6, 7] rfl)
        · refine lv_aload_n C.hx C.hb dX3_worth_40 rfl (lv_at hl 1 rfl) ?_
          refine lv_iload C.hx C.hb dX3_worth_41 (lv_at hl 0 rfl) ?_
          obtain ⟨hR8, hf⟩ := ck_of hf
          refine w_i2l C hR8 dX3_worth_43 ?_
          obtain ⟨M44, hc9, hf⟩ := cv_of hf
          refine r_callVv (rest := []) C hH hl o_t (by decide) rfl (m_X3_push hn o_t hc9) ML_RX3_68 MF_X3_push MI_X3_push rfl rfl (Nat.le_of_ble_eq_true rfl) ⟨Nat.le_of_ble_eq_true rfl, Nat.le_of_ble_eq_true rfl⟩ ⟨Nat.le_refl _, Nat.le_refl _⟩ dX3_worth_44 (fun H locs hH => ?_)
          refine lv_goto (tgt := 90) C.hx C.hb dX3_worth_47 (by decide) ?_
          exact j_X3_worth_90 C hn o_t o_r1 o_r4 h_rec12 hf hH (lv_sub hl [1, 2, 3, 4, 5, 6, 7] rfl)
set_option maxRecDepth 100000 in
set_option maxHeartbeats 4000000 in
theorem m_X3_worth {E : EE} {l : Launch} {n : Nat} {t : Nat} {r1 : Nat} {a2 : Int} {a3 : Int} {r4 : Nat} {a5 : Int} {a6 : Int} {M : Mem} {o : (Int × Mem)} (hn : nfull n) (o_t : ob n t 3) (o_r1 : ob n r1 7) (o_r4 : ob n r4 4) (hf : fn_X3_worth t r1 a2 a3 r4 a5 a6 M = some o) : CT E l yX3_worth cX3_worth 9 (some .int) 6 167 0 0 [.ref (eb E + t), .ref (eb E + r1), i3 a2, i3 a3, .ref (eb E + r4), i3 a5, i3 a6] n (zf n) M (some (i3 o.1)) n (zf n) o.2 := by
  refine CT_of PN_RX3 (Nat.le_of_ble_eq_true rfl) ?_
  intro p e s m args below meth c C hH ls hl
  replace C : Cx E p s m args meth c cX3_worth 9 RX3 (some .int) n "worth" := C
  have hl : lv_has ls 9 [(0, .ref (eb E + t)), (1, .ref (eb E + r1)), (2, i3 a2), (3, i3 a3), (4, .ref (eb E + r4)), (5, i3 a5), (6, i3 a6)] := hl
  unfold fn_X3_worth at hf
  refine lv_aload_n C.hx C.hb dX3_worth_0 rfl (lv_at hl 0 rfl) ?_
  refine lv_iconst (v := Int32.ofInt 0) C.hx C.hb dX3_worth_1 rfl ?_
  refine r_put C hH o_t (by decide) rfl FL_RX3_62 FW_3_1 hf dX3_worth_2 (fun M2 H locs hf hH => ?_)
  refine lv_iload_n C.hx C.hb dX3_worth_5 rfl (lv_at hl 2 rfl) ?_
  refine lv_iconst (v := Int32.ofInt 0) C.hx C.hb dX3_worth_6 rfl ?_
  obtain ⟨hR8, hf⟩ := ck_of hf
  refine w_max C hl.1 hR8 ML_RX3_59 LB_max LB_mathi LB_maxc (Nat.le_of_ble_eq_true rfl) (Nat.le_of_ble_eq_true rfl) (Nat.le_refl _) (Nat.le_refl _) dX3_worth_7 ?_
  refine r_nm hf (fun v7_10 hf => ?_)
  refine lv_istore (lv' := [(7, i3 v7_10), (0, .ref (eb E + t)), (1, .ref (eb E + r1)), (2, i3 a2), (3, i3 a3), (4, .ref (eb E + r4)), (5, i3 a5), (6, i3 a6)]) C.hx C.hb dX3_worth_10 hl (by decide) rfl (fun ls hl => ?_)
  exact l_X3_worth_12 C hn o_t o_r1 o_r4 FU _ _ _ _ _ hf hH (lv_sub hl [1, 2, 4, 5, 6, 7, 0] rfl)
-- HeavierByHand$Scale.given
def fn_X3_given_N (t : Nat) (r1 : Nat) (a3 : Int) (a4 : Int) (M : Mem) : Option (Int × Mem) :=
  cu (fn_X4_isHand r1 a3 M) fun x2 => cEq x2 0 (some (0, M)) (cu (fn_X4_isCoin r1 a4 M) fun x11 => cEq x11 0 (some (0, M)) (rd M (r1 + 1) 10 a3 fun x28 => some (x28, M)))
def fn_X3_given_S_J59 (t : Nat) (r1 : Nat) (r2 : Nat) (a3 : Int) (a4 : Int) (M59 : Mem) : Option (Int × Mem) :=
  cu (fn_X7_hasGrain r2 M59) fun x60 => cEq x60 0 (rd M59 (r1 + 1) 10 a3 fun x71 => some (x71, M59)) (cl (fn_X3_worth t r2 (M59 r2 4) (M59 r2 5) r1 a3 a4 M59) fun x87 M87 => ck (R3 x87 ∧ R3 99) <| ck (R3 0 ∧ R3 (min x87 99)) <| some ((max 0 (min x87 99)), M87))
def fn_X3_given_S (t : Nat) (r1 : Nat) (r2 : Nat) (a3 : Int) (a4 : Int) (M : Mem) : Option (Int × Mem) :=
  cu (fn_X4_isHand r1 a3 M) fun x2 => cEq x2 0 (some (0, M)) (cu (fn_X4_isCoin r1 a4 M) fun x11 => cEq x11 0 (some (0, M)) (cu (fn_X7_hasGlove r2 M) fun x31 => cEq x31 0 (fn_X3_given_S_J59 t r1 r2 a3 a4 M) (cl (fn_X3_worth t r2 (M r2 2) (M r2 3) r1 a3 a4 M) fun x51 M51 => cEq x51 0 (fn_X3_given_S_J59 t r1 r2 a3 a4 M51) (some (0, M51)))))
def fn_X3_given (t r1 : Nat) (q2 : Option Nat) (a3 a4 : Int) (M : Mem) : Option (Int × Mem) := match q2 with
  | none => fn_X3_given_N t r1 a3 a4 M
  | some q => fn_X3_given_S t r1 q a3 a4 M
set_option maxRecDepth 100000 in
set_option maxHeartbeats 4000000 in
theorem m_X3_given_N {E : EE} {l : Launch} {n : Nat} {t : Nat} {r1 : Nat} {a3 : Int} {a4 : Int} {M : Mem} {o : (Int × Mem)} (hn : nfull n) (o_t : ob n t 3) (o_r1 : ob n r1 4) (hf : fn_X3_given_N t r1 a3 a4 M = some o) : CT E l yX3_given cX3_given 6 (some .int) 7 195 0 0 [.ref (eb E + t), .ref (eb E + r1), .null, i3 a3, i3 a4] n (zf n) M (some (i3 o.1)) n (zf n) o.2 := by
  refine CT_of PN_RX3 (Nat.le_of_ble_eq_true rfl) ?_
  intro p e s m args below meth c C hH ls hl
  replace C : Cx E p s m args meth c cX3_given 6 RX3 (some .int) n "given" := C
  have hl : lv_has ls 6 [(0, .ref (eb E + t)), (1, .ref (eb E + r1)), (2, .null), (3, i3 a3), (4, i3 a4)] := hl
  unfold fn_X3_given_N at hf
  refine lv_aload_n C.hx C.hb dX3_given_0 rfl (lv_at hl 1 rfl) ?_
  refine lv_iload_n C.hx C.hb dX3_given_1 rfl (lv_at hl 3 rfl) ?_
  obtain ⟨x2, hc9, hf⟩ := cu_of hf
  refine r_callVi (rest := []) C hH hl o_r1 (by decide) rfl (m_X4_isHand hn o_r1 hc9) ML_RX3_15 MF_X4_isHand MI_X4_isHand rfl rfl (Nat.le_of_ble_eq_true rfl) ⟨Nat.le_of_ble_eq_true rfl, Nat.le_of_ble_eq_true rfl⟩ ⟨Nat.le_refl _, Nat.le_refl _⟩ dX3_given_2 (fun H locs hH => ?_)
  refine w_eq0 (tgt := 17) C hf dX3_given_5 (by decide) (fun hf => ?_) (fun hf => ?_)
  · refine lv_iconst (v := Int32.ofInt 0) C.hx C.hb dX3_given_17 rfl ?_
    cases hf
    exact w_iret C hH dX3_given_18
  · refine lv_aload_n C.hx C.hb dX3_given_8 rfl (lv_at hl 1 rfl) ?_
    refine lv_iload C.hx C.hb dX3_given_9 (lv_at hl 4 rfl) ?_
    obtain ⟨x11, hc9, hf⟩ := cu_of hf
    refine r_callVi (rest := []) C hH hl o_r1 (by decide) rfl (m_X4_isCoin hn o_r1 hc9) ML_RX3_21 MF_X4_isCoin MI_X4_isCoin rfl rfl (Nat.le_of_ble_eq_true rfl) ⟨Nat.le_of_ble_eq_true rfl, Nat.le_of_ble_eq_true rfl⟩ ⟨Nat.le_refl _, Nat.le_refl _⟩ dX3_given_11 (fun H locs hH => ?_)
    refine w_ne0 (tgt := 19) C hf dX3_given_14 (by decide) (fun hf => ?_) (fun hf => ?_)
    · refine lv_aload_nN C.hx C.hb dX3_given_19 rfl (lv_at hl 2 rfl) ?_
      refine lv_ifnonnullN C.hx C.hb dX3_given_20 ?_
      refine lv_aload_n C.hx C.hb dX3_given_23 rfl (lv_at hl 1 rfl) ?_
      refine g_ref (off := 1) C hH o_r1 (by decide) rfl rfl FL_RX3_24 dX3_given_24 ?_
      refine lv_iload_n C.hx C.hb dX3_given_27 rfl (lv_at hl 3 rfl) ?_
      refine r_iald C hH (ly (i := 0) (off := 1) (k := 12) hn o_r1 rfl rfl rfl) (lyn (i := 0) (off := 1) (N := 9) hn o_r1 rfl rfl rfl) hf dX3_given_28 (fun x28 hf => ?_)
      cases hf
      exact w_iret C hH dX3_given_29
    · refine lv_iconst (v := Int32.ofInt 0) C.hx C.hb dX3_given_17 rfl ?_
      cases hf
      exact w_iret C hH dX3_given_18
set_option maxRecDepth 100000 in
set_option maxHeartbeats 4000000 in
theorem j_X3_given_S_59 {p : Program} {l : Launch} {e : Env} {s : State} {m : MethodId} {args : Array Value} {below : List Frame} {meth : Method} {c : Code} {E : EE} {n : Nat} {o : (Int × Mem)} {t : Nat} {r1 : Nat} {r2 : Nat} {a3 : Int} {a4 : Int} {M59 : Mem} {H : Heap} {locs : List Loc} {ls : Array Slot} (C : Cx E p s m args meth c cX3_given 6 RX3 (some .int) n "given") (hn : nfull n) (o_t : ob n t 3) (o_r1 : ob n r1 4) (o_r2 : ob n r2 7) (hf : fn_X3_given_S_J59 t r1 r2 a3 a4 M59 = some o) (hH : ST E s n (zf n) M59 H locs) (hl : lv_has ls 6 [(0, .ref (eb E + t)), (1, .ref (eb E + r1)), (2, .ref (eb E + r2)), (3, i3 a3), (4, i3 a4)]) : W p l e { frames := 7, cells := 0, slots := 0, locals := 195 } s m args below meth c H locs 0 0 (MQ below (QC E (some (i3 o.1)) n (zf n) o.2) args s 0 0 (fr E)) (F0 m 59 ls []) := by
  unfold fn_X3_given_S_J59 at hf
  refine lv_aload_n C.hx C.hb dX3_given_59 rfl (lv_at hl 2 rfl) ?_
  obtain ⟨x60, hc9, hf⟩ := cu_of hf
  refine r_callVi (rest := []) C hH hl o_r2 (by decide) rfl (m_X7_hasGrain hn o_r2 hc9) ML_RX3_44 MF_X7_hasGrain MI_X7_hasGrain rfl rfl (Nat.le_of_ble_eq_true rfl) ⟨Nat.le_of_ble_eq_true rfl, Nat.le_of_ble_eq_true rfl⟩ ⟨Nat.le_refl _, Nat.le_refl _⟩ dX3_given_60 (fun H locs hH => ?_)
  refine w_ne0 (tgt := 73) C hf dX3_given_63 (by decide) (fun hf => ?_) (fun hf => ?_)
  · refine lv_aload_n C.hx C.hb dX3_given_73 rfl (lv_at hl 0 rfl) ?_
    refine lv_aload_n C.hx C.hb dX3_given_74 rfl (lv_at hl 2 rfl) ?_
    refine lv_aload_n C.hx C.hb dX3_given_75 rfl (lv_at hl 2 rfl) ?_
    refine g_int C hH o_r2 (by decide) rfl FL_RX3_47 dX3_given_76 ?_
    refine lv_aload_n C.hx C.hb dX3_given_79 rfl (lv_at hl 2 rfl) ?_
    refine g_int C hH o_r2 (by decide) rfl FL_RX3_50 dX3_given_80 ?_
    refine lv_aload_n C.hx C.hb dX3_given_83 rfl (lv_at hl 1 rfl) ?_
    refine lv_iload_n C.hx C.hb dX3_given_84 rfl (lv_at hl 3 rfl) ?_
    refine lv_iload C.hx C.hb dX3_given_85 (lv_at hl 4 rfl) ?_
    obtain ⟨x87, M87, hc9, hf⟩ := cl_of hf
    refine r_callVi (rest := []) C hH hl o_t (by decide) rfl (m_X3_worth hn o_t o_r2 o_r1 hc9) ML_RX3_40 MF_X3_worth MI_X3_worth rfl rfl (Nat.le_of_ble_eq_true rfl) ⟨Nat.le_of_ble_eq_true rfl, Nat.le_of_ble_eq_true rfl⟩ ⟨Nat.le_refl _, Nat.le_refl _⟩ dX3_given_87 (fun H locs hH => ?_)
    refine lv_istore (lv' := [(5, i3 x87), (0, .ref (eb E + t)), (1, .ref (eb E + r1)), (2, .ref (eb E + r2)), (3, i3 a3), (4, i3 a4)]) C.hx C.hb dX3_given_90 hl (by decide) rfl (fun ls hl => ?_)
    refine lv_iconst (v := Int32.ofInt 0) C.hx C.hb dX3_given_92 rfl ?_
    refine lv_iload C.hx C.hb dX3_given_93 (lv_at hl 0 rfl) ?_
    refine lv_bipush (v := Int32.ofInt 99) C.hx C.hb dX3_given_95 (by decide) ?_
    obtain ⟨hR8, hf⟩ := ck_of hf
    refine w_min C hl.1 hR8 ML_RX3_53 LB_min LB_mathi LB_minc (Nat.le_of_ble_eq_true rfl) (Nat.le_of_ble_eq_true rfl) (Nat.le_refl _) (Nat.le_refl _) dX3_given_97 ?_
    obtain ⟨hR8, hf⟩ := ck_of hf
    refine w_max C hl.1 hR8 ML_RX3_59 LB_max LB_mathi LB_maxc (Nat.le_of_ble_eq_true rfl) (Nat.le_of_ble_eq_true rfl) (Nat.le_refl _) (Nat.le_refl _) dX3_given_100 ?_
    cases hf
    exact w_iret C hH dX3_given_103
  · refine lv_aload_n C.hx C.hb dX3_given_66 rfl (lv_at hl 1 rfl) ?_
    refine g_ref (off := 1) C hH o_r1 (by decide) rfl rfl FL_RX3_24 dX3_given_67 ?_
    refine lv_iload_n C.hx C.hb dX3_given_70 rfl (lv_at hl 3 rfl) ?_
    refine r_iald C hH (ly (i := 0) (off := 1) (k := 12) hn o_r1 rfl rfl rfl) (lyn (i := 0) (off := 1) (N := 9) hn o_r1 rfl rfl rfl) hf dX3_given_71 (fun x71 hf => ?_)
    cases hf
    exact w_iret C hH dX3_given_72
set_option maxRecDepth 100000 in
set_option maxHeartbeats 4000000 in
theorem m_X3_given_S {E : EE} {l : Launch} {n : Nat} {t : Nat} {r1 : Nat} {r2 : Nat} {a3 : Int} {a4 : Int} {M : Mem} {o : (Int × Mem)} (hn : nfull n) (o_t : ob n t 3) (o_r1 : ob n r1 4) (o_r2 : ob n r2 7) (hf : fn_X3_given_S t r1 r2 a3 a4 M = some o) : CT E l yX3_given cX3_given 6 (some .int) 7 195 0 0 [.ref (eb E + t), .ref (eb E + r1), .ref (eb E + r2), i3 a3, i3 a4] n (zf n) M (some (i3 o.1)) n (zf n) o.2 := by
  refine CT_of PN_RX3 (Nat.le_of_ble_eq_true rfl) ?_
  intro p e s m args below meth c C hH ls hl
  replace C : Cx E p s m args meth c cX3_given 6 RX3 (some .int) n "given" := C
  have hl : lv_has ls 6 [(0, .ref (eb E + t)), (1, .ref (eb E + r1)), (2, .ref (eb E + r2)), (3, i3 a3), (4, i3 a4)] := hl
  unfold fn_X3_given_S at hf
  refine lv_aload_n C.hx C.hb dX3_given_0 rfl (lv_at hl 1 rfl) ?_
  refine lv_iload_n C.hx C.hb dX3_given_1 rfl (lv_at hl 3 rfl) ?_
  obtain ⟨x2, hc9, hf⟩ := cu_of hf
  refine r_callVi (rest := []) C hH hl o_r1 (by decide) rfl (m_X4_isHand hn o_r1 hc9) ML_RX3_15 MF_X4_isHand MI_X4_isHand rfl rfl (Nat.le_of_ble_eq_true rfl) ⟨Nat.le_of_ble_eq_true rfl, Nat.le_of_ble_eq_true rfl⟩ ⟨Nat.le_refl _, Nat.le_refl _⟩ dX3_given_2 (fun H locs hH => ?_)
  refine w_eq0 (tgt := 17) C hf dX3_given_5 (by decide) (fun hf => ?_) (fun hf => ?_)
  · refine lv_iconst (v := Int32.ofInt 0) C.hx C.hb dX3_given_17 rfl ?_
    cases hf
    exact w_iret C hH dX3_given_18
  · refine lv_aload_n C.hx C.hb dX3_given_8 rfl (lv_at hl 1 rfl) ?_
    refine lv_iload C.hx C.hb dX3_given_9 (lv_at hl 4 rfl) ?_
    obtain ⟨x11, hc9, hf⟩ := cu_of hf
    refine r_callVi (rest := []) C hH hl o_r1 (by decide) rfl (m_X4_isCoin hn o_r1 hc9) ML_RX3_21 MF_X4_isCoin MI_X4_isCoin rfl rfl (Nat.le_of_ble_eq_true rfl) ⟨Nat.le_of_ble_eq_true rfl, Nat.le_of_ble_eq_true rfl⟩ ⟨Nat.le_refl _, Nat.le_refl _⟩ dX3_given_11 (fun H locs hH => ?_)
    refine w_ne0 (tgt := 19) C hf dX3_given_14 (by decide) (fun hf => ?_) (fun hf => ?_)
    · refine lv_aload_n C.hx C.hb dX3_given_19 rfl (lv_at hl 2 rfl) ?_
      refine lv_ifnonnull (tgt := 30) C.hx C.hb dX3_given_20 (by decide) ?_
      refine lv_aload_n C.hx C.hb dX3_given_30 rfl (lv_at hl 2 rfl) ?_
      obtain ⟨x31, hc9, hf⟩ := cu_of hf
      refine r_callVi (rest := []) C hH hl o_r2 (by decide) rfl (m_X7_hasGlove hn o_r2 hc9) ML_RX3_27 MF_X7_hasGlove MI_X7_hasGlove rfl rfl (Nat.le_of_ble_eq_true rfl) ⟨Nat.le_of_ble_eq_true rfl, Nat.le_of_ble_eq_true rfl⟩ ⟨Nat.le_refl _, Nat.le_refl _⟩ dX3_given_31 (fun H locs hH => ?_)
      refine w_eq0 (tgt := 59) C hf dX3_given_34 (by decide) (fun hf => ?_) (fun hf => ?_)
      · exact j_X3_given_S_59 C hn o_t o_r1 o_r2 hf hH (lv_sub hl [0, 1, 2, 3, 4] rfl)
      · refine lv_aload_n C.hx C.hb dX3_given_37 rfl (lv_at hl 0 rfl) ?_
        refine lv_aload_n C.hx C.hb dX3_given_38 rfl (lv_at hl 2 rfl) ?_
        refine lv_aload_n C.hx C.hb dX3_given_39 rfl (lv_at hl 2 rfl) ?_
        refine g_int C hH o_r2 (by decide) rfl FL_RX3_33 dX3_given_40 ?_
        refine lv_aload_n C.hx C.hb dX3_given_43 rfl (lv_at hl 2 rfl) ?_
        refine g_int C hH o_r2 (by decide) rfl FL_RX3_37 dX3_given_44 ?_
        refine lv_aload_n C.hx C.hb dX3_given_47 rfl (lv_at hl 1 rfl) ?_
        refine lv_iload_n C.hx C.hb dX3_given_48 rfl (lv_at hl 3 rfl) ?_
        refine lv_iload C.hx C.hb dX3_given_49 (lv_at hl 4 rfl) ?_
        obtain ⟨x51, M51, hc9, hf⟩ := cl_of hf
        refine r_callVi (rest := []) C hH hl o_t (by decide) rfl (m_X3_worth hn o_t o_r2 o_r1 hc9) ML_RX3_40 MF_X3_worth MI_X3_worth rfl rfl (Nat.le_of_ble_eq_true rfl) ⟨Nat.le_of_ble_eq_true rfl, Nat.le_of_ble_eq_true rfl⟩ ⟨Nat.le_refl _, Nat.le_refl _⟩ dX3_given_51 (fun H locs hH => ?_)
        refine w_eq0 (tgt := 59) C hf dX3_given_54 (by decide) (fun hf => ?_) (fun hf => ?_)
        · exact j_X3_given_S_59 C hn o_t o_r1 o_r2 hf hH (lv_sub hl [0, 1, 2, 3, 4] rfl)
        · refine lv_iconst (v := Int32.ofInt 0) C.hx C.hb dX3_given_57 rfl ?_
          cases hf
          exact w_iret C hH dX3_given_58
    · refine lv_iconst (v := Int32.ofInt 0) C.hx C.hb dX3_given_17 rfl ?_
      cases hf
      exact w_iret C hH dX3_given_18
theorem m_X3_given {E : EE} {l : Launch} {n : Nat} {t r1 : Nat} {q2 : Option Nat} {a3 a4 : Int} {M : Mem} {o : (Int × Mem)} (hn : nfull n) (o_t : ob n t 3) (o_r1 : ob n r1 4) (o_q2 : ∀ q, q2 = some q → ob n q 7) (hf : fn_X3_given t r1 q2 a3 a4 M = some o) : CT E l yX3_given cX3_given 6 (some .int) 7 195 0 0 [.ref (eb E + t), .ref (eb E + r1), rf E q2, i3 a3, i3 a4] n (zf n) M (some (i3 o.1)) n (zf n) o.2 := by
  cases q2 with
  | none => exact m_X3_given_N hn o_t o_r1 hf
  | some q => exact m_X3_given_S hn o_t o_r1 (o_q2 q rfl) hf
