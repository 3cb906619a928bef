-- HeavierByHand.hand
def fn_X10_hand (t : Nat) (a1 : Int) (M : Mem) : Option (Int × Mem) :=
  cu (fn_X10_isWithin a1 1 30 M) fun x4 => cEq x4 0 (some ((-1), M)) (cLt (M (t + 1) 1) 10 (cl (fn_X4_addHand (t + 1) a1 M) fun x29 M29 => some (x29, M29)) (some ((-1), M)))
set_option maxRecDepth 100000 in
set_option maxHeartbeats 4000000 in
theorem m_X10_hand {E : EE} {l : Launch} {n : Nat} {t : Nat} {a1 : Int} {M : Mem} {o : (Int × Mem)} (hn : nfull n) (o_t : ob n t 10) (hf : fn_X10_hand t a1 M = some o) : CT E l yX10_hand cX10_hand 2 (some .int) 1 22 0 0 [.ref (eb E + t), i3 a1] n (zf n) M (some (i3 o.1)) n (zf n) o.2 := by
  refine CT_of PN_RX10 (Nat.le_of_ble_eq_true rfl) ?_
  intro p e s m args below meth c C hH ls hl
  replace C : Cx E p s m args meth c cX10_hand 2 RX10 (some .int) n "hand" := C
  have hl : lv_has ls 2 [(0, .ref (eb E + t)), (1, i3 a1)] := hl
  unfold fn_X10_hand at hf
  refine lv_iload_n C.hx C.hb dX10_hand_0 rfl (lv_at hl 1 rfl) ?_
  refine lv_iconst (v := Int32.ofInt 1) C.hx C.hb dX10_hand_1 rfl ?_
  refine lv_bipush (v := Int32.ofInt 30) C.hx C.hb dX10_hand_2 (by decide) ?_
  obtain ⟨x4, hc9, hf⟩ := cu_of hf
  refine r_callSi (rest := []) C hH hl (m_X10_isWithin hn hc9) ML_RX10_61 MF_X10_isWithin MS_X10_isWithin rfl rfl (Nat.le_of_ble_eq_true rfl) ⟨Nat.le_of_ble_eq_true rfl, Nat.le_of_ble_eq_true rfl⟩ ⟨Nat.le_refl _, Nat.le_refl _⟩ dX10_hand_4 (fun H locs hH => ?_)
  refine w_eq0 (tgt := 22) C hf dX10_hand_7 (by decide) (fun hf => ?_) (fun hf => ?_)
  · refine lv_iconst (v := Int32.ofInt (-1)) C.hx C.hb dX10_hand_22 rfl ?_
    cases hf
    exact w_iret C hH dX10_hand_23
  · refine lv_aload_n C.hx C.hb dX10_hand_10 rfl (lv_at hl 0 rfl) ?_
    refine g_ref (off := 1) C hH o_t (by decide) rfl rfl FL_RX10_10 dX10_hand_11 ?_
    refine g_int C hH (ly (i := 0) (off := 1) (k := 4) hn o_t rfl rfl rfl) (by decide) rfl FL_RX10_65 dX10_hand_14 ?_
    refine lv_bipush (v := Int32.ofInt 10) C.hx C.hb dX10_hand_17 (by decide) ?_
    refine w_lt (tgt := 24) C hf dX10_hand_19 (by decide) (fun hf => ?_) (fun hf => ?_)
    · refine lv_aload_n C.hx C.hb dX10_hand_24 rfl (lv_at hl 0 rfl) ?_
      refine g_ref (off := 1) C hH o_t (by decide) rfl rfl FL_RX10_10 dX10_hand_25 ?_
      refine lv_iload_n C.hx C.hb dX10_hand_28 rfl (lv_at hl 1 rfl) ?_
      obtain ⟨x29, M29, hc9, hf⟩ := cl_of hf
      refine r_callVi (rest := []) C hH hl (ly (i := 0) (off := 1) (k := 4) hn o_t rfl rfl rfl) (by decide) rfl (m_X4_addHand hn (ly (i := 0) (off := 1) (k := 4) hn o_t rfl rfl rfl) hc9) ML_RX10_69 MF_X4_addHand MI_X4_addHand rfl rfl (Nat.le_of_ble_eq_true rfl) ⟨Nat.le_of_ble_eq_true rfl, Nat.le_of_ble_eq_true rfl⟩ ⟨Nat.le_refl _, Nat.le_refl _⟩ dX10_hand_29 (fun H locs hH => ?_)
      cases hf
      exact w_iret C hH dX10_hand_32
    · refine lv_iconst (v := Int32.ofInt (-1)) C.hx C.hb dX10_hand_22 rfl ?_
      cases hf
      exact w_iret C hH dX10_hand_23
-- HeavierByHand.coin
def fn_X10_coin (t : Nat) (a1 : Int) (a2 : Int) (M : Mem) : Option (Int × Mem) :=
  cu (fn_X10_isWithin a1 0 500 M) fun x5 => cEq x5 0 (some ((-1), M)) (cu (fn_X4_isHand (t + 1) a2 M) fun x16 => cEq x16 0 (some ((-1), M)) (cLt (M (t + 1) 7) 20 (cl (fn_X4_addCoin (t + 1) a1 a2 M) fun x42 M42 => some (x42, M42)) (some ((-1), M))))
set_option maxRecDepth 100000 in
set_option maxHeartbeats 4000000 in
theorem m_X10_coin {E : EE} {l : Launch} {n : Nat} {t : Nat} {a1 : Int} {a2 : Int} {M : Mem} {o : (Int × Mem)} (hn : nfull n) (o_t : ob n t 10) (hf : fn_X10_coin t a1 a2 M = some o) : CT E l yX10_coin cX10_coin 3 (some .int) 1 23 0 0 [.ref (eb E + t), i3 a1, i3 a2] n (zf n) M (some (i3 o.1)) n (zf n) o.2 := by
  refine CT_of PN_RX10 (Nat.le_of_ble_eq_true rfl) ?_
  intro p e s m args below meth c C hH ls hl
  replace C : Cx E p s m args meth c cX10_coin 3 RX10 (some .int) n "coin" := C
  have hl : lv_has ls 3 [(0, .ref (eb E + t)), (1, i3 a1), (2, i3 a2)] := hl
  unfold fn_X10_coin at hf
  refine lv_iload_n C.hx C.hb dX10_coin_0 rfl (lv_at hl 1 rfl) ?_
  refine lv_iconst (v := Int32.ofInt 0) C.hx C.hb dX10_coin_1 rfl ?_
  refine lv_sipush (v := Int32.ofInt 500) C.hx C.hb dX10_coin_2 (by decide) ?_
  obtain ⟨x5, hc9, hf⟩ := cu_of hf
  refine r_callSi (rest := []) C hH hl (m_X10_isWithin hn hc9) ML_RX10_61 MF_X10_isWithin MS_X10_isWithin rfl rfl (Nat.le_of_ble_eq_true rfl) ⟨Nat.le_of_ble_eq_true rfl, Nat.le_of_ble_eq_true rfl⟩ ⟨Nat.le_refl _, Nat.le_refl _⟩ dX10_coin_5 (fun H locs hH => ?_)
  refine w_eq0 (tgt := 34) C hf dX10_coin_8 (by decide) (fun hf => ?_) (fun hf => ?_)
  · refine lv_iconst (v := Int32.ofInt (-1)) C.hx C.hb dX10_coin_34 rfl ?_
    cases hf
    exact w_iret C hH dX10_coin_35
  · refine lv_aload_n C.hx C.hb dX10_coin_11 rfl (lv_at hl 0 rfl) ?_
    refine g_ref (off := 1) C hH o_t (by decide) rfl rfl FL_RX10_10 dX10_coin_12 ?_
    refine lv_iload_n C.hx C.hb dX10_coin_15 rfl (lv_at hl 2 rfl) ?_
    obtain ⟨x16, hc9, hf⟩ := cu_of hf
    refine r_callVi (rest := []) C hH hl (ly (i := 0) (off := 1) (k := 4) hn o_t rfl rfl rfl) (by decide) rfl (m_X4_isHand hn (ly (i := 0) (off := 1) (k := 4) hn o_t rfl rfl rfl) hc9) ML_RX10_73 MF_X4_isHand MI_X4_isHand rfl rfl (Nat.le_of_ble_eq_true rfl) ⟨Nat.le_of_ble_eq_true rfl, Nat.le_of_ble_eq_true rfl⟩ ⟨Nat.le_refl _, Nat.le_refl _⟩ dX10_coin_16 (fun H locs hH => ?_)
    refine w_eq0 (tgt := 34) C hf dX10_coin_19 (by decide) (fun hf => ?_) (fun hf => ?_)
    · refine lv_iconst (v := Int32.ofInt (-1)) C.hx C.hb dX10_coin_34 rfl ?_
      cases hf
      exact w_iret C hH dX10_coin_35
    · refine lv_aload_n C.hx C.hb dX10_coin_22 rfl (lv_at hl 0 rfl) ?_
      refine g_ref (off := 1) C hH o_t (by decide) rfl rfl FL_RX10_10 dX10_coin_23 ?_
      refine g_int C hH (ly (i := 0) (off := 1) (k := 4) hn o_t rfl rfl rfl) (by decide) rfl FL_RX10_77 dX10_coin_26 ?_
      refine lv_bipush (v := Int32.ofInt 20) C.hx C.hb dX10_coin_29 (by decide) ?_
      refine w_lt (tgt := 36) C hf dX10_coin_31 (by decide) (fun hf => ?_) (fun hf => ?_)
      · refine lv_aload_n C.hx C.hb dX10_coin_36 rfl (lv_at hl 0 rfl) ?_
        refine g_ref (off := 1) C hH o_t (by decide) rfl rfl FL_RX10_10 dX10_coin_37 ?_
        refine lv_iload_n C.hx C.hb dX10_coin_40 rfl (lv_at hl 1 rfl) ?_
        refine lv_iload_n C.hx C.hb dX10_coin_41 rfl (lv_at hl 2 rfl) ?_
        obtain ⟨x42, M42, hc9, hf⟩ := cl_of hf
        refine r_callVi (rest := []) C hH hl (ly (i := 0) (off := 1) (k := 4) hn o_t rfl rfl rfl) (by decide) rfl (m_X4_addCoin hn (ly (i := 0) (off := 1) (k := 4) hn o_t rfl rfl rfl) hc9) ML_RX10_80 MF_X4_addCoin MI_X4_addCoin rfl rfl (Nat.le_of_ble_eq_true rfl) ⟨Nat.le_of_ble_eq_true rfl, Nat.le_of_ble_eq_true rfl⟩ ⟨Nat.le_refl _, Nat.le_refl _⟩ dX10_coin_42 (fun H locs hH => ?_)
        cases hf
        exact w_iret C hH dX10_coin_45
      · refine lv_iconst (v := Int32.ofInt (-1)) C.hx C.hb dX10_coin_34 rfl ?_
        cases hf
        exact w_iret C hH dX10_coin_35
-- HeavierByHand.rules
def fn_X10_rules (t : Nat) (a1 : Int) (a2 : Int) (M : Mem) : Option (Int × Mem) :=
  cu (fn_X10_isWithin a1 0 6 M) fun x4 => cEq x4 0 (some (0, M)) (cu (fn_X10_isWithin a2 0 9 M) fun x14 => cEq x14 0 (some (0, M)) (st M (t + 1) 9 a1 fun M27 => st M27 (t + 1) 10 a2 fun M35 => some (1, M35)))
set_option maxRecDepth 100000 in
set_option maxHeartbeats 4000000 in
theorem m_X10_rules {E : EE} {l : Launch} {n : Nat} {t : Nat} {a1 : Int} {a2 : Int} {M : Mem} {o : (Int × Mem)} (hn : nfull n) (o_t : ob n t 10) (hf : fn_X10_rules t a1 a2 M = some o) : CT E l yX10_rules cX10_rules 3 (some .boolean) 1 22 0 0 [.ref (eb E + t), i3 a1, i3 a2] n (zf n) M (some (i3 o.1)) n (zf n) o.2 := by
  refine CT_of PN_RX10 (Nat.le_of_ble_eq_true rfl) ?_
  intro p e s m args below meth c C hH ls hl
  replace C : Cx E p s m args meth c cX10_rules 3 RX10 (some .boolean) n "rules" := C
  have hl : lv_has ls 3 [(0, .ref (eb E + t)), (1, i3 a1), (2, i3 a2)] := hl
  unfold fn_X10_rules at hf
  refine lv_iload_n C.hx C.hb dX10_rules_0 rfl (lv_at hl 1 rfl) ?_
  refine lv_iconst (v := Int32.ofInt 0) C.hx C.hb dX10_rules_1 rfl ?_
  refine lv_bipush (v := Int32.ofInt 6) C.hx C.hb dX10_rules_2 (by decide) ?_
  obtain ⟨x4, hc9, hf⟩ := cu_of hf
  refine r_callSi (rest := []) C hH hl (m_X10_isWithin hn hc9) ML_RX10_61 MF_X10_isWithin MS_X10_isWithin rfl rfl (Nat.le_of_ble_eq_true rfl) ⟨Nat.le_of_ble_eq_true rfl, Nat.le_of_ble_eq_true rfl⟩ ⟨Nat.le_refl _, Nat.le_refl _⟩ dX10_rules_4 (fun H locs hH => ?_)
  refine w_eq0 (tgt := 20) C hf dX10_rules_7 (by decide) (fun hf => ?_) (fun hf => ?_)
  · refine lv_iconst (v := Int32.ofInt 0) C.hx C.hb dX10_rules_20 rfl ?_
    cases hf
    exact w_zret C hH (Or.inl rfl) dX10_rules_21
  · refine lv_iload_n C.hx C.hb dX10_rules_10 rfl (lv_at hl 2 rfl) ?_
    refine lv_iconst (v := Int32.ofInt 0) C.hx C.hb dX10_rules_11 rfl ?_
    refine lv_bipush (v := Int32.ofInt 9) C.hx C.hb dX10_rules_12 (by decide) ?_
    obtain ⟨x14, hc9, hf⟩ := cu_of hf
    refine r_callSi (rest := []) C hH hl (m_X10_isWithin hn hc9) ML_RX10_61 MF_X10_isWithin MS_X10_isWithin rfl rfl (Nat.le_of_ble_eq_true rfl) ⟨Nat.le_of_ble_eq_true rfl, Nat.le_of_ble_eq_true rfl⟩ ⟨Nat.le_refl _, Nat.le_refl _⟩ dX10_rules_14 (fun H locs hH => ?_)
    refine w_ne0 (tgt := 22) C hf dX10_rules_17 (by decide) (fun hf => ?_) (fun hf => ?_)
    · refine lv_aload_n C.hx C.hb dX10_rules_22 rfl (lv_at hl 0 rfl) ?_
      refine g_ref (off := 1) C hH o_t (by decide) rfl rfl FL_RX10_10 dX10_rules_23 ?_
      refine lv_iload_n C.hx C.hb dX10_rules_26 rfl (lv_at hl 1 rfl) ?_
      refine r_put C hH (ly (i := 0) (off := 1) (k := 4) hn o_t rfl rfl rfl) (by decide) rfl FL_RX10_84 FW_4_9 hf dX10_rules_27 (fun M27 H locs hf hH => ?_)
      refine lv_aload_n C.hx C.hb dX10_rules_30 rfl (lv_at hl 0 rfl) ?_
      refine g_ref (off := 1) C hH o_t (by decide) rfl rfl FL_RX10_10 dX10_rules_31 ?_
      refine lv_iload_n C.hx C.hb dX10_rules_34 rfl (lv_at hl 2 rfl) ?_
      refine r_put C hH (ly (i := 0) (off := 1) (k := 4) hn o_t rfl rfl rfl) (by decide) rfl FL_RX10_87 FW_4_10 hf dX10_rules_35 (fun M35 H locs hf hH => ?_)
      refine lv_iconst (v := Int32.ofInt 1) C.hx C.hb dX10_rules_38 rfl ?_
      cases hf
      exact w_zret C hH (Or.inr rfl) dX10_rules_39
    · refine lv_iconst (v := Int32.ofInt 0) C.hx C.hb dX10_rules_20 rfl ?_
      cases hf
      exact w_zret C hH (Or.inl rfl) dX10_rules_21
-- HeavierByHand.later
def fn_X10_later (t : Nat) (a1 : Int) (M : Mem) : Option (Int × Mem) :=
  cl (fn_X4_letPass (t + 1) a1 M) fun x5 M5 => cEq x5 0 (some ((-1), M5)) (some ((M5 (t + 1) 8), M5))
set_option maxRecDepth 100000 in
set_option maxHeartbeats 4000000 in
theorem m_X10_later {E : EE} {l : Launch} {n : Nat} {t : Nat} {a1 : Int} {M : Mem} {o : (Int × Mem)} (hn : nfull n) (o_t : ob n t 10) (hf : fn_X10_later t a1 M = some o) : CT E l yX10_later cX10_later 2 (some .int) 2 43 0 0 [.ref (eb E + t), i3 a1] n (zf n) M (some (i3 o.1)) n (zf n) o.2 := by
  refine CT_of PN_RX10 (Nat.le_of_ble_eq_true rfl) ?_
  intro p e s m args below meth c C hH ls hl
  replace C : Cx E p s m args meth c cX10_later 2 RX10 (some .int) n "later" := C
  have hl : lv_has ls 2 [(0, .ref (eb E + t)), (1, i3 a1)] := hl
  unfold fn_X10_later at hf
  refine lv_aload_n C.hx C.hb dX10_later_0 rfl (lv_at hl 0 rfl) ?_
  refine g_ref (off := 1) C hH o_t (by decide) rfl rfl FL_RX10_10 dX10_later_1 ?_
  refine lv_iload_n C.hx C.hb dX10_later_4 rfl (lv_at hl 1 rfl) ?_
  obtain ⟨x5, M5, hc9, hf⟩ := cl_of hf
  refine r_callVi (rest := []) C hH hl (ly (i := 0) (off := 1) (k := 4) hn o_t rfl rfl rfl) (by decide) rfl (m_X4_letPass hn (ly (i := 0) (off := 1) (k := 4) hn o_t rfl rfl rfl) hc9) ML_RX10_90 MF_X4_letPass MI_X4_letPass rfl rfl (Nat.le_of_ble_eq_true rfl) ⟨Nat.le_of_ble_eq_true rfl, Nat.le_of_ble_eq_true rfl⟩ ⟨Nat.le_refl _, Nat.le_refl _⟩ dX10_later_5 (fun H locs hH => ?_)
  refine w_eq0 (tgt := 21) C hf dX10_later_8 (by decide) (fun hf => ?_) (fun hf => ?_)
  · refine lv_iconst (v := Int32.ofInt (-1)) C.hx C.hb dX10_later_21 rfl ?_
    cases hf
    exact w_iret C hH dX10_later_22
  · refine lv_aload_n C.hx C.hb dX10_later_11 rfl (lv_at hl 0 rfl) ?_
    refine g_ref (off := 1) C hH o_t (by decide) rfl rfl FL_RX10_10 dX10_later_12 ?_
    refine g_int C hH (ly (i := 0) (off := 1) (k := 4) hn o_t rfl rfl rfl) (by decide) rfl FL_RX10_93 dX10_later_15 ?_
    refine lv_goto (tgt := 22) C.hx C.hb dX10_later_18 (by decide) ?_
    cases hf
    exact w_iret C hH dX10_later_22
-- HeavierByHand.feed
def fn_X10_feed (t : Nat) (a1 : Int) (a2 : Int) (a3 : Int) (a4 : Int) (a5 : Int) (M : Mem) : Option (Int × Mem) :=
  cLt 280 (M (t + 29) 1) (some ((-1), M)) (cv (fn_X6_put (t + 29) a1 M) fun M20 => cv (fn_X6_put (t + 29) a2 M20) fun M28 => cv (fn_X6_put (t + 29) a3 M28) fun M36 => cv (fn_X6_put (t + 29) a4 M36) fun M45 => cv (fn_X6_put (t + 29) a5 M45) fun M54 => some ((M54 (t + 29) 1), M54))
set_option maxRecDepth 100000 in
set_option maxHeartbeats 4000000 in
theorem m_X10_feed {E : EE} {l : Launch} {n : Nat} {t : Nat} {a1 : Int} {a2 : Int} {a3 : Int} {a4 : Int} {a5 : Int} {M : Mem} {o : (Int × Mem)} (hn : nfull n) (o_t : ob n t 10) (hf : fn_X10_feed t a1 a2 a3 a4 a5 M = some o) : CT E l yX10_feed cX10_feed 6 (some .int) 1 22 0 0 [.ref (eb E + t), i3 a1, i3 a2, i3 a3, i3 a4, i3 a5] n (zf n) M (some (i3 o.1)) n (zf n) o.2 := by
  refine CT_of PN_RX10 (Nat.le_of_ble_eq_true rfl) ?_
  intro p e s m args below meth c C hH ls hl
  replace C : Cx E p s m args meth c cX10_feed 6 RX10 (some .int) n "feed" := C
  have hl : lv_has ls 6 [(0, .ref (eb E + t)), (1, i3 a1), (2, i3 a2), (3, i3 a3), (4, i3 a4), (5, i3 a5)] := hl
  unfold fn_X10_feed at hf
  refine lv_aload_n C.hx C.hb dX10_feed_0 rfl (lv_at hl 0 rfl) ?_
  refine g_ref (off := 29) C hH o_t (by decide) rfl rfl FL_RX10_22 dX10_feed_1 ?_
  refine g_int C hH (ly (i := 2) (off := 29) (k := 6) hn o_t rfl rfl rfl) (by decide) rfl FL_RX10_96 dX10_feed_4 ?_
  refine lv_sipush (v := Int32.ofInt 280) C.hx C.hb dX10_feed_7 (by decide) ?_
  refine w_le (tgt := 15) C hf dX10_feed_10 (by decide) (fun hf => ?_) (fun hf => ?_)
  · refine lv_aload_n C.hx C.hb dX10_feed_15 rfl (lv_at hl 0 rfl) ?_
    refine g_ref (off := 29) C hH o_t (by decide) rfl rfl FL_RX10_22 dX10_feed_16 ?_
    refine lv_iload_n C.hx C.hb dX10_feed_19 rfl (lv_at hl 1 rfl) ?_
    obtain ⟨M20, hc9, hf⟩ := cv_of hf
    refine r_callVv (rest := []) C hH hl (ly (i := 2) (off := 29) (k := 6) hn o_t rfl rfl rfl) (by decide) rfl (m_X6_put hn (ly (i := 2) (off := 29) (k := 6) hn o_t rfl rfl rfl) hc9) ML_RX10_99 MF_X6_put MI_X6_put rfl rfl (Nat.le_of_ble_eq_true rfl) ⟨Nat.le_of_ble_eq_true rfl, Nat.le_of_ble_eq_true rfl⟩ ⟨Nat.le_refl _, Nat.le_refl _⟩ dX10_feed_20 (fun H locs hH => ?_)
    refine lv_aload_n C.hx C.hb dX10_feed_23 rfl (lv_at hl 0 rfl) ?_
    refine g_ref (off := 29) C hH o_t (by decide) rfl rfl FL_RX10_22 dX10_feed_24 ?_
    refine lv_iload_n C.hx C.hb dX10_feed_27 rfl (lv_at hl 2 rfl) ?_
    obtain ⟨M28, hc9, hf⟩ := cv_of hf
    refine r_callVv (rest := []) C hH hl (ly (i := 2) (off := 29) (k := 6) hn o_t rfl rfl rfl) (by decide) rfl (m_X6_put hn (ly (i := 2) (off := 29) (k := 6) hn o_t rfl rfl rfl) hc9) ML_RX10_99 MF_X6_put MI_X6_put rfl rfl (Nat.le_of_ble_eq_true rfl) ⟨Nat.le_of_ble_eq_true rfl, Nat.le_of_ble_eq_true rfl⟩ ⟨Nat.le_refl _, Nat.le_refl _⟩ dX10_feed_28 (fun H locs hH => ?_)
    refine lv_aload_n C.hx C.hb dX10_feed_31 rfl (lv_at hl 0 rfl) ?_
    refine g_ref (off := 29) C hH o_t (by decide) rfl rfl FL_RX10_22 dX10_feed_32 ?_
    refine lv_iload_n C.hx C.hb dX10_feed_35 rfl (lv_at hl 3 rfl) ?_
    obtain ⟨M36, hc9, hf⟩ := cv_of hf
    refine r_callVv (rest := []) C hH hl (ly (i := 2) (off := 29) (k := 6) hn o_t rfl rfl rfl) (by decide) rfl (m_X6_put hn (ly (i := 2) (off := 29) (k := 6) hn o_t rfl rfl rfl) hc9) ML_RX10_99 MF_X6_put MI_X6_put rfl rfl (Nat.le_of_ble_eq_true rfl) ⟨Nat.le_of_ble_eq_true rfl, Nat.le_of_ble_eq_true rfl⟩ ⟨Nat.le_refl _, Nat.le_refl _⟩ dX10_feed_36 (fun H locs hH => ?_)
    refine lv_aload_n C.hx C.hb dX10_feed_39 rfl (lv_at hl 0 rfl) ?_
    refine g_ref (off := 29) C hH o_t (by decide) rfl rfl FL_RX10_22 dX10_feed_40 ?_
    refine lv_iload C.hx C.hb dX10_feed_43 (lv_at hl 4 rfl) ?_
    obtain ⟨M45, hc9, hf⟩ := cv_of hf
    refine r_callVv (rest := []) C hH hl (ly (i := 2) (off := 29) (k := 6) hn o_t rfl rfl rfl) (by decide) rfl (m_X6_put hn (ly (i := 2) (off := 29) (k := 6) hn o_t rfl rfl rfl) hc9) ML_RX10_99 MF_X6_put MI_X6_put rfl rfl (Nat.le_of_ble_eq_true rfl) ⟨Nat.le_of_ble_eq_true rfl, Nat.le_of_ble_eq_true rfl⟩ ⟨Nat.le_refl _, Nat.le_refl _⟩ dX10_feed_45 (fun H locs hH => ?_)
    refine lv_aload_n C.hx C.hb dX10_feed_48 rfl (lv_at hl 0 rfl) ?_
    refine g_ref (off := 29) C hH o_t (by decide) rfl rfl FL_RX10_22 dX10_feed_49 ?_
    refine lv_iload C.hx C.hb dX10_feed_52 (lv_at hl 5 rfl) ?_
    obtain ⟨M54, hc9, hf⟩ := cv_of hf
    refine r_callVv (rest := []) C hH hl (ly (i := 2) (off := 29) (k := 6) hn o_t rfl rfl rfl) (by decide) rfl (m_X6_put hn (ly (i := 2) (off := 29) (k := 6) hn o_t rfl rfl rfl) hc9) ML_RX10_99 MF_X6_put MI_X6_put rfl rfl (Nat.le_of_ble_eq_true rfl) ⟨Nat.le_of_ble_eq_true rfl, Nat.le_of_ble_eq_true rfl⟩ ⟨Nat.le_refl _, Nat.le_refl _⟩ dX10_feed_54 (fun H locs hH => ?_)
    refine lv_aload_n C.hx C.hb dX10_feed_57 rfl (lv_at hl 0 rfl) ?_
    refine g_ref (off := 29) C hH o_t (by decide) rfl rfl FL_RX10_22 dX10_feed_58 ?_
    refine g_int C hH (ly (i := 2) (off := 29) (k := 6) hn o_t rfl rfl rfl) (by decide) rfl FL_RX10_96 dX10_feed_61 ?_
    cases hf
    exact w_iret C hH dX10_feed_64
  · refine lv_iconst (v := Int32.ofInt (-1)) C.hx C.hb dX10_feed_13 rfl ?_
    cases hf
    exact w_iret C hH dX10_feed_14
-- HeavierByHand.end
def fn_X10_end (t : Nat) (a1 : Int) (M : Mem) : Option (Int × Mem) :=
  cu (fn_X10_isWithin a1 0 (M (t + 29) 1) M) fun x9 => cEq x9 0 (some ((-1), M)) (st M (t + 29) 1 a1 fun M22 => some (a1, M22))
set_option maxRecDepth 100000 in
set_option maxHeartbeats 4000000 in
theorem m_X10_end {E : EE} {l : Launch} {n : Nat} {t : Nat} {a1 : Int} {M : Mem} {o : (Int × Mem)} (hn : nfull n) (o_t : ob n t 10) (hf : fn_X10_end t a1 M = some o) : CT E l yX10_end cX10_end 2 (some .int) 1 22 0 0 [.ref (eb E + t), i3 a1] n (zf n) M (some (i3 o.1)) n (zf n) o.2 := by
  refine CT_of PN_RX10 (Nat.le_of_ble_eq_true rfl) ?_
  intro p e s m args below meth c C hH ls hl
  replace C : Cx E p s m args meth c cX10_end 2 RX10 (some .int) n "end" := C
  have hl : lv_has ls 2 [(0, .ref (eb E + t)), (1, i3 a1)] := hl
  unfold fn_X10_end at hf
  refine lv_iload_n C.hx C.hb dX10_end_0 rfl (lv_at hl 1 rfl) ?_
  refine lv_iconst (v := Int32.ofInt 0) C.hx C.hb dX10_end_1 rfl ?_
  refine lv_aload_n C.hx C.hb dX10_end_2 rfl (lv_at hl 0 rfl) ?_
  refine g_ref (off := 29) C hH o_t (by decide) rfl rfl FL_RX10_22 dX10_end_3 ?_
  refine g_int C hH (ly (i := 2) (off := 29) (k := 6) hn o_t rfl rfl rfl) (by decide) rfl FL_RX10_96 dX10_end_6 ?_
  obtain ⟨x9, hc9, hf⟩ := cu_of hf
  refine r_callSi (rest := []) C hH hl (m_X10_isWithin hn hc9) ML_RX10_61 MF_X10_isWithin MS_X10_isWithin rfl rfl (Nat.le_of_ble_eq_true rfl) ⟨Nat.le_of_ble_eq_true rfl, Nat.le_of_ble_eq_true rfl⟩ ⟨Nat.le_refl _, Nat.le_refl _⟩ dX10_end_9 (fun H locs hH => ?_)
  refine w_ne0 (tgt := 17) C hf dX10_end_12 (by decide) (fun hf => ?_) (fun hf => ?_)
  · refine lv_aload_n C.hx C.hb dX10_end_17 rfl (lv_at hl 0 rfl) ?_
    refine g_ref (off := 29) C hH o_t (by decide) rfl rfl FL_RX10_22 dX10_end_18 ?_
    refine lv_iload_n C.hx C.hb dX10_end_21 rfl (lv_at hl 1 rfl) ?_
    refine r_put C hH (ly (i := 2) (off := 29) (k := 6) hn o_t rfl rfl rfl) (by decide) rfl FL_RX10_96 FW_6_1 hf dX10_end_22 (fun M22 H locs hf hH => ?_)
    refine lv_iload_n C.hx C.hb dX10_end_25 rfl (lv_at hl 1 rfl) ?_
    cases hf
    exact w_iret C hH dX10_end_26
  · refine lv_iconst (v := Int32.ofInt (-1)) C.hx C.hb dX10_end_15 rfl ?_
    cases hf
    exact w_iret C hH dX10_end_16
-- HeavierByHand.text
def fn_X10_text (t : Nat) (M : Mem) : Option (Int × Mem) :=
  nm ((M (t + 1) 11)) fun v1_7 => cLt v1_7 0 (some ((-1), M)) (cLt v1_7 4 (rt (t + 42) v1_7 fun q24 => cl (fn_X1_parse (t + 31) (t + 29) M) fun x34 M34 => st M34 (t + 29) 1 0 fun M43 => cEq x34 0 (some ((-1), M43)) (cv (fn_X7_copyOf q24 ((t + 31) + 1) M43) fun M64 => st M64 (t + 1) 11 (v1_7 + 1) fun M74 => some (v1_7, M74))) (some ((-1), M)))
set_option maxRecDepth 100000 in
set_option maxHeartbeats 4000000 in
theorem m_X10_text {E : EE} {l : Launch} {n : Nat} {t : Nat} {M : Mem} {o : (Int × Mem)} (hn : nfull n) (o_t : ob n t 10) (hf : fn_X10_text t M = some o) : CT E l yX10_text cX10_text 4 (some .int) 112 4390 0 0 [.ref (eb E + t)] n (zf n) M (some (i3 o.1)) n (zf n) o.2 := by
  refine CT_of PN_RX10 (Nat.le_of_ble_eq_true rfl) ?_
  intro p e s m args below meth c C hH ls hl
  replace C : Cx E p s m args meth c cX10_text 4 RX10 (some .int) n "text" := C
  have hl : lv_has ls 4 [(0, .ref (eb E + t))] := hl
  unfold fn_X10_text at hf
  refine lv_aload_n C.hx C.hb dX10_text_0 rfl (lv_at hl 0 rfl) ?_
  refine g_ref (off := 1) C hH o_t (by decide) rfl rfl FL_RX10_10 dX10_text_1 ?_
  refine g_int C hH (ly (i := 0) (off := 1) (k := 4) hn o_t rfl rfl rfl) (by decide) rfl FL_RX10_103 dX10_text_4 ?_
  refine r_nm hf (fun v1_7 hf => ?_)
  refine lv_istore_n (lv' := [(1, i3 v1_7), (0, .ref (eb E + t))]) C.hx C.hb dX10_text_7 rfl hl (by decide) rfl (fun ls hl => ?_)
  refine lv_iload_n C.hx C.hb dX10_text_8 rfl (lv_at hl 0 rfl) ?_
  refine w_lt0 (tgt := 17) C hf dX10_text_9 (by decide) (fun hf => ?_) (fun hf => ?_)
  · refine lv_iconst (v := Int32.ofInt (-1)) C.hx C.hb dX10_text_17 rfl ?_
    cases hf
    exact w_iret C hH dX10_text_18
  · refine lv_iload_n C.hx C.hb dX10_text_12 rfl (lv_at hl 0 rfl) ?_
    refine lv_iconst (v := Int32.ofInt 4) C.hx C.hb dX10_text_13 rfl ?_
    refine w_lt (tgt := 19) C hf dX10_text_14 (by decide) (fun hf => ?_) (fun hf => ?_)
    · refine lv_aload_n C.hx C.hb dX10_text_19 rfl (lv_at hl 1 rfl) ?_
      refine g_ref (off := 42) C hH o_t (by decide) rfl rfl FL_RX10_35 dX10_text_20 ?_
      refine lv_iload_n C.hx C.hb dX10_text_23 rfl (lv_at hl 0 rfl) ?_
      refine r_txt C hn hH (ly (i := 4) (off := 42) (k := 16) hn o_t rfl rfl rfl) hf dX10_text_24 (fun q24 o_q24 hf => ?_)
      refine lv_astore_n (lv' := [(2, .ref (eb E + q24)), (1, i3 v1_7), (0, .ref (eb E + t))]) C.hx C.hb dX10_text_25 rfl hl (by decide) rfl (fun ls hl => ?_)
      refine lv_aload_n C.hx C.hb dX10_text_26 rfl (lv_at hl 2 rfl) ?_
      refine g_ref (off := 31) C hH o_t (by decide) rfl rfl FL_RX10_29 dX10_text_27 ?_
      refine lv_aload_n C.hx C.hb dX10_text_30 rfl (lv_at hl 2 rfl) ?_
      refine g_ref (off := 29) C hH o_t (by decide) rfl rfl FL_RX10_22 dX10_text_31 ?_
      obtain ⟨x34, M34, hc9, hf⟩ := cl_of hf
      refine r_callVi (rest := []) C hH hl (ly (i := 3) (off := 31) (k := 1) hn o_t rfl rfl rfl) (by decide) rfl (m_X1_parse hn (ly (i := 3) (off := 31) (k := 1) hn o_t rfl rfl rfl) (ly (i := 2) (off := 29) (k := 6) hn o_t rfl rfl rfl) hc9) ML_RX10_105 MF_X1_parse MI_X1_parse rfl rfl (Nat.le_of_ble_eq_true rfl) ⟨Nat.le_of_ble_eq_true rfl, Nat.le_of_ble_eq_true rfl⟩ ⟨Nat.le_refl _, Nat.le_refl _⟩ dX10_text_34 (fun H locs hH => ?_)
      refine lv_istore_n (lv' := [(3, i3 x34), (2, .ref (eb E + q24)), (1, i3 v1_7), (0, .ref (eb E + t))]) C.hx C.hb dX10_text_37 rfl hl (by decide) rfl (fun ls hl => ?_)
      refine lv_aload_n C.hx C.hb dX10_text_38 rfl (lv_at hl 3 rfl) ?_
      refine g_ref (off := 29) C hH o_t (by decide) rfl rfl FL_RX10_22 dX10_text_39 ?_
      refine lv_iconst (v := Int32.ofInt 0) C.hx C.hb dX10_text_42 rfl ?_
      refine r_put C hH (ly (i := 2) (off := 29) (k := 6) hn o_t rfl rfl rfl) (by decide) rfl FL_RX10_96 FW_6_1 hf dX10_text_43 (fun M43 H locs hf hH => ?_)
      refine lv_iload_n C.hx C.hb dX10_text_46 rfl (lv_at hl 0 rfl) ?_
      refine w_eq0 (tgt := 54) C hf dX10_text_47 (by decide) (fun hf => ?_) (fun hf => ?_)
      · refine lv_iconst (v := Int32.ofInt (-1)) C.hx C.hb dX10_text_54 rfl ?_
        cases hf
        exact w_iret C hH dX10_text_55
      · refine lv_aload_n C.hx C.hb dX10_text_50 rfl (lv_at hl 1 rfl) ?_
        refine lv_ifnonnull (tgt := 56) C.hx C.hb dX10_text_51 (by decide) ?_
        refine lv_aload_n C.hx C.hb dX10_text_56 rfl (lv_at hl 1 rfl) ?_
        refine lv_aload_n C.hx C.hb dX10_text_57 rfl (lv_at hl 3 rfl) ?_
        refine g_ref (off := 31) C hH o_t (by decide) rfl rfl FL_RX10_29 dX10_text_58 ?_
        refine g_ref (off := 1) C hH (ly (i := 3) (off := 31) (k := 1) hn o_t rfl rfl rfl) (by decide) rfl rfl FL_RX10_109 dX10_text_61 ?_
        obtain ⟨M64, hc9, hf⟩ := cv_of hf
        refine r_callVv (rest := []) C hH hl o_q24 (by decide) rfl (m_X7_copyOf hn o_q24 (ly (i := 0) (off := 1) (k := 7) hn (ly (i := 3) (off := 31) (k := 1) hn o_t rfl rfl rfl) rfl rfl rfl) hc9) ML_RX10_113 MF_X7_copyOf MI_X7_copyOf rfl rfl (Nat.le_of_ble_eq_true rfl) ⟨Nat.le_of_ble_eq_true rfl, Nat.le_of_ble_eq_true rfl⟩ ⟨Nat.le_refl _, Nat.le_refl _⟩ dX10_text_64 (fun H locs hH => ?_)
        refine lv_aload_n C.hx C.hb dX10_text_67 rfl (lv_at hl 3 rfl) ?_
        refine g_ref (off := 1) C hH o_t (by decide) rfl rfl FL_RX10_10 dX10_text_68 ?_
        refine lv_iload_n C.hx C.hb dX10_text_71 rfl (lv_at hl 2 rfl) ?_
        refine lv_iconst (v := Int32.ofInt 1) C.hx C.hb dX10_text_72 rfl ?_
        refine w_iadd C dX10_text_73 ?_
        refine r_put C hH (ly (i := 0) (off := 1) (k := 4) hn o_t rfl rfl rfl) (by decide) rfl FL_RX10_103 FW_4_11 hf dX10_text_74 (fun M74 H locs hf hH => ?_)
        refine lv_iload_n C.hx C.hb dX10_text_77 rfl (lv_at hl 2 rfl) ?_
        cases hf
        exact w_iret C hH dX10_text_78
    · refine lv_iconst (v := Int32.ofInt (-1)) C.hx C.hb dX10_text_17 rfl ?_
      cases hf
      exact w_iret C hH dX10_text_18
-- HeavierByHand.fault
def fn_X10_fault (t : Nat) (a1 : Int) (M : Mem) : Option Int :=
  cEq (M (t + 31) 2) 0 (some (-1)) (cEq a1 0 (some (M (t + 31) 3)) (cEq a1 1 (some (M (t + 31) 4)) (some (-1))))
set_option maxRecDepth 100000 in
set_option maxHeartbeats 4000000 in
theorem m_X10_fault {E : EE} {l : Launch} {n : Nat} {t : Nat} {a1 : Int} {M : Mem} {o : Int} (hn : nfull n) (o_t : ob n t 10) (hf : fn_X10_fault t a1 M = some o) : CT E l yX10_fault cX10_fault 2 (some .int) 0 0 0 0 [.ref (eb E + t), i3 a1] n (zf n) M (some (i3 o)) n (zf n) M := by
  refine CT_of PN_RX10 (Nat.le_of_ble_eq_true rfl) ?_
  intro p e s m args below meth c C hH ls hl
  replace C : Cx E p s m args meth c cX10_fault 2 RX10 (some .int) n "fault" := C
  have hl : lv_has ls 2 [(0, .ref (eb E + t)), (1, i3 a1)] := hl
  unfold fn_X10_fault at hf
  refine lv_aload_n C.hx C.hb dX10_fault_0 rfl (lv_at hl 0 rfl) ?_
  refine g_ref (off := 31) C hH o_t (by decide) rfl rfl FL_RX10_29 dX10_fault_1 ?_
  refine g_int C hH (ly (i := 3) (off := 31) (k := 1) hn o_t rfl rfl rfl) (by decide) rfl FL_RX10_117 dX10_fault_4 ?_
  refine w_ne0 (tgt := 12) C hf dX10_fault_7 (by decide) (fun hf => ?_) (fun hf => ?_)
  · refine lv_iload_n C.hx C.hb dX10_fault_12 rfl (lv_at hl 1 rfl) ?_
    refine w_ne0 (tgt := 24) C hf dX10_fault_13 (by decide) (fun hf => ?_) (fun hf => ?_)
    · refine lv_iload_n C.hx C.hb dX10_fault_24 rfl (lv_at hl 1 rfl) ?_
      refine lv_iconst (v := Int32.ofInt 1) C.hx C.hb dX10_fault_25 rfl ?_
      refine w_ne (tgt := 39) C hf dX10_fault_26 (by decide) (fun hf => ?_) (fun hf => ?_)
      · refine lv_iconst (v := Int32.ofInt (-1)) C.hx C.hb dX10_fault_39 rfl ?_
        cases hf
        exact w_iret C hH dX10_fault_40
      · refine lv_aload_n C.hx C.hb dX10_fault_29 rfl (lv_at hl 0 rfl) ?_
        refine g_ref (off := 31) C hH o_t (by decide) rfl rfl FL_RX10_29 dX10_fault_30 ?_
        refine g_int C hH (ly (i := 3) (off := 31) (k := 1) hn o_t rfl rfl rfl) (by decide) rfl FL_RX10_124 dX10_fault_33 ?_
        refine lv_goto (tgt := 40) C.hx C.hb dX10_fault_36 (by decide) ?_
        cases hf
        exact w_iret C hH dX10_fault_40
    · refine lv_aload_n C.hx C.hb dX10_fault_16 rfl (lv_at hl 0 rfl) ?_
      refine g_ref (off := 31) C hH o_t (by decide) rfl rfl FL_RX10_29 dX10_fault_17 ?_
      refine g_int C hH (ly (i := 3) (off := 31) (k := 1) hn o_t rfl rfl rfl) (by decide) rfl FL_RX10_121 dX10_fault_20 ?_
      cases hf
      exact w_iret C hH dX10_fault_23
  · refine lv_iconst (v := Int32.ofInt (-1)) C.hx C.hb dX10_fault_10 rfl ?_
    cases hf
    exact w_iret C hH dX10_fault_11
-- HeavierByHand.by
def fn_X10_by_J18 (t : Nat) (a1 : Int) (M : Mem) : Option (Int × Mem) :=
  st M (t + 1) 12 a1 fun M23 => some (1, M23)
def fn_X10_by (t : Nat) (a1 : Int) (M : Mem) : Option (Int × Mem) :=
  cEq a1 (-1) (fn_X10_by_J18 t a1 M) (cu (fn_X4_isText (t + 1) a1 M) fun x10 => cEq x10 0 (some (0, M)) (fn_X10_by_J18 t a1 M))
set_option maxRecDepth 100000 in
set_option maxHeartbeats 4000000 in
theorem j_X10_by_18 {p : Program} {l : Launch} {e : Env} {s : State} {m : MethodId} {args : Array Value} {below : List Frame} {meth : Method} {c : Code} {E : EE} {n : Nat} {o : (Int × Mem)} {t : Nat} {a1 : Int} {M : Mem} {H : Heap} {locs : List Loc} {ls : Array Slot} (C : Cx E p s m args meth c cX10_by 2 RX10 (some .boolean) n "by") (hn : nfull n) (o_t : ob n t 10) (hf : fn_X10_by_J18 t a1 M = some o) (hH : ST E s n (zf n) M H locs) (hl : lv_has ls 2 [(0, .ref (eb E + t)), (1, i3 a1)]) : W p l e { frames := 1, cells := 0, slots := 0, locals := 21 } s m args below meth c H locs 0 0 (MQ below (QC E (some (i3 o.1)) n (zf n) o.2) args s 0 0 (fr E)) (F0 m 18 ls []) := by
  unfold fn_X10_by_J18 at hf
  refine lv_aload_n C.hx C.hb dX10_by_18 rfl (lv_at hl 0 rfl) ?_
  refine g_ref (off := 1) C hH o_t (by decide) rfl rfl FL_RX10_10 dX10_by_19 ?_
  refine lv_iload_n C.hx C.hb dX10_by_22 rfl (lv_at hl 1 rfl) ?_
  refine r_put C hH (ly (i := 0) (off := 1) (k := 4) hn o_t rfl rfl rfl) (by decide) rfl FL_RX10_130 FW_4_12 hf dX10_by_23 (fun M23 H locs hf hH => ?_)
  refine lv_iconst (v := Int32.ofInt 1) C.hx C.hb dX10_by_26 rfl ?_
  cases hf
  exact w_zret C hH (Or.inr rfl) dX10_by_27
set_option maxRecDepth 100000 in
set_option maxHeartbeats 4000000 in
theorem m_X10_by {E : EE} {l : Launch} {n : Nat} {t : Nat} {a1 : Int} {M : Mem} {o : (Int × Mem)} (hn : nfull n) (o_t : ob n t 10) (hf : fn_X10_by t a1 M = some o) : CT E l yX10_by cX10_by 2 (some .boolean) 1 21 0 0 [.ref (eb E + t), i3 a1] n (zf n) M (some (i3 o.1)) n (zf n) o.2 := by
  refine CT_of PN_RX10 (Nat.le_of_ble_eq_true rfl) ?_
  intro p e s m args below meth c C hH ls hl
  replace C : Cx E p s m args meth c cX10_by 2 RX10 (some .boolean) n "by" := C
  have hl : lv_has ls 2 [(0, .ref (eb E + t)), (1, i3 a1)] := hl
  unfold fn_X10_by at hf
  refine lv_iload_n C.hx C.hb dX10_by_0 rfl (lv_at hl 1 rfl) ?_
  refine lv_iconst (v := Int32.ofInt (-1)) C.hx C.hb dX10_by_1 rfl ?_
  refine w_eq (tgt := 18) C hf dX10_by_2 (by decide) (fun hf => ?_) (fun hf => ?_)
  · exact j_X10_by_18 C hn o_t hf hH (lv_sub hl [0, 1] rfl)
  · refine lv_aload_n C.hx C.hb dX10_by_5 rfl (lv_at hl 0 rfl) ?_
    refine g_ref (off := 1) C hH o_t (by decide) rfl rfl FL_RX10_10 dX10_by_6 ?_
    refine lv_iload_n C.hx C.hb dX10_by_9 rfl (lv_at hl 1 rfl) ?_
    obtain ⟨x10, hc9, hf⟩ := cu_of hf
    refine r_callVi (rest := []) C hH hl (ly (i := 0) (off := 1) (k := 4) hn o_t rfl rfl rfl) (by decide) rfl (m_X4_isText hn (ly (i := 0) (off := 1) (k := 4) hn o_t rfl rfl rfl) hc9) ML_RX10_127 MF_X4_isText MI_X4_isText rfl rfl (Nat.le_of_ble_eq_true rfl) ⟨Nat.le_of_ble_eq_true rfl, Nat.le_of_ble_eq_true rfl⟩ ⟨Nat.le_refl _, Nat.le_refl _⟩ dX10_by_10 (fun H locs hH => ?_)
    refine w_ne0 (tgt := 18) C hf dX10_by_13 (by decide) (fun hf => ?_) (fun hf => ?_)
    · exact j_X10_by_18 C hn o_t hf hH (lv_sub hl [0, 1] rfl)
    · refine lv_iconst (v := Int32.ofInt 0) C.hx C.hb dX10_by_16 rfl ?_
      cases hf
      exact w_zret C hH (Or.inl rfl) dX10_by_17
-- HeavierByHand.ruling
def fn_X10_ruling (t : Nat) (M : Mem) : Option (Option Nat) :=
  cu (fn_X4_isText (t + 1) (M (t + 1) 12) M) fun x11 => cEq x11 0 (some none) (rt (t + 42) (M (t + 1) 12) fun q28 => some (some q28))
set_option maxRecDepth 100000 in
set_option maxHeartbeats 4000000 in
theorem m_X10_ruling {E : EE} {l : Launch} {n : Nat} {t : Nat} {M : Mem} {o : (Option Nat)} (hn : nfull n) (o_t : ob n t 10) (hf : fn_X10_ruling t M = some o) : CT E l yX10_ruling cX10_ruling 1 (some (.object "HeavierByHand$Text")) 1 21 0 0 [.ref (eb E + t)] n (zf n) M (some (rf E o)) n (zf n) M := by
  refine CT_of PN_RX10 (Nat.le_of_ble_eq_true rfl) ?_
  intro p e s m args below meth c C hH ls hl
  replace C : Cx E p s m args meth c cX10_ruling 1 RX10 (some (.object "HeavierByHand$Text")) n "ruling" := C
  have hl : lv_has ls 1 [(0, .ref (eb E + t))] := hl
  unfold fn_X10_ruling at hf
  refine lv_aload_n C.hx C.hb dX10_ruling_0 rfl (lv_at hl 0 rfl) ?_
  refine g_ref (off := 1) C hH o_t (by decide) rfl rfl FL_RX10_10 dX10_ruling_1 ?_
  refine lv_aload_n C.hx C.hb dX10_ruling_4 rfl (lv_at hl 0 rfl) ?_
  refine g_ref (off := 1) C hH o_t (by decide) rfl rfl FL_RX10_10 dX10_ruling_5 ?_
  refine g_int C hH (ly (i := 0) (off := 1) (k := 4) hn o_t rfl rfl rfl) (by decide) rfl FL_RX10_130 dX10_ruling_8 ?_
  obtain ⟨x11, hc9, hf⟩ := cu_of hf
  refine r_callVi (rest := []) C hH hl (ly (i := 0) (off := 1) (k := 4) hn o_t rfl rfl rfl) (by decide) rfl (m_X4_isText hn (ly (i := 0) (off := 1) (k := 4) hn o_t rfl rfl rfl) hc9) ML_RX10_127 MF_X4_isText MI_X4_isText rfl rfl (Nat.le_of_ble_eq_true rfl) ⟨Nat.le_of_ble_eq_true rfl, Nat.le_of_ble_eq_true rfl⟩ ⟨Nat.le_refl _, Nat.le_refl _⟩ dX10_ruling_11 (fun H locs hH => ?_)
  refine w_eq0 (tgt := 32) C hf dX10_ruling_14 (by decide) (fun hf => ?_) (fun hf => ?_)
  · refine lv_null C.hx C.hb dX10_ruling_32 ?_
    cases hf
    exact w_aret C hH rfl dX10_ruling_33
  · refine lv_aload_n C.hx C.hb dX10_ruling_17 rfl (lv_at hl 0 rfl) ?_
    refine g_ref (off := 42) C hH o_t (by decide) rfl rfl FL_RX10_35 dX10_ruling_18 ?_
    refine lv_aload_n C.hx C.hb dX10_ruling_21 rfl (lv_at hl 0 rfl) ?_
    refine g_ref (off := 1) C hH o_t (by decide) rfl rfl FL_RX10_10 dX10_ruling_22 ?_
    refine g_int C hH (ly (i := 0) (off := 1) (k := 4) hn o_t rfl rfl rfl) (by decide) rfl FL_RX10_130 dX10_ruling_25 ?_
    refine r_txt C hn hH (ly (i := 4) (off := 42) (k := 16) hn o_t rfl rfl rfl) hf dX10_ruling_28 (fun q28 o_q28 hf => ?_)
    refine lv_goto (tgt := 33) C.hx C.hb dX10_ruling_29 (by decide) ?_
    cases hf
    exact w_aret C hH rfl dX10_ruling_33
theorem ob_X10_ruling {n t : Nat} {M : Mem} {x : Option Nat} (hn : nfull n) (o_t : ob n t 10) (hf : fn_X10_ruling t M = some x) : ∀ q, x = some q → ob n q 7 := by
  unfold fn_X10_ruling at hf
  obtain ⟨x11, -, hf⟩ := cu_of hf
  obtain ⟨-, h1, h2⟩ := cEq_of hf
  intro q hq
  subst hq
  by_cases h : x11 = 0
  · have := h1 h; cases this
  · have h3 := h2 h
    obtain ⟨hi, h4⟩ := rt_of h3
    cases h4
    exact (lyT hn (ly (i := 4) (off := 42) (k := 16) hn o_t rfl rfl rfl) (by omega)).1
-- HeavierByHand.gives
def fn_X10_gives (t : Nat) (a1 : Int) (a2 : Int) (M : Mem) : Option (Int × Mem) :=
  cu (fn_X4_canBePaid (t + 1) a2 a1 M) fun x6 => cEq x6 0 (some ((-1), M)) (cu (fn_X10_ruling t M) fun x21 => cl (fn_X3_given (t + 63) (t + 1) x21 a1 a2 M) fun x26 M26 => some (x26, M26))
set_option maxRecDepth 100000 in
set_option maxHeartbeats 4000000 in
theorem m_X10_gives {E : EE} {l : Launch} {n : Nat} {t : Nat} {a1 : Int} {a2 : Int} {M : Mem} {o : (Int × Mem)} (hn : nfull n) (o_t : ob n t 10) (hf : fn_X10_gives t a1 a2 M = some o) : CT E l yX10_gives cX10_gives 3 (some .int) 8 220 0 0 [.ref (eb E + t), i3 a1, i3 a2] n (zf n) M (some (i3 o.1)) n (zf n) o.2 := by
  refine CT_of PN_RX10 (Nat.le_of_ble_eq_true rfl) ?_
  intro p e s m args below meth c C hH ls hl
  replace C : Cx E p s m args meth c cX10_gives 3 RX10 (some .int) n "gives" := C
  have hl : lv_has ls 3 [(0, .ref (eb E + t)), (1, i3 a1), (2, i3 a2)] := hl
  unfold fn_X10_gives at hf
  refine lv_aload_n C.hx C.hb dX10_gives_0 rfl (lv_at hl 0 rfl) ?_
  refine g_ref (off := 1) C hH o_t (by decide) rfl rfl FL_RX10_10 dX10_gives_1 ?_
  refine lv_iload_n C.hx C.hb dX10_gives_4 rfl (lv_at hl 2 rfl) ?_
  refine lv_iload_n C.hx C.hb dX10_gives_5 rfl (lv_at hl 1 rfl) ?_
  obtain ⟨x6, hc9, hf⟩ := cu_of hf
  refine r_callVi (rest := []) C hH hl (ly (i := 0) (off := 1) (k := 4) hn o_t rfl rfl rfl) (by decide) rfl (m_X4_canBePaid hn (ly (i := 0) (off := 1) (k := 4) hn o_t rfl rfl rfl) hc9) ML_RX10_133 MF_X4_canBePaid MI_X4_canBePaid rfl rfl (Nat.le_of_ble_eq_true rfl) ⟨Nat.le_of_ble_eq_true rfl, Nat.le_of_ble_eq_true rfl⟩ ⟨Nat.le_refl _, Nat.le_refl _⟩ dX10_gives_6 (fun H locs hH => ?_)
  refine w_eq0 (tgt := 32) C hf dX10_gives_9 (by decide) (fun hf => ?_) (fun hf => ?_)
  · refine lv_iconst (v := Int32.ofInt (-1)) C.hx C.hb dX10_gives_32 rfl ?_
    cases hf
    exact w_iret C hH dX10_gives_33
  · refine lv_aload_n C.hx C.hb dX10_gives_12 rfl (lv_at hl 0 rfl) ?_
    refine g_ref (off := 63) C hH o_t (by decide) rfl rfl FL_RX10_43 dX10_gives_13 ?_
    refine lv_aload_n C.hx C.hb dX10_gives_16 rfl (lv_at hl 0 rfl) ?_
    refine g_ref (off := 1) C hH o_t (by decide) rfl rfl FL_RX10_10 dX10_gives_17 ?_
    refine lv_aload_n C.hx C.hb dX10_gives_20 rfl (lv_at hl 0 rfl) ?_
    obtain ⟨x21, hc9, hf⟩ := cu_of hf
    have o_x21 := ob_X10_ruling hn o_t hc9
    refine r_callVi (rest := [.ref (eb E + (t + 1)), .ref (eb E + (t + 63))]) C hH hl o_t (by decide) rfl (m_X10_ruling hn o_t hc9) ML_RX10_137 MF_X10_ruling MI_X10_ruling rfl rfl (Nat.le_of_ble_eq_true rfl) ⟨Nat.le_of_ble_eq_true rfl, Nat.le_of_ble_eq_true rfl⟩ ⟨Nat.le_refl _, Nat.le_refl _⟩ dX10_gives_21 (fun H locs hH => ?_)
    refine lv_iload_n C.hx C.hb dX10_gives_24 rfl (lv_at hl 1 rfl) ?_
    refine lv_iload_n C.hx C.hb dX10_gives_25 rfl (lv_at hl 2 rfl) ?_
    obtain ⟨x26, M26, hc9, hf⟩ := cl_of hf
    refine r_callVi (rest := []) C hH hl (ly (i := 5) (off := 63) (k := 3) hn o_t rfl rfl rfl) (by decide) rfl (m_X3_given hn (ly (i := 5) (off := 63) (k := 3) hn o_t rfl rfl rfl) (ly (i := 0) (off := 1) (k := 4) hn o_t rfl rfl rfl) o_x21 hc9) ML_RX10_140 MF_X3_given MI_X3_given rfl rfl (Nat.le_of_ble_eq_true rfl) ⟨Nat.le_of_ble_eq_true rfl, Nat.le_of_ble_eq_true rfl⟩ ⟨Nat.le_refl _, Nat.le_refl _⟩ dX10_gives_26 (fun H locs hH => ?_)
    refine lv_goto (tgt := 33) C.hx C.hb dX10_gives_29 (by decide) ?_
    cases hf
    exact w_iret C hH dX10_gives_33
-- HeavierByHand.pay
def fn_X10_pay (t : Nat) (a1 : Int) (a2 : Int) (M : Mem) : Option (Int × Mem) :=
  cu (fn_X4_canBePaid (t + 1) a1 a2 M) fun x6 => cEq x6 0 (some ((-1), M)) (cu (fn_X10_ruling t M) fun x29 => cl (fn_X3_given (t + 63) (t + 1) x29 a2 a1 M) fun x34 M34 => cl (fn_X4_moveCoin (t + 1) a1 a2 x34 M34) fun x37 M37 => some (x37, M37))
set_option maxRecDepth 100000 in
set_option maxHeartbeats 4000000 in
theorem m_X10_pay {E : EE} {l : Launch} {n : Nat} {t : Nat} {a1 : Int} {a2 : Int} {M : Mem} {o : (Int × Mem)} (hn : nfull n) (o_t : ob n t 10) (hf : fn_X10_pay t a1 a2 M = some o) : CT E l yX10_pay cX10_pay 3 (some .int) 8 220 0 0 [.ref (eb E + t), i3 a1, i3 a2] n (zf n) M (some (i3 o.1)) n (zf n) o.2 := by
  refine CT_of PN_RX10 (Nat.le_of_ble_eq_true rfl) ?_
  intro p e s m args below meth c C hH ls hl
  replace C : Cx E p s m args meth c cX10_pay 3 RX10 (some .int) n "pay" := C
  have hl : lv_has ls 3 [(0, .ref (eb E + t)), (1, i3 a1), (2, i3 a2)] := hl
  unfold fn_X10_pay at hf
  refine lv_aload_n C.hx C.hb dX10_pay_0 rfl (lv_at hl 0 rfl) ?_
  refine g_ref (off := 1) C hH o_t (by decide) rfl rfl FL_RX10_10 dX10_pay_1 ?_
  refine lv_iload_n C.hx C.hb dX10_pay_4 rfl (lv_at hl 1 rfl) ?_
  refine lv_iload_n C.hx C.hb dX10_pay_5 rfl (lv_at hl 2 rfl) ?_
  obtain ⟨x6, hc9, hf⟩ := cu_of hf
  refine r_callVi (rest := []) C hH hl (ly (i := 0) (off := 1) (k := 4) hn o_t rfl rfl rfl) (by decide) rfl (m_X4_canBePaid hn (ly (i := 0) (off := 1) (k := 4) hn o_t rfl rfl rfl) hc9) ML_RX10_133 MF_X4_canBePaid MI_X4_canBePaid rfl rfl (Nat.le_of_ble_eq_true rfl) ⟨Nat.le_of_ble_eq_true rfl, Nat.le_of_ble_eq_true rfl⟩ ⟨Nat.le_refl _, Nat.le_refl _⟩ dX10_pay_6 (fun H locs hH => ?_)
  refine w_ne0 (tgt := 14) C hf dX10_pay_9 (by decide) (fun hf => ?_) (fun hf => ?_)
  · refine lv_aload_n C.hx C.hb dX10_pay_14 rfl (lv_at hl 0 rfl) ?_
    refine g_ref (off := 1) C hH o_t (by decide) rfl rfl FL_RX10_10 dX10_pay_15 ?_
    refine lv_iload_n C.hx C.hb dX10_pay_18 rfl (lv_at hl 1 rfl) ?_
    refine lv_iload_n C.hx C.hb dX10_pay_19 rfl (lv_at hl 2 rfl) ?_
    refine lv_aload_n C.hx C.hb dX10_pay_20 rfl (lv_at hl 0 rfl) ?_
    refine g_ref (off := 63) C hH o_t (by decide) rfl rfl FL_RX10_43 dX10_pay_21 ?_
    refine lv_aload_n C.hx C.hb dX10_pay_24 rfl (lv_at hl 0 rfl) ?_
    refine g_ref (off := 1) C hH o_t (by decide) rfl rfl FL_RX10_10 dX10_pay_25 ?_
    refine lv_aload_n C.hx C.hb dX10_pay_28 rfl (lv_at hl 0 rfl) ?_
    obtain ⟨x29, hc9, hf⟩ := cu_of hf
    have o_x29 := ob_X10_ruling hn o_t hc9
    refine r_callVi (rest := [.ref (eb E + (t + 1)), .ref (eb E + (t + 63)), i3 a2, i3 a1, .ref (eb E + (t + 1))]) C hH hl o_t (by decide) rfl (m_X10_ruling hn o_t hc9) ML_RX10_137 MF_X10_ruling MI_X10_ruling rfl rfl (Nat.le_of_ble_eq_true rfl) ⟨Nat.le_of_ble_eq_true rfl, Nat.le_of_ble_eq_true rfl⟩ ⟨Nat.le_refl _, Nat.le_refl _⟩ dX10_pay_29 (fun H locs hH => ?_)
    refine lv_iload_n C.hx C.hb dX10_pay_32 rfl (lv_at hl 2 rfl) ?_
    refine lv_iload_n C.hx C.hb dX10_pay_33 rfl (lv_at hl 1 rfl) ?_
    obtain ⟨x34, M34, hc9, hf⟩ := cl_of hf
    refine r_callVi (rest := [i3 a2, i3 a1, .ref (eb E + (t + 1))]) C hH hl (ly (i := 5) (off := 63) (k := 3) hn o_t rfl rfl rfl) (by decide) rfl (m_X3_given hn (ly (i := 5) (off := 63) (k := 3) hn o_t rfl rfl rfl) (ly (i := 0) (off := 1) (k := 4) hn o_t rfl rfl rfl) o_x29 hc9) ML_RX10_140 MF_X3_given MI_X3_given rfl rfl (Nat.le_of_ble_eq_true rfl) ⟨Nat.le_of_ble_eq_true rfl, Nat.le_of_ble_eq_true rfl⟩ ⟨Nat.le_refl _, Nat.le_refl _⟩ dX10_pay_34 (fun H locs hH => ?_)
    obtain ⟨x37, M37, hc9, hf⟩ := cl_of hf
    refine r_callVi (rest := []) C hH hl (ly (i := 0) (off := 1) (k := 4) hn o_t rfl rfl rfl) (by decide) rfl (m_X4_moveCoin hn (ly (i := 0) (off := 1) (k := 4) hn o_t rfl rfl rfl) hc9) ML_RX10_144 MF_X4_moveCoin MI_X4_moveCoin rfl rfl (Nat.le_of_ble_eq_true rfl) ⟨Nat.le_of_ble_eq_true rfl, Nat.le_of_ble_eq_true rfl⟩ ⟨Nat.le_refl _, Nat.le_refl _⟩ dX10_pay_37 (fun H locs hH => ?_)
    cases hf
    exact w_iret C hH dX10_pay_40
  · refine lv_iconst (v := Int32.ofInt (-1)) C.hx C.hb dX10_pay_12 rfl ?_
    cases hf
    exact w_iret C hH dX10_pay_13
-- HeavierByHand.wash
def fn_X10_wash (t : Nat) (a1 : Int) (M : Mem) : Option (Int × Mem) :=
  cu (fn_X4_isCoin (t + 1) a1 M) fun x5 => cEq x5 0 (some ((-1), M)) (cl (fn_X4_cleanCoin (t + 1) a1 M) fun x16 M16 => some (x16, M16))
set_option maxRecDepth 100000 in
set_option maxHeartbeats 4000000 in
theorem m_X10_wash {E : EE} {l : Launch} {n : Nat} {t : Nat} {a1 : Int} {M : Mem} {o : (Int × Mem)} (hn : nfull n) (o_t : ob n t 10) (hf : fn_X10_wash t a1 M = some o) : CT E l yX10_wash cX10_wash 2 (some .int) 6 166 0 0 [.ref (eb E + t), i3 a1] n (zf n) M (some (i3 o.1)) n (zf n) o.2 := by
  refine CT_of PN_RX10 (Nat.le_of_ble_eq_true rfl) ?_
  intro p e s m args below meth c C hH ls hl
  replace C : Cx E p s m args meth c cX10_wash 2 RX10 (some .int) n "wash" := C
  have hl : lv_has ls 2 [(0, .ref (eb E + t)), (1, i3 a1)] := hl
  unfold fn_X10_wash at hf
  refine lv_aload_n C.hx C.hb dX10_wash_0 rfl (lv_at hl 0 rfl) ?_
  refine g_ref (off := 1) C hH o_t (by decide) rfl rfl FL_RX10_10 dX10_wash_1 ?_
  refine lv_iload_n C.hx C.hb dX10_wash_4 rfl (lv_at hl 1 rfl) ?_
  obtain ⟨x5, hc9, hf⟩ := cu_of hf
  refine r_callVi (rest := []) C hH hl (ly (i := 0) (off := 1) (k := 4) hn o_t rfl rfl rfl) (by decide) rfl (m_X4_isCoin hn (ly (i := 0) (off := 1) (k := 4) hn o_t rfl rfl rfl) hc9) ML_RX10_148 MF_X4_isCoin MI_X4_isCoin rfl rfl (Nat.le_of_ble_eq_true rfl) ⟨Nat.le_of_ble_eq_true rfl, Nat.le_of_ble_eq_true rfl⟩ ⟨Nat.le_refl _, Nat.le_refl _⟩ dX10_wash_5 (fun H locs hH => ?_)
  refine w_eq0 (tgt := 22) C hf dX10_wash_8 (by decide) (fun hf => ?_) (fun hf => ?_)
  · refine lv_iconst (v := Int32.ofInt (-1)) C.hx C.hb dX10_wash_22 rfl ?_
    cases hf
    exact w_iret C hH dX10_wash_23
  · refine lv_aload_n C.hx C.hb dX10_wash_11 rfl (lv_at hl 0 rfl) ?_
    refine g_ref (off := 1) C hH o_t (by decide) rfl rfl FL_RX10_10 dX10_wash_12 ?_
    refine lv_iload_n C.hx C.hb dX10_wash_15 rfl (lv_at hl 1 rfl) ?_
    obtain ⟨x16, M16, hc9, hf⟩ := cl_of hf
    refine r_callVi (rest := []) C hH hl (ly (i := 0) (off := 1) (k := 4) hn o_t rfl rfl rfl) (by decide) rfl (m_X4_cleanCoin hn (ly (i := 0) (off := 1) (k := 4) hn o_t rfl rfl rfl) hc9) ML_RX10_151 MF_X4_cleanCoin MI_X4_cleanCoin rfl rfl (Nat.le_of_ble_eq_true rfl) ⟨Nat.le_of_ble_eq_true rfl, Nat.le_of_ble_eq_true rfl⟩ ⟨Nat.le_refl _, Nat.le_refl _⟩ dX10_wash_16 (fun H locs hH => ?_)
    refine lv_goto (tgt := 23) C.hx C.hb dX10_wash_19 (by decide) ?_
    cases hf
    exact w_iret C hH dX10_wash_23
-- HeavierByHand.isDone
def fn_X10_isDone (t : Nat) (a1 : Int) (a2 : Int) (a3 : Int) (M : Mem) : Option (Int × Mem) :=
  ck (R3 a1) <| if a1 = 6 then (cl (fn_X10_pay t a2 a3 M) fun x31 M31 => cEq x31 (-1) (some (0, M31)) (some (1, M31))) else if a1 = 7 then (cl (fn_X10_wash t a2 M) fun x46 M46 => cEq x46 (-1) (some (0, M46)) (some (1, M46))) else if a1 = 8 then (cl (fn_X4_letPass (t + 1) a2 M) fun x64 M64 => ck (x64 = 0 ∨ x64 = 1) (some (x64, M64))) else some (1, M)
set_option maxRecDepth 100000 in
set_option maxHeartbeats 4000000 in
theorem m_X10_isDone {E : EE} {l : Launch} {n : Nat} {t : Nat} {a1 : Int} {a2 : Int} {a3 : Int} {M : Mem} {o : (Int × Mem)} (hn : nfull n) (o_t : ob n t 10) (hf : fn_X10_isDone t a1 a2 a3 M = some o) : CT E l yX10_isDone cX10_isDone 4 (some .boolean) 9 242 0 0 [.ref (eb E + t), i3 a1, i3 a2, i3 a3] n (zf n) M (some (i3 o.1)) n (zf n) o.2 := by
  refine CT_of PN_RX10 (Nat.le_of_ble_eq_true rfl) ?_
  intro p e s m args below meth c C hH ls hl
  replace C : Cx E p s m args meth c cX10_isDone 4 RX10 (some .boolean) n "isDone" := C
  have hl : lv_has ls 4 [(0, .ref (eb E + t)), (1, i3 a1), (2, i3 a2), (3, i3 a3)] := hl
  unfold fn_X10_isDone at hf
  refine lv_iload_n C.hx C.hb dX10_isDone_0 rfl (lv_at hl 1 rfl) ?_
  obtain ⟨hR9, hf⟩ := ck_of hf
  by_cases e0 : a1 = 6
  · rw [if_pos e0] at hf
    refine r_tab (tgt := 28) C e0 ⟨by decide, by decide⟩ dX10_isDone_1 (by decide) (by decide) rfl (by decide) ?_
    refine lv_aload_n C.hx C.hb dX10_isDone_28 rfl (lv_at hl 0 rfl) ?_
    refine lv_iload_n C.hx C.hb dX10_isDone_29 rfl (lv_at hl 2 rfl) ?_
    refine lv_iload_n C.hx C.hb dX10_isDone_30 rfl (lv_at hl 3 rfl) ?_
    obtain ⟨x31, M31, hc9, hf⟩ := cl_of hf
    refine r_callVi (rest := []) C hH hl o_t (by decide) rfl (m_X10_pay hn o_t hc9) ML_RX10_289 MF_X10_pay MI_X10_pay rfl rfl (Nat.le_of_ble_eq_true rfl) ⟨Nat.le_of_ble_eq_true rfl, Nat.le_of_ble_eq_true rfl⟩ ⟨Nat.le_refl _, Nat.le_refl _⟩ dX10_isDone_31 (fun H locs hH => ?_)
    refine lv_iconst (v := Int32.ofInt (-1)) C.hx C.hb dX10_isDone_34 rfl ?_
    refine w_eq (tgt := 42) C hf dX10_isDone_35 (by decide) (fun hf => ?_) (fun hf => ?_)
    · refine lv_iconst (v := Int32.ofInt 0) C.hx C.hb dX10_isDone_42 rfl ?_
      cases hf
      exact w_zret C hH (Or.inl rfl) dX10_isDone_43
    · refine lv_iconst (v := Int32.ofInt 1) C.hx C.hb dX10_isDone_38 rfl ?_
      refine lv_goto (tgt := 43) C.hx C.hb dX10_isDone_39 (by decide) ?_
      cases hf
      exact w_zret C hH (Or.inr rfl) dX10_isDone_43
  · rw [if_neg e0] at hf
    by_cases e1 : a1 = 7
    · rw [if_pos e1] at hf
      refine r_tab (tgt := 44) C e1 ⟨by decide, by decide⟩ dX10_isDone_1 (by decide) (by decide) rfl (by decide) ?_
      refine lv_aload_n C.hx C.hb dX10_isDone_44 rfl (lv_at hl 0 rfl) ?_
      refine lv_iload_n C.hx C.hb dX10_isDone_45 rfl (lv_at hl 2 rfl) ?_
      obtain ⟨x46, M46, hc9, hf⟩ := cl_of hf
      refine r_callVi (rest := []) C hH hl o_t (by decide) rfl (m_X10_wash hn o_t hc9) ML_RX10_292 MF_X10_wash MI_X10_wash rfl rfl (Nat.le_of_ble_eq_true rfl) ⟨Nat.le_of_ble_eq_true rfl, Nat.le_of_ble_eq_true rfl⟩ ⟨Nat.le_refl _, Nat.le_refl _⟩ dX10_isDone_46 (fun H locs hH => ?_)
      refine lv_iconst (v := Int32.ofInt (-1)) C.hx C.hb dX10_isDone_49 rfl ?_
      refine w_eq (tgt := 57) C hf dX10_isDone_50 (by decide) (fun hf => ?_) (fun hf => ?_)
      · refine lv_iconst (v := Int32.ofInt 0) C.hx C.hb dX10_isDone_57 rfl ?_
        cases hf
        exact w_zret C hH (Or.inl rfl) dX10_isDone_58
      · refine lv_iconst (v := Int32.ofInt 1) C.hx C.hb dX10_isDone_53 rfl ?_
        refine lv_goto (tgt := 58) C.hx C.hb dX10_isDone_54 (by decide) ?_
        cases hf
        exact w_zret C hH (Or.inr rfl) dX10_isDone_58
    · rw [if_neg e1] at hf
      by_cases e2 : a1 = 8
      · rw [if_pos e2] at hf
        refine r_tab (tgt := 59) C e2 ⟨by decide, by decide⟩ dX10_isDone_1 (by decide) (by decide) rfl (by decide) ?_
        refine lv_aload_n C.hx C.hb dX10_isDone_59 rfl (lv_at hl 0 rfl) ?_
        refine g_ref (off := 1) C hH o_t (by decide) rfl rfl FL_RX10_10 dX10_isDone_60 ?_
        refine lv_iload_n C.hx C.hb dX10_isDone_63 rfl (lv_at hl 2 rfl) ?_
        obtain ⟨x64, M64, hc9, hf⟩ := cl_of hf
        refine r_callVi (rest := []) C hH hl (ly (i := 0) (off := 1) (k := 4) hn o_t rfl rfl rfl) (by decide) rfl (m_X4_letPass hn (ly (i := 0) (off := 1) (k := 4) hn o_t rfl rfl rfl) hc9) ML_RX10_90 MF_X4_letPass MI_X4_letPass rfl rfl (Nat.le_of_ble_eq_true rfl) ⟨Nat.le_of_ble_eq_true rfl, Nat.le_of_ble_eq_true rfl⟩ ⟨Nat.le_refl _, Nat.le_refl _⟩ dX10_isDone_64 (fun H locs hH => ?_)
        obtain ⟨hB9, hf⟩ := ck_of hf
        cases hf
        exact w_zret C hH hB9 dX10_isDone_67
      · rw [if_neg e2] at hf
        refine r_tabO (tgt := 68) C hR9 dX10_isDone_1 (by omega) (by decide) ?_
        refine lv_iconst (v := Int32.ofInt 1) C.hx C.hb dX10_isDone_68 rfl ?_
        cases hf
        exact w_zret C hH (Or.inr rfl) dX10_isDone_69
-- HeavierByHand.played
def fn_X10_played_L30 (t : Nat) (q19 : Nat) (rec30 : Int → Mem → Option (Int × Mem)) (v3_30 : Int) (M30 : Mem) : Option (Int × Mem) :=
  cLt v3_30 (M30 q19 9) (cLt v3_30 20 (rd M30 (q19 + 2) 20 v3_30 fun x50 => rd M30 (q19 + 3) 20 v3_30 fun x56 => rd M30 (q19 + 4) 20 v3_30 fun x62 => cl (fn_X10_isDone t x50 x56 x62 M30) fun x63 M63 => cEq x63 0 (some (v3_30, M63)) (nm (v3_30 + 1) fun v3_71 => rec30 v3_71 M63)) (some ((-1), M30))) (some ((-1), M30))
def fn_X10_played (t : Nat) (a1 : Int) (M : Mem) : Option (Int × Mem) :=
  cu (fn_X4_isText (t + 1) a1 M) fun x5 => cEq x5 0 (some ((-2), M)) (rt (t + 42) a1 fun q19 => lq2 (fn_X10_played_L30 t q19) FU 0 M)
set_option maxRecDepth 100000 in
set_option maxHeartbeats 4000000 in
theorem l_X10_played_30 {p : Program} {l : Launch} {e : Env} {s : State} {m : MethodId} {args : Array Value} {below : List Frame} {meth : Method} {c : Code} {E : EE} {n : Nat} {o : (Int × Mem)} {t : Nat} {q19 : Nat} (C : Cx E p s m args meth c cX10_played 4 RX10 (some .int) n "played") (hn : nfull n) (o_t : ob n t 10) (o_q19 : ob n q19 7) : ∀ (k : Nat) (v3_30 : Int) (M30 : Mem) (H : Heap) (locs : List Loc) (ls : Array Slot), lq2 (fn_X10_played_L30 t q19) k v3_30 M30 = some o → ST E s n (zf n) M30 H locs → lv_has ls 4 [(0, .ref (eb E + t)), (2, .ref (eb E + q19)), (3, i3 v3_30)] → W p l e { frames := 10, cells := 0, slots := 0, locals := 265 } s m args below meth c H locs 0 0 (MQ below (QC E (some (i3 o.1)) n (zf n) o.2) args s 0 0 (fr E)) (F0 m 30 ls []) := by
  intro k
  induction k with
  | zero => intro v3_30 M30 H locs ls hf; cases hf
  | succ k ih =>
    intro v3_30 M30 H locs ls hf hH hl
    have h_rec30 : ∀ {v3_30 : Int} {M30 : Mem} {H : Heap} {locs : List Loc} {ls : Array Slot}, lq2 (fn_X10_played_L30 t q19) k v3_30 M30 = some o → ST E s n (zf n) M30 H locs → lv_has ls 4 [(0, .ref (eb E + t)), (2, .ref (eb E + q19)), (3, i3 v3_30)] → W p l e { frames := 10, cells := 0, slots := 0, locals := 265 } s m args below meth c H locs 0 0 (MQ below (QC E (some (i3 o.1)) n (zf n) o.2) args s 0 0 (fr E)) (F0 m 30 ls []) := fun {v3_30} {M30} {H} {locs} {ls} a b c => ih v3_30 M30 H locs ls a b c
    replace hf : fn_X10_played_L30 t q19 (lq2 (fn_X10_played_L30 t q19) k) v3_30 M30 = some o := hf
    generalize lq2 (fn_X10_played_L30 t q19) k = rec30 at hf h_rec30
    unfold fn_X10_played_L30 at hf
    refine lv_iload_n C.hx C.hb dX10_played_30 rfl (lv_at hl 2 rfl) ?_
    refine lv_aload_n C.hx C.hb dX10_played_31 rfl (lv_at hl 1 rfl) ?_
    refine g_int C hH o_q19 (by decide) rfl FL_RX10_154 dX10_played_32 ?_
    refine w_ge (tgt := 77) C hf dX10_played_35 (by decide) (fun hf => ?_) (fun hf => ?_)
    · refine lv_iconst (v := Int32.ofInt (-1)) C.hx C.hb dX10_played_77 rfl ?_
      cases hf
      exact w_iret C hH dX10_played_78
    · refine lv_iload_n C.hx C.hb dX10_played_38 rfl (lv_at hl 2 rfl) ?_
      refine lv_bipush (v := Int32.ofInt 20) C.hx C.hb dX10_played_39 (by decide) ?_
      refine w_ge (tgt := 77) C hf dX10_played_41 (by decide) (fun hf => ?_) (fun hf => ?_)
      · refine lv_iconst (v := Int32.ofInt (-1)) C.hx C.hb dX10_played_77 rfl ?_
        cases hf
        exact w_iret C hH dX10_played_78
      · refine lv_aload_n C.hx C.hb dX10_played_44 rfl (lv_at hl 0 rfl) ?_
        refine lv_aload_n C.hx C.hb dX10_played_45 rfl (lv_at hl 1 rfl) ?_
        refine g_ref (off := 2) C hH o_q19 (by decide) rfl rfl FL_RX10_157 dX10_played_46 ?_
        refine lv_iload_n C.hx C.hb dX10_played_49 rfl (lv_at hl 2 rfl) ?_
        refine r_iald C hH (ly (i := 6) (off := 2) (k := 12) hn o_q19 rfl rfl rfl) (lyn (i := 6) (off := 2) (N := 19) hn o_q19 rfl rfl rfl) hf dX10_played_50 (fun x50 hf => ?_)
        refine lv_aload_n C.hx C.hb dX10_played_51 rfl (lv_at hl 1 rfl) ?_
        refine g_ref (off := 3) C hH o_q19 (by decide) rfl rfl FL_RX10_161 dX10_played_52 ?_
        refine lv_iload_n C.hx C.hb dX10_played_55 rfl (lv_at hl 2 rfl) ?_
        refine r_iald C hH (ly (i := 7) (off := 3) (k := 12) hn o_q19 rfl rfl rfl) (lyn (i := 7) (off := 3) (N := 19) hn o_q19 rfl rfl rfl) hf dX10_played_56 (fun x56 hf => ?_)
        refine lv_aload_n C.hx C.hb dX10_played_57 rfl (lv_at hl 1 rfl) ?_
        refine g_ref (off := 4) C hH o_q19 (by decide) rfl rfl FL_RX10_164 dX10_played_58 ?_
        refine lv_iload_n C.hx C.hb dX10_played_61 rfl (lv_at hl 2 rfl) ?_
        refine r_iald C hH (ly (i := 8) (off := 4) (k := 12) hn o_q19 rfl rfl rfl) (lyn (i := 8) (off := 4) (N := 19) hn o_q19 rfl rfl rfl) hf dX10_played_62 (fun x62 hf => ?_)
        obtain ⟨x63, M63, hc9, hf⟩ := cl_of hf
        refine r_callVi (rest := []) C hH hl o_t (by decide) rfl (m_X10_isDone hn o_t hc9) ML_RX10_167 MF_X10_isDone MI_X10_isDone rfl rfl (Nat.le_of_ble_eq_true rfl) ⟨Nat.le_of_ble_eq_true rfl, Nat.le_of_ble_eq_true rfl⟩ ⟨Nat.le_refl _, Nat.le_refl _⟩ dX10_played_63 (fun H locs hH => ?_)
        refine w_ne0 (tgt := 71) C hf dX10_played_66 (by decide) (fun hf => ?_) (fun hf => ?_)
        · refine r_iinc (k := 2) (lv' := fun v => [(3, i3 v), (0, .ref (eb E + t)), (2, .ref (eb E + q19))]) C hf dX10_played_71 hl rfl (by decide) (fun _ => rfl) (fun v3_71 ls hf hl => ?_)
          refine lv_goto (tgt := 30) C.hx C.hb dX10_played_74 (by decide) ?_
          exact h_rec30 hf hH (lv_sub hl [1, 2, 0] rfl)
        · refine lv_iload_n C.hx C.hb dX10_played_69 rfl (lv_at hl 2 rfl) ?_
          cases hf
          exact w_iret C hH dX10_played_70
set_option maxRecDepth 100000 in
set_option maxHeartbeats 4000000 in
theorem m_X10_played {E : EE} {l : Launch} {n : Nat} {t : Nat} {a1 : Int} {M : Mem} {o : (Int × Mem)} (hn : nfull n) (o_t : ob n t 10) (hf : fn_X10_played t a1 M = some o) : CT E l yX10_played cX10_played 4 (some .int) 10 265 0 0 [.ref (eb E + t), i3 a1] n (zf n) M (some (i3 o.1)) n (zf n) o.2 := by
  refine CT_of PN_RX10 (Nat.le_of_ble_eq_true rfl) ?_
  intro p e s m args below meth c C hH ls hl
  replace C : Cx E p s m args meth c cX10_played 4 RX10 (some .int) n "played" := C
  have hl : lv_has ls 4 [(0, .ref (eb E + t)), (1, i3 a1)] := hl
  unfold fn_X10_played at hf
  refine lv_aload_n C.hx C.hb dX10_played_0 rfl (lv_at hl 0 rfl) ?_
  refine g_ref (off := 1) C hH o_t (by decide) rfl rfl FL_RX10_10 dX10_played_1 ?_
  refine lv_iload_n C.hx C.hb dX10_played_4 rfl (lv_at hl 1 rfl) ?_
  obtain ⟨x5, hc9, hf⟩ := cu_of hf
  refine r_callVi (rest := []) C hH hl (ly (i := 0) (off := 1) (k := 4) hn o_t rfl rfl rfl) (by decide) rfl (m_X4_isText hn (ly (i := 0) (off := 1) (k := 4) hn o_t rfl rfl rfl) hc9) ML_RX10_127 MF_X4_isText MI_X4_isText rfl rfl (Nat.le_of_ble_eq_true rfl) ⟨Nat.le_of_ble_eq_true rfl, Nat.le_of_ble_eq_true rfl⟩ ⟨Nat.le_refl _, Nat.le_refl _⟩ dX10_played_5 (fun H locs hH => ?_)
  refine w_ne0 (tgt := 14) C hf dX10_played_8 (by decide) (fun hf => ?_) (fun hf => ?_)
  · refine lv_aload_n C.hx C.hb dX10_played_14 rfl (lv_at hl 0 rfl) ?_
    refine g_ref (off := 42) C hH o_t (by decide) rfl rfl FL_RX10_35 dX10_played_15 ?_
    refine lv_iload_n C.hx C.hb dX10_played_18 rfl (lv_at hl 1 rfl) ?_
    refine r_txt C hn hH (ly (i := 4) (off := 42) (k := 16) hn o_t rfl rfl rfl) hf dX10_played_19 (fun q19 o_q19 hf => ?_)
    refine lv_astore_n (lv' := [(2, .ref (eb E + q19)), (0, .ref (eb E + t)), (1, i3 a1)]) C.hx C.hb dX10_played_20 rfl hl (by decide) rfl (fun ls hl => ?_)
    refine lv_aload_n C.hx C.hb dX10_played_21 rfl (lv_at hl 0 rfl) ?_
    refine lv_ifnonnull (tgt := 28) C.hx C.hb dX10_played_22 (by decide) ?_
    refine lv_iconst (v := Int32.ofInt 0) C.hx C.hb dX10_played_28 rfl ?_
    refine lv_istore_n (lv' := [(3, i3 0), (2, .ref (eb E + q19)), (0, .ref (eb E + t)), (1, i3 a1)]) C.hx C.hb dX10_played_29 rfl hl (by decide) rfl (fun ls hl => ?_)
    exact l_X10_played_30 C hn o_t o_q19 FU _ _ _ _ _ hf hH (lv_sub hl [2, 1, 0] rfl)
  · refine lv_bipush (v := Int32.ofInt (-2)) C.hx C.hb dX10_played_11 (by decide) ?_
    cases hf
    exact w_iret C hH dX10_played_13
-- HeavierByHand.undo
def fn_X10_undo (t : Nat) (M : Mem) : Option (Int × Mem) :=
  cl (fn_X4_takeBack (t + 1) M) fun x4 M4 => some (x4, M4)
set_option maxRecDepth 100000 in
set_option maxHeartbeats 4000000 in
theorem m_X10_undo {E : EE} {l : Launch} {n : Nat} {t : Nat} {M : Mem} {o : (Int × Mem)} (hn : nfull n) (o_t : ob n t 10) (hf : fn_X10_undo t M = some o) : CT E l yX10_undo cX10_undo 1 (some .int) 2 43 0 0 [.ref (eb E + t)] n (zf n) M (some (i3 o.1)) n (zf n) o.2 := by
  refine CT_of PN_RX10 (Nat.le_of_ble_eq_true rfl) ?_
  intro p e s m args below meth c C hH ls hl
  replace C : Cx E p s m args meth c cX10_undo 1 RX10 (some .int) n "undo" := C
  have hl : lv_has ls 1 [(0, .ref (eb E + t))] := hl
  unfold fn_X10_undo at hf
  refine lv_aload_n C.hx C.hb dX10_undo_0 rfl (lv_at hl 0 rfl) ?_
  refine g_ref (off := 1) C hH o_t (by decide) rfl rfl FL_RX10_10 dX10_undo_1 ?_
  obtain ⟨x4, M4, hc9, hf⟩ := cl_of hf
  refine r_callVi (rest := []) C hH hl (ly (i := 0) (off := 1) (k := 4) hn o_t rfl rfl rfl) (by decide) rfl (m_X4_takeBack hn (ly (i := 0) (off := 1) (k := 4) hn o_t rfl rfl rfl) hc9) ML_RX10_170 MF_X4_takeBack MI_X4_takeBack rfl rfl (Nat.le_of_ble_eq_true rfl) ⟨Nat.le_of_ble_eq_true rfl, Nat.le_of_ble_eq_true rfl⟩ ⟨Nat.le_refl _, Nat.le_refl _⟩ dX10_undo_4 (fun H locs hH => ?_)
  cases hf
  exact w_iret C hH dX10_undo_7
-- HeavierByHand.isRowQuestion
def fn_X10_isRowQuestion_J37 : Option Int :=
  some 0
def fn_X10_isRowQuestion (t : Nat) (a1 : Int) (a2 : Int) (a3 : Int) (a4 : Int) (M : Mem) : Option Int :=
  cu (fn_X4_isHand (t + 1) a1 M) fun x5 => cEq x5 0 (fn_X10_isRowQuestion_J37) (cu (fn_X10_isWithin a2 0 999 M) fun x16 => cEq x16 0 (fn_X10_isRowQuestion_J37) (cu (fn_X10_areLengths a3 a4 12 M) fun x27 => cEq x27 0 (fn_X10_isRowQuestion_J37) (some 1)))
set_option maxRecDepth 100000 in
set_option maxHeartbeats 4000000 in
theorem j_X10_isRowQuestion_37 {p : Program} {l : Launch} {e : Env} {s : State} {m : MethodId} {args : Array Value} {below : List Frame} {meth : Method} {c : Code} {E : EE} {n : Nat} {o : Int} {M : Mem} {H : Heap} {locs : List Loc} {ls : Array Slot} (C : Cx E p s m args meth c cX10_isRowQuestion 5 RX10 (some .boolean) n "isRowQuestion") (hn : nfull n) (hf : fn_X10_isRowQuestion_J37 = some o) (hH : ST E s n (zf n) M H locs) (hl : lv_has ls 5 []) : W p l e { frames := 1, cells := 0, slots := 0, locals := 22 } s m args below meth c H locs 0 0 (MQ below (QC E (some (i3 o)) n (zf n) M) args s 0 0 (fr E)) (F0 m 37 ls []) := by
  unfold fn_X10_isRowQuestion_J37 at hf
  refine lv_iconst (v := Int32.ofInt 0) C.hx C.hb dX10_isRowQuestion_37 rfl ?_
  cases hf
  exact w_zret C hH (Or.inl rfl) dX10_isRowQuestion_38
set_option maxRecDepth 100000 in
set_option maxHeartbeats 4000000 in
theorem m_X10_isRowQuestion {E : EE} {l : Launch} {n : Nat} {t : Nat} {a1 : Int} {a2 : Int} {a3 : Int} {a4 : Int} {M : Mem} {o : Int} (hn : nfull n) (o_t : ob n t 10) (hf : fn_X10_isRowQuestion t a1 a2 a3 a4 M = some o) : CT E l yX10_isRowQuestion cX10_isRowQuestion 5 (some .boolean) 1 22 0 0 [.ref (eb E + t), i3 a1, i3 a2, i3 a3, i3 a4] n (zf n) M (some (i3 o)) n (zf n) M := by
  refine CT_of PN_RX10 (Nat.le_of_ble_eq_true rfl) ?_
  intro p e s m args below meth c C hH ls hl
  replace C : Cx E p s m args meth c cX10_isRowQuestion 5 RX10 (some .boolean) n "isRowQuestion" := C
  have hl : lv_has ls 5 [(0, .ref (eb E + t)), (1, i3 a1), (2, i3 a2), (3, i3 a3), (4, i3 a4)] := hl
  unfold fn_X10_isRowQuestion at hf
  refine lv_aload_n C.hx C.hb dX10_isRowQuestion_0 rfl (lv_at hl 0 rfl) ?_
  refine g_ref (off := 1) C hH o_t (by decide) rfl rfl FL_RX10_10 dX10_isRowQuestion_1 ?_
  refine lv_iload_n C.hx C.hb dX10_isRowQuestion_4 rfl (lv_at hl 1 rfl) ?_
  obtain ⟨x5, hc9, hf⟩ := cu_of hf
  refine r_callVi (rest := []) C hH hl (ly (i := 0) (off := 1) (k := 4) hn o_t rfl rfl rfl) (by decide) rfl (m_X4_isHand hn (ly (i := 0) (off := 1) (k := 4) hn o_t rfl rfl rfl) hc9) ML_RX10_73 MF_X4_isHand MI_X4_isHand rfl rfl (Nat.le_of_ble_eq_true rfl) ⟨Nat.le_of_ble_eq_true rfl, Nat.le_of_ble_eq_true rfl⟩ ⟨Nat.le_refl _, Nat.le_refl _⟩ dX10_isRowQuestion_5 (fun H locs hH => ?_)
  refine w_eq0 (tgt := 37) C hf dX10_isRowQuestion_8 (by decide) (fun hf => ?_) (fun hf => ?_)
  · exact j_X10_isRowQuestion_37 C hn hf hH (lv_sub hl [] rfl)
  · refine lv_iload_n C.hx C.hb dX10_isRowQuestion_11 rfl (lv_at hl 2 rfl) ?_
    refine lv_iconst (v := Int32.ofInt 0) C.hx C.hb dX10_isRowQuestion_12 rfl ?_
    refine lv_sipush (v := Int32.ofInt 999) C.hx C.hb dX10_isRowQuestion_13 (by decide) ?_
    obtain ⟨x16, hc9, hf⟩ := cu_of hf
    refine r_callSi (rest := []) C hH hl (m_X10_isWithin hn hc9) ML_RX10_61 MF_X10_isWithin MS_X10_isWithin rfl rfl (Nat.le_of_ble_eq_true rfl) ⟨Nat.le_of_ble_eq_true rfl, Nat.le_of_ble_eq_true rfl⟩ ⟨Nat.le_refl _, Nat.le_refl _⟩ dX10_isRowQuestion_16 (fun H locs hH => ?_)
    refine w_eq0 (tgt := 37) C hf dX10_isRowQuestion_19 (by decide) (fun hf => ?_) (fun hf => ?_)
    · exact j_X10_isRowQuestion_37 C hn hf hH (lv_sub hl [] rfl)
    · refine lv_iload_n C.hx C.hb dX10_isRowQuestion_22 rfl (lv_at hl 3 rfl) ?_
      refine lv_iload C.hx C.hb dX10_isRowQuestion_23 (lv_at hl 4 rfl) ?_
      refine lv_bipush (v := Int32.ofInt 12) C.hx C.hb dX10_isRowQuestion_25 (by decide) ?_
      obtain ⟨x27, hc9, hf⟩ := cu_of hf
      refine r_callSi (rest := []) C hH hl (m_X10_areLengths hn hc9) ML_RX10_227 MF_X10_areLengths MS_X10_areLengths rfl rfl (Nat.le_of_ble_eq_true rfl) ⟨Nat.le_of_ble_eq_true rfl, Nat.le_of_ble_eq_true rfl⟩ ⟨Nat.le_refl _, Nat.le_refl _⟩ dX10_isRowQuestion_27 (fun H locs hH => ?_)
      refine w_eq0 (tgt := 37) C hf dX10_isRowQuestion_30 (by decide) (fun hf => ?_) (fun hf => ?_)
      · exact j_X10_isRowQuestion_37 C hn hf hH (lv_sub hl [] rfl)
      · refine lv_iconst (v := Int32.ofInt 1) C.hx C.hb dX10_isRowQuestion_33 rfl ?_
        refine lv_goto (tgt := 38) C.hx C.hb dX10_isRowQuestion_34 (by decide) ?_
        cases hf
        exact w_zret C hH (Or.inr rfl) dX10_isRowQuestion_38
-- HeavierByHand.purse
def fn_X10_purse (t : Nat) (a1 : Int) (a2 : Int) (M : Mem) : Option (Int × Mem) :=
  cEq a1 (-1) (st M (t + 1) 16 0 fun M10 => some (0, M10)) (cu (fn_X4_isHand (t + 1) a1 M) fun x20 => cEq x20 0 (some ((-1), M)) (cu (fn_X10_isWithin a2 0 999 M) fun x31 => cEq x31 0 (some ((-1), M)) (cLt (M (t + 1) 16) 4 (cl (fn_X4_addGain (t + 1) a1 a2 M) fun x56 M56 => some (x56, M56)) (some ((-1), M)))))
set_option maxRecDepth 100000 in
set_option maxHeartbeats 4000000 in
theorem m_X10_purse {E : EE} {l : Launch} {n : Nat} {t : Nat} {a1 : Int} {a2 : Int} {M : Mem} {o : (Int × Mem)} (hn : nfull n) (o_t : ob n t 10) (hf : fn_X10_purse t a1 a2 M = some o) : CT E l yX10_purse cX10_purse 3 (some .int) 1 22 0 0 [.ref (eb E + t), i3 a1, i3 a2] n (zf n) M (some (i3 o.1)) n (zf n) o.2 := by
  refine CT_of PN_RX10 (Nat.le_of_ble_eq_true rfl) ?_
  intro p e s m args below meth c C hH ls hl
  replace C : Cx E p s m args meth c cX10_purse 3 RX10 (some .int) n "purse" := C
  have hl : lv_has ls 3 [(0, .ref (eb E + t)), (1, i3 a1), (2, i3 a2)] := hl
  unfold fn_X10_purse at hf
  refine lv_iload_n C.hx C.hb dX10_purse_0 rfl (lv_at hl 1 rfl) ?_
  refine lv_iconst (v := Int32.ofInt (-1)) C.hx C.hb dX10_purse_1 rfl ?_
  refine w_ne (tgt := 15) C hf dX10_purse_2 (by decide) (fun hf => ?_) (fun hf => ?_)
  · refine lv_aload_n C.hx C.hb dX10_purse_15 rfl (lv_at hl 0 rfl) ?_
    refine g_ref (off := 1) C hH o_t (by decide) rfl rfl FL_RX10_10 dX10_purse_16 ?_
    refine lv_iload_n C.hx C.hb dX10_purse_19 rfl (lv_at hl 1 rfl) ?_
    obtain ⟨x20, hc9, hf⟩ := cu_of hf
    refine r_callVi (rest := []) C hH hl (ly (i := 0) (off := 1) (k := 4) hn o_t rfl rfl rfl) (by decide) rfl (m_X4_isHand hn (ly (i := 0) (off := 1) (k := 4) hn o_t rfl rfl rfl) hc9) ML_RX10_73 MF_X4_isHand MI_X4_isHand rfl rfl (Nat.le_of_ble_eq_true rfl) ⟨Nat.le_of_ble_eq_true rfl, Nat.le_of_ble_eq_true rfl⟩ ⟨Nat.le_refl _, Nat.le_refl _⟩ dX10_purse_20 (fun H locs hH => ?_)
    refine w_eq0 (tgt := 48) C hf dX10_purse_23 (by decide) (fun hf => ?_) (fun hf => ?_)
    · refine lv_iconst (v := Int32.ofInt (-1)) C.hx C.hb dX10_purse_48 rfl ?_
      cases hf
      exact w_iret C hH dX10_purse_49
    · refine lv_iload_n C.hx C.hb dX10_purse_26 rfl (lv_at hl 2 rfl) ?_
      refine lv_iconst (v := Int32.ofInt 0) C.hx C.hb dX10_purse_27 rfl ?_
      refine lv_sipush (v := Int32.ofInt 999) C.hx C.hb dX10_purse_28 (by decide) ?_
      obtain ⟨x31, hc9, hf⟩ := cu_of hf
      refine r_callSi (rest := []) C hH hl (m_X10_isWithin hn hc9) ML_RX10_61 MF_X10_isWithin MS_X10_isWithin rfl rfl (Nat.le_of_ble_eq_true rfl) ⟨Nat.le_of_ble_eq_true rfl, Nat.le_of_ble_eq_true rfl⟩ ⟨Nat.le_refl _, Nat.le_refl _⟩ dX10_purse_31 (fun H locs hH => ?_)
      refine w_eq0 (tgt := 48) C hf dX10_purse_34 (by decide) (fun hf => ?_) (fun hf => ?_)
      · refine lv_iconst (v := Int32.ofInt (-1)) C.hx C.hb dX10_purse_48 rfl ?_
        cases hf
        exact w_iret C hH dX10_purse_49
      · refine lv_aload_n C.hx C.hb dX10_purse_37 rfl (lv_at hl 0 rfl) ?_
        refine g_ref (off := 1) C hH o_t (by decide) rfl rfl FL_RX10_10 dX10_purse_38 ?_
        refine g_int C hH (ly (i := 0) (off := 1) (k := 4) hn o_t rfl rfl rfl) (by decide) rfl FL_RX10_221 dX10_purse_41 ?_
        refine lv_iconst (v := Int32.ofInt 4) C.hx C.hb dX10_purse_44 rfl ?_
        refine w_lt (tgt := 50) C hf dX10_purse_45 (by decide) (fun hf => ?_) (fun hf => ?_)
        · refine lv_aload_n C.hx C.hb dX10_purse_50 rfl (lv_at hl 0 rfl) ?_
          refine g_ref (off := 1) C hH o_t (by decide) rfl rfl FL_RX10_10 dX10_purse_51 ?_
          refine lv_iload_n C.hx C.hb dX10_purse_54 rfl (lv_at hl 1 rfl) ?_
          refine lv_iload_n C.hx C.hb dX10_purse_55 rfl (lv_at hl 2 rfl) ?_
          obtain ⟨x56, M56, hc9, hf⟩ := cl_of hf
          refine r_callVi (rest := []) C hH hl (ly (i := 0) (off := 1) (k := 4) hn o_t rfl rfl rfl) (by decide) rfl (m_X4_addGain hn (ly (i := 0) (off := 1) (k := 4) hn o_t rfl rfl rfl) hc9) ML_RX10_224 MF_X4_addGain MI_X4_addGain rfl rfl (Nat.le_of_ble_eq_true rfl) ⟨Nat.le_of_ble_eq_true rfl, Nat.le_of_ble_eq_true rfl⟩ ⟨Nat.le_refl _, Nat.le_refl _⟩ dX10_purse_56 (fun H locs hH => ?_)
          cases hf
          exact w_iret C hH dX10_purse_59
        · refine lv_iconst (v := Int32.ofInt (-1)) C.hx C.hb dX10_purse_48 rfl ?_
          cases hf
          exact w_iret C hH dX10_purse_49
  · refine lv_aload_n C.hx C.hb dX10_purse_5 rfl (lv_at hl 0 rfl) ?_
    refine g_ref (off := 1) C hH o_t (by decide) rfl rfl FL_RX10_10 dX10_purse_6 ?_
    refine lv_iconst (v := Int32.ofInt 0) C.hx C.hb dX10_purse_9 rfl ?_
    refine r_put C hH (ly (i := 0) (off := 1) (k := 4) hn o_t rfl rfl rfl) (by decide) rfl FL_RX10_221 FW_4_16 hf dX10_purse_10 (fun M10 H locs hf hH => ?_)
    refine lv_iconst (v := Int32.ofInt 0) C.hx C.hb dX10_purse_13 rfl ?_
    cases hf
    exact w_iret C hH dX10_purse_14
-- HeavierByHand.chosen
def fn_X10_chosen (t : Nat) (a1 : Int) (a2 : Int) (a3 : Int) (M : Mem) : Option Int :=
  cu (fn_X10_isWithin a1 2 5 M) fun x3 => cEq x3 0 (some (-1)) (cu (fn_X10_isWithin a2 1 3 M) fun x12 => cEq x12 0 (some (-1)) (cu (fn_X10_isWithin a3 0 (a1 - 1) M) fun x23 => cEq x23 0 (some (-1)) (nm (((((((a1 - 2) * 3) + a2) - 1) * 5) + a3)) fun v4_44 => cLt v4_44 0 (some (-1)) (cLt v4_44 60 (ck ((0 : Int) ≤ v4_44 ∧ v4_44 < 60) <| some (chL.getD v4_44.toNat 0)) (some (-1))))))
set_option maxRecDepth 100000 in
set_option maxHeartbeats 4000000 in
theorem m_X10_chosen {E : EE} {l : Launch} {n : Nat} {t : Nat} {a1 : Int} {a2 : Int} {a3 : Int} {M : Mem} {o : Int} (hn : nfull n) (o_t : ob n t 10) (hf : fn_X10_chosen t a1 a2 a3 M = some o) : CT E l yX10_chosen cX10_chosen 5 (some .int) 1 22 0 0 [.ref (eb E + t), i3 a1, i3 a2, i3 a3] n (zf n) M (some (i3 o)) n (zf n) M := by
  refine CT_of PN_RX10 (Nat.le_of_ble_eq_true rfl) ?_
  intro p e s m args below meth c C hH ls hl
  replace C : Cx E p s m args meth c cX10_chosen 5 RX10 (some .int) n "chosen" := C
  have hl : lv_has ls 5 [(0, .ref (eb E + t)), (1, i3 a1), (2, i3 a2), (3, i3 a3)] := hl
  unfold fn_X10_chosen at hf
  refine lv_iload_n C.hx C.hb dX10_chosen_0 rfl (lv_at hl 1 rfl) ?_
  refine lv_iconst (v := Int32.ofInt 2) C.hx C.hb dX10_chosen_1 rfl ?_
  refine lv_iconst (v := Int32.ofInt 5) C.hx C.hb dX10_chosen_2 rfl ?_
  obtain ⟨x3, hc9, hf⟩ := cu_of hf
  refine r_callSi (rest := []) C hH hl (m_X10_isWithin hn hc9) ML_RX10_61 MF_X10_isWithin MS_X10_isWithin rfl rfl (Nat.le_of_ble_eq_true rfl) ⟨Nat.le_of_ble_eq_true rfl, Nat.le_of_ble_eq_true rfl⟩ ⟨Nat.le_refl _, Nat.le_refl _⟩ dX10_chosen_3 (fun H locs hH => ?_)
  refine w_eq0 (tgt := 29) C hf dX10_chosen_6 (by decide) (fun hf => ?_) (fun hf => ?_)
  · refine lv_iconst (v := Int32.ofInt (-1)) C.hx C.hb dX10_chosen_29 rfl ?_
    cases hf
    exact w_iret C hH dX10_chosen_30
  · refine lv_iload_n C.hx C.hb dX10_chosen_9 rfl (lv_at hl 2 rfl) ?_
    refine lv_iconst (v := Int32.ofInt 1) C.hx C.hb dX10_chosen_10 rfl ?_
    refine lv_iconst (v := Int32.ofInt 3) C.hx C.hb dX10_chosen_11 rfl ?_
    obtain ⟨x12, hc9, hf⟩ := cu_of hf
    refine r_callSi (rest := []) C hH hl (m_X10_isWithin hn hc9) ML_RX10_61 MF_X10_isWithin MS_X10_isWithin rfl rfl (Nat.le_of_ble_eq_true rfl) ⟨Nat.le_of_ble_eq_true rfl, Nat.le_of_ble_eq_true rfl⟩ ⟨Nat.le_refl _, Nat.le_refl _⟩ dX10_chosen_12 (fun H locs hH => ?_)
    refine w_eq0 (tgt := 29) C hf dX10_chosen_15 (by decide) (fun hf => ?_) (fun hf => ?_)
    · refine lv_iconst (v := Int32.ofInt (-1)) C.hx C.hb dX10_chosen_29 rfl ?_
      cases hf
      exact w_iret C hH dX10_chosen_30
    · refine lv_iload_n C.hx C.hb dX10_chosen_18 rfl (lv_at hl 3 rfl) ?_
      refine lv_iconst (v := Int32.ofInt 0) C.hx C.hb dX10_chosen_19 rfl ?_
      refine lv_iload_n C.hx C.hb dX10_chosen_20 rfl (lv_at hl 1 rfl) ?_
      refine lv_iconst (v := Int32.ofInt 1) C.hx C.hb dX10_chosen_21 rfl ?_
      refine w_isub C dX10_chosen_22 ?_
      obtain ⟨x23, hc9, hf⟩ := cu_of hf
      refine r_callSi (rest := []) C hH hl (m_X10_isWithin hn hc9) ML_RX10_61 MF_X10_isWithin MS_X10_isWithin rfl rfl (Nat.le_of_ble_eq_true rfl) ⟨Nat.le_of_ble_eq_true rfl, Nat.le_of_ble_eq_true rfl⟩ ⟨Nat.le_refl _, Nat.le_refl _⟩ dX10_chosen_23 (fun H locs hH => ?_)
      refine w_ne0 (tgt := 31) C hf dX10_chosen_26 (by decide) (fun hf => ?_) (fun hf => ?_)
      · refine lv_iload_n C.hx C.hb dX10_chosen_31 rfl (lv_at hl 1 rfl) ?_
        refine lv_iconst (v := Int32.ofInt 2) C.hx C.hb dX10_chosen_32 rfl ?_
        refine w_isub C dX10_chosen_33 ?_
        refine lv_iconst (v := Int32.ofInt 3) C.hx C.hb dX10_chosen_34 rfl ?_
        refine w_imul C dX10_chosen_35 ?_
        refine lv_iload_n C.hx C.hb dX10_chosen_36 rfl (lv_at hl 2 rfl) ?_
        refine w_iadd C dX10_chosen_37 ?_
        refine lv_iconst (v := Int32.ofInt 1) C.hx C.hb dX10_chosen_38 rfl ?_
        refine w_isub C dX10_chosen_39 ?_
        refine lv_iconst (v := Int32.ofInt 5) C.hx C.hb dX10_chosen_40 rfl ?_
        refine w_imul C dX10_chosen_41 ?_
        refine lv_iload_n C.hx C.hb dX10_chosen_42 rfl (lv_at hl 3 rfl) ?_
        refine w_iadd C dX10_chosen_43 ?_
        refine r_nm hf (fun v4_44 hf => ?_)
        refine lv_istore (lv' := [(4, i3 v4_44), (0, .ref (eb E + t)), (1, i3 a1), (2, i3 a2), (3, i3 a3)]) C.hx C.hb dX10_chosen_44 hl (by decide) rfl (fun ls hl => ?_)
        refine lv_iload C.hx C.hb dX10_chosen_46 (lv_at hl 0 rfl) ?_
        refine w_lt0 (tgt := 60) C hf dX10_chosen_48 (by decide) (fun hf => ?_) (fun hf => ?_)
        · refine lv_iconst (v := Int32.ofInt (-1)) C.hx C.hb dX10_chosen_60 rfl ?_
          cases hf
          exact w_iret C hH dX10_chosen_61
        · refine lv_iload C.hx C.hb dX10_chosen_51 (lv_at hl 0 rfl) ?_
          refine r_chs C hH dX10_chosen_53 ?_
          refine r_chn C hH dX10_chosen_56 ?_
          refine w_lt (tgt := 62) C hf dX10_chosen_57 (by decide) (fun hf => ?_) (fun hf => ?_)
          · refine r_chs C hH dX10_chosen_62 ?_
            refine lv_iload C.hx C.hb dX10_chosen_65 (lv_at hl 0 rfl) ?_
            obtain ⟨hR8, hf⟩ := ck_of hf
            refine r_chl C hH hR8 dX10_chosen_67 ?_
            cases hf
            exact w_iret C hH dX10_chosen_68
          · refine lv_iconst (v := Int32.ofInt (-1)) C.hx C.hb dX10_chosen_60 rfl ?_
            cases hf
            exact w_iret C hH dX10_chosen_61
      · refine lv_iconst (v := Int32.ofInt (-1)) C.hx C.hb dX10_chosen_29 rfl ?_
        cases hf
        exact w_iret C hH dX10_chosen_30
-- HeavierByHand.tray
def fn_X10_tray (t : Nat) (a1 : Int) (a2 : Int) (M : Mem) : Option (Int × Mem) :=
  cu (fn_X4_isCoin (t + 1) a1 M) fun x5 => cEq x5 0 (some (0, M)) (cu (fn_X10_isWithin a2 (-1) 5 M) fun x14 => cEq x14 0 (some (0, M)) (wr M ((t + 1) + 6) 20 a1 a2 fun M31 => some (1, M31)))
set_option maxRecDepth 100000 in
set_option maxHeartbeats 4000000 in
theorem m_X10_tray {E : EE} {l : Launch} {n : Nat} {t : Nat} {a1 : Int} {a2 : Int} {M : Mem} {o : (Int × Mem)} (hn : nfull n) (o_t : ob n t 10) (hf : fn_X10_tray t a1 a2 M = some o) : CT E l yX10_tray cX10_tray 3 (some .boolean) 1 22 0 0 [.ref (eb E + t), i3 a1, i3 a2] n (zf n) M (some (i3 o.1)) n (zf n) o.2 := by
  refine CT_of PN_RX10 (Nat.le_of_ble_eq_true rfl) ?_
  intro p e s m args below meth c C hH ls hl
  replace C : Cx E p s m args meth c cX10_tray 3 RX10 (some .boolean) n "tray" := C
  have hl : lv_has ls 3 [(0, .ref (eb E + t)), (1, i3 a1), (2, i3 a2)] := hl
  unfold fn_X10_tray at hf
  refine lv_aload_n C.hx C.hb dX10_tray_0 rfl (lv_at hl 0 rfl) ?_
  refine g_ref (off := 1) C hH o_t (by decide) rfl rfl FL_RX10_10 dX10_tray_1 ?_
  refine lv_iload_n C.hx C.hb dX10_tray_4 rfl (lv_at hl 1 rfl) ?_
  obtain ⟨x5, hc9, hf⟩ := cu_of hf
  refine r_callVi (rest := []) C hH hl (ly (i := 0) (off := 1) (k := 4) hn o_t rfl rfl rfl) (by decide) rfl (m_X4_isCoin hn (ly (i := 0) (off := 1) (k := 4) hn o_t rfl rfl rfl) hc9) ML_RX10_148 MF_X4_isCoin MI_X4_isCoin rfl rfl (Nat.le_of_ble_eq_true rfl) ⟨Nat.le_of_ble_eq_true rfl, Nat.le_of_ble_eq_true rfl⟩ ⟨Nat.le_refl _, Nat.le_refl _⟩ dX10_tray_5 (fun H locs hH => ?_)
  refine w_eq0 (tgt := 20) C hf dX10_tray_8 (by decide) (fun hf => ?_) (fun hf => ?_)
  · refine lv_iconst (v := Int32.ofInt 0) C.hx C.hb dX10_tray_20 rfl ?_
    cases hf
    exact w_zret C hH (Or.inl rfl) dX10_tray_21
  · refine lv_iload_n C.hx C.hb dX10_tray_11 rfl (lv_at hl 2 rfl) ?_
    refine lv_iconst (v := Int32.ofInt (-1)) C.hx C.hb dX10_tray_12 rfl ?_
    refine lv_iconst (v := Int32.ofInt 5) C.hx C.hb dX10_tray_13 rfl ?_
    obtain ⟨x14, hc9, hf⟩ := cu_of hf
    refine r_callSi (rest := []) C hH hl (m_X10_isWithin hn hc9) ML_RX10_61 MF_X10_isWithin MS_X10_isWithin rfl rfl (Nat.le_of_ble_eq_true rfl) ⟨Nat.le_of_ble_eq_true rfl, Nat.le_of_ble_eq_true rfl⟩ ⟨Nat.le_refl _, Nat.le_refl _⟩ dX10_tray_14 (fun H locs hH => ?_)
    refine w_ne0 (tgt := 22) C hf dX10_tray_17 (by decide) (fun hf => ?_) (fun hf => ?_)
    · refine lv_aload_n C.hx C.hb dX10_tray_22 rfl (lv_at hl 0 rfl) ?_
      refine g_ref (off := 1) C hH o_t (by decide) rfl rfl FL_RX10_10 dX10_tray_23 ?_
      refine g_ref (off := 6) C hH (ly (i := 0) (off := 1) (k := 4) hn o_t rfl rfl rfl) (by decide) rfl rfl FL_RX10_186 dX10_tray_26 ?_
      refine lv_iload_n C.hx C.hb dX10_tray_29 rfl (lv_at hl 1 rfl) ?_
      refine lv_iload_n C.hx C.hb dX10_tray_30 rfl (lv_at hl 2 rfl) ?_
      refine r_iast C hH (ly (i := 6) (off := 6) (k := 12) hn (ly (i := 0) (off := 1) (k := 4) hn o_t rfl rfl rfl) rfl rfl rfl) (lyn (i := 6) (off := 6) (N := 19) hn (ly (i := 0) (off := 1) (k := 4) hn o_t rfl rfl rfl) rfl rfl rfl) hf dX10_tray_31 (fun M31 H locs hf hH => ?_)
      refine lv_iconst (v := Int32.ofInt 1) C.hx C.hb dX10_tray_32 rfl ?_
      cases hf
      exact w_zret C hH (Or.inr rfl) dX10_tray_33
    · refine lv_iconst (v := Int32.ofInt 0) C.hx C.hb dX10_tray_20 rfl ?_
      cases hf
      exact w_zret C hH (Or.inl rfl) dX10_tray_21
-- HeavierByHand.sorted
def fn_X10_sorted (t : Nat) (a1 : Int) (a2 : Int) (M : Mem) : Option (Int × Mem) :=
  cu (fn_X10_isWithin a1 2 6 M) fun x4 => cEq x4 0 (some ((-1), M)) (cu (fn_X10_isWithin a2 0 (a1 - 1) M) fun x15 => cEq x15 0 (some ((-1), M)) (cl (fn_X9_arrange (t + 65) (t + 1) a1 M) fun x32 M32 => cEq a2 0 (some (x32, M32)) (rd M32 ((t + 65) + 1) 6 a2 fun x52 => some (x52, M32))))
set_option maxRecDepth 100000 in
set_option maxHeartbeats 4000000 in
theorem m_X10_sorted {E : EE} {l : Launch} {n : Nat} {t : Nat} {a1 : Int} {a2 : Int} {M : Mem} {o : (Int × Mem)} (hn : nfull n) (o_t : ob n t 10) (hf : fn_X10_sorted t a1 a2 M = some o) : CT E l yX10_sorted cX10_sorted 4 (some .int) 8 216 0 0 [.ref (eb E + t), i3 a1, i3 a2] n (zf n) M (some (i3 o.1)) n (zf n) o.2 := by
  refine CT_of PN_RX10 (Nat.le_of_ble_eq_true rfl) ?_
  intro p e s m args below meth c C hH ls hl
  replace C : Cx E p s m args meth c cX10_sorted 4 RX10 (some .int) n "sorted" := C
  have hl : lv_has ls 4 [(0, .ref (eb E + t)), (1, i3 a1), (2, i3 a2)] := hl
  unfold fn_X10_sorted at hf
  refine lv_iload_n C.hx C.hb dX10_sorted_0 rfl (lv_at hl 1 rfl) ?_
  refine lv_iconst (v := Int32.ofInt 2) C.hx C.hb dX10_sorted_1 rfl ?_
  refine lv_bipush (v := Int32.ofInt 6) C.hx C.hb dX10_sorted_2 (by decide) ?_
  obtain ⟨x4, hc9, hf⟩ := cu_of hf
  refine r_callSi (rest := []) C hH hl (m_X10_isWithin hn hc9) ML_RX10_61 MF_X10_isWithin MS_X10_isWithin rfl rfl (Nat.le_of_ble_eq_true rfl) ⟨Nat.le_of_ble_eq_true rfl, Nat.le_of_ble_eq_true rfl⟩ ⟨Nat.le_refl _, Nat.le_refl _⟩ dX10_sorted_4 (fun H locs hH => ?_)
  refine w_eq0 (tgt := 21) C hf dX10_sorted_7 (by decide) (fun hf => ?_) (fun hf => ?_)
  · refine lv_iconst (v := Int32.ofInt (-1)) C.hx C.hb dX10_sorted_21 rfl ?_
    cases hf
    exact w_iret C hH dX10_sorted_22
  · refine lv_iload_n C.hx C.hb dX10_sorted_10 rfl (lv_at hl 2 rfl) ?_
    refine lv_iconst (v := Int32.ofInt 0) C.hx C.hb dX10_sorted_11 rfl ?_
    refine lv_iload_n C.hx C.hb dX10_sorted_12 rfl (lv_at hl 1 rfl) ?_
    refine lv_iconst (v := Int32.ofInt 1) C.hx C.hb dX10_sorted_13 rfl ?_
    refine w_isub C dX10_sorted_14 ?_
    obtain ⟨x15, hc9, hf⟩ := cu_of hf
    refine r_callSi (rest := []) C hH hl (m_X10_isWithin hn hc9) ML_RX10_61 MF_X10_isWithin MS_X10_isWithin rfl rfl (Nat.le_of_ble_eq_true rfl) ⟨Nat.le_of_ble_eq_true rfl, Nat.le_of_ble_eq_true rfl⟩ ⟨Nat.le_refl _, Nat.le_refl _⟩ dX10_sorted_15 (fun H locs hH => ?_)
    refine w_ne0 (tgt := 23) C hf dX10_sorted_18 (by decide) (fun hf => ?_) (fun hf => ?_)
    · refine lv_aload_n C.hx C.hb dX10_sorted_23 rfl (lv_at hl 0 rfl) ?_
      refine g_ref (off := 65) C hH o_t (by decide) rfl rfl FL_RX10_50 dX10_sorted_24 ?_
      refine lv_aload_n C.hx C.hb dX10_sorted_27 rfl (lv_at hl 0 rfl) ?_
      refine g_ref (off := 1) C hH o_t (by decide) rfl rfl FL_RX10_10 dX10_sorted_28 ?_
      refine lv_iload_n C.hx C.hb dX10_sorted_31 rfl (lv_at hl 1 rfl) ?_
      obtain ⟨x32, M32, hc9, hf⟩ := cl_of hf
      refine r_callVi (rest := []) C hH hl (ly (i := 6) (off := 65) (k := 9) hn o_t rfl rfl rfl) (by decide) rfl (m_X9_arrange hn (ly (i := 6) (off := 65) (k := 9) hn o_t rfl rfl rfl) (ly (i := 0) (off := 1) (k := 4) hn o_t rfl rfl rfl) hc9) ML_RX10_250 MF_X9_arrange MI_X9_arrange rfl rfl (Nat.le_of_ble_eq_true rfl) ⟨Nat.le_of_ble_eq_true rfl, Nat.le_of_ble_eq_true rfl⟩ ⟨Nat.le_refl _, Nat.le_refl _⟩ dX10_sorted_32 (fun H locs hH => ?_)
      refine lv_istore_n (lv' := [(3, i3 x32), (0, .ref (eb E + t)), (1, i3 a1), (2, i3 a2)]) C.hx C.hb dX10_sorted_35 rfl hl (by decide) rfl (fun ls hl => ?_)
      refine lv_iload_n C.hx C.hb dX10_sorted_36 rfl (lv_at hl 3 rfl) ?_
      refine w_ne0 (tgt := 44) C hf dX10_sorted_37 (by decide) (fun hf => ?_) (fun hf => ?_)
      · refine lv_aload_n C.hx C.hb dX10_sorted_44 rfl (lv_at hl 1 rfl) ?_
        refine g_ref (off := 65) C hH o_t (by decide) rfl rfl FL_RX10_50 dX10_sorted_45 ?_
        refine g_ref (off := 1) C hH (ly (i := 6) (off := 65) (k := 9) hn o_t rfl rfl rfl) (by decide) rfl rfl FL_RX10_254 dX10_sorted_48 ?_
        refine lv_iload_n C.hx C.hb dX10_sorted_51 rfl (lv_at hl 3 rfl) ?_
        refine r_iald C hH (ly (i := 0) (off := 1) (k := 12) hn (ly (i := 6) (off := 65) (k := 9) hn o_t rfl rfl rfl) rfl rfl rfl) (lyn (i := 0) (off := 1) (N := 5) hn (ly (i := 6) (off := 65) (k := 9) hn o_t rfl rfl rfl) rfl rfl rfl) hf dX10_sorted_52 (fun x52 hf => ?_)
        cases hf
        exact w_iret C hH dX10_sorted_53
      · refine lv_iload_n C.hx C.hb dX10_sorted_40 rfl (lv_at hl 0 rfl) ?_
        refine lv_goto (tgt := 53) C.hx C.hb dX10_sorted_41 (by decide) ?_
        cases hf
        exact w_iret C hH dX10_sorted_53
    · refine lv_iconst (v := Int32.ofInt (-1)) C.hx C.hb dX10_sorted_21 rfl ?_
      cases hf
      exact w_iret C hH dX10_sorted_22
-- HeavierByHand.read
def fn_X10_read (t : Nat) (a1 : Int) (a2 : Int) (M : Mem) : Option (Int × Mem) :=
  cu (fn_X4_isCoin (t + 1) a1 M) fun x5 => cEq x5 0 (some ((-100), M)) (cu (fn_X10_isWithin a2 0 9999 M) fun x16 => cEq x16 0 (some ((-100), M)) (cv (fn_X0_start (t + 70) a2 M) fun M30 => rd M30 ((t + 1) + 3) 20 a1 fun x41 => cl (fn_X0_draw (t + 70) ((2 * (M30 (t + 1) 10)) + 1) M30) fun x65 M65 => some (((x41 - (M30 (t + 1) 10)) + x65), M65)))
set_option maxRecDepth 100000 in
set_option maxHeartbeats 4000000 in
theorem m_X10_read {E : EE} {l : Launch} {n : Nat} {t : Nat} {a1 : Int} {a2 : Int} {M : Mem} {o : (Int × Mem)} (hn : nfull n) (o_t : ob n t 10) (hf : fn_X10_read t a1 a2 M = some o) : CT E l yX10_read cX10_read 3 (some .int) 1 22 0 0 [.ref (eb E + t), i3 a1, i3 a2] n (zf n) M (some (i3 o.1)) n (zf n) o.2 := by
  refine CT_of PN_RX10 (Nat.le_of_ble_eq_true rfl) ?_
  intro p e s m args below meth c C hH ls hl
  replace C : Cx E p s m args meth c cX10_read 3 RX10 (some .int) n "read" := C
  have hl : lv_has ls 3 [(0, .ref (eb E + t)), (1, i3 a1), (2, i3 a2)] := hl
  unfold fn_X10_read at hf
  refine lv_aload_n C.hx C.hb dX10_read_0 rfl (lv_at hl 0 rfl) ?_
  refine g_ref (off := 1) C hH o_t (by decide) rfl rfl FL_RX10_10 dX10_read_1 ?_
  refine lv_iload_n C.hx C.hb dX10_read_4 rfl (lv_at hl 1 rfl) ?_
  obtain ⟨x5, hc9, hf⟩ := cu_of hf
  refine r_callVi (rest := []) C hH hl (ly (i := 0) (off := 1) (k := 4) hn o_t rfl rfl rfl) (by decide) rfl (m_X4_isCoin hn (ly (i := 0) (off := 1) (k := 4) hn o_t rfl rfl rfl) hc9) ML_RX10_148 MF_X4_isCoin MI_X4_isCoin rfl rfl (Nat.le_of_ble_eq_true rfl) ⟨Nat.le_of_ble_eq_true rfl, Nat.le_of_ble_eq_true rfl⟩ ⟨Nat.le_refl _, Nat.le_refl _⟩ dX10_read_5 (fun H locs hH => ?_)
  refine w_eq0 (tgt := 22) C hf dX10_read_8 (by decide) (fun hf => ?_) (fun hf => ?_)
  · refine lv_bipush (v := Int32.ofInt (-100)) C.hx C.hb dX10_read_22 (by decide) ?_
    cases hf
    exact w_iret C hH dX10_read_24
  · refine lv_iload_n C.hx C.hb dX10_read_11 rfl (lv_at hl 2 rfl) ?_
    refine lv_iconst (v := Int32.ofInt 0) C.hx C.hb dX10_read_12 rfl ?_
    refine lv_sipush (v := Int32.ofInt 9999) C.hx C.hb dX10_read_13 (by decide) ?_
    obtain ⟨x16, hc9, hf⟩ := cu_of hf
    refine r_callSi (rest := []) C hH hl (m_X10_isWithin hn hc9) ML_RX10_61 MF_X10_isWithin MS_X10_isWithin rfl rfl (Nat.le_of_ble_eq_true rfl) ⟨Nat.le_of_ble_eq_true rfl, Nat.le_of_ble_eq_true rfl⟩ ⟨Nat.le_refl _, Nat.le_refl _⟩ dX10_read_16 (fun H locs hH => ?_)
    refine w_ne0 (tgt := 25) C hf dX10_read_19 (by decide) (fun hf => ?_) (fun hf => ?_)
    · refine lv_aload_n C.hx C.hb dX10_read_25 rfl (lv_at hl 0 rfl) ?_
      refine g_ref (off := 70) C hH o_t (by decide) rfl rfl FL_RX10_57 dX10_read_26 ?_
      refine lv_iload_n C.hx C.hb dX10_read_29 rfl (lv_at hl 2 rfl) ?_
      obtain ⟨M30, hc9, hf⟩ := cv_of hf
      refine r_callVv (rest := []) C hH hl (ly (i := 7) (off := 70) (k := 0) hn o_t rfl rfl rfl) (by decide) rfl (m_X0_start hn (ly (i := 7) (off := 70) (k := 0) hn o_t rfl rfl rfl) hc9) ML_RX10_257 MF_X0_start MI_X0_start rfl rfl (Nat.le_of_ble_eq_true rfl) ⟨Nat.le_of_ble_eq_true rfl, Nat.le_of_ble_eq_true rfl⟩ ⟨Nat.le_refl _, Nat.le_refl _⟩ dX10_read_30 (fun H locs hH => ?_)
      refine lv_aload_n C.hx C.hb dX10_read_33 rfl (lv_at hl 0 rfl) ?_
      refine g_ref (off := 1) C hH o_t (by decide) rfl rfl FL_RX10_10 dX10_read_34 ?_
      refine g_ref (off := 3) C hH (ly (i := 0) (off := 1) (k := 4) hn o_t rfl rfl rfl) (by decide) rfl rfl FL_RX10_174 dX10_read_37 ?_
      refine lv_iload_n C.hx C.hb dX10_read_40 rfl (lv_at hl 1 rfl) ?_
      refine r_iald C hH (ly (i := 3) (off := 3) (k := 12) hn (ly (i := 0) (off := 1) (k := 4) hn o_t rfl rfl rfl) rfl rfl rfl) (lyn (i := 3) (off := 3) (N := 19) hn (ly (i := 0) (off := 1) (k := 4) hn o_t rfl rfl rfl) rfl rfl rfl) hf dX10_read_41 (fun x41 hf => ?_)
      refine lv_aload_n C.hx C.hb dX10_read_42 rfl (lv_at hl 0 rfl) ?_
      refine g_ref (off := 1) C hH o_t (by decide) rfl rfl FL_RX10_10 dX10_read_43 ?_
      refine g_int C hH (ly (i := 0) (off := 1) (k := 4) hn o_t rfl rfl rfl) (by decide) rfl FL_RX10_87 dX10_read_46 ?_
      refine w_isub C dX10_read_49 ?_
      refine lv_aload_n C.hx C.hb dX10_read_50 rfl (lv_at hl 0 rfl) ?_
      refine g_ref (off := 70) C hH o_t (by decide) rfl rfl FL_RX10_57 dX10_read_51 ?_
      refine lv_iconst (v := Int32.ofInt 2) C.hx C.hb dX10_read_54 rfl ?_
      refine lv_aload_n C.hx C.hb dX10_read_55 rfl (lv_at hl 0 rfl) ?_
      refine g_ref (off := 1) C hH o_t (by decide) rfl rfl FL_RX10_10 dX10_read_56 ?_
      refine g_int C hH (ly (i := 0) (off := 1) (k := 4) hn o_t rfl rfl rfl) (by decide) rfl FL_RX10_87 dX10_read_59 ?_
      refine w_imul C dX10_read_62 ?_
      refine lv_iconst (v := Int32.ofInt 1) C.hx C.hb dX10_read_63 rfl ?_
      refine w_iadd C dX10_read_64 ?_
      obtain ⟨x65, M65, hc9, hf⟩ := cl_of hf
      refine r_callVi (rest := [i3 (x41 - (M30 (t + 1) 10))]) C hH hl (ly (i := 7) (off := 70) (k := 0) hn o_t rfl rfl rfl) (by decide) rfl (m_X0_draw hn (ly (i := 7) (off := 70) (k := 0) hn o_t rfl rfl rfl) hc9) ML_RX10_260 MF_X0_draw MI_X0_draw rfl rfl (Nat.le_of_ble_eq_true rfl) ⟨Nat.le_of_ble_eq_true rfl, Nat.le_of_ble_eq_true rfl⟩ ⟨Nat.le_refl _, Nat.le_refl _⟩ dX10_read_65 (fun H locs hH => ?_)
      refine w_iadd C dX10_read_68 ?_
      cases hf
      exact w_iret C hH dX10_read_69
    · refine lv_bipush (v := Int32.ofInt (-100)) C.hx C.hb dX10_read_22 (by decide) ?_
      cases hf
      exact w_iret C hH dX10_read_24
-- HeavierByHand.market
def fn_X10_market_J144 (t : Nat) (v4_47 : Int) (rec47 : Int → Int → Mem → Option (Int × Mem)) (v3_144 : Int) (M144 : Mem) : Option (Int × Mem) :=
  ck (R3 ((M144 (t + 1) 8) + 1) ∧ R3 999) <| st M144 (t + 1) 8 (min ((M144 (t + 1) 8) + 1) 999) fun M163 => nm (v4_47 + 1) fun v4_166 => rec47 v4_166 v3_144 M163
def fn_X10_market_L47 (t : Nat) (a2 : Int) (rec47 : Int → Int → Mem → Option (Int × Mem)) (v4_47 : Int) (v3_47 : Int) (M47 : Mem) : Option (Int × Mem) :=
  cLt v4_47 a2 (cl (fn_X0_draw (t + 70) (M47 (t + 1) 1) M47) fun x64 M64 => cl (fn_X0_draw (t + 70) (M64 (t + 1) 1) M64) fun x80 M80 => cu (fn_X4_lightestOf (t + 1) x64 M80) fun x91 => cu (fn_X4_canBePaid (t + 1) x91 x80 M80) fun x104 => cEq x104 0 (fn_X10_market_J144 t v4_47 rec47 v3_47 M80) (cu (fn_X10_ruling t M80) fun x127 => cl (fn_X3_given (t + 63) (t + 1) x127 x80 x91 M80) fun x134 M134 => cl (fn_X4_moveCoin (t + 1) x91 x80 x134 M134) fun x137 M137 => nm (v3_47 + 1) fun v3_141 => fn_X10_market_J144 t v4_47 rec47 v3_141 M137)) (some (v3_47, M47))
def fn_X10_market (t : Nat) (a1 : Int) (a2 : Int) (M : Mem) : Option (Int × Mem) :=
  cu (fn_X10_isWithin a1 0 9999 M) fun x5 => cEq x5 0 (some ((-1), M)) (cu (fn_X10_isWithin a2 1 99 M) fun x15 => cEq x15 0 (some ((-1), M)) (cLt (M (t + 1) 1) 1 (some ((-1), M)) (cv (fn_X0_start (t + 70) a1 M) fun M39 => lq3 (fn_X10_market_L47 t a2) FU 0 0 M39)))
set_option maxRecDepth 100000 in
set_option maxHeartbeats 4000000 in
theorem j_X10_market_144 {p : Program} {l : Launch} {e : Env} {s : State} {m : MethodId} {args : Array Value} {below : List Frame} {meth : Method} {c : Code} {E : EE} {n : Nat} {o : (Int × Mem)} {t : Nat} {a2 : Int} {v4_47 : Int} {rec47 : Int → Int → Mem → Option (Int × Mem)} {v3_144 : Int} {M144 : Mem} {H : Heap} {locs : List Loc} {ls : Array Slot} (C : Cx E p s m args meth c cX10_market 8 RX10 (some .int) n "market") (hn : nfull n) (o_t : ob n t 10) (h_rec47 : ∀ {v4_47 : Int} {v3_47 : Int} {M47 : Mem} {H : Heap} {locs : List Loc} {ls : Array Slot}, rec47 v4_47 v3_47 M47 = some o → ST E s n (zf n) M47 H locs → lv_has ls 8 [(0, .ref (eb E + t)), (2, i3 a2), (3, i3 v3_47), (4, i3 v4_47)] → W p l e { frames := 8, cells := 0, slots := 0, locals := 220 } s m args below meth c H locs 0 0 (MQ below (QC E (some (i3 o.1)) n (zf n) o.2) args s 0 0 (fr E)) (F0 m 47 ls [])) (hf : fn_X10_market_J144 t v4_47 rec47 v3_144 M144 = some o) (hH : ST E s n (zf n) M144 H locs) (hl : lv_has ls 8 [(0, .ref (eb E + t)), (2, i3 a2), (3, i3 v3_144), (4, i3 v4_47)]) : W p l e { frames := 8, cells := 0, slots := 0, locals := 220 } s m args below meth c H locs 0 0 (MQ below (QC E (some (i3 o.1)) n (zf n) o.2) args s 0 0 (fr E)) (F0 m 144 ls []) := by
  unfold fn_X10_market_J144 at hf
  refine lv_aload_n C.hx C.hb dX10_market_144 rfl (lv_at hl 0 rfl) ?_
  refine g_ref (off := 1) C hH o_t (by decide) rfl rfl FL_RX10_10 dX10_market_145 ?_
  refine lv_aload_n C.hx C.hb dX10_market_148 rfl (lv_at hl 0 rfl) ?_
  refine g_ref (off := 1) C hH o_t (by decide) rfl rfl FL_RX10_10 dX10_market_149 ?_
  refine g_int C hH (ly (i := 0) (off := 1) (k := 4) hn o_t rfl rfl rfl) (by decide) rfl FL_RX10_93 dX10_market_152 ?_
  refine lv_iconst (v := Int32.ofInt 1) C.hx C.hb dX10_market_155 rfl ?_
  refine w_iadd C dX10_market_156 ?_
  refine lv_sipush (v := Int32.ofInt 999) C.hx C.hb dX10_market_157 (by decide) ?_
  obtain ⟨hR8, hf⟩ := ck_of hf
  refine w_min C hl.1 hR8 ML_RX10_266 LB_min LB_mathi LB_minc (Nat.le_of_ble_eq_true rfl) (Nat.le_of_ble_eq_true rfl) (Nat.le_refl _) (Nat.le_refl _) dX10_market_160 ?_
  refine r_put C hH (ly (i := 0) (off := 1) (k := 4) hn o_t rfl rfl rfl) (by decide) rfl FL_RX10_93 FW_4_8 hf dX10_market_163 (fun M163 H locs hf hH => ?_)
  refine r_iinc (k := 3) (lv' := fun v => [(4, i3 v), (0, .ref (eb E + t)), (2, i3 a2), (3, i3 v3_144)]) C hf dX10_market_166 hl rfl (by decide) (fun _ => rfl) (fun v4_166 ls hf hl => ?_)
  refine lv_goto (tgt := 47) C.hx C.hb dX10_market_169 (by decide) ?_
  exact h_rec47 hf hH (lv_sub hl [1, 2, 3, 0] rfl)
set_option maxRecDepth 100000 in
set_option maxHeartbeats 4000000 in
theorem l_X10_market_47 {p : Program} {l : Launch} {e : Env} {s : State} {m : MethodId} {args : Array Value} {below : List Frame} {meth : Method} {c : Code} {E : EE} {n : Nat} {o : (Int × Mem)} {t : Nat} {a2 : Int} (C : Cx E p s m args meth c cX10_market 8 RX10 (some .int) n "market") (hn : nfull n) (o_t : ob n t 10) : ∀ (k : Nat) (v4_47 : Int) (v3_47 : Int) (M47 : Mem) (H : Heap) (locs : List Loc) (ls : Array Slot), lq3 (fn_X10_market_L47 t a2) k v4_47 v3_47 M47 = some o → ST E s n (zf n) M47 H locs → lv_has ls 8 [(0, .ref (eb E + t)), (2, i3 a2), (3, i3 v3_47), (4, i3 v4_47)] → W p l e { frames := 8, cells := 0, slots := 0, locals := 220 } s m args below meth c H locs 0 0 (MQ below (QC E (some (i3 o.1)) n (zf n) o.2) args s 0 0 (fr E)) (F0 m 47 ls []) := by
  intro k
  induction k with
  | zero => intro v4_47 v3_47 M47 H locs ls hf; cases hf
  | succ k ih =>
    intro v4_47 v3_47 M47 H locs ls hf hH hl
    have h_rec47 : ∀ {v4_47 : Int} {v3_47 : Int} {M47 : Mem} {H : Heap} {locs : List Loc} {ls : Array Slot}, lq3 (fn_X10_market_L47 t a2) k v4_47 v3_47 M47 = some o → ST E s n (zf n) M47 H locs → lv_has ls 8 [(0, .ref (eb E + t)), (2, i3 a2), (3, i3 v3_47), (4, i3 v4_47)] → W p l e { frames := 8, cells := 0, slots := 0, locals := 220 } s m args below meth c H locs 0 0 (MQ below (QC E (some (i3 o.1)) n (zf n) o.2) args s 0 0 (fr E)) (F0 m 47 ls []) := fun {v4_47} {v3_47} {M47} {H} {locs} {ls} a b c => ih v4_47 v3_47 M47 H locs ls a b c
    replace hf : fn_X10_market_L47 t a2 (lq3 (fn_X10_market_L47 t a2) k) v4_47 v3_47 M47 = some o := hf
    generalize lq3 (fn_X10_market_L47 t a2) k = rec47 at hf h_rec47
    unfold fn_X10_market_L47 at hf
    refine lv_iload C.hx C.hb dX10_market_47 (lv_at hl 3 rfl) ?_
    refine lv_iload_n C.hx C.hb dX10_market_49 rfl (lv_at hl 1 rfl) ?_
    refine w_ge (tgt := 172) C hf dX10_market_50 (by decide) (fun hf => ?_) (fun hf => ?_)
    · refine lv_iload_n C.hx C.hb dX10_market_172 rfl (lv_at hl 2 rfl) ?_
      cases hf
      exact w_iret C hH dX10_market_173
    · refine lv_aload_n C.hx C.hb dX10_market_53 rfl (lv_at hl 0 rfl) ?_
      refine g_ref (off := 70) C hH o_t (by decide) rfl rfl FL_RX10_57 dX10_market_54 ?_
      refine lv_aload_n C.hx C.hb dX10_market_57 rfl (lv_at hl 0 rfl) ?_
      refine g_ref (off := 1) C hH o_t (by decide) rfl rfl FL_RX10_10 dX10_market_58 ?_
      refine g_int C hH (ly (i := 0) (off := 1) (k := 4) hn o_t rfl rfl rfl) (by decide) rfl FL_RX10_65 dX10_market_61 ?_
      obtain ⟨x64, M64, hc9, hf⟩ := cl_of hf
      refine r_callVi (rest := []) C hH hl (ly (i := 7) (off := 70) (k := 0) hn o_t rfl rfl rfl) (by decide) rfl (m_X0_draw hn (ly (i := 7) (off := 70) (k := 0) hn o_t rfl rfl rfl) hc9) ML_RX10_260 MF_X0_draw MI_X0_draw rfl rfl (Nat.le_of_ble_eq_true rfl) ⟨Nat.le_of_ble_eq_true rfl, Nat.le_of_ble_eq_true rfl⟩ ⟨Nat.le_refl _, Nat.le_refl _⟩ dX10_market_64 (fun H locs hH => ?_)
      refine lv_istore (lv' := [(5, i3 x64), (0, .ref (eb E + t)), (2, i3 a2), (3, i3 v3_47), (4, i3 v4_47)]) C.hx C.hb dX10_market_67 hl (by decide) rfl (fun ls hl => ?_)
      refine lv_aload_n C.hx C.hb dX10_market_69 rfl (lv_at hl 1 rfl) ?_
      refine g_ref (off := 70) C hH o_t (by decide) rfl rfl FL_RX10_57 dX10_market_70 ?_
      refine lv_aload_n C.hx C.hb dX10_market_73 rfl (lv_at hl 1 rfl) ?_
      refine g_ref (off := 1) C hH o_t (by decide) rfl rfl FL_RX10_10 dX10_market_74 ?_
      refine g_int C hH (ly (i := 0) (off := 1) (k := 4) hn o_t rfl rfl rfl) (by decide) rfl FL_RX10_65 dX10_market_77 ?_
      obtain ⟨x80, M80, hc9, hf⟩ := cl_of hf
      refine r_callVi (rest := []) C hH hl (ly (i := 7) (off := 70) (k := 0) hn o_t rfl rfl rfl) (by decide) rfl (m_X0_draw hn (ly (i := 7) (off := 70) (k := 0) hn o_t rfl rfl rfl) hc9) ML_RX10_260 MF_X0_draw MI_X0_draw rfl rfl (Nat.le_of_ble_eq_true rfl) ⟨Nat.le_of_ble_eq_true rfl, Nat.le_of_ble_eq_true rfl⟩ ⟨Nat.le_refl _, Nat.le_refl _⟩ dX10_market_80 (fun H locs hH => ?_)
      refine lv_istore (lv' := [(6, i3 x80), (5, i3 x64), (0, .ref (eb E + t)), (2, i3 a2), (3, i3 v3_47), (4, i3 v4_47)]) C.hx C.hb dX10_market_83 hl (by decide) rfl (fun ls hl => ?_)
      refine lv_aload_n C.hx C.hb dX10_market_85 rfl (lv_at hl 2 rfl) ?_
      refine g_ref (off := 1) C hH o_t (by decide) rfl rfl FL_RX10_10 dX10_market_86 ?_
      refine lv_iload C.hx C.hb dX10_market_89 (lv_at hl 1 rfl) ?_
      obtain ⟨x91, hc9, hf⟩ := cu_of hf
      refine r_callVi (rest := []) C hH hl (ly (i := 0) (off := 1) (k := 4) hn o_t rfl rfl rfl) (by decide) rfl (m_X4_lightestOf hn (ly (i := 0) (off := 1) (k := 4) hn o_t rfl rfl rfl) hc9) ML_RX10_263 MF_X4_lightestOf MI_X4_lightestOf rfl rfl (Nat.le_of_ble_eq_true rfl) ⟨Nat.le_of_ble_eq_true rfl, Nat.le_of_ble_eq_true rfl⟩ ⟨Nat.le_refl _, Nat.le_refl _⟩ dX10_market_91 (fun H locs hH => ?_)
      refine lv_istore (lv' := [(7, i3 x91), (6, i3 x80), (5, i3 x64), (0, .ref (eb E + t)), (2, i3 a2), (3, i3 v3_47), (4, i3 v4_47)]) C.hx C.hb dX10_market_94 hl (by decide) rfl (fun ls hl => ?_)
      refine lv_aload_n C.hx C.hb dX10_market_96 rfl (lv_at hl 3 rfl) ?_
      refine g_ref (off := 1) C hH o_t (by decide) rfl rfl FL_RX10_10 dX10_market_97 ?_
      refine lv_iload C.hx C.hb dX10_market_100 (lv_at hl 0 rfl) ?_
      refine lv_iload C.hx C.hb dX10_market_102 (lv_at hl 1 rfl) ?_
      obtain ⟨x104, hc9, hf⟩ := cu_of hf
      refine r_callVi (rest := []) C hH hl (ly (i := 0) (off := 1) (k := 4) hn o_t rfl rfl rfl) (by decide) rfl (m_X4_canBePaid hn (ly (i := 0) (off := 1) (k := 4) hn o_t rfl rfl rfl) hc9) ML_RX10_133 MF_X4_canBePaid MI_X4_canBePaid rfl rfl (Nat.le_of_ble_eq_true rfl) ⟨Nat.le_of_ble_eq_true rfl, Nat.le_of_ble_eq_true rfl⟩ ⟨Nat.le_refl _, Nat.le_refl _⟩ dX10_market_104 (fun H locs hH => ?_)
      refine w_eq0 (tgt := 144) C hf dX10_market_107 (by decide) (fun hf => ?_) (fun hf => ?_)
      · exact j_X10_market_144 C hn o_t h_rec47 hf hH (lv_sub hl [3, 4, 5, 6] rfl)
      · refine lv_aload_n C.hx C.hb dX10_market_110 rfl (lv_at hl 3 rfl) ?_
        refine g_ref (off := 1) C hH o_t (by decide) rfl rfl FL_RX10_10 dX10_market_111 ?_
        refine lv_iload C.hx C.hb dX10_market_114 (lv_at hl 0 rfl) ?_
        refine lv_iload C.hx C.hb dX10_market_116 (lv_at hl 1 rfl) ?_
        refine lv_aload_n C.hx C.hb dX10_market_118 rfl (lv_at hl 3 rfl) ?_
        refine g_ref (off := 63) C hH o_t (by decide) rfl rfl FL_RX10_43 dX10_market_119 ?_
        refine lv_aload_n C.hx C.hb dX10_market_122 rfl (lv_at hl 3 rfl) ?_
        refine g_ref (off := 1) C hH o_t (by decide) rfl rfl FL_RX10_10 dX10_market_123 ?_
        refine lv_aload_n C.hx C.hb dX10_market_126 rfl (lv_at hl 3 rfl) ?_
        obtain ⟨x127, hc9, hf⟩ := cu_of hf
        have o_x127 := ob_X10_ruling hn o_t hc9
        refine r_callVi (rest := [.ref (eb E + (t + 1)), .ref (eb E + (t + 63)), i3 x80, i3 x91, .ref (eb E + (t + 1))]) C hH hl o_t (by decide) rfl (m_X10_ruling hn o_t hc9) ML_RX10_137 MF_X10_ruling MI_X10_ruling rfl rfl (Nat.le_of_ble_eq_true rfl) ⟨Nat.le_of_ble_eq_true rfl, Nat.le_of_ble_eq_true rfl⟩ ⟨Nat.le_refl _, Nat.le_refl _⟩ dX10_market_127 (fun H locs hH => ?_)
        refine lv_iload C.hx C.hb dX10_market_130 (lv_at hl 1 rfl) ?_
        refine lv_iload C.hx C.hb dX10_market_132 (lv_at hl 0 rfl) ?_
        obtain ⟨x134, M134, hc9, hf⟩ := cl_of hf
        refine r_callVi (rest := [i3 x80, i3 x91, .ref (eb E + (t + 1))]) C hH hl (ly (i := 5) (off := 63) (k := 3) hn o_t rfl rfl rfl) (by decide) rfl (m_X3_given hn (ly (i := 5) (off := 63) (k := 3) hn o_t rfl rfl rfl) (ly (i := 0) (off := 1) (k := 4) hn o_t rfl rfl rfl) o_x127 hc9) ML_RX10_140 MF_X3_given MI_X3_given rfl rfl (Nat.le_of_ble_eq_true rfl) ⟨Nat.le_of_ble_eq_true rfl, Nat.le_of_ble_eq_true rfl⟩ ⟨Nat.le_refl _, Nat.le_refl _⟩ dX10_market_134 (fun H locs hH => ?_)
        obtain ⟨x137, M137, hc9, hf⟩ := cl_of hf
        refine r_callVi (rest := []) C hH hl (ly (i := 0) (off := 1) (k := 4) hn o_t rfl rfl rfl) (by decide) rfl (m_X4_moveCoin hn (ly (i := 0) (off := 1) (k := 4) hn o_t rfl rfl rfl) hc9) ML_RX10_144 MF_X4_moveCoin MI_X4_moveCoin rfl rfl (Nat.le_of_ble_eq_true rfl) ⟨Nat.le_of_ble_eq_true rfl, Nat.le_of_ble_eq_true rfl⟩ ⟨Nat.le_refl _, Nat.le_refl _⟩ dX10_market_137 (fun H locs hH => ?_)
        refine lv_pop C.hx C.hb dX10_market_140 rfl ?_
        refine r_iinc (k := 5) (lv' := fun v => [(3, i3 v), (7, i3 x91), (6, i3 x80), (5, i3 x64), (0, .ref (eb E + t)), (2, i3 a2), (4, i3 v4_47)]) C hf dX10_market_141 hl rfl (by decide) (fun _ => rfl) (fun v3_141 ls hf hl => ?_)
        exact j_X10_market_144 C hn o_t h_rec47 hf hH (lv_sub hl [4, 5, 0, 6] rfl)
set_option maxRecDepth 100000 in
set_option maxHeartbeats 4000000 in
theorem m_X10_market {E : EE} {l : Launch} {n : Nat} {t : Nat} {a1 : Int} {a2 : Int} {M : Mem} {o : (Int × Mem)} (hn : nfull n) (o_t : ob n t 10) (hf : fn_X10_market t a1 a2 M = some o) : CT E l yX10_market cX10_market 8 (some .int) 8 220 0 0 [.ref (eb E + t), i3 a1, i3 a2] n (zf n) M (some (i3 o.1)) n (zf n) o.2 := by
  refine CT_of PN_RX10 (Nat.le_of_ble_eq_true rfl) ?_
  intro p e s m args below meth c C hH ls hl
  replace C : Cx E p s m args meth c cX10_market 8 RX10 (some .int) n "market" := C
  have hl : lv_has ls 8 [(0, .ref (eb E + t)), (1, i3 a1), (2, i3 a2)] := hl
  unfold fn_X10_market at hf
  refine lv_iload_n C.hx C.hb dX10_market_0 rfl (lv_at hl 1 rfl) ?_
  refine lv_iconst (v := Int32.ofInt 0) C.hx C.hb dX10_market_1 rfl ?_
  refine lv_sipush (v := Int32.ofInt 9999) C.hx C.hb dX10_market_2 (by decide) ?_
  obtain ⟨x5, hc9, hf⟩ := cu_of hf
  refine r_callSi (rest := []) C hH hl (m_X10_isWithin hn hc9) ML_RX10_61 MF_X10_isWithin MS_X10_isWithin rfl rfl (Nat.le_of_ble_eq_true rfl) ⟨Nat.le_of_ble_eq_true rfl, Nat.le_of_ble_eq_true rfl⟩ ⟨Nat.le_refl _, Nat.le_refl _⟩ dX10_market_5 (fun H locs hH => ?_)
  refine w_eq0 (tgt := 32) C hf dX10_market_8 (by decide) (fun hf => ?_) (fun hf => ?_)
  · refine lv_iconst (v := Int32.ofInt (-1)) C.hx C.hb dX10_market_32 rfl ?_
    cases hf
    exact w_iret C hH dX10_market_33
  · refine lv_iload_n C.hx C.hb dX10_market_11 rfl (lv_at hl 2 rfl) ?_
    refine lv_iconst (v := Int32.ofInt 1) C.hx C.hb dX10_market_12 rfl ?_
    refine lv_bipush (v := Int32.ofInt 99) C.hx C.hb dX10_market_13 (by decide) ?_
    obtain ⟨x15, hc9, hf⟩ := cu_of hf
    refine r_callSi (rest := []) C hH hl (m_X10_isWithin hn hc9) ML_RX10_61 MF_X10_isWithin MS_X10_isWithin rfl rfl (Nat.le_of_ble_eq_true rfl) ⟨Nat.le_of_ble_eq_true rfl, Nat.le_of_ble_eq_true rfl⟩ ⟨Nat.le_refl _, Nat.le_refl _⟩ dX10_market_15 (fun H locs hH => ?_)
    refine w_eq0 (tgt := 32) C hf dX10_market_18 (by decide) (fun hf => ?_) (fun hf => ?_)
    · refine lv_iconst (v := Int32.ofInt (-1)) C.hx C.hb dX10_market_32 rfl ?_
      cases hf
      exact w_iret C hH dX10_market_33
    · refine lv_aload_n C.hx C.hb dX10_market_21 rfl (lv_at hl 0 rfl) ?_
      refine g_ref (off := 1) C hH o_t (by decide) rfl rfl FL_RX10_10 dX10_market_22 ?_
      refine g_int C hH (ly (i := 0) (off := 1) (k := 4) hn o_t rfl rfl rfl) (by decide) rfl FL_RX10_65 dX10_market_25 ?_
      refine lv_iconst (v := Int32.ofInt 1) C.hx C.hb dX10_market_28 rfl ?_
      refine w_ge (tgt := 34) C hf dX10_market_29 (by decide) (fun hf => ?_) (fun hf => ?_)
      · refine lv_aload_n C.hx C.hb dX10_market_34 rfl (lv_at hl 0 rfl) ?_
        refine g_ref (off := 70) C hH o_t (by decide) rfl rfl FL_RX10_57 dX10_market_35 ?_
        refine lv_iload_n C.hx C.hb dX10_market_38 rfl (lv_at hl 1 rfl) ?_
        obtain ⟨M39, hc9, hf⟩ := cv_of hf
        refine r_callVv (rest := []) C hH hl (ly (i := 7) (off := 70) (k := 0) hn o_t rfl rfl rfl) (by decide) rfl (m_X0_start hn (ly (i := 7) (off := 70) (k := 0) hn o_t rfl rfl rfl) hc9) ML_RX10_257 MF_X0_start MI_X0_start rfl rfl (Nat.le_of_ble_eq_true rfl) ⟨Nat.le_of_ble_eq_true rfl, Nat.le_of_ble_eq_true rfl⟩ ⟨Nat.le_refl _, Nat.le_refl _⟩ dX10_market_39 (fun H locs hH => ?_)
        refine lv_iconst (v := Int32.ofInt 0) C.hx C.hb dX10_market_42 rfl ?_
        refine lv_istore_n (lv' := [(3, i3 0), (0, .ref (eb E + t)), (1, i3 a1), (2, i3 a2)]) C.hx C.hb dX10_market_43 rfl hl (by decide) rfl (fun ls hl => ?_)
        refine lv_iconst (v := Int32.ofInt 0) C.hx C.hb dX10_market_44 rfl ?_
        refine lv_istore (lv' := [(4, i3 0), (3, i3 0), (0, .ref (eb E + t)), (1, i3 a1), (2, i3 a2)]) C.hx C.hb dX10_market_45 hl (by decide) rfl (fun ls hl => ?_)
        exact l_X10_market_47 C hn o_t FU _ _ _ _ _ _ hf hH (lv_sub hl [2, 4, 1, 0] rfl)
      · refine lv_iconst (v := Int32.ofInt (-1)) C.hx C.hb dX10_market_32 rfl ?_
        cases hf
        exact w_iret C hH dX10_market_33
-- HeavierByHand.image
def fn_X10_image (t : Nat) (M : Mem) : Option (Int × Mem) :=
  cv (fn_X4_copyOf (t + 15) (t + 1) M) fun M8 => some ((M8 (t + 1) 7), M8)
set_option maxRecDepth 100000 in
set_option maxHeartbeats 4000000 in
theorem m_X10_image {E : EE} {l : Launch} {n : Nat} {t : Nat} {M : Mem} {o : (Int × Mem)} (hn : nfull n) (o_t : ob n t 10) (hf : fn_X10_image t M = some o) : CT E l yX10_image cX10_image 1 (some .int) 6 162 0 0 [.ref (eb E + t)] n (zf n) M (some (i3 o.1)) n (zf n) o.2 := by
  refine CT_of PN_RX10 (Nat.le_of_ble_eq_true rfl) ?_
  intro p e s m args below meth c C hH ls hl
  replace C : Cx E p s m args meth c cX10_image 1 RX10 (some .int) n "image" := C
  have hl : lv_has ls 1 [(0, .ref (eb E + t))] := hl
  unfold fn_X10_image at hf
  refine lv_aload_n C.hx C.hb dX10_image_0 rfl (lv_at hl 0 rfl) ?_
  refine g_ref (off := 15) C hH o_t (by decide) rfl rfl FL_RX10_16 dX10_image_1 ?_
  refine lv_aload_n C.hx C.hb dX10_image_4 rfl (lv_at hl 0 rfl) ?_
  refine g_ref (off := 1) C hH o_t (by decide) rfl rfl FL_RX10_10 dX10_image_5 ?_
  obtain ⟨M8, hc9, hf⟩ := cv_of hf
  refine r_callVv (rest := []) C hH hl (ly (i := 1) (off := 15) (k := 4) hn o_t rfl rfl rfl) (by decide) rfl (m_X4_copyOf hn (ly (i := 1) (off := 15) (k := 4) hn o_t rfl rfl rfl) (ly (i := 0) (off := 1) (k := 4) hn o_t rfl rfl rfl) hc9) ML_RX10_271 MF_X4_copyOf MI_X4_copyOf rfl rfl (Nat.le_of_ble_eq_true rfl) ⟨Nat.le_of_ble_eq_true rfl, Nat.le_of_ble_eq_true rfl⟩ ⟨Nat.le_refl _, Nat.le_refl _⟩ dX10_image_8 (fun H locs hH => ?_)
  refine lv_aload_n C.hx C.hb dX10_image_11 rfl (lv_at hl 0 rfl) ?_
  refine g_ref (off := 1) C hH o_t (by decide) rfl rfl FL_RX10_10 dX10_image_12 ?_
  refine g_int C hH (ly (i := 0) (off := 1) (k := 4) hn o_t rfl rfl rfl) (by decide) rfl FL_RX10_77 dX10_image_15 ?_
  cases hf
  exact w_iret C hH dX10_image_18
-- HeavierByHand.back
def fn_X10_back (t : Nat) (M : Mem) : Option (Int × Mem) :=
  cv (fn_X4_copyOf (t + 1) (t + 15) M) fun M8 => some ((M8 (t + 1) 7), M8)
set_option maxRecDepth 100000 in
set_option maxHeartbeats 4000000 in
theorem m_X10_back {E : EE} {l : Launch} {n : Nat} {t : Nat} {M : Mem} {o : (Int × Mem)} (hn : nfull n) (o_t : ob n t 10) (hf : fn_X10_back t M = some o) : CT E l yX10_back cX10_back 1 (some .int) 6 162 0 0 [.ref (eb E + t)] n (zf n) M (some (i3 o.1)) n (zf n) o.2 := by
  refine CT_of PN_RX10 (Nat.le_of_ble_eq_true rfl) ?_
  intro p e s m args below meth c C hH ls hl
  replace C : Cx E p s m args meth c cX10_back 1 RX10 (some .int) n "back" := C
  have hl : lv_has ls 1 [(0, .ref (eb E + t))] := hl
  unfold fn_X10_back at hf
  refine lv_aload_n C.hx C.hb dX10_back_0 rfl (lv_at hl 0 rfl) ?_
  refine g_ref (off := 1) C hH o_t (by decide) rfl rfl FL_RX10_10 dX10_back_1 ?_
  refine lv_aload_n C.hx C.hb dX10_back_4 rfl (lv_at hl 0 rfl) ?_
  refine g_ref (off := 15) C hH o_t (by decide) rfl rfl FL_RX10_16 dX10_back_5 ?_
  obtain ⟨M8, hc9, hf⟩ := cv_of hf
  refine r_callVv (rest := []) C hH hl (ly (i := 0) (off := 1) (k := 4) hn o_t rfl rfl rfl) (by decide) rfl (m_X4_copyOf hn (ly (i := 0) (off := 1) (k := 4) hn o_t rfl rfl rfl) (ly (i := 1) (off := 15) (k := 4) hn o_t rfl rfl rfl) hc9) ML_RX10_271 MF_X4_copyOf MI_X4_copyOf rfl rfl (Nat.le_of_ble_eq_true rfl) ⟨Nat.le_of_ble_eq_true rfl, Nat.le_of_ble_eq_true rfl⟩ ⟨Nat.le_refl _, Nat.le_refl _⟩ dX10_back_8 (fun H locs hH => ?_)
  refine lv_aload_n C.hx C.hb dX10_back_11 rfl (lv_at hl 0 rfl) ?_
  refine g_ref (off := 1) C hH o_t (by decide) rfl rfl FL_RX10_10 dX10_back_12 ?_
  refine g_int C hH (ly (i := 0) (off := 1) (k := 4) hn o_t rfl rfl rfl) (by decide) rfl FL_RX10_77 dX10_back_15 ?_
  cases hf
  exact w_iret C hH dX10_back_18
-- HeavierByHand.about
def fn_X10_about (t : Nat) (a1 : Int) (M : Mem) : Option Int :=
  cu (fn_X10_isWithin a1 10 19 M) fun x5 => cEq x5 0 (cu (fn_X10_isWithin a1 20 29 M) fun x48 => cEq x48 0 (ck (R3 a1) <| if a1 = 0 then (some (M (t + 1) 1)) else if a1 = 1 then (some (M (t + 1) 7)) else if a1 = 2 then (some (M (t + 1) 8)) else if a1 = 3 then (some (M (t + 1) 9)) else if a1 = 4 then (some (M (t + 1) 10)) else if a1 = 5 then (some (M (t + 1) 11)) else if a1 = 6 then (some (M (t + 1) 12)) else if a1 = 7 then (some (M ((t + 1) + 7) 5)) else if a1 = 8 then (some (M (t + 1) 16)) else if a1 = 9 then (some (M (t + 29) 1)) else some (-2)) (cu (fn_X4_isHand (t + 1) (a1 - 20) M) fun x62 => cEq x62 0 (some (-2)) (cu (fn_X4_weightHeldBy (t + 1) (a1 - 20) M) fun x76 => some x76))) (cu (fn_X4_isHand (t + 1) (a1 - 10) M) fun x19 => cEq x19 0 (some (-2)) (rd M ((t + 1) + 1) 10 (a1 - 10) fun x36 => some x36))
set_option maxRecDepth 100000 in
set_option maxHeartbeats 4000000 in
theorem m_X10_about {E : EE} {l : Launch} {n : Nat} {t : Nat} {a1 : Int} {M : Mem} {o : Int} (hn : nfull n) (o_t : ob n t 10) (hf : fn_X10_about t a1 M = some o) : CT E l yX10_about cX10_about 2 (some .int) 1 23 0 0 [.ref (eb E + t), i3 a1] n (zf n) M (some (i3 o)) n (zf n) M := by
  refine CT_of PN_RX10 (Nat.le_of_ble_eq_true rfl) ?_
  intro p e s m args below meth c C hH ls hl
  replace C : Cx E p s m args meth c cX10_about 2 RX10 (some .int) n "about" := C
  have hl : lv_has ls 2 [(0, .ref (eb E + t)), (1, i3 a1)] := hl
  unfold fn_X10_about at hf
  refine lv_iload_n C.hx C.hb dX10_about_0 rfl (lv_at hl 1 rfl) ?_
  refine lv_bipush (v := Int32.ofInt 10) C.hx C.hb dX10_about_1 (by decide) ?_
  refine lv_bipush (v := Int32.ofInt 19) C.hx C.hb dX10_about_3 (by decide) ?_
  obtain ⟨x5, hc9, hf⟩ := cu_of hf
  refine r_callSi (rest := []) C hH hl (m_X10_isWithin hn hc9) ML_RX10_61 MF_X10_isWithin MS_X10_isWithin rfl rfl (Nat.le_of_ble_eq_true rfl) ⟨Nat.le_of_ble_eq_true rfl, Nat.le_of_ble_eq_true rfl⟩ ⟨Nat.le_refl _, Nat.le_refl _⟩ dX10_about_5 (fun H locs hH => ?_)
  refine w_eq0 (tgt := 43) C hf dX10_about_8 (by decide) (fun hf => ?_) (fun hf => ?_)
  · refine lv_iload_n C.hx C.hb dX10_about_43 rfl (lv_at hl 1 rfl) ?_
    refine lv_bipush (v := Int32.ofInt 20) C.hx C.hb dX10_about_44 (by decide) ?_
    refine lv_bipush (v := Int32.ofInt 29) C.hx C.hb dX10_about_46 (by decide) ?_
    obtain ⟨x48, hc9, hf⟩ := cu_of hf
    refine r_callSi (rest := []) C hH hl (m_X10_isWithin hn hc9) ML_RX10_61 MF_X10_isWithin MS_X10_isWithin rfl rfl (Nat.le_of_ble_eq_true rfl) ⟨Nat.le_of_ble_eq_true rfl, Nat.le_of_ble_eq_true rfl⟩ ⟨Nat.le_refl _, Nat.le_refl _⟩ dX10_about_48 (fun H locs hH => ?_)
    refine w_eq0 (tgt := 85) C hf dX10_about_51 (by decide) (fun hf => ?_) (fun hf => ?_)
    · refine lv_iload_n C.hx C.hb dX10_about_85 rfl (lv_at hl 1 rfl) ?_
      obtain ⟨hR9, hf⟩ := ck_of hf
      by_cases e0 : a1 = 0
      · rw [if_pos e0] at hf
        refine r_tab (tgt := 140) C e0 ⟨by decide, by decide⟩ dX10_about_86 (by decide) (by decide) rfl (by decide) ?_
        refine lv_aload_n C.hx C.hb dX10_about_140 rfl (lv_at hl 0 rfl) ?_
        refine g_ref (off := 1) C hH o_t (by decide) rfl rfl FL_RX10_10 dX10_about_141 ?_
        refine g_int C hH (ly (i := 0) (off := 1) (k := 4) hn o_t rfl rfl rfl) (by decide) rfl FL_RX10_65 dX10_about_144 ?_
        cases hf
        exact w_iret C hH dX10_about_147
      · rw [if_neg e0] at hf
        by_cases e1 : a1 = 1
        · rw [if_pos e1] at hf
          refine r_tab (tgt := 148) C e1 ⟨by decide, by decide⟩ dX10_about_86 (by decide) (by decide) rfl (by decide) ?_
          refine lv_aload_n C.hx C.hb dX10_about_148 rfl (lv_at hl 0 rfl) ?_
          refine g_ref (off := 1) C hH o_t (by decide) rfl rfl FL_RX10_10 dX10_about_149 ?_
          refine g_int C hH (ly (i := 0) (off := 1) (k := 4) hn o_t rfl rfl rfl) (by decide) rfl FL_RX10_77 dX10_about_152 ?_
          cases hf
          exact w_iret C hH dX10_about_155
        · rw [if_neg e1] at hf
          by_cases e2 : a1 = 2
          · rw [if_pos e2] at hf
            refine r_tab (tgt := 156) C e2 ⟨by decide, by decide⟩ dX10_about_86 (by decide) (by decide) rfl (by decide) ?_
            refine lv_aload_n C.hx C.hb dX10_about_156 rfl (lv_at hl 0 rfl) ?_
            refine g_ref (off := 1) C hH o_t (by decide) rfl rfl FL_RX10_10 dX10_about_157 ?_
            refine g_int C hH (ly (i := 0) (off := 1) (k := 4) hn o_t rfl rfl rfl) (by decide) rfl FL_RX10_93 dX10_about_160 ?_
            cases hf
            exact w_iret C hH dX10_about_163
          · rw [if_neg e2] at hf
            by_cases e3 : a1 = 3
            · rw [if_pos e3] at hf
              refine r_tab (tgt := 164) C e3 ⟨by decide, by decide⟩ dX10_about_86 (by decide) (by decide) rfl (by decide) ?_
              refine lv_aload_n C.hx C.hb dX10_about_164 rfl (lv_at hl 0 rfl) ?_
              refine g_ref (off := 1) C hH o_t (by decide) rfl rfl FL_RX10_10 dX10_about_165 ?_
              refine g_int C hH (ly (i := 0) (off := 1) (k := 4) hn o_t rfl rfl rfl) (by decide) rfl FL_RX10_84 dX10_about_168 ?_
              cases hf
              exact w_iret C hH dX10_about_171
            · rw [if_neg e3] at hf
              by_cases e4 : a1 = 4
              · rw [if_pos e4] at hf
                refine r_tab (tgt := 172) C e4 ⟨by decide, by decide⟩ dX10_about_86 (by decide) (by decide) rfl (by decide) ?_
                refine lv_aload_n C.hx C.hb dX10_about_172 rfl (lv_at hl 0 rfl) ?_
                refine g_ref (off := 1) C hH o_t (by decide) rfl rfl FL_RX10_10 dX10_about_173 ?_
                refine g_int C hH (ly (i := 0) (off := 1) (k := 4) hn o_t rfl rfl rfl) (by decide) rfl FL_RX10_87 dX10_about_176 ?_
                cases hf
                exact w_iret C hH dX10_about_179
              · rw [if_neg e4] at hf
                by_cases e5 : a1 = 5
                · rw [if_pos e5] at hf
                  refine r_tab (tgt := 180) C e5 ⟨by decide, by decide⟩ dX10_about_86 (by decide) (by decide) rfl (by decide) ?_
                  refine lv_aload_n C.hx C.hb dX10_about_180 rfl (lv_at hl 0 rfl) ?_
                  refine g_ref (off := 1) C hH o_t (by decide) rfl rfl FL_RX10_10 dX10_about_181 ?_
                  refine g_int C hH (ly (i := 0) (off := 1) (k := 4) hn o_t rfl rfl rfl) (by decide) rfl FL_RX10_103 dX10_about_184 ?_
                  cases hf
                  exact w_iret C hH dX10_about_187
                · rw [if_neg e5] at hf
                  by_cases e6 : a1 = 6
                  · rw [if_pos e6] at hf
                    refine r_tab (tgt := 188) C e6 ⟨by decide, by decide⟩ dX10_about_86 (by decide) (by decide) rfl (by decide) ?_
                    refine lv_aload_n C.hx C.hb dX10_about_188 rfl (lv_at hl 0 rfl) ?_
                    refine g_ref (off := 1) C hH o_t (by decide) rfl rfl FL_RX10_10 dX10_about_189 ?_
                    refine g_int C hH (ly (i := 0) (off := 1) (k := 4) hn o_t rfl rfl rfl) (by decide) rfl FL_RX10_130 dX10_about_192 ?_
                    cases hf
                    exact w_iret C hH dX10_about_195
                  · rw [if_neg e6] at hf
                    by_cases e7 : a1 = 7
                    · rw [if_pos e7] at hf
                      refine r_tab (tgt := 196) C e7 ⟨by decide, by decide⟩ dX10_about_86 (by decide) (by decide) rfl (by decide) ?_
                      refine lv_aload_n C.hx C.hb dX10_about_196 rfl (lv_at hl 0 rfl) ?_
                      refine g_ref (off := 1) C hH o_t (by decide) rfl rfl FL_RX10_10 dX10_about_197 ?_
                      refine g_ref (off := 7) C hH (ly (i := 0) (off := 1) (k := 4) hn o_t rfl rfl rfl) (by decide) rfl rfl FL_RX10_280 dX10_about_200 ?_
                      refine g_int C hH (ly (i := 13) (off := 7) (k := 5) hn (ly (i := 0) (off := 1) (k := 4) hn o_t rfl rfl rfl) rfl rfl rfl) (by decide) rfl FL_RX10_284 dX10_about_203 ?_
                      cases hf
                      exact w_iret C hH dX10_about_206
                    · rw [if_neg e7] at hf
                      by_cases e8 : a1 = 8
                      · rw [if_pos e8] at hf
                        refine r_tab (tgt := 207) C e8 ⟨by decide, by decide⟩ dX10_about_86 (by decide) (by decide) rfl (by decide) ?_
                        refine lv_aload_n C.hx C.hb dX10_about_207 rfl (lv_at hl 0 rfl) ?_
                        refine g_ref (off := 1) C hH o_t (by decide) rfl rfl FL_RX10_10 dX10_about_208 ?_
                        refine g_int C hH (ly (i := 0) (off := 1) (k := 4) hn o_t rfl rfl rfl) (by decide) rfl FL_RX10_221 dX10_about_211 ?_
                        cases hf
                        exact w_iret C hH dX10_about_214
                      · rw [if_neg e8] at hf
                        by_cases e9 : a1 = 9
                        · rw [if_pos e9] at hf
                          refine r_tab (tgt := 215) C e9 ⟨by decide, by decide⟩ dX10_about_86 (by decide) (by decide) rfl (by decide) ?_
                          refine lv_aload_n C.hx C.hb dX10_about_215 rfl (lv_at hl 0 rfl) ?_
                          refine g_ref (off := 29) C hH o_t (by decide) rfl rfl FL_RX10_22 dX10_about_216 ?_
                          refine g_int C hH (ly (i := 2) (off := 29) (k := 6) hn o_t rfl rfl rfl) (by decide) rfl FL_RX10_96 dX10_about_219 ?_
                          cases hf
                          exact w_iret C hH dX10_about_222
                        · rw [if_neg e9] at hf
                          refine r_tabO (tgt := 223) C hR9 dX10_about_86 (by omega) (by decide) ?_
                          refine lv_bipush (v := Int32.ofInt (-2)) C.hx C.hb dX10_about_223 (by decide) ?_
                          cases hf
                          exact w_iret C hH dX10_about_225
    · refine lv_aload_n C.hx C.hb dX10_about_54 rfl (lv_at hl 0 rfl) ?_
      refine g_ref (off := 1) C hH o_t (by decide) rfl rfl FL_RX10_10 dX10_about_55 ?_
      refine lv_iload_n C.hx C.hb dX10_about_58 rfl (lv_at hl 1 rfl) ?_
      refine lv_bipush (v := Int32.ofInt 20) C.hx C.hb dX10_about_59 (by decide) ?_
      refine w_isub C dX10_about_61 ?_
      obtain ⟨x62, hc9, hf⟩ := cu_of hf
      refine r_callVi (rest := []) C hH hl (ly (i := 0) (off := 1) (k := 4) hn o_t rfl rfl rfl) (by decide) rfl (m_X4_isHand hn (ly (i := 0) (off := 1) (k := 4) hn o_t rfl rfl rfl) hc9) ML_RX10_73 MF_X4_isHand MI_X4_isHand rfl rfl (Nat.le_of_ble_eq_true rfl) ⟨Nat.le_of_ble_eq_true rfl, Nat.le_of_ble_eq_true rfl⟩ ⟨Nat.le_refl _, Nat.le_refl _⟩ dX10_about_62 (fun H locs hH => ?_)
      refine w_eq0 (tgt := 82) C hf dX10_about_65 (by decide) (fun hf => ?_) (fun hf => ?_)
      · refine lv_bipush (v := Int32.ofInt (-2)) C.hx C.hb dX10_about_82 (by decide) ?_
        cases hf
        exact w_iret C hH dX10_about_84
      · refine lv_aload_n C.hx C.hb dX10_about_68 rfl (lv_at hl 0 rfl) ?_
        refine g_ref (off := 1) C hH o_t (by decide) rfl rfl FL_RX10_10 dX10_about_69 ?_
        refine lv_iload_n C.hx C.hb dX10_about_72 rfl (lv_at hl 1 rfl) ?_
        refine lv_bipush (v := Int32.ofInt 20) C.hx C.hb dX10_about_73 (by decide) ?_
        refine w_isub C dX10_about_75 ?_
        obtain ⟨x76, hc9, hf⟩ := cu_of hf
        refine r_callVi (rest := []) C hH hl (ly (i := 0) (off := 1) (k := 4) hn o_t rfl rfl rfl) (by decide) rfl (m_X4_weightHeldBy hn (ly (i := 0) (off := 1) (k := 4) hn o_t rfl rfl rfl) hc9) ML_RX10_277 MF_X4_weightHeldBy MI_X4_weightHeldBy rfl rfl (Nat.le_of_ble_eq_true rfl) ⟨Nat.le_of_ble_eq_true rfl, Nat.le_of_ble_eq_true rfl⟩ ⟨Nat.le_refl _, Nat.le_refl _⟩ dX10_about_76 (fun H locs hH => ?_)
        refine lv_goto (tgt := 84) C.hx C.hb dX10_about_79 (by decide) ?_
        cases hf
        exact w_iret C hH dX10_about_84
  · refine lv_aload_n C.hx C.hb dX10_about_11 rfl (lv_at hl 0 rfl) ?_
    refine g_ref (off := 1) C hH o_t (by decide) rfl rfl FL_RX10_10 dX10_about_12 ?_
    refine lv_iload_n C.hx C.hb dX10_about_15 rfl (lv_at hl 1 rfl) ?_
    refine lv_bipush (v := Int32.ofInt 10) C.hx C.hb dX10_about_16 (by decide) ?_
    refine w_isub C dX10_about_18 ?_
    obtain ⟨x19, hc9, hf⟩ := cu_of hf
    refine r_callVi (rest := []) C hH hl (ly (i := 0) (off := 1) (k := 4) hn o_t rfl rfl rfl) (by decide) rfl (m_X4_isHand hn (ly (i := 0) (off := 1) (k := 4) hn o_t rfl rfl rfl) hc9) ML_RX10_73 MF_X4_isHand MI_X4_isHand rfl rfl (Nat.le_of_ble_eq_true rfl) ⟨Nat.le_of_ble_eq_true rfl, Nat.le_of_ble_eq_true rfl⟩ ⟨Nat.le_refl _, Nat.le_refl _⟩ dX10_about_19 (fun H locs hH => ?_)
    refine w_eq0 (tgt := 40) C hf dX10_about_22 (by decide) (fun hf => ?_) (fun hf => ?_)
    · refine lv_bipush (v := Int32.ofInt (-2)) C.hx C.hb dX10_about_40 (by decide) ?_
      cases hf
      exact w_iret C hH dX10_about_42
    · refine lv_aload_n C.hx C.hb dX10_about_25 rfl (lv_at hl 0 rfl) ?_
      refine g_ref (off := 1) C hH o_t (by decide) rfl rfl FL_RX10_10 dX10_about_26 ?_
      refine g_ref (off := 1) C hH (ly (i := 0) (off := 1) (k := 4) hn o_t rfl rfl rfl) (by decide) rfl rfl FL_RX10_274 dX10_about_29 ?_
      refine lv_iload_n C.hx C.hb dX10_about_32 rfl (lv_at hl 1 rfl) ?_
      refine lv_bipush (v := Int32.ofInt 10) C.hx C.hb dX10_about_33 (by decide) ?_
      refine w_isub C dX10_about_35 ?_
      refine r_iald C hH (ly (i := 0) (off := 1) (k := 12) hn (ly (i := 0) (off := 1) (k := 4) hn o_t rfl rfl rfl) rfl rfl rfl) (lyn (i := 0) (off := 1) (N := 9) hn (ly (i := 0) (off := 1) (k := 4) hn o_t rfl rfl rfl) rfl rfl rfl) hf dX10_about_36 (fun x36 hf => ?_)
      refine lv_goto (tgt := 42) C.hx C.hb dX10_about_37 (by decide) ?_
      cases hf
      exact w_iret C hH dX10_about_42
