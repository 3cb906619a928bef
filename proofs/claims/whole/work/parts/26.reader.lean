-- HeavierByHand$Reader.refuse
def fn_X1_refuse (t : Nat) (a1 : Int) (M : Mem) : Option (Int × Mem) :=
  st M t 3 a1 fun M2 => st M2 t 4 (M2 (t + 6) 9) fun M13 => some (0, M13)
set_option maxRecDepth 100000 in
set_option maxHeartbeats 4000000 in
theorem m_X1_refuse {E : EE} {l : Launch} {n : Nat} {t : Nat} {a1 : Int} {M : Mem} {o : (Int × Mem)} (hn : nfull n) (o_t : ob n t 1) (hf : fn_X1_refuse t a1 M = some o) : CT E l yX1_refuse cX1_refuse 2 (some .boolean) 0 0 0 0 [.ref (eb E + t), i3 a1] n (zf n) M (some (i3 o.1)) n (zf n) o.2 := by
  refine CT_of PN_RX1 (Nat.le_of_ble_eq_true rfl) ?_
  intro p e s m args below meth c C hH ls hl
  replace C : Cx E p s m args meth c cX1_refuse 2 RX1 (some .boolean) n "refuse" := C
  have hl : lv_has ls 2 [(0, .ref (eb E + t)), (1, i3 a1)] := hl
  unfold fn_X1_refuse at hf
  refine lv_aload_n C.hx C.hb dX1_refuse_0 rfl (lv_at hl 0 rfl) ?_
  refine lv_iload_n C.hx C.hb dX1_refuse_1 rfl (lv_at hl 1 rfl) ?_
  refine r_put C hH o_t (by decide) rfl FL_RX1_36 FW_1_3 hf dX1_refuse_2 (fun M2 H locs hf hH => ?_)
  refine lv_aload_n C.hx C.hb dX1_refuse_5 rfl (lv_at hl 0 rfl) ?_
  refine lv_aload_n C.hx C.hb dX1_refuse_6 rfl (lv_at hl 0 rfl) ?_
  refine g_ref (off := 6) C hH o_t (by decide) rfl rfl FL_RX1_21 dX1_refuse_7 ?_
  refine g_int C hH (ly (i := 1) (off := 6) (k := 8) hn o_t rfl rfl rfl) (by decide) rfl FL_RX1_50 dX1_refuse_10 ?_
  refine r_put C hH o_t (by decide) rfl FL_RX1_40 FW_1_4 hf dX1_refuse_13 (fun M13 H locs hf hH => ?_)
  refine lv_iconst (v := Int32.ofInt 0) C.hx C.hb dX1_refuse_16 rfl ?_
  cases hf
  exact w_zret C hH (Or.inl rfl) dX1_refuse_17
-- HeavierByHand$Reader.opens
def fn_X1_opens (t : Nat) (a1 : Int) (M : Mem) : Option (Int × Mem) :=
  cLt a1 8 (cv (fn_X8_next (t + 6) M) fun M16 => some (1, M16)) (cl (fn_X1_refuse t 3 M) fun x8 M8 => ck (x8 = 0 ∨ x8 = 1) (some (x8, M8)))
set_option maxRecDepth 100000 in
set_option maxHeartbeats 4000000 in
theorem m_X1_opens {E : EE} {l : Launch} {n : Nat} {t : Nat} {a1 : Int} {M : Mem} {o : (Int × Mem)} (hn : nfull n) (o_t : ob n t 1) (hf : fn_X1_opens t a1 M = some o) : CT E l yX1_opens cX1_opens 2 (some .boolean) 1 21 0 0 [.ref (eb E + t), i3 a1] n (zf n) M (some (i3 o.1)) n (zf n) o.2 := by
  refine CT_of PN_RX1 (Nat.le_of_ble_eq_true rfl) ?_
  intro p e s m args below meth c C hH ls hl
  replace C : Cx E p s m args meth c cX1_opens 2 RX1 (some .boolean) n "opens" := C
  have hl : lv_has ls 2 [(0, .ref (eb E + t)), (1, i3 a1)] := hl
  unfold fn_X1_opens at hf
  refine lv_iload_n C.hx C.hb dX1_opens_0 rfl (lv_at hl 1 rfl) ?_
  refine lv_bipush (v := Int32.ofInt 8) C.hx C.hb dX1_opens_1 (by decide) ?_
  refine w_lt (tgt := 12) C hf dX1_opens_3 (by decide) (fun hf => ?_) (fun hf => ?_)
  · refine lv_aload_n C.hx C.hb dX1_opens_12 rfl (lv_at hl 0 rfl) ?_
    refine g_ref (off := 6) C hH o_t (by decide) rfl rfl FL_RX1_21 dX1_opens_13 ?_
    obtain ⟨M16, hc9, hf⟩ := cv_of hf
    refine r_callVv (rest := []) C hH hl (ly (i := 1) (off := 6) (k := 8) hn o_t rfl rfl rfl) (by decide) rfl (m_X8_next hn (ly (i := 1) (off := 6) (k := 8) hn o_t rfl rfl rfl) hc9) ML_RX1_55 MF_X8_next MI_X8_next rfl rfl (Nat.le_of_ble_eq_true rfl) ⟨Nat.le_of_ble_eq_true rfl, Nat.le_of_ble_eq_true rfl⟩ ⟨Nat.le_refl _, Nat.le_refl _⟩ dX1_opens_16 (fun H locs hH => ?_)
    refine lv_iconst (v := Int32.ofInt 1) C.hx C.hb dX1_opens_19 rfl ?_
    cases hf
    exact w_zret C hH (Or.inr rfl) dX1_opens_20
  · refine lv_aload_n C.hx C.hb dX1_opens_6 rfl (lv_at hl 0 rfl) ?_
    refine lv_iconst (v := Int32.ofInt 3) C.hx C.hb dX1_opens_7 rfl ?_
    obtain ⟨x8, M8, hc9, hf⟩ := cl_of hf
    refine r_callVi (rest := []) C hH hl o_t (by decide) rfl (m_X1_refuse hn o_t hc9) ML_RX1_51 MF_X1_refuse MI_X1_refuse rfl rfl (Nat.le_of_ble_eq_true rfl) ⟨Nat.le_of_ble_eq_true rfl, Nat.le_of_ble_eq_true rfl⟩ ⟨Nat.le_refl _, Nat.le_refl _⟩ dX1_opens_8 (fun H locs hH => ?_)
    obtain ⟨hB9, hf⟩ := ck_of hf
    cases hf
    exact w_zret C hH hB9 dX1_opens_11
-- HeavierByHand$Reader.number
def fn_X1_number (t : Nat) (a1 : Int) (M : Mem) : Option (Int × Mem) :=
  cEq (M (t + 6) 7) 2 (cLt a1 (M (t + 6) 8) (cl (fn_X1_refuse t 2 M) fun x30 M30 => ck (x30 = 0 ∨ x30 = 1) (some (x30, M30))) (cv (fn_X8_next (t + 6) M) fun M38 => some (1, M38))) (cl (fn_X1_refuse t 1 M) fun x13 M13 => ck (x13 = 0 ∨ x13 = 1) (some (x13, M13)))
set_option maxRecDepth 100000 in
set_option maxHeartbeats 4000000 in
theorem m_X1_number {E : EE} {l : Launch} {n : Nat} {t : Nat} {a1 : Int} {M : Mem} {o : (Int × Mem)} (hn : nfull n) (o_t : ob n t 1) (hf : fn_X1_number t a1 M = some o) : CT E l yX1_number cX1_number 2 (some .boolean) 1 21 0 0 [.ref (eb E + t), i3 a1] n (zf n) M (some (i3 o.1)) n (zf n) o.2 := by
  refine CT_of PN_RX1 (Nat.le_of_ble_eq_true rfl) ?_
  intro p e s m args below meth c C hH ls hl
  replace C : Cx E p s m args meth c cX1_number 2 RX1 (some .boolean) n "number" := C
  have hl : lv_has ls 2 [(0, .ref (eb E + t)), (1, i3 a1)] := hl
  unfold fn_X1_number at hf
  refine lv_aload_n C.hx C.hb dX1_number_0 rfl (lv_at hl 0 rfl) ?_
  refine g_ref (off := 6) C hH o_t (by decide) rfl rfl FL_RX1_21 dX1_number_1 ?_
  refine g_int C hH (ly (i := 1) (off := 6) (k := 8) hn o_t rfl rfl rfl) (by decide) rfl FL_RX1_43 dX1_number_4 ?_
  refine lv_iconst (v := Int32.ofInt 2) C.hx C.hb dX1_number_7 rfl ?_
  refine w_eq (tgt := 17) C hf dX1_number_8 (by decide) (fun hf => ?_) (fun hf => ?_)
  · refine lv_aload_n C.hx C.hb dX1_number_17 rfl (lv_at hl 0 rfl) ?_
    refine g_ref (off := 6) C hH o_t (by decide) rfl rfl FL_RX1_21 dX1_number_18 ?_
    refine g_int C hH (ly (i := 1) (off := 6) (k := 8) hn o_t rfl rfl rfl) (by decide) rfl FL_RX1_58 dX1_number_21 ?_
    refine lv_iload_n C.hx C.hb dX1_number_24 rfl (lv_at hl 1 rfl) ?_
    refine w_le (tgt := 34) C hf dX1_number_25 (by decide) (fun hf => ?_) (fun hf => ?_)
    · refine lv_aload_n C.hx C.hb dX1_number_34 rfl (lv_at hl 0 rfl) ?_
      refine g_ref (off := 6) C hH o_t (by decide) rfl rfl FL_RX1_21 dX1_number_35 ?_
      obtain ⟨M38, hc9, hf⟩ := cv_of hf
      refine r_callVv (rest := []) C hH hl (ly (i := 1) (off := 6) (k := 8) hn o_t rfl rfl rfl) (by decide) rfl (m_X8_next hn (ly (i := 1) (off := 6) (k := 8) hn o_t rfl rfl rfl) hc9) ML_RX1_55 MF_X8_next MI_X8_next rfl rfl (Nat.le_of_ble_eq_true rfl) ⟨Nat.le_of_ble_eq_true rfl, Nat.le_of_ble_eq_true rfl⟩ ⟨Nat.le_refl _, Nat.le_refl _⟩ dX1_number_38 (fun H locs hH => ?_)
      refine lv_iconst (v := Int32.ofInt 1) C.hx C.hb dX1_number_41 rfl ?_
      cases hf
      exact w_zret C hH (Or.inr rfl) dX1_number_42
    · refine lv_aload_n C.hx C.hb dX1_number_28 rfl (lv_at hl 0 rfl) ?_
      refine lv_iconst (v := Int32.ofInt 2) C.hx C.hb dX1_number_29 rfl ?_
      obtain ⟨x30, M30, hc9, hf⟩ := cl_of hf
      refine r_callVi (rest := []) C hH hl o_t (by decide) rfl (m_X1_refuse hn o_t hc9) ML_RX1_51 MF_X1_refuse MI_X1_refuse rfl rfl (Nat.le_of_ble_eq_true rfl) ⟨Nat.le_of_ble_eq_true rfl, Nat.le_of_ble_eq_true rfl⟩ ⟨Nat.le_refl _, Nat.le_refl _⟩ dX1_number_30 (fun H locs hH => ?_)
      obtain ⟨hB9, hf⟩ := ck_of hf
      cases hf
      exact w_zret C hH hB9 dX1_number_33
  · refine lv_aload_n C.hx C.hb dX1_number_11 rfl (lv_at hl 0 rfl) ?_
    refine lv_iconst (v := Int32.ofInt 1) C.hx C.hb dX1_number_12 rfl ?_
    obtain ⟨x13, M13, hc9, hf⟩ := cl_of hf
    refine r_callVi (rest := []) C hH hl o_t (by decide) rfl (m_X1_refuse hn o_t hc9) ML_RX1_51 MF_X1_refuse MI_X1_refuse rfl rfl (Nat.le_of_ble_eq_true rfl) ⟨Nat.le_of_ble_eq_true rfl, Nat.le_of_ble_eq_true rfl⟩ ⟨Nat.le_refl _, Nat.le_refl _⟩ dX1_number_13 (fun H locs hH => ?_)
    obtain ⟨hB9, hf⟩ := ck_of hf
    cases hf
    exact w_zret C hH hB9 dX1_number_16
-- HeavierByHand$Reader.pass
def fn_X1_pass (t : Nat) (a1 : Int) (M : Mem) : Option (Int × Mem) :=
  cEq (M (t + 6) 7) a1 (cv (fn_X8_next (t + 6) M) fun M21 => some (1, M21)) (cl (fn_X1_refuse t 1 M) fun x13 M13 => ck (x13 = 0 ∨ x13 = 1) (some (x13, M13)))
set_option maxRecDepth 100000 in
set_option maxHeartbeats 4000000 in
theorem m_X1_pass {E : EE} {l : Launch} {n : Nat} {t : Nat} {a1 : Int} {M : Mem} {o : (Int × Mem)} (hn : nfull n) (o_t : ob n t 1) (hf : fn_X1_pass t a1 M = some o) : CT E l yX1_pass cX1_pass 2 (some .boolean) 1 21 0 0 [.ref (eb E + t), i3 a1] n (zf n) M (some (i3 o.1)) n (zf n) o.2 := by
  refine CT_of PN_RX1 (Nat.le_of_ble_eq_true rfl) ?_
  intro p e s m args below meth c C hH ls hl
  replace C : Cx E p s m args meth c cX1_pass 2 RX1 (some .boolean) n "pass" := C
  have hl : lv_has ls 2 [(0, .ref (eb E + t)), (1, i3 a1)] := hl
  unfold fn_X1_pass at hf
  refine lv_aload_n C.hx C.hb dX1_pass_0 rfl (lv_at hl 0 rfl) ?_
  refine g_ref (off := 6) C hH o_t (by decide) rfl rfl FL_RX1_21 dX1_pass_1 ?_
  refine g_int C hH (ly (i := 1) (off := 6) (k := 8) hn o_t rfl rfl rfl) (by decide) rfl FL_RX1_43 dX1_pass_4 ?_
  refine lv_iload_n C.hx C.hb dX1_pass_7 rfl (lv_at hl 1 rfl) ?_
  refine w_eq (tgt := 17) C hf dX1_pass_8 (by decide) (fun hf => ?_) (fun hf => ?_)
  · refine lv_aload_n C.hx C.hb dX1_pass_17 rfl (lv_at hl 0 rfl) ?_
    refine g_ref (off := 6) C hH o_t (by decide) rfl rfl FL_RX1_21 dX1_pass_18 ?_
    obtain ⟨M21, hc9, hf⟩ := cv_of hf
    refine r_callVv (rest := []) C hH hl (ly (i := 1) (off := 6) (k := 8) hn o_t rfl rfl rfl) (by decide) rfl (m_X8_next hn (ly (i := 1) (off := 6) (k := 8) hn o_t rfl rfl rfl) hc9) ML_RX1_55 MF_X8_next MI_X8_next rfl rfl (Nat.le_of_ble_eq_true rfl) ⟨Nat.le_of_ble_eq_true rfl, Nat.le_of_ble_eq_true rfl⟩ ⟨Nat.le_refl _, Nat.le_refl _⟩ dX1_pass_21 (fun H locs hH => ?_)
    refine lv_iconst (v := Int32.ofInt 1) C.hx C.hb dX1_pass_24 rfl ?_
    cases hf
    exact w_zret C hH (Or.inr rfl) dX1_pass_25
  · refine lv_aload_n C.hx C.hb dX1_pass_11 rfl (lv_at hl 0 rfl) ?_
    refine lv_iconst (v := Int32.ofInt 1) C.hx C.hb dX1_pass_12 rfl ?_
    obtain ⟨x13, M13, hc9, hf⟩ := cl_of hf
    refine r_callVi (rest := []) C hH hl o_t (by decide) rfl (m_X1_refuse hn o_t hc9) ML_RX1_51 MF_X1_refuse MI_X1_refuse rfl rfl (Nat.le_of_ble_eq_true rfl) ⟨Nat.le_of_ble_eq_true rfl, Nat.le_of_ble_eq_true rfl⟩ ⟨Nat.le_refl _, Nat.le_refl _⟩ dX1_pass_13 (fun H locs hH => ?_)
    obtain ⟨hB9, hf⟩ := ck_of hf
    cases hf
    exact w_zret C hH hB9 dX1_pass_16
-- HeavierByHand$Reader.isSignOf
def fn_X1_isSignOf_J72 : Option Int :=
  some 1
def fn_X1_isSignOf_J90 : Option Int :=
  some 1
def fn_X1_isSignOf (a0 : Int) (a1 : Int) (M : Mem) : Option Int :=
  ck (R3 a0) <| if a0 = 0 then (cEq a1 10 (some 1) (some 0)) else if a0 = 1 then (cEq a1 11 (some 1) (some 0)) else if a0 = 3 then (cEq a1 26 (fn_X1_isSignOf_J72) (cEq a1 27 (fn_X1_isSignOf_J72) (some 0))) else if a0 = 4 then (cEq a1 28 (fn_X1_isSignOf_J90) (cEq a1 29 (fn_X1_isSignOf_J90) (some 0))) else some 0
set_option maxRecDepth 100000 in
set_option maxHeartbeats 4000000 in
theorem j_X1_isSignOf_72 {p : Program} {l : Launch} {e : Env} {s : State} {m : MethodId} {args : Array Value} {below : List Frame} {meth : Method} {c : Code} {E : EE} {n : Nat} {o : Int} {M : Mem} {H : Heap} {locs : List Loc} {ls : Array Slot} (C : Cx E p s m args meth c cX1_isSignOf 2 RX1 (some .boolean) n "isSignOf") (hn : nfull n) (hf : fn_X1_isSignOf_J72 = some o) (hH : ST E s n (zf n) M H locs) (hl : lv_has ls 2 []) : W p l e { frames := 0, cells := 0, slots := 0, locals := 0 } s m args below meth c H locs 0 0 (MQ below (QC E (some (i3 o)) n (zf n) M) args s 0 0 (fr E)) (F0 m 72 ls []) := by
  unfold fn_X1_isSignOf_J72 at hf
  refine lv_iconst (v := Int32.ofInt 1) C.hx C.hb dX1_isSignOf_72 rfl ?_
  refine lv_goto (tgt := 77) C.hx C.hb dX1_isSignOf_73 (by decide) ?_
  cases hf
  exact w_zret C hH (Or.inr rfl) dX1_isSignOf_77
set_option maxRecDepth 100000 in
set_option maxHeartbeats 4000000 in
theorem j_X1_isSignOf_90 {p : Program} {l : Launch} {e : Env} {s : State} {m : MethodId} {args : Array Value} {below : List Frame} {meth : Method} {c : Code} {E : EE} {n : Nat} {o : Int} {M : Mem} {H : Heap} {locs : List Loc} {ls : Array Slot} (C : Cx E p s m args meth c cX1_isSignOf 2 RX1 (some .boolean) n "isSignOf") (hn : nfull n) (hf : fn_X1_isSignOf_J90 = some o) (hH : ST E s n (zf n) M H locs) (hl : lv_has ls 2 []) : W p l e { frames := 0, cells := 0, slots := 0, locals := 0 } s m args below meth c H locs 0 0 (MQ below (QC E (some (i3 o)) n (zf n) M) args s 0 0 (fr E)) (F0 m 90 ls []) := by
  unfold fn_X1_isSignOf_J90 at hf
  refine lv_iconst (v := Int32.ofInt 1) C.hx C.hb dX1_isSignOf_90 rfl ?_
  refine lv_goto (tgt := 95) C.hx C.hb dX1_isSignOf_91 (by decide) ?_
  cases hf
  exact w_zret C hH (Or.inr rfl) dX1_isSignOf_95
set_option maxRecDepth 100000 in
set_option maxHeartbeats 4000000 in
theorem m_X1_isSignOf {E : EE} {l : Launch} {n : Nat} {a0 : Int} {a1 : Int} {M : Mem} {o : Int} (hn : nfull n) (hf : fn_X1_isSignOf a0 a1 M = some o) : CT E l yX1_isSignOf cX1_isSignOf 2 (some .boolean) 0 0 0 0 [i3 a0, i3 a1] n (zf n) M (some (i3 o)) n (zf n) M := by
  refine CT_of PN_RX1 (Nat.le_of_ble_eq_true rfl) ?_
  intro p e s m args below meth c C hH ls hl
  replace C : Cx E p s m args meth c cX1_isSignOf 2 RX1 (some .boolean) n "isSignOf" := C
  have hl : lv_has ls 2 [(0, i3 a0), (1, i3 a1)] := hl
  unfold fn_X1_isSignOf at hf
  refine lv_iload_n C.hx C.hb dX1_isSignOf_0 rfl (lv_at hl 0 rfl) ?_
  obtain ⟨hR9, hf⟩ := ck_of hf
  by_cases e0 : a0 = 0
  · rw [if_pos e0] at hf
    refine r_tab (tgt := 36) C e0 ⟨by decide, by decide⟩ dX1_isSignOf_1 (by decide) (by decide) rfl (by decide) ?_
    refine lv_iload_n C.hx C.hb dX1_isSignOf_36 rfl (lv_at hl 1 rfl) ?_
    refine lv_bipush (v := Int32.ofInt 10) C.hx C.hb dX1_isSignOf_37 (by decide) ?_
    refine w_ne (tgt := 46) C hf dX1_isSignOf_39 (by decide) (fun hf => ?_) (fun hf => ?_)
    · refine lv_iconst (v := Int32.ofInt 0) C.hx C.hb dX1_isSignOf_46 rfl ?_
      cases hf
      exact w_zret C hH (Or.inl rfl) dX1_isSignOf_47
    · refine lv_iconst (v := Int32.ofInt 1) C.hx C.hb dX1_isSignOf_42 rfl ?_
      refine lv_goto (tgt := 47) C.hx C.hb dX1_isSignOf_43 (by decide) ?_
      cases hf
      exact w_zret C hH (Or.inr rfl) dX1_isSignOf_47
  · rw [if_neg e0] at hf
    by_cases e1 : a0 = 1
    · rw [if_pos e1] at hf
      refine r_tab (tgt := 48) C e1 ⟨by decide, by decide⟩ dX1_isSignOf_1 (by decide) (by decide) rfl (by decide) ?_
      refine lv_iload_n C.hx C.hb dX1_isSignOf_48 rfl (lv_at hl 1 rfl) ?_
      refine lv_bipush (v := Int32.ofInt 11) C.hx C.hb dX1_isSignOf_49 (by decide) ?_
      refine w_ne (tgt := 58) C hf dX1_isSignOf_51 (by decide) (fun hf => ?_) (fun hf => ?_)
      · refine lv_iconst (v := Int32.ofInt 0) C.hx C.hb dX1_isSignOf_58 rfl ?_
        cases hf
        exact w_zret C hH (Or.inl rfl) dX1_isSignOf_59
      · refine lv_iconst (v := Int32.ofInt 1) C.hx C.hb dX1_isSignOf_54 rfl ?_
        refine lv_goto (tgt := 59) C.hx C.hb dX1_isSignOf_55 (by decide) ?_
        cases hf
        exact w_zret C hH (Or.inr rfl) dX1_isSignOf_59
    · rw [if_neg e1] at hf
      by_cases e2 : a0 = 3
      · rw [if_pos e2] at hf
        refine r_tab (tgt := 60) C e2 ⟨by decide, by decide⟩ dX1_isSignOf_1 (by decide) (by decide) rfl (by decide) ?_
        refine lv_iload_n C.hx C.hb dX1_isSignOf_60 rfl (lv_at hl 1 rfl) ?_
        refine lv_bipush (v := Int32.ofInt 26) C.hx C.hb dX1_isSignOf_61 (by decide) ?_
        refine w_eq (tgt := 72) C hf dX1_isSignOf_63 (by decide) (fun hf => ?_) (fun hf => ?_)
        · exact j_X1_isSignOf_72 C hn hf hH (lv_sub hl [] rfl)
        · refine lv_iload_n C.hx C.hb dX1_isSignOf_66 rfl (lv_at hl 1 rfl) ?_
          refine lv_bipush (v := Int32.ofInt 27) C.hx C.hb dX1_isSignOf_67 (by decide) ?_
          refine w_ne (tgt := 76) C hf dX1_isSignOf_69 (by decide) (fun hf => ?_) (fun hf => ?_)
          · refine lv_iconst (v := Int32.ofInt 0) C.hx C.hb dX1_isSignOf_76 rfl ?_
            cases hf
            exact w_zret C hH (Or.inl rfl) dX1_isSignOf_77
          · exact j_X1_isSignOf_72 C hn hf hH (lv_sub hl [] rfl)
      · rw [if_neg e2] at hf
        by_cases e3 : a0 = 4
        · rw [if_pos e3] at hf
          refine r_tab (tgt := 78) C e3 ⟨by decide, by decide⟩ dX1_isSignOf_1 (by decide) (by decide) rfl (by decide) ?_
          refine lv_iload_n C.hx C.hb dX1_isSignOf_78 rfl (lv_at hl 1 rfl) ?_
          refine lv_bipush (v := Int32.ofInt 28) C.hx C.hb dX1_isSignOf_79 (by decide) ?_
          refine w_eq (tgt := 90) C hf dX1_isSignOf_81 (by decide) (fun hf => ?_) (fun hf => ?_)
          · exact j_X1_isSignOf_90 C hn hf hH (lv_sub hl [] rfl)
          · refine lv_iload_n C.hx C.hb dX1_isSignOf_84 rfl (lv_at hl 1 rfl) ?_
            refine lv_bipush (v := Int32.ofInt 29) C.hx C.hb dX1_isSignOf_85 (by decide) ?_
            refine w_ne (tgt := 94) C hf dX1_isSignOf_87 (by decide) (fun hf => ?_) (fun hf => ?_)
            · refine lv_iconst (v := Int32.ofInt 0) C.hx C.hb dX1_isSignOf_94 rfl ?_
              cases hf
              exact w_zret C hH (Or.inl rfl) dX1_isSignOf_95
            · exact j_X1_isSignOf_90 C hn hf hH (lv_sub hl [] rfl)
        · rw [if_neg e3] at hf
          by_cases f0 : a0 = 2
          · refine r_tab (tgt := 96) C f0 ⟨by decide, by decide⟩ dX1_isSignOf_1 (by decide) (by decide) rfl (by decide) ?_
            refine lv_iconst (v := Int32.ofInt 0) C.hx C.hb dX1_isSignOf_96 rfl ?_
            cases hf
            exact w_zret C hH (Or.inl rfl) dX1_isSignOf_97
          · skip
            refine r_tabO (tgt := 96) C hR9 dX1_isSignOf_1 (by omega) (by decide) ?_
            refine lv_iconst (v := Int32.ofInt 0) C.hx C.hb dX1_isSignOf_96 rfl ?_
            cases hf
            exact w_zret C hH (Or.inl rfl) dX1_isSignOf_97
-- HeavierByHand$Reader.deed
def fn_X1_deed_J22 (t : Nat) (a1 : Int) (M : Mem) (v2_7 : Int) (u0_22 : Int) : Option (Int × Mem) :=
  cl (fn_X1_number t u0_22 M) fun x22 M22 => cEq x22 0 (some (0, M22)) (cEq a1 6 (cl (fn_X1_pass t 9 M22) fun x51 M51 => cEq x51 0 (some (0, M51)) (nm ((M51 (t + 6) 8)) fun v3_66 => cl (fn_X1_number t 9 M51) fun x70 M70 => cEq x70 0 (some (0, M70)) (cv (fn_X7_addClause (t + 1) a1 v2_7 v3_66 M70) fun M85 => some (1, M85)))) (cv (fn_X7_addClause (t + 1) a1 v2_7 0 M22) fun M43 => some (1, M43)))
def fn_X1_deed (t : Nat) (a1 : Int) (M : Mem) : Option (Int × Mem) :=
  nm ((M (t + 6) 8)) fun v2_7 => cEq a1 8 (fn_X1_deed_J22 t a1 M v2_7 99) (fn_X1_deed_J22 t a1 M v2_7 19)
set_option maxRecDepth 100000 in
set_option maxHeartbeats 4000000 in
theorem j_X1_deed_22 {p : Program} {l : Launch} {e : Env} {s : State} {m : MethodId} {args : Array Value} {below : List Frame} {meth : Method} {c : Code} {E : EE} {n : Nat} {o : (Int × Mem)} {t : Nat} {a1 : Int} {M : Mem} {v2_7 : Int} {u0_22 : Int} {H : Heap} {locs : List Loc} {ls : Array Slot} (C : Cx E p s m args meth c cX1_deed 4 RX1 (some .boolean) n "deed") (hn : nfull n) (o_t : ob n t 1) (hf : fn_X1_deed_J22 t a1 M v2_7 u0_22 = some o) (hH : ST E s n (zf n) M H locs) (hl : lv_has ls 4 [(0, .ref (eb E + t)), (1, i3 a1), (2, i3 v2_7)]) : W p l e { frames := 2, cells := 0, slots := 0, locals := 42 } s m args below meth c H locs 0 0 (MQ below (QC E (some (i3 o.1)) n (zf n) o.2) args s 0 0 (fr E)) (F0 m 22 ls [i3 u0_22, .ref (eb E + t)]) := by
  unfold fn_X1_deed_J22 at hf
  obtain ⟨x22, M22, hc9, hf⟩ := cl_of hf
  refine r_callVi (rest := []) C hH hl o_t (by decide) rfl (m_X1_number hn o_t hc9) ML_RX1_94 MF_X1_number MI_X1_number rfl rfl (Nat.le_of_ble_eq_true rfl) ⟨Nat.le_of_ble_eq_true rfl, Nat.le_of_ble_eq_true rfl⟩ ⟨Nat.le_refl _, Nat.le_refl _⟩ dX1_deed_22 (fun H locs hH => ?_)
  refine w_ne0 (tgt := 30) C hf dX1_deed_25 (by decide) (fun hf => ?_) (fun hf => ?_)
  · refine lv_iload_n C.hx C.hb dX1_deed_30 rfl (lv_at hl 1 rfl) ?_
    refine lv_bipush (v := Int32.ofInt 6) C.hx C.hb dX1_deed_31 (by decide) ?_
    refine w_eq (tgt := 48) C hf dX1_deed_33 (by decide) (fun hf => ?_) (fun hf => ?_)
    · refine lv_aload_n C.hx C.hb dX1_deed_48 rfl (lv_at hl 0 rfl) ?_
      refine lv_bipush (v := Int32.ofInt 9) C.hx C.hb dX1_deed_49 (by decide) ?_
      obtain ⟨x51, M51, hc9, hf⟩ := cl_of hf
      refine r_callVi (rest := []) C hH hl o_t (by decide) rfl (m_X1_pass hn o_t hc9) ML_RX1_80 MF_X1_pass MI_X1_pass rfl rfl (Nat.le_of_ble_eq_true rfl) ⟨Nat.le_of_ble_eq_true rfl, Nat.le_of_ble_eq_true rfl⟩ ⟨Nat.le_refl _, Nat.le_refl _⟩ dX1_deed_51 (fun H locs hH => ?_)
      refine w_ne0 (tgt := 59) C hf dX1_deed_54 (by decide) (fun hf => ?_) (fun hf => ?_)
      · refine lv_aload_n C.hx C.hb dX1_deed_59 rfl (lv_at hl 0 rfl) ?_
        refine g_ref (off := 6) C hH o_t (by decide) rfl rfl FL_RX1_21 dX1_deed_60 ?_
        refine g_int C hH (ly (i := 1) (off := 6) (k := 8) hn o_t rfl rfl rfl) (by decide) rfl FL_RX1_58 dX1_deed_63 ?_
        refine r_nm hf (fun v3_66 hf => ?_)
        refine lv_istore_n (lv' := [(3, i3 v3_66), (0, .ref (eb E + t)), (1, i3 a1), (2, i3 v2_7)]) C.hx C.hb dX1_deed_66 rfl hl (by decide) rfl (fun ls hl => ?_)
        refine lv_aload_n C.hx C.hb dX1_deed_67 rfl (lv_at hl 1 rfl) ?_
        refine lv_bipush (v := Int32.ofInt 9) C.hx C.hb dX1_deed_68 (by decide) ?_
        obtain ⟨x70, M70, hc9, hf⟩ := cl_of hf
        refine r_callVi (rest := []) C hH hl o_t (by decide) rfl (m_X1_number hn o_t hc9) ML_RX1_94 MF_X1_number MI_X1_number rfl rfl (Nat.le_of_ble_eq_true rfl) ⟨Nat.le_of_ble_eq_true rfl, Nat.le_of_ble_eq_true rfl⟩ ⟨Nat.le_refl _, Nat.le_refl _⟩ dX1_deed_70 (fun H locs hH => ?_)
        refine w_ne0 (tgt := 78) C hf dX1_deed_73 (by decide) (fun hf => ?_) (fun hf => ?_)
        · refine lv_aload_n C.hx C.hb dX1_deed_78 rfl (lv_at hl 1 rfl) ?_
          refine g_ref (off := 1) C hH o_t (by decide) rfl rfl FL_RX1_12 dX1_deed_79 ?_
          refine lv_iload_n C.hx C.hb dX1_deed_82 rfl (lv_at hl 2 rfl) ?_
          refine lv_iload_n C.hx C.hb dX1_deed_83 rfl (lv_at hl 3 rfl) ?_
          refine lv_iload_n C.hx C.hb dX1_deed_84 rfl (lv_at hl 0 rfl) ?_
          obtain ⟨M85, hc9, hf⟩ := cv_of hf
          refine r_callVv (rest := []) C hH hl (ly (i := 0) (off := 1) (k := 7) hn o_t rfl rfl rfl) (by decide) rfl (m_X7_addClause hn (ly (i := 0) (off := 1) (k := 7) hn o_t rfl rfl rfl) hc9) ML_RX1_97 MF_X7_addClause MI_X7_addClause rfl rfl (Nat.le_of_ble_eq_true rfl) ⟨Nat.le_of_ble_eq_true rfl, Nat.le_of_ble_eq_true rfl⟩ ⟨Nat.le_refl _, Nat.le_refl _⟩ dX1_deed_85 (fun H locs hH => ?_)
          refine lv_iconst (v := Int32.ofInt 1) C.hx C.hb dX1_deed_88 rfl ?_
          cases hf
          exact w_zret C hH (Or.inr rfl) dX1_deed_89
        · refine lv_iconst (v := Int32.ofInt 0) C.hx C.hb dX1_deed_76 rfl ?_
          cases hf
          exact w_zret C hH (Or.inl rfl) dX1_deed_77
      · refine lv_iconst (v := Int32.ofInt 0) C.hx C.hb dX1_deed_57 rfl ?_
        cases hf
        exact w_zret C hH (Or.inl rfl) dX1_deed_58
    · refine lv_aload_n C.hx C.hb dX1_deed_36 rfl (lv_at hl 0 rfl) ?_
      refine g_ref (off := 1) C hH o_t (by decide) rfl rfl FL_RX1_12 dX1_deed_37 ?_
      refine lv_iload_n C.hx C.hb dX1_deed_40 rfl (lv_at hl 1 rfl) ?_
      refine lv_iload_n C.hx C.hb dX1_deed_41 rfl (lv_at hl 2 rfl) ?_
      refine lv_iconst (v := Int32.ofInt 0) C.hx C.hb dX1_deed_42 rfl ?_
      obtain ⟨M43, hc9, hf⟩ := cv_of hf
      refine r_callVv (rest := []) C hH hl (ly (i := 0) (off := 1) (k := 7) hn o_t rfl rfl rfl) (by decide) rfl (m_X7_addClause hn (ly (i := 0) (off := 1) (k := 7) hn o_t rfl rfl rfl) hc9) ML_RX1_97 MF_X7_addClause MI_X7_addClause rfl rfl (Nat.le_of_ble_eq_true rfl) ⟨Nat.le_of_ble_eq_true rfl, Nat.le_of_ble_eq_true rfl⟩ ⟨Nat.le_refl _, Nat.le_refl _⟩ dX1_deed_43 (fun H locs hH => ?_)
      refine lv_iconst (v := Int32.ofInt 1) C.hx C.hb dX1_deed_46 rfl ?_
      cases hf
      exact w_zret C hH (Or.inr rfl) dX1_deed_47
  · refine lv_iconst (v := Int32.ofInt 0) C.hx C.hb dX1_deed_28 rfl ?_
    cases hf
    exact w_zret C hH (Or.inl rfl) dX1_deed_29
set_option maxRecDepth 100000 in
set_option maxHeartbeats 4000000 in
theorem m_X1_deed {E : EE} {l : Launch} {n : Nat} {t : Nat} {a1 : Int} {M : Mem} {o : (Int × Mem)} (hn : nfull n) (o_t : ob n t 1) (hf : fn_X1_deed t a1 M = some o) : CT E l yX1_deed cX1_deed 4 (some .boolean) 2 42 0 0 [.ref (eb E + t), i3 a1] n (zf n) M (some (i3 o.1)) n (zf n) o.2 := by
  refine CT_of PN_RX1 (Nat.le_of_ble_eq_true rfl) ?_
  intro p e s m args below meth c C hH ls hl
  replace C : Cx E p s m args meth c cX1_deed 4 RX1 (some .boolean) n "deed" := C
  have hl : lv_has ls 4 [(0, .ref (eb E + t)), (1, i3 a1)] := hl
  unfold fn_X1_deed at hf
  refine lv_aload_n C.hx C.hb dX1_deed_0 rfl (lv_at hl 0 rfl) ?_
  refine g_ref (off := 6) C hH o_t (by decide) rfl rfl FL_RX1_21 dX1_deed_1 ?_
  refine g_int C hH (ly (i := 1) (off := 6) (k := 8) hn o_t rfl rfl rfl) (by decide) rfl FL_RX1_58 dX1_deed_4 ?_
  refine r_nm hf (fun v2_7 hf => ?_)
  refine lv_istore_n (lv' := [(2, i3 v2_7), (0, .ref (eb E + t)), (1, i3 a1)]) C.hx C.hb dX1_deed_7 rfl hl (by decide) rfl (fun ls hl => ?_)
  refine lv_aload_n C.hx C.hb dX1_deed_8 rfl (lv_at hl 1 rfl) ?_
  refine lv_iload_n C.hx C.hb dX1_deed_9 rfl (lv_at hl 2 rfl) ?_
  refine lv_bipush (v := Int32.ofInt 8) C.hx C.hb dX1_deed_10 (by decide) ?_
  refine w_ne (tgt := 20) C hf dX1_deed_12 (by decide) (fun hf => ?_) (fun hf => ?_)
  · refine lv_bipush (v := Int32.ofInt 19) C.hx C.hb dX1_deed_20 (by decide) ?_
    exact j_X1_deed_22 C hn o_t hf hH (lv_sub hl [1, 2, 0] rfl)
  · refine lv_bipush (v := Int32.ofInt 99) C.hx C.hb dX1_deed_15 (by decide) ?_
    refine lv_goto (tgt := 22) C.hx C.hb dX1_deed_17 (by decide) ?_
    exact j_X1_deed_22 C hn o_t hf hH (lv_sub hl [1, 2, 0] rfl)
