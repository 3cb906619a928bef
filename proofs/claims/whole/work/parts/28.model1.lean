-- HeavierByHandModel.copies
def fn_X11_copies_J40 (v2_2 : Int) (rec2 : Int → Mem → Option Mem) (M40 : Mem) : Option Mem :=
  nm (v2_2 + 1) fun v2_40 => rec2 v2_40 M40
def fn_X11_copies_L2 (t : Nat) (a1 : Int) (rec2 : Int → Mem → Option Mem) (v2_2 : Int) (M2 : Mem) : Option Mem :=
  cLt v2_2 288 (cEq a1 0 (rd M2 (t + 2) 288 v2_2 fun x38 => wr M2 (t + 1) 288 v2_2 x38 fun M39 => fn_X11_copies_J40 v2_2 rec2 M39) (rd M2 (t + 1) 288 v2_2 fun x23 => wr M2 (t + 2) 288 v2_2 x23 fun M24 => fn_X11_copies_J40 v2_2 rec2 M24)) (some M2)
def fn_X11_copies (t : Nat) (a1 : Int) (M : Mem) : Option Mem :=
  lq2 (fn_X11_copies_L2 t a1) FU 0 M
set_option maxRecDepth 100000 in
set_option maxHeartbeats 4000000 in
theorem j_X11_copies_40 {p : Program} {l : Launch} {e : Env} {s : State} {m : MethodId} {args : Array Value} {below : List Frame} {meth : Method} {c : Code} {E : EE} {n : Nat} {o : Mem} {t : Nat} {a1 : Int} {v2_2 : Int} {rec2 : Int → Mem → Option Mem} {M40 : Mem} {H : Heap} {locs : List Loc} {ls : Array Slot} (C : Cx E p s m args meth c cX11_copies 3 RX11 none n "copies") (hn : nfull n) (o_t : ob n t 11) (h_rec2 : ∀ {v2_2 : Int} {M2 : Mem} {H : Heap} {locs : List Loc} {ls : Array Slot}, rec2 v2_2 M2 = some o → ST E s n (zf n) M2 H locs → lv_has ls 3 [(0, .ref (eb E + t)), (1, i3 a1), (2, i3 v2_2)] → W p l e { frames := 0, cells := 0, slots := 0, locals := 0 } s m args below meth c H locs 0 0 (MQ below (QC E none n (zf n) o) args s 0 0 (fr E)) (F0 m 2 ls [])) (hf : fn_X11_copies_J40 v2_2 rec2 M40 = some o) (hH : ST E s n (zf n) M40 H locs) (hl : lv_has ls 3 [(0, .ref (eb E + t)), (1, i3 a1), (2, i3 v2_2)]) : W p l e { frames := 0, cells := 0, slots := 0, locals := 0 } s m args below meth c H locs 0 0 (MQ below (QC E none n (zf n) o) args s 0 0 (fr E)) (F0 m 40 ls []) := by
  unfold fn_X11_copies_J40 at hf
  refine r_iinc (k := 2) (lv' := fun v => [(2, i3 v), (0, .ref (eb E + t)), (1, i3 a1)]) C hf dX11_copies_40 hl rfl (by decide) (fun _ => rfl) (fun v2_40 ls hf hl => ?_)
  refine lv_goto (tgt := 2) C.hx C.hb dX11_copies_43 (by decide) ?_
  exact h_rec2 hf hH (lv_sub hl [1, 2, 0] rfl)
set_option maxRecDepth 100000 in
set_option maxHeartbeats 4000000 in
theorem l_X11_copies_2 {p : Program} {l : Launch} {e : Env} {s : State} {m : MethodId} {args : Array Value} {below : List Frame} {meth : Method} {c : Code} {E : EE} {n : Nat} {o : Mem} {t : Nat} {a1 : Int} (C : Cx E p s m args meth c cX11_copies 3 RX11 none n "copies") (hn : nfull n) (o_t : ob n t 11) : ∀ (k : Nat) (v2_2 : Int) (M2 : Mem) (H : Heap) (locs : List Loc) (ls : Array Slot), lq2 (fn_X11_copies_L2 t a1) k v2_2 M2 = some o → ST E s n (zf n) M2 H locs → lv_has ls 3 [(0, .ref (eb E + t)), (1, i3 a1), (2, i3 v2_2)] → W p l e { frames := 0, cells := 0, slots := 0, locals := 0 } s m args below meth c H locs 0 0 (MQ below (QC E none n (zf n) o) args s 0 0 (fr E)) (F0 m 2 ls []) := by
  intro k
  induction k with
  | zero => intro v2_2 M2 H locs ls hf; cases hf
  | succ k ih =>
    intro v2_2 M2 H locs ls hf hH hl
    have h_rec2 : ∀ {v2_2 : Int} {M2 : Mem} {H : Heap} {locs : List Loc} {ls : Array Slot}, lq2 (fn_X11_copies_L2 t a1) k v2_2 M2 = some o → ST E s n (zf n) M2 H locs → lv_has ls 3 [(0, .ref (eb E + t)), (1, i3 a1), (2, i3 v2_2)] → W p l e { frames := 0, cells := 0, slots := 0, locals := 0 } s m args below meth c H locs 0 0 (MQ below (QC E none n (zf n) o) args s 0 0 (fr E)) (F0 m 2 ls []) := fun {v2_2} {M2} {H} {locs} {ls} a b c => ih v2_2 M2 H locs ls a b c
    replace hf : fn_X11_copies_L2 t a1 (lq2 (fn_X11_copies_L2 t a1) k) v2_2 M2 = some o := hf
    generalize lq2 (fn_X11_copies_L2 t a1) k = rec2 at hf h_rec2
    unfold fn_X11_copies_L2 at hf
    refine lv_iload_n C.hx C.hb dX11_copies_2 rfl (lv_at hl 2 rfl) ?_
    refine lv_sipush (v := Int32.ofInt 288) C.hx C.hb dX11_copies_3 (by decide) ?_
    refine w_ge (tgt := 46) C hf dX11_copies_6 (by decide) (fun hf => ?_) (fun hf => ?_)
    · cases hf
      exact w_vret C hH dX11_copies_46
    · refine lv_iload_n C.hx C.hb dX11_copies_9 rfl (lv_at hl 1 rfl) ?_
      refine w_eq0 (tgt := 28) C hf dX11_copies_10 (by decide) (fun hf => ?_) (fun hf => ?_)
      · refine lv_aload_n C.hx C.hb dX11_copies_28 rfl (lv_at hl 0 rfl) ?_
        refine g_ref (off := 1) C hH o_t (by decide) rfl rfl FL_RX11_7 dX11_copies_29 ?_
        refine lv_iload_n C.hx C.hb dX11_copies_32 rfl (lv_at hl 2 rfl) ?_
        refine lv_aload_n C.hx C.hb dX11_copies_33 rfl (lv_at hl 0 rfl) ?_
        refine g_ref (off := 2) C hH o_t (by decide) rfl rfl FL_RX11_13 dX11_copies_34 ?_
        refine lv_iload_n C.hx C.hb dX11_copies_37 rfl (lv_at hl 2 rfl) ?_
        refine r_iald C hH (ly (i := 1) (off := 2) (k := 12) hn o_t rfl rfl rfl) (lyn (i := 1) (off := 2) (N := 287) hn o_t rfl rfl rfl) hf dX11_copies_38 (fun x38 hf => ?_)
        refine r_iast C hH (ly (i := 0) (off := 1) (k := 12) hn o_t rfl rfl rfl) (lyn (i := 0) (off := 1) (N := 287) hn o_t rfl rfl rfl) hf dX11_copies_39 (fun M39 H locs hf hH => ?_)
        exact j_X11_copies_40 C hn o_t h_rec2 hf hH (lv_sub hl [0, 1, 2] rfl)
      · refine lv_aload_n C.hx C.hb dX11_copies_13 rfl (lv_at hl 0 rfl) ?_
        refine g_ref (off := 2) C hH o_t (by decide) rfl rfl FL_RX11_13 dX11_copies_14 ?_
        refine lv_iload_n C.hx C.hb dX11_copies_17 rfl (lv_at hl 2 rfl) ?_
        refine lv_aload_n C.hx C.hb dX11_copies_18 rfl (lv_at hl 0 rfl) ?_
        refine g_ref (off := 1) C hH o_t (by decide) rfl rfl FL_RX11_7 dX11_copies_19 ?_
        refine lv_iload_n C.hx C.hb dX11_copies_22 rfl (lv_at hl 2 rfl) ?_
        refine r_iald C hH (ly (i := 0) (off := 1) (k := 12) hn o_t rfl rfl rfl) (lyn (i := 0) (off := 1) (N := 287) hn o_t rfl rfl rfl) hf dX11_copies_23 (fun x23 hf => ?_)
        refine r_iast C hH (ly (i := 1) (off := 2) (k := 12) hn o_t rfl rfl rfl) (lyn (i := 1) (off := 2) (N := 287) hn o_t rfl rfl rfl) hf dX11_copies_24 (fun M24 H locs hf hH => ?_)
        refine lv_goto (tgt := 40) C.hx C.hb dX11_copies_25 (by decide) ?_
        exact j_X11_copies_40 C hn o_t h_rec2 hf hH (lv_sub hl [0, 1, 2] rfl)
set_option maxRecDepth 100000 in
set_option maxHeartbeats 4000000 in
theorem m_X11_copies {E : EE} {l : Launch} {n : Nat} {t : Nat} {a1 : Int} {M : Mem} {o : Mem} (hn : nfull n) (o_t : ob n t 11) (hf : fn_X11_copies t a1 M = some o) : CT E l yX11_copies cX11_copies 3 none 0 0 0 0 [.ref (eb E + t), i3 a1] n (zf n) M none n (zf n) o := by
  refine CT_of PN_RX11 (Nat.le_of_ble_eq_true rfl) ?_
  intro p e s m args below meth c C hH ls hl
  replace C : Cx E p s m args meth c cX11_copies 3 RX11 none n "copies" := C
  have hl : lv_has ls 3 [(0, .ref (eb E + t)), (1, i3 a1)] := hl
  unfold fn_X11_copies at hf
  refine lv_iconst (v := Int32.ofInt 0) C.hx C.hb dX11_copies_0 rfl ?_
  refine lv_istore_n (lv' := [(2, i3 0), (0, .ref (eb E + t)), (1, i3 a1)]) C.hx C.hb dX11_copies_1 rfl hl (by decide) rfl (fun ls hl => ?_)
  exact l_X11_copies_2 C hn o_t FU _ _ _ _ _ hf hH (lv_sub hl [1, 2, 0] rfl)
-- HeavierByHandModel.in
def fn_X11_in_J14 : Option Int :=
  some 0
def fn_X11_in (a0 : Int) (a1 : Int) (a2 : Int) (M : Mem) : Option Int :=
  cLt a0 a1 (fn_X11_in_J14) (cLt a2 a0 (fn_X11_in_J14) (some 1))
set_option maxRecDepth 100000 in
set_option maxHeartbeats 4000000 in
theorem j_X11_in_14 {p : Program} {l : Launch} {e : Env} {s : State} {m : MethodId} {args : Array Value} {below : List Frame} {meth : Method} {c : Code} {E : EE} {n : Nat} {o : Int} {M : Mem} {H : Heap} {locs : List Loc} {ls : Array Slot} (C : Cx E p s m args meth c cX11_in 3 RX11 (some .boolean) n "in") (hn : nfull n) (hf : fn_X11_in_J14 = some o) (hH : ST E s n (zf n) M H locs) (hl : lv_has ls 3 []) : W p l e { frames := 0, cells := 0, slots := 0, locals := 0 } s m args below meth c H locs 0 0 (MQ below (QC E (some (i3 o)) n (zf n) M) args s 0 0 (fr E)) (F0 m 14 ls []) := by
  unfold fn_X11_in_J14 at hf
  refine lv_iconst (v := Int32.ofInt 0) C.hx C.hb dX11_in_14 rfl ?_
  cases hf
  exact w_zret C hH (Or.inl rfl) dX11_in_15
set_option maxRecDepth 100000 in
set_option maxHeartbeats 4000000 in
theorem m_X11_in {E : EE} {l : Launch} {n : Nat} {a0 : Int} {a1 : Int} {a2 : Int} {M : Mem} {o : Int} (hn : nfull n) (hf : fn_X11_in a0 a1 a2 M = some o) : CT E l yX11_in cX11_in 3 (some .boolean) 0 0 0 0 [i3 a0, i3 a1, i3 a2] n (zf n) M (some (i3 o)) n (zf n) M := by
  refine CT_of PN_RX11 (Nat.le_of_ble_eq_true rfl) ?_
  intro p e s m args below meth c C hH ls hl
  replace C : Cx E p s m args meth c cX11_in 3 RX11 (some .boolean) n "in" := C
  have hl : lv_has ls 3 [(0, i3 a0), (1, i3 a1), (2, i3 a2)] := hl
  unfold fn_X11_in at hf
  refine lv_iload_n C.hx C.hb dX11_in_0 rfl (lv_at hl 0 rfl) ?_
  refine lv_iload_n C.hx C.hb dX11_in_1 rfl (lv_at hl 1 rfl) ?_
  refine w_lt (tgt := 14) C hf dX11_in_2 (by decide) (fun hf => ?_) (fun hf => ?_)
  · exact j_X11_in_14 C hn hf hH (lv_sub hl [] rfl)
  · refine lv_iload_n C.hx C.hb dX11_in_5 rfl (lv_at hl 0 rfl) ?_
    refine lv_iload_n C.hx C.hb dX11_in_6 rfl (lv_at hl 2 rfl) ?_
    refine w_gt (tgt := 14) C hf dX11_in_7 (by decide) (fun hf => ?_) (fun hf => ?_)
    · exact j_X11_in_14 C hn hf hH (lv_sub hl [] rfl)
    · refine lv_iconst (v := Int32.ofInt 1) C.hx C.hb dX11_in_10 rfl ?_
      refine lv_goto (tgt := 15) C.hx C.hb dX11_in_11 (by decide) ?_
      cases hf
      exact w_zret C hH (Or.inr rfl) dX11_in_15
-- HeavierByHandModel.isHand
def fn_X11_isHand (t : Nat) (a1 : Int) (M : Mem) : Option Int :=
  rd M (t + 1) 288 0 fun x7 => cu (fn_X11_in a1 0 (x7 - 1) M) fun x10 => ck (x10 = 0 ∨ x10 = 1) (some x10)
set_option maxRecDepth 100000 in
set_option maxHeartbeats 4000000 in
theorem m_X11_isHand {E : EE} {l : Launch} {n : Nat} {t : Nat} {a1 : Int} {M : Mem} {o : Int} (hn : nfull n) (o_t : ob n t 11) (hf : fn_X11_isHand t a1 M = some o) : CT E l yX11_isHand cX11_isHand 2 (some .boolean) 1 22 0 0 [.ref (eb E + t), i3 a1] n (zf n) M (some (i3 o)) n (zf n) M := by
  refine CT_of PN_RX11 (Nat.le_of_ble_eq_true rfl) ?_
  intro p e s m args below meth c C hH ls hl
  replace C : Cx E p s m args meth c cX11_isHand 2 RX11 (some .boolean) n "isHand" := C
  have hl : lv_has ls 2 [(0, .ref (eb E + t)), (1, i3 a1)] := hl
  unfold fn_X11_isHand at hf
  refine lv_iload_n C.hx C.hb dX11_isHand_0 rfl (lv_at hl 1 rfl) ?_
  refine lv_iconst (v := Int32.ofInt 0) C.hx C.hb dX11_isHand_1 rfl ?_
  refine lv_aload_n C.hx C.hb dX11_isHand_2 rfl (lv_at hl 0 rfl) ?_
  refine g_ref (off := 1) C hH o_t (by decide) rfl rfl FL_RX11_7 dX11_isHand_3 ?_
  refine lv_iconst (v := Int32.ofInt 0) C.hx C.hb dX11_isHand_6 rfl ?_
  refine r_iald C hH (ly (i := 0) (off := 1) (k := 12) hn o_t rfl rfl rfl) (lyn (i := 0) (off := 1) (N := 287) hn o_t rfl rfl rfl) hf dX11_isHand_7 (fun x7 hf => ?_)
  refine lv_iconst (v := Int32.ofInt 1) C.hx C.hb dX11_isHand_8 rfl ?_
  refine w_isub C dX11_isHand_9 ?_
  obtain ⟨x10, hc9, hf⟩ := cu_of hf
  refine r_callSi (rest := []) C hH hl (m_X11_in hn hc9) ML_RX11_115 MF_X11_in MS_X11_in rfl rfl (Nat.le_of_ble_eq_true rfl) ⟨Nat.le_of_ble_eq_true rfl, Nat.le_of_ble_eq_true rfl⟩ ⟨Nat.le_refl _, Nat.le_refl _⟩ dX11_isHand_10 (fun H locs hH => ?_)
  obtain ⟨hB9, hf⟩ := ck_of hf
  cases hf
  exact w_zret C hH hB9 dX11_isHand_13
-- HeavierByHandModel.isCoin
def fn_X11_isCoin (t : Nat) (a1 : Int) (M : Mem) : Option Int :=
  rd M (t + 1) 288 1 fun x7 => cu (fn_X11_in a1 0 (x7 - 1) M) fun x10 => ck (x10 = 0 ∨ x10 = 1) (some x10)
set_option maxRecDepth 100000 in
set_option maxHeartbeats 4000000 in
theorem m_X11_isCoin {E : EE} {l : Launch} {n : Nat} {t : Nat} {a1 : Int} {M : Mem} {o : Int} (hn : nfull n) (o_t : ob n t 11) (hf : fn_X11_isCoin t a1 M = some o) : CT E l yX11_isCoin cX11_isCoin 2 (some .boolean) 1 22 0 0 [.ref (eb E + t), i3 a1] n (zf n) M (some (i3 o)) n (zf n) M := by
  refine CT_of PN_RX11 (Nat.le_of_ble_eq_true rfl) ?_
  intro p e s m args below meth c C hH ls hl
  replace C : Cx E p s m args meth c cX11_isCoin 2 RX11 (some .boolean) n "isCoin" := C
  have hl : lv_has ls 2 [(0, .ref (eb E + t)), (1, i3 a1)] := hl
  unfold fn_X11_isCoin at hf
  refine lv_iload_n C.hx C.hb dX11_isCoin_0 rfl (lv_at hl 1 rfl) ?_
  refine lv_iconst (v := Int32.ofInt 0) C.hx C.hb dX11_isCoin_1 rfl ?_
  refine lv_aload_n C.hx C.hb dX11_isCoin_2 rfl (lv_at hl 0 rfl) ?_
  refine g_ref (off := 1) C hH o_t (by decide) rfl rfl FL_RX11_7 dX11_isCoin_3 ?_
  refine lv_iconst (v := Int32.ofInt 1) C.hx C.hb dX11_isCoin_6 rfl ?_
  refine r_iald C hH (ly (i := 0) (off := 1) (k := 12) hn o_t rfl rfl rfl) (lyn (i := 0) (off := 1) (N := 287) hn o_t rfl rfl rfl) hf dX11_isCoin_7 (fun x7 hf => ?_)
  refine lv_iconst (v := Int32.ofInt 1) C.hx C.hb dX11_isCoin_8 rfl ?_
  refine w_isub C dX11_isCoin_9 ?_
  obtain ⟨x10, hc9, hf⟩ := cu_of hf
  refine r_callSi (rest := []) C hH hl (m_X11_in hn hc9) ML_RX11_115 MF_X11_in MS_X11_in rfl rfl (Nat.le_of_ble_eq_true rfl) ⟨Nat.le_of_ble_eq_true rfl, Nat.le_of_ble_eq_true rfl⟩ ⟨Nat.le_refl _, Nat.le_refl _⟩ dX11_isCoin_10 (fun H locs hH => ?_)
  obtain ⟨hB9, hf⟩ := ck_of hf
  cases hf
  exact w_zret C hH hB9 dX11_isCoin_13
-- HeavierByHandModel.coinOf
def fn_X11_coinOf (t : Nat) (a1 : Int) (a2 : Int) (M : Mem) : Option Int :=
  rd M (t + 1) 288 ((20 + (5 * a1)) + a2) fun x12 => some x12
set_option maxRecDepth 100000 in
set_option maxHeartbeats 4000000 in
theorem m_X11_coinOf {E : EE} {l : Launch} {n : Nat} {t : Nat} {a1 : Int} {a2 : Int} {M : Mem} {o : Int} (hn : nfull n) (o_t : ob n t 11) (hf : fn_X11_coinOf t a1 a2 M = some o) : CT E l yX11_coinOf cX11_coinOf 3 (some .int) 0 0 0 0 [.ref (eb E + t), i3 a1, i3 a2] n (zf n) M (some (i3 o)) n (zf n) M := by
  refine CT_of PN_RX11 (Nat.le_of_ble_eq_true rfl) ?_
  intro p e s m args below meth c C hH ls hl
  replace C : Cx E p s m args meth c cX11_coinOf 3 RX11 (some .int) n "coinOf" := C
  have hl : lv_has ls 3 [(0, .ref (eb E + t)), (1, i3 a1), (2, i3 a2)] := hl
  unfold fn_X11_coinOf at hf
  refine lv_aload_n C.hx C.hb dX11_coinOf_0 rfl (lv_at hl 0 rfl) ?_
  refine g_ref (off := 1) C hH o_t (by decide) rfl rfl FL_RX11_7 dX11_coinOf_1 ?_
  refine lv_bipush (v := Int32.ofInt 20) C.hx C.hb dX11_coinOf_4 (by decide) ?_
  refine lv_iconst (v := Int32.ofInt 5) C.hx C.hb dX11_coinOf_6 rfl ?_
  refine lv_iload_n C.hx C.hb dX11_coinOf_7 rfl (lv_at hl 1 rfl) ?_
  refine w_imul C dX11_coinOf_8 ?_
  refine w_iadd C dX11_coinOf_9 ?_
  refine lv_iload_n C.hx C.hb dX11_coinOf_10 rfl (lv_at hl 2 rfl) ?_
  refine w_iadd C dX11_coinOf_11 ?_
  refine r_iald C hH (ly (i := 0) (off := 1) (k := 12) hn o_t rfl rfl rfl) (lyn (i := 0) (off := 1) (N := 287) hn o_t rfl rfl rfl) hf dX11_coinOf_12 (fun x12 hf => ?_)
  cases hf
  exact w_iret C hH dX11_coinOf_13
-- HeavierByHandModel.hand
def fn_X11_hand (t : Nat) (a1 : Int) (M : Mem) : Option (Int × Mem) :=
  cu (fn_X11_in a1 1 30 M) fun x4 => cEq x4 0 (some ((-1), M)) (rd M (t + 1) 288 0 fun x15 => cEq x15 10 (some ((-1), M)) (rd M (t + 1) 288 0 fun x34 => wr M (t + 1) 288 (10 + x34) a1 fun M37 => rd M37 (t + 1) 288 0 fun x44 => wr M37 (t + 1) 288 0 (x44 + 1) fun M47 => rd M47 (t + 1) 288 0 fun x53 => some ((x53 - 1), M47)))
set_option maxRecDepth 100000 in
set_option maxHeartbeats 4000000 in
theorem m_X11_hand {E : EE} {l : Launch} {n : Nat} {t : Nat} {a1 : Int} {M : Mem} {o : (Int × Mem)} (hn : nfull n) (o_t : ob n t 11) (hf : fn_X11_hand t a1 M = some o) : CT E l yX11_hand cX11_hand 2 (some .int) 1 22 0 0 [.ref (eb E + t), i3 a1] n (zf n) M (some (i3 o.1)) n (zf n) o.2 := by
  refine CT_of PN_RX11 (Nat.le_of_ble_eq_true rfl) ?_
  intro p e s m args below meth c C hH ls hl
  replace C : Cx E p s m args meth c cX11_hand 2 RX11 (some .int) n "hand" := C
  have hl : lv_has ls 2 [(0, .ref (eb E + t)), (1, i3 a1)] := hl
  unfold fn_X11_hand at hf
  refine lv_iload_n C.hx C.hb dX11_hand_0 rfl (lv_at hl 1 rfl) ?_
  refine lv_iconst (v := Int32.ofInt 1) C.hx C.hb dX11_hand_1 rfl ?_
  refine lv_bipush (v := Int32.ofInt 30) C.hx C.hb dX11_hand_2 (by decide) ?_
  obtain ⟨x4, hc9, hf⟩ := cu_of hf
  refine r_callSi (rest := []) C hH hl (m_X11_in hn hc9) ML_RX11_115 MF_X11_in MS_X11_in rfl rfl (Nat.le_of_ble_eq_true rfl) ⟨Nat.le_of_ble_eq_true rfl, Nat.le_of_ble_eq_true rfl⟩ ⟨Nat.le_refl _, Nat.le_refl _⟩ dX11_hand_4 (fun H locs hH => ?_)
  refine w_eq0 (tgt := 21) C hf dX11_hand_7 (by decide) (fun hf => ?_) (fun hf => ?_)
  · refine lv_iconst (v := Int32.ofInt (-1)) C.hx C.hb dX11_hand_21 rfl ?_
    cases hf
    exact w_iret C hH dX11_hand_22
  · refine lv_aload_n C.hx C.hb dX11_hand_10 rfl (lv_at hl 0 rfl) ?_
    refine g_ref (off := 1) C hH o_t (by decide) rfl rfl FL_RX11_7 dX11_hand_11 ?_
    refine lv_iconst (v := Int32.ofInt 0) C.hx C.hb dX11_hand_14 rfl ?_
    refine r_iald C hH (ly (i := 0) (off := 1) (k := 12) hn o_t rfl rfl rfl) (lyn (i := 0) (off := 1) (N := 287) hn o_t rfl rfl rfl) hf dX11_hand_15 (fun x15 hf => ?_)
    refine lv_bipush (v := Int32.ofInt 10) C.hx C.hb dX11_hand_16 (by decide) ?_
    refine w_ne (tgt := 23) C hf dX11_hand_18 (by decide) (fun hf => ?_) (fun hf => ?_)
    · refine lv_aload_n C.hx C.hb dX11_hand_23 rfl (lv_at hl 0 rfl) ?_
      refine g_ref (off := 1) C hH o_t (by decide) rfl rfl FL_RX11_7 dX11_hand_24 ?_
      refine lv_bipush (v := Int32.ofInt 10) C.hx C.hb dX11_hand_27 (by decide) ?_
      refine lv_aload_n C.hx C.hb dX11_hand_29 rfl (lv_at hl 0 rfl) ?_
      refine g_ref (off := 1) C hH o_t (by decide) rfl rfl FL_RX11_7 dX11_hand_30 ?_
      refine lv_iconst (v := Int32.ofInt 0) C.hx C.hb dX11_hand_33 rfl ?_
      refine r_iald C hH (ly (i := 0) (off := 1) (k := 12) hn o_t rfl rfl rfl) (lyn (i := 0) (off := 1) (N := 287) hn o_t rfl rfl rfl) hf dX11_hand_34 (fun x34 hf => ?_)
      refine w_iadd C dX11_hand_35 ?_
      refine lv_iload_n C.hx C.hb dX11_hand_36 rfl (lv_at hl 1 rfl) ?_
      refine r_iast C hH (ly (i := 0) (off := 1) (k := 12) hn o_t rfl rfl rfl) (lyn (i := 0) (off := 1) (N := 287) hn o_t rfl rfl rfl) hf dX11_hand_37 (fun M37 H locs hf hH => ?_)
      refine lv_aload_n C.hx C.hb dX11_hand_38 rfl (lv_at hl 0 rfl) ?_
      refine g_ref (off := 1) C hH o_t (by decide) rfl rfl FL_RX11_7 dX11_hand_39 ?_
      refine lv_iconst (v := Int32.ofInt 0) C.hx C.hb dX11_hand_42 rfl ?_
      refine lv_dup2_11 C.hx C.hb dX11_hand_43 rfl rfl ?_
      refine r_iald C hH (ly (i := 0) (off := 1) (k := 12) hn o_t rfl rfl rfl) (lyn (i := 0) (off := 1) (N := 287) hn o_t rfl rfl rfl) hf dX11_hand_44 (fun x44 hf => ?_)
      refine lv_iconst (v := Int32.ofInt 1) C.hx C.hb dX11_hand_45 rfl ?_
      refine w_iadd C dX11_hand_46 ?_
      refine r_iast C hH (ly (i := 0) (off := 1) (k := 12) hn o_t rfl rfl rfl) (lyn (i := 0) (off := 1) (N := 287) hn o_t rfl rfl rfl) hf dX11_hand_47 (fun M47 H locs hf hH => ?_)
      refine lv_aload_n C.hx C.hb dX11_hand_48 rfl (lv_at hl 0 rfl) ?_
      refine g_ref (off := 1) C hH o_t (by decide) rfl rfl FL_RX11_7 dX11_hand_49 ?_
      refine lv_iconst (v := Int32.ofInt 0) C.hx C.hb dX11_hand_52 rfl ?_
      refine r_iald C hH (ly (i := 0) (off := 1) (k := 12) hn o_t rfl rfl rfl) (lyn (i := 0) (off := 1) (N := 287) hn o_t rfl rfl rfl) hf dX11_hand_53 (fun x53 hf => ?_)
      refine lv_iconst (v := Int32.ofInt 1) C.hx C.hb dX11_hand_54 rfl ?_
      refine w_isub C dX11_hand_55 ?_
      cases hf
      exact w_iret C hH dX11_hand_56
    · refine lv_iconst (v := Int32.ofInt (-1)) C.hx C.hb dX11_hand_21 rfl ?_
      cases hf
      exact w_iret C hH dX11_hand_22
-- HeavierByHandModel.coin
def fn_X11_coin (t : Nat) (a1 : Int) (a2 : Int) (M : Mem) : Option (Int × Mem) :=
  cu (fn_X11_in a1 0 500 M) fun x5 => cEq x5 0 (some ((-1), M)) (cu (fn_X11_isHand t a2 M) fun x13 => cEq x13 0 (some ((-1), M)) (rd M (t + 1) 288 1 fun x24 => cEq x24 20 (some ((-1), M)) (rd M (t + 1) 288 1 fun x40 => nm ((20 + (5 * x40))) fun v3_43 => wr M (t + 1) 288 (v3_43 + 0) a1 fun M52 => wr M52 (t + 1) 288 (v3_43 + 1) a1 fun M61 => wr M61 (t + 1) 288 (v3_43 + 2) a2 fun M70 => wr M70 (t + 1) 288 (v3_43 + 3) 0 fun M79 => wr M79 (t + 1) 288 (v3_43 + 4) (-1) fun M88 => rd M88 (t + 1) 288 1 fun x95 => wr M88 (t + 1) 288 1 (x95 + 1) fun M98 => rd M98 (t + 1) 288 1 fun x104 => some ((x104 - 1), M98))))
set_option maxRecDepth 100000 in
set_option maxHeartbeats 4000000 in
theorem m_X11_coin {E : EE} {l : Launch} {n : Nat} {t : Nat} {a1 : Int} {a2 : Int} {M : Mem} {o : (Int × Mem)} (hn : nfull n) (o_t : ob n t 11) (hf : fn_X11_coin t a1 a2 M = some o) : CT E l yX11_coin cX11_coin 4 (some .int) 2 43 0 0 [.ref (eb E + t), i3 a1, i3 a2] n (zf n) M (some (i3 o.1)) n (zf n) o.2 := by
  refine CT_of PN_RX11 (Nat.le_of_ble_eq_true rfl) ?_
  intro p e s m args below meth c C hH ls hl
  replace C : Cx E p s m args meth c cX11_coin 4 RX11 (some .int) n "coin" := C
  have hl : lv_has ls 4 [(0, .ref (eb E + t)), (1, i3 a1), (2, i3 a2)] := hl
  unfold fn_X11_coin at hf
  refine lv_iload_n C.hx C.hb dX11_coin_0 rfl (lv_at hl 1 rfl) ?_
  refine lv_iconst (v := Int32.ofInt 0) C.hx C.hb dX11_coin_1 rfl ?_
  refine lv_sipush (v := Int32.ofInt 500) C.hx C.hb dX11_coin_2 (by decide) ?_
  obtain ⟨x5, hc9, hf⟩ := cu_of hf
  refine r_callSi (rest := []) C hH hl (m_X11_in hn hc9) ML_RX11_115 MF_X11_in MS_X11_in rfl rfl (Nat.le_of_ble_eq_true rfl) ⟨Nat.le_of_ble_eq_true rfl, Nat.le_of_ble_eq_true rfl⟩ ⟨Nat.le_refl _, Nat.le_refl _⟩ dX11_coin_5 (fun H locs hH => ?_)
  refine w_eq0 (tgt := 30) C hf dX11_coin_8 (by decide) (fun hf => ?_) (fun hf => ?_)
  · refine lv_iconst (v := Int32.ofInt (-1)) C.hx C.hb dX11_coin_30 rfl ?_
    cases hf
    exact w_iret C hH dX11_coin_31
  · refine lv_aload_n C.hx C.hb dX11_coin_11 rfl (lv_at hl 0 rfl) ?_
    refine lv_iload_n C.hx C.hb dX11_coin_12 rfl (lv_at hl 2 rfl) ?_
    obtain ⟨x13, hc9, hf⟩ := cu_of hf
    refine r_callVi (rest := []) C hH hl o_t (by decide) rfl (m_X11_isHand hn o_t hc9) ML_RX11_119 MF_X11_isHand MI_X11_isHand rfl rfl (Nat.le_of_ble_eq_true rfl) ⟨Nat.le_of_ble_eq_true rfl, Nat.le_of_ble_eq_true rfl⟩ ⟨Nat.le_refl _, Nat.le_refl _⟩ dX11_coin_13 (fun H locs hH => ?_)
    refine w_eq0 (tgt := 30) C hf dX11_coin_16 (by decide) (fun hf => ?_) (fun hf => ?_)
    · refine lv_iconst (v := Int32.ofInt (-1)) C.hx C.hb dX11_coin_30 rfl ?_
      cases hf
      exact w_iret C hH dX11_coin_31
    · refine lv_aload_n C.hx C.hb dX11_coin_19 rfl (lv_at hl 0 rfl) ?_
      refine g_ref (off := 1) C hH o_t (by decide) rfl rfl FL_RX11_7 dX11_coin_20 ?_
      refine lv_iconst (v := Int32.ofInt 1) C.hx C.hb dX11_coin_23 rfl ?_
      refine r_iald C hH (ly (i := 0) (off := 1) (k := 12) hn o_t rfl rfl rfl) (lyn (i := 0) (off := 1) (N := 287) hn o_t rfl rfl rfl) hf dX11_coin_24 (fun x24 hf => ?_)
      refine lv_bipush (v := Int32.ofInt 20) C.hx C.hb dX11_coin_25 (by decide) ?_
      refine w_ne (tgt := 32) C hf dX11_coin_27 (by decide) (fun hf => ?_) (fun hf => ?_)
      · refine lv_bipush (v := Int32.ofInt 20) C.hx C.hb dX11_coin_32 (by decide) ?_
        refine lv_iconst (v := Int32.ofInt 5) C.hx C.hb dX11_coin_34 rfl ?_
        refine lv_aload_n C.hx C.hb dX11_coin_35 rfl (lv_at hl 0 rfl) ?_
        refine g_ref (off := 1) C hH o_t (by decide) rfl rfl FL_RX11_7 dX11_coin_36 ?_
        refine lv_iconst (v := Int32.ofInt 1) C.hx C.hb dX11_coin_39 rfl ?_
        refine r_iald C hH (ly (i := 0) (off := 1) (k := 12) hn o_t rfl rfl rfl) (lyn (i := 0) (off := 1) (N := 287) hn o_t rfl rfl rfl) hf dX11_coin_40 (fun x40 hf => ?_)
        refine w_imul C dX11_coin_41 ?_
        refine w_iadd C dX11_coin_42 ?_
        refine r_nm hf (fun v3_43 hf => ?_)
        refine lv_istore_n (lv' := [(3, i3 v3_43), (0, .ref (eb E + t)), (1, i3 a1), (2, i3 a2)]) C.hx C.hb dX11_coin_43 rfl hl (by decide) rfl (fun ls hl => ?_)
        refine lv_aload_n C.hx C.hb dX11_coin_44 rfl (lv_at hl 1 rfl) ?_
        refine g_ref (off := 1) C hH o_t (by decide) rfl rfl FL_RX11_7 dX11_coin_45 ?_
        refine lv_iload_n C.hx C.hb dX11_coin_48 rfl (lv_at hl 0 rfl) ?_
        refine lv_iconst (v := Int32.ofInt 0) C.hx C.hb dX11_coin_49 rfl ?_
        refine w_iadd C dX11_coin_50 ?_
        refine lv_iload_n C.hx C.hb dX11_coin_51 rfl (lv_at hl 2 rfl) ?_
        refine r_iast C hH (ly (i := 0) (off := 1) (k := 12) hn o_t rfl rfl rfl) (lyn (i := 0) (off := 1) (N := 287) hn o_t rfl rfl rfl) hf dX11_coin_52 (fun M52 H locs hf hH => ?_)
        refine lv_aload_n C.hx C.hb dX11_coin_53 rfl (lv_at hl 1 rfl) ?_
        refine g_ref (off := 1) C hH o_t (by decide) rfl rfl FL_RX11_7 dX11_coin_54 ?_
        refine lv_iload_n C.hx C.hb dX11_coin_57 rfl (lv_at hl 0 rfl) ?_
        refine lv_iconst (v := Int32.ofInt 1) C.hx C.hb dX11_coin_58 rfl ?_
        refine w_iadd C dX11_coin_59 ?_
        refine lv_iload_n C.hx C.hb dX11_coin_60 rfl (lv_at hl 2 rfl) ?_
        refine r_iast C hH (ly (i := 0) (off := 1) (k := 12) hn o_t rfl rfl rfl) (lyn (i := 0) (off := 1) (N := 287) hn o_t rfl rfl rfl) hf dX11_coin_61 (fun M61 H locs hf hH => ?_)
        refine lv_aload_n C.hx C.hb dX11_coin_62 rfl (lv_at hl 1 rfl) ?_
        refine g_ref (off := 1) C hH o_t (by decide) rfl rfl FL_RX11_7 dX11_coin_63 ?_
        refine lv_iload_n C.hx C.hb dX11_coin_66 rfl (lv_at hl 0 rfl) ?_
        refine lv_iconst (v := Int32.ofInt 2) C.hx C.hb dX11_coin_67 rfl ?_
        refine w_iadd C dX11_coin_68 ?_
        refine lv_iload_n C.hx C.hb dX11_coin_69 rfl (lv_at hl 3 rfl) ?_
        refine r_iast C hH (ly (i := 0) (off := 1) (k := 12) hn o_t rfl rfl rfl) (lyn (i := 0) (off := 1) (N := 287) hn o_t rfl rfl rfl) hf dX11_coin_70 (fun M70 H locs hf hH => ?_)
        refine lv_aload_n C.hx C.hb dX11_coin_71 rfl (lv_at hl 1 rfl) ?_
        refine g_ref (off := 1) C hH o_t (by decide) rfl rfl FL_RX11_7 dX11_coin_72 ?_
        refine lv_iload_n C.hx C.hb dX11_coin_75 rfl (lv_at hl 0 rfl) ?_
        refine lv_iconst (v := Int32.ofInt 3) C.hx C.hb dX11_coin_76 rfl ?_
        refine w_iadd C dX11_coin_77 ?_
        refine lv_iconst (v := Int32.ofInt 0) C.hx C.hb dX11_coin_78 rfl ?_
        refine r_iast C hH (ly (i := 0) (off := 1) (k := 12) hn o_t rfl rfl rfl) (lyn (i := 0) (off := 1) (N := 287) hn o_t rfl rfl rfl) hf dX11_coin_79 (fun M79 H locs hf hH => ?_)
        refine lv_aload_n C.hx C.hb dX11_coin_80 rfl (lv_at hl 1 rfl) ?_
        refine g_ref (off := 1) C hH o_t (by decide) rfl rfl FL_RX11_7 dX11_coin_81 ?_
        refine lv_iload_n C.hx C.hb dX11_coin_84 rfl (lv_at hl 0 rfl) ?_
        refine lv_iconst (v := Int32.ofInt 4) C.hx C.hb dX11_coin_85 rfl ?_
        refine w_iadd C dX11_coin_86 ?_
        refine lv_iconst (v := Int32.ofInt (-1)) C.hx C.hb dX11_coin_87 rfl ?_
        refine r_iast C hH (ly (i := 0) (off := 1) (k := 12) hn o_t rfl rfl rfl) (lyn (i := 0) (off := 1) (N := 287) hn o_t rfl rfl rfl) hf dX11_coin_88 (fun M88 H locs hf hH => ?_)
        refine lv_aload_n C.hx C.hb dX11_coin_89 rfl (lv_at hl 1 rfl) ?_
        refine g_ref (off := 1) C hH o_t (by decide) rfl rfl FL_RX11_7 dX11_coin_90 ?_
        refine lv_iconst (v := Int32.ofInt 1) C.hx C.hb dX11_coin_93 rfl ?_
        refine lv_dup2_11 C.hx C.hb dX11_coin_94 rfl rfl ?_
        refine r_iald C hH (ly (i := 0) (off := 1) (k := 12) hn o_t rfl rfl rfl) (lyn (i := 0) (off := 1) (N := 287) hn o_t rfl rfl rfl) hf dX11_coin_95 (fun x95 hf => ?_)
        refine lv_iconst (v := Int32.ofInt 1) C.hx C.hb dX11_coin_96 rfl ?_
        refine w_iadd C dX11_coin_97 ?_
        refine r_iast C hH (ly (i := 0) (off := 1) (k := 12) hn o_t rfl rfl rfl) (lyn (i := 0) (off := 1) (N := 287) hn o_t rfl rfl rfl) hf dX11_coin_98 (fun M98 H locs hf hH => ?_)
        refine lv_aload_n C.hx C.hb dX11_coin_99 rfl (lv_at hl 1 rfl) ?_
        refine g_ref (off := 1) C hH o_t (by decide) rfl rfl FL_RX11_7 dX11_coin_100 ?_
        refine lv_iconst (v := Int32.ofInt 1) C.hx C.hb dX11_coin_103 rfl ?_
        refine r_iald C hH (ly (i := 0) (off := 1) (k := 12) hn o_t rfl rfl rfl) (lyn (i := 0) (off := 1) (N := 287) hn o_t rfl rfl rfl) hf dX11_coin_104 (fun x104 hf => ?_)
        refine lv_iconst (v := Int32.ofInt 1) C.hx C.hb dX11_coin_105 rfl ?_
        refine w_isub C dX11_coin_106 ?_
        cases hf
        exact w_iret C hH dX11_coin_107
      · refine lv_iconst (v := Int32.ofInt (-1)) C.hx C.hb dX11_coin_30 rfl ?_
        cases hf
        exact w_iret C hH dX11_coin_31
-- HeavierByHandModel.rules
def fn_X11_rules (t : Nat) (a1 : Int) (a2 : Int) (M : Mem) : Option (Int × Mem) :=
  cu (fn_X11_in a1 0 6 M) fun x4 => cEq x4 0 (some (0, M)) (cu (fn_X11_in a2 0 9 M) fun x14 => cEq x14 0 (some (0, M)) (wr M (t + 1) 288 3 a1 fun M28 => wr M28 (t + 1) 288 4 a2 fun M35 => some (1, M35)))
set_option maxRecDepth 100000 in
set_option maxHeartbeats 4000000 in
theorem m_X11_rules {E : EE} {l : Launch} {n : Nat} {t : Nat} {a1 : Int} {a2 : Int} {M : Mem} {o : (Int × Mem)} (hn : nfull n) (o_t : ob n t 11) (hf : fn_X11_rules t a1 a2 M = some o) : CT E l yX11_rules cX11_rules 3 (some .boolean) 1 22 0 0 [.ref (eb E + t), i3 a1, i3 a2] n (zf n) M (some (i3 o.1)) n (zf n) o.2 := by
  refine CT_of PN_RX11 (Nat.le_of_ble_eq_true rfl) ?_
  intro p e s m args below meth c C hH ls hl
  replace C : Cx E p s m args meth c cX11_rules 3 RX11 (some .boolean) n "rules" := C
  have hl : lv_has ls 3 [(0, .ref (eb E + t)), (1, i3 a1), (2, i3 a2)] := hl
  unfold fn_X11_rules at hf
  refine lv_iload_n C.hx C.hb dX11_rules_0 rfl (lv_at hl 1 rfl) ?_
  refine lv_iconst (v := Int32.ofInt 0) C.hx C.hb dX11_rules_1 rfl ?_
  refine lv_bipush (v := Int32.ofInt 6) C.hx C.hb dX11_rules_2 (by decide) ?_
  obtain ⟨x4, hc9, hf⟩ := cu_of hf
  refine r_callSi (rest := []) C hH hl (m_X11_in hn hc9) ML_RX11_115 MF_X11_in MS_X11_in rfl rfl (Nat.le_of_ble_eq_true rfl) ⟨Nat.le_of_ble_eq_true rfl, Nat.le_of_ble_eq_true rfl⟩ ⟨Nat.le_refl _, Nat.le_refl _⟩ dX11_rules_4 (fun H locs hH => ?_)
  refine w_eq0 (tgt := 20) C hf dX11_rules_7 (by decide) (fun hf => ?_) (fun hf => ?_)
  · refine lv_iconst (v := Int32.ofInt 0) C.hx C.hb dX11_rules_20 rfl ?_
    cases hf
    exact w_zret C hH (Or.inl rfl) dX11_rules_21
  · refine lv_iload_n C.hx C.hb dX11_rules_10 rfl (lv_at hl 2 rfl) ?_
    refine lv_iconst (v := Int32.ofInt 0) C.hx C.hb dX11_rules_11 rfl ?_
    refine lv_bipush (v := Int32.ofInt 9) C.hx C.hb dX11_rules_12 (by decide) ?_
    obtain ⟨x14, hc9, hf⟩ := cu_of hf
    refine r_callSi (rest := []) C hH hl (m_X11_in hn hc9) ML_RX11_115 MF_X11_in MS_X11_in rfl rfl (Nat.le_of_ble_eq_true rfl) ⟨Nat.le_of_ble_eq_true rfl, Nat.le_of_ble_eq_true rfl⟩ ⟨Nat.le_refl _, Nat.le_refl _⟩ dX11_rules_14 (fun H locs hH => ?_)
    refine w_ne0 (tgt := 22) C hf dX11_rules_17 (by decide) (fun hf => ?_) (fun hf => ?_)
    · refine lv_aload_n C.hx C.hb dX11_rules_22 rfl (lv_at hl 0 rfl) ?_
      refine g_ref (off := 1) C hH o_t (by decide) rfl rfl FL_RX11_7 dX11_rules_23 ?_
      refine lv_iconst (v := Int32.ofInt 3) C.hx C.hb dX11_rules_26 rfl ?_
      refine lv_iload_n C.hx C.hb dX11_rules_27 rfl (lv_at hl 1 rfl) ?_
      refine r_iast C hH (ly (i := 0) (off := 1) (k := 12) hn o_t rfl rfl rfl) (lyn (i := 0) (off := 1) (N := 287) hn o_t rfl rfl rfl) hf dX11_rules_28 (fun M28 H locs hf hH => ?_)
      refine lv_aload_n C.hx C.hb dX11_rules_29 rfl (lv_at hl 0 rfl) ?_
      refine g_ref (off := 1) C hH o_t (by decide) rfl rfl FL_RX11_7 dX11_rules_30 ?_
      refine lv_iconst (v := Int32.ofInt 4) C.hx C.hb dX11_rules_33 rfl ?_
      refine lv_iload_n C.hx C.hb dX11_rules_34 rfl (lv_at hl 2 rfl) ?_
      refine r_iast C hH (ly (i := 0) (off := 1) (k := 12) hn o_t rfl rfl rfl) (lyn (i := 0) (off := 1) (N := 287) hn o_t rfl rfl rfl) hf dX11_rules_35 (fun M35 H locs hf hH => ?_)
      refine lv_iconst (v := Int32.ofInt 1) C.hx C.hb dX11_rules_36 rfl ?_
      cases hf
      exact w_zret C hH (Or.inr rfl) dX11_rules_37
    · refine lv_iconst (v := Int32.ofInt 0) C.hx C.hb dX11_rules_20 rfl ?_
      cases hf
      exact w_zret C hH (Or.inl rfl) dX11_rules_21
-- HeavierByHandModel.later
def fn_X11_later (t : Nat) (a1 : Int) (M : Mem) : Option (Int × Mem) :=
  cu (fn_X11_in a1 0 99 M) fun x4 => cEq x4 0 (some ((-1), M)) (rd M (t + 1) 288 2 fun x15 => cLt 999 (x15 + a1) (some ((-1), M)) (rd M (t + 1) 288 2 fun x32 => wr M (t + 1) 288 2 (x32 + a1) fun M35 => rd M35 (t + 1) 288 2 fun x41 => some (x41, M35)))
set_option maxRecDepth 100000 in
set_option maxHeartbeats 4000000 in
theorem m_X11_later {E : EE} {l : Launch} {n : Nat} {t : Nat} {a1 : Int} {M : Mem} {o : (Int × Mem)} (hn : nfull n) (o_t : ob n t 11) (hf : fn_X11_later t a1 M = some o) : CT E l yX11_later cX11_later 2 (some .int) 1 22 0 0 [.ref (eb E + t), i3 a1] n (zf n) M (some (i3 o.1)) n (zf n) o.2 := by
  refine CT_of PN_RX11 (Nat.le_of_ble_eq_true rfl) ?_
  intro p e s m args below meth c C hH ls hl
  replace C : Cx E p s m args meth c cX11_later 2 RX11 (some .int) n "later" := C
  have hl : lv_has ls 2 [(0, .ref (eb E + t)), (1, i3 a1)] := hl
  unfold fn_X11_later at hf
  refine lv_iload_n C.hx C.hb dX11_later_0 rfl (lv_at hl 1 rfl) ?_
  refine lv_iconst (v := Int32.ofInt 0) C.hx C.hb dX11_later_1 rfl ?_
  refine lv_bipush (v := Int32.ofInt 99) C.hx C.hb dX11_later_2 (by decide) ?_
  obtain ⟨x4, hc9, hf⟩ := cu_of hf
  refine r_callSi (rest := []) C hH hl (m_X11_in hn hc9) ML_RX11_115 MF_X11_in MS_X11_in rfl rfl (Nat.le_of_ble_eq_true rfl) ⟨Nat.le_of_ble_eq_true rfl, Nat.le_of_ble_eq_true rfl⟩ ⟨Nat.le_refl _, Nat.le_refl _⟩ dX11_later_4 (fun H locs hH => ?_)
  refine w_eq0 (tgt := 24) C hf dX11_later_7 (by decide) (fun hf => ?_) (fun hf => ?_)
  · refine lv_iconst (v := Int32.ofInt (-1)) C.hx C.hb dX11_later_24 rfl ?_
    cases hf
    exact w_iret C hH dX11_later_25
  · refine lv_aload_n C.hx C.hb dX11_later_10 rfl (lv_at hl 0 rfl) ?_
    refine g_ref (off := 1) C hH o_t (by decide) rfl rfl FL_RX11_7 dX11_later_11 ?_
    refine lv_iconst (v := Int32.ofInt 2) C.hx C.hb dX11_later_14 rfl ?_
    refine r_iald C hH (ly (i := 0) (off := 1) (k := 12) hn o_t rfl rfl rfl) (lyn (i := 0) (off := 1) (N := 287) hn o_t rfl rfl rfl) hf dX11_later_15 (fun x15 hf => ?_)
    refine lv_iload_n C.hx C.hb dX11_later_16 rfl (lv_at hl 1 rfl) ?_
    refine w_iadd C dX11_later_17 ?_
    refine lv_sipush (v := Int32.ofInt 999) C.hx C.hb dX11_later_18 (by decide) ?_
    refine w_le (tgt := 26) C hf dX11_later_21 (by decide) (fun hf => ?_) (fun hf => ?_)
    · refine lv_aload_n C.hx C.hb dX11_later_26 rfl (lv_at hl 0 rfl) ?_
      refine g_ref (off := 1) C hH o_t (by decide) rfl rfl FL_RX11_7 dX11_later_27 ?_
      refine lv_iconst (v := Int32.ofInt 2) C.hx C.hb dX11_later_30 rfl ?_
      refine lv_dup2_11 C.hx C.hb dX11_later_31 rfl rfl ?_
      refine r_iald C hH (ly (i := 0) (off := 1) (k := 12) hn o_t rfl rfl rfl) (lyn (i := 0) (off := 1) (N := 287) hn o_t rfl rfl rfl) hf dX11_later_32 (fun x32 hf => ?_)
      refine lv_iload_n C.hx C.hb dX11_later_33 rfl (lv_at hl 1 rfl) ?_
      refine w_iadd C dX11_later_34 ?_
      refine r_iast C hH (ly (i := 0) (off := 1) (k := 12) hn o_t rfl rfl rfl) (lyn (i := 0) (off := 1) (N := 287) hn o_t rfl rfl rfl) hf dX11_later_35 (fun M35 H locs hf hH => ?_)
      refine lv_aload_n C.hx C.hb dX11_later_36 rfl (lv_at hl 0 rfl) ?_
      refine g_ref (off := 1) C hH o_t (by decide) rfl rfl FL_RX11_7 dX11_later_37 ?_
      refine lv_iconst (v := Int32.ofInt 2) C.hx C.hb dX11_later_40 rfl ?_
      refine r_iald C hH (ly (i := 0) (off := 1) (k := 12) hn o_t rfl rfl rfl) (lyn (i := 0) (off := 1) (N := 287) hn o_t rfl rfl rfl) hf dX11_later_41 (fun x41 hf => ?_)
      cases hf
      exact w_iret C hH dX11_later_42
    · refine lv_iconst (v := Int32.ofInt (-1)) C.hx C.hb dX11_later_24 rfl ?_
      cases hf
      exact w_iret C hH dX11_later_25
-- HeavierByHandModel.put
def fn_X11_put_L3 (t : Nat) (a1 : Int) (rec3 : Int → Mem → Option Mem) (v2_3 : Int) (M3 : Mem) : Option Mem :=
  cLt v2_3 0 (some M3) (wr M3 (t + 3) 300 (M3 t 3) (i2bI (i2bI (shrI a1 v2_3))) fun M19 => st M19 t 3 ((M19 t 3) + 1) fun M27 => nm ((v2_3 - 8)) fun v2_34 => rec3 v2_34 M27)
def fn_X11_put (t : Nat) (a1 : Int) (M : Mem) : Option Mem :=
  lq2 (fn_X11_put_L3 t a1) FU 24 M
set_option maxRecDepth 100000 in
set_option maxHeartbeats 4000000 in
theorem l_X11_put_3 {p : Program} {l : Launch} {e : Env} {s : State} {m : MethodId} {args : Array Value} {below : List Frame} {meth : Method} {c : Code} {E : EE} {n : Nat} {o : Mem} {t : Nat} {a1 : Int} (C : Cx E p s m args meth c cX11_put 3 RX11 none n "put") (hn : nfull n) (o_t : ob n t 11) : ∀ (k : Nat) (v2_3 : Int) (M3 : Mem) (H : Heap) (locs : List Loc) (ls : Array Slot), lq2 (fn_X11_put_L3 t a1) k v2_3 M3 = some o → ST E s n (zf n) M3 H locs → lv_has ls 3 [(0, .ref (eb E + t)), (1, i3 a1), (2, i3 v2_3)] → W p l e { frames := 0, cells := 0, slots := 0, locals := 0 } s m args below meth c H locs 0 0 (MQ below (QC E none n (zf n) o) args s 0 0 (fr E)) (F0 m 3 ls []) := by
  intro k
  induction k with
  | zero => intro v2_3 M3 H locs ls hf; cases hf
  | succ k ih =>
    intro v2_3 M3 H locs ls hf hH hl
    have h_rec3 : ∀ {v2_3 : Int} {M3 : Mem} {H : Heap} {locs : List Loc} {ls : Array Slot}, lq2 (fn_X11_put_L3 t a1) k v2_3 M3 = some o → ST E s n (zf n) M3 H locs → lv_has ls 3 [(0, .ref (eb E + t)), (1, i3 a1), (2, i3 v2_3)] → W p l e { frames := 0, cells := 0, slots := 0, locals := 0 } s m args below meth c H locs 0 0 (MQ below (QC E none n (zf n) o) args s 0 0 (fr E)) (F0 m 3 ls []) := fun {v2_3} {M3} {H} {locs} {ls} a b c => ih v2_3 M3 H locs ls a b c
    replace hf : fn_X11_put_L3 t a1 (lq2 (fn_X11_put_L3 t a1) k) v2_3 M3 = some o := hf
    generalize lq2 (fn_X11_put_L3 t a1) k = rec3 at hf h_rec3
    unfold fn_X11_put_L3 at hf
    refine lv_iload_n C.hx C.hb dX11_put_3 rfl (lv_at hl 2 rfl) ?_
    refine w_lt0 (tgt := 38) C hf dX11_put_4 (by decide) (fun hf => ?_) (fun hf => ?_)
    · cases hf
      exact w_vret C hH dX11_put_38
    · refine lv_aload_n C.hx C.hb dX11_put_7 rfl (lv_at hl 0 rfl) ?_
      refine g_ref (off := 3) C hH o_t (by decide) rfl rfl FL_RX11_16 dX11_put_8 ?_
      refine lv_aload_n C.hx C.hb dX11_put_11 rfl (lv_at hl 0 rfl) ?_
      refine g_int C hH o_t (by decide) rfl FL_RX11_123 dX11_put_12 ?_
      refine lv_iload_n C.hx C.hb dX11_put_15 rfl (lv_at hl 1 rfl) ?_
      refine lv_iload_n C.hx C.hb dX11_put_16 rfl (lv_at hl 2 rfl) ?_
      refine w_ishr C dX11_put_17 ?_
      refine w_i2b C dX11_put_18 ?_
      refine r_bast C hH (ly (i := 2) (off := 3) (k := 13) hn o_t rfl rfl rfl) (lyn (i := 2) (off := 3) (N := 299) hn o_t rfl rfl rfl) hf dX11_put_19 (fun M19 H locs hf hH => ?_)
      refine lv_aload_n C.hx C.hb dX11_put_20 rfl (lv_at hl 0 rfl) ?_
      refine lv_dup C.hx C.hb dX11_put_21 rfl ?_
      refine g_int C hH o_t (by decide) rfl FL_RX11_123 dX11_put_22 ?_
      refine lv_iconst (v := Int32.ofInt 1) C.hx C.hb dX11_put_25 rfl ?_
      refine w_iadd C dX11_put_26 ?_
      refine r_put C hH o_t (by decide) rfl FL_RX11_123 FW_11_3 hf dX11_put_27 (fun M27 H locs hf hH => ?_)
      refine lv_iload_n C.hx C.hb dX11_put_30 rfl (lv_at hl 2 rfl) ?_
      refine lv_bipush (v := Int32.ofInt 8) C.hx C.hb dX11_put_31 (by decide) ?_
      refine w_isub C dX11_put_33 ?_
      refine r_nm hf (fun v2_34 hf => ?_)
      refine lv_istore_n (lv' := [(2, i3 v2_34), (0, .ref (eb E + t)), (1, i3 a1)]) C.hx C.hb dX11_put_34 rfl hl (by decide) rfl (fun ls hl => ?_)
      refine lv_goto (tgt := 3) C.hx C.hb dX11_put_35 (by decide) ?_
      exact h_rec3 hf hH (lv_sub hl [1, 2, 0] rfl)
set_option maxRecDepth 100000 in
set_option maxHeartbeats 4000000 in
theorem m_X11_put {E : EE} {l : Launch} {n : Nat} {t : Nat} {a1 : Int} {M : Mem} {o : Mem} (hn : nfull n) (o_t : ob n t 11) (hf : fn_X11_put t a1 M = some o) : CT E l yX11_put cX11_put 3 none 0 0 0 0 [.ref (eb E + t), i3 a1] n (zf n) M none n (zf n) o := by
  refine CT_of PN_RX11 (Nat.le_of_ble_eq_true rfl) ?_
  intro p e s m args below meth c C hH ls hl
  replace C : Cx E p s m args meth c cX11_put 3 RX11 none n "put" := C
  have hl : lv_has ls 3 [(0, .ref (eb E + t)), (1, i3 a1)] := hl
  unfold fn_X11_put at hf
  refine lv_bipush (v := Int32.ofInt 24) C.hx C.hb dX11_put_0 (by decide) ?_
  refine lv_istore_n (lv' := [(2, i3 24), (0, .ref (eb E + t)), (1, i3 a1)]) C.hx C.hb dX11_put_2 rfl hl (by decide) rfl (fun ls hl => ?_)
  exact l_X11_put_3 C hn o_t FU _ _ _ _ _ hf hH (lv_sub hl [1, 2, 0] rfl)
-- HeavierByHandModel.feed
def fn_X11_feed (t : Nat) (a1 : Int) (a2 : Int) (a3 : Int) (a4 : Int) (a5 : Int) (M : Mem) : Option (Int × Mem) :=
  cLt 300 ((M t 3) + 20) (some ((-1), M)) (cv (fn_X11_put t a1 M) fun M17 => cv (fn_X11_put t a2 M17) fun M22 => cv (fn_X11_put t a3 M22) fun M27 => cv (fn_X11_put t a4 M27) fun M33 => cv (fn_X11_put t a5 M33) fun M39 => some ((M39 t 3), M39))
set_option maxRecDepth 100000 in
set_option maxHeartbeats 4000000 in
theorem m_X11_feed {E : EE} {l : Launch} {n : Nat} {t : Nat} {a1 : Int} {a2 : Int} {a3 : Int} {a4 : Int} {a5 : Int} {M : Mem} {o : (Int × Mem)} (hn : nfull n) (o_t : ob n t 11) (hf : fn_X11_feed t a1 a2 a3 a4 a5 M = some o) : CT E l yX11_feed cX11_feed 6 (some .int) 1 22 0 0 [.ref (eb E + t), i3 a1, i3 a2, i3 a3, i3 a4, i3 a5] n (zf n) M (some (i3 o.1)) n (zf n) o.2 := by
  refine CT_of PN_RX11 (Nat.le_of_ble_eq_true rfl) ?_
  intro p e s m args below meth c C hH ls hl
  replace C : Cx E p s m args meth c cX11_feed 6 RX11 (some .int) n "feed" := C
  have hl : lv_has ls 6 [(0, .ref (eb E + t)), (1, i3 a1), (2, i3 a2), (3, i3 a3), (4, i3 a4), (5, i3 a5)] := hl
  unfold fn_X11_feed at hf
  refine lv_aload_n C.hx C.hb dX11_feed_0 rfl (lv_at hl 0 rfl) ?_
  refine g_int C hH o_t (by decide) rfl FL_RX11_123 dX11_feed_1 ?_
  refine lv_bipush (v := Int32.ofInt 20) C.hx C.hb dX11_feed_4 (by decide) ?_
  refine w_iadd C dX11_feed_6 ?_
  refine lv_sipush (v := Int32.ofInt 300) C.hx C.hb dX11_feed_7 (by decide) ?_
  refine w_le (tgt := 15) C hf dX11_feed_10 (by decide) (fun hf => ?_) (fun hf => ?_)
  · refine lv_aload_n C.hx C.hb dX11_feed_15 rfl (lv_at hl 0 rfl) ?_
    refine lv_iload_n C.hx C.hb dX11_feed_16 rfl (lv_at hl 1 rfl) ?_
    obtain ⟨M17, hc9, hf⟩ := cv_of hf
    refine r_callVv (rest := []) C hH hl o_t (by decide) rfl (m_X11_put hn o_t hc9) ML_RX11_126 MF_X11_put MI_X11_put rfl rfl (Nat.le_of_ble_eq_true rfl) ⟨Nat.le_of_ble_eq_true rfl, Nat.le_of_ble_eq_true rfl⟩ ⟨Nat.le_refl _, Nat.le_refl _⟩ dX11_feed_17 (fun H locs hH => ?_)
    refine lv_aload_n C.hx C.hb dX11_feed_20 rfl (lv_at hl 0 rfl) ?_
    refine lv_iload_n C.hx C.hb dX11_feed_21 rfl (lv_at hl 2 rfl) ?_
    obtain ⟨M22, hc9, hf⟩ := cv_of hf
    refine r_callVv (rest := []) C hH hl o_t (by decide) rfl (m_X11_put hn o_t hc9) ML_RX11_126 MF_X11_put MI_X11_put rfl rfl (Nat.le_of_ble_eq_true rfl) ⟨Nat.le_of_ble_eq_true rfl, Nat.le_of_ble_eq_true rfl⟩ ⟨Nat.le_refl _, Nat.le_refl _⟩ dX11_feed_22 (fun H locs hH => ?_)
    refine lv_aload_n C.hx C.hb dX11_feed_25 rfl (lv_at hl 0 rfl) ?_
    refine lv_iload_n C.hx C.hb dX11_feed_26 rfl (lv_at hl 3 rfl) ?_
    obtain ⟨M27, hc9, hf⟩ := cv_of hf
    refine r_callVv (rest := []) C hH hl o_t (by decide) rfl (m_X11_put hn o_t hc9) ML_RX11_126 MF_X11_put MI_X11_put rfl rfl (Nat.le_of_ble_eq_true rfl) ⟨Nat.le_of_ble_eq_true rfl, Nat.le_of_ble_eq_true rfl⟩ ⟨Nat.le_refl _, Nat.le_refl _⟩ dX11_feed_27 (fun H locs hH => ?_)
    refine lv_aload_n C.hx C.hb dX11_feed_30 rfl (lv_at hl 0 rfl) ?_
    refine lv_iload C.hx C.hb dX11_feed_31 (lv_at hl 4 rfl) ?_
    obtain ⟨M33, hc9, hf⟩ := cv_of hf
    refine r_callVv (rest := []) C hH hl o_t (by decide) rfl (m_X11_put hn o_t hc9) ML_RX11_126 MF_X11_put MI_X11_put rfl rfl (Nat.le_of_ble_eq_true rfl) ⟨Nat.le_of_ble_eq_true rfl, Nat.le_of_ble_eq_true rfl⟩ ⟨Nat.le_refl _, Nat.le_refl _⟩ dX11_feed_33 (fun H locs hH => ?_)
    refine lv_aload_n C.hx C.hb dX11_feed_36 rfl (lv_at hl 0 rfl) ?_
    refine lv_iload C.hx C.hb dX11_feed_37 (lv_at hl 5 rfl) ?_
    obtain ⟨M39, hc9, hf⟩ := cv_of hf
    refine r_callVv (rest := []) C hH hl o_t (by decide) rfl (m_X11_put hn o_t hc9) ML_RX11_126 MF_X11_put MI_X11_put rfl rfl (Nat.le_of_ble_eq_true rfl) ⟨Nat.le_of_ble_eq_true rfl, Nat.le_of_ble_eq_true rfl⟩ ⟨Nat.le_refl _, Nat.le_refl _⟩ dX11_feed_39 (fun H locs hH => ?_)
    refine lv_aload_n C.hx C.hb dX11_feed_42 rfl (lv_at hl 0 rfl) ?_
    refine g_int C hH o_t (by decide) rfl FL_RX11_123 dX11_feed_43 ?_
    cases hf
    exact w_iret C hH dX11_feed_46
  · refine lv_iconst (v := Int32.ofInt (-1)) C.hx C.hb dX11_feed_13 rfl ?_
    cases hf
    exact w_iret C hH dX11_feed_14
-- HeavierByHandModel.end
def fn_X11_end (t : Nat) (a1 : Int) (M : Mem) : Option (Int × Mem) :=
  cu (fn_X11_in a1 0 (M t 3) M) fun x6 => cEq x6 0 (some ((-1), M)) (st M t 3 a1 fun M16 => some (a1, M16))
set_option maxRecDepth 100000 in
set_option maxHeartbeats 4000000 in
theorem m_X11_end {E : EE} {l : Launch} {n : Nat} {t : Nat} {a1 : Int} {M : Mem} {o : (Int × Mem)} (hn : nfull n) (o_t : ob n t 11) (hf : fn_X11_end t a1 M = some o) : CT E l yX11_end cX11_end 2 (some .int) 1 22 0 0 [.ref (eb E + t), i3 a1] n (zf n) M (some (i3 o.1)) n (zf n) o.2 := by
  refine CT_of PN_RX11 (Nat.le_of_ble_eq_true rfl) ?_
  intro p e s m args below meth c C hH ls hl
  replace C : Cx E p s m args meth c cX11_end 2 RX11 (some .int) n "end" := C
  have hl : lv_has ls 2 [(0, .ref (eb E + t)), (1, i3 a1)] := hl
  unfold fn_X11_end at hf
  refine lv_iload_n C.hx C.hb dX11_end_0 rfl (lv_at hl 1 rfl) ?_
  refine lv_iconst (v := Int32.ofInt 0) C.hx C.hb dX11_end_1 rfl ?_
  refine lv_aload_n C.hx C.hb dX11_end_2 rfl (lv_at hl 0 rfl) ?_
  refine g_int C hH o_t (by decide) rfl FL_RX11_123 dX11_end_3 ?_
  obtain ⟨x6, hc9, hf⟩ := cu_of hf
  refine r_callSi (rest := []) C hH hl (m_X11_in hn hc9) ML_RX11_115 MF_X11_in MS_X11_in rfl rfl (Nat.le_of_ble_eq_true rfl) ⟨Nat.le_of_ble_eq_true rfl, Nat.le_of_ble_eq_true rfl⟩ ⟨Nat.le_refl _, Nat.le_refl _⟩ dX11_end_6 (fun H locs hH => ?_)
  refine w_ne0 (tgt := 14) C hf dX11_end_9 (by decide) (fun hf => ?_) (fun hf => ?_)
  · refine lv_aload_n C.hx C.hb dX11_end_14 rfl (lv_at hl 0 rfl) ?_
    refine lv_iload_n C.hx C.hb dX11_end_15 rfl (lv_at hl 1 rfl) ?_
    refine r_put C hH o_t (by decide) rfl FL_RX11_123 FW_11_3 hf dX11_end_16 (fun M16 H locs hf hH => ?_)
    refine lv_iload_n C.hx C.hb dX11_end_19 rfl (lv_at hl 1 rfl) ?_
    cases hf
    exact w_iret C hH dX11_end_20
  · refine lv_iconst (v := Int32.ofInt (-1)) C.hx C.hb dX11_end_12 rfl ?_
    cases hf
    exact w_iret C hH dX11_end_13
-- HeavierByHandModel.isLetter
def fn_X11_isLetter_J22 : Option Int :=
  some 1
def fn_X11_isLetter (a0 : Int) (M : Mem) : Option Int :=
  cu (fn_X11_in a0 97 122 M) fun x5 => cEq x5 0 (cu (fn_X11_in a0 65 90 M) fun x16 => cEq x16 0 (some 0) (fn_X11_isLetter_J22)) (fn_X11_isLetter_J22)
set_option maxRecDepth 100000 in
set_option maxHeartbeats 4000000 in
theorem j_X11_isLetter_22 {p : Program} {l : Launch} {e : Env} {s : State} {m : MethodId} {args : Array Value} {below : List Frame} {meth : Method} {c : Code} {E : EE} {n : Nat} {o : Int} {M : Mem} {H : Heap} {locs : List Loc} {ls : Array Slot} (C : Cx E p s m args meth c cX11_isLetter 1 RX11 (some .boolean) n "isLetter") (hn : nfull n) (hf : fn_X11_isLetter_J22 = some o) (hH : ST E s n (zf n) M H locs) (hl : lv_has ls 1 []) : W p l e { frames := 1, cells := 0, slots := 0, locals := 22 } s m args below meth c H locs 0 0 (MQ below (QC E (some (i3 o)) n (zf n) M) args s 0 0 (fr E)) (F0 m 22 ls []) := by
  unfold fn_X11_isLetter_J22 at hf
  refine lv_iconst (v := Int32.ofInt 1) C.hx C.hb dX11_isLetter_22 rfl ?_
  refine lv_goto (tgt := 27) C.hx C.hb dX11_isLetter_23 (by decide) ?_
  cases hf
  exact w_zret C hH (Or.inr rfl) dX11_isLetter_27
set_option maxRecDepth 100000 in
set_option maxHeartbeats 4000000 in
theorem m_X11_isLetter {E : EE} {l : Launch} {n : Nat} {a0 : Int} {M : Mem} {o : Int} (hn : nfull n) (hf : fn_X11_isLetter a0 M = some o) : CT E l yX11_isLetter cX11_isLetter 1 (some .boolean) 1 22 0 0 [i3 a0] n (zf n) M (some (i3 o)) n (zf n) M := by
  refine CT_of PN_RX11 (Nat.le_of_ble_eq_true rfl) ?_
  intro p e s m args below meth c C hH ls hl
  replace C : Cx E p s m args meth c cX11_isLetter 1 RX11 (some .boolean) n "isLetter" := C
  have hl : lv_has ls 1 [(0, i3 a0)] := hl
  unfold fn_X11_isLetter at hf
  refine lv_iload_n C.hx C.hb dX11_isLetter_0 rfl (lv_at hl 0 rfl) ?_
  refine lv_bipush (v := Int32.ofInt 97) C.hx C.hb dX11_isLetter_1 (by decide) ?_
  refine lv_bipush (v := Int32.ofInt 122) C.hx C.hb dX11_isLetter_3 (by decide) ?_
  obtain ⟨x5, hc9, hf⟩ := cu_of hf
  refine r_callSi (rest := []) C hH hl (m_X11_in hn hc9) ML_RX11_115 MF_X11_in MS_X11_in rfl rfl (Nat.le_of_ble_eq_true rfl) ⟨Nat.le_of_ble_eq_true rfl, Nat.le_of_ble_eq_true rfl⟩ ⟨Nat.le_refl _, Nat.le_refl _⟩ dX11_isLetter_5 (fun H locs hH => ?_)
  refine w_ne0 (tgt := 22) C hf dX11_isLetter_8 (by decide) (fun hf => ?_) (fun hf => ?_)
  · exact j_X11_isLetter_22 C hn hf hH (lv_sub hl [] rfl)
  · refine lv_iload_n C.hx C.hb dX11_isLetter_11 rfl (lv_at hl 0 rfl) ?_
    refine lv_bipush (v := Int32.ofInt 65) C.hx C.hb dX11_isLetter_12 (by decide) ?_
    refine lv_bipush (v := Int32.ofInt 90) C.hx C.hb dX11_isLetter_14 (by decide) ?_
    obtain ⟨x16, hc9, hf⟩ := cu_of hf
    refine r_callSi (rest := []) C hH hl (m_X11_in hn hc9) ML_RX11_115 MF_X11_in MS_X11_in rfl rfl (Nat.le_of_ble_eq_true rfl) ⟨Nat.le_of_ble_eq_true rfl, Nat.le_of_ble_eq_true rfl⟩ ⟨Nat.le_refl _, Nat.le_refl _⟩ dX11_isLetter_16 (fun H locs hH => ?_)
    refine w_eq0 (tgt := 26) C hf dX11_isLetter_19 (by decide) (fun hf => ?_) (fun hf => ?_)
    · refine lv_iconst (v := Int32.ofInt 0) C.hx C.hb dX11_isLetter_26 rfl ?_
      cases hf
      exact w_zret C hH (Or.inl rfl) dX11_isLetter_27
    · exact j_X11_isLetter_22 C hn hf hH (lv_sub hl [] rfl)
-- HeavierByHandModel.wordOf
def fn_X11_wordOf (a0 : Int) (M : Mem) : Option Int :=
  dEq a0 666041765 (some 0) (dEq a0 667556462 (some 1) (dEq a0 198777 (some 2) (dEq a0 14556392 (some 3) (dEq a0 14555764 (some 4) (dEq a0 3375 (some 5) (dEq a0 3058 (some 6) (dEq a0 138148 (some 7) (dEq a0 191476 (some 8) (dEq a0 10623908 (some 9) (dEq a0 196078 (some 10) (dEq a0 10681714 (some 11) (dEq a0 48885315956 (some 12) (dEq a0 59687467572 (some 13) (dEq a0 883349875 (some 14) (dEq a0 10169325 (some 15) (some (-1)))))))))))))))))
set_option maxRecDepth 100000 in
set_option maxHeartbeats 4000000 in
theorem m_X11_wordOf {E : EE} {l : Launch} {n : Nat} {a0 : Int} {M : Mem} {o : Int} (hn : nfull n) (hf : fn_X11_wordOf a0 M = some o) : CT E l yX11_wordOf cX11_wordOf 2 (some .int) 0 0 0 0 [l6 a0] n (zf n) M (some (i3 o)) n (zf n) M := by
  refine CT_of PN_RX11 (Nat.le_of_ble_eq_true rfl) ?_
  intro p e s m args below meth c C hH ls hl
  replace C : Cx E p s m args meth c cX11_wordOf 2 RX11 (some .int) n "wordOf" := C
  have hl : lv_has ls 2 [(0, l6 a0)] := hl
  unfold fn_X11_wordOf at hf
  refine lv_lload_n C.hx C.hb dX11_wordOf_0 rfl (lv_at hl 0 rfl) ?_
  refine r_ldc2 (x := 666041765) C KL_RX11_130 dX11_wordOf_1 ?_
  refine w_lne (tgt := 10) C hf dX11_wordOf_4 dX11_wordOf_5 (by decide) (fun hf => ?_) (fun hf => ?_)
  · refine lv_lload_n C.hx C.hb dX11_wordOf_10 rfl (lv_at hl 0 rfl) ?_
    refine r_ldc2 (x := 667556462) C KL_RX11_132 dX11_wordOf_11 ?_
    refine w_lne (tgt := 20) C hf dX11_wordOf_14 dX11_wordOf_15 (by decide) (fun hf => ?_) (fun hf => ?_)
    · refine lv_lload_n C.hx C.hb dX11_wordOf_20 rfl (lv_at hl 0 rfl) ?_
      refine r_ldc2 (x := 198777) C KL_RX11_134 dX11_wordOf_21 ?_
      refine w_lne (tgt := 30) C hf dX11_wordOf_24 dX11_wordOf_25 (by decide) (fun hf => ?_) (fun hf => ?_)
      · refine lv_lload_n C.hx C.hb dX11_wordOf_30 rfl (lv_at hl 0 rfl) ?_
        refine r_ldc2 (x := 14556392) C KL_RX11_136 dX11_wordOf_31 ?_
        refine w_lne (tgt := 40) C hf dX11_wordOf_34 dX11_wordOf_35 (by decide) (fun hf => ?_) (fun hf => ?_)
        · refine lv_lload_n C.hx C.hb dX11_wordOf_40 rfl (lv_at hl 0 rfl) ?_
          refine r_ldc2 (x := 14555764) C KL_RX11_138 dX11_wordOf_41 ?_
          refine w_lne (tgt := 50) C hf dX11_wordOf_44 dX11_wordOf_45 (by decide) (fun hf => ?_) (fun hf => ?_)
          · refine lv_lload_n C.hx C.hb dX11_wordOf_50 rfl (lv_at hl 0 rfl) ?_
            refine r_ldc2 (x := 3375) C KL_RX11_140 dX11_wordOf_51 ?_
            refine w_lne (tgt := 60) C hf dX11_wordOf_54 dX11_wordOf_55 (by decide) (fun hf => ?_) (fun hf => ?_)
            · refine lv_lload_n C.hx C.hb dX11_wordOf_60 rfl (lv_at hl 0 rfl) ?_
              refine r_ldc2 (x := 3058) C KL_RX11_142 dX11_wordOf_61 ?_
              refine w_lne (tgt := 71) C hf dX11_wordOf_64 dX11_wordOf_65 (by decide) (fun hf => ?_) (fun hf => ?_)
              · refine lv_lload_n C.hx C.hb dX11_wordOf_71 rfl (lv_at hl 0 rfl) ?_
                refine r_ldc2 (x := 138148) C KL_RX11_144 dX11_wordOf_72 ?_
                refine w_lne (tgt := 82) C hf dX11_wordOf_75 dX11_wordOf_76 (by decide) (fun hf => ?_) (fun hf => ?_)
                · refine lv_lload_n C.hx C.hb dX11_wordOf_82 rfl (lv_at hl 0 rfl) ?_
                  refine r_ldc2 (x := 191476) C KL_RX11_146 dX11_wordOf_83 ?_
                  refine w_lne (tgt := 93) C hf dX11_wordOf_86 dX11_wordOf_87 (by decide) (fun hf => ?_) (fun hf => ?_)
                  · refine lv_lload_n C.hx C.hb dX11_wordOf_93 rfl (lv_at hl 0 rfl) ?_
                    refine r_ldc2 (x := 10623908) C KL_RX11_148 dX11_wordOf_94 ?_
                    refine w_lne (tgt := 104) C hf dX11_wordOf_97 dX11_wordOf_98 (by decide) (fun hf => ?_) (fun hf => ?_)
                    · refine lv_lload_n C.hx C.hb dX11_wordOf_104 rfl (lv_at hl 0 rfl) ?_
                      refine r_ldc2 (x := 196078) C KL_RX11_150 dX11_wordOf_105 ?_
                      refine w_lne (tgt := 115) C hf dX11_wordOf_108 dX11_wordOf_109 (by decide) (fun hf => ?_) (fun hf => ?_)
                      · refine lv_lload_n C.hx C.hb dX11_wordOf_115 rfl (lv_at hl 0 rfl) ?_
                        refine r_ldc2 (x := 10681714) C KL_RX11_152 dX11_wordOf_116 ?_
                        refine w_lne (tgt := 126) C hf dX11_wordOf_119 dX11_wordOf_120 (by decide) (fun hf => ?_) (fun hf => ?_)
                        · refine lv_lload_n C.hx C.hb dX11_wordOf_126 rfl (lv_at hl 0 rfl) ?_
                          refine r_ldc2 (x := 48885315956) C KL_RX11_154 dX11_wordOf_127 ?_
                          refine w_lne (tgt := 137) C hf dX11_wordOf_130 dX11_wordOf_131 (by decide) (fun hf => ?_) (fun hf => ?_)
                          · refine lv_lload_n C.hx C.hb dX11_wordOf_137 rfl (lv_at hl 0 rfl) ?_
                            refine r_ldc2 (x := 59687467572) C KL_RX11_156 dX11_wordOf_138 ?_
                            refine w_lne (tgt := 148) C hf dX11_wordOf_141 dX11_wordOf_142 (by decide) (fun hf => ?_) (fun hf => ?_)
                            · refine lv_lload_n C.hx C.hb dX11_wordOf_148 rfl (lv_at hl 0 rfl) ?_
                              refine r_ldc2 (x := 883349875) C KL_RX11_158 dX11_wordOf_149 ?_
                              refine w_lne (tgt := 159) C hf dX11_wordOf_152 dX11_wordOf_153 (by decide) (fun hf => ?_) (fun hf => ?_)
                              · refine lv_lload_n C.hx C.hb dX11_wordOf_159 rfl (lv_at hl 0 rfl) ?_
                                refine r_ldc2 (x := 10169325) C KL_RX11_160 dX11_wordOf_160 ?_
                                refine w_lne (tgt := 170) C hf dX11_wordOf_163 dX11_wordOf_164 (by decide) (fun hf => ?_) (fun hf => ?_)
                                · refine lv_iconst (v := Int32.ofInt (-1)) C.hx C.hb dX11_wordOf_170 rfl ?_
                                  cases hf
                                  exact w_iret C hH dX11_wordOf_171
                                · refine lv_bipush (v := Int32.ofInt 15) C.hx C.hb dX11_wordOf_167 (by decide) ?_
                                  cases hf
                                  exact w_iret C hH dX11_wordOf_169
                              · refine lv_bipush (v := Int32.ofInt 14) C.hx C.hb dX11_wordOf_156 (by decide) ?_
                                cases hf
                                exact w_iret C hH dX11_wordOf_158
                            · refine lv_bipush (v := Int32.ofInt 13) C.hx C.hb dX11_wordOf_145 (by decide) ?_
                              cases hf
                              exact w_iret C hH dX11_wordOf_147
                          · refine lv_bipush (v := Int32.ofInt 12) C.hx C.hb dX11_wordOf_134 (by decide) ?_
                            cases hf
                            exact w_iret C hH dX11_wordOf_136
                        · refine lv_bipush (v := Int32.ofInt 11) C.hx C.hb dX11_wordOf_123 (by decide) ?_
                          cases hf
                          exact w_iret C hH dX11_wordOf_125
                      · refine lv_bipush (v := Int32.ofInt 10) C.hx C.hb dX11_wordOf_112 (by decide) ?_
                        cases hf
                        exact w_iret C hH dX11_wordOf_114
                    · refine lv_bipush (v := Int32.ofInt 9) C.hx C.hb dX11_wordOf_101 (by decide) ?_
                      cases hf
                      exact w_iret C hH dX11_wordOf_103
                  · refine lv_bipush (v := Int32.ofInt 8) C.hx C.hb dX11_wordOf_90 (by decide) ?_
                    cases hf
                    exact w_iret C hH dX11_wordOf_92
                · refine lv_bipush (v := Int32.ofInt 7) C.hx C.hb dX11_wordOf_79 (by decide) ?_
                  cases hf
                  exact w_iret C hH dX11_wordOf_81
              · refine lv_bipush (v := Int32.ofInt 6) C.hx C.hb dX11_wordOf_68 (by decide) ?_
                cases hf
                exact w_iret C hH dX11_wordOf_70
            · refine lv_iconst (v := Int32.ofInt 5) C.hx C.hb dX11_wordOf_58 rfl ?_
              cases hf
              exact w_iret C hH dX11_wordOf_59
          · refine lv_iconst (v := Int32.ofInt 4) C.hx C.hb dX11_wordOf_48 rfl ?_
            cases hf
            exact w_iret C hH dX11_wordOf_49
        · refine lv_iconst (v := Int32.ofInt 3) C.hx C.hb dX11_wordOf_38 rfl ?_
          cases hf
          exact w_iret C hH dX11_wordOf_39
      · refine lv_iconst (v := Int32.ofInt 2) C.hx C.hb dX11_wordOf_28 rfl ?_
        cases hf
        exact w_iret C hH dX11_wordOf_29
    · refine lv_iconst (v := Int32.ofInt 1) C.hx C.hb dX11_wordOf_18 rfl ?_
      cases hf
      exact w_iret C hH dX11_wordOf_19
  · refine lv_iconst (v := Int32.ofInt 0) C.hx C.hb dX11_wordOf_8 rfl ?_
    cases hf
    exact w_iret C hH dX11_wordOf_9
-- HeavierByHandModel.next
def fn_X11_next_J426 (t : Nat) (M370 : Mem) (u0_426 : Int) : Option Mem :=
  st M370 t 17 u0_426 fun M426 => st M426 t 14 ((M426 t 14) + 1) fun M436 => some M436
def fn_X11_next_J385 (t : Nat) (x85 : Int) (M370 : Mem) : Option Mem :=
  cLt (M370 t 14) (M370 t 13) (rd M370 (t + 3) 300 (M370 t 14) fun x404 => cEq x404 61 (cEq x85 60 (fn_X11_next_J426 t M370 300) (fn_X11_next_J426 t M370 301)) (some M370)) (some M370)
def fn_X11_next_J370 (t : Nat) (x85 : Int) (M327 : Mem) (u0_370 : Int) : Option Mem :=
  st M327 t 16 u0_370 fun M370 => cEq x85 60 (fn_X11_next_J385 t x85 M370) (cEq x85 62 (fn_X11_next_J385 t x85 M370) (some M370))
def fn_X11_next_J365 (t : Nat) (x85 : Int) (M327 : Mem) : Option Mem :=
  fn_X11_next_J370 t x85 M327 3
def fn_X11_next_J299 (t : Nat) (M232 : Mem) (rec232 : Mem → Option Mem) (u0_299 : Int) : Option Mem :=
  st M232 t 17 u0_299 fun M299 => st M299 t 14 ((M299 t 14) + 1) fun M309 => rec232 M309
def fn_X11_next_L232 (t : Nat) (rec232 : Mem → Option Mem) (M232 : Mem) : Option Mem :=
  cLt (M232 t 14) (M232 t 13) (rd M232 (t + 3) 300 (M232 t 14) fun x251 => cu (fn_X11_in x251 48 57 M232) fun x256 => cEq x256 0 (some M232) (cLt 99999 (M232 t 17) (fn_X11_next_J299 t M232 rec232 (M232 t 17)) (rd M232 (t + 3) 300 (M232 t 14) fun x294 => fn_X11_next_J299 t M232 rec232 (((10 * (M232 t 17)) + x294) - 48)))) (some M232)
def fn_X11_next_J205 (t : Nat) (M189 : Mem) (u0_205 : Int) : Option Mem :=
  st M189 t 16 u0_205 fun M205 => some M205
def fn_X11_next_J189 (t : Nat) (M173 : Mem) (u0_189 : Int) : Option Mem :=
  st M173 t 17 u0_189 fun M189 => cLt (M189 t 17) 0 (fn_X11_next_J205 t M189 4) (fn_X11_next_J205 t M189 1)
def fn_X11_next_J173 (t : Nat) (v2_173 : Int) (v4_173 : Int) (M173 : Mem) : Option Mem :=
  cLt 7 v4_173 (fn_X11_next_J189 t M173 (-1)) (cu (fn_X11_wordOf v2_173 M173) fun x186 => fn_X11_next_J189 t M173 x186)
def fn_X11_next_J156 (t : Nat) (v4_99 : Int) (M99 : Mem) (rec99 : Int → Int → Mem → Option Mem) (u0_156 : Int) : Option Mem :=
  nm (v4_99 + 1) fun v4_157 => st M99 t 14 ((M99 t 14) + 1) fun M167 => rec99 v4_157 u0_156 M167
def fn_X11_next_L99 (t : Nat) (rec99 : Int → Int → Mem → Option Mem) (v4_99 : Int) (v2_99 : Int) (M99 : Mem) : Option Mem :=
  cLt (M99 t 14) (M99 t 13) (rd M99 (t + 3) 300 (M99 t 14) fun x118 => cu (fn_X11_isLetter x118 M99) fun x119 => cEq x119 0 (fn_X11_next_J173 t v2_99 v4_99 M99) (cLt v4_99 8 (rd M99 (t + 3) 300 (M99 t 14) fun x145 => ck (R3 x145) <| fn_X11_next_J156 t v4_99 M99 rec99 (((64 * v2_99) + x145) - 64)) (fn_X11_next_J156 t v4_99 M99 rec99 v2_99))) (fn_X11_next_J173 t v2_99 v4_99 M99)
def fn_X11_next_J52 (t : Nat) (M52 : Mem) : Option Mem :=
  st M52 t 15 (M52 t 14) fun M57 => cEq (M57 t 14) (M57 t 13) (st M57 t 16 0 fun M73 => some M73) (rd M57 (t + 3) 300 (M57 t 14) fun x85 => cu (fn_X11_isLetter x85 M57) fun x88 => cEq x88 0 (cu (fn_X11_in x85 48 57 M57) fun x216 => cEq x216 0 (st M57 t 14 ((M57 t 14) + 1) fun M322 => st M322 t 17 x85 fun M327 => cu (fn_X11_in x85 59 62 M327) fun x336 => cEq x336 0 (cu (fn_X11_in x85 40 45 M327) fun x347 => cEq x347 0 (cEq x85 47 (fn_X11_next_J365 t x85 M327) (cEq x85 35 (fn_X11_next_J365 t x85 M327) (fn_X11_next_J370 t x85 M327 4))) (fn_X11_next_J365 t x85 M327)) (fn_X11_next_J365 t x85 M327)) (st M57 t 16 2 fun M224 => st M224 t 17 0 fun M229 => lq1 (fn_X11_next_L232 t) FU M229)) (lq3 (fn_X11_next_L99 t) FU 0 0 M57))
def fn_X11_next_J39 (t : Nat) (M0 : Mem) (rec0 : Mem → Option Mem) : Option Mem :=
  st M0 t 14 ((M0 t 14) + 1) fun M46 => rec0 M46
def fn_X11_next_L0 (t : Nat) (rec0 : Mem → Option Mem) (M0 : Mem) : Option Mem :=
  cLt (M0 t 14) (M0 t 13) (rd M0 (t + 3) 300 (M0 t 14) fun x19 => cEq x19 32 (fn_X11_next_J39 t M0 rec0) (rd M0 (t + 3) 300 (M0 t 14) fun x33 => cEq x33 10 (fn_X11_next_J39 t M0 rec0) (fn_X11_next_J52 t M0))) (fn_X11_next_J52 t M0)
def fn_X11_next (t : Nat) (M : Mem) : Option Mem :=
  lq1 (fn_X11_next_L0 t) FU M
set_option maxRecDepth 100000 in
set_option maxHeartbeats 4000000 in
theorem j_X11_next_426 {p : Program} {l : Launch} {e : Env} {s : State} {m : MethodId} {args : Array Value} {below : List Frame} {meth : Method} {c : Code} {E : EE} {n : Nat} {o : Mem} {t : Nat} {M370 : Mem} {u0_426 : Int} {H : Heap} {locs : List Loc} {ls : Array Slot} (C : Cx E p s m args meth c cX11_next 5 RX11 none n "next") (hn : nfull n) (o_t : ob n t 11) (hf : fn_X11_next_J426 t M370 u0_426 = some o) (hH : ST E s n (zf n) M370 H locs) (hl : lv_has ls 5 [(0, .ref (eb E + t))]) : W p l e { frames := 2, cells := 0, slots := 0, locals := 42 } s m args below meth c H locs 0 0 (MQ below (QC E none n (zf n) o) args s 0 0 (fr E)) (F0 m 426 ls [i3 u0_426, .ref (eb E + t)]) := by
  unfold fn_X11_next_J426 at hf
  refine r_put C hH o_t (by decide) rfl FL_RX11_183 FW_11_17 hf dX11_next_426 (fun M426 H locs hf hH => ?_)
  refine lv_aload_n C.hx C.hb dX11_next_429 rfl (lv_at hl 0 rfl) ?_
  refine lv_dup C.hx C.hb dX11_next_430 rfl ?_
  refine g_int C hH o_t (by decide) rfl FL_RX11_162 dX11_next_431 ?_
  refine lv_iconst (v := Int32.ofInt 1) C.hx C.hb dX11_next_434 rfl ?_
  refine w_iadd C dX11_next_435 ?_
  refine r_put C hH o_t (by decide) rfl FL_RX11_162 FW_11_14 hf dX11_next_436 (fun M436 H locs hf hH => ?_)
  cases hf
  exact w_vret C hH dX11_next_439
set_option maxRecDepth 100000 in
set_option maxHeartbeats 4000000 in
theorem j_X11_next_385 {p : Program} {l : Launch} {e : Env} {s : State} {m : MethodId} {args : Array Value} {below : List Frame} {meth : Method} {c : Code} {E : EE} {n : Nat} {o : Mem} {t : Nat} {x85 : Int} {M370 : Mem} {H : Heap} {locs : List Loc} {ls : Array Slot} (C : Cx E p s m args meth c cX11_next 5 RX11 none n "next") (hn : nfull n) (o_t : ob n t 11) (hf : fn_X11_next_J385 t x85 M370 = some o) (hH : ST E s n (zf n) M370 H locs) (hl : lv_has ls 5 [(0, .ref (eb E + t)), (1, i3 x85)]) : W p l e { frames := 2, cells := 0, slots := 0, locals := 42 } s m args below meth c H locs 0 0 (MQ below (QC E none n (zf n) o) args s 0 0 (fr E)) (F0 m 385 ls []) := by
  unfold fn_X11_next_J385 at hf
  refine lv_aload_n C.hx C.hb dX11_next_385 rfl (lv_at hl 0 rfl) ?_
  refine g_int C hH o_t (by decide) rfl FL_RX11_162 dX11_next_386 ?_
  refine lv_aload_n C.hx C.hb dX11_next_389 rfl (lv_at hl 0 rfl) ?_
  refine g_int C hH o_t (by decide) rfl FL_RX11_165 dX11_next_390 ?_
  refine w_ge (tgt := 439) C hf dX11_next_393 (by decide) (fun hf => ?_) (fun hf => ?_)
  · cases hf
    exact w_vret C hH dX11_next_439
  · refine lv_aload_n C.hx C.hb dX11_next_396 rfl (lv_at hl 0 rfl) ?_
    refine g_ref (off := 3) C hH o_t (by decide) rfl rfl FL_RX11_16 dX11_next_397 ?_
    refine lv_aload_n C.hx C.hb dX11_next_400 rfl (lv_at hl 0 rfl) ?_
    refine g_int C hH o_t (by decide) rfl FL_RX11_162 dX11_next_401 ?_
    refine r_bald C hH (ly (i := 2) (off := 3) (k := 13) hn o_t rfl rfl rfl) (lyn (i := 2) (off := 3) (N := 299) hn o_t rfl rfl rfl) hf dX11_next_404 (fun x404 hf => ?_)
    refine lv_bipush (v := Int32.ofInt 61) C.hx C.hb dX11_next_405 (by decide) ?_
    refine w_ne (tgt := 439) C hf dX11_next_407 (by decide) (fun hf => ?_) (fun hf => ?_)
    · cases hf
      exact w_vret C hH dX11_next_439
    · refine lv_aload_n C.hx C.hb dX11_next_410 rfl (lv_at hl 0 rfl) ?_
      refine lv_iload_n C.hx C.hb dX11_next_411 rfl (lv_at hl 1 rfl) ?_
      refine lv_bipush (v := Int32.ofInt 60) C.hx C.hb dX11_next_412 (by decide) ?_
      refine w_ne (tgt := 423) C hf dX11_next_414 (by decide) (fun hf => ?_) (fun hf => ?_)
      · refine lv_sipush (v := Int32.ofInt 301) C.hx C.hb dX11_next_423 (by decide) ?_
        exact j_X11_next_426 C hn o_t hf hH (lv_sub hl [0] rfl)
      · refine lv_sipush (v := Int32.ofInt 300) C.hx C.hb dX11_next_417 (by decide) ?_
        refine lv_goto (tgt := 426) C.hx C.hb dX11_next_420 (by decide) ?_
        exact j_X11_next_426 C hn o_t hf hH (lv_sub hl [0] rfl)
set_option maxRecDepth 100000 in
set_option maxHeartbeats 4000000 in
theorem j_X11_next_370 {p : Program} {l : Launch} {e : Env} {s : State} {m : MethodId} {args : Array Value} {below : List Frame} {meth : Method} {c : Code} {E : EE} {n : Nat} {o : Mem} {t : Nat} {x85 : Int} {M327 : Mem} {u0_370 : Int} {H : Heap} {locs : List Loc} {ls : Array Slot} (C : Cx E p s m args meth c cX11_next 5 RX11 none n "next") (hn : nfull n) (o_t : ob n t 11) (hf : fn_X11_next_J370 t x85 M327 u0_370 = some o) (hH : ST E s n (zf n) M327 H locs) (hl : lv_has ls 5 [(0, .ref (eb E + t)), (1, i3 x85)]) : W p l e { frames := 2, cells := 0, slots := 0, locals := 42 } s m args below meth c H locs 0 0 (MQ below (QC E none n (zf n) o) args s 0 0 (fr E)) (F0 m 370 ls [i3 u0_370, .ref (eb E + t)]) := by
  unfold fn_X11_next_J370 at hf
  refine r_put C hH o_t (by decide) rfl FL_RX11_171 FW_11_16 hf dX11_next_370 (fun M370 H locs hf hH => ?_)
  refine lv_iload_n C.hx C.hb dX11_next_373 rfl (lv_at hl 1 rfl) ?_
  refine lv_bipush (v := Int32.ofInt 60) C.hx C.hb dX11_next_374 (by decide) ?_
  refine w_eq (tgt := 385) C hf dX11_next_376 (by decide) (fun hf => ?_) (fun hf => ?_)
  · exact j_X11_next_385 C hn o_t hf hH (lv_sub hl [0, 1] rfl)
  · refine lv_iload_n C.hx C.hb dX11_next_379 rfl (lv_at hl 1 rfl) ?_
    refine lv_bipush (v := Int32.ofInt 62) C.hx C.hb dX11_next_380 (by decide) ?_
    refine w_ne (tgt := 439) C hf dX11_next_382 (by decide) (fun hf => ?_) (fun hf => ?_)
    · cases hf
      exact w_vret C hH dX11_next_439
    · exact j_X11_next_385 C hn o_t hf hH (lv_sub hl [0, 1] rfl)
set_option maxRecDepth 100000 in
set_option maxHeartbeats 4000000 in
theorem j_X11_next_365 {p : Program} {l : Launch} {e : Env} {s : State} {m : MethodId} {args : Array Value} {below : List Frame} {meth : Method} {c : Code} {E : EE} {n : Nat} {o : Mem} {t : Nat} {x85 : Int} {M327 : Mem} {H : Heap} {locs : List Loc} {ls : Array Slot} (C : Cx E p s m args meth c cX11_next 5 RX11 none n "next") (hn : nfull n) (o_t : ob n t 11) (hf : fn_X11_next_J365 t x85 M327 = some o) (hH : ST E s n (zf n) M327 H locs) (hl : lv_has ls 5 [(0, .ref (eb E + t)), (1, i3 x85)]) : W p l e { frames := 2, cells := 0, slots := 0, locals := 42 } s m args below meth c H locs 0 0 (MQ below (QC E none n (zf n) o) args s 0 0 (fr E)) (F0 m 365 ls [.ref (eb E + t)]) := by
  unfold fn_X11_next_J365 at hf
  refine lv_iconst (v := Int32.ofInt 3) C.hx C.hb dX11_next_365 rfl ?_
  refine lv_goto (tgt := 370) C.hx C.hb dX11_next_366 (by decide) ?_
  exact j_X11_next_370 C hn o_t hf hH (lv_sub hl [0, 1] rfl)
set_option maxRecDepth 100000 in
set_option maxHeartbeats 4000000 in
theorem j_X11_next_299 {p : Program} {l : Launch} {e : Env} {s : State} {m : MethodId} {args : Array Value} {below : List Frame} {meth : Method} {c : Code} {E : EE} {n : Nat} {o : Mem} {t : Nat} {M232 : Mem} {rec232 : Mem → Option Mem} {u0_299 : Int} {H : Heap} {locs : List Loc} {ls : Array Slot} (C : Cx E p s m args meth c cX11_next 5 RX11 none n "next") (hn : nfull n) (o_t : ob n t 11) (h_rec232 : ∀ {M232 : Mem} {H : Heap} {locs : List Loc} {ls : Array Slot}, rec232 M232 = some o → ST E s n (zf n) M232 H locs → lv_has ls 5 [(0, .ref (eb E + t))] → W p l e { frames := 2, cells := 0, slots := 0, locals := 42 } s m args below meth c H locs 0 0 (MQ below (QC E none n (zf n) o) args s 0 0 (fr E)) (F0 m 232 ls [])) (hf : fn_X11_next_J299 t M232 rec232 u0_299 = some o) (hH : ST E s n (zf n) M232 H locs) (hl : lv_has ls 5 [(0, .ref (eb E + t))]) : W p l e { frames := 2, cells := 0, slots := 0, locals := 42 } s m args below meth c H locs 0 0 (MQ below (QC E none n (zf n) o) args s 0 0 (fr E)) (F0 m 299 ls [i3 u0_299, .ref (eb E + t)]) := by
  unfold fn_X11_next_J299 at hf
  refine r_put C hH o_t (by decide) rfl FL_RX11_183 FW_11_17 hf dX11_next_299 (fun M299 H locs hf hH => ?_)
  refine lv_aload_n C.hx C.hb dX11_next_302 rfl (lv_at hl 0 rfl) ?_
  refine lv_dup C.hx C.hb dX11_next_303 rfl ?_
  refine g_int C hH o_t (by decide) rfl FL_RX11_162 dX11_next_304 ?_
  refine lv_iconst (v := Int32.ofInt 1) C.hx C.hb dX11_next_307 rfl ?_
  refine w_iadd C dX11_next_308 ?_
  refine r_put C hH o_t (by decide) rfl FL_RX11_162 FW_11_14 hf dX11_next_309 (fun M309 H locs hf hH => ?_)
  refine lv_goto (tgt := 232) C.hx C.hb dX11_next_312 (by decide) ?_
  exact h_rec232 hf hH (lv_sub hl [0] rfl)
set_option maxRecDepth 100000 in
set_option maxHeartbeats 4000000 in
theorem l_X11_next_232 {p : Program} {l : Launch} {e : Env} {s : State} {m : MethodId} {args : Array Value} {below : List Frame} {meth : Method} {c : Code} {E : EE} {n : Nat} {o : Mem} {t : Nat} (C : Cx E p s m args meth c cX11_next 5 RX11 none n "next") (hn : nfull n) (o_t : ob n t 11) : ∀ (k : Nat) (M232 : Mem) (H : Heap) (locs : List Loc) (ls : Array Slot), lq1 (fn_X11_next_L232 t) k M232 = some o → ST E s n (zf n) M232 H locs → lv_has ls 5 [(0, .ref (eb E + t))] → W p l e { frames := 2, cells := 0, slots := 0, locals := 42 } s m args below meth c H locs 0 0 (MQ below (QC E none n (zf n) o) args s 0 0 (fr E)) (F0 m 232 ls []) := by
  intro k
  induction k with
  | zero => intro M232 H locs ls hf; cases hf
  | succ k ih =>
    intro M232 H locs ls hf hH hl
    have h_rec232 : ∀ {M232 : Mem} {H : Heap} {locs : List Loc} {ls : Array Slot}, lq1 (fn_X11_next_L232 t) k M232 = some o → ST E s n (zf n) M232 H locs → lv_has ls 5 [(0, .ref (eb E + t))] → W p l e { frames := 2, cells := 0, slots := 0, locals := 42 } s m args below meth c H locs 0 0 (MQ below (QC E none n (zf n) o) args s 0 0 (fr E)) (F0 m 232 ls []) := fun {M232} {H} {locs} {ls} a b c => ih M232 H locs ls a b c
    replace hf : fn_X11_next_L232 t (lq1 (fn_X11_next_L232 t) k) M232 = some o := hf
    generalize lq1 (fn_X11_next_L232 t) k = rec232 at hf h_rec232
    unfold fn_X11_next_L232 at hf
    refine lv_aload_n C.hx C.hb dX11_next_232 rfl (lv_at hl 0 rfl) ?_
    refine g_int C hH o_t (by decide) rfl FL_RX11_162 dX11_next_233 ?_
    refine lv_aload_n C.hx C.hb dX11_next_236 rfl (lv_at hl 0 rfl) ?_
    refine g_int C hH o_t (by decide) rfl FL_RX11_165 dX11_next_237 ?_
    refine w_ge (tgt := 439) C hf dX11_next_240 (by decide) (fun hf => ?_) (fun hf => ?_)
    · cases hf
      exact w_vret C hH dX11_next_439
    · refine lv_aload_n C.hx C.hb dX11_next_243 rfl (lv_at hl 0 rfl) ?_
      refine g_ref (off := 3) C hH o_t (by decide) rfl rfl FL_RX11_16 dX11_next_244 ?_
      refine lv_aload_n C.hx C.hb dX11_next_247 rfl (lv_at hl 0 rfl) ?_
      refine g_int C hH o_t (by decide) rfl FL_RX11_162 dX11_next_248 ?_
      refine r_bald C hH (ly (i := 2) (off := 3) (k := 13) hn o_t rfl rfl rfl) (lyn (i := 2) (off := 3) (N := 299) hn o_t rfl rfl rfl) hf dX11_next_251 (fun x251 hf => ?_)
      refine lv_bipush (v := Int32.ofInt 48) C.hx C.hb dX11_next_252 (by decide) ?_
      refine lv_bipush (v := Int32.ofInt 57) C.hx C.hb dX11_next_254 (by decide) ?_
      obtain ⟨x256, hc9, hf⟩ := cu_of hf
      refine r_callSi (rest := []) C hH hl (m_X11_in hn hc9) ML_RX11_115 MF_X11_in MS_X11_in rfl rfl (Nat.le_of_ble_eq_true rfl) ⟨Nat.le_of_ble_eq_true rfl, Nat.le_of_ble_eq_true rfl⟩ ⟨Nat.le_refl _, Nat.le_refl _⟩ dX11_next_256 (fun H locs hH => ?_)
      refine w_eq0 (tgt := 439) C hf dX11_next_259 (by decide) (fun hf => ?_) (fun hf => ?_)
      · cases hf
        exact w_vret C hH dX11_next_439
      · refine lv_aload_n C.hx C.hb dX11_next_262 rfl (lv_at hl 0 rfl) ?_
        refine lv_aload_n C.hx C.hb dX11_next_263 rfl (lv_at hl 0 rfl) ?_
        refine g_int C hH o_t (by decide) rfl FL_RX11_183 dX11_next_264 ?_
        refine r_ldc (x := 99999) C KI_RX11_186 dX11_next_267 ?_
        refine w_le (tgt := 279) C hf dX11_next_269 (by decide) (fun hf => ?_) (fun hf => ?_)
        · refine lv_bipush (v := Int32.ofInt 10) C.hx C.hb dX11_next_279 (by decide) ?_
          refine lv_aload_n C.hx C.hb dX11_next_281 rfl (lv_at hl 0 rfl) ?_
          refine g_int C hH o_t (by decide) rfl FL_RX11_183 dX11_next_282 ?_
          refine w_imul C dX11_next_285 ?_
          refine lv_aload_n C.hx C.hb dX11_next_286 rfl (lv_at hl 0 rfl) ?_
          refine g_ref (off := 3) C hH o_t (by decide) rfl rfl FL_RX11_16 dX11_next_287 ?_
          refine lv_aload_n C.hx C.hb dX11_next_290 rfl (lv_at hl 0 rfl) ?_
          refine g_int C hH o_t (by decide) rfl FL_RX11_162 dX11_next_291 ?_
          refine r_bald C hH (ly (i := 2) (off := 3) (k := 13) hn o_t rfl rfl rfl) (lyn (i := 2) (off := 3) (N := 299) hn o_t rfl rfl rfl) hf dX11_next_294 (fun x294 hf => ?_)
          refine w_iadd C dX11_next_295 ?_
          refine lv_bipush (v := Int32.ofInt 48) C.hx C.hb dX11_next_296 (by decide) ?_
          refine w_isub C dX11_next_298 ?_
          exact j_X11_next_299 C hn o_t h_rec232 hf hH (lv_sub hl [0] rfl)
        · refine lv_aload_n C.hx C.hb dX11_next_272 rfl (lv_at hl 0 rfl) ?_
          refine g_int C hH o_t (by decide) rfl FL_RX11_183 dX11_next_273 ?_
          refine lv_goto (tgt := 299) C.hx C.hb dX11_next_276 (by decide) ?_
          exact j_X11_next_299 C hn o_t h_rec232 hf hH (lv_sub hl [0] rfl)
set_option maxRecDepth 100000 in
set_option maxHeartbeats 4000000 in
theorem j_X11_next_205 {p : Program} {l : Launch} {e : Env} {s : State} {m : MethodId} {args : Array Value} {below : List Frame} {meth : Method} {c : Code} {E : EE} {n : Nat} {o : Mem} {t : Nat} {M189 : Mem} {u0_205 : Int} {H : Heap} {locs : List Loc} {ls : Array Slot} (C : Cx E p s m args meth c cX11_next 5 RX11 none n "next") (hn : nfull n) (o_t : ob n t 11) (hf : fn_X11_next_J205 t M189 u0_205 = some o) (hH : ST E s n (zf n) M189 H locs) (hl : lv_has ls 5 []) : W p l e { frames := 2, cells := 0, slots := 0, locals := 42 } s m args below meth c H locs 0 0 (MQ below (QC E none n (zf n) o) args s 0 0 (fr E)) (F0 m 205 ls [i3 u0_205, .ref (eb E + t)]) := by
  unfold fn_X11_next_J205 at hf
  refine r_put C hH o_t (by decide) rfl FL_RX11_171 FW_11_16 hf dX11_next_205 (fun M205 H locs hf hH => ?_)
  refine lv_goto (tgt := 439) C.hx C.hb dX11_next_208 (by decide) ?_
  cases hf
  exact w_vret C hH dX11_next_439
set_option maxRecDepth 100000 in
set_option maxHeartbeats 4000000 in
theorem j_X11_next_189 {p : Program} {l : Launch} {e : Env} {s : State} {m : MethodId} {args : Array Value} {below : List Frame} {meth : Method} {c : Code} {E : EE} {n : Nat} {o : Mem} {t : Nat} {M173 : Mem} {u0_189 : Int} {H : Heap} {locs : List Loc} {ls : Array Slot} (C : Cx E p s m args meth c cX11_next 5 RX11 none n "next") (hn : nfull n) (o_t : ob n t 11) (hf : fn_X11_next_J189 t M173 u0_189 = some o) (hH : ST E s n (zf n) M173 H locs) (hl : lv_has ls 5 [(0, .ref (eb E + t))]) : W p l e { frames := 2, cells := 0, slots := 0, locals := 42 } s m args below meth c H locs 0 0 (MQ below (QC E none n (zf n) o) args s 0 0 (fr E)) (F0 m 189 ls [i3 u0_189, .ref (eb E + t)]) := by
  unfold fn_X11_next_J189 at hf
  refine r_put C hH o_t (by decide) rfl FL_RX11_183 FW_11_17 hf dX11_next_189 (fun M189 H locs hf hH => ?_)
  refine lv_aload_n C.hx C.hb dX11_next_192 rfl (lv_at hl 0 rfl) ?_
  refine lv_aload_n C.hx C.hb dX11_next_193 rfl (lv_at hl 0 rfl) ?_
  refine g_int C hH o_t (by decide) rfl FL_RX11_183 dX11_next_194 ?_
  refine w_ge0 (tgt := 204) C hf dX11_next_197 (by decide) (fun hf => ?_) (fun hf => ?_)
  · refine lv_iconst (v := Int32.ofInt 1) C.hx C.hb dX11_next_204 rfl ?_
    exact j_X11_next_205 C hn o_t hf hH (lv_sub hl [] rfl)
  · refine lv_iconst (v := Int32.ofInt 4) C.hx C.hb dX11_next_200 rfl ?_
    refine lv_goto (tgt := 205) C.hx C.hb dX11_next_201 (by decide) ?_
    exact j_X11_next_205 C hn o_t hf hH (lv_sub hl [] rfl)
set_option maxRecDepth 100000 in
set_option maxHeartbeats 4000000 in
theorem j_X11_next_173 {p : Program} {l : Launch} {e : Env} {s : State} {m : MethodId} {args : Array Value} {below : List Frame} {meth : Method} {c : Code} {E : EE} {n : Nat} {o : Mem} {t : Nat} {v2_173 : Int} {v4_173 : Int} {M173 : Mem} {H : Heap} {locs : List Loc} {ls : Array Slot} (C : Cx E p s m args meth c cX11_next 5 RX11 none n "next") (hn : nfull n) (o_t : ob n t 11) (hf : fn_X11_next_J173 t v2_173 v4_173 M173 = some o) (hH : ST E s n (zf n) M173 H locs) (hl : lv_has ls 5 [(0, .ref (eb E + t)), (2, l6 v2_173), (4, i3 v4_173)]) : W p l e { frames := 2, cells := 0, slots := 0, locals := 42 } s m args below meth c H locs 0 0 (MQ below (QC E none n (zf n) o) args s 0 0 (fr E)) (F0 m 173 ls []) := by
  unfold fn_X11_next_J173 at hf
  refine lv_aload_n C.hx C.hb dX11_next_173 rfl (lv_at hl 0 rfl) ?_
  refine lv_iload C.hx C.hb dX11_next_174 (lv_at hl 2 rfl) ?_
  refine lv_bipush (v := Int32.ofInt 7) C.hx C.hb dX11_next_176 (by decide) ?_
  refine w_le (tgt := 185) C hf dX11_next_178 (by decide) (fun hf => ?_) (fun hf => ?_)
  · refine lv_lload_n C.hx C.hb dX11_next_185 rfl (lv_at hl 1 rfl) ?_
    obtain ⟨x186, hc9, hf⟩ := cu_of hf
    refine r_callSi (rest := [.ref (eb E + t)]) C hH hl (m_X11_wordOf hn hc9) ML_RX11_179 MF_X11_wordOf MS_X11_wordOf rfl rfl (Nat.le_of_ble_eq_true rfl) ⟨Nat.le_of_ble_eq_true rfl, Nat.le_of_ble_eq_true rfl⟩ ⟨Nat.le_refl _, Nat.le_refl _⟩ dX11_next_186 (fun H locs hH => ?_)
    exact j_X11_next_189 C hn o_t hf hH (lv_sub hl [0] rfl)
  · refine lv_iconst (v := Int32.ofInt (-1)) C.hx C.hb dX11_next_181 rfl ?_
    refine lv_goto (tgt := 189) C.hx C.hb dX11_next_182 (by decide) ?_
    exact j_X11_next_189 C hn o_t hf hH (lv_sub hl [0] rfl)
set_option maxRecDepth 100000 in
set_option maxHeartbeats 4000000 in
theorem j_X11_next_156 {p : Program} {l : Launch} {e : Env} {s : State} {m : MethodId} {args : Array Value} {below : List Frame} {meth : Method} {c : Code} {E : EE} {n : Nat} {o : Mem} {t : Nat} {v4_99 : Int} {M99 : Mem} {rec99 : Int → Int → Mem → Option Mem} {u0_156 : Int} {H : Heap} {locs : List Loc} {ls : Array Slot} (C : Cx E p s m args meth c cX11_next 5 RX11 none n "next") (hn : nfull n) (o_t : ob n t 11) (h_rec99 : ∀ {v4_99 : Int} {v2_99 : Int} {M99 : Mem} {H : Heap} {locs : List Loc} {ls : Array Slot}, rec99 v4_99 v2_99 M99 = some o → ST E s n (zf n) M99 H locs → lv_has ls 5 [(0, .ref (eb E + t)), (2, l6 v2_99), (4, i3 v4_99)] → W p l e { frames := 2, cells := 0, slots := 0, locals := 42 } s m args below meth c H locs 0 0 (MQ below (QC E none n (zf n) o) args s 0 0 (fr E)) (F0 m 99 ls [])) (hf : fn_X11_next_J156 t v4_99 M99 rec99 u0_156 = some o) (hH : ST E s n (zf n) M99 H locs) (hl : lv_has ls 5 [(0, .ref (eb E + t)), (4, i3 v4_99)]) : W p l e { frames := 2, cells := 0, slots := 0, locals := 42 } s m args below meth c H locs 0 0 (MQ below (QC E none n (zf n) o) args s 0 0 (fr E)) (F0 m 156 ls [l6 u0_156]) := by
  unfold fn_X11_next_J156 at hf
  refine lv_lstore_n (lv' := [(2, l6 u0_156), (0, .ref (eb E + t)), (4, i3 v4_99)]) C.hx C.hb dX11_next_156 rfl hl (by decide) rfl (fun ls hl => ?_)
  refine r_iinc (k := 2) (lv' := fun v => [(4, i3 v), (2, l6 u0_156), (0, .ref (eb E + t))]) C hf dX11_next_157 hl rfl (by decide) (fun _ => rfl) (fun v4_157 ls hf hl => ?_)
  refine lv_aload_n C.hx C.hb dX11_next_160 rfl (lv_at hl 2 rfl) ?_
  refine lv_dup C.hx C.hb dX11_next_161 rfl ?_
  refine g_int C hH o_t (by decide) rfl FL_RX11_162 dX11_next_162 ?_
  refine lv_iconst (v := Int32.ofInt 1) C.hx C.hb dX11_next_165 rfl ?_
  refine w_iadd C dX11_next_166 ?_
  refine r_put C hH o_t (by decide) rfl FL_RX11_162 FW_11_14 hf dX11_next_167 (fun M167 H locs hf hH => ?_)
  refine lv_goto (tgt := 99) C.hx C.hb dX11_next_170 (by decide) ?_
  exact h_rec99 hf hH (lv_sub hl [2, 1, 0] rfl)
set_option maxRecDepth 100000 in
set_option maxHeartbeats 4000000 in
theorem l_X11_next_99 {p : Program} {l : Launch} {e : Env} {s : State} {m : MethodId} {args : Array Value} {below : List Frame} {meth : Method} {c : Code} {E : EE} {n : Nat} {o : Mem} {t : Nat} (C : Cx E p s m args meth c cX11_next 5 RX11 none n "next") (hn : nfull n) (o_t : ob n t 11) : ∀ (k : Nat) (v4_99 : Int) (v2_99 : Int) (M99 : Mem) (H : Heap) (locs : List Loc) (ls : Array Slot), lq3 (fn_X11_next_L99 t) k v4_99 v2_99 M99 = some o → ST E s n (zf n) M99 H locs → lv_has ls 5 [(0, .ref (eb E + t)), (2, l6 v2_99), (4, i3 v4_99)] → W p l e { frames := 2, cells := 0, slots := 0, locals := 42 } s m args below meth c H locs 0 0 (MQ below (QC E none n (zf n) o) args s 0 0 (fr E)) (F0 m 99 ls []) := by
  intro k
  induction k with
  | zero => intro v4_99 v2_99 M99 H locs ls hf; cases hf
  | succ k ih =>
    intro v4_99 v2_99 M99 H locs ls hf hH hl
    have h_rec99 : ∀ {v4_99 : Int} {v2_99 : Int} {M99 : Mem} {H : Heap} {locs : List Loc} {ls : Array Slot}, lq3 (fn_X11_next_L99 t) k v4_99 v2_99 M99 = some o → ST E s n (zf n) M99 H locs → lv_has ls 5 [(0, .ref (eb E + t)), (2, l6 v2_99), (4, i3 v4_99)] → W p l e { frames := 2, cells := 0, slots := 0, locals := 42 } s m args below meth c H locs 0 0 (MQ below (QC E none n (zf n) o) args s 0 0 (fr E)) (F0 m 99 ls []) := fun {v4_99} {v2_99} {M99} {H} {locs} {ls} a b c => ih v4_99 v2_99 M99 H locs ls a b c
    replace hf : fn_X11_next_L99 t (lq3 (fn_X11_next_L99 t) k) v4_99 v2_99 M99 = some o := hf
    generalize lq3 (fn_X11_next_L99 t) k = rec99 at hf h_rec99
    unfold fn_X11_next_L99 at hf
    refine lv_aload_n C.hx C.hb dX11_next_99 rfl (lv_at hl 0 rfl) ?_
    refine g_int C hH o_t (by decide) rfl FL_RX11_162 dX11_next_100 ?_
    refine lv_aload_n C.hx C.hb dX11_next_103 rfl (lv_at hl 0 rfl) ?_
    refine g_int C hH o_t (by decide) rfl FL_RX11_165 dX11_next_104 ?_
    refine w_ge (tgt := 173) C hf dX11_next_107 (by decide) (fun hf => ?_) (fun hf => ?_)
    · exact j_X11_next_173 C hn o_t hf hH (lv_sub hl [0, 1, 2] rfl)
    · refine lv_aload_n C.hx C.hb dX11_next_110 rfl (lv_at hl 0 rfl) ?_
      refine g_ref (off := 3) C hH o_t (by decide) rfl rfl FL_RX11_16 dX11_next_111 ?_
      refine lv_aload_n C.hx C.hb dX11_next_114 rfl (lv_at hl 0 rfl) ?_
      refine g_int C hH o_t (by decide) rfl FL_RX11_162 dX11_next_115 ?_
      refine r_bald C hH (ly (i := 2) (off := 3) (k := 13) hn o_t rfl rfl rfl) (lyn (i := 2) (off := 3) (N := 299) hn o_t rfl rfl rfl) hf dX11_next_118 (fun x118 hf => ?_)
      obtain ⟨x119, hc9, hf⟩ := cu_of hf
      refine r_callSi (rest := []) C hH hl (m_X11_isLetter hn hc9) ML_RX11_174 MF_X11_isLetter MS_X11_isLetter rfl rfl (Nat.le_of_ble_eq_true rfl) ⟨Nat.le_of_ble_eq_true rfl, Nat.le_of_ble_eq_true rfl⟩ ⟨Nat.le_refl _, Nat.le_refl _⟩ dX11_next_119 (fun H locs hH => ?_)
      refine w_eq0 (tgt := 173) C hf dX11_next_122 (by decide) (fun hf => ?_) (fun hf => ?_)
      · exact j_X11_next_173 C hn o_t hf hH (lv_sub hl [0, 1, 2] rfl)
      · refine lv_iload C.hx C.hb dX11_next_125 (lv_at hl 2 rfl) ?_
        refine lv_bipush (v := Int32.ofInt 8) C.hx C.hb dX11_next_127 (by decide) ?_
        refine w_ge (tgt := 155) C hf dX11_next_129 (by decide) (fun hf => ?_) (fun hf => ?_)
        · refine lv_lload_n C.hx C.hb dX11_next_155 rfl (lv_at hl 1 rfl) ?_
          exact j_X11_next_156 C hn o_t h_rec99 hf hH (lv_sub hl [0, 2] rfl)
        · refine r_ldc2 (x := 64) C KL_RX11_177 dX11_next_132 ?_
          refine lv_lload_n C.hx C.hb dX11_next_135 rfl (lv_at hl 1 rfl) ?_
          refine w_lmul C dX11_next_136 ?_
          refine lv_aload_n C.hx C.hb dX11_next_137 rfl (lv_at hl 0 rfl) ?_
          refine g_ref (off := 3) C hH o_t (by decide) rfl rfl FL_RX11_16 dX11_next_138 ?_
          refine lv_aload_n C.hx C.hb dX11_next_141 rfl (lv_at hl 0 rfl) ?_
          refine g_int C hH o_t (by decide) rfl FL_RX11_162 dX11_next_142 ?_
          refine r_bald C hH (ly (i := 2) (off := 3) (k := 13) hn o_t rfl rfl rfl) (lyn (i := 2) (off := 3) (N := 299) hn o_t rfl rfl rfl) hf dX11_next_145 (fun x145 hf => ?_)
          obtain ⟨hR8, hf⟩ := ck_of hf
          refine w_i2l C hR8 dX11_next_146 ?_
          refine w_ladd C dX11_next_147 ?_
          refine r_ldc2 (x := 64) C KL_RX11_177 dX11_next_148 ?_
          refine w_lsub C dX11_next_151 ?_
          refine lv_goto (tgt := 156) C.hx C.hb dX11_next_152 (by decide) ?_
          exact j_X11_next_156 C hn o_t h_rec99 hf hH (lv_sub hl [0, 2] rfl)
set_option maxRecDepth 100000 in
set_option maxHeartbeats 4000000 in
theorem j_X11_next_52 {p : Program} {l : Launch} {e : Env} {s : State} {m : MethodId} {args : Array Value} {below : List Frame} {meth : Method} {c : Code} {E : EE} {n : Nat} {o : Mem} {t : Nat} {M52 : Mem} {H : Heap} {locs : List Loc} {ls : Array Slot} (C : Cx E p s m args meth c cX11_next 5 RX11 none n "next") (hn : nfull n) (o_t : ob n t 11) (hf : fn_X11_next_J52 t M52 = some o) (hH : ST E s n (zf n) M52 H locs) (hl : lv_has ls 5 [(0, .ref (eb E + t))]) : W p l e { frames := 2, cells := 0, slots := 0, locals := 42 } s m args below meth c H locs 0 0 (MQ below (QC E none n (zf n) o) args s 0 0 (fr E)) (F0 m 52 ls []) := by
  unfold fn_X11_next_J52 at hf
  refine lv_aload_n C.hx C.hb dX11_next_52 rfl (lv_at hl 0 rfl) ?_
  refine lv_aload_n C.hx C.hb dX11_next_53 rfl (lv_at hl 0 rfl) ?_
  refine g_int C hH o_t (by decide) rfl FL_RX11_162 dX11_next_54 ?_
  refine r_put C hH o_t (by decide) rfl FL_RX11_168 FW_11_15 hf dX11_next_57 (fun M57 H locs hf hH => ?_)
  refine lv_aload_n C.hx C.hb dX11_next_60 rfl (lv_at hl 0 rfl) ?_
  refine g_int C hH o_t (by decide) rfl FL_RX11_162 dX11_next_61 ?_
  refine lv_aload_n C.hx C.hb dX11_next_64 rfl (lv_at hl 0 rfl) ?_
  refine g_int C hH o_t (by decide) rfl FL_RX11_165 dX11_next_65 ?_
  refine w_ne (tgt := 77) C hf dX11_next_68 (by decide) (fun hf => ?_) (fun hf => ?_)
  · refine lv_aload_n C.hx C.hb dX11_next_77 rfl (lv_at hl 0 rfl) ?_
    refine g_ref (off := 3) C hH o_t (by decide) rfl rfl FL_RX11_16 dX11_next_78 ?_
    refine lv_aload_n C.hx C.hb dX11_next_81 rfl (lv_at hl 0 rfl) ?_
    refine g_int C hH o_t (by decide) rfl FL_RX11_162 dX11_next_82 ?_
    refine r_bald C hH (ly (i := 2) (off := 3) (k := 13) hn o_t rfl rfl rfl) (lyn (i := 2) (off := 3) (N := 299) hn o_t rfl rfl rfl) hf dX11_next_85 (fun x85 hf => ?_)
    refine lv_istore_n (lv' := [(1, i3 x85), (0, .ref (eb E + t))]) C.hx C.hb dX11_next_86 rfl hl (by decide) rfl (fun ls hl => ?_)
    refine lv_iload_n C.hx C.hb dX11_next_87 rfl (lv_at hl 0 rfl) ?_
    obtain ⟨x88, hc9, hf⟩ := cu_of hf
    refine r_callSi (rest := []) C hH hl (m_X11_isLetter hn hc9) ML_RX11_174 MF_X11_isLetter MS_X11_isLetter rfl rfl (Nat.le_of_ble_eq_true rfl) ⟨Nat.le_of_ble_eq_true rfl, Nat.le_of_ble_eq_true rfl⟩ ⟨Nat.le_refl _, Nat.le_refl _⟩ dX11_next_88 (fun H locs hH => ?_)
    refine w_eq0 (tgt := 211) C hf dX11_next_91 (by decide) (fun hf => ?_) (fun hf => ?_)
    · refine lv_iload_n C.hx C.hb dX11_next_211 rfl (lv_at hl 0 rfl) ?_
      refine lv_bipush (v := Int32.ofInt 48) C.hx C.hb dX11_next_212 (by decide) ?_
      refine lv_bipush (v := Int32.ofInt 57) C.hx C.hb dX11_next_214 (by decide) ?_
      obtain ⟨x216, hc9, hf⟩ := cu_of hf
      refine r_callSi (rest := []) C hH hl (m_X11_in hn hc9) ML_RX11_115 MF_X11_in MS_X11_in rfl rfl (Nat.le_of_ble_eq_true rfl) ⟨Nat.le_of_ble_eq_true rfl, Nat.le_of_ble_eq_true rfl⟩ ⟨Nat.le_refl _, Nat.le_refl _⟩ dX11_next_216 (fun H locs hH => ?_)
      refine w_eq0 (tgt := 315) C hf dX11_next_219 (by decide) (fun hf => ?_) (fun hf => ?_)
      · refine lv_aload_n C.hx C.hb dX11_next_315 rfl (lv_at hl 1 rfl) ?_
        refine lv_dup C.hx C.hb dX11_next_316 rfl ?_
        refine g_int C hH o_t (by decide) rfl FL_RX11_162 dX11_next_317 ?_
        refine lv_iconst (v := Int32.ofInt 1) C.hx C.hb dX11_next_320 rfl ?_
        refine w_iadd C dX11_next_321 ?_
        refine r_put C hH o_t (by decide) rfl FL_RX11_162 FW_11_14 hf dX11_next_322 (fun M322 H locs hf hH => ?_)
        refine lv_aload_n C.hx C.hb dX11_next_325 rfl (lv_at hl 1 rfl) ?_
        refine lv_iload_n C.hx C.hb dX11_next_326 rfl (lv_at hl 0 rfl) ?_
        refine r_put C hH o_t (by decide) rfl FL_RX11_183 FW_11_17 hf dX11_next_327 (fun M327 H locs hf hH => ?_)
        refine lv_aload_n C.hx C.hb dX11_next_330 rfl (lv_at hl 1 rfl) ?_
        refine lv_iload_n C.hx C.hb dX11_next_331 rfl (lv_at hl 0 rfl) ?_
        refine lv_bipush (v := Int32.ofInt 59) C.hx C.hb dX11_next_332 (by decide) ?_
        refine lv_bipush (v := Int32.ofInt 62) C.hx C.hb dX11_next_334 (by decide) ?_
        obtain ⟨x336, hc9, hf⟩ := cu_of hf
        refine r_callSi (rest := [.ref (eb E + t)]) C hH hl (m_X11_in hn hc9) ML_RX11_115 MF_X11_in MS_X11_in rfl rfl (Nat.le_of_ble_eq_true rfl) ⟨Nat.le_of_ble_eq_true rfl, Nat.le_of_ble_eq_true rfl⟩ ⟨Nat.le_refl _, Nat.le_refl _⟩ dX11_next_336 (fun H locs hH => ?_)
        refine w_ne0 (tgt := 365) C hf dX11_next_339 (by decide) (fun hf => ?_) (fun hf => ?_)
        · exact j_X11_next_365 C hn o_t hf hH (lv_sub hl [1, 0] rfl)
        · refine lv_iload_n C.hx C.hb dX11_next_342 rfl (lv_at hl 0 rfl) ?_
          refine lv_bipush (v := Int32.ofInt 40) C.hx C.hb dX11_next_343 (by decide) ?_
          refine lv_bipush (v := Int32.ofInt 45) C.hx C.hb dX11_next_345 (by decide) ?_
          obtain ⟨x347, hc9, hf⟩ := cu_of hf
          refine r_callSi (rest := [.ref (eb E + t)]) C hH hl (m_X11_in hn hc9) ML_RX11_115 MF_X11_in MS_X11_in rfl rfl (Nat.le_of_ble_eq_true rfl) ⟨Nat.le_of_ble_eq_true rfl, Nat.le_of_ble_eq_true rfl⟩ ⟨Nat.le_refl _, Nat.le_refl _⟩ dX11_next_347 (fun H locs hH => ?_)
          refine w_ne0 (tgt := 365) C hf dX11_next_350 (by decide) (fun hf => ?_) (fun hf => ?_)
          · exact j_X11_next_365 C hn o_t hf hH (lv_sub hl [1, 0] rfl)
          · refine lv_iload_n C.hx C.hb dX11_next_353 rfl (lv_at hl 0 rfl) ?_
            refine lv_bipush (v := Int32.ofInt 47) C.hx C.hb dX11_next_354 (by decide) ?_
            refine w_eq (tgt := 365) C hf dX11_next_356 (by decide) (fun hf => ?_) (fun hf => ?_)
            · exact j_X11_next_365 C hn o_t hf hH (lv_sub hl [1, 0] rfl)
            · refine lv_iload_n C.hx C.hb dX11_next_359 rfl (lv_at hl 0 rfl) ?_
              refine lv_bipush (v := Int32.ofInt 35) C.hx C.hb dX11_next_360 (by decide) ?_
              refine w_ne (tgt := 369) C hf dX11_next_362 (by decide) (fun hf => ?_) (fun hf => ?_)
              · refine lv_iconst (v := Int32.ofInt 4) C.hx C.hb dX11_next_369 rfl ?_
                exact j_X11_next_370 C hn o_t hf hH (lv_sub hl [1, 0] rfl)
              · exact j_X11_next_365 C hn o_t hf hH (lv_sub hl [1, 0] rfl)
      · refine lv_aload_n C.hx C.hb dX11_next_222 rfl (lv_at hl 1 rfl) ?_
        refine lv_iconst (v := Int32.ofInt 2) C.hx C.hb dX11_next_223 rfl ?_
        refine r_put C hH o_t (by decide) rfl FL_RX11_171 FW_11_16 hf dX11_next_224 (fun M224 H locs hf hH => ?_)
        refine lv_aload_n C.hx C.hb dX11_next_227 rfl (lv_at hl 1 rfl) ?_
        refine lv_iconst (v := Int32.ofInt 0) C.hx C.hb dX11_next_228 rfl ?_
        refine r_put C hH o_t (by decide) rfl FL_RX11_183 FW_11_17 hf dX11_next_229 (fun M229 H locs hf hH => ?_)
        exact l_X11_next_232 C hn o_t FU _ _ _ _ hf hH (lv_sub hl [1] rfl)
    · refine lv_lconst (v := Int64.ofInt 0) C.hx C.hb dX11_next_94 (by decide) ?_
      refine lv_lstore_n (lv' := [(2, l6 0), (1, i3 x85), (0, .ref (eb E + t))]) C.hx C.hb dX11_next_95 rfl hl (by decide) rfl (fun ls hl => ?_)
      refine lv_iconst (v := Int32.ofInt 0) C.hx C.hb dX11_next_96 rfl ?_
      refine lv_istore (lv' := [(4, i3 0), (2, l6 0), (1, i3 x85), (0, .ref (eb E + t))]) C.hx C.hb dX11_next_97 hl (by decide) rfl (fun ls hl => ?_)
      exact l_X11_next_99 C hn o_t FU _ _ _ _ _ _ hf hH (lv_sub hl [3, 1, 0] rfl)
  · refine lv_aload_n C.hx C.hb dX11_next_71 rfl (lv_at hl 0 rfl) ?_
    refine lv_iconst (v := Int32.ofInt 0) C.hx C.hb dX11_next_72 rfl ?_
    refine r_put C hH o_t (by decide) rfl FL_RX11_171 FW_11_16 hf dX11_next_73 (fun M73 H locs hf hH => ?_)
    cases hf
    exact w_vret C hH dX11_next_76
set_option maxRecDepth 100000 in
set_option maxHeartbeats 4000000 in
theorem j_X11_next_39 {p : Program} {l : Launch} {e : Env} {s : State} {m : MethodId} {args : Array Value} {below : List Frame} {meth : Method} {c : Code} {E : EE} {n : Nat} {o : Mem} {t : Nat} {M0 : Mem} {rec0 : Mem → Option Mem} {H : Heap} {locs : List Loc} {ls : Array Slot} (C : Cx E p s m args meth c cX11_next 5 RX11 none n "next") (hn : nfull n) (o_t : ob n t 11) (h_rec0 : ∀ {M0 : Mem} {H : Heap} {locs : List Loc} {ls : Array Slot}, rec0 M0 = some o → ST E s n (zf n) M0 H locs → lv_has ls 5 [(0, .ref (eb E + t))] → W p l e { frames := 2, cells := 0, slots := 0, locals := 42 } s m args below meth c H locs 0 0 (MQ below (QC E none n (zf n) o) args s 0 0 (fr E)) (F0 m 0 ls [])) (hf : fn_X11_next_J39 t M0 rec0 = some o) (hH : ST E s n (zf n) M0 H locs) (hl : lv_has ls 5 [(0, .ref (eb E + t))]) : W p l e { frames := 2, cells := 0, slots := 0, locals := 42 } s m args below meth c H locs 0 0 (MQ below (QC E none n (zf n) o) args s 0 0 (fr E)) (F0 m 39 ls []) := by
  unfold fn_X11_next_J39 at hf
  refine lv_aload_n C.hx C.hb dX11_next_39 rfl (lv_at hl 0 rfl) ?_
  refine lv_dup C.hx C.hb dX11_next_40 rfl ?_
  refine g_int C hH o_t (by decide) rfl FL_RX11_162 dX11_next_41 ?_
  refine lv_iconst (v := Int32.ofInt 1) C.hx C.hb dX11_next_44 rfl ?_
  refine w_iadd C dX11_next_45 ?_
  refine r_put C hH o_t (by decide) rfl FL_RX11_162 FW_11_14 hf dX11_next_46 (fun M46 H locs hf hH => ?_)
  refine lv_goto (tgt := 0) C.hx C.hb dX11_next_49 (by decide) ?_
  exact h_rec0 hf hH (lv_sub hl [0] rfl)
set_option maxRecDepth 100000 in
set_option maxHeartbeats 4000000 in
theorem l_X11_next_0 {p : Program} {l : Launch} {e : Env} {s : State} {m : MethodId} {args : Array Value} {below : List Frame} {meth : Method} {c : Code} {E : EE} {n : Nat} {o : Mem} {t : Nat} (C : Cx E p s m args meth c cX11_next 5 RX11 none n "next") (hn : nfull n) (o_t : ob n t 11) : ∀ (k : Nat) (M0 : Mem) (H : Heap) (locs : List Loc) (ls : Array Slot), lq1 (fn_X11_next_L0 t) k M0 = some o → ST E s n (zf n) M0 H locs → lv_has ls 5 [(0, .ref (eb E + t))] → W p l e { frames := 2, cells := 0, slots := 0, locals := 42 } s m args below meth c H locs 0 0 (MQ below (QC E none n (zf n) o) args s 0 0 (fr E)) (F0 m 0 ls []) := by
  intro k
  induction k with
  | zero => intro M0 H locs ls hf; cases hf
  | succ k ih =>
    intro M0 H locs ls hf hH hl
    have h_rec0 : ∀ {M0 : Mem} {H : Heap} {locs : List Loc} {ls : Array Slot}, lq1 (fn_X11_next_L0 t) k M0 = some o → ST E s n (zf n) M0 H locs → lv_has ls 5 [(0, .ref (eb E + t))] → W p l e { frames := 2, cells := 0, slots := 0, locals := 42 } s m args below meth c H locs 0 0 (MQ below (QC E none n (zf n) o) args s 0 0 (fr E)) (F0 m 0 ls []) := fun {M0} {H} {locs} {ls} a b c => ih M0 H locs ls a b c
    replace hf : fn_X11_next_L0 t (lq1 (fn_X11_next_L0 t) k) M0 = some o := hf
    generalize lq1 (fn_X11_next_L0 t) k = rec0 at hf h_rec0
    unfold fn_X11_next_L0 at hf
    refine lv_aload_n C.hx C.hb dX11_next_0 rfl (lv_at hl 0 rfl) ?_
    refine g_int C hH o_t (by decide) rfl FL_RX11_162 dX11_next_1 ?_
    refine lv_aload_n C.hx C.hb dX11_next_4 rfl (lv_at hl 0 rfl) ?_
    refine g_int C hH o_t (by decide) rfl FL_RX11_165 dX11_next_5 ?_
    refine w_ge (tgt := 52) C hf dX11_next_8 (by decide) (fun hf => ?_) (fun hf => ?_)
    · exact j_X11_next_52 C hn o_t hf hH (lv_sub hl [0] rfl)
    · refine lv_aload_n C.hx C.hb dX11_next_11 rfl (lv_at hl 0 rfl) ?_
      refine g_ref (off := 3) C hH o_t (by decide) rfl rfl FL_RX11_16 dX11_next_12 ?_
      refine lv_aload_n C.hx C.hb dX11_next_15 rfl (lv_at hl 0 rfl) ?_
      refine g_int C hH o_t (by decide) rfl FL_RX11_162 dX11_next_16 ?_
      refine r_bald C hH (ly (i := 2) (off := 3) (k := 13) hn o_t rfl rfl rfl) (lyn (i := 2) (off := 3) (N := 299) hn o_t rfl rfl rfl) hf dX11_next_19 (fun x19 hf => ?_)
      refine lv_bipush (v := Int32.ofInt 32) C.hx C.hb dX11_next_20 (by decide) ?_
      refine w_eq (tgt := 39) C hf dX11_next_22 (by decide) (fun hf => ?_) (fun hf => ?_)
      · exact j_X11_next_39 C hn o_t h_rec0 hf hH (lv_sub hl [0] rfl)
      · refine lv_aload_n C.hx C.hb dX11_next_25 rfl (lv_at hl 0 rfl) ?_
        refine g_ref (off := 3) C hH o_t (by decide) rfl rfl FL_RX11_16 dX11_next_26 ?_
        refine lv_aload_n C.hx C.hb dX11_next_29 rfl (lv_at hl 0 rfl) ?_
        refine g_int C hH o_t (by decide) rfl FL_RX11_162 dX11_next_30 ?_
        refine r_bald C hH (ly (i := 2) (off := 3) (k := 13) hn o_t rfl rfl rfl) (lyn (i := 2) (off := 3) (N := 299) hn o_t rfl rfl rfl) hf dX11_next_33 (fun x33 hf => ?_)
        refine lv_bipush (v := Int32.ofInt 10) C.hx C.hb dX11_next_34 (by decide) ?_
        refine w_ne (tgt := 52) C hf dX11_next_36 (by decide) (fun hf => ?_) (fun hf => ?_)
        · exact j_X11_next_52 C hn o_t hf hH (lv_sub hl [0] rfl)
        · exact j_X11_next_39 C hn o_t h_rec0 hf hH (lv_sub hl [0] rfl)
set_option maxRecDepth 100000 in
set_option maxHeartbeats 4000000 in
theorem m_X11_next {E : EE} {l : Launch} {n : Nat} {t : Nat} {M : Mem} {o : Mem} (hn : nfull n) (o_t : ob n t 11) (hf : fn_X11_next t M = some o) : CT E l yX11_next cX11_next 5 none 2 42 0 0 [.ref (eb E + t)] n (zf n) M none n (zf n) o := by
  refine CT_of PN_RX11 (Nat.le_of_ble_eq_true rfl) ?_
  intro p e s m args below meth c C hH ls hl
  replace C : Cx E p s m args meth c cX11_next 5 RX11 none n "next" := C
  have hl : lv_has ls 5 [(0, .ref (eb E + t))] := hl
  unfold fn_X11_next at hf
  exact l_X11_next_0 C hn o_t FU _ _ _ _ hf hH (lv_sub hl [0] rfl)
-- HeavierByHandModel.isSign
def fn_X11_isSign_J20 : Option Int :=
  some 0
def fn_X11_isSign (t : Nat) (a1 : Int) (M : Mem) : Option Int :=
  cEq (M t 16) 3 (cEq (M t 17) a1 (some 1) (fn_X11_isSign_J20)) (fn_X11_isSign_J20)
set_option maxRecDepth 100000 in
set_option maxHeartbeats 4000000 in
theorem j_X11_isSign_20 {p : Program} {l : Launch} {e : Env} {s : State} {m : MethodId} {args : Array Value} {below : List Frame} {meth : Method} {c : Code} {E : EE} {n : Nat} {o : Int} {M : Mem} {H : Heap} {locs : List Loc} {ls : Array Slot} (C : Cx E p s m args meth c cX11_isSign 2 RX11 (some .boolean) n "isSign") (hn : nfull n) (hf : fn_X11_isSign_J20 = some o) (hH : ST E s n (zf n) M H locs) (hl : lv_has ls 2 []) : W p l e { frames := 0, cells := 0, slots := 0, locals := 0 } s m args below meth c H locs 0 0 (MQ below (QC E (some (i3 o)) n (zf n) M) args s 0 0 (fr E)) (F0 m 20 ls []) := by
  unfold fn_X11_isSign_J20 at hf
  refine lv_iconst (v := Int32.ofInt 0) C.hx C.hb dX11_isSign_20 rfl ?_
  cases hf
  exact w_zret C hH (Or.inl rfl) dX11_isSign_21
set_option maxRecDepth 100000 in
set_option maxHeartbeats 4000000 in
theorem m_X11_isSign {E : EE} {l : Launch} {n : Nat} {t : Nat} {a1 : Int} {M : Mem} {o : Int} (hn : nfull n) (o_t : ob n t 11) (hf : fn_X11_isSign t a1 M = some o) : CT E l yX11_isSign cX11_isSign 2 (some .boolean) 0 0 0 0 [.ref (eb E + t), i3 a1] n (zf n) M (some (i3 o)) n (zf n) M := by
  refine CT_of PN_RX11 (Nat.le_of_ble_eq_true rfl) ?_
  intro p e s m args below meth c C hH ls hl
  replace C : Cx E p s m args meth c cX11_isSign 2 RX11 (some .boolean) n "isSign" := C
  have hl : lv_has ls 2 [(0, .ref (eb E + t)), (1, i3 a1)] := hl
  unfold fn_X11_isSign at hf
  refine lv_aload_n C.hx C.hb dX11_isSign_0 rfl (lv_at hl 0 rfl) ?_
  refine g_int C hH o_t (by decide) rfl FL_RX11_171 dX11_isSign_1 ?_
  refine lv_iconst (v := Int32.ofInt 3) C.hx C.hb dX11_isSign_4 rfl ?_
  refine w_ne (tgt := 20) C hf dX11_isSign_5 (by decide) (fun hf => ?_) (fun hf => ?_)
  · exact j_X11_isSign_20 C hn hf hH (lv_sub hl [] rfl)
  · refine lv_aload_n C.hx C.hb dX11_isSign_8 rfl (lv_at hl 0 rfl) ?_
    refine g_int C hH o_t (by decide) rfl FL_RX11_183 dX11_isSign_9 ?_
    refine lv_iload_n C.hx C.hb dX11_isSign_12 rfl (lv_at hl 1 rfl) ?_
    refine w_ne (tgt := 20) C hf dX11_isSign_13 (by decide) (fun hf => ?_) (fun hf => ?_)
    · exact j_X11_isSign_20 C hn hf hH (lv_sub hl [] rfl)
    · refine lv_iconst (v := Int32.ofInt 1) C.hx C.hb dX11_isSign_16 rfl ?_
      refine lv_goto (tgt := 21) C.hx C.hb dX11_isSign_17 (by decide) ?_
      cases hf
      exact w_zret C hH (Or.inr rfl) dX11_isSign_21
-- HeavierByHandModel.isWord
def fn_X11_isWord_J20 : Option Int :=
  some 0
def fn_X11_isWord (t : Nat) (a1 : Int) (M : Mem) : Option Int :=
  cEq (M t 16) 1 (cEq (M t 17) a1 (some 1) (fn_X11_isWord_J20)) (fn_X11_isWord_J20)
set_option maxRecDepth 100000 in
set_option maxHeartbeats 4000000 in
theorem j_X11_isWord_20 {p : Program} {l : Launch} {e : Env} {s : State} {m : MethodId} {args : Array Value} {below : List Frame} {meth : Method} {c : Code} {E : EE} {n : Nat} {o : Int} {M : Mem} {H : Heap} {locs : List Loc} {ls : Array Slot} (C : Cx E p s m args meth c cX11_isWord 2 RX11 (some .boolean) n "isWord") (hn : nfull n) (hf : fn_X11_isWord_J20 = some o) (hH : ST E s n (zf n) M H locs) (hl : lv_has ls 2 []) : W p l e { frames := 0, cells := 0, slots := 0, locals := 0 } s m args below meth c H locs 0 0 (MQ below (QC E (some (i3 o)) n (zf n) M) args s 0 0 (fr E)) (F0 m 20 ls []) := by
  unfold fn_X11_isWord_J20 at hf
  refine lv_iconst (v := Int32.ofInt 0) C.hx C.hb dX11_isWord_20 rfl ?_
  cases hf
  exact w_zret C hH (Or.inl rfl) dX11_isWord_21
set_option maxRecDepth 100000 in
set_option maxHeartbeats 4000000 in
theorem m_X11_isWord {E : EE} {l : Launch} {n : Nat} {t : Nat} {a1 : Int} {M : Mem} {o : Int} (hn : nfull n) (o_t : ob n t 11) (hf : fn_X11_isWord t a1 M = some o) : CT E l yX11_isWord cX11_isWord 2 (some .boolean) 0 0 0 0 [.ref (eb E + t), i3 a1] n (zf n) M (some (i3 o)) n (zf n) M := by
  refine CT_of PN_RX11 (Nat.le_of_ble_eq_true rfl) ?_
  intro p e s m args below meth c C hH ls hl
  replace C : Cx E p s m args meth c cX11_isWord 2 RX11 (some .boolean) n "isWord" := C
  have hl : lv_has ls 2 [(0, .ref (eb E + t)), (1, i3 a1)] := hl
  unfold fn_X11_isWord at hf
  refine lv_aload_n C.hx C.hb dX11_isWord_0 rfl (lv_at hl 0 rfl) ?_
  refine g_int C hH o_t (by decide) rfl FL_RX11_171 dX11_isWord_1 ?_
  refine lv_iconst (v := Int32.ofInt 1) C.hx C.hb dX11_isWord_4 rfl ?_
  refine w_ne (tgt := 20) C hf dX11_isWord_5 (by decide) (fun hf => ?_) (fun hf => ?_)
  · exact j_X11_isWord_20 C hn hf hH (lv_sub hl [] rfl)
  · refine lv_aload_n C.hx C.hb dX11_isWord_8 rfl (lv_at hl 0 rfl) ?_
    refine g_int C hH o_t (by decide) rfl FL_RX11_183 dX11_isWord_9 ?_
    refine lv_iload_n C.hx C.hb dX11_isWord_12 rfl (lv_at hl 1 rfl) ?_
    refine w_ne (tgt := 20) C hf dX11_isWord_13 (by decide) (fun hf => ?_) (fun hf => ?_)
    · exact j_X11_isWord_20 C hn hf hH (lv_sub hl [] rfl)
    · refine lv_iconst (v := Int32.ofInt 1) C.hx C.hb dX11_isWord_16 rfl ?_
      refine lv_goto (tgt := 21) C.hx C.hb dX11_isWord_17 (by decide) ?_
      cases hf
      exact w_zret C hH (Or.inr rfl) dX11_isWord_21
-- HeavierByHandModel.errs
def fn_X11_errs (t : Nat) (a1 : Int) (M : Mem) : Option Mem :=
  cEq (M t 18) 0 (st M t 18 a1 fun M9 => st M9 t 19 (M9 t 15) fun M17 => some M17) (some M)
set_option maxRecDepth 100000 in
set_option maxHeartbeats 4000000 in
theorem m_X11_errs {E : EE} {l : Launch} {n : Nat} {t : Nat} {a1 : Int} {M : Mem} {o : Mem} (hn : nfull n) (o_t : ob n t 11) (hf : fn_X11_errs t a1 M = some o) : CT E l yX11_errs cX11_errs 2 none 0 0 0 0 [.ref (eb E + t), i3 a1] n (zf n) M none n (zf n) o := by
  refine CT_of PN_RX11 (Nat.le_of_ble_eq_true rfl) ?_
  intro p e s m args below meth c C hH ls hl
  replace C : Cx E p s m args meth c cX11_errs 2 RX11 none n "errs" := C
  have hl : lv_has ls 2 [(0, .ref (eb E + t)), (1, i3 a1)] := hl
  unfold fn_X11_errs at hf
  refine lv_aload_n C.hx C.hb dX11_errs_0 rfl (lv_at hl 0 rfl) ?_
  refine g_int C hH o_t (by decide) rfl FL_RX11_187 dX11_errs_1 ?_
  refine w_ne0 (tgt := 20) C hf dX11_errs_4 (by decide) (fun hf => ?_) (fun hf => ?_)
  · cases hf
    exact w_vret C hH dX11_errs_20
  · refine lv_aload_n C.hx C.hb dX11_errs_7 rfl (lv_at hl 0 rfl) ?_
    refine lv_iload_n C.hx C.hb dX11_errs_8 rfl (lv_at hl 1 rfl) ?_
    refine r_put C hH o_t (by decide) rfl FL_RX11_187 FW_11_18 hf dX11_errs_9 (fun M9 H locs hf hH => ?_)
    refine lv_aload_n C.hx C.hb dX11_errs_12 rfl (lv_at hl 0 rfl) ?_
    refine lv_aload_n C.hx C.hb dX11_errs_13 rfl (lv_at hl 0 rfl) ?_
    refine g_int C hH o_t (by decide) rfl FL_RX11_168 dX11_errs_14 ?_
    refine r_put C hH o_t (by decide) rfl FL_RX11_190 FW_11_19 hf dX11_errs_17 (fun M17 H locs hf hH => ?_)
    cases hf
    exact w_vret C hH dX11_errs_20
-- HeavierByHandModel.emits
def fn_X11_emits (t : Nat) (a1 : Int) (a2 : Int) (M : Mem) : Option Mem :=
  wr M (t + 19) 400 (M t 34) a1 fun M9 => wr M9 (t + 20) 400 (M9 t 34) a2 fun M19 => st M19 t 34 ((M19 t 34) + 1) fun M27 => some M27
set_option maxRecDepth 100000 in
set_option maxHeartbeats 4000000 in
theorem m_X11_emits {E : EE} {l : Launch} {n : Nat} {t : Nat} {a1 : Int} {a2 : Int} {M : Mem} {o : Mem} (hn : nfull n) (o_t : ob n t 11) (hf : fn_X11_emits t a1 a2 M = some o) : CT E l yX11_emits cX11_emits 3 none 0 0 0 0 [.ref (eb E + t), i3 a1, i3 a2] n (zf n) M none n (zf n) o := by
  refine CT_of PN_RX11 (Nat.le_of_ble_eq_true rfl) ?_
  intro p e s m args below meth c C hH ls hl
  replace C : Cx E p s m args meth c cX11_emits 3 RX11 none n "emits" := C
  have hl : lv_has ls 3 [(0, .ref (eb E + t)), (1, i3 a1), (2, i3 a2)] := hl
  unfold fn_X11_emits at hf
  refine lv_aload_n C.hx C.hb dX11_emits_0 rfl (lv_at hl 0 rfl) ?_
  refine g_ref (off := 19) C hH o_t (by decide) rfl rfl FL_RX11_72 dX11_emits_1 ?_
  refine lv_aload_n C.hx C.hb dX11_emits_4 rfl (lv_at hl 0 rfl) ?_
  refine g_int C hH o_t (by decide) rfl FL_RX11_193 dX11_emits_5 ?_
  refine lv_iload_n C.hx C.hb dX11_emits_8 rfl (lv_at hl 1 rfl) ?_
  refine r_iast C hH (ly (i := 35) (off := 19) (k := 12) hn o_t rfl rfl rfl) (lyn (i := 35) (off := 19) (N := 399) hn o_t rfl rfl rfl) hf dX11_emits_9 (fun M9 H locs hf hH => ?_)
  refine lv_aload_n C.hx C.hb dX11_emits_10 rfl (lv_at hl 0 rfl) ?_
  refine g_ref (off := 20) C hH o_t (by decide) rfl rfl FL_RX11_75 dX11_emits_11 ?_
  refine lv_aload_n C.hx C.hb dX11_emits_14 rfl (lv_at hl 0 rfl) ?_
  refine g_int C hH o_t (by decide) rfl FL_RX11_193 dX11_emits_15 ?_
  refine lv_iload_n C.hx C.hb dX11_emits_18 rfl (lv_at hl 2 rfl) ?_
  refine r_iast C hH (ly (i := 36) (off := 20) (k := 12) hn o_t rfl rfl rfl) (lyn (i := 36) (off := 20) (N := 399) hn o_t rfl rfl rfl) hf dX11_emits_19 (fun M19 H locs hf hH => ?_)
  refine lv_aload_n C.hx C.hb dX11_emits_20 rfl (lv_at hl 0 rfl) ?_
  refine lv_dup C.hx C.hb dX11_emits_21 rfl ?_
  refine g_int C hH o_t (by decide) rfl FL_RX11_193 dX11_emits_22 ?_
  refine lv_iconst (v := Int32.ofInt 1) C.hx C.hb dX11_emits_25 rfl ?_
  refine w_iadd C dX11_emits_26 ?_
  refine r_put C hH o_t (by decide) rfl FL_RX11_193 FW_11_34 hf dX11_emits_27 (fun M27 H locs hf hH => ?_)
  cases hf
  exact w_vret C hH dX11_emits_30
-- HeavierByHandModel.opensFrame
def fn_X11_opensFrame (t : Nat) (a1 : Int) (M : Mem) : Option Mem :=
  wr M (t + 11) 40 (M t 21) a1 fun M9 => st M9 t 21 ((M9 t 21) + 1) fun M17 => some M17
set_option maxRecDepth 100000 in
set_option maxHeartbeats 4000000 in
theorem m_X11_opensFrame {E : EE} {l : Launch} {n : Nat} {t : Nat} {a1 : Int} {M : Mem} {o : Mem} (hn : nfull n) (o_t : ob n t 11) (hf : fn_X11_opensFrame t a1 M = some o) : CT E l yX11_opensFrame cX11_opensFrame 2 none 0 0 0 0 [.ref (eb E + t), i3 a1] n (zf n) M none n (zf n) o := by
  refine CT_of PN_RX11 (Nat.le_of_ble_eq_true rfl) ?_
  intro p e s m args below meth c C hH ls hl
  replace C : Cx E p s m args meth c cX11_opensFrame 2 RX11 none n "opensFrame" := C
  have hl : lv_has ls 2 [(0, .ref (eb E + t)), (1, i3 a1)] := hl
  unfold fn_X11_opensFrame at hf
  refine lv_aload_n C.hx C.hb dX11_opensFrame_0 rfl (lv_at hl 0 rfl) ?_
  refine g_ref (off := 11) C hH o_t (by decide) rfl rfl FL_RX11_48 dX11_opensFrame_1 ?_
  refine lv_aload_n C.hx C.hb dX11_opensFrame_4 rfl (lv_at hl 0 rfl) ?_
  refine g_int C hH o_t (by decide) rfl FL_RX11_196 dX11_opensFrame_5 ?_
  refine lv_iload_n C.hx C.hb dX11_opensFrame_8 rfl (lv_at hl 1 rfl) ?_
  refine r_iast C hH (ly (i := 22) (off := 11) (k := 12) hn o_t rfl rfl rfl) (lyn (i := 22) (off := 11) (N := 39) hn o_t rfl rfl rfl) hf dX11_opensFrame_9 (fun M9 H locs hf hH => ?_)
  refine lv_aload_n C.hx C.hb dX11_opensFrame_10 rfl (lv_at hl 0 rfl) ?_
  refine lv_dup C.hx C.hb dX11_opensFrame_11 rfl ?_
  refine g_int C hH o_t (by decide) rfl FL_RX11_196 dX11_opensFrame_12 ?_
  refine lv_iconst (v := Int32.ofInt 1) C.hx C.hb dX11_opensFrame_15 rfl ?_
  refine w_iadd C dX11_opensFrame_16 ?_
  refine r_put C hH o_t (by decide) rfl FL_RX11_196 FW_11_21 hf dX11_opensFrame_17 (fun M17 H locs hf hH => ?_)
  cases hf
  exact w_vret C hH dX11_opensFrame_20
-- HeavierByHandModel.top
def fn_X11_top (t : Nat) (M : Mem) : Option Int :=
  rd M (t + 11) 40 ((M t 21) - 1) fun x10 => some x10
set_option maxRecDepth 100000 in
set_option maxHeartbeats 4000000 in
theorem m_X11_top {E : EE} {l : Launch} {n : Nat} {t : Nat} {M : Mem} {o : Int} (hn : nfull n) (o_t : ob n t 11) (hf : fn_X11_top t M = some o) : CT E l yX11_top cX11_top 1 (some .int) 0 0 0 0 [.ref (eb E + t)] n (zf n) M (some (i3 o)) n (zf n) M := by
  refine CT_of PN_RX11 (Nat.le_of_ble_eq_true rfl) ?_
  intro p e s m args below meth c C hH ls hl
  replace C : Cx E p s m args meth c cX11_top 1 RX11 (some .int) n "top" := C
  have hl : lv_has ls 1 [(0, .ref (eb E + t))] := hl
  unfold fn_X11_top at hf
  refine lv_aload_n C.hx C.hb dX11_top_0 rfl (lv_at hl 0 rfl) ?_
  refine g_ref (off := 11) C hH o_t (by decide) rfl rfl FL_RX11_48 dX11_top_1 ?_
  refine lv_aload_n C.hx C.hb dX11_top_4 rfl (lv_at hl 0 rfl) ?_
  refine g_int C hH o_t (by decide) rfl FL_RX11_196 dX11_top_5 ?_
  refine lv_iconst (v := Int32.ofInt 1) C.hx C.hb dX11_top_8 rfl ?_
  refine w_isub C dX11_top_9 ?_
  refine r_iald C hH (ly (i := 22) (off := 11) (k := 12) hn o_t rfl rfl rfl) (lyn (i := 22) (off := 11) (N := 39) hn o_t rfl rfl rfl) hf dX11_top_10 (fun x10 hf => ?_)
  cases hf
  exact w_iret C hH dX11_top_11
-- HeavierByHandModel.opensSign
def fn_X11_opensSign (t : Nat) (a1 : Int) (M : Mem) : Option (Int × Mem) :=
  cEq (M t 20) 8 (cv (fn_X11_errs t 3 M) fun M11 => some (0, M11)) (st M t 20 ((M t 20) + 1) fun M23 => cv (fn_X11_opensFrame t a1 M23) fun M28 => cv (fn_X11_next t M28) fun M32 => some (1, M32))
set_option maxRecDepth 100000 in
set_option maxHeartbeats 4000000 in
theorem m_X11_opensSign {E : EE} {l : Launch} {n : Nat} {t : Nat} {a1 : Int} {M : Mem} {o : (Int × Mem)} (hn : nfull n) (o_t : ob n t 11) (hf : fn_X11_opensSign t a1 M = some o) : CT E l yX11_opensSign cX11_opensSign 2 (some .boolean) 3 66 0 0 [.ref (eb E + t), i3 a1] n (zf n) M (some (i3 o.1)) n (zf n) o.2 := by
  refine CT_of PN_RX11 (Nat.le_of_ble_eq_true rfl) ?_
  intro p e s m args below meth c C hH ls hl
  replace C : Cx E p s m args meth c cX11_opensSign 2 RX11 (some .boolean) n "opensSign" := C
  have hl : lv_has ls 2 [(0, .ref (eb E + t)), (1, i3 a1)] := hl
  unfold fn_X11_opensSign at hf
  refine lv_aload_n C.hx C.hb dX11_opensSign_0 rfl (lv_at hl 0 rfl) ?_
  refine g_int C hH o_t (by decide) rfl FL_RX11_199 dX11_opensSign_1 ?_
  refine lv_bipush (v := Int32.ofInt 8) C.hx C.hb dX11_opensSign_4 (by decide) ?_
  refine w_ne (tgt := 16) C hf dX11_opensSign_6 (by decide) (fun hf => ?_) (fun hf => ?_)
  · refine lv_aload_n C.hx C.hb dX11_opensSign_16 rfl (lv_at hl 0 rfl) ?_
    refine lv_dup C.hx C.hb dX11_opensSign_17 rfl ?_
    refine g_int C hH o_t (by decide) rfl FL_RX11_199 dX11_opensSign_18 ?_
    refine lv_iconst (v := Int32.ofInt 1) C.hx C.hb dX11_opensSign_21 rfl ?_
    refine w_iadd C dX11_opensSign_22 ?_
    refine r_put C hH o_t (by decide) rfl FL_RX11_199 FW_11_20 hf dX11_opensSign_23 (fun M23 H locs hf hH => ?_)
    refine lv_aload_n C.hx C.hb dX11_opensSign_26 rfl (lv_at hl 0 rfl) ?_
    refine lv_iload_n C.hx C.hb dX11_opensSign_27 rfl (lv_at hl 1 rfl) ?_
    obtain ⟨M28, hc9, hf⟩ := cv_of hf
    refine r_callVv (rest := []) C hH hl o_t (by decide) rfl (m_X11_opensFrame hn o_t hc9) ML_RX11_205 MF_X11_opensFrame MI_X11_opensFrame rfl rfl (Nat.le_of_ble_eq_true rfl) ⟨Nat.le_of_ble_eq_true rfl, Nat.le_of_ble_eq_true rfl⟩ ⟨Nat.le_refl _, Nat.le_refl _⟩ dX11_opensSign_28 (fun H locs hH => ?_)
    refine lv_aload_n C.hx C.hb dX11_opensSign_31 rfl (lv_at hl 0 rfl) ?_
    obtain ⟨M32, hc9, hf⟩ := cv_of hf
    refine r_callVv (rest := []) C hH hl o_t (by decide) rfl (m_X11_next hn o_t hc9) ML_RX11_208 MF_X11_next MI_X11_next rfl rfl (Nat.le_of_ble_eq_true rfl) ⟨Nat.le_of_ble_eq_true rfl, Nat.le_of_ble_eq_true rfl⟩ ⟨Nat.le_refl _, Nat.le_refl _⟩ dX11_opensSign_32 (fun H locs hH => ?_)
    refine lv_iconst (v := Int32.ofInt 1) C.hx C.hb dX11_opensSign_35 rfl ?_
    cases hf
    exact w_zret C hH (Or.inr rfl) dX11_opensSign_36
  · refine lv_aload_n C.hx C.hb dX11_opensSign_9 rfl (lv_at hl 0 rfl) ?_
    refine lv_iconst (v := Int32.ofInt 3) C.hx C.hb dX11_opensSign_10 rfl ?_
    obtain ⟨M11, hc9, hf⟩ := cv_of hf
    refine r_callVv (rest := []) C hH hl o_t (by decide) rfl (m_X11_errs hn o_t hc9) ML_RX11_202 MF_X11_errs MI_X11_errs rfl rfl (Nat.le_of_ble_eq_true rfl) ⟨Nat.le_of_ble_eq_true rfl, Nat.le_of_ble_eq_true rfl⟩ ⟨Nat.le_refl _, Nat.le_refl _⟩ dX11_opensSign_11 (fun H locs hH => ?_)
    refine lv_iconst (v := Int32.ofInt 0) C.hx C.hb dX11_opensSign_14 rfl ?_
    cases hf
    exact w_zret C hH (Or.inl rfl) dX11_opensSign_15
-- HeavierByHandModel.rank
def fn_X11_rank_J34 : Option Int :=
  some 3
def fn_X11_rank (a0 : Int) (M : Mem) : Option Int :=
  cEq a0 407 (some 1) (cEq a0 406 (some 2) (cEq a0 43 (fn_X11_rank_J34) (cEq a0 45 (fn_X11_rank_J34) (some 4))))
set_option maxRecDepth 100000 in
set_option maxHeartbeats 4000000 in
theorem j_X11_rank_34 {p : Program} {l : Launch} {e : Env} {s : State} {m : MethodId} {args : Array Value} {below : List Frame} {meth : Method} {c : Code} {E : EE} {n : Nat} {o : Int} {M : Mem} {H : Heap} {locs : List Loc} {ls : Array Slot} (C : Cx E p s m args meth c cX11_rank 1 RX11 (some .int) n "rank") (hn : nfull n) (hf : fn_X11_rank_J34 = some o) (hH : ST E s n (zf n) M H locs) (hl : lv_has ls 1 []) : W p l e { frames := 0, cells := 0, slots := 0, locals := 0 } s m args below meth c H locs 0 0 (MQ below (QC E (some (i3 o)) n (zf n) M) args s 0 0 (fr E)) (F0 m 34 ls []) := by
  unfold fn_X11_rank_J34 at hf
  refine lv_iconst (v := Int32.ofInt 3) C.hx C.hb dX11_rank_34 rfl ?_
  refine lv_goto (tgt := 39) C.hx C.hb dX11_rank_35 (by decide) ?_
  cases hf
  exact w_iret C hH dX11_rank_39
set_option maxRecDepth 100000 in
set_option maxHeartbeats 4000000 in
theorem m_X11_rank {E : EE} {l : Launch} {n : Nat} {a0 : Int} {M : Mem} {o : Int} (hn : nfull n) (hf : fn_X11_rank a0 M = some o) : CT E l yX11_rank cX11_rank 1 (some .int) 0 0 0 0 [i3 a0] n (zf n) M (some (i3 o)) n (zf n) M := by
  refine CT_of PN_RX11 (Nat.le_of_ble_eq_true rfl) ?_
  intro p e s m args below meth c C hH ls hl
  replace C : Cx E p s m args meth c cX11_rank 1 RX11 (some .int) n "rank" := C
  have hl : lv_has ls 1 [(0, i3 a0)] := hl
  unfold fn_X11_rank at hf
  refine lv_iload_n C.hx C.hb dX11_rank_0 rfl (lv_at hl 0 rfl) ?_
  refine lv_sipush (v := Int32.ofInt 407) C.hx C.hb dX11_rank_1 (by decide) ?_
  refine w_ne (tgt := 11) C hf dX11_rank_4 (by decide) (fun hf => ?_) (fun hf => ?_)
  · refine lv_iload_n C.hx C.hb dX11_rank_11 rfl (lv_at hl 0 rfl) ?_
    refine lv_sipush (v := Int32.ofInt 406) C.hx C.hb dX11_rank_12 (by decide) ?_
    refine w_ne (tgt := 22) C hf dX11_rank_15 (by decide) (fun hf => ?_) (fun hf => ?_)
    · refine lv_iload_n C.hx C.hb dX11_rank_22 rfl (lv_at hl 0 rfl) ?_
      refine lv_bipush (v := Int32.ofInt 43) C.hx C.hb dX11_rank_23 (by decide) ?_
      refine w_eq (tgt := 34) C hf dX11_rank_25 (by decide) (fun hf => ?_) (fun hf => ?_)
      · exact j_X11_rank_34 C hn hf hH (lv_sub hl [] rfl)
      · refine lv_iload_n C.hx C.hb dX11_rank_28 rfl (lv_at hl 0 rfl) ?_
        refine lv_bipush (v := Int32.ofInt 45) C.hx C.hb dX11_rank_29 (by decide) ?_
        refine w_ne (tgt := 38) C hf dX11_rank_31 (by decide) (fun hf => ?_) (fun hf => ?_)
        · refine lv_iconst (v := Int32.ofInt 4) C.hx C.hb dX11_rank_38 rfl ?_
          cases hf
          exact w_iret C hH dX11_rank_39
        · exact j_X11_rank_34 C hn hf hH (lv_sub hl [] rfl)
    · refine lv_iconst (v := Int32.ofInt 2) C.hx C.hb dX11_rank_18 rfl ?_
      refine lv_goto (tgt := 39) C.hx C.hb dX11_rank_19 (by decide) ?_
      cases hf
      exact w_iret C hH dX11_rank_39
  · refine lv_iconst (v := Int32.ofInt 1) C.hx C.hb dX11_rank_7 rfl ?_
    refine lv_goto (tgt := 39) C.hx C.hb dX11_rank_8 (by decide) ?_
    cases hf
    exact w_iret C hH dX11_rank_39
-- HeavierByHandModel.works
def fn_X11_works_L0 (t : Nat) (a1 : Int) (rec0 : Mem → Option Mem) (M0 : Mem) : Option Mem :=
  cLt 0 (M0 t 24) (rd M0 (t + 14) 80 ((M0 t 24) - 1) fun x17 => cEq x17 (M0 t 21) (rd M0 (t + 13) 80 ((M0 t 24) - 1) fun x35 => cu (fn_X11_rank x35 M0) fun x36 => cLt x36 a1 (some M0) (st M0 t 24 ((M0 t 24) - 1) fun M50 => rd M50 (t + 13) 80 (M50 t 24) fun x62 => cv (fn_X11_emits t x62 0 M50) fun M64 => rec0 M64)) (some M0)) (some M0)
def fn_X11_works (t : Nat) (a1 : Int) (M : Mem) : Option Mem :=
  lq1 (fn_X11_works_L0 t a1) FU M
set_option maxRecDepth 100000 in
set_option maxHeartbeats 4000000 in
theorem l_X11_works_0 {p : Program} {l : Launch} {e : Env} {s : State} {m : MethodId} {args : Array Value} {below : List Frame} {meth : Method} {c : Code} {E : EE} {n : Nat} {o : Mem} {t : Nat} {a1 : Int} (C : Cx E p s m args meth c cX11_works 2 RX11 none n "works") (hn : nfull n) (o_t : ob n t 11) : ∀ (k : Nat) (M0 : Mem) (H : Heap) (locs : List Loc) (ls : Array Slot), lq1 (fn_X11_works_L0 t a1) k M0 = some o → ST E s n (zf n) M0 H locs → lv_has ls 2 [(0, .ref (eb E + t)), (1, i3 a1)] → W p l e { frames := 1, cells := 0, slots := 0, locals := 22 } s m args below meth c H locs 0 0 (MQ below (QC E none n (zf n) o) args s 0 0 (fr E)) (F0 m 0 ls []) := by
  intro k
  induction k with
  | zero => intro M0 H locs ls hf; cases hf
  | succ k ih =>
    intro M0 H locs ls hf hH hl
    have h_rec0 : ∀ {M0 : Mem} {H : Heap} {locs : List Loc} {ls : Array Slot}, lq1 (fn_X11_works_L0 t a1) k M0 = some o → ST E s n (zf n) M0 H locs → lv_has ls 2 [(0, .ref (eb E + t)), (1, i3 a1)] → W p l e { frames := 1, cells := 0, slots := 0, locals := 22 } s m args below meth c H locs 0 0 (MQ below (QC E none n (zf n) o) args s 0 0 (fr E)) (F0 m 0 ls []) := fun {M0} {H} {locs} {ls} a b c => ih M0 H locs ls a b c
    replace hf : fn_X11_works_L0 t a1 (lq1 (fn_X11_works_L0 t a1) k) M0 = some o := hf
    generalize lq1 (fn_X11_works_L0 t a1) k = rec0 at hf h_rec0
    unfold fn_X11_works_L0 at hf
    refine lv_aload_n C.hx C.hb dX11_works_0 rfl (lv_at hl 0 rfl) ?_
    refine g_int C hH o_t (by decide) rfl FL_RX11_211 dX11_works_1 ?_
    refine w_le0 (tgt := 70) C hf dX11_works_4 (by decide) (fun hf => ?_) (fun hf => ?_)
    · cases hf
      exact w_vret C hH dX11_works_70
    · refine lv_aload_n C.hx C.hb dX11_works_7 rfl (lv_at hl 0 rfl) ?_
      refine g_ref (off := 14) C hH o_t (by decide) rfl rfl FL_RX11_57 dX11_works_8 ?_
      refine lv_aload_n C.hx C.hb dX11_works_11 rfl (lv_at hl 0 rfl) ?_
      refine g_int C hH o_t (by decide) rfl FL_RX11_211 dX11_works_12 ?_
      refine lv_iconst (v := Int32.ofInt 1) C.hx C.hb dX11_works_15 rfl ?_
      refine w_isub C dX11_works_16 ?_
      refine r_iald C hH (ly (i := 26) (off := 14) (k := 12) hn o_t rfl rfl rfl) (lyn (i := 26) (off := 14) (N := 79) hn o_t rfl rfl rfl) hf dX11_works_17 (fun x17 hf => ?_)
      refine lv_aload_n C.hx C.hb dX11_works_18 rfl (lv_at hl 0 rfl) ?_
      refine g_int C hH o_t (by decide) rfl FL_RX11_196 dX11_works_19 ?_
      refine w_ne (tgt := 70) C hf dX11_works_22 (by decide) (fun hf => ?_) (fun hf => ?_)
      · cases hf
        exact w_vret C hH dX11_works_70
      · refine lv_aload_n C.hx C.hb dX11_works_25 rfl (lv_at hl 0 rfl) ?_
        refine g_ref (off := 13) C hH o_t (by decide) rfl rfl FL_RX11_54 dX11_works_26 ?_
        refine lv_aload_n C.hx C.hb dX11_works_29 rfl (lv_at hl 0 rfl) ?_
        refine g_int C hH o_t (by decide) rfl FL_RX11_211 dX11_works_30 ?_
        refine lv_iconst (v := Int32.ofInt 1) C.hx C.hb dX11_works_33 rfl ?_
        refine w_isub C dX11_works_34 ?_
        refine r_iald C hH (ly (i := 25) (off := 13) (k := 12) hn o_t rfl rfl rfl) (lyn (i := 25) (off := 13) (N := 79) hn o_t rfl rfl rfl) hf dX11_works_35 (fun x35 hf => ?_)
        obtain ⟨x36, hc9, hf⟩ := cu_of hf
        refine r_callSi (rest := []) C hH hl (m_X11_rank hn hc9) ML_RX11_214 MF_X11_rank MS_X11_rank rfl rfl (Nat.le_of_ble_eq_true rfl) ⟨Nat.le_of_ble_eq_true rfl, Nat.le_of_ble_eq_true rfl⟩ ⟨Nat.le_refl _, Nat.le_refl _⟩ dX11_works_36 (fun H locs hH => ?_)
        refine lv_iload_n C.hx C.hb dX11_works_39 rfl (lv_at hl 1 rfl) ?_
        refine w_lt (tgt := 70) C hf dX11_works_40 (by decide) (fun hf => ?_) (fun hf => ?_)
        · cases hf
          exact w_vret C hH dX11_works_70
        · refine lv_aload_n C.hx C.hb dX11_works_43 rfl (lv_at hl 0 rfl) ?_
          refine lv_dup C.hx C.hb dX11_works_44 rfl ?_
          refine g_int C hH o_t (by decide) rfl FL_RX11_211 dX11_works_45 ?_
          refine lv_iconst (v := Int32.ofInt 1) C.hx C.hb dX11_works_48 rfl ?_
          refine w_isub C dX11_works_49 ?_
          refine r_put C hH o_t (by decide) rfl FL_RX11_211 FW_11_24 hf dX11_works_50 (fun M50 H locs hf hH => ?_)
          refine lv_aload_n C.hx C.hb dX11_works_53 rfl (lv_at hl 0 rfl) ?_
          refine lv_aload_n C.hx C.hb dX11_works_54 rfl (lv_at hl 0 rfl) ?_
          refine g_ref (off := 13) C hH o_t (by decide) rfl rfl FL_RX11_54 dX11_works_55 ?_
          refine lv_aload_n C.hx C.hb dX11_works_58 rfl (lv_at hl 0 rfl) ?_
          refine g_int C hH o_t (by decide) rfl FL_RX11_211 dX11_works_59 ?_
          refine r_iald C hH (ly (i := 25) (off := 13) (k := 12) hn o_t rfl rfl rfl) (lyn (i := 25) (off := 13) (N := 79) hn o_t rfl rfl rfl) hf dX11_works_62 (fun x62 hf => ?_)
          refine lv_iconst (v := Int32.ofInt 0) C.hx C.hb dX11_works_63 rfl ?_
          obtain ⟨M64, hc9, hf⟩ := cv_of hf
          refine r_callVv (rest := []) C hH hl o_t (by decide) rfl (m_X11_emits hn o_t hc9) ML_RX11_218 MF_X11_emits MI_X11_emits rfl rfl (Nat.le_of_ble_eq_true rfl) ⟨Nat.le_of_ble_eq_true rfl, Nat.le_of_ble_eq_true rfl⟩ ⟨Nat.le_refl _, Nat.le_refl _⟩ dX11_works_64 (fun H locs hH => ?_)
          refine lv_goto (tgt := 0) C.hx C.hb dX11_works_67 (by decide) ?_
          exact h_rec0 hf hH (lv_sub hl [0, 1] rfl)
set_option maxRecDepth 100000 in
set_option maxHeartbeats 4000000 in
theorem m_X11_works {E : EE} {l : Launch} {n : Nat} {t : Nat} {a1 : Int} {M : Mem} {o : Mem} (hn : nfull n) (o_t : ob n t 11) (hf : fn_X11_works t a1 M = some o) : CT E l yX11_works cX11_works 2 none 1 22 0 0 [.ref (eb E + t), i3 a1] n (zf n) M none n (zf n) o := by
  refine CT_of PN_RX11 (Nat.le_of_ble_eq_true rfl) ?_
  intro p e s m args below meth c C hH ls hl
  replace C : Cx E p s m args meth c cX11_works 2 RX11 none n "works" := C
  have hl : lv_has ls 2 [(0, .ref (eb E + t)), (1, i3 a1)] := hl
  unfold fn_X11_works at hf
  exact l_X11_works_0 C hn o_t FU _ _ _ _ hf hH (lv_sub hl [0, 1] rfl)
-- HeavierByHandModel.waitsFor
def fn_X11_waitsFor (t : Nat) (a1 : Int) (M : Mem) : Option Mem :=
  cu (fn_X11_rank a1 M) fun x2 => cv (fn_X11_works t x2 M) fun M5 => wr M5 (t + 13) 80 (M5 t 24) a1 fun M17 => wr M17 (t + 14) 80 (M17 t 24) (M17 t 21) fun M30 => st M30 t 24 ((M30 t 24) + 1) fun M38 => cv (fn_X11_next t M38) fun M42 => some M42
set_option maxRecDepth 100000 in
set_option maxHeartbeats 4000000 in
theorem m_X11_waitsFor {E : EE} {l : Launch} {n : Nat} {t : Nat} {a1 : Int} {M : Mem} {o : Mem} (hn : nfull n) (o_t : ob n t 11) (hf : fn_X11_waitsFor t a1 M = some o) : CT E l yX11_waitsFor cX11_waitsFor 2 none 3 66 0 0 [.ref (eb E + t), i3 a1] n (zf n) M none n (zf n) o := by
  refine CT_of PN_RX11 (Nat.le_of_ble_eq_true rfl) ?_
  intro p e s m args below meth c C hH ls hl
  replace C : Cx E p s m args meth c cX11_waitsFor 2 RX11 none n "waitsFor" := C
  have hl : lv_has ls 2 [(0, .ref (eb E + t)), (1, i3 a1)] := hl
  unfold fn_X11_waitsFor at hf
  refine lv_aload_n C.hx C.hb dX11_waitsFor_0 rfl (lv_at hl 0 rfl) ?_
  refine lv_iload_n C.hx C.hb dX11_waitsFor_1 rfl (lv_at hl 1 rfl) ?_
  obtain ⟨x2, hc9, hf⟩ := cu_of hf
  refine r_callSi (rest := [.ref (eb E + t)]) C hH hl (m_X11_rank hn hc9) ML_RX11_214 MF_X11_rank MS_X11_rank rfl rfl (Nat.le_of_ble_eq_true rfl) ⟨Nat.le_of_ble_eq_true rfl, Nat.le_of_ble_eq_true rfl⟩ ⟨Nat.le_refl _, Nat.le_refl _⟩ dX11_waitsFor_2 (fun H locs hH => ?_)
  obtain ⟨M5, hc9, hf⟩ := cv_of hf
  refine r_callVv (rest := []) C hH hl o_t (by decide) rfl (m_X11_works hn o_t hc9) ML_RX11_222 MF_X11_works MI_X11_works rfl rfl (Nat.le_of_ble_eq_true rfl) ⟨Nat.le_of_ble_eq_true rfl, Nat.le_of_ble_eq_true rfl⟩ ⟨Nat.le_refl _, Nat.le_refl _⟩ dX11_waitsFor_5 (fun H locs hH => ?_)
  refine lv_aload_n C.hx C.hb dX11_waitsFor_8 rfl (lv_at hl 0 rfl) ?_
  refine g_ref (off := 13) C hH o_t (by decide) rfl rfl FL_RX11_54 dX11_waitsFor_9 ?_
  refine lv_aload_n C.hx C.hb dX11_waitsFor_12 rfl (lv_at hl 0 rfl) ?_
  refine g_int C hH o_t (by decide) rfl FL_RX11_211 dX11_waitsFor_13 ?_
  refine lv_iload_n C.hx C.hb dX11_waitsFor_16 rfl (lv_at hl 1 rfl) ?_
  refine r_iast C hH (ly (i := 25) (off := 13) (k := 12) hn o_t rfl rfl rfl) (lyn (i := 25) (off := 13) (N := 79) hn o_t rfl rfl rfl) hf dX11_waitsFor_17 (fun M17 H locs hf hH => ?_)
  refine lv_aload_n C.hx C.hb dX11_waitsFor_18 rfl (lv_at hl 0 rfl) ?_
  refine g_ref (off := 14) C hH o_t (by decide) rfl rfl FL_RX11_57 dX11_waitsFor_19 ?_
  refine lv_aload_n C.hx C.hb dX11_waitsFor_22 rfl (lv_at hl 0 rfl) ?_
  refine g_int C hH o_t (by decide) rfl FL_RX11_211 dX11_waitsFor_23 ?_
  refine lv_aload_n C.hx C.hb dX11_waitsFor_26 rfl (lv_at hl 0 rfl) ?_
  refine g_int C hH o_t (by decide) rfl FL_RX11_196 dX11_waitsFor_27 ?_
  refine r_iast C hH (ly (i := 26) (off := 14) (k := 12) hn o_t rfl rfl rfl) (lyn (i := 26) (off := 14) (N := 79) hn o_t rfl rfl rfl) hf dX11_waitsFor_30 (fun M30 H locs hf hH => ?_)
  refine lv_aload_n C.hx C.hb dX11_waitsFor_31 rfl (lv_at hl 0 rfl) ?_
  refine lv_dup C.hx C.hb dX11_waitsFor_32 rfl ?_
  refine g_int C hH o_t (by decide) rfl FL_RX11_211 dX11_waitsFor_33 ?_
  refine lv_iconst (v := Int32.ofInt 1) C.hx C.hb dX11_waitsFor_36 rfl ?_
  refine w_iadd C dX11_waitsFor_37 ?_
  refine r_put C hH o_t (by decide) rfl FL_RX11_211 FW_11_24 hf dX11_waitsFor_38 (fun M38 H locs hf hH => ?_)
  refine lv_aload_n C.hx C.hb dX11_waitsFor_41 rfl (lv_at hl 0 rfl) ?_
  obtain ⟨M42, hc9, hf⟩ := cv_of hf
  refine r_callVv (rest := []) C hH hl o_t (by decide) rfl (m_X11_next hn o_t hc9) ML_RX11_208 MF_X11_next MI_X11_next rfl rfl (Nat.le_of_ble_eq_true rfl) ⟨Nat.le_of_ble_eq_true rfl, Nat.le_of_ble_eq_true rfl⟩ ⟨Nat.le_refl _, Nat.le_refl _⟩ dX11_waitsFor_42 (fun H locs hH => ?_)
  cases hf
  exact w_vret C hH dX11_waitsFor_45
-- HeavierByHandModel.asks
def fn_X11_asks (t : Nat) (M : Mem) : Option Mem :=
  cu (fn_X11_isWord t 8 M) fun x3 => cEq x3 0 (cv (fn_X11_opensFrame t 4 M) fun M20 => st M20 t 27 1 fun M25 => some M25) (cl (fn_X11_opensSign t 3 M) fun x11 M11 => some M11)
set_option maxRecDepth 100000 in
set_option maxHeartbeats 4000000 in
theorem m_X11_asks {E : EE} {l : Launch} {n : Nat} {t : Nat} {M : Mem} {o : Mem} (hn : nfull n) (o_t : ob n t 11) (hf : fn_X11_asks t M = some o) : CT E l yX11_asks cX11_asks 2 none 4 87 0 0 [.ref (eb E + t)] n (zf n) M none n (zf n) o := by
  refine CT_of PN_RX11 (Nat.le_of_ble_eq_true rfl) ?_
  intro p e s m args below meth c C hH ls hl
  replace C : Cx E p s m args meth c cX11_asks 2 RX11 none n "asks" := C
  have hl : lv_has ls 2 [(0, .ref (eb E + t))] := hl
  unfold fn_X11_asks at hf
  refine lv_aload_n C.hx C.hb dX11_asks_0 rfl (lv_at hl 0 rfl) ?_
  refine lv_bipush (v := Int32.ofInt 8) C.hx C.hb dX11_asks_1 (by decide) ?_
  obtain ⟨x3, hc9, hf⟩ := cu_of hf
  refine r_callVi (rest := []) C hH hl o_t (by decide) rfl (m_X11_isWord hn o_t hc9) ML_RX11_225 MF_X11_isWord MI_X11_isWord rfl rfl (Nat.le_of_ble_eq_true rfl) ⟨Nat.le_of_ble_eq_true rfl, Nat.le_of_ble_eq_true rfl⟩ ⟨Nat.le_refl _, Nat.le_refl _⟩ dX11_asks_3 (fun H locs hH => ?_)
  refine w_eq0 (tgt := 18) C hf dX11_asks_6 (by decide) (fun hf => ?_) (fun hf => ?_)
  · refine lv_aload_n C.hx C.hb dX11_asks_18 rfl (lv_at hl 0 rfl) ?_
    refine lv_iconst (v := Int32.ofInt 4) C.hx C.hb dX11_asks_19 rfl ?_
    obtain ⟨M20, hc9, hf⟩ := cv_of hf
    refine r_callVv (rest := []) C hH hl o_t (by decide) rfl (m_X11_opensFrame hn o_t hc9) ML_RX11_205 MF_X11_opensFrame MI_X11_opensFrame rfl rfl (Nat.le_of_ble_eq_true rfl) ⟨Nat.le_of_ble_eq_true rfl, Nat.le_of_ble_eq_true rfl⟩ ⟨Nat.le_refl _, Nat.le_refl _⟩ dX11_asks_20 (fun H locs hH => ?_)
    refine lv_aload_n C.hx C.hb dX11_asks_23 rfl (lv_at hl 0 rfl) ?_
    refine lv_iconst (v := Int32.ofInt 1) C.hx C.hb dX11_asks_24 rfl ?_
    refine r_put C hH o_t (by decide) rfl FL_RX11_231 FW_11_27 hf dX11_asks_25 (fun M25 H locs hf hH => ?_)
    cases hf
    exact w_vret C hH dX11_asks_28
  · refine lv_aload_n C.hx C.hb dX11_asks_9 rfl (lv_at hl 0 rfl) ?_
    refine lv_iconst (v := Int32.ofInt 3) C.hx C.hb dX11_asks_10 rfl ?_
    obtain ⟨x11, M11, hc9, hf⟩ := cl_of hf
    refine r_callVi (rest := []) C hH hl o_t (by decide) rfl (m_X11_opensSign hn o_t hc9) ML_RX11_228 MF_X11_opensSign MI_X11_opensSign rfl rfl (Nat.le_of_ble_eq_true rfl) ⟨Nat.le_of_ble_eq_true rfl, Nat.le_of_ble_eq_true rfl⟩ ⟨Nat.le_refl _, Nat.le_refl _⟩ dX11_asks_11 (fun H locs hH => ?_)
    refine lv_istore_n (lv' := [(1, i3 x11), (0, .ref (eb E + t))]) C.hx C.hb dX11_asks_14 rfl hl (by decide) rfl (fun ls hl => ?_)
    refine lv_goto (tgt := 28) C.hx C.hb dX11_asks_15 (by decide) ?_
    cases hf
    exact w_vret C hH dX11_asks_28
-- HeavierByHandModel.oneIsOver
def fn_X11_oneIsOver_J40 (t : Nat) (M40 : Mem) : Option Mem :=
  st M40 t 27 2 fun M42 => some M42
def fn_X11_oneIsOver_L0 (t : Nat) (rec0 : Mem → Option Mem) (M0 : Mem) : Option Mem :=
  cu (fn_X11_top t M0) fun x1 => cEq x1 7 (st M0 t 21 ((M0 t 21) - 1) fun M16 => st M16 t 20 ((M16 t 20) - 1) fun M26 => cv (fn_X11_emits t 402 0 M26) fun M34 => rec0 M34) (fn_X11_oneIsOver_J40 t M0)
def fn_X11_oneIsOver (t : Nat) (M : Mem) : Option Mem :=
  lq1 (fn_X11_oneIsOver_L0 t) FU M
set_option maxRecDepth 100000 in
set_option maxHeartbeats 4000000 in
theorem j_X11_oneIsOver_40 {p : Program} {l : Launch} {e : Env} {s : State} {m : MethodId} {args : Array Value} {below : List Frame} {meth : Method} {c : Code} {E : EE} {n : Nat} {o : Mem} {t : Nat} {M40 : Mem} {H : Heap} {locs : List Loc} {ls : Array Slot} (C : Cx E p s m args meth c cX11_oneIsOver 1 RX11 none n "oneIsOver") (hn : nfull n) (o_t : ob n t 11) (hf : fn_X11_oneIsOver_J40 t M40 = some o) (hH : ST E s n (zf n) M40 H locs) (hl : lv_has ls 1 [(0, .ref (eb E + t))]) : W p l e { frames := 1, cells := 0, slots := 0, locals := 22 } s m args below meth c H locs 0 0 (MQ below (QC E none n (zf n) o) args s 0 0 (fr E)) (F0 m 40 ls []) := by
  unfold fn_X11_oneIsOver_J40 at hf
  refine lv_aload_n C.hx C.hb dX11_oneIsOver_40 rfl (lv_at hl 0 rfl) ?_
  refine lv_iconst (v := Int32.ofInt 2) C.hx C.hb dX11_oneIsOver_41 rfl ?_
  refine r_put C hH o_t (by decide) rfl FL_RX11_231 FW_11_27 hf dX11_oneIsOver_42 (fun M42 H locs hf hH => ?_)
  cases hf
  exact w_vret C hH dX11_oneIsOver_45
set_option maxRecDepth 100000 in
set_option maxHeartbeats 4000000 in
theorem l_X11_oneIsOver_0 {p : Program} {l : Launch} {e : Env} {s : State} {m : MethodId} {args : Array Value} {below : List Frame} {meth : Method} {c : Code} {E : EE} {n : Nat} {o : Mem} {t : Nat} (C : Cx E p s m args meth c cX11_oneIsOver 1 RX11 none n "oneIsOver") (hn : nfull n) (o_t : ob n t 11) : ∀ (k : Nat) (M0 : Mem) (H : Heap) (locs : List Loc) (ls : Array Slot), lq1 (fn_X11_oneIsOver_L0 t) k M0 = some o → ST E s n (zf n) M0 H locs → lv_has ls 1 [(0, .ref (eb E + t))] → W p l e { frames := 1, cells := 0, slots := 0, locals := 22 } s m args below meth c H locs 0 0 (MQ below (QC E none n (zf n) o) args s 0 0 (fr E)) (F0 m 0 ls []) := by
  intro k
  induction k with
  | zero => intro M0 H locs ls hf; cases hf
  | succ k ih =>
    intro M0 H locs ls hf hH hl
    have h_rec0 : ∀ {M0 : Mem} {H : Heap} {locs : List Loc} {ls : Array Slot}, lq1 (fn_X11_oneIsOver_L0 t) k M0 = some o → ST E s n (zf n) M0 H locs → lv_has ls 1 [(0, .ref (eb E + t))] → W p l e { frames := 1, cells := 0, slots := 0, locals := 22 } s m args below meth c H locs 0 0 (MQ below (QC E none n (zf n) o) args s 0 0 (fr E)) (F0 m 0 ls []) := fun {M0} {H} {locs} {ls} a b c => ih M0 H locs ls a b c
    replace hf : fn_X11_oneIsOver_L0 t (lq1 (fn_X11_oneIsOver_L0 t) k) M0 = some o := hf
    generalize lq1 (fn_X11_oneIsOver_L0 t) k = rec0 at hf h_rec0
    unfold fn_X11_oneIsOver_L0 at hf
    refine lv_aload_n C.hx C.hb dX11_oneIsOver_0 rfl (lv_at hl 0 rfl) ?_
    obtain ⟨x1, hc9, hf⟩ := cu_of hf
    refine r_callVi (rest := []) C hH hl o_t (by decide) rfl (m_X11_top hn o_t hc9) ML_RX11_240 MF_X11_top MI_X11_top rfl rfl (Nat.le_of_ble_eq_true rfl) ⟨Nat.le_of_ble_eq_true rfl, Nat.le_of_ble_eq_true rfl⟩ ⟨Nat.le_refl _, Nat.le_refl _⟩ dX11_oneIsOver_1 (fun H locs hH => ?_)
    refine lv_bipush (v := Int32.ofInt 7) C.hx C.hb dX11_oneIsOver_4 (by decide) ?_
    refine w_ne (tgt := 40) C hf dX11_oneIsOver_6 (by decide) (fun hf => ?_) (fun hf => ?_)
    · exact j_X11_oneIsOver_40 C hn o_t hf hH (lv_sub hl [0] rfl)
    · refine lv_aload_n C.hx C.hb dX11_oneIsOver_9 rfl (lv_at hl 0 rfl) ?_
      refine lv_dup C.hx C.hb dX11_oneIsOver_10 rfl ?_
      refine g_int C hH o_t (by decide) rfl FL_RX11_196 dX11_oneIsOver_11 ?_
      refine lv_iconst (v := Int32.ofInt 1) C.hx C.hb dX11_oneIsOver_14 rfl ?_
      refine w_isub C dX11_oneIsOver_15 ?_
      refine r_put C hH o_t (by decide) rfl FL_RX11_196 FW_11_21 hf dX11_oneIsOver_16 (fun M16 H locs hf hH => ?_)
      refine lv_aload_n C.hx C.hb dX11_oneIsOver_19 rfl (lv_at hl 0 rfl) ?_
      refine lv_dup C.hx C.hb dX11_oneIsOver_20 rfl ?_
      refine g_int C hH o_t (by decide) rfl FL_RX11_199 dX11_oneIsOver_21 ?_
      refine lv_iconst (v := Int32.ofInt 1) C.hx C.hb dX11_oneIsOver_24 rfl ?_
      refine w_isub C dX11_oneIsOver_25 ?_
      refine r_put C hH o_t (by decide) rfl FL_RX11_199 FW_11_20 hf dX11_oneIsOver_26 (fun M26 H locs hf hH => ?_)
      refine lv_aload_n C.hx C.hb dX11_oneIsOver_29 rfl (lv_at hl 0 rfl) ?_
      refine lv_sipush (v := Int32.ofInt 402) C.hx C.hb dX11_oneIsOver_30 (by decide) ?_
      refine lv_iconst (v := Int32.ofInt 0) C.hx C.hb dX11_oneIsOver_33 rfl ?_
      obtain ⟨M34, hc9, hf⟩ := cv_of hf
      refine r_callVv (rest := []) C hH hl o_t (by decide) rfl (m_X11_emits hn o_t hc9) ML_RX11_218 MF_X11_emits MI_X11_emits rfl rfl (Nat.le_of_ble_eq_true rfl) ⟨Nat.le_of_ble_eq_true rfl, Nat.le_of_ble_eq_true rfl⟩ ⟨Nat.le_refl _, Nat.le_refl _⟩ dX11_oneIsOver_34 (fun H locs hH => ?_)
      refine lv_goto (tgt := 0) C.hx C.hb dX11_oneIsOver_37 (by decide) ?_
      exact h_rec0 hf hH (lv_sub hl [0] rfl)
set_option maxRecDepth 100000 in
set_option maxHeartbeats 4000000 in
theorem m_X11_oneIsOver {E : EE} {l : Launch} {n : Nat} {t : Nat} {M : Mem} {o : Mem} (hn : nfull n) (o_t : ob n t 11) (hf : fn_X11_oneIsOver t M = some o) : CT E l yX11_oneIsOver cX11_oneIsOver 1 none 1 22 0 0 [.ref (eb E + t)] n (zf n) M none n (zf n) o := by
  refine CT_of PN_RX11 (Nat.le_of_ble_eq_true rfl) ?_
  intro p e s m args below meth c C hH ls hl
  replace C : Cx E p s m args meth c cX11_oneIsOver 1 RX11 none n "oneIsOver" := C
  have hl : lv_has ls 1 [(0, .ref (eb E + t))] := hl
  unfold fn_X11_oneIsOver at hf
  exact l_X11_oneIsOver_0 C hn o_t FU _ _ _ _ hf hH (lv_sub hl [0] rfl)
-- HeavierByHandModel.begins
def fn_X11_begins_J90 (t : Nat) (M : Mem) : Option Mem :=
  cu (fn_X11_isSign t 40 M) fun x93 => cEq x93 0 (cu (fn_X11_isSign t 45 M) fun x112 => cEq x112 0 (cv (fn_X11_errs t 1 M) fun M130 => some M130) (cl (fn_X11_opensSign t 7 M) fun x121 M121 => some M121)) (cl (fn_X11_opensSign t 6 M) fun x102 M102 => some M102)
def fn_X11_begins (t : Nat) (M : Mem) : Option Mem :=
  cEq (M t 16) 2 (cLt 9999 (M t 17) (cv (fn_X11_errs t 2 M) fun M20 => some M20) (cv (fn_X11_emits t 400 (M t 17) M) fun M32 => cv (fn_X11_next t M32) fun M36 => cv (fn_X11_oneIsOver t M36) fun M40 => some M40)) (cEq (M t 16) 1 (cLt 8 (M t 17) (cv (fn_X11_emits t 401 (((M t 17) - 8) - 1) M) fun M76 => cv (fn_X11_next t M76) fun M80 => cv (fn_X11_oneIsOver t M80) fun M84 => some M84) (fn_X11_begins_J90 t M)) (fn_X11_begins_J90 t M))
set_option maxRecDepth 100000 in
set_option maxHeartbeats 4000000 in
theorem j_X11_begins_90 {p : Program} {l : Launch} {e : Env} {s : State} {m : MethodId} {args : Array Value} {below : List Frame} {meth : Method} {c : Code} {E : EE} {n : Nat} {o : Mem} {t : Nat} {M : Mem} {H : Heap} {locs : List Loc} {ls : Array Slot} (C : Cx E p s m args meth c cX11_begins 2 RX11 none n "begins") (hn : nfull n) (o_t : ob n t 11) (hf : fn_X11_begins_J90 t M = some o) (hH : ST E s n (zf n) M H locs) (hl : lv_has ls 2 [(0, .ref (eb E + t))]) : W p l e { frames := 4, cells := 0, slots := 0, locals := 87 } s m args below meth c H locs 0 0 (MQ below (QC E none n (zf n) o) args s 0 0 (fr E)) (F0 m 90 ls []) := by
  unfold fn_X11_begins_J90 at hf
  refine lv_aload_n C.hx C.hb dX11_begins_90 rfl (lv_at hl 0 rfl) ?_
  refine lv_bipush (v := Int32.ofInt 40) C.hx C.hb dX11_begins_91 (by decide) ?_
  obtain ⟨x93, hc9, hf⟩ := cu_of hf
  refine r_callVi (rest := []) C hH hl o_t (by decide) rfl (m_X11_isSign hn o_t hc9) ML_RX11_237 MF_X11_isSign MI_X11_isSign rfl rfl (Nat.le_of_ble_eq_true rfl) ⟨Nat.le_of_ble_eq_true rfl, Nat.le_of_ble_eq_true rfl⟩ ⟨Nat.le_refl _, Nat.le_refl _⟩ dX11_begins_93 (fun H locs hH => ?_)
  refine w_eq0 (tgt := 109) C hf dX11_begins_96 (by decide) (fun hf => ?_) (fun hf => ?_)
  · refine lv_aload_n C.hx C.hb dX11_begins_109 rfl (lv_at hl 0 rfl) ?_
    refine lv_bipush (v := Int32.ofInt 45) C.hx C.hb dX11_begins_110 (by decide) ?_
    obtain ⟨x112, hc9, hf⟩ := cu_of hf
    refine r_callVi (rest := []) C hH hl o_t (by decide) rfl (m_X11_isSign hn o_t hc9) ML_RX11_237 MF_X11_isSign MI_X11_isSign rfl rfl (Nat.le_of_ble_eq_true rfl) ⟨Nat.le_of_ble_eq_true rfl, Nat.le_of_ble_eq_true rfl⟩ ⟨Nat.le_refl _, Nat.le_refl _⟩ dX11_begins_112 (fun H locs hH => ?_)
    refine w_eq0 (tgt := 128) C hf dX11_begins_115 (by decide) (fun hf => ?_) (fun hf => ?_)
    · refine lv_aload_n C.hx C.hb dX11_begins_128 rfl (lv_at hl 0 rfl) ?_
      refine lv_iconst (v := Int32.ofInt 1) C.hx C.hb dX11_begins_129 rfl ?_
      obtain ⟨M130, hc9, hf⟩ := cv_of hf
      refine r_callVv (rest := []) C hH hl o_t (by decide) rfl (m_X11_errs hn o_t hc9) ML_RX11_202 MF_X11_errs MI_X11_errs rfl rfl (Nat.le_of_ble_eq_true rfl) ⟨Nat.le_of_ble_eq_true rfl, Nat.le_of_ble_eq_true rfl⟩ ⟨Nat.le_refl _, Nat.le_refl _⟩ dX11_begins_130 (fun H locs hH => ?_)
      cases hf
      exact w_vret C hH dX11_begins_133
    · refine lv_aload_n C.hx C.hb dX11_begins_118 rfl (lv_at hl 0 rfl) ?_
      refine lv_bipush (v := Int32.ofInt 7) C.hx C.hb dX11_begins_119 (by decide) ?_
      obtain ⟨x121, M121, hc9, hf⟩ := cl_of hf
      refine r_callVi (rest := []) C hH hl o_t (by decide) rfl (m_X11_opensSign hn o_t hc9) ML_RX11_228 MF_X11_opensSign MI_X11_opensSign rfl rfl (Nat.le_of_ble_eq_true rfl) ⟨Nat.le_of_ble_eq_true rfl, Nat.le_of_ble_eq_true rfl⟩ ⟨Nat.le_refl _, Nat.le_refl _⟩ dX11_begins_121 (fun H locs hH => ?_)
      refine lv_istore_n (lv' := [(1, i3 x121), (0, .ref (eb E + t))]) C.hx C.hb dX11_begins_124 rfl hl (by decide) rfl (fun ls hl => ?_)
      refine lv_goto (tgt := 133) C.hx C.hb dX11_begins_125 (by decide) ?_
      cases hf
      exact w_vret C hH dX11_begins_133
  · refine lv_aload_n C.hx C.hb dX11_begins_99 rfl (lv_at hl 0 rfl) ?_
    refine lv_bipush (v := Int32.ofInt 6) C.hx C.hb dX11_begins_100 (by decide) ?_
    obtain ⟨x102, M102, hc9, hf⟩ := cl_of hf
    refine r_callVi (rest := []) C hH hl o_t (by decide) rfl (m_X11_opensSign hn o_t hc9) ML_RX11_228 MF_X11_opensSign MI_X11_opensSign rfl rfl (Nat.le_of_ble_eq_true rfl) ⟨Nat.le_of_ble_eq_true rfl, Nat.le_of_ble_eq_true rfl⟩ ⟨Nat.le_refl _, Nat.le_refl _⟩ dX11_begins_102 (fun H locs hH => ?_)
    refine lv_istore_n (lv' := [(1, i3 x102), (0, .ref (eb E + t))]) C.hx C.hb dX11_begins_105 rfl hl (by decide) rfl (fun ls hl => ?_)
    refine lv_goto (tgt := 133) C.hx C.hb dX11_begins_106 (by decide) ?_
    cases hf
    exact w_vret C hH dX11_begins_133
set_option maxRecDepth 100000 in
set_option maxHeartbeats 4000000 in
theorem m_X11_begins {E : EE} {l : Launch} {n : Nat} {t : Nat} {M : Mem} {o : Mem} (hn : nfull n) (o_t : ob n t 11) (hf : fn_X11_begins t M = some o) : CT E l yX11_begins cX11_begins 2 none 4 87 0 0 [.ref (eb E + t)] n (zf n) M none n (zf n) o := by
  refine CT_of PN_RX11 (Nat.le_of_ble_eq_true rfl) ?_
  intro p e s m args below meth c C hH ls hl
  replace C : Cx E p s m args meth c cX11_begins 2 RX11 none n "begins" := C
  have hl : lv_has ls 2 [(0, .ref (eb E + t))] := hl
  unfold fn_X11_begins at hf
  refine lv_aload_n C.hx C.hb dX11_begins_0 rfl (lv_at hl 0 rfl) ?_
  refine g_int C hH o_t (by decide) rfl FL_RX11_171 dX11_begins_1 ?_
  refine lv_iconst (v := Int32.ofInt 2) C.hx C.hb dX11_begins_4 rfl ?_
  refine w_ne (tgt := 46) C hf dX11_begins_5 (by decide) (fun hf => ?_) (fun hf => ?_)
  · refine lv_aload_n C.hx C.hb dX11_begins_46 rfl (lv_at hl 0 rfl) ?_
    refine g_int C hH o_t (by decide) rfl FL_RX11_171 dX11_begins_47 ?_
    refine lv_iconst (v := Int32.ofInt 1) C.hx C.hb dX11_begins_50 rfl ?_
    refine w_ne (tgt := 90) C hf dX11_begins_51 (by decide) (fun hf => ?_) (fun hf => ?_)
    · exact j_X11_begins_90 C hn o_t hf hH (lv_sub hl [0] rfl)
    · refine lv_aload_n C.hx C.hb dX11_begins_54 rfl (lv_at hl 0 rfl) ?_
      refine g_int C hH o_t (by decide) rfl FL_RX11_183 dX11_begins_55 ?_
      refine lv_bipush (v := Int32.ofInt 8) C.hx C.hb dX11_begins_58 (by decide) ?_
      refine w_le (tgt := 90) C hf dX11_begins_60 (by decide) (fun hf => ?_) (fun hf => ?_)
      · exact j_X11_begins_90 C hn o_t hf hH (lv_sub hl [0] rfl)
      · refine lv_aload_n C.hx C.hb dX11_begins_63 rfl (lv_at hl 0 rfl) ?_
        refine lv_sipush (v := Int32.ofInt 401) C.hx C.hb dX11_begins_64 (by decide) ?_
        refine lv_aload_n C.hx C.hb dX11_begins_67 rfl (lv_at hl 0 rfl) ?_
        refine g_int C hH o_t (by decide) rfl FL_RX11_183 dX11_begins_68 ?_
        refine lv_bipush (v := Int32.ofInt 8) C.hx C.hb dX11_begins_71 (by decide) ?_
        refine w_isub C dX11_begins_73 ?_
        refine lv_iconst (v := Int32.ofInt 1) C.hx C.hb dX11_begins_74 rfl ?_
        refine w_isub C dX11_begins_75 ?_
        obtain ⟨M76, hc9, hf⟩ := cv_of hf
        refine r_callVv (rest := []) C hH hl o_t (by decide) rfl (m_X11_emits hn o_t hc9) ML_RX11_218 MF_X11_emits MI_X11_emits rfl rfl (Nat.le_of_ble_eq_true rfl) ⟨Nat.le_of_ble_eq_true rfl, Nat.le_of_ble_eq_true rfl⟩ ⟨Nat.le_refl _, Nat.le_refl _⟩ dX11_begins_76 (fun H locs hH => ?_)
        refine lv_aload_n C.hx C.hb dX11_begins_79 rfl (lv_at hl 0 rfl) ?_
        obtain ⟨M80, hc9, hf⟩ := cv_of hf
        refine r_callVv (rest := []) C hH hl o_t (by decide) rfl (m_X11_next hn o_t hc9) ML_RX11_208 MF_X11_next MI_X11_next rfl rfl (Nat.le_of_ble_eq_true rfl) ⟨Nat.le_of_ble_eq_true rfl, Nat.le_of_ble_eq_true rfl⟩ ⟨Nat.le_refl _, Nat.le_refl _⟩ dX11_begins_80 (fun H locs hH => ?_)
        refine lv_aload_n C.hx C.hb dX11_begins_83 rfl (lv_at hl 0 rfl) ?_
        obtain ⟨M84, hc9, hf⟩ := cv_of hf
        refine r_callVv (rest := []) C hH hl o_t (by decide) rfl (m_X11_oneIsOver hn o_t hc9) ML_RX11_234 MF_X11_oneIsOver MI_X11_oneIsOver rfl rfl (Nat.le_of_ble_eq_true rfl) ⟨Nat.le_of_ble_eq_true rfl, Nat.le_of_ble_eq_true rfl⟩ ⟨Nat.le_refl _, Nat.le_refl _⟩ dX11_begins_84 (fun H locs hH => ?_)
        refine lv_goto (tgt := 133) C.hx C.hb dX11_begins_87 (by decide) ?_
        cases hf
        exact w_vret C hH dX11_begins_133
  · refine lv_aload_n C.hx C.hb dX11_begins_8 rfl (lv_at hl 0 rfl) ?_
    refine g_int C hH o_t (by decide) rfl FL_RX11_183 dX11_begins_9 ?_
    refine lv_sipush (v := Int32.ofInt 9999) C.hx C.hb dX11_begins_12 (by decide) ?_
    refine w_le (tgt := 24) C hf dX11_begins_15 (by decide) (fun hf => ?_) (fun hf => ?_)
    · refine lv_aload_n C.hx C.hb dX11_begins_24 rfl (lv_at hl 0 rfl) ?_
      refine lv_sipush (v := Int32.ofInt 400) C.hx C.hb dX11_begins_25 (by decide) ?_
      refine lv_aload_n C.hx C.hb dX11_begins_28 rfl (lv_at hl 0 rfl) ?_
      refine g_int C hH o_t (by decide) rfl FL_RX11_183 dX11_begins_29 ?_
      obtain ⟨M32, hc9, hf⟩ := cv_of hf
      refine r_callVv (rest := []) C hH hl o_t (by decide) rfl (m_X11_emits hn o_t hc9) ML_RX11_218 MF_X11_emits MI_X11_emits rfl rfl (Nat.le_of_ble_eq_true rfl) ⟨Nat.le_of_ble_eq_true rfl, Nat.le_of_ble_eq_true rfl⟩ ⟨Nat.le_refl _, Nat.le_refl _⟩ dX11_begins_32 (fun H locs hH => ?_)
      refine lv_aload_n C.hx C.hb dX11_begins_35 rfl (lv_at hl 0 rfl) ?_
      obtain ⟨M36, hc9, hf⟩ := cv_of hf
      refine r_callVv (rest := []) C hH hl o_t (by decide) rfl (m_X11_next hn o_t hc9) ML_RX11_208 MF_X11_next MI_X11_next rfl rfl (Nat.le_of_ble_eq_true rfl) ⟨Nat.le_of_ble_eq_true rfl, Nat.le_of_ble_eq_true rfl⟩ ⟨Nat.le_refl _, Nat.le_refl _⟩ dX11_begins_36 (fun H locs hH => ?_)
      refine lv_aload_n C.hx C.hb dX11_begins_39 rfl (lv_at hl 0 rfl) ?_
      obtain ⟨M40, hc9, hf⟩ := cv_of hf
      refine r_callVv (rest := []) C hH hl o_t (by decide) rfl (m_X11_oneIsOver hn o_t hc9) ML_RX11_234 MF_X11_oneIsOver MI_X11_oneIsOver rfl rfl (Nat.le_of_ble_eq_true rfl) ⟨Nat.le_of_ble_eq_true rfl, Nat.le_of_ble_eq_true rfl⟩ ⟨Nat.le_refl _, Nat.le_refl _⟩ dX11_begins_40 (fun H locs hH => ?_)
      refine lv_goto (tgt := 133) C.hx C.hb dX11_begins_43 (by decide) ?_
      cases hf
      exact w_vret C hH dX11_begins_133
    · refine lv_aload_n C.hx C.hb dX11_begins_18 rfl (lv_at hl 0 rfl) ?_
      refine lv_iconst (v := Int32.ofInt 2) C.hx C.hb dX11_begins_19 rfl ?_
      obtain ⟨M20, hc9, hf⟩ := cv_of hf
      refine r_callVv (rest := []) C hH hl o_t (by decide) rfl (m_X11_errs hn o_t hc9) ML_RX11_202 MF_X11_errs MI_X11_errs rfl rfl (Nat.le_of_ble_eq_true rfl) ⟨Nat.le_of_ble_eq_true rfl, Nat.le_of_ble_eq_true rfl⟩ ⟨Nat.le_refl _, Nat.le_refl _⟩ dX11_begins_20 (fun H locs hH => ?_)
      cases hf
      exact w_vret C hH dX11_begins_23
-- HeavierByHandModel.askIsOver
def fn_X11_askIsOver_J39 (t : Nat) (M39 : Mem) : Option Mem :=
  st M39 t 27 3 fun M41 => some M41
def fn_X11_askIsOver_L0 (t : Nat) (rec0 : Mem → Option Mem) (M0 : Mem) : Option Mem :=
  cu (fn_X11_top t M0) fun x1 => cEq x1 3 (st M0 t 21 ((M0 t 21) - 1) fun M15 => st M15 t 20 ((M15 t 20) - 1) fun M25 => cv (fn_X11_emits t 405 0 M25) fun M33 => rec0 M33) (fn_X11_askIsOver_J39 t M0)
def fn_X11_askIsOver (t : Nat) (M : Mem) : Option Mem :=
  lq1 (fn_X11_askIsOver_L0 t) FU M
set_option maxRecDepth 100000 in
set_option maxHeartbeats 4000000 in
theorem j_X11_askIsOver_39 {p : Program} {l : Launch} {e : Env} {s : State} {m : MethodId} {args : Array Value} {below : List Frame} {meth : Method} {c : Code} {E : EE} {n : Nat} {o : Mem} {t : Nat} {M39 : Mem} {H : Heap} {locs : List Loc} {ls : Array Slot} (C : Cx E p s m args meth c cX11_askIsOver 1 RX11 none n "askIsOver") (hn : nfull n) (o_t : ob n t 11) (hf : fn_X11_askIsOver_J39 t M39 = some o) (hH : ST E s n (zf n) M39 H locs) (hl : lv_has ls 1 [(0, .ref (eb E + t))]) : W p l e { frames := 1, cells := 0, slots := 0, locals := 22 } s m args below meth c H locs 0 0 (MQ below (QC E none n (zf n) o) args s 0 0 (fr E)) (F0 m 39 ls []) := by
  unfold fn_X11_askIsOver_J39 at hf
  refine lv_aload_n C.hx C.hb dX11_askIsOver_39 rfl (lv_at hl 0 rfl) ?_
  refine lv_iconst (v := Int32.ofInt 3) C.hx C.hb dX11_askIsOver_40 rfl ?_
  refine r_put C hH o_t (by decide) rfl FL_RX11_231 FW_11_27 hf dX11_askIsOver_41 (fun M41 H locs hf hH => ?_)
  cases hf
  exact w_vret C hH dX11_askIsOver_44
set_option maxRecDepth 100000 in
set_option maxHeartbeats 4000000 in
theorem l_X11_askIsOver_0 {p : Program} {l : Launch} {e : Env} {s : State} {m : MethodId} {args : Array Value} {below : List Frame} {meth : Method} {c : Code} {E : EE} {n : Nat} {o : Mem} {t : Nat} (C : Cx E p s m args meth c cX11_askIsOver 1 RX11 none n "askIsOver") (hn : nfull n) (o_t : ob n t 11) : ∀ (k : Nat) (M0 : Mem) (H : Heap) (locs : List Loc) (ls : Array Slot), lq1 (fn_X11_askIsOver_L0 t) k M0 = some o → ST E s n (zf n) M0 H locs → lv_has ls 1 [(0, .ref (eb E + t))] → W p l e { frames := 1, cells := 0, slots := 0, locals := 22 } s m args below meth c H locs 0 0 (MQ below (QC E none n (zf n) o) args s 0 0 (fr E)) (F0 m 0 ls []) := by
  intro k
  induction k with
  | zero => intro M0 H locs ls hf; cases hf
  | succ k ih =>
    intro M0 H locs ls hf hH hl
    have h_rec0 : ∀ {M0 : Mem} {H : Heap} {locs : List Loc} {ls : Array Slot}, lq1 (fn_X11_askIsOver_L0 t) k M0 = some o → ST E s n (zf n) M0 H locs → lv_has ls 1 [(0, .ref (eb E + t))] → W p l e { frames := 1, cells := 0, slots := 0, locals := 22 } s m args below meth c H locs 0 0 (MQ below (QC E none n (zf n) o) args s 0 0 (fr E)) (F0 m 0 ls []) := fun {M0} {H} {locs} {ls} a b c => ih M0 H locs ls a b c
    replace hf : fn_X11_askIsOver_L0 t (lq1 (fn_X11_askIsOver_L0 t) k) M0 = some o := hf
    generalize lq1 (fn_X11_askIsOver_L0 t) k = rec0 at hf h_rec0
    unfold fn_X11_askIsOver_L0 at hf
    refine lv_aload_n C.hx C.hb dX11_askIsOver_0 rfl (lv_at hl 0 rfl) ?_
    obtain ⟨x1, hc9, hf⟩ := cu_of hf
    refine r_callVi (rest := []) C hH hl o_t (by decide) rfl (m_X11_top hn o_t hc9) ML_RX11_240 MF_X11_top MI_X11_top rfl rfl (Nat.le_of_ble_eq_true rfl) ⟨Nat.le_of_ble_eq_true rfl, Nat.le_of_ble_eq_true rfl⟩ ⟨Nat.le_refl _, Nat.le_refl _⟩ dX11_askIsOver_1 (fun H locs hH => ?_)
    refine lv_iconst (v := Int32.ofInt 3) C.hx C.hb dX11_askIsOver_4 rfl ?_
    refine w_ne (tgt := 39) C hf dX11_askIsOver_5 (by decide) (fun hf => ?_) (fun hf => ?_)
    · exact j_X11_askIsOver_39 C hn o_t hf hH (lv_sub hl [0] rfl)
    · refine lv_aload_n C.hx C.hb dX11_askIsOver_8 rfl (lv_at hl 0 rfl) ?_
      refine lv_dup C.hx C.hb dX11_askIsOver_9 rfl ?_
      refine g_int C hH o_t (by decide) rfl FL_RX11_196 dX11_askIsOver_10 ?_
      refine lv_iconst (v := Int32.ofInt 1) C.hx C.hb dX11_askIsOver_13 rfl ?_
      refine w_isub C dX11_askIsOver_14 ?_
      refine r_put C hH o_t (by decide) rfl FL_RX11_196 FW_11_21 hf dX11_askIsOver_15 (fun M15 H locs hf hH => ?_)
      refine lv_aload_n C.hx C.hb dX11_askIsOver_18 rfl (lv_at hl 0 rfl) ?_
      refine lv_dup C.hx C.hb dX11_askIsOver_19 rfl ?_
      refine g_int C hH o_t (by decide) rfl FL_RX11_199 dX11_askIsOver_20 ?_
      refine lv_iconst (v := Int32.ofInt 1) C.hx C.hb dX11_askIsOver_23 rfl ?_
      refine w_isub C dX11_askIsOver_24 ?_
      refine r_put C hH o_t (by decide) rfl FL_RX11_199 FW_11_20 hf dX11_askIsOver_25 (fun M25 H locs hf hH => ?_)
      refine lv_aload_n C.hx C.hb dX11_askIsOver_28 rfl (lv_at hl 0 rfl) ?_
      refine lv_sipush (v := Int32.ofInt 405) C.hx C.hb dX11_askIsOver_29 (by decide) ?_
      refine lv_iconst (v := Int32.ofInt 0) C.hx C.hb dX11_askIsOver_32 rfl ?_
      obtain ⟨M33, hc9, hf⟩ := cv_of hf
      refine r_callVv (rest := []) C hH hl o_t (by decide) rfl (m_X11_emits hn o_t hc9) ML_RX11_218 MF_X11_emits MI_X11_emits rfl rfl (Nat.le_of_ble_eq_true rfl) ⟨Nat.le_of_ble_eq_true rfl, Nat.le_of_ble_eq_true rfl⟩ ⟨Nat.le_refl _, Nat.le_refl _⟩ dX11_askIsOver_33 (fun H locs hH => ?_)
      refine lv_goto (tgt := 0) C.hx C.hb dX11_askIsOver_36 (by decide) ?_
      exact h_rec0 hf hH (lv_sub hl [0] rfl)
set_option maxRecDepth 100000 in
set_option maxHeartbeats 4000000 in
theorem m_X11_askIsOver {E : EE} {l : Launch} {n : Nat} {t : Nat} {M : Mem} {o : Mem} (hn : nfull n) (o_t : ob n t 11) (hf : fn_X11_askIsOver t M = some o) : CT E l yX11_askIsOver cX11_askIsOver 1 none 1 22 0 0 [.ref (eb E + t)] n (zf n) M none n (zf n) o := by
  refine CT_of PN_RX11 (Nat.le_of_ble_eq_true rfl) ?_
  intro p e s m args below meth c C hH ls hl
  replace C : Cx E p s m args meth c cX11_askIsOver 1 RX11 none n "askIsOver" := C
  have hl : lv_has ls 1 [(0, .ref (eb E + t))] := hl
  unfold fn_X11_askIsOver at hf
  exact l_X11_askIsOver_0 C hn o_t FU _ _ _ _ hf hH (lv_sub hl [0] rfl)
-- HeavierByHandModel.isAsking
def fn_X11_isAsking_J38 : Option Int :=
  some 1
def fn_X11_isAsking (a0 : Int) (M : Mem) : Option Int :=
  cEq a0 60 (fn_X11_isAsking_J38) (cEq a0 62 (fn_X11_isAsking_J38) (cEq a0 61 (fn_X11_isAsking_J38) (cEq a0 35 (fn_X11_isAsking_J38) (cEq a0 300 (fn_X11_isAsking_J38) (cEq a0 301 (fn_X11_isAsking_J38) (some 0))))))
set_option maxRecDepth 100000 in
set_option maxHeartbeats 4000000 in
theorem j_X11_isAsking_38 {p : Program} {l : Launch} {e : Env} {s : State} {m : MethodId} {args : Array Value} {below : List Frame} {meth : Method} {c : Code} {E : EE} {n : Nat} {o : Int} {M : Mem} {H : Heap} {locs : List Loc} {ls : Array Slot} (C : Cx E p s m args meth c cX11_isAsking 1 RX11 (some .boolean) n "isAsking") (hn : nfull n) (hf : fn_X11_isAsking_J38 = some o) (hH : ST E s n (zf n) M H locs) (hl : lv_has ls 1 []) : W p l e { frames := 0, cells := 0, slots := 0, locals := 0 } s m args below meth c H locs 0 0 (MQ below (QC E (some (i3 o)) n (zf n) M) args s 0 0 (fr E)) (F0 m 38 ls []) := by
  unfold fn_X11_isAsking_J38 at hf
  refine lv_iconst (v := Int32.ofInt 1) C.hx C.hb dX11_isAsking_38 rfl ?_
  refine lv_goto (tgt := 43) C.hx C.hb dX11_isAsking_39 (by decide) ?_
  cases hf
  exact w_zret C hH (Or.inr rfl) dX11_isAsking_43
set_option maxRecDepth 100000 in
set_option maxHeartbeats 4000000 in
theorem m_X11_isAsking {E : EE} {l : Launch} {n : Nat} {a0 : Int} {M : Mem} {o : Int} (hn : nfull n) (hf : fn_X11_isAsking a0 M = some o) : CT E l yX11_isAsking cX11_isAsking 1 (some .boolean) 0 0 0 0 [i3 a0] n (zf n) M (some (i3 o)) n (zf n) M := by
  refine CT_of PN_RX11 (Nat.le_of_ble_eq_true rfl) ?_
  intro p e s m args below meth c C hH ls hl
  replace C : Cx E p s m args meth c cX11_isAsking 1 RX11 (some .boolean) n "isAsking" := C
  have hl : lv_has ls 1 [(0, i3 a0)] := hl
  unfold fn_X11_isAsking at hf
  refine lv_iload_n C.hx C.hb dX11_isAsking_0 rfl (lv_at hl 0 rfl) ?_
  refine lv_bipush (v := Int32.ofInt 60) C.hx C.hb dX11_isAsking_1 (by decide) ?_
  refine w_eq (tgt := 38) C hf dX11_isAsking_3 (by decide) (fun hf => ?_) (fun hf => ?_)
  · exact j_X11_isAsking_38 C hn hf hH (lv_sub hl [] rfl)
  · refine lv_iload_n C.hx C.hb dX11_isAsking_6 rfl (lv_at hl 0 rfl) ?_
    refine lv_bipush (v := Int32.ofInt 62) C.hx C.hb dX11_isAsking_7 (by decide) ?_
    refine w_eq (tgt := 38) C hf dX11_isAsking_9 (by decide) (fun hf => ?_) (fun hf => ?_)
    · exact j_X11_isAsking_38 C hn hf hH (lv_sub hl [] rfl)
    · refine lv_iload_n C.hx C.hb dX11_isAsking_12 rfl (lv_at hl 0 rfl) ?_
      refine lv_bipush (v := Int32.ofInt 61) C.hx C.hb dX11_isAsking_13 (by decide) ?_
      refine w_eq (tgt := 38) C hf dX11_isAsking_15 (by decide) (fun hf => ?_) (fun hf => ?_)
      · exact j_X11_isAsking_38 C hn hf hH (lv_sub hl [] rfl)
      · refine lv_iload_n C.hx C.hb dX11_isAsking_18 rfl (lv_at hl 0 rfl) ?_
        refine lv_bipush (v := Int32.ofInt 35) C.hx C.hb dX11_isAsking_19 (by decide) ?_
        refine w_eq (tgt := 38) C hf dX11_isAsking_21 (by decide) (fun hf => ?_) (fun hf => ?_)
        · exact j_X11_isAsking_38 C hn hf hH (lv_sub hl [] rfl)
        · refine lv_iload_n C.hx C.hb dX11_isAsking_24 rfl (lv_at hl 0 rfl) ?_
          refine lv_sipush (v := Int32.ofInt 300) C.hx C.hb dX11_isAsking_25 (by decide) ?_
          refine w_eq (tgt := 38) C hf dX11_isAsking_28 (by decide) (fun hf => ?_) (fun hf => ?_)
          · exact j_X11_isAsking_38 C hn hf hH (lv_sub hl [] rfl)
          · refine lv_iload_n C.hx C.hb dX11_isAsking_31 rfl (lv_at hl 0 rfl) ?_
            refine lv_sipush (v := Int32.ofInt 301) C.hx C.hb dX11_isAsking_32 (by decide) ?_
            refine w_ne (tgt := 42) C hf dX11_isAsking_35 (by decide) (fun hf => ?_) (fun hf => ?_)
            · refine lv_iconst (v := Int32.ofInt 0) C.hx C.hb dX11_isAsking_42 rfl ?_
              cases hf
              exact w_zret C hH (Or.inl rfl) dX11_isAsking_43
            · exact j_X11_isAsking_38 C hn hf hH (lv_sub hl [] rfl)
-- HeavierByHandModel.clauseIsOver
def fn_X11_clauseIsOver (t : Nat) (M : Mem) : Option Mem :=
  cv (fn_X11_works t 1 M) fun M2 => st M2 t 21 0 fun M7 => cv (fn_X11_emits t 408 0 M7) fun M15 => st M15 t 28 ((M15 t 28) + 1) fun M25 => cv (fn_X11_next t M25) fun M29 => st M29 t 27 4 fun M34 => some M34
set_option maxRecDepth 100000 in
set_option maxHeartbeats 4000000 in
theorem m_X11_clauseIsOver {E : EE} {l : Launch} {n : Nat} {t : Nat} {M : Mem} {o : Mem} (hn : nfull n) (o_t : ob n t 11) (hf : fn_X11_clauseIsOver t M = some o) : CT E l yX11_clauseIsOver cX11_clauseIsOver 1 none 3 66 0 0 [.ref (eb E + t)] n (zf n) M none n (zf n) o := by
  refine CT_of PN_RX11 (Nat.le_of_ble_eq_true rfl) ?_
  intro p e s m args below meth c C hH ls hl
  replace C : Cx E p s m args meth c cX11_clauseIsOver 1 RX11 none n "clauseIsOver" := C
  have hl : lv_has ls 1 [(0, .ref (eb E + t))] := hl
  unfold fn_X11_clauseIsOver at hf
  refine lv_aload_n C.hx C.hb dX11_clauseIsOver_0 rfl (lv_at hl 0 rfl) ?_
  refine lv_iconst (v := Int32.ofInt 1) C.hx C.hb dX11_clauseIsOver_1 rfl ?_
  obtain ⟨M2, hc9, hf⟩ := cv_of hf
  refine r_callVv (rest := []) C hH hl o_t (by decide) rfl (m_X11_works hn o_t hc9) ML_RX11_222 MF_X11_works MI_X11_works rfl rfl (Nat.le_of_ble_eq_true rfl) ⟨Nat.le_of_ble_eq_true rfl, Nat.le_of_ble_eq_true rfl⟩ ⟨Nat.le_refl _, Nat.le_refl _⟩ dX11_clauseIsOver_2 (fun H locs hH => ?_)
  refine lv_aload_n C.hx C.hb dX11_clauseIsOver_5 rfl (lv_at hl 0 rfl) ?_
  refine lv_iconst (v := Int32.ofInt 0) C.hx C.hb dX11_clauseIsOver_6 rfl ?_
  refine r_put C hH o_t (by decide) rfl FL_RX11_196 FW_11_21 hf dX11_clauseIsOver_7 (fun M7 H locs hf hH => ?_)
  refine lv_aload_n C.hx C.hb dX11_clauseIsOver_10 rfl (lv_at hl 0 rfl) ?_
  refine lv_sipush (v := Int32.ofInt 408) C.hx C.hb dX11_clauseIsOver_11 (by decide) ?_
  refine lv_iconst (v := Int32.ofInt 0) C.hx C.hb dX11_clauseIsOver_14 rfl ?_
  obtain ⟨M15, hc9, hf⟩ := cv_of hf
  refine r_callVv (rest := []) C hH hl o_t (by decide) rfl (m_X11_emits hn o_t hc9) ML_RX11_218 MF_X11_emits MI_X11_emits rfl rfl (Nat.le_of_ble_eq_true rfl) ⟨Nat.le_of_ble_eq_true rfl, Nat.le_of_ble_eq_true rfl⟩ ⟨Nat.le_refl _, Nat.le_refl _⟩ dX11_clauseIsOver_15 (fun H locs hH => ?_)
  refine lv_aload_n C.hx C.hb dX11_clauseIsOver_18 rfl (lv_at hl 0 rfl) ?_
  refine lv_dup C.hx C.hb dX11_clauseIsOver_19 rfl ?_
  refine g_int C hH o_t (by decide) rfl FL_RX11_256 dX11_clauseIsOver_20 ?_
  refine lv_iconst (v := Int32.ofInt 1) C.hx C.hb dX11_clauseIsOver_23 rfl ?_
  refine w_iadd C dX11_clauseIsOver_24 ?_
  refine r_put C hH o_t (by decide) rfl FL_RX11_256 FW_11_28 hf dX11_clauseIsOver_25 (fun M25 H locs hf hH => ?_)
  refine lv_aload_n C.hx C.hb dX11_clauseIsOver_28 rfl (lv_at hl 0 rfl) ?_
  obtain ⟨M29, hc9, hf⟩ := cv_of hf
  refine r_callVv (rest := []) C hH hl o_t (by decide) rfl (m_X11_next hn o_t hc9) ML_RX11_208 MF_X11_next MI_X11_next rfl rfl (Nat.le_of_ble_eq_true rfl) ⟨Nat.le_of_ble_eq_true rfl, Nat.le_of_ble_eq_true rfl⟩ ⟨Nat.le_refl _, Nat.le_refl _⟩ dX11_clauseIsOver_29 (fun H locs hH => ?_)
  refine lv_aload_n C.hx C.hb dX11_clauseIsOver_32 rfl (lv_at hl 0 rfl) ?_
  refine lv_iconst (v := Int32.ofInt 4) C.hx C.hb dX11_clauseIsOver_33 rfl ?_
  refine r_put C hH o_t (by decide) rfl FL_RX11_231 FW_11_27 hf dX11_clauseIsOver_34 (fun M34 H locs hf hH => ?_)
  cases hf
  exact w_vret C hH dX11_clauseIsOver_37
-- HeavierByHandModel.goesOn
def fn_X11_goesOn_J245 (t : Nat) (M : Mem) : Option Mem :=
  cv (fn_X11_errs t 1 M) fun M247 => some M247
def fn_X11_goesOn_J181 (t : Nat) (M : Mem) (x1 : Int) : Option Mem :=
  cEq x1 5 (cv (fn_X11_works t 3 M) fun M188 => rd M188 (t + 12) 41 (M188 t 21) fun x199 => st M188 t 21 ((M188 t 21) - 1) fun M208 => cv (fn_X11_emits t x199 0 M208) fun M214 => cv (fn_X11_askIsOver t M214) fun M218 => some M218) (cEq x1 1 (cu (fn_X11_isSign t 59 M) fun x232 => cEq x232 0 (fn_X11_goesOn_J245 t M) (cv (fn_X11_clauseIsOver t M) fun M239 => some M239)) (fn_X11_goesOn_J245 t M))
def fn_X11_goesOn_J116 (t : Nat) (M : Mem) (x1 : Int) : Option Mem :=
  cEq x1 4 (cEq (M t 16) 3 (cu (fn_X11_isAsking (M t 17) M) fun x133 => cEq x133 0 (fn_X11_goesOn_J181 t M x1) (cv (fn_X11_works t 3 M) fun M141 => wr M141 (t + 12) 41 (M141 t 21) (M141 t 17) fun M156 => wr M156 (t + 11) 40 ((M156 t 21) - 1) 5 fun M168 => cv (fn_X11_next t M168) fun M170 => st M170 t 27 1 fun M175 => some M175)) (fn_X11_goesOn_J181 t M x1)) (fn_X11_goesOn_J181 t M x1)
def fn_X11_goesOn_J65 (t : Nat) (M : Mem) (x1 : Int) : Option Mem :=
  cEq x1 6 (cu (fn_X11_isSign t 41 M) fun x74 => cEq x74 0 (fn_X11_goesOn_J116 t M x1) (cv (fn_X11_works t 3 M) fun M82 => st M82 t 21 ((M82 t 21) - 1) fun M92 => st M92 t 20 ((M92 t 20) - 1) fun M102 => cv (fn_X11_next t M102) fun M106 => cv (fn_X11_oneIsOver t M106) fun M110 => some M110)) (fn_X11_goesOn_J116 t M x1)
def fn_X11_goesOn_J49 (t : Nat) (M : Mem) : Option Mem :=
  cv (fn_X11_waitsFor t (M t 17) M) fun M54 => st M54 t 27 1 fun M59 => some M59
def fn_X11_goesOn (t : Nat) (M : Mem) : Option Mem :=
  cu (fn_X11_top t M) fun x1 => cEq (M t 16) 3 (cEq (M t 17) 43 (fn_X11_goesOn_J49 t M) (cEq (M t 17) 45 (fn_X11_goesOn_J49 t M) (cEq (M t 17) 42 (fn_X11_goesOn_J49 t M) (cEq (M t 17) 47 (fn_X11_goesOn_J49 t M) (fn_X11_goesOn_J65 t M x1))))) (fn_X11_goesOn_J65 t M x1)
set_option maxRecDepth 100000 in
set_option maxHeartbeats 4000000 in
theorem j_X11_goesOn_245 {p : Program} {l : Launch} {e : Env} {s : State} {m : MethodId} {args : Array Value} {below : List Frame} {meth : Method} {c : Code} {E : EE} {n : Nat} {o : Mem} {t : Nat} {M : Mem} {H : Heap} {locs : List Loc} {ls : Array Slot} (C : Cx E p s m args meth c cX11_goesOn 3 RX11 none n "goesOn") (hn : nfull n) (o_t : ob n t 11) (hf : fn_X11_goesOn_J245 t M = some o) (hH : ST E s n (zf n) M H locs) (hl : lv_has ls 3 [(0, .ref (eb E + t))]) : W p l e { frames := 4, cells := 0, slots := 0, locals := 87 } s m args below meth c H locs 0 0 (MQ below (QC E none n (zf n) o) args s 0 0 (fr E)) (F0 m 245 ls []) := by
  unfold fn_X11_goesOn_J245 at hf
  refine lv_aload_n C.hx C.hb dX11_goesOn_245 rfl (lv_at hl 0 rfl) ?_
  refine lv_iconst (v := Int32.ofInt 1) C.hx C.hb dX11_goesOn_246 rfl ?_
  obtain ⟨M247, hc9, hf⟩ := cv_of hf
  refine r_callVv (rest := []) C hH hl o_t (by decide) rfl (m_X11_errs hn o_t hc9) ML_RX11_202 MF_X11_errs MI_X11_errs rfl rfl (Nat.le_of_ble_eq_true rfl) ⟨Nat.le_of_ble_eq_true rfl, Nat.le_of_ble_eq_true rfl⟩ ⟨Nat.le_refl _, Nat.le_refl _⟩ dX11_goesOn_247 (fun H locs hH => ?_)
  cases hf
  exact w_vret C hH dX11_goesOn_250
set_option maxRecDepth 100000 in
set_option maxHeartbeats 4000000 in
theorem j_X11_goesOn_181 {p : Program} {l : Launch} {e : Env} {s : State} {m : MethodId} {args : Array Value} {below : List Frame} {meth : Method} {c : Code} {E : EE} {n : Nat} {o : Mem} {t : Nat} {M : Mem} {x1 : Int} {H : Heap} {locs : List Loc} {ls : Array Slot} (C : Cx E p s m args meth c cX11_goesOn 3 RX11 none n "goesOn") (hn : nfull n) (o_t : ob n t 11) (hf : fn_X11_goesOn_J181 t M x1 = some o) (hH : ST E s n (zf n) M H locs) (hl : lv_has ls 3 [(0, .ref (eb E + t)), (1, i3 x1)]) : W p l e { frames := 4, cells := 0, slots := 0, locals := 87 } s m args below meth c H locs 0 0 (MQ below (QC E none n (zf n) o) args s 0 0 (fr E)) (F0 m 181 ls []) := by
  unfold fn_X11_goesOn_J181 at hf
  refine lv_iload_n C.hx C.hb dX11_goesOn_181 rfl (lv_at hl 1 rfl) ?_
  refine lv_iconst (v := Int32.ofInt 5) C.hx C.hb dX11_goesOn_182 rfl ?_
  refine w_ne (tgt := 224) C hf dX11_goesOn_183 (by decide) (fun hf => ?_) (fun hf => ?_)
  · refine lv_iload_n C.hx C.hb dX11_goesOn_224 rfl (lv_at hl 1 rfl) ?_
    refine lv_iconst (v := Int32.ofInt 1) C.hx C.hb dX11_goesOn_225 rfl ?_
    refine w_ne (tgt := 245) C hf dX11_goesOn_226 (by decide) (fun hf => ?_) (fun hf => ?_)
    · exact j_X11_goesOn_245 C hn o_t hf hH (lv_sub hl [0] rfl)
    · refine lv_aload_n C.hx C.hb dX11_goesOn_229 rfl (lv_at hl 0 rfl) ?_
      refine lv_bipush (v := Int32.ofInt 59) C.hx C.hb dX11_goesOn_230 (by decide) ?_
      obtain ⟨x232, hc9, hf⟩ := cu_of hf
      refine r_callVi (rest := []) C hH hl o_t (by decide) rfl (m_X11_isSign hn o_t hc9) ML_RX11_237 MF_X11_isSign MI_X11_isSign rfl rfl (Nat.le_of_ble_eq_true rfl) ⟨Nat.le_of_ble_eq_true rfl, Nat.le_of_ble_eq_true rfl⟩ ⟨Nat.le_refl _, Nat.le_refl _⟩ dX11_goesOn_232 (fun H locs hH => ?_)
      refine w_eq0 (tgt := 245) C hf dX11_goesOn_235 (by decide) (fun hf => ?_) (fun hf => ?_)
      · exact j_X11_goesOn_245 C hn o_t hf hH (lv_sub hl [0] rfl)
      · refine lv_aload_n C.hx C.hb dX11_goesOn_238 rfl (lv_at hl 0 rfl) ?_
        obtain ⟨M239, hc9, hf⟩ := cv_of hf
        refine r_callVv (rest := []) C hH hl o_t (by decide) rfl (m_X11_clauseIsOver hn o_t hc9) ML_RX11_253 MF_X11_clauseIsOver MI_X11_clauseIsOver rfl rfl (Nat.le_of_ble_eq_true rfl) ⟨Nat.le_of_ble_eq_true rfl, Nat.le_of_ble_eq_true rfl⟩ ⟨Nat.le_refl _, Nat.le_refl _⟩ dX11_goesOn_239 (fun H locs hH => ?_)
        refine lv_goto (tgt := 250) C.hx C.hb dX11_goesOn_242 (by decide) ?_
        cases hf
        exact w_vret C hH dX11_goesOn_250
  · refine lv_aload_n C.hx C.hb dX11_goesOn_186 rfl (lv_at hl 0 rfl) ?_
    refine lv_iconst (v := Int32.ofInt 3) C.hx C.hb dX11_goesOn_187 rfl ?_
    obtain ⟨M188, hc9, hf⟩ := cv_of hf
    refine r_callVv (rest := []) C hH hl o_t (by decide) rfl (m_X11_works hn o_t hc9) ML_RX11_222 MF_X11_works MI_X11_works rfl rfl (Nat.le_of_ble_eq_true rfl) ⟨Nat.le_of_ble_eq_true rfl, Nat.le_of_ble_eq_true rfl⟩ ⟨Nat.le_refl _, Nat.le_refl _⟩ dX11_goesOn_188 (fun H locs hH => ?_)
    refine lv_aload_n C.hx C.hb dX11_goesOn_191 rfl (lv_at hl 0 rfl) ?_
    refine g_ref (off := 12) C hH o_t (by decide) rfl rfl FL_RX11_51 dX11_goesOn_192 ?_
    refine lv_aload_n C.hx C.hb dX11_goesOn_195 rfl (lv_at hl 0 rfl) ?_
    refine g_int C hH o_t (by decide) rfl FL_RX11_196 dX11_goesOn_196 ?_
    refine r_iald C hH (ly (i := 23) (off := 12) (k := 12) hn o_t rfl rfl rfl) (lyn (i := 23) (off := 12) (N := 40) hn o_t rfl rfl rfl) hf dX11_goesOn_199 (fun x199 hf => ?_)
    refine lv_istore_n (lv' := [(2, i3 x199), (0, .ref (eb E + t)), (1, i3 x1)]) C.hx C.hb dX11_goesOn_200 rfl hl (by decide) rfl (fun ls hl => ?_)
    refine lv_aload_n C.hx C.hb dX11_goesOn_201 rfl (lv_at hl 1 rfl) ?_
    refine lv_dup C.hx C.hb dX11_goesOn_202 rfl ?_
    refine g_int C hH o_t (by decide) rfl FL_RX11_196 dX11_goesOn_203 ?_
    refine lv_iconst (v := Int32.ofInt 1) C.hx C.hb dX11_goesOn_206 rfl ?_
    refine w_isub C dX11_goesOn_207 ?_
    refine r_put C hH o_t (by decide) rfl FL_RX11_196 FW_11_21 hf dX11_goesOn_208 (fun M208 H locs hf hH => ?_)
    refine lv_aload_n C.hx C.hb dX11_goesOn_211 rfl (lv_at hl 1 rfl) ?_
    refine lv_iload_n C.hx C.hb dX11_goesOn_212 rfl (lv_at hl 0 rfl) ?_
    refine lv_iconst (v := Int32.ofInt 0) C.hx C.hb dX11_goesOn_213 rfl ?_
    obtain ⟨M214, hc9, hf⟩ := cv_of hf
    refine r_callVv (rest := []) C hH hl o_t (by decide) rfl (m_X11_emits hn o_t hc9) ML_RX11_218 MF_X11_emits MI_X11_emits rfl rfl (Nat.le_of_ble_eq_true rfl) ⟨Nat.le_of_ble_eq_true rfl, Nat.le_of_ble_eq_true rfl⟩ ⟨Nat.le_refl _, Nat.le_refl _⟩ dX11_goesOn_214 (fun H locs hH => ?_)
    refine lv_aload_n C.hx C.hb dX11_goesOn_217 rfl (lv_at hl 1 rfl) ?_
    obtain ⟨M218, hc9, hf⟩ := cv_of hf
    refine r_callVv (rest := []) C hH hl o_t (by decide) rfl (m_X11_askIsOver hn o_t hc9) ML_RX11_250 MF_X11_askIsOver MI_X11_askIsOver rfl rfl (Nat.le_of_ble_eq_true rfl) ⟨Nat.le_of_ble_eq_true rfl, Nat.le_of_ble_eq_true rfl⟩ ⟨Nat.le_refl _, Nat.le_refl _⟩ dX11_goesOn_218 (fun H locs hH => ?_)
    refine lv_goto (tgt := 250) C.hx C.hb dX11_goesOn_221 (by decide) ?_
    cases hf
    exact w_vret C hH dX11_goesOn_250
set_option maxRecDepth 100000 in
set_option maxHeartbeats 4000000 in
theorem j_X11_goesOn_116 {p : Program} {l : Launch} {e : Env} {s : State} {m : MethodId} {args : Array Value} {below : List Frame} {meth : Method} {c : Code} {E : EE} {n : Nat} {o : Mem} {t : Nat} {M : Mem} {x1 : Int} {H : Heap} {locs : List Loc} {ls : Array Slot} (C : Cx E p s m args meth c cX11_goesOn 3 RX11 none n "goesOn") (hn : nfull n) (o_t : ob n t 11) (hf : fn_X11_goesOn_J116 t M x1 = some o) (hH : ST E s n (zf n) M H locs) (hl : lv_has ls 3 [(0, .ref (eb E + t)), (1, i3 x1)]) : W p l e { frames := 4, cells := 0, slots := 0, locals := 87 } s m args below meth c H locs 0 0 (MQ below (QC E none n (zf n) o) args s 0 0 (fr E)) (F0 m 116 ls []) := by
  unfold fn_X11_goesOn_J116 at hf
  refine lv_iload_n C.hx C.hb dX11_goesOn_116 rfl (lv_at hl 1 rfl) ?_
  refine lv_iconst (v := Int32.ofInt 4) C.hx C.hb dX11_goesOn_117 rfl ?_
  refine w_ne (tgt := 181) C hf dX11_goesOn_118 (by decide) (fun hf => ?_) (fun hf => ?_)
  · exact j_X11_goesOn_181 C hn o_t hf hH (lv_sub hl [0, 1] rfl)
  · refine lv_aload_n C.hx C.hb dX11_goesOn_121 rfl (lv_at hl 0 rfl) ?_
    refine g_int C hH o_t (by decide) rfl FL_RX11_171 dX11_goesOn_122 ?_
    refine lv_iconst (v := Int32.ofInt 3) C.hx C.hb dX11_goesOn_125 rfl ?_
    refine w_ne (tgt := 181) C hf dX11_goesOn_126 (by decide) (fun hf => ?_) (fun hf => ?_)
    · exact j_X11_goesOn_181 C hn o_t hf hH (lv_sub hl [0, 1] rfl)
    · refine lv_aload_n C.hx C.hb dX11_goesOn_129 rfl (lv_at hl 0 rfl) ?_
      refine g_int C hH o_t (by decide) rfl FL_RX11_183 dX11_goesOn_130 ?_
      obtain ⟨x133, hc9, hf⟩ := cu_of hf
      refine r_callSi (rest := []) C hH hl (m_X11_isAsking hn hc9) ML_RX11_247 MF_X11_isAsking MS_X11_isAsking rfl rfl (Nat.le_of_ble_eq_true rfl) ⟨Nat.le_of_ble_eq_true rfl, Nat.le_of_ble_eq_true rfl⟩ ⟨Nat.le_refl _, Nat.le_refl _⟩ dX11_goesOn_133 (fun H locs hH => ?_)
      refine w_eq0 (tgt := 181) C hf dX11_goesOn_136 (by decide) (fun hf => ?_) (fun hf => ?_)
      · exact j_X11_goesOn_181 C hn o_t hf hH (lv_sub hl [0, 1] rfl)
      · refine lv_aload_n C.hx C.hb dX11_goesOn_139 rfl (lv_at hl 0 rfl) ?_
        refine lv_iconst (v := Int32.ofInt 3) C.hx C.hb dX11_goesOn_140 rfl ?_
        obtain ⟨M141, hc9, hf⟩ := cv_of hf
        refine r_callVv (rest := []) C hH hl o_t (by decide) rfl (m_X11_works hn o_t hc9) ML_RX11_222 MF_X11_works MI_X11_works rfl rfl (Nat.le_of_ble_eq_true rfl) ⟨Nat.le_of_ble_eq_true rfl, Nat.le_of_ble_eq_true rfl⟩ ⟨Nat.le_refl _, Nat.le_refl _⟩ dX11_goesOn_141 (fun H locs hH => ?_)
        refine lv_aload_n C.hx C.hb dX11_goesOn_144 rfl (lv_at hl 0 rfl) ?_
        refine g_ref (off := 12) C hH o_t (by decide) rfl rfl FL_RX11_51 dX11_goesOn_145 ?_
        refine lv_aload_n C.hx C.hb dX11_goesOn_148 rfl (lv_at hl 0 rfl) ?_
        refine g_int C hH o_t (by decide) rfl FL_RX11_196 dX11_goesOn_149 ?_
        refine lv_aload_n C.hx C.hb dX11_goesOn_152 rfl (lv_at hl 0 rfl) ?_
        refine g_int C hH o_t (by decide) rfl FL_RX11_183 dX11_goesOn_153 ?_
        refine r_iast C hH (ly (i := 23) (off := 12) (k := 12) hn o_t rfl rfl rfl) (lyn (i := 23) (off := 12) (N := 40) hn o_t rfl rfl rfl) hf dX11_goesOn_156 (fun M156 H locs hf hH => ?_)
        refine lv_aload_n C.hx C.hb dX11_goesOn_157 rfl (lv_at hl 0 rfl) ?_
        refine g_ref (off := 11) C hH o_t (by decide) rfl rfl FL_RX11_48 dX11_goesOn_158 ?_
        refine lv_aload_n C.hx C.hb dX11_goesOn_161 rfl (lv_at hl 0 rfl) ?_
        refine g_int C hH o_t (by decide) rfl FL_RX11_196 dX11_goesOn_162 ?_
        refine lv_iconst (v := Int32.ofInt 1) C.hx C.hb dX11_goesOn_165 rfl ?_
        refine w_isub C dX11_goesOn_166 ?_
        refine lv_iconst (v := Int32.ofInt 5) C.hx C.hb dX11_goesOn_167 rfl ?_
        refine r_iast C hH (ly (i := 22) (off := 11) (k := 12) hn o_t rfl rfl rfl) (lyn (i := 22) (off := 11) (N := 39) hn o_t rfl rfl rfl) hf dX11_goesOn_168 (fun M168 H locs hf hH => ?_)
        refine lv_aload_n C.hx C.hb dX11_goesOn_169 rfl (lv_at hl 0 rfl) ?_
        obtain ⟨M170, hc9, hf⟩ := cv_of hf
        refine r_callVv (rest := []) C hH hl o_t (by decide) rfl (m_X11_next hn o_t hc9) ML_RX11_208 MF_X11_next MI_X11_next rfl rfl (Nat.le_of_ble_eq_true rfl) ⟨Nat.le_of_ble_eq_true rfl, Nat.le_of_ble_eq_true rfl⟩ ⟨Nat.le_refl _, Nat.le_refl _⟩ dX11_goesOn_170 (fun H locs hH => ?_)
        refine lv_aload_n C.hx C.hb dX11_goesOn_173 rfl (lv_at hl 0 rfl) ?_
        refine lv_iconst (v := Int32.ofInt 1) C.hx C.hb dX11_goesOn_174 rfl ?_
        refine r_put C hH o_t (by decide) rfl FL_RX11_231 FW_11_27 hf dX11_goesOn_175 (fun M175 H locs hf hH => ?_)
        refine lv_goto (tgt := 250) C.hx C.hb dX11_goesOn_178 (by decide) ?_
        cases hf
        exact w_vret C hH dX11_goesOn_250
set_option maxRecDepth 100000 in
set_option maxHeartbeats 4000000 in
theorem j_X11_goesOn_65 {p : Program} {l : Launch} {e : Env} {s : State} {m : MethodId} {args : Array Value} {below : List Frame} {meth : Method} {c : Code} {E : EE} {n : Nat} {o : Mem} {t : Nat} {M : Mem} {x1 : Int} {H : Heap} {locs : List Loc} {ls : Array Slot} (C : Cx E p s m args meth c cX11_goesOn 3 RX11 none n "goesOn") (hn : nfull n) (o_t : ob n t 11) (hf : fn_X11_goesOn_J65 t M x1 = some o) (hH : ST E s n (zf n) M H locs) (hl : lv_has ls 3 [(0, .ref (eb E + t)), (1, i3 x1)]) : W p l e { frames := 4, cells := 0, slots := 0, locals := 87 } s m args below meth c H locs 0 0 (MQ below (QC E none n (zf n) o) args s 0 0 (fr E)) (F0 m 65 ls []) := by
  unfold fn_X11_goesOn_J65 at hf
  refine lv_iload_n C.hx C.hb dX11_goesOn_65 rfl (lv_at hl 1 rfl) ?_
  refine lv_bipush (v := Int32.ofInt 6) C.hx C.hb dX11_goesOn_66 (by decide) ?_
  refine w_ne (tgt := 116) C hf dX11_goesOn_68 (by decide) (fun hf => ?_) (fun hf => ?_)
  · exact j_X11_goesOn_116 C hn o_t hf hH (lv_sub hl [0, 1] rfl)
  · refine lv_aload_n C.hx C.hb dX11_goesOn_71 rfl (lv_at hl 0 rfl) ?_
    refine lv_bipush (v := Int32.ofInt 41) C.hx C.hb dX11_goesOn_72 (by decide) ?_
    obtain ⟨x74, hc9, hf⟩ := cu_of hf
    refine r_callVi (rest := []) C hH hl o_t (by decide) rfl (m_X11_isSign hn o_t hc9) ML_RX11_237 MF_X11_isSign MI_X11_isSign rfl rfl (Nat.le_of_ble_eq_true rfl) ⟨Nat.le_of_ble_eq_true rfl, Nat.le_of_ble_eq_true rfl⟩ ⟨Nat.le_refl _, Nat.le_refl _⟩ dX11_goesOn_74 (fun H locs hH => ?_)
    refine w_eq0 (tgt := 116) C hf dX11_goesOn_77 (by decide) (fun hf => ?_) (fun hf => ?_)
    · exact j_X11_goesOn_116 C hn o_t hf hH (lv_sub hl [0, 1] rfl)
    · refine lv_aload_n C.hx C.hb dX11_goesOn_80 rfl (lv_at hl 0 rfl) ?_
      refine lv_iconst (v := Int32.ofInt 3) C.hx C.hb dX11_goesOn_81 rfl ?_
      obtain ⟨M82, hc9, hf⟩ := cv_of hf
      refine r_callVv (rest := []) C hH hl o_t (by decide) rfl (m_X11_works hn o_t hc9) ML_RX11_222 MF_X11_works MI_X11_works rfl rfl (Nat.le_of_ble_eq_true rfl) ⟨Nat.le_of_ble_eq_true rfl, Nat.le_of_ble_eq_true rfl⟩ ⟨Nat.le_refl _, Nat.le_refl _⟩ dX11_goesOn_82 (fun H locs hH => ?_)
      refine lv_aload_n C.hx C.hb dX11_goesOn_85 rfl (lv_at hl 0 rfl) ?_
      refine lv_dup C.hx C.hb dX11_goesOn_86 rfl ?_
      refine g_int C hH o_t (by decide) rfl FL_RX11_196 dX11_goesOn_87 ?_
      refine lv_iconst (v := Int32.ofInt 1) C.hx C.hb dX11_goesOn_90 rfl ?_
      refine w_isub C dX11_goesOn_91 ?_
      refine r_put C hH o_t (by decide) rfl FL_RX11_196 FW_11_21 hf dX11_goesOn_92 (fun M92 H locs hf hH => ?_)
      refine lv_aload_n C.hx C.hb dX11_goesOn_95 rfl (lv_at hl 0 rfl) ?_
      refine lv_dup C.hx C.hb dX11_goesOn_96 rfl ?_
      refine g_int C hH o_t (by decide) rfl FL_RX11_199 dX11_goesOn_97 ?_
      refine lv_iconst (v := Int32.ofInt 1) C.hx C.hb dX11_goesOn_100 rfl ?_
      refine w_isub C dX11_goesOn_101 ?_
      refine r_put C hH o_t (by decide) rfl FL_RX11_199 FW_11_20 hf dX11_goesOn_102 (fun M102 H locs hf hH => ?_)
      refine lv_aload_n C.hx C.hb dX11_goesOn_105 rfl (lv_at hl 0 rfl) ?_
      obtain ⟨M106, hc9, hf⟩ := cv_of hf
      refine r_callVv (rest := []) C hH hl o_t (by decide) rfl (m_X11_next hn o_t hc9) ML_RX11_208 MF_X11_next MI_X11_next rfl rfl (Nat.le_of_ble_eq_true rfl) ⟨Nat.le_of_ble_eq_true rfl, Nat.le_of_ble_eq_true rfl⟩ ⟨Nat.le_refl _, Nat.le_refl _⟩ dX11_goesOn_106 (fun H locs hH => ?_)
      refine lv_aload_n C.hx C.hb dX11_goesOn_109 rfl (lv_at hl 0 rfl) ?_
      obtain ⟨M110, hc9, hf⟩ := cv_of hf
      refine r_callVv (rest := []) C hH hl o_t (by decide) rfl (m_X11_oneIsOver hn o_t hc9) ML_RX11_234 MF_X11_oneIsOver MI_X11_oneIsOver rfl rfl (Nat.le_of_ble_eq_true rfl) ⟨Nat.le_of_ble_eq_true rfl, Nat.le_of_ble_eq_true rfl⟩ ⟨Nat.le_refl _, Nat.le_refl _⟩ dX11_goesOn_110 (fun H locs hH => ?_)
      refine lv_goto (tgt := 250) C.hx C.hb dX11_goesOn_113 (by decide) ?_
      cases hf
      exact w_vret C hH dX11_goesOn_250
set_option maxRecDepth 100000 in
set_option maxHeartbeats 4000000 in
theorem j_X11_goesOn_49 {p : Program} {l : Launch} {e : Env} {s : State} {m : MethodId} {args : Array Value} {below : List Frame} {meth : Method} {c : Code} {E : EE} {n : Nat} {o : Mem} {t : Nat} {M : Mem} {H : Heap} {locs : List Loc} {ls : Array Slot} (C : Cx E p s m args meth c cX11_goesOn 3 RX11 none n "goesOn") (hn : nfull n) (o_t : ob n t 11) (hf : fn_X11_goesOn_J49 t M = some o) (hH : ST E s n (zf n) M H locs) (hl : lv_has ls 3 [(0, .ref (eb E + t))]) : W p l e { frames := 4, cells := 0, slots := 0, locals := 87 } s m args below meth c H locs 0 0 (MQ below (QC E none n (zf n) o) args s 0 0 (fr E)) (F0 m 49 ls []) := by
  unfold fn_X11_goesOn_J49 at hf
  refine lv_aload_n C.hx C.hb dX11_goesOn_49 rfl (lv_at hl 0 rfl) ?_
  refine lv_aload_n C.hx C.hb dX11_goesOn_50 rfl (lv_at hl 0 rfl) ?_
  refine g_int C hH o_t (by decide) rfl FL_RX11_183 dX11_goesOn_51 ?_
  obtain ⟨M54, hc9, hf⟩ := cv_of hf
  refine r_callVv (rest := []) C hH hl o_t (by decide) rfl (m_X11_waitsFor hn o_t hc9) ML_RX11_244 MF_X11_waitsFor MI_X11_waitsFor rfl rfl (Nat.le_of_ble_eq_true rfl) ⟨Nat.le_of_ble_eq_true rfl, Nat.le_of_ble_eq_true rfl⟩ ⟨Nat.le_refl _, Nat.le_refl _⟩ dX11_goesOn_54 (fun H locs hH => ?_)
  refine lv_aload_n C.hx C.hb dX11_goesOn_57 rfl (lv_at hl 0 rfl) ?_
  refine lv_iconst (v := Int32.ofInt 1) C.hx C.hb dX11_goesOn_58 rfl ?_
  refine r_put C hH o_t (by decide) rfl FL_RX11_231 FW_11_27 hf dX11_goesOn_59 (fun M59 H locs hf hH => ?_)
  refine lv_goto (tgt := 250) C.hx C.hb dX11_goesOn_62 (by decide) ?_
  cases hf
  exact w_vret C hH dX11_goesOn_250
set_option maxRecDepth 100000 in
set_option maxHeartbeats 4000000 in
theorem m_X11_goesOn {E : EE} {l : Launch} {n : Nat} {t : Nat} {M : Mem} {o : Mem} (hn : nfull n) (o_t : ob n t 11) (hf : fn_X11_goesOn t M = some o) : CT E l yX11_goesOn cX11_goesOn 3 none 4 87 0 0 [.ref (eb E + t)] n (zf n) M none n (zf n) o := by
  refine CT_of PN_RX11 (Nat.le_of_ble_eq_true rfl) ?_
  intro p e s m args below meth c C hH ls hl
  replace C : Cx E p s m args meth c cX11_goesOn 3 RX11 none n "goesOn" := C
  have hl : lv_has ls 3 [(0, .ref (eb E + t))] := hl
  unfold fn_X11_goesOn at hf
  refine lv_aload_n C.hx C.hb dX11_goesOn_0 rfl (lv_at hl 0 rfl) ?_
  obtain ⟨x1, hc9, hf⟩ := cu_of hf
  refine r_callVi (rest := []) C hH hl o_t (by decide) rfl (m_X11_top hn o_t hc9) ML_RX11_240 MF_X11_top MI_X11_top rfl rfl (Nat.le_of_ble_eq_true rfl) ⟨Nat.le_of_ble_eq_true rfl, Nat.le_of_ble_eq_true rfl⟩ ⟨Nat.le_refl _, Nat.le_refl _⟩ dX11_goesOn_1 (fun H locs hH => ?_)
  refine lv_istore_n (lv' := [(1, i3 x1), (0, .ref (eb E + t))]) C.hx C.hb dX11_goesOn_4 rfl hl (by decide) rfl (fun ls hl => ?_)
  refine lv_aload_n C.hx C.hb dX11_goesOn_5 rfl (lv_at hl 1 rfl) ?_
  refine g_int C hH o_t (by decide) rfl FL_RX11_171 dX11_goesOn_6 ?_
  refine lv_iconst (v := Int32.ofInt 3) C.hx C.hb dX11_goesOn_9 rfl ?_
  refine w_ne (tgt := 65) C hf dX11_goesOn_10 (by decide) (fun hf => ?_) (fun hf => ?_)
  · exact j_X11_goesOn_65 C hn o_t hf hH (lv_sub hl [1, 0] rfl)
  · refine lv_aload_n C.hx C.hb dX11_goesOn_13 rfl (lv_at hl 1 rfl) ?_
    refine g_int C hH o_t (by decide) rfl FL_RX11_183 dX11_goesOn_14 ?_
    refine lv_bipush (v := Int32.ofInt 43) C.hx C.hb dX11_goesOn_17 (by decide) ?_
    refine w_eq (tgt := 49) C hf dX11_goesOn_19 (by decide) (fun hf => ?_) (fun hf => ?_)
    · exact j_X11_goesOn_49 C hn o_t hf hH (lv_sub hl [1] rfl)
    · refine lv_aload_n C.hx C.hb dX11_goesOn_22 rfl (lv_at hl 1 rfl) ?_
      refine g_int C hH o_t (by decide) rfl FL_RX11_183 dX11_goesOn_23 ?_
      refine lv_bipush (v := Int32.ofInt 45) C.hx C.hb dX11_goesOn_26 (by decide) ?_
      refine w_eq (tgt := 49) C hf dX11_goesOn_28 (by decide) (fun hf => ?_) (fun hf => ?_)
      · exact j_X11_goesOn_49 C hn o_t hf hH (lv_sub hl [1] rfl)
      · refine lv_aload_n C.hx C.hb dX11_goesOn_31 rfl (lv_at hl 1 rfl) ?_
        refine g_int C hH o_t (by decide) rfl FL_RX11_183 dX11_goesOn_32 ?_
        refine lv_bipush (v := Int32.ofInt 42) C.hx C.hb dX11_goesOn_35 (by decide) ?_
        refine w_eq (tgt := 49) C hf dX11_goesOn_37 (by decide) (fun hf => ?_) (fun hf => ?_)
        · exact j_X11_goesOn_49 C hn o_t hf hH (lv_sub hl [1] rfl)
        · refine lv_aload_n C.hx C.hb dX11_goesOn_40 rfl (lv_at hl 1 rfl) ?_
          refine g_int C hH o_t (by decide) rfl FL_RX11_183 dX11_goesOn_41 ?_
          refine lv_bipush (v := Int32.ofInt 47) C.hx C.hb dX11_goesOn_44 (by decide) ?_
          refine w_ne (tgt := 65) C hf dX11_goesOn_46 (by decide) (fun hf => ?_) (fun hf => ?_)
          · exact j_X11_goesOn_65 C hn o_t hf hH (lv_sub hl [1, 0] rfl)
          · exact j_X11_goesOn_49 C hn o_t hf hH (lv_sub hl [1] rfl)
-- HeavierByHandModel.asksOn
def fn_X11_asksOn_J37 (t : Nat) (M : Mem) (u0_37 : Int) : Option Mem :=
  cv (fn_X11_waitsFor t u0_37 M) fun M37 => st M37 t 27 0 fun M42 => some M42
def fn_X11_asksOn_J18 (t : Nat) (M : Mem) : Option Mem :=
  cu (fn_X11_isWord t 6 M) fun x22 => cEq x22 0 (fn_X11_asksOn_J37 t M 406) (fn_X11_asksOn_J37 t M 407)
def fn_X11_asksOn_J72 (t : Nat) (M : Mem) : Option Mem :=
  cv (fn_X11_errs t 1 M) fun M74 => some M74
def fn_X11_asksOn (t : Nat) (M : Mem) : Option Mem :=
  cu (fn_X11_isWord t 6 M) fun x3 => cEq x3 0 (cu (fn_X11_isWord t 7 M) fun x12 => cEq x12 0 (cu (fn_X11_top t M) fun x49 => cEq x49 2 (cu (fn_X11_isSign t 59 M) fun x59 => cEq x59 0 (fn_X11_asksOn_J72 t M) (cv (fn_X11_clauseIsOver t M) fun M66 => some M66)) (fn_X11_asksOn_J72 t M)) (fn_X11_asksOn_J18 t M)) (fn_X11_asksOn_J18 t M)
set_option maxRecDepth 100000 in
set_option maxHeartbeats 4000000 in
theorem j_X11_asksOn_37 {p : Program} {l : Launch} {e : Env} {s : State} {m : MethodId} {args : Array Value} {below : List Frame} {meth : Method} {c : Code} {E : EE} {n : Nat} {o : Mem} {t : Nat} {M : Mem} {u0_37 : Int} {H : Heap} {locs : List Loc} {ls : Array Slot} (C : Cx E p s m args meth c cX11_asksOn 1 RX11 none n "asksOn") (hn : nfull n) (o_t : ob n t 11) (hf : fn_X11_asksOn_J37 t M u0_37 = some o) (hH : ST E s n (zf n) M H locs) (hl : lv_has ls 1 [(0, .ref (eb E + t))]) : W p l e { frames := 4, cells := 0, slots := 0, locals := 87 } s m args below meth c H locs 0 0 (MQ below (QC E none n (zf n) o) args s 0 0 (fr E)) (F0 m 37 ls [i3 u0_37, .ref (eb E + t)]) := by
  unfold fn_X11_asksOn_J37 at hf
  obtain ⟨M37, hc9, hf⟩ := cv_of hf
  refine r_callVv (rest := []) C hH hl o_t (by decide) rfl (m_X11_waitsFor hn o_t hc9) ML_RX11_244 MF_X11_waitsFor MI_X11_waitsFor rfl rfl (Nat.le_of_ble_eq_true rfl) ⟨Nat.le_of_ble_eq_true rfl, Nat.le_of_ble_eq_true rfl⟩ ⟨Nat.le_refl _, Nat.le_refl _⟩ dX11_asksOn_37 (fun H locs hH => ?_)
  refine lv_aload_n C.hx C.hb dX11_asksOn_40 rfl (lv_at hl 0 rfl) ?_
  refine lv_iconst (v := Int32.ofInt 0) C.hx C.hb dX11_asksOn_41 rfl ?_
  refine r_put C hH o_t (by decide) rfl FL_RX11_231 FW_11_27 hf dX11_asksOn_42 (fun M42 H locs hf hH => ?_)
  refine lv_goto (tgt := 77) C.hx C.hb dX11_asksOn_45 (by decide) ?_
  cases hf
  exact w_vret C hH dX11_asksOn_77
set_option maxRecDepth 100000 in
set_option maxHeartbeats 4000000 in
theorem j_X11_asksOn_18 {p : Program} {l : Launch} {e : Env} {s : State} {m : MethodId} {args : Array Value} {below : List Frame} {meth : Method} {c : Code} {E : EE} {n : Nat} {o : Mem} {t : Nat} {M : Mem} {H : Heap} {locs : List Loc} {ls : Array Slot} (C : Cx E p s m args meth c cX11_asksOn 1 RX11 none n "asksOn") (hn : nfull n) (o_t : ob n t 11) (hf : fn_X11_asksOn_J18 t M = some o) (hH : ST E s n (zf n) M H locs) (hl : lv_has ls 1 [(0, .ref (eb E + t))]) : W p l e { frames := 4, cells := 0, slots := 0, locals := 87 } s m args below meth c H locs 0 0 (MQ below (QC E none n (zf n) o) args s 0 0 (fr E)) (F0 m 18 ls []) := by
  unfold fn_X11_asksOn_J18 at hf
  refine lv_aload_n C.hx C.hb dX11_asksOn_18 rfl (lv_at hl 0 rfl) ?_
  refine lv_aload_n C.hx C.hb dX11_asksOn_19 rfl (lv_at hl 0 rfl) ?_
  refine lv_bipush (v := Int32.ofInt 6) C.hx C.hb dX11_asksOn_20 (by decide) ?_
  obtain ⟨x22, hc9, hf⟩ := cu_of hf
  refine r_callVi (rest := [.ref (eb E + t)]) C hH hl o_t (by decide) rfl (m_X11_isWord hn o_t hc9) ML_RX11_225 MF_X11_isWord MI_X11_isWord rfl rfl (Nat.le_of_ble_eq_true rfl) ⟨Nat.le_of_ble_eq_true rfl, Nat.le_of_ble_eq_true rfl⟩ ⟨Nat.le_refl _, Nat.le_refl _⟩ dX11_asksOn_22 (fun H locs hH => ?_)
  refine w_eq0 (tgt := 34) C hf dX11_asksOn_25 (by decide) (fun hf => ?_) (fun hf => ?_)
  · refine lv_sipush (v := Int32.ofInt 406) C.hx C.hb dX11_asksOn_34 (by decide) ?_
    exact j_X11_asksOn_37 C hn o_t hf hH (lv_sub hl [0] rfl)
  · refine lv_sipush (v := Int32.ofInt 407) C.hx C.hb dX11_asksOn_28 (by decide) ?_
    refine lv_goto (tgt := 37) C.hx C.hb dX11_asksOn_31 (by decide) ?_
    exact j_X11_asksOn_37 C hn o_t hf hH (lv_sub hl [0] rfl)
set_option maxRecDepth 100000 in
set_option maxHeartbeats 4000000 in
theorem j_X11_asksOn_72 {p : Program} {l : Launch} {e : Env} {s : State} {m : MethodId} {args : Array Value} {below : List Frame} {meth : Method} {c : Code} {E : EE} {n : Nat} {o : Mem} {t : Nat} {M : Mem} {H : Heap} {locs : List Loc} {ls : Array Slot} (C : Cx E p s m args meth c cX11_asksOn 1 RX11 none n "asksOn") (hn : nfull n) (o_t : ob n t 11) (hf : fn_X11_asksOn_J72 t M = some o) (hH : ST E s n (zf n) M H locs) (hl : lv_has ls 1 [(0, .ref (eb E + t))]) : W p l e { frames := 4, cells := 0, slots := 0, locals := 87 } s m args below meth c H locs 0 0 (MQ below (QC E none n (zf n) o) args s 0 0 (fr E)) (F0 m 72 ls []) := by
  unfold fn_X11_asksOn_J72 at hf
  refine lv_aload_n C.hx C.hb dX11_asksOn_72 rfl (lv_at hl 0 rfl) ?_
  refine lv_iconst (v := Int32.ofInt 1) C.hx C.hb dX11_asksOn_73 rfl ?_
  obtain ⟨M74, hc9, hf⟩ := cv_of hf
  refine r_callVv (rest := []) C hH hl o_t (by decide) rfl (m_X11_errs hn o_t hc9) ML_RX11_202 MF_X11_errs MI_X11_errs rfl rfl (Nat.le_of_ble_eq_true rfl) ⟨Nat.le_of_ble_eq_true rfl, Nat.le_of_ble_eq_true rfl⟩ ⟨Nat.le_refl _, Nat.le_refl _⟩ dX11_asksOn_74 (fun H locs hH => ?_)
  cases hf
  exact w_vret C hH dX11_asksOn_77
set_option maxRecDepth 100000 in
set_option maxHeartbeats 4000000 in
theorem m_X11_asksOn {E : EE} {l : Launch} {n : Nat} {t : Nat} {M : Mem} {o : Mem} (hn : nfull n) (o_t : ob n t 11) (hf : fn_X11_asksOn t M = some o) : CT E l yX11_asksOn cX11_asksOn 1 none 4 87 0 0 [.ref (eb E + t)] n (zf n) M none n (zf n) o := by
  refine CT_of PN_RX11 (Nat.le_of_ble_eq_true rfl) ?_
  intro p e s m args below meth c C hH ls hl
  replace C : Cx E p s m args meth c cX11_asksOn 1 RX11 none n "asksOn" := C
  have hl : lv_has ls 1 [(0, .ref (eb E + t))] := hl
  unfold fn_X11_asksOn at hf
  refine lv_aload_n C.hx C.hb dX11_asksOn_0 rfl (lv_at hl 0 rfl) ?_
  refine lv_bipush (v := Int32.ofInt 6) C.hx C.hb dX11_asksOn_1 (by decide) ?_
  obtain ⟨x3, hc9, hf⟩ := cu_of hf
  refine r_callVi (rest := []) C hH hl o_t (by decide) rfl (m_X11_isWord hn o_t hc9) ML_RX11_225 MF_X11_isWord MI_X11_isWord rfl rfl (Nat.le_of_ble_eq_true rfl) ⟨Nat.le_of_ble_eq_true rfl, Nat.le_of_ble_eq_true rfl⟩ ⟨Nat.le_refl _, Nat.le_refl _⟩ dX11_asksOn_3 (fun H locs hH => ?_)
  refine w_ne0 (tgt := 18) C hf dX11_asksOn_6 (by decide) (fun hf => ?_) (fun hf => ?_)
  · exact j_X11_asksOn_18 C hn o_t hf hH (lv_sub hl [0] rfl)
  · refine lv_aload_n C.hx C.hb dX11_asksOn_9 rfl (lv_at hl 0 rfl) ?_
    refine lv_bipush (v := Int32.ofInt 7) C.hx C.hb dX11_asksOn_10 (by decide) ?_
    obtain ⟨x12, hc9, hf⟩ := cu_of hf
    refine r_callVi (rest := []) C hH hl o_t (by decide) rfl (m_X11_isWord hn o_t hc9) ML_RX11_225 MF_X11_isWord MI_X11_isWord rfl rfl (Nat.le_of_ble_eq_true rfl) ⟨Nat.le_of_ble_eq_true rfl, Nat.le_of_ble_eq_true rfl⟩ ⟨Nat.le_refl _, Nat.le_refl _⟩ dX11_asksOn_12 (fun H locs hH => ?_)
    refine w_eq0 (tgt := 48) C hf dX11_asksOn_15 (by decide) (fun hf => ?_) (fun hf => ?_)
    · refine lv_aload_n C.hx C.hb dX11_asksOn_48 rfl (lv_at hl 0 rfl) ?_
      obtain ⟨x49, hc9, hf⟩ := cu_of hf
      refine r_callVi (rest := []) C hH hl o_t (by decide) rfl (m_X11_top hn o_t hc9) ML_RX11_240 MF_X11_top MI_X11_top rfl rfl (Nat.le_of_ble_eq_true rfl) ⟨Nat.le_of_ble_eq_true rfl, Nat.le_of_ble_eq_true rfl⟩ ⟨Nat.le_refl _, Nat.le_refl _⟩ dX11_asksOn_49 (fun H locs hH => ?_)
      refine lv_iconst (v := Int32.ofInt 2) C.hx C.hb dX11_asksOn_52 rfl ?_
      refine w_ne (tgt := 72) C hf dX11_asksOn_53 (by decide) (fun hf => ?_) (fun hf => ?_)
      · exact j_X11_asksOn_72 C hn o_t hf hH (lv_sub hl [0] rfl)
      · refine lv_aload_n C.hx C.hb dX11_asksOn_56 rfl (lv_at hl 0 rfl) ?_
        refine lv_bipush (v := Int32.ofInt 59) C.hx C.hb dX11_asksOn_57 (by decide) ?_
        obtain ⟨x59, hc9, hf⟩ := cu_of hf
        refine r_callVi (rest := []) C hH hl o_t (by decide) rfl (m_X11_isSign hn o_t hc9) ML_RX11_237 MF_X11_isSign MI_X11_isSign rfl rfl (Nat.le_of_ble_eq_true rfl) ⟨Nat.le_of_ble_eq_true rfl, Nat.le_of_ble_eq_true rfl⟩ ⟨Nat.le_refl _, Nat.le_refl _⟩ dX11_asksOn_59 (fun H locs hH => ?_)
        refine w_eq0 (tgt := 72) C hf dX11_asksOn_62 (by decide) (fun hf => ?_) (fun hf => ?_)
        · exact j_X11_asksOn_72 C hn o_t hf hH (lv_sub hl [0] rfl)
        · refine lv_aload_n C.hx C.hb dX11_asksOn_65 rfl (lv_at hl 0 rfl) ?_
          obtain ⟨M66, hc9, hf⟩ := cv_of hf
          refine r_callVv (rest := []) C hH hl o_t (by decide) rfl (m_X11_clauseIsOver hn o_t hc9) ML_RX11_253 MF_X11_clauseIsOver MI_X11_clauseIsOver rfl rfl (Nat.le_of_ble_eq_true rfl) ⟨Nat.le_of_ble_eq_true rfl, Nat.le_of_ble_eq_true rfl⟩ ⟨Nat.le_refl _, Nat.le_refl _⟩ dX11_asksOn_66 (fun H locs hH => ?_)
          refine lv_goto (tgt := 77) C.hx C.hb dX11_asksOn_69 (by decide) ?_
          cases hf
          exact w_vret C hH dX11_asksOn_77
    · exact j_X11_asksOn_18 C hn o_t hf hH (lv_sub hl [0] rfl)
-- HeavierByHandModel.number
def fn_X11_number_J15 (t : Nat) (a1 : Int) (M : Mem) : Option (Int × Mem) :=
  cv (fn_X11_errs t 1 M) fun M17 => some (a1, M17)
def fn_X11_number (t : Nat) (a1 : Int) (a2 : Int) (M : Mem) : Option (Int × Mem) :=
  cLt 0 (M t 18) (fn_X11_number_J15 t a1 M) (cEq (M t 16) 2 (cu (fn_X11_in (M t 17) a1 a2 M) fun x28 => cEq x28 0 (cv (fn_X11_errs t 2 M) fun M36 => some (a1, M36)) (nm ((M t 17)) fun v3_45 => cv (fn_X11_next t M) fun M47 => some (v3_45, M47))) (fn_X11_number_J15 t a1 M))
set_option maxRecDepth 100000 in
set_option maxHeartbeats 4000000 in
theorem j_X11_number_15 {p : Program} {l : Launch} {e : Env} {s : State} {m : MethodId} {args : Array Value} {below : List Frame} {meth : Method} {c : Code} {E : EE} {n : Nat} {o : (Int × Mem)} {t : Nat} {a1 : Int} {M : Mem} {H : Heap} {locs : List Loc} {ls : Array Slot} (C : Cx E p s m args meth c cX11_number 4 RX11 (some .int) n "number") (hn : nfull n) (o_t : ob n t 11) (hf : fn_X11_number_J15 t a1 M = some o) (hH : ST E s n (zf n) M H locs) (hl : lv_has ls 4 [(0, .ref (eb E + t)), (1, i3 a1)]) : W p l e { frames := 3, cells := 0, slots := 0, locals := 66 } s m args below meth c H locs 0 0 (MQ below (QC E (some (i3 o.1)) n (zf n) o.2) args s 0 0 (fr E)) (F0 m 15 ls []) := by
  unfold fn_X11_number_J15 at hf
  refine lv_aload_n C.hx C.hb dX11_number_15 rfl (lv_at hl 0 rfl) ?_
  refine lv_iconst (v := Int32.ofInt 1) C.hx C.hb dX11_number_16 rfl ?_
  obtain ⟨M17, hc9, hf⟩ := cv_of hf
  refine r_callVv (rest := []) C hH hl o_t (by decide) rfl (m_X11_errs hn o_t hc9) ML_RX11_202 MF_X11_errs MI_X11_errs rfl rfl (Nat.le_of_ble_eq_true rfl) ⟨Nat.le_of_ble_eq_true rfl, Nat.le_of_ble_eq_true rfl⟩ ⟨Nat.le_refl _, Nat.le_refl _⟩ dX11_number_17 (fun H locs hH => ?_)
  refine lv_iload_n C.hx C.hb dX11_number_20 rfl (lv_at hl 1 rfl) ?_
  cases hf
  exact w_iret C hH dX11_number_21
set_option maxRecDepth 100000 in
set_option maxHeartbeats 4000000 in
theorem m_X11_number {E : EE} {l : Launch} {n : Nat} {t : Nat} {a1 : Int} {a2 : Int} {M : Mem} {o : (Int × Mem)} (hn : nfull n) (o_t : ob n t 11) (hf : fn_X11_number t a1 a2 M = some o) : CT E l yX11_number cX11_number 4 (some .int) 3 66 0 0 [.ref (eb E + t), i3 a1, i3 a2] n (zf n) M (some (i3 o.1)) n (zf n) o.2 := by
  refine CT_of PN_RX11 (Nat.le_of_ble_eq_true rfl) ?_
  intro p e s m args below meth c C hH ls hl
  replace C : Cx E p s m args meth c cX11_number 4 RX11 (some .int) n "number" := C
  have hl : lv_has ls 4 [(0, .ref (eb E + t)), (1, i3 a1), (2, i3 a2)] := hl
  unfold fn_X11_number at hf
  refine lv_aload_n C.hx C.hb dX11_number_0 rfl (lv_at hl 0 rfl) ?_
  refine g_int C hH o_t (by decide) rfl FL_RX11_187 dX11_number_1 ?_
  refine w_gt0 (tgt := 15) C hf dX11_number_4 (by decide) (fun hf => ?_) (fun hf => ?_)
  · exact j_X11_number_15 C hn o_t hf hH (lv_sub hl [0, 1] rfl)
  · refine lv_aload_n C.hx C.hb dX11_number_7 rfl (lv_at hl 0 rfl) ?_
    refine g_int C hH o_t (by decide) rfl FL_RX11_171 dX11_number_8 ?_
    refine lv_iconst (v := Int32.ofInt 2) C.hx C.hb dX11_number_11 rfl ?_
    refine w_eq (tgt := 22) C hf dX11_number_12 (by decide) (fun hf => ?_) (fun hf => ?_)
    · refine lv_aload_n C.hx C.hb dX11_number_22 rfl (lv_at hl 0 rfl) ?_
      refine g_int C hH o_t (by decide) rfl FL_RX11_183 dX11_number_23 ?_
      refine lv_iload_n C.hx C.hb dX11_number_26 rfl (lv_at hl 1 rfl) ?_
      refine lv_iload_n C.hx C.hb dX11_number_27 rfl (lv_at hl 2 rfl) ?_
      obtain ⟨x28, hc9, hf⟩ := cu_of hf
      refine r_callSi (rest := []) C hH hl (m_X11_in hn hc9) ML_RX11_115 MF_X11_in MS_X11_in rfl rfl (Nat.le_of_ble_eq_true rfl) ⟨Nat.le_of_ble_eq_true rfl, Nat.le_of_ble_eq_true rfl⟩ ⟨Nat.le_refl _, Nat.le_refl _⟩ dX11_number_28 (fun H locs hH => ?_)
      refine w_ne0 (tgt := 41) C hf dX11_number_31 (by decide) (fun hf => ?_) (fun hf => ?_)
      · refine lv_aload_n C.hx C.hb dX11_number_41 rfl (lv_at hl 0 rfl) ?_
        refine g_int C hH o_t (by decide) rfl FL_RX11_183 dX11_number_42 ?_
        refine r_nm hf (fun v3_45 hf => ?_)
        refine lv_istore_n (lv' := [(3, i3 v3_45), (0, .ref (eb E + t)), (1, i3 a1), (2, i3 a2)]) C.hx C.hb dX11_number_45 rfl hl (by decide) rfl (fun ls hl => ?_)
        refine lv_aload_n C.hx C.hb dX11_number_46 rfl (lv_at hl 1 rfl) ?_
        obtain ⟨M47, hc9, hf⟩ := cv_of hf
        refine r_callVv (rest := []) C hH hl o_t (by decide) rfl (m_X11_next hn o_t hc9) ML_RX11_208 MF_X11_next MI_X11_next rfl rfl (Nat.le_of_ble_eq_true rfl) ⟨Nat.le_of_ble_eq_true rfl, Nat.le_of_ble_eq_true rfl⟩ ⟨Nat.le_refl _, Nat.le_refl _⟩ dX11_number_47 (fun H locs hH => ?_)
        refine lv_iload_n C.hx C.hb dX11_number_50 rfl (lv_at hl 0 rfl) ?_
        cases hf
        exact w_iret C hH dX11_number_51
      · refine lv_aload_n C.hx C.hb dX11_number_34 rfl (lv_at hl 0 rfl) ?_
        refine lv_iconst (v := Int32.ofInt 2) C.hx C.hb dX11_number_35 rfl ?_
        obtain ⟨M36, hc9, hf⟩ := cv_of hf
        refine r_callVv (rest := []) C hH hl o_t (by decide) rfl (m_X11_errs hn o_t hc9) ML_RX11_202 MF_X11_errs MI_X11_errs rfl rfl (Nat.le_of_ble_eq_true rfl) ⟨Nat.le_of_ble_eq_true rfl, Nat.le_of_ble_eq_true rfl⟩ ⟨Nat.le_refl _, Nat.le_refl _⟩ dX11_number_36 (fun H locs hH => ?_)
        refine lv_iload_n C.hx C.hb dX11_number_39 rfl (lv_at hl 1 rfl) ?_
        cases hf
        exact w_iret C hH dX11_number_40
    · exact j_X11_number_15 C hn o_t hf hH (lv_sub hl [0, 1] rfl)
-- HeavierByHandModel.wasTold
def fn_X11_wasTold_J31 (v3_4 : Int) (rec4 : Int → Int → Option Int) (u0_31 : Int) : Option Int :=
  nm (v3_4 + 1) fun v3_32 => rec4 v3_32 u0_31
def fn_X11_wasTold_J26 (v3_4 : Int) (rec4 : Int → Int → Option Int) : Option Int :=
  fn_X11_wasTold_J31 v3_4 rec4 1
def fn_X11_wasTold_L4 (t : Nat) (a1 : Int) (M : Mem) (rec4 : Int → Int → Option Int) (v3_4 : Int) (v2_4 : Int) : Option Int :=
  cLt v3_4 (M t 28) (cEq v2_4 0 (rd M (t + 15) 20 v3_4 fun x21 => cEq x21 a1 (fn_X11_wasTold_J26 v3_4 rec4) (fn_X11_wasTold_J31 v3_4 rec4 0)) (fn_X11_wasTold_J26 v3_4 rec4)) (ck (v2_4 = 0 ∨ v2_4 = 1) (some v2_4))
def fn_X11_wasTold (t : Nat) (a1 : Int) (M : Mem) : Option Int :=
  lq2 (fn_X11_wasTold_L4 t a1 M) FU 0 0
set_option maxRecDepth 100000 in
set_option maxHeartbeats 4000000 in
theorem j_X11_wasTold_31 {p : Program} {l : Launch} {e : Env} {s : State} {m : MethodId} {args : Array Value} {below : List Frame} {meth : Method} {c : Code} {E : EE} {n : Nat} {o : Int} {t : Nat} {a1 : Int} {M : Mem} {v3_4 : Int} {rec4 : Int → Int → Option Int} {u0_31 : Int} {H : Heap} {locs : List Loc} {ls : Array Slot} (C : Cx E p s m args meth c cX11_wasTold 4 RX11 (some .boolean) n "wasTold") (hn : nfull n) (o_t : ob n t 11) (h_rec4 : ∀ {v3_4 : Int} {v2_4 : Int} {H : Heap} {locs : List Loc} {ls : Array Slot}, rec4 v3_4 v2_4 = some o → ST E s n (zf n) M H locs → lv_has ls 4 [(0, .ref (eb E + t)), (1, i3 a1), (2, i3 v2_4), (3, i3 v3_4)] → W p l e { frames := 0, cells := 0, slots := 0, locals := 0 } s m args below meth c H locs 0 0 (MQ below (QC E (some (i3 o)) n (zf n) M) args s 0 0 (fr E)) (F0 m 4 ls [])) (hf : fn_X11_wasTold_J31 v3_4 rec4 u0_31 = some o) (hH : ST E s n (zf n) M H locs) (hl : lv_has ls 4 [(0, .ref (eb E + t)), (1, i3 a1), (3, i3 v3_4)]) : W p l e { frames := 0, cells := 0, slots := 0, locals := 0 } s m args below meth c H locs 0 0 (MQ below (QC E (some (i3 o)) n (zf n) M) args s 0 0 (fr E)) (F0 m 31 ls [i3 u0_31]) := by
  unfold fn_X11_wasTold_J31 at hf
  refine lv_istore_n (lv' := [(2, i3 u0_31), (0, .ref (eb E + t)), (1, i3 a1), (3, i3 v3_4)]) C.hx C.hb dX11_wasTold_31 rfl hl (by decide) rfl (fun ls hl => ?_)
  refine r_iinc (k := 3) (lv' := fun v => [(3, i3 v), (2, i3 u0_31), (0, .ref (eb E + t)), (1, i3 a1)]) C hf dX11_wasTold_32 hl rfl (by decide) (fun _ => rfl) (fun v3_32 ls hf hl => ?_)
  refine lv_goto (tgt := 4) C.hx C.hb dX11_wasTold_35 (by decide) ?_
  exact h_rec4 hf hH (lv_sub hl [2, 3, 1, 0] rfl)
set_option maxRecDepth 100000 in
set_option maxHeartbeats 4000000 in
theorem j_X11_wasTold_26 {p : Program} {l : Launch} {e : Env} {s : State} {m : MethodId} {args : Array Value} {below : List Frame} {meth : Method} {c : Code} {E : EE} {n : Nat} {o : Int} {t : Nat} {a1 : Int} {M : Mem} {v3_4 : Int} {rec4 : Int → Int → Option Int} {H : Heap} {locs : List Loc} {ls : Array Slot} (C : Cx E p s m args meth c cX11_wasTold 4 RX11 (some .boolean) n "wasTold") (hn : nfull n) (o_t : ob n t 11) (h_rec4 : ∀ {v3_4 : Int} {v2_4 : Int} {H : Heap} {locs : List Loc} {ls : Array Slot}, rec4 v3_4 v2_4 = some o → ST E s n (zf n) M H locs → lv_has ls 4 [(0, .ref (eb E + t)), (1, i3 a1), (2, i3 v2_4), (3, i3 v3_4)] → W p l e { frames := 0, cells := 0, slots := 0, locals := 0 } s m args below meth c H locs 0 0 (MQ below (QC E (some (i3 o)) n (zf n) M) args s 0 0 (fr E)) (F0 m 4 ls [])) (hf : fn_X11_wasTold_J26 v3_4 rec4 = some o) (hH : ST E s n (zf n) M H locs) (hl : lv_has ls 4 [(0, .ref (eb E + t)), (1, i3 a1), (3, i3 v3_4)]) : W p l e { frames := 0, cells := 0, slots := 0, locals := 0 } s m args below meth c H locs 0 0 (MQ below (QC E (some (i3 o)) n (zf n) M) args s 0 0 (fr E)) (F0 m 26 ls []) := by
  unfold fn_X11_wasTold_J26 at hf
  refine lv_iconst (v := Int32.ofInt 1) C.hx C.hb dX11_wasTold_26 rfl ?_
  refine lv_goto (tgt := 31) C.hx C.hb dX11_wasTold_27 (by decide) ?_
  exact j_X11_wasTold_31 C hn o_t h_rec4 hf hH (lv_sub hl [0, 1, 2] rfl)
set_option maxRecDepth 100000 in
set_option maxHeartbeats 4000000 in
theorem l_X11_wasTold_4 {p : Program} {l : Launch} {e : Env} {s : State} {m : MethodId} {args : Array Value} {below : List Frame} {meth : Method} {c : Code} {E : EE} {n : Nat} {o : Int} {t : Nat} {a1 : Int} {M : Mem} (C : Cx E p s m args meth c cX11_wasTold 4 RX11 (some .boolean) n "wasTold") (hn : nfull n) (o_t : ob n t 11) : ∀ (k : Nat) (v3_4 : Int) (v2_4 : Int) (H : Heap) (locs : List Loc) (ls : Array Slot), lq2 (fn_X11_wasTold_L4 t a1 M) k v3_4 v2_4 = some o → ST E s n (zf n) M H locs → lv_has ls 4 [(0, .ref (eb E + t)), (1, i3 a1), (2, i3 v2_4), (3, i3 v3_4)] → W p l e { frames := 0, cells := 0, slots := 0, locals := 0 } s m args below meth c H locs 0 0 (MQ below (QC E (some (i3 o)) n (zf n) M) args s 0 0 (fr E)) (F0 m 4 ls []) := by
  intro k
  induction k with
  | zero => intro v3_4 v2_4 H locs ls hf; cases hf
  | succ k ih =>
    intro v3_4 v2_4 H locs ls hf hH hl
    have h_rec4 : ∀ {v3_4 : Int} {v2_4 : Int} {H : Heap} {locs : List Loc} {ls : Array Slot}, lq2 (fn_X11_wasTold_L4 t a1 M) k v3_4 v2_4 = some o → ST E s n (zf n) M H locs → lv_has ls 4 [(0, .ref (eb E + t)), (1, i3 a1), (2, i3 v2_4), (3, i3 v3_4)] → W p l e { frames := 0, cells := 0, slots := 0, locals := 0 } s m args below meth c H locs 0 0 (MQ below (QC E (some (i3 o)) n (zf n) M) args s 0 0 (fr E)) (F0 m 4 ls []) := fun {v3_4} {v2_4} {H} {locs} {ls} a b c => ih v3_4 v2_4 H locs ls a b c
    replace hf : fn_X11_wasTold_L4 t a1 M (lq2 (fn_X11_wasTold_L4 t a1 M) k) v3_4 v2_4 = some o := hf
    generalize lq2 (fn_X11_wasTold_L4 t a1 M) k = rec4 at hf h_rec4
    unfold fn_X11_wasTold_L4 at hf
    refine lv_iload_n C.hx C.hb dX11_wasTold_4 rfl (lv_at hl 3 rfl) ?_
    refine lv_aload_n C.hx C.hb dX11_wasTold_5 rfl (lv_at hl 0 rfl) ?_
    refine g_int C hH o_t (by decide) rfl FL_RX11_256 dX11_wasTold_6 ?_
    refine w_ge (tgt := 38) C hf dX11_wasTold_9 (by decide) (fun hf => ?_) (fun hf => ?_)
    · refine lv_iload_n C.hx C.hb dX11_wasTold_38 rfl (lv_at hl 2 rfl) ?_
      obtain ⟨hB9, hf⟩ := ck_of hf
      cases hf
      exact w_zret C hH hB9 dX11_wasTold_39
    · refine lv_iload_n C.hx C.hb dX11_wasTold_12 rfl (lv_at hl 2 rfl) ?_
      refine w_ne0 (tgt := 26) C hf dX11_wasTold_13 (by decide) (fun hf => ?_) (fun hf => ?_)
      · exact j_X11_wasTold_26 C hn o_t h_rec4 hf hH (lv_sub hl [0, 1, 3] rfl)
      · refine lv_aload_n C.hx C.hb dX11_wasTold_16 rfl (lv_at hl 0 rfl) ?_
        refine g_ref (off := 15) C hH o_t (by decide) rfl rfl FL_RX11_60 dX11_wasTold_17 ?_
        refine lv_iload_n C.hx C.hb dX11_wasTold_20 rfl (lv_at hl 3 rfl) ?_
        refine r_iald C hH (ly (i := 30) (off := 15) (k := 12) hn o_t rfl rfl rfl) (lyn (i := 30) (off := 15) (N := 19) hn o_t rfl rfl rfl) hf dX11_wasTold_21 (fun x21 hf => ?_)
        refine lv_iload_n C.hx C.hb dX11_wasTold_22 rfl (lv_at hl 1 rfl) ?_
        refine w_ne (tgt := 30) C hf dX11_wasTold_23 (by decide) (fun hf => ?_) (fun hf => ?_)
        · refine lv_iconst (v := Int32.ofInt 0) C.hx C.hb dX11_wasTold_30 rfl ?_
          exact j_X11_wasTold_31 C hn o_t h_rec4 hf hH (lv_sub hl [0, 1, 3] rfl)
        · exact j_X11_wasTold_26 C hn o_t h_rec4 hf hH (lv_sub hl [0, 1, 3] rfl)
set_option maxRecDepth 100000 in
set_option maxHeartbeats 4000000 in
theorem m_X11_wasTold {E : EE} {l : Launch} {n : Nat} {t : Nat} {a1 : Int} {M : Mem} {o : Int} (hn : nfull n) (o_t : ob n t 11) (hf : fn_X11_wasTold t a1 M = some o) : CT E l yX11_wasTold cX11_wasTold 4 (some .boolean) 0 0 0 0 [.ref (eb E + t), i3 a1] n (zf n) M (some (i3 o)) n (zf n) M := by
  refine CT_of PN_RX11 (Nat.le_of_ble_eq_true rfl) ?_
  intro p e s m args below meth c C hH ls hl
  replace C : Cx E p s m args meth c cX11_wasTold 4 RX11 (some .boolean) n "wasTold" := C
  have hl : lv_has ls 4 [(0, .ref (eb E + t)), (1, i3 a1)] := hl
  unfold fn_X11_wasTold at hf
  refine lv_iconst (v := Int32.ofInt 0) C.hx C.hb dX11_wasTold_0 rfl ?_
  refine lv_istore_n (lv' := [(2, i3 0), (0, .ref (eb E + t)), (1, i3 a1)]) C.hx C.hb dX11_wasTold_1 rfl hl (by decide) rfl (fun ls hl => ?_)
  refine lv_iconst (v := Int32.ofInt 0) C.hx C.hb dX11_wasTold_2 rfl ?_
  refine lv_istore_n (lv' := [(3, i3 0), (2, i3 0), (0, .ref (eb E + t)), (1, i3 a1)]) C.hx C.hb dX11_wasTold_3 rfl hl (by decide) rfl (fun ls hl => ?_)
  exact l_X11_wasTold_4 C hn o_t FU _ _ _ _ _ hf hH (lv_sub hl [2, 3, 1, 0] rfl)
-- HeavierByHandModel.clause
def fn_X11_clause_J16 (t : Nat) (M : Mem) : Option Mem :=
  cv (fn_X11_errs t 1 M) fun M18 => some M18
def fn_X11_clause_J275 (t : Nat) (M275 : Mem) : Option Mem :=
  cEq (M275 t 18) 0 (cv (fn_X11_clauseIsOver t M275) fun M283 => some M283) (some M275)
def fn_X11_clause_J254 (t : Nat) (M254 : Mem) : Option Mem :=
  cEq (M254 t 18) 0 (cu (fn_X11_isSign t 59 M254) fun x264 => cEq x264 0 (cv (fn_X11_errs t 1 M254) fun M272 => fn_X11_clause_J275 t M272) (fn_X11_clause_J275 t M254)) (fn_X11_clause_J275 t M254)
def fn_X11_clause_J238 (t : Nat) (M238 : Mem) : Option Mem :=
  cl (fn_X11_number t 0 9 M238) fun x250 M250 => wr M250 (t + 18) 20 (M238 t 28) x250 fun M253 => fn_X11_clause_J254 t M253
def fn_X11_clause_J227 (t : Nat) (M227 : Mem) : Option Mem :=
  cEq (M227 t 18) 0 (cv (fn_X11_next t M227) fun M235 => fn_X11_clause_J238 t M235) (fn_X11_clause_J238 t M227)
def fn_X11_clause_J195 (t : Nat) (M126 : Mem) (u0_195 : Int) : Option Mem :=
  cl (fn_X11_number t 0 u0_195 M126) fun x195 M195 => wr M195 (t + 17) 20 (M126 t 28) x195 fun M198 => cEq (M198 t 29) 2 (cEq (M198 t 18) 0 (cu (fn_X11_isWord t 5 M198) fun x216 => cEq x216 0 (cv (fn_X11_errs t 1 M198) fun M224 => fn_X11_clause_J227 t M224) (fn_X11_clause_J227 t M198)) (fn_X11_clause_J227 t M198)) (fn_X11_clause_J254 t M198)
def fn_X11_clause_J166 (t : Nat) (M150 : Mem) (u0_166 : Int) : Option Mem :=
  st M150 t 27 u0_166 fun M166 => some M166
def fn_X11_clause_J150 (t : Nat) (M126 : Mem) (u0_150 : Int) : Option Mem :=
  cv (fn_X11_opensFrame t u0_150 M126) fun M150 => cEq (M150 t 29) 0 (fn_X11_clause_J166 t M150 0) (fn_X11_clause_J166 t M150 1)
def fn_X11_clause_J71 (t : Nat) (M71 : Mem) : Option Mem :=
  cLt 0 (M71 t 18) (some M71) (wr M71 (t + 15) 20 (M71 t 28) (M71 t 29) fun M91 => wr M91 (t + 16) 20 (M91 t 28) (M91 t 34) fun M104 => wr M104 (t + 17) 20 (M104 t 28) (-1) fun M114 => wr M114 (t + 18) 20 (M114 t 28) (-1) fun M124 => cv (fn_X11_next t M124) fun M126 => cLt 1 (M126 t 29) (cEq (M126 t 29) 4 (fn_X11_clause_J195 t M126 99) (fn_X11_clause_J195 t M126 19)) (cEq (M126 t 29) 0 (fn_X11_clause_J150 t M126 2) (fn_X11_clause_J150 t M126 1)))
def fn_X11_clause_J57 (t : Nat) (M27 : Mem) : Option Mem :=
  cEq (M27 t 28) 20 (cv (fn_X11_errs t 5 M27) fun M68 => fn_X11_clause_J71 t M68) (fn_X11_clause_J71 t M27)
def fn_X11_clause (t : Nat) (M : Mem) : Option Mem :=
  cEq (M t 16) 1 (cLt 4 (M t 17) (fn_X11_clause_J16 t M) (st M t 29 (M t 17) fun M27 => cLt 1 (M27 t 29) (fn_X11_clause_J57 t M27) (cu (fn_X11_wasTold t (M27 t 29) M27) fun x43 => cEq x43 0 (fn_X11_clause_J57 t M27) (cv (fn_X11_errs t 4 M27) fun M51 => fn_X11_clause_J71 t M51)))) (fn_X11_clause_J16 t M)
set_option maxRecDepth 100000 in
set_option maxHeartbeats 4000000 in
theorem j_X11_clause_16 {p : Program} {l : Launch} {e : Env} {s : State} {m : MethodId} {args : Array Value} {below : List Frame} {meth : Method} {c : Code} {E : EE} {n : Nat} {o : Mem} {t : Nat} {M : Mem} {H : Heap} {locs : List Loc} {ls : Array Slot} (C : Cx E p s m args meth c cX11_clause 1 RX11 none n "clause") (hn : nfull n) (o_t : ob n t 11) (hf : fn_X11_clause_J16 t M = some o) (hH : ST E s n (zf n) M H locs) (hl : lv_has ls 1 [(0, .ref (eb E + t))]) : W p l e { frames := 4, cells := 0, slots := 0, locals := 89 } s m args below meth c H locs 0 0 (MQ below (QC E none n (zf n) o) args s 0 0 (fr E)) (F0 m 16 ls []) := by
  unfold fn_X11_clause_J16 at hf
  refine lv_aload_n C.hx C.hb dX11_clause_16 rfl (lv_at hl 0 rfl) ?_
  refine lv_iconst (v := Int32.ofInt 1) C.hx C.hb dX11_clause_17 rfl ?_
  obtain ⟨M18, hc9, hf⟩ := cv_of hf
  refine r_callVv (rest := []) C hH hl o_t (by decide) rfl (m_X11_errs hn o_t hc9) ML_RX11_202 MF_X11_errs MI_X11_errs rfl rfl (Nat.le_of_ble_eq_true rfl) ⟨Nat.le_of_ble_eq_true rfl, Nat.le_of_ble_eq_true rfl⟩ ⟨Nat.le_refl _, Nat.le_refl _⟩ dX11_clause_18 (fun H locs hH => ?_)
  cases hf
  exact w_vret C hH dX11_clause_21
set_option maxRecDepth 100000 in
set_option maxHeartbeats 4000000 in
theorem j_X11_clause_275 {p : Program} {l : Launch} {e : Env} {s : State} {m : MethodId} {args : Array Value} {below : List Frame} {meth : Method} {c : Code} {E : EE} {n : Nat} {o : Mem} {t : Nat} {M275 : Mem} {H : Heap} {locs : List Loc} {ls : Array Slot} (C : Cx E p s m args meth c cX11_clause 1 RX11 none n "clause") (hn : nfull n) (o_t : ob n t 11) (hf : fn_X11_clause_J275 t M275 = some o) (hH : ST E s n (zf n) M275 H locs) (hl : lv_has ls 1 [(0, .ref (eb E + t))]) : W p l e { frames := 4, cells := 0, slots := 0, locals := 89 } s m args below meth c H locs 0 0 (MQ below (QC E none n (zf n) o) args s 0 0 (fr E)) (F0 m 275 ls []) := by
  unfold fn_X11_clause_J275 at hf
  refine lv_aload_n C.hx C.hb dX11_clause_275 rfl (lv_at hl 0 rfl) ?_
  refine g_int C hH o_t (by decide) rfl FL_RX11_187 dX11_clause_276 ?_
  refine w_ne0 (tgt := 286) C hf dX11_clause_279 (by decide) (fun hf => ?_) (fun hf => ?_)
  · cases hf
    exact w_vret C hH dX11_clause_286
  · refine lv_aload_n C.hx C.hb dX11_clause_282 rfl (lv_at hl 0 rfl) ?_
    obtain ⟨M283, hc9, hf⟩ := cv_of hf
    refine r_callVv (rest := []) C hH hl o_t (by decide) rfl (m_X11_clauseIsOver hn o_t hc9) ML_RX11_253 MF_X11_clauseIsOver MI_X11_clauseIsOver rfl rfl (Nat.le_of_ble_eq_true rfl) ⟨Nat.le_of_ble_eq_true rfl, Nat.le_of_ble_eq_true rfl⟩ ⟨Nat.le_refl _, Nat.le_refl _⟩ dX11_clause_283 (fun H locs hH => ?_)
    cases hf
    exact w_vret C hH dX11_clause_286
set_option maxRecDepth 100000 in
set_option maxHeartbeats 4000000 in
theorem j_X11_clause_254 {p : Program} {l : Launch} {e : Env} {s : State} {m : MethodId} {args : Array Value} {below : List Frame} {meth : Method} {c : Code} {E : EE} {n : Nat} {o : Mem} {t : Nat} {M254 : Mem} {H : Heap} {locs : List Loc} {ls : Array Slot} (C : Cx E p s m args meth c cX11_clause 1 RX11 none n "clause") (hn : nfull n) (o_t : ob n t 11) (hf : fn_X11_clause_J254 t M254 = some o) (hH : ST E s n (zf n) M254 H locs) (hl : lv_has ls 1 [(0, .ref (eb E + t))]) : W p l e { frames := 4, cells := 0, slots := 0, locals := 89 } s m args below meth c H locs 0 0 (MQ below (QC E none n (zf n) o) args s 0 0 (fr E)) (F0 m 254 ls []) := by
  unfold fn_X11_clause_J254 at hf
  refine lv_aload_n C.hx C.hb dX11_clause_254 rfl (lv_at hl 0 rfl) ?_
  refine g_int C hH o_t (by decide) rfl FL_RX11_187 dX11_clause_255 ?_
  refine w_ne0 (tgt := 275) C hf dX11_clause_258 (by decide) (fun hf => ?_) (fun hf => ?_)
  · exact j_X11_clause_275 C hn o_t hf hH (lv_sub hl [0] rfl)
  · refine lv_aload_n C.hx C.hb dX11_clause_261 rfl (lv_at hl 0 rfl) ?_
    refine lv_bipush (v := Int32.ofInt 59) C.hx C.hb dX11_clause_262 (by decide) ?_
    obtain ⟨x264, hc9, hf⟩ := cu_of hf
    refine r_callVi (rest := []) C hH hl o_t (by decide) rfl (m_X11_isSign hn o_t hc9) ML_RX11_237 MF_X11_isSign MI_X11_isSign rfl rfl (Nat.le_of_ble_eq_true rfl) ⟨Nat.le_of_ble_eq_true rfl, Nat.le_of_ble_eq_true rfl⟩ ⟨Nat.le_refl _, Nat.le_refl _⟩ dX11_clause_264 (fun H locs hH => ?_)
    refine w_ne0 (tgt := 275) C hf dX11_clause_267 (by decide) (fun hf => ?_) (fun hf => ?_)
    · exact j_X11_clause_275 C hn o_t hf hH (lv_sub hl [0] rfl)
    · refine lv_aload_n C.hx C.hb dX11_clause_270 rfl (lv_at hl 0 rfl) ?_
      refine lv_iconst (v := Int32.ofInt 1) C.hx C.hb dX11_clause_271 rfl ?_
      obtain ⟨M272, hc9, hf⟩ := cv_of hf
      refine r_callVv (rest := []) C hH hl o_t (by decide) rfl (m_X11_errs hn o_t hc9) ML_RX11_202 MF_X11_errs MI_X11_errs rfl rfl (Nat.le_of_ble_eq_true rfl) ⟨Nat.le_of_ble_eq_true rfl, Nat.le_of_ble_eq_true rfl⟩ ⟨Nat.le_refl _, Nat.le_refl _⟩ dX11_clause_272 (fun H locs hH => ?_)
      exact j_X11_clause_275 C hn o_t hf hH (lv_sub hl [0] rfl)
set_option maxRecDepth 100000 in
set_option maxHeartbeats 4000000 in
theorem j_X11_clause_238 {p : Program} {l : Launch} {e : Env} {s : State} {m : MethodId} {args : Array Value} {below : List Frame} {meth : Method} {c : Code} {E : EE} {n : Nat} {o : Mem} {t : Nat} {M238 : Mem} {H : Heap} {locs : List Loc} {ls : Array Slot} (C : Cx E p s m args meth c cX11_clause 1 RX11 none n "clause") (hn : nfull n) (o_t : ob n t 11) (hf : fn_X11_clause_J238 t M238 = some o) (hH : ST E s n (zf n) M238 H locs) (hl : lv_has ls 1 [(0, .ref (eb E + t))]) : W p l e { frames := 4, cells := 0, slots := 0, locals := 89 } s m args below meth c H locs 0 0 (MQ below (QC E none n (zf n) o) args s 0 0 (fr E)) (F0 m 238 ls []) := by
  unfold fn_X11_clause_J238 at hf
  refine lv_aload_n C.hx C.hb dX11_clause_238 rfl (lv_at hl 0 rfl) ?_
  refine g_ref (off := 18) C hH o_t (by decide) rfl rfl FL_RX11_69 dX11_clause_239 ?_
  refine lv_aload_n C.hx C.hb dX11_clause_242 rfl (lv_at hl 0 rfl) ?_
  refine g_int C hH o_t (by decide) rfl FL_RX11_256 dX11_clause_243 ?_
  refine lv_aload_n C.hx C.hb dX11_clause_246 rfl (lv_at hl 0 rfl) ?_
  refine lv_iconst (v := Int32.ofInt 0) C.hx C.hb dX11_clause_247 rfl ?_
  refine lv_bipush (v := Int32.ofInt 9) C.hx C.hb dX11_clause_248 (by decide) ?_
  obtain ⟨x250, M250, hc9, hf⟩ := cl_of hf
  refine r_callVi (rest := [i3 (M238 t 28), .ref (eb E + (t + 18))]) C hH hl o_t (by decide) rfl (m_X11_number hn o_t hc9) ML_RX11_265 MF_X11_number MI_X11_number rfl rfl (Nat.le_of_ble_eq_true rfl) ⟨Nat.le_of_ble_eq_true rfl, Nat.le_of_ble_eq_true rfl⟩ ⟨Nat.le_refl _, Nat.le_refl _⟩ dX11_clause_250 (fun H locs hH => ?_)
  refine r_iast C hH (ly (i := 33) (off := 18) (k := 12) hn o_t rfl rfl rfl) (lyn (i := 33) (off := 18) (N := 19) hn o_t rfl rfl rfl) hf dX11_clause_253 (fun M253 H locs hf hH => ?_)
  exact j_X11_clause_254 C hn o_t hf hH (lv_sub hl [0] rfl)
set_option maxRecDepth 100000 in
set_option maxHeartbeats 4000000 in
theorem j_X11_clause_227 {p : Program} {l : Launch} {e : Env} {s : State} {m : MethodId} {args : Array Value} {below : List Frame} {meth : Method} {c : Code} {E : EE} {n : Nat} {o : Mem} {t : Nat} {M227 : Mem} {H : Heap} {locs : List Loc} {ls : Array Slot} (C : Cx E p s m args meth c cX11_clause 1 RX11 none n "clause") (hn : nfull n) (o_t : ob n t 11) (hf : fn_X11_clause_J227 t M227 = some o) (hH : ST E s n (zf n) M227 H locs) (hl : lv_has ls 1 [(0, .ref (eb E + t))]) : W p l e { frames := 4, cells := 0, slots := 0, locals := 89 } s m args below meth c H locs 0 0 (MQ below (QC E none n (zf n) o) args s 0 0 (fr E)) (F0 m 227 ls []) := by
  unfold fn_X11_clause_J227 at hf
  refine lv_aload_n C.hx C.hb dX11_clause_227 rfl (lv_at hl 0 rfl) ?_
  refine g_int C hH o_t (by decide) rfl FL_RX11_187 dX11_clause_228 ?_
  refine w_ne0 (tgt := 238) C hf dX11_clause_231 (by decide) (fun hf => ?_) (fun hf => ?_)
  · exact j_X11_clause_238 C hn o_t hf hH (lv_sub hl [0] rfl)
  · refine lv_aload_n C.hx C.hb dX11_clause_234 rfl (lv_at hl 0 rfl) ?_
    obtain ⟨M235, hc9, hf⟩ := cv_of hf
    refine r_callVv (rest := []) C hH hl o_t (by decide) rfl (m_X11_next hn o_t hc9) ML_RX11_208 MF_X11_next MI_X11_next rfl rfl (Nat.le_of_ble_eq_true rfl) ⟨Nat.le_of_ble_eq_true rfl, Nat.le_of_ble_eq_true rfl⟩ ⟨Nat.le_refl _, Nat.le_refl _⟩ dX11_clause_235 (fun H locs hH => ?_)
    exact j_X11_clause_238 C hn o_t hf hH (lv_sub hl [0] rfl)
set_option maxRecDepth 100000 in
set_option maxHeartbeats 4000000 in
theorem j_X11_clause_195 {p : Program} {l : Launch} {e : Env} {s : State} {m : MethodId} {args : Array Value} {below : List Frame} {meth : Method} {c : Code} {E : EE} {n : Nat} {o : Mem} {t : Nat} {M126 : Mem} {u0_195 : Int} {H : Heap} {locs : List Loc} {ls : Array Slot} (C : Cx E p s m args meth c cX11_clause 1 RX11 none n "clause") (hn : nfull n) (o_t : ob n t 11) (hf : fn_X11_clause_J195 t M126 u0_195 = some o) (hH : ST E s n (zf n) M126 H locs) (hl : lv_has ls 1 [(0, .ref (eb E + t))]) : W p l e { frames := 4, cells := 0, slots := 0, locals := 89 } s m args below meth c H locs 0 0 (MQ below (QC E none n (zf n) o) args s 0 0 (fr E)) (F0 m 195 ls [i3 u0_195, i3 0, .ref (eb E + t), i3 (M126 t 28), .ref (eb E + (t + 17))]) := by
  unfold fn_X11_clause_J195 at hf
  obtain ⟨x195, M195, hc9, hf⟩ := cl_of hf
  refine r_callVi (rest := [i3 (M126 t 28), .ref (eb E + (t + 17))]) C hH hl o_t (by decide) rfl (m_X11_number hn o_t hc9) ML_RX11_265 MF_X11_number MI_X11_number rfl rfl (Nat.le_of_ble_eq_true rfl) ⟨Nat.le_of_ble_eq_true rfl, Nat.le_of_ble_eq_true rfl⟩ ⟨Nat.le_refl _, Nat.le_refl _⟩ dX11_clause_195 (fun H locs hH => ?_)
  refine r_iast C hH (ly (i := 32) (off := 17) (k := 12) hn o_t rfl rfl rfl) (lyn (i := 32) (off := 17) (N := 19) hn o_t rfl rfl rfl) hf dX11_clause_198 (fun M198 H locs hf hH => ?_)
  refine lv_aload_n C.hx C.hb dX11_clause_199 rfl (lv_at hl 0 rfl) ?_
  refine g_int C hH o_t (by decide) rfl FL_RX11_259 dX11_clause_200 ?_
  refine lv_iconst (v := Int32.ofInt 2) C.hx C.hb dX11_clause_203 rfl ?_
  refine w_ne (tgt := 254) C hf dX11_clause_204 (by decide) (fun hf => ?_) (fun hf => ?_)
  · exact j_X11_clause_254 C hn o_t hf hH (lv_sub hl [0] rfl)
  · refine lv_aload_n C.hx C.hb dX11_clause_207 rfl (lv_at hl 0 rfl) ?_
    refine g_int C hH o_t (by decide) rfl FL_RX11_187 dX11_clause_208 ?_
    refine w_ne0 (tgt := 227) C hf dX11_clause_211 (by decide) (fun hf => ?_) (fun hf => ?_)
    · exact j_X11_clause_227 C hn o_t hf hH (lv_sub hl [0] rfl)
    · refine lv_aload_n C.hx C.hb dX11_clause_214 rfl (lv_at hl 0 rfl) ?_
      refine lv_iconst (v := Int32.ofInt 5) C.hx C.hb dX11_clause_215 rfl ?_
      obtain ⟨x216, hc9, hf⟩ := cu_of hf
      refine r_callVi (rest := []) C hH hl o_t (by decide) rfl (m_X11_isWord hn o_t hc9) ML_RX11_225 MF_X11_isWord MI_X11_isWord rfl rfl (Nat.le_of_ble_eq_true rfl) ⟨Nat.le_of_ble_eq_true rfl, Nat.le_of_ble_eq_true rfl⟩ ⟨Nat.le_refl _, Nat.le_refl _⟩ dX11_clause_216 (fun H locs hH => ?_)
      refine w_ne0 (tgt := 227) C hf dX11_clause_219 (by decide) (fun hf => ?_) (fun hf => ?_)
      · exact j_X11_clause_227 C hn o_t hf hH (lv_sub hl [0] rfl)
      · refine lv_aload_n C.hx C.hb dX11_clause_222 rfl (lv_at hl 0 rfl) ?_
        refine lv_iconst (v := Int32.ofInt 1) C.hx C.hb dX11_clause_223 rfl ?_
        obtain ⟨M224, hc9, hf⟩ := cv_of hf
        refine r_callVv (rest := []) C hH hl o_t (by decide) rfl (m_X11_errs hn o_t hc9) ML_RX11_202 MF_X11_errs MI_X11_errs rfl rfl (Nat.le_of_ble_eq_true rfl) ⟨Nat.le_of_ble_eq_true rfl, Nat.le_of_ble_eq_true rfl⟩ ⟨Nat.le_refl _, Nat.le_refl _⟩ dX11_clause_224 (fun H locs hH => ?_)
        exact j_X11_clause_227 C hn o_t hf hH (lv_sub hl [0] rfl)
set_option maxRecDepth 100000 in
set_option maxHeartbeats 4000000 in
theorem j_X11_clause_166 {p : Program} {l : Launch} {e : Env} {s : State} {m : MethodId} {args : Array Value} {below : List Frame} {meth : Method} {c : Code} {E : EE} {n : Nat} {o : Mem} {t : Nat} {M150 : Mem} {u0_166 : Int} {H : Heap} {locs : List Loc} {ls : Array Slot} (C : Cx E p s m args meth c cX11_clause 1 RX11 none n "clause") (hn : nfull n) (o_t : ob n t 11) (hf : fn_X11_clause_J166 t M150 u0_166 = some o) (hH : ST E s n (zf n) M150 H locs) (hl : lv_has ls 1 []) : W p l e { frames := 4, cells := 0, slots := 0, locals := 89 } s m args below meth c H locs 0 0 (MQ below (QC E none n (zf n) o) args s 0 0 (fr E)) (F0 m 166 ls [i3 u0_166, .ref (eb E + t)]) := by
  unfold fn_X11_clause_J166 at hf
  refine r_put C hH o_t (by decide) rfl FL_RX11_231 FW_11_27 hf dX11_clause_166 (fun M166 H locs hf hH => ?_)
  cases hf
  exact w_vret C hH dX11_clause_169
set_option maxRecDepth 100000 in
set_option maxHeartbeats 4000000 in
theorem j_X11_clause_150 {p : Program} {l : Launch} {e : Env} {s : State} {m : MethodId} {args : Array Value} {below : List Frame} {meth : Method} {c : Code} {E : EE} {n : Nat} {o : Mem} {t : Nat} {M126 : Mem} {u0_150 : Int} {H : Heap} {locs : List Loc} {ls : Array Slot} (C : Cx E p s m args meth c cX11_clause 1 RX11 none n "clause") (hn : nfull n) (o_t : ob n t 11) (hf : fn_X11_clause_J150 t M126 u0_150 = some o) (hH : ST E s n (zf n) M126 H locs) (hl : lv_has ls 1 [(0, .ref (eb E + t))]) : W p l e { frames := 4, cells := 0, slots := 0, locals := 89 } s m args below meth c H locs 0 0 (MQ below (QC E none n (zf n) o) args s 0 0 (fr E)) (F0 m 150 ls [i3 u0_150, .ref (eb E + t)]) := by
  unfold fn_X11_clause_J150 at hf
  obtain ⟨M150, hc9, hf⟩ := cv_of hf
  refine r_callVv (rest := []) C hH hl o_t (by decide) rfl (m_X11_opensFrame hn o_t hc9) ML_RX11_205 MF_X11_opensFrame MI_X11_opensFrame rfl rfl (Nat.le_of_ble_eq_true rfl) ⟨Nat.le_of_ble_eq_true rfl, Nat.le_of_ble_eq_true rfl⟩ ⟨Nat.le_refl _, Nat.le_refl _⟩ dX11_clause_150 (fun H locs hH => ?_)
  refine lv_aload_n C.hx C.hb dX11_clause_153 rfl (lv_at hl 0 rfl) ?_
  refine lv_aload_n C.hx C.hb dX11_clause_154 rfl (lv_at hl 0 rfl) ?_
  refine g_int C hH o_t (by decide) rfl FL_RX11_259 dX11_clause_155 ?_
  refine w_ne0 (tgt := 165) C hf dX11_clause_158 (by decide) (fun hf => ?_) (fun hf => ?_)
  · refine lv_iconst (v := Int32.ofInt 1) C.hx C.hb dX11_clause_165 rfl ?_
    exact j_X11_clause_166 C hn o_t hf hH (lv_sub hl [] rfl)
  · refine lv_iconst (v := Int32.ofInt 0) C.hx C.hb dX11_clause_161 rfl ?_
    refine lv_goto (tgt := 166) C.hx C.hb dX11_clause_162 (by decide) ?_
    exact j_X11_clause_166 C hn o_t hf hH (lv_sub hl [] rfl)
set_option maxRecDepth 100000 in
set_option maxHeartbeats 4000000 in
theorem j_X11_clause_71 {p : Program} {l : Launch} {e : Env} {s : State} {m : MethodId} {args : Array Value} {below : List Frame} {meth : Method} {c : Code} {E : EE} {n : Nat} {o : Mem} {t : Nat} {M71 : Mem} {H : Heap} {locs : List Loc} {ls : Array Slot} (C : Cx E p s m args meth c cX11_clause 1 RX11 none n "clause") (hn : nfull n) (o_t : ob n t 11) (hf : fn_X11_clause_J71 t M71 = some o) (hH : ST E s n (zf n) M71 H locs) (hl : lv_has ls 1 [(0, .ref (eb E + t))]) : W p l e { frames := 4, cells := 0, slots := 0, locals := 89 } s m args below meth c H locs 0 0 (MQ below (QC E none n (zf n) o) args s 0 0 (fr E)) (F0 m 71 ls []) := by
  unfold fn_X11_clause_J71 at hf
  refine lv_aload_n C.hx C.hb dX11_clause_71 rfl (lv_at hl 0 rfl) ?_
  refine g_int C hH o_t (by decide) rfl FL_RX11_187 dX11_clause_72 ?_
  refine w_le0 (tgt := 79) C hf dX11_clause_75 (by decide) (fun hf => ?_) (fun hf => ?_)
  · refine lv_aload_n C.hx C.hb dX11_clause_79 rfl (lv_at hl 0 rfl) ?_
    refine g_ref (off := 15) C hH o_t (by decide) rfl rfl FL_RX11_60 dX11_clause_80 ?_
    refine lv_aload_n C.hx C.hb dX11_clause_83 rfl (lv_at hl 0 rfl) ?_
    refine g_int C hH o_t (by decide) rfl FL_RX11_256 dX11_clause_84 ?_
    refine lv_aload_n C.hx C.hb dX11_clause_87 rfl (lv_at hl 0 rfl) ?_
    refine g_int C hH o_t (by decide) rfl FL_RX11_259 dX11_clause_88 ?_
    refine r_iast C hH (ly (i := 30) (off := 15) (k := 12) hn o_t rfl rfl rfl) (lyn (i := 30) (off := 15) (N := 19) hn o_t rfl rfl rfl) hf dX11_clause_91 (fun M91 H locs hf hH => ?_)
    refine lv_aload_n C.hx C.hb dX11_clause_92 rfl (lv_at hl 0 rfl) ?_
    refine g_ref (off := 16) C hH o_t (by decide) rfl rfl FL_RX11_63 dX11_clause_93 ?_
    refine lv_aload_n C.hx C.hb dX11_clause_96 rfl (lv_at hl 0 rfl) ?_
    refine g_int C hH o_t (by decide) rfl FL_RX11_256 dX11_clause_97 ?_
    refine lv_aload_n C.hx C.hb dX11_clause_100 rfl (lv_at hl 0 rfl) ?_
    refine g_int C hH o_t (by decide) rfl FL_RX11_193 dX11_clause_101 ?_
    refine r_iast C hH (ly (i := 31) (off := 16) (k := 12) hn o_t rfl rfl rfl) (lyn (i := 31) (off := 16) (N := 19) hn o_t rfl rfl rfl) hf dX11_clause_104 (fun M104 H locs hf hH => ?_)
    refine lv_aload_n C.hx C.hb dX11_clause_105 rfl (lv_at hl 0 rfl) ?_
    refine g_ref (off := 17) C hH o_t (by decide) rfl rfl FL_RX11_66 dX11_clause_106 ?_
    refine lv_aload_n C.hx C.hb dX11_clause_109 rfl (lv_at hl 0 rfl) ?_
    refine g_int C hH o_t (by decide) rfl FL_RX11_256 dX11_clause_110 ?_
    refine lv_iconst (v := Int32.ofInt (-1)) C.hx C.hb dX11_clause_113 rfl ?_
    refine r_iast C hH (ly (i := 32) (off := 17) (k := 12) hn o_t rfl rfl rfl) (lyn (i := 32) (off := 17) (N := 19) hn o_t rfl rfl rfl) hf dX11_clause_114 (fun M114 H locs hf hH => ?_)
    refine lv_aload_n C.hx C.hb dX11_clause_115 rfl (lv_at hl 0 rfl) ?_
    refine g_ref (off := 18) C hH o_t (by decide) rfl rfl FL_RX11_69 dX11_clause_116 ?_
    refine lv_aload_n C.hx C.hb dX11_clause_119 rfl (lv_at hl 0 rfl) ?_
    refine g_int C hH o_t (by decide) rfl FL_RX11_256 dX11_clause_120 ?_
    refine lv_iconst (v := Int32.ofInt (-1)) C.hx C.hb dX11_clause_123 rfl ?_
    refine r_iast C hH (ly (i := 33) (off := 18) (k := 12) hn o_t rfl rfl rfl) (lyn (i := 33) (off := 18) (N := 19) hn o_t rfl rfl rfl) hf dX11_clause_124 (fun M124 H locs hf hH => ?_)
    refine lv_aload_n C.hx C.hb dX11_clause_125 rfl (lv_at hl 0 rfl) ?_
    obtain ⟨M126, hc9, hf⟩ := cv_of hf
    refine r_callVv (rest := []) C hH hl o_t (by decide) rfl (m_X11_next hn o_t hc9) ML_RX11_208 MF_X11_next MI_X11_next rfl rfl (Nat.le_of_ble_eq_true rfl) ⟨Nat.le_of_ble_eq_true rfl, Nat.le_of_ble_eq_true rfl⟩ ⟨Nat.le_refl _, Nat.le_refl _⟩ dX11_clause_126 (fun H locs hH => ?_)
    refine lv_aload_n C.hx C.hb dX11_clause_129 rfl (lv_at hl 0 rfl) ?_
    refine g_int C hH o_t (by decide) rfl FL_RX11_259 dX11_clause_130 ?_
    refine lv_iconst (v := Int32.ofInt 1) C.hx C.hb dX11_clause_133 rfl ?_
    refine w_gt (tgt := 170) C hf dX11_clause_134 (by decide) (fun hf => ?_) (fun hf => ?_)
    · refine lv_aload_n C.hx C.hb dX11_clause_170 rfl (lv_at hl 0 rfl) ?_
      refine g_ref (off := 17) C hH o_t (by decide) rfl rfl FL_RX11_66 dX11_clause_171 ?_
      refine lv_aload_n C.hx C.hb dX11_clause_174 rfl (lv_at hl 0 rfl) ?_
      refine g_int C hH o_t (by decide) rfl FL_RX11_256 dX11_clause_175 ?_
      refine lv_aload_n C.hx C.hb dX11_clause_178 rfl (lv_at hl 0 rfl) ?_
      refine lv_iconst (v := Int32.ofInt 0) C.hx C.hb dX11_clause_179 rfl ?_
      refine lv_aload_n C.hx C.hb dX11_clause_180 rfl (lv_at hl 0 rfl) ?_
      refine g_int C hH o_t (by decide) rfl FL_RX11_259 dX11_clause_181 ?_
      refine lv_iconst (v := Int32.ofInt 4) C.hx C.hb dX11_clause_184 rfl ?_
      refine w_ne (tgt := 193) C hf dX11_clause_185 (by decide) (fun hf => ?_) (fun hf => ?_)
      · refine lv_bipush (v := Int32.ofInt 19) C.hx C.hb dX11_clause_193 (by decide) ?_
        exact j_X11_clause_195 C hn o_t hf hH (lv_sub hl [0] rfl)
      · refine lv_bipush (v := Int32.ofInt 99) C.hx C.hb dX11_clause_188 (by decide) ?_
        refine lv_goto (tgt := 195) C.hx C.hb dX11_clause_190 (by decide) ?_
        exact j_X11_clause_195 C hn o_t hf hH (lv_sub hl [0] rfl)
    · refine lv_aload_n C.hx C.hb dX11_clause_137 rfl (lv_at hl 0 rfl) ?_
      refine lv_aload_n C.hx C.hb dX11_clause_138 rfl (lv_at hl 0 rfl) ?_
      refine g_int C hH o_t (by decide) rfl FL_RX11_259 dX11_clause_139 ?_
      refine w_ne0 (tgt := 149) C hf dX11_clause_142 (by decide) (fun hf => ?_) (fun hf => ?_)
      · refine lv_iconst (v := Int32.ofInt 1) C.hx C.hb dX11_clause_149 rfl ?_
        exact j_X11_clause_150 C hn o_t hf hH (lv_sub hl [0] rfl)
      · refine lv_iconst (v := Int32.ofInt 2) C.hx C.hb dX11_clause_145 rfl ?_
        refine lv_goto (tgt := 150) C.hx C.hb dX11_clause_146 (by decide) ?_
        exact j_X11_clause_150 C hn o_t hf hH (lv_sub hl [0] rfl)
  · cases hf
    exact w_vret C hH dX11_clause_78
set_option maxRecDepth 100000 in
set_option maxHeartbeats 4000000 in
theorem j_X11_clause_57 {p : Program} {l : Launch} {e : Env} {s : State} {m : MethodId} {args : Array Value} {below : List Frame} {meth : Method} {c : Code} {E : EE} {n : Nat} {o : Mem} {t : Nat} {M27 : Mem} {H : Heap} {locs : List Loc} {ls : Array Slot} (C : Cx E p s m args meth c cX11_clause 1 RX11 none n "clause") (hn : nfull n) (o_t : ob n t 11) (hf : fn_X11_clause_J57 t M27 = some o) (hH : ST E s n (zf n) M27 H locs) (hl : lv_has ls 1 [(0, .ref (eb E + t))]) : W p l e { frames := 4, cells := 0, slots := 0, locals := 89 } s m args below meth c H locs 0 0 (MQ below (QC E none n (zf n) o) args s 0 0 (fr E)) (F0 m 57 ls []) := by
  unfold fn_X11_clause_J57 at hf
  refine lv_aload_n C.hx C.hb dX11_clause_57 rfl (lv_at hl 0 rfl) ?_
  refine g_int C hH o_t (by decide) rfl FL_RX11_256 dX11_clause_58 ?_
  refine lv_bipush (v := Int32.ofInt 20) C.hx C.hb dX11_clause_61 (by decide) ?_
  refine w_ne (tgt := 71) C hf dX11_clause_63 (by decide) (fun hf => ?_) (fun hf => ?_)
  · exact j_X11_clause_71 C hn o_t hf hH (lv_sub hl [0] rfl)
  · refine lv_aload_n C.hx C.hb dX11_clause_66 rfl (lv_at hl 0 rfl) ?_
    refine lv_iconst (v := Int32.ofInt 5) C.hx C.hb dX11_clause_67 rfl ?_
    obtain ⟨M68, hc9, hf⟩ := cv_of hf
    refine r_callVv (rest := []) C hH hl o_t (by decide) rfl (m_X11_errs hn o_t hc9) ML_RX11_202 MF_X11_errs MI_X11_errs rfl rfl (Nat.le_of_ble_eq_true rfl) ⟨Nat.le_of_ble_eq_true rfl, Nat.le_of_ble_eq_true rfl⟩ ⟨Nat.le_refl _, Nat.le_refl _⟩ dX11_clause_68 (fun H locs hH => ?_)
    exact j_X11_clause_71 C hn o_t hf hH (lv_sub hl [0] rfl)
set_option maxRecDepth 100000 in
set_option maxHeartbeats 4000000 in
theorem m_X11_clause {E : EE} {l : Launch} {n : Nat} {t : Nat} {M : Mem} {o : Mem} (hn : nfull n) (o_t : ob n t 11) (hf : fn_X11_clause t M = some o) : CT E l yX11_clause cX11_clause 1 none 4 89 0 0 [.ref (eb E + t)] n (zf n) M none n (zf n) o := by
  refine CT_of PN_RX11 (Nat.le_of_ble_eq_true rfl) ?_
  intro p e s m args below meth c C hH ls hl
  replace C : Cx E p s m args meth c cX11_clause 1 RX11 none n "clause" := C
  have hl : lv_has ls 1 [(0, .ref (eb E + t))] := hl
  unfold fn_X11_clause at hf
  refine lv_aload_n C.hx C.hb dX11_clause_0 rfl (lv_at hl 0 rfl) ?_
  refine g_int C hH o_t (by decide) rfl FL_RX11_171 dX11_clause_1 ?_
  refine lv_iconst (v := Int32.ofInt 1) C.hx C.hb dX11_clause_4 rfl ?_
  refine w_ne (tgt := 16) C hf dX11_clause_5 (by decide) (fun hf => ?_) (fun hf => ?_)
  · exact j_X11_clause_16 C hn o_t hf hH (lv_sub hl [0] rfl)
  · refine lv_aload_n C.hx C.hb dX11_clause_8 rfl (lv_at hl 0 rfl) ?_
    refine g_int C hH o_t (by decide) rfl FL_RX11_183 dX11_clause_9 ?_
    refine lv_iconst (v := Int32.ofInt 4) C.hx C.hb dX11_clause_12 rfl ?_
    refine w_le (tgt := 22) C hf dX11_clause_13 (by decide) (fun hf => ?_) (fun hf => ?_)
    · refine lv_aload_n C.hx C.hb dX11_clause_22 rfl (lv_at hl 0 rfl) ?_
      refine lv_aload_n C.hx C.hb dX11_clause_23 rfl (lv_at hl 0 rfl) ?_
      refine g_int C hH o_t (by decide) rfl FL_RX11_183 dX11_clause_24 ?_
      refine r_put C hH o_t (by decide) rfl FL_RX11_259 FW_11_29 hf dX11_clause_27 (fun M27 H locs hf hH => ?_)
      refine lv_aload_n C.hx C.hb dX11_clause_30 rfl (lv_at hl 0 rfl) ?_
      refine g_int C hH o_t (by decide) rfl FL_RX11_259 dX11_clause_31 ?_
      refine lv_iconst (v := Int32.ofInt 1) C.hx C.hb dX11_clause_34 rfl ?_
      refine w_gt (tgt := 57) C hf dX11_clause_35 (by decide) (fun hf => ?_) (fun hf => ?_)
      · exact j_X11_clause_57 C hn o_t hf hH (lv_sub hl [0] rfl)
      · refine lv_aload_n C.hx C.hb dX11_clause_38 rfl (lv_at hl 0 rfl) ?_
        refine lv_aload_n C.hx C.hb dX11_clause_39 rfl (lv_at hl 0 rfl) ?_
        refine g_int C hH o_t (by decide) rfl FL_RX11_259 dX11_clause_40 ?_
        obtain ⟨x43, hc9, hf⟩ := cu_of hf
        refine r_callVi (rest := []) C hH hl o_t (by decide) rfl (m_X11_wasTold hn o_t hc9) ML_RX11_262 MF_X11_wasTold MI_X11_wasTold rfl rfl (Nat.le_of_ble_eq_true rfl) ⟨Nat.le_of_ble_eq_true rfl, Nat.le_of_ble_eq_true rfl⟩ ⟨Nat.le_refl _, Nat.le_refl _⟩ dX11_clause_43 (fun H locs hH => ?_)
        refine w_eq0 (tgt := 57) C hf dX11_clause_46 (by decide) (fun hf => ?_) (fun hf => ?_)
        · exact j_X11_clause_57 C hn o_t hf hH (lv_sub hl [0] rfl)
        · refine lv_aload_n C.hx C.hb dX11_clause_49 rfl (lv_at hl 0 rfl) ?_
          refine lv_iconst (v := Int32.ofInt 4) C.hx C.hb dX11_clause_50 rfl ?_
          obtain ⟨M51, hc9, hf⟩ := cv_of hf
          refine r_callVv (rest := []) C hH hl o_t (by decide) rfl (m_X11_errs hn o_t hc9) ML_RX11_202 MF_X11_errs MI_X11_errs rfl rfl (Nat.le_of_ble_eq_true rfl) ⟨Nat.le_of_ble_eq_true rfl, Nat.le_of_ble_eq_true rfl⟩ ⟨Nat.le_refl _, Nat.le_refl _⟩ dX11_clause_51 (fun H locs hH => ?_)
          refine lv_goto (tgt := 71) C.hx C.hb dX11_clause_54 (by decide) ?_
          exact j_X11_clause_71 C hn o_t hf hH (lv_sub hl [0] rfl)
    · exact j_X11_clause_16 C hn o_t hf hH (lv_sub hl [0] rfl)
-- HeavierByHandModel.text
def fn_X11_text_J351 (t : Nat) (x197 : Int) (M351 : Mem) : Option (Int × Mem) :=
  rd M351 (t + 1) 288 5 fun x357 => wr M351 (t + 1) 288 5 (x357 + 1) fun M360 => some (x197, M360)
def fn_X11_text_L301 (t : Nat) (x197 : Int) (rec301 : Int → Mem → Option (Int × Mem)) (v2_301 : Int) (M301 : Mem) : Option (Int × Mem) :=
  cLt v2_301 (M301 t 34) (rd M301 (t + 19) 400 v2_301 fun x325 => wr M301 (t + 9) 1600 ((400 * x197) + v2_301) x325 fun M326 => rd M326 (t + 20) 400 v2_301 fun x343 => wr M326 (t + 10) 1600 ((400 * x197) + v2_301) x343 fun M344 => nm (v2_301 + 1) fun v2_345 => rec301 v2_345 M344) (fn_X11_text_J351 t x197 M301)
def fn_X11_text_J299 (t : Nat) (x197 : Int) (M299 : Mem) : Option (Int × Mem) :=
  lq2 (fn_X11_text_L301 t x197) FU 0 M299
def fn_X11_text_L211 (t : Nat) (x197 : Int) (rec211 : Int → Mem → Option (Int × Mem)) (v2_211 : Int) (M211 : Mem) : Option (Int × Mem) :=
  cLt v2_211 (M211 t 28) (rd M211 (t + 15) 20 v2_211 fun x234 => wr M211 (t + 5) 80 ((20 * x197) + v2_211) x234 fun M235 => rd M235 (t + 16) 20 v2_211 fun x256 => wr M235 (t + 6) 80 ((20 * x197) + v2_211) ((400 * x197) + x256) fun M258 => rd M258 (t + 17) 20 v2_211 fun x274 => wr M258 (t + 7) 80 ((20 * x197) + v2_211) x274 fun M275 => rd M275 (t + 18) 20 v2_211 fun x291 => wr M275 (t + 8) 80 ((20 * x197) + v2_211) x291 fun M292 => nm (v2_211 + 1) fun v2_293 => rec211 v2_293 M292) (fn_X11_text_J299 t x197 M211)
def fn_X11_text_J167 (t : Nat) (M167 : Mem) : Option (Int × Mem) :=
  st M167 t 4 (M167 t 18) fun M172 => st M172 t 5 (M172 t 19) fun M180 => cLt 0 (M180 t 18) (some ((-1), M180)) (rd M180 (t + 1) 288 5 fun x197 => wr M180 (t + 4) 4 x197 (M180 t 28) fun M208 => lq2 (fn_X11_text_L211 t x197) FU 0 M208)
def fn_X11_text_J96 (t : Nat) (M74 : Mem) (rec74 : Mem → Option (Int × Mem)) : Option (Int × Mem) :=
  ck (R3 (M74 t 27)) <| if (M74 t 27) = 0 then (cv (fn_X11_asks t M74) fun M133 => rec74 M133) else if (M74 t 27) = 1 then (cv (fn_X11_begins t M74) fun M140 => rec74 M140) else if (M74 t 27) = 2 then (cv (fn_X11_goesOn t M74) fun M147 => rec74 M147) else if (M74 t 27) = 3 then (cv (fn_X11_asksOn t M74) fun M154 => rec74 M154) else cv (fn_X11_clause t M74) fun M161 => rec74 M161
def fn_X11_text_L74 (t : Nat) (rec74 : Mem → Option (Int × Mem)) (M74 : Mem) : Option (Int × Mem) :=
  cEq (M74 t 18) 0 (cEq (M74 t 27) 4 (cEq (M74 t 16) 0 (fn_X11_text_J167 t M74) (fn_X11_text_J96 t M74 rec74)) (fn_X11_text_J96 t M74 rec74)) (fn_X11_text_J167 t M74)
def fn_X11_text (t : Nat) (M : Mem) : Option (Int × Mem) :=
  rd M (t + 1) 288 5 fun x5 => cEq x5 4 (some ((-1), M)) (st M t 13 (M t 3) fun M17 => st M17 t 3 0 fun M22 => st M22 t 14 0 fun M27 => st M27 t 18 0 fun M32 => st M32 t 19 (-1) fun M37 => st M37 t 20 0 fun M42 => st M42 t 21 0 fun M47 => st M47 t 24 0 fun M52 => st M52 t 27 4 fun M57 => st M57 t 28 0 fun M62 => st M62 t 34 0 fun M67 => cv (fn_X11_next t M67) fun M71 => lq1 (fn_X11_text_L74 t) FU M71)
set_option maxRecDepth 100000 in
set_option maxHeartbeats 4000000 in
theorem j_X11_text_351 {p : Program} {l : Launch} {e : Env} {s : State} {m : MethodId} {args : Array Value} {below : List Frame} {meth : Method} {c : Code} {E : EE} {n : Nat} {o : (Int × Mem)} {t : Nat} {x197 : Int} {M351 : Mem} {H : Heap} {locs : List Loc} {ls : Array Slot} (C : Cx E p s m args meth c cX11_text 3 RX11 (some .int) n "text") (hn : nfull n) (o_t : ob n t 11) (hf : fn_X11_text_J351 t x197 M351 = some o) (hH : ST E s n (zf n) M351 H locs) (hl : lv_has ls 3 [(0, .ref (eb E + t)), (1, i3 x197)]) : W p l e { frames := 5, cells := 0, slots := 0, locals := 109 } s m args below meth c H locs 0 0 (MQ below (QC E (some (i3 o.1)) n (zf n) o.2) args s 0 0 (fr E)) (F0 m 351 ls []) := by
  unfold fn_X11_text_J351 at hf
  refine lv_aload_n C.hx C.hb dX11_text_351 rfl (lv_at hl 0 rfl) ?_
  refine g_ref (off := 1) C hH o_t (by decide) rfl rfl FL_RX11_7 dX11_text_352 ?_
  refine lv_iconst (v := Int32.ofInt 5) C.hx C.hb dX11_text_355 rfl ?_
  refine lv_dup2_11 C.hx C.hb dX11_text_356 rfl rfl ?_
  refine r_iald C hH (ly (i := 0) (off := 1) (k := 12) hn o_t rfl rfl rfl) (lyn (i := 0) (off := 1) (N := 287) hn o_t rfl rfl rfl) hf dX11_text_357 (fun x357 hf => ?_)
  refine lv_iconst (v := Int32.ofInt 1) C.hx C.hb dX11_text_358 rfl ?_
  refine w_iadd C dX11_text_359 ?_
  refine r_iast C hH (ly (i := 0) (off := 1) (k := 12) hn o_t rfl rfl rfl) (lyn (i := 0) (off := 1) (N := 287) hn o_t rfl rfl rfl) hf dX11_text_360 (fun M360 H locs hf hH => ?_)
  refine lv_iload_n C.hx C.hb dX11_text_361 rfl (lv_at hl 1 rfl) ?_
  cases hf
  exact w_iret C hH dX11_text_362
set_option maxRecDepth 100000 in
set_option maxHeartbeats 4000000 in
theorem l_X11_text_301 {p : Program} {l : Launch} {e : Env} {s : State} {m : MethodId} {args : Array Value} {below : List Frame} {meth : Method} {c : Code} {E : EE} {n : Nat} {o : (Int × Mem)} {t : Nat} {x197 : Int} (C : Cx E p s m args meth c cX11_text 3 RX11 (some .int) n "text") (hn : nfull n) (o_t : ob n t 11) : ∀ (k : Nat) (v2_301 : Int) (M301 : Mem) (H : Heap) (locs : List Loc) (ls : Array Slot), lq2 (fn_X11_text_L301 t x197) k v2_301 M301 = some o → ST E s n (zf n) M301 H locs → lv_has ls 3 [(0, .ref (eb E + t)), (1, i3 x197), (2, i3 v2_301)] → W p l e { frames := 5, cells := 0, slots := 0, locals := 109 } s m args below meth c H locs 0 0 (MQ below (QC E (some (i3 o.1)) n (zf n) o.2) args s 0 0 (fr E)) (F0 m 301 ls []) := by
  intro k
  induction k with
  | zero => intro v2_301 M301 H locs ls hf; cases hf
  | succ k ih =>
    intro v2_301 M301 H locs ls hf hH hl
    have h_rec301 : ∀ {v2_301 : Int} {M301 : Mem} {H : Heap} {locs : List Loc} {ls : Array Slot}, lq2 (fn_X11_text_L301 t x197) k v2_301 M301 = some o → ST E s n (zf n) M301 H locs → lv_has ls 3 [(0, .ref (eb E + t)), (1, i3 x197), (2, i3 v2_301)] → W p l e { frames := 5, cells := 0, slots := 0, locals := 109 } s m args below meth c H locs 0 0 (MQ below (QC E (some (i3 o.1)) n (zf n) o.2) args s 0 0 (fr E)) (F0 m 301 ls []) := fun {v2_301} {M301} {H} {locs} {ls} a b c => ih v2_301 M301 H locs ls a b c
    replace hf : fn_X11_text_L301 t x197 (lq2 (fn_X11_text_L301 t x197) k) v2_301 M301 = some o := hf
    generalize lq2 (fn_X11_text_L301 t x197) k = rec301 at hf h_rec301
    unfold fn_X11_text_L301 at hf
    refine lv_iload_n C.hx C.hb dX11_text_301 rfl (lv_at hl 2 rfl) ?_
    refine lv_aload_n C.hx C.hb dX11_text_302 rfl (lv_at hl 0 rfl) ?_
    refine g_int C hH o_t (by decide) rfl FL_RX11_193 dX11_text_303 ?_
    refine w_ge (tgt := 351) C hf dX11_text_306 (by decide) (fun hf => ?_) (fun hf => ?_)
    · exact j_X11_text_351 C hn o_t hf hH (lv_sub hl [0, 1] rfl)
    · refine lv_aload_n C.hx C.hb dX11_text_309 rfl (lv_at hl 0 rfl) ?_
      refine g_ref (off := 9) C hH o_t (by decide) rfl rfl FL_RX11_42 dX11_text_310 ?_
      refine lv_sipush (v := Int32.ofInt 400) C.hx C.hb dX11_text_313 (by decide) ?_
      refine lv_iload_n C.hx C.hb dX11_text_316 rfl (lv_at hl 1 rfl) ?_
      refine w_imul C dX11_text_317 ?_
      refine lv_iload_n C.hx C.hb dX11_text_318 rfl (lv_at hl 2 rfl) ?_
      refine w_iadd C dX11_text_319 ?_
      refine lv_aload_n C.hx C.hb dX11_text_320 rfl (lv_at hl 0 rfl) ?_
      refine g_ref (off := 19) C hH o_t (by decide) rfl rfl FL_RX11_72 dX11_text_321 ?_
      refine lv_iload_n C.hx C.hb dX11_text_324 rfl (lv_at hl 2 rfl) ?_
      refine r_iald C hH (ly (i := 35) (off := 19) (k := 12) hn o_t rfl rfl rfl) (lyn (i := 35) (off := 19) (N := 399) hn o_t rfl rfl rfl) hf dX11_text_325 (fun x325 hf => ?_)
      refine r_iast C hH (ly (i := 11) (off := 9) (k := 12) hn o_t rfl rfl rfl) (lyn (i := 11) (off := 9) (N := 1599) hn o_t rfl rfl rfl) hf dX11_text_326 (fun M326 H locs hf hH => ?_)
      refine lv_aload_n C.hx C.hb dX11_text_327 rfl (lv_at hl 0 rfl) ?_
      refine g_ref (off := 10) C hH o_t (by decide) rfl rfl FL_RX11_45 dX11_text_328 ?_
      refine lv_sipush (v := Int32.ofInt 400) C.hx C.hb dX11_text_331 (by decide) ?_
      refine lv_iload_n C.hx C.hb dX11_text_334 rfl (lv_at hl 1 rfl) ?_
      refine w_imul C dX11_text_335 ?_
      refine lv_iload_n C.hx C.hb dX11_text_336 rfl (lv_at hl 2 rfl) ?_
      refine w_iadd C dX11_text_337 ?_
      refine lv_aload_n C.hx C.hb dX11_text_338 rfl (lv_at hl 0 rfl) ?_
      refine g_ref (off := 20) C hH o_t (by decide) rfl rfl FL_RX11_75 dX11_text_339 ?_
      refine lv_iload_n C.hx C.hb dX11_text_342 rfl (lv_at hl 2 rfl) ?_
      refine r_iald C hH (ly (i := 36) (off := 20) (k := 12) hn o_t rfl rfl rfl) (lyn (i := 36) (off := 20) (N := 399) hn o_t rfl rfl rfl) hf dX11_text_343 (fun x343 hf => ?_)
      refine r_iast C hH (ly (i := 12) (off := 10) (k := 12) hn o_t rfl rfl rfl) (lyn (i := 12) (off := 10) (N := 1599) hn o_t rfl rfl rfl) hf dX11_text_344 (fun M344 H locs hf hH => ?_)
      refine r_iinc (k := 2) (lv' := fun v => [(2, i3 v), (0, .ref (eb E + t)), (1, i3 x197)]) C hf dX11_text_345 hl rfl (by decide) (fun _ => rfl) (fun v2_345 ls hf hl => ?_)
      refine lv_goto (tgt := 301) C.hx C.hb dX11_text_348 (by decide) ?_
      exact h_rec301 hf hH (lv_sub hl [1, 2, 0] rfl)
set_option maxRecDepth 100000 in
set_option maxHeartbeats 4000000 in
theorem j_X11_text_299 {p : Program} {l : Launch} {e : Env} {s : State} {m : MethodId} {args : Array Value} {below : List Frame} {meth : Method} {c : Code} {E : EE} {n : Nat} {o : (Int × Mem)} {t : Nat} {x197 : Int} {M299 : Mem} {H : Heap} {locs : List Loc} {ls : Array Slot} (C : Cx E p s m args meth c cX11_text 3 RX11 (some .int) n "text") (hn : nfull n) (o_t : ob n t 11) (hf : fn_X11_text_J299 t x197 M299 = some o) (hH : ST E s n (zf n) M299 H locs) (hl : lv_has ls 3 [(0, .ref (eb E + t)), (1, i3 x197)]) : W p l e { frames := 5, cells := 0, slots := 0, locals := 109 } s m args below meth c H locs 0 0 (MQ below (QC E (some (i3 o.1)) n (zf n) o.2) args s 0 0 (fr E)) (F0 m 299 ls []) := by
  unfold fn_X11_text_J299 at hf
  refine lv_iconst (v := Int32.ofInt 0) C.hx C.hb dX11_text_299 rfl ?_
  refine lv_istore_n (lv' := [(2, i3 0), (0, .ref (eb E + t)), (1, i3 x197)]) C.hx C.hb dX11_text_300 rfl hl (by decide) rfl (fun ls hl => ?_)
  exact l_X11_text_301 C hn o_t FU _ _ _ _ _ hf hH (lv_sub hl [1, 2, 0] rfl)
set_option maxRecDepth 100000 in
set_option maxHeartbeats 4000000 in
theorem l_X11_text_211 {p : Program} {l : Launch} {e : Env} {s : State} {m : MethodId} {args : Array Value} {below : List Frame} {meth : Method} {c : Code} {E : EE} {n : Nat} {o : (Int × Mem)} {t : Nat} {x197 : Int} (C : Cx E p s m args meth c cX11_text 3 RX11 (some .int) n "text") (hn : nfull n) (o_t : ob n t 11) : ∀ (k : Nat) (v2_211 : Int) (M211 : Mem) (H : Heap) (locs : List Loc) (ls : Array Slot), lq2 (fn_X11_text_L211 t x197) k v2_211 M211 = some o → ST E s n (zf n) M211 H locs → lv_has ls 3 [(0, .ref (eb E + t)), (1, i3 x197), (2, i3 v2_211)] → W p l e { frames := 5, cells := 0, slots := 0, locals := 109 } s m args below meth c H locs 0 0 (MQ below (QC E (some (i3 o.1)) n (zf n) o.2) args s 0 0 (fr E)) (F0 m 211 ls []) := by
  intro k
  induction k with
  | zero => intro v2_211 M211 H locs ls hf; cases hf
  | succ k ih =>
    intro v2_211 M211 H locs ls hf hH hl
    have h_rec211 : ∀ {v2_211 : Int} {M211 : Mem} {H : Heap} {locs : List Loc} {ls : Array Slot}, lq2 (fn_X11_text_L211 t x197) k v2_211 M211 = some o → ST E s n (zf n) M211 H locs → lv_has ls 3 [(0, .ref (eb E + t)), (1, i3 x197), (2, i3 v2_211)] → W p l e { frames := 5, cells := 0, slots := 0, locals := 109 } s m args below meth c H locs 0 0 (MQ below (QC E (some (i3 o.1)) n (zf n) o.2) args s 0 0 (fr E)) (F0 m 211 ls []) := fun {v2_211} {M211} {H} {locs} {ls} a b c => ih v2_211 M211 H locs ls a b c
    replace hf : fn_X11_text_L211 t x197 (lq2 (fn_X11_text_L211 t x197) k) v2_211 M211 = some o := hf
    generalize lq2 (fn_X11_text_L211 t x197) k = rec211 at hf h_rec211
    unfold fn_X11_text_L211 at hf
    refine lv_iload_n C.hx C.hb dX11_text_211 rfl (lv_at hl 2 rfl) ?_
    refine lv_aload_n C.hx C.hb dX11_text_212 rfl (lv_at hl 0 rfl) ?_
    refine g_int C hH o_t (by decide) rfl FL_RX11_256 dX11_text_213 ?_
    refine w_ge (tgt := 299) C hf dX11_text_216 (by decide) (fun hf => ?_) (fun hf => ?_)
    · exact j_X11_text_299 C hn o_t hf hH (lv_sub hl [0, 1] rfl)
    · refine lv_aload_n C.hx C.hb dX11_text_219 rfl (lv_at hl 0 rfl) ?_
      refine g_ref (off := 5) C hH o_t (by decide) rfl rfl FL_RX11_30 dX11_text_220 ?_
      refine lv_bipush (v := Int32.ofInt 20) C.hx C.hb dX11_text_223 (by decide) ?_
      refine lv_iload_n C.hx C.hb dX11_text_225 rfl (lv_at hl 1 rfl) ?_
      refine w_imul C dX11_text_226 ?_
      refine lv_iload_n C.hx C.hb dX11_text_227 rfl (lv_at hl 2 rfl) ?_
      refine w_iadd C dX11_text_228 ?_
      refine lv_aload_n C.hx C.hb dX11_text_229 rfl (lv_at hl 0 rfl) ?_
      refine g_ref (off := 15) C hH o_t (by decide) rfl rfl FL_RX11_60 dX11_text_230 ?_
      refine lv_iload_n C.hx C.hb dX11_text_233 rfl (lv_at hl 2 rfl) ?_
      refine r_iald C hH (ly (i := 30) (off := 15) (k := 12) hn o_t rfl rfl rfl) (lyn (i := 30) (off := 15) (N := 19) hn o_t rfl rfl rfl) hf dX11_text_234 (fun x234 hf => ?_)
      refine r_iast C hH (ly (i := 7) (off := 5) (k := 12) hn o_t rfl rfl rfl) (lyn (i := 7) (off := 5) (N := 79) hn o_t rfl rfl rfl) hf dX11_text_235 (fun M235 H locs hf hH => ?_)
      refine lv_aload_n C.hx C.hb dX11_text_236 rfl (lv_at hl 0 rfl) ?_
      refine g_ref (off := 6) C hH o_t (by decide) rfl rfl FL_RX11_33 dX11_text_237 ?_
      refine lv_bipush (v := Int32.ofInt 20) C.hx C.hb dX11_text_240 (by decide) ?_
      refine lv_iload_n C.hx C.hb dX11_text_242 rfl (lv_at hl 1 rfl) ?_
      refine w_imul C dX11_text_243 ?_
      refine lv_iload_n C.hx C.hb dX11_text_244 rfl (lv_at hl 2 rfl) ?_
      refine w_iadd C dX11_text_245 ?_
      refine lv_sipush (v := Int32.ofInt 400) C.hx C.hb dX11_text_246 (by decide) ?_
      refine lv_iload_n C.hx C.hb dX11_text_249 rfl (lv_at hl 1 rfl) ?_
      refine w_imul C dX11_text_250 ?_
      refine lv_aload_n C.hx C.hb dX11_text_251 rfl (lv_at hl 0 rfl) ?_
      refine g_ref (off := 16) C hH o_t (by decide) rfl rfl FL_RX11_63 dX11_text_252 ?_
      refine lv_iload_n C.hx C.hb dX11_text_255 rfl (lv_at hl 2 rfl) ?_
      refine r_iald C hH (ly (i := 31) (off := 16) (k := 12) hn o_t rfl rfl rfl) (lyn (i := 31) (off := 16) (N := 19) hn o_t rfl rfl rfl) hf dX11_text_256 (fun x256 hf => ?_)
      refine w_iadd C dX11_text_257 ?_
      refine r_iast C hH (ly (i := 8) (off := 6) (k := 12) hn o_t rfl rfl rfl) (lyn (i := 8) (off := 6) (N := 79) hn o_t rfl rfl rfl) hf dX11_text_258 (fun M258 H locs hf hH => ?_)
      refine lv_aload_n C.hx C.hb dX11_text_259 rfl (lv_at hl 0 rfl) ?_
      refine g_ref (off := 7) C hH o_t (by decide) rfl rfl FL_RX11_36 dX11_text_260 ?_
      refine lv_bipush (v := Int32.ofInt 20) C.hx C.hb dX11_text_263 (by decide) ?_
      refine lv_iload_n C.hx C.hb dX11_text_265 rfl (lv_at hl 1 rfl) ?_
      refine w_imul C dX11_text_266 ?_
      refine lv_iload_n C.hx C.hb dX11_text_267 rfl (lv_at hl 2 rfl) ?_
      refine w_iadd C dX11_text_268 ?_
      refine lv_aload_n C.hx C.hb dX11_text_269 rfl (lv_at hl 0 rfl) ?_
      refine g_ref (off := 17) C hH o_t (by decide) rfl rfl FL_RX11_66 dX11_text_270 ?_
      refine lv_iload_n C.hx C.hb dX11_text_273 rfl (lv_at hl 2 rfl) ?_
      refine r_iald C hH (ly (i := 32) (off := 17) (k := 12) hn o_t rfl rfl rfl) (lyn (i := 32) (off := 17) (N := 19) hn o_t rfl rfl rfl) hf dX11_text_274 (fun x274 hf => ?_)
      refine r_iast C hH (ly (i := 9) (off := 7) (k := 12) hn o_t rfl rfl rfl) (lyn (i := 9) (off := 7) (N := 79) hn o_t rfl rfl rfl) hf dX11_text_275 (fun M275 H locs hf hH => ?_)
      refine lv_aload_n C.hx C.hb dX11_text_276 rfl (lv_at hl 0 rfl) ?_
      refine g_ref (off := 8) C hH o_t (by decide) rfl rfl FL_RX11_39 dX11_text_277 ?_
      refine lv_bipush (v := Int32.ofInt 20) C.hx C.hb dX11_text_280 (by decide) ?_
      refine lv_iload_n C.hx C.hb dX11_text_282 rfl (lv_at hl 1 rfl) ?_
      refine w_imul C dX11_text_283 ?_
      refine lv_iload_n C.hx C.hb dX11_text_284 rfl (lv_at hl 2 rfl) ?_
      refine w_iadd C dX11_text_285 ?_
      refine lv_aload_n C.hx C.hb dX11_text_286 rfl (lv_at hl 0 rfl) ?_
      refine g_ref (off := 18) C hH o_t (by decide) rfl rfl FL_RX11_69 dX11_text_287 ?_
      refine lv_iload_n C.hx C.hb dX11_text_290 rfl (lv_at hl 2 rfl) ?_
      refine r_iald C hH (ly (i := 33) (off := 18) (k := 12) hn o_t rfl rfl rfl) (lyn (i := 33) (off := 18) (N := 19) hn o_t rfl rfl rfl) hf dX11_text_291 (fun x291 hf => ?_)
      refine r_iast C hH (ly (i := 10) (off := 8) (k := 12) hn o_t rfl rfl rfl) (lyn (i := 10) (off := 8) (N := 79) hn o_t rfl rfl rfl) hf dX11_text_292 (fun M292 H locs hf hH => ?_)
      refine r_iinc (k := 2) (lv' := fun v => [(2, i3 v), (0, .ref (eb E + t)), (1, i3 x197)]) C hf dX11_text_293 hl rfl (by decide) (fun _ => rfl) (fun v2_293 ls hf hl => ?_)
      refine lv_goto (tgt := 211) C.hx C.hb dX11_text_296 (by decide) ?_
      exact h_rec211 hf hH (lv_sub hl [1, 2, 0] rfl)
set_option maxRecDepth 100000 in
set_option maxHeartbeats 4000000 in
theorem j_X11_text_167 {p : Program} {l : Launch} {e : Env} {s : State} {m : MethodId} {args : Array Value} {below : List Frame} {meth : Method} {c : Code} {E : EE} {n : Nat} {o : (Int × Mem)} {t : Nat} {M167 : Mem} {H : Heap} {locs : List Loc} {ls : Array Slot} (C : Cx E p s m args meth c cX11_text 3 RX11 (some .int) n "text") (hn : nfull n) (o_t : ob n t 11) (hf : fn_X11_text_J167 t M167 = some o) (hH : ST E s n (zf n) M167 H locs) (hl : lv_has ls 3 [(0, .ref (eb E + t))]) : W p l e { frames := 5, cells := 0, slots := 0, locals := 109 } s m args below meth c H locs 0 0 (MQ below (QC E (some (i3 o.1)) n (zf n) o.2) args s 0 0 (fr E)) (F0 m 167 ls []) := by
  unfold fn_X11_text_J167 at hf
  refine lv_aload_n C.hx C.hb dX11_text_167 rfl (lv_at hl 0 rfl) ?_
  refine lv_aload_n C.hx C.hb dX11_text_168 rfl (lv_at hl 0 rfl) ?_
  refine g_int C hH o_t (by decide) rfl FL_RX11_187 dX11_text_169 ?_
  refine r_put C hH o_t (by decide) rfl FL_RX11_20 FW_11_4 hf dX11_text_172 (fun M172 H locs hf hH => ?_)
  refine lv_aload_n C.hx C.hb dX11_text_175 rfl (lv_at hl 0 rfl) ?_
  refine lv_aload_n C.hx C.hb dX11_text_176 rfl (lv_at hl 0 rfl) ?_
  refine g_int C hH o_t (by decide) rfl FL_RX11_190 dX11_text_177 ?_
  refine r_put C hH o_t (by decide) rfl FL_RX11_24 FW_11_5 hf dX11_text_180 (fun M180 H locs hf hH => ?_)
  refine lv_aload_n C.hx C.hb dX11_text_183 rfl (lv_at hl 0 rfl) ?_
  refine g_int C hH o_t (by decide) rfl FL_RX11_187 dX11_text_184 ?_
  refine w_le0 (tgt := 192) C hf dX11_text_187 (by decide) (fun hf => ?_) (fun hf => ?_)
  · refine lv_aload_n C.hx C.hb dX11_text_192 rfl (lv_at hl 0 rfl) ?_
    refine g_ref (off := 1) C hH o_t (by decide) rfl rfl FL_RX11_7 dX11_text_193 ?_
    refine lv_iconst (v := Int32.ofInt 5) C.hx C.hb dX11_text_196 rfl ?_
    refine r_iald C hH (ly (i := 0) (off := 1) (k := 12) hn o_t rfl rfl rfl) (lyn (i := 0) (off := 1) (N := 287) hn o_t rfl rfl rfl) hf dX11_text_197 (fun x197 hf => ?_)
    refine lv_istore_n (lv' := [(1, i3 x197), (0, .ref (eb E + t))]) C.hx C.hb dX11_text_198 rfl hl (by decide) rfl (fun ls hl => ?_)
    refine lv_aload_n C.hx C.hb dX11_text_199 rfl (lv_at hl 1 rfl) ?_
    refine g_ref (off := 4) C hH o_t (by decide) rfl rfl FL_RX11_27 dX11_text_200 ?_
    refine lv_iload_n C.hx C.hb dX11_text_203 rfl (lv_at hl 0 rfl) ?_
    refine lv_aload_n C.hx C.hb dX11_text_204 rfl (lv_at hl 1 rfl) ?_
    refine g_int C hH o_t (by decide) rfl FL_RX11_256 dX11_text_205 ?_
    refine r_iast C hH (ly (i := 6) (off := 4) (k := 12) hn o_t rfl rfl rfl) (lyn (i := 6) (off := 4) (N := 3) hn o_t rfl rfl rfl) hf dX11_text_208 (fun M208 H locs hf hH => ?_)
    refine lv_iconst (v := Int32.ofInt 0) C.hx C.hb dX11_text_209 rfl ?_
    refine lv_istore_n (lv' := [(2, i3 0), (1, i3 x197), (0, .ref (eb E + t))]) C.hx C.hb dX11_text_210 rfl hl (by decide) rfl (fun ls hl => ?_)
    exact l_X11_text_211 C hn o_t FU _ _ _ _ _ hf hH (lv_sub hl [2, 1, 0] rfl)
  · refine lv_iconst (v := Int32.ofInt (-1)) C.hx C.hb dX11_text_190 rfl ?_
    cases hf
    exact w_iret C hH dX11_text_191
set_option maxRecDepth 100000 in
set_option maxHeartbeats 4000000 in
theorem j_X11_text_96 {p : Program} {l : Launch} {e : Env} {s : State} {m : MethodId} {args : Array Value} {below : List Frame} {meth : Method} {c : Code} {E : EE} {n : Nat} {o : (Int × Mem)} {t : Nat} {M74 : Mem} {rec74 : Mem → Option (Int × Mem)} {H : Heap} {locs : List Loc} {ls : Array Slot} (C : Cx E p s m args meth c cX11_text 3 RX11 (some .int) n "text") (hn : nfull n) (o_t : ob n t 11) (h_rec74 : ∀ {M74 : Mem} {H : Heap} {locs : List Loc} {ls : Array Slot}, rec74 M74 = some o → ST E s n (zf n) M74 H locs → lv_has ls 3 [(0, .ref (eb E + t))] → W p l e { frames := 5, cells := 0, slots := 0, locals := 109 } s m args below meth c H locs 0 0 (MQ below (QC E (some (i3 o.1)) n (zf n) o.2) args s 0 0 (fr E)) (F0 m 74 ls [])) (hf : fn_X11_text_J96 t M74 rec74 = some o) (hH : ST E s n (zf n) M74 H locs) (hl : lv_has ls 3 [(0, .ref (eb E + t))]) : W p l e { frames := 5, cells := 0, slots := 0, locals := 109 } s m args below meth c H locs 0 0 (MQ below (QC E (some (i3 o.1)) n (zf n) o.2) args s 0 0 (fr E)) (F0 m 96 ls []) := by
  unfold fn_X11_text_J96 at hf
  refine lv_aload_n C.hx C.hb dX11_text_96 rfl (lv_at hl 0 rfl) ?_
  refine g_int C hH o_t (by decide) rfl FL_RX11_231 dX11_text_97 ?_
  obtain ⟨hR9, hf⟩ := ck_of hf
  by_cases e0 : (M74 t 27) = 0
  · rw [if_pos e0] at hf
    refine r_tab (tgt := 132) C e0 ⟨by decide, by decide⟩ dX11_text_100 (by decide) (by decide) rfl (by decide) ?_
    refine lv_aload_n C.hx C.hb dX11_text_132 rfl (lv_at hl 0 rfl) ?_
    obtain ⟨M133, hc9, hf⟩ := cv_of hf
    refine r_callVv (rest := []) C hH hl o_t (by decide) rfl (m_X11_asks hn o_t hc9) ML_RX11_269 MF_X11_asks MI_X11_asks rfl rfl (Nat.le_of_ble_eq_true rfl) ⟨Nat.le_of_ble_eq_true rfl, Nat.le_of_ble_eq_true rfl⟩ ⟨Nat.le_refl _, Nat.le_refl _⟩ dX11_text_133 (fun H locs hH => ?_)
    refine lv_goto (tgt := 74) C.hx C.hb dX11_text_136 (by decide) ?_
    exact h_rec74 hf hH (lv_sub hl [0] rfl)
  · rw [if_neg e0] at hf
    by_cases e1 : (M74 t 27) = 1
    · rw [if_pos e1] at hf
      refine r_tab (tgt := 139) C e1 ⟨by decide, by decide⟩ dX11_text_100 (by decide) (by decide) rfl (by decide) ?_
      refine lv_aload_n C.hx C.hb dX11_text_139 rfl (lv_at hl 0 rfl) ?_
      obtain ⟨M140, hc9, hf⟩ := cv_of hf
      refine r_callVv (rest := []) C hH hl o_t (by decide) rfl (m_X11_begins hn o_t hc9) ML_RX11_272 MF_X11_begins MI_X11_begins rfl rfl (Nat.le_of_ble_eq_true rfl) ⟨Nat.le_of_ble_eq_true rfl, Nat.le_of_ble_eq_true rfl⟩ ⟨Nat.le_refl _, Nat.le_refl _⟩ dX11_text_140 (fun H locs hH => ?_)
      refine lv_goto (tgt := 74) C.hx C.hb dX11_text_143 (by decide) ?_
      exact h_rec74 hf hH (lv_sub hl [0] rfl)
    · rw [if_neg e1] at hf
      by_cases e2 : (M74 t 27) = 2
      · rw [if_pos e2] at hf
        refine r_tab (tgt := 146) C e2 ⟨by decide, by decide⟩ dX11_text_100 (by decide) (by decide) rfl (by decide) ?_
        refine lv_aload_n C.hx C.hb dX11_text_146 rfl (lv_at hl 0 rfl) ?_
        obtain ⟨M147, hc9, hf⟩ := cv_of hf
        refine r_callVv (rest := []) C hH hl o_t (by decide) rfl (m_X11_goesOn hn o_t hc9) ML_RX11_275 MF_X11_goesOn MI_X11_goesOn rfl rfl (Nat.le_of_ble_eq_true rfl) ⟨Nat.le_of_ble_eq_true rfl, Nat.le_of_ble_eq_true rfl⟩ ⟨Nat.le_refl _, Nat.le_refl _⟩ dX11_text_147 (fun H locs hH => ?_)
        refine lv_goto (tgt := 74) C.hx C.hb dX11_text_150 (by decide) ?_
        exact h_rec74 hf hH (lv_sub hl [0] rfl)
      · rw [if_neg e2] at hf
        by_cases e3 : (M74 t 27) = 3
        · rw [if_pos e3] at hf
          refine r_tab (tgt := 153) C e3 ⟨by decide, by decide⟩ dX11_text_100 (by decide) (by decide) rfl (by decide) ?_
          refine lv_aload_n C.hx C.hb dX11_text_153 rfl (lv_at hl 0 rfl) ?_
          obtain ⟨M154, hc9, hf⟩ := cv_of hf
          refine r_callVv (rest := []) C hH hl o_t (by decide) rfl (m_X11_asksOn hn o_t hc9) ML_RX11_278 MF_X11_asksOn MI_X11_asksOn rfl rfl (Nat.le_of_ble_eq_true rfl) ⟨Nat.le_of_ble_eq_true rfl, Nat.le_of_ble_eq_true rfl⟩ ⟨Nat.le_refl _, Nat.le_refl _⟩ dX11_text_154 (fun H locs hH => ?_)
          refine lv_goto (tgt := 74) C.hx C.hb dX11_text_157 (by decide) ?_
          exact h_rec74 hf hH (lv_sub hl [0] rfl)
        · rw [if_neg e3] at hf
          refine r_tabO (tgt := 160) C hR9 dX11_text_100 (by omega) (by decide) ?_
          refine lv_aload_n C.hx C.hb dX11_text_160 rfl (lv_at hl 0 rfl) ?_
          obtain ⟨M161, hc9, hf⟩ := cv_of hf
          refine r_callVv (rest := []) C hH hl o_t (by decide) rfl (m_X11_clause hn o_t hc9) ML_RX11_281 MF_X11_clause MI_X11_clause rfl rfl (Nat.le_of_ble_eq_true rfl) ⟨Nat.le_of_ble_eq_true rfl, Nat.le_of_ble_eq_true rfl⟩ ⟨Nat.le_refl _, Nat.le_refl _⟩ dX11_text_161 (fun H locs hH => ?_)
          refine lv_goto (tgt := 74) C.hx C.hb dX11_text_164 (by decide) ?_
          exact h_rec74 hf hH (lv_sub hl [0] rfl)
set_option maxRecDepth 100000 in
set_option maxHeartbeats 4000000 in
theorem l_X11_text_74 {p : Program} {l : Launch} {e : Env} {s : State} {m : MethodId} {args : Array Value} {below : List Frame} {meth : Method} {c : Code} {E : EE} {n : Nat} {o : (Int × Mem)} {t : Nat} (C : Cx E p s m args meth c cX11_text 3 RX11 (some .int) n "text") (hn : nfull n) (o_t : ob n t 11) : ∀ (k : Nat) (M74 : Mem) (H : Heap) (locs : List Loc) (ls : Array Slot), lq1 (fn_X11_text_L74 t) k M74 = some o → ST E s n (zf n) M74 H locs → lv_has ls 3 [(0, .ref (eb E + t))] → W p l e { frames := 5, cells := 0, slots := 0, locals := 109 } s m args below meth c H locs 0 0 (MQ below (QC E (some (i3 o.1)) n (zf n) o.2) args s 0 0 (fr E)) (F0 m 74 ls []) := by
  intro k
  induction k with
  | zero => intro M74 H locs ls hf; cases hf
  | succ k ih =>
    intro M74 H locs ls hf hH hl
    have h_rec74 : ∀ {M74 : Mem} {H : Heap} {locs : List Loc} {ls : Array Slot}, lq1 (fn_X11_text_L74 t) k M74 = some o → ST E s n (zf n) M74 H locs → lv_has ls 3 [(0, .ref (eb E + t))] → W p l e { frames := 5, cells := 0, slots := 0, locals := 109 } s m args below meth c H locs 0 0 (MQ below (QC E (some (i3 o.1)) n (zf n) o.2) args s 0 0 (fr E)) (F0 m 74 ls []) := fun {M74} {H} {locs} {ls} a b c => ih M74 H locs ls a b c
    replace hf : fn_X11_text_L74 t (lq1 (fn_X11_text_L74 t) k) M74 = some o := hf
    generalize lq1 (fn_X11_text_L74 t) k = rec74 at hf h_rec74
    unfold fn_X11_text_L74 at hf
    refine lv_aload_n C.hx C.hb dX11_text_74 rfl (lv_at hl 0 rfl) ?_
    refine g_int C hH o_t (by decide) rfl FL_RX11_187 dX11_text_75 ?_
    refine w_ne0 (tgt := 167) C hf dX11_text_78 (by decide) (fun hf => ?_) (fun hf => ?_)
    · exact j_X11_text_167 C hn o_t hf hH (lv_sub hl [0] rfl)
    · refine lv_aload_n C.hx C.hb dX11_text_81 rfl (lv_at hl 0 rfl) ?_
      refine g_int C hH o_t (by decide) rfl FL_RX11_231 dX11_text_82 ?_
      refine lv_iconst (v := Int32.ofInt 4) C.hx C.hb dX11_text_85 rfl ?_
      refine w_ne (tgt := 96) C hf dX11_text_86 (by decide) (fun hf => ?_) (fun hf => ?_)
      · exact j_X11_text_96 C hn o_t h_rec74 hf hH (lv_sub hl [0] rfl)
      · refine lv_aload_n C.hx C.hb dX11_text_89 rfl (lv_at hl 0 rfl) ?_
        refine g_int C hH o_t (by decide) rfl FL_RX11_171 dX11_text_90 ?_
        refine w_eq0 (tgt := 167) C hf dX11_text_93 (by decide) (fun hf => ?_) (fun hf => ?_)
        · exact j_X11_text_167 C hn o_t hf hH (lv_sub hl [0] rfl)
        · exact j_X11_text_96 C hn o_t h_rec74 hf hH (lv_sub hl [0] rfl)
set_option maxRecDepth 100000 in
set_option maxHeartbeats 4000000 in
theorem m_X11_text {E : EE} {l : Launch} {n : Nat} {t : Nat} {M : Mem} {o : (Int × Mem)} (hn : nfull n) (o_t : ob n t 11) (hf : fn_X11_text t M = some o) : CT E l yX11_text cX11_text 3 (some .int) 5 109 0 0 [.ref (eb E + t)] n (zf n) M (some (i3 o.1)) n (zf n) o.2 := by
  refine CT_of PN_RX11 (Nat.le_of_ble_eq_true rfl) ?_
  intro p e s m args below meth c C hH ls hl
  replace C : Cx E p s m args meth c cX11_text 3 RX11 (some .int) n "text" := C
  have hl : lv_has ls 3 [(0, .ref (eb E + t))] := hl
  unfold fn_X11_text at hf
  refine lv_aload_n C.hx C.hb dX11_text_0 rfl (lv_at hl 0 rfl) ?_
  refine g_ref (off := 1) C hH o_t (by decide) rfl rfl FL_RX11_7 dX11_text_1 ?_
  refine lv_iconst (v := Int32.ofInt 5) C.hx C.hb dX11_text_4 rfl ?_
  refine r_iald C hH (ly (i := 0) (off := 1) (k := 12) hn o_t rfl rfl rfl) (lyn (i := 0) (off := 1) (N := 287) hn o_t rfl rfl rfl) hf dX11_text_5 (fun x5 hf => ?_)
  refine lv_iconst (v := Int32.ofInt 4) C.hx C.hb dX11_text_6 rfl ?_
  refine w_ne (tgt := 12) C hf dX11_text_7 (by decide) (fun hf => ?_) (fun hf => ?_)
  · refine lv_aload_n C.hx C.hb dX11_text_12 rfl (lv_at hl 0 rfl) ?_
    refine lv_aload_n C.hx C.hb dX11_text_13 rfl (lv_at hl 0 rfl) ?_
    refine g_int C hH o_t (by decide) rfl FL_RX11_123 dX11_text_14 ?_
    refine r_put C hH o_t (by decide) rfl FL_RX11_165 FW_11_13 hf dX11_text_17 (fun M17 H locs hf hH => ?_)
    refine lv_aload_n C.hx C.hb dX11_text_20 rfl (lv_at hl 0 rfl) ?_
    refine lv_iconst (v := Int32.ofInt 0) C.hx C.hb dX11_text_21 rfl ?_
    refine r_put C hH o_t (by decide) rfl FL_RX11_123 FW_11_3 hf dX11_text_22 (fun M22 H locs hf hH => ?_)
    refine lv_aload_n C.hx C.hb dX11_text_25 rfl (lv_at hl 0 rfl) ?_
    refine lv_iconst (v := Int32.ofInt 0) C.hx C.hb dX11_text_26 rfl ?_
    refine r_put C hH o_t (by decide) rfl FL_RX11_162 FW_11_14 hf dX11_text_27 (fun M27 H locs hf hH => ?_)
    refine lv_aload_n C.hx C.hb dX11_text_30 rfl (lv_at hl 0 rfl) ?_
    refine lv_iconst (v := Int32.ofInt 0) C.hx C.hb dX11_text_31 rfl ?_
    refine r_put C hH o_t (by decide) rfl FL_RX11_187 FW_11_18 hf dX11_text_32 (fun M32 H locs hf hH => ?_)
    refine lv_aload_n C.hx C.hb dX11_text_35 rfl (lv_at hl 0 rfl) ?_
    refine lv_iconst (v := Int32.ofInt (-1)) C.hx C.hb dX11_text_36 rfl ?_
    refine r_put C hH o_t (by decide) rfl FL_RX11_190 FW_11_19 hf dX11_text_37 (fun M37 H locs hf hH => ?_)
    refine lv_aload_n C.hx C.hb dX11_text_40 rfl (lv_at hl 0 rfl) ?_
    refine lv_iconst (v := Int32.ofInt 0) C.hx C.hb dX11_text_41 rfl ?_
    refine r_put C hH o_t (by decide) rfl FL_RX11_199 FW_11_20 hf dX11_text_42 (fun M42 H locs hf hH => ?_)
    refine lv_aload_n C.hx C.hb dX11_text_45 rfl (lv_at hl 0 rfl) ?_
    refine lv_iconst (v := Int32.ofInt 0) C.hx C.hb dX11_text_46 rfl ?_
    refine r_put C hH o_t (by decide) rfl FL_RX11_196 FW_11_21 hf dX11_text_47 (fun M47 H locs hf hH => ?_)
    refine lv_aload_n C.hx C.hb dX11_text_50 rfl (lv_at hl 0 rfl) ?_
    refine lv_iconst (v := Int32.ofInt 0) C.hx C.hb dX11_text_51 rfl ?_
    refine r_put C hH o_t (by decide) rfl FL_RX11_211 FW_11_24 hf dX11_text_52 (fun M52 H locs hf hH => ?_)
    refine lv_aload_n C.hx C.hb dX11_text_55 rfl (lv_at hl 0 rfl) ?_
    refine lv_iconst (v := Int32.ofInt 4) C.hx C.hb dX11_text_56 rfl ?_
    refine r_put C hH o_t (by decide) rfl FL_RX11_231 FW_11_27 hf dX11_text_57 (fun M57 H locs hf hH => ?_)
    refine lv_aload_n C.hx C.hb dX11_text_60 rfl (lv_at hl 0 rfl) ?_
    refine lv_iconst (v := Int32.ofInt 0) C.hx C.hb dX11_text_61 rfl ?_
    refine r_put C hH o_t (by decide) rfl FL_RX11_256 FW_11_28 hf dX11_text_62 (fun M62 H locs hf hH => ?_)
    refine lv_aload_n C.hx C.hb dX11_text_65 rfl (lv_at hl 0 rfl) ?_
    refine lv_iconst (v := Int32.ofInt 0) C.hx C.hb dX11_text_66 rfl ?_
    refine r_put C hH o_t (by decide) rfl FL_RX11_193 FW_11_34 hf dX11_text_67 (fun M67 H locs hf hH => ?_)
    refine lv_aload_n C.hx C.hb dX11_text_70 rfl (lv_at hl 0 rfl) ?_
    obtain ⟨M71, hc9, hf⟩ := cv_of hf
    refine r_callVv (rest := []) C hH hl o_t (by decide) rfl (m_X11_next hn o_t hc9) ML_RX11_208 MF_X11_next MI_X11_next rfl rfl (Nat.le_of_ble_eq_true rfl) ⟨Nat.le_of_ble_eq_true rfl, Nat.le_of_ble_eq_true rfl⟩ ⟨Nat.le_refl _, Nat.le_refl _⟩ dX11_text_71 (fun H locs hH => ?_)
    exact l_X11_text_74 C hn o_t FU _ _ _ _ hf hH (lv_sub hl [0] rfl)
  · refine lv_iconst (v := Int32.ofInt (-1)) C.hx C.hb dX11_text_10 rfl ?_
    cases hf
    exact w_iret C hH dX11_text_11
-- HeavierByHandModel.fault
def fn_X11_fault (t : Nat) (a1 : Int) (M : Mem) : Option Int :=
  cEq a1 0 (some (M t 4)) (cEq a1 1 (some (M t 5)) (some (-1)))
set_option maxRecDepth 100000 in
set_option maxHeartbeats 4000000 in
theorem m_X11_fault {E : EE} {l : Launch} {n : Nat} {t : Nat} {a1 : Int} {M : Mem} {o : Int} (hn : nfull n) (o_t : ob n t 11) (hf : fn_X11_fault t a1 M = some o) : CT E l yX11_fault cX11_fault 2 (some .int) 0 0 0 0 [.ref (eb E + t), i3 a1] n (zf n) M (some (i3 o)) n (zf n) M := by
  refine CT_of PN_RX11 (Nat.le_of_ble_eq_true rfl) ?_
  intro p e s m args below meth c C hH ls hl
  replace C : Cx E p s m args meth c cX11_fault 2 RX11 (some .int) n "fault" := C
  have hl : lv_has ls 2 [(0, .ref (eb E + t)), (1, i3 a1)] := hl
  unfold fn_X11_fault at hf
  refine lv_iload_n C.hx C.hb dX11_fault_0 rfl (lv_at hl 1 rfl) ?_
  refine w_ne0 (tgt := 11) C hf dX11_fault_1 (by decide) (fun hf => ?_) (fun hf => ?_)
  · refine lv_iload_n C.hx C.hb dX11_fault_11 rfl (lv_at hl 1 rfl) ?_
    refine lv_iconst (v := Int32.ofInt 1) C.hx C.hb dX11_fault_12 rfl ?_
    refine w_ne (tgt := 23) C hf dX11_fault_13 (by decide) (fun hf => ?_) (fun hf => ?_)
    · refine lv_iconst (v := Int32.ofInt (-1)) C.hx C.hb dX11_fault_23 rfl ?_
      cases hf
      exact w_iret C hH dX11_fault_24
    · refine lv_aload_n C.hx C.hb dX11_fault_16 rfl (lv_at hl 0 rfl) ?_
      refine g_int C hH o_t (by decide) rfl FL_RX11_24 dX11_fault_17 ?_
      refine lv_goto (tgt := 24) C.hx C.hb dX11_fault_20 (by decide) ?_
      cases hf
      exact w_iret C hH dX11_fault_24
  · refine lv_aload_n C.hx C.hb dX11_fault_4 rfl (lv_at hl 0 rfl) ?_
    refine g_int C hH o_t (by decide) rfl FL_RX11_20 dX11_fault_5 ?_
    refine lv_goto (tgt := 24) C.hx C.hb dX11_fault_8 (by decide) ?_
    cases hf
    exact w_iret C hH dX11_fault_24
-- HeavierByHandModel.bound
def fn_X11_bound (a0 : Int) (M : Mem) : Option Int :=
  dLt 1000000 a0 (some 1000000) (dLt a0 (-1000000) (some (-1000000)) (some a0))
set_option maxRecDepth 100000 in
set_option maxHeartbeats 4000000 in
theorem m_X11_bound {E : EE} {l : Launch} {n : Nat} {a0 : Int} {M : Mem} {o : Int} (hn : nfull n) (hf : fn_X11_bound a0 M = some o) : CT E l yX11_bound cX11_bound 2 (some .long) 0 0 0 0 [l6 a0] n (zf n) M (some (l6 o)) n (zf n) M := by
  refine CT_of PN_RX11 (Nat.le_of_ble_eq_true rfl) ?_
  intro p e s m args below meth c C hH ls hl
  replace C : Cx E p s m args meth c cX11_bound 2 RX11 (some .long) n "bound" := C
  have hl : lv_has ls 2 [(0, l6 a0)] := hl
  unfold fn_X11_bound at hf
  refine lv_lload_n C.hx C.hb dX11_bound_0 rfl (lv_at hl 0 rfl) ?_
  refine r_ldc2 (x := 1000000) C KL_RX11_284 dX11_bound_1 ?_
  refine w_lle (tgt := 14) C hf dX11_bound_4 dX11_bound_5 (by decide) (fun hf => ?_) (fun hf => ?_)
  · refine lv_lload_n C.hx C.hb dX11_bound_14 rfl (lv_at hl 0 rfl) ?_
    refine r_ldc2 (x := (-1000000)) C KL_RX11_286 dX11_bound_15 ?_
    refine w_lge (tgt := 28) C hf dX11_bound_18 dX11_bound_19 (by decide) (fun hf => ?_) (fun hf => ?_)
    · refine lv_lload_n C.hx C.hb dX11_bound_28 rfl (lv_at hl 0 rfl) ?_
      cases hf
      exact w_lret C hH dX11_bound_29
    · refine r_ldc2 (x := (-1000000)) C KL_RX11_286 dX11_bound_22 ?_
      refine lv_goto (tgt := 29) C.hx C.hb dX11_bound_25 (by decide) ?_
      cases hf
      exact w_lret C hH dX11_bound_29
  · refine r_ldc2 (x := 1000000) C KL_RX11_284 dX11_bound_8 ?_
    refine lv_goto (tgt := 29) C.hx C.hb dX11_bound_11 (by decide) ?_
    cases hf
    exact w_lret C hH dX11_bound_29
-- HeavierByHandModel.worked
def fn_X11_worked (a0 : Int) (a1 : Int) (a3 : Int) (M : Mem) : Option Int :=
  ck (R3 a0) <| if a0 = 35 then (dEq a1 a3 (some 0) (some 1)) else if a0 = 42 then (cu (fn_X11_bound (a1 * a3) M) fun x117 => some x117) else if a0 = 43 then (cu (fn_X11_bound (a1 + a3) M) fun x103 => some x103) else if a0 = 45 then (cu (fn_X11_bound (a1 - a3) M) fun x110 => some x110) else if a0 = 47 then (dEq a3 0 (some 0) (ck (R6 a1 ∧ R6 a3 ∧ a3 ≠ (0 : Int)) <| some (a1.tdiv a3))) else if a0 = 60 then (dLt a1 a3 (some 1) (some 0)) else if a0 = 61 then (dEq a1 a3 (some 1) (some 0)) else if a0 = 62 then (dLt a3 a1 (some 1) (some 0)) else if a0 = 300 then (dLt a3 a1 (some 0) (some 1)) else if a0 = 301 then (dLt a1 a3 (some 0) (some 1)) else if a0 = 406 then (some (a1 * a3)) else dLt 0 (a1 + a3) (some 1) (some 0)
set_option maxRecDepth 100000 in
set_option maxHeartbeats 4000000 in
theorem m_X11_worked {E : EE} {l : Launch} {n : Nat} {a0 : Int} {a1 : Int} {a3 : Int} {M : Mem} {o : Int} (hn : nfull n) (hf : fn_X11_worked a0 a1 a3 M = some o) : CT E l yX11_worked cX11_worked 5 (some .long) 1 21 0 0 [i3 a0, l6 a1, l6 a3] n (zf n) M (some (l6 o)) n (zf n) M := by
  refine CT_of PN_RX11 (Nat.le_of_ble_eq_true rfl) ?_
  intro p e s m args below meth c C hH ls hl
  replace C : Cx E p s m args meth c cX11_worked 5 RX11 (some .long) n "worked" := C
  have hl : lv_has ls 5 [(0, i3 a0), (1, l6 a1), (3, l6 a3)] := hl
  unfold fn_X11_worked at hf
  refine lv_iload_n C.hx C.hb dX11_worked_0 rfl (lv_at hl 0 rfl) ?_
  obtain ⟨hR9, hf⟩ := ck_of hf
  by_cases e0 : a0 = 35
  · rw [if_pos e0] at hf
    refine r_look (off := 170) (tgt := 171) C hR9 dX11_worked_1 (by decide) (by rw [e0]; decide) (by decide) ?_
    refine lv_lload_n C.hx C.hb dX11_worked_171 rfl (lv_at hl 1 rfl) ?_
    refine lv_lload_n C.hx C.hb dX11_worked_172 rfl (lv_at hl 2 rfl) ?_
    refine w_leq (tgt := 181) C hf dX11_worked_173 dX11_worked_174 (by decide) (fun hf => ?_) (fun hf => ?_)
    · refine lv_lconst (v := Int64.ofInt 0) C.hx C.hb dX11_worked_181 (by decide) ?_
      cases hf
      exact w_lret C hH dX11_worked_182
    · refine lv_lconst (v := Int64.ofInt 1) C.hx C.hb dX11_worked_177 (by decide) ?_
      refine lv_goto (tgt := 182) C.hx C.hb dX11_worked_178 (by decide) ?_
      cases hf
      exact w_lret C hH dX11_worked_182
  · rw [if_neg e0] at hf
    by_cases e1 : a0 = 42
    · rw [if_pos e1] at hf
      refine r_look (off := 113) (tgt := 114) C hR9 dX11_worked_1 (by decide) (by rw [e1]; decide) (by decide) ?_
      refine lv_lload_n C.hx C.hb dX11_worked_114 rfl (lv_at hl 1 rfl) ?_
      refine lv_lload_n C.hx C.hb dX11_worked_115 rfl (lv_at hl 2 rfl) ?_
      refine w_lmul C dX11_worked_116 ?_
      obtain ⟨x117, hc9, hf⟩ := cu_of hf
      refine r_callSi (rest := []) C hH hl (m_X11_bound hn hc9) ML_RX11_288 MF_X11_bound MS_X11_bound rfl rfl (Nat.le_of_ble_eq_true rfl) ⟨Nat.le_of_ble_eq_true rfl, Nat.le_of_ble_eq_true rfl⟩ ⟨Nat.le_refl _, Nat.le_refl _⟩ dX11_worked_117 (fun H locs hH => ?_)
      cases hf
      exact w_lret C hH dX11_worked_120
    · rw [if_neg e1] at hf
      by_cases e2 : a0 = 43
      · rw [if_pos e2] at hf
        refine r_look (off := 99) (tgt := 100) C hR9 dX11_worked_1 (by decide) (by rw [e2]; decide) (by decide) ?_
        refine lv_lload_n C.hx C.hb dX11_worked_100 rfl (lv_at hl 1 rfl) ?_
        refine lv_lload_n C.hx C.hb dX11_worked_101 rfl (lv_at hl 2 rfl) ?_
        refine w_ladd C dX11_worked_102 ?_
        obtain ⟨x103, hc9, hf⟩ := cu_of hf
        refine r_callSi (rest := []) C hH hl (m_X11_bound hn hc9) ML_RX11_288 MF_X11_bound MS_X11_bound rfl rfl (Nat.le_of_ble_eq_true rfl) ⟨Nat.le_of_ble_eq_true rfl, Nat.le_of_ble_eq_true rfl⟩ ⟨Nat.le_refl _, Nat.le_refl _⟩ dX11_worked_103 (fun H locs hH => ?_)
        cases hf
        exact w_lret C hH dX11_worked_106
      · rw [if_neg e2] at hf
        by_cases e3 : a0 = 45
        · rw [if_pos e3] at hf
          refine r_look (off := 106) (tgt := 107) C hR9 dX11_worked_1 (by decide) (by rw [e3]; decide) (by decide) ?_
          refine lv_lload_n C.hx C.hb dX11_worked_107 rfl (lv_at hl 1 rfl) ?_
          refine lv_lload_n C.hx C.hb dX11_worked_108 rfl (lv_at hl 2 rfl) ?_
          refine w_lsub C dX11_worked_109 ?_
          obtain ⟨x110, hc9, hf⟩ := cu_of hf
          refine r_callSi (rest := []) C hH hl (m_X11_bound hn hc9) ML_RX11_288 MF_X11_bound MS_X11_bound rfl rfl (Nat.le_of_ble_eq_true rfl) ⟨Nat.le_of_ble_eq_true rfl, Nat.le_of_ble_eq_true rfl⟩ ⟨Nat.le_refl _, Nat.le_refl _⟩ dX11_worked_110 (fun H locs hH => ?_)
          cases hf
          exact w_lret C hH dX11_worked_113
        · rw [if_neg e3] at hf
          by_cases e4 : a0 = 47
          · rw [if_pos e4] at hf
            refine r_look (off := 120) (tgt := 121) C hR9 dX11_worked_1 (by decide) (by rw [e4]; decide) (by decide) ?_
            refine lv_lload_n C.hx C.hb dX11_worked_121 rfl (lv_at hl 2 rfl) ?_
            refine lv_lconst (v := Int64.ofInt 0) C.hx C.hb dX11_worked_122 (by decide) ?_
            refine w_lne (tgt := 131) C hf dX11_worked_123 dX11_worked_124 (by decide) (fun hf => ?_) (fun hf => ?_)
            · refine lv_lload_n C.hx C.hb dX11_worked_131 rfl (lv_at hl 1 rfl) ?_
              refine lv_lload_n C.hx C.hb dX11_worked_132 rfl (lv_at hl 2 rfl) ?_
              obtain ⟨hR8, hf⟩ := ck_of hf
              refine w_ldiv C hR8 dX11_worked_133 ?_
              cases hf
              exact w_lret C hH dX11_worked_134
            · refine lv_lconst (v := Int64.ofInt 0) C.hx C.hb dX11_worked_127 (by decide) ?_
              refine lv_goto (tgt := 134) C.hx C.hb dX11_worked_128 (by decide) ?_
              cases hf
              exact w_lret C hH dX11_worked_134
          · rw [if_neg e4] at hf
            by_cases e5 : a0 = 60
            · rw [if_pos e5] at hf
              refine r_look (off := 134) (tgt := 135) C hR9 dX11_worked_1 (by decide) (by rw [e5]; decide) (by decide) ?_
              refine lv_lload_n C.hx C.hb dX11_worked_135 rfl (lv_at hl 1 rfl) ?_
              refine lv_lload_n C.hx C.hb dX11_worked_136 rfl (lv_at hl 2 rfl) ?_
              refine w_lge (tgt := 145) C hf dX11_worked_137 dX11_worked_138 (by decide) (fun hf => ?_) (fun hf => ?_)
              · refine lv_lconst (v := Int64.ofInt 0) C.hx C.hb dX11_worked_145 (by decide) ?_
                cases hf
                exact w_lret C hH dX11_worked_146
              · refine lv_lconst (v := Int64.ofInt 1) C.hx C.hb dX11_worked_141 (by decide) ?_
                refine lv_goto (tgt := 146) C.hx C.hb dX11_worked_142 (by decide) ?_
                cases hf
                exact w_lret C hH dX11_worked_146
            · rw [if_neg e5] at hf
              by_cases e6 : a0 = 61
              · rw [if_pos e6] at hf
                refine r_look (off := 158) (tgt := 159) C hR9 dX11_worked_1 (by decide) (by rw [e6]; decide) (by decide) ?_
                refine lv_lload_n C.hx C.hb dX11_worked_159 rfl (lv_at hl 1 rfl) ?_
                refine lv_lload_n C.hx C.hb dX11_worked_160 rfl (lv_at hl 2 rfl) ?_
                refine w_lne (tgt := 169) C hf dX11_worked_161 dX11_worked_162 (by decide) (fun hf => ?_) (fun hf => ?_)
                · refine lv_lconst (v := Int64.ofInt 0) C.hx C.hb dX11_worked_169 (by decide) ?_
                  cases hf
                  exact w_lret C hH dX11_worked_170
                · refine lv_lconst (v := Int64.ofInt 1) C.hx C.hb dX11_worked_165 (by decide) ?_
                  refine lv_goto (tgt := 170) C.hx C.hb dX11_worked_166 (by decide) ?_
                  cases hf
                  exact w_lret C hH dX11_worked_170
              · rw [if_neg e6] at hf
                by_cases e7 : a0 = 62
                · rw [if_pos e7] at hf
                  refine r_look (off := 146) (tgt := 147) C hR9 dX11_worked_1 (by decide) (by rw [e7]; decide) (by decide) ?_
                  refine lv_lload_n C.hx C.hb dX11_worked_147 rfl (lv_at hl 1 rfl) ?_
                  refine lv_lload_n C.hx C.hb dX11_worked_148 rfl (lv_at hl 2 rfl) ?_
                  refine w_lle (tgt := 157) C hf dX11_worked_149 dX11_worked_150 (by decide) (fun hf => ?_) (fun hf => ?_)
                  · refine lv_lconst (v := Int64.ofInt 0) C.hx C.hb dX11_worked_157 (by decide) ?_
                    cases hf
                    exact w_lret C hH dX11_worked_158
                  · refine lv_lconst (v := Int64.ofInt 1) C.hx C.hb dX11_worked_153 (by decide) ?_
                    refine lv_goto (tgt := 158) C.hx C.hb dX11_worked_154 (by decide) ?_
                    cases hf
                    exact w_lret C hH dX11_worked_158
                · rw [if_neg e7] at hf
                  by_cases e8 : a0 = 300
                  · rw [if_pos e8] at hf
                    refine r_look (off := 182) (tgt := 183) C hR9 dX11_worked_1 (by decide) (by rw [e8]; decide) (by decide) ?_
                    refine lv_lload_n C.hx C.hb dX11_worked_183 rfl (lv_at hl 1 rfl) ?_
                    refine lv_lload_n C.hx C.hb dX11_worked_184 rfl (lv_at hl 2 rfl) ?_
                    refine w_lgt (tgt := 193) C hf dX11_worked_185 dX11_worked_186 (by decide) (fun hf => ?_) (fun hf => ?_)
                    · refine lv_lconst (v := Int64.ofInt 0) C.hx C.hb dX11_worked_193 (by decide) ?_
                      cases hf
                      exact w_lret C hH dX11_worked_194
                    · refine lv_lconst (v := Int64.ofInt 1) C.hx C.hb dX11_worked_189 (by decide) ?_
                      refine lv_goto (tgt := 194) C.hx C.hb dX11_worked_190 (by decide) ?_
                      cases hf
                      exact w_lret C hH dX11_worked_194
                  · rw [if_neg e8] at hf
                    by_cases e9 : a0 = 301
                    · rw [if_pos e9] at hf
                      refine r_look (off := 194) (tgt := 195) C hR9 dX11_worked_1 (by decide) (by rw [e9]; decide) (by decide) ?_
                      refine lv_lload_n C.hx C.hb dX11_worked_195 rfl (lv_at hl 1 rfl) ?_
                      refine lv_lload_n C.hx C.hb dX11_worked_196 rfl (lv_at hl 2 rfl) ?_
                      refine w_llt (tgt := 205) C hf dX11_worked_197 dX11_worked_198 (by decide) (fun hf => ?_) (fun hf => ?_)
                      · refine lv_lconst (v := Int64.ofInt 0) C.hx C.hb dX11_worked_205 (by decide) ?_
                        cases hf
                        exact w_lret C hH dX11_worked_206
                      · refine lv_lconst (v := Int64.ofInt 1) C.hx C.hb dX11_worked_201 (by decide) ?_
                        refine lv_goto (tgt := 206) C.hx C.hb dX11_worked_202 (by decide) ?_
                        cases hf
                        exact w_lret C hH dX11_worked_206
                    · rw [if_neg e9] at hf
                      by_cases e10 : a0 = 406
                      · rw [if_pos e10] at hf
                        refine r_look (off := 206) (tgt := 207) C hR9 dX11_worked_1 (by decide) (by rw [e10]; decide) (by decide) ?_
                        refine lv_lload_n C.hx C.hb dX11_worked_207 rfl (lv_at hl 1 rfl) ?_
                        refine lv_lload_n C.hx C.hb dX11_worked_208 rfl (lv_at hl 2 rfl) ?_
                        refine w_lmul C dX11_worked_209 ?_
                        cases hf
                        exact w_lret C hH dX11_worked_210
                      · rw [if_neg e10] at hf
                        refine r_look (off := 210) (tgt := 211) C hR9 dX11_worked_1 (by decide) (by simp only [Op.lookupswitch.offset_cons, Op.lookupswitch.offset_nil, if_neg (Ne.symm e0), if_neg (Ne.symm e1), if_neg (Ne.symm e2), if_neg (Ne.symm e3), if_neg (Ne.symm e4), if_neg (Ne.symm e5), if_neg (Ne.symm e6), if_neg (Ne.symm e7), if_neg (Ne.symm e8), if_neg (Ne.symm e9), if_neg (Ne.symm e10)]) (by decide) ?_
                        refine lv_lload_n C.hx C.hb dX11_worked_211 rfl (lv_at hl 1 rfl) ?_
                        refine lv_lload_n C.hx C.hb dX11_worked_212 rfl (lv_at hl 2 rfl) ?_
                        refine w_ladd C dX11_worked_213 ?_
                        refine lv_lconst (v := Int64.ofInt 0) C.hx C.hb dX11_worked_214 (by decide) ?_
                        refine w_lle (tgt := 223) C hf dX11_worked_215 dX11_worked_216 (by decide) (fun hf => ?_) (fun hf => ?_)
                        · refine lv_lconst (v := Int64.ofInt 0) C.hx C.hb dX11_worked_223 (by decide) ?_
                          cases hf
                          exact w_lret C hH dX11_worked_224
                        · refine lv_lconst (v := Int64.ofInt 1) C.hx C.hb dX11_worked_219 (by decide) ?_
                          refine lv_goto (tgt := 224) C.hx C.hb dX11_worked_220 (by decide) ?_
                          cases hf
                          exact w_lret C hH dX11_worked_224
-- HeavierByHandModel.saysOf
def fn_X11_saysOf_J169 (v3_4 : Int) (rec4 : Int → Int → Mem → Option (Int × Mem)) (v2_169 : Int) (M169 : Mem) : Option (Int × Mem) :=
  nm (v3_4 + 1) fun v3_169 => rec4 v3_169 v2_169 M169
def fn_X11_saysOf_J75 (t : Nat) (v3_4 : Int) (v2_4 : Int) (M4 : Mem) (rec4 : Int → Int → Mem → Option (Int × Mem)) (u0_75 : Int) : Option (Int × Mem) :=
  wr M4 (t + 22) 200 v2_4 u0_75 fun M75 => nm (v2_4 + 1) fun v2_76 => fn_X11_saysOf_J169 v3_4 rec4 v2_76 M75
def fn_X11_saysOf_J40 (t : Nat) (v3_4 : Int) (v2_4 : Int) (M4 : Mem) (rec4 : Int → Int → Mem → Option (Int × Mem)) (x21 : Int) : Option (Int × Mem) :=
  cEq x21 400 (rd M4 (t + 10) 1600 v3_4 fun x58 => ck (R3 x58) <| fn_X11_saysOf_J75 t v3_4 v2_4 M4 rec4 x58) (rd M4 (t + 10) 1600 v3_4 fun x72 => rd M4 (t + 21) 7 x72 fun x73 => ck (R3 x73) <| fn_X11_saysOf_J75 t v3_4 v2_4 M4 rec4 x73)
def fn_X11_saysOf_L4 (t : Nat) (rec4 : Int → Int → Mem → Option (Int × Mem)) (v3_4 : Int) (v2_4 : Int) (M4 : Mem) : Option (Int × Mem) :=
  rd M4 (t + 9) 1600 v3_4 fun x9 => cEq x9 408 (rd M4 (t + 22) 200 0 fun x180 => some (x180, M4)) (rd M4 (t + 9) 1600 v3_4 fun x21 => cEq x21 400 (fn_X11_saysOf_J40 t v3_4 v2_4 M4 rec4 x21) (cEq x21 401 (fn_X11_saysOf_J40 t v3_4 v2_4 M4 rec4 x21) (cEq x21 402 (rd M4 (t + 22) 200 (v2_4 - 1) fun x104 => wr M4 (t + 22) 200 (v2_4 - 1) (-x104) fun M106 => fn_X11_saysOf_J169 v3_4 rec4 v2_4 M106) (cEq x21 405 (rd M4 (t + 22) 200 (v2_4 - 1) fun x133 => wr M4 (t + 22) 200 (v2_4 - 1) (1 - x133) fun M135 => fn_X11_saysOf_J169 v3_4 rec4 v2_4 M135) (nm (v2_4 + (-1)) fun v2_139 => rd M4 (t + 22) 200 (v2_139 - 1) fun x158 => rd M4 (t + 22) 200 v2_139 fun x164 => cu (fn_X11_worked x21 x158 x164 M4) fun x165 => wr M4 (t + 22) 200 (v2_139 - 1) x165 fun M168 => fn_X11_saysOf_J169 v3_4 rec4 v2_139 M168)))))
def fn_X11_saysOf (t : Nat) (a1 : Int) (M : Mem) : Option (Int × Mem) :=
  lq3 (fn_X11_saysOf_L4 t) FU a1 0 M
set_option maxRecDepth 100000 in
set_option maxHeartbeats 4000000 in
theorem j_X11_saysOf_169 {p : Program} {l : Launch} {e : Env} {s : State} {m : MethodId} {args : Array Value} {below : List Frame} {meth : Method} {c : Code} {E : EE} {n : Nat} {o : (Int × Mem)} {t : Nat} {v3_4 : Int} {rec4 : Int → Int → Mem → Option (Int × Mem)} {v2_169 : Int} {M169 : Mem} {H : Heap} {locs : List Loc} {ls : Array Slot} (C : Cx E p s m args meth c cX11_saysOf 5 RX11 (some .long) n "saysOf") (hn : nfull n) (o_t : ob n t 11) (h_rec4 : ∀ {v3_4 : Int} {v2_4 : Int} {M4 : Mem} {H : Heap} {locs : List Loc} {ls : Array Slot}, rec4 v3_4 v2_4 M4 = some o → ST E s n (zf n) M4 H locs → lv_has ls 5 [(0, .ref (eb E + t)), (2, i3 v2_4), (3, i3 v3_4)] → W p l e { frames := 2, cells := 0, slots := 0, locals := 45 } s m args below meth c H locs 0 0 (MQ below (QC E (some (l6 o.1)) n (zf n) o.2) args s 0 0 (fr E)) (F0 m 4 ls [])) (hf : fn_X11_saysOf_J169 v3_4 rec4 v2_169 M169 = some o) (hH : ST E s n (zf n) M169 H locs) (hl : lv_has ls 5 [(0, .ref (eb E + t)), (2, i3 v2_169), (3, i3 v3_4)]) : W p l e { frames := 2, cells := 0, slots := 0, locals := 45 } s m args below meth c H locs 0 0 (MQ below (QC E (some (l6 o.1)) n (zf n) o.2) args s 0 0 (fr E)) (F0 m 169 ls []) := by
  unfold fn_X11_saysOf_J169 at hf
  refine r_iinc (k := 2) (lv' := fun v => [(3, i3 v), (0, .ref (eb E + t)), (2, i3 v2_169)]) C hf dX11_saysOf_169 hl rfl (by decide) (fun _ => rfl) (fun v3_169 ls hf hl => ?_)
  refine lv_goto (tgt := 4) C.hx C.hb dX11_saysOf_172 (by decide) ?_
  exact h_rec4 hf hH (lv_sub hl [1, 2, 0] rfl)
set_option maxRecDepth 100000 in
set_option maxHeartbeats 4000000 in
theorem j_X11_saysOf_75 {p : Program} {l : Launch} {e : Env} {s : State} {m : MethodId} {args : Array Value} {below : List Frame} {meth : Method} {c : Code} {E : EE} {n : Nat} {o : (Int × Mem)} {t : Nat} {v3_4 : Int} {v2_4 : Int} {M4 : Mem} {rec4 : Int → Int → Mem → Option (Int × Mem)} {u0_75 : Int} {H : Heap} {locs : List Loc} {ls : Array Slot} (C : Cx E p s m args meth c cX11_saysOf 5 RX11 (some .long) n "saysOf") (hn : nfull n) (o_t : ob n t 11) (h_rec4 : ∀ {v3_4 : Int} {v2_4 : Int} {M4 : Mem} {H : Heap} {locs : List Loc} {ls : Array Slot}, rec4 v3_4 v2_4 M4 = some o → ST E s n (zf n) M4 H locs → lv_has ls 5 [(0, .ref (eb E + t)), (2, i3 v2_4), (3, i3 v3_4)] → W p l e { frames := 2, cells := 0, slots := 0, locals := 45 } s m args below meth c H locs 0 0 (MQ below (QC E (some (l6 o.1)) n (zf n) o.2) args s 0 0 (fr E)) (F0 m 4 ls [])) (hf : fn_X11_saysOf_J75 t v3_4 v2_4 M4 rec4 u0_75 = some o) (hH : ST E s n (zf n) M4 H locs) (hl : lv_has ls 5 [(0, .ref (eb E + t)), (2, i3 v2_4), (3, i3 v3_4)]) : W p l e { frames := 2, cells := 0, slots := 0, locals := 45 } s m args below meth c H locs 0 0 (MQ below (QC E (some (l6 o.1)) n (zf n) o.2) args s 0 0 (fr E)) (F0 m 75 ls [l6 u0_75, i3 v2_4, .ref (eb E + (t + 22))]) := by
  unfold fn_X11_saysOf_J75 at hf
  refine r_last C hH (ly (i := 38) (off := 22) (k := 15) hn o_t rfl rfl rfl) (lyn (i := 38) (off := 22) (N := 199) hn o_t rfl rfl rfl) hf dX11_saysOf_75 (fun M75 H locs hf hH => ?_)
  refine r_iinc (k := 1) (lv' := fun v => [(2, i3 v), (0, .ref (eb E + t)), (3, i3 v3_4)]) C hf dX11_saysOf_76 hl rfl (by decide) (fun _ => rfl) (fun v2_76 ls hf hl => ?_)
  refine lv_goto (tgt := 169) C.hx C.hb dX11_saysOf_79 (by decide) ?_
  exact j_X11_saysOf_169 C hn o_t h_rec4 hf hH (lv_sub hl [1, 0, 2] rfl)
set_option maxRecDepth 100000 in
set_option maxHeartbeats 4000000 in
theorem j_X11_saysOf_40 {p : Program} {l : Launch} {e : Env} {s : State} {m : MethodId} {args : Array Value} {below : List Frame} {meth : Method} {c : Code} {E : EE} {n : Nat} {o : (Int × Mem)} {t : Nat} {v3_4 : Int} {v2_4 : Int} {M4 : Mem} {rec4 : Int → Int → Mem → Option (Int × Mem)} {x21 : Int} {H : Heap} {locs : List Loc} {ls : Array Slot} (C : Cx E p s m args meth c cX11_saysOf 5 RX11 (some .long) n "saysOf") (hn : nfull n) (o_t : ob n t 11) (h_rec4 : ∀ {v3_4 : Int} {v2_4 : Int} {M4 : Mem} {H : Heap} {locs : List Loc} {ls : Array Slot}, rec4 v3_4 v2_4 M4 = some o → ST E s n (zf n) M4 H locs → lv_has ls 5 [(0, .ref (eb E + t)), (2, i3 v2_4), (3, i3 v3_4)] → W p l e { frames := 2, cells := 0, slots := 0, locals := 45 } s m args below meth c H locs 0 0 (MQ below (QC E (some (l6 o.1)) n (zf n) o.2) args s 0 0 (fr E)) (F0 m 4 ls [])) (hf : fn_X11_saysOf_J40 t v3_4 v2_4 M4 rec4 x21 = some o) (hH : ST E s n (zf n) M4 H locs) (hl : lv_has ls 5 [(0, .ref (eb E + t)), (2, i3 v2_4), (3, i3 v3_4), (4, i3 x21)]) : W p l e { frames := 2, cells := 0, slots := 0, locals := 45 } s m args below meth c H locs 0 0 (MQ below (QC E (some (l6 o.1)) n (zf n) o.2) args s 0 0 (fr E)) (F0 m 40 ls []) := by
  unfold fn_X11_saysOf_J40 at hf
  refine lv_aload_n C.hx C.hb dX11_saysOf_40 rfl (lv_at hl 0 rfl) ?_
  refine g_ref (off := 22) C hH o_t (by decide) rfl rfl FL_RX11_81 dX11_saysOf_41 ?_
  refine lv_iload_n C.hx C.hb dX11_saysOf_44 rfl (lv_at hl 1 rfl) ?_
  refine lv_iload C.hx C.hb dX11_saysOf_45 (lv_at hl 3 rfl) ?_
  refine lv_sipush (v := Int32.ofInt 400) C.hx C.hb dX11_saysOf_47 (by decide) ?_
  refine w_ne (tgt := 63) C hf dX11_saysOf_50 (by decide) (fun hf => ?_) (fun hf => ?_)
  · refine lv_aload_n C.hx C.hb dX11_saysOf_63 rfl (lv_at hl 0 rfl) ?_
    refine g_ref (off := 21) C hH o_t (by decide) rfl rfl FL_RX11_78 dX11_saysOf_64 ?_
    refine lv_aload_n C.hx C.hb dX11_saysOf_67 rfl (lv_at hl 0 rfl) ?_
    refine g_ref (off := 10) C hH o_t (by decide) rfl rfl FL_RX11_45 dX11_saysOf_68 ?_
    refine lv_iload_n C.hx C.hb dX11_saysOf_71 rfl (lv_at hl 2 rfl) ?_
    refine r_iald C hH (ly (i := 12) (off := 10) (k := 12) hn o_t rfl rfl rfl) (lyn (i := 12) (off := 10) (N := 1599) hn o_t rfl rfl rfl) hf dX11_saysOf_72 (fun x72 hf => ?_)
    refine r_iald C hH (ly (i := 37) (off := 21) (k := 12) hn o_t rfl rfl rfl) (lyn (i := 37) (off := 21) (N := 6) hn o_t rfl rfl rfl) hf dX11_saysOf_73 (fun x73 hf => ?_)
    obtain ⟨hR8, hf⟩ := ck_of hf
    refine w_i2l C hR8 dX11_saysOf_74 ?_
    exact j_X11_saysOf_75 C hn o_t h_rec4 hf hH (lv_sub hl [0, 1, 2] rfl)
  · refine lv_aload_n C.hx C.hb dX11_saysOf_53 rfl (lv_at hl 0 rfl) ?_
    refine g_ref (off := 10) C hH o_t (by decide) rfl rfl FL_RX11_45 dX11_saysOf_54 ?_
    refine lv_iload_n C.hx C.hb dX11_saysOf_57 rfl (lv_at hl 2 rfl) ?_
    refine r_iald C hH (ly (i := 12) (off := 10) (k := 12) hn o_t rfl rfl rfl) (lyn (i := 12) (off := 10) (N := 1599) hn o_t rfl rfl rfl) hf dX11_saysOf_58 (fun x58 hf => ?_)
    obtain ⟨hR8, hf⟩ := ck_of hf
    refine w_i2l C hR8 dX11_saysOf_59 ?_
    refine lv_goto (tgt := 75) C.hx C.hb dX11_saysOf_60 (by decide) ?_
    exact j_X11_saysOf_75 C hn o_t h_rec4 hf hH (lv_sub hl [0, 1, 2] rfl)
set_option maxRecDepth 100000 in
set_option maxHeartbeats 4000000 in
theorem l_X11_saysOf_4 {p : Program} {l : Launch} {e : Env} {s : State} {m : MethodId} {args : Array Value} {below : List Frame} {meth : Method} {c : Code} {E : EE} {n : Nat} {o : (Int × Mem)} {t : Nat} (C : Cx E p s m args meth c cX11_saysOf 5 RX11 (some .long) n "saysOf") (hn : nfull n) (o_t : ob n t 11) : ∀ (k : Nat) (v3_4 : Int) (v2_4 : Int) (M4 : Mem) (H : Heap) (locs : List Loc) (ls : Array Slot), lq3 (fn_X11_saysOf_L4 t) k v3_4 v2_4 M4 = some o → ST E s n (zf n) M4 H locs → lv_has ls 5 [(0, .ref (eb E + t)), (2, i3 v2_4), (3, i3 v3_4)] → W p l e { frames := 2, cells := 0, slots := 0, locals := 45 } s m args below meth c H locs 0 0 (MQ below (QC E (some (l6 o.1)) n (zf n) o.2) args s 0 0 (fr E)) (F0 m 4 ls []) := by
  intro k
  induction k with
  | zero => intro v3_4 v2_4 M4 H locs ls hf; cases hf
  | succ k ih =>
    intro v3_4 v2_4 M4 H locs ls hf hH hl
    have h_rec4 : ∀ {v3_4 : Int} {v2_4 : Int} {M4 : Mem} {H : Heap} {locs : List Loc} {ls : Array Slot}, lq3 (fn_X11_saysOf_L4 t) k v3_4 v2_4 M4 = some o → ST E s n (zf n) M4 H locs → lv_has ls 5 [(0, .ref (eb E + t)), (2, i3 v2_4), (3, i3 v3_4)] → W p l e { frames := 2, cells := 0, slots := 0, locals := 45 } s m args below meth c H locs 0 0 (MQ below (QC E (some (l6 o.1)) n (zf n) o.2) args s 0 0 (fr E)) (F0 m 4 ls []) := fun {v3_4} {v2_4} {M4} {H} {locs} {ls} a b c => ih v3_4 v2_4 M4 H locs ls a b c
    replace hf : fn_X11_saysOf_L4 t (lq3 (fn_X11_saysOf_L4 t) k) v3_4 v2_4 M4 = some o := hf
    generalize lq3 (fn_X11_saysOf_L4 t) k = rec4 at hf h_rec4
    unfold fn_X11_saysOf_L4 at hf
    refine lv_aload_n C.hx C.hb dX11_saysOf_4 rfl (lv_at hl 0 rfl) ?_
    refine g_ref (off := 9) C hH o_t (by decide) rfl rfl FL_RX11_42 dX11_saysOf_5 ?_
    refine lv_iload_n C.hx C.hb dX11_saysOf_8 rfl (lv_at hl 2 rfl) ?_
    refine r_iald C hH (ly (i := 11) (off := 9) (k := 12) hn o_t rfl rfl rfl) (lyn (i := 11) (off := 9) (N := 1599) hn o_t rfl rfl rfl) hf dX11_saysOf_9 (fun x9 hf => ?_)
    refine lv_sipush (v := Int32.ofInt 408) C.hx C.hb dX11_saysOf_10 (by decide) ?_
    refine w_eq (tgt := 175) C hf dX11_saysOf_13 (by decide) (fun hf => ?_) (fun hf => ?_)
    · refine lv_aload_n C.hx C.hb dX11_saysOf_175 rfl (lv_at hl 0 rfl) ?_
      refine g_ref (off := 22) C hH o_t (by decide) rfl rfl FL_RX11_81 dX11_saysOf_176 ?_
      refine lv_iconst (v := Int32.ofInt 0) C.hx C.hb dX11_saysOf_179 rfl ?_
      refine r_lald C hH (ly (i := 38) (off := 22) (k := 15) hn o_t rfl rfl rfl) (lyn (i := 38) (off := 22) (N := 199) hn o_t rfl rfl rfl) hf dX11_saysOf_180 (fun x180 hf => ?_)
      cases hf
      exact w_lret C hH dX11_saysOf_181
    · refine lv_aload_n C.hx C.hb dX11_saysOf_16 rfl (lv_at hl 0 rfl) ?_
      refine g_ref (off := 9) C hH o_t (by decide) rfl rfl FL_RX11_42 dX11_saysOf_17 ?_
      refine lv_iload_n C.hx C.hb dX11_saysOf_20 rfl (lv_at hl 2 rfl) ?_
      refine r_iald C hH (ly (i := 11) (off := 9) (k := 12) hn o_t rfl rfl rfl) (lyn (i := 11) (off := 9) (N := 1599) hn o_t rfl rfl rfl) hf dX11_saysOf_21 (fun x21 hf => ?_)
      refine lv_istore (lv' := [(4, i3 x21), (0, .ref (eb E + t)), (2, i3 v2_4), (3, i3 v3_4)]) C.hx C.hb dX11_saysOf_22 hl (by decide) rfl (fun ls hl => ?_)
      refine lv_iload C.hx C.hb dX11_saysOf_24 (lv_at hl 0 rfl) ?_
      refine lv_sipush (v := Int32.ofInt 400) C.hx C.hb dX11_saysOf_26 (by decide) ?_
      refine w_eq (tgt := 40) C hf dX11_saysOf_29 (by decide) (fun hf => ?_) (fun hf => ?_)
      · exact j_X11_saysOf_40 C hn o_t h_rec4 hf hH (lv_sub hl [1, 2, 3, 0] rfl)
      · refine lv_iload C.hx C.hb dX11_saysOf_32 (lv_at hl 0 rfl) ?_
        refine lv_sipush (v := Int32.ofInt 401) C.hx C.hb dX11_saysOf_34 (by decide) ?_
        refine w_ne (tgt := 82) C hf dX11_saysOf_37 (by decide) (fun hf => ?_) (fun hf => ?_)
        · refine lv_iload C.hx C.hb dX11_saysOf_82 (lv_at hl 0 rfl) ?_
          refine lv_sipush (v := Int32.ofInt 402) C.hx C.hb dX11_saysOf_84 (by decide) ?_
          refine w_ne (tgt := 110) C hf dX11_saysOf_87 (by decide) (fun hf => ?_) (fun hf => ?_)
          · refine lv_iload C.hx C.hb dX11_saysOf_110 (lv_at hl 0 rfl) ?_
            refine lv_sipush (v := Int32.ofInt 405) C.hx C.hb dX11_saysOf_112 (by decide) ?_
            refine w_ne (tgt := 139) C hf dX11_saysOf_115 (by decide) (fun hf => ?_) (fun hf => ?_)
            · refine r_iinc (k := 2) (lv' := fun v => [(2, i3 v), (4, i3 x21), (0, .ref (eb E + t)), (3, i3 v3_4)]) C hf dX11_saysOf_139 hl rfl (by decide) (fun _ => rfl) (fun v2_139 ls hf hl => ?_)
              refine lv_aload_n C.hx C.hb dX11_saysOf_142 rfl (lv_at hl 2 rfl) ?_
              refine g_ref (off := 22) C hH o_t (by decide) rfl rfl FL_RX11_81 dX11_saysOf_143 ?_
              refine lv_iload_n C.hx C.hb dX11_saysOf_146 rfl (lv_at hl 0 rfl) ?_
              refine lv_iconst (v := Int32.ofInt 1) C.hx C.hb dX11_saysOf_147 rfl ?_
              refine w_isub C dX11_saysOf_148 ?_
              refine lv_iload C.hx C.hb dX11_saysOf_149 (lv_at hl 1 rfl) ?_
              refine lv_aload_n C.hx C.hb dX11_saysOf_151 rfl (lv_at hl 2 rfl) ?_
              refine g_ref (off := 22) C hH o_t (by decide) rfl rfl FL_RX11_81 dX11_saysOf_152 ?_
              refine lv_iload_n C.hx C.hb dX11_saysOf_155 rfl (lv_at hl 0 rfl) ?_
              refine lv_iconst (v := Int32.ofInt 1) C.hx C.hb dX11_saysOf_156 rfl ?_
              refine w_isub C dX11_saysOf_157 ?_
              refine r_lald C hH (ly (i := 38) (off := 22) (k := 15) hn o_t rfl rfl rfl) (lyn (i := 38) (off := 22) (N := 199) hn o_t rfl rfl rfl) hf dX11_saysOf_158 (fun x158 hf => ?_)
              refine lv_aload_n C.hx C.hb dX11_saysOf_159 rfl (lv_at hl 2 rfl) ?_
              refine g_ref (off := 22) C hH o_t (by decide) rfl rfl FL_RX11_81 dX11_saysOf_160 ?_
              refine lv_iload_n C.hx C.hb dX11_saysOf_163 rfl (lv_at hl 0 rfl) ?_
              refine r_lald C hH (ly (i := 38) (off := 22) (k := 15) hn o_t rfl rfl rfl) (lyn (i := 38) (off := 22) (N := 199) hn o_t rfl rfl rfl) hf dX11_saysOf_164 (fun x164 hf => ?_)
              obtain ⟨x165, hc9, hf⟩ := cu_of hf
              refine r_callSi (rest := [i3 (v2_139 - 1), .ref (eb E + (t + 22))]) C hH hl (m_X11_worked hn hc9) ML_RX11_292 MF_X11_worked MS_X11_worked rfl rfl (Nat.le_of_ble_eq_true rfl) ⟨Nat.le_of_ble_eq_true rfl, Nat.le_of_ble_eq_true rfl⟩ ⟨Nat.le_refl _, Nat.le_refl _⟩ dX11_saysOf_165 (fun H locs hH => ?_)
              refine r_last C hH (ly (i := 38) (off := 22) (k := 15) hn o_t rfl rfl rfl) (lyn (i := 38) (off := 22) (N := 199) hn o_t rfl rfl rfl) hf dX11_saysOf_168 (fun M168 H locs hf hH => ?_)
              exact j_X11_saysOf_169 C hn o_t h_rec4 hf hH (lv_sub hl [2, 0, 3] rfl)
            · refine lv_aload_n C.hx C.hb dX11_saysOf_118 rfl (lv_at hl 1 rfl) ?_
              refine g_ref (off := 22) C hH o_t (by decide) rfl rfl FL_RX11_81 dX11_saysOf_119 ?_
              refine lv_iload_n C.hx C.hb dX11_saysOf_122 rfl (lv_at hl 2 rfl) ?_
              refine lv_iconst (v := Int32.ofInt 1) C.hx C.hb dX11_saysOf_123 rfl ?_
              refine w_isub C dX11_saysOf_124 ?_
              refine lv_lconst (v := Int64.ofInt 1) C.hx C.hb dX11_saysOf_125 (by decide) ?_
              refine lv_aload_n C.hx C.hb dX11_saysOf_126 rfl (lv_at hl 1 rfl) ?_
              refine g_ref (off := 22) C hH o_t (by decide) rfl rfl FL_RX11_81 dX11_saysOf_127 ?_
              refine lv_iload_n C.hx C.hb dX11_saysOf_130 rfl (lv_at hl 2 rfl) ?_
              refine lv_iconst (v := Int32.ofInt 1) C.hx C.hb dX11_saysOf_131 rfl ?_
              refine w_isub C dX11_saysOf_132 ?_
              refine r_lald C hH (ly (i := 38) (off := 22) (k := 15) hn o_t rfl rfl rfl) (lyn (i := 38) (off := 22) (N := 199) hn o_t rfl rfl rfl) hf dX11_saysOf_133 (fun x133 hf => ?_)
              refine w_lsub C dX11_saysOf_134 ?_
              refine r_last C hH (ly (i := 38) (off := 22) (k := 15) hn o_t rfl rfl rfl) (lyn (i := 38) (off := 22) (N := 199) hn o_t rfl rfl rfl) hf dX11_saysOf_135 (fun M135 H locs hf hH => ?_)
              refine lv_goto (tgt := 169) C.hx C.hb dX11_saysOf_136 (by decide) ?_
              exact j_X11_saysOf_169 C hn o_t h_rec4 hf hH (lv_sub hl [1, 2, 3] rfl)
          · refine lv_aload_n C.hx C.hb dX11_saysOf_90 rfl (lv_at hl 1 rfl) ?_
            refine g_ref (off := 22) C hH o_t (by decide) rfl rfl FL_RX11_81 dX11_saysOf_91 ?_
            refine lv_iload_n C.hx C.hb dX11_saysOf_94 rfl (lv_at hl 2 rfl) ?_
            refine lv_iconst (v := Int32.ofInt 1) C.hx C.hb dX11_saysOf_95 rfl ?_
            refine w_isub C dX11_saysOf_96 ?_
            refine lv_aload_n C.hx C.hb dX11_saysOf_97 rfl (lv_at hl 1 rfl) ?_
            refine g_ref (off := 22) C hH o_t (by decide) rfl rfl FL_RX11_81 dX11_saysOf_98 ?_
            refine lv_iload_n C.hx C.hb dX11_saysOf_101 rfl (lv_at hl 2 rfl) ?_
            refine lv_iconst (v := Int32.ofInt 1) C.hx C.hb dX11_saysOf_102 rfl ?_
            refine w_isub C dX11_saysOf_103 ?_
            refine r_lald C hH (ly (i := 38) (off := 22) (k := 15) hn o_t rfl rfl rfl) (lyn (i := 38) (off := 22) (N := 199) hn o_t rfl rfl rfl) hf dX11_saysOf_104 (fun x104 hf => ?_)
            refine w_lneg C dX11_saysOf_105 ?_
            refine r_last C hH (ly (i := 38) (off := 22) (k := 15) hn o_t rfl rfl rfl) (lyn (i := 38) (off := 22) (N := 199) hn o_t rfl rfl rfl) hf dX11_saysOf_106 (fun M106 H locs hf hH => ?_)
            refine lv_goto (tgt := 169) C.hx C.hb dX11_saysOf_107 (by decide) ?_
            exact j_X11_saysOf_169 C hn o_t h_rec4 hf hH (lv_sub hl [1, 2, 3] rfl)
        · exact j_X11_saysOf_40 C hn o_t h_rec4 hf hH (lv_sub hl [1, 2, 3, 0] rfl)
set_option maxRecDepth 100000 in
set_option maxHeartbeats 4000000 in
theorem m_X11_saysOf {E : EE} {l : Launch} {n : Nat} {t : Nat} {a1 : Int} {M : Mem} {o : (Int × Mem)} (hn : nfull n) (o_t : ob n t 11) (hf : fn_X11_saysOf t a1 M = some o) : CT E l yX11_saysOf cX11_saysOf 5 (some .long) 2 45 0 0 [.ref (eb E + t), i3 a1] n (zf n) M (some (l6 o.1)) n (zf n) o.2 := by
  refine CT_of PN_RX11 (Nat.le_of_ble_eq_true rfl) ?_
  intro p e s m args below meth c C hH ls hl
  replace C : Cx E p s m args meth c cX11_saysOf 5 RX11 (some .long) n "saysOf" := C
  have hl : lv_has ls 5 [(0, .ref (eb E + t)), (1, i3 a1)] := hl
  unfold fn_X11_saysOf at hf
  refine lv_iconst (v := Int32.ofInt 0) C.hx C.hb dX11_saysOf_0 rfl ?_
  refine lv_istore_n (lv' := [(2, i3 0), (0, .ref (eb E + t)), (1, i3 a1)]) C.hx C.hb dX11_saysOf_1 rfl hl (by decide) rfl (fun ls hl => ?_)
  refine lv_iload_n C.hx C.hb dX11_saysOf_2 rfl (lv_at hl 2 rfl) ?_
  refine lv_istore_n (lv' := [(3, i3 a1), (2, i3 0), (0, .ref (eb E + t)), (1, i3 a1)]) C.hx C.hb dX11_saysOf_3 rfl hl (by decide) rfl (fun ls hl => ?_)
  exact l_X11_saysOf_4 C hn o_t FU _ _ _ _ _ _ hf hH (lv_sub hl [2, 1, 0] rfl)
-- HeavierByHandModel.by
def fn_X11_by_J23 (t : Nat) (a1 : Int) (M : Mem) : Option (Int × Mem) :=
  wr M (t + 1) 288 6 a1 fun M30 => some (1, M30)
def fn_X11_by (t : Nat) (a1 : Int) (M : Mem) : Option (Int × Mem) :=
  cEq a1 (-1) (fn_X11_by_J23 t a1 M) (rd M (t + 1) 288 5 fun x12 => cu (fn_X11_in a1 0 (x12 - 1) M) fun x15 => cEq x15 0 (some (0, M)) (fn_X11_by_J23 t a1 M))
set_option maxRecDepth 100000 in
set_option maxHeartbeats 4000000 in
theorem j_X11_by_23 {p : Program} {l : Launch} {e : Env} {s : State} {m : MethodId} {args : Array Value} {below : List Frame} {meth : Method} {c : Code} {E : EE} {n : Nat} {o : (Int × Mem)} {t : Nat} {a1 : Int} {M : Mem} {H : Heap} {locs : List Loc} {ls : Array Slot} (C : Cx E p s m args meth c cX11_by 2 RX11 (some .boolean) n "by") (hn : nfull n) (o_t : ob n t 11) (hf : fn_X11_by_J23 t a1 M = some o) (hH : ST E s n (zf n) M H locs) (hl : lv_has ls 2 [(0, .ref (eb E + t)), (1, i3 a1)]) : W p l e { frames := 1, cells := 0, slots := 0, locals := 22 } s m args below meth c H locs 0 0 (MQ below (QC E (some (i3 o.1)) n (zf n) o.2) args s 0 0 (fr E)) (F0 m 23 ls []) := by
  unfold fn_X11_by_J23 at hf
  refine lv_aload_n C.hx C.hb dX11_by_23 rfl (lv_at hl 0 rfl) ?_
  refine g_ref (off := 1) C hH o_t (by decide) rfl rfl FL_RX11_7 dX11_by_24 ?_
  refine lv_bipush (v := Int32.ofInt 6) C.hx C.hb dX11_by_27 (by decide) ?_
  refine lv_iload_n C.hx C.hb dX11_by_29 rfl (lv_at hl 1 rfl) ?_
  refine r_iast C hH (ly (i := 0) (off := 1) (k := 12) hn o_t rfl rfl rfl) (lyn (i := 0) (off := 1) (N := 287) hn o_t rfl rfl rfl) hf dX11_by_30 (fun M30 H locs hf hH => ?_)
  refine lv_iconst (v := Int32.ofInt 1) C.hx C.hb dX11_by_31 rfl ?_
  cases hf
  exact w_zret C hH (Or.inr rfl) dX11_by_32
set_option maxRecDepth 100000 in
set_option maxHeartbeats 4000000 in
theorem m_X11_by {E : EE} {l : Launch} {n : Nat} {t : Nat} {a1 : Int} {M : Mem} {o : (Int × Mem)} (hn : nfull n) (o_t : ob n t 11) (hf : fn_X11_by t a1 M = some o) : CT E l yX11_by cX11_by 2 (some .boolean) 1 22 0 0 [.ref (eb E + t), i3 a1] n (zf n) M (some (i3 o.1)) n (zf n) o.2 := by
  refine CT_of PN_RX11 (Nat.le_of_ble_eq_true rfl) ?_
  intro p e s m args below meth c C hH ls hl
  replace C : Cx E p s m args meth c cX11_by 2 RX11 (some .boolean) n "by" := C
  have hl : lv_has ls 2 [(0, .ref (eb E + t)), (1, i3 a1)] := hl
  unfold fn_X11_by at hf
  refine lv_iload_n C.hx C.hb dX11_by_0 rfl (lv_at hl 1 rfl) ?_
  refine lv_iconst (v := Int32.ofInt (-1)) C.hx C.hb dX11_by_1 rfl ?_
  refine w_eq (tgt := 23) C hf dX11_by_2 (by decide) (fun hf => ?_) (fun hf => ?_)
  · exact j_X11_by_23 C hn o_t hf hH (lv_sub hl [0, 1] rfl)
  · refine lv_iload_n C.hx C.hb dX11_by_5 rfl (lv_at hl 1 rfl) ?_
    refine lv_iconst (v := Int32.ofInt 0) C.hx C.hb dX11_by_6 rfl ?_
    refine lv_aload_n C.hx C.hb dX11_by_7 rfl (lv_at hl 0 rfl) ?_
    refine g_ref (off := 1) C hH o_t (by decide) rfl rfl FL_RX11_7 dX11_by_8 ?_
    refine lv_iconst (v := Int32.ofInt 5) C.hx C.hb dX11_by_11 rfl ?_
    refine r_iald C hH (ly (i := 0) (off := 1) (k := 12) hn o_t rfl rfl rfl) (lyn (i := 0) (off := 1) (N := 287) hn o_t rfl rfl rfl) hf dX11_by_12 (fun x12 hf => ?_)
    refine lv_iconst (v := Int32.ofInt 1) C.hx C.hb dX11_by_13 rfl ?_
    refine w_isub C dX11_by_14 ?_
    obtain ⟨x15, hc9, hf⟩ := cu_of hf
    refine r_callSi (rest := []) C hH hl (m_X11_in hn hc9) ML_RX11_115 MF_X11_in MS_X11_in rfl rfl (Nat.le_of_ble_eq_true rfl) ⟨Nat.le_of_ble_eq_true rfl, Nat.le_of_ble_eq_true rfl⟩ ⟨Nat.le_refl _, Nat.le_refl _⟩ dX11_by_15 (fun H locs hH => ?_)
    refine w_ne0 (tgt := 23) C hf dX11_by_18 (by decide) (fun hf => ?_) (fun hf => ?_)
    · exact j_X11_by_23 C hn o_t hf hH (lv_sub hl [0, 1] rfl)
    · refine lv_iconst (v := Int32.ofInt 0) C.hx C.hb dX11_by_21 rfl ?_
      cases hf
      exact w_zret C hH (Or.inl rfl) dX11_by_22
-- HeavierByHandModel.isMarket
def fn_X11_isMarket (t : Nat) (M : Mem) : Option Int :=
  rd M (t + 1) 288 2 fun x5 => ck (R3 x5 ∧ R3 24 ∧ 24 ≠ (0 : Int)) <| ck (R3 (x5.tdiv 24) ∧ R3 7 ∧ 7 ≠ (0 : Int)) <| rd M (t + 1) 288 3 fun x17 => cEq ((x5.tdiv 24).tmod 7) x17 (some 1) (some 0)
set_option maxRecDepth 100000 in
set_option maxHeartbeats 4000000 in
theorem m_X11_isMarket {E : EE} {l : Launch} {n : Nat} {t : Nat} {M : Mem} {o : Int} (hn : nfull n) (o_t : ob n t 11) (hf : fn_X11_isMarket t M = some o) : CT E l yX11_isMarket cX11_isMarket 1 (some .boolean) 0 0 0 0 [.ref (eb E + t)] n (zf n) M (some (i3 o)) n (zf n) M := by
  refine CT_of PN_RX11 (Nat.le_of_ble_eq_true rfl) ?_
  intro p e s m args below meth c C hH ls hl
  replace C : Cx E p s m args meth c cX11_isMarket 1 RX11 (some .boolean) n "isMarket" := C
  have hl : lv_has ls 1 [(0, .ref (eb E + t))] := hl
  unfold fn_X11_isMarket at hf
  refine lv_aload_n C.hx C.hb dX11_isMarket_0 rfl (lv_at hl 0 rfl) ?_
  refine g_ref (off := 1) C hH o_t (by decide) rfl rfl FL_RX11_7 dX11_isMarket_1 ?_
  refine lv_iconst (v := Int32.ofInt 2) C.hx C.hb dX11_isMarket_4 rfl ?_
  refine r_iald C hH (ly (i := 0) (off := 1) (k := 12) hn o_t rfl rfl rfl) (lyn (i := 0) (off := 1) (N := 287) hn o_t rfl rfl rfl) hf dX11_isMarket_5 (fun x5 hf => ?_)
  refine lv_bipush (v := Int32.ofInt 24) C.hx C.hb dX11_isMarket_6 (by decide) ?_
  obtain ⟨hR8, hf⟩ := ck_of hf
  refine w_idiv C hR8 dX11_isMarket_8 ?_
  refine lv_bipush (v := Int32.ofInt 7) C.hx C.hb dX11_isMarket_9 (by decide) ?_
  obtain ⟨hR8, hf⟩ := ck_of hf
  refine w_irem C hR8 dX11_isMarket_11 ?_
  refine lv_aload_n C.hx C.hb dX11_isMarket_12 rfl (lv_at hl 0 rfl) ?_
  refine g_ref (off := 1) C hH o_t (by decide) rfl rfl FL_RX11_7 dX11_isMarket_13 ?_
  refine lv_iconst (v := Int32.ofInt 3) C.hx C.hb dX11_isMarket_16 rfl ?_
  refine r_iald C hH (ly (i := 0) (off := 1) (k := 12) hn o_t rfl rfl rfl) (lyn (i := 0) (off := 1) (N := 287) hn o_t rfl rfl rfl) hf dX11_isMarket_17 (fun x17 hf => ?_)
  refine w_ne (tgt := 25) C hf dX11_isMarket_18 (by decide) (fun hf => ?_) (fun hf => ?_)
  · refine lv_iconst (v := Int32.ofInt 0) C.hx C.hb dX11_isMarket_25 rfl ?_
    cases hf
    exact w_zret C hH (Or.inl rfl) dX11_isMarket_26
  · refine lv_iconst (v := Int32.ofInt 1) C.hx C.hb dX11_isMarket_21 rfl ?_
    refine lv_goto (tgt := 26) C.hx C.hb dX11_isMarket_22 (by decide) ?_
    cases hf
    exact w_zret C hH (Or.inr rfl) dX11_isMarket_26
-- HeavierByHandModel.givesTo
def fn_X11_givesTo_J228 (M217 : Mem) : Option (Int × Mem) :=
  some (0, M217)
def fn_X11_givesTo_J217 (v3_217 : Int) (v5_217 : Int) (M217 : Mem) : Option (Int × Mem) :=
  cEq v5_217 0 (dLt v3_217 0 (fn_X11_givesTo_J228 M217) (dLt 99 v3_217 (some (99, M217)) (some (v3_217, M217)))) (fn_X11_givesTo_J228 M217)
def fn_X11_givesTo_J211 (v6_109 : Int) (rec109 : Int → Int → Int → Mem → Option (Int × Mem)) (v3_211 : Int) (v5_211 : Int) (M211 : Mem) : Option (Int × Mem) :=
  nm (v6_109 + 1) fun v6_211 => rec109 v6_211 v5_211 v3_211 M211
def fn_X11_givesTo_J183 (v6_109 : Int) (v3_109 : Int) (rec109 : Int → Int → Int → Mem → Option (Int × Mem)) (M170 : Mem) (u0_183 : Int) : Option (Int × Mem) :=
  fn_X11_givesTo_J211 v6_109 rec109 v3_109 u0_183 M170
def fn_X11_givesTo_L109 (t : Nat) (rec109 : Int → Int → Int → Mem → Option (Int × Mem)) (v6_109 : Int) (v5_109 : Int) (v3_109 : Int) (M109 : Mem) : Option (Int × Mem) :=
  rd M109 (t + 1) 288 6 fun x115 => cEq x115 (-1) (fn_X11_givesTo_J217 v3_109 v5_109 M109) (rd M109 (t + 1) 288 6 fun x132 => rd M109 (t + 4) 4 x132 fun x133 => cLt v6_109 x133 (rd M109 (t + 1) 288 6 fun x145 => nm (((20 * x145) + v6_109)) fun v7_150 => rd M109 (t + 5) 80 v7_150 fun x158 => cEq x158 0 (rd M109 (t + 6) 80 v7_150 fun x169 => cl (fn_X11_saysOf t x169 M109) fun x170 M170 => dLt 0 x170 (fn_X11_givesTo_J183 v6_109 v3_109 rec109 M170 1) (fn_X11_givesTo_J183 v6_109 v3_109 rec109 M170 0)) (rd M109 (t + 5) 80 v7_150 fun x194 => cEq x194 1 (rd M109 (t + 6) 80 v7_150 fun x206 => cl (fn_X11_saysOf t x206 M109) fun x207 M207 => fn_X11_givesTo_J211 v6_109 rec109 x207 v5_109 M207) (fn_X11_givesTo_J211 v6_109 rec109 v3_109 v5_109 M109))) (fn_X11_givesTo_J217 v3_109 v5_109 M109))
def fn_X11_givesTo_J54 (t : Nat) (a1 : Int) (a2 : Int) (M36 : Mem) (u0_54 : Int) : Option (Int × Mem) :=
  wr M36 (t + 21) 7 3 u0_54 fun M54 => cu (fn_X11_coinOf t a2 1 M54) fun x63 => wr M54 (t + 21) 7 4 x63 fun M66 => cu (fn_X11_coinOf t a2 3 M66) fun x75 => wr M66 (t + 21) 7 5 x75 fun M78 => cu (fn_X11_coinOf t a2 2 M78) fun x88 => wr M78 (t + 21) 7 6 x88 fun M91 => rd M91 (t + 1) 288 (10 + a1) fun x100 => ck (R3 x100) <| lq4 (fn_X11_givesTo_L109 t) FU 0 0 x100 M91
def fn_X11_givesTo (t : Nat) (a1 : Int) (a2 : Int) (M : Mem) : Option (Int × Mem) :=
  wr M (t + 21) 7 0 a1 fun M6 => rd M6 (t + 1) 288 (10 + a1) fun x20 => wr M6 (t + 21) 7 1 x20 fun M21 => rd M21 (t + 1) 288 2 fun x32 => ck (R3 x32 ∧ R3 24 ∧ 24 ≠ (0 : Int)) <| wr M21 (t + 21) 7 2 (x32.tmod 24) fun M36 => cu (fn_X11_isMarket t M36) fun x43 => cEq x43 0 (fn_X11_givesTo_J54 t a1 a2 M36 0) (fn_X11_givesTo_J54 t a1 a2 M36 1)
set_option maxRecDepth 100000 in
set_option maxHeartbeats 4000000 in
theorem j_X11_givesTo_228 {p : Program} {l : Launch} {e : Env} {s : State} {m : MethodId} {args : Array Value} {below : List Frame} {meth : Method} {c : Code} {E : EE} {n : Nat} {o : (Int × Mem)} {M217 : Mem} {H : Heap} {locs : List Loc} {ls : Array Slot} (C : Cx E p s m args meth c cX11_givesTo 8 RX11 (some .int) n "givesTo") (hn : nfull n) (hf : fn_X11_givesTo_J228 M217 = some o) (hH : ST E s n (zf n) M217 H locs) (hl : lv_has ls 8 []) : W p l e { frames := 3, cells := 0, slots := 0, locals := 69 } s m args below meth c H locs 0 0 (MQ below (QC E (some (i3 o.1)) n (zf n) o.2) args s 0 0 (fr E)) (F0 m 228 ls []) := by
  unfold fn_X11_givesTo_J228 at hf
  refine lv_iconst (v := Int32.ofInt 0) C.hx C.hb dX11_givesTo_228 rfl ?_
  refine lv_goto (tgt := 247) C.hx C.hb dX11_givesTo_229 (by decide) ?_
  cases hf
  exact w_iret C hH dX11_givesTo_247
set_option maxRecDepth 100000 in
set_option maxHeartbeats 4000000 in
theorem j_X11_givesTo_217 {p : Program} {l : Launch} {e : Env} {s : State} {m : MethodId} {args : Array Value} {below : List Frame} {meth : Method} {c : Code} {E : EE} {n : Nat} {o : (Int × Mem)} {v3_217 : Int} {v5_217 : Int} {M217 : Mem} {H : Heap} {locs : List Loc} {ls : Array Slot} (C : Cx E p s m args meth c cX11_givesTo 8 RX11 (some .int) n "givesTo") (hn : nfull n) (hf : fn_X11_givesTo_J217 v3_217 v5_217 M217 = some o) (hH : ST E s n (zf n) M217 H locs) (hl : lv_has ls 8 [(3, l6 v3_217), (5, i3 v5_217)]) : W p l e { frames := 3, cells := 0, slots := 0, locals := 69 } s m args below meth c H locs 0 0 (MQ below (QC E (some (i3 o.1)) n (zf n) o.2) args s 0 0 (fr E)) (F0 m 217 ls []) := by
  unfold fn_X11_givesTo_J217 at hf
  refine lv_iload C.hx C.hb dX11_givesTo_217 (lv_at hl 1 rfl) ?_
  refine w_ne0 (tgt := 228) C hf dX11_givesTo_219 (by decide) (fun hf => ?_) (fun hf => ?_)
  · exact j_X11_givesTo_228 C hn hf hH (lv_sub hl [] rfl)
  · refine lv_lload_n C.hx C.hb dX11_givesTo_222 rfl (lv_at hl 0 rfl) ?_
    refine lv_lconst (v := Int64.ofInt 0) C.hx C.hb dX11_givesTo_223 (by decide) ?_
    refine w_lge (tgt := 232) C hf dX11_givesTo_224 dX11_givesTo_225 (by decide) (fun hf => ?_) (fun hf => ?_)
    · refine lv_lload_n C.hx C.hb dX11_givesTo_232 rfl (lv_at hl 0 rfl) ?_
      refine r_ldc2 (x := 99) C KL_RX11_307 dX11_givesTo_233 ?_
      refine w_lle (tgt := 245) C hf dX11_givesTo_236 dX11_givesTo_237 (by decide) (fun hf => ?_) (fun hf => ?_)
      · refine lv_lload_n C.hx C.hb dX11_givesTo_245 rfl (lv_at hl 0 rfl) ?_
        refine w_l2i C dX11_givesTo_246 ?_
        cases hf
        exact w_iret C hH dX11_givesTo_247
      · refine lv_bipush (v := Int32.ofInt 99) C.hx C.hb dX11_givesTo_240 (by decide) ?_
        refine lv_goto (tgt := 247) C.hx C.hb dX11_givesTo_242 (by decide) ?_
        cases hf
        exact w_iret C hH dX11_givesTo_247
    · exact j_X11_givesTo_228 C hn hf hH (lv_sub hl [] rfl)
set_option maxRecDepth 100000 in
set_option maxHeartbeats 4000000 in
theorem j_X11_givesTo_211 {p : Program} {l : Launch} {e : Env} {s : State} {m : MethodId} {args : Array Value} {below : List Frame} {meth : Method} {c : Code} {E : EE} {n : Nat} {o : (Int × Mem)} {t : Nat} {v6_109 : Int} {rec109 : Int → Int → Int → Mem → Option (Int × Mem)} {v3_211 : Int} {v5_211 : Int} {M211 : Mem} {H : Heap} {locs : List Loc} {ls : Array Slot} (C : Cx E p s m args meth c cX11_givesTo 8 RX11 (some .int) n "givesTo") (hn : nfull n) (o_t : ob n t 11) (h_rec109 : ∀ {v6_109 : Int} {v5_109 : Int} {v3_109 : Int} {M109 : Mem} {H : Heap} {locs : List Loc} {ls : Array Slot}, rec109 v6_109 v5_109 v3_109 M109 = some o → ST E s n (zf n) M109 H locs → lv_has ls 8 [(0, .ref (eb E + t)), (3, l6 v3_109), (5, i3 v5_109), (6, i3 v6_109)] → W p l e { frames := 3, cells := 0, slots := 0, locals := 69 } s m args below meth c H locs 0 0 (MQ below (QC E (some (i3 o.1)) n (zf n) o.2) args s 0 0 (fr E)) (F0 m 109 ls [])) (hf : fn_X11_givesTo_J211 v6_109 rec109 v3_211 v5_211 M211 = some o) (hH : ST E s n (zf n) M211 H locs) (hl : lv_has ls 8 [(0, .ref (eb E + t)), (3, l6 v3_211), (5, i3 v5_211), (6, i3 v6_109)]) : W p l e { frames := 3, cells := 0, slots := 0, locals := 69 } s m args below meth c H locs 0 0 (MQ below (QC E (some (i3 o.1)) n (zf n) o.2) args s 0 0 (fr E)) (F0 m 211 ls []) := by
  unfold fn_X11_givesTo_J211 at hf
  refine r_iinc (k := 3) (lv' := fun v => [(6, i3 v), (0, .ref (eb E + t)), (3, l6 v3_211), (5, i3 v5_211)]) C hf dX11_givesTo_211 hl rfl (by decide) (fun _ => rfl) (fun v6_211 ls hf hl => ?_)
  refine lv_goto (tgt := 109) C.hx C.hb dX11_givesTo_214 (by decide) ?_
  exact h_rec109 hf hH (lv_sub hl [1, 2, 3, 0] rfl)
set_option maxRecDepth 100000 in
set_option maxHeartbeats 4000000 in
theorem j_X11_givesTo_183 {p : Program} {l : Launch} {e : Env} {s : State} {m : MethodId} {args : Array Value} {below : List Frame} {meth : Method} {c : Code} {E : EE} {n : Nat} {o : (Int × Mem)} {t : Nat} {v6_109 : Int} {v3_109 : Int} {rec109 : Int → Int → Int → Mem → Option (Int × Mem)} {M170 : Mem} {u0_183 : Int} {H : Heap} {locs : List Loc} {ls : Array Slot} (C : Cx E p s m args meth c cX11_givesTo 8 RX11 (some .int) n "givesTo") (hn : nfull n) (o_t : ob n t 11) (h_rec109 : ∀ {v6_109 : Int} {v5_109 : Int} {v3_109 : Int} {M109 : Mem} {H : Heap} {locs : List Loc} {ls : Array Slot}, rec109 v6_109 v5_109 v3_109 M109 = some o → ST E s n (zf n) M109 H locs → lv_has ls 8 [(0, .ref (eb E + t)), (3, l6 v3_109), (5, i3 v5_109), (6, i3 v6_109)] → W p l e { frames := 3, cells := 0, slots := 0, locals := 69 } s m args below meth c H locs 0 0 (MQ below (QC E (some (i3 o.1)) n (zf n) o.2) args s 0 0 (fr E)) (F0 m 109 ls [])) (hf : fn_X11_givesTo_J183 v6_109 v3_109 rec109 M170 u0_183 = some o) (hH : ST E s n (zf n) M170 H locs) (hl : lv_has ls 8 [(0, .ref (eb E + t)), (3, l6 v3_109), (6, i3 v6_109)]) : W p l e { frames := 3, cells := 0, slots := 0, locals := 69 } s m args below meth c H locs 0 0 (MQ below (QC E (some (i3 o.1)) n (zf n) o.2) args s 0 0 (fr E)) (F0 m 183 ls [i3 u0_183]) := by
  unfold fn_X11_givesTo_J183 at hf
  refine lv_istore (lv' := [(5, i3 u0_183), (0, .ref (eb E + t)), (3, l6 v3_109), (6, i3 v6_109)]) C.hx C.hb dX11_givesTo_183 hl (by decide) rfl (fun ls hl => ?_)
  refine lv_goto (tgt := 211) C.hx C.hb dX11_givesTo_185 (by decide) ?_
  exact j_X11_givesTo_211 C hn o_t h_rec109 hf hH (lv_sub hl [1, 2, 0, 3] rfl)
set_option maxRecDepth 100000 in
set_option maxHeartbeats 4000000 in
theorem l_X11_givesTo_109 {p : Program} {l : Launch} {e : Env} {s : State} {m : MethodId} {args : Array Value} {below : List Frame} {meth : Method} {c : Code} {E : EE} {n : Nat} {o : (Int × Mem)} {t : Nat} (C : Cx E p s m args meth c cX11_givesTo 8 RX11 (some .int) n "givesTo") (hn : nfull n) (o_t : ob n t 11) : ∀ (k : Nat) (v6_109 : Int) (v5_109 : Int) (v3_109 : Int) (M109 : Mem) (H : Heap) (locs : List Loc) (ls : Array Slot), lq4 (fn_X11_givesTo_L109 t) k v6_109 v5_109 v3_109 M109 = some o → ST E s n (zf n) M109 H locs → lv_has ls 8 [(0, .ref (eb E + t)), (3, l6 v3_109), (5, i3 v5_109), (6, i3 v6_109)] → W p l e { frames := 3, cells := 0, slots := 0, locals := 69 } s m args below meth c H locs 0 0 (MQ below (QC E (some (i3 o.1)) n (zf n) o.2) args s 0 0 (fr E)) (F0 m 109 ls []) := by
  intro k
  induction k with
  | zero => intro v6_109 v5_109 v3_109 M109 H locs ls hf; cases hf
  | succ k ih =>
    intro v6_109 v5_109 v3_109 M109 H locs ls hf hH hl
    have h_rec109 : ∀ {v6_109 : Int} {v5_109 : Int} {v3_109 : Int} {M109 : Mem} {H : Heap} {locs : List Loc} {ls : Array Slot}, lq4 (fn_X11_givesTo_L109 t) k v6_109 v5_109 v3_109 M109 = some o → ST E s n (zf n) M109 H locs → lv_has ls 8 [(0, .ref (eb E + t)), (3, l6 v3_109), (5, i3 v5_109), (6, i3 v6_109)] → W p l e { frames := 3, cells := 0, slots := 0, locals := 69 } s m args below meth c H locs 0 0 (MQ below (QC E (some (i3 o.1)) n (zf n) o.2) args s 0 0 (fr E)) (F0 m 109 ls []) := fun {v6_109} {v5_109} {v3_109} {M109} {H} {locs} {ls} a b c => ih v6_109 v5_109 v3_109 M109 H locs ls a b c
    replace hf : fn_X11_givesTo_L109 t (lq4 (fn_X11_givesTo_L109 t) k) v6_109 v5_109 v3_109 M109 = some o := hf
    generalize lq4 (fn_X11_givesTo_L109 t) k = rec109 at hf h_rec109
    unfold fn_X11_givesTo_L109 at hf
    refine lv_aload_n C.hx C.hb dX11_givesTo_109 rfl (lv_at hl 0 rfl) ?_
    refine g_ref (off := 1) C hH o_t (by decide) rfl rfl FL_RX11_7 dX11_givesTo_110 ?_
    refine lv_bipush (v := Int32.ofInt 6) C.hx C.hb dX11_givesTo_113 (by decide) ?_
    refine r_iald C hH (ly (i := 0) (off := 1) (k := 12) hn o_t rfl rfl rfl) (lyn (i := 0) (off := 1) (N := 287) hn o_t rfl rfl rfl) hf dX11_givesTo_115 (fun x115 hf => ?_)
    refine lv_iconst (v := Int32.ofInt (-1)) C.hx C.hb dX11_givesTo_116 rfl ?_
    refine w_eq (tgt := 217) C hf dX11_givesTo_117 (by decide) (fun hf => ?_) (fun hf => ?_)
    · exact j_X11_givesTo_217 C hn hf hH (lv_sub hl [1, 2] rfl)
    · refine lv_iload C.hx C.hb dX11_givesTo_120 (lv_at hl 3 rfl) ?_
      refine lv_aload_n C.hx C.hb dX11_givesTo_122 rfl (lv_at hl 0 rfl) ?_
      refine g_ref (off := 4) C hH o_t (by decide) rfl rfl FL_RX11_27 dX11_givesTo_123 ?_
      refine lv_aload_n C.hx C.hb dX11_givesTo_126 rfl (lv_at hl 0 rfl) ?_
      refine g_ref (off := 1) C hH o_t (by decide) rfl rfl FL_RX11_7 dX11_givesTo_127 ?_
      refine lv_bipush (v := Int32.ofInt 6) C.hx C.hb dX11_givesTo_130 (by decide) ?_
      refine r_iald C hH (ly (i := 0) (off := 1) (k := 12) hn o_t rfl rfl rfl) (lyn (i := 0) (off := 1) (N := 287) hn o_t rfl rfl rfl) hf dX11_givesTo_132 (fun x132 hf => ?_)
      refine r_iald C hH (ly (i := 6) (off := 4) (k := 12) hn o_t rfl rfl rfl) (lyn (i := 6) (off := 4) (N := 3) hn o_t rfl rfl rfl) hf dX11_givesTo_133 (fun x133 hf => ?_)
      refine w_ge (tgt := 217) C hf dX11_givesTo_134 (by decide) (fun hf => ?_) (fun hf => ?_)
      · exact j_X11_givesTo_217 C hn hf hH (lv_sub hl [1, 2] rfl)
      · refine lv_bipush (v := Int32.ofInt 20) C.hx C.hb dX11_givesTo_137 (by decide) ?_
        refine lv_aload_n C.hx C.hb dX11_givesTo_139 rfl (lv_at hl 0 rfl) ?_
        refine g_ref (off := 1) C hH o_t (by decide) rfl rfl FL_RX11_7 dX11_givesTo_140 ?_
        refine lv_bipush (v := Int32.ofInt 6) C.hx C.hb dX11_givesTo_143 (by decide) ?_
        refine r_iald C hH (ly (i := 0) (off := 1) (k := 12) hn o_t rfl rfl rfl) (lyn (i := 0) (off := 1) (N := 287) hn o_t rfl rfl rfl) hf dX11_givesTo_145 (fun x145 hf => ?_)
        refine w_imul C dX11_givesTo_146 ?_
        refine lv_iload C.hx C.hb dX11_givesTo_147 (lv_at hl 3 rfl) ?_
        refine w_iadd C dX11_givesTo_149 ?_
        refine r_nm hf (fun v7_150 hf => ?_)
        refine lv_istore (lv' := [(7, i3 v7_150), (0, .ref (eb E + t)), (3, l6 v3_109), (5, i3 v5_109), (6, i3 v6_109)]) C.hx C.hb dX11_givesTo_150 hl (by decide) rfl (fun ls hl => ?_)
        refine lv_aload_n C.hx C.hb dX11_givesTo_152 rfl (lv_at hl 1 rfl) ?_
        refine g_ref (off := 5) C hH o_t (by decide) rfl rfl FL_RX11_30 dX11_givesTo_153 ?_
        refine lv_iload C.hx C.hb dX11_givesTo_156 (lv_at hl 0 rfl) ?_
        refine r_iald C hH (ly (i := 7) (off := 5) (k := 12) hn o_t rfl rfl rfl) (lyn (i := 7) (off := 5) (N := 79) hn o_t rfl rfl rfl) hf dX11_givesTo_158 (fun x158 hf => ?_)
        refine w_ne0 (tgt := 188) C hf dX11_givesTo_159 (by decide) (fun hf => ?_) (fun hf => ?_)
        · refine lv_aload_n C.hx C.hb dX11_givesTo_188 rfl (lv_at hl 1 rfl) ?_
          refine g_ref (off := 5) C hH o_t (by decide) rfl rfl FL_RX11_30 dX11_givesTo_189 ?_
          refine lv_iload C.hx C.hb dX11_givesTo_192 (lv_at hl 0 rfl) ?_
          refine r_iald C hH (ly (i := 7) (off := 5) (k := 12) hn o_t rfl rfl rfl) (lyn (i := 7) (off := 5) (N := 79) hn o_t rfl rfl rfl) hf dX11_givesTo_194 (fun x194 hf => ?_)
          refine lv_iconst (v := Int32.ofInt 1) C.hx C.hb dX11_givesTo_195 rfl ?_
          refine w_ne (tgt := 211) C hf dX11_givesTo_196 (by decide) (fun hf => ?_) (fun hf => ?_)
          · exact j_X11_givesTo_211 C hn o_t h_rec109 hf hH (lv_sub hl [1, 2, 3, 4] rfl)
          · refine lv_aload_n C.hx C.hb dX11_givesTo_199 rfl (lv_at hl 1 rfl) ?_
            refine lv_aload_n C.hx C.hb dX11_givesTo_200 rfl (lv_at hl 1 rfl) ?_
            refine g_ref (off := 6) C hH o_t (by decide) rfl rfl FL_RX11_33 dX11_givesTo_201 ?_
            refine lv_iload C.hx C.hb dX11_givesTo_204 (lv_at hl 0 rfl) ?_
            refine r_iald C hH (ly (i := 8) (off := 6) (k := 12) hn o_t rfl rfl rfl) (lyn (i := 8) (off := 6) (N := 79) hn o_t rfl rfl rfl) hf dX11_givesTo_206 (fun x206 hf => ?_)
            obtain ⟨x207, M207, hc9, hf⟩ := cl_of hf
            refine r_callVi (rest := []) C hH hl o_t (by decide) rfl (m_X11_saysOf hn o_t hc9) ML_RX11_303 MF_X11_saysOf MI_X11_saysOf rfl rfl (Nat.le_of_ble_eq_true rfl) ⟨Nat.le_of_ble_eq_true rfl, Nat.le_of_ble_eq_true rfl⟩ ⟨Nat.le_refl _, Nat.le_refl _⟩ dX11_givesTo_207 (fun H locs hH => ?_)
            refine lv_lstore_n (lv' := [(3, l6 x207), (7, i3 v7_150), (0, .ref (eb E + t)), (5, i3 v5_109), (6, i3 v6_109)]) C.hx C.hb dX11_givesTo_210 rfl hl (by decide) rfl (fun ls hl => ?_)
            exact j_X11_givesTo_211 C hn o_t h_rec109 hf hH (lv_sub hl [2, 0, 3, 4] rfl)
        · refine lv_aload_n C.hx C.hb dX11_givesTo_162 rfl (lv_at hl 1 rfl) ?_
          refine lv_aload_n C.hx C.hb dX11_givesTo_163 rfl (lv_at hl 1 rfl) ?_
          refine g_ref (off := 6) C hH o_t (by decide) rfl rfl FL_RX11_33 dX11_givesTo_164 ?_
          refine lv_iload C.hx C.hb dX11_givesTo_167 (lv_at hl 0 rfl) ?_
          refine r_iald C hH (ly (i := 8) (off := 6) (k := 12) hn o_t rfl rfl rfl) (lyn (i := 8) (off := 6) (N := 79) hn o_t rfl rfl rfl) hf dX11_givesTo_169 (fun x169 hf => ?_)
          obtain ⟨x170, M170, hc9, hf⟩ := cl_of hf
          refine r_callVi (rest := []) C hH hl o_t (by decide) rfl (m_X11_saysOf hn o_t hc9) ML_RX11_303 MF_X11_saysOf MI_X11_saysOf rfl rfl (Nat.le_of_ble_eq_true rfl) ⟨Nat.le_of_ble_eq_true rfl, Nat.le_of_ble_eq_true rfl⟩ ⟨Nat.le_refl _, Nat.le_refl _⟩ dX11_givesTo_170 (fun H locs hH => ?_)
          refine lv_lconst (v := Int64.ofInt 0) C.hx C.hb dX11_givesTo_173 (by decide) ?_
          refine w_lle (tgt := 182) C hf dX11_givesTo_174 dX11_givesTo_175 (by decide) (fun hf => ?_) (fun hf => ?_)
          · refine lv_iconst (v := Int32.ofInt 0) C.hx C.hb dX11_givesTo_182 rfl ?_
            exact j_X11_givesTo_183 C hn o_t h_rec109 hf hH (lv_sub hl [1, 2, 4] rfl)
          · refine lv_iconst (v := Int32.ofInt 1) C.hx C.hb dX11_givesTo_178 rfl ?_
            refine lv_goto (tgt := 183) C.hx C.hb dX11_givesTo_179 (by decide) ?_
            exact j_X11_givesTo_183 C hn o_t h_rec109 hf hH (lv_sub hl [1, 2, 4] rfl)
set_option maxRecDepth 100000 in
set_option maxHeartbeats 4000000 in
theorem j_X11_givesTo_54 {p : Program} {l : Launch} {e : Env} {s : State} {m : MethodId} {args : Array Value} {below : List Frame} {meth : Method} {c : Code} {E : EE} {n : Nat} {o : (Int × Mem)} {t : Nat} {a1 : Int} {a2 : Int} {M36 : Mem} {u0_54 : Int} {H : Heap} {locs : List Loc} {ls : Array Slot} (C : Cx E p s m args meth c cX11_givesTo 8 RX11 (some .int) n "givesTo") (hn : nfull n) (o_t : ob n t 11) (hf : fn_X11_givesTo_J54 t a1 a2 M36 u0_54 = some o) (hH : ST E s n (zf n) M36 H locs) (hl : lv_has ls 8 [(0, .ref (eb E + t)), (1, i3 a1), (2, i3 a2)]) : W p l e { frames := 3, cells := 0, slots := 0, locals := 69 } s m args below meth c H locs 0 0 (MQ below (QC E (some (i3 o.1)) n (zf n) o.2) args s 0 0 (fr E)) (F0 m 54 ls [i3 u0_54, i3 3, .ref (eb E + (t + 21))]) := by
  unfold fn_X11_givesTo_J54 at hf
  refine r_iast C hH (ly (i := 37) (off := 21) (k := 12) hn o_t rfl rfl rfl) (lyn (i := 37) (off := 21) (N := 6) hn o_t rfl rfl rfl) hf dX11_givesTo_54 (fun M54 H locs hf hH => ?_)
  refine lv_aload_n C.hx C.hb dX11_givesTo_55 rfl (lv_at hl 0 rfl) ?_
  refine g_ref (off := 21) C hH o_t (by decide) rfl rfl FL_RX11_78 dX11_givesTo_56 ?_
  refine lv_iconst (v := Int32.ofInt 4) C.hx C.hb dX11_givesTo_59 rfl ?_
  refine lv_aload_n C.hx C.hb dX11_givesTo_60 rfl (lv_at hl 0 rfl) ?_
  refine lv_iload_n C.hx C.hb dX11_givesTo_61 rfl (lv_at hl 2 rfl) ?_
  refine lv_iconst (v := Int32.ofInt 1) C.hx C.hb dX11_givesTo_62 rfl ?_
  obtain ⟨x63, hc9, hf⟩ := cu_of hf
  refine r_callVi (rest := [i3 4, .ref (eb E + (t + 21))]) C hH hl o_t (by decide) rfl (m_X11_coinOf hn o_t hc9) ML_RX11_300 MF_X11_coinOf MI_X11_coinOf rfl rfl (Nat.le_of_ble_eq_true rfl) ⟨Nat.le_of_ble_eq_true rfl, Nat.le_of_ble_eq_true rfl⟩ ⟨Nat.le_refl _, Nat.le_refl _⟩ dX11_givesTo_63 (fun H locs hH => ?_)
  refine r_iast C hH (ly (i := 37) (off := 21) (k := 12) hn o_t rfl rfl rfl) (lyn (i := 37) (off := 21) (N := 6) hn o_t rfl rfl rfl) hf dX11_givesTo_66 (fun M66 H locs hf hH => ?_)
  refine lv_aload_n C.hx C.hb dX11_givesTo_67 rfl (lv_at hl 0 rfl) ?_
  refine g_ref (off := 21) C hH o_t (by decide) rfl rfl FL_RX11_78 dX11_givesTo_68 ?_
  refine lv_iconst (v := Int32.ofInt 5) C.hx C.hb dX11_givesTo_71 rfl ?_
  refine lv_aload_n C.hx C.hb dX11_givesTo_72 rfl (lv_at hl 0 rfl) ?_
  refine lv_iload_n C.hx C.hb dX11_givesTo_73 rfl (lv_at hl 2 rfl) ?_
  refine lv_iconst (v := Int32.ofInt 3) C.hx C.hb dX11_givesTo_74 rfl ?_
  obtain ⟨x75, hc9, hf⟩ := cu_of hf
  refine r_callVi (rest := [i3 5, .ref (eb E + (t + 21))]) C hH hl o_t (by decide) rfl (m_X11_coinOf hn o_t hc9) ML_RX11_300 MF_X11_coinOf MI_X11_coinOf rfl rfl (Nat.le_of_ble_eq_true rfl) ⟨Nat.le_of_ble_eq_true rfl, Nat.le_of_ble_eq_true rfl⟩ ⟨Nat.le_refl _, Nat.le_refl _⟩ dX11_givesTo_75 (fun H locs hH => ?_)
  refine r_iast C hH (ly (i := 37) (off := 21) (k := 12) hn o_t rfl rfl rfl) (lyn (i := 37) (off := 21) (N := 6) hn o_t rfl rfl rfl) hf dX11_givesTo_78 (fun M78 H locs hf hH => ?_)
  refine lv_aload_n C.hx C.hb dX11_givesTo_79 rfl (lv_at hl 0 rfl) ?_
  refine g_ref (off := 21) C hH o_t (by decide) rfl rfl FL_RX11_78 dX11_givesTo_80 ?_
  refine lv_bipush (v := Int32.ofInt 6) C.hx C.hb dX11_givesTo_83 (by decide) ?_
  refine lv_aload_n C.hx C.hb dX11_givesTo_85 rfl (lv_at hl 0 rfl) ?_
  refine lv_iload_n C.hx C.hb dX11_givesTo_86 rfl (lv_at hl 2 rfl) ?_
  refine lv_iconst (v := Int32.ofInt 2) C.hx C.hb dX11_givesTo_87 rfl ?_
  obtain ⟨x88, hc9, hf⟩ := cu_of hf
  refine r_callVi (rest := [i3 6, .ref (eb E + (t + 21))]) C hH hl o_t (by decide) rfl (m_X11_coinOf hn o_t hc9) ML_RX11_300 MF_X11_coinOf MI_X11_coinOf rfl rfl (Nat.le_of_ble_eq_true rfl) ⟨Nat.le_of_ble_eq_true rfl, Nat.le_of_ble_eq_true rfl⟩ ⟨Nat.le_refl _, Nat.le_refl _⟩ dX11_givesTo_88 (fun H locs hH => ?_)
  refine r_iast C hH (ly (i := 37) (off := 21) (k := 12) hn o_t rfl rfl rfl) (lyn (i := 37) (off := 21) (N := 6) hn o_t rfl rfl rfl) hf dX11_givesTo_91 (fun M91 H locs hf hH => ?_)
  refine lv_aload_n C.hx C.hb dX11_givesTo_92 rfl (lv_at hl 0 rfl) ?_
  refine g_ref (off := 1) C hH o_t (by decide) rfl rfl FL_RX11_7 dX11_givesTo_93 ?_
  refine lv_bipush (v := Int32.ofInt 10) C.hx C.hb dX11_givesTo_96 (by decide) ?_
  refine lv_iload_n C.hx C.hb dX11_givesTo_98 rfl (lv_at hl 1 rfl) ?_
  refine w_iadd C dX11_givesTo_99 ?_
  refine r_iald C hH (ly (i := 0) (off := 1) (k := 12) hn o_t rfl rfl rfl) (lyn (i := 0) (off := 1) (N := 287) hn o_t rfl rfl rfl) hf dX11_givesTo_100 (fun x100 hf => ?_)
  obtain ⟨hR8, hf⟩ := ck_of hf
  refine w_i2l C hR8 dX11_givesTo_101 ?_
  refine lv_lstore_n (lv' := [(3, l6 x100), (0, .ref (eb E + t)), (1, i3 a1), (2, i3 a2)]) C.hx C.hb dX11_givesTo_102 rfl hl (by decide) rfl (fun ls hl => ?_)
  refine lv_iconst (v := Int32.ofInt 0) C.hx C.hb dX11_givesTo_103 rfl ?_
  refine lv_istore (lv' := [(5, i3 0), (3, l6 x100), (0, .ref (eb E + t)), (1, i3 a1), (2, i3 a2)]) C.hx C.hb dX11_givesTo_104 hl (by decide) rfl (fun ls hl => ?_)
  refine lv_iconst (v := Int32.ofInt 0) C.hx C.hb dX11_givesTo_106 rfl ?_
  refine lv_istore (lv' := [(6, i3 0), (5, i3 0), (3, l6 x100), (0, .ref (eb E + t)), (1, i3 a1), (2, i3 a2)]) C.hx C.hb dX11_givesTo_107 hl (by decide) rfl (fun ls hl => ?_)
  exact l_X11_givesTo_109 C hn o_t FU _ _ _ _ _ _ _ hf hH (lv_sub hl [3, 2, 1, 0] rfl)
set_option maxRecDepth 100000 in
set_option maxHeartbeats 4000000 in
theorem m_X11_givesTo {E : EE} {l : Launch} {n : Nat} {t : Nat} {a1 : Int} {a2 : Int} {M : Mem} {o : (Int × Mem)} (hn : nfull n) (o_t : ob n t 11) (hf : fn_X11_givesTo t a1 a2 M = some o) : CT E l yX11_givesTo cX11_givesTo 8 (some .int) 3 69 0 0 [.ref (eb E + t), i3 a1, i3 a2] n (zf n) M (some (i3 o.1)) n (zf n) o.2 := by
  refine CT_of PN_RX11 (Nat.le_of_ble_eq_true rfl) ?_
  intro p e s m args below meth c C hH ls hl
  replace C : Cx E p s m args meth c cX11_givesTo 8 RX11 (some .int) n "givesTo" := C
  have hl : lv_has ls 8 [(0, .ref (eb E + t)), (1, i3 a1), (2, i3 a2)] := hl
  unfold fn_X11_givesTo at hf
  refine lv_aload_n C.hx C.hb dX11_givesTo_0 rfl (lv_at hl 0 rfl) ?_
  refine g_ref (off := 21) C hH o_t (by decide) rfl rfl FL_RX11_78 dX11_givesTo_1 ?_
  refine lv_iconst (v := Int32.ofInt 0) C.hx C.hb dX11_givesTo_4 rfl ?_
  refine lv_iload_n C.hx C.hb dX11_givesTo_5 rfl (lv_at hl 1 rfl) ?_
  refine r_iast C hH (ly (i := 37) (off := 21) (k := 12) hn o_t rfl rfl rfl) (lyn (i := 37) (off := 21) (N := 6) hn o_t rfl rfl rfl) hf dX11_givesTo_6 (fun M6 H locs hf hH => ?_)
  refine lv_aload_n C.hx C.hb dX11_givesTo_7 rfl (lv_at hl 0 rfl) ?_
  refine g_ref (off := 21) C hH o_t (by decide) rfl rfl FL_RX11_78 dX11_givesTo_8 ?_
  refine lv_iconst (v := Int32.ofInt 1) C.hx C.hb dX11_givesTo_11 rfl ?_
  refine lv_aload_n C.hx C.hb dX11_givesTo_12 rfl (lv_at hl 0 rfl) ?_
  refine g_ref (off := 1) C hH o_t (by decide) rfl rfl FL_RX11_7 dX11_givesTo_13 ?_
  refine lv_bipush (v := Int32.ofInt 10) C.hx C.hb dX11_givesTo_16 (by decide) ?_
  refine lv_iload_n C.hx C.hb dX11_givesTo_18 rfl (lv_at hl 1 rfl) ?_
  refine w_iadd C dX11_givesTo_19 ?_
  refine r_iald C hH (ly (i := 0) (off := 1) (k := 12) hn o_t rfl rfl rfl) (lyn (i := 0) (off := 1) (N := 287) hn o_t rfl rfl rfl) hf dX11_givesTo_20 (fun x20 hf => ?_)
  refine r_iast C hH (ly (i := 37) (off := 21) (k := 12) hn o_t rfl rfl rfl) (lyn (i := 37) (off := 21) (N := 6) hn o_t rfl rfl rfl) hf dX11_givesTo_21 (fun M21 H locs hf hH => ?_)
  refine lv_aload_n C.hx C.hb dX11_givesTo_22 rfl (lv_at hl 0 rfl) ?_
  refine g_ref (off := 21) C hH o_t (by decide) rfl rfl FL_RX11_78 dX11_givesTo_23 ?_
  refine lv_iconst (v := Int32.ofInt 2) C.hx C.hb dX11_givesTo_26 rfl ?_
  refine lv_aload_n C.hx C.hb dX11_givesTo_27 rfl (lv_at hl 0 rfl) ?_
  refine g_ref (off := 1) C hH o_t (by decide) rfl rfl FL_RX11_7 dX11_givesTo_28 ?_
  refine lv_iconst (v := Int32.ofInt 2) C.hx C.hb dX11_givesTo_31 rfl ?_
  refine r_iald C hH (ly (i := 0) (off := 1) (k := 12) hn o_t rfl rfl rfl) (lyn (i := 0) (off := 1) (N := 287) hn o_t rfl rfl rfl) hf dX11_givesTo_32 (fun x32 hf => ?_)
  refine lv_bipush (v := Int32.ofInt 24) C.hx C.hb dX11_givesTo_33 (by decide) ?_
  obtain ⟨hR8, hf⟩ := ck_of hf
  refine w_irem C hR8 dX11_givesTo_35 ?_
  refine r_iast C hH (ly (i := 37) (off := 21) (k := 12) hn o_t rfl rfl rfl) (lyn (i := 37) (off := 21) (N := 6) hn o_t rfl rfl rfl) hf dX11_givesTo_36 (fun M36 H locs hf hH => ?_)
  refine lv_aload_n C.hx C.hb dX11_givesTo_37 rfl (lv_at hl 0 rfl) ?_
  refine g_ref (off := 21) C hH o_t (by decide) rfl rfl FL_RX11_78 dX11_givesTo_38 ?_
  refine lv_iconst (v := Int32.ofInt 3) C.hx C.hb dX11_givesTo_41 rfl ?_
  refine lv_aload_n C.hx C.hb dX11_givesTo_42 rfl (lv_at hl 0 rfl) ?_
  obtain ⟨x43, hc9, hf⟩ := cu_of hf
  refine r_callVi (rest := [i3 3, .ref (eb E + (t + 21))]) C hH hl o_t (by decide) rfl (m_X11_isMarket hn o_t hc9) ML_RX11_296 MF_X11_isMarket MI_X11_isMarket rfl rfl (Nat.le_of_ble_eq_true rfl) ⟨Nat.le_of_ble_eq_true rfl, Nat.le_of_ble_eq_true rfl⟩ ⟨Nat.le_refl _, Nat.le_refl _⟩ dX11_givesTo_43 (fun H locs hH => ?_)
  refine w_eq0 (tgt := 53) C hf dX11_givesTo_46 (by decide) (fun hf => ?_) (fun hf => ?_)
  · refine lv_iconst (v := Int32.ofInt 0) C.hx C.hb dX11_givesTo_53 rfl ?_
    exact j_X11_givesTo_54 C hn o_t hf hH (lv_sub hl [0, 1, 2] rfl)
  · refine lv_iconst (v := Int32.ofInt 1) C.hx C.hb dX11_givesTo_49 rfl ?_
    refine lv_goto (tgt := 54) C.hx C.hb dX11_givesTo_50 (by decide) ?_
    exact j_X11_givesTo_54 C hn o_t hf hH (lv_sub hl [0, 1, 2] rfl)
-- HeavierByHandModel.gives
def fn_X11_gives_J35 (M : Mem) : Option (Int × Mem) :=
  some ((-1), M)
def fn_X11_gives (t : Nat) (a1 : Int) (a2 : Int) (M : Mem) : Option (Int × Mem) :=
  cu (fn_X11_isHand t a1 M) fun x2 => cEq x2 0 (fn_X11_gives_J35 M) (cu (fn_X11_isCoin t a2 M) fun x10 => cEq x10 0 (fn_X11_gives_J35 M) (cu (fn_X11_coinOf t a2 2 M) fun x19 => cEq x19 a1 (fn_X11_gives_J35 M) (cl (fn_X11_givesTo t a1 a2 M) fun x29 M29 => some (x29, M29))))
set_option maxRecDepth 100000 in
set_option maxHeartbeats 4000000 in
theorem j_X11_gives_35 {p : Program} {l : Launch} {e : Env} {s : State} {m : MethodId} {args : Array Value} {below : List Frame} {meth : Method} {c : Code} {E : EE} {n : Nat} {o : (Int × Mem)} {M : Mem} {H : Heap} {locs : List Loc} {ls : Array Slot} (C : Cx E p s m args meth c cX11_gives 3 RX11 (some .int) n "gives") (hn : nfull n) (hf : fn_X11_gives_J35 M = some o) (hH : ST E s n (zf n) M H locs) (hl : lv_has ls 3 []) : W p l e { frames := 4, cells := 0, slots := 0, locals := 96 } s m args below meth c H locs 0 0 (MQ below (QC E (some (i3 o.1)) n (zf n) o.2) args s 0 0 (fr E)) (F0 m 35 ls []) := by
  unfold fn_X11_gives_J35 at hf
  refine lv_iconst (v := Int32.ofInt (-1)) C.hx C.hb dX11_gives_35 rfl ?_
  cases hf
  exact w_iret C hH dX11_gives_36
set_option maxRecDepth 100000 in
set_option maxHeartbeats 4000000 in
theorem m_X11_gives {E : EE} {l : Launch} {n : Nat} {t : Nat} {a1 : Int} {a2 : Int} {M : Mem} {o : (Int × Mem)} (hn : nfull n) (o_t : ob n t 11) (hf : fn_X11_gives t a1 a2 M = some o) : CT E l yX11_gives cX11_gives 3 (some .int) 4 96 0 0 [.ref (eb E + t), i3 a1, i3 a2] n (zf n) M (some (i3 o.1)) n (zf n) o.2 := by
  refine CT_of PN_RX11 (Nat.le_of_ble_eq_true rfl) ?_
  intro p e s m args below meth c C hH ls hl
  replace C : Cx E p s m args meth c cX11_gives 3 RX11 (some .int) n "gives" := C
  have hl : lv_has ls 3 [(0, .ref (eb E + t)), (1, i3 a1), (2, i3 a2)] := hl
  unfold fn_X11_gives at hf
  refine lv_aload_n C.hx C.hb dX11_gives_0 rfl (lv_at hl 0 rfl) ?_
  refine lv_iload_n C.hx C.hb dX11_gives_1 rfl (lv_at hl 1 rfl) ?_
  obtain ⟨x2, hc9, hf⟩ := cu_of hf
  refine r_callVi (rest := []) C hH hl o_t (by decide) rfl (m_X11_isHand hn o_t hc9) ML_RX11_119 MF_X11_isHand MI_X11_isHand rfl rfl (Nat.le_of_ble_eq_true rfl) ⟨Nat.le_of_ble_eq_true rfl, Nat.le_of_ble_eq_true rfl⟩ ⟨Nat.le_refl _, Nat.le_refl _⟩ dX11_gives_2 (fun H locs hH => ?_)
  refine w_eq0 (tgt := 35) C hf dX11_gives_5 (by decide) (fun hf => ?_) (fun hf => ?_)
  · exact j_X11_gives_35 C hn hf hH (lv_sub hl [] rfl)
  · refine lv_aload_n C.hx C.hb dX11_gives_8 rfl (lv_at hl 0 rfl) ?_
    refine lv_iload_n C.hx C.hb dX11_gives_9 rfl (lv_at hl 2 rfl) ?_
    obtain ⟨x10, hc9, hf⟩ := cu_of hf
    refine r_callVi (rest := []) C hH hl o_t (by decide) rfl (m_X11_isCoin hn o_t hc9) ML_RX11_309 MF_X11_isCoin MI_X11_isCoin rfl rfl (Nat.le_of_ble_eq_true rfl) ⟨Nat.le_of_ble_eq_true rfl, Nat.le_of_ble_eq_true rfl⟩ ⟨Nat.le_refl _, Nat.le_refl _⟩ dX11_gives_10 (fun H locs hH => ?_)
    refine w_eq0 (tgt := 35) C hf dX11_gives_13 (by decide) (fun hf => ?_) (fun hf => ?_)
    · exact j_X11_gives_35 C hn hf hH (lv_sub hl [] rfl)
    · refine lv_aload_n C.hx C.hb dX11_gives_16 rfl (lv_at hl 0 rfl) ?_
      refine lv_iload_n C.hx C.hb dX11_gives_17 rfl (lv_at hl 2 rfl) ?_
      refine lv_iconst (v := Int32.ofInt 2) C.hx C.hb dX11_gives_18 rfl ?_
      obtain ⟨x19, hc9, hf⟩ := cu_of hf
      refine r_callVi (rest := []) C hH hl o_t (by decide) rfl (m_X11_coinOf hn o_t hc9) ML_RX11_300 MF_X11_coinOf MI_X11_coinOf rfl rfl (Nat.le_of_ble_eq_true rfl) ⟨Nat.le_of_ble_eq_true rfl, Nat.le_of_ble_eq_true rfl⟩ ⟨Nat.le_refl _, Nat.le_refl _⟩ dX11_gives_19 (fun H locs hH => ?_)
      refine lv_iload_n C.hx C.hb dX11_gives_22 rfl (lv_at hl 1 rfl) ?_
      refine w_eq (tgt := 35) C hf dX11_gives_23 (by decide) (fun hf => ?_) (fun hf => ?_)
      · exact j_X11_gives_35 C hn hf hH (lv_sub hl [] rfl)
      · refine lv_aload_n C.hx C.hb dX11_gives_26 rfl (lv_at hl 0 rfl) ?_
        refine lv_iload_n C.hx C.hb dX11_gives_27 rfl (lv_at hl 1 rfl) ?_
        refine lv_iload_n C.hx C.hb dX11_gives_28 rfl (lv_at hl 2 rfl) ?_
        obtain ⟨x29, M29, hc9, hf⟩ := cl_of hf
        refine r_callVi (rest := []) C hH hl o_t (by decide) rfl (m_X11_givesTo hn o_t hc9) ML_RX11_312 MF_X11_givesTo MI_X11_givesTo rfl rfl (Nat.le_of_ble_eq_true rfl) ⟨Nat.le_of_ble_eq_true rfl, Nat.le_of_ble_eq_true rfl⟩ ⟨Nat.le_refl _, Nat.le_refl _⟩ dX11_gives_29 (fun H locs hH => ?_)
        refine lv_goto (tgt := 36) C.hx C.hb dX11_gives_32 (by decide) ?_
        cases hf
        exact w_iret C hH dX11_gives_36
-- HeavierByHandModel.keepsStep
def fn_X11_keepsStep_J51 (t : Nat) (a1 : Int) (M51 : Mem) : Option Mem :=
  rd M51 (t + 1) 288 7 fun x60 => nm ((120 + (4 * x60))) fun v2_63 => wr M51 (t + 1) 288 v2_63 a1 fun M70 => cu (fn_X11_coinOf t a1 1 M70) fun x81 => wr M70 (t + 1) 288 (v2_63 + 1) x81 fun M84 => cu (fn_X11_coinOf t a1 2 M84) fun x95 => wr M84 (t + 1) 288 (v2_63 + 2) x95 fun M98 => cu (fn_X11_coinOf t a1 3 M98) fun x109 => wr M98 (t + 1) 288 (v2_63 + 3) x109 fun M112 => rd M112 (t + 1) 288 7 fun x120 => wr M112 (t + 1) 288 7 (x120 + 1) fun M123 => some M123
def fn_X11_keepsStep_J42 (t : Nat) (a1 : Int) (M42 : Mem) : Option Mem :=
  wr M42 (t + 1) 288 7 39 fun M50 => fn_X11_keepsStep_J51 t a1 M50
def fn_X11_keepsStep_L15 (t : Nat) (a1 : Int) (rec15 : Int → Mem → Option Mem) (v2_15 : Int) (M15 : Mem) : Option Mem :=
  cLt v2_15 276 (rd M15 (t + 1) 288 (v2_15 + 4) fun x34 => wr M15 (t + 1) 288 v2_15 x34 fun M35 => nm (v2_15 + 1) fun v2_36 => rec15 v2_36 M35) (fn_X11_keepsStep_J42 t a1 M15)
def fn_X11_keepsStep (t : Nat) (a1 : Int) (M : Mem) : Option Mem :=
  rd M (t + 1) 288 7 fun x6 => cEq x6 40 (lq2 (fn_X11_keepsStep_L15 t a1) FU 120 M) (fn_X11_keepsStep_J51 t a1 M)
set_option maxRecDepth 100000 in
set_option maxHeartbeats 4000000 in
theorem j_X11_keepsStep_51 {p : Program} {l : Launch} {e : Env} {s : State} {m : MethodId} {args : Array Value} {below : List Frame} {meth : Method} {c : Code} {E : EE} {n : Nat} {o : Mem} {t : Nat} {a1 : Int} {M51 : Mem} {H : Heap} {locs : List Loc} {ls : Array Slot} (C : Cx E p s m args meth c cX11_keepsStep 3 RX11 none n "keepsStep") (hn : nfull n) (o_t : ob n t 11) (hf : fn_X11_keepsStep_J51 t a1 M51 = some o) (hH : ST E s n (zf n) M51 H locs) (hl : lv_has ls 3 [(0, .ref (eb E + t)), (1, i3 a1)]) : W p l e { frames := 1, cells := 0, slots := 0, locals := 22 } s m args below meth c H locs 0 0 (MQ below (QC E none n (zf n) o) args s 0 0 (fr E)) (F0 m 51 ls []) := by
  unfold fn_X11_keepsStep_J51 at hf
  refine lv_bipush (v := Int32.ofInt 120) C.hx C.hb dX11_keepsStep_51 (by decide) ?_
  refine lv_iconst (v := Int32.ofInt 4) C.hx C.hb dX11_keepsStep_53 rfl ?_
  refine lv_aload_n C.hx C.hb dX11_keepsStep_54 rfl (lv_at hl 0 rfl) ?_
  refine g_ref (off := 1) C hH o_t (by decide) rfl rfl FL_RX11_7 dX11_keepsStep_55 ?_
  refine lv_bipush (v := Int32.ofInt 7) C.hx C.hb dX11_keepsStep_58 (by decide) ?_
  refine r_iald C hH (ly (i := 0) (off := 1) (k := 12) hn o_t rfl rfl rfl) (lyn (i := 0) (off := 1) (N := 287) hn o_t rfl rfl rfl) hf dX11_keepsStep_60 (fun x60 hf => ?_)
  refine w_imul C dX11_keepsStep_61 ?_
  refine w_iadd C dX11_keepsStep_62 ?_
  refine r_nm hf (fun v2_63 hf => ?_)
  refine lv_istore_n (lv' := [(2, i3 v2_63), (0, .ref (eb E + t)), (1, i3 a1)]) C.hx C.hb dX11_keepsStep_63 rfl hl (by decide) rfl (fun ls hl => ?_)
  refine lv_aload_n C.hx C.hb dX11_keepsStep_64 rfl (lv_at hl 1 rfl) ?_
  refine g_ref (off := 1) C hH o_t (by decide) rfl rfl FL_RX11_7 dX11_keepsStep_65 ?_
  refine lv_iload_n C.hx C.hb dX11_keepsStep_68 rfl (lv_at hl 0 rfl) ?_
  refine lv_iload_n C.hx C.hb dX11_keepsStep_69 rfl (lv_at hl 2 rfl) ?_
  refine r_iast C hH (ly (i := 0) (off := 1) (k := 12) hn o_t rfl rfl rfl) (lyn (i := 0) (off := 1) (N := 287) hn o_t rfl rfl rfl) hf dX11_keepsStep_70 (fun M70 H locs hf hH => ?_)
  refine lv_aload_n C.hx C.hb dX11_keepsStep_71 rfl (lv_at hl 1 rfl) ?_
  refine g_ref (off := 1) C hH o_t (by decide) rfl rfl FL_RX11_7 dX11_keepsStep_72 ?_
  refine lv_iload_n C.hx C.hb dX11_keepsStep_75 rfl (lv_at hl 0 rfl) ?_
  refine lv_iconst (v := Int32.ofInt 1) C.hx C.hb dX11_keepsStep_76 rfl ?_
  refine w_iadd C dX11_keepsStep_77 ?_
  refine lv_aload_n C.hx C.hb dX11_keepsStep_78 rfl (lv_at hl 1 rfl) ?_
  refine lv_iload_n C.hx C.hb dX11_keepsStep_79 rfl (lv_at hl 2 rfl) ?_
  refine lv_iconst (v := Int32.ofInt 1) C.hx C.hb dX11_keepsStep_80 rfl ?_
  obtain ⟨x81, hc9, hf⟩ := cu_of hf
  refine r_callVi (rest := [i3 (v2_63 + 1), .ref (eb E + (t + 1))]) C hH hl o_t (by decide) rfl (m_X11_coinOf hn o_t hc9) ML_RX11_300 MF_X11_coinOf MI_X11_coinOf rfl rfl (Nat.le_of_ble_eq_true rfl) ⟨Nat.le_of_ble_eq_true rfl, Nat.le_of_ble_eq_true rfl⟩ ⟨Nat.le_refl _, Nat.le_refl _⟩ dX11_keepsStep_81 (fun H locs hH => ?_)
  refine r_iast C hH (ly (i := 0) (off := 1) (k := 12) hn o_t rfl rfl rfl) (lyn (i := 0) (off := 1) (N := 287) hn o_t rfl rfl rfl) hf dX11_keepsStep_84 (fun M84 H locs hf hH => ?_)
  refine lv_aload_n C.hx C.hb dX11_keepsStep_85 rfl (lv_at hl 1 rfl) ?_
  refine g_ref (off := 1) C hH o_t (by decide) rfl rfl FL_RX11_7 dX11_keepsStep_86 ?_
  refine lv_iload_n C.hx C.hb dX11_keepsStep_89 rfl (lv_at hl 0 rfl) ?_
  refine lv_iconst (v := Int32.ofInt 2) C.hx C.hb dX11_keepsStep_90 rfl ?_
  refine w_iadd C dX11_keepsStep_91 ?_
  refine lv_aload_n C.hx C.hb dX11_keepsStep_92 rfl (lv_at hl 1 rfl) ?_
  refine lv_iload_n C.hx C.hb dX11_keepsStep_93 rfl (lv_at hl 2 rfl) ?_
  refine lv_iconst (v := Int32.ofInt 2) C.hx C.hb dX11_keepsStep_94 rfl ?_
  obtain ⟨x95, hc9, hf⟩ := cu_of hf
  refine r_callVi (rest := [i3 (v2_63 + 2), .ref (eb E + (t + 1))]) C hH hl o_t (by decide) rfl (m_X11_coinOf hn o_t hc9) ML_RX11_300 MF_X11_coinOf MI_X11_coinOf rfl rfl (Nat.le_of_ble_eq_true rfl) ⟨Nat.le_of_ble_eq_true rfl, Nat.le_of_ble_eq_true rfl⟩ ⟨Nat.le_refl _, Nat.le_refl _⟩ dX11_keepsStep_95 (fun H locs hH => ?_)
  refine r_iast C hH (ly (i := 0) (off := 1) (k := 12) hn o_t rfl rfl rfl) (lyn (i := 0) (off := 1) (N := 287) hn o_t rfl rfl rfl) hf dX11_keepsStep_98 (fun M98 H locs hf hH => ?_)
  refine lv_aload_n C.hx C.hb dX11_keepsStep_99 rfl (lv_at hl 1 rfl) ?_
  refine g_ref (off := 1) C hH o_t (by decide) rfl rfl FL_RX11_7 dX11_keepsStep_100 ?_
  refine lv_iload_n C.hx C.hb dX11_keepsStep_103 rfl (lv_at hl 0 rfl) ?_
  refine lv_iconst (v := Int32.ofInt 3) C.hx C.hb dX11_keepsStep_104 rfl ?_
  refine w_iadd C dX11_keepsStep_105 ?_
  refine lv_aload_n C.hx C.hb dX11_keepsStep_106 rfl (lv_at hl 1 rfl) ?_
  refine lv_iload_n C.hx C.hb dX11_keepsStep_107 rfl (lv_at hl 2 rfl) ?_
  refine lv_iconst (v := Int32.ofInt 3) C.hx C.hb dX11_keepsStep_108 rfl ?_
  obtain ⟨x109, hc9, hf⟩ := cu_of hf
  refine r_callVi (rest := [i3 (v2_63 + 3), .ref (eb E + (t + 1))]) C hH hl o_t (by decide) rfl (m_X11_coinOf hn o_t hc9) ML_RX11_300 MF_X11_coinOf MI_X11_coinOf rfl rfl (Nat.le_of_ble_eq_true rfl) ⟨Nat.le_of_ble_eq_true rfl, Nat.le_of_ble_eq_true rfl⟩ ⟨Nat.le_refl _, Nat.le_refl _⟩ dX11_keepsStep_109 (fun H locs hH => ?_)
  refine r_iast C hH (ly (i := 0) (off := 1) (k := 12) hn o_t rfl rfl rfl) (lyn (i := 0) (off := 1) (N := 287) hn o_t rfl rfl rfl) hf dX11_keepsStep_112 (fun M112 H locs hf hH => ?_)
  refine lv_aload_n C.hx C.hb dX11_keepsStep_113 rfl (lv_at hl 1 rfl) ?_
  refine g_ref (off := 1) C hH o_t (by decide) rfl rfl FL_RX11_7 dX11_keepsStep_114 ?_
  refine lv_bipush (v := Int32.ofInt 7) C.hx C.hb dX11_keepsStep_117 (by decide) ?_
  refine lv_dup2_11 C.hx C.hb dX11_keepsStep_119 rfl rfl ?_
  refine r_iald C hH (ly (i := 0) (off := 1) (k := 12) hn o_t rfl rfl rfl) (lyn (i := 0) (off := 1) (N := 287) hn o_t rfl rfl rfl) hf dX11_keepsStep_120 (fun x120 hf => ?_)
  refine lv_iconst (v := Int32.ofInt 1) C.hx C.hb dX11_keepsStep_121 rfl ?_
  refine w_iadd C dX11_keepsStep_122 ?_
  refine r_iast C hH (ly (i := 0) (off := 1) (k := 12) hn o_t rfl rfl rfl) (lyn (i := 0) (off := 1) (N := 287) hn o_t rfl rfl rfl) hf dX11_keepsStep_123 (fun M123 H locs hf hH => ?_)
  cases hf
  exact w_vret C hH dX11_keepsStep_124
set_option maxRecDepth 100000 in
set_option maxHeartbeats 4000000 in
theorem j_X11_keepsStep_42 {p : Program} {l : Launch} {e : Env} {s : State} {m : MethodId} {args : Array Value} {below : List Frame} {meth : Method} {c : Code} {E : EE} {n : Nat} {o : Mem} {t : Nat} {a1 : Int} {M42 : Mem} {H : Heap} {locs : List Loc} {ls : Array Slot} (C : Cx E p s m args meth c cX11_keepsStep 3 RX11 none n "keepsStep") (hn : nfull n) (o_t : ob n t 11) (hf : fn_X11_keepsStep_J42 t a1 M42 = some o) (hH : ST E s n (zf n) M42 H locs) (hl : lv_has ls 3 [(0, .ref (eb E + t)), (1, i3 a1)]) : W p l e { frames := 1, cells := 0, slots := 0, locals := 22 } s m args below meth c H locs 0 0 (MQ below (QC E none n (zf n) o) args s 0 0 (fr E)) (F0 m 42 ls []) := by
  unfold fn_X11_keepsStep_J42 at hf
  refine lv_aload_n C.hx C.hb dX11_keepsStep_42 rfl (lv_at hl 0 rfl) ?_
  refine g_ref (off := 1) C hH o_t (by decide) rfl rfl FL_RX11_7 dX11_keepsStep_43 ?_
  refine lv_bipush (v := Int32.ofInt 7) C.hx C.hb dX11_keepsStep_46 (by decide) ?_
  refine lv_bipush (v := Int32.ofInt 39) C.hx C.hb dX11_keepsStep_48 (by decide) ?_
  refine r_iast C hH (ly (i := 0) (off := 1) (k := 12) hn o_t rfl rfl rfl) (lyn (i := 0) (off := 1) (N := 287) hn o_t rfl rfl rfl) hf dX11_keepsStep_50 (fun M50 H locs hf hH => ?_)
  exact j_X11_keepsStep_51 C hn o_t hf hH (lv_sub hl [0, 1] rfl)
set_option maxRecDepth 100000 in
set_option maxHeartbeats 4000000 in
theorem l_X11_keepsStep_15 {p : Program} {l : Launch} {e : Env} {s : State} {m : MethodId} {args : Array Value} {below : List Frame} {meth : Method} {c : Code} {E : EE} {n : Nat} {o : Mem} {t : Nat} {a1 : Int} (C : Cx E p s m args meth c cX11_keepsStep 3 RX11 none n "keepsStep") (hn : nfull n) (o_t : ob n t 11) : ∀ (k : Nat) (v2_15 : Int) (M15 : Mem) (H : Heap) (locs : List Loc) (ls : Array Slot), lq2 (fn_X11_keepsStep_L15 t a1) k v2_15 M15 = some o → ST E s n (zf n) M15 H locs → lv_has ls 3 [(0, .ref (eb E + t)), (1, i3 a1), (2, i3 v2_15)] → W p l e { frames := 1, cells := 0, slots := 0, locals := 22 } s m args below meth c H locs 0 0 (MQ below (QC E none n (zf n) o) args s 0 0 (fr E)) (F0 m 15 ls []) := by
  intro k
  induction k with
  | zero => intro v2_15 M15 H locs ls hf; cases hf
  | succ k ih =>
    intro v2_15 M15 H locs ls hf hH hl
    have h_rec15 : ∀ {v2_15 : Int} {M15 : Mem} {H : Heap} {locs : List Loc} {ls : Array Slot}, lq2 (fn_X11_keepsStep_L15 t a1) k v2_15 M15 = some o → ST E s n (zf n) M15 H locs → lv_has ls 3 [(0, .ref (eb E + t)), (1, i3 a1), (2, i3 v2_15)] → W p l e { frames := 1, cells := 0, slots := 0, locals := 22 } s m args below meth c H locs 0 0 (MQ below (QC E none n (zf n) o) args s 0 0 (fr E)) (F0 m 15 ls []) := fun {v2_15} {M15} {H} {locs} {ls} a b c => ih v2_15 M15 H locs ls a b c
    replace hf : fn_X11_keepsStep_L15 t a1 (lq2 (fn_X11_keepsStep_L15 t a1) k) v2_15 M15 = some o := hf
    generalize lq2 (fn_X11_keepsStep_L15 t a1) k = rec15 at hf h_rec15
    unfold fn_X11_keepsStep_L15 at hf
    refine lv_iload_n C.hx C.hb dX11_keepsStep_15 rfl (lv_at hl 2 rfl) ?_
    refine lv_sipush (v := Int32.ofInt 276) C.hx C.hb dX11_keepsStep_16 (by decide) ?_
    refine w_ge (tgt := 42) C hf dX11_keepsStep_19 (by decide) (fun hf => ?_) (fun hf => ?_)
    · exact j_X11_keepsStep_42 C hn o_t hf hH (lv_sub hl [0, 1] rfl)
    · refine lv_aload_n C.hx C.hb dX11_keepsStep_22 rfl (lv_at hl 0 rfl) ?_
      refine g_ref (off := 1) C hH o_t (by decide) rfl rfl FL_RX11_7 dX11_keepsStep_23 ?_
      refine lv_iload_n C.hx C.hb dX11_keepsStep_26 rfl (lv_at hl 2 rfl) ?_
      refine lv_aload_n C.hx C.hb dX11_keepsStep_27 rfl (lv_at hl 0 rfl) ?_
      refine g_ref (off := 1) C hH o_t (by decide) rfl rfl FL_RX11_7 dX11_keepsStep_28 ?_
      refine lv_iload_n C.hx C.hb dX11_keepsStep_31 rfl (lv_at hl 2 rfl) ?_
      refine lv_iconst (v := Int32.ofInt 4) C.hx C.hb dX11_keepsStep_32 rfl ?_
      refine w_iadd C dX11_keepsStep_33 ?_
      refine r_iald C hH (ly (i := 0) (off := 1) (k := 12) hn o_t rfl rfl rfl) (lyn (i := 0) (off := 1) (N := 287) hn o_t rfl rfl rfl) hf dX11_keepsStep_34 (fun x34 hf => ?_)
      refine r_iast C hH (ly (i := 0) (off := 1) (k := 12) hn o_t rfl rfl rfl) (lyn (i := 0) (off := 1) (N := 287) hn o_t rfl rfl rfl) hf dX11_keepsStep_35 (fun M35 H locs hf hH => ?_)
      refine r_iinc (k := 2) (lv' := fun v => [(2, i3 v), (0, .ref (eb E + t)), (1, i3 a1)]) C hf dX11_keepsStep_36 hl rfl (by decide) (fun _ => rfl) (fun v2_36 ls hf hl => ?_)
      refine lv_goto (tgt := 15) C.hx C.hb dX11_keepsStep_39 (by decide) ?_
      exact h_rec15 hf hH (lv_sub hl [1, 2, 0] rfl)
set_option maxRecDepth 100000 in
set_option maxHeartbeats 4000000 in
theorem m_X11_keepsStep {E : EE} {l : Launch} {n : Nat} {t : Nat} {a1 : Int} {M : Mem} {o : Mem} (hn : nfull n) (o_t : ob n t 11) (hf : fn_X11_keepsStep t a1 M = some o) : CT E l yX11_keepsStep cX11_keepsStep 3 none 1 22 0 0 [.ref (eb E + t), i3 a1] n (zf n) M none n (zf n) o := by
  refine CT_of PN_RX11 (Nat.le_of_ble_eq_true rfl) ?_
  intro p e s m args below meth c C hH ls hl
  replace C : Cx E p s m args meth c cX11_keepsStep 3 RX11 none n "keepsStep" := C
  have hl : lv_has ls 3 [(0, .ref (eb E + t)), (1, i3 a1)] := hl
  unfold fn_X11_keepsStep at hf
  refine lv_aload_n C.hx C.hb dX11_keepsStep_0 rfl (lv_at hl 0 rfl) ?_
  refine g_ref (off := 1) C hH o_t (by decide) rfl rfl FL_RX11_7 dX11_keepsStep_1 ?_
  refine lv_bipush (v := Int32.ofInt 7) C.hx C.hb dX11_keepsStep_4 (by decide) ?_
  refine r_iald C hH (ly (i := 0) (off := 1) (k := 12) hn o_t rfl rfl rfl) (lyn (i := 0) (off := 1) (N := 287) hn o_t rfl rfl rfl) hf dX11_keepsStep_6 (fun x6 hf => ?_)
  refine lv_bipush (v := Int32.ofInt 40) C.hx C.hb dX11_keepsStep_7 (by decide) ?_
  refine w_ne (tgt := 51) C hf dX11_keepsStep_9 (by decide) (fun hf => ?_) (fun hf => ?_)
  · exact j_X11_keepsStep_51 C hn o_t hf hH (lv_sub hl [0, 1] rfl)
  · refine lv_bipush (v := Int32.ofInt 120) C.hx C.hb dX11_keepsStep_12 (by decide) ?_
    refine lv_istore_n (lv' := [(2, i3 120), (0, .ref (eb E + t)), (1, i3 a1)]) C.hx C.hb dX11_keepsStep_14 rfl hl (by decide) rfl (fun ls hl => ?_)
    exact l_X11_keepsStep_15 C hn o_t FU _ _ _ _ _ hf hH (lv_sub hl [1, 2, 0] rfl)
-- HeavierByHandModel.canPay
def fn_X11_canPay_J30 : Option Int :=
  some 0
def fn_X11_canPay (t : Nat) (a1 : Int) (a2 : Int) (M : Mem) : Option Int :=
  cu (fn_X11_isCoin t a1 M) fun x2 => cEq x2 0 (fn_X11_canPay_J30) (cu (fn_X11_isHand t a2 M) fun x10 => cEq x10 0 (fn_X11_canPay_J30) (cu (fn_X11_coinOf t a1 2 M) fun x19 => cEq x19 a2 (fn_X11_canPay_J30) (some 1)))
set_option maxRecDepth 100000 in
set_option maxHeartbeats 4000000 in
theorem j_X11_canPay_30 {p : Program} {l : Launch} {e : Env} {s : State} {m : MethodId} {args : Array Value} {below : List Frame} {meth : Method} {c : Code} {E : EE} {n : Nat} {o : Int} {M : Mem} {H : Heap} {locs : List Loc} {ls : Array Slot} (C : Cx E p s m args meth c cX11_canPay 3 RX11 (some .boolean) n "canPay") (hn : nfull n) (hf : fn_X11_canPay_J30 = some o) (hH : ST E s n (zf n) M H locs) (hl : lv_has ls 3 []) : W p l e { frames := 2, cells := 0, slots := 0, locals := 43 } s m args below meth c H locs 0 0 (MQ below (QC E (some (i3 o)) n (zf n) M) args s 0 0 (fr E)) (F0 m 30 ls []) := by
  unfold fn_X11_canPay_J30 at hf
  refine lv_iconst (v := Int32.ofInt 0) C.hx C.hb dX11_canPay_30 rfl ?_
  cases hf
  exact w_zret C hH (Or.inl rfl) dX11_canPay_31
set_option maxRecDepth 100000 in
set_option maxHeartbeats 4000000 in
theorem m_X11_canPay {E : EE} {l : Launch} {n : Nat} {t : Nat} {a1 : Int} {a2 : Int} {M : Mem} {o : Int} (hn : nfull n) (o_t : ob n t 11) (hf : fn_X11_canPay t a1 a2 M = some o) : CT E l yX11_canPay cX11_canPay 3 (some .boolean) 2 43 0 0 [.ref (eb E + t), i3 a1, i3 a2] n (zf n) M (some (i3 o)) n (zf n) M := by
  refine CT_of PN_RX11 (Nat.le_of_ble_eq_true rfl) ?_
  intro p e s m args below meth c C hH ls hl
  replace C : Cx E p s m args meth c cX11_canPay 3 RX11 (some .boolean) n "canPay" := C
  have hl : lv_has ls 3 [(0, .ref (eb E + t)), (1, i3 a1), (2, i3 a2)] := hl
  unfold fn_X11_canPay at hf
  refine lv_aload_n C.hx C.hb dX11_canPay_0 rfl (lv_at hl 0 rfl) ?_
  refine lv_iload_n C.hx C.hb dX11_canPay_1 rfl (lv_at hl 1 rfl) ?_
  obtain ⟨x2, hc9, hf⟩ := cu_of hf
  refine r_callVi (rest := []) C hH hl o_t (by decide) rfl (m_X11_isCoin hn o_t hc9) ML_RX11_309 MF_X11_isCoin MI_X11_isCoin rfl rfl (Nat.le_of_ble_eq_true rfl) ⟨Nat.le_of_ble_eq_true rfl, Nat.le_of_ble_eq_true rfl⟩ ⟨Nat.le_refl _, Nat.le_refl _⟩ dX11_canPay_2 (fun H locs hH => ?_)
  refine w_eq0 (tgt := 30) C hf dX11_canPay_5 (by decide) (fun hf => ?_) (fun hf => ?_)
  · exact j_X11_canPay_30 C hn hf hH (lv_sub hl [] rfl)
  · refine lv_aload_n C.hx C.hb dX11_canPay_8 rfl (lv_at hl 0 rfl) ?_
    refine lv_iload_n C.hx C.hb dX11_canPay_9 rfl (lv_at hl 2 rfl) ?_
    obtain ⟨x10, hc9, hf⟩ := cu_of hf
    refine r_callVi (rest := []) C hH hl o_t (by decide) rfl (m_X11_isHand hn o_t hc9) ML_RX11_119 MF_X11_isHand MI_X11_isHand rfl rfl (Nat.le_of_ble_eq_true rfl) ⟨Nat.le_of_ble_eq_true rfl, Nat.le_of_ble_eq_true rfl⟩ ⟨Nat.le_refl _, Nat.le_refl _⟩ dX11_canPay_10 (fun H locs hH => ?_)
    refine w_eq0 (tgt := 30) C hf dX11_canPay_13 (by decide) (fun hf => ?_) (fun hf => ?_)
    · exact j_X11_canPay_30 C hn hf hH (lv_sub hl [] rfl)
    · refine lv_aload_n C.hx C.hb dX11_canPay_16 rfl (lv_at hl 0 rfl) ?_
      refine lv_iload_n C.hx C.hb dX11_canPay_17 rfl (lv_at hl 1 rfl) ?_
      refine lv_iconst (v := Int32.ofInt 2) C.hx C.hb dX11_canPay_18 rfl ?_
      obtain ⟨x19, hc9, hf⟩ := cu_of hf
      refine r_callVi (rest := []) C hH hl o_t (by decide) rfl (m_X11_coinOf hn o_t hc9) ML_RX11_300 MF_X11_coinOf MI_X11_coinOf rfl rfl (Nat.le_of_ble_eq_true rfl) ⟨Nat.le_of_ble_eq_true rfl, Nat.le_of_ble_eq_true rfl⟩ ⟨Nat.le_refl _, Nat.le_refl _⟩ dX11_canPay_19 (fun H locs hH => ?_)
      refine lv_iload_n C.hx C.hb dX11_canPay_22 rfl (lv_at hl 2 rfl) ?_
      refine w_eq (tgt := 30) C hf dX11_canPay_23 (by decide) (fun hf => ?_) (fun hf => ?_)
      · exact j_X11_canPay_30 C hn hf hH (lv_sub hl [] rfl)
      · refine lv_iconst (v := Int32.ofInt 1) C.hx C.hb dX11_canPay_26 rfl ?_
        refine lv_goto (tgt := 31) C.hx C.hb dX11_canPay_27 (by decide) ?_
        cases hf
        exact w_zret C hH (Or.inr rfl) dX11_canPay_31
-- HeavierByHandModel.pays
def fn_X11_pays (t : Nat) (a1 : Int) (a2 : Int) (M : Mem) : Option Mem :=
  cl (fn_X11_givesTo t a2 a1 M) fun x3 M3 => cv (fn_X11_keepsStep t a1 M3) fun M9 => nm ((20 + (5 * a1))) fun v4_18 => rd M9 (t + 1) 288 (v4_18 + 1) fun x29 => wr M9 (t + 1) 288 (v4_18 + 1) (x29 + x3) fun M32 => wr M32 (t + 1) 288 (v4_18 + 2) a2 fun M42 => rd M42 (t + 1) 288 (v4_18 + 3) fun x52 => wr M42 (t + 1) 288 (v4_18 + 3) (x52 + 1) fun M55 => some M55
set_option maxRecDepth 100000 in
set_option maxHeartbeats 4000000 in
theorem m_X11_pays {E : EE} {l : Launch} {n : Nat} {t : Nat} {a1 : Int} {a2 : Int} {M : Mem} {o : Mem} (hn : nfull n) (o_t : ob n t 11) (hf : fn_X11_pays t a1 a2 M = some o) : CT E l yX11_pays cX11_pays 5 none 4 96 0 0 [.ref (eb E + t), i3 a1, i3 a2] n (zf n) M none n (zf n) o := by
  refine CT_of PN_RX11 (Nat.le_of_ble_eq_true rfl) ?_
  intro p e s m args below meth c C hH ls hl
  replace C : Cx E p s m args meth c cX11_pays 5 RX11 none n "pays" := C
  have hl : lv_has ls 5 [(0, .ref (eb E + t)), (1, i3 a1), (2, i3 a2)] := hl
  unfold fn_X11_pays at hf
  refine lv_aload_n C.hx C.hb dX11_pays_0 rfl (lv_at hl 0 rfl) ?_
  refine lv_iload_n C.hx C.hb dX11_pays_1 rfl (lv_at hl 2 rfl) ?_
  refine lv_iload_n C.hx C.hb dX11_pays_2 rfl (lv_at hl 1 rfl) ?_
  obtain ⟨x3, M3, hc9, hf⟩ := cl_of hf
  refine r_callVi (rest := []) C hH hl o_t (by decide) rfl (m_X11_givesTo hn o_t hc9) ML_RX11_312 MF_X11_givesTo MI_X11_givesTo rfl rfl (Nat.le_of_ble_eq_true rfl) ⟨Nat.le_of_ble_eq_true rfl, Nat.le_of_ble_eq_true rfl⟩ ⟨Nat.le_refl _, Nat.le_refl _⟩ dX11_pays_3 (fun H locs hH => ?_)
  refine lv_istore_n (lv' := [(3, i3 x3), (0, .ref (eb E + t)), (1, i3 a1), (2, i3 a2)]) C.hx C.hb dX11_pays_6 rfl hl (by decide) rfl (fun ls hl => ?_)
  refine lv_aload_n C.hx C.hb dX11_pays_7 rfl (lv_at hl 1 rfl) ?_
  refine lv_iload_n C.hx C.hb dX11_pays_8 rfl (lv_at hl 2 rfl) ?_
  obtain ⟨M9, hc9, hf⟩ := cv_of hf
  refine r_callVv (rest := []) C hH hl o_t (by decide) rfl (m_X11_keepsStep hn o_t hc9) ML_RX11_315 MF_X11_keepsStep MI_X11_keepsStep rfl rfl (Nat.le_of_ble_eq_true rfl) ⟨Nat.le_of_ble_eq_true rfl, Nat.le_of_ble_eq_true rfl⟩ ⟨Nat.le_refl _, Nat.le_refl _⟩ dX11_pays_9 (fun H locs hH => ?_)
  refine lv_bipush (v := Int32.ofInt 20) C.hx C.hb dX11_pays_12 (by decide) ?_
  refine lv_iconst (v := Int32.ofInt 5) C.hx C.hb dX11_pays_14 rfl ?_
  refine lv_iload_n C.hx C.hb dX11_pays_15 rfl (lv_at hl 2 rfl) ?_
  refine w_imul C dX11_pays_16 ?_
  refine w_iadd C dX11_pays_17 ?_
  refine r_nm hf (fun v4_18 hf => ?_)
  refine lv_istore (lv' := [(4, i3 v4_18), (3, i3 x3), (0, .ref (eb E + t)), (1, i3 a1), (2, i3 a2)]) C.hx C.hb dX11_pays_18 hl (by decide) rfl (fun ls hl => ?_)
  refine lv_aload_n C.hx C.hb dX11_pays_20 rfl (lv_at hl 2 rfl) ?_
  refine g_ref (off := 1) C hH o_t (by decide) rfl rfl FL_RX11_7 dX11_pays_21 ?_
  refine lv_iload C.hx C.hb dX11_pays_24 (lv_at hl 0 rfl) ?_
  refine lv_iconst (v := Int32.ofInt 1) C.hx C.hb dX11_pays_26 rfl ?_
  refine w_iadd C dX11_pays_27 ?_
  refine lv_dup2_11 C.hx C.hb dX11_pays_28 rfl rfl ?_
  refine r_iald C hH (ly (i := 0) (off := 1) (k := 12) hn o_t rfl rfl rfl) (lyn (i := 0) (off := 1) (N := 287) hn o_t rfl rfl rfl) hf dX11_pays_29 (fun x29 hf => ?_)
  refine lv_iload_n C.hx C.hb dX11_pays_30 rfl (lv_at hl 1 rfl) ?_
  refine w_iadd C dX11_pays_31 ?_
  refine r_iast C hH (ly (i := 0) (off := 1) (k := 12) hn o_t rfl rfl rfl) (lyn (i := 0) (off := 1) (N := 287) hn o_t rfl rfl rfl) hf dX11_pays_32 (fun M32 H locs hf hH => ?_)
  refine lv_aload_n C.hx C.hb dX11_pays_33 rfl (lv_at hl 2 rfl) ?_
  refine g_ref (off := 1) C hH o_t (by decide) rfl rfl FL_RX11_7 dX11_pays_34 ?_
  refine lv_iload C.hx C.hb dX11_pays_37 (lv_at hl 0 rfl) ?_
  refine lv_iconst (v := Int32.ofInt 2) C.hx C.hb dX11_pays_39 rfl ?_
  refine w_iadd C dX11_pays_40 ?_
  refine lv_iload_n C.hx C.hb dX11_pays_41 rfl (lv_at hl 4 rfl) ?_
  refine r_iast C hH (ly (i := 0) (off := 1) (k := 12) hn o_t rfl rfl rfl) (lyn (i := 0) (off := 1) (N := 287) hn o_t rfl rfl rfl) hf dX11_pays_42 (fun M42 H locs hf hH => ?_)
  refine lv_aload_n C.hx C.hb dX11_pays_43 rfl (lv_at hl 2 rfl) ?_
  refine g_ref (off := 1) C hH o_t (by decide) rfl rfl FL_RX11_7 dX11_pays_44 ?_
  refine lv_iload C.hx C.hb dX11_pays_47 (lv_at hl 0 rfl) ?_
  refine lv_iconst (v := Int32.ofInt 3) C.hx C.hb dX11_pays_49 rfl ?_
  refine w_iadd C dX11_pays_50 ?_
  refine lv_dup2_11 C.hx C.hb dX11_pays_51 rfl rfl ?_
  refine r_iald C hH (ly (i := 0) (off := 1) (k := 12) hn o_t rfl rfl rfl) (lyn (i := 0) (off := 1) (N := 287) hn o_t rfl rfl rfl) hf dX11_pays_52 (fun x52 hf => ?_)
  refine lv_iconst (v := Int32.ofInt 1) C.hx C.hb dX11_pays_53 rfl ?_
  refine w_iadd C dX11_pays_54 ?_
  refine r_iast C hH (ly (i := 0) (off := 1) (k := 12) hn o_t rfl rfl rfl) (lyn (i := 0) (off := 1) (N := 287) hn o_t rfl rfl rfl) hf dX11_pays_55 (fun M55 H locs hf hH => ?_)
  cases hf
  exact w_vret C hH dX11_pays_56
-- HeavierByHandModel.pay
def fn_X11_pay (t : Nat) (a1 : Int) (a2 : Int) (M : Mem) : Option (Int × Mem) :=
  cu (fn_X11_canPay t a1 a2 M) fun x3 => cEq x3 0 (some ((-1), M)) (cv (fn_X11_pays t a1 a2 M) fun M14 => cu (fn_X11_coinOf t a1 1 M14) fun x20 => some (x20, M14))
set_option maxRecDepth 100000 in
set_option maxHeartbeats 4000000 in
theorem m_X11_pay {E : EE} {l : Launch} {n : Nat} {t : Nat} {a1 : Int} {a2 : Int} {M : Mem} {o : (Int × Mem)} (hn : nfull n) (o_t : ob n t 11) (hf : fn_X11_pay t a1 a2 M = some o) : CT E l yX11_pay cX11_pay 3 (some .int) 5 120 0 0 [.ref (eb E + t), i3 a1, i3 a2] n (zf n) M (some (i3 o.1)) n (zf n) o.2 := by
  refine CT_of PN_RX11 (Nat.le_of_ble_eq_true rfl) ?_
  intro p e s m args below meth c C hH ls hl
  replace C : Cx E p s m args meth c cX11_pay 3 RX11 (some .int) n "pay" := C
  have hl : lv_has ls 3 [(0, .ref (eb E + t)), (1, i3 a1), (2, i3 a2)] := hl
  unfold fn_X11_pay at hf
  refine lv_aload_n C.hx C.hb dX11_pay_0 rfl (lv_at hl 0 rfl) ?_
  refine lv_iload_n C.hx C.hb dX11_pay_1 rfl (lv_at hl 1 rfl) ?_
  refine lv_iload_n C.hx C.hb dX11_pay_2 rfl (lv_at hl 2 rfl) ?_
  obtain ⟨x3, hc9, hf⟩ := cu_of hf
  refine r_callVi (rest := []) C hH hl o_t (by decide) rfl (m_X11_canPay hn o_t hc9) ML_RX11_318 MF_X11_canPay MI_X11_canPay rfl rfl (Nat.le_of_ble_eq_true rfl) ⟨Nat.le_of_ble_eq_true rfl, Nat.le_of_ble_eq_true rfl⟩ ⟨Nat.le_refl _, Nat.le_refl _⟩ dX11_pay_3 (fun H locs hH => ?_)
  refine w_ne0 (tgt := 11) C hf dX11_pay_6 (by decide) (fun hf => ?_) (fun hf => ?_)
  · refine lv_aload_n C.hx C.hb dX11_pay_11 rfl (lv_at hl 0 rfl) ?_
    refine lv_iload_n C.hx C.hb dX11_pay_12 rfl (lv_at hl 1 rfl) ?_
    refine lv_iload_n C.hx C.hb dX11_pay_13 rfl (lv_at hl 2 rfl) ?_
    obtain ⟨M14, hc9, hf⟩ := cv_of hf
    refine r_callVv (rest := []) C hH hl o_t (by decide) rfl (m_X11_pays hn o_t hc9) ML_RX11_322 MF_X11_pays MI_X11_pays rfl rfl (Nat.le_of_ble_eq_true rfl) ⟨Nat.le_of_ble_eq_true rfl, Nat.le_of_ble_eq_true rfl⟩ ⟨Nat.le_refl _, Nat.le_refl _⟩ dX11_pay_14 (fun H locs hH => ?_)
    refine lv_aload_n C.hx C.hb dX11_pay_17 rfl (lv_at hl 0 rfl) ?_
    refine lv_iload_n C.hx C.hb dX11_pay_18 rfl (lv_at hl 1 rfl) ?_
    refine lv_iconst (v := Int32.ofInt 1) C.hx C.hb dX11_pay_19 rfl ?_
    obtain ⟨x20, hc9, hf⟩ := cu_of hf
    refine r_callVi (rest := []) C hH hl o_t (by decide) rfl (m_X11_coinOf hn o_t hc9) ML_RX11_300 MF_X11_coinOf MI_X11_coinOf rfl rfl (Nat.le_of_ble_eq_true rfl) ⟨Nat.le_of_ble_eq_true rfl, Nat.le_of_ble_eq_true rfl⟩ ⟨Nat.le_refl _, Nat.le_refl _⟩ dX11_pay_20 (fun H locs hH => ?_)
    cases hf
    exact w_iret C hH dX11_pay_23
  · refine lv_iconst (v := Int32.ofInt (-1)) C.hx C.hb dX11_pay_9 rfl ?_
    cases hf
    exact w_iret C hH dX11_pay_10
-- HeavierByHandModel.washes
def fn_X11_washes (t : Nat) (a1 : Int) (M : Mem) : Option (Int × Mem) :=
  cv (fn_X11_keepsStep t a1 M) fun M2 => cu (fn_X11_coinOf t a1 1 M2) fun x8 => cu (fn_X11_coinOf t a1 0 M2) fun x14 => nm ((x8 - x14)) fun v2_18 => cu (fn_X11_coinOf t a1 0 M2) fun x34 => wr M2 (t + 1) 288 ((20 + (5 * a1)) + 1) x34 fun M37 => some (v2_18, M37)
set_option maxRecDepth 100000 in
set_option maxHeartbeats 4000000 in
theorem m_X11_washes {E : EE} {l : Launch} {n : Nat} {t : Nat} {a1 : Int} {M : Mem} {o : (Int × Mem)} (hn : nfull n) (o_t : ob n t 11) (hf : fn_X11_washes t a1 M = some o) : CT E l yX11_washes cX11_washes 3 (some .int) 2 44 0 0 [.ref (eb E + t), i3 a1] n (zf n) M (some (i3 o.1)) n (zf n) o.2 := by
  refine CT_of PN_RX11 (Nat.le_of_ble_eq_true rfl) ?_
  intro p e s m args below meth c C hH ls hl
  replace C : Cx E p s m args meth c cX11_washes 3 RX11 (some .int) n "washes" := C
  have hl : lv_has ls 3 [(0, .ref (eb E + t)), (1, i3 a1)] := hl
  unfold fn_X11_washes at hf
  refine lv_aload_n C.hx C.hb dX11_washes_0 rfl (lv_at hl 0 rfl) ?_
  refine lv_iload_n C.hx C.hb dX11_washes_1 rfl (lv_at hl 1 rfl) ?_
  obtain ⟨M2, hc9, hf⟩ := cv_of hf
  refine r_callVv (rest := []) C hH hl o_t (by decide) rfl (m_X11_keepsStep hn o_t hc9) ML_RX11_315 MF_X11_keepsStep MI_X11_keepsStep rfl rfl (Nat.le_of_ble_eq_true rfl) ⟨Nat.le_of_ble_eq_true rfl, Nat.le_of_ble_eq_true rfl⟩ ⟨Nat.le_refl _, Nat.le_refl _⟩ dX11_washes_2 (fun H locs hH => ?_)
  refine lv_aload_n C.hx C.hb dX11_washes_5 rfl (lv_at hl 0 rfl) ?_
  refine lv_iload_n C.hx C.hb dX11_washes_6 rfl (lv_at hl 1 rfl) ?_
  refine lv_iconst (v := Int32.ofInt 1) C.hx C.hb dX11_washes_7 rfl ?_
  obtain ⟨x8, hc9, hf⟩ := cu_of hf
  refine r_callVi (rest := []) C hH hl o_t (by decide) rfl (m_X11_coinOf hn o_t hc9) ML_RX11_300 MF_X11_coinOf MI_X11_coinOf rfl rfl (Nat.le_of_ble_eq_true rfl) ⟨Nat.le_of_ble_eq_true rfl, Nat.le_of_ble_eq_true rfl⟩ ⟨Nat.le_refl _, Nat.le_refl _⟩ dX11_washes_8 (fun H locs hH => ?_)
  refine lv_aload_n C.hx C.hb dX11_washes_11 rfl (lv_at hl 0 rfl) ?_
  refine lv_iload_n C.hx C.hb dX11_washes_12 rfl (lv_at hl 1 rfl) ?_
  refine lv_iconst (v := Int32.ofInt 0) C.hx C.hb dX11_washes_13 rfl ?_
  obtain ⟨x14, hc9, hf⟩ := cu_of hf
  refine r_callVi (rest := [i3 x8]) C hH hl o_t (by decide) rfl (m_X11_coinOf hn o_t hc9) ML_RX11_300 MF_X11_coinOf MI_X11_coinOf rfl rfl (Nat.le_of_ble_eq_true rfl) ⟨Nat.le_of_ble_eq_true rfl, Nat.le_of_ble_eq_true rfl⟩ ⟨Nat.le_refl _, Nat.le_refl _⟩ dX11_washes_14 (fun H locs hH => ?_)
  refine w_isub C dX11_washes_17 ?_
  refine r_nm hf (fun v2_18 hf => ?_)
  refine lv_istore_n (lv' := [(2, i3 v2_18), (0, .ref (eb E + t)), (1, i3 a1)]) C.hx C.hb dX11_washes_18 rfl hl (by decide) rfl (fun ls hl => ?_)
  refine lv_aload_n C.hx C.hb dX11_washes_19 rfl (lv_at hl 1 rfl) ?_
  refine g_ref (off := 1) C hH o_t (by decide) rfl rfl FL_RX11_7 dX11_washes_20 ?_
  refine lv_bipush (v := Int32.ofInt 20) C.hx C.hb dX11_washes_23 (by decide) ?_
  refine lv_iconst (v := Int32.ofInt 5) C.hx C.hb dX11_washes_25 rfl ?_
  refine lv_iload_n C.hx C.hb dX11_washes_26 rfl (lv_at hl 2 rfl) ?_
  refine w_imul C dX11_washes_27 ?_
  refine w_iadd C dX11_washes_28 ?_
  refine lv_iconst (v := Int32.ofInt 1) C.hx C.hb dX11_washes_29 rfl ?_
  refine w_iadd C dX11_washes_30 ?_
  refine lv_aload_n C.hx C.hb dX11_washes_31 rfl (lv_at hl 1 rfl) ?_
  refine lv_iload_n C.hx C.hb dX11_washes_32 rfl (lv_at hl 2 rfl) ?_
  refine lv_iconst (v := Int32.ofInt 0) C.hx C.hb dX11_washes_33 rfl ?_
  obtain ⟨x34, hc9, hf⟩ := cu_of hf
  refine r_callVi (rest := [i3 ((20 + (5 * a1)) + 1), .ref (eb E + (t + 1))]) C hH hl o_t (by decide) rfl (m_X11_coinOf hn o_t hc9) ML_RX11_300 MF_X11_coinOf MI_X11_coinOf rfl rfl (Nat.le_of_ble_eq_true rfl) ⟨Nat.le_of_ble_eq_true rfl, Nat.le_of_ble_eq_true rfl⟩ ⟨Nat.le_refl _, Nat.le_refl _⟩ dX11_washes_34 (fun H locs hH => ?_)
  refine r_iast C hH (ly (i := 0) (off := 1) (k := 12) hn o_t rfl rfl rfl) (lyn (i := 0) (off := 1) (N := 287) hn o_t rfl rfl rfl) hf dX11_washes_37 (fun M37 H locs hf hH => ?_)
  refine lv_iload_n C.hx C.hb dX11_washes_38 rfl (lv_at hl 0 rfl) ?_
  cases hf
  exact w_iret C hH dX11_washes_39
-- HeavierByHandModel.wash
def fn_X11_wash (t : Nat) (a1 : Int) (M : Mem) : Option (Int × Mem) :=
  cu (fn_X11_isCoin t a1 M) fun x2 => cEq x2 0 (some ((-1), M)) (cl (fn_X11_washes t a1 M) fun x10 M10 => some (x10, M10))
set_option maxRecDepth 100000 in
set_option maxHeartbeats 4000000 in
theorem m_X11_wash {E : EE} {l : Launch} {n : Nat} {t : Nat} {a1 : Int} {M : Mem} {o : (Int × Mem)} (hn : nfull n) (o_t : ob n t 11) (hf : fn_X11_wash t a1 M = some o) : CT E l yX11_wash cX11_wash 2 (some .int) 3 66 0 0 [.ref (eb E + t), i3 a1] n (zf n) M (some (i3 o.1)) n (zf n) o.2 := by
  refine CT_of PN_RX11 (Nat.le_of_ble_eq_true rfl) ?_
  intro p e s m args below meth c C hH ls hl
  replace C : Cx E p s m args meth c cX11_wash 2 RX11 (some .int) n "wash" := C
  have hl : lv_has ls 2 [(0, .ref (eb E + t)), (1, i3 a1)] := hl
  unfold fn_X11_wash at hf
  refine lv_aload_n C.hx C.hb dX11_wash_0 rfl (lv_at hl 0 rfl) ?_
  refine lv_iload_n C.hx C.hb dX11_wash_1 rfl (lv_at hl 1 rfl) ?_
  obtain ⟨x2, hc9, hf⟩ := cu_of hf
  refine r_callVi (rest := []) C hH hl o_t (by decide) rfl (m_X11_isCoin hn o_t hc9) ML_RX11_309 MF_X11_isCoin MI_X11_isCoin rfl rfl (Nat.le_of_ble_eq_true rfl) ⟨Nat.le_of_ble_eq_true rfl, Nat.le_of_ble_eq_true rfl⟩ ⟨Nat.le_refl _, Nat.le_refl _⟩ dX11_wash_2 (fun H locs hH => ?_)
  refine w_eq0 (tgt := 16) C hf dX11_wash_5 (by decide) (fun hf => ?_) (fun hf => ?_)
  · refine lv_iconst (v := Int32.ofInt (-1)) C.hx C.hb dX11_wash_16 rfl ?_
    cases hf
    exact w_iret C hH dX11_wash_17
  · refine lv_aload_n C.hx C.hb dX11_wash_8 rfl (lv_at hl 0 rfl) ?_
    refine lv_iload_n C.hx C.hb dX11_wash_9 rfl (lv_at hl 1 rfl) ?_
    obtain ⟨x10, M10, hc9, hf⟩ := cl_of hf
    refine r_callVi (rest := []) C hH hl o_t (by decide) rfl (m_X11_washes hn o_t hc9) ML_RX11_325 MF_X11_washes MI_X11_washes rfl rfl (Nat.le_of_ble_eq_true rfl) ⟨Nat.le_of_ble_eq_true rfl, Nat.le_of_ble_eq_true rfl⟩ ⟨Nat.le_refl _, Nat.le_refl _⟩ dX11_wash_10 (fun H locs hH => ?_)
    refine lv_goto (tgt := 17) C.hx C.hb dX11_wash_13 (by decide) ?_
    cases hf
    exact w_iret C hH dX11_wash_17
-- HeavierByHandModel.played
def fn_X11_played_J162 (v2_21 : Int) (rec21 : Int → Mem → Option (Int × Mem)) (v5_162 : Int) (M162 : Mem) : Option (Int × Mem) :=
  cEq v5_162 0 (some (v2_21, M162)) (nm (v2_21 + 1) fun v2_169 => rec21 v2_169 M162)
def fn_X11_played_J137 (v2_21 : Int) (rec21 : Int → Mem → Option (Int × Mem)) (u0_137 : Int) (M137 : Mem) : Option (Int × Mem) :=
  fn_X11_played_J162 v2_21 rec21 u0_137 M137
def fn_X11_played_J136 (v2_21 : Int) (rec21 : Int → Mem → Option (Int × Mem)) (M136 : Mem) : Option (Int × Mem) :=
  fn_X11_played_J137 v2_21 rec21 0 M136
def fn_X11_played_J157 (v2_21 : Int) (rec21 : Int → Mem → Option (Int × Mem)) (M145 : Mem) (u0_157 : Int) : Option (Int × Mem) :=
  fn_X11_played_J162 v2_21 rec21 u0_157 M145
def fn_X11_played_L21 (t : Nat) (a1 : Int) (rec21 : Int → Mem → Option (Int × Mem)) (v2_21 : Int) (M21 : Mem) : Option (Int × Mem) :=
  rd M21 (t + 4) 4 a1 fun x27 => cLt v2_21 x27 (nm (((20 * a1) + v2_21)) fun v3_37 => rd M21 (t + 7) 80 v3_37 fun x43 => rd M21 (t + 5) 80 v3_37 fun x54 => ck (R3 x54) <| if x54 = 2 then (rd M21 (t + 8) 80 v3_37 fun x88 => cu (fn_X11_canPay t x43 x88 M21) fun x89 => cEq x89 0 (fn_X11_played_J162 v2_21 rec21 x89 M21) (rd M21 (t + 8) 80 v3_37 fun x107 => cv (fn_X11_pays t x43 x107 M21) fun M108 => fn_X11_played_J162 v2_21 rec21 x89 M108)) else if x54 = 3 then (cu (fn_X11_isCoin t x43 M21) fun x117 => cEq x117 0 (fn_X11_played_J136 v2_21 rec21 M21) (cl (fn_X11_washes t x43 M21) fun x126 M126 => cLt x126 0 (fn_X11_played_J136 v2_21 rec21 M126) (fn_X11_played_J137 v2_21 rec21 1 M126))) else if x54 = 4 then (cl (fn_X11_later t x43 M21) fun x145 M145 => cEq x145 (-1) (fn_X11_played_J157 v2_21 rec21 M145 0) (fn_X11_played_J157 v2_21 rec21 M145 1)) else fn_X11_played_J162 v2_21 rec21 1 M21) (some ((-1), M21))
def fn_X11_played (t : Nat) (a1 : Int) (M : Mem) : Option (Int × Mem) :=
  rd M (t + 1) 288 5 fun x7 => cu (fn_X11_in a1 0 (x7 - 1) M) fun x10 => cEq x10 0 (some ((-2), M)) (lq2 (fn_X11_played_L21 t a1) FU 0 M)
set_option maxRecDepth 100000 in
set_option maxHeartbeats 4000000 in
theorem j_X11_played_162 {p : Program} {l : Launch} {e : Env} {s : State} {m : MethodId} {args : Array Value} {below : List Frame} {meth : Method} {c : Code} {E : EE} {n : Nat} {o : (Int × Mem)} {t : Nat} {a1 : Int} {v2_21 : Int} {rec21 : Int → Mem → Option (Int × Mem)} {v5_162 : Int} {M162 : Mem} {H : Heap} {locs : List Loc} {ls : Array Slot} (C : Cx E p s m args meth c cX11_played 6 RX11 (some .int) n "played") (hn : nfull n) (o_t : ob n t 11) (h_rec21 : ∀ {v2_21 : Int} {M21 : Mem} {H : Heap} {locs : List Loc} {ls : Array Slot}, rec21 v2_21 M21 = some o → ST E s n (zf n) M21 H locs → lv_has ls 6 [(0, .ref (eb E + t)), (1, i3 a1), (2, i3 v2_21)] → W p l e { frames := 5, cells := 0, slots := 0, locals := 120 } s m args below meth c H locs 0 0 (MQ below (QC E (some (i3 o.1)) n (zf n) o.2) args s 0 0 (fr E)) (F0 m 21 ls [])) (hf : fn_X11_played_J162 v2_21 rec21 v5_162 M162 = some o) (hH : ST E s n (zf n) M162 H locs) (hl : lv_has ls 6 [(0, .ref (eb E + t)), (1, i3 a1), (2, i3 v2_21), (5, i3 v5_162)]) : W p l e { frames := 5, cells := 0, slots := 0, locals := 120 } s m args below meth c H locs 0 0 (MQ below (QC E (some (i3 o.1)) n (zf n) o.2) args s 0 0 (fr E)) (F0 m 162 ls []) := by
  unfold fn_X11_played_J162 at hf
  refine lv_iload C.hx C.hb dX11_played_162 (lv_at hl 3 rfl) ?_
  refine w_ne0 (tgt := 169) C hf dX11_played_164 (by decide) (fun hf => ?_) (fun hf => ?_)
  · refine r_iinc (k := 2) (lv' := fun v => [(2, i3 v), (0, .ref (eb E + t)), (1, i3 a1), (5, i3 v5_162)]) C hf dX11_played_169 hl rfl (by decide) (fun _ => rfl) (fun v2_169 ls hf hl => ?_)
    refine lv_goto (tgt := 21) C.hx C.hb dX11_played_172 (by decide) ?_
    exact h_rec21 hf hH (lv_sub hl [1, 2, 0] rfl)
  · refine lv_iload_n C.hx C.hb dX11_played_167 rfl (lv_at hl 2 rfl) ?_
    cases hf
    exact w_iret C hH dX11_played_168
set_option maxRecDepth 100000 in
set_option maxHeartbeats 4000000 in
theorem j_X11_played_137 {p : Program} {l : Launch} {e : Env} {s : State} {m : MethodId} {args : Array Value} {below : List Frame} {meth : Method} {c : Code} {E : EE} {n : Nat} {o : (Int × Mem)} {t : Nat} {a1 : Int} {v2_21 : Int} {rec21 : Int → Mem → Option (Int × Mem)} {u0_137 : Int} {M137 : Mem} {H : Heap} {locs : List Loc} {ls : Array Slot} (C : Cx E p s m args meth c cX11_played 6 RX11 (some .int) n "played") (hn : nfull n) (o_t : ob n t 11) (h_rec21 : ∀ {v2_21 : Int} {M21 : Mem} {H : Heap} {locs : List Loc} {ls : Array Slot}, rec21 v2_21 M21 = some o → ST E s n (zf n) M21 H locs → lv_has ls 6 [(0, .ref (eb E + t)), (1, i3 a1), (2, i3 v2_21)] → W p l e { frames := 5, cells := 0, slots := 0, locals := 120 } s m args below meth c H locs 0 0 (MQ below (QC E (some (i3 o.1)) n (zf n) o.2) args s 0 0 (fr E)) (F0 m 21 ls [])) (hf : fn_X11_played_J137 v2_21 rec21 u0_137 M137 = some o) (hH : ST E s n (zf n) M137 H locs) (hl : lv_has ls 6 [(0, .ref (eb E + t)), (1, i3 a1), (2, i3 v2_21)]) : W p l e { frames := 5, cells := 0, slots := 0, locals := 120 } s m args below meth c H locs 0 0 (MQ below (QC E (some (i3 o.1)) n (zf n) o.2) args s 0 0 (fr E)) (F0 m 137 ls [i3 u0_137]) := by
  unfold fn_X11_played_J137 at hf
  refine lv_istore (lv' := [(5, i3 u0_137), (0, .ref (eb E + t)), (1, i3 a1), (2, i3 v2_21)]) C.hx C.hb dX11_played_137 hl (by decide) rfl (fun ls hl => ?_)
  refine lv_goto (tgt := 162) C.hx C.hb dX11_played_139 (by decide) ?_
  exact j_X11_played_162 C hn o_t h_rec21 hf hH (lv_sub hl [1, 2, 3, 0] rfl)
set_option maxRecDepth 100000 in
set_option maxHeartbeats 4000000 in
theorem j_X11_played_136 {p : Program} {l : Launch} {e : Env} {s : State} {m : MethodId} {args : Array Value} {below : List Frame} {meth : Method} {c : Code} {E : EE} {n : Nat} {o : (Int × Mem)} {t : Nat} {a1 : Int} {v2_21 : Int} {rec21 : Int → Mem → Option (Int × Mem)} {M136 : Mem} {H : Heap} {locs : List Loc} {ls : Array Slot} (C : Cx E p s m args meth c cX11_played 6 RX11 (some .int) n "played") (hn : nfull n) (o_t : ob n t 11) (h_rec21 : ∀ {v2_21 : Int} {M21 : Mem} {H : Heap} {locs : List Loc} {ls : Array Slot}, rec21 v2_21 M21 = some o → ST E s n (zf n) M21 H locs → lv_has ls 6 [(0, .ref (eb E + t)), (1, i3 a1), (2, i3 v2_21)] → W p l e { frames := 5, cells := 0, slots := 0, locals := 120 } s m args below meth c H locs 0 0 (MQ below (QC E (some (i3 o.1)) n (zf n) o.2) args s 0 0 (fr E)) (F0 m 21 ls [])) (hf : fn_X11_played_J136 v2_21 rec21 M136 = some o) (hH : ST E s n (zf n) M136 H locs) (hl : lv_has ls 6 [(0, .ref (eb E + t)), (1, i3 a1), (2, i3 v2_21)]) : W p l e { frames := 5, cells := 0, slots := 0, locals := 120 } s m args below meth c H locs 0 0 (MQ below (QC E (some (i3 o.1)) n (zf n) o.2) args s 0 0 (fr E)) (F0 m 136 ls []) := by
  unfold fn_X11_played_J136 at hf
  refine lv_iconst (v := Int32.ofInt 0) C.hx C.hb dX11_played_136 rfl ?_
  exact j_X11_played_137 C hn o_t h_rec21 hf hH (lv_sub hl [0, 1, 2] rfl)
set_option maxRecDepth 100000 in
set_option maxHeartbeats 4000000 in
theorem j_X11_played_157 {p : Program} {l : Launch} {e : Env} {s : State} {m : MethodId} {args : Array Value} {below : List Frame} {meth : Method} {c : Code} {E : EE} {n : Nat} {o : (Int × Mem)} {t : Nat} {a1 : Int} {v2_21 : Int} {rec21 : Int → Mem → Option (Int × Mem)} {M145 : Mem} {u0_157 : Int} {H : Heap} {locs : List Loc} {ls : Array Slot} (C : Cx E p s m args meth c cX11_played 6 RX11 (some .int) n "played") (hn : nfull n) (o_t : ob n t 11) (h_rec21 : ∀ {v2_21 : Int} {M21 : Mem} {H : Heap} {locs : List Loc} {ls : Array Slot}, rec21 v2_21 M21 = some o → ST E s n (zf n) M21 H locs → lv_has ls 6 [(0, .ref (eb E + t)), (1, i3 a1), (2, i3 v2_21)] → W p l e { frames := 5, cells := 0, slots := 0, locals := 120 } s m args below meth c H locs 0 0 (MQ below (QC E (some (i3 o.1)) n (zf n) o.2) args s 0 0 (fr E)) (F0 m 21 ls [])) (hf : fn_X11_played_J157 v2_21 rec21 M145 u0_157 = some o) (hH : ST E s n (zf n) M145 H locs) (hl : lv_has ls 6 [(0, .ref (eb E + t)), (1, i3 a1), (2, i3 v2_21)]) : W p l e { frames := 5, cells := 0, slots := 0, locals := 120 } s m args below meth c H locs 0 0 (MQ below (QC E (some (i3 o.1)) n (zf n) o.2) args s 0 0 (fr E)) (F0 m 157 ls [i3 u0_157]) := by
  unfold fn_X11_played_J157 at hf
  refine lv_istore (lv' := [(5, i3 u0_157), (0, .ref (eb E + t)), (1, i3 a1), (2, i3 v2_21)]) C.hx C.hb dX11_played_157 hl (by decide) rfl (fun ls hl => ?_)
  refine lv_goto (tgt := 162) C.hx C.hb dX11_played_159 (by decide) ?_
  exact j_X11_played_162 C hn o_t h_rec21 hf hH (lv_sub hl [1, 2, 3, 0] rfl)
set_option maxRecDepth 100000 in
set_option maxHeartbeats 4000000 in
theorem l_X11_played_21 {p : Program} {l : Launch} {e : Env} {s : State} {m : MethodId} {args : Array Value} {below : List Frame} {meth : Method} {c : Code} {E : EE} {n : Nat} {o : (Int × Mem)} {t : Nat} {a1 : Int} (C : Cx E p s m args meth c cX11_played 6 RX11 (some .int) n "played") (hn : nfull n) (o_t : ob n t 11) : ∀ (k : Nat) (v2_21 : Int) (M21 : Mem) (H : Heap) (locs : List Loc) (ls : Array Slot), lq2 (fn_X11_played_L21 t a1) k v2_21 M21 = some o → ST E s n (zf n) M21 H locs → lv_has ls 6 [(0, .ref (eb E + t)), (1, i3 a1), (2, i3 v2_21)] → W p l e { frames := 5, cells := 0, slots := 0, locals := 120 } s m args below meth c H locs 0 0 (MQ below (QC E (some (i3 o.1)) n (zf n) o.2) args s 0 0 (fr E)) (F0 m 21 ls []) := by
  intro k
  induction k with
  | zero => intro v2_21 M21 H locs ls hf; cases hf
  | succ k ih =>
    intro v2_21 M21 H locs ls hf hH hl
    have h_rec21 : ∀ {v2_21 : Int} {M21 : Mem} {H : Heap} {locs : List Loc} {ls : Array Slot}, lq2 (fn_X11_played_L21 t a1) k v2_21 M21 = some o → ST E s n (zf n) M21 H locs → lv_has ls 6 [(0, .ref (eb E + t)), (1, i3 a1), (2, i3 v2_21)] → W p l e { frames := 5, cells := 0, slots := 0, locals := 120 } s m args below meth c H locs 0 0 (MQ below (QC E (some (i3 o.1)) n (zf n) o.2) args s 0 0 (fr E)) (F0 m 21 ls []) := fun {v2_21} {M21} {H} {locs} {ls} a b c => ih v2_21 M21 H locs ls a b c
    replace hf : fn_X11_played_L21 t a1 (lq2 (fn_X11_played_L21 t a1) k) v2_21 M21 = some o := hf
    generalize lq2 (fn_X11_played_L21 t a1) k = rec21 at hf h_rec21
    unfold fn_X11_played_L21 at hf
    refine lv_iload_n C.hx C.hb dX11_played_21 rfl (lv_at hl 2 rfl) ?_
    refine lv_aload_n C.hx C.hb dX11_played_22 rfl (lv_at hl 0 rfl) ?_
    refine g_ref (off := 4) C hH o_t (by decide) rfl rfl FL_RX11_27 dX11_played_23 ?_
    refine lv_iload_n C.hx C.hb dX11_played_26 rfl (lv_at hl 1 rfl) ?_
    refine r_iald C hH (ly (i := 6) (off := 4) (k := 12) hn o_t rfl rfl rfl) (lyn (i := 6) (off := 4) (N := 3) hn o_t rfl rfl rfl) hf dX11_played_27 (fun x27 hf => ?_)
    refine w_ge (tgt := 175) C hf dX11_played_28 (by decide) (fun hf => ?_) (fun hf => ?_)
    · refine lv_iconst (v := Int32.ofInt (-1)) C.hx C.hb dX11_played_175 rfl ?_
      cases hf
      exact w_iret C hH dX11_played_176
    · refine lv_bipush (v := Int32.ofInt 20) C.hx C.hb dX11_played_31 (by decide) ?_
      refine lv_iload_n C.hx C.hb dX11_played_33 rfl (lv_at hl 1 rfl) ?_
      refine w_imul C dX11_played_34 ?_
      refine lv_iload_n C.hx C.hb dX11_played_35 rfl (lv_at hl 2 rfl) ?_
      refine w_iadd C dX11_played_36 ?_
      refine r_nm hf (fun v3_37 hf => ?_)
      refine lv_istore_n (lv' := [(3, i3 v3_37), (0, .ref (eb E + t)), (1, i3 a1), (2, i3 v2_21)]) C.hx C.hb dX11_played_37 rfl hl (by decide) rfl (fun ls hl => ?_)
      refine lv_aload_n C.hx C.hb dX11_played_38 rfl (lv_at hl 1 rfl) ?_
      refine g_ref (off := 7) C hH o_t (by decide) rfl rfl FL_RX11_36 dX11_played_39 ?_
      refine lv_iload_n C.hx C.hb dX11_played_42 rfl (lv_at hl 0 rfl) ?_
      refine r_iald C hH (ly (i := 9) (off := 7) (k := 12) hn o_t rfl rfl rfl) (lyn (i := 9) (off := 7) (N := 79) hn o_t rfl rfl rfl) hf dX11_played_43 (fun x43 hf => ?_)
      refine lv_istore (lv' := [(4, i3 x43), (3, i3 v3_37), (0, .ref (eb E + t)), (1, i3 a1), (2, i3 v2_21)]) C.hx C.hb dX11_played_44 hl (by decide) rfl (fun ls hl => ?_)
      refine lv_iconst (v := Int32.ofInt 1) C.hx C.hb dX11_played_46 rfl ?_
      refine lv_istore (lv' := [(5, i3 1), (4, i3 x43), (3, i3 v3_37), (0, .ref (eb E + t)), (1, i3 a1), (2, i3 v2_21)]) C.hx C.hb dX11_played_47 hl (by decide) rfl (fun ls hl => ?_)
      refine lv_aload_n C.hx C.hb dX11_played_49 rfl (lv_at hl 3 rfl) ?_
      refine g_ref (off := 5) C hH o_t (by decide) rfl rfl FL_RX11_30 dX11_played_50 ?_
      refine lv_iload_n C.hx C.hb dX11_played_53 rfl (lv_at hl 2 rfl) ?_
      refine r_iald C hH (ly (i := 7) (off := 5) (k := 12) hn o_t rfl rfl rfl) (lyn (i := 7) (off := 5) (N := 79) hn o_t rfl rfl rfl) hf dX11_played_54 (fun x54 hf => ?_)
      obtain ⟨hR9, hf⟩ := ck_of hf
      by_cases e0 : x54 = 2
      · rw [if_pos e0] at hf
        refine r_tab (tgt := 80) C e0 ⟨by decide, by decide⟩ dX11_played_55 (by decide) (by decide) rfl (by decide) ?_
        refine lv_aload_n C.hx C.hb dX11_played_80 rfl (lv_at hl 3 rfl) ?_
        refine lv_iload C.hx C.hb dX11_played_81 (lv_at hl 1 rfl) ?_
        refine lv_aload_n C.hx C.hb dX11_played_83 rfl (lv_at hl 3 rfl) ?_
        refine g_ref (off := 8) C hH o_t (by decide) rfl rfl FL_RX11_39 dX11_played_84 ?_
        refine lv_iload_n C.hx C.hb dX11_played_87 rfl (lv_at hl 2 rfl) ?_
        refine r_iald C hH (ly (i := 10) (off := 8) (k := 12) hn o_t rfl rfl rfl) (lyn (i := 10) (off := 8) (N := 79) hn o_t rfl rfl rfl) hf dX11_played_88 (fun x88 hf => ?_)
        obtain ⟨x89, hc9, hf⟩ := cu_of hf
        refine r_callVi (rest := []) C hH hl o_t (by decide) rfl (m_X11_canPay hn o_t hc9) ML_RX11_318 MF_X11_canPay MI_X11_canPay rfl rfl (Nat.le_of_ble_eq_true rfl) ⟨Nat.le_of_ble_eq_true rfl, Nat.le_of_ble_eq_true rfl⟩ ⟨Nat.le_refl _, Nat.le_refl _⟩ dX11_played_89 (fun H locs hH => ?_)
        refine lv_istore (lv' := [(5, i3 x89), (4, i3 x43), (3, i3 v3_37), (0, .ref (eb E + t)), (1, i3 a1), (2, i3 v2_21)]) C.hx C.hb dX11_played_92 hl (by decide) rfl (fun ls hl => ?_)
        refine lv_iload C.hx C.hb dX11_played_94 (lv_at hl 0 rfl) ?_
        refine w_eq0 (tgt := 162) C hf dX11_played_96 (by decide) (fun hf => ?_) (fun hf => ?_)
        · exact j_X11_played_162 C hn o_t h_rec21 hf hH (lv_sub hl [3, 4, 5, 0] rfl)
        · refine lv_aload_n C.hx C.hb dX11_played_99 rfl (lv_at hl 3 rfl) ?_
          refine lv_iload C.hx C.hb dX11_played_100 (lv_at hl 1 rfl) ?_
          refine lv_aload_n C.hx C.hb dX11_played_102 rfl (lv_at hl 3 rfl) ?_
          refine g_ref (off := 8) C hH o_t (by decide) rfl rfl FL_RX11_39 dX11_played_103 ?_
          refine lv_iload_n C.hx C.hb dX11_played_106 rfl (lv_at hl 2 rfl) ?_
          refine r_iald C hH (ly (i := 10) (off := 8) (k := 12) hn o_t rfl rfl rfl) (lyn (i := 10) (off := 8) (N := 79) hn o_t rfl rfl rfl) hf dX11_played_107 (fun x107 hf => ?_)
          obtain ⟨M108, hc9, hf⟩ := cv_of hf
          refine r_callVv (rest := []) C hH hl o_t (by decide) rfl (m_X11_pays hn o_t hc9) ML_RX11_322 MF_X11_pays MI_X11_pays rfl rfl (Nat.le_of_ble_eq_true rfl) ⟨Nat.le_of_ble_eq_true rfl, Nat.le_of_ble_eq_true rfl⟩ ⟨Nat.le_refl _, Nat.le_refl _⟩ dX11_played_108 (fun H locs hH => ?_)
          refine lv_goto (tgt := 162) C.hx C.hb dX11_played_111 (by decide) ?_
          exact j_X11_played_162 C hn o_t h_rec21 hf hH (lv_sub hl [3, 4, 5, 0] rfl)
      · rw [if_neg e0] at hf
        by_cases e1 : x54 = 3
        · rw [if_pos e1] at hf
          refine r_tab (tgt := 114) C e1 ⟨by decide, by decide⟩ dX11_played_55 (by decide) (by decide) rfl (by decide) ?_
          refine lv_aload_n C.hx C.hb dX11_played_114 rfl (lv_at hl 3 rfl) ?_
          refine lv_iload C.hx C.hb dX11_played_115 (lv_at hl 1 rfl) ?_
          obtain ⟨x117, hc9, hf⟩ := cu_of hf
          refine r_callVi (rest := []) C hH hl o_t (by decide) rfl (m_X11_isCoin hn o_t hc9) ML_RX11_309 MF_X11_isCoin MI_X11_isCoin rfl rfl (Nat.le_of_ble_eq_true rfl) ⟨Nat.le_of_ble_eq_true rfl, Nat.le_of_ble_eq_true rfl⟩ ⟨Nat.le_refl _, Nat.le_refl _⟩ dX11_played_117 (fun H locs hH => ?_)
          refine w_eq0 (tgt := 136) C hf dX11_played_120 (by decide) (fun hf => ?_) (fun hf => ?_)
          · exact j_X11_played_136 C hn o_t h_rec21 hf hH (lv_sub hl [3, 4, 5] rfl)
          · refine lv_aload_n C.hx C.hb dX11_played_123 rfl (lv_at hl 3 rfl) ?_
            refine lv_iload C.hx C.hb dX11_played_124 (lv_at hl 1 rfl) ?_
            obtain ⟨x126, M126, hc9, hf⟩ := cl_of hf
            refine r_callVi (rest := []) C hH hl o_t (by decide) rfl (m_X11_washes hn o_t hc9) ML_RX11_325 MF_X11_washes MI_X11_washes rfl rfl (Nat.le_of_ble_eq_true rfl) ⟨Nat.le_of_ble_eq_true rfl, Nat.le_of_ble_eq_true rfl⟩ ⟨Nat.le_refl _, Nat.le_refl _⟩ dX11_played_126 (fun H locs hH => ?_)
            refine w_lt0 (tgt := 136) C hf dX11_played_129 (by decide) (fun hf => ?_) (fun hf => ?_)
            · exact j_X11_played_136 C hn o_t h_rec21 hf hH (lv_sub hl [3, 4, 5] rfl)
            · refine lv_iconst (v := Int32.ofInt 1) C.hx C.hb dX11_played_132 rfl ?_
              refine lv_goto (tgt := 137) C.hx C.hb dX11_played_133 (by decide) ?_
              exact j_X11_played_137 C hn o_t h_rec21 hf hH (lv_sub hl [3, 4, 5] rfl)
        · rw [if_neg e1] at hf
          by_cases e2 : x54 = 4
          · rw [if_pos e2] at hf
            refine r_tab (tgt := 142) C e2 ⟨by decide, by decide⟩ dX11_played_55 (by decide) (by decide) rfl (by decide) ?_
            refine lv_aload_n C.hx C.hb dX11_played_142 rfl (lv_at hl 3 rfl) ?_
            refine lv_iload C.hx C.hb dX11_played_143 (lv_at hl 1 rfl) ?_
            obtain ⟨x145, M145, hc9, hf⟩ := cl_of hf
            refine r_callVi (rest := []) C hH hl o_t (by decide) rfl (m_X11_later hn o_t hc9) ML_RX11_328 MF_X11_later MI_X11_later rfl rfl (Nat.le_of_ble_eq_true rfl) ⟨Nat.le_of_ble_eq_true rfl, Nat.le_of_ble_eq_true rfl⟩ ⟨Nat.le_refl _, Nat.le_refl _⟩ dX11_played_145 (fun H locs hH => ?_)
            refine lv_iconst (v := Int32.ofInt (-1)) C.hx C.hb dX11_played_148 rfl ?_
            refine w_eq (tgt := 156) C hf dX11_played_149 (by decide) (fun hf => ?_) (fun hf => ?_)
            · refine lv_iconst (v := Int32.ofInt 0) C.hx C.hb dX11_played_156 rfl ?_
              exact j_X11_played_157 C hn o_t h_rec21 hf hH (lv_sub hl [3, 4, 5] rfl)
            · refine lv_iconst (v := Int32.ofInt 1) C.hx C.hb dX11_played_152 rfl ?_
              refine lv_goto (tgt := 157) C.hx C.hb dX11_played_153 (by decide) ?_
              exact j_X11_played_157 C hn o_t h_rec21 hf hH (lv_sub hl [3, 4, 5] rfl)
          · rw [if_neg e2] at hf
            refine r_tabO (tgt := 162) C hR9 dX11_played_55 (by omega) (by decide) ?_
            exact j_X11_played_162 C hn o_t h_rec21 hf hH (lv_sub hl [3, 4, 5, 0] rfl)
set_option maxRecDepth 100000 in
set_option maxHeartbeats 4000000 in
theorem m_X11_played {E : EE} {l : Launch} {n : Nat} {t : Nat} {a1 : Int} {M : Mem} {o : (Int × Mem)} (hn : nfull n) (o_t : ob n t 11) (hf : fn_X11_played t a1 M = some o) : CT E l yX11_played cX11_played 6 (some .int) 5 120 0 0 [.ref (eb E + t), i3 a1] n (zf n) M (some (i3 o.1)) n (zf n) o.2 := by
  refine CT_of PN_RX11 (Nat.le_of_ble_eq_true rfl) ?_
  intro p e s m args below meth c C hH ls hl
  replace C : Cx E p s m args meth c cX11_played 6 RX11 (some .int) n "played" := C
  have hl : lv_has ls 6 [(0, .ref (eb E + t)), (1, i3 a1)] := hl
  unfold fn_X11_played at hf
  refine lv_iload_n C.hx C.hb dX11_played_0 rfl (lv_at hl 1 rfl) ?_
  refine lv_iconst (v := Int32.ofInt 0) C.hx C.hb dX11_played_1 rfl ?_
  refine lv_aload_n C.hx C.hb dX11_played_2 rfl (lv_at hl 0 rfl) ?_
  refine g_ref (off := 1) C hH o_t (by decide) rfl rfl FL_RX11_7 dX11_played_3 ?_
  refine lv_iconst (v := Int32.ofInt 5) C.hx C.hb dX11_played_6 rfl ?_
  refine r_iald C hH (ly (i := 0) (off := 1) (k := 12) hn o_t rfl rfl rfl) (lyn (i := 0) (off := 1) (N := 287) hn o_t rfl rfl rfl) hf dX11_played_7 (fun x7 hf => ?_)
  refine lv_iconst (v := Int32.ofInt 1) C.hx C.hb dX11_played_8 rfl ?_
  refine w_isub C dX11_played_9 ?_
  obtain ⟨x10, hc9, hf⟩ := cu_of hf
  refine r_callSi (rest := []) C hH hl (m_X11_in hn hc9) ML_RX11_115 MF_X11_in MS_X11_in rfl rfl (Nat.le_of_ble_eq_true rfl) ⟨Nat.le_of_ble_eq_true rfl, Nat.le_of_ble_eq_true rfl⟩ ⟨Nat.le_refl _, Nat.le_refl _⟩ dX11_played_10 (fun H locs hH => ?_)
  refine w_ne0 (tgt := 19) C hf dX11_played_13 (by decide) (fun hf => ?_) (fun hf => ?_)
  · refine lv_iconst (v := Int32.ofInt 0) C.hx C.hb dX11_played_19 rfl ?_
    refine lv_istore_n (lv' := [(2, i3 0), (0, .ref (eb E + t)), (1, i3 a1)]) C.hx C.hb dX11_played_20 rfl hl (by decide) rfl (fun ls hl => ?_)
    exact l_X11_played_21 C hn o_t FU _ _ _ _ _ hf hH (lv_sub hl [1, 2, 0] rfl)
  · refine lv_bipush (v := Int32.ofInt (-2)) C.hx C.hb dX11_played_16 (by decide) ?_
    cases hf
    exact w_iret C hH dX11_played_18
-- HeavierByHandModel.undo
def fn_X11_undo (t : Nat) (M : Mem) : Option (Int × Mem) :=
  rd M (t + 1) 288 7 fun x6 => cEq x6 0 (some ((-1), M)) (rd M (t + 1) 288 7 fun x19 => wr M (t + 1) 288 7 (x19 - 1) fun M22 => rd M22 (t + 1) 288 7 fun x32 => nm ((120 + (4 * x32))) fun v1_35 => rd M22 (t + 1) 288 v1_35 fun x41 => rd M22 (t + 1) 288 (v1_35 + 1) fun x62 => wr M22 (t + 1) 288 ((20 + (5 * x41)) + 1) x62 fun M63 => rd M63 (t + 1) 288 (v1_35 + 2) fun x83 => wr M63 (t + 1) 288 ((20 + (5 * x41)) + 2) x83 fun M84 => rd M84 (t + 1) 288 (v1_35 + 3) fun x104 => wr M84 (t + 1) 288 ((20 + (5 * x41)) + 3) x104 fun M105 => some (x41, M105))
set_option maxRecDepth 100000 in
set_option maxHeartbeats 4000000 in
theorem m_X11_undo {E : EE} {l : Launch} {n : Nat} {t : Nat} {M : Mem} {o : (Int × Mem)} (hn : nfull n) (o_t : ob n t 11) (hf : fn_X11_undo t M = some o) : CT E l yX11_undo cX11_undo 3 (some .int) 0 0 0 0 [.ref (eb E + t)] n (zf n) M (some (i3 o.1)) n (zf n) o.2 := by
  refine CT_of PN_RX11 (Nat.le_of_ble_eq_true rfl) ?_
  intro p e s m args below meth c C hH ls hl
  replace C : Cx E p s m args meth c cX11_undo 3 RX11 (some .int) n "undo" := C
  have hl : lv_has ls 3 [(0, .ref (eb E + t))] := hl
  unfold fn_X11_undo at hf
  refine lv_aload_n C.hx C.hb dX11_undo_0 rfl (lv_at hl 0 rfl) ?_
  refine g_ref (off := 1) C hH o_t (by decide) rfl rfl FL_RX11_7 dX11_undo_1 ?_
  refine lv_bipush (v := Int32.ofInt 7) C.hx C.hb dX11_undo_4 (by decide) ?_
  refine r_iald C hH (ly (i := 0) (off := 1) (k := 12) hn o_t rfl rfl rfl) (lyn (i := 0) (off := 1) (N := 287) hn o_t rfl rfl rfl) hf dX11_undo_6 (fun x6 hf => ?_)
  refine w_ne0 (tgt := 12) C hf dX11_undo_7 (by decide) (fun hf => ?_) (fun hf => ?_)
  · refine lv_aload_n C.hx C.hb dX11_undo_12 rfl (lv_at hl 0 rfl) ?_
    refine g_ref (off := 1) C hH o_t (by decide) rfl rfl FL_RX11_7 dX11_undo_13 ?_
    refine lv_bipush (v := Int32.ofInt 7) C.hx C.hb dX11_undo_16 (by decide) ?_
    refine lv_dup2_11 C.hx C.hb dX11_undo_18 rfl rfl ?_
    refine r_iald C hH (ly (i := 0) (off := 1) (k := 12) hn o_t rfl rfl rfl) (lyn (i := 0) (off := 1) (N := 287) hn o_t rfl rfl rfl) hf dX11_undo_19 (fun x19 hf => ?_)
    refine lv_iconst (v := Int32.ofInt 1) C.hx C.hb dX11_undo_20 rfl ?_
    refine w_isub C dX11_undo_21 ?_
    refine r_iast C hH (ly (i := 0) (off := 1) (k := 12) hn o_t rfl rfl rfl) (lyn (i := 0) (off := 1) (N := 287) hn o_t rfl rfl rfl) hf dX11_undo_22 (fun M22 H locs hf hH => ?_)
    refine lv_bipush (v := Int32.ofInt 120) C.hx C.hb dX11_undo_23 (by decide) ?_
    refine lv_iconst (v := Int32.ofInt 4) C.hx C.hb dX11_undo_25 rfl ?_
    refine lv_aload_n C.hx C.hb dX11_undo_26 rfl (lv_at hl 0 rfl) ?_
    refine g_ref (off := 1) C hH o_t (by decide) rfl rfl FL_RX11_7 dX11_undo_27 ?_
    refine lv_bipush (v := Int32.ofInt 7) C.hx C.hb dX11_undo_30 (by decide) ?_
    refine r_iald C hH (ly (i := 0) (off := 1) (k := 12) hn o_t rfl rfl rfl) (lyn (i := 0) (off := 1) (N := 287) hn o_t rfl rfl rfl) hf dX11_undo_32 (fun x32 hf => ?_)
    refine w_imul C dX11_undo_33 ?_
    refine w_iadd C dX11_undo_34 ?_
    refine r_nm hf (fun v1_35 hf => ?_)
    refine lv_istore_n (lv' := [(1, i3 v1_35), (0, .ref (eb E + t))]) C.hx C.hb dX11_undo_35 rfl hl (by decide) rfl (fun ls hl => ?_)
    refine lv_aload_n C.hx C.hb dX11_undo_36 rfl (lv_at hl 1 rfl) ?_
    refine g_ref (off := 1) C hH o_t (by decide) rfl rfl FL_RX11_7 dX11_undo_37 ?_
    refine lv_iload_n C.hx C.hb dX11_undo_40 rfl (lv_at hl 0 rfl) ?_
    refine r_iald C hH (ly (i := 0) (off := 1) (k := 12) hn o_t rfl rfl rfl) (lyn (i := 0) (off := 1) (N := 287) hn o_t rfl rfl rfl) hf dX11_undo_41 (fun x41 hf => ?_)
    refine lv_istore_n (lv' := [(2, i3 x41), (1, i3 v1_35), (0, .ref (eb E + t))]) C.hx C.hb dX11_undo_42 rfl hl (by decide) rfl (fun ls hl => ?_)
    refine lv_aload_n C.hx C.hb dX11_undo_43 rfl (lv_at hl 2 rfl) ?_
    refine g_ref (off := 1) C hH o_t (by decide) rfl rfl FL_RX11_7 dX11_undo_44 ?_
    refine lv_bipush (v := Int32.ofInt 20) C.hx C.hb dX11_undo_47 (by decide) ?_
    refine lv_iconst (v := Int32.ofInt 5) C.hx C.hb dX11_undo_49 rfl ?_
    refine lv_iload_n C.hx C.hb dX11_undo_50 rfl (lv_at hl 0 rfl) ?_
    refine w_imul C dX11_undo_51 ?_
    refine w_iadd C dX11_undo_52 ?_
    refine lv_iconst (v := Int32.ofInt 1) C.hx C.hb dX11_undo_53 rfl ?_
    refine w_iadd C dX11_undo_54 ?_
    refine lv_aload_n C.hx C.hb dX11_undo_55 rfl (lv_at hl 2 rfl) ?_
    refine g_ref (off := 1) C hH o_t (by decide) rfl rfl FL_RX11_7 dX11_undo_56 ?_
    refine lv_iload_n C.hx C.hb dX11_undo_59 rfl (lv_at hl 1 rfl) ?_
    refine lv_iconst (v := Int32.ofInt 1) C.hx C.hb dX11_undo_60 rfl ?_
    refine w_iadd C dX11_undo_61 ?_
    refine r_iald C hH (ly (i := 0) (off := 1) (k := 12) hn o_t rfl rfl rfl) (lyn (i := 0) (off := 1) (N := 287) hn o_t rfl rfl rfl) hf dX11_undo_62 (fun x62 hf => ?_)
    refine r_iast C hH (ly (i := 0) (off := 1) (k := 12) hn o_t rfl rfl rfl) (lyn (i := 0) (off := 1) (N := 287) hn o_t rfl rfl rfl) hf dX11_undo_63 (fun M63 H locs hf hH => ?_)
    refine lv_aload_n C.hx C.hb dX11_undo_64 rfl (lv_at hl 2 rfl) ?_
    refine g_ref (off := 1) C hH o_t (by decide) rfl rfl FL_RX11_7 dX11_undo_65 ?_
    refine lv_bipush (v := Int32.ofInt 20) C.hx C.hb dX11_undo_68 (by decide) ?_
    refine lv_iconst (v := Int32.ofInt 5) C.hx C.hb dX11_undo_70 rfl ?_
    refine lv_iload_n C.hx C.hb dX11_undo_71 rfl (lv_at hl 0 rfl) ?_
    refine w_imul C dX11_undo_72 ?_
    refine w_iadd C dX11_undo_73 ?_
    refine lv_iconst (v := Int32.ofInt 2) C.hx C.hb dX11_undo_74 rfl ?_
    refine w_iadd C dX11_undo_75 ?_
    refine lv_aload_n C.hx C.hb dX11_undo_76 rfl (lv_at hl 2 rfl) ?_
    refine g_ref (off := 1) C hH o_t (by decide) rfl rfl FL_RX11_7 dX11_undo_77 ?_
    refine lv_iload_n C.hx C.hb dX11_undo_80 rfl (lv_at hl 1 rfl) ?_
    refine lv_iconst (v := Int32.ofInt 2) C.hx C.hb dX11_undo_81 rfl ?_
    refine w_iadd C dX11_undo_82 ?_
    refine r_iald C hH (ly (i := 0) (off := 1) (k := 12) hn o_t rfl rfl rfl) (lyn (i := 0) (off := 1) (N := 287) hn o_t rfl rfl rfl) hf dX11_undo_83 (fun x83 hf => ?_)
    refine r_iast C hH (ly (i := 0) (off := 1) (k := 12) hn o_t rfl rfl rfl) (lyn (i := 0) (off := 1) (N := 287) hn o_t rfl rfl rfl) hf dX11_undo_84 (fun M84 H locs hf hH => ?_)
    refine lv_aload_n C.hx C.hb dX11_undo_85 rfl (lv_at hl 2 rfl) ?_
    refine g_ref (off := 1) C hH o_t (by decide) rfl rfl FL_RX11_7 dX11_undo_86 ?_
    refine lv_bipush (v := Int32.ofInt 20) C.hx C.hb dX11_undo_89 (by decide) ?_
    refine lv_iconst (v := Int32.ofInt 5) C.hx C.hb dX11_undo_91 rfl ?_
    refine lv_iload_n C.hx C.hb dX11_undo_92 rfl (lv_at hl 0 rfl) ?_
    refine w_imul C dX11_undo_93 ?_
    refine w_iadd C dX11_undo_94 ?_
    refine lv_iconst (v := Int32.ofInt 3) C.hx C.hb dX11_undo_95 rfl ?_
    refine w_iadd C dX11_undo_96 ?_
    refine lv_aload_n C.hx C.hb dX11_undo_97 rfl (lv_at hl 2 rfl) ?_
    refine g_ref (off := 1) C hH o_t (by decide) rfl rfl FL_RX11_7 dX11_undo_98 ?_
    refine lv_iload_n C.hx C.hb dX11_undo_101 rfl (lv_at hl 1 rfl) ?_
    refine lv_iconst (v := Int32.ofInt 3) C.hx C.hb dX11_undo_102 rfl ?_
    refine w_iadd C dX11_undo_103 ?_
    refine r_iald C hH (ly (i := 0) (off := 1) (k := 12) hn o_t rfl rfl rfl) (lyn (i := 0) (off := 1) (N := 287) hn o_t rfl rfl rfl) hf dX11_undo_104 (fun x104 hf => ?_)
    refine r_iast C hH (ly (i := 0) (off := 1) (k := 12) hn o_t rfl rfl rfl) (lyn (i := 0) (off := 1) (N := 287) hn o_t rfl rfl rfl) hf dX11_undo_105 (fun M105 H locs hf hH => ?_)
    refine lv_iload_n C.hx C.hb dX11_undo_106 rfl (lv_at hl 0 rfl) ?_
    cases hf
    exact w_iret C hH dX11_undo_107
  · refine lv_iconst (v := Int32.ofInt (-1)) C.hx C.hb dX11_undo_10 rfl ?_
    cases hf
    exact w_iret C hH dX11_undo_11
-- HeavierByHandModel.cell
def fn_X11_cell (a0 : Int) (a1 : Int) (a2 : Int) (M : Mem) : Option Int :=
  some ((((a0 * 11) + a1) * 361) + a2)
set_option maxRecDepth 100000 in
set_option maxHeartbeats 4000000 in
theorem m_X11_cell {E : EE} {l : Launch} {n : Nat} {a0 : Int} {a1 : Int} {a2 : Int} {M : Mem} {o : Int} (hn : nfull n) (hf : fn_X11_cell a0 a1 a2 M = some o) : CT E l yX11_cell cX11_cell 3 (some .int) 0 0 0 0 [i3 a0, i3 a1, i3 a2] n (zf n) M (some (i3 o)) n (zf n) M := by
  refine CT_of PN_RX11 (Nat.le_of_ble_eq_true rfl) ?_
  intro p e s m args below meth c C hH ls hl
  replace C : Cx E p s m args meth c cX11_cell 3 RX11 (some .int) n "cell" := C
  have hl : lv_has ls 3 [(0, i3 a0), (1, i3 a1), (2, i3 a2)] := hl
  unfold fn_X11_cell at hf
  refine lv_iload_n C.hx C.hb dX11_cell_0 rfl (lv_at hl 0 rfl) ?_
  refine lv_bipush (v := Int32.ofInt 11) C.hx C.hb dX11_cell_1 (by decide) ?_
  refine w_imul C dX11_cell_3 ?_
  refine lv_iload_n C.hx C.hb dX11_cell_4 rfl (lv_at hl 1 rfl) ?_
  refine w_iadd C dX11_cell_5 ?_
  refine lv_sipush (v := Int32.ofInt 361) C.hx C.hb dX11_cell_6 (by decide) ?_
  refine w_imul C dX11_cell_9 ?_
  refine lv_iload_n C.hx C.hb dX11_cell_10 rfl (lv_at hl 2 rfl) ?_
  refine w_iadd C dX11_cell_11 ?_
  cases hf
  exact w_iret C hH dX11_cell_12
-- HeavierByHandModel.laysRows
def fn_X11_laysRows_J150 (v3_2 : Int) (rec2 : Int → Mem → Option Mem) (M150 : Mem) : Option Mem :=
  nm (v3_2 + 1) fun v3_150 => rec2 v3_150 M150
def fn_X11_laysRows_J144 (v4_10 : Int) (rec10 : Int → Mem → Option Mem) (M144 : Mem) : Option Mem :=
  nm (v4_10 + 1) fun v4_144 => rec10 v4_144 M144
def fn_X11_laysRows_J123 (t : Nat) (v3_2 : Int) (v4_10 : Int) (v5_20 : Int) (M20 : Mem) (rec20 : Int → Mem → Option Mem) (v6_123 : Int) : Option Mem :=
  cu (fn_X11_cell v3_2 v4_10 v5_20 M20) fun x132 => wr M20 (t + 23) 51623 x132 v6_123 fun M137 => nm (v5_20 + 1) fun v5_138 => rec20 v5_138 M137
def fn_X11_laysRows_J117 (v8_47 : Int) (rec47 : Int → Int → Option Mem) (v6_117 : Int) : Option Mem :=
  nm (v8_47 + 1) fun v8_117 => rec47 v8_117 v6_117
def fn_X11_laysRows_L47 (t : Nat) (a2 : Int) (v3_2 : Int) (v4_10 : Int) (v5_20 : Int) (M20 : Mem) (rec20 : Int → Mem → Option Mem) (rec47 : Int → Int → Option Mem) (v8_47 : Int) (v6_47 : Int) : Option Mem :=
  rd M20 (t + 1) 288 0 fun x54 => cLt v8_47 x54 (cLt 0 v3_2 (rd M20 (t + 1) 288 (10 + v8_47) fun x71 => cEq v8_47 v4_10 (fn_X11_laysRows_J117 v8_47 rec47 v6_47) (cEq v8_47 a2 (fn_X11_laysRows_J117 v8_47 rec47 v6_47) (cLt v5_20 x71 (fn_X11_laysRows_J117 v8_47 rec47 v6_47) (cu (fn_X11_cell (v3_2 - 1) v8_47 (v5_20 - x71) M20) fun x110 => rd M20 (t + 23) 51623 x110 fun x113 => nm ((v6_47 + x113)) fun v6_115 => fn_X11_laysRows_J117 v8_47 rec47 v6_115)))) (fn_X11_laysRows_J123 t v3_2 v4_10 v5_20 M20 rec20 v6_47)) (fn_X11_laysRows_J123 t v3_2 v4_10 v5_20 M20 rec20 v6_47)
def fn_X11_laysRows_J42 (t : Nat) (a2 : Int) (v3_2 : Int) (v4_10 : Int) (v5_20 : Int) (M20 : Mem) (rec20 : Int → Mem → Option Mem) (u0_42 : Int) : Option Mem :=
  lq2 (fn_X11_laysRows_L47 t a2 v3_2 v4_10 v5_20 M20 rec20) FU 0 u0_42
def fn_X11_laysRows_J41 (t : Nat) (a2 : Int) (v3_2 : Int) (v4_10 : Int) (v5_20 : Int) (M20 : Mem) (rec20 : Int → Mem → Option Mem) : Option Mem :=
  fn_X11_laysRows_J42 t a2 v3_2 v4_10 v5_20 M20 rec20 0
def fn_X11_laysRows_L20 (t : Nat) (a2 : Int) (v3_2 : Int) (v4_10 : Int) (rec10 : Int → Mem → Option Mem) (rec20 : Int → Mem → Option Mem) (v5_20 : Int) (M20 : Mem) : Option Mem :=
  cLt v5_20 361 (cEq v3_2 0 (cEq v5_20 0 (fn_X11_laysRows_J42 t a2 v3_2 v4_10 v5_20 M20 rec20 1) (fn_X11_laysRows_J41 t a2 v3_2 v4_10 v5_20 M20 rec20)) (fn_X11_laysRows_J41 t a2 v3_2 v4_10 v5_20 M20 rec20)) (fn_X11_laysRows_J144 v4_10 rec10 M20)
def fn_X11_laysRows_L10 (t : Nat) (a2 : Int) (v3_2 : Int) (rec2 : Int → Mem → Option Mem) (rec10 : Int → Mem → Option Mem) (v4_10 : Int) (M10 : Mem) : Option Mem :=
  cLt v4_10 11 (lq2 (fn_X11_laysRows_L20 t a2 v3_2 v4_10 rec10) FU 0 M10) (fn_X11_laysRows_J150 v3_2 rec2 M10)
def fn_X11_laysRows_L2 (t : Nat) (a1 : Int) (a2 : Int) (rec2 : Int → Mem → Option Mem) (v3_2 : Int) (M2 : Mem) : Option Mem :=
  cLt a1 v3_2 (some M2) (lq2 (fn_X11_laysRows_L10 t a2 v3_2 rec2) FU 0 M2)
def fn_X11_laysRows (t : Nat) (a1 : Int) (a2 : Int) (M : Mem) : Option Mem :=
  lq2 (fn_X11_laysRows_L2 t a1 a2) FU 0 M
set_option maxRecDepth 100000 in
set_option maxHeartbeats 4000000 in
theorem j_X11_laysRows_150 {p : Program} {l : Launch} {e : Env} {s : State} {m : MethodId} {args : Array Value} {below : List Frame} {meth : Method} {c : Code} {E : EE} {n : Nat} {o : Mem} {t : Nat} {a1 : Int} {a2 : Int} {v3_2 : Int} {rec2 : Int → Mem → Option Mem} {M150 : Mem} {H : Heap} {locs : List Loc} {ls : Array Slot} (C : Cx E p s m args meth c cX11_laysRows 10 RX11 none n "laysRows") (hn : nfull n) (o_t : ob n t 11) (h_rec2 : ∀ {v3_2 : Int} {M2 : Mem} {H : Heap} {locs : List Loc} {ls : Array Slot}, rec2 v3_2 M2 = some o → ST E s n (zf n) M2 H locs → lv_has ls 10 [(0, .ref (eb E + t)), (1, i3 a1), (2, i3 a2), (3, i3 v3_2)] → W p l e { frames := 1, cells := 0, slots := 0, locals := 22 } s m args below meth c H locs 0 0 (MQ below (QC E none n (zf n) o) args s 0 0 (fr E)) (F0 m 2 ls [])) (hf : fn_X11_laysRows_J150 v3_2 rec2 M150 = some o) (hH : ST E s n (zf n) M150 H locs) (hl : lv_has ls 10 [(0, .ref (eb E + t)), (1, i3 a1), (2, i3 a2), (3, i3 v3_2)]) : W p l e { frames := 1, cells := 0, slots := 0, locals := 22 } s m args below meth c H locs 0 0 (MQ below (QC E none n (zf n) o) args s 0 0 (fr E)) (F0 m 150 ls []) := by
  unfold fn_X11_laysRows_J150 at hf
  refine r_iinc (k := 3) (lv' := fun v => [(3, i3 v), (0, .ref (eb E + t)), (1, i3 a1), (2, i3 a2)]) C hf dX11_laysRows_150 hl rfl (by decide) (fun _ => rfl) (fun v3_150 ls hf hl => ?_)
  refine lv_goto (tgt := 2) C.hx C.hb dX11_laysRows_153 (by decide) ?_
  exact h_rec2 hf hH (lv_sub hl [1, 2, 3, 0] rfl)
set_option maxRecDepth 100000 in
set_option maxHeartbeats 4000000 in
theorem j_X11_laysRows_144 {p : Program} {l : Launch} {e : Env} {s : State} {m : MethodId} {args : Array Value} {below : List Frame} {meth : Method} {c : Code} {E : EE} {n : Nat} {o : Mem} {t : Nat} {a1 : Int} {a2 : Int} {v3_2 : Int} {v4_10 : Int} {rec10 : Int → Mem → Option Mem} {M144 : Mem} {H : Heap} {locs : List Loc} {ls : Array Slot} (C : Cx E p s m args meth c cX11_laysRows 10 RX11 none n "laysRows") (hn : nfull n) (o_t : ob n t 11) (h_rec10 : ∀ {v4_10 : Int} {M10 : Mem} {H : Heap} {locs : List Loc} {ls : Array Slot}, rec10 v4_10 M10 = some o → ST E s n (zf n) M10 H locs → lv_has ls 10 [(0, .ref (eb E + t)), (1, i3 a1), (2, i3 a2), (3, i3 v3_2), (4, i3 v4_10)] → W p l e { frames := 1, cells := 0, slots := 0, locals := 22 } s m args below meth c H locs 0 0 (MQ below (QC E none n (zf n) o) args s 0 0 (fr E)) (F0 m 10 ls [])) (hf : fn_X11_laysRows_J144 v4_10 rec10 M144 = some o) (hH : ST E s n (zf n) M144 H locs) (hl : lv_has ls 10 [(0, .ref (eb E + t)), (1, i3 a1), (2, i3 a2), (3, i3 v3_2), (4, i3 v4_10)]) : W p l e { frames := 1, cells := 0, slots := 0, locals := 22 } s m args below meth c H locs 0 0 (MQ below (QC E none n (zf n) o) args s 0 0 (fr E)) (F0 m 144 ls []) := by
  unfold fn_X11_laysRows_J144 at hf
  refine r_iinc (k := 4) (lv' := fun v => [(4, i3 v), (0, .ref (eb E + t)), (1, i3 a1), (2, i3 a2), (3, i3 v3_2)]) C hf dX11_laysRows_144 hl rfl (by decide) (fun _ => rfl) (fun v4_144 ls hf hl => ?_)
  refine lv_goto (tgt := 10) C.hx C.hb dX11_laysRows_147 (by decide) ?_
  exact h_rec10 hf hH (lv_sub hl [1, 2, 3, 4, 0] rfl)
set_option maxRecDepth 100000 in
set_option maxHeartbeats 4000000 in
theorem j_X11_laysRows_123 {p : Program} {l : Launch} {e : Env} {s : State} {m : MethodId} {args : Array Value} {below : List Frame} {meth : Method} {c : Code} {E : EE} {n : Nat} {o : Mem} {t : Nat} {a1 : Int} {a2 : Int} {v3_2 : Int} {v4_10 : Int} {v5_20 : Int} {M20 : Mem} {rec20 : Int → Mem → Option Mem} {v6_123 : Int} {H : Heap} {locs : List Loc} {ls : Array Slot} (C : Cx E p s m args meth c cX11_laysRows 10 RX11 none n "laysRows") (hn : nfull n) (o_t : ob n t 11) (h_rec20 : ∀ {v5_20 : Int} {M20 : Mem} {H : Heap} {locs : List Loc} {ls : Array Slot}, rec20 v5_20 M20 = some o → ST E s n (zf n) M20 H locs → lv_has ls 10 [(0, .ref (eb E + t)), (1, i3 a1), (2, i3 a2), (3, i3 v3_2), (4, i3 v4_10), (5, i3 v5_20)] → W p l e { frames := 1, cells := 0, slots := 0, locals := 22 } s m args below meth c H locs 0 0 (MQ below (QC E none n (zf n) o) args s 0 0 (fr E)) (F0 m 20 ls [])) (hf : fn_X11_laysRows_J123 t v3_2 v4_10 v5_20 M20 rec20 v6_123 = some o) (hH : ST E s n (zf n) M20 H locs) (hl : lv_has ls 10 [(0, .ref (eb E + t)), (1, i3 a1), (2, i3 a2), (3, i3 v3_2), (4, i3 v4_10), (5, i3 v5_20), (6, l6 v6_123)]) : W p l e { frames := 1, cells := 0, slots := 0, locals := 22 } s m args below meth c H locs 0 0 (MQ below (QC E none n (zf n) o) args s 0 0 (fr E)) (F0 m 123 ls []) := by
  unfold fn_X11_laysRows_J123 at hf
  refine lv_aload_n C.hx C.hb dX11_laysRows_123 rfl (lv_at hl 0 rfl) ?_
  refine g_ref (off := 23) C hH o_t (by decide) rfl rfl FL_RX11_86 dX11_laysRows_124 ?_
  refine lv_iload_n C.hx C.hb dX11_laysRows_127 rfl (lv_at hl 3 rfl) ?_
  refine lv_iload C.hx C.hb dX11_laysRows_128 (lv_at hl 4 rfl) ?_
  refine lv_iload C.hx C.hb dX11_laysRows_130 (lv_at hl 5 rfl) ?_
  obtain ⟨x132, hc9, hf⟩ := cu_of hf
  refine r_callSi (rest := [.ref (eb E + (t + 23))]) C hH hl (m_X11_cell hn hc9) ML_RX11_331 MF_X11_cell MS_X11_cell rfl rfl (Nat.le_of_ble_eq_true rfl) ⟨Nat.le_of_ble_eq_true rfl, Nat.le_of_ble_eq_true rfl⟩ ⟨Nat.le_refl _, Nat.le_refl _⟩ dX11_laysRows_132 (fun H locs hH => ?_)
  refine lv_lload C.hx C.hb dX11_laysRows_135 (lv_at hl 6 rfl) ?_
  refine r_last C hH (ly (i := 39) (off := 23) (k := 15) hn o_t rfl rfl rfl) (lyn (i := 39) (off := 23) (N := 51622) hn o_t rfl rfl rfl) hf dX11_laysRows_137 (fun M137 H locs hf hH => ?_)
  refine r_iinc (k := 5) (lv' := fun v => [(5, i3 v), (0, .ref (eb E + t)), (1, i3 a1), (2, i3 a2), (3, i3 v3_2), (4, i3 v4_10), (6, l6 v6_123)]) C hf dX11_laysRows_138 hl rfl (by decide) (fun _ => rfl) (fun v5_138 ls hf hl => ?_)
  refine lv_goto (tgt := 20) C.hx C.hb dX11_laysRows_141 (by decide) ?_
  exact h_rec20 hf hH (lv_sub hl [1, 2, 3, 4, 5, 0] rfl)
set_option maxRecDepth 100000 in
set_option maxHeartbeats 4000000 in
theorem j_X11_laysRows_117 {p : Program} {l : Launch} {e : Env} {s : State} {m : MethodId} {args : Array Value} {below : List Frame} {meth : Method} {c : Code} {E : EE} {n : Nat} {o : Mem} {t : Nat} {a1 : Int} {a2 : Int} {v3_2 : Int} {v4_10 : Int} {v5_20 : Int} {M20 : Mem} {v8_47 : Int} {rec47 : Int → Int → Option Mem} {v6_117 : Int} {H : Heap} {locs : List Loc} {ls : Array Slot} (C : Cx E p s m args meth c cX11_laysRows 10 RX11 none n "laysRows") (hn : nfull n) (o_t : ob n t 11) (h_rec47 : ∀ {v8_47 : Int} {v6_47 : Int} {H : Heap} {locs : List Loc} {ls : Array Slot}, rec47 v8_47 v6_47 = some o → ST E s n (zf n) M20 H locs → lv_has ls 10 [(0, .ref (eb E + t)), (1, i3 a1), (2, i3 a2), (3, i3 v3_2), (4, i3 v4_10), (5, i3 v5_20), (6, l6 v6_47), (8, i3 v8_47)] → W p l e { frames := 1, cells := 0, slots := 0, locals := 22 } s m args below meth c H locs 0 0 (MQ below (QC E none n (zf n) o) args s 0 0 (fr E)) (F0 m 47 ls [])) (hf : fn_X11_laysRows_J117 v8_47 rec47 v6_117 = some o) (hH : ST E s n (zf n) M20 H locs) (hl : lv_has ls 10 [(0, .ref (eb E + t)), (1, i3 a1), (2, i3 a2), (3, i3 v3_2), (4, i3 v4_10), (5, i3 v5_20), (6, l6 v6_117), (8, i3 v8_47)]) : W p l e { frames := 1, cells := 0, slots := 0, locals := 22 } s m args below meth c H locs 0 0 (MQ below (QC E none n (zf n) o) args s 0 0 (fr E)) (F0 m 117 ls []) := by
  unfold fn_X11_laysRows_J117 at hf
  refine r_iinc (k := 7) (lv' := fun v => [(8, i3 v), (0, .ref (eb E + t)), (1, i3 a1), (2, i3 a2), (3, i3 v3_2), (4, i3 v4_10), (5, i3 v5_20), (6, l6 v6_117)]) C hf dX11_laysRows_117 hl rfl (by decide) (fun _ => rfl) (fun v8_117 ls hf hl => ?_)
  refine lv_goto (tgt := 47) C.hx C.hb dX11_laysRows_120 (by decide) ?_
  exact h_rec47 hf hH (lv_sub hl [1, 2, 3, 4, 5, 6, 7, 0] rfl)
set_option maxRecDepth 100000 in
set_option maxHeartbeats 4000000 in
theorem l_X11_laysRows_47 {p : Program} {l : Launch} {e : Env} {s : State} {m : MethodId} {args : Array Value} {below : List Frame} {meth : Method} {c : Code} {E : EE} {n : Nat} {o : Mem} {t : Nat} {a1 : Int} {a2 : Int} {v3_2 : Int} {v4_10 : Int} {v5_20 : Int} {M20 : Mem} {rec20 : Int → Mem → Option Mem} (C : Cx E p s m args meth c cX11_laysRows 10 RX11 none n "laysRows") (hn : nfull n) (o_t : ob n t 11) (h_rec20 : ∀ {v5_20 : Int} {M20 : Mem} {H : Heap} {locs : List Loc} {ls : Array Slot}, rec20 v5_20 M20 = some o → ST E s n (zf n) M20 H locs → lv_has ls 10 [(0, .ref (eb E + t)), (1, i3 a1), (2, i3 a2), (3, i3 v3_2), (4, i3 v4_10), (5, i3 v5_20)] → W p l e { frames := 1, cells := 0, slots := 0, locals := 22 } s m args below meth c H locs 0 0 (MQ below (QC E none n (zf n) o) args s 0 0 (fr E)) (F0 m 20 ls [])) : ∀ (k : Nat) (v8_47 : Int) (v6_47 : Int) (H : Heap) (locs : List Loc) (ls : Array Slot), lq2 (fn_X11_laysRows_L47 t a2 v3_2 v4_10 v5_20 M20 rec20) k v8_47 v6_47 = some o → ST E s n (zf n) M20 H locs → lv_has ls 10 [(0, .ref (eb E + t)), (1, i3 a1), (2, i3 a2), (3, i3 v3_2), (4, i3 v4_10), (5, i3 v5_20), (6, l6 v6_47), (8, i3 v8_47)] → W p l e { frames := 1, cells := 0, slots := 0, locals := 22 } s m args below meth c H locs 0 0 (MQ below (QC E none n (zf n) o) args s 0 0 (fr E)) (F0 m 47 ls []) := by
  intro k
  induction k with
  | zero => intro v8_47 v6_47 H locs ls hf; cases hf
  | succ k ih =>
    intro v8_47 v6_47 H locs ls hf hH hl
    have h_rec47 : ∀ {v8_47 : Int} {v6_47 : Int} {H : Heap} {locs : List Loc} {ls : Array Slot}, lq2 (fn_X11_laysRows_L47 t a2 v3_2 v4_10 v5_20 M20 rec20) k v8_47 v6_47 = some o → ST E s n (zf n) M20 H locs → lv_has ls 10 [(0, .ref (eb E + t)), (1, i3 a1), (2, i3 a2), (3, i3 v3_2), (4, i3 v4_10), (5, i3 v5_20), (6, l6 v6_47), (8, i3 v8_47)] → W p l e { frames := 1, cells := 0, slots := 0, locals := 22 } s m args below meth c H locs 0 0 (MQ below (QC E none n (zf n) o) args s 0 0 (fr E)) (F0 m 47 ls []) := fun {v8_47} {v6_47} {H} {locs} {ls} a b c => ih v8_47 v6_47 H locs ls a b c
    replace hf : fn_X11_laysRows_L47 t a2 v3_2 v4_10 v5_20 M20 rec20 (lq2 (fn_X11_laysRows_L47 t a2 v3_2 v4_10 v5_20 M20 rec20) k) v8_47 v6_47 = some o := hf
    generalize lq2 (fn_X11_laysRows_L47 t a2 v3_2 v4_10 v5_20 M20 rec20) k = rec47 at hf h_rec47
    unfold fn_X11_laysRows_L47 at hf
    refine lv_iload C.hx C.hb dX11_laysRows_47 (lv_at hl 7 rfl) ?_
    refine lv_aload_n C.hx C.hb dX11_laysRows_49 rfl (lv_at hl 0 rfl) ?_
    refine g_ref (off := 1) C hH o_t (by decide) rfl rfl FL_RX11_7 dX11_laysRows_50 ?_
    refine lv_iconst (v := Int32.ofInt 0) C.hx C.hb dX11_laysRows_53 rfl ?_
    refine r_iald C hH (ly (i := 0) (off := 1) (k := 12) hn o_t rfl rfl rfl) (lyn (i := 0) (off := 1) (N := 287) hn o_t rfl rfl rfl) hf dX11_laysRows_54 (fun x54 hf => ?_)
    refine w_ge (tgt := 123) C hf dX11_laysRows_55 (by decide) (fun hf => ?_) (fun hf => ?_)
    · exact j_X11_laysRows_123 C hn o_t h_rec20 hf hH (lv_sub hl [0, 1, 2, 3, 4, 5, 6] rfl)
    · refine lv_iload_n C.hx C.hb dX11_laysRows_58 rfl (lv_at hl 3 rfl) ?_
      refine w_le0 (tgt := 123) C hf dX11_laysRows_59 (by decide) (fun hf => ?_) (fun hf => ?_)
      · exact j_X11_laysRows_123 C hn o_t h_rec20 hf hH (lv_sub hl [0, 1, 2, 3, 4, 5, 6] rfl)
      · refine lv_aload_n C.hx C.hb dX11_laysRows_62 rfl (lv_at hl 0 rfl) ?_
        refine g_ref (off := 1) C hH o_t (by decide) rfl rfl FL_RX11_7 dX11_laysRows_63 ?_
        refine lv_bipush (v := Int32.ofInt 10) C.hx C.hb dX11_laysRows_66 (by decide) ?_
        refine lv_iload C.hx C.hb dX11_laysRows_68 (lv_at hl 7 rfl) ?_
        refine w_iadd C dX11_laysRows_70 ?_
        refine r_iald C hH (ly (i := 0) (off := 1) (k := 12) hn o_t rfl rfl rfl) (lyn (i := 0) (off := 1) (N := 287) hn o_t rfl rfl rfl) hf dX11_laysRows_71 (fun x71 hf => ?_)
        refine lv_istore (lv' := [(9, i3 x71), (0, .ref (eb E + t)), (1, i3 a1), (2, i3 a2), (3, i3 v3_2), (4, i3 v4_10), (5, i3 v5_20), (6, l6 v6_47), (8, i3 v8_47)]) C.hx C.hb dX11_laysRows_72 hl (by decide) rfl (fun ls hl => ?_)
        refine lv_iload C.hx C.hb dX11_laysRows_74 (lv_at hl 8 rfl) ?_
        refine lv_iload C.hx C.hb dX11_laysRows_76 (lv_at hl 5 rfl) ?_
        refine w_eq (tgt := 117) C hf dX11_laysRows_78 (by decide) (fun hf => ?_) (fun hf => ?_)
        · exact j_X11_laysRows_117 C hn o_t h_rec47 hf hH (lv_sub hl [1, 2, 3, 4, 5, 6, 7, 8] rfl)
        · refine lv_iload C.hx C.hb dX11_laysRows_81 (lv_at hl 8 rfl) ?_
          refine lv_iload_n C.hx C.hb dX11_laysRows_83 rfl (lv_at hl 3 rfl) ?_
          refine w_eq (tgt := 117) C hf dX11_laysRows_84 (by decide) (fun hf => ?_) (fun hf => ?_)
          · exact j_X11_laysRows_117 C hn o_t h_rec47 hf hH (lv_sub hl [1, 2, 3, 4, 5, 6, 7, 8] rfl)
          · refine lv_iload C.hx C.hb dX11_laysRows_87 (lv_at hl 6 rfl) ?_
            refine lv_iload C.hx C.hb dX11_laysRows_89 (lv_at hl 0 rfl) ?_
            refine w_lt (tgt := 117) C hf dX11_laysRows_91 (by decide) (fun hf => ?_) (fun hf => ?_)
            · exact j_X11_laysRows_117 C hn o_t h_rec47 hf hH (lv_sub hl [1, 2, 3, 4, 5, 6, 7, 8] rfl)
            · refine lv_lload C.hx C.hb dX11_laysRows_94 (lv_at hl 7 rfl) ?_
              refine lv_aload_n C.hx C.hb dX11_laysRows_96 rfl (lv_at hl 1 rfl) ?_
              refine g_ref (off := 23) C hH o_t (by decide) rfl rfl FL_RX11_86 dX11_laysRows_97 ?_
              refine lv_iload_n C.hx C.hb dX11_laysRows_100 rfl (lv_at hl 4 rfl) ?_
              refine lv_iconst (v := Int32.ofInt 1) C.hx C.hb dX11_laysRows_101 rfl ?_
              refine w_isub C dX11_laysRows_102 ?_
              refine lv_iload C.hx C.hb dX11_laysRows_103 (lv_at hl 8 rfl) ?_
              refine lv_iload C.hx C.hb dX11_laysRows_105 (lv_at hl 6 rfl) ?_
              refine lv_iload C.hx C.hb dX11_laysRows_107 (lv_at hl 0 rfl) ?_
              refine w_isub C dX11_laysRows_109 ?_
              obtain ⟨x110, hc9, hf⟩ := cu_of hf
              refine r_callSi (rest := [.ref (eb E + (t + 23)), l6 v6_47]) C hH hl (m_X11_cell hn hc9) ML_RX11_331 MF_X11_cell MS_X11_cell rfl rfl (Nat.le_of_ble_eq_true rfl) ⟨Nat.le_of_ble_eq_true rfl, Nat.le_of_ble_eq_true rfl⟩ ⟨Nat.le_refl _, Nat.le_refl _⟩ dX11_laysRows_110 (fun H locs hH => ?_)
              refine r_lald C hH (ly (i := 39) (off := 23) (k := 15) hn o_t rfl rfl rfl) (lyn (i := 39) (off := 23) (N := 51622) hn o_t rfl rfl rfl) hf dX11_laysRows_113 (fun x113 hf => ?_)
              refine w_ladd C dX11_laysRows_114 ?_
              refine r_nmL hf (fun v6_115 hf => ?_)
              refine lv_lstore (lv' := [(6, l6 v6_115), (9, i3 x71), (0, .ref (eb E + t)), (1, i3 a1), (2, i3 a2), (3, i3 v3_2), (4, i3 v4_10), (5, i3 v5_20), (8, i3 v8_47)]) C.hx C.hb dX11_laysRows_115 hl (by decide) rfl (fun ls hl => ?_)
              exact j_X11_laysRows_117 C hn o_t h_rec47 hf hH (lv_sub hl [2, 3, 4, 5, 6, 7, 0, 8] rfl)
set_option maxRecDepth 100000 in
set_option maxHeartbeats 4000000 in
theorem j_X11_laysRows_42 {p : Program} {l : Launch} {e : Env} {s : State} {m : MethodId} {args : Array Value} {below : List Frame} {meth : Method} {c : Code} {E : EE} {n : Nat} {o : Mem} {t : Nat} {a1 : Int} {a2 : Int} {v3_2 : Int} {v4_10 : Int} {v5_20 : Int} {M20 : Mem} {rec20 : Int → Mem → Option Mem} {u0_42 : Int} {H : Heap} {locs : List Loc} {ls : Array Slot} (C : Cx E p s m args meth c cX11_laysRows 10 RX11 none n "laysRows") (hn : nfull n) (o_t : ob n t 11) (h_rec20 : ∀ {v5_20 : Int} {M20 : Mem} {H : Heap} {locs : List Loc} {ls : Array Slot}, rec20 v5_20 M20 = some o → ST E s n (zf n) M20 H locs → lv_has ls 10 [(0, .ref (eb E + t)), (1, i3 a1), (2, i3 a2), (3, i3 v3_2), (4, i3 v4_10), (5, i3 v5_20)] → W p l e { frames := 1, cells := 0, slots := 0, locals := 22 } s m args below meth c H locs 0 0 (MQ below (QC E none n (zf n) o) args s 0 0 (fr E)) (F0 m 20 ls [])) (hf : fn_X11_laysRows_J42 t a2 v3_2 v4_10 v5_20 M20 rec20 u0_42 = some o) (hH : ST E s n (zf n) M20 H locs) (hl : lv_has ls 10 [(0, .ref (eb E + t)), (1, i3 a1), (2, i3 a2), (3, i3 v3_2), (4, i3 v4_10), (5, i3 v5_20)]) : W p l e { frames := 1, cells := 0, slots := 0, locals := 22 } s m args below meth c H locs 0 0 (MQ below (QC E none n (zf n) o) args s 0 0 (fr E)) (F0 m 42 ls [l6 u0_42]) := by
  unfold fn_X11_laysRows_J42 at hf
  refine lv_lstore (lv' := [(6, l6 u0_42), (0, .ref (eb E + t)), (1, i3 a1), (2, i3 a2), (3, i3 v3_2), (4, i3 v4_10), (5, i3 v5_20)]) C.hx C.hb dX11_laysRows_42 hl (by decide) rfl (fun ls hl => ?_)
  refine lv_iconst (v := Int32.ofInt 0) C.hx C.hb dX11_laysRows_44 rfl ?_
  refine lv_istore (lv' := [(8, i3 0), (6, l6 u0_42), (0, .ref (eb E + t)), (1, i3 a1), (2, i3 a2), (3, i3 v3_2), (4, i3 v4_10), (5, i3 v5_20)]) C.hx C.hb dX11_laysRows_45 hl (by decide) rfl (fun ls hl => ?_)
  exact l_X11_laysRows_47 C hn o_t h_rec20 FU _ _ _ _ _ hf hH (lv_sub hl [2, 3, 4, 5, 6, 7, 1, 0] rfl)
set_option maxRecDepth 100000 in
set_option maxHeartbeats 4000000 in
theorem j_X11_laysRows_41 {p : Program} {l : Launch} {e : Env} {s : State} {m : MethodId} {args : Array Value} {below : List Frame} {meth : Method} {c : Code} {E : EE} {n : Nat} {o : Mem} {t : Nat} {a1 : Int} {a2 : Int} {v3_2 : Int} {v4_10 : Int} {v5_20 : Int} {M20 : Mem} {rec20 : Int → Mem → Option Mem} {H : Heap} {locs : List Loc} {ls : Array Slot} (C : Cx E p s m args meth c cX11_laysRows 10 RX11 none n "laysRows") (hn : nfull n) (o_t : ob n t 11) (h_rec20 : ∀ {v5_20 : Int} {M20 : Mem} {H : Heap} {locs : List Loc} {ls : Array Slot}, rec20 v5_20 M20 = some o → ST E s n (zf n) M20 H locs → lv_has ls 10 [(0, .ref (eb E + t)), (1, i3 a1), (2, i3 a2), (3, i3 v3_2), (4, i3 v4_10), (5, i3 v5_20)] → W p l e { frames := 1, cells := 0, slots := 0, locals := 22 } s m args below meth c H locs 0 0 (MQ below (QC E none n (zf n) o) args s 0 0 (fr E)) (F0 m 20 ls [])) (hf : fn_X11_laysRows_J41 t a2 v3_2 v4_10 v5_20 M20 rec20 = some o) (hH : ST E s n (zf n) M20 H locs) (hl : lv_has ls 10 [(0, .ref (eb E + t)), (1, i3 a1), (2, i3 a2), (3, i3 v3_2), (4, i3 v4_10), (5, i3 v5_20)]) : W p l e { frames := 1, cells := 0, slots := 0, locals := 22 } s m args below meth c H locs 0 0 (MQ below (QC E none n (zf n) o) args s 0 0 (fr E)) (F0 m 41 ls []) := by
  unfold fn_X11_laysRows_J41 at hf
  refine lv_lconst (v := Int64.ofInt 0) C.hx C.hb dX11_laysRows_41 (by decide) ?_
  exact j_X11_laysRows_42 C hn o_t h_rec20 hf hH (lv_sub hl [0, 1, 2, 3, 4, 5] rfl)
set_option maxRecDepth 100000 in
set_option maxHeartbeats 4000000 in
theorem l_X11_laysRows_20 {p : Program} {l : Launch} {e : Env} {s : State} {m : MethodId} {args : Array Value} {below : List Frame} {meth : Method} {c : Code} {E : EE} {n : Nat} {o : Mem} {t : Nat} {a1 : Int} {a2 : Int} {v3_2 : Int} {v4_10 : Int} {rec10 : Int → Mem → Option Mem} (C : Cx E p s m args meth c cX11_laysRows 10 RX11 none n "laysRows") (hn : nfull n) (o_t : ob n t 11) (h_rec10 : ∀ {v4_10 : Int} {M10 : Mem} {H : Heap} {locs : List Loc} {ls : Array Slot}, rec10 v4_10 M10 = some o → ST E s n (zf n) M10 H locs → lv_has ls 10 [(0, .ref (eb E + t)), (1, i3 a1), (2, i3 a2), (3, i3 v3_2), (4, i3 v4_10)] → W p l e { frames := 1, cells := 0, slots := 0, locals := 22 } s m args below meth c H locs 0 0 (MQ below (QC E none n (zf n) o) args s 0 0 (fr E)) (F0 m 10 ls [])) : ∀ (k : Nat) (v5_20 : Int) (M20 : Mem) (H : Heap) (locs : List Loc) (ls : Array Slot), lq2 (fn_X11_laysRows_L20 t a2 v3_2 v4_10 rec10) k v5_20 M20 = some o → ST E s n (zf n) M20 H locs → lv_has ls 10 [(0, .ref (eb E + t)), (1, i3 a1), (2, i3 a2), (3, i3 v3_2), (4, i3 v4_10), (5, i3 v5_20)] → W p l e { frames := 1, cells := 0, slots := 0, locals := 22 } s m args below meth c H locs 0 0 (MQ below (QC E none n (zf n) o) args s 0 0 (fr E)) (F0 m 20 ls []) := by
  intro k
  induction k with
  | zero => intro v5_20 M20 H locs ls hf; cases hf
  | succ k ih =>
    intro v5_20 M20 H locs ls hf hH hl
    have h_rec20 : ∀ {v5_20 : Int} {M20 : Mem} {H : Heap} {locs : List Loc} {ls : Array Slot}, lq2 (fn_X11_laysRows_L20 t a2 v3_2 v4_10 rec10) k v5_20 M20 = some o → ST E s n (zf n) M20 H locs → lv_has ls 10 [(0, .ref (eb E + t)), (1, i3 a1), (2, i3 a2), (3, i3 v3_2), (4, i3 v4_10), (5, i3 v5_20)] → W p l e { frames := 1, cells := 0, slots := 0, locals := 22 } s m args below meth c H locs 0 0 (MQ below (QC E none n (zf n) o) args s 0 0 (fr E)) (F0 m 20 ls []) := fun {v5_20} {M20} {H} {locs} {ls} a b c => ih v5_20 M20 H locs ls a b c
    replace hf : fn_X11_laysRows_L20 t a2 v3_2 v4_10 rec10 (lq2 (fn_X11_laysRows_L20 t a2 v3_2 v4_10 rec10) k) v5_20 M20 = some o := hf
    generalize lq2 (fn_X11_laysRows_L20 t a2 v3_2 v4_10 rec10) k = rec20 at hf h_rec20
    unfold fn_X11_laysRows_L20 at hf
    refine lv_iload C.hx C.hb dX11_laysRows_20 (lv_at hl 5 rfl) ?_
    refine lv_sipush (v := Int32.ofInt 361) C.hx C.hb dX11_laysRows_22 (by decide) ?_
    refine w_ge (tgt := 144) C hf dX11_laysRows_25 (by decide) (fun hf => ?_) (fun hf => ?_)
    · exact j_X11_laysRows_144 C hn o_t h_rec10 hf hH (lv_sub hl [0, 1, 2, 3, 4] rfl)
    · refine lv_iload_n C.hx C.hb dX11_laysRows_28 rfl (lv_at hl 3 rfl) ?_
      refine w_ne0 (tgt := 41) C hf dX11_laysRows_29 (by decide) (fun hf => ?_) (fun hf => ?_)
      · exact j_X11_laysRows_41 C hn o_t h_rec20 hf hH (lv_sub hl [0, 1, 2, 3, 4, 5] rfl)
      · refine lv_iload C.hx C.hb dX11_laysRows_32 (lv_at hl 5 rfl) ?_
        refine w_ne0 (tgt := 41) C hf dX11_laysRows_34 (by decide) (fun hf => ?_) (fun hf => ?_)
        · exact j_X11_laysRows_41 C hn o_t h_rec20 hf hH (lv_sub hl [0, 1, 2, 3, 4, 5] rfl)
        · refine lv_lconst (v := Int64.ofInt 1) C.hx C.hb dX11_laysRows_37 (by decide) ?_
          refine lv_goto (tgt := 42) C.hx C.hb dX11_laysRows_38 (by decide) ?_
          exact j_X11_laysRows_42 C hn o_t h_rec20 hf hH (lv_sub hl [0, 1, 2, 3, 4, 5] rfl)
set_option maxRecDepth 100000 in
set_option maxHeartbeats 4000000 in
theorem l_X11_laysRows_10 {p : Program} {l : Launch} {e : Env} {s : State} {m : MethodId} {args : Array Value} {below : List Frame} {meth : Method} {c : Code} {E : EE} {n : Nat} {o : Mem} {t : Nat} {a1 : Int} {a2 : Int} {v3_2 : Int} {rec2 : Int → Mem → Option Mem} (C : Cx E p s m args meth c cX11_laysRows 10 RX11 none n "laysRows") (hn : nfull n) (o_t : ob n t 11) (h_rec2 : ∀ {v3_2 : Int} {M2 : Mem} {H : Heap} {locs : List Loc} {ls : Array Slot}, rec2 v3_2 M2 = some o → ST E s n (zf n) M2 H locs → lv_has ls 10 [(0, .ref (eb E + t)), (1, i3 a1), (2, i3 a2), (3, i3 v3_2)] → W p l e { frames := 1, cells := 0, slots := 0, locals := 22 } s m args below meth c H locs 0 0 (MQ below (QC E none n (zf n) o) args s 0 0 (fr E)) (F0 m 2 ls [])) : ∀ (k : Nat) (v4_10 : Int) (M10 : Mem) (H : Heap) (locs : List Loc) (ls : Array Slot), lq2 (fn_X11_laysRows_L10 t a2 v3_2 rec2) k v4_10 M10 = some o → ST E s n (zf n) M10 H locs → lv_has ls 10 [(0, .ref (eb E + t)), (1, i3 a1), (2, i3 a2), (3, i3 v3_2), (4, i3 v4_10)] → W p l e { frames := 1, cells := 0, slots := 0, locals := 22 } s m args below meth c H locs 0 0 (MQ below (QC E none n (zf n) o) args s 0 0 (fr E)) (F0 m 10 ls []) := by
  intro k
  induction k with
  | zero => intro v4_10 M10 H locs ls hf; cases hf
  | succ k ih =>
    intro v4_10 M10 H locs ls hf hH hl
    have h_rec10 : ∀ {v4_10 : Int} {M10 : Mem} {H : Heap} {locs : List Loc} {ls : Array Slot}, lq2 (fn_X11_laysRows_L10 t a2 v3_2 rec2) k v4_10 M10 = some o → ST E s n (zf n) M10 H locs → lv_has ls 10 [(0, .ref (eb E + t)), (1, i3 a1), (2, i3 a2), (3, i3 v3_2), (4, i3 v4_10)] → W p l e { frames := 1, cells := 0, slots := 0, locals := 22 } s m args below meth c H locs 0 0 (MQ below (QC E none n (zf n) o) args s 0 0 (fr E)) (F0 m 10 ls []) := fun {v4_10} {M10} {H} {locs} {ls} a b c => ih v4_10 M10 H locs ls a b c
    replace hf : fn_X11_laysRows_L10 t a2 v3_2 rec2 (lq2 (fn_X11_laysRows_L10 t a2 v3_2 rec2) k) v4_10 M10 = some o := hf
    generalize lq2 (fn_X11_laysRows_L10 t a2 v3_2 rec2) k = rec10 at hf h_rec10
    unfold fn_X11_laysRows_L10 at hf
    refine lv_iload C.hx C.hb dX11_laysRows_10 (lv_at hl 4 rfl) ?_
    refine lv_bipush (v := Int32.ofInt 11) C.hx C.hb dX11_laysRows_12 (by decide) ?_
    refine w_ge (tgt := 150) C hf dX11_laysRows_14 (by decide) (fun hf => ?_) (fun hf => ?_)
    · exact j_X11_laysRows_150 C hn o_t h_rec2 hf hH (lv_sub hl [0, 1, 2, 3] rfl)
    · refine lv_iconst (v := Int32.ofInt 0) C.hx C.hb dX11_laysRows_17 rfl ?_
      refine lv_istore (lv' := [(5, i3 0), (0, .ref (eb E + t)), (1, i3 a1), (2, i3 a2), (3, i3 v3_2), (4, i3 v4_10)]) C.hx C.hb dX11_laysRows_18 hl (by decide) rfl (fun ls hl => ?_)
      exact l_X11_laysRows_20 C hn o_t h_rec10 FU _ _ _ _ _ hf hH (lv_sub hl [1, 2, 3, 4, 5, 0] rfl)
set_option maxRecDepth 100000 in
set_option maxHeartbeats 4000000 in
theorem l_X11_laysRows_2 {p : Program} {l : Launch} {e : Env} {s : State} {m : MethodId} {args : Array Value} {below : List Frame} {meth : Method} {c : Code} {E : EE} {n : Nat} {o : Mem} {t : Nat} {a1 : Int} {a2 : Int} (C : Cx E p s m args meth c cX11_laysRows 10 RX11 none n "laysRows") (hn : nfull n) (o_t : ob n t 11) : ∀ (k : Nat) (v3_2 : Int) (M2 : Mem) (H : Heap) (locs : List Loc) (ls : Array Slot), lq2 (fn_X11_laysRows_L2 t a1 a2) k v3_2 M2 = some o → ST E s n (zf n) M2 H locs → lv_has ls 10 [(0, .ref (eb E + t)), (1, i3 a1), (2, i3 a2), (3, i3 v3_2)] → W p l e { frames := 1, cells := 0, slots := 0, locals := 22 } s m args below meth c H locs 0 0 (MQ below (QC E none n (zf n) o) args s 0 0 (fr E)) (F0 m 2 ls []) := by
  intro k
  induction k with
  | zero => intro v3_2 M2 H locs ls hf; cases hf
  | succ k ih =>
    intro v3_2 M2 H locs ls hf hH hl
    have h_rec2 : ∀ {v3_2 : Int} {M2 : Mem} {H : Heap} {locs : List Loc} {ls : Array Slot}, lq2 (fn_X11_laysRows_L2 t a1 a2) k v3_2 M2 = some o → ST E s n (zf n) M2 H locs → lv_has ls 10 [(0, .ref (eb E + t)), (1, i3 a1), (2, i3 a2), (3, i3 v3_2)] → W p l e { frames := 1, cells := 0, slots := 0, locals := 22 } s m args below meth c H locs 0 0 (MQ below (QC E none n (zf n) o) args s 0 0 (fr E)) (F0 m 2 ls []) := fun {v3_2} {M2} {H} {locs} {ls} a b c => ih v3_2 M2 H locs ls a b c
    replace hf : fn_X11_laysRows_L2 t a1 a2 (lq2 (fn_X11_laysRows_L2 t a1 a2) k) v3_2 M2 = some o := hf
    generalize lq2 (fn_X11_laysRows_L2 t a1 a2) k = rec2 at hf h_rec2
    unfold fn_X11_laysRows_L2 at hf
    refine lv_iload_n C.hx C.hb dX11_laysRows_2 rfl (lv_at hl 3 rfl) ?_
    refine lv_iload_n C.hx C.hb dX11_laysRows_3 rfl (lv_at hl 1 rfl) ?_
    refine w_gt (tgt := 156) C hf dX11_laysRows_4 (by decide) (fun hf => ?_) (fun hf => ?_)
    · cases hf
      exact w_vret C hH dX11_laysRows_156
    · refine lv_iconst (v := Int32.ofInt 0) C.hx C.hb dX11_laysRows_7 rfl ?_
      refine lv_istore (lv' := [(4, i3 0), (0, .ref (eb E + t)), (1, i3 a1), (2, i3 a2), (3, i3 v3_2)]) C.hx C.hb dX11_laysRows_8 hl (by decide) rfl (fun ls hl => ?_)
      exact l_X11_laysRows_10 C hn o_t h_rec2 FU _ _ _ _ _ hf hH (lv_sub hl [1, 2, 3, 4, 0] rfl)
set_option maxRecDepth 100000 in
set_option maxHeartbeats 4000000 in
theorem m_X11_laysRows {E : EE} {l : Launch} {n : Nat} {t : Nat} {a1 : Int} {a2 : Int} {M : Mem} {o : Mem} (hn : nfull n) (o_t : ob n t 11) (hf : fn_X11_laysRows t a1 a2 M = some o) : CT E l yX11_laysRows cX11_laysRows 10 none 1 22 0 0 [.ref (eb E + t), i3 a1, i3 a2] n (zf n) M none n (zf n) o := by
  refine CT_of PN_RX11 (Nat.le_of_ble_eq_true rfl) ?_
  intro p e s m args below meth c C hH ls hl
  replace C : Cx E p s m args meth c cX11_laysRows 10 RX11 none n "laysRows" := C
  have hl : lv_has ls 10 [(0, .ref (eb E + t)), (1, i3 a1), (2, i3 a2)] := hl
  unfold fn_X11_laysRows at hf
  refine lv_iconst (v := Int32.ofInt 0) C.hx C.hb dX11_laysRows_0 rfl ?_
  refine lv_istore_n (lv' := [(3, i3 0), (0, .ref (eb E + t)), (1, i3 a1), (2, i3 a2)]) C.hx C.hb dX11_laysRows_1 rfl hl (by decide) rfl (fun ls hl => ?_)
  exact l_X11_laysRows_2 C hn o_t FU _ _ _ _ _ hf hH (lv_sub hl [1, 2, 3, 0] rfl)
-- HeavierByHandModel.rowsOf
def fn_X11_rowsOf_J56 (v6_13 : Int) (v4_13 : Int) (rec13 : Int → Int → Option Int) (u0_56 : Int) : Option Int :=
  nm ((v4_13 + u0_56)) fun v4_57 => nm (v6_13 + 1) fun v6_59 => rec13 v6_59 v4_57
def fn_X11_rowsOf_L13 (t : Nat) (a1 : Int) (a2 : Int) (a3 : Int) (M : Mem) (rec13 : Int → Int → Option Int) (v6_13 : Int) (v4_13 : Int) : Option Int :=
  rd M (t + 1) 288 4 fun x21 => cLt (a3 + x21) v6_13 (some v4_13) (cu (fn_X11_in v6_13 0 360 M) fun x34 => cEq x34 0 (fn_X11_rowsOf_J56 v6_13 v4_13 rec13 0) (cu (fn_X11_cell a1 a2 v6_13 M) fun x48 => rd M (t + 23) 51623 x48 fun x51 => fn_X11_rowsOf_J56 v6_13 v4_13 rec13 x51))
def fn_X11_rowsOf (t : Nat) (a1 : Int) (a2 : Int) (a3 : Int) (M : Mem) : Option Int :=
  rd M (t + 1) 288 4 fun x9 => nm ((a3 - x9)) fun v6_11 => lq2 (fn_X11_rowsOf_L13 t a1 a2 a3 M) FU v6_11 0
set_option maxRecDepth 100000 in
set_option maxHeartbeats 4000000 in
theorem j_X11_rowsOf_56 {p : Program} {l : Launch} {e : Env} {s : State} {m : MethodId} {args : Array Value} {below : List Frame} {meth : Method} {c : Code} {E : EE} {n : Nat} {o : Int} {t : Nat} {a1 : Int} {a2 : Int} {a3 : Int} {M : Mem} {v6_13 : Int} {v4_13 : Int} {rec13 : Int → Int → Option Int} {u0_56 : Int} {H : Heap} {locs : List Loc} {ls : Array Slot} (C : Cx E p s m args meth c cX11_rowsOf 7 RX11 (some .long) n "rowsOf") (hn : nfull n) (o_t : ob n t 11) (h_rec13 : ∀ {v6_13 : Int} {v4_13 : Int} {H : Heap} {locs : List Loc} {ls : Array Slot}, rec13 v6_13 v4_13 = some o → ST E s n (zf n) M H locs → lv_has ls 7 [(0, .ref (eb E + t)), (1, i3 a1), (2, i3 a2), (3, i3 a3), (4, l6 v4_13), (6, i3 v6_13)] → W p l e { frames := 1, cells := 0, slots := 0, locals := 22 } s m args below meth c H locs 0 0 (MQ below (QC E (some (l6 o)) n (zf n) M) args s 0 0 (fr E)) (F0 m 13 ls [])) (hf : fn_X11_rowsOf_J56 v6_13 v4_13 rec13 u0_56 = some o) (hH : ST E s n (zf n) M H locs) (hl : lv_has ls 7 [(0, .ref (eb E + t)), (1, i3 a1), (2, i3 a2), (3, i3 a3), (6, i3 v6_13)]) : W p l e { frames := 1, cells := 0, slots := 0, locals := 22 } s m args below meth c H locs 0 0 (MQ below (QC E (some (l6 o)) n (zf n) M) args s 0 0 (fr E)) (F0 m 56 ls [l6 u0_56, l6 v4_13]) := by
  unfold fn_X11_rowsOf_J56 at hf
  refine w_ladd C dX11_rowsOf_56 ?_
  refine r_nmL hf (fun v4_57 hf => ?_)
  refine lv_lstore (lv' := [(4, l6 v4_57), (0, .ref (eb E + t)), (1, i3 a1), (2, i3 a2), (3, i3 a3), (6, i3 v6_13)]) C.hx C.hb dX11_rowsOf_57 hl (by decide) rfl (fun ls hl => ?_)
  refine r_iinc (k := 5) (lv' := fun v => [(6, i3 v), (4, l6 v4_57), (0, .ref (eb E + t)), (1, i3 a1), (2, i3 a2), (3, i3 a3)]) C hf dX11_rowsOf_59 hl rfl (by decide) (fun _ => rfl) (fun v6_59 ls hf hl => ?_)
  refine lv_goto (tgt := 13) C.hx C.hb dX11_rowsOf_62 (by decide) ?_
  exact h_rec13 hf hH (lv_sub hl [2, 3, 4, 5, 1, 0] rfl)
set_option maxRecDepth 100000 in
set_option maxHeartbeats 4000000 in
theorem l_X11_rowsOf_13 {p : Program} {l : Launch} {e : Env} {s : State} {m : MethodId} {args : Array Value} {below : List Frame} {meth : Method} {c : Code} {E : EE} {n : Nat} {o : Int} {t : Nat} {a1 : Int} {a2 : Int} {a3 : Int} {M : Mem} (C : Cx E p s m args meth c cX11_rowsOf 7 RX11 (some .long) n "rowsOf") (hn : nfull n) (o_t : ob n t 11) : ∀ (k : Nat) (v6_13 : Int) (v4_13 : Int) (H : Heap) (locs : List Loc) (ls : Array Slot), lq2 (fn_X11_rowsOf_L13 t a1 a2 a3 M) k v6_13 v4_13 = some o → ST E s n (zf n) M H locs → lv_has ls 7 [(0, .ref (eb E + t)), (1, i3 a1), (2, i3 a2), (3, i3 a3), (4, l6 v4_13), (6, i3 v6_13)] → W p l e { frames := 1, cells := 0, slots := 0, locals := 22 } s m args below meth c H locs 0 0 (MQ below (QC E (some (l6 o)) n (zf n) M) args s 0 0 (fr E)) (F0 m 13 ls []) := by
  intro k
  induction k with
  | zero => intro v6_13 v4_13 H locs ls hf; cases hf
  | succ k ih =>
    intro v6_13 v4_13 H locs ls hf hH hl
    have h_rec13 : ∀ {v6_13 : Int} {v4_13 : Int} {H : Heap} {locs : List Loc} {ls : Array Slot}, lq2 (fn_X11_rowsOf_L13 t a1 a2 a3 M) k v6_13 v4_13 = some o → ST E s n (zf n) M H locs → lv_has ls 7 [(0, .ref (eb E + t)), (1, i3 a1), (2, i3 a2), (3, i3 a3), (4, l6 v4_13), (6, i3 v6_13)] → W p l e { frames := 1, cells := 0, slots := 0, locals := 22 } s m args below meth c H locs 0 0 (MQ below (QC E (some (l6 o)) n (zf n) M) args s 0 0 (fr E)) (F0 m 13 ls []) := fun {v6_13} {v4_13} {H} {locs} {ls} a b c => ih v6_13 v4_13 H locs ls a b c
    replace hf : fn_X11_rowsOf_L13 t a1 a2 a3 M (lq2 (fn_X11_rowsOf_L13 t a1 a2 a3 M) k) v6_13 v4_13 = some o := hf
    generalize lq2 (fn_X11_rowsOf_L13 t a1 a2 a3 M) k = rec13 at hf h_rec13
    unfold fn_X11_rowsOf_L13 at hf
    refine lv_iload C.hx C.hb dX11_rowsOf_13 (lv_at hl 5 rfl) ?_
    refine lv_iload_n C.hx C.hb dX11_rowsOf_15 rfl (lv_at hl 3 rfl) ?_
    refine lv_aload_n C.hx C.hb dX11_rowsOf_16 rfl (lv_at hl 0 rfl) ?_
    refine g_ref (off := 1) C hH o_t (by decide) rfl rfl FL_RX11_7 dX11_rowsOf_17 ?_
    refine lv_iconst (v := Int32.ofInt 4) C.hx C.hb dX11_rowsOf_20 rfl ?_
    refine r_iald C hH (ly (i := 0) (off := 1) (k := 12) hn o_t rfl rfl rfl) (lyn (i := 0) (off := 1) (N := 287) hn o_t rfl rfl rfl) hf dX11_rowsOf_21 (fun x21 hf => ?_)
    refine w_iadd C dX11_rowsOf_22 ?_
    refine w_gt (tgt := 65) C hf dX11_rowsOf_23 (by decide) (fun hf => ?_) (fun hf => ?_)
    · refine lv_lload C.hx C.hb dX11_rowsOf_65 (lv_at hl 4 rfl) ?_
      cases hf
      exact w_lret C hH dX11_rowsOf_67
    · refine lv_lload C.hx C.hb dX11_rowsOf_26 (lv_at hl 4 rfl) ?_
      refine lv_iload C.hx C.hb dX11_rowsOf_28 (lv_at hl 5 rfl) ?_
      refine lv_iconst (v := Int32.ofInt 0) C.hx C.hb dX11_rowsOf_30 rfl ?_
      refine lv_sipush (v := Int32.ofInt 360) C.hx C.hb dX11_rowsOf_31 (by decide) ?_
      obtain ⟨x34, hc9, hf⟩ := cu_of hf
      refine r_callSi (rest := [l6 v4_13]) C hH hl (m_X11_in hn hc9) ML_RX11_115 MF_X11_in MS_X11_in rfl rfl (Nat.le_of_ble_eq_true rfl) ⟨Nat.le_of_ble_eq_true rfl, Nat.le_of_ble_eq_true rfl⟩ ⟨Nat.le_refl _, Nat.le_refl _⟩ dX11_rowsOf_34 (fun H locs hH => ?_)
      refine w_eq0 (tgt := 55) C hf dX11_rowsOf_37 (by decide) (fun hf => ?_) (fun hf => ?_)
      · refine lv_lconst (v := Int64.ofInt 0) C.hx C.hb dX11_rowsOf_55 (by decide) ?_
        exact j_X11_rowsOf_56 C hn o_t h_rec13 hf hH (lv_sub hl [0, 1, 2, 3, 5] rfl)
      · refine lv_aload_n C.hx C.hb dX11_rowsOf_40 rfl (lv_at hl 0 rfl) ?_
        refine g_ref (off := 23) C hH o_t (by decide) rfl rfl FL_RX11_86 dX11_rowsOf_41 ?_
        refine lv_iload_n C.hx C.hb dX11_rowsOf_44 rfl (lv_at hl 1 rfl) ?_
        refine lv_iload_n C.hx C.hb dX11_rowsOf_45 rfl (lv_at hl 2 rfl) ?_
        refine lv_iload C.hx C.hb dX11_rowsOf_46 (lv_at hl 5 rfl) ?_
        obtain ⟨x48, hc9, hf⟩ := cu_of hf
        refine r_callSi (rest := [.ref (eb E + (t + 23)), l6 v4_13]) C hH hl (m_X11_cell hn hc9) ML_RX11_331 MF_X11_cell MS_X11_cell rfl rfl (Nat.le_of_ble_eq_true rfl) ⟨Nat.le_of_ble_eq_true rfl, Nat.le_of_ble_eq_true rfl⟩ ⟨Nat.le_refl _, Nat.le_refl _⟩ dX11_rowsOf_48 (fun H locs hH => ?_)
        refine r_lald C hH (ly (i := 39) (off := 23) (k := 15) hn o_t rfl rfl rfl) (lyn (i := 39) (off := 23) (N := 51622) hn o_t rfl rfl rfl) hf dX11_rowsOf_51 (fun x51 hf => ?_)
        refine lv_goto (tgt := 56) C.hx C.hb dX11_rowsOf_52 (by decide) ?_
        exact j_X11_rowsOf_56 C hn o_t h_rec13 hf hH (lv_sub hl [0, 1, 2, 3, 5] rfl)
set_option maxRecDepth 100000 in
set_option maxHeartbeats 4000000 in
theorem m_X11_rowsOf {E : EE} {l : Launch} {n : Nat} {t : Nat} {a1 : Int} {a2 : Int} {a3 : Int} {M : Mem} {o : Int} (hn : nfull n) (o_t : ob n t 11) (hf : fn_X11_rowsOf t a1 a2 a3 M = some o) : CT E l yX11_rowsOf cX11_rowsOf 7 (some .long) 1 22 0 0 [.ref (eb E + t), i3 a1, i3 a2, i3 a3] n (zf n) M (some (l6 o)) n (zf n) M := by
  refine CT_of PN_RX11 (Nat.le_of_ble_eq_true rfl) ?_
  intro p e s m args below meth c C hH ls hl
  replace C : Cx E p s m args meth c cX11_rowsOf 7 RX11 (some .long) n "rowsOf" := C
  have hl : lv_has ls 7 [(0, .ref (eb E + t)), (1, i3 a1), (2, i3 a2), (3, i3 a3)] := hl
  unfold fn_X11_rowsOf at hf
  refine lv_lconst (v := Int64.ofInt 0) C.hx C.hb dX11_rowsOf_0 (by decide) ?_
  refine lv_lstore (lv' := [(4, l6 0), (0, .ref (eb E + t)), (1, i3 a1), (2, i3 a2), (3, i3 a3)]) C.hx C.hb dX11_rowsOf_1 hl (by decide) rfl (fun ls hl => ?_)
  refine lv_iload_n C.hx C.hb dX11_rowsOf_3 rfl (lv_at hl 4 rfl) ?_
  refine lv_aload_n C.hx C.hb dX11_rowsOf_4 rfl (lv_at hl 1 rfl) ?_
  refine g_ref (off := 1) C hH o_t (by decide) rfl rfl FL_RX11_7 dX11_rowsOf_5 ?_
  refine lv_iconst (v := Int32.ofInt 4) C.hx C.hb dX11_rowsOf_8 rfl ?_
  refine r_iald C hH (ly (i := 0) (off := 1) (k := 12) hn o_t rfl rfl rfl) (lyn (i := 0) (off := 1) (N := 287) hn o_t rfl rfl rfl) hf dX11_rowsOf_9 (fun x9 hf => ?_)
  refine w_isub C dX11_rowsOf_10 ?_
  refine r_nm hf (fun v6_11 hf => ?_)
  refine lv_istore (lv' := [(6, i3 v6_11), (4, l6 0), (0, .ref (eb E + t)), (1, i3 a1), (2, i3 a2), (3, i3 a3)]) C.hx C.hb dX11_rowsOf_11 hl (by decide) rfl (fun ls hl => ?_)
  exact l_X11_rowsOf_13 C hn o_t FU _ _ _ _ _ hf hH (lv_sub hl [2, 3, 4, 5, 1, 0] rfl)
-- HeavierByHandModel.rowsAll
def fn_X11_rowsAll_L6 (t : Nat) (a1 : Int) (a2 : Int) (a4 : Int) (M : Mem) (rec6 : Int → Int → Option Int) (v7_6 : Int) (v5_6 : Int) : Option Int :=
  cLt a4 v7_6 (some v5_6) (cu (fn_X11_rowsOf t v7_6 a1 a2 M) fun x20 => nm ((v5_6 + x20)) fun v5_24 => nm (v7_6 + 1) fun v7_26 => rec6 v7_26 v5_24)
def fn_X11_rowsAll (t : Nat) (a1 : Int) (a2 : Int) (a3 : Int) (a4 : Int) (M : Mem) : Option Int :=
  lq2 (fn_X11_rowsAll_L6 t a1 a2 a4 M) FU a3 0
set_option maxRecDepth 100000 in
set_option maxHeartbeats 4000000 in
theorem l_X11_rowsAll_6 {p : Program} {l : Launch} {e : Env} {s : State} {m : MethodId} {args : Array Value} {below : List Frame} {meth : Method} {c : Code} {E : EE} {n : Nat} {o : Int} {t : Nat} {a1 : Int} {a2 : Int} {a4 : Int} {M : Mem} (C : Cx E p s m args meth c cX11_rowsAll 8 RX11 (some .long) n "rowsAll") (hn : nfull n) (o_t : ob n t 11) : ∀ (k : Nat) (v7_6 : Int) (v5_6 : Int) (H : Heap) (locs : List Loc) (ls : Array Slot), lq2 (fn_X11_rowsAll_L6 t a1 a2 a4 M) k v7_6 v5_6 = some o → ST E s n (zf n) M H locs → lv_has ls 8 [(0, .ref (eb E + t)), (1, i3 a1), (2, i3 a2), (4, i3 a4), (5, l6 v5_6), (7, i3 v7_6)] → W p l e { frames := 2, cells := 0, slots := 0, locals := 48 } s m args below meth c H locs 0 0 (MQ below (QC E (some (l6 o)) n (zf n) M) args s 0 0 (fr E)) (F0 m 6 ls []) := by
  intro k
  induction k with
  | zero => intro v7_6 v5_6 H locs ls hf; cases hf
  | succ k ih =>
    intro v7_6 v5_6 H locs ls hf hH hl
    have h_rec6 : ∀ {v7_6 : Int} {v5_6 : Int} {H : Heap} {locs : List Loc} {ls : Array Slot}, lq2 (fn_X11_rowsAll_L6 t a1 a2 a4 M) k v7_6 v5_6 = some o → ST E s n (zf n) M H locs → lv_has ls 8 [(0, .ref (eb E + t)), (1, i3 a1), (2, i3 a2), (4, i3 a4), (5, l6 v5_6), (7, i3 v7_6)] → W p l e { frames := 2, cells := 0, slots := 0, locals := 48 } s m args below meth c H locs 0 0 (MQ below (QC E (some (l6 o)) n (zf n) M) args s 0 0 (fr E)) (F0 m 6 ls []) := fun {v7_6} {v5_6} {H} {locs} {ls} a b c => ih v7_6 v5_6 H locs ls a b c
    replace hf : fn_X11_rowsAll_L6 t a1 a2 a4 M (lq2 (fn_X11_rowsAll_L6 t a1 a2 a4 M) k) v7_6 v5_6 = some o := hf
    generalize lq2 (fn_X11_rowsAll_L6 t a1 a2 a4 M) k = rec6 at hf h_rec6
    unfold fn_X11_rowsAll_L6 at hf
    refine lv_iload C.hx C.hb dX11_rowsAll_6 (lv_at hl 5 rfl) ?_
    refine lv_iload C.hx C.hb dX11_rowsAll_8 (lv_at hl 3 rfl) ?_
    refine w_gt (tgt := 32) C hf dX11_rowsAll_10 (by decide) (fun hf => ?_) (fun hf => ?_)
    · refine lv_lload C.hx C.hb dX11_rowsAll_32 (lv_at hl 4 rfl) ?_
      cases hf
      exact w_lret C hH dX11_rowsAll_34
    · refine lv_lload C.hx C.hb dX11_rowsAll_13 (lv_at hl 4 rfl) ?_
      refine lv_aload_n C.hx C.hb dX11_rowsAll_15 rfl (lv_at hl 0 rfl) ?_
      refine lv_iload C.hx C.hb dX11_rowsAll_16 (lv_at hl 5 rfl) ?_
      refine lv_iload_n C.hx C.hb dX11_rowsAll_18 rfl (lv_at hl 1 rfl) ?_
      refine lv_iload_n C.hx C.hb dX11_rowsAll_19 rfl (lv_at hl 2 rfl) ?_
      obtain ⟨x20, hc9, hf⟩ := cu_of hf
      refine r_callVi (rest := [l6 v5_6]) C hH hl o_t (by decide) rfl (m_X11_rowsOf hn o_t hc9) ML_RX11_335 MF_X11_rowsOf MI_X11_rowsOf rfl rfl (Nat.le_of_ble_eq_true rfl) ⟨Nat.le_of_ble_eq_true rfl, Nat.le_of_ble_eq_true rfl⟩ ⟨Nat.le_refl _, Nat.le_refl _⟩ dX11_rowsAll_20 (fun H locs hH => ?_)
      refine w_ladd C dX11_rowsAll_23 ?_
      refine r_nmL hf (fun v5_24 hf => ?_)
      refine lv_lstore (lv' := [(5, l6 v5_24), (0, .ref (eb E + t)), (1, i3 a1), (2, i3 a2), (4, i3 a4), (7, i3 v7_6)]) C.hx C.hb dX11_rowsAll_24 hl (by decide) rfl (fun ls hl => ?_)
      refine r_iinc (k := 5) (lv' := fun v => [(7, i3 v), (5, l6 v5_24), (0, .ref (eb E + t)), (1, i3 a1), (2, i3 a2), (4, i3 a4)]) C hf dX11_rowsAll_26 hl rfl (by decide) (fun _ => rfl) (fun v7_26 ls hf hl => ?_)
      refine lv_goto (tgt := 6) C.hx C.hb dX11_rowsAll_29 (by decide) ?_
      exact h_rec6 hf hH (lv_sub hl [2, 3, 4, 5, 1, 0] rfl)
set_option maxRecDepth 100000 in
set_option maxHeartbeats 4000000 in
theorem m_X11_rowsAll {E : EE} {l : Launch} {n : Nat} {t : Nat} {a1 : Int} {a2 : Int} {a3 : Int} {a4 : Int} {M : Mem} {o : Int} (hn : nfull n) (o_t : ob n t 11) (hf : fn_X11_rowsAll t a1 a2 a3 a4 M = some o) : CT E l yX11_rowsAll cX11_rowsAll 8 (some .long) 2 48 0 0 [.ref (eb E + t), i3 a1, i3 a2, i3 a3, i3 a4] n (zf n) M (some (l6 o)) n (zf n) M := by
  refine CT_of PN_RX11 (Nat.le_of_ble_eq_true rfl) ?_
  intro p e s m args below meth c C hH ls hl
  replace C : Cx E p s m args meth c cX11_rowsAll 8 RX11 (some .long) n "rowsAll" := C
  have hl : lv_has ls 8 [(0, .ref (eb E + t)), (1, i3 a1), (2, i3 a2), (3, i3 a3), (4, i3 a4)] := hl
  unfold fn_X11_rowsAll at hf
  refine lv_lconst (v := Int64.ofInt 0) C.hx C.hb dX11_rowsAll_0 (by decide) ?_
  refine lv_lstore (lv' := [(5, l6 0), (0, .ref (eb E + t)), (1, i3 a1), (2, i3 a2), (3, i3 a3), (4, i3 a4)]) C.hx C.hb dX11_rowsAll_1 hl (by decide) rfl (fun ls hl => ?_)
  refine lv_iload_n C.hx C.hb dX11_rowsAll_3 rfl (lv_at hl 4 rfl) ?_
  refine lv_istore (lv' := [(7, i3 a3), (5, l6 0), (0, .ref (eb E + t)), (1, i3 a1), (2, i3 a2), (3, i3 a3), (4, i3 a4)]) C.hx C.hb dX11_rowsAll_4 hl (by decide) rfl (fun ls hl => ?_)
  exact l_X11_rowsAll_6 C hn o_t FU _ _ _ _ _ hf hH (lv_sub hl [2, 3, 4, 6, 1, 0] rfl)
-- HeavierByHandModel.areRows
def fn_X11_areRows_J44 : Option Int :=
  some 0
def fn_X11_areRows (t : Nat) (a1 : Int) (a2 : Int) (a3 : Int) (a4 : Int) (M : Mem) : Option Int :=
  cu (fn_X11_isHand t a1 M) fun x2 => cEq x2 0 (fn_X11_areRows_J44) (cu (fn_X11_in a2 0 999 M) fun x13 => cEq x13 0 (fn_X11_areRows_J44) (cu (fn_X11_in a3 0 12 M) fun x23 => cEq x23 0 (fn_X11_areRows_J44) (cu (fn_X11_in a4 a3 12 M) fun x34 => cEq x34 0 (fn_X11_areRows_J44) (some 1))))
set_option maxRecDepth 100000 in
set_option maxHeartbeats 4000000 in
theorem j_X11_areRows_44 {p : Program} {l : Launch} {e : Env} {s : State} {m : MethodId} {args : Array Value} {below : List Frame} {meth : Method} {c : Code} {E : EE} {n : Nat} {o : Int} {M : Mem} {H : Heap} {locs : List Loc} {ls : Array Slot} (C : Cx E p s m args meth c cX11_areRows 5 RX11 (some .boolean) n "areRows") (hn : nfull n) (hf : fn_X11_areRows_J44 = some o) (hH : ST E s n (zf n) M H locs) (hl : lv_has ls 5 []) : W p l e { frames := 2, cells := 0, slots := 0, locals := 43 } s m args below meth c H locs 0 0 (MQ below (QC E (some (i3 o)) n (zf n) M) args s 0 0 (fr E)) (F0 m 44 ls []) := by
  unfold fn_X11_areRows_J44 at hf
  refine lv_iconst (v := Int32.ofInt 0) C.hx C.hb dX11_areRows_44 rfl ?_
  cases hf
  exact w_zret C hH (Or.inl rfl) dX11_areRows_45
set_option maxRecDepth 100000 in
set_option maxHeartbeats 4000000 in
theorem m_X11_areRows {E : EE} {l : Launch} {n : Nat} {t : Nat} {a1 : Int} {a2 : Int} {a3 : Int} {a4 : Int} {M : Mem} {o : Int} (hn : nfull n) (o_t : ob n t 11) (hf : fn_X11_areRows t a1 a2 a3 a4 M = some o) : CT E l yX11_areRows cX11_areRows 5 (some .boolean) 2 43 0 0 [.ref (eb E + t), i3 a1, i3 a2, i3 a3, i3 a4] n (zf n) M (some (i3 o)) n (zf n) M := by
  refine CT_of PN_RX11 (Nat.le_of_ble_eq_true rfl) ?_
  intro p e s m args below meth c C hH ls hl
  replace C : Cx E p s m args meth c cX11_areRows 5 RX11 (some .boolean) n "areRows" := C
  have hl : lv_has ls 5 [(0, .ref (eb E + t)), (1, i3 a1), (2, i3 a2), (3, i3 a3), (4, i3 a4)] := hl
  unfold fn_X11_areRows at hf
  refine lv_aload_n C.hx C.hb dX11_areRows_0 rfl (lv_at hl 0 rfl) ?_
  refine lv_iload_n C.hx C.hb dX11_areRows_1 rfl (lv_at hl 1 rfl) ?_
  obtain ⟨x2, hc9, hf⟩ := cu_of hf
  refine r_callVi (rest := []) C hH hl o_t (by decide) rfl (m_X11_isHand hn o_t hc9) ML_RX11_119 MF_X11_isHand MI_X11_isHand rfl rfl (Nat.le_of_ble_eq_true rfl) ⟨Nat.le_of_ble_eq_true rfl, Nat.le_of_ble_eq_true rfl⟩ ⟨Nat.le_refl _, Nat.le_refl _⟩ dX11_areRows_2 (fun H locs hH => ?_)
  refine w_eq0 (tgt := 44) C hf dX11_areRows_5 (by decide) (fun hf => ?_) (fun hf => ?_)
  · exact j_X11_areRows_44 C hn hf hH (lv_sub hl [] rfl)
  · refine lv_iload_n C.hx C.hb dX11_areRows_8 rfl (lv_at hl 2 rfl) ?_
    refine lv_iconst (v := Int32.ofInt 0) C.hx C.hb dX11_areRows_9 rfl ?_
    refine lv_sipush (v := Int32.ofInt 999) C.hx C.hb dX11_areRows_10 (by decide) ?_
    obtain ⟨x13, hc9, hf⟩ := cu_of hf
    refine r_callSi (rest := []) C hH hl (m_X11_in hn hc9) ML_RX11_115 MF_X11_in MS_X11_in rfl rfl (Nat.le_of_ble_eq_true rfl) ⟨Nat.le_of_ble_eq_true rfl, Nat.le_of_ble_eq_true rfl⟩ ⟨Nat.le_refl _, Nat.le_refl _⟩ dX11_areRows_13 (fun H locs hH => ?_)
    refine w_eq0 (tgt := 44) C hf dX11_areRows_16 (by decide) (fun hf => ?_) (fun hf => ?_)
    · exact j_X11_areRows_44 C hn hf hH (lv_sub hl [] rfl)
    · refine lv_iload_n C.hx C.hb dX11_areRows_19 rfl (lv_at hl 3 rfl) ?_
      refine lv_iconst (v := Int32.ofInt 0) C.hx C.hb dX11_areRows_20 rfl ?_
      refine lv_bipush (v := Int32.ofInt 12) C.hx C.hb dX11_areRows_21 (by decide) ?_
      obtain ⟨x23, hc9, hf⟩ := cu_of hf
      refine r_callSi (rest := []) C hH hl (m_X11_in hn hc9) ML_RX11_115 MF_X11_in MS_X11_in rfl rfl (Nat.le_of_ble_eq_true rfl) ⟨Nat.le_of_ble_eq_true rfl, Nat.le_of_ble_eq_true rfl⟩ ⟨Nat.le_refl _, Nat.le_refl _⟩ dX11_areRows_23 (fun H locs hH => ?_)
      refine w_eq0 (tgt := 44) C hf dX11_areRows_26 (by decide) (fun hf => ?_) (fun hf => ?_)
      · exact j_X11_areRows_44 C hn hf hH (lv_sub hl [] rfl)
      · refine lv_iload C.hx C.hb dX11_areRows_29 (lv_at hl 4 rfl) ?_
        refine lv_iload_n C.hx C.hb dX11_areRows_31 rfl (lv_at hl 3 rfl) ?_
        refine lv_bipush (v := Int32.ofInt 12) C.hx C.hb dX11_areRows_32 (by decide) ?_
        obtain ⟨x34, hc9, hf⟩ := cu_of hf
        refine r_callSi (rest := []) C hH hl (m_X11_in hn hc9) ML_RX11_115 MF_X11_in MS_X11_in rfl rfl (Nat.le_of_ble_eq_true rfl) ⟨Nat.le_of_ble_eq_true rfl, Nat.le_of_ble_eq_true rfl⟩ ⟨Nat.le_refl _, Nat.le_refl _⟩ dX11_areRows_34 (fun H locs hH => ?_)
        refine w_eq0 (tgt := 44) C hf dX11_areRows_37 (by decide) (fun hf => ?_) (fun hf => ?_)
        · exact j_X11_areRows_44 C hn hf hH (lv_sub hl [] rfl)
        · refine lv_iconst (v := Int32.ofInt 1) C.hx C.hb dX11_areRows_40 rfl ?_
          refine lv_goto (tgt := 45) C.hx C.hb dX11_areRows_41 (by decide) ?_
          cases hf
          exact w_zret C hH (Or.inr rfl) dX11_areRows_45
-- HeavierByHandModel.rows
def fn_X11_rows (t : Nat) (a1 : Int) (a2 : Int) (a3 : Int) (a4 : Int) (M : Mem) : Option (Int × Mem) :=
  cu (fn_X11_areRows t a1 a2 a3 a4 M) fun x6 => cEq x6 0 (some ((-1), M)) (cv (fn_X11_laysRows t a4 (-1) M) fun M20 => cu (fn_X11_rowsAll t a1 a2 a3 a4 M20) fun x29 => some (x29, M20))
set_option maxRecDepth 100000 in
set_option maxHeartbeats 4000000 in
theorem m_X11_rows {E : EE} {l : Launch} {n : Nat} {t : Nat} {a1 : Int} {a2 : Int} {a3 : Int} {a4 : Int} {M : Mem} {o : (Int × Mem)} (hn : nfull n) (o_t : ob n t 11) (hf : fn_X11_rows t a1 a2 a3 a4 M = some o) : CT E l yX11_rows cX11_rows 5 (some .long) 3 75 0 0 [.ref (eb E + t), i3 a1, i3 a2, i3 a3, i3 a4] n (zf n) M (some (l6 o.1)) n (zf n) o.2 := by
  refine CT_of PN_RX11 (Nat.le_of_ble_eq_true rfl) ?_
  intro p e s m args below meth c C hH ls hl
  replace C : Cx E p s m args meth c cX11_rows 5 RX11 (some .long) n "rows" := C
  have hl : lv_has ls 5 [(0, .ref (eb E + t)), (1, i3 a1), (2, i3 a2), (3, i3 a3), (4, i3 a4)] := hl
  unfold fn_X11_rows at hf
  refine lv_aload_n C.hx C.hb dX11_rows_0 rfl (lv_at hl 0 rfl) ?_
  refine lv_iload_n C.hx C.hb dX11_rows_1 rfl (lv_at hl 1 rfl) ?_
  refine lv_iload_n C.hx C.hb dX11_rows_2 rfl (lv_at hl 2 rfl) ?_
  refine lv_iload_n C.hx C.hb dX11_rows_3 rfl (lv_at hl 3 rfl) ?_
  refine lv_iload C.hx C.hb dX11_rows_4 (lv_at hl 4 rfl) ?_
  obtain ⟨x6, hc9, hf⟩ := cu_of hf
  refine r_callVi (rest := []) C hH hl o_t (by decide) rfl (m_X11_areRows hn o_t hc9) ML_RX11_339 MF_X11_areRows MI_X11_areRows rfl rfl (Nat.le_of_ble_eq_true rfl) ⟨Nat.le_of_ble_eq_true rfl, Nat.le_of_ble_eq_true rfl⟩ ⟨Nat.le_refl _, Nat.le_refl _⟩ dX11_rows_6 (fun H locs hH => ?_)
  refine w_ne0 (tgt := 16) C hf dX11_rows_9 (by decide) (fun hf => ?_) (fun hf => ?_)
  · refine lv_aload_n C.hx C.hb dX11_rows_16 rfl (lv_at hl 0 rfl) ?_
    refine lv_iload C.hx C.hb dX11_rows_17 (lv_at hl 4 rfl) ?_
    refine lv_iconst (v := Int32.ofInt (-1)) C.hx C.hb dX11_rows_19 rfl ?_
    obtain ⟨M20, hc9, hf⟩ := cv_of hf
    refine r_callVv (rest := []) C hH hl o_t (by decide) rfl (m_X11_laysRows hn o_t hc9) ML_RX11_345 MF_X11_laysRows MI_X11_laysRows rfl rfl (Nat.le_of_ble_eq_true rfl) ⟨Nat.le_of_ble_eq_true rfl, Nat.le_of_ble_eq_true rfl⟩ ⟨Nat.le_refl _, Nat.le_refl _⟩ dX11_rows_20 (fun H locs hH => ?_)
    refine lv_aload_n C.hx C.hb dX11_rows_23 rfl (lv_at hl 0 rfl) ?_
    refine lv_iload_n C.hx C.hb dX11_rows_24 rfl (lv_at hl 1 rfl) ?_
    refine lv_iload_n C.hx C.hb dX11_rows_25 rfl (lv_at hl 2 rfl) ?_
    refine lv_iload_n C.hx C.hb dX11_rows_26 rfl (lv_at hl 3 rfl) ?_
    refine lv_iload C.hx C.hb dX11_rows_27 (lv_at hl 4 rfl) ?_
    obtain ⟨x29, hc9, hf⟩ := cu_of hf
    refine r_callVi (rest := []) C hH hl o_t (by decide) rfl (m_X11_rowsAll hn o_t hc9) ML_RX11_348 MF_X11_rowsAll MI_X11_rowsAll rfl rfl (Nat.le_of_ble_eq_true rfl) ⟨Nat.le_of_ble_eq_true rfl, Nat.le_of_ble_eq_true rfl⟩ ⟨Nat.le_refl _, Nat.le_refl _⟩ dX11_rows_29 (fun H locs hH => ?_)
    cases hf
    exact w_lret C hH dX11_rows_32
  · refine r_ldc2 (x := (-1)) C KL_RX11_343 dX11_rows_12 ?_
    cases hf
    exact w_lret C hH dX11_rows_15
-- HeavierByHandModel.row
def fn_X11_row_J133 (v11_95 : Int) (rec95 : Int → Option (Int × Mem)) : Option (Int × Mem) :=
  nm (v11_95 + 1) fun v11_133 => rec95 v11_133
def fn_X11_row_L95 (t : Nat) (M24 : Mem) (v6_56 : Int) (v10_85 : Int) (v8_85 : Int) (v7_85 : Int) (rec85 : Int → Int → Int → Int → Option (Int × Mem)) (rec95 : Int → Option (Int × Mem)) (v11_95 : Int) : Option (Int × Mem) :=
  cEq v11_95 v7_85 (fn_X11_row_J133 v11_95 rec95) (rd M24 (t + 1) 288 (10 + v11_95) fun x123 => cu (fn_X11_rowsOf t ((v6_56 - 1) - v10_85) v11_95 (v8_85 - x123) M24) fun x125 => dEq x125 0 (fn_X11_row_J133 v11_95 rec95) (rd M24 (t + 1) 288 (10 + v11_95) fun x150 => nm ((v8_85 - x150)) fun v8_152 => nm (v10_85 + 1) fun v10_162 => rec85 v10_162 v11_95 v8_152 v11_95))
def fn_X11_row_L85 (t : Nat) (a5 : Int) (M24 : Mem) (v6_56 : Int) (rec85 : Int → Int → Int → Int → Option (Int × Mem)) (v10_85 : Int) (v9_85 : Int) (v8_85 : Int) (v7_85 : Int) : Option (Int × Mem) :=
  cLt a5 v10_85 (some (v9_85, M24)) (lq1 (fn_X11_row_L95 t M24 v6_56 v10_85 v8_85 v7_85 rec85) FU 0)
def fn_X11_row_J56 (t : Nat) (a1 : Int) (a2 : Int) (a4 : Int) (a5 : Int) (M24 : Mem) (v6_56 : Int) : Option (Int × Mem) :=
  cLt a4 v6_56 (some ((-1), M24)) (cLt a5 v6_56 (lq4 (fn_X11_row_L85 t a5 M24 v6_56) FU 0 v6_56 a2 a1) (some ((-1), M24)))
def fn_X11_row_L30 (t : Nat) (a1 : Int) (a2 : Int) (a4 : Int) (a5 : Int) (M24 : Mem) (rec30 : Int → Option (Int × Mem)) (v6_30 : Int) : Option (Int × Mem) :=
  cLt a4 v6_30 (fn_X11_row_J56 t a1 a2 a4 a5 M24 v6_30) (cu (fn_X11_rowsOf t v6_30 a1 a2 M24) fun x42 => dEq x42 0 (nm (v6_30 + 1) fun v6_50 => rec30 v6_50) (fn_X11_row_J56 t a1 a2 a4 a5 M24 v6_30))
def fn_X11_row (t : Nat) (a1 : Int) (a2 : Int) (a3 : Int) (a4 : Int) (a5 : Int) (M : Mem) : Option (Int × Mem) :=
  cu (fn_X11_areRows t a1 a2 a3 a4 M) fun x6 => cEq x6 0 (some ((-1), M)) (cLt a5 (-1) (some ((-1), M)) (cv (fn_X11_laysRows t a4 (-1) M) fun M24 => lq1 (fn_X11_row_L30 t a1 a2 a4 a5 M24) FU a3))
set_option maxRecDepth 100000 in
set_option maxHeartbeats 4000000 in
theorem j_X11_row_133 {p : Program} {l : Launch} {e : Env} {s : State} {m : MethodId} {args : Array Value} {below : List Frame} {meth : Method} {c : Code} {E : EE} {n : Nat} {o : (Int × Mem)} {t : Nat} {a5 : Int} {M24 : Mem} {v6_56 : Int} {v10_85 : Int} {v8_85 : Int} {v7_85 : Int} {v11_95 : Int} {rec95 : Int → Option (Int × Mem)} {H : Heap} {locs : List Loc} {ls : Array Slot} (C : Cx E p s m args meth c cX11_row 12 RX11 (some .int) n "row") (hn : nfull n) (o_t : ob n t 11) (h_rec95 : ∀ {v11_95 : Int} {H : Heap} {locs : List Loc} {ls : Array Slot}, rec95 v11_95 = some o → ST E s n (zf n) M24 H locs → lv_has ls 12 [(0, .ref (eb E + t)), (5, i3 a5), (6, i3 v6_56), (7, i3 v7_85), (8, i3 v8_85), (10, i3 v10_85), (11, i3 v11_95)] → W p l e { frames := 3, cells := 0, slots := 0, locals := 67 } s m args below meth c H locs 0 0 (MQ below (QC E (some (i3 o.1)) n (zf n) o.2) args s 0 0 (fr E)) (F0 m 95 ls [])) (hf : fn_X11_row_J133 v11_95 rec95 = some o) (hH : ST E s n (zf n) M24 H locs) (hl : lv_has ls 12 [(0, .ref (eb E + t)), (5, i3 a5), (6, i3 v6_56), (7, i3 v7_85), (8, i3 v8_85), (10, i3 v10_85), (11, i3 v11_95)]) : W p l e { frames := 3, cells := 0, slots := 0, locals := 67 } s m args below meth c H locs 0 0 (MQ below (QC E (some (i3 o.1)) n (zf n) o.2) args s 0 0 (fr E)) (F0 m 133 ls []) := by
  unfold fn_X11_row_J133 at hf
  refine r_iinc (k := 6) (lv' := fun v => [(11, i3 v), (0, .ref (eb E + t)), (5, i3 a5), (6, i3 v6_56), (7, i3 v7_85), (8, i3 v8_85), (10, i3 v10_85)]) C hf dX11_row_133 hl rfl (by decide) (fun _ => rfl) (fun v11_133 ls hf hl => ?_)
  refine lv_goto (tgt := 95) C.hx C.hb dX11_row_136 (by decide) ?_
  exact h_rec95 hf hH (lv_sub hl [1, 2, 3, 4, 5, 6, 0] rfl)
set_option maxRecDepth 100000 in
set_option maxHeartbeats 4000000 in
theorem l_X11_row_95 {p : Program} {l : Launch} {e : Env} {s : State} {m : MethodId} {args : Array Value} {below : List Frame} {meth : Method} {c : Code} {E : EE} {n : Nat} {o : (Int × Mem)} {t : Nat} {a5 : Int} {M24 : Mem} {v6_56 : Int} {v10_85 : Int} {v8_85 : Int} {v7_85 : Int} {rec85 : Int → Int → Int → Int → Option (Int × Mem)} (C : Cx E p s m args meth c cX11_row 12 RX11 (some .int) n "row") (hn : nfull n) (o_t : ob n t 11) (h_rec85 : ∀ {v10_85 : Int} {v9_85 : Int} {v8_85 : Int} {v7_85 : Int} {H : Heap} {locs : List Loc} {ls : Array Slot}, rec85 v10_85 v9_85 v8_85 v7_85 = some o → ST E s n (zf n) M24 H locs → lv_has ls 12 [(0, .ref (eb E + t)), (5, i3 a5), (6, i3 v6_56), (7, i3 v7_85), (8, i3 v8_85), (9, i3 v9_85), (10, i3 v10_85)] → W p l e { frames := 3, cells := 0, slots := 0, locals := 67 } s m args below meth c H locs 0 0 (MQ below (QC E (some (i3 o.1)) n (zf n) o.2) args s 0 0 (fr E)) (F0 m 85 ls [])) : ∀ (k : Nat) (v11_95 : Int) (H : Heap) (locs : List Loc) (ls : Array Slot), lq1 (fn_X11_row_L95 t M24 v6_56 v10_85 v8_85 v7_85 rec85) k v11_95 = some o → ST E s n (zf n) M24 H locs → lv_has ls 12 [(0, .ref (eb E + t)), (5, i3 a5), (6, i3 v6_56), (7, i3 v7_85), (8, i3 v8_85), (10, i3 v10_85), (11, i3 v11_95)] → W p l e { frames := 3, cells := 0, slots := 0, locals := 67 } s m args below meth c H locs 0 0 (MQ below (QC E (some (i3 o.1)) n (zf n) o.2) args s 0 0 (fr E)) (F0 m 95 ls []) := by
  intro k
  induction k with
  | zero => intro v11_95 H locs ls hf; cases hf
  | succ k ih =>
    intro v11_95 H locs ls hf hH hl
    have h_rec95 : ∀ {v11_95 : Int} {H : Heap} {locs : List Loc} {ls : Array Slot}, lq1 (fn_X11_row_L95 t M24 v6_56 v10_85 v8_85 v7_85 rec85) k v11_95 = some o → ST E s n (zf n) M24 H locs → lv_has ls 12 [(0, .ref (eb E + t)), (5, i3 a5), (6, i3 v6_56), (7, i3 v7_85), (8, i3 v8_85), (10, i3 v10_85), (11, i3 v11_95)] → W p l e { frames := 3, cells := 0, slots := 0, locals := 67 } s m args below meth c H locs 0 0 (MQ below (QC E (some (i3 o.1)) n (zf n) o.2) args s 0 0 (fr E)) (F0 m 95 ls []) := fun {v11_95} {H} {locs} {ls} a b c => ih v11_95 H locs ls a b c
    replace hf : fn_X11_row_L95 t M24 v6_56 v10_85 v8_85 v7_85 rec85 (lq1 (fn_X11_row_L95 t M24 v6_56 v10_85 v8_85 v7_85 rec85) k) v11_95 = some o := hf
    generalize lq1 (fn_X11_row_L95 t M24 v6_56 v10_85 v8_85 v7_85 rec85) k = rec95 at hf h_rec95
    unfold fn_X11_row_L95 at hf
    refine lv_iload C.hx C.hb dX11_row_95 (lv_at hl 6 rfl) ?_
    refine lv_iload C.hx C.hb dX11_row_97 (lv_at hl 3 rfl) ?_
    refine w_eq (tgt := 133) C hf dX11_row_99 (by decide) (fun hf => ?_) (fun hf => ?_)
    · exact j_X11_row_133 C hn o_t h_rec95 hf hH (lv_sub hl [0, 1, 2, 3, 4, 5, 6] rfl)
    · refine lv_aload_n C.hx C.hb dX11_row_102 rfl (lv_at hl 0 rfl) ?_
      refine lv_iload C.hx C.hb dX11_row_103 (lv_at hl 2 rfl) ?_
      refine lv_iconst (v := Int32.ofInt 1) C.hx C.hb dX11_row_105 rfl ?_
      refine w_isub C dX11_row_106 ?_
      refine lv_iload C.hx C.hb dX11_row_107 (lv_at hl 5 rfl) ?_
      refine w_isub C dX11_row_109 ?_
      refine lv_iload C.hx C.hb dX11_row_110 (lv_at hl 6 rfl) ?_
      refine lv_iload C.hx C.hb dX11_row_112 (lv_at hl 4 rfl) ?_
      refine lv_aload_n C.hx C.hb dX11_row_114 rfl (lv_at hl 0 rfl) ?_
      refine g_ref (off := 1) C hH o_t (by decide) rfl rfl FL_RX11_7 dX11_row_115 ?_
      refine lv_bipush (v := Int32.ofInt 10) C.hx C.hb dX11_row_118 (by decide) ?_
      refine lv_iload C.hx C.hb dX11_row_120 (lv_at hl 6 rfl) ?_
      refine w_iadd C dX11_row_122 ?_
      refine r_iald C hH (ly (i := 0) (off := 1) (k := 12) hn o_t rfl rfl rfl) (lyn (i := 0) (off := 1) (N := 287) hn o_t rfl rfl rfl) hf dX11_row_123 (fun x123 hf => ?_)
      refine w_isub C dX11_row_124 ?_
      obtain ⟨x125, hc9, hf⟩ := cu_of hf
      refine r_callVi (rest := []) C hH hl o_t (by decide) rfl (m_X11_rowsOf hn o_t hc9) ML_RX11_335 MF_X11_rowsOf MI_X11_rowsOf rfl rfl (Nat.le_of_ble_eq_true rfl) ⟨Nat.le_of_ble_eq_true rfl, Nat.le_of_ble_eq_true rfl⟩ ⟨Nat.le_refl _, Nat.le_refl _⟩ dX11_row_125 (fun H locs hH => ?_)
      refine lv_lconst (v := Int64.ofInt 0) C.hx C.hb dX11_row_128 (by decide) ?_
      refine w_lne (tgt := 139) C hf dX11_row_129 dX11_row_130 (by decide) (fun hf => ?_) (fun hf => ?_)
      · refine lv_iload C.hx C.hb dX11_row_139 (lv_at hl 4 rfl) ?_
        refine lv_aload_n C.hx C.hb dX11_row_141 rfl (lv_at hl 0 rfl) ?_
        refine g_ref (off := 1) C hH o_t (by decide) rfl rfl FL_RX11_7 dX11_row_142 ?_
        refine lv_bipush (v := Int32.ofInt 10) C.hx C.hb dX11_row_145 (by decide) ?_
        refine lv_iload C.hx C.hb dX11_row_147 (lv_at hl 6 rfl) ?_
        refine w_iadd C dX11_row_149 ?_
        refine r_iald C hH (ly (i := 0) (off := 1) (k := 12) hn o_t rfl rfl rfl) (lyn (i := 0) (off := 1) (N := 287) hn o_t rfl rfl rfl) hf dX11_row_150 (fun x150 hf => ?_)
        refine w_isub C dX11_row_151 ?_
        refine r_nm hf (fun v8_152 hf => ?_)
        refine lv_istore (lv' := [(8, i3 v8_152), (0, .ref (eb E + t)), (5, i3 a5), (6, i3 v6_56), (7, i3 v7_85), (10, i3 v10_85), (11, i3 v11_95)]) C.hx C.hb dX11_row_152 hl (by decide) rfl (fun ls hl => ?_)
        refine lv_iload C.hx C.hb dX11_row_154 (lv_at hl 6 rfl) ?_
        refine lv_istore (lv' := [(7, i3 v11_95), (8, i3 v8_152), (0, .ref (eb E + t)), (5, i3 a5), (6, i3 v6_56), (10, i3 v10_85), (11, i3 v11_95)]) C.hx C.hb dX11_row_156 hl (by decide) rfl (fun ls hl => ?_)
        refine lv_iload C.hx C.hb dX11_row_158 (lv_at hl 6 rfl) ?_
        refine lv_istore (lv' := [(9, i3 v11_95), (7, i3 v11_95), (8, i3 v8_152), (0, .ref (eb E + t)), (5, i3 a5), (6, i3 v6_56), (10, i3 v10_85), (11, i3 v11_95)]) C.hx C.hb dX11_row_160 hl (by decide) rfl (fun ls hl => ?_)
        refine r_iinc (k := 6) (lv' := fun v => [(10, i3 v), (9, i3 v11_95), (7, i3 v11_95), (8, i3 v8_152), (0, .ref (eb E + t)), (5, i3 a5), (6, i3 v6_56), (11, i3 v11_95)]) C hf dX11_row_162 hl rfl (by decide) (fun _ => rfl) (fun v10_162 ls hf hl => ?_)
        refine lv_goto (tgt := 85) C.hx C.hb dX11_row_165 (by decide) ?_
        exact h_rec85 hf hH (lv_sub hl [4, 5, 6, 2, 3, 1, 0] rfl)
      · exact j_X11_row_133 C hn o_t h_rec95 hf hH (lv_sub hl [0, 1, 2, 3, 4, 5, 6] rfl)
set_option maxRecDepth 100000 in
set_option maxHeartbeats 4000000 in
theorem l_X11_row_85 {p : Program} {l : Launch} {e : Env} {s : State} {m : MethodId} {args : Array Value} {below : List Frame} {meth : Method} {c : Code} {E : EE} {n : Nat} {o : (Int × Mem)} {t : Nat} {a5 : Int} {M24 : Mem} {v6_56 : Int} (C : Cx E p s m args meth c cX11_row 12 RX11 (some .int) n "row") (hn : nfull n) (o_t : ob n t 11) : ∀ (k : Nat) (v10_85 : Int) (v9_85 : Int) (v8_85 : Int) (v7_85 : Int) (H : Heap) (locs : List Loc) (ls : Array Slot), lq4 (fn_X11_row_L85 t a5 M24 v6_56) k v10_85 v9_85 v8_85 v7_85 = some o → ST E s n (zf n) M24 H locs → lv_has ls 12 [(0, .ref (eb E + t)), (5, i3 a5), (6, i3 v6_56), (7, i3 v7_85), (8, i3 v8_85), (9, i3 v9_85), (10, i3 v10_85)] → W p l e { frames := 3, cells := 0, slots := 0, locals := 67 } s m args below meth c H locs 0 0 (MQ below (QC E (some (i3 o.1)) n (zf n) o.2) args s 0 0 (fr E)) (F0 m 85 ls []) := by
  intro k
  induction k with
  | zero => intro v10_85 v9_85 v8_85 v7_85 H locs ls hf; cases hf
  | succ k ih =>
    intro v10_85 v9_85 v8_85 v7_85 H locs ls hf hH hl
    have h_rec85 : ∀ {v10_85 : Int} {v9_85 : Int} {v8_85 : Int} {v7_85 : Int} {H : Heap} {locs : List Loc} {ls : Array Slot}, lq4 (fn_X11_row_L85 t a5 M24 v6_56) k v10_85 v9_85 v8_85 v7_85 = some o → ST E s n (zf n) M24 H locs → lv_has ls 12 [(0, .ref (eb E + t)), (5, i3 a5), (6, i3 v6_56), (7, i3 v7_85), (8, i3 v8_85), (9, i3 v9_85), (10, i3 v10_85)] → W p l e { frames := 3, cells := 0, slots := 0, locals := 67 } s m args below meth c H locs 0 0 (MQ below (QC E (some (i3 o.1)) n (zf n) o.2) args s 0 0 (fr E)) (F0 m 85 ls []) := fun {v10_85} {v9_85} {v8_85} {v7_85} {H} {locs} {ls} a b c => ih v10_85 v9_85 v8_85 v7_85 H locs ls a b c
    replace hf : fn_X11_row_L85 t a5 M24 v6_56 (lq4 (fn_X11_row_L85 t a5 M24 v6_56) k) v10_85 v9_85 v8_85 v7_85 = some o := hf
    generalize lq4 (fn_X11_row_L85 t a5 M24 v6_56) k = rec85 at hf h_rec85
    unfold fn_X11_row_L85 at hf
    refine lv_iload C.hx C.hb dX11_row_85 (lv_at hl 6 rfl) ?_
    refine lv_iload C.hx C.hb dX11_row_87 (lv_at hl 1 rfl) ?_
    refine w_gt (tgt := 168) C hf dX11_row_89 (by decide) (fun hf => ?_) (fun hf => ?_)
    · refine lv_iload C.hx C.hb dX11_row_168 (lv_at hl 5 rfl) ?_
      cases hf
      exact w_iret C hH dX11_row_170
    · refine lv_iconst (v := Int32.ofInt 0) C.hx C.hb dX11_row_92 rfl ?_
      refine lv_istore (lv' := [(11, i3 0), (0, .ref (eb E + t)), (5, i3 a5), (6, i3 v6_56), (7, i3 v7_85), (8, i3 v8_85), (9, i3 v9_85), (10, i3 v10_85)]) C.hx C.hb dX11_row_93 hl (by decide) rfl (fun ls hl => ?_)
      exact l_X11_row_95 C hn o_t h_rec85 FU _ _ _ _ hf hH (lv_sub hl [1, 2, 3, 4, 5, 7, 0] rfl)
set_option maxRecDepth 100000 in
set_option maxHeartbeats 4000000 in
theorem j_X11_row_56 {p : Program} {l : Launch} {e : Env} {s : State} {m : MethodId} {args : Array Value} {below : List Frame} {meth : Method} {c : Code} {E : EE} {n : Nat} {o : (Int × Mem)} {t : Nat} {a1 : Int} {a2 : Int} {a4 : Int} {a5 : Int} {M24 : Mem} {v6_56 : Int} {H : Heap} {locs : List Loc} {ls : Array Slot} (C : Cx E p s m args meth c cX11_row 12 RX11 (some .int) n "row") (hn : nfull n) (o_t : ob n t 11) (hf : fn_X11_row_J56 t a1 a2 a4 a5 M24 v6_56 = some o) (hH : ST E s n (zf n) M24 H locs) (hl : lv_has ls 12 [(0, .ref (eb E + t)), (1, i3 a1), (2, i3 a2), (4, i3 a4), (5, i3 a5), (6, i3 v6_56)]) : W p l e { frames := 3, cells := 0, slots := 0, locals := 67 } s m args below meth c H locs 0 0 (MQ below (QC E (some (i3 o.1)) n (zf n) o.2) args s 0 0 (fr E)) (F0 m 56 ls []) := by
  unfold fn_X11_row_J56 at hf
  refine lv_iload C.hx C.hb dX11_row_56 (lv_at hl 5 rfl) ?_
  refine lv_iload C.hx C.hb dX11_row_58 (lv_at hl 3 rfl) ?_
  refine w_gt (tgt := 70) C hf dX11_row_60 (by decide) (fun hf => ?_) (fun hf => ?_)
  · refine lv_iconst (v := Int32.ofInt (-1)) C.hx C.hb dX11_row_70 rfl ?_
    cases hf
    exact w_iret C hH dX11_row_71
  · refine lv_iload C.hx C.hb dX11_row_63 (lv_at hl 4 rfl) ?_
    refine lv_iload C.hx C.hb dX11_row_65 (lv_at hl 5 rfl) ?_
    refine w_lt (tgt := 72) C hf dX11_row_67 (by decide) (fun hf => ?_) (fun hf => ?_)
    · refine lv_iload_n C.hx C.hb dX11_row_72 rfl (lv_at hl 1 rfl) ?_
      refine lv_istore (lv' := [(7, i3 a1), (0, .ref (eb E + t)), (1, i3 a1), (2, i3 a2), (4, i3 a4), (5, i3 a5), (6, i3 v6_56)]) C.hx C.hb dX11_row_73 hl (by decide) rfl (fun ls hl => ?_)
      refine lv_iload_n C.hx C.hb dX11_row_75 rfl (lv_at hl 3 rfl) ?_
      refine lv_istore (lv' := [(8, i3 a2), (7, i3 a1), (0, .ref (eb E + t)), (1, i3 a1), (2, i3 a2), (4, i3 a4), (5, i3 a5), (6, i3 v6_56)]) C.hx C.hb dX11_row_76 hl (by decide) rfl (fun ls hl => ?_)
      refine lv_iload C.hx C.hb dX11_row_78 (lv_at hl 7 rfl) ?_
      refine lv_istore (lv' := [(9, i3 v6_56), (8, i3 a2), (7, i3 a1), (0, .ref (eb E + t)), (1, i3 a1), (2, i3 a2), (4, i3 a4), (5, i3 a5), (6, i3 v6_56)]) C.hx C.hb dX11_row_80 hl (by decide) rfl (fun ls hl => ?_)
      refine lv_iconst (v := Int32.ofInt 0) C.hx C.hb dX11_row_82 rfl ?_
      refine lv_istore (lv' := [(10, i3 0), (9, i3 v6_56), (8, i3 a2), (7, i3 a1), (0, .ref (eb E + t)), (1, i3 a1), (2, i3 a2), (4, i3 a4), (5, i3 a5), (6, i3 v6_56)]) C.hx C.hb dX11_row_83 hl (by decide) rfl (fun ls hl => ?_)
      exact l_X11_row_85 C hn o_t FU _ _ _ _ _ _ _ hf hH (lv_sub hl [4, 8, 9, 3, 2, 1, 0] rfl)
    · refine lv_iconst (v := Int32.ofInt (-1)) C.hx C.hb dX11_row_70 rfl ?_
      cases hf
      exact w_iret C hH dX11_row_71
set_option maxRecDepth 100000 in
set_option maxHeartbeats 4000000 in
theorem l_X11_row_30 {p : Program} {l : Launch} {e : Env} {s : State} {m : MethodId} {args : Array Value} {below : List Frame} {meth : Method} {c : Code} {E : EE} {n : Nat} {o : (Int × Mem)} {t : Nat} {a1 : Int} {a2 : Int} {a4 : Int} {a5 : Int} {M24 : Mem} (C : Cx E p s m args meth c cX11_row 12 RX11 (some .int) n "row") (hn : nfull n) (o_t : ob n t 11) : ∀ (k : Nat) (v6_30 : Int) (H : Heap) (locs : List Loc) (ls : Array Slot), lq1 (fn_X11_row_L30 t a1 a2 a4 a5 M24) k v6_30 = some o → ST E s n (zf n) M24 H locs → lv_has ls 12 [(0, .ref (eb E + t)), (1, i3 a1), (2, i3 a2), (4, i3 a4), (5, i3 a5), (6, i3 v6_30)] → W p l e { frames := 3, cells := 0, slots := 0, locals := 67 } s m args below meth c H locs 0 0 (MQ below (QC E (some (i3 o.1)) n (zf n) o.2) args s 0 0 (fr E)) (F0 m 30 ls []) := by
  intro k
  induction k with
  | zero => intro v6_30 H locs ls hf; cases hf
  | succ k ih =>
    intro v6_30 H locs ls hf hH hl
    have h_rec30 : ∀ {v6_30 : Int} {H : Heap} {locs : List Loc} {ls : Array Slot}, lq1 (fn_X11_row_L30 t a1 a2 a4 a5 M24) k v6_30 = some o → ST E s n (zf n) M24 H locs → lv_has ls 12 [(0, .ref (eb E + t)), (1, i3 a1), (2, i3 a2), (4, i3 a4), (5, i3 a5), (6, i3 v6_30)] → W p l e { frames := 3, cells := 0, slots := 0, locals := 67 } s m args below meth c H locs 0 0 (MQ below (QC E (some (i3 o.1)) n (zf n) o.2) args s 0 0 (fr E)) (F0 m 30 ls []) := fun {v6_30} {H} {locs} {ls} a b c => ih v6_30 H locs ls a b c
    replace hf : fn_X11_row_L30 t a1 a2 a4 a5 M24 (lq1 (fn_X11_row_L30 t a1 a2 a4 a5 M24) k) v6_30 = some o := hf
    generalize lq1 (fn_X11_row_L30 t a1 a2 a4 a5 M24) k = rec30 at hf h_rec30
    unfold fn_X11_row_L30 at hf
    refine lv_iload C.hx C.hb dX11_row_30 (lv_at hl 5 rfl) ?_
    refine lv_iload C.hx C.hb dX11_row_32 (lv_at hl 3 rfl) ?_
    refine w_gt (tgt := 56) C hf dX11_row_34 (by decide) (fun hf => ?_) (fun hf => ?_)
    · exact j_X11_row_56 C hn o_t hf hH (lv_sub hl [0, 1, 2, 3, 4, 5] rfl)
    · refine lv_aload_n C.hx C.hb dX11_row_37 rfl (lv_at hl 0 rfl) ?_
      refine lv_iload C.hx C.hb dX11_row_38 (lv_at hl 5 rfl) ?_
      refine lv_iload_n C.hx C.hb dX11_row_40 rfl (lv_at hl 1 rfl) ?_
      refine lv_iload_n C.hx C.hb dX11_row_41 rfl (lv_at hl 2 rfl) ?_
      obtain ⟨x42, hc9, hf⟩ := cu_of hf
      refine r_callVi (rest := []) C hH hl o_t (by decide) rfl (m_X11_rowsOf hn o_t hc9) ML_RX11_335 MF_X11_rowsOf MI_X11_rowsOf rfl rfl (Nat.le_of_ble_eq_true rfl) ⟨Nat.le_of_ble_eq_true rfl, Nat.le_of_ble_eq_true rfl⟩ ⟨Nat.le_refl _, Nat.le_refl _⟩ dX11_row_42 (fun H locs hH => ?_)
      refine lv_lconst (v := Int64.ofInt 0) C.hx C.hb dX11_row_45 (by decide) ?_
      refine w_lne (tgt := 56) C hf dX11_row_46 dX11_row_47 (by decide) (fun hf => ?_) (fun hf => ?_)
      · exact j_X11_row_56 C hn o_t hf hH (lv_sub hl [0, 1, 2, 3, 4, 5] rfl)
      · refine r_iinc (k := 5) (lv' := fun v => [(6, i3 v), (0, .ref (eb E + t)), (1, i3 a1), (2, i3 a2), (4, i3 a4), (5, i3 a5)]) C hf dX11_row_50 hl rfl (by decide) (fun _ => rfl) (fun v6_50 ls hf hl => ?_)
        refine lv_goto (tgt := 30) C.hx C.hb dX11_row_53 (by decide) ?_
        exact h_rec30 hf hH (lv_sub hl [1, 2, 3, 4, 5, 0] rfl)
set_option maxRecDepth 100000 in
set_option maxHeartbeats 4000000 in
theorem m_X11_row {E : EE} {l : Launch} {n : Nat} {t : Nat} {a1 : Int} {a2 : Int} {a3 : Int} {a4 : Int} {a5 : Int} {M : Mem} {o : (Int × Mem)} (hn : nfull n) (o_t : ob n t 11) (hf : fn_X11_row t a1 a2 a3 a4 a5 M = some o) : CT E l yX11_row cX11_row 12 (some .int) 3 67 0 0 [.ref (eb E + t), i3 a1, i3 a2, i3 a3, i3 a4, i3 a5] n (zf n) M (some (i3 o.1)) n (zf n) o.2 := by
  refine CT_of PN_RX11 (Nat.le_of_ble_eq_true rfl) ?_
  intro p e s m args below meth c C hH ls hl
  replace C : Cx E p s m args meth c cX11_row 12 RX11 (some .int) n "row" := C
  have hl : lv_has ls 12 [(0, .ref (eb E + t)), (1, i3 a1), (2, i3 a2), (3, i3 a3), (4, i3 a4), (5, i3 a5)] := hl
  unfold fn_X11_row at hf
  refine lv_aload_n C.hx C.hb dX11_row_0 rfl (lv_at hl 0 rfl) ?_
  refine lv_iload_n C.hx C.hb dX11_row_1 rfl (lv_at hl 1 rfl) ?_
  refine lv_iload_n C.hx C.hb dX11_row_2 rfl (lv_at hl 2 rfl) ?_
  refine lv_iload_n C.hx C.hb dX11_row_3 rfl (lv_at hl 3 rfl) ?_
  refine lv_iload C.hx C.hb dX11_row_4 (lv_at hl 4 rfl) ?_
  obtain ⟨x6, hc9, hf⟩ := cu_of hf
  refine r_callVi (rest := []) C hH hl o_t (by decide) rfl (m_X11_areRows hn o_t hc9) ML_RX11_339 MF_X11_areRows MI_X11_areRows rfl rfl (Nat.le_of_ble_eq_true rfl) ⟨Nat.le_of_ble_eq_true rfl, Nat.le_of_ble_eq_true rfl⟩ ⟨Nat.le_refl _, Nat.le_refl _⟩ dX11_row_6 (fun H locs hH => ?_)
  refine w_eq0 (tgt := 18) C hf dX11_row_9 (by decide) (fun hf => ?_) (fun hf => ?_)
  · refine lv_iconst (v := Int32.ofInt (-1)) C.hx C.hb dX11_row_18 rfl ?_
    cases hf
    exact w_iret C hH dX11_row_19
  · refine lv_iload C.hx C.hb dX11_row_12 (lv_at hl 5 rfl) ?_
    refine lv_iconst (v := Int32.ofInt (-1)) C.hx C.hb dX11_row_14 rfl ?_
    refine w_ge (tgt := 20) C hf dX11_row_15 (by decide) (fun hf => ?_) (fun hf => ?_)
    · refine lv_aload_n C.hx C.hb dX11_row_20 rfl (lv_at hl 0 rfl) ?_
      refine lv_iload C.hx C.hb dX11_row_21 (lv_at hl 4 rfl) ?_
      refine lv_iconst (v := Int32.ofInt (-1)) C.hx C.hb dX11_row_23 rfl ?_
      obtain ⟨M24, hc9, hf⟩ := cv_of hf
      refine r_callVv (rest := []) C hH hl o_t (by decide) rfl (m_X11_laysRows hn o_t hc9) ML_RX11_345 MF_X11_laysRows MI_X11_laysRows rfl rfl (Nat.le_of_ble_eq_true rfl) ⟨Nat.le_of_ble_eq_true rfl, Nat.le_of_ble_eq_true rfl⟩ ⟨Nat.le_refl _, Nat.le_refl _⟩ dX11_row_24 (fun H locs hH => ?_)
      refine lv_iload_n C.hx C.hb dX11_row_27 rfl (lv_at hl 3 rfl) ?_
      refine lv_istore (lv' := [(6, i3 a3), (0, .ref (eb E + t)), (1, i3 a1), (2, i3 a2), (3, i3 a3), (4, i3 a4), (5, i3 a5)]) C.hx C.hb dX11_row_28 hl (by decide) rfl (fun ls hl => ?_)
      exact l_X11_row_30 C hn o_t FU _ _ _ _ hf hH (lv_sub hl [1, 2, 3, 5, 6, 0] rfl)
    · refine lv_iconst (v := Int32.ofInt (-1)) C.hx C.hb dX11_row_18 rfl ?_
      cases hf
      exact w_iret C hH dX11_row_19
-- HeavierByHandModel.among
def fn_X11_among_J127 (v9_38 : Int) (rec38 : Int → Int → Mem → Option (Int × Mem)) (M54 : Mem) (u0_127 : Int) : Option (Int × Mem) :=
  nm (v9_38 + 1) fun v9_129 => rec38 v9_129 u0_127 M54
def fn_X11_among_J108 (v9_38 : Int) (v8_38 : Int) (rec38 : Int → Int → Mem → Option (Int × Mem)) (M54 : Mem) (u0_108 : Int) : Option (Int × Mem) :=
  cEq u0_108 0 (fn_X11_among_J127 v9_38 rec38 M54 v8_38) (fn_X11_among_J127 v9_38 rec38 M54 (orI v8_38 (shlI 1 v9_38)))
def fn_X11_among_J107 (v9_38 : Int) (v8_38 : Int) (rec38 : Int → Int → Mem → Option (Int × Mem)) (M54 : Mem) : Option (Int × Mem) :=
  fn_X11_among_J108 v9_38 v8_38 rec38 M54 0
def fn_X11_among_L38 (t : Nat) (a1 : Int) (a2 : Int) (a3 : Int) (a4 : Int) (a5 : Int) (x27 : Int) (rec38 : Int → Int → Mem → Option (Int × Mem)) (v9_38 : Int) (v8_38 : Int) (M38 : Mem) : Option (Int × Mem) :=
  rd M38 (t + 1) 288 0 fun x45 => cLt v9_38 x45 (cv (fn_X11_laysRows t a4 v9_38 M38) fun M54 => cu (fn_X11_rowsAll t a1 a2 a3 a4 M54) fun x63 => cEq a5 0 (dEq x63 0 (dLt 0 x27 (fn_X11_among_J108 v9_38 v8_38 rec38 M54 1) (fn_X11_among_J107 v9_38 v8_38 rec38 M54)) (fn_X11_among_J107 v9_38 v8_38 rec38 M54)) (dLt x63 x27 (fn_X11_among_J108 v9_38 v8_38 rec38 M54 1) (fn_X11_among_J108 v9_38 v8_38 rec38 M54 0))) (some (v8_38, M38))
def fn_X11_among (t : Nat) (a1 : Int) (a2 : Int) (a3 : Int) (a4 : Int) (a5 : Int) (M : Mem) : Option (Int × Mem) :=
  cu (fn_X11_areRows t a1 a2 a3 a4 M) fun x6 => cEq x6 0 (some ((-1), M)) (cv (fn_X11_laysRows t a4 (-1) M) fun M18 => cu (fn_X11_rowsAll t a1 a2 a3 a4 M18) fun x27 => lq3 (fn_X11_among_L38 t a1 a2 a3 a4 a5 x27) FU 0 0 M18)
set_option maxRecDepth 100000 in
set_option maxHeartbeats 4000000 in
theorem j_X11_among_127 {p : Program} {l : Launch} {e : Env} {s : State} {m : MethodId} {args : Array Value} {below : List Frame} {meth : Method} {c : Code} {E : EE} {n : Nat} {o : (Int × Mem)} {t : Nat} {a1 : Int} {a2 : Int} {a3 : Int} {a4 : Int} {a5 : Int} {x27 : Int} {v9_38 : Int} {rec38 : Int → Int → Mem → Option (Int × Mem)} {M54 : Mem} {u0_127 : Int} {H : Heap} {locs : List Loc} {ls : Array Slot} (C : Cx E p s m args meth c cX11_among 13 RX11 (some .int) n "among") (hn : nfull n) (o_t : ob n t 11) (h_rec38 : ∀ {v9_38 : Int} {v8_38 : Int} {M38 : Mem} {H : Heap} {locs : List Loc} {ls : Array Slot}, rec38 v9_38 v8_38 M38 = some o → ST E s n (zf n) M38 H locs → lv_has ls 13 [(0, .ref (eb E + t)), (1, i3 a1), (2, i3 a2), (3, i3 a3), (4, i3 a4), (5, i3 a5), (6, l6 x27), (8, i3 v8_38), (9, i3 v9_38)] → W p l e { frames := 3, cells := 0, slots := 0, locals := 75 } s m args below meth c H locs 0 0 (MQ below (QC E (some (i3 o.1)) n (zf n) o.2) args s 0 0 (fr E)) (F0 m 38 ls [])) (hf : fn_X11_among_J127 v9_38 rec38 M54 u0_127 = some o) (hH : ST E s n (zf n) M54 H locs) (hl : lv_has ls 13 [(0, .ref (eb E + t)), (1, i3 a1), (2, i3 a2), (3, i3 a3), (4, i3 a4), (5, i3 a5), (6, l6 x27), (9, i3 v9_38)]) : W p l e { frames := 3, cells := 0, slots := 0, locals := 75 } s m args below meth c H locs 0 0 (MQ below (QC E (some (i3 o.1)) n (zf n) o.2) args s 0 0 (fr E)) (F0 m 127 ls [i3 u0_127]) := by
  unfold fn_X11_among_J127 at hf
  refine lv_istore (lv' := [(8, i3 u0_127), (0, .ref (eb E + t)), (1, i3 a1), (2, i3 a2), (3, i3 a3), (4, i3 a4), (5, i3 a5), (6, l6 x27), (9, i3 v9_38)]) C.hx C.hb dX11_among_127 hl (by decide) rfl (fun ls hl => ?_)
  refine r_iinc (k := 8) (lv' := fun v => [(9, i3 v), (8, i3 u0_127), (0, .ref (eb E + t)), (1, i3 a1), (2, i3 a2), (3, i3 a3), (4, i3 a4), (5, i3 a5), (6, l6 x27)]) C hf dX11_among_129 hl rfl (by decide) (fun _ => rfl) (fun v9_129 ls hf hl => ?_)
  refine lv_goto (tgt := 38) C.hx C.hb dX11_among_132 (by decide) ?_
  exact h_rec38 hf hH (lv_sub hl [2, 3, 4, 5, 6, 7, 8, 1, 0] rfl)
set_option maxRecDepth 100000 in
set_option maxHeartbeats 4000000 in
theorem j_X11_among_108 {p : Program} {l : Launch} {e : Env} {s : State} {m : MethodId} {args : Array Value} {below : List Frame} {meth : Method} {c : Code} {E : EE} {n : Nat} {o : (Int × Mem)} {t : Nat} {a1 : Int} {a2 : Int} {a3 : Int} {a4 : Int} {a5 : Int} {x27 : Int} {v9_38 : Int} {v8_38 : Int} {rec38 : Int → Int → Mem → Option (Int × Mem)} {M54 : Mem} {u0_108 : Int} {H : Heap} {locs : List Loc} {ls : Array Slot} (C : Cx E p s m args meth c cX11_among 13 RX11 (some .int) n "among") (hn : nfull n) (o_t : ob n t 11) (h_rec38 : ∀ {v9_38 : Int} {v8_38 : Int} {M38 : Mem} {H : Heap} {locs : List Loc} {ls : Array Slot}, rec38 v9_38 v8_38 M38 = some o → ST E s n (zf n) M38 H locs → lv_has ls 13 [(0, .ref (eb E + t)), (1, i3 a1), (2, i3 a2), (3, i3 a3), (4, i3 a4), (5, i3 a5), (6, l6 x27), (8, i3 v8_38), (9, i3 v9_38)] → W p l e { frames := 3, cells := 0, slots := 0, locals := 75 } s m args below meth c H locs 0 0 (MQ below (QC E (some (i3 o.1)) n (zf n) o.2) args s 0 0 (fr E)) (F0 m 38 ls [])) (hf : fn_X11_among_J108 v9_38 v8_38 rec38 M54 u0_108 = some o) (hH : ST E s n (zf n) M54 H locs) (hl : lv_has ls 13 [(0, .ref (eb E + t)), (1, i3 a1), (2, i3 a2), (3, i3 a3), (4, i3 a4), (5, i3 a5), (6, l6 x27), (8, i3 v8_38), (9, i3 v9_38)]) : W p l e { frames := 3, cells := 0, slots := 0, locals := 75 } s m args below meth c H locs 0 0 (MQ below (QC E (some (i3 o.1)) n (zf n) o.2) args s 0 0 (fr E)) (F0 m 108 ls [i3 u0_108]) := by
  unfold fn_X11_among_J108 at hf
  refine lv_istore (lv' := [(12, i3 u0_108), (0, .ref (eb E + t)), (1, i3 a1), (2, i3 a2), (3, i3 a3), (4, i3 a4), (5, i3 a5), (6, l6 x27), (8, i3 v8_38), (9, i3 v9_38)]) C.hx C.hb dX11_among_108 hl (by decide) rfl (fun ls hl => ?_)
  refine lv_iload C.hx C.hb dX11_among_110 (lv_at hl 0 rfl) ?_
  refine w_eq0 (tgt := 125) C hf dX11_among_112 (by decide) (fun hf => ?_) (fun hf => ?_)
  · refine lv_iload C.hx C.hb dX11_among_125 (lv_at hl 8 rfl) ?_
    exact j_X11_among_127 C hn o_t h_rec38 hf hH (lv_sub hl [1, 2, 3, 4, 5, 6, 7, 9] rfl)
  · refine lv_iload C.hx C.hb dX11_among_115 (lv_at hl 8 rfl) ?_
    refine lv_iconst (v := Int32.ofInt 1) C.hx C.hb dX11_among_117 rfl ?_
    refine lv_iload C.hx C.hb dX11_among_118 (lv_at hl 9 rfl) ?_
    refine w_ishl C dX11_among_120 ?_
    refine w_ior C dX11_among_121 ?_
    refine lv_goto (tgt := 127) C.hx C.hb dX11_among_122 (by decide) ?_
    exact j_X11_among_127 C hn o_t h_rec38 hf hH (lv_sub hl [1, 2, 3, 4, 5, 6, 7, 9] rfl)
set_option maxRecDepth 100000 in
set_option maxHeartbeats 4000000 in
theorem j_X11_among_107 {p : Program} {l : Launch} {e : Env} {s : State} {m : MethodId} {args : Array Value} {below : List Frame} {meth : Method} {c : Code} {E : EE} {n : Nat} {o : (Int × Mem)} {t : Nat} {a1 : Int} {a2 : Int} {a3 : Int} {a4 : Int} {a5 : Int} {x27 : Int} {v9_38 : Int} {v8_38 : Int} {rec38 : Int → Int → Mem → Option (Int × Mem)} {M54 : Mem} {H : Heap} {locs : List Loc} {ls : Array Slot} (C : Cx E p s m args meth c cX11_among 13 RX11 (some .int) n "among") (hn : nfull n) (o_t : ob n t 11) (h_rec38 : ∀ {v9_38 : Int} {v8_38 : Int} {M38 : Mem} {H : Heap} {locs : List Loc} {ls : Array Slot}, rec38 v9_38 v8_38 M38 = some o → ST E s n (zf n) M38 H locs → lv_has ls 13 [(0, .ref (eb E + t)), (1, i3 a1), (2, i3 a2), (3, i3 a3), (4, i3 a4), (5, i3 a5), (6, l6 x27), (8, i3 v8_38), (9, i3 v9_38)] → W p l e { frames := 3, cells := 0, slots := 0, locals := 75 } s m args below meth c H locs 0 0 (MQ below (QC E (some (i3 o.1)) n (zf n) o.2) args s 0 0 (fr E)) (F0 m 38 ls [])) (hf : fn_X11_among_J107 v9_38 v8_38 rec38 M54 = some o) (hH : ST E s n (zf n) M54 H locs) (hl : lv_has ls 13 [(0, .ref (eb E + t)), (1, i3 a1), (2, i3 a2), (3, i3 a3), (4, i3 a4), (5, i3 a5), (6, l6 x27), (8, i3 v8_38), (9, i3 v9_38)]) : W p l e { frames := 3, cells := 0, slots := 0, locals := 75 } s m args below meth c H locs 0 0 (MQ below (QC E (some (i3 o.1)) n (zf n) o.2) args s 0 0 (fr E)) (F0 m 107 ls []) := by
  unfold fn_X11_among_J107 at hf
  refine lv_iconst (v := Int32.ofInt 0) C.hx C.hb dX11_among_107 rfl ?_
  exact j_X11_among_108 C hn o_t h_rec38 hf hH (lv_sub hl [0, 1, 2, 3, 4, 5, 6, 7, 8] rfl)
set_option maxRecDepth 100000 in
set_option maxHeartbeats 4000000 in
theorem l_X11_among_38 {p : Program} {l : Launch} {e : Env} {s : State} {m : MethodId} {args : Array Value} {below : List Frame} {meth : Method} {c : Code} {E : EE} {n : Nat} {o : (Int × Mem)} {t : Nat} {a1 : Int} {a2 : Int} {a3 : Int} {a4 : Int} {a5 : Int} {x27 : Int} (C : Cx E p s m args meth c cX11_among 13 RX11 (some .int) n "among") (hn : nfull n) (o_t : ob n t 11) : ∀ (k : Nat) (v9_38 : Int) (v8_38 : Int) (M38 : Mem) (H : Heap) (locs : List Loc) (ls : Array Slot), lq3 (fn_X11_among_L38 t a1 a2 a3 a4 a5 x27) k v9_38 v8_38 M38 = some o → ST E s n (zf n) M38 H locs → lv_has ls 13 [(0, .ref (eb E + t)), (1, i3 a1), (2, i3 a2), (3, i3 a3), (4, i3 a4), (5, i3 a5), (6, l6 x27), (8, i3 v8_38), (9, i3 v9_38)] → W p l e { frames := 3, cells := 0, slots := 0, locals := 75 } s m args below meth c H locs 0 0 (MQ below (QC E (some (i3 o.1)) n (zf n) o.2) args s 0 0 (fr E)) (F0 m 38 ls []) := by
  intro k
  induction k with
  | zero => intro v9_38 v8_38 M38 H locs ls hf; cases hf
  | succ k ih =>
    intro v9_38 v8_38 M38 H locs ls hf hH hl
    have h_rec38 : ∀ {v9_38 : Int} {v8_38 : Int} {M38 : Mem} {H : Heap} {locs : List Loc} {ls : Array Slot}, lq3 (fn_X11_among_L38 t a1 a2 a3 a4 a5 x27) k v9_38 v8_38 M38 = some o → ST E s n (zf n) M38 H locs → lv_has ls 13 [(0, .ref (eb E + t)), (1, i3 a1), (2, i3 a2), (3, i3 a3), (4, i3 a4), (5, i3 a5), (6, l6 x27), (8, i3 v8_38), (9, i3 v9_38)] → W p l e { frames := 3, cells := 0, slots := 0, locals := 75 } s m args below meth c H locs 0 0 (MQ below (QC E (some (i3 o.1)) n (zf n) o.2) args s 0 0 (fr E)) (F0 m 38 ls []) := fun {v9_38} {v8_38} {M38} {H} {locs} {ls} a b c => ih v9_38 v8_38 M38 H locs ls a b c
    replace hf : fn_X11_among_L38 t a1 a2 a3 a4 a5 x27 (lq3 (fn_X11_among_L38 t a1 a2 a3 a4 a5 x27) k) v9_38 v8_38 M38 = some o := hf
    generalize lq3 (fn_X11_among_L38 t a1 a2 a3 a4 a5 x27) k = rec38 at hf h_rec38
    unfold fn_X11_among_L38 at hf
    refine lv_iload C.hx C.hb dX11_among_38 (lv_at hl 8 rfl) ?_
    refine lv_aload_n C.hx C.hb dX11_among_40 rfl (lv_at hl 0 rfl) ?_
    refine g_ref (off := 1) C hH o_t (by decide) rfl rfl FL_RX11_7 dX11_among_41 ?_
    refine lv_iconst (v := Int32.ofInt 0) C.hx C.hb dX11_among_44 rfl ?_
    refine r_iald C hH (ly (i := 0) (off := 1) (k := 12) hn o_t rfl rfl rfl) (lyn (i := 0) (off := 1) (N := 287) hn o_t rfl rfl rfl) hf dX11_among_45 (fun x45 hf => ?_)
    refine w_ge (tgt := 135) C hf dX11_among_46 (by decide) (fun hf => ?_) (fun hf => ?_)
    · refine lv_iload C.hx C.hb dX11_among_135 (lv_at hl 7 rfl) ?_
      cases hf
      exact w_iret C hH dX11_among_137
    · refine lv_aload_n C.hx C.hb dX11_among_49 rfl (lv_at hl 0 rfl) ?_
      refine lv_iload C.hx C.hb dX11_among_50 (lv_at hl 4 rfl) ?_
      refine lv_iload C.hx C.hb dX11_among_52 (lv_at hl 8 rfl) ?_
      obtain ⟨M54, hc9, hf⟩ := cv_of hf
      refine r_callVv (rest := []) C hH hl o_t (by decide) rfl (m_X11_laysRows hn o_t hc9) ML_RX11_345 MF_X11_laysRows MI_X11_laysRows rfl rfl (Nat.le_of_ble_eq_true rfl) ⟨Nat.le_of_ble_eq_true rfl, Nat.le_of_ble_eq_true rfl⟩ ⟨Nat.le_refl _, Nat.le_refl _⟩ dX11_among_54 (fun H locs hH => ?_)
      refine lv_aload_n C.hx C.hb dX11_among_57 rfl (lv_at hl 0 rfl) ?_
      refine lv_iload_n C.hx C.hb dX11_among_58 rfl (lv_at hl 1 rfl) ?_
      refine lv_iload_n C.hx C.hb dX11_among_59 rfl (lv_at hl 2 rfl) ?_
      refine lv_iload_n C.hx C.hb dX11_among_60 rfl (lv_at hl 3 rfl) ?_
      refine lv_iload C.hx C.hb dX11_among_61 (lv_at hl 4 rfl) ?_
      obtain ⟨x63, hc9, hf⟩ := cu_of hf
      refine r_callVi (rest := []) C hH hl o_t (by decide) rfl (m_X11_rowsAll hn o_t hc9) ML_RX11_348 MF_X11_rowsAll MI_X11_rowsAll rfl rfl (Nat.le_of_ble_eq_true rfl) ⟨Nat.le_of_ble_eq_true rfl, Nat.le_of_ble_eq_true rfl⟩ ⟨Nat.le_refl _, Nat.le_refl _⟩ dX11_among_63 (fun H locs hH => ?_)
      refine lv_lstore (lv' := [(10, l6 x63), (0, .ref (eb E + t)), (1, i3 a1), (2, i3 a2), (3, i3 a3), (4, i3 a4), (5, i3 a5), (6, l6 x27), (8, i3 v8_38), (9, i3 v9_38)]) C.hx C.hb dX11_among_66 hl (by decide) rfl (fun ls hl => ?_)
      refine lv_iload C.hx C.hb dX11_among_68 (lv_at hl 6 rfl) ?_
      refine w_eq0 (tgt := 89) C hf dX11_among_70 (by decide) (fun hf => ?_) (fun hf => ?_)
      · refine lv_lload C.hx C.hb dX11_among_89 (lv_at hl 0 rfl) ?_
        refine lv_lconst (v := Int64.ofInt 0) C.hx C.hb dX11_among_91 (by decide) ?_
        refine w_lne (tgt := 107) C hf dX11_among_92 dX11_among_93 (by decide) (fun hf => ?_) (fun hf => ?_)
        · exact j_X11_among_107 C hn o_t h_rec38 hf hH (lv_sub hl [1, 2, 3, 4, 5, 6, 7, 8, 9] rfl)
        · refine lv_lload C.hx C.hb dX11_among_96 (lv_at hl 7 rfl) ?_
          refine lv_lconst (v := Int64.ofInt 0) C.hx C.hb dX11_among_98 (by decide) ?_
          refine w_lle (tgt := 107) C hf dX11_among_99 dX11_among_100 (by decide) (fun hf => ?_) (fun hf => ?_)
          · exact j_X11_among_107 C hn o_t h_rec38 hf hH (lv_sub hl [1, 2, 3, 4, 5, 6, 7, 8, 9] rfl)
          · refine lv_iconst (v := Int32.ofInt 1) C.hx C.hb dX11_among_103 rfl ?_
            refine lv_goto (tgt := 108) C.hx C.hb dX11_among_104 (by decide) ?_
            exact j_X11_among_108 C hn o_t h_rec38 hf hH (lv_sub hl [1, 2, 3, 4, 5, 6, 7, 8, 9] rfl)
      · refine lv_lload C.hx C.hb dX11_among_73 (lv_at hl 0 rfl) ?_
        refine lv_lload C.hx C.hb dX11_among_75 (lv_at hl 7 rfl) ?_
        refine w_lge (tgt := 85) C hf dX11_among_77 dX11_among_78 (by decide) (fun hf => ?_) (fun hf => ?_)
        · refine lv_iconst (v := Int32.ofInt 0) C.hx C.hb dX11_among_85 rfl ?_
          refine lv_goto (tgt := 108) C.hx C.hb dX11_among_86 (by decide) ?_
          exact j_X11_among_108 C hn o_t h_rec38 hf hH (lv_sub hl [1, 2, 3, 4, 5, 6, 7, 8, 9] rfl)
        · refine lv_iconst (v := Int32.ofInt 1) C.hx C.hb dX11_among_81 rfl ?_
          refine lv_goto (tgt := 108) C.hx C.hb dX11_among_82 (by decide) ?_
          exact j_X11_among_108 C hn o_t h_rec38 hf hH (lv_sub hl [1, 2, 3, 4, 5, 6, 7, 8, 9] rfl)
set_option maxRecDepth 100000 in
set_option maxHeartbeats 4000000 in
theorem m_X11_among {E : EE} {l : Launch} {n : Nat} {t : Nat} {a1 : Int} {a2 : Int} {a3 : Int} {a4 : Int} {a5 : Int} {M : Mem} {o : (Int × Mem)} (hn : nfull n) (o_t : ob n t 11) (hf : fn_X11_among t a1 a2 a3 a4 a5 M = some o) : CT E l yX11_among cX11_among 13 (some .int) 3 75 0 0 [.ref (eb E + t), i3 a1, i3 a2, i3 a3, i3 a4, i3 a5] n (zf n) M (some (i3 o.1)) n (zf n) o.2 := by
  refine CT_of PN_RX11 (Nat.le_of_ble_eq_true rfl) ?_
  intro p e s m args below meth c C hH ls hl
  replace C : Cx E p s m args meth c cX11_among 13 RX11 (some .int) n "among" := C
  have hl : lv_has ls 13 [(0, .ref (eb E + t)), (1, i3 a1), (2, i3 a2), (3, i3 a3), (4, i3 a4), (5, i3 a5)] := hl
  unfold fn_X11_among at hf
  refine lv_aload_n C.hx C.hb dX11_among_0 rfl (lv_at hl 0 rfl) ?_
  refine lv_iload_n C.hx C.hb dX11_among_1 rfl (lv_at hl 1 rfl) ?_
  refine lv_iload_n C.hx C.hb dX11_among_2 rfl (lv_at hl 2 rfl) ?_
  refine lv_iload_n C.hx C.hb dX11_among_3 rfl (lv_at hl 3 rfl) ?_
  refine lv_iload C.hx C.hb dX11_among_4 (lv_at hl 4 rfl) ?_
  obtain ⟨x6, hc9, hf⟩ := cu_of hf
  refine r_callVi (rest := []) C hH hl o_t (by decide) rfl (m_X11_areRows hn o_t hc9) ML_RX11_339 MF_X11_areRows MI_X11_areRows rfl rfl (Nat.le_of_ble_eq_true rfl) ⟨Nat.le_of_ble_eq_true rfl, Nat.le_of_ble_eq_true rfl⟩ ⟨Nat.le_refl _, Nat.le_refl _⟩ dX11_among_6 (fun H locs hH => ?_)
  refine w_ne0 (tgt := 14) C hf dX11_among_9 (by decide) (fun hf => ?_) (fun hf => ?_)
  · refine lv_aload_n C.hx C.hb dX11_among_14 rfl (lv_at hl 0 rfl) ?_
    refine lv_iload C.hx C.hb dX11_among_15 (lv_at hl 4 rfl) ?_
    refine lv_iconst (v := Int32.ofInt (-1)) C.hx C.hb dX11_among_17 rfl ?_
    obtain ⟨M18, hc9, hf⟩ := cv_of hf
    refine r_callVv (rest := []) C hH hl o_t (by decide) rfl (m_X11_laysRows hn o_t hc9) ML_RX11_345 MF_X11_laysRows MI_X11_laysRows rfl rfl (Nat.le_of_ble_eq_true rfl) ⟨Nat.le_of_ble_eq_true rfl, Nat.le_of_ble_eq_true rfl⟩ ⟨Nat.le_refl _, Nat.le_refl _⟩ dX11_among_18 (fun H locs hH => ?_)
    refine lv_aload_n C.hx C.hb dX11_among_21 rfl (lv_at hl 0 rfl) ?_
    refine lv_iload_n C.hx C.hb dX11_among_22 rfl (lv_at hl 1 rfl) ?_
    refine lv_iload_n C.hx C.hb dX11_among_23 rfl (lv_at hl 2 rfl) ?_
    refine lv_iload_n C.hx C.hb dX11_among_24 rfl (lv_at hl 3 rfl) ?_
    refine lv_iload C.hx C.hb dX11_among_25 (lv_at hl 4 rfl) ?_
    obtain ⟨x27, hc9, hf⟩ := cu_of hf
    refine r_callVi (rest := []) C hH hl o_t (by decide) rfl (m_X11_rowsAll hn o_t hc9) ML_RX11_348 MF_X11_rowsAll MI_X11_rowsAll rfl rfl (Nat.le_of_ble_eq_true rfl) ⟨Nat.le_of_ble_eq_true rfl, Nat.le_of_ble_eq_true rfl⟩ ⟨Nat.le_refl _, Nat.le_refl _⟩ dX11_among_27 (fun H locs hH => ?_)
    refine lv_lstore (lv' := [(6, l6 x27), (0, .ref (eb E + t)), (1, i3 a1), (2, i3 a2), (3, i3 a3), (4, i3 a4), (5, i3 a5)]) C.hx C.hb dX11_among_30 hl (by decide) rfl (fun ls hl => ?_)
    refine lv_iconst (v := Int32.ofInt 0) C.hx C.hb dX11_among_32 rfl ?_
    refine lv_istore (lv' := [(8, i3 0), (6, l6 x27), (0, .ref (eb E + t)), (1, i3 a1), (2, i3 a2), (3, i3 a3), (4, i3 a4), (5, i3 a5)]) C.hx C.hb dX11_among_33 hl (by decide) rfl (fun ls hl => ?_)
    refine lv_iconst (v := Int32.ofInt 0) C.hx C.hb dX11_among_35 rfl ?_
    refine lv_istore (lv' := [(9, i3 0), (8, i3 0), (6, l6 x27), (0, .ref (eb E + t)), (1, i3 a1), (2, i3 a2), (3, i3 a3), (4, i3 a4), (5, i3 a5)]) C.hx C.hb dX11_among_36 hl (by decide) rfl (fun ls hl => ?_)
    exact l_X11_among_38 C hn o_t FU _ _ _ _ _ _ hf hH (lv_sub hl [3, 4, 5, 6, 7, 8, 2, 1, 0] rfl)
  · refine lv_iconst (v := Int32.ofInt (-1)) C.hx C.hb dX11_among_12 rfl ?_
    cases hf
    exact w_iret C hH dX11_among_13
-- HeavierByHandModel.mustWash
def fn_X11_mustWash_J66 (M18 : Mem) (v3_66 : Int) : Option (Int × Mem) :=
  dLt 0 v3_66 (some (0, M18)) (some (1, M18))
def fn_X11_mustWash_L26 (t : Nat) (a1 : Int) (x3 : Int) (M18 : Mem) (rec26 : Int → Int → Option (Int × Mem)) (v5_26 : Int) (v3_26 : Int) : Option (Int × Mem) :=
  rd M18 (t + 1) 288 0 fun x33 => cLt v5_26 x33 (cu (fn_X11_coinOf t a1 1 M18) fun x45 => cu (fn_X11_coinOf t a1 0 M18) fun x51 => cu (fn_X11_rowsOf t x3 v5_26 (x45 - x51) M18) fun x55 => nm ((v3_26 + x55)) fun v3_59 => nm (v5_26 + 1) fun v5_60 => rec26 v5_60 v3_59) (fn_X11_mustWash_J66 M18 v3_26)
def fn_X11_mustWash (t : Nat) (a1 : Int) (M : Mem) : Option (Int × Mem) :=
  cu (fn_X11_coinOf t a1 3 M) fun x3 => cLt 12 x3 (some ((-1), M)) (cv (fn_X11_laysRows t x3 (-1) M) fun M18 => lq2 (fn_X11_mustWash_L26 t a1 x3 M18) FU 0 0)
set_option maxRecDepth 100000 in
set_option maxHeartbeats 4000000 in
theorem j_X11_mustWash_66 {p : Program} {l : Launch} {e : Env} {s : State} {m : MethodId} {args : Array Value} {below : List Frame} {meth : Method} {c : Code} {E : EE} {n : Nat} {o : (Int × Mem)} {M18 : Mem} {v3_66 : Int} {H : Heap} {locs : List Loc} {ls : Array Slot} (C : Cx E p s m args meth c cX11_mustWash 6 RX11 (some .int) n "mustWash") (hn : nfull n) (hf : fn_X11_mustWash_J66 M18 v3_66 = some o) (hH : ST E s n (zf n) M18 H locs) (hl : lv_has ls 6 [(3, l6 v3_66)]) : W p l e { frames := 2, cells := 0, slots := 0, locals := 51 } s m args below meth c H locs 0 0 (MQ below (QC E (some (i3 o.1)) n (zf n) o.2) args s 0 0 (fr E)) (F0 m 66 ls []) := by
  unfold fn_X11_mustWash_J66 at hf
  refine lv_lload_n C.hx C.hb dX11_mustWash_66 rfl (lv_at hl 0 rfl) ?_
  refine lv_lconst (v := Int64.ofInt 0) C.hx C.hb dX11_mustWash_67 (by decide) ?_
  refine w_lle (tgt := 76) C hf dX11_mustWash_68 dX11_mustWash_69 (by decide) (fun hf => ?_) (fun hf => ?_)
  · refine lv_iconst (v := Int32.ofInt 1) C.hx C.hb dX11_mustWash_76 rfl ?_
    cases hf
    exact w_iret C hH dX11_mustWash_77
  · refine lv_iconst (v := Int32.ofInt 0) C.hx C.hb dX11_mustWash_72 rfl ?_
    refine lv_goto (tgt := 77) C.hx C.hb dX11_mustWash_73 (by decide) ?_
    cases hf
    exact w_iret C hH dX11_mustWash_77
set_option maxRecDepth 100000 in
set_option maxHeartbeats 4000000 in
theorem l_X11_mustWash_26 {p : Program} {l : Launch} {e : Env} {s : State} {m : MethodId} {args : Array Value} {below : List Frame} {meth : Method} {c : Code} {E : EE} {n : Nat} {o : (Int × Mem)} {t : Nat} {a1 : Int} {x3 : Int} {M18 : Mem} (C : Cx E p s m args meth c cX11_mustWash 6 RX11 (some .int) n "mustWash") (hn : nfull n) (o_t : ob n t 11) : ∀ (k : Nat) (v5_26 : Int) (v3_26 : Int) (H : Heap) (locs : List Loc) (ls : Array Slot), lq2 (fn_X11_mustWash_L26 t a1 x3 M18) k v5_26 v3_26 = some o → ST E s n (zf n) M18 H locs → lv_has ls 6 [(0, .ref (eb E + t)), (1, i3 a1), (2, i3 x3), (3, l6 v3_26), (5, i3 v5_26)] → W p l e { frames := 2, cells := 0, slots := 0, locals := 51 } s m args below meth c H locs 0 0 (MQ below (QC E (some (i3 o.1)) n (zf n) o.2) args s 0 0 (fr E)) (F0 m 26 ls []) := by
  intro k
  induction k with
  | zero => intro v5_26 v3_26 H locs ls hf; cases hf
  | succ k ih =>
    intro v5_26 v3_26 H locs ls hf hH hl
    have h_rec26 : ∀ {v5_26 : Int} {v3_26 : Int} {H : Heap} {locs : List Loc} {ls : Array Slot}, lq2 (fn_X11_mustWash_L26 t a1 x3 M18) k v5_26 v3_26 = some o → ST E s n (zf n) M18 H locs → lv_has ls 6 [(0, .ref (eb E + t)), (1, i3 a1), (2, i3 x3), (3, l6 v3_26), (5, i3 v5_26)] → W p l e { frames := 2, cells := 0, slots := 0, locals := 51 } s m args below meth c H locs 0 0 (MQ below (QC E (some (i3 o.1)) n (zf n) o.2) args s 0 0 (fr E)) (F0 m 26 ls []) := fun {v5_26} {v3_26} {H} {locs} {ls} a b c => ih v5_26 v3_26 H locs ls a b c
    replace hf : fn_X11_mustWash_L26 t a1 x3 M18 (lq2 (fn_X11_mustWash_L26 t a1 x3 M18) k) v5_26 v3_26 = some o := hf
    generalize lq2 (fn_X11_mustWash_L26 t a1 x3 M18) k = rec26 at hf h_rec26
    unfold fn_X11_mustWash_L26 at hf
    refine lv_iload C.hx C.hb dX11_mustWash_26 (lv_at hl 4 rfl) ?_
    refine lv_aload_n C.hx C.hb dX11_mustWash_28 rfl (lv_at hl 0 rfl) ?_
    refine g_ref (off := 1) C hH o_t (by decide) rfl rfl FL_RX11_7 dX11_mustWash_29 ?_
    refine lv_iconst (v := Int32.ofInt 0) C.hx C.hb dX11_mustWash_32 rfl ?_
    refine r_iald C hH (ly (i := 0) (off := 1) (k := 12) hn o_t rfl rfl rfl) (lyn (i := 0) (off := 1) (N := 287) hn o_t rfl rfl rfl) hf dX11_mustWash_33 (fun x33 hf => ?_)
    refine w_ge (tgt := 66) C hf dX11_mustWash_34 (by decide) (fun hf => ?_) (fun hf => ?_)
    · exact j_X11_mustWash_66 C hn hf hH (lv_sub hl [3] rfl)
    · refine lv_lload_n C.hx C.hb dX11_mustWash_37 rfl (lv_at hl 3 rfl) ?_
      refine lv_aload_n C.hx C.hb dX11_mustWash_38 rfl (lv_at hl 0 rfl) ?_
      refine lv_iload_n C.hx C.hb dX11_mustWash_39 rfl (lv_at hl 2 rfl) ?_
      refine lv_iload C.hx C.hb dX11_mustWash_40 (lv_at hl 4 rfl) ?_
      refine lv_aload_n C.hx C.hb dX11_mustWash_42 rfl (lv_at hl 0 rfl) ?_
      refine lv_iload_n C.hx C.hb dX11_mustWash_43 rfl (lv_at hl 1 rfl) ?_
      refine lv_iconst (v := Int32.ofInt 1) C.hx C.hb dX11_mustWash_44 rfl ?_
      obtain ⟨x45, hc9, hf⟩ := cu_of hf
      refine r_callVi (rest := [i3 v5_26, i3 x3, .ref (eb E + t), l6 v3_26]) C hH hl o_t (by decide) rfl (m_X11_coinOf hn o_t hc9) ML_RX11_300 MF_X11_coinOf MI_X11_coinOf rfl rfl (Nat.le_of_ble_eq_true rfl) ⟨Nat.le_of_ble_eq_true rfl, Nat.le_of_ble_eq_true rfl⟩ ⟨Nat.le_refl _, Nat.le_refl _⟩ dX11_mustWash_45 (fun H locs hH => ?_)
      refine lv_aload_n C.hx C.hb dX11_mustWash_48 rfl (lv_at hl 0 rfl) ?_
      refine lv_iload_n C.hx C.hb dX11_mustWash_49 rfl (lv_at hl 1 rfl) ?_
      refine lv_iconst (v := Int32.ofInt 0) C.hx C.hb dX11_mustWash_50 rfl ?_
      obtain ⟨x51, hc9, hf⟩ := cu_of hf
      refine r_callVi (rest := [i3 x45, i3 v5_26, i3 x3, .ref (eb E + t), l6 v3_26]) C hH hl o_t (by decide) rfl (m_X11_coinOf hn o_t hc9) ML_RX11_300 MF_X11_coinOf MI_X11_coinOf rfl rfl (Nat.le_of_ble_eq_true rfl) ⟨Nat.le_of_ble_eq_true rfl, Nat.le_of_ble_eq_true rfl⟩ ⟨Nat.le_refl _, Nat.le_refl _⟩ dX11_mustWash_51 (fun H locs hH => ?_)
      refine w_isub C dX11_mustWash_54 ?_
      obtain ⟨x55, hc9, hf⟩ := cu_of hf
      refine r_callVi (rest := [l6 v3_26]) C hH hl o_t (by decide) rfl (m_X11_rowsOf hn o_t hc9) ML_RX11_335 MF_X11_rowsOf MI_X11_rowsOf rfl rfl (Nat.le_of_ble_eq_true rfl) ⟨Nat.le_of_ble_eq_true rfl, Nat.le_of_ble_eq_true rfl⟩ ⟨Nat.le_refl _, Nat.le_refl _⟩ dX11_mustWash_55 (fun H locs hH => ?_)
      refine w_ladd C dX11_mustWash_58 ?_
      refine r_nmL hf (fun v3_59 hf => ?_)
      refine lv_lstore_n (lv' := [(3, l6 v3_59), (0, .ref (eb E + t)), (1, i3 a1), (2, i3 x3), (5, i3 v5_26)]) C.hx C.hb dX11_mustWash_59 rfl hl (by decide) rfl (fun ls hl => ?_)
      refine r_iinc (k := 4) (lv' := fun v => [(5, i3 v), (3, l6 v3_59), (0, .ref (eb E + t)), (1, i3 a1), (2, i3 x3)]) C hf dX11_mustWash_60 hl rfl (by decide) (fun _ => rfl) (fun v5_60 ls hf hl => ?_)
      refine lv_goto (tgt := 26) C.hx C.hb dX11_mustWash_63 (by decide) ?_
      exact h_rec26 hf hH (lv_sub hl [2, 3, 4, 1, 0] rfl)
set_option maxRecDepth 100000 in
set_option maxHeartbeats 4000000 in
theorem m_X11_mustWash {E : EE} {l : Launch} {n : Nat} {t : Nat} {a1 : Int} {M : Mem} {o : (Int × Mem)} (hn : nfull n) (o_t : ob n t 11) (hf : fn_X11_mustWash t a1 M = some o) : CT E l yX11_mustWash cX11_mustWash 6 (some .int) 2 51 0 0 [.ref (eb E + t), i3 a1] n (zf n) M (some (i3 o.1)) n (zf n) o.2 := by
  refine CT_of PN_RX11 (Nat.le_of_ble_eq_true rfl) ?_
  intro p e s m args below meth c C hH ls hl
  replace C : Cx E p s m args meth c cX11_mustWash 6 RX11 (some .int) n "mustWash" := C
  have hl : lv_has ls 6 [(0, .ref (eb E + t)), (1, i3 a1)] := hl
  unfold fn_X11_mustWash at hf
  refine lv_aload_n C.hx C.hb dX11_mustWash_0 rfl (lv_at hl 0 rfl) ?_
  refine lv_iload_n C.hx C.hb dX11_mustWash_1 rfl (lv_at hl 1 rfl) ?_
  refine lv_iconst (v := Int32.ofInt 3) C.hx C.hb dX11_mustWash_2 rfl ?_
  obtain ⟨x3, hc9, hf⟩ := cu_of hf
  refine r_callVi (rest := []) C hH hl o_t (by decide) rfl (m_X11_coinOf hn o_t hc9) ML_RX11_300 MF_X11_coinOf MI_X11_coinOf rfl rfl (Nat.le_of_ble_eq_true rfl) ⟨Nat.le_of_ble_eq_true rfl, Nat.le_of_ble_eq_true rfl⟩ ⟨Nat.le_refl _, Nat.le_refl _⟩ dX11_mustWash_3 (fun H locs hH => ?_)
  refine lv_istore_n (lv' := [(2, i3 x3), (0, .ref (eb E + t)), (1, i3 a1)]) C.hx C.hb dX11_mustWash_6 rfl hl (by decide) rfl (fun ls hl => ?_)
  refine lv_iload_n C.hx C.hb dX11_mustWash_7 rfl (lv_at hl 0 rfl) ?_
  refine lv_bipush (v := Int32.ofInt 12) C.hx C.hb dX11_mustWash_8 (by decide) ?_
  refine w_le (tgt := 15) C hf dX11_mustWash_10 (by decide) (fun hf => ?_) (fun hf => ?_)
  · refine lv_aload_n C.hx C.hb dX11_mustWash_15 rfl (lv_at hl 1 rfl) ?_
    refine lv_iload_n C.hx C.hb dX11_mustWash_16 rfl (lv_at hl 0 rfl) ?_
    refine lv_iconst (v := Int32.ofInt (-1)) C.hx C.hb dX11_mustWash_17 rfl ?_
    obtain ⟨M18, hc9, hf⟩ := cv_of hf
    refine r_callVv (rest := []) C hH hl o_t (by decide) rfl (m_X11_laysRows hn o_t hc9) ML_RX11_345 MF_X11_laysRows MI_X11_laysRows rfl rfl (Nat.le_of_ble_eq_true rfl) ⟨Nat.le_of_ble_eq_true rfl, Nat.le_of_ble_eq_true rfl⟩ ⟨Nat.le_refl _, Nat.le_refl _⟩ dX11_mustWash_18 (fun H locs hH => ?_)
    refine lv_lconst (v := Int64.ofInt 0) C.hx C.hb dX11_mustWash_21 (by decide) ?_
    refine lv_lstore_n (lv' := [(3, l6 0), (2, i3 x3), (0, .ref (eb E + t)), (1, i3 a1)]) C.hx C.hb dX11_mustWash_22 rfl hl (by decide) rfl (fun ls hl => ?_)
    refine lv_iconst (v := Int32.ofInt 0) C.hx C.hb dX11_mustWash_23 rfl ?_
    refine lv_istore (lv' := [(5, i3 0), (3, l6 0), (2, i3 x3), (0, .ref (eb E + t)), (1, i3 a1)]) C.hx C.hb dX11_mustWash_24 hl (by decide) rfl (fun ls hl => ?_)
    exact l_X11_mustWash_26 C hn o_t FU _ _ _ _ _ hf hH (lv_sub hl [3, 4, 2, 1, 0] rfl)
  · refine lv_iconst (v := Int32.ofInt (-1)) C.hx C.hb dX11_mustWash_13 rfl ?_
    cases hf
    exact w_iret C hH dX11_mustWash_14
-- HeavierByHandModel.of
def fn_X11_of (t : Nat) (a1 : Int) (a2 : Int) (M : Mem) : Option (Int × Mem) :=
  cu (fn_X11_isCoin t a1 M) fun x2 => cEq x2 0 (some ((-1), M)) (cu (fn_X11_in a2 0 5 M) fun x11 => cEq x11 0 (some ((-1), M)) (ck (R3 a2) <| if a2 = 0 then (cu (fn_X11_coinOf t a1 1 M) fun x59 => some (x59, M)) else if a2 = 1 then (cu (fn_X11_coinOf t a1 2 M) fun x66 => some (x66, M)) else if a2 = 2 then (cu (fn_X11_coinOf t a1 3 M) fun x73 => some (x73, M)) else if a2 = 3 then (cu (fn_X11_coinOf t a1 0 M) fun x80 => some (x80, M)) else if a2 = 4 then (cu (fn_X11_coinOf t a1 4 M) fun x87 => some (x87, M)) else cl (fn_X11_mustWash t a1 M) fun x93 M93 => some (x93, M93)))
set_option maxRecDepth 100000 in
set_option maxHeartbeats 4000000 in
theorem m_X11_of {E : EE} {l : Launch} {n : Nat} {t : Nat} {a1 : Int} {a2 : Int} {M : Mem} {o : (Int × Mem)} (hn : nfull n) (o_t : ob n t 11) (hf : fn_X11_of t a1 a2 M = some o) : CT E l yX11_of cX11_of 3 (some .int) 3 76 0 0 [.ref (eb E + t), i3 a1, i3 a2] n (zf n) M (some (i3 o.1)) n (zf n) o.2 := by
  refine CT_of PN_RX11 (Nat.le_of_ble_eq_true rfl) ?_
  intro p e s m args below meth c C hH ls hl
  replace C : Cx E p s m args meth c cX11_of 3 RX11 (some .int) n "of" := C
  have hl : lv_has ls 3 [(0, .ref (eb E + t)), (1, i3 a1), (2, i3 a2)] := hl
  unfold fn_X11_of at hf
  refine lv_aload_n C.hx C.hb dX11_of_0 rfl (lv_at hl 0 rfl) ?_
  refine lv_iload_n C.hx C.hb dX11_of_1 rfl (lv_at hl 1 rfl) ?_
  obtain ⟨x2, hc9, hf⟩ := cu_of hf
  refine r_callVi (rest := []) C hH hl o_t (by decide) rfl (m_X11_isCoin hn o_t hc9) ML_RX11_309 MF_X11_isCoin MI_X11_isCoin rfl rfl (Nat.le_of_ble_eq_true rfl) ⟨Nat.le_of_ble_eq_true rfl, Nat.le_of_ble_eq_true rfl⟩ ⟨Nat.le_refl _, Nat.le_refl _⟩ dX11_of_2 (fun H locs hH => ?_)
  refine w_eq0 (tgt := 17) C hf dX11_of_5 (by decide) (fun hf => ?_) (fun hf => ?_)
  · refine lv_iconst (v := Int32.ofInt (-1)) C.hx C.hb dX11_of_17 rfl ?_
    cases hf
    exact w_iret C hH dX11_of_18
  · refine lv_iload_n C.hx C.hb dX11_of_8 rfl (lv_at hl 2 rfl) ?_
    refine lv_iconst (v := Int32.ofInt 0) C.hx C.hb dX11_of_9 rfl ?_
    refine lv_iconst (v := Int32.ofInt 5) C.hx C.hb dX11_of_10 rfl ?_
    obtain ⟨x11, hc9, hf⟩ := cu_of hf
    refine r_callSi (rest := []) C hH hl (m_X11_in hn hc9) ML_RX11_115 MF_X11_in MS_X11_in rfl rfl (Nat.le_of_ble_eq_true rfl) ⟨Nat.le_of_ble_eq_true rfl, Nat.le_of_ble_eq_true rfl⟩ ⟨Nat.le_refl _, Nat.le_refl _⟩ dX11_of_11 (fun H locs hH => ?_)
    refine w_ne0 (tgt := 19) C hf dX11_of_14 (by decide) (fun hf => ?_) (fun hf => ?_)
    · refine lv_iload_n C.hx C.hb dX11_of_19 rfl (lv_at hl 2 rfl) ?_
      obtain ⟨hR9, hf⟩ := ck_of hf
      by_cases e0 : a2 = 0
      · rw [if_pos e0] at hf
        refine r_tab (tgt := 56) C e0 ⟨by decide, by decide⟩ dX11_of_20 (by decide) (by decide) rfl (by decide) ?_
        refine lv_aload_n C.hx C.hb dX11_of_56 rfl (lv_at hl 0 rfl) ?_
        refine lv_iload_n C.hx C.hb dX11_of_57 rfl (lv_at hl 1 rfl) ?_
        refine lv_iconst (v := Int32.ofInt 1) C.hx C.hb dX11_of_58 rfl ?_
        obtain ⟨x59, hc9, hf⟩ := cu_of hf
        refine r_callVi (rest := []) C hH hl o_t (by decide) rfl (m_X11_coinOf hn o_t hc9) ML_RX11_300 MF_X11_coinOf MI_X11_coinOf rfl rfl (Nat.le_of_ble_eq_true rfl) ⟨Nat.le_of_ble_eq_true rfl, Nat.le_of_ble_eq_true rfl⟩ ⟨Nat.le_refl _, Nat.le_refl _⟩ dX11_of_59 (fun H locs hH => ?_)
        cases hf
        exact w_iret C hH dX11_of_62
      · rw [if_neg e0] at hf
        by_cases e1 : a2 = 1
        · rw [if_pos e1] at hf
          refine r_tab (tgt := 63) C e1 ⟨by decide, by decide⟩ dX11_of_20 (by decide) (by decide) rfl (by decide) ?_
          refine lv_aload_n C.hx C.hb dX11_of_63 rfl (lv_at hl 0 rfl) ?_
          refine lv_iload_n C.hx C.hb dX11_of_64 rfl (lv_at hl 1 rfl) ?_
          refine lv_iconst (v := Int32.ofInt 2) C.hx C.hb dX11_of_65 rfl ?_
          obtain ⟨x66, hc9, hf⟩ := cu_of hf
          refine r_callVi (rest := []) C hH hl o_t (by decide) rfl (m_X11_coinOf hn o_t hc9) ML_RX11_300 MF_X11_coinOf MI_X11_coinOf rfl rfl (Nat.le_of_ble_eq_true rfl) ⟨Nat.le_of_ble_eq_true rfl, Nat.le_of_ble_eq_true rfl⟩ ⟨Nat.le_refl _, Nat.le_refl _⟩ dX11_of_66 (fun H locs hH => ?_)
          cases hf
          exact w_iret C hH dX11_of_69
        · rw [if_neg e1] at hf
          by_cases e2 : a2 = 2
          · rw [if_pos e2] at hf
            refine r_tab (tgt := 70) C e2 ⟨by decide, by decide⟩ dX11_of_20 (by decide) (by decide) rfl (by decide) ?_
            refine lv_aload_n C.hx C.hb dX11_of_70 rfl (lv_at hl 0 rfl) ?_
            refine lv_iload_n C.hx C.hb dX11_of_71 rfl (lv_at hl 1 rfl) ?_
            refine lv_iconst (v := Int32.ofInt 3) C.hx C.hb dX11_of_72 rfl ?_
            obtain ⟨x73, hc9, hf⟩ := cu_of hf
            refine r_callVi (rest := []) C hH hl o_t (by decide) rfl (m_X11_coinOf hn o_t hc9) ML_RX11_300 MF_X11_coinOf MI_X11_coinOf rfl rfl (Nat.le_of_ble_eq_true rfl) ⟨Nat.le_of_ble_eq_true rfl, Nat.le_of_ble_eq_true rfl⟩ ⟨Nat.le_refl _, Nat.le_refl _⟩ dX11_of_73 (fun H locs hH => ?_)
            cases hf
            exact w_iret C hH dX11_of_76
          · rw [if_neg e2] at hf
            by_cases e3 : a2 = 3
            · rw [if_pos e3] at hf
              refine r_tab (tgt := 77) C e3 ⟨by decide, by decide⟩ dX11_of_20 (by decide) (by decide) rfl (by decide) ?_
              refine lv_aload_n C.hx C.hb dX11_of_77 rfl (lv_at hl 0 rfl) ?_
              refine lv_iload_n C.hx C.hb dX11_of_78 rfl (lv_at hl 1 rfl) ?_
              refine lv_iconst (v := Int32.ofInt 0) C.hx C.hb dX11_of_79 rfl ?_
              obtain ⟨x80, hc9, hf⟩ := cu_of hf
              refine r_callVi (rest := []) C hH hl o_t (by decide) rfl (m_X11_coinOf hn o_t hc9) ML_RX11_300 MF_X11_coinOf MI_X11_coinOf rfl rfl (Nat.le_of_ble_eq_true rfl) ⟨Nat.le_of_ble_eq_true rfl, Nat.le_of_ble_eq_true rfl⟩ ⟨Nat.le_refl _, Nat.le_refl _⟩ dX11_of_80 (fun H locs hH => ?_)
              cases hf
              exact w_iret C hH dX11_of_83
            · rw [if_neg e3] at hf
              by_cases e4 : a2 = 4
              · rw [if_pos e4] at hf
                refine r_tab (tgt := 84) C e4 ⟨by decide, by decide⟩ dX11_of_20 (by decide) (by decide) rfl (by decide) ?_
                refine lv_aload_n C.hx C.hb dX11_of_84 rfl (lv_at hl 0 rfl) ?_
                refine lv_iload_n C.hx C.hb dX11_of_85 rfl (lv_at hl 1 rfl) ?_
                refine lv_iconst (v := Int32.ofInt 4) C.hx C.hb dX11_of_86 rfl ?_
                obtain ⟨x87, hc9, hf⟩ := cu_of hf
                refine r_callVi (rest := []) C hH hl o_t (by decide) rfl (m_X11_coinOf hn o_t hc9) ML_RX11_300 MF_X11_coinOf MI_X11_coinOf rfl rfl (Nat.le_of_ble_eq_true rfl) ⟨Nat.le_of_ble_eq_true rfl, Nat.le_of_ble_eq_true rfl⟩ ⟨Nat.le_refl _, Nat.le_refl _⟩ dX11_of_87 (fun H locs hH => ?_)
                cases hf
                exact w_iret C hH dX11_of_90
              · rw [if_neg e4] at hf
                refine r_tabO (tgt := 91) C hR9 dX11_of_20 (by omega) (by decide) ?_
                refine lv_aload_n C.hx C.hb dX11_of_91 rfl (lv_at hl 0 rfl) ?_
                refine lv_iload_n C.hx C.hb dX11_of_92 rfl (lv_at hl 1 rfl) ?_
                obtain ⟨x93, M93, hc9, hf⟩ := cl_of hf
                refine r_callVi (rest := []) C hH hl o_t (by decide) rfl (m_X11_mustWash hn o_t hc9) ML_RX11_352 MF_X11_mustWash MI_X11_mustWash rfl rfl (Nat.le_of_ble_eq_true rfl) ⟨Nat.le_of_ble_eq_true rfl, Nat.le_of_ble_eq_true rfl⟩ ⟨Nat.le_refl _, Nat.le_refl _⟩ dX11_of_93 (fun H locs hH => ?_)
                cases hf
                exact w_iret C hH dX11_of_96
    · refine lv_iconst (v := Int32.ofInt (-1)) C.hx C.hb dX11_of_17 rfl ?_
      cases hf
      exact w_iret C hH dX11_of_18
-- HeavierByHandModel.purse
def fn_X11_purse (t : Nat) (a1 : Int) (a2 : Int) (M : Mem) : Option (Int × Mem) :=
  cEq a1 (-1) (wr M (t + 1) 288 8 0 fun M12 => some (0, M12)) (cu (fn_X11_isHand t a1 M) fun x17 => cEq x17 0 (some ((-1), M)) (cu (fn_X11_in a2 0 999 M) fun x28 => cEq x28 0 (some ((-1), M)) (rd M (t + 1) 288 8 fun x40 => cEq x40 4 (some ((-1), M)) (rd M (t + 1) 288 8 fun x61 => wr M (t + 1) 288 (280 + (2 * x61)) a1 fun M65 => rd M65 (t + 1) 288 8 fun x80 => wr M65 (t + 1) 288 ((280 + (2 * x80)) + 1) a2 fun M86 => rd M86 (t + 1) 288 8 fun x94 => wr M86 (t + 1) 288 8 (x94 + 1) fun M97 => rd M97 (t + 1) 288 8 fun x104 => some (x104, M97)))))
set_option maxRecDepth 100000 in
set_option maxHeartbeats 4000000 in
theorem m_X11_purse {E : EE} {l : Launch} {n : Nat} {t : Nat} {a1 : Int} {a2 : Int} {M : Mem} {o : (Int × Mem)} (hn : nfull n) (o_t : ob n t 11) (hf : fn_X11_purse t a1 a2 M = some o) : CT E l yX11_purse cX11_purse 3 (some .int) 2 43 0 0 [.ref (eb E + t), i3 a1, i3 a2] n (zf n) M (some (i3 o.1)) n (zf n) o.2 := by
  refine CT_of PN_RX11 (Nat.le_of_ble_eq_true rfl) ?_
  intro p e s m args below meth c C hH ls hl
  replace C : Cx E p s m args meth c cX11_purse 3 RX11 (some .int) n "purse" := C
  have hl : lv_has ls 3 [(0, .ref (eb E + t)), (1, i3 a1), (2, i3 a2)] := hl
  unfold fn_X11_purse at hf
  refine lv_iload_n C.hx C.hb dX11_purse_0 rfl (lv_at hl 1 rfl) ?_
  refine lv_iconst (v := Int32.ofInt (-1)) C.hx C.hb dX11_purse_1 rfl ?_
  refine w_ne (tgt := 15) C hf dX11_purse_2 (by decide) (fun hf => ?_) (fun hf => ?_)
  · refine lv_aload_n C.hx C.hb dX11_purse_15 rfl (lv_at hl 0 rfl) ?_
    refine lv_iload_n C.hx C.hb dX11_purse_16 rfl (lv_at hl 1 rfl) ?_
    obtain ⟨x17, hc9, hf⟩ := cu_of hf
    refine r_callVi (rest := []) C hH hl o_t (by decide) rfl (m_X11_isHand hn o_t hc9) ML_RX11_119 MF_X11_isHand MI_X11_isHand rfl rfl (Nat.le_of_ble_eq_true rfl) ⟨Nat.le_of_ble_eq_true rfl, Nat.le_of_ble_eq_true rfl⟩ ⟨Nat.le_refl _, Nat.le_refl _⟩ dX11_purse_17 (fun H locs hH => ?_)
    refine w_eq0 (tgt := 45) C hf dX11_purse_20 (by decide) (fun hf => ?_) (fun hf => ?_)
    · refine lv_iconst (v := Int32.ofInt (-1)) C.hx C.hb dX11_purse_45 rfl ?_
      cases hf
      exact w_iret C hH dX11_purse_46
    · refine lv_iload_n C.hx C.hb dX11_purse_23 rfl (lv_at hl 2 rfl) ?_
      refine lv_iconst (v := Int32.ofInt 0) C.hx C.hb dX11_purse_24 rfl ?_
      refine lv_sipush (v := Int32.ofInt 999) C.hx C.hb dX11_purse_25 (by decide) ?_
      obtain ⟨x28, hc9, hf⟩ := cu_of hf
      refine r_callSi (rest := []) C hH hl (m_X11_in hn hc9) ML_RX11_115 MF_X11_in MS_X11_in rfl rfl (Nat.le_of_ble_eq_true rfl) ⟨Nat.le_of_ble_eq_true rfl, Nat.le_of_ble_eq_true rfl⟩ ⟨Nat.le_refl _, Nat.le_refl _⟩ dX11_purse_28 (fun H locs hH => ?_)
      refine w_eq0 (tgt := 45) C hf dX11_purse_31 (by decide) (fun hf => ?_) (fun hf => ?_)
      · refine lv_iconst (v := Int32.ofInt (-1)) C.hx C.hb dX11_purse_45 rfl ?_
        cases hf
        exact w_iret C hH dX11_purse_46
      · refine lv_aload_n C.hx C.hb dX11_purse_34 rfl (lv_at hl 0 rfl) ?_
        refine g_ref (off := 1) C hH o_t (by decide) rfl rfl FL_RX11_7 dX11_purse_35 ?_
        refine lv_bipush (v := Int32.ofInt 8) C.hx C.hb dX11_purse_38 (by decide) ?_
        refine r_iald C hH (ly (i := 0) (off := 1) (k := 12) hn o_t rfl rfl rfl) (lyn (i := 0) (off := 1) (N := 287) hn o_t rfl rfl rfl) hf dX11_purse_40 (fun x40 hf => ?_)
        refine lv_iconst (v := Int32.ofInt 4) C.hx C.hb dX11_purse_41 rfl ?_
        refine w_ne (tgt := 47) C hf dX11_purse_42 (by decide) (fun hf => ?_) (fun hf => ?_)
        · refine lv_aload_n C.hx C.hb dX11_purse_47 rfl (lv_at hl 0 rfl) ?_
          refine g_ref (off := 1) C hH o_t (by decide) rfl rfl FL_RX11_7 dX11_purse_48 ?_
          refine lv_sipush (v := Int32.ofInt 280) C.hx C.hb dX11_purse_51 (by decide) ?_
          refine lv_iconst (v := Int32.ofInt 2) C.hx C.hb dX11_purse_54 rfl ?_
          refine lv_aload_n C.hx C.hb dX11_purse_55 rfl (lv_at hl 0 rfl) ?_
          refine g_ref (off := 1) C hH o_t (by decide) rfl rfl FL_RX11_7 dX11_purse_56 ?_
          refine lv_bipush (v := Int32.ofInt 8) C.hx C.hb dX11_purse_59 (by decide) ?_
          refine r_iald C hH (ly (i := 0) (off := 1) (k := 12) hn o_t rfl rfl rfl) (lyn (i := 0) (off := 1) (N := 287) hn o_t rfl rfl rfl) hf dX11_purse_61 (fun x61 hf => ?_)
          refine w_imul C dX11_purse_62 ?_
          refine w_iadd C dX11_purse_63 ?_
          refine lv_iload_n C.hx C.hb dX11_purse_64 rfl (lv_at hl 1 rfl) ?_
          refine r_iast C hH (ly (i := 0) (off := 1) (k := 12) hn o_t rfl rfl rfl) (lyn (i := 0) (off := 1) (N := 287) hn o_t rfl rfl rfl) hf dX11_purse_65 (fun M65 H locs hf hH => ?_)
          refine lv_aload_n C.hx C.hb dX11_purse_66 rfl (lv_at hl 0 rfl) ?_
          refine g_ref (off := 1) C hH o_t (by decide) rfl rfl FL_RX11_7 dX11_purse_67 ?_
          refine lv_sipush (v := Int32.ofInt 280) C.hx C.hb dX11_purse_70 (by decide) ?_
          refine lv_iconst (v := Int32.ofInt 2) C.hx C.hb dX11_purse_73 rfl ?_
          refine lv_aload_n C.hx C.hb dX11_purse_74 rfl (lv_at hl 0 rfl) ?_
          refine g_ref (off := 1) C hH o_t (by decide) rfl rfl FL_RX11_7 dX11_purse_75 ?_
          refine lv_bipush (v := Int32.ofInt 8) C.hx C.hb dX11_purse_78 (by decide) ?_
          refine r_iald C hH (ly (i := 0) (off := 1) (k := 12) hn o_t rfl rfl rfl) (lyn (i := 0) (off := 1) (N := 287) hn o_t rfl rfl rfl) hf dX11_purse_80 (fun x80 hf => ?_)
          refine w_imul C dX11_purse_81 ?_
          refine w_iadd C dX11_purse_82 ?_
          refine lv_iconst (v := Int32.ofInt 1) C.hx C.hb dX11_purse_83 rfl ?_
          refine w_iadd C dX11_purse_84 ?_
          refine lv_iload_n C.hx C.hb dX11_purse_85 rfl (lv_at hl 2 rfl) ?_
          refine r_iast C hH (ly (i := 0) (off := 1) (k := 12) hn o_t rfl rfl rfl) (lyn (i := 0) (off := 1) (N := 287) hn o_t rfl rfl rfl) hf dX11_purse_86 (fun M86 H locs hf hH => ?_)
          refine lv_aload_n C.hx C.hb dX11_purse_87 rfl (lv_at hl 0 rfl) ?_
          refine g_ref (off := 1) C hH o_t (by decide) rfl rfl FL_RX11_7 dX11_purse_88 ?_
          refine lv_bipush (v := Int32.ofInt 8) C.hx C.hb dX11_purse_91 (by decide) ?_
          refine lv_dup2_11 C.hx C.hb dX11_purse_93 rfl rfl ?_
          refine r_iald C hH (ly (i := 0) (off := 1) (k := 12) hn o_t rfl rfl rfl) (lyn (i := 0) (off := 1) (N := 287) hn o_t rfl rfl rfl) hf dX11_purse_94 (fun x94 hf => ?_)
          refine lv_iconst (v := Int32.ofInt 1) C.hx C.hb dX11_purse_95 rfl ?_
          refine w_iadd C dX11_purse_96 ?_
          refine r_iast C hH (ly (i := 0) (off := 1) (k := 12) hn o_t rfl rfl rfl) (lyn (i := 0) (off := 1) (N := 287) hn o_t rfl rfl rfl) hf dX11_purse_97 (fun M97 H locs hf hH => ?_)
          refine lv_aload_n C.hx C.hb dX11_purse_98 rfl (lv_at hl 0 rfl) ?_
          refine g_ref (off := 1) C hH o_t (by decide) rfl rfl FL_RX11_7 dX11_purse_99 ?_
          refine lv_bipush (v := Int32.ofInt 8) C.hx C.hb dX11_purse_102 (by decide) ?_
          refine r_iald C hH (ly (i := 0) (off := 1) (k := 12) hn o_t rfl rfl rfl) (lyn (i := 0) (off := 1) (N := 287) hn o_t rfl rfl rfl) hf dX11_purse_104 (fun x104 hf => ?_)
          cases hf
          exact w_iret C hH dX11_purse_105
        · refine lv_iconst (v := Int32.ofInt (-1)) C.hx C.hb dX11_purse_45 rfl ?_
          cases hf
          exact w_iret C hH dX11_purse_46
  · refine lv_aload_n C.hx C.hb dX11_purse_5 rfl (lv_at hl 0 rfl) ?_
    refine g_ref (off := 1) C hH o_t (by decide) rfl rfl FL_RX11_7 dX11_purse_6 ?_
    refine lv_bipush (v := Int32.ofInt 8) C.hx C.hb dX11_purse_9 (by decide) ?_
    refine lv_iconst (v := Int32.ofInt 0) C.hx C.hb dX11_purse_11 rfl ?_
    refine r_iast C hH (ly (i := 0) (off := 1) (k := 12) hn o_t rfl rfl rfl) (lyn (i := 0) (off := 1) (N := 287) hn o_t rfl rfl rfl) hf dX11_purse_12 (fun M12 H locs hf hH => ?_)
    refine lv_iconst (v := Int32.ofInt 0) C.hx C.hb dX11_purse_13 rfl ?_
    cases hf
    exact w_iret C hH dX11_purse_14
-- HeavierByHandModel.laysWhole
def fn_X11_laysWhole_L11 (t : Nat) (a1 : Int) (a2 : Int) (rec11 : Int → Int → Mem → Option (Int × Mem)) (v5_11 : Int) (v3_11 : Int) (M11 : Mem) : Option (Int × Mem) :=
  rd M11 (t + 1) 288 8 fun x19 => cLt v5_11 x19 (rd M11 (t + 1) 288 (280 + (2 * v5_11)) fun x42 => rd M11 (t + 1) 288 ((280 + (2 * v5_11)) + 1) fun x57 => cu (fn_X11_rowsAll t x42 x57 a1 a2 M11) fun x60 => wr M11 (t + 24) 4 v5_11 x60 fun M63 => rd M63 (t + 24) 4 v5_11 fun x71 => nm ((v3_11 * x71)) fun v3_73 => nm (v5_11 + 1) fun v5_74 => rec11 v5_74 v3_73 M63) (some (v3_11, M11))
def fn_X11_laysWhole (t : Nat) (a1 : Int) (a2 : Int) (M : Mem) : Option (Int × Mem) :=
  cv (fn_X11_laysRows t a2 (-1) M) fun M3 => lq3 (fn_X11_laysWhole_L11 t a1 a2) FU 0 1 M3
set_option maxRecDepth 100000 in
set_option maxHeartbeats 4000000 in
theorem l_X11_laysWhole_11 {p : Program} {l : Launch} {e : Env} {s : State} {m : MethodId} {args : Array Value} {below : List Frame} {meth : Method} {c : Code} {E : EE} {n : Nat} {o : (Int × Mem)} {t : Nat} {a1 : Int} {a2 : Int} (C : Cx E p s m args meth c cX11_laysWhole 6 RX11 (some .long) n "laysWhole") (hn : nfull n) (o_t : ob n t 11) : ∀ (k : Nat) (v5_11 : Int) (v3_11 : Int) (M11 : Mem) (H : Heap) (locs : List Loc) (ls : Array Slot), lq3 (fn_X11_laysWhole_L11 t a1 a2) k v5_11 v3_11 M11 = some o → ST E s n (zf n) M11 H locs → lv_has ls 6 [(0, .ref (eb E + t)), (1, i3 a1), (2, i3 a2), (3, l6 v3_11), (5, i3 v5_11)] → W p l e { frames := 3, cells := 0, slots := 0, locals := 75 } s m args below meth c H locs 0 0 (MQ below (QC E (some (l6 o.1)) n (zf n) o.2) args s 0 0 (fr E)) (F0 m 11 ls []) := by
  intro k
  induction k with
  | zero => intro v5_11 v3_11 M11 H locs ls hf; cases hf
  | succ k ih =>
    intro v5_11 v3_11 M11 H locs ls hf hH hl
    have h_rec11 : ∀ {v5_11 : Int} {v3_11 : Int} {M11 : Mem} {H : Heap} {locs : List Loc} {ls : Array Slot}, lq3 (fn_X11_laysWhole_L11 t a1 a2) k v5_11 v3_11 M11 = some o → ST E s n (zf n) M11 H locs → lv_has ls 6 [(0, .ref (eb E + t)), (1, i3 a1), (2, i3 a2), (3, l6 v3_11), (5, i3 v5_11)] → W p l e { frames := 3, cells := 0, slots := 0, locals := 75 } s m args below meth c H locs 0 0 (MQ below (QC E (some (l6 o.1)) n (zf n) o.2) args s 0 0 (fr E)) (F0 m 11 ls []) := fun {v5_11} {v3_11} {M11} {H} {locs} {ls} a b c => ih v5_11 v3_11 M11 H locs ls a b c
    replace hf : fn_X11_laysWhole_L11 t a1 a2 (lq3 (fn_X11_laysWhole_L11 t a1 a2) k) v5_11 v3_11 M11 = some o := hf
    generalize lq3 (fn_X11_laysWhole_L11 t a1 a2) k = rec11 at hf h_rec11
    unfold fn_X11_laysWhole_L11 at hf
    refine lv_iload C.hx C.hb dX11_laysWhole_11 (lv_at hl 4 rfl) ?_
    refine lv_aload_n C.hx C.hb dX11_laysWhole_13 rfl (lv_at hl 0 rfl) ?_
    refine g_ref (off := 1) C hH o_t (by decide) rfl rfl FL_RX11_7 dX11_laysWhole_14 ?_
    refine lv_bipush (v := Int32.ofInt 8) C.hx C.hb dX11_laysWhole_17 (by decide) ?_
    refine r_iald C hH (ly (i := 0) (off := 1) (k := 12) hn o_t rfl rfl rfl) (lyn (i := 0) (off := 1) (N := 287) hn o_t rfl rfl rfl) hf dX11_laysWhole_19 (fun x19 hf => ?_)
    refine w_ge (tgt := 80) C hf dX11_laysWhole_20 (by decide) (fun hf => ?_) (fun hf => ?_)
    · refine lv_lload_n C.hx C.hb dX11_laysWhole_80 rfl (lv_at hl 3 rfl) ?_
      cases hf
      exact w_lret C hH dX11_laysWhole_81
    · refine lv_aload_n C.hx C.hb dX11_laysWhole_23 rfl (lv_at hl 0 rfl) ?_
      refine g_ref (off := 24) C hH o_t (by decide) rfl rfl FL_RX11_89 dX11_laysWhole_24 ?_
      refine lv_iload C.hx C.hb dX11_laysWhole_27 (lv_at hl 4 rfl) ?_
      refine lv_aload_n C.hx C.hb dX11_laysWhole_29 rfl (lv_at hl 0 rfl) ?_
      refine lv_aload_n C.hx C.hb dX11_laysWhole_30 rfl (lv_at hl 0 rfl) ?_
      refine g_ref (off := 1) C hH o_t (by decide) rfl rfl FL_RX11_7 dX11_laysWhole_31 ?_
      refine lv_sipush (v := Int32.ofInt 280) C.hx C.hb dX11_laysWhole_34 (by decide) ?_
      refine lv_iconst (v := Int32.ofInt 2) C.hx C.hb dX11_laysWhole_37 rfl ?_
      refine lv_iload C.hx C.hb dX11_laysWhole_38 (lv_at hl 4 rfl) ?_
      refine w_imul C dX11_laysWhole_40 ?_
      refine w_iadd C dX11_laysWhole_41 ?_
      refine r_iald C hH (ly (i := 0) (off := 1) (k := 12) hn o_t rfl rfl rfl) (lyn (i := 0) (off := 1) (N := 287) hn o_t rfl rfl rfl) hf dX11_laysWhole_42 (fun x42 hf => ?_)
      refine lv_aload_n C.hx C.hb dX11_laysWhole_43 rfl (lv_at hl 0 rfl) ?_
      refine g_ref (off := 1) C hH o_t (by decide) rfl rfl FL_RX11_7 dX11_laysWhole_44 ?_
      refine lv_sipush (v := Int32.ofInt 280) C.hx C.hb dX11_laysWhole_47 (by decide) ?_
      refine lv_iconst (v := Int32.ofInt 2) C.hx C.hb dX11_laysWhole_50 rfl ?_
      refine lv_iload C.hx C.hb dX11_laysWhole_51 (lv_at hl 4 rfl) ?_
      refine w_imul C dX11_laysWhole_53 ?_
      refine w_iadd C dX11_laysWhole_54 ?_
      refine lv_iconst (v := Int32.ofInt 1) C.hx C.hb dX11_laysWhole_55 rfl ?_
      refine w_iadd C dX11_laysWhole_56 ?_
      refine r_iald C hH (ly (i := 0) (off := 1) (k := 12) hn o_t rfl rfl rfl) (lyn (i := 0) (off := 1) (N := 287) hn o_t rfl rfl rfl) hf dX11_laysWhole_57 (fun x57 hf => ?_)
      refine lv_iload_n C.hx C.hb dX11_laysWhole_58 rfl (lv_at hl 1 rfl) ?_
      refine lv_iload_n C.hx C.hb dX11_laysWhole_59 rfl (lv_at hl 2 rfl) ?_
      obtain ⟨x60, hc9, hf⟩ := cu_of hf
      refine r_callVi (rest := [i3 v5_11, .ref (eb E + (t + 24))]) C hH hl o_t (by decide) rfl (m_X11_rowsAll hn o_t hc9) ML_RX11_348 MF_X11_rowsAll MI_X11_rowsAll rfl rfl (Nat.le_of_ble_eq_true rfl) ⟨Nat.le_of_ble_eq_true rfl, Nat.le_of_ble_eq_true rfl⟩ ⟨Nat.le_refl _, Nat.le_refl _⟩ dX11_laysWhole_60 (fun H locs hH => ?_)
      refine r_last C hH (ly (i := 40) (off := 24) (k := 15) hn o_t rfl rfl rfl) (lyn (i := 40) (off := 24) (N := 3) hn o_t rfl rfl rfl) hf dX11_laysWhole_63 (fun M63 H locs hf hH => ?_)
      refine lv_lload_n C.hx C.hb dX11_laysWhole_64 rfl (lv_at hl 3 rfl) ?_
      refine lv_aload_n C.hx C.hb dX11_laysWhole_65 rfl (lv_at hl 0 rfl) ?_
      refine g_ref (off := 24) C hH o_t (by decide) rfl rfl FL_RX11_89 dX11_laysWhole_66 ?_
      refine lv_iload C.hx C.hb dX11_laysWhole_69 (lv_at hl 4 rfl) ?_
      refine r_lald C hH (ly (i := 40) (off := 24) (k := 15) hn o_t rfl rfl rfl) (lyn (i := 40) (off := 24) (N := 3) hn o_t rfl rfl rfl) hf dX11_laysWhole_71 (fun x71 hf => ?_)
      refine w_lmul C dX11_laysWhole_72 ?_
      refine r_nmL hf (fun v3_73 hf => ?_)
      refine lv_lstore_n (lv' := [(3, l6 v3_73), (0, .ref (eb E + t)), (1, i3 a1), (2, i3 a2), (5, i3 v5_11)]) C.hx C.hb dX11_laysWhole_73 rfl hl (by decide) rfl (fun ls hl => ?_)
      refine r_iinc (k := 4) (lv' := fun v => [(5, i3 v), (3, l6 v3_73), (0, .ref (eb E + t)), (1, i3 a1), (2, i3 a2)]) C hf dX11_laysWhole_74 hl rfl (by decide) (fun _ => rfl) (fun v5_74 ls hf hl => ?_)
      refine lv_goto (tgt := 11) C.hx C.hb dX11_laysWhole_77 (by decide) ?_
      exact h_rec11 hf hH (lv_sub hl [2, 3, 4, 1, 0] rfl)
set_option maxRecDepth 100000 in
set_option maxHeartbeats 4000000 in
theorem m_X11_laysWhole {E : EE} {l : Launch} {n : Nat} {t : Nat} {a1 : Int} {a2 : Int} {M : Mem} {o : (Int × Mem)} (hn : nfull n) (o_t : ob n t 11) (hf : fn_X11_laysWhole t a1 a2 M = some o) : CT E l yX11_laysWhole cX11_laysWhole 6 (some .long) 3 75 0 0 [.ref (eb E + t), i3 a1, i3 a2] n (zf n) M (some (l6 o.1)) n (zf n) o.2 := by
  refine CT_of PN_RX11 (Nat.le_of_ble_eq_true rfl) ?_
  intro p e s m args below meth c C hH ls hl
  replace C : Cx E p s m args meth c cX11_laysWhole 6 RX11 (some .long) n "laysWhole" := C
  have hl : lv_has ls 6 [(0, .ref (eb E + t)), (1, i3 a1), (2, i3 a2)] := hl
  unfold fn_X11_laysWhole at hf
  refine lv_aload_n C.hx C.hb dX11_laysWhole_0 rfl (lv_at hl 0 rfl) ?_
  refine lv_iload_n C.hx C.hb dX11_laysWhole_1 rfl (lv_at hl 2 rfl) ?_
  refine lv_iconst (v := Int32.ofInt (-1)) C.hx C.hb dX11_laysWhole_2 rfl ?_
  obtain ⟨M3, hc9, hf⟩ := cv_of hf
  refine r_callVv (rest := []) C hH hl o_t (by decide) rfl (m_X11_laysRows hn o_t hc9) ML_RX11_345 MF_X11_laysRows MI_X11_laysRows rfl rfl (Nat.le_of_ble_eq_true rfl) ⟨Nat.le_of_ble_eq_true rfl, Nat.le_of_ble_eq_true rfl⟩ ⟨Nat.le_refl _, Nat.le_refl _⟩ dX11_laysWhole_3 (fun H locs hH => ?_)
  refine lv_lconst (v := Int64.ofInt 1) C.hx C.hb dX11_laysWhole_6 (by decide) ?_
  refine lv_lstore_n (lv' := [(3, l6 1), (0, .ref (eb E + t)), (1, i3 a1), (2, i3 a2)]) C.hx C.hb dX11_laysWhole_7 rfl hl (by decide) rfl (fun ls hl => ?_)
  refine lv_iconst (v := Int32.ofInt 0) C.hx C.hb dX11_laysWhole_8 rfl ?_
  refine lv_istore (lv' := [(5, i3 0), (3, l6 1), (0, .ref (eb E + t)), (1, i3 a1), (2, i3 a2)]) C.hx C.hb dX11_laysWhole_9 hl (by decide) rfl (fun ls hl => ?_)
  exact l_X11_laysWhole_11 C hn o_t FU _ _ _ _ _ _ hf hH (lv_sub hl [2, 3, 4, 1, 0] rfl)
-- HeavierByHandModel.laysPart
def fn_X11_laysPart_L12 (t : Nat) (a2 : Int) (a3 : Int) (rec12 : Int → Int → Mem → Option (Int × Mem)) (v6_12 : Int) (v4_12 : Int) (M12 : Mem) : Option (Int × Mem) :=
  rd M12 (t + 1) 288 8 fun x20 => cLt v6_12 x20 (rd M12 (t + 24) 4 v6_12 fun x36 => rd M12 (t + 1) 288 (280 + (2 * v6_12)) fun x50 => rd M12 (t + 1) 288 ((280 + (2 * v6_12)) + 1) fun x65 => cu (fn_X11_rowsAll t x50 x65 a2 a3 M12) fun x68 => wr M12 (t + 25) 4 v6_12 (x36 - x68) fun M72 => rd M72 (t + 25) 4 v6_12 fun x81 => nm ((v4_12 * x81)) fun v4_83 => nm (v6_12 + 1) fun v6_85 => rec12 v6_85 v4_83 M72) (some (v4_12, M12))
def fn_X11_laysPart (t : Nat) (a1 : Int) (a2 : Int) (a3 : Int) (M : Mem) : Option (Int × Mem) :=
  cv (fn_X11_laysRows t a3 a1 M) fun M3 => lq3 (fn_X11_laysPart_L12 t a2 a3) FU 0 1 M3
set_option maxRecDepth 100000 in
set_option maxHeartbeats 4000000 in
theorem l_X11_laysPart_12 {p : Program} {l : Launch} {e : Env} {s : State} {m : MethodId} {args : Array Value} {below : List Frame} {meth : Method} {c : Code} {E : EE} {n : Nat} {o : (Int × Mem)} {t : Nat} {a2 : Int} {a3 : Int} (C : Cx E p s m args meth c cX11_laysPart 7 RX11 (some .long) n "laysPart") (hn : nfull n) (o_t : ob n t 11) : ∀ (k : Nat) (v6_12 : Int) (v4_12 : Int) (M12 : Mem) (H : Heap) (locs : List Loc) (ls : Array Slot), lq3 (fn_X11_laysPart_L12 t a2 a3) k v6_12 v4_12 M12 = some o → ST E s n (zf n) M12 H locs → lv_has ls 7 [(0, .ref (eb E + t)), (2, i3 a2), (3, i3 a3), (4, l6 v4_12), (6, i3 v6_12)] → W p l e { frames := 3, cells := 0, slots := 0, locals := 75 } s m args below meth c H locs 0 0 (MQ below (QC E (some (l6 o.1)) n (zf n) o.2) args s 0 0 (fr E)) (F0 m 12 ls []) := by
  intro k
  induction k with
  | zero => intro v6_12 v4_12 M12 H locs ls hf; cases hf
  | succ k ih =>
    intro v6_12 v4_12 M12 H locs ls hf hH hl
    have h_rec12 : ∀ {v6_12 : Int} {v4_12 : Int} {M12 : Mem} {H : Heap} {locs : List Loc} {ls : Array Slot}, lq3 (fn_X11_laysPart_L12 t a2 a3) k v6_12 v4_12 M12 = some o → ST E s n (zf n) M12 H locs → lv_has ls 7 [(0, .ref (eb E + t)), (2, i3 a2), (3, i3 a3), (4, l6 v4_12), (6, i3 v6_12)] → W p l e { frames := 3, cells := 0, slots := 0, locals := 75 } s m args below meth c H locs 0 0 (MQ below (QC E (some (l6 o.1)) n (zf n) o.2) args s 0 0 (fr E)) (F0 m 12 ls []) := fun {v6_12} {v4_12} {M12} {H} {locs} {ls} a b c => ih v6_12 v4_12 M12 H locs ls a b c
    replace hf : fn_X11_laysPart_L12 t a2 a3 (lq3 (fn_X11_laysPart_L12 t a2 a3) k) v6_12 v4_12 M12 = some o := hf
    generalize lq3 (fn_X11_laysPart_L12 t a2 a3) k = rec12 at hf h_rec12
    unfold fn_X11_laysPart_L12 at hf
    refine lv_iload C.hx C.hb dX11_laysPart_12 (lv_at hl 4 rfl) ?_
    refine lv_aload_n C.hx C.hb dX11_laysPart_14 rfl (lv_at hl 0 rfl) ?_
    refine g_ref (off := 1) C hH o_t (by decide) rfl rfl FL_RX11_7 dX11_laysPart_15 ?_
    refine lv_bipush (v := Int32.ofInt 8) C.hx C.hb dX11_laysPart_18 (by decide) ?_
    refine r_iald C hH (ly (i := 0) (off := 1) (k := 12) hn o_t rfl rfl rfl) (lyn (i := 0) (off := 1) (N := 287) hn o_t rfl rfl rfl) hf dX11_laysPart_20 (fun x20 hf => ?_)
    refine w_ge (tgt := 91) C hf dX11_laysPart_21 (by decide) (fun hf => ?_) (fun hf => ?_)
    · refine lv_lload C.hx C.hb dX11_laysPart_91 (lv_at hl 3 rfl) ?_
      cases hf
      exact w_lret C hH dX11_laysPart_93
    · refine lv_aload_n C.hx C.hb dX11_laysPart_24 rfl (lv_at hl 0 rfl) ?_
      refine g_ref (off := 25) C hH o_t (by decide) rfl rfl FL_RX11_92 dX11_laysPart_25 ?_
      refine lv_iload C.hx C.hb dX11_laysPart_28 (lv_at hl 4 rfl) ?_
      refine lv_aload_n C.hx C.hb dX11_laysPart_30 rfl (lv_at hl 0 rfl) ?_
      refine g_ref (off := 24) C hH o_t (by decide) rfl rfl FL_RX11_89 dX11_laysPart_31 ?_
      refine lv_iload C.hx C.hb dX11_laysPart_34 (lv_at hl 4 rfl) ?_
      refine r_lald C hH (ly (i := 40) (off := 24) (k := 15) hn o_t rfl rfl rfl) (lyn (i := 40) (off := 24) (N := 3) hn o_t rfl rfl rfl) hf dX11_laysPart_36 (fun x36 hf => ?_)
      refine lv_aload_n C.hx C.hb dX11_laysPart_37 rfl (lv_at hl 0 rfl) ?_
      refine lv_aload_n C.hx C.hb dX11_laysPart_38 rfl (lv_at hl 0 rfl) ?_
      refine g_ref (off := 1) C hH o_t (by decide) rfl rfl FL_RX11_7 dX11_laysPart_39 ?_
      refine lv_sipush (v := Int32.ofInt 280) C.hx C.hb dX11_laysPart_42 (by decide) ?_
      refine lv_iconst (v := Int32.ofInt 2) C.hx C.hb dX11_laysPart_45 rfl ?_
      refine lv_iload C.hx C.hb dX11_laysPart_46 (lv_at hl 4 rfl) ?_
      refine w_imul C dX11_laysPart_48 ?_
      refine w_iadd C dX11_laysPart_49 ?_
      refine r_iald C hH (ly (i := 0) (off := 1) (k := 12) hn o_t rfl rfl rfl) (lyn (i := 0) (off := 1) (N := 287) hn o_t rfl rfl rfl) hf dX11_laysPart_50 (fun x50 hf => ?_)
      refine lv_aload_n C.hx C.hb dX11_laysPart_51 rfl (lv_at hl 0 rfl) ?_
      refine g_ref (off := 1) C hH o_t (by decide) rfl rfl FL_RX11_7 dX11_laysPart_52 ?_
      refine lv_sipush (v := Int32.ofInt 280) C.hx C.hb dX11_laysPart_55 (by decide) ?_
      refine lv_iconst (v := Int32.ofInt 2) C.hx C.hb dX11_laysPart_58 rfl ?_
      refine lv_iload C.hx C.hb dX11_laysPart_59 (lv_at hl 4 rfl) ?_
      refine w_imul C dX11_laysPart_61 ?_
      refine w_iadd C dX11_laysPart_62 ?_
      refine lv_iconst (v := Int32.ofInt 1) C.hx C.hb dX11_laysPart_63 rfl ?_
      refine w_iadd C dX11_laysPart_64 ?_
      refine r_iald C hH (ly (i := 0) (off := 1) (k := 12) hn o_t rfl rfl rfl) (lyn (i := 0) (off := 1) (N := 287) hn o_t rfl rfl rfl) hf dX11_laysPart_65 (fun x65 hf => ?_)
      refine lv_iload_n C.hx C.hb dX11_laysPart_66 rfl (lv_at hl 1 rfl) ?_
      refine lv_iload_n C.hx C.hb dX11_laysPart_67 rfl (lv_at hl 2 rfl) ?_
      obtain ⟨x68, hc9, hf⟩ := cu_of hf
      refine r_callVi (rest := [l6 x36, i3 v6_12, .ref (eb E + (t + 25))]) C hH hl o_t (by decide) rfl (m_X11_rowsAll hn o_t hc9) ML_RX11_348 MF_X11_rowsAll MI_X11_rowsAll rfl rfl (Nat.le_of_ble_eq_true rfl) ⟨Nat.le_of_ble_eq_true rfl, Nat.le_of_ble_eq_true rfl⟩ ⟨Nat.le_refl _, Nat.le_refl _⟩ dX11_laysPart_68 (fun H locs hH => ?_)
      refine w_lsub C dX11_laysPart_71 ?_
      refine r_last C hH (ly (i := 41) (off := 25) (k := 15) hn o_t rfl rfl rfl) (lyn (i := 41) (off := 25) (N := 3) hn o_t rfl rfl rfl) hf dX11_laysPart_72 (fun M72 H locs hf hH => ?_)
      refine lv_lload C.hx C.hb dX11_laysPart_73 (lv_at hl 3 rfl) ?_
      refine lv_aload_n C.hx C.hb dX11_laysPart_75 rfl (lv_at hl 0 rfl) ?_
      refine g_ref (off := 25) C hH o_t (by decide) rfl rfl FL_RX11_92 dX11_laysPart_76 ?_
      refine lv_iload C.hx C.hb dX11_laysPart_79 (lv_at hl 4 rfl) ?_
      refine r_lald C hH (ly (i := 41) (off := 25) (k := 15) hn o_t rfl rfl rfl) (lyn (i := 41) (off := 25) (N := 3) hn o_t rfl rfl rfl) hf dX11_laysPart_81 (fun x81 hf => ?_)
      refine w_lmul C dX11_laysPart_82 ?_
      refine r_nmL hf (fun v4_83 hf => ?_)
      refine lv_lstore (lv' := [(4, l6 v4_83), (0, .ref (eb E + t)), (2, i3 a2), (3, i3 a3), (6, i3 v6_12)]) C.hx C.hb dX11_laysPart_83 hl (by decide) rfl (fun ls hl => ?_)
      refine r_iinc (k := 4) (lv' := fun v => [(6, i3 v), (4, l6 v4_83), (0, .ref (eb E + t)), (2, i3 a2), (3, i3 a3)]) C hf dX11_laysPart_85 hl rfl (by decide) (fun _ => rfl) (fun v6_85 ls hf hl => ?_)
      refine lv_goto (tgt := 12) C.hx C.hb dX11_laysPart_88 (by decide) ?_
      exact h_rec12 hf hH (lv_sub hl [2, 3, 4, 1, 0] rfl)
set_option maxRecDepth 100000 in
set_option maxHeartbeats 4000000 in
theorem m_X11_laysPart {E : EE} {l : Launch} {n : Nat} {t : Nat} {a1 : Int} {a2 : Int} {a3 : Int} {M : Mem} {o : (Int × Mem)} (hn : nfull n) (o_t : ob n t 11) (hf : fn_X11_laysPart t a1 a2 a3 M = some o) : CT E l yX11_laysPart cX11_laysPart 7 (some .long) 3 75 0 0 [.ref (eb E + t), i3 a1, i3 a2, i3 a3] n (zf n) M (some (l6 o.1)) n (zf n) o.2 := by
  refine CT_of PN_RX11 (Nat.le_of_ble_eq_true rfl) ?_
  intro p e s m args below meth c C hH ls hl
  replace C : Cx E p s m args meth c cX11_laysPart 7 RX11 (some .long) n "laysPart" := C
  have hl : lv_has ls 7 [(0, .ref (eb E + t)), (1, i3 a1), (2, i3 a2), (3, i3 a3)] := hl
  unfold fn_X11_laysPart at hf
  refine lv_aload_n C.hx C.hb dX11_laysPart_0 rfl (lv_at hl 0 rfl) ?_
  refine lv_iload_n C.hx C.hb dX11_laysPart_1 rfl (lv_at hl 3 rfl) ?_
  refine lv_iload_n C.hx C.hb dX11_laysPart_2 rfl (lv_at hl 1 rfl) ?_
  obtain ⟨M3, hc9, hf⟩ := cv_of hf
  refine r_callVv (rest := []) C hH hl o_t (by decide) rfl (m_X11_laysRows hn o_t hc9) ML_RX11_345 MF_X11_laysRows MI_X11_laysRows rfl rfl (Nat.le_of_ble_eq_true rfl) ⟨Nat.le_of_ble_eq_true rfl, Nat.le_of_ble_eq_true rfl⟩ ⟨Nat.le_refl _, Nat.le_refl _⟩ dX11_laysPart_3 (fun H locs hH => ?_)
  refine lv_lconst (v := Int64.ofInt 1) C.hx C.hb dX11_laysPart_6 (by decide) ?_
  refine lv_lstore (lv' := [(4, l6 1), (0, .ref (eb E + t)), (1, i3 a1), (2, i3 a2), (3, i3 a3)]) C.hx C.hb dX11_laysPart_7 hl (by decide) rfl (fun ls hl => ?_)
  refine lv_iconst (v := Int32.ofInt 0) C.hx C.hb dX11_laysPart_9 rfl ?_
  refine lv_istore (lv' := [(6, i3 0), (4, l6 1), (0, .ref (eb E + t)), (1, i3 a1), (2, i3 a2), (3, i3 a3)]) C.hx C.hb dX11_laysPart_10 hl (by decide) rfl (fun ls hl => ?_)
  exact l_X11_laysPart_12 C hn o_t FU _ _ _ _ _ _ hf hH (lv_sub hl [2, 4, 5, 1, 0] rfl)
-- HeavierByHandModel.odds
def fn_X11_odds_J101 (a4 : Int) (x43 : Int) (x63 : Int) (M63 : Mem) (v9_101 : Int) : Option (Int × Mem) :=
  cEq a4 0 (ck (R6 x63 ∧ R6 v9_101 ∧ v9_101 ≠ (0 : Int)) <| some ((x63.tdiv v9_101), M63)) (ck (R6 x43 ∧ R6 v9_101 ∧ v9_101 ≠ (0 : Int)) <| some ((x43.tdiv v9_101), M63))
def fn_X11_odds_L76 (a4 : Int) (x43 : Int) (x63 : Int) (M63 : Mem) (rec76 : Int → Int → Option (Int × Mem)) (v11_76 : Int) (v9_76 : Int) : Option (Int × Mem) :=
  dEq v11_76 0 (fn_X11_odds_J101 a4 x43 x63 M63 v9_76) (ck (R6 v9_76 ∧ R6 v11_76 ∧ v11_76 ≠ (0 : Int)) <| nm ((v9_76.tmod v11_76)) fun v13_88 => rec76 v13_88 v11_76)
def fn_X11_odds (t : Nat) (a1 : Int) (a2 : Int) (a3 : Int) (a4 : Int) (M : Mem) : Option (Int × Mem) :=
  cu (fn_X11_isHand t a1 M) fun x2 => cEq x2 0 (some ((-1), M)) (cu (fn_X11_in a2 0 4 M) fun x11 => cEq x11 0 (some ((-1), M)) (cu (fn_X11_in a3 a2 4 M) fun x20 => cEq x20 0 (some ((-1), M)) (cu (fn_X11_in a4 0 1 M) fun x30 => cEq x30 0 (some ((-1), M)) (cl (fn_X11_laysWhole t a2 a3 M) fun x43 M43 => dEq x43 0 (some ((-1), M43)) (cl (fn_X11_laysPart t a1 a2 a3 M43) fun x63 M63 => lq2 (fn_X11_odds_L76 a4 x43 x63 M63) FU x63 x43)))))
set_option maxRecDepth 100000 in
set_option maxHeartbeats 4000000 in
theorem j_X11_odds_101 {p : Program} {l : Launch} {e : Env} {s : State} {m : MethodId} {args : Array Value} {below : List Frame} {meth : Method} {c : Code} {E : EE} {n : Nat} {o : (Int × Mem)} {a4 : Int} {x43 : Int} {x63 : Int} {M63 : Mem} {v9_101 : Int} {H : Heap} {locs : List Loc} {ls : Array Slot} (C : Cx E p s m args meth c cX11_odds 15 RX11 (some .long) n "odds") (hn : nfull n) (hf : fn_X11_odds_J101 a4 x43 x63 M63 v9_101 = some o) (hH : ST E s n (zf n) M63 H locs) (hl : lv_has ls 15 [(4, i3 a4), (5, l6 x43), (7, l6 x63), (9, l6 v9_101)]) : W p l e { frames := 4, cells := 0, slots := 0, locals := 101 } s m args below meth c H locs 0 0 (MQ below (QC E (some (l6 o.1)) n (zf n) o.2) args s 0 0 (fr E)) (F0 m 101 ls []) := by
  unfold fn_X11_odds_J101 at hf
  refine lv_iload C.hx C.hb dX11_odds_101 (lv_at hl 0 rfl) ?_
  refine w_ne0 (tgt := 114) C hf dX11_odds_103 (by decide) (fun hf => ?_) (fun hf => ?_)
  · refine lv_lload C.hx C.hb dX11_odds_114 (lv_at hl 1 rfl) ?_
    refine lv_lload C.hx C.hb dX11_odds_116 (lv_at hl 3 rfl) ?_
    obtain ⟨hR8, hf⟩ := ck_of hf
    refine w_ldiv C hR8 dX11_odds_118 ?_
    cases hf
    exact w_lret C hH dX11_odds_119
  · refine lv_lload C.hx C.hb dX11_odds_106 (lv_at hl 2 rfl) ?_
    refine lv_lload C.hx C.hb dX11_odds_108 (lv_at hl 3 rfl) ?_
    obtain ⟨hR8, hf⟩ := ck_of hf
    refine w_ldiv C hR8 dX11_odds_110 ?_
    refine lv_goto (tgt := 119) C.hx C.hb dX11_odds_111 (by decide) ?_
    cases hf
    exact w_lret C hH dX11_odds_119
set_option maxRecDepth 100000 in
set_option maxHeartbeats 4000000 in
theorem l_X11_odds_76 {p : Program} {l : Launch} {e : Env} {s : State} {m : MethodId} {args : Array Value} {below : List Frame} {meth : Method} {c : Code} {E : EE} {n : Nat} {o : (Int × Mem)} {a4 : Int} {x43 : Int} {x63 : Int} {M63 : Mem} (C : Cx E p s m args meth c cX11_odds 15 RX11 (some .long) n "odds") (hn : nfull n) : ∀ (k : Nat) (v11_76 : Int) (v9_76 : Int) (H : Heap) (locs : List Loc) (ls : Array Slot), lq2 (fn_X11_odds_L76 a4 x43 x63 M63) k v11_76 v9_76 = some o → ST E s n (zf n) M63 H locs → lv_has ls 15 [(4, i3 a4), (5, l6 x43), (7, l6 x63), (9, l6 v9_76), (11, l6 v11_76)] → W p l e { frames := 4, cells := 0, slots := 0, locals := 101 } s m args below meth c H locs 0 0 (MQ below (QC E (some (l6 o.1)) n (zf n) o.2) args s 0 0 (fr E)) (F0 m 76 ls []) := by
  intro k
  induction k with
  | zero => intro v11_76 v9_76 H locs ls hf; cases hf
  | succ k ih =>
    intro v11_76 v9_76 H locs ls hf hH hl
    have h_rec76 : ∀ {v11_76 : Int} {v9_76 : Int} {H : Heap} {locs : List Loc} {ls : Array Slot}, lq2 (fn_X11_odds_L76 a4 x43 x63 M63) k v11_76 v9_76 = some o → ST E s n (zf n) M63 H locs → lv_has ls 15 [(4, i3 a4), (5, l6 x43), (7, l6 x63), (9, l6 v9_76), (11, l6 v11_76)] → W p l e { frames := 4, cells := 0, slots := 0, locals := 101 } s m args below meth c H locs 0 0 (MQ below (QC E (some (l6 o.1)) n (zf n) o.2) args s 0 0 (fr E)) (F0 m 76 ls []) := fun {v11_76} {v9_76} {H} {locs} {ls} a b c => ih v11_76 v9_76 H locs ls a b c
    replace hf : fn_X11_odds_L76 a4 x43 x63 M63 (lq2 (fn_X11_odds_L76 a4 x43 x63 M63) k) v11_76 v9_76 = some o := hf
    generalize lq2 (fn_X11_odds_L76 a4 x43 x63 M63) k = rec76 at hf h_rec76
    unfold fn_X11_odds_L76 at hf
    refine lv_lload C.hx C.hb dX11_odds_76 (lv_at hl 4 rfl) ?_
    refine lv_lconst (v := Int64.ofInt 0) C.hx C.hb dX11_odds_78 (by decide) ?_
    refine w_leq (tgt := 101) C hf dX11_odds_79 dX11_odds_80 (by decide) (fun hf => ?_) (fun hf => ?_)
    · exact j_X11_odds_101 C hn hf hH (lv_sub hl [0, 1, 2, 3] rfl)
    · refine lv_lload C.hx C.hb dX11_odds_83 (lv_at hl 3 rfl) ?_
      refine lv_lload C.hx C.hb dX11_odds_85 (lv_at hl 4 rfl) ?_
      obtain ⟨hR8, hf⟩ := ck_of hf
      refine w_lrem C hR8 dX11_odds_87 ?_
      refine r_nmL hf (fun v13_88 hf => ?_)
      refine lv_lstore (lv' := [(13, l6 v13_88), (4, i3 a4), (5, l6 x43), (7, l6 x63), (9, l6 v9_76), (11, l6 v11_76)]) C.hx C.hb dX11_odds_88 hl (by decide) rfl (fun ls hl => ?_)
      refine lv_lload C.hx C.hb dX11_odds_90 (lv_at hl 5 rfl) ?_
      refine lv_lstore (lv' := [(9, l6 v11_76), (13, l6 v13_88), (4, i3 a4), (5, l6 x43), (7, l6 x63), (11, l6 v11_76)]) C.hx C.hb dX11_odds_92 hl (by decide) rfl (fun ls hl => ?_)
      refine lv_lload C.hx C.hb dX11_odds_94 (lv_at hl 1 rfl) ?_
      refine lv_lstore (lv' := [(11, l6 v13_88), (9, l6 v11_76), (13, l6 v13_88), (4, i3 a4), (5, l6 x43), (7, l6 x63)]) C.hx C.hb dX11_odds_96 hl (by decide) rfl (fun ls hl => ?_)
      refine lv_goto (tgt := 76) C.hx C.hb dX11_odds_98 (by decide) ?_
      exact h_rec76 hf hH (lv_sub hl [3, 4, 5, 1, 0] rfl)
set_option maxRecDepth 100000 in
set_option maxHeartbeats 4000000 in
theorem m_X11_odds {E : EE} {l : Launch} {n : Nat} {t : Nat} {a1 : Int} {a2 : Int} {a3 : Int} {a4 : Int} {M : Mem} {o : (Int × Mem)} (hn : nfull n) (o_t : ob n t 11) (hf : fn_X11_odds t a1 a2 a3 a4 M = some o) : CT E l yX11_odds cX11_odds 15 (some .long) 4 101 0 0 [.ref (eb E + t), i3 a1, i3 a2, i3 a3, i3 a4] n (zf n) M (some (l6 o.1)) n (zf n) o.2 := by
  refine CT_of PN_RX11 (Nat.le_of_ble_eq_true rfl) ?_
  intro p e s m args below meth c C hH ls hl
  replace C : Cx E p s m args meth c cX11_odds 15 RX11 (some .long) n "odds" := C
  have hl : lv_has ls 15 [(0, .ref (eb E + t)), (1, i3 a1), (2, i3 a2), (3, i3 a3), (4, i3 a4)] := hl
  unfold fn_X11_odds at hf
  refine lv_aload_n C.hx C.hb dX11_odds_0 rfl (lv_at hl 0 rfl) ?_
  refine lv_iload_n C.hx C.hb dX11_odds_1 rfl (lv_at hl 1 rfl) ?_
  obtain ⟨x2, hc9, hf⟩ := cu_of hf
  refine r_callVi (rest := []) C hH hl o_t (by decide) rfl (m_X11_isHand hn o_t hc9) ML_RX11_119 MF_X11_isHand MI_X11_isHand rfl rfl (Nat.le_of_ble_eq_true rfl) ⟨Nat.le_of_ble_eq_true rfl, Nat.le_of_ble_eq_true rfl⟩ ⟨Nat.le_refl _, Nat.le_refl _⟩ dX11_odds_2 (fun H locs hH => ?_)
  refine w_eq0 (tgt := 36) C hf dX11_odds_5 (by decide) (fun hf => ?_) (fun hf => ?_)
  · refine r_ldc2 (x := (-1)) C KL_RX11_343 dX11_odds_36 ?_
    cases hf
    exact w_lret C hH dX11_odds_39
  · refine lv_iload_n C.hx C.hb dX11_odds_8 rfl (lv_at hl 2 rfl) ?_
    refine lv_iconst (v := Int32.ofInt 0) C.hx C.hb dX11_odds_9 rfl ?_
    refine lv_iconst (v := Int32.ofInt 4) C.hx C.hb dX11_odds_10 rfl ?_
    obtain ⟨x11, hc9, hf⟩ := cu_of hf
    refine r_callSi (rest := []) C hH hl (m_X11_in hn hc9) ML_RX11_115 MF_X11_in MS_X11_in rfl rfl (Nat.le_of_ble_eq_true rfl) ⟨Nat.le_of_ble_eq_true rfl, Nat.le_of_ble_eq_true rfl⟩ ⟨Nat.le_refl _, Nat.le_refl _⟩ dX11_odds_11 (fun H locs hH => ?_)
    refine w_eq0 (tgt := 36) C hf dX11_odds_14 (by decide) (fun hf => ?_) (fun hf => ?_)
    · refine r_ldc2 (x := (-1)) C KL_RX11_343 dX11_odds_36 ?_
      cases hf
      exact w_lret C hH dX11_odds_39
    · refine lv_iload_n C.hx C.hb dX11_odds_17 rfl (lv_at hl 3 rfl) ?_
      refine lv_iload_n C.hx C.hb dX11_odds_18 rfl (lv_at hl 2 rfl) ?_
      refine lv_iconst (v := Int32.ofInt 4) C.hx C.hb dX11_odds_19 rfl ?_
      obtain ⟨x20, hc9, hf⟩ := cu_of hf
      refine r_callSi (rest := []) C hH hl (m_X11_in hn hc9) ML_RX11_115 MF_X11_in MS_X11_in rfl rfl (Nat.le_of_ble_eq_true rfl) ⟨Nat.le_of_ble_eq_true rfl, Nat.le_of_ble_eq_true rfl⟩ ⟨Nat.le_refl _, Nat.le_refl _⟩ dX11_odds_20 (fun H locs hH => ?_)
      refine w_eq0 (tgt := 36) C hf dX11_odds_23 (by decide) (fun hf => ?_) (fun hf => ?_)
      · refine r_ldc2 (x := (-1)) C KL_RX11_343 dX11_odds_36 ?_
        cases hf
        exact w_lret C hH dX11_odds_39
      · refine lv_iload C.hx C.hb dX11_odds_26 (lv_at hl 4 rfl) ?_
        refine lv_iconst (v := Int32.ofInt 0) C.hx C.hb dX11_odds_28 rfl ?_
        refine lv_iconst (v := Int32.ofInt 1) C.hx C.hb dX11_odds_29 rfl ?_
        obtain ⟨x30, hc9, hf⟩ := cu_of hf
        refine r_callSi (rest := []) C hH hl (m_X11_in hn hc9) ML_RX11_115 MF_X11_in MS_X11_in rfl rfl (Nat.le_of_ble_eq_true rfl) ⟨Nat.le_of_ble_eq_true rfl, Nat.le_of_ble_eq_true rfl⟩ ⟨Nat.le_refl _, Nat.le_refl _⟩ dX11_odds_30 (fun H locs hH => ?_)
        refine w_ne0 (tgt := 40) C hf dX11_odds_33 (by decide) (fun hf => ?_) (fun hf => ?_)
        · refine lv_aload_n C.hx C.hb dX11_odds_40 rfl (lv_at hl 0 rfl) ?_
          refine lv_iload_n C.hx C.hb dX11_odds_41 rfl (lv_at hl 2 rfl) ?_
          refine lv_iload_n C.hx C.hb dX11_odds_42 rfl (lv_at hl 3 rfl) ?_
          obtain ⟨x43, M43, hc9, hf⟩ := cl_of hf
          refine r_callVi (rest := []) C hH hl o_t (by decide) rfl (m_X11_laysWhole hn o_t hc9) ML_RX11_355 MF_X11_laysWhole MI_X11_laysWhole rfl rfl (Nat.le_of_ble_eq_true rfl) ⟨Nat.le_of_ble_eq_true rfl, Nat.le_of_ble_eq_true rfl⟩ ⟨Nat.le_refl _, Nat.le_refl _⟩ dX11_odds_43 (fun H locs hH => ?_)
          refine lv_lstore (lv' := [(5, l6 x43), (0, .ref (eb E + t)), (1, i3 a1), (2, i3 a2), (3, i3 a3), (4, i3 a4)]) C.hx C.hb dX11_odds_46 hl (by decide) rfl (fun ls hl => ?_)
          refine lv_lload C.hx C.hb dX11_odds_48 (lv_at hl 0 rfl) ?_
          refine lv_lconst (v := Int64.ofInt 0) C.hx C.hb dX11_odds_50 (by decide) ?_
          refine w_lne (tgt := 59) C hf dX11_odds_51 dX11_odds_52 (by decide) (fun hf => ?_) (fun hf => ?_)
          · refine lv_aload_n C.hx C.hb dX11_odds_59 rfl (lv_at hl 1 rfl) ?_
            refine lv_iload_n C.hx C.hb dX11_odds_60 rfl (lv_at hl 2 rfl) ?_
            refine lv_iload_n C.hx C.hb dX11_odds_61 rfl (lv_at hl 3 rfl) ?_
            refine lv_iload_n C.hx C.hb dX11_odds_62 rfl (lv_at hl 4 rfl) ?_
            obtain ⟨x63, M63, hc9, hf⟩ := cl_of hf
            refine r_callVi (rest := []) C hH hl o_t (by decide) rfl (m_X11_laysPart hn o_t hc9) ML_RX11_359 MF_X11_laysPart MI_X11_laysPart rfl rfl (Nat.le_of_ble_eq_true rfl) ⟨Nat.le_of_ble_eq_true rfl, Nat.le_of_ble_eq_true rfl⟩ ⟨Nat.le_refl _, Nat.le_refl _⟩ dX11_odds_63 (fun H locs hH => ?_)
            refine lv_lstore (lv' := [(7, l6 x63), (5, l6 x43), (0, .ref (eb E + t)), (1, i3 a1), (2, i3 a2), (3, i3 a3), (4, i3 a4)]) C.hx C.hb dX11_odds_66 hl (by decide) rfl (fun ls hl => ?_)
            refine lv_lload C.hx C.hb dX11_odds_68 (lv_at hl 1 rfl) ?_
            refine lv_lstore (lv' := [(9, l6 x43), (7, l6 x63), (5, l6 x43), (0, .ref (eb E + t)), (1, i3 a1), (2, i3 a2), (3, i3 a3), (4, i3 a4)]) C.hx C.hb dX11_odds_70 hl (by decide) rfl (fun ls hl => ?_)
            refine lv_lload C.hx C.hb dX11_odds_72 (lv_at hl 1 rfl) ?_
            refine lv_lstore (lv' := [(11, l6 x63), (9, l6 x43), (7, l6 x63), (5, l6 x43), (0, .ref (eb E + t)), (1, i3 a1), (2, i3 a2), (3, i3 a3), (4, i3 a4)]) C.hx C.hb dX11_odds_74 hl (by decide) rfl (fun ls hl => ?_)
            exact l_X11_odds_76 C hn FU _ _ _ _ _ hf hH (lv_sub hl [8, 3, 2, 1, 0] rfl)
          · refine r_ldc2 (x := (-1)) C KL_RX11_343 dX11_odds_55 ?_
            cases hf
            exact w_lret C hH dX11_odds_58
        · refine r_ldc2 (x := (-1)) C KL_RX11_343 dX11_odds_36 ?_
          cases hf
          exact w_lret C hH dX11_odds_39
-- HeavierByHandModel.told
def fn_X11_told_J147 (v3_147 : Int) (v4_147 : Int) (M147 : Mem) : Option (Int × Mem) :=
  cEq v4_147 1 (some (v3_147, M147)) (some ((-1), M147))
def fn_X11_told_J140 (v5_39 : Int) (rec39 : Int → Int → Int → Mem → Option (Int × Mem)) (M58 : Mem) (v4_127 : Int) (u0_140 : Int) : Option (Int × Mem) :=
  nm (v5_39 + 1) fun v5_141 => rec39 v5_141 v4_127 u0_140 M58
def fn_X11_told_J126 (v5_39 : Int) (v4_39 : Int) (v3_39 : Int) (rec39 : Int → Int → Int → Mem → Option (Int × Mem)) (M58 : Mem) (v6_114 : Int) (u0_126 : Int) : Option (Int × Mem) :=
  nm ((v4_39 + u0_126)) fun v4_127 => cEq v6_114 0 (fn_X11_told_J140 v5_39 rec39 M58 v4_127 v3_39) (fn_X11_told_J140 v5_39 rec39 M58 v4_127 v5_39)
def fn_X11_told_J114 (v5_39 : Int) (v4_39 : Int) (v3_39 : Int) (rec39 : Int → Int → Int → Mem → Option (Int × Mem)) (M58 : Mem) (v6_114 : Int) : Option (Int × Mem) :=
  cEq v6_114 0 (fn_X11_told_J126 v5_39 v4_39 v3_39 rec39 M58 v6_114 0) (fn_X11_told_J126 v5_39 v4_39 v3_39 rec39 M58 v6_114 1)
def fn_X11_told_J106 (v9_66 : Int) (rec66 : Int → Int → Option (Int × Mem)) (u0_106 : Int) : Option (Int × Mem) :=
  nm (v9_66 + 1) fun v9_108 => rec66 v9_108 u0_106
def fn_X11_told_J105 (v9_66 : Int) (rec66 : Int → Int → Option (Int × Mem)) : Option (Int × Mem) :=
  fn_X11_told_J106 v9_66 rec66 0
def fn_X11_told_L66 (t : Nat) (v5_39 : Int) (v4_39 : Int) (v3_39 : Int) (rec39 : Int → Int → Int → Mem → Option (Int × Mem)) (M58 : Mem) (rec66 : Int → Int → Option (Int × Mem)) (v9_66 : Int) (v6_66 : Int) : Option (Int × Mem) :=
  rd M58 (t + 1) 288 8 fun x74 => cLt v9_66 x74 (cEq v6_66 0 (fn_X11_told_J105 v9_66 rec66) (rd M58 (t + 25) 4 v9_66 fun x89 => rd M58 (t + 24) 4 v9_66 fun x96 => dEq x89 x96 (fn_X11_told_J106 v9_66 rec66 1) (fn_X11_told_J105 v9_66 rec66))) (fn_X11_told_J114 v5_39 v4_39 v3_39 rec39 M58 v6_66)
def fn_X11_told_L39 (t : Nat) (a1 : Int) (a2 : Int) (rec39 : Int → Int → Int → Mem → Option (Int × Mem)) (v5_39 : Int) (v4_39 : Int) (v3_39 : Int) (M39 : Mem) : Option (Int × Mem) :=
  rd M39 (t + 1) 288 0 fun x46 => cLt v5_39 x46 (cl (fn_X11_laysPart t v5_39 a1 a2 M39) fun x58 M58 => lq2 (fn_X11_told_L66 t v5_39 v4_39 v3_39 rec39 M58) FU 0 1) (fn_X11_told_J147 v3_39 v4_39 M39)
def fn_X11_told (t : Nat) (a1 : Int) (a2 : Int) (M : Mem) : Option (Int × Mem) :=
  cu (fn_X11_in a1 0 4 M) fun x3 => cEq x3 0 (some ((-1), M)) (cu (fn_X11_in a2 a1 4 M) fun x12 => cEq x12 0 (some ((-1), M)) (cl (fn_X11_laysWhole t a1 a2 M) fun x21 M21 => dEq x21 0 (some ((-1), M21)) (lq4 (fn_X11_told_L39 t a1 a2) FU 0 0 (-1) M21)))
set_option maxRecDepth 100000 in
set_option maxHeartbeats 4000000 in
theorem j_X11_told_147 {p : Program} {l : Launch} {e : Env} {s : State} {m : MethodId} {args : Array Value} {below : List Frame} {meth : Method} {c : Code} {E : EE} {n : Nat} {o : (Int × Mem)} {v3_147 : Int} {v4_147 : Int} {M147 : Mem} {H : Heap} {locs : List Loc} {ls : Array Slot} (C : Cx E p s m args meth c cX11_told 10 RX11 (some .int) n "told") (hn : nfull n) (hf : fn_X11_told_J147 v3_147 v4_147 M147 = some o) (hH : ST E s n (zf n) M147 H locs) (hl : lv_has ls 10 [(3, i3 v3_147), (4, i3 v4_147)]) : W p l e { frames := 4, cells := 0, slots := 0, locals := 101 } s m args below meth c H locs 0 0 (MQ below (QC E (some (i3 o.1)) n (zf n) o.2) args s 0 0 (fr E)) (F0 m 147 ls []) := by
  unfold fn_X11_told_J147 at hf
  refine lv_iload C.hx C.hb dX11_told_147 (lv_at hl 1 rfl) ?_
  refine lv_iconst (v := Int32.ofInt 1) C.hx C.hb dX11_told_149 rfl ?_
  refine w_ne (tgt := 157) C hf dX11_told_150 (by decide) (fun hf => ?_) (fun hf => ?_)
  · refine lv_iconst (v := Int32.ofInt (-1)) C.hx C.hb dX11_told_157 rfl ?_
    cases hf
    exact w_iret C hH dX11_told_158
  · refine lv_iload_n C.hx C.hb dX11_told_153 rfl (lv_at hl 0 rfl) ?_
    refine lv_goto (tgt := 158) C.hx C.hb dX11_told_154 (by decide) ?_
    cases hf
    exact w_iret C hH dX11_told_158
set_option maxRecDepth 100000 in
set_option maxHeartbeats 4000000 in
theorem j_X11_told_140 {p : Program} {l : Launch} {e : Env} {s : State} {m : MethodId} {args : Array Value} {below : List Frame} {meth : Method} {c : Code} {E : EE} {n : Nat} {o : (Int × Mem)} {t : Nat} {a1 : Int} {a2 : Int} {v5_39 : Int} {rec39 : Int → Int → Int → Mem → Option (Int × Mem)} {M58 : Mem} {v4_127 : Int} {u0_140 : Int} {H : Heap} {locs : List Loc} {ls : Array Slot} (C : Cx E p s m args meth c cX11_told 10 RX11 (some .int) n "told") (hn : nfull n) (o_t : ob n t 11) (h_rec39 : ∀ {v5_39 : Int} {v4_39 : Int} {v3_39 : Int} {M39 : Mem} {H : Heap} {locs : List Loc} {ls : Array Slot}, rec39 v5_39 v4_39 v3_39 M39 = some o → ST E s n (zf n) M39 H locs → lv_has ls 10 [(0, .ref (eb E + t)), (1, i3 a1), (2, i3 a2), (3, i3 v3_39), (4, i3 v4_39), (5, i3 v5_39)] → W p l e { frames := 4, cells := 0, slots := 0, locals := 101 } s m args below meth c H locs 0 0 (MQ below (QC E (some (i3 o.1)) n (zf n) o.2) args s 0 0 (fr E)) (F0 m 39 ls [])) (hf : fn_X11_told_J140 v5_39 rec39 M58 v4_127 u0_140 = some o) (hH : ST E s n (zf n) M58 H locs) (hl : lv_has ls 10 [(0, .ref (eb E + t)), (1, i3 a1), (2, i3 a2), (4, i3 v4_127), (5, i3 v5_39)]) : W p l e { frames := 4, cells := 0, slots := 0, locals := 101 } s m args below meth c H locs 0 0 (MQ below (QC E (some (i3 o.1)) n (zf n) o.2) args s 0 0 (fr E)) (F0 m 140 ls [i3 u0_140]) := by
  unfold fn_X11_told_J140 at hf
  refine lv_istore_n (lv' := [(3, i3 u0_140), (0, .ref (eb E + t)), (1, i3 a1), (2, i3 a2), (4, i3 v4_127), (5, i3 v5_39)]) C.hx C.hb dX11_told_140 rfl hl (by decide) rfl (fun ls hl => ?_)
  refine r_iinc (k := 5) (lv' := fun v => [(5, i3 v), (3, i3 u0_140), (0, .ref (eb E + t)), (1, i3 a1), (2, i3 a2), (4, i3 v4_127)]) C hf dX11_told_141 hl rfl (by decide) (fun _ => rfl) (fun v5_141 ls hf hl => ?_)
  refine lv_goto (tgt := 39) C.hx C.hb dX11_told_144 (by decide) ?_
  exact h_rec39 hf hH (lv_sub hl [2, 3, 4, 1, 5, 0] rfl)
set_option maxRecDepth 100000 in
set_option maxHeartbeats 4000000 in
theorem j_X11_told_126 {p : Program} {l : Launch} {e : Env} {s : State} {m : MethodId} {args : Array Value} {below : List Frame} {meth : Method} {c : Code} {E : EE} {n : Nat} {o : (Int × Mem)} {t : Nat} {a1 : Int} {a2 : Int} {v5_39 : Int} {v4_39 : Int} {v3_39 : Int} {rec39 : Int → Int → Int → Mem → Option (Int × Mem)} {M58 : Mem} {v6_114 : Int} {u0_126 : Int} {H : Heap} {locs : List Loc} {ls : Array Slot} (C : Cx E p s m args meth c cX11_told 10 RX11 (some .int) n "told") (hn : nfull n) (o_t : ob n t 11) (h_rec39 : ∀ {v5_39 : Int} {v4_39 : Int} {v3_39 : Int} {M39 : Mem} {H : Heap} {locs : List Loc} {ls : Array Slot}, rec39 v5_39 v4_39 v3_39 M39 = some o → ST E s n (zf n) M39 H locs → lv_has ls 10 [(0, .ref (eb E + t)), (1, i3 a1), (2, i3 a2), (3, i3 v3_39), (4, i3 v4_39), (5, i3 v5_39)] → W p l e { frames := 4, cells := 0, slots := 0, locals := 101 } s m args below meth c H locs 0 0 (MQ below (QC E (some (i3 o.1)) n (zf n) o.2) args s 0 0 (fr E)) (F0 m 39 ls [])) (hf : fn_X11_told_J126 v5_39 v4_39 v3_39 rec39 M58 v6_114 u0_126 = some o) (hH : ST E s n (zf n) M58 H locs) (hl : lv_has ls 10 [(0, .ref (eb E + t)), (1, i3 a1), (2, i3 a2), (3, i3 v3_39), (5, i3 v5_39), (6, i3 v6_114)]) : W p l e { frames := 4, cells := 0, slots := 0, locals := 101 } s m args below meth c H locs 0 0 (MQ below (QC E (some (i3 o.1)) n (zf n) o.2) args s 0 0 (fr E)) (F0 m 126 ls [i3 u0_126, i3 v4_39]) := by
  unfold fn_X11_told_J126 at hf
  refine w_iadd C dX11_told_126 ?_
  refine r_nm hf (fun v4_127 hf => ?_)
  refine lv_istore (lv' := [(4, i3 v4_127), (0, .ref (eb E + t)), (1, i3 a1), (2, i3 a2), (3, i3 v3_39), (5, i3 v5_39), (6, i3 v6_114)]) C.hx C.hb dX11_told_127 hl (by decide) rfl (fun ls hl => ?_)
  refine lv_iload C.hx C.hb dX11_told_129 (lv_at hl 6 rfl) ?_
  refine w_eq0 (tgt := 139) C hf dX11_told_131 (by decide) (fun hf => ?_) (fun hf => ?_)
  · refine lv_iload_n C.hx C.hb dX11_told_139 rfl (lv_at hl 4 rfl) ?_
    exact j_X11_told_140 C hn o_t h_rec39 hf hH (lv_sub hl [1, 2, 3, 0, 5] rfl)
  · refine lv_iload C.hx C.hb dX11_told_134 (lv_at hl 5 rfl) ?_
    refine lv_goto (tgt := 140) C.hx C.hb dX11_told_136 (by decide) ?_
    exact j_X11_told_140 C hn o_t h_rec39 hf hH (lv_sub hl [1, 2, 3, 0, 5] rfl)
set_option maxRecDepth 100000 in
set_option maxHeartbeats 4000000 in
theorem j_X11_told_114 {p : Program} {l : Launch} {e : Env} {s : State} {m : MethodId} {args : Array Value} {below : List Frame} {meth : Method} {c : Code} {E : EE} {n : Nat} {o : (Int × Mem)} {t : Nat} {a1 : Int} {a2 : Int} {v5_39 : Int} {v4_39 : Int} {v3_39 : Int} {rec39 : Int → Int → Int → Mem → Option (Int × Mem)} {M58 : Mem} {v6_114 : Int} {H : Heap} {locs : List Loc} {ls : Array Slot} (C : Cx E p s m args meth c cX11_told 10 RX11 (some .int) n "told") (hn : nfull n) (o_t : ob n t 11) (h_rec39 : ∀ {v5_39 : Int} {v4_39 : Int} {v3_39 : Int} {M39 : Mem} {H : Heap} {locs : List Loc} {ls : Array Slot}, rec39 v5_39 v4_39 v3_39 M39 = some o → ST E s n (zf n) M39 H locs → lv_has ls 10 [(0, .ref (eb E + t)), (1, i3 a1), (2, i3 a2), (3, i3 v3_39), (4, i3 v4_39), (5, i3 v5_39)] → W p l e { frames := 4, cells := 0, slots := 0, locals := 101 } s m args below meth c H locs 0 0 (MQ below (QC E (some (i3 o.1)) n (zf n) o.2) args s 0 0 (fr E)) (F0 m 39 ls [])) (hf : fn_X11_told_J114 v5_39 v4_39 v3_39 rec39 M58 v6_114 = some o) (hH : ST E s n (zf n) M58 H locs) (hl : lv_has ls 10 [(0, .ref (eb E + t)), (1, i3 a1), (2, i3 a2), (3, i3 v3_39), (4, i3 v4_39), (5, i3 v5_39), (6, i3 v6_114)]) : W p l e { frames := 4, cells := 0, slots := 0, locals := 101 } s m args below meth c H locs 0 0 (MQ below (QC E (some (i3 o.1)) n (zf n) o.2) args s 0 0 (fr E)) (F0 m 114 ls []) := by
  unfold fn_X11_told_J114 at hf
  refine lv_iload C.hx C.hb dX11_told_114 (lv_at hl 4 rfl) ?_
  refine lv_iload C.hx C.hb dX11_told_116 (lv_at hl 6 rfl) ?_
  refine w_eq0 (tgt := 125) C hf dX11_told_118 (by decide) (fun hf => ?_) (fun hf => ?_)
  · refine lv_iconst (v := Int32.ofInt 0) C.hx C.hb dX11_told_125 rfl ?_
    exact j_X11_told_126 C hn o_t h_rec39 hf hH (lv_sub hl [0, 1, 2, 3, 5, 6] rfl)
  · refine lv_iconst (v := Int32.ofInt 1) C.hx C.hb dX11_told_121 rfl ?_
    refine lv_goto (tgt := 126) C.hx C.hb dX11_told_122 (by decide) ?_
    exact j_X11_told_126 C hn o_t h_rec39 hf hH (lv_sub hl [0, 1, 2, 3, 5, 6] rfl)
set_option maxRecDepth 100000 in
set_option maxHeartbeats 4000000 in
theorem j_X11_told_106 {p : Program} {l : Launch} {e : Env} {s : State} {m : MethodId} {args : Array Value} {below : List Frame} {meth : Method} {c : Code} {E : EE} {n : Nat} {o : (Int × Mem)} {t : Nat} {a1 : Int} {a2 : Int} {v5_39 : Int} {v4_39 : Int} {v3_39 : Int} {M58 : Mem} {v9_66 : Int} {rec66 : Int → Int → Option (Int × Mem)} {u0_106 : Int} {H : Heap} {locs : List Loc} {ls : Array Slot} (C : Cx E p s m args meth c cX11_told 10 RX11 (some .int) n "told") (hn : nfull n) (o_t : ob n t 11) (h_rec66 : ∀ {v9_66 : Int} {v6_66 : Int} {H : Heap} {locs : List Loc} {ls : Array Slot}, rec66 v9_66 v6_66 = some o → ST E s n (zf n) M58 H locs → lv_has ls 10 [(0, .ref (eb E + t)), (1, i3 a1), (2, i3 a2), (3, i3 v3_39), (4, i3 v4_39), (5, i3 v5_39), (6, i3 v6_66), (9, i3 v9_66)] → W p l e { frames := 4, cells := 0, slots := 0, locals := 101 } s m args below meth c H locs 0 0 (MQ below (QC E (some (i3 o.1)) n (zf n) o.2) args s 0 0 (fr E)) (F0 m 66 ls [])) (hf : fn_X11_told_J106 v9_66 rec66 u0_106 = some o) (hH : ST E s n (zf n) M58 H locs) (hl : lv_has ls 10 [(0, .ref (eb E + t)), (1, i3 a1), (2, i3 a2), (3, i3 v3_39), (4, i3 v4_39), (5, i3 v5_39), (9, i3 v9_66)]) : W p l e { frames := 4, cells := 0, slots := 0, locals := 101 } s m args below meth c H locs 0 0 (MQ below (QC E (some (i3 o.1)) n (zf n) o.2) args s 0 0 (fr E)) (F0 m 106 ls [i3 u0_106]) := by
  unfold fn_X11_told_J106 at hf
  refine lv_istore (lv' := [(6, i3 u0_106), (0, .ref (eb E + t)), (1, i3 a1), (2, i3 a2), (3, i3 v3_39), (4, i3 v4_39), (5, i3 v5_39), (9, i3 v9_66)]) C.hx C.hb dX11_told_106 hl (by decide) rfl (fun ls hl => ?_)
  refine r_iinc (k := 7) (lv' := fun v => [(9, i3 v), (6, i3 u0_106), (0, .ref (eb E + t)), (1, i3 a1), (2, i3 a2), (3, i3 v3_39), (4, i3 v4_39), (5, i3 v5_39)]) C hf dX11_told_108 hl rfl (by decide) (fun _ => rfl) (fun v9_108 ls hf hl => ?_)
  refine lv_goto (tgt := 66) C.hx C.hb dX11_told_111 (by decide) ?_
  exact h_rec66 hf hH (lv_sub hl [2, 3, 4, 5, 6, 7, 1, 0] rfl)
set_option maxRecDepth 100000 in
set_option maxHeartbeats 4000000 in
theorem j_X11_told_105 {p : Program} {l : Launch} {e : Env} {s : State} {m : MethodId} {args : Array Value} {below : List Frame} {meth : Method} {c : Code} {E : EE} {n : Nat} {o : (Int × Mem)} {t : Nat} {a1 : Int} {a2 : Int} {v5_39 : Int} {v4_39 : Int} {v3_39 : Int} {M58 : Mem} {v9_66 : Int} {rec66 : Int → Int → Option (Int × Mem)} {H : Heap} {locs : List Loc} {ls : Array Slot} (C : Cx E p s m args meth c cX11_told 10 RX11 (some .int) n "told") (hn : nfull n) (o_t : ob n t 11) (h_rec66 : ∀ {v9_66 : Int} {v6_66 : Int} {H : Heap} {locs : List Loc} {ls : Array Slot}, rec66 v9_66 v6_66 = some o → ST E s n (zf n) M58 H locs → lv_has ls 10 [(0, .ref (eb E + t)), (1, i3 a1), (2, i3 a2), (3, i3 v3_39), (4, i3 v4_39), (5, i3 v5_39), (6, i3 v6_66), (9, i3 v9_66)] → W p l e { frames := 4, cells := 0, slots := 0, locals := 101 } s m args below meth c H locs 0 0 (MQ below (QC E (some (i3 o.1)) n (zf n) o.2) args s 0 0 (fr E)) (F0 m 66 ls [])) (hf : fn_X11_told_J105 v9_66 rec66 = some o) (hH : ST E s n (zf n) M58 H locs) (hl : lv_has ls 10 [(0, .ref (eb E + t)), (1, i3 a1), (2, i3 a2), (3, i3 v3_39), (4, i3 v4_39), (5, i3 v5_39), (9, i3 v9_66)]) : W p l e { frames := 4, cells := 0, slots := 0, locals := 101 } s m args below meth c H locs 0 0 (MQ below (QC E (some (i3 o.1)) n (zf n) o.2) args s 0 0 (fr E)) (F0 m 105 ls []) := by
  unfold fn_X11_told_J105 at hf
  refine lv_iconst (v := Int32.ofInt 0) C.hx C.hb dX11_told_105 rfl ?_
  exact j_X11_told_106 C hn o_t h_rec66 hf hH (lv_sub hl [0, 1, 2, 3, 4, 5, 6] rfl)
set_option maxRecDepth 100000 in
set_option maxHeartbeats 4000000 in
theorem l_X11_told_66 {p : Program} {l : Launch} {e : Env} {s : State} {m : MethodId} {args : Array Value} {below : List Frame} {meth : Method} {c : Code} {E : EE} {n : Nat} {o : (Int × Mem)} {t : Nat} {a1 : Int} {a2 : Int} {v5_39 : Int} {v4_39 : Int} {v3_39 : Int} {rec39 : Int → Int → Int → Mem → Option (Int × Mem)} {M58 : Mem} (C : Cx E p s m args meth c cX11_told 10 RX11 (some .int) n "told") (hn : nfull n) (o_t : ob n t 11) (h_rec39 : ∀ {v5_39 : Int} {v4_39 : Int} {v3_39 : Int} {M39 : Mem} {H : Heap} {locs : List Loc} {ls : Array Slot}, rec39 v5_39 v4_39 v3_39 M39 = some o → ST E s n (zf n) M39 H locs → lv_has ls 10 [(0, .ref (eb E + t)), (1, i3 a1), (2, i3 a2), (3, i3 v3_39), (4, i3 v4_39), (5, i3 v5_39)] → W p l e { frames := 4, cells := 0, slots := 0, locals := 101 } s m args below meth c H locs 0 0 (MQ below (QC E (some (i3 o.1)) n (zf n) o.2) args s 0 0 (fr E)) (F0 m 39 ls [])) : ∀ (k : Nat) (v9_66 : Int) (v6_66 : Int) (H : Heap) (locs : List Loc) (ls : Array Slot), lq2 (fn_X11_told_L66 t v5_39 v4_39 v3_39 rec39 M58) k v9_66 v6_66 = some o → ST E s n (zf n) M58 H locs → lv_has ls 10 [(0, .ref (eb E + t)), (1, i3 a1), (2, i3 a2), (3, i3 v3_39), (4, i3 v4_39), (5, i3 v5_39), (6, i3 v6_66), (9, i3 v9_66)] → W p l e { frames := 4, cells := 0, slots := 0, locals := 101 } s m args below meth c H locs 0 0 (MQ below (QC E (some (i3 o.1)) n (zf n) o.2) args s 0 0 (fr E)) (F0 m 66 ls []) := by
  intro k
  induction k with
  | zero => intro v9_66 v6_66 H locs ls hf; cases hf
  | succ k ih =>
    intro v9_66 v6_66 H locs ls hf hH hl
    have h_rec66 : ∀ {v9_66 : Int} {v6_66 : Int} {H : Heap} {locs : List Loc} {ls : Array Slot}, lq2 (fn_X11_told_L66 t v5_39 v4_39 v3_39 rec39 M58) k v9_66 v6_66 = some o → ST E s n (zf n) M58 H locs → lv_has ls 10 [(0, .ref (eb E + t)), (1, i3 a1), (2, i3 a2), (3, i3 v3_39), (4, i3 v4_39), (5, i3 v5_39), (6, i3 v6_66), (9, i3 v9_66)] → W p l e { frames := 4, cells := 0, slots := 0, locals := 101 } s m args below meth c H locs 0 0 (MQ below (QC E (some (i3 o.1)) n (zf n) o.2) args s 0 0 (fr E)) (F0 m 66 ls []) := fun {v9_66} {v6_66} {H} {locs} {ls} a b c => ih v9_66 v6_66 H locs ls a b c
    replace hf : fn_X11_told_L66 t v5_39 v4_39 v3_39 rec39 M58 (lq2 (fn_X11_told_L66 t v5_39 v4_39 v3_39 rec39 M58) k) v9_66 v6_66 = some o := hf
    generalize lq2 (fn_X11_told_L66 t v5_39 v4_39 v3_39 rec39 M58) k = rec66 at hf h_rec66
    unfold fn_X11_told_L66 at hf
    refine lv_iload C.hx C.hb dX11_told_66 (lv_at hl 7 rfl) ?_
    refine lv_aload_n C.hx C.hb dX11_told_68 rfl (lv_at hl 0 rfl) ?_
    refine g_ref (off := 1) C hH o_t (by decide) rfl rfl FL_RX11_7 dX11_told_69 ?_
    refine lv_bipush (v := Int32.ofInt 8) C.hx C.hb dX11_told_72 (by decide) ?_
    refine r_iald C hH (ly (i := 0) (off := 1) (k := 12) hn o_t rfl rfl rfl) (lyn (i := 0) (off := 1) (N := 287) hn o_t rfl rfl rfl) hf dX11_told_74 (fun x74 hf => ?_)
    refine w_ge (tgt := 114) C hf dX11_told_75 (by decide) (fun hf => ?_) (fun hf => ?_)
    · exact j_X11_told_114 C hn o_t h_rec39 hf hH (lv_sub hl [0, 1, 2, 3, 4, 5, 6] rfl)
    · refine lv_iload C.hx C.hb dX11_told_78 (lv_at hl 6 rfl) ?_
      refine w_eq0 (tgt := 105) C hf dX11_told_80 (by decide) (fun hf => ?_) (fun hf => ?_)
      · exact j_X11_told_105 C hn o_t h_rec66 hf hH (lv_sub hl [0, 1, 2, 3, 4, 5, 7] rfl)
      · refine lv_aload_n C.hx C.hb dX11_told_83 rfl (lv_at hl 0 rfl) ?_
        refine g_ref (off := 25) C hH o_t (by decide) rfl rfl FL_RX11_92 dX11_told_84 ?_
        refine lv_iload C.hx C.hb dX11_told_87 (lv_at hl 7 rfl) ?_
        refine r_lald C hH (ly (i := 41) (off := 25) (k := 15) hn o_t rfl rfl rfl) (lyn (i := 41) (off := 25) (N := 3) hn o_t rfl rfl rfl) hf dX11_told_89 (fun x89 hf => ?_)
        refine lv_aload_n C.hx C.hb dX11_told_90 rfl (lv_at hl 0 rfl) ?_
        refine g_ref (off := 24) C hH o_t (by decide) rfl rfl FL_RX11_89 dX11_told_91 ?_
        refine lv_iload C.hx C.hb dX11_told_94 (lv_at hl 7 rfl) ?_
        refine r_lald C hH (ly (i := 40) (off := 24) (k := 15) hn o_t rfl rfl rfl) (lyn (i := 40) (off := 24) (N := 3) hn o_t rfl rfl rfl) hf dX11_told_96 (fun x96 hf => ?_)
        refine w_lne (tgt := 105) C hf dX11_told_97 dX11_told_98 (by decide) (fun hf => ?_) (fun hf => ?_)
        · exact j_X11_told_105 C hn o_t h_rec66 hf hH (lv_sub hl [0, 1, 2, 3, 4, 5, 7] rfl)
        · refine lv_iconst (v := Int32.ofInt 1) C.hx C.hb dX11_told_101 rfl ?_
          refine lv_goto (tgt := 106) C.hx C.hb dX11_told_102 (by decide) ?_
          exact j_X11_told_106 C hn o_t h_rec66 hf hH (lv_sub hl [0, 1, 2, 3, 4, 5, 7] rfl)
set_option maxRecDepth 100000 in
set_option maxHeartbeats 4000000 in
theorem l_X11_told_39 {p : Program} {l : Launch} {e : Env} {s : State} {m : MethodId} {args : Array Value} {below : List Frame} {meth : Method} {c : Code} {E : EE} {n : Nat} {o : (Int × Mem)} {t : Nat} {a1 : Int} {a2 : Int} (C : Cx E p s m args meth c cX11_told 10 RX11 (some .int) n "told") (hn : nfull n) (o_t : ob n t 11) : ∀ (k : Nat) (v5_39 : Int) (v4_39 : Int) (v3_39 : Int) (M39 : Mem) (H : Heap) (locs : List Loc) (ls : Array Slot), lq4 (fn_X11_told_L39 t a1 a2) k v5_39 v4_39 v3_39 M39 = some o → ST E s n (zf n) M39 H locs → lv_has ls 10 [(0, .ref (eb E + t)), (1, i3 a1), (2, i3 a2), (3, i3 v3_39), (4, i3 v4_39), (5, i3 v5_39)] → W p l e { frames := 4, cells := 0, slots := 0, locals := 101 } s m args below meth c H locs 0 0 (MQ below (QC E (some (i3 o.1)) n (zf n) o.2) args s 0 0 (fr E)) (F0 m 39 ls []) := by
  intro k
  induction k with
  | zero => intro v5_39 v4_39 v3_39 M39 H locs ls hf; cases hf
  | succ k ih =>
    intro v5_39 v4_39 v3_39 M39 H locs ls hf hH hl
    have h_rec39 : ∀ {v5_39 : Int} {v4_39 : Int} {v3_39 : Int} {M39 : Mem} {H : Heap} {locs : List Loc} {ls : Array Slot}, lq4 (fn_X11_told_L39 t a1 a2) k v5_39 v4_39 v3_39 M39 = some o → ST E s n (zf n) M39 H locs → lv_has ls 10 [(0, .ref (eb E + t)), (1, i3 a1), (2, i3 a2), (3, i3 v3_39), (4, i3 v4_39), (5, i3 v5_39)] → W p l e { frames := 4, cells := 0, slots := 0, locals := 101 } s m args below meth c H locs 0 0 (MQ below (QC E (some (i3 o.1)) n (zf n) o.2) args s 0 0 (fr E)) (F0 m 39 ls []) := fun {v5_39} {v4_39} {v3_39} {M39} {H} {locs} {ls} a b c => ih v5_39 v4_39 v3_39 M39 H locs ls a b c
    replace hf : fn_X11_told_L39 t a1 a2 (lq4 (fn_X11_told_L39 t a1 a2) k) v5_39 v4_39 v3_39 M39 = some o := hf
    generalize lq4 (fn_X11_told_L39 t a1 a2) k = rec39 at hf h_rec39
    unfold fn_X11_told_L39 at hf
    refine lv_iload C.hx C.hb dX11_told_39 (lv_at hl 5 rfl) ?_
    refine lv_aload_n C.hx C.hb dX11_told_41 rfl (lv_at hl 0 rfl) ?_
    refine g_ref (off := 1) C hH o_t (by decide) rfl rfl FL_RX11_7 dX11_told_42 ?_
    refine lv_iconst (v := Int32.ofInt 0) C.hx C.hb dX11_told_45 rfl ?_
    refine r_iald C hH (ly (i := 0) (off := 1) (k := 12) hn o_t rfl rfl rfl) (lyn (i := 0) (off := 1) (N := 287) hn o_t rfl rfl rfl) hf dX11_told_46 (fun x46 hf => ?_)
    refine w_ge (tgt := 147) C hf dX11_told_47 (by decide) (fun hf => ?_) (fun hf => ?_)
    · exact j_X11_told_147 C hn hf hH (lv_sub hl [3, 4] rfl)
    · refine lv_iconst (v := Int32.ofInt 1) C.hx C.hb dX11_told_50 rfl ?_
      refine lv_istore (lv' := [(6, i3 1), (0, .ref (eb E + t)), (1, i3 a1), (2, i3 a2), (3, i3 v3_39), (4, i3 v4_39), (5, i3 v5_39)]) C.hx C.hb dX11_told_51 hl (by decide) rfl (fun ls hl => ?_)
      refine lv_aload_n C.hx C.hb dX11_told_53 rfl (lv_at hl 1 rfl) ?_
      refine lv_iload C.hx C.hb dX11_told_54 (lv_at hl 6 rfl) ?_
      refine lv_iload_n C.hx C.hb dX11_told_56 rfl (lv_at hl 2 rfl) ?_
      refine lv_iload_n C.hx C.hb dX11_told_57 rfl (lv_at hl 3 rfl) ?_
      obtain ⟨x58, M58, hc9, hf⟩ := cl_of hf
      refine r_callVi (rest := []) C hH hl o_t (by decide) rfl (m_X11_laysPart hn o_t hc9) ML_RX11_359 MF_X11_laysPart MI_X11_laysPart rfl rfl (Nat.le_of_ble_eq_true rfl) ⟨Nat.le_of_ble_eq_true rfl, Nat.le_of_ble_eq_true rfl⟩ ⟨Nat.le_refl _, Nat.le_refl _⟩ dX11_told_58 (fun H locs hH => ?_)
      refine lv_lstore (lv' := [(7, l6 x58), (6, i3 1), (0, .ref (eb E + t)), (1, i3 a1), (2, i3 a2), (3, i3 v3_39), (4, i3 v4_39), (5, i3 v5_39)]) C.hx C.hb dX11_told_61 hl (by decide) rfl (fun ls hl => ?_)
      refine lv_iconst (v := Int32.ofInt 0) C.hx C.hb dX11_told_63 rfl ?_
      refine lv_istore (lv' := [(9, i3 0), (7, l6 x58), (6, i3 1), (0, .ref (eb E + t)), (1, i3 a1), (2, i3 a2), (3, i3 v3_39), (4, i3 v4_39), (5, i3 v5_39)]) C.hx C.hb dX11_told_64 hl (by decide) rfl (fun ls hl => ?_)
      exact l_X11_told_66 C hn o_t h_rec39 FU _ _ _ _ _ hf hH (lv_sub hl [3, 4, 5, 6, 7, 8, 2, 0] rfl)
set_option maxRecDepth 100000 in
set_option maxHeartbeats 4000000 in
theorem m_X11_told {E : EE} {l : Launch} {n : Nat} {t : Nat} {a1 : Int} {a2 : Int} {M : Mem} {o : (Int × Mem)} (hn : nfull n) (o_t : ob n t 11) (hf : fn_X11_told t a1 a2 M = some o) : CT E l yX11_told cX11_told 10 (some .int) 4 101 0 0 [.ref (eb E + t), i3 a1, i3 a2] n (zf n) M (some (i3 o.1)) n (zf n) o.2 := by
  refine CT_of PN_RX11 (Nat.le_of_ble_eq_true rfl) ?_
  intro p e s m args below meth c C hH ls hl
  replace C : Cx E p s m args meth c cX11_told 10 RX11 (some .int) n "told" := C
  have hl : lv_has ls 10 [(0, .ref (eb E + t)), (1, i3 a1), (2, i3 a2)] := hl
  unfold fn_X11_told at hf
  refine lv_iload_n C.hx C.hb dX11_told_0 rfl (lv_at hl 1 rfl) ?_
  refine lv_iconst (v := Int32.ofInt 0) C.hx C.hb dX11_told_1 rfl ?_
  refine lv_iconst (v := Int32.ofInt 4) C.hx C.hb dX11_told_2 rfl ?_
  obtain ⟨x3, hc9, hf⟩ := cu_of hf
  refine r_callSi (rest := []) C hH hl (m_X11_in hn hc9) ML_RX11_115 MF_X11_in MS_X11_in rfl rfl (Nat.le_of_ble_eq_true rfl) ⟨Nat.le_of_ble_eq_true rfl, Nat.le_of_ble_eq_true rfl⟩ ⟨Nat.le_refl _, Nat.le_refl _⟩ dX11_told_3 (fun H locs hH => ?_)
  refine w_eq0 (tgt := 29) C hf dX11_told_6 (by decide) (fun hf => ?_) (fun hf => ?_)
  · refine lv_iconst (v := Int32.ofInt (-1)) C.hx C.hb dX11_told_29 rfl ?_
    cases hf
    exact w_iret C hH dX11_told_30
  · refine lv_iload_n C.hx C.hb dX11_told_9 rfl (lv_at hl 2 rfl) ?_
    refine lv_iload_n C.hx C.hb dX11_told_10 rfl (lv_at hl 1 rfl) ?_
    refine lv_iconst (v := Int32.ofInt 4) C.hx C.hb dX11_told_11 rfl ?_
    obtain ⟨x12, hc9, hf⟩ := cu_of hf
    refine r_callSi (rest := []) C hH hl (m_X11_in hn hc9) ML_RX11_115 MF_X11_in MS_X11_in rfl rfl (Nat.le_of_ble_eq_true rfl) ⟨Nat.le_of_ble_eq_true rfl, Nat.le_of_ble_eq_true rfl⟩ ⟨Nat.le_refl _, Nat.le_refl _⟩ dX11_told_12 (fun H locs hH => ?_)
    refine w_eq0 (tgt := 29) C hf dX11_told_15 (by decide) (fun hf => ?_) (fun hf => ?_)
    · refine lv_iconst (v := Int32.ofInt (-1)) C.hx C.hb dX11_told_29 rfl ?_
      cases hf
      exact w_iret C hH dX11_told_30
    · refine lv_aload_n C.hx C.hb dX11_told_18 rfl (lv_at hl 0 rfl) ?_
      refine lv_iload_n C.hx C.hb dX11_told_19 rfl (lv_at hl 1 rfl) ?_
      refine lv_iload_n C.hx C.hb dX11_told_20 rfl (lv_at hl 2 rfl) ?_
      obtain ⟨x21, M21, hc9, hf⟩ := cl_of hf
      refine r_callVi (rest := []) C hH hl o_t (by decide) rfl (m_X11_laysWhole hn o_t hc9) ML_RX11_355 MF_X11_laysWhole MI_X11_laysWhole rfl rfl (Nat.le_of_ble_eq_true rfl) ⟨Nat.le_of_ble_eq_true rfl, Nat.le_of_ble_eq_true rfl⟩ ⟨Nat.le_refl _, Nat.le_refl _⟩ dX11_told_21 (fun H locs hH => ?_)
      refine lv_lconst (v := Int64.ofInt 0) C.hx C.hb dX11_told_24 (by decide) ?_
      refine w_lne (tgt := 31) C hf dX11_told_25 dX11_told_26 (by decide) (fun hf => ?_) (fun hf => ?_)
      · refine lv_iconst (v := Int32.ofInt (-1)) C.hx C.hb dX11_told_31 rfl ?_
        refine lv_istore_n (lv' := [(3, i3 (-1)), (0, .ref (eb E + t)), (1, i3 a1), (2, i3 a2)]) C.hx C.hb dX11_told_32 rfl hl (by decide) rfl (fun ls hl => ?_)
        refine lv_iconst (v := Int32.ofInt 0) C.hx C.hb dX11_told_33 rfl ?_
        refine lv_istore (lv' := [(4, i3 0), (3, i3 (-1)), (0, .ref (eb E + t)), (1, i3 a1), (2, i3 a2)]) C.hx C.hb dX11_told_34 hl (by decide) rfl (fun ls hl => ?_)
        refine lv_iconst (v := Int32.ofInt 0) C.hx C.hb dX11_told_36 rfl ?_
        refine lv_istore (lv' := [(5, i3 0), (4, i3 0), (3, i3 (-1)), (0, .ref (eb E + t)), (1, i3 a1), (2, i3 a2)]) C.hx C.hb dX11_told_37 hl (by decide) rfl (fun ls hl => ?_)
        exact l_X11_told_39 C hn o_t FU _ _ _ _ _ _ _ hf hH (lv_sub hl [3, 4, 5, 2, 1, 0] rfl)
      · refine lv_iconst (v := Int32.ofInt (-1)) C.hx C.hb dX11_told_29 rfl ?_
        cases hf
        exact w_iret C hH dX11_told_30
-- HeavierByHandModel.isNew
def fn_X11_isNew_J14 (t : Nat) (a1 : Int) (M : Mem) (u0_14 : Int) : Option (Int × Mem) :=
  wz M (t + 28) 181 a1 1 fun M21 => ck (u0_14 = 0 ∨ u0_14 = 1) (some (u0_14, M21))
def fn_X11_isNew (t : Nat) (a1 : Int) (M : Mem) : Option (Int × Mem) :=
  rd M (t + 28) 181 a1 fun x5 => cEq x5 0 (fn_X11_isNew_J14 t a1 M 1) (fn_X11_isNew_J14 t a1 M 0)
set_option maxRecDepth 100000 in
set_option maxHeartbeats 4000000 in
theorem j_X11_isNew_14 {p : Program} {l : Launch} {e : Env} {s : State} {m : MethodId} {args : Array Value} {below : List Frame} {meth : Method} {c : Code} {E : EE} {n : Nat} {o : (Int × Mem)} {t : Nat} {a1 : Int} {M : Mem} {u0_14 : Int} {H : Heap} {locs : List Loc} {ls : Array Slot} (C : Cx E p s m args meth c cX11_isNew 3 RX11 (some .boolean) n "isNew") (hn : nfull n) (o_t : ob n t 11) (hf : fn_X11_isNew_J14 t a1 M u0_14 = some o) (hH : ST E s n (zf n) M H locs) (hl : lv_has ls 3 [(0, .ref (eb E + t)), (1, i3 a1)]) : W p l e { frames := 0, cells := 0, slots := 0, locals := 0 } s m args below meth c H locs 0 0 (MQ below (QC E (some (i3 o.1)) n (zf n) o.2) args s 0 0 (fr E)) (F0 m 14 ls [i3 u0_14]) := by
  unfold fn_X11_isNew_J14 at hf
  refine lv_istore_n (lv' := [(2, i3 u0_14), (0, .ref (eb E + t)), (1, i3 a1)]) C.hx C.hb dX11_isNew_14 rfl hl (by decide) rfl (fun ls hl => ?_)
  refine lv_aload_n C.hx C.hb dX11_isNew_15 rfl (lv_at hl 1 rfl) ?_
  refine g_ref (off := 28) C hH o_t (by decide) rfl rfl FL_RX11_101 dX11_isNew_16 ?_
  refine lv_iload_n C.hx C.hb dX11_isNew_19 rfl (lv_at hl 2 rfl) ?_
  refine lv_iconst (v := Int32.ofInt 1) C.hx C.hb dX11_isNew_20 rfl ?_
  refine r_zast C hH (ly (i := 44) (off := 28) (k := 14) hn o_t rfl rfl rfl) (lyn (i := 44) (off := 28) (N := 180) hn o_t rfl rfl rfl) hf dX11_isNew_21 (fun M21 H locs hf hH => ?_)
  refine lv_iload_n C.hx C.hb dX11_isNew_22 rfl (lv_at hl 0 rfl) ?_
  obtain ⟨hB9, hf⟩ := ck_of hf
  cases hf
  exact w_zret C hH hB9 dX11_isNew_23
set_option maxRecDepth 100000 in
set_option maxHeartbeats 4000000 in
theorem m_X11_isNew {E : EE} {l : Launch} {n : Nat} {t : Nat} {a1 : Int} {M : Mem} {o : (Int × Mem)} (hn : nfull n) (o_t : ob n t 11) (hf : fn_X11_isNew t a1 M = some o) : CT E l yX11_isNew cX11_isNew 3 (some .boolean) 0 0 0 0 [.ref (eb E + t), i3 a1] n (zf n) M (some (i3 o.1)) n (zf n) o.2 := by
  refine CT_of PN_RX11 (Nat.le_of_ble_eq_true rfl) ?_
  intro p e s m args below meth c C hH ls hl
  replace C : Cx E p s m args meth c cX11_isNew 3 RX11 (some .boolean) n "isNew" := C
  have hl : lv_has ls 3 [(0, .ref (eb E + t)), (1, i3 a1)] := hl
  unfold fn_X11_isNew at hf
  refine lv_aload_n C.hx C.hb dX11_isNew_0 rfl (lv_at hl 0 rfl) ?_
  refine g_ref (off := 28) C hH o_t (by decide) rfl rfl FL_RX11_101 dX11_isNew_1 ?_
  refine lv_iload_n C.hx C.hb dX11_isNew_4 rfl (lv_at hl 1 rfl) ?_
  refine r_zald C hH (ly (i := 44) (off := 28) (k := 14) hn o_t rfl rfl rfl) (lyn (i := 44) (off := 28) (N := 180) hn o_t rfl rfl rfl) hf dX11_isNew_5 (fun x5 hf => ?_)
  refine w_ne0 (tgt := 13) C hf dX11_isNew_6 (by decide) (fun hf => ?_) (fun hf => ?_)
  · refine lv_iconst (v := Int32.ofInt 0) C.hx C.hb dX11_isNew_13 rfl ?_
    exact j_X11_isNew_14 C hn o_t hf hH (lv_sub hl [0, 1] rfl)
  · refine lv_iconst (v := Int32.ofInt 1) C.hx C.hb dX11_isNew_9 rfl ?_
    refine lv_goto (tgt := 14) C.hx C.hb dX11_isNew_10 (by decide) ?_
    exact j_X11_isNew_14 C hn o_t hf hH (lv_sub hl [0, 1] rfl)
-- HeavierByHandModel.areUnlike
def fn_X11_areUnlike_J193 (v5_67 : Int) (rec67 : Int → Int → Mem → Option (Int × Mem)) (v4_193 : Int) (M193 : Mem) : Option (Int × Mem) :=
  nm (v5_67 + 1) fun v5_193 => rec67 v5_193 v4_193 M193
def fn_X11_areUnlike_J187 (v6_95 : Int) (rec95 : Int → Int → Mem → Option (Int × Mem)) (v4_187 : Int) (M187 : Mem) : Option (Int × Mem) :=
  nm (v6_95 + 1) fun v6_187 => rec95 v6_187 v4_187 M187
def fn_X11_areUnlike_L136 (t : Nat) (a1 : Int) (a2 : Int) (v5_67 : Int) (v6_95 : Int) (rec95 : Int → Int → Mem → Option (Int × Mem)) (rec136 : Int → Int → Mem → Option (Int × Mem)) (v7_136 : Int) (v4_136 : Int) (M136 : Mem) : Option (Int × Mem) :=
  cLt a1 v7_136 (fn_X11_areUnlike_J187 v6_95 rec95 v4_136 M136) (cEq v4_136 0 (fn_X11_areUnlike_J187 v6_95 rec95 v4_136 M136) (cLt 2 a2 (rd M136 (t + 27) 6 v5_67 fun x159 => rd M136 (t + 27) 6 v6_95 fun x166 => rd M136 (t + 27) 6 v7_136 fun x174 => cl (fn_X11_isNew t ((x159 + x166) + x174) M136) fun x176 M176 => nm (v7_136 + 1) fun v7_181 => rec136 v7_181 x176 M176) (fn_X11_areUnlike_J187 v6_95 rec95 v4_136 M136)))
def fn_X11_areUnlike_L95 (t : Nat) (a1 : Int) (a2 : Int) (v5_67 : Int) (rec67 : Int → Int → Mem → Option (Int × Mem)) (rec95 : Int → Int → Mem → Option (Int × Mem)) (v6_95 : Int) (v4_95 : Int) (M95 : Mem) : Option (Int × Mem) :=
  cLt a1 v6_95 (fn_X11_areUnlike_J193 v5_67 rec67 v4_95 M95) (cEq v4_95 0 (fn_X11_areUnlike_J193 v5_67 rec67 v4_95 M95) (cLt 1 a2 (rd M95 (t + 27) 6 v5_67 fun x118 => rd M95 (t + 27) 6 v6_95 fun x125 => cl (fn_X11_isNew t (x118 + x125) M95) fun x127 M127 => lq3 (fn_X11_areUnlike_L136 t a1 a2 v5_67 v6_95 rec95) FU v6_95 x127 M127) (fn_X11_areUnlike_J193 v5_67 rec67 v4_95 M95)))
def fn_X11_areUnlike_L67 (t : Nat) (a1 : Int) (a2 : Int) (rec67 : Int → Int → Mem → Option (Int × Mem)) (v5_67 : Int) (v4_67 : Int) (M67 : Mem) : Option (Int × Mem) :=
  cLt a1 v5_67 (ck (v4_67 = 0 ∨ v4_67 = 1) (some (v4_67, M67))) (cEq v4_67 0 (ck (v4_67 = 0 ∨ v4_67 = 1) (some (v4_67, M67))) (rd M67 (t + 27) 6 v5_67 fun x85 => cl (fn_X11_isNew t x85 M67) fun x86 M86 => lq3 (fn_X11_areUnlike_L95 t a1 a2 v5_67 rec67) FU v5_67 x86 M86))
def fn_X11_areUnlike_J54 (t : Nat) (a1 : Int) (a2 : Int) (a3 : Int) (M54 : Mem) : Option (Int × Mem) :=
  wr M54 (t + 27) 6 a1 a3 fun M60 => lq3 (fn_X11_areUnlike_L67 t a1 a2) FU 0 1 M60
def fn_X11_areUnlike_L28 (t : Nat) (a1 : Int) (a2 : Int) (a3 : Int) (rec28 : Int → Mem → Option (Int × Mem)) (v4_28 : Int) (M28 : Mem) : Option (Int × Mem) :=
  cLt v4_28 a1 (rd M28 (t + 26) 5 v4_28 fun x46 => wr M28 (t + 27) 6 v4_28 x46 fun M47 => nm (v4_28 + 1) fun v4_48 => rec28 v4_48 M47) (fn_X11_areUnlike_J54 t a1 a2 a3 M28)
def fn_X11_areUnlike_J25 (t : Nat) (a1 : Int) (a2 : Int) (a3 : Int) (M25 : Mem) : Option (Int × Mem) :=
  lq2 (fn_X11_areUnlike_L28 t a1 a2 a3) FU 0 M25
def fn_X11_areUnlike_L3 (t : Nat) (a1 : Int) (a2 : Int) (a3 : Int) (rec3 : Int → Mem → Option (Int × Mem)) (v4_3 : Int) (M3 : Mem) : Option (Int × Mem) :=
  cLt v4_3 181 (wz M3 (t + 28) 181 v4_3 0 fun M18 => nm (v4_3 + 1) fun v4_19 => rec3 v4_19 M18) (fn_X11_areUnlike_J25 t a1 a2 a3 M3)
def fn_X11_areUnlike (t : Nat) (a1 : Int) (a2 : Int) (a3 : Int) (M : Mem) : Option (Int × Mem) :=
  lq2 (fn_X11_areUnlike_L3 t a1 a2 a3) FU 0 M
set_option maxRecDepth 100000 in
set_option maxHeartbeats 4000000 in
theorem j_X11_areUnlike_193 {p : Program} {l : Launch} {e : Env} {s : State} {m : MethodId} {args : Array Value} {below : List Frame} {meth : Method} {c : Code} {E : EE} {n : Nat} {o : (Int × Mem)} {t : Nat} {a1 : Int} {a2 : Int} {v5_67 : Int} {rec67 : Int → Int → Mem → Option (Int × Mem)} {v4_193 : Int} {M193 : Mem} {H : Heap} {locs : List Loc} {ls : Array Slot} (C : Cx E p s m args meth c cX11_areUnlike 8 RX11 (some .boolean) n "areUnlike") (hn : nfull n) (o_t : ob n t 11) (h_rec67 : ∀ {v5_67 : Int} {v4_67 : Int} {M67 : Mem} {H : Heap} {locs : List Loc} {ls : Array Slot}, rec67 v5_67 v4_67 M67 = some o → ST E s n (zf n) M67 H locs → lv_has ls 8 [(0, .ref (eb E + t)), (1, i3 a1), (2, i3 a2), (4, i3 v4_67), (5, i3 v5_67)] → W p l e { frames := 1, cells := 0, slots := 0, locals := 22 } s m args below meth c H locs 0 0 (MQ below (QC E (some (i3 o.1)) n (zf n) o.2) args s 0 0 (fr E)) (F0 m 67 ls [])) (hf : fn_X11_areUnlike_J193 v5_67 rec67 v4_193 M193 = some o) (hH : ST E s n (zf n) M193 H locs) (hl : lv_has ls 8 [(0, .ref (eb E + t)), (1, i3 a1), (2, i3 a2), (4, i3 v4_193), (5, i3 v5_67)]) : W p l e { frames := 1, cells := 0, slots := 0, locals := 22 } s m args below meth c H locs 0 0 (MQ below (QC E (some (i3 o.1)) n (zf n) o.2) args s 0 0 (fr E)) (F0 m 193 ls []) := by
  unfold fn_X11_areUnlike_J193 at hf
  refine r_iinc (k := 4) (lv' := fun v => [(5, i3 v), (0, .ref (eb E + t)), (1, i3 a1), (2, i3 a2), (4, i3 v4_193)]) C hf dX11_areUnlike_193 hl rfl (by decide) (fun _ => rfl) (fun v5_193 ls hf hl => ?_)
  refine lv_goto (tgt := 67) C.hx C.hb dX11_areUnlike_196 (by decide) ?_
  exact h_rec67 hf hH (lv_sub hl [1, 2, 3, 4, 0] rfl)
set_option maxRecDepth 100000 in
set_option maxHeartbeats 4000000 in
theorem j_X11_areUnlike_187 {p : Program} {l : Launch} {e : Env} {s : State} {m : MethodId} {args : Array Value} {below : List Frame} {meth : Method} {c : Code} {E : EE} {n : Nat} {o : (Int × Mem)} {t : Nat} {a1 : Int} {a2 : Int} {v5_67 : Int} {v6_95 : Int} {rec95 : Int → Int → Mem → Option (Int × Mem)} {v4_187 : Int} {M187 : Mem} {H : Heap} {locs : List Loc} {ls : Array Slot} (C : Cx E p s m args meth c cX11_areUnlike 8 RX11 (some .boolean) n "areUnlike") (hn : nfull n) (o_t : ob n t 11) (h_rec95 : ∀ {v6_95 : Int} {v4_95 : Int} {M95 : Mem} {H : Heap} {locs : List Loc} {ls : Array Slot}, rec95 v6_95 v4_95 M95 = some o → ST E s n (zf n) M95 H locs → lv_has ls 8 [(0, .ref (eb E + t)), (1, i3 a1), (2, i3 a2), (4, i3 v4_95), (5, i3 v5_67), (6, i3 v6_95)] → W p l e { frames := 1, cells := 0, slots := 0, locals := 22 } s m args below meth c H locs 0 0 (MQ below (QC E (some (i3 o.1)) n (zf n) o.2) args s 0 0 (fr E)) (F0 m 95 ls [])) (hf : fn_X11_areUnlike_J187 v6_95 rec95 v4_187 M187 = some o) (hH : ST E s n (zf n) M187 H locs) (hl : lv_has ls 8 [(0, .ref (eb E + t)), (1, i3 a1), (2, i3 a2), (4, i3 v4_187), (5, i3 v5_67), (6, i3 v6_95)]) : W p l e { frames := 1, cells := 0, slots := 0, locals := 22 } s m args below meth c H locs 0 0 (MQ below (QC E (some (i3 o.1)) n (zf n) o.2) args s 0 0 (fr E)) (F0 m 187 ls []) := by
  unfold fn_X11_areUnlike_J187 at hf
  refine r_iinc (k := 5) (lv' := fun v => [(6, i3 v), (0, .ref (eb E + t)), (1, i3 a1), (2, i3 a2), (4, i3 v4_187), (5, i3 v5_67)]) C hf dX11_areUnlike_187 hl rfl (by decide) (fun _ => rfl) (fun v6_187 ls hf hl => ?_)
  refine lv_goto (tgt := 95) C.hx C.hb dX11_areUnlike_190 (by decide) ?_
  exact h_rec95 hf hH (lv_sub hl [1, 2, 3, 4, 5, 0] rfl)
set_option maxRecDepth 100000 in
set_option maxHeartbeats 4000000 in
theorem l_X11_areUnlike_136 {p : Program} {l : Launch} {e : Env} {s : State} {m : MethodId} {args : Array Value} {below : List Frame} {meth : Method} {c : Code} {E : EE} {n : Nat} {o : (Int × Mem)} {t : Nat} {a1 : Int} {a2 : Int} {v5_67 : Int} {v6_95 : Int} {rec95 : Int → Int → Mem → Option (Int × Mem)} (C : Cx E p s m args meth c cX11_areUnlike 8 RX11 (some .boolean) n "areUnlike") (hn : nfull n) (o_t : ob n t 11) (h_rec95 : ∀ {v6_95 : Int} {v4_95 : Int} {M95 : Mem} {H : Heap} {locs : List Loc} {ls : Array Slot}, rec95 v6_95 v4_95 M95 = some o → ST E s n (zf n) M95 H locs → lv_has ls 8 [(0, .ref (eb E + t)), (1, i3 a1), (2, i3 a2), (4, i3 v4_95), (5, i3 v5_67), (6, i3 v6_95)] → W p l e { frames := 1, cells := 0, slots := 0, locals := 22 } s m args below meth c H locs 0 0 (MQ below (QC E (some (i3 o.1)) n (zf n) o.2) args s 0 0 (fr E)) (F0 m 95 ls [])) : ∀ (k : Nat) (v7_136 : Int) (v4_136 : Int) (M136 : Mem) (H : Heap) (locs : List Loc) (ls : Array Slot), lq3 (fn_X11_areUnlike_L136 t a1 a2 v5_67 v6_95 rec95) k v7_136 v4_136 M136 = some o → ST E s n (zf n) M136 H locs → lv_has ls 8 [(0, .ref (eb E + t)), (1, i3 a1), (2, i3 a2), (4, i3 v4_136), (5, i3 v5_67), (6, i3 v6_95), (7, i3 v7_136)] → W p l e { frames := 1, cells := 0, slots := 0, locals := 22 } s m args below meth c H locs 0 0 (MQ below (QC E (some (i3 o.1)) n (zf n) o.2) args s 0 0 (fr E)) (F0 m 136 ls []) := by
  intro k
  induction k with
  | zero => intro v7_136 v4_136 M136 H locs ls hf; cases hf
  | succ k ih =>
    intro v7_136 v4_136 M136 H locs ls hf hH hl
    have h_rec136 : ∀ {v7_136 : Int} {v4_136 : Int} {M136 : Mem} {H : Heap} {locs : List Loc} {ls : Array Slot}, lq3 (fn_X11_areUnlike_L136 t a1 a2 v5_67 v6_95 rec95) k v7_136 v4_136 M136 = some o → ST E s n (zf n) M136 H locs → lv_has ls 8 [(0, .ref (eb E + t)), (1, i3 a1), (2, i3 a2), (4, i3 v4_136), (5, i3 v5_67), (6, i3 v6_95), (7, i3 v7_136)] → W p l e { frames := 1, cells := 0, slots := 0, locals := 22 } s m args below meth c H locs 0 0 (MQ below (QC E (some (i3 o.1)) n (zf n) o.2) args s 0 0 (fr E)) (F0 m 136 ls []) := fun {v7_136} {v4_136} {M136} {H} {locs} {ls} a b c => ih v7_136 v4_136 M136 H locs ls a b c
    replace hf : fn_X11_areUnlike_L136 t a1 a2 v5_67 v6_95 rec95 (lq3 (fn_X11_areUnlike_L136 t a1 a2 v5_67 v6_95 rec95) k) v7_136 v4_136 M136 = some o := hf
    generalize lq3 (fn_X11_areUnlike_L136 t a1 a2 v5_67 v6_95 rec95) k = rec136 at hf h_rec136
    unfold fn_X11_areUnlike_L136 at hf
    refine lv_iload C.hx C.hb dX11_areUnlike_136 (lv_at hl 6 rfl) ?_
    refine lv_iload_n C.hx C.hb dX11_areUnlike_138 rfl (lv_at hl 1 rfl) ?_
    refine w_gt (tgt := 187) C hf dX11_areUnlike_139 (by decide) (fun hf => ?_) (fun hf => ?_)
    · exact j_X11_areUnlike_187 C hn o_t h_rec95 hf hH (lv_sub hl [0, 1, 2, 3, 4, 5] rfl)
    · refine lv_iload C.hx C.hb dX11_areUnlike_142 (lv_at hl 3 rfl) ?_
      refine w_eq0 (tgt := 187) C hf dX11_areUnlike_144 (by decide) (fun hf => ?_) (fun hf => ?_)
      · exact j_X11_areUnlike_187 C hn o_t h_rec95 hf hH (lv_sub hl [0, 1, 2, 3, 4, 5] rfl)
      · refine lv_iload_n C.hx C.hb dX11_areUnlike_147 rfl (lv_at hl 2 rfl) ?_
        refine lv_iconst (v := Int32.ofInt 2) C.hx C.hb dX11_areUnlike_148 rfl ?_
        refine w_le (tgt := 187) C hf dX11_areUnlike_149 (by decide) (fun hf => ?_) (fun hf => ?_)
        · exact j_X11_areUnlike_187 C hn o_t h_rec95 hf hH (lv_sub hl [0, 1, 2, 3, 4, 5] rfl)
        · refine lv_aload_n C.hx C.hb dX11_areUnlike_152 rfl (lv_at hl 0 rfl) ?_
          refine lv_aload_n C.hx C.hb dX11_areUnlike_153 rfl (lv_at hl 0 rfl) ?_
          refine g_ref (off := 27) C hH o_t (by decide) rfl rfl FL_RX11_98 dX11_areUnlike_154 ?_
          refine lv_iload C.hx C.hb dX11_areUnlike_157 (lv_at hl 4 rfl) ?_
          refine r_iald C hH (ly (i := 43) (off := 27) (k := 12) hn o_t rfl rfl rfl) (lyn (i := 43) (off := 27) (N := 5) hn o_t rfl rfl rfl) hf dX11_areUnlike_159 (fun x159 hf => ?_)
          refine lv_aload_n C.hx C.hb dX11_areUnlike_160 rfl (lv_at hl 0 rfl) ?_
          refine g_ref (off := 27) C hH o_t (by decide) rfl rfl FL_RX11_98 dX11_areUnlike_161 ?_
          refine lv_iload C.hx C.hb dX11_areUnlike_164 (lv_at hl 5 rfl) ?_
          refine r_iald C hH (ly (i := 43) (off := 27) (k := 12) hn o_t rfl rfl rfl) (lyn (i := 43) (off := 27) (N := 5) hn o_t rfl rfl rfl) hf dX11_areUnlike_166 (fun x166 hf => ?_)
          refine w_iadd C dX11_areUnlike_167 ?_
          refine lv_aload_n C.hx C.hb dX11_areUnlike_168 rfl (lv_at hl 0 rfl) ?_
          refine g_ref (off := 27) C hH o_t (by decide) rfl rfl FL_RX11_98 dX11_areUnlike_169 ?_
          refine lv_iload C.hx C.hb dX11_areUnlike_172 (lv_at hl 6 rfl) ?_
          refine r_iald C hH (ly (i := 43) (off := 27) (k := 12) hn o_t rfl rfl rfl) (lyn (i := 43) (off := 27) (N := 5) hn o_t rfl rfl rfl) hf dX11_areUnlike_174 (fun x174 hf => ?_)
          refine w_iadd C dX11_areUnlike_175 ?_
          obtain ⟨x176, M176, hc9, hf⟩ := cl_of hf
          refine r_callVi (rest := []) C hH hl o_t (by decide) rfl (m_X11_isNew hn o_t hc9) ML_RX11_362 MF_X11_isNew MI_X11_isNew rfl rfl (Nat.le_of_ble_eq_true rfl) ⟨Nat.le_of_ble_eq_true rfl, Nat.le_of_ble_eq_true rfl⟩ ⟨Nat.le_refl _, Nat.le_refl _⟩ dX11_areUnlike_176 (fun H locs hH => ?_)
          refine lv_istore (lv' := [(4, i3 x176), (0, .ref (eb E + t)), (1, i3 a1), (2, i3 a2), (5, i3 v5_67), (6, i3 v6_95), (7, i3 v7_136)]) C.hx C.hb dX11_areUnlike_179 hl (by decide) rfl (fun ls hl => ?_)
          refine r_iinc (k := 6) (lv' := fun v => [(7, i3 v), (4, i3 x176), (0, .ref (eb E + t)), (1, i3 a1), (2, i3 a2), (5, i3 v5_67), (6, i3 v6_95)]) C hf dX11_areUnlike_181 hl rfl (by decide) (fun _ => rfl) (fun v7_181 ls hf hl => ?_)
          refine lv_goto (tgt := 136) C.hx C.hb dX11_areUnlike_184 (by decide) ?_
          exact h_rec136 hf hH (lv_sub hl [2, 3, 4, 1, 5, 6, 0] rfl)
set_option maxRecDepth 100000 in
set_option maxHeartbeats 4000000 in
theorem l_X11_areUnlike_95 {p : Program} {l : Launch} {e : Env} {s : State} {m : MethodId} {args : Array Value} {below : List Frame} {meth : Method} {c : Code} {E : EE} {n : Nat} {o : (Int × Mem)} {t : Nat} {a1 : Int} {a2 : Int} {v5_67 : Int} {rec67 : Int → Int → Mem → Option (Int × Mem)} (C : Cx E p s m args meth c cX11_areUnlike 8 RX11 (some .boolean) n "areUnlike") (hn : nfull n) (o_t : ob n t 11) (h_rec67 : ∀ {v5_67 : Int} {v4_67 : Int} {M67 : Mem} {H : Heap} {locs : List Loc} {ls : Array Slot}, rec67 v5_67 v4_67 M67 = some o → ST E s n (zf n) M67 H locs → lv_has ls 8 [(0, .ref (eb E + t)), (1, i3 a1), (2, i3 a2), (4, i3 v4_67), (5, i3 v5_67)] → W p l e { frames := 1, cells := 0, slots := 0, locals := 22 } s m args below meth c H locs 0 0 (MQ below (QC E (some (i3 o.1)) n (zf n) o.2) args s 0 0 (fr E)) (F0 m 67 ls [])) : ∀ (k : Nat) (v6_95 : Int) (v4_95 : Int) (M95 : Mem) (H : Heap) (locs : List Loc) (ls : Array Slot), lq3 (fn_X11_areUnlike_L95 t a1 a2 v5_67 rec67) k v6_95 v4_95 M95 = some o → ST E s n (zf n) M95 H locs → lv_has ls 8 [(0, .ref (eb E + t)), (1, i3 a1), (2, i3 a2), (4, i3 v4_95), (5, i3 v5_67), (6, i3 v6_95)] → W p l e { frames := 1, cells := 0, slots := 0, locals := 22 } s m args below meth c H locs 0 0 (MQ below (QC E (some (i3 o.1)) n (zf n) o.2) args s 0 0 (fr E)) (F0 m 95 ls []) := by
  intro k
  induction k with
  | zero => intro v6_95 v4_95 M95 H locs ls hf; cases hf
  | succ k ih =>
    intro v6_95 v4_95 M95 H locs ls hf hH hl
    have h_rec95 : ∀ {v6_95 : Int} {v4_95 : Int} {M95 : Mem} {H : Heap} {locs : List Loc} {ls : Array Slot}, lq3 (fn_X11_areUnlike_L95 t a1 a2 v5_67 rec67) k v6_95 v4_95 M95 = some o → ST E s n (zf n) M95 H locs → lv_has ls 8 [(0, .ref (eb E + t)), (1, i3 a1), (2, i3 a2), (4, i3 v4_95), (5, i3 v5_67), (6, i3 v6_95)] → W p l e { frames := 1, cells := 0, slots := 0, locals := 22 } s m args below meth c H locs 0 0 (MQ below (QC E (some (i3 o.1)) n (zf n) o.2) args s 0 0 (fr E)) (F0 m 95 ls []) := fun {v6_95} {v4_95} {M95} {H} {locs} {ls} a b c => ih v6_95 v4_95 M95 H locs ls a b c
    replace hf : fn_X11_areUnlike_L95 t a1 a2 v5_67 rec67 (lq3 (fn_X11_areUnlike_L95 t a1 a2 v5_67 rec67) k) v6_95 v4_95 M95 = some o := hf
    generalize lq3 (fn_X11_areUnlike_L95 t a1 a2 v5_67 rec67) k = rec95 at hf h_rec95
    unfold fn_X11_areUnlike_L95 at hf
    refine lv_iload C.hx C.hb dX11_areUnlike_95 (lv_at hl 5 rfl) ?_
    refine lv_iload_n C.hx C.hb dX11_areUnlike_97 rfl (lv_at hl 1 rfl) ?_
    refine w_gt (tgt := 193) C hf dX11_areUnlike_98 (by decide) (fun hf => ?_) (fun hf => ?_)
    · exact j_X11_areUnlike_193 C hn o_t h_rec67 hf hH (lv_sub hl [0, 1, 2, 3, 4] rfl)
    · refine lv_iload C.hx C.hb dX11_areUnlike_101 (lv_at hl 3 rfl) ?_
      refine w_eq0 (tgt := 193) C hf dX11_areUnlike_103 (by decide) (fun hf => ?_) (fun hf => ?_)
      · exact j_X11_areUnlike_193 C hn o_t h_rec67 hf hH (lv_sub hl [0, 1, 2, 3, 4] rfl)
      · refine lv_iload_n C.hx C.hb dX11_areUnlike_106 rfl (lv_at hl 2 rfl) ?_
        refine lv_iconst (v := Int32.ofInt 1) C.hx C.hb dX11_areUnlike_107 rfl ?_
        refine w_le (tgt := 193) C hf dX11_areUnlike_108 (by decide) (fun hf => ?_) (fun hf => ?_)
        · exact j_X11_areUnlike_193 C hn o_t h_rec67 hf hH (lv_sub hl [0, 1, 2, 3, 4] rfl)
        · refine lv_aload_n C.hx C.hb dX11_areUnlike_111 rfl (lv_at hl 0 rfl) ?_
          refine lv_aload_n C.hx C.hb dX11_areUnlike_112 rfl (lv_at hl 0 rfl) ?_
          refine g_ref (off := 27) C hH o_t (by decide) rfl rfl FL_RX11_98 dX11_areUnlike_113 ?_
          refine lv_iload C.hx C.hb dX11_areUnlike_116 (lv_at hl 4 rfl) ?_
          refine r_iald C hH (ly (i := 43) (off := 27) (k := 12) hn o_t rfl rfl rfl) (lyn (i := 43) (off := 27) (N := 5) hn o_t rfl rfl rfl) hf dX11_areUnlike_118 (fun x118 hf => ?_)
          refine lv_aload_n C.hx C.hb dX11_areUnlike_119 rfl (lv_at hl 0 rfl) ?_
          refine g_ref (off := 27) C hH o_t (by decide) rfl rfl FL_RX11_98 dX11_areUnlike_120 ?_
          refine lv_iload C.hx C.hb dX11_areUnlike_123 (lv_at hl 5 rfl) ?_
          refine r_iald C hH (ly (i := 43) (off := 27) (k := 12) hn o_t rfl rfl rfl) (lyn (i := 43) (off := 27) (N := 5) hn o_t rfl rfl rfl) hf dX11_areUnlike_125 (fun x125 hf => ?_)
          refine w_iadd C dX11_areUnlike_126 ?_
          obtain ⟨x127, M127, hc9, hf⟩ := cl_of hf
          refine r_callVi (rest := []) C hH hl o_t (by decide) rfl (m_X11_isNew hn o_t hc9) ML_RX11_362 MF_X11_isNew MI_X11_isNew rfl rfl (Nat.le_of_ble_eq_true rfl) ⟨Nat.le_of_ble_eq_true rfl, Nat.le_of_ble_eq_true rfl⟩ ⟨Nat.le_refl _, Nat.le_refl _⟩ dX11_areUnlike_127 (fun H locs hH => ?_)
          refine lv_istore (lv' := [(4, i3 x127), (0, .ref (eb E + t)), (1, i3 a1), (2, i3 a2), (5, i3 v5_67), (6, i3 v6_95)]) C.hx C.hb dX11_areUnlike_130 hl (by decide) rfl (fun ls hl => ?_)
          refine lv_iload C.hx C.hb dX11_areUnlike_132 (lv_at hl 5 rfl) ?_
          refine lv_istore (lv' := [(7, i3 v6_95), (4, i3 x127), (0, .ref (eb E + t)), (1, i3 a1), (2, i3 a2), (5, i3 v5_67), (6, i3 v6_95)]) C.hx C.hb dX11_areUnlike_134 hl (by decide) rfl (fun ls hl => ?_)
          exact l_X11_areUnlike_136 C hn o_t h_rec95 FU _ _ _ _ _ _ hf hH (lv_sub hl [2, 3, 4, 1, 5, 6, 0] rfl)
set_option maxRecDepth 100000 in
set_option maxHeartbeats 4000000 in
theorem l_X11_areUnlike_67 {p : Program} {l : Launch} {e : Env} {s : State} {m : MethodId} {args : Array Value} {below : List Frame} {meth : Method} {c : Code} {E : EE} {n : Nat} {o : (Int × Mem)} {t : Nat} {a1 : Int} {a2 : Int} (C : Cx E p s m args meth c cX11_areUnlike 8 RX11 (some .boolean) n "areUnlike") (hn : nfull n) (o_t : ob n t 11) : ∀ (k : Nat) (v5_67 : Int) (v4_67 : Int) (M67 : Mem) (H : Heap) (locs : List Loc) (ls : Array Slot), lq3 (fn_X11_areUnlike_L67 t a1 a2) k v5_67 v4_67 M67 = some o → ST E s n (zf n) M67 H locs → lv_has ls 8 [(0, .ref (eb E + t)), (1, i3 a1), (2, i3 a2), (4, i3 v4_67), (5, i3 v5_67)] → W p l e { frames := 1, cells := 0, slots := 0, locals := 22 } s m args below meth c H locs 0 0 (MQ below (QC E (some (i3 o.1)) n (zf n) o.2) args s 0 0 (fr E)) (F0 m 67 ls []) := by
  intro k
  induction k with
  | zero => intro v5_67 v4_67 M67 H locs ls hf; cases hf
  | succ k ih =>
    intro v5_67 v4_67 M67 H locs ls hf hH hl
    have h_rec67 : ∀ {v5_67 : Int} {v4_67 : Int} {M67 : Mem} {H : Heap} {locs : List Loc} {ls : Array Slot}, lq3 (fn_X11_areUnlike_L67 t a1 a2) k v5_67 v4_67 M67 = some o → ST E s n (zf n) M67 H locs → lv_has ls 8 [(0, .ref (eb E + t)), (1, i3 a1), (2, i3 a2), (4, i3 v4_67), (5, i3 v5_67)] → W p l e { frames := 1, cells := 0, slots := 0, locals := 22 } s m args below meth c H locs 0 0 (MQ below (QC E (some (i3 o.1)) n (zf n) o.2) args s 0 0 (fr E)) (F0 m 67 ls []) := fun {v5_67} {v4_67} {M67} {H} {locs} {ls} a b c => ih v5_67 v4_67 M67 H locs ls a b c
    replace hf : fn_X11_areUnlike_L67 t a1 a2 (lq3 (fn_X11_areUnlike_L67 t a1 a2) k) v5_67 v4_67 M67 = some o := hf
    generalize lq3 (fn_X11_areUnlike_L67 t a1 a2) k = rec67 at hf h_rec67
    unfold fn_X11_areUnlike_L67 at hf
    refine lv_iload C.hx C.hb dX11_areUnlike_67 (lv_at hl 4 rfl) ?_
    refine lv_iload_n C.hx C.hb dX11_areUnlike_69 rfl (lv_at hl 1 rfl) ?_
    refine w_gt (tgt := 199) C hf dX11_areUnlike_70 (by decide) (fun hf => ?_) (fun hf => ?_)
    · refine lv_iload C.hx C.hb dX11_areUnlike_199 (lv_at hl 3 rfl) ?_
      obtain ⟨hB9, hf⟩ := ck_of hf
      cases hf
      exact w_zret C hH hB9 dX11_areUnlike_201
    · refine lv_iload C.hx C.hb dX11_areUnlike_73 (lv_at hl 3 rfl) ?_
      refine w_eq0 (tgt := 199) C hf dX11_areUnlike_75 (by decide) (fun hf => ?_) (fun hf => ?_)
      · refine lv_iload C.hx C.hb dX11_areUnlike_199 (lv_at hl 3 rfl) ?_
        obtain ⟨hB9, hf⟩ := ck_of hf
        cases hf
        exact w_zret C hH hB9 dX11_areUnlike_201
      · refine lv_aload_n C.hx C.hb dX11_areUnlike_78 rfl (lv_at hl 0 rfl) ?_
        refine lv_aload_n C.hx C.hb dX11_areUnlike_79 rfl (lv_at hl 0 rfl) ?_
        refine g_ref (off := 27) C hH o_t (by decide) rfl rfl FL_RX11_98 dX11_areUnlike_80 ?_
        refine lv_iload C.hx C.hb dX11_areUnlike_83 (lv_at hl 4 rfl) ?_
        refine r_iald C hH (ly (i := 43) (off := 27) (k := 12) hn o_t rfl rfl rfl) (lyn (i := 43) (off := 27) (N := 5) hn o_t rfl rfl rfl) hf dX11_areUnlike_85 (fun x85 hf => ?_)
        obtain ⟨x86, M86, hc9, hf⟩ := cl_of hf
        refine r_callVi (rest := []) C hH hl o_t (by decide) rfl (m_X11_isNew hn o_t hc9) ML_RX11_362 MF_X11_isNew MI_X11_isNew rfl rfl (Nat.le_of_ble_eq_true rfl) ⟨Nat.le_of_ble_eq_true rfl, Nat.le_of_ble_eq_true rfl⟩ ⟨Nat.le_refl _, Nat.le_refl _⟩ dX11_areUnlike_86 (fun H locs hH => ?_)
        refine lv_istore (lv' := [(4, i3 x86), (0, .ref (eb E + t)), (1, i3 a1), (2, i3 a2), (5, i3 v5_67)]) C.hx C.hb dX11_areUnlike_89 hl (by decide) rfl (fun ls hl => ?_)
        refine lv_iload C.hx C.hb dX11_areUnlike_91 (lv_at hl 4 rfl) ?_
        refine lv_istore (lv' := [(6, i3 v5_67), (4, i3 x86), (0, .ref (eb E + t)), (1, i3 a1), (2, i3 a2), (5, i3 v5_67)]) C.hx C.hb dX11_areUnlike_93 hl (by decide) rfl (fun ls hl => ?_)
        exact l_X11_areUnlike_95 C hn o_t h_rec67 FU _ _ _ _ _ _ hf hH (lv_sub hl [2, 3, 4, 1, 5, 0] rfl)
set_option maxRecDepth 100000 in
set_option maxHeartbeats 4000000 in
theorem j_X11_areUnlike_54 {p : Program} {l : Launch} {e : Env} {s : State} {m : MethodId} {args : Array Value} {below : List Frame} {meth : Method} {c : Code} {E : EE} {n : Nat} {o : (Int × Mem)} {t : Nat} {a1 : Int} {a2 : Int} {a3 : Int} {M54 : Mem} {H : Heap} {locs : List Loc} {ls : Array Slot} (C : Cx E p s m args meth c cX11_areUnlike 8 RX11 (some .boolean) n "areUnlike") (hn : nfull n) (o_t : ob n t 11) (hf : fn_X11_areUnlike_J54 t a1 a2 a3 M54 = some o) (hH : ST E s n (zf n) M54 H locs) (hl : lv_has ls 8 [(0, .ref (eb E + t)), (1, i3 a1), (2, i3 a2), (3, i3 a3)]) : W p l e { frames := 1, cells := 0, slots := 0, locals := 22 } s m args below meth c H locs 0 0 (MQ below (QC E (some (i3 o.1)) n (zf n) o.2) args s 0 0 (fr E)) (F0 m 54 ls []) := by
  unfold fn_X11_areUnlike_J54 at hf
  refine lv_aload_n C.hx C.hb dX11_areUnlike_54 rfl (lv_at hl 0 rfl) ?_
  refine g_ref (off := 27) C hH o_t (by decide) rfl rfl FL_RX11_98 dX11_areUnlike_55 ?_
  refine lv_iload_n C.hx C.hb dX11_areUnlike_58 rfl (lv_at hl 1 rfl) ?_
  refine lv_iload_n C.hx C.hb dX11_areUnlike_59 rfl (lv_at hl 3 rfl) ?_
  refine r_iast C hH (ly (i := 43) (off := 27) (k := 12) hn o_t rfl rfl rfl) (lyn (i := 43) (off := 27) (N := 5) hn o_t rfl rfl rfl) hf dX11_areUnlike_60 (fun M60 H locs hf hH => ?_)
  refine lv_iconst (v := Int32.ofInt 1) C.hx C.hb dX11_areUnlike_61 rfl ?_
  refine lv_istore (lv' := [(4, i3 1), (0, .ref (eb E + t)), (1, i3 a1), (2, i3 a2), (3, i3 a3)]) C.hx C.hb dX11_areUnlike_62 hl (by decide) rfl (fun ls hl => ?_)
  refine lv_iconst (v := Int32.ofInt 0) C.hx C.hb dX11_areUnlike_64 rfl ?_
  refine lv_istore (lv' := [(5, i3 0), (4, i3 1), (0, .ref (eb E + t)), (1, i3 a1), (2, i3 a2), (3, i3 a3)]) C.hx C.hb dX11_areUnlike_65 hl (by decide) rfl (fun ls hl => ?_)
  exact l_X11_areUnlike_67 C hn o_t FU _ _ _ _ _ _ hf hH (lv_sub hl [2, 3, 4, 1, 0] rfl)
set_option maxRecDepth 100000 in
set_option maxHeartbeats 4000000 in
theorem l_X11_areUnlike_28 {p : Program} {l : Launch} {e : Env} {s : State} {m : MethodId} {args : Array Value} {below : List Frame} {meth : Method} {c : Code} {E : EE} {n : Nat} {o : (Int × Mem)} {t : Nat} {a1 : Int} {a2 : Int} {a3 : Int} (C : Cx E p s m args meth c cX11_areUnlike 8 RX11 (some .boolean) n "areUnlike") (hn : nfull n) (o_t : ob n t 11) : ∀ (k : Nat) (v4_28 : Int) (M28 : Mem) (H : Heap) (locs : List Loc) (ls : Array Slot), lq2 (fn_X11_areUnlike_L28 t a1 a2 a3) k v4_28 M28 = some o → ST E s n (zf n) M28 H locs → lv_has ls 8 [(0, .ref (eb E + t)), (1, i3 a1), (2, i3 a2), (3, i3 a3), (4, i3 v4_28)] → W p l e { frames := 1, cells := 0, slots := 0, locals := 22 } s m args below meth c H locs 0 0 (MQ below (QC E (some (i3 o.1)) n (zf n) o.2) args s 0 0 (fr E)) (F0 m 28 ls []) := by
  intro k
  induction k with
  | zero => intro v4_28 M28 H locs ls hf; cases hf
  | succ k ih =>
    intro v4_28 M28 H locs ls hf hH hl
    have h_rec28 : ∀ {v4_28 : Int} {M28 : Mem} {H : Heap} {locs : List Loc} {ls : Array Slot}, lq2 (fn_X11_areUnlike_L28 t a1 a2 a3) k v4_28 M28 = some o → ST E s n (zf n) M28 H locs → lv_has ls 8 [(0, .ref (eb E + t)), (1, i3 a1), (2, i3 a2), (3, i3 a3), (4, i3 v4_28)] → W p l e { frames := 1, cells := 0, slots := 0, locals := 22 } s m args below meth c H locs 0 0 (MQ below (QC E (some (i3 o.1)) n (zf n) o.2) args s 0 0 (fr E)) (F0 m 28 ls []) := fun {v4_28} {M28} {H} {locs} {ls} a b c => ih v4_28 M28 H locs ls a b c
    replace hf : fn_X11_areUnlike_L28 t a1 a2 a3 (lq2 (fn_X11_areUnlike_L28 t a1 a2 a3) k) v4_28 M28 = some o := hf
    generalize lq2 (fn_X11_areUnlike_L28 t a1 a2 a3) k = rec28 at hf h_rec28
    unfold fn_X11_areUnlike_L28 at hf
    refine lv_iload C.hx C.hb dX11_areUnlike_28 (lv_at hl 4 rfl) ?_
    refine lv_iload_n C.hx C.hb dX11_areUnlike_30 rfl (lv_at hl 1 rfl) ?_
    refine w_ge (tgt := 54) C hf dX11_areUnlike_31 (by decide) (fun hf => ?_) (fun hf => ?_)
    · exact j_X11_areUnlike_54 C hn o_t hf hH (lv_sub hl [0, 1, 2, 3] rfl)
    · refine lv_aload_n C.hx C.hb dX11_areUnlike_34 rfl (lv_at hl 0 rfl) ?_
      refine g_ref (off := 27) C hH o_t (by decide) rfl rfl FL_RX11_98 dX11_areUnlike_35 ?_
      refine lv_iload C.hx C.hb dX11_areUnlike_38 (lv_at hl 4 rfl) ?_
      refine lv_aload_n C.hx C.hb dX11_areUnlike_40 rfl (lv_at hl 0 rfl) ?_
      refine g_ref (off := 26) C hH o_t (by decide) rfl rfl FL_RX11_95 dX11_areUnlike_41 ?_
      refine lv_iload C.hx C.hb dX11_areUnlike_44 (lv_at hl 4 rfl) ?_
      refine r_iald C hH (ly (i := 42) (off := 26) (k := 12) hn o_t rfl rfl rfl) (lyn (i := 42) (off := 26) (N := 4) hn o_t rfl rfl rfl) hf dX11_areUnlike_46 (fun x46 hf => ?_)
      refine r_iast C hH (ly (i := 43) (off := 27) (k := 12) hn o_t rfl rfl rfl) (lyn (i := 43) (off := 27) (N := 5) hn o_t rfl rfl rfl) hf dX11_areUnlike_47 (fun M47 H locs hf hH => ?_)
      refine r_iinc (k := 4) (lv' := fun v => [(4, i3 v), (0, .ref (eb E + t)), (1, i3 a1), (2, i3 a2), (3, i3 a3)]) C hf dX11_areUnlike_48 hl rfl (by decide) (fun _ => rfl) (fun v4_48 ls hf hl => ?_)
      refine lv_goto (tgt := 28) C.hx C.hb dX11_areUnlike_51 (by decide) ?_
      exact h_rec28 hf hH (lv_sub hl [1, 2, 3, 4, 0] rfl)
set_option maxRecDepth 100000 in
set_option maxHeartbeats 4000000 in
theorem j_X11_areUnlike_25 {p : Program} {l : Launch} {e : Env} {s : State} {m : MethodId} {args : Array Value} {below : List Frame} {meth : Method} {c : Code} {E : EE} {n : Nat} {o : (Int × Mem)} {t : Nat} {a1 : Int} {a2 : Int} {a3 : Int} {M25 : Mem} {H : Heap} {locs : List Loc} {ls : Array Slot} (C : Cx E p s m args meth c cX11_areUnlike 8 RX11 (some .boolean) n "areUnlike") (hn : nfull n) (o_t : ob n t 11) (hf : fn_X11_areUnlike_J25 t a1 a2 a3 M25 = some o) (hH : ST E s n (zf n) M25 H locs) (hl : lv_has ls 8 [(0, .ref (eb E + t)), (1, i3 a1), (2, i3 a2), (3, i3 a3)]) : W p l e { frames := 1, cells := 0, slots := 0, locals := 22 } s m args below meth c H locs 0 0 (MQ below (QC E (some (i3 o.1)) n (zf n) o.2) args s 0 0 (fr E)) (F0 m 25 ls []) := by
  unfold fn_X11_areUnlike_J25 at hf
  refine lv_iconst (v := Int32.ofInt 0) C.hx C.hb dX11_areUnlike_25 rfl ?_
  refine lv_istore (lv' := [(4, i3 0), (0, .ref (eb E + t)), (1, i3 a1), (2, i3 a2), (3, i3 a3)]) C.hx C.hb dX11_areUnlike_26 hl (by decide) rfl (fun ls hl => ?_)
  exact l_X11_areUnlike_28 C hn o_t FU _ _ _ _ _ hf hH (lv_sub hl [1, 2, 3, 4, 0] rfl)
set_option maxRecDepth 100000 in
set_option maxHeartbeats 4000000 in
theorem l_X11_areUnlike_3 {p : Program} {l : Launch} {e : Env} {s : State} {m : MethodId} {args : Array Value} {below : List Frame} {meth : Method} {c : Code} {E : EE} {n : Nat} {o : (Int × Mem)} {t : Nat} {a1 : Int} {a2 : Int} {a3 : Int} (C : Cx E p s m args meth c cX11_areUnlike 8 RX11 (some .boolean) n "areUnlike") (hn : nfull n) (o_t : ob n t 11) : ∀ (k : Nat) (v4_3 : Int) (M3 : Mem) (H : Heap) (locs : List Loc) (ls : Array Slot), lq2 (fn_X11_areUnlike_L3 t a1 a2 a3) k v4_3 M3 = some o → ST E s n (zf n) M3 H locs → lv_has ls 8 [(0, .ref (eb E + t)), (1, i3 a1), (2, i3 a2), (3, i3 a3), (4, i3 v4_3)] → W p l e { frames := 1, cells := 0, slots := 0, locals := 22 } s m args below meth c H locs 0 0 (MQ below (QC E (some (i3 o.1)) n (zf n) o.2) args s 0 0 (fr E)) (F0 m 3 ls []) := by
  intro k
  induction k with
  | zero => intro v4_3 M3 H locs ls hf; cases hf
  | succ k ih =>
    intro v4_3 M3 H locs ls hf hH hl
    have h_rec3 : ∀ {v4_3 : Int} {M3 : Mem} {H : Heap} {locs : List Loc} {ls : Array Slot}, lq2 (fn_X11_areUnlike_L3 t a1 a2 a3) k v4_3 M3 = some o → ST E s n (zf n) M3 H locs → lv_has ls 8 [(0, .ref (eb E + t)), (1, i3 a1), (2, i3 a2), (3, i3 a3), (4, i3 v4_3)] → W p l e { frames := 1, cells := 0, slots := 0, locals := 22 } s m args below meth c H locs 0 0 (MQ below (QC E (some (i3 o.1)) n (zf n) o.2) args s 0 0 (fr E)) (F0 m 3 ls []) := fun {v4_3} {M3} {H} {locs} {ls} a b c => ih v4_3 M3 H locs ls a b c
    replace hf : fn_X11_areUnlike_L3 t a1 a2 a3 (lq2 (fn_X11_areUnlike_L3 t a1 a2 a3) k) v4_3 M3 = some o := hf
    generalize lq2 (fn_X11_areUnlike_L3 t a1 a2 a3) k = rec3 at hf h_rec3
    unfold fn_X11_areUnlike_L3 at hf
    refine lv_iload C.hx C.hb dX11_areUnlike_3 (lv_at hl 4 rfl) ?_
    refine lv_sipush (v := Int32.ofInt 181) C.hx C.hb dX11_areUnlike_5 (by decide) ?_
    refine w_ge (tgt := 25) C hf dX11_areUnlike_8 (by decide) (fun hf => ?_) (fun hf => ?_)
    · exact j_X11_areUnlike_25 C hn o_t hf hH (lv_sub hl [0, 1, 2, 3] rfl)
    · refine lv_aload_n C.hx C.hb dX11_areUnlike_11 rfl (lv_at hl 0 rfl) ?_
      refine g_ref (off := 28) C hH o_t (by decide) rfl rfl FL_RX11_101 dX11_areUnlike_12 ?_
      refine lv_iload C.hx C.hb dX11_areUnlike_15 (lv_at hl 4 rfl) ?_
      refine lv_iconst (v := Int32.ofInt 0) C.hx C.hb dX11_areUnlike_17 rfl ?_
      refine r_zast C hH (ly (i := 44) (off := 28) (k := 14) hn o_t rfl rfl rfl) (lyn (i := 44) (off := 28) (N := 180) hn o_t rfl rfl rfl) hf dX11_areUnlike_18 (fun M18 H locs hf hH => ?_)
      refine r_iinc (k := 4) (lv' := fun v => [(4, i3 v), (0, .ref (eb E + t)), (1, i3 a1), (2, i3 a2), (3, i3 a3)]) C hf dX11_areUnlike_19 hl rfl (by decide) (fun _ => rfl) (fun v4_19 ls hf hl => ?_)
      refine lv_goto (tgt := 3) C.hx C.hb dX11_areUnlike_22 (by decide) ?_
      exact h_rec3 hf hH (lv_sub hl [1, 2, 3, 4, 0] rfl)
set_option maxRecDepth 100000 in
set_option maxHeartbeats 4000000 in
theorem m_X11_areUnlike {E : EE} {l : Launch} {n : Nat} {t : Nat} {a1 : Int} {a2 : Int} {a3 : Int} {M : Mem} {o : (Int × Mem)} (hn : nfull n) (o_t : ob n t 11) (hf : fn_X11_areUnlike t a1 a2 a3 M = some o) : CT E l yX11_areUnlike cX11_areUnlike 8 (some .boolean) 1 22 0 0 [.ref (eb E + t), i3 a1, i3 a2, i3 a3] n (zf n) M (some (i3 o.1)) n (zf n) o.2 := by
  refine CT_of PN_RX11 (Nat.le_of_ble_eq_true rfl) ?_
  intro p e s m args below meth c C hH ls hl
  replace C : Cx E p s m args meth c cX11_areUnlike 8 RX11 (some .boolean) n "areUnlike" := C
  have hl : lv_has ls 8 [(0, .ref (eb E + t)), (1, i3 a1), (2, i3 a2), (3, i3 a3)] := hl
  unfold fn_X11_areUnlike at hf
  refine lv_iconst (v := Int32.ofInt 0) C.hx C.hb dX11_areUnlike_0 rfl ?_
  refine lv_istore (lv' := [(4, i3 0), (0, .ref (eb E + t)), (1, i3 a1), (2, i3 a2), (3, i3 a3)]) C.hx C.hb dX11_areUnlike_1 hl (by decide) rfl (fun ls hl => ?_)
  exact l_X11_areUnlike_3 C hn o_t FU _ _ _ _ _ hf hH (lv_sub hl [1, 2, 3, 4, 0] rfl)
-- HeavierByHandModel.chooses
def fn_X11_chooses_L10 (t : Nat) (a1 : Int) (a2 : Int) (a3 : Int) (rec10 : Int → Mem → Option (Int × Mem)) (v4_10 : Int) (M10 : Mem) : Option (Int × Mem) :=
  cLt v4_10 0 (some (0, M10)) (rd M10 (t + 26) 5 v4_10 fun x22 => wr M10 (t + 26) 5 v4_10 (x22 + 1) fun M25 => rd M25 (t + 26) 5 v4_10 fun x32 => cLt (a3 - ((a1 - 1) - v4_10)) x32 (nm (v4_10 + (-1)) fun v4_44 => rec10 v4_44 M25) (cl (fn_X11_areUnlike t (v4_10 + 1) a2 a3 M25) fun x57 M57 => cEq x57 0 (rec10 v4_10 M57) (cEq v4_10 (a1 - 2) (wr M57 (t + 26) 5 (a1 - 1) a3 fun M79 => some (1, M79)) (nm (v4_10 + 1) fun v4_82 => rd M57 (t + 26) 5 (v4_82 - 1) fun x99 => wr M57 (t + 26) 5 v4_82 x99 fun M100 => rec10 v4_82 M100))))
def fn_X11_chooses (t : Nat) (a1 : Int) (a2 : Int) (a3 : Int) (M : Mem) : Option (Int × Mem) :=
  wr M (t + 26) 5 0 0 fun M9 => lq2 (fn_X11_chooses_L10 t a1 a2 a3) FU 0 M9
set_option maxRecDepth 100000 in
set_option maxHeartbeats 4000000 in
theorem l_X11_chooses_10 {p : Program} {l : Launch} {e : Env} {s : State} {m : MethodId} {args : Array Value} {below : List Frame} {meth : Method} {c : Code} {E : EE} {n : Nat} {o : (Int × Mem)} {t : Nat} {a1 : Int} {a2 : Int} {a3 : Int} (C : Cx E p s m args meth c cX11_chooses 5 RX11 (some .boolean) n "chooses") (hn : nfull n) (o_t : ob n t 11) : ∀ (k : Nat) (v4_10 : Int) (M10 : Mem) (H : Heap) (locs : List Loc) (ls : Array Slot), lq2 (fn_X11_chooses_L10 t a1 a2 a3) k v4_10 M10 = some o → ST E s n (zf n) M10 H locs → lv_has ls 5 [(0, .ref (eb E + t)), (1, i3 a1), (2, i3 a2), (3, i3 a3), (4, i3 v4_10)] → W p l e { frames := 2, cells := 0, slots := 0, locals := 49 } s m args below meth c H locs 0 0 (MQ below (QC E (some (i3 o.1)) n (zf n) o.2) args s 0 0 (fr E)) (F0 m 10 ls []) := by
  intro k
  induction k with
  | zero => intro v4_10 M10 H locs ls hf; cases hf
  | succ k ih =>
    intro v4_10 M10 H locs ls hf hH hl
    have h_rec10 : ∀ {v4_10 : Int} {M10 : Mem} {H : Heap} {locs : List Loc} {ls : Array Slot}, lq2 (fn_X11_chooses_L10 t a1 a2 a3) k v4_10 M10 = some o → ST E s n (zf n) M10 H locs → lv_has ls 5 [(0, .ref (eb E + t)), (1, i3 a1), (2, i3 a2), (3, i3 a3), (4, i3 v4_10)] → W p l e { frames := 2, cells := 0, slots := 0, locals := 49 } s m args below meth c H locs 0 0 (MQ below (QC E (some (i3 o.1)) n (zf n) o.2) args s 0 0 (fr E)) (F0 m 10 ls []) := fun {v4_10} {M10} {H} {locs} {ls} a b c => ih v4_10 M10 H locs ls a b c
    replace hf : fn_X11_chooses_L10 t a1 a2 a3 (lq2 (fn_X11_chooses_L10 t a1 a2 a3) k) v4_10 M10 = some o := hf
    generalize lq2 (fn_X11_chooses_L10 t a1 a2 a3) k = rec10 at hf h_rec10
    unfold fn_X11_chooses_L10 at hf
    refine lv_iload C.hx C.hb dX11_chooses_10 (lv_at hl 4 rfl) ?_
    refine w_lt0 (tgt := 104) C hf dX11_chooses_12 (by decide) (fun hf => ?_) (fun hf => ?_)
    · refine lv_iconst (v := Int32.ofInt 0) C.hx C.hb dX11_chooses_104 rfl ?_
      cases hf
      exact w_zret C hH (Or.inl rfl) dX11_chooses_105
    · refine lv_aload_n C.hx C.hb dX11_chooses_15 rfl (lv_at hl 0 rfl) ?_
      refine g_ref (off := 26) C hH o_t (by decide) rfl rfl FL_RX11_95 dX11_chooses_16 ?_
      refine lv_iload C.hx C.hb dX11_chooses_19 (lv_at hl 4 rfl) ?_
      refine lv_dup2_11 C.hx C.hb dX11_chooses_21 rfl rfl ?_
      refine r_iald C hH (ly (i := 42) (off := 26) (k := 12) hn o_t rfl rfl rfl) (lyn (i := 42) (off := 26) (N := 4) hn o_t rfl rfl rfl) hf dX11_chooses_22 (fun x22 hf => ?_)
      refine lv_iconst (v := Int32.ofInt 1) C.hx C.hb dX11_chooses_23 rfl ?_
      refine w_iadd C dX11_chooses_24 ?_
      refine r_iast C hH (ly (i := 42) (off := 26) (k := 12) hn o_t rfl rfl rfl) (lyn (i := 42) (off := 26) (N := 4) hn o_t rfl rfl rfl) hf dX11_chooses_25 (fun M25 H locs hf hH => ?_)
      refine lv_aload_n C.hx C.hb dX11_chooses_26 rfl (lv_at hl 0 rfl) ?_
      refine g_ref (off := 26) C hH o_t (by decide) rfl rfl FL_RX11_95 dX11_chooses_27 ?_
      refine lv_iload C.hx C.hb dX11_chooses_30 (lv_at hl 4 rfl) ?_
      refine r_iald C hH (ly (i := 42) (off := 26) (k := 12) hn o_t rfl rfl rfl) (lyn (i := 42) (off := 26) (N := 4) hn o_t rfl rfl rfl) hf dX11_chooses_32 (fun x32 hf => ?_)
      refine lv_iload_n C.hx C.hb dX11_chooses_33 rfl (lv_at hl 3 rfl) ?_
      refine lv_iload_n C.hx C.hb dX11_chooses_34 rfl (lv_at hl 1 rfl) ?_
      refine lv_iconst (v := Int32.ofInt 1) C.hx C.hb dX11_chooses_35 rfl ?_
      refine w_isub C dX11_chooses_36 ?_
      refine lv_iload C.hx C.hb dX11_chooses_37 (lv_at hl 4 rfl) ?_
      refine w_isub C dX11_chooses_39 ?_
      refine w_isub C dX11_chooses_40 ?_
      refine w_le (tgt := 50) C hf dX11_chooses_41 (by decide) (fun hf => ?_) (fun hf => ?_)
      · refine lv_aload_n C.hx C.hb dX11_chooses_50 rfl (lv_at hl 0 rfl) ?_
        refine lv_iload C.hx C.hb dX11_chooses_51 (lv_at hl 4 rfl) ?_
        refine lv_iconst (v := Int32.ofInt 1) C.hx C.hb dX11_chooses_53 rfl ?_
        refine w_iadd C dX11_chooses_54 ?_
        refine lv_iload_n C.hx C.hb dX11_chooses_55 rfl (lv_at hl 2 rfl) ?_
        refine lv_iload_n C.hx C.hb dX11_chooses_56 rfl (lv_at hl 3 rfl) ?_
        obtain ⟨x57, M57, hc9, hf⟩ := cl_of hf
        refine r_callVi (rest := []) C hH hl o_t (by decide) rfl (m_X11_areUnlike hn o_t hc9) ML_RX11_365 MF_X11_areUnlike MI_X11_areUnlike rfl rfl (Nat.le_of_ble_eq_true rfl) ⟨Nat.le_of_ble_eq_true rfl, Nat.le_of_ble_eq_true rfl⟩ ⟨Nat.le_refl _, Nat.le_refl _⟩ dX11_chooses_57 (fun H locs hH => ?_)
        refine w_eq0 (tgt := 10) C hf dX11_chooses_60 (by decide) (fun hf => ?_) (fun hf => ?_)
        · exact h_rec10 hf hH (lv_sub hl [0, 1, 2, 3, 4] rfl)
        · refine lv_iload C.hx C.hb dX11_chooses_63 (lv_at hl 4 rfl) ?_
          refine lv_iload_n C.hx C.hb dX11_chooses_65 rfl (lv_at hl 1 rfl) ?_
          refine lv_iconst (v := Int32.ofInt 2) C.hx C.hb dX11_chooses_66 rfl ?_
          refine w_isub C dX11_chooses_67 ?_
          refine w_ne (tgt := 82) C hf dX11_chooses_68 (by decide) (fun hf => ?_) (fun hf => ?_)
          · refine r_iinc (k := 4) (lv' := fun v => [(4, i3 v), (0, .ref (eb E + t)), (1, i3 a1), (2, i3 a2), (3, i3 a3)]) C hf dX11_chooses_82 hl rfl (by decide) (fun _ => rfl) (fun v4_82 ls hf hl => ?_)
            refine lv_aload_n C.hx C.hb dX11_chooses_85 rfl (lv_at hl 1 rfl) ?_
            refine g_ref (off := 26) C hH o_t (by decide) rfl rfl FL_RX11_95 dX11_chooses_86 ?_
            refine lv_iload C.hx C.hb dX11_chooses_89 (lv_at hl 0 rfl) ?_
            refine lv_aload_n C.hx C.hb dX11_chooses_91 rfl (lv_at hl 1 rfl) ?_
            refine g_ref (off := 26) C hH o_t (by decide) rfl rfl FL_RX11_95 dX11_chooses_92 ?_
            refine lv_iload C.hx C.hb dX11_chooses_95 (lv_at hl 0 rfl) ?_
            refine lv_iconst (v := Int32.ofInt 1) C.hx C.hb dX11_chooses_97 rfl ?_
            refine w_isub C dX11_chooses_98 ?_
            refine r_iald C hH (ly (i := 42) (off := 26) (k := 12) hn o_t rfl rfl rfl) (lyn (i := 42) (off := 26) (N := 4) hn o_t rfl rfl rfl) hf dX11_chooses_99 (fun x99 hf => ?_)
            refine r_iast C hH (ly (i := 42) (off := 26) (k := 12) hn o_t rfl rfl rfl) (lyn (i := 42) (off := 26) (N := 4) hn o_t rfl rfl rfl) hf dX11_chooses_100 (fun M100 H locs hf hH => ?_)
            refine lv_goto (tgt := 10) C.hx C.hb dX11_chooses_101 (by decide) ?_
            exact h_rec10 hf hH (lv_sub hl [1, 2, 3, 4, 0] rfl)
          · refine lv_aload_n C.hx C.hb dX11_chooses_71 rfl (lv_at hl 0 rfl) ?_
            refine g_ref (off := 26) C hH o_t (by decide) rfl rfl FL_RX11_95 dX11_chooses_72 ?_
            refine lv_iload_n C.hx C.hb dX11_chooses_75 rfl (lv_at hl 1 rfl) ?_
            refine lv_iconst (v := Int32.ofInt 1) C.hx C.hb dX11_chooses_76 rfl ?_
            refine w_isub C dX11_chooses_77 ?_
            refine lv_iload_n C.hx C.hb dX11_chooses_78 rfl (lv_at hl 3 rfl) ?_
            refine r_iast C hH (ly (i := 42) (off := 26) (k := 12) hn o_t rfl rfl rfl) (lyn (i := 42) (off := 26) (N := 4) hn o_t rfl rfl rfl) hf dX11_chooses_79 (fun M79 H locs hf hH => ?_)
            refine lv_iconst (v := Int32.ofInt 1) C.hx C.hb dX11_chooses_80 rfl ?_
            cases hf
            exact w_zret C hH (Or.inr rfl) dX11_chooses_81
      · refine r_iinc (k := 4) (lv' := fun v => [(4, i3 v), (0, .ref (eb E + t)), (1, i3 a1), (2, i3 a2), (3, i3 a3)]) C hf dX11_chooses_44 hl rfl (by decide) (fun _ => rfl) (fun v4_44 ls hf hl => ?_)
        refine lv_goto (tgt := 10) C.hx C.hb dX11_chooses_47 (by decide) ?_
        exact h_rec10 hf hH (lv_sub hl [1, 2, 3, 4, 0] rfl)
set_option maxRecDepth 100000 in
set_option maxHeartbeats 4000000 in
theorem m_X11_chooses {E : EE} {l : Launch} {n : Nat} {t : Nat} {a1 : Int} {a2 : Int} {a3 : Int} {M : Mem} {o : (Int × Mem)} (hn : nfull n) (o_t : ob n t 11) (hf : fn_X11_chooses t a1 a2 a3 M = some o) : CT E l yX11_chooses cX11_chooses 5 (some .boolean) 2 49 0 0 [.ref (eb E + t), i3 a1, i3 a2, i3 a3] n (zf n) M (some (i3 o.1)) n (zf n) o.2 := by
  refine CT_of PN_RX11 (Nat.le_of_ble_eq_true rfl) ?_
  intro p e s m args below meth c C hH ls hl
  replace C : Cx E p s m args meth c cX11_chooses 5 RX11 (some .boolean) n "chooses" := C
  have hl : lv_has ls 5 [(0, .ref (eb E + t)), (1, i3 a1), (2, i3 a2), (3, i3 a3)] := hl
  unfold fn_X11_chooses at hf
  refine lv_iconst (v := Int32.ofInt 0) C.hx C.hb dX11_chooses_0 rfl ?_
  refine lv_istore (lv' := [(4, i3 0), (0, .ref (eb E + t)), (1, i3 a1), (2, i3 a2), (3, i3 a3)]) C.hx C.hb dX11_chooses_1 hl (by decide) rfl (fun ls hl => ?_)
  refine lv_aload_n C.hx C.hb dX11_chooses_3 rfl (lv_at hl 1 rfl) ?_
  refine g_ref (off := 26) C hH o_t (by decide) rfl rfl FL_RX11_95 dX11_chooses_4 ?_
  refine lv_iconst (v := Int32.ofInt 0) C.hx C.hb dX11_chooses_7 rfl ?_
  refine lv_iconst (v := Int32.ofInt 0) C.hx C.hb dX11_chooses_8 rfl ?_
  refine r_iast C hH (ly (i := 42) (off := 26) (k := 12) hn o_t rfl rfl rfl) (lyn (i := 42) (off := 26) (N := 4) hn o_t rfl rfl rfl) hf dX11_chooses_9 (fun M9 H locs hf hH => ?_)
  exact l_X11_chooses_10 C hn o_t FU _ _ _ _ _ hf hH (lv_sub hl [1, 2, 3, 4, 0] rfl)
-- HeavierByHandModel.chosen
def fn_X11_chosen_L34 (t : Nat) (a1 : Int) (a2 : Int) (a3 : Int) (rec34 : Int → Mem → Option (Int × Mem)) (v4_34 : Int) (M34 : Mem) : Option (Int × Mem) :=
  cLt 60 v4_34 (some ((-1), M34)) (cl (fn_X11_chooses t a1 a2 v4_34 M34) fun x46 M46 => cEq x46 0 (nm (v4_34 + 1) fun v4_59 => rec34 v4_59 M46) (rd M46 (t + 26) 5 a3 fun x57 => some (x57, M46)))
def fn_X11_chosen (t : Nat) (a1 : Int) (a2 : Int) (a3 : Int) (M : Mem) : Option (Int × Mem) :=
  cu (fn_X11_in a1 2 5 M) fun x3 => cEq x3 0 (some ((-1), M)) (cu (fn_X11_in a2 1 3 M) fun x12 => cEq x12 0 (some ((-1), M)) (cu (fn_X11_in a3 0 (a1 - 1) M) fun x23 => cEq x23 0 (some ((-1), M)) (lq2 (fn_X11_chosen_L34 t a1 a2 a3) FU a1 M)))
set_option maxRecDepth 100000 in
set_option maxHeartbeats 4000000 in
theorem l_X11_chosen_34 {p : Program} {l : Launch} {e : Env} {s : State} {m : MethodId} {args : Array Value} {below : List Frame} {meth : Method} {c : Code} {E : EE} {n : Nat} {o : (Int × Mem)} {t : Nat} {a1 : Int} {a2 : Int} {a3 : Int} (C : Cx E p s m args meth c cX11_chosen 5 RX11 (some .int) n "chosen") (hn : nfull n) (o_t : ob n t 11) : ∀ (k : Nat) (v4_34 : Int) (M34 : Mem) (H : Heap) (locs : List Loc) (ls : Array Slot), lq2 (fn_X11_chosen_L34 t a1 a2 a3) k v4_34 M34 = some o → ST E s n (zf n) M34 H locs → lv_has ls 5 [(0, .ref (eb E + t)), (1, i3 a1), (2, i3 a2), (3, i3 a3), (4, i3 v4_34)] → W p l e { frames := 3, cells := 0, slots := 0, locals := 73 } s m args below meth c H locs 0 0 (MQ below (QC E (some (i3 o.1)) n (zf n) o.2) args s 0 0 (fr E)) (F0 m 34 ls []) := by
  intro k
  induction k with
  | zero => intro v4_34 M34 H locs ls hf; cases hf
  | succ k ih =>
    intro v4_34 M34 H locs ls hf hH hl
    have h_rec34 : ∀ {v4_34 : Int} {M34 : Mem} {H : Heap} {locs : List Loc} {ls : Array Slot}, lq2 (fn_X11_chosen_L34 t a1 a2 a3) k v4_34 M34 = some o → ST E s n (zf n) M34 H locs → lv_has ls 5 [(0, .ref (eb E + t)), (1, i3 a1), (2, i3 a2), (3, i3 a3), (4, i3 v4_34)] → W p l e { frames := 3, cells := 0, slots := 0, locals := 73 } s m args below meth c H locs 0 0 (MQ below (QC E (some (i3 o.1)) n (zf n) o.2) args s 0 0 (fr E)) (F0 m 34 ls []) := fun {v4_34} {M34} {H} {locs} {ls} a b c => ih v4_34 M34 H locs ls a b c
    replace hf : fn_X11_chosen_L34 t a1 a2 a3 (lq2 (fn_X11_chosen_L34 t a1 a2 a3) k) v4_34 M34 = some o := hf
    generalize lq2 (fn_X11_chosen_L34 t a1 a2 a3) k = rec34 at hf h_rec34
    unfold fn_X11_chosen_L34 at hf
    refine lv_iload C.hx C.hb dX11_chosen_34 (lv_at hl 4 rfl) ?_
    refine lv_bipush (v := Int32.ofInt 60) C.hx C.hb dX11_chosen_36 (by decide) ?_
    refine w_gt (tgt := 65) C hf dX11_chosen_38 (by decide) (fun hf => ?_) (fun hf => ?_)
    · refine lv_iconst (v := Int32.ofInt (-1)) C.hx C.hb dX11_chosen_65 rfl ?_
      cases hf
      exact w_iret C hH dX11_chosen_66
    · refine lv_aload_n C.hx C.hb dX11_chosen_41 rfl (lv_at hl 0 rfl) ?_
      refine lv_iload_n C.hx C.hb dX11_chosen_42 rfl (lv_at hl 1 rfl) ?_
      refine lv_iload_n C.hx C.hb dX11_chosen_43 rfl (lv_at hl 2 rfl) ?_
      refine lv_iload C.hx C.hb dX11_chosen_44 (lv_at hl 4 rfl) ?_
      obtain ⟨x46, M46, hc9, hf⟩ := cl_of hf
      refine r_callVi (rest := []) C hH hl o_t (by decide) rfl (m_X11_chooses hn o_t hc9) ML_RX11_368 MF_X11_chooses MI_X11_chooses rfl rfl (Nat.le_of_ble_eq_true rfl) ⟨Nat.le_of_ble_eq_true rfl, Nat.le_of_ble_eq_true rfl⟩ ⟨Nat.le_refl _, Nat.le_refl _⟩ dX11_chosen_46 (fun H locs hH => ?_)
      refine w_eq0 (tgt := 59) C hf dX11_chosen_49 (by decide) (fun hf => ?_) (fun hf => ?_)
      · refine r_iinc (k := 4) (lv' := fun v => [(4, i3 v), (0, .ref (eb E + t)), (1, i3 a1), (2, i3 a2), (3, i3 a3)]) C hf dX11_chosen_59 hl rfl (by decide) (fun _ => rfl) (fun v4_59 ls hf hl => ?_)
        refine lv_goto (tgt := 34) C.hx C.hb dX11_chosen_62 (by decide) ?_
        exact h_rec34 hf hH (lv_sub hl [1, 2, 3, 4, 0] rfl)
      · refine lv_aload_n C.hx C.hb dX11_chosen_52 rfl (lv_at hl 0 rfl) ?_
        refine g_ref (off := 26) C hH o_t (by decide) rfl rfl FL_RX11_95 dX11_chosen_53 ?_
        refine lv_iload_n C.hx C.hb dX11_chosen_56 rfl (lv_at hl 3 rfl) ?_
        refine r_iald C hH (ly (i := 42) (off := 26) (k := 12) hn o_t rfl rfl rfl) (lyn (i := 42) (off := 26) (N := 4) hn o_t rfl rfl rfl) hf dX11_chosen_57 (fun x57 hf => ?_)
        cases hf
        exact w_iret C hH dX11_chosen_58
set_option maxRecDepth 100000 in
set_option maxHeartbeats 4000000 in
theorem m_X11_chosen {E : EE} {l : Launch} {n : Nat} {t : Nat} {a1 : Int} {a2 : Int} {a3 : Int} {M : Mem} {o : (Int × Mem)} (hn : nfull n) (o_t : ob n t 11) (hf : fn_X11_chosen t a1 a2 a3 M = some o) : CT E l yX11_chosen cX11_chosen 5 (some .int) 3 73 0 0 [.ref (eb E + t), i3 a1, i3 a2, i3 a3] n (zf n) M (some (i3 o.1)) n (zf n) o.2 := by
  refine CT_of PN_RX11 (Nat.le_of_ble_eq_true rfl) ?_
  intro p e s m args below meth c C hH ls hl
  replace C : Cx E p s m args meth c cX11_chosen 5 RX11 (some .int) n "chosen" := C
  have hl : lv_has ls 5 [(0, .ref (eb E + t)), (1, i3 a1), (2, i3 a2), (3, i3 a3)] := hl
  unfold fn_X11_chosen at hf
  refine lv_iload_n C.hx C.hb dX11_chosen_0 rfl (lv_at hl 1 rfl) ?_
  refine lv_iconst (v := Int32.ofInt 2) C.hx C.hb dX11_chosen_1 rfl ?_
  refine lv_iconst (v := Int32.ofInt 5) C.hx C.hb dX11_chosen_2 rfl ?_
  obtain ⟨x3, hc9, hf⟩ := cu_of hf
  refine r_callSi (rest := []) C hH hl (m_X11_in hn hc9) ML_RX11_115 MF_X11_in MS_X11_in rfl rfl (Nat.le_of_ble_eq_true rfl) ⟨Nat.le_of_ble_eq_true rfl, Nat.le_of_ble_eq_true rfl⟩ ⟨Nat.le_refl _, Nat.le_refl _⟩ dX11_chosen_3 (fun H locs hH => ?_)
  refine w_eq0 (tgt := 29) C hf dX11_chosen_6 (by decide) (fun hf => ?_) (fun hf => ?_)
  · refine lv_iconst (v := Int32.ofInt (-1)) C.hx C.hb dX11_chosen_29 rfl ?_
    cases hf
    exact w_iret C hH dX11_chosen_30
  · refine lv_iload_n C.hx C.hb dX11_chosen_9 rfl (lv_at hl 2 rfl) ?_
    refine lv_iconst (v := Int32.ofInt 1) C.hx C.hb dX11_chosen_10 rfl ?_
    refine lv_iconst (v := Int32.ofInt 3) C.hx C.hb dX11_chosen_11 rfl ?_
    obtain ⟨x12, hc9, hf⟩ := cu_of hf
    refine r_callSi (rest := []) C hH hl (m_X11_in hn hc9) ML_RX11_115 MF_X11_in MS_X11_in rfl rfl (Nat.le_of_ble_eq_true rfl) ⟨Nat.le_of_ble_eq_true rfl, Nat.le_of_ble_eq_true rfl⟩ ⟨Nat.le_refl _, Nat.le_refl _⟩ dX11_chosen_12 (fun H locs hH => ?_)
    refine w_eq0 (tgt := 29) C hf dX11_chosen_15 (by decide) (fun hf => ?_) (fun hf => ?_)
    · refine lv_iconst (v := Int32.ofInt (-1)) C.hx C.hb dX11_chosen_29 rfl ?_
      cases hf
      exact w_iret C hH dX11_chosen_30
    · refine lv_iload_n C.hx C.hb dX11_chosen_18 rfl (lv_at hl 3 rfl) ?_
      refine lv_iconst (v := Int32.ofInt 0) C.hx C.hb dX11_chosen_19 rfl ?_
      refine lv_iload_n C.hx C.hb dX11_chosen_20 rfl (lv_at hl 1 rfl) ?_
      refine lv_iconst (v := Int32.ofInt 1) C.hx C.hb dX11_chosen_21 rfl ?_
      refine w_isub C dX11_chosen_22 ?_
      obtain ⟨x23, hc9, hf⟩ := cu_of hf
      refine r_callSi (rest := []) C hH hl (m_X11_in hn hc9) ML_RX11_115 MF_X11_in MS_X11_in rfl rfl (Nat.le_of_ble_eq_true rfl) ⟨Nat.le_of_ble_eq_true rfl, Nat.le_of_ble_eq_true rfl⟩ ⟨Nat.le_refl _, Nat.le_refl _⟩ dX11_chosen_23 (fun H locs hH => ?_)
      refine w_ne0 (tgt := 31) C hf dX11_chosen_26 (by decide) (fun hf => ?_) (fun hf => ?_)
      · refine lv_iload_n C.hx C.hb dX11_chosen_31 rfl (lv_at hl 1 rfl) ?_
        refine lv_istore (lv' := [(4, i3 a1), (0, .ref (eb E + t)), (1, i3 a1), (2, i3 a2), (3, i3 a3)]) C.hx C.hb dX11_chosen_32 hl (by decide) rfl (fun ls hl => ?_)
        exact l_X11_chosen_34 C hn o_t FU _ _ _ _ _ hf hH (lv_sub hl [1, 2, 3, 4, 0] rfl)
      · refine lv_iconst (v := Int32.ofInt (-1)) C.hx C.hb dX11_chosen_29 rfl ?_
        cases hf
        exact w_iret C hH dX11_chosen_30
-- HeavierByHandModel.tray
def fn_X11_tray (t : Nat) (a1 : Int) (a2 : Int) (M : Mem) : Option (Int × Mem) :=
  cu (fn_X11_isCoin t a1 M) fun x2 => cEq x2 0 (some (0, M)) (cu (fn_X11_in a2 (-1) 5 M) fun x11 => cEq x11 0 (some (0, M)) (wr M (t + 1) 288 ((20 + (5 * a1)) + 4) a2 fun M32 => some (1, M32)))
set_option maxRecDepth 100000 in
set_option maxHeartbeats 4000000 in
theorem m_X11_tray {E : EE} {l : Launch} {n : Nat} {t : Nat} {a1 : Int} {a2 : Int} {M : Mem} {o : (Int × Mem)} (hn : nfull n) (o_t : ob n t 11) (hf : fn_X11_tray t a1 a2 M = some o) : CT E l yX11_tray cX11_tray 3 (some .boolean) 2 43 0 0 [.ref (eb E + t), i3 a1, i3 a2] n (zf n) M (some (i3 o.1)) n (zf n) o.2 := by
  refine CT_of PN_RX11 (Nat.le_of_ble_eq_true rfl) ?_
  intro p e s m args below meth c C hH ls hl
  replace C : Cx E p s m args meth c cX11_tray 3 RX11 (some .boolean) n "tray" := C
  have hl : lv_has ls 3 [(0, .ref (eb E + t)), (1, i3 a1), (2, i3 a2)] := hl
  unfold fn_X11_tray at hf
  refine lv_aload_n C.hx C.hb dX11_tray_0 rfl (lv_at hl 0 rfl) ?_
  refine lv_iload_n C.hx C.hb dX11_tray_1 rfl (lv_at hl 1 rfl) ?_
  obtain ⟨x2, hc9, hf⟩ := cu_of hf
  refine r_callVi (rest := []) C hH hl o_t (by decide) rfl (m_X11_isCoin hn o_t hc9) ML_RX11_309 MF_X11_isCoin MI_X11_isCoin rfl rfl (Nat.le_of_ble_eq_true rfl) ⟨Nat.le_of_ble_eq_true rfl, Nat.le_of_ble_eq_true rfl⟩ ⟨Nat.le_refl _, Nat.le_refl _⟩ dX11_tray_2 (fun H locs hH => ?_)
  refine w_eq0 (tgt := 17) C hf dX11_tray_5 (by decide) (fun hf => ?_) (fun hf => ?_)
  · refine lv_iconst (v := Int32.ofInt 0) C.hx C.hb dX11_tray_17 rfl ?_
    cases hf
    exact w_zret C hH (Or.inl rfl) dX11_tray_18
  · refine lv_iload_n C.hx C.hb dX11_tray_8 rfl (lv_at hl 2 rfl) ?_
    refine lv_iconst (v := Int32.ofInt (-1)) C.hx C.hb dX11_tray_9 rfl ?_
    refine lv_iconst (v := Int32.ofInt 5) C.hx C.hb dX11_tray_10 rfl ?_
    obtain ⟨x11, hc9, hf⟩ := cu_of hf
    refine r_callSi (rest := []) C hH hl (m_X11_in hn hc9) ML_RX11_115 MF_X11_in MS_X11_in rfl rfl (Nat.le_of_ble_eq_true rfl) ⟨Nat.le_of_ble_eq_true rfl, Nat.le_of_ble_eq_true rfl⟩ ⟨Nat.le_refl _, Nat.le_refl _⟩ dX11_tray_11 (fun H locs hH => ?_)
    refine w_ne0 (tgt := 19) C hf dX11_tray_14 (by decide) (fun hf => ?_) (fun hf => ?_)
    · refine lv_aload_n C.hx C.hb dX11_tray_19 rfl (lv_at hl 0 rfl) ?_
      refine g_ref (off := 1) C hH o_t (by decide) rfl rfl FL_RX11_7 dX11_tray_20 ?_
      refine lv_bipush (v := Int32.ofInt 20) C.hx C.hb dX11_tray_23 (by decide) ?_
      refine lv_iconst (v := Int32.ofInt 5) C.hx C.hb dX11_tray_25 rfl ?_
      refine lv_iload_n C.hx C.hb dX11_tray_26 rfl (lv_at hl 1 rfl) ?_
      refine w_imul C dX11_tray_27 ?_
      refine w_iadd C dX11_tray_28 ?_
      refine lv_iconst (v := Int32.ofInt 4) C.hx C.hb dX11_tray_29 rfl ?_
      refine w_iadd C dX11_tray_30 ?_
      refine lv_iload_n C.hx C.hb dX11_tray_31 rfl (lv_at hl 2 rfl) ?_
      refine r_iast C hH (ly (i := 0) (off := 1) (k := 12) hn o_t rfl rfl rfl) (lyn (i := 0) (off := 1) (N := 287) hn o_t rfl rfl rfl) hf dX11_tray_32 (fun M32 H locs hf hH => ?_)
      refine lv_iconst (v := Int32.ofInt 1) C.hx C.hb dX11_tray_33 rfl ?_
      cases hf
      exact w_zret C hH (Or.inr rfl) dX11_tray_34
    · refine lv_iconst (v := Int32.ofInt 0) C.hx C.hb dX11_tray_17 rfl ?_
      cases hf
      exact w_zret C hH (Or.inl rfl) dX11_tray_18
-- HeavierByHandModel.laysWrong
def fn_X11_laysWrong_J105 (v1_2 : Int) (rec2 : Int → Mem → Option Mem) (M105 : Mem) : Option Mem :=
  nm (v1_2 + 1) fun v1_105 => rec2 v1_105 M105
def fn_X11_laysWrong_J86 (t : Nat) (v1_2 : Int) (v2_10 : Int) (M10 : Mem) (rec10 : Int → Mem → Option Mem) (v3_86 : Int) : Option Mem :=
  wr M10 (t + 29) 6006 ((1001 * v1_2) + v2_10) v3_86 fun M98 => nm (v2_10 + 1) fun v2_99 => rec10 v2_99 M98
def fn_X11_laysWrong_J78 (v4_22 : Int) (v3_22 : Int) (rec22 : Int → Int → Option Mem) (u0_78 : Int) : Option Mem :=
  nm ((v3_22 + u0_78)) fun v3_79 => nm (v4_22 + 1) fun v4_80 => rec22 v4_80 v3_79
def fn_X11_laysWrong_J77 (v4_22 : Int) (v3_22 : Int) (rec22 : Int → Int → Option Mem) : Option Mem :=
  fn_X11_laysWrong_J78 v4_22 v3_22 rec22 0
def fn_X11_laysWrong_J73 (v4_22 : Int) (v3_22 : Int) (rec22 : Int → Int → Option Mem) : Option Mem :=
  fn_X11_laysWrong_J78 v4_22 v3_22 rec22 1
def fn_X11_laysWrong_L22 (t : Nat) (v1_2 : Int) (v2_10 : Int) (M10 : Mem) (rec10 : Int → Mem → Option Mem) (rec22 : Int → Int → Option Mem) (v4_22 : Int) (v3_22 : Int) : Option Mem :=
  rd M10 (t + 1) 288 1 fun x29 => cLt v4_22 x29 (cu (fn_X11_coinOf t v4_22 4 M10) fun x37 => cEq x37 (-1) (fn_X11_laysWrong_J77 v4_22 v3_22 rec22) (cEq x37 v1_2 (fn_X11_laysWrong_J77 v4_22 v3_22 rec22) (cEq v2_10 1000 (fn_X11_laysWrong_J73 v4_22 v3_22 rec22) (cu (fn_X11_coinOf t v4_22 1 M10) fun x66 => cLt x66 v2_10 (fn_X11_laysWrong_J73 v4_22 v3_22 rec22) (fn_X11_laysWrong_J77 v4_22 v3_22 rec22))))) (fn_X11_laysWrong_J86 t v1_2 v2_10 M10 rec10 v3_22)
def fn_X11_laysWrong_L10 (t : Nat) (v1_2 : Int) (rec2 : Int → Mem → Option Mem) (rec10 : Int → Mem → Option Mem) (v2_10 : Int) (M10 : Mem) : Option Mem :=
  cLt 1000 v2_10 (fn_X11_laysWrong_J105 v1_2 rec2 M10) (lq2 (fn_X11_laysWrong_L22 t v1_2 v2_10 M10 rec10) FU 0 0)
def fn_X11_laysWrong_L2 (t : Nat) (rec2 : Int → Mem → Option Mem) (v1_2 : Int) (M2 : Mem) : Option Mem :=
  cLt v1_2 6 (lq2 (fn_X11_laysWrong_L10 t v1_2 rec2) FU 0 M2) (some M2)
def fn_X11_laysWrong (t : Nat) (M : Mem) : Option Mem :=
  lq2 (fn_X11_laysWrong_L2 t) FU 0 M
set_option maxRecDepth 100000 in
set_option maxHeartbeats 4000000 in
theorem j_X11_laysWrong_105 {p : Program} {l : Launch} {e : Env} {s : State} {m : MethodId} {args : Array Value} {below : List Frame} {meth : Method} {c : Code} {E : EE} {n : Nat} {o : Mem} {t : Nat} {v1_2 : Int} {rec2 : Int → Mem → Option Mem} {M105 : Mem} {H : Heap} {locs : List Loc} {ls : Array Slot} (C : Cx E p s m args meth c cX11_laysWrong 6 RX11 none n "laysWrong") (hn : nfull n) (o_t : ob n t 11) (h_rec2 : ∀ {v1_2 : Int} {M2 : Mem} {H : Heap} {locs : List Loc} {ls : Array Slot}, rec2 v1_2 M2 = some o → ST E s n (zf n) M2 H locs → lv_has ls 6 [(0, .ref (eb E + t)), (1, i3 v1_2)] → W p l e { frames := 1, cells := 0, slots := 0, locals := 22 } s m args below meth c H locs 0 0 (MQ below (QC E none n (zf n) o) args s 0 0 (fr E)) (F0 m 2 ls [])) (hf : fn_X11_laysWrong_J105 v1_2 rec2 M105 = some o) (hH : ST E s n (zf n) M105 H locs) (hl : lv_has ls 6 [(0, .ref (eb E + t)), (1, i3 v1_2)]) : W p l e { frames := 1, cells := 0, slots := 0, locals := 22 } s m args below meth c H locs 0 0 (MQ below (QC E none n (zf n) o) args s 0 0 (fr E)) (F0 m 105 ls []) := by
  unfold fn_X11_laysWrong_J105 at hf
  refine r_iinc (k := 1) (lv' := fun v => [(1, i3 v), (0, .ref (eb E + t))]) C hf dX11_laysWrong_105 hl rfl (by decide) (fun _ => rfl) (fun v1_105 ls hf hl => ?_)
  refine lv_goto (tgt := 2) C.hx C.hb dX11_laysWrong_108 (by decide) ?_
  exact h_rec2 hf hH (lv_sub hl [1, 0] rfl)
set_option maxRecDepth 100000 in
set_option maxHeartbeats 4000000 in
theorem j_X11_laysWrong_86 {p : Program} {l : Launch} {e : Env} {s : State} {m : MethodId} {args : Array Value} {below : List Frame} {meth : Method} {c : Code} {E : EE} {n : Nat} {o : Mem} {t : Nat} {v1_2 : Int} {v2_10 : Int} {M10 : Mem} {rec10 : Int → Mem → Option Mem} {v3_86 : Int} {H : Heap} {locs : List Loc} {ls : Array Slot} (C : Cx E p s m args meth c cX11_laysWrong 6 RX11 none n "laysWrong") (hn : nfull n) (o_t : ob n t 11) (h_rec10 : ∀ {v2_10 : Int} {M10 : Mem} {H : Heap} {locs : List Loc} {ls : Array Slot}, rec10 v2_10 M10 = some o → ST E s n (zf n) M10 H locs → lv_has ls 6 [(0, .ref (eb E + t)), (1, i3 v1_2), (2, i3 v2_10)] → W p l e { frames := 1, cells := 0, slots := 0, locals := 22 } s m args below meth c H locs 0 0 (MQ below (QC E none n (zf n) o) args s 0 0 (fr E)) (F0 m 10 ls [])) (hf : fn_X11_laysWrong_J86 t v1_2 v2_10 M10 rec10 v3_86 = some o) (hH : ST E s n (zf n) M10 H locs) (hl : lv_has ls 6 [(0, .ref (eb E + t)), (1, i3 v1_2), (2, i3 v2_10), (3, i3 v3_86)]) : W p l e { frames := 1, cells := 0, slots := 0, locals := 22 } s m args below meth c H locs 0 0 (MQ below (QC E none n (zf n) o) args s 0 0 (fr E)) (F0 m 86 ls []) := by
  unfold fn_X11_laysWrong_J86 at hf
  refine lv_aload_n C.hx C.hb dX11_laysWrong_86 rfl (lv_at hl 0 rfl) ?_
  refine g_ref (off := 29) C hH o_t (by decide) rfl rfl FL_RX11_105 dX11_laysWrong_87 ?_
  refine lv_sipush (v := Int32.ofInt 1001) C.hx C.hb dX11_laysWrong_90 (by decide) ?_
  refine lv_iload_n C.hx C.hb dX11_laysWrong_93 rfl (lv_at hl 1 rfl) ?_
  refine w_imul C dX11_laysWrong_94 ?_
  refine lv_iload_n C.hx C.hb dX11_laysWrong_95 rfl (lv_at hl 2 rfl) ?_
  refine w_iadd C dX11_laysWrong_96 ?_
  refine lv_iload_n C.hx C.hb dX11_laysWrong_97 rfl (lv_at hl 3 rfl) ?_
  refine r_iast C hH (ly (i := 45) (off := 29) (k := 12) hn o_t rfl rfl rfl) (lyn (i := 45) (off := 29) (N := 6005) hn o_t rfl rfl rfl) hf dX11_laysWrong_98 (fun M98 H locs hf hH => ?_)
  refine r_iinc (k := 2) (lv' := fun v => [(2, i3 v), (0, .ref (eb E + t)), (1, i3 v1_2), (3, i3 v3_86)]) C hf dX11_laysWrong_99 hl rfl (by decide) (fun _ => rfl) (fun v2_99 ls hf hl => ?_)
  refine lv_goto (tgt := 10) C.hx C.hb dX11_laysWrong_102 (by decide) ?_
  exact h_rec10 hf hH (lv_sub hl [1, 2, 0] rfl)
set_option maxRecDepth 100000 in
set_option maxHeartbeats 4000000 in
theorem j_X11_laysWrong_78 {p : Program} {l : Launch} {e : Env} {s : State} {m : MethodId} {args : Array Value} {below : List Frame} {meth : Method} {c : Code} {E : EE} {n : Nat} {o : Mem} {t : Nat} {v1_2 : Int} {v2_10 : Int} {M10 : Mem} {v4_22 : Int} {v3_22 : Int} {rec22 : Int → Int → Option Mem} {u0_78 : Int} {H : Heap} {locs : List Loc} {ls : Array Slot} (C : Cx E p s m args meth c cX11_laysWrong 6 RX11 none n "laysWrong") (hn : nfull n) (o_t : ob n t 11) (h_rec22 : ∀ {v4_22 : Int} {v3_22 : Int} {H : Heap} {locs : List Loc} {ls : Array Slot}, rec22 v4_22 v3_22 = some o → ST E s n (zf n) M10 H locs → lv_has ls 6 [(0, .ref (eb E + t)), (1, i3 v1_2), (2, i3 v2_10), (3, i3 v3_22), (4, i3 v4_22)] → W p l e { frames := 1, cells := 0, slots := 0, locals := 22 } s m args below meth c H locs 0 0 (MQ below (QC E none n (zf n) o) args s 0 0 (fr E)) (F0 m 22 ls [])) (hf : fn_X11_laysWrong_J78 v4_22 v3_22 rec22 u0_78 = some o) (hH : ST E s n (zf n) M10 H locs) (hl : lv_has ls 6 [(0, .ref (eb E + t)), (1, i3 v1_2), (2, i3 v2_10), (4, i3 v4_22)]) : W p l e { frames := 1, cells := 0, slots := 0, locals := 22 } s m args below meth c H locs 0 0 (MQ below (QC E none n (zf n) o) args s 0 0 (fr E)) (F0 m 78 ls [i3 u0_78, i3 v3_22]) := by
  unfold fn_X11_laysWrong_J78 at hf
  refine w_iadd C dX11_laysWrong_78 ?_
  refine r_nm hf (fun v3_79 hf => ?_)
  refine lv_istore_n (lv' := [(3, i3 v3_79), (0, .ref (eb E + t)), (1, i3 v1_2), (2, i3 v2_10), (4, i3 v4_22)]) C.hx C.hb dX11_laysWrong_79 rfl hl (by decide) rfl (fun ls hl => ?_)
  refine r_iinc (k := 4) (lv' := fun v => [(4, i3 v), (3, i3 v3_79), (0, .ref (eb E + t)), (1, i3 v1_2), (2, i3 v2_10)]) C hf dX11_laysWrong_80 hl rfl (by decide) (fun _ => rfl) (fun v4_80 ls hf hl => ?_)
  refine lv_goto (tgt := 22) C.hx C.hb dX11_laysWrong_83 (by decide) ?_
  exact h_rec22 hf hH (lv_sub hl [2, 3, 4, 1, 0] rfl)
set_option maxRecDepth 100000 in
set_option maxHeartbeats 4000000 in
theorem j_X11_laysWrong_77 {p : Program} {l : Launch} {e : Env} {s : State} {m : MethodId} {args : Array Value} {below : List Frame} {meth : Method} {c : Code} {E : EE} {n : Nat} {o : Mem} {t : Nat} {v1_2 : Int} {v2_10 : Int} {M10 : Mem} {v4_22 : Int} {v3_22 : Int} {rec22 : Int → Int → Option Mem} {H : Heap} {locs : List Loc} {ls : Array Slot} (C : Cx E p s m args meth c cX11_laysWrong 6 RX11 none n "laysWrong") (hn : nfull n) (o_t : ob n t 11) (h_rec22 : ∀ {v4_22 : Int} {v3_22 : Int} {H : Heap} {locs : List Loc} {ls : Array Slot}, rec22 v4_22 v3_22 = some o → ST E s n (zf n) M10 H locs → lv_has ls 6 [(0, .ref (eb E + t)), (1, i3 v1_2), (2, i3 v2_10), (3, i3 v3_22), (4, i3 v4_22)] → W p l e { frames := 1, cells := 0, slots := 0, locals := 22 } s m args below meth c H locs 0 0 (MQ below (QC E none n (zf n) o) args s 0 0 (fr E)) (F0 m 22 ls [])) (hf : fn_X11_laysWrong_J77 v4_22 v3_22 rec22 = some o) (hH : ST E s n (zf n) M10 H locs) (hl : lv_has ls 6 [(0, .ref (eb E + t)), (1, i3 v1_2), (2, i3 v2_10), (4, i3 v4_22)]) : W p l e { frames := 1, cells := 0, slots := 0, locals := 22 } s m args below meth c H locs 0 0 (MQ below (QC E none n (zf n) o) args s 0 0 (fr E)) (F0 m 77 ls [i3 v3_22]) := by
  unfold fn_X11_laysWrong_J77 at hf
  refine lv_iconst (v := Int32.ofInt 0) C.hx C.hb dX11_laysWrong_77 rfl ?_
  exact j_X11_laysWrong_78 C hn o_t h_rec22 hf hH (lv_sub hl [0, 1, 2, 3] rfl)
set_option maxRecDepth 100000 in
set_option maxHeartbeats 4000000 in
theorem j_X11_laysWrong_73 {p : Program} {l : Launch} {e : Env} {s : State} {m : MethodId} {args : Array Value} {below : List Frame} {meth : Method} {c : Code} {E : EE} {n : Nat} {o : Mem} {t : Nat} {v1_2 : Int} {v2_10 : Int} {M10 : Mem} {v4_22 : Int} {v3_22 : Int} {rec22 : Int → Int → Option Mem} {H : Heap} {locs : List Loc} {ls : Array Slot} (C : Cx E p s m args meth c cX11_laysWrong 6 RX11 none n "laysWrong") (hn : nfull n) (o_t : ob n t 11) (h_rec22 : ∀ {v4_22 : Int} {v3_22 : Int} {H : Heap} {locs : List Loc} {ls : Array Slot}, rec22 v4_22 v3_22 = some o → ST E s n (zf n) M10 H locs → lv_has ls 6 [(0, .ref (eb E + t)), (1, i3 v1_2), (2, i3 v2_10), (3, i3 v3_22), (4, i3 v4_22)] → W p l e { frames := 1, cells := 0, slots := 0, locals := 22 } s m args below meth c H locs 0 0 (MQ below (QC E none n (zf n) o) args s 0 0 (fr E)) (F0 m 22 ls [])) (hf : fn_X11_laysWrong_J73 v4_22 v3_22 rec22 = some o) (hH : ST E s n (zf n) M10 H locs) (hl : lv_has ls 6 [(0, .ref (eb E + t)), (1, i3 v1_2), (2, i3 v2_10), (4, i3 v4_22)]) : W p l e { frames := 1, cells := 0, slots := 0, locals := 22 } s m args below meth c H locs 0 0 (MQ below (QC E none n (zf n) o) args s 0 0 (fr E)) (F0 m 73 ls [i3 v3_22]) := by
  unfold fn_X11_laysWrong_J73 at hf
  refine lv_iconst (v := Int32.ofInt 1) C.hx C.hb dX11_laysWrong_73 rfl ?_
  refine lv_goto (tgt := 78) C.hx C.hb dX11_laysWrong_74 (by decide) ?_
  exact j_X11_laysWrong_78 C hn o_t h_rec22 hf hH (lv_sub hl [0, 1, 2, 3] rfl)
set_option maxRecDepth 100000 in
set_option maxHeartbeats 4000000 in
theorem l_X11_laysWrong_22 {p : Program} {l : Launch} {e : Env} {s : State} {m : MethodId} {args : Array Value} {below : List Frame} {meth : Method} {c : Code} {E : EE} {n : Nat} {o : Mem} {t : Nat} {v1_2 : Int} {v2_10 : Int} {M10 : Mem} {rec10 : Int → Mem → Option Mem} (C : Cx E p s m args meth c cX11_laysWrong 6 RX11 none n "laysWrong") (hn : nfull n) (o_t : ob n t 11) (h_rec10 : ∀ {v2_10 : Int} {M10 : Mem} {H : Heap} {locs : List Loc} {ls : Array Slot}, rec10 v2_10 M10 = some o → ST E s n (zf n) M10 H locs → lv_has ls 6 [(0, .ref (eb E + t)), (1, i3 v1_2), (2, i3 v2_10)] → W p l e { frames := 1, cells := 0, slots := 0, locals := 22 } s m args below meth c H locs 0 0 (MQ below (QC E none n (zf n) o) args s 0 0 (fr E)) (F0 m 10 ls [])) : ∀ (k : Nat) (v4_22 : Int) (v3_22 : Int) (H : Heap) (locs : List Loc) (ls : Array Slot), lq2 (fn_X11_laysWrong_L22 t v1_2 v2_10 M10 rec10) k v4_22 v3_22 = some o → ST E s n (zf n) M10 H locs → lv_has ls 6 [(0, .ref (eb E + t)), (1, i3 v1_2), (2, i3 v2_10), (3, i3 v3_22), (4, i3 v4_22)] → W p l e { frames := 1, cells := 0, slots := 0, locals := 22 } s m args below meth c H locs 0 0 (MQ below (QC E none n (zf n) o) args s 0 0 (fr E)) (F0 m 22 ls []) := by
  intro k
  induction k with
  | zero => intro v4_22 v3_22 H locs ls hf; cases hf
  | succ k ih =>
    intro v4_22 v3_22 H locs ls hf hH hl
    have h_rec22 : ∀ {v4_22 : Int} {v3_22 : Int} {H : Heap} {locs : List Loc} {ls : Array Slot}, lq2 (fn_X11_laysWrong_L22 t v1_2 v2_10 M10 rec10) k v4_22 v3_22 = some o → ST E s n (zf n) M10 H locs → lv_has ls 6 [(0, .ref (eb E + t)), (1, i3 v1_2), (2, i3 v2_10), (3, i3 v3_22), (4, i3 v4_22)] → W p l e { frames := 1, cells := 0, slots := 0, locals := 22 } s m args below meth c H locs 0 0 (MQ below (QC E none n (zf n) o) args s 0 0 (fr E)) (F0 m 22 ls []) := fun {v4_22} {v3_22} {H} {locs} {ls} a b c => ih v4_22 v3_22 H locs ls a b c
    replace hf : fn_X11_laysWrong_L22 t v1_2 v2_10 M10 rec10 (lq2 (fn_X11_laysWrong_L22 t v1_2 v2_10 M10 rec10) k) v4_22 v3_22 = some o := hf
    generalize lq2 (fn_X11_laysWrong_L22 t v1_2 v2_10 M10 rec10) k = rec22 at hf h_rec22
    unfold fn_X11_laysWrong_L22 at hf
    refine lv_iload C.hx C.hb dX11_laysWrong_22 (lv_at hl 4 rfl) ?_
    refine lv_aload_n C.hx C.hb dX11_laysWrong_24 rfl (lv_at hl 0 rfl) ?_
    refine g_ref (off := 1) C hH o_t (by decide) rfl rfl FL_RX11_7 dX11_laysWrong_25 ?_
    refine lv_iconst (v := Int32.ofInt 1) C.hx C.hb dX11_laysWrong_28 rfl ?_
    refine r_iald C hH (ly (i := 0) (off := 1) (k := 12) hn o_t rfl rfl rfl) (lyn (i := 0) (off := 1) (N := 287) hn o_t rfl rfl rfl) hf dX11_laysWrong_29 (fun x29 hf => ?_)
    refine w_ge (tgt := 86) C hf dX11_laysWrong_30 (by decide) (fun hf => ?_) (fun hf => ?_)
    · exact j_X11_laysWrong_86 C hn o_t h_rec10 hf hH (lv_sub hl [0, 1, 2, 3] rfl)
    · refine lv_aload_n C.hx C.hb dX11_laysWrong_33 rfl (lv_at hl 0 rfl) ?_
      refine lv_iload C.hx C.hb dX11_laysWrong_34 (lv_at hl 4 rfl) ?_
      refine lv_iconst (v := Int32.ofInt 4) C.hx C.hb dX11_laysWrong_36 rfl ?_
      obtain ⟨x37, hc9, hf⟩ := cu_of hf
      refine r_callVi (rest := []) C hH hl o_t (by decide) rfl (m_X11_coinOf hn o_t hc9) ML_RX11_300 MF_X11_coinOf MI_X11_coinOf rfl rfl (Nat.le_of_ble_eq_true rfl) ⟨Nat.le_of_ble_eq_true rfl, Nat.le_of_ble_eq_true rfl⟩ ⟨Nat.le_refl _, Nat.le_refl _⟩ dX11_laysWrong_37 (fun H locs hH => ?_)
      refine lv_istore (lv' := [(5, i3 x37), (0, .ref (eb E + t)), (1, i3 v1_2), (2, i3 v2_10), (3, i3 v3_22), (4, i3 v4_22)]) C.hx C.hb dX11_laysWrong_40 hl (by decide) rfl (fun ls hl => ?_)
      refine lv_iload_n C.hx C.hb dX11_laysWrong_42 rfl (lv_at hl 4 rfl) ?_
      refine lv_iload C.hx C.hb dX11_laysWrong_43 (lv_at hl 0 rfl) ?_
      refine lv_iconst (v := Int32.ofInt (-1)) C.hx C.hb dX11_laysWrong_45 rfl ?_
      refine w_eq (tgt := 77) C hf dX11_laysWrong_46 (by decide) (fun hf => ?_) (fun hf => ?_)
      · exact j_X11_laysWrong_77 C hn o_t h_rec22 hf hH (lv_sub hl [1, 2, 3, 5] rfl)
      · refine lv_iload C.hx C.hb dX11_laysWrong_49 (lv_at hl 0 rfl) ?_
        refine lv_iload_n C.hx C.hb dX11_laysWrong_51 rfl (lv_at hl 2 rfl) ?_
        refine w_eq (tgt := 77) C hf dX11_laysWrong_52 (by decide) (fun hf => ?_) (fun hf => ?_)
        · exact j_X11_laysWrong_77 C hn o_t h_rec22 hf hH (lv_sub hl [1, 2, 3, 5] rfl)
        · refine lv_iload_n C.hx C.hb dX11_laysWrong_55 rfl (lv_at hl 3 rfl) ?_
          refine lv_sipush (v := Int32.ofInt 1000) C.hx C.hb dX11_laysWrong_56 (by decide) ?_
          refine w_eq (tgt := 73) C hf dX11_laysWrong_59 (by decide) (fun hf => ?_) (fun hf => ?_)
          · exact j_X11_laysWrong_73 C hn o_t h_rec22 hf hH (lv_sub hl [1, 2, 3, 5] rfl)
          · refine lv_aload_n C.hx C.hb dX11_laysWrong_62 rfl (lv_at hl 1 rfl) ?_
            refine lv_iload C.hx C.hb dX11_laysWrong_63 (lv_at hl 5 rfl) ?_
            refine lv_iconst (v := Int32.ofInt 1) C.hx C.hb dX11_laysWrong_65 rfl ?_
            obtain ⟨x66, hc9, hf⟩ := cu_of hf
            refine r_callVi (rest := [i3 v3_22]) C hH hl o_t (by decide) rfl (m_X11_coinOf hn o_t hc9) ML_RX11_300 MF_X11_coinOf MI_X11_coinOf rfl rfl (Nat.le_of_ble_eq_true rfl) ⟨Nat.le_of_ble_eq_true rfl, Nat.le_of_ble_eq_true rfl⟩ ⟨Nat.le_refl _, Nat.le_refl _⟩ dX11_laysWrong_66 (fun H locs hH => ?_)
            refine lv_iload_n C.hx C.hb dX11_laysWrong_69 rfl (lv_at hl 3 rfl) ?_
            refine w_ge (tgt := 77) C hf dX11_laysWrong_70 (by decide) (fun hf => ?_) (fun hf => ?_)
            · exact j_X11_laysWrong_77 C hn o_t h_rec22 hf hH (lv_sub hl [1, 2, 3, 5] rfl)
            · exact j_X11_laysWrong_73 C hn o_t h_rec22 hf hH (lv_sub hl [1, 2, 3, 5] rfl)
set_option maxRecDepth 100000 in
set_option maxHeartbeats 4000000 in
theorem l_X11_laysWrong_10 {p : Program} {l : Launch} {e : Env} {s : State} {m : MethodId} {args : Array Value} {below : List Frame} {meth : Method} {c : Code} {E : EE} {n : Nat} {o : Mem} {t : Nat} {v1_2 : Int} {rec2 : Int → Mem → Option Mem} (C : Cx E p s m args meth c cX11_laysWrong 6 RX11 none n "laysWrong") (hn : nfull n) (o_t : ob n t 11) (h_rec2 : ∀ {v1_2 : Int} {M2 : Mem} {H : Heap} {locs : List Loc} {ls : Array Slot}, rec2 v1_2 M2 = some o → ST E s n (zf n) M2 H locs → lv_has ls 6 [(0, .ref (eb E + t)), (1, i3 v1_2)] → W p l e { frames := 1, cells := 0, slots := 0, locals := 22 } s m args below meth c H locs 0 0 (MQ below (QC E none n (zf n) o) args s 0 0 (fr E)) (F0 m 2 ls [])) : ∀ (k : Nat) (v2_10 : Int) (M10 : Mem) (H : Heap) (locs : List Loc) (ls : Array Slot), lq2 (fn_X11_laysWrong_L10 t v1_2 rec2) k v2_10 M10 = some o → ST E s n (zf n) M10 H locs → lv_has ls 6 [(0, .ref (eb E + t)), (1, i3 v1_2), (2, i3 v2_10)] → W p l e { frames := 1, cells := 0, slots := 0, locals := 22 } s m args below meth c H locs 0 0 (MQ below (QC E none n (zf n) o) args s 0 0 (fr E)) (F0 m 10 ls []) := by
  intro k
  induction k with
  | zero => intro v2_10 M10 H locs ls hf; cases hf
  | succ k ih =>
    intro v2_10 M10 H locs ls hf hH hl
    have h_rec10 : ∀ {v2_10 : Int} {M10 : Mem} {H : Heap} {locs : List Loc} {ls : Array Slot}, lq2 (fn_X11_laysWrong_L10 t v1_2 rec2) k v2_10 M10 = some o → ST E s n (zf n) M10 H locs → lv_has ls 6 [(0, .ref (eb E + t)), (1, i3 v1_2), (2, i3 v2_10)] → W p l e { frames := 1, cells := 0, slots := 0, locals := 22 } s m args below meth c H locs 0 0 (MQ below (QC E none n (zf n) o) args s 0 0 (fr E)) (F0 m 10 ls []) := fun {v2_10} {M10} {H} {locs} {ls} a b c => ih v2_10 M10 H locs ls a b c
    replace hf : fn_X11_laysWrong_L10 t v1_2 rec2 (lq2 (fn_X11_laysWrong_L10 t v1_2 rec2) k) v2_10 M10 = some o := hf
    generalize lq2 (fn_X11_laysWrong_L10 t v1_2 rec2) k = rec10 at hf h_rec10
    unfold fn_X11_laysWrong_L10 at hf
    refine lv_iload_n C.hx C.hb dX11_laysWrong_10 rfl (lv_at hl 2 rfl) ?_
    refine lv_sipush (v := Int32.ofInt 1000) C.hx C.hb dX11_laysWrong_11 (by decide) ?_
    refine w_gt (tgt := 105) C hf dX11_laysWrong_14 (by decide) (fun hf => ?_) (fun hf => ?_)
    · exact j_X11_laysWrong_105 C hn o_t h_rec2 hf hH (lv_sub hl [0, 1] rfl)
    · refine lv_iconst (v := Int32.ofInt 0) C.hx C.hb dX11_laysWrong_17 rfl ?_
      refine lv_istore_n (lv' := [(3, i3 0), (0, .ref (eb E + t)), (1, i3 v1_2), (2, i3 v2_10)]) C.hx C.hb dX11_laysWrong_18 rfl hl (by decide) rfl (fun ls hl => ?_)
      refine lv_iconst (v := Int32.ofInt 0) C.hx C.hb dX11_laysWrong_19 rfl ?_
      refine lv_istore (lv' := [(4, i3 0), (3, i3 0), (0, .ref (eb E + t)), (1, i3 v1_2), (2, i3 v2_10)]) C.hx C.hb dX11_laysWrong_20 hl (by decide) rfl (fun ls hl => ?_)
      exact l_X11_laysWrong_22 C hn o_t h_rec10 FU _ _ _ _ _ hf hH (lv_sub hl [2, 3, 4, 1, 0] rfl)
set_option maxRecDepth 100000 in
set_option maxHeartbeats 4000000 in
theorem l_X11_laysWrong_2 {p : Program} {l : Launch} {e : Env} {s : State} {m : MethodId} {args : Array Value} {below : List Frame} {meth : Method} {c : Code} {E : EE} {n : Nat} {o : Mem} {t : Nat} (C : Cx E p s m args meth c cX11_laysWrong 6 RX11 none n "laysWrong") (hn : nfull n) (o_t : ob n t 11) : ∀ (k : Nat) (v1_2 : Int) (M2 : Mem) (H : Heap) (locs : List Loc) (ls : Array Slot), lq2 (fn_X11_laysWrong_L2 t) k v1_2 M2 = some o → ST E s n (zf n) M2 H locs → lv_has ls 6 [(0, .ref (eb E + t)), (1, i3 v1_2)] → W p l e { frames := 1, cells := 0, slots := 0, locals := 22 } s m args below meth c H locs 0 0 (MQ below (QC E none n (zf n) o) args s 0 0 (fr E)) (F0 m 2 ls []) := by
  intro k
  induction k with
  | zero => intro v1_2 M2 H locs ls hf; cases hf
  | succ k ih =>
    intro v1_2 M2 H locs ls hf hH hl
    have h_rec2 : ∀ {v1_2 : Int} {M2 : Mem} {H : Heap} {locs : List Loc} {ls : Array Slot}, lq2 (fn_X11_laysWrong_L2 t) k v1_2 M2 = some o → ST E s n (zf n) M2 H locs → lv_has ls 6 [(0, .ref (eb E + t)), (1, i3 v1_2)] → W p l e { frames := 1, cells := 0, slots := 0, locals := 22 } s m args below meth c H locs 0 0 (MQ below (QC E none n (zf n) o) args s 0 0 (fr E)) (F0 m 2 ls []) := fun {v1_2} {M2} {H} {locs} {ls} a b c => ih v1_2 M2 H locs ls a b c
    replace hf : fn_X11_laysWrong_L2 t (lq2 (fn_X11_laysWrong_L2 t) k) v1_2 M2 = some o := hf
    generalize lq2 (fn_X11_laysWrong_L2 t) k = rec2 at hf h_rec2
    unfold fn_X11_laysWrong_L2 at hf
    refine lv_iload_n C.hx C.hb dX11_laysWrong_2 rfl (lv_at hl 1 rfl) ?_
    refine lv_bipush (v := Int32.ofInt 6) C.hx C.hb dX11_laysWrong_3 (by decide) ?_
    refine w_ge (tgt := 111) C hf dX11_laysWrong_5 (by decide) (fun hf => ?_) (fun hf => ?_)
    · cases hf
      exact w_vret C hH dX11_laysWrong_111
    · refine lv_iconst (v := Int32.ofInt 0) C.hx C.hb dX11_laysWrong_8 rfl ?_
      refine lv_istore_n (lv' := [(2, i3 0), (0, .ref (eb E + t)), (1, i3 v1_2)]) C.hx C.hb dX11_laysWrong_9 rfl hl (by decide) rfl (fun ls hl => ?_)
      exact l_X11_laysWrong_10 C hn o_t h_rec2 FU _ _ _ _ _ hf hH (lv_sub hl [1, 2, 0] rfl)
set_option maxRecDepth 100000 in
set_option maxHeartbeats 4000000 in
theorem m_X11_laysWrong {E : EE} {l : Launch} {n : Nat} {t : Nat} {M : Mem} {o : Mem} (hn : nfull n) (o_t : ob n t 11) (hf : fn_X11_laysWrong t M = some o) : CT E l yX11_laysWrong cX11_laysWrong 6 none 1 22 0 0 [.ref (eb E + t)] n (zf n) M none n (zf n) o := by
  refine CT_of PN_RX11 (Nat.le_of_ble_eq_true rfl) ?_
  intro p e s m args below meth c C hH ls hl
  replace C : Cx E p s m args meth c cX11_laysWrong 6 RX11 none n "laysWrong" := C
  have hl : lv_has ls 6 [(0, .ref (eb E + t))] := hl
  unfold fn_X11_laysWrong at hf
  refine lv_iconst (v := Int32.ofInt 0) C.hx C.hb dX11_laysWrong_0 rfl ?_
  refine lv_istore_n (lv' := [(1, i3 0), (0, .ref (eb E + t))]) C.hx C.hb dX11_laysWrong_1 rfl hl (by decide) rfl (fun ls hl => ?_)
  exact l_X11_laysWrong_2 C hn o_t FU _ _ _ _ _ hf hH (lv_sub hl [1, 0] rfl)
-- HeavierByHandModel.wrongBetween
def fn_X11_wrongBetween (t : Nat) (a1 : Int) (a2 : Int) (a3 : Int) (M : Mem) : Option Int :=
  rd M (t + 29) 6006 ((1001 * a1) + a3) fun x11 => rd M (t + 29) 6006 ((1001 * a1) + a2) fun x23 => some (x11 - x23)
set_option maxRecDepth 100000 in
set_option maxHeartbeats 4000000 in
theorem m_X11_wrongBetween {E : EE} {l : Launch} {n : Nat} {t : Nat} {a1 : Int} {a2 : Int} {a3 : Int} {M : Mem} {o : Int} (hn : nfull n) (o_t : ob n t 11) (hf : fn_X11_wrongBetween t a1 a2 a3 M = some o) : CT E l yX11_wrongBetween cX11_wrongBetween 4 (some .int) 0 0 0 0 [.ref (eb E + t), i3 a1, i3 a2, i3 a3] n (zf n) M (some (i3 o)) n (zf n) M := by
  refine CT_of PN_RX11 (Nat.le_of_ble_eq_true rfl) ?_
  intro p e s m args below meth c C hH ls hl
  replace C : Cx E p s m args meth c cX11_wrongBetween 4 RX11 (some .int) n "wrongBetween" := C
  have hl : lv_has ls 4 [(0, .ref (eb E + t)), (1, i3 a1), (2, i3 a2), (3, i3 a3)] := hl
  unfold fn_X11_wrongBetween at hf
  refine lv_aload_n C.hx C.hb dX11_wrongBetween_0 rfl (lv_at hl 0 rfl) ?_
  refine g_ref (off := 29) C hH o_t (by decide) rfl rfl FL_RX11_105 dX11_wrongBetween_1 ?_
  refine lv_sipush (v := Int32.ofInt 1001) C.hx C.hb dX11_wrongBetween_4 (by decide) ?_
  refine lv_iload_n C.hx C.hb dX11_wrongBetween_7 rfl (lv_at hl 1 rfl) ?_
  refine w_imul C dX11_wrongBetween_8 ?_
  refine lv_iload_n C.hx C.hb dX11_wrongBetween_9 rfl (lv_at hl 3 rfl) ?_
  refine w_iadd C dX11_wrongBetween_10 ?_
  refine r_iald C hH (ly (i := 45) (off := 29) (k := 12) hn o_t rfl rfl rfl) (lyn (i := 45) (off := 29) (N := 6005) hn o_t rfl rfl rfl) hf dX11_wrongBetween_11 (fun x11 hf => ?_)
  refine lv_aload_n C.hx C.hb dX11_wrongBetween_12 rfl (lv_at hl 0 rfl) ?_
  refine g_ref (off := 29) C hH o_t (by decide) rfl rfl FL_RX11_105 dX11_wrongBetween_13 ?_
  refine lv_sipush (v := Int32.ofInt 1001) C.hx C.hb dX11_wrongBetween_16 (by decide) ?_
  refine lv_iload_n C.hx C.hb dX11_wrongBetween_19 rfl (lv_at hl 1 rfl) ?_
  refine w_imul C dX11_wrongBetween_20 ?_
  refine lv_iload_n C.hx C.hb dX11_wrongBetween_21 rfl (lv_at hl 2 rfl) ?_
  refine w_iadd C dX11_wrongBetween_22 ?_
  refine r_iald C hH (ly (i := 45) (off := 29) (k := 12) hn o_t rfl rfl rfl) (lyn (i := 45) (off := 29) (N := 6005) hn o_t rfl rfl rfl) hf dX11_wrongBetween_23 (fun x23 hf => ?_)
  refine w_isub C dX11_wrongBetween_24 ?_
  cases hf
  exact w_iret C hH dX11_wrongBetween_25
-- HeavierByHandModel.sorted
def fn_X11_sorted_J253 (v5_192 : Int) (rec192 : Int → Int → Int → Option (Int × Mem)) (v7_253 : Int) : Option (Int × Mem) :=
  nm (v5_192 + 1) fun v5_260 => rec192 v5_260 v7_253 v7_253
def fn_X11_sorted_L216 (t : Nat) (M179 : Mem) (v5_192 : Int) (v3_192 : Int) (rec192 : Int → Int → Int → Option (Int × Mem)) (x210 : Int) (rec216 : Int → Option (Int × Mem)) (v7_216 : Int) : Option (Int × Mem) :=
  cu (fn_X11_wrongBetween t v5_192 v3_192 v7_216 M179) fun x222 => rd M179 (t + 30) 6006 ((1001 * (v5_192 + 1)) + v7_216) fun x240 => cEq (x222 + x240) x210 (fn_X11_sorted_J253 v5_192 rec192 v7_216) (nm (v7_216 + 1) fun v7_247 => rec216 v7_247)
def fn_X11_sorted_L192 (t : Nat) (a2 : Int) (M179 : Mem) (rec192 : Int → Int → Int → Option (Int × Mem)) (v5_192 : Int) (v4_192 : Int) (v3_192 : Int) : Option (Int × Mem) :=
  cLt v5_192 a2 (rd M179 (t + 30) 6006 ((1001 * v5_192) + v3_192) fun x210 => lq1 (fn_X11_sorted_L216 t M179 v5_192 v3_192 rec192 x210) FU v3_192) (some (v4_192, M179))
def fn_X11_sorted_J179 (t : Nat) (a2 : Int) (M179 : Mem) : Option (Int × Mem) :=
  rd M179 (t + 30) 6006 0 fun x186 => lq3 (fn_X11_sorted_L192 t a2 M179) FU 0 x186 0
def fn_X11_sorted_J173 (v3_71 : Int) (rec71 : Int → Mem → Option (Int × Mem)) (M173 : Mem) : Option (Int × Mem) :=
  nm (v3_71 + (-1)) fun v3_173 => rec71 v3_173 M173
def fn_X11_sorted_J152 (t : Nat) (v3_71 : Int) (v4_78 : Int) (M78 : Mem) (rec78 : Int → Mem → Option (Int × Mem)) (v5_152 : Int) : Option (Int × Mem) :=
  wr M78 (t + 30) 6006 ((1001 * v3_71) + v4_78) v5_152 fun M166 => nm (v4_78 + 1) fun v4_167 => rec78 v4_167 M166
def fn_X11_sorted_J144 (v6_95 : Int) (rec95 : Int → Int → Option (Int × Mem)) (u0_144 : Int) : Option (Int × Mem) :=
  nm (v6_95 + 1) fun v6_146 => rec95 v6_146 u0_144
def fn_X11_sorted_L95 (t : Nat) (v3_71 : Int) (v4_78 : Int) (M78 : Mem) (rec78 : Int → Mem → Option (Int × Mem)) (rec95 : Int → Int → Option (Int × Mem)) (v6_95 : Int) (v5_95 : Int) : Option (Int × Mem) :=
  cLt v6_95 1000 (cu (fn_X11_wrongBetween t v3_71 v4_78 v6_95 M78) fun x109 => rd M78 (t + 30) 6006 ((1001 * (v3_71 + 1)) + v6_95) fun x126 => nm ((x109 + x126)) fun v7_128 => cLt v7_128 v5_95 (fn_X11_sorted_J144 v6_95 rec95 v7_128) (fn_X11_sorted_J144 v6_95 rec95 v5_95)) (fn_X11_sorted_J152 t v3_71 v4_78 M78 rec78 v5_95)
def fn_X11_sorted_L78 (t : Nat) (v3_71 : Int) (rec71 : Int → Mem → Option (Int × Mem)) (rec78 : Int → Mem → Option (Int × Mem)) (v4_78 : Int) (M78 : Mem) : Option (Int × Mem) :=
  cLt v4_78 1000 (lq2 (fn_X11_sorted_L95 t v3_71 v4_78 M78 rec78) FU v4_78 100000) (fn_X11_sorted_J173 v3_71 rec71 M78)
def fn_X11_sorted_L71 (t : Nat) (a2 : Int) (rec71 : Int → Mem → Option (Int × Mem)) (v3_71 : Int) (M71 : Mem) : Option (Int × Mem) :=
  cLt v3_71 0 (fn_X11_sorted_J179 t a2 M71) (lq2 (fn_X11_sorted_L78 t v3_71 rec71) FU 0 M71)
def fn_X11_sorted_J67 (t : Nat) (a1 : Int) (a2 : Int) (M67 : Mem) : Option (Int × Mem) :=
  nm ((a1 - 2)) fun v3_70 => lq2 (fn_X11_sorted_L71 t a2) FU v3_70 M67
def fn_X11_sorted_L29 (t : Nat) (a1 : Int) (a2 : Int) (rec29 : Int → Mem → Option (Int × Mem)) (v3_29 : Int) (M29 : Mem) : Option (Int × Mem) :=
  cLt v3_29 1000 (cu (fn_X11_wrongBetween t (a1 - 1) v3_29 1000 M29) fun x57 => wr M29 (t + 30) 6006 ((1001 * (a1 - 1)) + v3_29) x57 fun M60 => nm (v3_29 + 1) fun v3_61 => rec29 v3_61 M60) (fn_X11_sorted_J67 t a1 a2 M29)
def fn_X11_sorted (t : Nat) (a1 : Int) (a2 : Int) (M : Mem) : Option (Int × Mem) :=
  cu (fn_X11_in a1 2 6 M) fun x4 => cEq x4 0 (some ((-1), M)) (cu (fn_X11_in a2 0 (a1 - 1) M) fun x15 => cEq x15 0 (some ((-1), M)) (cv (fn_X11_laysWrong t M) fun M24 => lq2 (fn_X11_sorted_L29 t a1 a2) FU 0 M24))
set_option maxRecDepth 100000 in
set_option maxHeartbeats 4000000 in
theorem j_X11_sorted_253 {p : Program} {l : Launch} {e : Env} {s : State} {m : MethodId} {args : Array Value} {below : List Frame} {meth : Method} {c : Code} {E : EE} {n : Nat} {o : (Int × Mem)} {t : Nat} {a2 : Int} {M179 : Mem} {v5_192 : Int} {rec192 : Int → Int → Int → Option (Int × Mem)} {v7_253 : Int} {H : Heap} {locs : List Loc} {ls : Array Slot} (C : Cx E p s m args meth c cX11_sorted 8 RX11 (some .int) n "sorted") (hn : nfull n) (o_t : ob n t 11) (h_rec192 : ∀ {v5_192 : Int} {v4_192 : Int} {v3_192 : Int} {H : Heap} {locs : List Loc} {ls : Array Slot}, rec192 v5_192 v4_192 v3_192 = some o → ST E s n (zf n) M179 H locs → lv_has ls 8 [(0, .ref (eb E + t)), (2, i3 a2), (3, i3 v3_192), (4, i3 v4_192), (5, i3 v5_192)] → W p l e { frames := 2, cells := 0, slots := 0, locals := 47 } s m args below meth c H locs 0 0 (MQ below (QC E (some (i3 o.1)) n (zf n) o.2) args s 0 0 (fr E)) (F0 m 192 ls [])) (hf : fn_X11_sorted_J253 v5_192 rec192 v7_253 = some o) (hH : ST E s n (zf n) M179 H locs) (hl : lv_has ls 8 [(0, .ref (eb E + t)), (2, i3 a2), (5, i3 v5_192), (7, i3 v7_253)]) : W p l e { frames := 2, cells := 0, slots := 0, locals := 47 } s m args below meth c H locs 0 0 (MQ below (QC E (some (i3 o.1)) n (zf n) o.2) args s 0 0 (fr E)) (F0 m 253 ls []) := by
  unfold fn_X11_sorted_J253 at hf
  refine lv_iload C.hx C.hb dX11_sorted_253 (lv_at hl 3 rfl) ?_
  refine lv_istore_n (lv' := [(3, i3 v7_253), (0, .ref (eb E + t)), (2, i3 a2), (5, i3 v5_192), (7, i3 v7_253)]) C.hx C.hb dX11_sorted_255 rfl hl (by decide) rfl (fun ls hl => ?_)
  refine lv_iload C.hx C.hb dX11_sorted_256 (lv_at hl 4 rfl) ?_
  refine lv_istore (lv' := [(4, i3 v7_253), (3, i3 v7_253), (0, .ref (eb E + t)), (2, i3 a2), (5, i3 v5_192), (7, i3 v7_253)]) C.hx C.hb dX11_sorted_258 hl (by decide) rfl (fun ls hl => ?_)
  refine r_iinc (k := 4) (lv' := fun v => [(5, i3 v), (4, i3 v7_253), (3, i3 v7_253), (0, .ref (eb E + t)), (2, i3 a2), (7, i3 v7_253)]) C hf dX11_sorted_260 hl rfl (by decide) (fun _ => rfl) (fun v5_260 ls hf hl => ?_)
  refine lv_goto (tgt := 192) C.hx C.hb dX11_sorted_263 (by decide) ?_
  exact h_rec192 hf hH (lv_sub hl [3, 4, 2, 1, 0] rfl)
set_option maxRecDepth 100000 in
set_option maxHeartbeats 4000000 in
theorem l_X11_sorted_216 {p : Program} {l : Launch} {e : Env} {s : State} {m : MethodId} {args : Array Value} {below : List Frame} {meth : Method} {c : Code} {E : EE} {n : Nat} {o : (Int × Mem)} {t : Nat} {a2 : Int} {M179 : Mem} {v5_192 : Int} {v3_192 : Int} {rec192 : Int → Int → Int → Option (Int × Mem)} {x210 : Int} (C : Cx E p s m args meth c cX11_sorted 8 RX11 (some .int) n "sorted") (hn : nfull n) (o_t : ob n t 11) (h_rec192 : ∀ {v5_192 : Int} {v4_192 : Int} {v3_192 : Int} {H : Heap} {locs : List Loc} {ls : Array Slot}, rec192 v5_192 v4_192 v3_192 = some o → ST E s n (zf n) M179 H locs → lv_has ls 8 [(0, .ref (eb E + t)), (2, i3 a2), (3, i3 v3_192), (4, i3 v4_192), (5, i3 v5_192)] → W p l e { frames := 2, cells := 0, slots := 0, locals := 47 } s m args below meth c H locs 0 0 (MQ below (QC E (some (i3 o.1)) n (zf n) o.2) args s 0 0 (fr E)) (F0 m 192 ls [])) : ∀ (k : Nat) (v7_216 : Int) (H : Heap) (locs : List Loc) (ls : Array Slot), lq1 (fn_X11_sorted_L216 t M179 v5_192 v3_192 rec192 x210) k v7_216 = some o → ST E s n (zf n) M179 H locs → lv_has ls 8 [(0, .ref (eb E + t)), (2, i3 a2), (3, i3 v3_192), (5, i3 v5_192), (6, i3 x210), (7, i3 v7_216)] → W p l e { frames := 2, cells := 0, slots := 0, locals := 47 } s m args below meth c H locs 0 0 (MQ below (QC E (some (i3 o.1)) n (zf n) o.2) args s 0 0 (fr E)) (F0 m 216 ls []) := by
  intro k
  induction k with
  | zero => intro v7_216 H locs ls hf; cases hf
  | succ k ih =>
    intro v7_216 H locs ls hf hH hl
    have h_rec216 : ∀ {v7_216 : Int} {H : Heap} {locs : List Loc} {ls : Array Slot}, lq1 (fn_X11_sorted_L216 t M179 v5_192 v3_192 rec192 x210) k v7_216 = some o → ST E s n (zf n) M179 H locs → lv_has ls 8 [(0, .ref (eb E + t)), (2, i3 a2), (3, i3 v3_192), (5, i3 v5_192), (6, i3 x210), (7, i3 v7_216)] → W p l e { frames := 2, cells := 0, slots := 0, locals := 47 } s m args below meth c H locs 0 0 (MQ below (QC E (some (i3 o.1)) n (zf n) o.2) args s 0 0 (fr E)) (F0 m 216 ls []) := fun {v7_216} {H} {locs} {ls} a b c => ih v7_216 H locs ls a b c
    replace hf : fn_X11_sorted_L216 t M179 v5_192 v3_192 rec192 x210 (lq1 (fn_X11_sorted_L216 t M179 v5_192 v3_192 rec192 x210) k) v7_216 = some o := hf
    generalize lq1 (fn_X11_sorted_L216 t M179 v5_192 v3_192 rec192 x210) k = rec216 at hf h_rec216
    unfold fn_X11_sorted_L216 at hf
    refine lv_aload_n C.hx C.hb dX11_sorted_216 rfl (lv_at hl 0 rfl) ?_
    refine lv_iload C.hx C.hb dX11_sorted_217 (lv_at hl 3 rfl) ?_
    refine lv_iload_n C.hx C.hb dX11_sorted_219 rfl (lv_at hl 2 rfl) ?_
    refine lv_iload C.hx C.hb dX11_sorted_220 (lv_at hl 5 rfl) ?_
    obtain ⟨x222, hc9, hf⟩ := cu_of hf
    refine r_callVi (rest := []) C hH hl o_t (by decide) rfl (m_X11_wrongBetween hn o_t hc9) ML_RX11_374 MF_X11_wrongBetween MI_X11_wrongBetween rfl rfl (Nat.le_of_ble_eq_true rfl) ⟨Nat.le_of_ble_eq_true rfl, Nat.le_of_ble_eq_true rfl⟩ ⟨Nat.le_refl _, Nat.le_refl _⟩ dX11_sorted_222 (fun H locs hH => ?_)
    refine lv_aload_n C.hx C.hb dX11_sorted_225 rfl (lv_at hl 0 rfl) ?_
    refine g_ref (off := 30) C hH o_t (by decide) rfl rfl FL_RX11_108 dX11_sorted_226 ?_
    refine lv_sipush (v := Int32.ofInt 1001) C.hx C.hb dX11_sorted_229 (by decide) ?_
    refine lv_iload C.hx C.hb dX11_sorted_232 (lv_at hl 3 rfl) ?_
    refine lv_iconst (v := Int32.ofInt 1) C.hx C.hb dX11_sorted_234 rfl ?_
    refine w_iadd C dX11_sorted_235 ?_
    refine w_imul C dX11_sorted_236 ?_
    refine lv_iload C.hx C.hb dX11_sorted_237 (lv_at hl 5 rfl) ?_
    refine w_iadd C dX11_sorted_239 ?_
    refine r_iald C hH (ly (i := 46) (off := 30) (k := 12) hn o_t rfl rfl rfl) (lyn (i := 46) (off := 30) (N := 6005) hn o_t rfl rfl rfl) hf dX11_sorted_240 (fun x240 hf => ?_)
    refine w_iadd C dX11_sorted_241 ?_
    refine lv_iload C.hx C.hb dX11_sorted_242 (lv_at hl 4 rfl) ?_
    refine w_eq (tgt := 253) C hf dX11_sorted_244 (by decide) (fun hf => ?_) (fun hf => ?_)
    · exact j_X11_sorted_253 C hn o_t h_rec192 hf hH (lv_sub hl [0, 1, 3, 5] rfl)
    · refine r_iinc (k := 5) (lv' := fun v => [(7, i3 v), (0, .ref (eb E + t)), (2, i3 a2), (3, i3 v3_192), (5, i3 v5_192), (6, i3 x210)]) C hf dX11_sorted_247 hl rfl (by decide) (fun _ => rfl) (fun v7_247 ls hf hl => ?_)
      refine lv_goto (tgt := 216) C.hx C.hb dX11_sorted_250 (by decide) ?_
      exact h_rec216 hf hH (lv_sub hl [1, 2, 3, 4, 5, 0] rfl)
set_option maxRecDepth 100000 in
set_option maxHeartbeats 4000000 in
theorem l_X11_sorted_192 {p : Program} {l : Launch} {e : Env} {s : State} {m : MethodId} {args : Array Value} {below : List Frame} {meth : Method} {c : Code} {E : EE} {n : Nat} {o : (Int × Mem)} {t : Nat} {a2 : Int} {M179 : Mem} (C : Cx E p s m args meth c cX11_sorted 8 RX11 (some .int) n "sorted") (hn : nfull n) (o_t : ob n t 11) : ∀ (k : Nat) (v5_192 : Int) (v4_192 : Int) (v3_192 : Int) (H : Heap) (locs : List Loc) (ls : Array Slot), lq3 (fn_X11_sorted_L192 t a2 M179) k v5_192 v4_192 v3_192 = some o → ST E s n (zf n) M179 H locs → lv_has ls 8 [(0, .ref (eb E + t)), (2, i3 a2), (3, i3 v3_192), (4, i3 v4_192), (5, i3 v5_192)] → W p l e { frames := 2, cells := 0, slots := 0, locals := 47 } s m args below meth c H locs 0 0 (MQ below (QC E (some (i3 o.1)) n (zf n) o.2) args s 0 0 (fr E)) (F0 m 192 ls []) := by
  intro k
  induction k with
  | zero => intro v5_192 v4_192 v3_192 H locs ls hf; cases hf
  | succ k ih =>
    intro v5_192 v4_192 v3_192 H locs ls hf hH hl
    have h_rec192 : ∀ {v5_192 : Int} {v4_192 : Int} {v3_192 : Int} {H : Heap} {locs : List Loc} {ls : Array Slot}, lq3 (fn_X11_sorted_L192 t a2 M179) k v5_192 v4_192 v3_192 = some o → ST E s n (zf n) M179 H locs → lv_has ls 8 [(0, .ref (eb E + t)), (2, i3 a2), (3, i3 v3_192), (4, i3 v4_192), (5, i3 v5_192)] → W p l e { frames := 2, cells := 0, slots := 0, locals := 47 } s m args below meth c H locs 0 0 (MQ below (QC E (some (i3 o.1)) n (zf n) o.2) args s 0 0 (fr E)) (F0 m 192 ls []) := fun {v5_192} {v4_192} {v3_192} {H} {locs} {ls} a b c => ih v5_192 v4_192 v3_192 H locs ls a b c
    replace hf : fn_X11_sorted_L192 t a2 M179 (lq3 (fn_X11_sorted_L192 t a2 M179) k) v5_192 v4_192 v3_192 = some o := hf
    generalize lq3 (fn_X11_sorted_L192 t a2 M179) k = rec192 at hf h_rec192
    unfold fn_X11_sorted_L192 at hf
    refine lv_iload C.hx C.hb dX11_sorted_192 (lv_at hl 4 rfl) ?_
    refine lv_iload_n C.hx C.hb dX11_sorted_194 rfl (lv_at hl 1 rfl) ?_
    refine w_ge (tgt := 266) C hf dX11_sorted_195 (by decide) (fun hf => ?_) (fun hf => ?_)
    · refine lv_iload C.hx C.hb dX11_sorted_266 (lv_at hl 3 rfl) ?_
      cases hf
      exact w_iret C hH dX11_sorted_268
    · refine lv_aload_n C.hx C.hb dX11_sorted_198 rfl (lv_at hl 0 rfl) ?_
      refine g_ref (off := 30) C hH o_t (by decide) rfl rfl FL_RX11_108 dX11_sorted_199 ?_
      refine lv_sipush (v := Int32.ofInt 1001) C.hx C.hb dX11_sorted_202 (by decide) ?_
      refine lv_iload C.hx C.hb dX11_sorted_205 (lv_at hl 4 rfl) ?_
      refine w_imul C dX11_sorted_207 ?_
      refine lv_iload_n C.hx C.hb dX11_sorted_208 rfl (lv_at hl 2 rfl) ?_
      refine w_iadd C dX11_sorted_209 ?_
      refine r_iald C hH (ly (i := 46) (off := 30) (k := 12) hn o_t rfl rfl rfl) (lyn (i := 46) (off := 30) (N := 6005) hn o_t rfl rfl rfl) hf dX11_sorted_210 (fun x210 hf => ?_)
      refine lv_istore (lv' := [(6, i3 x210), (0, .ref (eb E + t)), (2, i3 a2), (3, i3 v3_192), (4, i3 v4_192), (5, i3 v5_192)]) C.hx C.hb dX11_sorted_211 hl (by decide) rfl (fun ls hl => ?_)
      refine lv_iload_n C.hx C.hb dX11_sorted_213 rfl (lv_at hl 3 rfl) ?_
      refine lv_istore (lv' := [(7, i3 v3_192), (6, i3 x210), (0, .ref (eb E + t)), (2, i3 a2), (3, i3 v3_192), (4, i3 v4_192), (5, i3 v5_192)]) C.hx C.hb dX11_sorted_214 hl (by decide) rfl (fun ls hl => ?_)
      exact l_X11_sorted_216 C hn o_t h_rec192 FU _ _ _ _ hf hH (lv_sub hl [2, 3, 4, 6, 1, 0] rfl)
set_option maxRecDepth 100000 in
set_option maxHeartbeats 4000000 in
theorem j_X11_sorted_179 {p : Program} {l : Launch} {e : Env} {s : State} {m : MethodId} {args : Array Value} {below : List Frame} {meth : Method} {c : Code} {E : EE} {n : Nat} {o : (Int × Mem)} {t : Nat} {a2 : Int} {M179 : Mem} {H : Heap} {locs : List Loc} {ls : Array Slot} (C : Cx E p s m args meth c cX11_sorted 8 RX11 (some .int) n "sorted") (hn : nfull n) (o_t : ob n t 11) (hf : fn_X11_sorted_J179 t a2 M179 = some o) (hH : ST E s n (zf n) M179 H locs) (hl : lv_has ls 8 [(0, .ref (eb E + t)), (2, i3 a2)]) : W p l e { frames := 2, cells := 0, slots := 0, locals := 47 } s m args below meth c H locs 0 0 (MQ below (QC E (some (i3 o.1)) n (zf n) o.2) args s 0 0 (fr E)) (F0 m 179 ls []) := by
  unfold fn_X11_sorted_J179 at hf
  refine lv_iconst (v := Int32.ofInt 0) C.hx C.hb dX11_sorted_179 rfl ?_
  refine lv_istore_n (lv' := [(3, i3 0), (0, .ref (eb E + t)), (2, i3 a2)]) C.hx C.hb dX11_sorted_180 rfl hl (by decide) rfl (fun ls hl => ?_)
  refine lv_aload_n C.hx C.hb dX11_sorted_181 rfl (lv_at hl 1 rfl) ?_
  refine g_ref (off := 30) C hH o_t (by decide) rfl rfl FL_RX11_108 dX11_sorted_182 ?_
  refine lv_iconst (v := Int32.ofInt 0) C.hx C.hb dX11_sorted_185 rfl ?_
  refine r_iald C hH (ly (i := 46) (off := 30) (k := 12) hn o_t rfl rfl rfl) (lyn (i := 46) (off := 30) (N := 6005) hn o_t rfl rfl rfl) hf dX11_sorted_186 (fun x186 hf => ?_)
  refine lv_istore (lv' := [(4, i3 x186), (3, i3 0), (0, .ref (eb E + t)), (2, i3 a2)]) C.hx C.hb dX11_sorted_187 hl (by decide) rfl (fun ls hl => ?_)
  refine lv_iconst (v := Int32.ofInt 0) C.hx C.hb dX11_sorted_189 rfl ?_
  refine lv_istore (lv' := [(5, i3 0), (4, i3 x186), (3, i3 0), (0, .ref (eb E + t)), (2, i3 a2)]) C.hx C.hb dX11_sorted_190 hl (by decide) rfl (fun ls hl => ?_)
  exact l_X11_sorted_192 C hn o_t FU _ _ _ _ _ _ hf hH (lv_sub hl [3, 4, 2, 1, 0] rfl)
set_option maxRecDepth 100000 in
set_option maxHeartbeats 4000000 in
theorem j_X11_sorted_173 {p : Program} {l : Launch} {e : Env} {s : State} {m : MethodId} {args : Array Value} {below : List Frame} {meth : Method} {c : Code} {E : EE} {n : Nat} {o : (Int × Mem)} {t : Nat} {a2 : Int} {v3_71 : Int} {rec71 : Int → Mem → Option (Int × Mem)} {M173 : Mem} {H : Heap} {locs : List Loc} {ls : Array Slot} (C : Cx E p s m args meth c cX11_sorted 8 RX11 (some .int) n "sorted") (hn : nfull n) (o_t : ob n t 11) (h_rec71 : ∀ {v3_71 : Int} {M71 : Mem} {H : Heap} {locs : List Loc} {ls : Array Slot}, rec71 v3_71 M71 = some o → ST E s n (zf n) M71 H locs → lv_has ls 8 [(0, .ref (eb E + t)), (2, i3 a2), (3, i3 v3_71)] → W p l e { frames := 2, cells := 0, slots := 0, locals := 47 } s m args below meth c H locs 0 0 (MQ below (QC E (some (i3 o.1)) n (zf n) o.2) args s 0 0 (fr E)) (F0 m 71 ls [])) (hf : fn_X11_sorted_J173 v3_71 rec71 M173 = some o) (hH : ST E s n (zf n) M173 H locs) (hl : lv_has ls 8 [(0, .ref (eb E + t)), (2, i3 a2), (3, i3 v3_71)]) : W p l e { frames := 2, cells := 0, slots := 0, locals := 47 } s m args below meth c H locs 0 0 (MQ below (QC E (some (i3 o.1)) n (zf n) o.2) args s 0 0 (fr E)) (F0 m 173 ls []) := by
  unfold fn_X11_sorted_J173 at hf
  refine r_iinc (k := 2) (lv' := fun v => [(3, i3 v), (0, .ref (eb E + t)), (2, i3 a2)]) C hf dX11_sorted_173 hl rfl (by decide) (fun _ => rfl) (fun v3_173 ls hf hl => ?_)
  refine lv_goto (tgt := 71) C.hx C.hb dX11_sorted_176 (by decide) ?_
  exact h_rec71 hf hH (lv_sub hl [1, 2, 0] rfl)
set_option maxRecDepth 100000 in
set_option maxHeartbeats 4000000 in
theorem j_X11_sorted_152 {p : Program} {l : Launch} {e : Env} {s : State} {m : MethodId} {args : Array Value} {below : List Frame} {meth : Method} {c : Code} {E : EE} {n : Nat} {o : (Int × Mem)} {t : Nat} {a2 : Int} {v3_71 : Int} {v4_78 : Int} {M78 : Mem} {rec78 : Int → Mem → Option (Int × Mem)} {v5_152 : Int} {H : Heap} {locs : List Loc} {ls : Array Slot} (C : Cx E p s m args meth c cX11_sorted 8 RX11 (some .int) n "sorted") (hn : nfull n) (o_t : ob n t 11) (h_rec78 : ∀ {v4_78 : Int} {M78 : Mem} {H : Heap} {locs : List Loc} {ls : Array Slot}, rec78 v4_78 M78 = some o → ST E s n (zf n) M78 H locs → lv_has ls 8 [(0, .ref (eb E + t)), (2, i3 a2), (3, i3 v3_71), (4, i3 v4_78)] → W p l e { frames := 2, cells := 0, slots := 0, locals := 47 } s m args below meth c H locs 0 0 (MQ below (QC E (some (i3 o.1)) n (zf n) o.2) args s 0 0 (fr E)) (F0 m 78 ls [])) (hf : fn_X11_sorted_J152 t v3_71 v4_78 M78 rec78 v5_152 = some o) (hH : ST E s n (zf n) M78 H locs) (hl : lv_has ls 8 [(0, .ref (eb E + t)), (2, i3 a2), (3, i3 v3_71), (4, i3 v4_78), (5, i3 v5_152)]) : W p l e { frames := 2, cells := 0, slots := 0, locals := 47 } s m args below meth c H locs 0 0 (MQ below (QC E (some (i3 o.1)) n (zf n) o.2) args s 0 0 (fr E)) (F0 m 152 ls []) := by
  unfold fn_X11_sorted_J152 at hf
  refine lv_aload_n C.hx C.hb dX11_sorted_152 rfl (lv_at hl 0 rfl) ?_
  refine g_ref (off := 30) C hH o_t (by decide) rfl rfl FL_RX11_108 dX11_sorted_153 ?_
  refine lv_sipush (v := Int32.ofInt 1001) C.hx C.hb dX11_sorted_156 (by decide) ?_
  refine lv_iload_n C.hx C.hb dX11_sorted_159 rfl (lv_at hl 2 rfl) ?_
  refine w_imul C dX11_sorted_160 ?_
  refine lv_iload C.hx C.hb dX11_sorted_161 (lv_at hl 3 rfl) ?_
  refine w_iadd C dX11_sorted_163 ?_
  refine lv_iload C.hx C.hb dX11_sorted_164 (lv_at hl 4 rfl) ?_
  refine r_iast C hH (ly (i := 46) (off := 30) (k := 12) hn o_t rfl rfl rfl) (lyn (i := 46) (off := 30) (N := 6005) hn o_t rfl rfl rfl) hf dX11_sorted_166 (fun M166 H locs hf hH => ?_)
  refine r_iinc (k := 3) (lv' := fun v => [(4, i3 v), (0, .ref (eb E + t)), (2, i3 a2), (3, i3 v3_71), (5, i3 v5_152)]) C hf dX11_sorted_167 hl rfl (by decide) (fun _ => rfl) (fun v4_167 ls hf hl => ?_)
  refine lv_goto (tgt := 78) C.hx C.hb dX11_sorted_170 (by decide) ?_
  exact h_rec78 hf hH (lv_sub hl [1, 2, 3, 0] rfl)
set_option maxRecDepth 100000 in
set_option maxHeartbeats 4000000 in
theorem j_X11_sorted_144 {p : Program} {l : Launch} {e : Env} {s : State} {m : MethodId} {args : Array Value} {below : List Frame} {meth : Method} {c : Code} {E : EE} {n : Nat} {o : (Int × Mem)} {t : Nat} {a2 : Int} {v3_71 : Int} {v4_78 : Int} {M78 : Mem} {v6_95 : Int} {rec95 : Int → Int → Option (Int × Mem)} {u0_144 : Int} {H : Heap} {locs : List Loc} {ls : Array Slot} (C : Cx E p s m args meth c cX11_sorted 8 RX11 (some .int) n "sorted") (hn : nfull n) (o_t : ob n t 11) (h_rec95 : ∀ {v6_95 : Int} {v5_95 : Int} {H : Heap} {locs : List Loc} {ls : Array Slot}, rec95 v6_95 v5_95 = some o → ST E s n (zf n) M78 H locs → lv_has ls 8 [(0, .ref (eb E + t)), (2, i3 a2), (3, i3 v3_71), (4, i3 v4_78), (5, i3 v5_95), (6, i3 v6_95)] → W p l e { frames := 2, cells := 0, slots := 0, locals := 47 } s m args below meth c H locs 0 0 (MQ below (QC E (some (i3 o.1)) n (zf n) o.2) args s 0 0 (fr E)) (F0 m 95 ls [])) (hf : fn_X11_sorted_J144 v6_95 rec95 u0_144 = some o) (hH : ST E s n (zf n) M78 H locs) (hl : lv_has ls 8 [(0, .ref (eb E + t)), (2, i3 a2), (3, i3 v3_71), (4, i3 v4_78), (6, i3 v6_95)]) : W p l e { frames := 2, cells := 0, slots := 0, locals := 47 } s m args below meth c H locs 0 0 (MQ below (QC E (some (i3 o.1)) n (zf n) o.2) args s 0 0 (fr E)) (F0 m 144 ls [i3 u0_144]) := by
  unfold fn_X11_sorted_J144 at hf
  refine lv_istore (lv' := [(5, i3 u0_144), (0, .ref (eb E + t)), (2, i3 a2), (3, i3 v3_71), (4, i3 v4_78), (6, i3 v6_95)]) C.hx C.hb dX11_sorted_144 hl (by decide) rfl (fun ls hl => ?_)
  refine r_iinc (k := 5) (lv' := fun v => [(6, i3 v), (5, i3 u0_144), (0, .ref (eb E + t)), (2, i3 a2), (3, i3 v3_71), (4, i3 v4_78)]) C hf dX11_sorted_146 hl rfl (by decide) (fun _ => rfl) (fun v6_146 ls hf hl => ?_)
  refine lv_goto (tgt := 95) C.hx C.hb dX11_sorted_149 (by decide) ?_
  exact h_rec95 hf hH (lv_sub hl [2, 3, 4, 5, 1, 0] rfl)
set_option maxRecDepth 100000 in
set_option maxHeartbeats 4000000 in
theorem l_X11_sorted_95 {p : Program} {l : Launch} {e : Env} {s : State} {m : MethodId} {args : Array Value} {below : List Frame} {meth : Method} {c : Code} {E : EE} {n : Nat} {o : (Int × Mem)} {t : Nat} {a2 : Int} {v3_71 : Int} {v4_78 : Int} {M78 : Mem} {rec78 : Int → Mem → Option (Int × Mem)} (C : Cx E p s m args meth c cX11_sorted 8 RX11 (some .int) n "sorted") (hn : nfull n) (o_t : ob n t 11) (h_rec78 : ∀ {v4_78 : Int} {M78 : Mem} {H : Heap} {locs : List Loc} {ls : Array Slot}, rec78 v4_78 M78 = some o → ST E s n (zf n) M78 H locs → lv_has ls 8 [(0, .ref (eb E + t)), (2, i3 a2), (3, i3 v3_71), (4, i3 v4_78)] → W p l e { frames := 2, cells := 0, slots := 0, locals := 47 } s m args below meth c H locs 0 0 (MQ below (QC E (some (i3 o.1)) n (zf n) o.2) args s 0 0 (fr E)) (F0 m 78 ls [])) : ∀ (k : Nat) (v6_95 : Int) (v5_95 : Int) (H : Heap) (locs : List Loc) (ls : Array Slot), lq2 (fn_X11_sorted_L95 t v3_71 v4_78 M78 rec78) k v6_95 v5_95 = some o → ST E s n (zf n) M78 H locs → lv_has ls 8 [(0, .ref (eb E + t)), (2, i3 a2), (3, i3 v3_71), (4, i3 v4_78), (5, i3 v5_95), (6, i3 v6_95)] → W p l e { frames := 2, cells := 0, slots := 0, locals := 47 } s m args below meth c H locs 0 0 (MQ below (QC E (some (i3 o.1)) n (zf n) o.2) args s 0 0 (fr E)) (F0 m 95 ls []) := by
  intro k
  induction k with
  | zero => intro v6_95 v5_95 H locs ls hf; cases hf
  | succ k ih =>
    intro v6_95 v5_95 H locs ls hf hH hl
    have h_rec95 : ∀ {v6_95 : Int} {v5_95 : Int} {H : Heap} {locs : List Loc} {ls : Array Slot}, lq2 (fn_X11_sorted_L95 t v3_71 v4_78 M78 rec78) k v6_95 v5_95 = some o → ST E s n (zf n) M78 H locs → lv_has ls 8 [(0, .ref (eb E + t)), (2, i3 a2), (3, i3 v3_71), (4, i3 v4_78), (5, i3 v5_95), (6, i3 v6_95)] → W p l e { frames := 2, cells := 0, slots := 0, locals := 47 } s m args below meth c H locs 0 0 (MQ below (QC E (some (i3 o.1)) n (zf n) o.2) args s 0 0 (fr E)) (F0 m 95 ls []) := fun {v6_95} {v5_95} {H} {locs} {ls} a b c => ih v6_95 v5_95 H locs ls a b c
    replace hf : fn_X11_sorted_L95 t v3_71 v4_78 M78 rec78 (lq2 (fn_X11_sorted_L95 t v3_71 v4_78 M78 rec78) k) v6_95 v5_95 = some o := hf
    generalize lq2 (fn_X11_sorted_L95 t v3_71 v4_78 M78 rec78) k = rec95 at hf h_rec95
    unfold fn_X11_sorted_L95 at hf
    refine lv_iload C.hx C.hb dX11_sorted_95 (lv_at hl 5 rfl) ?_
    refine lv_sipush (v := Int32.ofInt 1000) C.hx C.hb dX11_sorted_97 (by decide) ?_
    refine w_ge (tgt := 152) C hf dX11_sorted_100 (by decide) (fun hf => ?_) (fun hf => ?_)
    · exact j_X11_sorted_152 C hn o_t h_rec78 hf hH (lv_sub hl [0, 1, 2, 3, 4] rfl)
    · refine lv_aload_n C.hx C.hb dX11_sorted_103 rfl (lv_at hl 0 rfl) ?_
      refine lv_iload_n C.hx C.hb dX11_sorted_104 rfl (lv_at hl 2 rfl) ?_
      refine lv_iload C.hx C.hb dX11_sorted_105 (lv_at hl 3 rfl) ?_
      refine lv_iload C.hx C.hb dX11_sorted_107 (lv_at hl 5 rfl) ?_
      obtain ⟨x109, hc9, hf⟩ := cu_of hf
      refine r_callVi (rest := []) C hH hl o_t (by decide) rfl (m_X11_wrongBetween hn o_t hc9) ML_RX11_374 MF_X11_wrongBetween MI_X11_wrongBetween rfl rfl (Nat.le_of_ble_eq_true rfl) ⟨Nat.le_of_ble_eq_true rfl, Nat.le_of_ble_eq_true rfl⟩ ⟨Nat.le_refl _, Nat.le_refl _⟩ dX11_sorted_109 (fun H locs hH => ?_)
      refine lv_aload_n C.hx C.hb dX11_sorted_112 rfl (lv_at hl 0 rfl) ?_
      refine g_ref (off := 30) C hH o_t (by decide) rfl rfl FL_RX11_108 dX11_sorted_113 ?_
      refine lv_sipush (v := Int32.ofInt 1001) C.hx C.hb dX11_sorted_116 (by decide) ?_
      refine lv_iload_n C.hx C.hb dX11_sorted_119 rfl (lv_at hl 2 rfl) ?_
      refine lv_iconst (v := Int32.ofInt 1) C.hx C.hb dX11_sorted_120 rfl ?_
      refine w_iadd C dX11_sorted_121 ?_
      refine w_imul C dX11_sorted_122 ?_
      refine lv_iload C.hx C.hb dX11_sorted_123 (lv_at hl 5 rfl) ?_
      refine w_iadd C dX11_sorted_125 ?_
      refine r_iald C hH (ly (i := 46) (off := 30) (k := 12) hn o_t rfl rfl rfl) (lyn (i := 46) (off := 30) (N := 6005) hn o_t rfl rfl rfl) hf dX11_sorted_126 (fun x126 hf => ?_)
      refine w_iadd C dX11_sorted_127 ?_
      refine r_nm hf (fun v7_128 hf => ?_)
      refine lv_istore (lv' := [(7, i3 v7_128), (0, .ref (eb E + t)), (2, i3 a2), (3, i3 v3_71), (4, i3 v4_78), (5, i3 v5_95), (6, i3 v6_95)]) C.hx C.hb dX11_sorted_128 hl (by decide) rfl (fun ls hl => ?_)
      refine lv_iload C.hx C.hb dX11_sorted_130 (lv_at hl 0 rfl) ?_
      refine lv_iload C.hx C.hb dX11_sorted_132 (lv_at hl 5 rfl) ?_
      refine w_ge (tgt := 142) C hf dX11_sorted_134 (by decide) (fun hf => ?_) (fun hf => ?_)
      · refine lv_iload C.hx C.hb dX11_sorted_142 (lv_at hl 5 rfl) ?_
        exact j_X11_sorted_144 C hn o_t h_rec95 hf hH (lv_sub hl [1, 2, 3, 4, 6] rfl)
      · refine lv_iload C.hx C.hb dX11_sorted_137 (lv_at hl 0 rfl) ?_
        refine lv_goto (tgt := 144) C.hx C.hb dX11_sorted_139 (by decide) ?_
        exact j_X11_sorted_144 C hn o_t h_rec95 hf hH (lv_sub hl [1, 2, 3, 4, 6] rfl)
set_option maxRecDepth 100000 in
set_option maxHeartbeats 4000000 in
theorem l_X11_sorted_78 {p : Program} {l : Launch} {e : Env} {s : State} {m : MethodId} {args : Array Value} {below : List Frame} {meth : Method} {c : Code} {E : EE} {n : Nat} {o : (Int × Mem)} {t : Nat} {a2 : Int} {v3_71 : Int} {rec71 : Int → Mem → Option (Int × Mem)} (C : Cx E p s m args meth c cX11_sorted 8 RX11 (some .int) n "sorted") (hn : nfull n) (o_t : ob n t 11) (h_rec71 : ∀ {v3_71 : Int} {M71 : Mem} {H : Heap} {locs : List Loc} {ls : Array Slot}, rec71 v3_71 M71 = some o → ST E s n (zf n) M71 H locs → lv_has ls 8 [(0, .ref (eb E + t)), (2, i3 a2), (3, i3 v3_71)] → W p l e { frames := 2, cells := 0, slots := 0, locals := 47 } s m args below meth c H locs 0 0 (MQ below (QC E (some (i3 o.1)) n (zf n) o.2) args s 0 0 (fr E)) (F0 m 71 ls [])) : ∀ (k : Nat) (v4_78 : Int) (M78 : Mem) (H : Heap) (locs : List Loc) (ls : Array Slot), lq2 (fn_X11_sorted_L78 t v3_71 rec71) k v4_78 M78 = some o → ST E s n (zf n) M78 H locs → lv_has ls 8 [(0, .ref (eb E + t)), (2, i3 a2), (3, i3 v3_71), (4, i3 v4_78)] → W p l e { frames := 2, cells := 0, slots := 0, locals := 47 } s m args below meth c H locs 0 0 (MQ below (QC E (some (i3 o.1)) n (zf n) o.2) args s 0 0 (fr E)) (F0 m 78 ls []) := by
  intro k
  induction k with
  | zero => intro v4_78 M78 H locs ls hf; cases hf
  | succ k ih =>
    intro v4_78 M78 H locs ls hf hH hl
    have h_rec78 : ∀ {v4_78 : Int} {M78 : Mem} {H : Heap} {locs : List Loc} {ls : Array Slot}, lq2 (fn_X11_sorted_L78 t v3_71 rec71) k v4_78 M78 = some o → ST E s n (zf n) M78 H locs → lv_has ls 8 [(0, .ref (eb E + t)), (2, i3 a2), (3, i3 v3_71), (4, i3 v4_78)] → W p l e { frames := 2, cells := 0, slots := 0, locals := 47 } s m args below meth c H locs 0 0 (MQ below (QC E (some (i3 o.1)) n (zf n) o.2) args s 0 0 (fr E)) (F0 m 78 ls []) := fun {v4_78} {M78} {H} {locs} {ls} a b c => ih v4_78 M78 H locs ls a b c
    replace hf : fn_X11_sorted_L78 t v3_71 rec71 (lq2 (fn_X11_sorted_L78 t v3_71 rec71) k) v4_78 M78 = some o := hf
    generalize lq2 (fn_X11_sorted_L78 t v3_71 rec71) k = rec78 at hf h_rec78
    unfold fn_X11_sorted_L78 at hf
    refine lv_iload C.hx C.hb dX11_sorted_78 (lv_at hl 3 rfl) ?_
    refine lv_sipush (v := Int32.ofInt 1000) C.hx C.hb dX11_sorted_80 (by decide) ?_
    refine w_ge (tgt := 173) C hf dX11_sorted_83 (by decide) (fun hf => ?_) (fun hf => ?_)
    · exact j_X11_sorted_173 C hn o_t h_rec71 hf hH (lv_sub hl [0, 1, 2] rfl)
    · refine r_ldcw (x := 100000) C KI_RX11_377 dX11_sorted_86 ?_
      refine lv_istore (lv' := [(5, i3 100000), (0, .ref (eb E + t)), (2, i3 a2), (3, i3 v3_71), (4, i3 v4_78)]) C.hx C.hb dX11_sorted_89 hl (by decide) rfl (fun ls hl => ?_)
      refine lv_iload C.hx C.hb dX11_sorted_91 (lv_at hl 4 rfl) ?_
      refine lv_istore (lv' := [(6, i3 v4_78), (5, i3 100000), (0, .ref (eb E + t)), (2, i3 a2), (3, i3 v3_71), (4, i3 v4_78)]) C.hx C.hb dX11_sorted_93 hl (by decide) rfl (fun ls hl => ?_)
      exact l_X11_sorted_95 C hn o_t h_rec78 FU _ _ _ _ _ hf hH (lv_sub hl [2, 3, 4, 5, 1, 0] rfl)
set_option maxRecDepth 100000 in
set_option maxHeartbeats 4000000 in
theorem l_X11_sorted_71 {p : Program} {l : Launch} {e : Env} {s : State} {m : MethodId} {args : Array Value} {below : List Frame} {meth : Method} {c : Code} {E : EE} {n : Nat} {o : (Int × Mem)} {t : Nat} {a2 : Int} (C : Cx E p s m args meth c cX11_sorted 8 RX11 (some .int) n "sorted") (hn : nfull n) (o_t : ob n t 11) : ∀ (k : Nat) (v3_71 : Int) (M71 : Mem) (H : Heap) (locs : List Loc) (ls : Array Slot), lq2 (fn_X11_sorted_L71 t a2) k v3_71 M71 = some o → ST E s n (zf n) M71 H locs → lv_has ls 8 [(0, .ref (eb E + t)), (2, i3 a2), (3, i3 v3_71)] → W p l e { frames := 2, cells := 0, slots := 0, locals := 47 } s m args below meth c H locs 0 0 (MQ below (QC E (some (i3 o.1)) n (zf n) o.2) args s 0 0 (fr E)) (F0 m 71 ls []) := by
  intro k
  induction k with
  | zero => intro v3_71 M71 H locs ls hf; cases hf
  | succ k ih =>
    intro v3_71 M71 H locs ls hf hH hl
    have h_rec71 : ∀ {v3_71 : Int} {M71 : Mem} {H : Heap} {locs : List Loc} {ls : Array Slot}, lq2 (fn_X11_sorted_L71 t a2) k v3_71 M71 = some o → ST E s n (zf n) M71 H locs → lv_has ls 8 [(0, .ref (eb E + t)), (2, i3 a2), (3, i3 v3_71)] → W p l e { frames := 2, cells := 0, slots := 0, locals := 47 } s m args below meth c H locs 0 0 (MQ below (QC E (some (i3 o.1)) n (zf n) o.2) args s 0 0 (fr E)) (F0 m 71 ls []) := fun {v3_71} {M71} {H} {locs} {ls} a b c => ih v3_71 M71 H locs ls a b c
    replace hf : fn_X11_sorted_L71 t a2 (lq2 (fn_X11_sorted_L71 t a2) k) v3_71 M71 = some o := hf
    generalize lq2 (fn_X11_sorted_L71 t a2) k = rec71 at hf h_rec71
    unfold fn_X11_sorted_L71 at hf
    refine lv_iload_n C.hx C.hb dX11_sorted_71 rfl (lv_at hl 2 rfl) ?_
    refine w_lt0 (tgt := 179) C hf dX11_sorted_72 (by decide) (fun hf => ?_) (fun hf => ?_)
    · exact j_X11_sorted_179 C hn o_t hf hH (lv_sub hl [0, 1] rfl)
    · refine lv_iconst (v := Int32.ofInt 0) C.hx C.hb dX11_sorted_75 rfl ?_
      refine lv_istore (lv' := [(4, i3 0), (0, .ref (eb E + t)), (2, i3 a2), (3, i3 v3_71)]) C.hx C.hb dX11_sorted_76 hl (by decide) rfl (fun ls hl => ?_)
      exact l_X11_sorted_78 C hn o_t h_rec71 FU _ _ _ _ _ hf hH (lv_sub hl [1, 2, 3, 0] rfl)
set_option maxRecDepth 100000 in
set_option maxHeartbeats 4000000 in
theorem j_X11_sorted_67 {p : Program} {l : Launch} {e : Env} {s : State} {m : MethodId} {args : Array Value} {below : List Frame} {meth : Method} {c : Code} {E : EE} {n : Nat} {o : (Int × Mem)} {t : Nat} {a1 : Int} {a2 : Int} {M67 : Mem} {H : Heap} {locs : List Loc} {ls : Array Slot} (C : Cx E p s m args meth c cX11_sorted 8 RX11 (some .int) n "sorted") (hn : nfull n) (o_t : ob n t 11) (hf : fn_X11_sorted_J67 t a1 a2 M67 = some o) (hH : ST E s n (zf n) M67 H locs) (hl : lv_has ls 8 [(0, .ref (eb E + t)), (1, i3 a1), (2, i3 a2)]) : W p l e { frames := 2, cells := 0, slots := 0, locals := 47 } s m args below meth c H locs 0 0 (MQ below (QC E (some (i3 o.1)) n (zf n) o.2) args s 0 0 (fr E)) (F0 m 67 ls []) := by
  unfold fn_X11_sorted_J67 at hf
  refine lv_iload_n C.hx C.hb dX11_sorted_67 rfl (lv_at hl 1 rfl) ?_
  refine lv_iconst (v := Int32.ofInt 2) C.hx C.hb dX11_sorted_68 rfl ?_
  refine w_isub C dX11_sorted_69 ?_
  refine r_nm hf (fun v3_70 hf => ?_)
  refine lv_istore_n (lv' := [(3, i3 v3_70), (0, .ref (eb E + t)), (1, i3 a1), (2, i3 a2)]) C.hx C.hb dX11_sorted_70 rfl hl (by decide) rfl (fun ls hl => ?_)
  exact l_X11_sorted_71 C hn o_t FU _ _ _ _ _ hf hH (lv_sub hl [1, 3, 0] rfl)
set_option maxRecDepth 100000 in
set_option maxHeartbeats 4000000 in
theorem l_X11_sorted_29 {p : Program} {l : Launch} {e : Env} {s : State} {m : MethodId} {args : Array Value} {below : List Frame} {meth : Method} {c : Code} {E : EE} {n : Nat} {o : (Int × Mem)} {t : Nat} {a1 : Int} {a2 : Int} (C : Cx E p s m args meth c cX11_sorted 8 RX11 (some .int) n "sorted") (hn : nfull n) (o_t : ob n t 11) : ∀ (k : Nat) (v3_29 : Int) (M29 : Mem) (H : Heap) (locs : List Loc) (ls : Array Slot), lq2 (fn_X11_sorted_L29 t a1 a2) k v3_29 M29 = some o → ST E s n (zf n) M29 H locs → lv_has ls 8 [(0, .ref (eb E + t)), (1, i3 a1), (2, i3 a2), (3, i3 v3_29)] → W p l e { frames := 2, cells := 0, slots := 0, locals := 47 } s m args below meth c H locs 0 0 (MQ below (QC E (some (i3 o.1)) n (zf n) o.2) args s 0 0 (fr E)) (F0 m 29 ls []) := by
  intro k
  induction k with
  | zero => intro v3_29 M29 H locs ls hf; cases hf
  | succ k ih =>
    intro v3_29 M29 H locs ls hf hH hl
    have h_rec29 : ∀ {v3_29 : Int} {M29 : Mem} {H : Heap} {locs : List Loc} {ls : Array Slot}, lq2 (fn_X11_sorted_L29 t a1 a2) k v3_29 M29 = some o → ST E s n (zf n) M29 H locs → lv_has ls 8 [(0, .ref (eb E + t)), (1, i3 a1), (2, i3 a2), (3, i3 v3_29)] → W p l e { frames := 2, cells := 0, slots := 0, locals := 47 } s m args below meth c H locs 0 0 (MQ below (QC E (some (i3 o.1)) n (zf n) o.2) args s 0 0 (fr E)) (F0 m 29 ls []) := fun {v3_29} {M29} {H} {locs} {ls} a b c => ih v3_29 M29 H locs ls a b c
    replace hf : fn_X11_sorted_L29 t a1 a2 (lq2 (fn_X11_sorted_L29 t a1 a2) k) v3_29 M29 = some o := hf
    generalize lq2 (fn_X11_sorted_L29 t a1 a2) k = rec29 at hf h_rec29
    unfold fn_X11_sorted_L29 at hf
    refine lv_iload_n C.hx C.hb dX11_sorted_29 rfl (lv_at hl 3 rfl) ?_
    refine lv_sipush (v := Int32.ofInt 1000) C.hx C.hb dX11_sorted_30 (by decide) ?_
    refine w_ge (tgt := 67) C hf dX11_sorted_33 (by decide) (fun hf => ?_) (fun hf => ?_)
    · exact j_X11_sorted_67 C hn o_t hf hH (lv_sub hl [0, 1, 2] rfl)
    · refine lv_aload_n C.hx C.hb dX11_sorted_36 rfl (lv_at hl 0 rfl) ?_
      refine g_ref (off := 30) C hH o_t (by decide) rfl rfl FL_RX11_108 dX11_sorted_37 ?_
      refine lv_sipush (v := Int32.ofInt 1001) C.hx C.hb dX11_sorted_40 (by decide) ?_
      refine lv_iload_n C.hx C.hb dX11_sorted_43 rfl (lv_at hl 1 rfl) ?_
      refine lv_iconst (v := Int32.ofInt 1) C.hx C.hb dX11_sorted_44 rfl ?_
      refine w_isub C dX11_sorted_45 ?_
      refine w_imul C dX11_sorted_46 ?_
      refine lv_iload_n C.hx C.hb dX11_sorted_47 rfl (lv_at hl 3 rfl) ?_
      refine w_iadd C dX11_sorted_48 ?_
      refine lv_aload_n C.hx C.hb dX11_sorted_49 rfl (lv_at hl 0 rfl) ?_
      refine lv_iload_n C.hx C.hb dX11_sorted_50 rfl (lv_at hl 1 rfl) ?_
      refine lv_iconst (v := Int32.ofInt 1) C.hx C.hb dX11_sorted_51 rfl ?_
      refine w_isub C dX11_sorted_52 ?_
      refine lv_iload_n C.hx C.hb dX11_sorted_53 rfl (lv_at hl 3 rfl) ?_
      refine lv_sipush (v := Int32.ofInt 1000) C.hx C.hb dX11_sorted_54 (by decide) ?_
      obtain ⟨x57, hc9, hf⟩ := cu_of hf
      refine r_callVi (rest := [i3 ((1001 * (a1 - 1)) + v3_29), .ref (eb E + (t + 30))]) C hH hl o_t (by decide) rfl (m_X11_wrongBetween hn o_t hc9) ML_RX11_374 MF_X11_wrongBetween MI_X11_wrongBetween rfl rfl (Nat.le_of_ble_eq_true rfl) ⟨Nat.le_of_ble_eq_true rfl, Nat.le_of_ble_eq_true rfl⟩ ⟨Nat.le_refl _, Nat.le_refl _⟩ dX11_sorted_57 (fun H locs hH => ?_)
      refine r_iast C hH (ly (i := 46) (off := 30) (k := 12) hn o_t rfl rfl rfl) (lyn (i := 46) (off := 30) (N := 6005) hn o_t rfl rfl rfl) hf dX11_sorted_60 (fun M60 H locs hf hH => ?_)
      refine r_iinc (k := 3) (lv' := fun v => [(3, i3 v), (0, .ref (eb E + t)), (1, i3 a1), (2, i3 a2)]) C hf dX11_sorted_61 hl rfl (by decide) (fun _ => rfl) (fun v3_61 ls hf hl => ?_)
      refine lv_goto (tgt := 29) C.hx C.hb dX11_sorted_64 (by decide) ?_
      exact h_rec29 hf hH (lv_sub hl [1, 2, 3, 0] rfl)
set_option maxRecDepth 100000 in
set_option maxHeartbeats 4000000 in
theorem m_X11_sorted {E : EE} {l : Launch} {n : Nat} {t : Nat} {a1 : Int} {a2 : Int} {M : Mem} {o : (Int × Mem)} (hn : nfull n) (o_t : ob n t 11) (hf : fn_X11_sorted t a1 a2 M = some o) : CT E l yX11_sorted cX11_sorted 8 (some .int) 2 47 0 0 [.ref (eb E + t), i3 a1, i3 a2] n (zf n) M (some (i3 o.1)) n (zf n) o.2 := by
  refine CT_of PN_RX11 (Nat.le_of_ble_eq_true rfl) ?_
  intro p e s m args below meth c C hH ls hl
  replace C : Cx E p s m args meth c cX11_sorted 8 RX11 (some .int) n "sorted" := C
  have hl : lv_has ls 8 [(0, .ref (eb E + t)), (1, i3 a1), (2, i3 a2)] := hl
  unfold fn_X11_sorted at hf
  refine lv_iload_n C.hx C.hb dX11_sorted_0 rfl (lv_at hl 1 rfl) ?_
  refine lv_iconst (v := Int32.ofInt 2) C.hx C.hb dX11_sorted_1 rfl ?_
  refine lv_bipush (v := Int32.ofInt 6) C.hx C.hb dX11_sorted_2 (by decide) ?_
  obtain ⟨x4, hc9, hf⟩ := cu_of hf
  refine r_callSi (rest := []) C hH hl (m_X11_in hn hc9) ML_RX11_115 MF_X11_in MS_X11_in rfl rfl (Nat.le_of_ble_eq_true rfl) ⟨Nat.le_of_ble_eq_true rfl, Nat.le_of_ble_eq_true rfl⟩ ⟨Nat.le_refl _, Nat.le_refl _⟩ dX11_sorted_4 (fun H locs hH => ?_)
  refine w_eq0 (tgt := 21) C hf dX11_sorted_7 (by decide) (fun hf => ?_) (fun hf => ?_)
  · refine lv_iconst (v := Int32.ofInt (-1)) C.hx C.hb dX11_sorted_21 rfl ?_
    cases hf
    exact w_iret C hH dX11_sorted_22
  · refine lv_iload_n C.hx C.hb dX11_sorted_10 rfl (lv_at hl 2 rfl) ?_
    refine lv_iconst (v := Int32.ofInt 0) C.hx C.hb dX11_sorted_11 rfl ?_
    refine lv_iload_n C.hx C.hb dX11_sorted_12 rfl (lv_at hl 1 rfl) ?_
    refine lv_iconst (v := Int32.ofInt 1) C.hx C.hb dX11_sorted_13 rfl ?_
    refine w_isub C dX11_sorted_14 ?_
    obtain ⟨x15, hc9, hf⟩ := cu_of hf
    refine r_callSi (rest := []) C hH hl (m_X11_in hn hc9) ML_RX11_115 MF_X11_in MS_X11_in rfl rfl (Nat.le_of_ble_eq_true rfl) ⟨Nat.le_of_ble_eq_true rfl, Nat.le_of_ble_eq_true rfl⟩ ⟨Nat.le_refl _, Nat.le_refl _⟩ dX11_sorted_15 (fun H locs hH => ?_)
    refine w_ne0 (tgt := 23) C hf dX11_sorted_18 (by decide) (fun hf => ?_) (fun hf => ?_)
    · refine lv_aload_n C.hx C.hb dX11_sorted_23 rfl (lv_at hl 0 rfl) ?_
      obtain ⟨M24, hc9, hf⟩ := cv_of hf
      refine r_callVv (rest := []) C hH hl o_t (by decide) rfl (m_X11_laysWrong hn o_t hc9) ML_RX11_371 MF_X11_laysWrong MI_X11_laysWrong rfl rfl (Nat.le_of_ble_eq_true rfl) ⟨Nat.le_of_ble_eq_true rfl, Nat.le_of_ble_eq_true rfl⟩ ⟨Nat.le_refl _, Nat.le_refl _⟩ dX11_sorted_24 (fun H locs hH => ?_)
      refine lv_iconst (v := Int32.ofInt 0) C.hx C.hb dX11_sorted_27 rfl ?_
      refine lv_istore_n (lv' := [(3, i3 0), (0, .ref (eb E + t)), (1, i3 a1), (2, i3 a2)]) C.hx C.hb dX11_sorted_28 rfl hl (by decide) rfl (fun ls hl => ?_)
      exact l_X11_sorted_29 C hn o_t FU _ _ _ _ _ hf hH (lv_sub hl [1, 2, 3, 0] rfl)
    · refine lv_iconst (v := Int32.ofInt (-1)) C.hx C.hb dX11_sorted_21 rfl ?_
      cases hf
      exact w_iret C hH dX11_sorted_22
-- HeavierByHandModel.draw
def fn_X11_draw (t : Nat) (a1 : Int) (M : Mem) : Option (Int × Mem) :=
  ck (R3 (M t 47) ∧ R3 a1 ∧ a1 ≠ (0 : Int)) <| nm (((M t 47).tmod a1)) fun v2_6 => ck (R3 (((M t 47) * 227) + 59) ∧ R3 30137 ∧ 30137 ≠ (0 : Int)) <| st M t 47 ((((M t 47) * 227) + 59).tmod 30137) fun M23 => some (v2_6, M23)
set_option maxRecDepth 100000 in
set_option maxHeartbeats 4000000 in
theorem m_X11_draw {E : EE} {l : Launch} {n : Nat} {t : Nat} {a1 : Int} {M : Mem} {o : (Int × Mem)} (hn : nfull n) (o_t : ob n t 11) (hf : fn_X11_draw t a1 M = some o) : CT E l yX11_draw cX11_draw 3 (some .int) 0 0 0 0 [.ref (eb E + t), i3 a1] n (zf n) M (some (i3 o.1)) n (zf n) o.2 := by
  refine CT_of PN_RX11 (Nat.le_of_ble_eq_true rfl) ?_
  intro p e s m args below meth c C hH ls hl
  replace C : Cx E p s m args meth c cX11_draw 3 RX11 (some .int) n "draw" := C
  have hl : lv_has ls 3 [(0, .ref (eb E + t)), (1, i3 a1)] := hl
  unfold fn_X11_draw at hf
  refine lv_aload_n C.hx C.hb dX11_draw_0 rfl (lv_at hl 0 rfl) ?_
  refine g_int C hH o_t (by decide) rfl FL_RX11_378 dX11_draw_1 ?_
  refine lv_iload_n C.hx C.hb dX11_draw_4 rfl (lv_at hl 1 rfl) ?_
  obtain ⟨hR8, hf⟩ := ck_of hf
  refine w_irem C hR8 dX11_draw_5 ?_
  refine r_nm hf (fun v2_6 hf => ?_)
  refine lv_istore_n (lv' := [(2, i3 v2_6), (0, .ref (eb E + t)), (1, i3 a1)]) C.hx C.hb dX11_draw_6 rfl hl (by decide) rfl (fun ls hl => ?_)
  refine lv_aload_n C.hx C.hb dX11_draw_7 rfl (lv_at hl 1 rfl) ?_
  refine lv_aload_n C.hx C.hb dX11_draw_8 rfl (lv_at hl 1 rfl) ?_
  refine g_int C hH o_t (by decide) rfl FL_RX11_378 dX11_draw_9 ?_
  refine lv_sipush (v := Int32.ofInt 227) C.hx C.hb dX11_draw_12 (by decide) ?_
  refine w_imul C dX11_draw_15 ?_
  refine lv_bipush (v := Int32.ofInt 59) C.hx C.hb dX11_draw_16 (by decide) ?_
  refine w_iadd C dX11_draw_18 ?_
  refine lv_sipush (v := Int32.ofInt 30137) C.hx C.hb dX11_draw_19 (by decide) ?_
  obtain ⟨hR8, hf⟩ := ck_of hf
  refine w_irem C hR8 dX11_draw_22 ?_
  refine r_put C hH o_t (by decide) rfl FL_RX11_378 FW_11_47 hf dX11_draw_23 (fun M23 H locs hf hH => ?_)
  refine lv_iload_n C.hx C.hb dX11_draw_26 rfl (lv_at hl 0 rfl) ?_
  cases hf
  exact w_iret C hH dX11_draw_27
-- HeavierByHandModel.read
def fn_X11_read (t : Nat) (a1 : Int) (a2 : Int) (M : Mem) : Option (Int × Mem) :=
  cu (fn_X11_isCoin t a1 M) fun x2 => cEq x2 0 (some ((-100), M)) (cu (fn_X11_in a2 0 9999 M) fun x13 => cEq x13 0 (some ((-100), M)) (st M t 47 ((a2 * 7) + 2) fun M29 => cu (fn_X11_coinOf t a1 1 M29) fun x35 => rd M29 (t + 1) 288 4 fun x43 => rd M29 (t + 1) 288 4 fun x52 => cl (fn_X11_draw t ((2 * x52) + 1) M29) fun x56 M56 => some (((x35 - x43) + x56), M56)))
set_option maxRecDepth 100000 in
set_option maxHeartbeats 4000000 in
theorem m_X11_read {E : EE} {l : Launch} {n : Nat} {t : Nat} {a1 : Int} {a2 : Int} {M : Mem} {o : (Int × Mem)} (hn : nfull n) (o_t : ob n t 11) (hf : fn_X11_read t a1 a2 M = some o) : CT E l yX11_read cX11_read 3 (some .int) 2 43 0 0 [.ref (eb E + t), i3 a1, i3 a2] n (zf n) M (some (i3 o.1)) n (zf n) o.2 := by
  refine CT_of PN_RX11 (Nat.le_of_ble_eq_true rfl) ?_
  intro p e s m args below meth c C hH ls hl
  replace C : Cx E p s m args meth c cX11_read 3 RX11 (some .int) n "read" := C
  have hl : lv_has ls 3 [(0, .ref (eb E + t)), (1, i3 a1), (2, i3 a2)] := hl
  unfold fn_X11_read at hf
  refine lv_aload_n C.hx C.hb dX11_read_0 rfl (lv_at hl 0 rfl) ?_
  refine lv_iload_n C.hx C.hb dX11_read_1 rfl (lv_at hl 1 rfl) ?_
  obtain ⟨x2, hc9, hf⟩ := cu_of hf
  refine r_callVi (rest := []) C hH hl o_t (by decide) rfl (m_X11_isCoin hn o_t hc9) ML_RX11_309 MF_X11_isCoin MI_X11_isCoin rfl rfl (Nat.le_of_ble_eq_true rfl) ⟨Nat.le_of_ble_eq_true rfl, Nat.le_of_ble_eq_true rfl⟩ ⟨Nat.le_refl _, Nat.le_refl _⟩ dX11_read_2 (fun H locs hH => ?_)
  refine w_eq0 (tgt := 19) C hf dX11_read_5 (by decide) (fun hf => ?_) (fun hf => ?_)
  · refine lv_bipush (v := Int32.ofInt (-100)) C.hx C.hb dX11_read_19 (by decide) ?_
    cases hf
    exact w_iret C hH dX11_read_21
  · refine lv_iload_n C.hx C.hb dX11_read_8 rfl (lv_at hl 2 rfl) ?_
    refine lv_iconst (v := Int32.ofInt 0) C.hx C.hb dX11_read_9 rfl ?_
    refine lv_sipush (v := Int32.ofInt 9999) C.hx C.hb dX11_read_10 (by decide) ?_
    obtain ⟨x13, hc9, hf⟩ := cu_of hf
    refine r_callSi (rest := []) C hH hl (m_X11_in hn hc9) ML_RX11_115 MF_X11_in MS_X11_in rfl rfl (Nat.le_of_ble_eq_true rfl) ⟨Nat.le_of_ble_eq_true rfl, Nat.le_of_ble_eq_true rfl⟩ ⟨Nat.le_refl _, Nat.le_refl _⟩ dX11_read_13 (fun H locs hH => ?_)
    refine w_ne0 (tgt := 22) C hf dX11_read_16 (by decide) (fun hf => ?_) (fun hf => ?_)
    · refine lv_aload_n C.hx C.hb dX11_read_22 rfl (lv_at hl 0 rfl) ?_
      refine lv_iload_n C.hx C.hb dX11_read_23 rfl (lv_at hl 2 rfl) ?_
      refine lv_bipush (v := Int32.ofInt 7) C.hx C.hb dX11_read_24 (by decide) ?_
      refine w_imul C dX11_read_26 ?_
      refine lv_iconst (v := Int32.ofInt 2) C.hx C.hb dX11_read_27 rfl ?_
      refine w_iadd C dX11_read_28 ?_
      refine r_put C hH o_t (by decide) rfl FL_RX11_378 FW_11_47 hf dX11_read_29 (fun M29 H locs hf hH => ?_)
      refine lv_aload_n C.hx C.hb dX11_read_32 rfl (lv_at hl 0 rfl) ?_
      refine lv_iload_n C.hx C.hb dX11_read_33 rfl (lv_at hl 1 rfl) ?_
      refine lv_iconst (v := Int32.ofInt 1) C.hx C.hb dX11_read_34 rfl ?_
      obtain ⟨x35, hc9, hf⟩ := cu_of hf
      refine r_callVi (rest := []) C hH hl o_t (by decide) rfl (m_X11_coinOf hn o_t hc9) ML_RX11_300 MF_X11_coinOf MI_X11_coinOf rfl rfl (Nat.le_of_ble_eq_true rfl) ⟨Nat.le_of_ble_eq_true rfl, Nat.le_of_ble_eq_true rfl⟩ ⟨Nat.le_refl _, Nat.le_refl _⟩ dX11_read_35 (fun H locs hH => ?_)
      refine lv_aload_n C.hx C.hb dX11_read_38 rfl (lv_at hl 0 rfl) ?_
      refine g_ref (off := 1) C hH o_t (by decide) rfl rfl FL_RX11_7 dX11_read_39 ?_
      refine lv_iconst (v := Int32.ofInt 4) C.hx C.hb dX11_read_42 rfl ?_
      refine r_iald C hH (ly (i := 0) (off := 1) (k := 12) hn o_t rfl rfl rfl) (lyn (i := 0) (off := 1) (N := 287) hn o_t rfl rfl rfl) hf dX11_read_43 (fun x43 hf => ?_)
      refine w_isub C dX11_read_44 ?_
      refine lv_aload_n C.hx C.hb dX11_read_45 rfl (lv_at hl 0 rfl) ?_
      refine lv_iconst (v := Int32.ofInt 2) C.hx C.hb dX11_read_46 rfl ?_
      refine lv_aload_n C.hx C.hb dX11_read_47 rfl (lv_at hl 0 rfl) ?_
      refine g_ref (off := 1) C hH o_t (by decide) rfl rfl FL_RX11_7 dX11_read_48 ?_
      refine lv_iconst (v := Int32.ofInt 4) C.hx C.hb dX11_read_51 rfl ?_
      refine r_iald C hH (ly (i := 0) (off := 1) (k := 12) hn o_t rfl rfl rfl) (lyn (i := 0) (off := 1) (N := 287) hn o_t rfl rfl rfl) hf dX11_read_52 (fun x52 hf => ?_)
      refine w_imul C dX11_read_53 ?_
      refine lv_iconst (v := Int32.ofInt 1) C.hx C.hb dX11_read_54 rfl ?_
      refine w_iadd C dX11_read_55 ?_
      obtain ⟨x56, M56, hc9, hf⟩ := cl_of hf
      refine r_callVi (rest := [i3 (x35 - x43)]) C hH hl o_t (by decide) rfl (m_X11_draw hn o_t hc9) ML_RX11_381 MF_X11_draw MI_X11_draw rfl rfl (Nat.le_of_ble_eq_true rfl) ⟨Nat.le_of_ble_eq_true rfl, Nat.le_of_ble_eq_true rfl⟩ ⟨Nat.le_refl _, Nat.le_refl _⟩ dX11_read_56 (fun H locs hH => ?_)
      refine w_iadd C dX11_read_59 ?_
      cases hf
      exact w_iret C hH dX11_read_60
    · refine lv_bipush (v := Int32.ofInt (-100)) C.hx C.hb dX11_read_19 (by decide) ?_
      cases hf
      exact w_iret C hH dX11_read_21
-- HeavierByHandModel.lightest
def fn_X11_lightest_J46 (v3_4 : Int) (rec4 : Int → Int → Option Int) (v2_46 : Int) : Option Int :=
  nm (v3_4 + 1) fun v3_46 => rec4 v3_46 v2_46
def fn_X11_lightest_J44 (v3_4 : Int) (rec4 : Int → Int → Option Int) : Option Int :=
  fn_X11_lightest_J46 v3_4 rec4 v3_4
def fn_X11_lightest_L4 (t : Nat) (a1 : Int) (M : Mem) (rec4 : Int → Int → Option Int) (v3_4 : Int) (v2_4 : Int) : Option Int :=
  rd M (t + 1) 288 1 fun x10 => cLt v3_4 x10 (cu (fn_X11_coinOf t v3_4 2 M) fun x17 => cEq x17 a1 (cEq v2_4 (-1) (fn_X11_lightest_J44 v3_4 rec4) (cu (fn_X11_coinOf t v3_4 1 M) fun x32 => cu (fn_X11_coinOf t v2_4 1 M) fun x38 => cLt x32 x38 (fn_X11_lightest_J44 v3_4 rec4) (fn_X11_lightest_J46 v3_4 rec4 v2_4))) (fn_X11_lightest_J46 v3_4 rec4 v2_4)) (some v2_4)
def fn_X11_lightest (t : Nat) (a1 : Int) (M : Mem) : Option Int :=
  lq2 (fn_X11_lightest_L4 t a1 M) FU 0 (-1)
set_option maxRecDepth 100000 in
set_option maxHeartbeats 4000000 in
theorem j_X11_lightest_46 {p : Program} {l : Launch} {e : Env} {s : State} {m : MethodId} {args : Array Value} {below : List Frame} {meth : Method} {c : Code} {E : EE} {n : Nat} {o : Int} {t : Nat} {a1 : Int} {M : Mem} {v3_4 : Int} {rec4 : Int → Int → Option Int} {v2_46 : Int} {H : Heap} {locs : List Loc} {ls : Array Slot} (C : Cx E p s m args meth c cX11_lightest 4 RX11 (some .int) n "lightest") (hn : nfull n) (o_t : ob n t 11) (h_rec4 : ∀ {v3_4 : Int} {v2_4 : Int} {H : Heap} {locs : List Loc} {ls : Array Slot}, rec4 v3_4 v2_4 = some o → ST E s n (zf n) M H locs → lv_has ls 4 [(0, .ref (eb E + t)), (1, i3 a1), (2, i3 v2_4), (3, i3 v3_4)] → W p l e { frames := 1, cells := 0, slots := 0, locals := 22 } s m args below meth c H locs 0 0 (MQ below (QC E (some (i3 o)) n (zf n) M) args s 0 0 (fr E)) (F0 m 4 ls [])) (hf : fn_X11_lightest_J46 v3_4 rec4 v2_46 = some o) (hH : ST E s n (zf n) M H locs) (hl : lv_has ls 4 [(0, .ref (eb E + t)), (1, i3 a1), (2, i3 v2_46), (3, i3 v3_4)]) : W p l e { frames := 1, cells := 0, slots := 0, locals := 22 } s m args below meth c H locs 0 0 (MQ below (QC E (some (i3 o)) n (zf n) M) args s 0 0 (fr E)) (F0 m 46 ls []) := by
  unfold fn_X11_lightest_J46 at hf
  refine r_iinc (k := 3) (lv' := fun v => [(3, i3 v), (0, .ref (eb E + t)), (1, i3 a1), (2, i3 v2_46)]) C hf dX11_lightest_46 hl rfl (by decide) (fun _ => rfl) (fun v3_46 ls hf hl => ?_)
  refine lv_goto (tgt := 4) C.hx C.hb dX11_lightest_49 (by decide) ?_
  exact h_rec4 hf hH (lv_sub hl [1, 2, 3, 0] rfl)
set_option maxRecDepth 100000 in
set_option maxHeartbeats 4000000 in
theorem j_X11_lightest_44 {p : Program} {l : Launch} {e : Env} {s : State} {m : MethodId} {args : Array Value} {below : List Frame} {meth : Method} {c : Code} {E : EE} {n : Nat} {o : Int} {t : Nat} {a1 : Int} {M : Mem} {v3_4 : Int} {rec4 : Int → Int → Option Int} {H : Heap} {locs : List Loc} {ls : Array Slot} (C : Cx E p s m args meth c cX11_lightest 4 RX11 (some .int) n "lightest") (hn : nfull n) (o_t : ob n t 11) (h_rec4 : ∀ {v3_4 : Int} {v2_4 : Int} {H : Heap} {locs : List Loc} {ls : Array Slot}, rec4 v3_4 v2_4 = some o → ST E s n (zf n) M H locs → lv_has ls 4 [(0, .ref (eb E + t)), (1, i3 a1), (2, i3 v2_4), (3, i3 v3_4)] → W p l e { frames := 1, cells := 0, slots := 0, locals := 22 } s m args below meth c H locs 0 0 (MQ below (QC E (some (i3 o)) n (zf n) M) args s 0 0 (fr E)) (F0 m 4 ls [])) (hf : fn_X11_lightest_J44 v3_4 rec4 = some o) (hH : ST E s n (zf n) M H locs) (hl : lv_has ls 4 [(0, .ref (eb E + t)), (1, i3 a1), (3, i3 v3_4)]) : W p l e { frames := 1, cells := 0, slots := 0, locals := 22 } s m args below meth c H locs 0 0 (MQ below (QC E (some (i3 o)) n (zf n) M) args s 0 0 (fr E)) (F0 m 44 ls []) := by
  unfold fn_X11_lightest_J44 at hf
  refine lv_iload_n C.hx C.hb dX11_lightest_44 rfl (lv_at hl 2 rfl) ?_
  refine lv_istore_n (lv' := [(2, i3 v3_4), (0, .ref (eb E + t)), (1, i3 a1), (3, i3 v3_4)]) C.hx C.hb dX11_lightest_45 rfl hl (by decide) rfl (fun ls hl => ?_)
  exact j_X11_lightest_46 C hn o_t h_rec4 hf hH (lv_sub hl [1, 2, 0, 3] rfl)
set_option maxRecDepth 100000 in
set_option maxHeartbeats 4000000 in
theorem l_X11_lightest_4 {p : Program} {l : Launch} {e : Env} {s : State} {m : MethodId} {args : Array Value} {below : List Frame} {meth : Method} {c : Code} {E : EE} {n : Nat} {o : Int} {t : Nat} {a1 : Int} {M : Mem} (C : Cx E p s m args meth c cX11_lightest 4 RX11 (some .int) n "lightest") (hn : nfull n) (o_t : ob n t 11) : ∀ (k : Nat) (v3_4 : Int) (v2_4 : Int) (H : Heap) (locs : List Loc) (ls : Array Slot), lq2 (fn_X11_lightest_L4 t a1 M) k v3_4 v2_4 = some o → ST E s n (zf n) M H locs → lv_has ls 4 [(0, .ref (eb E + t)), (1, i3 a1), (2, i3 v2_4), (3, i3 v3_4)] → W p l e { frames := 1, cells := 0, slots := 0, locals := 22 } s m args below meth c H locs 0 0 (MQ below (QC E (some (i3 o)) n (zf n) M) args s 0 0 (fr E)) (F0 m 4 ls []) := by
  intro k
  induction k with
  | zero => intro v3_4 v2_4 H locs ls hf; cases hf
  | succ k ih =>
    intro v3_4 v2_4 H locs ls hf hH hl
    have h_rec4 : ∀ {v3_4 : Int} {v2_4 : Int} {H : Heap} {locs : List Loc} {ls : Array Slot}, lq2 (fn_X11_lightest_L4 t a1 M) k v3_4 v2_4 = some o → ST E s n (zf n) M H locs → lv_has ls 4 [(0, .ref (eb E + t)), (1, i3 a1), (2, i3 v2_4), (3, i3 v3_4)] → W p l e { frames := 1, cells := 0, slots := 0, locals := 22 } s m args below meth c H locs 0 0 (MQ below (QC E (some (i3 o)) n (zf n) M) args s 0 0 (fr E)) (F0 m 4 ls []) := fun {v3_4} {v2_4} {H} {locs} {ls} a b c => ih v3_4 v2_4 H locs ls a b c
    replace hf : fn_X11_lightest_L4 t a1 M (lq2 (fn_X11_lightest_L4 t a1 M) k) v3_4 v2_4 = some o := hf
    generalize lq2 (fn_X11_lightest_L4 t a1 M) k = rec4 at hf h_rec4
    unfold fn_X11_lightest_L4 at hf
    refine lv_iload_n C.hx C.hb dX11_lightest_4 rfl (lv_at hl 3 rfl) ?_
    refine lv_aload_n C.hx C.hb dX11_lightest_5 rfl (lv_at hl 0 rfl) ?_
    refine g_ref (off := 1) C hH o_t (by decide) rfl rfl FL_RX11_7 dX11_lightest_6 ?_
    refine lv_iconst (v := Int32.ofInt 1) C.hx C.hb dX11_lightest_9 rfl ?_
    refine r_iald C hH (ly (i := 0) (off := 1) (k := 12) hn o_t rfl rfl rfl) (lyn (i := 0) (off := 1) (N := 287) hn o_t rfl rfl rfl) hf dX11_lightest_10 (fun x10 hf => ?_)
    refine w_ge (tgt := 52) C hf dX11_lightest_11 (by decide) (fun hf => ?_) (fun hf => ?_)
    · refine lv_iload_n C.hx C.hb dX11_lightest_52 rfl (lv_at hl 2 rfl) ?_
      cases hf
      exact w_iret C hH dX11_lightest_53
    · refine lv_aload_n C.hx C.hb dX11_lightest_14 rfl (lv_at hl 0 rfl) ?_
      refine lv_iload_n C.hx C.hb dX11_lightest_15 rfl (lv_at hl 3 rfl) ?_
      refine lv_iconst (v := Int32.ofInt 2) C.hx C.hb dX11_lightest_16 rfl ?_
      obtain ⟨x17, hc9, hf⟩ := cu_of hf
      refine r_callVi (rest := []) C hH hl o_t (by decide) rfl (m_X11_coinOf hn o_t hc9) ML_RX11_300 MF_X11_coinOf MI_X11_coinOf rfl rfl (Nat.le_of_ble_eq_true rfl) ⟨Nat.le_of_ble_eq_true rfl, Nat.le_of_ble_eq_true rfl⟩ ⟨Nat.le_refl _, Nat.le_refl _⟩ dX11_lightest_17 (fun H locs hH => ?_)
      refine lv_iload_n C.hx C.hb dX11_lightest_20 rfl (lv_at hl 1 rfl) ?_
      refine w_ne (tgt := 46) C hf dX11_lightest_21 (by decide) (fun hf => ?_) (fun hf => ?_)
      · exact j_X11_lightest_46 C hn o_t h_rec4 hf hH (lv_sub hl [0, 1, 2, 3] rfl)
      · refine lv_iload_n C.hx C.hb dX11_lightest_24 rfl (lv_at hl 2 rfl) ?_
        refine lv_iconst (v := Int32.ofInt (-1)) C.hx C.hb dX11_lightest_25 rfl ?_
        refine w_eq (tgt := 44) C hf dX11_lightest_26 (by decide) (fun hf => ?_) (fun hf => ?_)
        · exact j_X11_lightest_44 C hn o_t h_rec4 hf hH (lv_sub hl [0, 1, 3] rfl)
        · refine lv_aload_n C.hx C.hb dX11_lightest_29 rfl (lv_at hl 0 rfl) ?_
          refine lv_iload_n C.hx C.hb dX11_lightest_30 rfl (lv_at hl 3 rfl) ?_
          refine lv_iconst (v := Int32.ofInt 1) C.hx C.hb dX11_lightest_31 rfl ?_
          obtain ⟨x32, hc9, hf⟩ := cu_of hf
          refine r_callVi (rest := []) C hH hl o_t (by decide) rfl (m_X11_coinOf hn o_t hc9) ML_RX11_300 MF_X11_coinOf MI_X11_coinOf rfl rfl (Nat.le_of_ble_eq_true rfl) ⟨Nat.le_of_ble_eq_true rfl, Nat.le_of_ble_eq_true rfl⟩ ⟨Nat.le_refl _, Nat.le_refl _⟩ dX11_lightest_32 (fun H locs hH => ?_)
          refine lv_aload_n C.hx C.hb dX11_lightest_35 rfl (lv_at hl 0 rfl) ?_
          refine lv_iload_n C.hx C.hb dX11_lightest_36 rfl (lv_at hl 2 rfl) ?_
          refine lv_iconst (v := Int32.ofInt 1) C.hx C.hb dX11_lightest_37 rfl ?_
          obtain ⟨x38, hc9, hf⟩ := cu_of hf
          refine r_callVi (rest := [i3 x32]) C hH hl o_t (by decide) rfl (m_X11_coinOf hn o_t hc9) ML_RX11_300 MF_X11_coinOf MI_X11_coinOf rfl rfl (Nat.le_of_ble_eq_true rfl) ⟨Nat.le_of_ble_eq_true rfl, Nat.le_of_ble_eq_true rfl⟩ ⟨Nat.le_refl _, Nat.le_refl _⟩ dX11_lightest_38 (fun H locs hH => ?_)
          refine w_ge (tgt := 46) C hf dX11_lightest_41 (by decide) (fun hf => ?_) (fun hf => ?_)
          · exact j_X11_lightest_46 C hn o_t h_rec4 hf hH (lv_sub hl [0, 1, 2, 3] rfl)
          · exact j_X11_lightest_44 C hn o_t h_rec4 hf hH (lv_sub hl [0, 1, 3] rfl)
set_option maxRecDepth 100000 in
set_option maxHeartbeats 4000000 in
theorem m_X11_lightest {E : EE} {l : Launch} {n : Nat} {t : Nat} {a1 : Int} {M : Mem} {o : Int} (hn : nfull n) (o_t : ob n t 11) (hf : fn_X11_lightest t a1 M = some o) : CT E l yX11_lightest cX11_lightest 4 (some .int) 1 22 0 0 [.ref (eb E + t), i3 a1] n (zf n) M (some (i3 o)) n (zf n) M := by
  refine CT_of PN_RX11 (Nat.le_of_ble_eq_true rfl) ?_
  intro p e s m args below meth c C hH ls hl
  replace C : Cx E p s m args meth c cX11_lightest 4 RX11 (some .int) n "lightest" := C
  have hl : lv_has ls 4 [(0, .ref (eb E + t)), (1, i3 a1)] := hl
  unfold fn_X11_lightest at hf
  refine lv_iconst (v := Int32.ofInt (-1)) C.hx C.hb dX11_lightest_0 rfl ?_
  refine lv_istore_n (lv' := [(2, i3 (-1)), (0, .ref (eb E + t)), (1, i3 a1)]) C.hx C.hb dX11_lightest_1 rfl hl (by decide) rfl (fun ls hl => ?_)
  refine lv_iconst (v := Int32.ofInt 0) C.hx C.hb dX11_lightest_2 rfl ?_
  refine lv_istore_n (lv' := [(3, i3 0), (2, i3 (-1)), (0, .ref (eb E + t)), (1, i3 a1)]) C.hx C.hb dX11_lightest_3 rfl hl (by decide) rfl (fun ls hl => ?_)
  exact l_X11_lightest_4 C hn o_t FU _ _ _ _ _ hf hH (lv_sub hl [2, 3, 1, 0] rfl)
-- HeavierByHandModel.market
def fn_X11_market_J137 (t : Nat) (v4_47 : Int) (rec47 : Int → Int → Mem → Option (Int × Mem)) (v3_113 : Int) (M113 : Mem) (x119 : Int) (u0_137 : Int) : Option (Int × Mem) :=
  wr M113 (t + 1) 288 2 (x119 + u0_137) fun M138 => nm (v4_47 + 1) fun v4_139 => rec47 v4_139 v3_113 M138
def fn_X11_market_J113 (t : Nat) (v4_47 : Int) (rec47 : Int → Int → Mem → Option (Int × Mem)) (v3_113 : Int) (M113 : Mem) : Option (Int × Mem) :=
  rd M113 (t + 1) 288 2 fun x119 => rd M113 (t + 1) 288 2 fun x125 => cLt x125 999 (fn_X11_market_J137 t v4_47 rec47 v3_113 M113 x119 1) (fn_X11_market_J137 t v4_47 rec47 v3_113 M113 x119 0)
def fn_X11_market_J94 (t : Nat) (v4_47 : Int) (v3_47 : Int) (rec47 : Int → Int → Mem → Option (Int × Mem)) (x72 : Int) (M72 : Mem) (u0_94 : Int) : Option (Int × Mem) :=
  cEq u0_94 (-1) (fn_X11_market_J113 t v4_47 rec47 v3_47 M72) (cv (fn_X11_pays t u0_94 x72 M72) fun M107 => nm (v3_47 + 1) fun v3_110 => fn_X11_market_J113 t v4_47 rec47 v3_110 M107)
def fn_X11_market_L47 (t : Nat) (a2 : Int) (rec47 : Int → Int → Mem → Option (Int × Mem)) (v4_47 : Int) (v3_47 : Int) (M47 : Mem) : Option (Int × Mem) :=
  cLt v4_47 a2 (rd M47 (t + 1) 288 0 fun x59 => cl (fn_X11_draw t x59 M47) fun x60 M60 => rd M60 (t + 1) 288 0 fun x71 => cl (fn_X11_draw t x71 M60) fun x72 M72 => cEq x60 x72 (fn_X11_market_J94 t v4_47 v3_47 rec47 x72 M72 (-1)) (cu (fn_X11_lightest t x60 M72) fun x91 => fn_X11_market_J94 t v4_47 v3_47 rec47 x72 M72 x91)) (some (v3_47, M47))
def fn_X11_market (t : Nat) (a1 : Int) (a2 : Int) (M : Mem) : Option (Int × Mem) :=
  cu (fn_X11_in a1 0 9999 M) fun x5 => cEq x5 0 (some ((-1), M)) (cu (fn_X11_in a2 1 99 M) fun x15 => cEq x15 0 (some ((-1), M)) (rd M (t + 1) 288 0 fun x26 => cEq x26 0 (some ((-1), M)) (st M t 47 ((a1 * 7) + 2) fun M39 => lq3 (fn_X11_market_L47 t a2) FU 0 0 M39)))
set_option maxRecDepth 100000 in
set_option maxHeartbeats 4000000 in
theorem j_X11_market_137 {p : Program} {l : Launch} {e : Env} {s : State} {m : MethodId} {args : Array Value} {below : List Frame} {meth : Method} {c : Code} {E : EE} {n : Nat} {o : (Int × Mem)} {t : Nat} {a2 : Int} {v4_47 : Int} {rec47 : Int → Int → Mem → Option (Int × Mem)} {v3_113 : Int} {M113 : Mem} {x119 : Int} {u0_137 : Int} {H : Heap} {locs : List Loc} {ls : Array Slot} (C : Cx E p s m args meth c cX11_market 8 RX11 (some .int) n "market") (hn : nfull n) (o_t : ob n t 11) (h_rec47 : ∀ {v4_47 : Int} {v3_47 : Int} {M47 : Mem} {H : Heap} {locs : List Loc} {ls : Array Slot}, rec47 v4_47 v3_47 M47 = some o → ST E s n (zf n) M47 H locs → lv_has ls 8 [(0, .ref (eb E + t)), (2, i3 a2), (3, i3 v3_47), (4, i3 v4_47)] → W p l e { frames := 5, cells := 0, slots := 0, locals := 120 } s m args below meth c H locs 0 0 (MQ below (QC E (some (i3 o.1)) n (zf n) o.2) args s 0 0 (fr E)) (F0 m 47 ls [])) (hf : fn_X11_market_J137 t v4_47 rec47 v3_113 M113 x119 u0_137 = some o) (hH : ST E s n (zf n) M113 H locs) (hl : lv_has ls 8 [(0, .ref (eb E + t)), (2, i3 a2), (3, i3 v3_113), (4, i3 v4_47)]) : W p l e { frames := 5, cells := 0, slots := 0, locals := 120 } s m args below meth c H locs 0 0 (MQ below (QC E (some (i3 o.1)) n (zf n) o.2) args s 0 0 (fr E)) (F0 m 137 ls [i3 u0_137, i3 x119, i3 2, .ref (eb E + (t + 1))]) := by
  unfold fn_X11_market_J137 at hf
  refine w_iadd C dX11_market_137 ?_
  refine r_iast C hH (ly (i := 0) (off := 1) (k := 12) hn o_t rfl rfl rfl) (lyn (i := 0) (off := 1) (N := 287) hn o_t rfl rfl rfl) hf dX11_market_138 (fun M138 H locs hf hH => ?_)
  refine r_iinc (k := 3) (lv' := fun v => [(4, i3 v), (0, .ref (eb E + t)), (2, i3 a2), (3, i3 v3_113)]) C hf dX11_market_139 hl rfl (by decide) (fun _ => rfl) (fun v4_139 ls hf hl => ?_)
  refine lv_goto (tgt := 47) C.hx C.hb dX11_market_142 (by decide) ?_
  exact h_rec47 hf hH (lv_sub hl [1, 2, 3, 0] rfl)
set_option maxRecDepth 100000 in
set_option maxHeartbeats 4000000 in
theorem j_X11_market_113 {p : Program} {l : Launch} {e : Env} {s : State} {m : MethodId} {args : Array Value} {below : List Frame} {meth : Method} {c : Code} {E : EE} {n : Nat} {o : (Int × Mem)} {t : Nat} {a2 : Int} {v4_47 : Int} {rec47 : Int → Int → Mem → Option (Int × Mem)} {v3_113 : Int} {M113 : Mem} {H : Heap} {locs : List Loc} {ls : Array Slot} (C : Cx E p s m args meth c cX11_market 8 RX11 (some .int) n "market") (hn : nfull n) (o_t : ob n t 11) (h_rec47 : ∀ {v4_47 : Int} {v3_47 : Int} {M47 : Mem} {H : Heap} {locs : List Loc} {ls : Array Slot}, rec47 v4_47 v3_47 M47 = some o → ST E s n (zf n) M47 H locs → lv_has ls 8 [(0, .ref (eb E + t)), (2, i3 a2), (3, i3 v3_47), (4, i3 v4_47)] → W p l e { frames := 5, cells := 0, slots := 0, locals := 120 } s m args below meth c H locs 0 0 (MQ below (QC E (some (i3 o.1)) n (zf n) o.2) args s 0 0 (fr E)) (F0 m 47 ls [])) (hf : fn_X11_market_J113 t v4_47 rec47 v3_113 M113 = some o) (hH : ST E s n (zf n) M113 H locs) (hl : lv_has ls 8 [(0, .ref (eb E + t)), (2, i3 a2), (3, i3 v3_113), (4, i3 v4_47)]) : W p l e { frames := 5, cells := 0, slots := 0, locals := 120 } s m args below meth c H locs 0 0 (MQ below (QC E (some (i3 o.1)) n (zf n) o.2) args s 0 0 (fr E)) (F0 m 113 ls []) := by
  unfold fn_X11_market_J113 at hf
  refine lv_aload_n C.hx C.hb dX11_market_113 rfl (lv_at hl 0 rfl) ?_
  refine g_ref (off := 1) C hH o_t (by decide) rfl rfl FL_RX11_7 dX11_market_114 ?_
  refine lv_iconst (v := Int32.ofInt 2) C.hx C.hb dX11_market_117 rfl ?_
  refine lv_dup2_11 C.hx C.hb dX11_market_118 rfl rfl ?_
  refine r_iald C hH (ly (i := 0) (off := 1) (k := 12) hn o_t rfl rfl rfl) (lyn (i := 0) (off := 1) (N := 287) hn o_t rfl rfl rfl) hf dX11_market_119 (fun x119 hf => ?_)
  refine lv_aload_n C.hx C.hb dX11_market_120 rfl (lv_at hl 0 rfl) ?_
  refine g_ref (off := 1) C hH o_t (by decide) rfl rfl FL_RX11_7 dX11_market_121 ?_
  refine lv_iconst (v := Int32.ofInt 2) C.hx C.hb dX11_market_124 rfl ?_
  refine r_iald C hH (ly (i := 0) (off := 1) (k := 12) hn o_t rfl rfl rfl) (lyn (i := 0) (off := 1) (N := 287) hn o_t rfl rfl rfl) hf dX11_market_125 (fun x125 hf => ?_)
  refine lv_sipush (v := Int32.ofInt 999) C.hx C.hb dX11_market_126 (by decide) ?_
  refine w_ge (tgt := 136) C hf dX11_market_129 (by decide) (fun hf => ?_) (fun hf => ?_)
  · refine lv_iconst (v := Int32.ofInt 0) C.hx C.hb dX11_market_136 rfl ?_
    exact j_X11_market_137 C hn o_t h_rec47 hf hH (lv_sub hl [0, 1, 2, 3] rfl)
  · refine lv_iconst (v := Int32.ofInt 1) C.hx C.hb dX11_market_132 rfl ?_
    refine lv_goto (tgt := 137) C.hx C.hb dX11_market_133 (by decide) ?_
    exact j_X11_market_137 C hn o_t h_rec47 hf hH (lv_sub hl [0, 1, 2, 3] rfl)
set_option maxRecDepth 100000 in
set_option maxHeartbeats 4000000 in
theorem j_X11_market_94 {p : Program} {l : Launch} {e : Env} {s : State} {m : MethodId} {args : Array Value} {below : List Frame} {meth : Method} {c : Code} {E : EE} {n : Nat} {o : (Int × Mem)} {t : Nat} {a2 : Int} {v4_47 : Int} {v3_47 : Int} {rec47 : Int → Int → Mem → Option (Int × Mem)} {x72 : Int} {M72 : Mem} {u0_94 : Int} {H : Heap} {locs : List Loc} {ls : Array Slot} (C : Cx E p s m args meth c cX11_market 8 RX11 (some .int) n "market") (hn : nfull n) (o_t : ob n t 11) (h_rec47 : ∀ {v4_47 : Int} {v3_47 : Int} {M47 : Mem} {H : Heap} {locs : List Loc} {ls : Array Slot}, rec47 v4_47 v3_47 M47 = some o → ST E s n (zf n) M47 H locs → lv_has ls 8 [(0, .ref (eb E + t)), (2, i3 a2), (3, i3 v3_47), (4, i3 v4_47)] → W p l e { frames := 5, cells := 0, slots := 0, locals := 120 } s m args below meth c H locs 0 0 (MQ below (QC E (some (i3 o.1)) n (zf n) o.2) args s 0 0 (fr E)) (F0 m 47 ls [])) (hf : fn_X11_market_J94 t v4_47 v3_47 rec47 x72 M72 u0_94 = some o) (hH : ST E s n (zf n) M72 H locs) (hl : lv_has ls 8 [(0, .ref (eb E + t)), (2, i3 a2), (3, i3 v3_47), (4, i3 v4_47), (6, i3 x72)]) : W p l e { frames := 5, cells := 0, slots := 0, locals := 120 } s m args below meth c H locs 0 0 (MQ below (QC E (some (i3 o.1)) n (zf n) o.2) args s 0 0 (fr E)) (F0 m 94 ls [i3 u0_94]) := by
  unfold fn_X11_market_J94 at hf
  refine lv_istore (lv' := [(7, i3 u0_94), (0, .ref (eb E + t)), (2, i3 a2), (3, i3 v3_47), (4, i3 v4_47), (6, i3 x72)]) C.hx C.hb dX11_market_94 hl (by decide) rfl (fun ls hl => ?_)
  refine lv_iload C.hx C.hb dX11_market_96 (lv_at hl 0 rfl) ?_
  refine lv_iconst (v := Int32.ofInt (-1)) C.hx C.hb dX11_market_98 rfl ?_
  refine w_eq (tgt := 113) C hf dX11_market_99 (by decide) (fun hf => ?_) (fun hf => ?_)
  · exact j_X11_market_113 C hn o_t h_rec47 hf hH (lv_sub hl [1, 2, 3, 4] rfl)
  · refine lv_aload_n C.hx C.hb dX11_market_102 rfl (lv_at hl 1 rfl) ?_
    refine lv_iload C.hx C.hb dX11_market_103 (lv_at hl 0 rfl) ?_
    refine lv_iload C.hx C.hb dX11_market_105 (lv_at hl 5 rfl) ?_
    obtain ⟨M107, hc9, hf⟩ := cv_of hf
    refine r_callVv (rest := []) C hH hl o_t (by decide) rfl (m_X11_pays hn o_t hc9) ML_RX11_322 MF_X11_pays MI_X11_pays rfl rfl (Nat.le_of_ble_eq_true rfl) ⟨Nat.le_of_ble_eq_true rfl, Nat.le_of_ble_eq_true rfl⟩ ⟨Nat.le_refl _, Nat.le_refl _⟩ dX11_market_107 (fun H locs hH => ?_)
    refine r_iinc (k := 3) (lv' := fun v => [(3, i3 v), (7, i3 u0_94), (0, .ref (eb E + t)), (2, i3 a2), (4, i3 v4_47), (6, i3 x72)]) C hf dX11_market_110 hl rfl (by decide) (fun _ => rfl) (fun v3_110 ls hf hl => ?_)
    exact j_X11_market_113 C hn o_t h_rec47 hf hH (lv_sub hl [2, 3, 0, 4] rfl)
set_option maxRecDepth 100000 in
set_option maxHeartbeats 4000000 in
theorem l_X11_market_47 {p : Program} {l : Launch} {e : Env} {s : State} {m : MethodId} {args : Array Value} {below : List Frame} {meth : Method} {c : Code} {E : EE} {n : Nat} {o : (Int × Mem)} {t : Nat} {a2 : Int} (C : Cx E p s m args meth c cX11_market 8 RX11 (some .int) n "market") (hn : nfull n) (o_t : ob n t 11) : ∀ (k : Nat) (v4_47 : Int) (v3_47 : Int) (M47 : Mem) (H : Heap) (locs : List Loc) (ls : Array Slot), lq3 (fn_X11_market_L47 t a2) k v4_47 v3_47 M47 = some o → ST E s n (zf n) M47 H locs → lv_has ls 8 [(0, .ref (eb E + t)), (2, i3 a2), (3, i3 v3_47), (4, i3 v4_47)] → W p l e { frames := 5, cells := 0, slots := 0, locals := 120 } s m args below meth c H locs 0 0 (MQ below (QC E (some (i3 o.1)) n (zf n) o.2) args s 0 0 (fr E)) (F0 m 47 ls []) := by
  intro k
  induction k with
  | zero => intro v4_47 v3_47 M47 H locs ls hf; cases hf
  | succ k ih =>
    intro v4_47 v3_47 M47 H locs ls hf hH hl
    have h_rec47 : ∀ {v4_47 : Int} {v3_47 : Int} {M47 : Mem} {H : Heap} {locs : List Loc} {ls : Array Slot}, lq3 (fn_X11_market_L47 t a2) k v4_47 v3_47 M47 = some o → ST E s n (zf n) M47 H locs → lv_has ls 8 [(0, .ref (eb E + t)), (2, i3 a2), (3, i3 v3_47), (4, i3 v4_47)] → W p l e { frames := 5, cells := 0, slots := 0, locals := 120 } s m args below meth c H locs 0 0 (MQ below (QC E (some (i3 o.1)) n (zf n) o.2) args s 0 0 (fr E)) (F0 m 47 ls []) := fun {v4_47} {v3_47} {M47} {H} {locs} {ls} a b c => ih v4_47 v3_47 M47 H locs ls a b c
    replace hf : fn_X11_market_L47 t a2 (lq3 (fn_X11_market_L47 t a2) k) v4_47 v3_47 M47 = some o := hf
    generalize lq3 (fn_X11_market_L47 t a2) k = rec47 at hf h_rec47
    unfold fn_X11_market_L47 at hf
    refine lv_iload C.hx C.hb dX11_market_47 (lv_at hl 3 rfl) ?_
    refine lv_iload_n C.hx C.hb dX11_market_49 rfl (lv_at hl 1 rfl) ?_
    refine w_ge (tgt := 145) C hf dX11_market_50 (by decide) (fun hf => ?_) (fun hf => ?_)
    · refine lv_iload_n C.hx C.hb dX11_market_145 rfl (lv_at hl 2 rfl) ?_
      cases hf
      exact w_iret C hH dX11_market_146
    · refine lv_aload_n C.hx C.hb dX11_market_53 rfl (lv_at hl 0 rfl) ?_
      refine lv_aload_n C.hx C.hb dX11_market_54 rfl (lv_at hl 0 rfl) ?_
      refine g_ref (off := 1) C hH o_t (by decide) rfl rfl FL_RX11_7 dX11_market_55 ?_
      refine lv_iconst (v := Int32.ofInt 0) C.hx C.hb dX11_market_58 rfl ?_
      refine r_iald C hH (ly (i := 0) (off := 1) (k := 12) hn o_t rfl rfl rfl) (lyn (i := 0) (off := 1) (N := 287) hn o_t rfl rfl rfl) hf dX11_market_59 (fun x59 hf => ?_)
      obtain ⟨x60, M60, hc9, hf⟩ := cl_of hf
      refine r_callVi (rest := []) C hH hl o_t (by decide) rfl (m_X11_draw hn o_t hc9) ML_RX11_381 MF_X11_draw MI_X11_draw rfl rfl (Nat.le_of_ble_eq_true rfl) ⟨Nat.le_of_ble_eq_true rfl, Nat.le_of_ble_eq_true rfl⟩ ⟨Nat.le_refl _, Nat.le_refl _⟩ dX11_market_60 (fun H locs hH => ?_)
      refine lv_istore (lv' := [(5, i3 x60), (0, .ref (eb E + t)), (2, i3 a2), (3, i3 v3_47), (4, i3 v4_47)]) C.hx C.hb dX11_market_63 hl (by decide) rfl (fun ls hl => ?_)
      refine lv_aload_n C.hx C.hb dX11_market_65 rfl (lv_at hl 1 rfl) ?_
      refine lv_aload_n C.hx C.hb dX11_market_66 rfl (lv_at hl 1 rfl) ?_
      refine g_ref (off := 1) C hH o_t (by decide) rfl rfl FL_RX11_7 dX11_market_67 ?_
      refine lv_iconst (v := Int32.ofInt 0) C.hx C.hb dX11_market_70 rfl ?_
      refine r_iald C hH (ly (i := 0) (off := 1) (k := 12) hn o_t rfl rfl rfl) (lyn (i := 0) (off := 1) (N := 287) hn o_t rfl rfl rfl) hf dX11_market_71 (fun x71 hf => ?_)
      obtain ⟨x72, M72, hc9, hf⟩ := cl_of hf
      refine r_callVi (rest := []) C hH hl o_t (by decide) rfl (m_X11_draw hn o_t hc9) ML_RX11_381 MF_X11_draw MI_X11_draw rfl rfl (Nat.le_of_ble_eq_true rfl) ⟨Nat.le_of_ble_eq_true rfl, Nat.le_of_ble_eq_true rfl⟩ ⟨Nat.le_refl _, Nat.le_refl _⟩ dX11_market_72 (fun H locs hH => ?_)
      refine lv_istore (lv' := [(6, i3 x72), (5, i3 x60), (0, .ref (eb E + t)), (2, i3 a2), (3, i3 v3_47), (4, i3 v4_47)]) C.hx C.hb dX11_market_75 hl (by decide) rfl (fun ls hl => ?_)
      refine lv_iload C.hx C.hb dX11_market_77 (lv_at hl 1 rfl) ?_
      refine lv_iload C.hx C.hb dX11_market_79 (lv_at hl 0 rfl) ?_
      refine w_ne (tgt := 88) C hf dX11_market_81 (by decide) (fun hf => ?_) (fun hf => ?_)
      · refine lv_aload_n C.hx C.hb dX11_market_88 rfl (lv_at hl 2 rfl) ?_
        refine lv_iload C.hx C.hb dX11_market_89 (lv_at hl 1 rfl) ?_
        obtain ⟨x91, hc9, hf⟩ := cu_of hf
        refine r_callVi (rest := []) C hH hl o_t (by decide) rfl (m_X11_lightest hn o_t hc9) ML_RX11_384 MF_X11_lightest MI_X11_lightest rfl rfl (Nat.le_of_ble_eq_true rfl) ⟨Nat.le_of_ble_eq_true rfl, Nat.le_of_ble_eq_true rfl⟩ ⟨Nat.le_refl _, Nat.le_refl _⟩ dX11_market_91 (fun H locs hH => ?_)
        exact j_X11_market_94 C hn o_t h_rec47 hf hH (lv_sub hl [2, 3, 4, 5, 0] rfl)
      · refine lv_iconst (v := Int32.ofInt (-1)) C.hx C.hb dX11_market_84 rfl ?_
        refine lv_goto (tgt := 94) C.hx C.hb dX11_market_85 (by decide) ?_
        exact j_X11_market_94 C hn o_t h_rec47 hf hH (lv_sub hl [2, 3, 4, 5, 0] rfl)
set_option maxRecDepth 100000 in
set_option maxHeartbeats 4000000 in
theorem m_X11_market {E : EE} {l : Launch} {n : Nat} {t : Nat} {a1 : Int} {a2 : Int} {M : Mem} {o : (Int × Mem)} (hn : nfull n) (o_t : ob n t 11) (hf : fn_X11_market t a1 a2 M = some o) : CT E l yX11_market cX11_market 8 (some .int) 5 120 0 0 [.ref (eb E + t), i3 a1, i3 a2] n (zf n) M (some (i3 o.1)) n (zf n) o.2 := by
  refine CT_of PN_RX11 (Nat.le_of_ble_eq_true rfl) ?_
  intro p e s m args below meth c C hH ls hl
  replace C : Cx E p s m args meth c cX11_market 8 RX11 (some .int) n "market" := C
  have hl : lv_has ls 8 [(0, .ref (eb E + t)), (1, i3 a1), (2, i3 a2)] := hl
  unfold fn_X11_market at hf
  refine lv_iload_n C.hx C.hb dX11_market_0 rfl (lv_at hl 1 rfl) ?_
  refine lv_iconst (v := Int32.ofInt 0) C.hx C.hb dX11_market_1 rfl ?_
  refine lv_sipush (v := Int32.ofInt 9999) C.hx C.hb dX11_market_2 (by decide) ?_
  obtain ⟨x5, hc9, hf⟩ := cu_of hf
  refine r_callSi (rest := []) C hH hl (m_X11_in hn hc9) ML_RX11_115 MF_X11_in MS_X11_in rfl rfl (Nat.le_of_ble_eq_true rfl) ⟨Nat.le_of_ble_eq_true rfl, Nat.le_of_ble_eq_true rfl⟩ ⟨Nat.le_refl _, Nat.le_refl _⟩ dX11_market_5 (fun H locs hH => ?_)
  refine w_eq0 (tgt := 30) C hf dX11_market_8 (by decide) (fun hf => ?_) (fun hf => ?_)
  · refine lv_iconst (v := Int32.ofInt (-1)) C.hx C.hb dX11_market_30 rfl ?_
    cases hf
    exact w_iret C hH dX11_market_31
  · refine lv_iload_n C.hx C.hb dX11_market_11 rfl (lv_at hl 2 rfl) ?_
    refine lv_iconst (v := Int32.ofInt 1) C.hx C.hb dX11_market_12 rfl ?_
    refine lv_bipush (v := Int32.ofInt 99) C.hx C.hb dX11_market_13 (by decide) ?_
    obtain ⟨x15, hc9, hf⟩ := cu_of hf
    refine r_callSi (rest := []) C hH hl (m_X11_in hn hc9) ML_RX11_115 MF_X11_in MS_X11_in rfl rfl (Nat.le_of_ble_eq_true rfl) ⟨Nat.le_of_ble_eq_true rfl, Nat.le_of_ble_eq_true rfl⟩ ⟨Nat.le_refl _, Nat.le_refl _⟩ dX11_market_15 (fun H locs hH => ?_)
    refine w_eq0 (tgt := 30) C hf dX11_market_18 (by decide) (fun hf => ?_) (fun hf => ?_)
    · refine lv_iconst (v := Int32.ofInt (-1)) C.hx C.hb dX11_market_30 rfl ?_
      cases hf
      exact w_iret C hH dX11_market_31
    · refine lv_aload_n C.hx C.hb dX11_market_21 rfl (lv_at hl 0 rfl) ?_
      refine g_ref (off := 1) C hH o_t (by decide) rfl rfl FL_RX11_7 dX11_market_22 ?_
      refine lv_iconst (v := Int32.ofInt 0) C.hx C.hb dX11_market_25 rfl ?_
      refine r_iald C hH (ly (i := 0) (off := 1) (k := 12) hn o_t rfl rfl rfl) (lyn (i := 0) (off := 1) (N := 287) hn o_t rfl rfl rfl) hf dX11_market_26 (fun x26 hf => ?_)
      refine w_ne0 (tgt := 32) C hf dX11_market_27 (by decide) (fun hf => ?_) (fun hf => ?_)
      · refine lv_aload_n C.hx C.hb dX11_market_32 rfl (lv_at hl 0 rfl) ?_
        refine lv_iload_n C.hx C.hb dX11_market_33 rfl (lv_at hl 1 rfl) ?_
        refine lv_bipush (v := Int32.ofInt 7) C.hx C.hb dX11_market_34 (by decide) ?_
        refine w_imul C dX11_market_36 ?_
        refine lv_iconst (v := Int32.ofInt 2) C.hx C.hb dX11_market_37 rfl ?_
        refine w_iadd C dX11_market_38 ?_
        refine r_put C hH o_t (by decide) rfl FL_RX11_378 FW_11_47 hf dX11_market_39 (fun M39 H locs hf hH => ?_)
        refine lv_iconst (v := Int32.ofInt 0) C.hx C.hb dX11_market_42 rfl ?_
        refine lv_istore_n (lv' := [(3, i3 0), (0, .ref (eb E + t)), (1, i3 a1), (2, i3 a2)]) C.hx C.hb dX11_market_43 rfl hl (by decide) rfl (fun ls hl => ?_)
        refine lv_iconst (v := Int32.ofInt 0) C.hx C.hb dX11_market_44 rfl ?_
        refine lv_istore (lv' := [(4, i3 0), (3, i3 0), (0, .ref (eb E + t)), (1, i3 a1), (2, i3 a2)]) C.hx C.hb dX11_market_45 hl (by decide) rfl (fun ls hl => ?_)
        exact l_X11_market_47 C hn o_t FU _ _ _ _ _ _ hf hH (lv_sub hl [2, 4, 1, 0] rfl)
      · refine lv_iconst (v := Int32.ofInt (-1)) C.hx C.hb dX11_market_30 rfl ?_
        cases hf
        exact w_iret C hH dX11_market_31
-- HeavierByHandModel.image
def fn_X11_image (t : Nat) (M : Mem) : Option (Int × Mem) :=
  cv (fn_X11_copies t 1 M) fun M2 => rd M2 (t + 1) 288 1 fun x10 => some (x10, M2)
set_option maxRecDepth 100000 in
set_option maxHeartbeats 4000000 in
theorem m_X11_image {E : EE} {l : Launch} {n : Nat} {t : Nat} {M : Mem} {o : (Int × Mem)} (hn : nfull n) (o_t : ob n t 11) (hf : fn_X11_image t M = some o) : CT E l yX11_image cX11_image 1 (some .int) 1 22 0 0 [.ref (eb E + t)] n (zf n) M (some (i3 o.1)) n (zf n) o.2 := by
  refine CT_of PN_RX11 (Nat.le_of_ble_eq_true rfl) ?_
  intro p e s m args below meth c C hH ls hl
  replace C : Cx E p s m args meth c cX11_image 1 RX11 (some .int) n "image" := C
  have hl : lv_has ls 1 [(0, .ref (eb E + t))] := hl
  unfold fn_X11_image at hf
  refine lv_aload_n C.hx C.hb dX11_image_0 rfl (lv_at hl 0 rfl) ?_
  refine lv_iconst (v := Int32.ofInt 1) C.hx C.hb dX11_image_1 rfl ?_
  obtain ⟨M2, hc9, hf⟩ := cv_of hf
  refine r_callVv (rest := []) C hH hl o_t (by decide) rfl (m_X11_copies hn o_t hc9) ML_RX11_111 MF_X11_copies MI_X11_copies rfl rfl (Nat.le_of_ble_eq_true rfl) ⟨Nat.le_of_ble_eq_true rfl, Nat.le_of_ble_eq_true rfl⟩ ⟨Nat.le_refl _, Nat.le_refl _⟩ dX11_image_2 (fun H locs hH => ?_)
  refine lv_aload_n C.hx C.hb dX11_image_5 rfl (lv_at hl 0 rfl) ?_
  refine g_ref (off := 1) C hH o_t (by decide) rfl rfl FL_RX11_7 dX11_image_6 ?_
  refine lv_iconst (v := Int32.ofInt 1) C.hx C.hb dX11_image_9 rfl ?_
  refine r_iald C hH (ly (i := 0) (off := 1) (k := 12) hn o_t rfl rfl rfl) (lyn (i := 0) (off := 1) (N := 287) hn o_t rfl rfl rfl) hf dX11_image_10 (fun x10 hf => ?_)
  cases hf
  exact w_iret C hH dX11_image_11
-- HeavierByHandModel.back
def fn_X11_back (t : Nat) (M : Mem) : Option (Int × Mem) :=
  cv (fn_X11_copies t 0 M) fun M2 => rd M2 (t + 1) 288 1 fun x10 => some (x10, M2)
set_option maxRecDepth 100000 in
set_option maxHeartbeats 4000000 in
theorem m_X11_back {E : EE} {l : Launch} {n : Nat} {t : Nat} {M : Mem} {o : (Int × Mem)} (hn : nfull n) (o_t : ob n t 11) (hf : fn_X11_back t M = some o) : CT E l yX11_back cX11_back 1 (some .int) 1 22 0 0 [.ref (eb E + t)] n (zf n) M (some (i3 o.1)) n (zf n) o.2 := by
  refine CT_of PN_RX11 (Nat.le_of_ble_eq_true rfl) ?_
  intro p e s m args below meth c C hH ls hl
  replace C : Cx E p s m args meth c cX11_back 1 RX11 (some .int) n "back" := C
  have hl : lv_has ls 1 [(0, .ref (eb E + t))] := hl
  unfold fn_X11_back at hf
  refine lv_aload_n C.hx C.hb dX11_back_0 rfl (lv_at hl 0 rfl) ?_
  refine lv_iconst (v := Int32.ofInt 0) C.hx C.hb dX11_back_1 rfl ?_
  obtain ⟨M2, hc9, hf⟩ := cv_of hf
  refine r_callVv (rest := []) C hH hl o_t (by decide) rfl (m_X11_copies hn o_t hc9) ML_RX11_111 MF_X11_copies MI_X11_copies rfl rfl (Nat.le_of_ble_eq_true rfl) ⟨Nat.le_of_ble_eq_true rfl, Nat.le_of_ble_eq_true rfl⟩ ⟨Nat.le_refl _, Nat.le_refl _⟩ dX11_back_2 (fun H locs hH => ?_)
  refine lv_aload_n C.hx C.hb dX11_back_5 rfl (lv_at hl 0 rfl) ?_
  refine g_ref (off := 1) C hH o_t (by decide) rfl rfl FL_RX11_7 dX11_back_6 ?_
  refine lv_iconst (v := Int32.ofInt 1) C.hx C.hb dX11_back_9 rfl ?_
  refine r_iald C hH (ly (i := 0) (off := 1) (k := 12) hn o_t rfl rfl rfl) (lyn (i := 0) (off := 1) (N := 287) hn o_t rfl rfl rfl) hf dX11_back_10 (fun x10 hf => ?_)
  cases hf
  exact w_iret C hH dX11_back_11
-- HeavierByHandModel.heldBy
def fn_X11_heldBy_J35 (v3_4 : Int) (v2_4 : Int) (rec4 : Int → Int → Option Int) (u0_35 : Int) : Option Int :=
  nm ((v2_4 + u0_35)) fun v2_36 => nm (v3_4 + 1) fun v3_37 => rec4 v3_37 v2_36
def fn_X11_heldBy_L4 (t : Nat) (a1 : Int) (M : Mem) (rec4 : Int → Int → Option Int) (v3_4 : Int) (v2_4 : Int) : Option Int :=
  rd M (t + 1) 288 1 fun x10 => cLt v3_4 x10 (cu (fn_X11_coinOf t v3_4 2 M) fun x18 => cEq x18 a1 (cu (fn_X11_coinOf t v3_4 1 M) fun x28 => fn_X11_heldBy_J35 v3_4 v2_4 rec4 x28) (fn_X11_heldBy_J35 v3_4 v2_4 rec4 0)) (some v2_4)
def fn_X11_heldBy (t : Nat) (a1 : Int) (M : Mem) : Option Int :=
  lq2 (fn_X11_heldBy_L4 t a1 M) FU 0 0
set_option maxRecDepth 100000 in
set_option maxHeartbeats 4000000 in
theorem j_X11_heldBy_35 {p : Program} {l : Launch} {e : Env} {s : State} {m : MethodId} {args : Array Value} {below : List Frame} {meth : Method} {c : Code} {E : EE} {n : Nat} {o : Int} {t : Nat} {a1 : Int} {M : Mem} {v3_4 : Int} {v2_4 : Int} {rec4 : Int → Int → Option Int} {u0_35 : Int} {H : Heap} {locs : List Loc} {ls : Array Slot} (C : Cx E p s m args meth c cX11_heldBy 4 RX11 (some .int) n "heldBy") (hn : nfull n) (o_t : ob n t 11) (h_rec4 : ∀ {v3_4 : Int} {v2_4 : Int} {H : Heap} {locs : List Loc} {ls : Array Slot}, rec4 v3_4 v2_4 = some o → ST E s n (zf n) M H locs → lv_has ls 4 [(0, .ref (eb E + t)), (1, i3 a1), (2, i3 v2_4), (3, i3 v3_4)] → W p l e { frames := 1, cells := 0, slots := 0, locals := 22 } s m args below meth c H locs 0 0 (MQ below (QC E (some (i3 o)) n (zf n) M) args s 0 0 (fr E)) (F0 m 4 ls [])) (hf : fn_X11_heldBy_J35 v3_4 v2_4 rec4 u0_35 = some o) (hH : ST E s n (zf n) M H locs) (hl : lv_has ls 4 [(0, .ref (eb E + t)), (1, i3 a1), (3, i3 v3_4)]) : W p l e { frames := 1, cells := 0, slots := 0, locals := 22 } s m args below meth c H locs 0 0 (MQ below (QC E (some (i3 o)) n (zf n) M) args s 0 0 (fr E)) (F0 m 35 ls [i3 u0_35, i3 v2_4]) := by
  unfold fn_X11_heldBy_J35 at hf
  refine w_iadd C dX11_heldBy_35 ?_
  refine r_nm hf (fun v2_36 hf => ?_)
  refine lv_istore_n (lv' := [(2, i3 v2_36), (0, .ref (eb E + t)), (1, i3 a1), (3, i3 v3_4)]) C.hx C.hb dX11_heldBy_36 rfl hl (by decide) rfl (fun ls hl => ?_)
  refine r_iinc (k := 3) (lv' := fun v => [(3, i3 v), (2, i3 v2_36), (0, .ref (eb E + t)), (1, i3 a1)]) C hf dX11_heldBy_37 hl rfl (by decide) (fun _ => rfl) (fun v3_37 ls hf hl => ?_)
  refine lv_goto (tgt := 4) C.hx C.hb dX11_heldBy_40 (by decide) ?_
  exact h_rec4 hf hH (lv_sub hl [2, 3, 1, 0] rfl)
set_option maxRecDepth 100000 in
set_option maxHeartbeats 4000000 in
theorem l_X11_heldBy_4 {p : Program} {l : Launch} {e : Env} {s : State} {m : MethodId} {args : Array Value} {below : List Frame} {meth : Method} {c : Code} {E : EE} {n : Nat} {o : Int} {t : Nat} {a1 : Int} {M : Mem} (C : Cx E p s m args meth c cX11_heldBy 4 RX11 (some .int) n "heldBy") (hn : nfull n) (o_t : ob n t 11) : ∀ (k : Nat) (v3_4 : Int) (v2_4 : Int) (H : Heap) (locs : List Loc) (ls : Array Slot), lq2 (fn_X11_heldBy_L4 t a1 M) k v3_4 v2_4 = some o → ST E s n (zf n) M H locs → lv_has ls 4 [(0, .ref (eb E + t)), (1, i3 a1), (2, i3 v2_4), (3, i3 v3_4)] → W p l e { frames := 1, cells := 0, slots := 0, locals := 22 } s m args below meth c H locs 0 0 (MQ below (QC E (some (i3 o)) n (zf n) M) args s 0 0 (fr E)) (F0 m 4 ls []) := by
  intro k
  induction k with
  | zero => intro v3_4 v2_4 H locs ls hf; cases hf
  | succ k ih =>
    intro v3_4 v2_4 H locs ls hf hH hl
    have h_rec4 : ∀ {v3_4 : Int} {v2_4 : Int} {H : Heap} {locs : List Loc} {ls : Array Slot}, lq2 (fn_X11_heldBy_L4 t a1 M) k v3_4 v2_4 = some o → ST E s n (zf n) M H locs → lv_has ls 4 [(0, .ref (eb E + t)), (1, i3 a1), (2, i3 v2_4), (3, i3 v3_4)] → W p l e { frames := 1, cells := 0, slots := 0, locals := 22 } s m args below meth c H locs 0 0 (MQ below (QC E (some (i3 o)) n (zf n) M) args s 0 0 (fr E)) (F0 m 4 ls []) := fun {v3_4} {v2_4} {H} {locs} {ls} a b c => ih v3_4 v2_4 H locs ls a b c
    replace hf : fn_X11_heldBy_L4 t a1 M (lq2 (fn_X11_heldBy_L4 t a1 M) k) v3_4 v2_4 = some o := hf
    generalize lq2 (fn_X11_heldBy_L4 t a1 M) k = rec4 at hf h_rec4
    unfold fn_X11_heldBy_L4 at hf
    refine lv_iload_n C.hx C.hb dX11_heldBy_4 rfl (lv_at hl 3 rfl) ?_
    refine lv_aload_n C.hx C.hb dX11_heldBy_5 rfl (lv_at hl 0 rfl) ?_
    refine g_ref (off := 1) C hH o_t (by decide) rfl rfl FL_RX11_7 dX11_heldBy_6 ?_
    refine lv_iconst (v := Int32.ofInt 1) C.hx C.hb dX11_heldBy_9 rfl ?_
    refine r_iald C hH (ly (i := 0) (off := 1) (k := 12) hn o_t rfl rfl rfl) (lyn (i := 0) (off := 1) (N := 287) hn o_t rfl rfl rfl) hf dX11_heldBy_10 (fun x10 hf => ?_)
    refine w_ge (tgt := 43) C hf dX11_heldBy_11 (by decide) (fun hf => ?_) (fun hf => ?_)
    · refine lv_iload_n C.hx C.hb dX11_heldBy_43 rfl (lv_at hl 2 rfl) ?_
      cases hf
      exact w_iret C hH dX11_heldBy_44
    · refine lv_iload_n C.hx C.hb dX11_heldBy_14 rfl (lv_at hl 2 rfl) ?_
      refine lv_aload_n C.hx C.hb dX11_heldBy_15 rfl (lv_at hl 0 rfl) ?_
      refine lv_iload_n C.hx C.hb dX11_heldBy_16 rfl (lv_at hl 3 rfl) ?_
      refine lv_iconst (v := Int32.ofInt 2) C.hx C.hb dX11_heldBy_17 rfl ?_
      obtain ⟨x18, hc9, hf⟩ := cu_of hf
      refine r_callVi (rest := [i3 v2_4]) C hH hl o_t (by decide) rfl (m_X11_coinOf hn o_t hc9) ML_RX11_300 MF_X11_coinOf MI_X11_coinOf rfl rfl (Nat.le_of_ble_eq_true rfl) ⟨Nat.le_of_ble_eq_true rfl, Nat.le_of_ble_eq_true rfl⟩ ⟨Nat.le_refl _, Nat.le_refl _⟩ dX11_heldBy_18 (fun H locs hH => ?_)
      refine lv_iload_n C.hx C.hb dX11_heldBy_21 rfl (lv_at hl 1 rfl) ?_
      refine w_ne (tgt := 34) C hf dX11_heldBy_22 (by decide) (fun hf => ?_) (fun hf => ?_)
      · refine lv_iconst (v := Int32.ofInt 0) C.hx C.hb dX11_heldBy_34 rfl ?_
        exact j_X11_heldBy_35 C hn o_t h_rec4 hf hH (lv_sub hl [0, 1, 3] rfl)
      · refine lv_aload_n C.hx C.hb dX11_heldBy_25 rfl (lv_at hl 0 rfl) ?_
        refine lv_iload_n C.hx C.hb dX11_heldBy_26 rfl (lv_at hl 3 rfl) ?_
        refine lv_iconst (v := Int32.ofInt 1) C.hx C.hb dX11_heldBy_27 rfl ?_
        obtain ⟨x28, hc9, hf⟩ := cu_of hf
        refine r_callVi (rest := [i3 v2_4]) C hH hl o_t (by decide) rfl (m_X11_coinOf hn o_t hc9) ML_RX11_300 MF_X11_coinOf MI_X11_coinOf rfl rfl (Nat.le_of_ble_eq_true rfl) ⟨Nat.le_of_ble_eq_true rfl, Nat.le_of_ble_eq_true rfl⟩ ⟨Nat.le_refl _, Nat.le_refl _⟩ dX11_heldBy_28 (fun H locs hH => ?_)
        refine lv_goto (tgt := 35) C.hx C.hb dX11_heldBy_31 (by decide) ?_
        exact j_X11_heldBy_35 C hn o_t h_rec4 hf hH (lv_sub hl [0, 1, 3] rfl)
set_option maxRecDepth 100000 in
set_option maxHeartbeats 4000000 in
theorem m_X11_heldBy {E : EE} {l : Launch} {n : Nat} {t : Nat} {a1 : Int} {M : Mem} {o : Int} (hn : nfull n) (o_t : ob n t 11) (hf : fn_X11_heldBy t a1 M = some o) : CT E l yX11_heldBy cX11_heldBy 4 (some .int) 1 22 0 0 [.ref (eb E + t), i3 a1] n (zf n) M (some (i3 o)) n (zf n) M := by
  refine CT_of PN_RX11 (Nat.le_of_ble_eq_true rfl) ?_
  intro p e s m args below meth c C hH ls hl
  replace C : Cx E p s m args meth c cX11_heldBy 4 RX11 (some .int) n "heldBy" := C
  have hl : lv_has ls 4 [(0, .ref (eb E + t)), (1, i3 a1)] := hl
  unfold fn_X11_heldBy at hf
  refine lv_iconst (v := Int32.ofInt 0) C.hx C.hb dX11_heldBy_0 rfl ?_
  refine lv_istore_n (lv' := [(2, i3 0), (0, .ref (eb E + t)), (1, i3 a1)]) C.hx C.hb dX11_heldBy_1 rfl hl (by decide) rfl (fun ls hl => ?_)
  refine lv_iconst (v := Int32.ofInt 0) C.hx C.hb dX11_heldBy_2 rfl ?_
  refine lv_istore_n (lv' := [(3, i3 0), (2, i3 0), (0, .ref (eb E + t)), (1, i3 a1)]) C.hx C.hb dX11_heldBy_3 rfl hl (by decide) rfl (fun ls hl => ?_)
  exact l_X11_heldBy_4 C hn o_t FU _ _ _ _ _ hf hH (lv_sub hl [2, 3, 1, 0] rfl)
-- HeavierByHandModel.about
def w3 (x : Int) : Int := (Int32.ofInt x).toInt
theorem w3_i3 (x : Int) : i3 (w3 x) = i3 x := by unfold w3; exact congrArg Value.int (i3_to _)
def fn_X11_about (t : Nat) (a1 : Int) (M : Mem) : Option Int :=
  ck (R3 a1) <| if a1 = 0 then (rd M (t + 1) 288 0 fun x61 => some x61) else if a1 = 1 then (rd M (t + 1) 288 1 fun x68 => some x68) else if a1 = 2 then (rd M (t + 1) 288 2 fun x75 => some x75) else if a1 = 3 then (rd M (t + 1) 288 3 fun x82 => some x82) else if a1 = 4 then (rd M (t + 1) 288 4 fun x89 => some x89) else if a1 = 5 then (rd M (t + 1) 288 5 fun x96 => some x96) else if a1 = 6 then (rd M (t + 1) 288 6 fun x104 => some x104) else if a1 = 7 then (rd M (t + 1) 288 7 fun x112 => some x112) else if a1 = 8 then (rd M (t + 1) 288 8 fun x120 => some x120) else if a1 = 9 then (some (M t 3)) else cu (fn_X11_isHand t (w3 (a1 - 10)) M) fun x132 => cEq x132 0 (cu (fn_X11_isHand t (w3 (a1 - 20)) M) fun x156 => cEq x156 0 (some (-2)) (cu (fn_X11_heldBy t (a1 - 20) M) fun x167 => some x167)) (rd M (t + 1) 288 ((10 + a1) - 10) fun x149 => some x149)
set_option maxRecDepth 100000 in
set_option maxHeartbeats 4000000 in
theorem m_X11_about {E : EE} {l : Launch} {n : Nat} {t : Nat} {a1 : Int} {M : Mem} {o : Int} (hn : nfull n) (o_t : ob n t 11) (hf : fn_X11_about t a1 M = some o) : CT E l yX11_about cX11_about 2 (some .int) 2 45 0 0 [.ref (eb E + t), i3 a1] n (zf n) M (some (i3 o)) n (zf n) M := by
  refine CT_of PN_RX11 (Nat.le_of_ble_eq_true rfl) ?_
  intro p e s m args below meth c C hH ls hl
  replace C : Cx E p s m args meth c cX11_about 2 RX11 (some .int) n "about" := C
  have hl : lv_has ls 2 [(0, .ref (eb E + t)), (1, i3 a1)] := hl
  unfold fn_X11_about at hf
  refine lv_iload_n C.hx C.hb dX11_about_0 rfl (lv_at hl 1 rfl) ?_
  obtain ⟨hR9, hf⟩ := ck_of hf
  by_cases e0 : a1 = 0
  · rw [if_pos e0] at hf
    refine r_tab (tgt := 56) C e0 ⟨by decide, by decide⟩ dX11_about_1 (by decide) (by decide) rfl (by decide) ?_
    refine lv_aload_n C.hx C.hb dX11_about_56 rfl (lv_at hl 0 rfl) ?_
    refine g_ref (off := 1) C hH o_t (by decide) rfl rfl FL_RX11_7 dX11_about_57 ?_
    refine lv_iconst (v := Int32.ofInt 0) C.hx C.hb dX11_about_60 rfl ?_
    refine r_iald C hH (ly (i := 0) (off := 1) (k := 12) hn o_t rfl rfl rfl) (lyn (i := 0) (off := 1) (N := 287) hn o_t rfl rfl rfl) hf dX11_about_61 (fun x61 hf => ?_)
    cases hf
    exact w_iret C hH dX11_about_62
  · rw [if_neg e0] at hf
    by_cases e1 : a1 = 1
    · rw [if_pos e1] at hf
      refine r_tab (tgt := 63) C e1 ⟨by decide, by decide⟩ dX11_about_1 (by decide) (by decide) rfl (by decide) ?_
      refine lv_aload_n C.hx C.hb dX11_about_63 rfl (lv_at hl 0 rfl) ?_
      refine g_ref (off := 1) C hH o_t (by decide) rfl rfl FL_RX11_7 dX11_about_64 ?_
      refine lv_iconst (v := Int32.ofInt 1) C.hx C.hb dX11_about_67 rfl ?_
      refine r_iald C hH (ly (i := 0) (off := 1) (k := 12) hn o_t rfl rfl rfl) (lyn (i := 0) (off := 1) (N := 287) hn o_t rfl rfl rfl) hf dX11_about_68 (fun x68 hf => ?_)
      cases hf
      exact w_iret C hH dX11_about_69
    · rw [if_neg e1] at hf
      by_cases e2 : a1 = 2
      · rw [if_pos e2] at hf
        refine r_tab (tgt := 70) C e2 ⟨by decide, by decide⟩ dX11_about_1 (by decide) (by decide) rfl (by decide) ?_
        refine lv_aload_n C.hx C.hb dX11_about_70 rfl (lv_at hl 0 rfl) ?_
        refine g_ref (off := 1) C hH o_t (by decide) rfl rfl FL_RX11_7 dX11_about_71 ?_
        refine lv_iconst (v := Int32.ofInt 2) C.hx C.hb dX11_about_74 rfl ?_
        refine r_iald C hH (ly (i := 0) (off := 1) (k := 12) hn o_t rfl rfl rfl) (lyn (i := 0) (off := 1) (N := 287) hn o_t rfl rfl rfl) hf dX11_about_75 (fun x75 hf => ?_)
        cases hf
        exact w_iret C hH dX11_about_76
      · rw [if_neg e2] at hf
        by_cases e3 : a1 = 3
        · rw [if_pos e3] at hf
          refine r_tab (tgt := 77) C e3 ⟨by decide, by decide⟩ dX11_about_1 (by decide) (by decide) rfl (by decide) ?_
          refine lv_aload_n C.hx C.hb dX11_about_77 rfl (lv_at hl 0 rfl) ?_
          refine g_ref (off := 1) C hH o_t (by decide) rfl rfl FL_RX11_7 dX11_about_78 ?_
          refine lv_iconst (v := Int32.ofInt 3) C.hx C.hb dX11_about_81 rfl ?_
          refine r_iald C hH (ly (i := 0) (off := 1) (k := 12) hn o_t rfl rfl rfl) (lyn (i := 0) (off := 1) (N := 287) hn o_t rfl rfl rfl) hf dX11_about_82 (fun x82 hf => ?_)
          cases hf
          exact w_iret C hH dX11_about_83
        · rw [if_neg e3] at hf
          by_cases e4 : a1 = 4
          · rw [if_pos e4] at hf
            refine r_tab (tgt := 84) C e4 ⟨by decide, by decide⟩ dX11_about_1 (by decide) (by decide) rfl (by decide) ?_
            refine lv_aload_n C.hx C.hb dX11_about_84 rfl (lv_at hl 0 rfl) ?_
            refine g_ref (off := 1) C hH o_t (by decide) rfl rfl FL_RX11_7 dX11_about_85 ?_
            refine lv_iconst (v := Int32.ofInt 4) C.hx C.hb dX11_about_88 rfl ?_
            refine r_iald C hH (ly (i := 0) (off := 1) (k := 12) hn o_t rfl rfl rfl) (lyn (i := 0) (off := 1) (N := 287) hn o_t rfl rfl rfl) hf dX11_about_89 (fun x89 hf => ?_)
            cases hf
            exact w_iret C hH dX11_about_90
          · rw [if_neg e4] at hf
            by_cases e5 : a1 = 5
            · rw [if_pos e5] at hf
              refine r_tab (tgt := 91) C e5 ⟨by decide, by decide⟩ dX11_about_1 (by decide) (by decide) rfl (by decide) ?_
              refine lv_aload_n C.hx C.hb dX11_about_91 rfl (lv_at hl 0 rfl) ?_
              refine g_ref (off := 1) C hH o_t (by decide) rfl rfl FL_RX11_7 dX11_about_92 ?_
              refine lv_iconst (v := Int32.ofInt 5) C.hx C.hb dX11_about_95 rfl ?_
              refine r_iald C hH (ly (i := 0) (off := 1) (k := 12) hn o_t rfl rfl rfl) (lyn (i := 0) (off := 1) (N := 287) hn o_t rfl rfl rfl) hf dX11_about_96 (fun x96 hf => ?_)
              cases hf
              exact w_iret C hH dX11_about_97
            · rw [if_neg e5] at hf
              by_cases e6 : a1 = 6
              · rw [if_pos e6] at hf
                refine r_tab (tgt := 98) C e6 ⟨by decide, by decide⟩ dX11_about_1 (by decide) (by decide) rfl (by decide) ?_
                refine lv_aload_n C.hx C.hb dX11_about_98 rfl (lv_at hl 0 rfl) ?_
                refine g_ref (off := 1) C hH o_t (by decide) rfl rfl FL_RX11_7 dX11_about_99 ?_
                refine lv_bipush (v := Int32.ofInt 6) C.hx C.hb dX11_about_102 (by decide) ?_
                refine r_iald C hH (ly (i := 0) (off := 1) (k := 12) hn o_t rfl rfl rfl) (lyn (i := 0) (off := 1) (N := 287) hn o_t rfl rfl rfl) hf dX11_about_104 (fun x104 hf => ?_)
                cases hf
                exact w_iret C hH dX11_about_105
              · rw [if_neg e6] at hf
                by_cases e7 : a1 = 7
                · rw [if_pos e7] at hf
                  refine r_tab (tgt := 106) C e7 ⟨by decide, by decide⟩ dX11_about_1 (by decide) (by decide) rfl (by decide) ?_
                  refine lv_aload_n C.hx C.hb dX11_about_106 rfl (lv_at hl 0 rfl) ?_
                  refine g_ref (off := 1) C hH o_t (by decide) rfl rfl FL_RX11_7 dX11_about_107 ?_
                  refine lv_bipush (v := Int32.ofInt 7) C.hx C.hb dX11_about_110 (by decide) ?_
                  refine r_iald C hH (ly (i := 0) (off := 1) (k := 12) hn o_t rfl rfl rfl) (lyn (i := 0) (off := 1) (N := 287) hn o_t rfl rfl rfl) hf dX11_about_112 (fun x112 hf => ?_)
                  cases hf
                  exact w_iret C hH dX11_about_113
                · rw [if_neg e7] at hf
                  by_cases e8 : a1 = 8
                  · rw [if_pos e8] at hf
                    refine r_tab (tgt := 114) C e8 ⟨by decide, by decide⟩ dX11_about_1 (by decide) (by decide) rfl (by decide) ?_
                    refine lv_aload_n C.hx C.hb dX11_about_114 rfl (lv_at hl 0 rfl) ?_
                    refine g_ref (off := 1) C hH o_t (by decide) rfl rfl FL_RX11_7 dX11_about_115 ?_
                    refine lv_bipush (v := Int32.ofInt 8) C.hx C.hb dX11_about_118 (by decide) ?_
                    refine r_iald C hH (ly (i := 0) (off := 1) (k := 12) hn o_t rfl rfl rfl) (lyn (i := 0) (off := 1) (N := 287) hn o_t rfl rfl rfl) hf dX11_about_120 (fun x120 hf => ?_)
                    cases hf
                    exact w_iret C hH dX11_about_121
                  · rw [if_neg e8] at hf
                    by_cases e9 : a1 = 9
                    · rw [if_pos e9] at hf
                      refine r_tab (tgt := 122) C e9 ⟨by decide, by decide⟩ dX11_about_1 (by decide) (by decide) rfl (by decide) ?_
                      refine lv_aload_n C.hx C.hb dX11_about_122 rfl (lv_at hl 0 rfl) ?_
                      refine g_int C hH o_t (by decide) rfl FL_RX11_123 dX11_about_123 ?_
                      cases hf
                      exact w_iret C hH dX11_about_126
                    · rw [if_neg e9] at hf
                      refine r_tabO (tgt := 127) C hR9 dX11_about_1 (by omega) (by decide) ?_
                      refine lv_aload_n C.hx C.hb dX11_about_127 rfl (lv_at hl 0 rfl) ?_
                      refine lv_iload_n C.hx C.hb dX11_about_128 rfl (lv_at hl 1 rfl) ?_
                      refine lv_bipush (v := Int32.ofInt 10) C.hx C.hb dX11_about_129 (by decide) ?_
                      refine w_isub C dX11_about_131 ?_
                      rw [← w3_i3 (a1 - 10)]
                      obtain ⟨x132, hc9, hf⟩ := cu_of hf
                      refine r_callVi (rest := []) C hH hl o_t (by decide) rfl (m_X11_isHand hn o_t hc9) ML_RX11_119 MF_X11_isHand MI_X11_isHand rfl rfl (Nat.le_of_ble_eq_true rfl) ⟨Nat.le_of_ble_eq_true rfl, Nat.le_of_ble_eq_true rfl⟩ ⟨Nat.le_refl _, Nat.le_refl _⟩ dX11_about_132 (fun H locs hH => ?_)
                      refine w_eq0 (tgt := 151) C hf dX11_about_135 (by decide) (fun hf => ?_) (fun hf => ?_)
                      · refine lv_aload_n C.hx C.hb dX11_about_151 rfl (lv_at hl 0 rfl) ?_
                        refine lv_iload_n C.hx C.hb dX11_about_152 rfl (lv_at hl 1 rfl) ?_
                        refine lv_bipush (v := Int32.ofInt 20) C.hx C.hb dX11_about_153 (by decide) ?_
                        refine w_isub C dX11_about_155 ?_
                        rw [← w3_i3 (a1 - 20)]
                        obtain ⟨x156, hc9, hf⟩ := cu_of hf
                        refine r_callVi (rest := []) C hH hl o_t (by decide) rfl (m_X11_isHand hn o_t hc9) ML_RX11_119 MF_X11_isHand MI_X11_isHand rfl rfl (Nat.le_of_ble_eq_true rfl) ⟨Nat.le_of_ble_eq_true rfl, Nat.le_of_ble_eq_true rfl⟩ ⟨Nat.le_refl _, Nat.le_refl _⟩ dX11_about_156 (fun H locs hH => ?_)
                        refine w_eq0 (tgt := 173) C hf dX11_about_159 (by decide) (fun hf => ?_) (fun hf => ?_)
                        · refine lv_bipush (v := Int32.ofInt (-2)) C.hx C.hb dX11_about_173 (by decide) ?_
                          cases hf
                          exact w_iret C hH dX11_about_175
                        · refine lv_aload_n C.hx C.hb dX11_about_162 rfl (lv_at hl 0 rfl) ?_
                          refine lv_iload_n C.hx C.hb dX11_about_163 rfl (lv_at hl 1 rfl) ?_
                          refine lv_bipush (v := Int32.ofInt 20) C.hx C.hb dX11_about_164 (by decide) ?_
                          refine w_isub C dX11_about_166 ?_
                          obtain ⟨x167, hc9, hf⟩ := cu_of hf
                          refine r_callVi (rest := []) C hH hl o_t (by decide) rfl (m_X11_heldBy hn o_t hc9) ML_RX11_387 MF_X11_heldBy MI_X11_heldBy rfl rfl (Nat.le_of_ble_eq_true rfl) ⟨Nat.le_of_ble_eq_true rfl, Nat.le_of_ble_eq_true rfl⟩ ⟨Nat.le_refl _, Nat.le_refl _⟩ dX11_about_167 (fun H locs hH => ?_)
                          refine lv_goto (tgt := 175) C.hx C.hb dX11_about_170 (by decide) ?_
                          cases hf
                          exact w_iret C hH dX11_about_175
                      · refine lv_aload_n C.hx C.hb dX11_about_138 rfl (lv_at hl 0 rfl) ?_
                        refine g_ref (off := 1) C hH o_t (by decide) rfl rfl FL_RX11_7 dX11_about_139 ?_
                        refine lv_bipush (v := Int32.ofInt 10) C.hx C.hb dX11_about_142 (by decide) ?_
                        refine lv_iload_n C.hx C.hb dX11_about_144 rfl (lv_at hl 1 rfl) ?_
                        refine w_iadd C dX11_about_145 ?_
                        refine lv_bipush (v := Int32.ofInt 10) C.hx C.hb dX11_about_146 (by decide) ?_
                        refine w_isub C dX11_about_148 ?_
                        refine r_iald C hH (ly (i := 0) (off := 1) (k := 12) hn o_t rfl rfl rfl) (lyn (i := 0) (off := 1) (N := 287) hn o_t rfl rfl rfl) hf dX11_about_149 (fun x149 hf => ?_)
                        cases hf
                        exact w_iret C hH dX11_about_150
