-- HeavierByHand$Trays.edgeBelow
def fn_X9_edgeBelow_J30 (v3_4 : Int) (rec4 : Int → Int → Option Int) (v2_30 : Int) : Option Int :=
  nm (v3_4 + 1) fun v3_30 => rec4 v3_30 v2_30
def fn_X9_edgeBelow_L4 (t : Nat) (a1 : Int) (M : Mem) (rec4 : Int → Int → Option Int) (v3_4 : Int) (v2_4 : Int) : Option Int :=
  cLt v3_4 (M t 2) (cLt v3_4 21 (rd M (t + 2) 21 v3_4 fun x23 => cLt a1 x23 (fn_X9_edgeBelow_J30 v3_4 rec4 v2_4) (fn_X9_edgeBelow_J30 v3_4 rec4 v3_4)) (some v2_4)) (some v2_4)
def fn_X9_edgeBelow (t : Nat) (a1 : Int) (M : Mem) : Option Int :=
  lq2 (fn_X9_edgeBelow_L4 t a1 M) FU 0 0
set_option maxRecDepth 100000 in
set_option maxHeartbeats 4000000 in
theorem j_X9_edgeBelow_30 {p : Program} {l : Launch} {e : Env} {s : State} {m : MethodId} {args : Array Value} {below : List Frame} {meth : Method} {c : Code} {E : EE} {n : Nat} {o : Int} {t : Nat} {a1 : Int} {M : Mem} {v3_4 : Int} {rec4 : Int → Int → Option Int} {v2_30 : Int} {H : Heap} {locs : List Loc} {ls : Array Slot} (C : Cx E p s m args meth c cX9_edgeBelow 4 RX9 (some .int) n "edgeBelow") (hn : nfull n) (o_t : ob n t 9) (h_rec4 : ∀ {v3_4 : Int} {v2_4 : Int} {H : Heap} {locs : List Loc} {ls : Array Slot}, rec4 v3_4 v2_4 = some o → ST E s n (zf n) M H locs → lv_has ls 4 [(0, .ref (eb E + t)), (1, i3 a1), (2, i3 v2_4), (3, i3 v3_4)] → W p l e { frames := 0, cells := 0, slots := 0, locals := 0 } s m args below meth c H locs 0 0 (MQ below (QC E (some (i3 o)) n (zf n) M) args s 0 0 (fr E)) (F0 m 4 ls [])) (hf : fn_X9_edgeBelow_J30 v3_4 rec4 v2_30 = some o) (hH : ST E s n (zf n) M H locs) (hl : lv_has ls 4 [(0, .ref (eb E + t)), (1, i3 a1), (2, i3 v2_30), (3, i3 v3_4)]) : W p l e { frames := 0, cells := 0, slots := 0, locals := 0 } s m args below meth c H locs 0 0 (MQ below (QC E (some (i3 o)) n (zf n) M) args s 0 0 (fr E)) (F0 m 30 ls []) := by
  unfold fn_X9_edgeBelow_J30 at hf
  refine r_iinc (k := 3) (lv' := fun v => [(3, i3 v), (0, .ref (eb E + t)), (1, i3 a1), (2, i3 v2_30)]) C hf dX9_edgeBelow_30 hl rfl (by decide) (fun _ => rfl) (fun v3_30 ls hf hl => ?_)
  refine lv_goto (tgt := 4) C.hx C.hb dX9_edgeBelow_33 (by decide) ?_
  exact h_rec4 hf hH (lv_sub hl [1, 2, 3, 0] rfl)
set_option maxRecDepth 100000 in
set_option maxHeartbeats 4000000 in
theorem l_X9_edgeBelow_4 {p : Program} {l : Launch} {e : Env} {s : State} {m : MethodId} {args : Array Value} {below : List Frame} {meth : Method} {c : Code} {E : EE} {n : Nat} {o : Int} {t : Nat} {a1 : Int} {M : Mem} (C : Cx E p s m args meth c cX9_edgeBelow 4 RX9 (some .int) n "edgeBelow") (hn : nfull n) (o_t : ob n t 9) : ∀ (k : Nat) (v3_4 : Int) (v2_4 : Int) (H : Heap) (locs : List Loc) (ls : Array Slot), lq2 (fn_X9_edgeBelow_L4 t a1 M) k v3_4 v2_4 = some o → ST E s n (zf n) M H locs → lv_has ls 4 [(0, .ref (eb E + t)), (1, i3 a1), (2, i3 v2_4), (3, i3 v3_4)] → W p l e { frames := 0, cells := 0, slots := 0, locals := 0 } s m args below meth c H locs 0 0 (MQ below (QC E (some (i3 o)) n (zf n) M) args s 0 0 (fr E)) (F0 m 4 ls []) := by
  intro k
  induction k with
  | zero => intro v3_4 v2_4 H locs ls hf; cases hf
  | succ k ih =>
    intro v3_4 v2_4 H locs ls hf hH hl
    have h_rec4 : ∀ {v3_4 : Int} {v2_4 : Int} {H : Heap} {locs : List Loc} {ls : Array Slot}, lq2 (fn_X9_edgeBelow_L4 t a1 M) k v3_4 v2_4 = some o → ST E s n (zf n) M H locs → lv_has ls 4 [(0, .ref (eb E + t)), (1, i3 a1), (2, i3 v2_4), (3, i3 v3_4)] → W p l e { frames := 0, cells := 0, slots := 0, locals := 0 } s m args below meth c H locs 0 0 (MQ below (QC E (some (i3 o)) n (zf n) M) args s 0 0 (fr E)) (F0 m 4 ls []) := fun {v3_4} {v2_4} {H} {locs} {ls} a b c => ih v3_4 v2_4 H locs ls a b c
    replace hf : fn_X9_edgeBelow_L4 t a1 M (lq2 (fn_X9_edgeBelow_L4 t a1 M) k) v3_4 v2_4 = some o := hf
    generalize lq2 (fn_X9_edgeBelow_L4 t a1 M) k = rec4 at hf h_rec4
    unfold fn_X9_edgeBelow_L4 at hf
    refine lv_iload_n C.hx C.hb dX9_edgeBelow_4 rfl (lv_at hl 3 rfl) ?_
    refine lv_aload_n C.hx C.hb dX9_edgeBelow_5 rfl (lv_at hl 0 rfl) ?_
    refine g_int C hH o_t (by decide) rfl FL_RX9_39 dX9_edgeBelow_6 ?_
    refine w_ge (tgt := 36) C hf dX9_edgeBelow_9 (by decide) (fun hf => ?_) (fun hf => ?_)
    · refine lv_iload_n C.hx C.hb dX9_edgeBelow_36 rfl (lv_at hl 2 rfl) ?_
      cases hf
      exact w_iret C hH dX9_edgeBelow_37
    · refine lv_iload_n C.hx C.hb dX9_edgeBelow_12 rfl (lv_at hl 3 rfl) ?_
      refine lv_bipush (v := Int32.ofInt 21) C.hx C.hb dX9_edgeBelow_13 (by decide) ?_
      refine w_ge (tgt := 36) C hf dX9_edgeBelow_15 (by decide) (fun hf => ?_) (fun hf => ?_)
      · refine lv_iload_n C.hx C.hb dX9_edgeBelow_36 rfl (lv_at hl 2 rfl) ?_
        cases hf
        exact w_iret C hH dX9_edgeBelow_37
      · refine lv_aload_n C.hx C.hb dX9_edgeBelow_18 rfl (lv_at hl 0 rfl) ?_
        refine g_ref (off := 2) C hH o_t (by decide) rfl rfl FL_RX9_15 dX9_edgeBelow_19 ?_
        refine lv_iload_n C.hx C.hb dX9_edgeBelow_22 rfl (lv_at hl 3 rfl) ?_
        refine r_iald C hH (ly (i := 1) (off := 2) (k := 12) hn o_t rfl rfl rfl) (lyn (i := 1) (off := 2) (N := 20) hn o_t rfl rfl rfl) hf dX9_edgeBelow_23 (fun x23 hf => ?_)
        refine lv_iload_n C.hx C.hb dX9_edgeBelow_24 rfl (lv_at hl 1 rfl) ?_
        refine w_gt (tgt := 30) C hf dX9_edgeBelow_25 (by decide) (fun hf => ?_) (fun hf => ?_)
        · exact j_X9_edgeBelow_30 C hn o_t h_rec4 hf hH (lv_sub hl [0, 1, 2, 3] rfl)
        · refine lv_iload_n C.hx C.hb dX9_edgeBelow_28 rfl (lv_at hl 3 rfl) ?_
          refine lv_istore_n (lv' := [(2, i3 v3_4), (0, .ref (eb E + t)), (1, i3 a1), (3, i3 v3_4)]) C.hx C.hb dX9_edgeBelow_29 rfl hl (by decide) rfl (fun ls hl => ?_)
          exact j_X9_edgeBelow_30 C hn o_t h_rec4 hf hH (lv_sub hl [1, 2, 0, 3] rfl)
set_option maxRecDepth 100000 in
set_option maxHeartbeats 4000000 in
theorem m_X9_edgeBelow {E : EE} {l : Launch} {n : Nat} {t : Nat} {a1 : Int} {M : Mem} {o : Int} (hn : nfull n) (o_t : ob n t 9) (hf : fn_X9_edgeBelow t a1 M = some o) : CT E l yX9_edgeBelow cX9_edgeBelow 4 (some .int) 0 0 0 0 [.ref (eb E + t), i3 a1] n (zf n) M (some (i3 o)) n (zf n) M := by
  refine CT_of PN_RX9 (Nat.le_of_ble_eq_true rfl) ?_
  intro p e s m args below meth c C hH ls hl
  replace C : Cx E p s m args meth c cX9_edgeBelow 4 RX9 (some .int) n "edgeBelow" := C
  have hl : lv_has ls 4 [(0, .ref (eb E + t)), (1, i3 a1)] := hl
  unfold fn_X9_edgeBelow at hf
  refine lv_iconst (v := Int32.ofInt 0) C.hx C.hb dX9_edgeBelow_0 rfl ?_
  refine lv_istore_n (lv' := [(2, i3 0), (0, .ref (eb E + t)), (1, i3 a1)]) C.hx C.hb dX9_edgeBelow_1 rfl hl (by decide) rfl (fun ls hl => ?_)
  refine lv_iconst (v := Int32.ofInt 0) C.hx C.hb dX9_edgeBelow_2 rfl ?_
  refine lv_istore_n (lv' := [(3, i3 0), (2, i3 0), (0, .ref (eb E + t)), (1, i3 a1)]) C.hx C.hb dX9_edgeBelow_3 rfl hl (by decide) rfl (fun ls hl => ?_)
  exact l_X9_edgeBelow_4 C hn o_t FU _ _ _ _ _ hf hH (lv_sub hl [2, 3, 1, 0] rfl)
-- HeavierByHand$Trays.addEdge
def fn_X9_addEdge_J72 (t : Nat) (a1 : Int) (v2_9 : Int) (M72 : Mem) : Option Mem :=
  wr M72 (t + 2) 21 v2_9 a1 fun M78 => st M78 t 2 ((M78 t 2) + 1) fun M86 => some M86
def fn_X9_addEdge_L47 (t : Nat) (a1 : Int) (v2_9 : Int) (rec47 : Int → Mem → Option Mem) (v3_47 : Int) (M47 : Mem) : Option Mem :=
  cLt v2_9 v3_47 (rd M47 (t + 2) 21 (v3_47 - 1) fun x64 => wr M47 (t + 2) 21 v3_47 x64 fun M65 => nm (v3_47 + (-1)) fun v3_66 => rec47 v3_66 M65) (fn_X9_addEdge_J72 t a1 v2_9 M47)
def fn_X9_addEdge_J42 (t : Nat) (a1 : Int) (M : Mem) (v2_9 : Int) : Option Mem :=
  nm ((M t 2)) fun v3_46 => lq2 (fn_X9_addEdge_L47 t a1 v2_9) FU v3_46 M
def fn_X9_addEdge (t : Nat) (a1 : Int) (M : Mem) : Option Mem :=
  cu (fn_X9_edgeBelow t (a1 - 1) M) fun x4 => nm ((x4 + 1)) fun v2_9 => cLt (M t 2) 21 (cLt v2_9 0 (some M) (cLt v2_9 (M t 2) (rd M (t + 2) 21 v2_9 fun x36 => cEq x36 a1 (some M) (fn_X9_addEdge_J42 t a1 M v2_9)) (fn_X9_addEdge_J42 t a1 M v2_9))) (some M)
set_option maxRecDepth 100000 in
set_option maxHeartbeats 4000000 in
theorem j_X9_addEdge_72 {p : Program} {l : Launch} {e : Env} {s : State} {m : MethodId} {args : Array Value} {below : List Frame} {meth : Method} {c : Code} {E : EE} {n : Nat} {o : Mem} {t : Nat} {a1 : Int} {v2_9 : Int} {M72 : Mem} {H : Heap} {locs : List Loc} {ls : Array Slot} (C : Cx E p s m args meth c cX9_addEdge 4 RX9 none n "addEdge") (hn : nfull n) (o_t : ob n t 9) (hf : fn_X9_addEdge_J72 t a1 v2_9 M72 = some o) (hH : ST E s n (zf n) M72 H locs) (hl : lv_has ls 4 [(0, .ref (eb E + t)), (1, i3 a1), (2, i3 v2_9)]) : W p l e { frames := 1, cells := 0, slots := 0, locals := 23 } s m args below meth c H locs 0 0 (MQ below (QC E none n (zf n) o) args s 0 0 (fr E)) (F0 m 72 ls []) := by
  unfold fn_X9_addEdge_J72 at hf
  refine lv_aload_n C.hx C.hb dX9_addEdge_72 rfl (lv_at hl 0 rfl) ?_
  refine g_ref (off := 2) C hH o_t (by decide) rfl rfl FL_RX9_15 dX9_addEdge_73 ?_
  refine lv_iload_n C.hx C.hb dX9_addEdge_76 rfl (lv_at hl 2 rfl) ?_
  refine lv_iload_n C.hx C.hb dX9_addEdge_77 rfl (lv_at hl 1 rfl) ?_
  refine r_iast C hH (ly (i := 1) (off := 2) (k := 12) hn o_t rfl rfl rfl) (lyn (i := 1) (off := 2) (N := 20) hn o_t rfl rfl rfl) hf dX9_addEdge_78 (fun M78 H locs hf hH => ?_)
  refine lv_aload_n C.hx C.hb dX9_addEdge_79 rfl (lv_at hl 0 rfl) ?_
  refine lv_dup C.hx C.hb dX9_addEdge_80 rfl ?_
  refine g_int C hH o_t (by decide) rfl FL_RX9_39 dX9_addEdge_81 ?_
  refine lv_iconst (v := Int32.ofInt 1) C.hx C.hb dX9_addEdge_84 rfl ?_
  refine w_iadd C dX9_addEdge_85 ?_
  refine r_put C hH o_t (by decide) rfl FL_RX9_39 FW_9_2 hf dX9_addEdge_86 (fun M86 H locs hf hH => ?_)
  cases hf
  exact w_vret C hH dX9_addEdge_89
set_option maxRecDepth 100000 in
set_option maxHeartbeats 4000000 in
theorem l_X9_addEdge_47 {p : Program} {l : Launch} {e : Env} {s : State} {m : MethodId} {args : Array Value} {below : List Frame} {meth : Method} {c : Code} {E : EE} {n : Nat} {o : Mem} {t : Nat} {a1 : Int} {v2_9 : Int} (C : Cx E p s m args meth c cX9_addEdge 4 RX9 none n "addEdge") (hn : nfull n) (o_t : ob n t 9) : ∀ (k : Nat) (v3_47 : Int) (M47 : Mem) (H : Heap) (locs : List Loc) (ls : Array Slot), lq2 (fn_X9_addEdge_L47 t a1 v2_9) k v3_47 M47 = some o → ST E s n (zf n) M47 H locs → lv_has ls 4 [(0, .ref (eb E + t)), (1, i3 a1), (2, i3 v2_9), (3, i3 v3_47)] → W p l e { frames := 1, cells := 0, slots := 0, locals := 23 } s m args below meth c H locs 0 0 (MQ below (QC E none n (zf n) o) args s 0 0 (fr E)) (F0 m 47 ls []) := by
  intro k
  induction k with
  | zero => intro v3_47 M47 H locs ls hf; cases hf
  | succ k ih =>
    intro v3_47 M47 H locs ls hf hH hl
    have h_rec47 : ∀ {v3_47 : Int} {M47 : Mem} {H : Heap} {locs : List Loc} {ls : Array Slot}, lq2 (fn_X9_addEdge_L47 t a1 v2_9) k v3_47 M47 = some o → ST E s n (zf n) M47 H locs → lv_has ls 4 [(0, .ref (eb E + t)), (1, i3 a1), (2, i3 v2_9), (3, i3 v3_47)] → W p l e { frames := 1, cells := 0, slots := 0, locals := 23 } s m args below meth c H locs 0 0 (MQ below (QC E none n (zf n) o) args s 0 0 (fr E)) (F0 m 47 ls []) := fun {v3_47} {M47} {H} {locs} {ls} a b c => ih v3_47 M47 H locs ls a b c
    replace hf : fn_X9_addEdge_L47 t a1 v2_9 (lq2 (fn_X9_addEdge_L47 t a1 v2_9) k) v3_47 M47 = some o := hf
    generalize lq2 (fn_X9_addEdge_L47 t a1 v2_9) k = rec47 at hf h_rec47
    unfold fn_X9_addEdge_L47 at hf
    refine lv_iload_n C.hx C.hb dX9_addEdge_47 rfl (lv_at hl 3 rfl) ?_
    refine lv_iload_n C.hx C.hb dX9_addEdge_48 rfl (lv_at hl 2 rfl) ?_
    refine w_le (tgt := 72) C hf dX9_addEdge_49 (by decide) (fun hf => ?_) (fun hf => ?_)
    · exact j_X9_addEdge_72 C hn o_t hf hH (lv_sub hl [0, 1, 2] rfl)
    · refine lv_aload_n C.hx C.hb dX9_addEdge_52 rfl (lv_at hl 0 rfl) ?_
      refine g_ref (off := 2) C hH o_t (by decide) rfl rfl FL_RX9_15 dX9_addEdge_53 ?_
      refine lv_iload_n C.hx C.hb dX9_addEdge_56 rfl (lv_at hl 3 rfl) ?_
      refine lv_aload_n C.hx C.hb dX9_addEdge_57 rfl (lv_at hl 0 rfl) ?_
      refine g_ref (off := 2) C hH o_t (by decide) rfl rfl FL_RX9_15 dX9_addEdge_58 ?_
      refine lv_iload_n C.hx C.hb dX9_addEdge_61 rfl (lv_at hl 3 rfl) ?_
      refine lv_iconst (v := Int32.ofInt 1) C.hx C.hb dX9_addEdge_62 rfl ?_
      refine w_isub C dX9_addEdge_63 ?_
      refine r_iald C hH (ly (i := 1) (off := 2) (k := 12) hn o_t rfl rfl rfl) (lyn (i := 1) (off := 2) (N := 20) hn o_t rfl rfl rfl) hf dX9_addEdge_64 (fun x64 hf => ?_)
      refine r_iast C hH (ly (i := 1) (off := 2) (k := 12) hn o_t rfl rfl rfl) (lyn (i := 1) (off := 2) (N := 20) hn o_t rfl rfl rfl) hf dX9_addEdge_65 (fun M65 H locs hf hH => ?_)
      refine r_iinc (k := 3) (lv' := fun v => [(3, i3 v), (0, .ref (eb E + t)), (1, i3 a1), (2, i3 v2_9)]) C hf dX9_addEdge_66 hl rfl (by decide) (fun _ => rfl) (fun v3_66 ls hf hl => ?_)
      refine lv_goto (tgt := 47) C.hx C.hb dX9_addEdge_69 (by decide) ?_
      exact h_rec47 hf hH (lv_sub hl [1, 2, 3, 0] rfl)
set_option maxRecDepth 100000 in
set_option maxHeartbeats 4000000 in
theorem j_X9_addEdge_42 {p : Program} {l : Launch} {e : Env} {s : State} {m : MethodId} {args : Array Value} {below : List Frame} {meth : Method} {c : Code} {E : EE} {n : Nat} {o : Mem} {t : Nat} {a1 : Int} {M : Mem} {v2_9 : Int} {H : Heap} {locs : List Loc} {ls : Array Slot} (C : Cx E p s m args meth c cX9_addEdge 4 RX9 none n "addEdge") (hn : nfull n) (o_t : ob n t 9) (hf : fn_X9_addEdge_J42 t a1 M v2_9 = some o) (hH : ST E s n (zf n) M H locs) (hl : lv_has ls 4 [(0, .ref (eb E + t)), (1, i3 a1), (2, i3 v2_9)]) : W p l e { frames := 1, cells := 0, slots := 0, locals := 23 } s m args below meth c H locs 0 0 (MQ below (QC E none n (zf n) o) args s 0 0 (fr E)) (F0 m 42 ls []) := by
  unfold fn_X9_addEdge_J42 at hf
  refine lv_aload_n C.hx C.hb dX9_addEdge_42 rfl (lv_at hl 0 rfl) ?_
  refine g_int C hH o_t (by decide) rfl FL_RX9_39 dX9_addEdge_43 ?_
  refine r_nm hf (fun v3_46 hf => ?_)
  refine lv_istore_n (lv' := [(3, i3 v3_46), (0, .ref (eb E + t)), (1, i3 a1), (2, i3 v2_9)]) C.hx C.hb dX9_addEdge_46 rfl hl (by decide) rfl (fun ls hl => ?_)
  exact l_X9_addEdge_47 C hn o_t FU _ _ _ _ _ hf hH (lv_sub hl [1, 2, 3, 0] rfl)
set_option maxRecDepth 100000 in
set_option maxHeartbeats 4000000 in
theorem m_X9_addEdge {E : EE} {l : Launch} {n : Nat} {t : Nat} {a1 : Int} {M : Mem} {o : Mem} (hn : nfull n) (o_t : ob n t 9) (hf : fn_X9_addEdge t a1 M = some o) : CT E l yX9_addEdge cX9_addEdge 4 none 1 23 0 0 [.ref (eb E + t), i3 a1] n (zf n) M none n (zf n) o := by
  refine CT_of PN_RX9 (Nat.le_of_ble_eq_true rfl) ?_
  intro p e s m args below meth c C hH ls hl
  replace C : Cx E p s m args meth c cX9_addEdge 4 RX9 none n "addEdge" := C
  have hl : lv_has ls 4 [(0, .ref (eb E + t)), (1, i3 a1)] := hl
  unfold fn_X9_addEdge at hf
  refine lv_aload_n C.hx C.hb dX9_addEdge_0 rfl (lv_at hl 0 rfl) ?_
  refine lv_iload_n C.hx C.hb dX9_addEdge_1 rfl (lv_at hl 1 rfl) ?_
  refine lv_iconst (v := Int32.ofInt 1) C.hx C.hb dX9_addEdge_2 rfl ?_
  refine w_isub C dX9_addEdge_3 ?_
  obtain ⟨x4, hc9, hf⟩ := cu_of hf
  refine r_callVi (rest := []) C hH hl o_t (by decide) rfl (m_X9_edgeBelow hn o_t hc9) ML_RX9_57 MF_X9_edgeBelow MI_X9_edgeBelow rfl rfl (Nat.le_of_ble_eq_true rfl) ⟨Nat.le_of_ble_eq_true rfl, Nat.le_of_ble_eq_true rfl⟩ ⟨Nat.le_refl _, Nat.le_refl _⟩ dX9_addEdge_4 (fun H locs hH => ?_)
  refine lv_iconst (v := Int32.ofInt 1) C.hx C.hb dX9_addEdge_7 rfl ?_
  refine w_iadd C dX9_addEdge_8 ?_
  refine r_nm hf (fun v2_9 hf => ?_)
  refine lv_istore_n (lv' := [(2, i3 v2_9), (0, .ref (eb E + t)), (1, i3 a1)]) C.hx C.hb dX9_addEdge_9 rfl hl (by decide) rfl (fun ls hl => ?_)
  refine lv_aload_n C.hx C.hb dX9_addEdge_10 rfl (lv_at hl 1 rfl) ?_
  refine g_int C hH o_t (by decide) rfl FL_RX9_39 dX9_addEdge_11 ?_
  refine lv_bipush (v := Int32.ofInt 21) C.hx C.hb dX9_addEdge_14 (by decide) ?_
  refine w_ge (tgt := 41) C hf dX9_addEdge_16 (by decide) (fun hf => ?_) (fun hf => ?_)
  · cases hf
    exact w_vret C hH dX9_addEdge_41
  · refine lv_iload_n C.hx C.hb dX9_addEdge_19 rfl (lv_at hl 0 rfl) ?_
    refine w_lt0 (tgt := 41) C hf dX9_addEdge_20 (by decide) (fun hf => ?_) (fun hf => ?_)
    · cases hf
      exact w_vret C hH dX9_addEdge_41
    · refine lv_iload_n C.hx C.hb dX9_addEdge_23 rfl (lv_at hl 0 rfl) ?_
      refine lv_aload_n C.hx C.hb dX9_addEdge_24 rfl (lv_at hl 1 rfl) ?_
      refine g_int C hH o_t (by decide) rfl FL_RX9_39 dX9_addEdge_25 ?_
      refine w_ge (tgt := 42) C hf dX9_addEdge_28 (by decide) (fun hf => ?_) (fun hf => ?_)
      · exact j_X9_addEdge_42 C hn o_t hf hH (lv_sub hl [1, 2, 0] rfl)
      · refine lv_aload_n C.hx C.hb dX9_addEdge_31 rfl (lv_at hl 1 rfl) ?_
        refine g_ref (off := 2) C hH o_t (by decide) rfl rfl FL_RX9_15 dX9_addEdge_32 ?_
        refine lv_iload_n C.hx C.hb dX9_addEdge_35 rfl (lv_at hl 0 rfl) ?_
        refine r_iald C hH (ly (i := 1) (off := 2) (k := 12) hn o_t rfl rfl rfl) (lyn (i := 1) (off := 2) (N := 20) hn o_t rfl rfl rfl) hf dX9_addEdge_36 (fun x36 hf => ?_)
        refine lv_iload_n C.hx C.hb dX9_addEdge_37 rfl (lv_at hl 2 rfl) ?_
        refine w_ne (tgt := 42) C hf dX9_addEdge_38 (by decide) (fun hf => ?_) (fun hf => ?_)
        · exact j_X9_addEdge_42 C hn o_t hf hH (lv_sub hl [1, 2, 0] rfl)
        · cases hf
          exact w_vret C hH dX9_addEdge_41
-- HeavierByHand$Trays.findEdges
def fn_X9_findEdges_J62 (v2_14 : Int) (rec14 : Int → Mem → Option Mem) (M62 : Mem) : Option Mem :=
  nm (v2_14 + 1) fun v2_62 => rec14 v2_62 M62
def fn_X9_findEdges_L14 (t : Nat) (r1 : Nat) (rec14 : Int → Mem → Option Mem) (v2_14 : Int) (M14 : Mem) : Option Mem :=
  cLt v2_14 (M14 r1 7) (cLt v2_14 20 (rd M14 (r1 + 6) 20 v2_14 fun x33 => cEq x33 (-1) (fn_X9_findEdges_J62 v2_14 rec14 M14) (rd M14 (r1 + 3) 20 v2_14 fun x43 => cLt x43 999 (rd M14 (r1 + 3) 20 v2_14 fun x56 => cv (fn_X9_addEdge t (x56 + 1) M14) fun M59 => fn_X9_findEdges_J62 v2_14 rec14 M59) (fn_X9_findEdges_J62 v2_14 rec14 M14))) (some M14)) (some M14)
def fn_X9_findEdges (t : Nat) (r1 : Nat) (M : Mem) : Option Mem :=
  wr M (t + 2) 21 0 0 fun M6 => st M6 t 2 1 fun M9 => lq2 (fn_X9_findEdges_L14 t r1) FU 0 M9
set_option maxRecDepth 100000 in
set_option maxHeartbeats 4000000 in
theorem j_X9_findEdges_62 {p : Program} {l : Launch} {e : Env} {s : State} {m : MethodId} {args : Array Value} {below : List Frame} {meth : Method} {c : Code} {E : EE} {n : Nat} {o : Mem} {t : Nat} {r1 : Nat} {v2_14 : Int} {rec14 : Int → Mem → Option Mem} {M62 : Mem} {H : Heap} {locs : List Loc} {ls : Array Slot} (C : Cx E p s m args meth c cX9_findEdges 3 RX9 none n "findEdges") (hn : nfull n) (o_t : ob n t 9) (o_r1 : ob n r1 4) (h_rec14 : ∀ {v2_14 : Int} {M14 : Mem} {H : Heap} {locs : List Loc} {ls : Array Slot}, rec14 v2_14 M14 = some o → ST E s n (zf n) M14 H locs → lv_has ls 3 [(0, .ref (eb E + t)), (1, .ref (eb E + r1)), (2, i3 v2_14)] → W p l e { frames := 2, cells := 0, slots := 0, locals := 46 } s m args below meth c H locs 0 0 (MQ below (QC E none n (zf n) o) args s 0 0 (fr E)) (F0 m 14 ls [])) (hf : fn_X9_findEdges_J62 v2_14 rec14 M62 = some o) (hH : ST E s n (zf n) M62 H locs) (hl : lv_has ls 3 [(0, .ref (eb E + t)), (1, .ref (eb E + r1)), (2, i3 v2_14)]) : W p l e { frames := 2, cells := 0, slots := 0, locals := 46 } s m args below meth c H locs 0 0 (MQ below (QC E none n (zf n) o) args s 0 0 (fr E)) (F0 m 62 ls []) := by
  unfold fn_X9_findEdges_J62 at hf
  refine r_iinc (k := 2) (lv' := fun v => [(2, i3 v), (0, .ref (eb E + t)), (1, .ref (eb E + r1))]) C hf dX9_findEdges_62 hl rfl (by decide) (fun _ => rfl) (fun v2_62 ls hf hl => ?_)
  refine lv_goto (tgt := 14) C.hx C.hb dX9_findEdges_65 (by decide) ?_
  exact h_rec14 hf hH (lv_sub hl [1, 2, 0] rfl)
set_option maxRecDepth 100000 in
set_option maxHeartbeats 4000000 in
theorem l_X9_findEdges_14 {p : Program} {l : Launch} {e : Env} {s : State} {m : MethodId} {args : Array Value} {below : List Frame} {meth : Method} {c : Code} {E : EE} {n : Nat} {o : Mem} {t : Nat} {r1 : Nat} (C : Cx E p s m args meth c cX9_findEdges 3 RX9 none n "findEdges") (hn : nfull n) (o_t : ob n t 9) (o_r1 : ob n r1 4) : ∀ (k : Nat) (v2_14 : Int) (M14 : Mem) (H : Heap) (locs : List Loc) (ls : Array Slot), lq2 (fn_X9_findEdges_L14 t r1) k v2_14 M14 = some o → ST E s n (zf n) M14 H locs → lv_has ls 3 [(0, .ref (eb E + t)), (1, .ref (eb E + r1)), (2, i3 v2_14)] → W p l e { frames := 2, cells := 0, slots := 0, locals := 46 } s m args below meth c H locs 0 0 (MQ below (QC E none n (zf n) o) args s 0 0 (fr E)) (F0 m 14 ls []) := by
  intro k
  induction k with
  | zero => intro v2_14 M14 H locs ls hf; cases hf
  | succ k ih =>
    intro v2_14 M14 H locs ls hf hH hl
    have h_rec14 : ∀ {v2_14 : Int} {M14 : Mem} {H : Heap} {locs : List Loc} {ls : Array Slot}, lq2 (fn_X9_findEdges_L14 t r1) k v2_14 M14 = some o → ST E s n (zf n) M14 H locs → lv_has ls 3 [(0, .ref (eb E + t)), (1, .ref (eb E + r1)), (2, i3 v2_14)] → W p l e { frames := 2, cells := 0, slots := 0, locals := 46 } s m args below meth c H locs 0 0 (MQ below (QC E none n (zf n) o) args s 0 0 (fr E)) (F0 m 14 ls []) := fun {v2_14} {M14} {H} {locs} {ls} a b c => ih v2_14 M14 H locs ls a b c
    replace hf : fn_X9_findEdges_L14 t r1 (lq2 (fn_X9_findEdges_L14 t r1) k) v2_14 M14 = some o := hf
    generalize lq2 (fn_X9_findEdges_L14 t r1) k = rec14 at hf h_rec14
    unfold fn_X9_findEdges_L14 at hf
    refine lv_iload_n C.hx C.hb dX9_findEdges_14 rfl (lv_at hl 2 rfl) ?_
    refine lv_aload_n C.hx C.hb dX9_findEdges_15 rfl (lv_at hl 1 rfl) ?_
    refine g_int C hH o_r1 (by decide) rfl FL_RX9_43 dX9_findEdges_16 ?_
    refine w_ge (tgt := 68) C hf dX9_findEdges_19 (by decide) (fun hf => ?_) (fun hf => ?_)
    · cases hf
      exact w_vret C hH dX9_findEdges_68
    · refine lv_iload_n C.hx C.hb dX9_findEdges_22 rfl (lv_at hl 2 rfl) ?_
      refine lv_bipush (v := Int32.ofInt 20) C.hx C.hb dX9_findEdges_23 (by decide) ?_
      refine w_ge (tgt := 68) C hf dX9_findEdges_25 (by decide) (fun hf => ?_) (fun hf => ?_)
      · cases hf
        exact w_vret C hH dX9_findEdges_68
      · refine lv_aload_n C.hx C.hb dX9_findEdges_28 rfl (lv_at hl 1 rfl) ?_
        refine g_ref (off := 6) C hH o_r1 (by decide) rfl rfl FL_RX9_48 dX9_findEdges_29 ?_
        refine lv_iload_n C.hx C.hb dX9_findEdges_32 rfl (lv_at hl 2 rfl) ?_
        refine r_iald C hH (ly (i := 6) (off := 6) (k := 12) hn o_r1 rfl rfl rfl) (lyn (i := 6) (off := 6) (N := 19) hn o_r1 rfl rfl rfl) hf dX9_findEdges_33 (fun x33 hf => ?_)
        refine lv_iconst (v := Int32.ofInt (-1)) C.hx C.hb dX9_findEdges_34 rfl ?_
        refine w_eq (tgt := 62) C hf dX9_findEdges_35 (by decide) (fun hf => ?_) (fun hf => ?_)
        · exact j_X9_findEdges_62 C hn o_t o_r1 h_rec14 hf hH (lv_sub hl [0, 1, 2] rfl)
        · refine lv_aload_n C.hx C.hb dX9_findEdges_38 rfl (lv_at hl 1 rfl) ?_
          refine g_ref (off := 3) C hH o_r1 (by decide) rfl rfl FL_RX9_51 dX9_findEdges_39 ?_
          refine lv_iload_n C.hx C.hb dX9_findEdges_42 rfl (lv_at hl 2 rfl) ?_
          refine r_iald C hH (ly (i := 3) (off := 3) (k := 12) hn o_r1 rfl rfl rfl) (lyn (i := 3) (off := 3) (N := 19) hn o_r1 rfl rfl rfl) hf dX9_findEdges_43 (fun x43 hf => ?_)
          refine lv_sipush (v := Int32.ofInt 999) C.hx C.hb dX9_findEdges_44 (by decide) ?_
          refine w_ge (tgt := 62) C hf dX9_findEdges_47 (by decide) (fun hf => ?_) (fun hf => ?_)
          · exact j_X9_findEdges_62 C hn o_t o_r1 h_rec14 hf hH (lv_sub hl [0, 1, 2] rfl)
          · refine lv_aload_n C.hx C.hb dX9_findEdges_50 rfl (lv_at hl 0 rfl) ?_
            refine lv_aload_n C.hx C.hb dX9_findEdges_51 rfl (lv_at hl 1 rfl) ?_
            refine g_ref (off := 3) C hH o_r1 (by decide) rfl rfl FL_RX9_51 dX9_findEdges_52 ?_
            refine lv_iload_n C.hx C.hb dX9_findEdges_55 rfl (lv_at hl 2 rfl) ?_
            refine r_iald C hH (ly (i := 3) (off := 3) (k := 12) hn o_r1 rfl rfl rfl) (lyn (i := 3) (off := 3) (N := 19) hn o_r1 rfl rfl rfl) hf dX9_findEdges_56 (fun x56 hf => ?_)
            refine lv_iconst (v := Int32.ofInt 1) C.hx C.hb dX9_findEdges_57 rfl ?_
            refine w_iadd C dX9_findEdges_58 ?_
            obtain ⟨M59, hc9, hf⟩ := cv_of hf
            refine r_callVv (rest := []) C hH hl o_t (by decide) rfl (m_X9_addEdge hn o_t hc9) ML_RX9_54 MF_X9_addEdge MI_X9_addEdge rfl rfl (Nat.le_of_ble_eq_true rfl) ⟨Nat.le_of_ble_eq_true rfl, Nat.le_of_ble_eq_true rfl⟩ ⟨Nat.le_refl _, Nat.le_refl _⟩ dX9_findEdges_59 (fun H locs hH => ?_)
            exact j_X9_findEdges_62 C hn o_t o_r1 h_rec14 hf hH (lv_sub hl [0, 1, 2] rfl)
set_option maxRecDepth 100000 in
set_option maxHeartbeats 4000000 in
theorem m_X9_findEdges {E : EE} {l : Launch} {n : Nat} {t : Nat} {r1 : Nat} {M : Mem} {o : Mem} (hn : nfull n) (o_t : ob n t 9) (o_r1 : ob n r1 4) (hf : fn_X9_findEdges t r1 M = some o) : CT E l yX9_findEdges cX9_findEdges 3 none 2 46 0 0 [.ref (eb E + t), .ref (eb E + r1)] n (zf n) M none n (zf n) o := by
  refine CT_of PN_RX9 (Nat.le_of_ble_eq_true rfl) ?_
  intro p e s m args below meth c C hH ls hl
  replace C : Cx E p s m args meth c cX9_findEdges 3 RX9 none n "findEdges" := C
  have hl : lv_has ls 3 [(0, .ref (eb E + t)), (1, .ref (eb E + r1))] := hl
  unfold fn_X9_findEdges at hf
  refine lv_aload_n C.hx C.hb dX9_findEdges_0 rfl (lv_at hl 0 rfl) ?_
  refine g_ref (off := 2) C hH o_t (by decide) rfl rfl FL_RX9_15 dX9_findEdges_1 ?_
  refine lv_iconst (v := Int32.ofInt 0) C.hx C.hb dX9_findEdges_4 rfl ?_
  refine lv_iconst (v := Int32.ofInt 0) C.hx C.hb dX9_findEdges_5 rfl ?_
  refine r_iast C hH (ly (i := 1) (off := 2) (k := 12) hn o_t rfl rfl rfl) (lyn (i := 1) (off := 2) (N := 20) hn o_t rfl rfl rfl) hf dX9_findEdges_6 (fun M6 H locs hf hH => ?_)
  refine lv_aload_n C.hx C.hb dX9_findEdges_7 rfl (lv_at hl 0 rfl) ?_
  refine lv_iconst (v := Int32.ofInt 1) C.hx C.hb dX9_findEdges_8 rfl ?_
  refine r_put C hH o_t (by decide) rfl FL_RX9_39 FW_9_2 hf dX9_findEdges_9 (fun M9 H locs hf hH => ?_)
  refine lv_iconst (v := Int32.ofInt 0) C.hx C.hb dX9_findEdges_12 rfl ?_
  refine lv_istore_n (lv' := [(2, i3 0), (0, .ref (eb E + t)), (1, .ref (eb E + r1))]) C.hx C.hb dX9_findEdges_13 rfl hl (by decide) rfl (fun ls hl => ?_)
  exact l_X9_findEdges_14 C hn o_t o_r1 FU _ _ _ _ _ hf hH (lv_sub hl [1, 2, 0] rfl)
-- HeavierByHand$Trays.countWrong
def fn_X9_countWrong_J125 (v3_26 : Int) (rec26 : Int → Mem → Option Mem) (M125 : Mem) : Option Mem :=
  nm (v3_26 + 1) fun v3_125 => rec26 v3_125 M125
def fn_X9_countWrong_J119 (v5_58 : Int) (rec58 : Int → Mem → Option Mem) (M119 : Mem) : Option Mem :=
  nm (v5_58 + 1) fun v5_119 => rec58 v5_119 M119
def fn_X9_countWrong_L58 (t : Nat) (r1 : Nat) (a2 : Int) (v3_26 : Int) (rec26 : Int → Mem → Option Mem) (v4_53 : Int) (rec58 : Int → Mem → Option Mem) (v5_58 : Int) (M58 : Mem) : Option Mem :=
  cLt v5_58 a2 (cLt v5_58 6 (rd M58 (r1 + 6) 20 v3_26 fun x76 => cEq x76 (-1) (fn_X9_countWrong_J119 v5_58 rec58 M58) (rd M58 (r1 + 6) 20 v3_26 fun x86 => cEq x86 v5_58 (fn_X9_countWrong_J119 v5_58 rec58 M58) (cLt (v4_53 + v5_58) ((126 : Nat) : Int) (rd M58 (t + 3) 126 (v4_53 + v5_58) fun x115 => wr M58 (t + 3) 126 (v4_53 + v5_58) (x115 + 1) fun M118 => fn_X9_countWrong_J119 v5_58 rec58 M118) (fn_X9_countWrong_J119 v5_58 rec58 M58)))) (fn_X9_countWrong_J125 v3_26 rec26 M58)) (fn_X9_countWrong_J125 v3_26 rec26 M58)
def fn_X9_countWrong_L26 (t : Nat) (r1 : Nat) (a2 : Int) (rec26 : Int → Mem → Option Mem) (v3_26 : Int) (M26 : Mem) : Option Mem :=
  cLt v3_26 (M26 r1 7) (cLt v3_26 20 (rd M26 (r1 + 3) 20 v3_26 fun x46 => cu (fn_X9_edgeBelow t x46 M26) fun x47 => nm ((x47 * 6)) fun v4_53 => lq2 (fn_X9_countWrong_L58 t r1 a2 v3_26 rec26 v4_53) FU 0 M26) (some M26)) (some M26)
def fn_X9_countWrong_J24 (t : Nat) (r1 : Nat) (a2 : Int) (M24 : Mem) : Option Mem :=
  lq2 (fn_X9_countWrong_L26 t r1 a2) FU 0 M24
def fn_X9_countWrong_L2 (t : Nat) (r1 : Nat) (a2 : Int) (rec2 : Int → Mem → Option Mem) (v3_2 : Int) (M2 : Mem) : Option Mem :=
  cLt v3_2 ((126 : Nat) : Int) (wr M2 (t + 3) 126 v3_2 0 fun M17 => nm (v3_2 + 1) fun v3_18 => rec2 v3_18 M17) (fn_X9_countWrong_J24 t r1 a2 M2)
def fn_X9_countWrong (t : Nat) (r1 : Nat) (a2 : Int) (M : Mem) : Option Mem :=
  lq2 (fn_X9_countWrong_L2 t r1 a2) FU 0 M
set_option maxRecDepth 100000 in
set_option maxHeartbeats 4000000 in
theorem j_X9_countWrong_125 {p : Program} {l : Launch} {e : Env} {s : State} {m : MethodId} {args : Array Value} {below : List Frame} {meth : Method} {c : Code} {E : EE} {n : Nat} {o : Mem} {t : Nat} {r1 : Nat} {a2 : Int} {v3_26 : Int} {rec26 : Int → Mem → Option Mem} {M125 : Mem} {H : Heap} {locs : List Loc} {ls : Array Slot} (C : Cx E p s m args meth c cX9_countWrong 6 RX9 none n "countWrong") (hn : nfull n) (o_t : ob n t 9) (o_r1 : ob n r1 4) (h_rec26 : ∀ {v3_26 : Int} {M26 : Mem} {H : Heap} {locs : List Loc} {ls : Array Slot}, rec26 v3_26 M26 = some o → ST E s n (zf n) M26 H locs → lv_has ls 6 [(0, .ref (eb E + t)), (1, .ref (eb E + r1)), (2, i3 a2), (3, i3 v3_26)] → W p l e { frames := 1, cells := 0, slots := 0, locals := 23 } s m args below meth c H locs 0 0 (MQ below (QC E none n (zf n) o) args s 0 0 (fr E)) (F0 m 26 ls [])) (hf : fn_X9_countWrong_J125 v3_26 rec26 M125 = some o) (hH : ST E s n (zf n) M125 H locs) (hl : lv_has ls 6 [(0, .ref (eb E + t)), (1, .ref (eb E + r1)), (2, i3 a2), (3, i3 v3_26)]) : W p l e { frames := 1, cells := 0, slots := 0, locals := 23 } s m args below meth c H locs 0 0 (MQ below (QC E none n (zf n) o) args s 0 0 (fr E)) (F0 m 125 ls []) := by
  unfold fn_X9_countWrong_J125 at hf
  refine r_iinc (k := 3) (lv' := fun v => [(3, i3 v), (0, .ref (eb E + t)), (1, .ref (eb E + r1)), (2, i3 a2)]) C hf dX9_countWrong_125 hl rfl (by decide) (fun _ => rfl) (fun v3_125 ls hf hl => ?_)
  refine lv_goto (tgt := 26) C.hx C.hb dX9_countWrong_128 (by decide) ?_
  exact h_rec26 hf hH (lv_sub hl [1, 2, 3, 0] rfl)
set_option maxRecDepth 100000 in
set_option maxHeartbeats 4000000 in
theorem j_X9_countWrong_119 {p : Program} {l : Launch} {e : Env} {s : State} {m : MethodId} {args : Array Value} {below : List Frame} {meth : Method} {c : Code} {E : EE} {n : Nat} {o : Mem} {t : Nat} {r1 : Nat} {a2 : Int} {v3_26 : Int} {v4_53 : Int} {v5_58 : Int} {rec58 : Int → Mem → Option Mem} {M119 : Mem} {H : Heap} {locs : List Loc} {ls : Array Slot} (C : Cx E p s m args meth c cX9_countWrong 6 RX9 none n "countWrong") (hn : nfull n) (o_t : ob n t 9) (o_r1 : ob n r1 4) (h_rec58 : ∀ {v5_58 : Int} {M58 : Mem} {H : Heap} {locs : List Loc} {ls : Array Slot}, rec58 v5_58 M58 = some o → ST E s n (zf n) M58 H locs → lv_has ls 6 [(0, .ref (eb E + t)), (1, .ref (eb E + r1)), (2, i3 a2), (3, i3 v3_26), (4, i3 v4_53), (5, i3 v5_58)] → W p l e { frames := 1, cells := 0, slots := 0, locals := 23 } s m args below meth c H locs 0 0 (MQ below (QC E none n (zf n) o) args s 0 0 (fr E)) (F0 m 58 ls [])) (hf : fn_X9_countWrong_J119 v5_58 rec58 M119 = some o) (hH : ST E s n (zf n) M119 H locs) (hl : lv_has ls 6 [(0, .ref (eb E + t)), (1, .ref (eb E + r1)), (2, i3 a2), (3, i3 v3_26), (4, i3 v4_53), (5, i3 v5_58)]) : W p l e { frames := 1, cells := 0, slots := 0, locals := 23 } s m args below meth c H locs 0 0 (MQ below (QC E none n (zf n) o) args s 0 0 (fr E)) (F0 m 119 ls []) := by
  unfold fn_X9_countWrong_J119 at hf
  refine r_iinc (k := 5) (lv' := fun v => [(5, i3 v), (0, .ref (eb E + t)), (1, .ref (eb E + r1)), (2, i3 a2), (3, i3 v3_26), (4, i3 v4_53)]) C hf dX9_countWrong_119 hl rfl (by decide) (fun _ => rfl) (fun v5_119 ls hf hl => ?_)
  refine lv_goto (tgt := 58) C.hx C.hb dX9_countWrong_122 (by decide) ?_
  exact h_rec58 hf hH (lv_sub hl [1, 2, 3, 4, 5, 0] rfl)
set_option maxRecDepth 100000 in
set_option maxHeartbeats 4000000 in
theorem l_X9_countWrong_58 {p : Program} {l : Launch} {e : Env} {s : State} {m : MethodId} {args : Array Value} {below : List Frame} {meth : Method} {c : Code} {E : EE} {n : Nat} {o : Mem} {t : Nat} {r1 : Nat} {a2 : Int} {v3_26 : Int} {rec26 : Int → Mem → Option Mem} {v4_53 : Int} (C : Cx E p s m args meth c cX9_countWrong 6 RX9 none n "countWrong") (hn : nfull n) (o_t : ob n t 9) (o_r1 : ob n r1 4) (h_rec26 : ∀ {v3_26 : Int} {M26 : Mem} {H : Heap} {locs : List Loc} {ls : Array Slot}, rec26 v3_26 M26 = some o → ST E s n (zf n) M26 H locs → lv_has ls 6 [(0, .ref (eb E + t)), (1, .ref (eb E + r1)), (2, i3 a2), (3, i3 v3_26)] → W p l e { frames := 1, cells := 0, slots := 0, locals := 23 } s m args below meth c H locs 0 0 (MQ below (QC E none n (zf n) o) args s 0 0 (fr E)) (F0 m 26 ls [])) : ∀ (k : Nat) (v5_58 : Int) (M58 : Mem) (H : Heap) (locs : List Loc) (ls : Array Slot), lq2 (fn_X9_countWrong_L58 t r1 a2 v3_26 rec26 v4_53) k v5_58 M58 = some o → ST E s n (zf n) M58 H locs → lv_has ls 6 [(0, .ref (eb E + t)), (1, .ref (eb E + r1)), (2, i3 a2), (3, i3 v3_26), (4, i3 v4_53), (5, i3 v5_58)] → W p l e { frames := 1, cells := 0, slots := 0, locals := 23 } s m args below meth c H locs 0 0 (MQ below (QC E none n (zf n) o) args s 0 0 (fr E)) (F0 m 58 ls []) := by
  intro k
  induction k with
  | zero => intro v5_58 M58 H locs ls hf; cases hf
  | succ k ih =>
    intro v5_58 M58 H locs ls hf hH hl
    have h_rec58 : ∀ {v5_58 : Int} {M58 : Mem} {H : Heap} {locs : List Loc} {ls : Array Slot}, lq2 (fn_X9_countWrong_L58 t r1 a2 v3_26 rec26 v4_53) k v5_58 M58 = some o → ST E s n (zf n) M58 H locs → lv_has ls 6 [(0, .ref (eb E + t)), (1, .ref (eb E + r1)), (2, i3 a2), (3, i3 v3_26), (4, i3 v4_53), (5, i3 v5_58)] → W p l e { frames := 1, cells := 0, slots := 0, locals := 23 } s m args below meth c H locs 0 0 (MQ below (QC E none n (zf n) o) args s 0 0 (fr E)) (F0 m 58 ls []) := fun {v5_58} {M58} {H} {locs} {ls} a b c => ih v5_58 M58 H locs ls a b c
    replace hf : fn_X9_countWrong_L58 t r1 a2 v3_26 rec26 v4_53 (lq2 (fn_X9_countWrong_L58 t r1 a2 v3_26 rec26 v4_53) k) v5_58 M58 = some o := hf
    generalize lq2 (fn_X9_countWrong_L58 t r1 a2 v3_26 rec26 v4_53) k = rec58 at hf h_rec58
    unfold fn_X9_countWrong_L58 at hf
    refine lv_iload C.hx C.hb dX9_countWrong_58 (lv_at hl 5 rfl) ?_
    refine lv_iload_n C.hx C.hb dX9_countWrong_60 rfl (lv_at hl 2 rfl) ?_
    refine w_ge (tgt := 125) C hf dX9_countWrong_61 (by decide) (fun hf => ?_) (fun hf => ?_)
    · exact j_X9_countWrong_125 C hn o_t o_r1 h_rec26 hf hH (lv_sub hl [0, 1, 2, 3] rfl)
    · refine lv_iload C.hx C.hb dX9_countWrong_64 (lv_at hl 5 rfl) ?_
      refine lv_bipush (v := Int32.ofInt 6) C.hx C.hb dX9_countWrong_66 (by decide) ?_
      refine w_ge (tgt := 125) C hf dX9_countWrong_68 (by decide) (fun hf => ?_) (fun hf => ?_)
      · exact j_X9_countWrong_125 C hn o_t o_r1 h_rec26 hf hH (lv_sub hl [0, 1, 2, 3] rfl)
      · refine lv_aload_n C.hx C.hb dX9_countWrong_71 rfl (lv_at hl 1 rfl) ?_
        refine g_ref (off := 6) C hH o_r1 (by decide) rfl rfl FL_RX9_48 dX9_countWrong_72 ?_
        refine lv_iload_n C.hx C.hb dX9_countWrong_75 rfl (lv_at hl 3 rfl) ?_
        refine r_iald C hH (ly (i := 6) (off := 6) (k := 12) hn o_r1 rfl rfl rfl) (lyn (i := 6) (off := 6) (N := 19) hn o_r1 rfl rfl rfl) hf dX9_countWrong_76 (fun x76 hf => ?_)
        refine lv_iconst (v := Int32.ofInt (-1)) C.hx C.hb dX9_countWrong_77 rfl ?_
        refine w_eq (tgt := 119) C hf dX9_countWrong_78 (by decide) (fun hf => ?_) (fun hf => ?_)
        · exact j_X9_countWrong_119 C hn o_t o_r1 h_rec58 hf hH (lv_sub hl [0, 1, 2, 3, 4, 5] rfl)
        · refine lv_aload_n C.hx C.hb dX9_countWrong_81 rfl (lv_at hl 1 rfl) ?_
          refine g_ref (off := 6) C hH o_r1 (by decide) rfl rfl FL_RX9_48 dX9_countWrong_82 ?_
          refine lv_iload_n C.hx C.hb dX9_countWrong_85 rfl (lv_at hl 3 rfl) ?_
          refine r_iald C hH (ly (i := 6) (off := 6) (k := 12) hn o_r1 rfl rfl rfl) (lyn (i := 6) (off := 6) (N := 19) hn o_r1 rfl rfl rfl) hf dX9_countWrong_86 (fun x86 hf => ?_)
          refine lv_iload C.hx C.hb dX9_countWrong_87 (lv_at hl 5 rfl) ?_
          refine w_eq (tgt := 119) C hf dX9_countWrong_89 (by decide) (fun hf => ?_) (fun hf => ?_)
          · exact j_X9_countWrong_119 C hn o_t o_r1 h_rec58 hf hH (lv_sub hl [0, 1, 2, 3, 4, 5] rfl)
          · refine lv_iload C.hx C.hb dX9_countWrong_92 (lv_at hl 4 rfl) ?_
            refine lv_iload C.hx C.hb dX9_countWrong_94 (lv_at hl 5 rfl) ?_
            refine w_iadd C dX9_countWrong_96 ?_
            refine lv_aload_n C.hx C.hb dX9_countWrong_97 rfl (lv_at hl 0 rfl) ?_
            refine g_ref (off := 3) C hH o_t (by decide) rfl rfl FL_RX9_18 dX9_countWrong_98 ?_
            refine g_len (N := 126) C hH (ly (i := 3) (off := 3) (k := 12) hn o_t rfl rfl rfl) (by decide) (lyn (i := 3) (off := 3) (N := 125) hn o_t rfl rfl rfl) dX9_countWrong_101 ?_
            refine w_ge (tgt := 119) C hf dX9_countWrong_102 (by decide) (fun hf => ?_) (fun hf => ?_)
            · exact j_X9_countWrong_119 C hn o_t o_r1 h_rec58 hf hH (lv_sub hl [0, 1, 2, 3, 4, 5] rfl)
            · refine lv_aload_n C.hx C.hb dX9_countWrong_105 rfl (lv_at hl 0 rfl) ?_
              refine g_ref (off := 3) C hH o_t (by decide) rfl rfl FL_RX9_18 dX9_countWrong_106 ?_
              refine lv_iload C.hx C.hb dX9_countWrong_109 (lv_at hl 4 rfl) ?_
              refine lv_iload C.hx C.hb dX9_countWrong_111 (lv_at hl 5 rfl) ?_
              refine w_iadd C dX9_countWrong_113 ?_
              refine lv_dup2_11 C.hx C.hb dX9_countWrong_114 rfl rfl ?_
              refine r_iald C hH (ly (i := 3) (off := 3) (k := 12) hn o_t rfl rfl rfl) (lyn (i := 3) (off := 3) (N := 125) hn o_t rfl rfl rfl) hf dX9_countWrong_115 (fun x115 hf => ?_)
              refine lv_iconst (v := Int32.ofInt 1) C.hx C.hb dX9_countWrong_116 rfl ?_
              refine w_iadd C dX9_countWrong_117 ?_
              refine r_iast C hH (ly (i := 3) (off := 3) (k := 12) hn o_t rfl rfl rfl) (lyn (i := 3) (off := 3) (N := 125) hn o_t rfl rfl rfl) hf dX9_countWrong_118 (fun M118 H locs hf hH => ?_)
              exact j_X9_countWrong_119 C hn o_t o_r1 h_rec58 hf hH (lv_sub hl [0, 1, 2, 3, 4, 5] rfl)
set_option maxRecDepth 100000 in
set_option maxHeartbeats 4000000 in
theorem l_X9_countWrong_26 {p : Program} {l : Launch} {e : Env} {s : State} {m : MethodId} {args : Array Value} {below : List Frame} {meth : Method} {c : Code} {E : EE} {n : Nat} {o : Mem} {t : Nat} {r1 : Nat} {a2 : Int} (C : Cx E p s m args meth c cX9_countWrong 6 RX9 none n "countWrong") (hn : nfull n) (o_t : ob n t 9) (o_r1 : ob n r1 4) : ∀ (k : Nat) (v3_26 : Int) (M26 : Mem) (H : Heap) (locs : List Loc) (ls : Array Slot), lq2 (fn_X9_countWrong_L26 t r1 a2) k v3_26 M26 = some o → ST E s n (zf n) M26 H locs → lv_has ls 6 [(0, .ref (eb E + t)), (1, .ref (eb E + r1)), (2, i3 a2), (3, i3 v3_26)] → W p l e { frames := 1, cells := 0, slots := 0, locals := 23 } s m args below meth c H locs 0 0 (MQ below (QC E none n (zf n) o) args s 0 0 (fr E)) (F0 m 26 ls []) := by
  intro k
  induction k with
  | zero => intro v3_26 M26 H locs ls hf; cases hf
  | succ k ih =>
    intro v3_26 M26 H locs ls hf hH hl
    have h_rec26 : ∀ {v3_26 : Int} {M26 : Mem} {H : Heap} {locs : List Loc} {ls : Array Slot}, lq2 (fn_X9_countWrong_L26 t r1 a2) k v3_26 M26 = some o → ST E s n (zf n) M26 H locs → lv_has ls 6 [(0, .ref (eb E + t)), (1, .ref (eb E + r1)), (2, i3 a2), (3, i3 v3_26)] → W p l e { frames := 1, cells := 0, slots := 0, locals := 23 } s m args below meth c H locs 0 0 (MQ below (QC E none n (zf n) o) args s 0 0 (fr E)) (F0 m 26 ls []) := fun {v3_26} {M26} {H} {locs} {ls} a b c => ih v3_26 M26 H locs ls a b c
    replace hf : fn_X9_countWrong_L26 t r1 a2 (lq2 (fn_X9_countWrong_L26 t r1 a2) k) v3_26 M26 = some o := hf
    generalize lq2 (fn_X9_countWrong_L26 t r1 a2) k = rec26 at hf h_rec26
    unfold fn_X9_countWrong_L26 at hf
    refine lv_iload_n C.hx C.hb dX9_countWrong_26 rfl (lv_at hl 3 rfl) ?_
    refine lv_aload_n C.hx C.hb dX9_countWrong_27 rfl (lv_at hl 1 rfl) ?_
    refine g_int C hH o_r1 (by decide) rfl FL_RX9_43 dX9_countWrong_28 ?_
    refine w_ge (tgt := 131) C hf dX9_countWrong_31 (by decide) (fun hf => ?_) (fun hf => ?_)
    · cases hf
      exact w_vret C hH dX9_countWrong_131
    · refine lv_iload_n C.hx C.hb dX9_countWrong_34 rfl (lv_at hl 3 rfl) ?_
      refine lv_bipush (v := Int32.ofInt 20) C.hx C.hb dX9_countWrong_35 (by decide) ?_
      refine w_ge (tgt := 131) C hf dX9_countWrong_37 (by decide) (fun hf => ?_) (fun hf => ?_)
      · cases hf
        exact w_vret C hH dX9_countWrong_131
      · refine lv_aload_n C.hx C.hb dX9_countWrong_40 rfl (lv_at hl 0 rfl) ?_
        refine lv_aload_n C.hx C.hb dX9_countWrong_41 rfl (lv_at hl 1 rfl) ?_
        refine g_ref (off := 3) C hH o_r1 (by decide) rfl rfl FL_RX9_51 dX9_countWrong_42 ?_
        refine lv_iload_n C.hx C.hb dX9_countWrong_45 rfl (lv_at hl 3 rfl) ?_
        refine r_iald C hH (ly (i := 3) (off := 3) (k := 12) hn o_r1 rfl rfl rfl) (lyn (i := 3) (off := 3) (N := 19) hn o_r1 rfl rfl rfl) hf dX9_countWrong_46 (fun x46 hf => ?_)
        obtain ⟨x47, hc9, hf⟩ := cu_of hf
        refine r_callVi (rest := []) C hH hl o_t (by decide) rfl (m_X9_edgeBelow hn o_t hc9) ML_RX9_57 MF_X9_edgeBelow MI_X9_edgeBelow rfl rfl (Nat.le_of_ble_eq_true rfl) ⟨Nat.le_of_ble_eq_true rfl, Nat.le_of_ble_eq_true rfl⟩ ⟨Nat.le_refl _, Nat.le_refl _⟩ dX9_countWrong_47 (fun H locs hH => ?_)
        refine lv_bipush (v := Int32.ofInt 6) C.hx C.hb dX9_countWrong_50 (by decide) ?_
        refine w_imul C dX9_countWrong_52 ?_
        refine r_nm hf (fun v4_53 hf => ?_)
        refine lv_istore (lv' := [(4, i3 v4_53), (0, .ref (eb E + t)), (1, .ref (eb E + r1)), (2, i3 a2), (3, i3 v3_26)]) C.hx C.hb dX9_countWrong_53 hl (by decide) rfl (fun ls hl => ?_)
        refine lv_iconst (v := Int32.ofInt 0) C.hx C.hb dX9_countWrong_55 rfl ?_
        refine lv_istore (lv' := [(5, i3 0), (4, i3 v4_53), (0, .ref (eb E + t)), (1, .ref (eb E + r1)), (2, i3 a2), (3, i3 v3_26)]) C.hx C.hb dX9_countWrong_56 hl (by decide) rfl (fun ls hl => ?_)
        exact l_X9_countWrong_58 C hn o_t o_r1 h_rec26 FU _ _ _ _ _ hf hH (lv_sub hl [2, 3, 4, 5, 1, 0] rfl)
set_option maxRecDepth 100000 in
set_option maxHeartbeats 4000000 in
theorem j_X9_countWrong_24 {p : Program} {l : Launch} {e : Env} {s : State} {m : MethodId} {args : Array Value} {below : List Frame} {meth : Method} {c : Code} {E : EE} {n : Nat} {o : Mem} {t : Nat} {r1 : Nat} {a2 : Int} {M24 : Mem} {H : Heap} {locs : List Loc} {ls : Array Slot} (C : Cx E p s m args meth c cX9_countWrong 6 RX9 none n "countWrong") (hn : nfull n) (o_t : ob n t 9) (o_r1 : ob n r1 4) (hf : fn_X9_countWrong_J24 t r1 a2 M24 = some o) (hH : ST E s n (zf n) M24 H locs) (hl : lv_has ls 6 [(0, .ref (eb E + t)), (1, .ref (eb E + r1)), (2, i3 a2)]) : W p l e { frames := 1, cells := 0, slots := 0, locals := 23 } s m args below meth c H locs 0 0 (MQ below (QC E none n (zf n) o) args s 0 0 (fr E)) (F0 m 24 ls []) := by
  unfold fn_X9_countWrong_J24 at hf
  refine lv_iconst (v := Int32.ofInt 0) C.hx C.hb dX9_countWrong_24 rfl ?_
  refine lv_istore_n (lv' := [(3, i3 0), (0, .ref (eb E + t)), (1, .ref (eb E + r1)), (2, i3 a2)]) C.hx C.hb dX9_countWrong_25 rfl hl (by decide) rfl (fun ls hl => ?_)
  exact l_X9_countWrong_26 C hn o_t o_r1 FU _ _ _ _ _ hf hH (lv_sub hl [1, 2, 3, 0] rfl)
set_option maxRecDepth 100000 in
set_option maxHeartbeats 4000000 in
theorem l_X9_countWrong_2 {p : Program} {l : Launch} {e : Env} {s : State} {m : MethodId} {args : Array Value} {below : List Frame} {meth : Method} {c : Code} {E : EE} {n : Nat} {o : Mem} {t : Nat} {r1 : Nat} {a2 : Int} (C : Cx E p s m args meth c cX9_countWrong 6 RX9 none n "countWrong") (hn : nfull n) (o_t : ob n t 9) (o_r1 : ob n r1 4) : ∀ (k : Nat) (v3_2 : Int) (M2 : Mem) (H : Heap) (locs : List Loc) (ls : Array Slot), lq2 (fn_X9_countWrong_L2 t r1 a2) k v3_2 M2 = some o → ST E s n (zf n) M2 H locs → lv_has ls 6 [(0, .ref (eb E + t)), (1, .ref (eb E + r1)), (2, i3 a2), (3, i3 v3_2)] → W p l e { frames := 1, cells := 0, slots := 0, locals := 23 } s m args below meth c H locs 0 0 (MQ below (QC E none n (zf n) o) args s 0 0 (fr E)) (F0 m 2 ls []) := by
  intro k
  induction k with
  | zero => intro v3_2 M2 H locs ls hf; cases hf
  | succ k ih =>
    intro v3_2 M2 H locs ls hf hH hl
    have h_rec2 : ∀ {v3_2 : Int} {M2 : Mem} {H : Heap} {locs : List Loc} {ls : Array Slot}, lq2 (fn_X9_countWrong_L2 t r1 a2) k v3_2 M2 = some o → ST E s n (zf n) M2 H locs → lv_has ls 6 [(0, .ref (eb E + t)), (1, .ref (eb E + r1)), (2, i3 a2), (3, i3 v3_2)] → W p l e { frames := 1, cells := 0, slots := 0, locals := 23 } s m args below meth c H locs 0 0 (MQ below (QC E none n (zf n) o) args s 0 0 (fr E)) (F0 m 2 ls []) := fun {v3_2} {M2} {H} {locs} {ls} a b c => ih v3_2 M2 H locs ls a b c
    replace hf : fn_X9_countWrong_L2 t r1 a2 (lq2 (fn_X9_countWrong_L2 t r1 a2) k) v3_2 M2 = some o := hf
    generalize lq2 (fn_X9_countWrong_L2 t r1 a2) k = rec2 at hf h_rec2
    unfold fn_X9_countWrong_L2 at hf
    refine lv_iload_n C.hx C.hb dX9_countWrong_2 rfl (lv_at hl 3 rfl) ?_
    refine lv_aload_n C.hx C.hb dX9_countWrong_3 rfl (lv_at hl 0 rfl) ?_
    refine g_ref (off := 3) C hH o_t (by decide) rfl rfl FL_RX9_18 dX9_countWrong_4 ?_
    refine g_len (N := 126) C hH (ly (i := 3) (off := 3) (k := 12) hn o_t rfl rfl rfl) (by decide) (lyn (i := 3) (off := 3) (N := 125) hn o_t rfl rfl rfl) dX9_countWrong_7 ?_
    refine w_ge (tgt := 24) C hf dX9_countWrong_8 (by decide) (fun hf => ?_) (fun hf => ?_)
    · exact j_X9_countWrong_24 C hn o_t o_r1 hf hH (lv_sub hl [0, 1, 2] rfl)
    · refine lv_aload_n C.hx C.hb dX9_countWrong_11 rfl (lv_at hl 0 rfl) ?_
      refine g_ref (off := 3) C hH o_t (by decide) rfl rfl FL_RX9_18 dX9_countWrong_12 ?_
      refine lv_iload_n C.hx C.hb dX9_countWrong_15 rfl (lv_at hl 3 rfl) ?_
      refine lv_iconst (v := Int32.ofInt 0) C.hx C.hb dX9_countWrong_16 rfl ?_
      refine r_iast C hH (ly (i := 3) (off := 3) (k := 12) hn o_t rfl rfl rfl) (lyn (i := 3) (off := 3) (N := 125) hn o_t rfl rfl rfl) hf dX9_countWrong_17 (fun M17 H locs hf hH => ?_)
      refine r_iinc (k := 3) (lv' := fun v => [(3, i3 v), (0, .ref (eb E + t)), (1, .ref (eb E + r1)), (2, i3 a2)]) C hf dX9_countWrong_18 hl rfl (by decide) (fun _ => rfl) (fun v3_18 ls hf hl => ?_)
      refine lv_goto (tgt := 2) C.hx C.hb dX9_countWrong_21 (by decide) ?_
      exact h_rec2 hf hH (lv_sub hl [1, 2, 3, 0] rfl)
set_option maxRecDepth 100000 in
set_option maxHeartbeats 4000000 in
theorem m_X9_countWrong {E : EE} {l : Launch} {n : Nat} {t : Nat} {r1 : Nat} {a2 : Int} {M : Mem} {o : Mem} (hn : nfull n) (o_t : ob n t 9) (o_r1 : ob n r1 4) (hf : fn_X9_countWrong t r1 a2 M = some o) : CT E l yX9_countWrong cX9_countWrong 6 none 1 23 0 0 [.ref (eb E + t), .ref (eb E + r1), i3 a2] n (zf n) M none n (zf n) o := by
  refine CT_of PN_RX9 (Nat.le_of_ble_eq_true rfl) ?_
  intro p e s m args below meth c C hH ls hl
  replace C : Cx E p s m args meth c cX9_countWrong 6 RX9 none n "countWrong" := C
  have hl : lv_has ls 6 [(0, .ref (eb E + t)), (1, .ref (eb E + r1)), (2, i3 a2)] := hl
  unfold fn_X9_countWrong at hf
  refine lv_iconst (v := Int32.ofInt 0) C.hx C.hb dX9_countWrong_0 rfl ?_
  refine lv_istore_n (lv' := [(3, i3 0), (0, .ref (eb E + t)), (1, .ref (eb E + r1)), (2, i3 a2)]) C.hx C.hb dX9_countWrong_1 rfl hl (by decide) rfl (fun ls hl => ?_)
  exact l_X9_countWrong_2 C hn o_t o_r1 FU _ _ _ _ _ hf hH (lv_sub hl [1, 2, 3, 0] rfl)
-- HeavierByHand$Trays.setLeast
def fn_X9_setLeast (t : Nat) (a1 : Int) (a2 : Int) (a3 : Int) (M : Mem) : Option Mem :=
  nm (((a1 * 6) + a2)) fun v4_6 => cLt v4_6 0 (some M) (cLt v4_6 ((132 : Nat) : Int) (wr M (t + 4) 132 v4_6 a3 fun M30 => some M30) (some M))
set_option maxRecDepth 100000 in
set_option maxHeartbeats 4000000 in
theorem m_X9_setLeast {E : EE} {l : Launch} {n : Nat} {t : Nat} {a1 : Int} {a2 : Int} {a3 : Int} {M : Mem} {o : Mem} (hn : nfull n) (o_t : ob n t 9) (hf : fn_X9_setLeast t a1 a2 a3 M = some o) : CT E l yX9_setLeast cX9_setLeast 5 none 0 0 0 0 [.ref (eb E + t), i3 a1, i3 a2, i3 a3] n (zf n) M none n (zf n) o := by
  refine CT_of PN_RX9 (Nat.le_of_ble_eq_true rfl) ?_
  intro p e s m args below meth c C hH ls hl
  replace C : Cx E p s m args meth c cX9_setLeast 5 RX9 none n "setLeast" := C
  have hl : lv_has ls 5 [(0, .ref (eb E + t)), (1, i3 a1), (2, i3 a2), (3, i3 a3)] := hl
  unfold fn_X9_setLeast at hf
  refine lv_iload_n C.hx C.hb dX9_setLeast_0 rfl (lv_at hl 1 rfl) ?_
  refine lv_bipush (v := Int32.ofInt 6) C.hx C.hb dX9_setLeast_1 (by decide) ?_
  refine w_imul C dX9_setLeast_3 ?_
  refine lv_iload_n C.hx C.hb dX9_setLeast_4 rfl (lv_at hl 2 rfl) ?_
  refine w_iadd C dX9_setLeast_5 ?_
  refine r_nm hf (fun v4_6 hf => ?_)
  refine lv_istore (lv' := [(4, i3 v4_6), (0, .ref (eb E + t)), (1, i3 a1), (2, i3 a2), (3, i3 a3)]) C.hx C.hb dX9_setLeast_6 hl (by decide) rfl (fun ls hl => ?_)
  refine lv_iload C.hx C.hb dX9_setLeast_8 (lv_at hl 0 rfl) ?_
  refine w_lt0 (tgt := 31) C hf dX9_setLeast_10 (by decide) (fun hf => ?_) (fun hf => ?_)
  · cases hf
    exact w_vret C hH dX9_setLeast_31
  · refine lv_iload C.hx C.hb dX9_setLeast_13 (lv_at hl 0 rfl) ?_
    refine lv_aload_n C.hx C.hb dX9_setLeast_15 rfl (lv_at hl 1 rfl) ?_
    refine g_ref (off := 4) C hH o_t (by decide) rfl rfl FL_RX9_21 dX9_setLeast_16 ?_
    refine g_len (N := 132) C hH (ly (i := 4) (off := 4) (k := 12) hn o_t rfl rfl rfl) (by decide) (lyn (i := 4) (off := 4) (N := 131) hn o_t rfl rfl rfl) dX9_setLeast_19 ?_
    refine w_ge (tgt := 31) C hf dX9_setLeast_20 (by decide) (fun hf => ?_) (fun hf => ?_)
    · cases hf
      exact w_vret C hH dX9_setLeast_31
    · refine lv_aload_n C.hx C.hb dX9_setLeast_23 rfl (lv_at hl 1 rfl) ?_
      refine g_ref (off := 4) C hH o_t (by decide) rfl rfl FL_RX9_21 dX9_setLeast_24 ?_
      refine lv_iload C.hx C.hb dX9_setLeast_27 (lv_at hl 0 rfl) ?_
      refine lv_iload_n C.hx C.hb dX9_setLeast_29 rfl (lv_at hl 4 rfl) ?_
      refine r_iast C hH (ly (i := 4) (off := 4) (k := 12) hn o_t rfl rfl rfl) (lyn (i := 4) (off := 4) (N := 131) hn o_t rfl rfl rfl) hf dX9_setLeast_30 (fun M30 H locs hf hH => ?_)
      cases hf
      exact w_vret C hH dX9_setLeast_31
-- HeavierByHand$Trays.wrongBy
def fn_X9_wrongBy (t : Nat) (a1 : Int) (a2 : Int) (M : Mem) : Option Int :=
  nm (((a1 * 6) + a2)) fun v3_6 => nm ((v3_6 + 6)) fun v4_11 => cLt v3_6 0 (some 1000) (cLt v3_6 ((126 : Nat) : Int) (cLt v4_11 ((132 : Nat) : Int) (rd M (t + 3) 126 v3_6 fun x45 => rd M (t + 4) 132 v4_11 fun x52 => ck (R3 (x45 + x52) ∧ R3 1000) <| some (min (x45 + x52) 1000)) (some 1000)) (some 1000))
set_option maxRecDepth 100000 in
set_option maxHeartbeats 4000000 in
theorem m_X9_wrongBy {E : EE} {l : Launch} {n : Nat} {t : Nat} {a1 : Int} {a2 : Int} {M : Mem} {o : Int} (hn : nfull n) (o_t : ob n t 9) (hf : fn_X9_wrongBy t a1 a2 M = some o) : CT E l yX9_wrongBy cX9_wrongBy 5 (some .int) 4 120 0 0 [.ref (eb E + t), i3 a1, i3 a2] n (zf n) M (some (i3 o)) n (zf n) M := by
  refine CT_of PN_RX9 (Nat.le_of_ble_eq_true rfl) ?_
  intro p e s m args below meth c C hH ls hl
  replace C : Cx E p s m args meth c cX9_wrongBy 5 RX9 (some .int) n "wrongBy" := C
  have hl : lv_has ls 5 [(0, .ref (eb E + t)), (1, i3 a1), (2, i3 a2)] := hl
  unfold fn_X9_wrongBy at hf
  refine lv_iload_n C.hx C.hb dX9_wrongBy_0 rfl (lv_at hl 1 rfl) ?_
  refine lv_bipush (v := Int32.ofInt 6) C.hx C.hb dX9_wrongBy_1 (by decide) ?_
  refine w_imul C dX9_wrongBy_3 ?_
  refine lv_iload_n C.hx C.hb dX9_wrongBy_4 rfl (lv_at hl 2 rfl) ?_
  refine w_iadd C dX9_wrongBy_5 ?_
  refine r_nm hf (fun v3_6 hf => ?_)
  refine lv_istore_n (lv' := [(3, i3 v3_6), (0, .ref (eb E + t)), (1, i3 a1), (2, i3 a2)]) C.hx C.hb dX9_wrongBy_6 rfl hl (by decide) rfl (fun ls hl => ?_)
  refine lv_iload_n C.hx C.hb dX9_wrongBy_7 rfl (lv_at hl 0 rfl) ?_
  refine lv_bipush (v := Int32.ofInt 6) C.hx C.hb dX9_wrongBy_8 (by decide) ?_
  refine w_iadd C dX9_wrongBy_10 ?_
  refine r_nm hf (fun v4_11 hf => ?_)
  refine lv_istore (lv' := [(4, i3 v4_11), (3, i3 v3_6), (0, .ref (eb E + t)), (1, i3 a1), (2, i3 a2)]) C.hx C.hb dX9_wrongBy_11 hl (by decide) rfl (fun ls hl => ?_)
  refine lv_iload_n C.hx C.hb dX9_wrongBy_13 rfl (lv_at hl 1 rfl) ?_
  refine w_lt0 (tgt := 36) C hf dX9_wrongBy_14 (by decide) (fun hf => ?_) (fun hf => ?_)
  · refine lv_sipush (v := Int32.ofInt 1000) C.hx C.hb dX9_wrongBy_36 (by decide) ?_
    cases hf
    exact w_iret C hH dX9_wrongBy_39
  · refine lv_iload_n C.hx C.hb dX9_wrongBy_17 rfl (lv_at hl 1 rfl) ?_
    refine lv_aload_n C.hx C.hb dX9_wrongBy_18 rfl (lv_at hl 2 rfl) ?_
    refine g_ref (off := 3) C hH o_t (by decide) rfl rfl FL_RX9_18 dX9_wrongBy_19 ?_
    refine g_len (N := 126) C hH (ly (i := 3) (off := 3) (k := 12) hn o_t rfl rfl rfl) (by decide) (lyn (i := 3) (off := 3) (N := 125) hn o_t rfl rfl rfl) dX9_wrongBy_22 ?_
    refine w_ge (tgt := 36) C hf dX9_wrongBy_23 (by decide) (fun hf => ?_) (fun hf => ?_)
    · refine lv_sipush (v := Int32.ofInt 1000) C.hx C.hb dX9_wrongBy_36 (by decide) ?_
      cases hf
      exact w_iret C hH dX9_wrongBy_39
    · refine lv_iload C.hx C.hb dX9_wrongBy_26 (lv_at hl 0 rfl) ?_
      refine lv_aload_n C.hx C.hb dX9_wrongBy_28 rfl (lv_at hl 2 rfl) ?_
      refine g_ref (off := 4) C hH o_t (by decide) rfl rfl FL_RX9_21 dX9_wrongBy_29 ?_
      refine g_len (N := 132) C hH (ly (i := 4) (off := 4) (k := 12) hn o_t rfl rfl rfl) (by decide) (lyn (i := 4) (off := 4) (N := 131) hn o_t rfl rfl rfl) dX9_wrongBy_32 ?_
      refine w_lt (tgt := 40) C hf dX9_wrongBy_33 (by decide) (fun hf => ?_) (fun hf => ?_)
      · refine lv_aload_n C.hx C.hb dX9_wrongBy_40 rfl (lv_at hl 2 rfl) ?_
        refine g_ref (off := 3) C hH o_t (by decide) rfl rfl FL_RX9_18 dX9_wrongBy_41 ?_
        refine lv_iload_n C.hx C.hb dX9_wrongBy_44 rfl (lv_at hl 1 rfl) ?_
        refine r_iald C hH (ly (i := 3) (off := 3) (k := 12) hn o_t rfl rfl rfl) (lyn (i := 3) (off := 3) (N := 125) hn o_t rfl rfl rfl) hf dX9_wrongBy_45 (fun x45 hf => ?_)
        refine lv_aload_n C.hx C.hb dX9_wrongBy_46 rfl (lv_at hl 2 rfl) ?_
        refine g_ref (off := 4) C hH o_t (by decide) rfl rfl FL_RX9_21 dX9_wrongBy_47 ?_
        refine lv_iload C.hx C.hb dX9_wrongBy_50 (lv_at hl 0 rfl) ?_
        refine r_iald C hH (ly (i := 4) (off := 4) (k := 12) hn o_t rfl rfl rfl) (lyn (i := 4) (off := 4) (N := 131) hn o_t rfl rfl rfl) hf dX9_wrongBy_52 (fun x52 hf => ?_)
        refine w_iadd C dX9_wrongBy_53 ?_
        refine lv_sipush (v := Int32.ofInt 1000) C.hx C.hb dX9_wrongBy_54 (by decide) ?_
        obtain ⟨hR8, hf⟩ := ck_of hf
        refine w_min C hl.1 hR8 ML_RX9_69 LB_min LB_mathi LB_minc (Nat.le_of_ble_eq_true rfl) (Nat.le_of_ble_eq_true rfl) (Nat.le_refl _) (Nat.le_refl _) dX9_wrongBy_57 ?_
        cases hf
        exact w_iret C hH dX9_wrongBy_60
      · refine lv_sipush (v := Int32.ofInt 1000) C.hx C.hb dX9_wrongBy_36 (by decide) ?_
        cases hf
        exact w_iret C hH dX9_wrongBy_39
-- HeavierByHand$Trays.findLeast
def fn_X9_findLeast_J108 (v2_49 : Int) (rec49 : Int → Mem → Option Mem) (M108 : Mem) : Option Mem :=
  nm (v2_49 + (-1)) fun v2_108 => rec49 v2_108 M108
def fn_X9_findLeast_J94 (t : Nat) (v2_49 : Int) (v3_55 : Int) (M55 : Mem) (rec55 : Int → Mem → Option Mem) (v4_94 : Int) : Option Mem :=
  cv (fn_X9_setLeast t v2_49 v3_55 v4_94 M55) fun M99 => nm (v3_55 + 1) fun v3_102 => rec55 v3_102 M99
def fn_X9_findLeast_L68 (t : Nat) (a1 : Int) (v2_49 : Int) (v3_55 : Int) (M55 : Mem) (rec55 : Int → Mem → Option Mem) (rec68 : Int → Int → Option Mem) (v5_68 : Int) (v4_68 : Int) : Option Mem :=
  cLt v5_68 a1 (cu (fn_X9_wrongBy t v2_49 v5_68 M55) fun x80 => ck (R3 v4_68 ∧ R3 x80) <| nm ((min v4_68 x80)) fun v4_86 => nm (v5_68 + 1) fun v5_88 => rec68 v5_88 v4_86) (fn_X9_findLeast_J94 t v2_49 v3_55 M55 rec55 v4_68)
def fn_X9_findLeast_L55 (t : Nat) (a1 : Int) (v2_49 : Int) (rec49 : Int → Mem → Option Mem) (rec55 : Int → Mem → Option Mem) (v3_55 : Int) (M55 : Mem) : Option Mem :=
  cLt v3_55 a1 (lq2 (fn_X9_findLeast_L68 t a1 v2_49 v3_55 M55 rec55) FU v3_55 1000) (fn_X9_findLeast_J108 v2_49 rec49 M55)
def fn_X9_findLeast_L49 (t : Nat) (a1 : Int) (rec49 : Int → Mem → Option Mem) (v2_49 : Int) (M49 : Mem) : Option Mem :=
  cLt v2_49 0 (some M49) (lq2 (fn_X9_findLeast_L55 t a1 v2_49 rec49) FU 0 M49)
def fn_X9_findLeast_J42 (t : Nat) (a1 : Int) (M42 : Mem) : Option Mem :=
  nm (((M42 t 2) - 1)) fun v2_48 => lq2 (fn_X9_findLeast_L49 t a1) FU v2_48 M42
def fn_X9_findLeast_J33 (t : Nat) (v2_2 : Int) (M2 : Mem) (rec2 : Int → Mem → Option Mem) (u0_33 : Int) : Option Mem :=
  cv (fn_X9_setLeast t (M2 t 2) v2_2 u0_33 M2) fun M33 => nm (v2_2 + 1) fun v2_36 => rec2 v2_36 M33
def fn_X9_findLeast_L2 (t : Nat) (a1 : Int) (rec2 : Int → Mem → Option Mem) (v2_2 : Int) (M2 : Mem) : Option Mem :=
  cLt v2_2 a1 (cLt v2_2 6 (cEq v2_2 (a1 - 1) (fn_X9_findLeast_J33 t v2_2 M2 rec2 0) (fn_X9_findLeast_J33 t v2_2 M2 rec2 1000)) (fn_X9_findLeast_J42 t a1 M2)) (fn_X9_findLeast_J42 t a1 M2)
def fn_X9_findLeast (t : Nat) (a1 : Int) (M : Mem) : Option Mem :=
  lq2 (fn_X9_findLeast_L2 t a1) FU 0 M
set_option maxRecDepth 100000 in
set_option maxHeartbeats 4000000 in
theorem j_X9_findLeast_108 {p : Program} {l : Launch} {e : Env} {s : State} {m : MethodId} {args : Array Value} {below : List Frame} {meth : Method} {c : Code} {E : EE} {n : Nat} {o : Mem} {t : Nat} {a1 : Int} {v2_49 : Int} {rec49 : Int → Mem → Option Mem} {M108 : Mem} {H : Heap} {locs : List Loc} {ls : Array Slot} (C : Cx E p s m args meth c cX9_findLeast 6 RX9 none n "findLeast") (hn : nfull n) (o_t : ob n t 9) (h_rec49 : ∀ {v2_49 : Int} {M49 : Mem} {H : Heap} {locs : List Loc} {ls : Array Slot}, rec49 v2_49 M49 = some o → ST E s n (zf n) M49 H locs → lv_has ls 6 [(0, .ref (eb E + t)), (1, i3 a1), (2, i3 v2_49)] → W p l e { frames := 5, cells := 0, slots := 0, locals := 144 } s m args below meth c H locs 0 0 (MQ below (QC E none n (zf n) o) args s 0 0 (fr E)) (F0 m 49 ls [])) (hf : fn_X9_findLeast_J108 v2_49 rec49 M108 = some o) (hH : ST E s n (zf n) M108 H locs) (hl : lv_has ls 6 [(0, .ref (eb E + t)), (1, i3 a1), (2, i3 v2_49)]) : W p l e { frames := 5, cells := 0, slots := 0, locals := 144 } s m args below meth c H locs 0 0 (MQ below (QC E none n (zf n) o) args s 0 0 (fr E)) (F0 m 108 ls []) := by
  unfold fn_X9_findLeast_J108 at hf
  refine r_iinc (k := 2) (lv' := fun v => [(2, i3 v), (0, .ref (eb E + t)), (1, i3 a1)]) C hf dX9_findLeast_108 hl rfl (by decide) (fun _ => rfl) (fun v2_108 ls hf hl => ?_)
  refine lv_goto (tgt := 49) C.hx C.hb dX9_findLeast_111 (by decide) ?_
  exact h_rec49 hf hH (lv_sub hl [1, 2, 0] rfl)
set_option maxRecDepth 100000 in
set_option maxHeartbeats 4000000 in
theorem j_X9_findLeast_94 {p : Program} {l : Launch} {e : Env} {s : State} {m : MethodId} {args : Array Value} {below : List Frame} {meth : Method} {c : Code} {E : EE} {n : Nat} {o : Mem} {t : Nat} {a1 : Int} {v2_49 : Int} {v3_55 : Int} {M55 : Mem} {rec55 : Int → Mem → Option Mem} {v4_94 : Int} {H : Heap} {locs : List Loc} {ls : Array Slot} (C : Cx E p s m args meth c cX9_findLeast 6 RX9 none n "findLeast") (hn : nfull n) (o_t : ob n t 9) (h_rec55 : ∀ {v3_55 : Int} {M55 : Mem} {H : Heap} {locs : List Loc} {ls : Array Slot}, rec55 v3_55 M55 = some o → ST E s n (zf n) M55 H locs → lv_has ls 6 [(0, .ref (eb E + t)), (1, i3 a1), (2, i3 v2_49), (3, i3 v3_55)] → W p l e { frames := 5, cells := 0, slots := 0, locals := 144 } s m args below meth c H locs 0 0 (MQ below (QC E none n (zf n) o) args s 0 0 (fr E)) (F0 m 55 ls [])) (hf : fn_X9_findLeast_J94 t v2_49 v3_55 M55 rec55 v4_94 = some o) (hH : ST E s n (zf n) M55 H locs) (hl : lv_has ls 6 [(0, .ref (eb E + t)), (1, i3 a1), (2, i3 v2_49), (3, i3 v3_55), (4, i3 v4_94)]) : W p l e { frames := 5, cells := 0, slots := 0, locals := 144 } s m args below meth c H locs 0 0 (MQ below (QC E none n (zf n) o) args s 0 0 (fr E)) (F0 m 94 ls []) := by
  unfold fn_X9_findLeast_J94 at hf
  refine lv_aload_n C.hx C.hb dX9_findLeast_94 rfl (lv_at hl 0 rfl) ?_
  refine lv_iload_n C.hx C.hb dX9_findLeast_95 rfl (lv_at hl 2 rfl) ?_
  refine lv_iload_n C.hx C.hb dX9_findLeast_96 rfl (lv_at hl 3 rfl) ?_
  refine lv_iload C.hx C.hb dX9_findLeast_97 (lv_at hl 4 rfl) ?_
  obtain ⟨M99, hc9, hf⟩ := cv_of hf
  refine r_callVv (rest := []) C hH hl o_t (by decide) rfl (m_X9_setLeast hn o_t hc9) ML_RX9_61 MF_X9_setLeast MI_X9_setLeast rfl rfl (Nat.le_of_ble_eq_true rfl) ⟨Nat.le_of_ble_eq_true rfl, Nat.le_of_ble_eq_true rfl⟩ ⟨Nat.le_refl _, Nat.le_refl _⟩ dX9_findLeast_99 (fun H locs hH => ?_)
  refine r_iinc (k := 3) (lv' := fun v => [(3, i3 v), (0, .ref (eb E + t)), (1, i3 a1), (2, i3 v2_49), (4, i3 v4_94)]) C hf dX9_findLeast_102 hl rfl (by decide) (fun _ => rfl) (fun v3_102 ls hf hl => ?_)
  refine lv_goto (tgt := 55) C.hx C.hb dX9_findLeast_105 (by decide) ?_
  exact h_rec55 hf hH (lv_sub hl [1, 2, 3, 0] rfl)
set_option maxRecDepth 100000 in
set_option maxHeartbeats 4000000 in
theorem l_X9_findLeast_68 {p : Program} {l : Launch} {e : Env} {s : State} {m : MethodId} {args : Array Value} {below : List Frame} {meth : Method} {c : Code} {E : EE} {n : Nat} {o : Mem} {t : Nat} {a1 : Int} {v2_49 : Int} {v3_55 : Int} {M55 : Mem} {rec55 : Int → Mem → Option Mem} (C : Cx E p s m args meth c cX9_findLeast 6 RX9 none n "findLeast") (hn : nfull n) (o_t : ob n t 9) (h_rec55 : ∀ {v3_55 : Int} {M55 : Mem} {H : Heap} {locs : List Loc} {ls : Array Slot}, rec55 v3_55 M55 = some o → ST E s n (zf n) M55 H locs → lv_has ls 6 [(0, .ref (eb E + t)), (1, i3 a1), (2, i3 v2_49), (3, i3 v3_55)] → W p l e { frames := 5, cells := 0, slots := 0, locals := 144 } s m args below meth c H locs 0 0 (MQ below (QC E none n (zf n) o) args s 0 0 (fr E)) (F0 m 55 ls [])) : ∀ (k : Nat) (v5_68 : Int) (v4_68 : Int) (H : Heap) (locs : List Loc) (ls : Array Slot), lq2 (fn_X9_findLeast_L68 t a1 v2_49 v3_55 M55 rec55) k v5_68 v4_68 = some o → ST E s n (zf n) M55 H locs → lv_has ls 6 [(0, .ref (eb E + t)), (1, i3 a1), (2, i3 v2_49), (3, i3 v3_55), (4, i3 v4_68), (5, i3 v5_68)] → W p l e { frames := 5, cells := 0, slots := 0, locals := 144 } s m args below meth c H locs 0 0 (MQ below (QC E none n (zf n) o) args s 0 0 (fr E)) (F0 m 68 ls []) := by
  intro k
  induction k with
  | zero => intro v5_68 v4_68 H locs ls hf; cases hf
  | succ k ih =>
    intro v5_68 v4_68 H locs ls hf hH hl
    have h_rec68 : ∀ {v5_68 : Int} {v4_68 : Int} {H : Heap} {locs : List Loc} {ls : Array Slot}, lq2 (fn_X9_findLeast_L68 t a1 v2_49 v3_55 M55 rec55) k v5_68 v4_68 = some o → ST E s n (zf n) M55 H locs → lv_has ls 6 [(0, .ref (eb E + t)), (1, i3 a1), (2, i3 v2_49), (3, i3 v3_55), (4, i3 v4_68), (5, i3 v5_68)] → W p l e { frames := 5, cells := 0, slots := 0, locals := 144 } s m args below meth c H locs 0 0 (MQ below (QC E none n (zf n) o) args s 0 0 (fr E)) (F0 m 68 ls []) := fun {v5_68} {v4_68} {H} {locs} {ls} a b c => ih v5_68 v4_68 H locs ls a b c
    replace hf : fn_X9_findLeast_L68 t a1 v2_49 v3_55 M55 rec55 (lq2 (fn_X9_findLeast_L68 t a1 v2_49 v3_55 M55 rec55) k) v5_68 v4_68 = some o := hf
    generalize lq2 (fn_X9_findLeast_L68 t a1 v2_49 v3_55 M55 rec55) k = rec68 at hf h_rec68
    unfold fn_X9_findLeast_L68 at hf
    refine lv_iload C.hx C.hb dX9_findLeast_68 (lv_at hl 5 rfl) ?_
    refine lv_iload_n C.hx C.hb dX9_findLeast_70 rfl (lv_at hl 1 rfl) ?_
    refine w_ge (tgt := 94) C hf dX9_findLeast_71 (by decide) (fun hf => ?_) (fun hf => ?_)
    · exact j_X9_findLeast_94 C hn o_t h_rec55 hf hH (lv_sub hl [0, 1, 2, 3, 4] rfl)
    · refine lv_iload C.hx C.hb dX9_findLeast_74 (lv_at hl 4 rfl) ?_
      refine lv_aload_n C.hx C.hb dX9_findLeast_76 rfl (lv_at hl 0 rfl) ?_
      refine lv_iload_n C.hx C.hb dX9_findLeast_77 rfl (lv_at hl 2 rfl) ?_
      refine lv_iload C.hx C.hb dX9_findLeast_78 (lv_at hl 5 rfl) ?_
      obtain ⟨x80, hc9, hf⟩ := cu_of hf
      refine r_callVi (rest := [i3 v4_68]) C hH hl o_t (by decide) rfl (m_X9_wrongBy hn o_t hc9) ML_RX9_65 MF_X9_wrongBy MI_X9_wrongBy rfl rfl (Nat.le_of_ble_eq_true rfl) ⟨Nat.le_of_ble_eq_true rfl, Nat.le_of_ble_eq_true rfl⟩ ⟨Nat.le_refl _, Nat.le_refl _⟩ dX9_findLeast_80 (fun H locs hH => ?_)
      obtain ⟨hR8, hf⟩ := ck_of hf
      refine w_min C hl.1 hR8 ML_RX9_69 LB_min LB_mathi LB_minc (Nat.le_of_ble_eq_true rfl) (Nat.le_of_ble_eq_true rfl) (Nat.le_refl _) (Nat.le_refl _) dX9_findLeast_83 ?_
      refine r_nm hf (fun v4_86 hf => ?_)
      refine lv_istore (lv' := [(4, i3 v4_86), (0, .ref (eb E + t)), (1, i3 a1), (2, i3 v2_49), (3, i3 v3_55), (5, i3 v5_68)]) C.hx C.hb dX9_findLeast_86 hl (by decide) rfl (fun ls hl => ?_)
      refine r_iinc (k := 5) (lv' := fun v => [(5, i3 v), (4, i3 v4_86), (0, .ref (eb E + t)), (1, i3 a1), (2, i3 v2_49), (3, i3 v3_55)]) C hf dX9_findLeast_88 hl rfl (by decide) (fun _ => rfl) (fun v5_88 ls hf hl => ?_)
      refine lv_goto (tgt := 68) C.hx C.hb dX9_findLeast_91 (by decide) ?_
      exact h_rec68 hf hH (lv_sub hl [2, 3, 4, 5, 1, 0] rfl)
set_option maxRecDepth 100000 in
set_option maxHeartbeats 4000000 in
theorem l_X9_findLeast_55 {p : Program} {l : Launch} {e : Env} {s : State} {m : MethodId} {args : Array Value} {below : List Frame} {meth : Method} {c : Code} {E : EE} {n : Nat} {o : Mem} {t : Nat} {a1 : Int} {v2_49 : Int} {rec49 : Int → Mem → Option Mem} (C : Cx E p s m args meth c cX9_findLeast 6 RX9 none n "findLeast") (hn : nfull n) (o_t : ob n t 9) (h_rec49 : ∀ {v2_49 : Int} {M49 : Mem} {H : Heap} {locs : List Loc} {ls : Array Slot}, rec49 v2_49 M49 = some o → ST E s n (zf n) M49 H locs → lv_has ls 6 [(0, .ref (eb E + t)), (1, i3 a1), (2, i3 v2_49)] → W p l e { frames := 5, cells := 0, slots := 0, locals := 144 } s m args below meth c H locs 0 0 (MQ below (QC E none n (zf n) o) args s 0 0 (fr E)) (F0 m 49 ls [])) : ∀ (k : Nat) (v3_55 : Int) (M55 : Mem) (H : Heap) (locs : List Loc) (ls : Array Slot), lq2 (fn_X9_findLeast_L55 t a1 v2_49 rec49) k v3_55 M55 = some o → ST E s n (zf n) M55 H locs → lv_has ls 6 [(0, .ref (eb E + t)), (1, i3 a1), (2, i3 v2_49), (3, i3 v3_55)] → W p l e { frames := 5, cells := 0, slots := 0, locals := 144 } s m args below meth c H locs 0 0 (MQ below (QC E none n (zf n) o) args s 0 0 (fr E)) (F0 m 55 ls []) := by
  intro k
  induction k with
  | zero => intro v3_55 M55 H locs ls hf; cases hf
  | succ k ih =>
    intro v3_55 M55 H locs ls hf hH hl
    have h_rec55 : ∀ {v3_55 : Int} {M55 : Mem} {H : Heap} {locs : List Loc} {ls : Array Slot}, lq2 (fn_X9_findLeast_L55 t a1 v2_49 rec49) k v3_55 M55 = some o → ST E s n (zf n) M55 H locs → lv_has ls 6 [(0, .ref (eb E + t)), (1, i3 a1), (2, i3 v2_49), (3, i3 v3_55)] → W p l e { frames := 5, cells := 0, slots := 0, locals := 144 } s m args below meth c H locs 0 0 (MQ below (QC E none n (zf n) o) args s 0 0 (fr E)) (F0 m 55 ls []) := fun {v3_55} {M55} {H} {locs} {ls} a b c => ih v3_55 M55 H locs ls a b c
    replace hf : fn_X9_findLeast_L55 t a1 v2_49 rec49 (lq2 (fn_X9_findLeast_L55 t a1 v2_49 rec49) k) v3_55 M55 = some o := hf
    generalize lq2 (fn_X9_findLeast_L55 t a1 v2_49 rec49) k = rec55 at hf h_rec55
    unfold fn_X9_findLeast_L55 at hf
    refine lv_iload_n C.hx C.hb dX9_findLeast_55 rfl (lv_at hl 3 rfl) ?_
    refine lv_iload_n C.hx C.hb dX9_findLeast_56 rfl (lv_at hl 1 rfl) ?_
    refine w_ge (tgt := 108) C hf dX9_findLeast_57 (by decide) (fun hf => ?_) (fun hf => ?_)
    · exact j_X9_findLeast_108 C hn o_t h_rec49 hf hH (lv_sub hl [0, 1, 2] rfl)
    · refine lv_sipush (v := Int32.ofInt 1000) C.hx C.hb dX9_findLeast_60 (by decide) ?_
      refine lv_istore (lv' := [(4, i3 1000), (0, .ref (eb E + t)), (1, i3 a1), (2, i3 v2_49), (3, i3 v3_55)]) C.hx C.hb dX9_findLeast_63 hl (by decide) rfl (fun ls hl => ?_)
      refine lv_iload_n C.hx C.hb dX9_findLeast_65 rfl (lv_at hl 4 rfl) ?_
      refine lv_istore (lv' := [(5, i3 v3_55), (4, i3 1000), (0, .ref (eb E + t)), (1, i3 a1), (2, i3 v2_49), (3, i3 v3_55)]) C.hx C.hb dX9_findLeast_66 hl (by decide) rfl (fun ls hl => ?_)
      exact l_X9_findLeast_68 C hn o_t h_rec55 FU _ _ _ _ _ hf hH (lv_sub hl [2, 3, 4, 5, 1, 0] rfl)
set_option maxRecDepth 100000 in
set_option maxHeartbeats 4000000 in
theorem l_X9_findLeast_49 {p : Program} {l : Launch} {e : Env} {s : State} {m : MethodId} {args : Array Value} {below : List Frame} {meth : Method} {c : Code} {E : EE} {n : Nat} {o : Mem} {t : Nat} {a1 : Int} (C : Cx E p s m args meth c cX9_findLeast 6 RX9 none n "findLeast") (hn : nfull n) (o_t : ob n t 9) : ∀ (k : Nat) (v2_49 : Int) (M49 : Mem) (H : Heap) (locs : List Loc) (ls : Array Slot), lq2 (fn_X9_findLeast_L49 t a1) k v2_49 M49 = some o → ST E s n (zf n) M49 H locs → lv_has ls 6 [(0, .ref (eb E + t)), (1, i3 a1), (2, i3 v2_49)] → W p l e { frames := 5, cells := 0, slots := 0, locals := 144 } s m args below meth c H locs 0 0 (MQ below (QC E none n (zf n) o) args s 0 0 (fr E)) (F0 m 49 ls []) := by
  intro k
  induction k with
  | zero => intro v2_49 M49 H locs ls hf; cases hf
  | succ k ih =>
    intro v2_49 M49 H locs ls hf hH hl
    have h_rec49 : ∀ {v2_49 : Int} {M49 : Mem} {H : Heap} {locs : List Loc} {ls : Array Slot}, lq2 (fn_X9_findLeast_L49 t a1) k v2_49 M49 = some o → ST E s n (zf n) M49 H locs → lv_has ls 6 [(0, .ref (eb E + t)), (1, i3 a1), (2, i3 v2_49)] → W p l e { frames := 5, cells := 0, slots := 0, locals := 144 } s m args below meth c H locs 0 0 (MQ below (QC E none n (zf n) o) args s 0 0 (fr E)) (F0 m 49 ls []) := fun {v2_49} {M49} {H} {locs} {ls} a b c => ih v2_49 M49 H locs ls a b c
    replace hf : fn_X9_findLeast_L49 t a1 (lq2 (fn_X9_findLeast_L49 t a1) k) v2_49 M49 = some o := hf
    generalize lq2 (fn_X9_findLeast_L49 t a1) k = rec49 at hf h_rec49
    unfold fn_X9_findLeast_L49 at hf
    refine lv_iload_n C.hx C.hb dX9_findLeast_49 rfl (lv_at hl 2 rfl) ?_
    refine w_lt0 (tgt := 114) C hf dX9_findLeast_50 (by decide) (fun hf => ?_) (fun hf => ?_)
    · cases hf
      exact w_vret C hH dX9_findLeast_114
    · refine lv_iconst (v := Int32.ofInt 0) C.hx C.hb dX9_findLeast_53 rfl ?_
      refine lv_istore_n (lv' := [(3, i3 0), (0, .ref (eb E + t)), (1, i3 a1), (2, i3 v2_49)]) C.hx C.hb dX9_findLeast_54 rfl hl (by decide) rfl (fun ls hl => ?_)
      exact l_X9_findLeast_55 C hn o_t h_rec49 FU _ _ _ _ _ hf hH (lv_sub hl [1, 2, 3, 0] rfl)
set_option maxRecDepth 100000 in
set_option maxHeartbeats 4000000 in
theorem j_X9_findLeast_42 {p : Program} {l : Launch} {e : Env} {s : State} {m : MethodId} {args : Array Value} {below : List Frame} {meth : Method} {c : Code} {E : EE} {n : Nat} {o : Mem} {t : Nat} {a1 : Int} {M42 : Mem} {H : Heap} {locs : List Loc} {ls : Array Slot} (C : Cx E p s m args meth c cX9_findLeast 6 RX9 none n "findLeast") (hn : nfull n) (o_t : ob n t 9) (hf : fn_X9_findLeast_J42 t a1 M42 = some o) (hH : ST E s n (zf n) M42 H locs) (hl : lv_has ls 6 [(0, .ref (eb E + t)), (1, i3 a1)]) : W p l e { frames := 5, cells := 0, slots := 0, locals := 144 } s m args below meth c H locs 0 0 (MQ below (QC E none n (zf n) o) args s 0 0 (fr E)) (F0 m 42 ls []) := by
  unfold fn_X9_findLeast_J42 at hf
  refine lv_aload_n C.hx C.hb dX9_findLeast_42 rfl (lv_at hl 0 rfl) ?_
  refine g_int C hH o_t (by decide) rfl FL_RX9_39 dX9_findLeast_43 ?_
  refine lv_iconst (v := Int32.ofInt 1) C.hx C.hb dX9_findLeast_46 rfl ?_
  refine w_isub C dX9_findLeast_47 ?_
  refine r_nm hf (fun v2_48 hf => ?_)
  refine lv_istore_n (lv' := [(2, i3 v2_48), (0, .ref (eb E + t)), (1, i3 a1)]) C.hx C.hb dX9_findLeast_48 rfl hl (by decide) rfl (fun ls hl => ?_)
  exact l_X9_findLeast_49 C hn o_t FU _ _ _ _ _ hf hH (lv_sub hl [1, 2, 0] rfl)
set_option maxRecDepth 100000 in
set_option maxHeartbeats 4000000 in
theorem j_X9_findLeast_33 {p : Program} {l : Launch} {e : Env} {s : State} {m : MethodId} {args : Array Value} {below : List Frame} {meth : Method} {c : Code} {E : EE} {n : Nat} {o : Mem} {t : Nat} {a1 : Int} {v2_2 : Int} {M2 : Mem} {rec2 : Int → Mem → Option Mem} {u0_33 : Int} {H : Heap} {locs : List Loc} {ls : Array Slot} (C : Cx E p s m args meth c cX9_findLeast 6 RX9 none n "findLeast") (hn : nfull n) (o_t : ob n t 9) (h_rec2 : ∀ {v2_2 : Int} {M2 : Mem} {H : Heap} {locs : List Loc} {ls : Array Slot}, rec2 v2_2 M2 = some o → ST E s n (zf n) M2 H locs → lv_has ls 6 [(0, .ref (eb E + t)), (1, i3 a1), (2, i3 v2_2)] → W p l e { frames := 5, cells := 0, slots := 0, locals := 144 } s m args below meth c H locs 0 0 (MQ below (QC E none n (zf n) o) args s 0 0 (fr E)) (F0 m 2 ls [])) (hf : fn_X9_findLeast_J33 t v2_2 M2 rec2 u0_33 = some o) (hH : ST E s n (zf n) M2 H locs) (hl : lv_has ls 6 [(0, .ref (eb E + t)), (1, i3 a1), (2, i3 v2_2)]) : W p l e { frames := 5, cells := 0, slots := 0, locals := 144 } s m args below meth c H locs 0 0 (MQ below (QC E none n (zf n) o) args s 0 0 (fr E)) (F0 m 33 ls [i3 u0_33, i3 v2_2, i3 (M2 t 2), .ref (eb E + t)]) := by
  unfold fn_X9_findLeast_J33 at hf
  obtain ⟨M33, hc9, hf⟩ := cv_of hf
  refine r_callVv (rest := []) C hH hl o_t (by decide) rfl (m_X9_setLeast hn o_t hc9) ML_RX9_61 MF_X9_setLeast MI_X9_setLeast rfl rfl (Nat.le_of_ble_eq_true rfl) ⟨Nat.le_of_ble_eq_true rfl, Nat.le_of_ble_eq_true rfl⟩ ⟨Nat.le_refl _, Nat.le_refl _⟩ dX9_findLeast_33 (fun H locs hH => ?_)
  refine r_iinc (k := 2) (lv' := fun v => [(2, i3 v), (0, .ref (eb E + t)), (1, i3 a1)]) C hf dX9_findLeast_36 hl rfl (by decide) (fun _ => rfl) (fun v2_36 ls hf hl => ?_)
  refine lv_goto (tgt := 2) C.hx C.hb dX9_findLeast_39 (by decide) ?_
  exact h_rec2 hf hH (lv_sub hl [1, 2, 0] rfl)
set_option maxRecDepth 100000 in
set_option maxHeartbeats 4000000 in
theorem l_X9_findLeast_2 {p : Program} {l : Launch} {e : Env} {s : State} {m : MethodId} {args : Array Value} {below : List Frame} {meth : Method} {c : Code} {E : EE} {n : Nat} {o : Mem} {t : Nat} {a1 : Int} (C : Cx E p s m args meth c cX9_findLeast 6 RX9 none n "findLeast") (hn : nfull n) (o_t : ob n t 9) : ∀ (k : Nat) (v2_2 : Int) (M2 : Mem) (H : Heap) (locs : List Loc) (ls : Array Slot), lq2 (fn_X9_findLeast_L2 t a1) k v2_2 M2 = some o → ST E s n (zf n) M2 H locs → lv_has ls 6 [(0, .ref (eb E + t)), (1, i3 a1), (2, i3 v2_2)] → W p l e { frames := 5, cells := 0, slots := 0, locals := 144 } s m args below meth c H locs 0 0 (MQ below (QC E none n (zf n) o) args s 0 0 (fr E)) (F0 m 2 ls []) := by
  intro k
  induction k with
  | zero => intro v2_2 M2 H locs ls hf; cases hf
  | succ k ih =>
    intro v2_2 M2 H locs ls hf hH hl
    have h_rec2 : ∀ {v2_2 : Int} {M2 : Mem} {H : Heap} {locs : List Loc} {ls : Array Slot}, lq2 (fn_X9_findLeast_L2 t a1) k v2_2 M2 = some o → ST E s n (zf n) M2 H locs → lv_has ls 6 [(0, .ref (eb E + t)), (1, i3 a1), (2, i3 v2_2)] → W p l e { frames := 5, cells := 0, slots := 0, locals := 144 } s m args below meth c H locs 0 0 (MQ below (QC E none n (zf n) o) args s 0 0 (fr E)) (F0 m 2 ls []) := fun {v2_2} {M2} {H} {locs} {ls} a b c => ih v2_2 M2 H locs ls a b c
    replace hf : fn_X9_findLeast_L2 t a1 (lq2 (fn_X9_findLeast_L2 t a1) k) v2_2 M2 = some o := hf
    generalize lq2 (fn_X9_findLeast_L2 t a1) k = rec2 at hf h_rec2
    unfold fn_X9_findLeast_L2 at hf
    refine lv_iload_n C.hx C.hb dX9_findLeast_2 rfl (lv_at hl 2 rfl) ?_
    refine lv_iload_n C.hx C.hb dX9_findLeast_3 rfl (lv_at hl 1 rfl) ?_
    refine w_ge (tgt := 42) C hf dX9_findLeast_4 (by decide) (fun hf => ?_) (fun hf => ?_)
    · exact j_X9_findLeast_42 C hn o_t hf hH (lv_sub hl [0, 1] rfl)
    · refine lv_iload_n C.hx C.hb dX9_findLeast_7 rfl (lv_at hl 2 rfl) ?_
      refine lv_bipush (v := Int32.ofInt 6) C.hx C.hb dX9_findLeast_8 (by decide) ?_
      refine w_ge (tgt := 42) C hf dX9_findLeast_10 (by decide) (fun hf => ?_) (fun hf => ?_)
      · exact j_X9_findLeast_42 C hn o_t hf hH (lv_sub hl [0, 1] rfl)
      · refine lv_aload_n C.hx C.hb dX9_findLeast_13 rfl (lv_at hl 0 rfl) ?_
        refine lv_aload_n C.hx C.hb dX9_findLeast_14 rfl (lv_at hl 0 rfl) ?_
        refine g_int C hH o_t (by decide) rfl FL_RX9_39 dX9_findLeast_15 ?_
        refine lv_iload_n C.hx C.hb dX9_findLeast_18 rfl (lv_at hl 2 rfl) ?_
        refine lv_iload_n C.hx C.hb dX9_findLeast_19 rfl (lv_at hl 2 rfl) ?_
        refine lv_iload_n C.hx C.hb dX9_findLeast_20 rfl (lv_at hl 1 rfl) ?_
        refine lv_iconst (v := Int32.ofInt 1) C.hx C.hb dX9_findLeast_21 rfl ?_
        refine w_isub C dX9_findLeast_22 ?_
        refine w_ne (tgt := 30) C hf dX9_findLeast_23 (by decide) (fun hf => ?_) (fun hf => ?_)
        · refine lv_sipush (v := Int32.ofInt 1000) C.hx C.hb dX9_findLeast_30 (by decide) ?_
          exact j_X9_findLeast_33 C hn o_t h_rec2 hf hH (lv_sub hl [0, 1, 2] rfl)
        · refine lv_iconst (v := Int32.ofInt 0) C.hx C.hb dX9_findLeast_26 rfl ?_
          refine lv_goto (tgt := 33) C.hx C.hb dX9_findLeast_27 (by decide) ?_
          exact j_X9_findLeast_33 C hn o_t h_rec2 hf hH (lv_sub hl [0, 1, 2] rfl)
set_option maxRecDepth 100000 in
set_option maxHeartbeats 4000000 in
theorem m_X9_findLeast {E : EE} {l : Launch} {n : Nat} {t : Nat} {a1 : Int} {M : Mem} {o : Mem} (hn : nfull n) (o_t : ob n t 9) (hf : fn_X9_findLeast t a1 M = some o) : CT E l yX9_findLeast cX9_findLeast 6 none 5 144 0 0 [.ref (eb E + t), i3 a1] n (zf n) M none n (zf n) o := by
  refine CT_of PN_RX9 (Nat.le_of_ble_eq_true rfl) ?_
  intro p e s m args below meth c C hH ls hl
  replace C : Cx E p s m args meth c cX9_findLeast 6 RX9 none n "findLeast" := C
  have hl : lv_has ls 6 [(0, .ref (eb E + t)), (1, i3 a1)] := hl
  unfold fn_X9_findLeast at hf
  refine lv_iconst (v := Int32.ofInt 0) C.hx C.hb dX9_findLeast_0 rfl ?_
  refine lv_istore_n (lv' := [(2, i3 0), (0, .ref (eb E + t)), (1, i3 a1)]) C.hx C.hb dX9_findLeast_1 rfl hl (by decide) rfl (fun ls hl => ?_)
  exact l_X9_findLeast_2 C hn o_t FU _ _ _ _ _ hf hH (lv_sub hl [1, 2, 0] rfl)
-- HeavierByHand$Trays.mostCuts
def fn_X9_mostCuts_J35 (v5_8 : Int) (rec8 : Int → Int → Option Int) (v4_35 : Int) : Option Int :=
  nm (v5_8 + 1) fun v5_35 => rec8 v5_35 v4_35
def fn_X9_mostCuts_L8 (t : Nat) (a1 : Int) (a3 : Int) (M : Mem) (rec8 : Int → Int → Option Int) (v5_8 : Int) (v4_8 : Int) : Option Int :=
  cLt v5_8 a3 (cu (fn_X9_wrongBy t a1 v5_8 M) fun x18 => cu (fn_X9_wrongBy t a1 v4_8 M) fun x25 => cLt x25 x18 (fn_X9_mostCuts_J35 v5_8 rec8 v4_8) (fn_X9_mostCuts_J35 v5_8 rec8 v5_8)) (some v4_8)
def fn_X9_mostCuts (t : Nat) (a1 : Int) (a2 : Int) (a3 : Int) (M : Mem) : Option Int :=
  nm ((a2 + 1)) fun v5_6 => lq2 (fn_X9_mostCuts_L8 t a1 a3 M) FU v5_6 a2
set_option maxRecDepth 100000 in
set_option maxHeartbeats 4000000 in
theorem j_X9_mostCuts_35 {p : Program} {l : Launch} {e : Env} {s : State} {m : MethodId} {args : Array Value} {below : List Frame} {meth : Method} {c : Code} {E : EE} {n : Nat} {o : Int} {t : Nat} {a1 : Int} {a3 : Int} {M : Mem} {v5_8 : Int} {rec8 : Int → Int → Option Int} {v4_35 : Int} {H : Heap} {locs : List Loc} {ls : Array Slot} (C : Cx E p s m args meth c cX9_mostCuts 6 RX9 (some .int) n "mostCuts") (hn : nfull n) (o_t : ob n t 9) (h_rec8 : ∀ {v5_8 : Int} {v4_8 : Int} {H : Heap} {locs : List Loc} {ls : Array Slot}, rec8 v5_8 v4_8 = some o → ST E s n (zf n) M H locs → lv_has ls 6 [(0, .ref (eb E + t)), (1, i3 a1), (3, i3 a3), (4, i3 v4_8), (5, i3 v5_8)] → W p l e { frames := 5, cells := 0, slots := 0, locals := 144 } s m args below meth c H locs 0 0 (MQ below (QC E (some (i3 o)) n (zf n) M) args s 0 0 (fr E)) (F0 m 8 ls [])) (hf : fn_X9_mostCuts_J35 v5_8 rec8 v4_35 = some o) (hH : ST E s n (zf n) M H locs) (hl : lv_has ls 6 [(0, .ref (eb E + t)), (1, i3 a1), (3, i3 a3), (4, i3 v4_35), (5, i3 v5_8)]) : W p l e { frames := 5, cells := 0, slots := 0, locals := 144 } s m args below meth c H locs 0 0 (MQ below (QC E (some (i3 o)) n (zf n) M) args s 0 0 (fr E)) (F0 m 35 ls []) := by
  unfold fn_X9_mostCuts_J35 at hf
  refine r_iinc (k := 4) (lv' := fun v => [(5, i3 v), (0, .ref (eb E + t)), (1, i3 a1), (3, i3 a3), (4, i3 v4_35)]) C hf dX9_mostCuts_35 hl rfl (by decide) (fun _ => rfl) (fun v5_35 ls hf hl => ?_)
  refine lv_goto (tgt := 8) C.hx C.hb dX9_mostCuts_38 (by decide) ?_
  exact h_rec8 hf hH (lv_sub hl [1, 2, 3, 4, 0] rfl)
set_option maxRecDepth 100000 in
set_option maxHeartbeats 4000000 in
theorem l_X9_mostCuts_8 {p : Program} {l : Launch} {e : Env} {s : State} {m : MethodId} {args : Array Value} {below : List Frame} {meth : Method} {c : Code} {E : EE} {n : Nat} {o : Int} {t : Nat} {a1 : Int} {a3 : Int} {M : Mem} (C : Cx E p s m args meth c cX9_mostCuts 6 RX9 (some .int) n "mostCuts") (hn : nfull n) (o_t : ob n t 9) : ∀ (k : Nat) (v5_8 : Int) (v4_8 : Int) (H : Heap) (locs : List Loc) (ls : Array Slot), lq2 (fn_X9_mostCuts_L8 t a1 a3 M) k v5_8 v4_8 = some o → ST E s n (zf n) M H locs → lv_has ls 6 [(0, .ref (eb E + t)), (1, i3 a1), (3, i3 a3), (4, i3 v4_8), (5, i3 v5_8)] → W p l e { frames := 5, cells := 0, slots := 0, locals := 144 } s m args below meth c H locs 0 0 (MQ below (QC E (some (i3 o)) n (zf n) M) args s 0 0 (fr E)) (F0 m 8 ls []) := by
  intro k
  induction k with
  | zero => intro v5_8 v4_8 H locs ls hf; cases hf
  | succ k ih =>
    intro v5_8 v4_8 H locs ls hf hH hl
    have h_rec8 : ∀ {v5_8 : Int} {v4_8 : Int} {H : Heap} {locs : List Loc} {ls : Array Slot}, lq2 (fn_X9_mostCuts_L8 t a1 a3 M) k v5_8 v4_8 = some o → ST E s n (zf n) M H locs → lv_has ls 6 [(0, .ref (eb E + t)), (1, i3 a1), (3, i3 a3), (4, i3 v4_8), (5, i3 v5_8)] → W p l e { frames := 5, cells := 0, slots := 0, locals := 144 } s m args below meth c H locs 0 0 (MQ below (QC E (some (i3 o)) n (zf n) M) args s 0 0 (fr E)) (F0 m 8 ls []) := fun {v5_8} {v4_8} {H} {locs} {ls} a b c => ih v5_8 v4_8 H locs ls a b c
    replace hf : fn_X9_mostCuts_L8 t a1 a3 M (lq2 (fn_X9_mostCuts_L8 t a1 a3 M) k) v5_8 v4_8 = some o := hf
    generalize lq2 (fn_X9_mostCuts_L8 t a1 a3 M) k = rec8 at hf h_rec8
    unfold fn_X9_mostCuts_L8 at hf
    refine lv_iload C.hx C.hb dX9_mostCuts_8 (lv_at hl 4 rfl) ?_
    refine lv_iload_n C.hx C.hb dX9_mostCuts_10 rfl (lv_at hl 2 rfl) ?_
    refine w_ge (tgt := 41) C hf dX9_mostCuts_11 (by decide) (fun hf => ?_) (fun hf => ?_)
    · refine lv_iload C.hx C.hb dX9_mostCuts_41 (lv_at hl 3 rfl) ?_
      cases hf
      exact w_iret C hH dX9_mostCuts_43
    · refine lv_aload_n C.hx C.hb dX9_mostCuts_14 rfl (lv_at hl 0 rfl) ?_
      refine lv_iload_n C.hx C.hb dX9_mostCuts_15 rfl (lv_at hl 1 rfl) ?_
      refine lv_iload C.hx C.hb dX9_mostCuts_16 (lv_at hl 4 rfl) ?_
      obtain ⟨x18, hc9, hf⟩ := cu_of hf
      refine r_callVi (rest := []) C hH hl o_t (by decide) rfl (m_X9_wrongBy hn o_t hc9) ML_RX9_65 MF_X9_wrongBy MI_X9_wrongBy rfl rfl (Nat.le_of_ble_eq_true rfl) ⟨Nat.le_of_ble_eq_true rfl, Nat.le_of_ble_eq_true rfl⟩ ⟨Nat.le_refl _, Nat.le_refl _⟩ dX9_mostCuts_18 (fun H locs hH => ?_)
      refine lv_aload_n C.hx C.hb dX9_mostCuts_21 rfl (lv_at hl 0 rfl) ?_
      refine lv_iload_n C.hx C.hb dX9_mostCuts_22 rfl (lv_at hl 1 rfl) ?_
      refine lv_iload C.hx C.hb dX9_mostCuts_23 (lv_at hl 3 rfl) ?_
      obtain ⟨x25, hc9, hf⟩ := cu_of hf
      refine r_callVi (rest := [i3 x18]) C hH hl o_t (by decide) rfl (m_X9_wrongBy hn o_t hc9) ML_RX9_65 MF_X9_wrongBy MI_X9_wrongBy rfl rfl (Nat.le_of_ble_eq_true rfl) ⟨Nat.le_of_ble_eq_true rfl, Nat.le_of_ble_eq_true rfl⟩ ⟨Nat.le_refl _, Nat.le_refl _⟩ dX9_mostCuts_25 (fun H locs hH => ?_)
      refine w_gt (tgt := 35) C hf dX9_mostCuts_28 (by decide) (fun hf => ?_) (fun hf => ?_)
      · exact j_X9_mostCuts_35 C hn o_t h_rec8 hf hH (lv_sub hl [0, 1, 2, 3, 4] rfl)
      · refine lv_iload C.hx C.hb dX9_mostCuts_31 (lv_at hl 4 rfl) ?_
        refine lv_istore (lv' := [(4, i3 v5_8), (0, .ref (eb E + t)), (1, i3 a1), (3, i3 a3), (5, i3 v5_8)]) C.hx C.hb dX9_mostCuts_33 hl (by decide) rfl (fun ls hl => ?_)
        exact j_X9_mostCuts_35 C hn o_t h_rec8 hf hH (lv_sub hl [1, 2, 3, 0, 4] rfl)
set_option maxRecDepth 100000 in
set_option maxHeartbeats 4000000 in
theorem m_X9_mostCuts {E : EE} {l : Launch} {n : Nat} {t : Nat} {a1 : Int} {a2 : Int} {a3 : Int} {M : Mem} {o : Int} (hn : nfull n) (o_t : ob n t 9) (hf : fn_X9_mostCuts t a1 a2 a3 M = some o) : CT E l yX9_mostCuts cX9_mostCuts 6 (some .int) 5 144 0 0 [.ref (eb E + t), i3 a1, i3 a2, i3 a3] n (zf n) M (some (i3 o)) n (zf n) M := by
  refine CT_of PN_RX9 (Nat.le_of_ble_eq_true rfl) ?_
  intro p e s m args below meth c C hH ls hl
  replace C : Cx E p s m args meth c cX9_mostCuts 6 RX9 (some .int) n "mostCuts" := C
  have hl : lv_has ls 6 [(0, .ref (eb E + t)), (1, i3 a1), (2, i3 a2), (3, i3 a3)] := hl
  unfold fn_X9_mostCuts at hf
  refine lv_iload_n C.hx C.hb dX9_mostCuts_0 rfl (lv_at hl 2 rfl) ?_
  refine lv_istore (lv' := [(4, i3 a2), (0, .ref (eb E + t)), (1, i3 a1), (2, i3 a2), (3, i3 a3)]) C.hx C.hb dX9_mostCuts_1 hl (by decide) rfl (fun ls hl => ?_)
  refine lv_iload_n C.hx C.hb dX9_mostCuts_3 rfl (lv_at hl 3 rfl) ?_
  refine lv_iconst (v := Int32.ofInt 1) C.hx C.hb dX9_mostCuts_4 rfl ?_
  refine w_iadd C dX9_mostCuts_5 ?_
  refine r_nm hf (fun v5_6 hf => ?_)
  refine lv_istore (lv' := [(5, i3 v5_6), (4, i3 a2), (0, .ref (eb E + t)), (1, i3 a1), (2, i3 a2), (3, i3 a3)]) C.hx C.hb dX9_mostCuts_6 hl (by decide) rfl (fun ls hl => ?_)
  exact l_X9_mostCuts_8 C hn o_t FU _ _ _ _ _ hf hH (lv_sub hl [2, 3, 5, 1, 0] rfl)
-- HeavierByHand$Trays.placeCuts
def fn_X9_placeCuts_J65 (v3_4 : Int) (rec4 : Int → Int → Mem → Option Mem) (x22 : Int) (M65 : Mem) : Option Mem :=
  nm (v3_4 + 1) fun v3_68 => rec4 v3_68 x22 M65
def fn_X9_placeCuts_L32 (t : Nat) (v3_4 : Int) (rec4 : Int → Int → Mem → Option Mem) (x22 : Int) (rec32 : Int → Mem → Option Mem) (v5_32 : Int) (M32 : Mem) : Option Mem :=
  cLt x22 v5_32 (fn_X9_placeCuts_J65 v3_4 rec4 x22 M32) (cLt v5_32 6 (rd M32 (t + 2) 21 v3_4 fun x57 => wr M32 (t + 1) 6 v5_32 x57 fun M58 => nm (v5_32 + 1) fun v5_59 => rec32 v5_59 M58) (fn_X9_placeCuts_J65 v3_4 rec4 x22 M32))
def fn_X9_placeCuts_L4 (t : Nat) (a1 : Int) (rec4 : Int → Int → Mem → Option Mem) (v3_4 : Int) (v2_4 : Int) (M4 : Mem) : Option Mem :=
  cLt v3_4 (M4 t 2) (cLt v3_4 21 (cu (fn_X9_mostCuts t v3_4 v2_4 a1 M4) fun x22 => nm ((v2_4 + 1)) fun v5_30 => lq2 (fn_X9_placeCuts_L32 t v3_4 rec4 x22) FU v5_30 M4) (some M4)) (some M4)
def fn_X9_placeCuts (t : Nat) (a1 : Int) (M : Mem) : Option Mem :=
  lq3 (fn_X9_placeCuts_L4 t a1) FU 0 0 M
set_option maxRecDepth 100000 in
set_option maxHeartbeats 4000000 in
theorem j_X9_placeCuts_65 {p : Program} {l : Launch} {e : Env} {s : State} {m : MethodId} {args : Array Value} {below : List Frame} {meth : Method} {c : Code} {E : EE} {n : Nat} {o : Mem} {t : Nat} {a1 : Int} {v3_4 : Int} {rec4 : Int → Int → Mem → Option Mem} {x22 : Int} {M65 : Mem} {H : Heap} {locs : List Loc} {ls : Array Slot} (C : Cx E p s m args meth c cX9_placeCuts 6 RX9 none n "placeCuts") (hn : nfull n) (o_t : ob n t 9) (h_rec4 : ∀ {v3_4 : Int} {v2_4 : Int} {M4 : Mem} {H : Heap} {locs : List Loc} {ls : Array Slot}, rec4 v3_4 v2_4 M4 = some o → ST E s n (zf n) M4 H locs → lv_has ls 6 [(0, .ref (eb E + t)), (1, i3 a1), (2, i3 v2_4), (3, i3 v3_4)] → W p l e { frames := 6, cells := 0, slots := 0, locals := 169 } s m args below meth c H locs 0 0 (MQ below (QC E none n (zf n) o) args s 0 0 (fr E)) (F0 m 4 ls [])) (hf : fn_X9_placeCuts_J65 v3_4 rec4 x22 M65 = some o) (hH : ST E s n (zf n) M65 H locs) (hl : lv_has ls 6 [(0, .ref (eb E + t)), (1, i3 a1), (3, i3 v3_4), (4, i3 x22)]) : W p l e { frames := 6, cells := 0, slots := 0, locals := 169 } s m args below meth c H locs 0 0 (MQ below (QC E none n (zf n) o) args s 0 0 (fr E)) (F0 m 65 ls []) := by
  unfold fn_X9_placeCuts_J65 at hf
  refine lv_iload C.hx C.hb dX9_placeCuts_65 (lv_at hl 3 rfl) ?_
  refine lv_istore_n (lv' := [(2, i3 x22), (0, .ref (eb E + t)), (1, i3 a1), (3, i3 v3_4), (4, i3 x22)]) C.hx C.hb dX9_placeCuts_67 rfl hl (by decide) rfl (fun ls hl => ?_)
  refine r_iinc (k := 3) (lv' := fun v => [(3, i3 v), (2, i3 x22), (0, .ref (eb E + t)), (1, i3 a1), (4, i3 x22)]) C hf dX9_placeCuts_68 hl rfl (by decide) (fun _ => rfl) (fun v3_68 ls hf hl => ?_)
  refine lv_goto (tgt := 4) C.hx C.hb dX9_placeCuts_71 (by decide) ?_
  exact h_rec4 hf hH (lv_sub hl [2, 3, 1, 0] rfl)
set_option maxRecDepth 100000 in
set_option maxHeartbeats 4000000 in
theorem l_X9_placeCuts_32 {p : Program} {l : Launch} {e : Env} {s : State} {m : MethodId} {args : Array Value} {below : List Frame} {meth : Method} {c : Code} {E : EE} {n : Nat} {o : Mem} {t : Nat} {a1 : Int} {v3_4 : Int} {rec4 : Int → Int → Mem → Option Mem} {x22 : Int} (C : Cx E p s m args meth c cX9_placeCuts 6 RX9 none n "placeCuts") (hn : nfull n) (o_t : ob n t 9) (h_rec4 : ∀ {v3_4 : Int} {v2_4 : Int} {M4 : Mem} {H : Heap} {locs : List Loc} {ls : Array Slot}, rec4 v3_4 v2_4 M4 = some o → ST E s n (zf n) M4 H locs → lv_has ls 6 [(0, .ref (eb E + t)), (1, i3 a1), (2, i3 v2_4), (3, i3 v3_4)] → W p l e { frames := 6, cells := 0, slots := 0, locals := 169 } s m args below meth c H locs 0 0 (MQ below (QC E none n (zf n) o) args s 0 0 (fr E)) (F0 m 4 ls [])) : ∀ (k : Nat) (v5_32 : Int) (M32 : Mem) (H : Heap) (locs : List Loc) (ls : Array Slot), lq2 (fn_X9_placeCuts_L32 t v3_4 rec4 x22) k v5_32 M32 = some o → ST E s n (zf n) M32 H locs → lv_has ls 6 [(0, .ref (eb E + t)), (1, i3 a1), (3, i3 v3_4), (4, i3 x22), (5, i3 v5_32)] → W p l e { frames := 6, cells := 0, slots := 0, locals := 169 } s m args below meth c H locs 0 0 (MQ below (QC E none n (zf n) o) args s 0 0 (fr E)) (F0 m 32 ls []) := by
  intro k
  induction k with
  | zero => intro v5_32 M32 H locs ls hf; cases hf
  | succ k ih =>
    intro v5_32 M32 H locs ls hf hH hl
    have h_rec32 : ∀ {v5_32 : Int} {M32 : Mem} {H : Heap} {locs : List Loc} {ls : Array Slot}, lq2 (fn_X9_placeCuts_L32 t v3_4 rec4 x22) k v5_32 M32 = some o → ST E s n (zf n) M32 H locs → lv_has ls 6 [(0, .ref (eb E + t)), (1, i3 a1), (3, i3 v3_4), (4, i3 x22), (5, i3 v5_32)] → W p l e { frames := 6, cells := 0, slots := 0, locals := 169 } s m args below meth c H locs 0 0 (MQ below (QC E none n (zf n) o) args s 0 0 (fr E)) (F0 m 32 ls []) := fun {v5_32} {M32} {H} {locs} {ls} a b c => ih v5_32 M32 H locs ls a b c
    replace hf : fn_X9_placeCuts_L32 t v3_4 rec4 x22 (lq2 (fn_X9_placeCuts_L32 t v3_4 rec4 x22) k) v5_32 M32 = some o := hf
    generalize lq2 (fn_X9_placeCuts_L32 t v3_4 rec4 x22) k = rec32 at hf h_rec32
    unfold fn_X9_placeCuts_L32 at hf
    refine lv_iload C.hx C.hb dX9_placeCuts_32 (lv_at hl 4 rfl) ?_
    refine lv_iload C.hx C.hb dX9_placeCuts_34 (lv_at hl 3 rfl) ?_
    refine w_gt (tgt := 65) C hf dX9_placeCuts_36 (by decide) (fun hf => ?_) (fun hf => ?_)
    · exact j_X9_placeCuts_65 C hn o_t h_rec4 hf hH (lv_sub hl [0, 1, 2, 3] rfl)
    · refine lv_iload C.hx C.hb dX9_placeCuts_39 (lv_at hl 4 rfl) ?_
      refine lv_bipush (v := Int32.ofInt 6) C.hx C.hb dX9_placeCuts_41 (by decide) ?_
      refine w_ge (tgt := 65) C hf dX9_placeCuts_43 (by decide) (fun hf => ?_) (fun hf => ?_)
      · exact j_X9_placeCuts_65 C hn o_t h_rec4 hf hH (lv_sub hl [0, 1, 2, 3] rfl)
      · refine lv_aload_n C.hx C.hb dX9_placeCuts_46 rfl (lv_at hl 0 rfl) ?_
        refine g_ref (off := 1) C hH o_t (by decide) rfl rfl FL_RX9_9 dX9_placeCuts_47 ?_
        refine lv_iload C.hx C.hb dX9_placeCuts_50 (lv_at hl 4 rfl) ?_
        refine lv_aload_n C.hx C.hb dX9_placeCuts_52 rfl (lv_at hl 0 rfl) ?_
        refine g_ref (off := 2) C hH o_t (by decide) rfl rfl FL_RX9_15 dX9_placeCuts_53 ?_
        refine lv_iload_n C.hx C.hb dX9_placeCuts_56 rfl (lv_at hl 2 rfl) ?_
        refine r_iald C hH (ly (i := 1) (off := 2) (k := 12) hn o_t rfl rfl rfl) (lyn (i := 1) (off := 2) (N := 20) hn o_t rfl rfl rfl) hf dX9_placeCuts_57 (fun x57 hf => ?_)
        refine r_iast C hH (ly (i := 0) (off := 1) (k := 12) hn o_t rfl rfl rfl) (lyn (i := 0) (off := 1) (N := 5) hn o_t rfl rfl rfl) hf dX9_placeCuts_58 (fun M58 H locs hf hH => ?_)
        refine r_iinc (k := 4) (lv' := fun v => [(5, i3 v), (0, .ref (eb E + t)), (1, i3 a1), (3, i3 v3_4), (4, i3 x22)]) C hf dX9_placeCuts_59 hl rfl (by decide) (fun _ => rfl) (fun v5_59 ls hf hl => ?_)
        refine lv_goto (tgt := 32) C.hx C.hb dX9_placeCuts_62 (by decide) ?_
        exact h_rec32 hf hH (lv_sub hl [1, 2, 3, 4, 0] rfl)
set_option maxRecDepth 100000 in
set_option maxHeartbeats 4000000 in
theorem l_X9_placeCuts_4 {p : Program} {l : Launch} {e : Env} {s : State} {m : MethodId} {args : Array Value} {below : List Frame} {meth : Method} {c : Code} {E : EE} {n : Nat} {o : Mem} {t : Nat} {a1 : Int} (C : Cx E p s m args meth c cX9_placeCuts 6 RX9 none n "placeCuts") (hn : nfull n) (o_t : ob n t 9) : ∀ (k : Nat) (v3_4 : Int) (v2_4 : Int) (M4 : Mem) (H : Heap) (locs : List Loc) (ls : Array Slot), lq3 (fn_X9_placeCuts_L4 t a1) k v3_4 v2_4 M4 = some o → ST E s n (zf n) M4 H locs → lv_has ls 6 [(0, .ref (eb E + t)), (1, i3 a1), (2, i3 v2_4), (3, i3 v3_4)] → W p l e { frames := 6, cells := 0, slots := 0, locals := 169 } s m args below meth c H locs 0 0 (MQ below (QC E none n (zf n) o) args s 0 0 (fr E)) (F0 m 4 ls []) := by
  intro k
  induction k with
  | zero => intro v3_4 v2_4 M4 H locs ls hf; cases hf
  | succ k ih =>
    intro v3_4 v2_4 M4 H locs ls hf hH hl
    have h_rec4 : ∀ {v3_4 : Int} {v2_4 : Int} {M4 : Mem} {H : Heap} {locs : List Loc} {ls : Array Slot}, lq3 (fn_X9_placeCuts_L4 t a1) k v3_4 v2_4 M4 = some o → ST E s n (zf n) M4 H locs → lv_has ls 6 [(0, .ref (eb E + t)), (1, i3 a1), (2, i3 v2_4), (3, i3 v3_4)] → W p l e { frames := 6, cells := 0, slots := 0, locals := 169 } s m args below meth c H locs 0 0 (MQ below (QC E none n (zf n) o) args s 0 0 (fr E)) (F0 m 4 ls []) := fun {v3_4} {v2_4} {M4} {H} {locs} {ls} a b c => ih v3_4 v2_4 M4 H locs ls a b c
    replace hf : fn_X9_placeCuts_L4 t a1 (lq3 (fn_X9_placeCuts_L4 t a1) k) v3_4 v2_4 M4 = some o := hf
    generalize lq3 (fn_X9_placeCuts_L4 t a1) k = rec4 at hf h_rec4
    unfold fn_X9_placeCuts_L4 at hf
    refine lv_iload_n C.hx C.hb dX9_placeCuts_4 rfl (lv_at hl 3 rfl) ?_
    refine lv_aload_n C.hx C.hb dX9_placeCuts_5 rfl (lv_at hl 0 rfl) ?_
    refine g_int C hH o_t (by decide) rfl FL_RX9_39 dX9_placeCuts_6 ?_
    refine w_ge (tgt := 74) C hf dX9_placeCuts_9 (by decide) (fun hf => ?_) (fun hf => ?_)
    · cases hf
      exact w_vret C hH dX9_placeCuts_74
    · refine lv_iload_n C.hx C.hb dX9_placeCuts_12 rfl (lv_at hl 3 rfl) ?_
      refine lv_bipush (v := Int32.ofInt 21) C.hx C.hb dX9_placeCuts_13 (by decide) ?_
      refine w_ge (tgt := 74) C hf dX9_placeCuts_15 (by decide) (fun hf => ?_) (fun hf => ?_)
      · cases hf
        exact w_vret C hH dX9_placeCuts_74
      · refine lv_aload_n C.hx C.hb dX9_placeCuts_18 rfl (lv_at hl 0 rfl) ?_
        refine lv_iload_n C.hx C.hb dX9_placeCuts_19 rfl (lv_at hl 3 rfl) ?_
        refine lv_iload_n C.hx C.hb dX9_placeCuts_20 rfl (lv_at hl 2 rfl) ?_
        refine lv_iload_n C.hx C.hb dX9_placeCuts_21 rfl (lv_at hl 1 rfl) ?_
        obtain ⟨x22, hc9, hf⟩ := cu_of hf
        refine r_callVi (rest := []) C hH hl o_t (by decide) rfl (m_X9_mostCuts hn o_t hc9) ML_RX9_74 MF_X9_mostCuts MI_X9_mostCuts rfl rfl (Nat.le_of_ble_eq_true rfl) ⟨Nat.le_of_ble_eq_true rfl, Nat.le_of_ble_eq_true rfl⟩ ⟨Nat.le_refl _, Nat.le_refl _⟩ dX9_placeCuts_22 (fun H locs hH => ?_)
        refine lv_istore (lv' := [(4, i3 x22), (0, .ref (eb E + t)), (1, i3 a1), (2, i3 v2_4), (3, i3 v3_4)]) C.hx C.hb dX9_placeCuts_25 hl (by decide) rfl (fun ls hl => ?_)
        refine lv_iload_n C.hx C.hb dX9_placeCuts_27 rfl (lv_at hl 3 rfl) ?_
        refine lv_iconst (v := Int32.ofInt 1) C.hx C.hb dX9_placeCuts_28 rfl ?_
        refine w_iadd C dX9_placeCuts_29 ?_
        refine r_nm hf (fun v5_30 hf => ?_)
        refine lv_istore (lv' := [(5, i3 v5_30), (4, i3 x22), (0, .ref (eb E + t)), (1, i3 a1), (2, i3 v2_4), (3, i3 v3_4)]) C.hx C.hb dX9_placeCuts_30 hl (by decide) rfl (fun ls hl => ?_)
        exact l_X9_placeCuts_32 C hn o_t h_rec4 FU _ _ _ _ _ hf hH (lv_sub hl [2, 3, 5, 1, 0] rfl)
set_option maxRecDepth 100000 in
set_option maxHeartbeats 4000000 in
theorem m_X9_placeCuts {E : EE} {l : Launch} {n : Nat} {t : Nat} {a1 : Int} {M : Mem} {o : Mem} (hn : nfull n) (o_t : ob n t 9) (hf : fn_X9_placeCuts t a1 M = some o) : CT E l yX9_placeCuts cX9_placeCuts 6 none 6 169 0 0 [.ref (eb E + t), i3 a1] n (zf n) M none n (zf n) o := by
  refine CT_of PN_RX9 (Nat.le_of_ble_eq_true rfl) ?_
  intro p e s m args below meth c C hH ls hl
  replace C : Cx E p s m args meth c cX9_placeCuts 6 RX9 none n "placeCuts" := C
  have hl : lv_has ls 6 [(0, .ref (eb E + t)), (1, i3 a1)] := hl
  unfold fn_X9_placeCuts at hf
  refine lv_iconst (v := Int32.ofInt 0) C.hx C.hb dX9_placeCuts_0 rfl ?_
  refine lv_istore_n (lv' := [(2, i3 0), (0, .ref (eb E + t)), (1, i3 a1)]) C.hx C.hb dX9_placeCuts_1 rfl hl (by decide) rfl (fun ls hl => ?_)
  refine lv_iconst (v := Int32.ofInt 0) C.hx C.hb dX9_placeCuts_2 rfl ?_
  refine lv_istore_n (lv' := [(3, i3 0), (2, i3 0), (0, .ref (eb E + t)), (1, i3 a1)]) C.hx C.hb dX9_placeCuts_3 rfl hl (by decide) rfl (fun ls hl => ?_)
  exact l_X9_placeCuts_4 C hn o_t FU _ _ _ _ _ _ hf hH (lv_sub hl [2, 3, 1, 0] rfl)
-- HeavierByHand$Trays.arrange
def fn_X9_arrange (t : Nat) (r1 : Nat) (a2 : Int) (M : Mem) : Option (Int × Mem) :=
  cv (fn_X9_findEdges t r1 M) fun M2 => cv (fn_X9_countWrong t r1 a2 M2) fun M8 => cv (fn_X9_findLeast t a2 M8) fun M13 => cv (fn_X9_placeCuts t a2 M13) fun M18 => rd M18 (t + 4) 132 0 fun x26 => some (x26, M18)
set_option maxRecDepth 100000 in
set_option maxHeartbeats 4000000 in
theorem m_X9_arrange {E : EE} {l : Launch} {n : Nat} {t : Nat} {r1 : Nat} {a2 : Int} {M : Mem} {o : (Int × Mem)} (hn : nfull n) (o_t : ob n t 9) (o_r1 : ob n r1 4) (hf : fn_X9_arrange t r1 a2 M = some o) : CT E l yX9_arrange cX9_arrange 3 (some .int) 7 194 0 0 [.ref (eb E + t), .ref (eb E + r1), i3 a2] n (zf n) M (some (i3 o.1)) n (zf n) o.2 := by
  refine CT_of PN_RX9 (Nat.le_of_ble_eq_true rfl) ?_
  intro p e s m args below meth c C hH ls hl
  replace C : Cx E p s m args meth c cX9_arrange 3 RX9 (some .int) n "arrange" := C
  have hl : lv_has ls 3 [(0, .ref (eb E + t)), (1, .ref (eb E + r1)), (2, i3 a2)] := hl
  unfold fn_X9_arrange at hf
  refine lv_aload_n C.hx C.hb dX9_arrange_0 rfl (lv_at hl 0 rfl) ?_
  refine lv_aload_n C.hx C.hb dX9_arrange_1 rfl (lv_at hl 1 rfl) ?_
  obtain ⟨M2, hc9, hf⟩ := cv_of hf
  refine r_callVv (rest := []) C hH hl o_t (by decide) rfl (m_X9_findEdges hn o_t o_r1 hc9) ML_RX9_24 MF_X9_findEdges MI_X9_findEdges rfl rfl (Nat.le_of_ble_eq_true rfl) ⟨Nat.le_of_ble_eq_true rfl, Nat.le_of_ble_eq_true rfl⟩ ⟨Nat.le_refl _, Nat.le_refl _⟩ dX9_arrange_2 (fun H locs hH => ?_)
  refine lv_aload_n C.hx C.hb dX9_arrange_5 rfl (lv_at hl 0 rfl) ?_
  refine lv_aload_n C.hx C.hb dX9_arrange_6 rfl (lv_at hl 1 rfl) ?_
  refine lv_iload_n C.hx C.hb dX9_arrange_7 rfl (lv_at hl 2 rfl) ?_
  obtain ⟨M8, hc9, hf⟩ := cv_of hf
  refine r_callVv (rest := []) C hH hl o_t (by decide) rfl (m_X9_countWrong hn o_t o_r1 hc9) ML_RX9_28 MF_X9_countWrong MI_X9_countWrong rfl rfl (Nat.le_of_ble_eq_true rfl) ⟨Nat.le_of_ble_eq_true rfl, Nat.le_of_ble_eq_true rfl⟩ ⟨Nat.le_refl _, Nat.le_refl _⟩ dX9_arrange_8 (fun H locs hH => ?_)
  refine lv_aload_n C.hx C.hb dX9_arrange_11 rfl (lv_at hl 0 rfl) ?_
  refine lv_iload_n C.hx C.hb dX9_arrange_12 rfl (lv_at hl 2 rfl) ?_
  obtain ⟨M13, hc9, hf⟩ := cv_of hf
  refine r_callVv (rest := []) C hH hl o_t (by decide) rfl (m_X9_findLeast hn o_t hc9) ML_RX9_32 MF_X9_findLeast MI_X9_findLeast rfl rfl (Nat.le_of_ble_eq_true rfl) ⟨Nat.le_of_ble_eq_true rfl, Nat.le_of_ble_eq_true rfl⟩ ⟨Nat.le_refl _, Nat.le_refl _⟩ dX9_arrange_13 (fun H locs hH => ?_)
  refine lv_aload_n C.hx C.hb dX9_arrange_16 rfl (lv_at hl 0 rfl) ?_
  refine lv_iload_n C.hx C.hb dX9_arrange_17 rfl (lv_at hl 2 rfl) ?_
  obtain ⟨M18, hc9, hf⟩ := cv_of hf
  refine r_callVv (rest := []) C hH hl o_t (by decide) rfl (m_X9_placeCuts hn o_t hc9) ML_RX9_36 MF_X9_placeCuts MI_X9_placeCuts rfl rfl (Nat.le_of_ble_eq_true rfl) ⟨Nat.le_of_ble_eq_true rfl, Nat.le_of_ble_eq_true rfl⟩ ⟨Nat.le_refl _, Nat.le_refl _⟩ dX9_arrange_18 (fun H locs hH => ?_)
  refine lv_aload_n C.hx C.hb dX9_arrange_21 rfl (lv_at hl 0 rfl) ?_
  refine g_ref (off := 4) C hH o_t (by decide) rfl rfl FL_RX9_21 dX9_arrange_22 ?_
  refine lv_iconst (v := Int32.ofInt 0) C.hx C.hb dX9_arrange_25 rfl ?_
  refine r_iald C hH (ly (i := 4) (off := 4) (k := 12) hn o_t rfl rfl rfl) (lyn (i := 4) (off := 4) (N := 131) hn o_t rfl rfl rfl) hf dX9_arrange_26 (fun x26 hf => ?_)
  cases hf
  exact w_iret C hH dX9_arrange_27
