-- HeavierByHand$RowTable.start
def fn_X2_start (a0 : Int) (M : Mem) : Option Int :=
  some ((10 * (a0 - 1)) * ((15 * a0) + 1))
set_option maxRecDepth 100000 in
set_option maxHeartbeats 4000000 in
theorem m_X2_start {E : EE} {l : Launch} {n : Nat} {a0 : Int} {M : Mem} {o : Int} (hn : nfull n) (hf : fn_X2_start a0 M = some o) : CT E l yX2_start cX2_start 1 (some .int) 0 0 0 0 [i3 a0] n (zf n) M (some (i3 o)) n (zf n) M := by
  refine CT_of PN_RX2 (Nat.le_of_ble_eq_true rfl) ?_
  intro p e s m args below meth c C hH ls hl
  replace C : Cx E p s m args meth c cX2_start 1 RX2 (some .int) n "start" := C
  have hl : lv_has ls 1 [(0, i3 a0)] := hl
  unfold fn_X2_start at hf
  refine lv_bipush (v := Int32.ofInt 10) C.hx C.hb dX2_start_0 (by decide) ?_
  refine lv_iload_n C.hx C.hb dX2_start_2 rfl (lv_at hl 0 rfl) ?_
  refine lv_iconst (v := Int32.ofInt 1) C.hx C.hb dX2_start_3 rfl ?_
  refine w_isub C dX2_start_4 ?_
  refine w_imul C dX2_start_5 ?_
  refine lv_bipush (v := Int32.ofInt 15) C.hx C.hb dX2_start_6 (by decide) ?_
  refine lv_iload_n C.hx C.hb dX2_start_8 rfl (lv_at hl 0 rfl) ?_
  refine w_imul C dX2_start_9 ?_
  refine lv_iconst (v := Int32.ofInt 1) C.hx C.hb dX2_start_10 rfl ?_
  refine w_iadd C dX2_start_11 ?_
  refine w_imul C dX2_start_12 ?_
  cases hf
  exact w_iret C hH dX2_start_13
-- HeavierByHand$RowTable.suit
def fn_X2_suit_J77 (t : Nat) (r1 : Nat) (a2 : Int) (M : Mem) (v3_77 : Int) : Option Mem :=
  cEq v3_77 0 (cm M (r1 + 1) (t + 1) 10 fun M94 => ck (R3 (M94 r1 1) ∧ R3 10) <| st M94 t 4 (min (M94 r1 1) 10) fun M107 => st M107 t 5 a2 fun M112 => st M112 t 6 0 fun M117 => some M117) (some M)
def fn_X2_suit_J70 (v4_28 : Int) (rec28 : Int → Int → Option Mem) (u0_70 : Int) : Option Mem :=
  nm (v4_28 + 1) fun v4_71 => rec28 v4_71 u0_70
def fn_X2_suit_L28 (t : Nat) (r1 : Nat) (a2 : Int) (M : Mem) (rec28 : Int → Int → Option Mem) (v4_28 : Int) (v3_28 : Int) : Option Mem :=
  cLt v4_28 (M t 4) (cLt v4_28 10 (cEq v3_28 0 (fn_X2_suit_J77 t r1 a2 M v3_28) (rd M (t + 1) 10 v4_28 fun x54 => rd M (r1 + 1) 10 v4_28 fun x61 => cEq x54 x61 (fn_X2_suit_J70 v4_28 rec28 1) (fn_X2_suit_J70 v4_28 rec28 0))) (fn_X2_suit_J77 t r1 a2 M v3_28)) (fn_X2_suit_J77 t r1 a2 M v3_28)
def fn_X2_suit_J24 (t : Nat) (r1 : Nat) (a2 : Int) (M : Mem) (u0_24 : Int) : Option Mem :=
  lq2 (fn_X2_suit_L28 t r1 a2 M) FU 0 u0_24
def fn_X2_suit_J23 (t : Nat) (r1 : Nat) (a2 : Int) (M : Mem) : Option Mem :=
  fn_X2_suit_J24 t r1 a2 M 0
def fn_X2_suit (t : Nat) (r1 : Nat) (a2 : Int) (M : Mem) : Option Mem :=
  cEq (M t 4) (M r1 1) (cEq (M t 5) a2 (fn_X2_suit_J24 t r1 a2 M 1) (fn_X2_suit_J23 t r1 a2 M)) (fn_X2_suit_J23 t r1 a2 M)
set_option maxRecDepth 100000 in
set_option maxHeartbeats 4000000 in
theorem j_X2_suit_77 {p : Program} {l : Launch} {e : Env} {s : State} {m : MethodId} {args : Array Value} {below : List Frame} {meth : Method} {c : Code} {E : EE} {n : Nat} {o : Mem} {t : Nat} {r1 : Nat} {a2 : Int} {M : Mem} {v3_77 : Int} {H : Heap} {locs : List Loc} {ls : Array Slot} (C : Cx E p s m args meth c cX2_suit 5 RX2 none n "suit") (hn : nfull n) (o_t : ob n t 2) (o_r1 : ob n r1 4) (hf : fn_X2_suit_J77 t r1 a2 M v3_77 = some o) (hH : ST E s n (zf n) M H locs) (hl : lv_has ls 5 [(0, .ref (eb E + t)), (1, .ref (eb E + r1)), (2, i3 a2), (3, i3 v3_77)]) : W p l e { frames := 4, cells := 0, slots := 0, locals := 120 } s m args below meth c H locs 0 0 (MQ below (QC E none n (zf n) o) args s 0 0 (fr E)) (F0 m 77 ls []) := by
  unfold fn_X2_suit_J77 at hf
  refine lv_iload_n C.hx C.hb dX2_suit_77 rfl (lv_at hl 3 rfl) ?_
  refine w_eq0 (tgt := 82) C hf dX2_suit_78 (by decide) (fun hf => ?_) (fun hf => ?_)
  · refine lv_aload_n C.hx C.hb dX2_suit_82 rfl (lv_at hl 1 rfl) ?_
    refine g_ref (off := 1) C hH o_r1 (by decide) rfl rfl FL_RX2_48 dX2_suit_83 ?_
    refine lv_iconst (v := Int32.ofInt 0) C.hx C.hb dX2_suit_86 rfl ?_
    refine lv_aload_n C.hx C.hb dX2_suit_87 rfl (lv_at hl 0 rfl) ?_
    refine g_ref (off := 1) C hH o_t (by decide) rfl rfl FL_RX2_9 dX2_suit_88 ?_
    refine lv_iconst (v := Int32.ofInt 0) C.hx C.hb dX2_suit_91 rfl ?_
    refine lv_bipush (v := Int32.ofInt 10) C.hx C.hb dX2_suit_92 (by decide) ?_
    refine r_copy (N := 10) (rest := []) C hH hl (ly (i := 0) (off := 1) (k := 12) hn o_r1 rfl rfl rfl) (ly (i := 3) (off := 1) (k := 12) hn o_t rfl rfl rfl) (lyn (i := 0) (off := 1) (N := 9) hn o_r1 rfl rfl rfl) (lyn (i := 3) (off := 1) (N := 9) hn o_t rfl rfl rfl) (by decide) (by decide) (by decide) hf ML_RX2_49 (Nat.le_of_ble_eq_true rfl) (Nat.le_of_ble_eq_true rfl) dX2_suit_94 (fun M94 H locs hf hH => ?_)
    refine lv_aload_n C.hx C.hb dX2_suit_97 rfl (lv_at hl 0 rfl) ?_
    refine lv_aload_n C.hx C.hb dX2_suit_98 rfl (lv_at hl 1 rfl) ?_
    refine g_int C hH o_r1 (by decide) rfl FL_RX2_45 dX2_suit_99 ?_
    refine lv_bipush (v := Int32.ofInt 10) C.hx C.hb dX2_suit_102 (by decide) ?_
    obtain ⟨hR8, hf⟩ := ck_of hf
    refine w_min C hl.1 hR8 ML_RX2_15 LB_min LB_mathi LB_minc (Nat.le_of_ble_eq_true rfl) (Nat.le_of_ble_eq_true rfl) (Nat.le_refl _) (Nat.le_refl _) dX2_suit_104 ?_
    refine r_put C hH o_t (by decide) rfl FL_RX2_42 FW_2_4 hf dX2_suit_107 (fun M107 H locs hf hH => ?_)
    refine lv_aload_n C.hx C.hb dX2_suit_110 rfl (lv_at hl 0 rfl) ?_
    refine lv_iload_n C.hx C.hb dX2_suit_111 rfl (lv_at hl 2 rfl) ?_
    refine r_put C hH o_t (by decide) rfl FL_RX2_39 FW_2_5 hf dX2_suit_112 (fun M112 H locs hf hH => ?_)
    refine lv_aload_n C.hx C.hb dX2_suit_115 rfl (lv_at hl 0 rfl) ?_
    refine lv_iconst (v := Int32.ofInt 0) C.hx C.hb dX2_suit_116 rfl ?_
    refine r_put C hH o_t (by decide) rfl FL_RX2_55 FW_2_6 hf dX2_suit_117 (fun M117 H locs hf hH => ?_)
    cases hf
    exact w_vret C hH dX2_suit_120
  · cases hf
    exact w_vret C hH dX2_suit_81
set_option maxRecDepth 100000 in
set_option maxHeartbeats 4000000 in
theorem j_X2_suit_70 {p : Program} {l : Launch} {e : Env} {s : State} {m : MethodId} {args : Array Value} {below : List Frame} {meth : Method} {c : Code} {E : EE} {n : Nat} {o : Mem} {t : Nat} {r1 : Nat} {a2 : Int} {M : Mem} {v4_28 : Int} {rec28 : Int → Int → Option Mem} {u0_70 : Int} {H : Heap} {locs : List Loc} {ls : Array Slot} (C : Cx E p s m args meth c cX2_suit 5 RX2 none n "suit") (hn : nfull n) (o_t : ob n t 2) (o_r1 : ob n r1 4) (h_rec28 : ∀ {v4_28 : Int} {v3_28 : Int} {H : Heap} {locs : List Loc} {ls : Array Slot}, rec28 v4_28 v3_28 = some o → ST E s n (zf n) M H locs → lv_has ls 5 [(0, .ref (eb E + t)), (1, .ref (eb E + r1)), (2, i3 a2), (3, i3 v3_28), (4, i3 v4_28)] → W p l e { frames := 4, cells := 0, slots := 0, locals := 120 } s m args below meth c H locs 0 0 (MQ below (QC E none n (zf n) o) args s 0 0 (fr E)) (F0 m 28 ls [])) (hf : fn_X2_suit_J70 v4_28 rec28 u0_70 = some o) (hH : ST E s n (zf n) M H locs) (hl : lv_has ls 5 [(0, .ref (eb E + t)), (1, .ref (eb E + r1)), (2, i3 a2), (4, i3 v4_28)]) : W p l e { frames := 4, cells := 0, slots := 0, locals := 120 } s m args below meth c H locs 0 0 (MQ below (QC E none n (zf n) o) args s 0 0 (fr E)) (F0 m 70 ls [i3 u0_70]) := by
  unfold fn_X2_suit_J70 at hf
  refine lv_istore_n (lv' := [(3, i3 u0_70), (0, .ref (eb E + t)), (1, .ref (eb E + r1)), (2, i3 a2), (4, i3 v4_28)]) C.hx C.hb dX2_suit_70 rfl hl (by decide) rfl (fun ls hl => ?_)
  refine r_iinc (k := 4) (lv' := fun v => [(4, i3 v), (3, i3 u0_70), (0, .ref (eb E + t)), (1, .ref (eb E + r1)), (2, i3 a2)]) C hf dX2_suit_71 hl rfl (by decide) (fun _ => rfl) (fun v4_71 ls hf hl => ?_)
  refine lv_goto (tgt := 28) C.hx C.hb dX2_suit_74 (by decide) ?_
  exact h_rec28 hf hH (lv_sub hl [2, 3, 4, 1, 0] rfl)
set_option maxRecDepth 100000 in
set_option maxHeartbeats 4000000 in
theorem l_X2_suit_28 {p : Program} {l : Launch} {e : Env} {s : State} {m : MethodId} {args : Array Value} {below : List Frame} {meth : Method} {c : Code} {E : EE} {n : Nat} {o : Mem} {t : Nat} {r1 : Nat} {a2 : Int} {M : Mem} (C : Cx E p s m args meth c cX2_suit 5 RX2 none n "suit") (hn : nfull n) (o_t : ob n t 2) (o_r1 : ob n r1 4) : ∀ (k : Nat) (v4_28 : Int) (v3_28 : Int) (H : Heap) (locs : List Loc) (ls : Array Slot), lq2 (fn_X2_suit_L28 t r1 a2 M) k v4_28 v3_28 = some o → ST E s n (zf n) M H locs → lv_has ls 5 [(0, .ref (eb E + t)), (1, .ref (eb E + r1)), (2, i3 a2), (3, i3 v3_28), (4, i3 v4_28)] → W p l e { frames := 4, cells := 0, slots := 0, locals := 120 } s m args below meth c H locs 0 0 (MQ below (QC E none n (zf n) o) args s 0 0 (fr E)) (F0 m 28 ls []) := by
  intro k
  induction k with
  | zero => intro v4_28 v3_28 H locs ls hf; cases hf
  | succ k ih =>
    intro v4_28 v3_28 H locs ls hf hH hl
    have h_rec28 : ∀ {v4_28 : Int} {v3_28 : Int} {H : Heap} {locs : List Loc} {ls : Array Slot}, lq2 (fn_X2_suit_L28 t r1 a2 M) k v4_28 v3_28 = some o → ST E s n (zf n) M H locs → lv_has ls 5 [(0, .ref (eb E + t)), (1, .ref (eb E + r1)), (2, i3 a2), (3, i3 v3_28), (4, i3 v4_28)] → W p l e { frames := 4, cells := 0, slots := 0, locals := 120 } s m args below meth c H locs 0 0 (MQ below (QC E none n (zf n) o) args s 0 0 (fr E)) (F0 m 28 ls []) := fun {v4_28} {v3_28} {H} {locs} {ls} a b c => ih v4_28 v3_28 H locs ls a b c
    replace hf : fn_X2_suit_L28 t r1 a2 M (lq2 (fn_X2_suit_L28 t r1 a2 M) k) v4_28 v3_28 = some o := hf
    generalize lq2 (fn_X2_suit_L28 t r1 a2 M) k = rec28 at hf h_rec28
    unfold fn_X2_suit_L28 at hf
    refine lv_iload C.hx C.hb dX2_suit_28 (lv_at hl 4 rfl) ?_
    refine lv_aload_n C.hx C.hb dX2_suit_30 rfl (lv_at hl 0 rfl) ?_
    refine g_int C hH o_t (by decide) rfl FL_RX2_42 dX2_suit_31 ?_
    refine w_ge (tgt := 77) C hf dX2_suit_34 (by decide) (fun hf => ?_) (fun hf => ?_)
    · exact j_X2_suit_77 C hn o_t o_r1 hf hH (lv_sub hl [0, 1, 2, 3] rfl)
    · refine lv_iload C.hx C.hb dX2_suit_37 (lv_at hl 4 rfl) ?_
      refine lv_bipush (v := Int32.ofInt 10) C.hx C.hb dX2_suit_39 (by decide) ?_
      refine w_ge (tgt := 77) C hf dX2_suit_41 (by decide) (fun hf => ?_) (fun hf => ?_)
      · exact j_X2_suit_77 C hn o_t o_r1 hf hH (lv_sub hl [0, 1, 2, 3] rfl)
      · refine lv_iload_n C.hx C.hb dX2_suit_44 rfl (lv_at hl 3 rfl) ?_
        refine w_eq0 (tgt := 77) C hf dX2_suit_45 (by decide) (fun hf => ?_) (fun hf => ?_)
        · exact j_X2_suit_77 C hn o_t o_r1 hf hH (lv_sub hl [0, 1, 2, 3] rfl)
        · refine lv_aload_n C.hx C.hb dX2_suit_48 rfl (lv_at hl 0 rfl) ?_
          refine g_ref (off := 1) C hH o_t (by decide) rfl rfl FL_RX2_9 dX2_suit_49 ?_
          refine lv_iload C.hx C.hb dX2_suit_52 (lv_at hl 4 rfl) ?_
          refine r_iald C hH (ly (i := 3) (off := 1) (k := 12) hn o_t rfl rfl rfl) (lyn (i := 3) (off := 1) (N := 9) hn o_t rfl rfl rfl) hf dX2_suit_54 (fun x54 hf => ?_)
          refine lv_aload_n C.hx C.hb dX2_suit_55 rfl (lv_at hl 1 rfl) ?_
          refine g_ref (off := 1) C hH o_r1 (by decide) rfl rfl FL_RX2_48 dX2_suit_56 ?_
          refine lv_iload C.hx C.hb dX2_suit_59 (lv_at hl 4 rfl) ?_
          refine r_iald C hH (ly (i := 0) (off := 1) (k := 12) hn o_r1 rfl rfl rfl) (lyn (i := 0) (off := 1) (N := 9) hn o_r1 rfl rfl rfl) hf dX2_suit_61 (fun x61 hf => ?_)
          refine w_ne (tgt := 69) C hf dX2_suit_62 (by decide) (fun hf => ?_) (fun hf => ?_)
          · refine lv_iconst (v := Int32.ofInt 0) C.hx C.hb dX2_suit_69 rfl ?_
            exact j_X2_suit_70 C hn o_t o_r1 h_rec28 hf hH (lv_sub hl [0, 1, 2, 4] rfl)
          · refine lv_iconst (v := Int32.ofInt 1) C.hx C.hb dX2_suit_65 rfl ?_
            refine lv_goto (tgt := 70) C.hx C.hb dX2_suit_66 (by decide) ?_
            exact j_X2_suit_70 C hn o_t o_r1 h_rec28 hf hH (lv_sub hl [0, 1, 2, 4] rfl)
set_option maxRecDepth 100000 in
set_option maxHeartbeats 4000000 in
theorem j_X2_suit_24 {p : Program} {l : Launch} {e : Env} {s : State} {m : MethodId} {args : Array Value} {below : List Frame} {meth : Method} {c : Code} {E : EE} {n : Nat} {o : Mem} {t : Nat} {r1 : Nat} {a2 : Int} {M : Mem} {u0_24 : Int} {H : Heap} {locs : List Loc} {ls : Array Slot} (C : Cx E p s m args meth c cX2_suit 5 RX2 none n "suit") (hn : nfull n) (o_t : ob n t 2) (o_r1 : ob n r1 4) (hf : fn_X2_suit_J24 t r1 a2 M u0_24 = some o) (hH : ST E s n (zf n) M H locs) (hl : lv_has ls 5 [(0, .ref (eb E + t)), (1, .ref (eb E + r1)), (2, i3 a2)]) : W p l e { frames := 4, cells := 0, slots := 0, locals := 120 } s m args below meth c H locs 0 0 (MQ below (QC E none n (zf n) o) args s 0 0 (fr E)) (F0 m 24 ls [i3 u0_24]) := by
  unfold fn_X2_suit_J24 at hf
  refine lv_istore_n (lv' := [(3, i3 u0_24), (0, .ref (eb E + t)), (1, .ref (eb E + r1)), (2, i3 a2)]) C.hx C.hb dX2_suit_24 rfl hl (by decide) rfl (fun ls hl => ?_)
  refine lv_iconst (v := Int32.ofInt 0) C.hx C.hb dX2_suit_25 rfl ?_
  refine lv_istore (lv' := [(4, i3 0), (3, i3 u0_24), (0, .ref (eb E + t)), (1, .ref (eb E + r1)), (2, i3 a2)]) C.hx C.hb dX2_suit_26 hl (by decide) rfl (fun ls hl => ?_)
  exact l_X2_suit_28 C hn o_t o_r1 FU _ _ _ _ _ hf hH (lv_sub hl [2, 3, 4, 1, 0] rfl)
set_option maxRecDepth 100000 in
set_option maxHeartbeats 4000000 in
theorem j_X2_suit_23 {p : Program} {l : Launch} {e : Env} {s : State} {m : MethodId} {args : Array Value} {below : List Frame} {meth : Method} {c : Code} {E : EE} {n : Nat} {o : Mem} {t : Nat} {r1 : Nat} {a2 : Int} {M : Mem} {H : Heap} {locs : List Loc} {ls : Array Slot} (C : Cx E p s m args meth c cX2_suit 5 RX2 none n "suit") (hn : nfull n) (o_t : ob n t 2) (o_r1 : ob n r1 4) (hf : fn_X2_suit_J23 t r1 a2 M = some o) (hH : ST E s n (zf n) M H locs) (hl : lv_has ls 5 [(0, .ref (eb E + t)), (1, .ref (eb E + r1)), (2, i3 a2)]) : W p l e { frames := 4, cells := 0, slots := 0, locals := 120 } s m args below meth c H locs 0 0 (MQ below (QC E none n (zf n) o) args s 0 0 (fr E)) (F0 m 23 ls []) := by
  unfold fn_X2_suit_J23 at hf
  refine lv_iconst (v := Int32.ofInt 0) C.hx C.hb dX2_suit_23 rfl ?_
  exact j_X2_suit_24 C hn o_t o_r1 hf hH (lv_sub hl [0, 1, 2] rfl)
set_option maxRecDepth 100000 in
set_option maxHeartbeats 4000000 in
theorem m_X2_suit {E : EE} {l : Launch} {n : Nat} {t : Nat} {r1 : Nat} {a2 : Int} {M : Mem} {o : Mem} (hn : nfull n) (o_t : ob n t 2) (o_r1 : ob n r1 4) (hf : fn_X2_suit t r1 a2 M = some o) : CT E l yX2_suit cX2_suit 5 none 4 120 0 0 [.ref (eb E + t), .ref (eb E + r1), i3 a2] n (zf n) M none n (zf n) o := by
  refine CT_of PN_RX2 (Nat.le_of_ble_eq_true rfl) ?_
  intro p e s m args below meth c C hH ls hl
  replace C : Cx E p s m args meth c cX2_suit 5 RX2 none n "suit" := C
  have hl : lv_has ls 5 [(0, .ref (eb E + t)), (1, .ref (eb E + r1)), (2, i3 a2)] := hl
  unfold fn_X2_suit at hf
  refine lv_aload_n C.hx C.hb dX2_suit_0 rfl (lv_at hl 0 rfl) ?_
  refine g_int C hH o_t (by decide) rfl FL_RX2_42 dX2_suit_1 ?_
  refine lv_aload_n C.hx C.hb dX2_suit_4 rfl (lv_at hl 1 rfl) ?_
  refine g_int C hH o_r1 (by decide) rfl FL_RX2_45 dX2_suit_5 ?_
  refine w_ne (tgt := 23) C hf dX2_suit_8 (by decide) (fun hf => ?_) (fun hf => ?_)
  · exact j_X2_suit_23 C hn o_t o_r1 hf hH (lv_sub hl [0, 1, 2] rfl)
  · refine lv_aload_n C.hx C.hb dX2_suit_11 rfl (lv_at hl 0 rfl) ?_
    refine g_int C hH o_t (by decide) rfl FL_RX2_39 dX2_suit_12 ?_
    refine lv_iload_n C.hx C.hb dX2_suit_15 rfl (lv_at hl 2 rfl) ?_
    refine w_ne (tgt := 23) C hf dX2_suit_16 (by decide) (fun hf => ?_) (fun hf => ?_)
    · exact j_X2_suit_23 C hn o_t o_r1 hf hH (lv_sub hl [0, 1, 2] rfl)
    · refine lv_iconst (v := Int32.ofInt 1) C.hx C.hb dX2_suit_19 rfl ?_
      refine lv_goto (tgt := 24) C.hx C.hb dX2_suit_20 (by decide) ?_
      exact j_X2_suit_24 C hn o_t o_r1 hf hH (lv_sub hl [0, 1, 2] rfl)
-- HeavierByHand$RowTable.clear
def fn_X2_clear_L32 (t : Nat) (v2_22 : Int) (rec32 : Int → Mem → Option Mem) (v3_32 : Int) (M32 : Mem) : Option Mem :=
  cLt v3_32 v2_22 (wr M32 (t + 2) (ln (t + 2)) v3_32 0 fun M43 => wr M43 (t + 3) (ln (t + 3)) v3_32 0 fun M50 => nm (v3_32 + 1) fun v3_51 => rec32 v3_51 M50) (some M32)
def fn_X2_clear (t : Nat) (a1 : Int) (M : Mem) : Option Mem :=
  cu (fn_X2_start (a1 + 1) M) fun x3 => ck (R3 (((ln (t + 2)) : Nat) : Int) ∧ R3 (((ln (t + 3)) : Nat) : Int)) <| ck (R3 x3 ∧ R3 (min (((ln (t + 2)) : Nat) : Int) (((ln (t + 3)) : Nat) : Int))) <| nm ((min x3 (min (((ln (t + 2)) : Nat) : Int) (((ln (t + 3)) : Nat) : Int)))) fun v2_22 => cu (fn_X2_start a1 M) fun x24 => ck (R3 x24 ∧ R3 0) <| nm ((max x24 0)) fun v3_31 => lq2 (fn_X2_clear_L32 t v2_22) FU v3_31 M
set_option maxRecDepth 100000 in
set_option maxHeartbeats 4000000 in
theorem l_X2_clear_32 {p : Program} {l : Launch} {e : Env} {s : State} {m : MethodId} {args : Array Value} {below : List Frame} {meth : Method} {c : Code} {E : EE} {n : Nat} {o : Mem} {t : Nat} {v2_22 : Int} (C : Cx E p s m args meth c cX2_clear 4 RX2 none n "clear") (hn : nfull n) (o_t : ob n t 2) : ∀ (k : Nat) (v3_32 : Int) (M32 : Mem) (H : Heap) (locs : List Loc) (ls : Array Slot), lq2 (fn_X2_clear_L32 t v2_22) k v3_32 M32 = some o → ST E s n (zf n) M32 H locs → lv_has ls 4 [(0, .ref (eb E + t)), (2, i3 v2_22), (3, i3 v3_32)] → W p l e { frames := 4, cells := 0, slots := 0, locals := 120 } s m args below meth c H locs 0 0 (MQ below (QC E none n (zf n) o) args s 0 0 (fr E)) (F0 m 32 ls []) := by
  intro k
  induction k with
  | zero => intro v3_32 M32 H locs ls hf; cases hf
  | succ k ih =>
    intro v3_32 M32 H locs ls hf hH hl
    have h_rec32 : ∀ {v3_32 : Int} {M32 : Mem} {H : Heap} {locs : List Loc} {ls : Array Slot}, lq2 (fn_X2_clear_L32 t v2_22) k v3_32 M32 = some o → ST E s n (zf n) M32 H locs → lv_has ls 4 [(0, .ref (eb E + t)), (2, i3 v2_22), (3, i3 v3_32)] → W p l e { frames := 4, cells := 0, slots := 0, locals := 120 } s m args below meth c H locs 0 0 (MQ below (QC E none n (zf n) o) args s 0 0 (fr E)) (F0 m 32 ls []) := fun {v3_32} {M32} {H} {locs} {ls} a b c => ih v3_32 M32 H locs ls a b c
    replace hf : fn_X2_clear_L32 t v2_22 (lq2 (fn_X2_clear_L32 t v2_22) k) v3_32 M32 = some o := hf
    generalize lq2 (fn_X2_clear_L32 t v2_22) k = rec32 at hf h_rec32
    unfold fn_X2_clear_L32 at hf
    refine lv_iload_n C.hx C.hb dX2_clear_32 rfl (lv_at hl 2 rfl) ?_
    refine lv_iload_n C.hx C.hb dX2_clear_33 rfl (lv_at hl 1 rfl) ?_
    refine w_ge (tgt := 57) C hf dX2_clear_34 (by decide) (fun hf => ?_) (fun hf => ?_)
    · cases hf
      exact w_vret C hH dX2_clear_57
    · refine lv_aload_n C.hx C.hb dX2_clear_37 rfl (lv_at hl 0 rfl) ?_
      refine g_ref (off := 2) C hH o_t (by decide) rfl rfl FL_RX2_32 dX2_clear_38 ?_
      refine lv_iload_n C.hx C.hb dX2_clear_41 rfl (lv_at hl 2 rfl) ?_
      refine lv_lconst (v := Int64.ofInt 0) C.hx C.hb dX2_clear_42 (by decide) ?_
      refine r_last C hH (ly (i := 1) (off := 2) (k := 15) hn o_t rfl rfl rfl) rfl hf dX2_clear_43 (fun M43 H locs hf hH => ?_)
      refine lv_aload_n C.hx C.hb dX2_clear_44 rfl (lv_at hl 0 rfl) ?_
      refine g_ref (off := 3) C hH o_t (by decide) rfl rfl FL_RX2_36 dX2_clear_45 ?_
      refine lv_iload_n C.hx C.hb dX2_clear_48 rfl (lv_at hl 2 rfl) ?_
      refine lv_iconst (v := Int32.ofInt 0) C.hx C.hb dX2_clear_49 rfl ?_
      refine r_iast C hH (ly (i := 2) (off := 3) (k := 12) hn o_t rfl rfl rfl) rfl hf dX2_clear_50 (fun M50 H locs hf hH => ?_)
      refine r_iinc (k := 2) (lv' := fun v => [(3, i3 v), (0, .ref (eb E + t)), (2, i3 v2_22)]) C hf dX2_clear_51 hl rfl (by decide) (fun _ => rfl) (fun v3_51 ls hf hl => ?_)
      refine lv_goto (tgt := 32) C.hx C.hb dX2_clear_54 (by decide) ?_
      exact h_rec32 hf hH (lv_sub hl [1, 2, 0] rfl)
set_option maxRecDepth 100000 in
set_option maxHeartbeats 4000000 in
theorem m_X2_clear {E : EE} {l : Launch} {n : Nat} {t : Nat} {a1 : Int} {M : Mem} {o : Mem} (hn : nfull n) (o_t : ob n t 2) (hf : fn_X2_clear t a1 M = some o) : CT E l yX2_clear cX2_clear 4 none 4 120 0 0 [.ref (eb E + t), i3 a1] n (zf n) M none n (zf n) o := by
  refine CT_of PN_RX2 (Nat.le_of_ble_eq_true rfl) ?_
  intro p e s m args below meth c C hH ls hl
  replace C : Cx E p s m args meth c cX2_clear 4 RX2 none n "clear" := C
  have hl : lv_has ls 4 [(0, .ref (eb E + t)), (1, i3 a1)] := hl
  unfold fn_X2_clear at hf
  refine lv_iload_n C.hx C.hb dX2_clear_0 rfl (lv_at hl 1 rfl) ?_
  refine lv_iconst (v := Int32.ofInt 1) C.hx C.hb dX2_clear_1 rfl ?_
  refine w_iadd C dX2_clear_2 ?_
  obtain ⟨x3, hc9, hf⟩ := cu_of hf
  refine r_callSi (rest := []) C hH hl (m_X2_start hn hc9) ML_RX2_28 MF_X2_start MS_X2_start rfl rfl (Nat.le_of_ble_eq_true rfl) ⟨Nat.le_of_ble_eq_true rfl, Nat.le_of_ble_eq_true rfl⟩ ⟨Nat.le_refl _, Nat.le_refl _⟩ dX2_clear_3 (fun H locs hH => ?_)
  refine lv_aload_n C.hx C.hb dX2_clear_6 rfl (lv_at hl 0 rfl) ?_
  refine g_ref (off := 2) C hH o_t (by decide) rfl rfl FL_RX2_32 dX2_clear_7 ?_
  refine g_len (N := (ln (t + 2))) C hH (ly (i := 1) (off := 2) (k := 15) hn o_t rfl rfl rfl) (by decide) rfl dX2_clear_10 ?_
  refine lv_aload_n C.hx C.hb dX2_clear_11 rfl (lv_at hl 0 rfl) ?_
  refine g_ref (off := 3) C hH o_t (by decide) rfl rfl FL_RX2_36 dX2_clear_12 ?_
  refine g_len (N := (ln (t + 3))) C hH (ly (i := 2) (off := 3) (k := 12) hn o_t rfl rfl rfl) (by decide) rfl dX2_clear_15 ?_
  obtain ⟨hR8, hf⟩ := ck_of hf
  refine w_min C hl.1 hR8 ML_RX2_15 LB_min LB_mathi LB_minc (Nat.le_of_ble_eq_true rfl) (Nat.le_of_ble_eq_true rfl) (Nat.le_refl _) (Nat.le_refl _) dX2_clear_16 ?_
  obtain ⟨hR8, hf⟩ := ck_of hf
  refine w_min C hl.1 hR8 ML_RX2_15 LB_min LB_mathi LB_minc (Nat.le_of_ble_eq_true rfl) (Nat.le_of_ble_eq_true rfl) (Nat.le_refl _) (Nat.le_refl _) dX2_clear_19 ?_
  refine r_nm hf (fun v2_22 hf => ?_)
  refine lv_istore_n (lv' := [(2, i3 v2_22), (0, .ref (eb E + t)), (1, i3 a1)]) C.hx C.hb dX2_clear_22 rfl hl (by decide) rfl (fun ls hl => ?_)
  refine lv_iload_n C.hx C.hb dX2_clear_23 rfl (lv_at hl 2 rfl) ?_
  obtain ⟨x24, hc9, hf⟩ := cu_of hf
  refine r_callSi (rest := []) C hH hl (m_X2_start hn hc9) ML_RX2_28 MF_X2_start MS_X2_start rfl rfl (Nat.le_of_ble_eq_true rfl) ⟨Nat.le_of_ble_eq_true rfl, Nat.le_of_ble_eq_true rfl⟩ ⟨Nat.le_refl _, Nat.le_refl _⟩ dX2_clear_24 (fun H locs hH => ?_)
  refine lv_iconst (v := Int32.ofInt 0) C.hx C.hb dX2_clear_27 rfl ?_
  obtain ⟨hR8, hf⟩ := ck_of hf
  refine w_max C hl.1 hR8 ML_RX2_21 LB_max LB_mathi LB_maxc (Nat.le_of_ble_eq_true rfl) (Nat.le_of_ble_eq_true rfl) (Nat.le_refl _) (Nat.le_refl _) dX2_clear_28 ?_
  refine r_nm hf (fun v3_31 hf => ?_)
  refine lv_istore_n (lv' := [(3, i3 v3_31), (2, i3 v2_22), (0, .ref (eb E + t)), (1, i3 a1)]) C.hx C.hb dX2_clear_31 rfl hl (by decide) rfl (fun ls hl => ?_)
  exact l_X2_clear_32 C hn o_t FU _ _ _ _ _ hf hH (lv_sub hl [2, 1, 0] rfl)
-- HeavierByHand$RowTable.cell
def fn_X2_cell (t : Nat) (a1 : Int) (a2 : Int) (a3 : Int) (M : Mem) : Option Int :=
  nm ((30 * a1)) fun v4_4 => cLt a1 1 (some (-1)) (cLt (M t 0) a1 (some (-1)) (cLt a2 0 (some (-1)) (cLt a2 10 (cLt a3 0 (some (-1)) (cLt v4_4 a3 (some (-1)) (cu (fn_X2_start a1 M) fun x42 => some ((x42 + (a2 * (v4_4 + 1))) + a3)))) (some (-1)))))
set_option maxRecDepth 100000 in
set_option maxHeartbeats 4000000 in
theorem m_X2_cell {E : EE} {l : Launch} {n : Nat} {t : Nat} {a1 : Int} {a2 : Int} {a3 : Int} {M : Mem} {o : Int} (hn : nfull n) (o_t : ob n t 2) (hf : fn_X2_cell t a1 a2 a3 M = some o) : CT E l yX2_cell cX2_cell 5 (some .int) 1 20 0 0 [.ref (eb E + t), i3 a1, i3 a2, i3 a3] n (zf n) M (some (i3 o)) n (zf n) M := by
  refine CT_of PN_RX2 (Nat.le_of_ble_eq_true rfl) ?_
  intro p e s m args below meth c C hH ls hl
  replace C : Cx E p s m args meth c cX2_cell 5 RX2 (some .int) n "cell" := C
  have hl : lv_has ls 5 [(0, .ref (eb E + t)), (1, i3 a1), (2, i3 a2), (3, i3 a3)] := hl
  unfold fn_X2_cell at hf
  refine lv_bipush (v := Int32.ofInt 30) C.hx C.hb dX2_cell_0 (by decide) ?_
  refine lv_iload_n C.hx C.hb dX2_cell_2 rfl (lv_at hl 1 rfl) ?_
  refine w_imul C dX2_cell_3 ?_
  refine r_nm hf (fun v4_4 hf => ?_)
  refine lv_istore (lv' := [(4, i3 v4_4), (0, .ref (eb E + t)), (1, i3 a1), (2, i3 a2), (3, i3 a3)]) C.hx C.hb dX2_cell_4 hl (by decide) rfl (fun ls hl => ?_)
  refine lv_iload_n C.hx C.hb dX2_cell_6 rfl (lv_at hl 2 rfl) ?_
  refine lv_iconst (v := Int32.ofInt 1) C.hx C.hb dX2_cell_7 rfl ?_
  refine w_lt (tgt := 39) C hf dX2_cell_8 (by decide) (fun hf => ?_) (fun hf => ?_)
  · refine lv_iconst (v := Int32.ofInt (-1)) C.hx C.hb dX2_cell_39 rfl ?_
    cases hf
    exact w_iret C hH dX2_cell_40
  · refine lv_iload_n C.hx C.hb dX2_cell_11 rfl (lv_at hl 2 rfl) ?_
    refine lv_aload_n C.hx C.hb dX2_cell_12 rfl (lv_at hl 1 rfl) ?_
    refine g_int C hH o_t (by decide) rfl FL_RX2_24 dX2_cell_13 ?_
    refine w_gt (tgt := 39) C hf dX2_cell_16 (by decide) (fun hf => ?_) (fun hf => ?_)
    · refine lv_iconst (v := Int32.ofInt (-1)) C.hx C.hb dX2_cell_39 rfl ?_
      cases hf
      exact w_iret C hH dX2_cell_40
    · refine lv_iload_n C.hx C.hb dX2_cell_19 rfl (lv_at hl 3 rfl) ?_
      refine w_lt0 (tgt := 39) C hf dX2_cell_20 (by decide) (fun hf => ?_) (fun hf => ?_)
      · refine lv_iconst (v := Int32.ofInt (-1)) C.hx C.hb dX2_cell_39 rfl ?_
        cases hf
        exact w_iret C hH dX2_cell_40
      · refine lv_iload_n C.hx C.hb dX2_cell_23 rfl (lv_at hl 3 rfl) ?_
        refine lv_bipush (v := Int32.ofInt 10) C.hx C.hb dX2_cell_24 (by decide) ?_
        refine w_ge (tgt := 39) C hf dX2_cell_26 (by decide) (fun hf => ?_) (fun hf => ?_)
        · refine lv_iconst (v := Int32.ofInt (-1)) C.hx C.hb dX2_cell_39 rfl ?_
          cases hf
          exact w_iret C hH dX2_cell_40
        · refine lv_iload_n C.hx C.hb dX2_cell_29 rfl (lv_at hl 4 rfl) ?_
          refine w_lt0 (tgt := 39) C hf dX2_cell_30 (by decide) (fun hf => ?_) (fun hf => ?_)
          · refine lv_iconst (v := Int32.ofInt (-1)) C.hx C.hb dX2_cell_39 rfl ?_
            cases hf
            exact w_iret C hH dX2_cell_40
          · refine lv_iload_n C.hx C.hb dX2_cell_33 rfl (lv_at hl 4 rfl) ?_
            refine lv_iload C.hx C.hb dX2_cell_34 (lv_at hl 0 rfl) ?_
            refine w_le (tgt := 41) C hf dX2_cell_36 (by decide) (fun hf => ?_) (fun hf => ?_)
            · refine lv_iload_n C.hx C.hb dX2_cell_41 rfl (lv_at hl 2 rfl) ?_
              obtain ⟨x42, hc9, hf⟩ := cu_of hf
              refine r_callSi (rest := []) C hH hl (m_X2_start hn hc9) ML_RX2_28 MF_X2_start MS_X2_start rfl rfl (Nat.le_of_ble_eq_true rfl) ⟨Nat.le_of_ble_eq_true rfl, Nat.le_of_ble_eq_true rfl⟩ ⟨Nat.le_refl _, Nat.le_refl _⟩ dX2_cell_42 (fun H locs hH => ?_)
              refine lv_iload_n C.hx C.hb dX2_cell_45 rfl (lv_at hl 3 rfl) ?_
              refine lv_iload C.hx C.hb dX2_cell_46 (lv_at hl 0 rfl) ?_
              refine lv_iconst (v := Int32.ofInt 1) C.hx C.hb dX2_cell_48 rfl ?_
              refine w_iadd C dX2_cell_49 ?_
              refine w_imul C dX2_cell_50 ?_
              refine w_iadd C dX2_cell_51 ?_
              refine lv_iload_n C.hx C.hb dX2_cell_52 rfl (lv_at hl 4 rfl) ?_
              refine w_iadd C dX2_cell_53 ?_
              cases hf
              exact w_iret C hH dX2_cell_54
            · refine lv_iconst (v := Int32.ofInt (-1)) C.hx C.hb dX2_cell_39 rfl ?_
              cases hf
              exact w_iret C hH dX2_cell_40
-- HeavierByHand$RowTable.put
def fn_X2_put (t : Nat) (a1 : Int) (a2 : Int) (a3 : Int) (a4 : Int) (a6 : Int) (M : Mem) : Option Mem :=
  cu (fn_X2_cell t a1 a2 a3 M) fun x4 => dLt 0 a4 (cLt x4 0 (some M) (cLt x4 (((ln (t + 2)) : Nat) : Int) (cLt x4 (((ln (t + 3)) : Nat) : Int) (wr M (t + 2) (ln (t + 2)) x4 a4 fun M49 => wr M49 (t + 3) (ln (t + 3)) x4 (orI (andI a6 (xorI (shlI 1 a2) (-1))) (shlI 1 (a2 + 10))) fun M71 => some M71) (some M)) (some M))) (some M)
set_option maxRecDepth 100000 in
set_option maxHeartbeats 4000000 in
theorem m_X2_put {E : EE} {l : Launch} {n : Nat} {t : Nat} {a1 : Int} {a2 : Int} {a3 : Int} {a4 : Int} {a6 : Int} {M : Mem} {o : Mem} (hn : nfull n) (o_t : ob n t 2) (hf : fn_X2_put t a1 a2 a3 a4 a6 M = some o) : CT E l yX2_put cX2_put 8 none 2 44 0 0 [.ref (eb E + t), i3 a1, i3 a2, i3 a3, l6 a4, i3 a6] n (zf n) M none n (zf n) o := by
  refine CT_of PN_RX2 (Nat.le_of_ble_eq_true rfl) ?_
  intro p e s m args below meth c C hH ls hl
  replace C : Cx E p s m args meth c cX2_put 8 RX2 none n "put" := C
  have hl : lv_has ls 8 [(0, .ref (eb E + t)), (1, i3 a1), (2, i3 a2), (3, i3 a3), (4, l6 a4), (6, i3 a6)] := hl
  unfold fn_X2_put at hf
  refine lv_aload_n C.hx C.hb dX2_put_0 rfl (lv_at hl 0 rfl) ?_
  refine lv_iload_n C.hx C.hb dX2_put_1 rfl (lv_at hl 1 rfl) ?_
  refine lv_iload_n C.hx C.hb dX2_put_2 rfl (lv_at hl 2 rfl) ?_
  refine lv_iload_n C.hx C.hb dX2_put_3 rfl (lv_at hl 3 rfl) ?_
  obtain ⟨x4, hc9, hf⟩ := cu_of hf
  refine r_callVi (rest := []) C hH hl o_t (by decide) rfl (m_X2_cell hn o_t hc9) ML_RX2_82 MF_X2_cell MI_X2_cell rfl rfl (Nat.le_of_ble_eq_true rfl) ⟨Nat.le_of_ble_eq_true rfl, Nat.le_of_ble_eq_true rfl⟩ ⟨Nat.le_refl _, Nat.le_refl _⟩ dX2_put_4 (fun H locs hH => ?_)
  refine lv_istore (lv' := [(7, i3 x4), (0, .ref (eb E + t)), (1, i3 a1), (2, i3 a2), (3, i3 a3), (4, l6 a4), (6, i3 a6)]) C.hx C.hb dX2_put_7 hl (by decide) rfl (fun ls hl => ?_)
  refine lv_lload C.hx C.hb dX2_put_9 (lv_at hl 5 rfl) ?_
  refine lv_lconst (v := Int64.ofInt 0) C.hx C.hb dX2_put_11 (by decide) ?_
  refine w_lle (tgt := 72) C hf dX2_put_12 dX2_put_13 (by decide) (fun hf => ?_) (fun hf => ?_)
  · cases hf
    exact w_vret C hH dX2_put_72
  · refine lv_iload C.hx C.hb dX2_put_16 (lv_at hl 0 rfl) ?_
    refine w_lt0 (tgt := 72) C hf dX2_put_18 (by decide) (fun hf => ?_) (fun hf => ?_)
    · cases hf
      exact w_vret C hH dX2_put_72
    · refine lv_iload C.hx C.hb dX2_put_21 (lv_at hl 0 rfl) ?_
      refine lv_aload_n C.hx C.hb dX2_put_23 rfl (lv_at hl 1 rfl) ?_
      refine g_ref (off := 2) C hH o_t (by decide) rfl rfl FL_RX2_32 dX2_put_24 ?_
      refine g_len (N := (ln (t + 2))) C hH (ly (i := 1) (off := 2) (k := 15) hn o_t rfl rfl rfl) (by decide) rfl dX2_put_27 ?_
      refine w_ge (tgt := 72) C hf dX2_put_28 (by decide) (fun hf => ?_) (fun hf => ?_)
      · cases hf
        exact w_vret C hH dX2_put_72
      · refine lv_iload C.hx C.hb dX2_put_31 (lv_at hl 0 rfl) ?_
        refine lv_aload_n C.hx C.hb dX2_put_33 rfl (lv_at hl 1 rfl) ?_
        refine g_ref (off := 3) C hH o_t (by decide) rfl rfl FL_RX2_36 dX2_put_34 ?_
        refine g_len (N := (ln (t + 3))) C hH (ly (i := 2) (off := 3) (k := 12) hn o_t rfl rfl rfl) (by decide) rfl dX2_put_37 ?_
        refine w_ge (tgt := 72) C hf dX2_put_38 (by decide) (fun hf => ?_) (fun hf => ?_)
        · cases hf
          exact w_vret C hH dX2_put_72
        · refine lv_aload_n C.hx C.hb dX2_put_41 rfl (lv_at hl 1 rfl) ?_
          refine g_ref (off := 2) C hH o_t (by decide) rfl rfl FL_RX2_32 dX2_put_42 ?_
          refine lv_iload C.hx C.hb dX2_put_45 (lv_at hl 0 rfl) ?_
          refine lv_lload C.hx C.hb dX2_put_47 (lv_at hl 5 rfl) ?_
          refine r_last C hH (ly (i := 1) (off := 2) (k := 15) hn o_t rfl rfl rfl) rfl hf dX2_put_49 (fun M49 H locs hf hH => ?_)
          refine lv_aload_n C.hx C.hb dX2_put_50 rfl (lv_at hl 1 rfl) ?_
          refine g_ref (off := 3) C hH o_t (by decide) rfl rfl FL_RX2_36 dX2_put_51 ?_
          refine lv_iload C.hx C.hb dX2_put_54 (lv_at hl 0 rfl) ?_
          refine lv_iload C.hx C.hb dX2_put_56 (lv_at hl 6 rfl) ?_
          refine lv_iconst (v := Int32.ofInt 1) C.hx C.hb dX2_put_58 rfl ?_
          refine lv_iload_n C.hx C.hb dX2_put_59 rfl (lv_at hl 3 rfl) ?_
          refine w_ishl C dX2_put_60 ?_
          refine lv_iconst (v := Int32.ofInt (-1)) C.hx C.hb dX2_put_61 rfl ?_
          refine w_ixor C dX2_put_62 ?_
          refine w_iand C dX2_put_63 ?_
          refine lv_iconst (v := Int32.ofInt 1) C.hx C.hb dX2_put_64 rfl ?_
          refine lv_iload_n C.hx C.hb dX2_put_65 rfl (lv_at hl 3 rfl) ?_
          refine lv_bipush (v := Int32.ofInt 10) C.hx C.hb dX2_put_66 (by decide) ?_
          refine w_iadd C dX2_put_68 ?_
          refine w_ishl C dX2_put_69 ?_
          refine w_ior C dX2_put_70 ?_
          refine r_iast C hH (ly (i := 2) (off := 3) (k := 12) hn o_t rfl rfl rfl) rfl hf dX2_put_71 (fun M71 H locs hf hH => ?_)
          cases hf
          exact w_vret C hH dX2_put_72
-- HeavierByHand$RowTable.buildSingle
def fn_X2_buildSingle_J40 (v1_2 : Int) (rec2 : Int → Mem → Option Mem) (M40 : Mem) : Option Mem :=
  nm (v1_2 + 1) fun v1_40 => rec2 v1_40 M40
def fn_X2_buildSingle_L2 (t : Nat) (rec2 : Int → Mem → Option Mem) (v1_2 : Int) (M2 : Mem) : Option Mem :=
  cLt v1_2 (M2 t 4) (cLt v1_2 10 (cEq v1_2 (M2 t 5) (fn_X2_buildSingle_J40 v1_2 rec2 M2) (rd M2 (t + 1) 10 v1_2 fun x32 => cv (fn_X2_put t 1 v1_2 x32 1 1023 M2) fun M37 => fn_X2_buildSingle_J40 v1_2 rec2 M37)) (some M2)) (some M2)
def fn_X2_buildSingle (t : Nat) (M : Mem) : Option Mem :=
  lq2 (fn_X2_buildSingle_L2 t) FU 0 M
set_option maxRecDepth 100000 in
set_option maxHeartbeats 4000000 in
theorem j_X2_buildSingle_40 {p : Program} {l : Launch} {e : Env} {s : State} {m : MethodId} {args : Array Value} {below : List Frame} {meth : Method} {c : Code} {E : EE} {n : Nat} {o : Mem} {t : Nat} {v1_2 : Int} {rec2 : Int → Mem → Option Mem} {M40 : Mem} {H : Heap} {locs : List Loc} {ls : Array Slot} (C : Cx E p s m args meth c cX2_buildSingle 2 RX2 none n "buildSingle") (hn : nfull n) (o_t : ob n t 2) (h_rec2 : ∀ {v1_2 : Int} {M2 : Mem} {H : Heap} {locs : List Loc} {ls : Array Slot}, rec2 v1_2 M2 = some o → ST E s n (zf n) M2 H locs → lv_has ls 2 [(0, .ref (eb E + t)), (1, i3 v1_2)] → W p l e { frames := 3, cells := 0, slots := 0, locals := 71 } s m args below meth c H locs 0 0 (MQ below (QC E none n (zf n) o) args s 0 0 (fr E)) (F0 m 2 ls [])) (hf : fn_X2_buildSingle_J40 v1_2 rec2 M40 = some o) (hH : ST E s n (zf n) M40 H locs) (hl : lv_has ls 2 [(0, .ref (eb E + t)), (1, i3 v1_2)]) : W p l e { frames := 3, cells := 0, slots := 0, locals := 71 } s m args below meth c H locs 0 0 (MQ below (QC E none n (zf n) o) args s 0 0 (fr E)) (F0 m 40 ls []) := by
  unfold fn_X2_buildSingle_J40 at hf
  refine r_iinc (k := 1) (lv' := fun v => [(1, i3 v), (0, .ref (eb E + t))]) C hf dX2_buildSingle_40 hl rfl (by decide) (fun _ => rfl) (fun v1_40 ls hf hl => ?_)
  refine lv_goto (tgt := 2) C.hx C.hb dX2_buildSingle_43 (by decide) ?_
  exact h_rec2 hf hH (lv_sub hl [1, 0] rfl)
set_option maxRecDepth 100000 in
set_option maxHeartbeats 4000000 in
theorem l_X2_buildSingle_2 {p : Program} {l : Launch} {e : Env} {s : State} {m : MethodId} {args : Array Value} {below : List Frame} {meth : Method} {c : Code} {E : EE} {n : Nat} {o : Mem} {t : Nat} (C : Cx E p s m args meth c cX2_buildSingle 2 RX2 none n "buildSingle") (hn : nfull n) (o_t : ob n t 2) : ∀ (k : Nat) (v1_2 : Int) (M2 : Mem) (H : Heap) (locs : List Loc) (ls : Array Slot), lq2 (fn_X2_buildSingle_L2 t) k v1_2 M2 = some o → ST E s n (zf n) M2 H locs → lv_has ls 2 [(0, .ref (eb E + t)), (1, i3 v1_2)] → W p l e { frames := 3, cells := 0, slots := 0, locals := 71 } s m args below meth c H locs 0 0 (MQ below (QC E none n (zf n) o) args s 0 0 (fr E)) (F0 m 2 ls []) := by
  intro k
  induction k with
  | zero => intro v1_2 M2 H locs ls hf; cases hf
  | succ k ih =>
    intro v1_2 M2 H locs ls hf hH hl
    have h_rec2 : ∀ {v1_2 : Int} {M2 : Mem} {H : Heap} {locs : List Loc} {ls : Array Slot}, lq2 (fn_X2_buildSingle_L2 t) k v1_2 M2 = some o → ST E s n (zf n) M2 H locs → lv_has ls 2 [(0, .ref (eb E + t)), (1, i3 v1_2)] → W p l e { frames := 3, cells := 0, slots := 0, locals := 71 } s m args below meth c H locs 0 0 (MQ below (QC E none n (zf n) o) args s 0 0 (fr E)) (F0 m 2 ls []) := fun {v1_2} {M2} {H} {locs} {ls} a b c => ih v1_2 M2 H locs ls a b c
    replace hf : fn_X2_buildSingle_L2 t (lq2 (fn_X2_buildSingle_L2 t) k) v1_2 M2 = some o := hf
    generalize lq2 (fn_X2_buildSingle_L2 t) k = rec2 at hf h_rec2
    unfold fn_X2_buildSingle_L2 at hf
    refine lv_iload_n C.hx C.hb dX2_buildSingle_2 rfl (lv_at hl 1 rfl) ?_
    refine lv_aload_n C.hx C.hb dX2_buildSingle_3 rfl (lv_at hl 0 rfl) ?_
    refine g_int C hH o_t (by decide) rfl FL_RX2_42 dX2_buildSingle_4 ?_
    refine w_ge (tgt := 46) C hf dX2_buildSingle_7 (by decide) (fun hf => ?_) (fun hf => ?_)
    · cases hf
      exact w_vret C hH dX2_buildSingle_46
    · refine lv_iload_n C.hx C.hb dX2_buildSingle_10 rfl (lv_at hl 1 rfl) ?_
      refine lv_bipush (v := Int32.ofInt 10) C.hx C.hb dX2_buildSingle_11 (by decide) ?_
      refine w_ge (tgt := 46) C hf dX2_buildSingle_13 (by decide) (fun hf => ?_) (fun hf => ?_)
      · cases hf
        exact w_vret C hH dX2_buildSingle_46
      · refine lv_iload_n C.hx C.hb dX2_buildSingle_16 rfl (lv_at hl 1 rfl) ?_
        refine lv_aload_n C.hx C.hb dX2_buildSingle_17 rfl (lv_at hl 0 rfl) ?_
        refine g_int C hH o_t (by decide) rfl FL_RX2_39 dX2_buildSingle_18 ?_
        refine w_eq (tgt := 40) C hf dX2_buildSingle_21 (by decide) (fun hf => ?_) (fun hf => ?_)
        · exact j_X2_buildSingle_40 C hn o_t h_rec2 hf hH (lv_sub hl [0, 1] rfl)
        · refine lv_aload_n C.hx C.hb dX2_buildSingle_24 rfl (lv_at hl 0 rfl) ?_
          refine lv_iconst (v := Int32.ofInt 1) C.hx C.hb dX2_buildSingle_25 rfl ?_
          refine lv_iload_n C.hx C.hb dX2_buildSingle_26 rfl (lv_at hl 1 rfl) ?_
          refine lv_aload_n C.hx C.hb dX2_buildSingle_27 rfl (lv_at hl 0 rfl) ?_
          refine g_ref (off := 1) C hH o_t (by decide) rfl rfl FL_RX2_9 dX2_buildSingle_28 ?_
          refine lv_iload_n C.hx C.hb dX2_buildSingle_31 rfl (lv_at hl 1 rfl) ?_
          refine r_iald C hH (ly (i := 3) (off := 1) (k := 12) hn o_t rfl rfl rfl) (lyn (i := 3) (off := 1) (N := 9) hn o_t rfl rfl rfl) hf dX2_buildSingle_32 (fun x32 hf => ?_)
          refine lv_lconst (v := Int64.ofInt 1) C.hx C.hb dX2_buildSingle_33 (by decide) ?_
          refine lv_sipush (v := Int32.ofInt 1023) C.hx C.hb dX2_buildSingle_34 (by decide) ?_
          obtain ⟨M37, hc9, hf⟩ := cv_of hf
          refine r_callVv (rest := []) C hH hl o_t (by decide) rfl (m_X2_put hn o_t hc9) ML_RX2_98 MF_X2_put MI_X2_put rfl rfl (Nat.le_of_ble_eq_true rfl) ⟨Nat.le_of_ble_eq_true rfl, Nat.le_of_ble_eq_true rfl⟩ ⟨Nat.le_refl _, Nat.le_refl _⟩ dX2_buildSingle_37 (fun H locs hH => ?_)
          exact j_X2_buildSingle_40 C hn o_t h_rec2 hf hH (lv_sub hl [0, 1] rfl)
set_option maxRecDepth 100000 in
set_option maxHeartbeats 4000000 in
theorem m_X2_buildSingle {E : EE} {l : Launch} {n : Nat} {t : Nat} {M : Mem} {o : Mem} (hn : nfull n) (o_t : ob n t 2) (hf : fn_X2_buildSingle t M = some o) : CT E l yX2_buildSingle cX2_buildSingle 2 none 3 71 0 0 [.ref (eb E + t)] n (zf n) M none n (zf n) o := by
  refine CT_of PN_RX2 (Nat.le_of_ble_eq_true rfl) ?_
  intro p e s m args below meth c C hH ls hl
  replace C : Cx E p s m args meth c cX2_buildSingle 2 RX2 none n "buildSingle" := C
  have hl : lv_has ls 2 [(0, .ref (eb E + t))] := hl
  unfold fn_X2_buildSingle at hf
  refine lv_iconst (v := Int32.ofInt 0) C.hx C.hb dX2_buildSingle_0 rfl ?_
  refine lv_istore_n (lv' := [(1, i3 0), (0, .ref (eb E + t))]) C.hx C.hb dX2_buildSingle_1 rfl hl (by decide) rfl (fun ls hl => ?_)
  exact l_X2_buildSingle_2 C hn o_t FU _ _ _ _ _ hf hH (lv_sub hl [1, 0] rfl)
-- HeavierByHand$RowTable.lengthen
def fn_X2_lengthen_J211 (v7_103 : Int) (rec103 : Int → Mem → Option Mem) (M211 : Mem) : Option Mem :=
  nm (v7_103 + 1) fun v7_211 => rec103 v7_211 M211
def fn_X2_lengthen_L103 (t : Nat) (a1 : Int) (a2 : Int) (v3_100 : Int) (v5_100 : Int) (v6_100 : Int) (rec103 : Int → Mem → Option Mem) (v7_103 : Int) (M103 : Mem) : Option Mem :=
  cLt v7_103 (M103 t 4) (cLt v7_103 10 (dLt 0 v3_100 (cu (fn_X2_cell t (a1 - 1) v7_103 a2 M103) fun x132 => cEq v7_103 (M103 t 5) (fn_X2_lengthen_J211 v7_103 rec103 M103) (cLt x132 0 (fn_X2_lengthen_J211 v7_103 rec103 M103) (cLt x132 (((ln (t + 2)) : Nat) : Int) (cLt x132 (((ln (t + 3)) : Nat) : Int) (rd M103 (t + 1) 10 v7_103 fun x182 => rd M103 (t + 2) (ln (t + 2)) x132 fun x191 => rd M103 (t + 3) (ln (t + 3)) x132 fun x203 => cv (fn_X2_put t a1 v7_103 (a2 + x182) (v3_100 - x191) (orI v6_100 (andI v5_100 (xorI x203 (-1)))) M103) fun M208 => fn_X2_lengthen_J211 v7_103 rec103 M208) (fn_X2_lengthen_J211 v7_103 rec103 M103)) (fn_X2_lengthen_J211 v7_103 rec103 M103)))) (some M103)) (some M103)) (some M103)
def fn_X2_lengthen_J100 (t : Nat) (a1 : Int) (a2 : Int) (M : Mem) (v3_100 : Int) (v5_100 : Int) (v6_100 : Int) : Option Mem :=
  lq2 (fn_X2_lengthen_L103 t a1 a2 v3_100 v5_100 v6_100) FU 0 M
def fn_X2_lengthen_J94 (v7_11 : Int) (rec11 : Int → Int → Int → Int → Option Mem) (v3_94 : Int) (v5_94 : Int) (v6_94 : Int) : Option Mem :=
  nm (v7_11 + 1) fun v7_94 => rec11 v7_94 v6_94 v5_94 v3_94
def fn_X2_lengthen_L11 (t : Nat) (a1 : Int) (a2 : Int) (M : Mem) (rec11 : Int → Int → Int → Int → Option Mem) (v7_11 : Int) (v6_11 : Int) (v5_11 : Int) (v3_11 : Int) : Option Mem :=
  cLt v7_11 (M t 4) (cu (fn_X2_cell t (a1 - 1) v7_11 a2 M) fun x27 => cLt x27 0 (fn_X2_lengthen_J94 v7_11 rec11 v3_11 v5_11 v6_11) (cLt x27 (((ln (t + 2)) : Nat) : Int) (cLt x27 (((ln (t + 3)) : Nat) : Int) (rd M (t + 2) (ln (t + 2)) x27 fun x64 => nm ((v3_11 + x64)) fun v3_66 => rd M (t + 3) (ln (t + 3)) x27 fun x77 => nm ((orI v6_11 (andI v5_11 x77))) fun v6_80 => rd M (t + 3) (ln (t + 3)) x27 fun x90 => nm ((orI v5_11 x90)) fun v5_92 => fn_X2_lengthen_J94 v7_11 rec11 v3_66 v5_92 v6_80) (fn_X2_lengthen_J94 v7_11 rec11 v3_11 v5_11 v6_11)) (fn_X2_lengthen_J94 v7_11 rec11 v3_11 v5_11 v6_11))) (fn_X2_lengthen_J100 t a1 a2 M v3_11 v5_11 v6_11)
def fn_X2_lengthen (t : Nat) (a1 : Int) (a2 : Int) (M : Mem) : Option Mem :=
  lq4 (fn_X2_lengthen_L11 t a1 a2 M) FU 0 0 0 0
set_option maxRecDepth 100000 in
set_option maxHeartbeats 4000000 in
theorem j_X2_lengthen_211 {p : Program} {l : Launch} {e : Env} {s : State} {m : MethodId} {args : Array Value} {below : List Frame} {meth : Method} {c : Code} {E : EE} {n : Nat} {o : Mem} {t : Nat} {a1 : Int} {a2 : Int} {v3_100 : Int} {v5_100 : Int} {v6_100 : Int} {v7_103 : Int} {rec103 : Int → Mem → Option Mem} {M211 : Mem} {H : Heap} {locs : List Loc} {ls : Array Slot} (C : Cx E p s m args meth c cX2_lengthen 9 RX2 none n "lengthen") (hn : nfull n) (o_t : ob n t 2) (h_rec103 : ∀ {v7_103 : Int} {M103 : Mem} {H : Heap} {locs : List Loc} {ls : Array Slot}, rec103 v7_103 M103 = some o → ST E s n (zf n) M103 H locs → lv_has ls 9 [(0, .ref (eb E + t)), (1, i3 a1), (2, i3 a2), (3, l6 v3_100), (5, i3 v5_100), (6, i3 v6_100), (7, i3 v7_103)] → W p l e { frames := 3, cells := 0, slots := 0, locals := 71 } s m args below meth c H locs 0 0 (MQ below (QC E none n (zf n) o) args s 0 0 (fr E)) (F0 m 103 ls [])) (hf : fn_X2_lengthen_J211 v7_103 rec103 M211 = some o) (hH : ST E s n (zf n) M211 H locs) (hl : lv_has ls 9 [(0, .ref (eb E + t)), (1, i3 a1), (2, i3 a2), (3, l6 v3_100), (5, i3 v5_100), (6, i3 v6_100), (7, i3 v7_103)]) : W p l e { frames := 3, cells := 0, slots := 0, locals := 71 } s m args below meth c H locs 0 0 (MQ below (QC E none n (zf n) o) args s 0 0 (fr E)) (F0 m 211 ls []) := by
  unfold fn_X2_lengthen_J211 at hf
  refine r_iinc (k := 6) (lv' := fun v => [(7, i3 v), (0, .ref (eb E + t)), (1, i3 a1), (2, i3 a2), (3, l6 v3_100), (5, i3 v5_100), (6, i3 v6_100)]) C hf dX2_lengthen_211 hl rfl (by decide) (fun _ => rfl) (fun v7_211 ls hf hl => ?_)
  refine lv_goto (tgt := 103) C.hx C.hb dX2_lengthen_214 (by decide) ?_
  exact h_rec103 hf hH (lv_sub hl [1, 2, 3, 4, 5, 6, 0] rfl)
set_option maxRecDepth 100000 in
set_option maxHeartbeats 4000000 in
theorem l_X2_lengthen_103 {p : Program} {l : Launch} {e : Env} {s : State} {m : MethodId} {args : Array Value} {below : List Frame} {meth : Method} {c : Code} {E : EE} {n : Nat} {o : Mem} {t : Nat} {a1 : Int} {a2 : Int} {v3_100 : Int} {v5_100 : Int} {v6_100 : Int} (C : Cx E p s m args meth c cX2_lengthen 9 RX2 none n "lengthen") (hn : nfull n) (o_t : ob n t 2) : ∀ (k : Nat) (v7_103 : Int) (M103 : Mem) (H : Heap) (locs : List Loc) (ls : Array Slot), lq2 (fn_X2_lengthen_L103 t a1 a2 v3_100 v5_100 v6_100) k v7_103 M103 = some o → ST E s n (zf n) M103 H locs → lv_has ls 9 [(0, .ref (eb E + t)), (1, i3 a1), (2, i3 a2), (3, l6 v3_100), (5, i3 v5_100), (6, i3 v6_100), (7, i3 v7_103)] → W p l e { frames := 3, cells := 0, slots := 0, locals := 71 } s m args below meth c H locs 0 0 (MQ below (QC E none n (zf n) o) args s 0 0 (fr E)) (F0 m 103 ls []) := by
  intro k
  induction k with
  | zero => intro v7_103 M103 H locs ls hf; cases hf
  | succ k ih =>
    intro v7_103 M103 H locs ls hf hH hl
    have h_rec103 : ∀ {v7_103 : Int} {M103 : Mem} {H : Heap} {locs : List Loc} {ls : Array Slot}, lq2 (fn_X2_lengthen_L103 t a1 a2 v3_100 v5_100 v6_100) k v7_103 M103 = some o → ST E s n (zf n) M103 H locs → lv_has ls 9 [(0, .ref (eb E + t)), (1, i3 a1), (2, i3 a2), (3, l6 v3_100), (5, i3 v5_100), (6, i3 v6_100), (7, i3 v7_103)] → W p l e { frames := 3, cells := 0, slots := 0, locals := 71 } s m args below meth c H locs 0 0 (MQ below (QC E none n (zf n) o) args s 0 0 (fr E)) (F0 m 103 ls []) := fun {v7_103} {M103} {H} {locs} {ls} a b c => ih v7_103 M103 H locs ls a b c
    replace hf : fn_X2_lengthen_L103 t a1 a2 v3_100 v5_100 v6_100 (lq2 (fn_X2_lengthen_L103 t a1 a2 v3_100 v5_100 v6_100) k) v7_103 M103 = some o := hf
    generalize lq2 (fn_X2_lengthen_L103 t a1 a2 v3_100 v5_100 v6_100) k = rec103 at hf h_rec103
    unfold fn_X2_lengthen_L103 at hf
    refine lv_iload C.hx C.hb dX2_lengthen_103 (lv_at hl 6 rfl) ?_
    refine lv_aload_n C.hx C.hb dX2_lengthen_105 rfl (lv_at hl 0 rfl) ?_
    refine g_int C hH o_t (by decide) rfl FL_RX2_42 dX2_lengthen_106 ?_
    refine w_ge (tgt := 217) C hf dX2_lengthen_109 (by decide) (fun hf => ?_) (fun hf => ?_)
    · cases hf
      exact w_vret C hH dX2_lengthen_217
    · refine lv_iload C.hx C.hb dX2_lengthen_112 (lv_at hl 6 rfl) ?_
      refine lv_bipush (v := Int32.ofInt 10) C.hx C.hb dX2_lengthen_114 (by decide) ?_
      refine w_ge (tgt := 217) C hf dX2_lengthen_116 (by decide) (fun hf => ?_) (fun hf => ?_)
      · cases hf
        exact w_vret C hH dX2_lengthen_217
      · refine lv_lload_n C.hx C.hb dX2_lengthen_119 rfl (lv_at hl 3 rfl) ?_
        refine lv_lconst (v := Int64.ofInt 0) C.hx C.hb dX2_lengthen_120 (by decide) ?_
        refine w_lle (tgt := 217) C hf dX2_lengthen_121 dX2_lengthen_122 (by decide) (fun hf => ?_) (fun hf => ?_)
        · cases hf
          exact w_vret C hH dX2_lengthen_217
        · refine lv_aload_n C.hx C.hb dX2_lengthen_125 rfl (lv_at hl 0 rfl) ?_
          refine lv_iload_n C.hx C.hb dX2_lengthen_126 rfl (lv_at hl 1 rfl) ?_
          refine lv_iconst (v := Int32.ofInt 1) C.hx C.hb dX2_lengthen_127 rfl ?_
          refine w_isub C dX2_lengthen_128 ?_
          refine lv_iload C.hx C.hb dX2_lengthen_129 (lv_at hl 6 rfl) ?_
          refine lv_iload_n C.hx C.hb dX2_lengthen_131 rfl (lv_at hl 2 rfl) ?_
          obtain ⟨x132, hc9, hf⟩ := cu_of hf
          refine r_callVi (rest := []) C hH hl o_t (by decide) rfl (m_X2_cell hn o_t hc9) ML_RX2_82 MF_X2_cell MI_X2_cell rfl rfl (Nat.le_of_ble_eq_true rfl) ⟨Nat.le_of_ble_eq_true rfl, Nat.le_of_ble_eq_true rfl⟩ ⟨Nat.le_refl _, Nat.le_refl _⟩ dX2_lengthen_132 (fun H locs hH => ?_)
          refine lv_istore (lv' := [(8, i3 x132), (0, .ref (eb E + t)), (1, i3 a1), (2, i3 a2), (3, l6 v3_100), (5, i3 v5_100), (6, i3 v6_100), (7, i3 v7_103)]) C.hx C.hb dX2_lengthen_135 hl (by decide) rfl (fun ls hl => ?_)
          refine lv_iload C.hx C.hb dX2_lengthen_137 (lv_at hl 7 rfl) ?_
          refine lv_aload_n C.hx C.hb dX2_lengthen_139 rfl (lv_at hl 1 rfl) ?_
          refine g_int C hH o_t (by decide) rfl FL_RX2_39 dX2_lengthen_140 ?_
          refine w_eq (tgt := 211) C hf dX2_lengthen_143 (by decide) (fun hf => ?_) (fun hf => ?_)
          · exact j_X2_lengthen_211 C hn o_t h_rec103 hf hH (lv_sub hl [1, 2, 3, 4, 5, 6, 7] rfl)
          · refine lv_iload C.hx C.hb dX2_lengthen_146 (lv_at hl 0 rfl) ?_
            refine w_lt0 (tgt := 211) C hf dX2_lengthen_148 (by decide) (fun hf => ?_) (fun hf => ?_)
            · exact j_X2_lengthen_211 C hn o_t h_rec103 hf hH (lv_sub hl [1, 2, 3, 4, 5, 6, 7] rfl)
            · refine lv_iload C.hx C.hb dX2_lengthen_151 (lv_at hl 0 rfl) ?_
              refine lv_aload_n C.hx C.hb dX2_lengthen_153 rfl (lv_at hl 1 rfl) ?_
              refine g_ref (off := 2) C hH o_t (by decide) rfl rfl FL_RX2_32 dX2_lengthen_154 ?_
              refine g_len (N := (ln (t + 2))) C hH (ly (i := 1) (off := 2) (k := 15) hn o_t rfl rfl rfl) (by decide) rfl dX2_lengthen_157 ?_
              refine w_ge (tgt := 211) C hf dX2_lengthen_158 (by decide) (fun hf => ?_) (fun hf => ?_)
              · exact j_X2_lengthen_211 C hn o_t h_rec103 hf hH (lv_sub hl [1, 2, 3, 4, 5, 6, 7] rfl)
              · refine lv_iload C.hx C.hb dX2_lengthen_161 (lv_at hl 0 rfl) ?_
                refine lv_aload_n C.hx C.hb dX2_lengthen_163 rfl (lv_at hl 1 rfl) ?_
                refine g_ref (off := 3) C hH o_t (by decide) rfl rfl FL_RX2_36 dX2_lengthen_164 ?_
                refine g_len (N := (ln (t + 3))) C hH (ly (i := 2) (off := 3) (k := 12) hn o_t rfl rfl rfl) (by decide) rfl dX2_lengthen_167 ?_
                refine w_ge (tgt := 211) C hf dX2_lengthen_168 (by decide) (fun hf => ?_) (fun hf => ?_)
                · exact j_X2_lengthen_211 C hn o_t h_rec103 hf hH (lv_sub hl [1, 2, 3, 4, 5, 6, 7] rfl)
                · refine lv_aload_n C.hx C.hb dX2_lengthen_171 rfl (lv_at hl 1 rfl) ?_
                  refine lv_iload_n C.hx C.hb dX2_lengthen_172 rfl (lv_at hl 2 rfl) ?_
                  refine lv_iload C.hx C.hb dX2_lengthen_173 (lv_at hl 7 rfl) ?_
                  refine lv_iload_n C.hx C.hb dX2_lengthen_175 rfl (lv_at hl 3 rfl) ?_
                  refine lv_aload_n C.hx C.hb dX2_lengthen_176 rfl (lv_at hl 1 rfl) ?_
                  refine g_ref (off := 1) C hH o_t (by decide) rfl rfl FL_RX2_9 dX2_lengthen_177 ?_
                  refine lv_iload C.hx C.hb dX2_lengthen_180 (lv_at hl 7 rfl) ?_
                  refine r_iald C hH (ly (i := 3) (off := 1) (k := 12) hn o_t rfl rfl rfl) (lyn (i := 3) (off := 1) (N := 9) hn o_t rfl rfl rfl) hf dX2_lengthen_182 (fun x182 hf => ?_)
                  refine w_iadd C dX2_lengthen_183 ?_
                  refine lv_lload_n C.hx C.hb dX2_lengthen_184 rfl (lv_at hl 4 rfl) ?_
                  refine lv_aload_n C.hx C.hb dX2_lengthen_185 rfl (lv_at hl 1 rfl) ?_
                  refine g_ref (off := 2) C hH o_t (by decide) rfl rfl FL_RX2_32 dX2_lengthen_186 ?_
                  refine lv_iload C.hx C.hb dX2_lengthen_189 (lv_at hl 0 rfl) ?_
                  refine r_lald C hH (ly (i := 1) (off := 2) (k := 15) hn o_t rfl rfl rfl) rfl hf dX2_lengthen_191 (fun x191 hf => ?_)
                  refine w_lsub C dX2_lengthen_192 ?_
                  refine lv_iload C.hx C.hb dX2_lengthen_193 (lv_at hl 6 rfl) ?_
                  refine lv_iload C.hx C.hb dX2_lengthen_195 (lv_at hl 5 rfl) ?_
                  refine lv_aload_n C.hx C.hb dX2_lengthen_197 rfl (lv_at hl 1 rfl) ?_
                  refine g_ref (off := 3) C hH o_t (by decide) rfl rfl FL_RX2_36 dX2_lengthen_198 ?_
                  refine lv_iload C.hx C.hb dX2_lengthen_201 (lv_at hl 0 rfl) ?_
                  refine r_iald C hH (ly (i := 2) (off := 3) (k := 12) hn o_t rfl rfl rfl) rfl hf dX2_lengthen_203 (fun x203 hf => ?_)
                  refine lv_iconst (v := Int32.ofInt (-1)) C.hx C.hb dX2_lengthen_204 rfl ?_
                  refine w_ixor C dX2_lengthen_205 ?_
                  refine w_iand C dX2_lengthen_206 ?_
                  refine w_ior C dX2_lengthen_207 ?_
                  obtain ⟨M208, hc9, hf⟩ := cv_of hf
                  refine r_callVv (rest := []) C hH hl o_t (by decide) rfl (m_X2_put hn o_t hc9) ML_RX2_98 MF_X2_put MI_X2_put rfl rfl (Nat.le_of_ble_eq_true rfl) ⟨Nat.le_of_ble_eq_true rfl, Nat.le_of_ble_eq_true rfl⟩ ⟨Nat.le_refl _, Nat.le_refl _⟩ dX2_lengthen_208 (fun H locs hH => ?_)
                  exact j_X2_lengthen_211 C hn o_t h_rec103 hf hH (lv_sub hl [1, 2, 3, 4, 5, 6, 7] rfl)
set_option maxRecDepth 100000 in
set_option maxHeartbeats 4000000 in
theorem j_X2_lengthen_100 {p : Program} {l : Launch} {e : Env} {s : State} {m : MethodId} {args : Array Value} {below : List Frame} {meth : Method} {c : Code} {E : EE} {n : Nat} {o : Mem} {t : Nat} {a1 : Int} {a2 : Int} {M : Mem} {v3_100 : Int} {v5_100 : Int} {v6_100 : Int} {H : Heap} {locs : List Loc} {ls : Array Slot} (C : Cx E p s m args meth c cX2_lengthen 9 RX2 none n "lengthen") (hn : nfull n) (o_t : ob n t 2) (hf : fn_X2_lengthen_J100 t a1 a2 M v3_100 v5_100 v6_100 = some o) (hH : ST E s n (zf n) M H locs) (hl : lv_has ls 9 [(0, .ref (eb E + t)), (1, i3 a1), (2, i3 a2), (3, l6 v3_100), (5, i3 v5_100), (6, i3 v6_100)]) : W p l e { frames := 3, cells := 0, slots := 0, locals := 71 } s m args below meth c H locs 0 0 (MQ below (QC E none n (zf n) o) args s 0 0 (fr E)) (F0 m 100 ls []) := by
  unfold fn_X2_lengthen_J100 at hf
  refine lv_iconst (v := Int32.ofInt 0) C.hx C.hb dX2_lengthen_100 rfl ?_
  refine lv_istore (lv' := [(7, i3 0), (0, .ref (eb E + t)), (1, i3 a1), (2, i3 a2), (3, l6 v3_100), (5, i3 v5_100), (6, i3 v6_100)]) C.hx C.hb dX2_lengthen_101 hl (by decide) rfl (fun ls hl => ?_)
  exact l_X2_lengthen_103 C hn o_t FU _ _ _ _ _ hf hH (lv_sub hl [1, 2, 3, 4, 5, 6, 0] rfl)
set_option maxRecDepth 100000 in
set_option maxHeartbeats 4000000 in
theorem j_X2_lengthen_94 {p : Program} {l : Launch} {e : Env} {s : State} {m : MethodId} {args : Array Value} {below : List Frame} {meth : Method} {c : Code} {E : EE} {n : Nat} {o : Mem} {t : Nat} {a1 : Int} {a2 : Int} {M : Mem} {v7_11 : Int} {rec11 : Int → Int → Int → Int → Option Mem} {v3_94 : Int} {v5_94 : Int} {v6_94 : Int} {H : Heap} {locs : List Loc} {ls : Array Slot} (C : Cx E p s m args meth c cX2_lengthen 9 RX2 none n "lengthen") (hn : nfull n) (o_t : ob n t 2) (h_rec11 : ∀ {v7_11 : Int} {v6_11 : Int} {v5_11 : Int} {v3_11 : Int} {H : Heap} {locs : List Loc} {ls : Array Slot}, rec11 v7_11 v6_11 v5_11 v3_11 = some o → ST E s n (zf n) M H locs → lv_has ls 9 [(0, .ref (eb E + t)), (1, i3 a1), (2, i3 a2), (3, l6 v3_11), (5, i3 v5_11), (6, i3 v6_11), (7, i3 v7_11)] → W p l e { frames := 3, cells := 0, slots := 0, locals := 71 } s m args below meth c H locs 0 0 (MQ below (QC E none n (zf n) o) args s 0 0 (fr E)) (F0 m 11 ls [])) (hf : fn_X2_lengthen_J94 v7_11 rec11 v3_94 v5_94 v6_94 = some o) (hH : ST E s n (zf n) M H locs) (hl : lv_has ls 9 [(0, .ref (eb E + t)), (1, i3 a1), (2, i3 a2), (3, l6 v3_94), (5, i3 v5_94), (6, i3 v6_94), (7, i3 v7_11)]) : W p l e { frames := 3, cells := 0, slots := 0, locals := 71 } s m args below meth c H locs 0 0 (MQ below (QC E none n (zf n) o) args s 0 0 (fr E)) (F0 m 94 ls []) := by
  unfold fn_X2_lengthen_J94 at hf
  refine r_iinc (k := 6) (lv' := fun v => [(7, i3 v), (0, .ref (eb E + t)), (1, i3 a1), (2, i3 a2), (3, l6 v3_94), (5, i3 v5_94), (6, i3 v6_94)]) C hf dX2_lengthen_94 hl rfl (by decide) (fun _ => rfl) (fun v7_94 ls hf hl => ?_)
  refine lv_goto (tgt := 11) C.hx C.hb dX2_lengthen_97 (by decide) ?_
  exact h_rec11 hf hH (lv_sub hl [1, 2, 3, 4, 5, 6, 0] rfl)
set_option maxRecDepth 100000 in
set_option maxHeartbeats 4000000 in
theorem l_X2_lengthen_11 {p : Program} {l : Launch} {e : Env} {s : State} {m : MethodId} {args : Array Value} {below : List Frame} {meth : Method} {c : Code} {E : EE} {n : Nat} {o : Mem} {t : Nat} {a1 : Int} {a2 : Int} {M : Mem} (C : Cx E p s m args meth c cX2_lengthen 9 RX2 none n "lengthen") (hn : nfull n) (o_t : ob n t 2) : ∀ (k : Nat) (v7_11 : Int) (v6_11 : Int) (v5_11 : Int) (v3_11 : Int) (H : Heap) (locs : List Loc) (ls : Array Slot), lq4 (fn_X2_lengthen_L11 t a1 a2 M) k v7_11 v6_11 v5_11 v3_11 = some o → ST E s n (zf n) M H locs → lv_has ls 9 [(0, .ref (eb E + t)), (1, i3 a1), (2, i3 a2), (3, l6 v3_11), (5, i3 v5_11), (6, i3 v6_11), (7, i3 v7_11)] → W p l e { frames := 3, cells := 0, slots := 0, locals := 71 } s m args below meth c H locs 0 0 (MQ below (QC E none n (zf n) o) args s 0 0 (fr E)) (F0 m 11 ls []) := by
  intro k
  induction k with
  | zero => intro v7_11 v6_11 v5_11 v3_11 H locs ls hf; cases hf
  | succ k ih =>
    intro v7_11 v6_11 v5_11 v3_11 H locs ls hf hH hl
    have h_rec11 : ∀ {v7_11 : Int} {v6_11 : Int} {v5_11 : Int} {v3_11 : Int} {H : Heap} {locs : List Loc} {ls : Array Slot}, lq4 (fn_X2_lengthen_L11 t a1 a2 M) k v7_11 v6_11 v5_11 v3_11 = some o → ST E s n (zf n) M H locs → lv_has ls 9 [(0, .ref (eb E + t)), (1, i3 a1), (2, i3 a2), (3, l6 v3_11), (5, i3 v5_11), (6, i3 v6_11), (7, i3 v7_11)] → W p l e { frames := 3, cells := 0, slots := 0, locals := 71 } s m args below meth c H locs 0 0 (MQ below (QC E none n (zf n) o) args s 0 0 (fr E)) (F0 m 11 ls []) := fun {v7_11} {v6_11} {v5_11} {v3_11} {H} {locs} {ls} a b c => ih v7_11 v6_11 v5_11 v3_11 H locs ls a b c
    replace hf : fn_X2_lengthen_L11 t a1 a2 M (lq4 (fn_X2_lengthen_L11 t a1 a2 M) k) v7_11 v6_11 v5_11 v3_11 = some o := hf
    generalize lq4 (fn_X2_lengthen_L11 t a1 a2 M) k = rec11 at hf h_rec11
    unfold fn_X2_lengthen_L11 at hf
    refine lv_iload C.hx C.hb dX2_lengthen_11 (lv_at hl 6 rfl) ?_
    refine lv_aload_n C.hx C.hb dX2_lengthen_13 rfl (lv_at hl 0 rfl) ?_
    refine g_int C hH o_t (by decide) rfl FL_RX2_42 dX2_lengthen_14 ?_
    refine w_ge (tgt := 100) C hf dX2_lengthen_17 (by decide) (fun hf => ?_) (fun hf => ?_)
    · exact j_X2_lengthen_100 C hn o_t hf hH (lv_sub hl [0, 1, 2, 3, 4, 5] rfl)
    · refine lv_aload_n C.hx C.hb dX2_lengthen_20 rfl (lv_at hl 0 rfl) ?_
      refine lv_iload_n C.hx C.hb dX2_lengthen_21 rfl (lv_at hl 1 rfl) ?_
      refine lv_iconst (v := Int32.ofInt 1) C.hx C.hb dX2_lengthen_22 rfl ?_
      refine w_isub C dX2_lengthen_23 ?_
      refine lv_iload C.hx C.hb dX2_lengthen_24 (lv_at hl 6 rfl) ?_
      refine lv_iload_n C.hx C.hb dX2_lengthen_26 rfl (lv_at hl 2 rfl) ?_
      obtain ⟨x27, hc9, hf⟩ := cu_of hf
      refine r_callVi (rest := []) C hH hl o_t (by decide) rfl (m_X2_cell hn o_t hc9) ML_RX2_82 MF_X2_cell MI_X2_cell rfl rfl (Nat.le_of_ble_eq_true rfl) ⟨Nat.le_of_ble_eq_true rfl, Nat.le_of_ble_eq_true rfl⟩ ⟨Nat.le_refl _, Nat.le_refl _⟩ dX2_lengthen_27 (fun H locs hH => ?_)
      refine lv_istore (lv' := [(8, i3 x27), (0, .ref (eb E + t)), (1, i3 a1), (2, i3 a2), (3, l6 v3_11), (5, i3 v5_11), (6, i3 v6_11), (7, i3 v7_11)]) C.hx C.hb dX2_lengthen_30 hl (by decide) rfl (fun ls hl => ?_)
      refine lv_iload C.hx C.hb dX2_lengthen_32 (lv_at hl 0 rfl) ?_
      refine w_lt0 (tgt := 94) C hf dX2_lengthen_34 (by decide) (fun hf => ?_) (fun hf => ?_)
      · exact j_X2_lengthen_94 C hn o_t h_rec11 hf hH (lv_sub hl [1, 2, 3, 4, 5, 6, 7] rfl)
      · refine lv_iload C.hx C.hb dX2_lengthen_37 (lv_at hl 0 rfl) ?_
        refine lv_aload_n C.hx C.hb dX2_lengthen_39 rfl (lv_at hl 1 rfl) ?_
        refine g_ref (off := 2) C hH o_t (by decide) rfl rfl FL_RX2_32 dX2_lengthen_40 ?_
        refine g_len (N := (ln (t + 2))) C hH (ly (i := 1) (off := 2) (k := 15) hn o_t rfl rfl rfl) (by decide) rfl dX2_lengthen_43 ?_
        refine w_ge (tgt := 94) C hf dX2_lengthen_44 (by decide) (fun hf => ?_) (fun hf => ?_)
        · exact j_X2_lengthen_94 C hn o_t h_rec11 hf hH (lv_sub hl [1, 2, 3, 4, 5, 6, 7] rfl)
        · refine lv_iload C.hx C.hb dX2_lengthen_47 (lv_at hl 0 rfl) ?_
          refine lv_aload_n C.hx C.hb dX2_lengthen_49 rfl (lv_at hl 1 rfl) ?_
          refine g_ref (off := 3) C hH o_t (by decide) rfl rfl FL_RX2_36 dX2_lengthen_50 ?_
          refine g_len (N := (ln (t + 3))) C hH (ly (i := 2) (off := 3) (k := 12) hn o_t rfl rfl rfl) (by decide) rfl dX2_lengthen_53 ?_
          refine w_ge (tgt := 94) C hf dX2_lengthen_54 (by decide) (fun hf => ?_) (fun hf => ?_)
          · exact j_X2_lengthen_94 C hn o_t h_rec11 hf hH (lv_sub hl [1, 2, 3, 4, 5, 6, 7] rfl)
          · refine lv_lload_n C.hx C.hb dX2_lengthen_57 rfl (lv_at hl 4 rfl) ?_
            refine lv_aload_n C.hx C.hb dX2_lengthen_58 rfl (lv_at hl 1 rfl) ?_
            refine g_ref (off := 2) C hH o_t (by decide) rfl rfl FL_RX2_32 dX2_lengthen_59 ?_
            refine lv_iload C.hx C.hb dX2_lengthen_62 (lv_at hl 0 rfl) ?_
            refine r_lald C hH (ly (i := 1) (off := 2) (k := 15) hn o_t rfl rfl rfl) rfl hf dX2_lengthen_64 (fun x64 hf => ?_)
            refine w_ladd C dX2_lengthen_65 ?_
            refine r_nmL hf (fun v3_66 hf => ?_)
            refine lv_lstore_n (lv' := [(3, l6 v3_66), (8, i3 x27), (0, .ref (eb E + t)), (1, i3 a1), (2, i3 a2), (5, i3 v5_11), (6, i3 v6_11), (7, i3 v7_11)]) C.hx C.hb dX2_lengthen_66 rfl hl (by decide) rfl (fun ls hl => ?_)
            refine lv_iload C.hx C.hb dX2_lengthen_67 (lv_at hl 6 rfl) ?_
            refine lv_iload C.hx C.hb dX2_lengthen_69 (lv_at hl 5 rfl) ?_
            refine lv_aload_n C.hx C.hb dX2_lengthen_71 rfl (lv_at hl 2 rfl) ?_
            refine g_ref (off := 3) C hH o_t (by decide) rfl rfl FL_RX2_36 dX2_lengthen_72 ?_
            refine lv_iload C.hx C.hb dX2_lengthen_75 (lv_at hl 1 rfl) ?_
            refine r_iald C hH (ly (i := 2) (off := 3) (k := 12) hn o_t rfl rfl rfl) rfl hf dX2_lengthen_77 (fun x77 hf => ?_)
            refine w_iand C dX2_lengthen_78 ?_
            refine w_ior C dX2_lengthen_79 ?_
            refine r_nm hf (fun v6_80 hf => ?_)
            refine lv_istore (lv' := [(6, i3 v6_80), (3, l6 v3_66), (8, i3 x27), (0, .ref (eb E + t)), (1, i3 a1), (2, i3 a2), (5, i3 v5_11), (7, i3 v7_11)]) C.hx C.hb dX2_lengthen_80 hl (by decide) rfl (fun ls hl => ?_)
            refine lv_iload C.hx C.hb dX2_lengthen_82 (lv_at hl 6 rfl) ?_
            refine lv_aload_n C.hx C.hb dX2_lengthen_84 rfl (lv_at hl 3 rfl) ?_
            refine g_ref (off := 3) C hH o_t (by decide) rfl rfl FL_RX2_36 dX2_lengthen_85 ?_
            refine lv_iload C.hx C.hb dX2_lengthen_88 (lv_at hl 2 rfl) ?_
            refine r_iald C hH (ly (i := 2) (off := 3) (k := 12) hn o_t rfl rfl rfl) rfl hf dX2_lengthen_90 (fun x90 hf => ?_)
            refine w_ior C dX2_lengthen_91 ?_
            refine r_nm hf (fun v5_92 hf => ?_)
            refine lv_istore (lv' := [(5, i3 v5_92), (6, i3 v6_80), (3, l6 v3_66), (8, i3 x27), (0, .ref (eb E + t)), (1, i3 a1), (2, i3 a2), (7, i3 v7_11)]) C.hx C.hb dX2_lengthen_92 hl (by decide) rfl (fun ls hl => ?_)
            exact j_X2_lengthen_94 C hn o_t h_rec11 hf hH (lv_sub hl [4, 5, 6, 2, 0, 1, 7] rfl)
set_option maxRecDepth 100000 in
set_option maxHeartbeats 4000000 in
theorem m_X2_lengthen {E : EE} {l : Launch} {n : Nat} {t : Nat} {a1 : Int} {a2 : Int} {M : Mem} {o : Mem} (hn : nfull n) (o_t : ob n t 2) (hf : fn_X2_lengthen t a1 a2 M = some o) : CT E l yX2_lengthen cX2_lengthen 9 none 3 71 0 0 [.ref (eb E + t), i3 a1, i3 a2] n (zf n) M none n (zf n) o := by
  refine CT_of PN_RX2 (Nat.le_of_ble_eq_true rfl) ?_
  intro p e s m args below meth c C hH ls hl
  replace C : Cx E p s m args meth c cX2_lengthen 9 RX2 none n "lengthen" := C
  have hl : lv_has ls 9 [(0, .ref (eb E + t)), (1, i3 a1), (2, i3 a2)] := hl
  unfold fn_X2_lengthen at hf
  refine lv_lconst (v := Int64.ofInt 0) C.hx C.hb dX2_lengthen_0 (by decide) ?_
  refine lv_lstore_n (lv' := [(3, l6 0), (0, .ref (eb E + t)), (1, i3 a1), (2, i3 a2)]) C.hx C.hb dX2_lengthen_1 rfl hl (by decide) rfl (fun ls hl => ?_)
  refine lv_iconst (v := Int32.ofInt 0) C.hx C.hb dX2_lengthen_2 rfl ?_
  refine lv_istore (lv' := [(5, i3 0), (3, l6 0), (0, .ref (eb E + t)), (1, i3 a1), (2, i3 a2)]) C.hx C.hb dX2_lengthen_3 hl (by decide) rfl (fun ls hl => ?_)
  refine lv_iconst (v := Int32.ofInt 0) C.hx C.hb dX2_lengthen_5 rfl ?_
  refine lv_istore (lv' := [(6, i3 0), (5, i3 0), (3, l6 0), (0, .ref (eb E + t)), (1, i3 a1), (2, i3 a2)]) C.hx C.hb dX2_lengthen_6 hl (by decide) rfl (fun ls hl => ?_)
  refine lv_iconst (v := Int32.ofInt 0) C.hx C.hb dX2_lengthen_8 rfl ?_
  refine lv_istore (lv' := [(7, i3 0), (6, i3 0), (5, i3 0), (3, l6 0), (0, .ref (eb E + t)), (1, i3 a1), (2, i3 a2)]) C.hx C.hb dX2_lengthen_9 hl (by decide) rfl (fun ls hl => ?_)
  exact l_X2_lengthen_11 C hn o_t FU _ _ _ _ _ _ _ hf hH (lv_sub hl [4, 5, 6, 3, 2, 1, 0] rfl)
-- HeavierByHand$RowTable.build
def fn_X2_build_J58 (t : Nat) (v2_7 : Int) (rec7 : Int → Mem → Option Mem) (M58 : Mem) : Option Mem :=
  st M58 t 6 v2_7 fun M60 => nm (v2_7 + 1) fun v2_63 => rec7 v2_63 M60
def fn_X2_build_L36 (t : Nat) (v2_7 : Int) (rec7 : Int → Mem → Option Mem) (rec36 : Int → Mem → Option Mem) (v3_36 : Int) (M36 : Mem) : Option Mem :=
  cLt (30 * (v2_7 - 1)) v3_36 (fn_X2_build_J58 t v2_7 rec7 M36) (cv (fn_X2_lengthen t v2_7 v3_36 M36) fun M49 => nm (v3_36 + 1) fun v3_52 => rec36 v3_52 M49)
def fn_X2_build_J34 (t : Nat) (v2_7 : Int) (rec7 : Int → Mem → Option Mem) (M34 : Mem) : Option Mem :=
  lq2 (fn_X2_build_L36 t v2_7 rec7) FU 0 M34
def fn_X2_build_L7 (t : Nat) (a1 : Int) (rec7 : Int → Mem → Option Mem) (v2_7 : Int) (M7 : Mem) : Option Mem :=
  cLt a1 v2_7 (some M7) (cLt (M7 t 0) v2_7 (some M7) (cv (fn_X2_clear t v2_7 M7) fun M22 => cEq v2_7 1 (cv (fn_X2_buildSingle t M22) fun M31 => fn_X2_build_J34 t v2_7 rec7 M31) (fn_X2_build_J34 t v2_7 rec7 M22)))
def fn_X2_build (t : Nat) (a1 : Int) (M : Mem) : Option Mem :=
  nm (((M t 6) + 1)) fun v2_6 => lq2 (fn_X2_build_L7 t a1) FU v2_6 M
set_option maxRecDepth 100000 in
set_option maxHeartbeats 4000000 in
theorem j_X2_build_58 {p : Program} {l : Launch} {e : Env} {s : State} {m : MethodId} {args : Array Value} {below : List Frame} {meth : Method} {c : Code} {E : EE} {n : Nat} {o : Mem} {t : Nat} {a1 : Int} {v2_7 : Int} {rec7 : Int → Mem → Option Mem} {M58 : Mem} {H : Heap} {locs : List Loc} {ls : Array Slot} (C : Cx E p s m args meth c cX2_build 4 RX2 none n "build") (hn : nfull n) (o_t : ob n t 2) (h_rec7 : ∀ {v2_7 : Int} {M7 : Mem} {H : Heap} {locs : List Loc} {ls : Array Slot}, rec7 v2_7 M7 = some o → ST E s n (zf n) M7 H locs → lv_has ls 4 [(0, .ref (eb E + t)), (1, i3 a1), (2, i3 v2_7)] → W p l e { frames := 5, cells := 0, slots := 0, locals := 143 } s m args below meth c H locs 0 0 (MQ below (QC E none n (zf n) o) args s 0 0 (fr E)) (F0 m 7 ls [])) (hf : fn_X2_build_J58 t v2_7 rec7 M58 = some o) (hH : ST E s n (zf n) M58 H locs) (hl : lv_has ls 4 [(0, .ref (eb E + t)), (1, i3 a1), (2, i3 v2_7)]) : W p l e { frames := 5, cells := 0, slots := 0, locals := 143 } s m args below meth c H locs 0 0 (MQ below (QC E none n (zf n) o) args s 0 0 (fr E)) (F0 m 58 ls []) := by
  unfold fn_X2_build_J58 at hf
  refine lv_aload_n C.hx C.hb dX2_build_58 rfl (lv_at hl 0 rfl) ?_
  refine lv_iload_n C.hx C.hb dX2_build_59 rfl (lv_at hl 2 rfl) ?_
  refine r_put C hH o_t (by decide) rfl FL_RX2_55 FW_2_6 hf dX2_build_60 (fun M60 H locs hf hH => ?_)
  refine r_iinc (k := 2) (lv' := fun v => [(2, i3 v), (0, .ref (eb E + t)), (1, i3 a1)]) C hf dX2_build_63 hl rfl (by decide) (fun _ => rfl) (fun v2_63 ls hf hl => ?_)
  refine lv_goto (tgt := 7) C.hx C.hb dX2_build_66 (by decide) ?_
  exact h_rec7 hf hH (lv_sub hl [1, 2, 0] rfl)
set_option maxRecDepth 100000 in
set_option maxHeartbeats 4000000 in
theorem l_X2_build_36 {p : Program} {l : Launch} {e : Env} {s : State} {m : MethodId} {args : Array Value} {below : List Frame} {meth : Method} {c : Code} {E : EE} {n : Nat} {o : Mem} {t : Nat} {a1 : Int} {v2_7 : Int} {rec7 : Int → Mem → Option Mem} (C : Cx E p s m args meth c cX2_build 4 RX2 none n "build") (hn : nfull n) (o_t : ob n t 2) (h_rec7 : ∀ {v2_7 : Int} {M7 : Mem} {H : Heap} {locs : List Loc} {ls : Array Slot}, rec7 v2_7 M7 = some o → ST E s n (zf n) M7 H locs → lv_has ls 4 [(0, .ref (eb E + t)), (1, i3 a1), (2, i3 v2_7)] → W p l e { frames := 5, cells := 0, slots := 0, locals := 143 } s m args below meth c H locs 0 0 (MQ below (QC E none n (zf n) o) args s 0 0 (fr E)) (F0 m 7 ls [])) : ∀ (k : Nat) (v3_36 : Int) (M36 : Mem) (H : Heap) (locs : List Loc) (ls : Array Slot), lq2 (fn_X2_build_L36 t v2_7 rec7) k v3_36 M36 = some o → ST E s n (zf n) M36 H locs → lv_has ls 4 [(0, .ref (eb E + t)), (1, i3 a1), (2, i3 v2_7), (3, i3 v3_36)] → W p l e { frames := 5, cells := 0, slots := 0, locals := 143 } s m args below meth c H locs 0 0 (MQ below (QC E none n (zf n) o) args s 0 0 (fr E)) (F0 m 36 ls []) := by
  intro k
  induction k with
  | zero => intro v3_36 M36 H locs ls hf; cases hf
  | succ k ih =>
    intro v3_36 M36 H locs ls hf hH hl
    have h_rec36 : ∀ {v3_36 : Int} {M36 : Mem} {H : Heap} {locs : List Loc} {ls : Array Slot}, lq2 (fn_X2_build_L36 t v2_7 rec7) k v3_36 M36 = some o → ST E s n (zf n) M36 H locs → lv_has ls 4 [(0, .ref (eb E + t)), (1, i3 a1), (2, i3 v2_7), (3, i3 v3_36)] → W p l e { frames := 5, cells := 0, slots := 0, locals := 143 } s m args below meth c H locs 0 0 (MQ below (QC E none n (zf n) o) args s 0 0 (fr E)) (F0 m 36 ls []) := fun {v3_36} {M36} {H} {locs} {ls} a b c => ih v3_36 M36 H locs ls a b c
    replace hf : fn_X2_build_L36 t v2_7 rec7 (lq2 (fn_X2_build_L36 t v2_7 rec7) k) v3_36 M36 = some o := hf
    generalize lq2 (fn_X2_build_L36 t v2_7 rec7) k = rec36 at hf h_rec36
    unfold fn_X2_build_L36 at hf
    refine lv_iload_n C.hx C.hb dX2_build_36 rfl (lv_at hl 3 rfl) ?_
    refine lv_bipush (v := Int32.ofInt 30) C.hx C.hb dX2_build_37 (by decide) ?_
    refine lv_iload_n C.hx C.hb dX2_build_39 rfl (lv_at hl 2 rfl) ?_
    refine lv_iconst (v := Int32.ofInt 1) C.hx C.hb dX2_build_40 rfl ?_
    refine w_isub C dX2_build_41 ?_
    refine w_imul C dX2_build_42 ?_
    refine w_gt (tgt := 58) C hf dX2_build_43 (by decide) (fun hf => ?_) (fun hf => ?_)
    · exact j_X2_build_58 C hn o_t h_rec7 hf hH (lv_sub hl [0, 1, 2] rfl)
    · refine lv_aload_n C.hx C.hb dX2_build_46 rfl (lv_at hl 0 rfl) ?_
      refine lv_iload_n C.hx C.hb dX2_build_47 rfl (lv_at hl 2 rfl) ?_
      refine lv_iload_n C.hx C.hb dX2_build_48 rfl (lv_at hl 3 rfl) ?_
      obtain ⟨M49, hc9, hf⟩ := cv_of hf
      refine r_callVv (rest := []) C hH hl o_t (by decide) rfl (m_X2_lengthen hn o_t hc9) ML_RX2_94 MF_X2_lengthen MI_X2_lengthen rfl rfl (Nat.le_of_ble_eq_true rfl) ⟨Nat.le_of_ble_eq_true rfl, Nat.le_of_ble_eq_true rfl⟩ ⟨Nat.le_refl _, Nat.le_refl _⟩ dX2_build_49 (fun H locs hH => ?_)
      refine r_iinc (k := 3) (lv' := fun v => [(3, i3 v), (0, .ref (eb E + t)), (1, i3 a1), (2, i3 v2_7)]) C hf dX2_build_52 hl rfl (by decide) (fun _ => rfl) (fun v3_52 ls hf hl => ?_)
      refine lv_goto (tgt := 36) C.hx C.hb dX2_build_55 (by decide) ?_
      exact h_rec36 hf hH (lv_sub hl [1, 2, 3, 0] rfl)
set_option maxRecDepth 100000 in
set_option maxHeartbeats 4000000 in
theorem j_X2_build_34 {p : Program} {l : Launch} {e : Env} {s : State} {m : MethodId} {args : Array Value} {below : List Frame} {meth : Method} {c : Code} {E : EE} {n : Nat} {o : Mem} {t : Nat} {a1 : Int} {v2_7 : Int} {rec7 : Int → Mem → Option Mem} {M34 : Mem} {H : Heap} {locs : List Loc} {ls : Array Slot} (C : Cx E p s m args meth c cX2_build 4 RX2 none n "build") (hn : nfull n) (o_t : ob n t 2) (h_rec7 : ∀ {v2_7 : Int} {M7 : Mem} {H : Heap} {locs : List Loc} {ls : Array Slot}, rec7 v2_7 M7 = some o → ST E s n (zf n) M7 H locs → lv_has ls 4 [(0, .ref (eb E + t)), (1, i3 a1), (2, i3 v2_7)] → W p l e { frames := 5, cells := 0, slots := 0, locals := 143 } s m args below meth c H locs 0 0 (MQ below (QC E none n (zf n) o) args s 0 0 (fr E)) (F0 m 7 ls [])) (hf : fn_X2_build_J34 t v2_7 rec7 M34 = some o) (hH : ST E s n (zf n) M34 H locs) (hl : lv_has ls 4 [(0, .ref (eb E + t)), (1, i3 a1), (2, i3 v2_7)]) : W p l e { frames := 5, cells := 0, slots := 0, locals := 143 } s m args below meth c H locs 0 0 (MQ below (QC E none n (zf n) o) args s 0 0 (fr E)) (F0 m 34 ls []) := by
  unfold fn_X2_build_J34 at hf
  refine lv_iconst (v := Int32.ofInt 0) C.hx C.hb dX2_build_34 rfl ?_
  refine lv_istore_n (lv' := [(3, i3 0), (0, .ref (eb E + t)), (1, i3 a1), (2, i3 v2_7)]) C.hx C.hb dX2_build_35 rfl hl (by decide) rfl (fun ls hl => ?_)
  exact l_X2_build_36 C hn o_t h_rec7 FU _ _ _ _ _ hf hH (lv_sub hl [1, 2, 3, 0] rfl)
set_option maxRecDepth 100000 in
set_option maxHeartbeats 4000000 in
theorem l_X2_build_7 {p : Program} {l : Launch} {e : Env} {s : State} {m : MethodId} {args : Array Value} {below : List Frame} {meth : Method} {c : Code} {E : EE} {n : Nat} {o : Mem} {t : Nat} {a1 : Int} (C : Cx E p s m args meth c cX2_build 4 RX2 none n "build") (hn : nfull n) (o_t : ob n t 2) : ∀ (k : Nat) (v2_7 : Int) (M7 : Mem) (H : Heap) (locs : List Loc) (ls : Array Slot), lq2 (fn_X2_build_L7 t a1) k v2_7 M7 = some o → ST E s n (zf n) M7 H locs → lv_has ls 4 [(0, .ref (eb E + t)), (1, i3 a1), (2, i3 v2_7)] → W p l e { frames := 5, cells := 0, slots := 0, locals := 143 } s m args below meth c H locs 0 0 (MQ below (QC E none n (zf n) o) args s 0 0 (fr E)) (F0 m 7 ls []) := by
  intro k
  induction k with
  | zero => intro v2_7 M7 H locs ls hf; cases hf
  | succ k ih =>
    intro v2_7 M7 H locs ls hf hH hl
    have h_rec7 : ∀ {v2_7 : Int} {M7 : Mem} {H : Heap} {locs : List Loc} {ls : Array Slot}, lq2 (fn_X2_build_L7 t a1) k v2_7 M7 = some o → ST E s n (zf n) M7 H locs → lv_has ls 4 [(0, .ref (eb E + t)), (1, i3 a1), (2, i3 v2_7)] → W p l e { frames := 5, cells := 0, slots := 0, locals := 143 } s m args below meth c H locs 0 0 (MQ below (QC E none n (zf n) o) args s 0 0 (fr E)) (F0 m 7 ls []) := fun {v2_7} {M7} {H} {locs} {ls} a b c => ih v2_7 M7 H locs ls a b c
    replace hf : fn_X2_build_L7 t a1 (lq2 (fn_X2_build_L7 t a1) k) v2_7 M7 = some o := hf
    generalize lq2 (fn_X2_build_L7 t a1) k = rec7 at hf h_rec7
    unfold fn_X2_build_L7 at hf
    refine lv_iload_n C.hx C.hb dX2_build_7 rfl (lv_at hl 2 rfl) ?_
    refine lv_iload_n C.hx C.hb dX2_build_8 rfl (lv_at hl 1 rfl) ?_
    refine w_gt (tgt := 69) C hf dX2_build_9 (by decide) (fun hf => ?_) (fun hf => ?_)
    · cases hf
      exact w_vret C hH dX2_build_69
    · refine lv_iload_n C.hx C.hb dX2_build_12 rfl (lv_at hl 2 rfl) ?_
      refine lv_aload_n C.hx C.hb dX2_build_13 rfl (lv_at hl 0 rfl) ?_
      refine g_int C hH o_t (by decide) rfl FL_RX2_24 dX2_build_14 ?_
      refine w_gt (tgt := 69) C hf dX2_build_17 (by decide) (fun hf => ?_) (fun hf => ?_)
      · cases hf
        exact w_vret C hH dX2_build_69
      · refine lv_aload_n C.hx C.hb dX2_build_20 rfl (lv_at hl 0 rfl) ?_
        refine lv_iload_n C.hx C.hb dX2_build_21 rfl (lv_at hl 2 rfl) ?_
        obtain ⟨M22, hc9, hf⟩ := cv_of hf
        refine r_callVv (rest := []) C hH hl o_t (by decide) rfl (m_X2_clear hn o_t hc9) ML_RX2_88 MF_X2_clear MI_X2_clear rfl rfl (Nat.le_of_ble_eq_true rfl) ⟨Nat.le_of_ble_eq_true rfl, Nat.le_of_ble_eq_true rfl⟩ ⟨Nat.le_refl _, Nat.le_refl _⟩ dX2_build_22 (fun H locs hH => ?_)
        refine lv_iload_n C.hx C.hb dX2_build_25 rfl (lv_at hl 2 rfl) ?_
        refine lv_iconst (v := Int32.ofInt 1) C.hx C.hb dX2_build_26 rfl ?_
        refine w_ne (tgt := 34) C hf dX2_build_27 (by decide) (fun hf => ?_) (fun hf => ?_)
        · exact j_X2_build_34 C hn o_t h_rec7 hf hH (lv_sub hl [0, 1, 2] rfl)
        · refine lv_aload_n C.hx C.hb dX2_build_30 rfl (lv_at hl 0 rfl) ?_
          obtain ⟨M31, hc9, hf⟩ := cv_of hf
          refine r_callVv (rest := []) C hH hl o_t (by decide) rfl (m_X2_buildSingle hn o_t hc9) ML_RX2_91 MF_X2_buildSingle MI_X2_buildSingle rfl rfl (Nat.le_of_ble_eq_true rfl) ⟨Nat.le_of_ble_eq_true rfl, Nat.le_of_ble_eq_true rfl⟩ ⟨Nat.le_refl _, Nat.le_refl _⟩ dX2_build_31 (fun H locs hH => ?_)
          exact j_X2_build_34 C hn o_t h_rec7 hf hH (lv_sub hl [0, 1, 2] rfl)
set_option maxRecDepth 100000 in
set_option maxHeartbeats 4000000 in
theorem m_X2_build {E : EE} {l : Launch} {n : Nat} {t : Nat} {a1 : Int} {M : Mem} {o : Mem} (hn : nfull n) (o_t : ob n t 2) (hf : fn_X2_build t a1 M = some o) : CT E l yX2_build cX2_build 4 none 5 143 0 0 [.ref (eb E + t), i3 a1] n (zf n) M none n (zf n) o := by
  refine CT_of PN_RX2 (Nat.le_of_ble_eq_true rfl) ?_
  intro p e s m args below meth c C hH ls hl
  replace C : Cx E p s m args meth c cX2_build 4 RX2 none n "build" := C
  have hl : lv_has ls 4 [(0, .ref (eb E + t)), (1, i3 a1)] := hl
  unfold fn_X2_build at hf
  refine lv_aload_n C.hx C.hb dX2_build_0 rfl (lv_at hl 0 rfl) ?_
  refine g_int C hH o_t (by decide) rfl FL_RX2_55 dX2_build_1 ?_
  refine lv_iconst (v := Int32.ofInt 1) C.hx C.hb dX2_build_4 rfl ?_
  refine w_iadd C dX2_build_5 ?_
  refine r_nm hf (fun v2_6 hf => ?_)
  refine lv_istore_n (lv' := [(2, i3 v2_6), (0, .ref (eb E + t)), (1, i3 a1)]) C.hx C.hb dX2_build_6 rfl hl (by decide) rfl (fun ls hl => ?_)
  exact l_X2_build_7 C hn o_t FU _ _ _ _ _ hf hH (lv_sub hl [1, 2, 0] rfl)
-- HeavierByHand$RowTable.isNear
def fn_X2_isNear_J15 : Option Int :=
  some 0
def fn_X2_isNear (a0 : Int) (a1 : Int) (M : Mem) : Option Int :=
  cLt a0 (-a1) (fn_X2_isNear_J15) (cLt a1 a0 (fn_X2_isNear_J15) (some 1))
set_option maxRecDepth 100000 in
set_option maxHeartbeats 4000000 in
theorem j_X2_isNear_15 {p : Program} {l : Launch} {e : Env} {s : State} {m : MethodId} {args : Array Value} {below : List Frame} {meth : Method} {c : Code} {E : EE} {n : Nat} {o : Int} {M : Mem} {H : Heap} {locs : List Loc} {ls : Array Slot} (C : Cx E p s m args meth c cX2_isNear 2 RX2 (some .boolean) n "isNear") (hn : nfull n) (hf : fn_X2_isNear_J15 = some o) (hH : ST E s n (zf n) M H locs) (hl : lv_has ls 2 []) : W p l e { frames := 0, cells := 0, slots := 0, locals := 0 } s m args below meth c H locs 0 0 (MQ below (QC E (some (i3 o)) n (zf n) M) args s 0 0 (fr E)) (F0 m 15 ls []) := by
  unfold fn_X2_isNear_J15 at hf
  refine lv_iconst (v := Int32.ofInt 0) C.hx C.hb dX2_isNear_15 rfl ?_
  cases hf
  exact w_zret C hH (Or.inl rfl) dX2_isNear_16
set_option maxRecDepth 100000 in
set_option maxHeartbeats 4000000 in
theorem m_X2_isNear {E : EE} {l : Launch} {n : Nat} {a0 : Int} {a1 : Int} {M : Mem} {o : Int} (hn : nfull n) (hf : fn_X2_isNear a0 a1 M = some o) : CT E l yX2_isNear cX2_isNear 2 (some .boolean) 0 0 0 0 [i3 a0, i3 a1] n (zf n) M (some (i3 o)) n (zf n) M := by
  refine CT_of PN_RX2 (Nat.le_of_ble_eq_true rfl) ?_
  intro p e s m args below meth c C hH ls hl
  replace C : Cx E p s m args meth c cX2_isNear 2 RX2 (some .boolean) n "isNear" := C
  have hl : lv_has ls 2 [(0, i3 a0), (1, i3 a1)] := hl
  unfold fn_X2_isNear at hf
  refine lv_iload_n C.hx C.hb dX2_isNear_0 rfl (lv_at hl 0 rfl) ?_
  refine lv_iload_n C.hx C.hb dX2_isNear_1 rfl (lv_at hl 1 rfl) ?_
  refine w_ineg C dX2_isNear_2 ?_
  refine w_lt (tgt := 15) C hf dX2_isNear_3 (by decide) (fun hf => ?_) (fun hf => ?_)
  · exact j_X2_isNear_15 C hn hf hH (lv_sub hl [] rfl)
  · refine lv_iload_n C.hx C.hb dX2_isNear_6 rfl (lv_at hl 0 rfl) ?_
    refine lv_iload_n C.hx C.hb dX2_isNear_7 rfl (lv_at hl 1 rfl) ?_
    refine w_gt (tgt := 15) C hf dX2_isNear_8 (by decide) (fun hf => ?_) (fun hf => ?_)
    · exact j_X2_isNear_15 C hn hf hH (lv_sub hl [] rfl)
    · refine lv_iconst (v := Int32.ofInt 1) C.hx C.hb dX2_isNear_11 rfl ?_
      refine lv_goto (tgt := 16) C.hx C.hb dX2_isNear_12 (by decide) ?_
      cases hf
      exact w_zret C hH (Or.inr rfl) dX2_isNear_16
-- HeavierByHand$RowTable.startingWith
def fn_X2_startingWith_J71 (v8_25 : Int) (v5_25 : Int) (rec25 : Int → Int → Option Int) (u0_71 : Int) : Option Int :=
  nm ((v5_25 + u0_71)) fun v5_72 => nm (v8_25 + 1) fun v8_74 => rec25 v8_74 v5_72
def fn_X2_startingWith_J70 (v8_25 : Int) (v5_25 : Int) (rec25 : Int → Int → Option Int) : Option Int :=
  fn_X2_startingWith_J71 v8_25 v5_25 rec25 0
def fn_X2_startingWith_L25 (t : Nat) (a1 : Int) (a4 : Int) (M : Mem) (v7_14 : Int) (rec25 : Int → Int → Option Int) (v8_25 : Int) (v5_25 : Int) : Option Int :=
  cLt v7_14 v8_25 (some v5_25) (cu (fn_X2_cell t a4 a1 v8_25 M) fun x38 => cLt x38 0 (fn_X2_startingWith_J70 v8_25 v5_25 rec25) (cLt x38 (((ln (t + 2)) : Nat) : Int) (rd M (t + 2) (ln (t + 2)) x38 fun x66 => fn_X2_startingWith_J71 v8_25 v5_25 rec25 x66) (fn_X2_startingWith_J70 v8_25 v5_25 rec25)))
def fn_X2_startingWith (t : Nat) (a1 : Int) (a2 : Int) (a3 : Int) (a4 : Int) (M : Mem) : Option Int :=
  ck (R3 (a2 + a3) ∧ R3 (30 * a4)) <| nm ((min (a2 + a3) (30 * a4))) fun v7_14 => ck (R3 (a2 - a3) ∧ R3 0) <| nm ((max (a2 - a3) 0)) fun v8_23 => lq2 (fn_X2_startingWith_L25 t a1 a4 M v7_14) FU v8_23 0
set_option maxRecDepth 100000 in
set_option maxHeartbeats 4000000 in
theorem j_X2_startingWith_71 {p : Program} {l : Launch} {e : Env} {s : State} {m : MethodId} {args : Array Value} {below : List Frame} {meth : Method} {c : Code} {E : EE} {n : Nat} {o : Int} {t : Nat} {a1 : Int} {a4 : Int} {M : Mem} {v7_14 : Int} {v8_25 : Int} {v5_25 : Int} {rec25 : Int → Int → Option Int} {u0_71 : Int} {H : Heap} {locs : List Loc} {ls : Array Slot} (C : Cx E p s m args meth c cX2_startingWith 10 RX2 (some .long) n "startingWith") (hn : nfull n) (o_t : ob n t 2) (h_rec25 : ∀ {v8_25 : Int} {v5_25 : Int} {H : Heap} {locs : List Loc} {ls : Array Slot}, rec25 v8_25 v5_25 = some o → ST E s n (zf n) M H locs → lv_has ls 10 [(0, .ref (eb E + t)), (1, i3 a1), (4, i3 a4), (5, l6 v5_25), (7, i3 v7_14), (8, i3 v8_25)] → W p l e { frames := 4, cells := 0, slots := 0, locals := 120 } s m args below meth c H locs 0 0 (MQ below (QC E (some (l6 o)) n (zf n) M) args s 0 0 (fr E)) (F0 m 25 ls [])) (hf : fn_X2_startingWith_J71 v8_25 v5_25 rec25 u0_71 = some o) (hH : ST E s n (zf n) M H locs) (hl : lv_has ls 10 [(0, .ref (eb E + t)), (1, i3 a1), (4, i3 a4), (7, i3 v7_14), (8, i3 v8_25)]) : W p l e { frames := 4, cells := 0, slots := 0, locals := 120 } s m args below meth c H locs 0 0 (MQ below (QC E (some (l6 o)) n (zf n) M) args s 0 0 (fr E)) (F0 m 71 ls [l6 u0_71, l6 v5_25]) := by
  unfold fn_X2_startingWith_J71 at hf
  refine w_ladd C dX2_startingWith_71 ?_
  refine r_nmL hf (fun v5_72 hf => ?_)
  refine lv_lstore (lv' := [(5, l6 v5_72), (0, .ref (eb E + t)), (1, i3 a1), (4, i3 a4), (7, i3 v7_14), (8, i3 v8_25)]) C.hx C.hb dX2_startingWith_72 hl (by decide) rfl (fun ls hl => ?_)
  refine r_iinc (k := 5) (lv' := fun v => [(8, i3 v), (5, l6 v5_72), (0, .ref (eb E + t)), (1, i3 a1), (4, i3 a4), (7, i3 v7_14)]) C hf dX2_startingWith_74 hl rfl (by decide) (fun _ => rfl) (fun v8_74 ls hf hl => ?_)
  refine lv_goto (tgt := 25) C.hx C.hb dX2_startingWith_77 (by decide) ?_
  exact h_rec25 hf hH (lv_sub hl [2, 3, 4, 1, 5, 0] rfl)
set_option maxRecDepth 100000 in
set_option maxHeartbeats 4000000 in
theorem j_X2_startingWith_70 {p : Program} {l : Launch} {e : Env} {s : State} {m : MethodId} {args : Array Value} {below : List Frame} {meth : Method} {c : Code} {E : EE} {n : Nat} {o : Int} {t : Nat} {a1 : Int} {a4 : Int} {M : Mem} {v7_14 : Int} {v8_25 : Int} {v5_25 : Int} {rec25 : Int → Int → Option Int} {H : Heap} {locs : List Loc} {ls : Array Slot} (C : Cx E p s m args meth c cX2_startingWith 10 RX2 (some .long) n "startingWith") (hn : nfull n) (o_t : ob n t 2) (h_rec25 : ∀ {v8_25 : Int} {v5_25 : Int} {H : Heap} {locs : List Loc} {ls : Array Slot}, rec25 v8_25 v5_25 = some o → ST E s n (zf n) M H locs → lv_has ls 10 [(0, .ref (eb E + t)), (1, i3 a1), (4, i3 a4), (5, l6 v5_25), (7, i3 v7_14), (8, i3 v8_25)] → W p l e { frames := 4, cells := 0, slots := 0, locals := 120 } s m args below meth c H locs 0 0 (MQ below (QC E (some (l6 o)) n (zf n) M) args s 0 0 (fr E)) (F0 m 25 ls [])) (hf : fn_X2_startingWith_J70 v8_25 v5_25 rec25 = some o) (hH : ST E s n (zf n) M H locs) (hl : lv_has ls 10 [(0, .ref (eb E + t)), (1, i3 a1), (4, i3 a4), (7, i3 v7_14), (8, i3 v8_25)]) : W p l e { frames := 4, cells := 0, slots := 0, locals := 120 } s m args below meth c H locs 0 0 (MQ below (QC E (some (l6 o)) n (zf n) M) args s 0 0 (fr E)) (F0 m 70 ls [l6 v5_25]) := by
  unfold fn_X2_startingWith_J70 at hf
  refine lv_lconst (v := Int64.ofInt 0) C.hx C.hb dX2_startingWith_70 (by decide) ?_
  exact j_X2_startingWith_71 C hn o_t h_rec25 hf hH (lv_sub hl [0, 1, 2, 3, 4] rfl)
set_option maxRecDepth 100000 in
set_option maxHeartbeats 4000000 in
theorem l_X2_startingWith_25 {p : Program} {l : Launch} {e : Env} {s : State} {m : MethodId} {args : Array Value} {below : List Frame} {meth : Method} {c : Code} {E : EE} {n : Nat} {o : Int} {t : Nat} {a1 : Int} {a4 : Int} {M : Mem} {v7_14 : Int} (C : Cx E p s m args meth c cX2_startingWith 10 RX2 (some .long) n "startingWith") (hn : nfull n) (o_t : ob n t 2) : ∀ (k : Nat) (v8_25 : Int) (v5_25 : Int) (H : Heap) (locs : List Loc) (ls : Array Slot), lq2 (fn_X2_startingWith_L25 t a1 a4 M v7_14) k v8_25 v5_25 = some o → ST E s n (zf n) M H locs → lv_has ls 10 [(0, .ref (eb E + t)), (1, i3 a1), (4, i3 a4), (5, l6 v5_25), (7, i3 v7_14), (8, i3 v8_25)] → W p l e { frames := 4, cells := 0, slots := 0, locals := 120 } s m args below meth c H locs 0 0 (MQ below (QC E (some (l6 o)) n (zf n) M) args s 0 0 (fr E)) (F0 m 25 ls []) := by
  intro k
  induction k with
  | zero => intro v8_25 v5_25 H locs ls hf; cases hf
  | succ k ih =>
    intro v8_25 v5_25 H locs ls hf hH hl
    have h_rec25 : ∀ {v8_25 : Int} {v5_25 : Int} {H : Heap} {locs : List Loc} {ls : Array Slot}, lq2 (fn_X2_startingWith_L25 t a1 a4 M v7_14) k v8_25 v5_25 = some o → ST E s n (zf n) M H locs → lv_has ls 10 [(0, .ref (eb E + t)), (1, i3 a1), (4, i3 a4), (5, l6 v5_25), (7, i3 v7_14), (8, i3 v8_25)] → W p l e { frames := 4, cells := 0, slots := 0, locals := 120 } s m args below meth c H locs 0 0 (MQ below (QC E (some (l6 o)) n (zf n) M) args s 0 0 (fr E)) (F0 m 25 ls []) := fun {v8_25} {v5_25} {H} {locs} {ls} a b c => ih v8_25 v5_25 H locs ls a b c
    replace hf : fn_X2_startingWith_L25 t a1 a4 M v7_14 (lq2 (fn_X2_startingWith_L25 t a1 a4 M v7_14) k) v8_25 v5_25 = some o := hf
    generalize lq2 (fn_X2_startingWith_L25 t a1 a4 M v7_14) k = rec25 at hf h_rec25
    unfold fn_X2_startingWith_L25 at hf
    refine lv_iload C.hx C.hb dX2_startingWith_25 (lv_at hl 5 rfl) ?_
    refine lv_iload C.hx C.hb dX2_startingWith_27 (lv_at hl 4 rfl) ?_
    refine w_gt (tgt := 80) C hf dX2_startingWith_29 (by decide) (fun hf => ?_) (fun hf => ?_)
    · refine lv_lload C.hx C.hb dX2_startingWith_80 (lv_at hl 3 rfl) ?_
      cases hf
      exact w_lret C hH dX2_startingWith_82
    · refine lv_aload_n C.hx C.hb dX2_startingWith_32 rfl (lv_at hl 0 rfl) ?_
      refine lv_iload C.hx C.hb dX2_startingWith_33 (lv_at hl 2 rfl) ?_
      refine lv_iload_n C.hx C.hb dX2_startingWith_35 rfl (lv_at hl 1 rfl) ?_
      refine lv_iload C.hx C.hb dX2_startingWith_36 (lv_at hl 5 rfl) ?_
      obtain ⟨x38, hc9, hf⟩ := cu_of hf
      refine r_callVi (rest := []) C hH hl o_t (by decide) rfl (m_X2_cell hn o_t hc9) ML_RX2_82 MF_X2_cell MI_X2_cell rfl rfl (Nat.le_of_ble_eq_true rfl) ⟨Nat.le_of_ble_eq_true rfl, Nat.le_of_ble_eq_true rfl⟩ ⟨Nat.le_refl _, Nat.le_refl _⟩ dX2_startingWith_38 (fun H locs hH => ?_)
      refine lv_istore (lv' := [(9, i3 x38), (0, .ref (eb E + t)), (1, i3 a1), (4, i3 a4), (5, l6 v5_25), (7, i3 v7_14), (8, i3 v8_25)]) C.hx C.hb dX2_startingWith_41 hl (by decide) rfl (fun ls hl => ?_)
      refine lv_lload C.hx C.hb dX2_startingWith_43 (lv_at hl 4 rfl) ?_
      refine lv_iload C.hx C.hb dX2_startingWith_45 (lv_at hl 0 rfl) ?_
      refine w_lt0 (tgt := 70) C hf dX2_startingWith_47 (by decide) (fun hf => ?_) (fun hf => ?_)
      · exact j_X2_startingWith_70 C hn o_t h_rec25 hf hH (lv_sub hl [1, 2, 3, 5, 6] rfl)
      · refine lv_iload C.hx C.hb dX2_startingWith_50 (lv_at hl 0 rfl) ?_
        refine lv_aload_n C.hx C.hb dX2_startingWith_52 rfl (lv_at hl 1 rfl) ?_
        refine g_ref (off := 2) C hH o_t (by decide) rfl rfl FL_RX2_32 dX2_startingWith_53 ?_
        refine g_len (N := (ln (t + 2))) C hH (ly (i := 1) (off := 2) (k := 15) hn o_t rfl rfl rfl) (by decide) rfl dX2_startingWith_56 ?_
        refine w_ge (tgt := 70) C hf dX2_startingWith_57 (by decide) (fun hf => ?_) (fun hf => ?_)
        · exact j_X2_startingWith_70 C hn o_t h_rec25 hf hH (lv_sub hl [1, 2, 3, 5, 6] rfl)
        · refine lv_aload_n C.hx C.hb dX2_startingWith_60 rfl (lv_at hl 1 rfl) ?_
          refine g_ref (off := 2) C hH o_t (by decide) rfl rfl FL_RX2_32 dX2_startingWith_61 ?_
          refine lv_iload C.hx C.hb dX2_startingWith_64 (lv_at hl 0 rfl) ?_
          refine r_lald C hH (ly (i := 1) (off := 2) (k := 15) hn o_t rfl rfl rfl) rfl hf dX2_startingWith_66 (fun x66 hf => ?_)
          refine lv_goto (tgt := 71) C.hx C.hb dX2_startingWith_67 (by decide) ?_
          exact j_X2_startingWith_71 C hn o_t h_rec25 hf hH (lv_sub hl [1, 2, 3, 5, 6] rfl)
set_option maxRecDepth 100000 in
set_option maxHeartbeats 4000000 in
theorem m_X2_startingWith {E : EE} {l : Launch} {n : Nat} {t : Nat} {a1 : Int} {a2 : Int} {a3 : Int} {a4 : Int} {M : Mem} {o : Int} (hn : nfull n) (o_t : ob n t 2) (hf : fn_X2_startingWith t a1 a2 a3 a4 M = some o) : CT E l yX2_startingWith cX2_startingWith 10 (some .long) 4 120 0 0 [.ref (eb E + t), i3 a1, i3 a2, i3 a3, i3 a4] n (zf n) M (some (l6 o)) n (zf n) M := by
  refine CT_of PN_RX2 (Nat.le_of_ble_eq_true rfl) ?_
  intro p e s m args below meth c C hH ls hl
  replace C : Cx E p s m args meth c cX2_startingWith 10 RX2 (some .long) n "startingWith" := C
  have hl : lv_has ls 10 [(0, .ref (eb E + t)), (1, i3 a1), (2, i3 a2), (3, i3 a3), (4, i3 a4)] := hl
  unfold fn_X2_startingWith at hf
  refine lv_lconst (v := Int64.ofInt 0) C.hx C.hb dX2_startingWith_0 (by decide) ?_
  refine lv_lstore (lv' := [(5, l6 0), (0, .ref (eb E + t)), (1, i3 a1), (2, i3 a2), (3, i3 a3), (4, i3 a4)]) C.hx C.hb dX2_startingWith_1 hl (by decide) rfl (fun ls hl => ?_)
  refine lv_iload_n C.hx C.hb dX2_startingWith_3 rfl (lv_at hl 3 rfl) ?_
  refine lv_iload_n C.hx C.hb dX2_startingWith_4 rfl (lv_at hl 4 rfl) ?_
  refine w_iadd C dX2_startingWith_5 ?_
  refine lv_bipush (v := Int32.ofInt 30) C.hx C.hb dX2_startingWith_6 (by decide) ?_
  refine lv_iload C.hx C.hb dX2_startingWith_8 (lv_at hl 5 rfl) ?_
  refine w_imul C dX2_startingWith_10 ?_
  obtain ⟨hR8, hf⟩ := ck_of hf
  refine w_min C hl.1 hR8 ML_RX2_15 LB_min LB_mathi LB_minc (Nat.le_of_ble_eq_true rfl) (Nat.le_of_ble_eq_true rfl) (Nat.le_refl _) (Nat.le_refl _) dX2_startingWith_11 ?_
  refine r_nm hf (fun v7_14 hf => ?_)
  refine lv_istore (lv' := [(7, i3 v7_14), (5, l6 0), (0, .ref (eb E + t)), (1, i3 a1), (2, i3 a2), (3, i3 a3), (4, i3 a4)]) C.hx C.hb dX2_startingWith_14 hl (by decide) rfl (fun ls hl => ?_)
  refine lv_iload_n C.hx C.hb dX2_startingWith_16 rfl (lv_at hl 4 rfl) ?_
  refine lv_iload_n C.hx C.hb dX2_startingWith_17 rfl (lv_at hl 5 rfl) ?_
  refine w_isub C dX2_startingWith_18 ?_
  refine lv_iconst (v := Int32.ofInt 0) C.hx C.hb dX2_startingWith_19 rfl ?_
  obtain ⟨hR8, hf⟩ := ck_of hf
  refine w_max C hl.1 hR8 ML_RX2_21 LB_max LB_mathi LB_maxc (Nat.le_of_ble_eq_true rfl) (Nat.le_of_ble_eq_true rfl) (Nat.le_refl _) (Nat.le_refl _) dX2_startingWith_20 ?_
  refine r_nm hf (fun v8_23 hf => ?_)
  refine lv_istore (lv' := [(8, i3 v8_23), (7, i3 v7_14), (5, l6 0), (0, .ref (eb E + t)), (1, i3 a1), (2, i3 a2), (3, i3 a3), (4, i3 a4)]) C.hx C.hb dX2_startingWith_23 hl (by decide) rfl (fun ls hl => ?_)
  exact l_X2_startingWith_25 C hn o_t FU _ _ _ _ _ hf hH (lv_sub hl [3, 4, 7, 2, 1, 0] rfl)
-- HeavierByHand$RowTable.ofLength
def fn_X2_ofLength_J55 (v7_25 : Int) (rec25 : Int → Int → Option Int) (v5_55 : Int) : Option Int :=
  nm (v7_25 + 1) fun v7_55 => rec25 v7_55 v5_55
def fn_X2_ofLength_L25 (t : Nat) (a1 : Int) (a2 : Int) (a3 : Int) (a4 : Int) (M : Mem) (rec25 : Int → Int → Option Int) (v7_25 : Int) (v5_25 : Int) : Option Int :=
  cLt v7_25 (M t 4) (cEq v7_25 a1 (fn_X2_ofLength_J55 v7_25 rec25 v5_25) (cu (fn_X2_startingWith t v7_25 a2 a3 a4 M) fun x49 => nm ((v5_25 + x49)) fun v5_53 => fn_X2_ofLength_J55 v7_25 rec25 v5_53)) (some v5_25)
def fn_X2_ofLength (t : Nat) (a1 : Int) (a2 : Int) (a3 : Int) (a4 : Int) (M : Mem) : Option Int :=
  cEq a4 0 (cu (fn_X2_isNear a2 a3 M) fun x7 => cEq x7 0 (some 0) (some 1)) (lq2 (fn_X2_ofLength_L25 t a1 a2 a3 a4 M) FU 0 0)
set_option maxRecDepth 100000 in
set_option maxHeartbeats 4000000 in
theorem j_X2_ofLength_55 {p : Program} {l : Launch} {e : Env} {s : State} {m : MethodId} {args : Array Value} {below : List Frame} {meth : Method} {c : Code} {E : EE} {n : Nat} {o : Int} {t : Nat} {a1 : Int} {a2 : Int} {a3 : Int} {a4 : Int} {M : Mem} {v7_25 : Int} {rec25 : Int → Int → Option Int} {v5_55 : Int} {H : Heap} {locs : List Loc} {ls : Array Slot} (C : Cx E p s m args meth c cX2_ofLength 8 RX2 (some .long) n "ofLength") (hn : nfull n) (o_t : ob n t 2) (h_rec25 : ∀ {v7_25 : Int} {v5_25 : Int} {H : Heap} {locs : List Loc} {ls : Array Slot}, rec25 v7_25 v5_25 = some o → ST E s n (zf n) M H locs → lv_has ls 8 [(0, .ref (eb E + t)), (1, i3 a1), (2, i3 a2), (3, i3 a3), (4, i3 a4), (5, l6 v5_25), (7, i3 v7_25)] → W p l e { frames := 5, cells := 0, slots := 0, locals := 149 } s m args below meth c H locs 0 0 (MQ below (QC E (some (l6 o)) n (zf n) M) args s 0 0 (fr E)) (F0 m 25 ls [])) (hf : fn_X2_ofLength_J55 v7_25 rec25 v5_55 = some o) (hH : ST E s n (zf n) M H locs) (hl : lv_has ls 8 [(0, .ref (eb E + t)), (1, i3 a1), (2, i3 a2), (3, i3 a3), (4, i3 a4), (5, l6 v5_55), (7, i3 v7_25)]) : W p l e { frames := 5, cells := 0, slots := 0, locals := 149 } s m args below meth c H locs 0 0 (MQ below (QC E (some (l6 o)) n (zf n) M) args s 0 0 (fr E)) (F0 m 55 ls []) := by
  unfold fn_X2_ofLength_J55 at hf
  refine r_iinc (k := 6) (lv' := fun v => [(7, i3 v), (0, .ref (eb E + t)), (1, i3 a1), (2, i3 a2), (3, i3 a3), (4, i3 a4), (5, l6 v5_55)]) C hf dX2_ofLength_55 hl rfl (by decide) (fun _ => rfl) (fun v7_55 ls hf hl => ?_)
  refine lv_goto (tgt := 25) C.hx C.hb dX2_ofLength_58 (by decide) ?_
  exact h_rec25 hf hH (lv_sub hl [1, 2, 3, 4, 5, 6, 0] rfl)
set_option maxRecDepth 100000 in
set_option maxHeartbeats 4000000 in
theorem l_X2_ofLength_25 {p : Program} {l : Launch} {e : Env} {s : State} {m : MethodId} {args : Array Value} {below : List Frame} {meth : Method} {c : Code} {E : EE} {n : Nat} {o : Int} {t : Nat} {a1 : Int} {a2 : Int} {a3 : Int} {a4 : Int} {M : Mem} (C : Cx E p s m args meth c cX2_ofLength 8 RX2 (some .long) n "ofLength") (hn : nfull n) (o_t : ob n t 2) : ∀ (k : Nat) (v7_25 : Int) (v5_25 : Int) (H : Heap) (locs : List Loc) (ls : Array Slot), lq2 (fn_X2_ofLength_L25 t a1 a2 a3 a4 M) k v7_25 v5_25 = some o → ST E s n (zf n) M H locs → lv_has ls 8 [(0, .ref (eb E + t)), (1, i3 a1), (2, i3 a2), (3, i3 a3), (4, i3 a4), (5, l6 v5_25), (7, i3 v7_25)] → W p l e { frames := 5, cells := 0, slots := 0, locals := 149 } s m args below meth c H locs 0 0 (MQ below (QC E (some (l6 o)) n (zf n) M) args s 0 0 (fr E)) (F0 m 25 ls []) := by
  intro k
  induction k with
  | zero => intro v7_25 v5_25 H locs ls hf; cases hf
  | succ k ih =>
    intro v7_25 v5_25 H locs ls hf hH hl
    have h_rec25 : ∀ {v7_25 : Int} {v5_25 : Int} {H : Heap} {locs : List Loc} {ls : Array Slot}, lq2 (fn_X2_ofLength_L25 t a1 a2 a3 a4 M) k v7_25 v5_25 = some o → ST E s n (zf n) M H locs → lv_has ls 8 [(0, .ref (eb E + t)), (1, i3 a1), (2, i3 a2), (3, i3 a3), (4, i3 a4), (5, l6 v5_25), (7, i3 v7_25)] → W p l e { frames := 5, cells := 0, slots := 0, locals := 149 } s m args below meth c H locs 0 0 (MQ below (QC E (some (l6 o)) n (zf n) M) args s 0 0 (fr E)) (F0 m 25 ls []) := fun {v7_25} {v5_25} {H} {locs} {ls} a b c => ih v7_25 v5_25 H locs ls a b c
    replace hf : fn_X2_ofLength_L25 t a1 a2 a3 a4 M (lq2 (fn_X2_ofLength_L25 t a1 a2 a3 a4 M) k) v7_25 v5_25 = some o := hf
    generalize lq2 (fn_X2_ofLength_L25 t a1 a2 a3 a4 M) k = rec25 at hf h_rec25
    unfold fn_X2_ofLength_L25 at hf
    refine lv_iload C.hx C.hb dX2_ofLength_25 (lv_at hl 6 rfl) ?_
    refine lv_aload_n C.hx C.hb dX2_ofLength_27 rfl (lv_at hl 0 rfl) ?_
    refine g_int C hH o_t (by decide) rfl FL_RX2_42 dX2_ofLength_28 ?_
    refine w_ge (tgt := 61) C hf dX2_ofLength_31 (by decide) (fun hf => ?_) (fun hf => ?_)
    · refine lv_lload C.hx C.hb dX2_ofLength_61 (lv_at hl 5 rfl) ?_
      cases hf
      exact w_lret C hH dX2_ofLength_63
    · refine lv_iload C.hx C.hb dX2_ofLength_34 (lv_at hl 6 rfl) ?_
      refine lv_iload_n C.hx C.hb dX2_ofLength_36 rfl (lv_at hl 1 rfl) ?_
      refine w_eq (tgt := 55) C hf dX2_ofLength_37 (by decide) (fun hf => ?_) (fun hf => ?_)
      · exact j_X2_ofLength_55 C hn o_t h_rec25 hf hH (lv_sub hl [0, 1, 2, 3, 4, 5, 6] rfl)
      · refine lv_lload C.hx C.hb dX2_ofLength_40 (lv_at hl 5 rfl) ?_
        refine lv_aload_n C.hx C.hb dX2_ofLength_42 rfl (lv_at hl 0 rfl) ?_
        refine lv_iload C.hx C.hb dX2_ofLength_43 (lv_at hl 6 rfl) ?_
        refine lv_iload_n C.hx C.hb dX2_ofLength_45 rfl (lv_at hl 2 rfl) ?_
        refine lv_iload_n C.hx C.hb dX2_ofLength_46 rfl (lv_at hl 3 rfl) ?_
        refine lv_iload C.hx C.hb dX2_ofLength_47 (lv_at hl 4 rfl) ?_
        obtain ⟨x49, hc9, hf⟩ := cu_of hf
        refine r_callVi (rest := [l6 v5_25]) C hH hl o_t (by decide) rfl (m_X2_startingWith hn o_t hc9) ML_RX2_85 MF_X2_startingWith MI_X2_startingWith rfl rfl (Nat.le_of_ble_eq_true rfl) ⟨Nat.le_of_ble_eq_true rfl, Nat.le_of_ble_eq_true rfl⟩ ⟨Nat.le_refl _, Nat.le_refl _⟩ dX2_ofLength_49 (fun H locs hH => ?_)
        refine w_ladd C dX2_ofLength_52 ?_
        refine r_nmL hf (fun v5_53 hf => ?_)
        refine lv_lstore (lv' := [(5, l6 v5_53), (0, .ref (eb E + t)), (1, i3 a1), (2, i3 a2), (3, i3 a3), (4, i3 a4), (7, i3 v7_25)]) C.hx C.hb dX2_ofLength_53 hl (by decide) rfl (fun ls hl => ?_)
        exact j_X2_ofLength_55 C hn o_t h_rec25 hf hH (lv_sub hl [1, 2, 3, 4, 5, 0, 6] rfl)
set_option maxRecDepth 100000 in
set_option maxHeartbeats 4000000 in
theorem m_X2_ofLength {E : EE} {l : Launch} {n : Nat} {t : Nat} {a1 : Int} {a2 : Int} {a3 : Int} {a4 : Int} {M : Mem} {o : Int} (hn : nfull n) (o_t : ob n t 2) (hf : fn_X2_ofLength t a1 a2 a3 a4 M = some o) : CT E l yX2_ofLength cX2_ofLength 8 (some .long) 5 149 0 0 [.ref (eb E + t), i3 a1, i3 a2, i3 a3, i3 a4] n (zf n) M (some (l6 o)) n (zf n) M := by
  refine CT_of PN_RX2 (Nat.le_of_ble_eq_true rfl) ?_
  intro p e s m args below meth c C hH ls hl
  replace C : Cx E p s m args meth c cX2_ofLength 8 RX2 (some .long) n "ofLength" := C
  have hl : lv_has ls 8 [(0, .ref (eb E + t)), (1, i3 a1), (2, i3 a2), (3, i3 a3), (4, i3 a4)] := hl
  unfold fn_X2_ofLength at hf
  refine lv_iload C.hx C.hb dX2_ofLength_0 (lv_at hl 4 rfl) ?_
  refine w_ne0 (tgt := 19) C hf dX2_ofLength_2 (by decide) (fun hf => ?_) (fun hf => ?_)
  · refine lv_lconst (v := Int64.ofInt 0) C.hx C.hb dX2_ofLength_19 (by decide) ?_
    refine lv_lstore (lv' := [(5, l6 0), (0, .ref (eb E + t)), (1, i3 a1), (2, i3 a2), (3, i3 a3), (4, i3 a4)]) C.hx C.hb dX2_ofLength_20 hl (by decide) rfl (fun ls hl => ?_)
    refine lv_iconst (v := Int32.ofInt 0) C.hx C.hb dX2_ofLength_22 rfl ?_
    refine lv_istore (lv' := [(7, i3 0), (5, l6 0), (0, .ref (eb E + t)), (1, i3 a1), (2, i3 a2), (3, i3 a3), (4, i3 a4)]) C.hx C.hb dX2_ofLength_23 hl (by decide) rfl (fun ls hl => ?_)
    exact l_X2_ofLength_25 C hn o_t FU _ _ _ _ _ hf hH (lv_sub hl [2, 3, 4, 5, 6, 1, 0] rfl)
  · refine lv_iload_n C.hx C.hb dX2_ofLength_5 rfl (lv_at hl 2 rfl) ?_
    refine lv_iload_n C.hx C.hb dX2_ofLength_6 rfl (lv_at hl 3 rfl) ?_
    obtain ⟨x7, hc9, hf⟩ := cu_of hf
    refine r_callSi (rest := []) C hH hl (m_X2_isNear hn hc9) ML_RX2_74 MF_X2_isNear MS_X2_isNear rfl rfl (Nat.le_of_ble_eq_true rfl) ⟨Nat.le_of_ble_eq_true rfl, Nat.le_of_ble_eq_true rfl⟩ ⟨Nat.le_refl _, Nat.le_refl _⟩ dX2_ofLength_7 (fun H locs hH => ?_)
    refine w_eq0 (tgt := 17) C hf dX2_ofLength_10 (by decide) (fun hf => ?_) (fun hf => ?_)
    · refine lv_lconst (v := Int64.ofInt 0) C.hx C.hb dX2_ofLength_17 (by decide) ?_
      cases hf
      exact w_lret C hH dX2_ofLength_18
    · refine lv_lconst (v := Int64.ofInt 1) C.hx C.hb dX2_ofLength_13 (by decide) ?_
      refine lv_goto (tgt := 18) C.hx C.hb dX2_ofLength_14 (by decide) ?_
      cases hf
      exact w_lret C hH dX2_ofLength_18
-- HeavierByHand$RowTable.total
def fn_X2_total_L13 (t : Nat) (a1 : Int) (a2 : Int) (a3 : Int) (a5 : Int) (M3 : Mem) (rec13 : Int → Int → Option (Int × Mem)) (v8_13 : Int) (v6_13 : Int) : Option (Int × Mem) :=
  cLt a5 v8_13 (some (v6_13, M3)) (cLt (M3 t 0) v8_13 (some (v6_13, M3)) (cu (fn_X2_ofLength t a1 a2 a3 v8_13 M3) fun x37 => nm ((v6_13 + x37)) fun v6_41 => nm (v8_13 + 1) fun v8_43 => rec13 v8_43 v6_41))
def fn_X2_total (t : Nat) (a1 : Int) (a2 : Int) (a3 : Int) (a4 : Int) (a5 : Int) (M : Mem) : Option (Int × Mem) :=
  cv (fn_X2_build t a5 M) fun M3 => lq2 (fn_X2_total_L13 t a1 a2 a3 a5 M3) FU a4 0
set_option maxRecDepth 100000 in
set_option maxHeartbeats 4000000 in
theorem l_X2_total_13 {p : Program} {l : Launch} {e : Env} {s : State} {m : MethodId} {args : Array Value} {below : List Frame} {meth : Method} {c : Code} {E : EE} {n : Nat} {o : (Int × Mem)} {t : Nat} {a1 : Int} {a2 : Int} {a3 : Int} {a5 : Int} {M3 : Mem} (C : Cx E p s m args meth c cX2_total 9 RX2 (some .long) n "total") (hn : nfull n) (o_t : ob n t 2) : ∀ (k : Nat) (v8_13 : Int) (v6_13 : Int) (H : Heap) (locs : List Loc) (ls : Array Slot), lq2 (fn_X2_total_L13 t a1 a2 a3 a5 M3) k v8_13 v6_13 = some o → ST E s n (zf n) M3 H locs → lv_has ls 9 [(0, .ref (eb E + t)), (1, i3 a1), (2, i3 a2), (3, i3 a3), (5, i3 a5), (6, l6 v6_13), (8, i3 v8_13)] → W p l e { frames := 6, cells := 0, slots := 0, locals := 176 } s m args below meth c H locs 0 0 (MQ below (QC E (some (l6 o.1)) n (zf n) o.2) args s 0 0 (fr E)) (F0 m 13 ls []) := by
  intro k
  induction k with
  | zero => intro v8_13 v6_13 H locs ls hf; cases hf
  | succ k ih =>
    intro v8_13 v6_13 H locs ls hf hH hl
    have h_rec13 : ∀ {v8_13 : Int} {v6_13 : Int} {H : Heap} {locs : List Loc} {ls : Array Slot}, lq2 (fn_X2_total_L13 t a1 a2 a3 a5 M3) k v8_13 v6_13 = some o → ST E s n (zf n) M3 H locs → lv_has ls 9 [(0, .ref (eb E + t)), (1, i3 a1), (2, i3 a2), (3, i3 a3), (5, i3 a5), (6, l6 v6_13), (8, i3 v8_13)] → W p l e { frames := 6, cells := 0, slots := 0, locals := 176 } s m args below meth c H locs 0 0 (MQ below (QC E (some (l6 o.1)) n (zf n) o.2) args s 0 0 (fr E)) (F0 m 13 ls []) := fun {v8_13} {v6_13} {H} {locs} {ls} a b c => ih v8_13 v6_13 H locs ls a b c
    replace hf : fn_X2_total_L13 t a1 a2 a3 a5 M3 (lq2 (fn_X2_total_L13 t a1 a2 a3 a5 M3) k) v8_13 v6_13 = some o := hf
    generalize lq2 (fn_X2_total_L13 t a1 a2 a3 a5 M3) k = rec13 at hf h_rec13
    unfold fn_X2_total_L13 at hf
    refine lv_iload C.hx C.hb dX2_total_13 (lv_at hl 6 rfl) ?_
    refine lv_iload C.hx C.hb dX2_total_15 (lv_at hl 4 rfl) ?_
    refine w_gt (tgt := 49) C hf dX2_total_17 (by decide) (fun hf => ?_) (fun hf => ?_)
    · refine lv_lload C.hx C.hb dX2_total_49 (lv_at hl 5 rfl) ?_
      cases hf
      exact w_lret C hH dX2_total_51
    · refine lv_iload C.hx C.hb dX2_total_20 (lv_at hl 6 rfl) ?_
      refine lv_aload_n C.hx C.hb dX2_total_22 rfl (lv_at hl 0 rfl) ?_
      refine g_int C hH o_t (by decide) rfl FL_RX2_24 dX2_total_23 ?_
      refine w_gt (tgt := 49) C hf dX2_total_26 (by decide) (fun hf => ?_) (fun hf => ?_)
      · refine lv_lload C.hx C.hb dX2_total_49 (lv_at hl 5 rfl) ?_
        cases hf
        exact w_lret C hH dX2_total_51
      · refine lv_lload C.hx C.hb dX2_total_29 (lv_at hl 5 rfl) ?_
        refine lv_aload_n C.hx C.hb dX2_total_31 rfl (lv_at hl 0 rfl) ?_
        refine lv_iload_n C.hx C.hb dX2_total_32 rfl (lv_at hl 1 rfl) ?_
        refine lv_iload_n C.hx C.hb dX2_total_33 rfl (lv_at hl 2 rfl) ?_
        refine lv_iload_n C.hx C.hb dX2_total_34 rfl (lv_at hl 3 rfl) ?_
        refine lv_iload C.hx C.hb dX2_total_35 (lv_at hl 6 rfl) ?_
        obtain ⟨x37, hc9, hf⟩ := cu_of hf
        refine r_callVi (rest := [l6 v6_13]) C hH hl o_t (by decide) rfl (m_X2_ofLength hn o_t hc9) ML_RX2_62 MF_X2_ofLength MI_X2_ofLength rfl rfl (Nat.le_of_ble_eq_true rfl) ⟨Nat.le_of_ble_eq_true rfl, Nat.le_of_ble_eq_true rfl⟩ ⟨Nat.le_refl _, Nat.le_refl _⟩ dX2_total_37 (fun H locs hH => ?_)
        refine w_ladd C dX2_total_40 ?_
        refine r_nmL hf (fun v6_41 hf => ?_)
        refine lv_lstore (lv' := [(6, l6 v6_41), (0, .ref (eb E + t)), (1, i3 a1), (2, i3 a2), (3, i3 a3), (5, i3 a5), (8, i3 v8_13)]) C.hx C.hb dX2_total_41 hl (by decide) rfl (fun ls hl => ?_)
        refine r_iinc (k := 6) (lv' := fun v => [(8, i3 v), (6, l6 v6_41), (0, .ref (eb E + t)), (1, i3 a1), (2, i3 a2), (3, i3 a3), (5, i3 a5)]) C hf dX2_total_43 hl rfl (by decide) (fun _ => rfl) (fun v8_43 ls hf hl => ?_)
        refine lv_goto (tgt := 13) C.hx C.hb dX2_total_46 (by decide) ?_
        exact h_rec13 hf hH (lv_sub hl [2, 3, 4, 5, 6, 1, 0] rfl)
set_option maxRecDepth 100000 in
set_option maxHeartbeats 4000000 in
theorem m_X2_total {E : EE} {l : Launch} {n : Nat} {t : Nat} {a1 : Int} {a2 : Int} {a3 : Int} {a4 : Int} {a5 : Int} {M : Mem} {o : (Int × Mem)} (hn : nfull n) (o_t : ob n t 2) (hf : fn_X2_total t a1 a2 a3 a4 a5 M = some o) : CT E l yX2_total cX2_total 9 (some .long) 6 176 0 0 [.ref (eb E + t), i3 a1, i3 a2, i3 a3, i3 a4, i3 a5] n (zf n) M (some (l6 o.1)) n (zf n) o.2 := by
  refine CT_of PN_RX2 (Nat.le_of_ble_eq_true rfl) ?_
  intro p e s m args below meth c C hH ls hl
  replace C : Cx E p s m args meth c cX2_total 9 RX2 (some .long) n "total" := C
  have hl : lv_has ls 9 [(0, .ref (eb E + t)), (1, i3 a1), (2, i3 a2), (3, i3 a3), (4, i3 a4), (5, i3 a5)] := hl
  unfold fn_X2_total at hf
  refine lv_aload_n C.hx C.hb dX2_total_0 rfl (lv_at hl 0 rfl) ?_
  refine lv_iload C.hx C.hb dX2_total_1 (lv_at hl 5 rfl) ?_
  obtain ⟨M3, hc9, hf⟩ := cv_of hf
  refine r_callVv (rest := []) C hH hl o_t (by decide) rfl (m_X2_build hn o_t hc9) ML_RX2_58 MF_X2_build MI_X2_build rfl rfl (Nat.le_of_ble_eq_true rfl) ⟨Nat.le_of_ble_eq_true rfl, Nat.le_of_ble_eq_true rfl⟩ ⟨Nat.le_refl _, Nat.le_refl _⟩ dX2_total_3 (fun H locs hH => ?_)
  refine lv_lconst (v := Int64.ofInt 0) C.hx C.hb dX2_total_6 (by decide) ?_
  refine lv_lstore (lv' := [(6, l6 0), (0, .ref (eb E + t)), (1, i3 a1), (2, i3 a2), (3, i3 a3), (4, i3 a4), (5, i3 a5)]) C.hx C.hb dX2_total_7 hl (by decide) rfl (fun ls hl => ?_)
  refine lv_iload C.hx C.hb dX2_total_9 (lv_at hl 5 rfl) ?_
  refine lv_istore (lv' := [(8, i3 a4), (6, l6 0), (0, .ref (eb E + t)), (1, i3 a1), (2, i3 a2), (3, i3 a3), (4, i3 a4), (5, i3 a5)]) C.hx C.hb dX2_total_11 hl (by decide) rfl (fun ls hl => ?_)
  exact l_X2_total_13 C hn o_t FU _ _ _ _ _ hf hH (lv_sub hl [2, 3, 4, 5, 7, 1, 0] rfl)
-- HeavierByHand$RowTable.shortest
def fn_X2_shortest_L10 (t : Nat) (a1 : Int) (a2 : Int) (a3 : Int) (a5 : Int) (M3 : Mem) (rec10 : Int → Option (Int × Mem)) (v6_10 : Int) : Option (Int × Mem) :=
  cLt a5 v6_10 (some ((-1), M3)) (cLt (M3 t 0) v6_10 (some ((-1), M3)) (cu (fn_X2_ofLength t a1 a2 a3 v6_10 M3) fun x32 => dLt 0 x32 (some (v6_10, M3)) (nm (v6_10 + 1) fun v6_43 => rec10 v6_43)))
def fn_X2_shortest (t : Nat) (a1 : Int) (a2 : Int) (a3 : Int) (a4 : Int) (a5 : Int) (M : Mem) : Option (Int × Mem) :=
  cv (fn_X2_build t a5 M) fun M3 => lq1 (fn_X2_shortest_L10 t a1 a2 a3 a5 M3) FU a4
set_option maxRecDepth 100000 in
set_option maxHeartbeats 4000000 in
theorem l_X2_shortest_10 {p : Program} {l : Launch} {e : Env} {s : State} {m : MethodId} {args : Array Value} {below : List Frame} {meth : Method} {c : Code} {E : EE} {n : Nat} {o : (Int × Mem)} {t : Nat} {a1 : Int} {a2 : Int} {a3 : Int} {a5 : Int} {M3 : Mem} (C : Cx E p s m args meth c cX2_shortest 7 RX2 (some .int) n "shortest") (hn : nfull n) (o_t : ob n t 2) : ∀ (k : Nat) (v6_10 : Int) (H : Heap) (locs : List Loc) (ls : Array Slot), lq1 (fn_X2_shortest_L10 t a1 a2 a3 a5 M3) k v6_10 = some o → ST E s n (zf n) M3 H locs → lv_has ls 7 [(0, .ref (eb E + t)), (1, i3 a1), (2, i3 a2), (3, i3 a3), (5, i3 a5), (6, i3 v6_10)] → W p l e { frames := 6, cells := 0, slots := 0, locals := 176 } s m args below meth c H locs 0 0 (MQ below (QC E (some (i3 o.1)) n (zf n) o.2) args s 0 0 (fr E)) (F0 m 10 ls []) := by
  intro k
  induction k with
  | zero => intro v6_10 H locs ls hf; cases hf
  | succ k ih =>
    intro v6_10 H locs ls hf hH hl
    have h_rec10 : ∀ {v6_10 : Int} {H : Heap} {locs : List Loc} {ls : Array Slot}, lq1 (fn_X2_shortest_L10 t a1 a2 a3 a5 M3) k v6_10 = some o → ST E s n (zf n) M3 H locs → lv_has ls 7 [(0, .ref (eb E + t)), (1, i3 a1), (2, i3 a2), (3, i3 a3), (5, i3 a5), (6, i3 v6_10)] → W p l e { frames := 6, cells := 0, slots := 0, locals := 176 } s m args below meth c H locs 0 0 (MQ below (QC E (some (i3 o.1)) n (zf n) o.2) args s 0 0 (fr E)) (F0 m 10 ls []) := fun {v6_10} {H} {locs} {ls} a b c => ih v6_10 H locs ls a b c
    replace hf : fn_X2_shortest_L10 t a1 a2 a3 a5 M3 (lq1 (fn_X2_shortest_L10 t a1 a2 a3 a5 M3) k) v6_10 = some o := hf
    generalize lq1 (fn_X2_shortest_L10 t a1 a2 a3 a5 M3) k = rec10 at hf h_rec10
    unfold fn_X2_shortest_L10 at hf
    refine lv_iload C.hx C.hb dX2_shortest_10 (lv_at hl 5 rfl) ?_
    refine lv_iload C.hx C.hb dX2_shortest_12 (lv_at hl 4 rfl) ?_
    refine w_gt (tgt := 49) C hf dX2_shortest_14 (by decide) (fun hf => ?_) (fun hf => ?_)
    · refine lv_iconst (v := Int32.ofInt (-1)) C.hx C.hb dX2_shortest_49 rfl ?_
      cases hf
      exact w_iret C hH dX2_shortest_50
    · refine lv_iload C.hx C.hb dX2_shortest_17 (lv_at hl 5 rfl) ?_
      refine lv_aload_n C.hx C.hb dX2_shortest_19 rfl (lv_at hl 0 rfl) ?_
      refine g_int C hH o_t (by decide) rfl FL_RX2_24 dX2_shortest_20 ?_
      refine w_gt (tgt := 49) C hf dX2_shortest_23 (by decide) (fun hf => ?_) (fun hf => ?_)
      · refine lv_iconst (v := Int32.ofInt (-1)) C.hx C.hb dX2_shortest_49 rfl ?_
        cases hf
        exact w_iret C hH dX2_shortest_50
      · refine lv_aload_n C.hx C.hb dX2_shortest_26 rfl (lv_at hl 0 rfl) ?_
        refine lv_iload_n C.hx C.hb dX2_shortest_27 rfl (lv_at hl 1 rfl) ?_
        refine lv_iload_n C.hx C.hb dX2_shortest_28 rfl (lv_at hl 2 rfl) ?_
        refine lv_iload_n C.hx C.hb dX2_shortest_29 rfl (lv_at hl 3 rfl) ?_
        refine lv_iload C.hx C.hb dX2_shortest_30 (lv_at hl 5 rfl) ?_
        obtain ⟨x32, hc9, hf⟩ := cu_of hf
        refine r_callVi (rest := []) C hH hl o_t (by decide) rfl (m_X2_ofLength hn o_t hc9) ML_RX2_62 MF_X2_ofLength MI_X2_ofLength rfl rfl (Nat.le_of_ble_eq_true rfl) ⟨Nat.le_of_ble_eq_true rfl, Nat.le_of_ble_eq_true rfl⟩ ⟨Nat.le_refl _, Nat.le_refl _⟩ dX2_shortest_32 (fun H locs hH => ?_)
        refine lv_lconst (v := Int64.ofInt 0) C.hx C.hb dX2_shortest_35 (by decide) ?_
        refine w_lle (tgt := 43) C hf dX2_shortest_36 dX2_shortest_37 (by decide) (fun hf => ?_) (fun hf => ?_)
        · refine r_iinc (k := 5) (lv' := fun v => [(6, i3 v), (0, .ref (eb E + t)), (1, i3 a1), (2, i3 a2), (3, i3 a3), (5, i3 a5)]) C hf dX2_shortest_43 hl rfl (by decide) (fun _ => rfl) (fun v6_43 ls hf hl => ?_)
          refine lv_goto (tgt := 10) C.hx C.hb dX2_shortest_46 (by decide) ?_
          exact h_rec10 hf hH (lv_sub hl [1, 2, 3, 4, 5, 0] rfl)
        · refine lv_iload C.hx C.hb dX2_shortest_40 (lv_at hl 5 rfl) ?_
          cases hf
          exact w_iret C hH dX2_shortest_42
set_option maxRecDepth 100000 in
set_option maxHeartbeats 4000000 in
theorem m_X2_shortest {E : EE} {l : Launch} {n : Nat} {t : Nat} {a1 : Int} {a2 : Int} {a3 : Int} {a4 : Int} {a5 : Int} {M : Mem} {o : (Int × Mem)} (hn : nfull n) (o_t : ob n t 2) (hf : fn_X2_shortest t a1 a2 a3 a4 a5 M = some o) : CT E l yX2_shortest cX2_shortest 7 (some .int) 6 176 0 0 [.ref (eb E + t), i3 a1, i3 a2, i3 a3, i3 a4, i3 a5] n (zf n) M (some (i3 o.1)) n (zf n) o.2 := by
  refine CT_of PN_RX2 (Nat.le_of_ble_eq_true rfl) ?_
  intro p e s m args below meth c C hH ls hl
  replace C : Cx E p s m args meth c cX2_shortest 7 RX2 (some .int) n "shortest" := C
  have hl : lv_has ls 7 [(0, .ref (eb E + t)), (1, i3 a1), (2, i3 a2), (3, i3 a3), (4, i3 a4), (5, i3 a5)] := hl
  unfold fn_X2_shortest at hf
  refine lv_aload_n C.hx C.hb dX2_shortest_0 rfl (lv_at hl 0 rfl) ?_
  refine lv_iload C.hx C.hb dX2_shortest_1 (lv_at hl 5 rfl) ?_
  obtain ⟨M3, hc9, hf⟩ := cv_of hf
  refine r_callVv (rest := []) C hH hl o_t (by decide) rfl (m_X2_build hn o_t hc9) ML_RX2_58 MF_X2_build MI_X2_build rfl rfl (Nat.le_of_ble_eq_true rfl) ⟨Nat.le_of_ble_eq_true rfl, Nat.le_of_ble_eq_true rfl⟩ ⟨Nat.le_refl _, Nat.le_refl _⟩ dX2_shortest_3 (fun H locs hH => ?_)
  refine lv_iload C.hx C.hb dX2_shortest_6 (lv_at hl 4 rfl) ?_
  refine lv_istore (lv' := [(6, i3 a4), (0, .ref (eb E + t)), (1, i3 a1), (2, i3 a2), (3, i3 a3), (4, i3 a4), (5, i3 a5)]) C.hx C.hb dX2_shortest_8 hl (by decide) rfl (fun ls hl => ?_)
  exact l_X2_shortest_10 C hn o_t FU _ _ _ _ hf hH (lv_sub hl [1, 2, 3, 4, 6, 0] rfl)
-- HeavierByHand$RowTable.lowestFirst
def fn_X2_lowestFirst_J36 (v5_3 : Int) (rec3 : Int → Option Int) : Option Int :=
  nm (v5_3 + 1) fun v5_36 => rec3 v5_36
def fn_X2_lowestFirst_L3 (t : Nat) (a1 : Int) (a2 : Int) (a3 : Int) (a4 : Int) (M : Mem) (rec3 : Int → Option Int) (v5_3 : Int) : Option Int :=
  cLt v5_3 (M t 4) (cEq v5_3 a1 (fn_X2_lowestFirst_J36 v5_3 rec3) (cu (fn_X2_startingWith t v5_3 a2 a3 a4 M) fun x25 => dLt 0 x25 (some v5_3) (fn_X2_lowestFirst_J36 v5_3 rec3))) (some (-1))
def fn_X2_lowestFirst (t : Nat) (a1 : Int) (a2 : Int) (a3 : Int) (a4 : Int) (M : Mem) : Option Int :=
  lq1 (fn_X2_lowestFirst_L3 t a1 a2 a3 a4 M) FU 0
set_option maxRecDepth 100000 in
set_option maxHeartbeats 4000000 in
theorem j_X2_lowestFirst_36 {p : Program} {l : Launch} {e : Env} {s : State} {m : MethodId} {args : Array Value} {below : List Frame} {meth : Method} {c : Code} {E : EE} {n : Nat} {o : Int} {t : Nat} {a1 : Int} {a2 : Int} {a3 : Int} {a4 : Int} {M : Mem} {v5_3 : Int} {rec3 : Int → Option Int} {H : Heap} {locs : List Loc} {ls : Array Slot} (C : Cx E p s m args meth c cX2_lowestFirst 6 RX2 (some .int) n "lowestFirst") (hn : nfull n) (o_t : ob n t 2) (h_rec3 : ∀ {v5_3 : Int} {H : Heap} {locs : List Loc} {ls : Array Slot}, rec3 v5_3 = some o → ST E s n (zf n) M H locs → lv_has ls 6 [(0, .ref (eb E + t)), (1, i3 a1), (2, i3 a2), (3, i3 a3), (4, i3 a4), (5, i3 v5_3)] → W p l e { frames := 5, cells := 0, slots := 0, locals := 149 } s m args below meth c H locs 0 0 (MQ below (QC E (some (i3 o)) n (zf n) M) args s 0 0 (fr E)) (F0 m 3 ls [])) (hf : fn_X2_lowestFirst_J36 v5_3 rec3 = some o) (hH : ST E s n (zf n) M H locs) (hl : lv_has ls 6 [(0, .ref (eb E + t)), (1, i3 a1), (2, i3 a2), (3, i3 a3), (4, i3 a4), (5, i3 v5_3)]) : W p l e { frames := 5, cells := 0, slots := 0, locals := 149 } s m args below meth c H locs 0 0 (MQ below (QC E (some (i3 o)) n (zf n) M) args s 0 0 (fr E)) (F0 m 36 ls []) := by
  unfold fn_X2_lowestFirst_J36 at hf
  refine r_iinc (k := 5) (lv' := fun v => [(5, i3 v), (0, .ref (eb E + t)), (1, i3 a1), (2, i3 a2), (3, i3 a3), (4, i3 a4)]) C hf dX2_lowestFirst_36 hl rfl (by decide) (fun _ => rfl) (fun v5_36 ls hf hl => ?_)
  refine lv_goto (tgt := 3) C.hx C.hb dX2_lowestFirst_39 (by decide) ?_
  exact h_rec3 hf hH (lv_sub hl [1, 2, 3, 4, 5, 0] rfl)
set_option maxRecDepth 100000 in
set_option maxHeartbeats 4000000 in
theorem l_X2_lowestFirst_3 {p : Program} {l : Launch} {e : Env} {s : State} {m : MethodId} {args : Array Value} {below : List Frame} {meth : Method} {c : Code} {E : EE} {n : Nat} {o : Int} {t : Nat} {a1 : Int} {a2 : Int} {a3 : Int} {a4 : Int} {M : Mem} (C : Cx E p s m args meth c cX2_lowestFirst 6 RX2 (some .int) n "lowestFirst") (hn : nfull n) (o_t : ob n t 2) : ∀ (k : Nat) (v5_3 : Int) (H : Heap) (locs : List Loc) (ls : Array Slot), lq1 (fn_X2_lowestFirst_L3 t a1 a2 a3 a4 M) k v5_3 = some o → ST E s n (zf n) M H locs → lv_has ls 6 [(0, .ref (eb E + t)), (1, i3 a1), (2, i3 a2), (3, i3 a3), (4, i3 a4), (5, i3 v5_3)] → W p l e { frames := 5, cells := 0, slots := 0, locals := 149 } s m args below meth c H locs 0 0 (MQ below (QC E (some (i3 o)) n (zf n) M) args s 0 0 (fr E)) (F0 m 3 ls []) := by
  intro k
  induction k with
  | zero => intro v5_3 H locs ls hf; cases hf
  | succ k ih =>
    intro v5_3 H locs ls hf hH hl
    have h_rec3 : ∀ {v5_3 : Int} {H : Heap} {locs : List Loc} {ls : Array Slot}, lq1 (fn_X2_lowestFirst_L3 t a1 a2 a3 a4 M) k v5_3 = some o → ST E s n (zf n) M H locs → lv_has ls 6 [(0, .ref (eb E + t)), (1, i3 a1), (2, i3 a2), (3, i3 a3), (4, i3 a4), (5, i3 v5_3)] → W p l e { frames := 5, cells := 0, slots := 0, locals := 149 } s m args below meth c H locs 0 0 (MQ below (QC E (some (i3 o)) n (zf n) M) args s 0 0 (fr E)) (F0 m 3 ls []) := fun {v5_3} {H} {locs} {ls} a b c => ih v5_3 H locs ls a b c
    replace hf : fn_X2_lowestFirst_L3 t a1 a2 a3 a4 M (lq1 (fn_X2_lowestFirst_L3 t a1 a2 a3 a4 M) k) v5_3 = some o := hf
    generalize lq1 (fn_X2_lowestFirst_L3 t a1 a2 a3 a4 M) k = rec3 at hf h_rec3
    unfold fn_X2_lowestFirst_L3 at hf
    refine lv_iload C.hx C.hb dX2_lowestFirst_3 (lv_at hl 5 rfl) ?_
    refine lv_aload_n C.hx C.hb dX2_lowestFirst_5 rfl (lv_at hl 0 rfl) ?_
    refine g_int C hH o_t (by decide) rfl FL_RX2_42 dX2_lowestFirst_6 ?_
    refine w_ge (tgt := 42) C hf dX2_lowestFirst_9 (by decide) (fun hf => ?_) (fun hf => ?_)
    · refine lv_iconst (v := Int32.ofInt (-1)) C.hx C.hb dX2_lowestFirst_42 rfl ?_
      cases hf
      exact w_iret C hH dX2_lowestFirst_43
    · refine lv_iload C.hx C.hb dX2_lowestFirst_12 (lv_at hl 5 rfl) ?_
      refine lv_iload_n C.hx C.hb dX2_lowestFirst_14 rfl (lv_at hl 1 rfl) ?_
      refine w_eq (tgt := 36) C hf dX2_lowestFirst_15 (by decide) (fun hf => ?_) (fun hf => ?_)
      · exact j_X2_lowestFirst_36 C hn o_t h_rec3 hf hH (lv_sub hl [0, 1, 2, 3, 4, 5] rfl)
      · refine lv_aload_n C.hx C.hb dX2_lowestFirst_18 rfl (lv_at hl 0 rfl) ?_
        refine lv_iload C.hx C.hb dX2_lowestFirst_19 (lv_at hl 5 rfl) ?_
        refine lv_iload_n C.hx C.hb dX2_lowestFirst_21 rfl (lv_at hl 2 rfl) ?_
        refine lv_iload_n C.hx C.hb dX2_lowestFirst_22 rfl (lv_at hl 3 rfl) ?_
        refine lv_iload C.hx C.hb dX2_lowestFirst_23 (lv_at hl 4 rfl) ?_
        obtain ⟨x25, hc9, hf⟩ := cu_of hf
        refine r_callVi (rest := []) C hH hl o_t (by decide) rfl (m_X2_startingWith hn o_t hc9) ML_RX2_85 MF_X2_startingWith MI_X2_startingWith rfl rfl (Nat.le_of_ble_eq_true rfl) ⟨Nat.le_of_ble_eq_true rfl, Nat.le_of_ble_eq_true rfl⟩ ⟨Nat.le_refl _, Nat.le_refl _⟩ dX2_lowestFirst_25 (fun H locs hH => ?_)
        refine lv_lconst (v := Int64.ofInt 0) C.hx C.hb dX2_lowestFirst_28 (by decide) ?_
        refine w_lle (tgt := 36) C hf dX2_lowestFirst_29 dX2_lowestFirst_30 (by decide) (fun hf => ?_) (fun hf => ?_)
        · exact j_X2_lowestFirst_36 C hn o_t h_rec3 hf hH (lv_sub hl [0, 1, 2, 3, 4, 5] rfl)
        · refine lv_iload C.hx C.hb dX2_lowestFirst_33 (lv_at hl 5 rfl) ?_
          cases hf
          exact w_iret C hH dX2_lowestFirst_35
set_option maxRecDepth 100000 in
set_option maxHeartbeats 4000000 in
theorem m_X2_lowestFirst {E : EE} {l : Launch} {n : Nat} {t : Nat} {a1 : Int} {a2 : Int} {a3 : Int} {a4 : Int} {M : Mem} {o : Int} (hn : nfull n) (o_t : ob n t 2) (hf : fn_X2_lowestFirst t a1 a2 a3 a4 M = some o) : CT E l yX2_lowestFirst cX2_lowestFirst 6 (some .int) 5 149 0 0 [.ref (eb E + t), i3 a1, i3 a2, i3 a3, i3 a4] n (zf n) M (some (i3 o)) n (zf n) M := by
  refine CT_of PN_RX2 (Nat.le_of_ble_eq_true rfl) ?_
  intro p e s m args below meth c C hH ls hl
  replace C : Cx E p s m args meth c cX2_lowestFirst 6 RX2 (some .int) n "lowestFirst" := C
  have hl : lv_has ls 6 [(0, .ref (eb E + t)), (1, i3 a1), (2, i3 a2), (3, i3 a3), (4, i3 a4)] := hl
  unfold fn_X2_lowestFirst at hf
  refine lv_iconst (v := Int32.ofInt 0) C.hx C.hb dX2_lowestFirst_0 rfl ?_
  refine lv_istore (lv' := [(5, i3 0), (0, .ref (eb E + t)), (1, i3 a1), (2, i3 a2), (3, i3 a3), (4, i3 a4)]) C.hx C.hb dX2_lowestFirst_1 hl (by decide) rfl (fun ls hl => ?_)
  exact l_X2_lowestFirst_3 C hn o_t FU _ _ _ _ hf hH (lv_sub hl [1, 2, 3, 4, 5, 0] rfl)
-- HeavierByHand$RowTable.handOfFirst
def fn_X2_handOfFirst_L15 (t : Nat) (a3 : Int) (a4 : Int) (a5 : Int) (M3 : Mem) (rec15 : Int → Int → Int → Option (Int × Mem)) (v8_15 : Int) (v7_15 : Int) (v6_15 : Int) : Option (Int × Mem) :=
  cLt a5 v8_15 (some (v6_15, M3)) (cLt v8_15 a4 (cu (fn_X2_lowestFirst t v6_15 v7_15 a3 (a4 - v8_15) M3) fun x40 => cLt x40 0 (some ((-1), M3)) (cLt x40 10 (rd M3 (t + 1) 10 x40 fun x67 => nm ((v7_15 - x67)) fun v7_69 => nm (v8_15 + 1) fun v8_71 => rec15 v8_71 v7_69 x40) (some ((-1), M3)))) (some (v6_15, M3)))
def fn_X2_handOfFirst (t : Nat) (a1 : Int) (a2 : Int) (a3 : Int) (a4 : Int) (a5 : Int) (M : Mem) : Option (Int × Mem) :=
  cv (fn_X2_build t a4 M) fun M3 => lq3 (fn_X2_handOfFirst_L15 t a3 a4 a5 M3) FU 0 a2 a1
set_option maxRecDepth 100000 in
set_option maxHeartbeats 4000000 in
theorem l_X2_handOfFirst_15 {p : Program} {l : Launch} {e : Env} {s : State} {m : MethodId} {args : Array Value} {below : List Frame} {meth : Method} {c : Code} {E : EE} {n : Nat} {o : (Int × Mem)} {t : Nat} {a3 : Int} {a4 : Int} {a5 : Int} {M3 : Mem} (C : Cx E p s m args meth c cX2_handOfFirst 9 RX2 (some .int) n "handOfFirst") (hn : nfull n) (o_t : ob n t 2) : ∀ (k : Nat) (v8_15 : Int) (v7_15 : Int) (v6_15 : Int) (H : Heap) (locs : List Loc) (ls : Array Slot), lq3 (fn_X2_handOfFirst_L15 t a3 a4 a5 M3) k v8_15 v7_15 v6_15 = some o → ST E s n (zf n) M3 H locs → lv_has ls 9 [(0, .ref (eb E + t)), (3, i3 a3), (4, i3 a4), (5, i3 a5), (6, i3 v6_15), (7, i3 v7_15), (8, i3 v8_15)] → W p l e { frames := 6, cells := 0, slots := 0, locals := 174 } s m args below meth c H locs 0 0 (MQ below (QC E (some (i3 o.1)) n (zf n) o.2) args s 0 0 (fr E)) (F0 m 15 ls []) := by
  intro k
  induction k with
  | zero => intro v8_15 v7_15 v6_15 H locs ls hf; cases hf
  | succ k ih =>
    intro v8_15 v7_15 v6_15 H locs ls hf hH hl
    have h_rec15 : ∀ {v8_15 : Int} {v7_15 : Int} {v6_15 : Int} {H : Heap} {locs : List Loc} {ls : Array Slot}, lq3 (fn_X2_handOfFirst_L15 t a3 a4 a5 M3) k v8_15 v7_15 v6_15 = some o → ST E s n (zf n) M3 H locs → lv_has ls 9 [(0, .ref (eb E + t)), (3, i3 a3), (4, i3 a4), (5, i3 a5), (6, i3 v6_15), (7, i3 v7_15), (8, i3 v8_15)] → W p l e { frames := 6, cells := 0, slots := 0, locals := 174 } s m args below meth c H locs 0 0 (MQ below (QC E (some (i3 o.1)) n (zf n) o.2) args s 0 0 (fr E)) (F0 m 15 ls []) := fun {v8_15} {v7_15} {v6_15} {H} {locs} {ls} a b c => ih v8_15 v7_15 v6_15 H locs ls a b c
    replace hf : fn_X2_handOfFirst_L15 t a3 a4 a5 M3 (lq3 (fn_X2_handOfFirst_L15 t a3 a4 a5 M3) k) v8_15 v7_15 v6_15 = some o := hf
    generalize lq3 (fn_X2_handOfFirst_L15 t a3 a4 a5 M3) k = rec15 at hf h_rec15
    unfold fn_X2_handOfFirst_L15 at hf
    refine lv_iload C.hx C.hb dX2_handOfFirst_15 (lv_at hl 6 rfl) ?_
    refine lv_iload C.hx C.hb dX2_handOfFirst_17 (lv_at hl 3 rfl) ?_
    refine w_gt (tgt := 77) C hf dX2_handOfFirst_19 (by decide) (fun hf => ?_) (fun hf => ?_)
    · refine lv_iload C.hx C.hb dX2_handOfFirst_77 (lv_at hl 4 rfl) ?_
      cases hf
      exact w_iret C hH dX2_handOfFirst_79
    · refine lv_iload C.hx C.hb dX2_handOfFirst_22 (lv_at hl 6 rfl) ?_
      refine lv_iload C.hx C.hb dX2_handOfFirst_24 (lv_at hl 2 rfl) ?_
      refine w_ge (tgt := 77) C hf dX2_handOfFirst_26 (by decide) (fun hf => ?_) (fun hf => ?_)
      · refine lv_iload C.hx C.hb dX2_handOfFirst_77 (lv_at hl 4 rfl) ?_
        cases hf
        exact w_iret C hH dX2_handOfFirst_79
      · refine lv_aload_n C.hx C.hb dX2_handOfFirst_29 rfl (lv_at hl 0 rfl) ?_
        refine lv_iload C.hx C.hb dX2_handOfFirst_30 (lv_at hl 4 rfl) ?_
        refine lv_iload C.hx C.hb dX2_handOfFirst_32 (lv_at hl 5 rfl) ?_
        refine lv_iload_n C.hx C.hb dX2_handOfFirst_34 rfl (lv_at hl 1 rfl) ?_
        refine lv_iload C.hx C.hb dX2_handOfFirst_35 (lv_at hl 2 rfl) ?_
        refine lv_iload C.hx C.hb dX2_handOfFirst_37 (lv_at hl 6 rfl) ?_
        refine w_isub C dX2_handOfFirst_39 ?_
        obtain ⟨x40, hc9, hf⟩ := cu_of hf
        refine r_callVi (rest := []) C hH hl o_t (by decide) rfl (m_X2_lowestFirst hn o_t hc9) ML_RX2_66 MF_X2_lowestFirst MI_X2_lowestFirst rfl rfl (Nat.le_of_ble_eq_true rfl) ⟨Nat.le_of_ble_eq_true rfl, Nat.le_of_ble_eq_true rfl⟩ ⟨Nat.le_refl _, Nat.le_refl _⟩ dX2_handOfFirst_40 (fun H locs hH => ?_)
        refine lv_istore (lv' := [(6, i3 x40), (0, .ref (eb E + t)), (3, i3 a3), (4, i3 a4), (5, i3 a5), (7, i3 v7_15), (8, i3 v8_15)]) C.hx C.hb dX2_handOfFirst_43 hl (by decide) rfl (fun ls hl => ?_)
        refine lv_iload C.hx C.hb dX2_handOfFirst_45 (lv_at hl 0 rfl) ?_
        refine w_lt0 (tgt := 57) C hf dX2_handOfFirst_47 (by decide) (fun hf => ?_) (fun hf => ?_)
        · refine lv_iconst (v := Int32.ofInt (-1)) C.hx C.hb dX2_handOfFirst_57 rfl ?_
          cases hf
          exact w_iret C hH dX2_handOfFirst_58
        · refine lv_iload C.hx C.hb dX2_handOfFirst_50 (lv_at hl 0 rfl) ?_
          refine lv_bipush (v := Int32.ofInt 10) C.hx C.hb dX2_handOfFirst_52 (by decide) ?_
          refine w_lt (tgt := 59) C hf dX2_handOfFirst_54 (by decide) (fun hf => ?_) (fun hf => ?_)
          · refine lv_iload C.hx C.hb dX2_handOfFirst_59 (lv_at hl 5 rfl) ?_
            refine lv_aload_n C.hx C.hb dX2_handOfFirst_61 rfl (lv_at hl 1 rfl) ?_
            refine g_ref (off := 1) C hH o_t (by decide) rfl rfl FL_RX2_9 dX2_handOfFirst_62 ?_
            refine lv_iload C.hx C.hb dX2_handOfFirst_65 (lv_at hl 0 rfl) ?_
            refine r_iald C hH (ly (i := 3) (off := 1) (k := 12) hn o_t rfl rfl rfl) (lyn (i := 3) (off := 1) (N := 9) hn o_t rfl rfl rfl) hf dX2_handOfFirst_67 (fun x67 hf => ?_)
            refine w_isub C dX2_handOfFirst_68 ?_
            refine r_nm hf (fun v7_69 hf => ?_)
            refine lv_istore (lv' := [(7, i3 v7_69), (6, i3 x40), (0, .ref (eb E + t)), (3, i3 a3), (4, i3 a4), (5, i3 a5), (8, i3 v8_15)]) C.hx C.hb dX2_handOfFirst_69 hl (by decide) rfl (fun ls hl => ?_)
            refine r_iinc (k := 6) (lv' := fun v => [(8, i3 v), (7, i3 v7_69), (6, i3 x40), (0, .ref (eb E + t)), (3, i3 a3), (4, i3 a4), (5, i3 a5)]) C hf dX2_handOfFirst_71 hl rfl (by decide) (fun _ => rfl) (fun v8_71 ls hf hl => ?_)
            refine lv_goto (tgt := 15) C.hx C.hb dX2_handOfFirst_74 (by decide) ?_
            exact h_rec15 hf hH (lv_sub hl [3, 4, 5, 6, 2, 1, 0] rfl)
          · refine lv_iconst (v := Int32.ofInt (-1)) C.hx C.hb dX2_handOfFirst_57 rfl ?_
            cases hf
            exact w_iret C hH dX2_handOfFirst_58
set_option maxRecDepth 100000 in
set_option maxHeartbeats 4000000 in
theorem m_X2_handOfFirst {E : EE} {l : Launch} {n : Nat} {t : Nat} {a1 : Int} {a2 : Int} {a3 : Int} {a4 : Int} {a5 : Int} {M : Mem} {o : (Int × Mem)} (hn : nfull n) (o_t : ob n t 2) (hf : fn_X2_handOfFirst t a1 a2 a3 a4 a5 M = some o) : CT E l yX2_handOfFirst cX2_handOfFirst 9 (some .int) 6 174 0 0 [.ref (eb E + t), i3 a1, i3 a2, i3 a3, i3 a4, i3 a5] n (zf n) M (some (i3 o.1)) n (zf n) o.2 := by
  refine CT_of PN_RX2 (Nat.le_of_ble_eq_true rfl) ?_
  intro p e s m args below meth c C hH ls hl
  replace C : Cx E p s m args meth c cX2_handOfFirst 9 RX2 (some .int) n "handOfFirst" := C
  have hl : lv_has ls 9 [(0, .ref (eb E + t)), (1, i3 a1), (2, i3 a2), (3, i3 a3), (4, i3 a4), (5, i3 a5)] := hl
  unfold fn_X2_handOfFirst at hf
  refine lv_aload_n C.hx C.hb dX2_handOfFirst_0 rfl (lv_at hl 0 rfl) ?_
  refine lv_iload C.hx C.hb dX2_handOfFirst_1 (lv_at hl 4 rfl) ?_
  obtain ⟨M3, hc9, hf⟩ := cv_of hf
  refine r_callVv (rest := []) C hH hl o_t (by decide) rfl (m_X2_build hn o_t hc9) ML_RX2_58 MF_X2_build MI_X2_build rfl rfl (Nat.le_of_ble_eq_true rfl) ⟨Nat.le_of_ble_eq_true rfl, Nat.le_of_ble_eq_true rfl⟩ ⟨Nat.le_refl _, Nat.le_refl _⟩ dX2_handOfFirst_3 (fun H locs hH => ?_)
  refine lv_iload_n C.hx C.hb dX2_handOfFirst_6 rfl (lv_at hl 1 rfl) ?_
  refine lv_istore (lv' := [(6, i3 a1), (0, .ref (eb E + t)), (1, i3 a1), (2, i3 a2), (3, i3 a3), (4, i3 a4), (5, i3 a5)]) C.hx C.hb dX2_handOfFirst_7 hl (by decide) rfl (fun ls hl => ?_)
  refine lv_iload_n C.hx C.hb dX2_handOfFirst_9 rfl (lv_at hl 3 rfl) ?_
  refine lv_istore (lv' := [(7, i3 a2), (6, i3 a1), (0, .ref (eb E + t)), (1, i3 a1), (2, i3 a2), (3, i3 a3), (4, i3 a4), (5, i3 a5)]) C.hx C.hb dX2_handOfFirst_10 hl (by decide) rfl (fun ls hl => ?_)
  refine lv_iconst (v := Int32.ofInt 0) C.hx C.hb dX2_handOfFirst_12 rfl ?_
  refine lv_istore (lv' := [(8, i3 0), (7, i3 a2), (6, i3 a1), (0, .ref (eb E + t)), (1, i3 a1), (2, i3 a2), (3, i3 a3), (4, i3 a4), (5, i3 a5)]) C.hx C.hb dX2_handOfFirst_13 hl (by decide) rfl (fun ls hl => ?_)
  exact l_X2_handOfFirst_15 C hn o_t FU _ _ _ _ _ _ hf hH (lv_sub hl [3, 6, 7, 8, 2, 1, 0] rfl)
-- HeavierByHand$RowTable.marksAt
def fn_X2_marksAt_J58 (v5_6 : Int) (rec6 : Int → Int → Option Int) (v4_58 : Int) : Option Int :=
  nm (v5_6 + 1) fun v5_58 => rec6 v5_58 v4_58
def fn_X2_marksAt_L6 (t : Nat) (a1 : Int) (a2 : Int) (a3 : Int) (M : Mem) (rec6 : Int → Int → Option Int) (v5_6 : Int) (v4_6 : Int) : Option Int :=
  cLt v5_6 (M t 4) (cu (fn_X2_cell t a2 v5_6 a3 M) fun x20 => cEq v5_6 a1 (fn_X2_marksAt_J58 v5_6 rec6 v4_6) (cLt x20 0 (fn_X2_marksAt_J58 v5_6 rec6 v4_6) (cLt x20 (((ln (t + 3)) : Nat) : Int) (rd M (t + 3) (ln (t + 3)) x20 fun x54 => nm ((orI v4_6 x54)) fun v4_56 => fn_X2_marksAt_J58 v5_6 rec6 v4_56) (fn_X2_marksAt_J58 v5_6 rec6 v4_6)))) (some v4_6)
def fn_X2_marksAt (t : Nat) (a1 : Int) (a2 : Int) (a3 : Int) (M : Mem) : Option Int :=
  lq2 (fn_X2_marksAt_L6 t a1 a2 a3 M) FU 0 0
set_option maxRecDepth 100000 in
set_option maxHeartbeats 4000000 in
theorem j_X2_marksAt_58 {p : Program} {l : Launch} {e : Env} {s : State} {m : MethodId} {args : Array Value} {below : List Frame} {meth : Method} {c : Code} {E : EE} {n : Nat} {o : Int} {t : Nat} {a1 : Int} {a2 : Int} {a3 : Int} {M : Mem} {v5_6 : Int} {rec6 : Int → Int → Option Int} {v4_58 : Int} {H : Heap} {locs : List Loc} {ls : Array Slot} (C : Cx E p s m args meth c cX2_marksAt 7 RX2 (some .int) n "marksAt") (hn : nfull n) (o_t : ob n t 2) (h_rec6 : ∀ {v5_6 : Int} {v4_6 : Int} {H : Heap} {locs : List Loc} {ls : Array Slot}, rec6 v5_6 v4_6 = some o → ST E s n (zf n) M H locs → lv_has ls 7 [(0, .ref (eb E + t)), (1, i3 a1), (2, i3 a2), (3, i3 a3), (4, i3 v4_6), (5, i3 v5_6)] → W p l e { frames := 2, cells := 0, slots := 0, locals := 44 } s m args below meth c H locs 0 0 (MQ below (QC E (some (i3 o)) n (zf n) M) args s 0 0 (fr E)) (F0 m 6 ls [])) (hf : fn_X2_marksAt_J58 v5_6 rec6 v4_58 = some o) (hH : ST E s n (zf n) M H locs) (hl : lv_has ls 7 [(0, .ref (eb E + t)), (1, i3 a1), (2, i3 a2), (3, i3 a3), (4, i3 v4_58), (5, i3 v5_6)]) : W p l e { frames := 2, cells := 0, slots := 0, locals := 44 } s m args below meth c H locs 0 0 (MQ below (QC E (some (i3 o)) n (zf n) M) args s 0 0 (fr E)) (F0 m 58 ls []) := by
  unfold fn_X2_marksAt_J58 at hf
  refine r_iinc (k := 5) (lv' := fun v => [(5, i3 v), (0, .ref (eb E + t)), (1, i3 a1), (2, i3 a2), (3, i3 a3), (4, i3 v4_58)]) C hf dX2_marksAt_58 hl rfl (by decide) (fun _ => rfl) (fun v5_58 ls hf hl => ?_)
  refine lv_goto (tgt := 6) C.hx C.hb dX2_marksAt_61 (by decide) ?_
  exact h_rec6 hf hH (lv_sub hl [1, 2, 3, 4, 5, 0] rfl)
set_option maxRecDepth 100000 in
set_option maxHeartbeats 4000000 in
theorem l_X2_marksAt_6 {p : Program} {l : Launch} {e : Env} {s : State} {m : MethodId} {args : Array Value} {below : List Frame} {meth : Method} {c : Code} {E : EE} {n : Nat} {o : Int} {t : Nat} {a1 : Int} {a2 : Int} {a3 : Int} {M : Mem} (C : Cx E p s m args meth c cX2_marksAt 7 RX2 (some .int) n "marksAt") (hn : nfull n) (o_t : ob n t 2) : ∀ (k : Nat) (v5_6 : Int) (v4_6 : Int) (H : Heap) (locs : List Loc) (ls : Array Slot), lq2 (fn_X2_marksAt_L6 t a1 a2 a3 M) k v5_6 v4_6 = some o → ST E s n (zf n) M H locs → lv_has ls 7 [(0, .ref (eb E + t)), (1, i3 a1), (2, i3 a2), (3, i3 a3), (4, i3 v4_6), (5, i3 v5_6)] → W p l e { frames := 2, cells := 0, slots := 0, locals := 44 } s m args below meth c H locs 0 0 (MQ below (QC E (some (i3 o)) n (zf n) M) args s 0 0 (fr E)) (F0 m 6 ls []) := by
  intro k
  induction k with
  | zero => intro v5_6 v4_6 H locs ls hf; cases hf
  | succ k ih =>
    intro v5_6 v4_6 H locs ls hf hH hl
    have h_rec6 : ∀ {v5_6 : Int} {v4_6 : Int} {H : Heap} {locs : List Loc} {ls : Array Slot}, lq2 (fn_X2_marksAt_L6 t a1 a2 a3 M) k v5_6 v4_6 = some o → ST E s n (zf n) M H locs → lv_has ls 7 [(0, .ref (eb E + t)), (1, i3 a1), (2, i3 a2), (3, i3 a3), (4, i3 v4_6), (5, i3 v5_6)] → W p l e { frames := 2, cells := 0, slots := 0, locals := 44 } s m args below meth c H locs 0 0 (MQ below (QC E (some (i3 o)) n (zf n) M) args s 0 0 (fr E)) (F0 m 6 ls []) := fun {v5_6} {v4_6} {H} {locs} {ls} a b c => ih v5_6 v4_6 H locs ls a b c
    replace hf : fn_X2_marksAt_L6 t a1 a2 a3 M (lq2 (fn_X2_marksAt_L6 t a1 a2 a3 M) k) v5_6 v4_6 = some o := hf
    generalize lq2 (fn_X2_marksAt_L6 t a1 a2 a3 M) k = rec6 at hf h_rec6
    unfold fn_X2_marksAt_L6 at hf
    refine lv_iload C.hx C.hb dX2_marksAt_6 (lv_at hl 5 rfl) ?_
    refine lv_aload_n C.hx C.hb dX2_marksAt_8 rfl (lv_at hl 0 rfl) ?_
    refine g_int C hH o_t (by decide) rfl FL_RX2_42 dX2_marksAt_9 ?_
    refine w_ge (tgt := 64) C hf dX2_marksAt_12 (by decide) (fun hf => ?_) (fun hf => ?_)
    · refine lv_iload C.hx C.hb dX2_marksAt_64 (lv_at hl 4 rfl) ?_
      cases hf
      exact w_iret C hH dX2_marksAt_66
    · refine lv_aload_n C.hx C.hb dX2_marksAt_15 rfl (lv_at hl 0 rfl) ?_
      refine lv_iload_n C.hx C.hb dX2_marksAt_16 rfl (lv_at hl 2 rfl) ?_
      refine lv_iload C.hx C.hb dX2_marksAt_17 (lv_at hl 5 rfl) ?_
      refine lv_iload_n C.hx C.hb dX2_marksAt_19 rfl (lv_at hl 3 rfl) ?_
      obtain ⟨x20, hc9, hf⟩ := cu_of hf
      refine r_callVi (rest := []) C hH hl o_t (by decide) rfl (m_X2_cell hn o_t hc9) ML_RX2_82 MF_X2_cell MI_X2_cell rfl rfl (Nat.le_of_ble_eq_true rfl) ⟨Nat.le_of_ble_eq_true rfl, Nat.le_of_ble_eq_true rfl⟩ ⟨Nat.le_refl _, Nat.le_refl _⟩ dX2_marksAt_20 (fun H locs hH => ?_)
      refine lv_istore (lv' := [(6, i3 x20), (0, .ref (eb E + t)), (1, i3 a1), (2, i3 a2), (3, i3 a3), (4, i3 v4_6), (5, i3 v5_6)]) C.hx C.hb dX2_marksAt_23 hl (by decide) rfl (fun ls hl => ?_)
      refine lv_iload C.hx C.hb dX2_marksAt_25 (lv_at hl 6 rfl) ?_
      refine lv_iload_n C.hx C.hb dX2_marksAt_27 rfl (lv_at hl 2 rfl) ?_
      refine w_eq (tgt := 58) C hf dX2_marksAt_28 (by decide) (fun hf => ?_) (fun hf => ?_)
      · exact j_X2_marksAt_58 C hn o_t h_rec6 hf hH (lv_sub hl [1, 2, 3, 4, 5, 6] rfl)
      · refine lv_iload C.hx C.hb dX2_marksAt_31 (lv_at hl 0 rfl) ?_
        refine w_lt0 (tgt := 58) C hf dX2_marksAt_33 (by decide) (fun hf => ?_) (fun hf => ?_)
        · exact j_X2_marksAt_58 C hn o_t h_rec6 hf hH (lv_sub hl [1, 2, 3, 4, 5, 6] rfl)
        · refine lv_iload C.hx C.hb dX2_marksAt_36 (lv_at hl 0 rfl) ?_
          refine lv_aload_n C.hx C.hb dX2_marksAt_38 rfl (lv_at hl 1 rfl) ?_
          refine g_ref (off := 3) C hH o_t (by decide) rfl rfl FL_RX2_36 dX2_marksAt_39 ?_
          refine g_len (N := (ln (t + 3))) C hH (ly (i := 2) (off := 3) (k := 12) hn o_t rfl rfl rfl) (by decide) rfl dX2_marksAt_42 ?_
          refine w_ge (tgt := 58) C hf dX2_marksAt_43 (by decide) (fun hf => ?_) (fun hf => ?_)
          · exact j_X2_marksAt_58 C hn o_t h_rec6 hf hH (lv_sub hl [1, 2, 3, 4, 5, 6] rfl)
          · refine lv_iload C.hx C.hb dX2_marksAt_46 (lv_at hl 5 rfl) ?_
            refine lv_aload_n C.hx C.hb dX2_marksAt_48 rfl (lv_at hl 1 rfl) ?_
            refine g_ref (off := 3) C hH o_t (by decide) rfl rfl FL_RX2_36 dX2_marksAt_49 ?_
            refine lv_iload C.hx C.hb dX2_marksAt_52 (lv_at hl 0 rfl) ?_
            refine r_iald C hH (ly (i := 2) (off := 3) (k := 12) hn o_t rfl rfl rfl) rfl hf dX2_marksAt_54 (fun x54 hf => ?_)
            refine w_ior C dX2_marksAt_55 ?_
            refine r_nm hf (fun v4_56 hf => ?_)
            refine lv_istore (lv' := [(4, i3 v4_56), (6, i3 x20), (0, .ref (eb E + t)), (1, i3 a1), (2, i3 a2), (3, i3 a3), (5, i3 v5_6)]) C.hx C.hb dX2_marksAt_56 hl (by decide) rfl (fun ls hl => ?_)
            exact j_X2_marksAt_58 C hn o_t h_rec6 hf hH (lv_sub hl [2, 3, 4, 5, 0, 6] rfl)
set_option maxRecDepth 100000 in
set_option maxHeartbeats 4000000 in
theorem m_X2_marksAt {E : EE} {l : Launch} {n : Nat} {t : Nat} {a1 : Int} {a2 : Int} {a3 : Int} {M : Mem} {o : Int} (hn : nfull n) (o_t : ob n t 2) (hf : fn_X2_marksAt t a1 a2 a3 M = some o) : CT E l yX2_marksAt cX2_marksAt 7 (some .int) 2 44 0 0 [.ref (eb E + t), i3 a1, i3 a2, i3 a3] n (zf n) M (some (i3 o)) n (zf n) M := by
  refine CT_of PN_RX2 (Nat.le_of_ble_eq_true rfl) ?_
  intro p e s m args below meth c C hH ls hl
  replace C : Cx E p s m args meth c cX2_marksAt 7 RX2 (some .int) n "marksAt" := C
  have hl : lv_has ls 7 [(0, .ref (eb E + t)), (1, i3 a1), (2, i3 a2), (3, i3 a3)] := hl
  unfold fn_X2_marksAt at hf
  refine lv_iconst (v := Int32.ofInt 0) C.hx C.hb dX2_marksAt_0 rfl ?_
  refine lv_istore (lv' := [(4, i3 0), (0, .ref (eb E + t)), (1, i3 a1), (2, i3 a2), (3, i3 a3)]) C.hx C.hb dX2_marksAt_1 hl (by decide) rfl (fun ls hl => ?_)
  refine lv_iconst (v := Int32.ofInt 0) C.hx C.hb dX2_marksAt_3 rfl ?_
  refine lv_istore (lv' := [(5, i3 0), (4, i3 0), (0, .ref (eb E + t)), (1, i3 a1), (2, i3 a2), (3, i3 a3)]) C.hx C.hb dX2_marksAt_4 hl (by decide) rfl (fun ls hl => ?_)
  exact l_X2_marksAt_6 C hn o_t FU _ _ _ _ _ hf hH (lv_sub hl [2, 3, 4, 5, 1, 0] rfl)
-- HeavierByHand$RowTable.marksOf
def fn_X2_marksOf_J101 (v7_36 : Int) (rec36 : Int → Int → Option (Int × Mem)) (v6_101 : Int) : Option (Int × Mem) :=
  nm (v7_36 + 1) fun v7_101 => rec36 v7_101 v6_101
def fn_X2_marksOf_L74 (t : Nat) (a1 : Int) (M3 : Mem) (v7_36 : Int) (rec36 : Int → Int → Option (Int × Mem)) (v8_63 : Int) (rec74 : Int → Int → Option (Int × Mem)) (v9_74 : Int) (v6_74 : Int) : Option (Int × Mem) :=
  cLt v8_63 v9_74 (fn_X2_marksOf_J101 v7_36 rec36 v6_74) (cu (fn_X2_marksAt t a1 v7_36 v9_74 M3) fun x89 => nm ((orI v6_74 x89)) fun v6_93 => nm (v9_74 + 1) fun v9_95 => rec74 v9_95 v6_93)
def fn_X2_marksOf_L36 (t : Nat) (a1 : Int) (a2 : Int) (a3 : Int) (a5 : Int) (M3 : Mem) (rec36 : Int → Int → Option (Int × Mem)) (v7_36 : Int) (v6_36 : Int) : Option (Int × Mem) :=
  cLt a5 v7_36 (some (v6_36, M3)) (cLt (M3 t 0) v7_36 (some (v6_36, M3)) (ck (R3 (a2 + a3) ∧ R3 (30 * v7_36)) <| nm ((min (a2 + a3) (30 * v7_36))) fun v8_63 => ck (R3 (a2 - a3) ∧ R3 0) <| nm ((max (a2 - a3) 0)) fun v9_72 => lq2 (fn_X2_marksOf_L74 t a1 M3 v7_36 rec36 v8_63) FU v9_72 v6_36))
def fn_X2_marksOf_J26 (t : Nat) (a1 : Int) (a2 : Int) (a3 : Int) (a4 : Int) (a5 : Int) (M3 : Mem) (u0_26 : Int) : Option (Int × Mem) :=
  ck (R3 a4 ∧ R3 1) <| nm ((max a4 1)) fun v7_34 => lq2 (fn_X2_marksOf_L36 t a1 a2 a3 a5 M3) FU v7_34 u0_26
def fn_X2_marksOf_J25 (t : Nat) (a1 : Int) (a2 : Int) (a3 : Int) (a4 : Int) (a5 : Int) (M3 : Mem) : Option (Int × Mem) :=
  fn_X2_marksOf_J26 t a1 a2 a3 a4 a5 M3 0
def fn_X2_marksOf (t : Nat) (a1 : Int) (a2 : Int) (a3 : Int) (a4 : Int) (a5 : Int) (M : Mem) : Option (Int × Mem) :=
  cv (fn_X2_build t a5 M) fun M3 => cEq a4 0 (cu (fn_X2_isNear a2 a3 M3) fun x13 => cEq x13 0 (fn_X2_marksOf_J25 t a1 a2 a3 a4 a5 M3) (fn_X2_marksOf_J26 t a1 a2 a3 a4 a5 M3 1023)) (fn_X2_marksOf_J25 t a1 a2 a3 a4 a5 M3)
set_option maxRecDepth 100000 in
set_option maxHeartbeats 4000000 in
theorem j_X2_marksOf_101 {p : Program} {l : Launch} {e : Env} {s : State} {m : MethodId} {args : Array Value} {below : List Frame} {meth : Method} {c : Code} {E : EE} {n : Nat} {o : (Int × Mem)} {t : Nat} {a1 : Int} {a2 : Int} {a3 : Int} {a5 : Int} {M3 : Mem} {v7_36 : Int} {rec36 : Int → Int → Option (Int × Mem)} {v6_101 : Int} {H : Heap} {locs : List Loc} {ls : Array Slot} (C : Cx E p s m args meth c cX2_marksOf 10 RX2 (some .int) n "marksOf") (hn : nfull n) (o_t : ob n t 2) (h_rec36 : ∀ {v7_36 : Int} {v6_36 : Int} {H : Heap} {locs : List Loc} {ls : Array Slot}, rec36 v7_36 v6_36 = some o → ST E s n (zf n) M3 H locs → lv_has ls 10 [(0, .ref (eb E + t)), (1, i3 a1), (2, i3 a2), (3, i3 a3), (5, i3 a5), (6, i3 v6_36), (7, i3 v7_36)] → W p l e { frames := 6, cells := 0, slots := 0, locals := 166 } s m args below meth c H locs 0 0 (MQ below (QC E (some (i3 o.1)) n (zf n) o.2) args s 0 0 (fr E)) (F0 m 36 ls [])) (hf : fn_X2_marksOf_J101 v7_36 rec36 v6_101 = some o) (hH : ST E s n (zf n) M3 H locs) (hl : lv_has ls 10 [(0, .ref (eb E + t)), (1, i3 a1), (2, i3 a2), (3, i3 a3), (5, i3 a5), (6, i3 v6_101), (7, i3 v7_36)]) : W p l e { frames := 6, cells := 0, slots := 0, locals := 166 } s m args below meth c H locs 0 0 (MQ below (QC E (some (i3 o.1)) n (zf n) o.2) args s 0 0 (fr E)) (F0 m 101 ls []) := by
  unfold fn_X2_marksOf_J101 at hf
  refine r_iinc (k := 6) (lv' := fun v => [(7, i3 v), (0, .ref (eb E + t)), (1, i3 a1), (2, i3 a2), (3, i3 a3), (5, i3 a5), (6, i3 v6_101)]) C hf dX2_marksOf_101 hl rfl (by decide) (fun _ => rfl) (fun v7_101 ls hf hl => ?_)
  refine lv_goto (tgt := 36) C.hx C.hb dX2_marksOf_104 (by decide) ?_
  exact h_rec36 hf hH (lv_sub hl [1, 2, 3, 4, 5, 6, 0] rfl)
set_option maxRecDepth 100000 in
set_option maxHeartbeats 4000000 in
theorem l_X2_marksOf_74 {p : Program} {l : Launch} {e : Env} {s : State} {m : MethodId} {args : Array Value} {below : List Frame} {meth : Method} {c : Code} {E : EE} {n : Nat} {o : (Int × Mem)} {t : Nat} {a1 : Int} {a2 : Int} {a3 : Int} {a5 : Int} {M3 : Mem} {v7_36 : Int} {rec36 : Int → Int → Option (Int × Mem)} {v8_63 : Int} (C : Cx E p s m args meth c cX2_marksOf 10 RX2 (some .int) n "marksOf") (hn : nfull n) (o_t : ob n t 2) (h_rec36 : ∀ {v7_36 : Int} {v6_36 : Int} {H : Heap} {locs : List Loc} {ls : Array Slot}, rec36 v7_36 v6_36 = some o → ST E s n (zf n) M3 H locs → lv_has ls 10 [(0, .ref (eb E + t)), (1, i3 a1), (2, i3 a2), (3, i3 a3), (5, i3 a5), (6, i3 v6_36), (7, i3 v7_36)] → W p l e { frames := 6, cells := 0, slots := 0, locals := 166 } s m args below meth c H locs 0 0 (MQ below (QC E (some (i3 o.1)) n (zf n) o.2) args s 0 0 (fr E)) (F0 m 36 ls [])) : ∀ (k : Nat) (v9_74 : Int) (v6_74 : Int) (H : Heap) (locs : List Loc) (ls : Array Slot), lq2 (fn_X2_marksOf_L74 t a1 M3 v7_36 rec36 v8_63) k v9_74 v6_74 = some o → ST E s n (zf n) M3 H locs → lv_has ls 10 [(0, .ref (eb E + t)), (1, i3 a1), (2, i3 a2), (3, i3 a3), (5, i3 a5), (6, i3 v6_74), (7, i3 v7_36), (8, i3 v8_63), (9, i3 v9_74)] → W p l e { frames := 6, cells := 0, slots := 0, locals := 166 } s m args below meth c H locs 0 0 (MQ below (QC E (some (i3 o.1)) n (zf n) o.2) args s 0 0 (fr E)) (F0 m 74 ls []) := by
  intro k
  induction k with
  | zero => intro v9_74 v6_74 H locs ls hf; cases hf
  | succ k ih =>
    intro v9_74 v6_74 H locs ls hf hH hl
    have h_rec74 : ∀ {v9_74 : Int} {v6_74 : Int} {H : Heap} {locs : List Loc} {ls : Array Slot}, lq2 (fn_X2_marksOf_L74 t a1 M3 v7_36 rec36 v8_63) k v9_74 v6_74 = some o → ST E s n (zf n) M3 H locs → lv_has ls 10 [(0, .ref (eb E + t)), (1, i3 a1), (2, i3 a2), (3, i3 a3), (5, i3 a5), (6, i3 v6_74), (7, i3 v7_36), (8, i3 v8_63), (9, i3 v9_74)] → W p l e { frames := 6, cells := 0, slots := 0, locals := 166 } s m args below meth c H locs 0 0 (MQ below (QC E (some (i3 o.1)) n (zf n) o.2) args s 0 0 (fr E)) (F0 m 74 ls []) := fun {v9_74} {v6_74} {H} {locs} {ls} a b c => ih v9_74 v6_74 H locs ls a b c
    replace hf : fn_X2_marksOf_L74 t a1 M3 v7_36 rec36 v8_63 (lq2 (fn_X2_marksOf_L74 t a1 M3 v7_36 rec36 v8_63) k) v9_74 v6_74 = some o := hf
    generalize lq2 (fn_X2_marksOf_L74 t a1 M3 v7_36 rec36 v8_63) k = rec74 at hf h_rec74
    unfold fn_X2_marksOf_L74 at hf
    refine lv_iload C.hx C.hb dX2_marksOf_74 (lv_at hl 8 rfl) ?_
    refine lv_iload C.hx C.hb dX2_marksOf_76 (lv_at hl 7 rfl) ?_
    refine w_gt (tgt := 101) C hf dX2_marksOf_78 (by decide) (fun hf => ?_) (fun hf => ?_)
    · exact j_X2_marksOf_101 C hn o_t h_rec36 hf hH (lv_sub hl [0, 1, 2, 3, 4, 5, 6] rfl)
    · refine lv_iload C.hx C.hb dX2_marksOf_81 (lv_at hl 5 rfl) ?_
      refine lv_aload_n C.hx C.hb dX2_marksOf_83 rfl (lv_at hl 0 rfl) ?_
      refine lv_iload_n C.hx C.hb dX2_marksOf_84 rfl (lv_at hl 1 rfl) ?_
      refine lv_iload C.hx C.hb dX2_marksOf_85 (lv_at hl 6 rfl) ?_
      refine lv_iload C.hx C.hb dX2_marksOf_87 (lv_at hl 8 rfl) ?_
      obtain ⟨x89, hc9, hf⟩ := cu_of hf
      refine r_callVi (rest := [i3 v6_74]) C hH hl o_t (by decide) rfl (m_X2_marksAt hn o_t hc9) ML_RX2_78 MF_X2_marksAt MI_X2_marksAt rfl rfl (Nat.le_of_ble_eq_true rfl) ⟨Nat.le_of_ble_eq_true rfl, Nat.le_of_ble_eq_true rfl⟩ ⟨Nat.le_refl _, Nat.le_refl _⟩ dX2_marksOf_89 (fun H locs hH => ?_)
      refine w_ior C dX2_marksOf_92 ?_
      refine r_nm hf (fun v6_93 hf => ?_)
      refine lv_istore (lv' := [(6, i3 v6_93), (0, .ref (eb E + t)), (1, i3 a1), (2, i3 a2), (3, i3 a3), (5, i3 a5), (7, i3 v7_36), (8, i3 v8_63), (9, i3 v9_74)]) C.hx C.hb dX2_marksOf_93 hl (by decide) rfl (fun ls hl => ?_)
      refine r_iinc (k := 8) (lv' := fun v => [(9, i3 v), (6, i3 v6_93), (0, .ref (eb E + t)), (1, i3 a1), (2, i3 a2), (3, i3 a3), (5, i3 a5), (7, i3 v7_36), (8, i3 v8_63)]) C hf dX2_marksOf_95 hl rfl (by decide) (fun _ => rfl) (fun v9_95 ls hf hl => ?_)
      refine lv_goto (tgt := 74) C.hx C.hb dX2_marksOf_98 (by decide) ?_
      exact h_rec74 hf hH (lv_sub hl [2, 3, 4, 5, 6, 1, 7, 8, 0] rfl)
set_option maxRecDepth 100000 in
set_option maxHeartbeats 4000000 in
theorem l_X2_marksOf_36 {p : Program} {l : Launch} {e : Env} {s : State} {m : MethodId} {args : Array Value} {below : List Frame} {meth : Method} {c : Code} {E : EE} {n : Nat} {o : (Int × Mem)} {t : Nat} {a1 : Int} {a2 : Int} {a3 : Int} {a5 : Int} {M3 : Mem} (C : Cx E p s m args meth c cX2_marksOf 10 RX2 (some .int) n "marksOf") (hn : nfull n) (o_t : ob n t 2) : ∀ (k : Nat) (v7_36 : Int) (v6_36 : Int) (H : Heap) (locs : List Loc) (ls : Array Slot), lq2 (fn_X2_marksOf_L36 t a1 a2 a3 a5 M3) k v7_36 v6_36 = some o → ST E s n (zf n) M3 H locs → lv_has ls 10 [(0, .ref (eb E + t)), (1, i3 a1), (2, i3 a2), (3, i3 a3), (5, i3 a5), (6, i3 v6_36), (7, i3 v7_36)] → W p l e { frames := 6, cells := 0, slots := 0, locals := 166 } s m args below meth c H locs 0 0 (MQ below (QC E (some (i3 o.1)) n (zf n) o.2) args s 0 0 (fr E)) (F0 m 36 ls []) := by
  intro k
  induction k with
  | zero => intro v7_36 v6_36 H locs ls hf; cases hf
  | succ k ih =>
    intro v7_36 v6_36 H locs ls hf hH hl
    have h_rec36 : ∀ {v7_36 : Int} {v6_36 : Int} {H : Heap} {locs : List Loc} {ls : Array Slot}, lq2 (fn_X2_marksOf_L36 t a1 a2 a3 a5 M3) k v7_36 v6_36 = some o → ST E s n (zf n) M3 H locs → lv_has ls 10 [(0, .ref (eb E + t)), (1, i3 a1), (2, i3 a2), (3, i3 a3), (5, i3 a5), (6, i3 v6_36), (7, i3 v7_36)] → W p l e { frames := 6, cells := 0, slots := 0, locals := 166 } s m args below meth c H locs 0 0 (MQ below (QC E (some (i3 o.1)) n (zf n) o.2) args s 0 0 (fr E)) (F0 m 36 ls []) := fun {v7_36} {v6_36} {H} {locs} {ls} a b c => ih v7_36 v6_36 H locs ls a b c
    replace hf : fn_X2_marksOf_L36 t a1 a2 a3 a5 M3 (lq2 (fn_X2_marksOf_L36 t a1 a2 a3 a5 M3) k) v7_36 v6_36 = some o := hf
    generalize lq2 (fn_X2_marksOf_L36 t a1 a2 a3 a5 M3) k = rec36 at hf h_rec36
    unfold fn_X2_marksOf_L36 at hf
    refine lv_iload C.hx C.hb dX2_marksOf_36 (lv_at hl 6 rfl) ?_
    refine lv_iload C.hx C.hb dX2_marksOf_38 (lv_at hl 4 rfl) ?_
    refine w_gt (tgt := 107) C hf dX2_marksOf_40 (by decide) (fun hf => ?_) (fun hf => ?_)
    · refine lv_iload C.hx C.hb dX2_marksOf_107 (lv_at hl 5 rfl) ?_
      cases hf
      exact w_iret C hH dX2_marksOf_109
    · refine lv_iload C.hx C.hb dX2_marksOf_43 (lv_at hl 6 rfl) ?_
      refine lv_aload_n C.hx C.hb dX2_marksOf_45 rfl (lv_at hl 0 rfl) ?_
      refine g_int C hH o_t (by decide) rfl FL_RX2_24 dX2_marksOf_46 ?_
      refine w_gt (tgt := 107) C hf dX2_marksOf_49 (by decide) (fun hf => ?_) (fun hf => ?_)
      · refine lv_iload C.hx C.hb dX2_marksOf_107 (lv_at hl 5 rfl) ?_
        cases hf
        exact w_iret C hH dX2_marksOf_109
      · refine lv_iload_n C.hx C.hb dX2_marksOf_52 rfl (lv_at hl 2 rfl) ?_
        refine lv_iload_n C.hx C.hb dX2_marksOf_53 rfl (lv_at hl 3 rfl) ?_
        refine w_iadd C dX2_marksOf_54 ?_
        refine lv_bipush (v := Int32.ofInt 30) C.hx C.hb dX2_marksOf_55 (by decide) ?_
        refine lv_iload C.hx C.hb dX2_marksOf_57 (lv_at hl 6 rfl) ?_
        refine w_imul C dX2_marksOf_59 ?_
        obtain ⟨hR8, hf⟩ := ck_of hf
        refine w_min C hl.1 hR8 ML_RX2_15 LB_min LB_mathi LB_minc (Nat.le_of_ble_eq_true rfl) (Nat.le_of_ble_eq_true rfl) (Nat.le_refl _) (Nat.le_refl _) dX2_marksOf_60 ?_
        refine r_nm hf (fun v8_63 hf => ?_)
        refine lv_istore (lv' := [(8, i3 v8_63), (0, .ref (eb E + t)), (1, i3 a1), (2, i3 a2), (3, i3 a3), (5, i3 a5), (6, i3 v6_36), (7, i3 v7_36)]) C.hx C.hb dX2_marksOf_63 hl (by decide) rfl (fun ls hl => ?_)
        refine lv_iload_n C.hx C.hb dX2_marksOf_65 rfl (lv_at hl 3 rfl) ?_
        refine lv_iload_n C.hx C.hb dX2_marksOf_66 rfl (lv_at hl 4 rfl) ?_
        refine w_isub C dX2_marksOf_67 ?_
        refine lv_iconst (v := Int32.ofInt 0) C.hx C.hb dX2_marksOf_68 rfl ?_
        obtain ⟨hR8, hf⟩ := ck_of hf
        refine w_max C hl.1 hR8 ML_RX2_21 LB_max LB_mathi LB_maxc (Nat.le_of_ble_eq_true rfl) (Nat.le_of_ble_eq_true rfl) (Nat.le_refl _) (Nat.le_refl _) dX2_marksOf_69 ?_
        refine r_nm hf (fun v9_72 hf => ?_)
        refine lv_istore (lv' := [(9, i3 v9_72), (8, i3 v8_63), (0, .ref (eb E + t)), (1, i3 a1), (2, i3 a2), (3, i3 a3), (5, i3 a5), (6, i3 v6_36), (7, i3 v7_36)]) C.hx C.hb dX2_marksOf_72 hl (by decide) rfl (fun ls hl => ?_)
        exact l_X2_marksOf_74 C hn o_t h_rec36 FU _ _ _ _ _ hf hH (lv_sub hl [2, 3, 4, 5, 6, 7, 8, 1, 0] rfl)
set_option maxRecDepth 100000 in
set_option maxHeartbeats 4000000 in
theorem j_X2_marksOf_26 {p : Program} {l : Launch} {e : Env} {s : State} {m : MethodId} {args : Array Value} {below : List Frame} {meth : Method} {c : Code} {E : EE} {n : Nat} {o : (Int × Mem)} {t : Nat} {a1 : Int} {a2 : Int} {a3 : Int} {a4 : Int} {a5 : Int} {M3 : Mem} {u0_26 : Int} {H : Heap} {locs : List Loc} {ls : Array Slot} (C : Cx E p s m args meth c cX2_marksOf 10 RX2 (some .int) n "marksOf") (hn : nfull n) (o_t : ob n t 2) (hf : fn_X2_marksOf_J26 t a1 a2 a3 a4 a5 M3 u0_26 = some o) (hH : ST E s n (zf n) M3 H locs) (hl : lv_has ls 10 [(0, .ref (eb E + t)), (1, i3 a1), (2, i3 a2), (3, i3 a3), (4, i3 a4), (5, i3 a5)]) : W p l e { frames := 6, cells := 0, slots := 0, locals := 166 } s m args below meth c H locs 0 0 (MQ below (QC E (some (i3 o.1)) n (zf n) o.2) args s 0 0 (fr E)) (F0 m 26 ls [i3 u0_26]) := by
  unfold fn_X2_marksOf_J26 at hf
  refine lv_istore (lv' := [(6, i3 u0_26), (0, .ref (eb E + t)), (1, i3 a1), (2, i3 a2), (3, i3 a3), (4, i3 a4), (5, i3 a5)]) C.hx C.hb dX2_marksOf_26 hl (by decide) rfl (fun ls hl => ?_)
  refine lv_iload C.hx C.hb dX2_marksOf_28 (lv_at hl 5 rfl) ?_
  refine lv_iconst (v := Int32.ofInt 1) C.hx C.hb dX2_marksOf_30 rfl ?_
  obtain ⟨hR8, hf⟩ := ck_of hf
  refine w_max C hl.1 hR8 ML_RX2_21 LB_max LB_mathi LB_maxc (Nat.le_of_ble_eq_true rfl) (Nat.le_of_ble_eq_true rfl) (Nat.le_refl _) (Nat.le_refl _) dX2_marksOf_31 ?_
  refine r_nm hf (fun v7_34 hf => ?_)
  refine lv_istore (lv' := [(7, i3 v7_34), (6, i3 u0_26), (0, .ref (eb E + t)), (1, i3 a1), (2, i3 a2), (3, i3 a3), (4, i3 a4), (5, i3 a5)]) C.hx C.hb dX2_marksOf_34 hl (by decide) rfl (fun ls hl => ?_)
  exact l_X2_marksOf_36 C hn o_t FU _ _ _ _ _ hf hH (lv_sub hl [2, 3, 4, 5, 7, 1, 0] rfl)
set_option maxRecDepth 100000 in
set_option maxHeartbeats 4000000 in
theorem j_X2_marksOf_25 {p : Program} {l : Launch} {e : Env} {s : State} {m : MethodId} {args : Array Value} {below : List Frame} {meth : Method} {c : Code} {E : EE} {n : Nat} {o : (Int × Mem)} {t : Nat} {a1 : Int} {a2 : Int} {a3 : Int} {a4 : Int} {a5 : Int} {M3 : Mem} {H : Heap} {locs : List Loc} {ls : Array Slot} (C : Cx E p s m args meth c cX2_marksOf 10 RX2 (some .int) n "marksOf") (hn : nfull n) (o_t : ob n t 2) (hf : fn_X2_marksOf_J25 t a1 a2 a3 a4 a5 M3 = some o) (hH : ST E s n (zf n) M3 H locs) (hl : lv_has ls 10 [(0, .ref (eb E + t)), (1, i3 a1), (2, i3 a2), (3, i3 a3), (4, i3 a4), (5, i3 a5)]) : W p l e { frames := 6, cells := 0, slots := 0, locals := 166 } s m args below meth c H locs 0 0 (MQ below (QC E (some (i3 o.1)) n (zf n) o.2) args s 0 0 (fr E)) (F0 m 25 ls []) := by
  unfold fn_X2_marksOf_J25 at hf
  refine lv_iconst (v := Int32.ofInt 0) C.hx C.hb dX2_marksOf_25 rfl ?_
  exact j_X2_marksOf_26 C hn o_t hf hH (lv_sub hl [0, 1, 2, 3, 4, 5] rfl)
set_option maxRecDepth 100000 in
set_option maxHeartbeats 4000000 in
theorem m_X2_marksOf {E : EE} {l : Launch} {n : Nat} {t : Nat} {a1 : Int} {a2 : Int} {a3 : Int} {a4 : Int} {a5 : Int} {M : Mem} {o : (Int × Mem)} (hn : nfull n) (o_t : ob n t 2) (hf : fn_X2_marksOf t a1 a2 a3 a4 a5 M = some o) : CT E l yX2_marksOf cX2_marksOf 10 (some .int) 6 166 0 0 [.ref (eb E + t), i3 a1, i3 a2, i3 a3, i3 a4, i3 a5] n (zf n) M (some (i3 o.1)) n (zf n) o.2 := by
  refine CT_of PN_RX2 (Nat.le_of_ble_eq_true rfl) ?_
  intro p e s m args below meth c C hH ls hl
  replace C : Cx E p s m args meth c cX2_marksOf 10 RX2 (some .int) n "marksOf" := C
  have hl : lv_has ls 10 [(0, .ref (eb E + t)), (1, i3 a1), (2, i3 a2), (3, i3 a3), (4, i3 a4), (5, i3 a5)] := hl
  unfold fn_X2_marksOf at hf
  refine lv_aload_n C.hx C.hb dX2_marksOf_0 rfl (lv_at hl 0 rfl) ?_
  refine lv_iload C.hx C.hb dX2_marksOf_1 (lv_at hl 5 rfl) ?_
  obtain ⟨M3, hc9, hf⟩ := cv_of hf
  refine r_callVv (rest := []) C hH hl o_t (by decide) rfl (m_X2_build hn o_t hc9) ML_RX2_58 MF_X2_build MI_X2_build rfl rfl (Nat.le_of_ble_eq_true rfl) ⟨Nat.le_of_ble_eq_true rfl, Nat.le_of_ble_eq_true rfl⟩ ⟨Nat.le_refl _, Nat.le_refl _⟩ dX2_marksOf_3 (fun H locs hH => ?_)
  refine lv_iload C.hx C.hb dX2_marksOf_6 (lv_at hl 4 rfl) ?_
  refine w_ne0 (tgt := 25) C hf dX2_marksOf_8 (by decide) (fun hf => ?_) (fun hf => ?_)
  · exact j_X2_marksOf_25 C hn o_t hf hH (lv_sub hl [0, 1, 2, 3, 4, 5] rfl)
  · refine lv_iload_n C.hx C.hb dX2_marksOf_11 rfl (lv_at hl 2 rfl) ?_
    refine lv_iload_n C.hx C.hb dX2_marksOf_12 rfl (lv_at hl 3 rfl) ?_
    obtain ⟨x13, hc9, hf⟩ := cu_of hf
    refine r_callSi (rest := []) C hH hl (m_X2_isNear hn hc9) ML_RX2_74 MF_X2_isNear MS_X2_isNear rfl rfl (Nat.le_of_ble_eq_true rfl) ⟨Nat.le_of_ble_eq_true rfl, Nat.le_of_ble_eq_true rfl⟩ ⟨Nat.le_refl _, Nat.le_refl _⟩ dX2_marksOf_13 (fun H locs hH => ?_)
    refine w_eq0 (tgt := 25) C hf dX2_marksOf_16 (by decide) (fun hf => ?_) (fun hf => ?_)
    · exact j_X2_marksOf_25 C hn o_t hf hH (lv_sub hl [0, 1, 2, 3, 4, 5] rfl)
    · refine lv_sipush (v := Int32.ofInt 1023) C.hx C.hb dX2_marksOf_19 (by decide) ?_
      refine lv_goto (tgt := 26) C.hx C.hb dX2_marksOf_22 (by decide) ?_
      exact j_X2_marksOf_26 C hn o_t hf hH (lv_sub hl [0, 1, 2, 3, 4, 5] rfl)
-- HeavierByHand$RowTable.inAll
def fn_X2_inAll (t : Nat) (a1 : Int) (a2 : Int) (a3 : Int) (a4 : Int) (a5 : Int) (M : Mem) : Option (Int × Mem) :=
  cl (fn_X2_marksOf t a1 a2 a3 a4 a5 M) fun x8 M8 => cEq x8 0 (some (0, M8)) (some ((andI (xorI x8 (-1)) 1023), M8))
set_option maxRecDepth 100000 in
set_option maxHeartbeats 4000000 in
theorem m_X2_inAll {E : EE} {l : Launch} {n : Nat} {t : Nat} {a1 : Int} {a2 : Int} {a3 : Int} {a4 : Int} {a5 : Int} {M : Mem} {o : (Int × Mem)} (hn : nfull n) (o_t : ob n t 2) (hf : fn_X2_inAll t a1 a2 a3 a4 a5 M = some o) : CT E l yX2_inAll cX2_inAll 7 (some .int) 7 195 0 0 [.ref (eb E + t), i3 a1, i3 a2, i3 a3, i3 a4, i3 a5] n (zf n) M (some (i3 o.1)) n (zf n) o.2 := by
  refine CT_of PN_RX2 (Nat.le_of_ble_eq_true rfl) ?_
  intro p e s m args below meth c C hH ls hl
  replace C : Cx E p s m args meth c cX2_inAll 7 RX2 (some .int) n "inAll" := C
  have hl : lv_has ls 7 [(0, .ref (eb E + t)), (1, i3 a1), (2, i3 a2), (3, i3 a3), (4, i3 a4), (5, i3 a5)] := hl
  unfold fn_X2_inAll at hf
  refine lv_aload_n C.hx C.hb dX2_inAll_0 rfl (lv_at hl 0 rfl) ?_
  refine lv_iload_n C.hx C.hb dX2_inAll_1 rfl (lv_at hl 1 rfl) ?_
  refine lv_iload_n C.hx C.hb dX2_inAll_2 rfl (lv_at hl 2 rfl) ?_
  refine lv_iload_n C.hx C.hb dX2_inAll_3 rfl (lv_at hl 3 rfl) ?_
  refine lv_iload C.hx C.hb dX2_inAll_4 (lv_at hl 4 rfl) ?_
  refine lv_iload C.hx C.hb dX2_inAll_6 (lv_at hl 5 rfl) ?_
  obtain ⟨x8, M8, hc9, hf⟩ := cl_of hf
  refine r_callVi (rest := []) C hH hl o_t (by decide) rfl (m_X2_marksOf hn o_t hc9) ML_RX2_70 MF_X2_marksOf MI_X2_marksOf rfl rfl (Nat.le_of_ble_eq_true rfl) ⟨Nat.le_of_ble_eq_true rfl, Nat.le_of_ble_eq_true rfl⟩ ⟨Nat.le_refl _, Nat.le_refl _⟩ dX2_inAll_8 (fun H locs hH => ?_)
  refine lv_istore (lv' := [(6, i3 x8), (0, .ref (eb E + t)), (1, i3 a1), (2, i3 a2), (3, i3 a3), (4, i3 a4), (5, i3 a5)]) C.hx C.hb dX2_inAll_11 hl (by decide) rfl (fun ls hl => ?_)
  refine lv_iload C.hx C.hb dX2_inAll_13 (lv_at hl 0 rfl) ?_
  refine w_ne0 (tgt := 22) C hf dX2_inAll_15 (by decide) (fun hf => ?_) (fun hf => ?_)
  · refine lv_iload C.hx C.hb dX2_inAll_22 (lv_at hl 0 rfl) ?_
    refine lv_iconst (v := Int32.ofInt (-1)) C.hx C.hb dX2_inAll_24 rfl ?_
    refine w_ixor C dX2_inAll_25 ?_
    refine lv_sipush (v := Int32.ofInt 1023) C.hx C.hb dX2_inAll_26 (by decide) ?_
    refine w_iand C dX2_inAll_29 ?_
    cases hf
    exact w_iret C hH dX2_inAll_30
  · refine lv_iconst (v := Int32.ofInt 0) C.hx C.hb dX2_inAll_18 rfl ?_
    refine lv_goto (tgt := 30) C.hx C.hb dX2_inAll_19 (by decide) ?_
    cases hf
    exact w_iret C hH dX2_inAll_30
-- HeavierByHand$RowTable.inSome
def fn_X2_inSome (t : Nat) (a1 : Int) (a2 : Int) (a3 : Int) (a4 : Int) (a5 : Int) (M : Mem) : Option (Int × Mem) :=
  cl (fn_X2_marksOf t a1 a2 a3 a4 a5 M) fun x8 M8 => some ((andI (shrI x8 10) 1023), M8)
set_option maxRecDepth 100000 in
set_option maxHeartbeats 4000000 in
theorem m_X2_inSome {E : EE} {l : Launch} {n : Nat} {t : Nat} {a1 : Int} {a2 : Int} {a3 : Int} {a4 : Int} {a5 : Int} {M : Mem} {o : (Int × Mem)} (hn : nfull n) (o_t : ob n t 2) (hf : fn_X2_inSome t a1 a2 a3 a4 a5 M = some o) : CT E l yX2_inSome cX2_inSome 6 (some .int) 7 195 0 0 [.ref (eb E + t), i3 a1, i3 a2, i3 a3, i3 a4, i3 a5] n (zf n) M (some (i3 o.1)) n (zf n) o.2 := by
  refine CT_of PN_RX2 (Nat.le_of_ble_eq_true rfl) ?_
  intro p e s m args below meth c C hH ls hl
  replace C : Cx E p s m args meth c cX2_inSome 6 RX2 (some .int) n "inSome" := C
  have hl : lv_has ls 6 [(0, .ref (eb E + t)), (1, i3 a1), (2, i3 a2), (3, i3 a3), (4, i3 a4), (5, i3 a5)] := hl
  unfold fn_X2_inSome at hf
  refine lv_aload_n C.hx C.hb dX2_inSome_0 rfl (lv_at hl 0 rfl) ?_
  refine lv_iload_n C.hx C.hb dX2_inSome_1 rfl (lv_at hl 1 rfl) ?_
  refine lv_iload_n C.hx C.hb dX2_inSome_2 rfl (lv_at hl 2 rfl) ?_
  refine lv_iload_n C.hx C.hb dX2_inSome_3 rfl (lv_at hl 3 rfl) ?_
  refine lv_iload C.hx C.hb dX2_inSome_4 (lv_at hl 4 rfl) ?_
  refine lv_iload C.hx C.hb dX2_inSome_6 (lv_at hl 5 rfl) ?_
  obtain ⟨x8, M8, hc9, hf⟩ := cl_of hf
  refine r_callVi (rest := []) C hH hl o_t (by decide) rfl (m_X2_marksOf hn o_t hc9) ML_RX2_70 MF_X2_marksOf MI_X2_marksOf rfl rfl (Nat.le_of_ble_eq_true rfl) ⟨Nat.le_of_ble_eq_true rfl, Nat.le_of_ble_eq_true rfl⟩ ⟨Nat.le_refl _, Nat.le_refl _⟩ dX2_inSome_8 (fun H locs hH => ?_)
  refine lv_bipush (v := Int32.ofInt 10) C.hx C.hb dX2_inSome_11 (by decide) ?_
  refine w_ishr C dX2_inSome_13 ?_
  refine lv_sipush (v := Int32.ofInt 1023) C.hx C.hb dX2_inSome_14 (by decide) ?_
  refine w_iand C dX2_inSome_17 ?_
  cases hf
  exact w_iret C hH dX2_inSome_18
