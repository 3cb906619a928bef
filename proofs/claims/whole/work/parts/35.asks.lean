section RTN
variable {p : Program} {l : Launch} {e : Env} {R : Room} {s : State} {m : MethodId} {args : Array Value} {below : List Frame} {meth : Method} {c : Code} {H : Heap} {locs : List Loc} {cells slots : Nat}
variable {cc : ByteArray} {nL : Nat} {own nm0 : String} {n0 : Nat} {E : EE} {n : Nat} {M : Mem} {pc : Nat} {ls : Array Slot}
theorem w_iretN (C : Cx E p s m args meth c cc nL own (some .int) n0 nm0) (hn : nfull n) (hH : ST E s n (zf n) M H locs) {x : Int} (hd : decode cc pc = .ok (.ireturn, 1)) : W p l e R s m args below meth c H locs cells slots (MQ below (QC E (some (i3 x)) (nOf M) (zf (nOf M)) M) args s cells slots (fr E)) (F0 m pc ls [i3 x]) := by
  rw [hH.1.2.2.2 hn]; exact w_iret C hH hd
theorem w_lretN (C : Cx E p s m args meth c cc nL own (some .long) n0 nm0) (hn : nfull n) (hH : ST E s n (zf n) M H locs) {x : Int} (hd : decode cc pc = .ok (.lreturn, 1)) : W p l e R s m args below meth c H locs cells slots (MQ below (QC E (some (l6 x)) (nOf M) (zf (nOf M)) M) args s cells slots (fr E)) (F0 m pc ls [l6 x]) := by
  rw [hH.1.2.2.2 hn]; exact w_lret C hH hd
end RTN
-- X10_mustBeWashed
def fn_X10_mustBeWashed_L47 (x8 : Int) (v4_42 : Int) (rec47 : Int → Mem → Option (Int × Mem)) (v5_47 : Int) (M47 : Mem) : Option (Int × Mem) :=
  cLt v5_47 (M47 (0 + 1) 1) (cl (fn_X2_total 102 v5_47 v4_42 (M47 (0 + 1) 10) x8 x8 M47) fun x73 M73 => dLt 0 x73 (some (0, M73)) (nm (v5_47 + 1) fun v5_83 => rec47 v5_83 M73)) (some (1, M47))
def fn_X10_mustBeWashed (a1 : Int) (M : Mem) : Option (Int × Mem) :=
  rd M ((0 + 1) + 5) 20 a1 fun x8 => cLt 12 x8 (some ((-1), M)) (cv (fn_X10_tableOfAll M) fun M19 => ck (102 < nOf M19) <| rd M19 ((0 + 1) + 3) 20 a1 fun x31 => rd M19 ((0 + 1) + 2) 20 a1 fun x40 => nm ((x31 - x40)) fun v4_42 => lq2 (fn_X10_mustBeWashed_L47 x8 v4_42) FU 0 M19)
set_option maxRecDepth 100000 in
set_option maxHeartbeats 4000000 in
theorem l_X10_mustBeWashed_47 {p : Program} {l : Launch} {e : Env} {s : State} {m : MethodId} {args : Array Value} {below : List Frame} {meth : Method} {c : Code} {E : EE} {n n0 : Nat} {o : (Int × Mem)} {x8 : Int} {v4_42 : Int} (C : Cx E p s m args meth c cX10_mustBeWashed 6 RX10 (some .int) n0 "mustBeWashed") (hn : nfull n) (o_T102 : ob n 102 2) : ∀ (k : Nat) (v5_47 : Int) (M47 : Mem) (H : Heap) (locs : List Loc) (ls : Array Slot), lq2 (fn_X10_mustBeWashed_L47 x8 v4_42) k v5_47 M47 = some o → ST E s n (zf n) M47 H locs → lv_has ls 6 [(0, .ref (eb E + 0)), (2, i3 x8), (3, .ref (eb E + 102)), (4, i3 v4_42), (5, i3 v5_47)] → W p l e { frames := 7, cells := 4, slots := 47057, locals := 221 } s m args below meth c H locs 4 47057 (MQ below (QC E (some (i3 o.1)) (nOf o.2) (zf (nOf o.2)) o.2) args s 4 47057 (fr E)) (F0 m 47 ls []) := by
  intro k
  induction k with
  | zero => intro v5_47 M47 H locs ls hf; cases hf
  | succ k ih =>
    intro v5_47 M47 H locs ls hf hH hl
    have h_rec47 : ∀ {v5_47 : Int} {M47 : Mem} {H : Heap} {locs : List Loc} {ls : Array Slot}, lq2 (fn_X10_mustBeWashed_L47 x8 v4_42) k v5_47 M47 = some o → ST E s n (zf n) M47 H locs → lv_has ls 6 [(0, .ref (eb E + 0)), (2, i3 x8), (3, .ref (eb E + 102)), (4, i3 v4_42), (5, i3 v5_47)] → W p l e { frames := 7, cells := 4, slots := 47057, locals := 221 } s m args below meth c H locs 4 47057 (MQ below (QC E (some (i3 o.1)) (nOf o.2) (zf (nOf o.2)) o.2) args s 4 47057 (fr E)) (F0 m 47 ls []) := fun {v5_47} {M47} {H} {locs} {ls} a b c => ih v5_47 M47 H locs ls a b c
    replace hf : fn_X10_mustBeWashed_L47 x8 v4_42 (lq2 (fn_X10_mustBeWashed_L47 x8 v4_42) k) v5_47 M47 = some o := hf
    generalize lq2 (fn_X10_mustBeWashed_L47 x8 v4_42) k = rec47 at hf h_rec47
    unfold fn_X10_mustBeWashed_L47 at hf
    refine lv_iload C.hx C.hb dX10_mustBeWashed_47 (lv_at hl 4 rfl) ?_
    refine lv_aload_n C.hx C.hb dX10_mustBeWashed_49 rfl (lv_at hl 0 rfl) ?_
    refine g_ref (off := 1) C hH (ob0 hn) (by decide) rfl rfl FL_RX10_10 dX10_mustBeWashed_50 ?_
    refine g_int C hH (ly (i := 0) (off := 1) (k := 4) hn (ob0 hn) rfl rfl rfl) (by decide) rfl FL_RX10_65 dX10_mustBeWashed_53 ?_
    refine w_ge (tgt := 89) C hf dX10_mustBeWashed_56 (by decide) (fun hf => ?_) (fun hf => ?_)
    · refine lv_iconst (v := Int32.ofInt 1) C.hx C.hb dX10_mustBeWashed_89 rfl ?_
      cases hf
      exact w_iretN C hn hH dX10_mustBeWashed_90
    · refine lv_aload_n C.hx C.hb dX10_mustBeWashed_59 rfl (lv_at hl 2 rfl) ?_
      refine lv_iload C.hx C.hb dX10_mustBeWashed_60 (lv_at hl 4 rfl) ?_
      refine lv_iload C.hx C.hb dX10_mustBeWashed_62 (lv_at hl 3 rfl) ?_
      refine lv_aload_n C.hx C.hb dX10_mustBeWashed_64 rfl (lv_at hl 0 rfl) ?_
      refine g_ref (off := 1) C hH (ob0 hn) (by decide) rfl rfl FL_RX10_10 dX10_mustBeWashed_65 ?_
      refine g_int C hH (ly (i := 0) (off := 1) (k := 4) hn (ob0 hn) rfl rfl rfl) (by decide) rfl FL_RX10_87 dX10_mustBeWashed_68 ?_
      refine lv_iload_n C.hx C.hb dX10_mustBeWashed_71 rfl (lv_at hl 1 rfl) ?_
      refine lv_iload_n C.hx C.hb dX10_mustBeWashed_72 rfl (lv_at hl 1 rfl) ?_
      obtain ⟨x73, M73, hc9, hf⟩ := cl_of hf
      refine r_callVi (rest := []) C hH hl o_T102 (by decide) rfl (m_X2_total hn o_T102 hc9) ML_RX10_202 MF_X2_total MI_X2_total rfl rfl (Nat.le_of_ble_eq_true rfl) ⟨Nat.le_of_ble_eq_true rfl, Nat.le_of_ble_eq_true rfl⟩ ⟨Nat.le_of_ble_eq_true rfl, Nat.le_of_ble_eq_true rfl⟩ dX10_mustBeWashed_73 (fun H locs hH => ?_)
      refine lv_lconst (v := Int64.ofInt 0) C.hx C.hb dX10_mustBeWashed_76 (by decide) ?_
      refine w_lle (tgt := 83) C hf dX10_mustBeWashed_77 dX10_mustBeWashed_78 (by decide) (fun hf => ?_) (fun hf => ?_)
      · refine r_iinc (k := 4) (lv' := fun v => [(5, i3 v), (0, .ref (eb E + 0)), (2, i3 x8), (3, .ref (eb E + 102)), (4, i3 v4_42)]) C hf dX10_mustBeWashed_83 hl rfl (by decide) (fun _ => rfl) (fun v5_83 ls hf hl => ?_)
        refine lv_goto (tgt := 47) C.hx C.hb dX10_mustBeWashed_86 (by decide) ?_
        exact h_rec47 hf hH (lv_sub hl [1, 2, 3, 4, 0] rfl)
      · refine lv_iconst (v := Int32.ofInt 0) C.hx C.hb dX10_mustBeWashed_81 rfl ?_
        cases hf
        exact w_iretN C hn hH dX10_mustBeWashed_82
set_option maxRecDepth 100000 in
set_option maxHeartbeats 4000000 in
theorem m_X10_mustBeWashed {E : EE} {l : Launch} {n : Nat} {a1 : Int} {M : Mem} {o : (Int × Mem)} (hn : nfull n) (hf : fn_X10_mustBeWashed a1 M = some o) : CT E l yX10_mustBeWashed cX10_mustBeWashed 6 (some .int) 7 221 4 47057 [.ref (eb E + 0), i3 a1] n (zf n) M (some (i3 o.1)) (nOf o.2) (zf (nOf o.2)) o.2 := by
  refine CT_of PN_RX10 (Nat.le_of_ble_eq_true rfl) ?_
  intro p e s m args below meth c C hH ls hl
  replace C : Cx E p s m args meth c cX10_mustBeWashed 6 RX10 (some .int) n "mustBeWashed" := C
  have hl : lv_has ls 6 [(0, .ref (eb E + 0)), (1, i3 a1)] := hl
  unfold fn_X10_mustBeWashed at hf
  refine lv_aload_n C.hx C.hb dX10_mustBeWashed_0 rfl (lv_at hl 0 rfl) ?_
  refine g_ref (off := 1) C hH (ob0 hn) (by decide) rfl rfl FL_RX10_10 dX10_mustBeWashed_1 ?_
  refine g_ref (off := 5) C hH (ly (i := 0) (off := 1) (k := 4) hn (ob0 hn) rfl rfl rfl) (by decide) rfl rfl FL_RX10_180 dX10_mustBeWashed_4 ?_
  refine lv_iload_n C.hx C.hb dX10_mustBeWashed_7 rfl (lv_at hl 1 rfl) ?_
  refine r_iald C hH (ly (i := 5) (off := 5) (k := 12) hn (ly (i := 0) (off := 1) (k := 4) hn (ob0 hn) rfl rfl rfl) rfl rfl rfl) (lyn (i := 5) (off := 5) (N := 19) hn (ly (i := 0) (off := 1) (k := 4) hn (ob0 hn) rfl rfl rfl) rfl rfl rfl) hf dX10_mustBeWashed_8 (fun x8 hf => ?_)
  refine lv_istore_n (lv' := [(2, i3 x8), (0, .ref (eb E + 0)), (1, i3 a1)]) C.hx C.hb dX10_mustBeWashed_9 rfl hl (by decide) rfl (fun ls hl => ?_)
  refine lv_iload_n C.hx C.hb dX10_mustBeWashed_10 rfl (lv_at hl 0 rfl) ?_
  refine lv_bipush (v := Int32.ofInt 12) C.hx C.hb dX10_mustBeWashed_11 (by decide) ?_
  refine w_le (tgt := 18) C hf dX10_mustBeWashed_13 (by decide) (fun hf => ?_) (fun hf => ?_)
  · refine lv_aload_n C.hx C.hb dX10_mustBeWashed_18 rfl (lv_at hl 1 rfl) ?_
    obtain ⟨M19, hc9, hf⟩ := cv_of hf
    obtain ⟨hT9, hf⟩ := ck_of hf
    refine w_callV2 (k := 0) (ci := 10) (rest := []) C hH hl (ob0 hn) (by decide) rfl (m_X10_tableOfAll hn hc9) ML_RX10_198 MF_X10_tableOfAll MI_X10_tableOfAll rfl rfl (Nat.le_of_ble_eq_true rfl) ⟨Nat.le_of_ble_eq_true rfl, Nat.le_of_ble_eq_true rfl⟩ ⟨Nat.le_of_ble_eq_true rfl, Nat.le_of_ble_eq_true rfl⟩ dX10_mustBeWashed_19 (fun H locs hH => ?_)
    have hn := nOf_full M19
    generalize nOf M19 = n at hH hn hT9
    have o_T102 : ob n 102 2 := ⟨by decide +kernel, by omega⟩
    refine lv_astore_n (lv' := [(3, .ref (eb E + 102)), (2, i3 x8), (0, .ref (eb E + 0)), (1, i3 a1)]) C.hx C.hb dX10_mustBeWashed_22 rfl hl (by decide) rfl (fun ls hl => ?_)
    refine lv_aload_n C.hx C.hb dX10_mustBeWashed_23 rfl (lv_at hl 2 rfl) ?_
    refine g_ref (off := 1) C hH (ob0 hn) (by decide) rfl rfl FL_RX10_10 dX10_mustBeWashed_24 ?_
    refine g_ref (off := 3) C hH (ly (i := 0) (off := 1) (k := 4) hn (ob0 hn) rfl rfl rfl) (by decide) rfl rfl FL_RX10_174 dX10_mustBeWashed_27 ?_
    refine lv_iload_n C.hx C.hb dX10_mustBeWashed_30 rfl (lv_at hl 3 rfl) ?_
    refine r_iald C hH (ly (i := 3) (off := 3) (k := 12) hn (ly (i := 0) (off := 1) (k := 4) hn (ob0 hn) rfl rfl rfl) rfl rfl rfl) (lyn (i := 3) (off := 3) (N := 19) hn (ly (i := 0) (off := 1) (k := 4) hn (ob0 hn) rfl rfl rfl) rfl rfl rfl) hf dX10_mustBeWashed_31 (fun x31 hf => ?_)
    refine lv_aload_n C.hx C.hb dX10_mustBeWashed_32 rfl (lv_at hl 2 rfl) ?_
    refine g_ref (off := 1) C hH (ob0 hn) (by decide) rfl rfl FL_RX10_10 dX10_mustBeWashed_33 ?_
    refine g_ref (off := 2) C hH (ly (i := 0) (off := 1) (k := 4) hn (ob0 hn) rfl rfl rfl) (by decide) rfl rfl FL_RX10_183 dX10_mustBeWashed_36 ?_
    refine lv_iload_n C.hx C.hb dX10_mustBeWashed_39 rfl (lv_at hl 3 rfl) ?_
    refine r_iald C hH (ly (i := 2) (off := 2) (k := 12) hn (ly (i := 0) (off := 1) (k := 4) hn (ob0 hn) rfl rfl rfl) rfl rfl rfl) (lyn (i := 2) (off := 2) (N := 19) hn (ly (i := 0) (off := 1) (k := 4) hn (ob0 hn) rfl rfl rfl) rfl rfl rfl) hf dX10_mustBeWashed_40 (fun x40 hf => ?_)
    refine w_isub C dX10_mustBeWashed_41 ?_
    refine r_nm hf (fun v4_42 hf => ?_)
    refine lv_istore (lv' := [(4, i3 v4_42), (3, .ref (eb E + 102)), (2, i3 x8), (0, .ref (eb E + 0)), (1, i3 a1)]) C.hx C.hb dX10_mustBeWashed_42 hl (by decide) rfl (fun ls hl => ?_)
    refine lv_iconst (v := Int32.ofInt 0) C.hx C.hb dX10_mustBeWashed_44 rfl ?_
    refine lv_istore (lv' := [(5, i3 0), (4, i3 v4_42), (3, .ref (eb E + 102)), (2, i3 x8), (0, .ref (eb E + 0)), (1, i3 a1)]) C.hx C.hb dX10_mustBeWashed_45 hl (by decide) rfl (fun ls hl => ?_)
    exact l_X10_mustBeWashed_47 C hn o_T102 FU _ _ _ _ _ hf hH (lv_sub hl [4, 3, 2, 1, 0] rfl)
  · refine lv_iconst (v := Int32.ofInt (-1)) C.hx C.hb dX10_mustBeWashed_16 rfl ?_
    cases hf
    refine W.widen (k := 4) (n := 47057) (Nat.le_of_ble_eq_true rfl) (Nat.le_of_ble_eq_true rfl) ?_; exact w_iretN C hn hH dX10_mustBeWashed_17
-- X10_rows
def fn_X10_rows (a1 : Int) (a2 : Int) (a3 : Int) (a4 : Int) (M : Mem) : Option (Int × Mem) :=
  cu (fn_X10_isRowQuestion 0 a1 a2 a3 a4 M) fun x6 => cEq x6 0 (some ((-1), M)) (cv (fn_X10_tableOfAll M) fun M17 => ck (102 < nOf M17) <| cl (fn_X2_total 102 a1 a2 (M17 (0 + 1) 10) a3 a4 M17) fun x32 M32 => some (x32, M32))
set_option maxRecDepth 100000 in
set_option maxHeartbeats 4000000 in
theorem m_X10_rows {E : EE} {l : Launch} {n : Nat} {a1 : Int} {a2 : Int} {a3 : Int} {a4 : Int} {M : Mem} {o : (Int × Mem)} (hn : nfull n) (hf : fn_X10_rows a1 a2 a3 a4 M = some o) : CT E l yX10_rows cX10_rows 5 (some .long) 7 221 4 47057 [.ref (eb E + 0), i3 a1, i3 a2, i3 a3, i3 a4] n (zf n) M (some (l6 o.1)) (nOf o.2) (zf (nOf o.2)) o.2 := by
  refine CT_of PN_RX10 (Nat.le_of_ble_eq_true rfl) ?_
  intro p e s m args below meth c C hH ls hl
  replace C : Cx E p s m args meth c cX10_rows 5 RX10 (some .long) n "rows" := C
  have hl : lv_has ls 5 [(0, .ref (eb E + 0)), (1, i3 a1), (2, i3 a2), (3, i3 a3), (4, i3 a4)] := hl
  unfold fn_X10_rows at hf
  refine lv_aload_n C.hx C.hb dX10_rows_0 rfl (lv_at hl 0 rfl) ?_
  refine lv_iload_n C.hx C.hb dX10_rows_1 rfl (lv_at hl 1 rfl) ?_
  refine lv_iload_n C.hx C.hb dX10_rows_2 rfl (lv_at hl 2 rfl) ?_
  refine lv_iload_n C.hx C.hb dX10_rows_3 rfl (lv_at hl 3 rfl) ?_
  refine lv_iload C.hx C.hb dX10_rows_4 (lv_at hl 4 rfl) ?_
  obtain ⟨x6, hc9, hf⟩ := cu_of hf
  refine r_callVi (rest := []) C hH hl (ob0 hn) (by decide) rfl (m_X10_isRowQuestion hn (ob0 hn) hc9) ML_RX10_192 MF_X10_isRowQuestion MI_X10_isRowQuestion rfl rfl (Nat.le_of_ble_eq_true rfl) ⟨Nat.le_of_ble_eq_true rfl, Nat.le_of_ble_eq_true rfl⟩ ⟨Nat.le_of_ble_eq_true rfl, Nat.le_of_ble_eq_true rfl⟩ dX10_rows_6 (fun H locs hH => ?_)
  refine w_ne0 (tgt := 16) C hf dX10_rows_9 (by decide) (fun hf => ?_) (fun hf => ?_)
  · refine lv_aload_n C.hx C.hb dX10_rows_16 rfl (lv_at hl 0 rfl) ?_
    obtain ⟨M17, hc9, hf⟩ := cv_of hf
    obtain ⟨hT9, hf⟩ := ck_of hf
    refine w_callV2 (k := 0) (ci := 10) (rest := []) C hH hl (ob0 hn) (by decide) rfl (m_X10_tableOfAll hn hc9) ML_RX10_198 MF_X10_tableOfAll MI_X10_tableOfAll rfl rfl (Nat.le_of_ble_eq_true rfl) ⟨Nat.le_of_ble_eq_true rfl, Nat.le_of_ble_eq_true rfl⟩ ⟨Nat.le_of_ble_eq_true rfl, Nat.le_of_ble_eq_true rfl⟩ dX10_rows_17 (fun H locs hH => ?_)
    have hn := nOf_full M17
    generalize nOf M17 = n at hH hn hT9
    have o_T102 : ob n 102 2 := ⟨by decide +kernel, by omega⟩
    refine lv_iload_n C.hx C.hb dX10_rows_20 rfl (lv_at hl 1 rfl) ?_
    refine lv_iload_n C.hx C.hb dX10_rows_21 rfl (lv_at hl 2 rfl) ?_
    refine lv_aload_n C.hx C.hb dX10_rows_22 rfl (lv_at hl 0 rfl) ?_
    refine g_ref (off := 1) C hH (ob0 hn) (by decide) rfl rfl FL_RX10_10 dX10_rows_23 ?_
    refine g_int C hH (ly (i := 0) (off := 1) (k := 4) hn (ob0 hn) rfl rfl rfl) (by decide) rfl FL_RX10_87 dX10_rows_26 ?_
    refine lv_iload_n C.hx C.hb dX10_rows_29 rfl (lv_at hl 3 rfl) ?_
    refine lv_iload C.hx C.hb dX10_rows_30 (lv_at hl 4 rfl) ?_
    obtain ⟨x32, M32, hc9, hf⟩ := cl_of hf
    refine r_callVi (rest := []) C hH hl o_T102 (by decide) rfl (m_X2_total hn o_T102 hc9) ML_RX10_202 MF_X2_total MI_X2_total rfl rfl (Nat.le_of_ble_eq_true rfl) ⟨Nat.le_of_ble_eq_true rfl, Nat.le_of_ble_eq_true rfl⟩ ⟨Nat.le_of_ble_eq_true rfl, Nat.le_of_ble_eq_true rfl⟩ dX10_rows_32 (fun H locs hH => ?_)
    cases hf
    exact w_lretN C hn hH dX10_rows_35
  · refine r_ldc2 (x := (-1)) C KL_RX10_196 dX10_rows_12 ?_
    cases hf
    refine W.widen (k := 4) (n := 47057) (Nat.le_of_ble_eq_true rfl) (Nat.le_of_ble_eq_true rfl) ?_; exact w_lretN C hn hH dX10_rows_15
-- X10_row
def fn_X10_row (a1 : Int) (a2 : Int) (a3 : Int) (a4 : Int) (a5 : Int) (M : Mem) : Option (Int × Mem) :=
  cu (fn_X10_isRowQuestion 0 a1 a2 a3 a4 M) fun x6 => cEq x6 0 (some ((-1), M)) (cv (fn_X10_tableOfAll M) fun M15 => ck (102 < nOf M15) <| cl (fn_X2_shortest 102 a1 a2 (M15 (0 + 1) 10) a3 a4 M15) fun x34 M34 => cEq a5 (-1) (some (x34, M34)) (cEq x34 (-1) (some (x34, M34)) (cu (fn_X10_isWithin a5 0 (x34 - 1) M34) fun x61 => cEq x61 0 (some ((-1), M34)) (cl (fn_X2_handOfFirst 102 a1 a2 (M34 (0 + 1) 10) x34 a5 M34) fun x82 M82 => some (x82, M82)))))
set_option maxRecDepth 100000 in
set_option maxHeartbeats 4000000 in
theorem m_X10_row {E : EE} {l : Launch} {n : Nat} {a1 : Int} {a2 : Int} {a3 : Int} {a4 : Int} {a5 : Int} {M : Mem} {o : (Int × Mem)} (hn : nfull n) (hf : fn_X10_row a1 a2 a3 a4 a5 M = some o) : CT E l yX10_row cX10_row 8 (some .int) 7 221 4 47057 [.ref (eb E + 0), i3 a1, i3 a2, i3 a3, i3 a4, i3 a5] n (zf n) M (some (i3 o.1)) (nOf o.2) (zf (nOf o.2)) o.2 := by
  refine CT_of PN_RX10 (Nat.le_of_ble_eq_true rfl) ?_
  intro p e s m args below meth c C hH ls hl
  replace C : Cx E p s m args meth c cX10_row 8 RX10 (some .int) n "row" := C
  have hl : lv_has ls 8 [(0, .ref (eb E + 0)), (1, i3 a1), (2, i3 a2), (3, i3 a3), (4, i3 a4), (5, i3 a5)] := hl
  unfold fn_X10_row at hf
  refine lv_aload_n C.hx C.hb dX10_row_0 rfl (lv_at hl 0 rfl) ?_
  refine lv_iload_n C.hx C.hb dX10_row_1 rfl (lv_at hl 1 rfl) ?_
  refine lv_iload_n C.hx C.hb dX10_row_2 rfl (lv_at hl 2 rfl) ?_
  refine lv_iload_n C.hx C.hb dX10_row_3 rfl (lv_at hl 3 rfl) ?_
  refine lv_iload C.hx C.hb dX10_row_4 (lv_at hl 4 rfl) ?_
  obtain ⟨x6, hc9, hf⟩ := cu_of hf
  refine r_callVi (rest := []) C hH hl (ob0 hn) (by decide) rfl (m_X10_isRowQuestion hn (ob0 hn) hc9) ML_RX10_192 MF_X10_isRowQuestion MI_X10_isRowQuestion rfl rfl (Nat.le_of_ble_eq_true rfl) ⟨Nat.le_of_ble_eq_true rfl, Nat.le_of_ble_eq_true rfl⟩ ⟨Nat.le_of_ble_eq_true rfl, Nat.le_of_ble_eq_true rfl⟩ dX10_row_6 (fun H locs hH => ?_)
  refine w_ne0 (tgt := 14) C hf dX10_row_9 (by decide) (fun hf => ?_) (fun hf => ?_)
  · refine lv_aload_n C.hx C.hb dX10_row_14 rfl (lv_at hl 0 rfl) ?_
    obtain ⟨M15, hc9, hf⟩ := cv_of hf
    obtain ⟨hT9, hf⟩ := ck_of hf
    refine w_callV2 (k := 0) (ci := 10) (rest := []) C hH hl (ob0 hn) (by decide) rfl (m_X10_tableOfAll hn hc9) ML_RX10_198 MF_X10_tableOfAll MI_X10_tableOfAll rfl rfl (Nat.le_of_ble_eq_true rfl) ⟨Nat.le_of_ble_eq_true rfl, Nat.le_of_ble_eq_true rfl⟩ ⟨Nat.le_of_ble_eq_true rfl, Nat.le_of_ble_eq_true rfl⟩ dX10_row_15 (fun H locs hH => ?_)
    have hn := nOf_full M15
    generalize nOf M15 = n at hH hn hT9
    have o_T102 : ob n 102 2 := ⟨by decide +kernel, by omega⟩
    refine lv_astore (lv' := [(6, .ref (eb E + 102)), (0, .ref (eb E + 0)), (1, i3 a1), (2, i3 a2), (3, i3 a3), (4, i3 a4), (5, i3 a5)]) C.hx C.hb dX10_row_18 hl (by decide) rfl (fun ls hl => ?_)
    refine lv_aload C.hx C.hb dX10_row_20 (lv_at hl 0 rfl) ?_
    refine lv_iload_n C.hx C.hb dX10_row_22 rfl (lv_at hl 2 rfl) ?_
    refine lv_iload_n C.hx C.hb dX10_row_23 rfl (lv_at hl 3 rfl) ?_
    refine lv_aload_n C.hx C.hb dX10_row_24 rfl (lv_at hl 1 rfl) ?_
    refine g_ref (off := 1) C hH (ob0 hn) (by decide) rfl rfl FL_RX10_10 dX10_row_25 ?_
    refine g_int C hH (ly (i := 0) (off := 1) (k := 4) hn (ob0 hn) rfl rfl rfl) (by decide) rfl FL_RX10_87 dX10_row_28 ?_
    refine lv_iload_n C.hx C.hb dX10_row_31 rfl (lv_at hl 4 rfl) ?_
    refine lv_iload C.hx C.hb dX10_row_32 (lv_at hl 5 rfl) ?_
    obtain ⟨x34, M34, hc9, hf⟩ := cl_of hf
    refine r_callVi (rest := []) C hH hl o_T102 (by decide) rfl (m_X2_shortest hn o_T102 hc9) ML_RX10_208 MF_X2_shortest MI_X2_shortest rfl rfl (Nat.le_of_ble_eq_true rfl) ⟨Nat.le_of_ble_eq_true rfl, Nat.le_of_ble_eq_true rfl⟩ ⟨Nat.le_of_ble_eq_true rfl, Nat.le_of_ble_eq_true rfl⟩ dX10_row_34 (fun H locs hH => ?_)
    refine lv_istore (lv' := [(7, i3 x34), (6, .ref (eb E + 102)), (0, .ref (eb E + 0)), (1, i3 a1), (2, i3 a2), (3, i3 a3), (4, i3 a4), (5, i3 a5)]) C.hx C.hb dX10_row_37 hl (by decide) rfl (fun ls hl => ?_)
    refine lv_iload C.hx C.hb dX10_row_39 (lv_at hl 7 rfl) ?_
    refine lv_iconst (v := Int32.ofInt (-1)) C.hx C.hb dX10_row_41 rfl ?_
    refine w_eq (tgt := 51) C hf dX10_row_42 (by decide) (fun hf => ?_) (fun hf => ?_)
    · refine lv_iload C.hx C.hb dX10_row_51 (lv_at hl 0 rfl) ?_
      cases hf
      exact w_iretN C hn hH dX10_row_53
    · refine lv_iload C.hx C.hb dX10_row_45 (lv_at hl 0 rfl) ?_
      refine lv_iconst (v := Int32.ofInt (-1)) C.hx C.hb dX10_row_47 rfl ?_
      refine w_ne (tgt := 54) C hf dX10_row_48 (by decide) (fun hf => ?_) (fun hf => ?_)
      · refine lv_iload C.hx C.hb dX10_row_54 (lv_at hl 7 rfl) ?_
        refine lv_iconst (v := Int32.ofInt 0) C.hx C.hb dX10_row_56 rfl ?_
        refine lv_iload C.hx C.hb dX10_row_57 (lv_at hl 0 rfl) ?_
        refine lv_iconst (v := Int32.ofInt 1) C.hx C.hb dX10_row_59 rfl ?_
        refine w_isub C dX10_row_60 ?_
        obtain ⟨x61, hc9, hf⟩ := cu_of hf
        refine r_callSi (rest := []) C hH hl (m_X10_isWithin hn hc9) ML_RX10_61 MF_X10_isWithin MS_X10_isWithin rfl rfl (Nat.le_of_ble_eq_true rfl) ⟨Nat.le_of_ble_eq_true rfl, Nat.le_of_ble_eq_true rfl⟩ ⟨Nat.le_of_ble_eq_true rfl, Nat.le_of_ble_eq_true rfl⟩ dX10_row_61 (fun H locs hH => ?_)
        refine w_eq0 (tgt := 88) C hf dX10_row_64 (by decide) (fun hf => ?_) (fun hf => ?_)
        · refine lv_iconst (v := Int32.ofInt (-1)) C.hx C.hb dX10_row_88 rfl ?_
          cases hf
          exact w_iretN C hn hH dX10_row_89
        · refine lv_aload C.hx C.hb dX10_row_67 (lv_at hl 1 rfl) ?_
          refine lv_iload_n C.hx C.hb dX10_row_69 rfl (lv_at hl 3 rfl) ?_
          refine lv_iload_n C.hx C.hb dX10_row_70 rfl (lv_at hl 4 rfl) ?_
          refine lv_aload_n C.hx C.hb dX10_row_71 rfl (lv_at hl 2 rfl) ?_
          refine g_ref (off := 1) C hH (ob0 hn) (by decide) rfl rfl FL_RX10_10 dX10_row_72 ?_
          refine g_int C hH (ly (i := 0) (off := 1) (k := 4) hn (ob0 hn) rfl rfl rfl) (by decide) rfl FL_RX10_87 dX10_row_75 ?_
          refine lv_iload C.hx C.hb dX10_row_78 (lv_at hl 0 rfl) ?_
          refine lv_iload C.hx C.hb dX10_row_80 (lv_at hl 7 rfl) ?_
          obtain ⟨x82, M82, hc9, hf⟩ := cl_of hf
          refine r_callVi (rest := []) C hH hl o_T102 (by decide) rfl (m_X2_handOfFirst hn o_T102 hc9) ML_RX10_212 MF_X2_handOfFirst MI_X2_handOfFirst rfl rfl (Nat.le_of_ble_eq_true rfl) ⟨Nat.le_of_ble_eq_true rfl, Nat.le_of_ble_eq_true rfl⟩ ⟨Nat.le_of_ble_eq_true rfl, Nat.le_of_ble_eq_true rfl⟩ dX10_row_82 (fun H locs hH => ?_)
          refine lv_goto (tgt := 89) C.hx C.hb dX10_row_85 (by decide) ?_
          cases hf
          exact w_iretN C hn hH dX10_row_89
      · refine lv_iload C.hx C.hb dX10_row_51 (lv_at hl 0 rfl) ?_
        cases hf
        exact w_iretN C hn hH dX10_row_53
  · refine lv_iconst (v := Int32.ofInt (-1)) C.hx C.hb dX10_row_12 rfl ?_
    cases hf
    refine W.widen (k := 4) (n := 47057) (Nat.le_of_ble_eq_true rfl) (Nat.le_of_ble_eq_true rfl) ?_; exact w_iretN C hn hH dX10_row_13
-- X10_among
def fn_X10_among (a1 : Int) (a2 : Int) (a3 : Int) (a4 : Int) (a5 : Int) (M : Mem) : Option (Int × Mem) :=
  cu (fn_X10_isRowQuestion 0 a1 a2 a3 a4 M) fun x6 => cEq x6 0 (some ((-1), M)) (cv (fn_X10_tableOfAll M) fun M15 => ck (102 < nOf M15) <| cEq a5 0 (cl (fn_X2_inAll 102 a1 a2 (M15 (0 + 1) 10) a3 a4 M15) fun x59 M59 => some (x59, M59)) (cl (fn_X2_inSome 102 a1 a2 (M15 (0 + 1) 10) a3 a4 M15) fun x39 M39 => some (x39, M39)))
set_option maxRecDepth 100000 in
set_option maxHeartbeats 4000000 in
theorem m_X10_among {E : EE} {l : Launch} {n : Nat} {a1 : Int} {a2 : Int} {a3 : Int} {a4 : Int} {a5 : Int} {M : Mem} {o : (Int × Mem)} (hn : nfull n) (hf : fn_X10_among a1 a2 a3 a4 a5 M = some o) : CT E l yX10_among cX10_among 7 (some .int) 8 221 4 47057 [.ref (eb E + 0), i3 a1, i3 a2, i3 a3, i3 a4, i3 a5] n (zf n) M (some (i3 o.1)) (nOf o.2) (zf (nOf o.2)) o.2 := by
  refine CT_of PN_RX10 (Nat.le_of_ble_eq_true rfl) ?_
  intro p e s m args below meth c C hH ls hl
  replace C : Cx E p s m args meth c cX10_among 7 RX10 (some .int) n "among" := C
  have hl : lv_has ls 7 [(0, .ref (eb E + 0)), (1, i3 a1), (2, i3 a2), (3, i3 a3), (4, i3 a4), (5, i3 a5)] := hl
  unfold fn_X10_among at hf
  refine lv_aload_n C.hx C.hb dX10_among_0 rfl (lv_at hl 0 rfl) ?_
  refine lv_iload_n C.hx C.hb dX10_among_1 rfl (lv_at hl 1 rfl) ?_
  refine lv_iload_n C.hx C.hb dX10_among_2 rfl (lv_at hl 2 rfl) ?_
  refine lv_iload_n C.hx C.hb dX10_among_3 rfl (lv_at hl 3 rfl) ?_
  refine lv_iload C.hx C.hb dX10_among_4 (lv_at hl 4 rfl) ?_
  obtain ⟨x6, hc9, hf⟩ := cu_of hf
  refine r_callVi (rest := []) C hH hl (ob0 hn) (by decide) rfl (m_X10_isRowQuestion hn (ob0 hn) hc9) ML_RX10_192 MF_X10_isRowQuestion MI_X10_isRowQuestion rfl rfl (Nat.le_of_ble_eq_true rfl) ⟨Nat.le_of_ble_eq_true rfl, Nat.le_of_ble_eq_true rfl⟩ ⟨Nat.le_of_ble_eq_true rfl, Nat.le_of_ble_eq_true rfl⟩ dX10_among_6 (fun H locs hH => ?_)
  refine w_ne0 (tgt := 14) C hf dX10_among_9 (by decide) (fun hf => ?_) (fun hf => ?_)
  · refine lv_aload_n C.hx C.hb dX10_among_14 rfl (lv_at hl 0 rfl) ?_
    obtain ⟨M15, hc9, hf⟩ := cv_of hf
    obtain ⟨hT9, hf⟩ := ck_of hf
    refine w_callV2 (k := 0) (ci := 10) (rest := []) C hH hl (ob0 hn) (by decide) rfl (m_X10_tableOfAll hn hc9) ML_RX10_198 MF_X10_tableOfAll MI_X10_tableOfAll rfl rfl (Nat.le_of_ble_eq_true rfl) ⟨Nat.le_of_ble_eq_true rfl, Nat.le_of_ble_eq_true rfl⟩ ⟨Nat.le_of_ble_eq_true rfl, Nat.le_of_ble_eq_true rfl⟩ dX10_among_15 (fun H locs hH => ?_)
    have hn := nOf_full M15
    generalize nOf M15 = n at hH hn hT9
    have o_T102 : ob n 102 2 := ⟨by decide +kernel, by omega⟩
    refine lv_astore (lv' := [(6, .ref (eb E + 102)), (0, .ref (eb E + 0)), (1, i3 a1), (2, i3 a2), (3, i3 a3), (4, i3 a4), (5, i3 a5)]) C.hx C.hb dX10_among_18 hl (by decide) rfl (fun ls hl => ?_)
    refine lv_iload C.hx C.hb dX10_among_20 (lv_at hl 6 rfl) ?_
    refine w_eq0 (tgt := 45) C hf dX10_among_22 (by decide) (fun hf => ?_) (fun hf => ?_)
    · refine lv_aload C.hx C.hb dX10_among_45 (lv_at hl 0 rfl) ?_
      refine lv_iload_n C.hx C.hb dX10_among_47 rfl (lv_at hl 2 rfl) ?_
      refine lv_iload_n C.hx C.hb dX10_among_48 rfl (lv_at hl 3 rfl) ?_
      refine lv_aload_n C.hx C.hb dX10_among_49 rfl (lv_at hl 1 rfl) ?_
      refine g_ref (off := 1) C hH (ob0 hn) (by decide) rfl rfl FL_RX10_10 dX10_among_50 ?_
      refine g_int C hH (ly (i := 0) (off := 1) (k := 4) hn (ob0 hn) rfl rfl rfl) (by decide) rfl FL_RX10_87 dX10_among_53 ?_
      refine lv_iload_n C.hx C.hb dX10_among_56 rfl (lv_at hl 4 rfl) ?_
      refine lv_iload C.hx C.hb dX10_among_57 (lv_at hl 5 rfl) ?_
      obtain ⟨x59, M59, hc9, hf⟩ := cl_of hf
      refine r_callVi (rest := []) C hH hl o_T102 (by decide) rfl (m_X2_inAll hn o_T102 hc9) ML_RX10_218 MF_X2_inAll MI_X2_inAll rfl rfl (Nat.le_of_ble_eq_true rfl) ⟨Nat.le_of_ble_eq_true rfl, Nat.le_of_ble_eq_true rfl⟩ ⟨Nat.le_of_ble_eq_true rfl, Nat.le_of_ble_eq_true rfl⟩ dX10_among_59 (fun H locs hH => ?_)
      cases hf
      exact w_iretN C hn hH dX10_among_62
    · refine lv_aload C.hx C.hb dX10_among_25 (lv_at hl 0 rfl) ?_
      refine lv_iload_n C.hx C.hb dX10_among_27 rfl (lv_at hl 2 rfl) ?_
      refine lv_iload_n C.hx C.hb dX10_among_28 rfl (lv_at hl 3 rfl) ?_
      refine lv_aload_n C.hx C.hb dX10_among_29 rfl (lv_at hl 1 rfl) ?_
      refine g_ref (off := 1) C hH (ob0 hn) (by decide) rfl rfl FL_RX10_10 dX10_among_30 ?_
      refine g_int C hH (ly (i := 0) (off := 1) (k := 4) hn (ob0 hn) rfl rfl rfl) (by decide) rfl FL_RX10_87 dX10_among_33 ?_
      refine lv_iload_n C.hx C.hb dX10_among_36 rfl (lv_at hl 4 rfl) ?_
      refine lv_iload C.hx C.hb dX10_among_37 (lv_at hl 5 rfl) ?_
      obtain ⟨x39, M39, hc9, hf⟩ := cl_of hf
      refine r_callVi (rest := []) C hH hl o_T102 (by decide) rfl (m_X2_inSome hn o_T102 hc9) ML_RX10_215 MF_X2_inSome MI_X2_inSome rfl rfl (Nat.le_of_ble_eq_true rfl) ⟨Nat.le_of_ble_eq_true rfl, Nat.le_of_ble_eq_true rfl⟩ ⟨Nat.le_of_ble_eq_true rfl, Nat.le_of_ble_eq_true rfl⟩ dX10_among_39 (fun H locs hH => ?_)
      refine lv_goto (tgt := 62) C.hx C.hb dX10_among_42 (by decide) ?_
      cases hf
      exact w_iretN C hn hH dX10_among_62
  · refine lv_iconst (v := Int32.ofInt (-1)) C.hx C.hb dX10_among_12 rfl ?_
    cases hf
    refine W.widen (k := 4) (n := 47057) (Nat.le_of_ble_eq_true rfl) (Nat.le_of_ble_eq_true rfl) ?_; exact w_iretN C hn hH dX10_among_13
-- X10_odds
def fn_X10_odds_J157 (a4 : Int) (v7_157 : Int) (v9_157 : Int) (M157 : Mem) : Option (Int × Mem) :=
  dLt v9_157 1 (some ((-1), M157)) (cu (fn_X10_commonDivisor v7_157 v9_157 M157) fun x172 => dLt x172 1 (some ((-1), M157)) (cEq a4 0 (ck (R6 v7_157 ∧ R6 x172 ∧ x172 ≠ (0 : Int)) <| some ((v7_157.tdiv x172), M157)) (ck (R6 v9_157 ∧ R6 x172 ∧ x172 ≠ (0 : Int)) <| some ((v9_157.tdiv x172), M157))))
def fn_X10_odds_L56 (a2 : Int) (a3 : Int) (a4 : Int) (rec56 : Int → Int → Int → Mem → Option (Int × Mem)) (v11_56 : Int) (v9_56 : Int) (v7_56 : Int) (M56 : Mem) : Option (Int × Mem) :=
  cLt v11_56 (M56 (0 + 1) 16) (cLt v11_56 4 (rd M56 ((0 + 1) + 12) 4 v11_56 fun x83 => rd M56 ((0 + 1) + 13) 4 v11_56 fun x95 => cl (fn_X2_total 102 x83 x95 (M56 (0 + 1) 10) a2 a3 M56) fun x113 M113 => cl (fn_X2_total 106 x83 x95 (M113 (0 + 1) 10) a2 a3 M113) fun x137 M137 => nm ((v7_56 * (x113 - x137))) fun v7_142 => nm ((v9_56 * x113)) fun v9_149 => nm (v11_56 + 1) fun v11_151 => rec56 v11_151 v9_149 v7_142 M137) (fn_X10_odds_J157 a4 v7_56 v9_56 M56)) (fn_X10_odds_J157 a4 v7_56 v9_56 M56)
def fn_X10_odds (a1 : Int) (a2 : Int) (a3 : Int) (a4 : Int) (M : Mem) : Option (Int × Mem) :=
  cu (fn_X4_isHand (0 + 1) a1 M) fun x5 => cEq x5 0 (some ((-1), M)) (cu (fn_X10_areLengths a2 a3 4 M) fun x14 => cEq x14 0 (some ((-1), M)) (cu (fn_X10_isWithin a4 0 1 M) fun x24 => cEq x24 0 (some ((-1), M)) (cv (fn_X10_tableOfAll M) fun M35 => ck (102 < nOf M35) <| cv (fn_X10_tableWithout a1 M35) fun M42 => ck (106 < nOf M42) <| lq4 (fn_X10_odds_L56 a2 a3 a4) FU 0 1 1 M42)))
set_option maxRecDepth 100000 in
set_option maxHeartbeats 4000000 in
theorem j_X10_odds_157 {p : Program} {l : Launch} {e : Env} {s : State} {m : MethodId} {args : Array Value} {below : List Frame} {meth : Method} {c : Code} {E : EE} {n n0 : Nat} {o : (Int × Mem)} {a4 : Int} {v7_157 : Int} {v9_157 : Int} {M157 : Mem} {H : Heap} {locs : List Loc} {ls : Array Slot} (C : Cx E p s m args meth c cX10_odds 16 RX10 (some .long) n0 "odds") (hn : nfull n) (hf : fn_X10_odds_J157 a4 v7_157 v9_157 M157 = some o) (hH : ST E s n (zf n) M157 H locs) (hl : lv_has ls 16 [(4, i3 a4), (7, l6 v7_157), (9, l6 v9_157)]) : W p l e { frames := 7, cells := 8, slots := 53154, locals := 222 } s m args below meth c H locs 8 53154 (MQ below (QC E (some (l6 o.1)) (nOf o.2) (zf (nOf o.2)) o.2) args s 8 53154 (fr E)) (F0 m 157 ls []) := by
  unfold fn_X10_odds_J157 at hf
  refine lv_lload C.hx C.hb dX10_odds_157 (lv_at hl 2 rfl) ?_
  refine lv_lconst (v := Int64.ofInt 1) C.hx C.hb dX10_odds_159 (by decide) ?_
  refine w_lge (tgt := 168) C hf dX10_odds_160 dX10_odds_161 (by decide) (fun hf => ?_) (fun hf => ?_)
  · refine lv_lload C.hx C.hb dX10_odds_168 (lv_at hl 1 rfl) ?_
    refine lv_lload C.hx C.hb dX10_odds_170 (lv_at hl 2 rfl) ?_
    obtain ⟨x172, hc9, hf⟩ := cu_of hf
    refine r_callSi (rest := []) C hH hl (m_X10_commonDivisor hn hc9) ML_RX10_240 MF_X10_commonDivisor MS_X10_commonDivisor rfl rfl (Nat.le_of_ble_eq_true rfl) ⟨Nat.le_of_ble_eq_true rfl, Nat.le_of_ble_eq_true rfl⟩ ⟨Nat.le_of_ble_eq_true rfl, Nat.le_of_ble_eq_true rfl⟩ dX10_odds_172 (fun H locs hH => ?_)
    refine lv_lstore (lv' := [(11, l6 x172), (4, i3 a4), (7, l6 v7_157), (9, l6 v9_157)]) C.hx C.hb dX10_odds_175 hl (by decide) rfl (fun ls hl => ?_)
    refine lv_lload C.hx C.hb dX10_odds_177 (lv_at hl 0 rfl) ?_
    refine lv_lconst (v := Int64.ofInt 1) C.hx C.hb dX10_odds_179 (by decide) ?_
    refine w_lge (tgt := 188) C hf dX10_odds_180 dX10_odds_181 (by decide) (fun hf => ?_) (fun hf => ?_)
    · refine lv_iload C.hx C.hb dX10_odds_188 (lv_at hl 1 rfl) ?_
      refine w_ne0 (tgt := 198) C hf dX10_odds_190 (by decide) (fun hf => ?_) (fun hf => ?_)
      · refine lv_lload C.hx C.hb dX10_odds_198 (lv_at hl 3 rfl) ?_
        refine lv_lload C.hx C.hb dX10_odds_200 (lv_at hl 0 rfl) ?_
        obtain ⟨hR8, hf⟩ := ck_of hf
        refine w_ldiv C hR8 dX10_odds_202 ?_
        cases hf
        exact w_lretN C hn hH dX10_odds_203
      · refine lv_lload C.hx C.hb dX10_odds_193 (lv_at hl 2 rfl) ?_
        refine lv_goto (tgt := 200) C.hx C.hb dX10_odds_195 (by decide) ?_
        refine lv_lload C.hx C.hb dX10_odds_200 (lv_at hl 0 rfl) ?_
        obtain ⟨hR8, hf⟩ := ck_of hf
        refine w_ldiv C hR8 dX10_odds_202 ?_
        cases hf
        exact w_lretN C hn hH dX10_odds_203
    · refine r_ldc2 (x := (-1)) C KL_RX10_196 dX10_odds_184 ?_
      cases hf
      exact w_lretN C hn hH dX10_odds_187
  · refine r_ldc2 (x := (-1)) C KL_RX10_196 dX10_odds_164 ?_
    cases hf
    exact w_lretN C hn hH dX10_odds_167
set_option maxRecDepth 100000 in
set_option maxHeartbeats 4000000 in
theorem l_X10_odds_56 {p : Program} {l : Launch} {e : Env} {s : State} {m : MethodId} {args : Array Value} {below : List Frame} {meth : Method} {c : Code} {E : EE} {n n0 : Nat} {o : (Int × Mem)} {a2 : Int} {a3 : Int} {a4 : Int} (C : Cx E p s m args meth c cX10_odds 16 RX10 (some .long) n0 "odds") (hn : nfull n) (o_T102 : ob n 102 2) (o_T106 : ob n 106 2) : ∀ (k : Nat) (v11_56 : Int) (v9_56 : Int) (v7_56 : Int) (M56 : Mem) (H : Heap) (locs : List Loc) (ls : Array Slot), lq4 (fn_X10_odds_L56 a2 a3 a4) k v11_56 v9_56 v7_56 M56 = some o → ST E s n (zf n) M56 H locs → lv_has ls 16 [(0, .ref (eb E + 0)), (2, i3 a2), (3, i3 a3), (4, i3 a4), (5, .ref (eb E + 102)), (6, .ref (eb E + 106)), (7, l6 v7_56), (9, l6 v9_56), (11, i3 v11_56)] → W p l e { frames := 7, cells := 8, slots := 53154, locals := 222 } s m args below meth c H locs 8 53154 (MQ below (QC E (some (l6 o.1)) (nOf o.2) (zf (nOf o.2)) o.2) args s 8 53154 (fr E)) (F0 m 56 ls []) := by
  intro k
  induction k with
  | zero => intro v11_56 v9_56 v7_56 M56 H locs ls hf; cases hf
  | succ k ih =>
    intro v11_56 v9_56 v7_56 M56 H locs ls hf hH hl
    have h_rec56 : ∀ {v11_56 : Int} {v9_56 : Int} {v7_56 : Int} {M56 : Mem} {H : Heap} {locs : List Loc} {ls : Array Slot}, lq4 (fn_X10_odds_L56 a2 a3 a4) k v11_56 v9_56 v7_56 M56 = some o → ST E s n (zf n) M56 H locs → lv_has ls 16 [(0, .ref (eb E + 0)), (2, i3 a2), (3, i3 a3), (4, i3 a4), (5, .ref (eb E + 102)), (6, .ref (eb E + 106)), (7, l6 v7_56), (9, l6 v9_56), (11, i3 v11_56)] → W p l e { frames := 7, cells := 8, slots := 53154, locals := 222 } s m args below meth c H locs 8 53154 (MQ below (QC E (some (l6 o.1)) (nOf o.2) (zf (nOf o.2)) o.2) args s 8 53154 (fr E)) (F0 m 56 ls []) := fun {v11_56} {v9_56} {v7_56} {M56} {H} {locs} {ls} a b c => ih v11_56 v9_56 v7_56 M56 H locs ls a b c
    replace hf : fn_X10_odds_L56 a2 a3 a4 (lq4 (fn_X10_odds_L56 a2 a3 a4) k) v11_56 v9_56 v7_56 M56 = some o := hf
    generalize lq4 (fn_X10_odds_L56 a2 a3 a4) k = rec56 at hf h_rec56
    unfold fn_X10_odds_L56 at hf
    refine lv_iload C.hx C.hb dX10_odds_56 (lv_at hl 8 rfl) ?_
    refine lv_aload_n C.hx C.hb dX10_odds_58 rfl (lv_at hl 0 rfl) ?_
    refine g_ref (off := 1) C hH (ob0 hn) (by decide) rfl rfl FL_RX10_10 dX10_odds_59 ?_
    refine g_int C hH (ly (i := 0) (off := 1) (k := 4) hn (ob0 hn) rfl rfl rfl) (by decide) rfl FL_RX10_221 dX10_odds_62 ?_
    refine w_ge (tgt := 157) C hf dX10_odds_65 (by decide) (fun hf => ?_) (fun hf => ?_)
    · exact j_X10_odds_157 C hn hf hH (lv_sub hl [3, 6, 7] rfl)
    · refine lv_iload C.hx C.hb dX10_odds_68 (lv_at hl 8 rfl) ?_
      refine lv_iconst (v := Int32.ofInt 4) C.hx C.hb dX10_odds_70 rfl ?_
      refine w_ge (tgt := 157) C hf dX10_odds_71 (by decide) (fun hf => ?_) (fun hf => ?_)
      · exact j_X10_odds_157 C hn hf hH (lv_sub hl [3, 6, 7] rfl)
      · refine lv_aload_n C.hx C.hb dX10_odds_74 rfl (lv_at hl 0 rfl) ?_
        refine g_ref (off := 1) C hH (ob0 hn) (by decide) rfl rfl FL_RX10_10 dX10_odds_75 ?_
        refine g_ref (off := 12) C hH (ly (i := 0) (off := 1) (k := 4) hn (ob0 hn) rfl rfl rfl) (by decide) rfl rfl FL_RX10_234 dX10_odds_78 ?_
        refine lv_iload C.hx C.hb dX10_odds_81 (lv_at hl 8 rfl) ?_
        refine r_iald C hH (ly (i := 14) (off := 12) (k := 12) hn (ly (i := 0) (off := 1) (k := 4) hn (ob0 hn) rfl rfl rfl) rfl rfl rfl) (lyn (i := 14) (off := 12) (N := 3) hn (ly (i := 0) (off := 1) (k := 4) hn (ob0 hn) rfl rfl rfl) rfl rfl rfl) hf dX10_odds_83 (fun x83 hf => ?_)
        refine lv_istore (lv' := [(12, i3 x83), (0, .ref (eb E + 0)), (2, i3 a2), (3, i3 a3), (4, i3 a4), (5, .ref (eb E + 102)), (6, .ref (eb E + 106)), (7, l6 v7_56), (9, l6 v9_56), (11, i3 v11_56)]) C.hx C.hb dX10_odds_84 hl (by decide) rfl (fun ls hl => ?_)
        refine lv_aload_n C.hx C.hb dX10_odds_86 rfl (lv_at hl 1 rfl) ?_
        refine g_ref (off := 1) C hH (ob0 hn) (by decide) rfl rfl FL_RX10_10 dX10_odds_87 ?_
        refine g_ref (off := 13) C hH (ly (i := 0) (off := 1) (k := 4) hn (ob0 hn) rfl rfl rfl) (by decide) rfl rfl FL_RX10_237 dX10_odds_90 ?_
        refine lv_iload C.hx C.hb dX10_odds_93 (lv_at hl 9 rfl) ?_
        refine r_iald C hH (ly (i := 15) (off := 13) (k := 12) hn (ly (i := 0) (off := 1) (k := 4) hn (ob0 hn) rfl rfl rfl) rfl rfl rfl) (lyn (i := 15) (off := 13) (N := 3) hn (ly (i := 0) (off := 1) (k := 4) hn (ob0 hn) rfl rfl rfl) rfl rfl rfl) hf dX10_odds_95 (fun x95 hf => ?_)
        refine lv_istore (lv' := [(13, i3 x95), (12, i3 x83), (0, .ref (eb E + 0)), (2, i3 a2), (3, i3 a3), (4, i3 a4), (5, .ref (eb E + 102)), (6, .ref (eb E + 106)), (7, l6 v7_56), (9, l6 v9_56), (11, i3 v11_56)]) C.hx C.hb dX10_odds_96 hl (by decide) rfl (fun ls hl => ?_)
        refine lv_aload C.hx C.hb dX10_odds_98 (lv_at hl 6 rfl) ?_
        refine lv_iload C.hx C.hb dX10_odds_100 (lv_at hl 1 rfl) ?_
        refine lv_iload C.hx C.hb dX10_odds_102 (lv_at hl 0 rfl) ?_
        refine lv_aload_n C.hx C.hb dX10_odds_104 rfl (lv_at hl 2 rfl) ?_
        refine g_ref (off := 1) C hH (ob0 hn) (by decide) rfl rfl FL_RX10_10 dX10_odds_105 ?_
        refine g_int C hH (ly (i := 0) (off := 1) (k := 4) hn (ob0 hn) rfl rfl rfl) (by decide) rfl FL_RX10_87 dX10_odds_108 ?_
        refine lv_iload_n C.hx C.hb dX10_odds_111 rfl (lv_at hl 3 rfl) ?_
        refine lv_iload_n C.hx C.hb dX10_odds_112 rfl (lv_at hl 4 rfl) ?_
        obtain ⟨x113, M113, hc9, hf⟩ := cl_of hf
        refine r_callVi (rest := []) C hH hl o_T102 (by decide) rfl (m_X2_total hn o_T102 hc9) ML_RX10_202 MF_X2_total MI_X2_total rfl rfl (Nat.le_of_ble_eq_true rfl) ⟨Nat.le_of_ble_eq_true rfl, Nat.le_of_ble_eq_true rfl⟩ ⟨Nat.le_of_ble_eq_true rfl, Nat.le_of_ble_eq_true rfl⟩ dX10_odds_113 (fun H locs hH => ?_)
        refine lv_lstore (lv' := [(14, l6 x113), (13, i3 x95), (12, i3 x83), (0, .ref (eb E + 0)), (2, i3 a2), (3, i3 a3), (4, i3 a4), (5, .ref (eb E + 102)), (6, .ref (eb E + 106)), (7, l6 v7_56), (9, l6 v9_56), (11, i3 v11_56)]) C.hx C.hb dX10_odds_116 hl (by decide) rfl (fun ls hl => ?_)
        refine lv_lload C.hx C.hb dX10_odds_118 (lv_at hl 9 rfl) ?_
        refine lv_lload C.hx C.hb dX10_odds_120 (lv_at hl 0 rfl) ?_
        refine lv_aload C.hx C.hb dX10_odds_122 (lv_at hl 8 rfl) ?_
        refine lv_iload C.hx C.hb dX10_odds_124 (lv_at hl 2 rfl) ?_
        refine lv_iload C.hx C.hb dX10_odds_126 (lv_at hl 1 rfl) ?_
        refine lv_aload_n C.hx C.hb dX10_odds_128 rfl (lv_at hl 3 rfl) ?_
        refine g_ref (off := 1) C hH (ob0 hn) (by decide) rfl rfl FL_RX10_10 dX10_odds_129 ?_
        refine g_int C hH (ly (i := 0) (off := 1) (k := 4) hn (ob0 hn) rfl rfl rfl) (by decide) rfl FL_RX10_87 dX10_odds_132 ?_
        refine lv_iload_n C.hx C.hb dX10_odds_135 rfl (lv_at hl 4 rfl) ?_
        refine lv_iload_n C.hx C.hb dX10_odds_136 rfl (lv_at hl 5 rfl) ?_
        obtain ⟨x137, M137, hc9, hf⟩ := cl_of hf
        refine r_callVi (rest := [l6 x113, l6 v7_56]) C hH hl o_T106 (by decide) rfl (m_X2_total hn o_T106 hc9) ML_RX10_202 MF_X2_total MI_X2_total rfl rfl (Nat.le_of_ble_eq_true rfl) ⟨Nat.le_of_ble_eq_true rfl, Nat.le_of_ble_eq_true rfl⟩ ⟨Nat.le_of_ble_eq_true rfl, Nat.le_of_ble_eq_true rfl⟩ dX10_odds_137 (fun H locs hH => ?_)
        refine w_lsub C dX10_odds_140 ?_
        refine w_lmul C dX10_odds_141 ?_
        refine r_nmL hf (fun v7_142 hf => ?_)
        refine lv_lstore (lv' := [(7, l6 v7_142), (14, l6 x113), (13, i3 x95), (12, i3 x83), (0, .ref (eb E + 0)), (2, i3 a2), (3, i3 a3), (4, i3 a4), (5, .ref (eb E + 102)), (6, .ref (eb E + 106)), (9, l6 v9_56), (11, i3 v11_56)]) C.hx C.hb dX10_odds_142 hl (by decide) rfl (fun ls hl => ?_)
        refine lv_lload C.hx C.hb dX10_odds_144 (lv_at hl 10 rfl) ?_
        refine lv_lload C.hx C.hb dX10_odds_146 (lv_at hl 1 rfl) ?_
        refine w_lmul C dX10_odds_148 ?_
        refine r_nmL hf (fun v9_149 hf => ?_)
        refine lv_lstore (lv' := [(9, l6 v9_149), (7, l6 v7_142), (14, l6 x113), (13, i3 x95), (12, i3 x83), (0, .ref (eb E + 0)), (2, i3 a2), (3, i3 a3), (4, i3 a4), (5, .ref (eb E + 102)), (6, .ref (eb E + 106)), (11, i3 v11_56)]) C.hx C.hb dX10_odds_149 hl (by decide) rfl (fun ls hl => ?_)
        refine r_iinc (k := 11) (lv' := fun v => [(11, i3 v), (9, l6 v9_149), (7, l6 v7_142), (14, l6 x113), (13, i3 x95), (12, i3 x83), (0, .ref (eb E + 0)), (2, i3 a2), (3, i3 a3), (4, i3 a4), (5, .ref (eb E + 102)), (6, .ref (eb E + 106))]) C hf dX10_odds_151 hl rfl (by decide) (fun _ => rfl) (fun v11_151 ls hf hl => ?_)
        refine lv_goto (tgt := 56) C.hx C.hb dX10_odds_154 (by decide) ?_
        exact h_rec56 hf hH (lv_sub hl [6, 7, 8, 9, 10, 11, 2, 1, 0] rfl)
set_option maxRecDepth 100000 in
set_option maxHeartbeats 4000000 in
theorem m_X10_odds {E : EE} {l : Launch} {n : Nat} {a1 : Int} {a2 : Int} {a3 : Int} {a4 : Int} {M : Mem} {o : (Int × Mem)} (hn : nfull n) (hf : fn_X10_odds a1 a2 a3 a4 M = some o) : CT E l yX10_odds cX10_odds 16 (some .long) 7 222 8 53154 [.ref (eb E + 0), i3 a1, i3 a2, i3 a3, i3 a4] n (zf n) M (some (l6 o.1)) (nOf o.2) (zf (nOf o.2)) o.2 := by
  refine CT_of PN_RX10 (Nat.le_of_ble_eq_true rfl) ?_
  intro p e s m args below meth c C hH ls hl
  replace C : Cx E p s m args meth c cX10_odds 16 RX10 (some .long) n "odds" := C
  have hl : lv_has ls 16 [(0, .ref (eb E + 0)), (1, i3 a1), (2, i3 a2), (3, i3 a3), (4, i3 a4)] := hl
  unfold fn_X10_odds at hf
  refine lv_aload_n C.hx C.hb dX10_odds_0 rfl (lv_at hl 0 rfl) ?_
  refine g_ref (off := 1) C hH (ob0 hn) (by decide) rfl rfl FL_RX10_10 dX10_odds_1 ?_
  refine lv_iload_n C.hx C.hb dX10_odds_4 rfl (lv_at hl 1 rfl) ?_
  obtain ⟨x5, hc9, hf⟩ := cu_of hf
  refine r_callVi (rest := []) C hH hl (ly (i := 0) (off := 1) (k := 4) hn (ob0 hn) rfl rfl rfl) (by decide) rfl (m_X4_isHand hn (ly (i := 0) (off := 1) (k := 4) hn (ob0 hn) rfl rfl rfl) hc9) ML_RX10_73 MF_X4_isHand MI_X4_isHand rfl rfl (Nat.le_of_ble_eq_true rfl) ⟨Nat.le_of_ble_eq_true rfl, Nat.le_of_ble_eq_true rfl⟩ ⟨Nat.le_of_ble_eq_true rfl, Nat.le_of_ble_eq_true rfl⟩ dX10_odds_5 (fun H locs hH => ?_)
  refine w_eq0 (tgt := 30) C hf dX10_odds_8 (by decide) (fun hf => ?_) (fun hf => ?_)
  · refine r_ldc2 (x := (-1)) C KL_RX10_196 dX10_odds_30 ?_
    cases hf
    refine W.widen (k := 8) (n := 53154) (Nat.le_of_ble_eq_true rfl) (Nat.le_of_ble_eq_true rfl) ?_; exact w_lretN C hn hH dX10_odds_33
  · refine lv_iload_n C.hx C.hb dX10_odds_11 rfl (lv_at hl 2 rfl) ?_
    refine lv_iload_n C.hx C.hb dX10_odds_12 rfl (lv_at hl 3 rfl) ?_
    refine lv_iconst (v := Int32.ofInt 4) C.hx C.hb dX10_odds_13 rfl ?_
    obtain ⟨x14, hc9, hf⟩ := cu_of hf
    refine r_callSi (rest := []) C hH hl (m_X10_areLengths hn hc9) ML_RX10_227 MF_X10_areLengths MS_X10_areLengths rfl rfl (Nat.le_of_ble_eq_true rfl) ⟨Nat.le_of_ble_eq_true rfl, Nat.le_of_ble_eq_true rfl⟩ ⟨Nat.le_of_ble_eq_true rfl, Nat.le_of_ble_eq_true rfl⟩ dX10_odds_14 (fun H locs hH => ?_)
    refine w_eq0 (tgt := 30) C hf dX10_odds_17 (by decide) (fun hf => ?_) (fun hf => ?_)
    · refine r_ldc2 (x := (-1)) C KL_RX10_196 dX10_odds_30 ?_
      cases hf
      refine W.widen (k := 8) (n := 53154) (Nat.le_of_ble_eq_true rfl) (Nat.le_of_ble_eq_true rfl) ?_; exact w_lretN C hn hH dX10_odds_33
    · refine lv_iload C.hx C.hb dX10_odds_20 (lv_at hl 4 rfl) ?_
      refine lv_iconst (v := Int32.ofInt 0) C.hx C.hb dX10_odds_22 rfl ?_
      refine lv_iconst (v := Int32.ofInt 1) C.hx C.hb dX10_odds_23 rfl ?_
      obtain ⟨x24, hc9, hf⟩ := cu_of hf
      refine r_callSi (rest := []) C hH hl (m_X10_isWithin hn hc9) ML_RX10_61 MF_X10_isWithin MS_X10_isWithin rfl rfl (Nat.le_of_ble_eq_true rfl) ⟨Nat.le_of_ble_eq_true rfl, Nat.le_of_ble_eq_true rfl⟩ ⟨Nat.le_of_ble_eq_true rfl, Nat.le_of_ble_eq_true rfl⟩ dX10_odds_24 (fun H locs hH => ?_)
      refine w_ne0 (tgt := 34) C hf dX10_odds_27 (by decide) (fun hf => ?_) (fun hf => ?_)
      · refine lv_aload_n C.hx C.hb dX10_odds_34 rfl (lv_at hl 0 rfl) ?_
        obtain ⟨M35, hc9, hf⟩ := cv_of hf
        obtain ⟨hT9, hf⟩ := ck_of hf
        refine w_callV2 (k := 0) (ci := 10) (rest := []) C hH hl (ob0 hn) (by decide) rfl (m_X10_tableOfAll hn hc9) ML_RX10_198 MF_X10_tableOfAll MI_X10_tableOfAll rfl rfl (Nat.le_of_ble_eq_true rfl) ⟨Nat.le_of_ble_eq_true rfl, Nat.le_of_ble_eq_true rfl⟩ ⟨Nat.le_of_ble_eq_true rfl, Nat.le_of_ble_eq_true rfl⟩ dX10_odds_35 (fun H locs hH => ?_)
        have hn := nOf_full M35
        generalize nOf M35 = n at hH hn hT9
        have o_T102 : ob n 102 2 := ⟨by decide +kernel, by omega⟩
        refine lv_astore (lv' := [(5, .ref (eb E + 102)), (0, .ref (eb E + 0)), (1, i3 a1), (2, i3 a2), (3, i3 a3), (4, i3 a4)]) C.hx C.hb dX10_odds_38 hl (by decide) rfl (fun ls hl => ?_)
        refine lv_aload_n C.hx C.hb dX10_odds_40 rfl (lv_at hl 1 rfl) ?_
        refine lv_iload_n C.hx C.hb dX10_odds_41 rfl (lv_at hl 2 rfl) ?_
        obtain ⟨M42, hc9, hf⟩ := cv_of hf
        obtain ⟨hT9, hf⟩ := ck_of hf
        refine w_callV2 (k := 0) (ci := 10) (rest := []) C hH hl (ob0 hn) (by decide) rfl (m_X10_tableWithout hn hc9) ML_RX10_230 MF_X10_tableWithout MI_X10_tableWithout rfl rfl (Nat.le_of_ble_eq_true rfl) ⟨Nat.le_of_ble_eq_true rfl, Nat.le_of_ble_eq_true rfl⟩ ⟨Nat.le_of_ble_eq_true rfl, Nat.le_of_ble_eq_true rfl⟩ dX10_odds_42 (fun H locs hH => ?_)
        have hn := nOf_full M42
        generalize nOf M42 = n at hH hn hT9
        have o_T102 : ob n 102 2 := ⟨by decide +kernel, by omega⟩
        have o_T106 : ob n 106 2 := ⟨by decide +kernel, by omega⟩
        refine lv_astore (lv' := [(6, .ref (eb E + 106)), (5, .ref (eb E + 102)), (0, .ref (eb E + 0)), (1, i3 a1), (2, i3 a2), (3, i3 a3), (4, i3 a4)]) C.hx C.hb dX10_odds_45 hl (by decide) rfl (fun ls hl => ?_)
        refine lv_lconst (v := Int64.ofInt 1) C.hx C.hb dX10_odds_47 (by decide) ?_
        refine lv_lstore (lv' := [(7, l6 1), (6, .ref (eb E + 106)), (5, .ref (eb E + 102)), (0, .ref (eb E + 0)), (1, i3 a1), (2, i3 a2), (3, i3 a3), (4, i3 a4)]) C.hx C.hb dX10_odds_48 hl (by decide) rfl (fun ls hl => ?_)
        refine lv_lconst (v := Int64.ofInt 1) C.hx C.hb dX10_odds_50 (by decide) ?_
        refine lv_lstore (lv' := [(9, l6 1), (7, l6 1), (6, .ref (eb E + 106)), (5, .ref (eb E + 102)), (0, .ref (eb E + 0)), (1, i3 a1), (2, i3 a2), (3, i3 a3), (4, i3 a4)]) C.hx C.hb dX10_odds_51 hl (by decide) rfl (fun ls hl => ?_)
        refine lv_iconst (v := Int32.ofInt 0) C.hx C.hb dX10_odds_53 rfl ?_
        refine lv_istore (lv' := [(11, i3 0), (9, l6 1), (7, l6 1), (6, .ref (eb E + 106)), (5, .ref (eb E + 102)), (0, .ref (eb E + 0)), (1, i3 a1), (2, i3 a2), (3, i3 a3), (4, i3 a4)]) C.hx C.hb dX10_odds_54 hl (by decide) rfl (fun ls hl => ?_)
        exact l_X10_odds_56 C hn o_T102 o_T106 FU _ _ _ _ _ _ _ hf hH (lv_sub hl [5, 7, 8, 9, 4, 3, 2, 1, 0] rfl)
      · refine r_ldc2 (x := (-1)) C KL_RX10_196 dX10_odds_30 ?_
        cases hf
        refine W.widen (k := 8) (n := 53154) (Nat.le_of_ble_eq_true rfl) (Nat.le_of_ble_eq_true rfl) ?_; exact w_lretN C hn hH dX10_odds_33
-- X10_told
def fn_X10_told_J94 (v4_94 : Int) (M94 : Mem) : Option (Int × Mem) :=
  cu (fn_X10_onlyOne v4_94 M94) fun x96 => some (x96, M94)
def fn_X10_told_L32 (a1 : Int) (a2 : Int) (rec32 : Int → Int → Mem → Option (Int × Mem)) (v5_32 : Int) (v4_32 : Int) (M32 : Mem) : Option (Int × Mem) :=
  cLt v5_32 (M32 (0 + 1) 16) (cLt v5_32 4 (rd M32 ((0 + 1) + 12) 4 v5_32 fun x62 => rd M32 ((0 + 1) + 13) 4 v5_32 fun x72 => cl (fn_X2_inAll 102 x62 x72 (M32 (0 + 1) 10) a1 a2 M32) fun x82 M82 => nm ((andI v4_32 x82)) fun v4_86 => nm (v5_32 + 1) fun v5_88 => rec32 v5_88 v4_86 M82) (fn_X10_told_J94 v4_32 M32)) (fn_X10_told_J94 v4_32 M32)
def fn_X10_told (a1 : Int) (a2 : Int) (M : Mem) : Option (Int × Mem) :=
  cu (fn_X10_areLengths a1 a2 4 M) fun x3 => cEq x3 0 (some ((-1), M)) (cv (fn_X10_tableOfAll M) fun M12 => ck (102 < nOf M12) <| nm (((shlI 1 (M12 (0 + 1) 1)) - 1)) fun v4_27 => lq3 (fn_X10_told_L32 a1 a2) FU 0 v4_27 M12)
set_option maxRecDepth 100000 in
set_option maxHeartbeats 4000000 in
theorem j_X10_told_94 {p : Program} {l : Launch} {e : Env} {s : State} {m : MethodId} {args : Array Value} {below : List Frame} {meth : Method} {c : Code} {E : EE} {n n0 : Nat} {o : (Int × Mem)} {v4_94 : Int} {M94 : Mem} {H : Heap} {locs : List Loc} {ls : Array Slot} (C : Cx E p s m args meth c cX10_told 6 RX10 (some .int) n0 "told") (hn : nfull n) (hf : fn_X10_told_J94 v4_94 M94 = some o) (hH : ST E s n (zf n) M94 H locs) (hl : lv_has ls 6 [(4, i3 v4_94)]) : W p l e { frames := 8, cells := 4, slots := 47057, locals := 221 } s m args below meth c H locs 4 47057 (MQ below (QC E (some (i3 o.1)) (nOf o.2) (zf (nOf o.2)) o.2) args s 4 47057 (fr E)) (F0 m 94 ls []) := by
  unfold fn_X10_told_J94 at hf
  refine lv_iload C.hx C.hb dX10_told_94 (lv_at hl 0 rfl) ?_
  obtain ⟨x96, hc9, hf⟩ := cu_of hf
  refine r_callSi (rest := []) C hH hl (m_X10_onlyOne hn hc9) ML_RX10_244 MF_X10_onlyOne MS_X10_onlyOne rfl rfl (Nat.le_of_ble_eq_true rfl) ⟨Nat.le_of_ble_eq_true rfl, Nat.le_of_ble_eq_true rfl⟩ ⟨Nat.le_of_ble_eq_true rfl, Nat.le_of_ble_eq_true rfl⟩ dX10_told_96 (fun H locs hH => ?_)
  cases hf
  exact w_iretN C hn hH dX10_told_99
set_option maxRecDepth 100000 in
set_option maxHeartbeats 4000000 in
theorem l_X10_told_32 {p : Program} {l : Launch} {e : Env} {s : State} {m : MethodId} {args : Array Value} {below : List Frame} {meth : Method} {c : Code} {E : EE} {n n0 : Nat} {o : (Int × Mem)} {a1 : Int} {a2 : Int} (C : Cx E p s m args meth c cX10_told 6 RX10 (some .int) n0 "told") (hn : nfull n) (o_T102 : ob n 102 2) : ∀ (k : Nat) (v5_32 : Int) (v4_32 : Int) (M32 : Mem) (H : Heap) (locs : List Loc) (ls : Array Slot), lq3 (fn_X10_told_L32 a1 a2) k v5_32 v4_32 M32 = some o → ST E s n (zf n) M32 H locs → lv_has ls 6 [(0, .ref (eb E + 0)), (1, i3 a1), (2, i3 a2), (3, .ref (eb E + 102)), (4, i3 v4_32), (5, i3 v5_32)] → W p l e { frames := 8, cells := 4, slots := 47057, locals := 221 } s m args below meth c H locs 4 47057 (MQ below (QC E (some (i3 o.1)) (nOf o.2) (zf (nOf o.2)) o.2) args s 4 47057 (fr E)) (F0 m 32 ls []) := by
  intro k
  induction k with
  | zero => intro v5_32 v4_32 M32 H locs ls hf; cases hf
  | succ k ih =>
    intro v5_32 v4_32 M32 H locs ls hf hH hl
    have h_rec32 : ∀ {v5_32 : Int} {v4_32 : Int} {M32 : Mem} {H : Heap} {locs : List Loc} {ls : Array Slot}, lq3 (fn_X10_told_L32 a1 a2) k v5_32 v4_32 M32 = some o → ST E s n (zf n) M32 H locs → lv_has ls 6 [(0, .ref (eb E + 0)), (1, i3 a1), (2, i3 a2), (3, .ref (eb E + 102)), (4, i3 v4_32), (5, i3 v5_32)] → W p l e { frames := 8, cells := 4, slots := 47057, locals := 221 } s m args below meth c H locs 4 47057 (MQ below (QC E (some (i3 o.1)) (nOf o.2) (zf (nOf o.2)) o.2) args s 4 47057 (fr E)) (F0 m 32 ls []) := fun {v5_32} {v4_32} {M32} {H} {locs} {ls} a b c => ih v5_32 v4_32 M32 H locs ls a b c
    replace hf : fn_X10_told_L32 a1 a2 (lq3 (fn_X10_told_L32 a1 a2) k) v5_32 v4_32 M32 = some o := hf
    generalize lq3 (fn_X10_told_L32 a1 a2) k = rec32 at hf h_rec32
    unfold fn_X10_told_L32 at hf
    refine lv_iload C.hx C.hb dX10_told_32 (lv_at hl 5 rfl) ?_
    refine lv_aload_n C.hx C.hb dX10_told_34 rfl (lv_at hl 0 rfl) ?_
    refine g_ref (off := 1) C hH (ob0 hn) (by decide) rfl rfl FL_RX10_10 dX10_told_35 ?_
    refine g_int C hH (ly (i := 0) (off := 1) (k := 4) hn (ob0 hn) rfl rfl rfl) (by decide) rfl FL_RX10_221 dX10_told_38 ?_
    refine w_ge (tgt := 94) C hf dX10_told_41 (by decide) (fun hf => ?_) (fun hf => ?_)
    · exact j_X10_told_94 C hn hf hH (lv_sub hl [4] rfl)
    · refine lv_iload C.hx C.hb dX10_told_44 (lv_at hl 5 rfl) ?_
      refine lv_iconst (v := Int32.ofInt 4) C.hx C.hb dX10_told_46 rfl ?_
      refine w_ge (tgt := 94) C hf dX10_told_47 (by decide) (fun hf => ?_) (fun hf => ?_)
      · exact j_X10_told_94 C hn hf hH (lv_sub hl [4] rfl)
      · refine lv_iload C.hx C.hb dX10_told_50 (lv_at hl 4 rfl) ?_
        refine lv_aload_n C.hx C.hb dX10_told_52 rfl (lv_at hl 3 rfl) ?_
        refine lv_aload_n C.hx C.hb dX10_told_53 rfl (lv_at hl 0 rfl) ?_
        refine g_ref (off := 1) C hH (ob0 hn) (by decide) rfl rfl FL_RX10_10 dX10_told_54 ?_
        refine g_ref (off := 12) C hH (ly (i := 0) (off := 1) (k := 4) hn (ob0 hn) rfl rfl rfl) (by decide) rfl rfl FL_RX10_234 dX10_told_57 ?_
        refine lv_iload C.hx C.hb dX10_told_60 (lv_at hl 5 rfl) ?_
        refine r_iald C hH (ly (i := 14) (off := 12) (k := 12) hn (ly (i := 0) (off := 1) (k := 4) hn (ob0 hn) rfl rfl rfl) rfl rfl rfl) (lyn (i := 14) (off := 12) (N := 3) hn (ly (i := 0) (off := 1) (k := 4) hn (ob0 hn) rfl rfl rfl) rfl rfl rfl) hf dX10_told_62 (fun x62 hf => ?_)
        refine lv_aload_n C.hx C.hb dX10_told_63 rfl (lv_at hl 0 rfl) ?_
        refine g_ref (off := 1) C hH (ob0 hn) (by decide) rfl rfl FL_RX10_10 dX10_told_64 ?_
        refine g_ref (off := 13) C hH (ly (i := 0) (off := 1) (k := 4) hn (ob0 hn) rfl rfl rfl) (by decide) rfl rfl FL_RX10_237 dX10_told_67 ?_
        refine lv_iload C.hx C.hb dX10_told_70 (lv_at hl 5 rfl) ?_
        refine r_iald C hH (ly (i := 15) (off := 13) (k := 12) hn (ly (i := 0) (off := 1) (k := 4) hn (ob0 hn) rfl rfl rfl) rfl rfl rfl) (lyn (i := 15) (off := 13) (N := 3) hn (ly (i := 0) (off := 1) (k := 4) hn (ob0 hn) rfl rfl rfl) rfl rfl rfl) hf dX10_told_72 (fun x72 hf => ?_)
        refine lv_aload_n C.hx C.hb dX10_told_73 rfl (lv_at hl 0 rfl) ?_
        refine g_ref (off := 1) C hH (ob0 hn) (by decide) rfl rfl FL_RX10_10 dX10_told_74 ?_
        refine g_int C hH (ly (i := 0) (off := 1) (k := 4) hn (ob0 hn) rfl rfl rfl) (by decide) rfl FL_RX10_87 dX10_told_77 ?_
        refine lv_iload_n C.hx C.hb dX10_told_80 rfl (lv_at hl 1 rfl) ?_
        refine lv_iload_n C.hx C.hb dX10_told_81 rfl (lv_at hl 2 rfl) ?_
        obtain ⟨x82, M82, hc9, hf⟩ := cl_of hf
        refine r_callVi (rest := [i3 v4_32]) C hH hl o_T102 (by decide) rfl (m_X2_inAll hn o_T102 hc9) ML_RX10_218 MF_X2_inAll MI_X2_inAll rfl rfl (Nat.le_of_ble_eq_true rfl) ⟨Nat.le_of_ble_eq_true rfl, Nat.le_of_ble_eq_true rfl⟩ ⟨Nat.le_of_ble_eq_true rfl, Nat.le_of_ble_eq_true rfl⟩ dX10_told_82 (fun H locs hH => ?_)
        refine w_iand C dX10_told_85 ?_
        refine r_nm hf (fun v4_86 hf => ?_)
        refine lv_istore (lv' := [(4, i3 v4_86), (0, .ref (eb E + 0)), (1, i3 a1), (2, i3 a2), (3, .ref (eb E + 102)), (5, i3 v5_32)]) C.hx C.hb dX10_told_86 hl (by decide) rfl (fun ls hl => ?_)
        refine r_iinc (k := 5) (lv' := fun v => [(5, i3 v), (4, i3 v4_86), (0, .ref (eb E + 0)), (1, i3 a1), (2, i3 a2), (3, .ref (eb E + 102))]) C hf dX10_told_88 hl rfl (by decide) (fun _ => rfl) (fun v5_88 ls hf hl => ?_)
        refine lv_goto (tgt := 32) C.hx C.hb dX10_told_91 (by decide) ?_
        exact h_rec32 hf hH (lv_sub hl [2, 3, 4, 5, 1, 0] rfl)
set_option maxRecDepth 100000 in
set_option maxHeartbeats 4000000 in
theorem m_X10_told {E : EE} {l : Launch} {n : Nat} {a1 : Int} {a2 : Int} {M : Mem} {o : (Int × Mem)} (hn : nfull n) (hf : fn_X10_told a1 a2 M = some o) : CT E l yX10_told cX10_told 6 (some .int) 8 221 4 47057 [.ref (eb E + 0), i3 a1, i3 a2] n (zf n) M (some (i3 o.1)) (nOf o.2) (zf (nOf o.2)) o.2 := by
  refine CT_of PN_RX10 (Nat.le_of_ble_eq_true rfl) ?_
  intro p e s m args below meth c C hH ls hl
  replace C : Cx E p s m args meth c cX10_told 6 RX10 (some .int) n "told" := C
  have hl : lv_has ls 6 [(0, .ref (eb E + 0)), (1, i3 a1), (2, i3 a2)] := hl
  unfold fn_X10_told at hf
  refine lv_iload_n C.hx C.hb dX10_told_0 rfl (lv_at hl 1 rfl) ?_
  refine lv_iload_n C.hx C.hb dX10_told_1 rfl (lv_at hl 2 rfl) ?_
  refine lv_iconst (v := Int32.ofInt 4) C.hx C.hb dX10_told_2 rfl ?_
  obtain ⟨x3, hc9, hf⟩ := cu_of hf
  refine r_callSi (rest := []) C hH hl (m_X10_areLengths hn hc9) ML_RX10_227 MF_X10_areLengths MS_X10_areLengths rfl rfl (Nat.le_of_ble_eq_true rfl) ⟨Nat.le_of_ble_eq_true rfl, Nat.le_of_ble_eq_true rfl⟩ ⟨Nat.le_of_ble_eq_true rfl, Nat.le_of_ble_eq_true rfl⟩ dX10_told_3 (fun H locs hH => ?_)
  refine w_ne0 (tgt := 11) C hf dX10_told_6 (by decide) (fun hf => ?_) (fun hf => ?_)
  · refine lv_aload_n C.hx C.hb dX10_told_11 rfl (lv_at hl 0 rfl) ?_
    obtain ⟨M12, hc9, hf⟩ := cv_of hf
    obtain ⟨hT9, hf⟩ := ck_of hf
    refine w_callV2 (k := 0) (ci := 10) (rest := []) C hH hl (ob0 hn) (by decide) rfl (m_X10_tableOfAll hn hc9) ML_RX10_198 MF_X10_tableOfAll MI_X10_tableOfAll rfl rfl (Nat.le_of_ble_eq_true rfl) ⟨Nat.le_of_ble_eq_true rfl, Nat.le_of_ble_eq_true rfl⟩ ⟨Nat.le_of_ble_eq_true rfl, Nat.le_of_ble_eq_true rfl⟩ dX10_told_12 (fun H locs hH => ?_)
    have hn := nOf_full M12
    generalize nOf M12 = n at hH hn hT9
    have o_T102 : ob n 102 2 := ⟨by decide +kernel, by omega⟩
    refine lv_astore_n (lv' := [(3, .ref (eb E + 102)), (0, .ref (eb E + 0)), (1, i3 a1), (2, i3 a2)]) C.hx C.hb dX10_told_15 rfl hl (by decide) rfl (fun ls hl => ?_)
    refine lv_iconst (v := Int32.ofInt 1) C.hx C.hb dX10_told_16 rfl ?_
    refine lv_aload_n C.hx C.hb dX10_told_17 rfl (lv_at hl 1 rfl) ?_
    refine g_ref (off := 1) C hH (ob0 hn) (by decide) rfl rfl FL_RX10_10 dX10_told_18 ?_
    refine g_int C hH (ly (i := 0) (off := 1) (k := 4) hn (ob0 hn) rfl rfl rfl) (by decide) rfl FL_RX10_65 dX10_told_21 ?_
    refine w_ishl C dX10_told_24 ?_
    refine lv_iconst (v := Int32.ofInt 1) C.hx C.hb dX10_told_25 rfl ?_
    refine w_isub C dX10_told_26 ?_
    refine r_nm hf (fun v4_27 hf => ?_)
    refine lv_istore (lv' := [(4, i3 v4_27), (3, .ref (eb E + 102)), (0, .ref (eb E + 0)), (1, i3 a1), (2, i3 a2)]) C.hx C.hb dX10_told_27 hl (by decide) rfl (fun ls hl => ?_)
    refine lv_iconst (v := Int32.ofInt 0) C.hx C.hb dX10_told_29 rfl ?_
    refine lv_istore (lv' := [(5, i3 0), (4, i3 v4_27), (3, .ref (eb E + 102)), (0, .ref (eb E + 0)), (1, i3 a1), (2, i3 a2)]) C.hx C.hb dX10_told_30 hl (by decide) rfl (fun ls hl => ?_)
    exact l_X10_told_32 C hn o_T102 FU _ _ _ _ _ _ hf hH (lv_sub hl [3, 4, 5, 2, 1, 0] rfl)
  · refine lv_iconst (v := Int32.ofInt (-1)) C.hx C.hb dX10_told_9 rfl ?_
    cases hf
    refine W.widen (k := 4) (n := 47057) (Nat.le_of_ble_eq_true rfl) (Nat.le_of_ble_eq_true rfl) ?_; exact w_iretN C hn hH dX10_told_10
-- X10_of
def fn_X10_of (a1 : Int) (a2 : Int) (M : Mem) : Option (Int × Mem) :=
  cu (fn_X4_isCoin (0 + 1) a1 M) fun x5 => cEq x5 0 (some ((-1), M)) (ck (R3 a2) <| if a2 = 0 then (rd M ((0 + 1) + 3) 20 a1 fun x60 => some (x60, M)) else if a2 = 1 then (rd M ((0 + 1) + 4) 20 a1 fun x70 => some (x70, M)) else if a2 = 2 then (rd M ((0 + 1) + 5) 20 a1 fun x80 => some (x80, M)) else if a2 = 3 then (rd M ((0 + 1) + 2) 20 a1 fun x90 => some (x90, M)) else if a2 = 4 then (rd M ((0 + 1) + 6) 20 a1 fun x100 => some (x100, M)) else if a2 = 5 then (cl (fn_X10_mustBeWashed a1 M) fun x104 M104 => some (x104, M104)) else some ((-1), M))
set_option maxRecDepth 100000 in
set_option maxHeartbeats 4000000 in
theorem m_X10_of {E : EE} {l : Launch} {n : Nat} {a1 : Int} {a2 : Int} {M : Mem} {o : (Int × Mem)} (hn : nfull n) (hf : fn_X10_of a1 a2 M = some o) : CT E l yX10_of cX10_of 3 (some .int) 8 246 4 47057 [.ref (eb E + 0), i3 a1, i3 a2] n (zf n) M (some (i3 o.1)) (nOf o.2) (zf (nOf o.2)) o.2 := by
  refine CT_of PN_RX10 (Nat.le_of_ble_eq_true rfl) ?_
  intro p e s m args below meth c C hH ls hl
  replace C : Cx E p s m args meth c cX10_of 3 RX10 (some .int) n "of" := C
  have hl : lv_has ls 3 [(0, .ref (eb E + 0)), (1, i3 a1), (2, i3 a2)] := hl
  unfold fn_X10_of at hf
  refine lv_aload_n C.hx C.hb dX10_of_0 rfl (lv_at hl 0 rfl) ?_
  refine g_ref (off := 1) C hH (ob0 hn) (by decide) rfl rfl FL_RX10_10 dX10_of_1 ?_
  refine lv_iload_n C.hx C.hb dX10_of_4 rfl (lv_at hl 1 rfl) ?_
  obtain ⟨x5, hc9, hf⟩ := cu_of hf
  refine r_callVi (rest := []) C hH hl (ly (i := 0) (off := 1) (k := 4) hn (ob0 hn) rfl rfl rfl) (by decide) rfl (m_X4_isCoin hn (ly (i := 0) (off := 1) (k := 4) hn (ob0 hn) rfl rfl rfl) hc9) ML_RX10_148 MF_X4_isCoin MI_X4_isCoin rfl rfl (Nat.le_of_ble_eq_true rfl) ⟨Nat.le_of_ble_eq_true rfl, Nat.le_of_ble_eq_true rfl⟩ ⟨Nat.le_of_ble_eq_true rfl, Nat.le_of_ble_eq_true rfl⟩ dX10_of_5 (fun H locs hH => ?_)
  refine w_ne0 (tgt := 13) C hf dX10_of_8 (by decide) (fun hf => ?_) (fun hf => ?_)
  · refine lv_iload_n C.hx C.hb dX10_of_13 rfl (lv_at hl 2 rfl) ?_
    obtain ⟨hR9, hf⟩ := ck_of hf
    by_cases e0 : a2 = 0
    · rw [if_pos e0] at hf
      refine r_tab (tgt := 52) C e0 ⟨by decide, by decide⟩ dX10_of_14 (by decide) (by decide) rfl (by decide) ?_
      refine lv_aload_n C.hx C.hb dX10_of_52 rfl (lv_at hl 0 rfl) ?_
      refine g_ref (off := 1) C hH (ob0 hn) (by decide) rfl rfl FL_RX10_10 dX10_of_53 ?_
      refine g_ref (off := 3) C hH (ly (i := 0) (off := 1) (k := 4) hn (ob0 hn) rfl rfl rfl) (by decide) rfl rfl FL_RX10_174 dX10_of_56 ?_
      refine lv_iload_n C.hx C.hb dX10_of_59 rfl (lv_at hl 1 rfl) ?_
      refine r_iald C hH (ly (i := 3) (off := 3) (k := 12) hn (ly (i := 0) (off := 1) (k := 4) hn (ob0 hn) rfl rfl rfl) rfl rfl rfl) (lyn (i := 3) (off := 3) (N := 19) hn (ly (i := 0) (off := 1) (k := 4) hn (ob0 hn) rfl rfl rfl) rfl rfl rfl) hf dX10_of_60 (fun x60 hf => ?_)
      cases hf
      refine W.widen (k := 4) (n := 47057) (Nat.le_of_ble_eq_true rfl) (Nat.le_of_ble_eq_true rfl) ?_; exact w_iretN C hn hH dX10_of_61
    · rw [if_neg e0] at hf
      by_cases e1 : a2 = 1
      · rw [if_pos e1] at hf
        refine r_tab (tgt := 62) C e1 ⟨by decide, by decide⟩ dX10_of_14 (by decide) (by decide) rfl (by decide) ?_
        refine lv_aload_n C.hx C.hb dX10_of_62 rfl (lv_at hl 0 rfl) ?_
        refine g_ref (off := 1) C hH (ob0 hn) (by decide) rfl rfl FL_RX10_10 dX10_of_63 ?_
        refine g_ref (off := 4) C hH (ly (i := 0) (off := 1) (k := 4) hn (ob0 hn) rfl rfl rfl) (by decide) rfl rfl FL_RX10_177 dX10_of_66 ?_
        refine lv_iload_n C.hx C.hb dX10_of_69 rfl (lv_at hl 1 rfl) ?_
        refine r_iald C hH (ly (i := 4) (off := 4) (k := 12) hn (ly (i := 0) (off := 1) (k := 4) hn (ob0 hn) rfl rfl rfl) rfl rfl rfl) (lyn (i := 4) (off := 4) (N := 19) hn (ly (i := 0) (off := 1) (k := 4) hn (ob0 hn) rfl rfl rfl) rfl rfl rfl) hf dX10_of_70 (fun x70 hf => ?_)
        cases hf
        refine W.widen (k := 4) (n := 47057) (Nat.le_of_ble_eq_true rfl) (Nat.le_of_ble_eq_true rfl) ?_; exact w_iretN C hn hH dX10_of_71
      · rw [if_neg e1] at hf
        by_cases e2 : a2 = 2
        · rw [if_pos e2] at hf
          refine r_tab (tgt := 72) C e2 ⟨by decide, by decide⟩ dX10_of_14 (by decide) (by decide) rfl (by decide) ?_
          refine lv_aload_n C.hx C.hb dX10_of_72 rfl (lv_at hl 0 rfl) ?_
          refine g_ref (off := 1) C hH (ob0 hn) (by decide) rfl rfl FL_RX10_10 dX10_of_73 ?_
          refine g_ref (off := 5) C hH (ly (i := 0) (off := 1) (k := 4) hn (ob0 hn) rfl rfl rfl) (by decide) rfl rfl FL_RX10_180 dX10_of_76 ?_
          refine lv_iload_n C.hx C.hb dX10_of_79 rfl (lv_at hl 1 rfl) ?_
          refine r_iald C hH (ly (i := 5) (off := 5) (k := 12) hn (ly (i := 0) (off := 1) (k := 4) hn (ob0 hn) rfl rfl rfl) rfl rfl rfl) (lyn (i := 5) (off := 5) (N := 19) hn (ly (i := 0) (off := 1) (k := 4) hn (ob0 hn) rfl rfl rfl) rfl rfl rfl) hf dX10_of_80 (fun x80 hf => ?_)
          cases hf
          refine W.widen (k := 4) (n := 47057) (Nat.le_of_ble_eq_true rfl) (Nat.le_of_ble_eq_true rfl) ?_; exact w_iretN C hn hH dX10_of_81
        · rw [if_neg e2] at hf
          by_cases e3 : a2 = 3
          · rw [if_pos e3] at hf
            refine r_tab (tgt := 82) C e3 ⟨by decide, by decide⟩ dX10_of_14 (by decide) (by decide) rfl (by decide) ?_
            refine lv_aload_n C.hx C.hb dX10_of_82 rfl (lv_at hl 0 rfl) ?_
            refine g_ref (off := 1) C hH (ob0 hn) (by decide) rfl rfl FL_RX10_10 dX10_of_83 ?_
            refine g_ref (off := 2) C hH (ly (i := 0) (off := 1) (k := 4) hn (ob0 hn) rfl rfl rfl) (by decide) rfl rfl FL_RX10_183 dX10_of_86 ?_
            refine lv_iload_n C.hx C.hb dX10_of_89 rfl (lv_at hl 1 rfl) ?_
            refine r_iald C hH (ly (i := 2) (off := 2) (k := 12) hn (ly (i := 0) (off := 1) (k := 4) hn (ob0 hn) rfl rfl rfl) rfl rfl rfl) (lyn (i := 2) (off := 2) (N := 19) hn (ly (i := 0) (off := 1) (k := 4) hn (ob0 hn) rfl rfl rfl) rfl rfl rfl) hf dX10_of_90 (fun x90 hf => ?_)
            cases hf
            refine W.widen (k := 4) (n := 47057) (Nat.le_of_ble_eq_true rfl) (Nat.le_of_ble_eq_true rfl) ?_; exact w_iretN C hn hH dX10_of_91
          · rw [if_neg e3] at hf
            by_cases e4 : a2 = 4
            · rw [if_pos e4] at hf
              refine r_tab (tgt := 92) C e4 ⟨by decide, by decide⟩ dX10_of_14 (by decide) (by decide) rfl (by decide) ?_
              refine lv_aload_n C.hx C.hb dX10_of_92 rfl (lv_at hl 0 rfl) ?_
              refine g_ref (off := 1) C hH (ob0 hn) (by decide) rfl rfl FL_RX10_10 dX10_of_93 ?_
              refine g_ref (off := 6) C hH (ly (i := 0) (off := 1) (k := 4) hn (ob0 hn) rfl rfl rfl) (by decide) rfl rfl FL_RX10_186 dX10_of_96 ?_
              refine lv_iload_n C.hx C.hb dX10_of_99 rfl (lv_at hl 1 rfl) ?_
              refine r_iald C hH (ly (i := 6) (off := 6) (k := 12) hn (ly (i := 0) (off := 1) (k := 4) hn (ob0 hn) rfl rfl rfl) rfl rfl rfl) (lyn (i := 6) (off := 6) (N := 19) hn (ly (i := 0) (off := 1) (k := 4) hn (ob0 hn) rfl rfl rfl) rfl rfl rfl) hf dX10_of_100 (fun x100 hf => ?_)
              cases hf
              refine W.widen (k := 4) (n := 47057) (Nat.le_of_ble_eq_true rfl) (Nat.le_of_ble_eq_true rfl) ?_; exact w_iretN C hn hH dX10_of_101
            · rw [if_neg e4] at hf
              by_cases e5 : a2 = 5
              · rw [if_pos e5] at hf
                refine r_tab (tgt := 102) C e5 ⟨by decide, by decide⟩ dX10_of_14 (by decide) (by decide) rfl (by decide) ?_
                refine lv_aload_n C.hx C.hb dX10_of_102 rfl (lv_at hl 0 rfl) ?_
                refine lv_iload_n C.hx C.hb dX10_of_103 rfl (lv_at hl 1 rfl) ?_
                obtain ⟨x104, M104, hc9, hf⟩ := cl_of hf
                refine w_callV2 (k := 0) (ci := 10) (rest := []) C hH hl (ob0 hn) (by decide) rfl (m_X10_mustBeWashed hn hc9) ML_RX10_189 MF_X10_mustBeWashed MI_X10_mustBeWashed rfl rfl (Nat.le_of_ble_eq_true rfl) ⟨Nat.le_of_ble_eq_true rfl, Nat.le_of_ble_eq_true rfl⟩ ⟨Nat.le_of_ble_eq_true rfl, Nat.le_of_ble_eq_true rfl⟩ dX10_of_104 (fun H locs hH => ?_)
                have hn := nOf_full M104
                generalize nOf M104 = n at hH hn
                cases hf
                exact w_iretN C hn hH dX10_of_107
              · rw [if_neg e5] at hf
                refine r_tabO (tgt := 108) C hR9 dX10_of_14 (by omega) (by decide) ?_
                refine lv_iconst (v := Int32.ofInt (-1)) C.hx C.hb dX10_of_108 rfl ?_
                cases hf
                refine W.widen (k := 4) (n := 47057) (Nat.le_of_ble_eq_true rfl) (Nat.le_of_ble_eq_true rfl) ?_; exact w_iretN C hn hH dX10_of_109
  · refine lv_iconst (v := Int32.ofInt (-1)) C.hx C.hb dX10_of_11 rfl ?_
    cases hf
    refine W.widen (k := 4) (n := 47057) (Nat.le_of_ble_eq_true rfl) (Nat.le_of_ble_eq_true rfl) ?_; exact w_iretN C hn hH dX10_of_12
