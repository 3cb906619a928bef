def zc_X5_init_8 (z : Zs) : Zs := zu (zu (zu (zu z 8 0) 8 1) 8 2) 8 3
def mc_X5_init_8 (M : Mem) : Mem := zr (zr (zr (zr M 9) 10) 11) 12
theorem zc_X5_init_8_fr {z : Zs} {a : Nat} (h : ∀ k i, a ≤ k → z k i = false) (ha : 13 ≤ a) : ∀ k i, a ≤ k → zc_X5_init_8 z k i = false := (zu_fresh (zu_fresh (zu_fresh (zu_fresh h (Nat.lt_of_lt_of_le (show 8 < 13 by decide) ha)) (Nat.lt_of_lt_of_le (show 8 < 13 by decide) ha)) (Nat.lt_of_lt_of_le (show 8 < 13 by decide) ha)) (Nat.lt_of_lt_of_le (show 8 < 13 by decide) ha))
set_option maxRecDepth 100000 in
set_option maxHeartbeats 4000000 in
theorem m_X5_init_8 {E : EE} {l : Launch} {z : Zs} {M : Mem} (hz0 : ∀ k i, 8 ≤ k → z k i = false) : CT E l yX5_init cX5_init 1 none 1 20 4 160 [.ref (eb E + 8)] 9 z M none 13 (zc_X5_init_8 z) (mc_X5_init_8 M) := by
  refine CT_of PN_RX5 (Nat.le_of_ble_eq_true rfl) ?_
  intro p e s m args below meth c C hH ls hl
  replace C : Cx E p s m args meth c cX5_init 1 RX5 none 9 "<init>" := C
  have hl : lv_has ls 1 [(0, .ref (eb E + 8))] := hl
  refine lv_aload_n C.hx C.hb dX5_init_0 rfl (lv_at hl 0 rfl) ?_
  refine w_oinit C hl.1 ML_RX5_3 (Nat.le_of_ble_eq_true rfl) (Nat.le_of_ble_eq_true rfl) dX5_init_1 ?_
  refine lv_aload_n C.hx C.hb dX5_init_4 rfl (lv_at hl 0 rfl) ?_
  refine lv_bipush (v := Int32.ofInt 40) C.hx C.hb dX5_init_5 (by decide) ?_
  refine w_newI (N := 40) C (by decide) hH AC_I rfl rfl (by decide) (Nat.le_of_ble_eq_true rfl) (Nat.le_of_ble_eq_true rfl) (fun h => absurd h (by unfold nfull; omega)) dX5_init_7 (fun H hH => ?_)
  have hH : ST E s 10 z (zr M 9) H [] := hH
  refine w_putF (k := 8) (off := 1) (ty := .array .int) C (by decide) hH (by decide) rfl (by decide) rfl FL_RX5_9 rfl rfl (by decide +kernel) (fun _ => rfl) (fun _ => rfl) dX5_init_9 (fun H locs hH => ?_)
  have hH : ST E s 10 (zu z 8 0) (zr M 9) H locs := hH
  refine lv_aload_n C.hx C.hb dX5_init_12 rfl (lv_at hl 0 rfl) ?_
  refine lv_bipush (v := Int32.ofInt 40) C.hx C.hb dX5_init_13 (by decide) ?_
  refine w_newI (N := 40) C (by decide) hH AC_I rfl rfl (by decide) (Nat.le_of_ble_eq_true rfl) (Nat.le_of_ble_eq_true rfl) (fun h => absurd h (by unfold nfull; omega)) dX5_init_15 (fun H hH => ?_)
  have hH : ST E s 11 (zu z 8 0) (zr (zr M 9) 10) H locs := hH
  refine w_putF (k := 8) (off := 2) (ty := .array .int) C (by decide) hH (by decide) rfl (by decide) rfl FL_RX5_15 rfl rfl (by decide +kernel) (fun _ => rfl) (fun _ => rfl) dX5_init_17 (fun H locs hH => ?_)
  have hH : ST E s 11 (zu (zu z 8 0) 8 1) (zr (zr M 9) 10) H locs := hH
  refine lv_aload_n C.hx C.hb dX5_init_20 rfl (lv_at hl 0 rfl) ?_
  refine lv_bipush (v := Int32.ofInt 40) C.hx C.hb dX5_init_21 (by decide) ?_
  refine w_newI (N := 40) C (by decide) hH AC_I rfl rfl (by decide) (Nat.le_of_ble_eq_true rfl) (Nat.le_of_ble_eq_true rfl) (fun h => absurd h (by unfold nfull; omega)) dX5_init_23 (fun H hH => ?_)
  have hH : ST E s 12 (zu (zu z 8 0) 8 1) (zr (zr (zr M 9) 10) 11) H locs := hH
  refine w_putF (k := 8) (off := 3) (ty := .array .int) C (by decide) hH (by decide) rfl (by decide) rfl FL_RX5_18 rfl rfl (by decide +kernel) (fun _ => rfl) (fun _ => rfl) dX5_init_25 (fun H locs hH => ?_)
  have hH : ST E s 12 (zu (zu (zu z 8 0) 8 1) 8 2) (zr (zr (zr M 9) 10) 11) H locs := hH
  refine lv_aload_n C.hx C.hb dX5_init_28 rfl (lv_at hl 0 rfl) ?_
  refine lv_bipush (v := Int32.ofInt 40) C.hx C.hb dX5_init_29 (by decide) ?_
  refine w_newI (N := 40) C (by decide) hH AC_I rfl rfl (by decide) (Nat.le_of_ble_eq_true rfl) (Nat.le_of_ble_eq_true rfl) (fun h => absurd h (by unfold nfull; omega)) dX5_init_31 (fun H hH => ?_)
  have hH : ST E s 13 (zu (zu (zu z 8 0) 8 1) 8 2) (zr (zr (zr (zr M 9) 10) 11) 12) H locs := hH
  refine w_putF (k := 8) (off := 4) (ty := .array .int) C (by decide) hH (by decide) rfl (by decide) rfl FL_RX5_21 rfl rfl (by decide +kernel) (fun _ => rfl) (fun _ => rfl) dX5_init_33 (fun H locs hH => ?_)
  have hH : ST E s 13 (zu (zu (zu (zu z 8 0) 8 1) 8 2) 8 3) (zr (zr (zr (zr M 9) 10) 11) 12) H locs := hH
  exact w_vret C hH dX5_init_36
def zc_X5_init_22 (z : Zs) : Zs := zu (zu (zu (zu z 22 0) 22 1) 22 2) 22 3
def mc_X5_init_22 (M : Mem) : Mem := zr (zr (zr (zr M 23) 24) 25) 26
theorem zc_X5_init_22_fr {z : Zs} {a : Nat} (h : ∀ k i, a ≤ k → z k i = false) (ha : 27 ≤ a) : ∀ k i, a ≤ k → zc_X5_init_22 z k i = false := (zu_fresh (zu_fresh (zu_fresh (zu_fresh h (Nat.lt_of_lt_of_le (show 22 < 27 by decide) ha)) (Nat.lt_of_lt_of_le (show 22 < 27 by decide) ha)) (Nat.lt_of_lt_of_le (show 22 < 27 by decide) ha)) (Nat.lt_of_lt_of_le (show 22 < 27 by decide) ha))
set_option maxRecDepth 100000 in
set_option maxHeartbeats 4000000 in
theorem m_X5_init_22 {E : EE} {l : Launch} {z : Zs} {M : Mem} (hz0 : ∀ k i, 22 ≤ k → z k i = false) : CT E l yX5_init cX5_init 1 none 1 20 4 160 [.ref (eb E + 22)] 23 z M none 27 (zc_X5_init_22 z) (mc_X5_init_22 M) := by
  refine CT_of PN_RX5 (Nat.le_of_ble_eq_true rfl) ?_
  intro p e s m args below meth c C hH ls hl
  replace C : Cx E p s m args meth c cX5_init 1 RX5 none 23 "<init>" := C
  have hl : lv_has ls 1 [(0, .ref (eb E + 22))] := hl
  refine lv_aload_n C.hx C.hb dX5_init_0 rfl (lv_at hl 0 rfl) ?_
  refine w_oinit C hl.1 ML_RX5_3 (Nat.le_of_ble_eq_true rfl) (Nat.le_of_ble_eq_true rfl) dX5_init_1 ?_
  refine lv_aload_n C.hx C.hb dX5_init_4 rfl (lv_at hl 0 rfl) ?_
  refine lv_bipush (v := Int32.ofInt 40) C.hx C.hb dX5_init_5 (by decide) ?_
  refine w_newI (N := 40) C (by decide) hH AC_I rfl rfl (by decide) (Nat.le_of_ble_eq_true rfl) (Nat.le_of_ble_eq_true rfl) (fun h => absurd h (by unfold nfull; omega)) dX5_init_7 (fun H hH => ?_)
  have hH : ST E s 24 z (zr M 23) H [] := hH
  refine w_putF (k := 22) (off := 1) (ty := .array .int) C (by decide) hH (by decide) rfl (by decide) rfl FL_RX5_9 rfl rfl (by decide +kernel) (fun _ => rfl) (fun _ => rfl) dX5_init_9 (fun H locs hH => ?_)
  have hH : ST E s 24 (zu z 22 0) (zr M 23) H locs := hH
  refine lv_aload_n C.hx C.hb dX5_init_12 rfl (lv_at hl 0 rfl) ?_
  refine lv_bipush (v := Int32.ofInt 40) C.hx C.hb dX5_init_13 (by decide) ?_
  refine w_newI (N := 40) C (by decide) hH AC_I rfl rfl (by decide) (Nat.le_of_ble_eq_true rfl) (Nat.le_of_ble_eq_true rfl) (fun h => absurd h (by unfold nfull; omega)) dX5_init_15 (fun H hH => ?_)
  have hH : ST E s 25 (zu z 22 0) (zr (zr M 23) 24) H locs := hH
  refine w_putF (k := 22) (off := 2) (ty := .array .int) C (by decide) hH (by decide) rfl (by decide) rfl FL_RX5_15 rfl rfl (by decide +kernel) (fun _ => rfl) (fun _ => rfl) dX5_init_17 (fun H locs hH => ?_)
  have hH : ST E s 25 (zu (zu z 22 0) 22 1) (zr (zr M 23) 24) H locs := hH
  refine lv_aload_n C.hx C.hb dX5_init_20 rfl (lv_at hl 0 rfl) ?_
  refine lv_bipush (v := Int32.ofInt 40) C.hx C.hb dX5_init_21 (by decide) ?_
  refine w_newI (N := 40) C (by decide) hH AC_I rfl rfl (by decide) (Nat.le_of_ble_eq_true rfl) (Nat.le_of_ble_eq_true rfl) (fun h => absurd h (by unfold nfull; omega)) dX5_init_23 (fun H hH => ?_)
  have hH : ST E s 26 (zu (zu z 22 0) 22 1) (zr (zr (zr M 23) 24) 25) H locs := hH
  refine w_putF (k := 22) (off := 3) (ty := .array .int) C (by decide) hH (by decide) rfl (by decide) rfl FL_RX5_18 rfl rfl (by decide +kernel) (fun _ => rfl) (fun _ => rfl) dX5_init_25 (fun H locs hH => ?_)
  have hH : ST E s 26 (zu (zu (zu z 22 0) 22 1) 22 2) (zr (zr (zr M 23) 24) 25) H locs := hH
  refine lv_aload_n C.hx C.hb dX5_init_28 rfl (lv_at hl 0 rfl) ?_
  refine lv_bipush (v := Int32.ofInt 40) C.hx C.hb dX5_init_29 (by decide) ?_
  refine w_newI (N := 40) C (by decide) hH AC_I rfl rfl (by decide) (Nat.le_of_ble_eq_true rfl) (Nat.le_of_ble_eq_true rfl) (fun h => absurd h (by unfold nfull; omega)) dX5_init_31 (fun H hH => ?_)
  have hH : ST E s 27 (zu (zu (zu z 22 0) 22 1) 22 2) (zr (zr (zr (zr M 23) 24) 25) 26) H locs := hH
  refine w_putF (k := 22) (off := 4) (ty := .array .int) C (by decide) hH (by decide) rfl (by decide) rfl FL_RX5_21 rfl rfl (by decide +kernel) (fun _ => rfl) (fun _ => rfl) dX5_init_33 (fun H locs hH => ?_)
  have hH : ST E s 27 (zu (zu (zu (zu z 22 0) 22 1) 22 2) 22 3) (zr (zr (zr (zr M 23) 24) 25) 26) H locs := hH
  exact w_vret C hH dX5_init_36
def zc_X4_init_1 (z : Zs) : Zs := zu (zu (zu (zc_X5_init_8 (zu (zu (zu (zu (zu (zu z 1 0) 1 2) 1 3) 1 4) 1 5) 1 6)) 1 13) 1 14) 1 15
def mc_X4_init_1 (M : Mem) : Mem := zr (zr (mc_X5_init_8 (zr (up (up (zr (zr (zr (zr (zr (zr M 2) 3) 4) 5) 6) 7) 1 10 3) 1 12 (-1)) 8)) 13) 14
theorem zc_X4_init_1_fr {z : Zs} {a : Nat} (h : ∀ k i, a ≤ k → z k i = false) (ha : 15 ≤ a) : ∀ k i, a ≤ k → zc_X4_init_1 z k i = false := (zu_fresh (zu_fresh (zu_fresh (zc_X5_init_8_fr (zu_fresh (zu_fresh (zu_fresh (zu_fresh (zu_fresh (zu_fresh h (Nat.lt_of_lt_of_le (show 1 < 15 by decide) ha)) (Nat.lt_of_lt_of_le (show 1 < 15 by decide) ha)) (Nat.lt_of_lt_of_le (show 1 < 15 by decide) ha)) (Nat.lt_of_lt_of_le (show 1 < 15 by decide) ha)) (Nat.lt_of_lt_of_le (show 1 < 15 by decide) ha)) (Nat.lt_of_lt_of_le (show 1 < 15 by decide) ha)) (Nat.le_trans (show 13 ≤ 15 by decide) ha)) (Nat.lt_of_lt_of_le (show 1 < 15 by decide) ha)) (Nat.lt_of_lt_of_le (show 1 < 15 by decide) ha)) (Nat.lt_of_lt_of_le (show 1 < 15 by decide) ha))
set_option maxRecDepth 100000 in
set_option maxHeartbeats 4000000 in
theorem m_X4_init_1 {E : EE} {l : Launch} {z : Zs} {M : Mem} (hz0 : ∀ k i, 1 ≤ k → z k i = false) : CT E l yX4_init cX4_init 1 none 2 40 13 284 [.ref (eb E + 1)] 2 z M none 15 (zc_X4_init_1 z) (mc_X4_init_1 M) := by
  refine CT_of PN_RX4 (Nat.le_of_ble_eq_true rfl) ?_
  intro p e s m args below meth c C hH ls hl
  replace C : Cx E p s m args meth c cX4_init 1 RX4 none 2 "<init>" := C
  have hl : lv_has ls 1 [(0, .ref (eb E + 1))] := hl
  refine lv_aload_n C.hx C.hb dX4_init_0 rfl (lv_at hl 0 rfl) ?_
  refine w_oinit C hl.1 ML_RX4_3 (Nat.le_of_ble_eq_true rfl) (Nat.le_of_ble_eq_true rfl) dX4_init_1 ?_
  refine lv_aload_n C.hx C.hb dX4_init_4 rfl (lv_at hl 0 rfl) ?_
  refine lv_bipush (v := Int32.ofInt 10) C.hx C.hb dX4_init_5 (by decide) ?_
  refine w_newI (N := 10) C (by decide) hH AC_I rfl rfl (by decide) (Nat.le_of_ble_eq_true rfl) (Nat.le_of_ble_eq_true rfl) (fun h => absurd h (by unfold nfull; omega)) dX4_init_7 (fun H hH => ?_)
  have hH : ST E s 3 z (zr M 2) H [] := hH
  refine w_putF (k := 1) (off := 1) (ty := .array .int) C (by decide) hH (by decide) rfl (by decide) rfl FL_RX4_9 rfl rfl (by decide +kernel) (fun _ => rfl) (fun _ => rfl) dX4_init_9 (fun H locs hH => ?_)
  have hH : ST E s 3 (zu z 1 0) (zr M 2) H locs := hH
  refine lv_aload_n C.hx C.hb dX4_init_12 rfl (lv_at hl 0 rfl) ?_
  refine lv_bipush (v := Int32.ofInt 20) C.hx C.hb dX4_init_13 (by decide) ?_
  refine w_newI (N := 20) C (by decide) hH AC_I rfl rfl (by decide) (Nat.le_of_ble_eq_true rfl) (Nat.le_of_ble_eq_true rfl) (fun h => absurd h (by unfold nfull; omega)) dX4_init_15 (fun H hH => ?_)
  have hH : ST E s 4 (zu z 1 0) (zr (zr M 2) 3) H locs := hH
  refine w_putF (k := 1) (off := 2) (ty := .array .int) C (by decide) hH (by decide) rfl (by decide) rfl FL_RX4_15 rfl rfl (by decide +kernel) (fun _ => rfl) (fun _ => rfl) dX4_init_17 (fun H locs hH => ?_)
  have hH : ST E s 4 (zu (zu z 1 0) 1 2) (zr (zr M 2) 3) H locs := hH
  refine lv_aload_n C.hx C.hb dX4_init_20 rfl (lv_at hl 0 rfl) ?_
  refine lv_bipush (v := Int32.ofInt 20) C.hx C.hb dX4_init_21 (by decide) ?_
  refine w_newI (N := 20) C (by decide) hH AC_I rfl rfl (by decide) (Nat.le_of_ble_eq_true rfl) (Nat.le_of_ble_eq_true rfl) (fun h => absurd h (by unfold nfull; omega)) dX4_init_23 (fun H hH => ?_)
  have hH : ST E s 5 (zu (zu z 1 0) 1 2) (zr (zr (zr M 2) 3) 4) H locs := hH
  refine w_putF (k := 1) (off := 3) (ty := .array .int) C (by decide) hH (by decide) rfl (by decide) rfl FL_RX4_18 rfl rfl (by decide +kernel) (fun _ => rfl) (fun _ => rfl) dX4_init_25 (fun H locs hH => ?_)
  have hH : ST E s 5 (zu (zu (zu z 1 0) 1 2) 1 3) (zr (zr (zr M 2) 3) 4) H locs := hH
  refine lv_aload_n C.hx C.hb dX4_init_28 rfl (lv_at hl 0 rfl) ?_
  refine lv_bipush (v := Int32.ofInt 20) C.hx C.hb dX4_init_29 (by decide) ?_
  refine w_newI (N := 20) C (by decide) hH AC_I rfl rfl (by decide) (Nat.le_of_ble_eq_true rfl) (Nat.le_of_ble_eq_true rfl) (fun h => absurd h (by unfold nfull; omega)) dX4_init_31 (fun H hH => ?_)
  have hH : ST E s 6 (zu (zu (zu z 1 0) 1 2) 1 3) (zr (zr (zr (zr M 2) 3) 4) 5) H locs := hH
  refine w_putF (k := 1) (off := 4) (ty := .array .int) C (by decide) hH (by decide) rfl (by decide) rfl FL_RX4_21 rfl rfl (by decide +kernel) (fun _ => rfl) (fun _ => rfl) dX4_init_33 (fun H locs hH => ?_)
  have hH : ST E s 6 (zu (zu (zu (zu z 1 0) 1 2) 1 3) 1 4) (zr (zr (zr (zr M 2) 3) 4) 5) H locs := hH
  refine lv_aload_n C.hx C.hb dX4_init_36 rfl (lv_at hl 0 rfl) ?_
  refine lv_bipush (v := Int32.ofInt 20) C.hx C.hb dX4_init_37 (by decide) ?_
  refine w_newI (N := 20) C (by decide) hH AC_I rfl rfl (by decide) (Nat.le_of_ble_eq_true rfl) (Nat.le_of_ble_eq_true rfl) (fun h => absurd h (by unfold nfull; omega)) dX4_init_39 (fun H hH => ?_)
  have hH : ST E s 7 (zu (zu (zu (zu z 1 0) 1 2) 1 3) 1 4) (zr (zr (zr (zr (zr M 2) 3) 4) 5) 6) H locs := hH
  refine w_putF (k := 1) (off := 5) (ty := .array .int) C (by decide) hH (by decide) rfl (by decide) rfl FL_RX4_24 rfl rfl (by decide +kernel) (fun _ => rfl) (fun _ => rfl) dX4_init_41 (fun H locs hH => ?_)
  have hH : ST E s 7 (zu (zu (zu (zu (zu z 1 0) 1 2) 1 3) 1 4) 1 5) (zr (zr (zr (zr (zr M 2) 3) 4) 5) 6) H locs := hH
  refine lv_aload_n C.hx C.hb dX4_init_44 rfl (lv_at hl 0 rfl) ?_
  refine lv_bipush (v := Int32.ofInt 20) C.hx C.hb dX4_init_45 (by decide) ?_
  refine w_newI (N := 20) C (by decide) hH AC_I rfl rfl (by decide) (Nat.le_of_ble_eq_true rfl) (Nat.le_of_ble_eq_true rfl) (fun h => absurd h (by unfold nfull; omega)) dX4_init_47 (fun H hH => ?_)
  have hH : ST E s 8 (zu (zu (zu (zu (zu z 1 0) 1 2) 1 3) 1 4) 1 5) (zr (zr (zr (zr (zr (zr M 2) 3) 4) 5) 6) 7) H locs := hH
  refine w_putF (k := 1) (off := 6) (ty := .array .int) C (by decide) hH (by decide) rfl (by decide) rfl FL_RX4_27 rfl rfl (by decide +kernel) (fun _ => rfl) (fun _ => rfl) dX4_init_49 (fun H locs hH => ?_)
  have hH : ST E s 8 (zu (zu (zu (zu (zu (zu z 1 0) 1 2) 1 3) 1 4) 1 5) 1 6) (zr (zr (zr (zr (zr (zr M 2) 3) 4) 5) 6) 7) H locs := hH
  refine lv_aload_n C.hx C.hb dX4_init_52 rfl (lv_at hl 0 rfl) ?_
  refine lv_iconst (v := Int32.ofInt 3) C.hx C.hb dX4_init_53 rfl ?_
  refine w_putI (k := 1) C (by decide) hH (by decide) rfl (by decide) rfl FL_RX4_30 FW_4_10 dX4_init_54 (fun H locs hH => ?_)
  have hH : ST E s 8 (zu (zu (zu (zu (zu (zu z 1 0) 1 2) 1 3) 1 4) 1 5) 1 6) (up (zr (zr (zr (zr (zr (zr M 2) 3) 4) 5) 6) 7) 1 10 3) H locs := hH
  refine lv_aload_n C.hx C.hb dX4_init_57 rfl (lv_at hl 0 rfl) ?_
  refine lv_iconst (v := Int32.ofInt (-1)) C.hx C.hb dX4_init_58 rfl ?_
  refine w_putI (k := 1) C (by decide) hH (by decide) rfl (by decide) rfl FL_RX4_34 FW_4_12 dX4_init_59 (fun H locs hH => ?_)
  have hH : ST E s 8 (zu (zu (zu (zu (zu (zu z 1 0) 1 2) 1 3) 1 4) 1 5) 1 6) (up (up (zr (zr (zr (zr (zr (zr M 2) 3) 4) 5) 6) 7) 1 10 3) 1 12 (-1)) H locs := hH
  refine lv_aload_n C.hx C.hb dX4_init_62 rfl (lv_at hl 0 rfl) ?_
  refine w_newO (M' := zr (up (up (zr (zr (zr (zr (zr (zr M 2) 3) 4) 5) 6) 7) 1 10 3) 1 12 (-1)) 8) (N := 6) C (by decide) hH (fun _ _ _ => rfl) (Or.inr rfl) rfl (by decide) (fun i => (zu_fresh (zu_fresh (zu_fresh (zu_fresh (zu_fresh (zu_fresh (fun k i h => hz0 k i (Nat.le_trans (show 1 ≤ 8 by decide) h)) (show 1 < 8 by decide)) (show 1 < 8 by decide)) (show 1 < 8 by decide)) (show 1 < 8 by decide)) (show 1 < 8 by decide)) (show 1 < 8 by decide)) 8 i (Nat.le_refl _)) KC_RX4_37 IS_5 IZ_5 rfl DF_5 (Nat.le_of_ble_eq_true rfl) (Nat.le_of_ble_eq_true rfl) (fun h => absurd h (by unfold nfull; omega)) dX4_init_63 (fun H hH => ?_)
  have hH : ST E s 9 (zu (zu (zu (zu (zu (zu z 1 0) 1 2) 1 3) 1 4) 1 5) 1 6) (zr (up (up (zr (zr (zr (zr (zr (zr M 2) 3) 4) 5) 6) 7) 1 10 3) 1 12 (-1)) 8) H locs := hH
  refine lv_dup C.hx C.hb dX4_init_66 rfl ?_
  refine w_callIN (rest := [.ref (eb E + 8), .ref (eb E + 1)]) C hH hl (m_X5_init_8 (zu_fresh (zu_fresh (zu_fresh (zu_fresh (zu_fresh (zu_fresh (fun k i h => hz0 k i (Nat.le_trans (show 1 ≤ 8 by decide) h)) (show 1 < 8 by decide)) (show 1 < 8 by decide)) (show 1 < 8 by decide)) (show 1 < 8 by decide)) (show 1 < 8 by decide)) (show 1 < 8 by decide))) (by decide) MN_RX4_39 MF_X5_init MI_X5_init rfl rfl rfl (Nat.le_of_ble_eq_true rfl) ⟨Nat.le_of_ble_eq_true rfl, Nat.le_of_ble_eq_true rfl⟩ ⟨Nat.le_of_ble_eq_true rfl, Nat.le_of_ble_eq_true rfl⟩ dX4_init_67 (fun H locs hH => ?_)
  have hH : ST E s 13 (zc_X5_init_8 (zu (zu (zu (zu (zu (zu z 1 0) 1 2) 1 3) 1 4) 1 5) 1 6)) (mc_X5_init_8 (zr (up (up (zr (zr (zr (zr (zr (zr M 2) 3) 4) 5) 6) 7) 1 10 3) 1 12 (-1)) 8)) H locs := hH
  refine w_putF (k := 1) (off := 7) (ty := .object "HeavierByHand$Steps") C (by decide) hH (by decide) rfl (by decide) rfl FL_RX4_40 rfl rfl (by decide +kernel) (fun _ => rfl) (fun _ => rfl) dX4_init_70 (fun H locs hH => ?_)
  have hH : ST E s 13 (zu (zc_X5_init_8 (zu (zu (zu (zu (zu (zu z 1 0) 1 2) 1 3) 1 4) 1 5) 1 6)) 1 13) (mc_X5_init_8 (zr (up (up (zr (zr (zr (zr (zr (zr M 2) 3) 4) 5) 6) 7) 1 10 3) 1 12 (-1)) 8)) H locs := hH
  refine lv_aload_n C.hx C.hb dX4_init_73 rfl (lv_at hl 0 rfl) ?_
  refine lv_iconst (v := Int32.ofInt 4) C.hx C.hb dX4_init_74 rfl ?_
  refine w_newI (N := 4) C (by decide) hH AC_I rfl rfl (by decide) (Nat.le_of_ble_eq_true rfl) (Nat.le_of_ble_eq_true rfl) (fun h => absurd h (by unfold nfull; omega)) dX4_init_75 (fun H hH => ?_)
  have hH : ST E s 14 (zu (zc_X5_init_8 (zu (zu (zu (zu (zu (zu z 1 0) 1 2) 1 3) 1 4) 1 5) 1 6)) 1 13) (zr (mc_X5_init_8 (zr (up (up (zr (zr (zr (zr (zr (zr M 2) 3) 4) 5) 6) 7) 1 10 3) 1 12 (-1)) 8)) 13) H locs := hH
  refine w_putF (k := 1) (off := 12) (ty := .array .int) C (by decide) hH (by decide) rfl (by decide) rfl FL_RX4_44 rfl rfl (by decide +kernel) (fun _ => rfl) (fun _ => rfl) dX4_init_77 (fun H locs hH => ?_)
  have hH : ST E s 14 (zu (zu (zc_X5_init_8 (zu (zu (zu (zu (zu (zu z 1 0) 1 2) 1 3) 1 4) 1 5) 1 6)) 1 13) 1 14) (zr (mc_X5_init_8 (zr (up (up (zr (zr (zr (zr (zr (zr M 2) 3) 4) 5) 6) 7) 1 10 3) 1 12 (-1)) 8)) 13) H locs := hH
  refine lv_aload_n C.hx C.hb dX4_init_80 rfl (lv_at hl 0 rfl) ?_
  refine lv_iconst (v := Int32.ofInt 4) C.hx C.hb dX4_init_81 rfl ?_
  refine w_newI (N := 4) C (by decide) hH AC_I rfl rfl (by decide) (Nat.le_of_ble_eq_true rfl) (Nat.le_of_ble_eq_true rfl) (fun h => absurd h (by unfold nfull; omega)) dX4_init_82 (fun H hH => ?_)
  have hH : ST E s 15 (zu (zu (zc_X5_init_8 (zu (zu (zu (zu (zu (zu z 1 0) 1 2) 1 3) 1 4) 1 5) 1 6)) 1 13) 1 14) (zr (zr (mc_X5_init_8 (zr (up (up (zr (zr (zr (zr (zr (zr M 2) 3) 4) 5) 6) 7) 1 10 3) 1 12 (-1)) 8)) 13) 14) H locs := hH
  refine w_putF (k := 1) (off := 13) (ty := .array .int) C (by decide) hH (by decide) rfl (by decide) rfl FL_RX4_47 rfl rfl (by decide +kernel) (fun _ => rfl) (fun _ => rfl) dX4_init_84 (fun H locs hH => ?_)
  have hH : ST E s 15 (zu (zu (zu (zc_X5_init_8 (zu (zu (zu (zu (zu (zu z 1 0) 1 2) 1 3) 1 4) 1 5) 1 6)) 1 13) 1 14) 1 15) (zr (zr (mc_X5_init_8 (zr (up (up (zr (zr (zr (zr (zr (zr M 2) 3) 4) 5) 6) 7) 1 10 3) 1 12 (-1)) 8)) 13) 14) H locs := hH
  exact w_vret C hH dX4_init_87
def zc_X4_init_15 (z : Zs) : Zs := zu (zu (zu (zc_X5_init_22 (zu (zu (zu (zu (zu (zu z 15 0) 15 2) 15 3) 15 4) 15 5) 15 6)) 15 13) 15 14) 15 15
def mc_X4_init_15 (M : Mem) : Mem := zr (zr (mc_X5_init_22 (zr (up (up (zr (zr (zr (zr (zr (zr M 16) 17) 18) 19) 20) 21) 15 10 3) 15 12 (-1)) 22)) 27) 28
theorem zc_X4_init_15_fr {z : Zs} {a : Nat} (h : ∀ k i, a ≤ k → z k i = false) (ha : 29 ≤ a) : ∀ k i, a ≤ k → zc_X4_init_15 z k i = false := (zu_fresh (zu_fresh (zu_fresh (zc_X5_init_22_fr (zu_fresh (zu_fresh (zu_fresh (zu_fresh (zu_fresh (zu_fresh h (Nat.lt_of_lt_of_le (show 15 < 29 by decide) ha)) (Nat.lt_of_lt_of_le (show 15 < 29 by decide) ha)) (Nat.lt_of_lt_of_le (show 15 < 29 by decide) ha)) (Nat.lt_of_lt_of_le (show 15 < 29 by decide) ha)) (Nat.lt_of_lt_of_le (show 15 < 29 by decide) ha)) (Nat.lt_of_lt_of_le (show 15 < 29 by decide) ha)) (Nat.le_trans (show 27 ≤ 29 by decide) ha)) (Nat.lt_of_lt_of_le (show 15 < 29 by decide) ha)) (Nat.lt_of_lt_of_le (show 15 < 29 by decide) ha)) (Nat.lt_of_lt_of_le (show 15 < 29 by decide) ha))
set_option maxRecDepth 100000 in
set_option maxHeartbeats 4000000 in
theorem m_X4_init_15 {E : EE} {l : Launch} {z : Zs} {M : Mem} (hz0 : ∀ k i, 15 ≤ k → z k i = false) : CT E l yX4_init cX4_init 1 none 2 40 13 284 [.ref (eb E + 15)] 16 z M none 29 (zc_X4_init_15 z) (mc_X4_init_15 M) := by
  refine CT_of PN_RX4 (Nat.le_of_ble_eq_true rfl) ?_
  intro p e s m args below meth c C hH ls hl
  replace C : Cx E p s m args meth c cX4_init 1 RX4 none 16 "<init>" := C
  have hl : lv_has ls 1 [(0, .ref (eb E + 15))] := hl
  refine lv_aload_n C.hx C.hb dX4_init_0 rfl (lv_at hl 0 rfl) ?_
  refine w_oinit C hl.1 ML_RX4_3 (Nat.le_of_ble_eq_true rfl) (Nat.le_of_ble_eq_true rfl) dX4_init_1 ?_
  refine lv_aload_n C.hx C.hb dX4_init_4 rfl (lv_at hl 0 rfl) ?_
  refine lv_bipush (v := Int32.ofInt 10) C.hx C.hb dX4_init_5 (by decide) ?_
  refine w_newI (N := 10) C (by decide) hH AC_I rfl rfl (by decide) (Nat.le_of_ble_eq_true rfl) (Nat.le_of_ble_eq_true rfl) (fun h => absurd h (by unfold nfull; omega)) dX4_init_7 (fun H hH => ?_)
  have hH : ST E s 17 z (zr M 16) H [] := hH
  refine w_putF (k := 15) (off := 1) (ty := .array .int) C (by decide) hH (by decide) rfl (by decide) rfl FL_RX4_9 rfl rfl (by decide +kernel) (fun _ => rfl) (fun _ => rfl) dX4_init_9 (fun H locs hH => ?_)
  have hH : ST E s 17 (zu z 15 0) (zr M 16) H locs := hH
  refine lv_aload_n C.hx C.hb dX4_init_12 rfl (lv_at hl 0 rfl) ?_
  refine lv_bipush (v := Int32.ofInt 20) C.hx C.hb dX4_init_13 (by decide) ?_
  refine w_newI (N := 20) C (by decide) hH AC_I rfl rfl (by decide) (Nat.le_of_ble_eq_true rfl) (Nat.le_of_ble_eq_true rfl) (fun h => absurd h (by unfold nfull; omega)) dX4_init_15 (fun H hH => ?_)
  have hH : ST E s 18 (zu z 15 0) (zr (zr M 16) 17) H locs := hH
  refine w_putF (k := 15) (off := 2) (ty := .array .int) C (by decide) hH (by decide) rfl (by decide) rfl FL_RX4_15 rfl rfl (by decide +kernel) (fun _ => rfl) (fun _ => rfl) dX4_init_17 (fun H locs hH => ?_)
  have hH : ST E s 18 (zu (zu z 15 0) 15 2) (zr (zr M 16) 17) H locs := hH
  refine lv_aload_n C.hx C.hb dX4_init_20 rfl (lv_at hl 0 rfl) ?_
  refine lv_bipush (v := Int32.ofInt 20) C.hx C.hb dX4_init_21 (by decide) ?_
  refine w_newI (N := 20) C (by decide) hH AC_I rfl rfl (by decide) (Nat.le_of_ble_eq_true rfl) (Nat.le_of_ble_eq_true rfl) (fun h => absurd h (by unfold nfull; omega)) dX4_init_23 (fun H hH => ?_)
  have hH : ST E s 19 (zu (zu z 15 0) 15 2) (zr (zr (zr M 16) 17) 18) H locs := hH
  refine w_putF (k := 15) (off := 3) (ty := .array .int) C (by decide) hH (by decide) rfl (by decide) rfl FL_RX4_18 rfl rfl (by decide +kernel) (fun _ => rfl) (fun _ => rfl) dX4_init_25 (fun H locs hH => ?_)
  have hH : ST E s 19 (zu (zu (zu z 15 0) 15 2) 15 3) (zr (zr (zr M 16) 17) 18) H locs := hH
  refine lv_aload_n C.hx C.hb dX4_init_28 rfl (lv_at hl 0 rfl) ?_
  refine lv_bipush (v := Int32.ofInt 20) C.hx C.hb dX4_init_29 (by decide) ?_
  refine w_newI (N := 20) C (by decide) hH AC_I rfl rfl (by decide) (Nat.le_of_ble_eq_true rfl) (Nat.le_of_ble_eq_true rfl) (fun h => absurd h (by unfold nfull; omega)) dX4_init_31 (fun H hH => ?_)
  have hH : ST E s 20 (zu (zu (zu z 15 0) 15 2) 15 3) (zr (zr (zr (zr M 16) 17) 18) 19) H locs := hH
  refine w_putF (k := 15) (off := 4) (ty := .array .int) C (by decide) hH (by decide) rfl (by decide) rfl FL_RX4_21 rfl rfl (by decide +kernel) (fun _ => rfl) (fun _ => rfl) dX4_init_33 (fun H locs hH => ?_)
  have hH : ST E s 20 (zu (zu (zu (zu z 15 0) 15 2) 15 3) 15 4) (zr (zr (zr (zr M 16) 17) 18) 19) H locs := hH
  refine lv_aload_n C.hx C.hb dX4_init_36 rfl (lv_at hl 0 rfl) ?_
  refine lv_bipush (v := Int32.ofInt 20) C.hx C.hb dX4_init_37 (by decide) ?_
  refine w_newI (N := 20) C (by decide) hH AC_I rfl rfl (by decide) (Nat.le_of_ble_eq_true rfl) (Nat.le_of_ble_eq_true rfl) (fun h => absurd h (by unfold nfull; omega)) dX4_init_39 (fun H hH => ?_)
  have hH : ST E s 21 (zu (zu (zu (zu z 15 0) 15 2) 15 3) 15 4) (zr (zr (zr (zr (zr M 16) 17) 18) 19) 20) H locs := hH
  refine w_putF (k := 15) (off := 5) (ty := .array .int) C (by decide) hH (by decide) rfl (by decide) rfl FL_RX4_24 rfl rfl (by decide +kernel) (fun _ => rfl) (fun _ => rfl) dX4_init_41 (fun H locs hH => ?_)
  have hH : ST E s 21 (zu (zu (zu (zu (zu z 15 0) 15 2) 15 3) 15 4) 15 5) (zr (zr (zr (zr (zr M 16) 17) 18) 19) 20) H locs := hH
  refine lv_aload_n C.hx C.hb dX4_init_44 rfl (lv_at hl 0 rfl) ?_
  refine lv_bipush (v := Int32.ofInt 20) C.hx C.hb dX4_init_45 (by decide) ?_
  refine w_newI (N := 20) C (by decide) hH AC_I rfl rfl (by decide) (Nat.le_of_ble_eq_true rfl) (Nat.le_of_ble_eq_true rfl) (fun h => absurd h (by unfold nfull; omega)) dX4_init_47 (fun H hH => ?_)
  have hH : ST E s 22 (zu (zu (zu (zu (zu z 15 0) 15 2) 15 3) 15 4) 15 5) (zr (zr (zr (zr (zr (zr M 16) 17) 18) 19) 20) 21) H locs := hH
  refine w_putF (k := 15) (off := 6) (ty := .array .int) C (by decide) hH (by decide) rfl (by decide) rfl FL_RX4_27 rfl rfl (by decide +kernel) (fun _ => rfl) (fun _ => rfl) dX4_init_49 (fun H locs hH => ?_)
  have hH : ST E s 22 (zu (zu (zu (zu (zu (zu z 15 0) 15 2) 15 3) 15 4) 15 5) 15 6) (zr (zr (zr (zr (zr (zr M 16) 17) 18) 19) 20) 21) H locs := hH
  refine lv_aload_n C.hx C.hb dX4_init_52 rfl (lv_at hl 0 rfl) ?_
  refine lv_iconst (v := Int32.ofInt 3) C.hx C.hb dX4_init_53 rfl ?_
  refine w_putI (k := 15) C (by decide) hH (by decide) rfl (by decide) rfl FL_RX4_30 FW_4_10 dX4_init_54 (fun H locs hH => ?_)
  have hH : ST E s 22 (zu (zu (zu (zu (zu (zu z 15 0) 15 2) 15 3) 15 4) 15 5) 15 6) (up (zr (zr (zr (zr (zr (zr M 16) 17) 18) 19) 20) 21) 15 10 3) H locs := hH
  refine lv_aload_n C.hx C.hb dX4_init_57 rfl (lv_at hl 0 rfl) ?_
  refine lv_iconst (v := Int32.ofInt (-1)) C.hx C.hb dX4_init_58 rfl ?_
  refine w_putI (k := 15) C (by decide) hH (by decide) rfl (by decide) rfl FL_RX4_34 FW_4_12 dX4_init_59 (fun H locs hH => ?_)
  have hH : ST E s 22 (zu (zu (zu (zu (zu (zu z 15 0) 15 2) 15 3) 15 4) 15 5) 15 6) (up (up (zr (zr (zr (zr (zr (zr M 16) 17) 18) 19) 20) 21) 15 10 3) 15 12 (-1)) H locs := hH
  refine lv_aload_n C.hx C.hb dX4_init_62 rfl (lv_at hl 0 rfl) ?_
  refine w_newO (M' := zr (up (up (zr (zr (zr (zr (zr (zr M 16) 17) 18) 19) 20) 21) 15 10 3) 15 12 (-1)) 22) (N := 6) C (by decide) hH (fun _ _ _ => rfl) (Or.inr rfl) rfl (by decide) (fun i => (zu_fresh (zu_fresh (zu_fresh (zu_fresh (zu_fresh (zu_fresh (fun k i h => hz0 k i (Nat.le_trans (show 15 ≤ 22 by decide) h)) (show 15 < 22 by decide)) (show 15 < 22 by decide)) (show 15 < 22 by decide)) (show 15 < 22 by decide)) (show 15 < 22 by decide)) (show 15 < 22 by decide)) 22 i (Nat.le_refl _)) KC_RX4_37 IS_5 IZ_5 rfl DF_5 (Nat.le_of_ble_eq_true rfl) (Nat.le_of_ble_eq_true rfl) (fun h => absurd h (by unfold nfull; omega)) dX4_init_63 (fun H hH => ?_)
  have hH : ST E s 23 (zu (zu (zu (zu (zu (zu z 15 0) 15 2) 15 3) 15 4) 15 5) 15 6) (zr (up (up (zr (zr (zr (zr (zr (zr M 16) 17) 18) 19) 20) 21) 15 10 3) 15 12 (-1)) 22) H locs := hH
  refine lv_dup C.hx C.hb dX4_init_66 rfl ?_
  refine w_callIN (rest := [.ref (eb E + 22), .ref (eb E + 15)]) C hH hl (m_X5_init_22 (zu_fresh (zu_fresh (zu_fresh (zu_fresh (zu_fresh (zu_fresh (fun k i h => hz0 k i (Nat.le_trans (show 15 ≤ 22 by decide) h)) (show 15 < 22 by decide)) (show 15 < 22 by decide)) (show 15 < 22 by decide)) (show 15 < 22 by decide)) (show 15 < 22 by decide)) (show 15 < 22 by decide))) (by decide) MN_RX4_39 MF_X5_init MI_X5_init rfl rfl rfl (Nat.le_of_ble_eq_true rfl) ⟨Nat.le_of_ble_eq_true rfl, Nat.le_of_ble_eq_true rfl⟩ ⟨Nat.le_of_ble_eq_true rfl, Nat.le_of_ble_eq_true rfl⟩ dX4_init_67 (fun H locs hH => ?_)
  have hH : ST E s 27 (zc_X5_init_22 (zu (zu (zu (zu (zu (zu z 15 0) 15 2) 15 3) 15 4) 15 5) 15 6)) (mc_X5_init_22 (zr (up (up (zr (zr (zr (zr (zr (zr M 16) 17) 18) 19) 20) 21) 15 10 3) 15 12 (-1)) 22)) H locs := hH
  refine w_putF (k := 15) (off := 7) (ty := .object "HeavierByHand$Steps") C (by decide) hH (by decide) rfl (by decide) rfl FL_RX4_40 rfl rfl (by decide +kernel) (fun _ => rfl) (fun _ => rfl) dX4_init_70 (fun H locs hH => ?_)
  have hH : ST E s 27 (zu (zc_X5_init_22 (zu (zu (zu (zu (zu (zu z 15 0) 15 2) 15 3) 15 4) 15 5) 15 6)) 15 13) (mc_X5_init_22 (zr (up (up (zr (zr (zr (zr (zr (zr M 16) 17) 18) 19) 20) 21) 15 10 3) 15 12 (-1)) 22)) H locs := hH
  refine lv_aload_n C.hx C.hb dX4_init_73 rfl (lv_at hl 0 rfl) ?_
  refine lv_iconst (v := Int32.ofInt 4) C.hx C.hb dX4_init_74 rfl ?_
  refine w_newI (N := 4) C (by decide) hH AC_I rfl rfl (by decide) (Nat.le_of_ble_eq_true rfl) (Nat.le_of_ble_eq_true rfl) (fun h => absurd h (by unfold nfull; omega)) dX4_init_75 (fun H hH => ?_)
  have hH : ST E s 28 (zu (zc_X5_init_22 (zu (zu (zu (zu (zu (zu z 15 0) 15 2) 15 3) 15 4) 15 5) 15 6)) 15 13) (zr (mc_X5_init_22 (zr (up (up (zr (zr (zr (zr (zr (zr M 16) 17) 18) 19) 20) 21) 15 10 3) 15 12 (-1)) 22)) 27) H locs := hH
  refine w_putF (k := 15) (off := 12) (ty := .array .int) C (by decide) hH (by decide) rfl (by decide) rfl FL_RX4_44 rfl rfl (by decide +kernel) (fun _ => rfl) (fun _ => rfl) dX4_init_77 (fun H locs hH => ?_)
  have hH : ST E s 28 (zu (zu (zc_X5_init_22 (zu (zu (zu (zu (zu (zu z 15 0) 15 2) 15 3) 15 4) 15 5) 15 6)) 15 13) 15 14) (zr (mc_X5_init_22 (zr (up (up (zr (zr (zr (zr (zr (zr M 16) 17) 18) 19) 20) 21) 15 10 3) 15 12 (-1)) 22)) 27) H locs := hH
  refine lv_aload_n C.hx C.hb dX4_init_80 rfl (lv_at hl 0 rfl) ?_
  refine lv_iconst (v := Int32.ofInt 4) C.hx C.hb dX4_init_81 rfl ?_
  refine w_newI (N := 4) C (by decide) hH AC_I rfl rfl (by decide) (Nat.le_of_ble_eq_true rfl) (Nat.le_of_ble_eq_true rfl) (fun h => absurd h (by unfold nfull; omega)) dX4_init_82 (fun H hH => ?_)
  have hH : ST E s 29 (zu (zu (zc_X5_init_22 (zu (zu (zu (zu (zu (zu z 15 0) 15 2) 15 3) 15 4) 15 5) 15 6)) 15 13) 15 14) (zr (zr (mc_X5_init_22 (zr (up (up (zr (zr (zr (zr (zr (zr M 16) 17) 18) 19) 20) 21) 15 10 3) 15 12 (-1)) 22)) 27) 28) H locs := hH
  refine w_putF (k := 15) (off := 13) (ty := .array .int) C (by decide) hH (by decide) rfl (by decide) rfl FL_RX4_47 rfl rfl (by decide +kernel) (fun _ => rfl) (fun _ => rfl) dX4_init_84 (fun H locs hH => ?_)
  have hH : ST E s 29 (zu (zu (zu (zc_X5_init_22 (zu (zu (zu (zu (zu (zu z 15 0) 15 2) 15 3) 15 4) 15 5) 15 6)) 15 13) 15 14) 15 15) (zr (zr (mc_X5_init_22 (zr (up (up (zr (zr (zr (zr (zr (zr M 16) 17) 18) 19) 20) 21) 15 10 3) 15 12 (-1)) 22)) 27) 28) H locs := hH
  exact w_vret C hH dX4_init_87
def zc_X6_init_29 (z : Zs) : Zs := zu z 29 0
def mc_X6_init_29 (M : Mem) : Mem := zr M 30
theorem zc_X6_init_29_fr {z : Zs} {a : Nat} (h : ∀ k i, a ≤ k → z k i = false) (ha : 31 ≤ a) : ∀ k i, a ≤ k → zc_X6_init_29 z k i = false := (zu_fresh h (Nat.lt_of_lt_of_le (show 29 < 31 by decide) ha))
set_option maxRecDepth 100000 in
set_option maxHeartbeats 4000000 in
theorem m_X6_init_29 {E : EE} {l : Launch} {z : Zs} {M : Mem} (hz0 : ∀ k i, 29 ≤ k → z k i = false) : CT E l yX6_init cX6_init 1 none 1 20 1 300 [.ref (eb E + 29)] 30 z M none 31 (zc_X6_init_29 z) (mc_X6_init_29 M) := by
  refine CT_of PN_RX6 (Nat.le_of_ble_eq_true rfl) ?_
  intro p e s m args below meth c C hH ls hl
  replace C : Cx E p s m args meth c cX6_init 1 RX6 none 30 "<init>" := C
  have hl : lv_has ls 1 [(0, .ref (eb E + 29))] := hl
  refine lv_aload_n C.hx C.hb dX6_init_0 rfl (lv_at hl 0 rfl) ?_
  refine w_oinit C hl.1 ML_RX6_3 (Nat.le_of_ble_eq_true rfl) (Nat.le_of_ble_eq_true rfl) dX6_init_1 ?_
  refine lv_aload_n C.hx C.hb dX6_init_4 rfl (lv_at hl 0 rfl) ?_
  refine lv_sipush (v := Int32.ofInt 300) C.hx C.hb dX6_init_5 (by decide) ?_
  refine w_newI (N := 300) C (by decide) hH AC_I rfl rfl (by decide) (Nat.le_of_ble_eq_true rfl) (Nat.le_of_ble_eq_true rfl) (fun h => absurd h (by unfold nfull; omega)) dX6_init_8 (fun H hH => ?_)
  have hH : ST E s 31 z (zr M 30) H [] := hH
  refine w_putF (k := 29) (off := 1) (ty := .array .int) C (by decide) hH (by decide) rfl (by decide) rfl FL_RX6_9 rfl rfl (by decide +kernel) (fun _ => rfl) (fun _ => rfl) dX6_init_10 (fun H locs hH => ?_)
  have hH : ST E s 31 (zu z 29 0) (zr M 30) H locs := hH
  exact w_vret C hH dX6_init_13
def zc_X7_init_32 (z : Zs) : Zs := zu (zu (zu (zu z 32 0) 32 6) 32 7) 32 8
def mc_X7_init_32 (M : Mem) : Mem := zr (zr (zr (zr M 33) 34) 35) 36
theorem zc_X7_init_32_fr {z : Zs} {a : Nat} (h : ∀ k i, a ≤ k → z k i = false) (ha : 37 ≤ a) : ∀ k i, a ≤ k → zc_X7_init_32 z k i = false := (zu_fresh (zu_fresh (zu_fresh (zu_fresh h (Nat.lt_of_lt_of_le (show 32 < 37 by decide) ha)) (Nat.lt_of_lt_of_le (show 32 < 37 by decide) ha)) (Nat.lt_of_lt_of_le (show 32 < 37 by decide) ha)) (Nat.lt_of_lt_of_le (show 32 < 37 by decide) ha))
set_option maxRecDepth 100000 in
set_option maxHeartbeats 4000000 in
theorem m_X7_init_32 {E : EE} {l : Launch} {z : Zs} {M : Mem} (hz0 : ∀ k i, 32 ≤ k → z k i = false) : CT E l yX7_init cX7_init 1 none 1 20 4 360 [.ref (eb E + 32)] 33 z M none 37 (zc_X7_init_32 z) (mc_X7_init_32 M) := by
  refine CT_of PN_RX7 (Nat.le_of_ble_eq_true rfl) ?_
  intro p e s m args below meth c C hH ls hl
  replace C : Cx E p s m args meth c cX7_init 1 RX7 none 33 "<init>" := C
  have hl : lv_has ls 1 [(0, .ref (eb E + 32))] := hl
  refine lv_aload_n C.hx C.hb dX7_init_0 rfl (lv_at hl 0 rfl) ?_
  refine w_oinit C hl.1 ML_RX7_3 (Nat.le_of_ble_eq_true rfl) (Nat.le_of_ble_eq_true rfl) dX7_init_1 ?_
  refine lv_aload_n C.hx C.hb dX7_init_4 rfl (lv_at hl 0 rfl) ?_
  refine lv_sipush (v := Int32.ofInt 300) C.hx C.hb dX7_init_5 (by decide) ?_
  refine w_newI (N := 300) C (by decide) hH AC_I rfl rfl (by decide) (Nat.le_of_ble_eq_true rfl) (Nat.le_of_ble_eq_true rfl) (fun h => absurd h (by unfold nfull; omega)) dX7_init_8 (fun H hH => ?_)
  have hH : ST E s 34 z (zr M 33) H [] := hH
  refine w_putF (k := 32) (off := 1) (ty := .array .int) C (by decide) hH (by decide) rfl (by decide) rfl FL_RX7_9 rfl rfl (by decide +kernel) (fun _ => rfl) (fun _ => rfl) dX7_init_10 (fun H locs hH => ?_)
  have hH : ST E s 34 (zu z 32 0) (zr M 33) H locs := hH
  refine lv_aload_n C.hx C.hb dX7_init_13 rfl (lv_at hl 0 rfl) ?_
  refine lv_bipush (v := Int32.ofInt 20) C.hx C.hb dX7_init_14 (by decide) ?_
  refine w_newI (N := 20) C (by decide) hH AC_I rfl rfl (by decide) (Nat.le_of_ble_eq_true rfl) (Nat.le_of_ble_eq_true rfl) (fun h => absurd h (by unfold nfull; omega)) dX7_init_16 (fun H hH => ?_)
  have hH : ST E s 35 (zu z 32 0) (zr (zr M 33) 34) H locs := hH
  refine w_putF (k := 32) (off := 2) (ty := .array .int) C (by decide) hH (by decide) rfl (by decide) rfl FL_RX7_15 rfl rfl (by decide +kernel) (fun _ => rfl) (fun _ => rfl) dX7_init_18 (fun H locs hH => ?_)
  have hH : ST E s 35 (zu (zu z 32 0) 32 6) (zr (zr M 33) 34) H locs := hH
  refine lv_aload_n C.hx C.hb dX7_init_21 rfl (lv_at hl 0 rfl) ?_
  refine lv_bipush (v := Int32.ofInt 20) C.hx C.hb dX7_init_22 (by decide) ?_
  refine w_newI (N := 20) C (by decide) hH AC_I rfl rfl (by decide) (Nat.le_of_ble_eq_true rfl) (Nat.le_of_ble_eq_true rfl) (fun h => absurd h (by unfold nfull; omega)) dX7_init_24 (fun H hH => ?_)
  have hH : ST E s 36 (zu (zu z 32 0) 32 6) (zr (zr (zr M 33) 34) 35) H locs := hH
  refine w_putF (k := 32) (off := 3) (ty := .array .int) C (by decide) hH (by decide) rfl (by decide) rfl FL_RX7_18 rfl rfl (by decide +kernel) (fun _ => rfl) (fun _ => rfl) dX7_init_26 (fun H locs hH => ?_)
  have hH : ST E s 36 (zu (zu (zu z 32 0) 32 6) 32 7) (zr (zr (zr M 33) 34) 35) H locs := hH
  refine lv_aload_n C.hx C.hb dX7_init_29 rfl (lv_at hl 0 rfl) ?_
  refine lv_bipush (v := Int32.ofInt 20) C.hx C.hb dX7_init_30 (by decide) ?_
  refine w_newI (N := 20) C (by decide) hH AC_I rfl rfl (by decide) (Nat.le_of_ble_eq_true rfl) (Nat.le_of_ble_eq_true rfl) (fun h => absurd h (by unfold nfull; omega)) dX7_init_32 (fun H hH => ?_)
  have hH : ST E s 37 (zu (zu (zu z 32 0) 32 6) 32 7) (zr (zr (zr (zr M 33) 34) 35) 36) H locs := hH
  refine w_putF (k := 32) (off := 4) (ty := .array .int) C (by decide) hH (by decide) rfl (by decide) rfl FL_RX7_21 rfl rfl (by decide +kernel) (fun _ => rfl) (fun _ => rfl) dX7_init_34 (fun H locs hH => ?_)
  have hH : ST E s 37 (zu (zu (zu (zu z 32 0) 32 6) 32 7) 32 8) (zr (zr (zr (zr M 33) 34) 35) 36) H locs := hH
  exact w_vret C hH dX7_init_37
def zc_X8_init_37 (z : Zs) : Zs := zu (zu (zu (zu z 37 0) 37 1) 37 2) 37 3
def mc_X8_init_37 (M : Mem) : Mem := zr (zr (zr (zr M 38) 39) 40) 41
theorem zc_X8_init_37_fr {z : Zs} {a : Nat} (h : ∀ k i, a ≤ k → z k i = false) (ha : 42 ≤ a) : ∀ k i, a ≤ k → zc_X8_init_37 z k i = false := (zu_fresh (zu_fresh (zu_fresh (zu_fresh h (Nat.lt_of_lt_of_le (show 37 < 42 by decide) ha)) (Nat.lt_of_lt_of_le (show 37 < 42 by decide) ha)) (Nat.lt_of_lt_of_le (show 37 < 42 by decide) ha)) (Nat.lt_of_lt_of_le (show 37 < 42 by decide) ha))
set_option maxRecDepth 100000 in
set_option maxHeartbeats 4000000 in
theorem m_X8_init_37 {E : EE} {l : Launch} {z : Zs} {M : Mem} (hz0 : ∀ k i, 37 ≤ k → z k i = false) : CT E l yX8_init cX8_init 1 none 1 20 4 1200 [.ref (eb E + 37)] 38 z M none 42 (zc_X8_init_37 z) (mc_X8_init_37 M) := by
  refine CT_of PN_RX8 (Nat.le_of_ble_eq_true rfl) ?_
  intro p e s m args below meth c C hH ls hl
  replace C : Cx E p s m args meth c cX8_init 1 RX8 none 38 "<init>" := C
  have hl : lv_has ls 1 [(0, .ref (eb E + 37))] := hl
  refine lv_aload_n C.hx C.hb dX8_init_0 rfl (lv_at hl 0 rfl) ?_
  refine w_oinit C hl.1 ML_RX8_3 (Nat.le_of_ble_eq_true rfl) (Nat.le_of_ble_eq_true rfl) dX8_init_1 ?_
  refine lv_aload_n C.hx C.hb dX8_init_4 rfl (lv_at hl 0 rfl) ?_
  refine lv_sipush (v := Int32.ofInt 300) C.hx C.hb dX8_init_5 (by decide) ?_
  refine w_newI (N := 300) C (by decide) hH AC_I rfl rfl (by decide) (Nat.le_of_ble_eq_true rfl) (Nat.le_of_ble_eq_true rfl) (fun h => absurd h (by unfold nfull; omega)) dX8_init_8 (fun H hH => ?_)
  have hH : ST E s 39 z (zr M 38) H [] := hH
  refine w_putF (k := 37) (off := 1) (ty := .array .int) C (by decide) hH (by decide) rfl (by decide) rfl FL_RX8_9 rfl rfl (by decide +kernel) (fun _ => rfl) (fun _ => rfl) dX8_init_10 (fun H locs hH => ?_)
  have hH : ST E s 39 (zu z 37 0) (zr M 38) H locs := hH
  refine lv_aload_n C.hx C.hb dX8_init_13 rfl (lv_at hl 0 rfl) ?_
  refine lv_sipush (v := Int32.ofInt 300) C.hx C.hb dX8_init_14 (by decide) ?_
  refine w_newI (N := 300) C (by decide) hH AC_I rfl rfl (by decide) (Nat.le_of_ble_eq_true rfl) (Nat.le_of_ble_eq_true rfl) (fun h => absurd h (by unfold nfull; omega)) dX8_init_17 (fun H hH => ?_)
  have hH : ST E s 40 (zu z 37 0) (zr (zr M 38) 39) H locs := hH
  refine w_putF (k := 37) (off := 2) (ty := .array .int) C (by decide) hH (by decide) rfl (by decide) rfl FL_RX8_15 rfl rfl (by decide +kernel) (fun _ => rfl) (fun _ => rfl) dX8_init_19 (fun H locs hH => ?_)
  have hH : ST E s 40 (zu (zu z 37 0) 37 1) (zr (zr M 38) 39) H locs := hH
  refine lv_aload_n C.hx C.hb dX8_init_22 rfl (lv_at hl 0 rfl) ?_
  refine lv_sipush (v := Int32.ofInt 300) C.hx C.hb dX8_init_23 (by decide) ?_
  refine w_newI (N := 300) C (by decide) hH AC_I rfl rfl (by decide) (Nat.le_of_ble_eq_true rfl) (Nat.le_of_ble_eq_true rfl) (fun h => absurd h (by unfold nfull; omega)) dX8_init_26 (fun H hH => ?_)
  have hH : ST E s 41 (zu (zu z 37 0) 37 1) (zr (zr (zr M 38) 39) 40) H locs := hH
  refine w_putF (k := 37) (off := 3) (ty := .array .int) C (by decide) hH (by decide) rfl (by decide) rfl FL_RX8_18 rfl rfl (by decide +kernel) (fun _ => rfl) (fun _ => rfl) dX8_init_28 (fun H locs hH => ?_)
  have hH : ST E s 41 (zu (zu (zu z 37 0) 37 1) 37 2) (zr (zr (zr M 38) 39) 40) H locs := hH
  refine lv_aload_n C.hx C.hb dX8_init_31 rfl (lv_at hl 0 rfl) ?_
  refine lv_sipush (v := Int32.ofInt 300) C.hx C.hb dX8_init_32 (by decide) ?_
  refine w_newI (N := 300) C (by decide) hH AC_I rfl rfl (by decide) (Nat.le_of_ble_eq_true rfl) (Nat.le_of_ble_eq_true rfl) (fun h => absurd h (by unfold nfull; omega)) dX8_init_35 (fun H hH => ?_)
  have hH : ST E s 42 (zu (zu (zu z 37 0) 37 1) 37 2) (zr (zr (zr (zr M 38) 39) 40) 41) H locs := hH
  refine w_putF (k := 37) (off := 4) (ty := .array .int) C (by decide) hH (by decide) rfl (by decide) rfl FL_RX8_21 rfl rfl (by decide +kernel) (fun _ => rfl) (fun _ => rfl) dX8_init_37 (fun H locs hH => ?_)
  have hH : ST E s 42 (zu (zu (zu (zu z 37 0) 37 1) 37 2) 37 3) (zr (zr (zr (zr M 38) 39) 40) 41) H locs := hH
  exact w_vret C hH dX8_init_40
def zc_X1_init_31 (z : Zs) : Zs := zu (zc_X8_init_37 (zu (zc_X7_init_32 z) 31 0)) 31 1
def mc_X1_init_31 (M : Mem) : Mem := mc_X8_init_37 (zr (mc_X7_init_32 (zr M 32)) 37)
theorem zc_X1_init_31_fr {z : Zs} {a : Nat} (h : ∀ k i, a ≤ k → z k i = false) (ha : 42 ≤ a) : ∀ k i, a ≤ k → zc_X1_init_31 z k i = false := (zu_fresh (zc_X8_init_37_fr (zu_fresh (zc_X7_init_32_fr h (Nat.le_trans (show 37 ≤ 42 by decide) ha)) (Nat.lt_of_lt_of_le (show 31 < 42 by decide) ha)) (Nat.le_trans (show 42 ≤ 42 by decide) ha)) (Nat.lt_of_lt_of_le (show 31 < 42 by decide) ha))
set_option maxRecDepth 100000 in
set_option maxHeartbeats 4000000 in
theorem m_X1_init_31 {E : EE} {l : Launch} {z : Zs} {M : Mem} (hz0 : ∀ k i, 31 ≤ k → z k i = false) : CT E l yX1_init cX1_init 1 none 2 40 10 1580 [.ref (eb E + 31)] 32 z M none 42 (zc_X1_init_31 z) (mc_X1_init_31 M) := by
  refine CT_of PN_RX1 (Nat.le_of_ble_eq_true rfl) ?_
  intro p e s m args below meth c C hH ls hl
  replace C : Cx E p s m args meth c cX1_init 1 RX1 none 32 "<init>" := C
  have hl : lv_has ls 1 [(0, .ref (eb E + 31))] := hl
  refine lv_aload_n C.hx C.hb dX1_init_0 rfl (lv_at hl 0 rfl) ?_
  refine w_oinit C hl.1 ML_RX1_3 (Nat.le_of_ble_eq_true rfl) (Nat.le_of_ble_eq_true rfl) dX1_init_1 ?_
  refine lv_aload_n C.hx C.hb dX1_init_4 rfl (lv_at hl 0 rfl) ?_
  refine w_newO (M' := zr M 32) (N := 10) C (by decide) hH (fun _ _ _ => rfl) (Or.inr rfl) rfl (by decide) (fun i => (fun k i h => hz0 k i (Nat.le_trans (show 31 ≤ 32 by decide) h)) 32 i (Nat.le_refl _)) KC_RX1_9 IS_7 IZ_7 rfl DF_7 (Nat.le_of_ble_eq_true rfl) (Nat.le_of_ble_eq_true rfl) (fun h => absurd h (by unfold nfull; omega)) dX1_init_5 (fun H hH => ?_)
  have hH : ST E s 33 z (zr M 32) H [] := hH
  refine lv_dup C.hx C.hb dX1_init_8 rfl ?_
  refine w_callIN (rest := [.ref (eb E + 32), .ref (eb E + 31)]) C hH hl (m_X7_init_32 (fun k i h => hz0 k i (Nat.le_trans (show 31 ≤ 32 by decide) h))) (by decide) MN_RX1_11 MF_X7_init MI_X7_init rfl rfl rfl (Nat.le_of_ble_eq_true rfl) ⟨Nat.le_of_ble_eq_true rfl, Nat.le_of_ble_eq_true rfl⟩ ⟨Nat.le_of_ble_eq_true rfl, Nat.le_of_ble_eq_true rfl⟩ dX1_init_9 (fun H locs hH => ?_)
  have hH : ST E s 37 (zc_X7_init_32 z) (mc_X7_init_32 (zr M 32)) H locs := hH
  refine w_putF (k := 31) (off := 1) (ty := .object "HeavierByHand$Text") C (by decide) hH (by decide) rfl (by decide) rfl FL_RX1_12 rfl rfl (by decide +kernel) (fun _ => rfl) (fun _ => rfl) dX1_init_12 (fun H locs hH => ?_)
  have hH : ST E s 37 (zu (zc_X7_init_32 z) 31 0) (mc_X7_init_32 (zr M 32)) H locs := hH
  refine lv_aload_n C.hx C.hb dX1_init_15 rfl (lv_at hl 0 rfl) ?_
  refine w_newO (M' := zr (mc_X7_init_32 (zr M 32)) 37) (N := 10) C (by decide) hH (fun _ _ _ => rfl) (Or.inr rfl) rfl (by decide) (fun i => (zu_fresh (zc_X7_init_32_fr (fun k i h => hz0 k i (Nat.le_trans (show 31 ≤ 37 by decide) h)) (show 37 ≤ 37 by decide)) (show 31 < 37 by decide)) 37 i (Nat.le_refl _)) KC_RX1_18 IS_8 IZ_8 rfl DF_8 (Nat.le_of_ble_eq_true rfl) (Nat.le_of_ble_eq_true rfl) (fun h => absurd h (by unfold nfull; omega)) dX1_init_16 (fun H hH => ?_)
  have hH : ST E s 38 (zu (zc_X7_init_32 z) 31 0) (zr (mc_X7_init_32 (zr M 32)) 37) H locs := hH
  refine lv_dup C.hx C.hb dX1_init_19 rfl ?_
  refine w_callIN (rest := [.ref (eb E + 37), .ref (eb E + 31)]) C hH hl (m_X8_init_37 (zu_fresh (zc_X7_init_32_fr (fun k i h => hz0 k i (Nat.le_trans (show 31 ≤ 37 by decide) h)) (show 37 ≤ 37 by decide)) (show 31 < 37 by decide))) (by decide) MN_RX1_20 MF_X8_init MI_X8_init rfl rfl rfl (Nat.le_of_ble_eq_true rfl) ⟨Nat.le_of_ble_eq_true rfl, Nat.le_of_ble_eq_true rfl⟩ ⟨Nat.le_of_ble_eq_true rfl, Nat.le_of_ble_eq_true rfl⟩ dX1_init_20 (fun H locs hH => ?_)
  have hH : ST E s 42 (zc_X8_init_37 (zu (zc_X7_init_32 z) 31 0)) (mc_X8_init_37 (zr (mc_X7_init_32 (zr M 32)) 37)) H locs := hH
  refine w_putF (k := 31) (off := 6) (ty := .object "HeavierByHand$Tokens") C (by decide) hH (by decide) rfl (by decide) rfl FL_RX1_21 rfl rfl (by decide +kernel) (fun _ => rfl) (fun _ => rfl) dX1_init_23 (fun H locs hH => ?_)
  have hH : ST E s 42 (zu (zc_X8_init_37 (zu (zc_X7_init_32 z) 31 0)) 31 1) (mc_X8_init_37 (zr (mc_X7_init_32 (zr M 32)) 37)) H locs := hH
  exact w_vret C hH dX1_init_26
def zc_X7_init_43 (z : Zs) : Zs := zu (zu (zu (zu z 43 0) 43 6) 43 7) 43 8
def mc_X7_init_43 (M : Mem) : Mem := zr (zr (zr (zr M 44) 45) 46) 47
theorem zc_X7_init_43_fr {z : Zs} {a : Nat} (h : ∀ k i, a ≤ k → z k i = false) (ha : 48 ≤ a) : ∀ k i, a ≤ k → zc_X7_init_43 z k i = false := (zu_fresh (zu_fresh (zu_fresh (zu_fresh h (Nat.lt_of_lt_of_le (show 43 < 48 by decide) ha)) (Nat.lt_of_lt_of_le (show 43 < 48 by decide) ha)) (Nat.lt_of_lt_of_le (show 43 < 48 by decide) ha)) (Nat.lt_of_lt_of_le (show 43 < 48 by decide) ha))
set_option maxRecDepth 100000 in
set_option maxHeartbeats 4000000 in
theorem m_X7_init_43 {E : EE} {l : Launch} {z : Zs} {M : Mem} (hz0 : ∀ k i, 43 ≤ k → z k i = false) : CT E l yX7_init cX7_init 1 none 1 20 4 360 [.ref (eb E + 43)] 44 z M none 48 (zc_X7_init_43 z) (mc_X7_init_43 M) := by
  refine CT_of PN_RX7 (Nat.le_of_ble_eq_true rfl) ?_
  intro p e s m args below meth c C hH ls hl
  replace C : Cx E p s m args meth c cX7_init 1 RX7 none 44 "<init>" := C
  have hl : lv_has ls 1 [(0, .ref (eb E + 43))] := hl
  refine lv_aload_n C.hx C.hb dX7_init_0 rfl (lv_at hl 0 rfl) ?_
  refine w_oinit C hl.1 ML_RX7_3 (Nat.le_of_ble_eq_true rfl) (Nat.le_of_ble_eq_true rfl) dX7_init_1 ?_
  refine lv_aload_n C.hx C.hb dX7_init_4 rfl (lv_at hl 0 rfl) ?_
  refine lv_sipush (v := Int32.ofInt 300) C.hx C.hb dX7_init_5 (by decide) ?_
  refine w_newI (N := 300) C (by decide) hH AC_I rfl rfl (by decide) (Nat.le_of_ble_eq_true rfl) (Nat.le_of_ble_eq_true rfl) (fun h => absurd h (by unfold nfull; omega)) dX7_init_8 (fun H hH => ?_)
  have hH : ST E s 45 z (zr M 44) H [] := hH
  refine w_putF (k := 43) (off := 1) (ty := .array .int) C (by decide) hH (by decide) rfl (by decide) rfl FL_RX7_9 rfl rfl (by decide +kernel) (fun _ => rfl) (fun _ => rfl) dX7_init_10 (fun H locs hH => ?_)
  have hH : ST E s 45 (zu z 43 0) (zr M 44) H locs := hH
  refine lv_aload_n C.hx C.hb dX7_init_13 rfl (lv_at hl 0 rfl) ?_
  refine lv_bipush (v := Int32.ofInt 20) C.hx C.hb dX7_init_14 (by decide) ?_
  refine w_newI (N := 20) C (by decide) hH AC_I rfl rfl (by decide) (Nat.le_of_ble_eq_true rfl) (Nat.le_of_ble_eq_true rfl) (fun h => absurd h (by unfold nfull; omega)) dX7_init_16 (fun H hH => ?_)
  have hH : ST E s 46 (zu z 43 0) (zr (zr M 44) 45) H locs := hH
  refine w_putF (k := 43) (off := 2) (ty := .array .int) C (by decide) hH (by decide) rfl (by decide) rfl FL_RX7_15 rfl rfl (by decide +kernel) (fun _ => rfl) (fun _ => rfl) dX7_init_18 (fun H locs hH => ?_)
  have hH : ST E s 46 (zu (zu z 43 0) 43 6) (zr (zr M 44) 45) H locs := hH
  refine lv_aload_n C.hx C.hb dX7_init_21 rfl (lv_at hl 0 rfl) ?_
  refine lv_bipush (v := Int32.ofInt 20) C.hx C.hb dX7_init_22 (by decide) ?_
  refine w_newI (N := 20) C (by decide) hH AC_I rfl rfl (by decide) (Nat.le_of_ble_eq_true rfl) (Nat.le_of_ble_eq_true rfl) (fun h => absurd h (by unfold nfull; omega)) dX7_init_24 (fun H hH => ?_)
  have hH : ST E s 47 (zu (zu z 43 0) 43 6) (zr (zr (zr M 44) 45) 46) H locs := hH
  refine w_putF (k := 43) (off := 3) (ty := .array .int) C (by decide) hH (by decide) rfl (by decide) rfl FL_RX7_18 rfl rfl (by decide +kernel) (fun _ => rfl) (fun _ => rfl) dX7_init_26 (fun H locs hH => ?_)
  have hH : ST E s 47 (zu (zu (zu z 43 0) 43 6) 43 7) (zr (zr (zr M 44) 45) 46) H locs := hH
  refine lv_aload_n C.hx C.hb dX7_init_29 rfl (lv_at hl 0 rfl) ?_
  refine lv_bipush (v := Int32.ofInt 20) C.hx C.hb dX7_init_30 (by decide) ?_
  refine w_newI (N := 20) C (by decide) hH AC_I rfl rfl (by decide) (Nat.le_of_ble_eq_true rfl) (Nat.le_of_ble_eq_true rfl) (fun h => absurd h (by unfold nfull; omega)) dX7_init_32 (fun H hH => ?_)
  have hH : ST E s 48 (zu (zu (zu z 43 0) 43 6) 43 7) (zr (zr (zr (zr M 44) 45) 46) 47) H locs := hH
  refine w_putF (k := 43) (off := 4) (ty := .array .int) C (by decide) hH (by decide) rfl (by decide) rfl FL_RX7_21 rfl rfl (by decide +kernel) (fun _ => rfl) (fun _ => rfl) dX7_init_34 (fun H locs hH => ?_)
  have hH : ST E s 48 (zu (zu (zu (zu z 43 0) 43 6) 43 7) 43 8) (zr (zr (zr (zr M 44) 45) 46) 47) H locs := hH
  exact w_vret C hH dX7_init_37
def zc_X7_init_48 (z : Zs) : Zs := zu (zu (zu (zu z 48 0) 48 6) 48 7) 48 8
def mc_X7_init_48 (M : Mem) : Mem := zr (zr (zr (zr M 49) 50) 51) 52
theorem zc_X7_init_48_fr {z : Zs} {a : Nat} (h : ∀ k i, a ≤ k → z k i = false) (ha : 53 ≤ a) : ∀ k i, a ≤ k → zc_X7_init_48 z k i = false := (zu_fresh (zu_fresh (zu_fresh (zu_fresh h (Nat.lt_of_lt_of_le (show 48 < 53 by decide) ha)) (Nat.lt_of_lt_of_le (show 48 < 53 by decide) ha)) (Nat.lt_of_lt_of_le (show 48 < 53 by decide) ha)) (Nat.lt_of_lt_of_le (show 48 < 53 by decide) ha))
set_option maxRecDepth 100000 in
set_option maxHeartbeats 4000000 in
theorem m_X7_init_48 {E : EE} {l : Launch} {z : Zs} {M : Mem} (hz0 : ∀ k i, 48 ≤ k → z k i = false) : CT E l yX7_init cX7_init 1 none 1 20 4 360 [.ref (eb E + 48)] 49 z M none 53 (zc_X7_init_48 z) (mc_X7_init_48 M) := by
  refine CT_of PN_RX7 (Nat.le_of_ble_eq_true rfl) ?_
  intro p e s m args below meth c C hH ls hl
  replace C : Cx E p s m args meth c cX7_init 1 RX7 none 49 "<init>" := C
  have hl : lv_has ls 1 [(0, .ref (eb E + 48))] := hl
  refine lv_aload_n C.hx C.hb dX7_init_0 rfl (lv_at hl 0 rfl) ?_
  refine w_oinit C hl.1 ML_RX7_3 (Nat.le_of_ble_eq_true rfl) (Nat.le_of_ble_eq_true rfl) dX7_init_1 ?_
  refine lv_aload_n C.hx C.hb dX7_init_4 rfl (lv_at hl 0 rfl) ?_
  refine lv_sipush (v := Int32.ofInt 300) C.hx C.hb dX7_init_5 (by decide) ?_
  refine w_newI (N := 300) C (by decide) hH AC_I rfl rfl (by decide) (Nat.le_of_ble_eq_true rfl) (Nat.le_of_ble_eq_true rfl) (fun h => absurd h (by unfold nfull; omega)) dX7_init_8 (fun H hH => ?_)
  have hH : ST E s 50 z (zr M 49) H [] := hH
  refine w_putF (k := 48) (off := 1) (ty := .array .int) C (by decide) hH (by decide) rfl (by decide) rfl FL_RX7_9 rfl rfl (by decide +kernel) (fun _ => rfl) (fun _ => rfl) dX7_init_10 (fun H locs hH => ?_)
  have hH : ST E s 50 (zu z 48 0) (zr M 49) H locs := hH
  refine lv_aload_n C.hx C.hb dX7_init_13 rfl (lv_at hl 0 rfl) ?_
  refine lv_bipush (v := Int32.ofInt 20) C.hx C.hb dX7_init_14 (by decide) ?_
  refine w_newI (N := 20) C (by decide) hH AC_I rfl rfl (by decide) (Nat.le_of_ble_eq_true rfl) (Nat.le_of_ble_eq_true rfl) (fun h => absurd h (by unfold nfull; omega)) dX7_init_16 (fun H hH => ?_)
  have hH : ST E s 51 (zu z 48 0) (zr (zr M 49) 50) H locs := hH
  refine w_putF (k := 48) (off := 2) (ty := .array .int) C (by decide) hH (by decide) rfl (by decide) rfl FL_RX7_15 rfl rfl (by decide +kernel) (fun _ => rfl) (fun _ => rfl) dX7_init_18 (fun H locs hH => ?_)
  have hH : ST E s 51 (zu (zu z 48 0) 48 6) (zr (zr M 49) 50) H locs := hH
  refine lv_aload_n C.hx C.hb dX7_init_21 rfl (lv_at hl 0 rfl) ?_
  refine lv_bipush (v := Int32.ofInt 20) C.hx C.hb dX7_init_22 (by decide) ?_
  refine w_newI (N := 20) C (by decide) hH AC_I rfl rfl (by decide) (Nat.le_of_ble_eq_true rfl) (Nat.le_of_ble_eq_true rfl) (fun h => absurd h (by unfold nfull; omega)) dX7_init_24 (fun H hH => ?_)
  have hH : ST E s 52 (zu (zu z 48 0) 48 6) (zr (zr (zr M 49) 50) 51) H locs := hH
  refine w_putF (k := 48) (off := 3) (ty := .array .int) C (by decide) hH (by decide) rfl (by decide) rfl FL_RX7_18 rfl rfl (by decide +kernel) (fun _ => rfl) (fun _ => rfl) dX7_init_26 (fun H locs hH => ?_)
  have hH : ST E s 52 (zu (zu (zu z 48 0) 48 6) 48 7) (zr (zr (zr M 49) 50) 51) H locs := hH
  refine lv_aload_n C.hx C.hb dX7_init_29 rfl (lv_at hl 0 rfl) ?_
  refine lv_bipush (v := Int32.ofInt 20) C.hx C.hb dX7_init_30 (by decide) ?_
  refine w_newI (N := 20) C (by decide) hH AC_I rfl rfl (by decide) (Nat.le_of_ble_eq_true rfl) (Nat.le_of_ble_eq_true rfl) (fun h => absurd h (by unfold nfull; omega)) dX7_init_32 (fun H hH => ?_)
  have hH : ST E s 53 (zu (zu (zu z 48 0) 48 6) 48 7) (zr (zr (zr (zr M 49) 50) 51) 52) H locs := hH
  refine w_putF (k := 48) (off := 4) (ty := .array .int) C (by decide) hH (by decide) rfl (by decide) rfl FL_RX7_21 rfl rfl (by decide +kernel) (fun _ => rfl) (fun _ => rfl) dX7_init_34 (fun H locs hH => ?_)
  have hH : ST E s 53 (zu (zu (zu (zu z 48 0) 48 6) 48 7) 48 8) (zr (zr (zr (zr M 49) 50) 51) 52) H locs := hH
  exact w_vret C hH dX7_init_37
def zc_X7_init_53 (z : Zs) : Zs := zu (zu (zu (zu z 53 0) 53 6) 53 7) 53 8
def mc_X7_init_53 (M : Mem) : Mem := zr (zr (zr (zr M 54) 55) 56) 57
theorem zc_X7_init_53_fr {z : Zs} {a : Nat} (h : ∀ k i, a ≤ k → z k i = false) (ha : 58 ≤ a) : ∀ k i, a ≤ k → zc_X7_init_53 z k i = false := (zu_fresh (zu_fresh (zu_fresh (zu_fresh h (Nat.lt_of_lt_of_le (show 53 < 58 by decide) ha)) (Nat.lt_of_lt_of_le (show 53 < 58 by decide) ha)) (Nat.lt_of_lt_of_le (show 53 < 58 by decide) ha)) (Nat.lt_of_lt_of_le (show 53 < 58 by decide) ha))
set_option maxRecDepth 100000 in
set_option maxHeartbeats 4000000 in
theorem m_X7_init_53 {E : EE} {l : Launch} {z : Zs} {M : Mem} (hz0 : ∀ k i, 53 ≤ k → z k i = false) : CT E l yX7_init cX7_init 1 none 1 20 4 360 [.ref (eb E + 53)] 54 z M none 58 (zc_X7_init_53 z) (mc_X7_init_53 M) := by
  refine CT_of PN_RX7 (Nat.le_of_ble_eq_true rfl) ?_
  intro p e s m args below meth c C hH ls hl
  replace C : Cx E p s m args meth c cX7_init 1 RX7 none 54 "<init>" := C
  have hl : lv_has ls 1 [(0, .ref (eb E + 53))] := hl
  refine lv_aload_n C.hx C.hb dX7_init_0 rfl (lv_at hl 0 rfl) ?_
  refine w_oinit C hl.1 ML_RX7_3 (Nat.le_of_ble_eq_true rfl) (Nat.le_of_ble_eq_true rfl) dX7_init_1 ?_
  refine lv_aload_n C.hx C.hb dX7_init_4 rfl (lv_at hl 0 rfl) ?_
  refine lv_sipush (v := Int32.ofInt 300) C.hx C.hb dX7_init_5 (by decide) ?_
  refine w_newI (N := 300) C (by decide) hH AC_I rfl rfl (by decide) (Nat.le_of_ble_eq_true rfl) (Nat.le_of_ble_eq_true rfl) (fun h => absurd h (by unfold nfull; omega)) dX7_init_8 (fun H hH => ?_)
  have hH : ST E s 55 z (zr M 54) H [] := hH
  refine w_putF (k := 53) (off := 1) (ty := .array .int) C (by decide) hH (by decide) rfl (by decide) rfl FL_RX7_9 rfl rfl (by decide +kernel) (fun _ => rfl) (fun _ => rfl) dX7_init_10 (fun H locs hH => ?_)
  have hH : ST E s 55 (zu z 53 0) (zr M 54) H locs := hH
  refine lv_aload_n C.hx C.hb dX7_init_13 rfl (lv_at hl 0 rfl) ?_
  refine lv_bipush (v := Int32.ofInt 20) C.hx C.hb dX7_init_14 (by decide) ?_
  refine w_newI (N := 20) C (by decide) hH AC_I rfl rfl (by decide) (Nat.le_of_ble_eq_true rfl) (Nat.le_of_ble_eq_true rfl) (fun h => absurd h (by unfold nfull; omega)) dX7_init_16 (fun H hH => ?_)
  have hH : ST E s 56 (zu z 53 0) (zr (zr M 54) 55) H locs := hH
  refine w_putF (k := 53) (off := 2) (ty := .array .int) C (by decide) hH (by decide) rfl (by decide) rfl FL_RX7_15 rfl rfl (by decide +kernel) (fun _ => rfl) (fun _ => rfl) dX7_init_18 (fun H locs hH => ?_)
  have hH : ST E s 56 (zu (zu z 53 0) 53 6) (zr (zr M 54) 55) H locs := hH
  refine lv_aload_n C.hx C.hb dX7_init_21 rfl (lv_at hl 0 rfl) ?_
  refine lv_bipush (v := Int32.ofInt 20) C.hx C.hb dX7_init_22 (by decide) ?_
  refine w_newI (N := 20) C (by decide) hH AC_I rfl rfl (by decide) (Nat.le_of_ble_eq_true rfl) (Nat.le_of_ble_eq_true rfl) (fun h => absurd h (by unfold nfull; omega)) dX7_init_24 (fun H hH => ?_)
  have hH : ST E s 57 (zu (zu z 53 0) 53 6) (zr (zr (zr M 54) 55) 56) H locs := hH
  refine w_putF (k := 53) (off := 3) (ty := .array .int) C (by decide) hH (by decide) rfl (by decide) rfl FL_RX7_18 rfl rfl (by decide +kernel) (fun _ => rfl) (fun _ => rfl) dX7_init_26 (fun H locs hH => ?_)
  have hH : ST E s 57 (zu (zu (zu z 53 0) 53 6) 53 7) (zr (zr (zr M 54) 55) 56) H locs := hH
  refine lv_aload_n C.hx C.hb dX7_init_29 rfl (lv_at hl 0 rfl) ?_
  refine lv_bipush (v := Int32.ofInt 20) C.hx C.hb dX7_init_30 (by decide) ?_
  refine w_newI (N := 20) C (by decide) hH AC_I rfl rfl (by decide) (Nat.le_of_ble_eq_true rfl) (Nat.le_of_ble_eq_true rfl) (fun h => absurd h (by unfold nfull; omega)) dX7_init_32 (fun H hH => ?_)
  have hH : ST E s 58 (zu (zu (zu z 53 0) 53 6) 53 7) (zr (zr (zr (zr M 54) 55) 56) 57) H locs := hH
  refine w_putF (k := 53) (off := 4) (ty := .array .int) C (by decide) hH (by decide) rfl (by decide) rfl FL_RX7_21 rfl rfl (by decide +kernel) (fun _ => rfl) (fun _ => rfl) dX7_init_34 (fun H locs hH => ?_)
  have hH : ST E s 58 (zu (zu (zu (zu z 53 0) 53 6) 53 7) 53 8) (zr (zr (zr (zr M 54) 55) 56) 57) H locs := hH
  exact w_vret C hH dX7_init_37
def zc_X7_init_58 (z : Zs) : Zs := zu (zu (zu (zu z 58 0) 58 6) 58 7) 58 8
def mc_X7_init_58 (M : Mem) : Mem := zr (zr (zr (zr M 59) 60) 61) 62
theorem zc_X7_init_58_fr {z : Zs} {a : Nat} (h : ∀ k i, a ≤ k → z k i = false) (ha : 63 ≤ a) : ∀ k i, a ≤ k → zc_X7_init_58 z k i = false := (zu_fresh (zu_fresh (zu_fresh (zu_fresh h (Nat.lt_of_lt_of_le (show 58 < 63 by decide) ha)) (Nat.lt_of_lt_of_le (show 58 < 63 by decide) ha)) (Nat.lt_of_lt_of_le (show 58 < 63 by decide) ha)) (Nat.lt_of_lt_of_le (show 58 < 63 by decide) ha))
set_option maxRecDepth 100000 in
set_option maxHeartbeats 4000000 in
theorem m_X7_init_58 {E : EE} {l : Launch} {z : Zs} {M : Mem} (hz0 : ∀ k i, 58 ≤ k → z k i = false) : CT E l yX7_init cX7_init 1 none 1 20 4 360 [.ref (eb E + 58)] 59 z M none 63 (zc_X7_init_58 z) (mc_X7_init_58 M) := by
  refine CT_of PN_RX7 (Nat.le_of_ble_eq_true rfl) ?_
  intro p e s m args below meth c C hH ls hl
  replace C : Cx E p s m args meth c cX7_init 1 RX7 none 59 "<init>" := C
  have hl : lv_has ls 1 [(0, .ref (eb E + 58))] := hl
  refine lv_aload_n C.hx C.hb dX7_init_0 rfl (lv_at hl 0 rfl) ?_
  refine w_oinit C hl.1 ML_RX7_3 (Nat.le_of_ble_eq_true rfl) (Nat.le_of_ble_eq_true rfl) dX7_init_1 ?_
  refine lv_aload_n C.hx C.hb dX7_init_4 rfl (lv_at hl 0 rfl) ?_
  refine lv_sipush (v := Int32.ofInt 300) C.hx C.hb dX7_init_5 (by decide) ?_
  refine w_newI (N := 300) C (by decide) hH AC_I rfl rfl (by decide) (Nat.le_of_ble_eq_true rfl) (Nat.le_of_ble_eq_true rfl) (fun h => absurd h (by unfold nfull; omega)) dX7_init_8 (fun H hH => ?_)
  have hH : ST E s 60 z (zr M 59) H [] := hH
  refine w_putF (k := 58) (off := 1) (ty := .array .int) C (by decide) hH (by decide) rfl (by decide) rfl FL_RX7_9 rfl rfl (by decide +kernel) (fun _ => rfl) (fun _ => rfl) dX7_init_10 (fun H locs hH => ?_)
  have hH : ST E s 60 (zu z 58 0) (zr M 59) H locs := hH
  refine lv_aload_n C.hx C.hb dX7_init_13 rfl (lv_at hl 0 rfl) ?_
  refine lv_bipush (v := Int32.ofInt 20) C.hx C.hb dX7_init_14 (by decide) ?_
  refine w_newI (N := 20) C (by decide) hH AC_I rfl rfl (by decide) (Nat.le_of_ble_eq_true rfl) (Nat.le_of_ble_eq_true rfl) (fun h => absurd h (by unfold nfull; omega)) dX7_init_16 (fun H hH => ?_)
  have hH : ST E s 61 (zu z 58 0) (zr (zr M 59) 60) H locs := hH
  refine w_putF (k := 58) (off := 2) (ty := .array .int) C (by decide) hH (by decide) rfl (by decide) rfl FL_RX7_15 rfl rfl (by decide +kernel) (fun _ => rfl) (fun _ => rfl) dX7_init_18 (fun H locs hH => ?_)
  have hH : ST E s 61 (zu (zu z 58 0) 58 6) (zr (zr M 59) 60) H locs := hH
  refine lv_aload_n C.hx C.hb dX7_init_21 rfl (lv_at hl 0 rfl) ?_
  refine lv_bipush (v := Int32.ofInt 20) C.hx C.hb dX7_init_22 (by decide) ?_
  refine w_newI (N := 20) C (by decide) hH AC_I rfl rfl (by decide) (Nat.le_of_ble_eq_true rfl) (Nat.le_of_ble_eq_true rfl) (fun h => absurd h (by unfold nfull; omega)) dX7_init_24 (fun H hH => ?_)
  have hH : ST E s 62 (zu (zu z 58 0) 58 6) (zr (zr (zr M 59) 60) 61) H locs := hH
  refine w_putF (k := 58) (off := 3) (ty := .array .int) C (by decide) hH (by decide) rfl (by decide) rfl FL_RX7_18 rfl rfl (by decide +kernel) (fun _ => rfl) (fun _ => rfl) dX7_init_26 (fun H locs hH => ?_)
  have hH : ST E s 62 (zu (zu (zu z 58 0) 58 6) 58 7) (zr (zr (zr M 59) 60) 61) H locs := hH
  refine lv_aload_n C.hx C.hb dX7_init_29 rfl (lv_at hl 0 rfl) ?_
  refine lv_bipush (v := Int32.ofInt 20) C.hx C.hb dX7_init_30 (by decide) ?_
  refine w_newI (N := 20) C (by decide) hH AC_I rfl rfl (by decide) (Nat.le_of_ble_eq_true rfl) (Nat.le_of_ble_eq_true rfl) (fun h => absurd h (by unfold nfull; omega)) dX7_init_32 (fun H hH => ?_)
  have hH : ST E s 63 (zu (zu (zu z 58 0) 58 6) 58 7) (zr (zr (zr (zr M 59) 60) 61) 62) H locs := hH
  refine w_putF (k := 58) (off := 4) (ty := .array .int) C (by decide) hH (by decide) rfl (by decide) rfl FL_RX7_21 rfl rfl (by decide +kernel) (fun _ => rfl) (fun _ => rfl) dX7_init_34 (fun H locs hH => ?_)
  have hH : ST E s 63 (zu (zu (zu (zu z 58 0) 58 6) 58 7) 58 8) (zr (zr (zr (zr M 59) 60) 61) 62) H locs := hH
  exact w_vret C hH dX7_init_37
def zc_X3_init_63 (z : Zs) : Zs := zu z 63 0
def mc_X3_init_63 (M : Mem) : Mem := zr M 64
theorem zc_X3_init_63_fr {z : Zs} {a : Nat} (h : ∀ k i, a ≤ k → z k i = false) (ha : 65 ≤ a) : ∀ k i, a ≤ k → zc_X3_init_63 z k i = false := (zu_fresh h (Nat.lt_of_lt_of_le (show 63 < 65 by decide) ha))
set_option maxRecDepth 100000 in
set_option maxHeartbeats 4000000 in
theorem m_X3_init_63 {E : EE} {l : Launch} {z : Zs} {M : Mem} (hz0 : ∀ k i, 63 ≤ k → z k i = false) : CT E l yX3_init cX3_init 1 none 1 20 1 32 [.ref (eb E + 63)] 64 z M none 65 (zc_X3_init_63 z) (mc_X3_init_63 M) := by
  refine CT_of PN_RX3 (Nat.le_of_ble_eq_true rfl) ?_
  intro p e s m args below meth c C hH ls hl
  replace C : Cx E p s m args meth c cX3_init 1 RX3 none 64 "<init>" := C
  have hl : lv_has ls 1 [(0, .ref (eb E + 63))] := hl
  refine lv_aload_n C.hx C.hb dX3_init_0 rfl (lv_at hl 0 rfl) ?_
  refine w_oinit C hl.1 ML_RX3_3 (Nat.le_of_ble_eq_true rfl) (Nat.le_of_ble_eq_true rfl) dX3_init_1 ?_
  refine lv_aload_n C.hx C.hb dX3_init_4 rfl (lv_at hl 0 rfl) ?_
  refine lv_bipush (v := Int32.ofInt 32) C.hx C.hb dX3_init_5 (by decide) ?_
  refine w_newI (N := 32) C (by decide) hH AC_I rfl rfl (by decide) (Nat.le_of_ble_eq_true rfl) (Nat.le_of_ble_eq_true rfl) (fun h => absurd h (by unfold nfull; omega)) dX3_init_7 (fun H hH => ?_)
  have hH : ST E s 65 z (zr M 64) H [] := hH
  refine w_putF (k := 63) (off := 1) (ty := .array .int) C (by decide) hH (by decide) rfl (by decide) rfl FL_RX3_11 rfl rfl (by decide +kernel) (fun _ => rfl) (fun _ => rfl) dX3_init_9 (fun H locs hH => ?_)
  have hH : ST E s 65 (zu z 63 0) (zr M 64) H locs := hH
  exact w_vret C hH dX3_init_12
def zc_X9_init_65 (z : Zs) : Zs := zu (zu (zu (zu z 65 0) 65 1) 65 3) 65 4
def mc_X9_init_65 (M : Mem) : Mem := zr (zr (zr (zr M 66) 67) 68) 69
theorem zc_X9_init_65_fr {z : Zs} {a : Nat} (h : ∀ k i, a ≤ k → z k i = false) (ha : 70 ≤ a) : ∀ k i, a ≤ k → zc_X9_init_65 z k i = false := (zu_fresh (zu_fresh (zu_fresh (zu_fresh h (Nat.lt_of_lt_of_le (show 65 < 70 by decide) ha)) (Nat.lt_of_lt_of_le (show 65 < 70 by decide) ha)) (Nat.lt_of_lt_of_le (show 65 < 70 by decide) ha)) (Nat.lt_of_lt_of_le (show 65 < 70 by decide) ha))
set_option maxRecDepth 100000 in
set_option maxHeartbeats 4000000 in
theorem m_X9_init_65 {E : EE} {l : Launch} {z : Zs} {M : Mem} (hz0 : ∀ k i, 65 ≤ k → z k i = false) : CT E l yX9_init cX9_init 1 none 1 20 4 285 [.ref (eb E + 65)] 66 z M none 70 (zc_X9_init_65 z) (mc_X9_init_65 M) := by
  refine CT_of PN_RX9 (Nat.le_of_ble_eq_true rfl) ?_
  intro p e s m args below meth c C hH ls hl
  replace C : Cx E p s m args meth c cX9_init 1 RX9 none 66 "<init>" := C
  have hl : lv_has ls 1 [(0, .ref (eb E + 65))] := hl
  refine lv_aload_n C.hx C.hb dX9_init_0 rfl (lv_at hl 0 rfl) ?_
  refine w_oinit C hl.1 ML_RX9_3 (Nat.le_of_ble_eq_true rfl) (Nat.le_of_ble_eq_true rfl) dX9_init_1 ?_
  refine lv_aload_n C.hx C.hb dX9_init_4 rfl (lv_at hl 0 rfl) ?_
  refine lv_bipush (v := Int32.ofInt 6) C.hx C.hb dX9_init_5 (by decide) ?_
  refine w_newI (N := 6) C (by decide) hH AC_I rfl rfl (by decide) (Nat.le_of_ble_eq_true rfl) (Nat.le_of_ble_eq_true rfl) (fun h => absurd h (by unfold nfull; omega)) dX9_init_7 (fun H hH => ?_)
  have hH : ST E s 67 z (zr M 66) H [] := hH
  refine w_putF (k := 65) (off := 1) (ty := .array .int) C (by decide) hH (by decide) rfl (by decide) rfl FL_RX9_9 rfl rfl (by decide +kernel) (fun _ => rfl) (fun _ => rfl) dX9_init_9 (fun H locs hH => ?_)
  have hH : ST E s 67 (zu z 65 0) (zr M 66) H locs := hH
  refine lv_aload_n C.hx C.hb dX9_init_12 rfl (lv_at hl 0 rfl) ?_
  refine lv_bipush (v := Int32.ofInt 21) C.hx C.hb dX9_init_13 (by decide) ?_
  refine w_newI (N := 21) C (by decide) hH AC_I rfl rfl (by decide) (Nat.le_of_ble_eq_true rfl) (Nat.le_of_ble_eq_true rfl) (fun h => absurd h (by unfold nfull; omega)) dX9_init_15 (fun H hH => ?_)
  have hH : ST E s 68 (zu z 65 0) (zr (zr M 66) 67) H locs := hH
  refine w_putF (k := 65) (off := 2) (ty := .array .int) C (by decide) hH (by decide) rfl (by decide) rfl FL_RX9_15 rfl rfl (by decide +kernel) (fun _ => rfl) (fun _ => rfl) dX9_init_17 (fun H locs hH => ?_)
  have hH : ST E s 68 (zu (zu z 65 0) 65 1) (zr (zr M 66) 67) H locs := hH
  refine lv_aload_n C.hx C.hb dX9_init_20 rfl (lv_at hl 0 rfl) ?_
  refine lv_bipush (v := Int32.ofInt 126) C.hx C.hb dX9_init_21 (by decide) ?_
  refine w_newI (N := 126) C (by decide) hH AC_I rfl rfl (by decide) (Nat.le_of_ble_eq_true rfl) (Nat.le_of_ble_eq_true rfl) (fun h => absurd h (by unfold nfull; omega)) dX9_init_23 (fun H hH => ?_)
  have hH : ST E s 69 (zu (zu z 65 0) 65 1) (zr (zr (zr M 66) 67) 68) H locs := hH
  refine w_putF (k := 65) (off := 3) (ty := .array .int) C (by decide) hH (by decide) rfl (by decide) rfl FL_RX9_18 rfl rfl (by decide +kernel) (fun _ => rfl) (fun _ => rfl) dX9_init_25 (fun H locs hH => ?_)
  have hH : ST E s 69 (zu (zu (zu z 65 0) 65 1) 65 3) (zr (zr (zr M 66) 67) 68) H locs := hH
  refine lv_aload_n C.hx C.hb dX9_init_28 rfl (lv_at hl 0 rfl) ?_
  refine lv_sipush (v := Int32.ofInt 132) C.hx C.hb dX9_init_29 (by decide) ?_
  refine w_newI (N := 132) C (by decide) hH AC_I rfl rfl (by decide) (Nat.le_of_ble_eq_true rfl) (Nat.le_of_ble_eq_true rfl) (fun h => absurd h (by unfold nfull; omega)) dX9_init_32 (fun H hH => ?_)
  have hH : ST E s 70 (zu (zu (zu z 65 0) 65 1) 65 3) (zr (zr (zr (zr M 66) 67) 68) 69) H locs := hH
  refine w_putF (k := 65) (off := 4) (ty := .array .int) C (by decide) hH (by decide) rfl (by decide) rfl FL_RX9_21 rfl rfl (by decide +kernel) (fun _ => rfl) (fun _ => rfl) dX9_init_34 (fun H locs hH => ?_)
  have hH : ST E s 70 (zu (zu (zu (zu z 65 0) 65 1) 65 3) 65 4) (zr (zr (zr (zr M 66) 67) 68) 69) H locs := hH
  exact w_vret C hH dX9_init_37
def zc_X0_init_70 (z : Zs) : Zs := z
def mc_X0_init_70 (M : Mem) : Mem := M
theorem zc_X0_init_70_fr {z : Zs} {a : Nat} (h : ∀ k i, a ≤ k → z k i = false) (ha : 71 ≤ a) : ∀ k i, a ≤ k → zc_X0_init_70 z k i = false := h
set_option maxRecDepth 100000 in
set_option maxHeartbeats 4000000 in
theorem m_X0_init_70 {E : EE} {l : Launch} {z : Zs} {M : Mem} (hz0 : ∀ k i, 70 ≤ k → z k i = false) : CT E l yX0_init cX0_init 1 none 1 20 0 0 [.ref (eb E + 70)] 71 z M none 71 (zc_X0_init_70 z) (mc_X0_init_70 M) := by
  refine CT_of PN_RX0 (Nat.le_of_ble_eq_true rfl) ?_
  intro p e s m args below meth c C hH ls hl
  replace C : Cx E p s m args meth c cX0_init 1 RX0 none 71 "<init>" := C
  have hl : lv_has ls 1 [(0, .ref (eb E + 70))] := hl
  refine lv_aload_n C.hx C.hb dX0_init_0 rfl (lv_at hl 0 rfl) ?_
  refine w_oinit C hl.1 ML_RX0_1 (Nat.le_of_ble_eq_true rfl) (Nat.le_of_ble_eq_true rfl) dX0_init_1 ?_
  exact w_vret C hH dX0_init_4
def zc_X10_init_0 (z : Zs) : Zs := zu (zc_X0_init_70 (zu (zc_X9_init_65 (zu (zc_X3_init_63 (zu (zc_X7_init_58 (zu (zc_X7_init_53 (zu (zc_X7_init_48 (zu (zc_X7_init_43 (zu (zu (zc_X1_init_31 (zu (zc_X6_init_29 (zu (zc_X4_init_15 (zu (zc_X4_init_1 z) 0 0)) 0 1)) 0 2)) 0 3) 0 4)) 42 0)) 42 1)) 42 2)) 42 3)) 0 5)) 0 6)) 0 7
def mc_X10_init_0 (M : Mem) : Mem := mc_X0_init_70 (zr (mc_X9_init_65 (zr (mc_X3_init_63 (zr (mc_X7_init_58 (zr (mc_X7_init_53 (zr (mc_X7_init_48 (zr (mc_X7_init_43 (zr (zr (mc_X1_init_31 (zr (mc_X6_init_29 (zr (mc_X4_init_15 (zr (mc_X4_init_1 (zr M 1)) 15)) 29)) 31)) 42) 43)) 48)) 53)) 58)) 63)) 65)) 70)
theorem zc_X10_init_0_fr {z : Zs} {a : Nat} (h : ∀ k i, a ≤ k → z k i = false) (ha : 71 ≤ a) : ∀ k i, a ≤ k → zc_X10_init_0 z k i = false := (zu_fresh (zc_X0_init_70_fr (zu_fresh (zc_X9_init_65_fr (zu_fresh (zc_X3_init_63_fr (zu_fresh (zc_X7_init_58_fr (zu_fresh (zc_X7_init_53_fr (zu_fresh (zc_X7_init_48_fr (zu_fresh (zc_X7_init_43_fr (zu_fresh (zu_fresh (zc_X1_init_31_fr (zu_fresh (zc_X6_init_29_fr (zu_fresh (zc_X4_init_15_fr (zu_fresh (zc_X4_init_1_fr h (Nat.le_trans (show 15 ≤ 71 by decide) ha)) (Nat.lt_of_lt_of_le (show 0 < 71 by decide) ha)) (Nat.le_trans (show 29 ≤ 71 by decide) ha)) (Nat.lt_of_lt_of_le (show 0 < 71 by decide) ha)) (Nat.le_trans (show 31 ≤ 71 by decide) ha)) (Nat.lt_of_lt_of_le (show 0 < 71 by decide) ha)) (Nat.le_trans (show 42 ≤ 71 by decide) ha)) (Nat.lt_of_lt_of_le (show 0 < 71 by decide) ha)) (Nat.lt_of_lt_of_le (show 0 < 71 by decide) ha)) (Nat.le_trans (show 48 ≤ 71 by decide) ha)) (Nat.lt_of_lt_of_le (show 42 < 71 by decide) ha)) (Nat.le_trans (show 53 ≤ 71 by decide) ha)) (Nat.lt_of_lt_of_le (show 42 < 71 by decide) ha)) (Nat.le_trans (show 58 ≤ 71 by decide) ha)) (Nat.lt_of_lt_of_le (show 42 < 71 by decide) ha)) (Nat.le_trans (show 63 ≤ 71 by decide) ha)) (Nat.lt_of_lt_of_le (show 42 < 71 by decide) ha)) (Nat.le_trans (show 65 ≤ 71 by decide) ha)) (Nat.lt_of_lt_of_le (show 0 < 71 by decide) ha)) (Nat.le_trans (show 70 ≤ 71 by decide) ha)) (Nat.lt_of_lt_of_le (show 0 < 71 by decide) ha)) (Nat.le_trans (show 71 ≤ 71 by decide) ha)) (Nat.lt_of_lt_of_le (show 0 < 71 by decide) ha))
set_option maxRecDepth 100000 in
set_option maxHeartbeats 4000000 in
theorem m_X10_init_0 {E : EE} {l : Launch} {z : Zs} {M : Mem} (hz0 : ∀ k i, 0 ≤ k → z k i = false) : CT E l yX10_init cX10_init 2 none 3 60 70 4298 [.ref (eb E + 0)] 1 z M none 71 (zc_X10_init_0 z) (mc_X10_init_0 M) := by
  refine CT_of PN_RX10 (Nat.le_of_ble_eq_true rfl) ?_
  intro p e s m args below meth c C hH ls hl
  replace C : Cx E p s m args meth c cX10_init 2 RX10 none 1 "<init>" := C
  have hl : lv_has ls 2 [(0, .ref (eb E + 0))] := hl
  refine lv_aload_n C.hx C.hb dX10_init_0 rfl (lv_at hl 0 rfl) ?_
  refine w_oinit C hl.1 ML_RX10_1 (Nat.le_of_ble_eq_true rfl) (Nat.le_of_ble_eq_true rfl) dX10_init_1 ?_
  refine lv_aload_n C.hx C.hb dX10_init_4 rfl (lv_at hl 0 rfl) ?_
  refine w_newO (M' := zr M 1) (N := 17) C (by decide) hH (fun _ _ _ => rfl) (Or.inr rfl) rfl (by decide) (fun i => (fun k i h => hz0 k i (Nat.le_trans (show 0 ≤ 1 by decide) h)) 1 i (Nat.le_refl _)) KC_RX10_7 IS_4 IZ_4 rfl DF_4 (Nat.le_of_ble_eq_true rfl) (Nat.le_of_ble_eq_true rfl) (fun h => absurd h (by unfold nfull; omega)) dX10_init_5 (fun H hH => ?_)
  have hH : ST E s 2 z (zr M 1) H [] := hH
  refine lv_dup C.hx C.hb dX10_init_8 rfl ?_
  refine w_callIN (rest := [.ref (eb E + 1), .ref (eb E + 0)]) C hH hl (m_X4_init_1 (fun k i h => hz0 k i (Nat.le_trans (show 0 ≤ 1 by decide) h))) (by decide) MN_RX10_9 MF_X4_init MI_X4_init rfl rfl rfl (Nat.le_of_ble_eq_true rfl) ⟨Nat.le_of_ble_eq_true rfl, Nat.le_of_ble_eq_true rfl⟩ ⟨Nat.le_of_ble_eq_true rfl, Nat.le_of_ble_eq_true rfl⟩ dX10_init_9 (fun H locs hH => ?_)
  have hH : ST E s 15 (zc_X4_init_1 z) (mc_X4_init_1 (zr M 1)) H locs := hH
  refine w_putF (k := 0) (off := 1) (ty := .object "HeavierByHand$State") C (by decide) hH (by decide) rfl (by decide) rfl FL_RX10_10 rfl rfl (by decide +kernel) (fun _ => rfl) (fun _ => rfl) dX10_init_12 (fun H locs hH => ?_)
  have hH : ST E s 15 (zu (zc_X4_init_1 z) 0 0) (mc_X4_init_1 (zr M 1)) H locs := hH
  refine lv_aload_n C.hx C.hb dX10_init_15 rfl (lv_at hl 0 rfl) ?_
  refine w_newO (M' := zr (mc_X4_init_1 (zr M 1)) 15) (N := 17) C (by decide) hH (fun _ _ _ => rfl) (Or.inr rfl) rfl (by decide) (fun i => (zu_fresh (zc_X4_init_1_fr (fun k i h => hz0 k i (Nat.le_trans (show 0 ≤ 15 by decide) h)) (show 15 ≤ 15 by decide)) (show 0 < 15 by decide)) 15 i (Nat.le_refl _)) KC_RX10_7 IS_4 IZ_4 rfl DF_4 (Nat.le_of_ble_eq_true rfl) (Nat.le_of_ble_eq_true rfl) (fun h => absurd h (by unfold nfull; omega)) dX10_init_16 (fun H hH => ?_)
  have hH : ST E s 16 (zu (zc_X4_init_1 z) 0 0) (zr (mc_X4_init_1 (zr M 1)) 15) H locs := hH
  refine lv_dup C.hx C.hb dX10_init_19 rfl ?_
  refine w_callIN (rest := [.ref (eb E + 15), .ref (eb E + 0)]) C hH hl (m_X4_init_15 (zu_fresh (zc_X4_init_1_fr (fun k i h => hz0 k i (Nat.le_trans (show 0 ≤ 15 by decide) h)) (show 15 ≤ 15 by decide)) (show 0 < 15 by decide))) (by decide) MN_RX10_9 MF_X4_init MI_X4_init rfl rfl rfl (Nat.le_of_ble_eq_true rfl) ⟨Nat.le_of_ble_eq_true rfl, Nat.le_of_ble_eq_true rfl⟩ ⟨Nat.le_of_ble_eq_true rfl, Nat.le_of_ble_eq_true rfl⟩ dX10_init_20 (fun H locs hH => ?_)
  have hH : ST E s 29 (zc_X4_init_15 (zu (zc_X4_init_1 z) 0 0)) (mc_X4_init_15 (zr (mc_X4_init_1 (zr M 1)) 15)) H locs := hH
  refine w_putF (k := 0) (off := 15) (ty := .object "HeavierByHand$State") C (by decide) hH (by decide) rfl (by decide) rfl FL_RX10_16 rfl rfl (by decide +kernel) (fun _ => rfl) (fun _ => rfl) dX10_init_23 (fun H locs hH => ?_)
  have hH : ST E s 29 (zu (zc_X4_init_15 (zu (zc_X4_init_1 z) 0 0)) 0 1) (mc_X4_init_15 (zr (mc_X4_init_1 (zr M 1)) 15)) H locs := hH
  refine lv_aload_n C.hx C.hb dX10_init_26 rfl (lv_at hl 0 rfl) ?_
  refine w_newO (M' := zr (mc_X4_init_15 (zr (mc_X4_init_1 (zr M 1)) 15)) 29) (N := 2) C (by decide) hH (fun _ _ _ => rfl) (Or.inr rfl) rfl (by decide) (fun i => (zu_fresh (zc_X4_init_15_fr (zu_fresh (zc_X4_init_1_fr (fun k i h => hz0 k i (Nat.le_trans (show 0 ≤ 29 by decide) h)) (show 15 ≤ 29 by decide)) (show 0 < 29 by decide)) (show 29 ≤ 29 by decide)) (show 0 < 29 by decide)) 29 i (Nat.le_refl _)) KC_RX10_19 IS_6 IZ_6 rfl DF_6 (Nat.le_of_ble_eq_true rfl) (Nat.le_of_ble_eq_true rfl) (fun h => absurd h (by unfold nfull; omega)) dX10_init_27 (fun H hH => ?_)
  have hH : ST E s 30 (zu (zc_X4_init_15 (zu (zc_X4_init_1 z) 0 0)) 0 1) (zr (mc_X4_init_15 (zr (mc_X4_init_1 (zr M 1)) 15)) 29) H locs := hH
  refine lv_dup C.hx C.hb dX10_init_30 rfl ?_
  refine w_callIN (rest := [.ref (eb E + 29), .ref (eb E + 0)]) C hH hl (m_X6_init_29 (zu_fresh (zc_X4_init_15_fr (zu_fresh (zc_X4_init_1_fr (fun k i h => hz0 k i (Nat.le_trans (show 0 ≤ 29 by decide) h)) (show 15 ≤ 29 by decide)) (show 0 < 29 by decide)) (show 29 ≤ 29 by decide)) (show 0 < 29 by decide))) (by decide) MN_RX10_21 MF_X6_init MI_X6_init rfl rfl rfl (Nat.le_of_ble_eq_true rfl) ⟨Nat.le_of_ble_eq_true rfl, Nat.le_of_ble_eq_true rfl⟩ ⟨Nat.le_of_ble_eq_true rfl, Nat.le_of_ble_eq_true rfl⟩ dX10_init_31 (fun H locs hH => ?_)
  have hH : ST E s 31 (zc_X6_init_29 (zu (zc_X4_init_15 (zu (zc_X4_init_1 z) 0 0)) 0 1)) (mc_X6_init_29 (zr (mc_X4_init_15 (zr (mc_X4_init_1 (zr M 1)) 15)) 29)) H locs := hH
  refine w_putF (k := 0) (off := 29) (ty := .object "HeavierByHand$Tape") C (by decide) hH (by decide) rfl (by decide) rfl FL_RX10_22 rfl rfl (by decide +kernel) (fun _ => rfl) (fun _ => rfl) dX10_init_34 (fun H locs hH => ?_)
  have hH : ST E s 31 (zu (zc_X6_init_29 (zu (zc_X4_init_15 (zu (zc_X4_init_1 z) 0 0)) 0 1)) 0 2) (mc_X6_init_29 (zr (mc_X4_init_15 (zr (mc_X4_init_1 (zr M 1)) 15)) 29)) H locs := hH
  refine lv_aload_n C.hx C.hb dX10_init_37 rfl (lv_at hl 0 rfl) ?_
  refine w_newO (M' := zr (mc_X6_init_29 (zr (mc_X4_init_15 (zr (mc_X4_init_1 (zr M 1)) 15)) 29)) 31) (N := 5) C (by decide) hH (fun _ _ _ => rfl) (Or.inr rfl) rfl (by decide) (fun i => (zu_fresh (zc_X6_init_29_fr (zu_fresh (zc_X4_init_15_fr (zu_fresh (zc_X4_init_1_fr (fun k i h => hz0 k i (Nat.le_trans (show 0 ≤ 31 by decide) h)) (show 15 ≤ 31 by decide)) (show 0 < 31 by decide)) (show 29 ≤ 31 by decide)) (show 0 < 31 by decide)) (show 31 ≤ 31 by decide)) (show 0 < 31 by decide)) 31 i (Nat.le_refl _)) KC_RX10_26 IS_1 IZ_1 rfl DF_1 (Nat.le_of_ble_eq_true rfl) (Nat.le_of_ble_eq_true rfl) (fun h => absurd h (by unfold nfull; omega)) dX10_init_38 (fun H hH => ?_)
  have hH : ST E s 32 (zu (zc_X6_init_29 (zu (zc_X4_init_15 (zu (zc_X4_init_1 z) 0 0)) 0 1)) 0 2) (zr (mc_X6_init_29 (zr (mc_X4_init_15 (zr (mc_X4_init_1 (zr M 1)) 15)) 29)) 31) H locs := hH
  refine lv_dup C.hx C.hb dX10_init_41 rfl ?_
  refine w_callIN (rest := [.ref (eb E + 31), .ref (eb E + 0)]) C hH hl (m_X1_init_31 (zu_fresh (zc_X6_init_29_fr (zu_fresh (zc_X4_init_15_fr (zu_fresh (zc_X4_init_1_fr (fun k i h => hz0 k i (Nat.le_trans (show 0 ≤ 31 by decide) h)) (show 15 ≤ 31 by decide)) (show 0 < 31 by decide)) (show 29 ≤ 31 by decide)) (show 0 < 31 by decide)) (show 31 ≤ 31 by decide)) (show 0 < 31 by decide))) (by decide) MN_RX10_28 MF_X1_init MI_X1_init rfl rfl rfl (Nat.le_of_ble_eq_true rfl) ⟨Nat.le_of_ble_eq_true rfl, Nat.le_of_ble_eq_true rfl⟩ ⟨Nat.le_of_ble_eq_true rfl, Nat.le_of_ble_eq_true rfl⟩ dX10_init_42 (fun H locs hH => ?_)
  have hH : ST E s 42 (zc_X1_init_31 (zu (zc_X6_init_29 (zu (zc_X4_init_15 (zu (zc_X4_init_1 z) 0 0)) 0 1)) 0 2)) (mc_X1_init_31 (zr (mc_X6_init_29 (zr (mc_X4_init_15 (zr (mc_X4_init_1 (zr M 1)) 15)) 29)) 31)) H locs := hH
  refine w_putF (k := 0) (off := 31) (ty := .object "HeavierByHand$Reader") C (by decide) hH (by decide) rfl (by decide) rfl FL_RX10_29 rfl rfl (by decide +kernel) (fun _ => rfl) (fun _ => rfl) dX10_init_45 (fun H locs hH => ?_)
  have hH : ST E s 42 (zu (zc_X1_init_31 (zu (zc_X6_init_29 (zu (zc_X4_init_15 (zu (zc_X4_init_1 z) 0 0)) 0 1)) 0 2)) 0 3) (mc_X1_init_31 (zr (mc_X6_init_29 (zr (mc_X4_init_15 (zr (mc_X4_init_1 (zr M 1)) 15)) 29)) 31)) H locs := hH
  refine lv_aload_n C.hx C.hb dX10_init_48 rfl (lv_at hl 0 rfl) ?_
  refine lv_iconst (v := Int32.ofInt 4) C.hx C.hb dX10_init_49 rfl ?_
  refine w_newT (N := 4) C (by decide) hH KC_RX10_33 rfl rfl (fun i => (zu_fresh (zc_X1_init_31_fr (zu_fresh (zc_X6_init_29_fr (zu_fresh (zc_X4_init_15_fr (zu_fresh (zc_X4_init_1_fr (fun k i h => hz0 k i (Nat.le_trans (show 0 ≤ 42 by decide) h)) (show 15 ≤ 42 by decide)) (show 0 < 42 by decide)) (show 29 ≤ 42 by decide)) (show 0 < 42 by decide)) (show 31 ≤ 42 by decide)) (show 0 < 42 by decide)) (show 42 ≤ 42 by decide)) (show 0 < 42 by decide)) 42 i (Nat.le_refl _)) (by decide) (Nat.le_of_ble_eq_true rfl) (Nat.le_of_ble_eq_true rfl) (fun h => absurd h (by unfold nfull; omega)) dX10_init_50 (fun H hH => ?_)
  have hH : ST E s 43 (zu (zc_X1_init_31 (zu (zc_X6_init_29 (zu (zc_X4_init_15 (zu (zc_X4_init_1 z) 0 0)) 0 1)) 0 2)) 0 3) (zr (mc_X1_init_31 (zr (mc_X6_init_29 (zr (mc_X4_init_15 (zr (mc_X4_init_1 (zr M 1)) 15)) 29)) 31)) 42) H locs := hH
  refine w_putF (k := 0) (off := 42) (ty := .array (.object "HeavierByHand$Text")) C (by decide) hH (by decide) rfl (by decide) rfl FL_RX10_35 rfl rfl (by decide +kernel) (fun _ => rfl) (fun _ => rfl) dX10_init_53 (fun H locs hH => ?_)
  have hH : ST E s 43 (zu (zu (zc_X1_init_31 (zu (zc_X6_init_29 (zu (zc_X4_init_15 (zu (zc_X4_init_1 z) 0 0)) 0 1)) 0 2)) 0 3) 0 4) (zr (mc_X1_init_31 (zr (mc_X6_init_29 (zr (mc_X4_init_15 (zr (mc_X4_init_1 (zr M 1)) 15)) 29)) 31)) 42) H locs := hH
  refine lv_iconst (v := Int32.ofInt 0) C.hx C.hb dX10_init_56 rfl ?_
  refine lv_istore_n (lv' := [(1, i3 0), (0, .ref (eb E + 0))]) C.hx C.hb dX10_init_57 rfl hl (by decide) rfl (fun ls hl => ?_)
  refine lv_iload_n C.hx C.hb dX10_init_58 rfl (lv_at hl 0 rfl) ?_
  refine lv_iconst (v := Int32.ofInt 4) C.hx C.hb dX10_init_59 rfl ?_
  refine lv_icmp_ge (tgt := 82) C.hx C.hb dX10_init_60 (by decide) (fun q => absurd q (by decide)) (fun _ => ?_)
  refine lv_aload_n C.hx C.hb dX10_init_63 rfl (lv_at hl 1 rfl) ?_
  refine w_getR (k := 0) (off := 42) C hH (by decide) rfl (by decide) rfl rfl FL_RX10_35 dX10_init_64 ?_
  refine lv_iload_n C.hx C.hb dX10_init_67 rfl (lv_at hl 0 rfl) ?_
  refine w_newO (M' := zr (zr (mc_X1_init_31 (zr (mc_X6_init_29 (zr (mc_X4_init_15 (zr (mc_X4_init_1 (zr M 1)) 15)) 29)) 31)) 42) 43) (N := 10) C (by decide) hH (fun _ _ _ => rfl) (Or.inr rfl) rfl (by decide) (fun i => (zu_fresh (zu_fresh (zc_X1_init_31_fr (zu_fresh (zc_X6_init_29_fr (zu_fresh (zc_X4_init_15_fr (zu_fresh (zc_X4_init_1_fr (fun k i h => hz0 k i (Nat.le_trans (show 0 ≤ 43 by decide) h)) (show 15 ≤ 43 by decide)) (show 0 < 43 by decide)) (show 29 ≤ 43 by decide)) (show 0 < 43 by decide)) (show 31 ≤ 43 by decide)) (show 0 < 43 by decide)) (show 42 ≤ 43 by decide)) (show 0 < 43 by decide)) (show 0 < 43 by decide)) 43 i (Nat.le_refl _)) KC_RX10_33 IS_7 IZ_7 rfl DF_7 (Nat.le_of_ble_eq_true rfl) (Nat.le_of_ble_eq_true rfl) (fun h => absurd h (by unfold nfull; omega)) dX10_init_68 (fun H hH => ?_)
  have hH : ST E s 44 (zu (zu (zc_X1_init_31 (zu (zc_X6_init_29 (zu (zc_X4_init_15 (zu (zc_X4_init_1 z) 0 0)) 0 1)) 0 2)) 0 3) 0 4) (zr (zr (mc_X1_init_31 (zr (mc_X6_init_29 (zr (mc_X4_init_15 (zr (mc_X4_init_1 (zr M 1)) 15)) 29)) 31)) 42) 43) H locs := hH
  refine lv_dup C.hx C.hb dX10_init_71 rfl ?_
  refine w_callIN (rest := [.ref (eb E + 43), i3 0, .ref (eb E + 42)]) C hH hl (m_X7_init_43 (zu_fresh (zu_fresh (zc_X1_init_31_fr (zu_fresh (zc_X6_init_29_fr (zu_fresh (zc_X4_init_15_fr (zu_fresh (zc_X4_init_1_fr (fun k i h => hz0 k i (Nat.le_trans (show 0 ≤ 43 by decide) h)) (show 15 ≤ 43 by decide)) (show 0 < 43 by decide)) (show 29 ≤ 43 by decide)) (show 0 < 43 by decide)) (show 31 ≤ 43 by decide)) (show 0 < 43 by decide)) (show 42 ≤ 43 by decide)) (show 0 < 43 by decide)) (show 0 < 43 by decide))) (by decide) MN_RX10_39 MF_X7_init MI_X7_init rfl rfl rfl (Nat.le_of_ble_eq_true rfl) ⟨Nat.le_of_ble_eq_true rfl, Nat.le_of_ble_eq_true rfl⟩ ⟨Nat.le_of_ble_eq_true rfl, Nat.le_of_ble_eq_true rfl⟩ dX10_init_72 (fun H locs hH => ?_)
  have hH : ST E s 48 (zc_X7_init_43 (zu (zu (zc_X1_init_31 (zu (zc_X6_init_29 (zu (zc_X4_init_15 (zu (zc_X4_init_1 z) 0 0)) 0 1)) 0 2)) 0 3) 0 4)) (mc_X7_init_43 (zr (zr (mc_X1_init_31 (zr (mc_X6_init_29 (zr (mc_X4_init_15 (zr (mc_X4_init_1 (zr M 1)) 15)) 29)) 31)) 42) 43)) H locs := hH
  refine w_astT (k := 42) (i := 0) C (by decide) hH (by decide) rfl rfl (by decide) (by decide) (by decide) rfl dX10_init_75 (fun H locs hH => ?_)
  have hH : ST E s 48 (zu (zc_X7_init_43 (zu (zu (zc_X1_init_31 (zu (zc_X6_init_29 (zu (zc_X4_init_15 (zu (zc_X4_init_1 z) 0 0)) 0 1)) 0 2)) 0 3) 0 4)) 42 0) (mc_X7_init_43 (zr (zr (mc_X1_init_31 (zr (mc_X6_init_29 (zr (mc_X4_init_15 (zr (mc_X4_init_1 (zr M 1)) 15)) 29)) 31)) 42) 43)) H locs := hH
  refine lv_iinc (v := Int32.ofInt 1) (lv' := [(1, i3 1), (0, .ref (eb E + 0))]) C.hx C.hb dX10_init_76 hl (k := 0) rfl (by decide) (by decide) rfl (fun ls hl => ?_)
  refine lv_goto (tgt := 58) C.hx C.hb dX10_init_79 (by decide) ?_
  refine lv_iload_n C.hx C.hb dX10_init_58 rfl (lv_at hl 0 rfl) ?_
  refine lv_iconst (v := Int32.ofInt 4) C.hx C.hb dX10_init_59 rfl ?_
  refine lv_icmp_ge (tgt := 82) C.hx C.hb dX10_init_60 (by decide) (fun q => absurd q (by decide)) (fun _ => ?_)
  refine lv_aload_n C.hx C.hb dX10_init_63 rfl (lv_at hl 1 rfl) ?_
  refine w_getR (k := 0) (off := 42) C hH (by decide) rfl (by decide) rfl rfl FL_RX10_35 dX10_init_64 ?_
  refine lv_iload_n C.hx C.hb dX10_init_67 rfl (lv_at hl 0 rfl) ?_
  refine w_newO (M' := zr (mc_X7_init_43 (zr (zr (mc_X1_init_31 (zr (mc_X6_init_29 (zr (mc_X4_init_15 (zr (mc_X4_init_1 (zr M 1)) 15)) 29)) 31)) 42) 43)) 48) (N := 10) C (by decide) hH (fun _ _ _ => rfl) (Or.inr rfl) rfl (by decide) (fun i => (zu_fresh (zc_X7_init_43_fr (zu_fresh (zu_fresh (zc_X1_init_31_fr (zu_fresh (zc_X6_init_29_fr (zu_fresh (zc_X4_init_15_fr (zu_fresh (zc_X4_init_1_fr (fun k i h => hz0 k i (Nat.le_trans (show 0 ≤ 48 by decide) h)) (show 15 ≤ 48 by decide)) (show 0 < 48 by decide)) (show 29 ≤ 48 by decide)) (show 0 < 48 by decide)) (show 31 ≤ 48 by decide)) (show 0 < 48 by decide)) (show 42 ≤ 48 by decide)) (show 0 < 48 by decide)) (show 0 < 48 by decide)) (show 48 ≤ 48 by decide)) (show 42 < 48 by decide)) 48 i (Nat.le_refl _)) KC_RX10_33 IS_7 IZ_7 rfl DF_7 (Nat.le_of_ble_eq_true rfl) (Nat.le_of_ble_eq_true rfl) (fun h => absurd h (by unfold nfull; omega)) dX10_init_68 (fun H hH => ?_)
  have hH : ST E s 49 (zu (zc_X7_init_43 (zu (zu (zc_X1_init_31 (zu (zc_X6_init_29 (zu (zc_X4_init_15 (zu (zc_X4_init_1 z) 0 0)) 0 1)) 0 2)) 0 3) 0 4)) 42 0) (zr (mc_X7_init_43 (zr (zr (mc_X1_init_31 (zr (mc_X6_init_29 (zr (mc_X4_init_15 (zr (mc_X4_init_1 (zr M 1)) 15)) 29)) 31)) 42) 43)) 48) H locs := hH
  refine lv_dup C.hx C.hb dX10_init_71 rfl ?_
  refine w_callIN (rest := [.ref (eb E + 48), i3 1, .ref (eb E + 42)]) C hH hl (m_X7_init_48 (zu_fresh (zc_X7_init_43_fr (zu_fresh (zu_fresh (zc_X1_init_31_fr (zu_fresh (zc_X6_init_29_fr (zu_fresh (zc_X4_init_15_fr (zu_fresh (zc_X4_init_1_fr (fun k i h => hz0 k i (Nat.le_trans (show 0 ≤ 48 by decide) h)) (show 15 ≤ 48 by decide)) (show 0 < 48 by decide)) (show 29 ≤ 48 by decide)) (show 0 < 48 by decide)) (show 31 ≤ 48 by decide)) (show 0 < 48 by decide)) (show 42 ≤ 48 by decide)) (show 0 < 48 by decide)) (show 0 < 48 by decide)) (show 48 ≤ 48 by decide)) (show 42 < 48 by decide))) (by decide) MN_RX10_39 MF_X7_init MI_X7_init rfl rfl rfl (Nat.le_of_ble_eq_true rfl) ⟨Nat.le_of_ble_eq_true rfl, Nat.le_of_ble_eq_true rfl⟩ ⟨Nat.le_of_ble_eq_true rfl, Nat.le_of_ble_eq_true rfl⟩ dX10_init_72 (fun H locs hH => ?_)
  have hH : ST E s 53 (zc_X7_init_48 (zu (zc_X7_init_43 (zu (zu (zc_X1_init_31 (zu (zc_X6_init_29 (zu (zc_X4_init_15 (zu (zc_X4_init_1 z) 0 0)) 0 1)) 0 2)) 0 3) 0 4)) 42 0)) (mc_X7_init_48 (zr (mc_X7_init_43 (zr (zr (mc_X1_init_31 (zr (mc_X6_init_29 (zr (mc_X4_init_15 (zr (mc_X4_init_1 (zr M 1)) 15)) 29)) 31)) 42) 43)) 48)) H locs := hH
  refine w_astT (k := 42) (i := 1) C (by decide) hH (by decide) rfl rfl (by decide) (by decide) (by decide) rfl dX10_init_75 (fun H locs hH => ?_)
  have hH : ST E s 53 (zu (zc_X7_init_48 (zu (zc_X7_init_43 (zu (zu (zc_X1_init_31 (zu (zc_X6_init_29 (zu (zc_X4_init_15 (zu (zc_X4_init_1 z) 0 0)) 0 1)) 0 2)) 0 3) 0 4)) 42 0)) 42 1) (mc_X7_init_48 (zr (mc_X7_init_43 (zr (zr (mc_X1_init_31 (zr (mc_X6_init_29 (zr (mc_X4_init_15 (zr (mc_X4_init_1 (zr M 1)) 15)) 29)) 31)) 42) 43)) 48)) H locs := hH
  refine lv_iinc (v := Int32.ofInt 2) (lv' := [(1, i3 2), (0, .ref (eb E + 0))]) C.hx C.hb dX10_init_76 hl (k := 0) rfl (by decide) (by decide) rfl (fun ls hl => ?_)
  refine lv_goto (tgt := 58) C.hx C.hb dX10_init_79 (by decide) ?_
  refine lv_iload_n C.hx C.hb dX10_init_58 rfl (lv_at hl 0 rfl) ?_
  refine lv_iconst (v := Int32.ofInt 4) C.hx C.hb dX10_init_59 rfl ?_
  refine lv_icmp_ge (tgt := 82) C.hx C.hb dX10_init_60 (by decide) (fun q => absurd q (by decide)) (fun _ => ?_)
  refine lv_aload_n C.hx C.hb dX10_init_63 rfl (lv_at hl 1 rfl) ?_
  refine w_getR (k := 0) (off := 42) C hH (by decide) rfl (by decide) rfl rfl FL_RX10_35 dX10_init_64 ?_
  refine lv_iload_n C.hx C.hb dX10_init_67 rfl (lv_at hl 0 rfl) ?_
  refine w_newO (M' := zr (mc_X7_init_48 (zr (mc_X7_init_43 (zr (zr (mc_X1_init_31 (zr (mc_X6_init_29 (zr (mc_X4_init_15 (zr (mc_X4_init_1 (zr M 1)) 15)) 29)) 31)) 42) 43)) 48)) 53) (N := 10) C (by decide) hH (fun _ _ _ => rfl) (Or.inr rfl) rfl (by decide) (fun i => (zu_fresh (zc_X7_init_48_fr (zu_fresh (zc_X7_init_43_fr (zu_fresh (zu_fresh (zc_X1_init_31_fr (zu_fresh (zc_X6_init_29_fr (zu_fresh (zc_X4_init_15_fr (zu_fresh (zc_X4_init_1_fr (fun k i h => hz0 k i (Nat.le_trans (show 0 ≤ 53 by decide) h)) (show 15 ≤ 53 by decide)) (show 0 < 53 by decide)) (show 29 ≤ 53 by decide)) (show 0 < 53 by decide)) (show 31 ≤ 53 by decide)) (show 0 < 53 by decide)) (show 42 ≤ 53 by decide)) (show 0 < 53 by decide)) (show 0 < 53 by decide)) (show 48 ≤ 53 by decide)) (show 42 < 53 by decide)) (show 53 ≤ 53 by decide)) (show 42 < 53 by decide)) 53 i (Nat.le_refl _)) KC_RX10_33 IS_7 IZ_7 rfl DF_7 (Nat.le_of_ble_eq_true rfl) (Nat.le_of_ble_eq_true rfl) (fun h => absurd h (by unfold nfull; omega)) dX10_init_68 (fun H hH => ?_)
  have hH : ST E s 54 (zu (zc_X7_init_48 (zu (zc_X7_init_43 (zu (zu (zc_X1_init_31 (zu (zc_X6_init_29 (zu (zc_X4_init_15 (zu (zc_X4_init_1 z) 0 0)) 0 1)) 0 2)) 0 3) 0 4)) 42 0)) 42 1) (zr (mc_X7_init_48 (zr (mc_X7_init_43 (zr (zr (mc_X1_init_31 (zr (mc_X6_init_29 (zr (mc_X4_init_15 (zr (mc_X4_init_1 (zr M 1)) 15)) 29)) 31)) 42) 43)) 48)) 53) H locs := hH
  refine lv_dup C.hx C.hb dX10_init_71 rfl ?_
  refine w_callIN (rest := [.ref (eb E + 53), i3 2, .ref (eb E + 42)]) C hH hl (m_X7_init_53 (zu_fresh (zc_X7_init_48_fr (zu_fresh (zc_X7_init_43_fr (zu_fresh (zu_fresh (zc_X1_init_31_fr (zu_fresh (zc_X6_init_29_fr (zu_fresh (zc_X4_init_15_fr (zu_fresh (zc_X4_init_1_fr (fun k i h => hz0 k i (Nat.le_trans (show 0 ≤ 53 by decide) h)) (show 15 ≤ 53 by decide)) (show 0 < 53 by decide)) (show 29 ≤ 53 by decide)) (show 0 < 53 by decide)) (show 31 ≤ 53 by decide)) (show 0 < 53 by decide)) (show 42 ≤ 53 by decide)) (show 0 < 53 by decide)) (show 0 < 53 by decide)) (show 48 ≤ 53 by decide)) (show 42 < 53 by decide)) (show 53 ≤ 53 by decide)) (show 42 < 53 by decide))) (by decide) MN_RX10_39 MF_X7_init MI_X7_init rfl rfl rfl (Nat.le_of_ble_eq_true rfl) ⟨Nat.le_of_ble_eq_true rfl, Nat.le_of_ble_eq_true rfl⟩ ⟨Nat.le_of_ble_eq_true rfl, Nat.le_of_ble_eq_true rfl⟩ dX10_init_72 (fun H locs hH => ?_)
  have hH : ST E s 58 (zc_X7_init_53 (zu (zc_X7_init_48 (zu (zc_X7_init_43 (zu (zu (zc_X1_init_31 (zu (zc_X6_init_29 (zu (zc_X4_init_15 (zu (zc_X4_init_1 z) 0 0)) 0 1)) 0 2)) 0 3) 0 4)) 42 0)) 42 1)) (mc_X7_init_53 (zr (mc_X7_init_48 (zr (mc_X7_init_43 (zr (zr (mc_X1_init_31 (zr (mc_X6_init_29 (zr (mc_X4_init_15 (zr (mc_X4_init_1 (zr M 1)) 15)) 29)) 31)) 42) 43)) 48)) 53)) H locs := hH
  refine w_astT (k := 42) (i := 2) C (by decide) hH (by decide) rfl rfl (by decide) (by decide) (by decide) rfl dX10_init_75 (fun H locs hH => ?_)
  have hH : ST E s 58 (zu (zc_X7_init_53 (zu (zc_X7_init_48 (zu (zc_X7_init_43 (zu (zu (zc_X1_init_31 (zu (zc_X6_init_29 (zu (zc_X4_init_15 (zu (zc_X4_init_1 z) 0 0)) 0 1)) 0 2)) 0 3) 0 4)) 42 0)) 42 1)) 42 2) (mc_X7_init_53 (zr (mc_X7_init_48 (zr (mc_X7_init_43 (zr (zr (mc_X1_init_31 (zr (mc_X6_init_29 (zr (mc_X4_init_15 (zr (mc_X4_init_1 (zr M 1)) 15)) 29)) 31)) 42) 43)) 48)) 53)) H locs := hH
  refine lv_iinc (v := Int32.ofInt 3) (lv' := [(1, i3 3), (0, .ref (eb E + 0))]) C.hx C.hb dX10_init_76 hl (k := 0) rfl (by decide) (by decide) rfl (fun ls hl => ?_)
  refine lv_goto (tgt := 58) C.hx C.hb dX10_init_79 (by decide) ?_
  refine lv_iload_n C.hx C.hb dX10_init_58 rfl (lv_at hl 0 rfl) ?_
  refine lv_iconst (v := Int32.ofInt 4) C.hx C.hb dX10_init_59 rfl ?_
  refine lv_icmp_ge (tgt := 82) C.hx C.hb dX10_init_60 (by decide) (fun q => absurd q (by decide)) (fun _ => ?_)
  refine lv_aload_n C.hx C.hb dX10_init_63 rfl (lv_at hl 1 rfl) ?_
  refine w_getR (k := 0) (off := 42) C hH (by decide) rfl (by decide) rfl rfl FL_RX10_35 dX10_init_64 ?_
  refine lv_iload_n C.hx C.hb dX10_init_67 rfl (lv_at hl 0 rfl) ?_
  refine w_newO (M' := zr (mc_X7_init_53 (zr (mc_X7_init_48 (zr (mc_X7_init_43 (zr (zr (mc_X1_init_31 (zr (mc_X6_init_29 (zr (mc_X4_init_15 (zr (mc_X4_init_1 (zr M 1)) 15)) 29)) 31)) 42) 43)) 48)) 53)) 58) (N := 10) C (by decide) hH (fun _ _ _ => rfl) (Or.inr rfl) rfl (by decide) (fun i => (zu_fresh (zc_X7_init_53_fr (zu_fresh (zc_X7_init_48_fr (zu_fresh (zc_X7_init_43_fr (zu_fresh (zu_fresh (zc_X1_init_31_fr (zu_fresh (zc_X6_init_29_fr (zu_fresh (zc_X4_init_15_fr (zu_fresh (zc_X4_init_1_fr (fun k i h => hz0 k i (Nat.le_trans (show 0 ≤ 58 by decide) h)) (show 15 ≤ 58 by decide)) (show 0 < 58 by decide)) (show 29 ≤ 58 by decide)) (show 0 < 58 by decide)) (show 31 ≤ 58 by decide)) (show 0 < 58 by decide)) (show 42 ≤ 58 by decide)) (show 0 < 58 by decide)) (show 0 < 58 by decide)) (show 48 ≤ 58 by decide)) (show 42 < 58 by decide)) (show 53 ≤ 58 by decide)) (show 42 < 58 by decide)) (show 58 ≤ 58 by decide)) (show 42 < 58 by decide)) 58 i (Nat.le_refl _)) KC_RX10_33 IS_7 IZ_7 rfl DF_7 (Nat.le_of_ble_eq_true rfl) (Nat.le_of_ble_eq_true rfl) (fun h => absurd h (by unfold nfull; omega)) dX10_init_68 (fun H hH => ?_)
  have hH : ST E s 59 (zu (zc_X7_init_53 (zu (zc_X7_init_48 (zu (zc_X7_init_43 (zu (zu (zc_X1_init_31 (zu (zc_X6_init_29 (zu (zc_X4_init_15 (zu (zc_X4_init_1 z) 0 0)) 0 1)) 0 2)) 0 3) 0 4)) 42 0)) 42 1)) 42 2) (zr (mc_X7_init_53 (zr (mc_X7_init_48 (zr (mc_X7_init_43 (zr (zr (mc_X1_init_31 (zr (mc_X6_init_29 (zr (mc_X4_init_15 (zr (mc_X4_init_1 (zr M 1)) 15)) 29)) 31)) 42) 43)) 48)) 53)) 58) H locs := hH
  refine lv_dup C.hx C.hb dX10_init_71 rfl ?_
  refine w_callIN (rest := [.ref (eb E + 58), i3 3, .ref (eb E + 42)]) C hH hl (m_X7_init_58 (zu_fresh (zc_X7_init_53_fr (zu_fresh (zc_X7_init_48_fr (zu_fresh (zc_X7_init_43_fr (zu_fresh (zu_fresh (zc_X1_init_31_fr (zu_fresh (zc_X6_init_29_fr (zu_fresh (zc_X4_init_15_fr (zu_fresh (zc_X4_init_1_fr (fun k i h => hz0 k i (Nat.le_trans (show 0 ≤ 58 by decide) h)) (show 15 ≤ 58 by decide)) (show 0 < 58 by decide)) (show 29 ≤ 58 by decide)) (show 0 < 58 by decide)) (show 31 ≤ 58 by decide)) (show 0 < 58 by decide)) (show 42 ≤ 58 by decide)) (show 0 < 58 by decide)) (show 0 < 58 by decide)) (show 48 ≤ 58 by decide)) (show 42 < 58 by decide)) (show 53 ≤ 58 by decide)) (show 42 < 58 by decide)) (show 58 ≤ 58 by decide)) (show 42 < 58 by decide))) (by decide) MN_RX10_39 MF_X7_init MI_X7_init rfl rfl rfl (Nat.le_of_ble_eq_true rfl) ⟨Nat.le_of_ble_eq_true rfl, Nat.le_of_ble_eq_true rfl⟩ ⟨Nat.le_of_ble_eq_true rfl, Nat.le_of_ble_eq_true rfl⟩ dX10_init_72 (fun H locs hH => ?_)
  have hH : ST E s 63 (zc_X7_init_58 (zu (zc_X7_init_53 (zu (zc_X7_init_48 (zu (zc_X7_init_43 (zu (zu (zc_X1_init_31 (zu (zc_X6_init_29 (zu (zc_X4_init_15 (zu (zc_X4_init_1 z) 0 0)) 0 1)) 0 2)) 0 3) 0 4)) 42 0)) 42 1)) 42 2)) (mc_X7_init_58 (zr (mc_X7_init_53 (zr (mc_X7_init_48 (zr (mc_X7_init_43 (zr (zr (mc_X1_init_31 (zr (mc_X6_init_29 (zr (mc_X4_init_15 (zr (mc_X4_init_1 (zr M 1)) 15)) 29)) 31)) 42) 43)) 48)) 53)) 58)) H locs := hH
  refine w_astT (k := 42) (i := 3) C (by decide) hH (by decide) rfl rfl (by decide) (by decide) (by decide) rfl dX10_init_75 (fun H locs hH => ?_)
  have hH : ST E s 63 (zu (zc_X7_init_58 (zu (zc_X7_init_53 (zu (zc_X7_init_48 (zu (zc_X7_init_43 (zu (zu (zc_X1_init_31 (zu (zc_X6_init_29 (zu (zc_X4_init_15 (zu (zc_X4_init_1 z) 0 0)) 0 1)) 0 2)) 0 3) 0 4)) 42 0)) 42 1)) 42 2)) 42 3) (mc_X7_init_58 (zr (mc_X7_init_53 (zr (mc_X7_init_48 (zr (mc_X7_init_43 (zr (zr (mc_X1_init_31 (zr (mc_X6_init_29 (zr (mc_X4_init_15 (zr (mc_X4_init_1 (zr M 1)) 15)) 29)) 31)) 42) 43)) 48)) 53)) 58)) H locs := hH
  refine lv_iinc (v := Int32.ofInt 4) (lv' := [(1, i3 4), (0, .ref (eb E + 0))]) C.hx C.hb dX10_init_76 hl (k := 0) rfl (by decide) (by decide) rfl (fun ls hl => ?_)
  refine lv_goto (tgt := 58) C.hx C.hb dX10_init_79 (by decide) ?_
  refine lv_iload_n C.hx C.hb dX10_init_58 rfl (lv_at hl 0 rfl) ?_
  refine lv_iconst (v := Int32.ofInt 4) C.hx C.hb dX10_init_59 rfl ?_
  refine lv_icmp_ge (tgt := 82) C.hx C.hb dX10_init_60 (by decide) (fun _ => ?_) (fun q => absurd (by decide) q)
  refine lv_aload_n C.hx C.hb dX10_init_82 rfl (lv_at hl 1 rfl) ?_
  refine w_newO (M' := zr (mc_X7_init_58 (zr (mc_X7_init_53 (zr (mc_X7_init_48 (zr (mc_X7_init_43 (zr (zr (mc_X1_init_31 (zr (mc_X6_init_29 (zr (mc_X4_init_15 (zr (mc_X4_init_1 (zr M 1)) 15)) 29)) 31)) 42) 43)) 48)) 53)) 58)) 63) (N := 2) C (by decide) hH (fun _ _ _ => rfl) (Or.inr rfl) rfl (by decide) (fun i => (zu_fresh (zc_X7_init_58_fr (zu_fresh (zc_X7_init_53_fr (zu_fresh (zc_X7_init_48_fr (zu_fresh (zc_X7_init_43_fr (zu_fresh (zu_fresh (zc_X1_init_31_fr (zu_fresh (zc_X6_init_29_fr (zu_fresh (zc_X4_init_15_fr (zu_fresh (zc_X4_init_1_fr (fun k i h => hz0 k i (Nat.le_trans (show 0 ≤ 63 by decide) h)) (show 15 ≤ 63 by decide)) (show 0 < 63 by decide)) (show 29 ≤ 63 by decide)) (show 0 < 63 by decide)) (show 31 ≤ 63 by decide)) (show 0 < 63 by decide)) (show 42 ≤ 63 by decide)) (show 0 < 63 by decide)) (show 0 < 63 by decide)) (show 48 ≤ 63 by decide)) (show 42 < 63 by decide)) (show 53 ≤ 63 by decide)) (show 42 < 63 by decide)) (show 58 ≤ 63 by decide)) (show 42 < 63 by decide)) (show 63 ≤ 63 by decide)) (show 42 < 63 by decide)) 63 i (Nat.le_refl _)) KC_RX10_40 IS_3 IZ_3 rfl DF_3 (Nat.le_of_ble_eq_true rfl) (Nat.le_of_ble_eq_true rfl) (fun h => absurd h (by unfold nfull; omega)) dX10_init_83 (fun H hH => ?_)
  have hH : ST E s 64 (zu (zc_X7_init_58 (zu (zc_X7_init_53 (zu (zc_X7_init_48 (zu (zc_X7_init_43 (zu (zu (zc_X1_init_31 (zu (zc_X6_init_29 (zu (zc_X4_init_15 (zu (zc_X4_init_1 z) 0 0)) 0 1)) 0 2)) 0 3) 0 4)) 42 0)) 42 1)) 42 2)) 42 3) (zr (mc_X7_init_58 (zr (mc_X7_init_53 (zr (mc_X7_init_48 (zr (mc_X7_init_43 (zr (zr (mc_X1_init_31 (zr (mc_X6_init_29 (zr (mc_X4_init_15 (zr (mc_X4_init_1 (zr M 1)) 15)) 29)) 31)) 42) 43)) 48)) 53)) 58)) 63) H locs := hH
  refine lv_dup C.hx C.hb dX10_init_86 rfl ?_
  refine w_callIN (rest := [.ref (eb E + 63), .ref (eb E + 0)]) C hH hl (m_X3_init_63 (zu_fresh (zc_X7_init_58_fr (zu_fresh (zc_X7_init_53_fr (zu_fresh (zc_X7_init_48_fr (zu_fresh (zc_X7_init_43_fr (zu_fresh (zu_fresh (zc_X1_init_31_fr (zu_fresh (zc_X6_init_29_fr (zu_fresh (zc_X4_init_15_fr (zu_fresh (zc_X4_init_1_fr (fun k i h => hz0 k i (Nat.le_trans (show 0 ≤ 63 by decide) h)) (show 15 ≤ 63 by decide)) (show 0 < 63 by decide)) (show 29 ≤ 63 by decide)) (show 0 < 63 by decide)) (show 31 ≤ 63 by decide)) (show 0 < 63 by decide)) (show 42 ≤ 63 by decide)) (show 0 < 63 by decide)) (show 0 < 63 by decide)) (show 48 ≤ 63 by decide)) (show 42 < 63 by decide)) (show 53 ≤ 63 by decide)) (show 42 < 63 by decide)) (show 58 ≤ 63 by decide)) (show 42 < 63 by decide)) (show 63 ≤ 63 by decide)) (show 42 < 63 by decide))) (by decide) MN_RX10_42 MF_X3_init MI_X3_init rfl rfl rfl (Nat.le_of_ble_eq_true rfl) ⟨Nat.le_of_ble_eq_true rfl, Nat.le_of_ble_eq_true rfl⟩ ⟨Nat.le_of_ble_eq_true rfl, Nat.le_of_ble_eq_true rfl⟩ dX10_init_87 (fun H locs hH => ?_)
  have hH : ST E s 65 (zc_X3_init_63 (zu (zc_X7_init_58 (zu (zc_X7_init_53 (zu (zc_X7_init_48 (zu (zc_X7_init_43 (zu (zu (zc_X1_init_31 (zu (zc_X6_init_29 (zu (zc_X4_init_15 (zu (zc_X4_init_1 z) 0 0)) 0 1)) 0 2)) 0 3) 0 4)) 42 0)) 42 1)) 42 2)) 42 3)) (mc_X3_init_63 (zr (mc_X7_init_58 (zr (mc_X7_init_53 (zr (mc_X7_init_48 (zr (mc_X7_init_43 (zr (zr (mc_X1_init_31 (zr (mc_X6_init_29 (zr (mc_X4_init_15 (zr (mc_X4_init_1 (zr M 1)) 15)) 29)) 31)) 42) 43)) 48)) 53)) 58)) 63)) H locs := hH
  refine w_putF (k := 0) (off := 63) (ty := .object "HeavierByHand$Scale") C (by decide) hH (by decide) rfl (by decide) rfl FL_RX10_43 rfl rfl (by decide +kernel) (fun _ => rfl) (fun _ => rfl) dX10_init_90 (fun H locs hH => ?_)
  have hH : ST E s 65 (zu (zc_X3_init_63 (zu (zc_X7_init_58 (zu (zc_X7_init_53 (zu (zc_X7_init_48 (zu (zc_X7_init_43 (zu (zu (zc_X1_init_31 (zu (zc_X6_init_29 (zu (zc_X4_init_15 (zu (zc_X4_init_1 z) 0 0)) 0 1)) 0 2)) 0 3) 0 4)) 42 0)) 42 1)) 42 2)) 42 3)) 0 5) (mc_X3_init_63 (zr (mc_X7_init_58 (zr (mc_X7_init_53 (zr (mc_X7_init_48 (zr (mc_X7_init_43 (zr (zr (mc_X1_init_31 (zr (mc_X6_init_29 (zr (mc_X4_init_15 (zr (mc_X4_init_1 (zr M 1)) 15)) 29)) 31)) 42) 43)) 48)) 53)) 58)) 63)) H locs := hH
  refine lv_aload_n C.hx C.hb dX10_init_93 rfl (lv_at hl 1 rfl) ?_
  refine w_newO (M' := zr (mc_X3_init_63 (zr (mc_X7_init_58 (zr (mc_X7_init_53 (zr (mc_X7_init_48 (zr (mc_X7_init_43 (zr (zr (mc_X1_init_31 (zr (mc_X6_init_29 (zr (mc_X4_init_15 (zr (mc_X4_init_1 (zr M 1)) 15)) 29)) 31)) 42) 43)) 48)) 53)) 58)) 63)) 65) (N := 5) C (by decide) hH (fun _ _ _ => rfl) (Or.inr rfl) rfl (by decide) (fun i => (zu_fresh (zc_X3_init_63_fr (zu_fresh (zc_X7_init_58_fr (zu_fresh (zc_X7_init_53_fr (zu_fresh (zc_X7_init_48_fr (zu_fresh (zc_X7_init_43_fr (zu_fresh (zu_fresh (zc_X1_init_31_fr (zu_fresh (zc_X6_init_29_fr (zu_fresh (zc_X4_init_15_fr (zu_fresh (zc_X4_init_1_fr (fun k i h => hz0 k i (Nat.le_trans (show 0 ≤ 65 by decide) h)) (show 15 ≤ 65 by decide)) (show 0 < 65 by decide)) (show 29 ≤ 65 by decide)) (show 0 < 65 by decide)) (show 31 ≤ 65 by decide)) (show 0 < 65 by decide)) (show 42 ≤ 65 by decide)) (show 0 < 65 by decide)) (show 0 < 65 by decide)) (show 48 ≤ 65 by decide)) (show 42 < 65 by decide)) (show 53 ≤ 65 by decide)) (show 42 < 65 by decide)) (show 58 ≤ 65 by decide)) (show 42 < 65 by decide)) (show 63 ≤ 65 by decide)) (show 42 < 65 by decide)) (show 65 ≤ 65 by decide)) (show 0 < 65 by decide)) 65 i (Nat.le_refl _)) KC_RX10_47 IS_9 IZ_9 rfl DF_9 (Nat.le_of_ble_eq_true rfl) (Nat.le_of_ble_eq_true rfl) (fun h => absurd h (by unfold nfull; omega)) dX10_init_94 (fun H hH => ?_)
  have hH : ST E s 66 (zu (zc_X3_init_63 (zu (zc_X7_init_58 (zu (zc_X7_init_53 (zu (zc_X7_init_48 (zu (zc_X7_init_43 (zu (zu (zc_X1_init_31 (zu (zc_X6_init_29 (zu (zc_X4_init_15 (zu (zc_X4_init_1 z) 0 0)) 0 1)) 0 2)) 0 3) 0 4)) 42 0)) 42 1)) 42 2)) 42 3)) 0 5) (zr (mc_X3_init_63 (zr (mc_X7_init_58 (zr (mc_X7_init_53 (zr (mc_X7_init_48 (zr (mc_X7_init_43 (zr (zr (mc_X1_init_31 (zr (mc_X6_init_29 (zr (mc_X4_init_15 (zr (mc_X4_init_1 (zr M 1)) 15)) 29)) 31)) 42) 43)) 48)) 53)) 58)) 63)) 65) H locs := hH
  refine lv_dup C.hx C.hb dX10_init_97 rfl ?_
  refine w_callIN (rest := [.ref (eb E + 65), .ref (eb E + 0)]) C hH hl (m_X9_init_65 (zu_fresh (zc_X3_init_63_fr (zu_fresh (zc_X7_init_58_fr (zu_fresh (zc_X7_init_53_fr (zu_fresh (zc_X7_init_48_fr (zu_fresh (zc_X7_init_43_fr (zu_fresh (zu_fresh (zc_X1_init_31_fr (zu_fresh (zc_X6_init_29_fr (zu_fresh (zc_X4_init_15_fr (zu_fresh (zc_X4_init_1_fr (fun k i h => hz0 k i (Nat.le_trans (show 0 ≤ 65 by decide) h)) (show 15 ≤ 65 by decide)) (show 0 < 65 by decide)) (show 29 ≤ 65 by decide)) (show 0 < 65 by decide)) (show 31 ≤ 65 by decide)) (show 0 < 65 by decide)) (show 42 ≤ 65 by decide)) (show 0 < 65 by decide)) (show 0 < 65 by decide)) (show 48 ≤ 65 by decide)) (show 42 < 65 by decide)) (show 53 ≤ 65 by decide)) (show 42 < 65 by decide)) (show 58 ≤ 65 by decide)) (show 42 < 65 by decide)) (show 63 ≤ 65 by decide)) (show 42 < 65 by decide)) (show 65 ≤ 65 by decide)) (show 0 < 65 by decide))) (by decide) MN_RX10_49 MF_X9_init MI_X9_init rfl rfl rfl (Nat.le_of_ble_eq_true rfl) ⟨Nat.le_of_ble_eq_true rfl, Nat.le_of_ble_eq_true rfl⟩ ⟨Nat.le_of_ble_eq_true rfl, Nat.le_of_ble_eq_true rfl⟩ dX10_init_98 (fun H locs hH => ?_)
  have hH : ST E s 70 (zc_X9_init_65 (zu (zc_X3_init_63 (zu (zc_X7_init_58 (zu (zc_X7_init_53 (zu (zc_X7_init_48 (zu (zc_X7_init_43 (zu (zu (zc_X1_init_31 (zu (zc_X6_init_29 (zu (zc_X4_init_15 (zu (zc_X4_init_1 z) 0 0)) 0 1)) 0 2)) 0 3) 0 4)) 42 0)) 42 1)) 42 2)) 42 3)) 0 5)) (mc_X9_init_65 (zr (mc_X3_init_63 (zr (mc_X7_init_58 (zr (mc_X7_init_53 (zr (mc_X7_init_48 (zr (mc_X7_init_43 (zr (zr (mc_X1_init_31 (zr (mc_X6_init_29 (zr (mc_X4_init_15 (zr (mc_X4_init_1 (zr M 1)) 15)) 29)) 31)) 42) 43)) 48)) 53)) 58)) 63)) 65)) H locs := hH
  refine w_putF (k := 0) (off := 65) (ty := .object "HeavierByHand$Trays") C (by decide) hH (by decide) rfl (by decide) rfl FL_RX10_50 rfl rfl (by decide +kernel) (fun _ => rfl) (fun _ => rfl) dX10_init_101 (fun H locs hH => ?_)
  have hH : ST E s 70 (zu (zc_X9_init_65 (zu (zc_X3_init_63 (zu (zc_X7_init_58 (zu (zc_X7_init_53 (zu (zc_X7_init_48 (zu (zc_X7_init_43 (zu (zu (zc_X1_init_31 (zu (zc_X6_init_29 (zu (zc_X4_init_15 (zu (zc_X4_init_1 z) 0 0)) 0 1)) 0 2)) 0 3) 0 4)) 42 0)) 42 1)) 42 2)) 42 3)) 0 5)) 0 6) (mc_X9_init_65 (zr (mc_X3_init_63 (zr (mc_X7_init_58 (zr (mc_X7_init_53 (zr (mc_X7_init_48 (zr (mc_X7_init_43 (zr (zr (mc_X1_init_31 (zr (mc_X6_init_29 (zr (mc_X4_init_15 (zr (mc_X4_init_1 (zr M 1)) 15)) 29)) 31)) 42) 43)) 48)) 53)) 58)) 63)) 65)) H locs := hH
  refine lv_aload_n C.hx C.hb dX10_init_104 rfl (lv_at hl 1 rfl) ?_
  refine w_newO (M' := zr (mc_X9_init_65 (zr (mc_X3_init_63 (zr (mc_X7_init_58 (zr (mc_X7_init_53 (zr (mc_X7_init_48 (zr (mc_X7_init_43 (zr (zr (mc_X1_init_31 (zr (mc_X6_init_29 (zr (mc_X4_init_15 (zr (mc_X4_init_1 (zr M 1)) 15)) 29)) 31)) 42) 43)) 48)) 53)) 58)) 63)) 65)) 70) (N := 1) C (by decide) hH (fun _ _ _ => rfl) (Or.inr rfl) rfl (by decide) (fun i => (zu_fresh (zc_X9_init_65_fr (zu_fresh (zc_X3_init_63_fr (zu_fresh (zc_X7_init_58_fr (zu_fresh (zc_X7_init_53_fr (zu_fresh (zc_X7_init_48_fr (zu_fresh (zc_X7_init_43_fr (zu_fresh (zu_fresh (zc_X1_init_31_fr (zu_fresh (zc_X6_init_29_fr (zu_fresh (zc_X4_init_15_fr (zu_fresh (zc_X4_init_1_fr (fun k i h => hz0 k i (Nat.le_trans (show 0 ≤ 70 by decide) h)) (show 15 ≤ 70 by decide)) (show 0 < 70 by decide)) (show 29 ≤ 70 by decide)) (show 0 < 70 by decide)) (show 31 ≤ 70 by decide)) (show 0 < 70 by decide)) (show 42 ≤ 70 by decide)) (show 0 < 70 by decide)) (show 0 < 70 by decide)) (show 48 ≤ 70 by decide)) (show 42 < 70 by decide)) (show 53 ≤ 70 by decide)) (show 42 < 70 by decide)) (show 58 ≤ 70 by decide)) (show 42 < 70 by decide)) (show 63 ≤ 70 by decide)) (show 42 < 70 by decide)) (show 65 ≤ 70 by decide)) (show 0 < 70 by decide)) (show 70 ≤ 70 by decide)) (show 0 < 70 by decide)) 70 i (Nat.le_refl _)) KC_RX10_54 IS_0 IZ_0 rfl DF_0 (Nat.le_of_ble_eq_true rfl) (Nat.le_of_ble_eq_true rfl) (fun h => absurd h (by unfold nfull; omega)) dX10_init_105 (fun H hH => ?_)
  have hH : ST E s 71 (zu (zc_X9_init_65 (zu (zc_X3_init_63 (zu (zc_X7_init_58 (zu (zc_X7_init_53 (zu (zc_X7_init_48 (zu (zc_X7_init_43 (zu (zu (zc_X1_init_31 (zu (zc_X6_init_29 (zu (zc_X4_init_15 (zu (zc_X4_init_1 z) 0 0)) 0 1)) 0 2)) 0 3) 0 4)) 42 0)) 42 1)) 42 2)) 42 3)) 0 5)) 0 6) (zr (mc_X9_init_65 (zr (mc_X3_init_63 (zr (mc_X7_init_58 (zr (mc_X7_init_53 (zr (mc_X7_init_48 (zr (mc_X7_init_43 (zr (zr (mc_X1_init_31 (zr (mc_X6_init_29 (zr (mc_X4_init_15 (zr (mc_X4_init_1 (zr M 1)) 15)) 29)) 31)) 42) 43)) 48)) 53)) 58)) 63)) 65)) 70) H locs := hH
  refine lv_dup C.hx C.hb dX10_init_108 rfl ?_
  refine w_callIN (rest := [.ref (eb E + 70), .ref (eb E + 0)]) C hH hl (m_X0_init_70 (zu_fresh (zc_X9_init_65_fr (zu_fresh (zc_X3_init_63_fr (zu_fresh (zc_X7_init_58_fr (zu_fresh (zc_X7_init_53_fr (zu_fresh (zc_X7_init_48_fr (zu_fresh (zc_X7_init_43_fr (zu_fresh (zu_fresh (zc_X1_init_31_fr (zu_fresh (zc_X6_init_29_fr (zu_fresh (zc_X4_init_15_fr (zu_fresh (zc_X4_init_1_fr (fun k i h => hz0 k i (Nat.le_trans (show 0 ≤ 70 by decide) h)) (show 15 ≤ 70 by decide)) (show 0 < 70 by decide)) (show 29 ≤ 70 by decide)) (show 0 < 70 by decide)) (show 31 ≤ 70 by decide)) (show 0 < 70 by decide)) (show 42 ≤ 70 by decide)) (show 0 < 70 by decide)) (show 0 < 70 by decide)) (show 48 ≤ 70 by decide)) (show 42 < 70 by decide)) (show 53 ≤ 70 by decide)) (show 42 < 70 by decide)) (show 58 ≤ 70 by decide)) (show 42 < 70 by decide)) (show 63 ≤ 70 by decide)) (show 42 < 70 by decide)) (show 65 ≤ 70 by decide)) (show 0 < 70 by decide)) (show 70 ≤ 70 by decide)) (show 0 < 70 by decide))) (by decide) MN_RX10_56 MF_X0_init MI_X0_init rfl rfl rfl (Nat.le_of_ble_eq_true rfl) ⟨Nat.le_of_ble_eq_true rfl, Nat.le_of_ble_eq_true rfl⟩ ⟨Nat.le_of_ble_eq_true rfl, Nat.le_of_ble_eq_true rfl⟩ dX10_init_109 (fun H locs hH => ?_)
  have hH : ST E s 71 (zc_X0_init_70 (zu (zc_X9_init_65 (zu (zc_X3_init_63 (zu (zc_X7_init_58 (zu (zc_X7_init_53 (zu (zc_X7_init_48 (zu (zc_X7_init_43 (zu (zu (zc_X1_init_31 (zu (zc_X6_init_29 (zu (zc_X4_init_15 (zu (zc_X4_init_1 z) 0 0)) 0 1)) 0 2)) 0 3) 0 4)) 42 0)) 42 1)) 42 2)) 42 3)) 0 5)) 0 6)) (mc_X0_init_70 (zr (mc_X9_init_65 (zr (mc_X3_init_63 (zr (mc_X7_init_58 (zr (mc_X7_init_53 (zr (mc_X7_init_48 (zr (mc_X7_init_43 (zr (zr (mc_X1_init_31 (zr (mc_X6_init_29 (zr (mc_X4_init_15 (zr (mc_X4_init_1 (zr M 1)) 15)) 29)) 31)) 42) 43)) 48)) 53)) 58)) 63)) 65)) 70)) H locs := hH
  refine w_putF (k := 0) (off := 70) (ty := .object "HeavierByHand$Draws") C (by decide) hH (by decide) rfl (by decide) rfl FL_RX10_57 rfl rfl (by decide +kernel) (fun _ => rfl) (fun _ => rfl) dX10_init_112 (fun H locs hH => ?_)
  have hH : ST E s 71 (zu (zc_X0_init_70 (zu (zc_X9_init_65 (zu (zc_X3_init_63 (zu (zc_X7_init_58 (zu (zc_X7_init_53 (zu (zc_X7_init_48 (zu (zc_X7_init_43 (zu (zu (zc_X1_init_31 (zu (zc_X6_init_29 (zu (zc_X4_init_15 (zu (zc_X4_init_1 z) 0 0)) 0 1)) 0 2)) 0 3) 0 4)) 42 0)) 42 1)) 42 2)) 42 3)) 0 5)) 0 6)) 0 7) (mc_X0_init_70 (zr (mc_X9_init_65 (zr (mc_X3_init_63 (zr (mc_X7_init_58 (zr (mc_X7_init_53 (zr (mc_X7_init_48 (zr (mc_X7_init_43 (zr (zr (mc_X1_init_31 (zr (mc_X6_init_29 (zr (mc_X4_init_15 (zr (mc_X4_init_1 (zr M 1)) 15)) 29)) 31)) 42) 43)) 48)) 53)) 58)) 63)) 65)) 70)) H locs := hH
  exact w_vret C hH dX10_init_115
def zc_X2_init_102 (z : Zs) : Zs := zu (zu (zu z 102 3) 102 1) 102 2
def mc_X2_init_102 (M : Mem) : Mem := up (zr (zr (up (zr M 103) 102 0 12) 104) 105) 102 5 (-1)
theorem zc_X2_init_102_fr {z : Zs} {a : Nat} (h : ∀ k i, a ≤ k → z k i = false) (ha : 106 ≤ a) : ∀ k i, a ≤ k → zc_X2_init_102 z k i = false := (zu_fresh (zu_fresh (zu_fresh h (Nat.lt_of_lt_of_le (show 102 < 106 by decide) ha)) (Nat.lt_of_lt_of_le (show 102 < 106 by decide) ha)) (Nat.lt_of_lt_of_le (show 102 < 106 by decide) ha))
set_option maxRecDepth 100000 in
set_option maxHeartbeats 4000000 in
theorem m_X2_init_102 {E : EE} {l : Launch} {z : Zs} {M : Mem} (hz0 : ∀ k i, 102 ≤ k → z k i = false) (hnM : nOf M = 106) : CT E l yX2_init cX2_init 2 none 4 120 3 47050 [.ref (eb E + 102), i3 12] 103 z M none 106 (zc_X2_init_102 z) (mc_X2_init_102 M) := by
  refine CT_of PN_RX2 (Nat.le_of_ble_eq_true rfl) ?_
  intro p e s m args below meth c C hH ls hl
  replace C : Cx E p s m args meth c cX2_init 2 RX2 none 103 "<init>" := C
  have hl : lv_has ls 2 [(0, .ref (eb E + 102)), (1, i3 12)] := hl
  refine lv_aload_n C.hx C.hb dX2_init_0 rfl (lv_at hl 0 rfl) ?_
  refine w_oinit C hl.1 ML_RX2_3 (Nat.le_of_ble_eq_true rfl) (Nat.le_of_ble_eq_true rfl) dX2_init_1 ?_
  refine lv_aload_n C.hx C.hb dX2_init_4 rfl (lv_at hl 0 rfl) ?_
  refine lv_bipush (v := Int32.ofInt 10) C.hx C.hb dX2_init_5 (by decide) ?_
  refine w_newI (N := 10) C (by decide) hH AC_I rfl rfl (by decide) (Nat.le_of_ble_eq_true rfl) (Nat.le_of_ble_eq_true rfl) (fun h => absurd h (by unfold nfull; omega)) dX2_init_7 (fun H hH => ?_)
  have hH : ST E s 104 z (zr M 103) H [] := hH
  refine w_putF (k := 102) (off := 1) (ty := .array .int) C (by decide) hH (by decide) rfl (by decide) rfl FL_RX2_9 rfl rfl (by decide +kernel) (fun _ => rfl) (fun _ => rfl) dX2_init_9 (fun H locs hH => ?_)
  have hH : ST E s 104 (zu z 102 3) (zr M 103) H locs := hH
  refine lv_aload_n C.hx C.hb dX2_init_12 rfl (lv_at hl 0 rfl) ?_
  refine lv_iconst (v := Int32.ofInt 1) C.hx C.hb dX2_init_13 rfl ?_
  refine lv_iload_n C.hx C.hb dX2_init_14 rfl (lv_at hl 1 rfl) ?_
  refine lv_bipush (v := Int32.ofInt 12) C.hx C.hb dX2_init_15 (by decide) ?_
  refine w_min C hl.1 ⟨⟨by decide, by decide⟩, ⟨by decide, by decide⟩⟩ ML_RX2_15 LB_min LB_mathi LB_minc (Nat.le_of_ble_eq_true rfl) (Nat.le_of_ble_eq_true rfl) (Nat.le_of_ble_eq_true rfl) (Nat.le_of_ble_eq_true rfl) dX2_init_17 ?_
  rw [show min (12 : Int) 12 = 12 by decide]
  refine w_max C hl.1 ⟨⟨by decide, by decide⟩, ⟨by decide, by decide⟩⟩ ML_RX2_21 LB_max LB_mathi LB_maxc (Nat.le_of_ble_eq_true rfl) (Nat.le_of_ble_eq_true rfl) (Nat.le_of_ble_eq_true rfl) (Nat.le_of_ble_eq_true rfl) dX2_init_20 ?_
  rw [show max (1 : Int) 12 = 12 by decide]
  refine w_putFI (k := 102) C (by decide) hH (by decide) rfl (by decide) rfl FL_RX2_24 rfl rfl (by decide +kernel) dX2_init_23 (fun H locs hH => ?_)
  have hH : ST E s 104 (zu z 102 3) (up (zr M 103) 102 0 12) H locs := hH
  refine lv_aload_n C.hx C.hb dX2_init_26 rfl (lv_at hl 0 rfl) ?_
  refine lv_aload_n C.hx C.hb dX2_init_27 rfl (lv_at hl 0 rfl) ?_
  refine w_getI (k := 102) C hH (by decide) rfl (by decide) rfl FL_RX2_24 dX2_init_28 ?_
  rw [show (up (zr M 103) 102 0 12) 102 0 = 12 from rfl]
  refine lv_iconst (v := Int32.ofInt 1) C.hx C.hb dX2_init_31 rfl ?_
  refine w_iadd C dX2_init_32 ?_
  rw [show ((12 : Int) + 1) = 13 by decide]
  refine w_callS (rest := [.ref (eb E + 102)]) (mc := 0) (ms := 0) C hH hl (m_X2_startz (a0 := 13) (o := 23520) (by rfl)) (Nat.le_refl _) ML_RX2_28 MF_X2_start MS_X2_start rfl rfl (Nat.le_of_ble_eq_true rfl) ⟨Nat.le_of_ble_eq_true rfl, Nat.le_of_ble_eq_true rfl⟩ ⟨Nat.le_of_ble_eq_true rfl, Nat.le_of_ble_eq_true rfl⟩ dX2_init_33 (fun H locs hH => ?_)
  refine w_newJ (N := 23520) C (by decide) hH AC_J rfl rfl (by decide) (Nat.le_of_ble_eq_true rfl) (Nat.le_of_ble_eq_true rfl) (fun h => absurd h (by unfold nfull; omega)) dX2_init_36 (fun H hH => ?_)
  have hH : ST E s 105 (zu z 102 3) (zr (up (zr M 103) 102 0 12) 104) H locs := hH
  refine w_putF (k := 102) (off := 2) (ty := .array .long) C (by decide) hH (by decide) rfl (by decide) rfl FL_RX2_32 rfl rfl (by decide +kernel) (fun _ => rfl) (fun _ => rfl) dX2_init_38 (fun H locs hH => ?_)
  have hH : ST E s 105 (zu (zu z 102 3) 102 1) (zr (up (zr M 103) 102 0 12) 104) H locs := hH
  refine lv_aload_n C.hx C.hb dX2_init_41 rfl (lv_at hl 0 rfl) ?_
  refine lv_aload_n C.hx C.hb dX2_init_42 rfl (lv_at hl 0 rfl) ?_
  refine w_getI (k := 102) C hH (by decide) rfl (by decide) rfl FL_RX2_24 dX2_init_43 ?_
  rw [show (zr (up (zr M 103) 102 0 12) 104) 102 0 = 12 from rfl]
  refine lv_iconst (v := Int32.ofInt 1) C.hx C.hb dX2_init_46 rfl ?_
  refine w_iadd C dX2_init_47 ?_
  rw [show ((12 : Int) + 1) = 13 by decide]
  refine w_callS (rest := [.ref (eb E + 102)]) (mc := 0) (ms := 0) C hH hl (m_X2_startz (a0 := 13) (o := 23520) (by rfl)) (Nat.le_refl _) ML_RX2_28 MF_X2_start MS_X2_start rfl rfl (Nat.le_of_ble_eq_true rfl) ⟨Nat.le_of_ble_eq_true rfl, Nat.le_of_ble_eq_true rfl⟩ ⟨Nat.le_of_ble_eq_true rfl, Nat.le_of_ble_eq_true rfl⟩ dX2_init_48 (fun H locs hH => ?_)
  refine w_newI (N := 23520) C (by decide) hH AC_I rfl rfl (by decide) (Nat.le_of_ble_eq_true rfl) (Nat.le_of_ble_eq_true rfl) (fun _ => (nOf_c rfl rfl).trans hnM) dX2_init_51 (fun H hH => ?_)
  have hH : ST E s 106 (zu (zu z 102 3) 102 1) (zr (zr (up (zr M 103) 102 0 12) 104) 105) H locs := hH
  refine w_putF (k := 102) (off := 3) (ty := .array .int) C (by decide) hH (by decide) rfl (by decide) rfl FL_RX2_36 rfl rfl (by decide +kernel) (fun _ => rfl) (fun _ => rfl) dX2_init_53 (fun H locs hH => ?_)
  have hH : ST E s 106 (zu (zu (zu z 102 3) 102 1) 102 2) (zr (zr (up (zr M 103) 102 0 12) 104) 105) H locs := hH
  refine lv_aload_n C.hx C.hb dX2_init_56 rfl (lv_at hl 0 rfl) ?_
  refine lv_iconst (v := Int32.ofInt (-1)) C.hx C.hb dX2_init_57 rfl ?_
  refine w_putI (k := 102) C (by decide) hH (by decide) rfl (by decide) rfl FL_RX2_39 FW_2_5 dX2_init_58 (fun H locs hH => ?_)
  have hH : ST E s 106 (zu (zu (zu z 102 3) 102 1) 102 2) (up (zr (zr (up (zr M 103) 102 0 12) 104) 105) 102 5 (-1)) H locs := hH
  exact w_vret C hH dX2_init_61
def zc_X2_init_106 (z : Zs) : Zs := zu (zu (zu z 106 3) 106 1) 106 2
def mc_X2_init_106 (M : Mem) : Mem := up (zr (zr (up (zr M 107) 106 0 4) 108) 109) 106 5 (-1)
theorem zc_X2_init_106_fr {z : Zs} {a : Nat} (h : ∀ k i, a ≤ k → z k i = false) (ha : 110 ≤ a) : ∀ k i, a ≤ k → zc_X2_init_106 z k i = false := (zu_fresh (zu_fresh (zu_fresh h (Nat.lt_of_lt_of_le (show 106 < 110 by decide) ha)) (Nat.lt_of_lt_of_le (show 106 < 110 by decide) ha)) (Nat.lt_of_lt_of_le (show 106 < 110 by decide) ha))
set_option maxRecDepth 100000 in
set_option maxHeartbeats 4000000 in
theorem m_X2_init_106 {E : EE} {l : Launch} {z : Zs} {M : Mem} (hz0 : ∀ k i, 106 ≤ k → z k i = false) (hnM : nOf M = 110) : CT E l yX2_init cX2_init 2 none 4 120 3 6090 [.ref (eb E + 106), i3 4] 107 z M none 110 (zc_X2_init_106 z) (mc_X2_init_106 M) := by
  refine CT_of PN_RX2 (Nat.le_of_ble_eq_true rfl) ?_
  intro p e s m args below meth c C hH ls hl
  replace C : Cx E p s m args meth c cX2_init 2 RX2 none 107 "<init>" := C
  have hl : lv_has ls 2 [(0, .ref (eb E + 106)), (1, i3 4)] := hl
  refine lv_aload_n C.hx C.hb dX2_init_0 rfl (lv_at hl 0 rfl) ?_
  refine w_oinit C hl.1 ML_RX2_3 (Nat.le_of_ble_eq_true rfl) (Nat.le_of_ble_eq_true rfl) dX2_init_1 ?_
  refine lv_aload_n C.hx C.hb dX2_init_4 rfl (lv_at hl 0 rfl) ?_
  refine lv_bipush (v := Int32.ofInt 10) C.hx C.hb dX2_init_5 (by decide) ?_
  refine w_newI (N := 10) C (by decide) hH AC_I rfl rfl (by decide) (Nat.le_of_ble_eq_true rfl) (Nat.le_of_ble_eq_true rfl) (fun h => absurd h (by unfold nfull; omega)) dX2_init_7 (fun H hH => ?_)
  have hH : ST E s 108 z (zr M 107) H [] := hH
  refine w_putF (k := 106) (off := 1) (ty := .array .int) C (by decide) hH (by decide) rfl (by decide) rfl FL_RX2_9 rfl rfl (by decide +kernel) (fun _ => rfl) (fun _ => rfl) dX2_init_9 (fun H locs hH => ?_)
  have hH : ST E s 108 (zu z 106 3) (zr M 107) H locs := hH
  refine lv_aload_n C.hx C.hb dX2_init_12 rfl (lv_at hl 0 rfl) ?_
  refine lv_iconst (v := Int32.ofInt 1) C.hx C.hb dX2_init_13 rfl ?_
  refine lv_iload_n C.hx C.hb dX2_init_14 rfl (lv_at hl 1 rfl) ?_
  refine lv_bipush (v := Int32.ofInt 12) C.hx C.hb dX2_init_15 (by decide) ?_
  refine w_min C hl.1 ⟨⟨by decide, by decide⟩, ⟨by decide, by decide⟩⟩ ML_RX2_15 LB_min LB_mathi LB_minc (Nat.le_of_ble_eq_true rfl) (Nat.le_of_ble_eq_true rfl) (Nat.le_of_ble_eq_true rfl) (Nat.le_of_ble_eq_true rfl) dX2_init_17 ?_
  rw [show min (4 : Int) 12 = 4 by decide]
  refine w_max C hl.1 ⟨⟨by decide, by decide⟩, ⟨by decide, by decide⟩⟩ ML_RX2_21 LB_max LB_mathi LB_maxc (Nat.le_of_ble_eq_true rfl) (Nat.le_of_ble_eq_true rfl) (Nat.le_of_ble_eq_true rfl) (Nat.le_of_ble_eq_true rfl) dX2_init_20 ?_
  rw [show max (1 : Int) 4 = 4 by decide]
  refine w_putFI (k := 106) C (by decide) hH (by decide) rfl (by decide) rfl FL_RX2_24 rfl rfl (by decide +kernel) dX2_init_23 (fun H locs hH => ?_)
  have hH : ST E s 108 (zu z 106 3) (up (zr M 107) 106 0 4) H locs := hH
  refine lv_aload_n C.hx C.hb dX2_init_26 rfl (lv_at hl 0 rfl) ?_
  refine lv_aload_n C.hx C.hb dX2_init_27 rfl (lv_at hl 0 rfl) ?_
  refine w_getI (k := 106) C hH (by decide) rfl (by decide) rfl FL_RX2_24 dX2_init_28 ?_
  rw [show (up (zr M 107) 106 0 4) 106 0 = 4 from rfl]
  refine lv_iconst (v := Int32.ofInt 1) C.hx C.hb dX2_init_31 rfl ?_
  refine w_iadd C dX2_init_32 ?_
  rw [show ((4 : Int) + 1) = 5 by decide]
  refine w_callS (rest := [.ref (eb E + 106)]) (mc := 0) (ms := 0) C hH hl (m_X2_startz (a0 := 5) (o := 3040) (by rfl)) (Nat.le_refl _) ML_RX2_28 MF_X2_start MS_X2_start rfl rfl (Nat.le_of_ble_eq_true rfl) ⟨Nat.le_of_ble_eq_true rfl, Nat.le_of_ble_eq_true rfl⟩ ⟨Nat.le_of_ble_eq_true rfl, Nat.le_of_ble_eq_true rfl⟩ dX2_init_33 (fun H locs hH => ?_)
  refine w_newJ (N := 3040) C (by decide) hH AC_J rfl rfl (by decide) (Nat.le_of_ble_eq_true rfl) (Nat.le_of_ble_eq_true rfl) (fun h => absurd h (by unfold nfull; omega)) dX2_init_36 (fun H hH => ?_)
  have hH : ST E s 109 (zu z 106 3) (zr (up (zr M 107) 106 0 4) 108) H locs := hH
  refine w_putF (k := 106) (off := 2) (ty := .array .long) C (by decide) hH (by decide) rfl (by decide) rfl FL_RX2_32 rfl rfl (by decide +kernel) (fun _ => rfl) (fun _ => rfl) dX2_init_38 (fun H locs hH => ?_)
  have hH : ST E s 109 (zu (zu z 106 3) 106 1) (zr (up (zr M 107) 106 0 4) 108) H locs := hH
  refine lv_aload_n C.hx C.hb dX2_init_41 rfl (lv_at hl 0 rfl) ?_
  refine lv_aload_n C.hx C.hb dX2_init_42 rfl (lv_at hl 0 rfl) ?_
  refine w_getI (k := 106) C hH (by decide) rfl (by decide) rfl FL_RX2_24 dX2_init_43 ?_
  rw [show (zr (up (zr M 107) 106 0 4) 108) 106 0 = 4 from rfl]
  refine lv_iconst (v := Int32.ofInt 1) C.hx C.hb dX2_init_46 rfl ?_
  refine w_iadd C dX2_init_47 ?_
  rw [show ((4 : Int) + 1) = 5 by decide]
  refine w_callS (rest := [.ref (eb E + 106)]) (mc := 0) (ms := 0) C hH hl (m_X2_startz (a0 := 5) (o := 3040) (by rfl)) (Nat.le_refl _) ML_RX2_28 MF_X2_start MS_X2_start rfl rfl (Nat.le_of_ble_eq_true rfl) ⟨Nat.le_of_ble_eq_true rfl, Nat.le_of_ble_eq_true rfl⟩ ⟨Nat.le_of_ble_eq_true rfl, Nat.le_of_ble_eq_true rfl⟩ dX2_init_48 (fun H locs hH => ?_)
  refine w_newI (N := 3040) C (by decide) hH AC_I rfl rfl (by decide) (Nat.le_of_ble_eq_true rfl) (Nat.le_of_ble_eq_true rfl) (fun _ => (nOf_c rfl rfl).trans hnM) dX2_init_51 (fun H hH => ?_)
  have hH : ST E s 110 (zu (zu z 106 3) 106 1) (zr (zr (up (zr M 107) 106 0 4) 108) 109) H locs := hH
  refine w_putF (k := 106) (off := 3) (ty := .array .int) C (by decide) hH (by decide) rfl (by decide) rfl FL_RX2_36 rfl rfl (by decide +kernel) (fun _ => rfl) (fun _ => rfl) dX2_init_53 (fun H locs hH => ?_)
  have hH : ST E s 110 (zu (zu (zu z 106 3) 106 1) 106 2) (zr (zr (up (zr M 107) 106 0 4) 108) 109) H locs := hH
  refine lv_aload_n C.hx C.hb dX2_init_56 rfl (lv_at hl 0 rfl) ?_
  refine lv_iconst (v := Int32.ofInt (-1)) C.hx C.hb dX2_init_57 rfl ?_
  refine w_putI (k := 106) C (by decide) hH (by decide) rfl (by decide) rfl FL_RX2_39 FW_2_5 dX2_init_58 (fun H locs hH => ?_)
  have hH : ST E s 110 (zu (zu (zu z 106 3) 106 1) 106 2) (up (zr (zr (up (zr M 107) 106 0 4) 108) 109) 106 5 (-1)) H locs := hH
  exact w_vret C hH dX2_init_61
