def zc_X11_init_71 (z : Zs) : Zs := zu (zu (zu (zu (zu (zu (zu (zu (zu (zu (zu (zu (zu (zu (zu (zu (zu (zu (zu (zu (zu (zu (zu (zu (zu (zu (zu (zu (zu (zu z 71 0) 71 1) 71 2) 71 6) 71 7) 71 8) 71 9) 71 10) 71 11) 71 12) 71 22) 71 23) 71 25) 71 26) 71 30) 71 31) 71 32) 71 33) 71 35) 71 36) 71 37) 71 38) 71 39) 71 40) 71 41) 71 42) 71 43) 71 44) 71 45) 71 46
def mc_X11_init_71 (M : Mem) : Mem := up (up (zr (zr (zr (zr (zr (zr (zr (zr (zr (zr (zr (zr (zr (zr (zr (zr (zr (zr (zr (zr (zr (zr (zr (zr (zr (zr (zr (up (up (zr (zr (zr M 72) 73) 74) 71 4 (-1)) 71 5 (-1)) 75) 76) 77) 78) 79) 80) 81) 82) 83) 84) 85) 86) 87) 88) 89) 90) 91) 92) 93) 94) 95) 96) 97) 98) 99) 100) 101) 72 6 (-1)) 72 4 3
set_option maxRecDepth 100000 in
set_option maxHeartbeats 4000000 in
theorem m_X11_init_71 {E : EE} {l : Launch} {z : Zs} {M : Mem} (hz0 : ∀ k i, 71 ≤ k → z k i = false) (hnM : nOf M = 102) (hbr : zeq 102 (zc_X11_init_71 z) (zf 102)) {M1 : Mem} (hcp : fn_X11_copies 71 1 (mc_X11_init_71 M) = some M1) : CT E l yX11_init cX11_init 1 none 1 22 30 69563 [.ref (eb E + 71)] 72 z M none 102 (zf 102) M1 := by
  refine CT_of PN_RX11 (Nat.le_of_ble_eq_true rfl) ?_
  intro p e s m args below meth c C hH ls hl
  replace C : Cx E p s m args meth c cX11_init 1 RX11 none 72 "<init>" := C
  have hl : lv_has ls 1 [(0, .ref (eb E + 71))] := hl
  refine lv_aload_n C.hx C.hb dX11_init_0 rfl (lv_at hl 0 rfl) ?_
  refine w_oinit C hl.1 ML_RX11_1 (Nat.le_of_ble_eq_true rfl) (Nat.le_of_ble_eq_true rfl) dX11_init_1 ?_
  refine lv_aload_n C.hx C.hb dX11_init_4 rfl (lv_at hl 0 rfl) ?_
  refine lv_sipush (v := Int32.ofInt 288) C.hx C.hb dX11_init_5 (by decide) ?_
  refine w_newI (N := 288) C (by decide) hH AC_I rfl rfl (by decide) (Nat.le_of_ble_eq_true rfl) (Nat.le_of_ble_eq_true rfl) (fun h => absurd h (by unfold nfull; omega)) dX11_init_8 (fun H hH => ?_)
  have hH : ST E s 73 z (zr M 72) H [] := hH
  refine w_putF (k := 71) (off := 1) (ty := .array .int) C (by decide) hH (by decide) rfl (by decide) rfl FL_RX11_7 rfl rfl (by decide +kernel) (fun _ => rfl) (fun _ => rfl) dX11_init_10 (fun H locs hH => ?_)
  have hH : ST E s 73 (zu z 71 0) (zr M 72) H locs := hH
  refine lv_aload_n C.hx C.hb dX11_init_13 rfl (lv_at hl 0 rfl) ?_
  refine lv_sipush (v := Int32.ofInt 288) C.hx C.hb dX11_init_14 (by decide) ?_
  refine w_newI (N := 288) C (by decide) hH AC_I rfl rfl (by decide) (Nat.le_of_ble_eq_true rfl) (Nat.le_of_ble_eq_true rfl) (fun h => absurd h (by unfold nfull; omega)) dX11_init_17 (fun H hH => ?_)
  have hH : ST E s 74 (zu z 71 0) (zr (zr M 72) 73) H locs := hH
  refine w_putF (k := 71) (off := 2) (ty := .array .int) C (by decide) hH (by decide) rfl (by decide) rfl FL_RX11_13 rfl rfl (by decide +kernel) (fun _ => rfl) (fun _ => rfl) dX11_init_19 (fun H locs hH => ?_)
  have hH : ST E s 74 (zu (zu z 71 0) 71 1) (zr (zr M 72) 73) H locs := hH
  refine lv_aload_n C.hx C.hb dX11_init_22 rfl (lv_at hl 0 rfl) ?_
  refine lv_sipush (v := Int32.ofInt 300) C.hx C.hb dX11_init_23 (by decide) ?_
  refine w_newB (N := 300) C (by decide) hH AC_B rfl rfl (by decide) (Nat.le_of_ble_eq_true rfl) (Nat.le_of_ble_eq_true rfl) (fun h => absurd h (by unfold nfull; omega)) dX11_init_26 (fun H hH => ?_)
  have hH : ST E s 75 (zu (zu z 71 0) 71 1) (zr (zr (zr M 72) 73) 74) H locs := hH
  refine w_putF (k := 71) (off := 3) (ty := .array .byte) C (by decide) hH (by decide) rfl (by decide) rfl FL_RX11_16 rfl rfl (by decide +kernel) (fun _ => rfl) (fun _ => rfl) dX11_init_28 (fun H locs hH => ?_)
  have hH : ST E s 75 (zu (zu (zu z 71 0) 71 1) 71 2) (zr (zr (zr M 72) 73) 74) H locs := hH
  refine lv_aload_n C.hx C.hb dX11_init_31 rfl (lv_at hl 0 rfl) ?_
  refine lv_iconst (v := Int32.ofInt (-1)) C.hx C.hb dX11_init_32 rfl ?_
  refine w_putI (k := 71) C (by decide) hH (by decide) rfl (by decide) rfl FL_RX11_20 FW_11_4 dX11_init_33 (fun H locs hH => ?_)
  have hH : ST E s 75 (zu (zu (zu z 71 0) 71 1) 71 2) (up (zr (zr (zr M 72) 73) 74) 71 4 (-1)) H locs := hH
  refine lv_aload_n C.hx C.hb dX11_init_36 rfl (lv_at hl 0 rfl) ?_
  refine lv_iconst (v := Int32.ofInt (-1)) C.hx C.hb dX11_init_37 rfl ?_
  refine w_putI (k := 71) C (by decide) hH (by decide) rfl (by decide) rfl FL_RX11_24 FW_11_5 dX11_init_38 (fun H locs hH => ?_)
  have hH : ST E s 75 (zu (zu (zu z 71 0) 71 1) 71 2) (up (up (zr (zr (zr M 72) 73) 74) 71 4 (-1)) 71 5 (-1)) H locs := hH
  refine lv_aload_n C.hx C.hb dX11_init_41 rfl (lv_at hl 0 rfl) ?_
  refine lv_iconst (v := Int32.ofInt 4) C.hx C.hb dX11_init_42 rfl ?_
  refine w_newI (N := 4) C (by decide) hH AC_I rfl rfl (by decide) (Nat.le_of_ble_eq_true rfl) (Nat.le_of_ble_eq_true rfl) (fun h => absurd h (by unfold nfull; omega)) dX11_init_43 (fun H hH => ?_)
  have hH : ST E s 76 (zu (zu (zu z 71 0) 71 1) 71 2) (zr (up (up (zr (zr (zr M 72) 73) 74) 71 4 (-1)) 71 5 (-1)) 75) H locs := hH
  refine w_putF (k := 71) (off := 4) (ty := .array .int) C (by decide) hH (by decide) rfl (by decide) rfl FL_RX11_27 rfl rfl (by decide +kernel) (fun _ => rfl) (fun _ => rfl) dX11_init_45 (fun H locs hH => ?_)
  have hH : ST E s 76 (zu (zu (zu (zu z 71 0) 71 1) 71 2) 71 6) (zr (up (up (zr (zr (zr M 72) 73) 74) 71 4 (-1)) 71 5 (-1)) 75) H locs := hH
  refine lv_aload_n C.hx C.hb dX11_init_48 rfl (lv_at hl 0 rfl) ?_
  refine lv_bipush (v := Int32.ofInt 80) C.hx C.hb dX11_init_49 (by decide) ?_
  refine w_newI (N := 80) C (by decide) hH AC_I rfl rfl (by decide) (Nat.le_of_ble_eq_true rfl) (Nat.le_of_ble_eq_true rfl) (fun h => absurd h (by unfold nfull; omega)) dX11_init_51 (fun H hH => ?_)
  have hH : ST E s 77 (zu (zu (zu (zu z 71 0) 71 1) 71 2) 71 6) (zr (zr (up (up (zr (zr (zr M 72) 73) 74) 71 4 (-1)) 71 5 (-1)) 75) 76) H locs := hH
  refine w_putF (k := 71) (off := 5) (ty := .array .int) C (by decide) hH (by decide) rfl (by decide) rfl FL_RX11_30 rfl rfl (by decide +kernel) (fun _ => rfl) (fun _ => rfl) dX11_init_53 (fun H locs hH => ?_)
  have hH : ST E s 77 (zu (zu (zu (zu (zu z 71 0) 71 1) 71 2) 71 6) 71 7) (zr (zr (up (up (zr (zr (zr M 72) 73) 74) 71 4 (-1)) 71 5 (-1)) 75) 76) H locs := hH
  refine lv_aload_n C.hx C.hb dX11_init_56 rfl (lv_at hl 0 rfl) ?_
  refine lv_bipush (v := Int32.ofInt 80) C.hx C.hb dX11_init_57 (by decide) ?_
  refine w_newI (N := 80) C (by decide) hH AC_I rfl rfl (by decide) (Nat.le_of_ble_eq_true rfl) (Nat.le_of_ble_eq_true rfl) (fun h => absurd h (by unfold nfull; omega)) dX11_init_59 (fun H hH => ?_)
  have hH : ST E s 78 (zu (zu (zu (zu (zu z 71 0) 71 1) 71 2) 71 6) 71 7) (zr (zr (zr (up (up (zr (zr (zr M 72) 73) 74) 71 4 (-1)) 71 5 (-1)) 75) 76) 77) H locs := hH
  refine w_putF (k := 71) (off := 6) (ty := .array .int) C (by decide) hH (by decide) rfl (by decide) rfl FL_RX11_33 rfl rfl (by decide +kernel) (fun _ => rfl) (fun _ => rfl) dX11_init_61 (fun H locs hH => ?_)
  have hH : ST E s 78 (zu (zu (zu (zu (zu (zu z 71 0) 71 1) 71 2) 71 6) 71 7) 71 8) (zr (zr (zr (up (up (zr (zr (zr M 72) 73) 74) 71 4 (-1)) 71 5 (-1)) 75) 76) 77) H locs := hH
  refine lv_aload_n C.hx C.hb dX11_init_64 rfl (lv_at hl 0 rfl) ?_
  refine lv_bipush (v := Int32.ofInt 80) C.hx C.hb dX11_init_65 (by decide) ?_
  refine w_newI (N := 80) C (by decide) hH AC_I rfl rfl (by decide) (Nat.le_of_ble_eq_true rfl) (Nat.le_of_ble_eq_true rfl) (fun h => absurd h (by unfold nfull; omega)) dX11_init_67 (fun H hH => ?_)
  have hH : ST E s 79 (zu (zu (zu (zu (zu (zu z 71 0) 71 1) 71 2) 71 6) 71 7) 71 8) (zr (zr (zr (zr (up (up (zr (zr (zr M 72) 73) 74) 71 4 (-1)) 71 5 (-1)) 75) 76) 77) 78) H locs := hH
  refine w_putF (k := 71) (off := 7) (ty := .array .int) C (by decide) hH (by decide) rfl (by decide) rfl FL_RX11_36 rfl rfl (by decide +kernel) (fun _ => rfl) (fun _ => rfl) dX11_init_69 (fun H locs hH => ?_)
  have hH : ST E s 79 (zu (zu (zu (zu (zu (zu (zu z 71 0) 71 1) 71 2) 71 6) 71 7) 71 8) 71 9) (zr (zr (zr (zr (up (up (zr (zr (zr M 72) 73) 74) 71 4 (-1)) 71 5 (-1)) 75) 76) 77) 78) H locs := hH
  refine lv_aload_n C.hx C.hb dX11_init_72 rfl (lv_at hl 0 rfl) ?_
  refine lv_bipush (v := Int32.ofInt 80) C.hx C.hb dX11_init_73 (by decide) ?_
  refine w_newI (N := 80) C (by decide) hH AC_I rfl rfl (by decide) (Nat.le_of_ble_eq_true rfl) (Nat.le_of_ble_eq_true rfl) (fun h => absurd h (by unfold nfull; omega)) dX11_init_75 (fun H hH => ?_)
  have hH : ST E s 80 (zu (zu (zu (zu (zu (zu (zu z 71 0) 71 1) 71 2) 71 6) 71 7) 71 8) 71 9) (zr (zr (zr (zr (zr (up (up (zr (zr (zr M 72) 73) 74) 71 4 (-1)) 71 5 (-1)) 75) 76) 77) 78) 79) H locs := hH
  refine w_putF (k := 71) (off := 8) (ty := .array .int) C (by decide) hH (by decide) rfl (by decide) rfl FL_RX11_39 rfl rfl (by decide +kernel) (fun _ => rfl) (fun _ => rfl) dX11_init_77 (fun H locs hH => ?_)
  have hH : ST E s 80 (zu (zu (zu (zu (zu (zu (zu (zu z 71 0) 71 1) 71 2) 71 6) 71 7) 71 8) 71 9) 71 10) (zr (zr (zr (zr (zr (up (up (zr (zr (zr M 72) 73) 74) 71 4 (-1)) 71 5 (-1)) 75) 76) 77) 78) 79) H locs := hH
  refine lv_aload_n C.hx C.hb dX11_init_80 rfl (lv_at hl 0 rfl) ?_
  refine lv_sipush (v := Int32.ofInt 1600) C.hx C.hb dX11_init_81 (by decide) ?_
  refine w_newI (N := 1600) C (by decide) hH AC_I rfl rfl (by decide) (Nat.le_of_ble_eq_true rfl) (Nat.le_of_ble_eq_true rfl) (fun h => absurd h (by unfold nfull; omega)) dX11_init_84 (fun H hH => ?_)
  have hH : ST E s 81 (zu (zu (zu (zu (zu (zu (zu (zu z 71 0) 71 1) 71 2) 71 6) 71 7) 71 8) 71 9) 71 10) (zr (zr (zr (zr (zr (zr (up (up (zr (zr (zr M 72) 73) 74) 71 4 (-1)) 71 5 (-1)) 75) 76) 77) 78) 79) 80) H locs := hH
  refine w_putF (k := 71) (off := 9) (ty := .array .int) C (by decide) hH (by decide) rfl (by decide) rfl FL_RX11_42 rfl rfl (by decide +kernel) (fun _ => rfl) (fun _ => rfl) dX11_init_86 (fun H locs hH => ?_)
  have hH : ST E s 81 (zu (zu (zu (zu (zu (zu (zu (zu (zu z 71 0) 71 1) 71 2) 71 6) 71 7) 71 8) 71 9) 71 10) 71 11) (zr (zr (zr (zr (zr (zr (up (up (zr (zr (zr M 72) 73) 74) 71 4 (-1)) 71 5 (-1)) 75) 76) 77) 78) 79) 80) H locs := hH
  refine lv_aload_n C.hx C.hb dX11_init_89 rfl (lv_at hl 0 rfl) ?_
  refine lv_sipush (v := Int32.ofInt 1600) C.hx C.hb dX11_init_90 (by decide) ?_
  refine w_newI (N := 1600) C (by decide) hH AC_I rfl rfl (by decide) (Nat.le_of_ble_eq_true rfl) (Nat.le_of_ble_eq_true rfl) (fun h => absurd h (by unfold nfull; omega)) dX11_init_93 (fun H hH => ?_)
  have hH : ST E s 82 (zu (zu (zu (zu (zu (zu (zu (zu (zu z 71 0) 71 1) 71 2) 71 6) 71 7) 71 8) 71 9) 71 10) 71 11) (zr (zr (zr (zr (zr (zr (zr (up (up (zr (zr (zr M 72) 73) 74) 71 4 (-1)) 71 5 (-1)) 75) 76) 77) 78) 79) 80) 81) H locs := hH
  refine w_putF (k := 71) (off := 10) (ty := .array .int) C (by decide) hH (by decide) rfl (by decide) rfl FL_RX11_45 rfl rfl (by decide +kernel) (fun _ => rfl) (fun _ => rfl) dX11_init_95 (fun H locs hH => ?_)
  have hH : ST E s 82 (zu (zu (zu (zu (zu (zu (zu (zu (zu (zu z 71 0) 71 1) 71 2) 71 6) 71 7) 71 8) 71 9) 71 10) 71 11) 71 12) (zr (zr (zr (zr (zr (zr (zr (up (up (zr (zr (zr M 72) 73) 74) 71 4 (-1)) 71 5 (-1)) 75) 76) 77) 78) 79) 80) 81) H locs := hH
  refine lv_aload_n C.hx C.hb dX11_init_98 rfl (lv_at hl 0 rfl) ?_
  refine lv_bipush (v := Int32.ofInt 40) C.hx C.hb dX11_init_99 (by decide) ?_
  refine w_newI (N := 40) C (by decide) hH AC_I rfl rfl (by decide) (Nat.le_of_ble_eq_true rfl) (Nat.le_of_ble_eq_true rfl) (fun h => absurd h (by unfold nfull; omega)) dX11_init_101 (fun H hH => ?_)
  have hH : ST E s 83 (zu (zu (zu (zu (zu (zu (zu (zu (zu (zu z 71 0) 71 1) 71 2) 71 6) 71 7) 71 8) 71 9) 71 10) 71 11) 71 12) (zr (zr (zr (zr (zr (zr (zr (zr (up (up (zr (zr (zr M 72) 73) 74) 71 4 (-1)) 71 5 (-1)) 75) 76) 77) 78) 79) 80) 81) 82) H locs := hH
  refine w_putF (k := 71) (off := 11) (ty := .array .int) C (by decide) hH (by decide) rfl (by decide) rfl FL_RX11_48 rfl rfl (by decide +kernel) (fun _ => rfl) (fun _ => rfl) dX11_init_103 (fun H locs hH => ?_)
  have hH : ST E s 83 (zu (zu (zu (zu (zu (zu (zu (zu (zu (zu (zu z 71 0) 71 1) 71 2) 71 6) 71 7) 71 8) 71 9) 71 10) 71 11) 71 12) 71 22) (zr (zr (zr (zr (zr (zr (zr (zr (up (up (zr (zr (zr M 72) 73) 74) 71 4 (-1)) 71 5 (-1)) 75) 76) 77) 78) 79) 80) 81) 82) H locs := hH
  refine lv_aload_n C.hx C.hb dX11_init_106 rfl (lv_at hl 0 rfl) ?_
  refine lv_bipush (v := Int32.ofInt 41) C.hx C.hb dX11_init_107 (by decide) ?_
  refine w_newI (N := 41) C (by decide) hH AC_I rfl rfl (by decide) (Nat.le_of_ble_eq_true rfl) (Nat.le_of_ble_eq_true rfl) (fun h => absurd h (by unfold nfull; omega)) dX11_init_109 (fun H hH => ?_)
  have hH : ST E s 84 (zu (zu (zu (zu (zu (zu (zu (zu (zu (zu (zu z 71 0) 71 1) 71 2) 71 6) 71 7) 71 8) 71 9) 71 10) 71 11) 71 12) 71 22) (zr (zr (zr (zr (zr (zr (zr (zr (zr (up (up (zr (zr (zr M 72) 73) 74) 71 4 (-1)) 71 5 (-1)) 75) 76) 77) 78) 79) 80) 81) 82) 83) H locs := hH
  refine w_putF (k := 71) (off := 12) (ty := .array .int) C (by decide) hH (by decide) rfl (by decide) rfl FL_RX11_51 rfl rfl (by decide +kernel) (fun _ => rfl) (fun _ => rfl) dX11_init_111 (fun H locs hH => ?_)
  have hH : ST E s 84 (zu (zu (zu (zu (zu (zu (zu (zu (zu (zu (zu (zu z 71 0) 71 1) 71 2) 71 6) 71 7) 71 8) 71 9) 71 10) 71 11) 71 12) 71 22) 71 23) (zr (zr (zr (zr (zr (zr (zr (zr (zr (up (up (zr (zr (zr M 72) 73) 74) 71 4 (-1)) 71 5 (-1)) 75) 76) 77) 78) 79) 80) 81) 82) 83) H locs := hH
  refine lv_aload_n C.hx C.hb dX11_init_114 rfl (lv_at hl 0 rfl) ?_
  refine lv_bipush (v := Int32.ofInt 80) C.hx C.hb dX11_init_115 (by decide) ?_
  refine w_newI (N := 80) C (by decide) hH AC_I rfl rfl (by decide) (Nat.le_of_ble_eq_true rfl) (Nat.le_of_ble_eq_true rfl) (fun h => absurd h (by unfold nfull; omega)) dX11_init_117 (fun H hH => ?_)
  have hH : ST E s 85 (zu (zu (zu (zu (zu (zu (zu (zu (zu (zu (zu (zu z 71 0) 71 1) 71 2) 71 6) 71 7) 71 8) 71 9) 71 10) 71 11) 71 12) 71 22) 71 23) (zr (zr (zr (zr (zr (zr (zr (zr (zr (zr (up (up (zr (zr (zr M 72) 73) 74) 71 4 (-1)) 71 5 (-1)) 75) 76) 77) 78) 79) 80) 81) 82) 83) 84) H locs := hH
  refine w_putF (k := 71) (off := 13) (ty := .array .int) C (by decide) hH (by decide) rfl (by decide) rfl FL_RX11_54 rfl rfl (by decide +kernel) (fun _ => rfl) (fun _ => rfl) dX11_init_119 (fun H locs hH => ?_)
  have hH : ST E s 85 (zu (zu (zu (zu (zu (zu (zu (zu (zu (zu (zu (zu (zu z 71 0) 71 1) 71 2) 71 6) 71 7) 71 8) 71 9) 71 10) 71 11) 71 12) 71 22) 71 23) 71 25) (zr (zr (zr (zr (zr (zr (zr (zr (zr (zr (up (up (zr (zr (zr M 72) 73) 74) 71 4 (-1)) 71 5 (-1)) 75) 76) 77) 78) 79) 80) 81) 82) 83) 84) H locs := hH
  refine lv_aload_n C.hx C.hb dX11_init_122 rfl (lv_at hl 0 rfl) ?_
  refine lv_bipush (v := Int32.ofInt 80) C.hx C.hb dX11_init_123 (by decide) ?_
  refine w_newI (N := 80) C (by decide) hH AC_I rfl rfl (by decide) (Nat.le_of_ble_eq_true rfl) (Nat.le_of_ble_eq_true rfl) (fun h => absurd h (by unfold nfull; omega)) dX11_init_125 (fun H hH => ?_)
  have hH : ST E s 86 (zu (zu (zu (zu (zu (zu (zu (zu (zu (zu (zu (zu (zu z 71 0) 71 1) 71 2) 71 6) 71 7) 71 8) 71 9) 71 10) 71 11) 71 12) 71 22) 71 23) 71 25) (zr (zr (zr (zr (zr (zr (zr (zr (zr (zr (zr (up (up (zr (zr (zr M 72) 73) 74) 71 4 (-1)) 71 5 (-1)) 75) 76) 77) 78) 79) 80) 81) 82) 83) 84) 85) H locs := hH
  refine w_putF (k := 71) (off := 14) (ty := .array .int) C (by decide) hH (by decide) rfl (by decide) rfl FL_RX11_57 rfl rfl (by decide +kernel) (fun _ => rfl) (fun _ => rfl) dX11_init_127 (fun H locs hH => ?_)
  have hH : ST E s 86 (zu (zu (zu (zu (zu (zu (zu (zu (zu (zu (zu (zu (zu (zu z 71 0) 71 1) 71 2) 71 6) 71 7) 71 8) 71 9) 71 10) 71 11) 71 12) 71 22) 71 23) 71 25) 71 26) (zr (zr (zr (zr (zr (zr (zr (zr (zr (zr (zr (up (up (zr (zr (zr M 72) 73) 74) 71 4 (-1)) 71 5 (-1)) 75) 76) 77) 78) 79) 80) 81) 82) 83) 84) 85) H locs := hH
  refine lv_aload_n C.hx C.hb dX11_init_130 rfl (lv_at hl 0 rfl) ?_
  refine lv_bipush (v := Int32.ofInt 20) C.hx C.hb dX11_init_131 (by decide) ?_
  refine w_newI (N := 20) C (by decide) hH AC_I rfl rfl (by decide) (Nat.le_of_ble_eq_true rfl) (Nat.le_of_ble_eq_true rfl) (fun h => absurd h (by unfold nfull; omega)) dX11_init_133 (fun H hH => ?_)
  have hH : ST E s 87 (zu (zu (zu (zu (zu (zu (zu (zu (zu (zu (zu (zu (zu (zu z 71 0) 71 1) 71 2) 71 6) 71 7) 71 8) 71 9) 71 10) 71 11) 71 12) 71 22) 71 23) 71 25) 71 26) (zr (zr (zr (zr (zr (zr (zr (zr (zr (zr (zr (zr (up (up (zr (zr (zr M 72) 73) 74) 71 4 (-1)) 71 5 (-1)) 75) 76) 77) 78) 79) 80) 81) 82) 83) 84) 85) 86) H locs := hH
  refine w_putF (k := 71) (off := 15) (ty := .array .int) C (by decide) hH (by decide) rfl (by decide) rfl FL_RX11_60 rfl rfl (by decide +kernel) (fun _ => rfl) (fun _ => rfl) dX11_init_135 (fun H locs hH => ?_)
  have hH : ST E s 87 (zu (zu (zu (zu (zu (zu (zu (zu (zu (zu (zu (zu (zu (zu (zu z 71 0) 71 1) 71 2) 71 6) 71 7) 71 8) 71 9) 71 10) 71 11) 71 12) 71 22) 71 23) 71 25) 71 26) 71 30) (zr (zr (zr (zr (zr (zr (zr (zr (zr (zr (zr (zr (up (up (zr (zr (zr M 72) 73) 74) 71 4 (-1)) 71 5 (-1)) 75) 76) 77) 78) 79) 80) 81) 82) 83) 84) 85) 86) H locs := hH
  refine lv_aload_n C.hx C.hb dX11_init_138 rfl (lv_at hl 0 rfl) ?_
  refine lv_bipush (v := Int32.ofInt 20) C.hx C.hb dX11_init_139 (by decide) ?_
  refine w_newI (N := 20) C (by decide) hH AC_I rfl rfl (by decide) (Nat.le_of_ble_eq_true rfl) (Nat.le_of_ble_eq_true rfl) (fun h => absurd h (by unfold nfull; omega)) dX11_init_141 (fun H hH => ?_)
  have hH : ST E s 88 (zu (zu (zu (zu (zu (zu (zu (zu (zu (zu (zu (zu (zu (zu (zu z 71 0) 71 1) 71 2) 71 6) 71 7) 71 8) 71 9) 71 10) 71 11) 71 12) 71 22) 71 23) 71 25) 71 26) 71 30) (zr (zr (zr (zr (zr (zr (zr (zr (zr (zr (zr (zr (zr (up (up (zr (zr (zr M 72) 73) 74) 71 4 (-1)) 71 5 (-1)) 75) 76) 77) 78) 79) 80) 81) 82) 83) 84) 85) 86) 87) H locs := hH
  refine w_putF (k := 71) (off := 16) (ty := .array .int) C (by decide) hH (by decide) rfl (by decide) rfl FL_RX11_63 rfl rfl (by decide +kernel) (fun _ => rfl) (fun _ => rfl) dX11_init_143 (fun H locs hH => ?_)
  have hH : ST E s 88 (zu (zu (zu (zu (zu (zu (zu (zu (zu (zu (zu (zu (zu (zu (zu (zu z 71 0) 71 1) 71 2) 71 6) 71 7) 71 8) 71 9) 71 10) 71 11) 71 12) 71 22) 71 23) 71 25) 71 26) 71 30) 71 31) (zr (zr (zr (zr (zr (zr (zr (zr (zr (zr (zr (zr (zr (up (up (zr (zr (zr M 72) 73) 74) 71 4 (-1)) 71 5 (-1)) 75) 76) 77) 78) 79) 80) 81) 82) 83) 84) 85) 86) 87) H locs := hH
  refine lv_aload_n C.hx C.hb dX11_init_146 rfl (lv_at hl 0 rfl) ?_
  refine lv_bipush (v := Int32.ofInt 20) C.hx C.hb dX11_init_147 (by decide) ?_
  refine w_newI (N := 20) C (by decide) hH AC_I rfl rfl (by decide) (Nat.le_of_ble_eq_true rfl) (Nat.le_of_ble_eq_true rfl) (fun h => absurd h (by unfold nfull; omega)) dX11_init_149 (fun H hH => ?_)
  have hH : ST E s 89 (zu (zu (zu (zu (zu (zu (zu (zu (zu (zu (zu (zu (zu (zu (zu (zu z 71 0) 71 1) 71 2) 71 6) 71 7) 71 8) 71 9) 71 10) 71 11) 71 12) 71 22) 71 23) 71 25) 71 26) 71 30) 71 31) (zr (zr (zr (zr (zr (zr (zr (zr (zr (zr (zr (zr (zr (zr (up (up (zr (zr (zr M 72) 73) 74) 71 4 (-1)) 71 5 (-1)) 75) 76) 77) 78) 79) 80) 81) 82) 83) 84) 85) 86) 87) 88) H locs := hH
  refine w_putF (k := 71) (off := 17) (ty := .array .int) C (by decide) hH (by decide) rfl (by decide) rfl FL_RX11_66 rfl rfl (by decide +kernel) (fun _ => rfl) (fun _ => rfl) dX11_init_151 (fun H locs hH => ?_)
  have hH : ST E s 89 (zu (zu (zu (zu (zu (zu (zu (zu (zu (zu (zu (zu (zu (zu (zu (zu (zu z 71 0) 71 1) 71 2) 71 6) 71 7) 71 8) 71 9) 71 10) 71 11) 71 12) 71 22) 71 23) 71 25) 71 26) 71 30) 71 31) 71 32) (zr (zr (zr (zr (zr (zr (zr (zr (zr (zr (zr (zr (zr (zr (up (up (zr (zr (zr M 72) 73) 74) 71 4 (-1)) 71 5 (-1)) 75) 76) 77) 78) 79) 80) 81) 82) 83) 84) 85) 86) 87) 88) H locs := hH
  refine lv_aload_n C.hx C.hb dX11_init_154 rfl (lv_at hl 0 rfl) ?_
  refine lv_bipush (v := Int32.ofInt 20) C.hx C.hb dX11_init_155 (by decide) ?_
  refine w_newI (N := 20) C (by decide) hH AC_I rfl rfl (by decide) (Nat.le_of_ble_eq_true rfl) (Nat.le_of_ble_eq_true rfl) (fun h => absurd h (by unfold nfull; omega)) dX11_init_157 (fun H hH => ?_)
  have hH : ST E s 90 (zu (zu (zu (zu (zu (zu (zu (zu (zu (zu (zu (zu (zu (zu (zu (zu (zu z 71 0) 71 1) 71 2) 71 6) 71 7) 71 8) 71 9) 71 10) 71 11) 71 12) 71 22) 71 23) 71 25) 71 26) 71 30) 71 31) 71 32) (zr (zr (zr (zr (zr (zr (zr (zr (zr (zr (zr (zr (zr (zr (zr (up (up (zr (zr (zr M 72) 73) 74) 71 4 (-1)) 71 5 (-1)) 75) 76) 77) 78) 79) 80) 81) 82) 83) 84) 85) 86) 87) 88) 89) H locs := hH
  refine w_putF (k := 71) (off := 18) (ty := .array .int) C (by decide) hH (by decide) rfl (by decide) rfl FL_RX11_69 rfl rfl (by decide +kernel) (fun _ => rfl) (fun _ => rfl) dX11_init_159 (fun H locs hH => ?_)
  have hH : ST E s 90 (zu (zu (zu (zu (zu (zu (zu (zu (zu (zu (zu (zu (zu (zu (zu (zu (zu (zu z 71 0) 71 1) 71 2) 71 6) 71 7) 71 8) 71 9) 71 10) 71 11) 71 12) 71 22) 71 23) 71 25) 71 26) 71 30) 71 31) 71 32) 71 33) (zr (zr (zr (zr (zr (zr (zr (zr (zr (zr (zr (zr (zr (zr (zr (up (up (zr (zr (zr M 72) 73) 74) 71 4 (-1)) 71 5 (-1)) 75) 76) 77) 78) 79) 80) 81) 82) 83) 84) 85) 86) 87) 88) 89) H locs := hH
  refine lv_aload_n C.hx C.hb dX11_init_162 rfl (lv_at hl 0 rfl) ?_
  refine lv_sipush (v := Int32.ofInt 400) C.hx C.hb dX11_init_163 (by decide) ?_
  refine w_newI (N := 400) C (by decide) hH AC_I rfl rfl (by decide) (Nat.le_of_ble_eq_true rfl) (Nat.le_of_ble_eq_true rfl) (fun h => absurd h (by unfold nfull; omega)) dX11_init_166 (fun H hH => ?_)
  have hH : ST E s 91 (zu (zu (zu (zu (zu (zu (zu (zu (zu (zu (zu (zu (zu (zu (zu (zu (zu (zu z 71 0) 71 1) 71 2) 71 6) 71 7) 71 8) 71 9) 71 10) 71 11) 71 12) 71 22) 71 23) 71 25) 71 26) 71 30) 71 31) 71 32) 71 33) (zr (zr (zr (zr (zr (zr (zr (zr (zr (zr (zr (zr (zr (zr (zr (zr (up (up (zr (zr (zr M 72) 73) 74) 71 4 (-1)) 71 5 (-1)) 75) 76) 77) 78) 79) 80) 81) 82) 83) 84) 85) 86) 87) 88) 89) 90) H locs := hH
  refine w_putF (k := 71) (off := 19) (ty := .array .int) C (by decide) hH (by decide) rfl (by decide) rfl FL_RX11_72 rfl rfl (by decide +kernel) (fun _ => rfl) (fun _ => rfl) dX11_init_168 (fun H locs hH => ?_)
  have hH : ST E s 91 (zu (zu (zu (zu (zu (zu (zu (zu (zu (zu (zu (zu (zu (zu (zu (zu (zu (zu (zu z 71 0) 71 1) 71 2) 71 6) 71 7) 71 8) 71 9) 71 10) 71 11) 71 12) 71 22) 71 23) 71 25) 71 26) 71 30) 71 31) 71 32) 71 33) 71 35) (zr (zr (zr (zr (zr (zr (zr (zr (zr (zr (zr (zr (zr (zr (zr (zr (up (up (zr (zr (zr M 72) 73) 74) 71 4 (-1)) 71 5 (-1)) 75) 76) 77) 78) 79) 80) 81) 82) 83) 84) 85) 86) 87) 88) 89) 90) H locs := hH
  refine lv_aload_n C.hx C.hb dX11_init_171 rfl (lv_at hl 0 rfl) ?_
  refine lv_sipush (v := Int32.ofInt 400) C.hx C.hb dX11_init_172 (by decide) ?_
  refine w_newI (N := 400) C (by decide) hH AC_I rfl rfl (by decide) (Nat.le_of_ble_eq_true rfl) (Nat.le_of_ble_eq_true rfl) (fun h => absurd h (by unfold nfull; omega)) dX11_init_175 (fun H hH => ?_)
  have hH : ST E s 92 (zu (zu (zu (zu (zu (zu (zu (zu (zu (zu (zu (zu (zu (zu (zu (zu (zu (zu (zu z 71 0) 71 1) 71 2) 71 6) 71 7) 71 8) 71 9) 71 10) 71 11) 71 12) 71 22) 71 23) 71 25) 71 26) 71 30) 71 31) 71 32) 71 33) 71 35) (zr (zr (zr (zr (zr (zr (zr (zr (zr (zr (zr (zr (zr (zr (zr (zr (zr (up (up (zr (zr (zr M 72) 73) 74) 71 4 (-1)) 71 5 (-1)) 75) 76) 77) 78) 79) 80) 81) 82) 83) 84) 85) 86) 87) 88) 89) 90) 91) H locs := hH
  refine w_putF (k := 71) (off := 20) (ty := .array .int) C (by decide) hH (by decide) rfl (by decide) rfl FL_RX11_75 rfl rfl (by decide +kernel) (fun _ => rfl) (fun _ => rfl) dX11_init_177 (fun H locs hH => ?_)
  have hH : ST E s 92 (zu (zu (zu (zu (zu (zu (zu (zu (zu (zu (zu (zu (zu (zu (zu (zu (zu (zu (zu (zu z 71 0) 71 1) 71 2) 71 6) 71 7) 71 8) 71 9) 71 10) 71 11) 71 12) 71 22) 71 23) 71 25) 71 26) 71 30) 71 31) 71 32) 71 33) 71 35) 71 36) (zr (zr (zr (zr (zr (zr (zr (zr (zr (zr (zr (zr (zr (zr (zr (zr (zr (up (up (zr (zr (zr M 72) 73) 74) 71 4 (-1)) 71 5 (-1)) 75) 76) 77) 78) 79) 80) 81) 82) 83) 84) 85) 86) 87) 88) 89) 90) 91) H locs := hH
  refine lv_aload_n C.hx C.hb dX11_init_180 rfl (lv_at hl 0 rfl) ?_
  refine lv_bipush (v := Int32.ofInt 7) C.hx C.hb dX11_init_181 (by decide) ?_
  refine w_newI (N := 7) C (by decide) hH AC_I rfl rfl (by decide) (Nat.le_of_ble_eq_true rfl) (Nat.le_of_ble_eq_true rfl) (fun h => absurd h (by unfold nfull; omega)) dX11_init_183 (fun H hH => ?_)
  have hH : ST E s 93 (zu (zu (zu (zu (zu (zu (zu (zu (zu (zu (zu (zu (zu (zu (zu (zu (zu (zu (zu (zu z 71 0) 71 1) 71 2) 71 6) 71 7) 71 8) 71 9) 71 10) 71 11) 71 12) 71 22) 71 23) 71 25) 71 26) 71 30) 71 31) 71 32) 71 33) 71 35) 71 36) (zr (zr (zr (zr (zr (zr (zr (zr (zr (zr (zr (zr (zr (zr (zr (zr (zr (zr (up (up (zr (zr (zr M 72) 73) 74) 71 4 (-1)) 71 5 (-1)) 75) 76) 77) 78) 79) 80) 81) 82) 83) 84) 85) 86) 87) 88) 89) 90) 91) 92) H locs := hH
  refine w_putF (k := 71) (off := 21) (ty := .array .int) C (by decide) hH (by decide) rfl (by decide) rfl FL_RX11_78 rfl rfl (by decide +kernel) (fun _ => rfl) (fun _ => rfl) dX11_init_185 (fun H locs hH => ?_)
  have hH : ST E s 93 (zu (zu (zu (zu (zu (zu (zu (zu (zu (zu (zu (zu (zu (zu (zu (zu (zu (zu (zu (zu (zu z 71 0) 71 1) 71 2) 71 6) 71 7) 71 8) 71 9) 71 10) 71 11) 71 12) 71 22) 71 23) 71 25) 71 26) 71 30) 71 31) 71 32) 71 33) 71 35) 71 36) 71 37) (zr (zr (zr (zr (zr (zr (zr (zr (zr (zr (zr (zr (zr (zr (zr (zr (zr (zr (up (up (zr (zr (zr M 72) 73) 74) 71 4 (-1)) 71 5 (-1)) 75) 76) 77) 78) 79) 80) 81) 82) 83) 84) 85) 86) 87) 88) 89) 90) 91) 92) H locs := hH
  refine lv_aload_n C.hx C.hb dX11_init_188 rfl (lv_at hl 0 rfl) ?_
  refine lv_sipush (v := Int32.ofInt 200) C.hx C.hb dX11_init_189 (by decide) ?_
  refine w_newJ (N := 200) C (by decide) hH AC_J rfl rfl (by decide) (Nat.le_of_ble_eq_true rfl) (Nat.le_of_ble_eq_true rfl) (fun h => absurd h (by unfold nfull; omega)) dX11_init_192 (fun H hH => ?_)
  have hH : ST E s 94 (zu (zu (zu (zu (zu (zu (zu (zu (zu (zu (zu (zu (zu (zu (zu (zu (zu (zu (zu (zu (zu z 71 0) 71 1) 71 2) 71 6) 71 7) 71 8) 71 9) 71 10) 71 11) 71 12) 71 22) 71 23) 71 25) 71 26) 71 30) 71 31) 71 32) 71 33) 71 35) 71 36) 71 37) (zr (zr (zr (zr (zr (zr (zr (zr (zr (zr (zr (zr (zr (zr (zr (zr (zr (zr (zr (up (up (zr (zr (zr M 72) 73) 74) 71 4 (-1)) 71 5 (-1)) 75) 76) 77) 78) 79) 80) 81) 82) 83) 84) 85) 86) 87) 88) 89) 90) 91) 92) 93) H locs := hH
  refine w_putF (k := 71) (off := 22) (ty := .array .long) C (by decide) hH (by decide) rfl (by decide) rfl FL_RX11_81 rfl rfl (by decide +kernel) (fun _ => rfl) (fun _ => rfl) dX11_init_194 (fun H locs hH => ?_)
  have hH : ST E s 94 (zu (zu (zu (zu (zu (zu (zu (zu (zu (zu (zu (zu (zu (zu (zu (zu (zu (zu (zu (zu (zu (zu z 71 0) 71 1) 71 2) 71 6) 71 7) 71 8) 71 9) 71 10) 71 11) 71 12) 71 22) 71 23) 71 25) 71 26) 71 30) 71 31) 71 32) 71 33) 71 35) 71 36) 71 37) 71 38) (zr (zr (zr (zr (zr (zr (zr (zr (zr (zr (zr (zr (zr (zr (zr (zr (zr (zr (zr (up (up (zr (zr (zr M 72) 73) 74) 71 4 (-1)) 71 5 (-1)) 75) 76) 77) 78) 79) 80) 81) 82) 83) 84) 85) 86) 87) 88) 89) 90) 91) 92) 93) H locs := hH
  refine lv_aload_n C.hx C.hb dX11_init_197 rfl (lv_at hl 0 rfl) ?_
  refine r_ldc (x := 51623) C KI_RX11_85 dX11_init_198 ?_
  refine w_newJ (N := 51623) C (by decide) hH AC_J rfl rfl (by decide) (Nat.le_of_ble_eq_true rfl) (Nat.le_of_ble_eq_true rfl) (fun h => absurd h (by unfold nfull; omega)) dX11_init_200 (fun H hH => ?_)
  have hH : ST E s 95 (zu (zu (zu (zu (zu (zu (zu (zu (zu (zu (zu (zu (zu (zu (zu (zu (zu (zu (zu (zu (zu (zu z 71 0) 71 1) 71 2) 71 6) 71 7) 71 8) 71 9) 71 10) 71 11) 71 12) 71 22) 71 23) 71 25) 71 26) 71 30) 71 31) 71 32) 71 33) 71 35) 71 36) 71 37) 71 38) (zr (zr (zr (zr (zr (zr (zr (zr (zr (zr (zr (zr (zr (zr (zr (zr (zr (zr (zr (zr (up (up (zr (zr (zr M 72) 73) 74) 71 4 (-1)) 71 5 (-1)) 75) 76) 77) 78) 79) 80) 81) 82) 83) 84) 85) 86) 87) 88) 89) 90) 91) 92) 93) 94) H locs := hH
  refine w_putF (k := 71) (off := 23) (ty := .array .long) C (by decide) hH (by decide) rfl (by decide) rfl FL_RX11_86 rfl rfl (by decide +kernel) (fun _ => rfl) (fun _ => rfl) dX11_init_202 (fun H locs hH => ?_)
  have hH : ST E s 95 (zu (zu (zu (zu (zu (zu (zu (zu (zu (zu (zu (zu (zu (zu (zu (zu (zu (zu (zu (zu (zu (zu (zu z 71 0) 71 1) 71 2) 71 6) 71 7) 71 8) 71 9) 71 10) 71 11) 71 12) 71 22) 71 23) 71 25) 71 26) 71 30) 71 31) 71 32) 71 33) 71 35) 71 36) 71 37) 71 38) 71 39) (zr (zr (zr (zr (zr (zr (zr (zr (zr (zr (zr (zr (zr (zr (zr (zr (zr (zr (zr (zr (up (up (zr (zr (zr M 72) 73) 74) 71 4 (-1)) 71 5 (-1)) 75) 76) 77) 78) 79) 80) 81) 82) 83) 84) 85) 86) 87) 88) 89) 90) 91) 92) 93) 94) H locs := hH
  refine lv_aload_n C.hx C.hb dX11_init_205 rfl (lv_at hl 0 rfl) ?_
  refine lv_iconst (v := Int32.ofInt 4) C.hx C.hb dX11_init_206 rfl ?_
  refine w_newJ (N := 4) C (by decide) hH AC_J rfl rfl (by decide) (Nat.le_of_ble_eq_true rfl) (Nat.le_of_ble_eq_true rfl) (fun h => absurd h (by unfold nfull; omega)) dX11_init_207 (fun H hH => ?_)
  have hH : ST E s 96 (zu (zu (zu (zu (zu (zu (zu (zu (zu (zu (zu (zu (zu (zu (zu (zu (zu (zu (zu (zu (zu (zu (zu z 71 0) 71 1) 71 2) 71 6) 71 7) 71 8) 71 9) 71 10) 71 11) 71 12) 71 22) 71 23) 71 25) 71 26) 71 30) 71 31) 71 32) 71 33) 71 35) 71 36) 71 37) 71 38) 71 39) (zr (zr (zr (zr (zr (zr (zr (zr (zr (zr (zr (zr (zr (zr (zr (zr (zr (zr (zr (zr (zr (up (up (zr (zr (zr M 72) 73) 74) 71 4 (-1)) 71 5 (-1)) 75) 76) 77) 78) 79) 80) 81) 82) 83) 84) 85) 86) 87) 88) 89) 90) 91) 92) 93) 94) 95) H locs := hH
  refine w_putF (k := 71) (off := 24) (ty := .array .long) C (by decide) hH (by decide) rfl (by decide) rfl FL_RX11_89 rfl rfl (by decide +kernel) (fun _ => rfl) (fun _ => rfl) dX11_init_209 (fun H locs hH => ?_)
  have hH : ST E s 96 (zu (zu (zu (zu (zu (zu (zu (zu (zu (zu (zu (zu (zu (zu (zu (zu (zu (zu (zu (zu (zu (zu (zu (zu z 71 0) 71 1) 71 2) 71 6) 71 7) 71 8) 71 9) 71 10) 71 11) 71 12) 71 22) 71 23) 71 25) 71 26) 71 30) 71 31) 71 32) 71 33) 71 35) 71 36) 71 37) 71 38) 71 39) 71 40) (zr (zr (zr (zr (zr (zr (zr (zr (zr (zr (zr (zr (zr (zr (zr (zr (zr (zr (zr (zr (zr (up (up (zr (zr (zr M 72) 73) 74) 71 4 (-1)) 71 5 (-1)) 75) 76) 77) 78) 79) 80) 81) 82) 83) 84) 85) 86) 87) 88) 89) 90) 91) 92) 93) 94) 95) H locs := hH
  refine lv_aload_n C.hx C.hb dX11_init_212 rfl (lv_at hl 0 rfl) ?_
  refine lv_iconst (v := Int32.ofInt 4) C.hx C.hb dX11_init_213 rfl ?_
  refine w_newJ (N := 4) C (by decide) hH AC_J rfl rfl (by decide) (Nat.le_of_ble_eq_true rfl) (Nat.le_of_ble_eq_true rfl) (fun h => absurd h (by unfold nfull; omega)) dX11_init_214 (fun H hH => ?_)
  have hH : ST E s 97 (zu (zu (zu (zu (zu (zu (zu (zu (zu (zu (zu (zu (zu (zu (zu (zu (zu (zu (zu (zu (zu (zu (zu (zu z 71 0) 71 1) 71 2) 71 6) 71 7) 71 8) 71 9) 71 10) 71 11) 71 12) 71 22) 71 23) 71 25) 71 26) 71 30) 71 31) 71 32) 71 33) 71 35) 71 36) 71 37) 71 38) 71 39) 71 40) (zr (zr (zr (zr (zr (zr (zr (zr (zr (zr (zr (zr (zr (zr (zr (zr (zr (zr (zr (zr (zr (zr (up (up (zr (zr (zr M 72) 73) 74) 71 4 (-1)) 71 5 (-1)) 75) 76) 77) 78) 79) 80) 81) 82) 83) 84) 85) 86) 87) 88) 89) 90) 91) 92) 93) 94) 95) 96) H locs := hH
  refine w_putF (k := 71) (off := 25) (ty := .array .long) C (by decide) hH (by decide) rfl (by decide) rfl FL_RX11_92 rfl rfl (by decide +kernel) (fun _ => rfl) (fun _ => rfl) dX11_init_216 (fun H locs hH => ?_)
  have hH : ST E s 97 (zu (zu (zu (zu (zu (zu (zu (zu (zu (zu (zu (zu (zu (zu (zu (zu (zu (zu (zu (zu (zu (zu (zu (zu (zu z 71 0) 71 1) 71 2) 71 6) 71 7) 71 8) 71 9) 71 10) 71 11) 71 12) 71 22) 71 23) 71 25) 71 26) 71 30) 71 31) 71 32) 71 33) 71 35) 71 36) 71 37) 71 38) 71 39) 71 40) 71 41) (zr (zr (zr (zr (zr (zr (zr (zr (zr (zr (zr (zr (zr (zr (zr (zr (zr (zr (zr (zr (zr (zr (up (up (zr (zr (zr M 72) 73) 74) 71 4 (-1)) 71 5 (-1)) 75) 76) 77) 78) 79) 80) 81) 82) 83) 84) 85) 86) 87) 88) 89) 90) 91) 92) 93) 94) 95) 96) H locs := hH
  refine lv_aload_n C.hx C.hb dX11_init_219 rfl (lv_at hl 0 rfl) ?_
  refine lv_iconst (v := Int32.ofInt 5) C.hx C.hb dX11_init_220 rfl ?_
  refine w_newI (N := 5) C (by decide) hH AC_I rfl rfl (by decide) (Nat.le_of_ble_eq_true rfl) (Nat.le_of_ble_eq_true rfl) (fun h => absurd h (by unfold nfull; omega)) dX11_init_221 (fun H hH => ?_)
  have hH : ST E s 98 (zu (zu (zu (zu (zu (zu (zu (zu (zu (zu (zu (zu (zu (zu (zu (zu (zu (zu (zu (zu (zu (zu (zu (zu (zu z 71 0) 71 1) 71 2) 71 6) 71 7) 71 8) 71 9) 71 10) 71 11) 71 12) 71 22) 71 23) 71 25) 71 26) 71 30) 71 31) 71 32) 71 33) 71 35) 71 36) 71 37) 71 38) 71 39) 71 40) 71 41) (zr (zr (zr (zr (zr (zr (zr (zr (zr (zr (zr (zr (zr (zr (zr (zr (zr (zr (zr (zr (zr (zr (zr (up (up (zr (zr (zr M 72) 73) 74) 71 4 (-1)) 71 5 (-1)) 75) 76) 77) 78) 79) 80) 81) 82) 83) 84) 85) 86) 87) 88) 89) 90) 91) 92) 93) 94) 95) 96) 97) H locs := hH
  refine w_putF (k := 71) (off := 26) (ty := .array .int) C (by decide) hH (by decide) rfl (by decide) rfl FL_RX11_95 rfl rfl (by decide +kernel) (fun _ => rfl) (fun _ => rfl) dX11_init_223 (fun H locs hH => ?_)
  have hH : ST E s 98 (zu (zu (zu (zu (zu (zu (zu (zu (zu (zu (zu (zu (zu (zu (zu (zu (zu (zu (zu (zu (zu (zu (zu (zu (zu (zu z 71 0) 71 1) 71 2) 71 6) 71 7) 71 8) 71 9) 71 10) 71 11) 71 12) 71 22) 71 23) 71 25) 71 26) 71 30) 71 31) 71 32) 71 33) 71 35) 71 36) 71 37) 71 38) 71 39) 71 40) 71 41) 71 42) (zr (zr (zr (zr (zr (zr (zr (zr (zr (zr (zr (zr (zr (zr (zr (zr (zr (zr (zr (zr (zr (zr (zr (up (up (zr (zr (zr M 72) 73) 74) 71 4 (-1)) 71 5 (-1)) 75) 76) 77) 78) 79) 80) 81) 82) 83) 84) 85) 86) 87) 88) 89) 90) 91) 92) 93) 94) 95) 96) 97) H locs := hH
  refine lv_aload_n C.hx C.hb dX11_init_226 rfl (lv_at hl 0 rfl) ?_
  refine lv_bipush (v := Int32.ofInt 6) C.hx C.hb dX11_init_227 (by decide) ?_
  refine w_newI (N := 6) C (by decide) hH AC_I rfl rfl (by decide) (Nat.le_of_ble_eq_true rfl) (Nat.le_of_ble_eq_true rfl) (fun h => absurd h (by unfold nfull; omega)) dX11_init_229 (fun H hH => ?_)
  have hH : ST E s 99 (zu (zu (zu (zu (zu (zu (zu (zu (zu (zu (zu (zu (zu (zu (zu (zu (zu (zu (zu (zu (zu (zu (zu (zu (zu (zu z 71 0) 71 1) 71 2) 71 6) 71 7) 71 8) 71 9) 71 10) 71 11) 71 12) 71 22) 71 23) 71 25) 71 26) 71 30) 71 31) 71 32) 71 33) 71 35) 71 36) 71 37) 71 38) 71 39) 71 40) 71 41) 71 42) (zr (zr (zr (zr (zr (zr (zr (zr (zr (zr (zr (zr (zr (zr (zr (zr (zr (zr (zr (zr (zr (zr (zr (zr (up (up (zr (zr (zr M 72) 73) 74) 71 4 (-1)) 71 5 (-1)) 75) 76) 77) 78) 79) 80) 81) 82) 83) 84) 85) 86) 87) 88) 89) 90) 91) 92) 93) 94) 95) 96) 97) 98) H locs := hH
  refine w_putF (k := 71) (off := 27) (ty := .array .int) C (by decide) hH (by decide) rfl (by decide) rfl FL_RX11_98 rfl rfl (by decide +kernel) (fun _ => rfl) (fun _ => rfl) dX11_init_231 (fun H locs hH => ?_)
  have hH : ST E s 99 (zu (zu (zu (zu (zu (zu (zu (zu (zu (zu (zu (zu (zu (zu (zu (zu (zu (zu (zu (zu (zu (zu (zu (zu (zu (zu (zu z 71 0) 71 1) 71 2) 71 6) 71 7) 71 8) 71 9) 71 10) 71 11) 71 12) 71 22) 71 23) 71 25) 71 26) 71 30) 71 31) 71 32) 71 33) 71 35) 71 36) 71 37) 71 38) 71 39) 71 40) 71 41) 71 42) 71 43) (zr (zr (zr (zr (zr (zr (zr (zr (zr (zr (zr (zr (zr (zr (zr (zr (zr (zr (zr (zr (zr (zr (zr (zr (up (up (zr (zr (zr M 72) 73) 74) 71 4 (-1)) 71 5 (-1)) 75) 76) 77) 78) 79) 80) 81) 82) 83) 84) 85) 86) 87) 88) 89) 90) 91) 92) 93) 94) 95) 96) 97) 98) H locs := hH
  refine lv_aload_n C.hx C.hb dX11_init_234 rfl (lv_at hl 0 rfl) ?_
  refine lv_sipush (v := Int32.ofInt 181) C.hx C.hb dX11_init_235 (by decide) ?_
  refine w_newZ (N := 181) C (by decide) hH AC_Z rfl rfl (by decide) (Nat.le_of_ble_eq_true rfl) (Nat.le_of_ble_eq_true rfl) (fun h => absurd h (by unfold nfull; omega)) dX11_init_238 (fun H hH => ?_)
  have hH : ST E s 100 (zu (zu (zu (zu (zu (zu (zu (zu (zu (zu (zu (zu (zu (zu (zu (zu (zu (zu (zu (zu (zu (zu (zu (zu (zu (zu (zu z 71 0) 71 1) 71 2) 71 6) 71 7) 71 8) 71 9) 71 10) 71 11) 71 12) 71 22) 71 23) 71 25) 71 26) 71 30) 71 31) 71 32) 71 33) 71 35) 71 36) 71 37) 71 38) 71 39) 71 40) 71 41) 71 42) 71 43) (zr (zr (zr (zr (zr (zr (zr (zr (zr (zr (zr (zr (zr (zr (zr (zr (zr (zr (zr (zr (zr (zr (zr (zr (zr (up (up (zr (zr (zr M 72) 73) 74) 71 4 (-1)) 71 5 (-1)) 75) 76) 77) 78) 79) 80) 81) 82) 83) 84) 85) 86) 87) 88) 89) 90) 91) 92) 93) 94) 95) 96) 97) 98) 99) H locs := hH
  refine w_putF (k := 71) (off := 28) (ty := .array .boolean) C (by decide) hH (by decide) rfl (by decide) rfl FL_RX11_101 rfl rfl (by decide +kernel) (fun _ => rfl) (fun _ => rfl) dX11_init_240 (fun H locs hH => ?_)
  have hH : ST E s 100 (zu (zu (zu (zu (zu (zu (zu (zu (zu (zu (zu (zu (zu (zu (zu (zu (zu (zu (zu (zu (zu (zu (zu (zu (zu (zu (zu (zu z 71 0) 71 1) 71 2) 71 6) 71 7) 71 8) 71 9) 71 10) 71 11) 71 12) 71 22) 71 23) 71 25) 71 26) 71 30) 71 31) 71 32) 71 33) 71 35) 71 36) 71 37) 71 38) 71 39) 71 40) 71 41) 71 42) 71 43) 71 44) (zr (zr (zr (zr (zr (zr (zr (zr (zr (zr (zr (zr (zr (zr (zr (zr (zr (zr (zr (zr (zr (zr (zr (zr (zr (up (up (zr (zr (zr M 72) 73) 74) 71 4 (-1)) 71 5 (-1)) 75) 76) 77) 78) 79) 80) 81) 82) 83) 84) 85) 86) 87) 88) 89) 90) 91) 92) 93) 94) 95) 96) 97) 98) 99) H locs := hH
  refine lv_aload_n C.hx C.hb dX11_init_243 rfl (lv_at hl 0 rfl) ?_
  refine lv_sipush (v := Int32.ofInt 6006) C.hx C.hb dX11_init_244 (by decide) ?_
  refine w_newI (N := 6006) C (by decide) hH AC_I rfl rfl (by decide) (Nat.le_of_ble_eq_true rfl) (Nat.le_of_ble_eq_true rfl) (fun h => absurd h (by unfold nfull; omega)) dX11_init_247 (fun H hH => ?_)
  have hH : ST E s 101 (zu (zu (zu (zu (zu (zu (zu (zu (zu (zu (zu (zu (zu (zu (zu (zu (zu (zu (zu (zu (zu (zu (zu (zu (zu (zu (zu (zu z 71 0) 71 1) 71 2) 71 6) 71 7) 71 8) 71 9) 71 10) 71 11) 71 12) 71 22) 71 23) 71 25) 71 26) 71 30) 71 31) 71 32) 71 33) 71 35) 71 36) 71 37) 71 38) 71 39) 71 40) 71 41) 71 42) 71 43) 71 44) (zr (zr (zr (zr (zr (zr (zr (zr (zr (zr (zr (zr (zr (zr (zr (zr (zr (zr (zr (zr (zr (zr (zr (zr (zr (zr (up (up (zr (zr (zr M 72) 73) 74) 71 4 (-1)) 71 5 (-1)) 75) 76) 77) 78) 79) 80) 81) 82) 83) 84) 85) 86) 87) 88) 89) 90) 91) 92) 93) 94) 95) 96) 97) 98) 99) 100) H locs := hH
  refine w_putF (k := 71) (off := 29) (ty := .array .int) C (by decide) hH (by decide) rfl (by decide) rfl FL_RX11_105 rfl rfl (by decide +kernel) (fun _ => rfl) (fun _ => rfl) dX11_init_249 (fun H locs hH => ?_)
  have hH : ST E s 101 (zu (zu (zu (zu (zu (zu (zu (zu (zu (zu (zu (zu (zu (zu (zu (zu (zu (zu (zu (zu (zu (zu (zu (zu (zu (zu (zu (zu (zu z 71 0) 71 1) 71 2) 71 6) 71 7) 71 8) 71 9) 71 10) 71 11) 71 12) 71 22) 71 23) 71 25) 71 26) 71 30) 71 31) 71 32) 71 33) 71 35) 71 36) 71 37) 71 38) 71 39) 71 40) 71 41) 71 42) 71 43) 71 44) 71 45) (zr (zr (zr (zr (zr (zr (zr (zr (zr (zr (zr (zr (zr (zr (zr (zr (zr (zr (zr (zr (zr (zr (zr (zr (zr (zr (up (up (zr (zr (zr M 72) 73) 74) 71 4 (-1)) 71 5 (-1)) 75) 76) 77) 78) 79) 80) 81) 82) 83) 84) 85) 86) 87) 88) 89) 90) 91) 92) 93) 94) 95) 96) 97) 98) 99) 100) H locs := hH
  refine lv_aload_n C.hx C.hb dX11_init_252 rfl (lv_at hl 0 rfl) ?_
  refine lv_sipush (v := Int32.ofInt 6006) C.hx C.hb dX11_init_253 (by decide) ?_
  refine w_newI (N := 6006) C (by decide) hH AC_I rfl rfl (by decide) (Nat.le_of_ble_eq_true rfl) (Nat.le_of_ble_eq_true rfl) (fun _ => (nOf_c rfl rfl).trans hnM) dX11_init_256 (fun H hH => ?_)
  have hH : ST E s 102 (zu (zu (zu (zu (zu (zu (zu (zu (zu (zu (zu (zu (zu (zu (zu (zu (zu (zu (zu (zu (zu (zu (zu (zu (zu (zu (zu (zu (zu z 71 0) 71 1) 71 2) 71 6) 71 7) 71 8) 71 9) 71 10) 71 11) 71 12) 71 22) 71 23) 71 25) 71 26) 71 30) 71 31) 71 32) 71 33) 71 35) 71 36) 71 37) 71 38) 71 39) 71 40) 71 41) 71 42) 71 43) 71 44) 71 45) (zr (zr (zr (zr (zr (zr (zr (zr (zr (zr (zr (zr (zr (zr (zr (zr (zr (zr (zr (zr (zr (zr (zr (zr (zr (zr (zr (up (up (zr (zr (zr M 72) 73) 74) 71 4 (-1)) 71 5 (-1)) 75) 76) 77) 78) 79) 80) 81) 82) 83) 84) 85) 86) 87) 88) 89) 90) 91) 92) 93) 94) 95) 96) 97) 98) 99) 100) 101) H locs := hH
  refine w_putF (k := 71) (off := 30) (ty := .array .int) C (by decide) hH (by decide) rfl (by decide) rfl FL_RX11_108 rfl rfl (by decide +kernel) (fun _ => rfl) (fun _ => rfl) dX11_init_258 (fun H locs hH => ?_)
  have hH : ST E s 102 (zu (zu (zu (zu (zu (zu (zu (zu (zu (zu (zu (zu (zu (zu (zu (zu (zu (zu (zu (zu (zu (zu (zu (zu (zu (zu (zu (zu (zu (zu z 71 0) 71 1) 71 2) 71 6) 71 7) 71 8) 71 9) 71 10) 71 11) 71 12) 71 22) 71 23) 71 25) 71 26) 71 30) 71 31) 71 32) 71 33) 71 35) 71 36) 71 37) 71 38) 71 39) 71 40) 71 41) 71 42) 71 43) 71 44) 71 45) 71 46) (zr (zr (zr (zr (zr (zr (zr (zr (zr (zr (zr (zr (zr (zr (zr (zr (zr (zr (zr (zr (zr (zr (zr (zr (zr (zr (zr (up (up (zr (zr (zr M 72) 73) 74) 71 4 (-1)) 71 5 (-1)) 75) 76) 77) 78) 79) 80) 81) 82) 83) 84) 85) 86) 87) 88) 89) 90) 91) 92) 93) 94) 95) 96) 97) 98) 99) 100) 101) H locs := hH
  refine lv_aload_n C.hx C.hb dX11_init_261 rfl (lv_at hl 0 rfl) ?_
  refine w_getR (k := 71) (off := 1) C hH (by decide) rfl (by decide) rfl rfl FL_RX11_7 dX11_init_262 ?_
  refine lv_bipush (v := Int32.ofInt 6) C.hx C.hb dX11_init_265 (by decide) ?_
  refine lv_iconst (v := Int32.ofInt (-1)) C.hx C.hb dX11_init_267 rfl ?_
  refine w_iast (k := 72) (N := 288) C (by decide) hH (by decide) rfl rfl (by decide) ⟨by decide, by decide⟩ dX11_init_268 (fun H locs hH => ?_)
  have hH : ST E s 102 (zu (zu (zu (zu (zu (zu (zu (zu (zu (zu (zu (zu (zu (zu (zu (zu (zu (zu (zu (zu (zu (zu (zu (zu (zu (zu (zu (zu (zu (zu z 71 0) 71 1) 71 2) 71 6) 71 7) 71 8) 71 9) 71 10) 71 11) 71 12) 71 22) 71 23) 71 25) 71 26) 71 30) 71 31) 71 32) 71 33) 71 35) 71 36) 71 37) 71 38) 71 39) 71 40) 71 41) 71 42) 71 43) 71 44) 71 45) 71 46) (up (zr (zr (zr (zr (zr (zr (zr (zr (zr (zr (zr (zr (zr (zr (zr (zr (zr (zr (zr (zr (zr (zr (zr (zr (zr (zr (zr (up (up (zr (zr (zr M 72) 73) 74) 71 4 (-1)) 71 5 (-1)) 75) 76) 77) 78) 79) 80) 81) 82) 83) 84) 85) 86) 87) 88) 89) 90) 91) 92) 93) 94) 95) 96) 97) 98) 99) 100) 101) 72 6 (-1)) H locs := hH
  refine lv_aload_n C.hx C.hb dX11_init_269 rfl (lv_at hl 0 rfl) ?_
  refine w_getR (k := 71) (off := 1) C hH (by decide) rfl (by decide) rfl rfl FL_RX11_7 dX11_init_270 ?_
  refine lv_iconst (v := Int32.ofInt 4) C.hx C.hb dX11_init_273 rfl ?_
  refine lv_iconst (v := Int32.ofInt 3) C.hx C.hb dX11_init_274 rfl ?_
  refine w_iast (k := 72) (N := 288) C (by decide) hH (by decide) rfl rfl (by decide) ⟨by decide, by decide⟩ dX11_init_275 (fun H locs hH => ?_)
  have hH : ST E s 102 (zu (zu (zu (zu (zu (zu (zu (zu (zu (zu (zu (zu (zu (zu (zu (zu (zu (zu (zu (zu (zu (zu (zu (zu (zu (zu (zu (zu (zu (zu z 71 0) 71 1) 71 2) 71 6) 71 7) 71 8) 71 9) 71 10) 71 11) 71 12) 71 22) 71 23) 71 25) 71 26) 71 30) 71 31) 71 32) 71 33) 71 35) 71 36) 71 37) 71 38) 71 39) 71 40) 71 41) 71 42) 71 43) 71 44) 71 45) 71 46) (up (up (zr (zr (zr (zr (zr (zr (zr (zr (zr (zr (zr (zr (zr (zr (zr (zr (zr (zr (zr (zr (zr (zr (zr (zr (zr (zr (zr (up (up (zr (zr (zr M 72) 73) 74) 71 4 (-1)) 71 5 (-1)) 75) 76) 77) 78) 79) 80) 81) 82) 83) 84) 85) 86) 87) 88) 89) 90) 91) 92) 93) 94) 95) 96) 97) 98) 99) 100) 101) 72 6 (-1)) 72 4 3) H locs := hH
  refine lv_aload_n C.hx C.hb dX11_init_276 rfl (lv_at hl 0 rfl) ?_
  refine lv_iconst (v := Int32.ofInt 1) C.hx C.hb dX11_init_277 rfl ?_
  replace hH : ST E s 102 (zf 102) (up (up (zr (zr (zr (zr (zr (zr (zr (zr (zr (zr (zr (zr (zr (zr (zr (zr (zr (zr (zr (zr (zr (zr (zr (zr (zr (zr (zr (up (up (zr (zr (zr M 72) 73) 74) 71 4 (-1)) 71 5 (-1)) 75) 76) 77) 78) 79) 80) 81) 82) 83) 84) 85) 86) 87) 88) 89) 90) 91) 92) 93) 94) 95) 96) 97) 98) 99) 100) 101) 72 6 (-1)) 72 4 3) H locs := ST_z hbr hH
  refine r_callVv (rest := []) C hH hl (k := 71) (ci := 11) ⟨rfl, by decide⟩ (by decide) rfl (m_X11_copies (Or.inl rfl) ⟨rfl, by decide⟩ hcp) ML_RX11_111 MF_X11_copies MI_X11_copies rfl rfl (Nat.le_of_ble_eq_true rfl) ⟨Nat.le_of_ble_eq_true rfl, Nat.le_of_ble_eq_true rfl⟩ ⟨Nat.le_of_ble_eq_true rfl, Nat.le_of_ble_eq_true rfl⟩ dX11_init_278 (fun H locs hH => ?_)
  exact w_vret C hH dX11_init_281
