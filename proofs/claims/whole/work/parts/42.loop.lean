def SALL (a1 a2 a3 a4 a5 : Int) (M : Mem) (P : Mem → Prop) : Prop := S0 a1 a2 a3 a4 a5 M P ∧ S1 a1 a2 a3 a4 a5 M P ∧ S2 a1 a2 a3 a4 a5 M P ∧ S3 a1 a2 a3 a4 a5 M P ∧ S4 a1 a2 a3 a4 a5 M P ∧ S5 a1 a2 a3 a4 a5 M P ∧ S6 a1 a2 a3 a4 a5 M P ∧ S7 a1 a2 a3 a4 a5 M P ∧ S8 a1 a2 a3 a4 a5 M P ∧ S9 a1 a2 a3 a4 a5 M P ∧ S10 a1 a2 a3 a4 a5 M P ∧ S11 a1 a2 a3 a4 a5 M P ∧ S12 a1 a2 a3 a4 a5 M P ∧ S13 a1 a2 a3 a4 a5 M P ∧ S14 a1 a2 a3 a4 a5 M P ∧ S15 a1 a2 a3 a4 a5 M P ∧ S16 a1 a2 a3 a4 a5 M P ∧ S17 a1 a2 a3 a4 a5 M P ∧ S18 a1 a2 a3 a4 a5 M P ∧ S19 a1 a2 a3 a4 a5 M P ∧ S20 a1 a2 a3 a4 a5 M P ∧ S21 a1 a2 a3 a4 a5 M P ∧ S22 a1 a2 a3 a4 a5 M P ∧ S23 a1 a2 a3 a4 a5 M P ∧ S24 a1 a2 a3 a4 a5 M P ∧ S25 a1 a2 a3 a4 a5 M P ∧ S26 a1 a2 a3 a4 a5 M P ∧ S27 a1 a2 a3 a4 a5 M P ∧ S28 a1 a2 a3 a4 a5 M P
set_option maxRecDepth 100000 in
set_option maxHeartbeats 4000000 in
theorem law_step {p : Program} {l : Launch} {e : Env} {s : State} {m : MethodId} {below : List Frame} {meth : Method} {c : Code} {E : EE} {n b L : Nat} {xs : Nat → Int32} {M : Mem} {H : Heap} {locs : List Loc} {ls : Array Slot} {cells slots : Nat} {Q : State → Prop} {i : Nat} {P : Mem → Prop} (C : LX E p s m meth c b L xs) (hi : i + 6 ≤ L) (hn : nfull n) (hs : SALL (xs (i + 1)).toInt (xs (i + 2)).toInt (xs (i + 3)).toInt (xs (i + 4)).toInt (xs (i + 5)).toInt M P) (h0 : P M) (hr : cells + 8 ≤ room_1.cells ∧ slots + 53154 ≤ room_1.slots) (hH : ST E s n (zf n) M H locs) (hl : lv_has ls 4 [(3, i3 (i : Int)), (2, .ref (eb E + 71)), (1, .ref (eb E + 0)), (0, .ref b)])
    (kk : ∀ (n : Nat) (M3 : Mem) (H : Heap) (locs : List Loc), nfull n → P M3 → ST E s n (zf n) M3 H locs → W p l e room_1 s m #[Value.ref b] below meth c H locs (cells + 8) (slots + 53154) Q (F0 m 1119 ls [])) : W p l e room_1 s m #[Value.ref b] below meth c H locs cells slots Q (F0 m 27 ls []) := by
  refine lv_aload_n C.1.hx C.1.hb dL_law_27 rfl (lv_at hl 3 rfl) ?_
  refine lv_iload_n C.1.hx C.1.hb dL_law_28 rfl (lv_at hl 0 rfl) ?_
  refine r_scr (i := i) C hH rfl (by omega) dL_law_29 ?_
  refine lv_bipush (v := Int32.ofInt 31) C.1.hx C.1.hb dL_law_30 (by decide) ?_
  refine lv_iand C.1.hx C.1.hb dL_law_32 ?_
  obtain ⟨j, hj, ej⟩ := pk_andE (Int32.ofInt (xs i).toInt) (m := Int32.ofInt 31) 5 (by decide)
  rw [ej, show nI j = Int32.ofInt (j : Int) from rfl]
  have hj : j < 32 := hj
  have hR : R3 (j : Int) := ⟨by omega, by omega⟩
  by_cases hj2 : 28 < j
  · refine r_tabO (tgt := 1119) C.1 hR dL_law_33 (by omega) (by decide) ?_
    refine W.widen (k := cells + 8) (n := slots + 53154) (by omega) (by omega) ?_
    exact kk n M H locs hn h0 hH
  have hs := hs
  obtain ⟨s0, s1, s2, s3, s4, s5, s6, s7, s8, s9, s10, s11, s12, s13, s14, s15, s16, s17, s18, s19, s20, s21, s22, s23, s24, s25, s26, s27, s28⟩ := hs
  by_cases e0 : j = 0
  · subst e0
    obtain ⟨r, M1, M2, h1, h2, h3⟩ := s0
    refine r_tab (j := 0) (tgt := 164) C.1 rfl ⟨by decide, by decide⟩ dL_law_33 (by decide) (by decide) rfl (by decide) ?_
    exact lc_0 C hi hn h1 h2 hr hH hl (fun n M3 H locs hn e hH => kk n M3 H locs hn (e ▸ h3) hH)
  by_cases e1 : j = 1
  · subst e1
    obtain ⟨r, M1, M2, h1, h2, h3⟩ := s1
    refine r_tab (j := 1) (tgt := 187) C.1 rfl ⟨by decide, by decide⟩ dL_law_33 (by decide) (by decide) rfl (by decide) ?_
    exact lc_1 C hi hn h1 h2 hr hH hl (fun n M3 H locs hn e hH => kk n M3 H locs hn (e ▸ h3) hH)
  by_cases e2 : j = 2
  · subst e2
    obtain ⟨r, M1, M2, h1, h2, h3⟩ := s2
    refine r_tab (j := 2) (tgt := 220) C.1 rfl ⟨by decide, by decide⟩ dL_law_33 (by decide) (by decide) rfl (by decide) ?_
    exact lc_2 C hi hn h1 h2 hr hH hl (fun n M3 H locs hn e hH => kk n M3 H locs hn (e ▸ h3) hH)
  by_cases e3 : j = 3
  · subst e3
    obtain ⟨r, M1, M2, h1, h2, h3⟩ := s3
    refine r_tab (j := 3) (tgt := 253) C.1 rfl ⟨by decide, by decide⟩ dL_law_33 (by decide) (by decide) rfl (by decide) ?_
    exact lc_3 C hi hn h1 h2 hr hH hl (fun n M3 H locs hn e hH => kk n M3 H locs hn (e ▸ h3) hH)
  by_cases e4 : j = 4
  · subst e4
    obtain ⟨r, M1, M2, h1, h2, h3⟩ := s4
    refine r_tab (j := 4) (tgt := 276) C.1 rfl ⟨by decide, by decide⟩ dL_law_33 (by decide) (by decide) rfl (by decide) ?_
    exact lc_4 C hi hn h1 h2 hr hH hl (fun n M3 H locs hn e hH => kk n M3 H locs hn (e ▸ h3) hH)
  by_cases e5 : j = 5
  · subst e5
    obtain ⟨r, M1, M2, h1, h2, h3⟩ := s5
    refine r_tab (j := 5) (tgt := 339) C.1 rfl ⟨by decide, by decide⟩ dL_law_33 (by decide) (by decide) rfl (by decide) ?_
    exact lc_5 C hi hn h1 h2 hr hH hl (fun n M3 H locs hn e hH => kk n M3 H locs hn (e ▸ h3) hH)
  by_cases e6 : j = 6
  · subst e6
    obtain ⟨r, M1, M2, h1, h2, h3⟩ := s6
    refine r_tab (j := 6) (tgt := 362) C.1 rfl ⟨by decide, by decide⟩ dL_law_33 (by decide) (by decide) rfl (by decide) ?_
    exact lc_6 C hi hn h1 h2 hr hH hl (fun n M3 H locs hn e hH => kk n M3 H locs hn (e ▸ h3) hH)
  by_cases e7 : j = 7
  · subst e7
    obtain ⟨r, h1, h2, h3⟩ := s7
    refine r_tab (j := 7) (tgt := 375) C.1 rfl ⟨by decide, by decide⟩ dL_law_33 (by decide) (by decide) rfl (by decide) ?_
    exact lc_7 C hi hn h1 h2 hr hH hl (fun n M3 H locs hn e hH => kk n M3 H locs hn (e ▸ h3) hH)
  by_cases e8 : j = 8
  · subst e8
    obtain ⟨r, M1, M2, h1, h2, h3⟩ := s8
    refine r_tab (j := 8) (tgt := 398) C.1 rfl ⟨by decide, by decide⟩ dL_law_33 (by decide) (by decide) rfl (by decide) ?_
    exact lc_8 C hi hn h1 h2 hr hH hl (fun n M3 H locs hn e hH => kk n M3 H locs hn (e ▸ h3) hH)
  by_cases e9 : j = 9
  · subst e9
    obtain ⟨r, M1, M2, h1, h2, h3⟩ := s9
    refine r_tab (j := 9) (tgt := 421) C.1 rfl ⟨by decide, by decide⟩ dL_law_33 (by decide) (by decide) rfl (by decide) ?_
    exact lc_9 C hi hn h1 h2 hr hH hl (fun n M3 H locs hn e hH => kk n M3 H locs hn (e ▸ h3) hH)
  by_cases e10 : j = 10
  · subst e10
    obtain ⟨r, M1, M2, h1, h2, h3⟩ := s10
    refine r_tab (j := 10) (tgt := 454) C.1 rfl ⟨by decide, by decide⟩ dL_law_33 (by decide) (by decide) rfl (by decide) ?_
    exact lc_10 C hi hn h1 h2 hr hH hl (fun n M3 H locs hn e hH => kk n M3 H locs hn (e ▸ h3) hH)
  by_cases e11 : j = 11
  · subst e11
    obtain ⟨r, M1, M2, h1, h2, h3⟩ := s11
    refine r_tab (j := 11) (tgt := 487) C.1 rfl ⟨by decide, by decide⟩ dL_law_33 (by decide) (by decide) rfl (by decide) ?_
    exact lc_11 C hi hn h1 h2 hr hH hl (fun n M3 H locs hn e hH => kk n M3 H locs hn (e ▸ h3) hH)
  by_cases e12 : j = 12
  · subst e12
    obtain ⟨r, M1, M2, h1, h2, h3⟩ := s12
    refine r_tab (j := 12) (tgt := 510) C.1 rfl ⟨by decide, by decide⟩ dL_law_33 (by decide) (by decide) rfl (by decide) ?_
    exact lc_12 C hi hn h1 h2 hr hH hl (fun n M3 H locs hn e hH => kk n M3 H locs hn (e ▸ h3) hH)
  by_cases e13 : j = 13
  · subst e13
    obtain ⟨r, M1, M2, h1, h2, h3⟩ := s13
    refine r_tab (j := 13) (tgt := 533) C.1 rfl ⟨by decide, by decide⟩ dL_law_33 (by decide) (by decide) rfl (by decide) ?_
    exact lc_13 C hi hn h1 h2 hr hH hl (fun n M3 H locs hn e hH => kk n M3 H locs hn (e ▸ h3) hH)
  by_cases e14 : j = 14
  · subst e14
    obtain ⟨r, M1, M2, h1, h2, h3⟩ := s14
    refine r_tab (j := 14) (tgt := 546) C.1 rfl ⟨by decide, by decide⟩ dL_law_33 (by decide) (by decide) rfl (by decide) ?_
    exact lc_14 C hi hn h1 h2 hr hH hl (fun n M3 H locs hn e hH => kk n M3 H locs hn (e ▸ h3) hH)
  by_cases e15 : j = 15
  · subst e15
    obtain ⟨r, M1, M2, h1, h2, h3⟩ := s15
    refine r_tab (j := 15) (tgt := 579) C.1 rfl ⟨by decide, by decide⟩ dL_law_33 (by decide) (by decide) rfl (by decide) ?_
    exact lc_15 C hi hn h1 h2 hr hH hl (fun n M3 H locs hn e hH => kk n M3 H locs hn (e ▸ h3) hH)
  by_cases e16 : j = 16
  · subst e16
    obtain ⟨r, M1, M2, h1, h2, h3⟩ := s16
    refine r_tab (j := 16) (tgt := 633) C.1 rfl ⟨by decide, by decide⟩ dL_law_33 (by decide) (by decide) rfl (by decide) ?_
    exact lc_16 C hi hn h1 h2 hr hH hl (fun n M3 H locs hn e hH => kk n M3 H locs hn (e ▸ h3) hH)
  by_cases e17 : j = 17
  · subst e17
    obtain ⟨r, M1, M2, h1, h2, h3⟩ := s17
    refine r_tab (j := 17) (tgt := 696) C.1 rfl ⟨by decide, by decide⟩ dL_law_33 (by decide) (by decide) rfl (by decide) ?_
    exact lc_17 C hi hn h1 h2 hr hH hl (fun n M3 H locs hn e hH => kk n M3 H locs hn (e ▸ h3) hH)
  by_cases e18 : j = 18
  · subst e18
    obtain ⟨r, M1, M2, h1, h2, h3⟩ := s18
    refine r_tab (j := 18) (tgt := 775) C.1 rfl ⟨by decide, by decide⟩ dL_law_33 (by decide) (by decide) rfl (by decide) ?_
    exact lc_18 C hi hn h1 h2 hr hH hl (fun n M3 H locs hn e hH => kk n M3 H locs hn (e ▸ h3) hH)
  by_cases e19 : j = 19
  · subst e19
    obtain ⟨r, M1, M2, h1, h2, h3⟩ := s19
    refine r_tab (j := 19) (tgt := 808) C.1 rfl ⟨by decide, by decide⟩ dL_law_33 (by decide) (by decide) rfl (by decide) ?_
    exact lc_19 C hi hn h1 h2 hr hH hl (fun n M3 H locs hn e hH => kk n M3 H locs hn (e ▸ h3) hH)
  by_cases e20 : j = 20
  · subst e20
    obtain ⟨r, M1, M2, h1, h2, h3⟩ := s20
    refine r_tab (j := 20) (tgt := 862) C.1 rfl ⟨by decide, by decide⟩ dL_law_33 (by decide) (by decide) rfl (by decide) ?_
    exact lc_20 C hi hn h1 h2 hr hH hl (fun n M3 H locs hn e hH => kk n M3 H locs hn (e ▸ h3) hH)
  by_cases e21 : j = 21
  · subst e21
    obtain ⟨r, M2, h1, h2, h3⟩ := s21
    refine r_tab (j := 21) (tgt := 895) C.1 rfl ⟨by decide, by decide⟩ dL_law_33 (by decide) (by decide) rfl (by decide) ?_
    exact lc_21 C hi hn h1 h2 hr hH hl (fun n M3 H locs hn e hH => kk n M3 H locs hn (e ▸ h3) hH)
  by_cases e22 : j = 22
  · subst e22
    obtain ⟨r, M1, M2, h1, h2, h3⟩ := s22
    refine r_tab (j := 22) (tgt := 938) C.1 rfl ⟨by decide, by decide⟩ dL_law_33 (by decide) (by decide) rfl (by decide) ?_
    exact lc_22 C hi hn h1 h2 hr hH hl (fun n M3 H locs hn e hH => kk n M3 H locs hn (e ▸ h3) hH)
  by_cases e23 : j = 23
  · subst e23
    obtain ⟨r, M1, M2, h1, h2, h3⟩ := s23
    refine r_tab (j := 23) (tgt := 971) C.1 rfl ⟨by decide, by decide⟩ dL_law_33 (by decide) (by decide) rfl (by decide) ?_
    exact lc_23 C hi hn h1 h2 hr hH hl (fun n M3 H locs hn e hH => kk n M3 H locs hn (e ▸ h3) hH)
  by_cases e24 : j = 24
  · subst e24
    obtain ⟨r, M1, M2, h1, h2, h3⟩ := s24
    refine r_tab (j := 24) (tgt := 1004) C.1 rfl ⟨by decide, by decide⟩ dL_law_33 (by decide) (by decide) rfl (by decide) ?_
    exact lc_24 C hi hn h1 h2 hr hH hl (fun n M3 H locs hn e hH => kk n M3 H locs hn (e ▸ h3) hH)
  by_cases e25 : j = 25
  · subst e25
    obtain ⟨r, M1, M2, h1, h2, h3⟩ := s25
    refine r_tab (j := 25) (tgt := 1037) C.1 rfl ⟨by decide, by decide⟩ dL_law_33 (by decide) (by decide) rfl (by decide) ?_
    exact lc_25 C hi hn h1 h2 hr hH hl (fun n M3 H locs hn e hH => kk n M3 H locs hn (e ▸ h3) hH)
  by_cases e26 : j = 26
  · subst e26
    obtain ⟨r, M1, M2, h1, h2, h3⟩ := s26
    refine r_tab (j := 26) (tgt := 1070) C.1 rfl ⟨by decide, by decide⟩ dL_law_33 (by decide) (by decide) rfl (by decide) ?_
    exact lc_26 C hi hn h1 h2 hr hH hl (fun n M3 H locs hn e hH => kk n M3 H locs hn (e ▸ h3) hH)
  by_cases e27 : j = 27
  · subst e27
    obtain ⟨r, M1, M2, h1, h2, h3⟩ := s27
    refine r_tab (j := 27) (tgt := 1083) C.1 rfl ⟨by decide, by decide⟩ dL_law_33 (by decide) (by decide) rfl (by decide) ?_
    exact lc_27 C hi hn h1 h2 hr hH hl (fun n M3 H locs hn e hH => kk n M3 H locs hn (e ▸ h3) hH)
  by_cases e28 : j = 28
  · subst e28
    obtain ⟨r, h1, h2, h3⟩ := s28
    refine r_tab (j := 28) (tgt := 1096) C.1 rfl ⟨by decide, by decide⟩ dL_law_33 (by decide) (by decide) rfl (by decide) ?_
    exact lc_28 C hi hn h1 h2 hr hH hl (fun n M3 H locs hn e hH => kk n M3 H locs hn (e ▸ h3) hH)
  exfalso; omega
/-- what the pure part owes: a thing that holds at first, and that each call keeps, answers alike -/
def PureOK : Prop := ∃ Inv : Nat → Mem → Prop, (∀ M1 : Mem, fn_X11_copies 71 1 (mc_X11_init_71 (zr (mc_X10_init_0 (zr (fun _ _ => 0) 0)) 71)) = some M1 → Inv 0 M1) ∧ (∃ M1 : Mem, fn_X11_copies 71 1 (mc_X11_init_71 (zr (mc_X10_init_0 (zr (fun _ _ => 0) 0)) 71)) = some M1) ∧ (∀ j M, Inv j M → Inv (j + 1) M) ∧ (∀ (j : Nat) (M : Mem) (a1 a2 a3 a4 a5 : Int), j < 64 → R3 a1 → R3 a2 → R3 a3 → R3 a4 → R3 a5 → Inv j M → SALL a1 a2 a3 a4 a5 M (Inv (j + 1)))
theorem x_R3 (x : Int32) : R3 x.toInt := ⟨by have := x.le_toInt; omega, by have := x.toInt_lt; omega⟩
set_option maxRecDepth 100000 in
set_option maxHeartbeats 4000000 in
theorem law_loop {p : Program} {l : Launch} {e : Env} {s : State} {m : MethodId} {below : List Frame} {meth : Method} {c : Code} {E : EE} {b L : Nat} {xs : Nat → Int32} (C : LX E p s m meth c b L xs) {Inv : Nat → Mem → Prop} (hmon : ∀ j M, Inv j M → Inv (j + 1) M) (hst : ∀ (j : Nat) (M : Mem) (a1 a2 a3 a4 a5 : Int), j < 64 → R3 a1 → R3 a2 → R3 a3 → R3 a4 → R3 a5 → Inv j M → SALL a1 a2 a3 a4 a5 M (Inv (j + 1))) :
    ∀ (k j n : Nat) (M : Mem) (H : Heap) (locs : List Loc) (ls : Array Slot), j + k = 65 → 6 * j ≤ L + 5 → nfull n → Inv j M → ST E s n (zf n) M H locs → lv_has ls 4 [(3, i3 ((6 * j : Nat) : Int)), (2, .ref (eb E + 71)), (1, .ref (eb E + 0)), (0, .ref b)] →
      W p l e room_1 s m #[Value.ref b] below meth c H locs (200 + 8 * j) (80000 + 53154 * j) (lw_Z below #[Value.ref b] s) (F0 m 18 ls []) := by
  intro k
  induction k with
  | zero => intro j n M H locs ls hj hi; exfalso; have := C.2.2.2; omega
  | succ k ih =>
    intro j n M H locs ls hj hi hn hI hH hl
    have hL := C.2.2.2
    refine lv_iload_n C.1.hx C.1.hb dL_law_18 rfl (lv_at hl 0 rfl) ?_
    refine lv_aload_n C.1.hx C.1.hb dL_law_19 rfl (lv_at hl 3 rfl) ?_
    refine va_slen C.1.hx C.1.hb C.2.1 (by have := C.1.hs; have := C.2.2.1; omega) (Nat.not_le.mpr C.2.2.1) hH.2 dL_law_20 ?_
    rw [show Int32.ofNat L = Int32.ofInt (L : Int) from rfl]
    refine lv_bipush (v := Int32.ofInt 6) C.1.hx C.1.hb dL_law_21 (by decide) ?_
    refine w_isub C.1 dL_law_23 ?_
    refine lv_icmp_gt (tgt := 1125) C.1.hx C.1.hb dL_law_24 (by decide) (fun q => ?_) (fun q => ?_)
    · refine lv_iconst (v := 1) C.1.hx C.1.hb dL_law_1125 rfl ?_
      refine va_forget (fun q hq => by have h1 := hH.2.2.2 q hq; have := C.1.hs; have h2 : eb E ≤ q.base := h1; omega) ?_
      refine W.widen (k := 145624) (n := 8665378) (by omega) (by omega) ?_
      exact lw_ret C.1.hx C.1.hb C.1.hr C.1.hk dL_law_1126
    · have hle : ¬ ((L : Int) - 6 < ((6 * j : Nat) : Int)) := fun w => q ((r3_lt (x := (L : Int) - 6) (y := ((6 * j : Nat) : Int)) ⟨by omega, by omega⟩ ⟨by omega, by omega⟩).mpr w)
      have hi6 : 6 * j + 6 ≤ L := by omega
      refine law_step (i := 6 * j) (P := Inv (j + 1)) C hi6 hn (hst j M _ _ _ _ _ (by omega) (x_R3 _) (x_R3 _) (x_R3 _) (x_R3 _) (x_R3 _) hI) (hmon j M hI) ⟨by show _ ≤ 145624; omega, by show _ ≤ 8665378; omega⟩ hH hl (fun n M3 H locs hn hI hH => ?_)
      refine lv_iinc (v := Int32.ofInt ((6 * (j + 1) : Nat) : Int)) (lv' := [(3, i3 ((6 * (j + 1) : Nat) : Int)), (2, .ref (eb E + 71)), (1, .ref (eb E + 0)), (0, .ref b)]) C.1.hx C.1.hb dL_law_1119 hl (k := 0) rfl (by rw [← Int32.ofInt_add]; congr 1) (by decide) rfl (fun ls hl => ?_)
      refine lv_goto (tgt := 18) C.1.hx C.1.hb dL_law_1122 (by decide) ?_
      refine W.widen (k := 200 + 8 * (j + 1)) (n := 80000 + 53154 * (j + 1)) (by omega) (by omega) ?_
      exact ih (j + 1) n M3 H locs ls (by omega) (by omega) hn hI hH hl
