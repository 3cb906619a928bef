def z00 : Zs := fun _ _ => false
def m00 : Mem := fun _ _ => 0
theorem z102 : zeq 102 (zc_X11_init_71 (zc_X10_init_0 z00)) (zf 102) := by
  refine zeq_of (by decide +kernel) (fun i => ?_) (by decide)
  rcases (show i = 0 ∨ i = 1 ∨ i = 2 ∨ i = 3 ∨ 4 ≤ i by omega) with rfl | rfl | rfl | rfl | h
  · decide +kernel
  · decide +kernel
  · decide +kernel
  · decide +kernel
  · have h0 : ¬ i < 4 := by omega
    have e0 : i ≠ 0 := by omega
    have e1 : i ≠ 1 := by omega
    have e2 : i ≠ 2 := by omega
    have e3 : i ≠ 3 := by omega
    simp [zf, z00, zu, h0, e0, e1, e2, e3, zc_X5_init_8, zc_X5_init_22, zc_X4_init_1, zc_X4_init_15, zc_X6_init_29, zc_X7_init_32, zc_X8_init_37, zc_X1_init_31, zc_X7_init_43, zc_X7_init_48, zc_X7_init_53, zc_X7_init_58, zc_X3_init_63, zc_X9_init_65, zc_X0_init_70, zc_X10_init_0, zc_X2_init_102, zc_X2_init_106, zc_X11_init_71]
theorem n102 : nOf (zr (mc_X10_init_0 (zr m00 0)) 71) = 102 := by decide +kernel
set_option maxHeartbeats 4000000 in
set_option maxRecDepth 100000 in
/-- THE LAW, from its entry, over the pure part -/
theorem whole_open (hp : PureOK) {p : Program} {e : Env} {s : State} {m : MethodId} {below : List Frame} {meth : Method} {c : Code} (l : Launch) {b L : Nat} {xs : Nat → Int32} (hL : L ≤ 384) (C0 : lw_At p s m meth c b L xs) : W p l e room_1 s m #[Value.ref b] below meth c s.heap [] 0 0 (lw_Z below #[Value.ref b] s) (entryFrame m ([Value.ref b] : List Value).toArray 4) := by
  obtain ⟨Inv, hI0, ⟨M1, hcp⟩, hmon, hst⟩ := hp
  obtain ⟨hx, hb, hr, hml, hown, hts, hX, hbl, hlocks, hgv⟩ := id C0
  obtain ⟨E, hE1, hE2, hG⟩ := given_E hts hgv
  have C : LX E p s m meth c b L xs := ⟨⟨hx, hb, hml, hown, fun w hw => hts w (tg_lw hw), hG, hlocks, hr, by rw [hE1]; rfl, fun q _ => by rw [hE2], rfl⟩, hX, by rw [hE1]; exact hbl, hL⟩
  have hH : ST E s 0 z00 m00 s.heap [] := ⟨⟨fun k q h => by simp [wl] at h, by rw [hE1]; rfl, fun q _ => by rw [hE2], fun h => absurd h (by unfold nfull; omega)⟩, va_S.rf⟩
  have hl := lv_entry ([.ref b]) (n := 4) (Nat.le_of_ble_eq_true rfl)
  rw [lg_entry_eq]
  generalize (lg_sl ([.ref b]) ++ List.replicate (4 - (lg_sl ([.ref b])).length) Slot.unset).toArray = ls at hl ⊢
  have hl : lv_has ls 4 [(0, .ref b)] := hl
  refine w_newO (M' := zr m00 0) (N := 10) C.1 (by decide) hH (fun _ _ _ => rfl) (Or.inr rfl) rfl (by decide) (fun i => rfl) KC_RL_7 IS_10 IZ_10 rfl DF_10 (Nat.le_of_ble_eq_true rfl) (Nat.le_of_ble_eq_true rfl) (fun h => absurd h (by unfold nfull; omega)) dL_law_0 (fun H hH => ?_)
  have hH : ST E s 1 z00 (zr m00 0) H [] := hH
  refine lv_dup C.1.hx C.1.hb dL_law_3 rfl ?_
  refine w_callI (k := 0) (rest := [.ref (eb E + 0)]) C.1 hH hl (m_X10_init_0 (z := z00) (fun k i _ => rfl)) (by decide) ML_RL_9 MF_X10_init MI_X10_init rfl rfl rfl (Nat.le_of_ble_eq_true rfl) ⟨Nat.le_of_ble_eq_true rfl, Nat.le_of_ble_eq_true rfl⟩ ⟨Nat.le_of_ble_eq_true rfl, Nat.le_of_ble_eq_true rfl⟩ dL_law_4 (fun H locs hH => ?_)
  refine lv_astore_n (lv' := [(1, .ref (eb E + 0)), (0, .ref b)]) C.1.hx C.1.hb dL_law_7 rfl hl (by decide) rfl (fun ls hl => ?_)
  have hfr : ∀ k i, 71 ≤ k → zc_X10_init_0 z00 k i = false := zc_X10_init_0_fr (fun _ _ _ => rfl) (Nat.le_refl 71)
  refine w_newO (M' := zr (mc_X10_init_0 (zr m00 0)) 71) (N := 48) C.1 (by decide) hH (fun _ _ _ => rfl) (Or.inr rfl) rfl (by decide) (fun i => hfr 71 i (Nat.le_refl 71)) KC_RL_10 IS_11 IZ_11 rfl DF_11 (Nat.le_of_ble_eq_true rfl) (Nat.le_of_ble_eq_true rfl) (fun h => absurd h (by unfold nfull; omega)) dL_law_8 (fun H hH => ?_)
  refine lv_dup C.1.hx C.1.hb dL_law_11 rfl ?_
  refine w_callI (k := 71) (rest := [.ref (eb E + 71)]) C.1 hH hl (m_X11_init_71 (z := zc_X10_init_0 z00) hfr n102 z102 hcp) (by decide) ML_RL_12 MF_X11_init MI_X11_init rfl rfl rfl (Nat.le_of_ble_eq_true rfl) ⟨Nat.le_of_ble_eq_true rfl, Nat.le_of_ble_eq_true rfl⟩ ⟨Nat.le_of_ble_eq_true rfl, Nat.le_of_ble_eq_true rfl⟩ dL_law_12 (fun H locs hH => ?_)
  refine lv_astore_n (lv' := [(2, .ref (eb E + 71)), (1, .ref (eb E + 0)), (0, .ref b)]) C.1.hx C.1.hb dL_law_15 rfl hl (by decide) rfl (fun ls hl => ?_)
  refine lv_iconst (v := Int32.ofInt 0) C.1.hx C.1.hb dL_law_16 rfl ?_
  refine lv_istore_n (lv' := [(3, i3 ((6 * 0 : Nat) : Int)), (2, .ref (eb E + 71)), (1, .ref (eb E + 0)), (0, .ref b)]) C.1.hx C.1.hb dL_law_17 rfl hl (by decide) rfl (fun ls hl => ?_)
  refine W.widen (k := 200) (n := 80000) (Nat.le_of_ble_eq_true rfl) (Nat.le_of_ble_eq_true rfl) ?_
  exact law_loop C hmon hst 65 0 102 M1 H locs ls rfl (by omega) (Or.inl rfl) (hI0 M1 hcp) hH hl
