-- HeavierByHand$Reader.refuse
def fn_X1_refuse (t : Nat) (a1 : Int) (M : Mem) : Option (Int × Mem) :=
  st M t 3 a1 fun M2 => st M2 t 4 (M2 (t + 6) 9) fun M13 => some (0, M13)
set_option maxRecDepth 100000 in
set_option maxHeartbeats 4000000 in
theorem m_X1_refuse {E : EE} {l : Launch} {n : Nat} {t : Nat} {a1 : Int} {M : Mem} {o : (Int × Mem)} (hn : nfull n) (o_t : ob n t 1) (hf : fn_X1_refuse t a1 M = some o) : CT E l yX1_refuse cX1_refuse 2 (some .boolean) 0 0 0 0 [.ref (eb E + t), i3 a1] n (zf n) M (some (i3 o.1)) n (zf n) o.2 := by
  refine CT_of PN_RX1 (Nat.le_of_ble_eq_true rfl) ?_
  intro p e s m args below meth c C hH ls hl
  replace C : Cx E p s m args meth c cX1_refuse 2 RX1 (some .boolean) n "refuse" := C
  have hl : lv_has ls 2 [(0, .ref (eb E + t)), (1, i3 a1)] := hl
  unfold fn_X1_refuse at hf
  refine lv_aload_n C.hx C.hb dX1_refuse_0 rfl (lv_at hl 0 rfl) ?_
  refine lv_iload_n C.hx C.hb dX1_refuse_1 rfl (lv_at hl 1 rfl) ?_
  refine r_put C hH o_t (by decide) rfl FL_RX1_36 FW_1_3 hf dX1_refuse_2 (fun M2 H locs hf hH => ?_)
  refine lv_aload_n C.hx C.hb dX1_refuse_5 rfl (lv_at hl 0 rfl) ?_
  refine lv_aload_n C.hx C.hb dX1_refuse_6 rfl (lv_at hl 0 rfl) ?_
  refine g_ref (off := 6) C hH o_t (by decide) rfl rfl FL_RX1_21 dX1_refuse_7 ?_
  refine g_int C hH (ly (i := 1) (off := 6) (k := 8) hn o_t rfl rfl rfl) (by decide) rfl FL_RX1_50 dX1_refuse_10 ?_
  refine r_put C hH o_t (by decide) rfl FL_RX1_40 FW_1_4 hf dX1_refuse_13 (fun M13 H locs hf hH => ?_)
  refine lv_iconst (v := Int32.ofInt 0) C.hx C.hb dX1_refuse_16 rfl ?_
  cases hf
  exact w_zret C hH (Or.inl rfl) dX1_refuse_17
-- HeavierByHand$Reader.opens
def fn_X1_opens (t : Nat) (a1 : Int) (M : Mem) : Option (Int × Mem) :=
  cLt a1 8 (cv (fn_X8_next (t + 6) M) fun M16 => some (1, M16)) (cl (fn_X1_refuse t 3 M) fun x8 M8 => ck (x8 = 0 ∨ x8 = 1) (some (x8, M8)))
set_option maxRecDepth 100000 in
set_option maxHeartbeats 4000000 in
theorem m_X1_opens {E : EE} {l : Launch} {n : Nat} {t : Nat} {a1 : Int} {M : Mem} {o : (Int × Mem)} (hn : nfull n) (o_t : ob n t 1) (hf : fn_X1_opens t a1 M = some o) : CT E l yX1_opens cX1_opens 2 (some .boolean) 1 21 0 0 [.ref (eb E + t), i3 a1] n (zf n) M (some (i3 o.1)) n (zf n) o.2 := by
  refine CT_of PN_RX1 (Nat.le_of_ble_eq_true rfl) ?_
  intro p e s m args below meth c C hH ls hl
  replace C : Cx E p s m args meth c cX1_opens 2 RX1 (some .boolean) n "opens" := C
  have hl : lv_has ls 2 [(0, .ref (eb E + t)), (1, i3 a1)] := hl
  unfold fn_X1_opens at hf
  refine lv_iload_n C.hx C.hb dX1_opens_0 rfl (lv_at hl 1 rfl) ?_
  refine lv_bipush (v := Int32.ofInt 8) C.hx C.hb dX1_opens_1 (by decide) ?_
  refine w_lt (tgt := 12) C hf dX1_opens_3 (by decide) (fun hf => ?_) (fun hf => ?_)
  · refine lv_aload_n C.hx C.hb dX1_opens_12 rfl (lv_at hl 0 rfl) ?_
    refine g_ref (off := 6) C hH o_t (by decide) rfl rfl FL_RX1_21 dX1_opens_13 ?_
    obtain ⟨M16, hc9, hf⟩ := cv_of hf
    refine r_callVv (rest := []) C hH hl (ly (i := 1) (off := 6) (k := 8) hn o_t rfl rfl rfl) (by decide) rfl (m_X8_next hn (ly (i := 1) (off := 6) (k := 8) hn o_t rfl rfl rfl) hc9) ML_RX1_55 MF_X8_next MI_X8_next rfl rfl (Nat.le_of_ble_eq_true rfl) ⟨Nat.le_of_ble_eq_true rfl, Nat.le_of_ble_eq_true rfl⟩ ⟨Nat.le_refl _, Nat.le_refl _⟩ dX1_opens_16 (fun H locs hH => ?_)
    refine lv_iconst (v := Int32.ofInt 1) C.hx C.hb dX1_opens_19 rfl ?_
    cases hf
    exact w_zret C hH (Or.inr rfl) dX1_opens_20
  · refine lv_aload_n C.hx C.hb dX1_opens_6 rfl (lv_at hl 0 rfl) ?_
    refine lv_iconst (v := Int32.ofInt 3) C.hx C.hb dX1_opens_7 rfl ?_
    obtain ⟨x8, M8, hc9, hf⟩ := cl_of hf
    refine r_callVi (rest := []) C hH hl o_t (by decide) rfl (m_X1_refuse hn o_t hc9) ML_RX1_51 MF_X1_refuse MI_X1_refuse rfl rfl (Nat.le_of_ble_eq_true rfl) ⟨Nat.le_of_ble_eq_true rfl, Nat.le_of_ble_eq_true rfl⟩ ⟨Nat.le_refl _, Nat.le_refl _⟩ dX1_opens_8 (fun H locs hH => ?_)
    obtain ⟨hB9, hf⟩ := ck_of hf
    cases hf
    exact w_zret C hH hB9 dX1_opens_11
-- HeavierByHand$Reader.ask
def fn_X1_ask_J116 (M116 : Mem) : Option (Int × Mem) :=
  some (0, M116)
def fn_X1_ask_J46 (M46 : Mem) : Option (Int × Mem) :=
  some (0, M46)
def fn_X1_ask_F (fL : Nat → Int → Int → Mem → Option (Int × Mem)) (fA : Nat → Int → Mem → Option (Int × Mem)) (fO : Nat → Int → Mem → Option (Int × Mem)) (t : Nat) (a1 : Int) (M : Mem) : Option (Int × Mem) :=
  cEq (M (t + 6) 7) 12 (cl (fn_X1_opens t a1 M) fun x14 M14 => cEq x14 0 (fn_X1_ask_J46 M14) (cl (fA t (a1 + 1) M14) fun x24 M24 => cEq x24 0 (fn_X1_ask_J46 M24) (cl (fn_X7_put (t + 1) (-12) M24) fun x36 M36 => cEq x36 0 (fn_X1_ask_J46 M36) (some (1, M36))))) (cl (fL t 3 a1 M) fun x51 M51 => cEq x51 0 (some (0, M51)) (nm ((M51 (t + 6) 7)) fun v2_66 => cu (fn_X10_isWithin v2_66 20 25 M51) fun x72 => cEq x72 0 (cl (fn_X1_refuse t 1 M51) fun x80 M80 => ck (x80 = 0 ∨ x80 = 1) (some (x80, M80))) (cv (fn_X8_next (t + 6) M51) fun M88 => cl (fL t 3 a1 M88) fun x94 M94 => cEq x94 0 (fn_X1_ask_J116 M94) (cl (fn_X7_put (t + 1) (-v2_66) M94) fun x106 M106 => cEq x106 0 (fn_X1_ask_J116 M106) (some (1, M106))))))
set_option maxRecDepth 100000 in
set_option maxHeartbeats 4000000 in
theorem j_X1_ask_116 {p : Program} {l : Launch} {e : Env} {s : State} {m : MethodId} {args : Array Value} {below : List Frame} {meth : Method} {c : Code} {E : EE} {n : Nat} {o : (Int × Mem)} {fz lz fd ld : Nat} {fL : Nat → Int → Int → Mem → Option (Int × Mem)} {fA : Nat → Int → Mem → Option (Int × Mem)} {fO : Nat → Int → Mem → Option (Int × Mem)} {M116 : Mem} {H : Heap} {locs : List Loc} {ls : Array Slot} (C : Cx E p s m args meth c cX1_ask 3 RX1 (some .boolean) n "ask") (hn : nfull n) (hz : fd + 1 ≤ fz ∧ ld + 40 ≤ lz ∧ 8 ≤ fz ∧ 300 ≤ lz) (hfL : ∀ {t : Nat} {a b : Int} {M : Mem} {o : (Int × Mem)}, ob n t 1 → fL t a b M = some o → CT E l yX1_level cX1_level 5 (some .boolean) fd ld 0 0 [.ref (eb E + t), i3 a, i3 b] n (zf n) M (some (i3 o.1)) n (zf n) o.2) (hfA : ∀ {t : Nat} {a : Int} {M : Mem} {o : (Int × Mem)}, ob n t 1 → fA t a M = some o → CT E l yX1_ask cX1_ask 3 (some .boolean) fd ld 0 0 [.ref (eb E + t), i3 a] n (zf n) M (some (i3 o.1)) n (zf n) o.2) (hfO : ∀ {t : Nat} {a : Int} {M : Mem} {o : (Int × Mem)}, ob n t 1 → fO t a M = some o → CT E l yX1_one cX1_one 4 (some .boolean) fd ld 0 0 [.ref (eb E + t), i3 a] n (zf n) M (some (i3 o.1)) n (zf n) o.2) (hf : fn_X1_ask_J116 M116 = some o) (hH : ST E s n (zf n) M116 H locs) (hl : lv_has ls 3 []) : W p l e { frames := fz, cells := 0, slots := 0, locals := lz } s m args below meth c H locs 0 0 (MQ below (QC E (some (i3 o.1)) n (zf n) o.2) args s 0 0 (fr E)) (F0 m 116 ls []) := by
  unfold fn_X1_ask_J116 at hf
  refine lv_iconst (v := Int32.ofInt 0) C.hx C.hb dX1_ask_116 rfl ?_
  cases hf
  exact w_zret C hH (Or.inl rfl) dX1_ask_117
set_option maxRecDepth 100000 in
set_option maxHeartbeats 4000000 in
theorem j_X1_ask_46 {p : Program} {l : Launch} {e : Env} {s : State} {m : MethodId} {args : Array Value} {below : List Frame} {meth : Method} {c : Code} {E : EE} {n : Nat} {o : (Int × Mem)} {fz lz fd ld : Nat} {fL : Nat → Int → Int → Mem → Option (Int × Mem)} {fA : Nat → Int → Mem → Option (Int × Mem)} {fO : Nat → Int → Mem → Option (Int × Mem)} {M46 : Mem} {H : Heap} {locs : List Loc} {ls : Array Slot} (C : Cx E p s m args meth c cX1_ask 3 RX1 (some .boolean) n "ask") (hn : nfull n) (hz : fd + 1 ≤ fz ∧ ld + 40 ≤ lz ∧ 8 ≤ fz ∧ 300 ≤ lz) (hfL : ∀ {t : Nat} {a b : Int} {M : Mem} {o : (Int × Mem)}, ob n t 1 → fL t a b M = some o → CT E l yX1_level cX1_level 5 (some .boolean) fd ld 0 0 [.ref (eb E + t), i3 a, i3 b] n (zf n) M (some (i3 o.1)) n (zf n) o.2) (hfA : ∀ {t : Nat} {a : Int} {M : Mem} {o : (Int × Mem)}, ob n t 1 → fA t a M = some o → CT E l yX1_ask cX1_ask 3 (some .boolean) fd ld 0 0 [.ref (eb E + t), i3 a] n (zf n) M (some (i3 o.1)) n (zf n) o.2) (hfO : ∀ {t : Nat} {a : Int} {M : Mem} {o : (Int × Mem)}, ob n t 1 → fO t a M = some o → CT E l yX1_one cX1_one 4 (some .boolean) fd ld 0 0 [.ref (eb E + t), i3 a] n (zf n) M (some (i3 o.1)) n (zf n) o.2) (hf : fn_X1_ask_J46 M46 = some o) (hH : ST E s n (zf n) M46 H locs) (hl : lv_has ls 3 []) : W p l e { frames := fz, cells := 0, slots := 0, locals := lz } s m args below meth c H locs 0 0 (MQ below (QC E (some (i3 o.1)) n (zf n) o.2) args s 0 0 (fr E)) (F0 m 46 ls []) := by
  unfold fn_X1_ask_J46 at hf
  refine lv_iconst (v := Int32.ofInt 0) C.hx C.hb dX1_ask_46 rfl ?_
  cases hf
  exact w_zret C hH (Or.inl rfl) dX1_ask_47
set_option maxRecDepth 100000 in
set_option maxHeartbeats 4000000 in
theorem m_X1_ask_F {E : EE} {l : Launch} {n : Nat} {t : Nat} {a1 : Int} {M : Mem} {o : (Int × Mem)} {fz lz fd ld : Nat} {fL : Nat → Int → Int → Mem → Option (Int × Mem)} {fA : Nat → Int → Mem → Option (Int × Mem)} {fO : Nat → Int → Mem → Option (Int × Mem)} (hn : nfull n) (hz : fd + 1 ≤ fz ∧ ld + 40 ≤ lz ∧ 8 ≤ fz ∧ 300 ≤ lz) (hfL : ∀ {t : Nat} {a b : Int} {M : Mem} {o : (Int × Mem)}, ob n t 1 → fL t a b M = some o → CT E l yX1_level cX1_level 5 (some .boolean) fd ld 0 0 [.ref (eb E + t), i3 a, i3 b] n (zf n) M (some (i3 o.1)) n (zf n) o.2) (hfA : ∀ {t : Nat} {a : Int} {M : Mem} {o : (Int × Mem)}, ob n t 1 → fA t a M = some o → CT E l yX1_ask cX1_ask 3 (some .boolean) fd ld 0 0 [.ref (eb E + t), i3 a] n (zf n) M (some (i3 o.1)) n (zf n) o.2) (hfO : ∀ {t : Nat} {a : Int} {M : Mem} {o : (Int × Mem)}, ob n t 1 → fO t a M = some o → CT E l yX1_one cX1_one 4 (some .boolean) fd ld 0 0 [.ref (eb E + t), i3 a] n (zf n) M (some (i3 o.1)) n (zf n) o.2) (o_t : ob n t 1) (hf : fn_X1_ask_F fL fA fO t a1 M = some o) : CT E l yX1_ask cX1_ask 3 (some .boolean) fz lz 0 0 [.ref (eb E + t), i3 a1] n (zf n) M (some (i3 o.1)) n (zf n) o.2 := by
  refine CT_of PN_RX1 (Nat.le_of_ble_eq_true rfl) ?_
  intro p e s m args below meth c C hH ls hl
  replace C : Cx E p s m args meth c cX1_ask 3 RX1 (some .boolean) n "ask" := C
  have hl : lv_has ls 3 [(0, .ref (eb E + t)), (1, i3 a1)] := hl
  unfold fn_X1_ask_F at hf
  refine lv_aload_n C.hx C.hb dX1_ask_0 rfl (lv_at hl 0 rfl) ?_
  refine g_ref (off := 6) C hH o_t (by decide) rfl rfl FL_RX1_21 dX1_ask_1 ?_
  refine g_int C hH (ly (i := 1) (off := 6) (k := 8) hn o_t rfl rfl rfl) (by decide) rfl FL_RX1_43 dX1_ask_4 ?_
  refine lv_bipush (v := Int32.ofInt 12) C.hx C.hb dX1_ask_7 (by decide) ?_
  refine w_ne (tgt := 48) C hf dX1_ask_9 (by decide) (fun hf => ?_) (fun hf => ?_)
  · refine lv_aload_n C.hx C.hb dX1_ask_48 rfl (lv_at hl 0 rfl) ?_
    refine lv_iconst (v := Int32.ofInt 3) C.hx C.hb dX1_ask_49 rfl ?_
    refine lv_iload_n C.hx C.hb dX1_ask_50 rfl (lv_at hl 1 rfl) ?_
    obtain ⟨x51, M51, hc9, hf⟩ := cl_of hf
    refine r_callVi (rest := []) C hH hl o_t (by decide) rfl (hfL o_t hc9) ML_RX1_86 MF_X1_level MI_X1_level rfl rfl (Nat.le_of_ble_eq_true rfl) ⟨by show _ ≤ fz; omega, by show _ ≤ lz; omega⟩ ⟨Nat.le_refl _, Nat.le_refl _⟩ dX1_ask_51 (fun H locs hH => ?_)
    refine w_ne0 (tgt := 59) C hf dX1_ask_54 (by decide) (fun hf => ?_) (fun hf => ?_)
    · refine lv_aload_n C.hx C.hb dX1_ask_59 rfl (lv_at hl 0 rfl) ?_
      refine g_ref (off := 6) C hH o_t (by decide) rfl rfl FL_RX1_21 dX1_ask_60 ?_
      refine g_int C hH (ly (i := 1) (off := 6) (k := 8) hn o_t rfl rfl rfl) (by decide) rfl FL_RX1_43 dX1_ask_63 ?_
      refine r_nm hf (fun v2_66 hf => ?_)
      refine lv_istore_n (lv' := [(2, i3 v2_66), (0, .ref (eb E + t)), (1, i3 a1)]) C.hx C.hb dX1_ask_66 rfl hl (by decide) rfl (fun ls hl => ?_)
      refine lv_iload_n C.hx C.hb dX1_ask_67 rfl (lv_at hl 0 rfl) ?_
      refine lv_bipush (v := Int32.ofInt 20) C.hx C.hb dX1_ask_68 (by decide) ?_
      refine lv_bipush (v := Int32.ofInt 25) C.hx C.hb dX1_ask_70 (by decide) ?_
      obtain ⟨x72, hc9, hf⟩ := cu_of hf
      refine r_callSNi (rest := []) C hH hl (m_X10_isWithin hn hc9) MN_RX1_61 MF_X10_isWithin MS_X10_isWithin rfl rfl (Nat.le_of_ble_eq_true rfl) ⟨by show _ ≤ fz; omega, by show _ ≤ lz; omega⟩ ⟨Nat.le_refl _, Nat.le_refl _⟩ dX1_ask_72 (fun H locs hH => ?_)
      refine w_ne0 (tgt := 84) C hf dX1_ask_75 (by decide) (fun hf => ?_) (fun hf => ?_)
      · refine lv_aload_n C.hx C.hb dX1_ask_84 rfl (lv_at hl 1 rfl) ?_
        refine g_ref (off := 6) C hH o_t (by decide) rfl rfl FL_RX1_21 dX1_ask_85 ?_
        obtain ⟨M88, hc9, hf⟩ := cv_of hf
        refine r_callVv (rest := []) C hH hl (ly (i := 1) (off := 6) (k := 8) hn o_t rfl rfl rfl) (by decide) rfl (m_X8_next hn (ly (i := 1) (off := 6) (k := 8) hn o_t rfl rfl rfl) hc9) ML_RX1_55 MF_X8_next MI_X8_next rfl rfl (Nat.le_of_ble_eq_true rfl) ⟨by show _ ≤ fz; omega, by show _ ≤ lz; omega⟩ ⟨Nat.le_refl _, Nat.le_refl _⟩ dX1_ask_88 (fun H locs hH => ?_)
        refine lv_aload_n C.hx C.hb dX1_ask_91 rfl (lv_at hl 1 rfl) ?_
        refine lv_iconst (v := Int32.ofInt 3) C.hx C.hb dX1_ask_92 rfl ?_
        refine lv_iload_n C.hx C.hb dX1_ask_93 rfl (lv_at hl 2 rfl) ?_
        obtain ⟨x94, M94, hc9, hf⟩ := cl_of hf
        refine r_callVi (rest := []) C hH hl o_t (by decide) rfl (hfL o_t hc9) ML_RX1_86 MF_X1_level MI_X1_level rfl rfl (Nat.le_of_ble_eq_true rfl) ⟨by show _ ≤ fz; omega, by show _ ≤ lz; omega⟩ ⟨Nat.le_refl _, Nat.le_refl _⟩ dX1_ask_94 (fun H locs hH => ?_)
        refine w_eq0 (tgt := 116) C hf dX1_ask_97 (by decide) (fun hf => ?_) (fun hf => ?_)
        · exact j_X1_ask_116 C hn hz hfL hfA hfO hf hH (lv_sub hl [] rfl)
        · refine lv_aload_n C.hx C.hb dX1_ask_100 rfl (lv_at hl 1 rfl) ?_
          refine g_ref (off := 1) C hH o_t (by decide) rfl rfl FL_RX1_12 dX1_ask_101 ?_
          refine lv_iload_n C.hx C.hb dX1_ask_104 rfl (lv_at hl 0 rfl) ?_
          refine w_ineg C dX1_ask_105 ?_
          obtain ⟨x106, M106, hc9, hf⟩ := cl_of hf
          refine r_callVi (rest := []) C hH hl (ly (i := 0) (off := 1) (k := 7) hn o_t rfl rfl rfl) (by decide) rfl (m_X7_put hn (ly (i := 0) (off := 1) (k := 7) hn o_t rfl rfl rfl) hc9) ML_RX1_110 MF_X7_put MI_X7_put rfl rfl (Nat.le_of_ble_eq_true rfl) ⟨by show _ ≤ fz; omega, by show _ ≤ lz; omega⟩ ⟨Nat.le_refl _, Nat.le_refl _⟩ dX1_ask_106 (fun H locs hH => ?_)
          refine w_eq0 (tgt := 116) C hf dX1_ask_109 (by decide) (fun hf => ?_) (fun hf => ?_)
          · exact j_X1_ask_116 C hn hz hfL hfA hfO hf hH (lv_sub hl [] rfl)
          · refine lv_iconst (v := Int32.ofInt 1) C.hx C.hb dX1_ask_112 rfl ?_
            refine lv_goto (tgt := 117) C.hx C.hb dX1_ask_113 (by decide) ?_
            cases hf
            exact w_zret C hH (Or.inr rfl) dX1_ask_117
      · refine lv_aload_n C.hx C.hb dX1_ask_78 rfl (lv_at hl 1 rfl) ?_
        refine lv_iconst (v := Int32.ofInt 1) C.hx C.hb dX1_ask_79 rfl ?_
        obtain ⟨x80, M80, hc9, hf⟩ := cl_of hf
        refine r_callVi (rest := []) C hH hl o_t (by decide) rfl (m_X1_refuse hn o_t hc9) ML_RX1_51 MF_X1_refuse MI_X1_refuse rfl rfl (Nat.le_of_ble_eq_true rfl) ⟨by show _ ≤ fz; omega, by show _ ≤ lz; omega⟩ ⟨Nat.le_refl _, Nat.le_refl _⟩ dX1_ask_80 (fun H locs hH => ?_)
        obtain ⟨hB9, hf⟩ := ck_of hf
        cases hf
        exact w_zret C hH hB9 dX1_ask_83
    · refine lv_iconst (v := Int32.ofInt 0) C.hx C.hb dX1_ask_57 rfl ?_
      cases hf
      exact w_zret C hH (Or.inl rfl) dX1_ask_58
  · refine lv_aload_n C.hx C.hb dX1_ask_12 rfl (lv_at hl 0 rfl) ?_
    refine lv_iload_n C.hx C.hb dX1_ask_13 rfl (lv_at hl 1 rfl) ?_
    obtain ⟨x14, M14, hc9, hf⟩ := cl_of hf
    refine r_callVi (rest := []) C hH hl o_t (by decide) rfl (m_X1_opens hn o_t hc9) ML_RX1_113 MF_X1_opens MI_X1_opens rfl rfl (Nat.le_of_ble_eq_true rfl) ⟨by show _ ≤ fz; omega, by show _ ≤ lz; omega⟩ ⟨Nat.le_refl _, Nat.le_refl _⟩ dX1_ask_14 (fun H locs hH => ?_)
    refine w_eq0 (tgt := 46) C hf dX1_ask_17 (by decide) (fun hf => ?_) (fun hf => ?_)
    · exact j_X1_ask_46 C hn hz hfL hfA hfO hf hH (lv_sub hl [] rfl)
    · refine lv_aload_n C.hx C.hb dX1_ask_20 rfl (lv_at hl 0 rfl) ?_
      refine lv_iload_n C.hx C.hb dX1_ask_21 rfl (lv_at hl 1 rfl) ?_
      refine lv_iconst (v := Int32.ofInt 1) C.hx C.hb dX1_ask_22 rfl ?_
      refine w_iadd C dX1_ask_23 ?_
      obtain ⟨x24, M24, hc9, hf⟩ := cl_of hf
      refine r_callVi (rest := []) C hH hl o_t (by decide) rfl (hfA o_t hc9) ML_RX1_101 MF_X1_ask MI_X1_ask rfl rfl (Nat.le_of_ble_eq_true rfl) ⟨by show _ ≤ fz; omega, by show _ ≤ lz; omega⟩ ⟨Nat.le_refl _, Nat.le_refl _⟩ dX1_ask_24 (fun H locs hH => ?_)
      refine w_eq0 (tgt := 46) C hf dX1_ask_27 (by decide) (fun hf => ?_) (fun hf => ?_)
      · exact j_X1_ask_46 C hn hz hfL hfA hfO hf hH (lv_sub hl [] rfl)
      · refine lv_aload_n C.hx C.hb dX1_ask_30 rfl (lv_at hl 0 rfl) ?_
        refine g_ref (off := 1) C hH o_t (by decide) rfl rfl FL_RX1_12 dX1_ask_31 ?_
        refine lv_bipush (v := Int32.ofInt (-12)) C.hx C.hb dX1_ask_34 (by decide) ?_
        obtain ⟨x36, M36, hc9, hf⟩ := cl_of hf
        refine r_callVi (rest := []) C hH hl (ly (i := 0) (off := 1) (k := 7) hn o_t rfl rfl rfl) (by decide) rfl (m_X7_put hn (ly (i := 0) (off := 1) (k := 7) hn o_t rfl rfl rfl) hc9) ML_RX1_110 MF_X7_put MI_X7_put rfl rfl (Nat.le_of_ble_eq_true rfl) ⟨by show _ ≤ fz; omega, by show _ ≤ lz; omega⟩ ⟨Nat.le_refl _, Nat.le_refl _⟩ dX1_ask_36 (fun H locs hH => ?_)
        refine w_eq0 (tgt := 46) C hf dX1_ask_39 (by decide) (fun hf => ?_) (fun hf => ?_)
        · exact j_X1_ask_46 C hn hz hfL hfA hfO hf hH (lv_sub hl [] rfl)
        · refine lv_iconst (v := Int32.ofInt 1) C.hx C.hb dX1_ask_42 rfl ?_
          refine lv_goto (tgt := 47) C.hx C.hb dX1_ask_43 (by decide) ?_
          cases hf
          exact w_zret C hH (Or.inr rfl) dX1_ask_47
-- HeavierByHand$Reader.number
def fn_X1_number (t : Nat) (a1 : Int) (M : Mem) : Option (Int × Mem) :=
  cEq (M (t + 6) 7) 2 (cLt a1 (M (t + 6) 8) (cl (fn_X1_refuse t 2 M) fun x30 M30 => ck (x30 = 0 ∨ x30 = 1) (some (x30, M30))) (cv (fn_X8_next (t + 6) M) fun M38 => some (1, M38))) (cl (fn_X1_refuse t 1 M) fun x13 M13 => ck (x13 = 0 ∨ x13 = 1) (some (x13, M13)))
set_option maxRecDepth 100000 in
set_option maxHeartbeats 4000000 in
theorem m_X1_number {E : EE} {l : Launch} {n : Nat} {t : Nat} {a1 : Int} {M : Mem} {o : (Int × Mem)} (hn : nfull n) (o_t : ob n t 1) (hf : fn_X1_number t a1 M = some o) : CT E l yX1_number cX1_number 2 (some .boolean) 1 21 0 0 [.ref (eb E + t), i3 a1] n (zf n) M (some (i3 o.1)) n (zf n) o.2 := by
  refine CT_of PN_RX1 (Nat.le_of_ble_eq_true rfl) ?_
  intro p e s m args below meth c C hH ls hl
  replace C : Cx E p s m args meth c cX1_number 2 RX1 (some .boolean) n "number" := C
  have hl : lv_has ls 2 [(0, .ref (eb E + t)), (1, i3 a1)] := hl
  unfold fn_X1_number at hf
  refine lv_aload_n C.hx C.hb dX1_number_0 rfl (lv_at hl 0 rfl) ?_
  refine g_ref (off := 6) C hH o_t (by decide) rfl rfl FL_RX1_21 dX1_number_1 ?_
  refine g_int C hH (ly (i := 1) (off := 6) (k := 8) hn o_t rfl rfl rfl) (by decide) rfl FL_RX1_43 dX1_number_4 ?_
  refine lv_iconst (v := Int32.ofInt 2) C.hx C.hb dX1_number_7 rfl ?_
  refine w_eq (tgt := 17) C hf dX1_number_8 (by decide) (fun hf => ?_) (fun hf => ?_)
  · refine lv_aload_n C.hx C.hb dX1_number_17 rfl (lv_at hl 0 rfl) ?_
    refine g_ref (off := 6) C hH o_t (by decide) rfl rfl FL_RX1_21 dX1_number_18 ?_
    refine g_int C hH (ly (i := 1) (off := 6) (k := 8) hn o_t rfl rfl rfl) (by decide) rfl FL_RX1_58 dX1_number_21 ?_
    refine lv_iload_n C.hx C.hb dX1_number_24 rfl (lv_at hl 1 rfl) ?_
    refine w_le (tgt := 34) C hf dX1_number_25 (by decide) (fun hf => ?_) (fun hf => ?_)
    · refine lv_aload_n C.hx C.hb dX1_number_34 rfl (lv_at hl 0 rfl) ?_
      refine g_ref (off := 6) C hH o_t (by decide) rfl rfl FL_RX1_21 dX1_number_35 ?_
      obtain ⟨M38, hc9, hf⟩ := cv_of hf
      refine r_callVv (rest := []) C hH hl (ly (i := 1) (off := 6) (k := 8) hn o_t rfl rfl rfl) (by decide) rfl (m_X8_next hn (ly (i := 1) (off := 6) (k := 8) hn o_t rfl rfl rfl) hc9) ML_RX1_55 MF_X8_next MI_X8_next rfl rfl (Nat.le_of_ble_eq_true rfl) ⟨Nat.le_of_ble_eq_true rfl, Nat.le_of_ble_eq_true rfl⟩ ⟨Nat.le_refl _, Nat.le_refl _⟩ dX1_number_38 (fun H locs hH => ?_)
      refine lv_iconst (v := Int32.ofInt 1) C.hx C.hb dX1_number_41 rfl ?_
      cases hf
      exact w_zret C hH (Or.inr rfl) dX1_number_42
    · refine lv_aload_n C.hx C.hb dX1_number_28 rfl (lv_at hl 0 rfl) ?_
      refine lv_iconst (v := Int32.ofInt 2) C.hx C.hb dX1_number_29 rfl ?_
      obtain ⟨x30, M30, hc9, hf⟩ := cl_of hf
      refine r_callVi (rest := []) C hH hl o_t (by decide) rfl (m_X1_refuse hn o_t hc9) ML_RX1_51 MF_X1_refuse MI_X1_refuse rfl rfl (Nat.le_of_ble_eq_true rfl) ⟨Nat.le_of_ble_eq_true rfl, Nat.le_of_ble_eq_true rfl⟩ ⟨Nat.le_refl _, Nat.le_refl _⟩ dX1_number_30 (fun H locs hH => ?_)
      obtain ⟨hB9, hf⟩ := ck_of hf
      cases hf
      exact w_zret C hH hB9 dX1_number_33
  · refine lv_aload_n C.hx C.hb dX1_number_11 rfl (lv_at hl 0 rfl) ?_
    refine lv_iconst (v := Int32.ofInt 1) C.hx C.hb dX1_number_12 rfl ?_
    obtain ⟨x13, M13, hc9, hf⟩ := cl_of hf
    refine r_callVi (rest := []) C hH hl o_t (by decide) rfl (m_X1_refuse hn o_t hc9) ML_RX1_51 MF_X1_refuse MI_X1_refuse rfl rfl (Nat.le_of_ble_eq_true rfl) ⟨Nat.le_of_ble_eq_true rfl, Nat.le_of_ble_eq_true rfl⟩ ⟨Nat.le_refl _, Nat.le_refl _⟩ dX1_number_13 (fun H locs hH => ?_)
    obtain ⟨hB9, hf⟩ := ck_of hf
    cases hf
    exact w_zret C hH hB9 dX1_number_16
-- HeavierByHand$Reader.pass
def fn_X1_pass (t : Nat) (a1 : Int) (M : Mem) : Option (Int × Mem) :=
  cEq (M (t + 6) 7) a1 (cv (fn_X8_next (t + 6) M) fun M21 => some (1, M21)) (cl (fn_X1_refuse t 1 M) fun x13 M13 => ck (x13 = 0 ∨ x13 = 1) (some (x13, M13)))
set_option maxRecDepth 100000 in
set_option maxHeartbeats 4000000 in
theorem m_X1_pass {E : EE} {l : Launch} {n : Nat} {t : Nat} {a1 : Int} {M : Mem} {o : (Int × Mem)} (hn : nfull n) (o_t : ob n t 1) (hf : fn_X1_pass t a1 M = some o) : CT E l yX1_pass cX1_pass 2 (some .boolean) 1 21 0 0 [.ref (eb E + t), i3 a1] n (zf n) M (some (i3 o.1)) n (zf n) o.2 := by
  refine CT_of PN_RX1 (Nat.le_of_ble_eq_true rfl) ?_
  intro p e s m args below meth c C hH ls hl
  replace C : Cx E p s m args meth c cX1_pass 2 RX1 (some .boolean) n "pass" := C
  have hl : lv_has ls 2 [(0, .ref (eb E + t)), (1, i3 a1)] := hl
  unfold fn_X1_pass at hf
  refine lv_aload_n C.hx C.hb dX1_pass_0 rfl (lv_at hl 0 rfl) ?_
  refine g_ref (off := 6) C hH o_t (by decide) rfl rfl FL_RX1_21 dX1_pass_1 ?_
  refine g_int C hH (ly (i := 1) (off := 6) (k := 8) hn o_t rfl rfl rfl) (by decide) rfl FL_RX1_43 dX1_pass_4 ?_
  refine lv_iload_n C.hx C.hb dX1_pass_7 rfl (lv_at hl 1 rfl) ?_
  refine w_eq (tgt := 17) C hf dX1_pass_8 (by decide) (fun hf => ?_) (fun hf => ?_)
  · refine lv_aload_n C.hx C.hb dX1_pass_17 rfl (lv_at hl 0 rfl) ?_
    refine g_ref (off := 6) C hH o_t (by decide) rfl rfl FL_RX1_21 dX1_pass_18 ?_
    obtain ⟨M21, hc9, hf⟩ := cv_of hf
    refine r_callVv (rest := []) C hH hl (ly (i := 1) (off := 6) (k := 8) hn o_t rfl rfl rfl) (by decide) rfl (m_X8_next hn (ly (i := 1) (off := 6) (k := 8) hn o_t rfl rfl rfl) hc9) ML_RX1_55 MF_X8_next MI_X8_next rfl rfl (Nat.le_of_ble_eq_true rfl) ⟨Nat.le_of_ble_eq_true rfl, Nat.le_of_ble_eq_true rfl⟩ ⟨Nat.le_refl _, Nat.le_refl _⟩ dX1_pass_21 (fun H locs hH => ?_)
    refine lv_iconst (v := Int32.ofInt 1) C.hx C.hb dX1_pass_24 rfl ?_
    cases hf
    exact w_zret C hH (Or.inr rfl) dX1_pass_25
  · refine lv_aload_n C.hx C.hb dX1_pass_11 rfl (lv_at hl 0 rfl) ?_
    refine lv_iconst (v := Int32.ofInt 1) C.hx C.hb dX1_pass_12 rfl ?_
    obtain ⟨x13, M13, hc9, hf⟩ := cl_of hf
    refine r_callVi (rest := []) C hH hl o_t (by decide) rfl (m_X1_refuse hn o_t hc9) ML_RX1_51 MF_X1_refuse MI_X1_refuse rfl rfl (Nat.le_of_ble_eq_true rfl) ⟨Nat.le_of_ble_eq_true rfl, Nat.le_of_ble_eq_true rfl⟩ ⟨Nat.le_refl _, Nat.le_refl _⟩ dX1_pass_13 (fun H locs hH => ?_)
    obtain ⟨hB9, hf⟩ := ck_of hf
    cases hf
    exact w_zret C hH hB9 dX1_pass_16
-- HeavierByHand$Reader.one
def fn_X1_one_J156 (M156 : Mem) : Option (Int × Mem) :=
  some (0, M156)
def fn_X1_one_J114 (M114 : Mem) : Option (Int × Mem) :=
  some (0, M114)
def fn_X1_one_J46 (M46 : Mem) : Option (Int × Mem) :=
  some (0, M46)
def fn_X1_one_F (fL : Nat → Int → Int → Mem → Option (Int × Mem)) (fA : Nat → Int → Mem → Option (Int × Mem)) (fO : Nat → Int → Mem → Option (Int × Mem)) (t : Nat) (a1 : Int) (M : Mem) : Option (Int × Mem) :=
  nm ((M (t + 6) 7)) fun v2_7 => cEq v2_7 2 (nm ((M (t + 6) 8)) fun v3_20 => cl (fn_X1_number t 9999 M) fun x25 M25 => cEq x25 0 (fn_X1_one_J46 M25) (cl (fn_X7_put (t + 1) v3_20 M25) fun x36 M36 => cEq x36 0 (fn_X1_one_J46 M36) (some (1, M36)))) (cu (fn_X10_isWithin v2_7 13 19 M) fun x53 => cEq x53 0 (cEq v2_7 30 (cl (fn_X1_opens t a1 M) fun x84 M84 => cEq x84 0 (fn_X1_one_J114 M84) (cl (fL t 3 (a1 + 1) M84) fun x95 M95 => cEq x95 0 (fn_X1_one_J114 M95) (cl (fn_X1_pass t 31 M95) fun x104 M104 => cEq x104 0 (fn_X1_one_J114 M104) (some (1, M104))))) (cEq v2_7 27 (cl (fn_X1_opens t a1 M) fun x124 M124 => cEq x124 0 (fn_X1_one_J156 M124) (cl (fO t (a1 + 1) M124) fun x134 M134 => cEq x134 0 (fn_X1_one_J156 M134) (cl (fn_X7_put (t + 1) (-33) M134) fun x146 M146 => cEq x146 0 (fn_X1_one_J156 M146) (some (1, M146))))) (cl (fn_X1_refuse t 1 M) fun x160 M160 => ck (x160 = 0 ∨ x160 = 1) (some (x160, M160))))) (cv (fn_X8_next (t + 6) M) fun M63 => cl (fn_X7_put (t + 1) (-v2_7) M63) fun x72 M72 => ck (x72 = 0 ∨ x72 = 1) (some (x72, M72))))
set_option maxRecDepth 100000 in
set_option maxHeartbeats 4000000 in
theorem j_X1_one_156 {p : Program} {l : Launch} {e : Env} {s : State} {m : MethodId} {args : Array Value} {below : List Frame} {meth : Method} {c : Code} {E : EE} {n : Nat} {o : (Int × Mem)} {fz lz fd ld : Nat} {fL : Nat → Int → Int → Mem → Option (Int × Mem)} {fA : Nat → Int → Mem → Option (Int × Mem)} {fO : Nat → Int → Mem → Option (Int × Mem)} {M156 : Mem} {H : Heap} {locs : List Loc} {ls : Array Slot} (C : Cx E p s m args meth c cX1_one 4 RX1 (some .boolean) n "one") (hn : nfull n) (hz : fd + 1 ≤ fz ∧ ld + 40 ≤ lz ∧ 8 ≤ fz ∧ 300 ≤ lz) (hfL : ∀ {t : Nat} {a b : Int} {M : Mem} {o : (Int × Mem)}, ob n t 1 → fL t a b M = some o → CT E l yX1_level cX1_level 5 (some .boolean) fd ld 0 0 [.ref (eb E + t), i3 a, i3 b] n (zf n) M (some (i3 o.1)) n (zf n) o.2) (hfA : ∀ {t : Nat} {a : Int} {M : Mem} {o : (Int × Mem)}, ob n t 1 → fA t a M = some o → CT E l yX1_ask cX1_ask 3 (some .boolean) fd ld 0 0 [.ref (eb E + t), i3 a] n (zf n) M (some (i3 o.1)) n (zf n) o.2) (hfO : ∀ {t : Nat} {a : Int} {M : Mem} {o : (Int × Mem)}, ob n t 1 → fO t a M = some o → CT E l yX1_one cX1_one 4 (some .boolean) fd ld 0 0 [.ref (eb E + t), i3 a] n (zf n) M (some (i3 o.1)) n (zf n) o.2) (hf : fn_X1_one_J156 M156 = some o) (hH : ST E s n (zf n) M156 H locs) (hl : lv_has ls 4 []) : W p l e { frames := fz, cells := 0, slots := 0, locals := lz } s m args below meth c H locs 0 0 (MQ below (QC E (some (i3 o.1)) n (zf n) o.2) args s 0 0 (fr E)) (F0 m 156 ls []) := by
  unfold fn_X1_one_J156 at hf
  refine lv_iconst (v := Int32.ofInt 0) C.hx C.hb dX1_one_156 rfl ?_
  cases hf
  exact w_zret C hH (Or.inl rfl) dX1_one_157
set_option maxRecDepth 100000 in
set_option maxHeartbeats 4000000 in
theorem j_X1_one_114 {p : Program} {l : Launch} {e : Env} {s : State} {m : MethodId} {args : Array Value} {below : List Frame} {meth : Method} {c : Code} {E : EE} {n : Nat} {o : (Int × Mem)} {fz lz fd ld : Nat} {fL : Nat → Int → Int → Mem → Option (Int × Mem)} {fA : Nat → Int → Mem → Option (Int × Mem)} {fO : Nat → Int → Mem → Option (Int × Mem)} {M114 : Mem} {H : Heap} {locs : List Loc} {ls : Array Slot} (C : Cx E p s m args meth c cX1_one 4 RX1 (some .boolean) n "one") (hn : nfull n) (hz : fd + 1 ≤ fz ∧ ld + 40 ≤ lz ∧ 8 ≤ fz ∧ 300 ≤ lz) (hfL : ∀ {t : Nat} {a b : Int} {M : Mem} {o : (Int × Mem)}, ob n t 1 → fL t a b M = some o → CT E l yX1_level cX1_level 5 (some .boolean) fd ld 0 0 [.ref (eb E + t), i3 a, i3 b] n (zf n) M (some (i3 o.1)) n (zf n) o.2) (hfA : ∀ {t : Nat} {a : Int} {M : Mem} {o : (Int × Mem)}, ob n t 1 → fA t a M = some o → CT E l yX1_ask cX1_ask 3 (some .boolean) fd ld 0 0 [.ref (eb E + t), i3 a] n (zf n) M (some (i3 o.1)) n (zf n) o.2) (hfO : ∀ {t : Nat} {a : Int} {M : Mem} {o : (Int × Mem)}, ob n t 1 → fO t a M = some o → CT E l yX1_one cX1_one 4 (some .boolean) fd ld 0 0 [.ref (eb E + t), i3 a] n (zf n) M (some (i3 o.1)) n (zf n) o.2) (hf : fn_X1_one_J114 M114 = some o) (hH : ST E s n (zf n) M114 H locs) (hl : lv_has ls 4 []) : W p l e { frames := fz, cells := 0, slots := 0, locals := lz } s m args below meth c H locs 0 0 (MQ below (QC E (some (i3 o.1)) n (zf n) o.2) args s 0 0 (fr E)) (F0 m 114 ls []) := by
  unfold fn_X1_one_J114 at hf
  refine lv_iconst (v := Int32.ofInt 0) C.hx C.hb dX1_one_114 rfl ?_
  cases hf
  exact w_zret C hH (Or.inl rfl) dX1_one_115
set_option maxRecDepth 100000 in
set_option maxHeartbeats 4000000 in
theorem j_X1_one_46 {p : Program} {l : Launch} {e : Env} {s : State} {m : MethodId} {args : Array Value} {below : List Frame} {meth : Method} {c : Code} {E : EE} {n : Nat} {o : (Int × Mem)} {fz lz fd ld : Nat} {fL : Nat → Int → Int → Mem → Option (Int × Mem)} {fA : Nat → Int → Mem → Option (Int × Mem)} {fO : Nat → Int → Mem → Option (Int × Mem)} {M46 : Mem} {H : Heap} {locs : List Loc} {ls : Array Slot} (C : Cx E p s m args meth c cX1_one 4 RX1 (some .boolean) n "one") (hn : nfull n) (hz : fd + 1 ≤ fz ∧ ld + 40 ≤ lz ∧ 8 ≤ fz ∧ 300 ≤ lz) (hfL : ∀ {t : Nat} {a b : Int} {M : Mem} {o : (Int × Mem)}, ob n t 1 → fL t a b M = some o → CT E l yX1_level cX1_level 5 (some .boolean) fd ld 0 0 [.ref (eb E + t), i3 a, i3 b] n (zf n) M (some (i3 o.1)) n (zf n) o.2) (hfA : ∀ {t : Nat} {a : Int} {M : Mem} {o : (Int × Mem)}, ob n t 1 → fA t a M = some o → CT E l yX1_ask cX1_ask 3 (some .boolean) fd ld 0 0 [.ref (eb E + t), i3 a] n (zf n) M (some (i3 o.1)) n (zf n) o.2) (hfO : ∀ {t : Nat} {a : Int} {M : Mem} {o : (Int × Mem)}, ob n t 1 → fO t a M = some o → CT E l yX1_one cX1_one 4 (some .boolean) fd ld 0 0 [.ref (eb E + t), i3 a] n (zf n) M (some (i3 o.1)) n (zf n) o.2) (hf : fn_X1_one_J46 M46 = some o) (hH : ST E s n (zf n) M46 H locs) (hl : lv_has ls 4 []) : W p l e { frames := fz, cells := 0, slots := 0, locals := lz } s m args below meth c H locs 0 0 (MQ below (QC E (some (i3 o.1)) n (zf n) o.2) args s 0 0 (fr E)) (F0 m 46 ls []) := by
  unfold fn_X1_one_J46 at hf
  refine lv_iconst (v := Int32.ofInt 0) C.hx C.hb dX1_one_46 rfl ?_
  cases hf
  exact w_zret C hH (Or.inl rfl) dX1_one_47
set_option maxRecDepth 100000 in
set_option maxHeartbeats 4000000 in
theorem m_X1_one_F {E : EE} {l : Launch} {n : Nat} {t : Nat} {a1 : Int} {M : Mem} {o : (Int × Mem)} {fz lz fd ld : Nat} {fL : Nat → Int → Int → Mem → Option (Int × Mem)} {fA : Nat → Int → Mem → Option (Int × Mem)} {fO : Nat → Int → Mem → Option (Int × Mem)} (hn : nfull n) (hz : fd + 1 ≤ fz ∧ ld + 40 ≤ lz ∧ 8 ≤ fz ∧ 300 ≤ lz) (hfL : ∀ {t : Nat} {a b : Int} {M : Mem} {o : (Int × Mem)}, ob n t 1 → fL t a b M = some o → CT E l yX1_level cX1_level 5 (some .boolean) fd ld 0 0 [.ref (eb E + t), i3 a, i3 b] n (zf n) M (some (i3 o.1)) n (zf n) o.2) (hfA : ∀ {t : Nat} {a : Int} {M : Mem} {o : (Int × Mem)}, ob n t 1 → fA t a M = some o → CT E l yX1_ask cX1_ask 3 (some .boolean) fd ld 0 0 [.ref (eb E + t), i3 a] n (zf n) M (some (i3 o.1)) n (zf n) o.2) (hfO : ∀ {t : Nat} {a : Int} {M : Mem} {o : (Int × Mem)}, ob n t 1 → fO t a M = some o → CT E l yX1_one cX1_one 4 (some .boolean) fd ld 0 0 [.ref (eb E + t), i3 a] n (zf n) M (some (i3 o.1)) n (zf n) o.2) (o_t : ob n t 1) (hf : fn_X1_one_F fL fA fO t a1 M = some o) : CT E l yX1_one cX1_one 4 (some .boolean) fz lz 0 0 [.ref (eb E + t), i3 a1] n (zf n) M (some (i3 o.1)) n (zf n) o.2 := by
  refine CT_of PN_RX1 (Nat.le_of_ble_eq_true rfl) ?_
  intro p e s m args below meth c C hH ls hl
  replace C : Cx E p s m args meth c cX1_one 4 RX1 (some .boolean) n "one" := C
  have hl : lv_has ls 4 [(0, .ref (eb E + t)), (1, i3 a1)] := hl
  unfold fn_X1_one_F at hf
  refine lv_aload_n C.hx C.hb dX1_one_0 rfl (lv_at hl 0 rfl) ?_
  refine g_ref (off := 6) C hH o_t (by decide) rfl rfl FL_RX1_21 dX1_one_1 ?_
  refine g_int C hH (ly (i := 1) (off := 6) (k := 8) hn o_t rfl rfl rfl) (by decide) rfl FL_RX1_43 dX1_one_4 ?_
  refine r_nm hf (fun v2_7 hf => ?_)
  refine lv_istore_n (lv' := [(2, i3 v2_7), (0, .ref (eb E + t)), (1, i3 a1)]) C.hx C.hb dX1_one_7 rfl hl (by decide) rfl (fun ls hl => ?_)
  refine lv_iload_n C.hx C.hb dX1_one_8 rfl (lv_at hl 0 rfl) ?_
  refine lv_iconst (v := Int32.ofInt 2) C.hx C.hb dX1_one_9 rfl ?_
  refine w_ne (tgt := 48) C hf dX1_one_10 (by decide) (fun hf => ?_) (fun hf => ?_)
  · refine lv_iload_n C.hx C.hb dX1_one_48 rfl (lv_at hl 0 rfl) ?_
    refine lv_bipush (v := Int32.ofInt 13) C.hx C.hb dX1_one_49 (by decide) ?_
    refine lv_bipush (v := Int32.ofInt 19) C.hx C.hb dX1_one_51 (by decide) ?_
    obtain ⟨x53, hc9, hf⟩ := cu_of hf
    refine r_callSNi (rest := []) C hH hl (m_X10_isWithin hn hc9) MN_RX1_61 MF_X10_isWithin MS_X10_isWithin rfl rfl (Nat.le_of_ble_eq_true rfl) ⟨by show _ ≤ fz; omega, by show _ ≤ lz; omega⟩ ⟨Nat.le_refl _, Nat.le_refl _⟩ dX1_one_53 (fun H locs hH => ?_)
    refine w_eq0 (tgt := 76) C hf dX1_one_56 (by decide) (fun hf => ?_) (fun hf => ?_)
    · refine lv_iload_n C.hx C.hb dX1_one_76 rfl (lv_at hl 0 rfl) ?_
      refine lv_bipush (v := Int32.ofInt 30) C.hx C.hb dX1_one_77 (by decide) ?_
      refine w_ne (tgt := 116) C hf dX1_one_79 (by decide) (fun hf => ?_) (fun hf => ?_)
      · refine lv_iload_n C.hx C.hb dX1_one_116 rfl (lv_at hl 0 rfl) ?_
        refine lv_bipush (v := Int32.ofInt 27) C.hx C.hb dX1_one_117 (by decide) ?_
        refine w_ne (tgt := 158) C hf dX1_one_119 (by decide) (fun hf => ?_) (fun hf => ?_)
        · refine lv_aload_n C.hx C.hb dX1_one_158 rfl (lv_at hl 1 rfl) ?_
          refine lv_iconst (v := Int32.ofInt 1) C.hx C.hb dX1_one_159 rfl ?_
          obtain ⟨x160, M160, hc9, hf⟩ := cl_of hf
          refine r_callVi (rest := []) C hH hl o_t (by decide) rfl (m_X1_refuse hn o_t hc9) ML_RX1_51 MF_X1_refuse MI_X1_refuse rfl rfl (Nat.le_of_ble_eq_true rfl) ⟨by show _ ≤ fz; omega, by show _ ≤ lz; omega⟩ ⟨Nat.le_refl _, Nat.le_refl _⟩ dX1_one_160 (fun H locs hH => ?_)
          obtain ⟨hB9, hf⟩ := ck_of hf
          cases hf
          exact w_zret C hH hB9 dX1_one_163
        · refine lv_aload_n C.hx C.hb dX1_one_122 rfl (lv_at hl 1 rfl) ?_
          refine lv_iload_n C.hx C.hb dX1_one_123 rfl (lv_at hl 2 rfl) ?_
          obtain ⟨x124, M124, hc9, hf⟩ := cl_of hf
          refine r_callVi (rest := []) C hH hl o_t (by decide) rfl (m_X1_opens hn o_t hc9) ML_RX1_113 MF_X1_opens MI_X1_opens rfl rfl (Nat.le_of_ble_eq_true rfl) ⟨by show _ ≤ fz; omega, by show _ ≤ lz; omega⟩ ⟨Nat.le_refl _, Nat.le_refl _⟩ dX1_one_124 (fun H locs hH => ?_)
          refine w_eq0 (tgt := 156) C hf dX1_one_127 (by decide) (fun hf => ?_) (fun hf => ?_)
          · exact j_X1_one_156 C hn hz hfL hfA hfO hf hH (lv_sub hl [] rfl)
          · refine lv_aload_n C.hx C.hb dX1_one_130 rfl (lv_at hl 1 rfl) ?_
            refine lv_iload_n C.hx C.hb dX1_one_131 rfl (lv_at hl 2 rfl) ?_
            refine lv_iconst (v := Int32.ofInt 1) C.hx C.hb dX1_one_132 rfl ?_
            refine w_iadd C dX1_one_133 ?_
            obtain ⟨x134, M134, hc9, hf⟩ := cl_of hf
            refine r_callVi (rest := []) C hH hl o_t (by decide) rfl (hfO o_t hc9) ML_RX1_104 MF_X1_one MI_X1_one rfl rfl (Nat.le_of_ble_eq_true rfl) ⟨by show _ ≤ fz; omega, by show _ ≤ lz; omega⟩ ⟨Nat.le_refl _, Nat.le_refl _⟩ dX1_one_134 (fun H locs hH => ?_)
            refine w_eq0 (tgt := 156) C hf dX1_one_137 (by decide) (fun hf => ?_) (fun hf => ?_)
            · exact j_X1_one_156 C hn hz hfL hfA hfO hf hH (lv_sub hl [] rfl)
            · refine lv_aload_n C.hx C.hb dX1_one_140 rfl (lv_at hl 1 rfl) ?_
              refine g_ref (off := 1) C hH o_t (by decide) rfl rfl FL_RX1_12 dX1_one_141 ?_
              refine lv_bipush (v := Int32.ofInt (-33)) C.hx C.hb dX1_one_144 (by decide) ?_
              obtain ⟨x146, M146, hc9, hf⟩ := cl_of hf
              refine r_callVi (rest := []) C hH hl (ly (i := 0) (off := 1) (k := 7) hn o_t rfl rfl rfl) (by decide) rfl (m_X7_put hn (ly (i := 0) (off := 1) (k := 7) hn o_t rfl rfl rfl) hc9) ML_RX1_110 MF_X7_put MI_X7_put rfl rfl (Nat.le_of_ble_eq_true rfl) ⟨by show _ ≤ fz; omega, by show _ ≤ lz; omega⟩ ⟨Nat.le_refl _, Nat.le_refl _⟩ dX1_one_146 (fun H locs hH => ?_)
              refine w_eq0 (tgt := 156) C hf dX1_one_149 (by decide) (fun hf => ?_) (fun hf => ?_)
              · exact j_X1_one_156 C hn hz hfL hfA hfO hf hH (lv_sub hl [] rfl)
              · refine lv_iconst (v := Int32.ofInt 1) C.hx C.hb dX1_one_152 rfl ?_
                refine lv_goto (tgt := 157) C.hx C.hb dX1_one_153 (by decide) ?_
                cases hf
                exact w_zret C hH (Or.inr rfl) dX1_one_157
      · refine lv_aload_n C.hx C.hb dX1_one_82 rfl (lv_at hl 1 rfl) ?_
        refine lv_iload_n C.hx C.hb dX1_one_83 rfl (lv_at hl 2 rfl) ?_
        obtain ⟨x84, M84, hc9, hf⟩ := cl_of hf
        refine r_callVi (rest := []) C hH hl o_t (by decide) rfl (m_X1_opens hn o_t hc9) ML_RX1_113 MF_X1_opens MI_X1_opens rfl rfl (Nat.le_of_ble_eq_true rfl) ⟨by show _ ≤ fz; omega, by show _ ≤ lz; omega⟩ ⟨Nat.le_refl _, Nat.le_refl _⟩ dX1_one_84 (fun H locs hH => ?_)
        refine w_eq0 (tgt := 114) C hf dX1_one_87 (by decide) (fun hf => ?_) (fun hf => ?_)
        · exact j_X1_one_114 C hn hz hfL hfA hfO hf hH (lv_sub hl [] rfl)
        · refine lv_aload_n C.hx C.hb dX1_one_90 rfl (lv_at hl 1 rfl) ?_
          refine lv_iconst (v := Int32.ofInt 3) C.hx C.hb dX1_one_91 rfl ?_
          refine lv_iload_n C.hx C.hb dX1_one_92 rfl (lv_at hl 2 rfl) ?_
          refine lv_iconst (v := Int32.ofInt 1) C.hx C.hb dX1_one_93 rfl ?_
          refine w_iadd C dX1_one_94 ?_
          obtain ⟨x95, M95, hc9, hf⟩ := cl_of hf
          refine r_callVi (rest := []) C hH hl o_t (by decide) rfl (hfL o_t hc9) ML_RX1_86 MF_X1_level MI_X1_level rfl rfl (Nat.le_of_ble_eq_true rfl) ⟨by show _ ≤ fz; omega, by show _ ≤ lz; omega⟩ ⟨Nat.le_refl _, Nat.le_refl _⟩ dX1_one_95 (fun H locs hH => ?_)
          refine w_eq0 (tgt := 114) C hf dX1_one_98 (by decide) (fun hf => ?_) (fun hf => ?_)
          · exact j_X1_one_114 C hn hz hfL hfA hfO hf hH (lv_sub hl [] rfl)
          · refine lv_aload_n C.hx C.hb dX1_one_101 rfl (lv_at hl 1 rfl) ?_
            refine lv_bipush (v := Int32.ofInt 31) C.hx C.hb dX1_one_102 (by decide) ?_
            obtain ⟨x104, M104, hc9, hf⟩ := cl_of hf
            refine r_callVi (rest := []) C hH hl o_t (by decide) rfl (m_X1_pass hn o_t hc9) ML_RX1_80 MF_X1_pass MI_X1_pass rfl rfl (Nat.le_of_ble_eq_true rfl) ⟨by show _ ≤ fz; omega, by show _ ≤ lz; omega⟩ ⟨Nat.le_refl _, Nat.le_refl _⟩ dX1_one_104 (fun H locs hH => ?_)
            refine w_eq0 (tgt := 114) C hf dX1_one_107 (by decide) (fun hf => ?_) (fun hf => ?_)
            · exact j_X1_one_114 C hn hz hfL hfA hfO hf hH (lv_sub hl [] rfl)
            · refine lv_iconst (v := Int32.ofInt 1) C.hx C.hb dX1_one_110 rfl ?_
              refine lv_goto (tgt := 115) C.hx C.hb dX1_one_111 (by decide) ?_
              cases hf
              exact w_zret C hH (Or.inr rfl) dX1_one_115
    · refine lv_aload_n C.hx C.hb dX1_one_59 rfl (lv_at hl 1 rfl) ?_
      refine g_ref (off := 6) C hH o_t (by decide) rfl rfl FL_RX1_21 dX1_one_60 ?_
      obtain ⟨M63, hc9, hf⟩ := cv_of hf
      refine r_callVv (rest := []) C hH hl (ly (i := 1) (off := 6) (k := 8) hn o_t rfl rfl rfl) (by decide) rfl (m_X8_next hn (ly (i := 1) (off := 6) (k := 8) hn o_t rfl rfl rfl) hc9) ML_RX1_55 MF_X8_next MI_X8_next rfl rfl (Nat.le_of_ble_eq_true rfl) ⟨by show _ ≤ fz; omega, by show _ ≤ lz; omega⟩ ⟨Nat.le_refl _, Nat.le_refl _⟩ dX1_one_63 (fun H locs hH => ?_)
      refine lv_aload_n C.hx C.hb dX1_one_66 rfl (lv_at hl 1 rfl) ?_
      refine g_ref (off := 1) C hH o_t (by decide) rfl rfl FL_RX1_12 dX1_one_67 ?_
      refine lv_iload_n C.hx C.hb dX1_one_70 rfl (lv_at hl 0 rfl) ?_
      refine w_ineg C dX1_one_71 ?_
      obtain ⟨x72, M72, hc9, hf⟩ := cl_of hf
      refine r_callVi (rest := []) C hH hl (ly (i := 0) (off := 1) (k := 7) hn o_t rfl rfl rfl) (by decide) rfl (m_X7_put hn (ly (i := 0) (off := 1) (k := 7) hn o_t rfl rfl rfl) hc9) ML_RX1_110 MF_X7_put MI_X7_put rfl rfl (Nat.le_of_ble_eq_true rfl) ⟨by show _ ≤ fz; omega, by show _ ≤ lz; omega⟩ ⟨Nat.le_refl _, Nat.le_refl _⟩ dX1_one_72 (fun H locs hH => ?_)
      obtain ⟨hB9, hf⟩ := ck_of hf
      cases hf
      exact w_zret C hH hB9 dX1_one_75
  · refine lv_aload_n C.hx C.hb dX1_one_13 rfl (lv_at hl 1 rfl) ?_
    refine g_ref (off := 6) C hH o_t (by decide) rfl rfl FL_RX1_21 dX1_one_14 ?_
    refine g_int C hH (ly (i := 1) (off := 6) (k := 8) hn o_t rfl rfl rfl) (by decide) rfl FL_RX1_58 dX1_one_17 ?_
    refine r_nm hf (fun v3_20 hf => ?_)
    refine lv_istore_n (lv' := [(3, i3 v3_20), (2, i3 v2_7), (0, .ref (eb E + t)), (1, i3 a1)]) C.hx C.hb dX1_one_20 rfl hl (by decide) rfl (fun ls hl => ?_)
    refine lv_aload_n C.hx C.hb dX1_one_21 rfl (lv_at hl 2 rfl) ?_
    refine lv_sipush (v := Int32.ofInt 9999) C.hx C.hb dX1_one_22 (by decide) ?_
    obtain ⟨x25, M25, hc9, hf⟩ := cl_of hf
    refine r_callVi (rest := []) C hH hl o_t (by decide) rfl (m_X1_number hn o_t hc9) ML_RX1_94 MF_X1_number MI_X1_number rfl rfl (Nat.le_of_ble_eq_true rfl) ⟨by show _ ≤ fz; omega, by show _ ≤ lz; omega⟩ ⟨Nat.le_refl _, Nat.le_refl _⟩ dX1_one_25 (fun H locs hH => ?_)
    refine w_eq0 (tgt := 46) C hf dX1_one_28 (by decide) (fun hf => ?_) (fun hf => ?_)
    · exact j_X1_one_46 C hn hz hfL hfA hfO hf hH (lv_sub hl [] rfl)
    · refine lv_aload_n C.hx C.hb dX1_one_31 rfl (lv_at hl 2 rfl) ?_
      refine g_ref (off := 1) C hH o_t (by decide) rfl rfl FL_RX1_12 dX1_one_32 ?_
      refine lv_iload_n C.hx C.hb dX1_one_35 rfl (lv_at hl 0 rfl) ?_
      obtain ⟨x36, M36, hc9, hf⟩ := cl_of hf
      refine r_callVi (rest := []) C hH hl (ly (i := 0) (off := 1) (k := 7) hn o_t rfl rfl rfl) (by decide) rfl (m_X7_put hn (ly (i := 0) (off := 1) (k := 7) hn o_t rfl rfl rfl) hc9) ML_RX1_110 MF_X7_put MI_X7_put rfl rfl (Nat.le_of_ble_eq_true rfl) ⟨by show _ ≤ fz; omega, by show _ ≤ lz; omega⟩ ⟨Nat.le_refl _, Nat.le_refl _⟩ dX1_one_36 (fun H locs hH => ?_)
      refine w_eq0 (tgt := 46) C hf dX1_one_39 (by decide) (fun hf => ?_) (fun hf => ?_)
      · exact j_X1_one_46 C hn hz hfL hfA hfO hf hH (lv_sub hl [] rfl)
      · refine lv_iconst (v := Int32.ofInt 1) C.hx C.hb dX1_one_42 rfl ?_
        refine lv_goto (tgt := 47) C.hx C.hb dX1_one_43 (by decide) ?_
        cases hf
        exact w_zret C hH (Or.inr rfl) dX1_one_47
-- HeavierByHand$Reader.isSignOf
def fn_X1_isSignOf_J72 : Option Int :=
  some 1
def fn_X1_isSignOf_J90 : Option Int :=
  some 1
def fn_X1_isSignOf (a0 : Int) (a1 : Int) (M : Mem) : Option Int :=
  ck (R3 a0) <| if a0 = 0 then (cEq a1 10 (some 1) (some 0)) else if a0 = 1 then (cEq a1 11 (some 1) (some 0)) else if a0 = 3 then (cEq a1 26 (fn_X1_isSignOf_J72) (cEq a1 27 (fn_X1_isSignOf_J72) (some 0))) else if a0 = 4 then (cEq a1 28 (fn_X1_isSignOf_J90) (cEq a1 29 (fn_X1_isSignOf_J90) (some 0))) else some 0
set_option maxRecDepth 100000 in
set_option maxHeartbeats 4000000 in
theorem j_X1_isSignOf_72 {p : Program} {l : Launch} {e : Env} {s : State} {m : MethodId} {args : Array Value} {below : List Frame} {meth : Method} {c : Code} {E : EE} {n : Nat} {o : Int} {M : Mem} {H : Heap} {locs : List Loc} {ls : Array Slot} (C : Cx E p s m args meth c cX1_isSignOf 2 RX1 (some .boolean) n "isSignOf") (hn : nfull n) (hf : fn_X1_isSignOf_J72 = some o) (hH : ST E s n (zf n) M H locs) (hl : lv_has ls 2 []) : W p l e { frames := 0, cells := 0, slots := 0, locals := 0 } s m args below meth c H locs 0 0 (MQ below (QC E (some (i3 o)) n (zf n) M) args s 0 0 (fr E)) (F0 m 72 ls []) := by
  unfold fn_X1_isSignOf_J72 at hf
  refine lv_iconst (v := Int32.ofInt 1) C.hx C.hb dX1_isSignOf_72 rfl ?_
  refine lv_goto (tgt := 77) C.hx C.hb dX1_isSignOf_73 (by decide) ?_
  cases hf
  exact w_zret C hH (Or.inr rfl) dX1_isSignOf_77
set_option maxRecDepth 100000 in
set_option maxHeartbeats 4000000 in
theorem j_X1_isSignOf_90 {p : Program} {l : Launch} {e : Env} {s : State} {m : MethodId} {args : Array Value} {below : List Frame} {meth : Method} {c : Code} {E : EE} {n : Nat} {o : Int} {M : Mem} {H : Heap} {locs : List Loc} {ls : Array Slot} (C : Cx E p s m args meth c cX1_isSignOf 2 RX1 (some .boolean) n "isSignOf") (hn : nfull n) (hf : fn_X1_isSignOf_J90 = some o) (hH : ST E s n (zf n) M H locs) (hl : lv_has ls 2 []) : W p l e { frames := 0, cells := 0, slots := 0, locals := 0 } s m args below meth c H locs 0 0 (MQ below (QC E (some (i3 o)) n (zf n) M) args s 0 0 (fr E)) (F0 m 90 ls []) := by
  unfold fn_X1_isSignOf_J90 at hf
  refine lv_iconst (v := Int32.ofInt 1) C.hx C.hb dX1_isSignOf_90 rfl ?_
  refine lv_goto (tgt := 95) C.hx C.hb dX1_isSignOf_91 (by decide) ?_
  cases hf
  exact w_zret C hH (Or.inr rfl) dX1_isSignOf_95
set_option maxRecDepth 100000 in
set_option maxHeartbeats 4000000 in
theorem m_X1_isSignOf {E : EE} {l : Launch} {n : Nat} {a0 : Int} {a1 : Int} {M : Mem} {o : Int} (hn : nfull n) (hf : fn_X1_isSignOf a0 a1 M = some o) : CT E l yX1_isSignOf cX1_isSignOf 2 (some .boolean) 0 0 0 0 [i3 a0, i3 a1] n (zf n) M (some (i3 o)) n (zf n) M := by
  refine CT_of PN_RX1 (Nat.le_of_ble_eq_true rfl) ?_
  intro p e s m args below meth c C hH ls hl
  replace C : Cx E p s m args meth c cX1_isSignOf 2 RX1 (some .boolean) n "isSignOf" := C
  have hl : lv_has ls 2 [(0, i3 a0), (1, i3 a1)] := hl
  unfold fn_X1_isSignOf at hf
  refine lv_iload_n C.hx C.hb dX1_isSignOf_0 rfl (lv_at hl 0 rfl) ?_
  obtain ⟨hR9, hf⟩ := ck_of hf
  by_cases e0 : a0 = 0
  · rw [if_pos e0] at hf
    refine r_tab (tgt := 36) C e0 ⟨by decide, by decide⟩ dX1_isSignOf_1 (by decide) (by decide) rfl (by decide) ?_
    refine lv_iload_n C.hx C.hb dX1_isSignOf_36 rfl (lv_at hl 1 rfl) ?_
    refine lv_bipush (v := Int32.ofInt 10) C.hx C.hb dX1_isSignOf_37 (by decide) ?_
    refine w_ne (tgt := 46) C hf dX1_isSignOf_39 (by decide) (fun hf => ?_) (fun hf => ?_)
    · refine lv_iconst (v := Int32.ofInt 0) C.hx C.hb dX1_isSignOf_46 rfl ?_
      cases hf
      exact w_zret C hH (Or.inl rfl) dX1_isSignOf_47
    · refine lv_iconst (v := Int32.ofInt 1) C.hx C.hb dX1_isSignOf_42 rfl ?_
      refine lv_goto (tgt := 47) C.hx C.hb dX1_isSignOf_43 (by decide) ?_
      cases hf
      exact w_zret C hH (Or.inr rfl) dX1_isSignOf_47
  · rw [if_neg e0] at hf
    by_cases e1 : a0 = 1
    · rw [if_pos e1] at hf
      refine r_tab (tgt := 48) C e1 ⟨by decide, by decide⟩ dX1_isSignOf_1 (by decide) (by decide) rfl (by decide) ?_
      refine lv_iload_n C.hx C.hb dX1_isSignOf_48 rfl (lv_at hl 1 rfl) ?_
      refine lv_bipush (v := Int32.ofInt 11) C.hx C.hb dX1_isSignOf_49 (by decide) ?_
      refine w_ne (tgt := 58) C hf dX1_isSignOf_51 (by decide) (fun hf => ?_) (fun hf => ?_)
      · refine lv_iconst (v := Int32.ofInt 0) C.hx C.hb dX1_isSignOf_58 rfl ?_
        cases hf
        exact w_zret C hH (Or.inl rfl) dX1_isSignOf_59
      · refine lv_iconst (v := Int32.ofInt 1) C.hx C.hb dX1_isSignOf_54 rfl ?_
        refine lv_goto (tgt := 59) C.hx C.hb dX1_isSignOf_55 (by decide) ?_
        cases hf
        exact w_zret C hH (Or.inr rfl) dX1_isSignOf_59
    · rw [if_neg e1] at hf
      by_cases e2 : a0 = 3
      · rw [if_pos e2] at hf
        refine r_tab (tgt := 60) C e2 ⟨by decide, by decide⟩ dX1_isSignOf_1 (by decide) (by decide) rfl (by decide) ?_
        refine lv_iload_n C.hx C.hb dX1_isSignOf_60 rfl (lv_at hl 1 rfl) ?_
        refine lv_bipush (v := Int32.ofInt 26) C.hx C.hb dX1_isSignOf_61 (by decide) ?_
        refine w_eq (tgt := 72) C hf dX1_isSignOf_63 (by decide) (fun hf => ?_) (fun hf => ?_)
        · exact j_X1_isSignOf_72 C hn hf hH (lv_sub hl [] rfl)
        · refine lv_iload_n C.hx C.hb dX1_isSignOf_66 rfl (lv_at hl 1 rfl) ?_
          refine lv_bipush (v := Int32.ofInt 27) C.hx C.hb dX1_isSignOf_67 (by decide) ?_
          refine w_ne (tgt := 76) C hf dX1_isSignOf_69 (by decide) (fun hf => ?_) (fun hf => ?_)
          · refine lv_iconst (v := Int32.ofInt 0) C.hx C.hb dX1_isSignOf_76 rfl ?_
            cases hf
            exact w_zret C hH (Or.inl rfl) dX1_isSignOf_77
          · exact j_X1_isSignOf_72 C hn hf hH (lv_sub hl [] rfl)
      · rw [if_neg e2] at hf
        by_cases e3 : a0 = 4
        · rw [if_pos e3] at hf
          refine r_tab (tgt := 78) C e3 ⟨by decide, by decide⟩ dX1_isSignOf_1 (by decide) (by decide) rfl (by decide) ?_
          refine lv_iload_n C.hx C.hb dX1_isSignOf_78 rfl (lv_at hl 1 rfl) ?_
          refine lv_bipush (v := Int32.ofInt 28) C.hx C.hb dX1_isSignOf_79 (by decide) ?_
          refine w_eq (tgt := 90) C hf dX1_isSignOf_81 (by decide) (fun hf => ?_) (fun hf => ?_)
          · exact j_X1_isSignOf_90 C hn hf hH (lv_sub hl [] rfl)
          · refine lv_iload_n C.hx C.hb dX1_isSignOf_84 rfl (lv_at hl 1 rfl) ?_
            refine lv_bipush (v := Int32.ofInt 29) C.hx C.hb dX1_isSignOf_85 (by decide) ?_
            refine w_ne (tgt := 94) C hf dX1_isSignOf_87 (by decide) (fun hf => ?_) (fun hf => ?_)
            · refine lv_iconst (v := Int32.ofInt 0) C.hx C.hb dX1_isSignOf_94 rfl ?_
              cases hf
              exact w_zret C hH (Or.inl rfl) dX1_isSignOf_95
            · exact j_X1_isSignOf_90 C hn hf hH (lv_sub hl [] rfl)
        · rw [if_neg e3] at hf
          by_cases f0 : a0 = 2
          · refine r_tab (tgt := 96) C f0 ⟨by decide, by decide⟩ dX1_isSignOf_1 (by decide) (by decide) rfl (by decide) ?_
            refine lv_iconst (v := Int32.ofInt 0) C.hx C.hb dX1_isSignOf_96 rfl ?_
            cases hf
            exact w_zret C hH (Or.inl rfl) dX1_isSignOf_97
          · skip
            refine r_tabO (tgt := 96) C hR9 dX1_isSignOf_1 (by omega) (by decide) ?_
            refine lv_iconst (v := Int32.ofInt 0) C.hx C.hb dX1_isSignOf_96 rfl ?_
            cases hf
            exact w_zret C hH (Or.inl rfl) dX1_isSignOf_97
-- HeavierByHand$Reader.level
def fn_X1_level_L37 (fL : Nat → Int → Int → Mem → Option (Int × Mem)) (t : Nat) (a1 : Int) (a2 : Int) (rec37 : Int → Mem → Option (Int × Mem)) (v3_37 : Int) (M37 : Mem) : Option (Int × Mem) :=
  cLt v3_37 300 (cu (fn_X1_isSignOf a1 (M37 (t + 6) 7) M37) fun x52 => cEq x52 0 (some (1, M37)) (nm ((M37 (t + 6) 7)) fun v4_65 => cv (fn_X8_next (t + 6) M37) fun M71 => cl (fL t (a1 + 1) a2 M71) fun x79 M79 => cEq x79 0 (some (0, M79)) (cl (fn_X7_put (t + 1) (-v4_65) M79) fun x94 M94 => nm (v3_37 + 1) fun v3_98 => rec37 v3_98 M94))) (some (1, M37))
def fn_X1_level_F (fL : Nat → Int → Int → Mem → Option (Int × Mem)) (fA : Nat → Int → Mem → Option (Int × Mem)) (fO : Nat → Int → Mem → Option (Int × Mem)) (t : Nat) (a1 : Int) (a2 : Int) (M : Mem) : Option (Int × Mem) :=
  cEq a1 2 (cl (fA t a2 M) fun x7 M7 => ck (x7 = 0 ∨ x7 = 1) (some (x7, M7))) (cLt a1 5 (cl (fL t (a1 + 1) a2 M) fun x27 M27 => cEq x27 0 (some (0, M27)) (lq2 (fn_X1_level_L37 fL t a1 a2) FU 0 M27)) (cl (fO t a2 M) fun x18 M18 => ck (x18 = 0 ∨ x18 = 1) (some (x18, M18))))
set_option maxRecDepth 100000 in
set_option maxHeartbeats 4000000 in
theorem l_X1_level_37 {p : Program} {l : Launch} {e : Env} {s : State} {m : MethodId} {args : Array Value} {below : List Frame} {meth : Method} {c : Code} {E : EE} {n : Nat} {o : (Int × Mem)} {fz lz fd ld : Nat} {fL : Nat → Int → Int → Mem → Option (Int × Mem)} {fA : Nat → Int → Mem → Option (Int × Mem)} {fO : Nat → Int → Mem → Option (Int × Mem)} {t : Nat} {a1 : Int} {a2 : Int} (C : Cx E p s m args meth c cX1_level 5 RX1 (some .boolean) n "level") (hn : nfull n) (hz : fd + 1 ≤ fz ∧ ld + 40 ≤ lz ∧ 8 ≤ fz ∧ 300 ≤ lz) (hfL : ∀ {t : Nat} {a b : Int} {M : Mem} {o : (Int × Mem)}, ob n t 1 → fL t a b M = some o → CT E l yX1_level cX1_level 5 (some .boolean) fd ld 0 0 [.ref (eb E + t), i3 a, i3 b] n (zf n) M (some (i3 o.1)) n (zf n) o.2) (hfA : ∀ {t : Nat} {a : Int} {M : Mem} {o : (Int × Mem)}, ob n t 1 → fA t a M = some o → CT E l yX1_ask cX1_ask 3 (some .boolean) fd ld 0 0 [.ref (eb E + t), i3 a] n (zf n) M (some (i3 o.1)) n (zf n) o.2) (hfO : ∀ {t : Nat} {a : Int} {M : Mem} {o : (Int × Mem)}, ob n t 1 → fO t a M = some o → CT E l yX1_one cX1_one 4 (some .boolean) fd ld 0 0 [.ref (eb E + t), i3 a] n (zf n) M (some (i3 o.1)) n (zf n) o.2) (o_t : ob n t 1) : ∀ (k : Nat) (v3_37 : Int) (M37 : Mem) (H : Heap) (locs : List Loc) (ls : Array Slot), lq2 (fn_X1_level_L37 fL t a1 a2) k v3_37 M37 = some o → ST E s n (zf n) M37 H locs → lv_has ls 5 [(0, .ref (eb E + t)), (1, i3 a1), (2, i3 a2), (3, i3 v3_37)] → W p l e { frames := fz, cells := 0, slots := 0, locals := lz } s m args below meth c H locs 0 0 (MQ below (QC E (some (i3 o.1)) n (zf n) o.2) args s 0 0 (fr E)) (F0 m 37 ls []) := by
  intro k
  induction k with
  | zero => intro v3_37 M37 H locs ls hf; cases hf
  | succ k ih =>
    intro v3_37 M37 H locs ls hf hH hl
    have h_rec37 : ∀ {v3_37 : Int} {M37 : Mem} {H : Heap} {locs : List Loc} {ls : Array Slot}, lq2 (fn_X1_level_L37 fL t a1 a2) k v3_37 M37 = some o → ST E s n (zf n) M37 H locs → lv_has ls 5 [(0, .ref (eb E + t)), (1, i3 a1), (2, i3 a2), (3, i3 v3_37)] → W p l e { frames := fz, cells := 0, slots := 0, locals := lz } s m args below meth c H locs 0 0 (MQ below (QC E (some (i3 o.1)) n (zf n) o.2) args s 0 0 (fr E)) (F0 m 37 ls []) := fun {v3_37} {M37} {H} {locs} {ls} a b c => ih v3_37 M37 H locs ls a b c
    replace hf : fn_X1_level_L37 fL t a1 a2 (lq2 (fn_X1_level_L37 fL t a1 a2) k) v3_37 M37 = some o := hf
    generalize lq2 (fn_X1_level_L37 fL t a1 a2) k = rec37 at hf h_rec37
    unfold fn_X1_level_L37 at hf
    refine lv_iload_n C.hx C.hb dX1_level_37 rfl (lv_at hl 3 rfl) ?_
    refine lv_sipush (v := Int32.ofInt 300) C.hx C.hb dX1_level_38 (by decide) ?_
    refine w_ge (tgt := 104) C hf dX1_level_41 (by decide) (fun hf => ?_) (fun hf => ?_)
    · refine lv_iconst (v := Int32.ofInt 1) C.hx C.hb dX1_level_104 rfl ?_
      cases hf
      exact w_zret C hH (Or.inr rfl) dX1_level_105
    · refine lv_iload_n C.hx C.hb dX1_level_44 rfl (lv_at hl 1 rfl) ?_
      refine lv_aload_n C.hx C.hb dX1_level_45 rfl (lv_at hl 0 rfl) ?_
      refine g_ref (off := 6) C hH o_t (by decide) rfl rfl FL_RX1_21 dX1_level_46 ?_
      refine g_int C hH (ly (i := 1) (off := 6) (k := 8) hn o_t rfl rfl rfl) (by decide) rfl FL_RX1_43 dX1_level_49 ?_
      obtain ⟨x52, hc9, hf⟩ := cu_of hf
      refine r_callSi (rest := []) C hH hl (m_X1_isSignOf hn hc9) ML_RX1_107 MF_X1_isSignOf MS_X1_isSignOf rfl rfl (Nat.le_of_ble_eq_true rfl) ⟨by show _ ≤ fz; omega, by show _ ≤ lz; omega⟩ ⟨Nat.le_refl _, Nat.le_refl _⟩ dX1_level_52 (fun H locs hH => ?_)
      refine w_eq0 (tgt := 104) C hf dX1_level_55 (by decide) (fun hf => ?_) (fun hf => ?_)
      · refine lv_iconst (v := Int32.ofInt 1) C.hx C.hb dX1_level_104 rfl ?_
        cases hf
        exact w_zret C hH (Or.inr rfl) dX1_level_105
      · refine lv_aload_n C.hx C.hb dX1_level_58 rfl (lv_at hl 0 rfl) ?_
        refine g_ref (off := 6) C hH o_t (by decide) rfl rfl FL_RX1_21 dX1_level_59 ?_
        refine g_int C hH (ly (i := 1) (off := 6) (k := 8) hn o_t rfl rfl rfl) (by decide) rfl FL_RX1_43 dX1_level_62 ?_
        refine r_nm hf (fun v4_65 hf => ?_)
        refine lv_istore (lv' := [(4, i3 v4_65), (0, .ref (eb E + t)), (1, i3 a1), (2, i3 a2), (3, i3 v3_37)]) C.hx C.hb dX1_level_65 hl (by decide) rfl (fun ls hl => ?_)
        refine lv_aload_n C.hx C.hb dX1_level_67 rfl (lv_at hl 1 rfl) ?_
        refine g_ref (off := 6) C hH o_t (by decide) rfl rfl FL_RX1_21 dX1_level_68 ?_
        obtain ⟨M71, hc9, hf⟩ := cv_of hf
        refine r_callVv (rest := []) C hH hl (ly (i := 1) (off := 6) (k := 8) hn o_t rfl rfl rfl) (by decide) rfl (m_X8_next hn (ly (i := 1) (off := 6) (k := 8) hn o_t rfl rfl rfl) hc9) ML_RX1_55 MF_X8_next MI_X8_next rfl rfl (Nat.le_of_ble_eq_true rfl) ⟨by show _ ≤ fz; omega, by show _ ≤ lz; omega⟩ ⟨Nat.le_refl _, Nat.le_refl _⟩ dX1_level_71 (fun H locs hH => ?_)
        refine lv_aload_n C.hx C.hb dX1_level_74 rfl (lv_at hl 1 rfl) ?_
        refine lv_iload_n C.hx C.hb dX1_level_75 rfl (lv_at hl 2 rfl) ?_
        refine lv_iconst (v := Int32.ofInt 1) C.hx C.hb dX1_level_76 rfl ?_
        refine w_iadd C dX1_level_77 ?_
        refine lv_iload_n C.hx C.hb dX1_level_78 rfl (lv_at hl 3 rfl) ?_
        obtain ⟨x79, M79, hc9, hf⟩ := cl_of hf
        refine r_callVi (rest := []) C hH hl o_t (by decide) rfl (hfL o_t hc9) ML_RX1_86 MF_X1_level MI_X1_level rfl rfl (Nat.le_of_ble_eq_true rfl) ⟨by show _ ≤ fz; omega, by show _ ≤ lz; omega⟩ ⟨Nat.le_refl _, Nat.le_refl _⟩ dX1_level_79 (fun H locs hH => ?_)
        refine w_ne0 (tgt := 87) C hf dX1_level_82 (by decide) (fun hf => ?_) (fun hf => ?_)
        · refine lv_aload_n C.hx C.hb dX1_level_87 rfl (lv_at hl 1 rfl) ?_
          refine g_ref (off := 1) C hH o_t (by decide) rfl rfl FL_RX1_12 dX1_level_88 ?_
          refine lv_iload C.hx C.hb dX1_level_91 (lv_at hl 0 rfl) ?_
          refine w_ineg C dX1_level_93 ?_
          obtain ⟨x94, M94, hc9, hf⟩ := cl_of hf
          refine r_callVi (rest := []) C hH hl (ly (i := 0) (off := 1) (k := 7) hn o_t rfl rfl rfl) (by decide) rfl (m_X7_put hn (ly (i := 0) (off := 1) (k := 7) hn o_t rfl rfl rfl) hc9) ML_RX1_110 MF_X7_put MI_X7_put rfl rfl (Nat.le_of_ble_eq_true rfl) ⟨by show _ ≤ fz; omega, by show _ ≤ lz; omega⟩ ⟨Nat.le_refl _, Nat.le_refl _⟩ dX1_level_94 (fun H locs hH => ?_)
          refine lv_pop C.hx C.hb dX1_level_97 rfl ?_
          refine r_iinc (k := 4) (lv' := fun v => [(3, i3 v), (4, i3 v4_65), (0, .ref (eb E + t)), (1, i3 a1), (2, i3 a2)]) C hf dX1_level_98 hl rfl (by decide) (fun _ => rfl) (fun v3_98 ls hf hl => ?_)
          refine lv_goto (tgt := 37) C.hx C.hb dX1_level_101 (by decide) ?_
          exact h_rec37 hf hH (lv_sub hl [2, 3, 4, 0] rfl)
        · refine lv_iconst (v := Int32.ofInt 0) C.hx C.hb dX1_level_85 rfl ?_
          cases hf
          exact w_zret C hH (Or.inl rfl) dX1_level_86
set_option maxRecDepth 100000 in
set_option maxHeartbeats 4000000 in
theorem m_X1_level_F {E : EE} {l : Launch} {n : Nat} {t : Nat} {a1 : Int} {a2 : Int} {M : Mem} {o : (Int × Mem)} {fz lz fd ld : Nat} {fL : Nat → Int → Int → Mem → Option (Int × Mem)} {fA : Nat → Int → Mem → Option (Int × Mem)} {fO : Nat → Int → Mem → Option (Int × Mem)} (hn : nfull n) (hz : fd + 1 ≤ fz ∧ ld + 40 ≤ lz ∧ 8 ≤ fz ∧ 300 ≤ lz) (hfL : ∀ {t : Nat} {a b : Int} {M : Mem} {o : (Int × Mem)}, ob n t 1 → fL t a b M = some o → CT E l yX1_level cX1_level 5 (some .boolean) fd ld 0 0 [.ref (eb E + t), i3 a, i3 b] n (zf n) M (some (i3 o.1)) n (zf n) o.2) (hfA : ∀ {t : Nat} {a : Int} {M : Mem} {o : (Int × Mem)}, ob n t 1 → fA t a M = some o → CT E l yX1_ask cX1_ask 3 (some .boolean) fd ld 0 0 [.ref (eb E + t), i3 a] n (zf n) M (some (i3 o.1)) n (zf n) o.2) (hfO : ∀ {t : Nat} {a : Int} {M : Mem} {o : (Int × Mem)}, ob n t 1 → fO t a M = some o → CT E l yX1_one cX1_one 4 (some .boolean) fd ld 0 0 [.ref (eb E + t), i3 a] n (zf n) M (some (i3 o.1)) n (zf n) o.2) (o_t : ob n t 1) (hf : fn_X1_level_F fL fA fO t a1 a2 M = some o) : CT E l yX1_level cX1_level 5 (some .boolean) fz lz 0 0 [.ref (eb E + t), i3 a1, i3 a2] n (zf n) M (some (i3 o.1)) n (zf n) o.2 := by
  refine CT_of PN_RX1 (Nat.le_of_ble_eq_true rfl) ?_
  intro p e s m args below meth c C hH ls hl
  replace C : Cx E p s m args meth c cX1_level 5 RX1 (some .boolean) n "level" := C
  have hl : lv_has ls 5 [(0, .ref (eb E + t)), (1, i3 a1), (2, i3 a2)] := hl
  unfold fn_X1_level_F at hf
  refine lv_iload_n C.hx C.hb dX1_level_0 rfl (lv_at hl 1 rfl) ?_
  refine lv_iconst (v := Int32.ofInt 2) C.hx C.hb dX1_level_1 rfl ?_
  refine w_ne (tgt := 11) C hf dX1_level_2 (by decide) (fun hf => ?_) (fun hf => ?_)
  · refine lv_iload_n C.hx C.hb dX1_level_11 rfl (lv_at hl 1 rfl) ?_
    refine lv_iconst (v := Int32.ofInt 5) C.hx C.hb dX1_level_12 rfl ?_
    refine w_lt (tgt := 22) C hf dX1_level_13 (by decide) (fun hf => ?_) (fun hf => ?_)
    · refine lv_aload_n C.hx C.hb dX1_level_22 rfl (lv_at hl 0 rfl) ?_
      refine lv_iload_n C.hx C.hb dX1_level_23 rfl (lv_at hl 1 rfl) ?_
      refine lv_iconst (v := Int32.ofInt 1) C.hx C.hb dX1_level_24 rfl ?_
      refine w_iadd C dX1_level_25 ?_
      refine lv_iload_n C.hx C.hb dX1_level_26 rfl (lv_at hl 2 rfl) ?_
      obtain ⟨x27, M27, hc9, hf⟩ := cl_of hf
      refine r_callVi (rest := []) C hH hl o_t (by decide) rfl (hfL o_t hc9) ML_RX1_86 MF_X1_level MI_X1_level rfl rfl (Nat.le_of_ble_eq_true rfl) ⟨by show _ ≤ fz; omega, by show _ ≤ lz; omega⟩ ⟨Nat.le_refl _, Nat.le_refl _⟩ dX1_level_27 (fun H locs hH => ?_)
      refine w_ne0 (tgt := 35) C hf dX1_level_30 (by decide) (fun hf => ?_) (fun hf => ?_)
      · refine lv_iconst (v := Int32.ofInt 0) C.hx C.hb dX1_level_35 rfl ?_
        refine lv_istore_n (lv' := [(3, i3 0), (0, .ref (eb E + t)), (1, i3 a1), (2, i3 a2)]) C.hx C.hb dX1_level_36 rfl hl (by decide) rfl (fun ls hl => ?_)
        exact l_X1_level_37 C hn hz hfL hfA hfO o_t FU _ _ _ _ _ hf hH (lv_sub hl [1, 2, 3, 0] rfl)
      · refine lv_iconst (v := Int32.ofInt 0) C.hx C.hb dX1_level_33 rfl ?_
        cases hf
        exact w_zret C hH (Or.inl rfl) dX1_level_34
    · refine lv_aload_n C.hx C.hb dX1_level_16 rfl (lv_at hl 0 rfl) ?_
      refine lv_iload_n C.hx C.hb dX1_level_17 rfl (lv_at hl 2 rfl) ?_
      obtain ⟨x18, M18, hc9, hf⟩ := cl_of hf
      refine r_callVi (rest := []) C hH hl o_t (by decide) rfl (hfO o_t hc9) ML_RX1_104 MF_X1_one MI_X1_one rfl rfl (Nat.le_of_ble_eq_true rfl) ⟨by show _ ≤ fz; omega, by show _ ≤ lz; omega⟩ ⟨Nat.le_refl _, Nat.le_refl _⟩ dX1_level_18 (fun H locs hH => ?_)
      obtain ⟨hB9, hf⟩ := ck_of hf
      cases hf
      exact w_zret C hH hB9 dX1_level_21
  · refine lv_aload_n C.hx C.hb dX1_level_5 rfl (lv_at hl 0 rfl) ?_
    refine lv_iload_n C.hx C.hb dX1_level_6 rfl (lv_at hl 2 rfl) ?_
    obtain ⟨x7, M7, hc9, hf⟩ := cl_of hf
    refine r_callVi (rest := []) C hH hl o_t (by decide) rfl (hfA o_t hc9) ML_RX1_101 MF_X1_ask MI_X1_ask rfl rfl (Nat.le_of_ble_eq_true rfl) ⟨by show _ ≤ fz; omega, by show _ ≤ lz; omega⟩ ⟨Nat.le_refl _, Nat.le_refl _⟩ dX1_level_7 (fun H locs hH => ?_)
    obtain ⟨hB9, hf⟩ := ck_of hf
    cases hf
    exact w_zret C hH hB9 dX1_level_10
def fn_X1_rec : Nat → Nat → Nat → Int → Int → Mem → Option (Int × Mem)
  | 0, _, _, _, _, _ => none
  | d + 1, g, t, a, b, M => if g = 0 then fn_X1_level_F (fun t a b M => fn_X1_rec d 0 t a b M) (fun t a M => fn_X1_rec d 1 t a 0 M) (fun t a M => fn_X1_rec d 2 t a 0 M) t a b M
    else if g = 1 then fn_X1_ask_F (fun t a b M => fn_X1_rec d 0 t a b M) (fun t a M => fn_X1_rec d 1 t a 0 M) (fun t a M => fn_X1_rec d 2 t a 0 M) t a M
    else fn_X1_one_F (fun t a b M => fn_X1_rec d 0 t a b M) (fun t a M => fn_X1_rec d 1 t a 0 M) (fun t a M => fn_X1_rec d 2 t a 0 M) t a M
def fn_X1_level (t : Nat) (a b : Int) (M : Mem) : Option (Int × Mem) := fn_X1_rec 100 0 t a b M
def fn_X1_ask (t : Nat) (a : Int) (M : Mem) : Option (Int × Mem) := fn_X1_rec 100 1 t a 0 M
def fn_X1_one (t : Nat) (a : Int) (M : Mem) : Option (Int × Mem) := fn_X1_rec 100 2 t a 0 M
theorem m_X1_rec {E : EE} {l : Launch} {n : Nat} (hn : nfull n) : ∀ d : Nat,
    (∀ {t : Nat} {a b : Int} {M : Mem} {o : Int × Mem}, ob n t 1 → fn_X1_rec d 0 t a b M = some o → CT E l yX1_level cX1_level 5 (some .boolean) (d + 8) (40 * d + 300) 0 0 [.ref (eb E + t), i3 a, i3 b] n (zf n) M (some (i3 o.1)) n (zf n) o.2) ∧
    (∀ {t : Nat} {a : Int} {M : Mem} {o : Int × Mem}, ob n t 1 → fn_X1_rec d 1 t a 0 M = some o → CT E l yX1_ask cX1_ask 3 (some .boolean) (d + 8) (40 * d + 300) 0 0 [.ref (eb E + t), i3 a] n (zf n) M (some (i3 o.1)) n (zf n) o.2) ∧
    (∀ {t : Nat} {a : Int} {M : Mem} {o : Int × Mem}, ob n t 1 → fn_X1_rec d 2 t a 0 M = some o → CT E l yX1_one cX1_one 4 (some .boolean) (d + 8) (40 * d + 300) 0 0 [.ref (eb E + t), i3 a] n (zf n) M (some (i3 o.1)) n (zf n) o.2) := by
  intro d
  induction d with
  | zero => exact ⟨fun _ h => (by cases h), fun _ h => (by cases h), fun _ h => (by cases h)⟩
  | succ d ih =>
    obtain ⟨h1, h2, h3⟩ := ih
    have hz : (d + 8) + 1 ≤ (d + 1) + 8 ∧ (40 * d + 300) + 40 ≤ 40 * (d + 1) + 300 ∧ 8 ≤ (d + 1) + 8 ∧ 300 ≤ 40 * (d + 1) + 300 := ⟨by omega, by omega, by omega, by omega⟩
    exact ⟨fun ho hf => m_X1_level_F hn hz h1 h2 h3 ho hf, fun ho hf => m_X1_ask_F hn hz h1 h2 h3 ho hf, fun ho hf => m_X1_one_F hn hz h1 h2 h3 ho hf⟩
theorem m_X1_level {E : EE} {l : Launch} {n t : Nat} {a b : Int} {M : Mem} {o : Int × Mem} (hn : nfull n) (ho : ob n t 1) (hf : fn_X1_level t a b M = some o) : CT E l yX1_level cX1_level 5 (some .boolean) 108 4300 0 0 [.ref (eb E + t), i3 a, i3 b] n (zf n) M (some (i3 o.1)) n (zf n) o.2 := (m_X1_rec hn 100).1 ho hf
theorem m_X1_ask {E : EE} {l : Launch} {n t : Nat} {a : Int} {M : Mem} {o : Int × Mem} (hn : nfull n) (ho : ob n t 1) (hf : fn_X1_ask t a M = some o) : CT E l yX1_ask cX1_ask 3 (some .boolean) 108 4300 0 0 [.ref (eb E + t), i3 a] n (zf n) M (some (i3 o.1)) n (zf n) o.2 := (m_X1_rec hn 100).2.1 ho hf
theorem m_X1_one {E : EE} {l : Launch} {n t : Nat} {a : Int} {M : Mem} {o : Int × Mem} (hn : nfull n) (ho : ob n t 1) (hf : fn_X1_one t a M = some o) : CT E l yX1_one cX1_one 4 (some .boolean) 108 4300 0 0 [.ref (eb E + t), i3 a] n (zf n) M (some (i3 o.1)) n (zf n) o.2 := (m_X1_rec hn 100).2.2 ho hf
-- HeavierByHand$Reader.law
def fn_X1_law_J19 (t : Nat) (a1 : Int) (M : Mem) (v2_7 : Int) (u0_19 : Int) : Option (Int × Mem) :=
  cl (fn_X1_level t u0_19 0 M) fun x20 M20 => cEq x20 0 (some (0, M20)) (cv (fn_X7_addLaw (t + 1) a1 v2_7 M20) fun M34 => some (1, M34))
def fn_X1_law (t : Nat) (a1 : Int) (M : Mem) : Option (Int × Mem) :=
  nm ((M (t + 1) 1)) fun v2_7 => cEq a1 4 (fn_X1_law_J19 t a1 M v2_7 0) (fn_X1_law_J19 t a1 M v2_7 3)
set_option maxRecDepth 100000 in
set_option maxHeartbeats 4000000 in
theorem j_X1_law_19 {p : Program} {l : Launch} {e : Env} {s : State} {m : MethodId} {args : Array Value} {below : List Frame} {meth : Method} {c : Code} {E : EE} {n : Nat} {o : (Int × Mem)} {t : Nat} {a1 : Int} {M : Mem} {v2_7 : Int} {u0_19 : Int} {H : Heap} {locs : List Loc} {ls : Array Slot} (C : Cx E p s m args meth c cX1_law 3 RX1 (some .boolean) n "law") (hn : nfull n) (o_t : ob n t 1) (hf : fn_X1_law_J19 t a1 M v2_7 u0_19 = some o) (hH : ST E s n (zf n) M H locs) (hl : lv_has ls 3 [(0, .ref (eb E + t)), (1, i3 a1), (2, i3 v2_7)]) : W p l e { frames := 109, cells := 0, slots := 0, locals := 4324 } s m args below meth c H locs 0 0 (MQ below (QC E (some (i3 o.1)) n (zf n) o.2) args s 0 0 (fr E)) (F0 m 19 ls [i3 u0_19, .ref (eb E + t)]) := by
  unfold fn_X1_law_J19 at hf
  refine lv_iconst (v := Int32.ofInt 0) C.hx C.hb dX1_law_19 rfl ?_
  obtain ⟨x20, M20, hc9, hf⟩ := cl_of hf
  refine r_callVi (rest := []) C hH hl o_t (by decide) rfl (m_X1_level hn o_t hc9) ML_RX1_86 MF_X1_level MI_X1_level rfl rfl (Nat.le_of_ble_eq_true rfl) ⟨Nat.le_of_ble_eq_true rfl, Nat.le_of_ble_eq_true rfl⟩ ⟨Nat.le_refl _, Nat.le_refl _⟩ dX1_law_20 (fun H locs hH => ?_)
  refine w_ne0 (tgt := 28) C hf dX1_law_23 (by decide) (fun hf => ?_) (fun hf => ?_)
  · refine lv_aload_n C.hx C.hb dX1_law_28 rfl (lv_at hl 0 rfl) ?_
    refine g_ref (off := 1) C hH o_t (by decide) rfl rfl FL_RX1_12 dX1_law_29 ?_
    refine lv_iload_n C.hx C.hb dX1_law_32 rfl (lv_at hl 1 rfl) ?_
    refine lv_iload_n C.hx C.hb dX1_law_33 rfl (lv_at hl 2 rfl) ?_
    obtain ⟨M34, hc9, hf⟩ := cv_of hf
    refine r_callVv (rest := []) C hH hl (ly (i := 0) (off := 1) (k := 7) hn o_t rfl rfl rfl) (by decide) rfl (m_X7_addLaw hn (ly (i := 0) (off := 1) (k := 7) hn o_t rfl rfl rfl) hc9) ML_RX1_90 MF_X7_addLaw MI_X7_addLaw rfl rfl (Nat.le_of_ble_eq_true rfl) ⟨Nat.le_of_ble_eq_true rfl, Nat.le_of_ble_eq_true rfl⟩ ⟨Nat.le_refl _, Nat.le_refl _⟩ dX1_law_34 (fun H locs hH => ?_)
    refine lv_iconst (v := Int32.ofInt 1) C.hx C.hb dX1_law_37 rfl ?_
    cases hf
    exact w_zret C hH (Or.inr rfl) dX1_law_38
  · refine lv_iconst (v := Int32.ofInt 0) C.hx C.hb dX1_law_26 rfl ?_
    cases hf
    exact w_zret C hH (Or.inl rfl) dX1_law_27
set_option maxRecDepth 100000 in
set_option maxHeartbeats 4000000 in
theorem m_X1_law {E : EE} {l : Launch} {n : Nat} {t : Nat} {a1 : Int} {M : Mem} {o : (Int × Mem)} (hn : nfull n) (o_t : ob n t 1) (hf : fn_X1_law t a1 M = some o) : CT E l yX1_law cX1_law 3 (some .boolean) 109 4324 0 0 [.ref (eb E + t), i3 a1] n (zf n) M (some (i3 o.1)) n (zf n) o.2 := by
  refine CT_of PN_RX1 (Nat.le_of_ble_eq_true rfl) ?_
  intro p e s m args below meth c C hH ls hl
  replace C : Cx E p s m args meth c cX1_law 3 RX1 (some .boolean) n "law" := C
  have hl : lv_has ls 3 [(0, .ref (eb E + t)), (1, i3 a1)] := hl
  unfold fn_X1_law at hf
  refine lv_aload_n C.hx C.hb dX1_law_0 rfl (lv_at hl 0 rfl) ?_
  refine g_ref (off := 1) C hH o_t (by decide) rfl rfl FL_RX1_12 dX1_law_1 ?_
  refine g_int C hH (ly (i := 0) (off := 1) (k := 7) hn o_t rfl rfl rfl) (by decide) rfl FL_RX1_83 dX1_law_4 ?_
  refine r_nm hf (fun v2_7 hf => ?_)
  refine lv_istore_n (lv' := [(2, i3 v2_7), (0, .ref (eb E + t)), (1, i3 a1)]) C.hx C.hb dX1_law_7 rfl hl (by decide) rfl (fun ls hl => ?_)
  refine lv_aload_n C.hx C.hb dX1_law_8 rfl (lv_at hl 1 rfl) ?_
  refine lv_iload_n C.hx C.hb dX1_law_9 rfl (lv_at hl 2 rfl) ?_
  refine lv_iconst (v := Int32.ofInt 4) C.hx C.hb dX1_law_10 rfl ?_
  refine w_ne (tgt := 18) C hf dX1_law_11 (by decide) (fun hf => ?_) (fun hf => ?_)
  · refine lv_iconst (v := Int32.ofInt 3) C.hx C.hb dX1_law_18 rfl ?_
    exact j_X1_law_19 C hn o_t hf hH (lv_sub hl [1, 2, 0] rfl)
  · refine lv_iconst (v := Int32.ofInt 0) C.hx C.hb dX1_law_14 rfl ?_
    refine lv_goto (tgt := 19) C.hx C.hb dX1_law_15 (by decide) ?_
    exact j_X1_law_19 C hn o_t hf hH (lv_sub hl [1, 2, 0] rfl)
-- HeavierByHand$Reader.deed
def fn_X1_deed_J22 (t : Nat) (a1 : Int) (M : Mem) (v2_7 : Int) (u0_22 : Int) : Option (Int × Mem) :=
  cl (fn_X1_number t u0_22 M) fun x22 M22 => cEq x22 0 (some (0, M22)) (cEq a1 6 (cl (fn_X1_pass t 9 M22) fun x51 M51 => cEq x51 0 (some (0, M51)) (nm ((M51 (t + 6) 8)) fun v3_66 => cl (fn_X1_number t 9 M51) fun x70 M70 => cEq x70 0 (some (0, M70)) (cv (fn_X7_addClause (t + 1) a1 v2_7 v3_66 M70) fun M85 => some (1, M85)))) (cv (fn_X7_addClause (t + 1) a1 v2_7 0 M22) fun M43 => some (1, M43)))
def fn_X1_deed (t : Nat) (a1 : Int) (M : Mem) : Option (Int × Mem) :=
  nm ((M (t + 6) 8)) fun v2_7 => cEq a1 8 (fn_X1_deed_J22 t a1 M v2_7 99) (fn_X1_deed_J22 t a1 M v2_7 19)
set_option maxRecDepth 100000 in
set_option maxHeartbeats 4000000 in
theorem j_X1_deed_22 {p : Program} {l : Launch} {e : Env} {s : State} {m : MethodId} {args : Array Value} {below : List Frame} {meth : Method} {c : Code} {E : EE} {n : Nat} {o : (Int × Mem)} {t : Nat} {a1 : Int} {M : Mem} {v2_7 : Int} {u0_22 : Int} {H : Heap} {locs : List Loc} {ls : Array Slot} (C : Cx E p s m args meth c cX1_deed 4 RX1 (some .boolean) n "deed") (hn : nfull n) (o_t : ob n t 1) (hf : fn_X1_deed_J22 t a1 M v2_7 u0_22 = some o) (hH : ST E s n (zf n) M H locs) (hl : lv_has ls 4 [(0, .ref (eb E + t)), (1, i3 a1), (2, i3 v2_7)]) : W p l e { frames := 2, cells := 0, slots := 0, locals := 42 } s m args below meth c H locs 0 0 (MQ below (QC E (some (i3 o.1)) n (zf n) o.2) args s 0 0 (fr E)) (F0 m 22 ls [i3 u0_22, .ref (eb E + t)]) := by
  unfold fn_X1_deed_J22 at hf
  obtain ⟨x22, M22, hc9, hf⟩ := cl_of hf
  refine r_callVi (rest := []) C hH hl o_t (by decide) rfl (m_X1_number hn o_t hc9) ML_RX1_94 MF_X1_number MI_X1_number rfl rfl (Nat.le_of_ble_eq_true rfl) ⟨Nat.le_of_ble_eq_true rfl, Nat.le_of_ble_eq_true rfl⟩ ⟨Nat.le_refl _, Nat.le_refl _⟩ dX1_deed_22 (fun H locs hH => ?_)
  refine w_ne0 (tgt := 30) C hf dX1_deed_25 (by decide) (fun hf => ?_) (fun hf => ?_)
  · refine lv_iload_n C.hx C.hb dX1_deed_30 rfl (lv_at hl 1 rfl) ?_
    refine lv_bipush (v := Int32.ofInt 6) C.hx C.hb dX1_deed_31 (by decide) ?_
    refine w_eq (tgt := 48) C hf dX1_deed_33 (by decide) (fun hf => ?_) (fun hf => ?_)
    · refine lv_aload_n C.hx C.hb dX1_deed_48 rfl (lv_at hl 0 rfl) ?_
      refine lv_bipush (v := Int32.ofInt 9) C.hx C.hb dX1_deed_49 (by decide) ?_
      obtain ⟨x51, M51, hc9, hf⟩ := cl_of hf
      refine r_callVi (rest := []) C hH hl o_t (by decide) rfl (m_X1_pass hn o_t hc9) ML_RX1_80 MF_X1_pass MI_X1_pass rfl rfl (Nat.le_of_ble_eq_true rfl) ⟨Nat.le_of_ble_eq_true rfl, Nat.le_of_ble_eq_true rfl⟩ ⟨Nat.le_refl _, Nat.le_refl _⟩ dX1_deed_51 (fun H locs hH => ?_)
      refine w_ne0 (tgt := 59) C hf dX1_deed_54 (by decide) (fun hf => ?_) (fun hf => ?_)
      · refine lv_aload_n C.hx C.hb dX1_deed_59 rfl (lv_at hl 0 rfl) ?_
        refine g_ref (off := 6) C hH o_t (by decide) rfl rfl FL_RX1_21 dX1_deed_60 ?_
        refine g_int C hH (ly (i := 1) (off := 6) (k := 8) hn o_t rfl rfl rfl) (by decide) rfl FL_RX1_58 dX1_deed_63 ?_
        refine r_nm hf (fun v3_66 hf => ?_)
        refine lv_istore_n (lv' := [(3, i3 v3_66), (0, .ref (eb E + t)), (1, i3 a1), (2, i3 v2_7)]) C.hx C.hb dX1_deed_66 rfl hl (by decide) rfl (fun ls hl => ?_)
        refine lv_aload_n C.hx C.hb dX1_deed_67 rfl (lv_at hl 1 rfl) ?_
        refine lv_bipush (v := Int32.ofInt 9) C.hx C.hb dX1_deed_68 (by decide) ?_
        obtain ⟨x70, M70, hc9, hf⟩ := cl_of hf
        refine r_callVi (rest := []) C hH hl o_t (by decide) rfl (m_X1_number hn o_t hc9) ML_RX1_94 MF_X1_number MI_X1_number rfl rfl (Nat.le_of_ble_eq_true rfl) ⟨Nat.le_of_ble_eq_true rfl, Nat.le_of_ble_eq_true rfl⟩ ⟨Nat.le_refl _, Nat.le_refl _⟩ dX1_deed_70 (fun H locs hH => ?_)
        refine w_ne0 (tgt := 78) C hf dX1_deed_73 (by decide) (fun hf => ?_) (fun hf => ?_)
        · refine lv_aload_n C.hx C.hb dX1_deed_78 rfl (lv_at hl 1 rfl) ?_
          refine g_ref (off := 1) C hH o_t (by decide) rfl rfl FL_RX1_12 dX1_deed_79 ?_
          refine lv_iload_n C.hx C.hb dX1_deed_82 rfl (lv_at hl 2 rfl) ?_
          refine lv_iload_n C.hx C.hb dX1_deed_83 rfl (lv_at hl 3 rfl) ?_
          refine lv_iload_n C.hx C.hb dX1_deed_84 rfl (lv_at hl 0 rfl) ?_
          obtain ⟨M85, hc9, hf⟩ := cv_of hf
          refine r_callVv (rest := []) C hH hl (ly (i := 0) (off := 1) (k := 7) hn o_t rfl rfl rfl) (by decide) rfl (m_X7_addClause hn (ly (i := 0) (off := 1) (k := 7) hn o_t rfl rfl rfl) hc9) ML_RX1_97 MF_X7_addClause MI_X7_addClause rfl rfl (Nat.le_of_ble_eq_true rfl) ⟨Nat.le_of_ble_eq_true rfl, Nat.le_of_ble_eq_true rfl⟩ ⟨Nat.le_refl _, Nat.le_refl _⟩ dX1_deed_85 (fun H locs hH => ?_)
          refine lv_iconst (v := Int32.ofInt 1) C.hx C.hb dX1_deed_88 rfl ?_
          cases hf
          exact w_zret C hH (Or.inr rfl) dX1_deed_89
        · refine lv_iconst (v := Int32.ofInt 0) C.hx C.hb dX1_deed_76 rfl ?_
          cases hf
          exact w_zret C hH (Or.inl rfl) dX1_deed_77
      · refine lv_iconst (v := Int32.ofInt 0) C.hx C.hb dX1_deed_57 rfl ?_
        cases hf
        exact w_zret C hH (Or.inl rfl) dX1_deed_58
    · refine lv_aload_n C.hx C.hb dX1_deed_36 rfl (lv_at hl 0 rfl) ?_
      refine g_ref (off := 1) C hH o_t (by decide) rfl rfl FL_RX1_12 dX1_deed_37 ?_
      refine lv_iload_n C.hx C.hb dX1_deed_40 rfl (lv_at hl 1 rfl) ?_
      refine lv_iload_n C.hx C.hb dX1_deed_41 rfl (lv_at hl 2 rfl) ?_
      refine lv_iconst (v := Int32.ofInt 0) C.hx C.hb dX1_deed_42 rfl ?_
      obtain ⟨M43, hc9, hf⟩ := cv_of hf
      refine r_callVv (rest := []) C hH hl (ly (i := 0) (off := 1) (k := 7) hn o_t rfl rfl rfl) (by decide) rfl (m_X7_addClause hn (ly (i := 0) (off := 1) (k := 7) hn o_t rfl rfl rfl) hc9) ML_RX1_97 MF_X7_addClause MI_X7_addClause rfl rfl (Nat.le_of_ble_eq_true rfl) ⟨Nat.le_of_ble_eq_true rfl, Nat.le_of_ble_eq_true rfl⟩ ⟨Nat.le_refl _, Nat.le_refl _⟩ dX1_deed_43 (fun H locs hH => ?_)
      refine lv_iconst (v := Int32.ofInt 1) C.hx C.hb dX1_deed_46 rfl ?_
      cases hf
      exact w_zret C hH (Or.inr rfl) dX1_deed_47
  · refine lv_iconst (v := Int32.ofInt 0) C.hx C.hb dX1_deed_28 rfl ?_
    cases hf
    exact w_zret C hH (Or.inl rfl) dX1_deed_29
set_option maxRecDepth 100000 in
set_option maxHeartbeats 4000000 in
theorem m_X1_deed {E : EE} {l : Launch} {n : Nat} {t : Nat} {a1 : Int} {M : Mem} {o : (Int × Mem)} (hn : nfull n) (o_t : ob n t 1) (hf : fn_X1_deed t a1 M = some o) : CT E l yX1_deed cX1_deed 4 (some .boolean) 2 42 0 0 [.ref (eb E + t), i3 a1] n (zf n) M (some (i3 o.1)) n (zf n) o.2 := by
  refine CT_of PN_RX1 (Nat.le_of_ble_eq_true rfl) ?_
  intro p e s m args below meth c C hH ls hl
  replace C : Cx E p s m args meth c cX1_deed 4 RX1 (some .boolean) n "deed" := C
  have hl : lv_has ls 4 [(0, .ref (eb E + t)), (1, i3 a1)] := hl
  unfold fn_X1_deed at hf
  refine lv_aload_n C.hx C.hb dX1_deed_0 rfl (lv_at hl 0 rfl) ?_
  refine g_ref (off := 6) C hH o_t (by decide) rfl rfl FL_RX1_21 dX1_deed_1 ?_
  refine g_int C hH (ly (i := 1) (off := 6) (k := 8) hn o_t rfl rfl rfl) (by decide) rfl FL_RX1_58 dX1_deed_4 ?_
  refine r_nm hf (fun v2_7 hf => ?_)
  refine lv_istore_n (lv' := [(2, i3 v2_7), (0, .ref (eb E + t)), (1, i3 a1)]) C.hx C.hb dX1_deed_7 rfl hl (by decide) rfl (fun ls hl => ?_)
  refine lv_aload_n C.hx C.hb dX1_deed_8 rfl (lv_at hl 1 rfl) ?_
  refine lv_iload_n C.hx C.hb dX1_deed_9 rfl (lv_at hl 2 rfl) ?_
  refine lv_bipush (v := Int32.ofInt 8) C.hx C.hb dX1_deed_10 (by decide) ?_
  refine w_ne (tgt := 20) C hf dX1_deed_12 (by decide) (fun hf => ?_) (fun hf => ?_)
  · refine lv_bipush (v := Int32.ofInt 19) C.hx C.hb dX1_deed_20 (by decide) ?_
    exact j_X1_deed_22 C hn o_t hf hH (lv_sub hl [1, 2, 0] rfl)
  · refine lv_bipush (v := Int32.ofInt 99) C.hx C.hb dX1_deed_15 (by decide) ?_
    refine lv_goto (tgt := 22) C.hx C.hb dX1_deed_17 (by decide) ?_
    exact j_X1_deed_22 C hn o_t hf hH (lv_sub hl [1, 2, 0] rfl)
-- HeavierByHand$Reader.clause
def fn_X1_clause_J54 (t : Nat) (M : Mem) : Option (Int × Mem) :=
  cl (fn_X1_refuse t 4 M) fun x56 M56 => ck (x56 = 0 ∨ x56 = 1) (some (x56, M56))
def fn_X1_clause_J126 (M126 : Mem) : Option (Int × Mem) :=
  some (0, M126)
def fn_X1_clause_J108 (t : Nat) (u0_108 : Int) (M108 : Mem) : Option (Int × Mem) :=
  cEq u0_108 0 (fn_X1_clause_J126 M108) (cl (fn_X1_pass t 32 M108) fun x116 M116 => cEq x116 0 (fn_X1_clause_J126 M116) (some (1, M116)))
def fn_X1_clause_J95 (t : Nat) (v1_7 : Int) (M82 : Mem) : Option (Int × Mem) :=
  cl (fn_X1_law t v1_7 M82) fun x97 M97 => fn_X1_clause_J108 t x97 M97
def fn_X1_clause_J60 (t : Nat) (M : Mem) (v1_7 : Int) : Option (Int × Mem) :=
  cLt (M (t + 1) 9) 20 (cv (fn_X8_next (t + 6) M) fun M82 => cEq v1_7 4 (fn_X1_clause_J95 t v1_7 M82) (cEq v1_7 5 (fn_X1_clause_J95 t v1_7 M82) (cl (fn_X1_deed t v1_7 M82) fun x105 M105 => fn_X1_clause_J108 t x105 M105))) (cl (fn_X1_refuse t 5 M) fun x74 M74 => ck (x74 = 0 ∨ x74 = 1) (some (x74, M74)))
def fn_X1_clause_J39 (t : Nat) (M : Mem) (v1_7 : Int) : Option (Int × Mem) :=
  cEq v1_7 5 (cu (fn_X7_hasGrain (t + 1) M) fun x48 => cEq x48 0 (fn_X1_clause_J60 t M v1_7) (fn_X1_clause_J54 t M)) (fn_X1_clause_J60 t M v1_7)
def fn_X1_clause (t : Nat) (M : Mem) : Option (Int × Mem) :=
  nm ((M (t + 6) 7)) fun v1_7 => cu (fn_X10_isWithin v1_7 4 8 M) fun x12 => cEq x12 0 (cl (fn_X1_refuse t 1 M) fun x20 M20 => ck (x20 = 0 ∨ x20 = 1) (some (x20, M20))) (cEq v1_7 4 (cu (fn_X7_hasGlove (t + 1) M) fun x33 => cEq x33 0 (fn_X1_clause_J39 t M v1_7) (fn_X1_clause_J54 t M)) (fn_X1_clause_J39 t M v1_7))
set_option maxRecDepth 100000 in
set_option maxHeartbeats 4000000 in
theorem j_X1_clause_54 {p : Program} {l : Launch} {e : Env} {s : State} {m : MethodId} {args : Array Value} {below : List Frame} {meth : Method} {c : Code} {E : EE} {n : Nat} {o : (Int × Mem)} {t : Nat} {M : Mem} {H : Heap} {locs : List Loc} {ls : Array Slot} (C : Cx E p s m args meth c cX1_clause 3 RX1 (some .boolean) n "clause") (hn : nfull n) (o_t : ob n t 1) (hf : fn_X1_clause_J54 t M = some o) (hH : ST E s n (zf n) M H locs) (hl : lv_has ls 3 [(0, .ref (eb E + t))]) : W p l e { frames := 110, cells := 0, slots := 0, locals := 4346 } s m args below meth c H locs 0 0 (MQ below (QC E (some (i3 o.1)) n (zf n) o.2) args s 0 0 (fr E)) (F0 m 54 ls []) := by
  unfold fn_X1_clause_J54 at hf
  refine lv_aload_n C.hx C.hb dX1_clause_54 rfl (lv_at hl 0 rfl) ?_
  refine lv_iconst (v := Int32.ofInt 4) C.hx C.hb dX1_clause_55 rfl ?_
  obtain ⟨x56, M56, hc9, hf⟩ := cl_of hf
  refine r_callVi (rest := []) C hH hl o_t (by decide) rfl (m_X1_refuse hn o_t hc9) ML_RX1_51 MF_X1_refuse MI_X1_refuse rfl rfl (Nat.le_of_ble_eq_true rfl) ⟨Nat.le_of_ble_eq_true rfl, Nat.le_of_ble_eq_true rfl⟩ ⟨Nat.le_refl _, Nat.le_refl _⟩ dX1_clause_56 (fun H locs hH => ?_)
  obtain ⟨hB9, hf⟩ := ck_of hf
  cases hf
  exact w_zret C hH hB9 dX1_clause_59
set_option maxRecDepth 100000 in
set_option maxHeartbeats 4000000 in
theorem j_X1_clause_126 {p : Program} {l : Launch} {e : Env} {s : State} {m : MethodId} {args : Array Value} {below : List Frame} {meth : Method} {c : Code} {E : EE} {n : Nat} {o : (Int × Mem)} {M126 : Mem} {H : Heap} {locs : List Loc} {ls : Array Slot} (C : Cx E p s m args meth c cX1_clause 3 RX1 (some .boolean) n "clause") (hn : nfull n) (hf : fn_X1_clause_J126 M126 = some o) (hH : ST E s n (zf n) M126 H locs) (hl : lv_has ls 3 []) : W p l e { frames := 110, cells := 0, slots := 0, locals := 4346 } s m args below meth c H locs 0 0 (MQ below (QC E (some (i3 o.1)) n (zf n) o.2) args s 0 0 (fr E)) (F0 m 126 ls []) := by
  unfold fn_X1_clause_J126 at hf
  refine lv_iconst (v := Int32.ofInt 0) C.hx C.hb dX1_clause_126 rfl ?_
  cases hf
  exact w_zret C hH (Or.inl rfl) dX1_clause_127
set_option maxRecDepth 100000 in
set_option maxHeartbeats 4000000 in
theorem j_X1_clause_108 {p : Program} {l : Launch} {e : Env} {s : State} {m : MethodId} {args : Array Value} {below : List Frame} {meth : Method} {c : Code} {E : EE} {n : Nat} {o : (Int × Mem)} {t : Nat} {u0_108 : Int} {M108 : Mem} {H : Heap} {locs : List Loc} {ls : Array Slot} (C : Cx E p s m args meth c cX1_clause 3 RX1 (some .boolean) n "clause") (hn : nfull n) (o_t : ob n t 1) (hf : fn_X1_clause_J108 t u0_108 M108 = some o) (hH : ST E s n (zf n) M108 H locs) (hl : lv_has ls 3 [(0, .ref (eb E + t))]) : W p l e { frames := 110, cells := 0, slots := 0, locals := 4346 } s m args below meth c H locs 0 0 (MQ below (QC E (some (i3 o.1)) n (zf n) o.2) args s 0 0 (fr E)) (F0 m 108 ls [i3 u0_108]) := by
  unfold fn_X1_clause_J108 at hf
  refine lv_istore_n (lv' := [(2, i3 u0_108), (0, .ref (eb E + t))]) C.hx C.hb dX1_clause_108 rfl hl (by decide) rfl (fun ls hl => ?_)
  refine lv_iload_n C.hx C.hb dX1_clause_109 rfl (lv_at hl 0 rfl) ?_
  refine w_eq0 (tgt := 126) C hf dX1_clause_110 (by decide) (fun hf => ?_) (fun hf => ?_)
  · exact j_X1_clause_126 C hn hf hH (lv_sub hl [] rfl)
  · refine lv_aload_n C.hx C.hb dX1_clause_113 rfl (lv_at hl 1 rfl) ?_
    refine lv_bipush (v := Int32.ofInt 32) C.hx C.hb dX1_clause_114 (by decide) ?_
    obtain ⟨x116, M116, hc9, hf⟩ := cl_of hf
    refine r_callVi (rest := []) C hH hl o_t (by decide) rfl (m_X1_pass hn o_t hc9) ML_RX1_80 MF_X1_pass MI_X1_pass rfl rfl (Nat.le_of_ble_eq_true rfl) ⟨Nat.le_of_ble_eq_true rfl, Nat.le_of_ble_eq_true rfl⟩ ⟨Nat.le_refl _, Nat.le_refl _⟩ dX1_clause_116 (fun H locs hH => ?_)
    refine w_eq0 (tgt := 126) C hf dX1_clause_119 (by decide) (fun hf => ?_) (fun hf => ?_)
    · exact j_X1_clause_126 C hn hf hH (lv_sub hl [] rfl)
    · refine lv_iconst (v := Int32.ofInt 1) C.hx C.hb dX1_clause_122 rfl ?_
      refine lv_goto (tgt := 127) C.hx C.hb dX1_clause_123 (by decide) ?_
      cases hf
      exact w_zret C hH (Or.inr rfl) dX1_clause_127
set_option maxRecDepth 100000 in
set_option maxHeartbeats 4000000 in
theorem j_X1_clause_95 {p : Program} {l : Launch} {e : Env} {s : State} {m : MethodId} {args : Array Value} {below : List Frame} {meth : Method} {c : Code} {E : EE} {n : Nat} {o : (Int × Mem)} {t : Nat} {v1_7 : Int} {M82 : Mem} {H : Heap} {locs : List Loc} {ls : Array Slot} (C : Cx E p s m args meth c cX1_clause 3 RX1 (some .boolean) n "clause") (hn : nfull n) (o_t : ob n t 1) (hf : fn_X1_clause_J95 t v1_7 M82 = some o) (hH : ST E s n (zf n) M82 H locs) (hl : lv_has ls 3 [(0, .ref (eb E + t)), (1, i3 v1_7)]) : W p l e { frames := 110, cells := 0, slots := 0, locals := 4346 } s m args below meth c H locs 0 0 (MQ below (QC E (some (i3 o.1)) n (zf n) o.2) args s 0 0 (fr E)) (F0 m 95 ls []) := by
  unfold fn_X1_clause_J95 at hf
  refine lv_aload_n C.hx C.hb dX1_clause_95 rfl (lv_at hl 0 rfl) ?_
  refine lv_iload_n C.hx C.hb dX1_clause_96 rfl (lv_at hl 1 rfl) ?_
  obtain ⟨x97, M97, hc9, hf⟩ := cl_of hf
  refine r_callVi (rest := []) C hH hl o_t (by decide) rfl (m_X1_law hn o_t hc9) ML_RX1_74 MF_X1_law MI_X1_law rfl rfl (Nat.le_of_ble_eq_true rfl) ⟨Nat.le_of_ble_eq_true rfl, Nat.le_of_ble_eq_true rfl⟩ ⟨Nat.le_refl _, Nat.le_refl _⟩ dX1_clause_97 (fun H locs hH => ?_)
  refine lv_goto (tgt := 108) C.hx C.hb dX1_clause_100 (by decide) ?_
  exact j_X1_clause_108 C hn o_t hf hH (lv_sub hl [0] rfl)
set_option maxRecDepth 100000 in
set_option maxHeartbeats 4000000 in
theorem j_X1_clause_60 {p : Program} {l : Launch} {e : Env} {s : State} {m : MethodId} {args : Array Value} {below : List Frame} {meth : Method} {c : Code} {E : EE} {n : Nat} {o : (Int × Mem)} {t : Nat} {M : Mem} {v1_7 : Int} {H : Heap} {locs : List Loc} {ls : Array Slot} (C : Cx E p s m args meth c cX1_clause 3 RX1 (some .boolean) n "clause") (hn : nfull n) (o_t : ob n t 1) (hf : fn_X1_clause_J60 t M v1_7 = some o) (hH : ST E s n (zf n) M H locs) (hl : lv_has ls 3 [(0, .ref (eb E + t)), (1, i3 v1_7)]) : W p l e { frames := 110, cells := 0, slots := 0, locals := 4346 } s m args below meth c H locs 0 0 (MQ below (QC E (some (i3 o.1)) n (zf n) o.2) args s 0 0 (fr E)) (F0 m 60 ls []) := by
  unfold fn_X1_clause_J60 at hf
  refine lv_aload_n C.hx C.hb dX1_clause_60 rfl (lv_at hl 0 rfl) ?_
  refine g_ref (off := 1) C hH o_t (by decide) rfl rfl FL_RX1_12 dX1_clause_61 ?_
  refine g_int C hH (ly (i := 0) (off := 1) (k := 7) hn o_t rfl rfl rfl) (by decide) rfl FL_RX1_71 dX1_clause_64 ?_
  refine lv_bipush (v := Int32.ofInt 20) C.hx C.hb dX1_clause_67 (by decide) ?_
  refine w_lt (tgt := 78) C hf dX1_clause_69 (by decide) (fun hf => ?_) (fun hf => ?_)
  · refine lv_aload_n C.hx C.hb dX1_clause_78 rfl (lv_at hl 0 rfl) ?_
    refine g_ref (off := 6) C hH o_t (by decide) rfl rfl FL_RX1_21 dX1_clause_79 ?_
    obtain ⟨M82, hc9, hf⟩ := cv_of hf
    refine r_callVv (rest := []) C hH hl (ly (i := 1) (off := 6) (k := 8) hn o_t rfl rfl rfl) (by decide) rfl (m_X8_next hn (ly (i := 1) (off := 6) (k := 8) hn o_t rfl rfl rfl) hc9) ML_RX1_55 MF_X8_next MI_X8_next rfl rfl (Nat.le_of_ble_eq_true rfl) ⟨Nat.le_of_ble_eq_true rfl, Nat.le_of_ble_eq_true rfl⟩ ⟨Nat.le_refl _, Nat.le_refl _⟩ dX1_clause_82 (fun H locs hH => ?_)
    refine lv_iload_n C.hx C.hb dX1_clause_85 rfl (lv_at hl 1 rfl) ?_
    refine lv_iconst (v := Int32.ofInt 4) C.hx C.hb dX1_clause_86 rfl ?_
    refine w_eq (tgt := 95) C hf dX1_clause_87 (by decide) (fun hf => ?_) (fun hf => ?_)
    · exact j_X1_clause_95 C hn o_t hf hH (lv_sub hl [0, 1] rfl)
    · refine lv_iload_n C.hx C.hb dX1_clause_90 rfl (lv_at hl 1 rfl) ?_
      refine lv_iconst (v := Int32.ofInt 5) C.hx C.hb dX1_clause_91 rfl ?_
      refine w_ne (tgt := 103) C hf dX1_clause_92 (by decide) (fun hf => ?_) (fun hf => ?_)
      · refine lv_aload_n C.hx C.hb dX1_clause_103 rfl (lv_at hl 0 rfl) ?_
        refine lv_iload_n C.hx C.hb dX1_clause_104 rfl (lv_at hl 1 rfl) ?_
        obtain ⟨x105, M105, hc9, hf⟩ := cl_of hf
        refine r_callVi (rest := []) C hH hl o_t (by decide) rfl (m_X1_deed hn o_t hc9) ML_RX1_77 MF_X1_deed MI_X1_deed rfl rfl (Nat.le_of_ble_eq_true rfl) ⟨Nat.le_of_ble_eq_true rfl, Nat.le_of_ble_eq_true rfl⟩ ⟨Nat.le_refl _, Nat.le_refl _⟩ dX1_clause_105 (fun H locs hH => ?_)
        exact j_X1_clause_108 C hn o_t hf hH (lv_sub hl [0] rfl)
      · exact j_X1_clause_95 C hn o_t hf hH (lv_sub hl [0, 1] rfl)
  · refine lv_aload_n C.hx C.hb dX1_clause_72 rfl (lv_at hl 0 rfl) ?_
    refine lv_iconst (v := Int32.ofInt 5) C.hx C.hb dX1_clause_73 rfl ?_
    obtain ⟨x74, M74, hc9, hf⟩ := cl_of hf
    refine r_callVi (rest := []) C hH hl o_t (by decide) rfl (m_X1_refuse hn o_t hc9) ML_RX1_51 MF_X1_refuse MI_X1_refuse rfl rfl (Nat.le_of_ble_eq_true rfl) ⟨Nat.le_of_ble_eq_true rfl, Nat.le_of_ble_eq_true rfl⟩ ⟨Nat.le_refl _, Nat.le_refl _⟩ dX1_clause_74 (fun H locs hH => ?_)
    obtain ⟨hB9, hf⟩ := ck_of hf
    cases hf
    exact w_zret C hH hB9 dX1_clause_77
set_option maxRecDepth 100000 in
set_option maxHeartbeats 4000000 in
theorem j_X1_clause_39 {p : Program} {l : Launch} {e : Env} {s : State} {m : MethodId} {args : Array Value} {below : List Frame} {meth : Method} {c : Code} {E : EE} {n : Nat} {o : (Int × Mem)} {t : Nat} {M : Mem} {v1_7 : Int} {H : Heap} {locs : List Loc} {ls : Array Slot} (C : Cx E p s m args meth c cX1_clause 3 RX1 (some .boolean) n "clause") (hn : nfull n) (o_t : ob n t 1) (hf : fn_X1_clause_J39 t M v1_7 = some o) (hH : ST E s n (zf n) M H locs) (hl : lv_has ls 3 [(0, .ref (eb E + t)), (1, i3 v1_7)]) : W p l e { frames := 110, cells := 0, slots := 0, locals := 4346 } s m args below meth c H locs 0 0 (MQ below (QC E (some (i3 o.1)) n (zf n) o.2) args s 0 0 (fr E)) (F0 m 39 ls []) := by
  unfold fn_X1_clause_J39 at hf
  refine lv_iload_n C.hx C.hb dX1_clause_39 rfl (lv_at hl 1 rfl) ?_
  refine lv_iconst (v := Int32.ofInt 5) C.hx C.hb dX1_clause_40 rfl ?_
  refine w_ne (tgt := 60) C hf dX1_clause_41 (by decide) (fun hf => ?_) (fun hf => ?_)
  · exact j_X1_clause_60 C hn o_t hf hH (lv_sub hl [0, 1] rfl)
  · refine lv_aload_n C.hx C.hb dX1_clause_44 rfl (lv_at hl 0 rfl) ?_
    refine g_ref (off := 1) C hH o_t (by decide) rfl rfl FL_RX1_12 dX1_clause_45 ?_
    obtain ⟨x48, hc9, hf⟩ := cu_of hf
    refine r_callVi (rest := []) C hH hl (ly (i := 0) (off := 1) (k := 7) hn o_t rfl rfl rfl) (by decide) rfl (m_X7_hasGrain hn (ly (i := 0) (off := 1) (k := 7) hn o_t rfl rfl rfl) hc9) ML_RX1_68 MF_X7_hasGrain MI_X7_hasGrain rfl rfl (Nat.le_of_ble_eq_true rfl) ⟨Nat.le_of_ble_eq_true rfl, Nat.le_of_ble_eq_true rfl⟩ ⟨Nat.le_refl _, Nat.le_refl _⟩ dX1_clause_48 (fun H locs hH => ?_)
    refine w_eq0 (tgt := 60) C hf dX1_clause_51 (by decide) (fun hf => ?_) (fun hf => ?_)
    · exact j_X1_clause_60 C hn o_t hf hH (lv_sub hl [0, 1] rfl)
    · exact j_X1_clause_54 C hn o_t hf hH (lv_sub hl [0] rfl)
set_option maxRecDepth 100000 in
set_option maxHeartbeats 4000000 in
theorem m_X1_clause {E : EE} {l : Launch} {n : Nat} {t : Nat} {M : Mem} {o : (Int × Mem)} (hn : nfull n) (o_t : ob n t 1) (hf : fn_X1_clause t M = some o) : CT E l yX1_clause cX1_clause 3 (some .boolean) 110 4346 0 0 [.ref (eb E + t)] n (zf n) M (some (i3 o.1)) n (zf n) o.2 := by
  refine CT_of PN_RX1 (Nat.le_of_ble_eq_true rfl) ?_
  intro p e s m args below meth c C hH ls hl
  replace C : Cx E p s m args meth c cX1_clause 3 RX1 (some .boolean) n "clause" := C
  have hl : lv_has ls 3 [(0, .ref (eb E + t))] := hl
  unfold fn_X1_clause at hf
  refine lv_aload_n C.hx C.hb dX1_clause_0 rfl (lv_at hl 0 rfl) ?_
  refine g_ref (off := 6) C hH o_t (by decide) rfl rfl FL_RX1_21 dX1_clause_1 ?_
  refine g_int C hH (ly (i := 1) (off := 6) (k := 8) hn o_t rfl rfl rfl) (by decide) rfl FL_RX1_43 dX1_clause_4 ?_
  refine r_nm hf (fun v1_7 hf => ?_)
  refine lv_istore_n (lv' := [(1, i3 v1_7), (0, .ref (eb E + t))]) C.hx C.hb dX1_clause_7 rfl hl (by decide) rfl (fun ls hl => ?_)
  refine lv_iload_n C.hx C.hb dX1_clause_8 rfl (lv_at hl 0 rfl) ?_
  refine lv_iconst (v := Int32.ofInt 4) C.hx C.hb dX1_clause_9 rfl ?_
  refine lv_bipush (v := Int32.ofInt 8) C.hx C.hb dX1_clause_10 (by decide) ?_
  obtain ⟨x12, hc9, hf⟩ := cu_of hf
  refine r_callSNi (rest := []) C hH hl (m_X10_isWithin hn hc9) MN_RX1_61 MF_X10_isWithin MS_X10_isWithin rfl rfl (Nat.le_of_ble_eq_true rfl) ⟨Nat.le_of_ble_eq_true rfl, Nat.le_of_ble_eq_true rfl⟩ ⟨Nat.le_refl _, Nat.le_refl _⟩ dX1_clause_12 (fun H locs hH => ?_)
  refine w_ne0 (tgt := 24) C hf dX1_clause_15 (by decide) (fun hf => ?_) (fun hf => ?_)
  · refine lv_iload_n C.hx C.hb dX1_clause_24 rfl (lv_at hl 0 rfl) ?_
    refine lv_iconst (v := Int32.ofInt 4) C.hx C.hb dX1_clause_25 rfl ?_
    refine w_ne (tgt := 39) C hf dX1_clause_26 (by decide) (fun hf => ?_) (fun hf => ?_)
    · exact j_X1_clause_39 C hn o_t hf hH (lv_sub hl [1, 0] rfl)
    · refine lv_aload_n C.hx C.hb dX1_clause_29 rfl (lv_at hl 1 rfl) ?_
      refine g_ref (off := 1) C hH o_t (by decide) rfl rfl FL_RX1_12 dX1_clause_30 ?_
      obtain ⟨x33, hc9, hf⟩ := cu_of hf
      refine r_callVi (rest := []) C hH hl (ly (i := 0) (off := 1) (k := 7) hn o_t rfl rfl rfl) (by decide) rfl (m_X7_hasGlove hn (ly (i := 0) (off := 1) (k := 7) hn o_t rfl rfl rfl) hc9) ML_RX1_65 MF_X7_hasGlove MI_X7_hasGlove rfl rfl (Nat.le_of_ble_eq_true rfl) ⟨Nat.le_of_ble_eq_true rfl, Nat.le_of_ble_eq_true rfl⟩ ⟨Nat.le_refl _, Nat.le_refl _⟩ dX1_clause_33 (fun H locs hH => ?_)
      refine w_ne0 (tgt := 54) C hf dX1_clause_36 (by decide) (fun hf => ?_) (fun hf => ?_)
      · exact j_X1_clause_54 C hn o_t hf hH (lv_sub hl [1] rfl)
      · exact j_X1_clause_39 C hn o_t hf hH (lv_sub hl [1, 0] rfl)
  · refine lv_aload_n C.hx C.hb dX1_clause_18 rfl (lv_at hl 1 rfl) ?_
    refine lv_iconst (v := Int32.ofInt 1) C.hx C.hb dX1_clause_19 rfl ?_
    obtain ⟨x20, M20, hc9, hf⟩ := cl_of hf
    refine r_callVi (rest := []) C hH hl o_t (by decide) rfl (m_X1_refuse hn o_t hc9) ML_RX1_51 MF_X1_refuse MI_X1_refuse rfl rfl (Nat.le_of_ble_eq_true rfl) ⟨Nat.le_of_ble_eq_true rfl, Nat.le_of_ble_eq_true rfl⟩ ⟨Nat.le_refl _, Nat.le_refl _⟩ dX1_clause_20 (fun H locs hH => ?_)
    obtain ⟨hB9, hf⟩ := ck_of hf
    cases hf
    exact w_zret C hH hB9 dX1_clause_23
-- HeavierByHand$Reader.parse
def fn_X1_parse_L32 (t : Nat) (rec32 : Int → Mem → Option (Int × Mem)) (v2_32 : Int) (M32 : Mem) : Option (Int × Mem) :=
  cLt 20 v2_32 (some (1, M32)) (cEq (M32 (t + 6) 7) 0 (some (1, M32)) (cl (fn_X1_clause t M32) fun x49 M49 => cEq x49 0 (some (0, M49)) (nm (v2_32 + 1) fun v2_57 => rec32 v2_57 M49)))
def fn_X1_parse (t : Nat) (r1 : Nat) (M : Mem) : Option (Int × Mem) :=
  cv (fn_X8_cut (t + 6) r1 M) fun M5 => cv (fn_X7_clear (t + 1) M5) fun M12 => sz M12 t 2 1 fun M17 => st M17 t 3 0 fun M22 => st M22 t 4 (-1) fun M27 => lq2 (fn_X1_parse_L32 t) FU 0 M27
set_option maxRecDepth 100000 in
set_option maxHeartbeats 4000000 in
theorem l_X1_parse_32 {p : Program} {l : Launch} {e : Env} {s : State} {m : MethodId} {args : Array Value} {below : List Frame} {meth : Method} {c : Code} {E : EE} {n : Nat} {o : (Int × Mem)} {t : Nat} (C : Cx E p s m args meth c cX1_parse 3 RX1 (some .boolean) n "parse") (hn : nfull n) (o_t : ob n t 1) : ∀ (k : Nat) (v2_32 : Int) (M32 : Mem) (H : Heap) (locs : List Loc) (ls : Array Slot), lq2 (fn_X1_parse_L32 t) k v2_32 M32 = some o → ST E s n (zf n) M32 H locs → lv_has ls 3 [(0, .ref (eb E + t)), (2, i3 v2_32)] → W p l e { frames := 111, cells := 0, slots := 0, locals := 4368 } s m args below meth c H locs 0 0 (MQ below (QC E (some (i3 o.1)) n (zf n) o.2) args s 0 0 (fr E)) (F0 m 32 ls []) := by
  intro k
  induction k with
  | zero => intro v2_32 M32 H locs ls hf; cases hf
  | succ k ih =>
    intro v2_32 M32 H locs ls hf hH hl
    have h_rec32 : ∀ {v2_32 : Int} {M32 : Mem} {H : Heap} {locs : List Loc} {ls : Array Slot}, lq2 (fn_X1_parse_L32 t) k v2_32 M32 = some o → ST E s n (zf n) M32 H locs → lv_has ls 3 [(0, .ref (eb E + t)), (2, i3 v2_32)] → W p l e { frames := 111, cells := 0, slots := 0, locals := 4368 } s m args below meth c H locs 0 0 (MQ below (QC E (some (i3 o.1)) n (zf n) o.2) args s 0 0 (fr E)) (F0 m 32 ls []) := fun {v2_32} {M32} {H} {locs} {ls} a b c => ih v2_32 M32 H locs ls a b c
    replace hf : fn_X1_parse_L32 t (lq2 (fn_X1_parse_L32 t) k) v2_32 M32 = some o := hf
    generalize lq2 (fn_X1_parse_L32 t) k = rec32 at hf h_rec32
    unfold fn_X1_parse_L32 at hf
    refine lv_iload_n C.hx C.hb dX1_parse_32 rfl (lv_at hl 1 rfl) ?_
    refine lv_bipush (v := Int32.ofInt 20) C.hx C.hb dX1_parse_33 (by decide) ?_
    refine w_gt (tgt := 63) C hf dX1_parse_35 (by decide) (fun hf => ?_) (fun hf => ?_)
    · refine lv_iconst (v := Int32.ofInt 1) C.hx C.hb dX1_parse_63 rfl ?_
      cases hf
      exact w_zret C hH (Or.inr rfl) dX1_parse_64
    · refine lv_aload_n C.hx C.hb dX1_parse_38 rfl (lv_at hl 0 rfl) ?_
      refine g_ref (off := 6) C hH o_t (by decide) rfl rfl FL_RX1_21 dX1_parse_39 ?_
      refine g_int C hH (ly (i := 1) (off := 6) (k := 8) hn o_t rfl rfl rfl) (by decide) rfl FL_RX1_43 dX1_parse_42 ?_
      refine w_eq0 (tgt := 63) C hf dX1_parse_45 (by decide) (fun hf => ?_) (fun hf => ?_)
      · refine lv_iconst (v := Int32.ofInt 1) C.hx C.hb dX1_parse_63 rfl ?_
        cases hf
        exact w_zret C hH (Or.inr rfl) dX1_parse_64
      · refine lv_aload_n C.hx C.hb dX1_parse_48 rfl (lv_at hl 0 rfl) ?_
        obtain ⟨x49, M49, hc9, hf⟩ := cl_of hf
        refine r_callVi (rest := []) C hH hl o_t (by decide) rfl (m_X1_clause hn o_t hc9) ML_RX1_46 MF_X1_clause MI_X1_clause rfl rfl (Nat.le_of_ble_eq_true rfl) ⟨Nat.le_of_ble_eq_true rfl, Nat.le_of_ble_eq_true rfl⟩ ⟨Nat.le_refl _, Nat.le_refl _⟩ dX1_parse_49 (fun H locs hH => ?_)
        refine w_ne0 (tgt := 57) C hf dX1_parse_52 (by decide) (fun hf => ?_) (fun hf => ?_)
        · refine r_iinc (k := 1) (lv' := fun v => [(2, i3 v), (0, .ref (eb E + t))]) C hf dX1_parse_57 hl rfl (by decide) (fun _ => rfl) (fun v2_57 ls hf hl => ?_)
          refine lv_goto (tgt := 32) C.hx C.hb dX1_parse_60 (by decide) ?_
          exact h_rec32 hf hH (lv_sub hl [1, 0] rfl)
        · refine lv_iconst (v := Int32.ofInt 0) C.hx C.hb dX1_parse_55 rfl ?_
          cases hf
          exact w_zret C hH (Or.inl rfl) dX1_parse_56
set_option maxRecDepth 100000 in
set_option maxHeartbeats 4000000 in
theorem m_X1_parse {E : EE} {l : Launch} {n : Nat} {t : Nat} {r1 : Nat} {M : Mem} {o : (Int × Mem)} (hn : nfull n) (o_t : ob n t 1) (o_r1 : ob n r1 6) (hf : fn_X1_parse t r1 M = some o) : CT E l yX1_parse cX1_parse 3 (some .boolean) 111 4368 0 0 [.ref (eb E + t), .ref (eb E + r1)] n (zf n) M (some (i3 o.1)) n (zf n) o.2 := by
  refine CT_of PN_RX1 (Nat.le_of_ble_eq_true rfl) ?_
  intro p e s m args below meth c C hH ls hl
  replace C : Cx E p s m args meth c cX1_parse 3 RX1 (some .boolean) n "parse" := C
  have hl : lv_has ls 3 [(0, .ref (eb E + t)), (1, .ref (eb E + r1))] := hl
  unfold fn_X1_parse at hf
  refine lv_aload_n C.hx C.hb dX1_parse_0 rfl (lv_at hl 0 rfl) ?_
  refine g_ref (off := 6) C hH o_t (by decide) rfl rfl FL_RX1_21 dX1_parse_1 ?_
  refine lv_aload_n C.hx C.hb dX1_parse_4 rfl (lv_at hl 1 rfl) ?_
  obtain ⟨M5, hc9, hf⟩ := cv_of hf
  refine r_callVv (rest := []) C hH hl (ly (i := 1) (off := 6) (k := 8) hn o_t rfl rfl rfl) (by decide) rfl (m_X8_cut hn (ly (i := 1) (off := 6) (k := 8) hn o_t rfl rfl rfl) o_r1 hc9) ML_RX1_25 MF_X8_cut MI_X8_cut rfl rfl (Nat.le_of_ble_eq_true rfl) ⟨Nat.le_of_ble_eq_true rfl, Nat.le_of_ble_eq_true rfl⟩ ⟨Nat.le_refl _, Nat.le_refl _⟩ dX1_parse_5 (fun H locs hH => ?_)
  refine lv_aload_n C.hx C.hb dX1_parse_8 rfl (lv_at hl 0 rfl) ?_
  refine g_ref (off := 1) C hH o_t (by decide) rfl rfl FL_RX1_12 dX1_parse_9 ?_
  obtain ⟨M12, hc9, hf⟩ := cv_of hf
  refine r_callVv (rest := []) C hH hl (ly (i := 0) (off := 1) (k := 7) hn o_t rfl rfl rfl) (by decide) rfl (m_X7_clear hn (ly (i := 0) (off := 1) (k := 7) hn o_t rfl rfl rfl) hc9) ML_RX1_29 MF_X7_clear MI_X7_clear rfl rfl (Nat.le_of_ble_eq_true rfl) ⟨Nat.le_of_ble_eq_true rfl, Nat.le_of_ble_eq_true rfl⟩ ⟨Nat.le_refl _, Nat.le_refl _⟩ dX1_parse_12 (fun H locs hH => ?_)
  refine lv_aload_n C.hx C.hb dX1_parse_15 rfl (lv_at hl 0 rfl) ?_
  refine lv_iconst (v := Int32.ofInt 1) C.hx C.hb dX1_parse_16 rfl ?_
  refine r_putZ C hH o_t (by decide) rfl FL_RX1_32 FW_1_2 hf dX1_parse_17 (fun M17 H locs hf hH => ?_)
  refine lv_aload_n C.hx C.hb dX1_parse_20 rfl (lv_at hl 0 rfl) ?_
  refine lv_iconst (v := Int32.ofInt 0) C.hx C.hb dX1_parse_21 rfl ?_
  refine r_put C hH o_t (by decide) rfl FL_RX1_36 FW_1_3 hf dX1_parse_22 (fun M22 H locs hf hH => ?_)
  refine lv_aload_n C.hx C.hb dX1_parse_25 rfl (lv_at hl 0 rfl) ?_
  refine lv_iconst (v := Int32.ofInt (-1)) C.hx C.hb dX1_parse_26 rfl ?_
  refine r_put C hH o_t (by decide) rfl FL_RX1_40 FW_1_4 hf dX1_parse_27 (fun M27 H locs hf hH => ?_)
  refine lv_iconst (v := Int32.ofInt 0) C.hx C.hb dX1_parse_30 rfl ?_
  refine lv_istore_n (lv' := [(2, i3 0), (0, .ref (eb E + t)), (1, .ref (eb E + r1))]) C.hx C.hb dX1_parse_31 rfl hl (by decide) rfl (fun ls hl => ?_)
  exact l_X1_parse_32 C hn o_t FU _ _ _ _ _ hf hH (lv_sub hl [1, 0] rfl)
