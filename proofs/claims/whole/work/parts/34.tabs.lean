/-! the two tables, made when they are asked for -/
theorem ob0 {n : Nat} (hn : nfull n) : ob n 0 10 := ⟨by decide +kernel, by rcases hn with rfl | rfl | rfl <;> decide⟩
theorem zeq_of {n : Nat} {z z' : Zs} (h1 : ∀ k, k < n → ∀ i, i < 48 → rs k i = true → z' k i = z k i) (h2 : ∀ i, z' 42 i = z 42 i) (hn : n ≤ 110) : zeq n z z' := by
  intro k hk i hr
  by_cases hi : i < 48
  · exact h1 k hk i hi hr
  · have h3 : ∀ k, k < 110 → tl k < 12 → (tm (tl k)).length ≤ 48 := by decide +kernel
    have h4 : ∀ k, k < 110 → tl k = 16 → k = 42 := by decide +kernel
    unfold rs at hr
    split at hr
    · rename_i h12
      have h5 : (tm (tl k))[i]? = none := List.getElem?_eq_none (by have := h3 k (by omega) h12; omega)
      rw [h5] at hr; cases hr
    · have := h4 k (by omega) (by simpa using hr)
      subst this
      exact h2 i
section TB1
variable {p : Program} {l : Launch} {e : Env} {R : Room} {s : State} {m : MethodId} {args : Array Value} {below : List Frame} {meth : Method} {c : Code} {H : Heap} {locs : List Loc} {cells slots : Nat} {Q : State → Prop}
variable {cc : ByteArray} {nL : Nat} {own nm0 : String} {ret : Option FieldType} {n0 : Nat} {E : EE} {n : Nat} {z : Zs} {M : Mem} {pc : Nat} {ls : Array Slot} {rest : List Value}
variable {y : MethodName} {cd : ByteArray} {ml fz lz mc ms np idx : Nat} {rt : Option FieldType} {As : List Value} {w : Value} {n' : Nat} {z' : Zs} {M' : Mem}
theorem w_run2 (C : Cx E p s m args meth c cc nL own ret n0 nm0) (hH : ST E s n z M H locs) {v : Option Value} {st0 : List Value} {a : Array Value} (hr : va_Run p l e R s m args below meth c H locs cells slots mc ms (F0 m pc ls st0) rest (QC E v n' z' M' a) (fr E))
    (kk : ∀ (H1 : Heap) (locs1 : List Loc), ST E s n' z' M' H1 locs1 → W p l e R s m args below meth c H1 locs1 (cells + mc) (slots + ms) Q (F0 m (pc + 3) ls (v.toList ++ rest))) : W p l e R s m args below meth c H locs cells slots Q (F0 m pc ls st0) := by
  intro T hT X
  obtain ⟨v1, st₀, t, T', L, h0, X', hL, e1, e2, ⟨hv, hG⟩, st⟩ := hr T hT X
  cases hv
  have hG' : GH E n' z' M' T'.heap := by rw [e1]; exact hG
  obtain ⟨t2, a1, b1⟩ := kk T'.heap (locs ++ L) ⟨hG', ⟨X'.same.2.1, fun q h1 h2 => by
      have h3 : q < eb E := Nat.not_le.mp h2
      rw [hG'.2.2.1 q h3, C.hlow q h3], fun q hq => by
      rcases List.mem_append.mp hq with h | h
      · exact hH.2.2.2 q h
      · exact hL q h⟩⟩ T' rfl X'
  exact ⟨t2, st t2 a1, b1⟩
theorem w_callV2 (C : Cx E p s m args meth c cc nL own ret n0 nm0) (hH : ST E s n z M H locs) {nv : List (Nat × Value)} (hlv : lv_has ls nL nv) {k ci : Nat} (ho : ob n k ci) (hc : ci < 12) (hcl : y.cls = (cCl ci).1) (hM : CT E l y cd ml rt fz lz mc ms (.ref (eb E + k) :: As) n z M (some w) n' z' M')
    (hl : Cond.methodLink own idx y ∈ tblG) (hm : MF y cd ml rt np) (hi : MI y) (hA : As.length = np) {st0 : List Value} (hst : st0 = As.reverse ++ .ref (eb E + k) :: rest) (hro : (rest.map fun v => v.category).sum ≤ 8) (hR : fz + 1 ≤ R.frames ∧ 8 + (ml + 11) + lz ≤ R.locals) (hcs : cells + mc ≤ R.cells ∧ slots + ms ≤ R.slots) (hd : decode cc pc = .ok (.invokevirtual idx, 3))
    (kk : ∀ (H1 : Heap) (locs1 : List Loc), ST E s n' z' M' H1 locs1 → W p l e R s m args below meth c H1 locs1 (cells + mc) (slots + ms) Q (F0 m (pc + 3) ls (w :: rest))) : W p l e R s m args below meth c H locs cells slots Q (F0 m pc ls st0) := by
  subst hst
  obtain ⟨CN, T, N, ty, h1, -⟩ := clOG ci hc
  have hrecv := va_recv C.hg.1 hH.1.1 h1 (by rw [wl_get ho.2, ent_obj ho.1 hc])
  rw [cCl_of h1] at hcl
  have hcl : y.cls = CN := hcl
  have cw : CallW R s args own CN idx y cd ml rt (.code y cd ml rt :: tblG) { frames := fz, cells := mc, slots := ms, locals := lz } mc ms np := ⟨callB_of np C.ht (good_ws C hm) rfl rfl rfl (C.ht _ hm.2.1) (C.ht _ hl) hm.2.2 hR, C.ht _ hi.1, by rw [← hcl]; exact C.ht _ hi.2⟩
  exact w_run2 C hH (va_runV (Ts := tblG) ⟨C.hx, C.hb, C.hml, C.ho, C.ht⟩ hM cw ⟨pc_blind _, hrecv, pc_at C hH _⟩ rfl hA hlv.1 rfl (lv_room hro) hd hcs) kk
end TB1
def zlow (n : Nat) (z : Zs) : Zs := fun k i => if k < n then z k i else false
theorem zlow_eq {n : Nat} {z : Zs} : zeq n z (zlow n z) := fun k hk i _ => by simp [zlow, hk]
theorem zlow_fr {n : Nat} {z : Zs} : ∀ k i, n ≤ k → zlow n z k i = false := fun k i h => by simp [zlow, Nat.not_lt.mpr h]
theorem FW_10_8 : FW 10 8 (.object "HeavierByHand$RowTable") := ⟨rfl, by decide +kernel⟩
theorem FW_10_9 : FW 10 9 (.object "HeavierByHand$RowTable") := ⟨rfl, by decide +kernel⟩
theorem z106 : zeq 106 (zu (zc_X2_init_102 (zlow 102 (zf 102))) 0 8) (zf 106) := zeq_of (by decide +kernel) (fun i => by rfl) (by decide)
theorem z110 : zeq 110 (zu (zc_X2_init_106 (zlow 106 (zf 106))) 0 9) (zf 110) := zeq_of (by decide +kernel) (fun i => by rfl) (by decide)
/-- the cell of all ROWS' table is 102 -/
def fn_X10_tableOfAll (M : Mem) : Option Mem := if M 0 8 = 0 then (if M 0 9 = 0 then fn_X2_suit 102 1 (-1) (mc_X2_init_102 (up (zr M 102) 0 8 1)) else none) else fn_X2_suit 102 1 (-1) M
def fn_X10_tableWithout (a1 : Int) (M : Mem) : Option Mem := if M 0 8 = 0 then none else if M 0 9 = 0 then fn_X2_suit 106 1 a1 (mc_X2_init_106 (up (zr M 106) 0 9 1)) else fn_X2_suit 106 1 a1 M
set_option maxRecDepth 100000 in
set_option maxHeartbeats 4000000 in
theorem m_X10_tableOfAll {E : EE} {l : Launch} {n : Nat} {M o : Mem} (hn : nfull n) (hf : fn_X10_tableOfAll M = some o) : CT E l yX10_tableOfAll cX10_tableOfAll 2 (some (.object "HeavierByHand$RowTable")) 6 200 4 47057 [.ref (eb E + 0)] n (zf n) M (some (.ref (eb E + 102))) (nOf o) (zf (nOf o)) o := by
  refine CT_of PN_RX10 (Nat.le_of_ble_eq_true rfl) ?_
  intro p e s m args below meth c C hH ls hl
  replace C : Cx E p s m args meth c cX10_tableOfAll 2 RX10 (some (.object "HeavierByHand$RowTable")) n "tableOfAll" := C
  have hl : lv_has ls 2 [(0, .ref (eb E + 0))] := hl
  have hq := hH.1.2.2.2 hn
  unfold fn_X10_tableOfAll at hf
  by_cases h8 : M 0 8 = 0
  · rw [if_pos h8] at hf
    have hn2 : n = 102 := by rw [← hq]; simp [nOf, h8]
    subst hn2
    refine lv_aload_n C.hx C.hb dX10_tableOfAll_0 rfl (lv_at hl 0 rfl) ?_
    refine w_getN (k := 0) (off := 102) C hH (by decide) rfl (by decide) rfl rfl FL_RX10_295 dX10_tableOfAll_1 ?_
    refine lv_astore_nN (lv' := [(1, .null), (0, .ref (eb E + 0))]) C.hx C.hb dX10_tableOfAll_4 rfl hl (by decide) rfl (fun ls hl => ?_)
    refine lv_aload_nN C.hx C.hb dX10_tableOfAll_5 rfl (lv_at hl 0 rfl) ?_
    refine lv_ifnonnullN C.hx C.hb dX10_tableOfAll_6 ?_
    replace hH := ST_z (zlow_eq (n := 102)) hH
    refine w_newO (M' := up (zr M 102) 0 8 1) (N := 7) C (by decide) hH (fun k i h => up_ne h i) (Or.inl (by decide)) rfl (by decide) (fun i => zlow_fr 102 i (Nat.le_refl _)) KC_RX10_203 IS_2 IZ_2 rfl DF_2 (Nat.le_of_ble_eq_true rfl) (Nat.le_of_ble_eq_true rfl) (fun h => absurd h (by unfold nfull; omega)) dX10_tableOfAll_9 (fun H hH => ?_)
    refine lv_dup C.hx C.hb dX10_tableOfAll_12 rfl ?_
    refine lv_bipush (v := Int32.ofInt 12) C.hx C.hb dX10_tableOfAll_13 (by decide) ?_
    by_cases h9 : M 0 9 = 0
    · rw [if_pos h9] at hf
      refine w_callI (k := 102) (rest := [.ref (eb E + 102)]) C hH hl (m_X2_init_102 (z := zlow 102 (zf 102)) (fun k i h => zlow_fr k i h) (by show nOf (up (zr M 102) 0 8 1) = 106; simp [nOf, up, zr, h9])) (by decide) ML_RX10_299 MF_X2_init MI_X2_init rfl rfl rfl (Nat.le_of_ble_eq_true rfl) ⟨Nat.le_of_ble_eq_true rfl, Nat.le_of_ble_eq_true rfl⟩ ⟨Nat.le_of_ble_eq_true rfl, Nat.le_of_ble_eq_true rfl⟩ dX10_tableOfAll_15 (fun H locs hH => ?_)
      refine lv_astore_n (lv' := [(1, .ref (eb E + 102)), (0, .ref (eb E + 0))]) C.hx C.hb dX10_tableOfAll_18 rfl hl (by decide) rfl (fun ls hl => ?_)
      refine lv_aload_n C.hx C.hb dX10_tableOfAll_19 rfl (lv_at hl 1 rfl) ?_
      refine lv_aload_n C.hx C.hb dX10_tableOfAll_20 rfl (lv_at hl 0 rfl) ?_
      refine w_putR (k := 0) (off := 102) C (by decide) hH (by decide) rfl (by decide) rfl FL_RX10_295 FW_10_8 (fun _ => rfl) (fun _ => rfl) dX10_tableOfAll_21 (fun H locs hH => ?_)
      replace hH : ST E s 106 (zf 106) (mc_X2_init_102 (up (zr M 102) 0 8 1)) H locs := ST_z z106 hH
      have hn : nfull 106 := Or.inr (Or.inl rfl)
      refine lv_aload_n C.hx C.hb dX10_tableOfAll_24 rfl (lv_at hl 0 rfl) ?_
      refine lv_aload_n C.hx C.hb dX10_tableOfAll_25 rfl (lv_at hl 1 rfl) ?_
      refine g_ref (off := 1) C hH (ob0 hn) (by decide) rfl rfl FL_RX10_10 dX10_tableOfAll_26 ?_
      refine lv_iconst (v := Int32.ofInt (-1)) C.hx C.hb dX10_tableOfAll_29 rfl ?_
      refine r_callVv (k := 102) (ci := 2) (rest := []) C hH hl ⟨rfl, by decide⟩ (by decide) rfl (m_X2_suit (t := 102) (r1 := 1) hn ⟨rfl, by decide⟩ ⟨rfl, by decide⟩ hf) ML_RX10_301 MF_X2_suit MI_X2_suit rfl rfl (Nat.le_of_ble_eq_true rfl) ⟨Nat.le_of_ble_eq_true rfl, Nat.le_of_ble_eq_true rfl⟩ ⟨Nat.le_of_ble_eq_true rfl, Nat.le_of_ble_eq_true rfl⟩ dX10_tableOfAll_30 (fun H locs hH => ?_)
      refine lv_aload_n C.hx C.hb dX10_tableOfAll_33 rfl (lv_at hl 0 rfl) ?_
      rw [hH.1.2.2.2 hn]
      exact w_aret (x := some 102) C hH rfl dX10_tableOfAll_34
    · rw [if_neg h9] at hf
      cases hf
  · rw [if_neg h8] at hf
    have hz8 : zf n 0 8 = true := by
      have : 102 < n := by rw [← hq]; unfold nOf; rw [if_neg h8]; split <;> decide
      simp [zf, this]
    have h102 : ob n 102 2 := ⟨by decide +kernel, by rw [← hq]; unfold nOf; rw [if_neg h8]; split <;> decide⟩
    have ob1 : ob n 1 4 := ly (i := 0) (off := 1) (k := 4) hn (ob0 hn) rfl rfl rfl
    refine lv_aload_n C.hx C.hb dX10_tableOfAll_0 rfl (lv_at hl 0 rfl) ?_
    refine w_getR (k := 0) (off := 102) C hH (ob0 hn).2 rfl (by decide) rfl hz8 FL_RX10_295 dX10_tableOfAll_1 ?_
    refine lv_astore_n (lv' := [(1, .ref (eb E + 102)), (0, .ref (eb E + 0))]) C.hx C.hb dX10_tableOfAll_4 rfl hl (by decide) rfl (fun ls hl => ?_)
    refine lv_aload_n C.hx C.hb dX10_tableOfAll_5 rfl (lv_at hl 0 rfl) ?_
    refine lv_ifnonnull (tgt := 24) C.hx C.hb dX10_tableOfAll_6 (by decide) ?_
    refine lv_aload_n C.hx C.hb dX10_tableOfAll_24 rfl (lv_at hl 0 rfl) ?_
    refine lv_aload_n C.hx C.hb dX10_tableOfAll_25 rfl (lv_at hl 1 rfl) ?_
    refine g_ref (off := 1) C hH (ob0 hn) (by decide) rfl rfl FL_RX10_10 dX10_tableOfAll_26 ?_
    refine lv_iconst (v := Int32.ofInt (-1)) C.hx C.hb dX10_tableOfAll_29 rfl ?_
    refine r_callVv (k := 102) (ci := 2) (rest := []) C hH hl h102 (by decide) rfl (m_X2_suit (t := 102) (r1 := 1) hn h102 ob1 hf) ML_RX10_301 MF_X2_suit MI_X2_suit rfl rfl (Nat.le_of_ble_eq_true rfl) ⟨Nat.le_of_ble_eq_true rfl, Nat.le_of_ble_eq_true rfl⟩ ⟨Nat.le_of_ble_eq_true rfl, Nat.le_of_ble_eq_true rfl⟩ dX10_tableOfAll_30 (fun H locs hH => ?_)
    refine lv_aload_n C.hx C.hb dX10_tableOfAll_33 rfl (lv_at hl 0 rfl) ?_
    rw [hH.1.2.2.2 hn]
    refine W.widen (k := 4) (n := 47057) (Nat.le_of_ble_eq_true rfl) (Nat.le_of_ble_eq_true rfl) ?_
    exact w_aret (x := some 102) C hH rfl dX10_tableOfAll_34
set_option maxRecDepth 100000 in
set_option maxHeartbeats 4000000 in
theorem m_X10_tableWithout {E : EE} {l : Launch} {n : Nat} {a1 : Int} {M o : Mem} (hn : nfull n) (hf : fn_X10_tableWithout a1 M = some o) : CT E l yX10_tableWithout cX10_tableWithout 3 (some (.object "HeavierByHand$RowTable")) 6 200 4 6097 [.ref (eb E + 0), i3 a1] n (zf n) M (some (.ref (eb E + 106))) (nOf o) (zf (nOf o)) o := by
  refine CT_of PN_RX10 (Nat.le_of_ble_eq_true rfl) ?_
  intro p e s m args below meth c C hH ls hl
  replace C : Cx E p s m args meth c cX10_tableWithout 3 RX10 (some (.object "HeavierByHand$RowTable")) n "tableWithout" := C
  have hl : lv_has ls 3 [(0, .ref (eb E + 0)), (1, i3 a1)] := hl
  have hq := hH.1.2.2.2 hn
  unfold fn_X10_tableWithout at hf
  by_cases h8 : M 0 8 = 0
  · rw [if_pos h8] at hf; cases hf
  rw [if_neg h8] at hf
  by_cases h9 : M 0 9 = 0
  · rw [if_pos h9] at hf
    have hn2 : n = 106 := by rw [← hq]; simp [nOf, h8, h9]
    subst hn2
    refine lv_aload_n C.hx C.hb dX10_tableWithout_0 rfl (lv_at hl 0 rfl) ?_
    refine w_getN (k := 0) (off := 106) C hH (by decide) rfl (by decide) rfl rfl FL_RX10_305 dX10_tableWithout_1 ?_
    refine lv_astore_nN (lv' := [(2, .null), (0, .ref (eb E + 0)), (1, i3 a1)]) C.hx C.hb dX10_tableWithout_4 rfl hl (by decide) rfl (fun ls hl => ?_)
    refine lv_aload_nN C.hx C.hb dX10_tableWithout_5 rfl (lv_at hl 0 rfl) ?_
    refine lv_ifnonnullN C.hx C.hb dX10_tableWithout_6 ?_
    replace hH := ST_z (zlow_eq (n := 106)) hH
    refine w_newO (M' := up (zr M 106) 0 9 1) (N := 7) C (by decide) hH (fun k i h => up_ne h i) (Or.inl (by decide)) rfl (by decide) (fun i => zlow_fr 106 i (Nat.le_refl _)) KC_RX10_203 IS_2 IZ_2 rfl DF_2 (Nat.le_of_ble_eq_true rfl) (Nat.le_of_ble_eq_true rfl) (fun h => absurd h (by unfold nfull; omega)) dX10_tableWithout_9 (fun H hH => ?_)
    refine lv_dup C.hx C.hb dX10_tableWithout_12 rfl ?_
    refine lv_iconst (v := Int32.ofInt 4) C.hx C.hb dX10_tableWithout_13 rfl ?_
    refine w_callI (k := 106) (rest := [.ref (eb E + 106)]) C hH hl (m_X2_init_106 (z := zlow 106 (zf 106)) (fun k i h => zlow_fr k i h) (by show nOf (up (zr M 106) 0 9 1) = 110; simp [nOf, up, zr, h8])) (by decide) ML_RX10_299 MF_X2_init MI_X2_init rfl rfl rfl (Nat.le_of_ble_eq_true rfl) ⟨Nat.le_of_ble_eq_true rfl, Nat.le_of_ble_eq_true rfl⟩ ⟨Nat.le_of_ble_eq_true rfl, Nat.le_of_ble_eq_true rfl⟩ dX10_tableWithout_14 (fun H locs hH => ?_)
    refine lv_astore_n (lv' := [(2, .ref (eb E + 106)), (0, .ref (eb E + 0)), (1, i3 a1)]) C.hx C.hb dX10_tableWithout_17 rfl hl (by decide) rfl (fun ls hl => ?_)
    refine lv_aload_n C.hx C.hb dX10_tableWithout_18 rfl (lv_at hl 1 rfl) ?_
    refine lv_aload_n C.hx C.hb dX10_tableWithout_19 rfl (lv_at hl 0 rfl) ?_
    refine w_putR (k := 0) (off := 106) C (by decide) hH (by decide) rfl (by decide) rfl FL_RX10_305 FW_10_9 (fun _ => rfl) (fun _ => rfl) dX10_tableWithout_20 (fun H locs hH => ?_)
    replace hH : ST E s 110 (zf 110) (mc_X2_init_106 (up (zr M 106) 0 9 1)) H locs := ST_z z110 hH
    have hn : nfull 110 := Or.inr (Or.inr rfl)
    refine lv_aload_n C.hx C.hb dX10_tableWithout_23 rfl (lv_at hl 0 rfl) ?_
    refine lv_aload_n C.hx C.hb dX10_tableWithout_24 rfl (lv_at hl 1 rfl) ?_
    refine g_ref (off := 1) C hH (ob0 hn) (by decide) rfl rfl FL_RX10_10 dX10_tableWithout_25 ?_
    refine lv_iload_n C.hx C.hb dX10_tableWithout_28 rfl (lv_at hl 2 rfl) ?_
    refine r_callVv (k := 106) (ci := 2) (rest := []) C hH hl ⟨rfl, by decide⟩ (by decide) rfl (m_X2_suit (t := 106) (r1 := 1) hn ⟨rfl, by decide⟩ ⟨rfl, by decide⟩ hf) ML_RX10_301 MF_X2_suit MI_X2_suit rfl rfl (Nat.le_of_ble_eq_true rfl) ⟨Nat.le_of_ble_eq_true rfl, Nat.le_of_ble_eq_true rfl⟩ ⟨Nat.le_of_ble_eq_true rfl, Nat.le_of_ble_eq_true rfl⟩ dX10_tableWithout_29 (fun H locs hH => ?_)
    refine lv_aload_n C.hx C.hb dX10_tableWithout_32 rfl (lv_at hl 0 rfl) ?_
    rw [hH.1.2.2.2 hn]
    exact w_aret (x := some 106) C hH rfl dX10_tableWithout_33
  · rw [if_neg h9] at hf
    have hn2 : n = 110 := by rw [← hq]; simp [nOf, h8, h9]
    subst hn2
    have h106 : ob 110 106 2 := ⟨by decide +kernel, by decide⟩
    have ob1 : ob 110 1 4 := ly (i := 0) (off := 1) (k := 4) hn (ob0 hn) rfl rfl rfl
    refine lv_aload_n C.hx C.hb dX10_tableWithout_0 rfl (lv_at hl 0 rfl) ?_
    refine w_getR (k := 0) (off := 106) C hH (ob0 hn).2 rfl (by decide) rfl rfl FL_RX10_305 dX10_tableWithout_1 ?_
    refine lv_astore_n (lv' := [(2, .ref (eb E + 106)), (0, .ref (eb E + 0)), (1, i3 a1)]) C.hx C.hb dX10_tableWithout_4 rfl hl (by decide) rfl (fun ls hl => ?_)
    refine lv_aload_n C.hx C.hb dX10_tableWithout_5 rfl (lv_at hl 0 rfl) ?_
    refine lv_ifnonnull (tgt := 23) C.hx C.hb dX10_tableWithout_6 (by decide) ?_
    refine lv_aload_n C.hx C.hb dX10_tableWithout_23 rfl (lv_at hl 0 rfl) ?_
    refine lv_aload_n C.hx C.hb dX10_tableWithout_24 rfl (lv_at hl 1 rfl) ?_
    refine g_ref (off := 1) C hH (ob0 hn) (by decide) rfl rfl FL_RX10_10 dX10_tableWithout_25 ?_
    refine lv_iload_n C.hx C.hb dX10_tableWithout_28 rfl (lv_at hl 2 rfl) ?_
    refine r_callVv (k := 106) (ci := 2) (rest := []) C hH hl h106 (by decide) rfl (m_X2_suit (t := 106) (r1 := 1) hn h106 ob1 hf) ML_RX10_301 MF_X2_suit MI_X2_suit rfl rfl (Nat.le_of_ble_eq_true rfl) ⟨Nat.le_of_ble_eq_true rfl, Nat.le_of_ble_eq_true rfl⟩ ⟨Nat.le_of_ble_eq_true rfl, Nat.le_of_ble_eq_true rfl⟩ dX10_tableWithout_29 (fun H locs hH => ?_)
    refine lv_aload_n C.hx C.hb dX10_tableWithout_32 rfl (lv_at hl 0 rfl) ?_
    rw [hH.1.2.2.2 hn]
    refine W.widen (k := 4) (n := 6097) (Nat.le_of_ble_eq_true rfl) (Nat.le_of_ble_eq_true rfl) ?_
    exact w_aret (x := some 106) C hH rfl dX10_tableWithout_33
