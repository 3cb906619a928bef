/-! the Strings and the row of chosen grains -/
theorem PN_J0 : plainName RJ0 = true := by decide +kernel
theorem PN_J1 : plainName RJ1 = true := by decide +kernel
theorem PN_J3 : plainName RJ3 = true := by decide +kernel
theorem FJ_15 : Cond.fieldLink RJ0 15 "java/lang/String" "coder" "B" ∈ tblG := tg_in (by decide +kernel) rfl
theorem FJ_9 : Cond.fieldLink RJ0 9 "java/lang/String" "value" "[B" ∈ tblG := tg_in (by decide +kernel) rfl
theorem FJ_38 : Cond.fieldLink RJ0 38 "java/lang/String" "COMPACT_STRINGS" "Z" ∈ tblG := tg_in (by decide +kernel) rfl
theorem FJ_1053 : Cond.fieldLink RJ0 1053 "jdk/internal/util/Preconditions" "SIOOBE_FORMATTER" "Ljava/util/function/BiFunction;" ∈ tblG := tg_in (by decide +kernel) rfl
theorem FX_247 : Cond.fieldLink RX10 247 "HeavierByHand" "CHOSEN_GRAINS" "[I" ∈ tblG := tg_in (by decide +kernel) rfl
def sln (j : Nat) : Int := ((sLen.getD j 0 : Nat) : Int)
def sch (j : Nat) (i : Int) : Int := (sBytN.getD j []).getD i.toNat 0
theorem sch_ok : ∀ j, j < 16 → ∀ i, i < sLen.getD j 0 → (((sByt.getD j []).getD i 0 &&& Int32.ofInt 255).toUInt32 % 65536).toInt32 = Int32.ofInt ((sBytN.getD j []).getD i 0) ∧ narrow .char (.int (Int32.ofInt ((sBytN.getD j []).getD i 0))) = .int (Int32.ofInt ((sBytN.getD j []).getD i 0)) := by decide +kernel
theorem sln_lt : ∀ j, j < 16 → sLen.getD j 0 < 7 := by decide +kernel
section STR
variable {p : Program} {l : Launch} {e : Env} {R : Room} {s : State} {m : MethodId} {args : Array Value} {below : List Frame} {meth : Method} {c : Code} {H : Heap} {locs : List Loc} {cells slots : Nat} {Q : State → Prop}
variable {cc : ByteArray} {nL : Nat} {own nm0 : String} {ret : Option FieldType} {n0 : Nat} {E : EE} {n : Nat} {z : Zs} {M : Mem} {pc : Nat} {ls : Array Slot} {rest : List Value} {ρ : Type} {o : ρ}
theorem Cx.kq (C : Cx E p s m args meth c cc nL own ret n0 nm0) : ∀ a : Nat, a < (eH E).size → ¬ fr E a → s.heap[a]? = (eH E)[a]? := fun a _ h => C.hlow a (Nat.not_le.mp h)
theorem Cx.kS (C : Cx E p s m args meth c cc nL own ret n0 nm0) : vk_S 16 sLen sByt (eK E) (eV E) (fr E) s s.heap := C.hg.2.2.1.kept C.kq
theorem Cx.kZ (C : Cx E p s m args meth c cc nL own ret n0 nm0) : va_Z "java/lang/String" "COMPACT_STRINGS" "Z" (.int 1) (fr E) s s.heap := C.hg.2.2.2.2.1.kept C.kq
theorem Cx.kG (C : Cx E p s m args meth c cc nL own ret n0 nm0) : va_Z "HeavierByHand" "CHOSEN_GRAINS" "[I" (.ref (eG E)) (fr E) s s.heap := C.hg.2.2.2.2.2.1.kept C.kq
theorem Cx.kT (C : Cx E p s m args meth c cc nL own ret n0 nm0) : va_T .int (eG E) 60 (fun j => i3 (chL.getD j 0)) (fr E) s s.heap := C.hg.2.2.2.2.2.2.1.kept C.kq
theorem Cx.kF (C : Cx E p s m args meth c cc nL own ret n0 nm0) : va_Zq "jdk/internal/util/Preconditions" "SIOOBE_FORMATTER" "Ljava/util/function/BiFunction;" (fr E) s s.heap := C.hg.2.2.2.2.2.2.2.2.kept C.kq
theorem r_chs (C : Cx E p s m args meth c cc nL RX10 ret n0 nm0) (hH : ST E s n z M H locs) (hd : decode cc pc = .ok (.getstatic 247, 3)) (kk : W p l e R s m args below meth c H locs cells slots Q (F0 m (pc + 3) ls (.ref (eG E) :: rest))) : W p l e R s m args below meth c H locs cells slots Q (F0 m pc ls rest) :=
  va_gets C.hx C.hb C.kG hH.2 C.ho (C.ht _ FX_247) (fun _ h => h) hd kk
theorem r_chl (C : Cx E p s m args meth c cc nL own ret n0 nm0) (hH : ST E s n z M H locs) {i : Int} (hi : 0 ≤ i ∧ i < 60) (hd : decode cc pc = .ok (.iaload, 1)) (kk : W p l e R s m args below meth c H locs cells slots Q (F0 m (pc + 1) ls (i3 (chL.getD i.toNat 0) :: rest))) : W p l e R s m args below meth c H locs cells slots Q (F0 m pc ls (i3 i :: .ref (eG E) :: rest)) :=
  va_ti C.hx C.hb C.kT hH.2 (r3_in hi.1 (by exact hi.2) (by decide)) (by rw [r3_nat hi.1 (n := 60) (by exact hi.2) (by decide)]) hd kk
theorem r_chn (C : Cx E p s m args meth c cc nL own ret n0 nm0) (hH : ST E s n z M H locs) (hd : decode cc pc = .ok (.arraylength, 1)) (kk : W p l e R s m args below meth c H locs cells slots Q (F0 m (pc + 1) ls (i3 60 :: rest))) : W p l e R s m args below meth c H locs cells slots Q (F0 m pc ls (.ref (eG E) :: rest)) :=
  va_tlen C.hx C.hb C.kT hH.2 (by decide) hd kk
theorem r_ldcS {j : Nat} (C : Cx E p s m args meth c cc nL RX8 ret n0 nm0) (hj : j < 16) (hd : decode cc pc = .ok (.ldc (sIx.getD j 0), 2)) (kk : W p l e R s m args below meth c H locs cells slots Q (F0 m (pc + 2) ls (.ref (eK E j) :: rest))) : W p l e R s m args below meth c H locs cells slots Q (F0 m pc ls rest) :=
  va_ldcS C.hx C.hb C.ho (C.hg.2.2.2.1 j hj) hd kk
end STR
theorem m_J_coder {E : EE} {l : Launch} {n : Nat} {z : Zs} {M : Mem} {j : Nat} (hj : j < 16) : CT E l yJ0_coder_7d493 cJ0_coder_7d493 1 (some .byte) 0 0 0 0 [.ref (eK E j)] n z M (some (i3 0)) n z M := by
  refine CT_of PN_J0 (Nat.le_of_ble_eq_true rfl) ?_
  intro p e s m args below meth c C hH ls hl
  have hl : lv_has ls 1 [(0, .ref (eK E j))] := hl
  refine va_gets C.hx C.hb C.kZ hH.2 C.ho (C.ht _ FJ_38) (fun _ h => h) dJ0_coder_7d493_0 ?_
  refine lv_if_eq (tgt := 13) C.hx C.hb dJ0_coder_7d493_3 (by decide) (fun q => absurd q (by decide)) (fun _ => ?_)
  refine lv_aload_n C.hx C.hb dJ0_coder_7d493_6 rfl (lv_at hl 0 rfl) ?_
  refine vk_getf C.hx C.hb (C.kS.1 j hj).2.1 hH.2 C.ho (C.ht _ FJ_15) (fun _ h => h) dJ0_coder_7d493_7 ?_
  refine lv_goto (tgt := 14) C.hx C.hb dJ0_coder_7d493_10 (by decide) ?_
  exact W.zret C.hx C.hb C.hr rfl (fun t ht _ => ⟨rfl, by rw [ht]; exact hH.1⟩) hH.2.2.2 dJ0_coder_7d493_14 C.hk
theorem m_J_isLatin1 {E : EE} {l : Launch} {n : Nat} {z : Zs} {M : Mem} {j : Nat} (hj : j < 16) : CT E l yJ0_isLatin1_aae02 cJ0_isLatin1_aae02 1 (some .boolean) 0 0 0 0 [.ref (eK E j)] n z M (some (i3 1)) n z M := by
  refine CT_of PN_J0 (Nat.le_of_ble_eq_true rfl) ?_
  intro p e s m args below meth c C hH ls hl
  have hl : lv_has ls 1 [(0, .ref (eK E j))] := hl
  refine va_gets C.hx C.hb C.kZ hH.2 C.ho (C.ht _ FJ_38) (fun _ h => h) dJ0_isLatin1_aae02_0 ?_
  refine lv_if_eq (tgt := 17) C.hx C.hb dJ0_isLatin1_aae02_3 (by decide) (fun q => absurd q (by decide)) (fun _ => ?_)
  refine lv_aload_n C.hx C.hb dJ0_isLatin1_aae02_6 rfl (lv_at hl 0 rfl) ?_
  refine vk_getf C.hx C.hb (C.kS.1 j hj).2.1 hH.2 C.ho (C.ht _ FJ_15) (fun _ h => h) dJ0_isLatin1_aae02_7 ?_
  refine lv_if_ne (tgt := 17) C.hx C.hb dJ0_isLatin1_aae02_10 (by decide) (fun q => absurd rfl q) (fun _ => ?_)
  refine lv_iconst (v := Int32.ofInt 1) C.hx C.hb dJ0_isLatin1_aae02_13 rfl ?_
  refine lv_goto (tgt := 18) C.hx C.hb dJ0_isLatin1_aae02_14 (by decide) ?_
  exact w_zret C hH (Or.inr rfl) dJ0_isLatin1_aae02_18
section STR2
variable {p : Program} {l : Launch} {e : Env} {R : Room} {s : State} {m : MethodId} {args : Array Value} {below : List Frame} {meth : Method} {c : Code} {H : Heap} {locs : List Loc} {cells slots : Nat} {Q : State → Prop}
variable {cc : ByteArray} {nL : Nat} {own nm0 : String} {ret : Option FieldType} {n0 : Nat} {E : EE} {n : Nat} {z : Zs} {M : Mem} {pc : Nat} {ls : Array Slot} {rest : List Value}
variable {y : MethodName} {cd : ByteArray} {ml fz lz np idx : Nat} {rt : Option FieldType} {As : List Value} {w : Value}
theorem r_callK (C : Cx E p s m args meth c cc nL own ret n0 nm0) (hH : ST E s n z M H locs) {nv : List (Nat × Value)} (hlv : lv_has ls nL nv) {j : Nat} (hj : j < 16) (hcl : y.cls = "java/lang/String") (hM : CT E l y cd ml rt fz lz 0 0 (.ref (eK E j) :: As) n z M (some w) n z M)
    (hl : Cond.methodLink own idx y ∈ tblG) (hm : MF y cd ml rt np) (hi : MI y) (hA : As.length = np) {st0 : List Value} (hst : st0 = As.reverse ++ .ref (eK E j) :: rest) (hro : (rest.map fun v => v.category).sum ≤ 8) (hR : fz + 1 ≤ R.frames ∧ 8 + (ml + 11) + lz ≤ R.locals) (hcs : cells ≤ R.cells ∧ slots ≤ R.slots) (hd : decode cc pc = .ok (.invokevirtual idx, 3))
    (kk : ∀ (H1 : Heap) (locs1 : List Loc), ST E s n z M H1 locs1 → W p l e R s m args below meth c H1 locs1 cells slots Q (F0 m (pc + 3) ls (w :: rest))) : W p l e R s m args below meth c H locs cells slots Q (F0 m pc ls st0) := by
  subst hst
  have hrecv := vk_recv C.kS hj hH.2
  have cw : CallW R s args own "java/lang/String" idx y cd ml rt (.code y cd ml rt :: tblG) { frames := fz, cells := 0, slots := 0, locals := lz } 0 0 np := ⟨callB_of np C.ht (good_ws C hm) rfl rfl rfl (C.ht _ hm.2.1) (C.ht _ hl) hm.2.2 hR, C.ht _ hi.1, by rw [← hcl]; exact C.ht _ hi.2⟩
  exact w_run C hH (Nat.le_refl n) (va_runV (Ts := tblG) ⟨C.hx, C.hb, C.hml, C.ho, C.ht⟩ hM cw ⟨pc_blind _, hrecv, pc_at C hH _⟩ rfl hA hlv.1 rfl (lv_room hro) hd hcs) kk
end STR2
theorem m_J_length {E : EE} {l : Launch} {n : Nat} {z : Zs} {M : Mem} {j : Nat} (hj : j < 16) : CT E l yJ0_length_8abf5 cJ0_length_8abf5 1 (some .int) 1 30 0 0 [.ref (eK E j)] n z M (some (i3 (sln j))) n z M := by
  refine CT_of PN_J0 (Nat.le_of_ble_eq_true rfl) ?_
  intro p e s m args below meth c C hH ls hl
  have hl : lv_has ls 1 [(0, .ref (eK E j))] := hl
  refine lv_aload_n C.hx C.hb dJ0_length_8abf5_0 rfl (lv_at hl 0 rfl) ?_
  refine vk_getf C.hx C.hb (C.kS.1 j hj).2.2.1 hH.2 C.ho (C.ht _ FJ_9) (fun _ h => h) dJ0_length_8abf5_1 ?_
  refine va_tlen (v := Int32.ofInt (sln j)) C.hx C.hb (C.kS.1 j hj).2.2.2 hH.2 rfl dJ0_length_8abf5_4 ?_
  refine lv_aload_n C.hx C.hb dJ0_length_8abf5_5 rfl (lv_at hl 0 rfl) ?_
  refine r_callK (rest := [i3 (sln j)]) C hH hl hj rfl (m_J_coder hj) ML_RJ0_335 MF_J0_coder_7d493 MI_J0_coder_7d493 rfl rfl (Nat.le_of_ble_eq_true rfl) ⟨Nat.le_of_ble_eq_true rfl, Nat.le_of_ble_eq_true rfl⟩ ⟨Nat.le_refl _, Nat.le_refl _⟩ dJ0_length_8abf5_6 (fun H locs hH => ?_)
  have h7 : ∀ q, q < 7 → Int32.ofInt ((q : Nat) : Int) >>> (Int32.ofInt 0 &&& 31) = Int32.ofInt ((q : Nat) : Int) := by decide
  refine lv_ishr C.hx C.hb dJ0_length_8abf5_9 ?_
  rw [show Int32.ofInt (sln j) >>> (Int32.ofInt 0 &&& 31) = Int32.ofInt (sln j) from h7 _ (sln_lt j hj)]
  exact w_iret C hH dJ0_length_8abf5_10
theorem m_J_pre {E : EE} {l : Launch} {n : Nat} {z : Zs} {M : Mem} {a b : Int} {v : Value} (h : 0 ≤ a ∧ a < b ∧ b < 2147483648) (hv : v = .null ∨ ∃ t, v = .ref t) : CT E l yJ3_checkIndex_8e157 cJ3_checkIndex_8e157 3 (some .int) 0 0 0 0 [i3 a, i3 b, v] n z M (some (i3 a)) n z M := by
  refine CT_of PN_J3 (by rcases hv with rfl | ⟨t, rfl⟩ <;> exact Nat.le_of_ble_eq_true rfl) ?_
  intro p e s m args below meth c C hH ls hl
  have hl2 : lv_has ls 3 [(0, i3 a), (1, i3 b)] := by rcases hv with rfl | ⟨t, rfl⟩ <;> exact lv_sub hl [0, 1] rfl
  have hl := hl2
  refine lv_iload_n C.hx C.hb dJ3_checkIndex_8e157_0 rfl (lv_at hl 0 rfl) ?_
  refine lv_if_lt (tgt := 9) C.hx C.hb dJ3_checkIndex_8e157_1 (by decide) (fun q => absurd ((r3_lt (x := a) (y := 0) ⟨by omega, by omega⟩ ⟨by decide, by decide⟩).mp q) (by omega)) (fun _ => ?_)
  refine lv_iload_n C.hx C.hb dJ3_checkIndex_8e157_4 rfl (lv_at hl 0 rfl) ?_
  refine lv_iload_n C.hx C.hb dJ3_checkIndex_8e157_5 rfl (lv_at hl 1 rfl) ?_
  refine lv_icmp_lt (tgt := 16) C.hx C.hb dJ3_checkIndex_8e157_6 (by decide) (fun _ => ?_) (fun q => absurd ((r3_lt (x := a) (y := b) ⟨by omega, by omega⟩ ⟨by omega, by omega⟩).mpr h.2.1) q)
  refine lv_iload_n C.hx C.hb dJ3_checkIndex_8e157_16 rfl (lv_at hl 0 rfl) ?_
  exact w_iret C hH dJ3_checkIndex_8e157_17
theorem m_J_check {E : EE} {l : Launch} {n : Nat} {z : Zs} {M : Mem} {a b : Int} (h : 0 ≤ a ∧ a < b ∧ b < 2147483648) : CT E l yJ0_checkIndex_df160 cJ0_checkIndex_df160 2 none 1 30 0 0 [i3 a, i3 b] n z M none n z M := by
  refine CT_of PN_J0 (Nat.le_of_ble_eq_true rfl) ?_
  intro p e s m args below meth c C hH ls hl
  have hl : lv_has ls 2 [(0, i3 a), (1, i3 b)] := hl
  refine lv_iload_n C.hx C.hb dJ0_checkIndex_df160_0 rfl (lv_at hl 0 rfl) ?_
  refine lv_iload_n C.hx C.hb dJ0_checkIndex_df160_1 rfl (lv_at hl 1 rfl) ?_
  have key : ∀ v : Value, (v = .null ∨ ∃ t, v = .ref t) → va_Z "jdk/internal/util/Preconditions" "SIOOBE_FORMATTER" "Ljava/util/function/BiFunction;" v (fr E) s s.heap → W p l e { frames := 1, cells := 0, slots := 0, locals := 30 } s m args below meth c s.heap [] 0 0 (MQ below (QC E none n z M) args s 0 0 (fr E)) (F0 m (0 + 1 + 1) ls [i3 b, i3 a]) := by
    intro v hv hZ
    refine va_gets C.hx C.hb hZ hH.2 C.ho (C.ht _ FJ_1053) (fun _ h => h) dJ0_checkIndex_df160_2 ?_
    refine w_callS (rest := []) (mc := 0) (ms := 0) C hH hl (m_J_pre (v := v) h hv) (Nat.le_refl n) ML_RJ0_1059 MF_J3_checkIndex_8e157 MS_J3_checkIndex_8e157 rfl rfl (Nat.le_of_ble_eq_true rfl) ⟨Nat.le_of_ble_eq_true rfl, Nat.le_of_ble_eq_true rfl⟩ ⟨Nat.le_refl _, Nat.le_refl _⟩ dJ0_checkIndex_df160_5 (fun H locs hH => ?_)
    refine lv_pop (va := i3 a) C.hx C.hb dJ0_checkIndex_df160_8 rfl ?_
    exact w_vret C hH dJ0_checkIndex_df160_9
  rcases C.kF with h0 | ⟨t, h0⟩
  · exact key _ (Or.inl rfl) h0
  · exact key _ (Or.inr ⟨t, rfl⟩) h0
theorem m_J_lchar {E : EE} {l : Launch} {n : Nat} {z : Zs} {M : Mem} {j : Nat} {i : Int} (hj : j < 16) (hi : 0 ≤ i ∧ i < sln j) : CT E l yJ1_charAt_3b067 cJ1_charAt_3b067 2 (some .char) 2 60 0 0 [.ref (eV E j), i3 i] n z M (some (i3 (sch j i))) n z M := by
  refine CT_of PN_J1 (Nat.le_of_ble_eq_true rfl) ?_
  intro p e s m args below meth c C hH ls hl
  have hl : lv_has ls 2 [(0, .ref (eV E j)), (1, i3 i)] := hl
  have hb := sln_lt j hj
  have hi2 : i < ((sLen.getD j 0 : Nat) : Int) := hi.2
  refine lv_iload_n C.hx C.hb dJ1_charAt_3b067_0 rfl (lv_at hl 1 rfl) ?_
  refine lv_aload_n C.hx C.hb dJ1_charAt_3b067_1 rfl (lv_at hl 0 rfl) ?_
  refine va_tlen (v := Int32.ofInt (sln j)) C.hx C.hb (C.kS.1 j hj).2.2.2 hH.2 rfl dJ1_charAt_3b067_2 ?_
  refine w_callS (rest := []) (mc := 0) (ms := 0) C hH hl (m_J_check (a := i) (b := sln j) ⟨hi.1, hi.2, by unfold sln; omega⟩) (Nat.le_refl n) ML_RJ1_9 MF_J0_checkIndex_df160 MS_J0_checkIndex_df160 rfl rfl (Nat.le_of_ble_eq_true rfl) ⟨Nat.le_of_ble_eq_true rfl, Nat.le_of_ble_eq_true rfl⟩ ⟨Nat.le_refl _, Nat.le_refl _⟩ dJ1_charAt_3b067_3 (fun H locs hH => ?_)
  refine lv_aload_n (rest := []) C.hx C.hb dJ1_charAt_3b067_6 rfl (lv_at hl 0 rfl) ?_
  refine lv_iload_n C.hx C.hb dJ1_charAt_3b067_7 rfl (lv_at hl 1 rfl) ?_
  refine va_tb (v := .int ((sByt.getD j []).getD i.toNat 0)) C.hx C.hb (C.kS.1 j hj).2.2.2 hH.2 (r3_in hi.1 hi2 (by omega)) (by rw [r3_nat hi.1 hi2 (by omega)]) dJ1_charAt_3b067_8 ?_
  refine lv_sipush (v := Int32.ofInt 255) C.hx C.hb dJ1_charAt_3b067_9 (by decide) ?_
  refine lv_iand C.hx C.hb dJ1_charAt_3b067_12 ?_
  have hs := sch_ok j hj i.toNat (by omega)
  refine lv_i2c (v := Int32.ofInt (sch j i)) C.hx C.hb dJ1_charAt_3b067_13 hs.1 ?_
  exact W.zret C.hx C.hb C.hr hs.2 (fun t ht _ => ⟨rfl, by rw [ht]; exact hH.1⟩) hH.2.2.2 dJ1_charAt_3b067_14 C.hk
theorem m_J_char {E : EE} {l : Launch} {n : Nat} {z : Zs} {M : Mem} {j : Nat} {i : Int} (hj : j < 16) (hi : 0 ≤ i ∧ i < sln j) : CT E l yJ0_charAt_5068e cJ0_charAt_5068e 2 (some .char) 3 90 0 0 [.ref (eK E j), i3 i] n z M (some (i3 (sch j i))) n z M := by
  refine CT_of PN_J0 (Nat.le_of_ble_eq_true rfl) ?_
  intro p e s m args below meth c C hH ls hl
  have hl : lv_has ls 2 [(0, .ref (eK E j)), (1, i3 i)] := hl
  have hi2 : i < ((sLen.getD j 0 : Nat) : Int) := hi.2
  refine lv_aload_n C.hx C.hb dJ0_charAt_5068e_0 rfl (lv_at hl 0 rfl) ?_
  refine r_callK (rest := []) C hH hl hj rfl (m_J_isLatin1 hj) ML_RJ0_492 MF_J0_isLatin1_aae02 MI_J0_isLatin1_aae02 rfl rfl (Nat.le_of_ble_eq_true rfl) ⟨Nat.le_of_ble_eq_true rfl, Nat.le_of_ble_eq_true rfl⟩ ⟨Nat.le_refl _, Nat.le_refl _⟩ dJ0_charAt_5068e_1 (fun H locs hH => ?_)
  refine lv_if_eq (tgt := 16) C.hx C.hb dJ0_charAt_5068e_4 (by decide) (fun q => absurd q (by decide)) (fun _ => ?_)
  refine lv_aload_n C.hx C.hb dJ0_charAt_5068e_7 rfl (lv_at hl 0 rfl) ?_
  refine vk_getf C.hx C.hb (C.kS.1 j hj).2.2.1 hH.2 C.ho (C.ht _ FJ_9) (fun _ h => h) dJ0_charAt_5068e_8 ?_
  refine lv_iload_n C.hx C.hb dJ0_charAt_5068e_11 rfl (lv_at hl 1 rfl) ?_
  refine w_callS (rest := []) (mc := 0) (ms := 0) C hH hl (m_J_lchar hj hi) (Nat.le_refl n) ML_RJ0_495 MF_J1_charAt_3b067 MS_J1_charAt_3b067 rfl rfl (Nat.le_of_ble_eq_true rfl) ⟨Nat.le_of_ble_eq_true rfl, Nat.le_of_ble_eq_true rfl⟩ ⟨Nat.le_refl _, Nat.le_refl _⟩ dJ0_charAt_5068e_12 (fun H locs hH => ?_)
  have hs := sch_ok j hj i.toNat (by omega)
  exact W.zret C.hx C.hb C.hr hs.2 (fun t ht _ => ⟨rfl, by rw [ht]; exact hH.1⟩) hH.2.2.2 dJ0_charAt_5068e_15 C.hk
section STR3
variable {p : Program} {l : Launch} {e : Env} {R : Room} {s : State} {m : MethodId} {args : Array Value} {below : List Frame} {meth : Method} {c : Code} {H : Heap} {locs : List Loc} {cells slots : Nat} {Q : State → Prop}
variable {cc : ByteArray} {nL : Nat} {own nm0 : String} {ret : Option FieldType} {n0 : Nat} {E : EE} {n : Nat} {z : Zs} {M : Mem} {pc : Nat} {ls : Array Slot} {rest : List Value} {idx : Nat}
theorem r_slen (C : Cx E p s m args meth c cc nL own ret n0 nm0) (hH : ST E s n z M H locs) {nv : List (Nat × Value)} (hlv : lv_has ls nL nv) {j : Nat} (hj : j < 16) (hl : Cond.methodLink own idx yJ0_length_8abf5 ∈ tblG) (hR : 2 ≤ R.frames ∧ 50 ≤ R.locals) (hcs : cells ≤ R.cells ∧ slots ≤ R.slots) (hro : (rest.map fun v => v.category).sum ≤ 8) (hd : decode cc pc = .ok (.invokevirtual idx, 3))
    (kk : ∀ (H1 : Heap) (locs1 : List Loc), ST E s n z M H1 locs1 → W p l e R s m args below meth c H1 locs1 cells slots Q (F0 m (pc + 3) ls (i3 (sln j) :: rest))) : W p l e R s m args below meth c H locs cells slots Q (F0 m pc ls (.ref (eK E j) :: rest)) :=
  r_callK C hH hlv hj rfl (m_J_length hj) hl MF_J0_length_8abf5 MI_J0_length_8abf5 rfl rfl hro ⟨hR.1, hR.2⟩ hcs hd kk
theorem r_schr (C : Cx E p s m args meth c cc nL own ret n0 nm0) (hH : ST E s n z M H locs) {nv : List (Nat × Value)} (hlv : lv_has ls nL nv) {j : Nat} {i : Int} (hj : j < 16) (hi : 0 ≤ i ∧ i < sln j) (hl : Cond.methodLink own idx yJ0_charAt_5068e ∈ tblG) (hR : 4 ≤ R.frames ∧ 111 ≤ R.locals) (hcs : cells ≤ R.cells ∧ slots ≤ R.slots) (hro : (rest.map fun v => v.category).sum ≤ 8) (hd : decode cc pc = .ok (.invokevirtual idx, 3))
    (kk : ∀ (H1 : Heap) (locs1 : List Loc), ST E s n z M H1 locs1 → W p l e R s m args below meth c H1 locs1 cells slots Q (F0 m (pc + 3) ls (i3 (sch j i) :: rest))) : W p l e R s m args below meth c H locs cells slots Q (F0 m pc ls (i3 i :: .ref (eK E j) :: rest)) :=
  r_callK C hH hlv hj rfl (m_J_char hj hi) hl MF_J0_charAt_5068e MI_J0_charAt_5068e rfl rfl hro ⟨hR.1, hR.2⟩ hcs hd kk
end STR3
